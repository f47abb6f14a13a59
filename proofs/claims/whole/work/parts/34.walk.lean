theorem cw_X0_put : Cond.code yX0_put cX0_put 3 (some .int) ∈ tb := tb_of 1359 (by decide +kernel) (by decide +kernel)
theorem mw_X0_put : MW yX0_put cX0_put 3 (some .int) 1 := ⟨cw_X0_put, ini_X0, by decide +kernel⟩
theorem im_X0_put : Cond.instanceMethod yX0_put ∈ tb := tb_of 1357 (by decide +kernel) (by decide +kernel)
theorem se_X0_put : Cond.selects (yX0_put).cls yX0_put yX0_put ∈ tb := tb_of 1358 (by decide +kernel) (by decide +kernel)
theorem ml_X9_153 : Cond.methodLink RX9 153 yX0_put ∈ tb := tb_of 1356 (by decide +kernel) (by decide +kernel)
theorem cw_X0_jumps : Cond.code yX0_jumps cX0_jumps 2 (some .boolean) ∈ tb := tb_of 1365 (by decide +kernel) (by decide +kernel)
theorem mw_X0_jumps : MW yX0_jumps cX0_jumps 2 (some .boolean) 1 := ⟨cw_X0_jumps, ini_X0, by decide +kernel⟩
theorem im_X0_jumps : Cond.instanceMethod yX0_jumps ∈ tb := tb_of 1363 (by decide +kernel) (by decide +kernel)
theorem se_X0_jumps : Cond.selects (yX0_jumps).cls yX0_jumps yX0_jumps ∈ tb := tb_of 1364 (by decide +kernel) (by decide +kernel)
theorem ml_X9_156 : Cond.methodLink RX9 156 yX0_jumps ∈ tb := tb_of 1362 (by decide +kernel) (by decide +kernel)
theorem fl_X9_165 : Cond.fieldLink RX9 165 RX9 (TX9 9).2.1 (TX9 9).2.2.1 ∈ tb := tb_of 360 (by decide +kernel) (by decide +kernel)
theorem gf_X9_9 : FI 9 RX9 TX9 13 tyX9 9 1 := ⟨rfl, inb_X9, tyX9_ok, nmX9, by decide, by decide, rfl, rfl, rfl⟩
theorem pf_X9_9 : PI 9 RX9 TX9 13 tyX9 9 1 .long := ⟨gf_X9_9, rfl, rfl⟩
theorem ml_X9_162 : Cond.methodLink RX9 162 yX2_shade ∈ tb := tb_of 1410 (by decide +kernel) (by decide +kernel)
theorem fl_X9_30 : Cond.fieldLink RX9 30 RX9 (TX9 8).2.1 (TX9 8).2.2.1 ∈ tb := tb_of 359 (by decide +kernel) (by decide +kernel)
theorem gf_X9_8 : FI 9 RX9 TX9 13 tyX9 8 3 := ⟨rfl, inb_X9, tyX9_ok, nmX9, by decide, by decide, rfl, rfl, rfl⟩
theorem lk_107_8 : lks 107 8 = some 180 := by decide +kernel
theorem kq_180 {nu c u : Nat} {K : Nat → Nat} : (Ax nu K c u).1 180 = 14 := kd_lt (K := K) (a := 180) (by decide) rfl
theorem lq_180 {nu c u : Nat} {K : Nat → Nat} : (Ax nu K c u).2.1 180 = 56 := rfl
theorem nl_X9_138 : (RX9, 138, yX11_bit) ∈ nestl := by decide +kernel
theorem pf_X9_5 : PI 9 RX9 TX9 13 tyX9 5 1 .long := ⟨gf_X9_5, rfl, rfl⟩
theorem nl_X9_144 : (RX9, 144, yX11_least) ∈ nestl := by decide +kernel
theorem cw_X0_nexts : Cond.code yX0_nexts cX0_nexts 6 (some .long) ∈ tb := tb_of 1369 (by decide +kernel) (by decide +kernel)
theorem mw_X0_nexts : MW yX0_nexts cX0_nexts 6 (some .long) 1 := ⟨cw_X0_nexts, ini_X0, by decide +kernel⟩
theorem im_X0_nexts : Cond.instanceMethod yX0_nexts ∈ tb := tb_of 1367 (by decide +kernel) (by decide +kernel)
theorem se_X0_nexts : Cond.selects (yX0_nexts).cls yX0_nexts yX0_nexts ∈ tb := tb_of 1368 (by decide +kernel) (by decide +kernel)
theorem ml_X9_159 : Cond.methodLink RX9 159 yX0_nexts ∈ tb := tb_of 1366 (by decide +kernel) (by decide +kernel)
theorem cw_X9_flowFits : Cond.code yX9_flowFits cX9_flowFits 4 (some .boolean) ∈ tb := tb_of 1456 (by decide +kernel) (by decide +kernel)
theorem mw_X9_flowFits : MW yX9_flowFits cX9_flowFits 4 (some .boolean) 1 := ⟨cw_X9_flowFits, ini_X9, by decide +kernel⟩
theorem im_X9_flowFits : Cond.instanceMethod yX9_flowFits ∈ tb := tb_of 1455 (by decide +kernel) (by decide +kernel)
theorem se_X9_flowFits : Cond.selects (yX9_flowFits).cls yX9_flowFits yX9_flowFits ∈ tb := tb_of 69 (by decide +kernel) (by decide +kernel)
theorem ml_X9_194 : Cond.methodLink RX9 194 yX9_flowFits ∈ tb := tb_of 1453 (by decide +kernel) (by decide +kernel)
theorem cw_X2_unfitPair : Cond.code yX2_unfitPair cX2_unfitPair 5 (some .int) ∈ tb := tb_of 693 (by decide +kernel) (by decide +kernel)
theorem mw_X2_unfitPair : MW yX2_unfitPair cX2_unfitPair 5 (some .int) 0 := ⟨cw_X2_unfitPair, ini_X2, by decide +kernel⟩
theorem im_X2_unfitPair : Cond.instanceMethod yX2_unfitPair ∈ tb := tb_of 691 (by decide +kernel) (by decide +kernel)
theorem se_X2_unfitPair : Cond.selects (yX2_unfitPair).cls yX2_unfitPair yX2_unfitPair ∈ tb := tb_of 692 (by decide +kernel) (by decide +kernel)
theorem ml_X11_132 : Cond.methodLink RX11 132 yX2_unfitPair ∈ tb := tb_of 690 (by decide +kernel) (by decide +kernel)
theorem cw_X11_tell : Cond.code yX11_tell cX11_tell 3 none ∈ tb := tb_of 713 (by decide +kernel) (by decide +kernel)
theorem mw_X11_tell : MW yX11_tell cX11_tell 3 none 2 := ⟨cw_X11_tell, ini_X11, by decide +kernel⟩
theorem im_X11_tell : Cond.instanceMethod yX11_tell ∈ tb := tb_of 712 (by decide +kernel) (by decide +kernel)
theorem se_X11_tell : Cond.selects (yX11_tell).cls yX11_tell yX11_tell ∈ tb := tb_of 4 (by decide +kernel) (by decide +kernel)
theorem ml_X11_135 : Cond.methodLink RX11 135 yX11_tell ∈ tb := tb_of 710 (by decide +kernel) (by decide +kernel)
theorem cw_X2_close : Cond.code yX2_close cX2_close 2 none ∈ tb := tb_of 732 (by decide +kernel) (by decide +kernel)
theorem mw_X2_close : MW yX2_close cX2_close 2 none 0 := ⟨cw_X2_close, ini_X2, by decide +kernel⟩
theorem im_X2_close : Cond.instanceMethod yX2_close ∈ tb := tb_of 730 (by decide +kernel) (by decide +kernel)
theorem se_X2_close : Cond.selects (yX2_close).cls yX2_close yX2_close ∈ tb := tb_of 731 (by decide +kernel) (by decide +kernel)
theorem ml_X11_141 : Cond.methodLink RX11 141 yX2_close ∈ tb := tb_of 729 (by decide +kernel) (by decide +kernel)
theorem cw_X2_bottom : Cond.code yX2_bottom cX2_bottom 1 (some .int) ∈ tb := tb_of 736 (by decide +kernel) (by decide +kernel)
theorem mw_X2_bottom : MW yX2_bottom cX2_bottom 1 (some .int) 0 := ⟨cw_X2_bottom, ini_X2, by decide +kernel⟩
theorem im_X2_bottom : Cond.instanceMethod yX2_bottom ∈ tb := tb_of 734 (by decide +kernel) (by decide +kernel)
theorem se_X2_bottom : Cond.selects (yX2_bottom).cls yX2_bottom yX2_bottom ∈ tb := tb_of 735 (by decide +kernel) (by decide +kernel)
theorem ml_X11_144 : Cond.methodLink RX11 144 yX2_bottom ∈ tb := tb_of 733 (by decide +kernel) (by decide +kernel)
theorem tw_X11_138_140 : TW RX11 138 140 "java/lang/UnsupportedOperationException" := ⟨by decide +kernel, tb_of 714 (by decide +kernel) (by decide +kernel), tb_of 180 (by decide +kernel) (by decide +kernel), by decide +kernel, by decide +kernel, by decide +kernel⟩
theorem ml_X11_158 : Cond.methodLink RX11 158 yX2_meet ∈ tb := tb_of 749 (by decide +kernel) (by decide +kernel)
theorem ml_X11_155 : Cond.methodLink RX11 155 yX2_join ∈ tb := tb_of 748 (by decide +kernel) (by decide +kernel)
theorem ml_X11_147 : Cond.methodLink RX11 147 yX2_leads ∈ tb := tb_of 744 (by decide +kernel) (by decide +kernel)
theorem ml_X11_151 : Cond.methodLink RX11 151 yX11_asNumber ∈ tb := tb_of 745 (by decide +kernel) (by decide +kernel)
def f_X9_heightFits_b37 (N : Nat) (x1 : Int32) (D : Dat) : Option (Int32 × Dat) :=
  (f_X9_refuse x1 3 D).bind (fun p1 => if p1.1 &&& 1 = p1.1 then some (p1.1, p1.2) else none)
set_option maxHeartbeats 4000000 in
theorem w_X9_heightFits_b37 {X : Cx} {n nu c u : Nat} {K : Nat → Nat} {N : Nat} {z : Int32 × Dat} (O : Ok X cX9_heightFits RX9 (some .boolean) 3 67) (hm : wlm (xw X) = true) (hn : xn X = 8) (hz : Z0 X (Ax nu K c u)) (x1 : Int32) (D : Dat) (h : f_X9_heightFits_b37 N x1 D = some z) : V X (Q0 X n (Ax nu K c u) (some (.int z.1)) z.2) n (Ax nu K c u) D 37 [(0, .ref (bo X + pp 107)), (1, .int x1)] [] := by
  unfold f_X9_heightFits_b37 at h
  refine v_aload_n (pc := 37) O dX9_heightFits_37 0 rfl ?_
  refine v_iload_n (pc := 38) O dX9_heightFits_38 1 rfl ?_
  refine v_iconst (pc := 39) O dX9_heightFits_39 ic_3 ?_
  obtain ⟨p1, e2, h⟩ := bind_some h
  refine v_callV (pc := 40) (a := 107) (As := [.int x1, .int 3]) (rest := []) (r := (some (.int p1.1))) (D' := p1.2) O (bb0 hz) (c_X9_refuse hm e2) mw_X9_refuse im_X9_refuse se_X9_refuse ml_X9_125 kq_107 (by decide) rfl rfl rfl (by decide) (by decide) (Nat.le_of_ble_eq_true rfl) dX9_heightFits_40 rfl rfl ?_
  obtain ⟨c3, h⟩ := if_none h
  obtain rfl := Option.some.inj h
  exact v_zret (pc := 43) O hz (congrArg Value.int c3) dX9_heightFits_43
def f_X9_heightFits_b137 (N : Nat) (rec_79 : Int32 → Int32 → Int64 → Int32 → Dat → Option (Int32 × Dat)) (x1 : Int32) (x3 : Int32) (x4 : Int64) (x6 : Int32) (x7 : Int32) (D : Dat) : Option (Int32 × Dat) :=
  if x7 < 0 ∨ 64 ≤ (x7).toNatClampNeg then none else ((f_X11_bit x7 (sI D 113 (x7).toNatClampNeg x3)).bind (fun p5 => rec_79 x1 x3 x4 (x6 + 1) (sL p5.2 107 5 ((dL (sI D 113 (x7).toNatClampNeg x3) 107 5) ||| p5.1))))
set_option maxHeartbeats 4000000 in
theorem w_X9_heightFits_b137 {X : Cx} {n nu c u : Nat} {K : Nat → Nat} {N : Nat} {rec_79 : Int32 → Int32 → Int64 → Int32 → Dat → Option (Int32 × Dat)} {z : Int32 × Dat} (O : Ok X cX9_heightFits RX9 (some .boolean) 3 67) (hm : wlm (xw X) = true) (hn : xn X = 8) (hz : Z0 X (Ax nu K c u)) (hrec_79 : ∀ (x1 : Int32) (x3 : Int32) (x4 : Int64) (x6 : Int32) (D : Dat), rec_79 x1 x3 x4 x6 D = some z → V X (Q0 X n (Ax nu K c u) (some (.int z.1)) z.2) n (Ax nu K c u) D 79 [(0, .ref (bo X + pp 107)), (1, .int x1), (3, .int x3), (4, .long x4), (6, .int x6)] []) (x1 : Int32) (x3 : Int32) (x4 : Int64) (x6 : Int32) (x7 : Int32) (D : Dat) (h : f_X9_heightFits_b137 N rec_79 x1 x3 x4 x6 x7 D = some z) : V X (Q0 X n (Ax nu K c u) (some (.int z.1)) z.2) n (Ax nu K c u) D 137 [(0, .ref (bo X + pp 107)), (1, .int x1), (3, .int x3), (4, .long x4), (6, .int x6), (7, .int x7)] [] := by
  unfold f_X9_heightFits_b137 at h
  refine v_aload_n (pc := 137) O dX9_heightFits_137 0 rfl ?_
  refine v_getK (pc := 138) (a := 107) O hm gf_X9_4 fl_X9_18 kq_107 lk_107_4 dX9_heightFits_138 ?_
  refine v_iload (pc := 141) O dX9_heightFits_141 5 rfl ?_
  refine v_iload_n (pc := 143) O dX9_heightFits_143 2 rfl ?_
  obtain ⟨c4, h⟩ := or_none h
  refine v_iast (pc := 144) (a := 113) O kq_113 (inq lq_113 c4) dX9_heightFits_144 ?_
  refine v_aload_n (pc := 145) O dX9_heightFits_145 0 rfl ?_
  refine v_dup (pc := 146) O dX9_heightFits_146 rfl ?_
  refine v_getL (pc := 147) (a := 107) O gf_X9_5 fl_X9_48 kq_107 dX9_heightFits_147 ?_
  refine v_iload (pc := 150) O dX9_heightFits_150 5 rfl ?_
  obtain ⟨p5, e6, h⟩ := bind_some h
  refine v_callN (pc := 152) (As := [.int x7]) (rest := [.long (dL (sI D 113 (x7).toNatClampNeg x3) 107 5), .ref (bo X + pp 107)]) (r := (some (.long p5.1))) (D' := p5.2) O (bb0 hz) (c_X11_bit hm e6) mw_X11_bit sm_X11_bit nl_X9_138 rfl (by decide) (by decide) (Nat.le_of_ble_eq_true rfl) dX9_heightFits_152 rfl rfl ?_
  refine v_lor (pc := 155) O dX9_heightFits_155 ?_
  refine v_putL (pc := 156) (a := 107) O pf_X9_5 fl_X9_48 kq_107 dX9_heightFits_156 ?_
  refine v_iinc (pc := 159) (lv' := [(6, .int (x6 + 1)), (0, .ref (bo X + pp 107)), (1, .int x1), (3, .int x3), (4, .long x4), (7, .int x7)]) O dX9_heightFits_159 4 rfl (congrArg (fun q => x6 + q) ic_1) (by rw [hn]; decide) rfl ?_
  refine v_goto (pc := 162) 79 O dX9_heightFits_162 (by decide) ?_
  refine v_sub [1, 2, 3, 4, 0] rfl ?_
  exact hrec_79 x1 x3 x4 (x6 + 1) (sL p5.2 107 5 ((dL (sI D 113 (x7).toNatClampNeg x3) 107 5) ||| p5.1)) h
def f_X9_heightFits_b165 (N : Nat) (D : Dat) : Option (Int32 × Dat) :=
  some (1, D)
set_option maxHeartbeats 4000000 in
theorem w_X9_heightFits_b165 {X : Cx} {n nu c u : Nat} {K : Nat → Nat} {N : Nat} {z : Int32 × Dat} (O : Ok X cX9_heightFits RX9 (some .boolean) 3 67) (hm : wlm (xw X) = true) (hn : xn X = 8) (hz : Z0 X (Ax nu K c u)) (D : Dat) (h : f_X9_heightFits_b165 N D = some z) : V X (Q0 X n (Ax nu K c u) (some (.int z.1)) z.2) n (Ax nu K c u) D 165 [] [] := by
  unfold f_X9_heightFits_b165 at h
  refine v_iconst (pc := 165) O dX9_heightFits_165 ic_1 ?_
  obtain rfl := Option.some.inj h
  exact v_zret (pc := 166) O hz narrow_b1 dX9_heightFits_166
def f_X9_heightFits_b79 (N : Nat) : Nat → Int32 → Int32 → Int64 → Int32 → Dat → Option (Int32 × Dat)
  | 0, _, _, _, _, _ => none
  | g + 1, x1, x3, x4, x6, D => if 2 ≤ x6 then (f_X9_heightFits_b165 N D) else (if (lg_cmp x4 (0 : Int64)) = 0 then (f_X9_heightFits_b165 N D) else ((f_X11_least x4 D).bind (fun p9 => if p9.1 < 0 ∨ 64 ≤ (p9.1).toNatClampNeg then none else (if (dI p9.2 113 (p9.1).toNatClampNeg) = (-1) then (f_X9_heightFits_b137 N (f_X9_heightFits_b79 N g) x1 x3 (x4 &&& (x4 - (1 : Int64))) x6 p9.1 p9.2) else (if p9.1 < 0 ∨ 64 ≤ (p9.1).toNatClampNeg then none else (if (dI p9.2 113 (p9.1).toNatClampNeg) = x3 then (f_X9_heightFits_b137 N (f_X9_heightFits_b79 N g) x1 x3 (x4 &&& (x4 - (1 : Int64))) x6 p9.1 p9.2) else ((f_X9_refuse x1 5 p9.2).bind (fun p15 => if p15.1 &&& 1 = p15.1 then some (p15.1, p15.2) else none))))))))
set_option maxHeartbeats 4000000 in
theorem w_X9_heightFits_b79 {X : Cx} {n nu c u : Nat} {K : Nat → Nat} {N : Nat} {z : Int32 × Dat} (O : Ok X cX9_heightFits RX9 (some .boolean) 3 67) (hm : wlm (xw X) = true) (hn : xn X = 8) (hz : Z0 X (Ax nu K c u)) : ∀ (g : Nat) (x1 : Int32) (x3 : Int32) (x4 : Int64) (x6 : Int32) (D : Dat), f_X9_heightFits_b79 N g x1 x3 x4 x6 D = some z → V X (Q0 X n (Ax nu K c u) (some (.int z.1)) z.2) n (Ax nu K c u) D 79 [(0, .ref (bo X + pp 107)), (1, .int x1), (3, .int x3), (4, .long x4), (6, .int x6)] [] := by
  intro g
  induction g with
  | zero => intro x1 x3 x4 x6 D h; exact absurd h (by simp [f_X9_heightFits_b79])
  | succ g ih =>
    intro x1 x3 x4 x6 D h
    rw [f_X9_heightFits_b79] at h
    refine v_iload (pc := 79) O dX9_heightFits_79 4 rfl ?_
    refine v_iconst (pc := 81) O dX9_heightFits_81 ic_2 ?_
    refine v_icmpge (pc := 82) 165 O dX9_heightFits_82 (by decide) (fun c7 => ?_) (fun c7 => ?_)
    · have h := (if_pos c7).symm.trans h
      refine v_sub [] rfl ?_
      exact w_X9_heightFits_b165 O hm hn hz D h
    · have h := (if_neg c7).symm.trans h
      refine v_lload (pc := 85) O dX9_heightFits_85 3 rfl ?_
      refine v_lconst (pc := 87) (v := 0) O dX9_heightFits_87 rfl ?_
      refine v_lcmp (pc := 88) O dX9_heightFits_88 ?_
      refine v_ifeq (pc := 89) 165 O dX9_heightFits_89 (by decide) (fun c8 => ?_) (fun c8 => ?_)
      · have h := (if_pos c8).symm.trans h
        refine v_sub [] rfl ?_
        exact w_X9_heightFits_b165 O hm hn hz D h
      · have h := (if_neg c8).symm.trans h
        refine v_lload (pc := 92) O dX9_heightFits_92 3 rfl ?_
        obtain ⟨p9, e10, h⟩ := bind_some h
        refine v_callN (pc := 94) (As := [.long x4]) (rest := []) (r := (some (.int p9.1))) (D' := p9.2) O (bb0 hz) (c_X11_least hm e10) mw_X11_least sm_X11_least nl_X9_144 rfl (by decide) (by decide) (Nat.le_of_ble_eq_true rfl) dX9_heightFits_94 rfl rfl ?_
        refine v_istore (pc := 97) (lv' := [(7, .int p9.1), (0, .ref (bo X + pp 107)), (1, .int x1), (3, .int x3), (4, .long x4), (6, .int x6)]) O dX9_heightFits_97 (by rw [hn]; decide) rfl ?_
        refine v_lload (pc := 99) O dX9_heightFits_99 4 rfl ?_
        refine v_lload (pc := 101) O dX9_heightFits_101 4 rfl ?_
        refine v_lconst (pc := 103) (v := 1) O dX9_heightFits_103 rfl ?_
        refine v_lsub (pc := 104) O dX9_heightFits_104 ?_
        refine v_land (pc := 105) O dX9_heightFits_105 ?_
        refine v_lstore (pc := 106) (lv' := [(4, .long (x4 &&& (x4 - (1 : Int64)))), (7, .int p9.1), (0, .ref (bo X + pp 107)), (1, .int x1), (3, .int x3), (6, .int x6)]) O dX9_heightFits_106 (by rw [hn]; decide) rfl ?_
        refine v_aload_n (pc := 108) O dX9_heightFits_108 2 rfl ?_
        refine v_getK (pc := 109) (a := 107) O hm gf_X9_4 fl_X9_18 kq_107 lk_107_4 dX9_heightFits_109 ?_
        refine v_iload (pc := 112) O dX9_heightFits_112 1 rfl ?_
        obtain ⟨c11, h⟩ := or_none h
        refine v_iald (pc := 114) (a := 113) O kq_113 (inq lq_113 c11) dX9_heightFits_114 ?_
        refine v_iconst (pc := 115) O dX9_heightFits_115 ic_m1 ?_
        refine v_icmpeq (pc := 116) 137 O dX9_heightFits_116 (by decide) (fun c12 => ?_) (fun c12 => ?_)
        · have h := (if_pos c12).symm.trans h
          refine v_sub [2, 3, 4, 0, 5, 1] rfl ?_
          exact w_X9_heightFits_b137 O hm hn hz ih x1 x3 (x4 &&& (x4 - (1 : Int64))) x6 p9.1 p9.2 h
        · have h := (if_neg c12).symm.trans h
          refine v_aload_n (pc := 119) O dX9_heightFits_119 2 rfl ?_
          refine v_getK (pc := 120) (a := 107) O hm gf_X9_4 fl_X9_18 kq_107 lk_107_4 dX9_heightFits_120 ?_
          refine v_iload (pc := 123) O dX9_heightFits_123 1 rfl ?_
          obtain ⟨c13, h⟩ := or_none h
          refine v_iald (pc := 125) (a := 113) O kq_113 (inq lq_113 c13) dX9_heightFits_125 ?_
          refine v_iload_n (pc := 126) O dX9_heightFits_126 4 rfl ?_
          refine v_icmpeq (pc := 127) 137 O dX9_heightFits_127 (by decide) (fun c14 => ?_) (fun c14 => ?_)
          · have h := (if_pos c14).symm.trans h
            refine v_sub [2, 3, 4, 0, 5, 1] rfl ?_
            exact w_X9_heightFits_b137 O hm hn hz ih x1 x3 (x4 &&& (x4 - (1 : Int64))) x6 p9.1 p9.2 h
          · have h := (if_neg c14).symm.trans h
            refine v_aload_n (pc := 130) O dX9_heightFits_130 2 rfl ?_
            refine v_iload_n (pc := 131) O dX9_heightFits_131 3 rfl ?_
            refine v_iconst (pc := 132) O dX9_heightFits_132 ic_5 ?_
            obtain ⟨p15, e16, h⟩ := bind_some h
            refine v_callV (pc := 133) (a := 107) (As := [.int x1, .int 5]) (rest := []) (r := (some (.int p15.1))) (D' := p15.2) O (bb0 hz) (c_X9_refuse hm e16) mw_X9_refuse im_X9_refuse se_X9_refuse ml_X9_125 kq_107 (by decide) rfl rfl rfl (by decide) (by decide) (Nat.le_of_ble_eq_true rfl) dX9_heightFits_133 rfl rfl ?_
            obtain ⟨c17, h⟩ := if_none h
            obtain rfl := Option.some.inj h
            exact v_zret (pc := 136) O hz (congrArg Value.int c17) dX9_heightFits_136
def f_X9_heightFits_b66 (N : Nat) (x1 : Int32) (x3 : Int32) (D : Dat) : Option (Int32 × Dat) :=
  ((dR D 107 2)).bind (fun a18 => if a18 = 201 ∨ a18 = 204 then ((f_X0_nexts a18 x1 D).bind (fun p21 => f_X9_heightFits_b79 N N x1 x3 p21.1 0 p21.2)) else none)
set_option maxHeartbeats 4000000 in
theorem w_X9_heightFits_b66 {X : Cx} {n nu c u : Nat} {K : Nat → Nat} {N : Nat} {z : Int32 × Dat} (O : Ok X cX9_heightFits RX9 (some .boolean) 3 67) (hm : wlm (xw X) = true) (hn : xn X = 8) (hz : Z0 X (Ax nu K c u)) (x1 : Int32) (x3 : Int32) (D : Dat) (h : f_X9_heightFits_b66 N x1 x3 D = some z) : V X (Q0 X n (Ax nu K c u) (some (.int z.1)) z.2) n (Ax nu K c u) D 66 [(0, .ref (bo X + pp 107)), (1, .int x1), (3, .int x3)] [] := by
  unfold f_X9_heightFits_b66 at h
  refine v_aload_n (pc := 66) O dX9_heightFits_66 0 rfl ?_
  refine v_getR (pc := 67) (a := 107) O gf_X9_2 fl_X9_83 kq_107 dX9_heightFits_67 ?_
  refine v_iload_n (pc := 70) O dX9_heightFits_70 1 rfl ?_
  obtain ⟨a18, e19, h⟩ := bind_some h
  rw [e19]
  obtain ⟨c20, h⟩ := if_none h
  obtain ⟨p21, e22, h⟩ := bind_some h
  refine v_callV (pc := 71) (a := a18) (As := [.int x1]) (rest := []) (r := (some (.long p21.1))) (D' := p21.2) O (bb0 hz) (c_X0_nexts hm c20 e22) mw_X0_nexts im_X0_nexts se_X0_nexts ml_X9_159 (kt_X0 c20) (by decide) rfl rfl rfl (by decide) (by decide) (Nat.le_of_ble_eq_true rfl) dX9_heightFits_71 rfl rfl ?_
  refine v_lstore (pc := 74) (lv' := [(4, .long p21.1), (0, .ref (bo X + pp 107)), (1, .int x1), (3, .int x3)]) O dX9_heightFits_74 (by rw [hn]; decide) rfl ?_
  refine v_iconst (pc := 76) O dX9_heightFits_76 ic_0 ?_
  refine v_istore (pc := 77) (lv' := [(6, .int 0), (4, .long p21.1), (0, .ref (bo X + pp 107)), (1, .int x1), (3, .int x3)]) O dX9_heightFits_77 (by rw [hn]; decide) rfl ?_
  refine v_sub [2, 3, 4, 1, 0] rfl ?_
  exact w_X9_heightFits_b79 O hm hn hz N x1 x3 p21.1 0 p21.2 h
def f_X9_heightFits (N : Nat) (x1 : Int32) (D : Dat) : Option (Int32 × Dat) :=
  if x1 < 0 ∨ 64 ≤ (x1).toNatClampNeg then none else (((dR D 107 2)).bind (fun a24 => if a24 = 201 ∨ a24 = 204 then ((f_X0_taken a24 x1 D).bind (fun p27 => ((dR p27.2 107 2)).bind (fun a29 => if a29 = 201 ∨ a29 = 204 then ((f_X0_put a29 x1 p27.2).bind (fun p32 => if ((dI D 113 (x1).toNatClampNeg) - p27.1) < 0 then (f_X9_heightFits_b37 N x1 p32.2) else (if (((dI D 113 (x1).toNatClampNeg) - p27.1) + p32.1) ≤ 30 then (((dR p32.2 107 2)).bind (fun a36 => if a36 = 201 ∨ a36 = 204 then ((f_X0_jumps a36 x1 p32.2).bind (fun p39 => if p39.1 = 0 then (f_X9_heightFits_b66 N x1 (((dI D 113 (x1).toNatClampNeg) - p27.1) + p32.1) p39.2) else (if (((dI D 113 (x1).toNatClampNeg) - p27.1) + p32.1) = 0 then (f_X9_heightFits_b66 N x1 (((dI D 113 (x1).toNatClampNeg) - p27.1) + p32.1) p39.2) else ((f_X9_refuse x1 4 p39.2).bind (fun p43 => if p43.1 &&& 1 = p43.1 then some (p43.1, p43.2) else none))))) else none)) else (f_X9_heightFits_b37 N x1 p32.2)))) else none))) else none))
set_option maxHeartbeats 4000000 in
theorem w_X9_heightFits {X : Cx} {n nu c u : Nat} {K : Nat → Nat} {N : Nat} {z : Int32 × Dat} (O : Ok X cX9_heightFits RX9 (some .boolean) 3 67) (hm : wlm (xw X) = true) (hn : xn X = 8) (hz : Z0 X (Ax nu K c u)) (x1 : Int32) (D : Dat) (h : f_X9_heightFits N x1 D = some z) : V X (Q0 X n (Ax nu K c u) (some (.int z.1)) z.2) n (Ax nu K c u) D 0 [(0, .ref (bo X + pp 107)), (1, .int x1)] [] := by
  unfold f_X9_heightFits at h
  refine v_aload_n (pc := 0) O dX9_heightFits_0 0 rfl ?_
  refine v_getK (pc := 1) (a := 107) O hm gf_X9_4 fl_X9_18 kq_107 lk_107_4 dX9_heightFits_1 ?_
  refine v_iload_n (pc := 4) O dX9_heightFits_4 1 rfl ?_
  obtain ⟨c23, h⟩ := or_none h
  refine v_iald (pc := 5) (a := 113) O kq_113 (inq lq_113 c23) dX9_heightFits_5 ?_
  refine v_aload_n (pc := 6) O dX9_heightFits_6 0 rfl ?_
  refine v_getR (pc := 7) (a := 107) O gf_X9_2 fl_X9_83 kq_107 dX9_heightFits_7 ?_
  refine v_iload_n (pc := 10) O dX9_heightFits_10 1 rfl ?_
  obtain ⟨a24, e25, h⟩ := bind_some h
  rw [e25]
  obtain ⟨c26, h⟩ := if_none h
  obtain ⟨p27, e28, h⟩ := bind_some h
  refine v_callV (pc := 11) (a := a24) (As := [.int x1]) (rest := [.int (dI D 113 (x1).toNatClampNeg)]) (r := (some (.int p27.1))) (D' := p27.2) O (bb0 hz) (c_X0_taken hm c26 e28) mw_X0_taken im_X0_taken se_X0_taken ml_X9_150 (kt_X0 c26) (by decide) rfl rfl rfl (by decide) (by decide) (Nat.le_of_ble_eq_true rfl) dX9_heightFits_11 rfl rfl ?_
  refine v_isub (pc := 14) O dX9_heightFits_14 ?_
  refine v_istore_n (pc := 15) (lv' := [(2, .int ((dI D 113 (x1).toNatClampNeg) - p27.1)), (0, .ref (bo X + pp 107)), (1, .int x1)]) O dX9_heightFits_15 rfl (by rw [hn]; decide) rfl ?_
  refine v_iload_n (pc := 16) O dX9_heightFits_16 0 rfl ?_
  refine v_aload_n (pc := 17) O dX9_heightFits_17 1 rfl ?_
  refine v_getR (pc := 18) (a := 107) O gf_X9_2 fl_X9_83 kq_107 dX9_heightFits_18 ?_
  refine v_iload_n (pc := 21) O dX9_heightFits_21 2 rfl ?_
  obtain ⟨a29, e30, h⟩ := bind_some h
  rw [e30]
  obtain ⟨c31, h⟩ := if_none h
  obtain ⟨p32, e33, h⟩ := bind_some h
  refine v_callV (pc := 22) (a := a29) (As := [.int x1]) (rest := [.int ((dI D 113 (x1).toNatClampNeg) - p27.1)]) (r := (some (.int p32.1))) (D' := p32.2) O (bb0 hz) (c_X0_put hm c31 e33) mw_X0_put im_X0_put se_X0_put ml_X9_153 (kt_X0 c31) (by decide) rfl rfl rfl (by decide) (by decide) (Nat.le_of_ble_eq_true rfl) dX9_heightFits_22 rfl rfl ?_
  refine v_iadd (pc := 25) O dX9_heightFits_25 ?_
  refine v_istore_n (pc := 26) (lv' := [(3, .int (((dI D 113 (x1).toNatClampNeg) - p27.1) + p32.1)), (2, .int ((dI D 113 (x1).toNatClampNeg) - p27.1)), (0, .ref (bo X + pp 107)), (1, .int x1)]) O dX9_heightFits_26 rfl (by rw [hn]; decide) rfl ?_
  refine v_iload_n (pc := 27) O dX9_heightFits_27 1 rfl ?_
  refine v_iflt (pc := 28) 37 O dX9_heightFits_28 (by decide) (fun c34 => ?_) (fun c34 => ?_)
  · have h := (if_pos c34).symm.trans h
    refine v_sub [2, 3] rfl ?_
    exact w_X9_heightFits_b37 O hm hn hz x1 p32.2 h
  · have h := (if_neg c34).symm.trans h
    refine v_iload_n (pc := 31) O dX9_heightFits_31 0 rfl ?_
    refine v_bipush (pc := 32) O dX9_heightFits_32 bp_30 ?_
    refine v_icmple (pc := 34) 44 O dX9_heightFits_34 (by decide) (fun c35 => ?_) (fun c35 => ?_)
    · have h := (if_pos c35).symm.trans h
      refine v_aload_n (pc := 44) O dX9_heightFits_44 2 rfl ?_
      refine v_getR (pc := 45) (a := 107) O gf_X9_2 fl_X9_83 kq_107 dX9_heightFits_45 ?_
      refine v_iload_n (pc := 48) O dX9_heightFits_48 3 rfl ?_
      obtain ⟨a36, e37, h⟩ := bind_some h
      rw [e37]
      obtain ⟨c38, h⟩ := if_none h
      obtain ⟨p39, e40, h⟩ := bind_some h
      refine v_callV (pc := 49) (a := a36) (As := [.int x1]) (rest := []) (r := (some (.int p39.1))) (D' := p39.2) O (bb0 hz) (c_X0_jumps hm c38 e40) mw_X0_jumps im_X0_jumps se_X0_jumps ml_X9_156 (kt_X0 c38) (by decide) rfl rfl rfl (by decide) (by decide) (Nat.le_of_ble_eq_true rfl) dX9_heightFits_49 rfl rfl ?_
      refine v_ifeq (pc := 52) 66 O dX9_heightFits_52 (by decide) (fun c41 => ?_) (fun c41 => ?_)
      · have h := (if_pos c41).symm.trans h
        refine v_sub [2, 3, 0] rfl ?_
        exact w_X9_heightFits_b66 O hm hn hz x1 (((dI D 113 (x1).toNatClampNeg) - p27.1) + p32.1) p39.2 h
      · have h := (if_neg c41).symm.trans h
        refine v_iload_n (pc := 55) O dX9_heightFits_55 0 rfl ?_
        refine v_ifeq (pc := 56) 66 O dX9_heightFits_56 (by decide) (fun c42 => ?_) (fun c42 => ?_)
        · have h := (if_pos c42).symm.trans h
          refine v_sub [2, 3, 0] rfl ?_
          exact w_X9_heightFits_b66 O hm hn hz x1 (((dI D 113 (x1).toNatClampNeg) - p27.1) + p32.1) p39.2 h
        · have h := (if_neg c42).symm.trans h
          refine v_aload_n (pc := 59) O dX9_heightFits_59 2 rfl ?_
          refine v_iload_n (pc := 60) O dX9_heightFits_60 3 rfl ?_
          refine v_iconst (pc := 61) O dX9_heightFits_61 ic_4 ?_
          obtain ⟨p43, e44, h⟩ := bind_some h
          refine v_callV (pc := 62) (a := 107) (As := [.int x1, .int 4]) (rest := []) (r := (some (.int p43.1))) (D' := p43.2) O (bb0 hz) (c_X9_refuse hm e44) mw_X9_refuse im_X9_refuse se_X9_refuse ml_X9_125 kq_107 (by decide) rfl rfl rfl (by decide) (by decide) (Nat.le_of_ble_eq_true rfl) dX9_heightFits_62 rfl rfl ?_
          obtain ⟨c45, h⟩ := if_none h
          obtain rfl := Option.some.inj h
          exact v_zret (pc := 65) O hz (congrArg Value.int c45) dX9_heightFits_65
    · have h := (if_neg c35).symm.trans h
      refine v_sub [2, 3] rfl ?_
      exact w_X9_heightFits_b37 O hm hn hz x1 p32.2 h
theorem c_X9_heightFits {l : Launch} {w : Wx} {n nu c u : Nat} {K : Nat → Nat} {N : Nat} (hm : wlm w = true) {x1 : Int32} {D : Dat} {z : Int32 × Dat} (h : f_X9_heightFits N x1 D = some z) : C0 l w yX9_heightFits cX9_heightFits 8 (some .boolean) 3 67 [.ref (wb w + pp 107), .int x1] n (Ax nu K c u) D (some (.int z.1)) z.2 :=
  C0.of (by decide) (Nat.le_of_ble_eq_true rfl) (fun X e1 e2 e3 hz O => by
  subst e1
  subst e2
  exact w_X9_heightFits O hm e3 hz x1 D h)
def f_X9_shadeOfSource (nu : Nat) (K : Nat → Nat) (x1 : Int32) (x2 : Int32) (D : Dat) : Option (Int32 × Dat) :=
  ((dR D 107 2)).bind (fun a1 => if a1 = 201 ∨ a1 = 204 then ((f_X0_argument a1 x2 D).bind (fun p4 => (if x1 = (1 : Int32) then ((f_X9_heldAt x2 p4.1 p4.2).bind (fun p7 => some (p7.1, p7.2))) else (if x1 = (3 : Int32) then ((f_X9_rowMark nu K p4.1 p4.2).bind (fun p10 => (f_X2_shade nu K p10.1 p10.2).bind (fun p12 => some (p12.1, p12.2)))) else (if x1 = (13 : Int32) then ((f_X2_shade nu K p4.1 p4.2).bind (fun p15 => some (p15.1, p15.2))) else (some (0, p4.2))))))) else none)
set_option maxHeartbeats 4000000 in
theorem w_X9_shadeOfSource {X : Cx} {n nu c u : Nat} {K : Nat → Nat} {z : Int32 × Dat} (O : Ok X cX9_shadeOfSource RX9 (some .int) 2 42) (hm : wlm (xw X) = true) (hn : xn X = 4) (hz : Z0 X (Ax nu K c u)) (x1 : Int32) (x2 : Int32) (D : Dat) (h : f_X9_shadeOfSource nu K x1 x2 D = some z) : V X (Q0 X n (Ax nu K c u) (some (.int z.1)) z.2) n (Ax nu K c u) D 0 [(0, .ref (bo X + pp 107)), (1, .int x1), (2, .int x2)] [] := by
  unfold f_X9_shadeOfSource at h
  refine v_aload_n (pc := 0) O dX9_shadeOfSource_0 0 rfl ?_
  refine v_getR (pc := 1) (a := 107) O gf_X9_2 fl_X9_83 kq_107 dX9_shadeOfSource_1 ?_
  refine v_iload_n (pc := 4) O dX9_shadeOfSource_4 2 rfl ?_
  obtain ⟨a1, e2, h⟩ := bind_some h
  rw [e2]
  obtain ⟨c3, h⟩ := if_none h
  obtain ⟨p4, e5, h⟩ := bind_some h
  refine v_callV (pc := 5) (a := a1) (As := [.int x2]) (rest := []) (r := (some (.int p4.1))) (D' := p4.2) O (bb0 hz) (c_X0_argument hm c3 e5) mw_X0_argument im_X0_argument se_X0_argument ml_X9_119 (kt_X0 c3) (by decide) rfl rfl rfl (by decide) (by decide) (Nat.le_of_ble_eq_true rfl) dX9_shadeOfSource_5 rfl rfl ?_
  refine v_istore_n (pc := 8) (lv' := [(3, .int p4.1), (0, .ref (bo X + pp 107)), (1, .int x1), (2, .int x2)]) O dX9_shadeOfSource_8 rfl (by rw [hn]; decide) rfl ?_
  refine v_iload_n (pc := 9) O dX9_shadeOfSource_9 2 rfl ?_
  by_cases c6 : x1 = (1 : Int32)
  · have h := (if_pos c6).symm.trans h
    refine v_lookup (pc := 10) 44 O dX9_shadeOfSource_10 (by decide) (by rw [c6]) (by decide) ?_
    refine v_aload_n (pc := 44) O dX9_shadeOfSource_44 1 rfl ?_
    refine v_iload_n (pc := 45) O dX9_shadeOfSource_45 3 rfl ?_
    refine v_iload_n (pc := 46) O dX9_shadeOfSource_46 0 rfl ?_
    obtain ⟨p7, e8, h⟩ := bind_some h
    refine v_callV (pc := 47) (a := 107) (As := [.int x2, .int p4.1]) (rest := []) (r := (some (.int p7.1))) (D' := p7.2) O (bb0 hz) (c_X9_heldAt hm e8) mw_X9_heldAt im_X9_heldAt se_X9_heldAt ml_X9_74 kq_107 (by decide) rfl rfl rfl (by decide) (by decide) (Nat.le_of_ble_eq_true rfl) dX9_shadeOfSource_47 rfl rfl ?_
    obtain rfl := Option.some.inj h
    exact v_iret (pc := 50) O hz dX9_shadeOfSource_50
  · have h := (if_neg c6).symm.trans h
    by_cases c9 : x1 = (3 : Int32)
    · have h := (if_pos c9).symm.trans h
      refine v_lookup (pc := 10) 51 O dX9_shadeOfSource_10 (by decide) (by rw [c9]) (by decide) ?_
      refine v_aload_n (pc := 51) O dX9_shadeOfSource_51 1 rfl ?_
      refine v_getK (pc := 52) (a := 107) O hm gf_X9_0 fl_X9_33 kq_107 lk_107_0 dX9_shadeOfSource_52 ?_
      refine v_aload_n (pc := 55) O dX9_shadeOfSource_55 1 rfl ?_
      refine v_iload_n (pc := 56) O dX9_shadeOfSource_56 0 rfl ?_
      obtain ⟨p10, e11, h⟩ := bind_some h
      refine v_callV (pc := 57) (a := 107) (As := [.int p4.1]) (rest := [.ref (bo X + pp 1)]) (r := (some (.int p10.1))) (D' := p10.2) O (bb0 hz) (c_X9_rowMark hm e11) mw_X9_rowMark im_X9_rowMark se_X9_rowMark ml_X9_191 kq_107 (by decide) rfl rfl rfl (by decide) (by decide) (Nat.le_of_ble_eq_true rfl) dX9_shadeOfSource_57 rfl rfl ?_
      obtain ⟨p12, e13, h⟩ := bind_some h
      refine v_callV (pc := 60) (a := 1) (As := [.int p10.1]) (rest := []) (r := (some (.int p12.1))) (D' := p12.2) O (bb0 hz) (c_X2_shade hm e13) mw_X2_shade im_X2_shade se_X2_shade ml_X9_162 kq_1 (by decide) rfl rfl rfl (by decide) (by decide) (Nat.le_of_ble_eq_true rfl) dX9_shadeOfSource_60 rfl rfl ?_
      obtain rfl := Option.some.inj h
      exact v_iret (pc := 63) O hz dX9_shadeOfSource_63
    · have h := (if_neg c9).symm.trans h
      by_cases c14 : x1 = (13 : Int32)
      · have h := (if_pos c14).symm.trans h
        refine v_lookup (pc := 10) 64 O dX9_shadeOfSource_10 (by decide) (by rw [c14]) (by decide) ?_
        refine v_aload_n (pc := 64) O dX9_shadeOfSource_64 1 rfl ?_
        refine v_getK (pc := 65) (a := 107) O hm gf_X9_0 fl_X9_33 kq_107 lk_107_0 dX9_shadeOfSource_65 ?_
        refine v_iload_n (pc := 68) O dX9_shadeOfSource_68 0 rfl ?_
        obtain ⟨p15, e16, h⟩ := bind_some h
        refine v_callV (pc := 69) (a := 1) (As := [.int p4.1]) (rest := []) (r := (some (.int p15.1))) (D' := p15.2) O (bb0 hz) (c_X2_shade hm e16) mw_X2_shade im_X2_shade se_X2_shade ml_X9_162 kq_1 (by decide) rfl rfl rfl (by decide) (by decide) (Nat.le_of_ble_eq_true rfl) dX9_shadeOfSource_69 rfl rfl ?_
        obtain rfl := Option.some.inj h
        exact v_iret (pc := 72) O hz dX9_shadeOfSource_72
      · have h := (if_neg c14).symm.trans h
        refine v_lookup (pc := 10) 73 O dX9_shadeOfSource_10 (by decide) (by have c6i := ne_i (1) rfl c6; have c9i := ne_i (3) rfl c9; have c14i := ne_i (13) rfl c14; exact lk_out _ _ _ (by simp [Ne.symm c6i, Ne.symm c9i, Ne.symm c14i])) (by decide) ?_
        refine v_iconst (pc := 73) O dX9_shadeOfSource_73 ic_0 ?_
        obtain rfl := Option.some.inj h
        exact v_iret (pc := 74) O hz dX9_shadeOfSource_74
theorem c_X9_shadeOfSource {l : Launch} {w : Wx} {n nu c u : Nat} {K : Nat → Nat} (hm : wlm w = true) {x1 : Int32} {x2 : Int32} {D : Dat} {z : Int32 × Dat} (h : f_X9_shadeOfSource nu K x1 x2 D = some z) : C0 l w yX9_shadeOfSource cX9_shadeOfSource 4 (some .int) 2 42 [.ref (wb w + pp 107), .int x1, .int x2] n (Ax nu K c u) D (some (.int z.1)) z.2 :=
  C0.of (by decide) (Nat.le_of_ble_eq_true rfl) (fun X e1 e2 e3 hz O => by
  subst e1
  subst e2
  exact w_X9_shadeOfSource O hm e3 hz x1 x2 D h)
def f_X9_raiseLevels_b67 (N : Nat) (rec_2 : Int32 → Int32 → Int32 → Dat → Option (Dat)) (x1 : Int32) (x2 : Int32) (x3 : Int32) (D : Dat) : Option (Dat) :=
  rec_2 x1 x2 (x3 + 1) D
set_option maxHeartbeats 4000000 in
theorem w_X9_raiseLevels_b67 {X : Cx} {n nu c u : Nat} {K : Nat → Nat} {N : Nat} {rec_2 : Int32 → Int32 → Int32 → Dat → Option (Dat)} {z : Dat} (O : Ok X cX9_raiseLevels RX9 none 2 44) (hm : wlm (xw X) = true) (hn : xn X = 5) (hz : Z0 X (Ax nu K c u)) (hrec_2 : ∀ (x1 : Int32) (x2 : Int32) (x3 : Int32) (D : Dat), rec_2 x1 x2 x3 D = some z → V X (Q0 X n (Ax nu K c u) none z) n (Ax nu K c u) D 2 [(0, .ref (bo X + pp 107)), (1, .int x1), (2, .int x2), (3, .int x3)] []) (x1 : Int32) (x2 : Int32) (x3 : Int32) (D : Dat) (h : f_X9_raiseLevels_b67 N rec_2 x1 x2 x3 D = some z) : V X (Q0 X n (Ax nu K c u) none z) n (Ax nu K c u) D 67 [(0, .ref (bo X + pp 107)), (1, .int x1), (2, .int x2), (3, .int x3)] [] := by
  unfold f_X9_raiseLevels_b67 at h
  refine v_iinc (pc := 67) (lv' := [(3, .int (x3 + 1)), (0, .ref (bo X + pp 107)), (1, .int x1), (2, .int x2)]) O dX9_raiseLevels_67 3 rfl (congrArg (fun q => x3 + q) ic_1) (by rw [hn]; decide) rfl ?_
  refine v_goto (pc := 70) 2 O dX9_raiseLevels_70 (by decide) ?_
  refine v_sub [1, 2, 3, 0] rfl ?_
  exact hrec_2 x1 x2 (x3 + 1) D h
def f_X9_raiseLevels_b2 (N : Nat) : Nat → Int32 → Int32 → Int32 → Dat → Option (Dat)
  | 0, _, _, _, _ => none
  | g + 1, x1, x2, x3, D => ((dR D 107 2)).bind (fun a1 => if a1 = 201 ∨ a1 = 204 then ((f_X0_size a1 D).bind (fun p4 => if p4.1 ≤ x3 then (some p4.2) else (if x3 < 0 ∨ 64 ≤ (x3).toNatClampNeg then none else ((f_X6_isInside x1 x3 p4.2).bind (fun p8 => if p8.1 = 0 then (f_X9_raiseLevels_b67 N (f_X9_raiseLevels_b2 N g) x1 x2 x3 p8.2) else (if x3 < 0 ∨ 64 ≤ (x3).toNatClampNeg then none else (if ((dI p4.2 114 (x3).toNatClampNeg) ||| x2) = (dI p8.2 114 (x3).toNatClampNeg) then (f_X9_raiseLevels_b67 N (f_X9_raiseLevels_b2 N g) x1 x2 x3 p8.2) else (if x3 < 0 ∨ 64 ≤ (x3).toNatClampNeg then none else ((f_X11_bit x3 (sI p8.2 114 (x3).toNatClampNeg ((dI p4.2 114 (x3).toNatClampNeg) ||| x2))).bind (fun p14 => f_X9_raiseLevels_b67 N (f_X9_raiseLevels_b2 N g) x1 x2 x3 (sL p14.2 107 9 ((dL (sI p8.2 114 (x3).toNatClampNeg ((dI p4.2 114 (x3).toNatClampNeg) ||| x2)) 107 9) ||| p14.1)))))))))))) else none)
set_option maxHeartbeats 4000000 in
theorem w_X9_raiseLevels_b2 {X : Cx} {n nu c u : Nat} {K : Nat → Nat} {N : Nat} {z : Dat} (O : Ok X cX9_raiseLevels RX9 none 2 44) (hm : wlm (xw X) = true) (hn : xn X = 5) (hz : Z0 X (Ax nu K c u)) : ∀ (g : Nat) (x1 : Int32) (x2 : Int32) (x3 : Int32) (D : Dat), f_X9_raiseLevels_b2 N g x1 x2 x3 D = some z → V X (Q0 X n (Ax nu K c u) none z) n (Ax nu K c u) D 2 [(0, .ref (bo X + pp 107)), (1, .int x1), (2, .int x2), (3, .int x3)] [] := by
  intro g
  induction g with
  | zero => intro x1 x2 x3 D h; exact absurd h (by simp [f_X9_raiseLevels_b2])
  | succ g ih =>
    intro x1 x2 x3 D h
    rw [f_X9_raiseLevels_b2] at h
    refine v_iload_n (pc := 2) O dX9_raiseLevels_2 3 rfl ?_
    refine v_aload_n (pc := 3) O dX9_raiseLevels_3 0 rfl ?_
    refine v_getR (pc := 4) (a := 107) O gf_X9_2 fl_X9_83 kq_107 dX9_raiseLevels_4 ?_
    obtain ⟨a1, e2, h⟩ := bind_some h
    rw [e2]
    obtain ⟨c3, h⟩ := if_none h
    obtain ⟨p4, e5, h⟩ := bind_some h
    refine v_callV (pc := 7) (a := a1) (As := []) (rest := [.int x3]) (r := (some (.int p4.1))) (D' := p4.2) O (bb0 hz) (c_X0_size hm c3 e5) mw_X0_size im_X0_size se_X0_size ml_X9_110 (kt_X0 c3) (by decide) rfl rfl rfl (by decide) (by decide) (Nat.le_of_ble_eq_true rfl) dX9_raiseLevels_7 rfl rfl ?_
    refine v_icmpge (pc := 10) 73 O dX9_raiseLevels_10 (by decide) (fun c6 => ?_) (fun c6 => ?_)
    · have h := (if_pos c6).symm.trans h
      obtain rfl := Option.some.inj h
      exact v_ret (pc := 73) O hz dX9_raiseLevels_73
    · have h := (if_neg c6).symm.trans h
      refine v_aload_n (pc := 13) O dX9_raiseLevels_13 0 rfl ?_
      refine v_getK (pc := 14) (a := 107) O hm gf_X9_6 fl_X9_22 kq_107 lk_107_6 dX9_raiseLevels_14 ?_
      refine v_iload_n (pc := 17) O dX9_raiseLevels_17 3 rfl ?_
      obtain ⟨c7, h⟩ := or_none h
      refine v_iald (pc := 18) (a := 114) O kq_114 (inq lq_114 c7) dX9_raiseLevels_18 ?_
      refine v_iload_n (pc := 19) O dX9_raiseLevels_19 2 rfl ?_
      refine v_ior (pc := 20) O dX9_raiseLevels_20 ?_
      refine v_istore (pc := 21) (lv' := [(4, .int ((dI p4.2 114 (x3).toNatClampNeg) ||| x2)), (0, .ref (bo X + pp 107)), (1, .int x1), (2, .int x2), (3, .int x3)]) O dX9_raiseLevels_21 (by rw [hn]; decide) rfl ?_
      refine v_aload_n (pc := 23) O dX9_raiseLevels_23 1 rfl ?_
      refine v_getK (pc := 24) (a := 107) O hm gf_X9_1 fl_X9_14 kq_107 lk_107_1 dX9_raiseLevels_24 ?_
      refine v_iload_n (pc := 27) O dX9_raiseLevels_27 2 rfl ?_
      refine v_iload_n (pc := 28) O dX9_raiseLevels_28 4 rfl ?_
      obtain ⟨p8, e9, h⟩ := bind_some h
      refine v_callV (pc := 29) (a := 108) (As := [.int x1, .int x3]) (rest := []) (r := (some (.int p8.1))) (D' := p8.2) O (bb0 hz) (c_X6_isInside hm e9) mw_X6_isInside im_X6_isInside se_X6_isInside ml_X9_66 kq_108 (by decide) rfl rfl rfl (by decide) (by decide) (Nat.le_of_ble_eq_true rfl) dX9_raiseLevels_29 rfl rfl ?_
      refine v_ifeq (pc := 32) 67 O dX9_raiseLevels_32 (by decide) (fun c10 => ?_) (fun c10 => ?_)
      · have h := (if_pos c10).symm.trans h
        refine v_sub [1, 2, 3, 4] rfl ?_
        exact w_X9_raiseLevels_b67 O hm hn hz ih x1 x2 x3 p8.2 h
      · have h := (if_neg c10).symm.trans h
        refine v_iload (pc := 35) O dX9_raiseLevels_35 0 rfl ?_
        refine v_aload_n (pc := 37) O dX9_raiseLevels_37 1 rfl ?_
        refine v_getK (pc := 38) (a := 107) O hm gf_X9_6 fl_X9_22 kq_107 lk_107_6 dX9_raiseLevels_38 ?_
        refine v_iload_n (pc := 41) O dX9_raiseLevels_41 4 rfl ?_
        obtain ⟨c11, h⟩ := or_none h
        refine v_iald (pc := 42) (a := 114) O kq_114 (inq lq_114 c11) dX9_raiseLevels_42 ?_
        refine v_icmpeq (pc := 43) 67 O dX9_raiseLevels_43 (by decide) (fun c12 => ?_) (fun c12 => ?_)
        · have h := (if_pos c12).symm.trans h
          refine v_sub [1, 2, 3, 4] rfl ?_
          exact w_X9_raiseLevels_b67 O hm hn hz ih x1 x2 x3 p8.2 h
        · have h := (if_neg c12).symm.trans h
          refine v_aload_n (pc := 46) O dX9_raiseLevels_46 1 rfl ?_
          refine v_getK (pc := 47) (a := 107) O hm gf_X9_6 fl_X9_22 kq_107 lk_107_6 dX9_raiseLevels_47 ?_
          refine v_iload_n (pc := 50) O dX9_raiseLevels_50 4 rfl ?_
          refine v_iload (pc := 51) O dX9_raiseLevels_51 0 rfl ?_
          obtain ⟨c13, h⟩ := or_none h
          refine v_iast (pc := 53) (a := 114) O kq_114 (inq lq_114 c13) dX9_raiseLevels_53 ?_
          refine v_aload_n (pc := 54) O dX9_raiseLevels_54 1 rfl ?_
          refine v_dup (pc := 55) O dX9_raiseLevels_55 rfl ?_
          refine v_getL (pc := 56) (a := 107) O gf_X9_9 fl_X9_165 kq_107 dX9_raiseLevels_56 ?_
          refine v_iload_n (pc := 59) O dX9_raiseLevels_59 4 rfl ?_
          obtain ⟨p14, e15, h⟩ := bind_some h
          refine v_callN (pc := 60) (As := [.int x3]) (rest := [.long (dL (sI p8.2 114 (x3).toNatClampNeg ((dI p4.2 114 (x3).toNatClampNeg) ||| x2)) 107 9), .ref (bo X + pp 107)]) (r := (some (.long p14.1))) (D' := p14.2) O (bb0 hz) (c_X11_bit hm e15) mw_X11_bit sm_X11_bit nl_X9_138 rfl (by decide) (by decide) (Nat.le_of_ble_eq_true rfl) dX9_raiseLevels_60 rfl rfl ?_
          refine v_lor (pc := 63) O dX9_raiseLevels_63 ?_
          refine v_putL (pc := 64) (a := 107) O pf_X9_9 fl_X9_165 kq_107 dX9_raiseLevels_64 ?_
          refine v_sub [1, 2, 3, 4] rfl ?_
          exact w_X9_raiseLevels_b67 O hm hn hz ih x1 x2 x3 (sL p14.2 107 9 ((dL (sI p8.2 114 (x3).toNatClampNeg ((dI p4.2 114 (x3).toNatClampNeg) ||| x2)) 107 9) ||| p14.1)) h
def f_X9_raiseLevels (N : Nat) (x1 : Int32) (x2 : Int32) (D : Dat) : Option (Dat) :=
  f_X9_raiseLevels_b2 N N x1 x2 0 D
set_option maxHeartbeats 4000000 in
theorem w_X9_raiseLevels {X : Cx} {n nu c u : Nat} {K : Nat → Nat} {N : Nat} {z : Dat} (O : Ok X cX9_raiseLevels RX9 none 2 44) (hm : wlm (xw X) = true) (hn : xn X = 5) (hz : Z0 X (Ax nu K c u)) (x1 : Int32) (x2 : Int32) (D : Dat) (h : f_X9_raiseLevels N x1 x2 D = some z) : V X (Q0 X n (Ax nu K c u) none z) n (Ax nu K c u) D 0 [(0, .ref (bo X + pp 107)), (1, .int x1), (2, .int x2)] [] := by
  unfold f_X9_raiseLevels at h
  refine v_iconst (pc := 0) O dX9_raiseLevels_0 ic_0 ?_
  refine v_istore_n (pc := 1) (lv' := [(3, .int 0), (0, .ref (bo X + pp 107)), (1, .int x1), (2, .int x2)]) O dX9_raiseLevels_1 rfl (by rw [hn]; decide) rfl ?_
  refine v_sub [1, 2, 3, 0] rfl ?_
  exact w_X9_raiseLevels_b2 O hm hn hz N x1 x2 0 D h
theorem c_X9_raiseLevels {l : Launch} {w : Wx} {n nu c u : Nat} {K : Nat → Nat} {N : Nat} (hm : wlm w = true) {x1 : Int32} {x2 : Int32} {D : Dat} {z : Dat} (h : f_X9_raiseLevels N x1 x2 D = some z) : C0 l w yX9_raiseLevels cX9_raiseLevels 5 none 2 44 [.ref (wb w + pp 107), .int x1, .int x2] n (Ax nu K c u) D none z :=
  C0.of (by decide) (Nat.le_of_ble_eq_true rfl) (fun X e1 e2 e3 hz O => by
  subst e1
  subst e2
  exact w_X9_raiseLevels O hm e3 hz x1 x2 D h)
def f_X9_raiseHeld_b65 (N : Nat) (nu : Nat) (K : Nat → Nat) (rec_10 : Int32 → Int32 → Nat → Int32 → Dat → Option (Dat)) (x1 : Int32) (x2 : Int32) (x3 : Nat) (x4 : Int32) (D : Dat) : Option (Dat) :=
  rec_10 x1 x2 x3 (x4 + 1) D
set_option maxHeartbeats 4000000 in
theorem w_X9_raiseHeld_b65 {X : Cx} {n nu c u : Nat} {K : Nat → Nat} {N : Nat} {rec_10 : Int32 → Int32 → Nat → Int32 → Dat → Option (Dat)} {z : Dat} (O : Ok X cX9_raiseHeld RX9 none 1 20) (hm : wlm (xw X) = true) (hn : xn X = 6) (hz : Z0 X (Ax nu K c u)) (hrec_10 : ∀ (x1 : Int32) (x2 : Int32) (x3 : Nat) (x4 : Int32) (D : Dat), rec_10 x1 x2 x3 x4 D = some z → V X (Q0 X n (Ax nu K c u) none z) n (Ax nu K c u) D 10 [(0, .ref (bo X + pp 107)), (1, .int x1), (2, .int x2), (3, .ref (bo X + pp x3)), (4, .int x4)] []) (x1 : Int32) (x2 : Int32) (x3 : Nat) (x4 : Int32) (D : Dat) (h : f_X9_raiseHeld_b65 N nu K rec_10 x1 x2 x3 x4 D = some z) : V X (Q0 X n (Ax nu K c u) none z) n (Ax nu K c u) D 65 [(0, .ref (bo X + pp 107)), (1, .int x1), (2, .int x2), (3, .ref (bo X + pp x3)), (4, .int x4)] [] := by
  unfold f_X9_raiseHeld_b65 at h
  refine v_iinc (pc := 65) (lv' := [(4, .int (x4 + 1)), (0, .ref (bo X + pp 107)), (1, .int x1), (2, .int x2), (3, .ref (bo X + pp x3))]) O dX9_raiseHeld_65 4 rfl (congrArg (fun q => x4 + q) ic_1) (by rw [hn]; decide) rfl ?_
  refine v_goto (pc := 68) 10 O dX9_raiseHeld_68 (by decide) ?_
  refine v_sub [1, 2, 3, 4, 0] rfl ?_
  exact hrec_10 x1 x2 x3 (x4 + 1) D h
def f_X9_raiseHeld_b71 (N : Nat) (nu : Nat) (K : Nat → Nat) (D : Dat) : Option (Dat) :=
  some D
set_option maxHeartbeats 4000000 in
theorem w_X9_raiseHeld_b71 {X : Cx} {n nu c u : Nat} {K : Nat → Nat} {N : Nat} {z : Dat} (O : Ok X cX9_raiseHeld RX9 none 1 20) (hm : wlm (xw X) = true) (hn : xn X = 6) (hz : Z0 X (Ax nu K c u)) (D : Dat) (h : f_X9_raiseHeld_b71 N nu K D = some z) : V X (Q0 X n (Ax nu K c u) none z) n (Ax nu K c u) D 71 [] [] := by
  unfold f_X9_raiseHeld_b71 at h
  obtain rfl := Option.some.inj h
  exact v_ret (pc := 71) O hz dX9_raiseHeld_71
def f_X9_raiseHeld_b10 (N : Nat) (nu : Nat) (K : Nat → Nat) : Nat → Int32 → Int32 → Nat → Int32 → Dat → Option (Dat)
  | 0, _, _, _, _, _ => none
  | g + 1, x1, x2, x3, x4, D => if x2 ≤ x4 then (f_X9_raiseHeld_b71 N nu K D) else (if 56 ≤ x4 then (f_X9_raiseHeld_b71 N nu K D) else (if kd K x3 = 14 then (if x4 < 0 ∨ (nl nu x3) ≤ (x4).toNatClampNeg then none else (if x4 < 0 ∨ 56 ≤ (x4).toNatClampNeg then none else (if x4 < 0 ∨ (nl nu x3) ≤ (x4).toNatClampNeg then none else (if ((dI D x3 (x4).toNatClampNeg) ||| (dI D 180 (x4).toNatClampNeg)) = (dI D x3 (x4).toNatClampNeg) then (f_X9_raiseHeld_b65 N nu K (f_X9_raiseHeld_b10 N nu K g) x1 x2 x3 x4 D) else (if x4 < 0 ∨ (nl nu x3) ≤ (x4).toNatClampNeg then none else ((f_X11_bit x1 (sI D x3 (x4).toNatClampNeg ((dI D x3 (x4).toNatClampNeg) ||| (dI D 180 (x4).toNatClampNeg)))).bind (fun p9 => f_X9_raiseHeld_b65 N nu K (f_X9_raiseHeld_b10 N nu K g) x1 x2 x3 x4 (sL p9.2 107 9 ((dL (sI D x3 (x4).toNatClampNeg ((dI D x3 (x4).toNatClampNeg) ||| (dI D 180 (x4).toNatClampNeg))) 107 9) ||| p9.1))))))))) else none))
set_option maxHeartbeats 4000000 in
theorem w_X9_raiseHeld_b10 {X : Cx} {n nu c u : Nat} {K : Nat → Nat} {N : Nat} {z : Dat} (O : Ok X cX9_raiseHeld RX9 none 1 20) (hm : wlm (xw X) = true) (hn : xn X = 6) (hz : Z0 X (Ax nu K c u)) : ∀ (g : Nat) (x1 : Int32) (x2 : Int32) (x3 : Nat) (x4 : Int32) (D : Dat), f_X9_raiseHeld_b10 N nu K g x1 x2 x3 x4 D = some z → V X (Q0 X n (Ax nu K c u) none z) n (Ax nu K c u) D 10 [(0, .ref (bo X + pp 107)), (1, .int x1), (2, .int x2), (3, .ref (bo X + pp x3)), (4, .int x4)] [] := by
  intro g
  induction g with
  | zero => intro x1 x2 x3 x4 D h; exact absurd h (by simp [f_X9_raiseHeld_b10])
  | succ g ih =>
    intro x1 x2 x3 x4 D h
    rw [f_X9_raiseHeld_b10] at h
    refine v_iload (pc := 10) O dX9_raiseHeld_10 4 rfl ?_
    refine v_iload_n (pc := 12) O dX9_raiseHeld_12 2 rfl ?_
    refine v_icmpge (pc := 13) 71 O dX9_raiseHeld_13 (by decide) (fun c1 => ?_) (fun c1 => ?_)
    · have h := (if_pos c1).symm.trans h
      refine v_sub [] rfl ?_
      exact w_X9_raiseHeld_b71 O hm hn hz D h
    · have h := (if_neg c1).symm.trans h
      refine v_iload (pc := 16) O dX9_raiseHeld_16 4 rfl ?_
      refine v_bipush (pc := 18) O dX9_raiseHeld_18 bp_56 ?_
      refine v_icmpge (pc := 20) 71 O dX9_raiseHeld_20 (by decide) (fun c2 => ?_) (fun c2 => ?_)
      · have h := (if_pos c2).symm.trans h
        refine v_sub [] rfl ?_
        exact w_X9_raiseHeld_b71 O hm hn hz D h
      · have h := (if_neg c2).symm.trans h
        refine v_aload_n (pc := 23) O dX9_raiseHeld_23 3 rfl ?_
        refine v_iload (pc := 24) O dX9_raiseHeld_24 4 rfl ?_
        obtain ⟨c3, h⟩ := if_none h
        obtain ⟨c4, h⟩ := or_none h
        refine v_iald (pc := 26) (a := x3) O c3 (inq rfl c4) dX9_raiseHeld_26 ?_
        refine v_aload_n (pc := 27) O dX9_raiseHeld_27 0 rfl ?_
        refine v_getK (pc := 28) (a := 107) O hm gf_X9_8 fl_X9_30 kq_107 lk_107_8 dX9_raiseHeld_28 ?_
        refine v_iload (pc := 31) O dX9_raiseHeld_31 4 rfl ?_
        obtain ⟨c5, h⟩ := or_none h
        refine v_iald (pc := 33) (a := 180) O kq_180 (inq lq_180 c5) dX9_raiseHeld_33 ?_
        refine v_ior (pc := 34) O dX9_raiseHeld_34 ?_
        refine v_istore (pc := 35) (lv' := [(5, .int ((dI D x3 (x4).toNatClampNeg) ||| (dI D 180 (x4).toNatClampNeg))), (0, .ref (bo X + pp 107)), (1, .int x1), (2, .int x2), (3, .ref (bo X + pp x3)), (4, .int x4)]) O dX9_raiseHeld_35 (by rw [hn]; decide) rfl ?_
        refine v_iload (pc := 37) O dX9_raiseHeld_37 0 rfl ?_
        refine v_aload_n (pc := 39) O dX9_raiseHeld_39 4 rfl ?_
        refine v_iload (pc := 40) O dX9_raiseHeld_40 5 rfl ?_
        obtain ⟨c6, h⟩ := or_none h
        refine v_iald (pc := 42) (a := x3) O c3 (inq rfl c6) dX9_raiseHeld_42 ?_
        refine v_icmpeq (pc := 43) 65 O dX9_raiseHeld_43 (by decide) (fun c7 => ?_) (fun c7 => ?_)
        · have h := (if_pos c7).symm.trans h
          refine v_sub [1, 2, 3, 4, 5] rfl ?_
          exact w_X9_raiseHeld_b65 O hm hn hz ih x1 x2 x3 x4 D h
        · have h := (if_neg c7).symm.trans h
          refine v_aload_n (pc := 46) O dX9_raiseHeld_46 4 rfl ?_
          refine v_iload (pc := 47) O dX9_raiseHeld_47 5 rfl ?_
          refine v_iload (pc := 49) O dX9_raiseHeld_49 0 rfl ?_
          obtain ⟨c8, h⟩ := or_none h
          refine v_iast (pc := 51) (a := x3) O c3 (inq rfl c8) dX9_raiseHeld_51 ?_
          refine v_aload_n (pc := 52) O dX9_raiseHeld_52 1 rfl ?_
          refine v_dup (pc := 53) O dX9_raiseHeld_53 rfl ?_
          refine v_getL (pc := 54) (a := 107) O gf_X9_9 fl_X9_165 kq_107 dX9_raiseHeld_54 ?_
          refine v_iload_n (pc := 57) O dX9_raiseHeld_57 2 rfl ?_
          obtain ⟨p9, e10, h⟩ := bind_some h
          refine v_callN (pc := 58) (As := [.int x1]) (rest := [.long (dL (sI D x3 (x4).toNatClampNeg ((dI D x3 (x4).toNatClampNeg) ||| (dI D 180 (x4).toNatClampNeg))) 107 9), .ref (bo X + pp 107)]) (r := (some (.long p9.1))) (D' := p9.2) O (bb0 hz) (c_X11_bit hm e10) mw_X11_bit sm_X11_bit nl_X9_138 rfl (by decide) (by decide) (Nat.le_of_ble_eq_true rfl) dX9_raiseHeld_58 rfl rfl ?_
          refine v_lor (pc := 61) O dX9_raiseHeld_61 ?_
          refine v_putL (pc := 62) (a := 107) O pf_X9_9 fl_X9_165 kq_107 dX9_raiseHeld_62 ?_
          refine v_sub [1, 2, 3, 4, 5] rfl ?_
          exact w_X9_raiseHeld_b65 O hm hn hz ih x1 x2 x3 x4 (sL p9.2 107 9 ((dL (sI D x3 (x4).toNatClampNeg ((dI D x3 (x4).toNatClampNeg) ||| (dI D 180 (x4).toNatClampNeg))) 107 9) ||| p9.1)) h
def f_X9_raiseHeld (N : Nat) (nu : Nat) (K : Nat → Nat) (x1 : Int32) (x2 : Int32) (D : Dat) : Option (Dat) :=
  if x1 < 0 ∨ 64 ≤ (x1).toNatClampNeg then none else (f_X9_raiseHeld_b10 N nu K N x1 x2 (115 + 1 + (x1).toNatClampNeg) 0 D)
set_option maxHeartbeats 4000000 in
theorem w_X9_raiseHeld {X : Cx} {n nu c u : Nat} {K : Nat → Nat} {N : Nat} {z : Dat} (O : Ok X cX9_raiseHeld RX9 none 1 20) (hm : wlm (xw X) = true) (hn : xn X = 6) (hz : Z0 X (Ax nu K c u)) (x1 : Int32) (x2 : Int32) (D : Dat) (h : f_X9_raiseHeld N nu K x1 x2 D = some z) : V X (Q0 X n (Ax nu K c u) none z) n (Ax nu K c u) D 0 [(0, .ref (bo X + pp 107)), (1, .int x1), (2, .int x2)] [] := by
  unfold f_X9_raiseHeld at h
  refine v_aload_n (pc := 0) O dX9_raiseHeld_0 0 rfl ?_
  refine v_getK (pc := 1) (a := 107) O hm gf_X9_7 fl_X9_27 kq_107 lk_107_7 dX9_raiseHeld_1 ?_
  refine v_iload_n (pc := 4) O dX9_raiseHeld_4 1 rfl ?_
  obtain ⟨c11, h⟩ := or_none h
  refine v_aald2 (pc := 5) (a := 115) O kq_115 (inq lq_115 c11) dX9_raiseHeld_5 ?_
  refine v_astore_n (pc := 6) (lv' := [(3, .ref (bo X + pp (115 + 1 + (x1).toNatClampNeg))), (0, .ref (bo X + pp 107)), (1, .int x1), (2, .int x2)]) O dX9_raiseHeld_6 rfl (by rw [hn]; decide) rfl ?_
  refine v_iconst (pc := 7) O dX9_raiseHeld_7 ic_0 ?_
  refine v_istore (pc := 8) (lv' := [(4, .int 0), (3, .ref (bo X + pp (115 + 1 + (x1).toNatClampNeg))), (0, .ref (bo X + pp 107)), (1, .int x1), (2, .int x2)]) O dX9_raiseHeld_8 (by rw [hn]; decide) rfl ?_
  refine v_sub [2, 3, 4, 1, 0] rfl ?_
  exact w_X9_raiseHeld_b10 O hm hn hz N x1 x2 (115 + 1 + (x1).toNatClampNeg) 0 D h
theorem c_X9_raiseHeld {l : Launch} {w : Wx} {n nu c u : Nat} {K : Nat → Nat} {N : Nat} (hm : wlm w = true) {x1 : Int32} {x2 : Int32} {D : Dat} {z : Dat} (h : f_X9_raiseHeld N nu K x1 x2 D = some z) : C0 l w yX9_raiseHeld cX9_raiseHeld 6 none 1 20 [.ref (wb w + pp 107), .int x1, .int x2] n (Ax nu K c u) D none z :=
  C0.of (by decide) (Nat.le_of_ble_eq_true rfl) (fun X e1 e2 e3 hz O => by
  subst e1
  subst e2
  exact w_X9_raiseHeld O hm e3 hz x1 x2 D h)
def f_X9_flowsFit_b37 (N : Nat) (nu : Nat) (K : Nat → Nat) (rec_2 : Int32 → Dat → Option (Int32 × Dat)) (x1 : Int32) (D : Dat) : Option (Int32 × Dat) :=
  rec_2 (x1 + 1) D
set_option maxHeartbeats 4000000 in
theorem w_X9_flowsFit_b37 {X : Cx} {n nu c u : Nat} {K : Nat → Nat} {N : Nat} {rec_2 : Int32 → Dat → Option (Int32 × Dat)} {z : Int32 × Dat} (O : Ok X cX9_flowsFit RX9 (some .boolean) 5 110) (hm : wlm (xw X) = true) (hn : xn X = 2) (hz : Z0 X (Ax nu K c u)) (hrec_2 : ∀ (x1 : Int32) (D : Dat), rec_2 x1 D = some z → V X (Q0 X n (Ax nu K c u) (some (.int z.1)) z.2) n (Ax nu K c u) D 2 [(0, .ref (bo X + pp 107)), (1, .int x1)] []) (x1 : Int32) (D : Dat) (h : f_X9_flowsFit_b37 N nu K rec_2 x1 D = some z) : V X (Q0 X n (Ax nu K c u) (some (.int z.1)) z.2) n (Ax nu K c u) D 37 [(0, .ref (bo X + pp 107)), (1, .int x1)] [] := by
  unfold f_X9_flowsFit_b37 at h
  refine v_iinc (pc := 37) (lv' := [(1, .int (x1 + 1)), (0, .ref (bo X + pp 107))]) O dX9_flowsFit_37 1 rfl (congrArg (fun q => x1 + q) ic_1) (by rw [hn]; decide) rfl ?_
  refine v_goto (pc := 40) 2 O dX9_flowsFit_40 (by decide) ?_
  refine v_sub [1, 0] rfl ?_
  exact hrec_2 (x1 + 1) D h
def f_X9_flowsFit_b2 (N : Nat) (nu : Nat) (K : Nat → Nat) : Nat → Int32 → Dat → Option (Int32 × Dat)
  | 0, _, _ => none
  | g + 1, x1, D => ((dR D 107 2)).bind (fun a1 => if a1 = 201 ∨ a1 = 204 then ((f_X0_size a1 D).bind (fun p4 => if p4.1 ≤ x1 then (some (1, p4.2)) else ((f_X9_hasHeight x1 p4.2).bind (fun p7 => if p7.1 = 0 then (f_X9_flowsFit_b37 N nu K (f_X9_flowsFit_b2 N nu K g) x1 p7.2) else ((f_X9_flowFits N nu K x1 p7.2).bind (fun p10 => if p10.1 = 0 then ((f_X9_refuse x1 6 p10.2).bind (fun p13 => if p13.1 &&& 1 = p13.1 then some (p13.1, p13.2) else none)) else (f_X9_flowsFit_b37 N nu K (f_X9_flowsFit_b2 N nu K g) x1 p10.2))))))) else none)
set_option maxHeartbeats 4000000 in
theorem w_X9_flowsFit_b2 {X : Cx} {n nu c u : Nat} {K : Nat → Nat} {N : Nat} {z : Int32 × Dat} (O : Ok X cX9_flowsFit RX9 (some .boolean) 5 110) (hm : wlm (xw X) = true) (hn : xn X = 2) (hz : Z0 X (Ax nu K c u)) : ∀ (g : Nat) (x1 : Int32) (D : Dat), f_X9_flowsFit_b2 N nu K g x1 D = some z → V X (Q0 X n (Ax nu K c u) (some (.int z.1)) z.2) n (Ax nu K c u) D 2 [(0, .ref (bo X + pp 107)), (1, .int x1)] [] := by
  intro g
  induction g with
  | zero => intro x1 D h; exact absurd h (by simp [f_X9_flowsFit_b2])
  | succ g ih =>
    intro x1 D h
    rw [f_X9_flowsFit_b2] at h
    refine v_iload_n (pc := 2) O dX9_flowsFit_2 1 rfl ?_
    refine v_aload_n (pc := 3) O dX9_flowsFit_3 0 rfl ?_
    refine v_getR (pc := 4) (a := 107) O gf_X9_2 fl_X9_83 kq_107 dX9_flowsFit_4 ?_
    obtain ⟨a1, e2, h⟩ := bind_some h
    rw [e2]
    obtain ⟨c3, h⟩ := if_none h
    obtain ⟨p4, e5, h⟩ := bind_some h
    refine v_callV (pc := 7) (a := a1) (As := []) (rest := [.int x1]) (r := (some (.int p4.1))) (D' := p4.2) O (bb0 hz) (c_X0_size hm c3 e5) mw_X0_size im_X0_size se_X0_size ml_X9_110 (kt_X0 c3) (by decide) rfl rfl rfl (by decide) (by decide) (Nat.le_of_ble_eq_true rfl) dX9_flowsFit_7 rfl rfl ?_
    refine v_icmpge (pc := 10) 43 O dX9_flowsFit_10 (by decide) (fun c6 => ?_) (fun c6 => ?_)
    · have h := (if_pos c6).symm.trans h
      refine v_iconst (pc := 43) O dX9_flowsFit_43 ic_1 ?_
      obtain rfl := Option.some.inj h
      exact v_zret (pc := 44) O hz narrow_b1 dX9_flowsFit_44
    · have h := (if_neg c6).symm.trans h
      refine v_aload_n (pc := 13) O dX9_flowsFit_13 0 rfl ?_
      refine v_iload_n (pc := 14) O dX9_flowsFit_14 1 rfl ?_
      obtain ⟨p7, e8, h⟩ := bind_some h
      refine v_callV (pc := 15) (a := 107) (As := [.int x1]) (rest := []) (r := (some (.int p7.1))) (D' := p7.2) O (bb0 hz) (c_X9_hasHeight hm e8) mw_X9_hasHeight im_X9_hasHeight se_X9_hasHeight ml_X9_70 kq_107 (by decide) rfl rfl rfl (by decide) (by decide) (Nat.le_of_ble_eq_true rfl) dX9_flowsFit_15 rfl rfl ?_
      refine v_ifeq (pc := 18) 37 O dX9_flowsFit_18 (by decide) (fun c9 => ?_) (fun c9 => ?_)
      · have h := (if_pos c9).symm.trans h
        refine v_sub [0, 1] rfl ?_
        exact w_X9_flowsFit_b37 O hm hn hz ih x1 p7.2 h
      · have h := (if_neg c9).symm.trans h
        refine v_aload_n (pc := 21) O dX9_flowsFit_21 0 rfl ?_
        refine v_iload_n (pc := 22) O dX9_flowsFit_22 1 rfl ?_
        obtain ⟨p10, e11, h⟩ := bind_some h
        refine v_callV (pc := 23) (a := 107) (As := [.int x1]) (rest := []) (r := (some (.int p10.1))) (D' := p10.2) O (bb0 hz) (c_X9_flowFits hm e11) mw_X9_flowFits im_X9_flowFits se_X9_flowFits ml_X9_194 kq_107 (by decide) rfl rfl rfl (by decide) (by decide) (Nat.le_of_ble_eq_true rfl) dX9_flowsFit_23 rfl rfl ?_
        refine v_ifne (pc := 26) 37 O dX9_flowsFit_26 (by decide) (fun c12 => ?_) (fun c12 => ?_)
        · have h := (if_neg c12).symm.trans h
          refine v_sub [0, 1] rfl ?_
          exact w_X9_flowsFit_b37 O hm hn hz ih x1 p10.2 h
        · have h := (if_pos c12).symm.trans h
          refine v_aload_n (pc := 29) O dX9_flowsFit_29 0 rfl ?_
          refine v_iload_n (pc := 30) O dX9_flowsFit_30 1 rfl ?_
          refine v_bipush (pc := 31) O dX9_flowsFit_31 bp_6 ?_
          obtain ⟨p13, e14, h⟩ := bind_some h
          refine v_callV (pc := 33) (a := 107) (As := [.int x1, .int 6]) (rest := []) (r := (some (.int p13.1))) (D' := p13.2) O (bb0 hz) (c_X9_refuse hm e14) mw_X9_refuse im_X9_refuse se_X9_refuse ml_X9_125 kq_107 (by decide) rfl rfl rfl (by decide) (by decide) (Nat.le_of_ble_eq_true rfl) dX9_flowsFit_33 rfl rfl ?_
          obtain ⟨c15, h⟩ := if_none h
          obtain rfl := Option.some.inj h
          exact v_zret (pc := 36) O hz (congrArg Value.int c15) dX9_flowsFit_36
def f_X9_flowsFit (N : Nat) (nu : Nat) (K : Nat → Nat) (D : Dat) : Option (Int32 × Dat) :=
  f_X9_flowsFit_b2 N nu K N 0 D
set_option maxHeartbeats 4000000 in
theorem w_X9_flowsFit {X : Cx} {n nu c u : Nat} {K : Nat → Nat} {N : Nat} {z : Int32 × Dat} (O : Ok X cX9_flowsFit RX9 (some .boolean) 5 110) (hm : wlm (xw X) = true) (hn : xn X = 2) (hz : Z0 X (Ax nu K c u)) (D : Dat) (h : f_X9_flowsFit N nu K D = some z) : V X (Q0 X n (Ax nu K c u) (some (.int z.1)) z.2) n (Ax nu K c u) D 0 [(0, .ref (bo X + pp 107))] [] := by
  unfold f_X9_flowsFit at h
  refine v_iconst (pc := 0) O dX9_flowsFit_0 ic_0 ?_
  refine v_istore_n (pc := 1) (lv' := [(1, .int 0), (0, .ref (bo X + pp 107))]) O dX9_flowsFit_1 rfl (by rw [hn]; decide) rfl ?_
  refine v_sub [1, 0] rfl ?_
  exact w_X9_flowsFit_b2 O hm hn hz N 0 D h
theorem c_X9_flowsFit {l : Launch} {w : Wx} {n nu c u : Nat} {K : Nat → Nat} {N : Nat} (hm : wlm w = true) {D : Dat} {z : Int32 × Dat} (h : f_X9_flowsFit N nu K D = some z) : C0 l w yX9_flowsFit cX9_flowsFit 2 (some .boolean) 5 110 [.ref (wb w + pp 107)] n (Ax nu K c u) D (some (.int z.1)) z.2 :=
  C0.of (by decide) (Nat.le_of_ble_eq_true rfl) (fun X e1 e2 e3 hz O => by
  subst e1
  subst e2
  exact w_X9_flowsFit O hm e3 hz  D h)
def f_X11_seal (N : Nat) (nu : Nat) (K : Nat → Nat) (D : Dat) : Option (Sum Nat Int32 × Dat) :=
  (f_X2_isSealed D).bind (fun p1 => if p1.1 = 0 then ((f_X2_unfitPair N nu K p1.2).bind (fun p4 => if p4.1 = (-1) then ((f_X11_tell (-1) (-1) p4.2).bind (fun p7 => (f_X2_close N nu K p7).bind (fun p9 => (f_X2_bottom p9).bind (fun p11 => some (.inr p11.1, p11.2))))) else ((f_X11_tell p4.1 7 p4.2).bind (fun p13 => some (.inl 2, p13))))) else (some (.inl 1, p1.2)))
set_option maxHeartbeats 4000000 in
theorem w_X11_seal {X : Cx} {n nu c u : Nat} {K : Nat → Nat} {N : Nat} {z : Sum Nat Int32 × Dat} (O : Ok X cX11_seal RX11 (some .int) 6 114) (hm : wlm (xw X) = true) (hn : xn X = 2) (hz : Z0 X (Ax nu K c u)) (hT : T1 X (zi z)) (D : Dat) (h : f_X11_seal N nu K D = some z) : V X (Q1 X n (Ax nu K c u) (zi z)) n (Ax nu K c u) D 0 [(0, .ref (bo X + pp 0))] [] := by
  unfold f_X11_seal at h
  refine v_aload_n (pc := 0) O dX11_seal_0 0 rfl ?_
  refine v_getK (pc := 1) (a := 0) O hm gf_X11_0 fl_X11_23 kq_0 lk_0_0 dX11_seal_1 ?_
  obtain ⟨p1, e2, h⟩ := bind_some h
  refine v_callV (pc := 4) (a := 1) (As := []) (rest := []) (r := (some (.int p1.1))) (D' := p1.2) O (bb0 hz) (c_X2_isSealed hm e2) mw_X2_isSealed im_X2_isSealed se_X2_isSealed ml_X11_117 kq_1 (by decide) rfl rfl rfl (by decide) (by decide) (Nat.le_of_ble_eq_true rfl) dX11_seal_4 rfl rfl ?_
  refine v_ifeq (pc := 7) 18 O dX11_seal_7 (by decide) (fun c3 => ?_) (fun c3 => ?_)
  · have h := (if_pos c3).symm.trans h
    refine v_aload_n (pc := 18) O dX11_seal_18 0 rfl ?_
    refine v_getK (pc := 19) (a := 0) O hm gf_X11_0 fl_X11_23 kq_0 lk_0_0 dX11_seal_19 ?_
    obtain ⟨p4, e5, h⟩ := bind_some h
    refine v_callV (pc := 22) (a := 1) (As := []) (rest := []) (r := (some (.int p4.1))) (D' := p4.2) O (bb0 hz) (c_X2_unfitPair hm e5) mw_X2_unfitPair im_X2_unfitPair se_X2_unfitPair ml_X11_132 kq_1 (by decide) rfl rfl rfl (by decide) (by decide) (Nat.le_of_ble_eq_true rfl) dX11_seal_22 rfl rfl ?_
    refine v_istore_n (pc := 25) (lv' := [(1, .int p4.1), (0, .ref (bo X + pp 0))]) O dX11_seal_25 rfl (by rw [hn]; decide) rfl ?_
    refine v_iload_n (pc := 26) O dX11_seal_26 0 rfl ?_
    refine v_iconst (pc := 27) O dX11_seal_27 ic_m1 ?_
    refine v_icmpeq (pc := 28) 46 O dX11_seal_28 (by decide) (fun c6 => ?_) (fun c6 => ?_)
    · have h := (if_pos c6).symm.trans h
      refine v_aload_n (pc := 46) O dX11_seal_46 1 rfl ?_
      refine v_iconst (pc := 47) O dX11_seal_47 ic_m1 ?_
      refine v_iconst (pc := 48) O dX11_seal_48 ic_m1 ?_
      obtain ⟨p7, e8, h⟩ := bind_some h
      refine v_callV (pc := 49) (a := 0) (As := [.int (-1), .int (-1)]) (rest := []) (r := none) (D' := p7) O (bb0 hz) (c_X11_tell hm e8) mw_X11_tell im_X11_tell se_X11_tell ml_X11_135 kq_0 (by decide) rfl rfl rfl (by decide) (by decide) (Nat.le_of_ble_eq_true rfl) dX11_seal_49 rfl rfl ?_
      refine v_aload_n (pc := 52) O dX11_seal_52 1 rfl ?_
      refine v_getK (pc := 53) (a := 0) O hm gf_X11_0 fl_X11_23 kq_0 lk_0_0 dX11_seal_53 ?_
      obtain ⟨p9, e10, h⟩ := bind_some h
      refine v_callV (pc := 56) (a := 1) (As := []) (rest := []) (r := none) (D' := p9) O (bb0 hz) (c_X2_close hm e10) mw_X2_close im_X2_close se_X2_close ml_X11_141 kq_1 (by decide) rfl rfl rfl (by decide) (by decide) (Nat.le_of_ble_eq_true rfl) dX11_seal_56 rfl rfl ?_
      refine v_aload_n (pc := 59) O dX11_seal_59 1 rfl ?_
      refine v_getK (pc := 60) (a := 0) O hm gf_X11_0 fl_X11_23 kq_0 lk_0_0 dX11_seal_60 ?_
      obtain ⟨p11, e12, h⟩ := bind_some h
      refine v_callV (pc := 63) (a := 1) (As := []) (rest := []) (r := (some (.int p11.1))) (D' := p11.2) O (bb0 hz) (c_X2_bottom hm e12) mw_X2_bottom im_X2_bottom se_X2_bottom ml_X11_144 kq_1 (by decide) rfl rfl rfl (by decide) (by decide) (Nat.le_of_ble_eq_true rfl) dX11_seal_63 rfl rfl ?_
      obtain rfl := Option.some.inj h
      exact v_r1 (v_iret (pc := 66) O hz dX11_seal_66)
    · have h := (if_neg c6).symm.trans h
      refine v_aload_n (pc := 31) O dX11_seal_31 1 rfl ?_
      refine v_iload_n (pc := 32) O dX11_seal_32 0 rfl ?_
      refine v_bipush (pc := 33) O dX11_seal_33 bp_7 ?_
      obtain ⟨p13, e14, h⟩ := bind_some h
      refine v_callV (pc := 35) (a := 0) (As := [.int p4.1, .int 7]) (rest := []) (r := none) (D' := p13) O (bb0 hz) (c_X11_tell hm e14) mw_X11_tell im_X11_tell se_X11_tell ml_X11_135 kq_0 (by decide) rfl rfl rfl (by decide) (by decide) (Nat.le_of_ble_eq_true rfl) dX11_seal_35 rfl rfl ?_
      obtain rfl := Option.some.inj h
      exact v_throw (pc := 38) (e := 2) O hz hT rfl tw_X11_138_140 (by decide) (Nat.le_of_ble_eq_true rfl) dX11_seal_38 dX11_seal_41 dX11_seal_42 dX11_seal_45
  · have h := (if_neg c3).symm.trans h
    obtain rfl := Option.some.inj h
    exact v_throw (pc := 10) (e := 1) O hz hT rfl tw_X11_121_123 (by decide) (Nat.le_of_ble_eq_true rfl) dX11_seal_10 dX11_seal_13 dX11_seal_14 dX11_seal_17
theorem c_X11_seal {l : Launch} {w : Wx} {n nu c u : Nat} {K : Nat → Nat} {N : Nat} (hl : l.stackTraces = false) (hm : wlm w = true) {D : Dat} {z : Sum Nat Int32 × Dat} (h : f_X11_seal N nu K D = some z) : C1 l w yX11_seal cX11_seal 2 (some .int) 6 114 [.ref (wb w + pp 0)] n (Ax nu K c u) D (zi z) :=
  C1.of hl (by decide) (Nat.le_of_ble_eq_true rfl) (fun X e1 e2 e3 hz hT O => by
  subst e1
  subst e2
  exact w_X11_seal O hm e3 hz hT  D h)
def f_X11_label_b31 (N : Nat) (nu : Nat) (K : Nat → Nat) (D : Dat) : Option (Sum Nat Int32 × Dat) :=
  some (.inl 0, D)
set_option maxHeartbeats 4000000 in
theorem w_X11_label_b31 {X : Cx} {n nu c u : Nat} {K : Nat → Nat} {N : Nat} {z : Sum Nat Int32 × Dat} (O : Ok X cX11_label RX11 (some .int) 6 100) (hm : wlm (xw X) = true) (hn : xn X = 4) (hz : Z0 X (Ax nu K c u)) (hT : T1 X (zi z)) (D : Dat) (h : f_X11_label_b31 N nu K D = some z) : V X (Q1 X n (Ax nu K c u) (zi z)) n (Ax nu K c u) D 31 [] [] := by
  unfold f_X11_label_b31 at h
  obtain rfl := Option.some.inj h
  exact v_throw (pc := 31) (e := 0) O hz hT rfl tw_X11_114_116 (by decide) (Nat.le_of_ble_eq_true rfl) dX11_label_31 dX11_label_34 dX11_label_35 dX11_label_38
def f_X11_label_b100 (N : Nat) (nu : Nat) (K : Nat → Nat) (s0 : Int32) (D : Dat) : Option (Sum Nat Int32 × Dat) :=
  some (.inr s0, D)
set_option maxHeartbeats 4000000 in
theorem w_X11_label_b100 {X : Cx} {n nu c u : Nat} {K : Nat → Nat} {N : Nat} {z : Sum Nat Int32 × Dat} (O : Ok X cX11_label RX11 (some .int) 6 100) (hm : wlm (xw X) = true) (hn : xn X = 4) (hz : Z0 X (Ax nu K c u)) (hT : T1 X (zi z)) (s0 : Int32) (D : Dat) (h : f_X11_label_b100 N nu K s0 D = some z) : V X (Q1 X n (Ax nu K c u) (zi z)) n (Ax nu K c u) D 100 [] [.int s0] := by
  unfold f_X11_label_b100 at h
  obtain rfl := Option.some.inj h
  exact v_r1 (v_iret (pc := 100) O hz dX11_label_100)
def f_X11_label (N : Nat) (nu : Nat) (K : Nat → Nat) (x1 : Int32) (x2 : Int32) (x3 : Int32) (D : Dat) : Option (Sum Nat Int32 × Dat) :=
  if x1 < 0 then (f_X11_label_b31 N nu K D) else (if 2 < x1 then (f_X11_label_b31 N nu K D) else ((f_X2_has x2 D).bind (fun p3 => if p3.1 = 0 then (f_X11_label_b31 N nu K p3.2) else ((f_X2_has x3 p3.2).bind (fun p6 => if p6.1 = 0 then (f_X11_label_b31 N nu K p6.2) else (if x1 = 0 then ((f_X2_leads nu K x2 x3 p6.2).bind (fun p18 => (f_X11_asNumber p18.1 p18.2).bind (fun p20 => some (.inr p20.1, p20.2)))) else ((f_X2_isSealed p6.2).bind (fun p10 => if p10.1 = 0 then (some (.inl 1, p10.2)) else (if x1 = 1 then ((f_X2_join N nu K x2 x3 p10.2).bind (fun p16 => f_X11_label_b100 N nu K p16.1 p16.2)) else ((f_X2_meet N nu K x2 x3 p10.2).bind (fun p14 => f_X11_label_b100 N nu K p14.1 p14.2)))))))))))
set_option maxHeartbeats 4000000 in
theorem w_X11_label {X : Cx} {n nu c u : Nat} {K : Nat → Nat} {N : Nat} {z : Sum Nat Int32 × Dat} (O : Ok X cX11_label RX11 (some .int) 6 100) (hm : wlm (xw X) = true) (hn : xn X = 4) (hz : Z0 X (Ax nu K c u)) (hT : T1 X (zi z)) (x1 : Int32) (x2 : Int32) (x3 : Int32) (D : Dat) (h : f_X11_label N nu K x1 x2 x3 D = some z) : V X (Q1 X n (Ax nu K c u) (zi z)) n (Ax nu K c u) D 0 [(0, .ref (bo X + pp 0)), (1, .int x1), (2, .int x2), (3, .int x3)] [] := by
  unfold f_X11_label at h
  refine v_iload_n (pc := 0) O dX11_label_0 1 rfl ?_
  refine v_iflt (pc := 1) 31 O dX11_label_1 (by decide) (fun c1 => ?_) (fun c1 => ?_)
  · have h := (if_pos c1).symm.trans h
    refine v_sub [] rfl ?_
    exact w_X11_label_b31 O hm hn hz hT D h
  · have h := (if_neg c1).symm.trans h
    refine v_iload_n (pc := 4) O dX11_label_4 1 rfl ?_
    refine v_iconst (pc := 5) O dX11_label_5 ic_2 ?_
    refine v_icmpgt (pc := 6) 31 O dX11_label_6 (by decide) (fun c2 => ?_) (fun c2 => ?_)
    · have h := (if_pos c2).symm.trans h
      refine v_sub [] rfl ?_
      exact w_X11_label_b31 O hm hn hz hT D h
    · have h := (if_neg c2).symm.trans h
      refine v_aload_n (pc := 9) O dX11_label_9 0 rfl ?_
      refine v_getK (pc := 10) (a := 0) O hm gf_X11_0 fl_X11_23 kq_0 lk_0_0 dX11_label_10 ?_
      refine v_iload_n (pc := 13) O dX11_label_13 2 rfl ?_
      obtain ⟨p3, e4, h⟩ := bind_some h
      refine v_callV (pc := 14) (a := 1) (As := [.int x2]) (rest := []) (r := (some (.int p3.1))) (D' := p3.2) O (bb0 hz) (c_X2_has hm e4) mw_X2_has im_X2_has se_X2_has ml_X11_110 kq_1 (by decide) rfl rfl rfl (by decide) (by decide) (Nat.le_of_ble_eq_true rfl) dX11_label_14 rfl rfl ?_
      refine v_ifeq (pc := 17) 31 O dX11_label_17 (by decide) (fun c5 => ?_) (fun c5 => ?_)
      · have h := (if_pos c5).symm.trans h
        refine v_sub [] rfl ?_
        exact w_X11_label_b31 O hm hn hz hT p3.2 h
      · have h := (if_neg c5).symm.trans h
        refine v_aload_n (pc := 20) O dX11_label_20 0 rfl ?_
        refine v_getK (pc := 21) (a := 0) O hm gf_X11_0 fl_X11_23 kq_0 lk_0_0 dX11_label_21 ?_
        refine v_iload_n (pc := 24) O dX11_label_24 3 rfl ?_
        obtain ⟨p6, e7, h⟩ := bind_some h
        refine v_callV (pc := 25) (a := 1) (As := [.int x3]) (rest := []) (r := (some (.int p6.1))) (D' := p6.2) O (bb0 hz) (c_X2_has hm e7) mw_X2_has im_X2_has se_X2_has ml_X11_110 kq_1 (by decide) rfl rfl rfl (by decide) (by decide) (Nat.le_of_ble_eq_true rfl) dX11_label_25 rfl rfl ?_
        refine v_ifne (pc := 28) 39 O dX11_label_28 (by decide) (fun c8 => ?_) (fun c8 => ?_)
        · have h := (if_neg c8).symm.trans h
          refine v_iload_n (pc := 39) O dX11_label_39 1 rfl ?_
          refine v_ifne (pc := 40) 56 O dX11_label_40 (by decide) (fun c9 => ?_) (fun c9 => ?_)
          · have h := (if_neg c9).symm.trans h
            refine v_aload_n (pc := 56) O dX11_label_56 0 rfl ?_
            refine v_getK (pc := 57) (a := 0) O hm gf_X11_0 fl_X11_23 kq_0 lk_0_0 dX11_label_57 ?_
            obtain ⟨p10, e11, h⟩ := bind_some h
            refine v_callV (pc := 60) (a := 1) (As := []) (rest := []) (r := (some (.int p10.1))) (D' := p10.2) O (bb0 hz) (c_X2_isSealed hm e11) mw_X2_isSealed im_X2_isSealed se_X2_isSealed ml_X11_117 kq_1 (by decide) rfl rfl rfl (by decide) (by decide) (Nat.le_of_ble_eq_true rfl) dX11_label_60 rfl rfl ?_
            refine v_ifne (pc := 63) 74 O dX11_label_63 (by decide) (fun c12 => ?_) (fun c12 => ?_)
            · have h := (if_neg c12).symm.trans h
              refine v_iload_n (pc := 74) O dX11_label_74 1 rfl ?_
              refine v_iconst (pc := 75) O dX11_label_75 ic_1 ?_
              refine v_icmpne (pc := 76) 91 O dX11_label_76 (by decide) (fun c13 => ?_) (fun c13 => ?_)
              · have h := (if_neg c13).symm.trans h
                refine v_aload_n (pc := 91) O dX11_label_91 0 rfl ?_
                refine v_getK (pc := 92) (a := 0) O hm gf_X11_0 fl_X11_23 kq_0 lk_0_0 dX11_label_92 ?_
                refine v_iload_n (pc := 95) O dX11_label_95 2 rfl ?_
                refine v_iload_n (pc := 96) O dX11_label_96 3 rfl ?_
                obtain ⟨p14, e15, h⟩ := bind_some h
                refine v_callV (pc := 97) (a := 1) (As := [.int x2, .int x3]) (rest := []) (r := (some (.int p14.1))) (D' := p14.2) O (bb0 hz) (c_X2_meet hm e15) mw_X2_meet im_X2_meet se_X2_meet ml_X11_158 kq_1 (by decide) rfl rfl rfl (by decide) (by decide) (Nat.le_of_ble_eq_true rfl) dX11_label_97 rfl rfl ?_
                refine v_sub [] rfl ?_
                exact w_X11_label_b100 O hm hn hz hT p14.1 p14.2 h
              · have h := (if_pos c13).symm.trans h
                refine v_aload_n (pc := 79) O dX11_label_79 0 rfl ?_
                refine v_getK (pc := 80) (a := 0) O hm gf_X11_0 fl_X11_23 kq_0 lk_0_0 dX11_label_80 ?_
                refine v_iload_n (pc := 83) O dX11_label_83 2 rfl ?_
                refine v_iload_n (pc := 84) O dX11_label_84 3 rfl ?_
                obtain ⟨p16, e17, h⟩ := bind_some h
                refine v_callV (pc := 85) (a := 1) (As := [.int x2, .int x3]) (rest := []) (r := (some (.int p16.1))) (D' := p16.2) O (bb0 hz) (c_X2_join hm e17) mw_X2_join im_X2_join se_X2_join ml_X11_155 kq_1 (by decide) rfl rfl rfl (by decide) (by decide) (Nat.le_of_ble_eq_true rfl) dX11_label_85 rfl rfl ?_
                refine v_goto (pc := 88) 100 O dX11_label_88 (by decide) ?_
                refine v_sub [] rfl ?_
                exact w_X11_label_b100 O hm hn hz hT p16.1 p16.2 h
            · have h := (if_pos c12).symm.trans h
              obtain rfl := Option.some.inj h
              exact v_throw (pc := 66) (e := 1) O hz hT rfl tw_X11_121_123 (by decide) (Nat.le_of_ble_eq_true rfl) dX11_label_66 dX11_label_69 dX11_label_70 dX11_label_73
          · have h := (if_pos c9).symm.trans h
            refine v_aload_n (pc := 43) O dX11_label_43 0 rfl ?_
            refine v_getK (pc := 44) (a := 0) O hm gf_X11_0 fl_X11_23 kq_0 lk_0_0 dX11_label_44 ?_
            refine v_iload_n (pc := 47) O dX11_label_47 2 rfl ?_
            refine v_iload_n (pc := 48) O dX11_label_48 3 rfl ?_
            obtain ⟨p18, e19, h⟩ := bind_some h
            refine v_callV (pc := 49) (a := 1) (As := [.int x2, .int x3]) (rest := []) (r := (some (.int p18.1))) (D' := p18.2) O (bb0 hz) (c_X2_leads hm e19) mw_X2_leads im_X2_leads se_X2_leads ml_X11_147 kq_1 (by decide) rfl rfl rfl (by decide) (by decide) (Nat.le_of_ble_eq_true rfl) dX11_label_49 rfl rfl ?_
            obtain ⟨p20, e21, h⟩ := bind_some h
            refine v_callS (pc := 52) (As := [.int p18.1]) (rest := []) (r := (some (.int p20.1))) (D' := p20.2) O (bb0 hz) (c_X11_asNumber hm e21) mw_X11_asNumber sm_X11_asNumber ml_X11_151 rfl (by decide) (by decide) (Nat.le_of_ble_eq_true rfl) dX11_label_52 rfl rfl ?_
            obtain rfl := Option.some.inj h
            exact v_r1 (v_iret (pc := 55) O hz dX11_label_55)
        · have h := (if_pos c8).symm.trans h
          refine v_sub [] rfl ?_
          exact w_X11_label_b31 O hm hn hz hT p6.2 h
theorem c_X11_label {l : Launch} {w : Wx} {n nu c u : Nat} {K : Nat → Nat} {N : Nat} (hl : l.stackTraces = false) (hm : wlm w = true) {x1 : Int32} {x2 : Int32} {x3 : Int32} {D : Dat} {z : Sum Nat Int32 × Dat} (h : f_X11_label N nu K x1 x2 x3 D = some z) : C1 l w yX11_label cX11_label 4 (some .int) 6 100 [.ref (wb w + pp 0), .int x1, .int x2, .int x3] n (Ax nu K c u) D (zi z) :=
  C1.of hl (by decide) (Nat.le_of_ble_eq_true rfl) (fun X e1 e2 e3 hz hT O => by
  subst e1
  subst e2
  exact w_X11_label O hm e3 hz hT x1 x2 x3 D h)
