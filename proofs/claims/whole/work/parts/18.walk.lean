theorem cw_X12_codeBack : Cond.code yX12_codeBack cX12_codeBack 5 (some .int) ∈ tb := tb_of 2187 (by decide +kernel) (by decide +kernel)
theorem mw_X12_codeBack : MW yX12_codeBack cX12_codeBack 5 (some .int) 0 := ⟨cw_X12_codeBack, ini_X12, by decide +kernel⟩
theorem im_X12_codeBack : Cond.instanceMethod yX12_codeBack ∈ tb := tb_of 2186 (by decide +kernel) (by decide +kernel)
theorem se_X12_codeBack : Cond.selects (yX12_codeBack).cls yX12_codeBack yX12_codeBack ∈ tb := tb_of 129 (by decide +kernel) (by decide +kernel)
theorem ml_X12_394 : Cond.methodLink RX12 394 yX12_codeBack ∈ tb := tb_of 2184 (by decide +kernel) (by decide +kernel)
theorem cw_X12_codeThrough : Cond.code yX12_codeThrough cX12_codeThrough 3 (some .int) ∈ tb := tb_of 2175 (by decide +kernel) (by decide +kernel)
theorem mw_X12_codeThrough : MW yX12_codeThrough cX12_codeThrough 3 (some .int) 1 := ⟨cw_X12_codeThrough, ini_X12, by decide +kernel⟩
theorem im_X12_codeThrough : Cond.instanceMethod yX12_codeThrough ∈ tb := tb_of 2174 (by decide +kernel) (by decide +kernel)
theorem se_X12_codeThrough : Cond.selects (yX12_codeThrough).cls yX12_codeThrough yX12_codeThrough ∈ tb := tb_of 126 (by decide +kernel) (by decide +kernel)
theorem ml_X12_391 : Cond.methodLink RX12 391 yX12_codeThrough ∈ tb := tb_of 2172 (by decide +kernel) (by decide +kernel)
theorem bp_15 : (Int8.ofInt (15)).toInt32 = (15 : Int32) := by decide
theorem cw_X12_parse : Cond.code yX12_parse cX12_parse 2 none ∈ tb := tb_of 2027 (by decide +kernel) (by decide +kernel)
theorem mw_X12_parse : MW yX12_parse cX12_parse 2 none 0 := ⟨cw_X12_parse, ini_X12, by decide +kernel⟩
theorem im_X12_parse : Cond.instanceMethod yX12_parse ∈ tb := tb_of 2026 (by decide +kernel) (by decide +kernel)
theorem se_X12_parse : Cond.selects (yX12_parse).cls yX12_parse yX12_parse ∈ tb := tb_of 89 (by decide +kernel) (by decide +kernel)
theorem ml_X12_397 : Cond.methodLink RX12 397 yX12_parse ∈ tb := tb_of 2024 (by decide +kernel) (by decide +kernel)
theorem cw_X12_flow : Cond.code yX12_flow cX12_flow 2 none ∈ tb := tb_of 2135 (by decide +kernel) (by decide +kernel)
theorem mw_X12_flow : MW yX12_flow cX12_flow 2 none 0 := ⟨cw_X12_flow, ini_X12, by decide +kernel⟩
theorem im_X12_flow : Cond.instanceMethod yX12_flow ∈ tb := tb_of 2134 (by decide +kernel) (by decide +kernel)
theorem se_X12_flow : Cond.selects (yX12_flow).cls yX12_flow yX12_flow ∈ tb := tb_of 116 (by decide +kernel) (by decide +kernel)
theorem ml_X12_400 : Cond.methodLink RX12 400 yX12_flow ∈ tb := tb_of 2132 (by decide +kernel) (by decide +kernel)
theorem cw_X12_translate : Cond.code yX12_translate cX12_translate 3 none ∈ tb := tb_of 2171 (by decide +kernel) (by decide +kernel)
theorem mw_X12_translate : MW yX12_translate cX12_translate 3 none 0 := ⟨cw_X12_translate, ini_X12, by decide +kernel⟩
theorem im_X12_translate : Cond.instanceMethod yX12_translate ∈ tb := tb_of 2170 (by decide +kernel) (by decide +kernel)
theorem se_X12_translate : Cond.selects (yX12_translate).cls yX12_translate yX12_translate ∈ tb := tb_of 125 (by decide +kernel) (by decide +kernel)
theorem ml_X12_403 : Cond.methodLink RX12 403 yX12_translate ∈ tb := tb_of 2168 (by decide +kernel) (by decide +kernel)
theorem fl_X12_406 : Cond.fieldLink RX12 406 RX12 (TX12 13).2.1 (TX12 13).2.2.1 ∈ tb := tb_of 1733 (by decide +kernel) (by decide +kernel)
theorem gf_X12_13 : FI 12 RX12 TX12 85 tyX12 13 0 := ⟨rfl, inb_X12, tyX12_ok, nmX12, by decide, by decide, rfl, rfl, rfl⟩
theorem pf_X12_13 : PI 12 RX12 TX12 85 tyX12 13 0 .int := ⟨gf_X12_13, rfl, rfl⟩
theorem fl_X12_30 : Cond.fieldLink RX12 30 RX12 (TX12 11).2.1 (TX12 11).2.2.1 ∈ tb := tb_of 1731 (by decide +kernel) (by decide +kernel)
theorem gf_X12_11 : FI 12 RX12 TX12 85 tyX12 11 3 := ⟨rfl, inb_X12, tyX12_ok, nmX12, by decide, by decide, rfl, rfl, rfl⟩
theorem lk_207_11 : lks 207 11 = some 212 := by decide +kernel
theorem kq_212 {nu c u : Nat} {K : Nat → Nat} : (Ax nu K c u).1 212 = 14 := kd_lt (K := K) (a := 212) (by decide) rfl
theorem lq_212 {nu c u : Nat} {K : Nat → Nat} : (Ax nu K c u).2.1 212 = 64 := rfl
theorem fl_X12_33 : Cond.fieldLink RX12 33 RX12 (TX12 12).2.1 (TX12 12).2.2.1 ∈ tb := tb_of 1732 (by decide +kernel) (by decide +kernel)
theorem gf_X12_12 : FI 12 RX12 TX12 85 tyX12 12 3 := ⟨rfl, inb_X12, tyX12_ok, nmX12, by decide, by decide, rfl, rfl, rfl⟩
theorem lk_207_12 : lks 207 12 = some 213 := by decide +kernel
theorem kq_213 {nu c u : Nat} {K : Nat → Nat} : (Ax nu K c u).1 213 = 14 := kd_lt (K := K) (a := 213) (by decide) rfl
theorem lq_213 {nu c u : Nat} {K : Nat → Nat} : (Ax nu K c u).2.1 213 = 64 := rfl
theorem pf_X12_18 : PI 12 RX12 TX12 85 tyX12 18 0 .boolean := ⟨gf_X12_18, rfl, rfl⟩
theorem pf_X12_19 : PI 12 RX12 TX12 85 tyX12 19 0 .int := ⟨gf_X12_19, rfl, rfl⟩
theorem fl_X12_409 : Cond.fieldLink RX12 409 RX12 (TX12 16).2.1 (TX12 16).2.2.1 ∈ tb := tb_of 1736 (by decide +kernel) (by decide +kernel)
theorem gf_X12_16 : FI 12 RX12 TX12 85 tyX12 16 0 := ⟨rfl, inb_X12, tyX12_ok, nmX12, by decide, by decide, rfl, rfl, rfl⟩
theorem pf_X12_16 : PI 12 RX12 TX12 85 tyX12 16 0 .boolean := ⟨gf_X12_16, rfl, rfl⟩
theorem fl_X12_412 : Cond.fieldLink RX12 412 RX12 (TX12 17).2.1 (TX12 17).2.2.1 ∈ tb := tb_of 1737 (by decide +kernel) (by decide +kernel)
theorem gf_X12_17 : FI 12 RX12 TX12 85 tyX12 17 0 := ⟨rfl, inb_X12, tyX12_ok, nmX12, by decide, by decide, rfl, rfl, rfl⟩
theorem pf_X12_17 : PI 12 RX12 TX12 85 tyX12 17 0 .boolean := ⟨gf_X12_17, rfl, rfl⟩
theorem fl_X12_36 : Cond.fieldLink RX12 36 RX12 (TX12 14).2.1 (TX12 14).2.2.1 ∈ tb := tb_of 1734 (by decide +kernel) (by decide +kernel)
theorem gf_X12_14 : FI 12 RX12 TX12 85 tyX12 14 3 := ⟨rfl, inb_X12, tyX12_ok, nmX12, by decide, by decide, rfl, rfl, rfl⟩
theorem lk_207_14 : lks 207 14 = some 214 := by decide +kernel
theorem kq_214 {nu c u : Nat} {K : Nat → Nat} : (Ax nu K c u).1 214 = 14 := kd_lt (K := K) (a := 214) (by decide) rfl
theorem lq_214 {nu c u : Nat} {K : Nat → Nat} : (Ax nu K c u).2.1 214 = 26 := rfl
theorem fl_X12_39 : Cond.fieldLink RX12 39 RX12 (TX12 15).2.1 (TX12 15).2.2.1 ∈ tb := tb_of 1735 (by decide +kernel) (by decide +kernel)
theorem gf_X12_15 : FI 12 RX12 TX12 85 tyX12 15 3 := ⟨rfl, inb_X12, tyX12_ok, nmX12, by decide, by decide, rfl, rfl, rfl⟩
theorem lk_207_15 : lks 207 15 = some 215 := by decide +kernel
theorem kq_215 {nu c u : Nat} {K : Nat → Nat} : (Ax nu K c u).1 215 = 14 := kd_lt (K := K) (a := 215) (by decide) rfl
theorem lq_215 {nu c u : Nat} {K : Nat → Nat} : (Ax nu K c u).2.1 215 = 26 := rfl
theorem cw_X12_changed : Cond.code yX12_changed cX12_changed 1 none ∈ tb := tb_of 2195 (by decide +kernel) (by decide +kernel)
theorem mw_X12_changed : MW yX12_changed cX12_changed 1 none 0 := ⟨cw_X12_changed, ini_X12, by decide +kernel⟩
theorem im_X12_changed : Cond.instanceMethod yX12_changed ∈ tb := tb_of 2194 (by decide +kernel) (by decide +kernel)
theorem se_X12_changed : Cond.selects (yX12_changed).cls yX12_changed yX12_changed ∈ tb := tb_of 130 (by decide +kernel) (by decide +kernel)
theorem ml_X12_415 : Cond.methodLink RX12 415 yX12_changed ∈ tb := tb_of 2192 (by decide +kernel) (by decide +kernel)
def f_X12_translate_b56 (N : Nat) (rec_20 : Int32 → Dat → Option (Dat)) (s0 : Int32) (D : Dat) : Option (Dat) :=
  rec_20 s0 D
set_option maxHeartbeats 4000000 in
theorem w_X12_translate_b56 {X : Cx} {n nu c u : Nat} {K : Nat → Nat} {N : Nat} {rec_20 : Int32 → Dat → Option (Dat)} {z : Dat} (O : Ok X cX12_translate RX12 none 3 67) (hm : wlm (xw X) = true) (hn : xn X = 3) (hz : Z0 X (Ax nu K c u)) (hrec_20 : ∀ (x1 : Int32) (D : Dat), rec_20 x1 D = some z → V X (Q0 X n (Ax nu K c u) none z) n (Ax nu K c u) D 20 [(0, .ref (bo X + pp 207)), (1, .int x1)] []) (s0 : Int32) (D : Dat) (h : f_X12_translate_b56 N rec_20 s0 D = some z) : V X (Q0 X n (Ax nu K c u) none z) n (Ax nu K c u) D 56 [(0, .ref (bo X + pp 207))] [.int s0] := by
  unfold f_X12_translate_b56 at h
  refine v_istore_n (pc := 56) (lv' := [(1, .int s0), (0, .ref (bo X + pp 207))]) O dX12_translate_56 rfl (by rw [hn]; decide) rfl ?_
  refine v_goto (pc := 57) 20 O dX12_translate_57 (by decide) ?_
  refine v_sub [1, 0] rfl ?_
  exact hrec_20 s0 D h
def f_X12_translate_b40 (N : Nat) (rec_20 : Int32 → Dat → Option (Dat)) (x1 : Int32) (D : Dat) : Option (Dat) :=
  if x1 < 0 then ((f_X12_codeBack D).bind (fun p2 => f_X12_translate_b56 N rec_20 p2.1 p2.2)) else ((f_X12_codeThrough N x1 D).bind (fun p4 => f_X12_translate_b56 N rec_20 p4.1 p4.2))
set_option maxHeartbeats 4000000 in
theorem w_X12_translate_b40 {X : Cx} {n nu c u : Nat} {K : Nat → Nat} {N : Nat} {rec_20 : Int32 → Dat → Option (Dat)} {z : Dat} (O : Ok X cX12_translate RX12 none 3 67) (hm : wlm (xw X) = true) (hn : xn X = 3) (hz : Z0 X (Ax nu K c u)) (hrec_20 : ∀ (x1 : Int32) (D : Dat), rec_20 x1 D = some z → V X (Q0 X n (Ax nu K c u) none z) n (Ax nu K c u) D 20 [(0, .ref (bo X + pp 207)), (1, .int x1)] []) (x1 : Int32) (D : Dat) (h : f_X12_translate_b40 N rec_20 x1 D = some z) : V X (Q0 X n (Ax nu K c u) none z) n (Ax nu K c u) D 40 [(0, .ref (bo X + pp 207)), (1, .int x1)] [] := by
  unfold f_X12_translate_b40 at h
  refine v_iload_n (pc := 40) O dX12_translate_40 1 rfl ?_
  refine v_iflt (pc := 41) 52 O dX12_translate_41 (by decide) (fun c1 => ?_) (fun c1 => ?_)
  · have h := (if_pos c1).symm.trans h
    refine v_aload_n (pc := 52) O dX12_translate_52 0 rfl ?_
    obtain ⟨p2, e3, h⟩ := bind_some h
    refine v_callV (pc := 53) (a := 207) (As := []) (rest := []) (r := (some (.int p2.1))) (D' := p2.2) O (bb0 hz) (c_X12_codeBack hm e3) mw_X12_codeBack im_X12_codeBack se_X12_codeBack ml_X12_394 kq_207 (by decide) rfl rfl rfl (by decide) (by decide) (Nat.le_of_ble_eq_true rfl) dX12_translate_53 rfl rfl ?_
    refine v_sub [0] rfl ?_
    exact w_X12_translate_b56 O hm hn hz hrec_20 p2.1 p2.2 h
  · have h := (if_neg c1).symm.trans h
    refine v_aload_n (pc := 44) O dX12_translate_44 0 rfl ?_
    refine v_iload_n (pc := 45) O dX12_translate_45 1 rfl ?_
    obtain ⟨p4, e5, h⟩ := bind_some h
    refine v_callV (pc := 46) (a := 207) (As := [.int x1]) (rest := []) (r := (some (.int p4.1))) (D' := p4.2) O (bb0 hz) (c_X12_codeThrough hm e5) mw_X12_codeThrough im_X12_codeThrough se_X12_codeThrough ml_X12_391 kq_207 (by decide) rfl rfl rfl (by decide) (by decide) (Nat.le_of_ble_eq_true rfl) dX12_translate_46 rfl rfl ?_
    refine v_goto (pc := 49) 56 O dX12_translate_49 (by decide) ?_
    refine v_sub [0] rfl ?_
    exact w_X12_translate_b56 O hm hn hz hrec_20 p4.1 p4.2 h
def f_X12_translate_b60 (N : Nat) (D : Dat) : Option (Dat) :=
  (f_X12_put 15 0 D).bind (fun p6 => some p6.2)
set_option maxHeartbeats 4000000 in
theorem w_X12_translate_b60 {X : Cx} {n nu c u : Nat} {K : Nat → Nat} {N : Nat} {z : Dat} (O : Ok X cX12_translate RX12 none 3 67) (hm : wlm (xw X) = true) (hn : xn X = 3) (hz : Z0 X (Ax nu K c u)) (D : Dat) (h : f_X12_translate_b60 N D = some z) : V X (Q0 X n (Ax nu K c u) none z) n (Ax nu K c u) D 60 [(0, .ref (bo X + pp 207))] [] := by
  unfold f_X12_translate_b60 at h
  refine v_aload_n (pc := 60) O dX12_translate_60 0 rfl ?_
  refine v_bipush (pc := 61) O dX12_translate_61 bp_15 ?_
  refine v_iconst (pc := 63) O dX12_translate_63 ic_0 ?_
  obtain ⟨p6, e7, h⟩ := bind_some h
  refine v_callV (pc := 64) (a := 207) (As := [.int 15, .int 0]) (rest := []) (r := (some (.int p6.1))) (D' := p6.2) O (bb0 hz) (c_X12_put hm e7) mw_X12_put im_X12_put se_X12_put ml_X12_385 kq_207 (by decide) rfl rfl rfl (by decide) (by decide) (Nat.le_of_ble_eq_true rfl) dX12_translate_64 rfl rfl ?_
  refine v_istore_n (pc := 67) (lv' := [(2, .int p6.1), (0, .ref (bo X + pp 207))]) O dX12_translate_67 rfl (by rw [hn]; decide) rfl ?_
  obtain rfl := Option.some.inj h
  exact v_ret (pc := 68) O hz dX12_translate_68
def f_X12_translate_b20 (N : Nat) : Nat → Int32 → Dat → Option (Dat)
  | 0, _, _ => none
  | g + 1, x1, D => if 65 ≤ (dI D 207 61) then (f_X12_translate_b60 N D) else (if 0 ≤ x1 then (f_X12_translate_b40 N (f_X12_translate_b20 N g) x1 D) else (if (dI D 207 55) ≤ 0 then (f_X12_translate_b60 N D) else (f_X12_translate_b40 N (f_X12_translate_b20 N g) x1 D)))
set_option maxHeartbeats 4000000 in
theorem w_X12_translate_b20 {X : Cx} {n nu c u : Nat} {K : Nat → Nat} {N : Nat} {z : Dat} (O : Ok X cX12_translate RX12 none 3 67) (hm : wlm (xw X) = true) (hn : xn X = 3) (hz : Z0 X (Ax nu K c u)) : ∀ (g : Nat) (x1 : Int32) (D : Dat), f_X12_translate_b20 N g x1 D = some z → V X (Q0 X n (Ax nu K c u) none z) n (Ax nu K c u) D 20 [(0, .ref (bo X + pp 207)), (1, .int x1)] [] := by
  intro g
  induction g with
  | zero => intro x1 D h; exact absurd h (by simp [f_X12_translate_b20])
  | succ g ih =>
    intro x1 D h
    rw [f_X12_translate_b20] at h
    refine v_aload_n (pc := 20) O dX12_translate_20 0 rfl ?_
    refine v_getI (pc := 21) (a := 207) O gf_X12_61 fl_X12_382 kq_207 dX12_translate_21 ?_
    refine v_bipush (pc := 24) O dX12_translate_24 bp_65 ?_
    refine v_icmpge (pc := 26) 60 O dX12_translate_26 (by decide) (fun c8 => ?_) (fun c8 => ?_)
    · have h := (if_pos c8).symm.trans h
      refine v_sub [0] rfl ?_
      exact w_X12_translate_b60 O hm hn hz D h
    · have h := (if_neg c8).symm.trans h
      refine v_iload_n (pc := 29) O dX12_translate_29 1 rfl ?_
      refine v_ifge (pc := 30) 40 O dX12_translate_30 (by decide) (fun c9 => ?_) (fun c9 => ?_)
      · have h := (if_pos c9).symm.trans h
        refine v_sub [0, 1] rfl ?_
        exact w_X12_translate_b40 O hm hn hz ih x1 D h
      · have h := (if_neg c9).symm.trans h
        refine v_aload_n (pc := 33) O dX12_translate_33 0 rfl ?_
        refine v_getI (pc := 34) (a := 207) O gf_X12_55 fl_X12_351 kq_207 dX12_translate_34 ?_
        refine v_ifle (pc := 37) 60 O dX12_translate_37 (by decide) (fun c10 => ?_) (fun c10 => ?_)
        · have h := (if_pos c10).symm.trans h
          refine v_sub [0] rfl ?_
          exact w_X12_translate_b60 O hm hn hz D h
        · have h := (if_neg c10).symm.trans h
          refine v_sub [0, 1] rfl ?_
          exact w_X12_translate_b40 O hm hn hz ih x1 D h
def f_X12_translate (N : Nat) (D : Dat) : Option (Dat) :=
  if (dI (sI (sI D 207 61 0) 207 55 0) 207 35) < 0 ∨ 2 ≤ ((dI (sI (sI D 207 61 0) 207 55 0) 207 35)).toNatClampNeg then none else (f_X12_translate_b20 N N (dI (sI (sI D 207 61 0) 207 55 0) 228 (dI (sI (sI D 207 61 0) 207 55 0) 207 35).toNatClampNeg) (sI (sI D 207 61 0) 207 55 0))
set_option maxHeartbeats 4000000 in
theorem w_X12_translate {X : Cx} {n nu c u : Nat} {K : Nat → Nat} {N : Nat} {z : Dat} (O : Ok X cX12_translate RX12 none 3 67) (hm : wlm (xw X) = true) (hn : xn X = 3) (hz : Z0 X (Ax nu K c u)) (D : Dat) (h : f_X12_translate N D = some z) : V X (Q0 X n (Ax nu K c u) none z) n (Ax nu K c u) D 0 [(0, .ref (bo X + pp 207))] [] := by
  unfold f_X12_translate at h
  refine v_aload_n (pc := 0) O dX12_translate_0 0 rfl ?_
  refine v_iconst (pc := 1) O dX12_translate_1 ic_0 ?_
  refine v_putI (pc := 2) (a := 207) O pf_X12_61 fl_X12_382 kq_207 dX12_translate_2 ?_
  refine v_aload_n (pc := 5) O dX12_translate_5 0 rfl ?_
  refine v_iconst (pc := 6) O dX12_translate_6 ic_0 ?_
  refine v_putI (pc := 7) (a := 207) O pf_X12_55 fl_X12_351 kq_207 dX12_translate_7 ?_
  refine v_aload_n (pc := 10) O dX12_translate_10 0 rfl ?_
  refine v_getK (pc := 11) (a := 207) O hm gf_X12_32 fl_X12_78 kq_207 lk_207_32 dX12_translate_11 ?_
  refine v_aload_n (pc := 14) O dX12_translate_14 0 rfl ?_
  refine v_getI (pc := 15) (a := 207) O gf_X12_35 fl_X12_308 kq_207 dX12_translate_15 ?_
  obtain ⟨c11, h⟩ := or_none h
  refine v_iald (pc := 18) (a := 228) O kq_228 (inq lq_228 c11) dX12_translate_18 ?_
  refine v_istore_n (pc := 19) (lv' := [(1, .int (dI (sI (sI D 207 61 0) 207 55 0) 228 (dI (sI (sI D 207 61 0) 207 55 0) 207 35).toNatClampNeg)), (0, .ref (bo X + pp 207))]) O dX12_translate_19 rfl (by rw [hn]; decide) rfl ?_
  refine v_sub [1, 0] rfl ?_
  exact w_X12_translate_b20 O hm hn hz N (dI (sI (sI D 207 61 0) 207 55 0) 228 (dI (sI (sI D 207 61 0) 207 55 0) 207 35).toNatClampNeg) (sI (sI D 207 61 0) 207 55 0) h
theorem c_X12_translate {l : Launch} {w : Wx} {n nu c u : Nat} {K : Nat → Nat} {N : Nat} (hm : wlm w = true) {D : Dat} {z : Dat} (h : f_X12_translate N D = some z) : C0 l w yX12_translate cX12_translate 3 none 3 67 [.ref (wb w + pp 207)] n (Ax nu K c u) D none z :=
  C0.of (by decide) (Nat.le_of_ble_eq_true rfl) (fun X e1 e2 e3 hz O => by
  subst e1
  subst e2
  exact w_X12_translate O hm e3 hz  D h)
def f_X12_compile_b209 (N : Nat) (rec_152 : Int32 → Dat → Option (Int32 × Dat)) (x1 : Int32) (s0 : Int32) (s1 : Int32) (D : Dat) : Option (Int32 × Dat) :=
  if s1 < 0 ∨ 26 ≤ (s1).toNatClampNeg then none else (rec_152 (x1 + 1) (sI D 215 (s1).toNatClampNeg s0))
set_option maxHeartbeats 4000000 in
theorem w_X12_compile_b209 {X : Cx} {n nu c u : Nat} {K : Nat → Nat} {N : Nat} {rec_152 : Int32 → Dat → Option (Int32 × Dat)} {z : Int32 × Dat} (O : Ok X cX12_compile RX12 (some .int) 10 215) (hm : wlm (xw X) = true) (hn : xn X = 2) (hz : Z0 X (Ax nu K c u)) (hrec_152 : ∀ (x1 : Int32) (D : Dat), rec_152 x1 D = some z → V X (Q0 X n (Ax nu K c u) (some (.int z.1)) z.2) n (Ax nu K c u) D 152 [(0, .ref (bo X + pp 207)), (1, .int x1)] []) (x1 : Int32) (s0 : Int32) (s1 : Int32) (D : Dat) (h : f_X12_compile_b209 N rec_152 x1 s0 s1 D = some z) : V X (Q0 X n (Ax nu K c u) (some (.int z.1)) z.2) n (Ax nu K c u) D 209 [(0, .ref (bo X + pp 207)), (1, .int x1)] [.int s0, .int s1, .ref (bo X + pp 215)] := by
  unfold f_X12_compile_b209 at h
  obtain ⟨c1, h⟩ := or_none h
  refine v_iast (pc := 209) (a := 215) O kq_215 (inq lq_215 c1) dX12_compile_209 ?_
  refine v_iinc (pc := 210) (lv' := [(1, .int (x1 + 1)), (0, .ref (bo X + pp 207))]) O dX12_compile_210 1 rfl (congrArg (fun q => x1 + q) ic_1) (by rw [hn]; decide) rfl ?_
  refine v_goto (pc := 213) 152 O dX12_compile_213 (by decide) ?_
  refine v_sub [1, 0] rfl ?_
  exact hrec_152 (x1 + 1) (sI D 215 (s1).toNatClampNeg s0) h
def f_X12_compile_b183 (N : Nat) (rec_152 : Int32 → Dat → Option (Int32 × Dat)) (x1 : Int32) (s0 : Int32) (s1 : Int32) (D : Dat) : Option (Int32 × Dat) :=
  if s1 < 0 ∨ 26 ≤ (s1).toNatClampNeg then none else (if x1 < 0 ∨ 26 ≤ (x1).toNatClampNeg then none else (if (dI (sI D 214 (s1).toNatClampNeg s0) 229 (x1).toNatClampNeg) = 3 then (if x1 < 0 ∨ 26 ≤ (x1).toNatClampNeg then none else (f_X12_compile_b209 N rec_152 x1 (dI (sI D 214 (s1).toNatClampNeg s0) 230 (x1).toNatClampNeg) x1 (sI D 214 (s1).toNatClampNeg s0))) else (f_X12_compile_b209 N rec_152 x1 (-1) x1 (sI D 214 (s1).toNatClampNeg s0))))
set_option maxHeartbeats 4000000 in
theorem w_X12_compile_b183 {X : Cx} {n nu c u : Nat} {K : Nat → Nat} {N : Nat} {rec_152 : Int32 → Dat → Option (Int32 × Dat)} {z : Int32 × Dat} (O : Ok X cX12_compile RX12 (some .int) 10 215) (hm : wlm (xw X) = true) (hn : xn X = 2) (hz : Z0 X (Ax nu K c u)) (hrec_152 : ∀ (x1 : Int32) (D : Dat), rec_152 x1 D = some z → V X (Q0 X n (Ax nu K c u) (some (.int z.1)) z.2) n (Ax nu K c u) D 152 [(0, .ref (bo X + pp 207)), (1, .int x1)] []) (x1 : Int32) (s0 : Int32) (s1 : Int32) (D : Dat) (h : f_X12_compile_b183 N rec_152 x1 s0 s1 D = some z) : V X (Q0 X n (Ax nu K c u) (some (.int z.1)) z.2) n (Ax nu K c u) D 183 [(0, .ref (bo X + pp 207)), (1, .int x1)] [.int s0, .int s1, .ref (bo X + pp 214)] := by
  unfold f_X12_compile_b183 at h
  obtain ⟨c2, h⟩ := or_none h
  refine v_iast (pc := 183) (a := 214) O kq_214 (inq lq_214 c2) dX12_compile_183 ?_
  refine v_aload_n (pc := 184) O dX12_compile_184 0 rfl ?_
  refine v_getK (pc := 185) (a := 207) O hm gf_X12_15 fl_X12_39 kq_207 lk_207_15 dX12_compile_185 ?_
  refine v_iload_n (pc := 188) O dX12_compile_188 1 rfl ?_
  refine v_aload_n (pc := 189) O dX12_compile_189 0 rfl ?_
  refine v_getK (pc := 190) (a := 207) O hm gf_X12_42 fl_X12_81 kq_207 lk_207_42 dX12_compile_190 ?_
  refine v_iload_n (pc := 193) O dX12_compile_193 1 rfl ?_
  obtain ⟨c3, h⟩ := or_none h
  refine v_iald (pc := 194) (a := 229) O kq_229 (inq lq_229 c3) dX12_compile_194 ?_
  refine v_iconst (pc := 195) O dX12_compile_195 ic_3 ?_
  refine v_icmpne (pc := 196) 208 O dX12_compile_196 (by decide) (fun c4 => ?_) (fun c4 => ?_)
  · have h := (if_neg c4).symm.trans h
    refine v_iconst (pc := 208) O dX12_compile_208 ic_m1 ?_
    refine v_sub [0, 1] rfl ?_
    exact w_X12_compile_b209 O hm hn hz hrec_152 x1 (-1) x1 (sI D 214 (s1).toNatClampNeg s0) h
  · have h := (if_pos c4).symm.trans h
    refine v_aload_n (pc := 199) O dX12_compile_199 0 rfl ?_
    refine v_getK (pc := 200) (a := 207) O hm gf_X12_43 fl_X12_84 kq_207 lk_207_43 dX12_compile_200 ?_
    refine v_iload_n (pc := 203) O dX12_compile_203 1 rfl ?_
    obtain ⟨c5, h⟩ := or_none h
    refine v_iald (pc := 204) (a := 230) O kq_230 (inq lq_230 c5) dX12_compile_204 ?_
    refine v_goto (pc := 205) 209 O dX12_compile_205 (by decide) ?_
    refine v_sub [0, 1] rfl ?_
    exact w_X12_compile_b209 O hm hn hz hrec_152 x1 (dI (sI D 214 (s1).toNatClampNeg s0) 230 (x1).toNatClampNeg) x1 (sI D 214 (s1).toNatClampNeg s0) h
def f_X12_compile_b152 (N : Nat) : Nat → Int32 → Dat → Option (Int32 × Dat)
  | 0, _, _ => none
  | g + 1, x1, D => if 26 ≤ x1 then (some ((dI (sI (sI (sI (sI D 207 18 1) 207 19 (dI (sI D 207 18 1) 207 35)) 207 16 0) 207 17 0) 207 13), (sI (sI (sI (sI D 207 18 1) 207 19 (dI (sI D 207 18 1) 207 35)) 207 16 0) 207 17 0))) else (if x1 < 0 ∨ 26 ≤ (x1).toNatClampNeg then none else (if (dI D 229 (x1).toNatClampNeg) = 2 then (if x1 < 0 ∨ 26 ≤ (x1).toNatClampNeg then none else (f_X12_compile_b183 N (f_X12_compile_b152 N g) x1 (dI D 230 (x1).toNatClampNeg) x1 D)) else (f_X12_compile_b183 N (f_X12_compile_b152 N g) x1 (-1) x1 D)))
set_option maxHeartbeats 4000000 in
theorem w_X12_compile_b152 {X : Cx} {n nu c u : Nat} {K : Nat → Nat} {N : Nat} {z : Int32 × Dat} (O : Ok X cX12_compile RX12 (some .int) 10 215) (hm : wlm (xw X) = true) (hn : xn X = 2) (hz : Z0 X (Ax nu K c u)) : ∀ (g : Nat) (x1 : Int32) (D : Dat), f_X12_compile_b152 N g x1 D = some z → V X (Q0 X n (Ax nu K c u) (some (.int z.1)) z.2) n (Ax nu K c u) D 152 [(0, .ref (bo X + pp 207)), (1, .int x1)] [] := by
  intro g
  induction g with
  | zero => intro x1 D h; exact absurd h (by simp [f_X12_compile_b152])
  | succ g ih =>
    intro x1 D h
    rw [f_X12_compile_b152] at h
    refine v_iload_n (pc := 152) O dX12_compile_152 1 rfl ?_
    refine v_bipush (pc := 153) O dX12_compile_153 bp_26 ?_
    refine v_icmpge (pc := 155) 216 O dX12_compile_155 (by decide) (fun c6 => ?_) (fun c6 => ?_)
    · have h := (if_pos c6).symm.trans h
      refine v_aload_n (pc := 216) O dX12_compile_216 0 rfl ?_
      refine v_iconst (pc := 217) O dX12_compile_217 ic_1 ?_
      refine v_putZ (pc := 218) (a := 207) O pf_X12_18 fl_X12_332 kq_207 narrow_b1 dX12_compile_218 ?_
      refine v_aload_n (pc := 221) O dX12_compile_221 0 rfl ?_
      refine v_aload_n (pc := 222) O dX12_compile_222 0 rfl ?_
      refine v_getI (pc := 223) (a := 207) O gf_X12_35 fl_X12_308 kq_207 dX12_compile_223 ?_
      refine v_putI (pc := 226) (a := 207) O pf_X12_19 fl_X12_335 kq_207 dX12_compile_226 ?_
      refine v_aload_n (pc := 229) O dX12_compile_229 0 rfl ?_
      refine v_iconst (pc := 230) O dX12_compile_230 ic_0 ?_
      refine v_putZ (pc := 231) (a := 207) O pf_X12_16 fl_X12_409 kq_207 narrow_b0 dX12_compile_231 ?_
      refine v_aload_n (pc := 234) O dX12_compile_234 0 rfl ?_
      refine v_iconst (pc := 235) O dX12_compile_235 ic_0 ?_
      refine v_putZ (pc := 236) (a := 207) O pf_X12_17 fl_X12_412 kq_207 narrow_b0 dX12_compile_236 ?_
      refine v_aload_n (pc := 239) O dX12_compile_239 0 rfl ?_
      refine v_getI (pc := 240) (a := 207) O gf_X12_13 fl_X12_406 kq_207 dX12_compile_240 ?_
      obtain rfl := Option.some.inj h
      exact v_iret (pc := 243) O hz dX12_compile_243
    · have h := (if_neg c6).symm.trans h
      refine v_aload_n (pc := 158) O dX12_compile_158 0 rfl ?_
      refine v_getK (pc := 159) (a := 207) O hm gf_X12_14 fl_X12_36 kq_207 lk_207_14 dX12_compile_159 ?_
      refine v_iload_n (pc := 162) O dX12_compile_162 1 rfl ?_
      refine v_aload_n (pc := 163) O dX12_compile_163 0 rfl ?_
      refine v_getK (pc := 164) (a := 207) O hm gf_X12_42 fl_X12_81 kq_207 lk_207_42 dX12_compile_164 ?_
      refine v_iload_n (pc := 167) O dX12_compile_167 1 rfl ?_
      obtain ⟨c7, h⟩ := or_none h
      refine v_iald (pc := 168) (a := 229) O kq_229 (inq lq_229 c7) dX12_compile_168 ?_
      refine v_iconst (pc := 169) O dX12_compile_169 ic_2 ?_
      refine v_icmpne (pc := 170) 182 O dX12_compile_170 (by decide) (fun c8 => ?_) (fun c8 => ?_)
      · have h := (if_neg c8).symm.trans h
        refine v_iconst (pc := 182) O dX12_compile_182 ic_m1 ?_
        refine v_sub [0, 1] rfl ?_
        exact w_X12_compile_b183 O hm hn hz ih x1 (-1) x1 D h
      · have h := (if_pos c8).symm.trans h
        refine v_aload_n (pc := 173) O dX12_compile_173 0 rfl ?_
        refine v_getK (pc := 174) (a := 207) O hm gf_X12_43 fl_X12_84 kq_207 lk_207_43 dX12_compile_174 ?_
        refine v_iload_n (pc := 177) O dX12_compile_177 1 rfl ?_
        obtain ⟨c9, h⟩ := or_none h
        refine v_iald (pc := 178) (a := 230) O kq_230 (inq lq_230 c9) dX12_compile_178 ?_
        refine v_goto (pc := 179) 183 O dX12_compile_179 (by decide) ?_
        refine v_sub [0, 1] rfl ?_
        exact w_X12_compile_b183 O hm hn hz ih x1 (dI D 230 (x1).toNatClampNeg) x1 D h
def f_X12_compile_b112 (N : Nat) : Nat → Int32 → Dat → Option (Int32 × Dat)
  | 0, _, _ => none
  | g + 1, x1, D => if (dI D 207 61) ≤ x1 then (f_X12_compile_b152 N N 0 D) else (if x1 < 0 ∨ 65 ≤ (x1).toNatClampNeg then none else (if x1 < 0 ∨ 64 ≤ (x1).toNatClampNeg then none else (if x1 < 0 ∨ 65 ≤ (x1).toNatClampNeg then none else (if x1 < 0 ∨ 64 ≤ (x1).toNatClampNeg then none else ((f_X12_compile_b112 N g) (x1 + 1) (sI (sI D 212 (x1).toNatClampNeg (dI D 242 (x1).toNatClampNeg)) 213 (x1).toNatClampNeg (dI (sI D 212 (x1).toNatClampNeg (dI D 242 (x1).toNatClampNeg)) 243 (x1).toNatClampNeg)))))))
set_option maxHeartbeats 4000000 in
theorem w_X12_compile_b112 {X : Cx} {n nu c u : Nat} {K : Nat → Nat} {N : Nat} {z : Int32 × Dat} (O : Ok X cX12_compile RX12 (some .int) 10 215) (hm : wlm (xw X) = true) (hn : xn X = 2) (hz : Z0 X (Ax nu K c u)) : ∀ (g : Nat) (x1 : Int32) (D : Dat), f_X12_compile_b112 N g x1 D = some z → V X (Q0 X n (Ax nu K c u) (some (.int z.1)) z.2) n (Ax nu K c u) D 112 [(0, .ref (bo X + pp 207)), (1, .int x1)] [] := by
  intro g
  induction g with
  | zero => intro x1 D h; exact absurd h (by simp [f_X12_compile_b112])
  | succ g ih =>
    intro x1 D h
    rw [f_X12_compile_b112] at h
    refine v_iload_n (pc := 112) O dX12_compile_112 1 rfl ?_
    refine v_aload_n (pc := 113) O dX12_compile_113 0 rfl ?_
    refine v_getI (pc := 114) (a := 207) O gf_X12_61 fl_X12_382 kq_207 dX12_compile_114 ?_
    refine v_icmpge (pc := 117) 150 O dX12_compile_117 (by decide) (fun c10 => ?_) (fun c10 => ?_)
    · have h := (if_pos c10).symm.trans h
      refine v_iconst (pc := 150) O dX12_compile_150 ic_0 ?_
      refine v_istore_n (pc := 151) (lv' := [(1, .int 0), (0, .ref (bo X + pp 207))]) O dX12_compile_151 rfl (by rw [hn]; decide) rfl ?_
      refine v_sub [1, 0] rfl ?_
      exact w_X12_compile_b152 O hm hn hz N 0 D h
    · have h := (if_neg c10).symm.trans h
      refine v_aload_n (pc := 120) O dX12_compile_120 0 rfl ?_
      refine v_getK (pc := 121) (a := 207) O hm gf_X12_11 fl_X12_30 kq_207 lk_207_11 dX12_compile_121 ?_
      refine v_iload_n (pc := 124) O dX12_compile_124 1 rfl ?_
      refine v_aload_n (pc := 125) O dX12_compile_125 0 rfl ?_
      refine v_getK (pc := 126) (a := 207) O hm gf_X12_62 fl_X12_120 kq_207 lk_207_62 dX12_compile_126 ?_
      refine v_iload_n (pc := 129) O dX12_compile_129 1 rfl ?_
      obtain ⟨c11, h⟩ := or_none h
      refine v_iald (pc := 130) (a := 242) O kq_242 (inq lq_242 c11) dX12_compile_130 ?_
      obtain ⟨c12, h⟩ := or_none h
      refine v_iast (pc := 131) (a := 212) O kq_212 (inq lq_212 c12) dX12_compile_131 ?_
      refine v_aload_n (pc := 132) O dX12_compile_132 0 rfl ?_
      refine v_getK (pc := 133) (a := 207) O hm gf_X12_12 fl_X12_33 kq_207 lk_207_12 dX12_compile_133 ?_
      refine v_iload_n (pc := 136) O dX12_compile_136 1 rfl ?_
      refine v_aload_n (pc := 137) O dX12_compile_137 0 rfl ?_
      refine v_getK (pc := 138) (a := 207) O hm gf_X12_63 fl_X12_123 kq_207 lk_207_63 dX12_compile_138 ?_
      refine v_iload_n (pc := 141) O dX12_compile_141 1 rfl ?_
      obtain ⟨c13, h⟩ := or_none h
      refine v_iald (pc := 142) (a := 243) O kq_243 (inq lq_243 c13) dX12_compile_142 ?_
      obtain ⟨c14, h⟩ := or_none h
      refine v_iast (pc := 143) (a := 213) O kq_213 (inq lq_213 c14) dX12_compile_143 ?_
      refine v_iinc (pc := 144) (lv' := [(1, .int (x1 + 1)), (0, .ref (bo X + pp 207))]) O dX12_compile_144 1 rfl (congrArg (fun q => x1 + q) ic_1) (by rw [hn]; decide) rfl ?_
      refine v_goto (pc := 147) 112 O dX12_compile_147 (by decide) ?_
      refine v_sub [1, 0] rfl ?_
      exact ih (x1 + 1) (sI (sI D 212 (x1).toNatClampNeg (dI D 242 (x1).toNatClampNeg)) 213 (x1).toNatClampNeg (dI (sI D 212 (x1).toNatClampNeg (dI D 242 (x1).toNatClampNeg)) 243 (x1).toNatClampNeg)) h
def f_X12_compile (N : Nat) (D : Dat) : Option (Int32 × Dat) :=
  if (dI (sI D 207 0 0) 207 5) = 0 then ((f_X12_fail 1 (sI D 207 0 0)).bind (fun p31 => some (p31.1, p31.2))) else ((f_X12_parse N (sI D 207 0 0)).bind (fun p16 => if (dI (sI p16 207 10 0) 207 40) < 0 then ((f_X12_flow N (sI p16 207 10 0)).bind (fun p19 => if (dI p19 207 40) < 0 then ((f_X12_translate N p19).bind (fun p22 => if (dI p22 207 61) ≤ 64 then (f_X12_compile_b112 N N 0 (sI (sI (sI p22 207 7 (-1)) 207 8 (-1)) 207 13 (dI (sI (sI p22 207 7 (-1)) 207 8 (-1)) 207 61))) else ((f_X12_refuse 64 10 4 p22).bind (fun p25 => some (p25.1, p25.2))))) else ((f_X12_refuse (dI p19 207 40) 9 3 p19).bind (fun p27 => some (p27.1, p27.2))))) else ((f_X12_refuse (dI (sI p16 207 10 0) 207 40) 8 2 (sI p16 207 10 0)).bind (fun p29 => some (p29.1, p29.2)))))
set_option maxHeartbeats 4000000 in
theorem w_X12_compile {X : Cx} {n nu c u : Nat} {K : Nat → Nat} {N : Nat} {z : Int32 × Dat} (O : Ok X cX12_compile RX12 (some .int) 10 215) (hm : wlm (xw X) = true) (hn : xn X = 2) (hz : Z0 X (Ax nu K c u)) (D : Dat) (h : f_X12_compile N D = some z) : V X (Q0 X n (Ax nu K c u) (some (.int z.1)) z.2) n (Ax nu K c u) D 0 [(0, .ref (bo X + pp 207))] [] := by
  unfold f_X12_compile at h
  refine v_aload_n (pc := 0) O dX12_compile_0 0 rfl ?_
  refine v_iconst (pc := 1) O dX12_compile_1 ic_0 ?_
  refine v_putI (pc := 2) (a := 207) O pf_X12_0 fl_X12_183 kq_207 dX12_compile_2 ?_
  refine v_aload_n (pc := 5) O dX12_compile_5 0 rfl ?_
  refine v_getI (pc := 6) (a := 207) O gf_X12_5 fl_X12_194 kq_207 dX12_compile_6 ?_
  refine v_ifne (pc := 9) 18 O dX12_compile_9 (by decide) (fun c15 => ?_) (fun c15 => ?_)
  · have h := (if_neg c15).symm.trans h
    refine v_aload_n (pc := 18) O dX12_compile_18 0 rfl ?_
    obtain ⟨p16, e17, h⟩ := bind_some h
    refine v_callV (pc := 19) (a := 207) (As := []) (rest := []) (r := none) (D' := p16) O (bb0 hz) (c_X12_parse hm e17) mw_X12_parse im_X12_parse se_X12_parse ml_X12_397 kq_207 (by decide) rfl rfl rfl (by decide) (by decide) (Nat.le_of_ble_eq_true rfl) dX12_compile_19 rfl rfl ?_
    refine v_aload_n (pc := 22) O dX12_compile_22 0 rfl ?_
    refine v_iconst (pc := 23) O dX12_compile_23 ic_0 ?_
    refine v_putI (pc := 24) (a := 207) O pf_X12_10 fl_X12_219 kq_207 dX12_compile_24 ?_
    refine v_aload_n (pc := 27) O dX12_compile_27 0 rfl ?_
    refine v_getI (pc := 28) (a := 207) O gf_X12_40 fl_X12_253 kq_207 dX12_compile_28 ?_
    refine v_iflt (pc := 31) 46 O dX12_compile_31 (by decide) (fun c18 => ?_) (fun c18 => ?_)
    · have h := (if_pos c18).symm.trans h
      refine v_aload_n (pc := 46) O dX12_compile_46 0 rfl ?_
      obtain ⟨p19, e20, h⟩ := bind_some h
      refine v_callV (pc := 47) (a := 207) (As := []) (rest := []) (r := none) (D' := p19) O (bb0 hz) (c_X12_flow hm e20) mw_X12_flow im_X12_flow se_X12_flow ml_X12_400 kq_207 (by decide) rfl rfl rfl (by decide) (by decide) (Nat.le_of_ble_eq_true rfl) dX12_compile_47 rfl rfl ?_
      refine v_aload_n (pc := 50) O dX12_compile_50 0 rfl ?_
      refine v_getI (pc := 51) (a := 207) O gf_X12_40 fl_X12_253 kq_207 dX12_compile_51 ?_
      refine v_iflt (pc := 54) 69 O dX12_compile_54 (by decide) (fun c21 => ?_) (fun c21 => ?_)
      · have h := (if_pos c21).symm.trans h
        refine v_aload_n (pc := 69) O dX12_compile_69 0 rfl ?_
        obtain ⟨p22, e23, h⟩ := bind_some h
        refine v_callV (pc := 70) (a := 207) (As := []) (rest := []) (r := none) (D' := p22) O (bb0 hz) (c_X12_translate hm e23) mw_X12_translate im_X12_translate se_X12_translate ml_X12_403 kq_207 (by decide) rfl rfl rfl (by decide) (by decide) (Nat.le_of_ble_eq_true rfl) dX12_compile_70 rfl rfl ?_
        refine v_aload_n (pc := 73) O dX12_compile_73 0 rfl ?_
        refine v_getI (pc := 74) (a := 207) O gf_X12_61 fl_X12_382 kq_207 dX12_compile_74 ?_
        refine v_bipush (pc := 77) O dX12_compile_77 bp_64 ?_
        refine v_icmple (pc := 79) 92 O dX12_compile_79 (by decide) (fun c24 => ?_) (fun c24 => ?_)
        · have h := (if_pos c24).symm.trans h
          refine v_aload_n (pc := 92) O dX12_compile_92 0 rfl ?_
          refine v_iconst (pc := 93) O dX12_compile_93 ic_m1 ?_
          refine v_putI (pc := 94) (a := 207) O pf_X12_7 fl_X12_20 kq_207 dX12_compile_94 ?_
          refine v_aload_n (pc := 97) O dX12_compile_97 0 rfl ?_
          refine v_iconst (pc := 98) O dX12_compile_98 ic_m1 ?_
          refine v_putI (pc := 99) (a := 207) O pf_X12_8 fl_X12_24 kq_207 dX12_compile_99 ?_
          refine v_aload_n (pc := 102) O dX12_compile_102 0 rfl ?_
          refine v_aload_n (pc := 103) O dX12_compile_103 0 rfl ?_
          refine v_getI (pc := 104) (a := 207) O gf_X12_61 fl_X12_382 kq_207 dX12_compile_104 ?_
          refine v_putI (pc := 107) (a := 207) O pf_X12_13 fl_X12_406 kq_207 dX12_compile_107 ?_
          refine v_iconst (pc := 110) O dX12_compile_110 ic_0 ?_
          refine v_istore_n (pc := 111) (lv' := [(1, .int 0), (0, .ref (bo X + pp 207))]) O dX12_compile_111 rfl (by rw [hn]; decide) rfl ?_
          refine v_sub [1, 0] rfl ?_
          exact w_X12_compile_b112 O hm hn hz N 0 (sI (sI (sI p22 207 7 (-1)) 207 8 (-1)) 207 13 (dI (sI (sI p22 207 7 (-1)) 207 8 (-1)) 207 61)) h
        · have h := (if_neg c24).symm.trans h
          refine v_aload_n (pc := 82) O dX12_compile_82 0 rfl ?_
          refine v_bipush (pc := 83) O dX12_compile_83 bp_64 ?_
          refine v_bipush (pc := 85) O dX12_compile_85 bp_10 ?_
          refine v_iconst (pc := 87) O dX12_compile_87 ic_4 ?_
          obtain ⟨p25, e26, h⟩ := bind_some h
          refine v_callV (pc := 88) (a := 207) (As := [.int 64, .int 10, .int 4]) (rest := []) (r := (some (.int p25.1))) (D' := p25.2) O (bb0 hz) (c_X12_refuse hm e26) mw_X12_refuse im_X12_refuse se_X12_refuse ml_X12_206 kq_207 (by decide) rfl rfl rfl (by decide) (by decide) (Nat.le_of_ble_eq_true rfl) dX12_compile_88 rfl rfl ?_
          obtain rfl := Option.some.inj h
          exact v_iret (pc := 91) O hz dX12_compile_91
      · have h := (if_neg c21).symm.trans h
        refine v_aload_n (pc := 57) O dX12_compile_57 0 rfl ?_
        refine v_aload_n (pc := 58) O dX12_compile_58 0 rfl ?_
        refine v_getI (pc := 59) (a := 207) O gf_X12_40 fl_X12_253 kq_207 dX12_compile_59 ?_
        refine v_bipush (pc := 62) O dX12_compile_62 bp_9 ?_
        refine v_iconst (pc := 64) O dX12_compile_64 ic_3 ?_
        obtain ⟨p27, e28, h⟩ := bind_some h
        refine v_callV (pc := 65) (a := 207) (As := [.int (dI p19 207 40), .int 9, .int 3]) (rest := []) (r := (some (.int p27.1))) (D' := p27.2) O (bb0 hz) (c_X12_refuse hm e28) mw_X12_refuse im_X12_refuse se_X12_refuse ml_X12_206 kq_207 (by decide) rfl rfl rfl (by decide) (by decide) (Nat.le_of_ble_eq_true rfl) dX12_compile_65 rfl rfl ?_
        obtain rfl := Option.some.inj h
        exact v_iret (pc := 68) O hz dX12_compile_68
    · have h := (if_neg c18).symm.trans h
      refine v_aload_n (pc := 34) O dX12_compile_34 0 rfl ?_
      refine v_aload_n (pc := 35) O dX12_compile_35 0 rfl ?_
      refine v_getI (pc := 36) (a := 207) O gf_X12_40 fl_X12_253 kq_207 dX12_compile_36 ?_
      refine v_bipush (pc := 39) O dX12_compile_39 bp_8 ?_
      refine v_iconst (pc := 41) O dX12_compile_41 ic_2 ?_
      obtain ⟨p29, e30, h⟩ := bind_some h
      refine v_callV (pc := 42) (a := 207) (As := [.int (dI (sI p16 207 10 0) 207 40), .int 8, .int 2]) (rest := []) (r := (some (.int p29.1))) (D' := p29.2) O (bb0 hz) (c_X12_refuse hm e30) mw_X12_refuse im_X12_refuse se_X12_refuse ml_X12_206 kq_207 (by decide) rfl rfl rfl (by decide) (by decide) (Nat.le_of_ble_eq_true rfl) dX12_compile_42 rfl rfl ?_
      obtain rfl := Option.some.inj h
      exact v_iret (pc := 45) O hz dX12_compile_45
  · have h := (if_pos c15).symm.trans h
    refine v_aload_n (pc := 12) O dX12_compile_12 0 rfl ?_
    refine v_iconst (pc := 13) O dX12_compile_13 ic_1 ?_
    obtain ⟨p31, e32, h⟩ := bind_some h
    refine v_callV (pc := 14) (a := 207) (As := [.int 1]) (rest := []) (r := (some (.int p31.1))) (D' := p31.2) O (bb0 hz) (c_X12_fail hm e32) mw_X12_fail im_X12_fail se_X12_fail ml_X12_190 kq_207 (by decide) rfl rfl rfl (by decide) (by decide) (Nat.le_of_ble_eq_true rfl) dX12_compile_14 rfl rfl ?_
    obtain rfl := Option.some.inj h
    exact v_iret (pc := 17) O hz dX12_compile_17
theorem c_X12_compile {l : Launch} {w : Wx} {n nu c u : Nat} {K : Nat → Nat} {N : Nat} (hm : wlm w = true) {D : Dat} {z : Int32 × Dat} (h : f_X12_compile N D = some z) : C0 l w yX12_compile cX12_compile 2 (some .int) 10 215 [.ref (wb w + pp 207)] n (Ax nu K c u) D (some (.int z.1)) z.2 :=
  C0.of (by decide) (Nat.le_of_ble_eq_true rfl) (fun X e1 e2 e3 hz O => by
  subst e1
  subst e2
  exact w_X12_compile O hm e3 hz  D h)
def f_X12_changed (D : Dat) : Option (Dat) :=
  some (sI (sI (sI D 207 18 0) 207 16 0) 207 17 0)
set_option maxHeartbeats 4000000 in
theorem w_X12_changed {X : Cx} {n nu c u : Nat} {K : Nat → Nat} {z : Dat} (O : Ok X cX12_changed RX12 none 0 0) (hm : wlm (xw X) = true) (hn : xn X = 1) (hz : Z0 X (Ax nu K c u)) (D : Dat) (h : f_X12_changed D = some z) : V X (Q0 X n (Ax nu K c u) none z) n (Ax nu K c u) D 0 [(0, .ref (bo X + pp 207))] [] := by
  unfold f_X12_changed at h
  refine v_aload_n (pc := 0) O dX12_changed_0 0 rfl ?_
  refine v_iconst (pc := 1) O dX12_changed_1 ic_0 ?_
  refine v_putZ (pc := 2) (a := 207) O pf_X12_18 fl_X12_332 kq_207 narrow_b0 dX12_changed_2 ?_
  refine v_aload_n (pc := 5) O dX12_changed_5 0 rfl ?_
  refine v_iconst (pc := 6) O dX12_changed_6 ic_0 ?_
  refine v_putZ (pc := 7) (a := 207) O pf_X12_16 fl_X12_409 kq_207 narrow_b0 dX12_changed_7 ?_
  refine v_aload_n (pc := 10) O dX12_changed_10 0 rfl ?_
  refine v_iconst (pc := 11) O dX12_changed_11 ic_0 ?_
  refine v_putZ (pc := 12) (a := 207) O pf_X12_17 fl_X12_412 kq_207 narrow_b0 dX12_changed_12 ?_
  obtain rfl := Option.some.inj h
  exact v_ret (pc := 15) O hz dX12_changed_15
theorem c_X12_changed {l : Launch} {w : Wx} {n nu c u : Nat} {K : Nat → Nat} (hm : wlm w = true) {D : Dat} {z : Dat} (h : f_X12_changed D = some z) : C0 l w yX12_changed cX12_changed 1 none 0 0 [.ref (wb w + pp 207)] n (Ax nu K c u) D none z :=
  C0.of (by decide) (Nat.le_of_ble_eq_true rfl) (fun X e1 e2 e3 hz O => by
  subst e1
  subst e2
  exact w_X12_changed O hm e3 hz  D h)
def f_X12_code_b66 (D : Dat) : Option (Int32 × Dat) :=
  (f_X12_changed D).bind (fun p1 => some (((dI p1 207 13) - (1 : Int32)), p1))
set_option maxHeartbeats 4000000 in
theorem w_X12_code_b66 {X : Cx} {n nu c u : Nat} {K : Nat → Nat} {z : Int32 × Dat} (O : Ok X cX12_code RX12 (some .int) 1 22) (hm : wlm (xw X) = true) (hn : xn X = 3) (hz : Z0 X (Ax nu K c u)) (D : Dat) (h : f_X12_code_b66 D = some z) : V X (Q0 X n (Ax nu K c u) (some (.int z.1)) z.2) n (Ax nu K c u) D 66 [(0, .ref (bo X + pp 207))] [] := by
  unfold f_X12_code_b66 at h
  refine v_aload_n (pc := 66) O dX12_code_66 0 rfl ?_
  obtain ⟨p1, e2, h⟩ := bind_some h
  refine v_callV (pc := 67) (a := 207) (As := []) (rest := []) (r := none) (D' := p1) O (bb0 hz) (c_X12_changed hm e2) mw_X12_changed im_X12_changed se_X12_changed ml_X12_415 kq_207 (by decide) rfl rfl rfl (by decide) (by decide) (Nat.le_of_ble_eq_true rfl) dX12_code_67 rfl rfl ?_
  refine v_aload_n (pc := 70) O dX12_code_70 0 rfl ?_
  refine v_getI (pc := 71) (a := 207) O gf_X12_13 fl_X12_406 kq_207 dX12_code_71 ?_
  refine v_iconst (pc := 74) O dX12_code_74 ic_1 ?_
  refine v_isub (pc := 75) O dX12_code_75 ?_
  obtain rfl := Option.some.inj h
  exact v_iret (pc := 76) O hz dX12_code_76
def f_X12_code (x1 : Int32) (x2 : Int32) (D : Dat) : Option (Int32 × Dat) :=
  (f_X12_out x1 16 (sI D 207 0 0)).bind (fun p3 => if p3.1 = 0 then (if (dI p3.2 207 13) = 64 then ((f_X12_fail 2 p3.2).bind (fun p9 => some (p9.1, p9.2))) else (if (dI p3.2 207 13) < 0 ∨ 64 ≤ ((dI p3.2 207 13)).toNatClampNeg then none else (if (dI (sI p3.2 212 (dI p3.2 207 13).toNatClampNeg x1) 207 13) < 0 ∨ 64 ≤ ((dI (sI p3.2 212 (dI p3.2 207 13).toNatClampNeg x1) 207 13)).toNatClampNeg then none else (f_X12_code_b66 (sI (sI (sI p3.2 212 (dI p3.2 207 13).toNatClampNeg x1) 213 (dI (sI p3.2 212 (dI p3.2 207 13).toNatClampNeg x1) 207 13).toNatClampNeg x2) 207 13 ((dI (sI (sI p3.2 212 (dI p3.2 207 13).toNatClampNeg x1) 213 (dI (sI p3.2 212 (dI p3.2 207 13).toNatClampNeg x1) 207 13).toNatClampNeg x2) 207 13) + (1 : Int32))))))) else ((f_X12_fail 1 p3.2).bind (fun p11 => some (p11.1, p11.2))))
set_option maxHeartbeats 4000000 in
theorem w_X12_code {X : Cx} {n nu c u : Nat} {K : Nat → Nat} {z : Int32 × Dat} (O : Ok X cX12_code RX12 (some .int) 1 22) (hm : wlm (xw X) = true) (hn : xn X = 3) (hz : Z0 X (Ax nu K c u)) (x1 : Int32) (x2 : Int32) (D : Dat) (h : f_X12_code x1 x2 D = some z) : V X (Q0 X n (Ax nu K c u) (some (.int z.1)) z.2) n (Ax nu K c u) D 0 [(0, .ref (bo X + pp 207)), (1, .int x1), (2, .int x2)] [] := by
  unfold f_X12_code at h
  refine v_aload_n (pc := 0) O dX12_code_0 0 rfl ?_
  refine v_iconst (pc := 1) O dX12_code_1 ic_0 ?_
  refine v_putI (pc := 2) (a := 207) O pf_X12_0 fl_X12_183 kq_207 dX12_code_2 ?_
  refine v_aload_n (pc := 5) O dX12_code_5 0 rfl ?_
  refine v_iload_n (pc := 6) O dX12_code_6 1 rfl ?_
  refine v_bipush (pc := 7) O dX12_code_7 bp_16 ?_
  obtain ⟨p3, e4, h⟩ := bind_some h
  refine v_callV (pc := 9) (a := 207) (As := [.int x1, .int 16]) (rest := []) (r := (some (.int p3.1))) (D' := p3.2) O (bb0 hz) (c_X12_out hm e4) mw_X12_out im_X12_out se_X12_out ml_X12_186 kq_207 (by decide) rfl rfl rfl (by decide) (by decide) (Nat.le_of_ble_eq_true rfl) dX12_code_9 rfl rfl ?_
  refine v_ifeq (pc := 12) 21 O dX12_code_12 (by decide) (fun c5 => ?_) (fun c5 => ?_)
  · have h := (if_pos c5).symm.trans h
    refine v_aload_n (pc := 21) O dX12_code_21 0 rfl ?_
    refine v_getI (pc := 22) (a := 207) O gf_X12_13 fl_X12_406 kq_207 dX12_code_22 ?_
    refine v_bipush (pc := 25) O dX12_code_25 bp_64 ?_
    refine v_icmpne (pc := 27) 36 O dX12_code_27 (by decide) (fun c6 => ?_) (fun c6 => ?_)
    · have h := (if_neg c6).symm.trans h
      refine v_aload_n (pc := 36) O dX12_code_36 0 rfl ?_
      refine v_getK (pc := 37) (a := 207) O hm gf_X12_11 fl_X12_30 kq_207 lk_207_11 dX12_code_37 ?_
      refine v_aload_n (pc := 40) O dX12_code_40 0 rfl ?_
      refine v_getI (pc := 41) (a := 207) O gf_X12_13 fl_X12_406 kq_207 dX12_code_41 ?_
      refine v_iload_n (pc := 44) O dX12_code_44 1 rfl ?_
      obtain ⟨c7, h⟩ := or_none h
      refine v_iast (pc := 45) (a := 212) O kq_212 (inq lq_212 c7) dX12_code_45 ?_
      refine v_aload_n (pc := 46) O dX12_code_46 0 rfl ?_
      refine v_getK (pc := 47) (a := 207) O hm gf_X12_12 fl_X12_33 kq_207 lk_207_12 dX12_code_47 ?_
      refine v_aload_n (pc := 50) O dX12_code_50 0 rfl ?_
      refine v_getI (pc := 51) (a := 207) O gf_X12_13 fl_X12_406 kq_207 dX12_code_51 ?_
      refine v_iload_n (pc := 54) O dX12_code_54 2 rfl ?_
      obtain ⟨c8, h⟩ := or_none h
      refine v_iast (pc := 55) (a := 213) O kq_213 (inq lq_213 c8) dX12_code_55 ?_
      refine v_aload_n (pc := 56) O dX12_code_56 0 rfl ?_
      refine v_dup (pc := 57) O dX12_code_57 rfl ?_
      refine v_getI (pc := 58) (a := 207) O gf_X12_13 fl_X12_406 kq_207 dX12_code_58 ?_
      refine v_iconst (pc := 61) O dX12_code_61 ic_1 ?_
      refine v_iadd (pc := 62) O dX12_code_62 ?_
      refine v_putI (pc := 63) (a := 207) O pf_X12_13 fl_X12_406 kq_207 dX12_code_63 ?_
      refine v_sub [0] rfl ?_
      exact w_X12_code_b66 O hm hn hz (sI (sI (sI p3.2 212 (dI p3.2 207 13).toNatClampNeg x1) 213 (dI (sI p3.2 212 (dI p3.2 207 13).toNatClampNeg x1) 207 13).toNatClampNeg x2) 207 13 ((dI (sI (sI p3.2 212 (dI p3.2 207 13).toNatClampNeg x1) 213 (dI (sI p3.2 212 (dI p3.2 207 13).toNatClampNeg x1) 207 13).toNatClampNeg x2) 207 13) + (1 : Int32))) h
    · have h := (if_pos c6).symm.trans h
      refine v_aload_n (pc := 30) O dX12_code_30 0 rfl ?_
      refine v_iconst (pc := 31) O dX12_code_31 ic_2 ?_
      obtain ⟨p9, e10, h⟩ := bind_some h
      refine v_callV (pc := 32) (a := 207) (As := [.int 2]) (rest := []) (r := (some (.int p9.1))) (D' := p9.2) O (bb0 hz) (c_X12_fail hm e10) mw_X12_fail im_X12_fail se_X12_fail ml_X12_190 kq_207 (by decide) rfl rfl rfl (by decide) (by decide) (Nat.le_of_ble_eq_true rfl) dX12_code_32 rfl rfl ?_
      obtain rfl := Option.some.inj h
      exact v_iret (pc := 35) O hz dX12_code_35
  · have h := (if_neg c5).symm.trans h
    refine v_aload_n (pc := 15) O dX12_code_15 0 rfl ?_
    refine v_iconst (pc := 16) O dX12_code_16 ic_1 ?_
    obtain ⟨p11, e12, h⟩ := bind_some h
    refine v_callV (pc := 17) (a := 207) (As := [.int 1]) (rest := []) (r := (some (.int p11.1))) (D' := p11.2) O (bb0 hz) (c_X12_fail hm e12) mw_X12_fail im_X12_fail se_X12_fail ml_X12_190 kq_207 (by decide) rfl rfl rfl (by decide) (by decide) (Nat.le_of_ble_eq_true rfl) dX12_code_17 rfl rfl ?_
    obtain rfl := Option.some.inj h
    exact v_iret (pc := 20) O hz dX12_code_20
theorem c_X12_code {l : Launch} {w : Wx} {n nu c u : Nat} {K : Nat → Nat} (hm : wlm w = true) {x1 : Int32} {x2 : Int32} {D : Dat} {z : Int32 × Dat} (h : f_X12_code x1 x2 D = some z) : C0 l w yX12_code cX12_code 3 (some .int) 1 22 [.ref (wb w + pp 207), .int x1, .int x2] n (Ax nu K c u) D (some (.int z.1)) z.2 :=
  C0.of (by decide) (Nat.le_of_ble_eq_true rfl) (fun X e1 e2 e3 hz O => by
  subst e1
  subst e2
  exact w_X12_code O hm e3 hz x1 x2 D h)
def f_X12_fix_b28 (D : Dat) : Option (Int32 × Dat) :=
  (f_X12_fail 1 D).bind (fun p1 => some (p1.1, p1.2))
set_option maxHeartbeats 4000000 in
theorem w_X12_fix_b28 {X : Cx} {n nu c u : Nat} {K : Nat → Nat} {z : Int32 × Dat} (O : Ok X cX12_fix RX12 (some .int) 1 22) (hm : wlm (xw X) = true) (hn : xn X = 5) (hz : Z0 X (Ax nu K c u)) (D : Dat) (h : f_X12_fix_b28 D = some z) : V X (Q0 X n (Ax nu K c u) (some (.int z.1)) z.2) n (Ax nu K c u) D 28 [(0, .ref (bo X + pp 207))] [] := by
  unfold f_X12_fix_b28 at h
  refine v_aload_n (pc := 28) O dX12_fix_28 0 rfl ?_
  refine v_iconst (pc := 29) O dX12_fix_29 ic_1 ?_
  obtain ⟨p1, e2, h⟩ := bind_some h
  refine v_callV (pc := 30) (a := 207) (As := [.int 1]) (rest := []) (r := (some (.int p1.1))) (D' := p1.2) O (bb0 hz) (c_X12_fail hm e2) mw_X12_fail im_X12_fail se_X12_fail ml_X12_190 kq_207 (by decide) rfl rfl rfl (by decide) (by decide) (Nat.le_of_ble_eq_true rfl) dX12_fix_30 rfl rfl ?_
  obtain rfl := Option.some.inj h
  exact v_iret (pc := 33) O hz dX12_fix_33
def f_X12_fix_b76 (x4 : Int32) (D : Dat) : Option (Int32 × Dat) :=
  (f_X12_changed D).bind (fun p3 => some (x4, p3))
set_option maxHeartbeats 4000000 in
theorem w_X12_fix_b76 {X : Cx} {n nu c u : Nat} {K : Nat → Nat} {z : Int32 × Dat} (O : Ok X cX12_fix RX12 (some .int) 1 22) (hm : wlm (xw X) = true) (hn : xn X = 5) (hz : Z0 X (Ax nu K c u)) (x4 : Int32) (D : Dat) (h : f_X12_fix_b76 x4 D = some z) : V X (Q0 X n (Ax nu K c u) (some (.int z.1)) z.2) n (Ax nu K c u) D 76 [(0, .ref (bo X + pp 207)), (4, .int x4)] [] := by
  unfold f_X12_fix_b76 at h
  refine v_aload_n (pc := 76) O dX12_fix_76 0 rfl ?_
  obtain ⟨p3, e4, h⟩ := bind_some h
  refine v_callV (pc := 77) (a := 207) (As := []) (rest := []) (r := none) (D' := p3) O (bb0 hz) (c_X12_changed hm e4) mw_X12_changed im_X12_changed se_X12_changed ml_X12_415 kq_207 (by decide) rfl rfl rfl (by decide) (by decide) (Nat.le_of_ble_eq_true rfl) dX12_fix_77 rfl rfl ?_
  refine v_iload (pc := 80) O dX12_fix_80 1 rfl ?_
  obtain rfl := Option.some.inj h
  exact v_iret (pc := 82) O hz dX12_fix_82
def f_X12_fix_b53 (x1 : Int32) (x2 : Int32) (x3 : Int32) (s0 : Int32) (D : Dat) : Option (Int32 × Dat) :=
  if x2 = 0 then (if x1 < 0 ∨ 26 ≤ (x1).toNatClampNeg then none else (f_X12_fix_b76 s0 (sI D 214 (x1).toNatClampNeg x3))) else (if x1 < 0 ∨ 26 ≤ (x1).toNatClampNeg then none else (f_X12_fix_b76 s0 (sI D 215 (x1).toNatClampNeg x3)))
set_option maxHeartbeats 4000000 in
theorem w_X12_fix_b53 {X : Cx} {n nu c u : Nat} {K : Nat → Nat} {z : Int32 × Dat} (O : Ok X cX12_fix RX12 (some .int) 1 22) (hm : wlm (xw X) = true) (hn : xn X = 5) (hz : Z0 X (Ax nu K c u)) (x1 : Int32) (x2 : Int32) (x3 : Int32) (s0 : Int32) (D : Dat) (h : f_X12_fix_b53 x1 x2 x3 s0 D = some z) : V X (Q0 X n (Ax nu K c u) (some (.int z.1)) z.2) n (Ax nu K c u) D 53 [(0, .ref (bo X + pp 207)), (1, .int x1), (2, .int x2), (3, .int x3)] [.int s0] := by
  unfold f_X12_fix_b53 at h
  refine v_istore (pc := 53) (lv' := [(4, .int s0), (0, .ref (bo X + pp 207)), (1, .int x1), (2, .int x2), (3, .int x3)]) O dX12_fix_53 (by rw [hn]; decide) rfl ?_
  refine v_iload_n (pc := 55) O dX12_fix_55 3 rfl ?_
  refine v_ifeq (pc := 56) 69 O dX12_fix_56 (by decide) (fun c5 => ?_) (fun c5 => ?_)
  · have h := (if_pos c5).symm.trans h
    refine v_aload_n (pc := 69) O dX12_fix_69 1 rfl ?_
    refine v_getK (pc := 70) (a := 207) O hm gf_X12_14 fl_X12_36 kq_207 lk_207_14 dX12_fix_70 ?_
    refine v_iload_n (pc := 73) O dX12_fix_73 2 rfl ?_
    refine v_iload_n (pc := 74) O dX12_fix_74 4 rfl ?_
    obtain ⟨c6, h⟩ := or_none h
    refine v_iast (pc := 75) (a := 214) O kq_214 (inq lq_214 c6) dX12_fix_75 ?_
    refine v_sub [1, 0] rfl ?_
    exact w_X12_fix_b76 O hm hn hz s0 (sI D 214 (x1).toNatClampNeg x3) h
  · have h := (if_neg c5).symm.trans h
    refine v_aload_n (pc := 59) O dX12_fix_59 1 rfl ?_
    refine v_getK (pc := 60) (a := 207) O hm gf_X12_15 fl_X12_39 kq_207 lk_207_15 dX12_fix_60 ?_
    refine v_iload_n (pc := 63) O dX12_fix_63 2 rfl ?_
    refine v_iload_n (pc := 64) O dX12_fix_64 4 rfl ?_
    obtain ⟨c7, h⟩ := or_none h
    refine v_iast (pc := 65) (a := 215) O kq_215 (inq lq_215 c7) dX12_fix_65 ?_
    refine v_goto (pc := 66) 76 O dX12_fix_66 (by decide) ?_
    refine v_sub [1, 0] rfl ?_
    exact w_X12_fix_b76 O hm hn hz s0 (sI D 215 (x1).toNatClampNeg x3) h
def f_X12_fix (x1 : Int32) (x2 : Int32) (x3 : Int32) (D : Dat) : Option (Int32 × Dat) :=
  (f_X12_out x1 26 (sI D 207 0 0)).bind (fun p8 => if p8.1 = 0 then (if x3 < (-1) then (f_X12_fix_b28 p8.2) else (if x3 < (dI p8.2 207 1) then (if x2 = 0 then (if x1 < 0 ∨ 26 ≤ (x1).toNatClampNeg then none else (f_X12_fix_b53 x1 x2 x3 (dI p8.2 214 (x1).toNatClampNeg) p8.2)) else (if x1 < 0 ∨ 26 ≤ (x1).toNatClampNeg then none else (f_X12_fix_b53 x1 x2 x3 (dI p8.2 215 (x1).toNatClampNeg) p8.2))) else (f_X12_fix_b28 p8.2))) else (f_X12_fix_b28 p8.2))
set_option maxHeartbeats 4000000 in
theorem w_X12_fix {X : Cx} {n nu c u : Nat} {K : Nat → Nat} {z : Int32 × Dat} (O : Ok X cX12_fix RX12 (some .int) 1 22) (hm : wlm (xw X) = true) (hn : xn X = 5) (hz : Z0 X (Ax nu K c u)) (x1 : Int32) (x2 : Int32) (x3 : Int32) (D : Dat) (h : f_X12_fix x1 x2 x3 D = some z) : V X (Q0 X n (Ax nu K c u) (some (.int z.1)) z.2) n (Ax nu K c u) D 0 [(0, .ref (bo X + pp 207)), (1, .int x1), (2, .int x2), (3, .int x3)] [] := by
  unfold f_X12_fix at h
  refine v_aload_n (pc := 0) O dX12_fix_0 0 rfl ?_
  refine v_iconst (pc := 1) O dX12_fix_1 ic_0 ?_
  refine v_putI (pc := 2) (a := 207) O pf_X12_0 fl_X12_183 kq_207 dX12_fix_2 ?_
  refine v_aload_n (pc := 5) O dX12_fix_5 0 rfl ?_
  refine v_iload_n (pc := 6) O dX12_fix_6 1 rfl ?_
  refine v_bipush (pc := 7) O dX12_fix_7 bp_26 ?_
  obtain ⟨p8, e9, h⟩ := bind_some h
  refine v_callV (pc := 9) (a := 207) (As := [.int x1, .int 26]) (rest := []) (r := (some (.int p8.1))) (D' := p8.2) O (bb0 hz) (c_X12_out hm e9) mw_X12_out im_X12_out se_X12_out ml_X12_186 kq_207 (by decide) rfl rfl rfl (by decide) (by decide) (Nat.le_of_ble_eq_true rfl) dX12_fix_9 rfl rfl ?_
  refine v_ifne (pc := 12) 28 O dX12_fix_12 (by decide) (fun c10 => ?_) (fun c10 => ?_)
  · have h := (if_neg c10).symm.trans h
    refine v_sub [0] rfl ?_
    exact w_X12_fix_b28 O hm hn hz p8.2 h
  · have h := (if_pos c10).symm.trans h
    refine v_iload_n (pc := 15) O dX12_fix_15 3 rfl ?_
    refine v_iconst (pc := 16) O dX12_fix_16 ic_m1 ?_
    refine v_icmplt (pc := 17) 28 O dX12_fix_17 (by decide) (fun c11 => ?_) (fun c11 => ?_)
    · have h := (if_pos c11).symm.trans h
      refine v_sub [0] rfl ?_
      exact w_X12_fix_b28 O hm hn hz p8.2 h
    · have h := (if_neg c11).symm.trans h
      refine v_iload_n (pc := 20) O dX12_fix_20 3 rfl ?_
      refine v_aload_n (pc := 21) O dX12_fix_21 0 rfl ?_
      refine v_getI (pc := 22) (a := 207) O gf_X12_1 fl_X12_180 kq_207 dX12_fix_22 ?_
      refine v_icmplt (pc := 25) 34 O dX12_fix_25 (by decide) (fun c12 => ?_) (fun c12 => ?_)
      · have h := (if_pos c12).symm.trans h
        refine v_iload_n (pc := 34) O dX12_fix_34 2 rfl ?_
        refine v_ifeq (pc := 35) 47 O dX12_fix_35 (by decide) (fun c13 => ?_) (fun c13 => ?_)
        · have h := (if_pos c13).symm.trans h
          refine v_aload_n (pc := 47) O dX12_fix_47 0 rfl ?_
          refine v_getK (pc := 48) (a := 207) O hm gf_X12_14 fl_X12_36 kq_207 lk_207_14 dX12_fix_48 ?_
          refine v_iload_n (pc := 51) O dX12_fix_51 1 rfl ?_
          obtain ⟨c14, h⟩ := or_none h
          refine v_iald (pc := 52) (a := 214) O kq_214 (inq lq_214 c14) dX12_fix_52 ?_
          refine v_sub [0, 1, 2, 3] rfl ?_
          exact w_X12_fix_b53 O hm hn hz x1 x2 x3 (dI p8.2 214 (x1).toNatClampNeg) p8.2 h
        · have h := (if_neg c13).symm.trans h
          refine v_aload_n (pc := 38) O dX12_fix_38 0 rfl ?_
          refine v_getK (pc := 39) (a := 207) O hm gf_X12_15 fl_X12_39 kq_207 lk_207_15 dX12_fix_39 ?_
          refine v_iload_n (pc := 42) O dX12_fix_42 1 rfl ?_
          obtain ⟨c15, h⟩ := or_none h
          refine v_iald (pc := 43) (a := 215) O kq_215 (inq lq_215 c15) dX12_fix_43 ?_
          refine v_goto (pc := 44) 53 O dX12_fix_44 (by decide) ?_
          refine v_sub [0, 1, 2, 3] rfl ?_
          exact w_X12_fix_b53 O hm hn hz x1 x2 x3 (dI p8.2 215 (x1).toNatClampNeg) p8.2 h
      · have h := (if_neg c12).symm.trans h
        refine v_sub [0] rfl ?_
        exact w_X12_fix_b28 O hm hn hz p8.2 h
theorem c_X12_fix {l : Launch} {w : Wx} {n nu c u : Nat} {K : Nat → Nat} (hm : wlm w = true) {x1 : Int32} {x2 : Int32} {x3 : Int32} {D : Dat} {z : Int32 × Dat} (h : f_X12_fix x1 x2 x3 D = some z) : C0 l w yX12_fix cX12_fix 5 (some .int) 1 22 [.ref (wb w + pp 207), .int x1, .int x2, .int x3] n (Ax nu K c u) D (some (.int z.1)) z.2 :=
  C0.of (by decide) (Nat.le_of_ble_eq_true rfl) (fun X e1 e2 e3 hz O => by
  subst e1
  subst e2
  exact w_X12_fix O hm e3 hz x1 x2 x3 D h)
def f_X12_clear_b17 (N : Nat) : Nat → Int32 → Int32 → Dat → Option (Int32 × Dat)
  | 0, _, _, _ => none
  | g + 1, x1, x2, D => if 26 ≤ x2 then ((f_X12_changed D).bind (fun p2 => some (x1, p2))) else (if x2 < 0 ∨ 26 ≤ (x2).toNatClampNeg then none else (if x2 < 0 ∨ 26 ≤ (x2).toNatClampNeg then none else ((f_X12_clear_b17 N g) x1 (x2 + 1) (sI (sI D 214 (x2).toNatClampNeg (-1)) 215 (x2).toNatClampNeg (-1)))))
set_option maxHeartbeats 4000000 in
theorem w_X12_clear_b17 {X : Cx} {n nu c u : Nat} {K : Nat → Nat} {N : Nat} {z : Int32 × Dat} (O : Ok X cX12_clear RX12 (some .int) 1 20) (hm : wlm (xw X) = true) (hn : xn X = 3) (hz : Z0 X (Ax nu K c u)) : ∀ (g : Nat) (x1 : Int32) (x2 : Int32) (D : Dat), f_X12_clear_b17 N g x1 x2 D = some z → V X (Q0 X n (Ax nu K c u) (some (.int z.1)) z.2) n (Ax nu K c u) D 17 [(0, .ref (bo X + pp 207)), (1, .int x1), (2, .int x2)] [] := by
  intro g
  induction g with
  | zero => intro x1 x2 D h; exact absurd h (by simp [f_X12_clear_b17])
  | succ g ih =>
    intro x1 x2 D h
    rw [f_X12_clear_b17] at h
    refine v_iload_n (pc := 17) O dX12_clear_17 2 rfl ?_
    refine v_bipush (pc := 18) O dX12_clear_18 bp_26 ?_
    refine v_icmpge (pc := 20) 43 O dX12_clear_20 (by decide) (fun c1 => ?_) (fun c1 => ?_)
    · have h := (if_pos c1).symm.trans h
      refine v_aload_n (pc := 43) O dX12_clear_43 0 rfl ?_
      obtain ⟨p2, e3, h⟩ := bind_some h
      refine v_callV (pc := 44) (a := 207) (As := []) (rest := []) (r := none) (D' := p2) O (bb0 hz) (c_X12_changed hm e3) mw_X12_changed im_X12_changed se_X12_changed ml_X12_415 kq_207 (by decide) rfl rfl rfl (by decide) (by decide) (Nat.le_of_ble_eq_true rfl) dX12_clear_44 rfl rfl ?_
      refine v_iload_n (pc := 47) O dX12_clear_47 1 rfl ?_
      obtain rfl := Option.some.inj h
      exact v_iret (pc := 48) O hz dX12_clear_48
    · have h := (if_neg c1).symm.trans h
      refine v_aload_n (pc := 23) O dX12_clear_23 0 rfl ?_
      refine v_getK (pc := 24) (a := 207) O hm gf_X12_14 fl_X12_36 kq_207 lk_207_14 dX12_clear_24 ?_
      refine v_iload_n (pc := 27) O dX12_clear_27 2 rfl ?_
      refine v_iconst (pc := 28) O dX12_clear_28 ic_m1 ?_
      obtain ⟨c4, h⟩ := or_none h
      refine v_iast (pc := 29) (a := 214) O kq_214 (inq lq_214 c4) dX12_clear_29 ?_
      refine v_aload_n (pc := 30) O dX12_clear_30 0 rfl ?_
      refine v_getK (pc := 31) (a := 207) O hm gf_X12_15 fl_X12_39 kq_207 lk_207_15 dX12_clear_31 ?_
      refine v_iload_n (pc := 34) O dX12_clear_34 2 rfl ?_
      refine v_iconst (pc := 35) O dX12_clear_35 ic_m1 ?_
      obtain ⟨c5, h⟩ := or_none h
      refine v_iast (pc := 36) (a := 215) O kq_215 (inq lq_215 c5) dX12_clear_36 ?_
      refine v_iinc (pc := 37) (lv' := [(2, .int (x2 + 1)), (0, .ref (bo X + pp 207)), (1, .int x1)]) O dX12_clear_37 2 rfl (congrArg (fun q => x2 + q) ic_1) (by rw [hn]; decide) rfl ?_
      refine v_goto (pc := 40) 17 O dX12_clear_40 (by decide) ?_
      refine v_sub [1, 2, 0] rfl ?_
      exact ih x1 (x2 + 1) (sI (sI D 214 (x2).toNatClampNeg (-1)) 215 (x2).toNatClampNeg (-1)) h
def f_X12_clear (N : Nat) (D : Dat) : Option (Int32 × Dat) :=
  f_X12_clear_b17 N N (dI (sI D 207 0 0) 207 13) 0 (sI (sI D 207 0 0) 207 13 0)
set_option maxHeartbeats 4000000 in
theorem w_X12_clear {X : Cx} {n nu c u : Nat} {K : Nat → Nat} {N : Nat} {z : Int32 × Dat} (O : Ok X cX12_clear RX12 (some .int) 1 20) (hm : wlm (xw X) = true) (hn : xn X = 3) (hz : Z0 X (Ax nu K c u)) (D : Dat) (h : f_X12_clear N D = some z) : V X (Q0 X n (Ax nu K c u) (some (.int z.1)) z.2) n (Ax nu K c u) D 0 [(0, .ref (bo X + pp 207))] [] := by
  unfold f_X12_clear at h
  refine v_aload_n (pc := 0) O dX12_clear_0 0 rfl ?_
  refine v_iconst (pc := 1) O dX12_clear_1 ic_0 ?_
  refine v_putI (pc := 2) (a := 207) O pf_X12_0 fl_X12_183 kq_207 dX12_clear_2 ?_
  refine v_aload_n (pc := 5) O dX12_clear_5 0 rfl ?_
  refine v_getI (pc := 6) (a := 207) O gf_X12_13 fl_X12_406 kq_207 dX12_clear_6 ?_
  refine v_istore_n (pc := 9) (lv' := [(1, .int (dI (sI D 207 0 0) 207 13)), (0, .ref (bo X + pp 207))]) O dX12_clear_9 rfl (by rw [hn]; decide) rfl ?_
  refine v_aload_n (pc := 10) O dX12_clear_10 1 rfl ?_
  refine v_iconst (pc := 11) O dX12_clear_11 ic_0 ?_
  refine v_putI (pc := 12) (a := 207) O pf_X12_13 fl_X12_406 kq_207 dX12_clear_12 ?_
  refine v_iconst (pc := 15) O dX12_clear_15 ic_0 ?_
  refine v_istore_n (pc := 16) (lv' := [(2, .int 0), (1, .int (dI (sI D 207 0 0) 207 13)), (0, .ref (bo X + pp 207))]) O dX12_clear_16 rfl (by rw [hn]; decide) rfl ?_
  refine v_sub [2, 1, 0] rfl ?_
  exact w_X12_clear_b17 O hm hn hz N (dI (sI D 207 0 0) 207 13) 0 (sI (sI D 207 0 0) 207 13 0) h
theorem c_X12_clear {l : Launch} {w : Wx} {n nu c u : Nat} {K : Nat → Nat} {N : Nat} (hm : wlm w = true) {D : Dat} {z : Int32 × Dat} (h : f_X12_clear N D = some z) : C0 l w yX12_clear cX12_clear 3 (some .int) 1 20 [.ref (wb w + pp 207)] n (Ax nu K c u) D (some (.int z.1)) z.2 :=
  C0.of (by decide) (Nat.le_of_ble_eq_true rfl) (fun X e1 e2 e3 hz O => by
  subst e1
  subst e2
  exact w_X12_clear O hm e3 hz  D h)
def f_X12_takes_b40 (s0 : Int32) (D : Dat) : Option (Int32 × Dat) :=
  some (s0, D)
set_option maxHeartbeats 4000000 in
theorem w_X12_takes_b40 {X : Cx} {n nu c u : Nat} {K : Nat → Nat} {z : Int32 × Dat} (O : Ok X cX12_takes RX12 (some .int) 0 0) (hm : wlm (xw X) = true) (hn : xn X = 2) (hz : Z0 X (Ax nu K c u)) (s0 : Int32) (D : Dat) (h : f_X12_takes_b40 s0 D = some z) : V X (Q0 X n (Ax nu K c u) (some (.int z.1)) z.2) n (Ax nu K c u) D 40 [] [.int s0] := by
  unfold f_X12_takes_b40 at h
  obtain rfl := Option.some.inj h
  exact v_iret (pc := 40) O hz dX12_takes_40
def f_X12_takes_b35 (D : Dat) : Option (Int32 × Dat) :=
  f_X12_takes_b40 1 D
set_option maxHeartbeats 4000000 in
theorem w_X12_takes_b35 {X : Cx} {n nu c u : Nat} {K : Nat → Nat} {z : Int32 × Dat} (O : Ok X cX12_takes RX12 (some .int) 0 0) (hm : wlm (xw X) = true) (hn : xn X = 2) (hz : Z0 X (Ax nu K c u)) (D : Dat) (h : f_X12_takes_b35 D = some z) : V X (Q0 X n (Ax nu K c u) (some (.int z.1)) z.2) n (Ax nu K c u) D 35 [] [] := by
  unfold f_X12_takes_b35 at h
  refine v_iconst (pc := 35) O dX12_takes_35 ic_1 ?_
  refine v_goto (pc := 36) 40 O dX12_takes_36 (by decide) ?_
  refine v_sub [] rfl ?_
  exact w_X12_takes_b40 O hm hn hz 1 D h
def f_X12_takes_b13 (x1 : Int32) (D : Dat) : Option (Int32 × Dat) :=
  if x1 = 2 then (f_X12_takes_b35 D) else (if x1 = 3 then (f_X12_takes_b35 D) else (if x1 = 11 then (f_X12_takes_b35 D) else (if x1 = 14 then (f_X12_takes_b35 D) else (f_X12_takes_b40 0 D))))
set_option maxHeartbeats 4000000 in
theorem w_X12_takes_b13 {X : Cx} {n nu c u : Nat} {K : Nat → Nat} {z : Int32 × Dat} (O : Ok X cX12_takes RX12 (some .int) 0 0) (hm : wlm (xw X) = true) (hn : xn X = 2) (hz : Z0 X (Ax nu K c u)) (x1 : Int32) (D : Dat) (h : f_X12_takes_b13 x1 D = some z) : V X (Q0 X n (Ax nu K c u) (some (.int z.1)) z.2) n (Ax nu K c u) D 13 [(1, .int x1)] [] := by
  unfold f_X12_takes_b13 at h
  refine v_iload_n (pc := 13) O dX12_takes_13 0 rfl ?_
  refine v_iconst (pc := 14) O dX12_takes_14 ic_2 ?_
  refine v_icmpeq (pc := 15) 35 O dX12_takes_15 (by decide) (fun c1 => ?_) (fun c1 => ?_)
  · have h := (if_pos c1).symm.trans h
    refine v_sub [] rfl ?_
    exact w_X12_takes_b35 O hm hn hz D h
  · have h := (if_neg c1).symm.trans h
    refine v_iload_n (pc := 18) O dX12_takes_18 0 rfl ?_
    refine v_iconst (pc := 19) O dX12_takes_19 ic_3 ?_
    refine v_icmpeq (pc := 20) 35 O dX12_takes_20 (by decide) (fun c2 => ?_) (fun c2 => ?_)
    · have h := (if_pos c2).symm.trans h
      refine v_sub [] rfl ?_
      exact w_X12_takes_b35 O hm hn hz D h
    · have h := (if_neg c2).symm.trans h
      refine v_iload_n (pc := 23) O dX12_takes_23 0 rfl ?_
      refine v_bipush (pc := 24) O dX12_takes_24 bp_11 ?_
      refine v_icmpeq (pc := 26) 35 O dX12_takes_26 (by decide) (fun c3 => ?_) (fun c3 => ?_)
      · have h := (if_pos c3).symm.trans h
        refine v_sub [] rfl ?_
        exact w_X12_takes_b35 O hm hn hz D h
      · have h := (if_neg c3).symm.trans h
        refine v_iload_n (pc := 29) O dX12_takes_29 0 rfl ?_
        refine v_bipush (pc := 30) O dX12_takes_30 bp_14 ?_
        refine v_icmpne (pc := 32) 39 O dX12_takes_32 (by decide) (fun c4 => ?_) (fun c4 => ?_)
        · have h := (if_neg c4).symm.trans h
          refine v_iconst (pc := 39) O dX12_takes_39 ic_0 ?_
          refine v_sub [] rfl ?_
          exact w_X12_takes_b40 O hm hn hz 0 D h
        · have h := (if_pos c4).symm.trans h
          refine v_sub [] rfl ?_
          exact w_X12_takes_b35 O hm hn hz D h
def f_X12_takes (x1 : Int32) (D : Dat) : Option (Int32 × Dat) :=
  if x1 < 4 then (f_X12_takes_b13 x1 D) else (if 10 < x1 then (f_X12_takes_b13 x1 D) else (some (2, D)))
set_option maxHeartbeats 4000000 in
theorem w_X12_takes {X : Cx} {n nu c u : Nat} {K : Nat → Nat} {z : Int32 × Dat} (O : Ok X cX12_takes RX12 (some .int) 0 0) (hm : wlm (xw X) = true) (hn : xn X = 2) (hz : Z0 X (Ax nu K c u)) (x1 : Int32) (D : Dat) (h : f_X12_takes x1 D = some z) : V X (Q0 X n (Ax nu K c u) (some (.int z.1)) z.2) n (Ax nu K c u) D 0 [(0, .ref (bo X + pp 207)), (1, .int x1)] [] := by
  unfold f_X12_takes at h
  refine v_iload_n (pc := 0) O dX12_takes_0 1 rfl ?_
  refine v_iconst (pc := 1) O dX12_takes_1 ic_4 ?_
  refine v_icmplt (pc := 2) 13 O dX12_takes_2 (by decide) (fun c5 => ?_) (fun c5 => ?_)
  · have h := (if_pos c5).symm.trans h
    refine v_sub [1] rfl ?_
    exact w_X12_takes_b13 O hm hn hz x1 D h
  · have h := (if_neg c5).symm.trans h
    refine v_iload_n (pc := 5) O dX12_takes_5 1 rfl ?_
    refine v_bipush (pc := 6) O dX12_takes_6 bp_10 ?_
    refine v_icmpgt (pc := 8) 13 O dX12_takes_8 (by decide) (fun c6 => ?_) (fun c6 => ?_)
    · have h := (if_pos c6).symm.trans h
      refine v_sub [1] rfl ?_
      exact w_X12_takes_b13 O hm hn hz x1 D h
    · have h := (if_neg c6).symm.trans h
      refine v_iconst (pc := 11) O dX12_takes_11 ic_2 ?_
      obtain rfl := Option.some.inj h
      exact v_iret (pc := 12) O hz dX12_takes_12
theorem c_X12_takes {l : Launch} {w : Wx} {n nu c u : Nat} {K : Nat → Nat} (hm : wlm w = true) {x1 : Int32} {D : Dat} {z : Int32 × Dat} (h : f_X12_takes x1 D = some z) : C0 l w yX12_takes cX12_takes 2 (some .int) 0 0 [.ref (wb w + pp 207), .int x1] n (Ax nu K c u) D (some (.int z.1)) z.2 :=
  C0.of (by decide) (Nat.le_of_ble_eq_true rfl) (fun X e1 e2 e3 hz O => by
  subst e1
  subst e2
  exact w_X12_takes O hm e3 hz x1 D h)
def f_X12_puts_b32 (s0 : Int32) (D : Dat) : Option (Int32 × Dat) :=
  some (s0, D)
set_option maxHeartbeats 4000000 in
theorem w_X12_puts_b32 {X : Cx} {n nu c u : Nat} {K : Nat → Nat} {z : Int32 × Dat} (O : Ok X cX12_puts RX12 (some .int) 0 0) (hm : wlm (xw X) = true) (hn : xn X = 2) (hz : Z0 X (Ax nu K c u)) (s0 : Int32) (D : Dat) (h : f_X12_puts_b32 s0 D = some z) : V X (Q0 X n (Ax nu K c u) (some (.int z.1)) z.2) n (Ax nu K c u) D 32 [] [.int s0] := by
  unfold f_X12_puts_b32 at h
  obtain rfl := Option.some.inj h
  exact v_iret (pc := 32) O hz dX12_puts_32
def f_X12_puts_b27 (D : Dat) : Option (Int32 × Dat) :=
  f_X12_puts_b32 1 D
set_option maxHeartbeats 4000000 in
theorem w_X12_puts_b27 {X : Cx} {n nu c u : Nat} {K : Nat → Nat} {z : Int32 × Dat} (O : Ok X cX12_puts RX12 (some .int) 0 0) (hm : wlm (xw X) = true) (hn : xn X = 2) (hz : Z0 X (Ax nu K c u)) (D : Dat) (h : f_X12_puts_b27 D = some z) : V X (Q0 X n (Ax nu K c u) (some (.int z.1)) z.2) n (Ax nu K c u) D 27 [] [] := by
  unfold f_X12_puts_b27 at h
  refine v_iconst (pc := 27) O dX12_puts_27 ic_1 ?_
  refine v_goto (pc := 28) 32 O dX12_puts_28 (by decide) ?_
  refine v_sub [] rfl ?_
  exact w_X12_puts_b32 O hm hn hz 1 D h
def f_X12_puts_b21 (x1 : Int32) (D : Dat) : Option (Int32 × Dat) :=
  if x1 = 13 then (f_X12_puts_b27 D) else (f_X12_puts_b32 0 D)
set_option maxHeartbeats 4000000 in
theorem w_X12_puts_b21 {X : Cx} {n nu c u : Nat} {K : Nat → Nat} {z : Int32 × Dat} (O : Ok X cX12_puts RX12 (some .int) 0 0) (hm : wlm (xw X) = true) (hn : xn X = 2) (hz : Z0 X (Ax nu K c u)) (x1 : Int32) (D : Dat) (h : f_X12_puts_b21 x1 D = some z) : V X (Q0 X n (Ax nu K c u) (some (.int z.1)) z.2) n (Ax nu K c u) D 21 [(1, .int x1)] [] := by
  unfold f_X12_puts_b21 at h
  refine v_iload_n (pc := 21) O dX12_puts_21 0 rfl ?_
  refine v_bipush (pc := 22) O dX12_puts_22 bp_13 ?_
  refine v_icmpne (pc := 24) 31 O dX12_puts_24 (by decide) (fun c1 => ?_) (fun c1 => ?_)
  · have h := (if_neg c1).symm.trans h
    refine v_iconst (pc := 31) O dX12_puts_31 ic_0 ?_
    refine v_sub [] rfl ?_
    exact w_X12_puts_b32 O hm hn hz 0 D h
  · have h := (if_pos c1).symm.trans h
    refine v_sub [] rfl ?_
    exact w_X12_puts_b27 O hm hn hz D h
def f_X12_puts (x1 : Int32) (D : Dat) : Option (Int32 × Dat) :=
  if x1 < 2 then (f_X12_puts_b27 D) else (if x1 = 3 then (f_X12_puts_b27 D) else (if x1 < 5 then (f_X12_puts_b21 x1 D) else (if x1 ≤ 10 then (f_X12_puts_b27 D) else (f_X12_puts_b21 x1 D))))
set_option maxHeartbeats 4000000 in
theorem w_X12_puts {X : Cx} {n nu c u : Nat} {K : Nat → Nat} {z : Int32 × Dat} (O : Ok X cX12_puts RX12 (some .int) 0 0) (hm : wlm (xw X) = true) (hn : xn X = 2) (hz : Z0 X (Ax nu K c u)) (x1 : Int32) (D : Dat) (h : f_X12_puts x1 D = some z) : V X (Q0 X n (Ax nu K c u) (some (.int z.1)) z.2) n (Ax nu K c u) D 0 [(0, .ref (bo X + pp 207)), (1, .int x1)] [] := by
  unfold f_X12_puts at h
  refine v_iload_n (pc := 0) O dX12_puts_0 1 rfl ?_
  refine v_iconst (pc := 1) O dX12_puts_1 ic_2 ?_
  refine v_icmplt (pc := 2) 27 O dX12_puts_2 (by decide) (fun c2 => ?_) (fun c2 => ?_)
  · have h := (if_pos c2).symm.trans h
    refine v_sub [] rfl ?_
    exact w_X12_puts_b27 O hm hn hz D h
  · have h := (if_neg c2).symm.trans h
    refine v_iload_n (pc := 5) O dX12_puts_5 1 rfl ?_
    refine v_iconst (pc := 6) O dX12_puts_6 ic_3 ?_
    refine v_icmpeq (pc := 7) 27 O dX12_puts_7 (by decide) (fun c3 => ?_) (fun c3 => ?_)
    · have h := (if_pos c3).symm.trans h
      refine v_sub [] rfl ?_
      exact w_X12_puts_b27 O hm hn hz D h
    · have h := (if_neg c3).symm.trans h
      refine v_iload_n (pc := 10) O dX12_puts_10 1 rfl ?_
      refine v_iconst (pc := 11) O dX12_puts_11 ic_5 ?_
      refine v_icmplt (pc := 12) 21 O dX12_puts_12 (by decide) (fun c4 => ?_) (fun c4 => ?_)
      · have h := (if_pos c4).symm.trans h
        refine v_sub [1] rfl ?_
        exact w_X12_puts_b21 O hm hn hz x1 D h
      · have h := (if_neg c4).symm.trans h
        refine v_iload_n (pc := 15) O dX12_puts_15 1 rfl ?_
        refine v_bipush (pc := 16) O dX12_puts_16 bp_10 ?_
        refine v_icmple (pc := 18) 27 O dX12_puts_18 (by decide) (fun c5 => ?_) (fun c5 => ?_)
        · have h := (if_pos c5).symm.trans h
          refine v_sub [] rfl ?_
          exact w_X12_puts_b27 O hm hn hz D h
        · have h := (if_neg c5).symm.trans h
          refine v_sub [1] rfl ?_
          exact w_X12_puts_b21 O hm hn hz x1 D h
theorem c_X12_puts {l : Launch} {w : Wx} {n nu c u : Nat} {K : Nat → Nat} (hm : wlm w = true) {x1 : Int32} {D : Dat} {z : Int32 × Dat} (h : f_X12_puts x1 D = some z) : C0 l w yX12_puts cX12_puts 2 (some .int) 0 0 [.ref (wb w + pp 207), .int x1] n (Ax nu K c u) D (some (.int z.1)) z.2 :=
  C0.of (by decide) (Nat.le_of_ble_eq_true rfl) (fun X e1 e2 e3 hz O => by
  subst e1
  subst e2
  exact w_X12_puts O hm e3 hz x1 D h)
