theorem cw_X12_bound : Cond.code yX12_bound cX12_bound 5 (some .boolean) ∈ tb := tb_of 2004 (by decide +kernel) (by decide +kernel)
theorem mw_X12_bound : MW yX12_bound cX12_bound 5 (some .boolean) 4 := ⟨cw_X12_bound, ini_X12, by decide +kernel⟩
theorem im_X12_bound : Cond.instanceMethod yX12_bound ∈ tb := tb_of 2003 (by decide +kernel) (by decide +kernel)
theorem se_X12_bound : Cond.selects (yX12_bound).cls yX12_bound yX12_bound ∈ tb := tb_of 87 (by decide +kernel) (by decide +kernel)
theorem ml_X12_198 : Cond.methodLink RX12 198 yX12_bound ∈ tb := tb_of 2001 (by decide +kernel) (by decide +kernel)
theorem fl_X12_20 : Cond.fieldLink RX12 20 RX12 (TX12 7).2.1 (TX12 7).2.2.1 ∈ tb := tb_of 1727 (by decide +kernel) (by decide +kernel)
theorem gf_X12_7 : FI 12 RX12 TX12 85 tyX12 7 0 := ⟨rfl, inb_X12, tyX12_ok, nmX12, by decide, by decide, rfl, rfl, rfl⟩
theorem pf_X12_7 : PI 12 RX12 TX12 85 tyX12 7 0 .int := ⟨gf_X12_7, rfl, rfl⟩
theorem fl_X12_24 : Cond.fieldLink RX12 24 RX12 (TX12 8).2.1 (TX12 8).2.2.1 ∈ tb := tb_of 1728 (by decide +kernel) (by decide +kernel)
theorem gf_X12_8 : FI 12 RX12 TX12 85 tyX12 8 0 := ⟨rfl, inb_X12, tyX12_ok, nmX12, by decide, by decide, rfl, rfl, rfl⟩
theorem pf_X12_8 : PI 12 RX12 TX12 85 tyX12 8 0 .int := ⟨gf_X12_8, rfl, rfl⟩
theorem bp_36 : (Int8.ofInt (36)).toInt32 = (36 : Int32) := by decide
theorem fl_X12_210 : Cond.fieldLink RX12 210 RX12 (TX12 6).2.1 (TX12 6).2.2.1 ∈ tb := tb_of 1726 (by decide +kernel) (by decide +kernel)
theorem gf_X12_6 : FI 12 RX12 TX12 85 tyX12 6 0 := ⟨rfl, inb_X12, tyX12_ok, nmX12, by decide, by decide, rfl, rfl, rfl⟩
theorem pf_X12_6 : PI 12 RX12 TX12 85 tyX12 6 0 .int := ⟨gf_X12_6, rfl, rfl⟩
theorem fl_X12_13 : Cond.fieldLink RX12 13 RX12 (TX12 3).2.1 (TX12 3).2.2.1 ∈ tb := tb_of 1723 (by decide +kernel) (by decide +kernel)
theorem gf_X12_3 : FI 12 RX12 TX12 85 tyX12 3 3 := ⟨rfl, inb_X12, tyX12_ok, nmX12, by decide, by decide, rfl, rfl, rfl⟩
theorem lk_207_3 : lks 207 3 = some 209 := by decide +kernel
theorem kq_209 {nu c u : Nat} {K : Nat → Nat} : (Ax nu K c u).1 209 = 14 := kd_lt (K := K) (a := 209) (by decide) rfl
theorem lq_209 {nu c u : Nat} {K : Nat → Nat} : (Ax nu K c u).2.1 209 = 36 := rfl
theorem cw_X12_nearest : Cond.code yX12_nearest cX12_nearest 7 (some .int) ∈ tb := tb_of 2000 (by decide +kernel) (by decide +kernel)
theorem mw_X12_nearest : MW yX12_nearest cX12_nearest 7 (some .int) 3 := ⟨cw_X12_nearest, ini_X12, by decide +kernel⟩
theorem im_X12_nearest : Cond.instanceMethod yX12_nearest ∈ tb := tb_of 1999 (by decide +kernel) (by decide +kernel)
theorem se_X12_nearest : Cond.selects (yX12_nearest).cls yX12_nearest yX12_nearest ∈ tb := tb_of 86 (by decide +kernel) (by decide +kernel)
theorem ml_X12_202 : Cond.methodLink RX12 202 yX12_nearest ∈ tb := tb_of 1997 (by decide +kernel) (by decide +kernel)
theorem fl_X12_17 : Cond.fieldLink RX12 17 RX12 (TX12 4).2.1 (TX12 4).2.2.1 ∈ tb := tb_of 1724 (by decide +kernel) (by decide +kernel)
theorem gf_X12_4 : FI 12 RX12 TX12 85 tyX12 4 3 := ⟨rfl, inb_X12, tyX12_ok, nmX12, by decide, by decide, rfl, rfl, rfl⟩
theorem lk_207_4 : lks 207 4 = some 210 := by decide +kernel
theorem kq_210 {nu c u : Nat} {K : Nat → Nat} : (Ax nu K c u).1 210 = 14 := kd_lt (K := K) (a := 210) (by decide) rfl
theorem lq_210 {nu c u : Nat} {K : Nat → Nat} : (Ax nu K c u).2.1 210 = 36 := rfl
theorem pf_X12_5 : PI 12 RX12 TX12 85 tyX12 5 0 .boolean := ⟨gf_X12_5, rfl, rfl⟩
theorem bp_10 : (Int8.ofInt (10)).toInt32 = (10 : Int32) := by decide
theorem bp_7 : (Int8.ofInt (7)).toInt32 = (7 : Int32) := by decide
theorem cw_X12_refuse : Cond.code yX12_refuse cX12_refuse 4 (some .int) ∈ tb := tb_of 2008 (by decide +kernel) (by decide +kernel)
theorem mw_X12_refuse : MW yX12_refuse cX12_refuse 4 (some .int) 3 := ⟨cw_X12_refuse, ini_X12, by decide +kernel⟩
theorem im_X12_refuse : Cond.instanceMethod yX12_refuse ∈ tb := tb_of 2007 (by decide +kernel) (by decide +kernel)
theorem se_X12_refuse : Cond.selects (yX12_refuse).cls yX12_refuse yX12_refuse ∈ tb := tb_of 88 (by decide +kernel) (by decide +kernel)
theorem ml_X12_206 : Cond.methodLink RX12 206 yX12_refuse ∈ tb := tb_of 2005 (by decide +kernel) (by decide +kernel)
theorem ic_3 : Int32.ofInt (3) = (3 : Int32) := by decide
def f_X12_bound_b74 (s0 : Int32) (D : Dat) : Option (Int32 × Dat) :=
  if s0 &&& 1 = s0 then some (s0, D) else none
set_option maxHeartbeats 4000000 in
theorem w_X12_bound_b74 {X : Cx} {n nu c u : Nat} {K : Nat → Nat} {z : Int32 × Dat} (O : Ok X cX12_bound RX12 (some .boolean) 0 0) (hm : wlm (xw X) = true) (hn : xn X = 5) (hz : Z0 X (Ax nu K c u)) (s0 : Int32) (D : Dat) (h : f_X12_bound_b74 s0 D = some z) : V X (Q0 X n (Ax nu K c u) (some (.int z.1)) z.2) n (Ax nu K c u) D 74 [] [.int s0] := by
  unfold f_X12_bound_b74 at h
  obtain ⟨c1, h⟩ := if_none h
  obtain rfl := Option.some.inj h
  exact v_zret (pc := 74) O hz (congrArg Value.int c1) dX12_bound_74
def f_X12_bound_b37 (D : Dat) : Option (Int32 × Dat) :=
  f_X12_bound_b74 0 D
set_option maxHeartbeats 4000000 in
theorem w_X12_bound_b37 {X : Cx} {n nu c u : Nat} {K : Nat → Nat} {z : Int32 × Dat} (O : Ok X cX12_bound RX12 (some .boolean) 0 0) (hm : wlm (xw X) = true) (hn : xn X = 5) (hz : Z0 X (Ax nu K c u)) (D : Dat) (h : f_X12_bound_b37 D = some z) : V X (Q0 X n (Ax nu K c u) (some (.int z.1)) z.2) n (Ax nu K c u) D 37 [] [] := by
  unfold f_X12_bound_b37 at h
  refine v_iconst (pc := 37) O dX12_bound_37 ic_0 ?_
  refine v_goto (pc := 38) 74 O dX12_bound_38 (by decide) ?_
  refine v_sub [] rfl ?_
  exact w_X12_bound_b74 O hm hn hz 0 D h
def f_X12_bound_b73 (D : Dat) : Option (Int32 × Dat) :=
  f_X12_bound_b74 0 D
set_option maxHeartbeats 4000000 in
theorem w_X12_bound_b73 {X : Cx} {n nu c u : Nat} {K : Nat → Nat} {z : Int32 × Dat} (O : Ok X cX12_bound RX12 (some .boolean) 0 0) (hm : wlm (xw X) = true) (hn : xn X = 5) (hz : Z0 X (Ax nu K c u)) (D : Dat) (h : f_X12_bound_b73 D = some z) : V X (Q0 X n (Ax nu K c u) (some (.int z.1)) z.2) n (Ax nu K c u) D 73 [] [] := by
  unfold f_X12_bound_b73 at h
  refine v_iconst (pc := 73) O dX12_bound_73 ic_0 ?_
  refine v_sub [] rfl ?_
  exact w_X12_bound_b74 O hm hn hz 0 D h
def f_X12_bound (x1 : Int32) (x2 : Int32) (x3 : Int32) (x4 : Int32) (D : Dat) : Option (Int32 × Dat) :=
  if x4 = 0 then (if (((6 : Int32) * x3) + x1) < 0 ∨ 36 ≤ ((((6 : Int32) * x3) + x1)).toNatClampNeg then none else (if (dI D 208 (((6 : Int32) * x3) + x1).toNatClampNeg) = 0 then (f_X12_bound_b73 D) else (if (((6 : Int32) * x3) + x2) < 0 ∨ 36 ≤ ((((6 : Int32) * x3) + x2)).toNatClampNeg then none else (if (dI D 208 (((6 : Int32) * x3) + x2).toNatClampNeg) = 0 then (f_X12_bound_b73 D) else (f_X12_bound_b74 1 D))))) else (if (((6 : Int32) * x1) + x3) < 0 ∨ 36 ≤ ((((6 : Int32) * x1) + x3)).toNatClampNeg then none else (if (dI D 208 (((6 : Int32) * x1) + x3).toNatClampNeg) = 0 then (f_X12_bound_b37 D) else (if (((6 : Int32) * x2) + x3) < 0 ∨ 36 ≤ ((((6 : Int32) * x2) + x3)).toNatClampNeg then none else (if (dI D 208 (((6 : Int32) * x2) + x3).toNatClampNeg) = 0 then (f_X12_bound_b37 D) else (f_X12_bound_b74 1 D)))))
set_option maxHeartbeats 4000000 in
theorem w_X12_bound {X : Cx} {n nu c u : Nat} {K : Nat → Nat} {z : Int32 × Dat} (O : Ok X cX12_bound RX12 (some .boolean) 0 0) (hm : wlm (xw X) = true) (hn : xn X = 5) (hz : Z0 X (Ax nu K c u)) (x1 : Int32) (x2 : Int32) (x3 : Int32) (x4 : Int32) (D : Dat) (h : f_X12_bound x1 x2 x3 x4 D = some z) : V X (Q0 X n (Ax nu K c u) (some (.int z.1)) z.2) n (Ax nu K c u) D 0 [(0, .ref (bo X + pp 207)), (1, .int x1), (2, .int x2), (3, .int x3), (4, .int x4)] [] := by
  unfold f_X12_bound at h
  refine v_iload (pc := 0) O dX12_bound_0 4 rfl ?_
  refine v_ifeq (pc := 2) 41 O dX12_bound_2 (by decide) (fun c2 => ?_) (fun c2 => ?_)
  · have h := (if_pos c2).symm.trans h
    refine v_aload_n (pc := 41) O dX12_bound_41 0 rfl ?_
    refine v_getK (pc := 42) (a := 207) O hm gf_X12_2 fl_X12_7 kq_207 lk_207_2 dX12_bound_42 ?_
    refine v_bipush (pc := 45) O dX12_bound_45 bp_6 ?_
    refine v_iload_n (pc := 47) O dX12_bound_47 3 rfl ?_
    refine v_imul (pc := 48) O dX12_bound_48 ?_
    refine v_iload_n (pc := 49) O dX12_bound_49 1 rfl ?_
    refine v_iadd (pc := 50) O dX12_bound_50 ?_
    obtain ⟨c3, h⟩ := or_none h
    refine v_zald (pc := 51) (a := 208) O kq_208 (inq lq_208 c3) dX12_bound_51 ?_
    refine v_ifeq (pc := 52) 73 O dX12_bound_52 (by decide) (fun c4 => ?_) (fun c4 => ?_)
    · have h := (if_pos c4).symm.trans h
      refine v_sub [] rfl ?_
      exact w_X12_bound_b73 O hm hn hz D h
    · have h := (if_neg c4).symm.trans h
      refine v_aload_n (pc := 55) O dX12_bound_55 0 rfl ?_
      refine v_getK (pc := 56) (a := 207) O hm gf_X12_2 fl_X12_7 kq_207 lk_207_2 dX12_bound_56 ?_
      refine v_bipush (pc := 59) O dX12_bound_59 bp_6 ?_
      refine v_iload_n (pc := 61) O dX12_bound_61 3 rfl ?_
      refine v_imul (pc := 62) O dX12_bound_62 ?_
      refine v_iload_n (pc := 63) O dX12_bound_63 2 rfl ?_
      refine v_iadd (pc := 64) O dX12_bound_64 ?_
      obtain ⟨c5, h⟩ := or_none h
      refine v_zald (pc := 65) (a := 208) O kq_208 (inq lq_208 c5) dX12_bound_65 ?_
      refine v_ifeq (pc := 66) 73 O dX12_bound_66 (by decide) (fun c6 => ?_) (fun c6 => ?_)
      · have h := (if_pos c6).symm.trans h
        refine v_sub [] rfl ?_
        exact w_X12_bound_b73 O hm hn hz D h
      · have h := (if_neg c6).symm.trans h
        refine v_iconst (pc := 69) O dX12_bound_69 ic_1 ?_
        refine v_goto (pc := 70) 74 O dX12_bound_70 (by decide) ?_
        refine v_sub [] rfl ?_
        exact w_X12_bound_b74 O hm hn hz 1 D h
  · have h := (if_neg c2).symm.trans h
    refine v_aload_n (pc := 5) O dX12_bound_5 0 rfl ?_
    refine v_getK (pc := 6) (a := 207) O hm gf_X12_2 fl_X12_7 kq_207 lk_207_2 dX12_bound_6 ?_
    refine v_bipush (pc := 9) O dX12_bound_9 bp_6 ?_
    refine v_iload_n (pc := 11) O dX12_bound_11 1 rfl ?_
    refine v_imul (pc := 12) O dX12_bound_12 ?_
    refine v_iload_n (pc := 13) O dX12_bound_13 3 rfl ?_
    refine v_iadd (pc := 14) O dX12_bound_14 ?_
    obtain ⟨c7, h⟩ := or_none h
    refine v_zald (pc := 15) (a := 208) O kq_208 (inq lq_208 c7) dX12_bound_15 ?_
    refine v_ifeq (pc := 16) 37 O dX12_bound_16 (by decide) (fun c8 => ?_) (fun c8 => ?_)
    · have h := (if_pos c8).symm.trans h
      refine v_sub [] rfl ?_
      exact w_X12_bound_b37 O hm hn hz D h
    · have h := (if_neg c8).symm.trans h
      refine v_aload_n (pc := 19) O dX12_bound_19 0 rfl ?_
      refine v_getK (pc := 20) (a := 207) O hm gf_X12_2 fl_X12_7 kq_207 lk_207_2 dX12_bound_20 ?_
      refine v_bipush (pc := 23) O dX12_bound_23 bp_6 ?_
      refine v_iload_n (pc := 25) O dX12_bound_25 2 rfl ?_
      refine v_imul (pc := 26) O dX12_bound_26 ?_
      refine v_iload_n (pc := 27) O dX12_bound_27 3 rfl ?_
      refine v_iadd (pc := 28) O dX12_bound_28 ?_
      obtain ⟨c9, h⟩ := or_none h
      refine v_zald (pc := 29) (a := 208) O kq_208 (inq lq_208 c9) dX12_bound_29 ?_
      refine v_ifeq (pc := 30) 37 O dX12_bound_30 (by decide) (fun c10 => ?_) (fun c10 => ?_)
      · have h := (if_pos c10).symm.trans h
        refine v_sub [] rfl ?_
        exact w_X12_bound_b37 O hm hn hz D h
      · have h := (if_neg c10).symm.trans h
        refine v_iconst (pc := 33) O dX12_bound_33 ic_1 ?_
        refine v_goto (pc := 34) 74 O dX12_bound_34 (by decide) ?_
        refine v_sub [] rfl ?_
        exact w_X12_bound_b74 O hm hn hz 1 D h
theorem c_X12_bound {l : Launch} {w : Wx} {n nu c u : Nat} {K : Nat → Nat} (hm : wlm w = true) {x1 : Int32} {x2 : Int32} {x3 : Int32} {x4 : Int32} {D : Dat} {z : Int32 × Dat} (h : f_X12_bound x1 x2 x3 x4 D = some z) : C0 l w yX12_bound cX12_bound 5 (some .boolean) 0 0 [.ref (wb w + pp 207), .int x1, .int x2, .int x3, .int x4] n (Ax nu K c u) D (some (.int z.1)) z.2 :=
  C0.of (by decide) (Nat.le_of_ble_eq_true rfl) (fun X e1 e2 e3 hz O => by
  subst e1
  subst e2
  exact w_X12_bound O hm e3 hz x1 x2 x3 x4 D h)
def f_X12_nearest_b96 (N : Nat) (rec_3 : Int32 → Int32 → Int32 → Int32 → Dat → Option (Int32 × Dat)) (rec_33 : Int32 → Int32 → Int32 → Int32 → Int32 → Int32 → Dat → Option (Int32 × Dat)) (x1 : Int32) (x2 : Int32) (x3 : Int32) (x4 : Int32) (x5 : Int32) (x6 : Int32) (D : Dat) : Option (Int32 × Dat) :=
  rec_33 x1 x2 x3 x4 x5 (x6 + 1) D
set_option maxHeartbeats 4000000 in
theorem w_X12_nearest_b96 {X : Cx} {n nu c u : Nat} {K : Nat → Nat} {N : Nat} {rec_3 : Int32 → Int32 → Int32 → Int32 → Dat → Option (Int32 × Dat)} {rec_33 : Int32 → Int32 → Int32 → Int32 → Int32 → Int32 → Dat → Option (Int32 × Dat)} {z : Int32 × Dat} (O : Ok X cX12_nearest RX12 (some .int) 1 24) (hm : wlm (xw X) = true) (hn : xn X = 7) (hz : Z0 X (Ax nu K c u)) (hrec_3 : ∀ (x1 : Int32) (x2 : Int32) (x3 : Int32) (x4 : Int32) (D : Dat), rec_3 x1 x2 x3 x4 D = some z → V X (Q0 X n (Ax nu K c u) (some (.int z.1)) z.2) n (Ax nu K c u) D 3 [(0, .ref (bo X + pp 207)), (1, .int x1), (2, .int x2), (3, .int x3), (4, .int x4)] []) (hrec_33 : ∀ (x1 : Int32) (x2 : Int32) (x3 : Int32) (x4 : Int32) (x5 : Int32) (x6 : Int32) (D : Dat), rec_33 x1 x2 x3 x4 x5 x6 D = some z → V X (Q0 X n (Ax nu K c u) (some (.int z.1)) z.2) n (Ax nu K c u) D 33 [(0, .ref (bo X + pp 207)), (1, .int x1), (2, .int x2), (3, .int x3), (4, .int x4), (5, .int x5), (6, .int x6)] []) (x1 : Int32) (x2 : Int32) (x3 : Int32) (x4 : Int32) (x5 : Int32) (x6 : Int32) (D : Dat) (h : f_X12_nearest_b96 N rec_3 rec_33 x1 x2 x3 x4 x5 x6 D = some z) : V X (Q0 X n (Ax nu K c u) (some (.int z.1)) z.2) n (Ax nu K c u) D 96 [(0, .ref (bo X + pp 207)), (1, .int x1), (2, .int x2), (3, .int x3), (4, .int x4), (5, .int x5), (6, .int x6)] [] := by
  unfold f_X12_nearest_b96 at h
  refine v_iinc (pc := 96) (lv' := [(6, .int (x6 + 1)), (0, .ref (bo X + pp 207)), (1, .int x1), (2, .int x2), (3, .int x3), (4, .int x4), (5, .int x5)]) O dX12_nearest_96 6 rfl (congrArg (fun q => x6 + q) ic_1) (by rw [hn]; decide) rfl ?_
  refine v_goto (pc := 99) 33 O dX12_nearest_99 (by decide) ?_
  refine v_sub [1, 2, 3, 4, 5, 6, 0] rfl ?_
  exact hrec_33 x1 x2 x3 x4 x5 (x6 + 1) D h
def f_X12_nearest_b93 (N : Nat) (rec_3 : Int32 → Int32 → Int32 → Int32 → Dat → Option (Int32 × Dat)) (rec_33 : Int32 → Int32 → Int32 → Int32 → Int32 → Int32 → Dat → Option (Int32 × Dat)) (x1 : Int32) (x2 : Int32) (x3 : Int32) (x4 : Int32) (x6 : Int32) (D : Dat) : Option (Int32 × Dat) :=
  f_X12_nearest_b96 N rec_3 rec_33 x1 x2 x3 x4 0 x6 D
set_option maxHeartbeats 4000000 in
theorem w_X12_nearest_b93 {X : Cx} {n nu c u : Nat} {K : Nat → Nat} {N : Nat} {rec_3 : Int32 → Int32 → Int32 → Int32 → Dat → Option (Int32 × Dat)} {rec_33 : Int32 → Int32 → Int32 → Int32 → Int32 → Int32 → Dat → Option (Int32 × Dat)} {z : Int32 × Dat} (O : Ok X cX12_nearest RX12 (some .int) 1 24) (hm : wlm (xw X) = true) (hn : xn X = 7) (hz : Z0 X (Ax nu K c u)) (hrec_3 : ∀ (x1 : Int32) (x2 : Int32) (x3 : Int32) (x4 : Int32) (D : Dat), rec_3 x1 x2 x3 x4 D = some z → V X (Q0 X n (Ax nu K c u) (some (.int z.1)) z.2) n (Ax nu K c u) D 3 [(0, .ref (bo X + pp 207)), (1, .int x1), (2, .int x2), (3, .int x3), (4, .int x4)] []) (hrec_33 : ∀ (x1 : Int32) (x2 : Int32) (x3 : Int32) (x4 : Int32) (x5 : Int32) (x6 : Int32) (D : Dat), rec_33 x1 x2 x3 x4 x5 x6 D = some z → V X (Q0 X n (Ax nu K c u) (some (.int z.1)) z.2) n (Ax nu K c u) D 33 [(0, .ref (bo X + pp 207)), (1, .int x1), (2, .int x2), (3, .int x3), (4, .int x4), (5, .int x5), (6, .int x6)] []) (x1 : Int32) (x2 : Int32) (x3 : Int32) (x4 : Int32) (x6 : Int32) (D : Dat) (h : f_X12_nearest_b93 N rec_3 rec_33 x1 x2 x3 x4 x6 D = some z) : V X (Q0 X n (Ax nu K c u) (some (.int z.1)) z.2) n (Ax nu K c u) D 93 [(0, .ref (bo X + pp 207)), (1, .int x1), (2, .int x2), (3, .int x3), (4, .int x4), (6, .int x6)] [] := by
  unfold f_X12_nearest_b93 at h
  refine v_iconst (pc := 93) O dX12_nearest_93 ic_0 ?_
  refine v_istore (pc := 94) (lv' := [(5, .int 0), (0, .ref (bo X + pp 207)), (1, .int x1), (2, .int x2), (3, .int x3), (4, .int x4), (6, .int x6)]) O dX12_nearest_94 (by rw [hn]; decide) rfl ?_
  refine v_sub [1, 2, 3, 4, 5, 0, 6] rfl ?_
  exact w_X12_nearest_b96 O hm hn hz hrec_3 hrec_33 x1 x2 x3 x4 0 x6 D h
def f_X12_nearest_b110 (N : Nat) (rec_3 : Int32 → Int32 → Int32 → Int32 → Dat → Option (Int32 × Dat)) (x1 : Int32) (x2 : Int32) (x3 : Int32) (x4 : Int32) (D : Dat) : Option (Int32 × Dat) :=
  rec_3 x1 x2 x3 (x4 + 1) D
set_option maxHeartbeats 4000000 in
theorem w_X12_nearest_b110 {X : Cx} {n nu c u : Nat} {K : Nat → Nat} {N : Nat} {rec_3 : Int32 → Int32 → Int32 → Int32 → Dat → Option (Int32 × Dat)} {z : Int32 × Dat} (O : Ok X cX12_nearest RX12 (some .int) 1 24) (hm : wlm (xw X) = true) (hn : xn X = 7) (hz : Z0 X (Ax nu K c u)) (hrec_3 : ∀ (x1 : Int32) (x2 : Int32) (x3 : Int32) (x4 : Int32) (D : Dat), rec_3 x1 x2 x3 x4 D = some z → V X (Q0 X n (Ax nu K c u) (some (.int z.1)) z.2) n (Ax nu K c u) D 3 [(0, .ref (bo X + pp 207)), (1, .int x1), (2, .int x2), (3, .int x3), (4, .int x4)] []) (x1 : Int32) (x2 : Int32) (x3 : Int32) (x4 : Int32) (D : Dat) (h : f_X12_nearest_b110 N rec_3 x1 x2 x3 x4 D = some z) : V X (Q0 X n (Ax nu K c u) (some (.int z.1)) z.2) n (Ax nu K c u) D 110 [(0, .ref (bo X + pp 207)), (1, .int x1), (2, .int x2), (3, .int x3), (4, .int x4)] [] := by
  unfold f_X12_nearest_b110 at h
  refine v_iinc (pc := 110) (lv' := [(4, .int (x4 + 1)), (0, .ref (bo X + pp 207)), (1, .int x1), (2, .int x2), (3, .int x3)]) O dX12_nearest_110 4 rfl (congrArg (fun q => x4 + q) ic_1) (by rw [hn]; decide) rfl ?_
  refine v_goto (pc := 113) 3 O dX12_nearest_113 (by decide) ?_
  refine v_sub [1, 2, 3, 4, 0] rfl ?_
  exact hrec_3 x1 x2 x3 (x4 + 1) D h
def f_X12_nearest_b33 (N : Nat) (rec_3 : Int32 → Int32 → Int32 → Int32 → Dat → Option (Int32 × Dat)) : Nat → Int32 → Int32 → Int32 → Int32 → Int32 → Int32 → Dat → Option (Int32 × Dat)
  | 0, _, _, _, _, _, _, _ => none
  | g + 1, x1, x2, x3, x4, x5, x6, D => if (dI D 207 1) ≤ x6 then (if x5 = 0 then (f_X12_nearest_b110 N rec_3 x1 x2 x3 x4 D) else (some (x4, D))) else ((f_X12_bound x1 x2 x6 x3 D).bind (fun p3 => if p3.1 = 0 then (f_X12_nearest_b96 N rec_3 (f_X12_nearest_b33 N rec_3 g) x1 x2 x3 x4 x5 x6 p3.2) else (if x3 = 0 then (if (((6 : Int32) * x6) + x4) < 0 ∨ 36 ≤ ((((6 : Int32) * x6) + x4)).toNatClampNeg then none else (if (dI p3.2 208 (((6 : Int32) * x6) + x4).toNatClampNeg) = 0 then (f_X12_nearest_b93 N rec_3 (f_X12_nearest_b33 N rec_3 g) x1 x2 x3 x4 x6 p3.2) else (f_X12_nearest_b96 N rec_3 (f_X12_nearest_b33 N rec_3 g) x1 x2 x3 x4 x5 x6 p3.2))) else (if (((6 : Int32) * x4) + x6) < 0 ∨ 36 ≤ ((((6 : Int32) * x4) + x6)).toNatClampNeg then none else (if (dI p3.2 208 (((6 : Int32) * x4) + x6).toNatClampNeg) = 0 then (f_X12_nearest_b93 N rec_3 (f_X12_nearest_b33 N rec_3 g) x1 x2 x3 x4 x6 p3.2) else (f_X12_nearest_b96 N rec_3 (f_X12_nearest_b33 N rec_3 g) x1 x2 x3 x4 x5 x6 p3.2))))))
set_option maxHeartbeats 4000000 in
theorem w_X12_nearest_b33 {X : Cx} {n nu c u : Nat} {K : Nat → Nat} {N : Nat} {rec_3 : Int32 → Int32 → Int32 → Int32 → Dat → Option (Int32 × Dat)} {z : Int32 × Dat} (O : Ok X cX12_nearest RX12 (some .int) 1 24) (hm : wlm (xw X) = true) (hn : xn X = 7) (hz : Z0 X (Ax nu K c u)) (hrec_3 : ∀ (x1 : Int32) (x2 : Int32) (x3 : Int32) (x4 : Int32) (D : Dat), rec_3 x1 x2 x3 x4 D = some z → V X (Q0 X n (Ax nu K c u) (some (.int z.1)) z.2) n (Ax nu K c u) D 3 [(0, .ref (bo X + pp 207)), (1, .int x1), (2, .int x2), (3, .int x3), (4, .int x4)] []) : ∀ (g : Nat) (x1 : Int32) (x2 : Int32) (x3 : Int32) (x4 : Int32) (x5 : Int32) (x6 : Int32) (D : Dat), f_X12_nearest_b33 N rec_3 g x1 x2 x3 x4 x5 x6 D = some z → V X (Q0 X n (Ax nu K c u) (some (.int z.1)) z.2) n (Ax nu K c u) D 33 [(0, .ref (bo X + pp 207)), (1, .int x1), (2, .int x2), (3, .int x3), (4, .int x4), (5, .int x5), (6, .int x6)] [] := by
  intro g
  induction g with
  | zero => intro x1 x2 x3 x4 x5 x6 D h; exact absurd h (by simp [f_X12_nearest_b33])
  | succ g ih =>
    intro x1 x2 x3 x4 x5 x6 D h
    rw [f_X12_nearest_b33] at h
    refine v_iload (pc := 33) O dX12_nearest_33 6 rfl ?_
    refine v_aload_n (pc := 35) O dX12_nearest_35 0 rfl ?_
    refine v_getI (pc := 36) (a := 207) O gf_X12_1 fl_X12_180 kq_207 dX12_nearest_36 ?_
    refine v_icmpge (pc := 39) 102 O dX12_nearest_39 (by decide) (fun c1 => ?_) (fun c1 => ?_)
    · have h := (if_pos c1).symm.trans h
      refine v_iload (pc := 102) O dX12_nearest_102 5 rfl ?_
      refine v_ifeq (pc := 104) 110 O dX12_nearest_104 (by decide) (fun c2 => ?_) (fun c2 => ?_)
      · have h := (if_pos c2).symm.trans h
        refine v_sub [0, 1, 2, 3, 4] rfl ?_
        exact w_X12_nearest_b110 O hm hn hz hrec_3 x1 x2 x3 x4 D h
      · have h := (if_neg c2).symm.trans h
        refine v_iload (pc := 107) O dX12_nearest_107 4 rfl ?_
        obtain rfl := Option.some.inj h
        exact v_iret (pc := 109) O hz dX12_nearest_109
    · have h := (if_neg c1).symm.trans h
      refine v_aload_n (pc := 42) O dX12_nearest_42 0 rfl ?_
      refine v_iload_n (pc := 43) O dX12_nearest_43 1 rfl ?_
      refine v_iload_n (pc := 44) O dX12_nearest_44 2 rfl ?_
      refine v_iload (pc := 45) O dX12_nearest_45 6 rfl ?_
      refine v_iload_n (pc := 47) O dX12_nearest_47 3 rfl ?_
      obtain ⟨p3, e4, h⟩ := bind_some h
      refine v_callV (pc := 48) (a := 207) (As := [.int x1, .int x2, .int x6, .int x3]) (rest := []) (r := (some (.int p3.1))) (D' := p3.2) O (bb0 hz) (c_X12_bound hm e4) mw_X12_bound im_X12_bound se_X12_bound ml_X12_198 kq_207 (by decide) rfl rfl rfl (by decide) (by decide) (Nat.le_of_ble_eq_true rfl) dX12_nearest_48 rfl rfl ?_
      refine v_ifeq (pc := 51) 96 O dX12_nearest_51 (by decide) (fun c5 => ?_) (fun c5 => ?_)
      · have h := (if_pos c5).symm.trans h
        refine v_sub [0, 1, 2, 3, 4, 5, 6] rfl ?_
        exact w_X12_nearest_b96 O hm hn hz hrec_3 ih x1 x2 x3 x4 x5 x6 p3.2 h
      · have h := (if_neg c5).symm.trans h
        refine v_iload_n (pc := 54) O dX12_nearest_54 3 rfl ?_
        refine v_ifeq (pc := 55) 77 O dX12_nearest_55 (by decide) (fun c6 => ?_) (fun c6 => ?_)
        · have h := (if_pos c6).symm.trans h
          refine v_aload_n (pc := 77) O dX12_nearest_77 0 rfl ?_
          refine v_getK (pc := 78) (a := 207) O hm gf_X12_2 fl_X12_7 kq_207 lk_207_2 dX12_nearest_78 ?_
          refine v_bipush (pc := 81) O dX12_nearest_81 bp_6 ?_
          refine v_iload (pc := 83) O dX12_nearest_83 6 rfl ?_
          refine v_imul (pc := 85) O dX12_nearest_85 ?_
          refine v_iload (pc := 86) O dX12_nearest_86 4 rfl ?_
          refine v_iadd (pc := 88) O dX12_nearest_88 ?_
          obtain ⟨c7, h⟩ := or_none h
          refine v_zald (pc := 89) (a := 208) O kq_208 (inq lq_208 c7) dX12_nearest_89 ?_
          refine v_ifne (pc := 90) 96 O dX12_nearest_90 (by decide) (fun c8 => ?_) (fun c8 => ?_)
          · have h := (if_neg c8).symm.trans h
            refine v_sub [0, 1, 2, 3, 4, 5, 6] rfl ?_
            exact w_X12_nearest_b96 O hm hn hz hrec_3 ih x1 x2 x3 x4 x5 x6 p3.2 h
          · have h := (if_pos c8).symm.trans h
            refine v_sub [0, 1, 2, 3, 4, 6] rfl ?_
            exact w_X12_nearest_b93 O hm hn hz hrec_3 ih x1 x2 x3 x4 x6 p3.2 h
        · have h := (if_neg c6).symm.trans h
          refine v_aload_n (pc := 58) O dX12_nearest_58 0 rfl ?_
          refine v_getK (pc := 59) (a := 207) O hm gf_X12_2 fl_X12_7 kq_207 lk_207_2 dX12_nearest_59 ?_
          refine v_bipush (pc := 62) O dX12_nearest_62 bp_6 ?_
          refine v_iload (pc := 64) O dX12_nearest_64 4 rfl ?_
          refine v_imul (pc := 66) O dX12_nearest_66 ?_
          refine v_iload (pc := 67) O dX12_nearest_67 6 rfl ?_
          refine v_iadd (pc := 69) O dX12_nearest_69 ?_
          obtain ⟨c9, h⟩ := or_none h
          refine v_zald (pc := 70) (a := 208) O kq_208 (inq lq_208 c9) dX12_nearest_70 ?_
          refine v_ifeq (pc := 71) 93 O dX12_nearest_71 (by decide) (fun c10 => ?_) (fun c10 => ?_)
          · have h := (if_pos c10).symm.trans h
            refine v_sub [0, 1, 2, 3, 4, 6] rfl ?_
            exact w_X12_nearest_b93 O hm hn hz hrec_3 ih x1 x2 x3 x4 x6 p3.2 h
          · have h := (if_neg c10).symm.trans h
            refine v_goto (pc := 74) 96 O dX12_nearest_74 (by decide) ?_
            refine v_sub [0, 1, 2, 3, 4, 5, 6] rfl ?_
            exact w_X12_nearest_b96 O hm hn hz hrec_3 ih x1 x2 x3 x4 x5 x6 p3.2 h
def f_X12_nearest_b3 (N : Nat) : Nat → Int32 → Int32 → Int32 → Int32 → Dat → Option (Int32 × Dat)
  | 0, _, _, _, _, _ => none
  | g + 1, x1, x2, x3, x4, D => if (dI D 207 1) ≤ x4 then (some ((-1), D)) else ((f_X12_bound x1 x2 x4 x3 D).bind (fun p12 => if p12.1 = 0 then (f_X12_nearest_b110 N (f_X12_nearest_b3 N g) x1 x2 x3 x4 p12.2) else (f_X12_nearest_b33 N (f_X12_nearest_b3 N g) N x1 x2 x3 x4 1 0 p12.2)))
set_option maxHeartbeats 4000000 in
theorem w_X12_nearest_b3 {X : Cx} {n nu c u : Nat} {K : Nat → Nat} {N : Nat} {z : Int32 × Dat} (O : Ok X cX12_nearest RX12 (some .int) 1 24) (hm : wlm (xw X) = true) (hn : xn X = 7) (hz : Z0 X (Ax nu K c u)) : ∀ (g : Nat) (x1 : Int32) (x2 : Int32) (x3 : Int32) (x4 : Int32) (D : Dat), f_X12_nearest_b3 N g x1 x2 x3 x4 D = some z → V X (Q0 X n (Ax nu K c u) (some (.int z.1)) z.2) n (Ax nu K c u) D 3 [(0, .ref (bo X + pp 207)), (1, .int x1), (2, .int x2), (3, .int x3), (4, .int x4)] [] := by
  intro g
  induction g with
  | zero => intro x1 x2 x3 x4 D h; exact absurd h (by simp [f_X12_nearest_b3])
  | succ g ih =>
    intro x1 x2 x3 x4 D h
    rw [f_X12_nearest_b3] at h
    refine v_iload (pc := 3) O dX12_nearest_3 4 rfl ?_
    refine v_aload_n (pc := 5) O dX12_nearest_5 0 rfl ?_
    refine v_getI (pc := 6) (a := 207) O gf_X12_1 fl_X12_180 kq_207 dX12_nearest_6 ?_
    refine v_icmpge (pc := 9) 116 O dX12_nearest_9 (by decide) (fun c11 => ?_) (fun c11 => ?_)
    · have h := (if_pos c11).symm.trans h
      refine v_iconst (pc := 116) O dX12_nearest_116 ic_m1 ?_
      obtain rfl := Option.some.inj h
      exact v_iret (pc := 117) O hz dX12_nearest_117
    · have h := (if_neg c11).symm.trans h
      refine v_aload_n (pc := 12) O dX12_nearest_12 0 rfl ?_
      refine v_iload_n (pc := 13) O dX12_nearest_13 1 rfl ?_
      refine v_iload_n (pc := 14) O dX12_nearest_14 2 rfl ?_
      refine v_iload (pc := 15) O dX12_nearest_15 4 rfl ?_
      refine v_iload_n (pc := 17) O dX12_nearest_17 3 rfl ?_
      obtain ⟨p12, e13, h⟩ := bind_some h
      refine v_callV (pc := 18) (a := 207) (As := [.int x1, .int x2, .int x4, .int x3]) (rest := []) (r := (some (.int p12.1))) (D' := p12.2) O (bb0 hz) (c_X12_bound hm e13) mw_X12_bound im_X12_bound se_X12_bound ml_X12_198 kq_207 (by decide) rfl rfl rfl (by decide) (by decide) (Nat.le_of_ble_eq_true rfl) dX12_nearest_18 rfl rfl ?_
      refine v_ifne (pc := 21) 27 O dX12_nearest_21 (by decide) (fun c14 => ?_) (fun c14 => ?_)
      · have h := (if_neg c14).symm.trans h
        refine v_iconst (pc := 27) O dX12_nearest_27 ic_1 ?_
        refine v_istore (pc := 28) (lv' := [(5, .int 1), (0, .ref (bo X + pp 207)), (1, .int x1), (2, .int x2), (3, .int x3), (4, .int x4)]) O dX12_nearest_28 (by rw [hn]; decide) rfl ?_
        refine v_iconst (pc := 30) O dX12_nearest_30 ic_0 ?_
        refine v_istore (pc := 31) (lv' := [(6, .int 0), (5, .int 1), (0, .ref (bo X + pp 207)), (1, .int x1), (2, .int x2), (3, .int x3), (4, .int x4)]) O dX12_nearest_31 (by rw [hn]; decide) rfl ?_
        refine v_sub [2, 3, 4, 5, 6, 1, 0] rfl ?_
        exact w_X12_nearest_b33 O hm hn hz ih N x1 x2 x3 x4 1 0 p12.2 h
      · have h := (if_pos c14).symm.trans h
        refine v_goto (pc := 24) 110 O dX12_nearest_24 (by decide) ?_
        refine v_sub [0, 1, 2, 3, 4] rfl ?_
        exact w_X12_nearest_b110 O hm hn hz ih x1 x2 x3 x4 p12.2 h
def f_X12_nearest (N : Nat) (x1 : Int32) (x2 : Int32) (x3 : Int32) (D : Dat) : Option (Int32 × Dat) :=
  f_X12_nearest_b3 N N x1 x2 x3 0 D
set_option maxHeartbeats 4000000 in
theorem w_X12_nearest {X : Cx} {n nu c u : Nat} {K : Nat → Nat} {N : Nat} {z : Int32 × Dat} (O : Ok X cX12_nearest RX12 (some .int) 1 24) (hm : wlm (xw X) = true) (hn : xn X = 7) (hz : Z0 X (Ax nu K c u)) (x1 : Int32) (x2 : Int32) (x3 : Int32) (D : Dat) (h : f_X12_nearest N x1 x2 x3 D = some z) : V X (Q0 X n (Ax nu K c u) (some (.int z.1)) z.2) n (Ax nu K c u) D 0 [(0, .ref (bo X + pp 207)), (1, .int x1), (2, .int x2), (3, .int x3)] [] := by
  unfold f_X12_nearest at h
  refine v_iconst (pc := 0) O dX12_nearest_0 ic_0 ?_
  refine v_istore (pc := 1) (lv' := [(4, .int 0), (0, .ref (bo X + pp 207)), (1, .int x1), (2, .int x2), (3, .int x3)]) O dX12_nearest_1 (by rw [hn]; decide) rfl ?_
  refine v_sub [1, 2, 3, 4, 0] rfl ?_
  exact w_X12_nearest_b3 O hm hn hz N x1 x2 x3 0 D h
theorem c_X12_nearest {l : Launch} {w : Wx} {n nu c u : Nat} {K : Nat → Nat} {N : Nat} (hm : wlm w = true) {x1 : Int32} {x2 : Int32} {x3 : Int32} {D : Dat} {z : Int32 × Dat} (h : f_X12_nearest N x1 x2 x3 D = some z) : C0 l w yX12_nearest cX12_nearest 7 (some .int) 1 24 [.ref (wb w + pp 207), .int x1, .int x2, .int x3] n (Ax nu K c u) D (some (.int z.1)) z.2 :=
  C0.of (by decide) (Nat.le_of_ble_eq_true rfl) (fun X e1 e2 e3 hz O => by
  subst e1
  subst e2
  exact w_X12_nearest O hm e3 hz x1 x2 x3 D h)
def f_X12_refuse (x1 : Int32) (x2 : Int32) (x3 : Int32) (D : Dat) : Option (Int32 × Dat) :=
  (f_X12_fail x3 (sI (sI D 207 7 x1) 207 8 x2)).bind (fun p1 => some (p1.1, p1.2))
set_option maxHeartbeats 4000000 in
theorem w_X12_refuse {X : Cx} {n nu c u : Nat} {K : Nat → Nat} {z : Int32 × Dat} (O : Ok X cX12_refuse RX12 (some .int) 1 21) (hm : wlm (xw X) = true) (hn : xn X = 4) (hz : Z0 X (Ax nu K c u)) (x1 : Int32) (x2 : Int32) (x3 : Int32) (D : Dat) (h : f_X12_refuse x1 x2 x3 D = some z) : V X (Q0 X n (Ax nu K c u) (some (.int z.1)) z.2) n (Ax nu K c u) D 0 [(0, .ref (bo X + pp 207)), (1, .int x1), (2, .int x2), (3, .int x3)] [] := by
  unfold f_X12_refuse at h
  refine v_aload_n (pc := 0) O dX12_refuse_0 0 rfl ?_
  refine v_iload_n (pc := 1) O dX12_refuse_1 1 rfl ?_
  refine v_putI (pc := 2) (a := 207) O pf_X12_7 fl_X12_20 kq_207 dX12_refuse_2 ?_
  refine v_aload_n (pc := 5) O dX12_refuse_5 0 rfl ?_
  refine v_iload_n (pc := 6) O dX12_refuse_6 2 rfl ?_
  refine v_putI (pc := 7) (a := 207) O pf_X12_8 fl_X12_24 kq_207 dX12_refuse_7 ?_
  refine v_aload_n (pc := 10) O dX12_refuse_10 0 rfl ?_
  refine v_iload_n (pc := 11) O dX12_refuse_11 3 rfl ?_
  obtain ⟨p1, e2, h⟩ := bind_some h
  refine v_callV (pc := 12) (a := 207) (As := [.int x3]) (rest := []) (r := (some (.int p1.1))) (D' := p1.2) O (bb0 hz) (c_X12_fail hm e2) mw_X12_fail im_X12_fail se_X12_fail ml_X12_190 kq_207 (by decide) rfl rfl rfl (by decide) (by decide) (Nat.le_of_ble_eq_true rfl) dX12_refuse_12 rfl rfl ?_
  obtain rfl := Option.some.inj h
  exact v_iret (pc := 15) O hz dX12_refuse_15
theorem c_X12_refuse {l : Launch} {w : Wx} {n nu c u : Nat} {K : Nat → Nat} (hm : wlm w = true) {x1 : Int32} {x2 : Int32} {x3 : Int32} {D : Dat} {z : Int32 × Dat} (h : f_X12_refuse x1 x2 x3 D = some z) : C0 l w yX12_refuse cX12_refuse 4 (some .int) 1 21 [.ref (wb w + pp 207), .int x1, .int x2, .int x3] n (Ax nu K c u) D (some (.int z.1)) z.2 :=
  C0.of (by decide) (Nat.le_of_ble_eq_true rfl) (fun X e1 e2 e3 hz O => by
  subst e1
  subst e2
  exact w_X12_refuse O hm e3 hz x1 x2 x3 D h)
def f_X12_seal_b210 (N : Nat) : Nat → Int32 → Dat → Option (Int32 × Dat)
  | 0, _, _ => none
  | g + 1, x1, D => if (dI D 207 1) ≤ x1 then (some ((dI (sI (sI (sI D 207 5 1) 207 7 (-1)) 207 8 (-1)) 207 6), (sI (sI (sI D 207 5 1) 207 7 (-1)) 207 8 (-1)))) else (if (((6 : Int32) * (dI D 207 6)) + x1) < 0 ∨ 36 ≤ ((((6 : Int32) * (dI D 207 6)) + x1)).toNatClampNeg then none else ((f_X12_seal_b210 N g) (x1 + 1) (sI D 207 6 (dI D 210 (((6 : Int32) * (dI D 207 6)) + x1).toNatClampNeg))))
set_option maxHeartbeats 4000000 in
theorem w_X12_seal_b210 {X : Cx} {n nu c u : Nat} {K : Nat → Nat} {N : Nat} {z : Int32 × Dat} (O : Ok X cX12_seal RX12 (some .int) 2 50) (hm : wlm (xw X) = true) (hn : xn X = 5) (hz : Z0 X (Ax nu K c u)) : ∀ (g : Nat) (x1 : Int32) (D : Dat), f_X12_seal_b210 N g x1 D = some z → V X (Q0 X n (Ax nu K c u) (some (.int z.1)) z.2) n (Ax nu K c u) D 210 [(0, .ref (bo X + pp 207)), (1, .int x1)] [] := by
  intro g
  induction g with
  | zero => intro x1 D h; exact absurd h (by simp [f_X12_seal_b210])
  | succ g ih =>
    intro x1 D h
    rw [f_X12_seal_b210] at h
    refine v_iload_n (pc := 210) O dX12_seal_210 1 rfl ?_
    refine v_aload_n (pc := 211) O dX12_seal_211 0 rfl ?_
    refine v_getI (pc := 212) (a := 207) O gf_X12_1 fl_X12_180 kq_207 dX12_seal_212 ?_
    refine v_icmpge (pc := 215) 242 O dX12_seal_215 (by decide) (fun c1 => ?_) (fun c1 => ?_)
    · have h := (if_pos c1).symm.trans h
      refine v_aload_n (pc := 242) O dX12_seal_242 0 rfl ?_
      refine v_iconst (pc := 243) O dX12_seal_243 ic_1 ?_
      refine v_putZ (pc := 244) (a := 207) O pf_X12_5 fl_X12_194 kq_207 narrow_b1 dX12_seal_244 ?_
      refine v_aload_n (pc := 247) O dX12_seal_247 0 rfl ?_
      refine v_iconst (pc := 248) O dX12_seal_248 ic_m1 ?_
      refine v_putI (pc := 249) (a := 207) O pf_X12_7 fl_X12_20 kq_207 dX12_seal_249 ?_
      refine v_aload_n (pc := 252) O dX12_seal_252 0 rfl ?_
      refine v_iconst (pc := 253) O dX12_seal_253 ic_m1 ?_
      refine v_putI (pc := 254) (a := 207) O pf_X12_8 fl_X12_24 kq_207 dX12_seal_254 ?_
      refine v_aload_n (pc := 257) O dX12_seal_257 0 rfl ?_
      refine v_getI (pc := 258) (a := 207) O gf_X12_6 fl_X12_210 kq_207 dX12_seal_258 ?_
      obtain rfl := Option.some.inj h
      exact v_iret (pc := 261) O hz dX12_seal_261
    · have h := (if_neg c1).symm.trans h
      refine v_aload_n (pc := 218) O dX12_seal_218 0 rfl ?_
      refine v_aload_n (pc := 219) O dX12_seal_219 0 rfl ?_
      refine v_getK (pc := 220) (a := 207) O hm gf_X12_4 fl_X12_17 kq_207 lk_207_4 dX12_seal_220 ?_
      refine v_bipush (pc := 223) O dX12_seal_223 bp_6 ?_
      refine v_aload_n (pc := 225) O dX12_seal_225 0 rfl ?_
      refine v_getI (pc := 226) (a := 207) O gf_X12_6 fl_X12_210 kq_207 dX12_seal_226 ?_
      refine v_imul (pc := 229) O dX12_seal_229 ?_
      refine v_iload_n (pc := 230) O dX12_seal_230 1 rfl ?_
      refine v_iadd (pc := 231) O dX12_seal_231 ?_
      obtain ⟨c2, h⟩ := or_none h
      refine v_iald (pc := 232) (a := 210) O kq_210 (inq lq_210 c2) dX12_seal_232 ?_
      refine v_putI (pc := 233) (a := 207) O pf_X12_6 fl_X12_210 kq_207 dX12_seal_233 ?_
      refine v_iinc (pc := 236) (lv' := [(1, .int (x1 + 1)), (0, .ref (bo X + pp 207))]) O dX12_seal_236 1 rfl (congrArg (fun q => x1 + q) ic_1) (by rw [hn]; decide) rfl ?_
      refine v_goto (pc := 239) 210 O dX12_seal_239 (by decide) ?_
      refine v_sub [1, 0] rfl ?_
      exact ih (x1 + 1) (sI D 207 6 (dI D 210 (((6 : Int32) * (dI D 207 6)) + x1).toNatClampNeg)) h
def f_X12_seal_b153 (N : Nat) : Nat → Int32 → Dat → Option (Int32 × Dat)
  | 0, _, _ => none
  | g + 1, x1, D => if 36 ≤ x1 then (f_X12_seal_b210 N N 0 (sI D 207 6 0)) else ((f_X12_nearest N (x1 / (6 : Int32)) (x1 - x1 / (6 : Int32) * (6 : Int32)) 1 D).bind (fun p4 => if x1 < 0 ∨ 36 ≤ (x1).toNatClampNeg then none else ((f_X12_nearest N (x1 / (6 : Int32)) (x1 - x1 / (6 : Int32) * (6 : Int32)) 0 (sI p4.2 209 (x1).toNatClampNeg p4.1)).bind (fun p7 => if x1 < 0 ∨ 36 ≤ (x1).toNatClampNeg then none else ((f_X12_seal_b153 N g) (x1 + 1) (sI p7.2 210 (x1).toNatClampNeg p7.1))))))
set_option maxHeartbeats 4000000 in
theorem w_X12_seal_b153 {X : Cx} {n nu c u : Nat} {K : Nat → Nat} {N : Nat} {z : Int32 × Dat} (O : Ok X cX12_seal RX12 (some .int) 2 50) (hm : wlm (xw X) = true) (hn : xn X = 5) (hz : Z0 X (Ax nu K c u)) : ∀ (g : Nat) (x1 : Int32) (D : Dat), f_X12_seal_b153 N g x1 D = some z → V X (Q0 X n (Ax nu K c u) (some (.int z.1)) z.2) n (Ax nu K c u) D 153 [(0, .ref (bo X + pp 207)), (1, .int x1)] [] := by
  intro g
  induction g with
  | zero => intro x1 D h; exact absurd h (by simp [f_X12_seal_b153])
  | succ g ih =>
    intro x1 D h
    rw [f_X12_seal_b153] at h
    refine v_iload_n (pc := 153) O dX12_seal_153 1 rfl ?_
    refine v_bipush (pc := 154) O dX12_seal_154 bp_36 ?_
    refine v_icmpge (pc := 156) 203 O dX12_seal_156 (by decide) (fun c3 => ?_) (fun c3 => ?_)
    · have h := (if_pos c3).symm.trans h
      refine v_aload_n (pc := 203) O dX12_seal_203 0 rfl ?_
      refine v_iconst (pc := 204) O dX12_seal_204 ic_0 ?_
      refine v_putI (pc := 205) (a := 207) O pf_X12_6 fl_X12_210 kq_207 dX12_seal_205 ?_
      refine v_iconst (pc := 208) O dX12_seal_208 ic_0 ?_
      refine v_istore_n (pc := 209) (lv' := [(1, .int 0), (0, .ref (bo X + pp 207))]) O dX12_seal_209 rfl (by rw [hn]; decide) rfl ?_
      refine v_sub [1, 0] rfl ?_
      exact w_X12_seal_b210 O hm hn hz N 0 (sI D 207 6 0) h
    · have h := (if_neg c3).symm.trans h
      refine v_aload_n (pc := 159) O dX12_seal_159 0 rfl ?_
      refine v_getK (pc := 160) (a := 207) O hm gf_X12_3 fl_X12_13 kq_207 lk_207_3 dX12_seal_160 ?_
      refine v_iload_n (pc := 163) O dX12_seal_163 1 rfl ?_
      refine v_aload_n (pc := 164) O dX12_seal_164 0 rfl ?_
      refine v_iload_n (pc := 165) O dX12_seal_165 1 rfl ?_
      refine v_bipush (pc := 166) O dX12_seal_166 bp_6 ?_
      refine v_idiv (pc := 168) O dX12_seal_168 (by decide) ?_
      refine v_iload_n (pc := 169) O dX12_seal_169 1 rfl ?_
      refine v_bipush (pc := 170) O dX12_seal_170 bp_6 ?_
      refine v_irem (pc := 172) O dX12_seal_172 (by decide) ?_
      refine v_iconst (pc := 173) O dX12_seal_173 ic_1 ?_
      obtain ⟨p4, e5, h⟩ := bind_some h
      refine v_callV (pc := 174) (a := 207) (As := [.int (x1 / (6 : Int32)), .int (x1 - x1 / (6 : Int32) * (6 : Int32)), .int 1]) (rest := [.int x1, .ref (bo X + pp 209)]) (r := (some (.int p4.1))) (D' := p4.2) O (bb0 hz) (c_X12_nearest hm e5) mw_X12_nearest im_X12_nearest se_X12_nearest ml_X12_202 kq_207 (by decide) rfl rfl rfl (by decide) (by decide) (Nat.le_of_ble_eq_true rfl) dX12_seal_174 rfl rfl ?_
      obtain ⟨c6, h⟩ := or_none h
      refine v_iast (pc := 177) (a := 209) O kq_209 (inq lq_209 c6) dX12_seal_177 ?_
      refine v_aload_n (pc := 178) O dX12_seal_178 0 rfl ?_
      refine v_getK (pc := 179) (a := 207) O hm gf_X12_4 fl_X12_17 kq_207 lk_207_4 dX12_seal_179 ?_
      refine v_iload_n (pc := 182) O dX12_seal_182 1 rfl ?_
      refine v_aload_n (pc := 183) O dX12_seal_183 0 rfl ?_
      refine v_iload_n (pc := 184) O dX12_seal_184 1 rfl ?_
      refine v_bipush (pc := 185) O dX12_seal_185 bp_6 ?_
      refine v_idiv (pc := 187) O dX12_seal_187 (by decide) ?_
      refine v_iload_n (pc := 188) O dX12_seal_188 1 rfl ?_
      refine v_bipush (pc := 189) O dX12_seal_189 bp_6 ?_
      refine v_irem (pc := 191) O dX12_seal_191 (by decide) ?_
      refine v_iconst (pc := 192) O dX12_seal_192 ic_0 ?_
      obtain ⟨p7, e8, h⟩ := bind_some h
      refine v_callV (pc := 193) (a := 207) (As := [.int (x1 / (6 : Int32)), .int (x1 - x1 / (6 : Int32) * (6 : Int32)), .int 0]) (rest := [.int x1, .ref (bo X + pp 210)]) (r := (some (.int p7.1))) (D' := p7.2) O (bb0 hz) (c_X12_nearest hm e8) mw_X12_nearest im_X12_nearest se_X12_nearest ml_X12_202 kq_207 (by decide) rfl rfl rfl (by decide) (by decide) (Nat.le_of_ble_eq_true rfl) dX12_seal_193 rfl rfl ?_
      obtain ⟨c9, h⟩ := or_none h
      refine v_iast (pc := 196) (a := 210) O kq_210 (inq lq_210 c9) dX12_seal_196 ?_
      refine v_iinc (pc := 197) (lv' := [(1, .int (x1 + 1)), (0, .ref (bo X + pp 207))]) O dX12_seal_197 1 rfl (congrArg (fun q => x1 + q) ic_1) (by rw [hn]; decide) rfl ?_
      refine v_goto (pc := 200) 153 O dX12_seal_200 (by decide) ?_
      refine v_sub [1, 0] rfl ?_
      exact ih (x1 + 1) (sI p7.2 210 (x1).toNatClampNeg p7.1) h
def f_X12_seal_b112 (N : Nat) (rec_20 : Int32 → Dat → Option (Int32 × Dat)) (rec_27 : Int32 → Int32 → Dat → Option (Int32 × Dat)) (rec_39 : Int32 → Int32 → Int32 → Dat → Option (Int32 × Dat)) (x1 : Int32) (x2 : Int32) (x3 : Int32) (s0 : Int32) (D : Dat) : Option (Int32 × Dat) :=
  if s0 = 0 then (rec_39 x1 x2 (x3 + 1) D) else ((f_X12_refuse (((10 : Int32) * x2) + x3) 7 2 D).bind (fun p11 => some (p11.1, p11.2)))
set_option maxHeartbeats 4000000 in
theorem w_X12_seal_b112 {X : Cx} {n nu c u : Nat} {K : Nat → Nat} {N : Nat} {rec_20 : Int32 → Dat → Option (Int32 × Dat)} {rec_27 : Int32 → Int32 → Dat → Option (Int32 × Dat)} {rec_39 : Int32 → Int32 → Int32 → Dat → Option (Int32 × Dat)} {z : Int32 × Dat} (O : Ok X cX12_seal RX12 (some .int) 2 50) (hm : wlm (xw X) = true) (hn : xn X = 5) (hz : Z0 X (Ax nu K c u)) (hrec_20 : ∀ (x1 : Int32) (D : Dat), rec_20 x1 D = some z → V X (Q0 X n (Ax nu K c u) (some (.int z.1)) z.2) n (Ax nu K c u) D 20 [(0, .ref (bo X + pp 207)), (1, .int x1)] []) (hrec_27 : ∀ (x1 : Int32) (x2 : Int32) (D : Dat), rec_27 x1 x2 D = some z → V X (Q0 X n (Ax nu K c u) (some (.int z.1)) z.2) n (Ax nu K c u) D 27 [(0, .ref (bo X + pp 207)), (1, .int x1), (2, .int x2)] []) (hrec_39 : ∀ (x1 : Int32) (x2 : Int32) (x3 : Int32) (D : Dat), rec_39 x1 x2 x3 D = some z → V X (Q0 X n (Ax nu K c u) (some (.int z.1)) z.2) n (Ax nu K c u) D 39 [(0, .ref (bo X + pp 207)), (1, .int x1), (2, .int x2), (3, .int x3)] []) (x1 : Int32) (x2 : Int32) (x3 : Int32) (s0 : Int32) (D : Dat) (h : f_X12_seal_b112 N rec_20 rec_27 rec_39 x1 x2 x3 s0 D = some z) : V X (Q0 X n (Ax nu K c u) (some (.int z.1)) z.2) n (Ax nu K c u) D 112 [(0, .ref (bo X + pp 207)), (1, .int x1), (2, .int x2), (3, .int x3)] [.int s0] := by
  unfold f_X12_seal_b112 at h
  refine v_istore (pc := 112) (lv' := [(4, .int s0), (0, .ref (bo X + pp 207)), (1, .int x1), (2, .int x2), (3, .int x3)]) O dX12_seal_112 (by rw [hn]; decide) rfl ?_
  refine v_iload (pc := 114) O dX12_seal_114 0 rfl ?_
  refine v_ifeq (pc := 116) 133 O dX12_seal_116 (by decide) (fun c10 => ?_) (fun c10 => ?_)
  · have h := (if_pos c10).symm.trans h
    refine v_iinc (pc := 133) (lv' := [(3, .int (x3 + 1)), (4, .int s0), (0, .ref (bo X + pp 207)), (1, .int x1), (2, .int x2)]) O dX12_seal_133 4 rfl (congrArg (fun q => x3 + q) ic_1) (by rw [hn]; decide) rfl ?_
    refine v_goto (pc := 136) 39 O dX12_seal_136 (by decide) ?_
    refine v_sub [2, 3, 4, 0] rfl ?_
    exact hrec_39 x1 x2 (x3 + 1) D h
  · have h := (if_neg c10).symm.trans h
    refine v_aload_n (pc := 119) O dX12_seal_119 1 rfl ?_
    refine v_bipush (pc := 120) O dX12_seal_120 bp_10 ?_
    refine v_iload_n (pc := 122) O dX12_seal_122 3 rfl ?_
    refine v_imul (pc := 123) O dX12_seal_123 ?_
    refine v_iload_n (pc := 124) O dX12_seal_124 4 rfl ?_
    refine v_iadd (pc := 125) O dX12_seal_125 ?_
    refine v_bipush (pc := 126) O dX12_seal_126 bp_7 ?_
    refine v_iconst (pc := 128) O dX12_seal_128 ic_2 ?_
    obtain ⟨p11, e12, h⟩ := bind_some h
    refine v_callV (pc := 129) (a := 207) (As := [.int (((10 : Int32) * x2) + x3), .int 7, .int 2]) (rest := []) (r := (some (.int p11.1))) (D' := p11.2) O (bb0 hz) (c_X12_refuse hm e12) mw_X12_refuse im_X12_refuse se_X12_refuse ml_X12_206 kq_207 (by decide) rfl rfl rfl (by decide) (by decide) (Nat.le_of_ble_eq_true rfl) dX12_seal_129 rfl rfl ?_
    obtain rfl := Option.some.inj h
    exact v_iret (pc := 132) O hz dX12_seal_132
def f_X12_seal_b107 (N : Nat) (rec_20 : Int32 → Dat → Option (Int32 × Dat)) (rec_27 : Int32 → Int32 → Dat → Option (Int32 × Dat)) (rec_39 : Int32 → Int32 → Int32 → Dat → Option (Int32 × Dat)) (x1 : Int32) (x2 : Int32) (x3 : Int32) (D : Dat) : Option (Int32 × Dat) :=
  f_X12_seal_b112 N rec_20 rec_27 rec_39 x1 x2 x3 1 D
set_option maxHeartbeats 4000000 in
theorem w_X12_seal_b107 {X : Cx} {n nu c u : Nat} {K : Nat → Nat} {N : Nat} {rec_20 : Int32 → Dat → Option (Int32 × Dat)} {rec_27 : Int32 → Int32 → Dat → Option (Int32 × Dat)} {rec_39 : Int32 → Int32 → Int32 → Dat → Option (Int32 × Dat)} {z : Int32 × Dat} (O : Ok X cX12_seal RX12 (some .int) 2 50) (hm : wlm (xw X) = true) (hn : xn X = 5) (hz : Z0 X (Ax nu K c u)) (hrec_20 : ∀ (x1 : Int32) (D : Dat), rec_20 x1 D = some z → V X (Q0 X n (Ax nu K c u) (some (.int z.1)) z.2) n (Ax nu K c u) D 20 [(0, .ref (bo X + pp 207)), (1, .int x1)] []) (hrec_27 : ∀ (x1 : Int32) (x2 : Int32) (D : Dat), rec_27 x1 x2 D = some z → V X (Q0 X n (Ax nu K c u) (some (.int z.1)) z.2) n (Ax nu K c u) D 27 [(0, .ref (bo X + pp 207)), (1, .int x1), (2, .int x2)] []) (hrec_39 : ∀ (x1 : Int32) (x2 : Int32) (x3 : Int32) (D : Dat), rec_39 x1 x2 x3 D = some z → V X (Q0 X n (Ax nu K c u) (some (.int z.1)) z.2) n (Ax nu K c u) D 39 [(0, .ref (bo X + pp 207)), (1, .int x1), (2, .int x2), (3, .int x3)] []) (x1 : Int32) (x2 : Int32) (x3 : Int32) (D : Dat) (h : f_X12_seal_b107 N rec_20 rec_27 rec_39 x1 x2 x3 D = some z) : V X (Q0 X n (Ax nu K c u) (some (.int z.1)) z.2) n (Ax nu K c u) D 107 [(0, .ref (bo X + pp 207)), (1, .int x1), (2, .int x2), (3, .int x3)] [] := by
  unfold f_X12_seal_b107 at h
  refine v_iconst (pc := 107) O dX12_seal_107 ic_1 ?_
  refine v_goto (pc := 108) 112 O dX12_seal_108 (by decide) ?_
  refine v_sub [0, 1, 2, 3] rfl ?_
  exact w_X12_seal_b112 O hm hn hz hrec_20 hrec_27 hrec_39 x1 x2 x3 1 D h
def f_X12_seal_b83 (N : Nat) (rec_20 : Int32 → Dat → Option (Int32 × Dat)) (rec_27 : Int32 → Int32 → Dat → Option (Int32 × Dat)) (rec_39 : Int32 → Int32 → Int32 → Dat → Option (Int32 × Dat)) (x1 : Int32) (x2 : Int32) (x3 : Int32) (D : Dat) : Option (Int32 × Dat) :=
  f_X12_seal_b112 N rec_20 rec_27 rec_39 x1 x2 x3 0 D
set_option maxHeartbeats 4000000 in
theorem w_X12_seal_b83 {X : Cx} {n nu c u : Nat} {K : Nat → Nat} {N : Nat} {rec_20 : Int32 → Dat → Option (Int32 × Dat)} {rec_27 : Int32 → Int32 → Dat → Option (Int32 × Dat)} {rec_39 : Int32 → Int32 → Int32 → Dat → Option (Int32 × Dat)} {z : Int32 × Dat} (O : Ok X cX12_seal RX12 (some .int) 2 50) (hm : wlm (xw X) = true) (hn : xn X = 5) (hz : Z0 X (Ax nu K c u)) (hrec_20 : ∀ (x1 : Int32) (D : Dat), rec_20 x1 D = some z → V X (Q0 X n (Ax nu K c u) (some (.int z.1)) z.2) n (Ax nu K c u) D 20 [(0, .ref (bo X + pp 207)), (1, .int x1)] []) (hrec_27 : ∀ (x1 : Int32) (x2 : Int32) (D : Dat), rec_27 x1 x2 D = some z → V X (Q0 X n (Ax nu K c u) (some (.int z.1)) z.2) n (Ax nu K c u) D 27 [(0, .ref (bo X + pp 207)), (1, .int x1), (2, .int x2)] []) (hrec_39 : ∀ (x1 : Int32) (x2 : Int32) (x3 : Int32) (D : Dat), rec_39 x1 x2 x3 D = some z → V X (Q0 X n (Ax nu K c u) (some (.int z.1)) z.2) n (Ax nu K c u) D 39 [(0, .ref (bo X + pp 207)), (1, .int x1), (2, .int x2), (3, .int x3)] []) (x1 : Int32) (x2 : Int32) (x3 : Int32) (D : Dat) (h : f_X12_seal_b83 N rec_20 rec_27 rec_39 x1 x2 x3 D = some z) : V X (Q0 X n (Ax nu K c u) (some (.int z.1)) z.2) n (Ax nu K c u) D 83 [(0, .ref (bo X + pp 207)), (1, .int x1), (2, .int x2), (3, .int x3)] [] := by
  unfold f_X12_seal_b83 at h
  refine v_iconst (pc := 83) O dX12_seal_83 ic_0 ?_
  refine v_goto (pc := 84) 112 O dX12_seal_84 (by decide) ?_
  refine v_sub [0, 1, 2, 3] rfl ?_
  exact w_X12_seal_b112 O hm hn hz hrec_20 hrec_27 hrec_39 x1 x2 x3 0 D h
def f_X12_seal_b39 (N : Nat) (rec_20 : Int32 → Dat → Option (Int32 × Dat)) (rec_27 : Int32 → Int32 → Dat → Option (Int32 × Dat)) : Nat → Int32 → Int32 → Int32 → Dat → Option (Int32 × Dat)
  | 0, _, _, _, _ => none
  | g + 1, x1, x2, x3, D => if (dI D 207 1) ≤ x3 then (rec_27 x1 (x2 + 1) D) else (if x1 = 0 then (if (((6 : Int32) * x2) + x3) < 0 ∨ 36 ≤ ((((6 : Int32) * x2) + x3)).toNatClampNeg then none else (if (dI D 208 (((6 : Int32) * x2) + x3).toNatClampNeg) = 0 then (f_X12_seal_b83 N rec_20 rec_27 (f_X12_seal_b39 N rec_20 rec_27 g) x1 x2 x3 D) else (if (((6 : Int32) * x3) + x2) < 0 ∨ 36 ≤ ((((6 : Int32) * x3) + x2)).toNatClampNeg then none else (if (dI D 208 (((6 : Int32) * x3) + x2).toNatClampNeg) = 0 then (f_X12_seal_b83 N rec_20 rec_27 (f_X12_seal_b39 N rec_20 rec_27 g) x1 x2 x3 D) else (f_X12_seal_b112 N rec_20 rec_27 (f_X12_seal_b39 N rec_20 rec_27 g) x1 x2 x3 1 D))))) else ((f_X12_nearest N x2 x3 1 D).bind (fun p15 => if p15.1 < 0 then (f_X12_seal_b107 N rec_20 rec_27 (f_X12_seal_b39 N rec_20 rec_27 g) x1 x2 x3 p15.2) else ((f_X12_nearest N x2 x3 0 p15.2).bind (fun p18 => if 0 ≤ p18.1 then (f_X12_seal_b112 N rec_20 rec_27 (f_X12_seal_b39 N rec_20 rec_27 g) x1 x2 x3 0 p18.2) else (f_X12_seal_b107 N rec_20 rec_27 (f_X12_seal_b39 N rec_20 rec_27 g) x1 x2 x3 p18.2))))))
set_option maxHeartbeats 4000000 in
theorem w_X12_seal_b39 {X : Cx} {n nu c u : Nat} {K : Nat → Nat} {N : Nat} {rec_20 : Int32 → Dat → Option (Int32 × Dat)} {rec_27 : Int32 → Int32 → Dat → Option (Int32 × Dat)} {z : Int32 × Dat} (O : Ok X cX12_seal RX12 (some .int) 2 50) (hm : wlm (xw X) = true) (hn : xn X = 5) (hz : Z0 X (Ax nu K c u)) (hrec_20 : ∀ (x1 : Int32) (D : Dat), rec_20 x1 D = some z → V X (Q0 X n (Ax nu K c u) (some (.int z.1)) z.2) n (Ax nu K c u) D 20 [(0, .ref (bo X + pp 207)), (1, .int x1)] []) (hrec_27 : ∀ (x1 : Int32) (x2 : Int32) (D : Dat), rec_27 x1 x2 D = some z → V X (Q0 X n (Ax nu K c u) (some (.int z.1)) z.2) n (Ax nu K c u) D 27 [(0, .ref (bo X + pp 207)), (1, .int x1), (2, .int x2)] []) : ∀ (g : Nat) (x1 : Int32) (x2 : Int32) (x3 : Int32) (D : Dat), f_X12_seal_b39 N rec_20 rec_27 g x1 x2 x3 D = some z → V X (Q0 X n (Ax nu K c u) (some (.int z.1)) z.2) n (Ax nu K c u) D 39 [(0, .ref (bo X + pp 207)), (1, .int x1), (2, .int x2), (3, .int x3)] [] := by
  intro g
  induction g with
  | zero => intro x1 x2 x3 D h; exact absurd h (by simp [f_X12_seal_b39])
  | succ g ih =>
    intro x1 x2 x3 D h
    rw [f_X12_seal_b39] at h
    refine v_iload_n (pc := 39) O dX12_seal_39 3 rfl ?_
    refine v_aload_n (pc := 40) O dX12_seal_40 0 rfl ?_
    refine v_getI (pc := 41) (a := 207) O gf_X12_1 fl_X12_180 kq_207 dX12_seal_41 ?_
    refine v_icmpge (pc := 44) 139 O dX12_seal_44 (by decide) (fun c13 => ?_) (fun c13 => ?_)
    · have h := (if_pos c13).symm.trans h
      refine v_iinc (pc := 139) (lv' := [(2, .int (x2 + 1)), (0, .ref (bo X + pp 207)), (1, .int x1), (3, .int x3)]) O dX12_seal_139 2 rfl (congrArg (fun q => x2 + q) ic_1) (by rw [hn]; decide) rfl ?_
      refine v_goto (pc := 142) 27 O dX12_seal_142 (by decide) ?_
      refine v_sub [1, 2, 0] rfl ?_
      exact hrec_27 x1 (x2 + 1) D h
    · have h := (if_neg c13).symm.trans h
      refine v_iload_n (pc := 47) O dX12_seal_47 1 rfl ?_
      refine v_ifne (pc := 48) 87 O dX12_seal_48 (by decide) (fun c14 => ?_) (fun c14 => ?_)
      · have h := (if_neg c14).symm.trans h
        refine v_aload_n (pc := 87) O dX12_seal_87 0 rfl ?_
        refine v_iload_n (pc := 88) O dX12_seal_88 2 rfl ?_
        refine v_iload_n (pc := 89) O dX12_seal_89 3 rfl ?_
        refine v_iconst (pc := 90) O dX12_seal_90 ic_1 ?_
        obtain ⟨p15, e16, h⟩ := bind_some h
        refine v_callV (pc := 91) (a := 207) (As := [.int x2, .int x3, .int 1]) (rest := []) (r := (some (.int p15.1))) (D' := p15.2) O (bb0 hz) (c_X12_nearest hm e16) mw_X12_nearest im_X12_nearest se_X12_nearest ml_X12_202 kq_207 (by decide) rfl rfl rfl (by decide) (by decide) (Nat.le_of_ble_eq_true rfl) dX12_seal_91 rfl rfl ?_
        refine v_iflt (pc := 94) 107 O dX12_seal_94 (by decide) (fun c17 => ?_) (fun c17 => ?_)
        · have h := (if_pos c17).symm.trans h
          refine v_sub [0, 1, 2, 3] rfl ?_
          exact w_X12_seal_b107 O hm hn hz hrec_20 hrec_27 ih x1 x2 x3 p15.2 h
        · have h := (if_neg c17).symm.trans h
          refine v_aload_n (pc := 97) O dX12_seal_97 0 rfl ?_
          refine v_iload_n (pc := 98) O dX12_seal_98 2 rfl ?_
          refine v_iload_n (pc := 99) O dX12_seal_99 3 rfl ?_
          refine v_iconst (pc := 100) O dX12_seal_100 ic_0 ?_
          obtain ⟨p18, e19, h⟩ := bind_some h
          refine v_callV (pc := 101) (a := 207) (As := [.int x2, .int x3, .int 0]) (rest := []) (r := (some (.int p18.1))) (D' := p18.2) O (bb0 hz) (c_X12_nearest hm e19) mw_X12_nearest im_X12_nearest se_X12_nearest ml_X12_202 kq_207 (by decide) rfl rfl rfl (by decide) (by decide) (Nat.le_of_ble_eq_true rfl) dX12_seal_101 rfl rfl ?_
          refine v_ifge (pc := 104) 111 O dX12_seal_104 (by decide) (fun c20 => ?_) (fun c20 => ?_)
          · have h := (if_pos c20).symm.trans h
            refine v_iconst (pc := 111) O dX12_seal_111 ic_0 ?_
            refine v_sub [0, 1, 2, 3] rfl ?_
            exact w_X12_seal_b112 O hm hn hz hrec_20 hrec_27 ih x1 x2 x3 0 p18.2 h
          · have h := (if_neg c20).symm.trans h
            refine v_sub [0, 1, 2, 3] rfl ?_
            exact w_X12_seal_b107 O hm hn hz hrec_20 hrec_27 ih x1 x2 x3 p18.2 h
      · have h := (if_pos c14).symm.trans h
        refine v_aload_n (pc := 51) O dX12_seal_51 0 rfl ?_
        refine v_getK (pc := 52) (a := 207) O hm gf_X12_2 fl_X12_7 kq_207 lk_207_2 dX12_seal_52 ?_
        refine v_bipush (pc := 55) O dX12_seal_55 bp_6 ?_
        refine v_iload_n (pc := 57) O dX12_seal_57 2 rfl ?_
        refine v_imul (pc := 58) O dX12_seal_58 ?_
        refine v_iload_n (pc := 59) O dX12_seal_59 3 rfl ?_
        refine v_iadd (pc := 60) O dX12_seal_60 ?_
        obtain ⟨c21, h⟩ := or_none h
        refine v_zald (pc := 61) (a := 208) O kq_208 (inq lq_208 c21) dX12_seal_61 ?_
        refine v_ifeq (pc := 62) 83 O dX12_seal_62 (by decide) (fun c22 => ?_) (fun c22 => ?_)
        · have h := (if_pos c22).symm.trans h
          refine v_sub [0, 1, 2, 3] rfl ?_
          exact w_X12_seal_b83 O hm hn hz hrec_20 hrec_27 ih x1 x2 x3 D h
        · have h := (if_neg c22).symm.trans h
          refine v_aload_n (pc := 65) O dX12_seal_65 0 rfl ?_
          refine v_getK (pc := 66) (a := 207) O hm gf_X12_2 fl_X12_7 kq_207 lk_207_2 dX12_seal_66 ?_
          refine v_bipush (pc := 69) O dX12_seal_69 bp_6 ?_
          refine v_iload_n (pc := 71) O dX12_seal_71 3 rfl ?_
          refine v_imul (pc := 72) O dX12_seal_72 ?_
          refine v_iload_n (pc := 73) O dX12_seal_73 2 rfl ?_
          refine v_iadd (pc := 74) O dX12_seal_74 ?_
          obtain ⟨c23, h⟩ := or_none h
          refine v_zald (pc := 75) (a := 208) O kq_208 (inq lq_208 c23) dX12_seal_75 ?_
          refine v_ifeq (pc := 76) 83 O dX12_seal_76 (by decide) (fun c24 => ?_) (fun c24 => ?_)
          · have h := (if_pos c24).symm.trans h
            refine v_sub [0, 1, 2, 3] rfl ?_
            exact w_X12_seal_b83 O hm hn hz hrec_20 hrec_27 ih x1 x2 x3 D h
          · have h := (if_neg c24).symm.trans h
            refine v_iconst (pc := 79) O dX12_seal_79 ic_1 ?_
            refine v_goto (pc := 80) 112 O dX12_seal_80 (by decide) ?_
            refine v_sub [0, 1, 2, 3] rfl ?_
            exact w_X12_seal_b112 O hm hn hz hrec_20 hrec_27 ih x1 x2 x3 1 D h
def f_X12_seal_b27 (N : Nat) (rec_20 : Int32 → Dat → Option (Int32 × Dat)) : Nat → Int32 → Int32 → Dat → Option (Int32 × Dat)
  | 0, _, _, _ => none
  | g + 1, x1, x2, D => if (dI D 207 1) ≤ x2 then (rec_20 (x1 + 1) D) else (f_X12_seal_b39 N rec_20 (f_X12_seal_b27 N rec_20 g) N x1 x2 (x2 + (1 : Int32)) D)
set_option maxHeartbeats 4000000 in
theorem w_X12_seal_b27 {X : Cx} {n nu c u : Nat} {K : Nat → Nat} {N : Nat} {rec_20 : Int32 → Dat → Option (Int32 × Dat)} {z : Int32 × Dat} (O : Ok X cX12_seal RX12 (some .int) 2 50) (hm : wlm (xw X) = true) (hn : xn X = 5) (hz : Z0 X (Ax nu K c u)) (hrec_20 : ∀ (x1 : Int32) (D : Dat), rec_20 x1 D = some z → V X (Q0 X n (Ax nu K c u) (some (.int z.1)) z.2) n (Ax nu K c u) D 20 [(0, .ref (bo X + pp 207)), (1, .int x1)] []) : ∀ (g : Nat) (x1 : Int32) (x2 : Int32) (D : Dat), f_X12_seal_b27 N rec_20 g x1 x2 D = some z → V X (Q0 X n (Ax nu K c u) (some (.int z.1)) z.2) n (Ax nu K c u) D 27 [(0, .ref (bo X + pp 207)), (1, .int x1), (2, .int x2)] [] := by
  intro g
  induction g with
  | zero => intro x1 x2 D h; exact absurd h (by simp [f_X12_seal_b27])
  | succ g ih =>
    intro x1 x2 D h
    rw [f_X12_seal_b27] at h
    refine v_iload_n (pc := 27) O dX12_seal_27 2 rfl ?_
    refine v_aload_n (pc := 28) O dX12_seal_28 0 rfl ?_
    refine v_getI (pc := 29) (a := 207) O gf_X12_1 fl_X12_180 kq_207 dX12_seal_29 ?_
    refine v_icmpge (pc := 32) 145 O dX12_seal_32 (by decide) (fun c25 => ?_) (fun c25 => ?_)
    · have h := (if_pos c25).symm.trans h
      refine v_iinc (pc := 145) (lv' := [(1, .int (x1 + 1)), (0, .ref (bo X + pp 207)), (2, .int x2)]) O dX12_seal_145 1 rfl (congrArg (fun q => x1 + q) ic_1) (by rw [hn]; decide) rfl ?_
      refine v_goto (pc := 148) 20 O dX12_seal_148 (by decide) ?_
      refine v_sub [1, 0] rfl ?_
      exact hrec_20 (x1 + 1) D h
    · have h := (if_neg c25).symm.trans h
      refine v_iload_n (pc := 35) O dX12_seal_35 2 rfl ?_
      refine v_iconst (pc := 36) O dX12_seal_36 ic_1 ?_
      refine v_iadd (pc := 37) O dX12_seal_37 ?_
      refine v_istore_n (pc := 38) (lv' := [(3, .int (x2 + (1 : Int32))), (0, .ref (bo X + pp 207)), (1, .int x1), (2, .int x2)]) O dX12_seal_38 rfl (by rw [hn]; decide) rfl ?_
      refine v_sub [1, 2, 3, 0] rfl ?_
      exact w_X12_seal_b39 O hm hn hz hrec_20 ih N x1 x2 (x2 + (1 : Int32)) D h
def f_X12_seal_b20 (N : Nat) : Nat → Int32 → Dat → Option (Int32 × Dat)
  | 0, _, _ => none
  | g + 1, x1, D => if 2 ≤ x1 then (f_X12_seal_b153 N N 0 D) else (f_X12_seal_b27 N (f_X12_seal_b20 N g) N x1 0 D)
set_option maxHeartbeats 4000000 in
theorem w_X12_seal_b20 {X : Cx} {n nu c u : Nat} {K : Nat → Nat} {N : Nat} {z : Int32 × Dat} (O : Ok X cX12_seal RX12 (some .int) 2 50) (hm : wlm (xw X) = true) (hn : xn X = 5) (hz : Z0 X (Ax nu K c u)) : ∀ (g : Nat) (x1 : Int32) (D : Dat), f_X12_seal_b20 N g x1 D = some z → V X (Q0 X n (Ax nu K c u) (some (.int z.1)) z.2) n (Ax nu K c u) D 20 [(0, .ref (bo X + pp 207)), (1, .int x1)] [] := by
  intro g
  induction g with
  | zero => intro x1 D h; exact absurd h (by simp [f_X12_seal_b20])
  | succ g ih =>
    intro x1 D h
    rw [f_X12_seal_b20] at h
    refine v_iload_n (pc := 20) O dX12_seal_20 1 rfl ?_
    refine v_iconst (pc := 21) O dX12_seal_21 ic_2 ?_
    refine v_icmpge (pc := 22) 151 O dX12_seal_22 (by decide) (fun c26 => ?_) (fun c26 => ?_)
    · have h := (if_pos c26).symm.trans h
      refine v_iconst (pc := 151) O dX12_seal_151 ic_0 ?_
      refine v_istore_n (pc := 152) (lv' := [(1, .int 0), (0, .ref (bo X + pp 207))]) O dX12_seal_152 rfl (by rw [hn]; decide) rfl ?_
      refine v_sub [1, 0] rfl ?_
      exact w_X12_seal_b153 O hm hn hz N 0 D h
    · have h := (if_neg c26).symm.trans h
      refine v_iconst (pc := 25) O dX12_seal_25 ic_0 ?_
      refine v_istore_n (pc := 26) (lv' := [(2, .int 0), (0, .ref (bo X + pp 207)), (1, .int x1)]) O dX12_seal_26 rfl (by rw [hn]; decide) rfl ?_
      refine v_sub [1, 2, 0] rfl ?_
      exact w_X12_seal_b27 O hm hn hz ih N x1 0 D h
def f_X12_seal (N : Nat) (D : Dat) : Option (Int32 × Dat) :=
  if (dI (sI D 207 0 0) 207 5) = 0 then (f_X12_seal_b20 N N 0 (sI D 207 0 0)) else ((f_X12_fail 1 (sI D 207 0 0)).bind (fun p28 => some (p28.1, p28.2)))
set_option maxHeartbeats 4000000 in
theorem w_X12_seal {X : Cx} {n nu c u : Nat} {K : Nat → Nat} {N : Nat} {z : Int32 × Dat} (O : Ok X cX12_seal RX12 (some .int) 2 50) (hm : wlm (xw X) = true) (hn : xn X = 5) (hz : Z0 X (Ax nu K c u)) (D : Dat) (h : f_X12_seal N D = some z) : V X (Q0 X n (Ax nu K c u) (some (.int z.1)) z.2) n (Ax nu K c u) D 0 [(0, .ref (bo X + pp 207))] [] := by
  unfold f_X12_seal at h
  refine v_aload_n (pc := 0) O dX12_seal_0 0 rfl ?_
  refine v_iconst (pc := 1) O dX12_seal_1 ic_0 ?_
  refine v_putI (pc := 2) (a := 207) O pf_X12_0 fl_X12_183 kq_207 dX12_seal_2 ?_
  refine v_aload_n (pc := 5) O dX12_seal_5 0 rfl ?_
  refine v_getI (pc := 6) (a := 207) O gf_X12_5 fl_X12_194 kq_207 dX12_seal_6 ?_
  refine v_ifeq (pc := 9) 18 O dX12_seal_9 (by decide) (fun c27 => ?_) (fun c27 => ?_)
  · have h := (if_pos c27).symm.trans h
    refine v_iconst (pc := 18) O dX12_seal_18 ic_0 ?_
    refine v_istore_n (pc := 19) (lv' := [(1, .int 0), (0, .ref (bo X + pp 207))]) O dX12_seal_19 rfl (by rw [hn]; decide) rfl ?_
    refine v_sub [1, 0] rfl ?_
    exact w_X12_seal_b20 O hm hn hz N 0 (sI D 207 0 0) h
  · have h := (if_neg c27).symm.trans h
    refine v_aload_n (pc := 12) O dX12_seal_12 0 rfl ?_
    refine v_iconst (pc := 13) O dX12_seal_13 ic_1 ?_
    obtain ⟨p28, e29, h⟩ := bind_some h
    refine v_callV (pc := 14) (a := 207) (As := [.int 1]) (rest := []) (r := (some (.int p28.1))) (D' := p28.2) O (bb0 hz) (c_X12_fail hm e29) mw_X12_fail im_X12_fail se_X12_fail ml_X12_190 kq_207 (by decide) rfl rfl rfl (by decide) (by decide) (Nat.le_of_ble_eq_true rfl) dX12_seal_14 rfl rfl ?_
    obtain rfl := Option.some.inj h
    exact v_iret (pc := 17) O hz dX12_seal_17
theorem c_X12_seal {l : Launch} {w : Wx} {n nu c u : Nat} {K : Nat → Nat} {N : Nat} (hm : wlm w = true) {D : Dat} {z : Int32 × Dat} (h : f_X12_seal N D = some z) : C0 l w yX12_seal cX12_seal 5 (some .int) 2 50 [.ref (wb w + pp 207)] n (Ax nu K c u) D (some (.int z.1)) z.2 :=
  C0.of (by decide) (Nat.le_of_ble_eq_true rfl) (fun X e1 e2 e3 hz O => by
  subst e1
  subst e2
  exact w_X12_seal O hm e3 hz  D h)
def f_X12_label_b38 (D : Dat) : Option (Int32 × Dat) :=
  (f_X12_fail 1 D).bind (fun p1 => some (p1.1, p1.2))
set_option maxHeartbeats 4000000 in
theorem w_X12_label_b38 {X : Cx} {n nu c u : Nat} {K : Nat → Nat} {z : Int32 × Dat} (O : Ok X cX12_label RX12 (some .int) 1 22) (hm : wlm (xw X) = true) (hn : xn X = 4) (hz : Z0 X (Ax nu K c u)) (D : Dat) (h : f_X12_label_b38 D = some z) : V X (Q0 X n (Ax nu K c u) (some (.int z.1)) z.2) n (Ax nu K c u) D 38 [(0, .ref (bo X + pp 207))] [] := by
  unfold f_X12_label_b38 at h
  refine v_aload_n (pc := 38) O dX12_label_38 0 rfl ?_
  refine v_iconst (pc := 39) O dX12_label_39 ic_1 ?_
  obtain ⟨p1, e2, h⟩ := bind_some h
  refine v_callV (pc := 40) (a := 207) (As := [.int 1]) (rest := []) (r := (some (.int p1.1))) (D' := p1.2) O (bb0 hz) (c_X12_fail hm e2) mw_X12_fail im_X12_fail se_X12_fail ml_X12_190 kq_207 (by decide) rfl rfl rfl (by decide) (by decide) (Nat.le_of_ble_eq_true rfl) dX12_label_40 rfl rfl ?_
  obtain rfl := Option.some.inj h
  exact v_iret (pc := 43) O hz dX12_label_43
def f_X12_label_b67 (s0 : Int32) (D : Dat) : Option (Int32 × Dat) :=
  some (s0, D)
set_option maxHeartbeats 4000000 in
theorem w_X12_label_b67 {X : Cx} {n nu c u : Nat} {K : Nat → Nat} {z : Int32 × Dat} (O : Ok X cX12_label RX12 (some .int) 1 22) (hm : wlm (xw X) = true) (hn : xn X = 4) (hz : Z0 X (Ax nu K c u)) (s0 : Int32) (D : Dat) (h : f_X12_label_b67 s0 D = some z) : V X (Q0 X n (Ax nu K c u) (some (.int z.1)) z.2) n (Ax nu K c u) D 67 [] [.int s0] := by
  unfold f_X12_label_b67 at h
  obtain rfl := Option.some.inj h
  exact v_iret (pc := 67) O hz dX12_label_67
def f_X12_label_b111 (s0 : Int32) (D : Dat) : Option (Int32 × Dat) :=
  some (s0, D)
set_option maxHeartbeats 4000000 in
theorem w_X12_label_b111 {X : Cx} {n nu c u : Nat} {K : Nat → Nat} {z : Int32 × Dat} (O : Ok X cX12_label RX12 (some .int) 1 22) (hm : wlm (xw X) = true) (hn : xn X = 4) (hz : Z0 X (Ax nu K c u)) (s0 : Int32) (D : Dat) (h : f_X12_label_b111 s0 D = some z) : V X (Q0 X n (Ax nu K c u) (some (.int z.1)) z.2) n (Ax nu K c u) D 111 [] [.int s0] := by
  unfold f_X12_label_b111 at h
  obtain rfl := Option.some.inj h
  exact v_iret (pc := 111) O hz dX12_label_111
def f_X12_label (x1 : Int32) (x2 : Int32) (x3 : Int32) (D : Dat) : Option (Int32 × Dat) :=
  (f_X12_out x1 3 (sI D 207 0 0)).bind (fun p3 => if p3.1 = 0 then ((f_X12_out x2 (dI p3.2 207 1) p3.2).bind (fun p6 => if p6.1 = 0 then ((f_X12_out x3 (dI p6.2 207 1) p6.2).bind (fun p9 => if p9.1 = 0 then (if x1 = 0 then (if (((6 : Int32) * x2) + x3) < 0 ∨ 36 ≤ ((((6 : Int32) * x2) + x3)).toNatClampNeg then none else (if (dI p9.2 208 (((6 : Int32) * x2) + x3).toNatClampNeg) = 0 then (f_X12_label_b67 0 p9.2) else (f_X12_label_b67 1 p9.2))) else (if (dI p9.2 207 5) = 0 then ((f_X12_fail 2 p9.2).bind (fun p17 => some (p17.1, p17.2))) else (if x1 = 1 then (if (((6 : Int32) * x2) + x3) < 0 ∨ 36 ≤ ((((6 : Int32) * x2) + x3)).toNatClampNeg then none else (f_X12_label_b111 (dI p9.2 209 (((6 : Int32) * x2) + x3).toNatClampNeg) p9.2)) else (if (((6 : Int32) * x2) + x3) < 0 ∨ 36 ≤ ((((6 : Int32) * x2) + x3)).toNatClampNeg then none else (f_X12_label_b111 (dI p9.2 210 (((6 : Int32) * x2) + x3).toNatClampNeg) p9.2))))) else (f_X12_label_b38 p9.2))) else (f_X12_label_b38 p6.2))) else (f_X12_label_b38 p3.2))
set_option maxHeartbeats 4000000 in
theorem w_X12_label {X : Cx} {n nu c u : Nat} {K : Nat → Nat} {z : Int32 × Dat} (O : Ok X cX12_label RX12 (some .int) 1 22) (hm : wlm (xw X) = true) (hn : xn X = 4) (hz : Z0 X (Ax nu K c u)) (x1 : Int32) (x2 : Int32) (x3 : Int32) (D : Dat) (h : f_X12_label x1 x2 x3 D = some z) : V X (Q0 X n (Ax nu K c u) (some (.int z.1)) z.2) n (Ax nu K c u) D 0 [(0, .ref (bo X + pp 207)), (1, .int x1), (2, .int x2), (3, .int x3)] [] := by
  unfold f_X12_label at h
  refine v_aload_n (pc := 0) O dX12_label_0 0 rfl ?_
  refine v_iconst (pc := 1) O dX12_label_1 ic_0 ?_
  refine v_putI (pc := 2) (a := 207) O pf_X12_0 fl_X12_183 kq_207 dX12_label_2 ?_
  refine v_aload_n (pc := 5) O dX12_label_5 0 rfl ?_
  refine v_iload_n (pc := 6) O dX12_label_6 1 rfl ?_
  refine v_iconst (pc := 7) O dX12_label_7 ic_3 ?_
  obtain ⟨p3, e4, h⟩ := bind_some h
  refine v_callV (pc := 8) (a := 207) (As := [.int x1, .int 3]) (rest := []) (r := (some (.int p3.1))) (D' := p3.2) O (bb0 hz) (c_X12_out hm e4) mw_X12_out im_X12_out se_X12_out ml_X12_186 kq_207 (by decide) rfl rfl rfl (by decide) (by decide) (Nat.le_of_ble_eq_true rfl) dX12_label_8 rfl rfl ?_
  refine v_ifne (pc := 11) 38 O dX12_label_11 (by decide) (fun c5 => ?_) (fun c5 => ?_)
  · have h := (if_neg c5).symm.trans h
    refine v_sub [0] rfl ?_
    exact w_X12_label_b38 O hm hn hz p3.2 h
  · have h := (if_pos c5).symm.trans h
    refine v_aload_n (pc := 14) O dX12_label_14 0 rfl ?_
    refine v_iload_n (pc := 15) O dX12_label_15 2 rfl ?_
    refine v_aload_n (pc := 16) O dX12_label_16 0 rfl ?_
    refine v_getI (pc := 17) (a := 207) O gf_X12_1 fl_X12_180 kq_207 dX12_label_17 ?_
    obtain ⟨p6, e7, h⟩ := bind_some h
    refine v_callV (pc := 20) (a := 207) (As := [.int x2, .int (dI p3.2 207 1)]) (rest := []) (r := (some (.int p6.1))) (D' := p6.2) O (bb0 hz) (c_X12_out hm e7) mw_X12_out im_X12_out se_X12_out ml_X12_186 kq_207 (by decide) rfl rfl rfl (by decide) (by decide) (Nat.le_of_ble_eq_true rfl) dX12_label_20 rfl rfl ?_
    refine v_ifne (pc := 23) 38 O dX12_label_23 (by decide) (fun c8 => ?_) (fun c8 => ?_)
    · have h := (if_neg c8).symm.trans h
      refine v_sub [0] rfl ?_
      exact w_X12_label_b38 O hm hn hz p6.2 h
    · have h := (if_pos c8).symm.trans h
      refine v_aload_n (pc := 26) O dX12_label_26 0 rfl ?_
      refine v_iload_n (pc := 27) O dX12_label_27 3 rfl ?_
      refine v_aload_n (pc := 28) O dX12_label_28 0 rfl ?_
      refine v_getI (pc := 29) (a := 207) O gf_X12_1 fl_X12_180 kq_207 dX12_label_29 ?_
      obtain ⟨p9, e10, h⟩ := bind_some h
      refine v_callV (pc := 32) (a := 207) (As := [.int x3, .int (dI p6.2 207 1)]) (rest := []) (r := (some (.int p9.1))) (D' := p9.2) O (bb0 hz) (c_X12_out hm e10) mw_X12_out im_X12_out se_X12_out ml_X12_186 kq_207 (by decide) rfl rfl rfl (by decide) (by decide) (Nat.le_of_ble_eq_true rfl) dX12_label_32 rfl rfl ?_
      refine v_ifeq (pc := 35) 44 O dX12_label_35 (by decide) (fun c11 => ?_) (fun c11 => ?_)
      · have h := (if_pos c11).symm.trans h
        refine v_iload_n (pc := 44) O dX12_label_44 1 rfl ?_
        refine v_ifne (pc := 45) 68 O dX12_label_45 (by decide) (fun c12 => ?_) (fun c12 => ?_)
        · have h := (if_neg c12).symm.trans h
          refine v_aload_n (pc := 68) O dX12_label_68 0 rfl ?_
          refine v_getI (pc := 69) (a := 207) O gf_X12_5 fl_X12_194 kq_207 dX12_label_69 ?_
          refine v_ifne (pc := 72) 81 O dX12_label_72 (by decide) (fun c13 => ?_) (fun c13 => ?_)
          · have h := (if_neg c13).symm.trans h
            refine v_iload_n (pc := 81) O dX12_label_81 1 rfl ?_
            refine v_iconst (pc := 82) O dX12_label_82 ic_1 ?_
            refine v_icmpne (pc := 83) 100 O dX12_label_83 (by decide) (fun c14 => ?_) (fun c14 => ?_)
            · have h := (if_neg c14).symm.trans h
              refine v_aload_n (pc := 100) O dX12_label_100 0 rfl ?_
              refine v_getK (pc := 101) (a := 207) O hm gf_X12_4 fl_X12_17 kq_207 lk_207_4 dX12_label_101 ?_
              refine v_bipush (pc := 104) O dX12_label_104 bp_6 ?_
              refine v_iload_n (pc := 106) O dX12_label_106 2 rfl ?_
              refine v_imul (pc := 107) O dX12_label_107 ?_
              refine v_iload_n (pc := 108) O dX12_label_108 3 rfl ?_
              refine v_iadd (pc := 109) O dX12_label_109 ?_
              obtain ⟨c15, h⟩ := or_none h
              refine v_iald (pc := 110) (a := 210) O kq_210 (inq lq_210 c15) dX12_label_110 ?_
              refine v_sub [] rfl ?_
              exact w_X12_label_b111 O hm hn hz (dI p9.2 210 (((6 : Int32) * x2) + x3).toNatClampNeg) p9.2 h
            · have h := (if_pos c14).symm.trans h
              refine v_aload_n (pc := 86) O dX12_label_86 0 rfl ?_
              refine v_getK (pc := 87) (a := 207) O hm gf_X12_3 fl_X12_13 kq_207 lk_207_3 dX12_label_87 ?_
              refine v_bipush (pc := 90) O dX12_label_90 bp_6 ?_
              refine v_iload_n (pc := 92) O dX12_label_92 2 rfl ?_
              refine v_imul (pc := 93) O dX12_label_93 ?_
              refine v_iload_n (pc := 94) O dX12_label_94 3 rfl ?_
              refine v_iadd (pc := 95) O dX12_label_95 ?_
              obtain ⟨c16, h⟩ := or_none h
              refine v_iald (pc := 96) (a := 209) O kq_209 (inq lq_209 c16) dX12_label_96 ?_
              refine v_goto (pc := 97) 111 O dX12_label_97 (by decide) ?_
              refine v_sub [] rfl ?_
              exact w_X12_label_b111 O hm hn hz (dI p9.2 209 (((6 : Int32) * x2) + x3).toNatClampNeg) p9.2 h
          · have h := (if_pos c13).symm.trans h
            refine v_aload_n (pc := 75) O dX12_label_75 0 rfl ?_
            refine v_iconst (pc := 76) O dX12_label_76 ic_2 ?_
            obtain ⟨p17, e18, h⟩ := bind_some h
            refine v_callV (pc := 77) (a := 207) (As := [.int 2]) (rest := []) (r := (some (.int p17.1))) (D' := p17.2) O (bb0 hz) (c_X12_fail hm e18) mw_X12_fail im_X12_fail se_X12_fail ml_X12_190 kq_207 (by decide) rfl rfl rfl (by decide) (by decide) (Nat.le_of_ble_eq_true rfl) dX12_label_77 rfl rfl ?_
            obtain rfl := Option.some.inj h
            exact v_iret (pc := 80) O hz dX12_label_80
        · have h := (if_pos c12).symm.trans h
          refine v_aload_n (pc := 48) O dX12_label_48 0 rfl ?_
          refine v_getK (pc := 49) (a := 207) O hm gf_X12_2 fl_X12_7 kq_207 lk_207_2 dX12_label_49 ?_
          refine v_bipush (pc := 52) O dX12_label_52 bp_6 ?_
          refine v_iload_n (pc := 54) O dX12_label_54 2 rfl ?_
          refine v_imul (pc := 55) O dX12_label_55 ?_
          refine v_iload_n (pc := 56) O dX12_label_56 3 rfl ?_
          refine v_iadd (pc := 57) O dX12_label_57 ?_
          obtain ⟨c19, h⟩ := or_none h
          refine v_zald (pc := 58) (a := 208) O kq_208 (inq lq_208 c19) dX12_label_58 ?_
          refine v_ifeq (pc := 59) 66 O dX12_label_59 (by decide) (fun c20 => ?_) (fun c20 => ?_)
          · have h := (if_pos c20).symm.trans h
            refine v_iconst (pc := 66) O dX12_label_66 ic_0 ?_
            refine v_sub [] rfl ?_
            exact w_X12_label_b67 O hm hn hz 0 p9.2 h
          · have h := (if_neg c20).symm.trans h
            refine v_iconst (pc := 62) O dX12_label_62 ic_1 ?_
            refine v_goto (pc := 63) 67 O dX12_label_63 (by decide) ?_
            refine v_sub [] rfl ?_
            exact w_X12_label_b67 O hm hn hz 1 p9.2 h
      · have h := (if_neg c11).symm.trans h
        refine v_sub [0] rfl ?_
        exact w_X12_label_b38 O hm hn hz p9.2 h
theorem c_X12_label {l : Launch} {w : Wx} {n nu c u : Nat} {K : Nat → Nat} (hm : wlm w = true) {x1 : Int32} {x2 : Int32} {x3 : Int32} {D : Dat} {z : Int32 × Dat} (h : f_X12_label x1 x2 x3 D = some z) : C0 l w yX12_label cX12_label 4 (some .int) 1 22 [.ref (wb w + pp 207), .int x1, .int x2, .int x3] n (Ax nu K c u) D (some (.int z.1)) z.2 :=
  C0.of (by decide) (Nat.le_of_ble_eq_true rfl) (fun X e1 e2 e3 hz O => by
  subst e1
  subst e2
  exact w_X12_label O hm e3 hz x1 x2 x3 D h)
