theorem fl_X12_84 : Cond.fieldLink RX12 84 RX12 (TX12 43).2.1 (TX12 43).2.2.1 ∈ tb := tb_of 1763 (by decide +kernel) (by decide +kernel)
theorem gf_X12_43 : FI 12 RX12 TX12 85 tyX12 43 3 := ⟨rfl, inb_X12, tyX12_ok, nmX12, by decide, by decide, rfl, rfl, rfl⟩
theorem lk_207_43 : lks 207 43 = some 230 := by decide +kernel
theorem kq_230 {nu c u : Nat} {K : Nat → Nat} : (Ax nu K c u).1 230 = 14 := kd_lt (K := K) (a := 230) (by decide) rfl
theorem lq_230 {nu c u : Nat} {K : Nat → Nat} : (Ax nu K c u).2.1 230 = 26 := rfl
theorem fl_X12_332 : Cond.fieldLink RX12 332 RX12 (TX12 18).2.1 (TX12 18).2.2.1 ∈ tb := tb_of 1738 (by decide +kernel) (by decide +kernel)
theorem gf_X12_18 : FI 12 RX12 TX12 85 tyX12 18 0 := ⟨rfl, inb_X12, tyX12_ok, nmX12, by decide, by decide, rfl, rfl, rfl⟩
theorem fl_X12_335 : Cond.fieldLink RX12 335 RX12 (TX12 19).2.1 (TX12 19).2.2.1 ∈ tb := tb_of 1739 (by decide +kernel) (by decide +kernel)
theorem gf_X12_19 : FI 12 RX12 TX12 85 tyX12 19 0 := ⟨rfl, inb_X12, tyX12_ok, nmX12, by decide, by decide, rfl, rfl, rfl⟩
theorem pf_X12_35 : PI 12 RX12 TX12 85 tyX12 35 0 .int := ⟨gf_X12_35, rfl, rfl⟩
theorem bp_64 : (Int8.ofInt (64)).toInt32 = (64 : Int32) := by decide
theorem sp_260 : (Int16.ofInt (260)).toInt32 = (260 : Int32) := by decide
theorem bp_125 : (Int8.ofInt (125)).toInt32 = (125 : Int32) := by decide
theorem cw_X12_close : Cond.code yX12_close cX12_close 2 none ∈ tb := tb_of 2059 (by decide +kernel) (by decide +kernel)
theorem mw_X12_close : MW yX12_close cX12_close 2 none 0 := ⟨cw_X12_close, ini_X12, by decide +kernel⟩
theorem im_X12_close : Cond.instanceMethod yX12_close ∈ tb := tb_of 2058 (by decide +kernel) (by decide +kernel)
theorem se_X12_close : Cond.selects (yX12_close).cls yX12_close yX12_close ∈ tb := tb_of 97 (by decide +kernel) (by decide +kernel)
theorem ml_X12_338 : Cond.methodLink RX12 338 yX12_close ∈ tb := tb_of 2056 (by decide +kernel) (by decide +kernel)
theorem cw_X12_declare : Cond.code yX12_declare cX12_declare 3 none ∈ tb := tb_of 2075 (by decide +kernel) (by decide +kernel)
theorem mw_X12_declare : MW yX12_declare cX12_declare 3 none 0 := ⟨cw_X12_declare, ini_X12, by decide +kernel⟩
theorem im_X12_declare : Cond.instanceMethod yX12_declare ∈ tb := tb_of 2074 (by decide +kernel) (by decide +kernel)
theorem se_X12_declare : Cond.selects (yX12_declare).cls yX12_declare yX12_declare ∈ tb := tb_of 101 (by decide +kernel) (by decide +kernel)
theorem ml_X12_341 : Cond.methodLink RX12 341 yX12_declare ∈ tb := tb_of 2072 (by decide +kernel) (by decide +kernel)
theorem cw_X12_statement : Cond.code yX12_statement cX12_statement 4 none ∈ tb := tb_of 2087 (by decide +kernel) (by decide +kernel)
theorem mw_X12_statement : MW yX12_statement cX12_statement 4 none 0 := ⟨cw_X12_statement, ini_X12, by decide +kernel⟩
theorem im_X12_statement : Cond.instanceMethod yX12_statement ∈ tb := tb_of 2086 (by decide +kernel) (by decide +kernel)
theorem se_X12_statement : Cond.selects (yX12_statement).cls yX12_statement yX12_statement ∈ tb := tb_of 104 (by decide +kernel) (by decide +kernel)
theorem ml_X12_344 : Cond.methodLink RX12 344 yX12_statement ∈ tb := tb_of 2084 (by decide +kernel) (by decide +kernel)
theorem fl_X12_105 : Cond.fieldLink RX12 105 RX12 (TX12 53).2.1 (TX12 53).2.2.1 ∈ tb := tb_of 1773 (by decide +kernel) (by decide +kernel)
theorem gf_X12_53 : FI 12 RX12 TX12 85 tyX12 53 3 := ⟨rfl, inb_X12, tyX12_ok, nmX12, by decide, by decide, rfl, rfl, rfl⟩
theorem lk_207_53 : lks 207 53 = some 237 := by decide +kernel
theorem kq_237 {nu c u : Nat} {K : Nat → Nat} : (Ax nu K c u).1 237 = 14 := kd_lt (K := K) (a := 237) (by decide) rfl
theorem lq_237 {nu c u : Nat} {K : Nat → Nat} : (Ax nu K c u).2.1 237 = 26 := rfl
theorem cw_X12_join : Cond.code yX12_join cX12_join 3 (some .int) ∈ tb := tb_of 2147 (by decide +kernel) (by decide +kernel)
theorem mw_X12_join : MW yX12_join cX12_join 3 (some .int) 2 := ⟨cw_X12_join, ini_X12, by decide +kernel⟩
theorem im_X12_join : Cond.instanceMethod yX12_join ∈ tb := tb_of 2146 (by decide +kernel) (by decide +kernel)
theorem se_X12_join : Cond.selects (yX12_join).cls yX12_join yX12_join ∈ tb := tb_of 119 (by decide +kernel) (by decide +kernel)
theorem ml_X12_347 : Cond.methodLink RX12 347 yX12_join ∈ tb := tb_of 2144 (by decide +kernel) (by decide +kernel)
theorem fl_X12_108 : Cond.fieldLink RX12 108 RX12 (TX12 57).2.1 (TX12 57).2.2.1 ∈ tb := tb_of 1777 (by decide +kernel) (by decide +kernel)
theorem gf_X12_57 : FI 12 RX12 TX12 85 tyX12 57 3 := ⟨rfl, inb_X12, tyX12_ok, nmX12, by decide, by decide, rfl, rfl, rfl⟩
theorem lk_207_57 : lks 207 57 = some 238 := by decide +kernel
theorem kq_238 {nu c u : Nat} {K : Nat → Nat} : (Ax nu K c u).1 238 = 14 := kd_lt (K := K) (a := 238) (by decide) rfl
theorem lq_238 {nu c u : Nat} {K : Nat → Nat} : (Ax nu K c u).2.1 238 = 300 := rfl
theorem fl_X12_351 : Cond.fieldLink RX12 351 RX12 (TX12 55).2.1 (TX12 55).2.2.1 ∈ tb := tb_of 1775 (by decide +kernel) (by decide +kernel)
theorem gf_X12_55 : FI 12 RX12 TX12 85 tyX12 55 0 := ⟨rfl, inb_X12, tyX12_ok, nmX12, by decide, by decide, rfl, rfl, rfl⟩
theorem fl_X12_111 : Cond.fieldLink RX12 111 RX12 (TX12 58).2.1 (TX12 58).2.2.1 ∈ tb := tb_of 1778 (by decide +kernel) (by decide +kernel)
theorem gf_X12_58 : FI 12 RX12 TX12 85 tyX12 58 3 := ⟨rfl, inb_X12, tyX12_ok, nmX12, by decide, by decide, rfl, rfl, rfl⟩
theorem lk_207_58 : lks 207 58 = some 239 := by decide +kernel
theorem kq_239 {nu c u : Nat} {K : Nat → Nat} : (Ax nu K c u).1 239 = 14 := kd_lt (K := K) (a := 239) (by decide) rfl
theorem lq_239 {nu c u : Nat} {K : Nat → Nat} : (Ax nu K c u).2.1 239 = 300 := rfl
theorem fl_X12_114 : Cond.fieldLink RX12 114 RX12 (TX12 59).2.1 (TX12 59).2.2.1 ∈ tb := tb_of 1779 (by decide +kernel) (by decide +kernel)
theorem gf_X12_59 : FI 12 RX12 TX12 85 tyX12 59 3 := ⟨rfl, inb_X12, tyX12_ok, nmX12, by decide, by decide, rfl, rfl, rfl⟩
theorem lk_207_59 : lks 207 59 = some 240 := by decide +kernel
theorem kq_240 {nu c u : Nat} {K : Nat → Nat} : (Ax nu K c u).1 240 = 14 := kd_lt (K := K) (a := 240) (by decide) rfl
theorem lq_240 {nu c u : Nat} {K : Nat → Nat} : (Ax nu K c u).2.1 240 = 300 := rfl
theorem fl_X12_354 : Cond.fieldLink RX12 354 RX12 (TX12 54).2.1 (TX12 54).2.2.1 ∈ tb := tb_of 1774 (by decide +kernel) (by decide +kernel)
theorem gf_X12_54 : FI 12 RX12 TX12 85 tyX12 54 0 := ⟨rfl, inb_X12, tyX12_ok, nmX12, by decide, by decide, rfl, rfl, rfl⟩
theorem pf_X12_55 : PI 12 RX12 TX12 85 tyX12 55 0 .int := ⟨gf_X12_55, rfl, rfl⟩
def f_X12_close_b111 (N : Nat) (D : Dat) : Option (Dat) :=
  some D
set_option maxHeartbeats 4000000 in
theorem w_X12_close_b111 {X : Cx} {n nu c u : Nat} {K : Nat → Nat} {N : Nat} {z : Dat} (O : Ok X cX12_close RX12 none 5 106) (hm : wlm (xw X) = true) (hn : xn X = 2) (hz : Z0 X (Ax nu K c u)) (D : Dat) (h : f_X12_close_b111 N D = some z) : V X (Q0 X n (Ax nu K c u) none z) n (Ax nu K c u) D 111 [] [] := by
  unfold f_X12_close_b111 at h
  obtain rfl := Option.some.inj h
  exact v_ret (pc := 111) O hz dX12_close_111
def f_X12_close_b54 (N : Nat) (x1 : Int32) (D : Dat) : Option (Dat) :=
  if (dI D 207 44) < 0 ∨ 10 ≤ ((dI D 207 44)).toNatClampNeg then none else (if (dI D 231 (dI D 207 44).toNatClampNeg) = 2 then (if x1 < 0 ∨ 128 ≤ (x1).toNatClampNeg then none else (if (dI D 216 (x1).toNatClampNeg) = 3 then (if (dI D 207 37) = 107 then (if (dI D 207 38) = 5 then ((f_X12_next N D).bind (fun p7 => if x1 < 0 ∨ 128 ≤ (x1).toNatClampNeg then none else ((f_X12_block N 3 x1 (sI p7 219 (x1).toNatClampNeg 1)).bind (fun p10 => f_X12_close_b111 N p10)))) else (f_X12_close_b111 N D)) else (f_X12_close_b111 N D)) else (f_X12_close_b111 N D))) else (f_X12_close_b111 N D))
set_option maxHeartbeats 4000000 in
theorem w_X12_close_b54 {X : Cx} {n nu c u : Nat} {K : Nat → Nat} {N : Nat} {z : Dat} (O : Ok X cX12_close RX12 none 5 106) (hm : wlm (xw X) = true) (hn : xn X = 2) (hz : Z0 X (Ax nu K c u)) (x1 : Int32) (D : Dat) (h : f_X12_close_b54 N x1 D = some z) : V X (Q0 X n (Ax nu K c u) none z) n (Ax nu K c u) D 54 [(0, .ref (bo X + pp 207)), (1, .int x1)] [] := by
  unfold f_X12_close_b54 at h
  refine v_aload_n (pc := 54) O dX12_close_54 0 rfl ?_
  refine v_getK (pc := 55) (a := 207) O hm gf_X12_45 fl_X12_87 kq_207 lk_207_45 dX12_close_55 ?_
  refine v_aload_n (pc := 58) O dX12_close_58 0 rfl ?_
  refine v_getI (pc := 59) (a := 207) O gf_X12_44 fl_X12_302 kq_207 dX12_close_59 ?_
  obtain ⟨c1, h⟩ := or_none h
  refine v_iald (pc := 62) (a := 231) O kq_231 (inq lq_231 c1) dX12_close_62 ?_
  refine v_iconst (pc := 63) O dX12_close_63 ic_2 ?_
  refine v_icmpne (pc := 64) 111 O dX12_close_64 (by decide) (fun c2 => ?_) (fun c2 => ?_)
  · have h := (if_neg c2).symm.trans h
    refine v_sub [] rfl ?_
    exact w_X12_close_b111 O hm hn hz D h
  · have h := (if_pos c2).symm.trans h
    refine v_aload_n (pc := 67) O dX12_close_67 0 rfl ?_
    refine v_getK (pc := 68) (a := 207) O hm gf_X12_20 fl_X12_42 kq_207 lk_207_20 dX12_close_68 ?_
    refine v_iload_n (pc := 71) O dX12_close_71 1 rfl ?_
    obtain ⟨c3, h⟩ := or_none h
    refine v_iald (pc := 72) (a := 216) O kq_216 (inq lq_216 c3) dX12_close_72 ?_
    refine v_iconst (pc := 73) O dX12_close_73 ic_3 ?_
    refine v_icmpne (pc := 74) 111 O dX12_close_74 (by decide) (fun c4 => ?_) (fun c4 => ?_)
    · have h := (if_neg c4).symm.trans h
      refine v_sub [] rfl ?_
      exact w_X12_close_b111 O hm hn hz D h
    · have h := (if_pos c4).symm.trans h
      refine v_aload_n (pc := 77) O dX12_close_77 0 rfl ?_
      refine v_getI (pc := 78) (a := 207) O gf_X12_37 fl_X12_229 kq_207 dX12_close_78 ?_
      refine v_bipush (pc := 81) O dX12_close_81 bp_107 ?_
      refine v_icmpne (pc := 83) 111 O dX12_close_83 (by decide) (fun c5 => ?_) (fun c5 => ?_)
      · have h := (if_neg c5).symm.trans h
        refine v_sub [] rfl ?_
        exact w_X12_close_b111 O hm hn hz D h
      · have h := (if_pos c5).symm.trans h
        refine v_aload_n (pc := 86) O dX12_close_86 0 rfl ?_
        refine v_getI (pc := 87) (a := 207) O gf_X12_38 fl_X12_235 kq_207 dX12_close_87 ?_
        refine v_iconst (pc := 90) O dX12_close_90 ic_5 ?_
        refine v_icmpne (pc := 91) 111 O dX12_close_91 (by decide) (fun c6 => ?_) (fun c6 => ?_)
        · have h := (if_neg c6).symm.trans h
          refine v_sub [] rfl ?_
          exact w_X12_close_b111 O hm hn hz D h
        · have h := (if_pos c6).symm.trans h
          refine v_aload_n (pc := 94) O dX12_close_94 0 rfl ?_
          obtain ⟨p7, e8, h⟩ := bind_some h
          refine v_callV (pc := 95) (a := 207) (As := []) (rest := []) (r := none) (D' := p7) O (bb0 hz) (c_X12_next hm e8) mw_X12_next im_X12_next se_X12_next ml_X12_256 kq_207 (by decide) rfl rfl rfl (by decide) (by decide) (Nat.le_of_ble_eq_true rfl) dX12_close_95 rfl rfl ?_
          refine v_aload_n (pc := 98) O dX12_close_98 0 rfl ?_
          refine v_getK (pc := 99) (a := 207) O hm gf_X12_23 fl_X12_51 kq_207 lk_207_23 dX12_close_99 ?_
          refine v_iload_n (pc := 102) O dX12_close_102 1 rfl ?_
          refine v_iconst (pc := 103) O dX12_close_103 ic_1 ?_
          obtain ⟨c9, h⟩ := or_none h
          refine v_iast (pc := 104) (a := 219) O kq_219 (inq lq_219 c9) dX12_close_104 ?_
          refine v_aload_n (pc := 105) O dX12_close_105 0 rfl ?_
          refine v_iconst (pc := 106) O dX12_close_106 ic_3 ?_
          refine v_iload_n (pc := 107) O dX12_close_107 1 rfl ?_
          obtain ⟨p10, e11, h⟩ := bind_some h
          refine v_callV (pc := 108) (a := 207) (As := [.int 3, .int x1]) (rest := []) (r := none) (D' := p10) O (bb0 hz) (c_X12_block hm e11) mw_X12_block im_X12_block se_X12_block ml_X12_326 kq_207 (by decide) rfl rfl rfl (by decide) (by decide) (Nat.le_of_ble_eq_true rfl) dX12_close_108 rfl rfl ?_
          refine v_sub [] rfl ?_
          exact w_X12_close_b111 O hm hn hz p10 h
def f_X12_close (N : Nat) (D : Dat) : Option (Dat) :=
  (f_X12_next N (sI (sI D 207 44 ((dI D 207 44) - (1 : Int32))) 207 41 ((dI (sI D 207 44 ((dI D 207 44) - (1 : Int32))) 207 41) - (1 : Int32)))).bind (fun p12 => if (dI p12 207 44) < 0 ∨ 10 ≤ ((dI p12 207 44)).toNatClampNeg then none else (if (dI p12 207 44) < 0 ∨ 10 ≤ ((dI p12 207 44)).toNatClampNeg then none else (if (dI p12 231 (dI p12 207 44).toNatClampNeg) = 1 then (if (dI p12 232 (dI p12 207 44).toNatClampNeg) < 0 ∨ 26 ≤ ((dI p12 232 (dI p12 207 44).toNatClampNeg)).toNatClampNeg then none else (f_X12_close_b54 N (dI p12 232 (dI p12 207 44).toNatClampNeg) (sI p12 229 (dI p12 232 (dI p12 207 44).toNatClampNeg).toNatClampNeg 5))) else (f_X12_close_b54 N (dI p12 232 (dI p12 207 44).toNatClampNeg) p12))))
set_option maxHeartbeats 4000000 in
theorem w_X12_close {X : Cx} {n nu c u : Nat} {K : Nat → Nat} {N : Nat} {z : Dat} (O : Ok X cX12_close RX12 none 5 106) (hm : wlm (xw X) = true) (hn : xn X = 2) (hz : Z0 X (Ax nu K c u)) (D : Dat) (h : f_X12_close N D = some z) : V X (Q0 X n (Ax nu K c u) none z) n (Ax nu K c u) D 0 [(0, .ref (bo X + pp 207))] [] := by
  unfold f_X12_close at h
  refine v_aload_n (pc := 0) O dX12_close_0 0 rfl ?_
  refine v_dup (pc := 1) O dX12_close_1 rfl ?_
  refine v_getI (pc := 2) (a := 207) O gf_X12_44 fl_X12_302 kq_207 dX12_close_2 ?_
  refine v_iconst (pc := 5) O dX12_close_5 ic_1 ?_
  refine v_isub (pc := 6) O dX12_close_6 ?_
  refine v_putI (pc := 7) (a := 207) O pf_X12_44 fl_X12_302 kq_207 dX12_close_7 ?_
  refine v_aload_n (pc := 10) O dX12_close_10 0 rfl ?_
  refine v_dup (pc := 11) O dX12_close_11 rfl ?_
  refine v_getI (pc := 12) (a := 207) O gf_X12_41 fl_X12_262 kq_207 dX12_close_12 ?_
  refine v_iconst (pc := 15) O dX12_close_15 ic_1 ?_
  refine v_isub (pc := 16) O dX12_close_16 ?_
  refine v_putI (pc := 17) (a := 207) O pf_X12_41 fl_X12_262 kq_207 dX12_close_17 ?_
  refine v_aload_n (pc := 20) O dX12_close_20 0 rfl ?_
  obtain ⟨p12, e13, h⟩ := bind_some h
  refine v_callV (pc := 21) (a := 207) (As := []) (rest := []) (r := none) (D' := p12) O (bb0 hz) (c_X12_next hm e13) mw_X12_next im_X12_next se_X12_next ml_X12_256 kq_207 (by decide) rfl rfl rfl (by decide) (by decide) (Nat.le_of_ble_eq_true rfl) dX12_close_21 rfl rfl ?_
  refine v_aload_n (pc := 24) O dX12_close_24 0 rfl ?_
  refine v_getK (pc := 25) (a := 207) O hm gf_X12_46 fl_X12_90 kq_207 lk_207_46 dX12_close_25 ?_
  refine v_aload_n (pc := 28) O dX12_close_28 0 rfl ?_
  refine v_getI (pc := 29) (a := 207) O gf_X12_44 fl_X12_302 kq_207 dX12_close_29 ?_
  obtain ⟨c14, h⟩ := or_none h
  refine v_iald (pc := 32) (a := 232) O kq_232 (inq lq_232 c14) dX12_close_32 ?_
  refine v_istore_n (pc := 33) (lv' := [(1, .int (dI p12 232 (dI p12 207 44).toNatClampNeg)), (0, .ref (bo X + pp 207))]) O dX12_close_33 rfl (by rw [hn]; decide) rfl ?_
  refine v_aload_n (pc := 34) O dX12_close_34 1 rfl ?_
  refine v_getK (pc := 35) (a := 207) O hm gf_X12_45 fl_X12_87 kq_207 lk_207_45 dX12_close_35 ?_
  refine v_aload_n (pc := 38) O dX12_close_38 1 rfl ?_
  refine v_getI (pc := 39) (a := 207) O gf_X12_44 fl_X12_302 kq_207 dX12_close_39 ?_
  obtain ⟨c15, h⟩ := or_none h
  refine v_iald (pc := 42) (a := 231) O kq_231 (inq lq_231 c15) dX12_close_42 ?_
  refine v_iconst (pc := 43) O dX12_close_43 ic_1 ?_
  refine v_icmpne (pc := 44) 54 O dX12_close_44 (by decide) (fun c16 => ?_) (fun c16 => ?_)
  · have h := (if_neg c16).symm.trans h
    refine v_sub [1, 0] rfl ?_
    exact w_X12_close_b54 O hm hn hz (dI p12 232 (dI p12 207 44).toNatClampNeg) p12 h
  · have h := (if_pos c16).symm.trans h
    refine v_aload_n (pc := 47) O dX12_close_47 1 rfl ?_
    refine v_getK (pc := 48) (a := 207) O hm gf_X12_42 fl_X12_81 kq_207 lk_207_42 dX12_close_48 ?_
    refine v_iload_n (pc := 51) O dX12_close_51 0 rfl ?_
    refine v_iconst (pc := 52) O dX12_close_52 ic_5 ?_
    obtain ⟨c17, h⟩ := or_none h
    refine v_iast (pc := 53) (a := 229) O kq_229 (inq lq_229 c17) dX12_close_53 ?_
    refine v_sub [1, 0] rfl ?_
    exact w_X12_close_b54 O hm hn hz (dI p12 232 (dI p12 207 44).toNatClampNeg) (sI p12 229 (dI p12 232 (dI p12 207 44).toNatClampNeg).toNatClampNeg 5) h
theorem c_X12_close {l : Launch} {w : Wx} {n nu c u : Nat} {K : Nat → Nat} {N : Nat} (hm : wlm w = true) {D : Dat} {z : Dat} (h : f_X12_close N D = some z) : C0 l w yX12_close cX12_close 2 none 5 106 [.ref (wb w + pp 207)] n (Ax nu K c u) D none z :=
  C0.of (by decide) (Nat.le_of_ble_eq_true rfl) (fun X e1 e2 e3 hz O => by
  subst e1
  subst e2
  exact w_X12_close O hm e3 hz  D h)
def f_X12_declare_b30 (N : Nat) (D : Dat) : Option (Dat) :=
  (f_X12_wrong D).bind (fun p1 => some p1)
set_option maxHeartbeats 4000000 in
theorem w_X12_declare_b30 {X : Cx} {n nu c u : Nat} {K : Nat → Nat} {N : Nat} {z : Dat} (O : Ok X cX12_declare RX12 none 5 106) (hm : wlm (xw X) = true) (hn : xn X = 3) (hz : Z0 X (Ax nu K c u)) (D : Dat) (h : f_X12_declare_b30 N D = some z) : V X (Q0 X n (Ax nu K c u) none z) n (Ax nu K c u) D 30 [(0, .ref (bo X + pp 207))] [] := by
  unfold f_X12_declare_b30 at h
  refine v_aload_n (pc := 30) O dX12_declare_30 0 rfl ?_
  obtain ⟨p1, e2, h⟩ := bind_some h
  refine v_callV (pc := 31) (a := 207) (As := []) (rest := []) (r := none) (D' := p1) O (bb0 hz) (c_X12_wrong hm e2) mw_X12_wrong im_X12_wrong se_X12_wrong ml_X12_259 kq_207 (by decide) rfl rfl rfl (by decide) (by decide) (Nat.le_of_ble_eq_true rfl) dX12_declare_31 rfl rfl ?_
  obtain rfl := Option.some.inj h
  exact v_ret (pc := 34) O hz dX12_declare_34
def f_X12_declare (N : Nat) (D : Dat) : Option (Dat) :=
  (f_X12_next N D).bind (fun p3 => if (dI p3 207 37) = 110 then (if (dI p3 207 38) < 0 ∨ 26 ≤ ((dI p3 207 38)).toNatClampNeg then none else (if (dI p3 229 (dI p3 207 38).toNatClampNeg) = 0 then (if (dI p3 207 38) < 0 ∨ 26 ≤ ((dI p3 207 38)).toNatClampNeg then none else ((f_X12_next N (sI p3 229 (dI p3 207 38).toNatClampNeg ((dI D 207 38) + (1 : Int32)))).bind (fun p9 => if (dI D 207 38) = 3 then (if (((26 : Int32) * (dI p9 207 35)) + (dI p3 207 38)) < 0 ∨ 52 ≤ ((((26 : Int32) * (dI p9 207 35)) + (dI p3 207 38))).toNatClampNeg then none else ((f_X12_block N 1 (dI p3 207 38) (sI p9 227 (((26 : Int32) * (dI p9 207 35)) + (dI p3 207 38)).toNatClampNeg (-1))).bind (fun p20 => some p20))) else ((f_X12_expect N 58 p9).bind (fun p12 => (f_X12_labelToken N p12).bind (fun p14 => if (dI p3 207 38) < 0 ∨ 26 ≤ ((dI p3 207 38)).toNatClampNeg then none else ((f_X12_expect N 59 (sI p14.2 230 (dI p3 207 38).toNatClampNeg p14.1)).bind (fun p17 => some p17)))))))) else (f_X12_declare_b30 N p3))) else (f_X12_declare_b30 N p3))
set_option maxHeartbeats 4000000 in
theorem w_X12_declare {X : Cx} {n nu c u : Nat} {K : Nat → Nat} {N : Nat} {z : Dat} (O : Ok X cX12_declare RX12 none 5 106) (hm : wlm (xw X) = true) (hn : xn X = 3) (hz : Z0 X (Ax nu K c u)) (D : Dat) (h : f_X12_declare N D = some z) : V X (Q0 X n (Ax nu K c u) none z) n (Ax nu K c u) D 0 [(0, .ref (bo X + pp 207))] [] := by
  unfold f_X12_declare at h
  refine v_aload_n (pc := 0) O dX12_declare_0 0 rfl ?_
  refine v_getI (pc := 1) (a := 207) O gf_X12_38 fl_X12_235 kq_207 dX12_declare_1 ?_
  refine v_istore_n (pc := 4) (lv' := [(1, .int (dI D 207 38)), (0, .ref (bo X + pp 207))]) O dX12_declare_4 rfl (by rw [hn]; decide) rfl ?_
  refine v_aload_n (pc := 5) O dX12_declare_5 1 rfl ?_
  obtain ⟨p3, e4, h⟩ := bind_some h
  refine v_callV (pc := 6) (a := 207) (As := []) (rest := []) (r := none) (D' := p3) O (bb0 hz) (c_X12_next hm e4) mw_X12_next im_X12_next se_X12_next ml_X12_256 kq_207 (by decide) rfl rfl rfl (by decide) (by decide) (Nat.le_of_ble_eq_true rfl) dX12_declare_6 rfl rfl ?_
  refine v_aload_n (pc := 9) O dX12_declare_9 1 rfl ?_
  refine v_getI (pc := 10) (a := 207) O gf_X12_37 fl_X12_229 kq_207 dX12_declare_10 ?_
  refine v_bipush (pc := 13) O dX12_declare_13 bp_110 ?_
  refine v_icmpne (pc := 15) 30 O dX12_declare_15 (by decide) (fun c5 => ?_) (fun c5 => ?_)
  · have h := (if_neg c5).symm.trans h
    refine v_sub [1] rfl ?_
    exact w_X12_declare_b30 O hm hn hz p3 h
  · have h := (if_pos c5).symm.trans h
    refine v_aload_n (pc := 18) O dX12_declare_18 1 rfl ?_
    refine v_getK (pc := 19) (a := 207) O hm gf_X12_42 fl_X12_81 kq_207 lk_207_42 dX12_declare_19 ?_
    refine v_aload_n (pc := 22) O dX12_declare_22 1 rfl ?_
    refine v_getI (pc := 23) (a := 207) O gf_X12_38 fl_X12_235 kq_207 dX12_declare_23 ?_
    obtain ⟨c6, h⟩ := or_none h
    refine v_iald (pc := 26) (a := 229) O kq_229 (inq lq_229 c6) dX12_declare_26 ?_
    refine v_ifeq (pc := 27) 35 O dX12_declare_27 (by decide) (fun c7 => ?_) (fun c7 => ?_)
    · have h := (if_pos c7).symm.trans h
      refine v_aload_n (pc := 35) O dX12_declare_35 1 rfl ?_
      refine v_getI (pc := 36) (a := 207) O gf_X12_38 fl_X12_235 kq_207 dX12_declare_36 ?_
      refine v_istore_n (pc := 39) (lv' := [(2, .int (dI p3 207 38)), (1, .int (dI D 207 38)), (0, .ref (bo X + pp 207))]) O dX12_declare_39 rfl (by rw [hn]; decide) rfl ?_
      refine v_aload_n (pc := 40) O dX12_declare_40 2 rfl ?_
      refine v_getK (pc := 41) (a := 207) O hm gf_X12_42 fl_X12_81 kq_207 lk_207_42 dX12_declare_41 ?_
      refine v_iload_n (pc := 44) O dX12_declare_44 0 rfl ?_
      refine v_iload_n (pc := 45) O dX12_declare_45 1 rfl ?_
      refine v_iconst (pc := 46) O dX12_declare_46 ic_1 ?_
      refine v_iadd (pc := 47) O dX12_declare_47 ?_
      obtain ⟨c8, h⟩ := or_none h
      refine v_iast (pc := 48) (a := 229) O kq_229 (inq lq_229 c8) dX12_declare_48 ?_
      refine v_aload_n (pc := 49) O dX12_declare_49 2 rfl ?_
      obtain ⟨p9, e10, h⟩ := bind_some h
      refine v_callV (pc := 50) (a := 207) (As := []) (rest := []) (r := none) (D' := p9) O (bb0 hz) (c_X12_next hm e10) mw_X12_next im_X12_next se_X12_next ml_X12_256 kq_207 (by decide) rfl rfl rfl (by decide) (by decide) (Nat.le_of_ble_eq_true rfl) dX12_declare_50 rfl rfl ?_
      refine v_iload_n (pc := 53) O dX12_declare_53 1 rfl ?_
      refine v_iconst (pc := 54) O dX12_declare_54 ic_3 ?_
      refine v_icmpne (pc := 55) 80 O dX12_declare_55 (by decide) (fun c11 => ?_) (fun c11 => ?_)
      · have h := (if_neg c11).symm.trans h
        refine v_aload_n (pc := 80) O dX12_declare_80 2 rfl ?_
        refine v_bipush (pc := 81) O dX12_declare_81 bp_58 ?_
        obtain ⟨p12, e13, h⟩ := bind_some h
        refine v_callV (pc := 83) (a := 207) (As := [.int 58]) (rest := []) (r := none) (D' := p12) O (bb0 hz) (c_X12_expect hm e13) mw_X12_expect im_X12_expect se_X12_expect ml_X12_314 kq_207 (by decide) rfl rfl rfl (by decide) (by decide) (Nat.le_of_ble_eq_true rfl) dX12_declare_83 rfl rfl ?_
        refine v_aload_n (pc := 86) O dX12_declare_86 2 rfl ?_
        refine v_getK (pc := 87) (a := 207) O hm gf_X12_43 fl_X12_84 kq_207 lk_207_43 dX12_declare_87 ?_
        refine v_iload_n (pc := 90) O dX12_declare_90 0 rfl ?_
        refine v_aload_n (pc := 91) O dX12_declare_91 2 rfl ?_
        obtain ⟨p14, e15, h⟩ := bind_some h
        refine v_callV (pc := 92) (a := 207) (As := []) (rest := [.int (dI p3 207 38), .ref (bo X + pp 230)]) (r := (some (.int p14.1))) (D' := p14.2) O (bb0 hz) (c_X12_labelToken hm e15) mw_X12_labelToken im_X12_labelToken se_X12_labelToken ml_X12_317 kq_207 (by decide) rfl rfl rfl (by decide) (by decide) (Nat.le_of_ble_eq_true rfl) dX12_declare_92 rfl rfl ?_
        obtain ⟨c16, h⟩ := or_none h
        refine v_iast (pc := 95) (a := 230) O kq_230 (inq lq_230 c16) dX12_declare_95 ?_
        refine v_aload_n (pc := 96) O dX12_declare_96 2 rfl ?_
        refine v_bipush (pc := 97) O dX12_declare_97 bp_59 ?_
        obtain ⟨p17, e18, h⟩ := bind_some h
        refine v_callV (pc := 99) (a := 207) (As := [.int 59]) (rest := []) (r := none) (D' := p17) O (bb0 hz) (c_X12_expect hm e18) mw_X12_expect im_X12_expect se_X12_expect ml_X12_314 kq_207 (by decide) rfl rfl rfl (by decide) (by decide) (Nat.le_of_ble_eq_true rfl) dX12_declare_99 rfl rfl ?_
        obtain rfl := Option.some.inj h
        exact v_ret (pc := 102) O hz dX12_declare_102
      · have h := (if_pos c11).symm.trans h
        refine v_aload_n (pc := 58) O dX12_declare_58 2 rfl ?_
        refine v_getK (pc := 59) (a := 207) O hm gf_X12_31 fl_X12_75 kq_207 lk_207_31 dX12_declare_59 ?_
        refine v_bipush (pc := 62) O dX12_declare_62 bp_26 ?_
        refine v_aload_n (pc := 64) O dX12_declare_64 2 rfl ?_
        refine v_getI (pc := 65) (a := 207) O gf_X12_35 fl_X12_308 kq_207 dX12_declare_65 ?_
        refine v_imul (pc := 68) O dX12_declare_68 ?_
        refine v_iload_n (pc := 69) O dX12_declare_69 0 rfl ?_
        refine v_iadd (pc := 70) O dX12_declare_70 ?_
        refine v_iconst (pc := 71) O dX12_declare_71 ic_m1 ?_
        obtain ⟨c19, h⟩ := or_none h
        refine v_iast (pc := 72) (a := 227) O kq_227 (inq lq_227 c19) dX12_declare_72 ?_
        refine v_aload_n (pc := 73) O dX12_declare_73 2 rfl ?_
        refine v_iconst (pc := 74) O dX12_declare_74 ic_1 ?_
        refine v_iload_n (pc := 75) O dX12_declare_75 0 rfl ?_
        obtain ⟨p20, e21, h⟩ := bind_some h
        refine v_callV (pc := 76) (a := 207) (As := [.int 1, .int (dI p3 207 38)]) (rest := []) (r := none) (D' := p20) O (bb0 hz) (c_X12_block hm e21) mw_X12_block im_X12_block se_X12_block ml_X12_326 kq_207 (by decide) rfl rfl rfl (by decide) (by decide) (Nat.le_of_ble_eq_true rfl) dX12_declare_76 rfl rfl ?_
        obtain rfl := Option.some.inj h
        exact v_ret (pc := 79) O hz dX12_declare_79
    · have h := (if_neg c7).symm.trans h
      refine v_sub [1] rfl ?_
      exact w_X12_declare_b30 O hm hn hz p3 h
theorem c_X12_declare {l : Launch} {w : Wx} {n nu c u : Nat} {K : Nat → Nat} {N : Nat} (hm : wlm w = true) {D : Dat} {z : Dat} (h : f_X12_declare N D = some z) : C0 l w yX12_declare cX12_declare 3 none 5 106 [.ref (wb w + pp 207)] n (Ax nu K c u) D none z :=
  C0.of (by decide) (Nat.le_of_ble_eq_true rfl) (fun X e1 e2 e3 hz O => by
  subst e1
  subst e2
  exact w_X12_declare O hm e3 hz  D h)
def f_X12_parse_b225 (N : Nat) (D : Dat) : Option (Dat) :=
  some D
set_option maxHeartbeats 4000000 in
theorem w_X12_parse_b225 {X : Cx} {n nu c u : Nat} {K : Nat → Nat} {N : Nat} {z : Dat} (O : Ok X cX12_parse RX12 none 9 194) (hm : wlm (xw X) = true) (hn : xn X = 2) (hz : Z0 X (Ax nu K c u)) (D : Dat) (h : f_X12_parse_b225 N D = some z) : V X (Q0 X n (Ax nu K c u) none z) n (Ax nu K c u) D 225 [] [] := by
  unfold f_X12_parse_b225 at h
  obtain rfl := Option.some.inj h
  exact v_ret (pc := 225) O hz dX12_parse_225
def f_X12_parse_b218 (N : Nat) (rec_118 : Int32 → Dat → Option (Dat)) (x1 : Int32) (D : Dat) : Option (Dat) :=
  (f_X12_statement N D).bind (fun p1 => rec_118 x1 p1)
set_option maxHeartbeats 4000000 in
theorem w_X12_parse_b218 {X : Cx} {n nu c u : Nat} {K : Nat → Nat} {N : Nat} {rec_118 : Int32 → Dat → Option (Dat)} {z : Dat} (O : Ok X cX12_parse RX12 none 9 194) (hm : wlm (xw X) = true) (hn : xn X = 2) (hz : Z0 X (Ax nu K c u)) (hrec_118 : ∀ (x1 : Int32) (D : Dat), rec_118 x1 D = some z → V X (Q0 X n (Ax nu K c u) none z) n (Ax nu K c u) D 118 [(0, .ref (bo X + pp 207)), (1, .int x1)] []) (x1 : Int32) (D : Dat) (h : f_X12_parse_b218 N rec_118 x1 D = some z) : V X (Q0 X n (Ax nu K c u) none z) n (Ax nu K c u) D 218 [(0, .ref (bo X + pp 207)), (1, .int x1)] [] := by
  unfold f_X12_parse_b218 at h
  refine v_aload_n (pc := 218) O dX12_parse_218 0 rfl ?_
  obtain ⟨p1, e2, h⟩ := bind_some h
  refine v_callV (pc := 219) (a := 207) (As := []) (rest := []) (r := none) (D' := p1) O (bb0 hz) (c_X12_statement hm e2) mw_X12_statement im_X12_statement se_X12_statement ml_X12_344 kq_207 (by decide) rfl rfl rfl (by decide) (by decide) (Nat.le_of_ble_eq_true rfl) dX12_parse_219 rfl rfl ?_
  refine v_goto (pc := 222) 118 O dX12_parse_222 (by decide) ?_
  refine v_sub [0, 1] rfl ?_
  exact hrec_118 x1 p1 h
def f_X12_parse_b208 (N : Nat) (rec_118 : Int32 → Dat → Option (Dat)) (x1 : Int32) (D : Dat) : Option (Dat) :=
  if (dI D 207 44) = 1 then (f_X12_parse_b218 N rec_118 1 D) else (f_X12_parse_b218 N rec_118 x1 D)
set_option maxHeartbeats 4000000 in
theorem w_X12_parse_b208 {X : Cx} {n nu c u : Nat} {K : Nat → Nat} {N : Nat} {rec_118 : Int32 → Dat → Option (Dat)} {z : Dat} (O : Ok X cX12_parse RX12 none 9 194) (hm : wlm (xw X) = true) (hn : xn X = 2) (hz : Z0 X (Ax nu K c u)) (hrec_118 : ∀ (x1 : Int32) (D : Dat), rec_118 x1 D = some z → V X (Q0 X n (Ax nu K c u) none z) n (Ax nu K c u) D 118 [(0, .ref (bo X + pp 207)), (1, .int x1)] []) (x1 : Int32) (D : Dat) (h : f_X12_parse_b208 N rec_118 x1 D = some z) : V X (Q0 X n (Ax nu K c u) none z) n (Ax nu K c u) D 208 [(0, .ref (bo X + pp 207)), (1, .int x1)] [] := by
  unfold f_X12_parse_b208 at h
  refine v_aload_n (pc := 208) O dX12_parse_208 0 rfl ?_
  refine v_getI (pc := 209) (a := 207) O gf_X12_44 fl_X12_302 kq_207 dX12_parse_209 ?_
  refine v_iconst (pc := 212) O dX12_parse_212 ic_1 ?_
  refine v_icmpne (pc := 213) 218 O dX12_parse_213 (by decide) (fun c3 => ?_) (fun c3 => ?_)
  · have h := (if_neg c3).symm.trans h
    refine v_sub [0, 1] rfl ?_
    exact w_X12_parse_b218 O hm hn hz hrec_118 x1 D h
  · have h := (if_pos c3).symm.trans h
    refine v_iconst (pc := 216) O dX12_parse_216 ic_1 ?_
    refine v_istore_n (pc := 217) (lv' := [(1, .int 1), (0, .ref (bo X + pp 207))]) O dX12_parse_217 rfl (by rw [hn]; decide) rfl ?_
    refine v_sub [1, 0] rfl ?_
    exact w_X12_parse_b218 O hm hn hz hrec_118 1 D h
def f_X12_parse_b164 (N : Nat) (rec_118 : Int32 → Dat → Option (Dat)) (x1 : Int32) (D : Dat) : Option (Dat) :=
  if (dI D 207 44) = 1 then (if x1 = 0 then (if (dI D 207 37) = 107 then (if (dI D 207 38) < 1 then (f_X12_parse_b208 N rec_118 x1 D) else (if 3 < (dI D 207 38) then (f_X12_parse_b208 N rec_118 x1 D) else ((f_X12_declare N D).bind (fun p9 => rec_118 x1 p9)))) else (f_X12_parse_b208 N rec_118 x1 D)) else (f_X12_parse_b208 N rec_118 x1 D)) else (f_X12_parse_b208 N rec_118 x1 D)
set_option maxHeartbeats 4000000 in
theorem w_X12_parse_b164 {X : Cx} {n nu c u : Nat} {K : Nat → Nat} {N : Nat} {rec_118 : Int32 → Dat → Option (Dat)} {z : Dat} (O : Ok X cX12_parse RX12 none 9 194) (hm : wlm (xw X) = true) (hn : xn X = 2) (hz : Z0 X (Ax nu K c u)) (hrec_118 : ∀ (x1 : Int32) (D : Dat), rec_118 x1 D = some z → V X (Q0 X n (Ax nu K c u) none z) n (Ax nu K c u) D 118 [(0, .ref (bo X + pp 207)), (1, .int x1)] []) (x1 : Int32) (D : Dat) (h : f_X12_parse_b164 N rec_118 x1 D = some z) : V X (Q0 X n (Ax nu K c u) none z) n (Ax nu K c u) D 164 [(0, .ref (bo X + pp 207)), (1, .int x1)] [] := by
  unfold f_X12_parse_b164 at h
  refine v_aload_n (pc := 164) O dX12_parse_164 0 rfl ?_
  refine v_getI (pc := 165) (a := 207) O gf_X12_44 fl_X12_302 kq_207 dX12_parse_165 ?_
  refine v_iconst (pc := 168) O dX12_parse_168 ic_1 ?_
  refine v_icmpne (pc := 169) 208 O dX12_parse_169 (by decide) (fun c4 => ?_) (fun c4 => ?_)
  · have h := (if_neg c4).symm.trans h
    refine v_sub [0, 1] rfl ?_
    exact w_X12_parse_b208 O hm hn hz hrec_118 x1 D h
  · have h := (if_pos c4).symm.trans h
    refine v_iload_n (pc := 172) O dX12_parse_172 1 rfl ?_
    refine v_ifne (pc := 173) 208 O dX12_parse_173 (by decide) (fun c5 => ?_) (fun c5 => ?_)
    · have h := (if_neg c5).symm.trans h
      refine v_sub [0, 1] rfl ?_
      exact w_X12_parse_b208 O hm hn hz hrec_118 x1 D h
    · have h := (if_pos c5).symm.trans h
      refine v_aload_n (pc := 176) O dX12_parse_176 0 rfl ?_
      refine v_getI (pc := 177) (a := 207) O gf_X12_37 fl_X12_229 kq_207 dX12_parse_177 ?_
      refine v_bipush (pc := 180) O dX12_parse_180 bp_107 ?_
      refine v_icmpne (pc := 182) 208 O dX12_parse_182 (by decide) (fun c6 => ?_) (fun c6 => ?_)
      · have h := (if_neg c6).symm.trans h
        refine v_sub [0, 1] rfl ?_
        exact w_X12_parse_b208 O hm hn hz hrec_118 x1 D h
      · have h := (if_pos c6).symm.trans h
        refine v_aload_n (pc := 185) O dX12_parse_185 0 rfl ?_
        refine v_getI (pc := 186) (a := 207) O gf_X12_38 fl_X12_235 kq_207 dX12_parse_186 ?_
        refine v_iconst (pc := 189) O dX12_parse_189 ic_1 ?_
        refine v_icmplt (pc := 190) 208 O dX12_parse_190 (by decide) (fun c7 => ?_) (fun c7 => ?_)
        · have h := (if_pos c7).symm.trans h
          refine v_sub [0, 1] rfl ?_
          exact w_X12_parse_b208 O hm hn hz hrec_118 x1 D h
        · have h := (if_neg c7).symm.trans h
          refine v_aload_n (pc := 193) O dX12_parse_193 0 rfl ?_
          refine v_getI (pc := 194) (a := 207) O gf_X12_38 fl_X12_235 kq_207 dX12_parse_194 ?_
          refine v_iconst (pc := 197) O dX12_parse_197 ic_3 ?_
          refine v_icmpgt (pc := 198) 208 O dX12_parse_198 (by decide) (fun c8 => ?_) (fun c8 => ?_)
          · have h := (if_pos c8).symm.trans h
            refine v_sub [0, 1] rfl ?_
            exact w_X12_parse_b208 O hm hn hz hrec_118 x1 D h
          · have h := (if_neg c8).symm.trans h
            refine v_aload_n (pc := 201) O dX12_parse_201 0 rfl ?_
            obtain ⟨p9, e10, h⟩ := bind_some h
            refine v_callV (pc := 202) (a := 207) (As := []) (rest := []) (r := none) (D' := p9) O (bb0 hz) (c_X12_declare hm e10) mw_X12_declare im_X12_declare se_X12_declare ml_X12_341 kq_207 (by decide) rfl rfl rfl (by decide) (by decide) (Nat.le_of_ble_eq_true rfl) dX12_parse_202 rfl rfl ?_
            refine v_goto (pc := 205) 118 O dX12_parse_205 (by decide) ?_
            refine v_sub [0, 1] rfl ?_
            exact hrec_118 x1 p9 h
def f_X12_parse_b140 (N : Nat) (rec_118 : Int32 → Dat → Option (Dat)) (x1 : Int32) (D : Dat) : Option (Dat) :=
  if (dI D 207 44) ≤ 1 then (f_X12_parse_b164 N rec_118 x1 D) else (if (dI D 207 37) = 125 then ((f_X12_close N D).bind (fun p13 => rec_118 x1 p13)) else (f_X12_parse_b164 N rec_118 x1 D))
set_option maxHeartbeats 4000000 in
theorem w_X12_parse_b140 {X : Cx} {n nu c u : Nat} {K : Nat → Nat} {N : Nat} {rec_118 : Int32 → Dat → Option (Dat)} {z : Dat} (O : Ok X cX12_parse RX12 none 9 194) (hm : wlm (xw X) = true) (hn : xn X = 2) (hz : Z0 X (Ax nu K c u)) (hrec_118 : ∀ (x1 : Int32) (D : Dat), rec_118 x1 D = some z → V X (Q0 X n (Ax nu K c u) none z) n (Ax nu K c u) D 118 [(0, .ref (bo X + pp 207)), (1, .int x1)] []) (x1 : Int32) (D : Dat) (h : f_X12_parse_b140 N rec_118 x1 D = some z) : V X (Q0 X n (Ax nu K c u) none z) n (Ax nu K c u) D 140 [(0, .ref (bo X + pp 207)), (1, .int x1)] [] := by
  unfold f_X12_parse_b140 at h
  refine v_aload_n (pc := 140) O dX12_parse_140 0 rfl ?_
  refine v_getI (pc := 141) (a := 207) O gf_X12_44 fl_X12_302 kq_207 dX12_parse_141 ?_
  refine v_iconst (pc := 144) O dX12_parse_144 ic_1 ?_
  refine v_icmple (pc := 145) 164 O dX12_parse_145 (by decide) (fun c11 => ?_) (fun c11 => ?_)
  · have h := (if_pos c11).symm.trans h
    refine v_sub [0, 1] rfl ?_
    exact w_X12_parse_b164 O hm hn hz hrec_118 x1 D h
  · have h := (if_neg c11).symm.trans h
    refine v_aload_n (pc := 148) O dX12_parse_148 0 rfl ?_
    refine v_getI (pc := 149) (a := 207) O gf_X12_37 fl_X12_229 kq_207 dX12_parse_149 ?_
    refine v_bipush (pc := 152) O dX12_parse_152 bp_125 ?_
    refine v_icmpne (pc := 154) 164 O dX12_parse_154 (by decide) (fun c12 => ?_) (fun c12 => ?_)
    · have h := (if_neg c12).symm.trans h
      refine v_sub [0, 1] rfl ?_
      exact w_X12_parse_b164 O hm hn hz hrec_118 x1 D h
    · have h := (if_pos c12).symm.trans h
      refine v_aload_n (pc := 157) O dX12_parse_157 0 rfl ?_
      obtain ⟨p13, e14, h⟩ := bind_some h
      refine v_callV (pc := 158) (a := 207) (As := []) (rest := []) (r := none) (D' := p13) O (bb0 hz) (c_X12_close hm e14) mw_X12_close im_X12_close se_X12_close ml_X12_338 kq_207 (by decide) rfl rfl rfl (by decide) (by decide) (Nat.le_of_ble_eq_true rfl) dX12_parse_158 rfl rfl ?_
      refine v_goto (pc := 161) 118 O dX12_parse_161 (by decide) ?_
      refine v_sub [0, 1] rfl ?_
      exact hrec_118 x1 p13 h
def f_X12_parse_b118 (N : Nat) : Nat → Int32 → Dat → Option (Dat)
  | 0, _, _ => none
  | g + 1, x1, D => if 0 ≤ (dI D 207 40) then (f_X12_parse_b225 N D) else (if 1 < (dI D 207 44) then (f_X12_parse_b140 N (f_X12_parse_b118 N g) x1 D) else (if (dI D 207 37) = 0 then (f_X12_parse_b225 N D) else (f_X12_parse_b140 N (f_X12_parse_b118 N g) x1 D)))
set_option maxHeartbeats 4000000 in
theorem w_X12_parse_b118 {X : Cx} {n nu c u : Nat} {K : Nat → Nat} {N : Nat} {z : Dat} (O : Ok X cX12_parse RX12 none 9 194) (hm : wlm (xw X) = true) (hn : xn X = 2) (hz : Z0 X (Ax nu K c u)) : ∀ (g : Nat) (x1 : Int32) (D : Dat), f_X12_parse_b118 N g x1 D = some z → V X (Q0 X n (Ax nu K c u) none z) n (Ax nu K c u) D 118 [(0, .ref (bo X + pp 207)), (1, .int x1)] [] := by
  intro g
  induction g with
  | zero => intro x1 D h; exact absurd h (by simp [f_X12_parse_b118])
  | succ g ih =>
    intro x1 D h
    rw [f_X12_parse_b118] at h
    refine v_aload_n (pc := 118) O dX12_parse_118 0 rfl ?_
    refine v_getI (pc := 119) (a := 207) O gf_X12_40 fl_X12_253 kq_207 dX12_parse_119 ?_
    refine v_ifge (pc := 122) 225 O dX12_parse_122 (by decide) (fun c15 => ?_) (fun c15 => ?_)
    · have h := (if_pos c15).symm.trans h
      refine v_sub [] rfl ?_
      exact w_X12_parse_b225 O hm hn hz D h
    · have h := (if_neg c15).symm.trans h
      refine v_aload_n (pc := 125) O dX12_parse_125 0 rfl ?_
      refine v_getI (pc := 126) (a := 207) O gf_X12_44 fl_X12_302 kq_207 dX12_parse_126 ?_
      refine v_iconst (pc := 129) O dX12_parse_129 ic_1 ?_
      refine v_icmpgt (pc := 130) 140 O dX12_parse_130 (by decide) (fun c16 => ?_) (fun c16 => ?_)
      · have h := (if_pos c16).symm.trans h
        refine v_sub [0, 1] rfl ?_
        exact w_X12_parse_b140 O hm hn hz ih x1 D h
      · have h := (if_neg c16).symm.trans h
        refine v_aload_n (pc := 133) O dX12_parse_133 0 rfl ?_
        refine v_getI (pc := 134) (a := 207) O gf_X12_37 fl_X12_229 kq_207 dX12_parse_134 ?_
        refine v_ifeq (pc := 137) 225 O dX12_parse_137 (by decide) (fun c17 => ?_) (fun c17 => ?_)
        · have h := (if_pos c17).symm.trans h
          refine v_sub [] rfl ?_
          exact w_X12_parse_b225 O hm hn hz D h
        · have h := (if_neg c17).symm.trans h
          refine v_sub [0, 1] rfl ?_
          exact w_X12_parse_b140 O hm hn hz ih x1 D h
def f_X12_parse_b74 (N : Nat) : Nat → Int32 → Dat → Option (Dat)
  | 0, _, _ => none
  | g + 1, x1, D => if 26 ≤ x1 then ((f_X12_next N (sI (sI (sI D 207 44 1) 231 (0 : Int32).toNatClampNeg 0) 233 (0 : Int32).toNatClampNeg (-1))).bind (fun p19 => f_X12_parse_b118 N N 0 p19)) else (if x1 < 0 ∨ 26 ≤ (x1).toNatClampNeg then none else ((f_X12_parse_b74 N g) (x1 + 1) (sI D 229 (x1).toNatClampNeg 0)))
set_option maxHeartbeats 4000000 in
theorem w_X12_parse_b74 {X : Cx} {n nu c u : Nat} {K : Nat → Nat} {N : Nat} {z : Dat} (O : Ok X cX12_parse RX12 none 9 194) (hm : wlm (xw X) = true) (hn : xn X = 2) (hz : Z0 X (Ax nu K c u)) : ∀ (g : Nat) (x1 : Int32) (D : Dat), f_X12_parse_b74 N g x1 D = some z → V X (Q0 X n (Ax nu K c u) none z) n (Ax nu K c u) D 74 [(0, .ref (bo X + pp 207)), (1, .int x1)] [] := by
  intro g
  induction g with
  | zero => intro x1 D h; exact absurd h (by simp [f_X12_parse_b74])
  | succ g ih =>
    intro x1 D h
    rw [f_X12_parse_b74] at h
    refine v_iload_n (pc := 74) O dX12_parse_74 1 rfl ?_
    refine v_bipush (pc := 75) O dX12_parse_75 bp_26 ?_
    refine v_icmpge (pc := 77) 93 O dX12_parse_77 (by decide) (fun c18 => ?_) (fun c18 => ?_)
    · have h := (if_pos c18).symm.trans h
      refine v_aload_n (pc := 93) O dX12_parse_93 0 rfl ?_
      refine v_iconst (pc := 94) O dX12_parse_94 ic_1 ?_
      refine v_putI (pc := 95) (a := 207) O pf_X12_44 fl_X12_302 kq_207 dX12_parse_95 ?_
      refine v_aload_n (pc := 98) O dX12_parse_98 0 rfl ?_
      refine v_getK (pc := 99) (a := 207) O hm gf_X12_45 fl_X12_87 kq_207 lk_207_45 dX12_parse_99 ?_
      refine v_iconst (pc := 102) O dX12_parse_102 ic_0 ?_
      refine v_iconst (pc := 103) O dX12_parse_103 ic_0 ?_
      refine v_iast (pc := 104) (a := 231) O kq_231 (inq lq_231 (by decide)) dX12_parse_104 ?_
      refine v_aload_n (pc := 105) O dX12_parse_105 0 rfl ?_
      refine v_getK (pc := 106) (a := 207) O hm gf_X12_47 fl_X12_93 kq_207 lk_207_47 dX12_parse_106 ?_
      refine v_iconst (pc := 109) O dX12_parse_109 ic_0 ?_
      refine v_iconst (pc := 110) O dX12_parse_110 ic_m1 ?_
      refine v_iast (pc := 111) (a := 233) O kq_233 (inq lq_233 (by decide)) dX12_parse_111 ?_
      refine v_iconst (pc := 112) O dX12_parse_112 ic_0 ?_
      refine v_istore_n (pc := 113) (lv' := [(1, .int 0), (0, .ref (bo X + pp 207))]) O dX12_parse_113 rfl (by rw [hn]; decide) rfl ?_
      refine v_aload_n (pc := 114) O dX12_parse_114 1 rfl ?_
      obtain ⟨p19, e20, h⟩ := bind_some h
      refine v_callV (pc := 115) (a := 207) (As := []) (rest := []) (r := none) (D' := p19) O (bb0 hz) (c_X12_next hm e20) mw_X12_next im_X12_next se_X12_next ml_X12_256 kq_207 (by decide) rfl rfl rfl (by decide) (by decide) (Nat.le_of_ble_eq_true rfl) dX12_parse_115 rfl rfl ?_
      refine v_sub [1, 0] rfl ?_
      exact w_X12_parse_b118 O hm hn hz N 0 p19 h
    · have h := (if_neg c18).symm.trans h
      refine v_aload_n (pc := 80) O dX12_parse_80 0 rfl ?_
      refine v_getK (pc := 81) (a := 207) O hm gf_X12_42 fl_X12_81 kq_207 lk_207_42 dX12_parse_81 ?_
      refine v_iload_n (pc := 84) O dX12_parse_84 1 rfl ?_
      refine v_iconst (pc := 85) O dX12_parse_85 ic_0 ?_
      obtain ⟨c21, h⟩ := or_none h
      refine v_iast (pc := 86) (a := 229) O kq_229 (inq lq_229 c21) dX12_parse_86 ?_
      refine v_iinc (pc := 87) (lv' := [(1, .int (x1 + 1)), (0, .ref (bo X + pp 207))]) O dX12_parse_87 1 rfl (congrArg (fun q => x1 + q) ic_1) (by rw [hn]; decide) rfl ?_
      refine v_goto (pc := 90) 74 O dX12_parse_90 (by decide) ?_
      refine v_sub [1, 0] rfl ?_
      exact ih (x1 + 1) (sI D 229 (x1).toNatClampNeg 0) h
def f_X12_parse_b57 (N : Nat) (D : Dat) : Option (Dat) :=
  f_X12_parse_b74 N N 0 (sI (sI (sI D 207 36 0) 207 40 (-1)) 207 41 0)
set_option maxHeartbeats 4000000 in
theorem w_X12_parse_b57 {X : Cx} {n nu c u : Nat} {K : Nat → Nat} {N : Nat} {z : Dat} (O : Ok X cX12_parse RX12 none 9 194) (hm : wlm (xw X) = true) (hn : xn X = 2) (hz : Z0 X (Ax nu K c u)) (D : Dat) (h : f_X12_parse_b57 N D = some z) : V X (Q0 X n (Ax nu K c u) none z) n (Ax nu K c u) D 57 [(0, .ref (bo X + pp 207))] [] := by
  unfold f_X12_parse_b57 at h
  refine v_aload_n (pc := 57) O dX12_parse_57 0 rfl ?_
  refine v_iconst (pc := 58) O dX12_parse_58 ic_0 ?_
  refine v_putI (pc := 59) (a := 207) O pf_X12_36 fl_X12_222 kq_207 dX12_parse_59 ?_
  refine v_aload_n (pc := 62) O dX12_parse_62 0 rfl ?_
  refine v_iconst (pc := 63) O dX12_parse_63 ic_m1 ?_
  refine v_putI (pc := 64) (a := 207) O pf_X12_40 fl_X12_253 kq_207 dX12_parse_64 ?_
  refine v_aload_n (pc := 67) O dX12_parse_67 0 rfl ?_
  refine v_iconst (pc := 68) O dX12_parse_68 ic_0 ?_
  refine v_putI (pc := 69) (a := 207) O pf_X12_41 fl_X12_262 kq_207 dX12_parse_69 ?_
  refine v_iconst (pc := 72) O dX12_parse_72 ic_0 ?_
  refine v_istore_n (pc := 73) (lv' := [(1, .int 0), (0, .ref (bo X + pp 207))]) O dX12_parse_73 rfl (by rw [hn]; decide) rfl ?_
  refine v_sub [1, 0] rfl ?_
  exact w_X12_parse_b74 O hm hn hz N 0 (sI (sI (sI D 207 36 0) 207 40 (-1)) 207 41 0) h
def f_X12_parse_b21 (N : Nat) (s0 : Int32) (D : Dat) : Option (Dat) :=
  if (dI (sI (sI (sI D 207 35 s0) 207 33 ((64 : Int32) * (dI (sI D 207 35 s0) 207 35))) 207 34 ((260 : Int32) * (dI (sI (sI D 207 35 s0) 207 33 ((64 : Int32) * (dI (sI D 207 35 s0) 207 35))) 207 35))) 207 35) < 0 ∨ 2 ≤ ((dI (sI (sI (sI D 207 35 s0) 207 33 ((64 : Int32) * (dI (sI D 207 35 s0) 207 35))) 207 34 ((260 : Int32) * (dI (sI (sI D 207 35 s0) 207 33 ((64 : Int32) * (dI (sI D 207 35 s0) 207 35))) 207 35))) 207 35)).toNatClampNeg then none else (f_X12_parse_b57 N (sI (sI (sI (sI D 207 35 s0) 207 33 ((64 : Int32) * (dI (sI D 207 35 s0) 207 35))) 207 34 ((260 : Int32) * (dI (sI (sI D 207 35 s0) 207 33 ((64 : Int32) * (dI (sI D 207 35 s0) 207 35))) 207 35))) 228 (dI (sI (sI (sI D 207 35 s0) 207 33 ((64 : Int32) * (dI (sI D 207 35 s0) 207 35))) 207 34 ((260 : Int32) * (dI (sI (sI D 207 35 s0) 207 33 ((64 : Int32) * (dI (sI D 207 35 s0) 207 35))) 207 35))) 207 35).toNatClampNeg (-1)))
set_option maxHeartbeats 4000000 in
theorem w_X12_parse_b21 {X : Cx} {n nu c u : Nat} {K : Nat → Nat} {N : Nat} {z : Dat} (O : Ok X cX12_parse RX12 none 9 194) (hm : wlm (xw X) = true) (hn : xn X = 2) (hz : Z0 X (Ax nu K c u)) (s0 : Int32) (D : Dat) (h : f_X12_parse_b21 N s0 D = some z) : V X (Q0 X n (Ax nu K c u) none z) n (Ax nu K c u) D 21 [(0, .ref (bo X + pp 207))] [.int s0, .ref (bo X + pp 207)] := by
  unfold f_X12_parse_b21 at h
  refine v_putI (pc := 21) (a := 207) O pf_X12_35 fl_X12_308 kq_207 dX12_parse_21 ?_
  refine v_aload_n (pc := 24) O dX12_parse_24 0 rfl ?_
  refine v_bipush (pc := 25) O dX12_parse_25 bp_64 ?_
  refine v_aload_n (pc := 27) O dX12_parse_27 0 rfl ?_
  refine v_getI (pc := 28) (a := 207) O gf_X12_35 fl_X12_308 kq_207 dX12_parse_28 ?_
  refine v_imul (pc := 31) O dX12_parse_31 ?_
  refine v_putI (pc := 32) (a := 207) O pf_X12_33 fl_X12_305 kq_207 dX12_parse_32 ?_
  refine v_aload_n (pc := 35) O dX12_parse_35 0 rfl ?_
  refine v_sipush (pc := 36) O dX12_parse_36 sp_260 ?_
  refine v_aload_n (pc := 39) O dX12_parse_39 0 rfl ?_
  refine v_getI (pc := 40) (a := 207) O gf_X12_35 fl_X12_308 kq_207 dX12_parse_40 ?_
  refine v_imul (pc := 43) O dX12_parse_43 ?_
  refine v_putI (pc := 44) (a := 207) O pf_X12_34 fl_X12_265 kq_207 dX12_parse_44 ?_
  refine v_aload_n (pc := 47) O dX12_parse_47 0 rfl ?_
  refine v_getK (pc := 48) (a := 207) O hm gf_X12_32 fl_X12_78 kq_207 lk_207_32 dX12_parse_48 ?_
  refine v_aload_n (pc := 51) O dX12_parse_51 0 rfl ?_
  refine v_getI (pc := 52) (a := 207) O gf_X12_35 fl_X12_308 kq_207 dX12_parse_52 ?_
  refine v_iconst (pc := 55) O dX12_parse_55 ic_m1 ?_
  obtain ⟨c22, h⟩ := or_none h
  refine v_iast (pc := 56) (a := 228) O kq_228 (inq lq_228 c22) dX12_parse_56 ?_
  refine v_sub [0] rfl ?_
  exact w_X12_parse_b57 O hm hn hz (sI (sI (sI (sI D 207 35 s0) 207 33 ((64 : Int32) * (dI (sI D 207 35 s0) 207 35))) 207 34 ((260 : Int32) * (dI (sI (sI D 207 35 s0) 207 33 ((64 : Int32) * (dI (sI D 207 35 s0) 207 35))) 207 35))) 228 (dI (sI (sI (sI D 207 35 s0) 207 33 ((64 : Int32) * (dI (sI D 207 35 s0) 207 35))) 207 34 ((260 : Int32) * (dI (sI (sI D 207 35 s0) 207 33 ((64 : Int32) * (dI (sI D 207 35 s0) 207 35))) 207 35))) 207 35).toNatClampNeg (-1)) h
def f_X12_parse (N : Nat) (D : Dat) : Option (Dat) :=
  if (dI D 207 18) = 0 then (f_X12_parse_b21 N (dI D 207 19) D) else (f_X12_parse_b21 N ((1 : Int32) - (dI D 207 19)) D)
set_option maxHeartbeats 4000000 in
theorem w_X12_parse {X : Cx} {n nu c u : Nat} {K : Nat → Nat} {N : Nat} {z : Dat} (O : Ok X cX12_parse RX12 none 9 194) (hm : wlm (xw X) = true) (hn : xn X = 2) (hz : Z0 X (Ax nu K c u)) (D : Dat) (h : f_X12_parse N D = some z) : V X (Q0 X n (Ax nu K c u) none z) n (Ax nu K c u) D 0 [(0, .ref (bo X + pp 207))] [] := by
  unfold f_X12_parse at h
  refine v_aload_n (pc := 0) O dX12_parse_0 0 rfl ?_
  refine v_aload_n (pc := 1) O dX12_parse_1 0 rfl ?_
  refine v_getI (pc := 2) (a := 207) O gf_X12_18 fl_X12_332 kq_207 dX12_parse_2 ?_
  refine v_ifeq (pc := 5) 17 O dX12_parse_5 (by decide) (fun c23 => ?_) (fun c23 => ?_)
  · have h := (if_pos c23).symm.trans h
    refine v_aload_n (pc := 17) O dX12_parse_17 0 rfl ?_
    refine v_getI (pc := 18) (a := 207) O gf_X12_19 fl_X12_335 kq_207 dX12_parse_18 ?_
    refine v_sub [0] rfl ?_
    exact w_X12_parse_b21 O hm hn hz (dI D 207 19) D h
  · have h := (if_neg c23).symm.trans h
    refine v_iconst (pc := 8) O dX12_parse_8 ic_1 ?_
    refine v_aload_n (pc := 9) O dX12_parse_9 0 rfl ?_
    refine v_getI (pc := 10) (a := 207) O gf_X12_19 fl_X12_335 kq_207 dX12_parse_10 ?_
    refine v_isub (pc := 13) O dX12_parse_13 ?_
    refine v_goto (pc := 14) 21 O dX12_parse_14 (by decide) ?_
    refine v_sub [0] rfl ?_
    exact w_X12_parse_b21 O hm hn hz ((1 : Int32) - (dI D 207 19)) D h
theorem c_X12_parse {l : Launch} {w : Wx} {n nu c u : Nat} {K : Nat → Nat} {N : Nat} (hm : wlm w = true) {D : Dat} {z : Dat} (h : f_X12_parse N D = some z) : C0 l w yX12_parse cX12_parse 2 none 9 194 [.ref (wb w + pp 207)] n (Ax nu K c u) D none z :=
  C0.of (by decide) (Nat.le_of_ble_eq_true rfl) (fun X e1 e2 e3 hz O => by
  subst e1
  subst e2
  exact w_X12_parse O hm e3 hz  D h)
def f_X12_join (x1 : Int32) (x2 : Int32) (D : Dat) : Option (Int32 × Dat) :=
  if (((6 : Int32) * x1) + x2) < 0 ∨ 36 ≤ ((((6 : Int32) * x1) + x2)).toNatClampNeg then none else (some ((dI D 209 (((6 : Int32) * x1) + x2).toNatClampNeg), D))
set_option maxHeartbeats 4000000 in
theorem w_X12_join {X : Cx} {n nu c u : Nat} {K : Nat → Nat} {z : Int32 × Dat} (O : Ok X cX12_join RX12 (some .int) 0 0) (hm : wlm (xw X) = true) (hn : xn X = 3) (hz : Z0 X (Ax nu K c u)) (x1 : Int32) (x2 : Int32) (D : Dat) (h : f_X12_join x1 x2 D = some z) : V X (Q0 X n (Ax nu K c u) (some (.int z.1)) z.2) n (Ax nu K c u) D 0 [(0, .ref (bo X + pp 207)), (1, .int x1), (2, .int x2)] [] := by
  unfold f_X12_join at h
  refine v_aload_n (pc := 0) O dX12_join_0 0 rfl ?_
  refine v_getK (pc := 1) (a := 207) O hm gf_X12_3 fl_X12_13 kq_207 lk_207_3 dX12_join_1 ?_
  refine v_bipush (pc := 4) O dX12_join_4 bp_6 ?_
  refine v_iload_n (pc := 6) O dX12_join_6 1 rfl ?_
  refine v_imul (pc := 7) O dX12_join_7 ?_
  refine v_iload_n (pc := 8) O dX12_join_8 2 rfl ?_
  refine v_iadd (pc := 9) O dX12_join_9 ?_
  obtain ⟨c1, h⟩ := or_none h
  refine v_iald (pc := 10) (a := 209) O kq_209 (inq lq_209 c1) dX12_join_10 ?_
  obtain rfl := Option.some.inj h
  exact v_iret (pc := 11) O hz dX12_join_11
theorem c_X12_join {l : Launch} {w : Wx} {n nu c u : Nat} {K : Nat → Nat} (hm : wlm w = true) {x1 : Int32} {x2 : Int32} {D : Dat} {z : Int32 × Dat} (h : f_X12_join x1 x2 D = some z) : C0 l w yX12_join cX12_join 3 (some .int) 0 0 [.ref (wb w + pp 207), .int x1, .int x2] n (Ax nu K c u) D (some (.int z.1)) z.2 :=
  C0.of (by decide) (Nat.le_of_ble_eq_true rfl) (fun X e1 e2 e3 hz O => by
  subst e1
  subst e2
  exact w_X12_join O hm e3 hz x1 x2 D h)
def f_X12_itemsLabel_b70 (N : Nat) (rec_7 : Int32 → Int32 → Dat → Option (Int32 × Dat)) (x2 : Int32) (x3 : Int32) (D : Dat) : Option (Int32 × Dat) :=
  rec_7 x2 (x3 + 1) D
set_option maxHeartbeats 4000000 in
theorem w_X12_itemsLabel_b70 {X : Cx} {n nu c u : Nat} {K : Nat → Nat} {N : Nat} {rec_7 : Int32 → Int32 → Dat → Option (Int32 × Dat)} {z : Int32 × Dat} (O : Ok X cX12_itemsLabel RX12 (some .int) 1 22) (hm : wlm (xw X) = true) (hn : xn X = 4) (hz : Z0 X (Ax nu K c u)) (hrec_7 : ∀ (x2 : Int32) (x3 : Int32) (D : Dat), rec_7 x2 x3 D = some z → V X (Q0 X n (Ax nu K c u) (some (.int z.1)) z.2) n (Ax nu K c u) D 7 [(0, .ref (bo X + pp 207)), (2, .int x2), (3, .int x3)] []) (x2 : Int32) (x3 : Int32) (D : Dat) (h : f_X12_itemsLabel_b70 N rec_7 x2 x3 D = some z) : V X (Q0 X n (Ax nu K c u) (some (.int z.1)) z.2) n (Ax nu K c u) D 70 [(0, .ref (bo X + pp 207)), (2, .int x2), (3, .int x3)] [] := by
  unfold f_X12_itemsLabel_b70 at h
  refine v_iinc (pc := 70) (lv' := [(3, .int (x3 + 1)), (0, .ref (bo X + pp 207)), (2, .int x2)]) O dX12_itemsLabel_70 2 rfl (congrArg (fun q => x3 + q) ic_1) (by rw [hn]; decide) rfl ?_
  refine v_goto (pc := 73) 7 O dX12_itemsLabel_73 (by decide) ?_
  refine v_sub [1, 2, 0] rfl ?_
  exact hrec_7 x2 (x3 + 1) D h
def f_X12_itemsLabel_b43 (N : Nat) (rec_7 : Int32 → Int32 → Dat → Option (Int32 × Dat)) (x2 : Int32) (x3 : Int32) (D : Dat) : Option (Int32 × Dat) :=
  if x3 < 0 ∨ 520 ≤ (x3).toNatClampNeg then none else (if (dI D 225 (x3).toNatClampNeg) = 3 then (if x3 < 0 ∨ 520 ≤ (x3).toNatClampNeg then none else (if (dI D 226 (x3).toNatClampNeg) < 0 ∨ 26 ≤ ((dI D 226 (x3).toNatClampNeg)).toNatClampNeg then none else ((f_X12_join x2 (dI D 230 (dI D 226 (x3).toNatClampNeg).toNatClampNeg) D).bind (fun p5 => f_X12_itemsLabel_b70 N rec_7 p5.1 x3 p5.2)))) else (f_X12_itemsLabel_b70 N rec_7 x2 x3 D))
set_option maxHeartbeats 4000000 in
theorem w_X12_itemsLabel_b43 {X : Cx} {n nu c u : Nat} {K : Nat → Nat} {N : Nat} {rec_7 : Int32 → Int32 → Dat → Option (Int32 × Dat)} {z : Int32 × Dat} (O : Ok X cX12_itemsLabel RX12 (some .int) 1 22) (hm : wlm (xw X) = true) (hn : xn X = 4) (hz : Z0 X (Ax nu K c u)) (hrec_7 : ∀ (x2 : Int32) (x3 : Int32) (D : Dat), rec_7 x2 x3 D = some z → V X (Q0 X n (Ax nu K c u) (some (.int z.1)) z.2) n (Ax nu K c u) D 7 [(0, .ref (bo X + pp 207)), (2, .int x2), (3, .int x3)] []) (x2 : Int32) (x3 : Int32) (D : Dat) (h : f_X12_itemsLabel_b43 N rec_7 x2 x3 D = some z) : V X (Q0 X n (Ax nu K c u) (some (.int z.1)) z.2) n (Ax nu K c u) D 43 [(0, .ref (bo X + pp 207)), (2, .int x2), (3, .int x3)] [] := by
  unfold f_X12_itemsLabel_b43 at h
  refine v_aload_n (pc := 43) O dX12_itemsLabel_43 0 rfl ?_
  refine v_getK (pc := 44) (a := 207) O hm gf_X12_29 fl_X12_69 kq_207 lk_207_29 dX12_itemsLabel_44 ?_
  refine v_iload_n (pc := 47) O dX12_itemsLabel_47 2 rfl ?_
  obtain ⟨c1, h⟩ := or_none h
  refine v_iald (pc := 48) (a := 225) O kq_225 (inq lq_225 c1) dX12_itemsLabel_48 ?_
  refine v_iconst (pc := 49) O dX12_itemsLabel_49 ic_3 ?_
  refine v_icmpne (pc := 50) 70 O dX12_itemsLabel_50 (by decide) (fun c2 => ?_) (fun c2 => ?_)
  · have h := (if_neg c2).symm.trans h
    refine v_sub [0, 1, 2] rfl ?_
    exact w_X12_itemsLabel_b70 O hm hn hz hrec_7 x2 x3 D h
  · have h := (if_pos c2).symm.trans h
    refine v_aload_n (pc := 53) O dX12_itemsLabel_53 0 rfl ?_
    refine v_iload_n (pc := 54) O dX12_itemsLabel_54 1 rfl ?_
    refine v_aload_n (pc := 55) O dX12_itemsLabel_55 0 rfl ?_
    refine v_getK (pc := 56) (a := 207) O hm gf_X12_43 fl_X12_84 kq_207 lk_207_43 dX12_itemsLabel_56 ?_
    refine v_aload_n (pc := 59) O dX12_itemsLabel_59 0 rfl ?_
    refine v_getK (pc := 60) (a := 207) O hm gf_X12_30 fl_X12_72 kq_207 lk_207_30 dX12_itemsLabel_60 ?_
    refine v_iload_n (pc := 63) O dX12_itemsLabel_63 2 rfl ?_
    obtain ⟨c3, h⟩ := or_none h
    refine v_iald (pc := 64) (a := 226) O kq_226 (inq lq_226 c3) dX12_itemsLabel_64 ?_
    obtain ⟨c4, h⟩ := or_none h
    refine v_iald (pc := 65) (a := 230) O kq_230 (inq lq_230 c4) dX12_itemsLabel_65 ?_
    obtain ⟨p5, e6, h⟩ := bind_some h
    refine v_callV (pc := 66) (a := 207) (As := [.int x2, .int (dI D 230 (dI D 226 (x3).toNatClampNeg).toNatClampNeg)]) (rest := []) (r := (some (.int p5.1))) (D' := p5.2) O (bb0 hz) (c_X12_join hm e6) mw_X12_join im_X12_join se_X12_join ml_X12_347 kq_207 (by decide) rfl rfl rfl (by decide) (by decide) (Nat.le_of_ble_eq_true rfl) dX12_itemsLabel_66 rfl rfl ?_
    refine v_istore_n (pc := 69) (lv' := [(2, .int p5.1), (0, .ref (bo X + pp 207)), (3, .int x3)]) O dX12_itemsLabel_69 rfl (by rw [hn]; decide) rfl ?_
    refine v_sub [1, 0, 2] rfl ?_
    exact w_X12_itemsLabel_b70 O hm hn hz hrec_7 p5.1 x3 p5.2 h
def f_X12_itemsLabel_b7 (N : Nat) : Nat → Int32 → Int32 → Dat → Option (Int32 × Dat)
  | 0, _, _, _ => none
  | g + 1, x2, x3, D => if x3 < 0 ∨ 520 ≤ (x3).toNatClampNeg then none else (if (dI D 225 (x3).toNatClampNeg) < 0 then (some (x2, D)) else (if x3 < 0 ∨ 520 ≤ (x3).toNatClampNeg then none else (if (dI D 225 (x3).toNatClampNeg) = 1 then (if x3 < 0 ∨ 520 ≤ (x3).toNatClampNeg then none else (if (dI D 226 (x3).toNatClampNeg) < 0 ∨ 26 ≤ ((dI D 226 (x3).toNatClampNeg)).toNatClampNeg then none else ((f_X12_join x2 (dI D 237 (dI D 226 (x3).toNatClampNeg).toNatClampNeg) D).bind (fun p13 => f_X12_itemsLabel_b43 N (f_X12_itemsLabel_b7 N g) p13.1 x3 p13.2)))) else (f_X12_itemsLabel_b43 N (f_X12_itemsLabel_b7 N g) x2 x3 D))))
set_option maxHeartbeats 4000000 in
theorem w_X12_itemsLabel_b7 {X : Cx} {n nu c u : Nat} {K : Nat → Nat} {N : Nat} {z : Int32 × Dat} (O : Ok X cX12_itemsLabel RX12 (some .int) 1 22) (hm : wlm (xw X) = true) (hn : xn X = 4) (hz : Z0 X (Ax nu K c u)) : ∀ (g : Nat) (x2 : Int32) (x3 : Int32) (D : Dat), f_X12_itemsLabel_b7 N g x2 x3 D = some z → V X (Q0 X n (Ax nu K c u) (some (.int z.1)) z.2) n (Ax nu K c u) D 7 [(0, .ref (bo X + pp 207)), (2, .int x2), (3, .int x3)] [] := by
  intro g
  induction g with
  | zero => intro x2 x3 D h; exact absurd h (by simp [f_X12_itemsLabel_b7])
  | succ g ih =>
    intro x2 x3 D h
    rw [f_X12_itemsLabel_b7] at h
    refine v_aload_n (pc := 7) O dX12_itemsLabel_7 0 rfl ?_
    refine v_getK (pc := 8) (a := 207) O hm gf_X12_29 fl_X12_69 kq_207 lk_207_29 dX12_itemsLabel_8 ?_
    refine v_iload_n (pc := 11) O dX12_itemsLabel_11 2 rfl ?_
    obtain ⟨c7, h⟩ := or_none h
    refine v_iald (pc := 12) (a := 225) O kq_225 (inq lq_225 c7) dX12_itemsLabel_12 ?_
    refine v_iflt (pc := 13) 76 O dX12_itemsLabel_13 (by decide) (fun c8 => ?_) (fun c8 => ?_)
    · have h := (if_pos c8).symm.trans h
      refine v_iload_n (pc := 76) O dX12_itemsLabel_76 1 rfl ?_
      obtain rfl := Option.some.inj h
      exact v_iret (pc := 77) O hz dX12_itemsLabel_77
    · have h := (if_neg c8).symm.trans h
      refine v_aload_n (pc := 16) O dX12_itemsLabel_16 0 rfl ?_
      refine v_getK (pc := 17) (a := 207) O hm gf_X12_29 fl_X12_69 kq_207 lk_207_29 dX12_itemsLabel_17 ?_
      refine v_iload_n (pc := 20) O dX12_itemsLabel_20 2 rfl ?_
      obtain ⟨c9, h⟩ := or_none h
      refine v_iald (pc := 21) (a := 225) O kq_225 (inq lq_225 c9) dX12_itemsLabel_21 ?_
      refine v_iconst (pc := 22) O dX12_itemsLabel_22 ic_1 ?_
      refine v_icmpne (pc := 23) 43 O dX12_itemsLabel_23 (by decide) (fun c10 => ?_) (fun c10 => ?_)
      · have h := (if_neg c10).symm.trans h
        refine v_sub [0, 1, 2] rfl ?_
        exact w_X12_itemsLabel_b43 O hm hn hz ih x2 x3 D h
      · have h := (if_pos c10).symm.trans h
        refine v_aload_n (pc := 26) O dX12_itemsLabel_26 0 rfl ?_
        refine v_iload_n (pc := 27) O dX12_itemsLabel_27 1 rfl ?_
        refine v_aload_n (pc := 28) O dX12_itemsLabel_28 0 rfl ?_
        refine v_getK (pc := 29) (a := 207) O hm gf_X12_53 fl_X12_105 kq_207 lk_207_53 dX12_itemsLabel_29 ?_
        refine v_aload_n (pc := 32) O dX12_itemsLabel_32 0 rfl ?_
        refine v_getK (pc := 33) (a := 207) O hm gf_X12_30 fl_X12_72 kq_207 lk_207_30 dX12_itemsLabel_33 ?_
        refine v_iload_n (pc := 36) O dX12_itemsLabel_36 2 rfl ?_
        obtain ⟨c11, h⟩ := or_none h
        refine v_iald (pc := 37) (a := 226) O kq_226 (inq lq_226 c11) dX12_itemsLabel_37 ?_
        obtain ⟨c12, h⟩ := or_none h
        refine v_iald (pc := 38) (a := 237) O kq_237 (inq lq_237 c12) dX12_itemsLabel_38 ?_
        obtain ⟨p13, e14, h⟩ := bind_some h
        refine v_callV (pc := 39) (a := 207) (As := [.int x2, .int (dI D 237 (dI D 226 (x3).toNatClampNeg).toNatClampNeg)]) (rest := []) (r := (some (.int p13.1))) (D' := p13.2) O (bb0 hz) (c_X12_join hm e14) mw_X12_join im_X12_join se_X12_join ml_X12_347 kq_207 (by decide) rfl rfl rfl (by decide) (by decide) (Nat.le_of_ble_eq_true rfl) dX12_itemsLabel_39 rfl rfl ?_
        refine v_istore_n (pc := 42) (lv' := [(2, .int p13.1), (0, .ref (bo X + pp 207)), (3, .int x3)]) O dX12_itemsLabel_42 rfl (by rw [hn]; decide) rfl ?_
        refine v_sub [1, 0, 2] rfl ?_
        exact w_X12_itemsLabel_b43 O hm hn hz ih p13.1 x3 p13.2 h
def f_X12_itemsLabel (N : Nat) (x1 : Int32) (D : Dat) : Option (Int32 × Dat) :=
  f_X12_itemsLabel_b7 N N (dI D 207 6) x1 D
set_option maxHeartbeats 4000000 in
theorem w_X12_itemsLabel {X : Cx} {n nu c u : Nat} {K : Nat → Nat} {N : Nat} {z : Int32 × Dat} (O : Ok X cX12_itemsLabel RX12 (some .int) 1 22) (hm : wlm (xw X) = true) (hn : xn X = 4) (hz : Z0 X (Ax nu K c u)) (x1 : Int32) (D : Dat) (h : f_X12_itemsLabel N x1 D = some z) : V X (Q0 X n (Ax nu K c u) (some (.int z.1)) z.2) n (Ax nu K c u) D 0 [(0, .ref (bo X + pp 207)), (1, .int x1)] [] := by
  unfold f_X12_itemsLabel at h
  refine v_aload_n (pc := 0) O dX12_itemsLabel_0 0 rfl ?_
  refine v_getI (pc := 1) (a := 207) O gf_X12_6 fl_X12_210 kq_207 dX12_itemsLabel_1 ?_
  refine v_istore_n (pc := 4) (lv' := [(2, .int (dI D 207 6)), (0, .ref (bo X + pp 207)), (1, .int x1)]) O dX12_itemsLabel_4 rfl (by rw [hn]; decide) rfl ?_
  refine v_iload_n (pc := 5) O dX12_itemsLabel_5 2 rfl ?_
  refine v_istore_n (pc := 6) (lv' := [(3, .int x1), (2, .int (dI D 207 6)), (0, .ref (bo X + pp 207)), (1, .int x1)]) O dX12_itemsLabel_6 rfl (by rw [hn]; decide) rfl ?_
  refine v_sub [2, 1, 0] rfl ?_
  exact w_X12_itemsLabel_b7 O hm hn hz N (dI D 207 6) x1 D h
theorem c_X12_itemsLabel {l : Launch} {w : Wx} {n nu c u : Nat} {K : Nat → Nat} {N : Nat} (hm : wlm w = true) {x1 : Int32} {D : Dat} {z : Int32 × Dat} (h : f_X12_itemsLabel N x1 D = some z) : C0 l w yX12_itemsLabel cX12_itemsLabel 4 (some .int) 1 22 [.ref (wb w + pp 207), .int x1] n (Ax nu K c u) D (some (.int z.1)) z.2 :=
  C0.of (by decide) (Nat.le_of_ble_eq_true rfl) (fun X e1 e2 e3 hz O => by
  subst e1
  subst e2
  exact w_X12_itemsLabel O hm e3 hz x1 D h)
def f_X12_push_b33 (D : Dat) : Option (Dat) :=
  some (sI D 207 55 ((dI D 207 55) + (1 : Int32)))
set_option maxHeartbeats 4000000 in
theorem w_X12_push_b33 {X : Cx} {n nu c u : Nat} {K : Nat → Nat} {z : Dat} (O : Ok X cX12_push RX12 none 0 0) (hm : wlm (xw X) = true) (hn : xn X = 3) (hz : Z0 X (Ax nu K c u)) (D : Dat) (h : f_X12_push_b33 D = some z) : V X (Q0 X n (Ax nu K c u) none z) n (Ax nu K c u) D 33 [(0, .ref (bo X + pp 207))] [] := by
  unfold f_X12_push_b33 at h
  refine v_aload_n (pc := 33) O dX12_push_33 0 rfl ?_
  refine v_dup (pc := 34) O dX12_push_34 rfl ?_
  refine v_getI (pc := 35) (a := 207) O gf_X12_55 fl_X12_351 kq_207 dX12_push_35 ?_
  refine v_iconst (pc := 38) O dX12_push_38 ic_1 ?_
  refine v_iadd (pc := 39) O dX12_push_39 ?_
  refine v_putI (pc := 40) (a := 207) O pf_X12_55 fl_X12_351 kq_207 dX12_push_40 ?_
  obtain rfl := Option.some.inj h
  exact v_ret (pc := 43) O hz dX12_push_43
def f_X12_push (x1 : Int32) (x2 : Int32) (D : Dat) : Option (Dat) :=
  if (dI D 207 55) < 0 ∨ 300 ≤ ((dI D 207 55)).toNatClampNeg then none else (if (dI (sI D 238 (dI D 207 55).toNatClampNeg x1) 207 55) < 0 ∨ 300 ≤ ((dI (sI D 238 (dI D 207 55).toNatClampNeg x1) 207 55)).toNatClampNeg then none else (if (dI (sI (sI D 238 (dI D 207 55).toNatClampNeg x1) 239 (dI (sI D 238 (dI D 207 55).toNatClampNeg x1) 207 55).toNatClampNeg x2) 207 55) < 0 ∨ 300 ≤ ((dI (sI (sI D 238 (dI D 207 55).toNatClampNeg x1) 239 (dI (sI D 238 (dI D 207 55).toNatClampNeg x1) 207 55).toNatClampNeg x2) 207 55)).toNatClampNeg then none else (f_X12_push_b33 (sI (sI (sI D 238 (dI D 207 55).toNatClampNeg x1) 239 (dI (sI D 238 (dI D 207 55).toNatClampNeg x1) 207 55).toNatClampNeg x2) 240 (dI (sI (sI D 238 (dI D 207 55).toNatClampNeg x1) 239 (dI (sI D 238 (dI D 207 55).toNatClampNeg x1) 207 55).toNatClampNeg x2) 207 55).toNatClampNeg (dI (sI (sI D 238 (dI D 207 55).toNatClampNeg x1) 239 (dI (sI D 238 (dI D 207 55).toNatClampNeg x1) 207 55).toNatClampNeg x2) 207 54)))))
set_option maxHeartbeats 4000000 in
theorem w_X12_push {X : Cx} {n nu c u : Nat} {K : Nat → Nat} {z : Dat} (O : Ok X cX12_push RX12 none 0 0) (hm : wlm (xw X) = true) (hn : xn X = 3) (hz : Z0 X (Ax nu K c u)) (x1 : Int32) (x2 : Int32) (D : Dat) (h : f_X12_push x1 x2 D = some z) : V X (Q0 X n (Ax nu K c u) none z) n (Ax nu K c u) D 0 [(0, .ref (bo X + pp 207)), (1, .int x1), (2, .int x2)] [] := by
  unfold f_X12_push at h
  refine v_aload_n (pc := 0) O dX12_push_0 0 rfl ?_
  refine v_getK (pc := 1) (a := 207) O hm gf_X12_57 fl_X12_108 kq_207 lk_207_57 dX12_push_1 ?_
  refine v_aload_n (pc := 4) O dX12_push_4 0 rfl ?_
  refine v_getI (pc := 5) (a := 207) O gf_X12_55 fl_X12_351 kq_207 dX12_push_5 ?_
  refine v_iload_n (pc := 8) O dX12_push_8 1 rfl ?_
  obtain ⟨c1, h⟩ := or_none h
  refine v_iast (pc := 9) (a := 238) O kq_238 (inq lq_238 c1) dX12_push_9 ?_
  refine v_aload_n (pc := 10) O dX12_push_10 0 rfl ?_
  refine v_getK (pc := 11) (a := 207) O hm gf_X12_58 fl_X12_111 kq_207 lk_207_58 dX12_push_11 ?_
  refine v_aload_n (pc := 14) O dX12_push_14 0 rfl ?_
  refine v_getI (pc := 15) (a := 207) O gf_X12_55 fl_X12_351 kq_207 dX12_push_15 ?_
  refine v_iload_n (pc := 18) O dX12_push_18 2 rfl ?_
  obtain ⟨c2, h⟩ := or_none h
  refine v_iast (pc := 19) (a := 239) O kq_239 (inq lq_239 c2) dX12_push_19 ?_
  refine v_aload_n (pc := 20) O dX12_push_20 0 rfl ?_
  refine v_getK (pc := 21) (a := 207) O hm gf_X12_59 fl_X12_114 kq_207 lk_207_59 dX12_push_21 ?_
  refine v_aload_n (pc := 24) O dX12_push_24 0 rfl ?_
  refine v_getI (pc := 25) (a := 207) O gf_X12_55 fl_X12_351 kq_207 dX12_push_25 ?_
  refine v_aload_n (pc := 28) O dX12_push_28 0 rfl ?_
  refine v_getI (pc := 29) (a := 207) O gf_X12_54 fl_X12_354 kq_207 dX12_push_29 ?_
  obtain ⟨c3, h⟩ := or_none h
  refine v_iast (pc := 32) (a := 240) O kq_240 (inq lq_240 c3) dX12_push_32 ?_
  refine v_sub [0] rfl ?_
  exact w_X12_push_b33 O hm hn hz (sI (sI (sI D 238 (dI D 207 55).toNatClampNeg x1) 239 (dI (sI D 238 (dI D 207 55).toNatClampNeg x1) 207 55).toNatClampNeg x2) 240 (dI (sI (sI D 238 (dI D 207 55).toNatClampNeg x1) 239 (dI (sI D 238 (dI D 207 55).toNatClampNeg x1) 207 55).toNatClampNeg x2) 207 55).toNatClampNeg (dI (sI (sI D 238 (dI D 207 55).toNatClampNeg x1) 239 (dI (sI D 238 (dI D 207 55).toNatClampNeg x1) 207 55).toNatClampNeg x2) 207 54)) h
theorem c_X12_push {l : Launch} {w : Wx} {n nu c u : Nat} {K : Nat → Nat} (hm : wlm w = true) {x1 : Int32} {x2 : Int32} {D : Dat} {z : Dat} (h : f_X12_push x1 x2 D = some z) : C0 l w yX12_push cX12_push 3 none 0 0 [.ref (wb w + pp 207), .int x1, .int x2] n (Ax nu K c u) D none z :=
  C0.of (by decide) (Nat.le_of_ble_eq_true rfl) (fun X e1 e2 e3 hz O => by
  subst e1
  subst e2
  exact w_X12_push O hm e3 hz x1 x2 D h)
def f_X12_must_b24 (D : Dat) : Option (Dat) :=
  some D
set_option maxHeartbeats 4000000 in
theorem w_X12_must_b24 {X : Cx} {n nu c u : Nat} {K : Nat → Nat} {z : Dat} (O : Ok X cX12_must RX12 none 0 0) (hm : wlm (xw X) = true) (hn : xn X = 4) (hz : Z0 X (Ax nu K c u)) (D : Dat) (h : f_X12_must_b24 D = some z) : V X (Q0 X n (Ax nu K c u) none z) n (Ax nu K c u) D 24 [] [] := by
  unfold f_X12_must_b24 at h
  obtain rfl := Option.some.inj h
  exact v_ret (pc := 24) O hz dX12_must_24
def f_X12_must (x1 : Int32) (x2 : Int32) (x3 : Int32) (D : Dat) : Option (Dat) :=
  if (((6 : Int32) * x1) + x2) < 0 ∨ 36 ≤ ((((6 : Int32) * x1) + x2)).toNatClampNeg then none else (if (dI D 208 (((6 : Int32) * x1) + x2).toNatClampNeg) = 0 then (if x3 < 0 ∨ 128 ≤ (x3).toNatClampNeg then none else (f_X12_must_b24 (sI D 207 40 (dI D 217 (x3).toNatClampNeg)))) else (f_X12_must_b24 D))
set_option maxHeartbeats 4000000 in
theorem w_X12_must {X : Cx} {n nu c u : Nat} {K : Nat → Nat} {z : Dat} (O : Ok X cX12_must RX12 none 0 0) (hm : wlm (xw X) = true) (hn : xn X = 4) (hz : Z0 X (Ax nu K c u)) (x1 : Int32) (x2 : Int32) (x3 : Int32) (D : Dat) (h : f_X12_must x1 x2 x3 D = some z) : V X (Q0 X n (Ax nu K c u) none z) n (Ax nu K c u) D 0 [(0, .ref (bo X + pp 207)), (1, .int x1), (2, .int x2), (3, .int x3)] [] := by
  unfold f_X12_must at h
  refine v_aload_n (pc := 0) O dX12_must_0 0 rfl ?_
  refine v_getK (pc := 1) (a := 207) O hm gf_X12_2 fl_X12_7 kq_207 lk_207_2 dX12_must_1 ?_
  refine v_bipush (pc := 4) O dX12_must_4 bp_6 ?_
  refine v_iload_n (pc := 6) O dX12_must_6 1 rfl ?_
  refine v_imul (pc := 7) O dX12_must_7 ?_
  refine v_iload_n (pc := 8) O dX12_must_8 2 rfl ?_
  refine v_iadd (pc := 9) O dX12_must_9 ?_
  obtain ⟨c1, h⟩ := or_none h
  refine v_zald (pc := 10) (a := 208) O kq_208 (inq lq_208 c1) dX12_must_10 ?_
  refine v_ifne (pc := 11) 24 O dX12_must_11 (by decide) (fun c2 => ?_) (fun c2 => ?_)
  · have h := (if_neg c2).symm.trans h
    refine v_sub [] rfl ?_
    exact w_X12_must_b24 O hm hn hz D h
  · have h := (if_pos c2).symm.trans h
    refine v_aload_n (pc := 14) O dX12_must_14 0 rfl ?_
    refine v_aload_n (pc := 15) O dX12_must_15 0 rfl ?_
    refine v_getK (pc := 16) (a := 207) O hm gf_X12_21 fl_X12_45 kq_207 lk_207_21 dX12_must_16 ?_
    refine v_iload_n (pc := 19) O dX12_must_19 3 rfl ?_
    obtain ⟨c3, h⟩ := or_none h
    refine v_iald (pc := 20) (a := 217) O kq_217 (inq lq_217 c3) dX12_must_20 ?_
    refine v_putI (pc := 21) (a := 207) O pf_X12_40 fl_X12_253 kq_207 dX12_must_21 ?_
    refine v_sub [] rfl ?_
    exact w_X12_must_b24 O hm hn hz (sI D 207 40 (dI D 217 (x3).toNatClampNeg)) h
theorem c_X12_must {l : Launch} {w : Wx} {n nu c u : Nat} {K : Nat → Nat} (hm : wlm w = true) {x1 : Int32} {x2 : Int32} {x3 : Int32} {D : Dat} {z : Dat} (h : f_X12_must x1 x2 x3 D = some z) : C0 l w yX12_must cX12_must 4 none 0 0 [.ref (wb w + pp 207), .int x1, .int x2, .int x3] n (Ax nu K c u) D none z :=
  C0.of (by decide) (Nat.le_of_ble_eq_true rfl) (fun X e1 e2 e3 hz O => by
  subst e1
  subst e2
  exact w_X12_must O hm e3 hz x1 x2 x3 D h)
