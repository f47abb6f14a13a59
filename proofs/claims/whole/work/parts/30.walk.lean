theorem kq_106 {nu c u : Nat} {K : Nat → Nat} : (Ax nu K c u).1 106 = 8 := kd_lt (K := K) (a := 106) (by decide) rfl
theorem ini_J1 : Cond.initialized RJ1 ∈ tb := tb_of 186 (by decide +kernel) (by decide +kernel)
theorem cw_J1_canEncode_9a6ad : Cond.code yJ1_canEncode_9a6ad cJ1_canEncode_9a6ad 1 (some .boolean) ∈ tb := tb_of 837 (by decide +kernel) (by decide +kernel)
theorem mw_J1_canEncode_9a6ad : MW yJ1_canEncode_9a6ad cJ1_canEncode_9a6ad 1 (some .boolean) 1 := ⟨cw_J1_canEncode_9a6ad, ini_J1, by decide +kernel⟩
theorem sm_J1_canEncode_9a6ad : Cond.static yJ1_canEncode_9a6ad ∈ tb := tb_of 836 (by decide +kernel) (by decide +kernel)
theorem ml_J1_88 : Cond.methodLink RJ1 88 yJ1_canEncode_9a6ad ∈ tb := tb_of 835 (by decide +kernel) (by decide +kernel)
theorem ml_J1_92 : Cond.methodLink RJ1 92 Lib.Math.max.name ∈ tb := tb_of 838 (by decide +kernel) (by decide +kernel)
theorem sm_max : Cond.static Lib.Math.max.name ∈ tb := tb_of 208 (by decide +kernel) (by decide +kernel)
theorem cw_max : Cond.code Lib.Math.max.name Lib.Math.max.code 2 (some .int) ∈ tb := tb_of 209 (by decide +kernel) (by decide +kernel)
theorem ml_J1_38 : Cond.methodLink RJ1 38 Lib.Math.min.name ∈ tb := tb_of 839 (by decide +kernel) (by decide +kernel)
theorem cw_X12_round : Cond.code yX12_round cX12_round 2 (some .int) ∈ tb := tb_of 2346 (by decide +kernel) (by decide +kernel)
theorem mw_X12_round : MW yX12_round cX12_round 2 (some .int) 1 := ⟨cw_X12_round, ini_X12, by decide +kernel⟩
theorem im_X12_round : Cond.instanceMethod yX12_round ∈ tb := tb_of 2345 (by decide +kernel) (by decide +kernel)
theorem se_X12_round : Cond.selects (yX12_round).cls yX12_round yX12_round ∈ tb := tb_of 161 (by decide +kernel) (by decide +kernel)
theorem ml_X12_502 : Cond.methodLink RX12 502 yX12_round ∈ tb := tb_of 2343 (by decide +kernel) (by decide +kernel)
theorem fl_X5_36 : Cond.fieldLink RX5 36 RX5 (TX5 4).2.1 (TX5 4).2.2.1 ∈ tb := tb_of 238 (by decide +kernel) (by decide +kernel)
theorem gf_X5_4 : FI 5 RX5 TX5 10 tyX5 4 2 := ⟨rfl, inb_X5, tyX5_ok, nmX5, by decide, by decide, rfl, rfl, rfl⟩
theorem fl_X5_15 : Cond.fieldLink RX5 15 RX5 (TX5 3).2.1 (TX5 3).2.2.1 ∈ tb := tb_of 237 (by decide +kernel) (by decide +kernel)
theorem gf_X5_3 : FI 5 RX5 TX5 10 tyX5 3 3 := ⟨rfl, inb_X5, tyX5_ok, nmX5, by decide, by decide, rfl, rfl, rfl⟩
theorem lk_3_3 : lks 3 3 = some 5 := by decide +kernel
theorem kq_5 {nu c u : Nat} {K : Nat → Nat} : (Ax nu K c u).1 5 = 14 := kd_lt (K := K) (a := 5) (by decide) rfl
theorem lq_5 {nu c u : Nat} {K : Nat → Nat} : (Ax nu K c u).2.1 5 = 26 := rfl
theorem fl_X5_54 : Cond.fieldLink RX5 54 RX5 (TX5 8).2.1 (TX5 8).2.2.1 ∈ tb := tb_of 242 (by decide +kernel) (by decide +kernel)
theorem gf_X5_8 : FI 5 RX5 TX5 10 tyX5 8 0 := ⟨rfl, inb_X5, tyX5_ok, nmX5, by decide, by decide, rfl, rfl, rfl⟩
theorem fl_X5_120 : Cond.fieldLink RX5 120 RX5 (TX5 6).2.1 (TX5 6).2.2.1 ∈ tb := tb_of 240 (by decide +kernel) (by decide +kernel)
theorem gf_X5_6 : FI 5 RX5 TX5 10 tyX5 6 0 := ⟨rfl, inb_X5, tyX5_ok, nmX5, by decide, by decide, rfl, rfl, rfl⟩
theorem fl_X5_216 : Cond.fieldLink RX5 216 RX5 (TX5 9).2.1 (TX5 9).2.2.1 ∈ tb := tb_of 243 (by decide +kernel) (by decide +kernel)
theorem gf_X5_9 : FI 5 RX5 TX5 10 tyX5 9 0 := ⟨rfl, inb_X5, tyX5_ok, nmX5, by decide, by decide, rfl, rfl, rfl⟩
theorem cw_J0_length_8abf5 : Cond.code yJ0_length_8abf5 cJ0_length_8abf5 1 (some .int) ∈ tb := tb_of 827 (by decide +kernel) (by decide +kernel)
theorem mw_J0_length_8abf5 : MW yJ0_length_8abf5 cJ0_length_8abf5 1 (some .int) 0 := ⟨cw_J0_length_8abf5, ini_J0, by decide +kernel⟩
theorem im_J0_length_8abf5 : Cond.instanceMethod yJ0_length_8abf5 ∈ tb := tb_of 825 (by decide +kernel) (by decide +kernel)
theorem se_J0_length_8abf5 : Cond.selects (yJ0_length_8abf5).cls yJ0_length_8abf5 yJ0_length_8abf5 ∈ tb := tb_of 826 (by decide +kernel) (by decide +kernel)
theorem inb_X8 : ∀ w ∈ u_ws RX8 TX8 3, w ∈ tb := by decide +kernel
theorem fl_X8_15 : Cond.fieldLink RX8 15 RX8 (TX8 1).2.1 (TX8 1).2.2.1 ∈ tb := tb_of 300 (by decide +kernel) (by decide +kernel)
theorem gf_X8_1 : FI 8 RX8 TX8 3 tyX8 1 2 := ⟨rfl, inb_X8, tyX8_ok, nmX8, by decide, by decide, rfl, rfl, rfl⟩
theorem fl_X8_24 : Cond.fieldLink RX8 24 RX8 (TX8 2).2.1 (TX8 2).2.2.1 ∈ tb := tb_of 301 (by decide +kernel) (by decide +kernel)
theorem gf_X8_2 : FI 8 RX8 TX8 3 tyX8 2 0 := ⟨rfl, inb_X8, tyX8_ok, nmX8, by decide, by decide, rfl, rfl, rfl⟩
theorem pf_X8_2 : PI 8 RX8 TX8 3 tyX8 2 0 .boolean := ⟨gf_X8_2, rfl, rfl⟩
theorem ml_X8_74 : Cond.methodLink RX8 74 yX0_size ∈ tb := tb_of 1244 (by decide +kernel) (by decide +kernel)
theorem cw_X0_add : Cond.code yX0_add cX0_add 3 none ∈ tb := tb_of 1248 (by decide +kernel) (by decide +kernel)
theorem mw_X0_add : MW yX0_add cX0_add 3 none 2 := ⟨cw_X0_add, ini_X0, by decide +kernel⟩
theorem im_X0_add : Cond.instanceMethod yX0_add ∈ tb := tb_of 1246 (by decide +kernel) (by decide +kernel)
theorem se_X0_add : Cond.selects (yX0_add).cls yX0_add yX0_add ∈ tb := tb_of 1247 (by decide +kernel) (by decide +kernel)
theorem ml_X8_103 : Cond.methodLink RX8 103 yX0_add ∈ tb := tb_of 1245 (by decide +kernel) (by decide +kernel)
theorem gf_X7_0 : FI 7 RX7 TX7 10 tyX7 0 0 := ⟨rfl, inb_X7, tyX7_ok, nmX7, by decide, by decide, rfl, rfl, rfl⟩
theorem ml_X7_1 : Cond.methodLink RX7 1 Lib.objectInit ∈ tb := tb_of 1016 (by decide +kernel) (by decide +kernel)
theorem im_obj : Cond.instanceMethod Lib.objectInit ∈ tb := tb_of 200 (by decide +kernel) (by decide +kernel)
theorem cw_obj : Cond.code Lib.objectInit ⟨#[0xb1]⟩ 1 none ∈ tb := tb_of 201 (by decide +kernel) (by decide +kernel)
theorem fl_X7_7 : Cond.fieldLink RX7 7 RX7 (TX7 0).2.1 (TX7 0).2.2.1 ∈ tb := tb_of 1017 (by decide +kernel) (by decide +kernel)
theorem fl_X7_13 : Cond.fieldLink RX7 13 RX7 (TX7 1).2.1 (TX7 1).2.2.1 ∈ tb := tb_of 1021 (by decide +kernel) (by decide +kernel)
theorem fl_X7_16 : Cond.fieldLink RX7 16 RX7 (TX7 4).2.1 (TX7 4).2.2.1 ∈ tb := tb_of 1031 (by decide +kernel) (by decide +kernel)
theorem fl_X7_19 : Cond.fieldLink RX7 19 RX7 (TX7 5).2.1 (TX7 5).2.2.1 ∈ tb := tb_of 1035 (by decide +kernel) (by decide +kernel)
theorem pf_X7_5 : PI 7 RX7 TX7 10 tyX7 5 0 .int := ⟨gf_X7_5, rfl, rfl⟩
theorem ini_X7 : Cond.initialized RX7 ∈ tb := tb_of 191 (by decide +kernel) (by decide +kernel)
theorem cw_X7_init : Cond.code yX7_init cX7_init 4 none ∈ tb := tb_of 1015 (by decide +kernel) (by decide +kernel)
theorem mw_X7_init : MW yX7_init cX7_init 4 none 3 := ⟨cw_X7_init, ini_X7, by decide +kernel⟩
theorem im_X7_init : Cond.instanceMethod yX7_init ∈ tb := tb_of 1014 (by decide +kernel) (by decide +kernel)
theorem ml_X5_201 : Cond.methodLink RX5 201 yX7_init ∈ tb := tb_of 1013 (by decide +kernel) (by decide +kernel)
theorem cn_X5_127 : Cond.classLink RX5 127 RX7 ∈ tb := tb_of 1007 (by decide +kernel) (by decide +kernel)
theorem ins_X7 : Cond.instantiable RX7 10 ∈ tb := tb_of 1008 (by decide +kernel) (by decide +kernel)
theorem pn_X7 : PN 7 RX7 TX7 10 tyX7 := ⟨rfl, inb_X7, tyX7_ok, by decide, rfl, by decide +kernel, ins_X7, ini_X7⟩
theorem cw_X4_size : Cond.code yX4_size cX4_size 1 (some .int) ∈ tb := tb_of 1012 (by decide +kernel) (by decide +kernel)
theorem mw_X4_size : MW yX4_size cX4_size 1 (some .int) 0 := ⟨cw_X4_size, ini_X4, by decide +kernel⟩
theorem im_X4_size : Cond.instanceMethod yX4_size ∈ tb := tb_of 1010 (by decide +kernel) (by decide +kernel)
theorem se_X4_size : Cond.selects (yX4_size).cls yX4_size yX4_size ∈ tb := tb_of 1011 (by decide +kernel) (by decide +kernel)
theorem ml_X5_198 : Cond.methodLink RX5 198 yX4_size ∈ tb := tb_of 1009 (by decide +kernel) (by decide +kernel)
theorem cw_J0_checkIndex_df160 : Cond.code yJ0_checkIndex_df160 cJ0_checkIndex_df160 2 none ∈ tb := tb_of 920 (by decide +kernel) (by decide +kernel)
theorem mw_J0_checkIndex_df160 : MW yJ0_checkIndex_df160 cJ0_checkIndex_df160 2 none 2 := ⟨cw_J0_checkIndex_df160, ini_J0, by decide +kernel⟩
theorem sm_J0_checkIndex_df160 : Cond.static yJ0_checkIndex_df160 ∈ tb := tb_of 919 (by decide +kernel) (by decide +kernel)
theorem ml_J1_9 : Cond.methodLink RJ1 9 yJ0_checkIndex_df160 ∈ tb := tb_of 918 (by decide +kernel) (by decide +kernel)
theorem cw_J1_indexOfChar_4cfef : Cond.code yJ1_indexOfChar_4cfef cJ1_indexOfChar_4cfef 6 (some .int) ∈ tb := tb_of 842 (by decide +kernel) (by decide +kernel)
theorem mw_J1_indexOfChar_4cfef : MW yJ1_indexOfChar_4cfef cJ1_indexOfChar_4cfef 6 (some .int) 4 := ⟨cw_J1_indexOfChar_4cfef, ini_J1, by decide +kernel⟩
theorem sm_J1_indexOfChar_4cfef : Cond.static yJ1_indexOfChar_4cfef ∈ tb := tb_of 841 (by decide +kernel) (by decide +kernel)
theorem ml_J1_95 : Cond.methodLink RJ1 95 yJ1_indexOfChar_4cfef ∈ tb := tb_of 840 (by decide +kernel) (by decide +kernel)
theorem cw_J0_isLatin1_aae02 : Cond.code yJ0_isLatin1_aae02 cJ0_isLatin1_aae02 1 (some .boolean) ∈ tb := tb_of 821 (by decide +kernel) (by decide +kernel)
theorem mw_J0_isLatin1_aae02 : MW yJ0_isLatin1_aae02 cJ0_isLatin1_aae02 1 (some .boolean) 0 := ⟨cw_J0_isLatin1_aae02, ini_J0, by decide +kernel⟩
theorem im_J0_isLatin1_aae02 : Cond.instanceMethod yJ0_isLatin1_aae02 ∈ tb := tb_of 819 (by decide +kernel) (by decide +kernel)
theorem se_J0_isLatin1_aae02 : Cond.selects (yJ0_isLatin1_aae02).cls yJ0_isLatin1_aae02 yJ0_isLatin1_aae02 ∈ tb := tb_of 820 (by decide +kernel) (by decide +kernel)
theorem ml_J0_492 : Cond.methodLink RJ0 492 yJ0_isLatin1_aae02 ∈ tb := tb_of 818 (by decide +kernel) (by decide +kernel)
theorem cw_J1_charAt_3b067 : Cond.code yJ1_charAt_3b067 cJ1_charAt_3b067 2 (some .char) ∈ tb := tb_of 917 (by decide +kernel) (by decide +kernel)
theorem mw_J1_charAt_3b067 : MW yJ1_charAt_3b067 cJ1_charAt_3b067 2 (some .char) 2 := ⟨cw_J1_charAt_3b067, ini_J1, by decide +kernel⟩
theorem sm_J1_charAt_3b067 : Cond.static yJ1_charAt_3b067 ∈ tb := tb_of 916 (by decide +kernel) (by decide +kernel)
theorem ml_J0_495 : Cond.methodLink RJ0 495 yJ1_charAt_3b067 ∈ tb := tb_of 915 (by decide +kernel) (by decide +kernel)
theorem ml_J0_505 : Cond.methodLink RJ0 505 yJ0_length_8abf5 ∈ tb := tb_of 824 (by decide +kernel) (by decide +kernel)
theorem cw_J1_indexOf_4cfef : Cond.code yJ1_indexOf_4cfef cJ1_indexOf_4cfef 4 (some .int) ∈ tb := tb_of 834 (by decide +kernel) (by decide +kernel)
theorem mw_J1_indexOf_4cfef : MW yJ1_indexOf_4cfef cJ1_indexOf_4cfef 4 (some .int) 4 := ⟨cw_J1_indexOf_4cfef, ini_J1, by decide +kernel⟩
theorem sm_J1_indexOf_4cfef : Cond.static yJ1_indexOf_4cfef ∈ tb := tb_of 833 (by decide +kernel) (by decide +kernel)
theorem ml_J0_637 : Cond.methodLink RJ0 637 yJ1_indexOf_4cfef ∈ tb := tb_of 832 (by decide +kernel) (by decide +kernel)
def f_X5_roleHere_b37 (s0 : Int32) (D : Dat) : Option (Int32 × Dat) :=
  some (s0, D)
set_option maxHeartbeats 4000000 in
theorem w_X5_roleHere_b37 {X : Cx} {n nu c u : Nat} {K : Nat → Nat} {z : Int32 × Dat} (O : Ok X cX5_roleHere RX5 (some .int) 0 0) (hm : wlm (xw X) = true) (hn : xn X = 1) (hz : Z0 X (Ax nu K c u)) (s0 : Int32) (D : Dat) (h : f_X5_roleHere_b37 s0 D = some z) : V X (Q0 X n (Ax nu K c u) (some (.int z.1)) z.2) n (Ax nu K c u) D 37 [] [.int s0] := by
  unfold f_X5_roleHere_b37 at h
  obtain rfl := Option.some.inj h
  exact v_iret (pc := 37) O hz dX5_roleHere_37
def f_X5_roleHere_b36 (D : Dat) : Option (Int32 × Dat) :=
  f_X5_roleHere_b37 (-1) D
set_option maxHeartbeats 4000000 in
theorem w_X5_roleHere_b36 {X : Cx} {n nu c u : Nat} {K : Nat → Nat} {z : Int32 × Dat} (O : Ok X cX5_roleHere RX5 (some .int) 0 0) (hm : wlm (xw X) = true) (hn : xn X = 1) (hz : Z0 X (Ax nu K c u)) (D : Dat) (h : f_X5_roleHere_b36 D = some z) : V X (Q0 X n (Ax nu K c u) (some (.int z.1)) z.2) n (Ax nu K c u) D 36 [] [] := by
  unfold f_X5_roleHere_b36 at h
  refine v_iconst (pc := 36) O dX5_roleHere_36 ic_m1 ?_
  refine v_sub [] rfl ?_
  exact w_X5_roleHere_b37 O hm hn hz (-1) D h
def f_X5_roleHere (D : Dat) : Option (Int32 × Dat) :=
  if (dI D 3 6) = 1 then (if (dI D 3 9) < 0 then (f_X5_roleHere_b36 D) else (if 26 ≤ (dI D 3 9) then (f_X5_roleHere_b36 D) else (if (dI D 3 9) < 0 ∨ 26 ≤ ((dI D 3 9)).toNatClampNeg then none else (f_X5_roleHere_b37 (dI D 5 (dI D 3 9).toNatClampNeg) D)))) else (f_X5_roleHere_b36 D)
set_option maxHeartbeats 4000000 in
theorem w_X5_roleHere {X : Cx} {n nu c u : Nat} {K : Nat → Nat} {z : Int32 × Dat} (O : Ok X cX5_roleHere RX5 (some .int) 0 0) (hm : wlm (xw X) = true) (hn : xn X = 1) (hz : Z0 X (Ax nu K c u)) (D : Dat) (h : f_X5_roleHere D = some z) : V X (Q0 X n (Ax nu K c u) (some (.int z.1)) z.2) n (Ax nu K c u) D 0 [(0, .ref (bo X + 3))] [] := by
  unfold f_X5_roleHere at h
  refine v_aload_n (pc := 0) O dX5_roleHere_0 0 rfl ?_
  refine v_getI (pc := 1) (a := 3) O gf_X5_6 fl_X5_120 kq_3 dX5_roleHere_1 ?_
  refine v_iconst (pc := 4) O dX5_roleHere_4 ic_1 ?_
  refine v_icmpne (pc := 5) 36 O dX5_roleHere_5 (by decide) (fun c1 => ?_) (fun c1 => ?_)
  · have h := (if_neg c1).symm.trans h
    refine v_sub [] rfl ?_
    exact w_X5_roleHere_b36 O hm hn hz D h
  · have h := (if_pos c1).symm.trans h
    refine v_aload_n (pc := 8) O dX5_roleHere_8 0 rfl ?_
    refine v_getI (pc := 9) (a := 3) O gf_X5_9 fl_X5_216 kq_3 dX5_roleHere_9 ?_
    refine v_iflt (pc := 12) 36 O dX5_roleHere_12 (by decide) (fun c2 => ?_) (fun c2 => ?_)
    · have h := (if_pos c2).symm.trans h
      refine v_sub [] rfl ?_
      exact w_X5_roleHere_b36 O hm hn hz D h
    · have h := (if_neg c2).symm.trans h
      refine v_aload_n (pc := 15) O dX5_roleHere_15 0 rfl ?_
      refine v_getI (pc := 16) (a := 3) O gf_X5_9 fl_X5_216 kq_3 dX5_roleHere_16 ?_
      refine v_bipush (pc := 19) O dX5_roleHere_19 bp_26 ?_
      refine v_icmpge (pc := 21) 36 O dX5_roleHere_21 (by decide) (fun c3 => ?_) (fun c3 => ?_)
      · have h := (if_pos c3).symm.trans h
        refine v_sub [] rfl ?_
        exact w_X5_roleHere_b36 O hm hn hz D h
      · have h := (if_neg c3).symm.trans h
        refine v_aload_n (pc := 24) O dX5_roleHere_24 0 rfl ?_
        refine v_getK (pc := 25) (a := 3) O hm gf_X5_3 fl_X5_15 kq_3 lk_3_3 dX5_roleHere_25 ?_
        refine v_aload_n (pc := 28) O dX5_roleHere_28 0 rfl ?_
        refine v_getI (pc := 29) (a := 3) O gf_X5_9 fl_X5_216 kq_3 dX5_roleHere_29 ?_
        obtain ⟨c4, h⟩ := or_none h
        refine v_iald (pc := 32) (a := 5) O kq_5 (inq lq_5 c4) dX5_roleHere_32 ?_
        refine v_goto (pc := 33) 37 O dX5_roleHere_33 (by decide) ?_
        refine v_sub [] rfl ?_
        exact w_X5_roleHere_b37 O hm hn hz (dI D 5 (dI D 3 9).toNatClampNeg) D h
theorem c_X5_roleHere {l : Launch} {w : Wx} {n nu c u : Nat} {K : Nat → Nat} (hm : wlm w = true) {D : Dat} {z : Int32 × Dat} (h : f_X5_roleHere D = some z) : C0 l w yX5_roleHere cX5_roleHere 1 (some .int) 0 0 [.ref (wb w + 3)] n (Ax nu K c u) D (some (.int z.1)) z.2 :=
  C0.of (by decide) (Nat.le_of_ble_eq_true rfl) (fun X e1 e2 e3 hz O => by
  subst e1
  subst e2
  exact w_X5_roleHere O hm e3 hz  D h)
def f_X5_setRole_b17 (D : Dat) : Option (Dat) :=
  some D
set_option maxHeartbeats 4000000 in
theorem w_X5_setRole_b17 {X : Cx} {n nu c u : Nat} {K : Nat → Nat} {z : Dat} (O : Ok X cX5_setRole RX5 none 0 0) (hm : wlm (xw X) = true) (hn : xn X = 3) (hz : Z0 X (Ax nu K c u)) (D : Dat) (h : f_X5_setRole_b17 D = some z) : V X (Q0 X n (Ax nu K c u) none z) n (Ax nu K c u) D 17 [] [] := by
  unfold f_X5_setRole_b17 at h
  obtain rfl := Option.some.inj h
  exact v_ret (pc := 17) O hz dX5_setRole_17
def f_X5_setRole (x1 : Int32) (x2 : Int32) (D : Dat) : Option (Dat) :=
  if x1 < 0 then (f_X5_setRole_b17 D) else (if 26 ≤ x1 then (f_X5_setRole_b17 D) else (if x1 < 0 ∨ 26 ≤ (x1).toNatClampNeg then none else (f_X5_setRole_b17 (sI D 5 (x1).toNatClampNeg x2))))
set_option maxHeartbeats 4000000 in
theorem w_X5_setRole {X : Cx} {n nu c u : Nat} {K : Nat → Nat} {z : Dat} (O : Ok X cX5_setRole RX5 none 0 0) (hm : wlm (xw X) = true) (hn : xn X = 3) (hz : Z0 X (Ax nu K c u)) (x1 : Int32) (x2 : Int32) (D : Dat) (h : f_X5_setRole x1 x2 D = some z) : V X (Q0 X n (Ax nu K c u) none z) n (Ax nu K c u) D 0 [(0, .ref (bo X + 3)), (1, .int x1), (2, .int x2)] [] := by
  unfold f_X5_setRole at h
  refine v_iload_n (pc := 0) O dX5_setRole_0 1 rfl ?_
  refine v_iflt (pc := 1) 17 O dX5_setRole_1 (by decide) (fun c1 => ?_) (fun c1 => ?_)
  · have h := (if_pos c1).symm.trans h
    refine v_sub [] rfl ?_
    exact w_X5_setRole_b17 O hm hn hz D h
  · have h := (if_neg c1).symm.trans h
    refine v_iload_n (pc := 4) O dX5_setRole_4 1 rfl ?_
    refine v_bipush (pc := 5) O dX5_setRole_5 bp_26 ?_
    refine v_icmpge (pc := 7) 17 O dX5_setRole_7 (by decide) (fun c2 => ?_) (fun c2 => ?_)
    · have h := (if_pos c2).symm.trans h
      refine v_sub [] rfl ?_
      exact w_X5_setRole_b17 O hm hn hz D h
    · have h := (if_neg c2).symm.trans h
      refine v_aload_n (pc := 10) O dX5_setRole_10 0 rfl ?_
      refine v_getK (pc := 11) (a := 3) O hm gf_X5_3 fl_X5_15 kq_3 lk_3_3 dX5_setRole_11 ?_
      refine v_iload_n (pc := 14) O dX5_setRole_14 1 rfl ?_
      refine v_iload_n (pc := 15) O dX5_setRole_15 2 rfl ?_
      obtain ⟨c3, h⟩ := or_none h
      refine v_iast (pc := 16) (a := 5) O kq_5 (inq lq_5 c3) dX5_setRole_16 ?_
      refine v_sub [] rfl ?_
      exact w_X5_setRole_b17 O hm hn hz (sI D 5 (x1).toNatClampNeg x2) h
theorem c_X5_setRole {l : Launch} {w : Wx} {n nu c u : Nat} {K : Nat → Nat} (hm : wlm w = true) {x1 : Int32} {x2 : Int32} {D : Dat} {z : Dat} (h : f_X5_setRole x1 x2 D = some z) : C0 l w yX5_setRole cX5_setRole 3 none 0 0 [.ref (wb w + 3), .int x1, .int x2] n (Ax nu K c u) D none z :=
  C0.of (by decide) (Nat.le_of_ble_eq_true rfl) (fun X e1 e2 e3 hz O => by
  subst e1
  subst e2
  exact w_X5_setRole O hm e3 hz x1 x2 D h)
def f_X5_numberHere_b44 (N : Nat) (x1 : Int32) (D : Dat) : Option (Int32 × Dat) :=
  some (x1, D)
set_option maxHeartbeats 4000000 in
theorem w_X5_numberHere_b44 {X : Cx} {n nu c u : Nat} {K : Nat → Nat} {N : Nat} {z : Int32 × Dat} (O : Ok X cX5_numberHere RX5 (some .int) 0 0) (hm : wlm (xw X) = true) (hn : xn X = 3) (hz : Z0 X (Ax nu K c u)) (x1 : Int32) (D : Dat) (h : f_X5_numberHere_b44 N x1 D = some z) : V X (Q0 X n (Ax nu K c u) (some (.int z.1)) z.2) n (Ax nu K c u) D 44 [(1, .int x1)] [] := by
  unfold f_X5_numberHere_b44 at h
  refine v_iload_n (pc := 44) O dX5_numberHere_44 0 rfl ?_
  obtain rfl := Option.some.inj h
  exact v_iret (pc := 45) O hz dX5_numberHere_45
def f_X5_numberHere_b7 (N : Nat) : Nat → Int32 → Int32 → Dat → Option (Int32 × Dat)
  | 0, _, _, _ => none
  | g + 1, x1, x2, D => if (dI D 3 8) ≤ x2 then (f_X5_numberHere_b44 N x1 D) else (if (dI D 3 2) ≤ x2 then (f_X5_numberHere_b44 N x1 D) else (if x2 < 0 ∨ 240 ≤ (x2).toNatClampNeg then none else ((f_X5_numberHere_b7 N g) (((10 : Int32) * x1) + ((dI D 4 (x2).toNatClampNeg) - (48 : Int32))) (x2 + 1) D)))
set_option maxHeartbeats 4000000 in
theorem w_X5_numberHere_b7 {X : Cx} {n nu c u : Nat} {K : Nat → Nat} {N : Nat} {z : Int32 × Dat} (O : Ok X cX5_numberHere RX5 (some .int) 0 0) (hm : wlm (xw X) = true) (hn : xn X = 3) (hz : Z0 X (Ax nu K c u)) : ∀ (g : Nat) (x1 : Int32) (x2 : Int32) (D : Dat), f_X5_numberHere_b7 N g x1 x2 D = some z → V X (Q0 X n (Ax nu K c u) (some (.int z.1)) z.2) n (Ax nu K c u) D 7 [(0, .ref (bo X + 3)), (1, .int x1), (2, .int x2)] [] := by
  intro g
  induction g with
  | zero => intro x1 x2 D h; exact absurd h (by simp [f_X5_numberHere_b7])
  | succ g ih =>
    intro x1 x2 D h
    rw [f_X5_numberHere_b7] at h
    refine v_iload_n (pc := 7) O dX5_numberHere_7 2 rfl ?_
    refine v_aload_n (pc := 8) O dX5_numberHere_8 0 rfl ?_
    refine v_getI (pc := 9) (a := 3) O gf_X5_8 fl_X5_54 kq_3 dX5_numberHere_9 ?_
    refine v_icmpge (pc := 12) 44 O dX5_numberHere_12 (by decide) (fun c1 => ?_) (fun c1 => ?_)
    · have h := (if_pos c1).symm.trans h
      refine v_sub [1] rfl ?_
      exact w_X5_numberHere_b44 O hm hn hz x1 D h
    · have h := (if_neg c1).symm.trans h
      refine v_iload_n (pc := 15) O dX5_numberHere_15 2 rfl ?_
      refine v_aload_n (pc := 16) O dX5_numberHere_16 0 rfl ?_
      refine v_getI (pc := 17) (a := 3) O gf_X5_2 fl_X5_23 kq_3 dX5_numberHere_17 ?_
      refine v_icmpge (pc := 20) 44 O dX5_numberHere_20 (by decide) (fun c2 => ?_) (fun c2 => ?_)
      · have h := (if_pos c2).symm.trans h
        refine v_sub [1] rfl ?_
        exact w_X5_numberHere_b44 O hm hn hz x1 D h
      · have h := (if_neg c2).symm.trans h
        refine v_bipush (pc := 23) O dX5_numberHere_23 bp_10 ?_
        refine v_iload_n (pc := 25) O dX5_numberHere_25 1 rfl ?_
        refine v_imul (pc := 26) O dX5_numberHere_26 ?_
        refine v_aload_n (pc := 27) O dX5_numberHere_27 0 rfl ?_
        refine v_getK (pc := 28) (a := 3) O hm gf_X5_1 fl_X5_9 kq_3 lk_3_1 dX5_numberHere_28 ?_
        refine v_iload_n (pc := 31) O dX5_numberHere_31 2 rfl ?_
        obtain ⟨c3, h⟩ := or_none h
        refine v_cald (pc := 32) (a := 4) O kq_4 (inq lq_4 c3) dX5_numberHere_32 ?_
        refine v_bipush (pc := 33) O dX5_numberHere_33 bp_48 ?_
        refine v_isub (pc := 35) O dX5_numberHere_35 ?_
        refine v_iadd (pc := 36) O dX5_numberHere_36 ?_
        refine v_istore_n (pc := 37) (lv' := [(1, .int (((10 : Int32) * x1) + ((dI D 4 (x2).toNatClampNeg) - (48 : Int32)))), (0, .ref (bo X + 3)), (2, .int x2)]) O dX5_numberHere_37 rfl (by rw [hn]; decide) rfl ?_
        refine v_iinc (pc := 38) (lv' := [(2, .int (x2 + 1)), (1, .int (((10 : Int32) * x1) + ((dI D 4 (x2).toNatClampNeg) - (48 : Int32)))), (0, .ref (bo X + 3))]) O dX5_numberHere_38 2 rfl (congrArg (fun q => x2 + q) ic_1) (by rw [hn]; decide) rfl ?_
        refine v_goto (pc := 41) 7 O dX5_numberHere_41 (by decide) ?_
        refine v_sub [2, 1, 0] rfl ?_
        exact ih (((10 : Int32) * x1) + ((dI D 4 (x2).toNatClampNeg) - (48 : Int32))) (x2 + 1) D h
def f_X5_numberHere (N : Nat) (D : Dat) : Option (Int32 × Dat) :=
  f_X5_numberHere_b7 N N 0 (dI D 3 7) D
set_option maxHeartbeats 4000000 in
theorem w_X5_numberHere {X : Cx} {n nu c u : Nat} {K : Nat → Nat} {N : Nat} {z : Int32 × Dat} (O : Ok X cX5_numberHere RX5 (some .int) 0 0) (hm : wlm (xw X) = true) (hn : xn X = 3) (hz : Z0 X (Ax nu K c u)) (D : Dat) (h : f_X5_numberHere N D = some z) : V X (Q0 X n (Ax nu K c u) (some (.int z.1)) z.2) n (Ax nu K c u) D 0 [(0, .ref (bo X + 3))] [] := by
  unfold f_X5_numberHere at h
  refine v_iconst (pc := 0) O dX5_numberHere_0 ic_0 ?_
  refine v_istore_n (pc := 1) (lv' := [(1, .int 0), (0, .ref (bo X + 3))]) O dX5_numberHere_1 rfl (by rw [hn]; decide) rfl ?_
  refine v_aload_n (pc := 2) O dX5_numberHere_2 1 rfl ?_
  refine v_getI (pc := 3) (a := 3) O gf_X5_7 fl_X5_27 kq_3 dX5_numberHere_3 ?_
  refine v_istore_n (pc := 6) (lv' := [(2, .int (dI D 3 7)), (1, .int 0), (0, .ref (bo X + 3))]) O dX5_numberHere_6 rfl (by rw [hn]; decide) rfl ?_
  refine v_sub [2, 1, 0] rfl ?_
  exact w_X5_numberHere_b7 O hm hn hz N 0 (dI D 3 7) D h
theorem c_X5_numberHere {l : Launch} {w : Wx} {n nu c u : Nat} {K : Nat → Nat} {N : Nat} (hm : wlm w = true) {D : Dat} {z : Int32 × Dat} (h : f_X5_numberHere N D = some z) : C0 l w yX5_numberHere cX5_numberHere 3 (some .int) 0 0 [.ref (wb w + 3)] n (Ax nu K c u) D (some (.int z.1)) z.2 :=
  C0.of (by decide) (Nat.le_of_ble_eq_true rfl) (fun X e1 e2 e3 hz O => by
  subst e1
  subst e2
  exact w_X5_numberHere O hm e3 hz  D h)
def f_X5_nameHere_b40 (s0 : Int32) (D : Dat) : Option (Int32 × Dat) :=
  some (s0, D)
set_option maxHeartbeats 4000000 in
theorem w_X5_nameHere_b40 {X : Cx} {n nu c u : Nat} {K : Nat → Nat} {z : Int32 × Dat} (O : Ok X cX5_nameHere RX5 (some .int) 0 0) (hm : wlm (xw X) = true) (hn : xn X = 1) (hz : Z0 X (Ax nu K c u)) (s0 : Int32) (D : Dat) (h : f_X5_nameHere_b40 s0 D = some z) : V X (Q0 X n (Ax nu K c u) (some (.int z.1)) z.2) n (Ax nu K c u) D 40 [] [.int s0] := by
  unfold f_X5_nameHere_b40 at h
  obtain rfl := Option.some.inj h
  exact v_iret (pc := 40) O hz dX5_nameHere_40
def f_X5_nameHere_b39 (D : Dat) : Option (Int32 × Dat) :=
  f_X5_nameHere_b40 (-1) D
set_option maxHeartbeats 4000000 in
theorem w_X5_nameHere_b39 {X : Cx} {n nu c u : Nat} {K : Nat → Nat} {z : Int32 × Dat} (O : Ok X cX5_nameHere RX5 (some .int) 0 0) (hm : wlm (xw X) = true) (hn : xn X = 1) (hz : Z0 X (Ax nu K c u)) (D : Dat) (h : f_X5_nameHere_b39 D = some z) : V X (Q0 X n (Ax nu K c u) (some (.int z.1)) z.2) n (Ax nu K c u) D 39 [] [] := by
  unfold f_X5_nameHere_b39 at h
  refine v_iconst (pc := 39) O dX5_nameHere_39 ic_m1 ?_
  refine v_sub [] rfl ?_
  exact w_X5_nameHere_b40 O hm hn hz (-1) D h
def f_X5_nameHere (D : Dat) : Option (Int32 × Dat) :=
  if ((dI D 3 8) - (dI D 3 7)) = 1 then (if (dI D 3 2) ≤ (dI D 3 7) then (f_X5_nameHere_b39 D) else (if (dI D 3 7) < 0 ∨ 240 ≤ ((dI D 3 7)).toNatClampNeg then none else (f_X5_nameHere_b40 ((dI D 4 (dI D 3 7).toNatClampNeg) - (97 : Int32)) D))) else (f_X5_nameHere_b39 D)
set_option maxHeartbeats 4000000 in
theorem w_X5_nameHere {X : Cx} {n nu c u : Nat} {K : Nat → Nat} {z : Int32 × Dat} (O : Ok X cX5_nameHere RX5 (some .int) 0 0) (hm : wlm (xw X) = true) (hn : xn X = 1) (hz : Z0 X (Ax nu K c u)) (D : Dat) (h : f_X5_nameHere D = some z) : V X (Q0 X n (Ax nu K c u) (some (.int z.1)) z.2) n (Ax nu K c u) D 0 [(0, .ref (bo X + 3))] [] := by
  unfold f_X5_nameHere at h
  refine v_aload_n (pc := 0) O dX5_nameHere_0 0 rfl ?_
  refine v_getI (pc := 1) (a := 3) O gf_X5_8 fl_X5_54 kq_3 dX5_nameHere_1 ?_
  refine v_aload_n (pc := 4) O dX5_nameHere_4 0 rfl ?_
  refine v_getI (pc := 5) (a := 3) O gf_X5_7 fl_X5_27 kq_3 dX5_nameHere_5 ?_
  refine v_isub (pc := 8) O dX5_nameHere_8 ?_
  refine v_iconst (pc := 9) O dX5_nameHere_9 ic_1 ?_
  refine v_icmpne (pc := 10) 39 O dX5_nameHere_10 (by decide) (fun c1 => ?_) (fun c1 => ?_)
  · have h := (if_neg c1).symm.trans h
    refine v_sub [] rfl ?_
    exact w_X5_nameHere_b39 O hm hn hz D h
  · have h := (if_pos c1).symm.trans h
    refine v_aload_n (pc := 13) O dX5_nameHere_13 0 rfl ?_
    refine v_getI (pc := 14) (a := 3) O gf_X5_7 fl_X5_27 kq_3 dX5_nameHere_14 ?_
    refine v_aload_n (pc := 17) O dX5_nameHere_17 0 rfl ?_
    refine v_getI (pc := 18) (a := 3) O gf_X5_2 fl_X5_23 kq_3 dX5_nameHere_18 ?_
    refine v_icmpge (pc := 21) 39 O dX5_nameHere_21 (by decide) (fun c2 => ?_) (fun c2 => ?_)
    · have h := (if_pos c2).symm.trans h
      refine v_sub [] rfl ?_
      exact w_X5_nameHere_b39 O hm hn hz D h
    · have h := (if_neg c2).symm.trans h
      refine v_aload_n (pc := 24) O dX5_nameHere_24 0 rfl ?_
      refine v_getK (pc := 25) (a := 3) O hm gf_X5_1 fl_X5_9 kq_3 lk_3_1 dX5_nameHere_25 ?_
      refine v_aload_n (pc := 28) O dX5_nameHere_28 0 rfl ?_
      refine v_getI (pc := 29) (a := 3) O gf_X5_7 fl_X5_27 kq_3 dX5_nameHere_29 ?_
      obtain ⟨c3, h⟩ := or_none h
      refine v_cald (pc := 32) (a := 4) O kq_4 (inq lq_4 c3) dX5_nameHere_32 ?_
      refine v_bipush (pc := 33) O dX5_nameHere_33 bp_97 ?_
      refine v_isub (pc := 35) O dX5_nameHere_35 ?_
      refine v_goto (pc := 36) 40 O dX5_nameHere_36 (by decide) ?_
      refine v_sub [] rfl ?_
      exact w_X5_nameHere_b40 O hm hn hz ((dI D 4 (dI D 3 7).toNatClampNeg) - (97 : Int32)) D h
theorem c_X5_nameHere {l : Launch} {w : Wx} {n nu c u : Nat} {K : Nat → Nat} (hm : wlm w = true) {D : Dat} {z : Int32 × Dat} (h : f_X5_nameHere D = some z) : C0 l w yX5_nameHere cX5_nameHere 1 (some .int) 0 0 [.ref (wb w + 3)] n (Ax nu K c u) D (some (.int z.1)) z.2 :=
  C0.of (by decide) (Nat.le_of_ble_eq_true rfl) (fun X e1 e2 e3 hz O => by
  subst e1
  subst e2
  exact w_X5_nameHere O hm e3 hz  D h)
def f_X8_emit_b17 (x1 : Int32) (x2 : Int32) (D : Dat) : Option (Dat) :=
  ((dR D 106 1)).bind (fun a1 => if a1 = 201 ∨ a1 = 204 then ((f_X0_add a1 x1 x2 D).bind (fun p4 => some p4)) else none)
set_option maxHeartbeats 4000000 in
theorem w_X8_emit_b17 {X : Cx} {n nu c u : Nat} {K : Nat → Nat} {z : Dat} (O : Ok X cX8_emit RX8 none 1 22) (hm : wlm (xw X) = true) (hn : xn X = 3) (hz : Z0 X (Ax nu K c u)) (x1 : Int32) (x2 : Int32) (D : Dat) (h : f_X8_emit_b17 x1 x2 D = some z) : V X (Q0 X n (Ax nu K c u) none z) n (Ax nu K c u) D 17 [(0, .ref (bo X + 106)), (1, .int x1), (2, .int x2)] [] := by
  unfold f_X8_emit_b17 at h
  refine v_aload_n (pc := 17) O dX8_emit_17 0 rfl ?_
  refine v_getR (pc := 18) (a := 106) O gf_X8_1 fl_X8_15 kq_106 dX8_emit_18 ?_
  refine v_iload_n (pc := 21) O dX8_emit_21 1 rfl ?_
  refine v_iload_n (pc := 22) O dX8_emit_22 2 rfl ?_
  obtain ⟨a1, e2, h⟩ := bind_some h
  rw [e2]
  obtain ⟨c3, h⟩ := if_none h
  obtain ⟨p4, e5, h⟩ := bind_some h
  refine v_callV (pc := 23) (a := a1) (As := [.int x1, .int x2]) (rest := []) (r := none) (D' := p4) O (bb0 hz) (c_X0_add hm c3 e5) mw_X0_add im_X0_add se_X0_add ml_X8_103 (kt_X0 c3) (by decide) rfl rfl rfl (by decide) (by decide) (Nat.le_of_ble_eq_true rfl) dX8_emit_23 rfl rfl ?_
  obtain rfl := Option.some.inj h
  exact v_ret (pc := 26) O hz dX8_emit_26
def f_X8_emit (x1 : Int32) (x2 : Int32) (D : Dat) : Option (Dat) :=
  ((dR D 106 1)).bind (fun a6 => if a6 = 201 ∨ a6 = 204 then ((f_X0_size a6 D).bind (fun p9 => if p9.1 < 64 then (f_X8_emit_b17 x1 x2 p9.2) else (f_X8_emit_b17 x1 x2 (sI p9.2 106 2 1)))) else none)
set_option maxHeartbeats 4000000 in
theorem w_X8_emit {X : Cx} {n nu c u : Nat} {K : Nat → Nat} {z : Dat} (O : Ok X cX8_emit RX8 none 1 22) (hm : wlm (xw X) = true) (hn : xn X = 3) (hz : Z0 X (Ax nu K c u)) (x1 : Int32) (x2 : Int32) (D : Dat) (h : f_X8_emit x1 x2 D = some z) : V X (Q0 X n (Ax nu K c u) none z) n (Ax nu K c u) D 0 [(0, .ref (bo X + 106)), (1, .int x1), (2, .int x2)] [] := by
  unfold f_X8_emit at h
  refine v_aload_n (pc := 0) O dX8_emit_0 0 rfl ?_
  refine v_getR (pc := 1) (a := 106) O gf_X8_1 fl_X8_15 kq_106 dX8_emit_1 ?_
  obtain ⟨a6, e7, h⟩ := bind_some h
  rw [e7]
  obtain ⟨c8, h⟩ := if_none h
  obtain ⟨p9, e10, h⟩ := bind_some h
  refine v_callV (pc := 4) (a := a6) (As := []) (rest := []) (r := (some (.int p9.1))) (D' := p9.2) O (bb0 hz) (c_X0_size hm c8 e10) mw_X0_size im_X0_size se_X0_size ml_X8_74 (kt_X0 c8) (by decide) rfl rfl rfl (by decide) (by decide) (Nat.le_of_ble_eq_true rfl) dX8_emit_4 rfl rfl ?_
  refine v_bipush (pc := 7) O dX8_emit_7 bp_64 ?_
  refine v_icmplt (pc := 9) 17 O dX8_emit_9 (by decide) (fun c11 => ?_) (fun c11 => ?_)
  · have h := (if_pos c11).symm.trans h
    refine v_sub [0, 1, 2] rfl ?_
    exact w_X8_emit_b17 O hm hn hz x1 x2 p9.2 h
  · have h := (if_neg c11).symm.trans h
    refine v_aload_n (pc := 12) O dX8_emit_12 0 rfl ?_
    refine v_iconst (pc := 13) O dX8_emit_13 ic_1 ?_
    refine v_putZ (pc := 14) (a := 106) O pf_X8_2 fl_X8_24 kq_106 narrow_b1 dX8_emit_14 ?_
    refine v_sub [0, 1, 2] rfl ?_
    exact w_X8_emit_b17 O hm hn hz x1 x2 (sI p9.2 106 2 1) h
theorem c_X8_emit {l : Launch} {w : Wx} {n nu c u : Nat} {K : Nat → Nat} (hm : wlm w = true) {x1 : Int32} {x2 : Int32} {D : Dat} {z : Dat} (h : f_X8_emit x1 x2 D = some z) : C0 l w yX8_emit cX8_emit 3 none 1 22 [.ref (wb w + 106), .int x1, .int x2] n (Ax nu K c u) D none z :=
  C0.of (by decide) (Nat.le_of_ble_eq_true rfl) (fun X e1 e2 e3 hz O => by
  subst e1
  subst e2
  exact w_X8_emit O hm e3 hz x1 x2 D h)
def f_X7_init (t : Nat) (x1 x2 x3 : Int32) (D : Dat) : Dat := sI (sI (sI (sI D t 0 x1) t 1 x2) t 4 x3) t 5 x3
set_option maxHeartbeats 4000000 in
theorem c_X7_init {l : Launch} {w : Wx} {n : Nat} {A : Al} {t : Nat} (ha : A.1 t = 7) {x1 x2 x3 : Int32} {D : Dat} : C0 l w yX7_init cX7_init 4 none 1 20 [.ref (wb w + t), .int x1, .int x2, .int x3] n A D none (f_X7_init t x1 x2 x3 D) :=
  C0.ofI (by decide) (Nat.le_of_ble_eq_true rfl) (fun X e1 e2 e3 hi hz O => by
  subst e1
  subst e2
  show V X _ n A D 0 [(0, .ref (bo X + t)), (1, .int x1), (2, .int x2), (3, .int x3)] []
  refine v_aload_n (pc := 0) O dX7_init_0 0 rfl ?_
  refine v_objInit (pc := 1) O ml_X7_1 im_obj cw_obj (by decide) (Nat.le_of_ble_eq_true rfl) dX7_init_1 ?_
  refine v_aload_n (pc := 4) O dX7_init_4 0 rfl ?_
  refine v_iload_n (pc := 5) O dX7_init_5 1 rfl ?_
  refine v_putFI (pc := 6) (a := t) O hi gf_X7_0 rfl rfl rfl fl_X7_7 ha dX7_init_6 ?_
  refine v_aload_n (pc := 9) O dX7_init_9 0 rfl ?_
  refine v_iload_n (pc := 10) O dX7_init_10 2 rfl ?_
  refine v_putFI (pc := 11) (a := t) O hi gf_X7_1 rfl rfl rfl fl_X7_13 ha dX7_init_11 ?_
  refine v_aload_n (pc := 14) O dX7_init_14 0 rfl ?_
  refine v_iload_n (pc := 15) O dX7_init_15 3 rfl ?_
  refine v_putFI (pc := 16) (a := t) O hi gf_X7_4 rfl rfl rfl fl_X7_16 ha dX7_init_16 ?_
  refine v_aload_n (pc := 19) O dX7_init_19 0 rfl ?_
  refine v_iload_n (pc := 20) O dX7_init_20 3 rfl ?_
  refine v_putI (pc := 21) (a := t) O pf_X7_5 fl_X7_19 ha dX7_init_21 ?_
  exact v_ret (pc := 24) O hz dX7_init_24)
/-- a new statement of a kind, at the token's place, its items from here on -/
def f_X5_start (nu : Nat) (x1 : Int32) (S : Sr) (D : Dat) : Option (Sum Nat (Option Nat) × Sr × Dat) :=
  if 1 ≤ S.2.2.1 ∧ 10 ≤ S.2.2.2 ∧ NS ≤ S.1 then
    (dR (sN D S.1) 3 4).bind (fun a => if a = 191 ∨ a = 196 then (f_X4_size a (sN D S.1)).bind (fun p => some (.inr (some S.1), (S.1 + 1, va_up S.2.1 S.1 7, S.2.2.1 - 1, S.2.2.2 - 10), f_X7_init S.1 x1 (dI (sN D S.1) 3 7) p.1 p.2)) else none)
  else none
set_option maxHeartbeats 4000000 in
theorem c_X5_start {l : Launch} {w : Wx} {nu : Nat} (hl : l.stackTraces = false) (hm : wlm w = true) {x1 : Int32} {S : Sr} {D : Dat} {z : Sum Nat (Option Nat) × Sr × Dat} (h : f_X5_start nu x1 S D = some z) : C2 l w yX5_start cX5_start 2 (some (.object "FlowChain$Statement")) 2 60 [.ref (wb w + 3), .int x1] nu S D (ro (wb w) z) :=
  C2.of hl (by decide) (Nat.le_of_ble_eq_true rfl) (fun X e1 e2 e3 hT O _ _ => by
  subst e1
  subst e2
  unfold f_X5_start at h
  obtain ⟨c1, h⟩ := if_none h
  obtain ⟨a, e4, h⟩ := bind_some h
  obtain ⟨c2, h⟩ := if_none h
  obtain ⟨p, e5, h⟩ := bind_some h
  obtain rfl := Option.some.inj h
  show V X _ S.1 (Az nu S) D 0 [(0, .ref (bo X + 3)), (1, .int x1)] []
  refine v_new (pc := 0) (A := Az nu S) O ⟨hT.2.2.1, hT.2.2.2⟩ pn_X7 cn_X5_127 (Or.inl (by
    intro k
    have q : ∀ j, j < 10 → fty 7 j ≠ 3 := by decide +kernel
    by_cases hk : k < 10
    · exact q k hk
    · unfold fty
      rw [List.getD_eq_getElem?_getD (l := ftl.getD 7 []), List.getElem?_eq_none (by have : (ftl.getD 7 []).length = 10 := rfl
                                                                                     omega)]
      decide)) c1.1 c1.2.1 dX5_start_0 ?_
  rw [az_push c1.2.2]
  refine v_dup (pc := 3) O dX5_start_3 rfl ?_
  refine v_iload_n (pc := 4) O dX5_start_4 1 rfl ?_
  refine v_aload_n (pc := 5) O dX5_start_5 0 rfl ?_
  refine v_getI (pc := 6) (a := 3) O gf_X5_7 fl_X5_27 kq_3 dX5_start_6 ?_
  refine v_aload_n (pc := 9) O dX5_start_9 0 rfl ?_
  refine v_getR (pc := 10) (a := 3) O gf_X5_4 fl_X5_36 kq_3 dX5_start_10 ?_
  rw [e4]
  refine v_callV (pc := 13) (a := a) (As := []) (rest := [.int (dI (sN D S.1) 3 7), .int x1, .ref (bo X + S.1), .ref (bo X + S.1)]) (r := (some (.int p.1))) (D' := p.2) O (bb2 hT) (c_X4_size hm c2 e5) mw_X4_size im_X4_size se_X4_size ml_X5_198 (kt_X4 c2) (by decide) rfl rfl rfl (by decide) (by decide) (Nat.le_of_ble_eq_true rfl) dX5_start_13 rfl rfl ?_
  refine v_callI (pc := 16) (a := S.1) (As := [.int x1, .int (dI (sN D S.1) 3 7), .int p.1]) (rest := [.ref (bo X + S.1)]) O (bb2 hT) (c_X7_init (by show kd (va_up S.2.1 S.1 7) S.1 = 7; rw [kd, if_neg (by have := c1.2.2; omega), va_up_self])) mw_X7_init rfl im_X7_init ml_X5_201 rfl (by decide) (by decide) (Nat.le_of_ble_eq_true rfl) dX5_start_16 rfl ?_
  exact v_aret2 (pc := 19) (r := some S.1) (S := (S.1 + 1, va_up S.2.1 S.1 7, S.2.2.1 - 1, S.2.2.2 - 10)) O dX5_start_19)
def f_J1_charAt_3b067 (x0 : Nat) (x1 : Int32) (D : Dat) : Option (Int32 × Dat) :=
  if x0 < 10 then ((f_J0_checkIndex_df160 x1 (Int32.ofNat (slen.getD x0 0)) D).bind (fun p2 => if x0 < 10 then (if x1 < 0 ∨ slen.getD x0 0 ≤ (x1).toNatClampNeg then none else (if vp_nar .char ((((((sbyt.getD x0 []).getD (x1).toNatClampNeg 0) &&& (255 : Int32)) : Int32).toUInt32 % 65536).toInt32) = ((((((sbyt.getD x0 []).getD (x1).toNatClampNeg 0) &&& (255 : Int32)) : Int32).toUInt32 % 65536).toInt32) then some (((((((sbyt.getD x0 []).getD (x1).toNatClampNeg 0) &&& (255 : Int32)) : Int32).toUInt32 % 65536).toInt32), p2) else none)) else none)) else none
set_option maxHeartbeats 4000000 in
theorem w_J1_charAt_3b067 {X : Cx} {n nu c u : Nat} {K : Nat → Nat} {z : Int32 × Dat} (O : Ok X cJ1_charAt_3b067 RJ1 (some .char) 2 43) (hm : wlm (xw X) = true) (hn : xn X = 2) (hz : Z0 X (Ax nu K c u)) (x0 : Nat) (x1 : Int32) (D : Dat) (h : f_J1_charAt_3b067 x0 x1 D = some z) : V X (Q0 X n (Ax nu K c u) (some (.int z.1)) z.2) n (Ax nu K c u) D 0 [(0, .ref (woV (xw X) x0)), (1, .int x1)] [] := by
  unfold f_J1_charAt_3b067 at h
  refine v_iload_n (pc := 0) O dJ1_charAt_3b067_0 1 rfl ?_
  refine v_aload_n (pc := 1) O dJ1_charAt_3b067_1 0 rfl ?_
  obtain ⟨c1, h⟩ := if_none h
  refine v_blen (pc := 2) (i := x0) O c1 dJ1_charAt_3b067_2 ?_
  obtain ⟨p2, e3, h⟩ := bind_some h
  refine v_callS (pc := 3) (As := [.int x1, .int (Int32.ofNat (slen.getD x0 0))]) (rest := []) (r := none) (D' := p2) O (bb0 hz) (c_J0_checkIndex_df160 hm e3) mw_J0_checkIndex_df160 sm_J0_checkIndex_df160 ml_J1_9 rfl (by decide) (by decide) (Nat.le_of_ble_eq_true rfl) dJ1_charAt_3b067_3 rfl rfl ?_
  refine v_aload_n (pc := 6) O dJ1_charAt_3b067_6 0 rfl ?_
  refine v_iload_n (pc := 7) O dJ1_charAt_3b067_7 1 rfl ?_
  obtain ⟨c4, h⟩ := if_none h
  obtain ⟨c5, h⟩ := or_none h
  refine v_bald (pc := 8) (i := x0) O c4 c5 dJ1_charAt_3b067_8 ?_
  refine v_sipush (pc := 9) O dJ1_charAt_3b067_9 sp_255 ?_
  refine v_iand (pc := 12) O dJ1_charAt_3b067_12 ?_
  refine v_i2c (pc := 13) O dJ1_charAt_3b067_13 ?_
  obtain ⟨c6, h⟩ := if_none h
  obtain rfl := Option.some.inj h
  exact v_nret (pc := 14) O hz (nar_ok c6) dJ1_charAt_3b067_14
theorem c_J1_charAt_3b067 {l : Launch} {w : Wx} {n nu c u : Nat} {K : Nat → Nat} (hm : wlm w = true) {x0 : Nat} {x1 : Int32} {D : Dat} {z : Int32 × Dat} (h : f_J1_charAt_3b067 x0 x1 D = some z) : C0 l w yJ1_charAt_3b067 cJ1_charAt_3b067 2 (some .char) 2 43 [.ref (woV (w) x0), .int x1] n (Ax nu K c u) D (some (.int z.1)) z.2 :=
  C0.of (by decide) (Nat.le_of_ble_eq_true rfl) (fun X e1 e2 e3 hz O => by
  subst e1
  subst e2
  exact w_J1_charAt_3b067 O hm e3 hz x0 x1 D h)
def f_J1_indexOf_4cfef (N : Nat) (x0 : Nat) (x1 : Int32) (x2 : Int32) (x3 : Int32) (D : Dat) : Option (Int32 × Dat) :=
  (f_J1_canEncode_9a6ad x1 D).bind (fun p1 => if p1.1 = 0 then (some ((-1), p1.2)) else (if x0 < 10 then (if (if x2 < 0 then 0 else x2) < (if (Int32.ofNat (slen.getD x0 0)) < x3 then (Int32.ofNat (slen.getD x0 0)) else x3) then ((f_J1_indexOfChar_4cfef N x0 x1 (if x2 < 0 then 0 else x2) (if (Int32.ofNat (slen.getD x0 0)) < x3 then (Int32.ofNat (slen.getD x0 0)) else x3) p1.2).bind (fun p6 => some (p6.1, p6.2))) else (some ((-1), p1.2))) else none))
set_option maxHeartbeats 4000000 in
theorem w_J1_indexOf_4cfef {X : Cx} {n nu c u : Nat} {K : Nat → Nat} {N : Nat} {z : Int32 × Dat} (O : Ok X cJ1_indexOf_4cfef RJ1 (some .int) 1 30) (hm : wlm (xw X) = true) (hn : xn X = 4) (hz : Z0 X (Ax nu K c u)) (x0 : Nat) (x1 : Int32) (x2 : Int32) (x3 : Int32) (D : Dat) (h : f_J1_indexOf_4cfef N x0 x1 x2 x3 D = some z) : V X (Q0 X n (Ax nu K c u) (some (.int z.1)) z.2) n (Ax nu K c u) D 0 [(0, .ref (woV (xw X) x0)), (1, .int x1), (2, .int x2), (3, .int x3)] [] := by
  unfold f_J1_indexOf_4cfef at h
  refine v_iload_n (pc := 0) O dJ1_indexOf_4cfef_0 1 rfl ?_
  obtain ⟨p1, e2, h⟩ := bind_some h
  refine v_callS (pc := 1) (As := [.int x1]) (rest := []) (r := (some (.int p1.1))) (D' := p1.2) O (bb0 hz) (c_J1_canEncode_9a6ad hm e2) mw_J1_canEncode_9a6ad sm_J1_canEncode_9a6ad ml_J1_88 rfl (by decide) (by decide) (Nat.le_of_ble_eq_true rfl) dJ1_indexOf_4cfef_1 rfl rfl ?_
  refine v_ifne (pc := 4) 9 O dJ1_indexOf_4cfef_4 (by decide) (fun c3 => ?_) (fun c3 => ?_)
  · have h := (if_neg c3).symm.trans h
    refine v_iload_n (pc := 9) O dJ1_indexOf_4cfef_9 2 rfl ?_
    refine v_iconst (pc := 10) O dJ1_indexOf_4cfef_10 ic_0 ?_
    refine v_max (pc := 11) O (bb0 hz) ml_J1_92 sm_max ini_Math cw_max (by decide) (Nat.le_of_ble_eq_true rfl) dJ1_indexOf_4cfef_11 ?_
    refine v_istore_n (pc := 14) (lv' := [(2, .int (if x2 < 0 then 0 else x2)), (0, .ref (woV (xw X) x0)), (1, .int x1), (3, .int x3)]) O dJ1_indexOf_4cfef_14 rfl (by rw [hn]; decide) rfl ?_
    refine v_iload_n (pc := 15) O dJ1_indexOf_4cfef_15 3 rfl ?_
    refine v_aload_n (pc := 16) O dJ1_indexOf_4cfef_16 1 rfl ?_
    obtain ⟨c4, h⟩ := if_none h
    refine v_blen (pc := 17) (i := x0) O c4 dJ1_indexOf_4cfef_17 ?_
    refine v_min (pc := 18) O (bb0 hz) ml_J1_38 sm_min ini_Math cw_min (by decide) (Nat.le_of_ble_eq_true rfl) dJ1_indexOf_4cfef_18 ?_
    refine v_istore_n (pc := 21) (lv' := [(3, .int (if (Int32.ofNat (slen.getD x0 0)) < x3 then (Int32.ofNat (slen.getD x0 0)) else x3)), (2, .int (if x2 < 0 then 0 else x2)), (0, .ref (woV (xw X) x0)), (1, .int x1)]) O dJ1_indexOf_4cfef_21 rfl (by rw [hn]; decide) rfl ?_
    refine v_iload_n (pc := 22) O dJ1_indexOf_4cfef_22 1 rfl ?_
    refine v_iload_n (pc := 23) O dJ1_indexOf_4cfef_23 0 rfl ?_
    refine v_icmplt (pc := 24) 29 O dJ1_indexOf_4cfef_24 (by decide) (fun c5 => ?_) (fun c5 => ?_)
    · have h := (if_pos c5).symm.trans h
      refine v_aload_n (pc := 29) O dJ1_indexOf_4cfef_29 2 rfl ?_
      refine v_iload_n (pc := 30) O dJ1_indexOf_4cfef_30 3 rfl ?_
      refine v_iload_n (pc := 31) O dJ1_indexOf_4cfef_31 1 rfl ?_
      refine v_iload_n (pc := 32) O dJ1_indexOf_4cfef_32 0 rfl ?_
      obtain ⟨p6, e7, h⟩ := bind_some h
      refine v_callS (pc := 33) (As := [.ref (woV (xw X) x0), .int x1, .int (if x2 < 0 then 0 else x2), .int (if (Int32.ofNat (slen.getD x0 0)) < x3 then (Int32.ofNat (slen.getD x0 0)) else x3)]) (rest := []) (r := (some (.int p6.1))) (D' := p6.2) O (bb0 hz) (c_J1_indexOfChar_4cfef hm e7) mw_J1_indexOfChar_4cfef sm_J1_indexOfChar_4cfef ml_J1_95 rfl (by decide) (by decide) (Nat.le_of_ble_eq_true rfl) dJ1_indexOf_4cfef_33 rfl rfl ?_
      obtain rfl := Option.some.inj h
      exact v_iret (pc := 36) O hz dJ1_indexOf_4cfef_36
    · have h := (if_neg c5).symm.trans h
      refine v_iconst (pc := 27) O dJ1_indexOf_4cfef_27 ic_m1 ?_
      obtain rfl := Option.some.inj h
      exact v_iret (pc := 28) O hz dJ1_indexOf_4cfef_28
  · have h := (if_pos c3).symm.trans h
    refine v_iconst (pc := 7) O dJ1_indexOf_4cfef_7 ic_m1 ?_
    obtain rfl := Option.some.inj h
    exact v_iret (pc := 8) O hz dJ1_indexOf_4cfef_8
theorem c_J1_indexOf_4cfef {l : Launch} {w : Wx} {n nu c u : Nat} {K : Nat → Nat} {N : Nat} (hm : wlm w = true) {x0 : Nat} {x1 : Int32} {x2 : Int32} {x3 : Int32} {D : Dat} {z : Int32 × Dat} (h : f_J1_indexOf_4cfef N x0 x1 x2 x3 D = some z) : C0 l w yJ1_indexOf_4cfef cJ1_indexOf_4cfef 4 (some .int) 1 30 [.ref (woV (w) x0), .int x1, .int x2, .int x3] n (Ax nu K c u) D (some (.int z.1)) z.2 :=
  C0.of (by decide) (Nat.le_of_ble_eq_true rfl) (fun X e1 e2 e3 hz O => by
  subst e1
  subst e2
  exact w_J1_indexOf_4cfef O hm e3 hz x0 x1 x2 x3 D h)
def f_J0_charAt_5068e (t : Nat) (x1 : Int32) (D : Dat) : Option (Int32 × Dat) :=
  (f_J0_isLatin1_aae02 t D).bind (fun p1 => if p1.1 = 0 then none else ((f_J1_charAt_3b067 t x1 p1.2).bind (fun p4 => if vp_nar .char p4.1 = p4.1 then some (p4.1, p4.2) else none)))
set_option maxHeartbeats 4000000 in
theorem w_J0_charAt_5068e {X : Cx} {n nu c u : Nat} {K : Nat → Nat} {t : Nat} {z : Int32 × Dat} (O : Ok X cJ0_charAt_5068e RJ0 (some .char) 3 64) (hm : wlm (xw X) = true) (hn : xn X = 2) (hz : Z0 X (Ax nu K c u)) (ht : t < 10) (x1 : Int32) (D : Dat) (h : f_J0_charAt_5068e t x1 D = some z) : V X (Q0 X n (Ax nu K c u) (some (.int z.1)) z.2) n (Ax nu K c u) D 0 [(0, .ref (woK (xw X) t)), (1, .int x1)] [] := by
  unfold f_J0_charAt_5068e at h
  refine v_aload_n (pc := 0) O dJ0_charAt_5068e_0 0 rfl ?_
  obtain ⟨p1, e2, h⟩ := bind_some h
  refine v_callT (pc := 1) (i := t) (As := []) (rest := []) (r := (some (.int p1.1))) (D' := p1.2) O (bb0 hz) ht (c_J0_isLatin1_aae02 hm ht e2) mw_J0_isLatin1_aae02 im_J0_isLatin1_aae02 se_J0_isLatin1_aae02 ml_J0_492 rfl rfl (by decide) (by decide) (Nat.le_of_ble_eq_true rfl) dJ0_charAt_5068e_1 rfl rfl ?_
  refine v_ifeq (pc := 4) 16 O dJ0_charAt_5068e_4 (by decide) (fun c3 => ?_) (fun c3 => ?_)
  · have h := (if_pos c3).symm.trans h
    refine v_aload_n (pc := 16) O dJ0_charAt_5068e_16 0 rfl ?_
    refine v_sval (pc := 17) (i := t) O ht fl_J0_9 dJ0_charAt_5068e_17 ?_
    cases h
  · have h := (if_neg c3).symm.trans h
    refine v_aload_n (pc := 7) O dJ0_charAt_5068e_7 0 rfl ?_
    refine v_sval (pc := 8) (i := t) O ht fl_J0_9 dJ0_charAt_5068e_8 ?_
    refine v_iload_n (pc := 11) O dJ0_charAt_5068e_11 1 rfl ?_
    obtain ⟨p4, e5, h⟩ := bind_some h
    refine v_callS (pc := 12) (As := [.ref (woV (xw X) t), .int x1]) (rest := []) (r := (some (.int p4.1))) (D' := p4.2) O (bb0 hz) (c_J1_charAt_3b067 hm e5) mw_J1_charAt_3b067 sm_J1_charAt_3b067 ml_J0_495 rfl (by decide) (by decide) (Nat.le_of_ble_eq_true rfl) dJ0_charAt_5068e_12 rfl rfl ?_
    obtain ⟨c6, h⟩ := if_none h
    obtain rfl := Option.some.inj h
    exact v_nret (pc := 15) O hz (nar_ok c6) dJ0_charAt_5068e_15
theorem c_J0_charAt_5068e {l : Launch} {w : Wx} {n nu c u : Nat} {K : Nat → Nat} {t : Nat} (hm : wlm w = true) (ht : t < 10) {x1 : Int32} {D : Dat} {z : Int32 × Dat} (h : f_J0_charAt_5068e t x1 D = some z) : C0 l w yJ0_charAt_5068e cJ0_charAt_5068e 2 (some .char) 3 64 [.ref (woK (w) t), .int x1] n (Ax nu K c u) D (some (.int z.1)) z.2 :=
  C0.of (by decide) (Nat.le_of_ble_eq_true rfl) (fun X e1 e2 e3 hz O => by
  subst e1
  subst e2
  exact w_J0_charAt_5068e O hm e3 hz ht x1 D h)
def f_J0_indexOf_7cf53_b36 (N : Nat) (t : Nat) (s0 : Int32) (D : Dat) : Option (Int32 × Dat) :=
  some (s0, D)
set_option maxHeartbeats 4000000 in
theorem w_J0_indexOf_7cf53_b36 {X : Cx} {n nu c u : Nat} {K : Nat → Nat} {N : Nat} {t : Nat} {z : Int32 × Dat} (O : Ok X cJ0_indexOf_7cf53 RJ0 (some .int) 2 53) (hm : wlm (xw X) = true) (hn : xn X = 3) (hz : Z0 X (Ax nu K c u)) (ht : t < 10) (s0 : Int32) (D : Dat) (h : f_J0_indexOf_7cf53_b36 N t s0 D = some z) : V X (Q0 X n (Ax nu K c u) (some (.int z.1)) z.2) n (Ax nu K c u) D 36 [] [.int s0] := by
  unfold f_J0_indexOf_7cf53_b36 at h
  obtain rfl := Option.some.inj h
  exact v_iret (pc := 36) O hz dJ0_indexOf_7cf53_36
def f_J0_indexOf_7cf53 (N : Nat) (t : Nat) (x1 : Int32) (x2 : Int32) (D : Dat) : Option (Int32 × Dat) :=
  (f_J0_isLatin1_aae02 t D).bind (fun p1 => if p1.1 = 0 then ((f_J0_length_8abf5 t p1.2).bind (fun p4 => none)) else ((f_J0_length_8abf5 t p1.2).bind (fun p6 => (f_J1_indexOf_4cfef N t x1 x2 p6.1 p6.2).bind (fun p8 => f_J0_indexOf_7cf53_b36 N t p8.1 p8.2))))
set_option maxHeartbeats 4000000 in
theorem w_J0_indexOf_7cf53 {X : Cx} {n nu c u : Nat} {K : Nat → Nat} {N : Nat} {t : Nat} {z : Int32 × Dat} (O : Ok X cJ0_indexOf_7cf53 RJ0 (some .int) 2 53) (hm : wlm (xw X) = true) (hn : xn X = 3) (hz : Z0 X (Ax nu K c u)) (ht : t < 10) (x1 : Int32) (x2 : Int32) (D : Dat) (h : f_J0_indexOf_7cf53 N t x1 x2 D = some z) : V X (Q0 X n (Ax nu K c u) (some (.int z.1)) z.2) n (Ax nu K c u) D 0 [(0, .ref (woK (xw X) t)), (1, .int x1), (2, .int x2)] [] := by
  unfold f_J0_indexOf_7cf53 at h
  refine v_aload_n (pc := 0) O dJ0_indexOf_7cf53_0 0 rfl ?_
  obtain ⟨p1, e2, h⟩ := bind_some h
  refine v_callT (pc := 1) (i := t) (As := []) (rest := []) (r := (some (.int p1.1))) (D' := p1.2) O (bb0 hz) ht (c_J0_isLatin1_aae02 hm ht e2) mw_J0_isLatin1_aae02 im_J0_isLatin1_aae02 se_J0_isLatin1_aae02 ml_J0_492 rfl rfl (by decide) (by decide) (Nat.le_of_ble_eq_true rfl) dJ0_indexOf_7cf53_1 rfl rfl ?_
  refine v_ifeq (pc := 4) 23 O dJ0_indexOf_7cf53_4 (by decide) (fun c3 => ?_) (fun c3 => ?_)
  · have h := (if_pos c3).symm.trans h
    refine v_aload_n (pc := 23) O dJ0_indexOf_7cf53_23 0 rfl ?_
    refine v_sval (pc := 24) (i := t) O ht fl_J0_9 dJ0_indexOf_7cf53_24 ?_
    refine v_iload_n (pc := 27) O dJ0_indexOf_7cf53_27 1 rfl ?_
    refine v_iload_n (pc := 28) O dJ0_indexOf_7cf53_28 2 rfl ?_
    refine v_aload_n (pc := 29) O dJ0_indexOf_7cf53_29 0 rfl ?_
    obtain ⟨p4, e5, h⟩ := bind_some h
    refine v_callT (pc := 30) (i := t) (As := []) (rest := [.int x2, .int x1, .ref (woV (xw X) t)]) (r := (some (.int p4.1))) (D' := p4.2) O (bb0 hz) ht (c_J0_length_8abf5 hm ht e5) mw_J0_length_8abf5 im_J0_length_8abf5 se_J0_length_8abf5 ml_J0_505 rfl rfl (by decide) (by decide) (Nat.le_of_ble_eq_true rfl) dJ0_indexOf_7cf53_30 rfl rfl ?_
    cases h
  · have h := (if_neg c3).symm.trans h
    refine v_aload_n (pc := 7) O dJ0_indexOf_7cf53_7 0 rfl ?_
    refine v_sval (pc := 8) (i := t) O ht fl_J0_9 dJ0_indexOf_7cf53_8 ?_
    refine v_iload_n (pc := 11) O dJ0_indexOf_7cf53_11 1 rfl ?_
    refine v_iload_n (pc := 12) O dJ0_indexOf_7cf53_12 2 rfl ?_
    refine v_aload_n (pc := 13) O dJ0_indexOf_7cf53_13 0 rfl ?_
    obtain ⟨p6, e7, h⟩ := bind_some h
    refine v_callT (pc := 14) (i := t) (As := []) (rest := [.int x2, .int x1, .ref (woV (xw X) t)]) (r := (some (.int p6.1))) (D' := p6.2) O (bb0 hz) ht (c_J0_length_8abf5 hm ht e7) mw_J0_length_8abf5 im_J0_length_8abf5 se_J0_length_8abf5 ml_J0_505 rfl rfl (by decide) (by decide) (Nat.le_of_ble_eq_true rfl) dJ0_indexOf_7cf53_14 rfl rfl ?_
    obtain ⟨p8, e9, h⟩ := bind_some h
    refine v_callS (pc := 17) (As := [.ref (woV (xw X) t), .int x1, .int x2, .int p6.1]) (rest := []) (r := (some (.int p8.1))) (D' := p8.2) O (bb0 hz) (c_J1_indexOf_4cfef hm e9) mw_J1_indexOf_4cfef sm_J1_indexOf_4cfef ml_J0_637 rfl (by decide) (by decide) (Nat.le_of_ble_eq_true rfl) dJ0_indexOf_7cf53_17 rfl rfl ?_
    refine v_goto (pc := 20) 36 O dJ0_indexOf_7cf53_20 (by decide) ?_
    refine v_sub [] rfl ?_
    exact w_J0_indexOf_7cf53_b36 O hm hn hz ht p8.1 p8.2 h
theorem c_J0_indexOf_7cf53 {l : Launch} {w : Wx} {n nu c u : Nat} {K : Nat → Nat} {N : Nat} {t : Nat} (hm : wlm w = true) (ht : t < 10) {x1 : Int32} {x2 : Int32} {D : Dat} {z : Int32 × Dat} (h : f_J0_indexOf_7cf53 N t x1 x2 D = some z) : C0 l w yJ0_indexOf_7cf53 cJ0_indexOf_7cf53 3 (some .int) 2 53 [.ref (woK (w) t), .int x1, .int x2] n (Ax nu K c u) D (some (.int z.1)) z.2 :=
  C0.of (by decide) (Nat.le_of_ble_eq_true rfl) (fun X e1 e2 e3 hz O => by
  subst e1
  subst e2
  exact w_J0_indexOf_7cf53 O hm e3 hz ht x1 x2 D h)
def f_X12_step_b294 (N : Nat) (x1 : Int32) (D : Dat) : Option (Int32 × Dat) :=
  if x1 < 0 ∨ 128 ≤ (x1).toNatClampNeg then none else (some ((dI D 224 (x1).toNatClampNeg), D))
set_option maxHeartbeats 4000000 in
theorem w_X12_step_b294 {X : Cx} {n nu c u : Nat} {K : Nat → Nat} {N : Nat} {z : Int32 × Dat} (O : Ok X cX12_step RX12 (some .int) 5 111) (hm : wlm (xw X) = true) (hn : xn X = 5) (hz : Z0 X (Ax nu K c u)) (x1 : Int32) (D : Dat) (h : f_X12_step_b294 N x1 D = some z) : V X (Q0 X n (Ax nu K c u) (some (.int z.1)) z.2) n (Ax nu K c u) D 294 [(0, .ref (bo X + 207)), (1, .int x1)] [] := by
  unfold f_X12_step_b294 at h
  refine v_aload_n (pc := 294) O dX12_step_294 0 rfl ?_
  refine v_getK (pc := 295) (a := 207) O hm gf_X12_28 fl_X12_66 kq_207 lk_207_28 dX12_step_295 ?_
  refine v_iload_n (pc := 298) O dX12_step_298 1 rfl ?_
  obtain ⟨c1, h⟩ := or_none h
  refine v_iald (pc := 299) (a := 224) O kq_224 (inq lq_224 c1) dX12_step_299 ?_
  obtain rfl := Option.some.inj h
  exact v_iret (pc := 300) O hz dX12_step_300
def f_X12_step_b140 (N : Nat) (x1 : Int32) (x3 : Int32) (x4 : Int32) (D : Dat) : Option (Int32 × Dat) :=
  if 0 ≤ (dI D 207 84) then (f_X12_step_b294 N x1 D) else (if x1 < 0 ∨ 128 ≤ (x1).toNatClampNeg then none else (if (((8 : Int32) * (dI D 218 (x1).toNatClampNeg)) + x3) < 0 ∨ 208 ≤ ((((8 : Int32) * (dI D 218 (x1).toNatClampNeg)) + x3)).toNatClampNeg then none else (f_X12_step_b294 N x1 (sI D 260 (((8 : Int32) * (dI D 218 (x1).toNatClampNeg)) + x3).toNatClampNeg x4))))
set_option maxHeartbeats 4000000 in
theorem w_X12_step_b140 {X : Cx} {n nu c u : Nat} {K : Nat → Nat} {N : Nat} {z : Int32 × Dat} (O : Ok X cX12_step RX12 (some .int) 5 111) (hm : wlm (xw X) = true) (hn : xn X = 5) (hz : Z0 X (Ax nu K c u)) (x1 : Int32) (x3 : Int32) (x4 : Int32) (D : Dat) (h : f_X12_step_b140 N x1 x3 x4 D = some z) : V X (Q0 X n (Ax nu K c u) (some (.int z.1)) z.2) n (Ax nu K c u) D 140 [(0, .ref (bo X + 207)), (1, .int x1), (3, .int x3), (4, .int x4)] [] := by
  unfold f_X12_step_b140 at h
  refine v_aload_n (pc := 140) O dX12_step_140 0 rfl ?_
  refine v_getI (pc := 141) (a := 207) O gf_X12_84 fl_X12_475 kq_207 dX12_step_141 ?_
  refine v_ifge (pc := 144) 294 O dX12_step_144 (by decide) (fun c2 => ?_) (fun c2 => ?_)
  · have h := (if_pos c2).symm.trans h
    refine v_sub [0, 1] rfl ?_
    exact w_X12_step_b294 O hm hn hz x1 D h
  · have h := (if_neg c2).symm.trans h
    refine v_aload_n (pc := 147) O dX12_step_147 0 rfl ?_
    refine v_getK (pc := 148) (a := 207) O hm gf_X12_80 fl_X12_174 kq_207 lk_207_80 dX12_step_148 ?_
    refine v_bipush (pc := 151) O dX12_step_151 bp_8 ?_
    refine v_aload_n (pc := 153) O dX12_step_153 0 rfl ?_
    refine v_getK (pc := 154) (a := 207) O hm gf_X12_22 fl_X12_48 kq_207 lk_207_22 dX12_step_154 ?_
    refine v_iload_n (pc := 157) O dX12_step_157 1 rfl ?_
    obtain ⟨c3, h⟩ := or_none h
    refine v_iald (pc := 158) (a := 218) O kq_218 (inq lq_218 c3) dX12_step_158 ?_
    refine v_imul (pc := 159) O dX12_step_159 ?_
    refine v_iload_n (pc := 160) O dX12_step_160 2 rfl ?_
    refine v_iadd (pc := 161) O dX12_step_161 ?_
    refine v_iload (pc := 162) O dX12_step_162 3 rfl ?_
    obtain ⟨c4, h⟩ := or_none h
    refine v_iast (pc := 164) (a := 260) O kq_260 (inq lq_260 c4) dX12_step_164 ?_
    refine v_goto (pc := 165) 294 O dX12_step_165 (by decide) ?_
    refine v_sub [0, 1] rfl ?_
    exact w_X12_step_b294 O hm hn hz x1 (sI D 260 (((8 : Int32) * (dI D 218 (x1).toNatClampNeg)) + x3).toNatClampNeg x4) h
def f_X12_step_b113 (N : Nat) (x1 : Int32) (x3 : Int32) (s0 : Int32) (D : Dat) : Option (Int32 × Dat) :=
  if 0 ≤ (dI D 207 84) then (f_X12_step_b140 N x1 x3 s0 D) else ((f_X12_out x3 8 D).bind (fun p6 => if p6.1 = 0 then (f_X12_step_b140 N x1 x3 s0 p6.2) else (f_X12_step_b294 N x1 (sI p6.2 207 84 2))))
set_option maxHeartbeats 4000000 in
theorem w_X12_step_b113 {X : Cx} {n nu c u : Nat} {K : Nat → Nat} {N : Nat} {z : Int32 × Dat} (O : Ok X cX12_step RX12 (some .int) 5 111) (hm : wlm (xw X) = true) (hn : xn X = 5) (hz : Z0 X (Ax nu K c u)) (x1 : Int32) (x3 : Int32) (s0 : Int32) (D : Dat) (h : f_X12_step_b113 N x1 x3 s0 D = some z) : V X (Q0 X n (Ax nu K c u) (some (.int z.1)) z.2) n (Ax nu K c u) D 113 [(0, .ref (bo X + 207)), (1, .int x1), (3, .int x3)] [.int s0] := by
  unfold f_X12_step_b113 at h
  refine v_istore (pc := 113) (lv' := [(4, .int s0), (0, .ref (bo X + 207)), (1, .int x1), (3, .int x3)]) O dX12_step_113 (by rw [hn]; decide) rfl ?_
  refine v_aload_n (pc := 115) O dX12_step_115 1 rfl ?_
  refine v_getI (pc := 116) (a := 207) O gf_X12_84 fl_X12_475 kq_207 dX12_step_116 ?_
  refine v_ifge (pc := 119) 140 O dX12_step_119 (by decide) (fun c5 => ?_) (fun c5 => ?_)
  · have h := (if_pos c5).symm.trans h
    refine v_sub [1, 2, 3, 0] rfl ?_
    exact w_X12_step_b140 O hm hn hz x1 x3 s0 D h
  · have h := (if_neg c5).symm.trans h
    refine v_aload_n (pc := 122) O dX12_step_122 1 rfl ?_
    refine v_iload_n (pc := 123) O dX12_step_123 3 rfl ?_
    refine v_bipush (pc := 124) O dX12_step_124 bp_8 ?_
    obtain ⟨p6, e7, h⟩ := bind_some h
    refine v_callV (pc := 126) (a := 207) (As := [.int x3, .int 8]) (rest := []) (r := (some (.int p6.1))) (D' := p6.2) O (bb0 hz) (c_X12_out hm e7) mw_X12_out im_X12_out se_X12_out ml_X12_186 kq_207 (by decide) rfl rfl rfl (by decide) (by decide) (Nat.le_of_ble_eq_true rfl) dX12_step_126 rfl rfl ?_
    refine v_ifeq (pc := 129) 140 O dX12_step_129 (by decide) (fun c8 => ?_) (fun c8 => ?_)
    · have h := (if_pos c8).symm.trans h
      refine v_sub [1, 2, 3, 0] rfl ?_
      exact w_X12_step_b140 O hm hn hz x1 x3 s0 p6.2 h
    · have h := (if_neg c8).symm.trans h
      refine v_aload_n (pc := 132) O dX12_step_132 1 rfl ?_
      refine v_iconst (pc := 133) O dX12_step_133 ic_2 ?_
      refine v_putI (pc := 134) (a := 207) O pf_X12_84 fl_X12_475 kq_207 dX12_step_134 ?_
      refine v_goto (pc := 137) 294 O dX12_step_137 (by decide) ?_
      refine v_sub [1, 2] rfl ?_
      exact w_X12_step_b294 O hm hn hz x1 (sI p6.2 207 84 2) h
def f_X12_step_b287 (N : Nat) (s0 : Int32) (D : Dat) : Option (Int32 × Dat) :=
  some (s0, D)
set_option maxHeartbeats 4000000 in
theorem w_X12_step_b287 {X : Cx} {n nu c u : Nat} {K : Nat → Nat} {N : Nat} {z : Int32 × Dat} (O : Ok X cX12_step RX12 (some .int) 5 111) (hm : wlm (xw X) = true) (hn : xn X = 5) (hz : Z0 X (Ax nu K c u)) (s0 : Int32) (D : Dat) (h : f_X12_step_b287 N s0 D = some z) : V X (Q0 X n (Ax nu K c u) (some (.int z.1)) z.2) n (Ax nu K c u) D 287 [] [.int s0] := by
  unfold f_X12_step_b287 at h
  obtain rfl := Option.some.inj h
  exact v_iret (pc := 287) O hz dX12_step_287
def f_X12_step_b288 (N : Nat) (x1 : Int32) (D : Dat) : Option (Int32 × Dat) :=
  (f_X12_round N x1 D).bind (fun p9 => some (p9.1, p9.2))
set_option maxHeartbeats 4000000 in
theorem w_X12_step_b288 {X : Cx} {n nu c u : Nat} {K : Nat → Nat} {N : Nat} {z : Int32 × Dat} (O : Ok X cX12_step RX12 (some .int) 5 111) (hm : wlm (xw X) = true) (hn : xn X = 5) (hz : Z0 X (Ax nu K c u)) (x1 : Int32) (D : Dat) (h : f_X12_step_b288 N x1 D = some z) : V X (Q0 X n (Ax nu K c u) (some (.int z.1)) z.2) n (Ax nu K c u) D 288 [(0, .ref (bo X + 207)), (1, .int x1)] [] := by
  unfold f_X12_step_b288 at h
  refine v_aload_n (pc := 288) O dX12_step_288 0 rfl ?_
  refine v_iload_n (pc := 289) O dX12_step_289 1 rfl ?_
  obtain ⟨p9, e10, h⟩ := bind_some h
  refine v_callV (pc := 290) (a := 207) (As := [.int x1]) (rest := []) (r := (some (.int p9.1))) (D' := p9.2) O (bb0 hz) (c_X12_round hm e10) mw_X12_round im_X12_round se_X12_round ml_X12_502 kq_207 (by decide) rfl rfl rfl (by decide) (by decide) (Nat.le_of_ble_eq_true rfl) dX12_step_290 rfl rfl ?_
  obtain rfl := Option.some.inj h
  exact v_iret (pc := 293) O hz dX12_step_293
def f_X12_step (N : Nat) (x1 : Int32) (D : Dat) : Option (Int32 × Dat) :=
  if x1 < 0 ∨ 128 ≤ (x1).toNatClampNeg then none else (if (dI D 216 (x1).toNatClampNeg) = (1 : Int32) then (if x1 < 0 ∨ 128 ≤ (x1).toNatClampNeg then none else ((f_X12_worth N (dI D 221 (x1).toNatClampNeg) D).bind (fun p14 => if 0 ≤ (dI p14.2 207 84) then (f_X12_step_b294 N x1 p14.2) else (if x1 < 0 ∨ 128 ≤ (x1).toNatClampNeg then none else (if (dI p14.2 218 (x1).toNatClampNeg) < 0 ∨ 26 ≤ ((dI p14.2 218 (x1).toNatClampNeg)).toNatClampNeg then none else (f_X12_step_b294 N x1 (sI p14.2 259 (dI p14.2 218 (x1).toNatClampNeg).toNatClampNeg p14.1))))))) else (if (dI D 216 (x1).toNatClampNeg) = (2 : Int32) then (if x1 < 0 ∨ 128 ≤ (x1).toNatClampNeg then none else ((f_X12_worth N (dI D 220 (x1).toNatClampNeg) D).bind (fun p21 => if 0 ≤ (dI p21.2 207 84) then (f_X12_step_b113 N x1 p21.1 0 p21.2) else (if x1 < 0 ∨ 128 ≤ (x1).toNatClampNeg then none else ((f_X12_worth N (dI p21.2 221 (x1).toNatClampNeg) p21.2).bind (fun p25 => f_X12_step_b113 N x1 p21.1 p25.1 p25.2)))))) else (if (dI D 216 (x1).toNatClampNeg) = (3 : Int32) then ((f_X12_push 3 x1 D).bind (fun p28 => if x1 < 0 ∨ 128 ≤ (x1).toNatClampNeg then none else ((f_X12_worth N (dI p28 220 (x1).toNatClampNeg) p28).bind (fun p31 => if p31.1 = 0 then (if x1 < 0 ∨ 128 ≤ (x1).toNatClampNeg then none else (f_X12_step_b287 N (dI p31.2 223 (x1).toNatClampNeg) p31.2)) else (if x1 < 0 ∨ 128 ≤ (x1).toNatClampNeg then none else (f_X12_step_b287 N (dI p31.2 222 (x1).toNatClampNeg) p31.2)))))) else (if (dI D 216 (x1).toNatClampNeg) = (5 : Int32) then (if x1 < 0 ∨ 128 ≤ (x1).toNatClampNeg then none else (if x1 < 0 ∨ 128 ≤ (x1).toNatClampNeg then none else ((f_X12_input (dI D 219 (x1).toNatClampNeg) D).bind (fun p39 => if (dI D 218 (x1).toNatClampNeg) < 0 ∨ 26 ≤ ((dI D 218 (x1).toNatClampNeg)).toNatClampNeg then none else (f_X12_step_b294 N x1 (sI p39.2 259 (dI D 218 (x1).toNatClampNeg).toNatClampNeg p39.1)))))) else (if (dI D 216 (x1).toNatClampNeg) = (6 : Int32) then (if x1 < 0 ∨ 128 ≤ (x1).toNatClampNeg then none else ((f_X12_worth N (dI D 220 (x1).toNatClampNeg) D).bind (fun p44 => (f_X12_give p44.1 p44.2).bind (fun p46 => if 0 ≤ (dI p46 207 84) then (f_X12_step_b294 N x1 p46) else (if x1 < 0 ∨ 128 ≤ (x1).toNatClampNeg then none else ((f_X12_write (dI p46 219 (x1).toNatClampNeg) p46).bind (fun p50 => f_X12_step_b294 N x1 p50))))))) else (if (dI D 216 (x1).toNatClampNeg) = (7 : Int32) then ((f_X12_push 7 x1 D).bind (fun p53 => if x1 < 0 ∨ 128 ≤ (x1).toNatClampNeg then none else (if (((26 : Int32) * (dI p53 207 19)) + (dI p53 218 (x1).toNatClampNeg)) < 0 ∨ 52 ≤ ((((26 : Int32) * (dI p53 207 19)) + (dI p53 218 (x1).toNatClampNeg))).toNatClampNeg then none else (some ((dI p53 227 (((26 : Int32) * (dI p53 207 19)) + (dI p53 218 (x1).toNatClampNeg)).toNatClampNeg), p53))))) else (f_X12_step_b288 N x1 D)))))))
set_option maxHeartbeats 4000000 in
theorem w_X12_step {X : Cx} {n nu c u : Nat} {K : Nat → Nat} {N : Nat} {z : Int32 × Dat} (O : Ok X cX12_step RX12 (some .int) 5 111) (hm : wlm (xw X) = true) (hn : xn X = 5) (hz : Z0 X (Ax nu K c u)) (x1 : Int32) (D : Dat) (h : f_X12_step N x1 D = some z) : V X (Q0 X n (Ax nu K c u) (some (.int z.1)) z.2) n (Ax nu K c u) D 0 [(0, .ref (bo X + 207)), (1, .int x1)] [] := by
  unfold f_X12_step at h
  refine v_aload_n (pc := 0) O dX12_step_0 0 rfl ?_
  refine v_getK (pc := 1) (a := 207) O hm gf_X12_20 fl_X12_42 kq_207 lk_207_20 dX12_step_1 ?_
  refine v_iload_n (pc := 4) O dX12_step_4 1 rfl ?_
  obtain ⟨c11, h⟩ := or_none h
  refine v_iald (pc := 5) (a := 216) O kq_216 (inq lq_216 c11) dX12_step_5 ?_
  by_cases c12 : (dI D 216 (x1).toNatClampNeg) = (1 : Int32)
  · have h := (if_pos c12).symm.trans h
    refine v_tableIn (pc := 6) 48 O dX12_step_6 (by rw [c12]; decide) (by rw [c12]; decide) (by rw [c12]; rfl) (by decide) ?_
    refine v_aload_n (pc := 48) O dX12_step_48 0 rfl ?_
    refine v_aload_n (pc := 49) O dX12_step_49 0 rfl ?_
    refine v_getK (pc := 50) (a := 207) O hm gf_X12_25 fl_X12_57 kq_207 lk_207_25 dX12_step_50 ?_
    refine v_iload_n (pc := 53) O dX12_step_53 1 rfl ?_
    obtain ⟨c13, h⟩ := or_none h
    refine v_iald (pc := 54) (a := 221) O kq_221 (inq lq_221 c13) dX12_step_54 ?_
    obtain ⟨p14, e15, h⟩ := bind_some h
    refine v_callV (pc := 55) (a := 207) (As := [.int (dI D 221 (x1).toNatClampNeg)]) (rest := []) (r := (some (.int p14.1))) (D' := p14.2) O (bb0 hz) (c_X12_worth hm e15) mw_X12_worth im_X12_worth se_X12_worth ml_X12_499 kq_207 (by decide) rfl rfl rfl (by decide) (by decide) (Nat.le_of_ble_eq_true rfl) dX12_step_55 rfl rfl ?_
    refine v_istore_n (pc := 58) (lv' := [(2, .int p14.1), (0, .ref (bo X + 207)), (1, .int x1)]) O dX12_step_58 rfl (by rw [hn]; decide) rfl ?_
    refine v_aload_n (pc := 59) O dX12_step_59 1 rfl ?_
    refine v_getI (pc := 60) (a := 207) O gf_X12_84 fl_X12_475 kq_207 dX12_step_60 ?_
    refine v_ifge (pc := 63) 294 O dX12_step_63 (by decide) (fun c16 => ?_) (fun c16 => ?_)
    · have h := (if_pos c16).symm.trans h
      refine v_sub [1, 2] rfl ?_
      exact w_X12_step_b294 O hm hn hz x1 p14.2 h
    · have h := (if_neg c16).symm.trans h
      refine v_aload_n (pc := 66) O dX12_step_66 1 rfl ?_
      refine v_getK (pc := 67) (a := 207) O hm gf_X12_79 fl_X12_171 kq_207 lk_207_79 dX12_step_67 ?_
      refine v_aload_n (pc := 70) O dX12_step_70 1 rfl ?_
      refine v_getK (pc := 71) (a := 207) O hm gf_X12_22 fl_X12_48 kq_207 lk_207_22 dX12_step_71 ?_
      refine v_iload_n (pc := 74) O dX12_step_74 2 rfl ?_
      obtain ⟨c17, h⟩ := or_none h
      refine v_iald (pc := 75) (a := 218) O kq_218 (inq lq_218 c17) dX12_step_75 ?_
      refine v_iload_n (pc := 76) O dX12_step_76 0 rfl ?_
      obtain ⟨c18, h⟩ := or_none h
      refine v_iast (pc := 77) (a := 259) O kq_259 (inq lq_259 c18) dX12_step_77 ?_
      refine v_goto (pc := 78) 294 O dX12_step_78 (by decide) ?_
      refine v_sub [1, 2] rfl ?_
      exact w_X12_step_b294 O hm hn hz x1 (sI p14.2 259 (dI p14.2 218 (x1).toNatClampNeg).toNatClampNeg p14.1) h
  · have h := (if_neg c12).symm.trans h
    by_cases c19 : (dI D 216 (x1).toNatClampNeg) = (2 : Int32)
    · have h := (if_pos c19).symm.trans h
      refine v_tableIn (pc := 6) 81 O dX12_step_6 (by rw [c19]; decide) (by rw [c19]; decide) (by rw [c19]; rfl) (by decide) ?_
      refine v_aload_n (pc := 81) O dX12_step_81 0 rfl ?_
      refine v_aload_n (pc := 82) O dX12_step_82 0 rfl ?_
      refine v_getK (pc := 83) (a := 207) O hm gf_X12_24 fl_X12_54 kq_207 lk_207_24 dX12_step_83 ?_
      refine v_iload_n (pc := 86) O dX12_step_86 1 rfl ?_
      obtain ⟨c20, h⟩ := or_none h
      refine v_iald (pc := 87) (a := 220) O kq_220 (inq lq_220 c20) dX12_step_87 ?_
      obtain ⟨p21, e22, h⟩ := bind_some h
      refine v_callV (pc := 88) (a := 207) (As := [.int (dI D 220 (x1).toNatClampNeg)]) (rest := []) (r := (some (.int p21.1))) (D' := p21.2) O (bb0 hz) (c_X12_worth hm e22) mw_X12_worth im_X12_worth se_X12_worth ml_X12_499 kq_207 (by decide) rfl rfl rfl (by decide) (by decide) (Nat.le_of_ble_eq_true rfl) dX12_step_88 rfl rfl ?_
      refine v_istore_n (pc := 91) (lv' := [(3, .int p21.1), (0, .ref (bo X + 207)), (1, .int x1)]) O dX12_step_91 rfl (by rw [hn]; decide) rfl ?_
      refine v_aload_n (pc := 92) O dX12_step_92 1 rfl ?_
      refine v_getI (pc := 93) (a := 207) O gf_X12_84 fl_X12_475 kq_207 dX12_step_93 ?_
      refine v_ifge (pc := 96) 112 O dX12_step_96 (by decide) (fun c23 => ?_) (fun c23 => ?_)
      · have h := (if_pos c23).symm.trans h
        refine v_iconst (pc := 112) O dX12_step_112 ic_0 ?_
        refine v_sub [1, 2, 0] rfl ?_
        exact w_X12_step_b113 O hm hn hz x1 p21.1 0 p21.2 h
      · have h := (if_neg c23).symm.trans h
        refine v_aload_n (pc := 99) O dX12_step_99 1 rfl ?_
        refine v_aload_n (pc := 100) O dX12_step_100 1 rfl ?_
        refine v_getK (pc := 101) (a := 207) O hm gf_X12_25 fl_X12_57 kq_207 lk_207_25 dX12_step_101 ?_
        refine v_iload_n (pc := 104) O dX12_step_104 2 rfl ?_
        obtain ⟨c24, h⟩ := or_none h
        refine v_iald (pc := 105) (a := 221) O kq_221 (inq lq_221 c24) dX12_step_105 ?_
        obtain ⟨p25, e26, h⟩ := bind_some h
        refine v_callV (pc := 106) (a := 207) (As := [.int (dI p21.2 221 (x1).toNatClampNeg)]) (rest := []) (r := (some (.int p25.1))) (D' := p25.2) O (bb0 hz) (c_X12_worth hm e26) mw_X12_worth im_X12_worth se_X12_worth ml_X12_499 kq_207 (by decide) rfl rfl rfl (by decide) (by decide) (Nat.le_of_ble_eq_true rfl) dX12_step_106 rfl rfl ?_
        refine v_goto (pc := 109) 113 O dX12_step_109 (by decide) ?_
        refine v_sub [1, 2, 0] rfl ?_
        exact w_X12_step_b113 O hm hn hz x1 p21.1 p25.1 p25.2 h
    · have h := (if_neg c19).symm.trans h
      by_cases c27 : (dI D 216 (x1).toNatClampNeg) = (3 : Int32)
      · have h := (if_pos c27).symm.trans h
        refine v_tableIn (pc := 6) 253 O dX12_step_6 (by rw [c27]; decide) (by rw [c27]; decide) (by rw [c27]; rfl) (by decide) ?_
        refine v_aload_n (pc := 253) O dX12_step_253 0 rfl ?_
        refine v_iconst (pc := 254) O dX12_step_254 ic_3 ?_
        refine v_iload_n (pc := 255) O dX12_step_255 1 rfl ?_
        obtain ⟨p28, e29, h⟩ := bind_some h
        refine v_callV (pc := 256) (a := 207) (As := [.int 3, .int x1]) (rest := []) (r := none) (D' := p28) O (bb0 hz) (c_X12_push hm e29) mw_X12_push im_X12_push se_X12_push ml_X12_367 kq_207 (by decide) rfl rfl rfl (by decide) (by decide) (Nat.le_of_ble_eq_true rfl) dX12_step_256 rfl rfl ?_
        refine v_aload_n (pc := 259) O dX12_step_259 0 rfl ?_
        refine v_aload_n (pc := 260) O dX12_step_260 0 rfl ?_
        refine v_getK (pc := 261) (a := 207) O hm gf_X12_24 fl_X12_54 kq_207 lk_207_24 dX12_step_261 ?_
        refine v_iload_n (pc := 264) O dX12_step_264 1 rfl ?_
        obtain ⟨c30, h⟩ := or_none h
        refine v_iald (pc := 265) (a := 220) O kq_220 (inq lq_220 c30) dX12_step_265 ?_
        obtain ⟨p31, e32, h⟩ := bind_some h
        refine v_callV (pc := 266) (a := 207) (As := [.int (dI p28 220 (x1).toNatClampNeg)]) (rest := []) (r := (some (.int p31.1))) (D' := p31.2) O (bb0 hz) (c_X12_worth hm e32) mw_X12_worth im_X12_worth se_X12_worth ml_X12_499 kq_207 (by decide) rfl rfl rfl (by decide) (by decide) (Nat.le_of_ble_eq_true rfl) dX12_step_266 rfl rfl ?_
        refine v_ifeq (pc := 269) 281 O dX12_step_269 (by decide) (fun c33 => ?_) (fun c33 => ?_)
        · have h := (if_pos c33).symm.trans h
          refine v_aload_n (pc := 281) O dX12_step_281 0 rfl ?_
          refine v_getK (pc := 282) (a := 207) O hm gf_X12_27 fl_X12_63 kq_207 lk_207_27 dX12_step_282 ?_
          refine v_iload_n (pc := 285) O dX12_step_285 1 rfl ?_
          obtain ⟨c34, h⟩ := or_none h
          refine v_iald (pc := 286) (a := 223) O kq_223 (inq lq_223 c34) dX12_step_286 ?_
          refine v_sub [] rfl ?_
          exact w_X12_step_b287 O hm hn hz (dI p31.2 223 (x1).toNatClampNeg) p31.2 h
        · have h := (if_neg c33).symm.trans h
          refine v_aload_n (pc := 272) O dX12_step_272 0 rfl ?_
          refine v_getK (pc := 273) (a := 207) O hm gf_X12_26 fl_X12_60 kq_207 lk_207_26 dX12_step_273 ?_
          refine v_iload_n (pc := 276) O dX12_step_276 1 rfl ?_
          obtain ⟨c35, h⟩ := or_none h
          refine v_iald (pc := 277) (a := 222) O kq_222 (inq lq_222 c35) dX12_step_277 ?_
          refine v_goto (pc := 278) 287 O dX12_step_278 (by decide) ?_
          refine v_sub [] rfl ?_
          exact w_X12_step_b287 O hm hn hz (dI p31.2 222 (x1).toNatClampNeg) p31.2 h
      · have h := (if_neg c27).symm.trans h
        by_cases c36 : (dI D 216 (x1).toNatClampNeg) = (5 : Int32)
        · have h := (if_pos c36).symm.trans h
          refine v_tableIn (pc := 6) 168 O dX12_step_6 (by rw [c36]; decide) (by rw [c36]; decide) (by rw [c36]; rfl) (by decide) ?_
          refine v_aload_n (pc := 168) O dX12_step_168 0 rfl ?_
          refine v_getK (pc := 169) (a := 207) O hm gf_X12_79 fl_X12_171 kq_207 lk_207_79 dX12_step_169 ?_
          refine v_aload_n (pc := 172) O dX12_step_172 0 rfl ?_
          refine v_getK (pc := 173) (a := 207) O hm gf_X12_22 fl_X12_48 kq_207 lk_207_22 dX12_step_173 ?_
          refine v_iload_n (pc := 176) O dX12_step_176 1 rfl ?_
          obtain ⟨c37, h⟩ := or_none h
          refine v_iald (pc := 177) (a := 218) O kq_218 (inq lq_218 c37) dX12_step_177 ?_
          refine v_aload_n (pc := 178) O dX12_step_178 0 rfl ?_
          refine v_aload_n (pc := 179) O dX12_step_179 0 rfl ?_
          refine v_getK (pc := 180) (a := 207) O hm gf_X12_23 fl_X12_51 kq_207 lk_207_23 dX12_step_180 ?_
          refine v_iload_n (pc := 183) O dX12_step_183 1 rfl ?_
          obtain ⟨c38, h⟩ := or_none h
          refine v_iald (pc := 184) (a := 219) O kq_219 (inq lq_219 c38) dX12_step_184 ?_
          obtain ⟨p39, e40, h⟩ := bind_some h
          refine v_callV (pc := 185) (a := 207) (As := [.int (dI D 219 (x1).toNatClampNeg)]) (rest := [.int (dI D 218 (x1).toNatClampNeg), .ref (bo X + 259)]) (r := (some (.int p39.1))) (D' := p39.2) O (bb0 hz) (c_X12_input hm e40) mw_X12_input im_X12_input se_X12_input ml_X12_484 kq_207 (by decide) rfl rfl rfl (by decide) (by decide) (Nat.le_of_ble_eq_true rfl) dX12_step_185 rfl rfl ?_
          obtain ⟨c41, h⟩ := or_none h
          refine v_iast (pc := 188) (a := 259) O kq_259 (inq lq_259 c41) dX12_step_188 ?_
          refine v_goto (pc := 189) 294 O dX12_step_189 (by decide) ?_
          refine v_sub [0, 1] rfl ?_
          exact w_X12_step_b294 O hm hn hz x1 (sI p39.2 259 (dI D 218 (x1).toNatClampNeg).toNatClampNeg p39.1) h
        · have h := (if_neg c36).symm.trans h
          by_cases c42 : (dI D 216 (x1).toNatClampNeg) = (6 : Int32)
          · have h := (if_pos c42).symm.trans h
            refine v_tableIn (pc := 6) 192 O dX12_step_6 (by rw [c42]; decide) (by rw [c42]; decide) (by rw [c42]; rfl) (by decide) ?_
            refine v_aload_n (pc := 192) O dX12_step_192 0 rfl ?_
            refine v_aload_n (pc := 193) O dX12_step_193 0 rfl ?_
            refine v_aload_n (pc := 194) O dX12_step_194 0 rfl ?_
            refine v_getK (pc := 195) (a := 207) O hm gf_X12_24 fl_X12_54 kq_207 lk_207_24 dX12_step_195 ?_
            refine v_iload_n (pc := 198) O dX12_step_198 1 rfl ?_
            obtain ⟨c43, h⟩ := or_none h
            refine v_iald (pc := 199) (a := 220) O kq_220 (inq lq_220 c43) dX12_step_199 ?_
            obtain ⟨p44, e45, h⟩ := bind_some h
            refine v_callV (pc := 200) (a := 207) (As := [.int (dI D 220 (x1).toNatClampNeg)]) (rest := [.ref (bo X + 207)]) (r := (some (.int p44.1))) (D' := p44.2) O (bb0 hz) (c_X12_worth hm e45) mw_X12_worth im_X12_worth se_X12_worth ml_X12_499 kq_207 (by decide) rfl rfl rfl (by decide) (by decide) (Nat.le_of_ble_eq_true rfl) dX12_step_200 rfl rfl ?_
            obtain ⟨p46, e47, h⟩ := bind_some h
            refine v_callV (pc := 203) (a := 207) (As := [.int p44.1]) (rest := []) (r := none) (D' := p46) O (bb0 hz) (c_X12_give hm e47) mw_X12_give im_X12_give se_X12_give ml_X12_481 kq_207 (by decide) rfl rfl rfl (by decide) (by decide) (Nat.le_of_ble_eq_true rfl) dX12_step_203 rfl rfl ?_
            refine v_aload_n (pc := 206) O dX12_step_206 0 rfl ?_
            refine v_getI (pc := 207) (a := 207) O gf_X12_84 fl_X12_475 kq_207 dX12_step_207 ?_
            refine v_ifge (pc := 210) 294 O dX12_step_210 (by decide) (fun c48 => ?_) (fun c48 => ?_)
            · have h := (if_pos c48).symm.trans h
              refine v_sub [0, 1] rfl ?_
              exact w_X12_step_b294 O hm hn hz x1 p46 h
            · have h := (if_neg c48).symm.trans h
              refine v_aload_n (pc := 213) O dX12_step_213 0 rfl ?_
              refine v_aload_n (pc := 214) O dX12_step_214 0 rfl ?_
              refine v_getK (pc := 215) (a := 207) O hm gf_X12_23 fl_X12_51 kq_207 lk_207_23 dX12_step_215 ?_
              refine v_iload_n (pc := 218) O dX12_step_218 1 rfl ?_
              obtain ⟨c49, h⟩ := or_none h
              refine v_iald (pc := 219) (a := 219) O kq_219 (inq lq_219 c49) dX12_step_219 ?_
              obtain ⟨p50, e51, h⟩ := bind_some h
              refine v_callV (pc := 220) (a := 207) (As := [.int (dI p46 219 (x1).toNatClampNeg)]) (rest := []) (r := none) (D' := p50) O (bb0 hz) (c_X12_write hm e51) mw_X12_write im_X12_write se_X12_write ml_X12_487 kq_207 (by decide) rfl rfl rfl (by decide) (by decide) (Nat.le_of_ble_eq_true rfl) dX12_step_220 rfl rfl ?_
              refine v_goto (pc := 223) 294 O dX12_step_223 (by decide) ?_
              refine v_sub [0, 1] rfl ?_
              exact w_X12_step_b294 O hm hn hz x1 p50 h
          · have h := (if_neg c42).symm.trans h
            by_cases c52 : (dI D 216 (x1).toNatClampNeg) = (7 : Int32)
            · have h := (if_pos c52).symm.trans h
              refine v_tableIn (pc := 6) 226 O dX12_step_6 (by rw [c52]; decide) (by rw [c52]; decide) (by rw [c52]; rfl) (by decide) ?_
              refine v_aload_n (pc := 226) O dX12_step_226 0 rfl ?_
              refine v_bipush (pc := 227) O dX12_step_227 bp_7 ?_
              refine v_iload_n (pc := 229) O dX12_step_229 1 rfl ?_
              obtain ⟨p53, e54, h⟩ := bind_some h
              refine v_callV (pc := 230) (a := 207) (As := [.int 7, .int x1]) (rest := []) (r := none) (D' := p53) O (bb0 hz) (c_X12_push hm e54) mw_X12_push im_X12_push se_X12_push ml_X12_367 kq_207 (by decide) rfl rfl rfl (by decide) (by decide) (Nat.le_of_ble_eq_true rfl) dX12_step_230 rfl rfl ?_
              refine v_aload_n (pc := 233) O dX12_step_233 0 rfl ?_
              refine v_getK (pc := 234) (a := 207) O hm gf_X12_31 fl_X12_75 kq_207 lk_207_31 dX12_step_234 ?_
              refine v_bipush (pc := 237) O dX12_step_237 bp_26 ?_
              refine v_aload_n (pc := 239) O dX12_step_239 0 rfl ?_
              refine v_getI (pc := 240) (a := 207) O gf_X12_19 fl_X12_335 kq_207 dX12_step_240 ?_
              refine v_imul (pc := 243) O dX12_step_243 ?_
              refine v_aload_n (pc := 244) O dX12_step_244 0 rfl ?_
              refine v_getK (pc := 245) (a := 207) O hm gf_X12_22 fl_X12_48 kq_207 lk_207_22 dX12_step_245 ?_
              refine v_iload_n (pc := 248) O dX12_step_248 1 rfl ?_
              obtain ⟨c55, h⟩ := or_none h
              refine v_iald (pc := 249) (a := 218) O kq_218 (inq lq_218 c55) dX12_step_249 ?_
              refine v_iadd (pc := 250) O dX12_step_250 ?_
              obtain ⟨c56, h⟩ := or_none h
              refine v_iald (pc := 251) (a := 227) O kq_227 (inq lq_227 c56) dX12_step_251 ?_
              obtain rfl := Option.some.inj h
              exact v_iret (pc := 252) O hz dX12_step_252
            · have h := (if_neg c52).symm.trans h
              refine v_table (pc := 6) 288 O dX12_step_6 (fun g1 g2 => by
                  have c12i := ne_i (1) rfl c12
                  have c19i := ne_i (2) rfl c19
                  have c27i := ne_i (3) rfl c27
                  have c36i := ne_i (5) rfl c36
                  have c42i := ne_i (6) rfl c42
                  have c52i := ne_i (7) rfl c52
                  have e9 : (dI D 216 (x1).toNatClampNeg).toInt = 4 := by omega
                  rw [e9]; exact ⟨_, rfl, by decide⟩) (by decide) ?_
              refine v_sub [0, 1] rfl ?_
              exact w_X12_step_b288 O hm hn hz x1 D h
theorem c_X12_step {l : Launch} {w : Wx} {n nu c u : Nat} {K : Nat → Nat} {N : Nat} (hm : wlm w = true) {x1 : Int32} {D : Dat} {z : Int32 × Dat} (h : f_X12_step N x1 D = some z) : C0 l w yX12_step cX12_step 5 (some .int) 5 111 [.ref (wb w + 207), .int x1] n (Ax nu K c u) D (some (.int z.1)) z.2 :=
  C0.of (by decide) (Nat.le_of_ble_eq_true rfl) (fun X e1 e2 e3 hz O => by
  subst e1
  subst e2
  exact w_X12_step O hm e3 hz x1 D h)
