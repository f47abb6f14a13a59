theorem fl_X12_219 : Cond.fieldLink RX12 219 RX12 (TX12 10).2.1 (TX12 10).2.2.1 ∈ tb := tb_of 1730 (by decide +kernel) (by decide +kernel)
theorem gf_X12_10 : FI 12 RX12 TX12 85 tyX12 10 0 := ⟨rfl, inb_X12, tyX12_ok, nmX12, by decide, by decide, rfl, rfl, rfl⟩
theorem sp_240 : (Int16.ofInt (240)).toInt32 = (240 : Int32) := by decide
theorem cl_X12_213 : Cond.constantLong RX12 213 (255) ∈ tb := tb_of 2017 (by decide +kernel) (by decide +kernel)
theorem cl_X12_215 : Cond.constantLong RX12 215 (32) ∈ tb := tb_of 2018 (by decide +kernel) (by decide +kernel)
theorem cl_X12_217 : Cond.constantLong RX12 217 (126) ∈ tb := tb_of 2019 (by decide +kernel) (by decide +kernel)
theorem fl_X12_27 : Cond.fieldLink RX12 27 RX12 (TX12 9).2.1 (TX12 9).2.2.1 ∈ tb := tb_of 1729 (by decide +kernel) (by decide +kernel)
theorem gf_X12_9 : FI 12 RX12 TX12 85 tyX12 9 3 := ⟨rfl, inb_X12, tyX12_ok, nmX12, by decide, by decide, rfl, rfl, rfl⟩
theorem lk_207_9 : lks 207 9 = some 211 := by decide +kernel
theorem kq_211 {nu c u : Nat} {K : Nat → Nat} : (Ax nu K c u).1 211 = 14 := kd_lt (K := K) (a := 211) (by decide) rfl
theorem lq_211 {nu c u : Nat} {K : Nat → Nat} : (Ax nu K c u).2.1 211 = 240 := rfl
theorem pf_X12_10 : PI 12 RX12 TX12 85 tyX12 10 0 .int := ⟨gf_X12_10, rfl, rfl⟩
theorem bp_9 : (Int8.ofInt (9)).toInt32 = (9 : Int32) := by decide
theorem ic_5 : Int32.ofInt (5) = (5 : Int32) := by decide
theorem bp_97 : (Int8.ofInt (97)).toInt32 = (97 : Int32) := by decide
theorem bp_122 : (Int8.ofInt (122)).toInt32 = (122 : Int32) := by decide
theorem bp_48 : (Int8.ofInt (48)).toInt32 = (48 : Int32) := by decide
theorem bp_57 : (Int8.ofInt (57)).toInt32 = (57 : Int32) := by decide
theorem fl_X12_222 : Cond.fieldLink RX12 222 RX12 (TX12 36).2.1 (TX12 36).2.2.1 ∈ tb := tb_of 1756 (by decide +kernel) (by decide +kernel)
theorem gf_X12_36 : FI 12 RX12 TX12 85 tyX12 36 0 := ⟨rfl, inb_X12, tyX12_ok, nmX12, by decide, by decide, rfl, rfl, rfl⟩
theorem cw_X12_letter : Cond.code yX12_letter cX12_letter 2 (some .boolean) ∈ tb := tb_of 2035 (by decide +kernel) (by decide +kernel)
theorem mw_X12_letter : MW yX12_letter cX12_letter 2 (some .boolean) 1 := ⟨cw_X12_letter, ini_X12, by decide +kernel⟩
theorem im_X12_letter : Cond.instanceMethod yX12_letter ∈ tb := tb_of 2034 (by decide +kernel) (by decide +kernel)
theorem se_X12_letter : Cond.selects (yX12_letter).cls yX12_letter yX12_letter ∈ tb := tb_of 91 (by decide +kernel) (by decide +kernel)
theorem ml_X12_225 : Cond.methodLink RX12 225 yX12_letter ∈ tb := tb_of 2032 (by decide +kernel) (by decide +kernel)
theorem bp_107 : (Int8.ofInt (107)).toInt32 = (107 : Int32) := by decide
theorem bp_110 : (Int8.ofInt (110)).toInt32 = (110 : Int32) := by decide
theorem bp_96 : (Int8.ofInt (96)).toInt32 = (96 : Int32) := by decide
theorem pf_X12_36 : PI 12 RX12 TX12 85 tyX12 36 0 .int := ⟨gf_X12_36, rfl, rfl⟩
theorem fl_X12_229 : Cond.fieldLink RX12 229 RX12 (TX12 37).2.1 (TX12 37).2.2.1 ∈ tb := tb_of 1757 (by decide +kernel) (by decide +kernel)
theorem gf_X12_37 : FI 12 RX12 TX12 85 tyX12 37 0 := ⟨rfl, inb_X12, tyX12_ok, nmX12, by decide, by decide, rfl, rfl, rfl⟩
theorem pf_X12_37 : PI 12 RX12 TX12 85 tyX12 37 0 .int := ⟨gf_X12_37, rfl, rfl⟩
theorem cw_X12_keyword : Cond.code yX12_keyword cX12_keyword 2 (some .int) ∈ tb := tb_of 2043 (by decide +kernel) (by decide +kernel)
theorem mw_X12_keyword : MW yX12_keyword cX12_keyword 2 (some .int) 1 := ⟨cw_X12_keyword, ini_X12, by decide +kernel⟩
theorem im_X12_keyword : Cond.instanceMethod yX12_keyword ∈ tb := tb_of 2042 (by decide +kernel) (by decide +kernel)
theorem se_X12_keyword : Cond.selects (yX12_keyword).cls yX12_keyword yX12_keyword ∈ tb := tb_of 93 (by decide +kernel) (by decide +kernel)
theorem ml_X12_232 : Cond.methodLink RX12 232 yX12_keyword ∈ tb := tb_of 2040 (by decide +kernel) (by decide +kernel)
theorem fl_X12_235 : Cond.fieldLink RX12 235 RX12 (TX12 38).2.1 (TX12 38).2.2.1 ∈ tb := tb_of 1758 (by decide +kernel) (by decide +kernel)
theorem gf_X12_38 : FI 12 RX12 TX12 85 tyX12 38 0 := ⟨rfl, inb_X12, tyX12_ok, nmX12, by decide, by decide, rfl, rfl, rfl⟩
theorem pf_X12_38 : PI 12 RX12 TX12 85 tyX12 38 0 .int := ⟨gf_X12_38, rfl, rfl⟩
theorem cw_X12_digit : Cond.code yX12_digit cX12_digit 2 (some .boolean) ∈ tb := tb_of 2047 (by decide +kernel) (by decide +kernel)
theorem mw_X12_digit : MW yX12_digit cX12_digit 2 (some .boolean) 1 := ⟨cw_X12_digit, ini_X12, by decide +kernel⟩
theorem im_X12_digit : Cond.instanceMethod yX12_digit ∈ tb := tb_of 2046 (by decide +kernel) (by decide +kernel)
theorem se_X12_digit : Cond.selects (yX12_digit).cls yX12_digit yX12_digit ∈ tb := tb_of 94 (by decide +kernel) (by decide +kernel)
theorem ml_X12_238 : Cond.methodLink RX12 238 yX12_digit ∈ tb := tb_of 2044 (by decide +kernel) (by decide +kernel)
theorem bp_35 : (Int8.ofInt (35)).toInt32 = (35 : Int32) := by decide
theorem fl_X12_241 : Cond.fieldLink RX12 241 RX12 (TX12 39).2.1 (TX12 39).2.2.1 ∈ tb := tb_of 1759 (by decide +kernel) (by decide +kernel)
theorem gf_X12_39 : FI 12 RX12 TX12 85 tyX12 39 0 := ⟨rfl, inb_X12, tyX12_ok, nmX12, by decide, by decide, rfl, rfl, rfl⟩
theorem pf_X12_39 : PI 12 RX12 TX12 85 tyX12 39 0 .int := ⟨gf_X12_39, rfl, rfl⟩
theorem cw_X12_sign : Cond.code yX12_sign cX12_sign 2 (some .boolean) ∈ tb := tb_of 2055 (by decide +kernel) (by decide +kernel)
theorem mw_X12_sign : MW yX12_sign cX12_sign 2 (some .boolean) 1 := ⟨cw_X12_sign, ini_X12, by decide +kernel⟩
theorem im_X12_sign : Cond.instanceMethod yX12_sign ∈ tb := tb_of 2054 (by decide +kernel) (by decide +kernel)
theorem se_X12_sign : Cond.selects (yX12_sign).cls yX12_sign yX12_sign ∈ tb := tb_of 96 (by decide +kernel) (by decide +kernel)
theorem ml_X12_250 : Cond.methodLink RX12 250 yX12_sign ∈ tb := tb_of 2052 (by decide +kernel) (by decide +kernel)
theorem cw_X12_number : Cond.code yX12_number cX12_number 2 none ∈ tb := tb_of 2051 (by decide +kernel) (by decide +kernel)
theorem mw_X12_number : MW yX12_number cX12_number 2 none 0 := ⟨cw_X12_number, ini_X12, by decide +kernel⟩
theorem im_X12_number : Cond.instanceMethod yX12_number ∈ tb := tb_of 2050 (by decide +kernel) (by decide +kernel)
theorem se_X12_number : Cond.selects (yX12_number).cls yX12_number yX12_number ∈ tb := tb_of 95 (by decide +kernel) (by decide +kernel)
theorem ml_X12_247 : Cond.methodLink RX12 247 yX12_number ∈ tb := tb_of 2048 (by decide +kernel) (by decide +kernel)
theorem cw_X12_word : Cond.code yX12_word cX12_word 3 none ∈ tb := tb_of 2039 (by decide +kernel) (by decide +kernel)
theorem mw_X12_word : MW yX12_word cX12_word 3 none 0 := ⟨cw_X12_word, ini_X12, by decide +kernel⟩
theorem im_X12_word : Cond.instanceMethod yX12_word ∈ tb := tb_of 2038 (by decide +kernel) (by decide +kernel)
theorem se_X12_word : Cond.selects (yX12_word).cls yX12_word yX12_word ∈ tb := tb_of 92 (by decide +kernel) (by decide +kernel)
theorem ml_X12_244 : Cond.methodLink RX12 244 yX12_word ∈ tb := tb_of 2036 (by decide +kernel) (by decide +kernel)
def f_X12_append_b16 (N : Nat) (D : Dat) : Option (Int32 × Dat) :=
  (f_X12_fail 1 D).bind (fun p1 => some (p1.1, p1.2))
set_option maxHeartbeats 4000000 in
theorem w_X12_append_b16 {X : Cx} {n nu c u : Nat} {K : Nat → Nat} {N : Nat} {z : Int32 × Dat} (O : Ok X cX12_append RX12 (some .int) 1 21) (hm : wlm (xw X) = true) (hn : xn X = 7) (hz : Z0 X (Ax nu K c u)) (D : Dat) (h : f_X12_append_b16 N D = some z) : V X (Q0 X n (Ax nu K c u) (some (.int z.1)) z.2) n (Ax nu K c u) D 16 [(0, .ref (bo X + pp 207))] [] := by
  unfold f_X12_append_b16 at h
  refine v_aload_n (pc := 16) O dX12_append_16 0 rfl ?_
  refine v_iconst (pc := 17) O dX12_append_17 ic_1 ?_
  obtain ⟨p1, e2, h⟩ := bind_some h
  refine v_callV (pc := 18) (a := 207) (As := [.int 1]) (rest := []) (r := (some (.int p1.1))) (D' := p1.2) O (bb0 hz) (c_X12_fail hm e2) mw_X12_fail im_X12_fail se_X12_fail ml_X12_190 kq_207 (by decide) rfl rfl rfl (by decide) (by decide) (Nat.le_of_ble_eq_true rfl) dX12_append_18 rfl rfl ?_
  obtain rfl := Option.some.inj h
  exact v_iret (pc := 21) O hz dX12_append_21
def f_X12_append_b133 (N : Nat) (rec_97 : Int64 → Int32 → Dat → Option (Int32 × Dat)) (x1 : Int64) (x4 : Int32) (D : Dat) : Option (Int32 × Dat) :=
  rec_97 x1 (x4 + (-1)) D
set_option maxHeartbeats 4000000 in
theorem w_X12_append_b133 {X : Cx} {n nu c u : Nat} {K : Nat → Nat} {N : Nat} {rec_97 : Int64 → Int32 → Dat → Option (Int32 × Dat)} {z : Int32 × Dat} (O : Ok X cX12_append RX12 (some .int) 1 21) (hm : wlm (xw X) = true) (hn : xn X = 7) (hz : Z0 X (Ax nu K c u)) (hrec_97 : ∀ (x1 : Int64) (x4 : Int32) (D : Dat), rec_97 x1 x4 D = some z → V X (Q0 X n (Ax nu K c u) (some (.int z.1)) z.2) n (Ax nu K c u) D 97 [(0, .ref (bo X + pp 207)), (1, .long x1), (4, .int x4)] []) (x1 : Int64) (x4 : Int32) (D : Dat) (h : f_X12_append_b133 N rec_97 x1 x4 D = some z) : V X (Q0 X n (Ax nu K c u) (some (.int z.1)) z.2) n (Ax nu K c u) D 133 [(0, .ref (bo X + pp 207)), (1, .long x1), (4, .int x4)] [] := by
  unfold f_X12_append_b133 at h
  refine v_iinc (pc := 133) (lv' := [(4, .int (x4 + (-1))), (0, .ref (bo X + pp 207)), (1, .long x1)]) O dX12_append_133 2 rfl (congrArg (fun q => x4 + q) ic_m1) (by rw [hn]; decide) rfl ?_
  refine v_goto (pc := 136) 97 O dX12_append_136 (by decide) ?_
  refine v_sub [1, 2, 0] rfl ?_
  exact hrec_97 x1 (x4 + (-1)) D h
def f_X12_append_b97 (N : Nat) : Nat → Int64 → Int32 → Dat → Option (Int32 × Dat)
  | 0, _, _, _ => none
  | g + 1, x1, x4, D => if x4 < 0 then (some ((dI D 207 10), D)) else (if (dI D 207 10) < 0 ∨ 240 ≤ ((dI D 207 10)).toNatClampNeg then none else (f_X12_append_b133 N (f_X12_append_b97 N g) x1 x4 (sI (sI D 211 (dI D 207 10).toNatClampNeg ((((x1 >>> ((((8 : Int32) * x4) : Int32).toInt64 &&& 63)) &&& (255 : Int64)) : Int64).toInt32)) 207 10 ((dI (sI D 211 (dI D 207 10).toNatClampNeg ((((x1 >>> ((((8 : Int32) * x4) : Int32).toInt64 &&& 63)) &&& (255 : Int64)) : Int64).toInt32)) 207 10) + (1 : Int32)))))
set_option maxHeartbeats 4000000 in
theorem w_X12_append_b97 {X : Cx} {n nu c u : Nat} {K : Nat → Nat} {N : Nat} {z : Int32 × Dat} (O : Ok X cX12_append RX12 (some .int) 1 21) (hm : wlm (xw X) = true) (hn : xn X = 7) (hz : Z0 X (Ax nu K c u)) : ∀ (g : Nat) (x1 : Int64) (x4 : Int32) (D : Dat), f_X12_append_b97 N g x1 x4 D = some z → V X (Q0 X n (Ax nu K c u) (some (.int z.1)) z.2) n (Ax nu K c u) D 97 [(0, .ref (bo X + pp 207)), (1, .long x1), (4, .int x4)] [] := by
  intro g
  induction g with
  | zero => intro x1 x4 D h; exact absurd h (by simp [f_X12_append_b97])
  | succ g ih =>
    intro x1 x4 D h
    rw [f_X12_append_b97] at h
    refine v_iload (pc := 97) O dX12_append_97 2 rfl ?_
    refine v_iflt (pc := 99) 139 O dX12_append_99 (by decide) (fun c3 => ?_) (fun c3 => ?_)
    · have h := (if_pos c3).symm.trans h
      refine v_aload_n (pc := 139) O dX12_append_139 0 rfl ?_
      refine v_getI (pc := 140) (a := 207) O gf_X12_10 fl_X12_219 kq_207 dX12_append_140 ?_
      obtain rfl := Option.some.inj h
      exact v_iret (pc := 143) O hz dX12_append_143
    · have h := (if_neg c3).symm.trans h
      refine v_aload_n (pc := 102) O dX12_append_102 0 rfl ?_
      refine v_getK (pc := 103) (a := 207) O hm gf_X12_9 fl_X12_27 kq_207 lk_207_9 dX12_append_103 ?_
      refine v_aload_n (pc := 106) O dX12_append_106 0 rfl ?_
      refine v_getI (pc := 107) (a := 207) O gf_X12_10 fl_X12_219 kq_207 dX12_append_107 ?_
      refine v_lload_n (pc := 110) O dX12_append_110 1 rfl ?_
      refine v_bipush (pc := 111) O dX12_append_111 bp_8 ?_
      refine v_iload (pc := 113) O dX12_append_113 2 rfl ?_
      refine v_imul (pc := 115) O dX12_append_115 ?_
      refine v_lshr (pc := 116) O dX12_append_116 ?_
      refine v_ldc2 (pc := 117) O dX12_append_117 cl_X12_213 ?_
      refine v_land (pc := 120) O dX12_append_120 ?_
      refine v_l2i (pc := 121) O dX12_append_121 ?_
      obtain ⟨c4, h⟩ := or_none h
      refine v_iast (pc := 122) (a := 211) O kq_211 (inq lq_211 c4) dX12_append_122 ?_
      refine v_aload_n (pc := 123) O dX12_append_123 0 rfl ?_
      refine v_dup (pc := 124) O dX12_append_124 rfl ?_
      refine v_getI (pc := 125) (a := 207) O gf_X12_10 fl_X12_219 kq_207 dX12_append_125 ?_
      refine v_iconst (pc := 128) O dX12_append_128 ic_1 ?_
      refine v_iadd (pc := 129) O dX12_append_129 ?_
      refine v_putI (pc := 130) (a := 207) O pf_X12_10 fl_X12_219 kq_207 dX12_append_130 ?_
      refine v_sub [0, 1, 2] rfl ?_
      exact w_X12_append_b133 O hm hn hz ih x1 x4 (sI (sI D 211 (dI D 207 10).toNatClampNeg ((((x1 >>> ((((8 : Int32) * x4) : Int32).toInt64 &&& 63)) &&& (255 : Int64)) : Int64).toInt32)) 207 10 ((dI (sI D 211 (dI D 207 10).toNatClampNeg ((((x1 >>> ((((8 : Int32) * x4) : Int32).toInt64 &&& 63)) &&& (255 : Int64)) : Int64).toInt32)) 207 10) + (1 : Int32))) h
def f_X12_append_b62 (N : Nat) (D : Dat) : Option (Int32 × Dat) :=
  (f_X12_fail 1 D).bind (fun p5 => some (p5.1, p5.2))
set_option maxHeartbeats 4000000 in
theorem w_X12_append_b62 {X : Cx} {n nu c u : Nat} {K : Nat → Nat} {N : Nat} {z : Int32 × Dat} (O : Ok X cX12_append RX12 (some .int) 1 21) (hm : wlm (xw X) = true) (hn : xn X = 7) (hz : Z0 X (Ax nu K c u)) (D : Dat) (h : f_X12_append_b62 N D = some z) : V X (Q0 X n (Ax nu K c u) (some (.int z.1)) z.2) n (Ax nu K c u) D 62 [(0, .ref (bo X + pp 207))] [] := by
  unfold f_X12_append_b62 at h
  refine v_aload_n (pc := 62) O dX12_append_62 0 rfl ?_
  refine v_iconst (pc := 63) O dX12_append_63 ic_1 ?_
  obtain ⟨p5, e6, h⟩ := bind_some h
  refine v_callV (pc := 64) (a := 207) (As := [.int 1]) (rest := []) (r := (some (.int p5.1))) (D' := p5.2) O (bb0 hz) (c_X12_fail hm e6) mw_X12_fail im_X12_fail se_X12_fail ml_X12_190 kq_207 (by decide) rfl rfl rfl (by decide) (by decide) (Nat.le_of_ble_eq_true rfl) dX12_append_64 rfl rfl ?_
  obtain rfl := Option.some.inj h
  exact v_iret (pc := 67) O hz dX12_append_67
def f_X12_append_b25 (N : Nat) : Nat → Int64 → Int32 → Int32 → Dat → Option (Int32 × Dat)
  | 0, _, _, _, _ => none
  | g + 1, x1, x3, x4, D => if x3 ≤ x4 then (if ((dI D 207 10) + x3) ≤ 240 then (f_X12_append_b97 N N x1 (x3 - (1 : Int32)) D) else ((f_X12_fail 2 D).bind (fun p9 => some (p9.1, p9.2)))) else (if (lg_cmp ((x1 >>> ((((8 : Int32) * x4) : Int32).toInt64 &&& 63)) &&& (255 : Int64)) (32 : Int64)) < 0 then (f_X12_append_b62 N D) else (if (lg_cmp ((x1 >>> ((((8 : Int32) * x4) : Int32).toInt64 &&& 63)) &&& (255 : Int64)) (126 : Int64)) ≤ 0 then ((f_X12_append_b25 N g) x1 x3 (x4 + 1) D) else (f_X12_append_b62 N D)))
set_option maxHeartbeats 4000000 in
theorem w_X12_append_b25 {X : Cx} {n nu c u : Nat} {K : Nat → Nat} {N : Nat} {z : Int32 × Dat} (O : Ok X cX12_append RX12 (some .int) 1 21) (hm : wlm (xw X) = true) (hn : xn X = 7) (hz : Z0 X (Ax nu K c u)) : ∀ (g : Nat) (x1 : Int64) (x3 : Int32) (x4 : Int32) (D : Dat), f_X12_append_b25 N g x1 x3 x4 D = some z → V X (Q0 X n (Ax nu K c u) (some (.int z.1)) z.2) n (Ax nu K c u) D 25 [(0, .ref (bo X + pp 207)), (1, .long x1), (3, .int x3), (4, .int x4)] [] := by
  intro g
  induction g with
  | zero => intro x1 x3 x4 D h; exact absurd h (by simp [f_X12_append_b25])
  | succ g ih =>
    intro x1 x3 x4 D h
    rw [f_X12_append_b25] at h
    refine v_iload (pc := 25) O dX12_append_25 3 rfl ?_
    refine v_iload_n (pc := 27) O dX12_append_27 2 rfl ?_
    refine v_icmpge (pc := 28) 74 O dX12_append_28 (by decide) (fun c7 => ?_) (fun c7 => ?_)
    · have h := (if_pos c7).symm.trans h
      refine v_aload_n (pc := 74) O dX12_append_74 0 rfl ?_
      refine v_getI (pc := 75) (a := 207) O gf_X12_10 fl_X12_219 kq_207 dX12_append_75 ?_
      refine v_iload_n (pc := 78) O dX12_append_78 2 rfl ?_
      refine v_iadd (pc := 79) O dX12_append_79 ?_
      refine v_sipush (pc := 80) O dX12_append_80 sp_240 ?_
      refine v_icmple (pc := 83) 92 O dX12_append_83 (by decide) (fun c8 => ?_) (fun c8 => ?_)
      · have h := (if_pos c8).symm.trans h
        refine v_iload_n (pc := 92) O dX12_append_92 2 rfl ?_
        refine v_iconst (pc := 93) O dX12_append_93 ic_1 ?_
        refine v_isub (pc := 94) O dX12_append_94 ?_
        refine v_istore (pc := 95) (lv' := [(4, .int (x3 - (1 : Int32))), (0, .ref (bo X + pp 207)), (1, .long x1), (3, .int x3)]) O dX12_append_95 (by rw [hn]; decide) rfl ?_
        refine v_sub [1, 2, 0] rfl ?_
        exact w_X12_append_b97 O hm hn hz N x1 (x3 - (1 : Int32)) D h
      · have h := (if_neg c8).symm.trans h
        refine v_aload_n (pc := 86) O dX12_append_86 0 rfl ?_
        refine v_iconst (pc := 87) O dX12_append_87 ic_2 ?_
        obtain ⟨p9, e10, h⟩ := bind_some h
        refine v_callV (pc := 88) (a := 207) (As := [.int 2]) (rest := []) (r := (some (.int p9.1))) (D' := p9.2) O (bb0 hz) (c_X12_fail hm e10) mw_X12_fail im_X12_fail se_X12_fail ml_X12_190 kq_207 (by decide) rfl rfl rfl (by decide) (by decide) (Nat.le_of_ble_eq_true rfl) dX12_append_88 rfl rfl ?_
        obtain rfl := Option.some.inj h
        exact v_iret (pc := 91) O hz dX12_append_91
    · have h := (if_neg c7).symm.trans h
      refine v_lload_n (pc := 31) O dX12_append_31 1 rfl ?_
      refine v_bipush (pc := 32) O dX12_append_32 bp_8 ?_
      refine v_iload (pc := 34) O dX12_append_34 3 rfl ?_
      refine v_imul (pc := 36) O dX12_append_36 ?_
      refine v_lshr (pc := 37) O dX12_append_37 ?_
      refine v_ldc2 (pc := 38) O dX12_append_38 cl_X12_213 ?_
      refine v_land (pc := 41) O dX12_append_41 ?_
      refine v_lstore (pc := 42) (lv' := [(5, .long ((x1 >>> ((((8 : Int32) * x4) : Int32).toInt64 &&& 63)) &&& (255 : Int64))), (0, .ref (bo X + pp 207)), (1, .long x1), (3, .int x3), (4, .int x4)]) O dX12_append_42 (by rw [hn]; decide) rfl ?_
      refine v_lload (pc := 44) O dX12_append_44 0 rfl ?_
      refine v_ldc2 (pc := 46) O dX12_append_46 cl_X12_215 ?_
      refine v_lcmp (pc := 49) O dX12_append_49 ?_
      refine v_iflt (pc := 50) 62 O dX12_append_50 (by decide) (fun c11 => ?_) (fun c11 => ?_)
      · have h := (if_pos c11).symm.trans h
        refine v_sub [1] rfl ?_
        exact w_X12_append_b62 O hm hn hz D h
      · have h := (if_neg c11).symm.trans h
        refine v_lload (pc := 53) O dX12_append_53 0 rfl ?_
        refine v_ldc2 (pc := 55) O dX12_append_55 cl_X12_217 ?_
        refine v_lcmp (pc := 58) O dX12_append_58 ?_
        refine v_ifle (pc := 59) 68 O dX12_append_59 (by decide) (fun c12 => ?_) (fun c12 => ?_)
        · have h := (if_pos c12).symm.trans h
          refine v_iinc (pc := 68) (lv' := [(4, .int (x4 + 1)), (5, .long ((x1 >>> ((((8 : Int32) * x4) : Int32).toInt64 &&& 63)) &&& (255 : Int64))), (0, .ref (bo X + pp 207)), (1, .long x1), (3, .int x3)]) O dX12_append_68 4 rfl (congrArg (fun q => x4 + q) ic_1) (by rw [hn]; decide) rfl ?_
          refine v_goto (pc := 71) 25 O dX12_append_71 (by decide) ?_
          refine v_sub [2, 3, 4, 0] rfl ?_
          exact ih x1 x3 (x4 + 1) D h
        · have h := (if_neg c12).symm.trans h
          refine v_sub [1] rfl ?_
          exact w_X12_append_b62 O hm hn hz D h
def f_X12_append (N : Nat) (x1 : Int64) (x3 : Int32) (D : Dat) : Option (Int32 × Dat) :=
  if x3 < 1 then (f_X12_append_b16 N (sI D 207 0 0)) else (if x3 ≤ 8 then (f_X12_append_b25 N N x1 x3 0 (sI D 207 0 0)) else (f_X12_append_b16 N (sI D 207 0 0)))
set_option maxHeartbeats 4000000 in
theorem w_X12_append {X : Cx} {n nu c u : Nat} {K : Nat → Nat} {N : Nat} {z : Int32 × Dat} (O : Ok X cX12_append RX12 (some .int) 1 21) (hm : wlm (xw X) = true) (hn : xn X = 7) (hz : Z0 X (Ax nu K c u)) (x1 : Int64) (x3 : Int32) (D : Dat) (h : f_X12_append N x1 x3 D = some z) : V X (Q0 X n (Ax nu K c u) (some (.int z.1)) z.2) n (Ax nu K c u) D 0 [(0, .ref (bo X + pp 207)), (1, .long x1), (3, .int x3)] [] := by
  unfold f_X12_append at h
  refine v_aload_n (pc := 0) O dX12_append_0 0 rfl ?_
  refine v_iconst (pc := 1) O dX12_append_1 ic_0 ?_
  refine v_putI (pc := 2) (a := 207) O pf_X12_0 fl_X12_183 kq_207 dX12_append_2 ?_
  refine v_iload_n (pc := 5) O dX12_append_5 2 rfl ?_
  refine v_iconst (pc := 6) O dX12_append_6 ic_1 ?_
  refine v_icmplt (pc := 7) 16 O dX12_append_7 (by decide) (fun c13 => ?_) (fun c13 => ?_)
  · have h := (if_pos c13).symm.trans h
    refine v_sub [0] rfl ?_
    exact w_X12_append_b16 O hm hn hz (sI D 207 0 0) h
  · have h := (if_neg c13).symm.trans h
    refine v_iload_n (pc := 10) O dX12_append_10 2 rfl ?_
    refine v_bipush (pc := 11) O dX12_append_11 bp_8 ?_
    refine v_icmple (pc := 13) 22 O dX12_append_13 (by decide) (fun c14 => ?_) (fun c14 => ?_)
    · have h := (if_pos c14).symm.trans h
      refine v_iconst (pc := 22) O dX12_append_22 ic_0 ?_
      refine v_istore (pc := 23) (lv' := [(4, .int 0), (0, .ref (bo X + pp 207)), (1, .long x1), (3, .int x3)]) O dX12_append_23 (by rw [hn]; decide) rfl ?_
      refine v_sub [1, 2, 3, 0] rfl ?_
      exact w_X12_append_b25 O hm hn hz N x1 x3 0 (sI D 207 0 0) h
    · have h := (if_neg c14).symm.trans h
      refine v_sub [0] rfl ?_
      exact w_X12_append_b16 O hm hn hz (sI D 207 0 0) h
theorem c_X12_append {l : Launch} {w : Wx} {n nu c u : Nat} {K : Nat → Nat} {N : Nat} (hm : wlm w = true) {x1 : Int64} {x3 : Int32} {D : Dat} {z : Int32 × Dat} (h : f_X12_append N x1 x3 D = some z) : C0 l w yX12_append cX12_append 7 (some .int) 1 21 [.ref (wb w + pp 207), .long x1, .int x3] n (Ax nu K c u) D (some (.int z.1)) z.2 :=
  C0.of (by decide) (Nat.le_of_ble_eq_true rfl) (fun X e1 e2 e3 hz O => by
  subst e1
  subst e2
  exact w_X12_append O hm e3 hz x1 x3 D h)
def f_X12_keyword (x1 : Int32) (D : Dat) : Option (Int32 × Dat) :=
  (if x1 = (143 : Int32) then (some (9, D)) else (if x1 = (294 : Int32) then (some (4, D)) else (if x1 = (302 : Int32) then (some (7, D)) else (if x1 = (16052 : Int32) then (some (8, D)) else (if x1 = (18935 : Int32) then (some (2, D)) else (if x1 = (22578 : Int32) then (some (1, D)) else (if x1 = (176741 : Int32) then (some (5, D)) else (if x1 = (543203 : Int32) then (some (3, D)) else (if x1 = (24388997 : Int32) then (some (6, D)) else (some (0, D)))))))))))
set_option maxHeartbeats 4000000 in
theorem w_X12_keyword {X : Cx} {n nu c u : Nat} {K : Nat → Nat} {z : Int32 × Dat} (O : Ok X cX12_keyword RX12 (some .int) 0 0) (hm : wlm (xw X) = true) (hn : xn X = 2) (hz : Z0 X (Ax nu K c u)) (x1 : Int32) (D : Dat) (h : f_X12_keyword x1 D = some z) : V X (Q0 X n (Ax nu K c u) (some (.int z.1)) z.2) n (Ax nu K c u) D 0 [(0, .ref (bo X + pp 207)), (1, .int x1)] [] := by
  unfold f_X12_keyword at h
  refine v_iload_n (pc := 0) O dX12_keyword_0 1 rfl ?_
  by_cases c1 : x1 = (143 : Int32)
  · have h := (if_pos c1).symm.trans h
    refine v_lookup (pc := 1) 103 O dX12_keyword_1 (by decide) (by rw [c1]) (by decide) ?_
    refine v_bipush (pc := 103) O dX12_keyword_103 bp_9 ?_
    obtain rfl := Option.some.inj h
    exact v_iret (pc := 105) O hz dX12_keyword_105
  · have h := (if_neg c1).symm.trans h
    by_cases c2 : x1 = (294 : Int32)
    · have h := (if_pos c2).symm.trans h
      refine v_lookup (pc := 1) 90 O dX12_keyword_1 (by decide) (by rw [c2]) (by decide) ?_
      refine v_iconst (pc := 90) O dX12_keyword_90 ic_4 ?_
      obtain rfl := Option.some.inj h
      exact v_iret (pc := 91) O hz dX12_keyword_91
    · have h := (if_neg c2).symm.trans h
      by_cases c3 : x1 = (302 : Int32)
      · have h := (if_pos c3).symm.trans h
        refine v_lookup (pc := 1) 97 O dX12_keyword_1 (by decide) (by rw [c3]) (by decide) ?_
        refine v_bipush (pc := 97) O dX12_keyword_97 bp_7 ?_
        obtain rfl := Option.some.inj h
        exact v_iret (pc := 99) O hz dX12_keyword_99
      · have h := (if_neg c3).symm.trans h
        by_cases c4 : x1 = (16052 : Int32)
        · have h := (if_pos c4).symm.trans h
          refine v_lookup (pc := 1) 100 O dX12_keyword_1 (by decide) (by rw [c4]) (by decide) ?_
          refine v_bipush (pc := 100) O dX12_keyword_100 bp_8 ?_
          obtain rfl := Option.some.inj h
          exact v_iret (pc := 102) O hz dX12_keyword_102
        · have h := (if_neg c4).symm.trans h
          by_cases c5 : x1 = (18935 : Int32)
          · have h := (if_pos c5).symm.trans h
            refine v_lookup (pc := 1) 86 O dX12_keyword_1 (by decide) (by rw [c5]) (by decide) ?_
            refine v_iconst (pc := 86) O dX12_keyword_86 ic_2 ?_
            obtain rfl := Option.some.inj h
            exact v_iret (pc := 87) O hz dX12_keyword_87
          · have h := (if_neg c5).symm.trans h
            by_cases c6 : x1 = (22578 : Int32)
            · have h := (if_pos c6).symm.trans h
              refine v_lookup (pc := 1) 84 O dX12_keyword_1 (by decide) (by rw [c6]) (by decide) ?_
              refine v_iconst (pc := 84) O dX12_keyword_84 ic_1 ?_
              obtain rfl := Option.some.inj h
              exact v_iret (pc := 85) O hz dX12_keyword_85
            · have h := (if_neg c6).symm.trans h
              by_cases c7 : x1 = (176741 : Int32)
              · have h := (if_pos c7).symm.trans h
                refine v_lookup (pc := 1) 92 O dX12_keyword_1 (by decide) (by rw [c7]) (by decide) ?_
                refine v_iconst (pc := 92) O dX12_keyword_92 ic_5 ?_
                obtain rfl := Option.some.inj h
                exact v_iret (pc := 93) O hz dX12_keyword_93
              · have h := (if_neg c7).symm.trans h
                by_cases c8 : x1 = (543203 : Int32)
                · have h := (if_pos c8).symm.trans h
                  refine v_lookup (pc := 1) 88 O dX12_keyword_1 (by decide) (by rw [c8]) (by decide) ?_
                  refine v_iconst (pc := 88) O dX12_keyword_88 ic_3 ?_
                  obtain rfl := Option.some.inj h
                  exact v_iret (pc := 89) O hz dX12_keyword_89
                · have h := (if_neg c8).symm.trans h
                  by_cases c9 : x1 = (24388997 : Int32)
                  · have h := (if_pos c9).symm.trans h
                    refine v_lookup (pc := 1) 94 O dX12_keyword_1 (by decide) (by rw [c9]) (by decide) ?_
                    refine v_bipush (pc := 94) O dX12_keyword_94 bp_6 ?_
                    obtain rfl := Option.some.inj h
                    exact v_iret (pc := 96) O hz dX12_keyword_96
                  · have h := (if_neg c9).symm.trans h
                    refine v_lookup (pc := 1) 106 O dX12_keyword_1 (by decide) (by have c1i := ne_i (143) rfl c1; have c2i := ne_i (294) rfl c2; have c3i := ne_i (302) rfl c3; have c4i := ne_i (16052) rfl c4; have c5i := ne_i (18935) rfl c5; have c6i := ne_i (22578) rfl c6; have c7i := ne_i (176741) rfl c7; have c8i := ne_i (543203) rfl c8; have c9i := ne_i (24388997) rfl c9; exact lk_out _ _ _ (by simp [Ne.symm c1i, Ne.symm c2i, Ne.symm c3i, Ne.symm c4i, Ne.symm c5i, Ne.symm c6i, Ne.symm c7i, Ne.symm c8i, Ne.symm c9i])) (by decide) ?_
                    refine v_iconst (pc := 106) O dX12_keyword_106 ic_0 ?_
                    obtain rfl := Option.some.inj h
                    exact v_iret (pc := 107) O hz dX12_keyword_107
theorem c_X12_keyword {l : Launch} {w : Wx} {n nu c u : Nat} {K : Nat → Nat} (hm : wlm w = true) {x1 : Int32} {D : Dat} {z : Int32 × Dat} (h : f_X12_keyword x1 D = some z) : C0 l w yX12_keyword cX12_keyword 2 (some .int) 0 0 [.ref (wb w + pp 207), .int x1] n (Ax nu K c u) D (some (.int z.1)) z.2 :=
  C0.of (by decide) (Nat.le_of_ble_eq_true rfl) (fun X e1 e2 e3 hz O => by
  subst e1
  subst e2
  exact w_X12_keyword O hm e3 hz x1 D h)
def f_X12_letter_b35 (s0 : Int32) (D : Dat) : Option (Int32 × Dat) :=
  if s0 &&& 1 = s0 then some (s0, D) else none
set_option maxHeartbeats 4000000 in
theorem w_X12_letter_b35 {X : Cx} {n nu c u : Nat} {K : Nat → Nat} {z : Int32 × Dat} (O : Ok X cX12_letter RX12 (some .boolean) 0 0) (hm : wlm (xw X) = true) (hn : xn X = 2) (hz : Z0 X (Ax nu K c u)) (s0 : Int32) (D : Dat) (h : f_X12_letter_b35 s0 D = some z) : V X (Q0 X n (Ax nu K c u) (some (.int z.1)) z.2) n (Ax nu K c u) D 35 [] [.int s0] := by
  unfold f_X12_letter_b35 at h
  obtain ⟨c1, h⟩ := if_none h
  obtain rfl := Option.some.inj h
  exact v_zret (pc := 35) O hz (congrArg Value.int c1) dX12_letter_35
def f_X12_letter_b34 (D : Dat) : Option (Int32 × Dat) :=
  f_X12_letter_b35 0 D
set_option maxHeartbeats 4000000 in
theorem w_X12_letter_b34 {X : Cx} {n nu c u : Nat} {K : Nat → Nat} {z : Int32 × Dat} (O : Ok X cX12_letter RX12 (some .boolean) 0 0) (hm : wlm (xw X) = true) (hn : xn X = 2) (hz : Z0 X (Ax nu K c u)) (D : Dat) (h : f_X12_letter_b34 D = some z) : V X (Q0 X n (Ax nu K c u) (some (.int z.1)) z.2) n (Ax nu K c u) D 34 [] [] := by
  unfold f_X12_letter_b34 at h
  refine v_iconst (pc := 34) O dX12_letter_34 ic_0 ?_
  refine v_sub [] rfl ?_
  exact w_X12_letter_b35 O hm hn hz 0 D h
def f_X12_letter (x1 : Int32) (D : Dat) : Option (Int32 × Dat) :=
  if (dI D 207 10) ≤ x1 then (f_X12_letter_b34 D) else (if x1 < 0 ∨ 240 ≤ (x1).toNatClampNeg then none else (if (dI D 211 (x1).toNatClampNeg) < 97 then (f_X12_letter_b34 D) else (if x1 < 0 ∨ 240 ≤ (x1).toNatClampNeg then none else (if 122 < (dI D 211 (x1).toNatClampNeg) then (f_X12_letter_b34 D) else (f_X12_letter_b35 1 D)))))
set_option maxHeartbeats 4000000 in
theorem w_X12_letter {X : Cx} {n nu c u : Nat} {K : Nat → Nat} {z : Int32 × Dat} (O : Ok X cX12_letter RX12 (some .boolean) 0 0) (hm : wlm (xw X) = true) (hn : xn X = 2) (hz : Z0 X (Ax nu K c u)) (x1 : Int32) (D : Dat) (h : f_X12_letter x1 D = some z) : V X (Q0 X n (Ax nu K c u) (some (.int z.1)) z.2) n (Ax nu K c u) D 0 [(0, .ref (bo X + pp 207)), (1, .int x1)] [] := by
  unfold f_X12_letter at h
  refine v_iload_n (pc := 0) O dX12_letter_0 1 rfl ?_
  refine v_aload_n (pc := 1) O dX12_letter_1 0 rfl ?_
  refine v_getI (pc := 2) (a := 207) O gf_X12_10 fl_X12_219 kq_207 dX12_letter_2 ?_
  refine v_icmpge (pc := 5) 34 O dX12_letter_5 (by decide) (fun c2 => ?_) (fun c2 => ?_)
  · have h := (if_pos c2).symm.trans h
    refine v_sub [] rfl ?_
    exact w_X12_letter_b34 O hm hn hz D h
  · have h := (if_neg c2).symm.trans h
    refine v_aload_n (pc := 8) O dX12_letter_8 0 rfl ?_
    refine v_getK (pc := 9) (a := 207) O hm gf_X12_9 fl_X12_27 kq_207 lk_207_9 dX12_letter_9 ?_
    refine v_iload_n (pc := 12) O dX12_letter_12 1 rfl ?_
    obtain ⟨c3, h⟩ := or_none h
    refine v_iald (pc := 13) (a := 211) O kq_211 (inq lq_211 c3) dX12_letter_13 ?_
    refine v_bipush (pc := 14) O dX12_letter_14 bp_97 ?_
    refine v_icmplt (pc := 16) 34 O dX12_letter_16 (by decide) (fun c4 => ?_) (fun c4 => ?_)
    · have h := (if_pos c4).symm.trans h
      refine v_sub [] rfl ?_
      exact w_X12_letter_b34 O hm hn hz D h
    · have h := (if_neg c4).symm.trans h
      refine v_aload_n (pc := 19) O dX12_letter_19 0 rfl ?_
      refine v_getK (pc := 20) (a := 207) O hm gf_X12_9 fl_X12_27 kq_207 lk_207_9 dX12_letter_20 ?_
      refine v_iload_n (pc := 23) O dX12_letter_23 1 rfl ?_
      obtain ⟨c5, h⟩ := or_none h
      refine v_iald (pc := 24) (a := 211) O kq_211 (inq lq_211 c5) dX12_letter_24 ?_
      refine v_bipush (pc := 25) O dX12_letter_25 bp_122 ?_
      refine v_icmpgt (pc := 27) 34 O dX12_letter_27 (by decide) (fun c6 => ?_) (fun c6 => ?_)
      · have h := (if_pos c6).symm.trans h
        refine v_sub [] rfl ?_
        exact w_X12_letter_b34 O hm hn hz D h
      · have h := (if_neg c6).symm.trans h
        refine v_iconst (pc := 30) O dX12_letter_30 ic_1 ?_
        refine v_goto (pc := 31) 35 O dX12_letter_31 (by decide) ?_
        refine v_sub [] rfl ?_
        exact w_X12_letter_b35 O hm hn hz 1 D h
theorem c_X12_letter {l : Launch} {w : Wx} {n nu c u : Nat} {K : Nat → Nat} (hm : wlm w = true) {x1 : Int32} {D : Dat} {z : Int32 × Dat} (h : f_X12_letter x1 D = some z) : C0 l w yX12_letter cX12_letter 2 (some .boolean) 0 0 [.ref (wb w + pp 207), .int x1] n (Ax nu K c u) D (some (.int z.1)) z.2 :=
  C0.of (by decide) (Nat.le_of_ble_eq_true rfl) (fun X e1 e2 e3 hz O => by
  subst e1
  subst e2
  exact w_X12_letter O hm e3 hz x1 D h)
def f_X12_digit_b35 (s0 : Int32) (D : Dat) : Option (Int32 × Dat) :=
  if s0 &&& 1 = s0 then some (s0, D) else none
set_option maxHeartbeats 4000000 in
theorem w_X12_digit_b35 {X : Cx} {n nu c u : Nat} {K : Nat → Nat} {z : Int32 × Dat} (O : Ok X cX12_digit RX12 (some .boolean) 0 0) (hm : wlm (xw X) = true) (hn : xn X = 2) (hz : Z0 X (Ax nu K c u)) (s0 : Int32) (D : Dat) (h : f_X12_digit_b35 s0 D = some z) : V X (Q0 X n (Ax nu K c u) (some (.int z.1)) z.2) n (Ax nu K c u) D 35 [] [.int s0] := by
  unfold f_X12_digit_b35 at h
  obtain ⟨c1, h⟩ := if_none h
  obtain rfl := Option.some.inj h
  exact v_zret (pc := 35) O hz (congrArg Value.int c1) dX12_digit_35
def f_X12_digit_b34 (D : Dat) : Option (Int32 × Dat) :=
  f_X12_digit_b35 0 D
set_option maxHeartbeats 4000000 in
theorem w_X12_digit_b34 {X : Cx} {n nu c u : Nat} {K : Nat → Nat} {z : Int32 × Dat} (O : Ok X cX12_digit RX12 (some .boolean) 0 0) (hm : wlm (xw X) = true) (hn : xn X = 2) (hz : Z0 X (Ax nu K c u)) (D : Dat) (h : f_X12_digit_b34 D = some z) : V X (Q0 X n (Ax nu K c u) (some (.int z.1)) z.2) n (Ax nu K c u) D 34 [] [] := by
  unfold f_X12_digit_b34 at h
  refine v_iconst (pc := 34) O dX12_digit_34 ic_0 ?_
  refine v_sub [] rfl ?_
  exact w_X12_digit_b35 O hm hn hz 0 D h
def f_X12_digit (x1 : Int32) (D : Dat) : Option (Int32 × Dat) :=
  if (dI D 207 10) ≤ x1 then (f_X12_digit_b34 D) else (if x1 < 0 ∨ 240 ≤ (x1).toNatClampNeg then none else (if (dI D 211 (x1).toNatClampNeg) < 48 then (f_X12_digit_b34 D) else (if x1 < 0 ∨ 240 ≤ (x1).toNatClampNeg then none else (if 57 < (dI D 211 (x1).toNatClampNeg) then (f_X12_digit_b34 D) else (f_X12_digit_b35 1 D)))))
set_option maxHeartbeats 4000000 in
theorem w_X12_digit {X : Cx} {n nu c u : Nat} {K : Nat → Nat} {z : Int32 × Dat} (O : Ok X cX12_digit RX12 (some .boolean) 0 0) (hm : wlm (xw X) = true) (hn : xn X = 2) (hz : Z0 X (Ax nu K c u)) (x1 : Int32) (D : Dat) (h : f_X12_digit x1 D = some z) : V X (Q0 X n (Ax nu K c u) (some (.int z.1)) z.2) n (Ax nu K c u) D 0 [(0, .ref (bo X + pp 207)), (1, .int x1)] [] := by
  unfold f_X12_digit at h
  refine v_iload_n (pc := 0) O dX12_digit_0 1 rfl ?_
  refine v_aload_n (pc := 1) O dX12_digit_1 0 rfl ?_
  refine v_getI (pc := 2) (a := 207) O gf_X12_10 fl_X12_219 kq_207 dX12_digit_2 ?_
  refine v_icmpge (pc := 5) 34 O dX12_digit_5 (by decide) (fun c2 => ?_) (fun c2 => ?_)
  · have h := (if_pos c2).symm.trans h
    refine v_sub [] rfl ?_
    exact w_X12_digit_b34 O hm hn hz D h
  · have h := (if_neg c2).symm.trans h
    refine v_aload_n (pc := 8) O dX12_digit_8 0 rfl ?_
    refine v_getK (pc := 9) (a := 207) O hm gf_X12_9 fl_X12_27 kq_207 lk_207_9 dX12_digit_9 ?_
    refine v_iload_n (pc := 12) O dX12_digit_12 1 rfl ?_
    obtain ⟨c3, h⟩ := or_none h
    refine v_iald (pc := 13) (a := 211) O kq_211 (inq lq_211 c3) dX12_digit_13 ?_
    refine v_bipush (pc := 14) O dX12_digit_14 bp_48 ?_
    refine v_icmplt (pc := 16) 34 O dX12_digit_16 (by decide) (fun c4 => ?_) (fun c4 => ?_)
    · have h := (if_pos c4).symm.trans h
      refine v_sub [] rfl ?_
      exact w_X12_digit_b34 O hm hn hz D h
    · have h := (if_neg c4).symm.trans h
      refine v_aload_n (pc := 19) O dX12_digit_19 0 rfl ?_
      refine v_getK (pc := 20) (a := 207) O hm gf_X12_9 fl_X12_27 kq_207 lk_207_9 dX12_digit_20 ?_
      refine v_iload_n (pc := 23) O dX12_digit_23 1 rfl ?_
      obtain ⟨c5, h⟩ := or_none h
      refine v_iald (pc := 24) (a := 211) O kq_211 (inq lq_211 c5) dX12_digit_24 ?_
      refine v_bipush (pc := 25) O dX12_digit_25 bp_57 ?_
      refine v_icmpgt (pc := 27) 34 O dX12_digit_27 (by decide) (fun c6 => ?_) (fun c6 => ?_)
      · have h := (if_pos c6).symm.trans h
        refine v_sub [] rfl ?_
        exact w_X12_digit_b34 O hm hn hz D h
      · have h := (if_neg c6).symm.trans h
        refine v_iconst (pc := 30) O dX12_digit_30 ic_1 ?_
        refine v_goto (pc := 31) 35 O dX12_digit_31 (by decide) ?_
        refine v_sub [] rfl ?_
        exact w_X12_digit_b35 O hm hn hz 1 D h
theorem c_X12_digit {l : Launch} {w : Wx} {n nu c u : Nat} {K : Nat → Nat} (hm : wlm w = true) {x1 : Int32} {D : Dat} {z : Int32 × Dat} (h : f_X12_digit x1 D = some z) : C0 l w yX12_digit cX12_digit 2 (some .boolean) 0 0 [.ref (wb w + pp 207), .int x1] n (Ax nu K c u) D (some (.int z.1)) z.2 :=
  C0.of (by decide) (Nat.le_of_ble_eq_true rfl) (fun X e1 e2 e3 hz O => by
  subst e1
  subst e2
  exact w_X12_digit O hm e3 hz x1 D h)
def f_X12_word_b122 (N : Nat) (s0 : Int32) (D : Dat) : Option (Dat) :=
  some (sI D 207 38 s0)
set_option maxHeartbeats 4000000 in
theorem w_X12_word_b122 {X : Cx} {n nu c u : Nat} {K : Nat → Nat} {N : Nat} {z : Dat} (O : Ok X cX12_word RX12 none 1 21) (hm : wlm (xw X) = true) (hn : xn X = 3) (hz : Z0 X (Ax nu K c u)) (s0 : Int32) (D : Dat) (h : f_X12_word_b122 N s0 D = some z) : V X (Q0 X n (Ax nu K c u) none z) n (Ax nu K c u) D 122 [] [.int s0, .ref (bo X + pp 207)] := by
  unfold f_X12_word_b122 at h
  refine v_putI (pc := 122) (a := 207) O pf_X12_38 fl_X12_235 kq_207 dX12_word_122 ?_
  obtain rfl := Option.some.inj h
  exact v_ret (pc := 125) O hz dX12_word_125
def f_X12_word_b77 (N : Nat) (x1 : Int32) (x2 : Int32) (s0 : Int32) (D : Dat) : Option (Dat) :=
  if ((dI (sI D 207 37 s0) 207 36) - x2) = 1 then (if x2 < 0 ∨ 240 ≤ (x2).toNatClampNeg then none else (f_X12_word_b122 N ((dI (sI D 207 37 s0) 211 (x2).toNatClampNeg) - (97 : Int32)) (sI D 207 37 s0))) else (if ((dI (sI D 207 37 s0) 207 36) - x2) ≤ 5 then ((f_X12_keyword x1 (sI D 207 37 s0)).bind (fun p3 => f_X12_word_b122 N p3.1 p3.2)) else (f_X12_word_b122 N 0 (sI D 207 37 s0)))
set_option maxHeartbeats 4000000 in
theorem w_X12_word_b77 {X : Cx} {n nu c u : Nat} {K : Nat → Nat} {N : Nat} {z : Dat} (O : Ok X cX12_word RX12 none 1 21) (hm : wlm (xw X) = true) (hn : xn X = 3) (hz : Z0 X (Ax nu K c u)) (x1 : Int32) (x2 : Int32) (s0 : Int32) (D : Dat) (h : f_X12_word_b77 N x1 x2 s0 D = some z) : V X (Q0 X n (Ax nu K c u) none z) n (Ax nu K c u) D 77 [(0, .ref (bo X + pp 207)), (1, .int x1), (2, .int x2)] [.int s0, .ref (bo X + pp 207)] := by
  unfold f_X12_word_b77 at h
  refine v_putI (pc := 77) (a := 207) O pf_X12_37 fl_X12_229 kq_207 dX12_word_77 ?_
  refine v_aload_n (pc := 80) O dX12_word_80 0 rfl ?_
  refine v_aload_n (pc := 81) O dX12_word_81 0 rfl ?_
  refine v_getI (pc := 82) (a := 207) O gf_X12_36 fl_X12_222 kq_207 dX12_word_82 ?_
  refine v_iload_n (pc := 85) O dX12_word_85 2 rfl ?_
  refine v_isub (pc := 86) O dX12_word_86 ?_
  refine v_iconst (pc := 87) O dX12_word_87 ic_1 ?_
  refine v_icmpne (pc := 88) 103 O dX12_word_88 (by decide) (fun c1 => ?_) (fun c1 => ?_)
  · have h := (if_neg c1).symm.trans h
    refine v_aload_n (pc := 103) O dX12_word_103 0 rfl ?_
    refine v_getI (pc := 104) (a := 207) O gf_X12_36 fl_X12_222 kq_207 dX12_word_104 ?_
    refine v_iload_n (pc := 107) O dX12_word_107 2 rfl ?_
    refine v_isub (pc := 108) O dX12_word_108 ?_
    refine v_iconst (pc := 109) O dX12_word_109 ic_5 ?_
    refine v_icmple (pc := 110) 117 O dX12_word_110 (by decide) (fun c2 => ?_) (fun c2 => ?_)
    · have h := (if_pos c2).symm.trans h
      refine v_aload_n (pc := 117) O dX12_word_117 0 rfl ?_
      refine v_iload_n (pc := 118) O dX12_word_118 1 rfl ?_
      obtain ⟨p3, e4, h⟩ := bind_some h
      refine v_callV (pc := 119) (a := 207) (As := [.int x1]) (rest := [.ref (bo X + pp 207)]) (r := (some (.int p3.1))) (D' := p3.2) O (bb0 hz) (c_X12_keyword hm e4) mw_X12_keyword im_X12_keyword se_X12_keyword ml_X12_232 kq_207 (by decide) rfl rfl rfl (by decide) (by decide) (Nat.le_of_ble_eq_true rfl) dX12_word_119 rfl rfl ?_
      refine v_sub [] rfl ?_
      exact w_X12_word_b122 O hm hn hz p3.1 p3.2 h
    · have h := (if_neg c2).symm.trans h
      refine v_iconst (pc := 113) O dX12_word_113 ic_0 ?_
      refine v_goto (pc := 114) 122 O dX12_word_114 (by decide) ?_
      refine v_sub [] rfl ?_
      exact w_X12_word_b122 O hm hn hz 0 (sI D 207 37 s0) h
  · have h := (if_pos c1).symm.trans h
    refine v_aload_n (pc := 91) O dX12_word_91 0 rfl ?_
    refine v_getK (pc := 92) (a := 207) O hm gf_X12_9 fl_X12_27 kq_207 lk_207_9 dX12_word_92 ?_
    refine v_iload_n (pc := 95) O dX12_word_95 2 rfl ?_
    obtain ⟨c5, h⟩ := or_none h
    refine v_iald (pc := 96) (a := 211) O kq_211 (inq lq_211 c5) dX12_word_96 ?_
    refine v_bipush (pc := 97) O dX12_word_97 bp_97 ?_
    refine v_isub (pc := 99) O dX12_word_99 ?_
    refine v_goto (pc := 100) 122 O dX12_word_100 (by decide) ?_
    refine v_sub [] rfl ?_
    exact w_X12_word_b122 O hm hn hz ((dI (sI D 207 37 s0) 211 (x2).toNatClampNeg) - (97 : Int32)) (sI D 207 37 s0) h
def f_X12_word_b46 (N : Nat) (rec_7 : Int32 → Int32 → Dat → Option (Dat)) (x1 : Int32) (x2 : Int32) (D : Dat) : Option (Dat) :=
  rec_7 x1 x2 (sI D 207 36 ((dI D 207 36) + (1 : Int32)))
set_option maxHeartbeats 4000000 in
theorem w_X12_word_b46 {X : Cx} {n nu c u : Nat} {K : Nat → Nat} {N : Nat} {rec_7 : Int32 → Int32 → Dat → Option (Dat)} {z : Dat} (O : Ok X cX12_word RX12 none 1 21) (hm : wlm (xw X) = true) (hn : xn X = 3) (hz : Z0 X (Ax nu K c u)) (hrec_7 : ∀ (x1 : Int32) (x2 : Int32) (D : Dat), rec_7 x1 x2 D = some z → V X (Q0 X n (Ax nu K c u) none z) n (Ax nu K c u) D 7 [(0, .ref (bo X + pp 207)), (1, .int x1), (2, .int x2)] []) (x1 : Int32) (x2 : Int32) (D : Dat) (h : f_X12_word_b46 N rec_7 x1 x2 D = some z) : V X (Q0 X n (Ax nu K c u) none z) n (Ax nu K c u) D 46 [(0, .ref (bo X + pp 207)), (1, .int x1), (2, .int x2)] [] := by
  unfold f_X12_word_b46 at h
  refine v_aload_n (pc := 46) O dX12_word_46 0 rfl ?_
  refine v_dup (pc := 47) O dX12_word_47 rfl ?_
  refine v_getI (pc := 48) (a := 207) O gf_X12_36 fl_X12_222 kq_207 dX12_word_48 ?_
  refine v_iconst (pc := 51) O dX12_word_51 ic_1 ?_
  refine v_iadd (pc := 52) O dX12_word_52 ?_
  refine v_putI (pc := 53) (a := 207) O pf_X12_36 fl_X12_222 kq_207 dX12_word_53 ?_
  refine v_goto (pc := 56) 7 O dX12_word_56 (by decide) ?_
  refine v_sub [0, 1, 2] rfl ?_
  exact hrec_7 x1 x2 (sI D 207 36 ((dI D 207 36) + (1 : Int32))) h
def f_X12_word_b7 (N : Nat) : Nat → Int32 → Int32 → Dat → Option (Dat)
  | 0, _, _, _ => none
  | g + 1, x1, x2, D => (f_X12_letter (dI D 207 36) D).bind (fun p6 => if p6.1 = 0 then (if ((dI p6.2 207 36) - x2) = 1 then (f_X12_word_b77 N x1 x2 110 p6.2) else (f_X12_word_b77 N x1 x2 107 p6.2)) else (if 5 ≤ ((dI p6.2 207 36) - x2) then (f_X12_word_b46 N (f_X12_word_b7 N g) x1 x2 p6.2) else (if (dI p6.2 207 36) < 0 ∨ 240 ≤ ((dI p6.2 207 36)).toNatClampNeg then none else (f_X12_word_b46 N (f_X12_word_b7 N g) ((((32 : Int32) * x1) + (dI p6.2 211 (dI p6.2 207 36).toNatClampNeg)) - (96 : Int32)) x2 p6.2))))
set_option maxHeartbeats 4000000 in
theorem w_X12_word_b7 {X : Cx} {n nu c u : Nat} {K : Nat → Nat} {N : Nat} {z : Dat} (O : Ok X cX12_word RX12 none 1 21) (hm : wlm (xw X) = true) (hn : xn X = 3) (hz : Z0 X (Ax nu K c u)) : ∀ (g : Nat) (x1 : Int32) (x2 : Int32) (D : Dat), f_X12_word_b7 N g x1 x2 D = some z → V X (Q0 X n (Ax nu K c u) none z) n (Ax nu K c u) D 7 [(0, .ref (bo X + pp 207)), (1, .int x1), (2, .int x2)] [] := by
  intro g
  induction g with
  | zero => intro x1 x2 D h; exact absurd h (by simp [f_X12_word_b7])
  | succ g ih =>
    intro x1 x2 D h
    rw [f_X12_word_b7] at h
    refine v_aload_n (pc := 7) O dX12_word_7 0 rfl ?_
    refine v_aload_n (pc := 8) O dX12_word_8 0 rfl ?_
    refine v_getI (pc := 9) (a := 207) O gf_X12_36 fl_X12_222 kq_207 dX12_word_9 ?_
    obtain ⟨p6, e7, h⟩ := bind_some h
    refine v_callV (pc := 12) (a := 207) (As := [.int (dI D 207 36)]) (rest := []) (r := (some (.int p6.1))) (D' := p6.2) O (bb0 hz) (c_X12_letter hm e7) mw_X12_letter im_X12_letter se_X12_letter ml_X12_225 kq_207 (by decide) rfl rfl rfl (by decide) (by decide) (Nat.le_of_ble_eq_true rfl) dX12_word_12 rfl rfl ?_
    refine v_ifeq (pc := 15) 59 O dX12_word_15 (by decide) (fun c8 => ?_) (fun c8 => ?_)
    · have h := (if_pos c8).symm.trans h
      refine v_aload_n (pc := 59) O dX12_word_59 0 rfl ?_
      refine v_aload_n (pc := 60) O dX12_word_60 0 rfl ?_
      refine v_getI (pc := 61) (a := 207) O gf_X12_36 fl_X12_222 kq_207 dX12_word_61 ?_
      refine v_iload_n (pc := 64) O dX12_word_64 2 rfl ?_
      refine v_isub (pc := 65) O dX12_word_65 ?_
      refine v_iconst (pc := 66) O dX12_word_66 ic_1 ?_
      refine v_icmpne (pc := 67) 75 O dX12_word_67 (by decide) (fun c9 => ?_) (fun c9 => ?_)
      · have h := (if_neg c9).symm.trans h
        refine v_bipush (pc := 75) O dX12_word_75 bp_107 ?_
        refine v_sub [0, 1, 2] rfl ?_
        exact w_X12_word_b77 O hm hn hz x1 x2 107 p6.2 h
      · have h := (if_pos c9).symm.trans h
        refine v_bipush (pc := 70) O dX12_word_70 bp_110 ?_
        refine v_goto (pc := 72) 77 O dX12_word_72 (by decide) ?_
        refine v_sub [0, 1, 2] rfl ?_
        exact w_X12_word_b77 O hm hn hz x1 x2 110 p6.2 h
    · have h := (if_neg c8).symm.trans h
      refine v_aload_n (pc := 18) O dX12_word_18 0 rfl ?_
      refine v_getI (pc := 19) (a := 207) O gf_X12_36 fl_X12_222 kq_207 dX12_word_19 ?_
      refine v_iload_n (pc := 22) O dX12_word_22 2 rfl ?_
      refine v_isub (pc := 23) O dX12_word_23 ?_
      refine v_iconst (pc := 24) O dX12_word_24 ic_5 ?_
      refine v_icmpge (pc := 25) 46 O dX12_word_25 (by decide) (fun c10 => ?_) (fun c10 => ?_)
      · have h := (if_pos c10).symm.trans h
        refine v_sub [0, 1, 2] rfl ?_
        exact w_X12_word_b46 O hm hn hz ih x1 x2 p6.2 h
      · have h := (if_neg c10).symm.trans h
        refine v_bipush (pc := 28) O dX12_word_28 bp_32 ?_
        refine v_iload_n (pc := 30) O dX12_word_30 1 rfl ?_
        refine v_imul (pc := 31) O dX12_word_31 ?_
        refine v_aload_n (pc := 32) O dX12_word_32 0 rfl ?_
        refine v_getK (pc := 33) (a := 207) O hm gf_X12_9 fl_X12_27 kq_207 lk_207_9 dX12_word_33 ?_
        refine v_aload_n (pc := 36) O dX12_word_36 0 rfl ?_
        refine v_getI (pc := 37) (a := 207) O gf_X12_36 fl_X12_222 kq_207 dX12_word_37 ?_
        obtain ⟨c11, h⟩ := or_none h
        refine v_iald (pc := 40) (a := 211) O kq_211 (inq lq_211 c11) dX12_word_40 ?_
        refine v_iadd (pc := 41) O dX12_word_41 ?_
        refine v_bipush (pc := 42) O dX12_word_42 bp_96 ?_
        refine v_isub (pc := 44) O dX12_word_44 ?_
        refine v_istore_n (pc := 45) (lv' := [(1, .int ((((32 : Int32) * x1) + (dI p6.2 211 (dI p6.2 207 36).toNatClampNeg)) - (96 : Int32))), (0, .ref (bo X + pp 207)), (2, .int x2)]) O dX12_word_45 rfl (by rw [hn]; decide) rfl ?_
        refine v_sub [1, 0, 2] rfl ?_
        exact w_X12_word_b46 O hm hn hz ih ((((32 : Int32) * x1) + (dI p6.2 211 (dI p6.2 207 36).toNatClampNeg)) - (96 : Int32)) x2 p6.2 h
def f_X12_word (N : Nat) (D : Dat) : Option (Dat) :=
  f_X12_word_b7 N N 0 (dI D 207 36) D
set_option maxHeartbeats 4000000 in
theorem w_X12_word {X : Cx} {n nu c u : Nat} {K : Nat → Nat} {N : Nat} {z : Dat} (O : Ok X cX12_word RX12 none 1 21) (hm : wlm (xw X) = true) (hn : xn X = 3) (hz : Z0 X (Ax nu K c u)) (D : Dat) (h : f_X12_word N D = some z) : V X (Q0 X n (Ax nu K c u) none z) n (Ax nu K c u) D 0 [(0, .ref (bo X + pp 207))] [] := by
  unfold f_X12_word at h
  refine v_iconst (pc := 0) O dX12_word_0 ic_0 ?_
  refine v_istore_n (pc := 1) (lv' := [(1, .int 0), (0, .ref (bo X + pp 207))]) O dX12_word_1 rfl (by rw [hn]; decide) rfl ?_
  refine v_aload_n (pc := 2) O dX12_word_2 1 rfl ?_
  refine v_getI (pc := 3) (a := 207) O gf_X12_36 fl_X12_222 kq_207 dX12_word_3 ?_
  refine v_istore_n (pc := 6) (lv' := [(2, .int (dI D 207 36)), (1, .int 0), (0, .ref (bo X + pp 207))]) O dX12_word_6 rfl (by rw [hn]; decide) rfl ?_
  refine v_sub [2, 1, 0] rfl ?_
  exact w_X12_word_b7 O hm hn hz N 0 (dI D 207 36) D h
theorem c_X12_word {l : Launch} {w : Wx} {n nu c u : Nat} {K : Nat → Nat} {N : Nat} (hm : wlm w = true) {D : Dat} {z : Dat} (h : f_X12_word N D = some z) : C0 l w yX12_word cX12_word 3 none 1 21 [.ref (wb w + pp 207)] n (Ax nu K c u) D none z :=
  C0.of (by decide) (Nat.le_of_ble_eq_true rfl) (fun X e1 e2 e3 hz O => by
  subst e1
  subst e2
  exact w_X12_word O hm e3 hz  D h)
def f_X12_number_b56 (N : Nat) (rec_10 : Int32 → Dat → Option (Dat)) (x1 : Int32) (D : Dat) : Option (Dat) :=
  rec_10 x1 (sI D 207 36 ((dI D 207 36) + (1 : Int32)))
set_option maxHeartbeats 4000000 in
theorem w_X12_number_b56 {X : Cx} {n nu c u : Nat} {K : Nat → Nat} {N : Nat} {rec_10 : Int32 → Dat → Option (Dat)} {z : Dat} (O : Ok X cX12_number RX12 none 1 21) (hm : wlm (xw X) = true) (hn : xn X = 2) (hz : Z0 X (Ax nu K c u)) (hrec_10 : ∀ (x1 : Int32) (D : Dat), rec_10 x1 D = some z → V X (Q0 X n (Ax nu K c u) none z) n (Ax nu K c u) D 10 [(0, .ref (bo X + pp 207)), (1, .int x1)] []) (x1 : Int32) (D : Dat) (h : f_X12_number_b56 N rec_10 x1 D = some z) : V X (Q0 X n (Ax nu K c u) none z) n (Ax nu K c u) D 56 [(0, .ref (bo X + pp 207)), (1, .int x1)] [] := by
  unfold f_X12_number_b56 at h
  refine v_aload_n (pc := 56) O dX12_number_56 0 rfl ?_
  refine v_dup (pc := 57) O dX12_number_57 rfl ?_
  refine v_getI (pc := 58) (a := 207) O gf_X12_36 fl_X12_222 kq_207 dX12_number_58 ?_
  refine v_iconst (pc := 61) O dX12_number_61 ic_1 ?_
  refine v_iadd (pc := 62) O dX12_number_62 ?_
  refine v_putI (pc := 63) (a := 207) O pf_X12_36 fl_X12_222 kq_207 dX12_number_63 ?_
  refine v_goto (pc := 66) 10 O dX12_number_66 (by decide) ?_
  refine v_sub [0, 1] rfl ?_
  exact hrec_10 x1 (sI D 207 36 ((dI D 207 36) + (1 : Int32))) h
def f_X12_number_b87 (N : Nat) (s0 : Int32) (D : Dat) : Option (Dat) :=
  some (sI D 207 37 s0)
set_option maxHeartbeats 4000000 in
theorem w_X12_number_b87 {X : Cx} {n nu c u : Nat} {K : Nat → Nat} {N : Nat} {z : Dat} (O : Ok X cX12_number RX12 none 1 21) (hm : wlm (xw X) = true) (hn : xn X = 2) (hz : Z0 X (Ax nu K c u)) (s0 : Int32) (D : Dat) (h : f_X12_number_b87 N s0 D = some z) : V X (Q0 X n (Ax nu K c u) none z) n (Ax nu K c u) D 87 [] [.int s0, .ref (bo X + pp 207)] := by
  unfold f_X12_number_b87 at h
  refine v_putI (pc := 87) (a := 207) O pf_X12_37 fl_X12_229 kq_207 dX12_number_87 ?_
  obtain rfl := Option.some.inj h
  exact v_ret (pc := 90) O hz dX12_number_90
def f_X12_number_b10 (N : Nat) : Nat → Int32 → Dat → Option (Dat)
  | 0, _, _ => none
  | g + 1, x1, D => (f_X12_digit (dI D 207 36) D).bind (fun p1 => if p1.1 = 0 then (if ((dI p1.2 207 36) - x1) ≤ 9 then (f_X12_number_b87 N 35 p1.2) else (f_X12_number_b87 N 1 p1.2)) else (if 9 ≤ ((dI p1.2 207 36) - x1) then (f_X12_number_b56 N (f_X12_number_b10 N g) x1 p1.2) else (if (dI p1.2 207 36) < 0 ∨ 240 ≤ ((dI p1.2 207 36)).toNatClampNeg then none else (f_X12_number_b56 N (f_X12_number_b10 N g) x1 (sI p1.2 207 38 ((((10 : Int32) * (dI p1.2 207 38)) + (dI p1.2 211 (dI p1.2 207 36).toNatClampNeg)) - (48 : Int32)))))))
set_option maxHeartbeats 4000000 in
theorem w_X12_number_b10 {X : Cx} {n nu c u : Nat} {K : Nat → Nat} {N : Nat} {z : Dat} (O : Ok X cX12_number RX12 none 1 21) (hm : wlm (xw X) = true) (hn : xn X = 2) (hz : Z0 X (Ax nu K c u)) : ∀ (g : Nat) (x1 : Int32) (D : Dat), f_X12_number_b10 N g x1 D = some z → V X (Q0 X n (Ax nu K c u) none z) n (Ax nu K c u) D 10 [(0, .ref (bo X + pp 207)), (1, .int x1)] [] := by
  intro g
  induction g with
  | zero => intro x1 D h; exact absurd h (by simp [f_X12_number_b10])
  | succ g ih =>
    intro x1 D h
    rw [f_X12_number_b10] at h
    refine v_aload_n (pc := 10) O dX12_number_10 0 rfl ?_
    refine v_aload_n (pc := 11) O dX12_number_11 0 rfl ?_
    refine v_getI (pc := 12) (a := 207) O gf_X12_36 fl_X12_222 kq_207 dX12_number_12 ?_
    obtain ⟨p1, e2, h⟩ := bind_some h
    refine v_callV (pc := 15) (a := 207) (As := [.int (dI D 207 36)]) (rest := []) (r := (some (.int p1.1))) (D' := p1.2) O (bb0 hz) (c_X12_digit hm e2) mw_X12_digit im_X12_digit se_X12_digit ml_X12_238 kq_207 (by decide) rfl rfl rfl (by decide) (by decide) (Nat.le_of_ble_eq_true rfl) dX12_number_15 rfl rfl ?_
    refine v_ifeq (pc := 18) 69 O dX12_number_18 (by decide) (fun c3 => ?_) (fun c3 => ?_)
    · have h := (if_pos c3).symm.trans h
      refine v_aload_n (pc := 69) O dX12_number_69 0 rfl ?_
      refine v_aload_n (pc := 70) O dX12_number_70 0 rfl ?_
      refine v_getI (pc := 71) (a := 207) O gf_X12_36 fl_X12_222 kq_207 dX12_number_71 ?_
      refine v_iload_n (pc := 74) O dX12_number_74 1 rfl ?_
      refine v_isub (pc := 75) O dX12_number_75 ?_
      refine v_bipush (pc := 76) O dX12_number_76 bp_9 ?_
      refine v_icmple (pc := 78) 85 O dX12_number_78 (by decide) (fun c4 => ?_) (fun c4 => ?_)
      · have h := (if_pos c4).symm.trans h
        refine v_bipush (pc := 85) O dX12_number_85 bp_35 ?_
        refine v_sub [] rfl ?_
        exact w_X12_number_b87 O hm hn hz 35 p1.2 h
      · have h := (if_neg c4).symm.trans h
        refine v_iconst (pc := 81) O dX12_number_81 ic_1 ?_
        refine v_goto (pc := 82) 87 O dX12_number_82 (by decide) ?_
        refine v_sub [] rfl ?_
        exact w_X12_number_b87 O hm hn hz 1 p1.2 h
    · have h := (if_neg c3).symm.trans h
      refine v_aload_n (pc := 21) O dX12_number_21 0 rfl ?_
      refine v_getI (pc := 22) (a := 207) O gf_X12_36 fl_X12_222 kq_207 dX12_number_22 ?_
      refine v_iload_n (pc := 25) O dX12_number_25 1 rfl ?_
      refine v_isub (pc := 26) O dX12_number_26 ?_
      refine v_bipush (pc := 27) O dX12_number_27 bp_9 ?_
      refine v_icmpge (pc := 29) 56 O dX12_number_29 (by decide) (fun c5 => ?_) (fun c5 => ?_)
      · have h := (if_pos c5).symm.trans h
        refine v_sub [0, 1] rfl ?_
        exact w_X12_number_b56 O hm hn hz ih x1 p1.2 h
      · have h := (if_neg c5).symm.trans h
        refine v_aload_n (pc := 32) O dX12_number_32 0 rfl ?_
        refine v_bipush (pc := 33) O dX12_number_33 bp_10 ?_
        refine v_aload_n (pc := 35) O dX12_number_35 0 rfl ?_
        refine v_getI (pc := 36) (a := 207) O gf_X12_38 fl_X12_235 kq_207 dX12_number_36 ?_
        refine v_imul (pc := 39) O dX12_number_39 ?_
        refine v_aload_n (pc := 40) O dX12_number_40 0 rfl ?_
        refine v_getK (pc := 41) (a := 207) O hm gf_X12_9 fl_X12_27 kq_207 lk_207_9 dX12_number_41 ?_
        refine v_aload_n (pc := 44) O dX12_number_44 0 rfl ?_
        refine v_getI (pc := 45) (a := 207) O gf_X12_36 fl_X12_222 kq_207 dX12_number_45 ?_
        obtain ⟨c6, h⟩ := or_none h
        refine v_iald (pc := 48) (a := 211) O kq_211 (inq lq_211 c6) dX12_number_48 ?_
        refine v_iadd (pc := 49) O dX12_number_49 ?_
        refine v_bipush (pc := 50) O dX12_number_50 bp_48 ?_
        refine v_isub (pc := 52) O dX12_number_52 ?_
        refine v_putI (pc := 53) (a := 207) O pf_X12_38 fl_X12_235 kq_207 dX12_number_53 ?_
        refine v_sub [0, 1] rfl ?_
        exact w_X12_number_b56 O hm hn hz ih x1 (sI p1.2 207 38 ((((10 : Int32) * (dI p1.2 207 38)) + (dI p1.2 211 (dI p1.2 207 36).toNatClampNeg)) - (48 : Int32))) h
def f_X12_number (N : Nat) (D : Dat) : Option (Dat) :=
  f_X12_number_b10 N N (dI D 207 36) (sI D 207 38 0)
set_option maxHeartbeats 4000000 in
theorem w_X12_number {X : Cx} {n nu c u : Nat} {K : Nat → Nat} {N : Nat} {z : Dat} (O : Ok X cX12_number RX12 none 1 21) (hm : wlm (xw X) = true) (hn : xn X = 2) (hz : Z0 X (Ax nu K c u)) (D : Dat) (h : f_X12_number N D = some z) : V X (Q0 X n (Ax nu K c u) none z) n (Ax nu K c u) D 0 [(0, .ref (bo X + pp 207))] [] := by
  unfold f_X12_number at h
  refine v_aload_n (pc := 0) O dX12_number_0 0 rfl ?_
  refine v_getI (pc := 1) (a := 207) O gf_X12_36 fl_X12_222 kq_207 dX12_number_1 ?_
  refine v_istore_n (pc := 4) (lv' := [(1, .int (dI D 207 36)), (0, .ref (bo X + pp 207))]) O dX12_number_4 rfl (by rw [hn]; decide) rfl ?_
  refine v_aload_n (pc := 5) O dX12_number_5 1 rfl ?_
  refine v_iconst (pc := 6) O dX12_number_6 ic_0 ?_
  refine v_putI (pc := 7) (a := 207) O pf_X12_38 fl_X12_235 kq_207 dX12_number_7 ?_
  refine v_sub [1, 0] rfl ?_
  exact w_X12_number_b10 O hm hn hz N (dI D 207 36) (sI D 207 38 0) h
theorem c_X12_number {l : Launch} {w : Wx} {n nu c u : Nat} {K : Nat → Nat} {N : Nat} (hm : wlm w = true) {D : Dat} {z : Dat} (h : f_X12_number N D = some z) : C0 l w yX12_number cX12_number 2 none 1 21 [.ref (wb w + pp 207)] n (Ax nu K c u) D none z :=
  C0.of (by decide) (Nat.le_of_ble_eq_true rfl) (fun X e1 e2 e3 hz O => by
  subst e1
  subst e2
  exact w_X12_number O hm e3 hz  D h)
def f_X12_sign_b124 (D : Dat) : Option (Int32 × Dat) :=
  some (1, D)
set_option maxHeartbeats 4000000 in
theorem w_X12_sign_b124 {X : Cx} {n nu c u : Nat} {K : Nat → Nat} {z : Int32 × Dat} (O : Ok X cX12_sign RX12 (some .boolean) 0 0) (hm : wlm (xw X) = true) (hn : xn X = 2) (hz : Z0 X (Ax nu K c u)) (D : Dat) (h : f_X12_sign_b124 D = some z) : V X (Q0 X n (Ax nu K c u) (some (.int z.1)) z.2) n (Ax nu K c u) D 124 [] [] := by
  unfold f_X12_sign_b124 at h
  refine v_iconst (pc := 124) O dX12_sign_124 ic_1 ?_
  obtain rfl := Option.some.inj h
  exact v_zret (pc := 125) O hz narrow_b1 dX12_sign_125
def f_X12_sign (x1 : Int32) (D : Dat) : Option (Int32 × Dat) :=
  (if x1 = (40 : Int32) then (f_X12_sign_b124 D) else (if x1 = (41 : Int32) then (f_X12_sign_b124 D) else (if x1 = (42 : Int32) then (f_X12_sign_b124 D) else (if x1 = (43 : Int32) then (f_X12_sign_b124 D) else (if x1 = (45 : Int32) then (f_X12_sign_b124 D) else (if x1 = (47 : Int32) then (f_X12_sign_b124 D) else (if x1 = (58 : Int32) then (f_X12_sign_b124 D) else (if x1 = (59 : Int32) then (f_X12_sign_b124 D) else (if x1 = (60 : Int32) then (f_X12_sign_b124 D) else (if x1 = (61 : Int32) then (f_X12_sign_b124 D) else (if x1 = (91 : Int32) then (f_X12_sign_b124 D) else (if x1 = (93 : Int32) then (f_X12_sign_b124 D) else (if x1 = (123 : Int32) then (f_X12_sign_b124 D) else (if x1 = (125 : Int32) then (f_X12_sign_b124 D) else (some (0, D))))))))))))))))
set_option maxHeartbeats 4000000 in
theorem w_X12_sign {X : Cx} {n nu c u : Nat} {K : Nat → Nat} {z : Int32 × Dat} (O : Ok X cX12_sign RX12 (some .boolean) 0 0) (hm : wlm (xw X) = true) (hn : xn X = 2) (hz : Z0 X (Ax nu K c u)) (x1 : Int32) (D : Dat) (h : f_X12_sign x1 D = some z) : V X (Q0 X n (Ax nu K c u) (some (.int z.1)) z.2) n (Ax nu K c u) D 0 [(0, .ref (bo X + pp 207)), (1, .int x1)] [] := by
  unfold f_X12_sign at h
  refine v_iload_n (pc := 0) O dX12_sign_0 1 rfl ?_
  by_cases c1 : x1 = (40 : Int32)
  · have h := (if_pos c1).symm.trans h
    refine v_lookup (pc := 1) 124 O dX12_sign_1 (by decide) (by rw [c1]) (by decide) ?_
    refine v_sub [] rfl ?_
    exact w_X12_sign_b124 O hm hn hz D h
  · have h := (if_neg c1).symm.trans h
    by_cases c2 : x1 = (41 : Int32)
    · have h := (if_pos c2).symm.trans h
      refine v_lookup (pc := 1) 124 O dX12_sign_1 (by decide) (by rw [c2]) (by decide) ?_
      refine v_sub [] rfl ?_
      exact w_X12_sign_b124 O hm hn hz D h
    · have h := (if_neg c2).symm.trans h
      by_cases c3 : x1 = (42 : Int32)
      · have h := (if_pos c3).symm.trans h
        refine v_lookup (pc := 1) 124 O dX12_sign_1 (by decide) (by rw [c3]) (by decide) ?_
        refine v_sub [] rfl ?_
        exact w_X12_sign_b124 O hm hn hz D h
      · have h := (if_neg c3).symm.trans h
        by_cases c4 : x1 = (43 : Int32)
        · have h := (if_pos c4).symm.trans h
          refine v_lookup (pc := 1) 124 O dX12_sign_1 (by decide) (by rw [c4]) (by decide) ?_
          refine v_sub [] rfl ?_
          exact w_X12_sign_b124 O hm hn hz D h
        · have h := (if_neg c4).symm.trans h
          by_cases c5 : x1 = (45 : Int32)
          · have h := (if_pos c5).symm.trans h
            refine v_lookup (pc := 1) 124 O dX12_sign_1 (by decide) (by rw [c5]) (by decide) ?_
            refine v_sub [] rfl ?_
            exact w_X12_sign_b124 O hm hn hz D h
          · have h := (if_neg c5).symm.trans h
            by_cases c6 : x1 = (47 : Int32)
            · have h := (if_pos c6).symm.trans h
              refine v_lookup (pc := 1) 124 O dX12_sign_1 (by decide) (by rw [c6]) (by decide) ?_
              refine v_sub [] rfl ?_
              exact w_X12_sign_b124 O hm hn hz D h
            · have h := (if_neg c6).symm.trans h
              by_cases c7 : x1 = (58 : Int32)
              · have h := (if_pos c7).symm.trans h
                refine v_lookup (pc := 1) 124 O dX12_sign_1 (by decide) (by rw [c7]) (by decide) ?_
                refine v_sub [] rfl ?_
                exact w_X12_sign_b124 O hm hn hz D h
              · have h := (if_neg c7).symm.trans h
                by_cases c8 : x1 = (59 : Int32)
                · have h := (if_pos c8).symm.trans h
                  refine v_lookup (pc := 1) 124 O dX12_sign_1 (by decide) (by rw [c8]) (by decide) ?_
                  refine v_sub [] rfl ?_
                  exact w_X12_sign_b124 O hm hn hz D h
                · have h := (if_neg c8).symm.trans h
                  by_cases c9 : x1 = (60 : Int32)
                  · have h := (if_pos c9).symm.trans h
                    refine v_lookup (pc := 1) 124 O dX12_sign_1 (by decide) (by rw [c9]) (by decide) ?_
                    refine v_sub [] rfl ?_
                    exact w_X12_sign_b124 O hm hn hz D h
                  · have h := (if_neg c9).symm.trans h
                    by_cases c10 : x1 = (61 : Int32)
                    · have h := (if_pos c10).symm.trans h
                      refine v_lookup (pc := 1) 124 O dX12_sign_1 (by decide) (by rw [c10]) (by decide) ?_
                      refine v_sub [] rfl ?_
                      exact w_X12_sign_b124 O hm hn hz D h
                    · have h := (if_neg c10).symm.trans h
                      by_cases c11 : x1 = (91 : Int32)
                      · have h := (if_pos c11).symm.trans h
                        refine v_lookup (pc := 1) 124 O dX12_sign_1 (by decide) (by rw [c11]) (by decide) ?_
                        refine v_sub [] rfl ?_
                        exact w_X12_sign_b124 O hm hn hz D h
                      · have h := (if_neg c11).symm.trans h
                        by_cases c12 : x1 = (93 : Int32)
                        · have h := (if_pos c12).symm.trans h
                          refine v_lookup (pc := 1) 124 O dX12_sign_1 (by decide) (by rw [c12]) (by decide) ?_
                          refine v_sub [] rfl ?_
                          exact w_X12_sign_b124 O hm hn hz D h
                        · have h := (if_neg c12).symm.trans h
                          by_cases c13 : x1 = (123 : Int32)
                          · have h := (if_pos c13).symm.trans h
                            refine v_lookup (pc := 1) 124 O dX12_sign_1 (by decide) (by rw [c13]) (by decide) ?_
                            refine v_sub [] rfl ?_
                            exact w_X12_sign_b124 O hm hn hz D h
                          · have h := (if_neg c13).symm.trans h
                            by_cases c14 : x1 = (125 : Int32)
                            · have h := (if_pos c14).symm.trans h
                              refine v_lookup (pc := 1) 124 O dX12_sign_1 (by decide) (by rw [c14]) (by decide) ?_
                              refine v_sub [] rfl ?_
                              exact w_X12_sign_b124 O hm hn hz D h
                            · have h := (if_neg c14).symm.trans h
                              refine v_lookup (pc := 1) 126 O dX12_sign_1 (by decide) (by have c1i := ne_i (40) rfl c1; have c2i := ne_i (41) rfl c2; have c3i := ne_i (42) rfl c3; have c4i := ne_i (43) rfl c4; have c5i := ne_i (45) rfl c5; have c6i := ne_i (47) rfl c6; have c7i := ne_i (58) rfl c7; have c8i := ne_i (59) rfl c8; have c9i := ne_i (60) rfl c9; have c10i := ne_i (61) rfl c10; have c11i := ne_i (91) rfl c11; have c12i := ne_i (93) rfl c12; have c13i := ne_i (123) rfl c13; have c14i := ne_i (125) rfl c14; exact lk_out _ _ _ (by simp [Ne.symm c1i, Ne.symm c2i, Ne.symm c3i, Ne.symm c4i, Ne.symm c5i, Ne.symm c6i, Ne.symm c7i, Ne.symm c8i, Ne.symm c9i, Ne.symm c10i, Ne.symm c11i, Ne.symm c12i, Ne.symm c13i, Ne.symm c14i])) (by decide) ?_
                              refine v_iconst (pc := 126) O dX12_sign_126 ic_0 ?_
                              obtain rfl := Option.some.inj h
                              exact v_zret (pc := 127) O hz narrow_b0 dX12_sign_127
theorem c_X12_sign {l : Launch} {w : Wx} {n nu c u : Nat} {K : Nat → Nat} (hm : wlm w = true) {x1 : Int32} {D : Dat} {z : Int32 × Dat} (h : f_X12_sign x1 D = some z) : C0 l w yX12_sign cX12_sign 2 (some .boolean) 0 0 [.ref (wb w + pp 207), .int x1] n (Ax nu K c u) D (some (.int z.1)) z.2 :=
  C0.of (by decide) (Nat.le_of_ble_eq_true rfl) (fun X e1 e2 e3 hz O => by
  subst e1
  subst e2
  exact w_X12_sign O hm e3 hz x1 D h)
def f_X12_next_b142 (N : Nat) (D : Dat) : Option (Dat) :=
  some D
set_option maxHeartbeats 4000000 in
theorem w_X12_next_b142 {X : Cx} {n nu c u : Nat} {K : Nat → Nat} {N : Nat} {z : Dat} (O : Ok X cX12_next RX12 none 2 43) (hm : wlm (xw X) = true) (hn : xn X = 1) (hz : Z0 X (Ax nu K c u)) (D : Dat) (h : f_X12_next_b142 N D = some z) : V X (Q0 X n (Ax nu K c u) none z) n (Ax nu K c u) D 142 [] [] := by
  unfold f_X12_next_b142 at h
  obtain rfl := Option.some.inj h
  exact v_ret (pc := 142) O hz dX12_next_142
def f_X12_next_b129 (N : Nat) (s0 : Int32) (D : Dat) : Option (Dat) :=
  f_X12_next_b142 N (sI (sI D 207 37 s0) 207 36 ((dI (sI D 207 37 s0) 207 36) + (1 : Int32)))
set_option maxHeartbeats 4000000 in
theorem w_X12_next_b129 {X : Cx} {n nu c u : Nat} {K : Nat → Nat} {N : Nat} {z : Dat} (O : Ok X cX12_next RX12 none 2 43) (hm : wlm (xw X) = true) (hn : xn X = 1) (hz : Z0 X (Ax nu K c u)) (s0 : Int32) (D : Dat) (h : f_X12_next_b129 N s0 D = some z) : V X (Q0 X n (Ax nu K c u) none z) n (Ax nu K c u) D 129 [(0, .ref (bo X + pp 207))] [.int s0, .ref (bo X + pp 207)] := by
  unfold f_X12_next_b129 at h
  refine v_putI (pc := 129) (a := 207) O pf_X12_37 fl_X12_229 kq_207 dX12_next_129 ?_
  refine v_aload_n (pc := 132) O dX12_next_132 0 rfl ?_
  refine v_dup (pc := 133) O dX12_next_133 rfl ?_
  refine v_getI (pc := 134) (a := 207) O gf_X12_36 fl_X12_222 kq_207 dX12_next_134 ?_
  refine v_iconst (pc := 137) O dX12_next_137 ic_1 ?_
  refine v_iadd (pc := 138) O dX12_next_138 ?_
  refine v_putI (pc := 139) (a := 207) O pf_X12_36 fl_X12_222 kq_207 dX12_next_139 ?_
  refine v_sub [] rfl ?_
  exact w_X12_next_b142 O hm hn hz (sI (sI D 207 37 s0) 207 36 ((dI (sI D 207 37 s0) 207 36) + (1 : Int32))) h
def f_X12_next_b38 (N : Nat) (D : Dat) : Option (Dat) :=
  if (dI (sI (sI D 207 39 (dI D 207 36)) 207 37 0) 207 36) = (dI (sI (sI D 207 39 (dI D 207 36)) 207 37 0) 207 10) then (some (sI (sI D 207 39 (dI D 207 36)) 207 37 0)) else ((f_X12_letter (dI (sI (sI D 207 39 (dI D 207 36)) 207 37 0) 207 36) (sI (sI D 207 39 (dI D 207 36)) 207 37 0)).bind (fun p2 => if p2.1 = 0 then ((f_X12_digit (dI p2.2 207 36) p2.2).bind (fun p5 => if p5.1 = 0 then (if (dI p5.2 207 36) < 0 ∨ 240 ≤ ((dI p5.2 207 36)).toNatClampNeg then none else ((f_X12_sign (dI p5.2 211 (dI p5.2 207 36).toNatClampNeg) p5.2).bind (fun p9 => if p9.1 = 0 then (f_X12_next_b129 N 1 p9.2) else (if (dI p9.2 207 36) < 0 ∨ 240 ≤ ((dI p9.2 207 36)).toNatClampNeg then none else (f_X12_next_b129 N (dI p9.2 211 (dI p9.2 207 36).toNatClampNeg) p9.2))))) else ((f_X12_number N p5.2).bind (fun p13 => f_X12_next_b142 N p13)))) else ((f_X12_word N p2.2).bind (fun p15 => f_X12_next_b142 N p15))))
set_option maxHeartbeats 4000000 in
theorem w_X12_next_b38 {X : Cx} {n nu c u : Nat} {K : Nat → Nat} {N : Nat} {z : Dat} (O : Ok X cX12_next RX12 none 2 43) (hm : wlm (xw X) = true) (hn : xn X = 1) (hz : Z0 X (Ax nu K c u)) (D : Dat) (h : f_X12_next_b38 N D = some z) : V X (Q0 X n (Ax nu K c u) none z) n (Ax nu K c u) D 38 [(0, .ref (bo X + pp 207))] [] := by
  unfold f_X12_next_b38 at h
  refine v_aload_n (pc := 38) O dX12_next_38 0 rfl ?_
  refine v_aload_n (pc := 39) O dX12_next_39 0 rfl ?_
  refine v_getI (pc := 40) (a := 207) O gf_X12_36 fl_X12_222 kq_207 dX12_next_40 ?_
  refine v_putI (pc := 43) (a := 207) O pf_X12_39 fl_X12_241 kq_207 dX12_next_43 ?_
  refine v_aload_n (pc := 46) O dX12_next_46 0 rfl ?_
  refine v_iconst (pc := 47) O dX12_next_47 ic_0 ?_
  refine v_putI (pc := 48) (a := 207) O pf_X12_37 fl_X12_229 kq_207 dX12_next_48 ?_
  refine v_aload_n (pc := 51) O dX12_next_51 0 rfl ?_
  refine v_getI (pc := 52) (a := 207) O gf_X12_36 fl_X12_222 kq_207 dX12_next_52 ?_
  refine v_aload_n (pc := 55) O dX12_next_55 0 rfl ?_
  refine v_getI (pc := 56) (a := 207) O gf_X12_10 fl_X12_219 kq_207 dX12_next_56 ?_
  refine v_icmpne (pc := 59) 63 O dX12_next_59 (by decide) (fun c1 => ?_) (fun c1 => ?_)
  · have h := (if_neg c1).symm.trans h
    refine v_aload_n (pc := 63) O dX12_next_63 0 rfl ?_
    refine v_aload_n (pc := 64) O dX12_next_64 0 rfl ?_
    refine v_getI (pc := 65) (a := 207) O gf_X12_36 fl_X12_222 kq_207 dX12_next_65 ?_
    obtain ⟨p2, e3, h⟩ := bind_some h
    refine v_callV (pc := 68) (a := 207) (As := [.int (dI (sI (sI D 207 39 (dI D 207 36)) 207 37 0) 207 36)]) (rest := []) (r := (some (.int p2.1))) (D' := p2.2) O (bb0 hz) (c_X12_letter hm e3) mw_X12_letter im_X12_letter se_X12_letter ml_X12_225 kq_207 (by decide) rfl rfl rfl (by decide) (by decide) (Nat.le_of_ble_eq_true rfl) dX12_next_68 rfl rfl ?_
    refine v_ifeq (pc := 71) 81 O dX12_next_71 (by decide) (fun c4 => ?_) (fun c4 => ?_)
    · have h := (if_pos c4).symm.trans h
      refine v_aload_n (pc := 81) O dX12_next_81 0 rfl ?_
      refine v_aload_n (pc := 82) O dX12_next_82 0 rfl ?_
      refine v_getI (pc := 83) (a := 207) O gf_X12_36 fl_X12_222 kq_207 dX12_next_83 ?_
      obtain ⟨p5, e6, h⟩ := bind_some h
      refine v_callV (pc := 86) (a := 207) (As := [.int (dI p2.2 207 36)]) (rest := []) (r := (some (.int p5.1))) (D' := p5.2) O (bb0 hz) (c_X12_digit hm e6) mw_X12_digit im_X12_digit se_X12_digit ml_X12_238 kq_207 (by decide) rfl rfl rfl (by decide) (by decide) (Nat.le_of_ble_eq_true rfl) dX12_next_86 rfl rfl ?_
      refine v_ifeq (pc := 89) 99 O dX12_next_89 (by decide) (fun c7 => ?_) (fun c7 => ?_)
      · have h := (if_pos c7).symm.trans h
        refine v_aload_n (pc := 99) O dX12_next_99 0 rfl ?_
        refine v_aload_n (pc := 100) O dX12_next_100 0 rfl ?_
        refine v_aload_n (pc := 101) O dX12_next_101 0 rfl ?_
        refine v_getK (pc := 102) (a := 207) O hm gf_X12_9 fl_X12_27 kq_207 lk_207_9 dX12_next_102 ?_
        refine v_aload_n (pc := 105) O dX12_next_105 0 rfl ?_
        refine v_getI (pc := 106) (a := 207) O gf_X12_36 fl_X12_222 kq_207 dX12_next_106 ?_
        obtain ⟨c8, h⟩ := or_none h
        refine v_iald (pc := 109) (a := 211) O kq_211 (inq lq_211 c8) dX12_next_109 ?_
        obtain ⟨p9, e10, h⟩ := bind_some h
        refine v_callV (pc := 110) (a := 207) (As := [.int (dI p5.2 211 (dI p5.2 207 36).toNatClampNeg)]) (rest := [.ref (bo X + pp 207)]) (r := (some (.int p9.1))) (D' := p9.2) O (bb0 hz) (c_X12_sign hm e10) mw_X12_sign im_X12_sign se_X12_sign ml_X12_250 kq_207 (by decide) rfl rfl rfl (by decide) (by decide) (Nat.le_of_ble_eq_true rfl) dX12_next_110 rfl rfl ?_
        refine v_ifeq (pc := 113) 128 O dX12_next_113 (by decide) (fun c11 => ?_) (fun c11 => ?_)
        · have h := (if_pos c11).symm.trans h
          refine v_iconst (pc := 128) O dX12_next_128 ic_1 ?_
          refine v_sub [0] rfl ?_
          exact w_X12_next_b129 O hm hn hz 1 p9.2 h
        · have h := (if_neg c11).symm.trans h
          refine v_aload_n (pc := 116) O dX12_next_116 0 rfl ?_
          refine v_getK (pc := 117) (a := 207) O hm gf_X12_9 fl_X12_27 kq_207 lk_207_9 dX12_next_117 ?_
          refine v_aload_n (pc := 120) O dX12_next_120 0 rfl ?_
          refine v_getI (pc := 121) (a := 207) O gf_X12_36 fl_X12_222 kq_207 dX12_next_121 ?_
          obtain ⟨c12, h⟩ := or_none h
          refine v_iald (pc := 124) (a := 211) O kq_211 (inq lq_211 c12) dX12_next_124 ?_
          refine v_goto (pc := 125) 129 O dX12_next_125 (by decide) ?_
          refine v_sub [0] rfl ?_
          exact w_X12_next_b129 O hm hn hz (dI p9.2 211 (dI p9.2 207 36).toNatClampNeg) p9.2 h
      · have h := (if_neg c7).symm.trans h
        refine v_aload_n (pc := 92) O dX12_next_92 0 rfl ?_
        obtain ⟨p13, e14, h⟩ := bind_some h
        refine v_callV (pc := 93) (a := 207) (As := []) (rest := []) (r := none) (D' := p13) O (bb0 hz) (c_X12_number hm e14) mw_X12_number im_X12_number se_X12_number ml_X12_247 kq_207 (by decide) rfl rfl rfl (by decide) (by decide) (Nat.le_of_ble_eq_true rfl) dX12_next_93 rfl rfl ?_
        refine v_goto (pc := 96) 142 O dX12_next_96 (by decide) ?_
        refine v_sub [] rfl ?_
        exact w_X12_next_b142 O hm hn hz p13 h
    · have h := (if_neg c4).symm.trans h
      refine v_aload_n (pc := 74) O dX12_next_74 0 rfl ?_
      obtain ⟨p15, e16, h⟩ := bind_some h
      refine v_callV (pc := 75) (a := 207) (As := []) (rest := []) (r := none) (D' := p15) O (bb0 hz) (c_X12_word hm e16) mw_X12_word im_X12_word se_X12_word ml_X12_244 kq_207 (by decide) rfl rfl rfl (by decide) (by decide) (Nat.le_of_ble_eq_true rfl) dX12_next_75 rfl rfl ?_
      refine v_goto (pc := 78) 142 O dX12_next_78 (by decide) ?_
      refine v_sub [] rfl ?_
      exact w_X12_next_b142 O hm hn hz p15 h
  · have h := (if_pos c1).symm.trans h
    obtain rfl := Option.some.inj h
    exact v_ret (pc := 62) O hz dX12_next_62
def f_X12_next_b0 (N : Nat) : Nat → Dat → Option (Dat)
  | 0, _ => none
  | g + 1, D => if (dI D 207 10) ≤ (dI D 207 36) then (f_X12_next_b38 N D) else (if (dI D 207 36) < 0 ∨ 240 ≤ ((dI D 207 36)).toNatClampNeg then none else (if (dI D 211 (dI D 207 36).toNatClampNeg) = 32 then ((f_X12_next_b0 N g) (sI D 207 36 ((dI D 207 36) + (1 : Int32)))) else (f_X12_next_b38 N D)))
set_option maxHeartbeats 4000000 in
theorem w_X12_next_b0 {X : Cx} {n nu c u : Nat} {K : Nat → Nat} {N : Nat} {z : Dat} (O : Ok X cX12_next RX12 none 2 43) (hm : wlm (xw X) = true) (hn : xn X = 1) (hz : Z0 X (Ax nu K c u)) : ∀ (g : Nat) (D : Dat), f_X12_next_b0 N g D = some z → V X (Q0 X n (Ax nu K c u) none z) n (Ax nu K c u) D 0 [(0, .ref (bo X + pp 207))] [] := by
  intro g
  induction g with
  | zero => intro D h; exact absurd h (by simp [f_X12_next_b0])
  | succ g ih =>
    intro D h
    rw [f_X12_next_b0] at h
    refine v_aload_n (pc := 0) O dX12_next_0 0 rfl ?_
    refine v_getI (pc := 1) (a := 207) O gf_X12_36 fl_X12_222 kq_207 dX12_next_1 ?_
    refine v_aload_n (pc := 4) O dX12_next_4 0 rfl ?_
    refine v_getI (pc := 5) (a := 207) O gf_X12_10 fl_X12_219 kq_207 dX12_next_5 ?_
    refine v_icmpge (pc := 8) 38 O dX12_next_8 (by decide) (fun c17 => ?_) (fun c17 => ?_)
    · have h := (if_pos c17).symm.trans h
      refine v_sub [0] rfl ?_
      exact w_X12_next_b38 O hm hn hz D h
    · have h := (if_neg c17).symm.trans h
      refine v_aload_n (pc := 11) O dX12_next_11 0 rfl ?_
      refine v_getK (pc := 12) (a := 207) O hm gf_X12_9 fl_X12_27 kq_207 lk_207_9 dX12_next_12 ?_
      refine v_aload_n (pc := 15) O dX12_next_15 0 rfl ?_
      refine v_getI (pc := 16) (a := 207) O gf_X12_36 fl_X12_222 kq_207 dX12_next_16 ?_
      obtain ⟨c18, h⟩ := or_none h
      refine v_iald (pc := 19) (a := 211) O kq_211 (inq lq_211 c18) dX12_next_19 ?_
      refine v_bipush (pc := 20) O dX12_next_20 bp_32 ?_
      refine v_icmpne (pc := 22) 38 O dX12_next_22 (by decide) (fun c19 => ?_) (fun c19 => ?_)
      · have h := (if_neg c19).symm.trans h
        refine v_sub [0] rfl ?_
        exact w_X12_next_b38 O hm hn hz D h
      · have h := (if_pos c19).symm.trans h
        refine v_aload_n (pc := 25) O dX12_next_25 0 rfl ?_
        refine v_dup (pc := 26) O dX12_next_26 rfl ?_
        refine v_getI (pc := 27) (a := 207) O gf_X12_36 fl_X12_222 kq_207 dX12_next_27 ?_
        refine v_iconst (pc := 30) O dX12_next_30 ic_1 ?_
        refine v_iadd (pc := 31) O dX12_next_31 ?_
        refine v_putI (pc := 32) (a := 207) O pf_X12_36 fl_X12_222 kq_207 dX12_next_32 ?_
        refine v_goto (pc := 35) 0 O dX12_next_35 (by decide) ?_
        refine v_sub [0] rfl ?_
        exact ih (sI D 207 36 ((dI D 207 36) + (1 : Int32))) h
def f_X12_next (N : Nat) (D : Dat) : Option (Dat) :=
  f_X12_next_b0 N N D
set_option maxHeartbeats 4000000 in
theorem w_X12_next {X : Cx} {n nu c u : Nat} {K : Nat → Nat} {N : Nat} {z : Dat} (O : Ok X cX12_next RX12 none 2 43) (hm : wlm (xw X) = true) (hn : xn X = 1) (hz : Z0 X (Ax nu K c u)) (D : Dat) (h : f_X12_next N D = some z) : V X (Q0 X n (Ax nu K c u) none z) n (Ax nu K c u) D 0 [(0, .ref (bo X + pp 207))] [] := by
  unfold f_X12_next at h
  refine v_sub [0] rfl ?_
  exact w_X12_next_b0 O hm hn hz N D h
theorem c_X12_next {l : Launch} {w : Wx} {n nu c u : Nat} {K : Nat → Nat} {N : Nat} (hm : wlm w = true) {D : Dat} {z : Dat} (h : f_X12_next N D = some z) : C0 l w yX12_next cX12_next 1 none 2 43 [.ref (wb w + pp 207)] n (Ax nu K c u) D none z :=
  C0.of (by decide) (Nat.le_of_ble_eq_true rfl) (fun X e1 e2 e3 hz O => by
  subst e1
  subst e2
  exact w_X12_next O hm e3 hz  D h)
