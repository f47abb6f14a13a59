theorem bp_26 : (Int8.ofInt (26)).toInt32 = (26 : Int32) := by decide
theorem bp_123 : (Int8.ofInt (123)).toInt32 = (123 : Int32) := by decide
theorem cw_X12_behind : Cond.code yX12_behind cX12_behind 3 (some .int) ∈ tb := tb_of 2115 (by decide +kernel) (by decide +kernel)
theorem mw_X12_behind : MW yX12_behind cX12_behind 3 (some .int) 0 := ⟨cw_X12_behind, ini_X12, by decide +kernel⟩
theorem im_X12_behind : Cond.instanceMethod yX12_behind ∈ tb := tb_of 2114 (by decide +kernel) (by decide +kernel)
theorem se_X12_behind : Cond.selects (yX12_behind).cls yX12_behind yX12_behind ∈ tb := tb_of 111 (by decide +kernel) (by decide +kernel)
theorem ml_X12_298 : Cond.methodLink RX12 298 yX12_behind ∈ tb := tb_of 2112 (by decide +kernel) (by decide +kernel)
theorem cw_X12_operand : Cond.code yX12_operand cX12_operand 2 (some .boolean) ∈ tb := tb_of 2103 (by decide +kernel) (by decide +kernel)
theorem mw_X12_operand : MW yX12_operand cX12_operand 2 (some .boolean) 0 := ⟨cw_X12_operand, ini_X12, by decide +kernel⟩
theorem im_X12_operand : Cond.instanceMethod yX12_operand ∈ tb := tb_of 2102 (by decide +kernel) (by decide +kernel)
theorem se_X12_operand : Cond.selects (yX12_operand).cls yX12_operand yX12_operand ∈ tb := tb_of 108 (by decide +kernel) (by decide +kernel)
theorem ml_X12_294 : Cond.methodLink RX12 294 yX12_operand ∈ tb := tb_of 2100 (by decide +kernel) (by decide +kernel)
theorem fl_X12_87 : Cond.fieldLink RX12 87 RX12 (TX12 45).2.1 (TX12 45).2.2.1 ∈ tb := tb_of 1765 (by decide +kernel) (by decide +kernel)
theorem gf_X12_45 : FI 12 RX12 TX12 85 tyX12 45 3 := ⟨rfl, inb_X12, tyX12_ok, nmX12, by decide, by decide, rfl, rfl, rfl⟩
theorem lk_207_45 : lks 207 45 = some 231 := by decide +kernel
theorem kq_231 {nu c u : Nat} {K : Nat → Nat} : (Ax nu K c u).1 231 = 14 := kd_lt (K := K) (a := 231) (by decide) rfl
theorem lq_231 {nu c u : Nat} {K : Nat → Nat} : (Ax nu K c u).2.1 231 = 10 := rfl
theorem fl_X12_302 : Cond.fieldLink RX12 302 RX12 (TX12 44).2.1 (TX12 44).2.2.1 ∈ tb := tb_of 1764 (by decide +kernel) (by decide +kernel)
theorem gf_X12_44 : FI 12 RX12 TX12 85 tyX12 44 0 := ⟨rfl, inb_X12, tyX12_ok, nmX12, by decide, by decide, rfl, rfl, rfl⟩
theorem fl_X12_90 : Cond.fieldLink RX12 90 RX12 (TX12 46).2.1 (TX12 46).2.2.1 ∈ tb := tb_of 1766 (by decide +kernel) (by decide +kernel)
theorem gf_X12_46 : FI 12 RX12 TX12 85 tyX12 46 3 := ⟨rfl, inb_X12, tyX12_ok, nmX12, by decide, by decide, rfl, rfl, rfl⟩
theorem lk_207_46 : lks 207 46 = some 232 := by decide +kernel
theorem kq_232 {nu c u : Nat} {K : Nat → Nat} : (Ax nu K c u).1 232 = 14 := kd_lt (K := K) (a := 232) (by decide) rfl
theorem lq_232 {nu c u : Nat} {K : Nat → Nat} : (Ax nu K c u).2.1 232 = 10 := rfl
theorem fl_X12_93 : Cond.fieldLink RX12 93 RX12 (TX12 47).2.1 (TX12 47).2.2.1 ∈ tb := tb_of 1767 (by decide +kernel) (by decide +kernel)
theorem gf_X12_47 : FI 12 RX12 TX12 85 tyX12 47 3 := ⟨rfl, inb_X12, tyX12_ok, nmX12, by decide, by decide, rfl, rfl, rfl⟩
theorem lk_207_47 : lks 207 47 = some 233 := by decide +kernel
theorem kq_233 {nu c u : Nat} {K : Nat → Nat} : (Ax nu K c u).1 233 = 14 := kd_lt (K := K) (a := 233) (by decide) rfl
theorem lq_233 {nu c u : Nat} {K : Nat → Nat} : (Ax nu K c u).2.1 233 = 10 := rfl
theorem pf_X12_44 : PI 12 RX12 TX12 85 tyX12 44 0 .int := ⟨gf_X12_44, rfl, rfl⟩
theorem fl_X12_305 : Cond.fieldLink RX12 305 RX12 (TX12 33).2.1 (TX12 33).2.2.1 ∈ tb := tb_of 1753 (by decide +kernel) (by decide +kernel)
theorem gf_X12_33 : FI 12 RX12 TX12 85 tyX12 33 0 := ⟨rfl, inb_X12, tyX12_ok, nmX12, by decide, by decide, rfl, rfl, rfl⟩
theorem pf_X12_33 : PI 12 RX12 TX12 85 tyX12 33 0 .int := ⟨gf_X12_33, rfl, rfl⟩
theorem fl_X12_45 : Cond.fieldLink RX12 45 RX12 (TX12 21).2.1 (TX12 21).2.2.1 ∈ tb := tb_of 1741 (by decide +kernel) (by decide +kernel)
theorem gf_X12_21 : FI 12 RX12 TX12 85 tyX12 21 3 := ⟨rfl, inb_X12, tyX12_ok, nmX12, by decide, by decide, rfl, rfl, rfl⟩
theorem lk_207_21 : lks 207 21 = some 217 := by decide +kernel
theorem kq_217 {nu c u : Nat} {K : Nat → Nat} : (Ax nu K c u).1 217 = 14 := kd_lt (K := K) (a := 217) (by decide) rfl
theorem lq_217 {nu c u : Nat} {K : Nat → Nat} : (Ax nu K c u).2.1 217 = 128 := rfl
theorem fl_X12_66 : Cond.fieldLink RX12 66 RX12 (TX12 28).2.1 (TX12 28).2.2.1 ∈ tb := tb_of 1748 (by decide +kernel) (by decide +kernel)
theorem gf_X12_28 : FI 12 RX12 TX12 85 tyX12 28 3 := ⟨rfl, inb_X12, tyX12_ok, nmX12, by decide, by decide, rfl, rfl, rfl⟩
theorem lk_207_28 : lks 207 28 = some 224 := by decide +kernel
theorem kq_224 {nu c u : Nat} {K : Nat → Nat} : (Ax nu K c u).1 224 = 14 := kd_lt (K := K) (a := 224) (by decide) rfl
theorem lq_224 {nu c u : Nat} {K : Nat → Nat} : (Ax nu K c u).2.1 224 = 128 := rfl
theorem fl_X12_60 : Cond.fieldLink RX12 60 RX12 (TX12 26).2.1 (TX12 26).2.2.1 ∈ tb := tb_of 1746 (by decide +kernel) (by decide +kernel)
theorem gf_X12_26 : FI 12 RX12 TX12 85 tyX12 26 3 := ⟨rfl, inb_X12, tyX12_ok, nmX12, by decide, by decide, rfl, rfl, rfl⟩
theorem lk_207_26 : lks 207 26 = some 222 := by decide +kernel
theorem kq_222 {nu c u : Nat} {K : Nat → Nat} : (Ax nu K c u).1 222 = 14 := kd_lt (K := K) (a := 222) (by decide) rfl
theorem lq_222 {nu c u : Nat} {K : Nat → Nat} : (Ax nu K c u).2.1 222 = 128 := rfl
theorem fl_X12_63 : Cond.fieldLink RX12 63 RX12 (TX12 27).2.1 (TX12 27).2.2.1 ∈ tb := tb_of 1747 (by decide +kernel) (by decide +kernel)
theorem gf_X12_27 : FI 12 RX12 TX12 85 tyX12 27 3 := ⟨rfl, inb_X12, tyX12_ok, nmX12, by decide, by decide, rfl, rfl, rfl⟩
theorem lk_207_27 : lks 207 27 = some 223 := by decide +kernel
theorem kq_223 {nu c u : Nat} {K : Nat → Nat} : (Ax nu K c u).1 223 = 14 := kd_lt (K := K) (a := 223) (by decide) rfl
theorem lq_223 {nu c u : Nat} {K : Nat → Nat} : (Ax nu K c u).2.1 223 = 128 := rfl
theorem fl_X12_51 : Cond.fieldLink RX12 51 RX12 (TX12 23).2.1 (TX12 23).2.2.1 ∈ tb := tb_of 1743 (by decide +kernel) (by decide +kernel)
theorem gf_X12_23 : FI 12 RX12 TX12 85 tyX12 23 3 := ⟨rfl, inb_X12, tyX12_ok, nmX12, by decide, by decide, rfl, rfl, rfl⟩
theorem lk_207_23 : lks 207 23 = some 219 := by decide +kernel
theorem kq_219 {nu c u : Nat} {K : Nat → Nat} : (Ax nu K c u).1 219 = 14 := kd_lt (K := K) (a := 219) (by decide) rfl
theorem lq_219 {nu c u : Nat} {K : Nat → Nat} : (Ax nu K c u).2.1 219 = 128 := rfl
theorem fl_X12_75 : Cond.fieldLink RX12 75 RX12 (TX12 31).2.1 (TX12 31).2.2.1 ∈ tb := tb_of 1751 (by decide +kernel) (by decide +kernel)
theorem gf_X12_31 : FI 12 RX12 TX12 85 tyX12 31 3 := ⟨rfl, inb_X12, tyX12_ok, nmX12, by decide, by decide, rfl, rfl, rfl⟩
theorem lk_207_31 : lks 207 31 = some 227 := by decide +kernel
theorem kq_227 {nu c u : Nat} {K : Nat → Nat} : (Ax nu K c u).1 227 = 14 := kd_lt (K := K) (a := 227) (by decide) rfl
theorem lq_227 {nu c u : Nat} {K : Nat → Nat} : (Ax nu K c u).2.1 227 = 52 := rfl
theorem fl_X12_308 : Cond.fieldLink RX12 308 RX12 (TX12 35).2.1 (TX12 35).2.2.1 ∈ tb := tb_of 1755 (by decide +kernel) (by decide +kernel)
theorem gf_X12_35 : FI 12 RX12 TX12 85 tyX12 35 0 := ⟨rfl, inb_X12, tyX12_ok, nmX12, by decide, by decide, rfl, rfl, rfl⟩
theorem fl_X12_78 : Cond.fieldLink RX12 78 RX12 (TX12 32).2.1 (TX12 32).2.2.1 ∈ tb := tb_of 1752 (by decide +kernel) (by decide +kernel)
theorem gf_X12_32 : FI 12 RX12 TX12 85 tyX12 32 3 := ⟨rfl, inb_X12, tyX12_ok, nmX12, by decide, by decide, rfl, rfl, rfl⟩
theorem lk_207_32 : lks 207 32 = some 228 := by decide +kernel
theorem kq_228 {nu c u : Nat} {K : Nat → Nat} : (Ax nu K c u).1 228 = 14 := kd_lt (K := K) (a := 228) (by decide) rfl
theorem lq_228 {nu c u : Nat} {K : Nat → Nat} : (Ax nu K c u).2.1 228 = 2 := rfl
theorem fl_X12_48 : Cond.fieldLink RX12 48 RX12 (TX12 22).2.1 (TX12 22).2.2.1 ∈ tb := tb_of 1742 (by decide +kernel) (by decide +kernel)
theorem gf_X12_22 : FI 12 RX12 TX12 85 tyX12 22 3 := ⟨rfl, inb_X12, tyX12_ok, nmX12, by decide, by decide, rfl, rfl, rfl⟩
theorem lk_207_22 : lks 207 22 = some 218 := by decide +kernel
theorem kq_218 {nu c u : Nat} {K : Nat → Nat} : (Ax nu K c u).1 218 = 14 := kd_lt (K := K) (a := 218) (by decide) rfl
theorem lq_218 {nu c u : Nat} {K : Nat → Nat} : (Ax nu K c u).2.1 218 = 128 := rfl
theorem fl_X12_42 : Cond.fieldLink RX12 42 RX12 (TX12 20).2.1 (TX12 20).2.2.1 ∈ tb := tb_of 1740 (by decide +kernel) (by decide +kernel)
theorem gf_X12_20 : FI 12 RX12 TX12 85 tyX12 20 3 := ⟨rfl, inb_X12, tyX12_ok, nmX12, by decide, by decide, rfl, rfl, rfl⟩
theorem lk_207_20 : lks 207 20 = some 216 := by decide +kernel
theorem kq_216 {nu c u : Nat} {K : Nat → Nat} : (Ax nu K c u).1 216 = 14 := kd_lt (K := K) (a := 216) (by decide) rfl
theorem lq_216 {nu c u : Nat} {K : Nat → Nat} : (Ax nu K c u).2.1 216 = 128 := rfl
theorem fl_X12_54 : Cond.fieldLink RX12 54 RX12 (TX12 24).2.1 (TX12 24).2.2.1 ∈ tb := tb_of 1744 (by decide +kernel) (by decide +kernel)
theorem gf_X12_24 : FI 12 RX12 TX12 85 tyX12 24 3 := ⟨rfl, inb_X12, tyX12_ok, nmX12, by decide, by decide, rfl, rfl, rfl⟩
theorem lk_207_24 : lks 207 24 = some 220 := by decide +kernel
theorem kq_220 {nu c u : Nat} {K : Nat → Nat} : (Ax nu K c u).1 220 = 14 := kd_lt (K := K) (a := 220) (by decide) rfl
theorem lq_220 {nu c u : Nat} {K : Nat → Nat} : (Ax nu K c u).2.1 220 = 128 := rfl
theorem cw_X12_expression : Cond.code yX12_expression cX12_expression 3 (some .int) ∈ tb := tb_of 2099 (by decide +kernel) (by decide +kernel)
theorem mw_X12_expression : MW yX12_expression cX12_expression 3 (some .int) 0 := ⟨cw_X12_expression, ini_X12, by decide +kernel⟩
theorem im_X12_expression : Cond.instanceMethod yX12_expression ∈ tb := tb_of 2098 (by decide +kernel) (by decide +kernel)
theorem se_X12_expression : Cond.selects (yX12_expression).cls yX12_expression yX12_expression ∈ tb := tb_of 107 (by decide +kernel) (by decide +kernel)
theorem ml_X12_311 : Cond.methodLink RX12 311 yX12_expression ∈ tb := tb_of 2096 (by decide +kernel) (by decide +kernel)
theorem cw_X12_expect : Cond.code yX12_expect cX12_expect 2 none ∈ tb := tb_of 2079 (by decide +kernel) (by decide +kernel)
theorem mw_X12_expect : MW yX12_expect cX12_expect 2 none 1 := ⟨cw_X12_expect, ini_X12, by decide +kernel⟩
theorem im_X12_expect : Cond.instanceMethod yX12_expect ∈ tb := tb_of 2078 (by decide +kernel) (by decide +kernel)
theorem se_X12_expect : Cond.selects (yX12_expect).cls yX12_expect yX12_expect ∈ tb := tb_of 102 (by decide +kernel) (by decide +kernel)
theorem ml_X12_314 : Cond.methodLink RX12 314 yX12_expect ∈ tb := tb_of 2076 (by decide +kernel) (by decide +kernel)
theorem fl_X12_57 : Cond.fieldLink RX12 57 RX12 (TX12 25).2.1 (TX12 25).2.2.1 ∈ tb := tb_of 1745 (by decide +kernel) (by decide +kernel)
theorem gf_X12_25 : FI 12 RX12 TX12 85 tyX12 25 3 := ⟨rfl, inb_X12, tyX12_ok, nmX12, by decide, by decide, rfl, rfl, rfl⟩
theorem lk_207_25 : lks 207 25 = some 221 := by decide +kernel
theorem kq_221 {nu c u : Nat} {K : Nat → Nat} : (Ax nu K c u).1 221 = 14 := kd_lt (K := K) (a := 221) (by decide) rfl
theorem lq_221 {nu c u : Nat} {K : Nat → Nat} : (Ax nu K c u).2.1 221 = 128 := rfl
theorem bp_59 : (Int8.ofInt (59)).toInt32 = (59 : Int32) := by decide
theorem bp_58 : (Int8.ofInt (58)).toInt32 = (58 : Int32) := by decide
theorem cw_X12_labelToken : Cond.code yX12_labelToken cX12_labelToken 2 (some .int) ∈ tb := tb_of 2083 (by decide +kernel) (by decide +kernel)
theorem mw_X12_labelToken : MW yX12_labelToken cX12_labelToken 2 (some .int) 0 := ⟨cw_X12_labelToken, ini_X12, by decide +kernel⟩
theorem im_X12_labelToken : Cond.instanceMethod yX12_labelToken ∈ tb := tb_of 2082 (by decide +kernel) (by decide +kernel)
theorem se_X12_labelToken : Cond.selects (yX12_labelToken).cls yX12_labelToken yX12_labelToken ∈ tb := tb_of 103 (by decide +kernel) (by decide +kernel)
theorem ml_X12_317 : Cond.methodLink RX12 317 yX12_labelToken ∈ tb := tb_of 2080 (by decide +kernel) (by decide +kernel)
theorem cw_X12_statementAt : Cond.code yX12_statementAt cX12_statementAt 4 (some .int) ∈ tb := tb_of 2091 (by decide +kernel) (by decide +kernel)
theorem mw_X12_statementAt : MW yX12_statementAt cX12_statementAt 4 (some .int) 1 := ⟨cw_X12_statementAt, ini_X12, by decide +kernel⟩
theorem im_X12_statementAt : Cond.instanceMethod yX12_statementAt ∈ tb := tb_of 2090 (by decide +kernel) (by decide +kernel)
theorem se_X12_statementAt : Cond.selects (yX12_statementAt).cls yX12_statementAt yX12_statementAt ∈ tb := tb_of 105 (by decide +kernel) (by decide +kernel)
theorem ml_X12_320 : Cond.methodLink RX12 320 yX12_statementAt ∈ tb := tb_of 2088 (by decide +kernel) (by decide +kernel)
theorem cw_X12_named : Cond.code yX12_named cX12_named 3 none ∈ tb := tb_of 2095 (by decide +kernel) (by decide +kernel)
theorem mw_X12_named : MW yX12_named cX12_named 3 none 1 := ⟨cw_X12_named, ini_X12, by decide +kernel⟩
theorem im_X12_named : Cond.instanceMethod yX12_named ∈ tb := tb_of 2094 (by decide +kernel) (by decide +kernel)
theorem se_X12_named : Cond.selects (yX12_named).cls yX12_named yX12_named ∈ tb := tb_of 106 (by decide +kernel) (by decide +kernel)
theorem ml_X12_323 : Cond.methodLink RX12 323 yX12_named ∈ tb := tb_of 2092 (by decide +kernel) (by decide +kernel)
theorem cw_X12_moving : Cond.code yX12_moving cX12_moving 3 none ∈ tb := tb_of 2131 (by decide +kernel) (by decide +kernel)
theorem mw_X12_moving : MW yX12_moving cX12_moving 3 none 2 := ⟨cw_X12_moving, ini_X12, by decide +kernel⟩
theorem im_X12_moving : Cond.instanceMethod yX12_moving ∈ tb := tb_of 2130 (by decide +kernel) (by decide +kernel)
theorem se_X12_moving : Cond.selects (yX12_moving).cls yX12_moving yX12_moving ∈ tb := tb_of 115 (by decide +kernel) (by decide +kernel)
theorem ml_X12_329 : Cond.methodLink RX12 329 yX12_moving ∈ tb := tb_of 2128 (by decide +kernel) (by decide +kernel)
theorem cw_X12_block : Cond.code yX12_block cX12_block 3 none ∈ tb := tb_of 2063 (by decide +kernel) (by decide +kernel)
theorem mw_X12_block : MW yX12_block cX12_block 3 none 2 := ⟨cw_X12_block, ini_X12, by decide +kernel⟩
theorem im_X12_block : Cond.instanceMethod yX12_block ∈ tb := tb_of 2062 (by decide +kernel) (by decide +kernel)
theorem se_X12_block : Cond.selects (yX12_block).cls yX12_block yX12_block ∈ tb := tb_of 98 (by decide +kernel) (by decide +kernel)
theorem ml_X12_326 : Cond.methodLink RX12 326 yX12_block ∈ tb := tb_of 2060 (by decide +kernel) (by decide +kernel)
def f_X12_expression_b64 (N : Nat) (x1 : Int32) (D : Dat) : Option (Int32 × Dat) :=
  some (x1, D)
set_option maxHeartbeats 4000000 in
theorem w_X12_expression_b64 {X : Cx} {n nu c u : Nat} {K : Nat → Nat} {N : Nat} {z : Int32 × Dat} (O : Ok X cX12_expression RX12 (some .int) 6 127) (hm : wlm (xw X) = true) (hn : xn X = 3) (hz : Z0 X (Ax nu K c u)) (x1 : Int32) (D : Dat) (h : f_X12_expression_b64 N x1 D = some z) : V X (Q0 X n (Ax nu K c u) (some (.int z.1)) z.2) n (Ax nu K c u) D 64 [(1, .int x1)] [] := by
  unfold f_X12_expression_b64 at h
  refine v_iload_n (pc := 64) O dX12_expression_64 0 rfl ?_
  obtain rfl := Option.some.inj h
  exact v_iret (pc := 65) O hz dX12_expression_65
def f_X12_expression_b52 (N : Nat) (rec_24 : Int32 → Int32 → Dat → Option (Int32 × Dat)) (x1 : Int32) (s0 : Int32) (D : Dat) : Option (Int32 × Dat) :=
  rec_24 x1 s0 D
set_option maxHeartbeats 4000000 in
theorem w_X12_expression_b52 {X : Cx} {n nu c u : Nat} {K : Nat → Nat} {N : Nat} {rec_24 : Int32 → Int32 → Dat → Option (Int32 × Dat)} {z : Int32 × Dat} (O : Ok X cX12_expression RX12 (some .int) 6 127) (hm : wlm (xw X) = true) (hn : xn X = 3) (hz : Z0 X (Ax nu K c u)) (hrec_24 : ∀ (x1 : Int32) (x2 : Int32) (D : Dat), rec_24 x1 x2 D = some z → V X (Q0 X n (Ax nu K c u) (some (.int z.1)) z.2) n (Ax nu K c u) D 24 [(0, .ref (bo X + pp 207)), (1, .int x1), (2, .int x2)] []) (x1 : Int32) (s0 : Int32) (D : Dat) (h : f_X12_expression_b52 N rec_24 x1 s0 D = some z) : V X (Q0 X n (Ax nu K c u) (some (.int z.1)) z.2) n (Ax nu K c u) D 52 [(0, .ref (bo X + pp 207)), (1, .int x1)] [.int s0] := by
  unfold f_X12_expression_b52 at h
  refine v_istore_n (pc := 52) (lv' := [(2, .int s0), (0, .ref (bo X + pp 207)), (1, .int x1)]) O dX12_expression_52 rfl (by rw [hn]; decide) rfl ?_
  refine v_goto (pc := 53) 24 O dX12_expression_53 (by decide) ?_
  refine v_sub [1, 2, 0] rfl ?_
  exact hrec_24 x1 s0 D h
def f_X12_expression_b24 (N : Nat) : Nat → Int32 → Int32 → Dat → Option (Int32 × Dat)
  | 0, _, _, _ => none
  | g + 1, x1, x2, D => if 0 ≤ (dI D 207 40) then (f_X12_expression_b64 N x1 D) else (if x2 = 0 then (f_X12_expression_b64 N x1 D) else (if x2 = 1 then ((f_X12_operand N D).bind (fun p6 => if p6.1 = 0 then (f_X12_expression_b52 N (f_X12_expression_b24 N g) x1 1 p6.2) else (f_X12_expression_b52 N (f_X12_expression_b24 N g) x1 2 p6.2))) else ((f_X12_behind N D).bind (fun p4 => (f_X12_expression_b24 N g) x1 p4.1 p4.2))))
set_option maxHeartbeats 4000000 in
theorem w_X12_expression_b24 {X : Cx} {n nu c u : Nat} {K : Nat → Nat} {N : Nat} {z : Int32 × Dat} (O : Ok X cX12_expression RX12 (some .int) 6 127) (hm : wlm (xw X) = true) (hn : xn X = 3) (hz : Z0 X (Ax nu K c u)) : ∀ (g : Nat) (x1 : Int32) (x2 : Int32) (D : Dat), f_X12_expression_b24 N g x1 x2 D = some z → V X (Q0 X n (Ax nu K c u) (some (.int z.1)) z.2) n (Ax nu K c u) D 24 [(0, .ref (bo X + pp 207)), (1, .int x1), (2, .int x2)] [] := by
  intro g
  induction g with
  | zero => intro x1 x2 D h; exact absurd h (by simp [f_X12_expression_b24])
  | succ g ih =>
    intro x1 x2 D h
    rw [f_X12_expression_b24] at h
    refine v_aload_n (pc := 24) O dX12_expression_24 0 rfl ?_
    refine v_getI (pc := 25) (a := 207) O gf_X12_40 fl_X12_253 kq_207 dX12_expression_25 ?_
    refine v_ifge (pc := 28) 64 O dX12_expression_28 (by decide) (fun c1 => ?_) (fun c1 => ?_)
    · have h := (if_pos c1).symm.trans h
      refine v_sub [1] rfl ?_
      exact w_X12_expression_b64 O hm hn hz x1 D h
    · have h := (if_neg c1).symm.trans h
      refine v_iload_n (pc := 31) O dX12_expression_31 2 rfl ?_
      refine v_ifeq (pc := 32) 64 O dX12_expression_32 (by decide) (fun c2 => ?_) (fun c2 => ?_)
      · have h := (if_pos c2).symm.trans h
        refine v_sub [1] rfl ?_
        exact w_X12_expression_b64 O hm hn hz x1 D h
      · have h := (if_neg c2).symm.trans h
        refine v_iload_n (pc := 35) O dX12_expression_35 2 rfl ?_
        refine v_iconst (pc := 36) O dX12_expression_36 ic_1 ?_
        refine v_icmpne (pc := 37) 56 O dX12_expression_37 (by decide) (fun c3 => ?_) (fun c3 => ?_)
        · have h := (if_neg c3).symm.trans h
          refine v_aload_n (pc := 56) O dX12_expression_56 0 rfl ?_
          obtain ⟨p4, e5, h⟩ := bind_some h
          refine v_callV (pc := 57) (a := 207) (As := []) (rest := []) (r := (some (.int p4.1))) (D' := p4.2) O (bb0 hz) (c_X12_behind hm e5) mw_X12_behind im_X12_behind se_X12_behind ml_X12_298 kq_207 (by decide) rfl rfl rfl (by decide) (by decide) (Nat.le_of_ble_eq_true rfl) dX12_expression_57 rfl rfl ?_
          refine v_istore_n (pc := 60) (lv' := [(2, .int p4.1), (0, .ref (bo X + pp 207)), (1, .int x1)]) O dX12_expression_60 rfl (by rw [hn]; decide) rfl ?_
          refine v_goto (pc := 61) 24 O dX12_expression_61 (by decide) ?_
          refine v_sub [1, 2, 0] rfl ?_
          exact ih x1 p4.1 p4.2 h
        · have h := (if_pos c3).symm.trans h
          refine v_aload_n (pc := 40) O dX12_expression_40 0 rfl ?_
          obtain ⟨p6, e7, h⟩ := bind_some h
          refine v_callV (pc := 41) (a := 207) (As := []) (rest := []) (r := (some (.int p6.1))) (D' := p6.2) O (bb0 hz) (c_X12_operand hm e7) mw_X12_operand im_X12_operand se_X12_operand ml_X12_294 kq_207 (by decide) rfl rfl rfl (by decide) (by decide) (Nat.le_of_ble_eq_true rfl) dX12_expression_41 rfl rfl ?_
          refine v_ifeq (pc := 44) 51 O dX12_expression_44 (by decide) (fun c8 => ?_) (fun c8 => ?_)
          · have h := (if_pos c8).symm.trans h
            refine v_iconst (pc := 51) O dX12_expression_51 ic_1 ?_
            refine v_sub [0, 1] rfl ?_
            exact w_X12_expression_b52 O hm hn hz ih x1 1 p6.2 h
          · have h := (if_neg c8).symm.trans h
            refine v_iconst (pc := 47) O dX12_expression_47 ic_2 ?_
            refine v_goto (pc := 48) 52 O dX12_expression_48 (by decide) ?_
            refine v_sub [0, 1] rfl ?_
            exact w_X12_expression_b52 O hm hn hz ih x1 2 p6.2 h
def f_X12_expression (N : Nat) (D : Dat) : Option (Int32 × Dat) :=
  f_X12_expression_b24 N N (dI D 207 34) 1 (sI (sI (sI D 207 48 0) 207 51 0) 236 (0 : Int32).toNatClampNeg ((0 : Int32) &&& 1))
set_option maxHeartbeats 4000000 in
theorem w_X12_expression {X : Cx} {n nu c u : Nat} {K : Nat → Nat} {N : Nat} {z : Int32 × Dat} (O : Ok X cX12_expression RX12 (some .int) 6 127) (hm : wlm (xw X) = true) (hn : xn X = 3) (hz : Z0 X (Ax nu K c u)) (D : Dat) (h : f_X12_expression N D = some z) : V X (Q0 X n (Ax nu K c u) (some (.int z.1)) z.2) n (Ax nu K c u) D 0 [(0, .ref (bo X + pp 207))] [] := by
  unfold f_X12_expression at h
  refine v_aload_n (pc := 0) O dX12_expression_0 0 rfl ?_
  refine v_getI (pc := 1) (a := 207) O gf_X12_34 fl_X12_265 kq_207 dX12_expression_1 ?_
  refine v_istore_n (pc := 4) (lv' := [(1, .int (dI D 207 34)), (0, .ref (bo X + pp 207))]) O dX12_expression_4 rfl (by rw [hn]; decide) rfl ?_
  refine v_aload_n (pc := 5) O dX12_expression_5 1 rfl ?_
  refine v_iconst (pc := 6) O dX12_expression_6 ic_0 ?_
  refine v_putI (pc := 7) (a := 207) O pf_X12_48 fl_X12_268 kq_207 dX12_expression_7 ?_
  refine v_aload_n (pc := 10) O dX12_expression_10 1 rfl ?_
  refine v_iconst (pc := 11) O dX12_expression_11 ic_0 ?_
  refine v_putI (pc := 12) (a := 207) O pf_X12_51 fl_X12_285 kq_207 dX12_expression_12 ?_
  refine v_aload_n (pc := 15) O dX12_expression_15 1 rfl ?_
  refine v_getK (pc := 16) (a := 207) O hm gf_X12_52 fl_X12_102 kq_207 lk_207_52 dX12_expression_16 ?_
  refine v_iconst (pc := 19) O dX12_expression_19 ic_0 ?_
  refine v_iconst (pc := 20) O dX12_expression_20 ic_0 ?_
  refine v_zast (pc := 21) (a := 236) O kq_236 (inq lq_236 (by decide)) dX12_expression_21 ?_
  refine v_iconst (pc := 22) O dX12_expression_22 ic_1 ?_
  refine v_istore_n (pc := 23) (lv' := [(2, .int 1), (1, .int (dI D 207 34)), (0, .ref (bo X + pp 207))]) O dX12_expression_23 rfl (by rw [hn]; decide) rfl ?_
  refine v_sub [2, 1, 0] rfl ?_
  exact w_X12_expression_b24 O hm hn hz N (dI D 207 34) 1 (sI (sI (sI D 207 48 0) 207 51 0) 236 (0 : Int32).toNatClampNeg ((0 : Int32) &&& 1)) h
theorem c_X12_expression {l : Launch} {w : Wx} {n nu c u : Nat} {K : Nat → Nat} {N : Nat} (hm : wlm w = true) {D : Dat} {z : Int32 × Dat} (h : f_X12_expression N D = some z) : C0 l w yX12_expression cX12_expression 3 (some .int) 6 127 [.ref (wb w + pp 207)] n (Ax nu K c u) D (some (.int z.1)) z.2 :=
  C0.of (by decide) (Nat.le_of_ble_eq_true rfl) (fun X e1 e2 e3 hz O => by
  subst e1
  subst e2
  exact w_X12_expression O hm e3 hz  D h)
def f_X12_block_b44 (N : Nat) (D : Dat) : Option (Dat) :=
  some (sI D 207 44 ((dI D 207 44) + (1 : Int32)))
set_option maxHeartbeats 4000000 in
theorem w_X12_block_b44 {X : Cx} {n nu c u : Nat} {K : Nat → Nat} {N : Nat} {z : Dat} (O : Ok X cX12_block RX12 none 4 84) (hm : wlm (xw X) = true) (hn : xn X = 3) (hz : Z0 X (Ax nu K c u)) (D : Dat) (h : f_X12_block_b44 N D = some z) : V X (Q0 X n (Ax nu K c u) none z) n (Ax nu K c u) D 44 [(0, .ref (bo X + pp 207))] [] := by
  unfold f_X12_block_b44 at h
  refine v_aload_n (pc := 44) O dX12_block_44 0 rfl ?_
  refine v_dup (pc := 45) O dX12_block_45 rfl ?_
  refine v_getI (pc := 46) (a := 207) O gf_X12_44 fl_X12_302 kq_207 dX12_block_46 ?_
  refine v_iconst (pc := 49) O dX12_block_49 ic_1 ?_
  refine v_iadd (pc := 50) O dX12_block_50 ?_
  refine v_putI (pc := 51) (a := 207) O pf_X12_44 fl_X12_302 kq_207 dX12_block_51 ?_
  obtain rfl := Option.some.inj h
  exact v_ret (pc := 54) O hz dX12_block_54
def f_X12_block (N : Nat) (x1 : Int32) (x2 : Int32) (D : Dat) : Option (Dat) :=
  (f_X12_opening N 123 D).bind (fun p1 => if (dI p1 207 40) < 0 then (if (dI p1 207 44) < 0 ∨ 10 ≤ ((dI p1 207 44)).toNatClampNeg then none else (if (dI (sI p1 231 (dI p1 207 44).toNatClampNeg x1) 207 44) < 0 ∨ 10 ≤ ((dI (sI p1 231 (dI p1 207 44).toNatClampNeg x1) 207 44)).toNatClampNeg then none else (if (dI (sI (sI p1 231 (dI p1 207 44).toNatClampNeg x1) 232 (dI (sI p1 231 (dI p1 207 44).toNatClampNeg x1) 207 44).toNatClampNeg x2) 207 44) < 0 ∨ 10 ≤ ((dI (sI (sI p1 231 (dI p1 207 44).toNatClampNeg x1) 232 (dI (sI p1 231 (dI p1 207 44).toNatClampNeg x1) 207 44).toNatClampNeg x2) 207 44)).toNatClampNeg then none else (f_X12_block_b44 N (sI (sI (sI p1 231 (dI p1 207 44).toNatClampNeg x1) 232 (dI (sI p1 231 (dI p1 207 44).toNatClampNeg x1) 207 44).toNatClampNeg x2) 233 (dI (sI (sI p1 231 (dI p1 207 44).toNatClampNeg x1) 232 (dI (sI p1 231 (dI p1 207 44).toNatClampNeg x1) 207 44).toNatClampNeg x2) 207 44).toNatClampNeg (-1)))))) else (some p1))
set_option maxHeartbeats 4000000 in
theorem w_X12_block {X : Cx} {n nu c u : Nat} {K : Nat → Nat} {N : Nat} {z : Dat} (O : Ok X cX12_block RX12 none 4 84) (hm : wlm (xw X) = true) (hn : xn X = 3) (hz : Z0 X (Ax nu K c u)) (x1 : Int32) (x2 : Int32) (D : Dat) (h : f_X12_block N x1 x2 D = some z) : V X (Q0 X n (Ax nu K c u) none z) n (Ax nu K c u) D 0 [(0, .ref (bo X + pp 207)), (1, .int x1), (2, .int x2)] [] := by
  unfold f_X12_block at h
  refine v_aload_n (pc := 0) O dX12_block_0 0 rfl ?_
  refine v_bipush (pc := 1) O dX12_block_1 bp_123 ?_
  obtain ⟨p1, e2, h⟩ := bind_some h
  refine v_callV (pc := 3) (a := 207) (As := [.int 123]) (rest := []) (r := none) (D' := p1) O (bb0 hz) (c_X12_opening hm e2) mw_X12_opening im_X12_opening se_X12_opening ml_X12_281 kq_207 (by decide) rfl rfl rfl (by decide) (by decide) (Nat.le_of_ble_eq_true rfl) dX12_block_3 rfl rfl ?_
  refine v_aload_n (pc := 6) O dX12_block_6 0 rfl ?_
  refine v_getI (pc := 7) (a := 207) O gf_X12_40 fl_X12_253 kq_207 dX12_block_7 ?_
  refine v_iflt (pc := 10) 14 O dX12_block_10 (by decide) (fun c3 => ?_) (fun c3 => ?_)
  · have h := (if_pos c3).symm.trans h
    refine v_aload_n (pc := 14) O dX12_block_14 0 rfl ?_
    refine v_getK (pc := 15) (a := 207) O hm gf_X12_45 fl_X12_87 kq_207 lk_207_45 dX12_block_15 ?_
    refine v_aload_n (pc := 18) O dX12_block_18 0 rfl ?_
    refine v_getI (pc := 19) (a := 207) O gf_X12_44 fl_X12_302 kq_207 dX12_block_19 ?_
    refine v_iload_n (pc := 22) O dX12_block_22 1 rfl ?_
    obtain ⟨c4, h⟩ := or_none h
    refine v_iast (pc := 23) (a := 231) O kq_231 (inq lq_231 c4) dX12_block_23 ?_
    refine v_aload_n (pc := 24) O dX12_block_24 0 rfl ?_
    refine v_getK (pc := 25) (a := 207) O hm gf_X12_46 fl_X12_90 kq_207 lk_207_46 dX12_block_25 ?_
    refine v_aload_n (pc := 28) O dX12_block_28 0 rfl ?_
    refine v_getI (pc := 29) (a := 207) O gf_X12_44 fl_X12_302 kq_207 dX12_block_29 ?_
    refine v_iload_n (pc := 32) O dX12_block_32 2 rfl ?_
    obtain ⟨c5, h⟩ := or_none h
    refine v_iast (pc := 33) (a := 232) O kq_232 (inq lq_232 c5) dX12_block_33 ?_
    refine v_aload_n (pc := 34) O dX12_block_34 0 rfl ?_
    refine v_getK (pc := 35) (a := 207) O hm gf_X12_47 fl_X12_93 kq_207 lk_207_47 dX12_block_35 ?_
    refine v_aload_n (pc := 38) O dX12_block_38 0 rfl ?_
    refine v_getI (pc := 39) (a := 207) O gf_X12_44 fl_X12_302 kq_207 dX12_block_39 ?_
    refine v_iconst (pc := 42) O dX12_block_42 ic_m1 ?_
    obtain ⟨c6, h⟩ := or_none h
    refine v_iast (pc := 43) (a := 233) O kq_233 (inq lq_233 c6) dX12_block_43 ?_
    refine v_sub [0] rfl ?_
    exact w_X12_block_b44 O hm hn hz (sI (sI (sI p1 231 (dI p1 207 44).toNatClampNeg x1) 232 (dI (sI p1 231 (dI p1 207 44).toNatClampNeg x1) 207 44).toNatClampNeg x2) 233 (dI (sI (sI p1 231 (dI p1 207 44).toNatClampNeg x1) 232 (dI (sI p1 231 (dI p1 207 44).toNatClampNeg x1) 207 44).toNatClampNeg x2) 207 44).toNatClampNeg (-1)) h
  · have h := (if_neg c3).symm.trans h
    obtain rfl := Option.some.inj h
    exact v_ret (pc := 13) O hz dX12_block_13
theorem c_X12_block {l : Launch} {w : Wx} {n nu c u : Nat} {K : Nat → Nat} {N : Nat} (hm : wlm w = true) {x1 : Int32} {x2 : Int32} {D : Dat} {z : Dat} (h : f_X12_block N x1 x2 D = some z) : C0 l w yX12_block cX12_block 3 none 4 84 [.ref (wb w + pp 207), .int x1, .int x2] n (Ax nu K c u) D none z :=
  C0.of (by decide) (Nat.le_of_ble_eq_true rfl) (fun X e1 e2 e3 hz O => by
  subst e1
  subst e2
  exact w_X12_block O hm e3 hz x1 x2 D h)
def f_X12_statementAt_b173 (x2 : Int32) (x3 : Int32) (D : Dat) : Option (Int32 × Dat) :=
  if x3 < 0 ∨ 10 ≤ (x3).toNatClampNeg then none else (some (x2, (sI D 233 (x3).toNatClampNeg x2)))
set_option maxHeartbeats 4000000 in
theorem w_X12_statementAt_b173 {X : Cx} {n nu c u : Nat} {K : Nat → Nat} {z : Int32 × Dat} (O : Ok X cX12_statementAt RX12 (some .int) 0 0) (hm : wlm (xw X) = true) (hn : xn X = 4) (hz : Z0 X (Ax nu K c u)) (x2 : Int32) (x3 : Int32) (D : Dat) (h : f_X12_statementAt_b173 x2 x3 D = some z) : V X (Q0 X n (Ax nu K c u) (some (.int z.1)) z.2) n (Ax nu K c u) D 173 [(0, .ref (bo X + pp 207)), (2, .int x2), (3, .int x3)] [] := by
  unfold f_X12_statementAt_b173 at h
  refine v_aload_n (pc := 173) O dX12_statementAt_173 0 rfl ?_
  refine v_getK (pc := 174) (a := 207) O hm gf_X12_47 fl_X12_93 kq_207 lk_207_47 dX12_statementAt_174 ?_
  refine v_iload_n (pc := 177) O dX12_statementAt_177 2 rfl ?_
  refine v_iload_n (pc := 178) O dX12_statementAt_178 1 rfl ?_
  obtain ⟨c1, h⟩ := or_none h
  refine v_iast (pc := 179) (a := 233) O kq_233 (inq lq_233 c1) dX12_statementAt_179 ?_
  refine v_iload_n (pc := 180) O dX12_statementAt_180 1 rfl ?_
  obtain rfl := Option.some.inj h
  exact v_iret (pc := 181) O hz dX12_statementAt_181
def f_X12_statementAt_b57 (x2 : Int32) (x3 : Int32) (D : Dat) : Option (Int32 × Dat) :=
  if x3 < 0 ∨ 10 ≤ (x3).toNatClampNeg then none else (if (dI D 233 (x3).toNatClampNeg) < 0 then (if x3 < 0 ∨ 10 ≤ (x3).toNatClampNeg then none else (if (dI D 231 (x3).toNatClampNeg) = 0 then (if (dI D 207 35) < 0 ∨ 2 ≤ ((dI D 207 35)).toNatClampNeg then none else (f_X12_statementAt_b173 x2 x3 (sI D 228 (dI D 207 35).toNatClampNeg x2))) else (if x3 < 0 ∨ 10 ≤ (x3).toNatClampNeg then none else (if (dI D 231 (x3).toNatClampNeg) = 1 then (if x3 < 0 ∨ 10 ≤ (x3).toNatClampNeg then none else (if (((26 : Int32) * (dI D 207 35)) + (dI D 232 (x3).toNatClampNeg)) < 0 ∨ 52 ≤ ((((26 : Int32) * (dI D 207 35)) + (dI D 232 (x3).toNatClampNeg))).toNatClampNeg then none else (f_X12_statementAt_b173 x2 x3 (sI D 227 (((26 : Int32) * (dI D 207 35)) + (dI D 232 (x3).toNatClampNeg)).toNatClampNeg x2)))) else (if x3 < 0 ∨ 10 ≤ (x3).toNatClampNeg then none else (if (dI D 231 (x3).toNatClampNeg) = 2 then (if x3 < 0 ∨ 10 ≤ (x3).toNatClampNeg then none else (if (dI D 232 (x3).toNatClampNeg) < 0 ∨ 128 ≤ ((dI D 232 (x3).toNatClampNeg)).toNatClampNeg then none else (f_X12_statementAt_b173 x2 x3 (sI D 222 (dI D 232 (x3).toNatClampNeg).toNatClampNeg x2)))) else (if x3 < 0 ∨ 10 ≤ (x3).toNatClampNeg then none else (if (dI D 232 (x3).toNatClampNeg) < 0 ∨ 128 ≤ ((dI D 232 (x3).toNatClampNeg)).toNatClampNeg then none else (f_X12_statementAt_b173 x2 x3 (sI D 223 (dI D 232 (x3).toNatClampNeg).toNatClampNeg x2)))))))))) else (if x3 < 0 ∨ 10 ≤ (x3).toNatClampNeg then none else (if (dI D 233 (x3).toNatClampNeg) < 0 ∨ 128 ≤ ((dI D 233 (x3).toNatClampNeg)).toNatClampNeg then none else (f_X12_statementAt_b173 x2 x3 (sI D 224 (dI D 233 (x3).toNatClampNeg).toNatClampNeg x2)))))
set_option maxHeartbeats 4000000 in
theorem w_X12_statementAt_b57 {X : Cx} {n nu c u : Nat} {K : Nat → Nat} {z : Int32 × Dat} (O : Ok X cX12_statementAt RX12 (some .int) 0 0) (hm : wlm (xw X) = true) (hn : xn X = 4) (hz : Z0 X (Ax nu K c u)) (x2 : Int32) (x3 : Int32) (D : Dat) (h : f_X12_statementAt_b57 x2 x3 D = some z) : V X (Q0 X n (Ax nu K c u) (some (.int z.1)) z.2) n (Ax nu K c u) D 57 [(0, .ref (bo X + pp 207)), (2, .int x2), (3, .int x3)] [] := by
  unfold f_X12_statementAt_b57 at h
  refine v_aload_n (pc := 57) O dX12_statementAt_57 0 rfl ?_
  refine v_getK (pc := 58) (a := 207) O hm gf_X12_47 fl_X12_93 kq_207 lk_207_47 dX12_statementAt_58 ?_
  refine v_iload_n (pc := 61) O dX12_statementAt_61 2 rfl ?_
  obtain ⟨c2, h⟩ := or_none h
  refine v_iald (pc := 62) (a := 233) O kq_233 (inq lq_233 c2) dX12_statementAt_62 ?_
  refine v_iflt (pc := 63) 81 O dX12_statementAt_63 (by decide) (fun c3 => ?_) (fun c3 => ?_)
  · have h := (if_pos c3).symm.trans h
    refine v_aload_n (pc := 81) O dX12_statementAt_81 0 rfl ?_
    refine v_getK (pc := 82) (a := 207) O hm gf_X12_45 fl_X12_87 kq_207 lk_207_45 dX12_statementAt_82 ?_
    refine v_iload_n (pc := 85) O dX12_statementAt_85 2 rfl ?_
    obtain ⟨c4, h⟩ := or_none h
    refine v_iald (pc := 86) (a := 231) O kq_231 (inq lq_231 c4) dX12_statementAt_86 ?_
    refine v_ifne (pc := 87) 103 O dX12_statementAt_87 (by decide) (fun c5 => ?_) (fun c5 => ?_)
    · have h := (if_neg c5).symm.trans h
      refine v_aload_n (pc := 103) O dX12_statementAt_103 0 rfl ?_
      refine v_getK (pc := 104) (a := 207) O hm gf_X12_45 fl_X12_87 kq_207 lk_207_45 dX12_statementAt_104 ?_
      refine v_iload_n (pc := 107) O dX12_statementAt_107 2 rfl ?_
      obtain ⟨c6, h⟩ := or_none h
      refine v_iald (pc := 108) (a := 231) O kq_231 (inq lq_231 c6) dX12_statementAt_108 ?_
      refine v_iconst (pc := 109) O dX12_statementAt_109 ic_1 ?_
      refine v_icmpne (pc := 110) 136 O dX12_statementAt_110 (by decide) (fun c7 => ?_) (fun c7 => ?_)
      · have h := (if_neg c7).symm.trans h
        refine v_aload_n (pc := 136) O dX12_statementAt_136 0 rfl ?_
        refine v_getK (pc := 137) (a := 207) O hm gf_X12_45 fl_X12_87 kq_207 lk_207_45 dX12_statementAt_137 ?_
        refine v_iload_n (pc := 140) O dX12_statementAt_140 2 rfl ?_
        obtain ⟨c8, h⟩ := or_none h
        refine v_iald (pc := 141) (a := 231) O kq_231 (inq lq_231 c8) dX12_statementAt_141 ?_
        refine v_iconst (pc := 142) O dX12_statementAt_142 ic_2 ?_
        refine v_icmpne (pc := 143) 161 O dX12_statementAt_143 (by decide) (fun c9 => ?_) (fun c9 => ?_)
        · have h := (if_neg c9).symm.trans h
          refine v_aload_n (pc := 161) O dX12_statementAt_161 0 rfl ?_
          refine v_getK (pc := 162) (a := 207) O hm gf_X12_27 fl_X12_63 kq_207 lk_207_27 dX12_statementAt_162 ?_
          refine v_aload_n (pc := 165) O dX12_statementAt_165 0 rfl ?_
          refine v_getK (pc := 166) (a := 207) O hm gf_X12_46 fl_X12_90 kq_207 lk_207_46 dX12_statementAt_166 ?_
          refine v_iload_n (pc := 169) O dX12_statementAt_169 2 rfl ?_
          obtain ⟨c10, h⟩ := or_none h
          refine v_iald (pc := 170) (a := 232) O kq_232 (inq lq_232 c10) dX12_statementAt_170 ?_
          refine v_iload_n (pc := 171) O dX12_statementAt_171 1 rfl ?_
          obtain ⟨c11, h⟩ := or_none h
          refine v_iast (pc := 172) (a := 223) O kq_223 (inq lq_223 c11) dX12_statementAt_172 ?_
          refine v_sub [0, 1, 2] rfl ?_
          exact w_X12_statementAt_b173 O hm hn hz x2 x3 (sI D 223 (dI D 232 (x3).toNatClampNeg).toNatClampNeg x2) h
        · have h := (if_pos c9).symm.trans h
          refine v_aload_n (pc := 146) O dX12_statementAt_146 0 rfl ?_
          refine v_getK (pc := 147) (a := 207) O hm gf_X12_26 fl_X12_60 kq_207 lk_207_26 dX12_statementAt_147 ?_
          refine v_aload_n (pc := 150) O dX12_statementAt_150 0 rfl ?_
          refine v_getK (pc := 151) (a := 207) O hm gf_X12_46 fl_X12_90 kq_207 lk_207_46 dX12_statementAt_151 ?_
          refine v_iload_n (pc := 154) O dX12_statementAt_154 2 rfl ?_
          obtain ⟨c12, h⟩ := or_none h
          refine v_iald (pc := 155) (a := 232) O kq_232 (inq lq_232 c12) dX12_statementAt_155 ?_
          refine v_iload_n (pc := 156) O dX12_statementAt_156 1 rfl ?_
          obtain ⟨c13, h⟩ := or_none h
          refine v_iast (pc := 157) (a := 222) O kq_222 (inq lq_222 c13) dX12_statementAt_157 ?_
          refine v_goto (pc := 158) 173 O dX12_statementAt_158 (by decide) ?_
          refine v_sub [0, 1, 2] rfl ?_
          exact w_X12_statementAt_b173 O hm hn hz x2 x3 (sI D 222 (dI D 232 (x3).toNatClampNeg).toNatClampNeg x2) h
      · have h := (if_pos c7).symm.trans h
        refine v_aload_n (pc := 113) O dX12_statementAt_113 0 rfl ?_
        refine v_getK (pc := 114) (a := 207) O hm gf_X12_31 fl_X12_75 kq_207 lk_207_31 dX12_statementAt_114 ?_
        refine v_bipush (pc := 117) O dX12_statementAt_117 bp_26 ?_
        refine v_aload_n (pc := 119) O dX12_statementAt_119 0 rfl ?_
        refine v_getI (pc := 120) (a := 207) O gf_X12_35 fl_X12_308 kq_207 dX12_statementAt_120 ?_
        refine v_imul (pc := 123) O dX12_statementAt_123 ?_
        refine v_aload_n (pc := 124) O dX12_statementAt_124 0 rfl ?_
        refine v_getK (pc := 125) (a := 207) O hm gf_X12_46 fl_X12_90 kq_207 lk_207_46 dX12_statementAt_125 ?_
        refine v_iload_n (pc := 128) O dX12_statementAt_128 2 rfl ?_
        obtain ⟨c14, h⟩ := or_none h
        refine v_iald (pc := 129) (a := 232) O kq_232 (inq lq_232 c14) dX12_statementAt_129 ?_
        refine v_iadd (pc := 130) O dX12_statementAt_130 ?_
        refine v_iload_n (pc := 131) O dX12_statementAt_131 1 rfl ?_
        obtain ⟨c15, h⟩ := or_none h
        refine v_iast (pc := 132) (a := 227) O kq_227 (inq lq_227 c15) dX12_statementAt_132 ?_
        refine v_goto (pc := 133) 173 O dX12_statementAt_133 (by decide) ?_
        refine v_sub [0, 1, 2] rfl ?_
        exact w_X12_statementAt_b173 O hm hn hz x2 x3 (sI D 227 (((26 : Int32) * (dI D 207 35)) + (dI D 232 (x3).toNatClampNeg)).toNatClampNeg x2) h
    · have h := (if_pos c5).symm.trans h
      refine v_aload_n (pc := 90) O dX12_statementAt_90 0 rfl ?_
      refine v_getK (pc := 91) (a := 207) O hm gf_X12_32 fl_X12_78 kq_207 lk_207_32 dX12_statementAt_91 ?_
      refine v_aload_n (pc := 94) O dX12_statementAt_94 0 rfl ?_
      refine v_getI (pc := 95) (a := 207) O gf_X12_35 fl_X12_308 kq_207 dX12_statementAt_95 ?_
      refine v_iload_n (pc := 98) O dX12_statementAt_98 1 rfl ?_
      obtain ⟨c16, h⟩ := or_none h
      refine v_iast (pc := 99) (a := 228) O kq_228 (inq lq_228 c16) dX12_statementAt_99 ?_
      refine v_goto (pc := 100) 173 O dX12_statementAt_100 (by decide) ?_
      refine v_sub [0, 1, 2] rfl ?_
      exact w_X12_statementAt_b173 O hm hn hz x2 x3 (sI D 228 (dI D 207 35).toNatClampNeg x2) h
  · have h := (if_neg c3).symm.trans h
    refine v_aload_n (pc := 66) O dX12_statementAt_66 0 rfl ?_
    refine v_getK (pc := 67) (a := 207) O hm gf_X12_28 fl_X12_66 kq_207 lk_207_28 dX12_statementAt_67 ?_
    refine v_aload_n (pc := 70) O dX12_statementAt_70 0 rfl ?_
    refine v_getK (pc := 71) (a := 207) O hm gf_X12_47 fl_X12_93 kq_207 lk_207_47 dX12_statementAt_71 ?_
    refine v_iload_n (pc := 74) O dX12_statementAt_74 2 rfl ?_
    obtain ⟨c17, h⟩ := or_none h
    refine v_iald (pc := 75) (a := 233) O kq_233 (inq lq_233 c17) dX12_statementAt_75 ?_
    refine v_iload_n (pc := 76) O dX12_statementAt_76 1 rfl ?_
    obtain ⟨c18, h⟩ := or_none h
    refine v_iast (pc := 77) (a := 224) O kq_224 (inq lq_224 c18) dX12_statementAt_77 ?_
    refine v_goto (pc := 78) 173 O dX12_statementAt_78 (by decide) ?_
    refine v_sub [0, 1, 2] rfl ?_
    exact w_X12_statementAt_b173 O hm hn hz x2 x3 (sI D 224 (dI D 233 (x3).toNatClampNeg).toNatClampNeg x2) h
def f_X12_statementAt (x1 : Int32) (D : Dat) : Option (Int32 × Dat) :=
  if (dI D 207 33) < 0 ∨ 128 ≤ ((dI D 207 33)).toNatClampNeg then none else (if (dI D 207 33) < 0 ∨ 128 ≤ ((dI D 207 33)).toNatClampNeg then none else (if (dI D 207 33) < 0 ∨ 128 ≤ ((dI D 207 33)).toNatClampNeg then none else (if (dI D 207 33) < 0 ∨ 128 ≤ ((dI D 207 33)).toNatClampNeg then none else (if (dI D 207 33) < 0 ∨ 128 ≤ ((dI D 207 33)).toNatClampNeg then none else (f_X12_statementAt_b57 (dI D 207 33) ((dI (sI (sI (sI (sI (sI (sI D 207 33 ((dI D 207 33) + (1 : Int32))) 217 (dI D 207 33).toNatClampNeg x1) 224 (dI D 207 33).toNatClampNeg (-1)) 222 (dI D 207 33).toNatClampNeg (-1)) 223 (dI D 207 33).toNatClampNeg (-1)) 219 (dI D 207 33).toNatClampNeg 0) 207 44) - (1 : Int32)) (sI (sI (sI (sI (sI (sI D 207 33 ((dI D 207 33) + (1 : Int32))) 217 (dI D 207 33).toNatClampNeg x1) 224 (dI D 207 33).toNatClampNeg (-1)) 222 (dI D 207 33).toNatClampNeg (-1)) 223 (dI D 207 33).toNatClampNeg (-1)) 219 (dI D 207 33).toNatClampNeg 0))))))
set_option maxHeartbeats 4000000 in
theorem w_X12_statementAt {X : Cx} {n nu c u : Nat} {K : Nat → Nat} {z : Int32 × Dat} (O : Ok X cX12_statementAt RX12 (some .int) 0 0) (hm : wlm (xw X) = true) (hn : xn X = 4) (hz : Z0 X (Ax nu K c u)) (x1 : Int32) (D : Dat) (h : f_X12_statementAt x1 D = some z) : V X (Q0 X n (Ax nu K c u) (some (.int z.1)) z.2) n (Ax nu K c u) D 0 [(0, .ref (bo X + pp 207)), (1, .int x1)] [] := by
  unfold f_X12_statementAt at h
  refine v_aload_n (pc := 0) O dX12_statementAt_0 0 rfl ?_
  refine v_getI (pc := 1) (a := 207) O gf_X12_33 fl_X12_305 kq_207 dX12_statementAt_1 ?_
  refine v_istore_n (pc := 4) (lv' := [(2, .int (dI D 207 33)), (0, .ref (bo X + pp 207)), (1, .int x1)]) O dX12_statementAt_4 rfl (by rw [hn]; decide) rfl ?_
  refine v_aload_n (pc := 5) O dX12_statementAt_5 1 rfl ?_
  refine v_dup (pc := 6) O dX12_statementAt_6 rfl ?_
  refine v_getI (pc := 7) (a := 207) O gf_X12_33 fl_X12_305 kq_207 dX12_statementAt_7 ?_
  refine v_iconst (pc := 10) O dX12_statementAt_10 ic_1 ?_
  refine v_iadd (pc := 11) O dX12_statementAt_11 ?_
  refine v_putI (pc := 12) (a := 207) O pf_X12_33 fl_X12_305 kq_207 dX12_statementAt_12 ?_
  refine v_aload_n (pc := 15) O dX12_statementAt_15 1 rfl ?_
  refine v_getK (pc := 16) (a := 207) O hm gf_X12_21 fl_X12_45 kq_207 lk_207_21 dX12_statementAt_16 ?_
  refine v_iload_n (pc := 19) O dX12_statementAt_19 0 rfl ?_
  refine v_iload_n (pc := 20) O dX12_statementAt_20 2 rfl ?_
  obtain ⟨c19, h⟩ := or_none h
  refine v_iast (pc := 21) (a := 217) O kq_217 (inq lq_217 c19) dX12_statementAt_21 ?_
  refine v_aload_n (pc := 22) O dX12_statementAt_22 1 rfl ?_
  refine v_getK (pc := 23) (a := 207) O hm gf_X12_28 fl_X12_66 kq_207 lk_207_28 dX12_statementAt_23 ?_
  refine v_iload_n (pc := 26) O dX12_statementAt_26 0 rfl ?_
  refine v_iconst (pc := 27) O dX12_statementAt_27 ic_m1 ?_
  obtain ⟨c20, h⟩ := or_none h
  refine v_iast (pc := 28) (a := 224) O kq_224 (inq lq_224 c20) dX12_statementAt_28 ?_
  refine v_aload_n (pc := 29) O dX12_statementAt_29 1 rfl ?_
  refine v_getK (pc := 30) (a := 207) O hm gf_X12_26 fl_X12_60 kq_207 lk_207_26 dX12_statementAt_30 ?_
  refine v_iload_n (pc := 33) O dX12_statementAt_33 0 rfl ?_
  refine v_iconst (pc := 34) O dX12_statementAt_34 ic_m1 ?_
  obtain ⟨c21, h⟩ := or_none h
  refine v_iast (pc := 35) (a := 222) O kq_222 (inq lq_222 c21) dX12_statementAt_35 ?_
  refine v_aload_n (pc := 36) O dX12_statementAt_36 1 rfl ?_
  refine v_getK (pc := 37) (a := 207) O hm gf_X12_27 fl_X12_63 kq_207 lk_207_27 dX12_statementAt_37 ?_
  refine v_iload_n (pc := 40) O dX12_statementAt_40 0 rfl ?_
  refine v_iconst (pc := 41) O dX12_statementAt_41 ic_m1 ?_
  obtain ⟨c22, h⟩ := or_none h
  refine v_iast (pc := 42) (a := 223) O kq_223 (inq lq_223 c22) dX12_statementAt_42 ?_
  refine v_aload_n (pc := 43) O dX12_statementAt_43 1 rfl ?_
  refine v_getK (pc := 44) (a := 207) O hm gf_X12_23 fl_X12_51 kq_207 lk_207_23 dX12_statementAt_44 ?_
  refine v_iload_n (pc := 47) O dX12_statementAt_47 0 rfl ?_
  refine v_iconst (pc := 48) O dX12_statementAt_48 ic_0 ?_
  obtain ⟨c23, h⟩ := or_none h
  refine v_iast (pc := 49) (a := 219) O kq_219 (inq lq_219 c23) dX12_statementAt_49 ?_
  refine v_aload_n (pc := 50) O dX12_statementAt_50 1 rfl ?_
  refine v_getI (pc := 51) (a := 207) O gf_X12_44 fl_X12_302 kq_207 dX12_statementAt_51 ?_
  refine v_iconst (pc := 54) O dX12_statementAt_54 ic_1 ?_
  refine v_isub (pc := 55) O dX12_statementAt_55 ?_
  refine v_istore_n (pc := 56) (lv' := [(3, .int ((dI (sI (sI (sI (sI (sI (sI D 207 33 ((dI D 207 33) + (1 : Int32))) 217 (dI D 207 33).toNatClampNeg x1) 224 (dI D 207 33).toNatClampNeg (-1)) 222 (dI D 207 33).toNatClampNeg (-1)) 223 (dI D 207 33).toNatClampNeg (-1)) 219 (dI D 207 33).toNatClampNeg 0) 207 44) - (1 : Int32))), (2, .int (dI D 207 33)), (0, .ref (bo X + pp 207)), (1, .int x1)]) O dX12_statementAt_56 rfl (by rw [hn]; decide) rfl ?_
  refine v_sub [2, 1, 0] rfl ?_
  exact w_X12_statementAt_b57 O hm hn hz (dI D 207 33) ((dI (sI (sI (sI (sI (sI (sI D 207 33 ((dI D 207 33) + (1 : Int32))) 217 (dI D 207 33).toNatClampNeg x1) 224 (dI D 207 33).toNatClampNeg (-1)) 222 (dI D 207 33).toNatClampNeg (-1)) 223 (dI D 207 33).toNatClampNeg (-1)) 219 (dI D 207 33).toNatClampNeg 0) 207 44) - (1 : Int32)) (sI (sI (sI (sI (sI (sI D 207 33 ((dI D 207 33) + (1 : Int32))) 217 (dI D 207 33).toNatClampNeg x1) 224 (dI D 207 33).toNatClampNeg (-1)) 222 (dI D 207 33).toNatClampNeg (-1)) 223 (dI D 207 33).toNatClampNeg (-1)) 219 (dI D 207 33).toNatClampNeg 0) h
theorem c_X12_statementAt {l : Launch} {w : Wx} {n nu c u : Nat} {K : Nat → Nat} (hm : wlm w = true) {x1 : Int32} {D : Dat} {z : Int32 × Dat} (h : f_X12_statementAt x1 D = some z) : C0 l w yX12_statementAt cX12_statementAt 4 (some .int) 0 0 [.ref (wb w + pp 207), .int x1] n (Ax nu K c u) D (some (.int z.1)) z.2 :=
  C0.of (by decide) (Nat.le_of_ble_eq_true rfl) (fun X e1 e2 e3 hz O => by
  subst e1
  subst e2
  exact w_X12_statementAt O hm e3 hz x1 D h)
def f_X12_named_b143 (N : Nat) (D : Dat) : Option (Dat) :=
  (f_X12_expect N 59 D).bind (fun p1 => some p1)
set_option maxHeartbeats 4000000 in
theorem w_X12_named_b143 {X : Cx} {n nu c u : Nat} {K : Nat → Nat} {N : Nat} {z : Dat} (O : Ok X cX12_named RX12 none 7 149) (hm : wlm (xw X) = true) (hn : xn X = 3) (hz : Z0 X (Ax nu K c u)) (D : Dat) (h : f_X12_named_b143 N D = some z) : V X (Q0 X n (Ax nu K c u) none z) n (Ax nu K c u) D 143 [(0, .ref (bo X + pp 207))] [] := by
  unfold f_X12_named_b143 at h
  refine v_aload_n (pc := 143) O dX12_named_143 0 rfl ?_
  refine v_bipush (pc := 144) O dX12_named_144 bp_59 ?_
  obtain ⟨p1, e2, h⟩ := bind_some h
  refine v_callV (pc := 146) (a := 207) (As := [.int 59]) (rest := []) (r := none) (D' := p1) O (bb0 hz) (c_X12_expect hm e2) mw_X12_expect im_X12_expect se_X12_expect ml_X12_314 kq_207 (by decide) rfl rfl rfl (by decide) (by decide) (Nat.le_of_ble_eq_true rfl) dX12_named_146 rfl rfl ?_
  obtain rfl := Option.some.inj h
  exact v_ret (pc := 149) O hz dX12_named_149
def f_X12_named_b120 (N : Nat) (x1 : Int32) (D : Dat) : Option (Dat) :=
  (f_X12_expect N 61 D).bind (fun p3 => if 0 ≤ (dI p3 207 40) then (f_X12_named_b143 N p3) else ((f_X12_expression N p3).bind (fun p6 => if x1 < 0 ∨ 128 ≤ (x1).toNatClampNeg then none else (f_X12_named_b143 N (sI p6.2 221 (x1).toNatClampNeg p6.1)))))
set_option maxHeartbeats 4000000 in
theorem w_X12_named_b120 {X : Cx} {n nu c u : Nat} {K : Nat → Nat} {N : Nat} {z : Dat} (O : Ok X cX12_named RX12 none 7 149) (hm : wlm (xw X) = true) (hn : xn X = 3) (hz : Z0 X (Ax nu K c u)) (x1 : Int32) (D : Dat) (h : f_X12_named_b120 N x1 D = some z) : V X (Q0 X n (Ax nu K c u) none z) n (Ax nu K c u) D 120 [(0, .ref (bo X + pp 207)), (1, .int x1)] [] := by
  unfold f_X12_named_b120 at h
  refine v_aload_n (pc := 120) O dX12_named_120 0 rfl ?_
  refine v_bipush (pc := 121) O dX12_named_121 bp_61 ?_
  obtain ⟨p3, e4, h⟩ := bind_some h
  refine v_callV (pc := 123) (a := 207) (As := [.int 61]) (rest := []) (r := none) (D' := p3) O (bb0 hz) (c_X12_expect hm e4) mw_X12_expect im_X12_expect se_X12_expect ml_X12_314 kq_207 (by decide) rfl rfl rfl (by decide) (by decide) (Nat.le_of_ble_eq_true rfl) dX12_named_123 rfl rfl ?_
  refine v_aload_n (pc := 126) O dX12_named_126 0 rfl ?_
  refine v_getI (pc := 127) (a := 207) O gf_X12_40 fl_X12_253 kq_207 dX12_named_127 ?_
  refine v_ifge (pc := 130) 143 O dX12_named_130 (by decide) (fun c5 => ?_) (fun c5 => ?_)
  · have h := (if_pos c5).symm.trans h
    refine v_sub [0] rfl ?_
    exact w_X12_named_b143 O hm hn hz p3 h
  · have h := (if_neg c5).symm.trans h
    refine v_aload_n (pc := 133) O dX12_named_133 0 rfl ?_
    refine v_getK (pc := 134) (a := 207) O hm gf_X12_25 fl_X12_57 kq_207 lk_207_25 dX12_named_134 ?_
    refine v_iload_n (pc := 137) O dX12_named_137 1 rfl ?_
    refine v_aload_n (pc := 138) O dX12_named_138 0 rfl ?_
    obtain ⟨p6, e7, h⟩ := bind_some h
    refine v_callV (pc := 139) (a := 207) (As := []) (rest := [.int x1, .ref (bo X + pp 221)]) (r := (some (.int p6.1))) (D' := p6.2) O (bb0 hz) (c_X12_expression hm e7) mw_X12_expression im_X12_expression se_X12_expression ml_X12_311 kq_207 (by decide) rfl rfl rfl (by decide) (by decide) (Nat.le_of_ble_eq_true rfl) dX12_named_139 rfl rfl ?_
    obtain ⟨c8, h⟩ := or_none h
    refine v_iast (pc := 142) (a := 221) O kq_221 (inq lq_221 c8) dX12_named_142 ?_
    refine v_sub [0] rfl ?_
    exact w_X12_named_b143 O hm hn hz (sI p6.2 221 (x1).toNatClampNeg p6.1) h
def f_X12_named_b85 (N : Nat) (x1 : Int32) (D : Dat) : Option (Dat) :=
  (f_X12_expect N 93 D).bind (fun p9 => f_X12_named_b120 N x1 (sI p9 207 41 ((dI p9 207 41) - (1 : Int32))))
set_option maxHeartbeats 4000000 in
theorem w_X12_named_b85 {X : Cx} {n nu c u : Nat} {K : Nat → Nat} {N : Nat} {z : Dat} (O : Ok X cX12_named RX12 none 7 149) (hm : wlm (xw X) = true) (hn : xn X = 3) (hz : Z0 X (Ax nu K c u)) (x1 : Int32) (D : Dat) (h : f_X12_named_b85 N x1 D = some z) : V X (Q0 X n (Ax nu K c u) none z) n (Ax nu K c u) D 85 [(0, .ref (bo X + pp 207)), (1, .int x1)] [] := by
  unfold f_X12_named_b85 at h
  refine v_aload_n (pc := 85) O dX12_named_85 0 rfl ?_
  refine v_bipush (pc := 86) O dX12_named_86 bp_93 ?_
  obtain ⟨p9, e10, h⟩ := bind_some h
  refine v_callV (pc := 88) (a := 207) (As := [.int 93]) (rest := []) (r := none) (D' := p9) O (bb0 hz) (c_X12_expect hm e10) mw_X12_expect im_X12_expect se_X12_expect ml_X12_314 kq_207 (by decide) rfl rfl rfl (by decide) (by decide) (Nat.le_of_ble_eq_true rfl) dX12_named_88 rfl rfl ?_
  refine v_aload_n (pc := 91) O dX12_named_91 0 rfl ?_
  refine v_dup (pc := 92) O dX12_named_92 rfl ?_
  refine v_getI (pc := 93) (a := 207) O gf_X12_41 fl_X12_262 kq_207 dX12_named_93 ?_
  refine v_iconst (pc := 96) O dX12_named_96 ic_1 ?_
  refine v_isub (pc := 97) O dX12_named_97 ?_
  refine v_putI (pc := 98) (a := 207) O pf_X12_41 fl_X12_262 kq_207 dX12_named_98 ?_
  refine v_goto (pc := 101) 120 O dX12_named_101 (by decide) ?_
  refine v_sub [0, 1] rfl ?_
  exact w_X12_named_b120 O hm hn hz x1 (sI p9 207 41 ((dI p9 207 41) - (1 : Int32))) h
def f_X12_named_b51 (N : Nat) (x1 : Int32) (x2 : Int32) (s0 : Int32) (s1 : Int32) (D : Dat) : Option (Dat) :=
  if s1 < 0 ∨ 128 ≤ (s1).toNatClampNeg then none else (if x2 < 0 ∨ 26 ≤ (x2).toNatClampNeg then none else (if (dI (sI D 216 (s1).toNatClampNeg s0) 229 (x2).toNatClampNeg) = 3 then ((f_X12_opening N 91 (sI D 216 (s1).toNatClampNeg s0)).bind (fun p17 => if 0 ≤ (dI p17 207 40) then (f_X12_named_b85 N x1 p17) else ((f_X12_expression N p17).bind (fun p20 => if x1 < 0 ∨ 128 ≤ (x1).toNatClampNeg then none else (f_X12_named_b85 N x1 (sI p20.2 220 (x1).toNatClampNeg p20.1)))))) else (if x2 < 0 ∨ 26 ≤ (x2).toNatClampNeg then none else (if (dI (sI D 216 (s1).toNatClampNeg s0) 229 (x2).toNatClampNeg) = 0 then (if x2 < 0 ∨ 26 ≤ (x2).toNatClampNeg then none else (f_X12_named_b120 N x1 (sI (sI D 216 (s1).toNatClampNeg s0) 229 (x2).toNatClampNeg 1))) else (f_X12_named_b120 N x1 (sI D 216 (s1).toNatClampNeg s0))))))
set_option maxHeartbeats 4000000 in
theorem w_X12_named_b51 {X : Cx} {n nu c u : Nat} {K : Nat → Nat} {N : Nat} {z : Dat} (O : Ok X cX12_named RX12 none 7 149) (hm : wlm (xw X) = true) (hn : xn X = 3) (hz : Z0 X (Ax nu K c u)) (x1 : Int32) (x2 : Int32) (s0 : Int32) (s1 : Int32) (D : Dat) (h : f_X12_named_b51 N x1 x2 s0 s1 D = some z) : V X (Q0 X n (Ax nu K c u) none z) n (Ax nu K c u) D 51 [(0, .ref (bo X + pp 207)), (1, .int x1), (2, .int x2)] [.int s0, .int s1, .ref (bo X + pp 216)] := by
  unfold f_X12_named_b51 at h
  obtain ⟨c11, h⟩ := or_none h
  refine v_iast (pc := 51) (a := 216) O kq_216 (inq lq_216 c11) dX12_named_51 ?_
  refine v_aload_n (pc := 52) O dX12_named_52 0 rfl ?_
  refine v_getK (pc := 53) (a := 207) O hm gf_X12_42 fl_X12_81 kq_207 lk_207_42 dX12_named_53 ?_
  refine v_iload_n (pc := 56) O dX12_named_56 2 rfl ?_
  obtain ⟨c12, h⟩ := or_none h
  refine v_iald (pc := 57) (a := 229) O kq_229 (inq lq_229 c12) dX12_named_57 ?_
  refine v_iconst (pc := 58) O dX12_named_58 ic_3 ?_
  refine v_icmpne (pc := 59) 104 O dX12_named_59 (by decide) (fun c13 => ?_) (fun c13 => ?_)
  · have h := (if_neg c13).symm.trans h
    refine v_aload_n (pc := 104) O dX12_named_104 0 rfl ?_
    refine v_getK (pc := 105) (a := 207) O hm gf_X12_42 fl_X12_81 kq_207 lk_207_42 dX12_named_105 ?_
    refine v_iload_n (pc := 108) O dX12_named_108 2 rfl ?_
    obtain ⟨c14, h⟩ := or_none h
    refine v_iald (pc := 109) (a := 229) O kq_229 (inq lq_229 c14) dX12_named_109 ?_
    refine v_ifne (pc := 110) 120 O dX12_named_110 (by decide) (fun c15 => ?_) (fun c15 => ?_)
    · have h := (if_neg c15).symm.trans h
      refine v_sub [0, 1] rfl ?_
      exact w_X12_named_b120 O hm hn hz x1 (sI D 216 (s1).toNatClampNeg s0) h
    · have h := (if_pos c15).symm.trans h
      refine v_aload_n (pc := 113) O dX12_named_113 0 rfl ?_
      refine v_getK (pc := 114) (a := 207) O hm gf_X12_42 fl_X12_81 kq_207 lk_207_42 dX12_named_114 ?_
      refine v_iload_n (pc := 117) O dX12_named_117 2 rfl ?_
      refine v_iconst (pc := 118) O dX12_named_118 ic_1 ?_
      obtain ⟨c16, h⟩ := or_none h
      refine v_iast (pc := 119) (a := 229) O kq_229 (inq lq_229 c16) dX12_named_119 ?_
      refine v_sub [0, 1] rfl ?_
      exact w_X12_named_b120 O hm hn hz x1 (sI (sI D 216 (s1).toNatClampNeg s0) 229 (x2).toNatClampNeg 1) h
  · have h := (if_pos c13).symm.trans h
    refine v_aload_n (pc := 62) O dX12_named_62 0 rfl ?_
    refine v_bipush (pc := 63) O dX12_named_63 bp_91 ?_
    obtain ⟨p17, e18, h⟩ := bind_some h
    refine v_callV (pc := 65) (a := 207) (As := [.int 91]) (rest := []) (r := none) (D' := p17) O (bb0 hz) (c_X12_opening hm e18) mw_X12_opening im_X12_opening se_X12_opening ml_X12_281 kq_207 (by decide) rfl rfl rfl (by decide) (by decide) (Nat.le_of_ble_eq_true rfl) dX12_named_65 rfl rfl ?_
    refine v_aload_n (pc := 68) O dX12_named_68 0 rfl ?_
    refine v_getI (pc := 69) (a := 207) O gf_X12_40 fl_X12_253 kq_207 dX12_named_69 ?_
    refine v_ifge (pc := 72) 85 O dX12_named_72 (by decide) (fun c19 => ?_) (fun c19 => ?_)
    · have h := (if_pos c19).symm.trans h
      refine v_sub [0, 1] rfl ?_
      exact w_X12_named_b85 O hm hn hz x1 p17 h
    · have h := (if_neg c19).symm.trans h
      refine v_aload_n (pc := 75) O dX12_named_75 0 rfl ?_
      refine v_getK (pc := 76) (a := 207) O hm gf_X12_24 fl_X12_54 kq_207 lk_207_24 dX12_named_76 ?_
      refine v_iload_n (pc := 79) O dX12_named_79 1 rfl ?_
      refine v_aload_n (pc := 80) O dX12_named_80 0 rfl ?_
      obtain ⟨p20, e21, h⟩ := bind_some h
      refine v_callV (pc := 81) (a := 207) (As := []) (rest := [.int x1, .ref (bo X + pp 220)]) (r := (some (.int p20.1))) (D' := p20.2) O (bb0 hz) (c_X12_expression hm e21) mw_X12_expression im_X12_expression se_X12_expression ml_X12_311 kq_207 (by decide) rfl rfl rfl (by decide) (by decide) (Nat.le_of_ble_eq_true rfl) dX12_named_81 rfl rfl ?_
      obtain ⟨c22, h⟩ := or_none h
      refine v_iast (pc := 84) (a := 220) O kq_220 (inq lq_220 c22) dX12_named_84 ?_
      refine v_sub [0, 1] rfl ?_
      exact w_X12_named_b85 O hm hn hz x1 (sI p20.2 220 (x1).toNatClampNeg p20.1) h
def f_X12_named (N : Nat) (x1 : Int32) (D : Dat) : Option (Dat) :=
  if (dI D 207 38) < 0 ∨ 26 ≤ ((dI D 207 38)).toNatClampNeg then none else (if (dI D 229 (dI D 207 38).toNatClampNeg) ≤ 3 then ((f_X12_next N D).bind (fun p25 => if x1 < 0 ∨ 128 ≤ (x1).toNatClampNeg then none else (if (dI D 207 38) < 0 ∨ 26 ≤ ((dI D 207 38)).toNatClampNeg then none else (if (dI (sI p25 218 (x1).toNatClampNeg (dI D 207 38)) 229 (dI D 207 38).toNatClampNeg) = 3 then (f_X12_named_b51 N x1 (dI D 207 38) 2 x1 (sI p25 218 (x1).toNatClampNeg (dI D 207 38))) else (f_X12_named_b51 N x1 (dI D 207 38) 1 x1 (sI p25 218 (x1).toNatClampNeg (dI D 207 38))))))) else ((f_X12_wrong D).bind (fun p30 => some p30)))
set_option maxHeartbeats 4000000 in
theorem w_X12_named {X : Cx} {n nu c u : Nat} {K : Nat → Nat} {N : Nat} {z : Dat} (O : Ok X cX12_named RX12 none 7 149) (hm : wlm (xw X) = true) (hn : xn X = 3) (hz : Z0 X (Ax nu K c u)) (x1 : Int32) (D : Dat) (h : f_X12_named N x1 D = some z) : V X (Q0 X n (Ax nu K c u) none z) n (Ax nu K c u) D 0 [(0, .ref (bo X + pp 207)), (1, .int x1)] [] := by
  unfold f_X12_named at h
  refine v_aload_n (pc := 0) O dX12_named_0 0 rfl ?_
  refine v_getI (pc := 1) (a := 207) O gf_X12_38 fl_X12_235 kq_207 dX12_named_1 ?_
  refine v_istore_n (pc := 4) (lv' := [(2, .int (dI D 207 38)), (0, .ref (bo X + pp 207)), (1, .int x1)]) O dX12_named_4 rfl (by rw [hn]; decide) rfl ?_
  refine v_aload_n (pc := 5) O dX12_named_5 1 rfl ?_
  refine v_getK (pc := 6) (a := 207) O hm gf_X12_42 fl_X12_81 kq_207 lk_207_42 dX12_named_6 ?_
  refine v_iload_n (pc := 9) O dX12_named_9 0 rfl ?_
  obtain ⟨c23, h⟩ := or_none h
  refine v_iald (pc := 10) (a := 229) O kq_229 (inq lq_229 c23) dX12_named_10 ?_
  refine v_iconst (pc := 11) O dX12_named_11 ic_3 ?_
  refine v_icmple (pc := 12) 20 O dX12_named_12 (by decide) (fun c24 => ?_) (fun c24 => ?_)
  · have h := (if_pos c24).symm.trans h
    refine v_aload_n (pc := 20) O dX12_named_20 1 rfl ?_
    obtain ⟨p25, e26, h⟩ := bind_some h
    refine v_callV (pc := 21) (a := 207) (As := []) (rest := []) (r := none) (D' := p25) O (bb0 hz) (c_X12_next hm e26) mw_X12_next im_X12_next se_X12_next ml_X12_256 kq_207 (by decide) rfl rfl rfl (by decide) (by decide) (Nat.le_of_ble_eq_true rfl) dX12_named_21 rfl rfl ?_
    refine v_aload_n (pc := 24) O dX12_named_24 1 rfl ?_
    refine v_getK (pc := 25) (a := 207) O hm gf_X12_22 fl_X12_48 kq_207 lk_207_22 dX12_named_25 ?_
    refine v_iload_n (pc := 28) O dX12_named_28 2 rfl ?_
    refine v_iload_n (pc := 29) O dX12_named_29 0 rfl ?_
    obtain ⟨c27, h⟩ := or_none h
    refine v_iast (pc := 30) (a := 218) O kq_218 (inq lq_218 c27) dX12_named_30 ?_
    refine v_aload_n (pc := 31) O dX12_named_31 1 rfl ?_
    refine v_getK (pc := 32) (a := 207) O hm gf_X12_20 fl_X12_42 kq_207 lk_207_20 dX12_named_32 ?_
    refine v_iload_n (pc := 35) O dX12_named_35 2 rfl ?_
    refine v_aload_n (pc := 36) O dX12_named_36 1 rfl ?_
    refine v_getK (pc := 37) (a := 207) O hm gf_X12_42 fl_X12_81 kq_207 lk_207_42 dX12_named_37 ?_
    refine v_iload_n (pc := 40) O dX12_named_40 0 rfl ?_
    obtain ⟨c28, h⟩ := or_none h
    refine v_iald (pc := 41) (a := 229) O kq_229 (inq lq_229 c28) dX12_named_41 ?_
    refine v_iconst (pc := 42) O dX12_named_42 ic_3 ?_
    refine v_icmpne (pc := 43) 50 O dX12_named_43 (by decide) (fun c29 => ?_) (fun c29 => ?_)
    · have h := (if_neg c29).symm.trans h
      refine v_iconst (pc := 50) O dX12_named_50 ic_1 ?_
      refine v_sub [1, 2, 0] rfl ?_
      exact w_X12_named_b51 O hm hn hz x1 (dI D 207 38) 1 x1 (sI p25 218 (x1).toNatClampNeg (dI D 207 38)) h
    · have h := (if_pos c29).symm.trans h
      refine v_iconst (pc := 46) O dX12_named_46 ic_2 ?_
      refine v_goto (pc := 47) 51 O dX12_named_47 (by decide) ?_
      refine v_sub [1, 2, 0] rfl ?_
      exact w_X12_named_b51 O hm hn hz x1 (dI D 207 38) 2 x1 (sI p25 218 (x1).toNatClampNeg (dI D 207 38)) h
  · have h := (if_neg c24).symm.trans h
    refine v_aload_n (pc := 15) O dX12_named_15 1 rfl ?_
    obtain ⟨p30, e31, h⟩ := bind_some h
    refine v_callV (pc := 16) (a := 207) (As := []) (rest := []) (r := none) (D' := p30) O (bb0 hz) (c_X12_wrong hm e31) mw_X12_wrong im_X12_wrong se_X12_wrong ml_X12_259 kq_207 (by decide) rfl rfl rfl (by decide) (by decide) (Nat.le_of_ble_eq_true rfl) dX12_named_16 rfl rfl ?_
    obtain rfl := Option.some.inj h
    exact v_ret (pc := 19) O hz dX12_named_19
theorem c_X12_named {l : Launch} {w : Wx} {n nu c u : Nat} {K : Nat → Nat} {N : Nat} (hm : wlm w = true) {x1 : Int32} {D : Dat} {z : Dat} (h : f_X12_named N x1 D = some z) : C0 l w yX12_named cX12_named 3 none 7 149 [.ref (wb w + pp 207), .int x1] n (Ax nu K c u) D none z :=
  C0.of (by decide) (Nat.le_of_ble_eq_true rfl) (fun X e1 e2 e3 hz O => by
  subst e1
  subst e2
  exact w_X12_named O hm e3 hz x1 D h)
def f_X12_moving_b100 (N : Nat) (x1 : Int32) (D : Dat) : Option (Dat) :=
  (f_X12_expect N 58 D).bind (fun p1 => (f_X12_labelToken N p1).bind (fun p3 => if x1 < 0 ∨ 128 ≤ (x1).toNatClampNeg then none else ((f_X12_expect N 59 (sI p3.2 219 (x1).toNatClampNeg p3.1)).bind (fun p6 => some p6))))
set_option maxHeartbeats 4000000 in
theorem w_X12_moving_b100 {X : Cx} {n nu c u : Nat} {K : Nat → Nat} {N : Nat} {z : Dat} (O : Ok X cX12_moving RX12 none 7 149) (hm : wlm (xw X) = true) (hn : xn X = 3) (hz : Z0 X (Ax nu K c u)) (x1 : Int32) (D : Dat) (h : f_X12_moving_b100 N x1 D = some z) : V X (Q0 X n (Ax nu K c u) none z) n (Ax nu K c u) D 100 [(0, .ref (bo X + pp 207)), (1, .int x1)] [] := by
  unfold f_X12_moving_b100 at h
  refine v_aload_n (pc := 100) O dX12_moving_100 0 rfl ?_
  refine v_bipush (pc := 101) O dX12_moving_101 bp_58 ?_
  obtain ⟨p1, e2, h⟩ := bind_some h
  refine v_callV (pc := 103) (a := 207) (As := [.int 58]) (rest := []) (r := none) (D' := p1) O (bb0 hz) (c_X12_expect hm e2) mw_X12_expect im_X12_expect se_X12_expect ml_X12_314 kq_207 (by decide) rfl rfl rfl (by decide) (by decide) (Nat.le_of_ble_eq_true rfl) dX12_moving_103 rfl rfl ?_
  refine v_aload_n (pc := 106) O dX12_moving_106 0 rfl ?_
  refine v_getK (pc := 107) (a := 207) O hm gf_X12_23 fl_X12_51 kq_207 lk_207_23 dX12_moving_107 ?_
  refine v_iload_n (pc := 110) O dX12_moving_110 1 rfl ?_
  refine v_aload_n (pc := 111) O dX12_moving_111 0 rfl ?_
  obtain ⟨p3, e4, h⟩ := bind_some h
  refine v_callV (pc := 112) (a := 207) (As := []) (rest := [.int x1, .ref (bo X + pp 219)]) (r := (some (.int p3.1))) (D' := p3.2) O (bb0 hz) (c_X12_labelToken hm e4) mw_X12_labelToken im_X12_labelToken se_X12_labelToken ml_X12_317 kq_207 (by decide) rfl rfl rfl (by decide) (by decide) (Nat.le_of_ble_eq_true rfl) dX12_moving_112 rfl rfl ?_
  obtain ⟨c5, h⟩ := or_none h
  refine v_iast (pc := 115) (a := 219) O kq_219 (inq lq_219 c5) dX12_moving_115 ?_
  refine v_aload_n (pc := 116) O dX12_moving_116 0 rfl ?_
  refine v_bipush (pc := 117) O dX12_moving_117 bp_59 ?_
  obtain ⟨p6, e7, h⟩ := bind_some h
  refine v_callV (pc := 119) (a := 207) (As := [.int 59]) (rest := []) (r := none) (D' := p6) O (bb0 hz) (c_X12_expect hm e7) mw_X12_expect im_X12_expect se_X12_expect ml_X12_314 kq_207 (by decide) rfl rfl rfl (by decide) (by decide) (Nat.le_of_ble_eq_true rfl) dX12_moving_119 rfl rfl ?_
  obtain rfl := Option.some.inj h
  exact v_ret (pc := 122) O hz dX12_moving_122
def f_X12_moving_b83 (N : Nat) (x1 : Int32) (D : Dat) : Option (Dat) :=
  (f_X12_next N D).bind (fun p8 => f_X12_moving_b100 N x1 p8)
set_option maxHeartbeats 4000000 in
theorem w_X12_moving_b83 {X : Cx} {n nu c u : Nat} {K : Nat → Nat} {N : Nat} {z : Dat} (O : Ok X cX12_moving RX12 none 7 149) (hm : wlm (xw X) = true) (hn : xn X = 3) (hz : Z0 X (Ax nu K c u)) (x1 : Int32) (D : Dat) (h : f_X12_moving_b83 N x1 D = some z) : V X (Q0 X n (Ax nu K c u) none z) n (Ax nu K c u) D 83 [(0, .ref (bo X + pp 207)), (1, .int x1)] [] := by
  unfold f_X12_moving_b83 at h
  refine v_aload_n (pc := 83) O dX12_moving_83 0 rfl ?_
  obtain ⟨p8, e9, h⟩ := bind_some h
  refine v_callV (pc := 84) (a := 207) (As := []) (rest := []) (r := none) (D' := p8) O (bb0 hz) (c_X12_next hm e9) mw_X12_next im_X12_next se_X12_next ml_X12_256 kq_207 (by decide) rfl rfl rfl (by decide) (by decide) (Nat.le_of_ble_eq_true rfl) dX12_moving_84 rfl rfl ?_
  refine v_goto (pc := 87) 100 O dX12_moving_87 (by decide) ?_
  refine v_sub [0, 1] rfl ?_
  exact w_X12_moving_b100 O hm hn hz x1 p8 h
def f_X12_moving_b46 (N : Nat) (D : Dat) : Option (Dat) :=
  (f_X12_wrong D).bind (fun p10 => some p10)
set_option maxHeartbeats 4000000 in
theorem w_X12_moving_b46 {X : Cx} {n nu c u : Nat} {K : Nat → Nat} {N : Nat} {z : Dat} (O : Ok X cX12_moving RX12 none 7 149) (hm : wlm (xw X) = true) (hn : xn X = 3) (hz : Z0 X (Ax nu K c u)) (D : Dat) (h : f_X12_moving_b46 N D = some z) : V X (Q0 X n (Ax nu K c u) none z) n (Ax nu K c u) D 46 [(0, .ref (bo X + pp 207))] [] := by
  unfold f_X12_moving_b46 at h
  refine v_aload_n (pc := 46) O dX12_moving_46 0 rfl ?_
  obtain ⟨p10, e11, h⟩ := bind_some h
  refine v_callV (pc := 47) (a := 207) (As := []) (rest := []) (r := none) (D' := p10) O (bb0 hz) (c_X12_wrong hm e11) mw_X12_wrong im_X12_wrong se_X12_wrong ml_X12_259 kq_207 (by decide) rfl rfl rfl (by decide) (by decide) (Nat.le_of_ble_eq_true rfl) dX12_moving_47 rfl rfl ?_
  obtain rfl := Option.some.inj h
  exact v_ret (pc := 50) O hz dX12_moving_50
def f_X12_moving_b17 (N : Nat) (x1 : Int32) (x2 : Int32) (s0 : Int32) (s1 : Int32) (D : Dat) : Option (Dat) :=
  if s1 < 0 ∨ 128 ≤ (s1).toNatClampNeg then none else (if x2 = 7 then (if (dI (sI D 216 (s1).toNatClampNeg s0) 207 37) = 110 then (if (dI (sI D 216 (s1).toNatClampNeg s0) 207 38) < 0 ∨ 26 ≤ ((dI (sI D 216 (s1).toNatClampNeg s0) 207 38)).toNatClampNeg then none else (if (dI (sI D 216 (s1).toNatClampNeg s0) 229 (dI (sI D 216 (s1).toNatClampNeg s0) 207 38).toNatClampNeg) ≤ 2 then (if x1 < 0 ∨ 128 ≤ (x1).toNatClampNeg then none else (if (dI (sI (sI D 216 (s1).toNatClampNeg s0) 218 (x1).toNatClampNeg (dI (sI D 216 (s1).toNatClampNeg s0) 207 38)) 207 38) < 0 ∨ 26 ≤ ((dI (sI (sI D 216 (s1).toNatClampNeg s0) 218 (x1).toNatClampNeg (dI (sI D 216 (s1).toNatClampNeg s0) 207 38)) 207 38)).toNatClampNeg then none else (if (dI (sI (sI D 216 (s1).toNatClampNeg s0) 218 (x1).toNatClampNeg (dI (sI D 216 (s1).toNatClampNeg s0) 207 38)) 229 (dI (sI (sI D 216 (s1).toNatClampNeg s0) 218 (x1).toNatClampNeg (dI (sI D 216 (s1).toNatClampNeg s0) 207 38)) 207 38).toNatClampNeg) = 0 then (if (dI (sI (sI D 216 (s1).toNatClampNeg s0) 218 (x1).toNatClampNeg (dI (sI D 216 (s1).toNatClampNeg s0) 207 38)) 207 38) < 0 ∨ 26 ≤ ((dI (sI (sI D 216 (s1).toNatClampNeg s0) 218 (x1).toNatClampNeg (dI (sI D 216 (s1).toNatClampNeg s0) 207 38)) 207 38)).toNatClampNeg then none else (f_X12_moving_b83 N x1 (sI (sI (sI D 216 (s1).toNatClampNeg s0) 218 (x1).toNatClampNeg (dI (sI D 216 (s1).toNatClampNeg s0) 207 38)) 229 (dI (sI (sI D 216 (s1).toNatClampNeg s0) 218 (x1).toNatClampNeg (dI (sI D 216 (s1).toNatClampNeg s0) 207 38)) 207 38).toNatClampNeg 1))) else (f_X12_moving_b83 N x1 (sI (sI D 216 (s1).toNatClampNeg s0) 218 (x1).toNatClampNeg (dI (sI D 216 (s1).toNatClampNeg s0) 207 38)))))) else (f_X12_moving_b46 N (sI D 216 (s1).toNatClampNeg s0)))) else (f_X12_moving_b46 N (sI D 216 (s1).toNatClampNeg s0))) else ((f_X12_expression N (sI D 216 (s1).toNatClampNeg s0)).bind (fun p14 => if x1 < 0 ∨ 128 ≤ (x1).toNatClampNeg then none else (f_X12_moving_b100 N x1 (sI p14.2 220 (x1).toNatClampNeg p14.1)))))
set_option maxHeartbeats 4000000 in
theorem w_X12_moving_b17 {X : Cx} {n nu c u : Nat} {K : Nat → Nat} {N : Nat} {z : Dat} (O : Ok X cX12_moving RX12 none 7 149) (hm : wlm (xw X) = true) (hn : xn X = 3) (hz : Z0 X (Ax nu K c u)) (x1 : Int32) (x2 : Int32) (s0 : Int32) (s1 : Int32) (D : Dat) (h : f_X12_moving_b17 N x1 x2 s0 s1 D = some z) : V X (Q0 X n (Ax nu K c u) none z) n (Ax nu K c u) D 17 [(0, .ref (bo X + pp 207)), (1, .int x1), (2, .int x2)] [.int s0, .int s1, .ref (bo X + pp 216)] := by
  unfold f_X12_moving_b17 at h
  obtain ⟨c12, h⟩ := or_none h
  refine v_iast (pc := 17) (a := 216) O kq_216 (inq lq_216 c12) dX12_moving_17 ?_
  refine v_iload_n (pc := 18) O dX12_moving_18 2 rfl ?_
  refine v_bipush (pc := 19) O dX12_moving_19 bp_7 ?_
  refine v_icmpne (pc := 21) 90 O dX12_moving_21 (by decide) (fun c13 => ?_) (fun c13 => ?_)
  · have h := (if_neg c13).symm.trans h
    refine v_aload_n (pc := 90) O dX12_moving_90 0 rfl ?_
    refine v_getK (pc := 91) (a := 207) O hm gf_X12_24 fl_X12_54 kq_207 lk_207_24 dX12_moving_91 ?_
    refine v_iload_n (pc := 94) O dX12_moving_94 1 rfl ?_
    refine v_aload_n (pc := 95) O dX12_moving_95 0 rfl ?_
    obtain ⟨p14, e15, h⟩ := bind_some h
    refine v_callV (pc := 96) (a := 207) (As := []) (rest := [.int x1, .ref (bo X + pp 220)]) (r := (some (.int p14.1))) (D' := p14.2) O (bb0 hz) (c_X12_expression hm e15) mw_X12_expression im_X12_expression se_X12_expression ml_X12_311 kq_207 (by decide) rfl rfl rfl (by decide) (by decide) (Nat.le_of_ble_eq_true rfl) dX12_moving_96 rfl rfl ?_
    obtain ⟨c16, h⟩ := or_none h
    refine v_iast (pc := 99) (a := 220) O kq_220 (inq lq_220 c16) dX12_moving_99 ?_
    refine v_sub [0, 1] rfl ?_
    exact w_X12_moving_b100 O hm hn hz x1 (sI p14.2 220 (x1).toNatClampNeg p14.1) h
  · have h := (if_pos c13).symm.trans h
    refine v_aload_n (pc := 24) O dX12_moving_24 0 rfl ?_
    refine v_getI (pc := 25) (a := 207) O gf_X12_37 fl_X12_229 kq_207 dX12_moving_25 ?_
    refine v_bipush (pc := 28) O dX12_moving_28 bp_110 ?_
    refine v_icmpne (pc := 30) 46 O dX12_moving_30 (by decide) (fun c17 => ?_) (fun c17 => ?_)
    · have h := (if_neg c17).symm.trans h
      refine v_sub [0] rfl ?_
      exact w_X12_moving_b46 O hm hn hz (sI D 216 (s1).toNatClampNeg s0) h
    · have h := (if_pos c17).symm.trans h
      refine v_aload_n (pc := 33) O dX12_moving_33 0 rfl ?_
      refine v_getK (pc := 34) (a := 207) O hm gf_X12_42 fl_X12_81 kq_207 lk_207_42 dX12_moving_34 ?_
      refine v_aload_n (pc := 37) O dX12_moving_37 0 rfl ?_
      refine v_getI (pc := 38) (a := 207) O gf_X12_38 fl_X12_235 kq_207 dX12_moving_38 ?_
      obtain ⟨c18, h⟩ := or_none h
      refine v_iald (pc := 41) (a := 229) O kq_229 (inq lq_229 c18) dX12_moving_41 ?_
      refine v_iconst (pc := 42) O dX12_moving_42 ic_2 ?_
      refine v_icmple (pc := 43) 51 O dX12_moving_43 (by decide) (fun c19 => ?_) (fun c19 => ?_)
      · have h := (if_pos c19).symm.trans h
        refine v_aload_n (pc := 51) O dX12_moving_51 0 rfl ?_
        refine v_getK (pc := 52) (a := 207) O hm gf_X12_22 fl_X12_48 kq_207 lk_207_22 dX12_moving_52 ?_
        refine v_iload_n (pc := 55) O dX12_moving_55 1 rfl ?_
        refine v_aload_n (pc := 56) O dX12_moving_56 0 rfl ?_
        refine v_getI (pc := 57) (a := 207) O gf_X12_38 fl_X12_235 kq_207 dX12_moving_57 ?_
        obtain ⟨c20, h⟩ := or_none h
        refine v_iast (pc := 60) (a := 218) O kq_218 (inq lq_218 c20) dX12_moving_60 ?_
        refine v_aload_n (pc := 61) O dX12_moving_61 0 rfl ?_
        refine v_getK (pc := 62) (a := 207) O hm gf_X12_42 fl_X12_81 kq_207 lk_207_42 dX12_moving_62 ?_
        refine v_aload_n (pc := 65) O dX12_moving_65 0 rfl ?_
        refine v_getI (pc := 66) (a := 207) O gf_X12_38 fl_X12_235 kq_207 dX12_moving_66 ?_
        obtain ⟨c21, h⟩ := or_none h
        refine v_iald (pc := 69) (a := 229) O kq_229 (inq lq_229 c21) dX12_moving_69 ?_
        refine v_ifne (pc := 70) 83 O dX12_moving_70 (by decide) (fun c22 => ?_) (fun c22 => ?_)
        · have h := (if_neg c22).symm.trans h
          refine v_sub [0, 1] rfl ?_
          exact w_X12_moving_b83 O hm hn hz x1 (sI (sI D 216 (s1).toNatClampNeg s0) 218 (x1).toNatClampNeg (dI (sI D 216 (s1).toNatClampNeg s0) 207 38)) h
        · have h := (if_pos c22).symm.trans h
          refine v_aload_n (pc := 73) O dX12_moving_73 0 rfl ?_
          refine v_getK (pc := 74) (a := 207) O hm gf_X12_42 fl_X12_81 kq_207 lk_207_42 dX12_moving_74 ?_
          refine v_aload_n (pc := 77) O dX12_moving_77 0 rfl ?_
          refine v_getI (pc := 78) (a := 207) O gf_X12_38 fl_X12_235 kq_207 dX12_moving_78 ?_
          refine v_iconst (pc := 81) O dX12_moving_81 ic_1 ?_
          obtain ⟨c23, h⟩ := or_none h
          refine v_iast (pc := 82) (a := 229) O kq_229 (inq lq_229 c23) dX12_moving_82 ?_
          refine v_sub [0, 1] rfl ?_
          exact w_X12_moving_b83 O hm hn hz x1 (sI (sI (sI D 216 (s1).toNatClampNeg s0) 218 (x1).toNatClampNeg (dI (sI D 216 (s1).toNatClampNeg s0) 207 38)) 229 (dI (sI (sI D 216 (s1).toNatClampNeg s0) 218 (x1).toNatClampNeg (dI (sI D 216 (s1).toNatClampNeg s0) 207 38)) 207 38).toNatClampNeg 1) h
      · have h := (if_neg c19).symm.trans h
        refine v_sub [0] rfl ?_
        exact w_X12_moving_b46 O hm hn hz (sI D 216 (s1).toNatClampNeg s0) h
def f_X12_moving (N : Nat) (x1 : Int32) (x2 : Int32) (D : Dat) : Option (Dat) :=
  if x2 = 7 then (f_X12_moving_b17 N x1 x2 5 x1 D) else (f_X12_moving_b17 N x1 x2 6 x1 D)
set_option maxHeartbeats 4000000 in
theorem w_X12_moving {X : Cx} {n nu c u : Nat} {K : Nat → Nat} {N : Nat} {z : Dat} (O : Ok X cX12_moving RX12 none 7 149) (hm : wlm (xw X) = true) (hn : xn X = 3) (hz : Z0 X (Ax nu K c u)) (x1 : Int32) (x2 : Int32) (D : Dat) (h : f_X12_moving N x1 x2 D = some z) : V X (Q0 X n (Ax nu K c u) none z) n (Ax nu K c u) D 0 [(0, .ref (bo X + pp 207)), (1, .int x1), (2, .int x2)] [] := by
  unfold f_X12_moving at h
  refine v_aload_n (pc := 0) O dX12_moving_0 0 rfl ?_
  refine v_getK (pc := 1) (a := 207) O hm gf_X12_20 fl_X12_42 kq_207 lk_207_20 dX12_moving_1 ?_
  refine v_iload_n (pc := 4) O dX12_moving_4 1 rfl ?_
  refine v_iload_n (pc := 5) O dX12_moving_5 2 rfl ?_
  refine v_bipush (pc := 6) O dX12_moving_6 bp_7 ?_
  refine v_icmpne (pc := 8) 15 O dX12_moving_8 (by decide) (fun c24 => ?_) (fun c24 => ?_)
  · have h := (if_neg c24).symm.trans h
    refine v_bipush (pc := 15) O dX12_moving_15 bp_6 ?_
    refine v_sub [0, 1, 2] rfl ?_
    exact w_X12_moving_b17 O hm hn hz x1 x2 6 x1 D h
  · have h := (if_pos c24).symm.trans h
    refine v_iconst (pc := 11) O dX12_moving_11 ic_5 ?_
    refine v_goto (pc := 12) 17 O dX12_moving_12 (by decide) ?_
    refine v_sub [0, 1, 2] rfl ?_
    exact w_X12_moving_b17 O hm hn hz x1 x2 5 x1 D h
theorem c_X12_moving {l : Launch} {w : Wx} {n nu c u : Nat} {K : Nat → Nat} {N : Nat} (hm : wlm w = true) {x1 : Int32} {x2 : Int32} {D : Dat} {z : Dat} (h : f_X12_moving N x1 x2 D = some z) : C0 l w yX12_moving cX12_moving 3 none 7 149 [.ref (wb w + pp 207), .int x1, .int x2] n (Ax nu K c u) D none z :=
  C0.of (by decide) (Nat.le_of_ble_eq_true rfl) (fun X e1 e2 e3 hz O => by
  subst e1
  subst e2
  exact w_X12_moving O hm e3 hz x1 x2 D h)
def f_X12_statement_b192 (N : Nat) (D : Dat) : Option (Dat) :=
  some D
set_option maxHeartbeats 4000000 in
theorem w_X12_statement_b192 {X : Cx} {n nu c u : Nat} {K : Nat → Nat} {N : Nat} {z : Dat} (O : Ok X cX12_statement RX12 none 8 171) (hm : wlm (xw X) = true) (hn : xn X = 4) (hz : Z0 X (Ax nu K c u)) (D : Dat) (h : f_X12_statement_b192 N D = some z) : V X (Q0 X n (Ax nu K c u) none z) n (Ax nu K c u) D 192 [] [] := by
  unfold f_X12_statement_b192 at h
  obtain rfl := Option.some.inj h
  exact v_ret (pc := 192) O hz dX12_statement_192
def f_X12_statement_b177 (N : Nat) (D : Dat) : Option (Dat) :=
  (f_X12_expect N 59 D).bind (fun p1 => f_X12_statement_b192 N p1)
set_option maxHeartbeats 4000000 in
theorem w_X12_statement_b177 {X : Cx} {n nu c u : Nat} {K : Nat → Nat} {N : Nat} {z : Dat} (O : Ok X cX12_statement RX12 none 8 171) (hm : wlm (xw X) = true) (hn : xn X = 4) (hz : Z0 X (Ax nu K c u)) (D : Dat) (h : f_X12_statement_b177 N D = some z) : V X (Q0 X n (Ax nu K c u) none z) n (Ax nu K c u) D 177 [(0, .ref (bo X + pp 207))] [] := by
  unfold f_X12_statement_b177 at h
  refine v_aload_n (pc := 177) O dX12_statement_177 0 rfl ?_
  refine v_bipush (pc := 178) O dX12_statement_178 bp_59 ?_
  obtain ⟨p1, e2, h⟩ := bind_some h
  refine v_callV (pc := 180) (a := 207) (As := [.int 59]) (rest := []) (r := none) (D' := p1) O (bb0 hz) (c_X12_expect hm e2) mw_X12_expect im_X12_expect se_X12_expect ml_X12_314 kq_207 (by decide) rfl rfl rfl (by decide) (by decide) (Nat.le_of_ble_eq_true rfl) dX12_statement_180 rfl rfl ?_
  refine v_goto (pc := 183) 192 O dX12_statement_183 (by decide) ?_
  refine v_sub [] rfl ?_
  exact w_X12_statement_b192 O hm hn hz p1 h
def f_X12_statement_b166 (N : Nat) (D : Dat) : Option (Dat) :=
  (f_X12_wrong D).bind (fun p3 => f_X12_statement_b177 N p3)
set_option maxHeartbeats 4000000 in
theorem w_X12_statement_b166 {X : Cx} {n nu c u : Nat} {K : Nat → Nat} {N : Nat} {z : Dat} (O : Ok X cX12_statement RX12 none 8 171) (hm : wlm (xw X) = true) (hn : xn X = 4) (hz : Z0 X (Ax nu K c u)) (D : Dat) (h : f_X12_statement_b166 N D = some z) : V X (Q0 X n (Ax nu K c u) none z) n (Ax nu K c u) D 166 [(0, .ref (bo X + pp 207))] [] := by
  unfold f_X12_statement_b166 at h
  refine v_aload_n (pc := 166) O dX12_statement_166 0 rfl ?_
  obtain ⟨p3, e4, h⟩ := bind_some h
  refine v_callV (pc := 167) (a := 207) (As := []) (rest := []) (r := none) (D' := p3) O (bb0 hz) (c_X12_wrong hm e4) mw_X12_wrong im_X12_wrong se_X12_wrong ml_X12_259 kq_207 (by decide) rfl rfl rfl (by decide) (by decide) (Nat.le_of_ble_eq_true rfl) dX12_statement_167 rfl rfl ?_
  refine v_goto (pc := 170) 177 O dX12_statement_170 (by decide) ?_
  refine v_sub [0] rfl ?_
  exact w_X12_statement_b177 O hm hn hz p3 h
def f_X12_statement_b93 (N : Nat) (x3 : Int32) (s0 : Int32) (s1 : Int32) (D : Dat) : Option (Dat) :=
  if s1 < 0 ∨ 128 ≤ (s1).toNatClampNeg then none else ((f_X12_expression N (sI D 216 (s1).toNatClampNeg s0)).bind (fun p6 => if x3 < 0 ∨ 128 ≤ (x3).toNatClampNeg then none else (if 0 ≤ (dI (sI p6.2 220 (x3).toNatClampNeg p6.1) 207 40) then (f_X12_statement_b192 N (sI p6.2 220 (x3).toNatClampNeg p6.1)) else ((f_X12_block N 2 x3 (sI p6.2 220 (x3).toNatClampNeg p6.1)).bind (fun p10 => f_X12_statement_b192 N p10)))))
set_option maxHeartbeats 4000000 in
theorem w_X12_statement_b93 {X : Cx} {n nu c u : Nat} {K : Nat → Nat} {N : Nat} {z : Dat} (O : Ok X cX12_statement RX12 none 8 171) (hm : wlm (xw X) = true) (hn : xn X = 4) (hz : Z0 X (Ax nu K c u)) (x3 : Int32) (s0 : Int32) (s1 : Int32) (D : Dat) (h : f_X12_statement_b93 N x3 s0 s1 D = some z) : V X (Q0 X n (Ax nu K c u) none z) n (Ax nu K c u) D 93 [(0, .ref (bo X + pp 207)), (3, .int x3)] [.int s0, .int s1, .ref (bo X + pp 216)] := by
  unfold f_X12_statement_b93 at h
  obtain ⟨c5, h⟩ := or_none h
  refine v_iast (pc := 93) (a := 216) O kq_216 (inq lq_216 c5) dX12_statement_93 ?_
  refine v_aload_n (pc := 94) O dX12_statement_94 0 rfl ?_
  refine v_getK (pc := 95) (a := 207) O hm gf_X12_24 fl_X12_54 kq_207 lk_207_24 dX12_statement_95 ?_
  refine v_iload_n (pc := 98) O dX12_statement_98 1 rfl ?_
  refine v_aload_n (pc := 99) O dX12_statement_99 0 rfl ?_
  obtain ⟨p6, e7, h⟩ := bind_some h
  refine v_callV (pc := 100) (a := 207) (As := []) (rest := [.int x3, .ref (bo X + pp 220)]) (r := (some (.int p6.1))) (D' := p6.2) O (bb0 hz) (c_X12_expression hm e7) mw_X12_expression im_X12_expression se_X12_expression ml_X12_311 kq_207 (by decide) rfl rfl rfl (by decide) (by decide) (Nat.le_of_ble_eq_true rfl) dX12_statement_100 rfl rfl ?_
  obtain ⟨c8, h⟩ := or_none h
  refine v_iast (pc := 103) (a := 220) O kq_220 (inq lq_220 c8) dX12_statement_103 ?_
  refine v_aload_n (pc := 104) O dX12_statement_104 0 rfl ?_
  refine v_getI (pc := 105) (a := 207) O gf_X12_40 fl_X12_253 kq_207 dX12_statement_105 ?_
  refine v_ifge (pc := 108) 192 O dX12_statement_108 (by decide) (fun c9 => ?_) (fun c9 => ?_)
  · have h := (if_pos c9).symm.trans h
    refine v_sub [] rfl ?_
    exact w_X12_statement_b192 O hm hn hz (sI p6.2 220 (x3).toNatClampNeg p6.1) h
  · have h := (if_neg c9).symm.trans h
    refine v_aload_n (pc := 111) O dX12_statement_111 0 rfl ?_
    refine v_iconst (pc := 112) O dX12_statement_112 ic_2 ?_
    refine v_iload_n (pc := 113) O dX12_statement_113 1 rfl ?_
    obtain ⟨p10, e11, h⟩ := bind_some h
    refine v_callV (pc := 114) (a := 207) (As := [.int 2, .int x3]) (rest := []) (r := none) (D' := p10) O (bb0 hz) (c_X12_block hm e11) mw_X12_block im_X12_block se_X12_block ml_X12_326 kq_207 (by decide) rfl rfl rfl (by decide) (by decide) (Nat.le_of_ble_eq_true rfl) dX12_statement_114 rfl rfl ?_
    refine v_goto (pc := 117) 192 O dX12_statement_117 (by decide) ?_
    refine v_sub [] rfl ?_
    exact w_X12_statement_b192 O hm hn hz p10 h
def f_X12_statement_b78 (N : Nat) (x2 : Int32) (x3 : Int32) (D : Dat) : Option (Dat) :=
  if x2 = 4 then (f_X12_statement_b93 N x3 3 x3 D) else (f_X12_statement_b93 N x3 4 x3 D)
set_option maxHeartbeats 4000000 in
theorem w_X12_statement_b78 {X : Cx} {n nu c u : Nat} {K : Nat → Nat} {N : Nat} {z : Dat} (O : Ok X cX12_statement RX12 none 8 171) (hm : wlm (xw X) = true) (hn : xn X = 4) (hz : Z0 X (Ax nu K c u)) (x2 : Int32) (x3 : Int32) (D : Dat) (h : f_X12_statement_b78 N x2 x3 D = some z) : V X (Q0 X n (Ax nu K c u) none z) n (Ax nu K c u) D 78 [(0, .ref (bo X + pp 207)), (2, .int x2), (3, .int x3)] [] := by
  unfold f_X12_statement_b78 at h
  refine v_aload_n (pc := 78) O dX12_statement_78 0 rfl ?_
  refine v_getK (pc := 79) (a := 207) O hm gf_X12_20 fl_X12_42 kq_207 lk_207_20 dX12_statement_79 ?_
  refine v_iload_n (pc := 82) O dX12_statement_82 2 rfl ?_
  refine v_iload_n (pc := 83) O dX12_statement_83 1 rfl ?_
  refine v_iconst (pc := 84) O dX12_statement_84 ic_4 ?_
  refine v_icmpne (pc := 85) 92 O dX12_statement_85 (by decide) (fun c12 => ?_) (fun c12 => ?_)
  · have h := (if_neg c12).symm.trans h
    refine v_iconst (pc := 92) O dX12_statement_92 ic_4 ?_
    refine v_sub [0, 2] rfl ?_
    exact w_X12_statement_b93 O hm hn hz x3 4 x3 D h
  · have h := (if_pos c12).symm.trans h
    refine v_iconst (pc := 88) O dX12_statement_88 ic_3 ?_
    refine v_goto (pc := 89) 93 O dX12_statement_89 (by decide) ?_
    refine v_sub [0, 2] rfl ?_
    exact w_X12_statement_b93 O hm hn hz x3 3 x3 D h
def f_X12_statement_b52 (N : Nat) (D : Dat) : Option (Dat) :=
  (f_X12_wrong D).bind (fun p13 => some p13)
set_option maxHeartbeats 4000000 in
theorem w_X12_statement_b52 {X : Cx} {n nu c u : Nat} {K : Nat → Nat} {N : Nat} {z : Dat} (O : Ok X cX12_statement RX12 none 8 171) (hm : wlm (xw X) = true) (hn : xn X = 4) (hz : Z0 X (Ax nu K c u)) (D : Dat) (h : f_X12_statement_b52 N D = some z) : V X (Q0 X n (Ax nu K c u) none z) n (Ax nu K c u) D 52 [(0, .ref (bo X + pp 207))] [] := by
  unfold f_X12_statement_b52 at h
  refine v_aload_n (pc := 52) O dX12_statement_52 0 rfl ?_
  obtain ⟨p13, e14, h⟩ := bind_some h
  refine v_callV (pc := 53) (a := 207) (As := []) (rest := []) (r := none) (D' := p13) O (bb0 hz) (c_X12_wrong hm e14) mw_X12_wrong im_X12_wrong se_X12_wrong ml_X12_259 kq_207 (by decide) rfl rfl rfl (by decide) (by decide) (Nat.le_of_ble_eq_true rfl) dX12_statement_53 rfl rfl ?_
  obtain rfl := Option.some.inj h
  exact v_ret (pc := 56) O hz dX12_statement_56
def f_X12_statement_b41 (N : Nat) (x1 : Int32) (s0 : Int32) (D : Dat) : Option (Dat) :=
  if s0 < 4 then (f_X12_statement_b52 N D) else (if s0 = 5 then (f_X12_statement_b52 N D) else ((f_X12_statementAt x1 D).bind (fun p17 => (f_X12_next N p17.2).bind (fun p19 => if s0 = 4 then (f_X12_statement_b78 N s0 p17.1 p19) else (if s0 = 6 then (f_X12_statement_b78 N s0 p17.1 p19) else (if s0 = 9 then (if p17.1 < 0 ∨ 128 ≤ (p17.1).toNatClampNeg then none else (if p17.1 < 0 ∨ 128 ≤ (p17.1).toNatClampNeg then none else (if (dI (sI (sI p19 216 (p17.1).toNatClampNeg 7) 218 (p17.1).toNatClampNeg (dI (sI p19 216 (p17.1).toNatClampNeg 7) 207 38)) 207 37) = 110 then (if (dI (sI (sI p19 216 (p17.1).toNatClampNeg 7) 218 (p17.1).toNatClampNeg (dI (sI p19 216 (p17.1).toNatClampNeg 7) 207 38)) 207 38) < 0 ∨ 26 ≤ ((dI (sI (sI p19 216 (p17.1).toNatClampNeg 7) 218 (p17.1).toNatClampNeg (dI (sI p19 216 (p17.1).toNatClampNeg 7) 207 38)) 207 38)).toNatClampNeg then none else (if (dI (sI (sI p19 216 (p17.1).toNatClampNeg 7) 218 (p17.1).toNatClampNeg (dI (sI p19 216 (p17.1).toNatClampNeg 7) 207 38)) 229 (dI (sI (sI p19 216 (p17.1).toNatClampNeg 7) 218 (p17.1).toNatClampNeg (dI (sI p19 216 (p17.1).toNatClampNeg 7) 207 38)) 207 38).toNatClampNeg) = 5 then ((f_X12_next N (sI (sI p19 216 (p17.1).toNatClampNeg 7) 218 (p17.1).toNatClampNeg (dI (sI p19 216 (p17.1).toNatClampNeg 7) 207 38))).bind (fun p31 => f_X12_statement_b177 N p31)) else (f_X12_statement_b166 N (sI (sI p19 216 (p17.1).toNatClampNeg 7) 218 (p17.1).toNatClampNeg (dI (sI p19 216 (p17.1).toNatClampNeg 7) 207 38))))) else (f_X12_statement_b166 N (sI (sI p19 216 (p17.1).toNatClampNeg 7) 218 (p17.1).toNatClampNeg (dI (sI p19 216 (p17.1).toNatClampNeg 7) 207 38)))))) else ((f_X12_moving N p17.1 s0 p19).bind (fun p24 => f_X12_statement_b192 N p24))))))))
set_option maxHeartbeats 4000000 in
theorem w_X12_statement_b41 {X : Cx} {n nu c u : Nat} {K : Nat → Nat} {N : Nat} {z : Dat} (O : Ok X cX12_statement RX12 none 8 171) (hm : wlm (xw X) = true) (hn : xn X = 4) (hz : Z0 X (Ax nu K c u)) (x1 : Int32) (s0 : Int32) (D : Dat) (h : f_X12_statement_b41 N x1 s0 D = some z) : V X (Q0 X n (Ax nu K c u) none z) n (Ax nu K c u) D 41 [(0, .ref (bo X + pp 207)), (1, .int x1)] [.int s0] := by
  unfold f_X12_statement_b41 at h
  refine v_istore_n (pc := 41) (lv' := [(2, .int s0), (0, .ref (bo X + pp 207)), (1, .int x1)]) O dX12_statement_41 rfl (by rw [hn]; decide) rfl ?_
  refine v_iload_n (pc := 42) O dX12_statement_42 0 rfl ?_
  refine v_iconst (pc := 43) O dX12_statement_43 ic_4 ?_
  refine v_icmplt (pc := 44) 52 O dX12_statement_44 (by decide) (fun c15 => ?_) (fun c15 => ?_)
  · have h := (if_pos c15).symm.trans h
    refine v_sub [1] rfl ?_
    exact w_X12_statement_b52 O hm hn hz D h
  · have h := (if_neg c15).symm.trans h
    refine v_iload_n (pc := 47) O dX12_statement_47 0 rfl ?_
    refine v_iconst (pc := 48) O dX12_statement_48 ic_5 ?_
    refine v_icmpne (pc := 49) 57 O dX12_statement_49 (by decide) (fun c16 => ?_) (fun c16 => ?_)
    · have h := (if_neg c16).symm.trans h
      refine v_aload_n (pc := 57) O dX12_statement_57 1 rfl ?_
      refine v_iload_n (pc := 58) O dX12_statement_58 2 rfl ?_
      obtain ⟨p17, e18, h⟩ := bind_some h
      refine v_callV (pc := 59) (a := 207) (As := [.int x1]) (rest := []) (r := (some (.int p17.1))) (D' := p17.2) O (bb0 hz) (c_X12_statementAt hm e18) mw_X12_statementAt im_X12_statementAt se_X12_statementAt ml_X12_320 kq_207 (by decide) rfl rfl rfl (by decide) (by decide) (Nat.le_of_ble_eq_true rfl) dX12_statement_59 rfl rfl ?_
      refine v_istore_n (pc := 62) (lv' := [(3, .int p17.1), (2, .int s0), (0, .ref (bo X + pp 207)), (1, .int x1)]) O dX12_statement_62 rfl (by rw [hn]; decide) rfl ?_
      refine v_aload_n (pc := 63) O dX12_statement_63 2 rfl ?_
      obtain ⟨p19, e20, h⟩ := bind_some h
      refine v_callV (pc := 64) (a := 207) (As := []) (rest := []) (r := none) (D' := p19) O (bb0 hz) (c_X12_next hm e20) mw_X12_next im_X12_next se_X12_next ml_X12_256 kq_207 (by decide) rfl rfl rfl (by decide) (by decide) (Nat.le_of_ble_eq_true rfl) dX12_statement_64 rfl rfl ?_
      refine v_iload_n (pc := 67) O dX12_statement_67 1 rfl ?_
      refine v_iconst (pc := 68) O dX12_statement_68 ic_4 ?_
      refine v_icmpeq (pc := 69) 78 O dX12_statement_69 (by decide) (fun c21 => ?_) (fun c21 => ?_)
      · have h := (if_pos c21).symm.trans h
        refine v_sub [2, 1, 0] rfl ?_
        exact w_X12_statement_b78 O hm hn hz s0 p17.1 p19 h
      · have h := (if_neg c21).symm.trans h
        refine v_iload_n (pc := 72) O dX12_statement_72 1 rfl ?_
        refine v_bipush (pc := 73) O dX12_statement_73 bp_6 ?_
        refine v_icmpne (pc := 75) 120 O dX12_statement_75 (by decide) (fun c22 => ?_) (fun c22 => ?_)
        · have h := (if_neg c22).symm.trans h
          refine v_iload_n (pc := 120) O dX12_statement_120 1 rfl ?_
          refine v_bipush (pc := 121) O dX12_statement_121 bp_9 ?_
          refine v_icmpne (pc := 123) 186 O dX12_statement_123 (by decide) (fun c23 => ?_) (fun c23 => ?_)
          · have h := (if_neg c23).symm.trans h
            refine v_aload_n (pc := 186) O dX12_statement_186 2 rfl ?_
            refine v_iload_n (pc := 187) O dX12_statement_187 0 rfl ?_
            refine v_iload_n (pc := 188) O dX12_statement_188 1 rfl ?_
            obtain ⟨p24, e25, h⟩ := bind_some h
            refine v_callV (pc := 189) (a := 207) (As := [.int p17.1, .int s0]) (rest := []) (r := none) (D' := p24) O (bb0 hz) (c_X12_moving hm e25) mw_X12_moving im_X12_moving se_X12_moving ml_X12_329 kq_207 (by decide) rfl rfl rfl (by decide) (by decide) (Nat.le_of_ble_eq_true rfl) dX12_statement_189 rfl rfl ?_
            refine v_sub [] rfl ?_
            exact w_X12_statement_b192 O hm hn hz p24 h
          · have h := (if_pos c23).symm.trans h
            refine v_aload_n (pc := 126) O dX12_statement_126 2 rfl ?_
            refine v_getK (pc := 127) (a := 207) O hm gf_X12_20 fl_X12_42 kq_207 lk_207_20 dX12_statement_127 ?_
            refine v_iload_n (pc := 130) O dX12_statement_130 0 rfl ?_
            refine v_bipush (pc := 131) O dX12_statement_131 bp_7 ?_
            obtain ⟨c26, h⟩ := or_none h
            refine v_iast (pc := 133) (a := 216) O kq_216 (inq lq_216 c26) dX12_statement_133 ?_
            refine v_aload_n (pc := 134) O dX12_statement_134 2 rfl ?_
            refine v_getK (pc := 135) (a := 207) O hm gf_X12_22 fl_X12_48 kq_207 lk_207_22 dX12_statement_135 ?_
            refine v_iload_n (pc := 138) O dX12_statement_138 0 rfl ?_
            refine v_aload_n (pc := 139) O dX12_statement_139 2 rfl ?_
            refine v_getI (pc := 140) (a := 207) O gf_X12_38 fl_X12_235 kq_207 dX12_statement_140 ?_
            obtain ⟨c27, h⟩ := or_none h
            refine v_iast (pc := 143) (a := 218) O kq_218 (inq lq_218 c27) dX12_statement_143 ?_
            refine v_aload_n (pc := 144) O dX12_statement_144 2 rfl ?_
            refine v_getI (pc := 145) (a := 207) O gf_X12_37 fl_X12_229 kq_207 dX12_statement_145 ?_
            refine v_bipush (pc := 148) O dX12_statement_148 bp_110 ?_
            refine v_icmpne (pc := 150) 166 O dX12_statement_150 (by decide) (fun c28 => ?_) (fun c28 => ?_)
            · have h := (if_neg c28).symm.trans h
              refine v_sub [2] rfl ?_
              exact w_X12_statement_b166 O hm hn hz (sI (sI p19 216 (p17.1).toNatClampNeg 7) 218 (p17.1).toNatClampNeg (dI (sI p19 216 (p17.1).toNatClampNeg 7) 207 38)) h
            · have h := (if_pos c28).symm.trans h
              refine v_aload_n (pc := 153) O dX12_statement_153 2 rfl ?_
              refine v_getK (pc := 154) (a := 207) O hm gf_X12_42 fl_X12_81 kq_207 lk_207_42 dX12_statement_154 ?_
              refine v_aload_n (pc := 157) O dX12_statement_157 2 rfl ?_
              refine v_getI (pc := 158) (a := 207) O gf_X12_38 fl_X12_235 kq_207 dX12_statement_158 ?_
              obtain ⟨c29, h⟩ := or_none h
              refine v_iald (pc := 161) (a := 229) O kq_229 (inq lq_229 c29) dX12_statement_161 ?_
              refine v_iconst (pc := 162) O dX12_statement_162 ic_5 ?_
              refine v_icmpeq (pc := 163) 173 O dX12_statement_163 (by decide) (fun c30 => ?_) (fun c30 => ?_)
              · have h := (if_pos c30).symm.trans h
                refine v_aload_n (pc := 173) O dX12_statement_173 2 rfl ?_
                obtain ⟨p31, e32, h⟩ := bind_some h
                refine v_callV (pc := 174) (a := 207) (As := []) (rest := []) (r := none) (D' := p31) O (bb0 hz) (c_X12_next hm e32) mw_X12_next im_X12_next se_X12_next ml_X12_256 kq_207 (by decide) rfl rfl rfl (by decide) (by decide) (Nat.le_of_ble_eq_true rfl) dX12_statement_174 rfl rfl ?_
                refine v_sub [2] rfl ?_
                exact w_X12_statement_b177 O hm hn hz p31 h
              · have h := (if_neg c30).symm.trans h
                refine v_sub [2] rfl ?_
                exact w_X12_statement_b166 O hm hn hz (sI (sI p19 216 (p17.1).toNatClampNeg 7) 218 (p17.1).toNatClampNeg (dI (sI p19 216 (p17.1).toNatClampNeg 7) 207 38)) h
        · have h := (if_pos c22).symm.trans h
          refine v_sub [2, 1, 0] rfl ?_
          exact w_X12_statement_b78 O hm hn hz s0 p17.1 p19 h
    · have h := (if_pos c16).symm.trans h
      refine v_sub [1] rfl ?_
      exact w_X12_statement_b52 O hm hn hz D h
def f_X12_statement (N : Nat) (D : Dat) : Option (Dat) :=
  if (dI D 207 37) = 110 then ((f_X12_statementAt (dI D 207 39) D).bind (fun p35 => (f_X12_named N p35.1 p35.2).bind (fun p37 => some p37))) else (if (dI D 207 37) = 107 then (f_X12_statement_b41 N (dI D 207 39) (dI D 207 38) D) else (f_X12_statement_b41 N (dI D 207 39) 0 D))
set_option maxHeartbeats 4000000 in
theorem w_X12_statement {X : Cx} {n nu c u : Nat} {K : Nat → Nat} {N : Nat} {z : Dat} (O : Ok X cX12_statement RX12 none 8 171) (hm : wlm (xw X) = true) (hn : xn X = 4) (hz : Z0 X (Ax nu K c u)) (D : Dat) (h : f_X12_statement N D = some z) : V X (Q0 X n (Ax nu K c u) none z) n (Ax nu K c u) D 0 [(0, .ref (bo X + pp 207))] [] := by
  unfold f_X12_statement at h
  refine v_aload_n (pc := 0) O dX12_statement_0 0 rfl ?_
  refine v_getI (pc := 1) (a := 207) O gf_X12_39 fl_X12_241 kq_207 dX12_statement_1 ?_
  refine v_istore_n (pc := 4) (lv' := [(1, .int (dI D 207 39)), (0, .ref (bo X + pp 207))]) O dX12_statement_4 rfl (by rw [hn]; decide) rfl ?_
  refine v_aload_n (pc := 5) O dX12_statement_5 1 rfl ?_
  refine v_getI (pc := 6) (a := 207) O gf_X12_37 fl_X12_229 kq_207 dX12_statement_6 ?_
  refine v_bipush (pc := 9) O dX12_statement_9 bp_110 ?_
  refine v_icmpne (pc := 11) 24 O dX12_statement_11 (by decide) (fun c33 => ?_) (fun c33 => ?_)
  · have h := (if_neg c33).symm.trans h
    refine v_aload_n (pc := 24) O dX12_statement_24 1 rfl ?_
    refine v_getI (pc := 25) (a := 207) O gf_X12_37 fl_X12_229 kq_207 dX12_statement_25 ?_
    refine v_bipush (pc := 28) O dX12_statement_28 bp_107 ?_
    refine v_icmpne (pc := 30) 40 O dX12_statement_30 (by decide) (fun c34 => ?_) (fun c34 => ?_)
    · have h := (if_neg c34).symm.trans h
      refine v_iconst (pc := 40) O dX12_statement_40 ic_0 ?_
      refine v_sub [1, 0] rfl ?_
      exact w_X12_statement_b41 O hm hn hz (dI D 207 39) 0 D h
    · have h := (if_pos c34).symm.trans h
      refine v_aload_n (pc := 33) O dX12_statement_33 1 rfl ?_
      refine v_getI (pc := 34) (a := 207) O gf_X12_38 fl_X12_235 kq_207 dX12_statement_34 ?_
      refine v_goto (pc := 37) 41 O dX12_statement_37 (by decide) ?_
      refine v_sub [1, 0] rfl ?_
      exact w_X12_statement_b41 O hm hn hz (dI D 207 39) (dI D 207 38) D h
  · have h := (if_pos c33).symm.trans h
    refine v_aload_n (pc := 14) O dX12_statement_14 1 rfl ?_
    refine v_aload_n (pc := 15) O dX12_statement_15 1 rfl ?_
    refine v_iload_n (pc := 16) O dX12_statement_16 0 rfl ?_
    obtain ⟨p35, e36, h⟩ := bind_some h
    refine v_callV (pc := 17) (a := 207) (As := [.int (dI D 207 39)]) (rest := [.ref (bo X + pp 207)]) (r := (some (.int p35.1))) (D' := p35.2) O (bb0 hz) (c_X12_statementAt hm e36) mw_X12_statementAt im_X12_statementAt se_X12_statementAt ml_X12_320 kq_207 (by decide) rfl rfl rfl (by decide) (by decide) (Nat.le_of_ble_eq_true rfl) dX12_statement_17 rfl rfl ?_
    obtain ⟨p37, e38, h⟩ := bind_some h
    refine v_callV (pc := 20) (a := 207) (As := [.int p35.1]) (rest := []) (r := none) (D' := p37) O (bb0 hz) (c_X12_named hm e38) mw_X12_named im_X12_named se_X12_named ml_X12_323 kq_207 (by decide) rfl rfl rfl (by decide) (by decide) (Nat.le_of_ble_eq_true rfl) dX12_statement_20 rfl rfl ?_
    obtain rfl := Option.some.inj h
    exact v_ret (pc := 23) O hz dX12_statement_23
theorem c_X12_statement {l : Launch} {w : Wx} {n nu c u : Nat} {K : Nat → Nat} {N : Nat} (hm : wlm w = true) {D : Dat} {z : Dat} (h : f_X12_statement N D = some z) : C0 l w yX12_statement cX12_statement 4 none 8 171 [.ref (wb w + pp 207)] n (Ax nu K c u) D none z :=
  C0.of (by decide) (Nat.le_of_ble_eq_true rfl) (fun X e1 e2 e3 hz O => by
  subst e1
  subst e2
  exact w_X12_statement O hm e3 hz  D h)
