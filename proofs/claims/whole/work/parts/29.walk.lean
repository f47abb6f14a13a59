theorem kq_106 {nu c u : Nat} {K : Nat → Nat} : (Ax nu K c u).1 106 = 8 := kd_lt (K := K) (a := 106) (by decide) rfl
theorem cw_X12_round : Cond.code yX12_round cX12_round 2 (some .int) ∈ tb := tb_of 2346 (by decide +kernel) (by decide +kernel)
theorem mw_X12_round : MW yX12_round cX12_round 2 (some .int) 1 := ⟨cw_X12_round, ini_X12, by decide +kernel⟩
theorem im_X12_round : Cond.instanceMethod yX12_round ∈ tb := tb_of 2345 (by decide +kernel) (by decide +kernel)
theorem se_X12_round : Cond.selects (yX12_round).cls yX12_round yX12_round ∈ tb := tb_of 161 (by decide +kernel) (by decide +kernel)
theorem ml_X12_502 : Cond.methodLink RX12 502 yX12_round ∈ tb := tb_of 2343 (by decide +kernel) (by decide +kernel)
theorem ini_X4 : Cond.initialized RX4 ∈ tb := tb_of 174 (by decide +kernel) (by decide +kernel)
theorem fl_X1_31 : Cond.fieldLink RX1 31 RX1 (TX1 1).2.1 (TX1 1).2.2.1 ∈ tb := tb_of 275 (by decide +kernel) (by decide +kernel)
theorem gf_X1_1 : FI 1 RX1 TX1 6 tyX1 1 2 := ⟨rfl, inb_X1, tyX1_ok, nmX1, by decide, by decide, rfl, rfl, rfl⟩
theorem inb_X7 : ∀ w ∈ u_ws RX7 TX7 10, w ∈ tb := by decide +kernel
theorem fl_X1_9 : Cond.fieldLink RX1 9 RX1 (TX1 2).2.1 (TX1 2).2.2.1 ∈ tb := tb_of 276 (by decide +kernel) (by decide +kernel)
theorem gf_X1_2 : FI 1 RX1 TX1 6 tyX1 2 3 := ⟨rfl, inb_X1, tyX1_ok, nmX1, by decide, by decide, rfl, rfl, rfl⟩
theorem lk_6_2 : lks 6 2 = some 7 := by decide +kernel
theorem kq_7 {nu c u : Nat} {K : Nat → Nat} : (Ax nu K c u).1 7 = 14 := kd_lt (K := K) (a := 7) (by decide) rfl
theorem lq_7 {nu c u : Nat} {K : Nat → Nat} : (Ax nu K c u).2.1 7 = 26 := rfl
theorem fl_X1_23 : Cond.fieldLink RX1 23 RX1 (TX1 0).2.1 (TX1 0).2.2.1 ∈ tb := tb_of 274 (by decide +kernel) (by decide +kernel)
theorem gf_X1_0 : FI 1 RX1 TX1 6 tyX1 0 3 := ⟨rfl, inb_X1, tyX1_ok, nmX1, by decide, by decide, rfl, rfl, rfl⟩
theorem lk_6_0 : lks 6 0 = some 1 := by decide +kernel
theorem fl_X1_115 : Cond.fieldLink RX1 115 RX7 (TX7 4).2.1 (TX7 4).2.2.1 ∈ tb := tb_of 1034 (by decide +kernel) (by decide +kernel)
theorem gf_X7_4 : FI 7 RX7 TX7 10 tyX7 4 0 := ⟨rfl, inb_X7, tyX7_ok, nmX7, by decide, by decide, rfl, rfl, rfl⟩
theorem fl_X1_118 : Cond.fieldLink RX1 118 RX7 (TX7 5).2.1 (TX7 5).2.2.1 ∈ tb := tb_of 1038 (by decide +kernel) (by decide +kernel)
theorem gf_X7_5 : FI 7 RX7 TX7 10 tyX7 5 0 := ⟨rfl, inb_X7, tyX7_ok, nmX7, by decide, by decide, rfl, rfl, rfl⟩
theorem cw_X4_argument : Cond.code yX4_argument cX4_argument 2 (some .int) ∈ tb := tb_of 1176 (by decide +kernel) (by decide +kernel)
theorem mw_X4_argument : MW yX4_argument cX4_argument 2 (some .int) 1 := ⟨cw_X4_argument, ini_X4, by decide +kernel⟩
theorem im_X4_argument : Cond.instanceMethod yX4_argument ∈ tb := tb_of 1174 (by decide +kernel) (by decide +kernel)
theorem se_X4_argument : Cond.selects (yX4_argument).cls yX4_argument yX4_argument ∈ tb := tb_of 1175 (by decide +kernel) (by decide +kernel)
theorem ml_X1_121 : Cond.methodLink RX1 121 yX4_argument ∈ tb := tb_of 1173 (by decide +kernel) (by decide +kernel)
theorem cw_X4_operation : Cond.code yX4_operation cX4_operation 2 (some .int) ∈ tb := tb_of 1180 (by decide +kernel) (by decide +kernel)
theorem mw_X4_operation : MW yX4_operation cX4_operation 2 (some .int) 1 := ⟨cw_X4_operation, ini_X4, by decide +kernel⟩
theorem im_X4_operation : Cond.instanceMethod yX4_operation ∈ tb := tb_of 1178 (by decide +kernel) (by decide +kernel)
theorem se_X4_operation : Cond.selects (yX4_operation).cls yX4_operation yX4_operation ∈ tb := tb_of 1179 (by decide +kernel) (by decide +kernel)
theorem ml_X1_124 : Cond.methodLink RX1 124 yX4_operation ∈ tb := tb_of 1177 (by decide +kernel) (by decide +kernel)
theorem cw_X4_rowMark : Cond.code yX4_rowMark cX4_rowMark 2 (some .int) ∈ tb := tb_of 1184 (by decide +kernel) (by decide +kernel)
theorem mw_X4_rowMark : MW yX4_rowMark cX4_rowMark 2 (some .int) 1 := ⟨cw_X4_rowMark, ini_X4, by decide +kernel⟩
theorem im_X4_rowMark : Cond.instanceMethod yX4_rowMark ∈ tb := tb_of 1182 (by decide +kernel) (by decide +kernel)
theorem se_X4_rowMark : Cond.selects (yX4_rowMark).cls yX4_rowMark yX4_rowMark ∈ tb := tb_of 1183 (by decide +kernel) (by decide +kernel)
theorem ml_X1_69 : Cond.methodLink RX1 69 yX4_rowMark ∈ tb := tb_of 1181 (by decide +kernel) (by decide +kernel)
theorem ml_X1_41 : Cond.methodLink RX1 41 yX2_shade ∈ tb := tb_of 1161 (by decide +kernel) (by decide +kernel)
theorem kq_3 {nu c u : Nat} {K : Nat → Nat} : (Ax nu K c u).1 3 = 5 := kd_lt (K := K) (a := 3) (by decide) rfl
theorem fl_X5_23 : Cond.fieldLink RX5 23 RX5 (TX5 2).2.1 (TX5 2).2.2.1 ∈ tb := tb_of 236 (by decide +kernel) (by decide +kernel)
theorem inb_X5 : ∀ w ∈ u_ws RX5 TX5 10, w ∈ tb := by decide +kernel
theorem gf_X5_2 : FI 5 RX5 TX5 10 tyX5 2 0 := ⟨rfl, inb_X5, tyX5_ok, nmX5, by decide, by decide, rfl, rfl, rfl⟩
theorem fl_X5_27 : Cond.fieldLink RX5 27 RX5 (TX5 7).2.1 (TX5 7).2.2.1 ∈ tb := tb_of 241 (by decide +kernel) (by decide +kernel)
theorem gf_X5_7 : FI 5 RX5 TX5 10 tyX5 7 0 := ⟨rfl, inb_X5, tyX5_ok, nmX5, by decide, by decide, rfl, rfl, rfl⟩
theorem pf_X5_2 : PI 5 RX5 TX5 10 tyX5 2 0 .int := ⟨gf_X5_2, rfl, rfl⟩
theorem cl_X5_30 : Cond.constantLong RX5 30 (255) ∈ tb := tb_of 752 (by decide +kernel) (by decide +kernel)
theorem cl_X5_32 : Cond.constantLong RX5 32 (32) ∈ tb := tb_of 753 (by decide +kernel) (by decide +kernel)
theorem cl_X5_34 : Cond.constantLong RX5 34 (126) ∈ tb := tb_of 754 (by decide +kernel) (by decide +kernel)
theorem fl_X5_9 : Cond.fieldLink RX5 9 RX5 (TX5 1).2.1 (TX5 1).2.2.1 ∈ tb := tb_of 235 (by decide +kernel) (by decide +kernel)
theorem gf_X5_1 : FI 5 RX5 TX5 10 tyX5 1 3 := ⟨rfl, inb_X5, tyX5_ok, nmX5, by decide, by decide, rfl, rfl, rfl⟩
theorem lk_3_1 : lks 3 1 = some 4 := by decide +kernel
theorem kq_4 {nu c u : Nat} {K : Nat → Nat} : (Ax nu K c u).1 4 = 13 := kd_lt (K := K) (a := 4) (by decide) rfl
theorem lq_4 {nu c u : Nat} {K : Nat → Nat} : (Ax nu K c u).2.1 4 = 240 := rfl
theorem fl_X5_15 : Cond.fieldLink RX5 15 RX5 (TX5 3).2.1 (TX5 3).2.2.1 ∈ tb := tb_of 237 (by decide +kernel) (by decide +kernel)
theorem gf_X5_3 : FI 5 RX5 TX5 10 tyX5 3 3 := ⟨rfl, inb_X5, tyX5_ok, nmX5, by decide, by decide, rfl, rfl, rfl⟩
theorem lk_3_3 : lks 3 3 = some 5 := by decide +kernel
theorem kq_5 {nu c u : Nat} {K : Nat → Nat} : (Ax nu K c u).1 5 = 14 := kd_lt (K := K) (a := 5) (by decide) rfl
theorem lq_5 {nu c u : Nat} {K : Nat → Nat} : (Ax nu K c u).2.1 5 = 26 := rfl
theorem fl_X5_54 : Cond.fieldLink RX5 54 RX5 (TX5 8).2.1 (TX5 8).2.2.1 ∈ tb := tb_of 242 (by decide +kernel) (by decide +kernel)
theorem gf_X5_8 : FI 5 RX5 TX5 10 tyX5 8 0 := ⟨rfl, inb_X5, tyX5_ok, nmX5, by decide, by decide, rfl, rfl, rfl⟩
theorem fl_X5_120 : Cond.fieldLink RX5 120 RX5 (TX5 6).2.1 (TX5 6).2.2.1 ∈ tb := tb_of 240 (by decide +kernel) (by decide +kernel)
theorem gf_X5_6 : FI 5 RX5 TX5 10 tyX5 6 0 := ⟨rfl, inb_X5, tyX5_ok, nmX5, by decide, by decide, rfl, rfl, rfl⟩
theorem fl_X5_216 : Cond.fieldLink RX5 216 RX5 (TX5 9).2.1 (TX5 9).2.2.1 ∈ tb := tb_of 243 (by decide +kernel) (by decide +kernel)
theorem gf_X5_9 : FI 5 RX5 TX5 10 tyX5 9 0 := ⟨rfl, inb_X5, tyX5_ok, nmX5, by decide, by decide, rfl, rfl, rfl⟩
theorem inb_X8 : ∀ w ∈ u_ws RX8 TX8 3, w ∈ tb := by decide +kernel
theorem fl_X8_15 : Cond.fieldLink RX8 15 RX8 (TX8 1).2.1 (TX8 1).2.2.1 ∈ tb := tb_of 300 (by decide +kernel) (by decide +kernel)
theorem gf_X8_1 : FI 8 RX8 TX8 3 tyX8 1 2 := ⟨rfl, inb_X8, tyX8_ok, nmX8, by decide, by decide, rfl, rfl, rfl⟩
theorem fl_X8_24 : Cond.fieldLink RX8 24 RX8 (TX8 2).2.1 (TX8 2).2.2.1 ∈ tb := tb_of 301 (by decide +kernel) (by decide +kernel)
theorem gf_X8_2 : FI 8 RX8 TX8 3 tyX8 2 0 := ⟨rfl, inb_X8, tyX8_ok, nmX8, by decide, by decide, rfl, rfl, rfl⟩
theorem pf_X8_2 : PI 8 RX8 TX8 3 tyX8 2 0 .boolean := ⟨gf_X8_2, rfl, rfl⟩
theorem ml_X8_74 : Cond.methodLink RX8 74 yX0_size ∈ tb := tb_of 1244 (by decide +kernel) (by decide +kernel)
theorem cw_X0_add : Cond.code yX0_add cX0_add 3 none ∈ tb := tb_of 1248 (by decide +kernel) (by decide +kernel)
theorem mw_X0_add : MW yX0_add cX0_add 3 none 2 := ⟨cw_X0_add, ini_X0, by decide +kernel⟩
theorem im_X0_add : Cond.instanceMethod yX0_add ∈ tb := tb_of 1246 (by decide +kernel) (by decide +kernel)
theorem se_X0_add : Cond.selects (yX0_add).cls yX0_add yX0_add ∈ tb := tb_of 1247 (by decide +kernel) (by decide +kernel)
theorem ml_X8_103 : Cond.methodLink RX8 103 yX0_add ∈ tb := tb_of 1245 (by decide +kernel) (by decide +kernel)
def f_X1_shadeOf_b93 (N : Nat) (nu : Nat) (K : Nat → Nat) (rec_7 : Option Nat → Int32 → Int32 → Dat → Option (Int32 × Dat)) (x1 : Option Nat) (x2 : Int32) (x3 : Int32) (D : Dat) : Option (Int32 × Dat) :=
  rec_7 x1 x2 (x3 + 1) D
set_option maxHeartbeats 4000000 in
theorem w_X1_shadeOf_b93 {X : Cx} {n nu c u : Nat} {K : Nat → Nat} {N : Nat} {rec_7 : Option Nat → Int32 → Int32 → Dat → Option (Int32 × Dat)} {z : Int32 × Dat} (O : Ok X cX1_shadeOf RX1 (some .int) 2 42) (hm : wlm (xw X) = true) (hn : xn X = 5) (hz : Z0 X (Ax nu K c u)) (hrec_7 : ∀ (x1 : Option Nat) (x2 : Int32) (x3 : Int32) (D : Dat), rec_7 x1 x2 x3 D = some z → V X (Q0 X n (Ax nu K c u) (some (.int z.1)) z.2) n (Ax nu K c u) D 7 [(0, .ref (bo X + 6)), (1, rv (bo X) x1), (2, .int x2), (3, .int x3)] []) (x1 : Option Nat) (x2 : Int32) (x3 : Int32) (D : Dat) (h : f_X1_shadeOf_b93 N nu K rec_7 x1 x2 x3 D = some z) : V X (Q0 X n (Ax nu K c u) (some (.int z.1)) z.2) n (Ax nu K c u) D 93 [(0, .ref (bo X + 6)), (1, rv (bo X) x1), (2, .int x2), (3, .int x3)] [] := by
  unfold f_X1_shadeOf_b93 at h
  refine v_iinc (pc := 93) (lv' := [(3, .int (x3 + 1)), (0, .ref (bo X + 6)), (1, rv (bo X) x1), (2, .int x2)]) O dX1_shadeOf_93 3 rfl (congrArg (fun q => x3 + q) ic_1) (by rw [hn]; decide) rfl ?_
  refine v_goto (pc := 96) 7 O dX1_shadeOf_96 (by decide) ?_
  refine v_sub [1, 2, 3, 0] rfl ?_
  exact hrec_7 x1 x2 (x3 + 1) D h
def f_X1_shadeOf_b62 (N : Nat) (nu : Nat) (K : Nat → Nat) (rec_7 : Option Nat → Int32 → Int32 → Dat → Option (Int32 × Dat)) (x1 : Option Nat) (x2 : Int32) (x3 : Int32) (x4 : Int32) (D : Dat) : Option (Int32 × Dat) :=
  ((dR D 6 1)).bind (fun a1 => if a1 = 191 ∨ a1 = 196 then ((f_X4_operation a1 x3 D).bind (fun p4 => if p4.1 = 3 then (((dR p4.2 6 1)).bind (fun a7 => if a7 = 191 ∨ a7 = 196 then ((f_X4_rowMark a7 x4 p4.2).bind (fun p10 => (f_X2_shade nu K p10.1 p10.2).bind (fun p12 => f_X1_shadeOf_b93 N nu K rec_7 x1 (x2 ||| p12.1) x3 p12.2))) else none)) else (f_X1_shadeOf_b93 N nu K rec_7 x1 x2 x3 p4.2))) else none)
set_option maxHeartbeats 4000000 in
theorem w_X1_shadeOf_b62 {X : Cx} {n nu c u : Nat} {K : Nat → Nat} {N : Nat} {rec_7 : Option Nat → Int32 → Int32 → Dat → Option (Int32 × Dat)} {z : Int32 × Dat} (O : Ok X cX1_shadeOf RX1 (some .int) 2 42) (hm : wlm (xw X) = true) (hn : xn X = 5) (hz : Z0 X (Ax nu K c u)) (hrec_7 : ∀ (x1 : Option Nat) (x2 : Int32) (x3 : Int32) (D : Dat), rec_7 x1 x2 x3 D = some z → V X (Q0 X n (Ax nu K c u) (some (.int z.1)) z.2) n (Ax nu K c u) D 7 [(0, .ref (bo X + 6)), (1, rv (bo X) x1), (2, .int x2), (3, .int x3)] []) (x1 : Option Nat) (x2 : Int32) (x3 : Int32) (x4 : Int32) (D : Dat) (h : f_X1_shadeOf_b62 N nu K rec_7 x1 x2 x3 x4 D = some z) : V X (Q0 X n (Ax nu K c u) (some (.int z.1)) z.2) n (Ax nu K c u) D 62 [(0, .ref (bo X + 6)), (1, rv (bo X) x1), (2, .int x2), (3, .int x3), (4, .int x4)] [] := by
  unfold f_X1_shadeOf_b62 at h
  refine v_aload_n (pc := 62) O dX1_shadeOf_62 0 rfl ?_
  refine v_getR (pc := 63) (a := 6) O gf_X1_1 fl_X1_31 kq_6 dX1_shadeOf_63 ?_
  refine v_iload_n (pc := 66) O dX1_shadeOf_66 3 rfl ?_
  obtain ⟨a1, e2, h⟩ := bind_some h
  rw [e2]
  obtain ⟨c3, h⟩ := if_none h
  obtain ⟨p4, e5, h⟩ := bind_some h
  refine v_callV (pc := 67) (a := a1) (As := [.int x3]) (rest := []) (r := (some (.int p4.1))) (D' := p4.2) O (bb0 hz) (c_X4_operation hm c3 e5) mw_X4_operation im_X4_operation se_X4_operation ml_X1_124 (kt_X4 c3) (by decide) rfl rfl rfl (by decide) (by decide) (Nat.le_of_ble_eq_true rfl) dX1_shadeOf_67 rfl rfl ?_
  refine v_iconst (pc := 70) O dX1_shadeOf_70 ic_3 ?_
  refine v_icmpne (pc := 71) 93 O dX1_shadeOf_71 (by decide) (fun c6 => ?_) (fun c6 => ?_)
  · have h := (if_neg c6).symm.trans h
    refine v_sub [0, 1, 2, 3] rfl ?_
    exact w_X1_shadeOf_b93 O hm hn hz hrec_7 x1 x2 x3 p4.2 h
  · have h := (if_pos c6).symm.trans h
    refine v_iload_n (pc := 74) O dX1_shadeOf_74 2 rfl ?_
    refine v_aload_n (pc := 75) O dX1_shadeOf_75 0 rfl ?_
    refine v_getK (pc := 76) (a := 6) O hm gf_X1_0 fl_X1_23 kq_6 lk_6_0 dX1_shadeOf_76 ?_
    refine v_aload_n (pc := 79) O dX1_shadeOf_79 0 rfl ?_
    refine v_getR (pc := 80) (a := 6) O gf_X1_1 fl_X1_31 kq_6 dX1_shadeOf_80 ?_
    refine v_iload (pc := 83) O dX1_shadeOf_83 4 rfl ?_
    obtain ⟨a7, e8, h⟩ := bind_some h
    rw [e8]
    obtain ⟨c9, h⟩ := if_none h
    obtain ⟨p10, e11, h⟩ := bind_some h
    refine v_callV (pc := 85) (a := a7) (As := [.int x4]) (rest := [.ref (bo X + 1), .int x2]) (r := (some (.int p10.1))) (D' := p10.2) O (bb0 hz) (c_X4_rowMark hm c9 e11) mw_X4_rowMark im_X4_rowMark se_X4_rowMark ml_X1_69 (kt_X4 c9) (by decide) rfl rfl rfl (by decide) (by decide) (Nat.le_of_ble_eq_true rfl) dX1_shadeOf_85 rfl rfl ?_
    obtain ⟨p12, e13, h⟩ := bind_some h
    refine v_callV (pc := 88) (a := 1) (As := [.int p10.1]) (rest := [.int x2]) (r := (some (.int p12.1))) (D' := p12.2) O (bb0 hz) (c_X2_shade hm e13) mw_X2_shade im_X2_shade se_X2_shade ml_X1_41 kq_1 (by decide) rfl rfl rfl (by decide) (by decide) (Nat.le_of_ble_eq_true rfl) dX1_shadeOf_88 rfl rfl ?_
    refine v_ior (pc := 91) O dX1_shadeOf_91 ?_
    refine v_istore_n (pc := 92) (lv' := [(2, .int (x2 ||| p12.1)), (0, .ref (bo X + 6)), (1, rv (bo X) x1), (3, .int x3), (4, .int x4)]) O dX1_shadeOf_92 rfl (by rw [hn]; decide) (by simp [rv_cat, Value.category]) ?_
    refine v_sub [1, 2, 0, 3] rfl ?_
    exact w_X1_shadeOf_b93 O hm hn hz hrec_7 x1 (x2 ||| p12.1) x3 p12.2 h
def f_X1_shadeOf_b7 (N : Nat) (nu : Nat) (K : Nat → Nat) : Nat → Option Nat → Int32 → Int32 → Dat → Option (Int32 × Dat)
  | 0, _, _, _, _ => none
  | g + 1, x1, x2, x3, D => (x1).bind (fun a14 => if kd K a14 = 7 then (if (dI D a14 5) ≤ x3 then (some (x2, D)) else (((dR D 6 1)).bind (fun a18 => if a18 = 191 ∨ a18 = 196 then ((f_X4_argument a18 x3 D).bind (fun p21 => ((dR p21.2 6 1)).bind (fun a23 => if a23 = 191 ∨ a23 = 196 then ((f_X4_operation a23 x3 p21.2).bind (fun p26 => if p26.1 = 1 then (if p21.1 < 0 then (f_X1_shadeOf_b62 N nu K (f_X1_shadeOf_b7 N nu K g) (some a14) x2 x3 p21.1 p26.2) else (if 26 ≤ p21.1 then (f_X1_shadeOf_b62 N nu K (f_X1_shadeOf_b7 N nu K g) (some a14) x2 x3 p21.1 p26.2) else (if p21.1 < 0 ∨ 26 ≤ (p21.1).toNatClampNeg then none else (f_X1_shadeOf_b93 N nu K (f_X1_shadeOf_b7 N nu K g) (some a14) (x2 ||| (dI p26.2 7 (p21.1).toNatClampNeg)) x3 p26.2)))) else (f_X1_shadeOf_b62 N nu K (f_X1_shadeOf_b7 N nu K g) (some a14) x2 x3 p21.1 p26.2))) else none))) else none))) else none)
set_option maxHeartbeats 4000000 in
theorem w_X1_shadeOf_b7 {X : Cx} {n nu c u : Nat} {K : Nat → Nat} {N : Nat} {z : Int32 × Dat} (O : Ok X cX1_shadeOf RX1 (some .int) 2 42) (hm : wlm (xw X) = true) (hn : xn X = 5) (hz : Z0 X (Ax nu K c u)) : ∀ (g : Nat) (x1 : Option Nat) (x2 : Int32) (x3 : Int32) (D : Dat), f_X1_shadeOf_b7 N nu K g x1 x2 x3 D = some z → V X (Q0 X n (Ax nu K c u) (some (.int z.1)) z.2) n (Ax nu K c u) D 7 [(0, .ref (bo X + 6)), (1, rv (bo X) x1), (2, .int x2), (3, .int x3)] [] := by
  intro g
  induction g with
  | zero => intro x1 x2 x3 D h; exact absurd h (by simp [f_X1_shadeOf_b7])
  | succ g ih =>
    intro x1 x2 x3 D h
    rw [f_X1_shadeOf_b7] at h
    refine v_iload_n (pc := 7) O dX1_shadeOf_7 3 rfl ?_
    refine v_aload_nr (pc := 8) O dX1_shadeOf_8 1 rfl ?_
    obtain ⟨a14, e15, h⟩ := bind_some h
    subst e15
    obtain ⟨c16, h⟩ := if_none h
    refine v_getI (pc := 9) (a := a14) O gf_X7_5 fl_X1_118 c16 dX1_shadeOf_9 ?_
    refine v_icmpge (pc := 12) 99 O dX1_shadeOf_12 (by decide) (fun c17 => ?_) (fun c17 => ?_)
    · have h := (if_pos c17).symm.trans h
      refine v_iload_n (pc := 99) O dX1_shadeOf_99 2 rfl ?_
      obtain rfl := Option.some.inj h
      exact v_iret (pc := 100) O hz dX1_shadeOf_100
    · have h := (if_neg c17).symm.trans h
      refine v_aload_n (pc := 15) O dX1_shadeOf_15 0 rfl ?_
      refine v_getR (pc := 16) (a := 6) O gf_X1_1 fl_X1_31 kq_6 dX1_shadeOf_16 ?_
      refine v_iload_n (pc := 19) O dX1_shadeOf_19 3 rfl ?_
      obtain ⟨a18, e19, h⟩ := bind_some h
      rw [e19]
      obtain ⟨c20, h⟩ := if_none h
      obtain ⟨p21, e22, h⟩ := bind_some h
      refine v_callV (pc := 20) (a := a18) (As := [.int x3]) (rest := []) (r := (some (.int p21.1))) (D' := p21.2) O (bb0 hz) (c_X4_argument hm c20 e22) mw_X4_argument im_X4_argument se_X4_argument ml_X1_121 (kt_X4 c20) (by decide) rfl rfl rfl (by decide) (by decide) (Nat.le_of_ble_eq_true rfl) dX1_shadeOf_20 rfl rfl ?_
      refine v_istore (pc := 23) (lv' := [(4, .int p21.1), (0, .ref (bo X + 6)), (1, .ref (bo X + a14)), (2, .int x2), (3, .int x3)]) O dX1_shadeOf_23 (by rw [hn]; decide) rfl ?_
      refine v_aload_n (pc := 25) O dX1_shadeOf_25 1 rfl ?_
      refine v_getR (pc := 26) (a := 6) O gf_X1_1 fl_X1_31 kq_6 dX1_shadeOf_26 ?_
      refine v_iload_n (pc := 29) O dX1_shadeOf_29 4 rfl ?_
      obtain ⟨a23, e24, h⟩ := bind_some h
      rw [e24]
      obtain ⟨c25, h⟩ := if_none h
      obtain ⟨p26, e27, h⟩ := bind_some h
      refine v_callV (pc := 30) (a := a23) (As := [.int x3]) (rest := []) (r := (some (.int p26.1))) (D' := p26.2) O (bb0 hz) (c_X4_operation hm c25 e27) mw_X4_operation im_X4_operation se_X4_operation ml_X1_124 (kt_X4 c25) (by decide) rfl rfl rfl (by decide) (by decide) (Nat.le_of_ble_eq_true rfl) dX1_shadeOf_30 rfl rfl ?_
      refine v_iconst (pc := 33) O dX1_shadeOf_33 ic_1 ?_
      refine v_icmpne (pc := 34) 62 O dX1_shadeOf_34 (by decide) (fun c28 => ?_) (fun c28 => ?_)
      · have h := (if_neg c28).symm.trans h
        refine v_sub [1, 2, 3, 4, 0] rfl ?_
        exact w_X1_shadeOf_b62 O hm hn hz ih (some a14) x2 x3 p21.1 p26.2 h
      · have h := (if_pos c28).symm.trans h
        refine v_iload (pc := 37) O dX1_shadeOf_37 0 rfl ?_
        refine v_iflt (pc := 39) 62 O dX1_shadeOf_39 (by decide) (fun c29 => ?_) (fun c29 => ?_)
        · have h := (if_pos c29).symm.trans h
          refine v_sub [1, 2, 3, 4, 0] rfl ?_
          exact w_X1_shadeOf_b62 O hm hn hz ih (some a14) x2 x3 p21.1 p26.2 h
        · have h := (if_neg c29).symm.trans h
          refine v_iload (pc := 42) O dX1_shadeOf_42 0 rfl ?_
          refine v_bipush (pc := 44) O dX1_shadeOf_44 bp_26 ?_
          refine v_icmpge (pc := 46) 62 O dX1_shadeOf_46 (by decide) (fun c30 => ?_) (fun c30 => ?_)
          · have h := (if_pos c30).symm.trans h
            refine v_sub [1, 2, 3, 4, 0] rfl ?_
            exact w_X1_shadeOf_b62 O hm hn hz ih (some a14) x2 x3 p21.1 p26.2 h
          · have h := (if_neg c30).symm.trans h
            refine v_iload_n (pc := 49) O dX1_shadeOf_49 3 rfl ?_
            refine v_aload_n (pc := 50) O dX1_shadeOf_50 1 rfl ?_
            refine v_getK (pc := 51) (a := 6) O hm gf_X1_2 fl_X1_9 kq_6 lk_6_2 dX1_shadeOf_51 ?_
            refine v_iload (pc := 54) O dX1_shadeOf_54 0 rfl ?_
            obtain ⟨c31, h⟩ := or_none h
            refine v_iald (pc := 56) (a := 7) O kq_7 (inq lq_7 c31) dX1_shadeOf_56 ?_
            refine v_ior (pc := 57) O dX1_shadeOf_57 ?_
            refine v_istore_n (pc := 58) (lv' := [(2, .int (x2 ||| (dI p26.2 7 (p21.1).toNatClampNeg))), (4, .int p21.1), (0, .ref (bo X + 6)), (1, .ref (bo X + a14)), (3, .int x3)]) O dX1_shadeOf_58 rfl (by rw [hn]; decide) rfl ?_
            refine v_goto (pc := 59) 93 O dX1_shadeOf_59 (by decide) ?_
            refine v_sub [2, 3, 0, 4] rfl ?_
            exact w_X1_shadeOf_b93 O hm hn hz ih (some a14) (x2 ||| (dI p26.2 7 (p21.1).toNatClampNeg)) x3 p26.2 h
def f_X1_shadeOf (N : Nat) (nu : Nat) (K : Nat → Nat) (x1 : Option Nat) (D : Dat) : Option (Int32 × Dat) :=
  (x1).bind (fun a32 => if kd K a32 = 7 then (f_X1_shadeOf_b7 N nu K N (some a32) 0 (dI D a32 4) D) else none)
set_option maxHeartbeats 4000000 in
theorem w_X1_shadeOf {X : Cx} {n nu c u : Nat} {K : Nat → Nat} {N : Nat} (O : Ok X cX1_shadeOf RX1 (some .int) 2 42) (hm : wlm (xw X) = true) (hn : xn X = 5) (hz : Z0 X (Ax nu K c u)) (x1 : Option Nat) (D : Dat) {z : Int32 × Dat} (h : f_X1_shadeOf N nu K x1 D = some z) : V X (Q0 X n (Ax nu K c u) (some (.int z.1)) z.2) n (Ax nu K c u) D 0 [(0, .ref (bo X + 6)), (1, rv (bo X) x1)] [] := by
  unfold f_X1_shadeOf at h
  refine v_iconst (pc := 0) O dX1_shadeOf_0 ic_0 ?_
  refine v_istore_n (pc := 1) (lv' := [(2, .int 0), (0, .ref (bo X + 6)), (1, rv (bo X) x1)]) O dX1_shadeOf_1 rfl (by rw [hn]; decide) (by simp [rv_cat, Value.category]) ?_
  refine v_aload_nr (pc := 2) O dX1_shadeOf_2 2 rfl ?_
  obtain ⟨a32, e33, h⟩ := bind_some h
  subst e33
  obtain ⟨c34, h⟩ := if_none h
  refine v_getI (pc := 3) (a := a32) O gf_X7_4 fl_X1_115 c34 dX1_shadeOf_3 ?_
  refine v_istore_n (pc := 6) (lv' := [(3, .int (dI D a32 4)), (2, .int 0), (0, .ref (bo X + 6)), (1, .ref (bo X + a32))]) O dX1_shadeOf_6 rfl (by rw [hn]; decide) rfl ?_
  refine v_sub [2, 3, 1, 0] rfl ?_
  exact w_X1_shadeOf_b7 O hm hn hz N (some a32) 0 (dI D a32 4) D h
theorem c_X1_shadeOf {l : Launch} {w : Wx} {n nu c u : Nat} {K : Nat → Nat} {N : Nat} (hm : wlm w = true) {x1 : Option Nat} {D : Dat} {z : Int32 × Dat} (h : f_X1_shadeOf N nu K x1 D = some z) : C0 l w yX1_shadeOf cX1_shadeOf 5 (some .int) 2 42 [.ref (wb w + 6), rv (wb w) x1] n (Ax nu K c u) D (some (.int z.1)) z.2 :=
  C0.of (by decide) (by simp [lg_sl, rv_cat, Value.category]) (fun X e1 e2 e3 hz O => by
  subst e1
  subst e2
  have q : lv_args 0 [.ref (bo X + 6), rv (bo X) x1] = [(0, .ref (bo X + 6)), (1, rv (bo X) x1)] := by simp [lv_args, rv_cat, Value.category]
  show V X _ n _ D 0 (lv_args 0 [.ref (bo X + 6), rv (bo X) x1]) []
  rw [q]
  exact w_X1_shadeOf O hm e3 hz x1 D h)
def f_X5_length (D : Dat) : Option (Int32 × Dat) :=
  some ((dI D 3 2), D)
set_option maxHeartbeats 4000000 in
theorem w_X5_length {X : Cx} {n nu c u : Nat} {K : Nat → Nat} (O : Ok X cX5_length RX5 (some .int) 0 0) (hm : wlm (xw X) = true) (hn : xn X = 1) (hz : Z0 X (Ax nu K c u)) (D : Dat) {z : Int32 × Dat} (h : f_X5_length D = some z) : V X (Q0 X n (Ax nu K c u) (some (.int z.1)) z.2) n (Ax nu K c u) D 0 [(0, .ref (bo X + 3))] [] := by
  unfold f_X5_length at h
  refine v_aload_n (pc := 0) O dX5_length_0 0 rfl ?_
  refine v_getI (pc := 1) (a := 3) O gf_X5_2 fl_X5_23 kq_3 dX5_length_1 ?_
  obtain rfl := Option.some.inj h
  exact v_iret (pc := 4) O hz dX5_length_4
theorem c_X5_length {l : Launch} {w : Wx} {n nu c u : Nat} {K : Nat → Nat} (hm : wlm w = true) {D : Dat} {z : Int32 × Dat} (h : f_X5_length D = some z) : C0 l w yX5_length cX5_length 1 (some .int) 0 0 [.ref (wb w + 3)] n (Ax nu K c u) D (some (.int z.1)) z.2 :=
  C0.of (by decide) (Nat.le_of_ble_eq_true rfl) (fun X e1 e2 e3 hz O => by
  subst e1
  subst e2
  exact w_X5_length O hm e3 hz  D h)
def f_X5_place (D : Dat) : Option (Int32 × Dat) :=
  some ((dI D 3 7), D)
set_option maxHeartbeats 4000000 in
theorem w_X5_place {X : Cx} {n nu c u : Nat} {K : Nat → Nat} (O : Ok X cX5_place RX5 (some .int) 0 0) (hm : wlm (xw X) = true) (hn : xn X = 1) (hz : Z0 X (Ax nu K c u)) (D : Dat) {z : Int32 × Dat} (h : f_X5_place D = some z) : V X (Q0 X n (Ax nu K c u) (some (.int z.1)) z.2) n (Ax nu K c u) D 0 [(0, .ref (bo X + 3))] [] := by
  unfold f_X5_place at h
  refine v_aload_n (pc := 0) O dX5_place_0 0 rfl ?_
  refine v_getI (pc := 1) (a := 3) O gf_X5_7 fl_X5_27 kq_3 dX5_place_1 ?_
  obtain rfl := Option.some.inj h
  exact v_iret (pc := 4) O hz dX5_place_4
theorem c_X5_place {l : Launch} {w : Wx} {n nu c u : Nat} {K : Nat → Nat} (hm : wlm w = true) {D : Dat} {z : Int32 × Dat} (h : f_X5_place D = some z) : C0 l w yX5_place cX5_place 1 (some .int) 0 0 [.ref (wb w + 3)] n (Ax nu K c u) D (some (.int z.1)) z.2 :=
  C0.of (by decide) (Nat.le_of_ble_eq_true rfl) (fun X e1 e2 e3 hz O => by
  subst e1
  subst e2
  exact w_X5_place O hm e3 hz  D h)
def f_X5_forget (D : Dat) : Option (Dat) :=
  some (sI D 3 2 0)
set_option maxHeartbeats 4000000 in
theorem w_X5_forget {X : Cx} {n nu c u : Nat} {K : Nat → Nat} (O : Ok X cX5_forget RX5 none 0 0) (hm : wlm (xw X) = true) (hn : xn X = 1) (hz : Z0 X (Ax nu K c u)) (D : Dat) {z : Dat} (h : f_X5_forget D = some z) : V X (Q0 X n (Ax nu K c u) none z) n (Ax nu K c u) D 0 [(0, .ref (bo X + 3))] [] := by
  unfold f_X5_forget at h
  refine v_aload_n (pc := 0) O dX5_forget_0 0 rfl ?_
  refine v_iconst (pc := 1) O dX5_forget_1 ic_0 ?_
  refine v_putI (pc := 2) (a := 3) O pf_X5_2 fl_X5_23 kq_3 dX5_forget_2 ?_
  obtain rfl := Option.some.inj h
  exact v_ret (pc := 5) O hz dX5_forget_5
theorem c_X5_forget {l : Launch} {w : Wx} {n nu c u : Nat} {K : Nat → Nat} (hm : wlm w = true) {D : Dat} {z : Dat} (h : f_X5_forget D = some z) : C0 l w yX5_forget cX5_forget 1 none 0 0 [.ref (wb w + 3)] n (Ax nu K c u) D none z :=
  C0.of (by decide) (Nat.le_of_ble_eq_true rfl) (fun X e1 e2 e3 hz O => by
  subst e1
  subst e2
  exact w_X5_forget O hm e3 hz  D h)
def f_X5_arePlain_b37 (N : Nat) (D : Dat) : Option (Int32 × Dat) :=
  some (0, D)
set_option maxHeartbeats 4000000 in
theorem w_X5_arePlain_b37 {X : Cx} {n nu c u : Nat} {K : Nat → Nat} {N : Nat} {z : Int32 × Dat} (O : Ok X cX5_arePlain RX5 (some .boolean) 0 0) (hm : wlm (xw X) = true) (hn : xn X = 6) (hz : Z0 X (Ax nu K c u)) (D : Dat) (h : f_X5_arePlain_b37 N D = some z) : V X (Q0 X n (Ax nu K c u) (some (.int z.1)) z.2) n (Ax nu K c u) D 37 [] [] := by
  unfold f_X5_arePlain_b37 at h
  refine v_iconst (pc := 37) O dX5_arePlain_37 ic_0 ?_
  obtain rfl := Option.some.inj h
  exact v_zret (pc := 38) O hz narrow_b0 dX5_arePlain_38
def f_X5_arePlain_b2 (N : Nat) : Nat → Int64 → Int32 → Int32 → Dat → Option (Int32 × Dat)
  | 0, _, _, _, _ => none
  | g + 1, x0, x2, x3, D => if x2 ≤ x3 then (some (1, D)) else (if (lg_cmp ((x0 >>> (((8 * x3) : Int32).toInt64 &&& 63)) &&& (255 : Int64)) (32 : Int64)) < 0 then (f_X5_arePlain_b37 N D) else (if (lg_cmp ((x0 >>> (((8 * x3) : Int32).toInt64 &&& 63)) &&& (255 : Int64)) (126 : Int64)) ≤ 0 then ((f_X5_arePlain_b2 N g) x0 x2 (x3 + 1) D) else (f_X5_arePlain_b37 N D)))
set_option maxHeartbeats 4000000 in
theorem w_X5_arePlain_b2 {X : Cx} {n nu c u : Nat} {K : Nat → Nat} {N : Nat} {z : Int32 × Dat} (O : Ok X cX5_arePlain RX5 (some .boolean) 0 0) (hm : wlm (xw X) = true) (hn : xn X = 6) (hz : Z0 X (Ax nu K c u)) : ∀ (g : Nat) (x0 : Int64) (x2 : Int32) (x3 : Int32) (D : Dat), f_X5_arePlain_b2 N g x0 x2 x3 D = some z → V X (Q0 X n (Ax nu K c u) (some (.int z.1)) z.2) n (Ax nu K c u) D 2 [(0, .long x0), (2, .int x2), (3, .int x3)] [] := by
  intro g
  induction g with
  | zero => intro x0 x2 x3 D h; exact absurd h (by simp [f_X5_arePlain_b2])
  | succ g ih =>
    intro x0 x2 x3 D h
    rw [f_X5_arePlain_b2] at h
    refine v_iload_n (pc := 2) O dX5_arePlain_2 2 rfl ?_
    refine v_iload_n (pc := 3) O dX5_arePlain_3 1 rfl ?_
    refine v_icmpge (pc := 4) 45 O dX5_arePlain_4 (by decide) (fun c1 => ?_) (fun c1 => ?_)
    · have h := (if_pos c1).symm.trans h
      refine v_iconst (pc := 45) O dX5_arePlain_45 ic_1 ?_
      obtain rfl := Option.some.inj h
      exact v_zret (pc := 46) O hz narrow_b1 dX5_arePlain_46
    · have h := (if_neg c1).symm.trans h
      refine v_lload_n (pc := 7) O dX5_arePlain_7 0 rfl ?_
      refine v_bipush (pc := 8) O dX5_arePlain_8 bp_8 ?_
      refine v_iload_n (pc := 10) O dX5_arePlain_10 2 rfl ?_
      refine v_imul (pc := 11) O dX5_arePlain_11 ?_
      refine v_lshr (pc := 12) O dX5_arePlain_12 ?_
      refine v_ldc2 (pc := 13) O dX5_arePlain_13 cl_X5_30 ?_
      refine v_land (pc := 16) O dX5_arePlain_16 ?_
      refine v_lstore (pc := 17) (lv' := [(4, .long ((x0 >>> (((8 * x3) : Int32).toInt64 &&& 63)) &&& (255 : Int64))), (0, .long x0), (2, .int x2), (3, .int x3)]) O dX5_arePlain_17 (by rw [hn]; decide) rfl ?_
      refine v_lload (pc := 19) O dX5_arePlain_19 0 rfl ?_
      refine v_ldc2 (pc := 21) O dX5_arePlain_21 cl_X5_32 ?_
      refine v_lcmp (pc := 24) O dX5_arePlain_24 ?_
      refine v_iflt (pc := 25) 37 O dX5_arePlain_25 (by decide) (fun c2 => ?_) (fun c2 => ?_)
      · have h := (if_pos c2).symm.trans h
        refine v_sub [] rfl ?_
        exact w_X5_arePlain_b37 O hm hn hz D h
      · have h := (if_neg c2).symm.trans h
        refine v_lload (pc := 28) O dX5_arePlain_28 0 rfl ?_
        refine v_ldc2 (pc := 30) O dX5_arePlain_30 cl_X5_34 ?_
        refine v_lcmp (pc := 33) O dX5_arePlain_33 ?_
        refine v_ifle (pc := 34) 39 O dX5_arePlain_34 (by decide) (fun c3 => ?_) (fun c3 => ?_)
        · have h := (if_pos c3).symm.trans h
          refine v_iinc (pc := 39) (lv' := [(3, .int (x3 + 1)), (4, .long ((x0 >>> (((8 * x3) : Int32).toInt64 &&& 63)) &&& (255 : Int64))), (0, .long x0), (2, .int x2)]) O dX5_arePlain_39 3 rfl (congrArg (fun q => x3 + q) ic_1) (by rw [hn]; decide) rfl ?_
          refine v_goto (pc := 42) 2 O dX5_arePlain_42 (by decide) ?_
          refine v_sub [2, 3, 0] rfl ?_
          exact ih x0 x2 (x3 + 1) D h
        · have h := (if_neg c3).symm.trans h
          refine v_sub [] rfl ?_
          exact w_X5_arePlain_b37 O hm hn hz D h
def f_X5_arePlain (N : Nat) (x0 : Int64) (x2 : Int32) (D : Dat) : Option (Int32 × Dat) :=
  f_X5_arePlain_b2 N N x0 x2 0 D
set_option maxHeartbeats 4000000 in
theorem w_X5_arePlain {X : Cx} {n nu c u : Nat} {K : Nat → Nat} {N : Nat} (O : Ok X cX5_arePlain RX5 (some .boolean) 0 0) (hm : wlm (xw X) = true) (hn : xn X = 6) (hz : Z0 X (Ax nu K c u)) (x0 : Int64) (x2 : Int32) (D : Dat) {z : Int32 × Dat} (h : f_X5_arePlain N x0 x2 D = some z) : V X (Q0 X n (Ax nu K c u) (some (.int z.1)) z.2) n (Ax nu K c u) D 0 [(0, .long x0), (2, .int x2)] [] := by
  unfold f_X5_arePlain at h
  refine v_iconst (pc := 0) O dX5_arePlain_0 ic_0 ?_
  refine v_istore_n (pc := 1) (lv' := [(3, .int 0), (0, .long x0), (2, .int x2)]) O dX5_arePlain_1 rfl (by rw [hn]; decide) rfl ?_
  refine v_sub [1, 2, 0] rfl ?_
  exact w_X5_arePlain_b2 O hm hn hz N x0 x2 0 D h
theorem c_X5_arePlain {l : Launch} {w : Wx} {n nu c u : Nat} {K : Nat → Nat} {N : Nat} (hm : wlm w = true) {x0 : Int64} {x2 : Int32} {D : Dat} {z : Int32 × Dat} (h : f_X5_arePlain N x0 x2 D = some z) : C0 l w yX5_arePlain cX5_arePlain 6 (some .boolean) 0 0 [.long x0, .int x2] n (Ax nu K c u) D (some (.int z.1)) z.2 :=
  C0.of (by decide) (Nat.le_of_ble_eq_true rfl) (fun X e1 e2 e3 hz O => by
  subst e1
  subst e2
  exact w_X5_arePlain O hm e3 hz x0 x2 D h)
def f_X5_addSigns_b58 (N : Nat) (D : Dat) : Option (Dat) :=
  some D
set_option maxHeartbeats 4000000 in
theorem w_X5_addSigns_b58 {X : Cx} {n nu c u : Nat} {K : Nat → Nat} {N : Nat} {z : Dat} (O : Ok X cX5_addSigns RX5 none 0 0) (hm : wlm (xw X) = true) (hn : xn X = 5) (hz : Z0 X (Ax nu K c u)) (D : Dat) (h : f_X5_addSigns_b58 N D = some z) : V X (Q0 X n (Ax nu K c u) none z) n (Ax nu K c u) D 58 [] [] := by
  unfold f_X5_addSigns_b58 at h
  obtain rfl := Option.some.inj h
  exact v_ret (pc := 58) O hz dX5_addSigns_58
def f_X5_addSigns_b52 (N : Nat) (rec_5 : Int64 → Int32 → Dat → Option (Dat)) (x1 : Int64) (x4 : Int32) (D : Dat) : Option (Dat) :=
  rec_5 x1 (x4 + (-1)) D
set_option maxHeartbeats 4000000 in
theorem w_X5_addSigns_b52 {X : Cx} {n nu c u : Nat} {K : Nat → Nat} {N : Nat} {rec_5 : Int64 → Int32 → Dat → Option (Dat)} {z : Dat} (O : Ok X cX5_addSigns RX5 none 0 0) (hm : wlm (xw X) = true) (hn : xn X = 5) (hz : Z0 X (Ax nu K c u)) (hrec_5 : ∀ (x1 : Int64) (x4 : Int32) (D : Dat), rec_5 x1 x4 D = some z → V X (Q0 X n (Ax nu K c u) none z) n (Ax nu K c u) D 5 [(0, .ref (bo X + 3)), (1, .long x1), (4, .int x4)] []) (x1 : Int64) (x4 : Int32) (D : Dat) (h : f_X5_addSigns_b52 N rec_5 x1 x4 D = some z) : V X (Q0 X n (Ax nu K c u) none z) n (Ax nu K c u) D 52 [(0, .ref (bo X + 3)), (1, .long x1), (4, .int x4)] [] := by
  unfold f_X5_addSigns_b52 at h
  refine v_iinc (pc := 52) (lv' := [(4, .int (x4 + (-1))), (0, .ref (bo X + 3)), (1, .long x1)]) O dX5_addSigns_52 2 rfl (congrArg (fun q => x4 + q) ic_m1) (by rw [hn]; decide) rfl ?_
  refine v_goto (pc := 55) 5 O dX5_addSigns_55 (by decide) ?_
  refine v_sub [1, 2, 0] rfl ?_
  exact hrec_5 x1 (x4 + (-1)) D h
def f_X5_addSigns_b5 (N : Nat) : Nat → Int64 → Int32 → Dat → Option (Dat)
  | 0, _, _, _ => none
  | g + 1, x1, x4, D => if x4 < 0 then (f_X5_addSigns_b58 N D) else (if 240 ≤ (dI D 3 2) then (f_X5_addSigns_b58 N D) else (if (dI D 3 2) < 0 ∨ 240 ≤ ((dI D 3 2)).toNatClampNeg then none else (f_X5_addSigns_b52 N (f_X5_addSigns_b5 N g) x1 x4 (sI (sI D 4 (dI D 3 2).toNatClampNeg (vp_nar .char (((((((x1 >>> (((8 * x4) : Int32).toInt64 &&& 63)) &&& (255 : Int64)) : Int64).toInt32) : Int32).toUInt32 % 65536).toInt32))) 3 2 ((dI (sI D 4 (dI D 3 2).toNatClampNeg (vp_nar .char (((((((x1 >>> (((8 * x4) : Int32).toInt64 &&& 63)) &&& (255 : Int64)) : Int64).toInt32) : Int32).toUInt32 % 65536).toInt32))) 3 2) + 1)))))
set_option maxHeartbeats 4000000 in
theorem w_X5_addSigns_b5 {X : Cx} {n nu c u : Nat} {K : Nat → Nat} {N : Nat} {z : Dat} (O : Ok X cX5_addSigns RX5 none 0 0) (hm : wlm (xw X) = true) (hn : xn X = 5) (hz : Z0 X (Ax nu K c u)) : ∀ (g : Nat) (x1 : Int64) (x4 : Int32) (D : Dat), f_X5_addSigns_b5 N g x1 x4 D = some z → V X (Q0 X n (Ax nu K c u) none z) n (Ax nu K c u) D 5 [(0, .ref (bo X + 3)), (1, .long x1), (4, .int x4)] [] := by
  intro g
  induction g with
  | zero => intro x1 x4 D h; exact absurd h (by simp [f_X5_addSigns_b5])
  | succ g ih =>
    intro x1 x4 D h
    rw [f_X5_addSigns_b5] at h
    refine v_iload (pc := 5) O dX5_addSigns_5 2 rfl ?_
    refine v_iflt (pc := 7) 58 O dX5_addSigns_7 (by decide) (fun c1 => ?_) (fun c1 => ?_)
    · have h := (if_pos c1).symm.trans h
      refine v_sub [] rfl ?_
      exact w_X5_addSigns_b58 O hm hn hz D h
    · have h := (if_neg c1).symm.trans h
      refine v_aload_n (pc := 10) O dX5_addSigns_10 0 rfl ?_
      refine v_getI (pc := 11) (a := 3) O gf_X5_2 fl_X5_23 kq_3 dX5_addSigns_11 ?_
      refine v_sipush (pc := 14) O dX5_addSigns_14 sp_240 ?_
      refine v_icmpge (pc := 17) 58 O dX5_addSigns_17 (by decide) (fun c2 => ?_) (fun c2 => ?_)
      · have h := (if_pos c2).symm.trans h
        refine v_sub [] rfl ?_
        exact w_X5_addSigns_b58 O hm hn hz D h
      · have h := (if_neg c2).symm.trans h
        refine v_aload_n (pc := 20) O dX5_addSigns_20 0 rfl ?_
        refine v_getK (pc := 21) (a := 3) O hm gf_X5_1 fl_X5_9 kq_3 lk_3_1 dX5_addSigns_21 ?_
        refine v_aload_n (pc := 24) O dX5_addSigns_24 0 rfl ?_
        refine v_getI (pc := 25) (a := 3) O gf_X5_2 fl_X5_23 kq_3 dX5_addSigns_25 ?_
        refine v_lload_n (pc := 28) O dX5_addSigns_28 1 rfl ?_
        refine v_bipush (pc := 29) O dX5_addSigns_29 bp_8 ?_
        refine v_iload (pc := 31) O dX5_addSigns_31 2 rfl ?_
        refine v_imul (pc := 33) O dX5_addSigns_33 ?_
        refine v_lshr (pc := 34) O dX5_addSigns_34 ?_
        refine v_ldc2 (pc := 35) O dX5_addSigns_35 cl_X5_30 ?_
        refine v_land (pc := 38) O dX5_addSigns_38 ?_
        refine v_l2i (pc := 39) O dX5_addSigns_39 ?_
        refine v_i2c (pc := 40) O dX5_addSigns_40 ?_
        obtain ⟨c3, h⟩ := or_none h
        refine v_cast (pc := 41) (a := 4) O kq_4 (inq lq_4 c3) dX5_addSigns_41 ?_
        refine v_aload_n (pc := 42) O dX5_addSigns_42 0 rfl ?_
        refine v_dup (pc := 43) O dX5_addSigns_43 rfl ?_
        refine v_getI (pc := 44) (a := 3) O gf_X5_2 fl_X5_23 kq_3 dX5_addSigns_44 ?_
        refine v_iconst (pc := 47) O dX5_addSigns_47 ic_1 ?_
        refine v_iadd (pc := 48) O dX5_addSigns_48 ?_
        refine v_putI (pc := 49) (a := 3) O pf_X5_2 fl_X5_23 kq_3 dX5_addSigns_49 ?_
        refine v_sub [0, 1, 2] rfl ?_
        exact w_X5_addSigns_b52 O hm hn hz ih x1 x4 (sI (sI D 4 (dI D 3 2).toNatClampNeg (vp_nar .char (((((((x1 >>> (((8 * x4) : Int32).toInt64 &&& 63)) &&& (255 : Int64)) : Int64).toInt32) : Int32).toUInt32 % 65536).toInt32))) 3 2 ((dI (sI D 4 (dI D 3 2).toNatClampNeg (vp_nar .char (((((((x1 >>> (((8 * x4) : Int32).toInt64 &&& 63)) &&& (255 : Int64)) : Int64).toInt32) : Int32).toUInt32 % 65536).toInt32))) 3 2) + 1)) h
def f_X5_addSigns (N : Nat) (x1 : Int64) (x3 : Int32) (D : Dat) : Option (Dat) :=
  f_X5_addSigns_b5 N N x1 (x3 - 1) D
set_option maxHeartbeats 4000000 in
theorem w_X5_addSigns {X : Cx} {n nu c u : Nat} {K : Nat → Nat} {N : Nat} (O : Ok X cX5_addSigns RX5 none 0 0) (hm : wlm (xw X) = true) (hn : xn X = 5) (hz : Z0 X (Ax nu K c u)) (x1 : Int64) (x3 : Int32) (D : Dat) {z : Dat} (h : f_X5_addSigns N x1 x3 D = some z) : V X (Q0 X n (Ax nu K c u) none z) n (Ax nu K c u) D 0 [(0, .ref (bo X + 3)), (1, .long x1), (3, .int x3)] [] := by
  unfold f_X5_addSigns at h
  refine v_iload_n (pc := 0) O dX5_addSigns_0 2 rfl ?_
  refine v_iconst (pc := 1) O dX5_addSigns_1 ic_1 ?_
  refine v_isub (pc := 2) O dX5_addSigns_2 ?_
  refine v_istore (pc := 3) (lv' := [(4, .int (x3 - 1)), (0, .ref (bo X + 3)), (1, .long x1), (3, .int x3)]) O dX5_addSigns_3 (by rw [hn]; decide) rfl ?_
  refine v_sub [1, 2, 0] rfl ?_
  exact w_X5_addSigns_b5 O hm hn hz N x1 (x3 - 1) D h
theorem c_X5_addSigns {l : Launch} {w : Wx} {n nu c u : Nat} {K : Nat → Nat} {N : Nat} (hm : wlm w = true) {x1 : Int64} {x3 : Int32} {D : Dat} {z : Dat} (h : f_X5_addSigns N x1 x3 D = some z) : C0 l w yX5_addSigns cX5_addSigns 5 none 0 0 [.ref (wb w + 3), .long x1, .int x3] n (Ax nu K c u) D none z :=
  C0.of (by decide) (Nat.le_of_ble_eq_true rfl) (fun X e1 e2 e3 hz O => by
  subst e1
  subst e2
  exact w_X5_addSigns O hm e3 hz x1 x3 D h)
def f_X5_roleHere_b37 (s0 : Int32) (D : Dat) : Option (Int32 × Dat) :=
  some (s0, D)
set_option maxHeartbeats 4000000 in
theorem w_X5_roleHere_b37 {X : Cx} {n nu c u : Nat} {K : Nat → Nat} {z : Int32 × Dat} (O : Ok X cX5_roleHere RX5 (some .int) 0 0) (hm : wlm (xw X) = true) (hn : xn X = 1) (hz : Z0 X (Ax nu K c u)) (s0 : Int32) (D : Dat) (h : f_X5_roleHere_b37 s0 D = some z) : V X (Q0 X n (Ax nu K c u) (some (.int z.1)) z.2) n (Ax nu K c u) D 37 [] [.int s0] := by
  unfold f_X5_roleHere_b37 at h
  obtain rfl := Option.some.inj h
  exact v_iret (pc := 37) O hz dX5_roleHere_37
def f_X5_roleHere_b36 (D : Dat) : Option (Int32 × Dat) :=
  f_X5_roleHere_b37 (-1) D
set_option maxHeartbeats 4000000 in
theorem w_X5_roleHere_b36 {X : Cx} {n nu c u : Nat} {K : Nat → Nat} {z : Int32 × Dat} (O : Ok X cX5_roleHere RX5 (some .int) 0 0) (hm : wlm (xw X) = true) (hn : xn X = 1) (hz : Z0 X (Ax nu K c u)) (D : Dat) (h : f_X5_roleHere_b36 D = some z) : V X (Q0 X n (Ax nu K c u) (some (.int z.1)) z.2) n (Ax nu K c u) D 36 [] [] := by
  unfold f_X5_roleHere_b36 at h
  refine v_iconst (pc := 36) O dX5_roleHere_36 ic_m1 ?_
  refine v_sub [] rfl ?_
  exact w_X5_roleHere_b37 O hm hn hz (-1) D h
def f_X5_roleHere (D : Dat) : Option (Int32 × Dat) :=
  if (dI D 3 6) = 1 then (if (dI D 3 9) < 0 then (f_X5_roleHere_b36 D) else (if 26 ≤ (dI D 3 9) then (f_X5_roleHere_b36 D) else (if (dI D 3 9) < 0 ∨ 26 ≤ ((dI D 3 9)).toNatClampNeg then none else (f_X5_roleHere_b37 (dI D 5 (dI D 3 9).toNatClampNeg) D)))) else (f_X5_roleHere_b36 D)
set_option maxHeartbeats 4000000 in
theorem w_X5_roleHere {X : Cx} {n nu c u : Nat} {K : Nat → Nat} (O : Ok X cX5_roleHere RX5 (some .int) 0 0) (hm : wlm (xw X) = true) (hn : xn X = 1) (hz : Z0 X (Ax nu K c u)) (D : Dat) {z : Int32 × Dat} (h : f_X5_roleHere D = some z) : V X (Q0 X n (Ax nu K c u) (some (.int z.1)) z.2) n (Ax nu K c u) D 0 [(0, .ref (bo X + 3))] [] := by
  unfold f_X5_roleHere at h
  refine v_aload_n (pc := 0) O dX5_roleHere_0 0 rfl ?_
  refine v_getI (pc := 1) (a := 3) O gf_X5_6 fl_X5_120 kq_3 dX5_roleHere_1 ?_
  refine v_iconst (pc := 4) O dX5_roleHere_4 ic_1 ?_
  refine v_icmpne (pc := 5) 36 O dX5_roleHere_5 (by decide) (fun c1 => ?_) (fun c1 => ?_)
  · have h := (if_neg c1).symm.trans h
    refine v_sub [] rfl ?_
    exact w_X5_roleHere_b36 O hm hn hz D h
  · have h := (if_pos c1).symm.trans h
    refine v_aload_n (pc := 8) O dX5_roleHere_8 0 rfl ?_
    refine v_getI (pc := 9) (a := 3) O gf_X5_9 fl_X5_216 kq_3 dX5_roleHere_9 ?_
    refine v_iflt (pc := 12) 36 O dX5_roleHere_12 (by decide) (fun c2 => ?_) (fun c2 => ?_)
    · have h := (if_pos c2).symm.trans h
      refine v_sub [] rfl ?_
      exact w_X5_roleHere_b36 O hm hn hz D h
    · have h := (if_neg c2).symm.trans h
      refine v_aload_n (pc := 15) O dX5_roleHere_15 0 rfl ?_
      refine v_getI (pc := 16) (a := 3) O gf_X5_9 fl_X5_216 kq_3 dX5_roleHere_16 ?_
      refine v_bipush (pc := 19) O dX5_roleHere_19 bp_26 ?_
      refine v_icmpge (pc := 21) 36 O dX5_roleHere_21 (by decide) (fun c3 => ?_) (fun c3 => ?_)
      · have h := (if_pos c3).symm.trans h
        refine v_sub [] rfl ?_
        exact w_X5_roleHere_b36 O hm hn hz D h
      · have h := (if_neg c3).symm.trans h
        refine v_aload_n (pc := 24) O dX5_roleHere_24 0 rfl ?_
        refine v_getK (pc := 25) (a := 3) O hm gf_X5_3 fl_X5_15 kq_3 lk_3_3 dX5_roleHere_25 ?_
        refine v_aload_n (pc := 28) O dX5_roleHere_28 0 rfl ?_
        refine v_getI (pc := 29) (a := 3) O gf_X5_9 fl_X5_216 kq_3 dX5_roleHere_29 ?_
        obtain ⟨c4, h⟩ := or_none h
        refine v_iald (pc := 32) (a := 5) O kq_5 (inq lq_5 c4) dX5_roleHere_32 ?_
        refine v_goto (pc := 33) 37 O dX5_roleHere_33 (by decide) ?_
        refine v_sub [] rfl ?_
        exact w_X5_roleHere_b37 O hm hn hz (dI D 5 (dI D 3 9).toNatClampNeg) D h
theorem c_X5_roleHere {l : Launch} {w : Wx} {n nu c u : Nat} {K : Nat → Nat} (hm : wlm w = true) {D : Dat} {z : Int32 × Dat} (h : f_X5_roleHere D = some z) : C0 l w yX5_roleHere cX5_roleHere 1 (some .int) 0 0 [.ref (wb w + 3)] n (Ax nu K c u) D (some (.int z.1)) z.2 :=
  C0.of (by decide) (Nat.le_of_ble_eq_true rfl) (fun X e1 e2 e3 hz O => by
  subst e1
  subst e2
  exact w_X5_roleHere O hm e3 hz  D h)
def f_X5_setRole_b17 (D : Dat) : Option (Dat) :=
  some D
set_option maxHeartbeats 4000000 in
theorem w_X5_setRole_b17 {X : Cx} {n nu c u : Nat} {K : Nat → Nat} {z : Dat} (O : Ok X cX5_setRole RX5 none 0 0) (hm : wlm (xw X) = true) (hn : xn X = 3) (hz : Z0 X (Ax nu K c u)) (D : Dat) (h : f_X5_setRole_b17 D = some z) : V X (Q0 X n (Ax nu K c u) none z) n (Ax nu K c u) D 17 [] [] := by
  unfold f_X5_setRole_b17 at h
  obtain rfl := Option.some.inj h
  exact v_ret (pc := 17) O hz dX5_setRole_17
def f_X5_setRole (x1 : Int32) (x2 : Int32) (D : Dat) : Option (Dat) :=
  if x1 < 0 then (f_X5_setRole_b17 D) else (if 26 ≤ x1 then (f_X5_setRole_b17 D) else (if x1 < 0 ∨ 26 ≤ (x1).toNatClampNeg then none else (f_X5_setRole_b17 (sI D 5 (x1).toNatClampNeg x2))))
set_option maxHeartbeats 4000000 in
theorem w_X5_setRole {X : Cx} {n nu c u : Nat} {K : Nat → Nat} (O : Ok X cX5_setRole RX5 none 0 0) (hm : wlm (xw X) = true) (hn : xn X = 3) (hz : Z0 X (Ax nu K c u)) (x1 : Int32) (x2 : Int32) (D : Dat) {z : Dat} (h : f_X5_setRole x1 x2 D = some z) : V X (Q0 X n (Ax nu K c u) none z) n (Ax nu K c u) D 0 [(0, .ref (bo X + 3)), (1, .int x1), (2, .int x2)] [] := by
  unfold f_X5_setRole at h
  refine v_iload_n (pc := 0) O dX5_setRole_0 1 rfl ?_
  refine v_iflt (pc := 1) 17 O dX5_setRole_1 (by decide) (fun c1 => ?_) (fun c1 => ?_)
  · have h := (if_pos c1).symm.trans h
    refine v_sub [] rfl ?_
    exact w_X5_setRole_b17 O hm hn hz D h
  · have h := (if_neg c1).symm.trans h
    refine v_iload_n (pc := 4) O dX5_setRole_4 1 rfl ?_
    refine v_bipush (pc := 5) O dX5_setRole_5 bp_26 ?_
    refine v_icmpge (pc := 7) 17 O dX5_setRole_7 (by decide) (fun c2 => ?_) (fun c2 => ?_)
    · have h := (if_pos c2).symm.trans h
      refine v_sub [] rfl ?_
      exact w_X5_setRole_b17 O hm hn hz D h
    · have h := (if_neg c2).symm.trans h
      refine v_aload_n (pc := 10) O dX5_setRole_10 0 rfl ?_
      refine v_getK (pc := 11) (a := 3) O hm gf_X5_3 fl_X5_15 kq_3 lk_3_3 dX5_setRole_11 ?_
      refine v_iload_n (pc := 14) O dX5_setRole_14 1 rfl ?_
      refine v_iload_n (pc := 15) O dX5_setRole_15 2 rfl ?_
      obtain ⟨c3, h⟩ := or_none h
      refine v_iast (pc := 16) (a := 5) O kq_5 (inq lq_5 c3) dX5_setRole_16 ?_
      refine v_sub [] rfl ?_
      exact w_X5_setRole_b17 O hm hn hz (sI D 5 (x1).toNatClampNeg x2) h
theorem c_X5_setRole {l : Launch} {w : Wx} {n nu c u : Nat} {K : Nat → Nat} (hm : wlm w = true) {x1 : Int32} {x2 : Int32} {D : Dat} {z : Dat} (h : f_X5_setRole x1 x2 D = some z) : C0 l w yX5_setRole cX5_setRole 3 none 0 0 [.ref (wb w + 3), .int x1, .int x2] n (Ax nu K c u) D none z :=
  C0.of (by decide) (Nat.le_of_ble_eq_true rfl) (fun X e1 e2 e3 hz O => by
  subst e1
  subst e2
  exact w_X5_setRole O hm e3 hz x1 x2 D h)
def f_X5_numberHere_b44 (N : Nat) (x1 : Int32) (D : Dat) : Option (Int32 × Dat) :=
  some (x1, D)
set_option maxHeartbeats 4000000 in
theorem w_X5_numberHere_b44 {X : Cx} {n nu c u : Nat} {K : Nat → Nat} {N : Nat} {z : Int32 × Dat} (O : Ok X cX5_numberHere RX5 (some .int) 0 0) (hm : wlm (xw X) = true) (hn : xn X = 3) (hz : Z0 X (Ax nu K c u)) (x1 : Int32) (D : Dat) (h : f_X5_numberHere_b44 N x1 D = some z) : V X (Q0 X n (Ax nu K c u) (some (.int z.1)) z.2) n (Ax nu K c u) D 44 [(1, .int x1)] [] := by
  unfold f_X5_numberHere_b44 at h
  refine v_iload_n (pc := 44) O dX5_numberHere_44 0 rfl ?_
  obtain rfl := Option.some.inj h
  exact v_iret (pc := 45) O hz dX5_numberHere_45
def f_X5_numberHere_b7 (N : Nat) : Nat → Int32 → Int32 → Dat → Option (Int32 × Dat)
  | 0, _, _, _ => none
  | g + 1, x1, x2, D => if (dI D 3 8) ≤ x2 then (f_X5_numberHere_b44 N x1 D) else (if (dI D 3 2) ≤ x2 then (f_X5_numberHere_b44 N x1 D) else (if x2 < 0 ∨ 240 ≤ (x2).toNatClampNeg then none else ((f_X5_numberHere_b7 N g) ((10 * x1) + ((dI D 4 (x2).toNatClampNeg) - 48)) (x2 + 1) D)))
set_option maxHeartbeats 4000000 in
theorem w_X5_numberHere_b7 {X : Cx} {n nu c u : Nat} {K : Nat → Nat} {N : Nat} {z : Int32 × Dat} (O : Ok X cX5_numberHere RX5 (some .int) 0 0) (hm : wlm (xw X) = true) (hn : xn X = 3) (hz : Z0 X (Ax nu K c u)) : ∀ (g : Nat) (x1 : Int32) (x2 : Int32) (D : Dat), f_X5_numberHere_b7 N g x1 x2 D = some z → V X (Q0 X n (Ax nu K c u) (some (.int z.1)) z.2) n (Ax nu K c u) D 7 [(0, .ref (bo X + 3)), (1, .int x1), (2, .int x2)] [] := by
  intro g
  induction g with
  | zero => intro x1 x2 D h; exact absurd h (by simp [f_X5_numberHere_b7])
  | succ g ih =>
    intro x1 x2 D h
    rw [f_X5_numberHere_b7] at h
    refine v_iload_n (pc := 7) O dX5_numberHere_7 2 rfl ?_
    refine v_aload_n (pc := 8) O dX5_numberHere_8 0 rfl ?_
    refine v_getI (pc := 9) (a := 3) O gf_X5_8 fl_X5_54 kq_3 dX5_numberHere_9 ?_
    refine v_icmpge (pc := 12) 44 O dX5_numberHere_12 (by decide) (fun c1 => ?_) (fun c1 => ?_)
    · have h := (if_pos c1).symm.trans h
      refine v_sub [1] rfl ?_
      exact w_X5_numberHere_b44 O hm hn hz x1 D h
    · have h := (if_neg c1).symm.trans h
      refine v_iload_n (pc := 15) O dX5_numberHere_15 2 rfl ?_
      refine v_aload_n (pc := 16) O dX5_numberHere_16 0 rfl ?_
      refine v_getI (pc := 17) (a := 3) O gf_X5_2 fl_X5_23 kq_3 dX5_numberHere_17 ?_
      refine v_icmpge (pc := 20) 44 O dX5_numberHere_20 (by decide) (fun c2 => ?_) (fun c2 => ?_)
      · have h := (if_pos c2).symm.trans h
        refine v_sub [1] rfl ?_
        exact w_X5_numberHere_b44 O hm hn hz x1 D h
      · have h := (if_neg c2).symm.trans h
        refine v_bipush (pc := 23) O dX5_numberHere_23 bp_10 ?_
        refine v_iload_n (pc := 25) O dX5_numberHere_25 1 rfl ?_
        refine v_imul (pc := 26) O dX5_numberHere_26 ?_
        refine v_aload_n (pc := 27) O dX5_numberHere_27 0 rfl ?_
        refine v_getK (pc := 28) (a := 3) O hm gf_X5_1 fl_X5_9 kq_3 lk_3_1 dX5_numberHere_28 ?_
        refine v_iload_n (pc := 31) O dX5_numberHere_31 2 rfl ?_
        obtain ⟨c3, h⟩ := or_none h
        refine v_cald (pc := 32) (a := 4) O kq_4 (inq lq_4 c3) dX5_numberHere_32 ?_
        refine v_bipush (pc := 33) O dX5_numberHere_33 bp_48 ?_
        refine v_isub (pc := 35) O dX5_numberHere_35 ?_
        refine v_iadd (pc := 36) O dX5_numberHere_36 ?_
        refine v_istore_n (pc := 37) (lv' := [(1, .int ((10 * x1) + ((dI D 4 (x2).toNatClampNeg) - 48))), (0, .ref (bo X + 3)), (2, .int x2)]) O dX5_numberHere_37 rfl (by rw [hn]; decide) rfl ?_
        refine v_iinc (pc := 38) (lv' := [(2, .int (x2 + 1)), (1, .int ((10 * x1) + ((dI D 4 (x2).toNatClampNeg) - 48))), (0, .ref (bo X + 3))]) O dX5_numberHere_38 2 rfl (congrArg (fun q => x2 + q) ic_1) (by rw [hn]; decide) rfl ?_
        refine v_goto (pc := 41) 7 O dX5_numberHere_41 (by decide) ?_
        refine v_sub [2, 1, 0] rfl ?_
        exact ih ((10 * x1) + ((dI D 4 (x2).toNatClampNeg) - 48)) (x2 + 1) D h
def f_X5_numberHere (N : Nat) (D : Dat) : Option (Int32 × Dat) :=
  f_X5_numberHere_b7 N N 0 (dI D 3 7) D
set_option maxHeartbeats 4000000 in
theorem w_X5_numberHere {X : Cx} {n nu c u : Nat} {K : Nat → Nat} {N : Nat} (O : Ok X cX5_numberHere RX5 (some .int) 0 0) (hm : wlm (xw X) = true) (hn : xn X = 3) (hz : Z0 X (Ax nu K c u)) (D : Dat) {z : Int32 × Dat} (h : f_X5_numberHere N D = some z) : V X (Q0 X n (Ax nu K c u) (some (.int z.1)) z.2) n (Ax nu K c u) D 0 [(0, .ref (bo X + 3))] [] := by
  unfold f_X5_numberHere at h
  refine v_iconst (pc := 0) O dX5_numberHere_0 ic_0 ?_
  refine v_istore_n (pc := 1) (lv' := [(1, .int 0), (0, .ref (bo X + 3))]) O dX5_numberHere_1 rfl (by rw [hn]; decide) rfl ?_
  refine v_aload_n (pc := 2) O dX5_numberHere_2 1 rfl ?_
  refine v_getI (pc := 3) (a := 3) O gf_X5_7 fl_X5_27 kq_3 dX5_numberHere_3 ?_
  refine v_istore_n (pc := 6) (lv' := [(2, .int (dI D 3 7)), (1, .int 0), (0, .ref (bo X + 3))]) O dX5_numberHere_6 rfl (by rw [hn]; decide) rfl ?_
  refine v_sub [2, 1, 0] rfl ?_
  exact w_X5_numberHere_b7 O hm hn hz N 0 (dI D 3 7) D h
theorem c_X5_numberHere {l : Launch} {w : Wx} {n nu c u : Nat} {K : Nat → Nat} {N : Nat} (hm : wlm w = true) {D : Dat} {z : Int32 × Dat} (h : f_X5_numberHere N D = some z) : C0 l w yX5_numberHere cX5_numberHere 3 (some .int) 0 0 [.ref (wb w + 3)] n (Ax nu K c u) D (some (.int z.1)) z.2 :=
  C0.of (by decide) (Nat.le_of_ble_eq_true rfl) (fun X e1 e2 e3 hz O => by
  subst e1
  subst e2
  exact w_X5_numberHere O hm e3 hz  D h)
def f_X5_nameHere_b40 (s0 : Int32) (D : Dat) : Option (Int32 × Dat) :=
  some (s0, D)
set_option maxHeartbeats 4000000 in
theorem w_X5_nameHere_b40 {X : Cx} {n nu c u : Nat} {K : Nat → Nat} {z : Int32 × Dat} (O : Ok X cX5_nameHere RX5 (some .int) 0 0) (hm : wlm (xw X) = true) (hn : xn X = 1) (hz : Z0 X (Ax nu K c u)) (s0 : Int32) (D : Dat) (h : f_X5_nameHere_b40 s0 D = some z) : V X (Q0 X n (Ax nu K c u) (some (.int z.1)) z.2) n (Ax nu K c u) D 40 [] [.int s0] := by
  unfold f_X5_nameHere_b40 at h
  obtain rfl := Option.some.inj h
  exact v_iret (pc := 40) O hz dX5_nameHere_40
def f_X5_nameHere_b39 (D : Dat) : Option (Int32 × Dat) :=
  f_X5_nameHere_b40 (-1) D
set_option maxHeartbeats 4000000 in
theorem w_X5_nameHere_b39 {X : Cx} {n nu c u : Nat} {K : Nat → Nat} {z : Int32 × Dat} (O : Ok X cX5_nameHere RX5 (some .int) 0 0) (hm : wlm (xw X) = true) (hn : xn X = 1) (hz : Z0 X (Ax nu K c u)) (D : Dat) (h : f_X5_nameHere_b39 D = some z) : V X (Q0 X n (Ax nu K c u) (some (.int z.1)) z.2) n (Ax nu K c u) D 39 [] [] := by
  unfold f_X5_nameHere_b39 at h
  refine v_iconst (pc := 39) O dX5_nameHere_39 ic_m1 ?_
  refine v_sub [] rfl ?_
  exact w_X5_nameHere_b40 O hm hn hz (-1) D h
def f_X5_nameHere (D : Dat) : Option (Int32 × Dat) :=
  if ((dI D 3 8) - (dI D 3 7)) = 1 then (if (dI D 3 2) ≤ (dI D 3 7) then (f_X5_nameHere_b39 D) else (if (dI D 3 7) < 0 ∨ 240 ≤ ((dI D 3 7)).toNatClampNeg then none else (f_X5_nameHere_b40 ((dI D 4 (dI D 3 7).toNatClampNeg) - 97) D))) else (f_X5_nameHere_b39 D)
set_option maxHeartbeats 4000000 in
theorem w_X5_nameHere {X : Cx} {n nu c u : Nat} {K : Nat → Nat} (O : Ok X cX5_nameHere RX5 (some .int) 0 0) (hm : wlm (xw X) = true) (hn : xn X = 1) (hz : Z0 X (Ax nu K c u)) (D : Dat) {z : Int32 × Dat} (h : f_X5_nameHere D = some z) : V X (Q0 X n (Ax nu K c u) (some (.int z.1)) z.2) n (Ax nu K c u) D 0 [(0, .ref (bo X + 3))] [] := by
  unfold f_X5_nameHere at h
  refine v_aload_n (pc := 0) O dX5_nameHere_0 0 rfl ?_
  refine v_getI (pc := 1) (a := 3) O gf_X5_8 fl_X5_54 kq_3 dX5_nameHere_1 ?_
  refine v_aload_n (pc := 4) O dX5_nameHere_4 0 rfl ?_
  refine v_getI (pc := 5) (a := 3) O gf_X5_7 fl_X5_27 kq_3 dX5_nameHere_5 ?_
  refine v_isub (pc := 8) O dX5_nameHere_8 ?_
  refine v_iconst (pc := 9) O dX5_nameHere_9 ic_1 ?_
  refine v_icmpne (pc := 10) 39 O dX5_nameHere_10 (by decide) (fun c1 => ?_) (fun c1 => ?_)
  · have h := (if_neg c1).symm.trans h
    refine v_sub [] rfl ?_
    exact w_X5_nameHere_b39 O hm hn hz D h
  · have h := (if_pos c1).symm.trans h
    refine v_aload_n (pc := 13) O dX5_nameHere_13 0 rfl ?_
    refine v_getI (pc := 14) (a := 3) O gf_X5_7 fl_X5_27 kq_3 dX5_nameHere_14 ?_
    refine v_aload_n (pc := 17) O dX5_nameHere_17 0 rfl ?_
    refine v_getI (pc := 18) (a := 3) O gf_X5_2 fl_X5_23 kq_3 dX5_nameHere_18 ?_
    refine v_icmpge (pc := 21) 39 O dX5_nameHere_21 (by decide) (fun c2 => ?_) (fun c2 => ?_)
    · have h := (if_pos c2).symm.trans h
      refine v_sub [] rfl ?_
      exact w_X5_nameHere_b39 O hm hn hz D h
    · have h := (if_neg c2).symm.trans h
      refine v_aload_n (pc := 24) O dX5_nameHere_24 0 rfl ?_
      refine v_getK (pc := 25) (a := 3) O hm gf_X5_1 fl_X5_9 kq_3 lk_3_1 dX5_nameHere_25 ?_
      refine v_aload_n (pc := 28) O dX5_nameHere_28 0 rfl ?_
      refine v_getI (pc := 29) (a := 3) O gf_X5_7 fl_X5_27 kq_3 dX5_nameHere_29 ?_
      obtain ⟨c3, h⟩ := or_none h
      refine v_cald (pc := 32) (a := 4) O kq_4 (inq lq_4 c3) dX5_nameHere_32 ?_
      refine v_bipush (pc := 33) O dX5_nameHere_33 bp_97 ?_
      refine v_isub (pc := 35) O dX5_nameHere_35 ?_
      refine v_goto (pc := 36) 40 O dX5_nameHere_36 (by decide) ?_
      refine v_sub [] rfl ?_
      exact w_X5_nameHere_b40 O hm hn hz ((dI D 4 (dI D 3 7).toNatClampNeg) - 97) D h
theorem c_X5_nameHere {l : Launch} {w : Wx} {n nu c u : Nat} {K : Nat → Nat} (hm : wlm w = true) {D : Dat} {z : Int32 × Dat} (h : f_X5_nameHere D = some z) : C0 l w yX5_nameHere cX5_nameHere 1 (some .int) 0 0 [.ref (wb w + 3)] n (Ax nu K c u) D (some (.int z.1)) z.2 :=
  C0.of (by decide) (Nat.le_of_ble_eq_true rfl) (fun X e1 e2 e3 hz O => by
  subst e1
  subst e2
  exact w_X5_nameHere O hm e3 hz  D h)
def f_X8_emit_b17 (x1 : Int32) (x2 : Int32) (D : Dat) : Option (Dat) :=
  ((dR D 106 1)).bind (fun a1 => if a1 = 201 ∨ a1 = 204 then ((f_X0_add a1 x1 x2 D).bind (fun p4 => some p4)) else none)
set_option maxHeartbeats 4000000 in
theorem w_X8_emit_b17 {X : Cx} {n nu c u : Nat} {K : Nat → Nat} {z : Dat} (O : Ok X cX8_emit RX8 none 1 22) (hm : wlm (xw X) = true) (hn : xn X = 3) (hz : Z0 X (Ax nu K c u)) (x1 : Int32) (x2 : Int32) (D : Dat) (h : f_X8_emit_b17 x1 x2 D = some z) : V X (Q0 X n (Ax nu K c u) none z) n (Ax nu K c u) D 17 [(0, .ref (bo X + 106)), (1, .int x1), (2, .int x2)] [] := by
  unfold f_X8_emit_b17 at h
  refine v_aload_n (pc := 17) O dX8_emit_17 0 rfl ?_
  refine v_getR (pc := 18) (a := 106) O gf_X8_1 fl_X8_15 kq_106 dX8_emit_18 ?_
  refine v_iload_n (pc := 21) O dX8_emit_21 1 rfl ?_
  refine v_iload_n (pc := 22) O dX8_emit_22 2 rfl ?_
  obtain ⟨a1, e2, h⟩ := bind_some h
  rw [e2]
  obtain ⟨c3, h⟩ := if_none h
  obtain ⟨p4, e5, h⟩ := bind_some h
  refine v_callV (pc := 23) (a := a1) (As := [.int x1, .int x2]) (rest := []) (r := none) (D' := p4) O (bb0 hz) (c_X0_add hm c3 e5) mw_X0_add im_X0_add se_X0_add ml_X8_103 (kt_X0 c3) (by decide) rfl rfl rfl (by decide) (by decide) (Nat.le_of_ble_eq_true rfl) dX8_emit_23 rfl rfl ?_
  obtain rfl := Option.some.inj h
  exact v_ret (pc := 26) O hz dX8_emit_26
def f_X8_emit (x1 : Int32) (x2 : Int32) (D : Dat) : Option (Dat) :=
  ((dR D 106 1)).bind (fun a6 => if a6 = 201 ∨ a6 = 204 then ((f_X0_size a6 D).bind (fun p9 => if p9.1 < 64 then (f_X8_emit_b17 x1 x2 p9.2) else (f_X8_emit_b17 x1 x2 (sI p9.2 106 2 1)))) else none)
set_option maxHeartbeats 4000000 in
theorem w_X8_emit {X : Cx} {n nu c u : Nat} {K : Nat → Nat} (O : Ok X cX8_emit RX8 none 1 22) (hm : wlm (xw X) = true) (hn : xn X = 3) (hz : Z0 X (Ax nu K c u)) (x1 : Int32) (x2 : Int32) (D : Dat) {z : Dat} (h : f_X8_emit x1 x2 D = some z) : V X (Q0 X n (Ax nu K c u) none z) n (Ax nu K c u) D 0 [(0, .ref (bo X + 106)), (1, .int x1), (2, .int x2)] [] := by
  unfold f_X8_emit at h
  refine v_aload_n (pc := 0) O dX8_emit_0 0 rfl ?_
  refine v_getR (pc := 1) (a := 106) O gf_X8_1 fl_X8_15 kq_106 dX8_emit_1 ?_
  obtain ⟨a6, e7, h⟩ := bind_some h
  rw [e7]
  obtain ⟨c8, h⟩ := if_none h
  obtain ⟨p9, e10, h⟩ := bind_some h
  refine v_callV (pc := 4) (a := a6) (As := []) (rest := []) (r := (some (.int p9.1))) (D' := p9.2) O (bb0 hz) (c_X0_size hm c8 e10) mw_X0_size im_X0_size se_X0_size ml_X8_74 (kt_X0 c8) (by decide) rfl rfl rfl (by decide) (by decide) (Nat.le_of_ble_eq_true rfl) dX8_emit_4 rfl rfl ?_
  refine v_bipush (pc := 7) O dX8_emit_7 bp_64 ?_
  refine v_icmplt (pc := 9) 17 O dX8_emit_9 (by decide) (fun c11 => ?_) (fun c11 => ?_)
  · have h := (if_pos c11).symm.trans h
    refine v_sub [0, 1, 2] rfl ?_
    exact w_X8_emit_b17 O hm hn hz x1 x2 p9.2 h
  · have h := (if_neg c11).symm.trans h
    refine v_aload_n (pc := 12) O dX8_emit_12 0 rfl ?_
    refine v_iconst (pc := 13) O dX8_emit_13 ic_1 ?_
    refine v_putZ (pc := 14) (a := 106) O pf_X8_2 fl_X8_24 kq_106 narrow_b1 dX8_emit_14 ?_
    refine v_sub [0, 1, 2] rfl ?_
    exact w_X8_emit_b17 O hm hn hz x1 x2 (sI p9.2 106 2 1) h
theorem c_X8_emit {l : Launch} {w : Wx} {n nu c u : Nat} {K : Nat → Nat} (hm : wlm w = true) {x1 : Int32} {x2 : Int32} {D : Dat} {z : Dat} (h : f_X8_emit x1 x2 D = some z) : C0 l w yX8_emit cX8_emit 3 none 1 22 [.ref (wb w + 106), .int x1, .int x2] n (Ax nu K c u) D none z :=
  C0.of (by decide) (Nat.le_of_ble_eq_true rfl) (fun X e1 e2 e3 hz O => by
  subst e1
  subst e2
  exact w_X8_emit O hm e3 hz x1 x2 D h)
def f_X12_step_b294 (N : Nat) (x1 : Int32) (D : Dat) : Option (Int32 × Dat) :=
  if x1 < 0 ∨ 128 ≤ (x1).toNatClampNeg then none else (some ((dI D 224 (x1).toNatClampNeg), D))
set_option maxHeartbeats 4000000 in
theorem w_X12_step_b294 {X : Cx} {n nu c u : Nat} {K : Nat → Nat} {N : Nat} {z : Int32 × Dat} (O : Ok X cX12_step RX12 (some .int) 5 111) (hm : wlm (xw X) = true) (hn : xn X = 5) (hz : Z0 X (Ax nu K c u)) (x1 : Int32) (D : Dat) (h : f_X12_step_b294 N x1 D = some z) : V X (Q0 X n (Ax nu K c u) (some (.int z.1)) z.2) n (Ax nu K c u) D 294 [(0, .ref (bo X + 207)), (1, .int x1)] [] := by
  unfold f_X12_step_b294 at h
  refine v_aload_n (pc := 294) O dX12_step_294 0 rfl ?_
  refine v_getK (pc := 295) (a := 207) O hm gf_X12_28 fl_X12_66 kq_207 lk_207_28 dX12_step_295 ?_
  refine v_iload_n (pc := 298) O dX12_step_298 1 rfl ?_
  obtain ⟨c1, h⟩ := or_none h
  refine v_iald (pc := 299) (a := 224) O kq_224 (inq lq_224 c1) dX12_step_299 ?_
  obtain rfl := Option.some.inj h
  exact v_iret (pc := 300) O hz dX12_step_300
def f_X12_step_b140 (N : Nat) (x1 : Int32) (x3 : Int32) (x4 : Int32) (D : Dat) : Option (Int32 × Dat) :=
  if 0 ≤ (dI D 207 84) then (f_X12_step_b294 N x1 D) else (if x1 < 0 ∨ 128 ≤ (x1).toNatClampNeg then none else (if ((8 * (dI D 218 (x1).toNatClampNeg)) + x3) < 0 ∨ 208 ≤ (((8 * (dI D 218 (x1).toNatClampNeg)) + x3)).toNatClampNeg then none else (f_X12_step_b294 N x1 (sI D 260 ((8 * (dI D 218 (x1).toNatClampNeg)) + x3).toNatClampNeg x4))))
set_option maxHeartbeats 4000000 in
theorem w_X12_step_b140 {X : Cx} {n nu c u : Nat} {K : Nat → Nat} {N : Nat} {z : Int32 × Dat} (O : Ok X cX12_step RX12 (some .int) 5 111) (hm : wlm (xw X) = true) (hn : xn X = 5) (hz : Z0 X (Ax nu K c u)) (x1 : Int32) (x3 : Int32) (x4 : Int32) (D : Dat) (h : f_X12_step_b140 N x1 x3 x4 D = some z) : V X (Q0 X n (Ax nu K c u) (some (.int z.1)) z.2) n (Ax nu K c u) D 140 [(0, .ref (bo X + 207)), (1, .int x1), (3, .int x3), (4, .int x4)] [] := by
  unfold f_X12_step_b140 at h
  refine v_aload_n (pc := 140) O dX12_step_140 0 rfl ?_
  refine v_getI (pc := 141) (a := 207) O gf_X12_84 fl_X12_475 kq_207 dX12_step_141 ?_
  refine v_ifge (pc := 144) 294 O dX12_step_144 (by decide) (fun c2 => ?_) (fun c2 => ?_)
  · have h := (if_pos c2).symm.trans h
    refine v_sub [0, 1] rfl ?_
    exact w_X12_step_b294 O hm hn hz x1 D h
  · have h := (if_neg c2).symm.trans h
    refine v_aload_n (pc := 147) O dX12_step_147 0 rfl ?_
    refine v_getK (pc := 148) (a := 207) O hm gf_X12_80 fl_X12_174 kq_207 lk_207_80 dX12_step_148 ?_
    refine v_bipush (pc := 151) O dX12_step_151 bp_8 ?_
    refine v_aload_n (pc := 153) O dX12_step_153 0 rfl ?_
    refine v_getK (pc := 154) (a := 207) O hm gf_X12_22 fl_X12_48 kq_207 lk_207_22 dX12_step_154 ?_
    refine v_iload_n (pc := 157) O dX12_step_157 1 rfl ?_
    obtain ⟨c3, h⟩ := or_none h
    refine v_iald (pc := 158) (a := 218) O kq_218 (inq lq_218 c3) dX12_step_158 ?_
    refine v_imul (pc := 159) O dX12_step_159 ?_
    refine v_iload_n (pc := 160) O dX12_step_160 2 rfl ?_
    refine v_iadd (pc := 161) O dX12_step_161 ?_
    refine v_iload (pc := 162) O dX12_step_162 3 rfl ?_
    obtain ⟨c4, h⟩ := or_none h
    refine v_iast (pc := 164) (a := 260) O kq_260 (inq lq_260 c4) dX12_step_164 ?_
    refine v_goto (pc := 165) 294 O dX12_step_165 (by decide) ?_
    refine v_sub [0, 1] rfl ?_
    exact w_X12_step_b294 O hm hn hz x1 (sI D 260 ((8 * (dI D 218 (x1).toNatClampNeg)) + x3).toNatClampNeg x4) h
def f_X12_step_b113 (N : Nat) (x1 : Int32) (x3 : Int32) (s0 : Int32) (D : Dat) : Option (Int32 × Dat) :=
  if 0 ≤ (dI D 207 84) then (f_X12_step_b140 N x1 x3 s0 D) else ((f_X12_out x3 8 D).bind (fun p6 => if p6.1 = 0 then (f_X12_step_b140 N x1 x3 s0 p6.2) else (f_X12_step_b294 N x1 (sI p6.2 207 84 2))))
set_option maxHeartbeats 4000000 in
theorem w_X12_step_b113 {X : Cx} {n nu c u : Nat} {K : Nat → Nat} {N : Nat} {z : Int32 × Dat} (O : Ok X cX12_step RX12 (some .int) 5 111) (hm : wlm (xw X) = true) (hn : xn X = 5) (hz : Z0 X (Ax nu K c u)) (x1 : Int32) (x3 : Int32) (s0 : Int32) (D : Dat) (h : f_X12_step_b113 N x1 x3 s0 D = some z) : V X (Q0 X n (Ax nu K c u) (some (.int z.1)) z.2) n (Ax nu K c u) D 113 [(0, .ref (bo X + 207)), (1, .int x1), (3, .int x3)] [.int s0] := by
  unfold f_X12_step_b113 at h
  refine v_istore (pc := 113) (lv' := [(4, .int s0), (0, .ref (bo X + 207)), (1, .int x1), (3, .int x3)]) O dX12_step_113 (by rw [hn]; decide) rfl ?_
  refine v_aload_n (pc := 115) O dX12_step_115 1 rfl ?_
  refine v_getI (pc := 116) (a := 207) O gf_X12_84 fl_X12_475 kq_207 dX12_step_116 ?_
  refine v_ifge (pc := 119) 140 O dX12_step_119 (by decide) (fun c5 => ?_) (fun c5 => ?_)
  · have h := (if_pos c5).symm.trans h
    refine v_sub [1, 2, 3, 0] rfl ?_
    exact w_X12_step_b140 O hm hn hz x1 x3 s0 D h
  · have h := (if_neg c5).symm.trans h
    refine v_aload_n (pc := 122) O dX12_step_122 1 rfl ?_
    refine v_iload_n (pc := 123) O dX12_step_123 3 rfl ?_
    refine v_bipush (pc := 124) O dX12_step_124 bp_8 ?_
    obtain ⟨p6, e7, h⟩ := bind_some h
    refine v_callV (pc := 126) (a := 207) (As := [.int x3, .int 8]) (rest := []) (r := (some (.int p6.1))) (D' := p6.2) O (bb0 hz) (c_X12_out hm e7) mw_X12_out im_X12_out se_X12_out ml_X12_186 kq_207 (by decide) rfl rfl rfl (by decide) (by decide) (Nat.le_of_ble_eq_true rfl) dX12_step_126 rfl rfl ?_
    refine v_ifeq (pc := 129) 140 O dX12_step_129 (by decide) (fun c8 => ?_) (fun c8 => ?_)
    · have h := (if_pos c8).symm.trans h
      refine v_sub [1, 2, 3, 0] rfl ?_
      exact w_X12_step_b140 O hm hn hz x1 x3 s0 p6.2 h
    · have h := (if_neg c8).symm.trans h
      refine v_aload_n (pc := 132) O dX12_step_132 1 rfl ?_
      refine v_iconst (pc := 133) O dX12_step_133 ic_2 ?_
      refine v_putI (pc := 134) (a := 207) O pf_X12_84 fl_X12_475 kq_207 dX12_step_134 ?_
      refine v_goto (pc := 137) 294 O dX12_step_137 (by decide) ?_
      refine v_sub [1, 2] rfl ?_
      exact w_X12_step_b294 O hm hn hz x1 (sI p6.2 207 84 2) h
def f_X12_step_b287 (N : Nat) (s0 : Int32) (D : Dat) : Option (Int32 × Dat) :=
  some (s0, D)
set_option maxHeartbeats 4000000 in
theorem w_X12_step_b287 {X : Cx} {n nu c u : Nat} {K : Nat → Nat} {N : Nat} {z : Int32 × Dat} (O : Ok X cX12_step RX12 (some .int) 5 111) (hm : wlm (xw X) = true) (hn : xn X = 5) (hz : Z0 X (Ax nu K c u)) (s0 : Int32) (D : Dat) (h : f_X12_step_b287 N s0 D = some z) : V X (Q0 X n (Ax nu K c u) (some (.int z.1)) z.2) n (Ax nu K c u) D 287 [] [.int s0] := by
  unfold f_X12_step_b287 at h
  obtain rfl := Option.some.inj h
  exact v_iret (pc := 287) O hz dX12_step_287
def f_X12_step_b288 (N : Nat) (x1 : Int32) (D : Dat) : Option (Int32 × Dat) :=
  (f_X12_round N x1 D).bind (fun p9 => some (p9.1, p9.2))
set_option maxHeartbeats 4000000 in
theorem w_X12_step_b288 {X : Cx} {n nu c u : Nat} {K : Nat → Nat} {N : Nat} {z : Int32 × Dat} (O : Ok X cX12_step RX12 (some .int) 5 111) (hm : wlm (xw X) = true) (hn : xn X = 5) (hz : Z0 X (Ax nu K c u)) (x1 : Int32) (D : Dat) (h : f_X12_step_b288 N x1 D = some z) : V X (Q0 X n (Ax nu K c u) (some (.int z.1)) z.2) n (Ax nu K c u) D 288 [(0, .ref (bo X + 207)), (1, .int x1)] [] := by
  unfold f_X12_step_b288 at h
  refine v_aload_n (pc := 288) O dX12_step_288 0 rfl ?_
  refine v_iload_n (pc := 289) O dX12_step_289 1 rfl ?_
  obtain ⟨p9, e10, h⟩ := bind_some h
  refine v_callV (pc := 290) (a := 207) (As := [.int x1]) (rest := []) (r := (some (.int p9.1))) (D' := p9.2) O (bb0 hz) (c_X12_round hm e10) mw_X12_round im_X12_round se_X12_round ml_X12_502 kq_207 (by decide) rfl rfl rfl (by decide) (by decide) (Nat.le_of_ble_eq_true rfl) dX12_step_290 rfl rfl ?_
  obtain rfl := Option.some.inj h
  exact v_iret (pc := 293) O hz dX12_step_293
def f_X12_step (N : Nat) (x1 : Int32) (D : Dat) : Option (Int32 × Dat) :=
  if x1 < 0 ∨ 128 ≤ (x1).toNatClampNeg then none else (if (dI D 216 (x1).toNatClampNeg) = (1 : Int32) then (if x1 < 0 ∨ 128 ≤ (x1).toNatClampNeg then none else ((f_X12_worth N (dI D 221 (x1).toNatClampNeg) D).bind (fun p14 => if 0 ≤ (dI p14.2 207 84) then (f_X12_step_b294 N x1 p14.2) else (if x1 < 0 ∨ 128 ≤ (x1).toNatClampNeg then none else (if (dI p14.2 218 (x1).toNatClampNeg) < 0 ∨ 26 ≤ ((dI p14.2 218 (x1).toNatClampNeg)).toNatClampNeg then none else (f_X12_step_b294 N x1 (sI p14.2 259 (dI p14.2 218 (x1).toNatClampNeg).toNatClampNeg p14.1))))))) else (if (dI D 216 (x1).toNatClampNeg) = (2 : Int32) then (if x1 < 0 ∨ 128 ≤ (x1).toNatClampNeg then none else ((f_X12_worth N (dI D 220 (x1).toNatClampNeg) D).bind (fun p21 => if 0 ≤ (dI p21.2 207 84) then (f_X12_step_b113 N x1 p21.1 0 p21.2) else (if x1 < 0 ∨ 128 ≤ (x1).toNatClampNeg then none else ((f_X12_worth N (dI p21.2 221 (x1).toNatClampNeg) p21.2).bind (fun p25 => f_X12_step_b113 N x1 p21.1 p25.1 p25.2)))))) else (if (dI D 216 (x1).toNatClampNeg) = (3 : Int32) then ((f_X12_push 3 x1 D).bind (fun p28 => if x1 < 0 ∨ 128 ≤ (x1).toNatClampNeg then none else ((f_X12_worth N (dI p28 220 (x1).toNatClampNeg) p28).bind (fun p31 => if p31.1 = 0 then (if x1 < 0 ∨ 128 ≤ (x1).toNatClampNeg then none else (f_X12_step_b287 N (dI p31.2 223 (x1).toNatClampNeg) p31.2)) else (if x1 < 0 ∨ 128 ≤ (x1).toNatClampNeg then none else (f_X12_step_b287 N (dI p31.2 222 (x1).toNatClampNeg) p31.2)))))) else (if (dI D 216 (x1).toNatClampNeg) = (5 : Int32) then (if x1 < 0 ∨ 128 ≤ (x1).toNatClampNeg then none else (if x1 < 0 ∨ 128 ≤ (x1).toNatClampNeg then none else ((f_X12_input (dI D 219 (x1).toNatClampNeg) D).bind (fun p39 => if (dI D 218 (x1).toNatClampNeg) < 0 ∨ 26 ≤ ((dI D 218 (x1).toNatClampNeg)).toNatClampNeg then none else (f_X12_step_b294 N x1 (sI p39.2 259 (dI D 218 (x1).toNatClampNeg).toNatClampNeg p39.1)))))) else (if (dI D 216 (x1).toNatClampNeg) = (6 : Int32) then (if x1 < 0 ∨ 128 ≤ (x1).toNatClampNeg then none else ((f_X12_worth N (dI D 220 (x1).toNatClampNeg) D).bind (fun p44 => (f_X12_give p44.1 p44.2).bind (fun p46 => if 0 ≤ (dI p46 207 84) then (f_X12_step_b294 N x1 p46) else (if x1 < 0 ∨ 128 ≤ (x1).toNatClampNeg then none else ((f_X12_write (dI p46 219 (x1).toNatClampNeg) p46).bind (fun p50 => f_X12_step_b294 N x1 p50))))))) else (if (dI D 216 (x1).toNatClampNeg) = (7 : Int32) then ((f_X12_push 7 x1 D).bind (fun p53 => if x1 < 0 ∨ 128 ≤ (x1).toNatClampNeg then none else (if ((26 * (dI p53 207 19)) + (dI p53 218 (x1).toNatClampNeg)) < 0 ∨ 52 ≤ (((26 * (dI p53 207 19)) + (dI p53 218 (x1).toNatClampNeg))).toNatClampNeg then none else (some ((dI p53 227 ((26 * (dI p53 207 19)) + (dI p53 218 (x1).toNatClampNeg)).toNatClampNeg), p53))))) else (f_X12_step_b288 N x1 D)))))))
set_option maxHeartbeats 4000000 in
theorem w_X12_step {X : Cx} {n nu c u : Nat} {K : Nat → Nat} {N : Nat} (O : Ok X cX12_step RX12 (some .int) 5 111) (hm : wlm (xw X) = true) (hn : xn X = 5) (hz : Z0 X (Ax nu K c u)) (x1 : Int32) (D : Dat) {z : Int32 × Dat} (h : f_X12_step N x1 D = some z) : V X (Q0 X n (Ax nu K c u) (some (.int z.1)) z.2) n (Ax nu K c u) D 0 [(0, .ref (bo X + 207)), (1, .int x1)] [] := by
  unfold f_X12_step at h
  refine v_aload_n (pc := 0) O dX12_step_0 0 rfl ?_
  refine v_getK (pc := 1) (a := 207) O hm gf_X12_20 fl_X12_42 kq_207 lk_207_20 dX12_step_1 ?_
  refine v_iload_n (pc := 4) O dX12_step_4 1 rfl ?_
  obtain ⟨c11, h⟩ := or_none h
  refine v_iald (pc := 5) (a := 216) O kq_216 (inq lq_216 c11) dX12_step_5 ?_
  by_cases c12 : (dI D 216 (x1).toNatClampNeg) = (1 : Int32)
  · have h := (if_pos c12).symm.trans h
    refine v_tableIn (pc := 6) 48 O dX12_step_6 (by rw [c12]; decide) (by rw [c12]; decide) (by rw [c12]; rfl) (by decide) ?_
    refine v_aload_n (pc := 48) O dX12_step_48 0 rfl ?_
    refine v_aload_n (pc := 49) O dX12_step_49 0 rfl ?_
    refine v_getK (pc := 50) (a := 207) O hm gf_X12_25 fl_X12_57 kq_207 lk_207_25 dX12_step_50 ?_
    refine v_iload_n (pc := 53) O dX12_step_53 1 rfl ?_
    obtain ⟨c13, h⟩ := or_none h
    refine v_iald (pc := 54) (a := 221) O kq_221 (inq lq_221 c13) dX12_step_54 ?_
    obtain ⟨p14, e15, h⟩ := bind_some h
    refine v_callV (pc := 55) (a := 207) (As := [.int (dI D 221 (x1).toNatClampNeg)]) (rest := []) (r := (some (.int p14.1))) (D' := p14.2) O (bb0 hz) (c_X12_worth hm e15) mw_X12_worth im_X12_worth se_X12_worth ml_X12_499 kq_207 (by decide) rfl rfl rfl (by decide) (by decide) (Nat.le_of_ble_eq_true rfl) dX12_step_55 rfl rfl ?_
    refine v_istore_n (pc := 58) (lv' := [(2, .int p14.1), (0, .ref (bo X + 207)), (1, .int x1)]) O dX12_step_58 rfl (by rw [hn]; decide) rfl ?_
    refine v_aload_n (pc := 59) O dX12_step_59 1 rfl ?_
    refine v_getI (pc := 60) (a := 207) O gf_X12_84 fl_X12_475 kq_207 dX12_step_60 ?_
    refine v_ifge (pc := 63) 294 O dX12_step_63 (by decide) (fun c16 => ?_) (fun c16 => ?_)
    · have h := (if_pos c16).symm.trans h
      refine v_sub [1, 2] rfl ?_
      exact w_X12_step_b294 O hm hn hz x1 p14.2 h
    · have h := (if_neg c16).symm.trans h
      refine v_aload_n (pc := 66) O dX12_step_66 1 rfl ?_
      refine v_getK (pc := 67) (a := 207) O hm gf_X12_79 fl_X12_171 kq_207 lk_207_79 dX12_step_67 ?_
      refine v_aload_n (pc := 70) O dX12_step_70 1 rfl ?_
      refine v_getK (pc := 71) (a := 207) O hm gf_X12_22 fl_X12_48 kq_207 lk_207_22 dX12_step_71 ?_
      refine v_iload_n (pc := 74) O dX12_step_74 2 rfl ?_
      obtain ⟨c17, h⟩ := or_none h
      refine v_iald (pc := 75) (a := 218) O kq_218 (inq lq_218 c17) dX12_step_75 ?_
      refine v_iload_n (pc := 76) O dX12_step_76 0 rfl ?_
      obtain ⟨c18, h⟩ := or_none h
      refine v_iast (pc := 77) (a := 259) O kq_259 (inq lq_259 c18) dX12_step_77 ?_
      refine v_goto (pc := 78) 294 O dX12_step_78 (by decide) ?_
      refine v_sub [1, 2] rfl ?_
      exact w_X12_step_b294 O hm hn hz x1 (sI p14.2 259 (dI p14.2 218 (x1).toNatClampNeg).toNatClampNeg p14.1) h
  · have h := (if_neg c12).symm.trans h
    by_cases c19 : (dI D 216 (x1).toNatClampNeg) = (2 : Int32)
    · have h := (if_pos c19).symm.trans h
      refine v_tableIn (pc := 6) 81 O dX12_step_6 (by rw [c19]; decide) (by rw [c19]; decide) (by rw [c19]; rfl) (by decide) ?_
      refine v_aload_n (pc := 81) O dX12_step_81 0 rfl ?_
      refine v_aload_n (pc := 82) O dX12_step_82 0 rfl ?_
      refine v_getK (pc := 83) (a := 207) O hm gf_X12_24 fl_X12_54 kq_207 lk_207_24 dX12_step_83 ?_
      refine v_iload_n (pc := 86) O dX12_step_86 1 rfl ?_
      obtain ⟨c20, h⟩ := or_none h
      refine v_iald (pc := 87) (a := 220) O kq_220 (inq lq_220 c20) dX12_step_87 ?_
      obtain ⟨p21, e22, h⟩ := bind_some h
      refine v_callV (pc := 88) (a := 207) (As := [.int (dI D 220 (x1).toNatClampNeg)]) (rest := []) (r := (some (.int p21.1))) (D' := p21.2) O (bb0 hz) (c_X12_worth hm e22) mw_X12_worth im_X12_worth se_X12_worth ml_X12_499 kq_207 (by decide) rfl rfl rfl (by decide) (by decide) (Nat.le_of_ble_eq_true rfl) dX12_step_88 rfl rfl ?_
      refine v_istore_n (pc := 91) (lv' := [(3, .int p21.1), (0, .ref (bo X + 207)), (1, .int x1)]) O dX12_step_91 rfl (by rw [hn]; decide) rfl ?_
      refine v_aload_n (pc := 92) O dX12_step_92 1 rfl ?_
      refine v_getI (pc := 93) (a := 207) O gf_X12_84 fl_X12_475 kq_207 dX12_step_93 ?_
      refine v_ifge (pc := 96) 112 O dX12_step_96 (by decide) (fun c23 => ?_) (fun c23 => ?_)
      · have h := (if_pos c23).symm.trans h
        refine v_iconst (pc := 112) O dX12_step_112 ic_0 ?_
        refine v_sub [1, 2, 0] rfl ?_
        exact w_X12_step_b113 O hm hn hz x1 p21.1 0 p21.2 h
      · have h := (if_neg c23).symm.trans h
        refine v_aload_n (pc := 99) O dX12_step_99 1 rfl ?_
        refine v_aload_n (pc := 100) O dX12_step_100 1 rfl ?_
        refine v_getK (pc := 101) (a := 207) O hm gf_X12_25 fl_X12_57 kq_207 lk_207_25 dX12_step_101 ?_
        refine v_iload_n (pc := 104) O dX12_step_104 2 rfl ?_
        obtain ⟨c24, h⟩ := or_none h
        refine v_iald (pc := 105) (a := 221) O kq_221 (inq lq_221 c24) dX12_step_105 ?_
        obtain ⟨p25, e26, h⟩ := bind_some h
        refine v_callV (pc := 106) (a := 207) (As := [.int (dI p21.2 221 (x1).toNatClampNeg)]) (rest := []) (r := (some (.int p25.1))) (D' := p25.2) O (bb0 hz) (c_X12_worth hm e26) mw_X12_worth im_X12_worth se_X12_worth ml_X12_499 kq_207 (by decide) rfl rfl rfl (by decide) (by decide) (Nat.le_of_ble_eq_true rfl) dX12_step_106 rfl rfl ?_
        refine v_goto (pc := 109) 113 O dX12_step_109 (by decide) ?_
        refine v_sub [1, 2, 0] rfl ?_
        exact w_X12_step_b113 O hm hn hz x1 p21.1 p25.1 p25.2 h
    · have h := (if_neg c19).symm.trans h
      by_cases c27 : (dI D 216 (x1).toNatClampNeg) = (3 : Int32)
      · have h := (if_pos c27).symm.trans h
        refine v_tableIn (pc := 6) 253 O dX12_step_6 (by rw [c27]; decide) (by rw [c27]; decide) (by rw [c27]; rfl) (by decide) ?_
        refine v_aload_n (pc := 253) O dX12_step_253 0 rfl ?_
        refine v_iconst (pc := 254) O dX12_step_254 ic_3 ?_
        refine v_iload_n (pc := 255) O dX12_step_255 1 rfl ?_
        obtain ⟨p28, e29, h⟩ := bind_some h
        refine v_callV (pc := 256) (a := 207) (As := [.int 3, .int x1]) (rest := []) (r := none) (D' := p28) O (bb0 hz) (c_X12_push hm e29) mw_X12_push im_X12_push se_X12_push ml_X12_367 kq_207 (by decide) rfl rfl rfl (by decide) (by decide) (Nat.le_of_ble_eq_true rfl) dX12_step_256 rfl rfl ?_
        refine v_aload_n (pc := 259) O dX12_step_259 0 rfl ?_
        refine v_aload_n (pc := 260) O dX12_step_260 0 rfl ?_
        refine v_getK (pc := 261) (a := 207) O hm gf_X12_24 fl_X12_54 kq_207 lk_207_24 dX12_step_261 ?_
        refine v_iload_n (pc := 264) O dX12_step_264 1 rfl ?_
        obtain ⟨c30, h⟩ := or_none h
        refine v_iald (pc := 265) (a := 220) O kq_220 (inq lq_220 c30) dX12_step_265 ?_
        obtain ⟨p31, e32, h⟩ := bind_some h
        refine v_callV (pc := 266) (a := 207) (As := [.int (dI p28 220 (x1).toNatClampNeg)]) (rest := []) (r := (some (.int p31.1))) (D' := p31.2) O (bb0 hz) (c_X12_worth hm e32) mw_X12_worth im_X12_worth se_X12_worth ml_X12_499 kq_207 (by decide) rfl rfl rfl (by decide) (by decide) (Nat.le_of_ble_eq_true rfl) dX12_step_266 rfl rfl ?_
        refine v_ifeq (pc := 269) 281 O dX12_step_269 (by decide) (fun c33 => ?_) (fun c33 => ?_)
        · have h := (if_pos c33).symm.trans h
          refine v_aload_n (pc := 281) O dX12_step_281 0 rfl ?_
          refine v_getK (pc := 282) (a := 207) O hm gf_X12_27 fl_X12_63 kq_207 lk_207_27 dX12_step_282 ?_
          refine v_iload_n (pc := 285) O dX12_step_285 1 rfl ?_
          obtain ⟨c34, h⟩ := or_none h
          refine v_iald (pc := 286) (a := 223) O kq_223 (inq lq_223 c34) dX12_step_286 ?_
          refine v_sub [] rfl ?_
          exact w_X12_step_b287 O hm hn hz (dI p31.2 223 (x1).toNatClampNeg) p31.2 h
        · have h := (if_neg c33).symm.trans h
          refine v_aload_n (pc := 272) O dX12_step_272 0 rfl ?_
          refine v_getK (pc := 273) (a := 207) O hm gf_X12_26 fl_X12_60 kq_207 lk_207_26 dX12_step_273 ?_
          refine v_iload_n (pc := 276) O dX12_step_276 1 rfl ?_
          obtain ⟨c35, h⟩ := or_none h
          refine v_iald (pc := 277) (a := 222) O kq_222 (inq lq_222 c35) dX12_step_277 ?_
          refine v_goto (pc := 278) 287 O dX12_step_278 (by decide) ?_
          refine v_sub [] rfl ?_
          exact w_X12_step_b287 O hm hn hz (dI p31.2 222 (x1).toNatClampNeg) p31.2 h
      · have h := (if_neg c27).symm.trans h
        by_cases c36 : (dI D 216 (x1).toNatClampNeg) = (5 : Int32)
        · have h := (if_pos c36).symm.trans h
          refine v_tableIn (pc := 6) 168 O dX12_step_6 (by rw [c36]; decide) (by rw [c36]; decide) (by rw [c36]; rfl) (by decide) ?_
          refine v_aload_n (pc := 168) O dX12_step_168 0 rfl ?_
          refine v_getK (pc := 169) (a := 207) O hm gf_X12_79 fl_X12_171 kq_207 lk_207_79 dX12_step_169 ?_
          refine v_aload_n (pc := 172) O dX12_step_172 0 rfl ?_
          refine v_getK (pc := 173) (a := 207) O hm gf_X12_22 fl_X12_48 kq_207 lk_207_22 dX12_step_173 ?_
          refine v_iload_n (pc := 176) O dX12_step_176 1 rfl ?_
          obtain ⟨c37, h⟩ := or_none h
          refine v_iald (pc := 177) (a := 218) O kq_218 (inq lq_218 c37) dX12_step_177 ?_
          refine v_aload_n (pc := 178) O dX12_step_178 0 rfl ?_
          refine v_aload_n (pc := 179) O dX12_step_179 0 rfl ?_
          refine v_getK (pc := 180) (a := 207) O hm gf_X12_23 fl_X12_51 kq_207 lk_207_23 dX12_step_180 ?_
          refine v_iload_n (pc := 183) O dX12_step_183 1 rfl ?_
          obtain ⟨c38, h⟩ := or_none h
          refine v_iald (pc := 184) (a := 219) O kq_219 (inq lq_219 c38) dX12_step_184 ?_
          obtain ⟨p39, e40, h⟩ := bind_some h
          refine v_callV (pc := 185) (a := 207) (As := [.int (dI D 219 (x1).toNatClampNeg)]) (rest := [.int (dI D 218 (x1).toNatClampNeg), .ref (bo X + 259)]) (r := (some (.int p39.1))) (D' := p39.2) O (bb0 hz) (c_X12_input hm e40) mw_X12_input im_X12_input se_X12_input ml_X12_484 kq_207 (by decide) rfl rfl rfl (by decide) (by decide) (Nat.le_of_ble_eq_true rfl) dX12_step_185 rfl rfl ?_
          obtain ⟨c41, h⟩ := or_none h
          refine v_iast (pc := 188) (a := 259) O kq_259 (inq lq_259 c41) dX12_step_188 ?_
          refine v_goto (pc := 189) 294 O dX12_step_189 (by decide) ?_
          refine v_sub [0, 1] rfl ?_
          exact w_X12_step_b294 O hm hn hz x1 (sI p39.2 259 (dI D 218 (x1).toNatClampNeg).toNatClampNeg p39.1) h
        · have h := (if_neg c36).symm.trans h
          by_cases c42 : (dI D 216 (x1).toNatClampNeg) = (6 : Int32)
          · have h := (if_pos c42).symm.trans h
            refine v_tableIn (pc := 6) 192 O dX12_step_6 (by rw [c42]; decide) (by rw [c42]; decide) (by rw [c42]; rfl) (by decide) ?_
            refine v_aload_n (pc := 192) O dX12_step_192 0 rfl ?_
            refine v_aload_n (pc := 193) O dX12_step_193 0 rfl ?_
            refine v_aload_n (pc := 194) O dX12_step_194 0 rfl ?_
            refine v_getK (pc := 195) (a := 207) O hm gf_X12_24 fl_X12_54 kq_207 lk_207_24 dX12_step_195 ?_
            refine v_iload_n (pc := 198) O dX12_step_198 1 rfl ?_
            obtain ⟨c43, h⟩ := or_none h
            refine v_iald (pc := 199) (a := 220) O kq_220 (inq lq_220 c43) dX12_step_199 ?_
            obtain ⟨p44, e45, h⟩ := bind_some h
            refine v_callV (pc := 200) (a := 207) (As := [.int (dI D 220 (x1).toNatClampNeg)]) (rest := [.ref (bo X + 207)]) (r := (some (.int p44.1))) (D' := p44.2) O (bb0 hz) (c_X12_worth hm e45) mw_X12_worth im_X12_worth se_X12_worth ml_X12_499 kq_207 (by decide) rfl rfl rfl (by decide) (by decide) (Nat.le_of_ble_eq_true rfl) dX12_step_200 rfl rfl ?_
            obtain ⟨p46, e47, h⟩ := bind_some h
            refine v_callV (pc := 203) (a := 207) (As := [.int p44.1]) (rest := []) (r := none) (D' := p46) O (bb0 hz) (c_X12_give hm e47) mw_X12_give im_X12_give se_X12_give ml_X12_481 kq_207 (by decide) rfl rfl rfl (by decide) (by decide) (Nat.le_of_ble_eq_true rfl) dX12_step_203 rfl rfl ?_
            refine v_aload_n (pc := 206) O dX12_step_206 0 rfl ?_
            refine v_getI (pc := 207) (a := 207) O gf_X12_84 fl_X12_475 kq_207 dX12_step_207 ?_
            refine v_ifge (pc := 210) 294 O dX12_step_210 (by decide) (fun c48 => ?_) (fun c48 => ?_)
            · have h := (if_pos c48).symm.trans h
              refine v_sub [0, 1] rfl ?_
              exact w_X12_step_b294 O hm hn hz x1 p46 h
            · have h := (if_neg c48).symm.trans h
              refine v_aload_n (pc := 213) O dX12_step_213 0 rfl ?_
              refine v_aload_n (pc := 214) O dX12_step_214 0 rfl ?_
              refine v_getK (pc := 215) (a := 207) O hm gf_X12_23 fl_X12_51 kq_207 lk_207_23 dX12_step_215 ?_
              refine v_iload_n (pc := 218) O dX12_step_218 1 rfl ?_
              obtain ⟨c49, h⟩ := or_none h
              refine v_iald (pc := 219) (a := 219) O kq_219 (inq lq_219 c49) dX12_step_219 ?_
              obtain ⟨p50, e51, h⟩ := bind_some h
              refine v_callV (pc := 220) (a := 207) (As := [.int (dI p46 219 (x1).toNatClampNeg)]) (rest := []) (r := none) (D' := p50) O (bb0 hz) (c_X12_write hm e51) mw_X12_write im_X12_write se_X12_write ml_X12_487 kq_207 (by decide) rfl rfl rfl (by decide) (by decide) (Nat.le_of_ble_eq_true rfl) dX12_step_220 rfl rfl ?_
              refine v_goto (pc := 223) 294 O dX12_step_223 (by decide) ?_
              refine v_sub [0, 1] rfl ?_
              exact w_X12_step_b294 O hm hn hz x1 p50 h
          · have h := (if_neg c42).symm.trans h
            by_cases c52 : (dI D 216 (x1).toNatClampNeg) = (7 : Int32)
            · have h := (if_pos c52).symm.trans h
              refine v_tableIn (pc := 6) 226 O dX12_step_6 (by rw [c52]; decide) (by rw [c52]; decide) (by rw [c52]; rfl) (by decide) ?_
              refine v_aload_n (pc := 226) O dX12_step_226 0 rfl ?_
              refine v_bipush (pc := 227) O dX12_step_227 bp_7 ?_
              refine v_iload_n (pc := 229) O dX12_step_229 1 rfl ?_
              obtain ⟨p53, e54, h⟩ := bind_some h
              refine v_callV (pc := 230) (a := 207) (As := [.int 7, .int x1]) (rest := []) (r := none) (D' := p53) O (bb0 hz) (c_X12_push hm e54) mw_X12_push im_X12_push se_X12_push ml_X12_367 kq_207 (by decide) rfl rfl rfl (by decide) (by decide) (Nat.le_of_ble_eq_true rfl) dX12_step_230 rfl rfl ?_
              refine v_aload_n (pc := 233) O dX12_step_233 0 rfl ?_
              refine v_getK (pc := 234) (a := 207) O hm gf_X12_31 fl_X12_75 kq_207 lk_207_31 dX12_step_234 ?_
              refine v_bipush (pc := 237) O dX12_step_237 bp_26 ?_
              refine v_aload_n (pc := 239) O dX12_step_239 0 rfl ?_
              refine v_getI (pc := 240) (a := 207) O gf_X12_19 fl_X12_335 kq_207 dX12_step_240 ?_
              refine v_imul (pc := 243) O dX12_step_243 ?_
              refine v_aload_n (pc := 244) O dX12_step_244 0 rfl ?_
              refine v_getK (pc := 245) (a := 207) O hm gf_X12_22 fl_X12_48 kq_207 lk_207_22 dX12_step_245 ?_
              refine v_iload_n (pc := 248) O dX12_step_248 1 rfl ?_
              obtain ⟨c55, h⟩ := or_none h
              refine v_iald (pc := 249) (a := 218) O kq_218 (inq lq_218 c55) dX12_step_249 ?_
              refine v_iadd (pc := 250) O dX12_step_250 ?_
              obtain ⟨c56, h⟩ := or_none h
              refine v_iald (pc := 251) (a := 227) O kq_227 (inq lq_227 c56) dX12_step_251 ?_
              obtain rfl := Option.some.inj h
              exact v_iret (pc := 252) O hz dX12_step_252
            · have h := (if_neg c52).symm.trans h
              refine v_table (pc := 6) 288 O dX12_step_6 (fun g1 g2 => by
                  have c12i := ne_i (1) rfl c12
                  have c19i := ne_i (2) rfl c19
                  have c27i := ne_i (3) rfl c27
                  have c36i := ne_i (5) rfl c36
                  have c42i := ne_i (6) rfl c42
                  have c52i := ne_i (7) rfl c52
                  have e9 : (dI D 216 (x1).toNatClampNeg).toInt = 4 := by omega
                  rw [e9]; exact ⟨_, rfl, by decide⟩) (by decide) ?_
              refine v_sub [0, 1] rfl ?_
              exact w_X12_step_b288 O hm hn hz x1 D h
theorem c_X12_step {l : Launch} {w : Wx} {n nu c u : Nat} {K : Nat → Nat} {N : Nat} (hm : wlm w = true) {x1 : Int32} {D : Dat} {z : Int32 × Dat} (h : f_X12_step N x1 D = some z) : C0 l w yX12_step cX12_step 5 (some .int) 5 111 [.ref (wb w + 207), .int x1] n (Ax nu K c u) D (some (.int z.1)) z.2 :=
  C0.of (by decide) (Nat.le_of_ble_eq_true rfl) (fun X e1 e2 e3 hz O => by
  subst e1
  subst e2
  exact w_X12_step O hm e3 hz x1 D h)
