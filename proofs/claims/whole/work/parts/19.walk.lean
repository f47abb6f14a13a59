theorem fl_X12_132 : Cond.fieldLink RX12 132 RX12 (TX12 66).2.1 (TX12 66).2.2.1 ∈ tb := tb_of 1786 (by decide +kernel) (by decide +kernel)
theorem gf_X12_66 : FI 12 RX12 TX12 85 tyX12 66 3 := ⟨rfl, inb_X12, tyX12_ok, nmX12, by decide, by decide, rfl, rfl, rfl⟩
theorem lk_207_66 : lks 207 66 = some 246 := by decide +kernel
theorem kq_246 {nu c u : Nat} {K : Nat → Nat} : (Ax nu K c u).1 246 = 16 := kd_lt (K := K) (a := 246) (by decide) rfl
theorem lq_246 {nu c u : Nat} {K : Nat → Nat} : (Ax nu K c u).2.1 246 = 64 := rfl
theorem fl_X12_129 : Cond.fieldLink RX12 129 RX12 (TX12 65).2.1 (TX12 65).2.2.1 ∈ tb := tb_of 1785 (by decide +kernel) (by decide +kernel)
theorem gf_X12_65 : FI 12 RX12 TX12 85 tyX12 65 3 := ⟨rfl, inb_X12, tyX12_ok, nmX12, by decide, by decide, rfl, rfl, rfl⟩
theorem lk_207_65 : lks 207 65 = some 245 := by decide +kernel
theorem kq_245 {nu c u : Nat} {K : Nat → Nat} : (Ax nu K c u).1 245 = 14 := kd_lt (K := K) (a := 245) (by decide) rfl
theorem lq_245 {nu c u : Nat} {K : Nat → Nat} : (Ax nu K c u).2.1 245 = 64 := rfl
theorem cw_X12_takes : Cond.code yX12_takes cX12_takes 2 (some .int) ∈ tb := tb_of 2227 (by decide +kernel) (by decide +kernel)
theorem mw_X12_takes : MW yX12_takes cX12_takes 2 (some .int) 1 := ⟨cw_X12_takes, ini_X12, by decide +kernel⟩
theorem im_X12_takes : Cond.instanceMethod yX12_takes ∈ tb := tb_of 2226 (by decide +kernel) (by decide +kernel)
theorem se_X12_takes : Cond.selects (yX12_takes).cls yX12_takes yX12_takes ∈ tb := tb_of 135 (by decide +kernel) (by decide +kernel)
theorem ml_X12_418 : Cond.methodLink RX12 418 yX12_takes ∈ tb := tb_of 2224 (by decide +kernel) (by decide +kernel)
theorem cw_X12_puts : Cond.code yX12_puts cX12_puts 2 (some .int) ∈ tb := tb_of 2231 (by decide +kernel) (by decide +kernel)
theorem mw_X12_puts : MW yX12_puts cX12_puts 2 (some .int) 1 := ⟨cw_X12_puts, ini_X12, by decide +kernel⟩
theorem im_X12_puts : Cond.instanceMethod yX12_puts ∈ tb := tb_of 2230 (by decide +kernel) (by decide +kernel)
theorem se_X12_puts : Cond.selects (yX12_puts).cls yX12_puts yX12_puts ∈ tb := tb_of 136 (by decide +kernel) (by decide +kernel)
theorem ml_X12_421 : Cond.methodLink RX12 421 yX12_puts ∈ tb := tb_of 2228 (by decide +kernel) (by decide +kernel)
theorem bp_30 : (Int8.ofInt (30)).toInt32 = (30 : Int32) := by decide
theorem cw_X12_nextOf : Cond.code yX12_nextOf cX12_nextOf 3 (some .int) ∈ tb := tb_of 2235 (by decide +kernel) (by decide +kernel)
theorem mw_X12_nextOf : MW yX12_nextOf cX12_nextOf 3 (some .int) 2 := ⟨cw_X12_nextOf, ini_X12, by decide +kernel⟩
theorem im_X12_nextOf : Cond.instanceMethod yX12_nextOf ∈ tb := tb_of 2234 (by decide +kernel) (by decide +kernel)
theorem se_X12_nextOf : Cond.selects (yX12_nextOf).cls yX12_nextOf yX12_nextOf ∈ tb := tb_of 137 (by decide +kernel) (by decide +kernel)
theorem ml_X12_424 : Cond.methodLink RX12 424 yX12_nextOf ∈ tb := tb_of 2232 (by decide +kernel) (by decide +kernel)
theorem fl_X12_150 : Cond.fieldLink RX12 150 RX12 (TX12 72).2.1 (TX12 72).2.2.1 ∈ tb := tb_of 1792 (by decide +kernel) (by decide +kernel)
theorem gf_X12_72 : FI 12 RX12 TX12 85 tyX12 72 3 := ⟨rfl, inb_X12, tyX12_ok, nmX12, by decide, by decide, rfl, rfl, rfl⟩
theorem lk_207_72 : lks 207 72 = some 252 := by decide +kernel
theorem kq_252 {nu c u : Nat} {K : Nat → Nat} : (Ax nu K c u).1 252 = 16 := kd_lt (K := K) (a := 252) (by decide) rfl
theorem lq_252 {nu c u : Nat} {K : Nat → Nat} : (Ax nu K c u).2.1 252 = 64 := rfl
def f_X12_goodX_b37 (s0 : Int32) (D : Dat) : Option (Int32 × Dat) :=
  if s0 &&& 1 = s0 then some (s0, D) else none
set_option maxHeartbeats 4000000 in
theorem w_X12_goodX_b37 {X : Cx} {n nu c u : Nat} {K : Nat → Nat} {z : Int32 × Dat} (O : Ok X cX12_goodX RX12 (some .boolean) 1 22) (hm : wlm (xw X) = true) (hn : xn X = 3) (hz : Z0 X (Ax nu K c u)) (s0 : Int32) (D : Dat) (h : f_X12_goodX_b37 s0 D = some z) : V X (Q0 X n (Ax nu K c u) (some (.int z.1)) z.2) n (Ax nu K c u) D 37 [] [.int s0] := by
  unfold f_X12_goodX_b37 at h
  obtain ⟨c1, h⟩ := if_none h
  obtain rfl := Option.some.inj h
  exact v_zret (pc := 37) O hz (congrArg Value.int c1) dX12_goodX_37
def f_X12_goodX_b72 (s0 : Int32) (D : Dat) : Option (Int32 × Dat) :=
  if s0 &&& 1 = s0 then some (s0, D) else none
set_option maxHeartbeats 4000000 in
theorem w_X12_goodX_b72 {X : Cx} {n nu c u : Nat} {K : Nat → Nat} {z : Int32 × Dat} (O : Ok X cX12_goodX RX12 (some .boolean) 1 22) (hm : wlm (xw X) = true) (hn : xn X = 3) (hz : Z0 X (Ax nu K c u)) (s0 : Int32) (D : Dat) (h : f_X12_goodX_b72 s0 D = some z) : V X (Q0 X n (Ax nu K c u) (some (.int z.1)) z.2) n (Ax nu K c u) D 72 [] [.int s0] := by
  unfold f_X12_goodX_b72 at h
  obtain ⟨c2, h⟩ := if_none h
  obtain rfl := Option.some.inj h
  exact v_zret (pc := 72) O hz (congrArg Value.int c2) dX12_goodX_72
def f_X12_goodX_b50 (x1 : Int32) (D : Dat) : Option (Int32 × Dat) :=
  if x1 < 0 ∨ 64 ≤ (x1).toNatClampNeg then none else ((f_X12_out (dI D 213 (x1).toNatClampNeg) (dI D 207 1) D).bind (fun p4 => if p4.1 = 0 then (f_X12_goodX_b72 1 p4.2) else (f_X12_goodX_b72 0 p4.2)))
set_option maxHeartbeats 4000000 in
theorem w_X12_goodX_b50 {X : Cx} {n nu c u : Nat} {K : Nat → Nat} {z : Int32 × Dat} (O : Ok X cX12_goodX RX12 (some .boolean) 1 22) (hm : wlm (xw X) = true) (hn : xn X = 3) (hz : Z0 X (Ax nu K c u)) (x1 : Int32) (D : Dat) (h : f_X12_goodX_b50 x1 D = some z) : V X (Q0 X n (Ax nu K c u) (some (.int z.1)) z.2) n (Ax nu K c u) D 50 [(0, .ref (bo X + pp 207)), (1, .int x1)] [] := by
  unfold f_X12_goodX_b50 at h
  refine v_aload_n (pc := 50) O dX12_goodX_50 0 rfl ?_
  refine v_aload_n (pc := 51) O dX12_goodX_51 0 rfl ?_
  refine v_getK (pc := 52) (a := 207) O hm gf_X12_12 fl_X12_33 kq_207 lk_207_12 dX12_goodX_52 ?_
  refine v_iload_n (pc := 55) O dX12_goodX_55 1 rfl ?_
  obtain ⟨c3, h⟩ := or_none h
  refine v_iald (pc := 56) (a := 213) O kq_213 (inq lq_213 c3) dX12_goodX_56 ?_
  refine v_aload_n (pc := 57) O dX12_goodX_57 0 rfl ?_
  refine v_getI (pc := 58) (a := 207) O gf_X12_1 fl_X12_180 kq_207 dX12_goodX_58 ?_
  obtain ⟨p4, e5, h⟩ := bind_some h
  refine v_callV (pc := 61) (a := 207) (As := [.int (dI D 213 (x1).toNatClampNeg), .int (dI D 207 1)]) (rest := []) (r := (some (.int p4.1))) (D' := p4.2) O (bb0 hz) (c_X12_out hm e5) mw_X12_out im_X12_out se_X12_out ml_X12_186 kq_207 (by decide) rfl rfl rfl (by decide) (by decide) (Nat.le_of_ble_eq_true rfl) dX12_goodX_61 rfl rfl ?_
  refine v_ifne (pc := 64) 71 O dX12_goodX_64 (by decide) (fun c6 => ?_) (fun c6 => ?_)
  · have h := (if_neg c6).symm.trans h
    refine v_iconst (pc := 71) O dX12_goodX_71 ic_0 ?_
    refine v_sub [] rfl ?_
    exact w_X12_goodX_b72 O hm hn hz 0 p4.2 h
  · have h := (if_pos c6).symm.trans h
    refine v_iconst (pc := 67) O dX12_goodX_67 ic_1 ?_
    refine v_goto (pc := 68) 72 O dX12_goodX_68 (by decide) ?_
    refine v_sub [] rfl ?_
    exact w_X12_goodX_b72 O hm hn hz 1 p4.2 h
def f_X12_goodX_b107 (s0 : Int32) (D : Dat) : Option (Int32 × Dat) :=
  if s0 &&& 1 = s0 then some (s0, D) else none
set_option maxHeartbeats 4000000 in
theorem w_X12_goodX_b107 {X : Cx} {n nu c u : Nat} {K : Nat → Nat} {z : Int32 × Dat} (O : Ok X cX12_goodX RX12 (some .boolean) 1 22) (hm : wlm (xw X) = true) (hn : xn X = 3) (hz : Z0 X (Ax nu K c u)) (s0 : Int32) (D : Dat) (h : f_X12_goodX_b107 s0 D = some z) : V X (Q0 X n (Ax nu K c u) (some (.int z.1)) z.2) n (Ax nu K c u) D 107 [] [.int s0] := by
  unfold f_X12_goodX_b107 at h
  obtain ⟨c7, h⟩ := if_none h
  obtain rfl := Option.some.inj h
  exact v_zret (pc := 107) O hz (congrArg Value.int c7) dX12_goodX_107
def f_X12_goodX_b102 (D : Dat) : Option (Int32 × Dat) :=
  f_X12_goodX_b107 1 D
set_option maxHeartbeats 4000000 in
theorem w_X12_goodX_b102 {X : Cx} {n nu c u : Nat} {K : Nat → Nat} {z : Int32 × Dat} (O : Ok X cX12_goodX RX12 (some .boolean) 1 22) (hm : wlm (xw X) = true) (hn : xn X = 3) (hz : Z0 X (Ax nu K c u)) (D : Dat) (h : f_X12_goodX_b102 D = some z) : V X (Q0 X n (Ax nu K c u) (some (.int z.1)) z.2) n (Ax nu K c u) D 102 [] [] := by
  unfold f_X12_goodX_b102 at h
  refine v_iconst (pc := 102) O dX12_goodX_102 ic_1 ?_
  refine v_goto (pc := 103) 107 O dX12_goodX_103 (by decide) ?_
  refine v_sub [] rfl ?_
  exact w_X12_goodX_b107 O hm hn hz 1 D h
def f_X12_goodX_b85 (x1 : Int32) (D : Dat) : Option (Int32 × Dat) :=
  if x1 < 0 ∨ 64 ≤ (x1).toNatClampNeg then none else ((f_X12_out (dI D 213 (x1).toNatClampNeg) (dI D 207 13) D).bind (fun p9 => if p9.1 = 0 then (f_X12_goodX_b102 p9.2) else (f_X12_goodX_b107 0 p9.2)))
set_option maxHeartbeats 4000000 in
theorem w_X12_goodX_b85 {X : Cx} {n nu c u : Nat} {K : Nat → Nat} {z : Int32 × Dat} (O : Ok X cX12_goodX RX12 (some .boolean) 1 22) (hm : wlm (xw X) = true) (hn : xn X = 3) (hz : Z0 X (Ax nu K c u)) (x1 : Int32) (D : Dat) (h : f_X12_goodX_b85 x1 D = some z) : V X (Q0 X n (Ax nu K c u) (some (.int z.1)) z.2) n (Ax nu K c u) D 85 [(0, .ref (bo X + pp 207)), (1, .int x1)] [] := by
  unfold f_X12_goodX_b85 at h
  refine v_aload_n (pc := 85) O dX12_goodX_85 0 rfl ?_
  refine v_aload_n (pc := 86) O dX12_goodX_86 0 rfl ?_
  refine v_getK (pc := 87) (a := 207) O hm gf_X12_12 fl_X12_33 kq_207 lk_207_12 dX12_goodX_87 ?_
  refine v_iload_n (pc := 90) O dX12_goodX_90 1 rfl ?_
  obtain ⟨c8, h⟩ := or_none h
  refine v_iald (pc := 91) (a := 213) O kq_213 (inq lq_213 c8) dX12_goodX_91 ?_
  refine v_aload_n (pc := 92) O dX12_goodX_92 0 rfl ?_
  refine v_getI (pc := 93) (a := 207) O gf_X12_13 fl_X12_406 kq_207 dX12_goodX_93 ?_
  obtain ⟨p9, e10, h⟩ := bind_some h
  refine v_callV (pc := 96) (a := 207) (As := [.int (dI D 213 (x1).toNatClampNeg), .int (dI D 207 13)]) (rest := []) (r := (some (.int p9.1))) (D' := p9.2) O (bb0 hz) (c_X12_out hm e10) mw_X12_out im_X12_out se_X12_out ml_X12_186 kq_207 (by decide) rfl rfl rfl (by decide) (by decide) (Nat.le_of_ble_eq_true rfl) dX12_goodX_96 rfl rfl ?_
  refine v_ifne (pc := 99) 106 O dX12_goodX_99 (by decide) (fun c11 => ?_) (fun c11 => ?_)
  · have h := (if_neg c11).symm.trans h
    refine v_iconst (pc := 106) O dX12_goodX_106 ic_0 ?_
    refine v_sub [] rfl ?_
    exact w_X12_goodX_b107 O hm hn hz 0 p9.2 h
  · have h := (if_pos c11).symm.trans h
    refine v_sub [] rfl ?_
    exact w_X12_goodX_b102 O hm hn hz p9.2 h
def f_X12_goodX_b38 (x1 : Int32) (x2 : Int32) (D : Dat) : Option (Int32 × Dat) :=
  if x2 = 13 then (f_X12_goodX_b50 x1 D) else (if x2 = 14 then (f_X12_goodX_b50 x1 D) else (if x2 = 11 then (f_X12_goodX_b85 x1 D) else (if x2 = 12 then (f_X12_goodX_b85 x1 D) else (f_X12_goodX_b102 D))))
set_option maxHeartbeats 4000000 in
theorem w_X12_goodX_b38 {X : Cx} {n nu c u : Nat} {K : Nat → Nat} {z : Int32 × Dat} (O : Ok X cX12_goodX RX12 (some .boolean) 1 22) (hm : wlm (xw X) = true) (hn : xn X = 3) (hz : Z0 X (Ax nu K c u)) (x1 : Int32) (x2 : Int32) (D : Dat) (h : f_X12_goodX_b38 x1 x2 D = some z) : V X (Q0 X n (Ax nu K c u) (some (.int z.1)) z.2) n (Ax nu K c u) D 38 [(0, .ref (bo X + pp 207)), (1, .int x1), (2, .int x2)] [] := by
  unfold f_X12_goodX_b38 at h
  refine v_iload_n (pc := 38) O dX12_goodX_38 2 rfl ?_
  refine v_bipush (pc := 39) O dX12_goodX_39 bp_13 ?_
  refine v_icmpeq (pc := 41) 50 O dX12_goodX_41 (by decide) (fun c12 => ?_) (fun c12 => ?_)
  · have h := (if_pos c12).symm.trans h
    refine v_sub [0, 1] rfl ?_
    exact w_X12_goodX_b50 O hm hn hz x1 D h
  · have h := (if_neg c12).symm.trans h
    refine v_iload_n (pc := 44) O dX12_goodX_44 2 rfl ?_
    refine v_bipush (pc := 45) O dX12_goodX_45 bp_14 ?_
    refine v_icmpne (pc := 47) 73 O dX12_goodX_47 (by decide) (fun c13 => ?_) (fun c13 => ?_)
    · have h := (if_neg c13).symm.trans h
      refine v_iload_n (pc := 73) O dX12_goodX_73 2 rfl ?_
      refine v_bipush (pc := 74) O dX12_goodX_74 bp_11 ?_
      refine v_icmpeq (pc := 76) 85 O dX12_goodX_76 (by decide) (fun c14 => ?_) (fun c14 => ?_)
      · have h := (if_pos c14).symm.trans h
        refine v_sub [0, 1] rfl ?_
        exact w_X12_goodX_b85 O hm hn hz x1 D h
      · have h := (if_neg c14).symm.trans h
        refine v_iload_n (pc := 79) O dX12_goodX_79 2 rfl ?_
        refine v_bipush (pc := 80) O dX12_goodX_80 bp_12 ?_
        refine v_icmpne (pc := 82) 102 O dX12_goodX_82 (by decide) (fun c15 => ?_) (fun c15 => ?_)
        · have h := (if_neg c15).symm.trans h
          refine v_sub [] rfl ?_
          exact w_X12_goodX_b102 O hm hn hz D h
        · have h := (if_pos c15).symm.trans h
          refine v_sub [0, 1] rfl ?_
          exact w_X12_goodX_b85 O hm hn hz x1 D h
    · have h := (if_pos c13).symm.trans h
      refine v_sub [0, 1] rfl ?_
      exact w_X12_goodX_b50 O hm hn hz x1 D h
def f_X12_goodX (x1 : Int32) (D : Dat) : Option (Int32 × Dat) :=
  if x1 < 0 ∨ 64 ≤ (x1).toNatClampNeg then none else (if (dI D 212 (x1).toNatClampNeg) < 1 then (f_X12_goodX_b38 x1 (dI D 212 (x1).toNatClampNeg) D) else (if 4 < (dI D 212 (x1).toNatClampNeg) then (f_X12_goodX_b38 x1 (dI D 212 (x1).toNatClampNeg) D) else (if x1 < 0 ∨ 64 ≤ (x1).toNatClampNeg then none else ((f_X12_out (dI D 213 (x1).toNatClampNeg) 26 D).bind (fun p20 => if p20.1 = 0 then (f_X12_goodX_b37 1 p20.2) else (f_X12_goodX_b37 0 p20.2))))))
set_option maxHeartbeats 4000000 in
theorem w_X12_goodX {X : Cx} {n nu c u : Nat} {K : Nat → Nat} {z : Int32 × Dat} (O : Ok X cX12_goodX RX12 (some .boolean) 1 22) (hm : wlm (xw X) = true) (hn : xn X = 3) (hz : Z0 X (Ax nu K c u)) (x1 : Int32) (D : Dat) (h : f_X12_goodX x1 D = some z) : V X (Q0 X n (Ax nu K c u) (some (.int z.1)) z.2) n (Ax nu K c u) D 0 [(0, .ref (bo X + pp 207)), (1, .int x1)] [] := by
  unfold f_X12_goodX at h
  refine v_aload_n (pc := 0) O dX12_goodX_0 0 rfl ?_
  refine v_getK (pc := 1) (a := 207) O hm gf_X12_11 fl_X12_30 kq_207 lk_207_11 dX12_goodX_1 ?_
  refine v_iload_n (pc := 4) O dX12_goodX_4 1 rfl ?_
  obtain ⟨c16, h⟩ := or_none h
  refine v_iald (pc := 5) (a := 212) O kq_212 (inq lq_212 c16) dX12_goodX_5 ?_
  refine v_istore_n (pc := 6) (lv' := [(2, .int (dI D 212 (x1).toNatClampNeg)), (0, .ref (bo X + pp 207)), (1, .int x1)]) O dX12_goodX_6 rfl (by rw [hn]; decide) rfl ?_
  refine v_iload_n (pc := 7) O dX12_goodX_7 0 rfl ?_
  refine v_iconst (pc := 8) O dX12_goodX_8 ic_1 ?_
  refine v_icmplt (pc := 9) 38 O dX12_goodX_9 (by decide) (fun c17 => ?_) (fun c17 => ?_)
  · have h := (if_pos c17).symm.trans h
    refine v_sub [1, 2, 0] rfl ?_
    exact w_X12_goodX_b38 O hm hn hz x1 (dI D 212 (x1).toNatClampNeg) D h
  · have h := (if_neg c17).symm.trans h
    refine v_iload_n (pc := 12) O dX12_goodX_12 0 rfl ?_
    refine v_iconst (pc := 13) O dX12_goodX_13 ic_4 ?_
    refine v_icmpgt (pc := 14) 38 O dX12_goodX_14 (by decide) (fun c18 => ?_) (fun c18 => ?_)
    · have h := (if_pos c18).symm.trans h
      refine v_sub [1, 2, 0] rfl ?_
      exact w_X12_goodX_b38 O hm hn hz x1 (dI D 212 (x1).toNatClampNeg) D h
    · have h := (if_neg c18).symm.trans h
      refine v_aload_n (pc := 17) O dX12_goodX_17 1 rfl ?_
      refine v_aload_n (pc := 18) O dX12_goodX_18 1 rfl ?_
      refine v_getK (pc := 19) (a := 207) O hm gf_X12_12 fl_X12_33 kq_207 lk_207_12 dX12_goodX_19 ?_
      refine v_iload_n (pc := 22) O dX12_goodX_22 2 rfl ?_
      obtain ⟨c19, h⟩ := or_none h
      refine v_iald (pc := 23) (a := 213) O kq_213 (inq lq_213 c19) dX12_goodX_23 ?_
      refine v_bipush (pc := 24) O dX12_goodX_24 bp_26 ?_
      obtain ⟨p20, e21, h⟩ := bind_some h
      refine v_callV (pc := 26) (a := 207) (As := [.int (dI D 213 (x1).toNatClampNeg), .int 26]) (rest := []) (r := (some (.int p20.1))) (D' := p20.2) O (bb0 hz) (c_X12_out hm e21) mw_X12_out im_X12_out se_X12_out ml_X12_186 kq_207 (by decide) rfl rfl rfl (by decide) (by decide) (Nat.le_of_ble_eq_true rfl) dX12_goodX_26 rfl rfl ?_
      refine v_ifne (pc := 29) 36 O dX12_goodX_29 (by decide) (fun c22 => ?_) (fun c22 => ?_)
      · have h := (if_neg c22).symm.trans h
        refine v_iconst (pc := 36) O dX12_goodX_36 ic_0 ?_
        refine v_sub [] rfl ?_
        exact w_X12_goodX_b37 O hm hn hz 0 p20.2 h
      · have h := (if_pos c22).symm.trans h
        refine v_iconst (pc := 32) O dX12_goodX_32 ic_1 ?_
        refine v_goto (pc := 33) 37 O dX12_goodX_33 (by decide) ?_
        refine v_sub [] rfl ?_
        exact w_X12_goodX_b37 O hm hn hz 1 p20.2 h
theorem c_X12_goodX {l : Launch} {w : Wx} {n nu c u : Nat} {K : Nat → Nat} (hm : wlm w = true) {x1 : Int32} {D : Dat} {z : Int32 × Dat} (h : f_X12_goodX x1 D = some z) : C0 l w yX12_goodX cX12_goodX 3 (some .boolean) 1 22 [.ref (wb w + pp 207), .int x1] n (Ax nu K c u) D (some (.int z.1)) z.2 :=
  C0.of (by decide) (Nat.le_of_ble_eq_true rfl) (fun X e1 e2 e3 hz O => by
  subst e1
  subst e2
  exact w_X12_goodX O hm e3 hz x1 D h)
def f_X12_nextOf_b33 (s0 : Int32) (D : Dat) : Option (Int32 × Dat) :=
  some (s0, D)
set_option maxHeartbeats 4000000 in
theorem w_X12_nextOf_b33 {X : Cx} {n nu c u : Nat} {K : Nat → Nat} {z : Int32 × Dat} (O : Ok X cX12_nextOf RX12 (some .int) 0 0) (hm : wlm (xw X) = true) (hn : xn X = 3) (hz : Z0 X (Ax nu K c u)) (s0 : Int32) (D : Dat) (h : f_X12_nextOf_b33 s0 D = some z) : V X (Q0 X n (Ax nu K c u) (some (.int z.1)) z.2) n (Ax nu K c u) D 33 [] [.int s0] := by
  unfold f_X12_nextOf_b33 at h
  obtain rfl := Option.some.inj h
  exact v_iret (pc := 33) O hz dX12_nextOf_33
def f_X12_nextOf_b26 (D : Dat) : Option (Int32 × Dat) :=
  f_X12_nextOf_b33 (-1) D
set_option maxHeartbeats 4000000 in
theorem w_X12_nextOf_b26 {X : Cx} {n nu c u : Nat} {K : Nat → Nat} {z : Int32 × Dat} (O : Ok X cX12_nextOf RX12 (some .int) 0 0) (hm : wlm (xw X) = true) (hn : xn X = 3) (hz : Z0 X (Ax nu K c u)) (D : Dat) (h : f_X12_nextOf_b26 D = some z) : V X (Q0 X n (Ax nu K c u) (some (.int z.1)) z.2) n (Ax nu K c u) D 26 [] [] := by
  unfold f_X12_nextOf_b26 at h
  refine v_iconst (pc := 26) O dX12_nextOf_26 ic_m1 ?_
  refine v_goto (pc := 27) 33 O dX12_nextOf_27 (by decide) ?_
  refine v_sub [] rfl ?_
  exact w_X12_nextOf_b33 O hm hn hz (-1) D h
def f_X12_nextOf_b66 (s0 : Int32) (D : Dat) : Option (Int32 × Dat) :=
  some (s0, D)
set_option maxHeartbeats 4000000 in
theorem w_X12_nextOf_b66 {X : Cx} {n nu c u : Nat} {K : Nat → Nat} {z : Int32 × Dat} (O : Ok X cX12_nextOf RX12 (some .int) 0 0) (hm : wlm (xw X) = true) (hn : xn X = 3) (hz : Z0 X (Ax nu K c u)) (s0 : Int32) (D : Dat) (h : f_X12_nextOf_b66 s0 D = some z) : V X (Q0 X n (Ax nu K c u) (some (.int z.1)) z.2) n (Ax nu K c u) D 66 [] [.int s0] := by
  unfold f_X12_nextOf_b66 at h
  obtain rfl := Option.some.inj h
  exact v_iret (pc := 66) O hz dX12_nextOf_66
def f_X12_nextOf_b56 (x1 : Int32) (D : Dat) : Option (Int32 × Dat) :=
  if x1 < 0 ∨ 64 ≤ (x1).toNatClampNeg then none else (f_X12_nextOf_b66 (dI D 213 (x1).toNatClampNeg) D)
set_option maxHeartbeats 4000000 in
theorem w_X12_nextOf_b56 {X : Cx} {n nu c u : Nat} {K : Nat → Nat} {z : Int32 × Dat} (O : Ok X cX12_nextOf RX12 (some .int) 0 0) (hm : wlm (xw X) = true) (hn : xn X = 3) (hz : Z0 X (Ax nu K c u)) (x1 : Int32) (D : Dat) (h : f_X12_nextOf_b56 x1 D = some z) : V X (Q0 X n (Ax nu K c u) (some (.int z.1)) z.2) n (Ax nu K c u) D 56 [(0, .ref (bo X + pp 207)), (1, .int x1)] [] := by
  unfold f_X12_nextOf_b56 at h
  refine v_aload_n (pc := 56) O dX12_nextOf_56 0 rfl ?_
  refine v_getK (pc := 57) (a := 207) O hm gf_X12_12 fl_X12_33 kq_207 lk_207_12 dX12_nextOf_57 ?_
  refine v_iload_n (pc := 60) O dX12_nextOf_60 1 rfl ?_
  obtain ⟨c1, h⟩ := or_none h
  refine v_iald (pc := 61) (a := 213) O kq_213 (inq lq_213 c1) dX12_nextOf_61 ?_
  refine v_goto (pc := 62) 66 O dX12_nextOf_62 (by decide) ?_
  refine v_sub [] rfl ?_
  exact w_X12_nextOf_b66 O hm hn hz (dI D 213 (x1).toNatClampNeg) D h
def f_X12_nextOf (x1 : Int32) (x2 : Int32) (D : Dat) : Option (Int32 × Dat) :=
  if x2 = 0 then (if x1 < 0 ∨ 64 ≤ (x1).toNatClampNeg then none else (if (dI D 212 (x1).toNatClampNeg) = 12 then (f_X12_nextOf_b26 D) else (if x1 < 0 ∨ 64 ≤ (x1).toNatClampNeg then none else (if (dI D 212 (x1).toNatClampNeg) = 15 then (f_X12_nextOf_b26 D) else (f_X12_nextOf_b33 (x1 + (1 : Int32)) D))))) else (if x1 < 0 ∨ 64 ≤ (x1).toNatClampNeg then none else (if (dI D 212 (x1).toNatClampNeg) = 11 then (f_X12_nextOf_b56 x1 D) else (if x1 < 0 ∨ 64 ≤ (x1).toNatClampNeg then none else (if (dI D 212 (x1).toNatClampNeg) = 12 then (f_X12_nextOf_b56 x1 D) else (f_X12_nextOf_b66 (-1) D)))))
set_option maxHeartbeats 4000000 in
theorem w_X12_nextOf {X : Cx} {n nu c u : Nat} {K : Nat → Nat} {z : Int32 × Dat} (O : Ok X cX12_nextOf RX12 (some .int) 0 0) (hm : wlm (xw X) = true) (hn : xn X = 3) (hz : Z0 X (Ax nu K c u)) (x1 : Int32) (x2 : Int32) (D : Dat) (h : f_X12_nextOf x1 x2 D = some z) : V X (Q0 X n (Ax nu K c u) (some (.int z.1)) z.2) n (Ax nu K c u) D 0 [(0, .ref (bo X + pp 207)), (1, .int x1), (2, .int x2)] [] := by
  unfold f_X12_nextOf at h
  refine v_iload_n (pc := 0) O dX12_nextOf_0 2 rfl ?_
  refine v_ifne (pc := 1) 34 O dX12_nextOf_1 (by decide) (fun c2 => ?_) (fun c2 => ?_)
  · have h := (if_neg c2).symm.trans h
    refine v_aload_n (pc := 34) O dX12_nextOf_34 0 rfl ?_
    refine v_getK (pc := 35) (a := 207) O hm gf_X12_11 fl_X12_30 kq_207 lk_207_11 dX12_nextOf_35 ?_
    refine v_iload_n (pc := 38) O dX12_nextOf_38 1 rfl ?_
    obtain ⟨c3, h⟩ := or_none h
    refine v_iald (pc := 39) (a := 212) O kq_212 (inq lq_212 c3) dX12_nextOf_39 ?_
    refine v_bipush (pc := 40) O dX12_nextOf_40 bp_11 ?_
    refine v_icmpeq (pc := 42) 56 O dX12_nextOf_42 (by decide) (fun c4 => ?_) (fun c4 => ?_)
    · have h := (if_pos c4).symm.trans h
      refine v_sub [0, 1] rfl ?_
      exact w_X12_nextOf_b56 O hm hn hz x1 D h
    · have h := (if_neg c4).symm.trans h
      refine v_aload_n (pc := 45) O dX12_nextOf_45 0 rfl ?_
      refine v_getK (pc := 46) (a := 207) O hm gf_X12_11 fl_X12_30 kq_207 lk_207_11 dX12_nextOf_46 ?_
      refine v_iload_n (pc := 49) O dX12_nextOf_49 1 rfl ?_
      obtain ⟨c5, h⟩ := or_none h
      refine v_iald (pc := 50) (a := 212) O kq_212 (inq lq_212 c5) dX12_nextOf_50 ?_
      refine v_bipush (pc := 51) O dX12_nextOf_51 bp_12 ?_
      refine v_icmpne (pc := 53) 65 O dX12_nextOf_53 (by decide) (fun c6 => ?_) (fun c6 => ?_)
      · have h := (if_neg c6).symm.trans h
        refine v_iconst (pc := 65) O dX12_nextOf_65 ic_m1 ?_
        refine v_sub [] rfl ?_
        exact w_X12_nextOf_b66 O hm hn hz (-1) D h
      · have h := (if_pos c6).symm.trans h
        refine v_sub [0, 1] rfl ?_
        exact w_X12_nextOf_b56 O hm hn hz x1 D h
  · have h := (if_pos c2).symm.trans h
    refine v_aload_n (pc := 4) O dX12_nextOf_4 0 rfl ?_
    refine v_getK (pc := 5) (a := 207) O hm gf_X12_11 fl_X12_30 kq_207 lk_207_11 dX12_nextOf_5 ?_
    refine v_iload_n (pc := 8) O dX12_nextOf_8 1 rfl ?_
    obtain ⟨c7, h⟩ := or_none h
    refine v_iald (pc := 9) (a := 212) O kq_212 (inq lq_212 c7) dX12_nextOf_9 ?_
    refine v_bipush (pc := 10) O dX12_nextOf_10 bp_12 ?_
    refine v_icmpeq (pc := 12) 26 O dX12_nextOf_12 (by decide) (fun c8 => ?_) (fun c8 => ?_)
    · have h := (if_pos c8).symm.trans h
      refine v_sub [] rfl ?_
      exact w_X12_nextOf_b26 O hm hn hz D h
    · have h := (if_neg c8).symm.trans h
      refine v_aload_n (pc := 15) O dX12_nextOf_15 0 rfl ?_
      refine v_getK (pc := 16) (a := 207) O hm gf_X12_11 fl_X12_30 kq_207 lk_207_11 dX12_nextOf_16 ?_
      refine v_iload_n (pc := 19) O dX12_nextOf_19 1 rfl ?_
      obtain ⟨c9, h⟩ := or_none h
      refine v_iald (pc := 20) (a := 212) O kq_212 (inq lq_212 c9) dX12_nextOf_20 ?_
      refine v_bipush (pc := 21) O dX12_nextOf_21 bp_15 ?_
      refine v_icmpne (pc := 23) 30 O dX12_nextOf_23 (by decide) (fun c10 => ?_) (fun c10 => ?_)
      · have h := (if_neg c10).symm.trans h
        refine v_iload_n (pc := 30) O dX12_nextOf_30 1 rfl ?_
        refine v_iconst (pc := 31) O dX12_nextOf_31 ic_1 ?_
        refine v_iadd (pc := 32) O dX12_nextOf_32 ?_
        refine v_sub [] rfl ?_
        exact w_X12_nextOf_b33 O hm hn hz (x1 + (1 : Int32)) D h
      · have h := (if_pos c10).symm.trans h
        refine v_sub [] rfl ?_
        exact w_X12_nextOf_b26 O hm hn hz D h
theorem c_X12_nextOf {l : Launch} {w : Wx} {n nu c u : Nat} {K : Nat → Nat} (hm : wlm w = true) {x1 : Int32} {x2 : Int32} {D : Dat} {z : Int32 × Dat} (h : f_X12_nextOf x1 x2 D = some z) : C0 l w yX12_nextOf cX12_nextOf 3 (some .int) 0 0 [.ref (wb w + pp 207), .int x1, .int x2] n (Ax nu K c u) D (some (.int z.1)) z.2 :=
  C0.of (by decide) (Nat.le_of_ble_eq_true rfl) (fun X e1 e2 e3 hz O => by
  subst e1
  subst e2
  exact w_X12_nextOf O hm e3 hz x1 x2 D h)
def f_X12_look_b46 (N : Nat) (D : Dat) : Option (Int32 × Dat) :=
  some (3, D)
set_option maxHeartbeats 4000000 in
theorem w_X12_look_b46 {X : Cx} {n nu c u : Nat} {K : Nat → Nat} {N : Nat} {z : Int32 × Dat} (O : Ok X cX12_look RX12 (some .int) 1 22) (hm : wlm (xw X) = true) (hn : xn X = 5) (hz : Z0 X (Ax nu K c u)) (D : Dat) (h : f_X12_look_b46 N D = some z) : V X (Q0 X n (Ax nu K c u) (some (.int z.1)) z.2) n (Ax nu K c u) D 46 [] [] := by
  unfold f_X12_look_b46 at h
  refine v_iconst (pc := 46) O dX12_look_46 ic_3 ?_
  obtain rfl := Option.some.inj h
  exact v_iret (pc := 47) O hz dX12_look_47
def f_X12_look_b143 (N : Nat) (rec_91 : Int32 → Int32 → Int32 → Dat → Option (Int32 × Dat)) (x1 : Int32) (x2 : Int32) (x3 : Int32) (D : Dat) : Option (Int32 × Dat) :=
  rec_91 x1 x2 (x3 + 1) D
set_option maxHeartbeats 4000000 in
theorem w_X12_look_b143 {X : Cx} {n nu c u : Nat} {K : Nat → Nat} {N : Nat} {rec_91 : Int32 → Int32 → Int32 → Dat → Option (Int32 × Dat)} {z : Int32 × Dat} (O : Ok X cX12_look RX12 (some .int) 1 22) (hm : wlm (xw X) = true) (hn : xn X = 5) (hz : Z0 X (Ax nu K c u)) (hrec_91 : ∀ (x1 : Int32) (x2 : Int32) (x3 : Int32) (D : Dat), rec_91 x1 x2 x3 D = some z → V X (Q0 X n (Ax nu K c u) (some (.int z.1)) z.2) n (Ax nu K c u) D 91 [(0, .ref (bo X + pp 207)), (1, .int x1), (2, .int x2), (3, .int x3)] []) (x1 : Int32) (x2 : Int32) (x3 : Int32) (D : Dat) (h : f_X12_look_b143 N rec_91 x1 x2 x3 D = some z) : V X (Q0 X n (Ax nu K c u) (some (.int z.1)) z.2) n (Ax nu K c u) D 143 [(0, .ref (bo X + pp 207)), (1, .int x1), (2, .int x2), (3, .int x3)] [] := by
  unfold f_X12_look_b143 at h
  refine v_iinc (pc := 143) (lv' := [(3, .int (x3 + 1)), (0, .ref (bo X + pp 207)), (1, .int x1), (2, .int x2)]) O dX12_look_143 3 rfl (congrArg (fun q => x3 + q) ic_1) (by rw [hn]; decide) rfl ?_
  refine v_goto (pc := 146) 91 O dX12_look_146 (by decide) ?_
  refine v_sub [1, 2, 3, 0] rfl ?_
  exact hrec_91 x1 x2 (x3 + 1) D h
def f_X12_look_b135 (N : Nat) (rec_91 : Int32 → Int32 → Int32 → Dat → Option (Int32 × Dat)) (x1 : Int32) (x2 : Int32) (x3 : Int32) (x4 : Int32) (D : Dat) : Option (Int32 × Dat) :=
  if x4 < 0 ∨ 64 ≤ (x4).toNatClampNeg then none else (f_X12_look_b143 N rec_91 x1 x2 x3 (sI D 245 (x4).toNatClampNeg x2))
set_option maxHeartbeats 4000000 in
theorem w_X12_look_b135 {X : Cx} {n nu c u : Nat} {K : Nat → Nat} {N : Nat} {rec_91 : Int32 → Int32 → Int32 → Dat → Option (Int32 × Dat)} {z : Int32 × Dat} (O : Ok X cX12_look RX12 (some .int) 1 22) (hm : wlm (xw X) = true) (hn : xn X = 5) (hz : Z0 X (Ax nu K c u)) (hrec_91 : ∀ (x1 : Int32) (x2 : Int32) (x3 : Int32) (D : Dat), rec_91 x1 x2 x3 D = some z → V X (Q0 X n (Ax nu K c u) (some (.int z.1)) z.2) n (Ax nu K c u) D 91 [(0, .ref (bo X + pp 207)), (1, .int x1), (2, .int x2), (3, .int x3)] []) (x1 : Int32) (x2 : Int32) (x3 : Int32) (x4 : Int32) (D : Dat) (h : f_X12_look_b135 N rec_91 x1 x2 x3 x4 D = some z) : V X (Q0 X n (Ax nu K c u) (some (.int z.1)) z.2) n (Ax nu K c u) D 135 [(0, .ref (bo X + pp 207)), (1, .int x1), (2, .int x2), (3, .int x3), (4, .int x4)] [] := by
  unfold f_X12_look_b135 at h
  refine v_aload_n (pc := 135) O dX12_look_135 0 rfl ?_
  refine v_getK (pc := 136) (a := 207) O hm gf_X12_65 fl_X12_129 kq_207 lk_207_65 dX12_look_136 ?_
  refine v_iload (pc := 139) O dX12_look_139 4 rfl ?_
  refine v_iload_n (pc := 141) O dX12_look_141 2 rfl ?_
  obtain ⟨c1, h⟩ := or_none h
  refine v_iast (pc := 142) (a := 245) O kq_245 (inq lq_245 c1) dX12_look_142 ?_
  refine v_sub [0, 1, 2, 3] rfl ?_
  exact w_X12_look_b143 O hm hn hz hrec_91 x1 x2 x3 (sI D 245 (x4).toNatClampNeg x2) h
def f_X12_look_b91 (N : Nat) : Nat → Int32 → Int32 → Int32 → Dat → Option (Int32 × Dat)
  | 0, _, _, _, _ => none
  | g + 1, x1, x2, x3, D => if 2 ≤ x3 then (some (0, D)) else ((f_X12_nextOf x1 x3 D).bind (fun p3 => if 0 ≤ p3.1 then (if p3.1 < 0 ∨ 64 ≤ (p3.1).toNatClampNeg then none else (if (dI p3.2 245 (p3.1).toNatClampNeg) < 0 then (f_X12_look_b135 N (f_X12_look_b91 N g) x1 x2 x3 p3.1 p3.2) else (if p3.1 < 0 ∨ 64 ≤ (p3.1).toNatClampNeg then none else (if (dI p3.2 245 (p3.1).toNatClampNeg) = x2 then (f_X12_look_b135 N (f_X12_look_b91 N g) x1 x2 x3 p3.1 p3.2) else (some (5, p3.2)))))) else (f_X12_look_b143 N (f_X12_look_b91 N g) x1 x2 x3 p3.2)))
set_option maxHeartbeats 4000000 in
theorem w_X12_look_b91 {X : Cx} {n nu c u : Nat} {K : Nat → Nat} {N : Nat} {z : Int32 × Dat} (O : Ok X cX12_look RX12 (some .int) 1 22) (hm : wlm (xw X) = true) (hn : xn X = 5) (hz : Z0 X (Ax nu K c u)) : ∀ (g : Nat) (x1 : Int32) (x2 : Int32) (x3 : Int32) (D : Dat), f_X12_look_b91 N g x1 x2 x3 D = some z → V X (Q0 X n (Ax nu K c u) (some (.int z.1)) z.2) n (Ax nu K c u) D 91 [(0, .ref (bo X + pp 207)), (1, .int x1), (2, .int x2), (3, .int x3)] [] := by
  intro g
  induction g with
  | zero => intro x1 x2 x3 D h; exact absurd h (by simp [f_X12_look_b91])
  | succ g ih =>
    intro x1 x2 x3 D h
    rw [f_X12_look_b91] at h
    refine v_iload_n (pc := 91) O dX12_look_91 3 rfl ?_
    refine v_iconst (pc := 92) O dX12_look_92 ic_2 ?_
    refine v_icmpge (pc := 93) 149 O dX12_look_93 (by decide) (fun c2 => ?_) (fun c2 => ?_)
    · have h := (if_pos c2).symm.trans h
      refine v_iconst (pc := 149) O dX12_look_149 ic_0 ?_
      obtain rfl := Option.some.inj h
      exact v_iret (pc := 150) O hz dX12_look_150
    · have h := (if_neg c2).symm.trans h
      refine v_aload_n (pc := 96) O dX12_look_96 0 rfl ?_
      refine v_iload_n (pc := 97) O dX12_look_97 1 rfl ?_
      refine v_iload_n (pc := 98) O dX12_look_98 3 rfl ?_
      obtain ⟨p3, e4, h⟩ := bind_some h
      refine v_callV (pc := 99) (a := 207) (As := [.int x1, .int x3]) (rest := []) (r := (some (.int p3.1))) (D' := p3.2) O (bb0 hz) (c_X12_nextOf hm e4) mw_X12_nextOf im_X12_nextOf se_X12_nextOf ml_X12_424 kq_207 (by decide) rfl rfl rfl (by decide) (by decide) (Nat.le_of_ble_eq_true rfl) dX12_look_99 rfl rfl ?_
      refine v_istore (pc := 102) (lv' := [(4, .int p3.1), (0, .ref (bo X + pp 207)), (1, .int x1), (2, .int x2), (3, .int x3)]) O dX12_look_102 (by rw [hn]; decide) rfl ?_
      refine v_iload (pc := 104) O dX12_look_104 0 rfl ?_
      refine v_ifge (pc := 106) 112 O dX12_look_106 (by decide) (fun c5 => ?_) (fun c5 => ?_)
      · have h := (if_pos c5).symm.trans h
        refine v_aload_n (pc := 112) O dX12_look_112 1 rfl ?_
        refine v_getK (pc := 113) (a := 207) O hm gf_X12_65 fl_X12_129 kq_207 lk_207_65 dX12_look_113 ?_
        refine v_iload (pc := 116) O dX12_look_116 0 rfl ?_
        obtain ⟨c6, h⟩ := or_none h
        refine v_iald (pc := 118) (a := 245) O kq_245 (inq lq_245 c6) dX12_look_118 ?_
        refine v_iflt (pc := 119) 135 O dX12_look_119 (by decide) (fun c7 => ?_) (fun c7 => ?_)
        · have h := (if_pos c7).symm.trans h
          refine v_sub [1, 2, 3, 4, 0] rfl ?_
          exact w_X12_look_b135 O hm hn hz ih x1 x2 x3 p3.1 p3.2 h
        · have h := (if_neg c7).symm.trans h
          refine v_aload_n (pc := 122) O dX12_look_122 1 rfl ?_
          refine v_getK (pc := 123) (a := 207) O hm gf_X12_65 fl_X12_129 kq_207 lk_207_65 dX12_look_123 ?_
          refine v_iload (pc := 126) O dX12_look_126 0 rfl ?_
          obtain ⟨c8, h⟩ := or_none h
          refine v_iald (pc := 128) (a := 245) O kq_245 (inq lq_245 c8) dX12_look_128 ?_
          refine v_iload_n (pc := 129) O dX12_look_129 3 rfl ?_
          refine v_icmpeq (pc := 130) 135 O dX12_look_130 (by decide) (fun c9 => ?_) (fun c9 => ?_)
          · have h := (if_pos c9).symm.trans h
            refine v_sub [1, 2, 3, 4, 0] rfl ?_
            exact w_X12_look_b135 O hm hn hz ih x1 x2 x3 p3.1 p3.2 h
          · have h := (if_neg c9).symm.trans h
            refine v_iconst (pc := 133) O dX12_look_133 ic_5 ?_
            obtain rfl := Option.some.inj h
            exact v_iret (pc := 134) O hz dX12_look_134
      · have h := (if_neg c5).symm.trans h
        refine v_goto (pc := 109) 143 O dX12_look_109 (by decide) ?_
        refine v_sub [1, 2, 3, 4] rfl ?_
        exact w_X12_look_b143 O hm hn hz ih x1 x2 x3 p3.2 h
def f_X12_look_b89 (N : Nat) (x1 : Int32) (x2 : Int32) (D : Dat) : Option (Int32 × Dat) :=
  f_X12_look_b91 N N x1 x2 0 D
set_option maxHeartbeats 4000000 in
theorem w_X12_look_b89 {X : Cx} {n nu c u : Nat} {K : Nat → Nat} {N : Nat} {z : Int32 × Dat} (O : Ok X cX12_look RX12 (some .int) 1 22) (hm : wlm (xw X) = true) (hn : xn X = 5) (hz : Z0 X (Ax nu K c u)) (x1 : Int32) (x2 : Int32) (D : Dat) (h : f_X12_look_b89 N x1 x2 D = some z) : V X (Q0 X n (Ax nu K c u) (some (.int z.1)) z.2) n (Ax nu K c u) D 89 [(0, .ref (bo X + pp 207)), (1, .int x1), (2, .int x2)] [] := by
  unfold f_X12_look_b89 at h
  refine v_iconst (pc := 89) O dX12_look_89 ic_0 ?_
  refine v_istore_n (pc := 90) (lv' := [(3, .int 0), (0, .ref (bo X + pp 207)), (1, .int x1), (2, .int x2)]) O dX12_look_90 rfl (by rw [hn]; decide) rfl ?_
  refine v_sub [1, 2, 3, 0] rfl ?_
  exact w_X12_look_b91 O hm hn hz N x1 x2 0 D h
def f_X12_look_b83 (N : Nat) (x1 : Int32) (x2 : Int32) (D : Dat) : Option (Int32 × Dat) :=
  if x2 ≤ 0 then (f_X12_look_b89 N x1 x2 D) else (some (4, D))
set_option maxHeartbeats 4000000 in
theorem w_X12_look_b83 {X : Cx} {n nu c u : Nat} {K : Nat → Nat} {N : Nat} {z : Int32 × Dat} (O : Ok X cX12_look RX12 (some .int) 1 22) (hm : wlm (xw X) = true) (hn : xn X = 5) (hz : Z0 X (Ax nu K c u)) (x1 : Int32) (x2 : Int32) (D : Dat) (h : f_X12_look_b83 N x1 x2 D = some z) : V X (Q0 X n (Ax nu K c u) (some (.int z.1)) z.2) n (Ax nu K c u) D 83 [(0, .ref (bo X + pp 207)), (1, .int x1), (2, .int x2)] [] := by
  unfold f_X12_look_b83 at h
  refine v_iload_n (pc := 83) O dX12_look_83 2 rfl ?_
  refine v_ifle (pc := 84) 89 O dX12_look_84 (by decide) (fun c10 => ?_) (fun c10 => ?_)
  · have h := (if_pos c10).symm.trans h
    refine v_sub [0, 1, 2] rfl ?_
    exact w_X12_look_b89 O hm hn hz x1 x2 D h
  · have h := (if_neg c10).symm.trans h
    refine v_iconst (pc := 87) O dX12_look_87 ic_4 ?_
    obtain rfl := Option.some.inj h
    exact v_iret (pc := 88) O hz dX12_look_88
def f_X12_look (N : Nat) (x1 : Int32) (D : Dat) : Option (Int32 × Dat) :=
  if x1 < 0 ∨ 64 ≤ (x1).toNatClampNeg then none else (if x1 < 0 ∨ 64 ≤ (x1).toNatClampNeg then none else (if x1 < 0 ∨ 64 ≤ (x1).toNatClampNeg then none else ((f_X12_takes (dI (sI D 246 (x1).toNatClampNeg ((1 : Int32) &&& 1)) 212 (x1).toNatClampNeg) (sI D 246 (x1).toNatClampNeg ((1 : Int32) &&& 1))).bind (fun p14 => if ((dI (sI D 246 (x1).toNatClampNeg ((1 : Int32) &&& 1)) 245 (x1).toNatClampNeg) - p14.1) < 0 then (f_X12_look_b46 N p14.2) else (if x1 < 0 ∨ 64 ≤ (x1).toNatClampNeg then none else ((f_X12_puts (dI p14.2 212 (x1).toNatClampNeg) p14.2).bind (fun p18 => if (((dI (sI D 246 (x1).toNatClampNeg ((1 : Int32) &&& 1)) 245 (x1).toNatClampNeg) - p14.1) + p18.1) ≤ 30 then (if x1 < 0 ∨ 64 ≤ (x1).toNatClampNeg then none else ((f_X12_puts (dI p18.2 212 (x1).toNatClampNeg) p18.2).bind (fun p22 => if x1 < 0 ∨ 64 ≤ (x1).toNatClampNeg then none else (if (dI p22.2 212 (x1).toNatClampNeg) = 11 then (f_X12_look_b83 N x1 (((dI (sI D 246 (x1).toNatClampNeg ((1 : Int32) &&& 1)) 245 (x1).toNatClampNeg) - p14.1) + p22.1) p22.2) else (if x1 < 0 ∨ 64 ≤ (x1).toNatClampNeg then none else (if (dI p22.2 212 (x1).toNatClampNeg) = 12 then (f_X12_look_b83 N x1 (((dI (sI D 246 (x1).toNatClampNeg ((1 : Int32) &&& 1)) 245 (x1).toNatClampNeg) - p14.1) + p22.1) p22.2) else (f_X12_look_b89 N x1 (((dI (sI D 246 (x1).toNatClampNeg ((1 : Int32) &&& 1)) 245 (x1).toNatClampNeg) - p14.1) + p22.1) p22.2))))))) else (f_X12_look_b46 N p18.2))))))))
set_option maxHeartbeats 4000000 in
theorem w_X12_look {X : Cx} {n nu c u : Nat} {K : Nat → Nat} {N : Nat} {z : Int32 × Dat} (O : Ok X cX12_look RX12 (some .int) 1 22) (hm : wlm (xw X) = true) (hn : xn X = 5) (hz : Z0 X (Ax nu K c u)) (x1 : Int32) (D : Dat) (h : f_X12_look N x1 D = some z) : V X (Q0 X n (Ax nu K c u) (some (.int z.1)) z.2) n (Ax nu K c u) D 0 [(0, .ref (bo X + pp 207)), (1, .int x1)] [] := by
  unfold f_X12_look at h
  refine v_aload_n (pc := 0) O dX12_look_0 0 rfl ?_
  refine v_getK (pc := 1) (a := 207) O hm gf_X12_66 fl_X12_132 kq_207 lk_207_66 dX12_look_1 ?_
  refine v_iload_n (pc := 4) O dX12_look_4 1 rfl ?_
  refine v_iconst (pc := 5) O dX12_look_5 ic_1 ?_
  obtain ⟨c11, h⟩ := or_none h
  refine v_zast (pc := 6) (a := 246) O kq_246 (inq lq_246 c11) dX12_look_6 ?_
  refine v_aload_n (pc := 7) O dX12_look_7 0 rfl ?_
  refine v_getK (pc := 8) (a := 207) O hm gf_X12_65 fl_X12_129 kq_207 lk_207_65 dX12_look_8 ?_
  refine v_iload_n (pc := 11) O dX12_look_11 1 rfl ?_
  obtain ⟨c12, h⟩ := or_none h
  refine v_iald (pc := 12) (a := 245) O kq_245 (inq lq_245 c12) dX12_look_12 ?_
  refine v_aload_n (pc := 13) O dX12_look_13 0 rfl ?_
  refine v_aload_n (pc := 14) O dX12_look_14 0 rfl ?_
  refine v_getK (pc := 15) (a := 207) O hm gf_X12_11 fl_X12_30 kq_207 lk_207_11 dX12_look_15 ?_
  refine v_iload_n (pc := 18) O dX12_look_18 1 rfl ?_
  obtain ⟨c13, h⟩ := or_none h
  refine v_iald (pc := 19) (a := 212) O kq_212 (inq lq_212 c13) dX12_look_19 ?_
  obtain ⟨p14, e15, h⟩ := bind_some h
  refine v_callV (pc := 20) (a := 207) (As := [.int (dI (sI D 246 (x1).toNatClampNeg ((1 : Int32) &&& 1)) 212 (x1).toNatClampNeg)]) (rest := [.int (dI (sI D 246 (x1).toNatClampNeg ((1 : Int32) &&& 1)) 245 (x1).toNatClampNeg)]) (r := (some (.int p14.1))) (D' := p14.2) O (bb0 hz) (c_X12_takes hm e15) mw_X12_takes im_X12_takes se_X12_takes ml_X12_418 kq_207 (by decide) rfl rfl rfl (by decide) (by decide) (Nat.le_of_ble_eq_true rfl) dX12_look_20 rfl rfl ?_
  refine v_isub (pc := 23) O dX12_look_23 ?_
  refine v_istore_n (pc := 24) (lv' := [(2, .int ((dI (sI D 246 (x1).toNatClampNeg ((1 : Int32) &&& 1)) 245 (x1).toNatClampNeg) - p14.1)), (0, .ref (bo X + pp 207)), (1, .int x1)]) O dX12_look_24 rfl (by rw [hn]; decide) rfl ?_
  refine v_iload_n (pc := 25) O dX12_look_25 0 rfl ?_
  refine v_iflt (pc := 26) 46 O dX12_look_26 (by decide) (fun c16 => ?_) (fun c16 => ?_)
  · have h := (if_pos c16).symm.trans h
    refine v_sub [] rfl ?_
    exact w_X12_look_b46 O hm hn hz p14.2 h
  · have h := (if_neg c16).symm.trans h
    refine v_iload_n (pc := 29) O dX12_look_29 0 rfl ?_
    refine v_aload_n (pc := 30) O dX12_look_30 1 rfl ?_
    refine v_aload_n (pc := 31) O dX12_look_31 1 rfl ?_
    refine v_getK (pc := 32) (a := 207) O hm gf_X12_11 fl_X12_30 kq_207 lk_207_11 dX12_look_32 ?_
    refine v_iload_n (pc := 35) O dX12_look_35 2 rfl ?_
    obtain ⟨c17, h⟩ := or_none h
    refine v_iald (pc := 36) (a := 212) O kq_212 (inq lq_212 c17) dX12_look_36 ?_
    obtain ⟨p18, e19, h⟩ := bind_some h
    refine v_callV (pc := 37) (a := 207) (As := [.int (dI p14.2 212 (x1).toNatClampNeg)]) (rest := [.int ((dI (sI D 246 (x1).toNatClampNeg ((1 : Int32) &&& 1)) 245 (x1).toNatClampNeg) - p14.1)]) (r := (some (.int p18.1))) (D' := p18.2) O (bb0 hz) (c_X12_puts hm e19) mw_X12_puts im_X12_puts se_X12_puts ml_X12_421 kq_207 (by decide) rfl rfl rfl (by decide) (by decide) (Nat.le_of_ble_eq_true rfl) dX12_look_37 rfl rfl ?_
    refine v_iadd (pc := 40) O dX12_look_40 ?_
    refine v_bipush (pc := 41) O dX12_look_41 bp_30 ?_
    refine v_icmple (pc := 43) 48 O dX12_look_43 (by decide) (fun c20 => ?_) (fun c20 => ?_)
    · have h := (if_pos c20).symm.trans h
      refine v_iload_n (pc := 48) O dX12_look_48 0 rfl ?_
      refine v_aload_n (pc := 49) O dX12_look_49 1 rfl ?_
      refine v_aload_n (pc := 50) O dX12_look_50 1 rfl ?_
      refine v_getK (pc := 51) (a := 207) O hm gf_X12_11 fl_X12_30 kq_207 lk_207_11 dX12_look_51 ?_
      refine v_iload_n (pc := 54) O dX12_look_54 2 rfl ?_
      obtain ⟨c21, h⟩ := or_none h
      refine v_iald (pc := 55) (a := 212) O kq_212 (inq lq_212 c21) dX12_look_55 ?_
      obtain ⟨p22, e23, h⟩ := bind_some h
      refine v_callV (pc := 56) (a := 207) (As := [.int (dI p18.2 212 (x1).toNatClampNeg)]) (rest := [.int ((dI (sI D 246 (x1).toNatClampNeg ((1 : Int32) &&& 1)) 245 (x1).toNatClampNeg) - p14.1)]) (r := (some (.int p22.1))) (D' := p22.2) O (bb0 hz) (c_X12_puts hm e23) mw_X12_puts im_X12_puts se_X12_puts ml_X12_421 kq_207 (by decide) rfl rfl rfl (by decide) (by decide) (Nat.le_of_ble_eq_true rfl) dX12_look_56 rfl rfl ?_
      refine v_iadd (pc := 59) O dX12_look_59 ?_
      refine v_istore_n (pc := 60) (lv' := [(2, .int (((dI (sI D 246 (x1).toNatClampNeg ((1 : Int32) &&& 1)) 245 (x1).toNatClampNeg) - p14.1) + p22.1)), (0, .ref (bo X + pp 207)), (1, .int x1)]) O dX12_look_60 rfl (by rw [hn]; decide) rfl ?_
      refine v_aload_n (pc := 61) O dX12_look_61 1 rfl ?_
      refine v_getK (pc := 62) (a := 207) O hm gf_X12_11 fl_X12_30 kq_207 lk_207_11 dX12_look_62 ?_
      refine v_iload_n (pc := 65) O dX12_look_65 2 rfl ?_
      obtain ⟨c24, h⟩ := or_none h
      refine v_iald (pc := 66) (a := 212) O kq_212 (inq lq_212 c24) dX12_look_66 ?_
      refine v_bipush (pc := 67) O dX12_look_67 bp_11 ?_
      refine v_icmpeq (pc := 69) 83 O dX12_look_69 (by decide) (fun c25 => ?_) (fun c25 => ?_)
      · have h := (if_pos c25).symm.trans h
        refine v_sub [1, 2, 0] rfl ?_
        exact w_X12_look_b83 O hm hn hz x1 (((dI (sI D 246 (x1).toNatClampNeg ((1 : Int32) &&& 1)) 245 (x1).toNatClampNeg) - p14.1) + p22.1) p22.2 h
      · have h := (if_neg c25).symm.trans h
        refine v_aload_n (pc := 72) O dX12_look_72 1 rfl ?_
        refine v_getK (pc := 73) (a := 207) O hm gf_X12_11 fl_X12_30 kq_207 lk_207_11 dX12_look_73 ?_
        refine v_iload_n (pc := 76) O dX12_look_76 2 rfl ?_
        obtain ⟨c26, h⟩ := or_none h
        refine v_iald (pc := 77) (a := 212) O kq_212 (inq lq_212 c26) dX12_look_77 ?_
        refine v_bipush (pc := 78) O dX12_look_78 bp_12 ?_
        refine v_icmpne (pc := 80) 89 O dX12_look_80 (by decide) (fun c27 => ?_) (fun c27 => ?_)
        · have h := (if_neg c27).symm.trans h
          refine v_sub [1, 2, 0] rfl ?_
          exact w_X12_look_b89 O hm hn hz x1 (((dI (sI D 246 (x1).toNatClampNeg ((1 : Int32) &&& 1)) 245 (x1).toNatClampNeg) - p14.1) + p22.1) p22.2 h
        · have h := (if_pos c27).symm.trans h
          refine v_sub [1, 2, 0] rfl ?_
          exact w_X12_look_b83 O hm hn hz x1 (((dI (sI D 246 (x1).toNatClampNeg ((1 : Int32) &&& 1)) 245 (x1).toNatClampNeg) - p14.1) + p22.1) p22.2 h
    · have h := (if_neg c20).symm.trans h
      refine v_sub [] rfl ?_
      exact w_X12_look_b46 O hm hn hz p18.2 h
theorem c_X12_look {l : Launch} {w : Wx} {n nu c u : Nat} {K : Nat → Nat} {N : Nat} (hm : wlm w = true) {x1 : Int32} {D : Dat} {z : Int32 × Dat} (h : f_X12_look N x1 D = some z) : C0 l w yX12_look cX12_look 5 (some .int) 1 22 [.ref (wb w + pp 207), .int x1] n (Ax nu K c u) D (some (.int z.1)) z.2 :=
  C0.of (by decide) (Nat.le_of_ble_eq_true rfl) (fun X e1 e2 e3 hz O => by
  subst e1
  subst e2
  exact w_X12_look O hm e3 hz x1 D h)
def f_X12_leastOpen_b30 (N : Nat) (rec_2 : Int32 → Dat → Option (Int32 × Dat)) (x1 : Int32) (D : Dat) : Option (Int32 × Dat) :=
  rec_2 (x1 + 1) D
set_option maxHeartbeats 4000000 in
theorem w_X12_leastOpen_b30 {X : Cx} {n nu c u : Nat} {K : Nat → Nat} {N : Nat} {rec_2 : Int32 → Dat → Option (Int32 × Dat)} {z : Int32 × Dat} (O : Ok X cX12_leastOpen RX12 (some .int) 0 0) (hm : wlm (xw X) = true) (hn : xn X = 2) (hz : Z0 X (Ax nu K c u)) (hrec_2 : ∀ (x1 : Int32) (D : Dat), rec_2 x1 D = some z → V X (Q0 X n (Ax nu K c u) (some (.int z.1)) z.2) n (Ax nu K c u) D 2 [(0, .ref (bo X + pp 207)), (1, .int x1)] []) (x1 : Int32) (D : Dat) (h : f_X12_leastOpen_b30 N rec_2 x1 D = some z) : V X (Q0 X n (Ax nu K c u) (some (.int z.1)) z.2) n (Ax nu K c u) D 30 [(0, .ref (bo X + pp 207)), (1, .int x1)] [] := by
  unfold f_X12_leastOpen_b30 at h
  refine v_iinc (pc := 30) (lv' := [(1, .int (x1 + 1)), (0, .ref (bo X + pp 207))]) O dX12_leastOpen_30 1 rfl (congrArg (fun q => x1 + q) ic_1) (by rw [hn]; decide) rfl ?_
  refine v_goto (pc := 33) 2 O dX12_leastOpen_33 (by decide) ?_
  refine v_sub [1, 0] rfl ?_
  exact hrec_2 (x1 + 1) D h
def f_X12_leastOpen_b2 (N : Nat) : Nat → Int32 → Dat → Option (Int32 × Dat)
  | 0, _, _ => none
  | g + 1, x1, D => if (dI D 207 13) ≤ x1 then (some ((-1), D)) else (if x1 < 0 ∨ 64 ≤ (x1).toNatClampNeg then none else (if (dI D 245 (x1).toNatClampNeg) < 0 then (f_X12_leastOpen_b30 N (f_X12_leastOpen_b2 N g) x1 D) else (if x1 < 0 ∨ 64 ≤ (x1).toNatClampNeg then none else (if (dI D 246 (x1).toNatClampNeg) = 0 then (some (x1, D)) else (f_X12_leastOpen_b30 N (f_X12_leastOpen_b2 N g) x1 D)))))
set_option maxHeartbeats 4000000 in
theorem w_X12_leastOpen_b2 {X : Cx} {n nu c u : Nat} {K : Nat → Nat} {N : Nat} {z : Int32 × Dat} (O : Ok X cX12_leastOpen RX12 (some .int) 0 0) (hm : wlm (xw X) = true) (hn : xn X = 2) (hz : Z0 X (Ax nu K c u)) : ∀ (g : Nat) (x1 : Int32) (D : Dat), f_X12_leastOpen_b2 N g x1 D = some z → V X (Q0 X n (Ax nu K c u) (some (.int z.1)) z.2) n (Ax nu K c u) D 2 [(0, .ref (bo X + pp 207)), (1, .int x1)] [] := by
  intro g
  induction g with
  | zero => intro x1 D h; exact absurd h (by simp [f_X12_leastOpen_b2])
  | succ g ih =>
    intro x1 D h
    rw [f_X12_leastOpen_b2] at h
    refine v_iload_n (pc := 2) O dX12_leastOpen_2 1 rfl ?_
    refine v_aload_n (pc := 3) O dX12_leastOpen_3 0 rfl ?_
    refine v_getI (pc := 4) (a := 207) O gf_X12_13 fl_X12_406 kq_207 dX12_leastOpen_4 ?_
    refine v_icmpge (pc := 7) 36 O dX12_leastOpen_7 (by decide) (fun c1 => ?_) (fun c1 => ?_)
    · have h := (if_pos c1).symm.trans h
      refine v_iconst (pc := 36) O dX12_leastOpen_36 ic_m1 ?_
      obtain rfl := Option.some.inj h
      exact v_iret (pc := 37) O hz dX12_leastOpen_37
    · have h := (if_neg c1).symm.trans h
      refine v_aload_n (pc := 10) O dX12_leastOpen_10 0 rfl ?_
      refine v_getK (pc := 11) (a := 207) O hm gf_X12_65 fl_X12_129 kq_207 lk_207_65 dX12_leastOpen_11 ?_
      refine v_iload_n (pc := 14) O dX12_leastOpen_14 1 rfl ?_
      obtain ⟨c2, h⟩ := or_none h
      refine v_iald (pc := 15) (a := 245) O kq_245 (inq lq_245 c2) dX12_leastOpen_15 ?_
      refine v_iflt (pc := 16) 30 O dX12_leastOpen_16 (by decide) (fun c3 => ?_) (fun c3 => ?_)
      · have h := (if_pos c3).symm.trans h
        refine v_sub [0, 1] rfl ?_
        exact w_X12_leastOpen_b30 O hm hn hz ih x1 D h
      · have h := (if_neg c3).symm.trans h
        refine v_aload_n (pc := 19) O dX12_leastOpen_19 0 rfl ?_
        refine v_getK (pc := 20) (a := 207) O hm gf_X12_66 fl_X12_132 kq_207 lk_207_66 dX12_leastOpen_20 ?_
        refine v_iload_n (pc := 23) O dX12_leastOpen_23 1 rfl ?_
        obtain ⟨c4, h⟩ := or_none h
        refine v_zald (pc := 24) (a := 246) O kq_246 (inq lq_246 c4) dX12_leastOpen_24 ?_
        refine v_ifne (pc := 25) 30 O dX12_leastOpen_25 (by decide) (fun c5 => ?_) (fun c5 => ?_)
        · have h := (if_neg c5).symm.trans h
          refine v_sub [0, 1] rfl ?_
          exact w_X12_leastOpen_b30 O hm hn hz ih x1 D h
        · have h := (if_pos c5).symm.trans h
          refine v_iload_n (pc := 28) O dX12_leastOpen_28 1 rfl ?_
          obtain rfl := Option.some.inj h
          exact v_iret (pc := 29) O hz dX12_leastOpen_29
def f_X12_leastOpen (N : Nat) (D : Dat) : Option (Int32 × Dat) :=
  f_X12_leastOpen_b2 N N 0 D
set_option maxHeartbeats 4000000 in
theorem w_X12_leastOpen {X : Cx} {n nu c u : Nat} {K : Nat → Nat} {N : Nat} {z : Int32 × Dat} (O : Ok X cX12_leastOpen RX12 (some .int) 0 0) (hm : wlm (xw X) = true) (hn : xn X = 2) (hz : Z0 X (Ax nu K c u)) (D : Dat) (h : f_X12_leastOpen N D = some z) : V X (Q0 X n (Ax nu K c u) (some (.int z.1)) z.2) n (Ax nu K c u) D 0 [(0, .ref (bo X + pp 207))] [] := by
  unfold f_X12_leastOpen at h
  refine v_iconst (pc := 0) O dX12_leastOpen_0 ic_0 ?_
  refine v_istore_n (pc := 1) (lv' := [(1, .int 0), (0, .ref (bo X + pp 207))]) O dX12_leastOpen_1 rfl (by rw [hn]; decide) rfl ?_
  refine v_sub [1, 0] rfl ?_
  exact w_X12_leastOpen_b2 O hm hn hz N 0 D h
theorem c_X12_leastOpen {l : Launch} {w : Wx} {n nu c u : Nat} {K : Nat → Nat} {N : Nat} (hm : wlm w = true) {D : Dat} {z : Int32 × Dat} (h : f_X12_leastOpen N D = some z) : C0 l w yX12_leastOpen cX12_leastOpen 2 (some .int) 0 0 [.ref (wb w + pp 207)] n (Ax nu K c u) D (some (.int z.1)) z.2 :=
  C0.of (by decide) (Nat.le_of_ble_eq_true rfl) (fun X e1 e2 e3 hz O => by
  subst e1
  subst e2
  exact w_X12_leastOpen O hm e3 hz  D h)
def f_X12_reach_b120 (N : Nat) (rec_26 : Int32 → Int32 → Int32 → Int32 → Dat → Option (Dat)) (rec_37 : Int32 → Int32 → Int32 → Int32 → Int32 → Dat → Option (Dat)) (rec_72 : Int32 → Int32 → Int32 → Int32 → Int32 → Int32 → Dat → Option (Dat)) (x1 : Int32) (x2 : Int32) (x3 : Int32) (x4 : Int32) (x5 : Int32) (x6 : Int32) (D : Dat) : Option (Dat) :=
  rec_72 x1 x2 x3 x4 x5 (x6 + 1) D
set_option maxHeartbeats 4000000 in
theorem w_X12_reach_b120 {X : Cx} {n nu c u : Nat} {K : Nat → Nat} {N : Nat} {rec_26 : Int32 → Int32 → Int32 → Int32 → Dat → Option (Dat)} {rec_37 : Int32 → Int32 → Int32 → Int32 → Int32 → Dat → Option (Dat)} {rec_72 : Int32 → Int32 → Int32 → Int32 → Int32 → Int32 → Dat → Option (Dat)} {z : Dat} (O : Ok X cX12_reach RX12 none 1 22) (hm : wlm (xw X) = true) (hn : xn X = 8) (hz : Z0 X (Ax nu K c u)) (hrec_26 : ∀ (x1 : Int32) (x2 : Int32) (x3 : Int32) (x4 : Int32) (D : Dat), rec_26 x1 x2 x3 x4 D = some z → V X (Q0 X n (Ax nu K c u) none z) n (Ax nu K c u) D 26 [(0, .ref (bo X + pp 207)), (1, .int x1), (2, .int x2), (3, .int x3), (4, .int x4)] []) (hrec_37 : ∀ (x1 : Int32) (x2 : Int32) (x3 : Int32) (x4 : Int32) (x5 : Int32) (D : Dat), rec_37 x1 x2 x3 x4 x5 D = some z → V X (Q0 X n (Ax nu K c u) none z) n (Ax nu K c u) D 37 [(0, .ref (bo X + pp 207)), (1, .int x1), (2, .int x2), (3, .int x3), (4, .int x4), (5, .int x5)] []) (hrec_72 : ∀ (x1 : Int32) (x2 : Int32) (x3 : Int32) (x4 : Int32) (x5 : Int32) (x6 : Int32) (D : Dat), rec_72 x1 x2 x3 x4 x5 x6 D = some z → V X (Q0 X n (Ax nu K c u) none z) n (Ax nu K c u) D 72 [(0, .ref (bo X + pp 207)), (1, .int x1), (2, .int x2), (3, .int x3), (4, .int x4), (5, .int x5), (6, .int x6)] []) (x1 : Int32) (x2 : Int32) (x3 : Int32) (x4 : Int32) (x5 : Int32) (x6 : Int32) (D : Dat) (h : f_X12_reach_b120 N rec_26 rec_37 rec_72 x1 x2 x3 x4 x5 x6 D = some z) : V X (Q0 X n (Ax nu K c u) none z) n (Ax nu K c u) D 120 [(0, .ref (bo X + pp 207)), (1, .int x1), (2, .int x2), (3, .int x3), (4, .int x4), (5, .int x5), (6, .int x6)] [] := by
  unfold f_X12_reach_b120 at h
  refine v_iinc (pc := 120) (lv' := [(6, .int (x6 + 1)), (0, .ref (bo X + pp 207)), (1, .int x1), (2, .int x2), (3, .int x3), (4, .int x4), (5, .int x5)]) O dX12_reach_120 6 rfl (congrArg (fun q => x6 + q) ic_1) (by rw [hn]; decide) rfl ?_
  refine v_goto (pc := 123) 72 O dX12_reach_123 (by decide) ?_
  refine v_sub [1, 2, 3, 4, 5, 6, 0] rfl ?_
  exact hrec_72 x1 x2 x3 x4 x5 (x6 + 1) D h
def f_X12_reach_b126 (N : Nat) (rec_26 : Int32 → Int32 → Int32 → Int32 → Dat → Option (Dat)) (rec_37 : Int32 → Int32 → Int32 → Int32 → Int32 → Dat → Option (Dat)) (x1 : Int32) (x2 : Int32) (x3 : Int32) (x4 : Int32) (x5 : Int32) (D : Dat) : Option (Dat) :=
  rec_37 x1 x2 x3 x4 (x5 + 1) D
set_option maxHeartbeats 4000000 in
theorem w_X12_reach_b126 {X : Cx} {n nu c u : Nat} {K : Nat → Nat} {N : Nat} {rec_26 : Int32 → Int32 → Int32 → Int32 → Dat → Option (Dat)} {rec_37 : Int32 → Int32 → Int32 → Int32 → Int32 → Dat → Option (Dat)} {z : Dat} (O : Ok X cX12_reach RX12 none 1 22) (hm : wlm (xw X) = true) (hn : xn X = 8) (hz : Z0 X (Ax nu K c u)) (hrec_26 : ∀ (x1 : Int32) (x2 : Int32) (x3 : Int32) (x4 : Int32) (D : Dat), rec_26 x1 x2 x3 x4 D = some z → V X (Q0 X n (Ax nu K c u) none z) n (Ax nu K c u) D 26 [(0, .ref (bo X + pp 207)), (1, .int x1), (2, .int x2), (3, .int x3), (4, .int x4)] []) (hrec_37 : ∀ (x1 : Int32) (x2 : Int32) (x3 : Int32) (x4 : Int32) (x5 : Int32) (D : Dat), rec_37 x1 x2 x3 x4 x5 D = some z → V X (Q0 X n (Ax nu K c u) none z) n (Ax nu K c u) D 37 [(0, .ref (bo X + pp 207)), (1, .int x1), (2, .int x2), (3, .int x3), (4, .int x4), (5, .int x5)] []) (x1 : Int32) (x2 : Int32) (x3 : Int32) (x4 : Int32) (x5 : Int32) (D : Dat) (h : f_X12_reach_b126 N rec_26 rec_37 x1 x2 x3 x4 x5 D = some z) : V X (Q0 X n (Ax nu K c u) none z) n (Ax nu K c u) D 126 [(0, .ref (bo X + pp 207)), (1, .int x1), (2, .int x2), (3, .int x3), (4, .int x4), (5, .int x5)] [] := by
  unfold f_X12_reach_b126 at h
  refine v_iinc (pc := 126) (lv' := [(5, .int (x5 + 1)), (0, .ref (bo X + pp 207)), (1, .int x1), (2, .int x2), (3, .int x3), (4, .int x4)]) O dX12_reach_126 5 rfl (congrArg (fun q => x5 + q) ic_1) (by rw [hn]; decide) rfl ?_
  refine v_goto (pc := 129) 37 O dX12_reach_129 (by decide) ?_
  refine v_sub [1, 2, 3, 4, 5, 0] rfl ?_
  exact hrec_37 x1 x2 x3 x4 (x5 + 1) D h
def f_X12_reach_b72 (N : Nat) (rec_26 : Int32 → Int32 → Int32 → Int32 → Dat → Option (Dat)) (rec_37 : Int32 → Int32 → Int32 → Int32 → Int32 → Dat → Option (Dat)) : Nat → Int32 → Int32 → Int32 → Int32 → Int32 → Int32 → Dat → Option (Dat)
  | 0, _, _, _, _, _, _, _ => none
  | g + 1, x1, x2, x3, x4, x5, x6, D => if 2 ≤ x6 then (f_X12_reach_b126 N rec_26 rec_37 x1 x2 x3 x4 x5 D) else ((f_X12_nextOf x5 x6 D).bind (fun p2 => if p2.1 < 0 then (f_X12_reach_b120 N rec_26 rec_37 (f_X12_reach_b72 N rec_26 rec_37 g) x1 x2 x3 x4 x5 x6 p2.2) else (if p2.1 = x2 then (f_X12_reach_b120 N rec_26 rec_37 (f_X12_reach_b72 N rec_26 rec_37 g) x1 x2 x3 x4 x5 x6 p2.2) else (if p2.1 < 0 ∨ 64 ≤ (p2.1).toNatClampNeg then none else (if (dI p2.2 252 (p2.1).toNatClampNeg) = 0 then (if p2.1 < 0 ∨ 64 ≤ (p2.1).toNatClampNeg then none else (f_X12_reach_b120 N rec_26 rec_37 (f_X12_reach_b72 N rec_26 rec_37 g) x1 x2 x3 1 x5 x6 (sI p2.2 252 (p2.1).toNatClampNeg ((1 : Int32) &&& 1)))) else (f_X12_reach_b120 N rec_26 rec_37 (f_X12_reach_b72 N rec_26 rec_37 g) x1 x2 x3 x4 x5 x6 p2.2))))))
set_option maxHeartbeats 4000000 in
theorem w_X12_reach_b72 {X : Cx} {n nu c u : Nat} {K : Nat → Nat} {N : Nat} {rec_26 : Int32 → Int32 → Int32 → Int32 → Dat → Option (Dat)} {rec_37 : Int32 → Int32 → Int32 → Int32 → Int32 → Dat → Option (Dat)} {z : Dat} (O : Ok X cX12_reach RX12 none 1 22) (hm : wlm (xw X) = true) (hn : xn X = 8) (hz : Z0 X (Ax nu K c u)) (hrec_26 : ∀ (x1 : Int32) (x2 : Int32) (x3 : Int32) (x4 : Int32) (D : Dat), rec_26 x1 x2 x3 x4 D = some z → V X (Q0 X n (Ax nu K c u) none z) n (Ax nu K c u) D 26 [(0, .ref (bo X + pp 207)), (1, .int x1), (2, .int x2), (3, .int x3), (4, .int x4)] []) (hrec_37 : ∀ (x1 : Int32) (x2 : Int32) (x3 : Int32) (x4 : Int32) (x5 : Int32) (D : Dat), rec_37 x1 x2 x3 x4 x5 D = some z → V X (Q0 X n (Ax nu K c u) none z) n (Ax nu K c u) D 37 [(0, .ref (bo X + pp 207)), (1, .int x1), (2, .int x2), (3, .int x3), (4, .int x4), (5, .int x5)] []) : ∀ (g : Nat) (x1 : Int32) (x2 : Int32) (x3 : Int32) (x4 : Int32) (x5 : Int32) (x6 : Int32) (D : Dat), f_X12_reach_b72 N rec_26 rec_37 g x1 x2 x3 x4 x5 x6 D = some z → V X (Q0 X n (Ax nu K c u) none z) n (Ax nu K c u) D 72 [(0, .ref (bo X + pp 207)), (1, .int x1), (2, .int x2), (3, .int x3), (4, .int x4), (5, .int x5), (6, .int x6)] [] := by
  intro g
  induction g with
  | zero => intro x1 x2 x3 x4 x5 x6 D h; exact absurd h (by simp [f_X12_reach_b72])
  | succ g ih =>
    intro x1 x2 x3 x4 x5 x6 D h
    rw [f_X12_reach_b72] at h
    refine v_iload (pc := 72) O dX12_reach_72 6 rfl ?_
    refine v_iconst (pc := 74) O dX12_reach_74 ic_2 ?_
    refine v_icmpge (pc := 75) 126 O dX12_reach_75 (by decide) (fun c1 => ?_) (fun c1 => ?_)
    · have h := (if_pos c1).symm.trans h
      refine v_sub [0, 1, 2, 3, 4, 5] rfl ?_
      exact w_X12_reach_b126 O hm hn hz hrec_26 hrec_37 x1 x2 x3 x4 x5 D h
    · have h := (if_neg c1).symm.trans h
      refine v_aload_n (pc := 78) O dX12_reach_78 0 rfl ?_
      refine v_iload (pc := 79) O dX12_reach_79 5 rfl ?_
      refine v_iload (pc := 81) O dX12_reach_81 6 rfl ?_
      obtain ⟨p2, e3, h⟩ := bind_some h
      refine v_callV (pc := 83) (a := 207) (As := [.int x5, .int x6]) (rest := []) (r := (some (.int p2.1))) (D' := p2.2) O (bb0 hz) (c_X12_nextOf hm e3) mw_X12_nextOf im_X12_nextOf se_X12_nextOf ml_X12_424 kq_207 (by decide) rfl rfl rfl (by decide) (by decide) (Nat.le_of_ble_eq_true rfl) dX12_reach_83 rfl rfl ?_
      refine v_istore (pc := 86) (lv' := [(7, .int p2.1), (0, .ref (bo X + pp 207)), (1, .int x1), (2, .int x2), (3, .int x3), (4, .int x4), (5, .int x5), (6, .int x6)]) O dX12_reach_86 (by rw [hn]; decide) rfl ?_
      refine v_iload (pc := 88) O dX12_reach_88 0 rfl ?_
      refine v_iflt (pc := 90) 120 O dX12_reach_90 (by decide) (fun c4 => ?_) (fun c4 => ?_)
      · have h := (if_pos c4).symm.trans h
        refine v_sub [1, 2, 3, 4, 5, 6, 7] rfl ?_
        exact w_X12_reach_b120 O hm hn hz hrec_26 hrec_37 ih x1 x2 x3 x4 x5 x6 p2.2 h
      · have h := (if_neg c4).symm.trans h
        refine v_iload (pc := 93) O dX12_reach_93 0 rfl ?_
        refine v_iload_n (pc := 95) O dX12_reach_95 3 rfl ?_
        refine v_icmpeq (pc := 96) 120 O dX12_reach_96 (by decide) (fun c5 => ?_) (fun c5 => ?_)
        · have h := (if_pos c5).symm.trans h
          refine v_sub [1, 2, 3, 4, 5, 6, 7] rfl ?_
          exact w_X12_reach_b120 O hm hn hz hrec_26 hrec_37 ih x1 x2 x3 x4 x5 x6 p2.2 h
        · have h := (if_neg c5).symm.trans h
          refine v_aload_n (pc := 99) O dX12_reach_99 1 rfl ?_
          refine v_getK (pc := 100) (a := 207) O hm gf_X12_72 fl_X12_150 kq_207 lk_207_72 dX12_reach_100 ?_
          refine v_iload (pc := 103) O dX12_reach_103 0 rfl ?_
          obtain ⟨c6, h⟩ := or_none h
          refine v_zald (pc := 105) (a := 252) O kq_252 (inq lq_252 c6) dX12_reach_105 ?_
          refine v_ifne (pc := 106) 120 O dX12_reach_106 (by decide) (fun c7 => ?_) (fun c7 => ?_)
          · have h := (if_neg c7).symm.trans h
            refine v_sub [1, 2, 3, 4, 5, 6, 7] rfl ?_
            exact w_X12_reach_b120 O hm hn hz hrec_26 hrec_37 ih x1 x2 x3 x4 x5 x6 p2.2 h
          · have h := (if_pos c7).symm.trans h
            refine v_aload_n (pc := 109) O dX12_reach_109 1 rfl ?_
            refine v_getK (pc := 110) (a := 207) O hm gf_X12_72 fl_X12_150 kq_207 lk_207_72 dX12_reach_110 ?_
            refine v_iload (pc := 113) O dX12_reach_113 0 rfl ?_
            refine v_iconst (pc := 115) O dX12_reach_115 ic_1 ?_
            obtain ⟨c8, h⟩ := or_none h
            refine v_zast (pc := 116) (a := 252) O kq_252 (inq lq_252 c8) dX12_reach_116 ?_
            refine v_iconst (pc := 117) O dX12_reach_117 ic_1 ?_
            refine v_istore (pc := 118) (lv' := [(4, .int 1), (7, .int p2.1), (0, .ref (bo X + pp 207)), (1, .int x1), (2, .int x2), (3, .int x3), (5, .int x5), (6, .int x6)]) O dX12_reach_118 (by rw [hn]; decide) rfl ?_
            refine v_sub [2, 3, 4, 5, 0, 6, 7] rfl ?_
            exact w_X12_reach_b120 O hm hn hz hrec_26 hrec_37 ih x1 x2 x3 1 x5 x6 (sI p2.2 252 (p2.1).toNatClampNeg ((1 : Int32) &&& 1)) h
def f_X12_reach_b69 (N : Nat) (rec_26 : Int32 → Int32 → Int32 → Int32 → Dat → Option (Dat)) (rec_37 : Int32 → Int32 → Int32 → Int32 → Int32 → Dat → Option (Dat)) (x1 : Int32) (x2 : Int32) (x3 : Int32) (x4 : Int32) (x5 : Int32) (D : Dat) : Option (Dat) :=
  f_X12_reach_b72 N rec_26 rec_37 N x1 x2 x3 x4 x5 0 D
set_option maxHeartbeats 4000000 in
theorem w_X12_reach_b69 {X : Cx} {n nu c u : Nat} {K : Nat → Nat} {N : Nat} {rec_26 : Int32 → Int32 → Int32 → Int32 → Dat → Option (Dat)} {rec_37 : Int32 → Int32 → Int32 → Int32 → Int32 → Dat → Option (Dat)} {z : Dat} (O : Ok X cX12_reach RX12 none 1 22) (hm : wlm (xw X) = true) (hn : xn X = 8) (hz : Z0 X (Ax nu K c u)) (hrec_26 : ∀ (x1 : Int32) (x2 : Int32) (x3 : Int32) (x4 : Int32) (D : Dat), rec_26 x1 x2 x3 x4 D = some z → V X (Q0 X n (Ax nu K c u) none z) n (Ax nu K c u) D 26 [(0, .ref (bo X + pp 207)), (1, .int x1), (2, .int x2), (3, .int x3), (4, .int x4)] []) (hrec_37 : ∀ (x1 : Int32) (x2 : Int32) (x3 : Int32) (x4 : Int32) (x5 : Int32) (D : Dat), rec_37 x1 x2 x3 x4 x5 D = some z → V X (Q0 X n (Ax nu K c u) none z) n (Ax nu K c u) D 37 [(0, .ref (bo X + pp 207)), (1, .int x1), (2, .int x2), (3, .int x3), (4, .int x4), (5, .int x5)] []) (x1 : Int32) (x2 : Int32) (x3 : Int32) (x4 : Int32) (x5 : Int32) (D : Dat) (h : f_X12_reach_b69 N rec_26 rec_37 x1 x2 x3 x4 x5 D = some z) : V X (Q0 X n (Ax nu K c u) none z) n (Ax nu K c u) D 69 [(0, .ref (bo X + pp 207)), (1, .int x1), (2, .int x2), (3, .int x3), (4, .int x4), (5, .int x5)] [] := by
  unfold f_X12_reach_b69 at h
  refine v_iconst (pc := 69) O dX12_reach_69 ic_0 ?_
  refine v_istore (pc := 70) (lv' := [(6, .int 0), (0, .ref (bo X + pp 207)), (1, .int x1), (2, .int x2), (3, .int x3), (4, .int x4), (5, .int x5)]) O dX12_reach_70 (by rw [hn]; decide) rfl ?_
  refine v_sub [1, 2, 3, 4, 5, 6, 0] rfl ?_
  exact w_X12_reach_b72 O hm hn hz hrec_26 hrec_37 N x1 x2 x3 x4 x5 0 D h
def f_X12_reach_b37 (N : Nat) (rec_26 : Int32 → Int32 → Int32 → Int32 → Dat → Option (Dat)) : Nat → Int32 → Int32 → Int32 → Int32 → Int32 → Dat → Option (Dat)
  | 0, _, _, _, _, _, _ => none
  | g + 1, x1, x2, x3, x4, x5, D => if (dI D 207 13) ≤ x5 then (rec_26 x1 x2 0 x4 D) else (if x5 < 0 ∨ 64 ≤ (x5).toNatClampNeg then none else (if (dI D 252 (x5).toNatClampNeg) = 0 then (if x3 = 0 then (f_X12_reach_b126 N rec_26 (f_X12_reach_b37 N rec_26 g) x1 x2 x3 x4 x5 D) else (if x5 = x1 then (f_X12_reach_b69 N rec_26 (f_X12_reach_b37 N rec_26 g) x1 x2 x3 x4 x5 D) else (f_X12_reach_b126 N rec_26 (f_X12_reach_b37 N rec_26 g) x1 x2 x3 x4 x5 D))) else (f_X12_reach_b69 N rec_26 (f_X12_reach_b37 N rec_26 g) x1 x2 x3 x4 x5 D)))
set_option maxHeartbeats 4000000 in
theorem w_X12_reach_b37 {X : Cx} {n nu c u : Nat} {K : Nat → Nat} {N : Nat} {rec_26 : Int32 → Int32 → Int32 → Int32 → Dat → Option (Dat)} {z : Dat} (O : Ok X cX12_reach RX12 none 1 22) (hm : wlm (xw X) = true) (hn : xn X = 8) (hz : Z0 X (Ax nu K c u)) (hrec_26 : ∀ (x1 : Int32) (x2 : Int32) (x3 : Int32) (x4 : Int32) (D : Dat), rec_26 x1 x2 x3 x4 D = some z → V X (Q0 X n (Ax nu K c u) none z) n (Ax nu K c u) D 26 [(0, .ref (bo X + pp 207)), (1, .int x1), (2, .int x2), (3, .int x3), (4, .int x4)] []) : ∀ (g : Nat) (x1 : Int32) (x2 : Int32) (x3 : Int32) (x4 : Int32) (x5 : Int32) (D : Dat), f_X12_reach_b37 N rec_26 g x1 x2 x3 x4 x5 D = some z → V X (Q0 X n (Ax nu K c u) none z) n (Ax nu K c u) D 37 [(0, .ref (bo X + pp 207)), (1, .int x1), (2, .int x2), (3, .int x3), (4, .int x4), (5, .int x5)] [] := by
  intro g
  induction g with
  | zero => intro x1 x2 x3 x4 x5 D h; exact absurd h (by simp [f_X12_reach_b37])
  | succ g ih =>
    intro x1 x2 x3 x4 x5 D h
    rw [f_X12_reach_b37] at h
    refine v_iload (pc := 37) O dX12_reach_37 5 rfl ?_
    refine v_aload_n (pc := 39) O dX12_reach_39 0 rfl ?_
    refine v_getI (pc := 40) (a := 207) O gf_X12_13 fl_X12_406 kq_207 dX12_reach_40 ?_
    refine v_icmpge (pc := 43) 132 O dX12_reach_43 (by decide) (fun c9 => ?_) (fun c9 => ?_)
    · have h := (if_pos c9).symm.trans h
      refine v_iconst (pc := 132) O dX12_reach_132 ic_0 ?_
      refine v_istore_n (pc := 133) (lv' := [(3, .int 0), (0, .ref (bo X + pp 207)), (1, .int x1), (2, .int x2), (4, .int x4), (5, .int x5)]) O dX12_reach_133 rfl (by rw [hn]; decide) rfl ?_
      refine v_goto (pc := 134) 26 O dX12_reach_134 (by decide) ?_
      refine v_sub [1, 2, 3, 0, 4] rfl ?_
      exact hrec_26 x1 x2 0 x4 D h
    · have h := (if_neg c9).symm.trans h
      refine v_aload_n (pc := 46) O dX12_reach_46 0 rfl ?_
      refine v_getK (pc := 47) (a := 207) O hm gf_X12_72 fl_X12_150 kq_207 lk_207_72 dX12_reach_47 ?_
      refine v_iload (pc := 50) O dX12_reach_50 5 rfl ?_
      obtain ⟨c10, h⟩ := or_none h
      refine v_zald (pc := 52) (a := 252) O kq_252 (inq lq_252 c10) dX12_reach_52 ?_
      refine v_ifne (pc := 53) 69 O dX12_reach_53 (by decide) (fun c11 => ?_) (fun c11 => ?_)
      · have h := (if_neg c11).symm.trans h
        refine v_sub [0, 1, 2, 3, 4, 5] rfl ?_
        exact w_X12_reach_b69 O hm hn hz hrec_26 ih x1 x2 x3 x4 x5 D h
      · have h := (if_pos c11).symm.trans h
        refine v_iload_n (pc := 56) O dX12_reach_56 3 rfl ?_
        refine v_ifeq (pc := 57) 126 O dX12_reach_57 (by decide) (fun c12 => ?_) (fun c12 => ?_)
        · have h := (if_pos c12).symm.trans h
          refine v_sub [0, 1, 2, 3, 4, 5] rfl ?_
          exact w_X12_reach_b126 O hm hn hz hrec_26 ih x1 x2 x3 x4 x5 D h
        · have h := (if_neg c12).symm.trans h
          refine v_iload (pc := 60) O dX12_reach_60 5 rfl ?_
          refine v_iload_n (pc := 62) O dX12_reach_62 1 rfl ?_
          refine v_icmpeq (pc := 63) 69 O dX12_reach_63 (by decide) (fun c13 => ?_) (fun c13 => ?_)
          · have h := (if_pos c13).symm.trans h
            refine v_sub [0, 1, 2, 3, 4, 5] rfl ?_
            exact w_X12_reach_b69 O hm hn hz hrec_26 ih x1 x2 x3 x4 x5 D h
          · have h := (if_neg c13).symm.trans h
            refine v_goto (pc := 66) 126 O dX12_reach_66 (by decide) ?_
            refine v_sub [0, 1, 2, 3, 4, 5] rfl ?_
            exact w_X12_reach_b126 O hm hn hz hrec_26 ih x1 x2 x3 x4 x5 D h
def f_X12_reach_b26 (N : Nat) : Nat → Int32 → Int32 → Int32 → Int32 → Dat → Option (Dat)
  | 0, _, _, _, _, _ => none
  | g + 1, x1, x2, x3, x4, D => if x4 = 0 then (some D) else (f_X12_reach_b37 N (f_X12_reach_b26 N g) N x1 x2 x3 0 0 D)
set_option maxHeartbeats 4000000 in
theorem w_X12_reach_b26 {X : Cx} {n nu c u : Nat} {K : Nat → Nat} {N : Nat} {z : Dat} (O : Ok X cX12_reach RX12 none 1 22) (hm : wlm (xw X) = true) (hn : xn X = 8) (hz : Z0 X (Ax nu K c u)) : ∀ (g : Nat) (x1 : Int32) (x2 : Int32) (x3 : Int32) (x4 : Int32) (D : Dat), f_X12_reach_b26 N g x1 x2 x3 x4 D = some z → V X (Q0 X n (Ax nu K c u) none z) n (Ax nu K c u) D 26 [(0, .ref (bo X + pp 207)), (1, .int x1), (2, .int x2), (3, .int x3), (4, .int x4)] [] := by
  intro g
  induction g with
  | zero => intro x1 x2 x3 x4 D h; exact absurd h (by simp [f_X12_reach_b26])
  | succ g ih =>
    intro x1 x2 x3 x4 D h
    rw [f_X12_reach_b26] at h
    refine v_iload (pc := 26) O dX12_reach_26 4 rfl ?_
    refine v_ifeq (pc := 28) 137 O dX12_reach_28 (by decide) (fun c14 => ?_) (fun c14 => ?_)
    · have h := (if_pos c14).symm.trans h
      obtain rfl := Option.some.inj h
      exact v_ret (pc := 137) O hz dX12_reach_137
    · have h := (if_neg c14).symm.trans h
      refine v_iconst (pc := 31) O dX12_reach_31 ic_0 ?_
      refine v_istore (pc := 32) (lv' := [(4, .int 0), (0, .ref (bo X + pp 207)), (1, .int x1), (2, .int x2), (3, .int x3)]) O dX12_reach_32 (by rw [hn]; decide) rfl ?_
      refine v_iconst (pc := 34) O dX12_reach_34 ic_0 ?_
      refine v_istore (pc := 35) (lv' := [(5, .int 0), (4, .int 0), (0, .ref (bo X + pp 207)), (1, .int x1), (2, .int x2), (3, .int x3)]) O dX12_reach_35 (by rw [hn]; decide) rfl ?_
      refine v_sub [2, 3, 4, 5, 1, 0] rfl ?_
      exact w_X12_reach_b37 O hm hn hz ih N x1 x2 x3 0 0 D h
def f_X12_reach_b2 (N : Nat) : Nat → Int32 → Int32 → Int32 → Dat → Option (Dat)
  | 0, _, _, _, _ => none
  | g + 1, x1, x2, x3, D => if 64 ≤ x3 then (f_X12_reach_b26 N N x1 x2 1 1 D) else (if x3 < 0 ∨ 64 ≤ (x3).toNatClampNeg then none else ((f_X12_reach_b2 N g) x1 x2 (x3 + 1) (sI D 252 (x3).toNatClampNeg ((0 : Int32) &&& 1))))
set_option maxHeartbeats 4000000 in
theorem w_X12_reach_b2 {X : Cx} {n nu c u : Nat} {K : Nat → Nat} {N : Nat} {z : Dat} (O : Ok X cX12_reach RX12 none 1 22) (hm : wlm (xw X) = true) (hn : xn X = 8) (hz : Z0 X (Ax nu K c u)) : ∀ (g : Nat) (x1 : Int32) (x2 : Int32) (x3 : Int32) (D : Dat), f_X12_reach_b2 N g x1 x2 x3 D = some z → V X (Q0 X n (Ax nu K c u) none z) n (Ax nu K c u) D 2 [(0, .ref (bo X + pp 207)), (1, .int x1), (2, .int x2), (3, .int x3)] [] := by
  intro g
  induction g with
  | zero => intro x1 x2 x3 D h; exact absurd h (by simp [f_X12_reach_b2])
  | succ g ih =>
    intro x1 x2 x3 D h
    rw [f_X12_reach_b2] at h
    refine v_iload_n (pc := 2) O dX12_reach_2 3 rfl ?_
    refine v_bipush (pc := 3) O dX12_reach_3 bp_64 ?_
    refine v_icmpge (pc := 5) 21 O dX12_reach_5 (by decide) (fun c15 => ?_) (fun c15 => ?_)
    · have h := (if_pos c15).symm.trans h
      refine v_iconst (pc := 21) O dX12_reach_21 ic_1 ?_
      refine v_istore_n (pc := 22) (lv' := [(3, .int 1), (0, .ref (bo X + pp 207)), (1, .int x1), (2, .int x2)]) O dX12_reach_22 rfl (by rw [hn]; decide) rfl ?_
      refine v_iconst (pc := 23) O dX12_reach_23 ic_1 ?_
      refine v_istore (pc := 24) (lv' := [(4, .int 1), (3, .int 1), (0, .ref (bo X + pp 207)), (1, .int x1), (2, .int x2)]) O dX12_reach_24 (by rw [hn]; decide) rfl ?_
      refine v_sub [2, 3, 4, 1, 0] rfl ?_
      exact w_X12_reach_b26 O hm hn hz N x1 x2 1 1 D h
    · have h := (if_neg c15).symm.trans h
      refine v_aload_n (pc := 8) O dX12_reach_8 0 rfl ?_
      refine v_getK (pc := 9) (a := 207) O hm gf_X12_72 fl_X12_150 kq_207 lk_207_72 dX12_reach_9 ?_
      refine v_iload_n (pc := 12) O dX12_reach_12 3 rfl ?_
      refine v_iconst (pc := 13) O dX12_reach_13 ic_0 ?_
      obtain ⟨c16, h⟩ := or_none h
      refine v_zast (pc := 14) (a := 252) O kq_252 (inq lq_252 c16) dX12_reach_14 ?_
      refine v_iinc (pc := 15) (lv' := [(3, .int (x3 + 1)), (0, .ref (bo X + pp 207)), (1, .int x1), (2, .int x2)]) O dX12_reach_15 3 rfl (congrArg (fun q => x3 + q) ic_1) (by rw [hn]; decide) rfl ?_
      refine v_goto (pc := 18) 2 O dX12_reach_18 (by decide) ?_
      refine v_sub [1, 2, 3, 0] rfl ?_
      exact ih x1 x2 (x3 + 1) (sI D 252 (x3).toNatClampNeg ((0 : Int32) &&& 1)) h
def f_X12_reach (N : Nat) (x1 : Int32) (x2 : Int32) (D : Dat) : Option (Dat) :=
  f_X12_reach_b2 N N x1 x2 0 D
set_option maxHeartbeats 4000000 in
theorem w_X12_reach {X : Cx} {n nu c u : Nat} {K : Nat → Nat} {N : Nat} {z : Dat} (O : Ok X cX12_reach RX12 none 1 22) (hm : wlm (xw X) = true) (hn : xn X = 8) (hz : Z0 X (Ax nu K c u)) (x1 : Int32) (x2 : Int32) (D : Dat) (h : f_X12_reach N x1 x2 D = some z) : V X (Q0 X n (Ax nu K c u) none z) n (Ax nu K c u) D 0 [(0, .ref (bo X + pp 207)), (1, .int x1), (2, .int x2)] [] := by
  unfold f_X12_reach at h
  refine v_iconst (pc := 0) O dX12_reach_0 ic_0 ?_
  refine v_istore_n (pc := 1) (lv' := [(3, .int 0), (0, .ref (bo X + pp 207)), (1, .int x1), (2, .int x2)]) O dX12_reach_1 rfl (by rw [hn]; decide) rfl ?_
  refine v_sub [1, 2, 3, 0] rfl ?_
  exact w_X12_reach_b2 O hm hn hz N x1 x2 0 D h
theorem c_X12_reach {l : Launch} {w : Wx} {n nu c u : Nat} {K : Nat → Nat} {N : Nat} (hm : wlm w = true) {x1 : Int32} {x2 : Int32} {D : Dat} {z : Dat} (h : f_X12_reach N x1 x2 D = some z) : C0 l w yX12_reach cX12_reach 8 none 1 22 [.ref (wb w + pp 207), .int x1, .int x2] n (Ax nu K c u) D none z :=
  C0.of (by decide) (Nat.le_of_ble_eq_true rfl) (fun X e1 e2 e3 hz O => by
  subst e1
  subst e2
  exact w_X12_reach O hm e3 hz x1 x2 D h)
