theorem fl_X1_17 : Cond.fieldLink RX1 17 RX1 (TX1 3).2.1 (TX1 3).2.2.1 ∈ tb := tb_of 286 (by decide +kernel) (by decide +kernel)
theorem gf_X1_3 : FI 1 RX1 TX1 6 tyX1 3 3 := ⟨rfl, inb_X1, tyX1_ok, nmX1, by decide, by decide, rfl, rfl, rfl⟩
theorem lk_6_3 : lks 6 3 = some 8 := by decide +kernel
theorem kq_8 {nu c u : Nat} {K : Nat → Nat} : (Ax nu K c u).1 8 = 18 := kd_lt (K := K) (a := 8) (by decide) rfl
theorem lq_8 {nu c u : Nat} {K : Nat → Nat} : (Ax nu K c u).2.1 8 = 48 := rfl
theorem kr0_8 : ∀ j, j < 48 → 8 + 1 + j < NS ∧ kst (8 + 1 + j) = 14 ∧ nst (8 + 1 + j) = 26 ∧ 8 + 1 + j ≠ 2 := by decide +kernel
theorem kr_8 {nu c u : Nat} {K : Nat → Nat} {i : Int32} (h : ¬ (i < 0 ∨ 48 ≤ i.toNatClampNeg)) : (Ax nu K c u).1 (8 + 1 + i.toNatClampNeg) = 14 := kd_lt (K := K) (a := 8 + 1 + i.toNatClampNeg) (kr0_8 _ (Nat.not_le.mp fun q => h (Or.inr q))).1 (kr0_8 _ (Nat.not_le.mp fun q => h (Or.inr q))).2.1
theorem lr_8 {nu c u : Nat} {K : Nat → Nat} {i : Int32} (h : ¬ (i < 0 ∨ 48 ≤ i.toNatClampNeg)) : (Ax nu K c u).2.1 (8 + 1 + i.toNatClampNeg) = 26 := (if_neg (kr0_8 _ (Nat.not_le.mp fun q => h (Or.inr q))).2.2.2).trans (kr0_8 _ (Nat.not_le.mp fun q => h (Or.inr q))).2.2.1
theorem ml_X1_91 : Cond.methodLink RX1 91 arraycopyName ∈ tb := tb_of 1201 (by decide +kernel) (by decide +kernel)
theorem fl_X1_97 : Cond.fieldLink RX1 97 RX7 (TX7 6).2.1 (TX7 6).2.2.1 ∈ tb := tb_of 1050 (by decide +kernel) (by decide +kernel)
theorem gf_X7_6 : FI 7 RX7 TX7 10 tyX7 6 2 := ⟨rfl, inb_X7, tyX7_ok, nmX7, by decide, by decide, rfl, rfl, rfl⟩
theorem cw_X1_goThrough : Cond.code yX1_goThrough cX1_goThrough 5 none ∈ tb := tb_of 1166 (by decide +kernel) (by decide +kernel)
theorem mw_X1_goThrough : MW yX1_goThrough cX1_goThrough 5 none 3 := ⟨cw_X1_goThrough, ini_X1, by decide +kernel⟩
theorem im_X1_goThrough : Cond.instanceMethod yX1_goThrough ∈ tb := tb_of 1165 (by decide +kernel) (by decide +kernel)
theorem se_X1_goThrough : Cond.selects (yX1_goThrough).cls yX1_goThrough yX1_goThrough ∈ tb := tb_of 36 (by decide +kernel) (by decide +kernel)
theorem ml_X1_50 : Cond.methodLink RX1 50 yX1_goThrough ∈ tb := tb_of 1163 (by decide +kernel) (by decide +kernel)
theorem fl_X1_20 : Cond.fieldLink RX1 20 RX1 (TX1 4).2.1 (TX1 4).2.2.1 ∈ tb := tb_of 287 (by decide +kernel) (by decide +kernel)
theorem gf_X1_4 : FI 1 RX1 TX1 6 tyX1 4 3 := ⟨rfl, inb_X1, tyX1_ok, nmX1, by decide, by decide, rfl, rfl, rfl⟩
theorem lk_6_4 : lks 6 4 = some 57 := by decide +kernel
theorem kq_57 {nu c u : Nat} {K : Nat → Nat} : (Ax nu K c u).1 57 = 18 := kd_lt (K := K) (a := 57) (by decide) rfl
theorem lq_57 {nu c u : Nat} {K : Nat → Nat} : (Ax nu K c u).2.1 57 = 48 := rfl
theorem kr0_57 : ∀ j, j < 48 → 57 + 1 + j < NS ∧ kst (57 + 1 + j) = 14 ∧ nst (57 + 1 + j) = 26 ∧ 57 + 1 + j ≠ 2 := by decide +kernel
theorem kr_57 {nu c u : Nat} {K : Nat → Nat} {i : Int32} (h : ¬ (i < 0 ∨ 48 ≤ i.toNatClampNeg)) : (Ax nu K c u).1 (57 + 1 + i.toNatClampNeg) = 14 := kd_lt (K := K) (a := 57 + 1 + i.toNatClampNeg) (kr0_57 _ (Nat.not_le.mp fun q => h (Or.inr q))).1 (kr0_57 _ (Nat.not_le.mp fun q => h (Or.inr q))).2.1
theorem lr_57 {nu c u : Nat} {K : Nat → Nat} {i : Int32} (h : ¬ (i < 0 ∨ 48 ≤ i.toNatClampNeg)) : (Ax nu K c u).2.1 (57 + 1 + i.toNatClampNeg) = 26 := (if_neg (kr0_57 _ (Nat.not_le.mp fun q => h (Or.inr q))).2.2.2).trans (kr0_57 _ (Nat.not_le.mp fun q => h (Or.inr q))).2.2.1
theorem fl_X1_100 : Cond.fieldLink RX1 100 RX7 (TX7 7).2.1 (TX7 7).2.2.1 ∈ tb := tb_of 1055 (by decide +kernel) (by decide +kernel)
theorem gf_X7_7 : FI 7 RX7 TX7 10 tyX7 7 2 := ⟨rfl, inb_X7, tyX7_ok, nmX7, by decide, by decide, rfl, rfl, rfl⟩
theorem cw_X5_isDigit : Cond.code yX5_isDigit cX5_isDigit 2 (some .boolean) ∈ tb := tb_of 825 (by decide +kernel) (by decide +kernel)
theorem mw_X5_isDigit : MW yX5_isDigit cX5_isDigit 2 (some .boolean) 1 := ⟨cw_X5_isDigit, ini_X5, by decide +kernel⟩
theorem im_X5_isDigit : Cond.instanceMethod yX5_isDigit ∈ tb := tb_of 824 (by decide +kernel) (by decide +kernel)
theorem se_X5_isDigit : Cond.selects (yX5_isDigit).cls yX5_isDigit yX5_isDigit ∈ tb := tb_of 9 (by decide +kernel) (by decide +kernel)
theorem ml_X5_99 : Cond.methodLink RX5 99 yX5_isDigit ∈ tb := tb_of 822 (by decide +kernel) (by decide +kernel)
theorem cw_X5_isLetter : Cond.code yX5_isLetter cX5_isLetter 2 (some .boolean) ∈ tb := tb_of 821 (by decide +kernel) (by decide +kernel)
theorem mw_X5_isLetter : MW yX5_isLetter cX5_isLetter 2 (some .boolean) 1 := ⟨cw_X5_isLetter, ini_X5, by decide +kernel⟩
theorem im_X5_isLetter : Cond.instanceMethod yX5_isLetter ∈ tb := tb_of 820 (by decide +kernel) (by decide +kernel)
theorem se_X5_isLetter : Cond.selects (yX5_isLetter).cls yX5_isLetter yX5_isLetter ∈ tb := tb_of 8 (by decide +kernel) (by decide +kernel)
theorem ml_X5_95 : Cond.methodLink RX5 95 yX5_isLetter ∈ tb := tb_of 818 (by decide +kernel) (by decide +kernel)
theorem ml_X5_141 : Cond.methodLink RX5 141 yJ0_length_8abf5 ∈ tb := tb_of 843 (by decide +kernel) (by decide +kernel)
theorem fl_X8_9 : Cond.fieldLink RX8 9 RX8 (TX8 0).2.1 (TX8 0).2.2.1 ∈ tb := tb_of 308 (by decide +kernel) (by decide +kernel)
theorem gf_X8_0 : FI 8 RX8 TX8 3 tyX8 0 2 := ⟨rfl, inb_X8, tyX8_ok, nmX8, by decide, by decide, rfl, rfl, rfl⟩
theorem fl_X8_90 : Cond.fieldLink RX8 90 RX7 (TX7 4).2.1 (TX7 4).2.2.1 ∈ tb := tb_of 1042 (by decide +kernel) (by decide +kernel)
theorem fl_X8_93 : Cond.fieldLink RX8 93 RX7 (TX7 5).2.1 (TX7 5).2.2.1 ∈ tb := tb_of 1046 (by decide +kernel) (by decide +kernel)
theorem ml_X8_96 : Cond.methodLink RX8 96 yX4_operation ∈ tb := tb_of 1236 (by decide +kernel) (by decide +kernel)
theorem ml_X8_100 : Cond.methodLink RX8 100 yX4_argument ∈ tb := tb_of 1237 (by decide +kernel) (by decide +kernel)
theorem cw_X1_joinInto : Cond.code yX1_joinInto cX1_joinInto 5 (some .boolean) ∈ tb := tb_of 1206 (by decide +kernel) (by decide +kernel)
theorem mw_X1_joinInto : MW yX1_joinInto cX1_joinInto 5 (some .boolean) 2 := ⟨cw_X1_joinInto, ini_X1, by decide +kernel⟩
theorem sm_X1_joinInto : Cond.static yX1_joinInto ∈ tb := tb_of 1205 (by decide +kernel) (by decide +kernel)
theorem ml_X1_103 : Cond.methodLink RX1 103 yX1_joinInto ∈ tb := tb_of 1204 (by decide +kernel) (by decide +kernel)
theorem sp_156 : (Int16.ofInt (156)).toInt32 = (156 : Int32) := by decide
theorem cw_X1_shadeOf : Cond.code yX1_shadeOf cX1_shadeOf 5 (some .int) ∈ tb := tb_of 1170 (by decide +kernel) (by decide +kernel)
theorem mw_X1_shadeOf : MW yX1_shadeOf cX1_shadeOf 5 (some .int) 1 := ⟨cw_X1_shadeOf, ini_X1, by decide +kernel⟩
theorem im_X1_shadeOf : Cond.instanceMethod yX1_shadeOf ∈ tb := tb_of 1169 (by decide +kernel) (by decide +kernel)
theorem se_X1_shadeOf : Cond.selects (yX1_shadeOf).cls yX1_shadeOf yX1_shadeOf ∈ tb := tb_of 37 (by decide +kernel) (by decide +kernel)
theorem ml_X1_62 : Cond.methodLink RX1 62 yX1_shadeOf ∈ tb := tb_of 1167 (by decide +kernel) (by decide +kernel)
theorem fl_X1_54 : Cond.fieldLink RX1 54 RX7 (TX7 0).2.1 (TX7 0).2.2.1 ∈ tb := tb_of 1029 (by decide +kernel) (by decide +kernel)
theorem fl_X1_59 : Cond.fieldLink RX1 59 RX7 (TX7 2).2.1 (TX7 2).2.2.1 ∈ tb := tb_of 1035 (by decide +kernel) (by decide +kernel)
theorem gf_X7_2 : FI 7 RX7 TX7 10 tyX7 2 0 := ⟨rfl, inb_X7, tyX7_ok, nmX7, by decide, by decide, rfl, rfl, rfl⟩
theorem cw_J0_charAt_5068e : Cond.code yJ0_charAt_5068e cJ0_charAt_5068e 2 (some .char) ∈ tb := tb_of 856 (by decide +kernel) (by decide +kernel)
theorem mw_J0_charAt_5068e : MW yJ0_charAt_5068e cJ0_charAt_5068e 2 (some .char) 1 := ⟨cw_J0_charAt_5068e, ini_J0, by decide +kernel⟩
theorem im_J0_charAt_5068e : Cond.instanceMethod yJ0_charAt_5068e ∈ tb := tb_of 854 (by decide +kernel) (by decide +kernel)
theorem se_J0_charAt_5068e : Cond.selects (yJ0_charAt_5068e).cls yJ0_charAt_5068e yJ0_charAt_5068e ∈ tb := tb_of 855 (by decide +kernel) (by decide +kernel)
theorem ml_X5_144 : Cond.methodLink RX5 144 yJ0_charAt_5068e ∈ tb := tb_of 853 (by decide +kernel) (by decide +kernel)
theorem ini_X8 : Cond.initialized RX8 ∈ tb := tb_of 165 (by decide +kernel) (by decide +kernel)
theorem cw_X8_emit : Cond.code yX8_emit cX8_emit 3 none ∈ tb := tb_of 1241 (by decide +kernel) (by decide +kernel)
theorem mw_X8_emit : MW yX8_emit cX8_emit 3 none 2 := ⟨cw_X8_emit, ini_X8, by decide +kernel⟩
theorem im_X8_emit : Cond.instanceMethod yX8_emit ∈ tb := tb_of 1240 (by decide +kernel) (by decide +kernel)
theorem se_X8_emit : Cond.selects (yX8_emit).cls yX8_emit yX8_emit ∈ tb := tb_of 45 (by decide +kernel) (by decide +kernel)
theorem ml_X8_38 : Cond.methodLink RX8 38 yX8_emit ∈ tb := tb_of 1238 (by decide +kernel) (by decide +kernel)
theorem cw_X4_proc : Cond.code yX4_proc cX4_proc 2 (some (.object "FlowChain$Statement")) ∈ tb := tb_of 1214 (by decide +kernel) (by decide +kernel)
theorem mw_X4_proc : MW yX4_proc cX4_proc 2 (some (.object "FlowChain$Statement")) 1 := ⟨cw_X4_proc, ini_X4, by decide +kernel⟩
theorem im_X4_proc : Cond.instanceMethod yX4_proc ∈ tb := tb_of 1212 (by decide +kernel) (by decide +kernel)
theorem se_X4_proc : Cond.selects (yX4_proc).cls yX4_proc yX4_proc ∈ tb := tb_of 1213 (by decide +kernel) (by decide +kernel)
theorem cw_X1_set : Cond.code yX1_set cX1_set 4 none ∈ tb := tb_of 1186 (by decide +kernel) (by decide +kernel)
theorem mw_X1_set : MW yX1_set cX1_set 4 none 3 := ⟨cw_X1_set, ini_X1, by decide +kernel⟩
theorem im_X1_set : Cond.instanceMethod yX1_set ∈ tb := tb_of 1185 (by decide +kernel) (by decide +kernel)
theorem se_X1_set : Cond.selects (yX1_set).cls yX1_set yX1_set ∈ tb := tb_of 38 (by decide +kernel) (by decide +kernel)
theorem ml_X1_66 : Cond.methodLink RX1 66 yX1_set ∈ tb := tb_of 1183 (by decide +kernel) (by decide +kernel)
theorem fl_X1_75 : Cond.fieldLink RX1 75 RX7 (TX7 3).2.1 (TX7 3).2.2.1 ∈ tb := tb_of 1039 (by decide +kernel) (by decide +kernel)
theorem gf_X7_3 : FI 7 RX7 TX7 10 tyX7 3 0 := ⟨rfl, inb_X7, tyX7_ok, nmX7, by decide, by decide, rfl, rfl, rfl⟩
theorem cw_X1_goOverIf : Cond.code yX1_goOverIf cX1_goOverIf 4 none ∈ tb := tb_of 1200 (by decide +kernel) (by decide +kernel)
theorem mw_X1_goOverIf : MW yX1_goOverIf cX1_goOverIf 4 none 3 := ⟨cw_X1_goOverIf, ini_X1, by decide +kernel⟩
theorem im_X1_goOverIf : Cond.instanceMethod yX1_goOverIf ∈ tb := tb_of 1199 (by decide +kernel) (by decide +kernel)
theorem se_X1_goOverIf : Cond.selects (yX1_goOverIf).cls yX1_goOverIf yX1_goOverIf ∈ tb := tb_of 40 (by decide +kernel) (by decide +kernel)
theorem ml_X1_78 : Cond.methodLink RX1 78 yX1_goOverIf ∈ tb := tb_of 1197 (by decide +kernel) (by decide +kernel)
theorem cw_X1_goOverWhile : Cond.code yX1_goOverWhile cX1_goOverWhile 6 none ∈ tb := tb_of 1210 (by decide +kernel) (by decide +kernel)
theorem mw_X1_goOverWhile : MW yX1_goOverWhile cX1_goOverWhile 6 none 3 := ⟨cw_X1_goOverWhile, ini_X1, by decide +kernel⟩
theorem im_X1_goOverWhile : Cond.instanceMethod yX1_goOverWhile ∈ tb := tb_of 1209 (by decide +kernel) (by decide +kernel)
theorem se_X1_goOverWhile : Cond.selects (yX1_goOverWhile).cls yX1_goOverWhile yX1_goOverWhile ∈ tb := tb_of 41 (by decide +kernel) (by decide +kernel)
theorem ml_X1_81 : Cond.methodLink RX1 81 yX1_goOverWhile ∈ tb := tb_of 1207 (by decide +kernel) (by decide +kernel)
theorem ml_X1_84 : Cond.methodLink RX1 84 yX4_proc ∈ tb := tb_of 1211 (by decide +kernel) (by decide +kernel)
theorem fl_X1_88 : Cond.fieldLink RX1 88 RX7 (TX7 9).2.1 (TX7 9).2.2.1 ∈ tb := tb_of 1062 (by decide +kernel) (by decide +kernel)
theorem gf_X7_9 : FI 7 RX7 TX7 10 tyX7 9 2 := ⟨rfl, inb_X7, tyX7_ok, nmX7, by decide, by decide, rfl, rfl, rfl⟩
def f_X5_endOfToken_b64 (N : Nat) (x2 : Int32) (D : Dat) : Option (Int32 × Dat) :=
  some (x2, D)
set_option maxHeartbeats 4000000 in
theorem w_X5_endOfToken_b64 {X : Cx} {n nu c u : Nat} {K : Nat → Nat} {N : Nat} {z : Int32 × Dat} (O : Ok X cX5_endOfToken RX5 (some .int) 1 21) (hm : wlm (xw X) = true) (hn : xn X = 3) (hz : Z0 X (Ax nu K c u)) (x2 : Int32) (D : Dat) (h : f_X5_endOfToken_b64 N x2 D = some z) : V X (Q0 X n (Ax nu K c u) (some (.int z.1)) z.2) n (Ax nu K c u) D 64 [(2, .int x2)] [] := by
  unfold f_X5_endOfToken_b64 at h
  refine v_iload_n (pc := 64) O dX5_endOfToken_64 0 rfl ?_
  obtain rfl := Option.some.inj h
  exact v_iret (pc := 65) O hz dX5_endOfToken_65
def f_X5_endOfToken_b12 (N : Nat) : Nat → Int32 → Dat → Option (Int32 × Dat)
  | 0, _, _ => none
  | g + 1, x2, D => if (dI D 3 2) ≤ x2 then (f_X5_endOfToken_b64 N x2 D) else ((f_X5_isLetter x2 D).bind (fun p2 => if p2.1 = 0 then (f_X5_endOfToken_b64 N x2 p2.2) else ((f_X5_endOfToken_b12 N g) (x2 + 1) p2.2)))
set_option maxHeartbeats 4000000 in
theorem w_X5_endOfToken_b12 {X : Cx} {n nu c u : Nat} {K : Nat → Nat} {N : Nat} {z : Int32 × Dat} (O : Ok X cX5_endOfToken RX5 (some .int) 1 21) (hm : wlm (xw X) = true) (hn : xn X = 3) (hz : Z0 X (Ax nu K c u)) : ∀ (g : Nat) (x2 : Int32) (D : Dat), f_X5_endOfToken_b12 N g x2 D = some z → V X (Q0 X n (Ax nu K c u) (some (.int z.1)) z.2) n (Ax nu K c u) D 12 [(0, .ref (bo X + pp 3)), (2, .int x2)] [] := by
  intro g
  induction g with
  | zero => intro x2 D h; exact absurd h (by simp [f_X5_endOfToken_b12])
  | succ g ih =>
    intro x2 D h
    rw [f_X5_endOfToken_b12] at h
    refine v_iload_n (pc := 12) O dX5_endOfToken_12 1 rfl ?_
    refine v_aload_n (pc := 13) O dX5_endOfToken_13 0 rfl ?_
    refine v_getI (pc := 14) (a := 3) O gf_X5_2 fl_X5_32 kq_3 dX5_endOfToken_14 ?_
    refine v_icmpge (pc := 17) 64 O dX5_endOfToken_17 (by decide) (fun c1 => ?_) (fun c1 => ?_)
    · have h := (if_pos c1).symm.trans h
      refine v_sub [1] rfl ?_
      exact w_X5_endOfToken_b64 O hm hn hz x2 D h
    · have h := (if_neg c1).symm.trans h
      refine v_aload_n (pc := 20) O dX5_endOfToken_20 0 rfl ?_
      refine v_iload_n (pc := 21) O dX5_endOfToken_21 1 rfl ?_
      obtain ⟨p2, e3, h⟩ := bind_some h
      refine v_callV (pc := 22) (a := 3) (As := [.int x2]) (rest := []) (r := (some (.int p2.1))) (D' := p2.2) O (bb0 hz) (c_X5_isLetter hm e3) mw_X5_isLetter im_X5_isLetter se_X5_isLetter ml_X5_95 kq_3 (by decide) rfl rfl rfl (by decide) (by decide) (Nat.le_of_ble_eq_true rfl) dX5_endOfToken_22 rfl rfl ?_
      refine v_ifeq (pc := 25) 64 O dX5_endOfToken_25 (by decide) (fun c4 => ?_) (fun c4 => ?_)
      · have h := (if_pos c4).symm.trans h
        refine v_sub [1] rfl ?_
        exact w_X5_endOfToken_b64 O hm hn hz x2 p2.2 h
      · have h := (if_neg c4).symm.trans h
        refine v_iinc (pc := 28) (lv' := [(2, .int (x2 + 1)), (0, .ref (bo X + pp 3))]) O dX5_endOfToken_28 1 rfl (congrArg (fun q => x2 + q) ic_1) (by rw [hn]; decide) rfl ?_
        refine v_goto (pc := 31) 12 O dX5_endOfToken_31 (by decide) ?_
        refine v_sub [1, 0] rfl ?_
        exact ih (x2 + 1) p2.2 h
def f_X5_endOfToken_b42 (N : Nat) : Nat → Int32 → Dat → Option (Int32 × Dat)
  | 0, _, _ => none
  | g + 1, x2, D => if (dI D 3 2) ≤ x2 then (f_X5_endOfToken_b64 N x2 D) else ((f_X5_isDigit x2 D).bind (fun p6 => if p6.1 = 0 then (f_X5_endOfToken_b64 N x2 p6.2) else ((f_X5_endOfToken_b42 N g) (x2 + 1) p6.2)))
set_option maxHeartbeats 4000000 in
theorem w_X5_endOfToken_b42 {X : Cx} {n nu c u : Nat} {K : Nat → Nat} {N : Nat} {z : Int32 × Dat} (O : Ok X cX5_endOfToken RX5 (some .int) 1 21) (hm : wlm (xw X) = true) (hn : xn X = 3) (hz : Z0 X (Ax nu K c u)) : ∀ (g : Nat) (x2 : Int32) (D : Dat), f_X5_endOfToken_b42 N g x2 D = some z → V X (Q0 X n (Ax nu K c u) (some (.int z.1)) z.2) n (Ax nu K c u) D 42 [(0, .ref (bo X + pp 3)), (2, .int x2)] [] := by
  intro g
  induction g with
  | zero => intro x2 D h; exact absurd h (by simp [f_X5_endOfToken_b42])
  | succ g ih =>
    intro x2 D h
    rw [f_X5_endOfToken_b42] at h
    refine v_iload_n (pc := 42) O dX5_endOfToken_42 1 rfl ?_
    refine v_aload_n (pc := 43) O dX5_endOfToken_43 0 rfl ?_
    refine v_getI (pc := 44) (a := 3) O gf_X5_2 fl_X5_32 kq_3 dX5_endOfToken_44 ?_
    refine v_icmpge (pc := 47) 64 O dX5_endOfToken_47 (by decide) (fun c5 => ?_) (fun c5 => ?_)
    · have h := (if_pos c5).symm.trans h
      refine v_sub [1] rfl ?_
      exact w_X5_endOfToken_b64 O hm hn hz x2 D h
    · have h := (if_neg c5).symm.trans h
      refine v_aload_n (pc := 50) O dX5_endOfToken_50 0 rfl ?_
      refine v_iload_n (pc := 51) O dX5_endOfToken_51 1 rfl ?_
      obtain ⟨p6, e7, h⟩ := bind_some h
      refine v_callV (pc := 52) (a := 3) (As := [.int x2]) (rest := []) (r := (some (.int p6.1))) (D' := p6.2) O (bb0 hz) (c_X5_isDigit hm e7) mw_X5_isDigit im_X5_isDigit se_X5_isDigit ml_X5_99 kq_3 (by decide) rfl rfl rfl (by decide) (by decide) (Nat.le_of_ble_eq_true rfl) dX5_endOfToken_52 rfl rfl ?_
      refine v_ifeq (pc := 55) 64 O dX5_endOfToken_55 (by decide) (fun c8 => ?_) (fun c8 => ?_)
      · have h := (if_pos c8).symm.trans h
        refine v_sub [1] rfl ?_
        exact w_X5_endOfToken_b64 O hm hn hz x2 p6.2 h
      · have h := (if_neg c8).symm.trans h
        refine v_iinc (pc := 58) (lv' := [(2, .int (x2 + 1)), (0, .ref (bo X + pp 3))]) O dX5_endOfToken_58 1 rfl (congrArg (fun q => x2 + q) ic_1) (by rw [hn]; decide) rfl ?_
        refine v_goto (pc := 61) 42 O dX5_endOfToken_61 (by decide) ?_
        refine v_sub [1, 0] rfl ?_
        exact ih (x2 + 1) p6.2 h
def f_X5_endOfToken (N : Nat) (x1 : Int32) (D : Dat) : Option (Int32 × Dat) :=
  (f_X5_isLetter x1 D).bind (fun p9 => if p9.1 = 0 then ((f_X5_isDigit x1 p9.2).bind (fun p12 => if p12.1 = 0 then (f_X5_endOfToken_b64 N (x1 + (1 : Int32)) p12.2) else (f_X5_endOfToken_b42 N N (x1 + (1 : Int32)) p12.2))) else (f_X5_endOfToken_b12 N N (x1 + (1 : Int32)) p9.2))
set_option maxHeartbeats 4000000 in
theorem w_X5_endOfToken {X : Cx} {n nu c u : Nat} {K : Nat → Nat} {N : Nat} {z : Int32 × Dat} (O : Ok X cX5_endOfToken RX5 (some .int) 1 21) (hm : wlm (xw X) = true) (hn : xn X = 3) (hz : Z0 X (Ax nu K c u)) (x1 : Int32) (D : Dat) (h : f_X5_endOfToken N x1 D = some z) : V X (Q0 X n (Ax nu K c u) (some (.int z.1)) z.2) n (Ax nu K c u) D 0 [(0, .ref (bo X + pp 3)), (1, .int x1)] [] := by
  unfold f_X5_endOfToken at h
  refine v_iload_n (pc := 0) O dX5_endOfToken_0 1 rfl ?_
  refine v_iconst (pc := 1) O dX5_endOfToken_1 ic_1 ?_
  refine v_iadd (pc := 2) O dX5_endOfToken_2 ?_
  refine v_istore_n (pc := 3) (lv' := [(2, .int (x1 + (1 : Int32))), (0, .ref (bo X + pp 3)), (1, .int x1)]) O dX5_endOfToken_3 rfl (by rw [hn]; decide) rfl ?_
  refine v_aload_n (pc := 4) O dX5_endOfToken_4 1 rfl ?_
  refine v_iload_n (pc := 5) O dX5_endOfToken_5 2 rfl ?_
  obtain ⟨p9, e10, h⟩ := bind_some h
  refine v_callV (pc := 6) (a := 3) (As := [.int x1]) (rest := []) (r := (some (.int p9.1))) (D' := p9.2) O (bb0 hz) (c_X5_isLetter hm e10) mw_X5_isLetter im_X5_isLetter se_X5_isLetter ml_X5_95 kq_3 (by decide) rfl rfl rfl (by decide) (by decide) (Nat.le_of_ble_eq_true rfl) dX5_endOfToken_6 rfl rfl ?_
  refine v_ifeq (pc := 9) 34 O dX5_endOfToken_9 (by decide) (fun c11 => ?_) (fun c11 => ?_)
  · have h := (if_pos c11).symm.trans h
    refine v_aload_n (pc := 34) O dX5_endOfToken_34 1 rfl ?_
    refine v_iload_n (pc := 35) O dX5_endOfToken_35 2 rfl ?_
    obtain ⟨p12, e13, h⟩ := bind_some h
    refine v_callV (pc := 36) (a := 3) (As := [.int x1]) (rest := []) (r := (some (.int p12.1))) (D' := p12.2) O (bb0 hz) (c_X5_isDigit hm e13) mw_X5_isDigit im_X5_isDigit se_X5_isDigit ml_X5_99 kq_3 (by decide) rfl rfl rfl (by decide) (by decide) (Nat.le_of_ble_eq_true rfl) dX5_endOfToken_36 rfl rfl ?_
    refine v_ifeq (pc := 39) 64 O dX5_endOfToken_39 (by decide) (fun c14 => ?_) (fun c14 => ?_)
    · have h := (if_pos c14).symm.trans h
      refine v_sub [0] rfl ?_
      exact w_X5_endOfToken_b64 O hm hn hz (x1 + (1 : Int32)) p12.2 h
    · have h := (if_neg c14).symm.trans h
      refine v_sub [1, 0] rfl ?_
      exact w_X5_endOfToken_b42 O hm hn hz N (x1 + (1 : Int32)) p12.2 h
  · have h := (if_neg c11).symm.trans h
    refine v_sub [1, 0] rfl ?_
    exact w_X5_endOfToken_b12 O hm hn hz N (x1 + (1 : Int32)) p9.2 h
theorem c_X5_endOfToken {l : Launch} {w : Wx} {n nu c u : Nat} {K : Nat → Nat} {N : Nat} (hm : wlm w = true) {x1 : Int32} {D : Dat} {z : Int32 × Dat} (h : f_X5_endOfToken N x1 D = some z) : C0 l w yX5_endOfToken cX5_endOfToken 3 (some .int) 1 21 [.ref (wb w + pp 3), .int x1] n (Ax nu K c u) D (some (.int z.1)) z.2 :=
  C0.of (by decide) (Nat.le_of_ble_eq_true rfl) (fun X e1 e2 e3 hz O => by
  subst e1
  subst e2
  exact w_X5_endOfToken O hm e3 hz x1 D h)
def f_X5_isWord_b68 (N : Nat) (rec_20 : Nat → Int32 → Int32 → Int32 → Dat → Option (Int32 × Dat)) (x1 : Nat) (x2 : Int32) (x5 : Int32) (s0 : Int32) (D : Dat) : Option (Int32 × Dat) :=
  rec_20 x1 x2 s0 (x5 + 1) D
set_option maxHeartbeats 4000000 in
theorem w_X5_isWord_b68 {X : Cx} {n nu c u : Nat} {K : Nat → Nat} {N : Nat} {rec_20 : Nat → Int32 → Int32 → Int32 → Dat → Option (Int32 × Dat)} {z : Int32 × Dat} (O : Ok X cX5_isWord RX5 (some .boolean) 4 85) (hm : wlm (xw X) = true) (hn : xn X = 6) (hz : Z0 X (Ax nu K c u)) (hrec_20 : ∀ (x1 : Nat) (x2 : Int32) (x4 : Int32) (x5 : Int32) (D : Dat), rec_20 x1 x2 x4 x5 D = some z → V X (Q0 X n (Ax nu K c u) (some (.int z.1)) z.2) n (Ax nu K c u) D 20 [(0, .ref (bo X + pp 3)), (1, .ref (woK (xw X) x1)), (2, .int x2), (4, .int x4), (5, .int x5)] []) (x1 : Nat) (x2 : Int32) (x5 : Int32) (s0 : Int32) (D : Dat) (h : f_X5_isWord_b68 N rec_20 x1 x2 x5 s0 D = some z) : V X (Q0 X n (Ax nu K c u) (some (.int z.1)) z.2) n (Ax nu K c u) D 68 [(0, .ref (bo X + pp 3)), (1, .ref (woK (xw X) x1)), (2, .int x2), (5, .int x5)] [.int s0] := by
  unfold f_X5_isWord_b68 at h
  refine v_istore (pc := 68) (lv' := [(4, .int s0), (0, .ref (bo X + pp 3)), (1, .ref (woK (xw X) x1)), (2, .int x2), (5, .int x5)]) O dX5_isWord_68 (by rw [hn]; decide) rfl ?_
  refine v_iinc (pc := 70) (lv' := [(5, .int (x5 + 1)), (4, .int s0), (0, .ref (bo X + pp 3)), (1, .ref (woK (xw X) x1)), (2, .int x2)]) O dX5_isWord_70 4 rfl (congrArg (fun q => x5 + q) ic_1) (by rw [hn]; decide) rfl ?_
  refine v_goto (pc := 73) 20 O dX5_isWord_73 (by decide) ?_
  refine v_sub [2, 3, 4, 1, 0] rfl ?_
  exact hrec_20 x1 x2 s0 (x5 + 1) D h
def f_X5_isWord_b67 (N : Nat) (rec_20 : Nat → Int32 → Int32 → Int32 → Dat → Option (Int32 × Dat)) (x1 : Nat) (x2 : Int32) (x5 : Int32) (D : Dat) : Option (Int32 × Dat) :=
  f_X5_isWord_b68 N rec_20 x1 x2 x5 0 D
set_option maxHeartbeats 4000000 in
theorem w_X5_isWord_b67 {X : Cx} {n nu c u : Nat} {K : Nat → Nat} {N : Nat} {rec_20 : Nat → Int32 → Int32 → Int32 → Dat → Option (Int32 × Dat)} {z : Int32 × Dat} (O : Ok X cX5_isWord RX5 (some .boolean) 4 85) (hm : wlm (xw X) = true) (hn : xn X = 6) (hz : Z0 X (Ax nu K c u)) (hrec_20 : ∀ (x1 : Nat) (x2 : Int32) (x4 : Int32) (x5 : Int32) (D : Dat), rec_20 x1 x2 x4 x5 D = some z → V X (Q0 X n (Ax nu K c u) (some (.int z.1)) z.2) n (Ax nu K c u) D 20 [(0, .ref (bo X + pp 3)), (1, .ref (woK (xw X) x1)), (2, .int x2), (4, .int x4), (5, .int x5)] []) (x1 : Nat) (x2 : Int32) (x5 : Int32) (D : Dat) (h : f_X5_isWord_b67 N rec_20 x1 x2 x5 D = some z) : V X (Q0 X n (Ax nu K c u) (some (.int z.1)) z.2) n (Ax nu K c u) D 67 [(0, .ref (bo X + pp 3)), (1, .ref (woK (xw X) x1)), (2, .int x2), (5, .int x5)] [] := by
  unfold f_X5_isWord_b67 at h
  refine v_iconst (pc := 67) O dX5_isWord_67 ic_0 ?_
  refine v_sub [0, 1, 2, 3] rfl ?_
  exact w_X5_isWord_b68 O hm hn hz hrec_20 x1 x2 x5 0 D h
def f_X5_isWord_b76 (N : Nat) (x4 : Int32) (D : Dat) : Option (Int32 × Dat) :=
  if x4 &&& 1 = x4 then some (x4, D) else none
set_option maxHeartbeats 4000000 in
theorem w_X5_isWord_b76 {X : Cx} {n nu c u : Nat} {K : Nat → Nat} {N : Nat} {z : Int32 × Dat} (O : Ok X cX5_isWord RX5 (some .boolean) 4 85) (hm : wlm (xw X) = true) (hn : xn X = 6) (hz : Z0 X (Ax nu K c u)) (x4 : Int32) (D : Dat) (h : f_X5_isWord_b76 N x4 D = some z) : V X (Q0 X n (Ax nu K c u) (some (.int z.1)) z.2) n (Ax nu K c u) D 76 [(4, .int x4)] [] := by
  unfold f_X5_isWord_b76 at h
  refine v_iload (pc := 76) O dX5_isWord_76 0 rfl ?_
  obtain ⟨c1, h⟩ := if_none h
  obtain rfl := Option.some.inj h
  exact v_zret (pc := 78) O hz (congrArg Value.int c1) dX5_isWord_78
def f_X5_isWord_b20 (N : Nat) : Nat → Nat → Int32 → Int32 → Int32 → Dat → Option (Int32 × Dat)
  | 0, _, _, _, _, _ => none
  | g + 1, x1, x2, x4, x5, D => if x4 = 0 then (f_X5_isWord_b76 N x4 D) else (if x1 < 10 then ((f_J0_length_8abf5 x1 D).bind (fun p4 => if p4.1 ≤ x5 then (f_X5_isWord_b76 N x4 p4.2) else (if (dI p4.2 3 2) ≤ (x2 + x5) then (f_X5_isWord_b67 N (f_X5_isWord_b20 N g) x1 x2 x5 p4.2) else (if (x2 + x5) < 0 ∨ 240 ≤ ((x2 + x5)).toNatClampNeg then none else (if x1 < 10 then ((f_J0_charAt_5068e x1 x5 p4.2).bind (fun p10 => if (dI p4.2 4 (x2 + x5).toNatClampNeg) = p10.1 then (f_X5_isWord_b68 N (f_X5_isWord_b20 N g) x1 x2 x5 1 p10.2) else (f_X5_isWord_b67 N (f_X5_isWord_b20 N g) x1 x2 x5 p10.2))) else none))))) else none)
set_option maxHeartbeats 4000000 in
theorem w_X5_isWord_b20 {X : Cx} {n nu c u : Nat} {K : Nat → Nat} {N : Nat} {z : Int32 × Dat} (O : Ok X cX5_isWord RX5 (some .boolean) 4 85) (hm : wlm (xw X) = true) (hn : xn X = 6) (hz : Z0 X (Ax nu K c u)) : ∀ (g : Nat) (x1 : Nat) (x2 : Int32) (x4 : Int32) (x5 : Int32) (D : Dat), f_X5_isWord_b20 N g x1 x2 x4 x5 D = some z → V X (Q0 X n (Ax nu K c u) (some (.int z.1)) z.2) n (Ax nu K c u) D 20 [(0, .ref (bo X + pp 3)), (1, .ref (woK (xw X) x1)), (2, .int x2), (4, .int x4), (5, .int x5)] [] := by
  intro g
  induction g with
  | zero => intro x1 x2 x4 x5 D h; exact absurd h (by simp [f_X5_isWord_b20])
  | succ g ih =>
    intro x1 x2 x4 x5 D h
    rw [f_X5_isWord_b20] at h
    refine v_iload (pc := 20) O dX5_isWord_20 3 rfl ?_
    refine v_ifeq (pc := 22) 76 O dX5_isWord_22 (by decide) (fun c2 => ?_) (fun c2 => ?_)
    · have h := (if_pos c2).symm.trans h
      refine v_sub [3] rfl ?_
      exact w_X5_isWord_b76 O hm hn hz x4 D h
    · have h := (if_neg c2).symm.trans h
      refine v_iload (pc := 25) O dX5_isWord_25 4 rfl ?_
      refine v_aload_n (pc := 27) O dX5_isWord_27 1 rfl ?_
      obtain ⟨c3, h⟩ := if_none h
      obtain ⟨p4, e5, h⟩ := bind_some h
      refine v_callT (pc := 28) (i := x1) (As := []) (rest := [.int x5]) (r := (some (.int p4.1))) (D' := p4.2) O (bb0 hz) c3 (c_J0_length_8abf5 hm c3 e5) mw_J0_length_8abf5 im_J0_length_8abf5 se_J0_length_8abf5 ml_X5_141 rfl rfl (by decide) (by decide) (Nat.le_of_ble_eq_true rfl) dX5_isWord_28 rfl rfl ?_
      refine v_icmpge (pc := 31) 76 O dX5_isWord_31 (by decide) (fun c6 => ?_) (fun c6 => ?_)
      · have h := (if_pos c6).symm.trans h
        refine v_sub [3] rfl ?_
        exact w_X5_isWord_b76 O hm hn hz x4 p4.2 h
      · have h := (if_neg c6).symm.trans h
        refine v_iload_n (pc := 34) O dX5_isWord_34 2 rfl ?_
        refine v_iload (pc := 35) O dX5_isWord_35 4 rfl ?_
        refine v_iadd (pc := 37) O dX5_isWord_37 ?_
        refine v_aload_n (pc := 38) O dX5_isWord_38 0 rfl ?_
        refine v_getI (pc := 39) (a := 3) O gf_X5_2 fl_X5_32 kq_3 dX5_isWord_39 ?_
        refine v_icmpge (pc := 42) 67 O dX5_isWord_42 (by decide) (fun c7 => ?_) (fun c7 => ?_)
        · have h := (if_pos c7).symm.trans h
          refine v_sub [0, 1, 2, 4] rfl ?_
          exact w_X5_isWord_b67 O hm hn hz ih x1 x2 x5 p4.2 h
        · have h := (if_neg c7).symm.trans h
          refine v_aload_n (pc := 45) O dX5_isWord_45 0 rfl ?_
          refine v_getK (pc := 46) (a := 3) O hm gf_X5_1 fl_X5_9 kq_3 lk_3_1 dX5_isWord_46 ?_
          refine v_iload_n (pc := 49) O dX5_isWord_49 2 rfl ?_
          refine v_iload (pc := 50) O dX5_isWord_50 4 rfl ?_
          refine v_iadd (pc := 52) O dX5_isWord_52 ?_
          obtain ⟨c8, h⟩ := or_none h
          refine v_cald (pc := 53) (a := 4) O kq_4 (inq lq_4 c8) dX5_isWord_53 ?_
          refine v_aload_n (pc := 54) O dX5_isWord_54 1 rfl ?_
          refine v_iload (pc := 55) O dX5_isWord_55 4 rfl ?_
          obtain ⟨c9, h⟩ := if_none h
          obtain ⟨p10, e11, h⟩ := bind_some h
          refine v_callT (pc := 57) (i := x1) (As := [.int x5]) (rest := [.int (dI p4.2 4 (x2 + x5).toNatClampNeg)]) (r := (some (.int p10.1))) (D' := p10.2) O (bb0 hz) c9 (c_J0_charAt_5068e hm c9 e11) mw_J0_charAt_5068e im_J0_charAt_5068e se_J0_charAt_5068e ml_X5_144 rfl rfl (by decide) (by decide) (Nat.le_of_ble_eq_true rfl) dX5_isWord_57 rfl rfl ?_
          refine v_icmpne (pc := 60) 67 O dX5_isWord_60 (by decide) (fun c12 => ?_) (fun c12 => ?_)
          · have h := (if_neg c12).symm.trans h
            refine v_sub [0, 1, 2, 4] rfl ?_
            exact w_X5_isWord_b67 O hm hn hz ih x1 x2 x5 p10.2 h
          · have h := (if_pos c12).symm.trans h
            refine v_iconst (pc := 63) O dX5_isWord_63 ic_1 ?_
            refine v_goto (pc := 64) 68 O dX5_isWord_64 (by decide) ?_
            refine v_sub [0, 1, 2, 4] rfl ?_
            exact w_X5_isWord_b68 O hm hn hz ih x1 x2 x5 1 p10.2 h
def f_X5_isWord_b15 (N : Nat) (x1 : Nat) (x2 : Int32) (s0 : Int32) (D : Dat) : Option (Int32 × Dat) :=
  f_X5_isWord_b20 N N x1 x2 s0 0 D
set_option maxHeartbeats 4000000 in
theorem w_X5_isWord_b15 {X : Cx} {n nu c u : Nat} {K : Nat → Nat} {N : Nat} {z : Int32 × Dat} (O : Ok X cX5_isWord RX5 (some .boolean) 4 85) (hm : wlm (xw X) = true) (hn : xn X = 6) (hz : Z0 X (Ax nu K c u)) (x1 : Nat) (x2 : Int32) (s0 : Int32) (D : Dat) (h : f_X5_isWord_b15 N x1 x2 s0 D = some z) : V X (Q0 X n (Ax nu K c u) (some (.int z.1)) z.2) n (Ax nu K c u) D 15 [(0, .ref (bo X + pp 3)), (1, .ref (woK (xw X) x1)), (2, .int x2)] [.int s0] := by
  unfold f_X5_isWord_b15 at h
  refine v_istore (pc := 15) (lv' := [(4, .int s0), (0, .ref (bo X + pp 3)), (1, .ref (woK (xw X) x1)), (2, .int x2)]) O dX5_isWord_15 (by rw [hn]; decide) rfl ?_
  refine v_iconst (pc := 17) O dX5_isWord_17 ic_0 ?_
  refine v_istore (pc := 18) (lv' := [(5, .int 0), (4, .int s0), (0, .ref (bo X + pp 3)), (1, .ref (woK (xw X) x1)), (2, .int x2)]) O dX5_isWord_18 (by rw [hn]; decide) rfl ?_
  refine v_sub [2, 3, 4, 1, 0] rfl ?_
  exact w_X5_isWord_b20 O hm hn hz N x1 x2 s0 0 D h
def f_X5_isWord (N : Nat) (x1 : Nat) (x2 : Int32) (x3 : Int32) (D : Dat) : Option (Int32 × Dat) :=
  if x1 < 10 then ((f_J0_length_8abf5 x1 D).bind (fun p14 => if (x3 - x2) = p14.1 then (f_X5_isWord_b15 N x1 x2 1 p14.2) else (f_X5_isWord_b15 N x1 x2 0 p14.2))) else none
set_option maxHeartbeats 4000000 in
theorem w_X5_isWord {X : Cx} {n nu c u : Nat} {K : Nat → Nat} {N : Nat} {z : Int32 × Dat} (O : Ok X cX5_isWord RX5 (some .boolean) 4 85) (hm : wlm (xw X) = true) (hn : xn X = 6) (hz : Z0 X (Ax nu K c u)) (x1 : Nat) (x2 : Int32) (x3 : Int32) (D : Dat) (h : f_X5_isWord N x1 x2 x3 D = some z) : V X (Q0 X n (Ax nu K c u) (some (.int z.1)) z.2) n (Ax nu K c u) D 0 [(0, .ref (bo X + pp 3)), (1, .ref (woK (xw X) x1)), (2, .int x2), (3, .int x3)] [] := by
  unfold f_X5_isWord at h
  refine v_iload_n (pc := 0) O dX5_isWord_0 3 rfl ?_
  refine v_iload_n (pc := 1) O dX5_isWord_1 2 rfl ?_
  refine v_isub (pc := 2) O dX5_isWord_2 ?_
  refine v_aload_n (pc := 3) O dX5_isWord_3 1 rfl ?_
  obtain ⟨c13, h⟩ := if_none h
  obtain ⟨p14, e15, h⟩ := bind_some h
  refine v_callT (pc := 4) (i := x1) (As := []) (rest := [.int (x3 - x2)]) (r := (some (.int p14.1))) (D' := p14.2) O (bb0 hz) c13 (c_J0_length_8abf5 hm c13 e15) mw_J0_length_8abf5 im_J0_length_8abf5 se_J0_length_8abf5 ml_X5_141 rfl rfl (by decide) (by decide) (Nat.le_of_ble_eq_true rfl) dX5_isWord_4 rfl rfl ?_
  refine v_icmpne (pc := 7) 14 O dX5_isWord_7 (by decide) (fun c16 => ?_) (fun c16 => ?_)
  · have h := (if_neg c16).symm.trans h
    refine v_iconst (pc := 14) O dX5_isWord_14 ic_0 ?_
    refine v_sub [0, 1, 2] rfl ?_
    exact w_X5_isWord_b15 O hm hn hz x1 x2 0 p14.2 h
  · have h := (if_pos c16).symm.trans h
    refine v_iconst (pc := 10) O dX5_isWord_10 ic_1 ?_
    refine v_goto (pc := 11) 15 O dX5_isWord_11 (by decide) ?_
    refine v_sub [0, 1, 2] rfl ?_
    exact w_X5_isWord_b15 O hm hn hz x1 x2 1 p14.2 h
theorem c_X5_isWord {l : Launch} {w : Wx} {n nu c u : Nat} {K : Nat → Nat} {N : Nat} (hm : wlm w = true) {x1 : Nat} {x2 : Int32} {x3 : Int32} {D : Dat} {z : Int32 × Dat} (h : f_X5_isWord N x1 x2 x3 D = some z) : C0 l w yX5_isWord cX5_isWord 6 (some .boolean) 4 85 [.ref (wb w + pp 3), .ref (woK (w) x1), .int x2, .int x3] n (Ax nu K c u) D (some (.int z.1)) z.2 :=
  C0.of (by decide) (Nat.le_of_ble_eq_true rfl) (fun X e1 e2 e3 hz O => by
  subst e1
  subst e2
  exact w_X5_isWord O hm e3 hz x1 x2 x3 D h)
def f_X5_kindHere_b44 (D : Dat) : Option (Int32 × Dat) :=
  some ((dI D 3 6), D)
set_option maxHeartbeats 4000000 in
theorem w_X5_kindHere_b44 {X : Cx} {n nu c u : Nat} {K : Nat → Nat} {z : Int32 × Dat} (O : Ok X cX5_kindHere RX5 (some .int) 1 20) (hm : wlm (xw X) = true) (hn : xn X = 1) (hz : Z0 X (Ax nu K c u)) (D : Dat) (h : f_X5_kindHere_b44 D = some z) : V X (Q0 X n (Ax nu K c u) (some (.int z.1)) z.2) n (Ax nu K c u) D 44 [(0, .ref (bo X + pp 3))] [] := by
  unfold f_X5_kindHere_b44 at h
  refine v_aload_n (pc := 44) O dX5_kindHere_44 0 rfl ?_
  refine v_getI (pc := 45) (a := 3) O gf_X5_6 fl_X5_70 kq_3 dX5_kindHere_45 ?_
  obtain rfl := Option.some.inj h
  exact v_iret (pc := 48) O hz dX5_kindHere_48
def f_X5_kindHere_b62 (s0 : Int32) (D : Dat) : Option (Int32 × Dat) :=
  some (s0, D)
set_option maxHeartbeats 4000000 in
theorem w_X5_kindHere_b62 {X : Cx} {n nu c u : Nat} {K : Nat → Nat} {z : Int32 × Dat} (O : Ok X cX5_kindHere RX5 (some .int) 1 20) (hm : wlm (xw X) = true) (hn : xn X = 1) (hz : Z0 X (Ax nu K c u)) (s0 : Int32) (D : Dat) (h : f_X5_kindHere_b62 s0 D = some z) : V X (Q0 X n (Ax nu K c u) (some (.int z.1)) z.2) n (Ax nu K c u) D 62 [] [.int s0] := by
  unfold f_X5_kindHere_b62 at h
  obtain rfl := Option.some.inj h
  exact v_iret (pc := 62) O hz dX5_kindHere_62
def f_X5_kindHere_b49 (D : Dat) : Option (Int32 × Dat) :=
  (f_X5_roleHere D).bind (fun p1 => if p1.1 = 2 then (f_X5_kindHere_b62 4 p1.2) else (f_X5_kindHere_b62 2 p1.2))
set_option maxHeartbeats 4000000 in
theorem w_X5_kindHere_b49 {X : Cx} {n nu c u : Nat} {K : Nat → Nat} {z : Int32 × Dat} (O : Ok X cX5_kindHere RX5 (some .int) 1 20) (hm : wlm (xw X) = true) (hn : xn X = 1) (hz : Z0 X (Ax nu K c u)) (D : Dat) (h : f_X5_kindHere_b49 D = some z) : V X (Q0 X n (Ax nu K c u) (some (.int z.1)) z.2) n (Ax nu K c u) D 49 [(0, .ref (bo X + pp 3))] [] := by
  unfold f_X5_kindHere_b49 at h
  refine v_aload_n (pc := 49) O dX5_kindHere_49 0 rfl ?_
  obtain ⟨p1, e2, h⟩ := bind_some h
  refine v_callV (pc := 50) (a := 3) (As := []) (rest := []) (r := (some (.int p1.1))) (D' := p1.2) O (bb0 hz) (c_X5_roleHere hm e2) mw_X5_roleHere im_X5_roleHere se_X5_roleHere ml_X5_230 kq_3 (by decide) rfl rfl rfl (by decide) (by decide) (Nat.le_of_ble_eq_true rfl) dX5_kindHere_50 rfl rfl ?_
  refine v_iconst (pc := 53) O dX5_kindHere_53 ic_2 ?_
  refine v_icmpne (pc := 54) 61 O dX5_kindHere_54 (by decide) (fun c3 => ?_) (fun c3 => ?_)
  · have h := (if_neg c3).symm.trans h
    refine v_iconst (pc := 61) O dX5_kindHere_61 ic_2 ?_
    refine v_sub [] rfl ?_
    exact w_X5_kindHere_b62 O hm hn hz 2 p1.2 h
  · have h := (if_pos c3).symm.trans h
    refine v_iconst (pc := 57) O dX5_kindHere_57 ic_4 ?_
    refine v_goto (pc := 58) 62 O dX5_kindHere_58 (by decide) ?_
    refine v_sub [] rfl ?_
    exact w_X5_kindHere_b62 O hm hn hz 4 p1.2 h
def f_X5_kindHere (D : Dat) : Option (Int32 × Dat) :=
  (if (dI D 3 6) = (13 : Int32) then (f_X5_kindHere_b44 D) else (if (dI D 3 6) = (14 : Int32) then (f_X5_kindHere_b44 D) else (if (dI D 3 6) = (16 : Int32) then (f_X5_kindHere_b44 D) else (if (dI D 3 6) = (17 : Int32) then (f_X5_kindHere_b44 D) else (if (dI D 3 6) = (18 : Int32) then (f_X5_kindHere_b44 D) else (f_X5_kindHere_b49 D))))))
set_option maxHeartbeats 4000000 in
theorem w_X5_kindHere {X : Cx} {n nu c u : Nat} {K : Nat → Nat} {z : Int32 × Dat} (O : Ok X cX5_kindHere RX5 (some .int) 1 20) (hm : wlm (xw X) = true) (hn : xn X = 1) (hz : Z0 X (Ax nu K c u)) (D : Dat) (h : f_X5_kindHere D = some z) : V X (Q0 X n (Ax nu K c u) (some (.int z.1)) z.2) n (Ax nu K c u) D 0 [(0, .ref (bo X + pp 3))] [] := by
  unfold f_X5_kindHere at h
  refine v_aload_n (pc := 0) O dX5_kindHere_0 0 rfl ?_
  refine v_getI (pc := 1) (a := 3) O gf_X5_6 fl_X5_70 kq_3 dX5_kindHere_1 ?_
  by_cases c4 : (dI D 3 6) = (13 : Int32)
  · have h := (if_pos c4).symm.trans h
    refine v_tableIn (pc := 4) 44 O dX5_kindHere_4 (by rw [c4]; decide) (by rw [c4]; decide) (by rw [c4]; rfl) (by decide) ?_
    refine v_sub [0] rfl ?_
    exact w_X5_kindHere_b44 O hm hn hz D h
  · have h := (if_neg c4).symm.trans h
    by_cases c5 : (dI D 3 6) = (14 : Int32)
    · have h := (if_pos c5).symm.trans h
      refine v_tableIn (pc := 4) 44 O dX5_kindHere_4 (by rw [c5]; decide) (by rw [c5]; decide) (by rw [c5]; rfl) (by decide) ?_
      refine v_sub [0] rfl ?_
      exact w_X5_kindHere_b44 O hm hn hz D h
    · have h := (if_neg c5).symm.trans h
      by_cases c6 : (dI D 3 6) = (16 : Int32)
      · have h := (if_pos c6).symm.trans h
        refine v_tableIn (pc := 4) 44 O dX5_kindHere_4 (by rw [c6]; decide) (by rw [c6]; decide) (by rw [c6]; rfl) (by decide) ?_
        refine v_sub [0] rfl ?_
        exact w_X5_kindHere_b44 O hm hn hz D h
      · have h := (if_neg c6).symm.trans h
        by_cases c7 : (dI D 3 6) = (17 : Int32)
        · have h := (if_pos c7).symm.trans h
          refine v_tableIn (pc := 4) 44 O dX5_kindHere_4 (by rw [c7]; decide) (by rw [c7]; decide) (by rw [c7]; rfl) (by decide) ?_
          refine v_sub [0] rfl ?_
          exact w_X5_kindHere_b44 O hm hn hz D h
        · have h := (if_neg c7).symm.trans h
          by_cases c8 : (dI D 3 6) = (18 : Int32)
          · have h := (if_pos c8).symm.trans h
            refine v_tableIn (pc := 4) 44 O dX5_kindHere_4 (by rw [c8]; decide) (by rw [c8]; decide) (by rw [c8]; rfl) (by decide) ?_
            refine v_sub [0] rfl ?_
            exact w_X5_kindHere_b44 O hm hn hz D h
          · have h := (if_neg c8).symm.trans h
            refine v_table (pc := 4) 49 O dX5_kindHere_4 (fun g1 g2 => by
                have c4i := ne_i (13) rfl c4
                have c5i := ne_i (14) rfl c5
                have c6i := ne_i (16) rfl c6
                have c7i := ne_i (17) rfl c7
                have c8i := ne_i (18) rfl c8
                have e9 : (dI D 3 6).toInt = 15 := by omega
                rw [e9]; exact ⟨_, rfl, by decide⟩) (by decide) ?_
            refine v_sub [0] rfl ?_
            exact w_X5_kindHere_b49 O hm hn hz D h
theorem c_X5_kindHere {l : Launch} {w : Wx} {n nu c u : Nat} {K : Nat → Nat} (hm : wlm w = true) {D : Dat} {z : Int32 × Dat} (h : f_X5_kindHere D = some z) : C0 l w yX5_kindHere cX5_kindHere 1 (some .int) 1 20 [.ref (wb w + pp 3)] n (Ax nu K c u) D (some (.int z.1)) z.2 :=
  C0.of (by decide) (Nat.le_of_ble_eq_true rfl) (fun X e1 e2 e3 hz O => by
  subst e1
  subst e2
  exact w_X5_kindHere O hm e3 hz  D h)
def f_X8_emitExpressions_b5 (N : Nat) (nu : Nat) (K : Nat → Nat) : Nat → Option Nat → Int32 → Dat → Option (Dat)
  | 0, _, _, _ => none
  | g + 1, x1, x2, D => (x1).bind (fun a1 => if kd K a1 = 7 then (if (dI D a1 5) ≤ x2 then (some D) else (((dR D 106 0)).bind (fun a5 => if a5 = 191 ∨ a5 = 196 then ((f_X4_operation a5 x2 D).bind (fun p8 => ((dR p8.2 106 0)).bind (fun a10 => if a10 = 191 ∨ a10 = 196 then ((f_X4_argument a10 x2 p8.2).bind (fun p13 => (f_X8_emit p8.1 p13.1 p13.2).bind (fun p15 => (f_X8_emitExpressions_b5 N nu K g) (some a1) (x2 + 1) p15))) else none))) else none))) else none)
set_option maxHeartbeats 4000000 in
theorem w_X8_emitExpressions_b5 {X : Cx} {n nu c u : Nat} {K : Nat → Nat} {N : Nat} {z : Dat} (O : Ok X cX8_emitExpressions RX8 none 2 44) (hm : wlm (xw X) = true) (hn : xn X = 3) (hz : Z0 X (Ax nu K c u)) : ∀ (g : Nat) (x1 : Option Nat) (x2 : Int32) (D : Dat), f_X8_emitExpressions_b5 N nu K g x1 x2 D = some z → V X (Q0 X n (Ax nu K c u) none z) n (Ax nu K c u) D 5 [(0, .ref (bo X + pp 106)), (1, rv (bo X) x1), (2, .int x2)] [] := by
  intro g
  induction g with
  | zero => intro x1 x2 D h; exact absurd h (by simp [f_X8_emitExpressions_b5])
  | succ g ih =>
    intro x1 x2 D h
    rw [f_X8_emitExpressions_b5] at h
    refine v_iload_n (pc := 5) O dX8_emitExpressions_5 2 rfl ?_
    refine v_aload_nr (pc := 6) O dX8_emitExpressions_6 1 rfl ?_
    obtain ⟨a1, e2, h⟩ := bind_some h
    subst e2
    obtain ⟨c3, h⟩ := if_none h
    refine v_getI (pc := 7) (a := a1) O gf_X7_5 fl_X8_93 c3 dX8_emitExpressions_7 ?_
    refine v_icmpge (pc := 10) 39 O dX8_emitExpressions_10 (by decide) (fun c4 => ?_) (fun c4 => ?_)
    · have h := (if_pos c4).symm.trans h
      obtain rfl := Option.some.inj h
      exact v_ret (pc := 39) O hz dX8_emitExpressions_39
    · have h := (if_neg c4).symm.trans h
      refine v_aload_n (pc := 13) O dX8_emitExpressions_13 0 rfl ?_
      refine v_aload_n (pc := 14) O dX8_emitExpressions_14 0 rfl ?_
      refine v_getR (pc := 15) (a := 106) O gf_X8_0 fl_X8_9 kq_106 dX8_emitExpressions_15 ?_
      refine v_iload_n (pc := 18) O dX8_emitExpressions_18 2 rfl ?_
      obtain ⟨a5, e6, h⟩ := bind_some h
      rw [e6]
      obtain ⟨c7, h⟩ := if_none h
      obtain ⟨p8, e9, h⟩ := bind_some h
      refine v_callV (pc := 19) (a := a5) (As := [.int x2]) (rest := [.ref (bo X + pp 106)]) (r := (some (.int p8.1))) (D' := p8.2) O (bb0 hz) (c_X4_operation hm c7 e9) mw_X4_operation im_X4_operation se_X4_operation ml_X8_96 (kt_X4 c7) (by decide) rfl rfl rfl (by decide) (by decide) (Nat.le_of_ble_eq_true rfl) dX8_emitExpressions_19 rfl rfl ?_
      refine v_aload_n (pc := 22) O dX8_emitExpressions_22 0 rfl ?_
      refine v_getR (pc := 23) (a := 106) O gf_X8_0 fl_X8_9 kq_106 dX8_emitExpressions_23 ?_
      refine v_iload_n (pc := 26) O dX8_emitExpressions_26 2 rfl ?_
      obtain ⟨a10, e11, h⟩ := bind_some h
      rw [e11]
      obtain ⟨c12, h⟩ := if_none h
      obtain ⟨p13, e14, h⟩ := bind_some h
      refine v_callV (pc := 27) (a := a10) (As := [.int x2]) (rest := [.int p8.1, .ref (bo X + pp 106)]) (r := (some (.int p13.1))) (D' := p13.2) O (bb0 hz) (c_X4_argument hm c12 e14) mw_X4_argument im_X4_argument se_X4_argument ml_X8_100 (kt_X4 c12) (by decide) rfl rfl rfl (by decide) (by decide) (Nat.le_of_ble_eq_true rfl) dX8_emitExpressions_27 rfl rfl ?_
      obtain ⟨p15, e16, h⟩ := bind_some h
      refine v_callV (pc := 30) (a := 106) (As := [.int p8.1, .int p13.1]) (rest := []) (r := none) (D' := p15) O (bb0 hz) (c_X8_emit hm e16) mw_X8_emit im_X8_emit se_X8_emit ml_X8_38 kq_106 (by decide) rfl rfl rfl (by decide) (by decide) (Nat.le_of_ble_eq_true rfl) dX8_emitExpressions_30 rfl rfl ?_
      refine v_iinc (pc := 33) (lv' := [(2, .int (x2 + 1)), (0, .ref (bo X + pp 106)), (1, .ref (bo X + pp a1))]) O dX8_emitExpressions_33 2 rfl (congrArg (fun q => x2 + q) ic_1) (by rw [hn]; decide) rfl ?_
      refine v_goto (pc := 36) 5 O dX8_emitExpressions_36 (by decide) ?_
      refine v_sub [1, 2, 0] rfl ?_
      exact ih (some a1) (x2 + 1) p15 h
def f_X8_emitExpressions (N : Nat) (nu : Nat) (K : Nat → Nat) (x1 : Option Nat) (D : Dat) : Option (Dat) :=
  (x1).bind (fun a17 => if kd K a17 = 7 then (f_X8_emitExpressions_b5 N nu K N (some a17) (dI D a17 4) D) else none)
set_option maxHeartbeats 4000000 in
theorem w_X8_emitExpressions {X : Cx} {n nu c u : Nat} {K : Nat → Nat} {N : Nat} {z : Dat} (O : Ok X cX8_emitExpressions RX8 none 2 44) (hm : wlm (xw X) = true) (hn : xn X = 3) (hz : Z0 X (Ax nu K c u)) (x1 : Option Nat) (D : Dat) (h : f_X8_emitExpressions N nu K x1 D = some z) : V X (Q0 X n (Ax nu K c u) none z) n (Ax nu K c u) D 0 [(0, .ref (bo X + pp 106)), (1, rv (bo X) x1)] [] := by
  unfold f_X8_emitExpressions at h
  refine v_aload_nr (pc := 0) O dX8_emitExpressions_0 1 rfl ?_
  obtain ⟨a17, e18, h⟩ := bind_some h
  subst e18
  obtain ⟨c19, h⟩ := if_none h
  refine v_getI (pc := 1) (a := a17) O gf_X7_4 fl_X8_90 c19 dX8_emitExpressions_1 ?_
  refine v_istore_n (pc := 4) (lv' := [(2, .int (dI D a17 4)), (0, .ref (bo X + pp 106)), (1, .ref (bo X + pp a17))]) O dX8_emitExpressions_4 rfl (by rw [hn]; decide) rfl ?_
  refine v_sub [1, 2, 0] rfl ?_
  exact w_X8_emitExpressions_b5 O hm hn hz N (some a17) (dI D a17 4) D h
theorem c_X8_emitExpressions {l : Launch} {w : Wx} {n nu c u : Nat} {K : Nat → Nat} {N : Nat} (hm : wlm w = true) {x1 : Option Nat} {D : Dat} {z : Dat} (h : f_X8_emitExpressions N nu K x1 D = some z) : C0 l w yX8_emitExpressions cX8_emitExpressions 3 none 2 44 [.ref (wb w + pp 106), rv (wb w) x1] n (Ax nu K c u) D none z :=
  C0.of (by decide) (by simp [lg_sl, rv_cat, cat_i, cat_l, cat_r, cat_n, fmt_cat]) (fun X e1 e2 e3 hz O => by
  subst e1
  subst e2
  have q : lv_args 0 [.ref (bo X + pp 106), rv (bo X) x1] = [(0, .ref (bo X + pp 106)), (1, rv (bo X) x1)] := by simp [lv_args, rv_cat, cat_i, cat_l, cat_r, cat_n, fmt_cat]
  show V X _ n _ D 0 (lv_args 0 [.ref (bo X + pp 106), rv (bo X) x1]) []
  rw [q]
  exact w_X8_emitExpressions O hm e3 hz x1 D h)
def f_X1_goOverIf (rec : Option Nat → Int32 → Int32 → Dat → Option (Sum Nat Unit × Dat)) (N : Nat) (nu : Nat) (K : Nat → Nat) (x1 : Option Nat) (x2 : Int32) (x3 : Int32) (D : Dat) : Option (Sum Nat Unit × Dat) :=
  if x3 < 0 ∨ 48 ≤ (x3).toNatClampNeg then none else ((x1).bind (fun a2 => if kd K a2 = 7 then (sb (rec (dR (sC D 7 (8 + 1 + (x3).toNatClampNeg) (0 : Int32).toNatClampNeg (0 : Int32).toNatClampNeg (26 : Int32).toNatClampNeg) a2 6) x2 (x3 + (1 : Int32)) (sC D 7 (8 + 1 + (x3).toNatClampNeg) (0 : Int32).toNatClampNeg (0 : Int32).toNatClampNeg (26 : Int32).toNatClampNeg)) (fun p5 D7 => if x3 < 0 ∨ 48 ≤ (x3).toNatClampNeg then none else (if x3 < 0 ∨ 48 ≤ (x3).toNatClampNeg then none else (sb (rec (dR (sC (sC D7 7 (57 + 1 + (x3).toNatClampNeg) (0 : Int32).toNatClampNeg (0 : Int32).toNatClampNeg (26 : Int32).toNatClampNeg) (8 + 1 + (x3).toNatClampNeg) 7 (0 : Int32).toNatClampNeg (0 : Int32).toNatClampNeg (26 : Int32).toNatClampNeg) a2 7) x2 (x3 + (1 : Int32)) (sC (sC D7 7 (57 + 1 + (x3).toNatClampNeg) (0 : Int32).toNatClampNeg (0 : Int32).toNatClampNeg (26 : Int32).toNatClampNeg) (8 + 1 + (x3).toNatClampNeg) 7 (0 : Int32).toNatClampNeg (0 : Int32).toNatClampNeg (26 : Int32).toNatClampNeg)) (fun p10 D12 => if x3 < 0 ∨ 48 ≤ (x3).toNatClampNeg then none else ((f_X1_joinInto N nu K 7 (57 + 1 + (x3).toNatClampNeg) D12).bind (fun p14 => some (.inr (), p14.2)))))))) else none))
set_option maxHeartbeats 4000000 in
theorem w_X1_goOverIf {X : Cx} {n nu c u : Nat} {K : Nat → Nat} {rec : Option Nat → Int32 → Int32 → Dat → Option (Sum Nat Unit × Dat)} {N : Nat} {fr lc : Nat} {z : Sum Nat Unit × Dat} (O : Ok X cX1_goOverIf RX1 none (fr + 1) (lc + 30)) (hm : wlm (xw X) = true) (hn : xn X = 4) (hz : Z0 X (Ax nu K c u)) (hT : T1 X (zu z)) (hR : ∀ {n : Nat} {x1 : Option Nat} {x2 : Int32} {x3 : Int32} {D : Dat} {z : Sum Nat Unit × Dat}, rec x1 x2 x3 D = some z → C1 (xl X) (xw X) yX1_goThrough cX1_goThrough 5 none fr lc [.ref (wb (xw X) + pp 6), rv (wb (xw X)) x1, .int x2, .int x3] n (Ax nu K c u) D (zu z)) (x1 : Option Nat) (x2 : Int32) (x3 : Int32) (D : Dat) (h : f_X1_goOverIf rec N nu K x1 x2 x3 D = some z) : V X (Q1 X n (Ax nu K c u) (zu z)) n (Ax nu K c u) D 0 [(0, .ref (bo X + pp 6)), (1, rv (bo X) x1), (2, .int x2), (3, .int x3)] [] := by
  unfold f_X1_goOverIf at h
  refine v_aload_n (pc := 0) O dX1_goOverIf_0 0 rfl ?_
  refine v_getK (pc := 1) (a := 6) O hm gf_X1_2 fl_X1_9 kq_6 lk_6_2 dX1_goOverIf_1 ?_
  refine v_iconst (pc := 4) O dX1_goOverIf_4 ic_0 ?_
  refine v_aload_n (pc := 5) O dX1_goOverIf_5 0 rfl ?_
  refine v_getK (pc := 6) (a := 6) O hm gf_X1_3 fl_X1_17 kq_6 lk_6_3 dX1_goOverIf_6 ?_
  refine v_iload_n (pc := 9) O dX1_goOverIf_9 3 rfl ?_
  obtain ⟨c1, h⟩ := or_none h
  refine v_aald2 (pc := 10) (a := 8) O kq_8 (inq lq_8 c1) dX1_goOverIf_10 ?_
  refine v_iconst (pc := 11) O dX1_goOverIf_11 ic_0 ?_
  refine v_bipush (pc := 12) O dX1_goOverIf_12 bp_26 ?_
  refine v_copy (pc := 14) (a0 := 7) (a := (8 + 1 + (x3).toNatClampNeg)) O ml_X1_91 nat_acopy sm_acopy ini_System kq_7 (kr_8 c1) (by decide) (by decide) (by decide) (by rw [show (Ax nu K c u).2.1 7 = 26 from lq_7]; decide) (by rw [show (Ax nu K c u).2.1 (8 + 1 + (x3).toNatClampNeg) = 26 from (lr_8 c1)]; decide) (by omega) (by show 0 + _ ≤ _; omega) dX1_goOverIf_14 ?_
  refine v_aload_n (pc := 17) O dX1_goOverIf_17 0 rfl ?_
  refine v_aload_nr (pc := 18) O dX1_goOverIf_18 1 rfl ?_
  obtain ⟨a2, e3, h⟩ := bind_some h
  subst e3
  obtain ⟨c4, h⟩ := if_none h
  refine v_getR (pc := 19) (a := a2) O gf_X7_6 fl_X1_97 c4 dX1_goOverIf_19 ?_
  refine v_iload_n (pc := 22) O dX1_goOverIf_22 2 rfl ?_
  refine v_iload_n (pc := 23) O dX1_goOverIf_23 3 rfl ?_
  refine v_iconst (pc := 24) O dX1_goOverIf_24 ic_1 ?_
  refine v_iadd (pc := 25) O dX1_goOverIf_25 ?_
  rcases sb_some h with ⟨p5, D7, e6, rfl⟩ | ⟨p5, D7, e6, h⟩
  · exact v_call1X (pc := 26) (a := 6) (As := [rv (bo X) (dR (sC D 7 (8 + 1 + (x3).toNatClampNeg) (0 : Int32).toNatClampNeg (0 : Int32).toNatClampNeg (26 : Int32).toNatClampNeg) a2 6), .int x2, .int (x3 + (1 : Int32))]) (rest := []) (e := p5) (D' := D7) O hz hT (hR e6 :) mw_X1_goThrough im_X1_goThrough se_X1_goThrough ml_X1_50 kq_6 (by decide) rfl rfl rfl (by omega) (by omega) (Nat.le_of_ble_eq_true rfl) dX1_goOverIf_26 rfl
  · refine v_call1 (pc := 26) (a := 6) (As := [rv (bo X) (dR (sC D 7 (8 + 1 + (x3).toNatClampNeg) (0 : Int32).toNatClampNeg (0 : Int32).toNatClampNeg (26 : Int32).toNatClampNeg) a2 6), .int x2, .int (x3 + (1 : Int32))]) (rest := []) (r := none) (D' := D7) O hz (hR e6 :) mw_X1_goThrough im_X1_goThrough se_X1_goThrough ml_X1_50 kq_6 (by decide) rfl rfl rfl (by omega) (by omega) (Nat.le_of_ble_eq_true rfl) dX1_goOverIf_26 rfl rfl ?_
    refine v_aload_n (pc := 29) O dX1_goOverIf_29 0 rfl ?_
    refine v_getK (pc := 30) (a := 6) O hm gf_X1_2 fl_X1_9 kq_6 lk_6_2 dX1_goOverIf_30 ?_
    refine v_iconst (pc := 33) O dX1_goOverIf_33 ic_0 ?_
    refine v_aload_n (pc := 34) O dX1_goOverIf_34 0 rfl ?_
    refine v_getK (pc := 35) (a := 6) O hm gf_X1_4 fl_X1_20 kq_6 lk_6_4 dX1_goOverIf_35 ?_
    refine v_iload_n (pc := 38) O dX1_goOverIf_38 3 rfl ?_
    obtain ⟨c8, h⟩ := or_none h
    refine v_aald2 (pc := 39) (a := 57) O kq_57 (inq lq_57 c8) dX1_goOverIf_39 ?_
    refine v_iconst (pc := 40) O dX1_goOverIf_40 ic_0 ?_
    refine v_bipush (pc := 41) O dX1_goOverIf_41 bp_26 ?_
    refine v_copy (pc := 43) (a0 := 7) (a := (57 + 1 + (x3).toNatClampNeg)) O ml_X1_91 nat_acopy sm_acopy ini_System kq_7 (kr_57 c8) (by decide) (by decide) (by decide) (by rw [show (Ax nu K c u).2.1 7 = 26 from lq_7]; decide) (by rw [show (Ax nu K c u).2.1 (57 + 1 + (x3).toNatClampNeg) = 26 from (lr_57 c8)]; decide) (by omega) (by show 0 + _ ≤ _; omega) dX1_goOverIf_43 ?_
    refine v_aload_n (pc := 46) O dX1_goOverIf_46 0 rfl ?_
    refine v_getK (pc := 47) (a := 6) O hm gf_X1_3 fl_X1_17 kq_6 lk_6_3 dX1_goOverIf_47 ?_
    refine v_iload_n (pc := 50) O dX1_goOverIf_50 3 rfl ?_
    obtain ⟨c9, h⟩ := or_none h
    refine v_aald2 (pc := 51) (a := 8) O kq_8 (inq lq_8 c9) dX1_goOverIf_51 ?_
    refine v_iconst (pc := 52) O dX1_goOverIf_52 ic_0 ?_
    refine v_aload_n (pc := 53) O dX1_goOverIf_53 0 rfl ?_
    refine v_getK (pc := 54) (a := 6) O hm gf_X1_2 fl_X1_9 kq_6 lk_6_2 dX1_goOverIf_54 ?_
    refine v_iconst (pc := 57) O dX1_goOverIf_57 ic_0 ?_
    refine v_bipush (pc := 58) O dX1_goOverIf_58 bp_26 ?_
    refine v_copy (pc := 60) (a0 := (8 + 1 + (x3).toNatClampNeg)) (a := 7) O ml_X1_91 nat_acopy sm_acopy ini_System (kr_8 c9) kq_7 (by decide) (by decide) (by decide) (by rw [show (Ax nu K c u).2.1 (8 + 1 + (x3).toNatClampNeg) = 26 from (lr_8 c9)]; decide) (by rw [show (Ax nu K c u).2.1 7 = 26 from lq_7]; decide) (by omega) (by show 0 + _ ≤ _; omega) dX1_goOverIf_60 ?_
    refine v_aload_n (pc := 63) O dX1_goOverIf_63 0 rfl ?_
    refine v_aload_n (pc := 64) O dX1_goOverIf_64 1 rfl ?_
    refine v_getR (pc := 65) (a := a2) O gf_X7_7 fl_X1_100 c4 dX1_goOverIf_65 ?_
    refine v_iload_n (pc := 68) O dX1_goOverIf_68 2 rfl ?_
    refine v_iload_n (pc := 69) O dX1_goOverIf_69 3 rfl ?_
    refine v_iconst (pc := 70) O dX1_goOverIf_70 ic_1 ?_
    refine v_iadd (pc := 71) O dX1_goOverIf_71 ?_
    rcases sb_some h with ⟨p10, D12, e11, rfl⟩ | ⟨p10, D12, e11, h⟩
    · exact v_call1X (pc := 72) (a := 6) (As := [rv (bo X) (dR (sC (sC D7 7 (57 + 1 + (x3).toNatClampNeg) (0 : Int32).toNatClampNeg (0 : Int32).toNatClampNeg (26 : Int32).toNatClampNeg) (8 + 1 + (x3).toNatClampNeg) 7 (0 : Int32).toNatClampNeg (0 : Int32).toNatClampNeg (26 : Int32).toNatClampNeg) a2 7), .int x2, .int (x3 + (1 : Int32))]) (rest := []) (e := p10) (D' := D12) O hz hT (hR e11 :) mw_X1_goThrough im_X1_goThrough se_X1_goThrough ml_X1_50 kq_6 (by decide) rfl rfl rfl (by omega) (by omega) (Nat.le_of_ble_eq_true rfl) dX1_goOverIf_72 rfl
    · refine v_call1 (pc := 72) (a := 6) (As := [rv (bo X) (dR (sC (sC D7 7 (57 + 1 + (x3).toNatClampNeg) (0 : Int32).toNatClampNeg (0 : Int32).toNatClampNeg (26 : Int32).toNatClampNeg) (8 + 1 + (x3).toNatClampNeg) 7 (0 : Int32).toNatClampNeg (0 : Int32).toNatClampNeg (26 : Int32).toNatClampNeg) a2 7), .int x2, .int (x3 + (1 : Int32))]) (rest := []) (r := none) (D' := D12) O hz (hR e11 :) mw_X1_goThrough im_X1_goThrough se_X1_goThrough ml_X1_50 kq_6 (by decide) rfl rfl rfl (by omega) (by omega) (Nat.le_of_ble_eq_true rfl) dX1_goOverIf_72 rfl rfl ?_
      refine v_aload_n (pc := 75) O dX1_goOverIf_75 0 rfl ?_
      refine v_getK (pc := 76) (a := 6) O hm gf_X1_2 fl_X1_9 kq_6 lk_6_2 dX1_goOverIf_76 ?_
      refine v_aload_n (pc := 79) O dX1_goOverIf_79 0 rfl ?_
      refine v_getK (pc := 80) (a := 6) O hm gf_X1_4 fl_X1_20 kq_6 lk_6_4 dX1_goOverIf_80 ?_
      refine v_iload_n (pc := 83) O dX1_goOverIf_83 3 rfl ?_
      obtain ⟨c13, h⟩ := or_none h
      refine v_aald2 (pc := 84) (a := 57) O kq_57 (inq lq_57 c13) dX1_goOverIf_84 ?_
      obtain ⟨p14, e15, h⟩ := bind_some h
      refine v_callS (pc := 85) (As := [.ref (bo X + pp 7), .ref (bo X + pp (57 + 1 + (x3).toNatClampNeg))]) (rest := []) (r := (some (.int p14.1))) (D' := p14.2) O (bb0 hz) (c_X1_joinInto hm e15) mw_X1_joinInto sm_X1_joinInto ml_X1_103 rfl (by omega) (by omega) (Nat.le_of_ble_eq_true rfl) dX1_goOverIf_85 rfl rfl ?_
      refine v_pop (pc := 88) O dX1_goOverIf_88 rfl ?_
      obtain rfl := Option.some.inj h
      exact v_r1 (v_ret (pc := 89) O hz dX1_goOverIf_89)
theorem c_X1_goOverIf {l : Launch} {w : Wx} {n nu c u : Nat} {K : Nat → Nat} {rec : Option Nat → Int32 → Int32 → Dat → Option (Sum Nat Unit × Dat)} {N : Nat} {fr lc : Nat} (hl : l.stackTraces = false) (hm : wlm w = true) (hR : ∀ {n : Nat} {x1 : Option Nat} {x2 : Int32} {x3 : Int32} {D : Dat} {z : Sum Nat Unit × Dat}, rec x1 x2 x3 D = some z → C1 l w yX1_goThrough cX1_goThrough 5 none fr lc [.ref (wb w + pp 6), rv (wb w) x1, .int x2, .int x3] n (Ax nu K c u) D (zu z)) {x1 : Option Nat} {x2 : Int32} {x3 : Int32} {D : Dat} {z : Sum Nat Unit × Dat} (h : f_X1_goOverIf rec N nu K x1 x2 x3 D = some z) : C1 l w yX1_goOverIf cX1_goOverIf 4 none (fr + 1) (lc + 30) [.ref (wb w + pp 6), rv (wb w) x1, .int x2, .int x3] n (Ax nu K c u) D (zu z) :=
  C1.of hl (by decide) (by simp [lg_sl, rv_cat, cat_i, cat_l, cat_r, cat_n, fmt_cat]) (fun X e1 e2 e3 hz hT O => by
  subst e1
  subst e2
  have q : lv_args 0 [.ref (bo X + pp 6), rv (bo X) x1, .int x2, .int x3] = [(0, .ref (bo X + pp 6)), (1, rv (bo X) x1), (2, .int x2), (3, .int x3)] := by simp [lv_args, rv_cat, cat_i, cat_l, cat_r, cat_n, fmt_cat]
  show V X _ n _ D 0 (lv_args 0 [.ref (bo X + pp 6), rv (bo X) x1, .int x2, .int x3]) []
  rw [q]
  exact w_X1_goOverIf O hm e3 hz hT hR x1 x2 x3 D h)
def f_X1_goOverWhile_b92 (rec : Option Nat → Int32 → Int32 → Dat → Option (Sum Nat Unit × Dat)) (N : Nat) (nu : Nat) (K : Nat → Nat) (D : Dat) : Option (Sum Nat Unit × Dat) :=
  some (.inr (), D)
set_option maxHeartbeats 4000000 in
theorem w_X1_goOverWhile_b92 {X : Cx} {n nu c u : Nat} {K : Nat → Nat} {rec : Option Nat → Int32 → Int32 → Dat → Option (Sum Nat Unit × Dat)} {N : Nat} {fr lc : Nat} {z : Sum Nat Unit × Dat} (O : Ok X cX1_goOverWhile RX1 none (fr + 3) (lc + 66)) (hm : wlm (xw X) = true) (hn : xn X = 6) (hz : Z0 X (Ax nu K c u)) (hT : T1 X (zu z)) (hR : ∀ {n : Nat} {x1 : Option Nat} {x2 : Int32} {x3 : Int32} {D : Dat} {z : Sum Nat Unit × Dat}, rec x1 x2 x3 D = some z → C1 (xl X) (xw X) yX1_goThrough cX1_goThrough 5 none fr lc [.ref (wb (xw X) + pp 6), rv (wb (xw X)) x1, .int x2, .int x3] n (Ax nu K c u) D (zu z)) (D : Dat) (h : f_X1_goOverWhile_b92 rec N nu K D = some z) : V X (Q1 X n (Ax nu K c u) (zu z)) n (Ax nu K c u) D 92 [] [] := by
  unfold f_X1_goOverWhile_b92 at h
  obtain rfl := Option.some.inj h
  exact v_r1 (v_ret (pc := 92) O hz dX1_goOverWhile_92)
def f_X1_goOverWhile_b6 (rec : Option Nat → Int32 → Int32 → Dat → Option (Sum Nat Unit × Dat)) (N : Nat) (nu : Nat) (K : Nat → Nat) : Nat → Option Nat → Int32 → Int32 → Int32 → Int32 → Dat → Option (Sum Nat Unit × Dat)
  | 0, _, _, _, _, _, _ => none
  | g + 1, x1, x2, x3, x4, x5, D => if 156 ≤ x5 then (f_X1_goOverWhile_b92 rec N nu K D) else (if x4 = 0 then (f_X1_goOverWhile_b92 rec N nu K D) else (if x3 < 0 ∨ 48 ≤ (x3).toNatClampNeg then none else ((x1).bind (fun a4 => if kd K a4 = 7 then ((f_X1_shadeOf N nu K (some a4) (sC D 7 (8 + 1 + (x3).toNatClampNeg) (0 : Int32).toNatClampNeg (0 : Int32).toNatClampNeg (26 : Int32).toNatClampNeg)).bind (fun p7 => sb (rec (dR (sC D 7 (8 + 1 + (x3).toNatClampNeg) (0 : Int32).toNatClampNeg (0 : Int32).toNatClampNeg (26 : Int32).toNatClampNeg) a4 6) (x2 ||| p7.1) (x3 + (1 : Int32)) p7.2) (fun p9 D11 => if x3 < 0 ∨ 48 ≤ (x3).toNatClampNeg then none else ((f_X1_joinInto N nu K (8 + 1 + (x3).toNatClampNeg) 7 D11).bind (fun p13 => if x3 < 0 ∨ 48 ≤ (x3).toNatClampNeg then none else ((f_X1_goOverWhile_b6 rec N nu K g) (some a4) x2 x3 p13.1 (x5 + 1) (sC p13.2 (8 + 1 + (x3).toNatClampNeg) 7 (0 : Int32).toNatClampNeg (0 : Int32).toNatClampNeg (26 : Int32).toNatClampNeg))))))) else none))))
set_option maxHeartbeats 4000000 in
theorem w_X1_goOverWhile_b6 {X : Cx} {n nu c u : Nat} {K : Nat → Nat} {rec : Option Nat → Int32 → Int32 → Dat → Option (Sum Nat Unit × Dat)} {N : Nat} {fr lc : Nat} {z : Sum Nat Unit × Dat} (O : Ok X cX1_goOverWhile RX1 none (fr + 3) (lc + 66)) (hm : wlm (xw X) = true) (hn : xn X = 6) (hz : Z0 X (Ax nu K c u)) (hT : T1 X (zu z)) (hR : ∀ {n : Nat} {x1 : Option Nat} {x2 : Int32} {x3 : Int32} {D : Dat} {z : Sum Nat Unit × Dat}, rec x1 x2 x3 D = some z → C1 (xl X) (xw X) yX1_goThrough cX1_goThrough 5 none fr lc [.ref (wb (xw X) + pp 6), rv (wb (xw X)) x1, .int x2, .int x3] n (Ax nu K c u) D (zu z)) : ∀ (g : Nat) (x1 : Option Nat) (x2 : Int32) (x3 : Int32) (x4 : Int32) (x5 : Int32) (D : Dat), f_X1_goOverWhile_b6 rec N nu K g x1 x2 x3 x4 x5 D = some z → V X (Q1 X n (Ax nu K c u) (zu z)) n (Ax nu K c u) D 6 [(0, .ref (bo X + pp 6)), (1, rv (bo X) x1), (2, .int x2), (3, .int x3), (4, .int x4), (5, .int x5)] [] := by
  intro g
  induction g with
  | zero => intro x1 x2 x3 x4 x5 D h; exact absurd h (by simp [f_X1_goOverWhile_b6])
  | succ g ih =>
    intro x1 x2 x3 x4 x5 D h
    rw [f_X1_goOverWhile_b6] at h
    refine v_iload (pc := 6) O dX1_goOverWhile_6 5 rfl ?_
    refine v_sipush (pc := 8) O dX1_goOverWhile_8 sp_156 ?_
    refine v_icmpge (pc := 11) 92 O dX1_goOverWhile_11 (by decide) (fun c1 => ?_) (fun c1 => ?_)
    · have h := (if_pos c1).symm.trans h
      refine v_sub [] rfl ?_
      exact w_X1_goOverWhile_b92 O hm hn hz hT hR D h
    · have h := (if_neg c1).symm.trans h
      refine v_iload (pc := 14) O dX1_goOverWhile_14 4 rfl ?_
      refine v_ifeq (pc := 16) 92 O dX1_goOverWhile_16 (by decide) (fun c2 => ?_) (fun c2 => ?_)
      · have h := (if_pos c2).symm.trans h
        refine v_sub [] rfl ?_
        exact w_X1_goOverWhile_b92 O hm hn hz hT hR D h
      · have h := (if_neg c2).symm.trans h
        refine v_aload_n (pc := 19) O dX1_goOverWhile_19 0 rfl ?_
        refine v_getK (pc := 20) (a := 6) O hm gf_X1_2 fl_X1_9 kq_6 lk_6_2 dX1_goOverWhile_20 ?_
        refine v_iconst (pc := 23) O dX1_goOverWhile_23 ic_0 ?_
        refine v_aload_n (pc := 24) O dX1_goOverWhile_24 0 rfl ?_
        refine v_getK (pc := 25) (a := 6) O hm gf_X1_3 fl_X1_17 kq_6 lk_6_3 dX1_goOverWhile_25 ?_
        refine v_iload_n (pc := 28) O dX1_goOverWhile_28 3 rfl ?_
        obtain ⟨c3, h⟩ := or_none h
        refine v_aald2 (pc := 29) (a := 8) O kq_8 (inq lq_8 c3) dX1_goOverWhile_29 ?_
        refine v_iconst (pc := 30) O dX1_goOverWhile_30 ic_0 ?_
        refine v_bipush (pc := 31) O dX1_goOverWhile_31 bp_26 ?_
        refine v_copy (pc := 33) (a0 := 7) (a := (8 + 1 + (x3).toNatClampNeg)) O ml_X1_91 nat_acopy sm_acopy ini_System kq_7 (kr_8 c3) (by decide) (by decide) (by decide) (by rw [show (Ax nu K c u).2.1 7 = 26 from lq_7]; decide) (by rw [show (Ax nu K c u).2.1 (8 + 1 + (x3).toNatClampNeg) = 26 from (lr_8 c3)]; decide) (by omega) (by show 0 + _ ≤ _; omega) dX1_goOverWhile_33 ?_
        refine v_aload_n (pc := 36) O dX1_goOverWhile_36 0 rfl ?_
        refine v_aload_nr (pc := 37) O dX1_goOverWhile_37 1 rfl ?_
        obtain ⟨a4, e5, h⟩ := bind_some h
        subst e5
        obtain ⟨c6, h⟩ := if_none h
        refine v_getR (pc := 38) (a := a4) O gf_X7_6 fl_X1_97 c6 dX1_goOverWhile_38 ?_
        refine v_iload_n (pc := 41) O dX1_goOverWhile_41 2 rfl ?_
        refine v_aload_n (pc := 42) O dX1_goOverWhile_42 0 rfl ?_
        refine v_aload_n (pc := 43) O dX1_goOverWhile_43 1 rfl ?_
        obtain ⟨p7, e8, h⟩ := bind_some h
        refine v_callV (pc := 44) (a := 6) (As := [.ref (bo X + pp a4)]) (rest := [.int x2, rv (bo X) (dR (sC D 7 (8 + 1 + (x3).toNatClampNeg) (0 : Int32).toNatClampNeg (0 : Int32).toNatClampNeg (26 : Int32).toNatClampNeg) a4 6), .ref (bo X + pp 6)]) (r := (some (.int p7.1))) (D' := p7.2) O (bb0 hz) (c_X1_shadeOf hm e8) mw_X1_shadeOf im_X1_shadeOf se_X1_shadeOf ml_X1_62 kq_6 (by decide) rfl rfl rfl (by omega) (by omega) (by simp [rv_cat, cat_i, cat_l, cat_r, cat_n, fmt_cat]) dX1_goOverWhile_44 rfl rfl ?_
        refine v_ior (pc := 47) O dX1_goOverWhile_47 ?_
        refine v_iload_n (pc := 48) O dX1_goOverWhile_48 3 rfl ?_
        refine v_iconst (pc := 49) O dX1_goOverWhile_49 ic_1 ?_
        refine v_iadd (pc := 50) O dX1_goOverWhile_50 ?_
        rcases sb_some h with ⟨p9, D11, e10, rfl⟩ | ⟨p9, D11, e10, h⟩
        · exact v_call1X (pc := 51) (a := 6) (As := [rv (bo X) (dR (sC D 7 (8 + 1 + (x3).toNatClampNeg) (0 : Int32).toNatClampNeg (0 : Int32).toNatClampNeg (26 : Int32).toNatClampNeg) a4 6), .int (x2 ||| p7.1), .int (x3 + (1 : Int32))]) (rest := []) (e := p9) (D' := D11) O hz hT (hR e10 :) mw_X1_goThrough im_X1_goThrough se_X1_goThrough ml_X1_50 kq_6 (by decide) rfl rfl rfl (by omega) (by omega) (Nat.le_of_ble_eq_true rfl) dX1_goOverWhile_51 rfl
        · refine v_call1 (pc := 51) (a := 6) (As := [rv (bo X) (dR (sC D 7 (8 + 1 + (x3).toNatClampNeg) (0 : Int32).toNatClampNeg (0 : Int32).toNatClampNeg (26 : Int32).toNatClampNeg) a4 6), .int (x2 ||| p7.1), .int (x3 + (1 : Int32))]) (rest := []) (r := none) (D' := D11) O hz (hR e10 :) mw_X1_goThrough im_X1_goThrough se_X1_goThrough ml_X1_50 kq_6 (by decide) rfl rfl rfl (by omega) (by omega) (Nat.le_of_ble_eq_true rfl) dX1_goOverWhile_51 rfl rfl ?_
          refine v_aload_n (pc := 54) O dX1_goOverWhile_54 0 rfl ?_
          refine v_getK (pc := 55) (a := 6) O hm gf_X1_3 fl_X1_17 kq_6 lk_6_3 dX1_goOverWhile_55 ?_
          refine v_iload_n (pc := 58) O dX1_goOverWhile_58 3 rfl ?_
          obtain ⟨c12, h⟩ := or_none h
          refine v_aald2 (pc := 59) (a := 8) O kq_8 (inq lq_8 c12) dX1_goOverWhile_59 ?_
          refine v_aload_n (pc := 60) O dX1_goOverWhile_60 0 rfl ?_
          refine v_getK (pc := 61) (a := 6) O hm gf_X1_2 fl_X1_9 kq_6 lk_6_2 dX1_goOverWhile_61 ?_
          obtain ⟨p13, e14, h⟩ := bind_some h
          refine v_callS (pc := 64) (As := [.ref (bo X + pp (8 + 1 + (x3).toNatClampNeg)), .ref (bo X + pp 7)]) (rest := []) (r := (some (.int p13.1))) (D' := p13.2) O (bb0 hz) (c_X1_joinInto hm e14) mw_X1_joinInto sm_X1_joinInto ml_X1_103 rfl (by omega) (by omega) (Nat.le_of_ble_eq_true rfl) dX1_goOverWhile_64 rfl rfl ?_
          refine v_istore (pc := 67) (lv' := [(4, .int p13.1), (0, .ref (bo X + pp 6)), (1, .ref (bo X + pp a4)), (2, .int x2), (3, .int x3), (5, .int x5)]) O dX1_goOverWhile_67 (by rw [hn]; decide) rfl ?_
          refine v_aload_n (pc := 69) O dX1_goOverWhile_69 1 rfl ?_
          refine v_getK (pc := 70) (a := 6) O hm gf_X1_3 fl_X1_17 kq_6 lk_6_3 dX1_goOverWhile_70 ?_
          refine v_iload_n (pc := 73) O dX1_goOverWhile_73 4 rfl ?_
          obtain ⟨c15, h⟩ := or_none h
          refine v_aald2 (pc := 74) (a := 8) O kq_8 (inq lq_8 c15) dX1_goOverWhile_74 ?_
          refine v_iconst (pc := 75) O dX1_goOverWhile_75 ic_0 ?_
          refine v_aload_n (pc := 76) O dX1_goOverWhile_76 1 rfl ?_
          refine v_getK (pc := 77) (a := 6) O hm gf_X1_2 fl_X1_9 kq_6 lk_6_2 dX1_goOverWhile_77 ?_
          refine v_iconst (pc := 80) O dX1_goOverWhile_80 ic_0 ?_
          refine v_bipush (pc := 81) O dX1_goOverWhile_81 bp_26 ?_
          refine v_copy (pc := 83) (a0 := (8 + 1 + (x3).toNatClampNeg)) (a := 7) O ml_X1_91 nat_acopy sm_acopy ini_System (kr_8 c15) kq_7 (by decide) (by decide) (by decide) (by rw [show (Ax nu K c u).2.1 (8 + 1 + (x3).toNatClampNeg) = 26 from (lr_8 c15)]; decide) (by rw [show (Ax nu K c u).2.1 7 = 26 from lq_7]; decide) (by omega) (by show 0 + _ ≤ _; omega) dX1_goOverWhile_83 ?_
          refine v_iinc (pc := 86) (lv' := [(5, .int (x5 + 1)), (4, .int p13.1), (0, .ref (bo X + pp 6)), (1, .ref (bo X + pp a4)), (2, .int x2), (3, .int x3)]) O dX1_goOverWhile_86 5 rfl (congrArg (fun q => x5 + q) ic_1) (by rw [hn]; decide) rfl ?_
          refine v_goto (pc := 89) 6 O dX1_goOverWhile_89 (by decide) ?_
          refine v_sub [2, 3, 4, 5, 1, 0] rfl ?_
          exact ih (some a4) x2 x3 p13.1 (x5 + 1) (sC p13.2 (8 + 1 + (x3).toNatClampNeg) 7 (0 : Int32).toNatClampNeg (0 : Int32).toNatClampNeg (26 : Int32).toNatClampNeg) h
def f_X1_goOverWhile (rec : Option Nat → Int32 → Int32 → Dat → Option (Sum Nat Unit × Dat)) (N : Nat) (nu : Nat) (K : Nat → Nat) (x1 : Option Nat) (x2 : Int32) (x3 : Int32) (D : Dat) : Option (Sum Nat Unit × Dat) :=
  f_X1_goOverWhile_b6 rec N nu K N x1 x2 x3 1 0 D
set_option maxHeartbeats 4000000 in
theorem w_X1_goOverWhile {X : Cx} {n nu c u : Nat} {K : Nat → Nat} {rec : Option Nat → Int32 → Int32 → Dat → Option (Sum Nat Unit × Dat)} {N : Nat} {fr lc : Nat} {z : Sum Nat Unit × Dat} (O : Ok X cX1_goOverWhile RX1 none (fr + 3) (lc + 66)) (hm : wlm (xw X) = true) (hn : xn X = 6) (hz : Z0 X (Ax nu K c u)) (hT : T1 X (zu z)) (hR : ∀ {n : Nat} {x1 : Option Nat} {x2 : Int32} {x3 : Int32} {D : Dat} {z : Sum Nat Unit × Dat}, rec x1 x2 x3 D = some z → C1 (xl X) (xw X) yX1_goThrough cX1_goThrough 5 none fr lc [.ref (wb (xw X) + pp 6), rv (wb (xw X)) x1, .int x2, .int x3] n (Ax nu K c u) D (zu z)) (x1 : Option Nat) (x2 : Int32) (x3 : Int32) (D : Dat) (h : f_X1_goOverWhile rec N nu K x1 x2 x3 D = some z) : V X (Q1 X n (Ax nu K c u) (zu z)) n (Ax nu K c u) D 0 [(0, .ref (bo X + pp 6)), (1, rv (bo X) x1), (2, .int x2), (3, .int x3)] [] := by
  unfold f_X1_goOverWhile at h
  refine v_iconst (pc := 0) O dX1_goOverWhile_0 ic_1 ?_
  refine v_istore (pc := 1) (lv' := [(4, .int 1), (0, .ref (bo X + pp 6)), (1, rv (bo X) x1), (2, .int x2), (3, .int x3)]) O dX1_goOverWhile_1 (by rw [hn]; decide) rfl ?_
  refine v_iconst (pc := 3) O dX1_goOverWhile_3 ic_0 ?_
  refine v_istore (pc := 4) (lv' := [(5, .int 0), (4, .int 1), (0, .ref (bo X + pp 6)), (1, rv (bo X) x1), (2, .int x2), (3, .int x3)]) O dX1_goOverWhile_4 (by rw [hn]; decide) rfl ?_
  refine v_sub [2, 3, 4, 5, 1, 0] rfl ?_
  exact w_X1_goOverWhile_b6 O hm hn hz hT hR N x1 x2 x3 1 0 D h
theorem c_X1_goOverWhile {l : Launch} {w : Wx} {n nu c u : Nat} {K : Nat → Nat} {rec : Option Nat → Int32 → Int32 → Dat → Option (Sum Nat Unit × Dat)} {N : Nat} {fr lc : Nat} (hl : l.stackTraces = false) (hm : wlm w = true) (hR : ∀ {n : Nat} {x1 : Option Nat} {x2 : Int32} {x3 : Int32} {D : Dat} {z : Sum Nat Unit × Dat}, rec x1 x2 x3 D = some z → C1 l w yX1_goThrough cX1_goThrough 5 none fr lc [.ref (wb w + pp 6), rv (wb w) x1, .int x2, .int x3] n (Ax nu K c u) D (zu z)) {x1 : Option Nat} {x2 : Int32} {x3 : Int32} {D : Dat} {z : Sum Nat Unit × Dat} (h : f_X1_goOverWhile rec N nu K x1 x2 x3 D = some z) : C1 l w yX1_goOverWhile cX1_goOverWhile 6 none (fr + 3) (lc + 66) [.ref (wb w + pp 6), rv (wb w) x1, .int x2, .int x3] n (Ax nu K c u) D (zu z) :=
  C1.of hl (by decide) (by simp [lg_sl, rv_cat, cat_i, cat_l, cat_r, cat_n, fmt_cat]) (fun X e1 e2 e3 hz hT O => by
  subst e1
  subst e2
  have q : lv_args 0 [.ref (bo X + pp 6), rv (bo X) x1, .int x2, .int x3] = [(0, .ref (bo X + pp 6)), (1, rv (bo X) x1), (2, .int x2), (3, .int x3)] := by simp [lv_args, rv_cat, cat_i, cat_l, cat_r, cat_n, fmt_cat]
  show V X _ n _ D 0 (lv_args 0 [.ref (bo X + pp 6), rv (bo X) x1, .int x2, .int x3]) []
  rw [q]
  exact w_X1_goOverWhile O hm e3 hz hT hR x1 x2 x3 D h)
def f_X1_goThrough_s_b260 (rec : Option Nat → Int32 → Int32 → Dat → Option (Sum Nat Unit × Dat)) (N : Nat) (nu : Nat) (K : Nat → Nat) (rec_10 : Int32 → Int32 → Option Nat → Dat → Option (Sum Nat Unit × Dat)) (x2 : Int32) (x3 : Int32) (x4 : Option Nat) (D : Dat) : Option (Sum Nat Unit × Dat) :=
  (x4).bind (fun a1 => if kd K a1 = 7 then (rec_10 x2 x3 (dR D a1 9) D) else none)
set_option maxHeartbeats 4000000 in
theorem w_X1_goThrough_s_b260 {X : Cx} {n nu c u : Nat} {K : Nat → Nat} {rec : Option Nat → Int32 → Int32 → Dat → Option (Sum Nat Unit × Dat)} {N : Nat} {fr lc : Nat} {rec_10 : Int32 → Int32 → Option Nat → Dat → Option (Sum Nat Unit × Dat)} {z : Sum Nat Unit × Dat} (O : Ok X cX1_goThrough RX1 none (fr + 8) (lc + 146)) (hm : wlm (xw X) = true) (hn : xn X = 5) (hz : Z0 X (Ax nu K c u)) (hT : T1 X (zu z)) (hR : ∀ {n : Nat} {x1 : Option Nat} {x2 : Int32} {x3 : Int32} {D : Dat} {z : Sum Nat Unit × Dat}, rec x1 x2 x3 D = some z → C1 (xl X) (xw X) yX1_goThrough cX1_goThrough 5 none fr lc [.ref (wb (xw X) + pp 6), rv (wb (xw X)) x1, .int x2, .int x3] n (Ax nu K c u) D (zu z)) (hrec_10 : ∀ (x2 : Int32) (x3 : Int32) (x4 : Option Nat) (D : Dat), rec_10 x2 x3 x4 D = some z → V X (Q1 X n (Ax nu K c u) (zu z)) n (Ax nu K c u) D 10 [(0, .ref (bo X + pp 6)), (2, .int x2), (3, .int x3), (4, rv (bo X) x4)] []) (x2 : Int32) (x3 : Int32) (x4 : Option Nat) (D : Dat) (h : f_X1_goThrough_s_b260 rec N nu K rec_10 x2 x3 x4 D = some z) : V X (Q1 X n (Ax nu K c u) (zu z)) n (Ax nu K c u) D 260 [(0, .ref (bo X + pp 6)), (2, .int x2), (3, .int x3), (4, rv (bo X) x4)] [] := by
  unfold f_X1_goThrough_s_b260 at h
  refine v_aloadr (pc := 260) O dX1_goThrough_260 3 rfl ?_
  obtain ⟨a1, e2, h⟩ := bind_some h
  subst e2
  obtain ⟨c3, h⟩ := if_none h
  refine v_getR (pc := 262) (a := a1) O gf_X7_9 fl_X1_88 c3 dX1_goThrough_262 ?_
  refine v_astorer (pc := 265) (lv' := [(4, rv (bo X) (dR D a1 9)), (0, .ref (bo X + pp 6)), (2, .int x2), (3, .int x3)]) O dX1_goThrough_265 (by rw [hn]; decide) rfl ?_
  refine v_goto (pc := 267) 10 O dX1_goThrough_267 (by decide) ?_
  refine v_sub [1, 2, 3, 0] rfl ?_
  exact hrec_10 x2 x3 (dR D a1 9) D h
def f_X1_goThrough_s_b240 (rec : Option Nat → Int32 → Int32 → Dat → Option (Sum Nat Unit × Dat)) (N : Nat) (nu : Nat) (K : Nat → Nat) (rec_10 : Int32 → Int32 → Option Nat → Dat → Option (Sum Nat Unit × Dat)) (x2 : Int32) (x3 : Int32) (x4 : Option Nat) (D : Dat) : Option (Sum Nat Unit × Dat) :=
  (x4).bind (fun a4 => if kd K a4 = 7 then (((dR D 6 1)).bind (fun a7 => if a7 = 191 ∨ a7 = 196 then ((f_X4_proc a7 (dI D a4 2) D).bind (fun p10 => sb (rec p10.1 x2 (x3 + (1 : Int32)) p10.2) (fun p12 D14 => f_X1_goThrough_s_b260 rec N nu K rec_10 x2 x3 (some a4) D14))) else none)) else none)
set_option maxHeartbeats 4000000 in
theorem w_X1_goThrough_s_b240 {X : Cx} {n nu c u : Nat} {K : Nat → Nat} {rec : Option Nat → Int32 → Int32 → Dat → Option (Sum Nat Unit × Dat)} {N : Nat} {fr lc : Nat} {rec_10 : Int32 → Int32 → Option Nat → Dat → Option (Sum Nat Unit × Dat)} {z : Sum Nat Unit × Dat} (O : Ok X cX1_goThrough RX1 none (fr + 8) (lc + 146)) (hm : wlm (xw X) = true) (hn : xn X = 5) (hz : Z0 X (Ax nu K c u)) (hT : T1 X (zu z)) (hR : ∀ {n : Nat} {x1 : Option Nat} {x2 : Int32} {x3 : Int32} {D : Dat} {z : Sum Nat Unit × Dat}, rec x1 x2 x3 D = some z → C1 (xl X) (xw X) yX1_goThrough cX1_goThrough 5 none fr lc [.ref (wb (xw X) + pp 6), rv (wb (xw X)) x1, .int x2, .int x3] n (Ax nu K c u) D (zu z)) (hrec_10 : ∀ (x2 : Int32) (x3 : Int32) (x4 : Option Nat) (D : Dat), rec_10 x2 x3 x4 D = some z → V X (Q1 X n (Ax nu K c u) (zu z)) n (Ax nu K c u) D 10 [(0, .ref (bo X + pp 6)), (2, .int x2), (3, .int x3), (4, rv (bo X) x4)] []) (x2 : Int32) (x3 : Int32) (x4 : Option Nat) (D : Dat) (h : f_X1_goThrough_s_b240 rec N nu K rec_10 x2 x3 x4 D = some z) : V X (Q1 X n (Ax nu K c u) (zu z)) n (Ax nu K c u) D 240 [(0, .ref (bo X + pp 6)), (2, .int x2), (3, .int x3), (4, rv (bo X) x4)] [] := by
  unfold f_X1_goThrough_s_b240 at h
  refine v_aload_n (pc := 240) O dX1_goThrough_240 0 rfl ?_
  refine v_aload_n (pc := 241) O dX1_goThrough_241 0 rfl ?_
  refine v_getR (pc := 242) (a := 6) O gf_X1_1 fl_X1_31 kq_6 dX1_goThrough_242 ?_
  refine v_aloadr (pc := 245) O dX1_goThrough_245 3 rfl ?_
  obtain ⟨a4, e5, h⟩ := bind_some h
  subst e5
  obtain ⟨c6, h⟩ := if_none h
  refine v_getI (pc := 247) (a := a4) O gf_X7_2 fl_X1_59 c6 dX1_goThrough_247 ?_
  obtain ⟨a7, e8, h⟩ := bind_some h
  rw [e8]
  obtain ⟨c9, h⟩ := if_none h
  obtain ⟨p10, e11, h⟩ := bind_some h
  refine v_callV (pc := 250) (a := a7) (As := [.int (dI D a4 2)]) (rest := [.ref (bo X + pp 6)]) (r := (some (rv (bo X) p10.1))) (D' := p10.2) O (bb0 hz) (c_X4_proc hm c9 e11) mw_X4_proc im_X4_proc se_X4_proc ml_X1_84 (kt_X4 c9) (by decide) rfl rfl rfl (by omega) (by omega) (Nat.le_of_ble_eq_true rfl) dX1_goThrough_250 rfl rfl ?_
  refine v_iload_n (pc := 253) O dX1_goThrough_253 1 rfl ?_
  refine v_iload_n (pc := 254) O dX1_goThrough_254 2 rfl ?_
  refine v_iconst (pc := 255) O dX1_goThrough_255 ic_1 ?_
  refine v_iadd (pc := 256) O dX1_goThrough_256 ?_
  rcases sb_some h with ⟨p12, D14, e13, rfl⟩ | ⟨p12, D14, e13, h⟩
  · exact v_call1X (pc := 257) (a := 6) (As := [rv (bo X) p10.1, .int x2, .int (x3 + (1 : Int32))]) (rest := []) (e := p12) (D' := D14) O hz hT (hR e13 :) mw_X1_goThrough im_X1_goThrough se_X1_goThrough ml_X1_50 kq_6 (by decide) rfl rfl rfl (by omega) (by omega) (Nat.le_of_ble_eq_true rfl) dX1_goThrough_257 rfl
  · refine v_call1 (pc := 257) (a := 6) (As := [rv (bo X) p10.1, .int x2, .int (x3 + (1 : Int32))]) (rest := []) (r := none) (D' := D14) O hz (hR e13 :) mw_X1_goThrough im_X1_goThrough se_X1_goThrough ml_X1_50 kq_6 (by decide) rfl rfl rfl (by omega) (by omega) (Nat.le_of_ble_eq_true rfl) dX1_goThrough_257 rfl rfl ?_
    refine v_sub [0, 1, 2, 3] rfl ?_
    exact w_X1_goThrough_s_b260 O hm hn hz hT hR hrec_10 x2 x3 (some a4) D14 h
def f_X1_goThrough_s_b10 (rec : Option Nat → Int32 → Int32 → Dat → Option (Sum Nat Unit × Dat)) (N : Nat) (nu : Nat) (K : Nat → Nat) : Nat → Int32 → Int32 → Option Nat → Dat → Option (Sum Nat Unit × Dat)
  | 0, _, _, _, _ => none
  | g + 1, x2, x3, x4, D => oel x4 (some (.inr (), D)) (fun a15 => if kd K a15 = 7 then (if (dI D a15 0) = (2 : Int32) then ((f_X1_shadeOf N nu K (some a15) D).bind (fun p19 => sb (f_X1_set nu K (some a15) (dI D a15 2) (x2 ||| p19.1) p19.2) (fun p21 D23 => f_X1_goThrough_s_b260 rec N nu K (f_X1_goThrough_s_b10 rec N nu K g) x2 x3 (some a15) D23))) else (if (dI D a15 0) = (4 : Int32) then ((f_X1_shadeOf N nu K (some a15) D).bind (fun p25 => ((dR p25.2 6 1)).bind (fun a27 => if a27 = 191 ∨ a27 = 196 then ((f_X4_rowMark a27 (dI p25.2 a15 2) p25.2).bind (fun p30 => sb (f_X1_demand nu K (some a15) (x2 ||| p25.1) p30.1 p30.2) (fun p32 D34 => f_X1_goThrough_s_b260 rec N nu K (f_X1_goThrough_s_b10 rec N nu K g) x2 x3 (some a15) D34))) else none))) else (if (dI D a15 0) = (13 : Int32) then (sb (f_X1_demand nu K (some a15) x2 (dI D a15 3) D) (fun p36 D38 => (f_X2_shade nu K (dI D38 a15 3) D38).bind (fun p39 => sb (f_X1_set nu K (some a15) (dI D38 a15 2) p39.1 p39.2) (fun p41 D43 => f_X1_goThrough_s_b260 rec N nu K (f_X1_goThrough_s_b10 rec N nu K g) x2 x3 (some a15) D43)))) else (if (dI D a15 0) = (14 : Int32) then ((f_X1_shadeOf N nu K (some a15) D).bind (fun p45 => sb (f_X1_demand nu K (some a15) (x2 ||| p45.1) (dI p45.2 a15 3) p45.2) (fun p47 D49 => f_X1_goThrough_s_b260 rec N nu K (f_X1_goThrough_s_b10 rec N nu K g) x2 x3 (some a15) D49))) else (if (dI D a15 0) = (16 : Int32) then ((f_X1_shadeOf N nu K (some a15) D).bind (fun p51 => sb (f_X1_goOverIf rec N nu K (some a15) (x2 ||| p51.1) x3 p51.2) (fun p53 D55 => f_X1_goThrough_s_b260 rec N nu K (f_X1_goThrough_s_b10 rec N nu K g) x2 x3 (some a15) D55))) else (if (dI D a15 0) = (17 : Int32) then (sb (f_X1_goOverWhile rec N nu K (some a15) x2 x3 D) (fun p57 D59 => f_X1_goThrough_s_b260 rec N nu K (f_X1_goThrough_s_b10 rec N nu K g) x2 x3 (some a15) D59)) else (f_X1_goThrough_s_b240 rec N nu K (f_X1_goThrough_s_b10 rec N nu K g) x2 x3 (some a15) D))))))) else none)
set_option maxHeartbeats 4000000 in
theorem w_X1_goThrough_s_b10 {X : Cx} {n nu c u : Nat} {K : Nat → Nat} {rec : Option Nat → Int32 → Int32 → Dat → Option (Sum Nat Unit × Dat)} {N : Nat} {fr lc : Nat} {z : Sum Nat Unit × Dat} (O : Ok X cX1_goThrough RX1 none (fr + 8) (lc + 146)) (hm : wlm (xw X) = true) (hn : xn X = 5) (hz : Z0 X (Ax nu K c u)) (hT : T1 X (zu z)) (hR : ∀ {n : Nat} {x1 : Option Nat} {x2 : Int32} {x3 : Int32} {D : Dat} {z : Sum Nat Unit × Dat}, rec x1 x2 x3 D = some z → C1 (xl X) (xw X) yX1_goThrough cX1_goThrough 5 none fr lc [.ref (wb (xw X) + pp 6), rv (wb (xw X)) x1, .int x2, .int x3] n (Ax nu K c u) D (zu z)) : ∀ (g : Nat) (x2 : Int32) (x3 : Int32) (x4 : Option Nat) (D : Dat), f_X1_goThrough_s_b10 rec N nu K g x2 x3 x4 D = some z → V X (Q1 X n (Ax nu K c u) (zu z)) n (Ax nu K c u) D 10 [(0, .ref (bo X + pp 6)), (2, .int x2), (3, .int x3), (4, rv (bo X) x4)] [] := by
  intro g
  induction g with
  | zero => intro x2 x3 x4 D h; exact absurd h (by simp [f_X1_goThrough_s_b10])
  | succ g ih =>
    intro x2 x3 x4 D h
    rw [f_X1_goThrough_s_b10] at h
    refine v_aloadr (pc := 10) O dX1_goThrough_10 3 rfl ?_
    refine v_ifnull (pc := 12) 270 O dX1_goThrough_12 (by decide) (fun e16 => ?_) (fun a15 e16 => ?_)
    · subst e16
      have h := onone h
      obtain rfl := Option.some.inj h
      exact v_r1 (v_ret (pc := 270) O hz dX1_goThrough_270)
    · subst e16
      have h := osome h
      refine v_aload (pc := 15) O dX1_goThrough_15 3 rfl ?_
      obtain ⟨c17, h⟩ := if_none h
      refine v_getI (pc := 17) (a := a15) O gf_X7_0 fl_X1_54 c17 dX1_goThrough_17 ?_
      by_cases c18 : (dI D a15 0) = (2 : Int32)
      · have h := (if_pos c18).symm.trans h
        refine v_tableIn (pc := 20) 100 O dX1_goThrough_20 (by rw [c18]; decide) (by rw [c18]; decide) (by rw [c18]; rfl) (by decide) ?_
        refine v_aload_n (pc := 100) O dX1_goThrough_100 0 rfl ?_
        refine v_aload (pc := 101) O dX1_goThrough_101 3 rfl ?_
        refine v_aload (pc := 103) O dX1_goThrough_103 3 rfl ?_
        refine v_getI (pc := 105) (a := a15) O gf_X7_2 fl_X1_59 c17 dX1_goThrough_105 ?_
        refine v_iload_n (pc := 108) O dX1_goThrough_108 1 rfl ?_
        refine v_aload_n (pc := 109) O dX1_goThrough_109 0 rfl ?_
        refine v_aload (pc := 110) O dX1_goThrough_110 3 rfl ?_
        obtain ⟨p19, e20, h⟩ := bind_some h
        refine v_callV (pc := 112) (a := 6) (As := [.ref (bo X + pp a15)]) (rest := [.int x2, .int (dI D a15 2), .ref (bo X + pp a15), .ref (bo X + pp 6)]) (r := (some (.int p19.1))) (D' := p19.2) O (bb0 hz) (c_X1_shadeOf hm e20) mw_X1_shadeOf im_X1_shadeOf se_X1_shadeOf ml_X1_62 kq_6 (by decide) rfl rfl rfl (by omega) (by omega) (Nat.le_of_ble_eq_true rfl) dX1_goThrough_112 rfl rfl ?_
        refine v_ior (pc := 115) O dX1_goThrough_115 ?_
        rcases sb_some h with ⟨p21, D23, e22, rfl⟩ | ⟨p21, D23, e22, h⟩
        · exact v_call1X (pc := 116) (a := 6) (As := [.ref (bo X + pp a15), .int (dI D a15 2), .int (x2 ||| p19.1)]) (rest := []) (e := p21) (D' := D23) O hz hT (c_X1_set (n := n) (nu := nu) (c := c) (u := u) hT.2.1 hm e22 :) mw_X1_set im_X1_set se_X1_set ml_X1_66 kq_6 (by decide) rfl rfl rfl (by omega) (by omega) (Nat.le_of_ble_eq_true rfl) dX1_goThrough_116 rfl
        · refine v_call1 (pc := 116) (a := 6) (As := [.ref (bo X + pp a15), .int (dI D a15 2), .int (x2 ||| p19.1)]) (rest := []) (r := none) (D' := D23) O hz (c_X1_set (n := n) (nu := nu) (c := c) (u := u) hT.2.1 hm e22 :) mw_X1_set im_X1_set se_X1_set ml_X1_66 kq_6 (by decide) rfl rfl rfl (by omega) (by omega) (Nat.le_of_ble_eq_true rfl) dX1_goThrough_116 rfl rfl ?_
          refine v_goto (pc := 119) 260 O dX1_goThrough_119 (by decide) ?_
          refine v_sub [0, 1, 2, 3] rfl ?_
          exact w_X1_goThrough_s_b260 O hm hn hz hT hR ih x2 x3 (some a15) D23 h
      · have h := (if_neg c18).symm.trans h
        by_cases c24 : (dI D a15 0) = (4 : Int32)
        · have h := (if_pos c24).symm.trans h
          refine v_tableIn (pc := 20) 122 O dX1_goThrough_20 (by rw [c24]; decide) (by rw [c24]; decide) (by rw [c24]; rfl) (by decide) ?_
          refine v_aload_n (pc := 122) O dX1_goThrough_122 0 rfl ?_
          refine v_aload (pc := 123) O dX1_goThrough_123 3 rfl ?_
          refine v_iload_n (pc := 125) O dX1_goThrough_125 1 rfl ?_
          refine v_aload_n (pc := 126) O dX1_goThrough_126 0 rfl ?_
          refine v_aload (pc := 127) O dX1_goThrough_127 3 rfl ?_
          obtain ⟨p25, e26, h⟩ := bind_some h
          refine v_callV (pc := 129) (a := 6) (As := [.ref (bo X + pp a15)]) (rest := [.int x2, .ref (bo X + pp a15), .ref (bo X + pp 6)]) (r := (some (.int p25.1))) (D' := p25.2) O (bb0 hz) (c_X1_shadeOf hm e26) mw_X1_shadeOf im_X1_shadeOf se_X1_shadeOf ml_X1_62 kq_6 (by decide) rfl rfl rfl (by omega) (by omega) (Nat.le_of_ble_eq_true rfl) dX1_goThrough_129 rfl rfl ?_
          refine v_ior (pc := 132) O dX1_goThrough_132 ?_
          refine v_aload_n (pc := 133) O dX1_goThrough_133 0 rfl ?_
          refine v_getR (pc := 134) (a := 6) O gf_X1_1 fl_X1_31 kq_6 dX1_goThrough_134 ?_
          refine v_aload (pc := 137) O dX1_goThrough_137 3 rfl ?_
          refine v_getI (pc := 139) (a := a15) O gf_X7_2 fl_X1_59 c17 dX1_goThrough_139 ?_
          obtain ⟨a27, e28, h⟩ := bind_some h
          rw [e28]
          obtain ⟨c29, h⟩ := if_none h
          obtain ⟨p30, e31, h⟩ := bind_some h
          refine v_callV (pc := 142) (a := a27) (As := [.int (dI p25.2 a15 2)]) (rest := [.int (x2 ||| p25.1), .ref (bo X + pp a15), .ref (bo X + pp 6)]) (r := (some (.int p30.1))) (D' := p30.2) O (bb0 hz) (c_X4_rowMark hm c29 e31) mw_X4_rowMark im_X4_rowMark se_X4_rowMark ml_X1_69 (kt_X4 c29) (by decide) rfl rfl rfl (by omega) (by omega) (Nat.le_of_ble_eq_true rfl) dX1_goThrough_142 rfl rfl ?_
          rcases sb_some h with ⟨p32, D34, e33, rfl⟩ | ⟨p32, D34, e33, h⟩
          · exact v_call1X (pc := 145) (a := 6) (As := [.ref (bo X + pp a15), .int (x2 ||| p25.1), .int p30.1]) (rest := []) (e := p32) (D' := D34) O hz hT (c_X1_demand (n := n) (nu := nu) (c := c) (u := u) hT.2.1 hm e33 :) mw_X1_demand im_X1_demand se_X1_demand ml_X1_72 kq_6 (by decide) rfl rfl rfl (by omega) (by omega) (Nat.le_of_ble_eq_true rfl) dX1_goThrough_145 rfl
          · refine v_call1 (pc := 145) (a := 6) (As := [.ref (bo X + pp a15), .int (x2 ||| p25.1), .int p30.1]) (rest := []) (r := none) (D' := D34) O hz (c_X1_demand (n := n) (nu := nu) (c := c) (u := u) hT.2.1 hm e33 :) mw_X1_demand im_X1_demand se_X1_demand ml_X1_72 kq_6 (by decide) rfl rfl rfl (by omega) (by omega) (Nat.le_of_ble_eq_true rfl) dX1_goThrough_145 rfl rfl ?_
            refine v_goto (pc := 148) 260 O dX1_goThrough_148 (by decide) ?_
            refine v_sub [0, 1, 2, 3] rfl ?_
            exact w_X1_goThrough_s_b260 O hm hn hz hT hR ih x2 x3 (some a15) D34 h
        · have h := (if_neg c24).symm.trans h
          by_cases c35 : (dI D a15 0) = (13 : Int32)
          · have h := (if_pos c35).symm.trans h
            refine v_tableIn (pc := 20) 173 O dX1_goThrough_20 (by rw [c35]; decide) (by rw [c35]; decide) (by rw [c35]; rfl) (by decide) ?_
            refine v_aload_n (pc := 173) O dX1_goThrough_173 0 rfl ?_
            refine v_aload (pc := 174) O dX1_goThrough_174 3 rfl ?_
            refine v_iload_n (pc := 176) O dX1_goThrough_176 1 rfl ?_
            refine v_aload (pc := 177) O dX1_goThrough_177 3 rfl ?_
            refine v_getI (pc := 179) (a := a15) O gf_X7_3 fl_X1_75 c17 dX1_goThrough_179 ?_
            rcases sb_some h with ⟨p36, D38, e37, rfl⟩ | ⟨p36, D38, e37, h⟩
            · exact v_call1X (pc := 182) (a := 6) (As := [.ref (bo X + pp a15), .int x2, .int (dI D a15 3)]) (rest := []) (e := p36) (D' := D38) O hz hT (c_X1_demand (n := n) (nu := nu) (c := c) (u := u) hT.2.1 hm e37 :) mw_X1_demand im_X1_demand se_X1_demand ml_X1_72 kq_6 (by decide) rfl rfl rfl (by omega) (by omega) (Nat.le_of_ble_eq_true rfl) dX1_goThrough_182 rfl
            · refine v_call1 (pc := 182) (a := 6) (As := [.ref (bo X + pp a15), .int x2, .int (dI D a15 3)]) (rest := []) (r := none) (D' := D38) O hz (c_X1_demand (n := n) (nu := nu) (c := c) (u := u) hT.2.1 hm e37 :) mw_X1_demand im_X1_demand se_X1_demand ml_X1_72 kq_6 (by decide) rfl rfl rfl (by omega) (by omega) (Nat.le_of_ble_eq_true rfl) dX1_goThrough_182 rfl rfl ?_
              refine v_aload_n (pc := 185) O dX1_goThrough_185 0 rfl ?_
              refine v_aload (pc := 186) O dX1_goThrough_186 3 rfl ?_
              refine v_aload (pc := 188) O dX1_goThrough_188 3 rfl ?_
              refine v_getI (pc := 190) (a := a15) O gf_X7_2 fl_X1_59 c17 dX1_goThrough_190 ?_
              refine v_aload_n (pc := 193) O dX1_goThrough_193 0 rfl ?_
              refine v_getK (pc := 194) (a := 6) O hm gf_X1_0 fl_X1_23 kq_6 lk_6_0 dX1_goThrough_194 ?_
              refine v_aload (pc := 197) O dX1_goThrough_197 3 rfl ?_
              refine v_getI (pc := 199) (a := a15) O gf_X7_3 fl_X1_75 c17 dX1_goThrough_199 ?_
              obtain ⟨p39, e40, h⟩ := bind_some h
              refine v_callV (pc := 202) (a := 1) (As := [.int (dI D38 a15 3)]) (rest := [.int (dI D38 a15 2), .ref (bo X + pp a15), .ref (bo X + pp 6)]) (r := (some (.int p39.1))) (D' := p39.2) O (bb0 hz) (c_X2_shade hm e40) mw_X2_shade im_X2_shade se_X2_shade ml_X1_41 kq_1 (by decide) rfl rfl rfl (by omega) (by omega) (Nat.le_of_ble_eq_true rfl) dX1_goThrough_202 rfl rfl ?_
              rcases sb_some h with ⟨p41, D43, e42, rfl⟩ | ⟨p41, D43, e42, h⟩
              · exact v_call1X (pc := 205) (a := 6) (As := [.ref (bo X + pp a15), .int (dI D38 a15 2), .int p39.1]) (rest := []) (e := p41) (D' := D43) O hz hT (c_X1_set (n := n) (nu := nu) (c := c) (u := u) hT.2.1 hm e42 :) mw_X1_set im_X1_set se_X1_set ml_X1_66 kq_6 (by decide) rfl rfl rfl (by omega) (by omega) (Nat.le_of_ble_eq_true rfl) dX1_goThrough_205 rfl
              · refine v_call1 (pc := 205) (a := 6) (As := [.ref (bo X + pp a15), .int (dI D38 a15 2), .int p39.1]) (rest := []) (r := none) (D' := D43) O hz (c_X1_set (n := n) (nu := nu) (c := c) (u := u) hT.2.1 hm e42 :) mw_X1_set im_X1_set se_X1_set ml_X1_66 kq_6 (by decide) rfl rfl rfl (by omega) (by omega) (Nat.le_of_ble_eq_true rfl) dX1_goThrough_205 rfl rfl ?_
                refine v_goto (pc := 208) 260 O dX1_goThrough_208 (by decide) ?_
                refine v_sub [0, 1, 2, 3] rfl ?_
                exact w_X1_goThrough_s_b260 O hm hn hz hT hR ih x2 x3 (some a15) D43 h
          · have h := (if_neg c35).symm.trans h
            by_cases c44 : (dI D a15 0) = (14 : Int32)
            · have h := (if_pos c44).symm.trans h
              refine v_tableIn (pc := 20) 151 O dX1_goThrough_20 (by rw [c44]; decide) (by rw [c44]; decide) (by rw [c44]; rfl) (by decide) ?_
              refine v_aload_n (pc := 151) O dX1_goThrough_151 0 rfl ?_
              refine v_aload (pc := 152) O dX1_goThrough_152 3 rfl ?_
              refine v_iload_n (pc := 154) O dX1_goThrough_154 1 rfl ?_
              refine v_aload_n (pc := 155) O dX1_goThrough_155 0 rfl ?_
              refine v_aload (pc := 156) O dX1_goThrough_156 3 rfl ?_
              obtain ⟨p45, e46, h⟩ := bind_some h
              refine v_callV (pc := 158) (a := 6) (As := [.ref (bo X + pp a15)]) (rest := [.int x2, .ref (bo X + pp a15), .ref (bo X + pp 6)]) (r := (some (.int p45.1))) (D' := p45.2) O (bb0 hz) (c_X1_shadeOf hm e46) mw_X1_shadeOf im_X1_shadeOf se_X1_shadeOf ml_X1_62 kq_6 (by decide) rfl rfl rfl (by omega) (by omega) (Nat.le_of_ble_eq_true rfl) dX1_goThrough_158 rfl rfl ?_
              refine v_ior (pc := 161) O dX1_goThrough_161 ?_
              refine v_aload (pc := 162) O dX1_goThrough_162 3 rfl ?_
              refine v_getI (pc := 164) (a := a15) O gf_X7_3 fl_X1_75 c17 dX1_goThrough_164 ?_
              rcases sb_some h with ⟨p47, D49, e48, rfl⟩ | ⟨p47, D49, e48, h⟩
              · exact v_call1X (pc := 167) (a := 6) (As := [.ref (bo X + pp a15), .int (x2 ||| p45.1), .int (dI p45.2 a15 3)]) (rest := []) (e := p47) (D' := D49) O hz hT (c_X1_demand (n := n) (nu := nu) (c := c) (u := u) hT.2.1 hm e48 :) mw_X1_demand im_X1_demand se_X1_demand ml_X1_72 kq_6 (by decide) rfl rfl rfl (by omega) (by omega) (Nat.le_of_ble_eq_true rfl) dX1_goThrough_167 rfl
              · refine v_call1 (pc := 167) (a := 6) (As := [.ref (bo X + pp a15), .int (x2 ||| p45.1), .int (dI p45.2 a15 3)]) (rest := []) (r := none) (D' := D49) O hz (c_X1_demand (n := n) (nu := nu) (c := c) (u := u) hT.2.1 hm e48 :) mw_X1_demand im_X1_demand se_X1_demand ml_X1_72 kq_6 (by decide) rfl rfl rfl (by omega) (by omega) (Nat.le_of_ble_eq_true rfl) dX1_goThrough_167 rfl rfl ?_
                refine v_goto (pc := 170) 260 O dX1_goThrough_170 (by decide) ?_
                refine v_sub [0, 1, 2, 3] rfl ?_
                exact w_X1_goThrough_s_b260 O hm hn hz hT hR ih x2 x3 (some a15) D49 h
            · have h := (if_neg c44).symm.trans h
              by_cases c50 : (dI D a15 0) = (16 : Int32)
              · have h := (if_pos c50).symm.trans h
                refine v_tableIn (pc := 20) 211 O dX1_goThrough_20 (by rw [c50]; decide) (by rw [c50]; decide) (by rw [c50]; rfl) (by decide) ?_
                refine v_aload_n (pc := 211) O dX1_goThrough_211 0 rfl ?_
                refine v_aload (pc := 212) O dX1_goThrough_212 3 rfl ?_
                refine v_iload_n (pc := 214) O dX1_goThrough_214 1 rfl ?_
                refine v_aload_n (pc := 215) O dX1_goThrough_215 0 rfl ?_
                refine v_aload (pc := 216) O dX1_goThrough_216 3 rfl ?_
                obtain ⟨p51, e52, h⟩ := bind_some h
                refine v_callV (pc := 218) (a := 6) (As := [.ref (bo X + pp a15)]) (rest := [.int x2, .ref (bo X + pp a15), .ref (bo X + pp 6)]) (r := (some (.int p51.1))) (D' := p51.2) O (bb0 hz) (c_X1_shadeOf hm e52) mw_X1_shadeOf im_X1_shadeOf se_X1_shadeOf ml_X1_62 kq_6 (by decide) rfl rfl rfl (by omega) (by omega) (Nat.le_of_ble_eq_true rfl) dX1_goThrough_218 rfl rfl ?_
                refine v_ior (pc := 221) O dX1_goThrough_221 ?_
                refine v_iload_n (pc := 222) O dX1_goThrough_222 2 rfl ?_
                rcases sb_some h with ⟨p53, D55, e54, rfl⟩ | ⟨p53, D55, e54, h⟩
                · exact v_call1X (pc := 223) (a := 6) (As := [.ref (bo X + pp a15), .int (x2 ||| p51.1), .int x3]) (rest := []) (e := p53) (D' := D55) O hz hT (c_X1_goOverIf (n := n) (nu := nu) (c := c) (u := u) hT.2.1 hm hR e54 :) mw_X1_goOverIf im_X1_goOverIf se_X1_goOverIf ml_X1_78 kq_6 (by decide) rfl rfl rfl (by omega) (by omega) (Nat.le_of_ble_eq_true rfl) dX1_goThrough_223 rfl
                · refine v_call1 (pc := 223) (a := 6) (As := [.ref (bo X + pp a15), .int (x2 ||| p51.1), .int x3]) (rest := []) (r := none) (D' := D55) O hz (c_X1_goOverIf (n := n) (nu := nu) (c := c) (u := u) hT.2.1 hm hR e54 :) mw_X1_goOverIf im_X1_goOverIf se_X1_goOverIf ml_X1_78 kq_6 (by decide) rfl rfl rfl (by omega) (by omega) (Nat.le_of_ble_eq_true rfl) dX1_goThrough_223 rfl rfl ?_
                  refine v_goto (pc := 226) 260 O dX1_goThrough_226 (by decide) ?_
                  refine v_sub [0, 1, 2, 3] rfl ?_
                  exact w_X1_goThrough_s_b260 O hm hn hz hT hR ih x2 x3 (some a15) D55 h
              · have h := (if_neg c50).symm.trans h
                by_cases c56 : (dI D a15 0) = (17 : Int32)
                · have h := (if_pos c56).symm.trans h
                  refine v_tableIn (pc := 20) 229 O dX1_goThrough_20 (by rw [c56]; decide) (by rw [c56]; decide) (by rw [c56]; rfl) (by decide) ?_
                  refine v_aload_n (pc := 229) O dX1_goThrough_229 0 rfl ?_
                  refine v_aload (pc := 230) O dX1_goThrough_230 3 rfl ?_
                  refine v_iload_n (pc := 232) O dX1_goThrough_232 1 rfl ?_
                  refine v_iload_n (pc := 233) O dX1_goThrough_233 2 rfl ?_
                  rcases sb_some h with ⟨p57, D59, e58, rfl⟩ | ⟨p57, D59, e58, h⟩
                  · exact v_call1X (pc := 234) (a := 6) (As := [.ref (bo X + pp a15), .int x2, .int x3]) (rest := []) (e := p57) (D' := D59) O hz hT (c_X1_goOverWhile (n := n) (nu := nu) (c := c) (u := u) hT.2.1 hm hR e58 :) mw_X1_goOverWhile im_X1_goOverWhile se_X1_goOverWhile ml_X1_81 kq_6 (by decide) rfl rfl rfl (by omega) (by omega) (Nat.le_of_ble_eq_true rfl) dX1_goThrough_234 rfl
                  · refine v_call1 (pc := 234) (a := 6) (As := [.ref (bo X + pp a15), .int x2, .int x3]) (rest := []) (r := none) (D' := D59) O hz (c_X1_goOverWhile (n := n) (nu := nu) (c := c) (u := u) hT.2.1 hm hR e58 :) mw_X1_goOverWhile im_X1_goOverWhile se_X1_goOverWhile ml_X1_81 kq_6 (by decide) rfl rfl rfl (by omega) (by omega) (Nat.le_of_ble_eq_true rfl) dX1_goThrough_234 rfl rfl ?_
                    refine v_goto (pc := 237) 260 O dX1_goThrough_237 (by decide) ?_
                    refine v_sub [0, 1, 2, 3] rfl ?_
                    exact w_X1_goThrough_s_b260 O hm hn hz hT hR ih x2 x3 (some a15) D59 h
                · have h := (if_neg c56).symm.trans h
                  refine v_table (pc := 20) 240 O dX1_goThrough_20 (fun g1 g2 => by
                      have c18i := ne_i (2) rfl c18
                      have c24i := ne_i (4) rfl c24
                      have c35i := ne_i (13) rfl c35
                      have c44i := ne_i (14) rfl c44
                      have c50i := ne_i (16) rfl c50
                      have c56i := ne_i (17) rfl c56
                      rcases (show (dI D a15 0).toInt = 3 ∨ (dI D a15 0).toInt = 5 ∨ (dI D a15 0).toInt = 6 ∨ (dI D a15 0).toInt = 7 ∨ (dI D a15 0).toInt = 8 ∨ (dI D a15 0).toInt = 9 ∨ (dI D a15 0).toInt = 10 ∨ (dI D a15 0).toInt = 11 ∨ (dI D a15 0).toInt = 12 ∨ (dI D a15 0).toInt = 15 by omega) with e9 | e9 | e9 | e9 | e9 | e9 | e9 | e9 | e9 | e9 <;> (rw [e9]; exact ⟨_, rfl, by decide⟩)) (by decide) ?_
                  refine v_sub [0, 1, 2, 3] rfl ?_
                  exact w_X1_goThrough_s_b240 O hm hn hz hT hR ih x2 x3 (some a15) D h
def f_X1_goThrough_s (rec : Option Nat → Int32 → Int32 → Dat → Option (Sum Nat Unit × Dat)) (N : Nat) (nu : Nat) (K : Nat → Nat) (x1 : Option Nat) (x2 : Int32) (x3 : Int32) (D : Dat) : Option (Sum Nat Unit × Dat) :=
  if x3 < 48 then (f_X1_goThrough_s_b10 rec N nu K N x2 x3 x1 D) else (some (.inr (), D))
set_option maxHeartbeats 4000000 in
theorem w_X1_goThrough_s {X : Cx} {n nu c u : Nat} {K : Nat → Nat} {rec : Option Nat → Int32 → Int32 → Dat → Option (Sum Nat Unit × Dat)} {N : Nat} {fr lc : Nat} {z : Sum Nat Unit × Dat} (O : Ok X cX1_goThrough RX1 none (fr + 8) (lc + 146)) (hm : wlm (xw X) = true) (hn : xn X = 5) (hz : Z0 X (Ax nu K c u)) (hT : T1 X (zu z)) (hR : ∀ {n : Nat} {x1 : Option Nat} {x2 : Int32} {x3 : Int32} {D : Dat} {z : Sum Nat Unit × Dat}, rec x1 x2 x3 D = some z → C1 (xl X) (xw X) yX1_goThrough cX1_goThrough 5 none fr lc [.ref (wb (xw X) + pp 6), rv (wb (xw X)) x1, .int x2, .int x3] n (Ax nu K c u) D (zu z)) (x1 : Option Nat) (x2 : Int32) (x3 : Int32) (D : Dat) (h : f_X1_goThrough_s rec N nu K x1 x2 x3 D = some z) : V X (Q1 X n (Ax nu K c u) (zu z)) n (Ax nu K c u) D 0 [(0, .ref (bo X + pp 6)), (1, rv (bo X) x1), (2, .int x2), (3, .int x3)] [] := by
  unfold f_X1_goThrough_s at h
  refine v_iload_n (pc := 0) O dX1_goThrough_0 3 rfl ?_
  refine v_bipush (pc := 1) O dX1_goThrough_1 bp_48 ?_
  refine v_icmplt (pc := 3) 7 O dX1_goThrough_3 (by decide) (fun c60 => ?_) (fun c60 => ?_)
  · have h := (if_pos c60).symm.trans h
    refine v_aload_nr (pc := 7) O dX1_goThrough_7 1 rfl ?_
    refine v_astorer (pc := 8) (lv' := [(4, rv (bo X) x1), (0, .ref (bo X + pp 6)), (1, rv (bo X) x1), (2, .int x2), (3, .int x3)]) O dX1_goThrough_8 (by rw [hn]; decide) rfl ?_
    refine v_sub [1, 3, 4, 0] rfl ?_
    exact w_X1_goThrough_s_b10 O hm hn hz hT hR N x2 x3 x1 D h
  · have h := (if_neg c60).symm.trans h
    obtain rfl := Option.some.inj h
    exact v_r1 (v_ret (pc := 6) O hz dX1_goThrough_6)
theorem c_X1_goThrough_s {l : Launch} {w : Wx} {n nu c u : Nat} {K : Nat → Nat} {rec : Option Nat → Int32 → Int32 → Dat → Option (Sum Nat Unit × Dat)} {N : Nat} {fr lc : Nat} (hl : l.stackTraces = false) (hm : wlm w = true) (hR : ∀ {n : Nat} {x1 : Option Nat} {x2 : Int32} {x3 : Int32} {D : Dat} {z : Sum Nat Unit × Dat}, rec x1 x2 x3 D = some z → C1 l w yX1_goThrough cX1_goThrough 5 none fr lc [.ref (wb w + pp 6), rv (wb w) x1, .int x2, .int x3] n (Ax nu K c u) D (zu z)) {x1 : Option Nat} {x2 : Int32} {x3 : Int32} {D : Dat} {z : Sum Nat Unit × Dat} (h : f_X1_goThrough_s rec N nu K x1 x2 x3 D = some z) : C1 l w yX1_goThrough cX1_goThrough 5 none (fr + 8) (lc + 146) [.ref (wb w + pp 6), rv (wb w) x1, .int x2, .int x3] n (Ax nu K c u) D (zu z) :=
  C1.of hl (by decide) (by simp [lg_sl, rv_cat, cat_i, cat_l, cat_r, cat_n, fmt_cat]) (fun X e1 e2 e3 hz hT O => by
  subst e1
  subst e2
  have q : lv_args 0 [.ref (bo X + pp 6), rv (bo X) x1, .int x2, .int x3] = [(0, .ref (bo X + pp 6)), (1, rv (bo X) x1), (2, .int x2), (3, .int x3)] := by simp [lv_args, rv_cat, cat_i, cat_l, cat_r, cat_n, fmt_cat]
  show V X _ n _ D 0 (lv_args 0 [.ref (bo X + pp 6), rv (bo X) x1, .int x2, .int x3]) []
  rw [q]
  exact w_X1_goThrough_s O hm e3 hz hT hR x1 x2 x3 D h)
def f_X1_goThrough (N : Nat) (nu : Nat) (K : Nat → Nat) : Nat → Option Nat → Int32 → Int32 → Dat → Option (Sum Nat Unit × Dat)
  | 0, _, _, _, _ => none
  | d + 1, x1, x2, x3, D => f_X1_goThrough_s (f_X1_goThrough N nu K d) N nu K x1 x2 x3 D
theorem c_X1_goThrough {l : Launch} {w : Wx} {n nu c u : Nat} {K : Nat → Nat} {N : Nat} (hl : l.stackTraces = false) (hm : wlm w = true) : ∀ (d : Nat) {x1 : Option Nat} {x2 : Int32} {x3 : Int32} {D : Dat} {z : Sum Nat Unit × Dat} (h : f_X1_goThrough N nu K d x1 x2 x3 D = some z), C1 l w yX1_goThrough cX1_goThrough 5 none (8 * d) (146 * d) [.ref (wb w + pp 6), rv (wb w) x1, .int x2, .int x3] n (Ax nu K c u) D (zu z) := by
  intro d
  induction d generalizing n with
  | zero => intro x1 x2 x3 D z h; exact absurd h (by simp [f_X1_goThrough])
  | succ d ih =>
    intro x1 x2 x3 D z h
    rw [f_X1_goThrough] at h
    exact c_X1_goThrough_s (fr := 8 * d) (lc := 146 * d) hl hm (fun h => ih h) h
