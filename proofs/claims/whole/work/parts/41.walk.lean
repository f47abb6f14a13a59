theorem fl_X11_69 : Cond.fieldLink RX11 69 RX11 (TX11 6).2.1 (TX11 6).2.2.1 ∈ tb := tb_of 491 (by decide +kernel) (by decide +kernel)
theorem gf_X11_6 : FI 11 RX11 TX11 16 tyX11 6 3 := ⟨rfl, inb_X11, tyX11_ok, nmX11, by decide, by decide, rfl, rfl, rfl⟩
theorem lk_0_6 : lks 0 6 = some 189 := by decide +kernel
theorem bp_18 : (Int8.ofInt (18)).toInt32 = (18 : Int32) := by decide
theorem cw_X5_start : Cond.code yX5_start cX5_start 2 (some (.object "FlowChain$Statement")) ∈ tb := tb_of 1006 (by decide +kernel) (by decide +kernel)
theorem mw_X5_start : MW yX5_start cX5_start 2 (some (.object "FlowChain$Statement")) 1 := ⟨cw_X5_start, ini_X5, by decide +kernel⟩
theorem im_X5_start : Cond.instanceMethod yX5_start ∈ tb := tb_of 1005 (by decide +kernel) (by decide +kernel)
theorem se_X5_start : Cond.selects (yX5_start).cls yX5_start yX5_start ∈ tb := tb_of 24 (by decide +kernel) (by decide +kernel)
theorem ml_X5_165 : Cond.methodLink RX5 165 yX5_start ∈ tb := tb_of 1003 (by decide +kernel) (by decide +kernel)
theorem cw_X5_readProduct : Cond.code yX5_readProduct cX5_readProduct 3 none ∈ tb := tb_of 1086 (by decide +kernel) (by decide +kernel)
theorem mw_X5_readProduct : MW yX5_readProduct cX5_readProduct 3 none 0 := ⟨cw_X5_readProduct, ini_X5, by decide +kernel⟩
theorem im_X5_readProduct : Cond.instanceMethod yX5_readProduct ∈ tb := tb_of 1085 (by decide +kernel) (by decide +kernel)
theorem se_X5_readProduct : Cond.selects (yX5_readProduct).cls yX5_readProduct yX5_readProduct ∈ tb := tb_of 27 (by decide +kernel) (by decide +kernel)
theorem ml_X5_210 : Cond.methodLink RX5 210 yX5_readProduct ∈ tb := tb_of 1083 (by decide +kernel) (by decide +kernel)
theorem cw_X5_readSum : Cond.code yX5_readSum cX5_readSum 3 none ∈ tb := tb_of 1082 (by decide +kernel) (by decide +kernel)
theorem mw_X5_readSum : MW yX5_readSum cX5_readSum 3 none 0 := ⟨cw_X5_readSum, ini_X5, by decide +kernel⟩
theorem im_X5_readSum : Cond.instanceMethod yX5_readSum ∈ tb := tb_of 1081 (by decide +kernel) (by decide +kernel)
theorem se_X5_readSum : Cond.selects (yX5_readSum).cls yX5_readSum yX5_readSum ∈ tb := tb_of 26 (by decide +kernel) (by decide +kernel)
theorem ml_X5_204 : Cond.methodLink RX5 204 yX5_readSum ∈ tb := tb_of 1079 (by decide +kernel) (by decide +kernel)
theorem fl_X5_171 : Cond.fieldLink RX5 171 RX7 (TX7 5).2.1 (TX7 5).2.2.1 ∈ tb := tb_of 1039 (by decide +kernel) (by decide +kernel)
theorem cw_X10_goOver : Cond.code yX10_goOver cX10_goOver 2 none ∈ tb := tb_of 1636 (by decide +kernel) (by decide +kernel)
theorem mw_X10_goOver : MW yX10_goOver cX10_goOver 2 none 1 := ⟨cw_X10_goOver, ini_X10, by decide +kernel⟩
theorem im_X10_goOver : Cond.instanceMethod yX10_goOver ∈ tb := tb_of 1634 (by decide +kernel) (by decide +kernel)
theorem se_X10_goOver : Cond.selects (yX10_goOver).cls yX10_goOver yX10_goOver ∈ tb := tb_of 1635 (by decide +kernel) (by decide +kernel)
theorem ml_X11_265 : Cond.methodLink RX11 265 yX10_goOver ∈ tb := tb_of 1633 (by decide +kernel) (by decide +kernel)
theorem cw_X5_takeNewName : Cond.code yX5_takeNewName cX5_takeNewName 3 (some .int) ∈ tb := tb_of 938 (by decide +kernel) (by decide +kernel)
theorem mw_X5_takeNewName : MW yX5_takeNewName cX5_takeNewName 3 (some .int) 1 := ⟨cw_X5_takeNewName, ini_X5, by decide +kernel⟩
theorem im_X5_takeNewName : Cond.instanceMethod yX5_takeNewName ∈ tb := tb_of 937 (by decide +kernel) (by decide +kernel)
theorem se_X5_takeNewName : Cond.selects (yX5_takeNewName).cls yX5_takeNewName yX5_takeNewName ∈ tb := tb_of 13 (by decide +kernel) (by decide +kernel)
theorem ml_X5_88 : Cond.methodLink RX5 88 yX5_takeNewName ∈ tb := tb_of 935 (by decide +kernel) (by decide +kernel)
theorem cw_X5_take : Cond.code yX5_take cX5_take 2 none ∈ tb := tb_of 966 (by decide +kernel) (by decide +kernel)
theorem mw_X5_take : MW yX5_take cX5_take 2 none 1 := ⟨cw_X5_take, ini_X5, by decide +kernel⟩
theorem im_X5_take : Cond.instanceMethod yX5_take ∈ tb := tb_of 965 (by decide +kernel) (by decide +kernel)
theorem se_X5_take : Cond.selects (yX5_take).cls yX5_take yX5_take ∈ tb := tb_of 16 (by decide +kernel) (by decide +kernel)
theorem ml_X5_92 : Cond.methodLink RX5 92 yX5_take ∈ tb := tb_of 963 (by decide +kernel) (by decide +kernel)
theorem cw_X5_takeLabel : Cond.code yX5_takeLabel cX5_takeLabel 2 (some .int) ∈ tb := tb_of 970 (by decide +kernel) (by decide +kernel)
theorem mw_X5_takeLabel : MW yX5_takeLabel cX5_takeLabel 2 (some .int) 0 := ⟨cw_X5_takeLabel, ini_X5, by decide +kernel⟩
theorem im_X5_takeLabel : Cond.instanceMethod yX5_takeLabel ∈ tb := tb_of 969 (by decide +kernel) (by decide +kernel)
theorem se_X5_takeLabel : Cond.selects (yX5_takeLabel).cls yX5_takeLabel yX5_takeLabel ∈ tb := tb_of 17 (by decide +kernel) (by decide +kernel)
theorem ml_X5_96 : Cond.methodLink RX5 96 yX5_takeLabel ∈ tb := tb_of 967 (by decide +kernel) (by decide +kernel)
theorem cw_X4_setMark : Cond.code yX4_setMark cX4_setMark 3 none ∈ tb := tb_of 975 (by decide +kernel) (by decide +kernel)
theorem mw_X4_setMark : MW yX4_setMark cX4_setMark 3 none 2 := ⟨cw_X4_setMark, ini_X4, by decide +kernel⟩
theorem im_X4_setMark : Cond.instanceMethod yX4_setMark ∈ tb := tb_of 973 (by decide +kernel) (by decide +kernel)
theorem se_X4_setMark : Cond.selects (yX4_setMark).cls yX4_setMark yX4_setMark ∈ tb := tb_of 974 (by decide +kernel) (by decide +kernel)
theorem ml_X5_100 : Cond.methodLink RX5 100 yX4_setMark ∈ tb := tb_of 972 (by decide +kernel) (by decide +kernel)
theorem fl_X5_189 : Cond.fieldLink RX5 189 RX7 (TX7 2).2.1 (TX7 2).2.2.1 ∈ tb := tb_of 1026 (by decide +kernel) (by decide +kernel)
theorem pf_X7_2 : PI 7 RX7 TX7 10 tyX7 2 0 .int := ⟨gf_X7_2, rfl, rfl⟩
theorem fl_X5_192 : Cond.fieldLink RX5 192 RX7 (TX7 3).2.1 (TX7 3).2.2.1 ∈ tb := tb_of 1030 (by decide +kernel) (by decide +kernel)
theorem pf_X7_3 : PI 7 RX7 TX7 10 tyX7 3 0 .int := ⟨gf_X7_3, rfl, rfl⟩
def f_X5_readSum_b70 (rec : Sr → Dat → Option (Sum Nat Int32 × Sr × Dat)) (N : Nat) (nu : Nat) (S : Sr) (D : Dat) : Option (Sum Nat Unit × Sr × Dat) :=
  some (.inr (), S, D)
set_option maxHeartbeats 4000000 in
theorem w_X5_readSum_b70 {X : Cx} {nu : Nat} {rec : Sr → Dat → Option (Sum Nat Int32 × Sr × Dat)} {N : Nat} {fr lc : Nat} {z : Sum Nat Unit × Sr × Dat} (O : Ok X cX5_readSum RX5 none (fr + 10) (lc + 223)) (hm : wlm (xw X) = true) (hn : xn X = 3) (hT : T2 X) (hR : ∀ {S : Sr} {D : Dat} {z : Sum Nat Int32 × Sr × Dat}, rec  S D = some z → C2 (xl X) (xw X) yX5_readExpression cX5_readExpression 2 (some .int) fr lc [.ref (wb (xw X) + 3)] nu S D (ri z)) (S : Sr) (D : Dat) (h : f_X5_readSum_b70 rec N nu S D = some z) : V X (Q2 X nu (ru z)) S.1 (Az nu S) D 70 [] [] := by
  unfold f_X5_readSum_b70 at h
  obtain rfl := Option.some.inj h
  exact v_vret2 (pc := 70) O dX5_readSum_70
def f_X5_readSum_b46 (rec : Sr → Dat → Option (Sum Nat Int32 × Sr × Dat)) (N : Nat) (nu : Nat) (rec_6 : Int32 → Sr → Dat → Option (Sum Nat Unit × Sr × Dat)) (x1 : Int32) (s0 : Int32) (S : Sr) (D : Dat) : Option (Sum Nat Unit × Sr × Dat) :=
  (f_X5_advance N D).bind (fun p1 => sb2 (f_X5_readProduct rec N nu S p1) (fun p3 S5 D5 => ((dR D5 3 4)).bind (fun a6 => if a6 = 191 ∨ a6 = 196 then ((f_X4_add a6 s0 0 D5).bind (fun p9 => rec_6 (x1 + 1) S5 p9)) else none)))
set_option maxHeartbeats 4000000 in
theorem w_X5_readSum_b46 {X : Cx} {nu : Nat} {rec : Sr → Dat → Option (Sum Nat Int32 × Sr × Dat)} {N : Nat} {fr lc : Nat} {rec_6 : Int32 → Sr → Dat → Option (Sum Nat Unit × Sr × Dat)} {z : Sum Nat Unit × Sr × Dat} (O : Ok X cX5_readSum RX5 none (fr + 10) (lc + 223)) (hm : wlm (xw X) = true) (hn : xn X = 3) (hT : T2 X) (hR : ∀ {S : Sr} {D : Dat} {z : Sum Nat Int32 × Sr × Dat}, rec  S D = some z → C2 (xl X) (xw X) yX5_readExpression cX5_readExpression 2 (some .int) fr lc [.ref (wb (xw X) + 3)] nu S D (ri z)) (hrec_6 : ∀ (x1 : Int32) (S : Sr) (D : Dat), rec_6 x1 S D = some z → V X (Q2 X nu (ru z)) S.1 (Az nu S) D 6 [(0, .ref (bo X + 3)), (1, .int x1)] []) (x1 : Int32) (s0 : Int32) (S : Sr) (D : Dat) (h : f_X5_readSum_b46 rec N nu rec_6 x1 s0 S D = some z) : V X (Q2 X nu (ru z)) S.1 (Az nu S) D 46 [(0, .ref (bo X + 3)), (1, .int x1)] [.int s0] := by
  unfold f_X5_readSum_b46 at h
  refine v_istore_n (pc := 46) (lv' := [(2, .int s0), (0, .ref (bo X + 3)), (1, .int x1)]) O dX5_readSum_46 rfl (by rw [hn]; decide) rfl ?_
  refine v_aload_n (pc := 47) O dX5_readSum_47 1 rfl ?_
  obtain ⟨p1, e2, h⟩ := bind_some h
  refine v_callV (pc := 48) (a := 3) (As := []) (rest := []) (r := none) (D' := p1) O (bb2 hT) (c_X5_advance hm e2) mw_X5_advance im_X5_advance se_X5_advance ml_X5_57 kq_3 (by decide) rfl rfl rfl (by omega) (by omega) (Nat.le_of_ble_eq_true rfl) dX5_readSum_48 rfl rfl ?_
  refine v_aload_n (pc := 51) O dX5_readSum_51 1 rfl ?_
  rcases sb2_some h with ⟨p3, S5, D5, e4, rfl⟩ | ⟨p3, S5, D5, e4, h⟩
  · exact v_call2X (pc := 52) (a := 3) (As := []) (rest := []) (e := p3) (S' := S5) (D' := D5) O hT (c_X5_readProduct (nu := nu) hT.2.1 hm hR e4 :) mw_X5_readProduct im_X5_readProduct se_X5_readProduct ml_X5_210 kq_3 (by decide) rfl rfl rfl (by omega) (by omega) (Nat.le_of_ble_eq_true rfl) dX5_readSum_52 rfl
  · refine v_call2 (pc := 52) (a := 3) (As := []) (rest := []) (r := none) (S' := S5) (D' := D5) O hT (c_X5_readProduct (nu := nu) hT.2.1 hm hR e4 :) mw_X5_readProduct im_X5_readProduct se_X5_readProduct ml_X5_210 kq_3 (by decide) rfl rfl rfl (by omega) (by omega) (Nat.le_of_ble_eq_true rfl) dX5_readSum_52 rfl rfl ?_
    refine v_aload_n (pc := 55) O dX5_readSum_55 1 rfl ?_
    refine v_getR (pc := 56) (a := 3) O gf_X5_4 fl_X5_36 kq_3 dX5_readSum_56 ?_
    refine v_iload_n (pc := 59) O dX5_readSum_59 0 rfl ?_
    refine v_iconst (pc := 60) O dX5_readSum_60 ic_0 ?_
    obtain ⟨a6, e7, h⟩ := bind_some h
    rw [e7]
    obtain ⟨c8, h⟩ := if_none h
    obtain ⟨p9, e10, h⟩ := bind_some h
    refine v_callV (pc := 61) (a := a6) (As := [.int s0, .int 0]) (rest := []) (r := none) (D' := p9) O (bb2 hT) (c_X4_add hm c8 e10) mw_X4_add im_X4_add se_X4_add ml_X5_207 (kt_X4 c8) (by decide) rfl rfl rfl (by omega) (by omega) (Nat.le_of_ble_eq_true rfl) dX5_readSum_61 rfl rfl ?_
    refine v_iinc (pc := 64) (lv' := [(1, .int (x1 + 1)), (2, .int s0), (0, .ref (bo X + 3))]) O dX5_readSum_64 2 rfl (congrArg (fun q => x1 + q) ic_1) (by rw [hn]; decide) rfl ?_
    refine v_goto (pc := 67) 6 O dX5_readSum_67 (by decide) ?_
    refine v_sub [2, 0] rfl ?_
    exact hrec_6 (x1 + 1) S5 p9 h
def f_X5_readSum_b31 (rec : Sr → Dat → Option (Sum Nat Int32 × Sr × Dat)) (N : Nat) (nu : Nat) (rec_6 : Int32 → Sr → Dat → Option (Sum Nat Unit × Sr × Dat)) (x1 : Int32) (S : Sr) (D : Dat) : Option (Sum Nat Unit × Sr × Dat) :=
  if (dI D 3 6) = 43 then (f_X5_readSum_b46 rec N nu rec_6 x1 5 S D) else (f_X5_readSum_b46 rec N nu rec_6 x1 6 S D)
set_option maxHeartbeats 4000000 in
theorem w_X5_readSum_b31 {X : Cx} {nu : Nat} {rec : Sr → Dat → Option (Sum Nat Int32 × Sr × Dat)} {N : Nat} {fr lc : Nat} {rec_6 : Int32 → Sr → Dat → Option (Sum Nat Unit × Sr × Dat)} {z : Sum Nat Unit × Sr × Dat} (O : Ok X cX5_readSum RX5 none (fr + 10) (lc + 223)) (hm : wlm (xw X) = true) (hn : xn X = 3) (hT : T2 X) (hR : ∀ {S : Sr} {D : Dat} {z : Sum Nat Int32 × Sr × Dat}, rec  S D = some z → C2 (xl X) (xw X) yX5_readExpression cX5_readExpression 2 (some .int) fr lc [.ref (wb (xw X) + 3)] nu S D (ri z)) (hrec_6 : ∀ (x1 : Int32) (S : Sr) (D : Dat), rec_6 x1 S D = some z → V X (Q2 X nu (ru z)) S.1 (Az nu S) D 6 [(0, .ref (bo X + 3)), (1, .int x1)] []) (x1 : Int32) (S : Sr) (D : Dat) (h : f_X5_readSum_b31 rec N nu rec_6 x1 S D = some z) : V X (Q2 X nu (ru z)) S.1 (Az nu S) D 31 [(0, .ref (bo X + 3)), (1, .int x1)] [] := by
  unfold f_X5_readSum_b31 at h
  refine v_aload_n (pc := 31) O dX5_readSum_31 0 rfl ?_
  refine v_getI (pc := 32) (a := 3) O gf_X5_6 fl_X5_120 kq_3 dX5_readSum_32 ?_
  refine v_bipush (pc := 35) O dX5_readSum_35 bp_43 ?_
  refine v_icmpne (pc := 37) 44 O dX5_readSum_37 (by decide) (fun c11 => ?_) (fun c11 => ?_)
  · have h := (if_neg c11).symm.trans h
    refine v_bipush (pc := 44) O dX5_readSum_44 bp_6 ?_
    refine v_sub [0, 1] rfl ?_
    exact w_X5_readSum_b46 O hm hn hT hR hrec_6 x1 6 S D h
  · have h := (if_pos c11).symm.trans h
    refine v_iconst (pc := 40) O dX5_readSum_40 ic_5 ?_
    refine v_goto (pc := 41) 46 O dX5_readSum_41 (by decide) ?_
    refine v_sub [0, 1] rfl ?_
    exact w_X5_readSum_b46 O hm hn hT hR hrec_6 x1 5 S D h
def f_X5_readSum_b6 (rec : Sr → Dat → Option (Sum Nat Int32 × Sr × Dat)) (N : Nat) (nu : Nat) : Nat → Int32 → Sr → Dat → Option (Sum Nat Unit × Sr × Dat)
  | 0, _, _, _ => none
  | g + 1, x1, S, D => if 240 ≤ x1 then (f_X5_readSum_b70 rec N nu S D) else (if (dI D 3 6) = 43 then (f_X5_readSum_b31 rec N nu (f_X5_readSum_b6 rec N nu g) x1 S D) else (if (dI D 3 6) = 45 then (f_X5_readSum_b31 rec N nu (f_X5_readSum_b6 rec N nu g) x1 S D) else (f_X5_readSum_b70 rec N nu S D)))
set_option maxHeartbeats 4000000 in
theorem w_X5_readSum_b6 {X : Cx} {nu : Nat} {rec : Sr → Dat → Option (Sum Nat Int32 × Sr × Dat)} {N : Nat} {fr lc : Nat} {z : Sum Nat Unit × Sr × Dat} (O : Ok X cX5_readSum RX5 none (fr + 10) (lc + 223)) (hm : wlm (xw X) = true) (hn : xn X = 3) (hT : T2 X) (hR : ∀ {S : Sr} {D : Dat} {z : Sum Nat Int32 × Sr × Dat}, rec  S D = some z → C2 (xl X) (xw X) yX5_readExpression cX5_readExpression 2 (some .int) fr lc [.ref (wb (xw X) + 3)] nu S D (ri z)) : ∀ (g : Nat) (x1 : Int32) (S : Sr) (D : Dat), f_X5_readSum_b6 rec N nu g x1 S D = some z → V X (Q2 X nu (ru z)) S.1 (Az nu S) D 6 [(0, .ref (bo X + 3)), (1, .int x1)] [] := by
  intro g
  induction g with
  | zero => intro x1 S D h; exact absurd h (by simp [f_X5_readSum_b6])
  | succ g ih =>
    intro x1 S D h
    rw [f_X5_readSum_b6] at h
    refine v_iload_n (pc := 6) O dX5_readSum_6 1 rfl ?_
    refine v_sipush (pc := 7) O dX5_readSum_7 sp_240 ?_
    refine v_icmpge (pc := 10) 70 O dX5_readSum_10 (by decide) (fun c12 => ?_) (fun c12 => ?_)
    · have h := (if_pos c12).symm.trans h
      refine v_sub [] rfl ?_
      exact w_X5_readSum_b70 O hm hn hT hR S D h
    · have h := (if_neg c12).symm.trans h
      refine v_aload_n (pc := 13) O dX5_readSum_13 0 rfl ?_
      refine v_getI (pc := 14) (a := 3) O gf_X5_6 fl_X5_120 kq_3 dX5_readSum_14 ?_
      refine v_bipush (pc := 17) O dX5_readSum_17 bp_43 ?_
      refine v_icmpeq (pc := 19) 31 O dX5_readSum_19 (by decide) (fun c13 => ?_) (fun c13 => ?_)
      · have h := (if_pos c13).symm.trans h
        refine v_sub [0, 1] rfl ?_
        exact w_X5_readSum_b31 O hm hn hT hR ih x1 S D h
      · have h := (if_neg c13).symm.trans h
        refine v_aload_n (pc := 22) O dX5_readSum_22 0 rfl ?_
        refine v_getI (pc := 23) (a := 3) O gf_X5_6 fl_X5_120 kq_3 dX5_readSum_23 ?_
        refine v_bipush (pc := 26) O dX5_readSum_26 bp_45 ?_
        refine v_icmpne (pc := 28) 70 O dX5_readSum_28 (by decide) (fun c14 => ?_) (fun c14 => ?_)
        · have h := (if_neg c14).symm.trans h
          refine v_sub [] rfl ?_
          exact w_X5_readSum_b70 O hm hn hT hR S D h
        · have h := (if_pos c14).symm.trans h
          refine v_sub [0, 1] rfl ?_
          exact w_X5_readSum_b31 O hm hn hT hR ih x1 S D h
def f_X5_readSum (rec : Sr → Dat → Option (Sum Nat Int32 × Sr × Dat)) (N : Nat) (nu : Nat) (S : Sr) (D : Dat) : Option (Sum Nat Unit × Sr × Dat) :=
  sb2 (f_X5_readProduct rec N nu S D) (fun p15 S17 D17 => f_X5_readSum_b6 rec N nu N 0 S17 D17)
set_option maxHeartbeats 4000000 in
theorem w_X5_readSum {X : Cx} {nu : Nat} {rec : Sr → Dat → Option (Sum Nat Int32 × Sr × Dat)} {N : Nat} {fr lc : Nat} {z : Sum Nat Unit × Sr × Dat} (O : Ok X cX5_readSum RX5 none (fr + 10) (lc + 223)) (hm : wlm (xw X) = true) (hn : xn X = 3) (hT : T2 X) (hR : ∀ {S : Sr} {D : Dat} {z : Sum Nat Int32 × Sr × Dat}, rec  S D = some z → C2 (xl X) (xw X) yX5_readExpression cX5_readExpression 2 (some .int) fr lc [.ref (wb (xw X) + 3)] nu S D (ri z)) (S : Sr) (D : Dat) (h : f_X5_readSum rec N nu S D = some z) : V X (Q2 X nu (ru z)) S.1 (Az nu S) D 0 [(0, .ref (bo X + 3))] [] := by
  unfold f_X5_readSum at h
  refine v_aload_n (pc := 0) O dX5_readSum_0 0 rfl ?_
  rcases sb2_some h with ⟨p15, S17, D17, e16, rfl⟩ | ⟨p15, S17, D17, e16, h⟩
  · exact v_call2X (pc := 1) (a := 3) (As := []) (rest := []) (e := p15) (S' := S17) (D' := D17) O hT (c_X5_readProduct (nu := nu) hT.2.1 hm hR e16 :) mw_X5_readProduct im_X5_readProduct se_X5_readProduct ml_X5_210 kq_3 (by decide) rfl rfl rfl (by omega) (by omega) (Nat.le_of_ble_eq_true rfl) dX5_readSum_1 rfl
  · refine v_call2 (pc := 1) (a := 3) (As := []) (rest := []) (r := none) (S' := S17) (D' := D17) O hT (c_X5_readProduct (nu := nu) hT.2.1 hm hR e16 :) mw_X5_readProduct im_X5_readProduct se_X5_readProduct ml_X5_210 kq_3 (by decide) rfl rfl rfl (by omega) (by omega) (Nat.le_of_ble_eq_true rfl) dX5_readSum_1 rfl rfl ?_
    refine v_iconst (pc := 4) O dX5_readSum_4 ic_0 ?_
    refine v_istore_n (pc := 5) (lv' := [(1, .int 0), (0, .ref (bo X + 3))]) O dX5_readSum_5 rfl (by rw [hn]; decide) rfl ?_
    refine v_sub [1, 0] rfl ?_
    exact w_X5_readSum_b6 O hm hn hT hR N 0 S17 D17 h
theorem c_X5_readSum {l : Launch} {w : Wx} {nu : Nat} {rec : Sr → Dat → Option (Sum Nat Int32 × Sr × Dat)} {N : Nat} {fr lc : Nat} (hl : l.stackTraces = false) (hm : wlm w = true) (hR : ∀ {S : Sr} {D : Dat} {z : Sum Nat Int32 × Sr × Dat}, rec  S D = some z → C2 l w yX5_readExpression cX5_readExpression 2 (some .int) fr lc [.ref (wb w + 3)] nu S D (ri z)) {S : Sr} {D : Dat} {z : Sum Nat Unit × Sr × Dat} (h : f_X5_readSum rec N nu S D = some z) : C2 l w yX5_readSum cX5_readSum 3 none (fr + 10) (lc + 223) [.ref (wb w + 3)] nu S D (ru z) :=
  C2.of hl (by decide) (Nat.le_of_ble_eq_true rfl) (fun X e1 e2 e3 hT O _ _ => by
  subst e1
  subst e2
  exact w_X5_readSum O hm e3 hT hR  S D h)
def f_X5_readExpression_s_b56 (rec : Sr → Dat → Option (Sum Nat Int32 × Sr × Dat)) (N : Nat) (nu : Nat) (S : Sr) (D : Dat) : Option (Sum Nat Int32 × Sr × Dat) :=
  ((dR D 3 4)).bind (fun a1 => if a1 = 191 ∨ a1 = 196 then ((f_X4_size a1 D).bind (fun p4 => some (.inr p4.1, S, p4.2))) else none)
set_option maxHeartbeats 4000000 in
theorem w_X5_readExpression_s_b56 {X : Cx} {nu : Nat} {rec : Sr → Dat → Option (Sum Nat Int32 × Sr × Dat)} {N : Nat} {fr lc : Nat} {z : Sum Nat Int32 × Sr × Dat} (O : Ok X cX5_readExpression RX5 (some .int) (fr + 11) (lc + 245)) (hm : wlm (xw X) = true) (hn : xn X = 2) (hT : T2 X) (hR : ∀ {S : Sr} {D : Dat} {z : Sum Nat Int32 × Sr × Dat}, rec  S D = some z → C2 (xl X) (xw X) yX5_readExpression cX5_readExpression 2 (some .int) fr lc [.ref (wb (xw X) + 3)] nu S D (ri z)) (S : Sr) (D : Dat) (h : f_X5_readExpression_s_b56 rec N nu S D = some z) : V X (Q2 X nu (ri z)) S.1 (Az nu S) D 56 [(0, .ref (bo X + 3))] [] := by
  unfold f_X5_readExpression_s_b56 at h
  refine v_aload_n (pc := 56) O dX5_readExpression_56 0 rfl ?_
  refine v_getR (pc := 57) (a := 3) O gf_X5_4 fl_X5_36 kq_3 dX5_readExpression_57 ?_
  obtain ⟨a1, e2, h⟩ := bind_some h
  rw [e2]
  obtain ⟨c3, h⟩ := if_none h
  obtain ⟨p4, e5, h⟩ := bind_some h
  refine v_callV (pc := 60) (a := a1) (As := []) (rest := []) (r := (some (.int p4.1))) (D' := p4.2) O (bb2 hT) (c_X4_size hm c3 e5) mw_X4_size im_X4_size se_X4_size ml_X5_198 (kt_X4 c3) (by decide) rfl rfl rfl (by omega) (by omega) (Nat.le_of_ble_eq_true rfl) dX5_readExpression_60 rfl rfl ?_
  obtain rfl := Option.some.inj h
  exact v_iret2 (pc := 63) O dX5_readExpression_63
def f_X5_readExpression_s_b33 (rec : Sr → Dat → Option (Sum Nat Int32 × Sr × Dat)) (N : Nat) (nu : Nat) (s0 : Int32) (S : Sr) (D : Dat) : Option (Sum Nat Int32 × Sr × Dat) :=
  if s0 = (-1) then (f_X5_readExpression_s_b56 rec N nu S D) else ((f_X5_advance N D).bind (fun p7 => sb2 (f_X5_readSum rec N nu S p7) (fun p9 S11 D11 => ((dR D11 3 4)).bind (fun a12 => if a12 = 191 ∨ a12 = 196 then ((f_X4_add a12 s0 0 D11).bind (fun p15 => f_X5_readExpression_s_b56 rec N nu S11 p15)) else none))))
set_option maxHeartbeats 4000000 in
theorem w_X5_readExpression_s_b33 {X : Cx} {nu : Nat} {rec : Sr → Dat → Option (Sum Nat Int32 × Sr × Dat)} {N : Nat} {fr lc : Nat} {z : Sum Nat Int32 × Sr × Dat} (O : Ok X cX5_readExpression RX5 (some .int) (fr + 11) (lc + 245)) (hm : wlm (xw X) = true) (hn : xn X = 2) (hT : T2 X) (hR : ∀ {S : Sr} {D : Dat} {z : Sum Nat Int32 × Sr × Dat}, rec  S D = some z → C2 (xl X) (xw X) yX5_readExpression cX5_readExpression 2 (some .int) fr lc [.ref (wb (xw X) + 3)] nu S D (ri z)) (s0 : Int32) (S : Sr) (D : Dat) (h : f_X5_readExpression_s_b33 rec N nu s0 S D = some z) : V X (Q2 X nu (ri z)) S.1 (Az nu S) D 33 [(0, .ref (bo X + 3))] [.int s0] := by
  unfold f_X5_readExpression_s_b33 at h
  refine v_istore_n (pc := 33) (lv' := [(1, .int s0), (0, .ref (bo X + 3))]) O dX5_readExpression_33 rfl (by rw [hn]; decide) rfl ?_
  refine v_iload_n (pc := 34) O dX5_readExpression_34 0 rfl ?_
  refine v_iconst (pc := 35) O dX5_readExpression_35 ic_m1 ?_
  refine v_icmpeq (pc := 36) 56 O dX5_readExpression_36 (by decide) (fun c6 => ?_) (fun c6 => ?_)
  · have h := (if_pos c6).symm.trans h
    refine v_sub [1] rfl ?_
    exact w_X5_readExpression_s_b56 O hm hn hT hR S D h
  · have h := (if_neg c6).symm.trans h
    refine v_aload_n (pc := 39) O dX5_readExpression_39 1 rfl ?_
    obtain ⟨p7, e8, h⟩ := bind_some h
    refine v_callV (pc := 40) (a := 3) (As := []) (rest := []) (r := none) (D' := p7) O (bb2 hT) (c_X5_advance hm e8) mw_X5_advance im_X5_advance se_X5_advance ml_X5_57 kq_3 (by decide) rfl rfl rfl (by omega) (by omega) (Nat.le_of_ble_eq_true rfl) dX5_readExpression_40 rfl rfl ?_
    refine v_aload_n (pc := 43) O dX5_readExpression_43 1 rfl ?_
    rcases sb2_some h with ⟨p9, S11, D11, e10, rfl⟩ | ⟨p9, S11, D11, e10, h⟩
    · exact v_call2X (pc := 44) (a := 3) (As := []) (rest := []) (e := p9) (S' := S11) (D' := D11) O hT (c_X5_readSum (nu := nu) hT.2.1 hm hR e10 :) mw_X5_readSum im_X5_readSum se_X5_readSum ml_X5_204 kq_3 (by decide) rfl rfl rfl (by omega) (by omega) (Nat.le_of_ble_eq_true rfl) dX5_readExpression_44 rfl
    · refine v_call2 (pc := 44) (a := 3) (As := []) (rest := []) (r := none) (S' := S11) (D' := D11) O hT (c_X5_readSum (nu := nu) hT.2.1 hm hR e10 :) mw_X5_readSum im_X5_readSum se_X5_readSum ml_X5_204 kq_3 (by decide) rfl rfl rfl (by omega) (by omega) (Nat.le_of_ble_eq_true rfl) dX5_readExpression_44 rfl rfl ?_
      refine v_aload_n (pc := 47) O dX5_readExpression_47 1 rfl ?_
      refine v_getR (pc := 48) (a := 3) O gf_X5_4 fl_X5_36 kq_3 dX5_readExpression_48 ?_
      refine v_iload_n (pc := 51) O dX5_readExpression_51 0 rfl ?_
      refine v_iconst (pc := 52) O dX5_readExpression_52 ic_0 ?_
      obtain ⟨a12, e13, h⟩ := bind_some h
      rw [e13]
      obtain ⟨c14, h⟩ := if_none h
      obtain ⟨p15, e16, h⟩ := bind_some h
      refine v_callV (pc := 53) (a := a12) (As := [.int s0, .int 0]) (rest := []) (r := none) (D' := p15) O (bb2 hT) (c_X4_add hm c14 e16) mw_X4_add im_X4_add se_X4_add ml_X5_207 (kt_X4 c14) (by decide) rfl rfl rfl (by omega) (by omega) (Nat.le_of_ble_eq_true rfl) dX5_readExpression_53 rfl rfl ?_
      refine v_sub [1] rfl ?_
      exact w_X5_readExpression_s_b56 O hm hn hT hR S11 p15 h
def f_X5_readExpression_s (rec : Sr → Dat → Option (Sum Nat Int32 × Sr × Dat)) (N : Nat) (nu : Nat) (S : Sr) (D : Dat) : Option (Sum Nat Int32 × Sr × Dat) :=
  sb2 (f_X5_readSum rec N nu S D) (fun p17 S19 D19 => if (dI D19 3 6) = 60 then (f_X5_readExpression_s_b33 rec N nu 9 S19 D19) else (if (dI D19 3 6) = 61 then (f_X5_readExpression_s_b33 rec N nu 10 S19 D19) else (f_X5_readExpression_s_b33 rec N nu (-1) S19 D19)))
set_option maxHeartbeats 4000000 in
theorem w_X5_readExpression_s {X : Cx} {nu : Nat} {rec : Sr → Dat → Option (Sum Nat Int32 × Sr × Dat)} {N : Nat} {fr lc : Nat} {z : Sum Nat Int32 × Sr × Dat} (O : Ok X cX5_readExpression RX5 (some .int) (fr + 11) (lc + 245)) (hm : wlm (xw X) = true) (hn : xn X = 2) (hT : T2 X) (hR : ∀ {S : Sr} {D : Dat} {z : Sum Nat Int32 × Sr × Dat}, rec  S D = some z → C2 (xl X) (xw X) yX5_readExpression cX5_readExpression 2 (some .int) fr lc [.ref (wb (xw X) + 3)] nu S D (ri z)) (S : Sr) (D : Dat) (h : f_X5_readExpression_s rec N nu S D = some z) : V X (Q2 X nu (ri z)) S.1 (Az nu S) D 0 [(0, .ref (bo X + 3))] [] := by
  unfold f_X5_readExpression_s at h
  refine v_aload_n (pc := 0) O dX5_readExpression_0 0 rfl ?_
  rcases sb2_some h with ⟨p17, S19, D19, e18, rfl⟩ | ⟨p17, S19, D19, e18, h⟩
  · exact v_call2X (pc := 1) (a := 3) (As := []) (rest := []) (e := p17) (S' := S19) (D' := D19) O hT (c_X5_readSum (nu := nu) hT.2.1 hm hR e18 :) mw_X5_readSum im_X5_readSum se_X5_readSum ml_X5_204 kq_3 (by decide) rfl rfl rfl (by omega) (by omega) (Nat.le_of_ble_eq_true rfl) dX5_readExpression_1 rfl
  · refine v_call2 (pc := 1) (a := 3) (As := []) (rest := []) (r := none) (S' := S19) (D' := D19) O hT (c_X5_readSum (nu := nu) hT.2.1 hm hR e18 :) mw_X5_readSum im_X5_readSum se_X5_readSum ml_X5_204 kq_3 (by decide) rfl rfl rfl (by omega) (by omega) (Nat.le_of_ble_eq_true rfl) dX5_readExpression_1 rfl rfl ?_
    refine v_aload_n (pc := 4) O dX5_readExpression_4 0 rfl ?_
    refine v_getI (pc := 5) (a := 3) O gf_X5_6 fl_X5_120 kq_3 dX5_readExpression_5 ?_
    refine v_bipush (pc := 8) O dX5_readExpression_8 bp_60 ?_
    refine v_icmpne (pc := 10) 18 O dX5_readExpression_10 (by decide) (fun c20 => ?_) (fun c20 => ?_)
    · have h := (if_neg c20).symm.trans h
      refine v_aload_n (pc := 18) O dX5_readExpression_18 0 rfl ?_
      refine v_getI (pc := 19) (a := 3) O gf_X5_6 fl_X5_120 kq_3 dX5_readExpression_19 ?_
      refine v_bipush (pc := 22) O dX5_readExpression_22 bp_61 ?_
      refine v_icmpne (pc := 24) 32 O dX5_readExpression_24 (by decide) (fun c21 => ?_) (fun c21 => ?_)
      · have h := (if_neg c21).symm.trans h
        refine v_iconst (pc := 32) O dX5_readExpression_32 ic_m1 ?_
        refine v_sub [0] rfl ?_
        exact w_X5_readExpression_s_b33 O hm hn hT hR (-1) S19 D19 h
      · have h := (if_pos c21).symm.trans h
        refine v_bipush (pc := 27) O dX5_readExpression_27 bp_10 ?_
        refine v_goto (pc := 29) 33 O dX5_readExpression_29 (by decide) ?_
        refine v_sub [0] rfl ?_
        exact w_X5_readExpression_s_b33 O hm hn hT hR 10 S19 D19 h
    · have h := (if_pos c20).symm.trans h
      refine v_bipush (pc := 13) O dX5_readExpression_13 bp_9 ?_
      refine v_goto (pc := 15) 33 O dX5_readExpression_15 (by decide) ?_
      refine v_sub [0] rfl ?_
      exact w_X5_readExpression_s_b33 O hm hn hT hR 9 S19 D19 h
theorem c_X5_readExpression_s {l : Launch} {w : Wx} {nu : Nat} {rec : Sr → Dat → Option (Sum Nat Int32 × Sr × Dat)} {N : Nat} {fr lc : Nat} (hl : l.stackTraces = false) (hm : wlm w = true) (hR : ∀ {S : Sr} {D : Dat} {z : Sum Nat Int32 × Sr × Dat}, rec  S D = some z → C2 l w yX5_readExpression cX5_readExpression 2 (some .int) fr lc [.ref (wb w + 3)] nu S D (ri z)) {S : Sr} {D : Dat} {z : Sum Nat Int32 × Sr × Dat} (h : f_X5_readExpression_s rec N nu S D = some z) : C2 l w yX5_readExpression cX5_readExpression 2 (some .int) (fr + 11) (lc + 245) [.ref (wb w + 3)] nu S D (ri z) :=
  C2.of hl (by decide) (Nat.le_of_ble_eq_true rfl) (fun X e1 e2 e3 hT O _ _ => by
  subst e1
  subst e2
  exact w_X5_readExpression_s O hm e3 hT hR  S D h)
def f_X5_readExpression (N : Nat) (nu : Nat) : Nat → Sr → Dat → Option (Sum Nat Int32 × Sr × Dat)
  | 0, _, _ => none
  | d + 1, S, D => f_X5_readExpression_s (f_X5_readExpression N nu d) N nu S D
theorem c_X5_readExpression {l : Launch} {w : Wx} {nu : Nat} {N : Nat} (hl : l.stackTraces = false) (hm : wlm w = true) : ∀ (d : Nat) {S : Sr} {D : Dat} {z : Sum Nat Int32 × Sr × Dat} (h : f_X5_readExpression N nu d S D = some z), C2 l w yX5_readExpression cX5_readExpression 2 (some .int) (11 * d) (245 * d) [.ref (wb w + 3)] nu S D (ri z) := by
  intro d
  induction d with
  | zero => intro  S D z h; exact absurd h (by simp [f_X5_readExpression])
  | succ d ih =>
    intro  S D z h
    rw [f_X5_readExpression] at h
    exact c_X5_readExpression_s (fr := 11 * d) (lc := 245 * d) hl hm (fun h => ih h) h
def f_X11_walk_b12 (N : Nat) (nu : Nat) (K : Nat → Nat) (D : Dat) : Option (Sum Nat Int32 × Dat) :=
  some (.inl 0, D)
set_option maxHeartbeats 4000000 in
theorem w_X11_walk_b12 {X : Cx} {n nu c u : Nat} {K : Nat → Nat} {N : Nat} {z : Sum Nat Int32 × Dat} (O : Ok X cX11_walk RX11 (some .int) 352 7694) (hm : wlm (xw X) = true) (hn : xn X = 2) (hz : Z0 X (Ax nu K c u)) (hT : T1 X (zi z)) (D : Dat) (h : f_X11_walk_b12 N nu K D = some z) : V X (Q1 X n (Ax nu K c u) (zi z)) n (Ax nu K c u) D 12 [] [] := by
  unfold f_X11_walk_b12 at h
  obtain rfl := Option.some.inj h
  exact v_throw (pc := 12) (e := 0) O hz hT rfl tw_X11_114_116 (by decide) (Nat.le_of_ble_eq_true rfl) dX11_walk_12 dX11_walk_15 dX11_walk_16 dX11_walk_19
def f_X11_walk (N : Nat) (nu : Nat) (K : Nat → Nat) (x1 : Int32) (D : Dat) : Option (Sum Nat Int32 × Dat) :=
  if x1 < 1 then (f_X11_walk_b12 N nu K D) else (if x1 ≤ 600 then (if (dI D 0 12) = 0 then (some (.inl 2, D)) else ((f_X3_start N nu K x1 D).bind (fun p4 => (f_X10_goOver N nu K (dR p4 0 8) p4).bind (fun p6 => (f_X3_ending p6).bind (fun p8 => some (.inr p8.1, p8.2)))))) else (f_X11_walk_b12 N nu K D))
set_option maxHeartbeats 4000000 in
theorem w_X11_walk {X : Cx} {n nu c u : Nat} {K : Nat → Nat} {N : Nat} {z : Sum Nat Int32 × Dat} (O : Ok X cX11_walk RX11 (some .int) 352 7694) (hm : wlm (xw X) = true) (hn : xn X = 2) (hz : Z0 X (Ax nu K c u)) (hT : T1 X (zi z)) (x1 : Int32) (D : Dat) (h : f_X11_walk N nu K x1 D = some z) : V X (Q1 X n (Ax nu K c u) (zi z)) n (Ax nu K c u) D 0 [(0, .ref (bo X + 0)), (1, .int x1)] [] := by
  unfold f_X11_walk at h
  refine v_iload_n (pc := 0) O dX11_walk_0 1 rfl ?_
  refine v_iconst (pc := 1) O dX11_walk_1 ic_1 ?_
  refine v_icmplt (pc := 2) 12 O dX11_walk_2 (by decide) (fun c1 => ?_) (fun c1 => ?_)
  · have h := (if_pos c1).symm.trans h
    refine v_sub [] rfl ?_
    exact w_X11_walk_b12 O hm hn hz hT D h
  · have h := (if_neg c1).symm.trans h
    refine v_iload_n (pc := 5) O dX11_walk_5 1 rfl ?_
    refine v_sipush (pc := 6) O dX11_walk_6 sp_600 ?_
    refine v_icmple (pc := 9) 20 O dX11_walk_9 (by decide) (fun c2 => ?_) (fun c2 => ?_)
    · have h := (if_pos c2).symm.trans h
      refine v_aload_n (pc := 20) O dX11_walk_20 0 rfl ?_
      refine v_getI (pc := 21) (a := 0) O gf_X11_12 fl_X11_262 kq_0 dX11_walk_21 ?_
      refine v_ifne (pc := 24) 35 O dX11_walk_24 (by decide) (fun c3 => ?_) (fun c3 => ?_)
      · have h := (if_neg c3).symm.trans h
        refine v_aload_n (pc := 35) O dX11_walk_35 0 rfl ?_
        refine v_getK (pc := 36) (a := 0) O hm gf_X11_5 fl_X11_60 kq_0 lk_0_5 dX11_walk_36 ?_
        refine v_iload_n (pc := 39) O dX11_walk_39 1 rfl ?_
        obtain ⟨p4, e5, h⟩ := bind_some h
        refine v_callV (pc := 40) (a := 181) (As := [.int x1]) (rest := []) (r := none) (D' := p4) O (bb0 hz) (c_X3_start hm e5) mw_X3_start im_X3_start se_X3_start ml_X11_252 kq_181 (by decide) rfl rfl rfl (by decide) (by decide) (Nat.le_of_ble_eq_true rfl) dX11_walk_40 rfl rfl ?_
        refine v_aload_n (pc := 43) O dX11_walk_43 0 rfl ?_
        refine v_getK (pc := 44) (a := 0) O hm gf_X11_6 fl_X11_69 kq_0 lk_0_6 dX11_walk_44 ?_
        refine v_aload_n (pc := 47) O dX11_walk_47 0 rfl ?_
        refine v_getR (pc := 48) (a := 0) O gf_X11_8 fl_X11_86 kq_0 dX11_walk_48 ?_
        obtain ⟨p6, e7, h⟩ := bind_some h
        refine v_callV (pc := 51) (a := 189) (As := [rv (bo X) (dR p4 0 8)]) (rest := []) (r := none) (D' := p6) O (bb0 hz) (c_X10_goOver hm e7) mw_X10_goOver im_X10_goOver se_X10_goOver ml_X11_265 kq_189 (by decide) rfl rfl rfl (by decide) (by decide) (Nat.le_of_ble_eq_true rfl) dX11_walk_51 rfl rfl ?_
        refine v_aload_n (pc := 54) O dX11_walk_54 0 rfl ?_
        refine v_getK (pc := 55) (a := 0) O hm gf_X11_5 fl_X11_60 kq_0 lk_0_5 dX11_walk_55 ?_
        obtain ⟨p8, e9, h⟩ := bind_some h
        refine v_callV (pc := 58) (a := 181) (As := []) (rest := []) (r := (some (.int p8.1))) (D' := p8.2) O (bb0 hz) (c_X3_ending hm e9) mw_X3_ending im_X3_ending se_X3_ending ml_X11_259 kq_181 (by decide) rfl rfl rfl (by decide) (by decide) (Nat.le_of_ble_eq_true rfl) dX11_walk_58 rfl rfl ?_
        obtain rfl := Option.some.inj h
        exact v_r1 (v_iret (pc := 61) O hz dX11_walk_61)
      · have h := (if_pos c3).symm.trans h
        obtain rfl := Option.some.inj h
        exact v_throw (pc := 27) (e := 2) O hz hT rfl tw_X11_138_140 (by decide) (Nat.le_of_ble_eq_true rfl) dX11_walk_27 dX11_walk_30 dX11_walk_31 dX11_walk_34
    · have h := (if_neg c2).symm.trans h
      refine v_sub [] rfl ?_
      exact w_X11_walk_b12 O hm hn hz hT D h
theorem c_X11_walk {l : Launch} {w : Wx} {n nu c u : Nat} {K : Nat → Nat} {N : Nat} (hl : l.stackTraces = false) (hm : wlm w = true) {x1 : Int32} {D : Dat} {z : Sum Nat Int32 × Dat} (h : f_X11_walk N nu K x1 D = some z) : C1 l w yX11_walk cX11_walk 2 (some .int) 352 7694 [.ref (wb w + 0), .int x1] n (Ax nu K c u) D (zi z) :=
  C1.of hl (by decide) (Nat.le_of_ble_eq_true rfl) (fun X e1 e2 e3 hz hT O => by
  subst e1
  subst e2
  exact w_X11_walk O hm e3 hz hT x1 D h)
def f_X5_readMark (N : Nat) (nu : Nat) (x1 : Int32) (x2 : Int32) (S : Sr) (D : Dat) : Option (Sum Nat Unit × Sr × Dat) :=
  (f_X5_advance N D).bind (fun p1 => sb2 (f_X5_takeNewName N nu x1 S p1) (fun p3 S5 D5 => sb2 (f_X5_take N nu 58 S5 D5) (fun p6 S8 D8 => sb2 (f_X5_takeLabel N nu S8 D8) (fun p9 S11 D11 => ((dR D8 3 4)).bind (fun a12 => if a12 = 191 ∨ a12 = 196 then ((f_X4_setMark a12 (x2 + p3) p9 D11).bind (fun p15 => sb2 (f_X5_take N nu 59 S11 p15) (fun p17 S19 D19 => some (.inr (), S19, D19)))) else none)))))
set_option maxHeartbeats 4000000 in
theorem w_X5_readMark {X : Cx} {nu : Nat} {N : Nat} {z : Sum Nat Unit × Sr × Dat} (O : Ok X cX5_readMark RX5 none 7 161) (hm : wlm (xw X) = true) (hn : xn X = 4) (hT : T2 X) (x1 : Int32) (x2 : Int32) (S : Sr) (D : Dat) (h : f_X5_readMark N nu x1 x2 S D = some z) : V X (Q2 X nu (ru z)) S.1 (Az nu S) D 0 [(0, .ref (bo X + 3)), (1, .int x1), (2, .int x2)] [] := by
  unfold f_X5_readMark at h
  refine v_aload_n (pc := 0) O dX5_readMark_0 0 rfl ?_
  obtain ⟨p1, e2, h⟩ := bind_some h
  refine v_callV (pc := 1) (a := 3) (As := []) (rest := []) (r := none) (D' := p1) O (bb2 hT) (c_X5_advance hm e2) mw_X5_advance im_X5_advance se_X5_advance ml_X5_57 kq_3 (by decide) rfl rfl rfl (by decide) (by decide) (Nat.le_of_ble_eq_true rfl) dX5_readMark_1 rfl rfl ?_
  refine v_aload_n (pc := 4) O dX5_readMark_4 0 rfl ?_
  refine v_iload_n (pc := 5) O dX5_readMark_5 1 rfl ?_
  rcases sb2_some h with ⟨p3, S5, D5, e4, rfl⟩ | ⟨p3, S5, D5, e4, h⟩
  · exact v_call2X (pc := 6) (a := 3) (As := [.int x1]) (rest := []) (e := p3) (S' := S5) (D' := D5) O hT (c_X5_takeNewName (nu := nu) hT.2.1 hm e4 :) mw_X5_takeNewName im_X5_takeNewName se_X5_takeNewName ml_X5_88 kq_3 (by decide) rfl rfl rfl (by decide) (by decide) (Nat.le_of_ble_eq_true rfl) dX5_readMark_6 rfl
  · refine v_call2 (pc := 6) (a := 3) (As := [.int x1]) (rest := []) (r := (some (.int p3))) (S' := S5) (D' := D5) O hT (c_X5_takeNewName (nu := nu) hT.2.1 hm e4 :) mw_X5_takeNewName im_X5_takeNewName se_X5_takeNewName ml_X5_88 kq_3 (by decide) rfl rfl rfl (by decide) (by decide) (Nat.le_of_ble_eq_true rfl) dX5_readMark_6 rfl rfl ?_
    refine v_istore_n (pc := 9) (lv' := [(3, .int p3), (0, .ref (bo X + 3)), (1, .int x1), (2, .int x2)]) O dX5_readMark_9 rfl (by rw [hn]; decide) rfl ?_
    refine v_aload_n (pc := 10) O dX5_readMark_10 1 rfl ?_
    refine v_bipush (pc := 11) O dX5_readMark_11 bp_58 ?_
    rcases sb2_some h with ⟨p6, S8, D8, e7, rfl⟩ | ⟨p6, S8, D8, e7, h⟩
    · exact v_call2X (pc := 13) (a := 3) (As := [.int 58]) (rest := []) (e := p6) (S' := S8) (D' := D8) O hT (c_X5_take (nu := nu) hT.2.1 hm e7 :) mw_X5_take im_X5_take se_X5_take ml_X5_92 kq_3 (by decide) rfl rfl rfl (by decide) (by decide) (Nat.le_of_ble_eq_true rfl) dX5_readMark_13 rfl
    · refine v_call2 (pc := 13) (a := 3) (As := [.int 58]) (rest := []) (r := none) (S' := S8) (D' := D8) O hT (c_X5_take (nu := nu) hT.2.1 hm e7 :) mw_X5_take im_X5_take se_X5_take ml_X5_92 kq_3 (by decide) rfl rfl rfl (by decide) (by decide) (Nat.le_of_ble_eq_true rfl) dX5_readMark_13 rfl rfl ?_
      refine v_aload_n (pc := 16) O dX5_readMark_16 1 rfl ?_
      refine v_getR (pc := 17) (a := 3) O gf_X5_4 fl_X5_36 kq_3 dX5_readMark_17 ?_
      refine v_iload_n (pc := 20) O dX5_readMark_20 3 rfl ?_
      refine v_iload_n (pc := 21) O dX5_readMark_21 0 rfl ?_
      refine v_iadd (pc := 22) O dX5_readMark_22 ?_
      refine v_aload_n (pc := 23) O dX5_readMark_23 1 rfl ?_
      rcases sb2_some h with ⟨p9, S11, D11, e10, rfl⟩ | ⟨p9, S11, D11, e10, h⟩
      · exact v_call2X (pc := 24) (a := 3) (As := []) (rest := [.int (x2 + p3), rv (bo X) (dR D8 3 4)]) (e := p9) (S' := S11) (D' := D11) O hT (c_X5_takeLabel (nu := nu) hT.2.1 hm e10 :) mw_X5_takeLabel im_X5_takeLabel se_X5_takeLabel ml_X5_96 kq_3 (by decide) rfl rfl rfl (by decide) (by decide) (by simp [rv_cat, cat_i, cat_l, cat_r, cat_n, fmt_cat]) dX5_readMark_24 rfl
      · refine v_call2 (pc := 24) (a := 3) (As := []) (rest := [.int (x2 + p3), rv (bo X) (dR D8 3 4)]) (r := (some (.int p9))) (S' := S11) (D' := D11) O hT (c_X5_takeLabel (nu := nu) hT.2.1 hm e10 :) mw_X5_takeLabel im_X5_takeLabel se_X5_takeLabel ml_X5_96 kq_3 (by decide) rfl rfl rfl (by decide) (by decide) (by simp [rv_cat, cat_i, cat_l, cat_r, cat_n, fmt_cat]) dX5_readMark_24 rfl rfl ?_
        obtain ⟨a12, e13, h⟩ := bind_some h
        rw [e13]
        obtain ⟨c14, h⟩ := if_none h
        obtain ⟨p15, e16, h⟩ := bind_some h
        refine v_callV (pc := 27) (a := a12) (As := [.int (x2 + p3), .int p9]) (rest := []) (r := none) (D' := p15) O (bb2 hT) (c_X4_setMark hm c14 e16) mw_X4_setMark im_X4_setMark se_X4_setMark ml_X5_100 (kt_X4 c14) (by decide) rfl rfl rfl (by decide) (by decide) (Nat.le_of_ble_eq_true rfl) dX5_readMark_27 rfl rfl ?_
        refine v_aload_n (pc := 30) O dX5_readMark_30 1 rfl ?_
        refine v_bipush (pc := 31) O dX5_readMark_31 bp_59 ?_
        rcases sb2_some h with ⟨p17, S19, D19, e18, rfl⟩ | ⟨p17, S19, D19, e18, h⟩
        · exact v_call2X (pc := 33) (a := 3) (As := [.int 59]) (rest := []) (e := p17) (S' := S19) (D' := D19) O hT (c_X5_take (nu := nu) hT.2.1 hm e18 :) mw_X5_take im_X5_take se_X5_take ml_X5_92 kq_3 (by decide) rfl rfl rfl (by decide) (by decide) (Nat.le_of_ble_eq_true rfl) dX5_readMark_33 rfl
        · refine v_call2 (pc := 33) (a := 3) (As := [.int 59]) (rest := []) (r := none) (S' := S19) (D' := D19) O hT (c_X5_take (nu := nu) hT.2.1 hm e18 :) mw_X5_take im_X5_take se_X5_take ml_X5_92 kq_3 (by decide) rfl rfl rfl (by decide) (by decide) (Nat.le_of_ble_eq_true rfl) dX5_readMark_33 rfl rfl ?_
          obtain rfl := Option.some.inj h
          exact v_vret2 (pc := 36) O dX5_readMark_36
theorem c_X5_readMark {l : Launch} {w : Wx} {nu : Nat} {N : Nat} (hl : l.stackTraces = false) (hm : wlm w = true) {x1 : Int32} {x2 : Int32} {S : Sr} {D : Dat} {z : Sum Nat Unit × Sr × Dat} (h : f_X5_readMark N nu x1 x2 S D = some z) : C2 l w yX5_readMark cX5_readMark 4 none 7 161 [.ref (wb w + 3), .int x1, .int x2] nu S D (ru z) :=
  C2.of hl (by decide) (Nat.le_of_ble_eq_true rfl) (fun X e1 e2 e3 hT O _ _ => by
  subst e1
  subst e2
  exact w_X5_readMark O hm e3 hT x1 x2 S D h)
def f_X5_readIn (N : Nat) (nu : Nat) (S : Sr) (D : Dat) : Option (Sum Nat (Option Nat) × Sr × Dat) :=
  sb2 (f_X5_start nu 13 S D) (fun p1 S3 D3 => (f_X5_advance N D3).bind (fun p4 => sb2 (f_X5_takeName N nu 1 S3 p4) (fun p6 S8 D8 => (p1).bind (fun a9 => if kd S8.2.1 a9 = 7 then (sb2 (f_X5_take N nu 58 S8 (sI D8 a9 2 p6)) (fun p12 S14 D14 => sb2 (f_X5_takeLabel N nu S14 D14) (fun p15 S17 D17 => if kd S17.2.1 a9 = 7 then (sb2 (f_X5_take N nu 59 S17 (sI D17 a9 3 p15)) (fun p19 S21 D21 => some (.inr (some a9), S21, D21))) else none))) else none))))
set_option maxHeartbeats 4000000 in
theorem w_X5_readIn {X : Cx} {nu : Nat} {N : Nat} {z : Sum Nat (Option Nat) × Sr × Dat} (O : Ok X cX5_readIn RX5 (some (.object "FlowChain$Statement")) 7 161) (hm : wlm (xw X) = true) (hn : xn X = 2) (hT : T2 X) (S : Sr) (D : Dat) (h : f_X5_readIn N nu S D = some z) : V X (Q2 X nu (ro (bo X) z)) S.1 (Az nu S) D 0 [(0, .ref (bo X + 3))] [] := by
  unfold f_X5_readIn at h
  refine v_aload_n (pc := 0) O dX5_readIn_0 0 rfl ?_
  refine v_bipush (pc := 1) O dX5_readIn_1 bp_13 ?_
  rcases sb2_some h with ⟨p1, S3, D3, e2, rfl⟩ | ⟨p1, S3, D3, e2, h⟩
  · exact v_call2X (pc := 3) (a := 3) (As := [.int 13]) (rest := []) (e := p1) (S' := S3) (D' := D3) O hT (c_X5_start (nu := nu) hT.2.1 hm e2 :) mw_X5_start im_X5_start se_X5_start ml_X5_165 kq_3 (by decide) rfl rfl rfl (by decide) (by decide) (Nat.le_of_ble_eq_true rfl) dX5_readIn_3 rfl
  · refine v_call2 (pc := 3) (a := 3) (As := [.int 13]) (rest := []) (r := (some (rv (bo X) p1))) (S' := S3) (D' := D3) O hT (c_X5_start (nu := nu) hT.2.1 hm e2 :) mw_X5_start im_X5_start se_X5_start ml_X5_165 kq_3 (by decide) rfl rfl rfl (by decide) (by decide) (Nat.le_of_ble_eq_true rfl) dX5_readIn_3 rfl rfl ?_
    refine v_astore_nr (pc := 6) (lv' := [(1, rv (bo X) p1), (0, .ref (bo X + 3))]) O dX5_readIn_6 rfl (by rw [hn]; decide) rfl ?_
    refine v_aload_n (pc := 7) O dX5_readIn_7 1 rfl ?_
    obtain ⟨p4, e5, h⟩ := bind_some h
    refine v_callV (pc := 8) (a := 3) (As := []) (rest := []) (r := none) (D' := p4) O (bb2 hT) (c_X5_advance hm e5) mw_X5_advance im_X5_advance se_X5_advance ml_X5_57 kq_3 (by decide) rfl rfl rfl (by decide) (by decide) (Nat.le_of_ble_eq_true rfl) dX5_readIn_8 rfl rfl ?_
    refine v_aload_nr (pc := 11) O dX5_readIn_11 0 rfl ?_
    refine v_aload_n (pc := 12) O dX5_readIn_12 1 rfl ?_
    refine v_iconst (pc := 13) O dX5_readIn_13 ic_1 ?_
    rcases sb2_some h with ⟨p6, S8, D8, e7, rfl⟩ | ⟨p6, S8, D8, e7, h⟩
    · exact v_call2X (pc := 14) (a := 3) (As := [.int 1]) (rest := [rv (bo X) p1]) (e := p6) (S' := S8) (D' := D8) O hT (c_X5_takeName (nu := nu) hT.2.1 hm e7 :) mw_X5_takeName im_X5_takeName se_X5_takeName ml_X5_186 kq_3 (by decide) rfl rfl rfl (by decide) (by decide) (by simp [rv_cat, cat_i, cat_l, cat_r, cat_n, fmt_cat]) dX5_readIn_14 rfl
    · refine v_call2 (pc := 14) (a := 3) (As := [.int 1]) (rest := [rv (bo X) p1]) (r := (some (.int p6))) (S' := S8) (D' := D8) O hT (c_X5_takeName (nu := nu) hT.2.1 hm e7 :) mw_X5_takeName im_X5_takeName se_X5_takeName ml_X5_186 kq_3 (by decide) rfl rfl rfl (by decide) (by decide) (by simp [rv_cat, cat_i, cat_l, cat_r, cat_n, fmt_cat]) dX5_readIn_14 rfl rfl ?_
      obtain ⟨a9, e10, h⟩ := bind_some h
      subst e10
      obtain ⟨c11, h⟩ := if_none h
      refine v_putI (pc := 17) (a := a9) O pf_X7_2 fl_X5_189 c11 dX5_readIn_17 ?_
      refine v_aload_n (pc := 20) O dX5_readIn_20 1 rfl ?_
      refine v_bipush (pc := 21) O dX5_readIn_21 bp_58 ?_
      rcases sb2_some h with ⟨p12, S14, D14, e13, rfl⟩ | ⟨p12, S14, D14, e13, h⟩
      · exact v_call2X (pc := 23) (a := 3) (As := [.int 58]) (rest := []) (e := p12) (S' := S14) (D' := D14) O hT (c_X5_take (nu := nu) hT.2.1 hm e13 :) mw_X5_take im_X5_take se_X5_take ml_X5_92 kq_3 (by decide) rfl rfl rfl (by decide) (by decide) (Nat.le_of_ble_eq_true rfl) dX5_readIn_23 rfl
      · refine v_call2 (pc := 23) (a := 3) (As := [.int 58]) (rest := []) (r := none) (S' := S14) (D' := D14) O hT (c_X5_take (nu := nu) hT.2.1 hm e13 :) mw_X5_take im_X5_take se_X5_take ml_X5_92 kq_3 (by decide) rfl rfl rfl (by decide) (by decide) (Nat.le_of_ble_eq_true rfl) dX5_readIn_23 rfl rfl ?_
        refine v_aload_n (pc := 26) O dX5_readIn_26 0 rfl ?_
        refine v_aload_n (pc := 27) O dX5_readIn_27 1 rfl ?_
        rcases sb2_some h with ⟨p15, S17, D17, e16, rfl⟩ | ⟨p15, S17, D17, e16, h⟩
        · exact v_call2X (pc := 28) (a := 3) (As := []) (rest := [.ref (bo X + a9)]) (e := p15) (S' := S17) (D' := D17) O hT (c_X5_takeLabel (nu := nu) hT.2.1 hm e16 :) mw_X5_takeLabel im_X5_takeLabel se_X5_takeLabel ml_X5_96 kq_3 (by decide) rfl rfl rfl (by decide) (by decide) (Nat.le_of_ble_eq_true rfl) dX5_readIn_28 rfl
        · refine v_call2 (pc := 28) (a := 3) (As := []) (rest := [.ref (bo X + a9)]) (r := (some (.int p15))) (S' := S17) (D' := D17) O hT (c_X5_takeLabel (nu := nu) hT.2.1 hm e16 :) mw_X5_takeLabel im_X5_takeLabel se_X5_takeLabel ml_X5_96 kq_3 (by decide) rfl rfl rfl (by decide) (by decide) (Nat.le_of_ble_eq_true rfl) dX5_readIn_28 rfl rfl ?_
          obtain ⟨c18, h⟩ := if_none h
          refine v_putI (pc := 31) (a := a9) O pf_X7_3 fl_X5_192 c18 dX5_readIn_31 ?_
          refine v_aload_n (pc := 34) O dX5_readIn_34 1 rfl ?_
          refine v_bipush (pc := 35) O dX5_readIn_35 bp_59 ?_
          rcases sb2_some h with ⟨p19, S21, D21, e20, rfl⟩ | ⟨p19, S21, D21, e20, h⟩
          · exact v_call2X (pc := 37) (a := 3) (As := [.int 59]) (rest := []) (e := p19) (S' := S21) (D' := D21) O hT (c_X5_take (nu := nu) hT.2.1 hm e20 :) mw_X5_take im_X5_take se_X5_take ml_X5_92 kq_3 (by decide) rfl rfl rfl (by decide) (by decide) (Nat.le_of_ble_eq_true rfl) dX5_readIn_37 rfl
          · refine v_call2 (pc := 37) (a := 3) (As := [.int 59]) (rest := []) (r := none) (S' := S21) (D' := D21) O hT (c_X5_take (nu := nu) hT.2.1 hm e20 :) mw_X5_take im_X5_take se_X5_take ml_X5_92 kq_3 (by decide) rfl rfl rfl (by decide) (by decide) (Nat.le_of_ble_eq_true rfl) dX5_readIn_37 rfl rfl ?_
            refine v_aload_n (pc := 40) O dX5_readIn_40 0 rfl ?_
            obtain rfl := Option.some.inj h
            exact v_aret2 (pc := 41) (r := (some a9)) O dX5_readIn_41
theorem c_X5_readIn {l : Launch} {w : Wx} {nu : Nat} {N : Nat} (hl : l.stackTraces = false) (hm : wlm w = true) {S : Sr} {D : Dat} {z : Sum Nat (Option Nat) × Sr × Dat} (h : f_X5_readIn N nu S D = some z) : C2 l w yX5_readIn cX5_readIn 2 (some (.object "FlowChain$Statement")) 7 161 [.ref (wb w + 3)] nu S D (ro (wb w) z) :=
  C2.of hl (by decide) (Nat.le_of_ble_eq_true rfl) (fun X e1 e2 e3 hT O _ _ => by
  subst e1
  subst e2
  exact w_X5_readIn O hm e3 hT  S D h)
def f_X5_readOut (N : Nat) (nu : Nat) (S : Sr) (D : Dat) : Option (Sum Nat (Option Nat) × Sr × Dat) :=
  sb2 (f_X5_start nu 14 S D) (fun p1 S3 D3 => (f_X5_advance N D3).bind (fun p4 => sb2 (f_X5_readExpression N nu 12 S3 p4) (fun p6 S8 D8 => (p1).bind (fun a9 => if kd S8.2.1 a9 = 7 then (sb2 (f_X5_take N nu 58 S8 (sI D8 a9 5 p6)) (fun p12 S14 D14 => sb2 (f_X5_takeLabel N nu S14 D14) (fun p15 S17 D17 => if kd S17.2.1 a9 = 7 then (sb2 (f_X5_take N nu 59 S17 (sI D17 a9 3 p15)) (fun p19 S21 D21 => some (.inr (some a9), S21, D21))) else none))) else none))))
set_option maxHeartbeats 4000000 in
theorem w_X5_readOut {X : Cx} {nu : Nat} {N : Nat} {z : Sum Nat (Option Nat) × Sr × Dat} (O : Ok X cX5_readOut RX5 (some (.object "FlowChain$Statement")) 133 2961) (hm : wlm (xw X) = true) (hn : xn X = 2) (hT : T2 X) (S : Sr) (D : Dat) (h : f_X5_readOut N nu S D = some z) : V X (Q2 X nu (ro (bo X) z)) S.1 (Az nu S) D 0 [(0, .ref (bo X + 3))] [] := by
  unfold f_X5_readOut at h
  refine v_aload_n (pc := 0) O dX5_readOut_0 0 rfl ?_
  refine v_bipush (pc := 1) O dX5_readOut_1 bp_14 ?_
  rcases sb2_some h with ⟨p1, S3, D3, e2, rfl⟩ | ⟨p1, S3, D3, e2, h⟩
  · exact v_call2X (pc := 3) (a := 3) (As := [.int 14]) (rest := []) (e := p1) (S' := S3) (D' := D3) O hT (c_X5_start (nu := nu) hT.2.1 hm e2 :) mw_X5_start im_X5_start se_X5_start ml_X5_165 kq_3 (by decide) rfl rfl rfl (by decide) (by decide) (Nat.le_of_ble_eq_true rfl) dX5_readOut_3 rfl
  · refine v_call2 (pc := 3) (a := 3) (As := [.int 14]) (rest := []) (r := (some (rv (bo X) p1))) (S' := S3) (D' := D3) O hT (c_X5_start (nu := nu) hT.2.1 hm e2 :) mw_X5_start im_X5_start se_X5_start ml_X5_165 kq_3 (by decide) rfl rfl rfl (by decide) (by decide) (Nat.le_of_ble_eq_true rfl) dX5_readOut_3 rfl rfl ?_
    refine v_astore_nr (pc := 6) (lv' := [(1, rv (bo X) p1), (0, .ref (bo X + 3))]) O dX5_readOut_6 rfl (by rw [hn]; decide) rfl ?_
    refine v_aload_n (pc := 7) O dX5_readOut_7 1 rfl ?_
    obtain ⟨p4, e5, h⟩ := bind_some h
    refine v_callV (pc := 8) (a := 3) (As := []) (rest := []) (r := none) (D' := p4) O (bb2 hT) (c_X5_advance hm e5) mw_X5_advance im_X5_advance se_X5_advance ml_X5_57 kq_3 (by decide) rfl rfl rfl (by decide) (by decide) (Nat.le_of_ble_eq_true rfl) dX5_readOut_8 rfl rfl ?_
    refine v_aload_nr (pc := 11) O dX5_readOut_11 0 rfl ?_
    refine v_aload_n (pc := 12) O dX5_readOut_12 1 rfl ?_
    rcases sb2_some h with ⟨p6, S8, D8, e7, rfl⟩ | ⟨p6, S8, D8, e7, h⟩
    · exact v_call2X (pc := 13) (a := 3) (As := []) (rest := [rv (bo X) p1]) (e := p6) (S' := S8) (D' := D8) O hT (c_X5_readExpression (nu := nu) hT.2.1 hm 12 e7 :) mw_X5_readExpression im_X5_readExpression se_X5_readExpression ml_X5_168 kq_3 (by decide) rfl rfl rfl (by decide) (by decide) (by simp [rv_cat, cat_i, cat_l, cat_r, cat_n, fmt_cat]) dX5_readOut_13 rfl
    · refine v_call2 (pc := 13) (a := 3) (As := []) (rest := [rv (bo X) p1]) (r := (some (.int p6))) (S' := S8) (D' := D8) O hT (c_X5_readExpression (nu := nu) hT.2.1 hm 12 e7 :) mw_X5_readExpression im_X5_readExpression se_X5_readExpression ml_X5_168 kq_3 (by decide) rfl rfl rfl (by decide) (by decide) (by simp [rv_cat, cat_i, cat_l, cat_r, cat_n, fmt_cat]) dX5_readOut_13 rfl rfl ?_
      obtain ⟨a9, e10, h⟩ := bind_some h
      subst e10
      obtain ⟨c11, h⟩ := if_none h
      refine v_putI (pc := 16) (a := a9) O pf_X7_5 fl_X5_171 c11 dX5_readOut_16 ?_
      refine v_aload_n (pc := 19) O dX5_readOut_19 1 rfl ?_
      refine v_bipush (pc := 20) O dX5_readOut_20 bp_58 ?_
      rcases sb2_some h with ⟨p12, S14, D14, e13, rfl⟩ | ⟨p12, S14, D14, e13, h⟩
      · exact v_call2X (pc := 22) (a := 3) (As := [.int 58]) (rest := []) (e := p12) (S' := S14) (D' := D14) O hT (c_X5_take (nu := nu) hT.2.1 hm e13 :) mw_X5_take im_X5_take se_X5_take ml_X5_92 kq_3 (by decide) rfl rfl rfl (by decide) (by decide) (Nat.le_of_ble_eq_true rfl) dX5_readOut_22 rfl
      · refine v_call2 (pc := 22) (a := 3) (As := [.int 58]) (rest := []) (r := none) (S' := S14) (D' := D14) O hT (c_X5_take (nu := nu) hT.2.1 hm e13 :) mw_X5_take im_X5_take se_X5_take ml_X5_92 kq_3 (by decide) rfl rfl rfl (by decide) (by decide) (Nat.le_of_ble_eq_true rfl) dX5_readOut_22 rfl rfl ?_
        refine v_aload_n (pc := 25) O dX5_readOut_25 0 rfl ?_
        refine v_aload_n (pc := 26) O dX5_readOut_26 1 rfl ?_
        rcases sb2_some h with ⟨p15, S17, D17, e16, rfl⟩ | ⟨p15, S17, D17, e16, h⟩
        · exact v_call2X (pc := 27) (a := 3) (As := []) (rest := [.ref (bo X + a9)]) (e := p15) (S' := S17) (D' := D17) O hT (c_X5_takeLabel (nu := nu) hT.2.1 hm e16 :) mw_X5_takeLabel im_X5_takeLabel se_X5_takeLabel ml_X5_96 kq_3 (by decide) rfl rfl rfl (by decide) (by decide) (Nat.le_of_ble_eq_true rfl) dX5_readOut_27 rfl
        · refine v_call2 (pc := 27) (a := 3) (As := []) (rest := [.ref (bo X + a9)]) (r := (some (.int p15))) (S' := S17) (D' := D17) O hT (c_X5_takeLabel (nu := nu) hT.2.1 hm e16 :) mw_X5_takeLabel im_X5_takeLabel se_X5_takeLabel ml_X5_96 kq_3 (by decide) rfl rfl rfl (by decide) (by decide) (Nat.le_of_ble_eq_true rfl) dX5_readOut_27 rfl rfl ?_
          obtain ⟨c18, h⟩ := if_none h
          refine v_putI (pc := 30) (a := a9) O pf_X7_3 fl_X5_192 c18 dX5_readOut_30 ?_
          refine v_aload_n (pc := 33) O dX5_readOut_33 1 rfl ?_
          refine v_bipush (pc := 34) O dX5_readOut_34 bp_59 ?_
          rcases sb2_some h with ⟨p19, S21, D21, e20, rfl⟩ | ⟨p19, S21, D21, e20, h⟩
          · exact v_call2X (pc := 36) (a := 3) (As := [.int 59]) (rest := []) (e := p19) (S' := S21) (D' := D21) O hT (c_X5_take (nu := nu) hT.2.1 hm e20 :) mw_X5_take im_X5_take se_X5_take ml_X5_92 kq_3 (by decide) rfl rfl rfl (by decide) (by decide) (Nat.le_of_ble_eq_true rfl) dX5_readOut_36 rfl
          · refine v_call2 (pc := 36) (a := 3) (As := [.int 59]) (rest := []) (r := none) (S' := S21) (D' := D21) O hT (c_X5_take (nu := nu) hT.2.1 hm e20 :) mw_X5_take im_X5_take se_X5_take ml_X5_92 kq_3 (by decide) rfl rfl rfl (by decide) (by decide) (Nat.le_of_ble_eq_true rfl) dX5_readOut_36 rfl rfl ?_
            refine v_aload_n (pc := 39) O dX5_readOut_39 0 rfl ?_
            obtain rfl := Option.some.inj h
            exact v_aret2 (pc := 40) (r := (some a9)) O dX5_readOut_40
theorem c_X5_readOut {l : Launch} {w : Wx} {nu : Nat} {N : Nat} (hl : l.stackTraces = false) (hm : wlm w = true) {S : Sr} {D : Dat} {z : Sum Nat (Option Nat) × Sr × Dat} (h : f_X5_readOut N nu S D = some z) : C2 l w yX5_readOut cX5_readOut 2 (some (.object "FlowChain$Statement")) 133 2961 [.ref (wb w + 3)] nu S D (ro (wb w) z) :=
  C2.of hl (by decide) (Nat.le_of_ble_eq_true rfl) (fun X e1 e2 e3 hT O _ _ => by
  subst e1
  subst e2
  exact w_X5_readOut O hm e3 hT  S D h)
def f_X5_readDo (N : Nat) (nu : Nat) (S : Sr) (D : Dat) : Option (Sum Nat (Option Nat) × Sr × Dat) :=
  sb2 (f_X5_start nu 18 S D) (fun p1 S3 D3 => (f_X5_advance N D3).bind (fun p4 => sb2 (f_X5_takeName N nu 4 S3 p4) (fun p6 S8 D8 => (p1).bind (fun a9 => if kd S8.2.1 a9 = 7 then (sb2 (f_X5_take N nu 59 S8 (sI D8 a9 2 p6)) (fun p12 S14 D14 => some (.inr (some a9), S14, D14))) else none))))
set_option maxHeartbeats 4000000 in
theorem w_X5_readDo {X : Cx} {nu : Nat} {N : Nat} {z : Sum Nat (Option Nat) × Sr × Dat} (O : Ok X cX5_readDo RX5 (some (.object "FlowChain$Statement")) 7 161) (hm : wlm (xw X) = true) (hn : xn X = 2) (hT : T2 X) (S : Sr) (D : Dat) (h : f_X5_readDo N nu S D = some z) : V X (Q2 X nu (ro (bo X) z)) S.1 (Az nu S) D 0 [(0, .ref (bo X + 3))] [] := by
  unfold f_X5_readDo at h
  refine v_aload_n (pc := 0) O dX5_readDo_0 0 rfl ?_
  refine v_bipush (pc := 1) O dX5_readDo_1 bp_18 ?_
  rcases sb2_some h with ⟨p1, S3, D3, e2, rfl⟩ | ⟨p1, S3, D3, e2, h⟩
  · exact v_call2X (pc := 3) (a := 3) (As := [.int 18]) (rest := []) (e := p1) (S' := S3) (D' := D3) O hT (c_X5_start (nu := nu) hT.2.1 hm e2 :) mw_X5_start im_X5_start se_X5_start ml_X5_165 kq_3 (by decide) rfl rfl rfl (by decide) (by decide) (Nat.le_of_ble_eq_true rfl) dX5_readDo_3 rfl
  · refine v_call2 (pc := 3) (a := 3) (As := [.int 18]) (rest := []) (r := (some (rv (bo X) p1))) (S' := S3) (D' := D3) O hT (c_X5_start (nu := nu) hT.2.1 hm e2 :) mw_X5_start im_X5_start se_X5_start ml_X5_165 kq_3 (by decide) rfl rfl rfl (by decide) (by decide) (Nat.le_of_ble_eq_true rfl) dX5_readDo_3 rfl rfl ?_
    refine v_astore_nr (pc := 6) (lv' := [(1, rv (bo X) p1), (0, .ref (bo X + 3))]) O dX5_readDo_6 rfl (by rw [hn]; decide) rfl ?_
    refine v_aload_n (pc := 7) O dX5_readDo_7 1 rfl ?_
    obtain ⟨p4, e5, h⟩ := bind_some h
    refine v_callV (pc := 8) (a := 3) (As := []) (rest := []) (r := none) (D' := p4) O (bb2 hT) (c_X5_advance hm e5) mw_X5_advance im_X5_advance se_X5_advance ml_X5_57 kq_3 (by decide) rfl rfl rfl (by decide) (by decide) (Nat.le_of_ble_eq_true rfl) dX5_readDo_8 rfl rfl ?_
    refine v_aload_nr (pc := 11) O dX5_readDo_11 0 rfl ?_
    refine v_aload_n (pc := 12) O dX5_readDo_12 1 rfl ?_
    refine v_iconst (pc := 13) O dX5_readDo_13 ic_4 ?_
    rcases sb2_some h with ⟨p6, S8, D8, e7, rfl⟩ | ⟨p6, S8, D8, e7, h⟩
    · exact v_call2X (pc := 14) (a := 3) (As := [.int 4]) (rest := [rv (bo X) p1]) (e := p6) (S' := S8) (D' := D8) O hT (c_X5_takeName (nu := nu) hT.2.1 hm e7 :) mw_X5_takeName im_X5_takeName se_X5_takeName ml_X5_186 kq_3 (by decide) rfl rfl rfl (by decide) (by decide) (by simp [rv_cat, cat_i, cat_l, cat_r, cat_n, fmt_cat]) dX5_readDo_14 rfl
    · refine v_call2 (pc := 14) (a := 3) (As := [.int 4]) (rest := [rv (bo X) p1]) (r := (some (.int p6))) (S' := S8) (D' := D8) O hT (c_X5_takeName (nu := nu) hT.2.1 hm e7 :) mw_X5_takeName im_X5_takeName se_X5_takeName ml_X5_186 kq_3 (by decide) rfl rfl rfl (by decide) (by decide) (by simp [rv_cat, cat_i, cat_l, cat_r, cat_n, fmt_cat]) dX5_readDo_14 rfl rfl ?_
      obtain ⟨a9, e10, h⟩ := bind_some h
      subst e10
      obtain ⟨c11, h⟩ := if_none h
      refine v_putI (pc := 17) (a := a9) O pf_X7_2 fl_X5_189 c11 dX5_readDo_17 ?_
      refine v_aload_n (pc := 20) O dX5_readDo_20 1 rfl ?_
      refine v_bipush (pc := 21) O dX5_readDo_21 bp_59 ?_
      rcases sb2_some h with ⟨p12, S14, D14, e13, rfl⟩ | ⟨p12, S14, D14, e13, h⟩
      · exact v_call2X (pc := 23) (a := 3) (As := [.int 59]) (rest := []) (e := p12) (S' := S14) (D' := D14) O hT (c_X5_take (nu := nu) hT.2.1 hm e13 :) mw_X5_take im_X5_take se_X5_take ml_X5_92 kq_3 (by decide) rfl rfl rfl (by decide) (by decide) (Nat.le_of_ble_eq_true rfl) dX5_readDo_23 rfl
      · refine v_call2 (pc := 23) (a := 3) (As := [.int 59]) (rest := []) (r := none) (S' := S14) (D' := D14) O hT (c_X5_take (nu := nu) hT.2.1 hm e13 :) mw_X5_take im_X5_take se_X5_take ml_X5_92 kq_3 (by decide) rfl rfl rfl (by decide) (by decide) (Nat.le_of_ble_eq_true rfl) dX5_readDo_23 rfl rfl ?_
        refine v_aload_n (pc := 26) O dX5_readDo_26 0 rfl ?_
        obtain rfl := Option.some.inj h
        exact v_aret2 (pc := 27) (r := (some a9)) O dX5_readDo_27
theorem c_X5_readDo {l : Launch} {w : Wx} {nu : Nat} {N : Nat} (hl : l.stackTraces = false) (hm : wlm w = true) {S : Sr} {D : Dat} {z : Sum Nat (Option Nat) × Sr × Dat} (h : f_X5_readDo N nu S D = some z) : C2 l w yX5_readDo cX5_readDo 2 (some (.object "FlowChain$Statement")) 7 161 [.ref (wb w + 3)] nu S D (ro (wb w) z) :=
  C2.of hl (by decide) (Nat.le_of_ble_eq_true rfl) (fun X e1 e2 e3 hT O _ _ => by
  subst e1
  subst e2
  exact w_X5_readDo O hm e3 hT  S D h)
def f_X5_readSetting (N : Nat) (nu : Nat) (S : Sr) (D : Dat) : Option (Sum Nat (Option Nat) × Sr × Dat) :=
  sb2 (f_X5_start nu 2 S D) (fun p1 S3 D3 => sb2 (f_X5_takeName N nu 1 S3 D3) (fun p4 S6 D6 => (p1).bind (fun a7 => if kd S6.2.1 a7 = 7 then (sb2 (f_X5_take N nu 61 S6 (sI D6 a7 2 p4)) (fun p10 S12 D12 => sb2 (f_X5_readExpression N nu 12 S12 D12) (fun p13 S15 D15 => if kd S15.2.1 a7 = 7 then (sb2 (f_X5_take N nu 59 S15 (sI D15 a7 5 p13)) (fun p17 S19 D19 => some (.inr (some a7), S19, D19))) else none))) else none)))
set_option maxHeartbeats 4000000 in
theorem w_X5_readSetting {X : Cx} {nu : Nat} {N : Nat} {z : Sum Nat (Option Nat) × Sr × Dat} (O : Ok X cX5_readSetting RX5 (some (.object "FlowChain$Statement")) 133 2961) (hm : wlm (xw X) = true) (hn : xn X = 2) (hT : T2 X) (S : Sr) (D : Dat) (h : f_X5_readSetting N nu S D = some z) : V X (Q2 X nu (ro (bo X) z)) S.1 (Az nu S) D 0 [(0, .ref (bo X + 3))] [] := by
  unfold f_X5_readSetting at h
  refine v_aload_n (pc := 0) O dX5_readSetting_0 0 rfl ?_
  refine v_iconst (pc := 1) O dX5_readSetting_1 ic_2 ?_
  rcases sb2_some h with ⟨p1, S3, D3, e2, rfl⟩ | ⟨p1, S3, D3, e2, h⟩
  · exact v_call2X (pc := 2) (a := 3) (As := [.int 2]) (rest := []) (e := p1) (S' := S3) (D' := D3) O hT (c_X5_start (nu := nu) hT.2.1 hm e2 :) mw_X5_start im_X5_start se_X5_start ml_X5_165 kq_3 (by decide) rfl rfl rfl (by decide) (by decide) (Nat.le_of_ble_eq_true rfl) dX5_readSetting_2 rfl
  · refine v_call2 (pc := 2) (a := 3) (As := [.int 2]) (rest := []) (r := (some (rv (bo X) p1))) (S' := S3) (D' := D3) O hT (c_X5_start (nu := nu) hT.2.1 hm e2 :) mw_X5_start im_X5_start se_X5_start ml_X5_165 kq_3 (by decide) rfl rfl rfl (by decide) (by decide) (Nat.le_of_ble_eq_true rfl) dX5_readSetting_2 rfl rfl ?_
    refine v_astore_nr (pc := 5) (lv' := [(1, rv (bo X) p1), (0, .ref (bo X + 3))]) O dX5_readSetting_5 rfl (by rw [hn]; decide) rfl ?_
    refine v_aload_nr (pc := 6) O dX5_readSetting_6 0 rfl ?_
    refine v_aload_n (pc := 7) O dX5_readSetting_7 1 rfl ?_
    refine v_iconst (pc := 8) O dX5_readSetting_8 ic_1 ?_
    rcases sb2_some h with ⟨p4, S6, D6, e5, rfl⟩ | ⟨p4, S6, D6, e5, h⟩
    · exact v_call2X (pc := 9) (a := 3) (As := [.int 1]) (rest := [rv (bo X) p1]) (e := p4) (S' := S6) (D' := D6) O hT (c_X5_takeName (nu := nu) hT.2.1 hm e5 :) mw_X5_takeName im_X5_takeName se_X5_takeName ml_X5_186 kq_3 (by decide) rfl rfl rfl (by decide) (by decide) (by simp [rv_cat, cat_i, cat_l, cat_r, cat_n, fmt_cat]) dX5_readSetting_9 rfl
    · refine v_call2 (pc := 9) (a := 3) (As := [.int 1]) (rest := [rv (bo X) p1]) (r := (some (.int p4))) (S' := S6) (D' := D6) O hT (c_X5_takeName (nu := nu) hT.2.1 hm e5 :) mw_X5_takeName im_X5_takeName se_X5_takeName ml_X5_186 kq_3 (by decide) rfl rfl rfl (by decide) (by decide) (by simp [rv_cat, cat_i, cat_l, cat_r, cat_n, fmt_cat]) dX5_readSetting_9 rfl rfl ?_
      obtain ⟨a7, e8, h⟩ := bind_some h
      subst e8
      obtain ⟨c9, h⟩ := if_none h
      refine v_putI (pc := 12) (a := a7) O pf_X7_2 fl_X5_189 c9 dX5_readSetting_12 ?_
      refine v_aload_n (pc := 15) O dX5_readSetting_15 1 rfl ?_
      refine v_bipush (pc := 16) O dX5_readSetting_16 bp_61 ?_
      rcases sb2_some h with ⟨p10, S12, D12, e11, rfl⟩ | ⟨p10, S12, D12, e11, h⟩
      · exact v_call2X (pc := 18) (a := 3) (As := [.int 61]) (rest := []) (e := p10) (S' := S12) (D' := D12) O hT (c_X5_take (nu := nu) hT.2.1 hm e11 :) mw_X5_take im_X5_take se_X5_take ml_X5_92 kq_3 (by decide) rfl rfl rfl (by decide) (by decide) (Nat.le_of_ble_eq_true rfl) dX5_readSetting_18 rfl
      · refine v_call2 (pc := 18) (a := 3) (As := [.int 61]) (rest := []) (r := none) (S' := S12) (D' := D12) O hT (c_X5_take (nu := nu) hT.2.1 hm e11 :) mw_X5_take im_X5_take se_X5_take ml_X5_92 kq_3 (by decide) rfl rfl rfl (by decide) (by decide) (Nat.le_of_ble_eq_true rfl) dX5_readSetting_18 rfl rfl ?_
        refine v_aload_n (pc := 21) O dX5_readSetting_21 0 rfl ?_
        refine v_aload_n (pc := 22) O dX5_readSetting_22 1 rfl ?_
        rcases sb2_some h with ⟨p13, S15, D15, e14, rfl⟩ | ⟨p13, S15, D15, e14, h⟩
        · exact v_call2X (pc := 23) (a := 3) (As := []) (rest := [.ref (bo X + a7)]) (e := p13) (S' := S15) (D' := D15) O hT (c_X5_readExpression (nu := nu) hT.2.1 hm 12 e14 :) mw_X5_readExpression im_X5_readExpression se_X5_readExpression ml_X5_168 kq_3 (by decide) rfl rfl rfl (by decide) (by decide) (Nat.le_of_ble_eq_true rfl) dX5_readSetting_23 rfl
        · refine v_call2 (pc := 23) (a := 3) (As := []) (rest := [.ref (bo X + a7)]) (r := (some (.int p13))) (S' := S15) (D' := D15) O hT (c_X5_readExpression (nu := nu) hT.2.1 hm 12 e14 :) mw_X5_readExpression im_X5_readExpression se_X5_readExpression ml_X5_168 kq_3 (by decide) rfl rfl rfl (by decide) (by decide) (Nat.le_of_ble_eq_true rfl) dX5_readSetting_23 rfl rfl ?_
          obtain ⟨c16, h⟩ := if_none h
          refine v_putI (pc := 26) (a := a7) O pf_X7_5 fl_X5_171 c16 dX5_readSetting_26 ?_
          refine v_aload_n (pc := 29) O dX5_readSetting_29 1 rfl ?_
          refine v_bipush (pc := 30) O dX5_readSetting_30 bp_59 ?_
          rcases sb2_some h with ⟨p17, S19, D19, e18, rfl⟩ | ⟨p17, S19, D19, e18, h⟩
          · exact v_call2X (pc := 32) (a := 3) (As := [.int 59]) (rest := []) (e := p17) (S' := S19) (D' := D19) O hT (c_X5_take (nu := nu) hT.2.1 hm e18 :) mw_X5_take im_X5_take se_X5_take ml_X5_92 kq_3 (by decide) rfl rfl rfl (by decide) (by decide) (Nat.le_of_ble_eq_true rfl) dX5_readSetting_32 rfl
          · refine v_call2 (pc := 32) (a := 3) (As := [.int 59]) (rest := []) (r := none) (S' := S19) (D' := D19) O hT (c_X5_take (nu := nu) hT.2.1 hm e18 :) mw_X5_take im_X5_take se_X5_take ml_X5_92 kq_3 (by decide) rfl rfl rfl (by decide) (by decide) (Nat.le_of_ble_eq_true rfl) dX5_readSetting_32 rfl rfl ?_
            refine v_aload_n (pc := 35) O dX5_readSetting_35 0 rfl ?_
            obtain rfl := Option.some.inj h
            exact v_aret2 (pc := 36) (r := (some a7)) O dX5_readSetting_36
theorem c_X5_readSetting {l : Launch} {w : Wx} {nu : Nat} {N : Nat} (hl : l.stackTraces = false) (hm : wlm w = true) {S : Sr} {D : Dat} {z : Sum Nat (Option Nat) × Sr × Dat} (h : f_X5_readSetting N nu S D = some z) : C2 l w yX5_readSetting cX5_readSetting 2 (some (.object "FlowChain$Statement")) 133 2961 [.ref (wb w + 3)] nu S D (ro (wb w) z) :=
  C2.of hl (by decide) (Nat.le_of_ble_eq_true rfl) (fun X e1 e2 e3 hT O _ _ => by
  subst e1
  subst e2
  exact w_X5_readSetting O hm e3 hT  S D h)
def f_X5_readRowSetting (N : Nat) (nu : Nat) (S : Sr) (D : Dat) : Option (Sum Nat (Option Nat) × Sr × Dat) :=
  sb2 (f_X5_start nu 4 S D) (fun p1 S3 D3 => sb2 (f_X5_takeName N nu 2 S3 D3) (fun p4 S6 D6 => (p1).bind (fun a7 => if kd S6.2.1 a7 = 7 then (sb2 (f_X5_readIndex (f_X5_readExpression N nu 12) N nu S6 (sI D6 a7 2 p4)) (fun p10 S12 D12 => sb2 (f_X5_take N nu 61 S12 D12) (fun p13 S15 D15 => sb2 (f_X5_readExpression N nu 12 S15 D15) (fun p16 S18 D18 => if kd S18.2.1 a7 = 7 then (sb2 (f_X5_take N nu 59 S18 (sI D18 a7 5 p16)) (fun p20 S22 D22 => some (.inr (some a7), S22, D22))) else none)))) else none)))
set_option maxHeartbeats 4000000 in
theorem w_X5_readRowSetting {X : Cx} {nu : Nat} {N : Nat} {z : Sum Nat (Option Nat) × Sr × Dat} (O : Ok X cX5_readRowSetting RX5 (some (.object "FlowChain$Statement")) 140 3120) (hm : wlm (xw X) = true) (hn : xn X = 2) (hT : T2 X) (S : Sr) (D : Dat) (h : f_X5_readRowSetting N nu S D = some z) : V X (Q2 X nu (ro (bo X) z)) S.1 (Az nu S) D 0 [(0, .ref (bo X + 3))] [] := by
  unfold f_X5_readRowSetting at h
  refine v_aload_n (pc := 0) O dX5_readRowSetting_0 0 rfl ?_
  refine v_iconst (pc := 1) O dX5_readRowSetting_1 ic_4 ?_
  rcases sb2_some h with ⟨p1, S3, D3, e2, rfl⟩ | ⟨p1, S3, D3, e2, h⟩
  · exact v_call2X (pc := 2) (a := 3) (As := [.int 4]) (rest := []) (e := p1) (S' := S3) (D' := D3) O hT (c_X5_start (nu := nu) hT.2.1 hm e2 :) mw_X5_start im_X5_start se_X5_start ml_X5_165 kq_3 (by decide) rfl rfl rfl (by decide) (by decide) (Nat.le_of_ble_eq_true rfl) dX5_readRowSetting_2 rfl
  · refine v_call2 (pc := 2) (a := 3) (As := [.int 4]) (rest := []) (r := (some (rv (bo X) p1))) (S' := S3) (D' := D3) O hT (c_X5_start (nu := nu) hT.2.1 hm e2 :) mw_X5_start im_X5_start se_X5_start ml_X5_165 kq_3 (by decide) rfl rfl rfl (by decide) (by decide) (Nat.le_of_ble_eq_true rfl) dX5_readRowSetting_2 rfl rfl ?_
    refine v_astore_nr (pc := 5) (lv' := [(1, rv (bo X) p1), (0, .ref (bo X + 3))]) O dX5_readRowSetting_5 rfl (by rw [hn]; decide) rfl ?_
    refine v_aload_nr (pc := 6) O dX5_readRowSetting_6 0 rfl ?_
    refine v_aload_n (pc := 7) O dX5_readRowSetting_7 1 rfl ?_
    refine v_iconst (pc := 8) O dX5_readRowSetting_8 ic_2 ?_
    rcases sb2_some h with ⟨p4, S6, D6, e5, rfl⟩ | ⟨p4, S6, D6, e5, h⟩
    · exact v_call2X (pc := 9) (a := 3) (As := [.int 2]) (rest := [rv (bo X) p1]) (e := p4) (S' := S6) (D' := D6) O hT (c_X5_takeName (nu := nu) hT.2.1 hm e5 :) mw_X5_takeName im_X5_takeName se_X5_takeName ml_X5_186 kq_3 (by decide) rfl rfl rfl (by decide) (by decide) (by simp [rv_cat, cat_i, cat_l, cat_r, cat_n, fmt_cat]) dX5_readRowSetting_9 rfl
    · refine v_call2 (pc := 9) (a := 3) (As := [.int 2]) (rest := [rv (bo X) p1]) (r := (some (.int p4))) (S' := S6) (D' := D6) O hT (c_X5_takeName (nu := nu) hT.2.1 hm e5 :) mw_X5_takeName im_X5_takeName se_X5_takeName ml_X5_186 kq_3 (by decide) rfl rfl rfl (by decide) (by decide) (by simp [rv_cat, cat_i, cat_l, cat_r, cat_n, fmt_cat]) dX5_readRowSetting_9 rfl rfl ?_
      obtain ⟨a7, e8, h⟩ := bind_some h
      subst e8
      obtain ⟨c9, h⟩ := if_none h
      refine v_putI (pc := 12) (a := a7) O pf_X7_2 fl_X5_189 c9 dX5_readRowSetting_12 ?_
      refine v_aload_n (pc := 15) O dX5_readRowSetting_15 1 rfl ?_
      rcases sb2_some h with ⟨p10, S12, D12, e11, rfl⟩ | ⟨p10, S12, D12, e11, h⟩
      · exact v_call2X (pc := 16) (a := 3) (As := []) (rest := []) (e := p10) (S' := S12) (D' := D12) O hT (c_X5_readIndex (nu := nu) hT.2.1 hm (fun h => c_X5_readExpression hT.2.1 hm 12 h) e11 :) mw_X5_readIndex im_X5_readIndex se_X5_readIndex ml_X5_195 kq_3 (by decide) rfl rfl rfl (by decide) (by decide) (Nat.le_of_ble_eq_true rfl) dX5_readRowSetting_16 rfl
      · refine v_call2 (pc := 16) (a := 3) (As := []) (rest := []) (r := none) (S' := S12) (D' := D12) O hT (c_X5_readIndex (nu := nu) hT.2.1 hm (fun h => c_X5_readExpression hT.2.1 hm 12 h) e11 :) mw_X5_readIndex im_X5_readIndex se_X5_readIndex ml_X5_195 kq_3 (by decide) rfl rfl rfl (by decide) (by decide) (Nat.le_of_ble_eq_true rfl) dX5_readRowSetting_16 rfl rfl ?_
        refine v_aload_n (pc := 19) O dX5_readRowSetting_19 1 rfl ?_
        refine v_bipush (pc := 20) O dX5_readRowSetting_20 bp_61 ?_
        rcases sb2_some h with ⟨p13, S15, D15, e14, rfl⟩ | ⟨p13, S15, D15, e14, h⟩
        · exact v_call2X (pc := 22) (a := 3) (As := [.int 61]) (rest := []) (e := p13) (S' := S15) (D' := D15) O hT (c_X5_take (nu := nu) hT.2.1 hm e14 :) mw_X5_take im_X5_take se_X5_take ml_X5_92 kq_3 (by decide) rfl rfl rfl (by decide) (by decide) (Nat.le_of_ble_eq_true rfl) dX5_readRowSetting_22 rfl
        · refine v_call2 (pc := 22) (a := 3) (As := [.int 61]) (rest := []) (r := none) (S' := S15) (D' := D15) O hT (c_X5_take (nu := nu) hT.2.1 hm e14 :) mw_X5_take im_X5_take se_X5_take ml_X5_92 kq_3 (by decide) rfl rfl rfl (by decide) (by decide) (Nat.le_of_ble_eq_true rfl) dX5_readRowSetting_22 rfl rfl ?_
          refine v_aload_n (pc := 25) O dX5_readRowSetting_25 0 rfl ?_
          refine v_aload_n (pc := 26) O dX5_readRowSetting_26 1 rfl ?_
          rcases sb2_some h with ⟨p16, S18, D18, e17, rfl⟩ | ⟨p16, S18, D18, e17, h⟩
          · exact v_call2X (pc := 27) (a := 3) (As := []) (rest := [.ref (bo X + a7)]) (e := p16) (S' := S18) (D' := D18) O hT (c_X5_readExpression (nu := nu) hT.2.1 hm 12 e17 :) mw_X5_readExpression im_X5_readExpression se_X5_readExpression ml_X5_168 kq_3 (by decide) rfl rfl rfl (by decide) (by decide) (Nat.le_of_ble_eq_true rfl) dX5_readRowSetting_27 rfl
          · refine v_call2 (pc := 27) (a := 3) (As := []) (rest := [.ref (bo X + a7)]) (r := (some (.int p16))) (S' := S18) (D' := D18) O hT (c_X5_readExpression (nu := nu) hT.2.1 hm 12 e17 :) mw_X5_readExpression im_X5_readExpression se_X5_readExpression ml_X5_168 kq_3 (by decide) rfl rfl rfl (by decide) (by decide) (Nat.le_of_ble_eq_true rfl) dX5_readRowSetting_27 rfl rfl ?_
            obtain ⟨c19, h⟩ := if_none h
            refine v_putI (pc := 30) (a := a7) O pf_X7_5 fl_X5_171 c19 dX5_readRowSetting_30 ?_
            refine v_aload_n (pc := 33) O dX5_readRowSetting_33 1 rfl ?_
            refine v_bipush (pc := 34) O dX5_readRowSetting_34 bp_59 ?_
            rcases sb2_some h with ⟨p20, S22, D22, e21, rfl⟩ | ⟨p20, S22, D22, e21, h⟩
            · exact v_call2X (pc := 36) (a := 3) (As := [.int 59]) (rest := []) (e := p20) (S' := S22) (D' := D22) O hT (c_X5_take (nu := nu) hT.2.1 hm e21 :) mw_X5_take im_X5_take se_X5_take ml_X5_92 kq_3 (by decide) rfl rfl rfl (by decide) (by decide) (Nat.le_of_ble_eq_true rfl) dX5_readRowSetting_36 rfl
            · refine v_call2 (pc := 36) (a := 3) (As := [.int 59]) (rest := []) (r := none) (S' := S22) (D' := D22) O hT (c_X5_take (nu := nu) hT.2.1 hm e21 :) mw_X5_take im_X5_take se_X5_take ml_X5_92 kq_3 (by decide) rfl rfl rfl (by decide) (by decide) (Nat.le_of_ble_eq_true rfl) dX5_readRowSetting_36 rfl rfl ?_
              refine v_aload_n (pc := 39) O dX5_readRowSetting_39 0 rfl ?_
              obtain rfl := Option.some.inj h
              exact v_aret2 (pc := 40) (r := (some a7)) O dX5_readRowSetting_40
theorem c_X5_readRowSetting {l : Launch} {w : Wx} {nu : Nat} {N : Nat} (hl : l.stackTraces = false) (hm : wlm w = true) {S : Sr} {D : Dat} {z : Sum Nat (Option Nat) × Sr × Dat} (h : f_X5_readRowSetting N nu S D = some z) : C2 l w yX5_readRowSetting cX5_readRowSetting 2 (some (.object "FlowChain$Statement")) 140 3120 [.ref (wb w + 3)] nu S D (ro (wb w) z) :=
  C2.of hl (by decide) (Nat.le_of_ble_eq_true rfl) (fun X e1 e2 e3 hT O _ _ => by
  subst e1
  subst e2
  exact w_X5_readRowSetting O hm e3 hT  S D h)
