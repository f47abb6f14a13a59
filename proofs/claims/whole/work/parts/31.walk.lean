theorem ini_J1 : Cond.initialized RJ1 ∈ tb := tb_of 183 (by decide +kernel) (by decide +kernel)
theorem cw_J1_canEncode_9a6ad : Cond.code yJ1_canEncode_9a6ad cJ1_canEncode_9a6ad 1 (some .boolean) ∈ tb := tb_of 914 (by decide +kernel) (by decide +kernel)
theorem mw_J1_canEncode_9a6ad : MW yJ1_canEncode_9a6ad cJ1_canEncode_9a6ad 1 (some .boolean) 1 := ⟨cw_J1_canEncode_9a6ad, ini_J1, by decide +kernel⟩
theorem sm_J1_canEncode_9a6ad : Cond.static yJ1_canEncode_9a6ad ∈ tb := tb_of 913 (by decide +kernel) (by decide +kernel)
theorem ml_J1_88 : Cond.methodLink RJ1 88 yJ1_canEncode_9a6ad ∈ tb := tb_of 912 (by decide +kernel) (by decide +kernel)
theorem ml_J1_92 : Cond.methodLink RJ1 92 Lib.Math.max.name ∈ tb := tb_of 915 (by decide +kernel) (by decide +kernel)
theorem sm_max : Cond.static Lib.Math.max.name ∈ tb := tb_of 205 (by decide +kernel) (by decide +kernel)
theorem cw_max : Cond.code Lib.Math.max.name Lib.Math.max.code 2 (some .int) ∈ tb := tb_of 206 (by decide +kernel) (by decide +kernel)
theorem ml_J1_38 : Cond.methodLink RJ1 38 Lib.Math.min.name ∈ tb := tb_of 916 (by decide +kernel) (by decide +kernel)
theorem cw_X12_round : Cond.code yX12_round cX12_round 2 (some .int) ∈ tb := tb_of 2343 (by decide +kernel) (by decide +kernel)
theorem mw_X12_round : MW yX12_round cX12_round 2 (some .int) 1 := ⟨cw_X12_round, ini_X12, by decide +kernel⟩
theorem im_X12_round : Cond.instanceMethod yX12_round ∈ tb := tb_of 2342 (by decide +kernel) (by decide +kernel)
theorem se_X12_round : Cond.selects (yX12_round).cls yX12_round yX12_round ∈ tb := tb_of 158 (by decide +kernel) (by decide +kernel)
theorem ml_X12_502 : Cond.methodLink RX12 502 yX12_round ∈ tb := tb_of 2340 (by decide +kernel) (by decide +kernel)
theorem cw_J0_length_8abf5 : Cond.code yJ0_length_8abf5 cJ0_length_8abf5 1 (some .int) ∈ tb := tb_of 846 (by decide +kernel) (by decide +kernel)
theorem mw_J0_length_8abf5 : MW yJ0_length_8abf5 cJ0_length_8abf5 1 (some .int) 0 := ⟨cw_J0_length_8abf5, ini_J0, by decide +kernel⟩
theorem im_J0_length_8abf5 : Cond.instanceMethod yJ0_length_8abf5 ∈ tb := tb_of 844 (by decide +kernel) (by decide +kernel)
theorem se_J0_length_8abf5 : Cond.selects (yJ0_length_8abf5).cls yJ0_length_8abf5 yJ0_length_8abf5 ∈ tb := tb_of 845 (by decide +kernel) (by decide +kernel)
theorem cw_X5_readFactor : Cond.code yX5_readFactor cX5_readFactor 2 none ∈ tb := tb_of 1104 (by decide +kernel) (by decide +kernel)
theorem mw_X5_readFactor : MW yX5_readFactor cX5_readFactor 2 none 0 := ⟨cw_X5_readFactor, ini_X5, by decide +kernel⟩
theorem im_X5_readFactor : Cond.instanceMethod yX5_readFactor ∈ tb := tb_of 1103 (by decide +kernel) (by decide +kernel)
theorem se_X5_readFactor : Cond.selects (yX5_readFactor).cls yX5_readFactor yX5_readFactor ∈ tb := tb_of 29 (by decide +kernel) (by decide +kernel)
theorem ml_X5_252 : Cond.methodLink RX5 252 yX5_readFactor ∈ tb := tb_of 1101 (by decide +kernel) (by decide +kernel)
theorem cw_X5_readProduct : Cond.code yX5_readProduct cX5_readProduct 3 none ∈ tb := tb_of 1100 (by decide +kernel) (by decide +kernel)
theorem mw_X5_readProduct : MW yX5_readProduct cX5_readProduct 3 none 0 := ⟨cw_X5_readProduct, ini_X5, by decide +kernel⟩
theorem im_X5_readProduct : Cond.instanceMethod yX5_readProduct ∈ tb := tb_of 1099 (by decide +kernel) (by decide +kernel)
theorem se_X5_readProduct : Cond.selects (yX5_readProduct).cls yX5_readProduct yX5_readProduct ∈ tb := tb_of 28 (by decide +kernel) (by decide +kernel)
theorem ml_X5_249 : Cond.methodLink RX5 249 yX5_readProduct ∈ tb := tb_of 1097 (by decide +kernel) (by decide +kernel)
theorem cw_X5_readSum : Cond.code yX5_readSum cX5_readSum 3 none ∈ tb := tb_of 1096 (by decide +kernel) (by decide +kernel)
theorem mw_X5_readSum : MW yX5_readSum cX5_readSum 3 none 0 := ⟨cw_X5_readSum, ini_X5, by decide +kernel⟩
theorem im_X5_readSum : Cond.instanceMethod yX5_readSum ∈ tb := tb_of 1095 (by decide +kernel) (by decide +kernel)
theorem se_X5_readSum : Cond.selects (yX5_readSum).cls yX5_readSum yX5_readSum ∈ tb := tb_of 27 (by decide +kernel) (by decide +kernel)
theorem ml_X5_243 : Cond.methodLink RX5 243 yX5_readSum ∈ tb := tb_of 1093 (by decide +kernel) (by decide +kernel)
theorem cw_X4_size : Cond.code yX4_size cX4_size 1 (some .int) ∈ tb := tb_of 1021 (by decide +kernel) (by decide +kernel)
theorem mw_X4_size : MW yX4_size cX4_size 1 (some .int) 0 := ⟨cw_X4_size, ini_X4, by decide +kernel⟩
theorem im_X4_size : Cond.instanceMethod yX4_size ∈ tb := tb_of 1019 (by decide +kernel) (by decide +kernel)
theorem se_X4_size : Cond.selects (yX4_size).cls yX4_size yX4_size ∈ tb := tb_of 1020 (by decide +kernel) (by decide +kernel)
theorem ml_X5_199 : Cond.methodLink RX5 199 yX4_size ∈ tb := tb_of 1018 (by decide +kernel) (by decide +kernel)
theorem cw_J0_checkIndex_df160 : Cond.code yJ0_checkIndex_df160 cJ0_checkIndex_df160 2 none ∈ tb := tb_of 866 (by decide +kernel) (by decide +kernel)
theorem mw_J0_checkIndex_df160 : MW yJ0_checkIndex_df160 cJ0_checkIndex_df160 2 none 2 := ⟨cw_J0_checkIndex_df160, ini_J0, by decide +kernel⟩
theorem sm_J0_checkIndex_df160 : Cond.static yJ0_checkIndex_df160 ∈ tb := tb_of 865 (by decide +kernel) (by decide +kernel)
theorem ml_J1_9 : Cond.methodLink RJ1 9 yJ0_checkIndex_df160 ∈ tb := tb_of 864 (by decide +kernel) (by decide +kernel)
theorem cw_J1_indexOfChar_4cfef : Cond.code yJ1_indexOfChar_4cfef cJ1_indexOfChar_4cfef 6 (some .int) ∈ tb := tb_of 919 (by decide +kernel) (by decide +kernel)
theorem mw_J1_indexOfChar_4cfef : MW yJ1_indexOfChar_4cfef cJ1_indexOfChar_4cfef 6 (some .int) 4 := ⟨cw_J1_indexOfChar_4cfef, ini_J1, by decide +kernel⟩
theorem sm_J1_indexOfChar_4cfef : Cond.static yJ1_indexOfChar_4cfef ∈ tb := tb_of 918 (by decide +kernel) (by decide +kernel)
theorem ml_J1_95 : Cond.methodLink RJ1 95 yJ1_indexOfChar_4cfef ∈ tb := tb_of 917 (by decide +kernel) (by decide +kernel)
theorem cw_J0_isLatin1_aae02 : Cond.code yJ0_isLatin1_aae02 cJ0_isLatin1_aae02 1 (some .boolean) ∈ tb := tb_of 860 (by decide +kernel) (by decide +kernel)
theorem mw_J0_isLatin1_aae02 : MW yJ0_isLatin1_aae02 cJ0_isLatin1_aae02 1 (some .boolean) 0 := ⟨cw_J0_isLatin1_aae02, ini_J0, by decide +kernel⟩
theorem im_J0_isLatin1_aae02 : Cond.instanceMethod yJ0_isLatin1_aae02 ∈ tb := tb_of 858 (by decide +kernel) (by decide +kernel)
theorem se_J0_isLatin1_aae02 : Cond.selects (yJ0_isLatin1_aae02).cls yJ0_isLatin1_aae02 yJ0_isLatin1_aae02 ∈ tb := tb_of 859 (by decide +kernel) (by decide +kernel)
theorem ml_J0_492 : Cond.methodLink RJ0 492 yJ0_isLatin1_aae02 ∈ tb := tb_of 857 (by decide +kernel) (by decide +kernel)
theorem cw_J1_charAt_3b067 : Cond.code yJ1_charAt_3b067 cJ1_charAt_3b067 2 (some .char) ∈ tb := tb_of 863 (by decide +kernel) (by decide +kernel)
theorem mw_J1_charAt_3b067 : MW yJ1_charAt_3b067 cJ1_charAt_3b067 2 (some .char) 2 := ⟨cw_J1_charAt_3b067, ini_J1, by decide +kernel⟩
theorem sm_J1_charAt_3b067 : Cond.static yJ1_charAt_3b067 ∈ tb := tb_of 862 (by decide +kernel) (by decide +kernel)
theorem ml_J0_495 : Cond.methodLink RJ0 495 yJ1_charAt_3b067 ∈ tb := tb_of 861 (by decide +kernel) (by decide +kernel)
theorem ml_J0_505 : Cond.methodLink RJ0 505 yJ0_length_8abf5 ∈ tb := tb_of 908 (by decide +kernel) (by decide +kernel)
theorem cw_J1_indexOf_4cfef : Cond.code yJ1_indexOf_4cfef cJ1_indexOf_4cfef 4 (some .int) ∈ tb := tb_of 911 (by decide +kernel) (by decide +kernel)
theorem mw_J1_indexOf_4cfef : MW yJ1_indexOf_4cfef cJ1_indexOf_4cfef 4 (some .int) 4 := ⟨cw_J1_indexOf_4cfef, ini_J1, by decide +kernel⟩
theorem sm_J1_indexOf_4cfef : Cond.static yJ1_indexOf_4cfef ∈ tb := tb_of 910 (by decide +kernel) (by decide +kernel)
theorem ml_J0_637 : Cond.methodLink RJ0 637 yJ1_indexOf_4cfef ∈ tb := tb_of 909 (by decide +kernel) (by decide +kernel)
def f_X5_readProduct_b77 (rec : Sr → Dat → Option (Sum Nat Int32 × Sr × Dat)) (N : Nat) (nu : Nat) (S : Sr) (D : Dat) : Option (Sum Nat Unit × Sr × Dat) :=
  some (.inr (), S, D)
set_option maxHeartbeats 4000000 in
theorem w_X5_readProduct_b77 {X : Cx} {nu : Nat} {rec : Sr → Dat → Option (Sum Nat Int32 × Sr × Dat)} {N : Nat} {fr lc : Nat} {z : Sum Nat Unit × Sr × Dat} (O : Ok X cX5_readProduct RX5 none (fr + 9) (lc + 162)) (hm : wlm (xw X) = true) (hn : xn X = 3) (hT : T2 X) (hR : ∀ {S : Sr} {D : Dat} {z : Sum Nat Int32 × Sr × Dat}, rec  S D = some z → C2 (xl X) (xw X) yX5_readExpression cX5_readExpression 2 (some .int) fr lc [.ref (wb (xw X) + pp 3)] nu S D (ri z)) (S : Sr) (D : Dat) (h : f_X5_readProduct_b77 rec N nu S D = some z) : V X (Q2 X nu (ru z)) S.1 (Az nu S) D 77 [] [] := by
  unfold f_X5_readProduct_b77 at h
  obtain rfl := Option.some.inj h
  exact v_vret2 (pc := 77) O dX5_readProduct_77
def f_X5_readProduct_b47 (rec : Sr → Dat → Option (Sum Nat Int32 × Sr × Dat)) (N : Nat) (nu : Nat) (rec_6 : Int32 → Sr → Dat → Option (Sum Nat Unit × Sr × Dat)) (x1 : Int32) (s0 : Int32) (S : Sr) (D : Dat) : Option (Sum Nat Unit × Sr × Dat) :=
  (f_X5_goTo ((dI D 3 8) + (1 : Int32)) D).bind (fun p1 => sb2 (f_X5_readFactor rec nu S p1) (fun p3 S5 D5 => ((dR D5 3 4)).bind (fun a6 => if a6 = 191 ∨ a6 = 196 then ((f_X4_add a6 s0 0 D5).bind (fun p9 => rec_6 (x1 + 1) S5 p9)) else none)))
set_option maxHeartbeats 4000000 in
theorem w_X5_readProduct_b47 {X : Cx} {nu : Nat} {rec : Sr → Dat → Option (Sum Nat Int32 × Sr × Dat)} {N : Nat} {fr lc : Nat} {rec_6 : Int32 → Sr → Dat → Option (Sum Nat Unit × Sr × Dat)} {z : Sum Nat Unit × Sr × Dat} (O : Ok X cX5_readProduct RX5 none (fr + 9) (lc + 162)) (hm : wlm (xw X) = true) (hn : xn X = 3) (hT : T2 X) (hR : ∀ {S : Sr} {D : Dat} {z : Sum Nat Int32 × Sr × Dat}, rec  S D = some z → C2 (xl X) (xw X) yX5_readExpression cX5_readExpression 2 (some .int) fr lc [.ref (wb (xw X) + pp 3)] nu S D (ri z)) (hrec_6 : ∀ (x1 : Int32) (S : Sr) (D : Dat), rec_6 x1 S D = some z → V X (Q2 X nu (ru z)) S.1 (Az nu S) D 6 [(0, .ref (bo X + pp 3)), (1, .int x1)] []) (x1 : Int32) (s0 : Int32) (S : Sr) (D : Dat) (h : f_X5_readProduct_b47 rec N nu rec_6 x1 s0 S D = some z) : V X (Q2 X nu (ru z)) S.1 (Az nu S) D 47 [(0, .ref (bo X + pp 3)), (1, .int x1)] [.int s0] := by
  unfold f_X5_readProduct_b47 at h
  refine v_istore_n (pc := 47) (lv' := [(2, .int s0), (0, .ref (bo X + pp 3)), (1, .int x1)]) O dX5_readProduct_47 rfl (by rw [hn]; decide) rfl ?_
  refine v_aload_n (pc := 48) O dX5_readProduct_48 1 rfl ?_
  refine v_aload_n (pc := 49) O dX5_readProduct_49 1 rfl ?_
  refine v_getI (pc := 50) (a := 3) O gf_X5_8 fl_X5_153 kq_3 dX5_readProduct_50 ?_
  refine v_iconst (pc := 53) O dX5_readProduct_53 ic_1 ?_
  refine v_iadd (pc := 54) O dX5_readProduct_54 ?_
  obtain ⟨p1, e2, h⟩ := bind_some h
  refine v_callV (pc := 55) (a := 3) (As := [.int ((dI D 3 8) + (1 : Int32))]) (rest := []) (r := none) (D' := p1) O (bb2 hT) (c_X5_goTo hm e2) mw_X5_goTo im_X5_goTo se_X5_goTo ml_X5_66 kq_3 (by decide) rfl rfl rfl (by omega) (by omega) (Nat.le_of_ble_eq_true rfl) dX5_readProduct_55 rfl rfl ?_
  refine v_aload_n (pc := 58) O dX5_readProduct_58 1 rfl ?_
  rcases sb2_some h with ⟨p3, S5, D5, e4, rfl⟩ | ⟨p3, S5, D5, e4, h⟩
  · exact v_call2X (pc := 59) (a := 3) (As := []) (rest := []) (e := p3) (S' := S5) (D' := D5) O hT (c_X5_readFactor (nu := nu) hT.2.1 hm hR e4 :) mw_X5_readFactor im_X5_readFactor se_X5_readFactor ml_X5_252 kq_3 (by decide) rfl rfl rfl (by omega) (by omega) (Nat.le_of_ble_eq_true rfl) dX5_readProduct_59 rfl
  · refine v_call2 (pc := 59) (a := 3) (As := []) (rest := []) (r := none) (S' := S5) (D' := D5) O hT (c_X5_readFactor (nu := nu) hT.2.1 hm hR e4 :) mw_X5_readFactor im_X5_readFactor se_X5_readFactor ml_X5_252 kq_3 (by decide) rfl rfl rfl (by omega) (by omega) (Nat.le_of_ble_eq_true rfl) dX5_readProduct_59 rfl rfl ?_
    refine v_aload_n (pc := 62) O dX5_readProduct_62 1 rfl ?_
    refine v_getR (pc := 63) (a := 3) O gf_X5_4 fl_X5_45 kq_3 dX5_readProduct_63 ?_
    refine v_iload_n (pc := 66) O dX5_readProduct_66 0 rfl ?_
    refine v_iconst (pc := 67) O dX5_readProduct_67 ic_0 ?_
    obtain ⟨a6, e7, h⟩ := bind_some h
    rw [e7]
    obtain ⟨c8, h⟩ := if_none h
    obtain ⟨p9, e10, h⟩ := bind_some h
    refine v_callV (pc := 68) (a := a6) (As := [.int s0, .int 0]) (rest := []) (r := none) (D' := p9) O (bb2 hT) (c_X4_add hm c8 e10) mw_X4_add im_X4_add se_X4_add ml_X5_246 (kt_X4 c8) (by decide) rfl rfl rfl (by omega) (by omega) (Nat.le_of_ble_eq_true rfl) dX5_readProduct_68 rfl rfl ?_
    refine v_iinc (pc := 71) (lv' := [(1, .int (x1 + 1)), (2, .int s0), (0, .ref (bo X + pp 3))]) O dX5_readProduct_71 2 rfl (congrArg (fun q => x1 + q) ic_1) (by rw [hn]; decide) rfl ?_
    refine v_goto (pc := 74) 6 O dX5_readProduct_74 (by decide) ?_
    refine v_sub [2, 0] rfl ?_
    exact hrec_6 (x1 + 1) S5 p9 h
def f_X5_readProduct_b31 (rec : Sr → Dat → Option (Sum Nat Int32 × Sr × Dat)) (N : Nat) (nu : Nat) (rec_6 : Int32 → Sr → Dat → Option (Sum Nat Unit × Sr × Dat)) (x1 : Int32) (S : Sr) (D : Dat) : Option (Sum Nat Unit × Sr × Dat) :=
  if (dI D 3 6) = 42 then (f_X5_readProduct_b47 rec N nu rec_6 x1 7 S D) else (f_X5_readProduct_b47 rec N nu rec_6 x1 8 S D)
set_option maxHeartbeats 4000000 in
theorem w_X5_readProduct_b31 {X : Cx} {nu : Nat} {rec : Sr → Dat → Option (Sum Nat Int32 × Sr × Dat)} {N : Nat} {fr lc : Nat} {rec_6 : Int32 → Sr → Dat → Option (Sum Nat Unit × Sr × Dat)} {z : Sum Nat Unit × Sr × Dat} (O : Ok X cX5_readProduct RX5 none (fr + 9) (lc + 162)) (hm : wlm (xw X) = true) (hn : xn X = 3) (hT : T2 X) (hR : ∀ {S : Sr} {D : Dat} {z : Sum Nat Int32 × Sr × Dat}, rec  S D = some z → C2 (xl X) (xw X) yX5_readExpression cX5_readExpression 2 (some .int) fr lc [.ref (wb (xw X) + pp 3)] nu S D (ri z)) (hrec_6 : ∀ (x1 : Int32) (S : Sr) (D : Dat), rec_6 x1 S D = some z → V X (Q2 X nu (ru z)) S.1 (Az nu S) D 6 [(0, .ref (bo X + pp 3)), (1, .int x1)] []) (x1 : Int32) (S : Sr) (D : Dat) (h : f_X5_readProduct_b31 rec N nu rec_6 x1 S D = some z) : V X (Q2 X nu (ru z)) S.1 (Az nu S) D 31 [(0, .ref (bo X + pp 3)), (1, .int x1)] [] := by
  unfold f_X5_readProduct_b31 at h
  refine v_aload_n (pc := 31) O dX5_readProduct_31 0 rfl ?_
  refine v_getI (pc := 32) (a := 3) O gf_X5_6 fl_X5_70 kq_3 dX5_readProduct_32 ?_
  refine v_bipush (pc := 35) O dX5_readProduct_35 bp_42 ?_
  refine v_icmpne (pc := 37) 45 O dX5_readProduct_37 (by decide) (fun c11 => ?_) (fun c11 => ?_)
  · have h := (if_neg c11).symm.trans h
    refine v_bipush (pc := 45) O dX5_readProduct_45 bp_8 ?_
    refine v_sub [0, 1] rfl ?_
    exact w_X5_readProduct_b47 O hm hn hT hR hrec_6 x1 8 S D h
  · have h := (if_pos c11).symm.trans h
    refine v_bipush (pc := 40) O dX5_readProduct_40 bp_7 ?_
    refine v_goto (pc := 42) 47 O dX5_readProduct_42 (by decide) ?_
    refine v_sub [0, 1] rfl ?_
    exact w_X5_readProduct_b47 O hm hn hT hR hrec_6 x1 7 S D h
def f_X5_readProduct_b6 (rec : Sr → Dat → Option (Sum Nat Int32 × Sr × Dat)) (N : Nat) (nu : Nat) : Nat → Int32 → Sr → Dat → Option (Sum Nat Unit × Sr × Dat)
  | 0, _, _, _ => none
  | g + 1, x1, S, D => if 240 ≤ x1 then (f_X5_readProduct_b77 rec N nu S D) else (if (dI D 3 6) = 42 then (f_X5_readProduct_b31 rec N nu (f_X5_readProduct_b6 rec N nu g) x1 S D) else (if (dI D 3 6) = 47 then (f_X5_readProduct_b31 rec N nu (f_X5_readProduct_b6 rec N nu g) x1 S D) else (f_X5_readProduct_b77 rec N nu S D)))
set_option maxHeartbeats 4000000 in
theorem w_X5_readProduct_b6 {X : Cx} {nu : Nat} {rec : Sr → Dat → Option (Sum Nat Int32 × Sr × Dat)} {N : Nat} {fr lc : Nat} {z : Sum Nat Unit × Sr × Dat} (O : Ok X cX5_readProduct RX5 none (fr + 9) (lc + 162)) (hm : wlm (xw X) = true) (hn : xn X = 3) (hT : T2 X) (hR : ∀ {S : Sr} {D : Dat} {z : Sum Nat Int32 × Sr × Dat}, rec  S D = some z → C2 (xl X) (xw X) yX5_readExpression cX5_readExpression 2 (some .int) fr lc [.ref (wb (xw X) + pp 3)] nu S D (ri z)) : ∀ (g : Nat) (x1 : Int32) (S : Sr) (D : Dat), f_X5_readProduct_b6 rec N nu g x1 S D = some z → V X (Q2 X nu (ru z)) S.1 (Az nu S) D 6 [(0, .ref (bo X + pp 3)), (1, .int x1)] [] := by
  intro g
  induction g with
  | zero => intro x1 S D h; exact absurd h (by simp [f_X5_readProduct_b6])
  | succ g ih =>
    intro x1 S D h
    rw [f_X5_readProduct_b6] at h
    refine v_iload_n (pc := 6) O dX5_readProduct_6 1 rfl ?_
    refine v_sipush (pc := 7) O dX5_readProduct_7 sp_240 ?_
    refine v_icmpge (pc := 10) 77 O dX5_readProduct_10 (by decide) (fun c12 => ?_) (fun c12 => ?_)
    · have h := (if_pos c12).symm.trans h
      refine v_sub [] rfl ?_
      exact w_X5_readProduct_b77 O hm hn hT hR S D h
    · have h := (if_neg c12).symm.trans h
      refine v_aload_n (pc := 13) O dX5_readProduct_13 0 rfl ?_
      refine v_getI (pc := 14) (a := 3) O gf_X5_6 fl_X5_70 kq_3 dX5_readProduct_14 ?_
      refine v_bipush (pc := 17) O dX5_readProduct_17 bp_42 ?_
      refine v_icmpeq (pc := 19) 31 O dX5_readProduct_19 (by decide) (fun c13 => ?_) (fun c13 => ?_)
      · have h := (if_pos c13).symm.trans h
        refine v_sub [0, 1] rfl ?_
        exact w_X5_readProduct_b31 O hm hn hT hR ih x1 S D h
      · have h := (if_neg c13).symm.trans h
        refine v_aload_n (pc := 22) O dX5_readProduct_22 0 rfl ?_
        refine v_getI (pc := 23) (a := 3) O gf_X5_6 fl_X5_70 kq_3 dX5_readProduct_23 ?_
        refine v_bipush (pc := 26) O dX5_readProduct_26 bp_47 ?_
        refine v_icmpne (pc := 28) 77 O dX5_readProduct_28 (by decide) (fun c14 => ?_) (fun c14 => ?_)
        · have h := (if_neg c14).symm.trans h
          refine v_sub [] rfl ?_
          exact w_X5_readProduct_b77 O hm hn hT hR S D h
        · have h := (if_pos c14).symm.trans h
          refine v_sub [0, 1] rfl ?_
          exact w_X5_readProduct_b31 O hm hn hT hR ih x1 S D h
def f_X5_readProduct (rec : Sr → Dat → Option (Sum Nat Int32 × Sr × Dat)) (N : Nat) (nu : Nat) (S : Sr) (D : Dat) : Option (Sum Nat Unit × Sr × Dat) :=
  sb2 (f_X5_readFactor rec nu S D) (fun p15 S17 D17 => f_X5_readProduct_b6 rec N nu N 0 S17 D17)
set_option maxHeartbeats 4000000 in
theorem w_X5_readProduct {X : Cx} {nu : Nat} {rec : Sr → Dat → Option (Sum Nat Int32 × Sr × Dat)} {N : Nat} {fr lc : Nat} {z : Sum Nat Unit × Sr × Dat} (O : Ok X cX5_readProduct RX5 none (fr + 9) (lc + 162)) (hm : wlm (xw X) = true) (hn : xn X = 3) (hT : T2 X) (hR : ∀ {S : Sr} {D : Dat} {z : Sum Nat Int32 × Sr × Dat}, rec  S D = some z → C2 (xl X) (xw X) yX5_readExpression cX5_readExpression 2 (some .int) fr lc [.ref (wb (xw X) + pp 3)] nu S D (ri z)) (S : Sr) (D : Dat) (h : f_X5_readProduct rec N nu S D = some z) : V X (Q2 X nu (ru z)) S.1 (Az nu S) D 0 [(0, .ref (bo X + pp 3))] [] := by
  unfold f_X5_readProduct at h
  refine v_aload_n (pc := 0) O dX5_readProduct_0 0 rfl ?_
  rcases sb2_some h with ⟨p15, S17, D17, e16, rfl⟩ | ⟨p15, S17, D17, e16, h⟩
  · exact v_call2X (pc := 1) (a := 3) (As := []) (rest := []) (e := p15) (S' := S17) (D' := D17) O hT (c_X5_readFactor (nu := nu) hT.2.1 hm hR e16 :) mw_X5_readFactor im_X5_readFactor se_X5_readFactor ml_X5_252 kq_3 (by decide) rfl rfl rfl (by omega) (by omega) (Nat.le_of_ble_eq_true rfl) dX5_readProduct_1 rfl
  · refine v_call2 (pc := 1) (a := 3) (As := []) (rest := []) (r := none) (S' := S17) (D' := D17) O hT (c_X5_readFactor (nu := nu) hT.2.1 hm hR e16 :) mw_X5_readFactor im_X5_readFactor se_X5_readFactor ml_X5_252 kq_3 (by decide) rfl rfl rfl (by omega) (by omega) (Nat.le_of_ble_eq_true rfl) dX5_readProduct_1 rfl rfl ?_
    refine v_iconst (pc := 4) O dX5_readProduct_4 ic_0 ?_
    refine v_istore_n (pc := 5) (lv' := [(1, .int 0), (0, .ref (bo X + pp 3))]) O dX5_readProduct_5 rfl (by rw [hn]; decide) rfl ?_
    refine v_sub [1, 0] rfl ?_
    exact w_X5_readProduct_b6 O hm hn hT hR N 0 S17 D17 h
theorem c_X5_readProduct {l : Launch} {w : Wx} {nu : Nat} {rec : Sr → Dat → Option (Sum Nat Int32 × Sr × Dat)} {N : Nat} {fr lc : Nat} (hl : l.stackTraces = false) (hm : wlm w = true) (hR : ∀ {S : Sr} {D : Dat} {z : Sum Nat Int32 × Sr × Dat}, rec  S D = some z → C2 l w yX5_readExpression cX5_readExpression 2 (some .int) fr lc [.ref (wb w + pp 3)] nu S D (ri z)) {S : Sr} {D : Dat} {z : Sum Nat Unit × Sr × Dat} (h : f_X5_readProduct rec N nu S D = some z) : C2 l w yX5_readProduct cX5_readProduct 3 none (fr + 9) (lc + 162) [.ref (wb w + pp 3)] nu S D (ru z) :=
  C2.of hl (by decide) (Nat.le_of_ble_eq_true rfl) (fun X e1 e2 e3 hT O _ _ => by
  subst e1
  subst e2
  exact w_X5_readProduct O hm e3 hT hR  S D h)
def f_X5_readSum_b76 (rec : Sr → Dat → Option (Sum Nat Int32 × Sr × Dat)) (N : Nat) (nu : Nat) (S : Sr) (D : Dat) : Option (Sum Nat Unit × Sr × Dat) :=
  some (.inr (), S, D)
set_option maxHeartbeats 4000000 in
theorem w_X5_readSum_b76 {X : Cx} {nu : Nat} {rec : Sr → Dat → Option (Sum Nat Int32 × Sr × Dat)} {N : Nat} {fr lc : Nat} {z : Sum Nat Unit × Sr × Dat} (O : Ok X cX5_readSum RX5 none (fr + 10) (lc + 184)) (hm : wlm (xw X) = true) (hn : xn X = 3) (hT : T2 X) (hR : ∀ {S : Sr} {D : Dat} {z : Sum Nat Int32 × Sr × Dat}, rec  S D = some z → C2 (xl X) (xw X) yX5_readExpression cX5_readExpression 2 (some .int) fr lc [.ref (wb (xw X) + pp 3)] nu S D (ri z)) (S : Sr) (D : Dat) (h : f_X5_readSum_b76 rec N nu S D = some z) : V X (Q2 X nu (ru z)) S.1 (Az nu S) D 76 [] [] := by
  unfold f_X5_readSum_b76 at h
  obtain rfl := Option.some.inj h
  exact v_vret2 (pc := 76) O dX5_readSum_76
def f_X5_readSum_b46 (rec : Sr → Dat → Option (Sum Nat Int32 × Sr × Dat)) (N : Nat) (nu : Nat) (rec_6 : Int32 → Sr → Dat → Option (Sum Nat Unit × Sr × Dat)) (x1 : Int32) (s0 : Int32) (S : Sr) (D : Dat) : Option (Sum Nat Unit × Sr × Dat) :=
  (f_X5_goTo ((dI D 3 8) + (1 : Int32)) D).bind (fun p1 => sb2 (f_X5_readProduct rec N nu S p1) (fun p3 S5 D5 => ((dR D5 3 4)).bind (fun a6 => if a6 = 191 ∨ a6 = 196 then ((f_X4_add a6 s0 0 D5).bind (fun p9 => rec_6 (x1 + 1) S5 p9)) else none)))
set_option maxHeartbeats 4000000 in
theorem w_X5_readSum_b46 {X : Cx} {nu : Nat} {rec : Sr → Dat → Option (Sum Nat Int32 × Sr × Dat)} {N : Nat} {fr lc : Nat} {rec_6 : Int32 → Sr → Dat → Option (Sum Nat Unit × Sr × Dat)} {z : Sum Nat Unit × Sr × Dat} (O : Ok X cX5_readSum RX5 none (fr + 10) (lc + 184)) (hm : wlm (xw X) = true) (hn : xn X = 3) (hT : T2 X) (hR : ∀ {S : Sr} {D : Dat} {z : Sum Nat Int32 × Sr × Dat}, rec  S D = some z → C2 (xl X) (xw X) yX5_readExpression cX5_readExpression 2 (some .int) fr lc [.ref (wb (xw X) + pp 3)] nu S D (ri z)) (hrec_6 : ∀ (x1 : Int32) (S : Sr) (D : Dat), rec_6 x1 S D = some z → V X (Q2 X nu (ru z)) S.1 (Az nu S) D 6 [(0, .ref (bo X + pp 3)), (1, .int x1)] []) (x1 : Int32) (s0 : Int32) (S : Sr) (D : Dat) (h : f_X5_readSum_b46 rec N nu rec_6 x1 s0 S D = some z) : V X (Q2 X nu (ru z)) S.1 (Az nu S) D 46 [(0, .ref (bo X + pp 3)), (1, .int x1)] [.int s0] := by
  unfold f_X5_readSum_b46 at h
  refine v_istore_n (pc := 46) (lv' := [(2, .int s0), (0, .ref (bo X + pp 3)), (1, .int x1)]) O dX5_readSum_46 rfl (by rw [hn]; decide) rfl ?_
  refine v_aload_n (pc := 47) O dX5_readSum_47 1 rfl ?_
  refine v_aload_n (pc := 48) O dX5_readSum_48 1 rfl ?_
  refine v_getI (pc := 49) (a := 3) O gf_X5_8 fl_X5_153 kq_3 dX5_readSum_49 ?_
  refine v_iconst (pc := 52) O dX5_readSum_52 ic_1 ?_
  refine v_iadd (pc := 53) O dX5_readSum_53 ?_
  obtain ⟨p1, e2, h⟩ := bind_some h
  refine v_callV (pc := 54) (a := 3) (As := [.int ((dI D 3 8) + (1 : Int32))]) (rest := []) (r := none) (D' := p1) O (bb2 hT) (c_X5_goTo hm e2) mw_X5_goTo im_X5_goTo se_X5_goTo ml_X5_66 kq_3 (by decide) rfl rfl rfl (by omega) (by omega) (Nat.le_of_ble_eq_true rfl) dX5_readSum_54 rfl rfl ?_
  refine v_aload_n (pc := 57) O dX5_readSum_57 1 rfl ?_
  rcases sb2_some h with ⟨p3, S5, D5, e4, rfl⟩ | ⟨p3, S5, D5, e4, h⟩
  · exact v_call2X (pc := 58) (a := 3) (As := []) (rest := []) (e := p3) (S' := S5) (D' := D5) O hT (c_X5_readProduct (nu := nu) hT.2.1 hm hR e4 :) mw_X5_readProduct im_X5_readProduct se_X5_readProduct ml_X5_249 kq_3 (by decide) rfl rfl rfl (by omega) (by omega) (Nat.le_of_ble_eq_true rfl) dX5_readSum_58 rfl
  · refine v_call2 (pc := 58) (a := 3) (As := []) (rest := []) (r := none) (S' := S5) (D' := D5) O hT (c_X5_readProduct (nu := nu) hT.2.1 hm hR e4 :) mw_X5_readProduct im_X5_readProduct se_X5_readProduct ml_X5_249 kq_3 (by decide) rfl rfl rfl (by omega) (by omega) (Nat.le_of_ble_eq_true rfl) dX5_readSum_58 rfl rfl ?_
    refine v_aload_n (pc := 61) O dX5_readSum_61 1 rfl ?_
    refine v_getR (pc := 62) (a := 3) O gf_X5_4 fl_X5_45 kq_3 dX5_readSum_62 ?_
    refine v_iload_n (pc := 65) O dX5_readSum_65 0 rfl ?_
    refine v_iconst (pc := 66) O dX5_readSum_66 ic_0 ?_
    obtain ⟨a6, e7, h⟩ := bind_some h
    rw [e7]
    obtain ⟨c8, h⟩ := if_none h
    obtain ⟨p9, e10, h⟩ := bind_some h
    refine v_callV (pc := 67) (a := a6) (As := [.int s0, .int 0]) (rest := []) (r := none) (D' := p9) O (bb2 hT) (c_X4_add hm c8 e10) mw_X4_add im_X4_add se_X4_add ml_X5_246 (kt_X4 c8) (by decide) rfl rfl rfl (by omega) (by omega) (Nat.le_of_ble_eq_true rfl) dX5_readSum_67 rfl rfl ?_
    refine v_iinc (pc := 70) (lv' := [(1, .int (x1 + 1)), (2, .int s0), (0, .ref (bo X + pp 3))]) O dX5_readSum_70 2 rfl (congrArg (fun q => x1 + q) ic_1) (by rw [hn]; decide) rfl ?_
    refine v_goto (pc := 73) 6 O dX5_readSum_73 (by decide) ?_
    refine v_sub [2, 0] rfl ?_
    exact hrec_6 (x1 + 1) S5 p9 h
def f_X5_readSum_b31 (rec : Sr → Dat → Option (Sum Nat Int32 × Sr × Dat)) (N : Nat) (nu : Nat) (rec_6 : Int32 → Sr → Dat → Option (Sum Nat Unit × Sr × Dat)) (x1 : Int32) (S : Sr) (D : Dat) : Option (Sum Nat Unit × Sr × Dat) :=
  if (dI D 3 6) = 43 then (f_X5_readSum_b46 rec N nu rec_6 x1 5 S D) else (f_X5_readSum_b46 rec N nu rec_6 x1 6 S D)
set_option maxHeartbeats 4000000 in
theorem w_X5_readSum_b31 {X : Cx} {nu : Nat} {rec : Sr → Dat → Option (Sum Nat Int32 × Sr × Dat)} {N : Nat} {fr lc : Nat} {rec_6 : Int32 → Sr → Dat → Option (Sum Nat Unit × Sr × Dat)} {z : Sum Nat Unit × Sr × Dat} (O : Ok X cX5_readSum RX5 none (fr + 10) (lc + 184)) (hm : wlm (xw X) = true) (hn : xn X = 3) (hT : T2 X) (hR : ∀ {S : Sr} {D : Dat} {z : Sum Nat Int32 × Sr × Dat}, rec  S D = some z → C2 (xl X) (xw X) yX5_readExpression cX5_readExpression 2 (some .int) fr lc [.ref (wb (xw X) + pp 3)] nu S D (ri z)) (hrec_6 : ∀ (x1 : Int32) (S : Sr) (D : Dat), rec_6 x1 S D = some z → V X (Q2 X nu (ru z)) S.1 (Az nu S) D 6 [(0, .ref (bo X + pp 3)), (1, .int x1)] []) (x1 : Int32) (S : Sr) (D : Dat) (h : f_X5_readSum_b31 rec N nu rec_6 x1 S D = some z) : V X (Q2 X nu (ru z)) S.1 (Az nu S) D 31 [(0, .ref (bo X + pp 3)), (1, .int x1)] [] := by
  unfold f_X5_readSum_b31 at h
  refine v_aload_n (pc := 31) O dX5_readSum_31 0 rfl ?_
  refine v_getI (pc := 32) (a := 3) O gf_X5_6 fl_X5_70 kq_3 dX5_readSum_32 ?_
  refine v_bipush (pc := 35) O dX5_readSum_35 bp_43 ?_
  refine v_icmpne (pc := 37) 44 O dX5_readSum_37 (by decide) (fun c11 => ?_) (fun c11 => ?_)
  · have h := (if_neg c11).symm.trans h
    refine v_bipush (pc := 44) O dX5_readSum_44 bp_6 ?_
    refine v_sub [0, 1] rfl ?_
    exact w_X5_readSum_b46 O hm hn hT hR hrec_6 x1 6 S D h
  · have h := (if_pos c11).symm.trans h
    refine v_iconst (pc := 40) O dX5_readSum_40 ic_5 ?_
    refine v_goto (pc := 41) 46 O dX5_readSum_41 (by decide) ?_
    refine v_sub [0, 1] rfl ?_
    exact w_X5_readSum_b46 O hm hn hT hR hrec_6 x1 5 S D h
def f_X5_readSum_b6 (rec : Sr → Dat → Option (Sum Nat Int32 × Sr × Dat)) (N : Nat) (nu : Nat) : Nat → Int32 → Sr → Dat → Option (Sum Nat Unit × Sr × Dat)
  | 0, _, _, _ => none
  | g + 1, x1, S, D => if 240 ≤ x1 then (f_X5_readSum_b76 rec N nu S D) else (if (dI D 3 6) = 43 then (f_X5_readSum_b31 rec N nu (f_X5_readSum_b6 rec N nu g) x1 S D) else (if (dI D 3 6) = 45 then (f_X5_readSum_b31 rec N nu (f_X5_readSum_b6 rec N nu g) x1 S D) else (f_X5_readSum_b76 rec N nu S D)))
set_option maxHeartbeats 4000000 in
theorem w_X5_readSum_b6 {X : Cx} {nu : Nat} {rec : Sr → Dat → Option (Sum Nat Int32 × Sr × Dat)} {N : Nat} {fr lc : Nat} {z : Sum Nat Unit × Sr × Dat} (O : Ok X cX5_readSum RX5 none (fr + 10) (lc + 184)) (hm : wlm (xw X) = true) (hn : xn X = 3) (hT : T2 X) (hR : ∀ {S : Sr} {D : Dat} {z : Sum Nat Int32 × Sr × Dat}, rec  S D = some z → C2 (xl X) (xw X) yX5_readExpression cX5_readExpression 2 (some .int) fr lc [.ref (wb (xw X) + pp 3)] nu S D (ri z)) : ∀ (g : Nat) (x1 : Int32) (S : Sr) (D : Dat), f_X5_readSum_b6 rec N nu g x1 S D = some z → V X (Q2 X nu (ru z)) S.1 (Az nu S) D 6 [(0, .ref (bo X + pp 3)), (1, .int x1)] [] := by
  intro g
  induction g with
  | zero => intro x1 S D h; exact absurd h (by simp [f_X5_readSum_b6])
  | succ g ih =>
    intro x1 S D h
    rw [f_X5_readSum_b6] at h
    refine v_iload_n (pc := 6) O dX5_readSum_6 1 rfl ?_
    refine v_sipush (pc := 7) O dX5_readSum_7 sp_240 ?_
    refine v_icmpge (pc := 10) 76 O dX5_readSum_10 (by decide) (fun c12 => ?_) (fun c12 => ?_)
    · have h := (if_pos c12).symm.trans h
      refine v_sub [] rfl ?_
      exact w_X5_readSum_b76 O hm hn hT hR S D h
    · have h := (if_neg c12).symm.trans h
      refine v_aload_n (pc := 13) O dX5_readSum_13 0 rfl ?_
      refine v_getI (pc := 14) (a := 3) O gf_X5_6 fl_X5_70 kq_3 dX5_readSum_14 ?_
      refine v_bipush (pc := 17) O dX5_readSum_17 bp_43 ?_
      refine v_icmpeq (pc := 19) 31 O dX5_readSum_19 (by decide) (fun c13 => ?_) (fun c13 => ?_)
      · have h := (if_pos c13).symm.trans h
        refine v_sub [0, 1] rfl ?_
        exact w_X5_readSum_b31 O hm hn hT hR ih x1 S D h
      · have h := (if_neg c13).symm.trans h
        refine v_aload_n (pc := 22) O dX5_readSum_22 0 rfl ?_
        refine v_getI (pc := 23) (a := 3) O gf_X5_6 fl_X5_70 kq_3 dX5_readSum_23 ?_
        refine v_bipush (pc := 26) O dX5_readSum_26 bp_45 ?_
        refine v_icmpne (pc := 28) 76 O dX5_readSum_28 (by decide) (fun c14 => ?_) (fun c14 => ?_)
        · have h := (if_neg c14).symm.trans h
          refine v_sub [] rfl ?_
          exact w_X5_readSum_b76 O hm hn hT hR S D h
        · have h := (if_pos c14).symm.trans h
          refine v_sub [0, 1] rfl ?_
          exact w_X5_readSum_b31 O hm hn hT hR ih x1 S D h
def f_X5_readSum (rec : Sr → Dat → Option (Sum Nat Int32 × Sr × Dat)) (N : Nat) (nu : Nat) (S : Sr) (D : Dat) : Option (Sum Nat Unit × Sr × Dat) :=
  sb2 (f_X5_readProduct rec N nu S D) (fun p15 S17 D17 => f_X5_readSum_b6 rec N nu N 0 S17 D17)
set_option maxHeartbeats 4000000 in
theorem w_X5_readSum {X : Cx} {nu : Nat} {rec : Sr → Dat → Option (Sum Nat Int32 × Sr × Dat)} {N : Nat} {fr lc : Nat} {z : Sum Nat Unit × Sr × Dat} (O : Ok X cX5_readSum RX5 none (fr + 10) (lc + 184)) (hm : wlm (xw X) = true) (hn : xn X = 3) (hT : T2 X) (hR : ∀ {S : Sr} {D : Dat} {z : Sum Nat Int32 × Sr × Dat}, rec  S D = some z → C2 (xl X) (xw X) yX5_readExpression cX5_readExpression 2 (some .int) fr lc [.ref (wb (xw X) + pp 3)] nu S D (ri z)) (S : Sr) (D : Dat) (h : f_X5_readSum rec N nu S D = some z) : V X (Q2 X nu (ru z)) S.1 (Az nu S) D 0 [(0, .ref (bo X + pp 3))] [] := by
  unfold f_X5_readSum at h
  refine v_aload_n (pc := 0) O dX5_readSum_0 0 rfl ?_
  rcases sb2_some h with ⟨p15, S17, D17, e16, rfl⟩ | ⟨p15, S17, D17, e16, h⟩
  · exact v_call2X (pc := 1) (a := 3) (As := []) (rest := []) (e := p15) (S' := S17) (D' := D17) O hT (c_X5_readProduct (nu := nu) hT.2.1 hm hR e16 :) mw_X5_readProduct im_X5_readProduct se_X5_readProduct ml_X5_249 kq_3 (by decide) rfl rfl rfl (by omega) (by omega) (Nat.le_of_ble_eq_true rfl) dX5_readSum_1 rfl
  · refine v_call2 (pc := 1) (a := 3) (As := []) (rest := []) (r := none) (S' := S17) (D' := D17) O hT (c_X5_readProduct (nu := nu) hT.2.1 hm hR e16 :) mw_X5_readProduct im_X5_readProduct se_X5_readProduct ml_X5_249 kq_3 (by decide) rfl rfl rfl (by omega) (by omega) (Nat.le_of_ble_eq_true rfl) dX5_readSum_1 rfl rfl ?_
    refine v_iconst (pc := 4) O dX5_readSum_4 ic_0 ?_
    refine v_istore_n (pc := 5) (lv' := [(1, .int 0), (0, .ref (bo X + pp 3))]) O dX5_readSum_5 rfl (by rw [hn]; decide) rfl ?_
    refine v_sub [1, 0] rfl ?_
    exact w_X5_readSum_b6 O hm hn hT hR N 0 S17 D17 h
theorem c_X5_readSum {l : Launch} {w : Wx} {nu : Nat} {rec : Sr → Dat → Option (Sum Nat Int32 × Sr × Dat)} {N : Nat} {fr lc : Nat} (hl : l.stackTraces = false) (hm : wlm w = true) (hR : ∀ {S : Sr} {D : Dat} {z : Sum Nat Int32 × Sr × Dat}, rec  S D = some z → C2 l w yX5_readExpression cX5_readExpression 2 (some .int) fr lc [.ref (wb w + pp 3)] nu S D (ri z)) {S : Sr} {D : Dat} {z : Sum Nat Unit × Sr × Dat} (h : f_X5_readSum rec N nu S D = some z) : C2 l w yX5_readSum cX5_readSum 3 none (fr + 10) (lc + 184) [.ref (wb w + pp 3)] nu S D (ru z) :=
  C2.of hl (by decide) (Nat.le_of_ble_eq_true rfl) (fun X e1 e2 e3 hT O _ _ => by
  subst e1
  subst e2
  exact w_X5_readSum O hm e3 hT hR  S D h)
def f_X5_readExpression_s_b62 (rec : Sr → Dat → Option (Sum Nat Int32 × Sr × Dat)) (N : Nat) (nu : Nat) (S : Sr) (D : Dat) : Option (Sum Nat Int32 × Sr × Dat) :=
  ((dR D 3 4)).bind (fun a1 => if a1 = 191 ∨ a1 = 196 then ((f_X4_size a1 D).bind (fun p4 => some (.inr p4.1, S, p4.2))) else none)
set_option maxHeartbeats 4000000 in
theorem w_X5_readExpression_s_b62 {X : Cx} {nu : Nat} {rec : Sr → Dat → Option (Sum Nat Int32 × Sr × Dat)} {N : Nat} {fr lc : Nat} {z : Sum Nat Int32 × Sr × Dat} (O : Ok X cX5_readExpression RX5 (some .int) (fr + 11) (lc + 206)) (hm : wlm (xw X) = true) (hn : xn X = 2) (hT : T2 X) (hR : ∀ {S : Sr} {D : Dat} {z : Sum Nat Int32 × Sr × Dat}, rec  S D = some z → C2 (xl X) (xw X) yX5_readExpression cX5_readExpression 2 (some .int) fr lc [.ref (wb (xw X) + pp 3)] nu S D (ri z)) (S : Sr) (D : Dat) (h : f_X5_readExpression_s_b62 rec N nu S D = some z) : V X (Q2 X nu (ri z)) S.1 (Az nu S) D 62 [(0, .ref (bo X + pp 3))] [] := by
  unfold f_X5_readExpression_s_b62 at h
  refine v_aload_n (pc := 62) O dX5_readExpression_62 0 rfl ?_
  refine v_getR (pc := 63) (a := 3) O gf_X5_4 fl_X5_45 kq_3 dX5_readExpression_63 ?_
  obtain ⟨a1, e2, h⟩ := bind_some h
  rw [e2]
  obtain ⟨c3, h⟩ := if_none h
  obtain ⟨p4, e5, h⟩ := bind_some h
  refine v_callV (pc := 66) (a := a1) (As := []) (rest := []) (r := (some (.int p4.1))) (D' := p4.2) O (bb2 hT) (c_X4_size hm c3 e5) mw_X4_size im_X4_size se_X4_size ml_X5_199 (kt_X4 c3) (by decide) rfl rfl rfl (by omega) (by omega) (Nat.le_of_ble_eq_true rfl) dX5_readExpression_66 rfl rfl ?_
  obtain rfl := Option.some.inj h
  exact v_iret2 (pc := 69) O dX5_readExpression_69
def f_X5_readExpression_s_b33 (rec : Sr → Dat → Option (Sum Nat Int32 × Sr × Dat)) (N : Nat) (nu : Nat) (s0 : Int32) (S : Sr) (D : Dat) : Option (Sum Nat Int32 × Sr × Dat) :=
  if s0 = (-1) then (f_X5_readExpression_s_b62 rec N nu S D) else ((f_X5_goTo ((dI D 3 8) + (1 : Int32)) D).bind (fun p7 => sb2 (f_X5_readSum rec N nu S p7) (fun p9 S11 D11 => ((dR D11 3 4)).bind (fun a12 => if a12 = 191 ∨ a12 = 196 then ((f_X4_add a12 s0 0 D11).bind (fun p15 => f_X5_readExpression_s_b62 rec N nu S11 p15)) else none))))
set_option maxHeartbeats 4000000 in
theorem w_X5_readExpression_s_b33 {X : Cx} {nu : Nat} {rec : Sr → Dat → Option (Sum Nat Int32 × Sr × Dat)} {N : Nat} {fr lc : Nat} {z : Sum Nat Int32 × Sr × Dat} (O : Ok X cX5_readExpression RX5 (some .int) (fr + 11) (lc + 206)) (hm : wlm (xw X) = true) (hn : xn X = 2) (hT : T2 X) (hR : ∀ {S : Sr} {D : Dat} {z : Sum Nat Int32 × Sr × Dat}, rec  S D = some z → C2 (xl X) (xw X) yX5_readExpression cX5_readExpression 2 (some .int) fr lc [.ref (wb (xw X) + pp 3)] nu S D (ri z)) (s0 : Int32) (S : Sr) (D : Dat) (h : f_X5_readExpression_s_b33 rec N nu s0 S D = some z) : V X (Q2 X nu (ri z)) S.1 (Az nu S) D 33 [(0, .ref (bo X + pp 3))] [.int s0] := by
  unfold f_X5_readExpression_s_b33 at h
  refine v_istore_n (pc := 33) (lv' := [(1, .int s0), (0, .ref (bo X + pp 3))]) O dX5_readExpression_33 rfl (by rw [hn]; decide) rfl ?_
  refine v_iload_n (pc := 34) O dX5_readExpression_34 0 rfl ?_
  refine v_iconst (pc := 35) O dX5_readExpression_35 ic_m1 ?_
  refine v_icmpeq (pc := 36) 62 O dX5_readExpression_36 (by decide) (fun c6 => ?_) (fun c6 => ?_)
  · have h := (if_pos c6).symm.trans h
    refine v_sub [1] rfl ?_
    exact w_X5_readExpression_s_b62 O hm hn hT hR S D h
  · have h := (if_neg c6).symm.trans h
    refine v_aload_n (pc := 39) O dX5_readExpression_39 1 rfl ?_
    refine v_aload_n (pc := 40) O dX5_readExpression_40 1 rfl ?_
    refine v_getI (pc := 41) (a := 3) O gf_X5_8 fl_X5_153 kq_3 dX5_readExpression_41 ?_
    refine v_iconst (pc := 44) O dX5_readExpression_44 ic_1 ?_
    refine v_iadd (pc := 45) O dX5_readExpression_45 ?_
    obtain ⟨p7, e8, h⟩ := bind_some h
    refine v_callV (pc := 46) (a := 3) (As := [.int ((dI D 3 8) + (1 : Int32))]) (rest := []) (r := none) (D' := p7) O (bb2 hT) (c_X5_goTo hm e8) mw_X5_goTo im_X5_goTo se_X5_goTo ml_X5_66 kq_3 (by decide) rfl rfl rfl (by omega) (by omega) (Nat.le_of_ble_eq_true rfl) dX5_readExpression_46 rfl rfl ?_
    refine v_aload_n (pc := 49) O dX5_readExpression_49 1 rfl ?_
    rcases sb2_some h with ⟨p9, S11, D11, e10, rfl⟩ | ⟨p9, S11, D11, e10, h⟩
    · exact v_call2X (pc := 50) (a := 3) (As := []) (rest := []) (e := p9) (S' := S11) (D' := D11) O hT (c_X5_readSum (nu := nu) hT.2.1 hm hR e10 :) mw_X5_readSum im_X5_readSum se_X5_readSum ml_X5_243 kq_3 (by decide) rfl rfl rfl (by omega) (by omega) (Nat.le_of_ble_eq_true rfl) dX5_readExpression_50 rfl
    · refine v_call2 (pc := 50) (a := 3) (As := []) (rest := []) (r := none) (S' := S11) (D' := D11) O hT (c_X5_readSum (nu := nu) hT.2.1 hm hR e10 :) mw_X5_readSum im_X5_readSum se_X5_readSum ml_X5_243 kq_3 (by decide) rfl rfl rfl (by omega) (by omega) (Nat.le_of_ble_eq_true rfl) dX5_readExpression_50 rfl rfl ?_
      refine v_aload_n (pc := 53) O dX5_readExpression_53 1 rfl ?_
      refine v_getR (pc := 54) (a := 3) O gf_X5_4 fl_X5_45 kq_3 dX5_readExpression_54 ?_
      refine v_iload_n (pc := 57) O dX5_readExpression_57 0 rfl ?_
      refine v_iconst (pc := 58) O dX5_readExpression_58 ic_0 ?_
      obtain ⟨a12, e13, h⟩ := bind_some h
      rw [e13]
      obtain ⟨c14, h⟩ := if_none h
      obtain ⟨p15, e16, h⟩ := bind_some h
      refine v_callV (pc := 59) (a := a12) (As := [.int s0, .int 0]) (rest := []) (r := none) (D' := p15) O (bb2 hT) (c_X4_add hm c14 e16) mw_X4_add im_X4_add se_X4_add ml_X5_246 (kt_X4 c14) (by decide) rfl rfl rfl (by omega) (by omega) (Nat.le_of_ble_eq_true rfl) dX5_readExpression_59 rfl rfl ?_
      refine v_sub [1] rfl ?_
      exact w_X5_readExpression_s_b62 O hm hn hT hR S11 p15 h
def f_X5_readExpression_s (rec : Sr → Dat → Option (Sum Nat Int32 × Sr × Dat)) (N : Nat) (nu : Nat) (S : Sr) (D : Dat) : Option (Sum Nat Int32 × Sr × Dat) :=
  sb2 (f_X5_readSum rec N nu S D) (fun p17 S19 D19 => if (dI D19 3 6) = 60 then (f_X5_readExpression_s_b33 rec N nu 9 S19 D19) else (if (dI D19 3 6) = 61 then (f_X5_readExpression_s_b33 rec N nu 10 S19 D19) else (f_X5_readExpression_s_b33 rec N nu (-1) S19 D19)))
set_option maxHeartbeats 4000000 in
theorem w_X5_readExpression_s {X : Cx} {nu : Nat} {rec : Sr → Dat → Option (Sum Nat Int32 × Sr × Dat)} {N : Nat} {fr lc : Nat} {z : Sum Nat Int32 × Sr × Dat} (O : Ok X cX5_readExpression RX5 (some .int) (fr + 11) (lc + 206)) (hm : wlm (xw X) = true) (hn : xn X = 2) (hT : T2 X) (hR : ∀ {S : Sr} {D : Dat} {z : Sum Nat Int32 × Sr × Dat}, rec  S D = some z → C2 (xl X) (xw X) yX5_readExpression cX5_readExpression 2 (some .int) fr lc [.ref (wb (xw X) + pp 3)] nu S D (ri z)) (S : Sr) (D : Dat) (h : f_X5_readExpression_s rec N nu S D = some z) : V X (Q2 X nu (ri z)) S.1 (Az nu S) D 0 [(0, .ref (bo X + pp 3))] [] := by
  unfold f_X5_readExpression_s at h
  refine v_aload_n (pc := 0) O dX5_readExpression_0 0 rfl ?_
  rcases sb2_some h with ⟨p17, S19, D19, e18, rfl⟩ | ⟨p17, S19, D19, e18, h⟩
  · exact v_call2X (pc := 1) (a := 3) (As := []) (rest := []) (e := p17) (S' := S19) (D' := D19) O hT (c_X5_readSum (nu := nu) hT.2.1 hm hR e18 :) mw_X5_readSum im_X5_readSum se_X5_readSum ml_X5_243 kq_3 (by decide) rfl rfl rfl (by omega) (by omega) (Nat.le_of_ble_eq_true rfl) dX5_readExpression_1 rfl
  · refine v_call2 (pc := 1) (a := 3) (As := []) (rest := []) (r := none) (S' := S19) (D' := D19) O hT (c_X5_readSum (nu := nu) hT.2.1 hm hR e18 :) mw_X5_readSum im_X5_readSum se_X5_readSum ml_X5_243 kq_3 (by decide) rfl rfl rfl (by omega) (by omega) (Nat.le_of_ble_eq_true rfl) dX5_readExpression_1 rfl rfl ?_
    refine v_aload_n (pc := 4) O dX5_readExpression_4 0 rfl ?_
    refine v_getI (pc := 5) (a := 3) O gf_X5_6 fl_X5_70 kq_3 dX5_readExpression_5 ?_
    refine v_bipush (pc := 8) O dX5_readExpression_8 bp_60 ?_
    refine v_icmpne (pc := 10) 18 O dX5_readExpression_10 (by decide) (fun c20 => ?_) (fun c20 => ?_)
    · have h := (if_neg c20).symm.trans h
      refine v_aload_n (pc := 18) O dX5_readExpression_18 0 rfl ?_
      refine v_getI (pc := 19) (a := 3) O gf_X5_6 fl_X5_70 kq_3 dX5_readExpression_19 ?_
      refine v_bipush (pc := 22) O dX5_readExpression_22 bp_61 ?_
      refine v_icmpne (pc := 24) 32 O dX5_readExpression_24 (by decide) (fun c21 => ?_) (fun c21 => ?_)
      · have h := (if_neg c21).symm.trans h
        refine v_iconst (pc := 32) O dX5_readExpression_32 ic_m1 ?_
        refine v_sub [0] rfl ?_
        exact w_X5_readExpression_s_b33 O hm hn hT hR (-1) S19 D19 h
      · have h := (if_pos c21).symm.trans h
        refine v_bipush (pc := 27) O dX5_readExpression_27 bp_10 ?_
        refine v_goto (pc := 29) 33 O dX5_readExpression_29 (by decide) ?_
        refine v_sub [0] rfl ?_
        exact w_X5_readExpression_s_b33 O hm hn hT hR 10 S19 D19 h
    · have h := (if_pos c20).symm.trans h
      refine v_bipush (pc := 13) O dX5_readExpression_13 bp_9 ?_
      refine v_goto (pc := 15) 33 O dX5_readExpression_15 (by decide) ?_
      refine v_sub [0] rfl ?_
      exact w_X5_readExpression_s_b33 O hm hn hT hR 9 S19 D19 h
theorem c_X5_readExpression_s {l : Launch} {w : Wx} {nu : Nat} {rec : Sr → Dat → Option (Sum Nat Int32 × Sr × Dat)} {N : Nat} {fr lc : Nat} (hl : l.stackTraces = false) (hm : wlm w = true) (hR : ∀ {S : Sr} {D : Dat} {z : Sum Nat Int32 × Sr × Dat}, rec  S D = some z → C2 l w yX5_readExpression cX5_readExpression 2 (some .int) fr lc [.ref (wb w + pp 3)] nu S D (ri z)) {S : Sr} {D : Dat} {z : Sum Nat Int32 × Sr × Dat} (h : f_X5_readExpression_s rec N nu S D = some z) : C2 l w yX5_readExpression cX5_readExpression 2 (some .int) (fr + 11) (lc + 206) [.ref (wb w + pp 3)] nu S D (ri z) :=
  C2.of hl (by decide) (Nat.le_of_ble_eq_true rfl) (fun X e1 e2 e3 hT O _ _ => by
  subst e1
  subst e2
  exact w_X5_readExpression_s O hm e3 hT hR  S D h)
def f_X5_readExpression (N : Nat) (nu : Nat) : Nat → Sr → Dat → Option (Sum Nat Int32 × Sr × Dat)
  | 0, _, _ => none
  | d + 1, S, D => f_X5_readExpression_s (f_X5_readExpression N nu d) N nu S D
theorem c_X5_readExpression {l : Launch} {w : Wx} {nu : Nat} {N : Nat} (hl : l.stackTraces = false) (hm : wlm w = true) : ∀ (d : Nat) {S : Sr} {D : Dat} {z : Sum Nat Int32 × Sr × Dat} (h : f_X5_readExpression N nu d S D = some z), C2 l w yX5_readExpression cX5_readExpression 2 (some .int) (11 * d) (206 * d) [.ref (wb w + pp 3)] nu S D (ri z) := by
  intro d
  induction d with
  | zero => intro  S D z h; exact absurd h (by simp [f_X5_readExpression])
  | succ d ih =>
    intro  S D z h
    rw [f_X5_readExpression] at h
    exact c_X5_readExpression_s (fr := 11 * d) (lc := 206 * d) hl hm (fun h => ih h) h
def f_J1_charAt_3b067 (x0 : Nat) (x1 : Int32) (D : Dat) : Option (Int32 × Dat) :=
  if x0 < 10 then ((f_J0_checkIndex_df160 x1 (Int32.ofNat (slen.getD x0 0)) D).bind (fun p2 => if x0 < 10 then (if x1 < 0 ∨ slen.getD x0 0 ≤ (x1).toNatClampNeg then none else (if vp_nar .char ((((((sbyt.getD x0 []).getD (x1).toNatClampNeg 0) &&& (255 : Int32)) : Int32).toUInt32 % 65536).toInt32) = ((((((sbyt.getD x0 []).getD (x1).toNatClampNeg 0) &&& (255 : Int32)) : Int32).toUInt32 % 65536).toInt32) then some (((((((sbyt.getD x0 []).getD (x1).toNatClampNeg 0) &&& (255 : Int32)) : Int32).toUInt32 % 65536).toInt32), p2) else none)) else none)) else none
set_option maxHeartbeats 4000000 in
theorem w_J1_charAt_3b067 {X : Cx} {n nu c u : Nat} {K : Nat → Nat} {z : Int32 × Dat} (O : Ok X cJ1_charAt_3b067 RJ1 (some .char) 2 43) (hm : wlm (xw X) = true) (hn : xn X = 2) (hz : Z0 X (Ax nu K c u)) (x0 : Nat) (x1 : Int32) (D : Dat) (h : f_J1_charAt_3b067 x0 x1 D = some z) : V X (Q0 X n (Ax nu K c u) (some (.int z.1)) z.2) n (Ax nu K c u) D 0 [(0, .ref (woV (xw X) x0)), (1, .int x1)] [] := by
  unfold f_J1_charAt_3b067 at h
  refine v_iload_n (pc := 0) O dJ1_charAt_3b067_0 1 rfl ?_
  refine v_aload_n (pc := 1) O dJ1_charAt_3b067_1 0 rfl ?_
  obtain ⟨c1, h⟩ := if_none h
  refine v_blen (pc := 2) (i := x0) O c1 dJ1_charAt_3b067_2 ?_
  obtain ⟨p2, e3, h⟩ := bind_some h
  refine v_callS (pc := 3) (As := [.int x1, .int (Int32.ofNat (slen.getD x0 0))]) (rest := []) (r := none) (D' := p2) O (bb0 hz) (c_J0_checkIndex_df160 hm e3) mw_J0_checkIndex_df160 sm_J0_checkIndex_df160 ml_J1_9 rfl (by decide) (by decide) (Nat.le_of_ble_eq_true rfl) dJ1_charAt_3b067_3 rfl rfl ?_
  refine v_aload_n (pc := 6) O dJ1_charAt_3b067_6 0 rfl ?_
  refine v_iload_n (pc := 7) O dJ1_charAt_3b067_7 1 rfl ?_
  obtain ⟨c4, h⟩ := if_none h
  obtain ⟨c5, h⟩ := or_none h
  refine v_bald (pc := 8) (i := x0) O c4 c5 dJ1_charAt_3b067_8 ?_
  refine v_sipush (pc := 9) O dJ1_charAt_3b067_9 sp_255 ?_
  refine v_iand (pc := 12) O dJ1_charAt_3b067_12 ?_
  refine v_i2c (pc := 13) O dJ1_charAt_3b067_13 ?_
  obtain ⟨c6, h⟩ := if_none h
  obtain rfl := Option.some.inj h
  exact v_nret (pc := 14) O hz (nar_ok c6) dJ1_charAt_3b067_14
theorem c_J1_charAt_3b067 {l : Launch} {w : Wx} {n nu c u : Nat} {K : Nat → Nat} (hm : wlm w = true) {x0 : Nat} {x1 : Int32} {D : Dat} {z : Int32 × Dat} (h : f_J1_charAt_3b067 x0 x1 D = some z) : C0 l w yJ1_charAt_3b067 cJ1_charAt_3b067 2 (some .char) 2 43 [.ref (woV (w) x0), .int x1] n (Ax nu K c u) D (some (.int z.1)) z.2 :=
  C0.of (by decide) (Nat.le_of_ble_eq_true rfl) (fun X e1 e2 e3 hz O => by
  subst e1
  subst e2
  exact w_J1_charAt_3b067 O hm e3 hz x0 x1 D h)
def f_J1_indexOf_4cfef (N : Nat) (x0 : Nat) (x1 : Int32) (x2 : Int32) (x3 : Int32) (D : Dat) : Option (Int32 × Dat) :=
  (f_J1_canEncode_9a6ad x1 D).bind (fun p1 => if p1.1 = 0 then (some ((-1), p1.2)) else (if x0 < 10 then (if (if x2 < 0 then 0 else x2) < (if (Int32.ofNat (slen.getD x0 0)) < x3 then (Int32.ofNat (slen.getD x0 0)) else x3) then ((f_J1_indexOfChar_4cfef N x0 x1 (if x2 < 0 then 0 else x2) (if (Int32.ofNat (slen.getD x0 0)) < x3 then (Int32.ofNat (slen.getD x0 0)) else x3) p1.2).bind (fun p6 => some (p6.1, p6.2))) else (some ((-1), p1.2))) else none))
set_option maxHeartbeats 4000000 in
theorem w_J1_indexOf_4cfef {X : Cx} {n nu c u : Nat} {K : Nat → Nat} {N : Nat} {z : Int32 × Dat} (O : Ok X cJ1_indexOf_4cfef RJ1 (some .int) 1 30) (hm : wlm (xw X) = true) (hn : xn X = 4) (hz : Z0 X (Ax nu K c u)) (x0 : Nat) (x1 : Int32) (x2 : Int32) (x3 : Int32) (D : Dat) (h : f_J1_indexOf_4cfef N x0 x1 x2 x3 D = some z) : V X (Q0 X n (Ax nu K c u) (some (.int z.1)) z.2) n (Ax nu K c u) D 0 [(0, .ref (woV (xw X) x0)), (1, .int x1), (2, .int x2), (3, .int x3)] [] := by
  unfold f_J1_indexOf_4cfef at h
  refine v_iload_n (pc := 0) O dJ1_indexOf_4cfef_0 1 rfl ?_
  obtain ⟨p1, e2, h⟩ := bind_some h
  refine v_callS (pc := 1) (As := [.int x1]) (rest := []) (r := (some (.int p1.1))) (D' := p1.2) O (bb0 hz) (c_J1_canEncode_9a6ad hm e2) mw_J1_canEncode_9a6ad sm_J1_canEncode_9a6ad ml_J1_88 rfl (by decide) (by decide) (Nat.le_of_ble_eq_true rfl) dJ1_indexOf_4cfef_1 rfl rfl ?_
  refine v_ifne (pc := 4) 9 O dJ1_indexOf_4cfef_4 (by decide) (fun c3 => ?_) (fun c3 => ?_)
  · have h := (if_neg c3).symm.trans h
    refine v_iload_n (pc := 9) O dJ1_indexOf_4cfef_9 2 rfl ?_
    refine v_iconst (pc := 10) O dJ1_indexOf_4cfef_10 ic_0 ?_
    refine v_max (pc := 11) O (bb0 hz) ml_J1_92 sm_max ini_Math cw_max (by decide) (Nat.le_of_ble_eq_true rfl) dJ1_indexOf_4cfef_11 ?_
    refine v_istore_n (pc := 14) (lv' := [(2, .int (if x2 < 0 then 0 else x2)), (0, .ref (woV (xw X) x0)), (1, .int x1), (3, .int x3)]) O dJ1_indexOf_4cfef_14 rfl (by rw [hn]; decide) rfl ?_
    refine v_iload_n (pc := 15) O dJ1_indexOf_4cfef_15 3 rfl ?_
    refine v_aload_n (pc := 16) O dJ1_indexOf_4cfef_16 1 rfl ?_
    obtain ⟨c4, h⟩ := if_none h
    refine v_blen (pc := 17) (i := x0) O c4 dJ1_indexOf_4cfef_17 ?_
    refine v_min (pc := 18) O (bb0 hz) ml_J1_38 sm_min ini_Math cw_min (by decide) (Nat.le_of_ble_eq_true rfl) dJ1_indexOf_4cfef_18 ?_
    refine v_istore_n (pc := 21) (lv' := [(3, .int (if (Int32.ofNat (slen.getD x0 0)) < x3 then (Int32.ofNat (slen.getD x0 0)) else x3)), (2, .int (if x2 < 0 then 0 else x2)), (0, .ref (woV (xw X) x0)), (1, .int x1)]) O dJ1_indexOf_4cfef_21 rfl (by rw [hn]; decide) rfl ?_
    refine v_iload_n (pc := 22) O dJ1_indexOf_4cfef_22 1 rfl ?_
    refine v_iload_n (pc := 23) O dJ1_indexOf_4cfef_23 0 rfl ?_
    refine v_icmplt (pc := 24) 29 O dJ1_indexOf_4cfef_24 (by decide) (fun c5 => ?_) (fun c5 => ?_)
    · have h := (if_pos c5).symm.trans h
      refine v_aload_n (pc := 29) O dJ1_indexOf_4cfef_29 2 rfl ?_
      refine v_iload_n (pc := 30) O dJ1_indexOf_4cfef_30 3 rfl ?_
      refine v_iload_n (pc := 31) O dJ1_indexOf_4cfef_31 1 rfl ?_
      refine v_iload_n (pc := 32) O dJ1_indexOf_4cfef_32 0 rfl ?_
      obtain ⟨p6, e7, h⟩ := bind_some h
      refine v_callS (pc := 33) (As := [.ref (woV (xw X) x0), .int x1, .int (if x2 < 0 then 0 else x2), .int (if (Int32.ofNat (slen.getD x0 0)) < x3 then (Int32.ofNat (slen.getD x0 0)) else x3)]) (rest := []) (r := (some (.int p6.1))) (D' := p6.2) O (bb0 hz) (c_J1_indexOfChar_4cfef hm e7) mw_J1_indexOfChar_4cfef sm_J1_indexOfChar_4cfef ml_J1_95 rfl (by decide) (by decide) (Nat.le_of_ble_eq_true rfl) dJ1_indexOf_4cfef_33 rfl rfl ?_
      obtain rfl := Option.some.inj h
      exact v_iret (pc := 36) O hz dJ1_indexOf_4cfef_36
    · have h := (if_neg c5).symm.trans h
      refine v_iconst (pc := 27) O dJ1_indexOf_4cfef_27 ic_m1 ?_
      obtain rfl := Option.some.inj h
      exact v_iret (pc := 28) O hz dJ1_indexOf_4cfef_28
  · have h := (if_pos c3).symm.trans h
    refine v_iconst (pc := 7) O dJ1_indexOf_4cfef_7 ic_m1 ?_
    obtain rfl := Option.some.inj h
    exact v_iret (pc := 8) O hz dJ1_indexOf_4cfef_8
theorem c_J1_indexOf_4cfef {l : Launch} {w : Wx} {n nu c u : Nat} {K : Nat → Nat} {N : Nat} (hm : wlm w = true) {x0 : Nat} {x1 : Int32} {x2 : Int32} {x3 : Int32} {D : Dat} {z : Int32 × Dat} (h : f_J1_indexOf_4cfef N x0 x1 x2 x3 D = some z) : C0 l w yJ1_indexOf_4cfef cJ1_indexOf_4cfef 4 (some .int) 1 30 [.ref (woV (w) x0), .int x1, .int x2, .int x3] n (Ax nu K c u) D (some (.int z.1)) z.2 :=
  C0.of (by decide) (Nat.le_of_ble_eq_true rfl) (fun X e1 e2 e3 hz O => by
  subst e1
  subst e2
  exact w_J1_indexOf_4cfef O hm e3 hz x0 x1 x2 x3 D h)
def f_J0_charAt_5068e (t : Nat) (x1 : Int32) (D : Dat) : Option (Int32 × Dat) :=
  (f_J0_isLatin1_aae02 t D).bind (fun p1 => if p1.1 = 0 then none else ((f_J1_charAt_3b067 t x1 p1.2).bind (fun p4 => if vp_nar .char p4.1 = p4.1 then some (p4.1, p4.2) else none)))
set_option maxHeartbeats 4000000 in
theorem w_J0_charAt_5068e {X : Cx} {n nu c u : Nat} {K : Nat → Nat} {t : Nat} {z : Int32 × Dat} (O : Ok X cJ0_charAt_5068e RJ0 (some .char) 3 64) (hm : wlm (xw X) = true) (hn : xn X = 2) (hz : Z0 X (Ax nu K c u)) (ht : t < 10) (x1 : Int32) (D : Dat) (h : f_J0_charAt_5068e t x1 D = some z) : V X (Q0 X n (Ax nu K c u) (some (.int z.1)) z.2) n (Ax nu K c u) D 0 [(0, .ref (woK (xw X) t)), (1, .int x1)] [] := by
  unfold f_J0_charAt_5068e at h
  refine v_aload_n (pc := 0) O dJ0_charAt_5068e_0 0 rfl ?_
  obtain ⟨p1, e2, h⟩ := bind_some h
  refine v_callT (pc := 1) (i := t) (As := []) (rest := []) (r := (some (.int p1.1))) (D' := p1.2) O (bb0 hz) ht (c_J0_isLatin1_aae02 hm ht e2) mw_J0_isLatin1_aae02 im_J0_isLatin1_aae02 se_J0_isLatin1_aae02 ml_J0_492 rfl rfl (by decide) (by decide) (Nat.le_of_ble_eq_true rfl) dJ0_charAt_5068e_1 rfl rfl ?_
  refine v_ifeq (pc := 4) 16 O dJ0_charAt_5068e_4 (by decide) (fun c3 => ?_) (fun c3 => ?_)
  · have h := (if_pos c3).symm.trans h
    refine v_aload_n (pc := 16) O dJ0_charAt_5068e_16 0 rfl ?_
    refine v_sval (pc := 17) (i := t) O ht fl_J0_9 dJ0_charAt_5068e_17 ?_
    cases h
  · have h := (if_neg c3).symm.trans h
    refine v_aload_n (pc := 7) O dJ0_charAt_5068e_7 0 rfl ?_
    refine v_sval (pc := 8) (i := t) O ht fl_J0_9 dJ0_charAt_5068e_8 ?_
    refine v_iload_n (pc := 11) O dJ0_charAt_5068e_11 1 rfl ?_
    obtain ⟨p4, e5, h⟩ := bind_some h
    refine v_callS (pc := 12) (As := [.ref (woV (xw X) t), .int x1]) (rest := []) (r := (some (.int p4.1))) (D' := p4.2) O (bb0 hz) (c_J1_charAt_3b067 hm e5) mw_J1_charAt_3b067 sm_J1_charAt_3b067 ml_J0_495 rfl (by decide) (by decide) (Nat.le_of_ble_eq_true rfl) dJ0_charAt_5068e_12 rfl rfl ?_
    obtain ⟨c6, h⟩ := if_none h
    obtain rfl := Option.some.inj h
    exact v_nret (pc := 15) O hz (nar_ok c6) dJ0_charAt_5068e_15
theorem c_J0_charAt_5068e {l : Launch} {w : Wx} {n nu c u : Nat} {K : Nat → Nat} {t : Nat} (hm : wlm w = true) (ht : t < 10) {x1 : Int32} {D : Dat} {z : Int32 × Dat} (h : f_J0_charAt_5068e t x1 D = some z) : C0 l w yJ0_charAt_5068e cJ0_charAt_5068e 2 (some .char) 3 64 [.ref (woK (w) t), .int x1] n (Ax nu K c u) D (some (.int z.1)) z.2 :=
  C0.of (by decide) (Nat.le_of_ble_eq_true rfl) (fun X e1 e2 e3 hz O => by
  subst e1
  subst e2
  exact w_J0_charAt_5068e O hm e3 hz ht x1 D h)
def f_J0_indexOf_7cf53_b36 (N : Nat) (t : Nat) (s0 : Int32) (D : Dat) : Option (Int32 × Dat) :=
  some (s0, D)
set_option maxHeartbeats 4000000 in
theorem w_J0_indexOf_7cf53_b36 {X : Cx} {n nu c u : Nat} {K : Nat → Nat} {N : Nat} {t : Nat} {z : Int32 × Dat} (O : Ok X cJ0_indexOf_7cf53 RJ0 (some .int) 2 53) (hm : wlm (xw X) = true) (hn : xn X = 3) (hz : Z0 X (Ax nu K c u)) (ht : t < 10) (s0 : Int32) (D : Dat) (h : f_J0_indexOf_7cf53_b36 N t s0 D = some z) : V X (Q0 X n (Ax nu K c u) (some (.int z.1)) z.2) n (Ax nu K c u) D 36 [] [.int s0] := by
  unfold f_J0_indexOf_7cf53_b36 at h
  obtain rfl := Option.some.inj h
  exact v_iret (pc := 36) O hz dJ0_indexOf_7cf53_36
def f_J0_indexOf_7cf53 (N : Nat) (t : Nat) (x1 : Int32) (x2 : Int32) (D : Dat) : Option (Int32 × Dat) :=
  (f_J0_isLatin1_aae02 t D).bind (fun p1 => if p1.1 = 0 then ((f_J0_length_8abf5 t p1.2).bind (fun p4 => none)) else ((f_J0_length_8abf5 t p1.2).bind (fun p6 => (f_J1_indexOf_4cfef N t x1 x2 p6.1 p6.2).bind (fun p8 => f_J0_indexOf_7cf53_b36 N t p8.1 p8.2))))
set_option maxHeartbeats 4000000 in
theorem w_J0_indexOf_7cf53 {X : Cx} {n nu c u : Nat} {K : Nat → Nat} {N : Nat} {t : Nat} {z : Int32 × Dat} (O : Ok X cJ0_indexOf_7cf53 RJ0 (some .int) 2 53) (hm : wlm (xw X) = true) (hn : xn X = 3) (hz : Z0 X (Ax nu K c u)) (ht : t < 10) (x1 : Int32) (x2 : Int32) (D : Dat) (h : f_J0_indexOf_7cf53 N t x1 x2 D = some z) : V X (Q0 X n (Ax nu K c u) (some (.int z.1)) z.2) n (Ax nu K c u) D 0 [(0, .ref (woK (xw X) t)), (1, .int x1), (2, .int x2)] [] := by
  unfold f_J0_indexOf_7cf53 at h
  refine v_aload_n (pc := 0) O dJ0_indexOf_7cf53_0 0 rfl ?_
  obtain ⟨p1, e2, h⟩ := bind_some h
  refine v_callT (pc := 1) (i := t) (As := []) (rest := []) (r := (some (.int p1.1))) (D' := p1.2) O (bb0 hz) ht (c_J0_isLatin1_aae02 hm ht e2) mw_J0_isLatin1_aae02 im_J0_isLatin1_aae02 se_J0_isLatin1_aae02 ml_J0_492 rfl rfl (by decide) (by decide) (Nat.le_of_ble_eq_true rfl) dJ0_indexOf_7cf53_1 rfl rfl ?_
  refine v_ifeq (pc := 4) 23 O dJ0_indexOf_7cf53_4 (by decide) (fun c3 => ?_) (fun c3 => ?_)
  · have h := (if_pos c3).symm.trans h
    refine v_aload_n (pc := 23) O dJ0_indexOf_7cf53_23 0 rfl ?_
    refine v_sval (pc := 24) (i := t) O ht fl_J0_9 dJ0_indexOf_7cf53_24 ?_
    refine v_iload_n (pc := 27) O dJ0_indexOf_7cf53_27 1 rfl ?_
    refine v_iload_n (pc := 28) O dJ0_indexOf_7cf53_28 2 rfl ?_
    refine v_aload_n (pc := 29) O dJ0_indexOf_7cf53_29 0 rfl ?_
    obtain ⟨p4, e5, h⟩ := bind_some h
    refine v_callT (pc := 30) (i := t) (As := []) (rest := [.int x2, .int x1, .ref (woV (xw X) t)]) (r := (some (.int p4.1))) (D' := p4.2) O (bb0 hz) ht (c_J0_length_8abf5 hm ht e5) mw_J0_length_8abf5 im_J0_length_8abf5 se_J0_length_8abf5 ml_J0_505 rfl rfl (by decide) (by decide) (Nat.le_of_ble_eq_true rfl) dJ0_indexOf_7cf53_30 rfl rfl ?_
    cases h
  · have h := (if_neg c3).symm.trans h
    refine v_aload_n (pc := 7) O dJ0_indexOf_7cf53_7 0 rfl ?_
    refine v_sval (pc := 8) (i := t) O ht fl_J0_9 dJ0_indexOf_7cf53_8 ?_
    refine v_iload_n (pc := 11) O dJ0_indexOf_7cf53_11 1 rfl ?_
    refine v_iload_n (pc := 12) O dJ0_indexOf_7cf53_12 2 rfl ?_
    refine v_aload_n (pc := 13) O dJ0_indexOf_7cf53_13 0 rfl ?_
    obtain ⟨p6, e7, h⟩ := bind_some h
    refine v_callT (pc := 14) (i := t) (As := []) (rest := [.int x2, .int x1, .ref (woV (xw X) t)]) (r := (some (.int p6.1))) (D' := p6.2) O (bb0 hz) ht (c_J0_length_8abf5 hm ht e7) mw_J0_length_8abf5 im_J0_length_8abf5 se_J0_length_8abf5 ml_J0_505 rfl rfl (by decide) (by decide) (Nat.le_of_ble_eq_true rfl) dJ0_indexOf_7cf53_14 rfl rfl ?_
    obtain ⟨p8, e9, h⟩ := bind_some h
    refine v_callS (pc := 17) (As := [.ref (woV (xw X) t), .int x1, .int x2, .int p6.1]) (rest := []) (r := (some (.int p8.1))) (D' := p8.2) O (bb0 hz) (c_J1_indexOf_4cfef hm e9) mw_J1_indexOf_4cfef sm_J1_indexOf_4cfef ml_J0_637 rfl (by decide) (by decide) (Nat.le_of_ble_eq_true rfl) dJ0_indexOf_7cf53_17 rfl rfl ?_
    refine v_goto (pc := 20) 36 O dJ0_indexOf_7cf53_20 (by decide) ?_
    refine v_sub [] rfl ?_
    exact w_J0_indexOf_7cf53_b36 O hm hn hz ht p8.1 p8.2 h
theorem c_J0_indexOf_7cf53 {l : Launch} {w : Wx} {n nu c u : Nat} {K : Nat → Nat} {N : Nat} {t : Nat} (hm : wlm w = true) (ht : t < 10) {x1 : Int32} {x2 : Int32} {D : Dat} {z : Int32 × Dat} (h : f_J0_indexOf_7cf53 N t x1 x2 D = some z) : C0 l w yJ0_indexOf_7cf53 cJ0_indexOf_7cf53 3 (some .int) 2 53 [.ref (woK (w) t), .int x1, .int x2] n (Ax nu K c u) D (some (.int z.1)) z.2 :=
  C0.of (by decide) (Nat.le_of_ble_eq_true rfl) (fun X e1 e2 e3 hz O => by
  subst e1
  subst e2
  exact w_J0_indexOf_7cf53 O hm e3 hz ht x1 x2 D h)
def f_X12_step_b294 (N : Nat) (x1 : Int32) (D : Dat) : Option (Int32 × Dat) :=
  if x1 < 0 ∨ 128 ≤ (x1).toNatClampNeg then none else (some ((dI D 224 (x1).toNatClampNeg), D))
set_option maxHeartbeats 4000000 in
theorem w_X12_step_b294 {X : Cx} {n nu c u : Nat} {K : Nat → Nat} {N : Nat} {z : Int32 × Dat} (O : Ok X cX12_step RX12 (some .int) 5 111) (hm : wlm (xw X) = true) (hn : xn X = 5) (hz : Z0 X (Ax nu K c u)) (x1 : Int32) (D : Dat) (h : f_X12_step_b294 N x1 D = some z) : V X (Q0 X n (Ax nu K c u) (some (.int z.1)) z.2) n (Ax nu K c u) D 294 [(0, .ref (bo X + pp 207)), (1, .int x1)] [] := by
  unfold f_X12_step_b294 at h
  refine v_aload_n (pc := 294) O dX12_step_294 0 rfl ?_
  refine v_getK (pc := 295) (a := 207) O hm gf_X12_28 fl_X12_66 kq_207 lk_207_28 dX12_step_295 ?_
  refine v_iload_n (pc := 298) O dX12_step_298 1 rfl ?_
  obtain ⟨c1, h⟩ := or_none h
  refine v_iald (pc := 299) (a := 224) O kq_224 (inq lq_224 c1) dX12_step_299 ?_
  obtain rfl := Option.some.inj h
  exact v_iret (pc := 300) O hz dX12_step_300
def f_X12_step_b140 (N : Nat) (x1 : Int32) (x3 : Int32) (x4 : Int32) (D : Dat) : Option (Int32 × Dat) :=
  if 0 ≤ (dI D 207 84) then (f_X12_step_b294 N x1 D) else (if x1 < 0 ∨ 128 ≤ (x1).toNatClampNeg then none else (if (((8 : Int32) * (dI D 218 (x1).toNatClampNeg)) + x3) < 0 ∨ 208 ≤ ((((8 : Int32) * (dI D 218 (x1).toNatClampNeg)) + x3)).toNatClampNeg then none else (f_X12_step_b294 N x1 (sI D 260 (((8 : Int32) * (dI D 218 (x1).toNatClampNeg)) + x3).toNatClampNeg x4))))
set_option maxHeartbeats 4000000 in
theorem w_X12_step_b140 {X : Cx} {n nu c u : Nat} {K : Nat → Nat} {N : Nat} {z : Int32 × Dat} (O : Ok X cX12_step RX12 (some .int) 5 111) (hm : wlm (xw X) = true) (hn : xn X = 5) (hz : Z0 X (Ax nu K c u)) (x1 : Int32) (x3 : Int32) (x4 : Int32) (D : Dat) (h : f_X12_step_b140 N x1 x3 x4 D = some z) : V X (Q0 X n (Ax nu K c u) (some (.int z.1)) z.2) n (Ax nu K c u) D 140 [(0, .ref (bo X + pp 207)), (1, .int x1), (3, .int x3), (4, .int x4)] [] := by
  unfold f_X12_step_b140 at h
  refine v_aload_n (pc := 140) O dX12_step_140 0 rfl ?_
  refine v_getI (pc := 141) (a := 207) O gf_X12_84 fl_X12_475 kq_207 dX12_step_141 ?_
  refine v_ifge (pc := 144) 294 O dX12_step_144 (by decide) (fun c2 => ?_) (fun c2 => ?_)
  · have h := (if_pos c2).symm.trans h
    refine v_sub [0, 1] rfl ?_
    exact w_X12_step_b294 O hm hn hz x1 D h
  · have h := (if_neg c2).symm.trans h
    refine v_aload_n (pc := 147) O dX12_step_147 0 rfl ?_
    refine v_getK (pc := 148) (a := 207) O hm gf_X12_80 fl_X12_174 kq_207 lk_207_80 dX12_step_148 ?_
    refine v_bipush (pc := 151) O dX12_step_151 bp_8 ?_
    refine v_aload_n (pc := 153) O dX12_step_153 0 rfl ?_
    refine v_getK (pc := 154) (a := 207) O hm gf_X12_22 fl_X12_48 kq_207 lk_207_22 dX12_step_154 ?_
    refine v_iload_n (pc := 157) O dX12_step_157 1 rfl ?_
    obtain ⟨c3, h⟩ := or_none h
    refine v_iald (pc := 158) (a := 218) O kq_218 (inq lq_218 c3) dX12_step_158 ?_
    refine v_imul (pc := 159) O dX12_step_159 ?_
    refine v_iload_n (pc := 160) O dX12_step_160 2 rfl ?_
    refine v_iadd (pc := 161) O dX12_step_161 ?_
    refine v_iload (pc := 162) O dX12_step_162 3 rfl ?_
    obtain ⟨c4, h⟩ := or_none h
    refine v_iast (pc := 164) (a := 260) O kq_260 (inq lq_260 c4) dX12_step_164 ?_
    refine v_goto (pc := 165) 294 O dX12_step_165 (by decide) ?_
    refine v_sub [0, 1] rfl ?_
    exact w_X12_step_b294 O hm hn hz x1 (sI D 260 (((8 : Int32) * (dI D 218 (x1).toNatClampNeg)) + x3).toNatClampNeg x4) h
def f_X12_step_b113 (N : Nat) (x1 : Int32) (x3 : Int32) (s0 : Int32) (D : Dat) : Option (Int32 × Dat) :=
  if 0 ≤ (dI D 207 84) then (f_X12_step_b140 N x1 x3 s0 D) else ((f_X12_out x3 8 D).bind (fun p6 => if p6.1 = 0 then (f_X12_step_b140 N x1 x3 s0 p6.2) else (f_X12_step_b294 N x1 (sI p6.2 207 84 2))))
set_option maxHeartbeats 4000000 in
theorem w_X12_step_b113 {X : Cx} {n nu c u : Nat} {K : Nat → Nat} {N : Nat} {z : Int32 × Dat} (O : Ok X cX12_step RX12 (some .int) 5 111) (hm : wlm (xw X) = true) (hn : xn X = 5) (hz : Z0 X (Ax nu K c u)) (x1 : Int32) (x3 : Int32) (s0 : Int32) (D : Dat) (h : f_X12_step_b113 N x1 x3 s0 D = some z) : V X (Q0 X n (Ax nu K c u) (some (.int z.1)) z.2) n (Ax nu K c u) D 113 [(0, .ref (bo X + pp 207)), (1, .int x1), (3, .int x3)] [.int s0] := by
  unfold f_X12_step_b113 at h
  refine v_istore (pc := 113) (lv' := [(4, .int s0), (0, .ref (bo X + pp 207)), (1, .int x1), (3, .int x3)]) O dX12_step_113 (by rw [hn]; decide) rfl ?_
  refine v_aload_n (pc := 115) O dX12_step_115 1 rfl ?_
  refine v_getI (pc := 116) (a := 207) O gf_X12_84 fl_X12_475 kq_207 dX12_step_116 ?_
  refine v_ifge (pc := 119) 140 O dX12_step_119 (by decide) (fun c5 => ?_) (fun c5 => ?_)
  · have h := (if_pos c5).symm.trans h
    refine v_sub [1, 2, 3, 0] rfl ?_
    exact w_X12_step_b140 O hm hn hz x1 x3 s0 D h
  · have h := (if_neg c5).symm.trans h
    refine v_aload_n (pc := 122) O dX12_step_122 1 rfl ?_
    refine v_iload_n (pc := 123) O dX12_step_123 3 rfl ?_
    refine v_bipush (pc := 124) O dX12_step_124 bp_8 ?_
    obtain ⟨p6, e7, h⟩ := bind_some h
    refine v_callV (pc := 126) (a := 207) (As := [.int x3, .int 8]) (rest := []) (r := (some (.int p6.1))) (D' := p6.2) O (bb0 hz) (c_X12_out hm e7) mw_X12_out im_X12_out se_X12_out ml_X12_186 kq_207 (by decide) rfl rfl rfl (by decide) (by decide) (Nat.le_of_ble_eq_true rfl) dX12_step_126 rfl rfl ?_
    refine v_ifeq (pc := 129) 140 O dX12_step_129 (by decide) (fun c8 => ?_) (fun c8 => ?_)
    · have h := (if_pos c8).symm.trans h
      refine v_sub [1, 2, 3, 0] rfl ?_
      exact w_X12_step_b140 O hm hn hz x1 x3 s0 p6.2 h
    · have h := (if_neg c8).symm.trans h
      refine v_aload_n (pc := 132) O dX12_step_132 1 rfl ?_
      refine v_iconst (pc := 133) O dX12_step_133 ic_2 ?_
      refine v_putI (pc := 134) (a := 207) O pf_X12_84 fl_X12_475 kq_207 dX12_step_134 ?_
      refine v_goto (pc := 137) 294 O dX12_step_137 (by decide) ?_
      refine v_sub [1, 2] rfl ?_
      exact w_X12_step_b294 O hm hn hz x1 (sI p6.2 207 84 2) h
def f_X12_step_b287 (N : Nat) (s0 : Int32) (D : Dat) : Option (Int32 × Dat) :=
  some (s0, D)
set_option maxHeartbeats 4000000 in
theorem w_X12_step_b287 {X : Cx} {n nu c u : Nat} {K : Nat → Nat} {N : Nat} {z : Int32 × Dat} (O : Ok X cX12_step RX12 (some .int) 5 111) (hm : wlm (xw X) = true) (hn : xn X = 5) (hz : Z0 X (Ax nu K c u)) (s0 : Int32) (D : Dat) (h : f_X12_step_b287 N s0 D = some z) : V X (Q0 X n (Ax nu K c u) (some (.int z.1)) z.2) n (Ax nu K c u) D 287 [] [.int s0] := by
  unfold f_X12_step_b287 at h
  obtain rfl := Option.some.inj h
  exact v_iret (pc := 287) O hz dX12_step_287
def f_X12_step_b288 (N : Nat) (x1 : Int32) (D : Dat) : Option (Int32 × Dat) :=
  (f_X12_round N x1 D).bind (fun p9 => some (p9.1, p9.2))
set_option maxHeartbeats 4000000 in
theorem w_X12_step_b288 {X : Cx} {n nu c u : Nat} {K : Nat → Nat} {N : Nat} {z : Int32 × Dat} (O : Ok X cX12_step RX12 (some .int) 5 111) (hm : wlm (xw X) = true) (hn : xn X = 5) (hz : Z0 X (Ax nu K c u)) (x1 : Int32) (D : Dat) (h : f_X12_step_b288 N x1 D = some z) : V X (Q0 X n (Ax nu K c u) (some (.int z.1)) z.2) n (Ax nu K c u) D 288 [(0, .ref (bo X + pp 207)), (1, .int x1)] [] := by
  unfold f_X12_step_b288 at h
  refine v_aload_n (pc := 288) O dX12_step_288 0 rfl ?_
  refine v_iload_n (pc := 289) O dX12_step_289 1 rfl ?_
  obtain ⟨p9, e10, h⟩ := bind_some h
  refine v_callV (pc := 290) (a := 207) (As := [.int x1]) (rest := []) (r := (some (.int p9.1))) (D' := p9.2) O (bb0 hz) (c_X12_round hm e10) mw_X12_round im_X12_round se_X12_round ml_X12_502 kq_207 (by decide) rfl rfl rfl (by decide) (by decide) (Nat.le_of_ble_eq_true rfl) dX12_step_290 rfl rfl ?_
  obtain rfl := Option.some.inj h
  exact v_iret (pc := 293) O hz dX12_step_293
def f_X12_step (N : Nat) (x1 : Int32) (D : Dat) : Option (Int32 × Dat) :=
  if x1 < 0 ∨ 128 ≤ (x1).toNatClampNeg then none else (if (dI D 216 (x1).toNatClampNeg) = (1 : Int32) then (if x1 < 0 ∨ 128 ≤ (x1).toNatClampNeg then none else ((f_X12_worth N (dI D 221 (x1).toNatClampNeg) D).bind (fun p14 => if 0 ≤ (dI p14.2 207 84) then (f_X12_step_b294 N x1 p14.2) else (if x1 < 0 ∨ 128 ≤ (x1).toNatClampNeg then none else (if (dI p14.2 218 (x1).toNatClampNeg) < 0 ∨ 26 ≤ ((dI p14.2 218 (x1).toNatClampNeg)).toNatClampNeg then none else (f_X12_step_b294 N x1 (sI p14.2 259 (dI p14.2 218 (x1).toNatClampNeg).toNatClampNeg p14.1))))))) else (if (dI D 216 (x1).toNatClampNeg) = (2 : Int32) then (if x1 < 0 ∨ 128 ≤ (x1).toNatClampNeg then none else ((f_X12_worth N (dI D 220 (x1).toNatClampNeg) D).bind (fun p21 => if 0 ≤ (dI p21.2 207 84) then (f_X12_step_b113 N x1 p21.1 0 p21.2) else (if x1 < 0 ∨ 128 ≤ (x1).toNatClampNeg then none else ((f_X12_worth N (dI p21.2 221 (x1).toNatClampNeg) p21.2).bind (fun p25 => f_X12_step_b113 N x1 p21.1 p25.1 p25.2)))))) else (if (dI D 216 (x1).toNatClampNeg) = (3 : Int32) then ((f_X12_push 3 x1 D).bind (fun p28 => if x1 < 0 ∨ 128 ≤ (x1).toNatClampNeg then none else ((f_X12_worth N (dI p28 220 (x1).toNatClampNeg) p28).bind (fun p31 => if p31.1 = 0 then (if x1 < 0 ∨ 128 ≤ (x1).toNatClampNeg then none else (f_X12_step_b287 N (dI p31.2 223 (x1).toNatClampNeg) p31.2)) else (if x1 < 0 ∨ 128 ≤ (x1).toNatClampNeg then none else (f_X12_step_b287 N (dI p31.2 222 (x1).toNatClampNeg) p31.2)))))) else (if (dI D 216 (x1).toNatClampNeg) = (5 : Int32) then (if x1 < 0 ∨ 128 ≤ (x1).toNatClampNeg then none else (if x1 < 0 ∨ 128 ≤ (x1).toNatClampNeg then none else ((f_X12_input (dI D 219 (x1).toNatClampNeg) D).bind (fun p39 => if (dI D 218 (x1).toNatClampNeg) < 0 ∨ 26 ≤ ((dI D 218 (x1).toNatClampNeg)).toNatClampNeg then none else (f_X12_step_b294 N x1 (sI p39.2 259 (dI D 218 (x1).toNatClampNeg).toNatClampNeg p39.1)))))) else (if (dI D 216 (x1).toNatClampNeg) = (6 : Int32) then (if x1 < 0 ∨ 128 ≤ (x1).toNatClampNeg then none else ((f_X12_worth N (dI D 220 (x1).toNatClampNeg) D).bind (fun p44 => (f_X12_give p44.1 p44.2).bind (fun p46 => if 0 ≤ (dI p46 207 84) then (f_X12_step_b294 N x1 p46) else (if x1 < 0 ∨ 128 ≤ (x1).toNatClampNeg then none else ((f_X12_write (dI p46 219 (x1).toNatClampNeg) p46).bind (fun p50 => f_X12_step_b294 N x1 p50))))))) else (if (dI D 216 (x1).toNatClampNeg) = (7 : Int32) then ((f_X12_push 7 x1 D).bind (fun p53 => if x1 < 0 ∨ 128 ≤ (x1).toNatClampNeg then none else (if (((26 : Int32) * (dI p53 207 19)) + (dI p53 218 (x1).toNatClampNeg)) < 0 ∨ 52 ≤ ((((26 : Int32) * (dI p53 207 19)) + (dI p53 218 (x1).toNatClampNeg))).toNatClampNeg then none else (some ((dI p53 227 (((26 : Int32) * (dI p53 207 19)) + (dI p53 218 (x1).toNatClampNeg)).toNatClampNeg), p53))))) else (f_X12_step_b288 N x1 D)))))))
set_option maxHeartbeats 4000000 in
theorem w_X12_step {X : Cx} {n nu c u : Nat} {K : Nat → Nat} {N : Nat} {z : Int32 × Dat} (O : Ok X cX12_step RX12 (some .int) 5 111) (hm : wlm (xw X) = true) (hn : xn X = 5) (hz : Z0 X (Ax nu K c u)) (x1 : Int32) (D : Dat) (h : f_X12_step N x1 D = some z) : V X (Q0 X n (Ax nu K c u) (some (.int z.1)) z.2) n (Ax nu K c u) D 0 [(0, .ref (bo X + pp 207)), (1, .int x1)] [] := by
  unfold f_X12_step at h
  refine v_aload_n (pc := 0) O dX12_step_0 0 rfl ?_
  refine v_getK (pc := 1) (a := 207) O hm gf_X12_20 fl_X12_42 kq_207 lk_207_20 dX12_step_1 ?_
  refine v_iload_n (pc := 4) O dX12_step_4 1 rfl ?_
  obtain ⟨c11, h⟩ := or_none h
  refine v_iald (pc := 5) (a := 216) O kq_216 (inq lq_216 c11) dX12_step_5 ?_
  by_cases c12 : (dI D 216 (x1).toNatClampNeg) = (1 : Int32)
  · have h := (if_pos c12).symm.trans h
    refine v_tableIn (pc := 6) 48 O dX12_step_6 (by rw [c12]; decide) (by rw [c12]; decide) (by rw [c12]; rfl) (by decide) ?_
    refine v_aload_n (pc := 48) O dX12_step_48 0 rfl ?_
    refine v_aload_n (pc := 49) O dX12_step_49 0 rfl ?_
    refine v_getK (pc := 50) (a := 207) O hm gf_X12_25 fl_X12_57 kq_207 lk_207_25 dX12_step_50 ?_
    refine v_iload_n (pc := 53) O dX12_step_53 1 rfl ?_
    obtain ⟨c13, h⟩ := or_none h
    refine v_iald (pc := 54) (a := 221) O kq_221 (inq lq_221 c13) dX12_step_54 ?_
    obtain ⟨p14, e15, h⟩ := bind_some h
    refine v_callV (pc := 55) (a := 207) (As := [.int (dI D 221 (x1).toNatClampNeg)]) (rest := []) (r := (some (.int p14.1))) (D' := p14.2) O (bb0 hz) (c_X12_worth hm e15) mw_X12_worth im_X12_worth se_X12_worth ml_X12_499 kq_207 (by decide) rfl rfl rfl (by decide) (by decide) (Nat.le_of_ble_eq_true rfl) dX12_step_55 rfl rfl ?_
    refine v_istore_n (pc := 58) (lv' := [(2, .int p14.1), (0, .ref (bo X + pp 207)), (1, .int x1)]) O dX12_step_58 rfl (by rw [hn]; decide) rfl ?_
    refine v_aload_n (pc := 59) O dX12_step_59 1 rfl ?_
    refine v_getI (pc := 60) (a := 207) O gf_X12_84 fl_X12_475 kq_207 dX12_step_60 ?_
    refine v_ifge (pc := 63) 294 O dX12_step_63 (by decide) (fun c16 => ?_) (fun c16 => ?_)
    · have h := (if_pos c16).symm.trans h
      refine v_sub [1, 2] rfl ?_
      exact w_X12_step_b294 O hm hn hz x1 p14.2 h
    · have h := (if_neg c16).symm.trans h
      refine v_aload_n (pc := 66) O dX12_step_66 1 rfl ?_
      refine v_getK (pc := 67) (a := 207) O hm gf_X12_79 fl_X12_171 kq_207 lk_207_79 dX12_step_67 ?_
      refine v_aload_n (pc := 70) O dX12_step_70 1 rfl ?_
      refine v_getK (pc := 71) (a := 207) O hm gf_X12_22 fl_X12_48 kq_207 lk_207_22 dX12_step_71 ?_
      refine v_iload_n (pc := 74) O dX12_step_74 2 rfl ?_
      obtain ⟨c17, h⟩ := or_none h
      refine v_iald (pc := 75) (a := 218) O kq_218 (inq lq_218 c17) dX12_step_75 ?_
      refine v_iload_n (pc := 76) O dX12_step_76 0 rfl ?_
      obtain ⟨c18, h⟩ := or_none h
      refine v_iast (pc := 77) (a := 259) O kq_259 (inq lq_259 c18) dX12_step_77 ?_
      refine v_goto (pc := 78) 294 O dX12_step_78 (by decide) ?_
      refine v_sub [1, 2] rfl ?_
      exact w_X12_step_b294 O hm hn hz x1 (sI p14.2 259 (dI p14.2 218 (x1).toNatClampNeg).toNatClampNeg p14.1) h
  · have h := (if_neg c12).symm.trans h
    by_cases c19 : (dI D 216 (x1).toNatClampNeg) = (2 : Int32)
    · have h := (if_pos c19).symm.trans h
      refine v_tableIn (pc := 6) 81 O dX12_step_6 (by rw [c19]; decide) (by rw [c19]; decide) (by rw [c19]; rfl) (by decide) ?_
      refine v_aload_n (pc := 81) O dX12_step_81 0 rfl ?_
      refine v_aload_n (pc := 82) O dX12_step_82 0 rfl ?_
      refine v_getK (pc := 83) (a := 207) O hm gf_X12_24 fl_X12_54 kq_207 lk_207_24 dX12_step_83 ?_
      refine v_iload_n (pc := 86) O dX12_step_86 1 rfl ?_
      obtain ⟨c20, h⟩ := or_none h
      refine v_iald (pc := 87) (a := 220) O kq_220 (inq lq_220 c20) dX12_step_87 ?_
      obtain ⟨p21, e22, h⟩ := bind_some h
      refine v_callV (pc := 88) (a := 207) (As := [.int (dI D 220 (x1).toNatClampNeg)]) (rest := []) (r := (some (.int p21.1))) (D' := p21.2) O (bb0 hz) (c_X12_worth hm e22) mw_X12_worth im_X12_worth se_X12_worth ml_X12_499 kq_207 (by decide) rfl rfl rfl (by decide) (by decide) (Nat.le_of_ble_eq_true rfl) dX12_step_88 rfl rfl ?_
      refine v_istore_n (pc := 91) (lv' := [(3, .int p21.1), (0, .ref (bo X + pp 207)), (1, .int x1)]) O dX12_step_91 rfl (by rw [hn]; decide) rfl ?_
      refine v_aload_n (pc := 92) O dX12_step_92 1 rfl ?_
      refine v_getI (pc := 93) (a := 207) O gf_X12_84 fl_X12_475 kq_207 dX12_step_93 ?_
      refine v_ifge (pc := 96) 112 O dX12_step_96 (by decide) (fun c23 => ?_) (fun c23 => ?_)
      · have h := (if_pos c23).symm.trans h
        refine v_iconst (pc := 112) O dX12_step_112 ic_0 ?_
        refine v_sub [1, 2, 0] rfl ?_
        exact w_X12_step_b113 O hm hn hz x1 p21.1 0 p21.2 h
      · have h := (if_neg c23).symm.trans h
        refine v_aload_n (pc := 99) O dX12_step_99 1 rfl ?_
        refine v_aload_n (pc := 100) O dX12_step_100 1 rfl ?_
        refine v_getK (pc := 101) (a := 207) O hm gf_X12_25 fl_X12_57 kq_207 lk_207_25 dX12_step_101 ?_
        refine v_iload_n (pc := 104) O dX12_step_104 2 rfl ?_
        obtain ⟨c24, h⟩ := or_none h
        refine v_iald (pc := 105) (a := 221) O kq_221 (inq lq_221 c24) dX12_step_105 ?_
        obtain ⟨p25, e26, h⟩ := bind_some h
        refine v_callV (pc := 106) (a := 207) (As := [.int (dI p21.2 221 (x1).toNatClampNeg)]) (rest := []) (r := (some (.int p25.1))) (D' := p25.2) O (bb0 hz) (c_X12_worth hm e26) mw_X12_worth im_X12_worth se_X12_worth ml_X12_499 kq_207 (by decide) rfl rfl rfl (by decide) (by decide) (Nat.le_of_ble_eq_true rfl) dX12_step_106 rfl rfl ?_
        refine v_goto (pc := 109) 113 O dX12_step_109 (by decide) ?_
        refine v_sub [1, 2, 0] rfl ?_
        exact w_X12_step_b113 O hm hn hz x1 p21.1 p25.1 p25.2 h
    · have h := (if_neg c19).symm.trans h
      by_cases c27 : (dI D 216 (x1).toNatClampNeg) = (3 : Int32)
      · have h := (if_pos c27).symm.trans h
        refine v_tableIn (pc := 6) 253 O dX12_step_6 (by rw [c27]; decide) (by rw [c27]; decide) (by rw [c27]; rfl) (by decide) ?_
        refine v_aload_n (pc := 253) O dX12_step_253 0 rfl ?_
        refine v_iconst (pc := 254) O dX12_step_254 ic_3 ?_
        refine v_iload_n (pc := 255) O dX12_step_255 1 rfl ?_
        obtain ⟨p28, e29, h⟩ := bind_some h
        refine v_callV (pc := 256) (a := 207) (As := [.int 3, .int x1]) (rest := []) (r := none) (D' := p28) O (bb0 hz) (c_X12_push hm e29) mw_X12_push im_X12_push se_X12_push ml_X12_367 kq_207 (by decide) rfl rfl rfl (by decide) (by decide) (Nat.le_of_ble_eq_true rfl) dX12_step_256 rfl rfl ?_
        refine v_aload_n (pc := 259) O dX12_step_259 0 rfl ?_
        refine v_aload_n (pc := 260) O dX12_step_260 0 rfl ?_
        refine v_getK (pc := 261) (a := 207) O hm gf_X12_24 fl_X12_54 kq_207 lk_207_24 dX12_step_261 ?_
        refine v_iload_n (pc := 264) O dX12_step_264 1 rfl ?_
        obtain ⟨c30, h⟩ := or_none h
        refine v_iald (pc := 265) (a := 220) O kq_220 (inq lq_220 c30) dX12_step_265 ?_
        obtain ⟨p31, e32, h⟩ := bind_some h
        refine v_callV (pc := 266) (a := 207) (As := [.int (dI p28 220 (x1).toNatClampNeg)]) (rest := []) (r := (some (.int p31.1))) (D' := p31.2) O (bb0 hz) (c_X12_worth hm e32) mw_X12_worth im_X12_worth se_X12_worth ml_X12_499 kq_207 (by decide) rfl rfl rfl (by decide) (by decide) (Nat.le_of_ble_eq_true rfl) dX12_step_266 rfl rfl ?_
        refine v_ifeq (pc := 269) 281 O dX12_step_269 (by decide) (fun c33 => ?_) (fun c33 => ?_)
        · have h := (if_pos c33).symm.trans h
          refine v_aload_n (pc := 281) O dX12_step_281 0 rfl ?_
          refine v_getK (pc := 282) (a := 207) O hm gf_X12_27 fl_X12_63 kq_207 lk_207_27 dX12_step_282 ?_
          refine v_iload_n (pc := 285) O dX12_step_285 1 rfl ?_
          obtain ⟨c34, h⟩ := or_none h
          refine v_iald (pc := 286) (a := 223) O kq_223 (inq lq_223 c34) dX12_step_286 ?_
          refine v_sub [] rfl ?_
          exact w_X12_step_b287 O hm hn hz (dI p31.2 223 (x1).toNatClampNeg) p31.2 h
        · have h := (if_neg c33).symm.trans h
          refine v_aload_n (pc := 272) O dX12_step_272 0 rfl ?_
          refine v_getK (pc := 273) (a := 207) O hm gf_X12_26 fl_X12_60 kq_207 lk_207_26 dX12_step_273 ?_
          refine v_iload_n (pc := 276) O dX12_step_276 1 rfl ?_
          obtain ⟨c35, h⟩ := or_none h
          refine v_iald (pc := 277) (a := 222) O kq_222 (inq lq_222 c35) dX12_step_277 ?_
          refine v_goto (pc := 278) 287 O dX12_step_278 (by decide) ?_
          refine v_sub [] rfl ?_
          exact w_X12_step_b287 O hm hn hz (dI p31.2 222 (x1).toNatClampNeg) p31.2 h
      · have h := (if_neg c27).symm.trans h
        by_cases c36 : (dI D 216 (x1).toNatClampNeg) = (5 : Int32)
        · have h := (if_pos c36).symm.trans h
          refine v_tableIn (pc := 6) 168 O dX12_step_6 (by rw [c36]; decide) (by rw [c36]; decide) (by rw [c36]; rfl) (by decide) ?_
          refine v_aload_n (pc := 168) O dX12_step_168 0 rfl ?_
          refine v_getK (pc := 169) (a := 207) O hm gf_X12_79 fl_X12_171 kq_207 lk_207_79 dX12_step_169 ?_
          refine v_aload_n (pc := 172) O dX12_step_172 0 rfl ?_
          refine v_getK (pc := 173) (a := 207) O hm gf_X12_22 fl_X12_48 kq_207 lk_207_22 dX12_step_173 ?_
          refine v_iload_n (pc := 176) O dX12_step_176 1 rfl ?_
          obtain ⟨c37, h⟩ := or_none h
          refine v_iald (pc := 177) (a := 218) O kq_218 (inq lq_218 c37) dX12_step_177 ?_
          refine v_aload_n (pc := 178) O dX12_step_178 0 rfl ?_
          refine v_aload_n (pc := 179) O dX12_step_179 0 rfl ?_
          refine v_getK (pc := 180) (a := 207) O hm gf_X12_23 fl_X12_51 kq_207 lk_207_23 dX12_step_180 ?_
          refine v_iload_n (pc := 183) O dX12_step_183 1 rfl ?_
          obtain ⟨c38, h⟩ := or_none h
          refine v_iald (pc := 184) (a := 219) O kq_219 (inq lq_219 c38) dX12_step_184 ?_
          obtain ⟨p39, e40, h⟩ := bind_some h
          refine v_callV (pc := 185) (a := 207) (As := [.int (dI D 219 (x1).toNatClampNeg)]) (rest := [.int (dI D 218 (x1).toNatClampNeg), .ref (bo X + pp 259)]) (r := (some (.int p39.1))) (D' := p39.2) O (bb0 hz) (c_X12_input hm e40) mw_X12_input im_X12_input se_X12_input ml_X12_484 kq_207 (by decide) rfl rfl rfl (by decide) (by decide) (Nat.le_of_ble_eq_true rfl) dX12_step_185 rfl rfl ?_
          obtain ⟨c41, h⟩ := or_none h
          refine v_iast (pc := 188) (a := 259) O kq_259 (inq lq_259 c41) dX12_step_188 ?_
          refine v_goto (pc := 189) 294 O dX12_step_189 (by decide) ?_
          refine v_sub [0, 1] rfl ?_
          exact w_X12_step_b294 O hm hn hz x1 (sI p39.2 259 (dI D 218 (x1).toNatClampNeg).toNatClampNeg p39.1) h
        · have h := (if_neg c36).symm.trans h
          by_cases c42 : (dI D 216 (x1).toNatClampNeg) = (6 : Int32)
          · have h := (if_pos c42).symm.trans h
            refine v_tableIn (pc := 6) 192 O dX12_step_6 (by rw [c42]; decide) (by rw [c42]; decide) (by rw [c42]; rfl) (by decide) ?_
            refine v_aload_n (pc := 192) O dX12_step_192 0 rfl ?_
            refine v_aload_n (pc := 193) O dX12_step_193 0 rfl ?_
            refine v_aload_n (pc := 194) O dX12_step_194 0 rfl ?_
            refine v_getK (pc := 195) (a := 207) O hm gf_X12_24 fl_X12_54 kq_207 lk_207_24 dX12_step_195 ?_
            refine v_iload_n (pc := 198) O dX12_step_198 1 rfl ?_
            obtain ⟨c43, h⟩ := or_none h
            refine v_iald (pc := 199) (a := 220) O kq_220 (inq lq_220 c43) dX12_step_199 ?_
            obtain ⟨p44, e45, h⟩ := bind_some h
            refine v_callV (pc := 200) (a := 207) (As := [.int (dI D 220 (x1).toNatClampNeg)]) (rest := [.ref (bo X + pp 207)]) (r := (some (.int p44.1))) (D' := p44.2) O (bb0 hz) (c_X12_worth hm e45) mw_X12_worth im_X12_worth se_X12_worth ml_X12_499 kq_207 (by decide) rfl rfl rfl (by decide) (by decide) (Nat.le_of_ble_eq_true rfl) dX12_step_200 rfl rfl ?_
            obtain ⟨p46, e47, h⟩ := bind_some h
            refine v_callV (pc := 203) (a := 207) (As := [.int p44.1]) (rest := []) (r := none) (D' := p46) O (bb0 hz) (c_X12_give hm e47) mw_X12_give im_X12_give se_X12_give ml_X12_481 kq_207 (by decide) rfl rfl rfl (by decide) (by decide) (Nat.le_of_ble_eq_true rfl) dX12_step_203 rfl rfl ?_
            refine v_aload_n (pc := 206) O dX12_step_206 0 rfl ?_
            refine v_getI (pc := 207) (a := 207) O gf_X12_84 fl_X12_475 kq_207 dX12_step_207 ?_
            refine v_ifge (pc := 210) 294 O dX12_step_210 (by decide) (fun c48 => ?_) (fun c48 => ?_)
            · have h := (if_pos c48).symm.trans h
              refine v_sub [0, 1] rfl ?_
              exact w_X12_step_b294 O hm hn hz x1 p46 h
            · have h := (if_neg c48).symm.trans h
              refine v_aload_n (pc := 213) O dX12_step_213 0 rfl ?_
              refine v_aload_n (pc := 214) O dX12_step_214 0 rfl ?_
              refine v_getK (pc := 215) (a := 207) O hm gf_X12_23 fl_X12_51 kq_207 lk_207_23 dX12_step_215 ?_
              refine v_iload_n (pc := 218) O dX12_step_218 1 rfl ?_
              obtain ⟨c49, h⟩ := or_none h
              refine v_iald (pc := 219) (a := 219) O kq_219 (inq lq_219 c49) dX12_step_219 ?_
              obtain ⟨p50, e51, h⟩ := bind_some h
              refine v_callV (pc := 220) (a := 207) (As := [.int (dI p46 219 (x1).toNatClampNeg)]) (rest := []) (r := none) (D' := p50) O (bb0 hz) (c_X12_write hm e51) mw_X12_write im_X12_write se_X12_write ml_X12_487 kq_207 (by decide) rfl rfl rfl (by decide) (by decide) (Nat.le_of_ble_eq_true rfl) dX12_step_220 rfl rfl ?_
              refine v_goto (pc := 223) 294 O dX12_step_223 (by decide) ?_
              refine v_sub [0, 1] rfl ?_
              exact w_X12_step_b294 O hm hn hz x1 p50 h
          · have h := (if_neg c42).symm.trans h
            by_cases c52 : (dI D 216 (x1).toNatClampNeg) = (7 : Int32)
            · have h := (if_pos c52).symm.trans h
              refine v_tableIn (pc := 6) 226 O dX12_step_6 (by rw [c52]; decide) (by rw [c52]; decide) (by rw [c52]; rfl) (by decide) ?_
              refine v_aload_n (pc := 226) O dX12_step_226 0 rfl ?_
              refine v_bipush (pc := 227) O dX12_step_227 bp_7 ?_
              refine v_iload_n (pc := 229) O dX12_step_229 1 rfl ?_
              obtain ⟨p53, e54, h⟩ := bind_some h
              refine v_callV (pc := 230) (a := 207) (As := [.int 7, .int x1]) (rest := []) (r := none) (D' := p53) O (bb0 hz) (c_X12_push hm e54) mw_X12_push im_X12_push se_X12_push ml_X12_367 kq_207 (by decide) rfl rfl rfl (by decide) (by decide) (Nat.le_of_ble_eq_true rfl) dX12_step_230 rfl rfl ?_
              refine v_aload_n (pc := 233) O dX12_step_233 0 rfl ?_
              refine v_getK (pc := 234) (a := 207) O hm gf_X12_31 fl_X12_75 kq_207 lk_207_31 dX12_step_234 ?_
              refine v_bipush (pc := 237) O dX12_step_237 bp_26 ?_
              refine v_aload_n (pc := 239) O dX12_step_239 0 rfl ?_
              refine v_getI (pc := 240) (a := 207) O gf_X12_19 fl_X12_335 kq_207 dX12_step_240 ?_
              refine v_imul (pc := 243) O dX12_step_243 ?_
              refine v_aload_n (pc := 244) O dX12_step_244 0 rfl ?_
              refine v_getK (pc := 245) (a := 207) O hm gf_X12_22 fl_X12_48 kq_207 lk_207_22 dX12_step_245 ?_
              refine v_iload_n (pc := 248) O dX12_step_248 1 rfl ?_
              obtain ⟨c55, h⟩ := or_none h
              refine v_iald (pc := 249) (a := 218) O kq_218 (inq lq_218 c55) dX12_step_249 ?_
              refine v_iadd (pc := 250) O dX12_step_250 ?_
              obtain ⟨c56, h⟩ := or_none h
              refine v_iald (pc := 251) (a := 227) O kq_227 (inq lq_227 c56) dX12_step_251 ?_
              obtain rfl := Option.some.inj h
              exact v_iret (pc := 252) O hz dX12_step_252
            · have h := (if_neg c52).symm.trans h
              refine v_table (pc := 6) 288 O dX12_step_6 (fun g1 g2 => by
                  have c12i := ne_i (1) rfl c12
                  have c19i := ne_i (2) rfl c19
                  have c27i := ne_i (3) rfl c27
                  have c36i := ne_i (5) rfl c36
                  have c42i := ne_i (6) rfl c42
                  have c52i := ne_i (7) rfl c52
                  have e9 : (dI D 216 (x1).toNatClampNeg).toInt = 4 := by omega
                  rw [e9]; exact ⟨_, rfl, by decide⟩) (by decide) ?_
              refine v_sub [0, 1] rfl ?_
              exact w_X12_step_b288 O hm hn hz x1 D h
theorem c_X12_step {l : Launch} {w : Wx} {n nu c u : Nat} {K : Nat → Nat} {N : Nat} (hm : wlm w = true) {x1 : Int32} {D : Dat} {z : Int32 × Dat} (h : f_X12_step N x1 D = some z) : C0 l w yX12_step cX12_step 5 (some .int) 5 111 [.ref (wb w + pp 207), .int x1] n (Ax nu K c u) D (some (.int z.1)) z.2 :=
  C0.of (by decide) (Nat.le_of_ble_eq_true rfl) (fun X e1 e2 e3 hz O => by
  subst e1
  subst e2
  exact w_X12_step O hm e3 hz x1 D h)
