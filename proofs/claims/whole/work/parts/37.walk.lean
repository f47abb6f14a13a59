theorem ini_X7 : Cond.initialized RX7 ∈ tb := tb_of 188 (by decide +kernel) (by decide +kernel)
theorem cw_X7_init : Cond.code yX7_init cX7_init 4 none ∈ tb := tb_of 1024 (by decide +kernel) (by decide +kernel)
theorem mw_X7_init : MW yX7_init cX7_init 4 none 3 := ⟨cw_X7_init, ini_X7, by decide +kernel⟩
theorem im_X7_init : Cond.instanceMethod yX7_init ∈ tb := tb_of 1023 (by decide +kernel) (by decide +kernel)
theorem cw_X5_readStatements : Cond.code yX5_readStatements cX5_readStatements 6 (some (.object "FlowChain$Statement")) ∈ tb := tb_of 1007 (by decide +kernel) (by decide +kernel)
theorem mw_X5_readStatements : MW yX5_readStatements cX5_readStatements 6 (some (.object "FlowChain$Statement")) 1 := ⟨cw_X5_readStatements, ini_X5, by decide +kernel⟩
theorem im_X5_readStatements : Cond.instanceMethod yX5_readStatements ∈ tb := tb_of 1006 (by decide +kernel) (by decide +kernel)
theorem se_X5_readStatements : Cond.selects (yX5_readStatements).cls yX5_readStatements yX5_readStatements ∈ tb := tb_of 22 (by decide +kernel) (by decide +kernel)
theorem ml_X5_76 : Cond.methodLink RX5 76 yX5_readStatements ∈ tb := tb_of 1004 (by decide +kernel) (by decide +kernel)
theorem fl_X5_224 : Cond.fieldLink RX5 224 RX7 (TX7 5).2.1 (TX7 5).2.2.1 ∈ tb := tb_of 1049 (by decide +kernel) (by decide +kernel)
theorem cw_X5_readBlock : Cond.code yX5_readBlock cX5_readBlock 2 (some (.object "FlowChain$Statement")) ∈ tb := tb_of 999 (by decide +kernel) (by decide +kernel)
theorem mw_X5_readBlock : MW yX5_readBlock cX5_readBlock 2 (some (.object "FlowChain$Statement")) 0 := ⟨cw_X5_readBlock, ini_X5, by decide +kernel⟩
theorem im_X5_readBlock : Cond.instanceMethod yX5_readBlock ∈ tb := tb_of 998 (by decide +kernel) (by decide +kernel)
theorem se_X5_readBlock : Cond.selects (yX5_readBlock).cls yX5_readBlock yX5_readBlock ∈ tb := tb_of 20 (by decide +kernel) (by decide +kernel)
theorem ml_X5_162 : Cond.methodLink RX5 162 yX5_readBlock ∈ tb := tb_of 996 (by decide +kernel) (by decide +kernel)
theorem fl_X5_233 : Cond.fieldLink RX5 233 RX7 (TX7 6).2.1 (TX7 6).2.2.1 ∈ tb := tb_of 1053 (by decide +kernel) (by decide +kernel)
theorem pf_X7_6 : PI 7 RX7 TX7 10 tyX7 6 2 (.object "FlowChain$Statement") := ⟨gf_X7_6, rfl, rfl⟩
theorem fl_X5_205 : Cond.fieldLink RX5 205 RX7 (TX7 0).2.1 (TX7 0).2.2.1 ∈ tb := tb_of 1030 (by decide +kernel) (by decide +kernel)
theorem bp_23 : (Int8.ofInt (23)).toInt32 = (23 : Int32) := by decide
theorem fl_X5_236 : Cond.fieldLink RX5 236 RX7 (TX7 8).2.1 (TX7 8).2.2.1 ∈ tb := tb_of 1059 (by decide +kernel) (by decide +kernel)
theorem gf_X7_8 : FI 7 RX7 TX7 10 tyX7 8 0 := ⟨rfl, inb_X7, tyX7_ok, nmX7, by decide, by decide, rfl, rfl, rfl⟩
theorem pf_X7_8 : PI 7 RX7 TX7 10 tyX7 8 0 .boolean := ⟨gf_X7_8, rfl, rfl⟩
theorem fl_X5_240 : Cond.fieldLink RX5 240 RX7 (TX7 7).2.1 (TX7 7).2.2.1 ∈ tb := tb_of 1057 (by decide +kernel) (by decide +kernel)
theorem pf_X7_7 : PI 7 RX7 TX7 10 tyX7 7 2 (.object "FlowChain$Statement") := ⟨gf_X7_7, rfl, rfl⟩
theorem cn_X5_192 : Cond.classLink RX5 192 RX7 ∈ tb := tb_of 1012 (by decide +kernel) (by decide +kernel)
theorem ins_X7 : Cond.instantiable RX7 10 ∈ tb := tb_of 1013 (by decide +kernel) (by decide +kernel)
theorem pn_X7 : PN 7 RX7 TX7 10 tyX7 := ⟨rfl, inb_X7, tyX7_ok, by decide, rfl, by decide +kernel, ins_X7, ini_X7⟩
theorem cw_X5_kindHere : Cond.code yX5_kindHere cX5_kindHere 1 (some .int) ∈ tb := tb_of 1017 (by decide +kernel) (by decide +kernel)
theorem mw_X5_kindHere : MW yX5_kindHere cX5_kindHere 1 (some .int) 0 := ⟨cw_X5_kindHere, ini_X5, by decide +kernel⟩
theorem im_X5_kindHere : Cond.instanceMethod yX5_kindHere ∈ tb := tb_of 1016 (by decide +kernel) (by decide +kernel)
theorem se_X5_kindHere : Cond.selects (yX5_kindHere).cls yX5_kindHere yX5_kindHere ∈ tb := tb_of 24 (by decide +kernel) (by decide +kernel)
theorem ml_X5_196 : Cond.methodLink RX5 196 yX5_kindHere ∈ tb := tb_of 1014 (by decide +kernel) (by decide +kernel)
theorem ml_X5_202 : Cond.methodLink RX5 202 yX7_init ∈ tb := tb_of 1022 (by decide +kernel) (by decide +kernel)
theorem fl_X5_215 : Cond.fieldLink RX5 215 RX7 (TX7 2).2.1 (TX7 2).2.2.1 ∈ tb := tb_of 1036 (by decide +kernel) (by decide +kernel)
theorem pf_X7_2 : PI 7 RX7 TX7 10 tyX7 2 0 .int := ⟨gf_X7_2, rfl, rfl⟩
theorem cw_X5_take : Cond.code yX5_take cX5_take 2 none ∈ tb := tb_of 1124 (by decide +kernel) (by decide +kernel)
theorem mw_X5_take : MW yX5_take cX5_take 2 none 1 := ⟨cw_X5_take, ini_X5, by decide +kernel⟩
theorem im_X5_take : Cond.instanceMethod yX5_take ∈ tb := tb_of 1123 (by decide +kernel) (by decide +kernel)
theorem se_X5_take : Cond.selects (yX5_take).cls yX5_take yX5_take ∈ tb := tb_of 33 (by decide +kernel) (by decide +kernel)
theorem ml_X5_173 : Cond.methodLink RX5 173 yX5_take ∈ tb := tb_of 1121 (by decide +kernel) (by decide +kernel)
theorem cw_X5_takeLabel : Cond.code yX5_takeLabel cX5_takeLabel 2 (some .int) ∈ tb := tb_of 1128 (by decide +kernel) (by decide +kernel)
theorem mw_X5_takeLabel : MW yX5_takeLabel cX5_takeLabel 2 (some .int) 0 := ⟨cw_X5_takeLabel, ini_X5, by decide +kernel⟩
theorem im_X5_takeLabel : Cond.instanceMethod yX5_takeLabel ∈ tb := tb_of 1127 (by decide +kernel) (by decide +kernel)
theorem se_X5_takeLabel : Cond.selects (yX5_takeLabel).cls yX5_takeLabel yX5_takeLabel ∈ tb := tb_of 34 (by decide +kernel) (by decide +kernel)
theorem ml_X5_176 : Cond.methodLink RX5 176 yX5_takeLabel ∈ tb := tb_of 1125 (by decide +kernel) (by decide +kernel)
theorem fl_X5_218 : Cond.fieldLink RX5 218 RX7 (TX7 3).2.1 (TX7 3).2.2.1 ∈ tb := tb_of 1040 (by decide +kernel) (by decide +kernel)
theorem pf_X7_3 : PI 7 RX7 TX7 10 tyX7 3 0 .int := ⟨gf_X7_3, rfl, rfl⟩
theorem cw_X5_readBranches : Cond.code yX5_readBranches cX5_readBranches 2 none ∈ tb := tb_of 1088 (by decide +kernel) (by decide +kernel)
theorem mw_X5_readBranches : MW yX5_readBranches cX5_readBranches 2 none 1 := ⟨cw_X5_readBranches, ini_X5, by decide +kernel⟩
theorem im_X5_readBranches : Cond.instanceMethod yX5_readBranches ∈ tb := tb_of 1087 (by decide +kernel) (by decide +kernel)
theorem se_X5_readBranches : Cond.selects (yX5_readBranches).cls yX5_readBranches yX5_readBranches ∈ tb := tb_of 25 (by decide +kernel) (by decide +kernel)
theorem ml_X5_208 : Cond.methodLink RX5 208 yX5_readBranches ∈ tb := tb_of 1085 (by decide +kernel) (by decide +kernel)
theorem cw_X5_readStatement : Cond.code yX5_readStatement cX5_readStatement 2 (some (.object "FlowChain$Statement")) ∈ tb := tb_of 1011 (by decide +kernel) (by decide +kernel)
theorem mw_X5_readStatement : MW yX5_readStatement cX5_readStatement 2 (some (.object "FlowChain$Statement")) 0 := ⟨cw_X5_readStatement, ini_X5, by decide +kernel⟩
theorem im_X5_readStatement : Cond.instanceMethod yX5_readStatement ∈ tb := tb_of 1010 (by decide +kernel) (by decide +kernel)
theorem se_X5_readStatement : Cond.selects (yX5_readStatement).cls yX5_readStatement yX5_readStatement ∈ tb := tb_of 23 (by decide +kernel) (by decide +kernel)
theorem ml_X5_188 : Cond.methodLink RX5 188 yX5_readStatement ∈ tb := tb_of 1008 (by decide +kernel) (by decide +kernel)
theorem fl_X5_191 : Cond.fieldLink RX5 191 RX7 (TX7 9).2.1 (TX7 9).2.2.1 ∈ tb := tb_of 1063 (by decide +kernel) (by decide +kernel)
theorem pf_X7_9 : PI 7 RX7 TX7 10 tyX7 9 2 (.object "FlowChain$Statement") := ⟨gf_X7_9, rfl, rfl⟩
def f_X5_readBlock (rec : Int32 → Sr → Dat → Option (Sum Nat (Option Nat) × Sr × Dat)) (nu : Nat) (S : Sr) (D : Dat) : Option (Sum Nat (Option Nat) × Sr × Dat) :=
  sb2 (f_X5_openWith nu 123 S D) (fun p1 S3 D3 => sb2 (rec 125 S3 D3) (fun p4 S6 D6 => sb2 (f_X5_closeWith nu 125 S6 D6) (fun p7 S9 D9 => some (.inr p4, S9, D9))))
set_option maxHeartbeats 4000000 in
theorem w_X5_readBlock {X : Cx} {nu : Nat} {rec : Int32 → Sr → Dat → Option (Sum Nat (Option Nat) × Sr × Dat)} {fr lc : Nat} {z : Sum Nat (Option Nat) × Sr × Dat} (O : Ok X cX5_readBlock RX5 (some (.object "FlowChain$Statement")) (fr + 7) (lc + 121)) (hm : wlm (xw X) = true) (hn : xn X = 2) (hT : T2 X) (hR : ∀ {x1 : Int32} {S : Sr} {D : Dat} {z : Sum Nat (Option Nat) × Sr × Dat}, rec x1 S D = some z → C2 (xl X) (xw X) yX5_readStatements cX5_readStatements 6 (some (.object "FlowChain$Statement")) fr lc [.ref (wb (xw X) + pp 3), .int x1] nu S D (ro (wb (xw X)) z)) (S : Sr) (D : Dat) (h : f_X5_readBlock rec nu S D = some z) : V X (Q2 X nu (ro (bo X) z)) S.1 (Az nu S) D 0 [(0, .ref (bo X + pp 3))] [] := by
  unfold f_X5_readBlock at h
  refine v_aload_n (pc := 0) O dX5_readBlock_0 0 rfl ?_
  refine v_bipush (pc := 1) O dX5_readBlock_1 bp_123 ?_
  rcases sb2_some h with ⟨p1, S3, D3, e2, rfl⟩ | ⟨p1, S3, D3, e2, h⟩
  · exact v_call2X (pc := 3) (a := 3) (As := [.int 123]) (rest := []) (e := p1) (S' := S3) (D' := D3) O hT (c_X5_openWith (nu := nu) hT.2.1 hm e2 :) mw_X5_openWith im_X5_openWith se_X5_openWith ml_X5_182 kq_3 (by decide) rfl rfl rfl (by omega) (by omega) (Nat.le_of_ble_eq_true rfl) dX5_readBlock_3 rfl
  · refine v_call2 (pc := 3) (a := 3) (As := [.int 123]) (rest := []) (r := none) (S' := S3) (D' := D3) O hT (c_X5_openWith (nu := nu) hT.2.1 hm e2 :) mw_X5_openWith im_X5_openWith se_X5_openWith ml_X5_182 kq_3 (by decide) rfl rfl rfl (by omega) (by omega) (Nat.le_of_ble_eq_true rfl) dX5_readBlock_3 rfl rfl ?_
    refine v_aload_n (pc := 6) O dX5_readBlock_6 0 rfl ?_
    refine v_bipush (pc := 7) O dX5_readBlock_7 bp_125 ?_
    rcases sb2_some h with ⟨p4, S6, D6, e5, rfl⟩ | ⟨p4, S6, D6, e5, h⟩
    · exact v_call2X (pc := 9) (a := 3) (As := [.int 125]) (rest := []) (e := p4) (S' := S6) (D' := D6) O hT (hR e5 :) mw_X5_readStatements im_X5_readStatements se_X5_readStatements ml_X5_76 kq_3 (by decide) rfl rfl rfl (by omega) (by omega) (Nat.le_of_ble_eq_true rfl) dX5_readBlock_9 rfl
    · refine v_call2 (pc := 9) (a := 3) (As := [.int 125]) (rest := []) (r := (some (rv (bo X) p4))) (S' := S6) (D' := D6) O hT (hR e5 :) mw_X5_readStatements im_X5_readStatements se_X5_readStatements ml_X5_76 kq_3 (by decide) rfl rfl rfl (by omega) (by omega) (Nat.le_of_ble_eq_true rfl) dX5_readBlock_9 rfl rfl ?_
      refine v_astore_nr (pc := 12) (lv' := [(1, rv (bo X) p4), (0, .ref (bo X + pp 3))]) O dX5_readBlock_12 rfl (by rw [hn]; decide) rfl ?_
      refine v_aload_n (pc := 13) O dX5_readBlock_13 1 rfl ?_
      refine v_bipush (pc := 14) O dX5_readBlock_14 bp_125 ?_
      rcases sb2_some h with ⟨p7, S9, D9, e8, rfl⟩ | ⟨p7, S9, D9, e8, h⟩
      · exact v_call2X (pc := 16) (a := 3) (As := [.int 125]) (rest := []) (e := p7) (S' := S9) (D' := D9) O hT (c_X5_closeWith (nu := nu) hT.2.1 hm e8 :) mw_X5_closeWith im_X5_closeWith se_X5_closeWith ml_X5_185 kq_3 (by decide) rfl rfl rfl (by omega) (by omega) (Nat.le_of_ble_eq_true rfl) dX5_readBlock_16 rfl
      · refine v_call2 (pc := 16) (a := 3) (As := [.int 125]) (rest := []) (r := none) (S' := S9) (D' := D9) O hT (c_X5_closeWith (nu := nu) hT.2.1 hm e8 :) mw_X5_closeWith im_X5_closeWith se_X5_closeWith ml_X5_185 kq_3 (by decide) rfl rfl rfl (by omega) (by omega) (Nat.le_of_ble_eq_true rfl) dX5_readBlock_16 rfl rfl ?_
        refine v_aload_nr (pc := 19) O dX5_readBlock_19 0 rfl ?_
        obtain rfl := Option.some.inj h
        exact v_aret2 (pc := 20) (r := p4) O dX5_readBlock_20
theorem c_X5_readBlock {l : Launch} {w : Wx} {nu : Nat} {rec : Int32 → Sr → Dat → Option (Sum Nat (Option Nat) × Sr × Dat)} {fr lc : Nat} (hl : l.stackTraces = false) (hm : wlm w = true) (hR : ∀ {x1 : Int32} {S : Sr} {D : Dat} {z : Sum Nat (Option Nat) × Sr × Dat}, rec x1 S D = some z → C2 l w yX5_readStatements cX5_readStatements 6 (some (.object "FlowChain$Statement")) fr lc [.ref (wb w + pp 3), .int x1] nu S D (ro (wb w) z)) {S : Sr} {D : Dat} {z : Sum Nat (Option Nat) × Sr × Dat} (h : f_X5_readBlock rec nu S D = some z) : C2 l w yX5_readBlock cX5_readBlock 2 (some (.object "FlowChain$Statement")) (fr + 7) (lc + 121) [.ref (wb w + pp 3)] nu S D (ro (wb w) z) :=
  C2.of hl (by decide) (Nat.le_of_ble_eq_true rfl) (fun X e1 e2 e3 hT O _ _ => by
  subst e1
  subst e2
  exact w_X5_readBlock O hm e3 hT hR  S D h)
def f_X5_readBranches_b67 (rec : Int32 → Sr → Dat → Option (Sum Nat (Option Nat) × Sr × Dat)) (N : Nat) (nu : Nat) (S : Sr) (D : Dat) : Option (Sum Nat Unit × Sr × Dat) :=
  some (.inr (), S, D)
set_option maxHeartbeats 4000000 in
theorem w_X5_readBranches_b67 {X : Cx} {nu : Nat} {rec : Int32 → Sr → Dat → Option (Sum Nat (Option Nat) × Sr × Dat)} {N : Nat} {fr lc : Nat} {z : Sum Nat Unit × Sr × Dat} (O : Ok X cX5_readBranches RX5 none (fr + 133) (lc + 2493)) (hm : wlm (xw X) = true) (hn : xn X = 2) (hT : T2 X) (hR : ∀ {x1 : Int32} {S : Sr} {D : Dat} {z : Sum Nat (Option Nat) × Sr × Dat}, rec x1 S D = some z → C2 (xl X) (xw X) yX5_readStatements cX5_readStatements 6 (some (.object "FlowChain$Statement")) fr lc [.ref (wb (xw X) + pp 3), .int x1] nu S D (ro (wb (xw X)) z)) (S : Sr) (D : Dat) (h : f_X5_readBranches_b67 rec N nu S D = some z) : V X (Q2 X nu (ru z)) S.1 (Az nu S) D 67 [] [] := by
  unfold f_X5_readBranches_b67 at h
  obtain rfl := Option.some.inj h
  exact v_vret2 (pc := 67) O dX5_readBranches_67
def f_X5_readBranches (rec : Int32 → Sr → Dat → Option (Sum Nat (Option Nat) × Sr × Dat)) (N : Nat) (nu : Nat) (x1 : Option Nat) (S : Sr) (D : Dat) : Option (Sum Nat Unit × Sr × Dat) :=
  (f_X5_goTo ((dI D 3 8) + (1 : Int32)) D).bind (fun p1 => sb2 (f_X5_readExpression N nu 12 S p1) (fun p3 S5 D5 => (x1).bind (fun a6 => if kd S5.2.1 a6 = 7 then (sb2 (f_X5_readBlock rec nu S5 (sI D5 a6 5 p3)) (fun p9 S11 D11 => if kd S11.2.1 a6 = 7 then (if (dI (sR D11 a6 6 p9) a6 0) = 16 then (if (dI (sR D11 a6 6 p9) 3 6) = 23 then ((f_X5_goTo ((dI (sR D11 a6 6 p9) 3 8) + (1 : Int32)) (sR D11 a6 6 p9)).bind (fun p15 => sb2 (f_X5_readBlock rec nu S11 (sI p15 a6 8 1)) (fun p17 S19 D19 => if kd S19.2.1 a6 = 7 then (f_X5_readBranches_b67 rec N nu S19 (sR D19 a6 7 p17)) else none))) else (f_X5_readBranches_b67 rec N nu S11 (sR D11 a6 6 p9))) else (f_X5_readBranches_b67 rec N nu S11 (sR D11 a6 6 p9))) else none)) else none)))
set_option maxHeartbeats 4000000 in
theorem w_X5_readBranches {X : Cx} {nu : Nat} {rec : Int32 → Sr → Dat → Option (Sum Nat (Option Nat) × Sr × Dat)} {N : Nat} {fr lc : Nat} {z : Sum Nat Unit × Sr × Dat} (O : Ok X cX5_readBranches RX5 none (fr + 133) (lc + 2493)) (hm : wlm (xw X) = true) (hn : xn X = 2) (hT : T2 X) (hR : ∀ {x1 : Int32} {S : Sr} {D : Dat} {z : Sum Nat (Option Nat) × Sr × Dat}, rec x1 S D = some z → C2 (xl X) (xw X) yX5_readStatements cX5_readStatements 6 (some (.object "FlowChain$Statement")) fr lc [.ref (wb (xw X) + pp 3), .int x1] nu S D (ro (wb (xw X)) z)) (x1 : Option Nat) (S : Sr) (D : Dat) (h : f_X5_readBranches rec N nu x1 S D = some z) : V X (Q2 X nu (ru z)) S.1 (Az nu S) D 0 [(0, .ref (bo X + pp 3)), (1, rv (bo X) x1)] [] := by
  unfold f_X5_readBranches at h
  refine v_aload_n (pc := 0) O dX5_readBranches_0 0 rfl ?_
  refine v_aload_n (pc := 1) O dX5_readBranches_1 0 rfl ?_
  refine v_getI (pc := 2) (a := 3) O gf_X5_8 fl_X5_153 kq_3 dX5_readBranches_2 ?_
  refine v_iconst (pc := 5) O dX5_readBranches_5 ic_1 ?_
  refine v_iadd (pc := 6) O dX5_readBranches_6 ?_
  obtain ⟨p1, e2, h⟩ := bind_some h
  refine v_callV (pc := 7) (a := 3) (As := [.int ((dI D 3 8) + (1 : Int32))]) (rest := []) (r := none) (D' := p1) O (bb2 hT) (c_X5_goTo hm e2) mw_X5_goTo im_X5_goTo se_X5_goTo ml_X5_66 kq_3 (by decide) rfl rfl rfl (by omega) (by omega) (Nat.le_of_ble_eq_true rfl) dX5_readBranches_7 rfl rfl ?_
  refine v_aload_nr (pc := 10) O dX5_readBranches_10 1 rfl ?_
  refine v_aload_n (pc := 11) O dX5_readBranches_11 0 rfl ?_
  rcases sb2_some h with ⟨p3, S5, D5, e4, rfl⟩ | ⟨p3, S5, D5, e4, h⟩
  · exact v_call2X (pc := 12) (a := 3) (As := []) (rest := [rv (bo X) x1]) (e := p3) (S' := S5) (D' := D5) O hT (c_X5_readExpression (nu := nu) hT.2.1 hm 12 e4 :) mw_X5_readExpression im_X5_readExpression se_X5_readExpression ml_X5_221 kq_3 (by decide) rfl rfl rfl (by omega) (by omega) (by simp [rv_cat, cat_i, cat_l, cat_r, cat_n, fmt_cat]) dX5_readBranches_12 rfl
  · refine v_call2 (pc := 12) (a := 3) (As := []) (rest := [rv (bo X) x1]) (r := (some (.int p3))) (S' := S5) (D' := D5) O hT (c_X5_readExpression (nu := nu) hT.2.1 hm 12 e4 :) mw_X5_readExpression im_X5_readExpression se_X5_readExpression ml_X5_221 kq_3 (by decide) rfl rfl rfl (by omega) (by omega) (by simp [rv_cat, cat_i, cat_l, cat_r, cat_n, fmt_cat]) dX5_readBranches_12 rfl rfl ?_
    obtain ⟨a6, e7, h⟩ := bind_some h
    subst e7
    obtain ⟨c8, h⟩ := if_none h
    refine v_putI (pc := 15) (a := a6) O pf_X7_5 fl_X5_224 c8 dX5_readBranches_15 ?_
    refine v_aload_n (pc := 18) O dX5_readBranches_18 1 rfl ?_
    refine v_aload_n (pc := 19) O dX5_readBranches_19 0 rfl ?_
    rcases sb2_some h with ⟨p9, S11, D11, e10, rfl⟩ | ⟨p9, S11, D11, e10, h⟩
    · exact v_call2X (pc := 20) (a := 3) (As := []) (rest := [.ref (bo X + pp a6)]) (e := p9) (S' := S11) (D' := D11) O hT (c_X5_readBlock (nu := nu) hT.2.1 hm hR e10 :) mw_X5_readBlock im_X5_readBlock se_X5_readBlock ml_X5_162 kq_3 (by decide) rfl rfl rfl (by omega) (by omega) (Nat.le_of_ble_eq_true rfl) dX5_readBranches_20 rfl
    · refine v_call2 (pc := 20) (a := 3) (As := []) (rest := [.ref (bo X + pp a6)]) (r := (some (rv (bo X) p9))) (S' := S11) (D' := D11) O hT (c_X5_readBlock (nu := nu) hT.2.1 hm hR e10 :) mw_X5_readBlock im_X5_readBlock se_X5_readBlock ml_X5_162 kq_3 (by decide) rfl rfl rfl (by omega) (by omega) (Nat.le_of_ble_eq_true rfl) dX5_readBranches_20 rfl rfl ?_
      obtain ⟨c12, h⟩ := if_none h
      refine v_putR (pc := 23) (a := a6) (r := p9) O pf_X7_6 rfl fl_X5_233 c12 dX5_readBranches_23 ?_
      refine v_aload_n (pc := 26) O dX5_readBranches_26 1 rfl ?_
      refine v_getI (pc := 27) (a := a6) O gf_X7_0 fl_X5_205 c12 dX5_readBranches_27 ?_
      refine v_bipush (pc := 30) O dX5_readBranches_30 bp_16 ?_
      refine v_icmpne (pc := 32) 67 O dX5_readBranches_32 (by decide) (fun c13 => ?_) (fun c13 => ?_)
      · have h := (if_neg c13).symm.trans h
        refine v_sub [] rfl ?_
        exact w_X5_readBranches_b67 O hm hn hT hR S11 (sR D11 a6 6 p9) h
      · have h := (if_pos c13).symm.trans h
        refine v_aload_n (pc := 35) O dX5_readBranches_35 0 rfl ?_
        refine v_getI (pc := 36) (a := 3) O gf_X5_6 fl_X5_70 kq_3 dX5_readBranches_36 ?_
        refine v_bipush (pc := 39) O dX5_readBranches_39 bp_23 ?_
        refine v_icmpne (pc := 41) 67 O dX5_readBranches_41 (by decide) (fun c14 => ?_) (fun c14 => ?_)
        · have h := (if_neg c14).symm.trans h
          refine v_sub [] rfl ?_
          exact w_X5_readBranches_b67 O hm hn hT hR S11 (sR D11 a6 6 p9) h
        · have h := (if_pos c14).symm.trans h
          refine v_aload_n (pc := 44) O dX5_readBranches_44 0 rfl ?_
          refine v_aload_n (pc := 45) O dX5_readBranches_45 0 rfl ?_
          refine v_getI (pc := 46) (a := 3) O gf_X5_8 fl_X5_153 kq_3 dX5_readBranches_46 ?_
          refine v_iconst (pc := 49) O dX5_readBranches_49 ic_1 ?_
          refine v_iadd (pc := 50) O dX5_readBranches_50 ?_
          obtain ⟨p15, e16, h⟩ := bind_some h
          refine v_callV (pc := 51) (a := 3) (As := [.int ((dI (sR D11 a6 6 p9) 3 8) + (1 : Int32))]) (rest := []) (r := none) (D' := p15) O (bb2 hT) (c_X5_goTo hm e16) mw_X5_goTo im_X5_goTo se_X5_goTo ml_X5_66 kq_3 (by decide) rfl rfl rfl (by omega) (by omega) (Nat.le_of_ble_eq_true rfl) dX5_readBranches_51 rfl rfl ?_
          refine v_aload_n (pc := 54) O dX5_readBranches_54 1 rfl ?_
          refine v_iconst (pc := 55) O dX5_readBranches_55 ic_1 ?_
          refine v_putZ (pc := 56) (a := a6) O pf_X7_8 fl_X5_236 c12 narrow_b1 dX5_readBranches_56 ?_
          refine v_aload_n (pc := 59) O dX5_readBranches_59 1 rfl ?_
          refine v_aload_n (pc := 60) O dX5_readBranches_60 0 rfl ?_
          rcases sb2_some h with ⟨p17, S19, D19, e18, rfl⟩ | ⟨p17, S19, D19, e18, h⟩
          · exact v_call2X (pc := 61) (a := 3) (As := []) (rest := [.ref (bo X + pp a6)]) (e := p17) (S' := S19) (D' := D19) O hT (c_X5_readBlock (nu := nu) hT.2.1 hm hR e18 :) mw_X5_readBlock im_X5_readBlock se_X5_readBlock ml_X5_162 kq_3 (by decide) rfl rfl rfl (by omega) (by omega) (Nat.le_of_ble_eq_true rfl) dX5_readBranches_61 rfl
          · refine v_call2 (pc := 61) (a := 3) (As := []) (rest := [.ref (bo X + pp a6)]) (r := (some (rv (bo X) p17))) (S' := S19) (D' := D19) O hT (c_X5_readBlock (nu := nu) hT.2.1 hm hR e18 :) mw_X5_readBlock im_X5_readBlock se_X5_readBlock ml_X5_162 kq_3 (by decide) rfl rfl rfl (by omega) (by omega) (Nat.le_of_ble_eq_true rfl) dX5_readBranches_61 rfl rfl ?_
            obtain ⟨c20, h⟩ := if_none h
            refine v_putR (pc := 64) (a := a6) (r := p17) O pf_X7_7 rfl fl_X5_240 c20 dX5_readBranches_64 ?_
            refine v_sub [] rfl ?_
            exact w_X5_readBranches_b67 O hm hn hT hR S19 (sR D19 a6 7 p17) h
theorem c_X5_readBranches {l : Launch} {w : Wx} {nu : Nat} {rec : Int32 → Sr → Dat → Option (Sum Nat (Option Nat) × Sr × Dat)} {N : Nat} {fr lc : Nat} (hl : l.stackTraces = false) (hm : wlm w = true) (hR : ∀ {x1 : Int32} {S : Sr} {D : Dat} {z : Sum Nat (Option Nat) × Sr × Dat}, rec x1 S D = some z → C2 l w yX5_readStatements cX5_readStatements 6 (some (.object "FlowChain$Statement")) fr lc [.ref (wb w + pp 3), .int x1] nu S D (ro (wb w) z)) {x1 : Option Nat} {S : Sr} {D : Dat} {z : Sum Nat Unit × Sr × Dat} (h : f_X5_readBranches rec N nu x1 S D = some z) : C2 l w yX5_readBranches cX5_readBranches 2 none (fr + 133) (lc + 2493) [.ref (wb w + pp 3), rv (wb w) x1] nu S D (ru z) :=
  C2.of hl (by decide) (by simp [lg_sl, rv_cat, cat_i, cat_l, cat_r, cat_n, fmt_cat]) (fun X e1 e2 e3 hT O _ _ => by
  subst e1
  subst e2
  have q : lv_args 0 [.ref (bo X + pp 3), rv (bo X) x1] = [(0, .ref (bo X + pp 3)), (1, rv (bo X) x1)] := by simp [lv_args, rv_cat, cat_i, cat_l, cat_r, cat_n, fmt_cat]
  show V X _ _ _ D 0 (lv_args 0 [.ref (bo X + pp 3), rv (bo X) x1]) []
  rw [q]
  exact w_X5_readBranches O hm e3 hT hR x1 S D h)
def f_X5_readStatement_b64 (rec : Int32 → Sr → Dat → Option (Sum Nat (Option Nat) × Sr × Dat)) (N : Nat) (nu : Nat) (x1 : Option Nat) (S : Sr) (D : Dat) : Option (Sum Nat (Option Nat) × Sr × Dat) :=
  sb2 (f_X5_readBranches rec N nu x1 S D) (fun p1 S3 D3 => some (.inr x1, S3, D3))
set_option maxHeartbeats 4000000 in
theorem w_X5_readStatement_b64 {X : Cx} {nu : Nat} {rec : Int32 → Sr → Dat → Option (Sum Nat (Option Nat) × Sr × Dat)} {N : Nat} {fr lc : Nat} {z : Sum Nat (Option Nat) × Sr × Dat} (O : Ok X cX5_readStatement RX5 (some (.object "FlowChain$Statement")) (fr + 140) (lc + 2613)) (hm : wlm (xw X) = true) (hn : xn X = 2) (hT : T2 X) (hR : ∀ {x1 : Int32} {S : Sr} {D : Dat} {z : Sum Nat (Option Nat) × Sr × Dat}, rec x1 S D = some z → C2 (xl X) (xw X) yX5_readStatements cX5_readStatements 6 (some (.object "FlowChain$Statement")) fr lc [.ref (wb (xw X) + pp 3), .int x1] nu S D (ro (wb (xw X)) z)) (x1 : Option Nat) (S : Sr) (D : Dat) (h : f_X5_readStatement_b64 rec N nu x1 S D = some z) : V X (Q2 X nu (ro (bo X) z)) S.1 (Az nu S) D 64 [(0, .ref (bo X + pp 3)), (1, rv (bo X) x1)] [] := by
  unfold f_X5_readStatement_b64 at h
  refine v_aload_n (pc := 64) O dX5_readStatement_64 0 rfl ?_
  refine v_aload_nr (pc := 65) O dX5_readStatement_65 1 rfl ?_
  rcases sb2_some h with ⟨p1, S3, D3, e2, rfl⟩ | ⟨p1, S3, D3, e2, h⟩
  · exact v_call2X (pc := 66) (a := 3) (As := [rv (bo X) x1]) (rest := []) (e := p1) (S' := S3) (D' := D3) O hT (c_X5_readBranches (nu := nu) hT.2.1 hm hR e2 :) mw_X5_readBranches im_X5_readBranches se_X5_readBranches ml_X5_208 kq_3 (by decide) rfl rfl rfl (by omega) (by omega) (Nat.le_of_ble_eq_true rfl) dX5_readStatement_66 rfl
  · refine v_call2 (pc := 66) (a := 3) (As := [rv (bo X) x1]) (rest := []) (r := none) (S' := S3) (D' := D3) O hT (c_X5_readBranches (nu := nu) hT.2.1 hm hR e2 :) mw_X5_readBranches im_X5_readBranches se_X5_readBranches ml_X5_208 kq_3 (by decide) rfl rfl rfl (by omega) (by omega) (Nat.le_of_ble_eq_true rfl) dX5_readStatement_66 rfl rfl ?_
    refine v_aload_nr (pc := 69) O dX5_readStatement_69 1 rfl ?_
    obtain rfl := Option.some.inj h
    exact v_aret2 (pc := 70) (r := x1) O dX5_readStatement_70
def f_X5_readStatement_b211 (rec : Int32 → Sr → Dat → Option (Sum Nat (Option Nat) × Sr × Dat)) (N : Nat) (nu : Nat) (x1 : Option Nat) (S : Sr) (D : Dat) : Option (Sum Nat (Option Nat) × Sr × Dat) :=
  sb2 (f_X5_take nu 59 S D) (fun p4 S6 D6 => some (.inr x1, S6, D6))
set_option maxHeartbeats 4000000 in
theorem w_X5_readStatement_b211 {X : Cx} {nu : Nat} {rec : Int32 → Sr → Dat → Option (Sum Nat (Option Nat) × Sr × Dat)} {N : Nat} {fr lc : Nat} {z : Sum Nat (Option Nat) × Sr × Dat} (O : Ok X cX5_readStatement RX5 (some (.object "FlowChain$Statement")) (fr + 140) (lc + 2613)) (hm : wlm (xw X) = true) (hn : xn X = 2) (hT : T2 X) (hR : ∀ {x1 : Int32} {S : Sr} {D : Dat} {z : Sum Nat (Option Nat) × Sr × Dat}, rec x1 S D = some z → C2 (xl X) (xw X) yX5_readStatements cX5_readStatements 6 (some (.object "FlowChain$Statement")) fr lc [.ref (wb (xw X) + pp 3), .int x1] nu S D (ro (wb (xw X)) z)) (x1 : Option Nat) (S : Sr) (D : Dat) (h : f_X5_readStatement_b211 rec N nu x1 S D = some z) : V X (Q2 X nu (ro (bo X) z)) S.1 (Az nu S) D 211 [(0, .ref (bo X + pp 3)), (1, rv (bo X) x1)] [] := by
  unfold f_X5_readStatement_b211 at h
  refine v_aload_n (pc := 211) O dX5_readStatement_211 0 rfl ?_
  refine v_bipush (pc := 212) O dX5_readStatement_212 bp_59 ?_
  rcases sb2_some h with ⟨p4, S6, D6, e5, rfl⟩ | ⟨p4, S6, D6, e5, h⟩
  · exact v_call2X (pc := 214) (a := 3) (As := [.int 59]) (rest := []) (e := p4) (S' := S6) (D' := D6) O hT (c_X5_take (nu := nu) hT.2.1 hm e5 :) mw_X5_take im_X5_take se_X5_take ml_X5_173 kq_3 (by decide) rfl rfl rfl (by omega) (by omega) (Nat.le_of_ble_eq_true rfl) dX5_readStatement_214 rfl
  · refine v_call2 (pc := 214) (a := 3) (As := [.int 59]) (rest := []) (r := none) (S' := S6) (D' := D6) O hT (c_X5_take (nu := nu) hT.2.1 hm e5 :) mw_X5_take im_X5_take se_X5_take ml_X5_173 kq_3 (by decide) rfl rfl rfl (by omega) (by omega) (Nat.le_of_ble_eq_true rfl) dX5_readStatement_214 rfl rfl ?_
    refine v_aload_nr (pc := 217) O dX5_readStatement_217 1 rfl ?_
    obtain rfl := Option.some.inj h
    exact v_aret2 (pc := 218) (r := x1) O dX5_readStatement_218
def f_X5_readStatement_b197 (rec : Int32 → Sr → Dat → Option (Sum Nat (Option Nat) × Sr × Dat)) (N : Nat) (nu : Nat) (x1 : Option Nat) (S : Sr) (D : Dat) : Option (Sum Nat (Option Nat) × Sr × Dat) :=
  sb2 (f_X5_take nu 61 S D) (fun p7 S9 D9 => sb2 (f_X5_readExpression N nu 12 S9 D9) (fun p10 S12 D12 => (x1).bind (fun a13 => if kd S12.2.1 a13 = 7 then (f_X5_readStatement_b211 rec N nu (some a13) S12 (sI D12 a13 5 p10)) else none)))
set_option maxHeartbeats 4000000 in
theorem w_X5_readStatement_b197 {X : Cx} {nu : Nat} {rec : Int32 → Sr → Dat → Option (Sum Nat (Option Nat) × Sr × Dat)} {N : Nat} {fr lc : Nat} {z : Sum Nat (Option Nat) × Sr × Dat} (O : Ok X cX5_readStatement RX5 (some (.object "FlowChain$Statement")) (fr + 140) (lc + 2613)) (hm : wlm (xw X) = true) (hn : xn X = 2) (hT : T2 X) (hR : ∀ {x1 : Int32} {S : Sr} {D : Dat} {z : Sum Nat (Option Nat) × Sr × Dat}, rec x1 S D = some z → C2 (xl X) (xw X) yX5_readStatements cX5_readStatements 6 (some (.object "FlowChain$Statement")) fr lc [.ref (wb (xw X) + pp 3), .int x1] nu S D (ro (wb (xw X)) z)) (x1 : Option Nat) (S : Sr) (D : Dat) (h : f_X5_readStatement_b197 rec N nu x1 S D = some z) : V X (Q2 X nu (ro (bo X) z)) S.1 (Az nu S) D 197 [(0, .ref (bo X + pp 3)), (1, rv (bo X) x1)] [] := by
  unfold f_X5_readStatement_b197 at h
  refine v_aload_n (pc := 197) O dX5_readStatement_197 0 rfl ?_
  refine v_bipush (pc := 198) O dX5_readStatement_198 bp_61 ?_
  rcases sb2_some h with ⟨p7, S9, D9, e8, rfl⟩ | ⟨p7, S9, D9, e8, h⟩
  · exact v_call2X (pc := 200) (a := 3) (As := [.int 61]) (rest := []) (e := p7) (S' := S9) (D' := D9) O hT (c_X5_take (nu := nu) hT.2.1 hm e8 :) mw_X5_take im_X5_take se_X5_take ml_X5_173 kq_3 (by decide) rfl rfl rfl (by omega) (by omega) (Nat.le_of_ble_eq_true rfl) dX5_readStatement_200 rfl
  · refine v_call2 (pc := 200) (a := 3) (As := [.int 61]) (rest := []) (r := none) (S' := S9) (D' := D9) O hT (c_X5_take (nu := nu) hT.2.1 hm e8 :) mw_X5_take im_X5_take se_X5_take ml_X5_173 kq_3 (by decide) rfl rfl rfl (by omega) (by omega) (Nat.le_of_ble_eq_true rfl) dX5_readStatement_200 rfl rfl ?_
    refine v_aload_nr (pc := 203) O dX5_readStatement_203 1 rfl ?_
    refine v_aload_n (pc := 204) O dX5_readStatement_204 0 rfl ?_
    rcases sb2_some h with ⟨p10, S12, D12, e11, rfl⟩ | ⟨p10, S12, D12, e11, h⟩
    · exact v_call2X (pc := 205) (a := 3) (As := []) (rest := [rv (bo X) x1]) (e := p10) (S' := S12) (D' := D12) O hT (c_X5_readExpression (nu := nu) hT.2.1 hm 12 e11 :) mw_X5_readExpression im_X5_readExpression se_X5_readExpression ml_X5_221 kq_3 (by decide) rfl rfl rfl (by omega) (by omega) (by simp [rv_cat, cat_i, cat_l, cat_r, cat_n, fmt_cat]) dX5_readStatement_205 rfl
    · refine v_call2 (pc := 205) (a := 3) (As := []) (rest := [rv (bo X) x1]) (r := (some (.int p10))) (S' := S12) (D' := D12) O hT (c_X5_readExpression (nu := nu) hT.2.1 hm 12 e11 :) mw_X5_readExpression im_X5_readExpression se_X5_readExpression ml_X5_221 kq_3 (by decide) rfl rfl rfl (by omega) (by omega) (by simp [rv_cat, cat_i, cat_l, cat_r, cat_n, fmt_cat]) dX5_readStatement_205 rfl rfl ?_
      obtain ⟨a13, e14, h⟩ := bind_some h
      subst e14
      obtain ⟨c15, h⟩ := if_none h
      refine v_putI (pc := 208) (a := a13) O pf_X7_5 fl_X5_224 c15 dX5_readStatement_208 ?_
      refine v_sub [0, 1] rfl ?_
      exact w_X5_readStatement_b211 O hm hn hT hR (some a13) S12 (sI D12 a13 5 p10) h
def f_X5_readStatement_b179 (rec : Int32 → Sr → Dat → Option (Sum Nat (Option Nat) × Sr × Dat)) (N : Nat) (nu : Nat) (x1 : Option Nat) (s0 : Int32) (s2 : Option Nat) (S : Sr) (D : Dat) : Option (Sum Nat (Option Nat) × Sr × Dat) :=
  sb2 (f_X5_takeName nu s0 S D) (fun p16 S18 D18 => (s2).bind (fun a19 => if kd S18.2.1 a19 = 7 then ((x1).bind (fun a22 => if kd S18.2.1 a22 = 7 then (if (dI (sI D18 a19 2 p16) a22 0) = 4 then (sb2 (f_X5_readIndex (f_X5_readExpression N nu 12) nu S18 (sI D18 a19 2 p16)) (fun p26 S28 D28 => f_X5_readStatement_b197 rec N nu (some a22) S28 D28)) else (f_X5_readStatement_b197 rec N nu (some a22) S18 (sI D18 a19 2 p16))) else none)) else none))
set_option maxHeartbeats 4000000 in
theorem w_X5_readStatement_b179 {X : Cx} {nu : Nat} {rec : Int32 → Sr → Dat → Option (Sum Nat (Option Nat) × Sr × Dat)} {N : Nat} {fr lc : Nat} {z : Sum Nat (Option Nat) × Sr × Dat} (O : Ok X cX5_readStatement RX5 (some (.object "FlowChain$Statement")) (fr + 140) (lc + 2613)) (hm : wlm (xw X) = true) (hn : xn X = 2) (hT : T2 X) (hR : ∀ {x1 : Int32} {S : Sr} {D : Dat} {z : Sum Nat (Option Nat) × Sr × Dat}, rec x1 S D = some z → C2 (xl X) (xw X) yX5_readStatements cX5_readStatements 6 (some (.object "FlowChain$Statement")) fr lc [.ref (wb (xw X) + pp 3), .int x1] nu S D (ro (wb (xw X)) z)) (x1 : Option Nat) (s0 : Int32) (s2 : Option Nat) (S : Sr) (D : Dat) (h : f_X5_readStatement_b179 rec N nu x1 s0 s2 S D = some z) : V X (Q2 X nu (ro (bo X) z)) S.1 (Az nu S) D 179 [(0, .ref (bo X + pp 3)), (1, rv (bo X) x1)] [.int s0, .ref (bo X + pp 3), rv (bo X) s2] := by
  unfold f_X5_readStatement_b179 at h
  rcases sb2_some h with ⟨p16, S18, D18, e17, rfl⟩ | ⟨p16, S18, D18, e17, h⟩
  · exact v_call2X (pc := 179) (a := 3) (As := [.int s0]) (rest := [rv (bo X) s2]) (e := p16) (S' := S18) (D' := D18) O hT (c_X5_takeName (nu := nu) hT.2.1 hm e17 :) mw_X5_takeName im_X5_takeName se_X5_takeName ml_X5_212 kq_3 (by decide) rfl rfl rfl (by omega) (by omega) (by simp [rv_cat, cat_i, cat_l, cat_r, cat_n, fmt_cat]) dX5_readStatement_179 rfl
  · refine v_call2 (pc := 179) (a := 3) (As := [.int s0]) (rest := [rv (bo X) s2]) (r := (some (.int p16))) (S' := S18) (D' := D18) O hT (c_X5_takeName (nu := nu) hT.2.1 hm e17 :) mw_X5_takeName im_X5_takeName se_X5_takeName ml_X5_212 kq_3 (by decide) rfl rfl rfl (by omega) (by omega) (by simp [rv_cat, cat_i, cat_l, cat_r, cat_n, fmt_cat]) dX5_readStatement_179 rfl rfl ?_
    obtain ⟨a19, e20, h⟩ := bind_some h
    subst e20
    obtain ⟨c21, h⟩ := if_none h
    refine v_putI (pc := 182) (a := a19) O pf_X7_2 fl_X5_215 c21 dX5_readStatement_182 ?_
    refine v_aload_nr (pc := 185) O dX5_readStatement_185 1 rfl ?_
    obtain ⟨a22, e23, h⟩ := bind_some h
    subst e23
    obtain ⟨c24, h⟩ := if_none h
    refine v_getI (pc := 186) (a := a22) O gf_X7_0 fl_X5_205 c24 dX5_readStatement_186 ?_
    refine v_iconst (pc := 189) O dX5_readStatement_189 ic_4 ?_
    refine v_icmpne (pc := 190) 197 O dX5_readStatement_190 (by decide) (fun c25 => ?_) (fun c25 => ?_)
    · have h := (if_neg c25).symm.trans h
      refine v_sub [0, 1] rfl ?_
      exact w_X5_readStatement_b197 O hm hn hT hR (some a22) S18 (sI D18 a19 2 p16) h
    · have h := (if_pos c25).symm.trans h
      refine v_aload_n (pc := 193) O dX5_readStatement_193 0 rfl ?_
      rcases sb2_some h with ⟨p26, S28, D28, e27, rfl⟩ | ⟨p26, S28, D28, e27, h⟩
      · exact v_call2X (pc := 194) (a := 3) (As := []) (rest := []) (e := p26) (S' := S28) (D' := D28) O hT (c_X5_readIndex (nu := nu) hT.2.1 hm (fun h => c_X5_readExpression hT.2.1 hm 12 h) e27 :) mw_X5_readIndex im_X5_readIndex se_X5_readIndex ml_X5_227 kq_3 (by decide) rfl rfl rfl (by omega) (by omega) (Nat.le_of_ble_eq_true rfl) dX5_readStatement_194 rfl
      · refine v_call2 (pc := 194) (a := 3) (As := []) (rest := []) (r := none) (S' := S28) (D' := D28) O hT (c_X5_readIndex (nu := nu) hT.2.1 hm (fun h => c_X5_readExpression hT.2.1 hm 12 h) e27 :) mw_X5_readIndex im_X5_readIndex se_X5_readIndex ml_X5_227 kq_3 (by decide) rfl rfl rfl (by omega) (by omega) (Nat.le_of_ble_eq_true rfl) dX5_readStatement_194 rfl rfl ?_
        refine v_sub [0, 1] rfl ?_
        exact w_X5_readStatement_b197 O hm hn hT hR (some a22) S28 D28 h
def f_X5_readStatement_b164 (rec : Int32 → Sr → Dat → Option (Sum Nat (Option Nat) × Sr × Dat)) (N : Nat) (nu : Nat) (x1 : Option Nat) (S : Sr) (D : Dat) : Option (Sum Nat (Option Nat) × Sr × Dat) :=
  (x1).bind (fun a29 => if kd S.2.1 a29 = 7 then (if (dI D a29 0) = 4 then (f_X5_readStatement_b179 rec N nu (some a29) 2 (some a29) S D) else (f_X5_readStatement_b179 rec N nu (some a29) 1 (some a29) S D)) else none)
set_option maxHeartbeats 4000000 in
theorem w_X5_readStatement_b164 {X : Cx} {nu : Nat} {rec : Int32 → Sr → Dat → Option (Sum Nat (Option Nat) × Sr × Dat)} {N : Nat} {fr lc : Nat} {z : Sum Nat (Option Nat) × Sr × Dat} (O : Ok X cX5_readStatement RX5 (some (.object "FlowChain$Statement")) (fr + 140) (lc + 2613)) (hm : wlm (xw X) = true) (hn : xn X = 2) (hT : T2 X) (hR : ∀ {x1 : Int32} {S : Sr} {D : Dat} {z : Sum Nat (Option Nat) × Sr × Dat}, rec x1 S D = some z → C2 (xl X) (xw X) yX5_readStatements cX5_readStatements 6 (some (.object "FlowChain$Statement")) fr lc [.ref (wb (xw X) + pp 3), .int x1] nu S D (ro (wb (xw X)) z)) (x1 : Option Nat) (S : Sr) (D : Dat) (h : f_X5_readStatement_b164 rec N nu x1 S D = some z) : V X (Q2 X nu (ro (bo X) z)) S.1 (Az nu S) D 164 [(0, .ref (bo X + pp 3)), (1, rv (bo X) x1)] [] := by
  unfold f_X5_readStatement_b164 at h
  refine v_aload_nr (pc := 164) O dX5_readStatement_164 1 rfl ?_
  refine v_aload_n (pc := 165) O dX5_readStatement_165 0 rfl ?_
  refine v_aload_nr (pc := 166) O dX5_readStatement_166 1 rfl ?_
  obtain ⟨a29, e30, h⟩ := bind_some h
  subst e30
  obtain ⟨c31, h⟩ := if_none h
  refine v_getI (pc := 167) (a := a29) O gf_X7_0 fl_X5_205 c31 dX5_readStatement_167 ?_
  refine v_iconst (pc := 170) O dX5_readStatement_170 ic_4 ?_
  refine v_icmpne (pc := 171) 178 O dX5_readStatement_171 (by decide) (fun c32 => ?_) (fun c32 => ?_)
  · have h := (if_neg c32).symm.trans h
    refine v_iconst (pc := 178) O dX5_readStatement_178 ic_1 ?_
    refine v_sub [0, 1] rfl ?_
    exact w_X5_readStatement_b179 O hm hn hT hR (some a29) 1 (some a29) S D h
  · have h := (if_pos c32).symm.trans h
    refine v_iconst (pc := 174) O dX5_readStatement_174 ic_2 ?_
    refine v_goto (pc := 175) 179 O dX5_readStatement_175 (by decide) ?_
    refine v_sub [0, 1] rfl ?_
    exact w_X5_readStatement_b179 O hm hn hT hR (some a29) 2 (some a29) S D h
def f_X5_readStatement_b23 (rec : Int32 → Sr → Dat → Option (Sum Nat (Option Nat) × Sr × Dat)) (N : Nat) (nu : Nat) (x1 : Option Nat) (S : Sr) (D : Dat) : Option (Sum Nat (Option Nat) × Sr × Dat) :=
  (x1).bind (fun a33 => if kd S.2.1 a33 = 7 then (if (dI D a33 0) = (13 : Int32) then ((f_X5_goTo ((dI D 3 8) + (1 : Int32)) D).bind (fun p37 => sb2 (f_X5_takeName nu 1 S p37) (fun p39 S41 D41 => if kd S41.2.1 a33 = 7 then (sb2 (f_X5_take nu 58 S41 (sI D41 a33 2 p39)) (fun p43 S45 D45 => sb2 (f_X5_takeLabel nu S45 D45) (fun p46 S48 D48 => if kd S48.2.1 a33 = 7 then (f_X5_readStatement_b211 rec N nu (some a33) S48 (sI D48 a33 3 p46)) else none))) else none))) else (if (dI D a33 0) = (14 : Int32) then ((f_X5_goTo ((dI D 3 8) + (1 : Int32)) D).bind (fun p51 => sb2 (f_X5_readExpression N nu 12 S p51) (fun p53 S55 D55 => if kd S55.2.1 a33 = 7 then (sb2 (f_X5_take nu 58 S55 (sI D55 a33 5 p53)) (fun p57 S59 D59 => sb2 (f_X5_takeLabel nu S59 D59) (fun p60 S62 D62 => if kd S62.2.1 a33 = 7 then (f_X5_readStatement_b211 rec N nu (some a33) S62 (sI D62 a33 3 p60)) else none))) else none))) else (if (dI D a33 0) = (16 : Int32) then (f_X5_readStatement_b64 rec N nu (some a33) S D) else (if (dI D a33 0) = (17 : Int32) then (f_X5_readStatement_b64 rec N nu (some a33) S D) else (if (dI D a33 0) = (18 : Int32) then ((f_X5_goTo ((dI D 3 8) + (1 : Int32)) D).bind (fun p67 => sb2 (f_X5_takeName nu 4 S p67) (fun p69 S71 D71 => if kd S71.2.1 a33 = 7 then (f_X5_readStatement_b211 rec N nu (some a33) S71 (sI D71 a33 2 p69)) else none))) else (f_X5_readStatement_b164 rec N nu (some a33) S D)))))) else none)
set_option maxHeartbeats 4000000 in
theorem w_X5_readStatement_b23 {X : Cx} {nu : Nat} {rec : Int32 → Sr → Dat → Option (Sum Nat (Option Nat) × Sr × Dat)} {N : Nat} {fr lc : Nat} {z : Sum Nat (Option Nat) × Sr × Dat} (O : Ok X cX5_readStatement RX5 (some (.object "FlowChain$Statement")) (fr + 140) (lc + 2613)) (hm : wlm (xw X) = true) (hn : xn X = 2) (hT : T2 X) (hR : ∀ {x1 : Int32} {S : Sr} {D : Dat} {z : Sum Nat (Option Nat) × Sr × Dat}, rec x1 S D = some z → C2 (xl X) (xw X) yX5_readStatements cX5_readStatements 6 (some (.object "FlowChain$Statement")) fr lc [.ref (wb (xw X) + pp 3), .int x1] nu S D (ro (wb (xw X)) z)) (x1 : Option Nat) (S : Sr) (D : Dat) (h : f_X5_readStatement_b23 rec N nu x1 S D = some z) : V X (Q2 X nu (ro (bo X) z)) S.1 (Az nu S) D 23 [(0, .ref (bo X + pp 3)), (1, rv (bo X) x1)] [] := by
  unfold f_X5_readStatement_b23 at h
  refine v_aload_nr (pc := 23) O dX5_readStatement_23 1 rfl ?_
  obtain ⟨a33, e34, h⟩ := bind_some h
  subst e34
  obtain ⟨c35, h⟩ := if_none h
  refine v_getI (pc := 24) (a := a33) O gf_X7_0 fl_X5_205 c35 dX5_readStatement_24 ?_
  by_cases c36 : (dI D a33 0) = (13 : Int32)
  · have h := (if_pos c36).symm.trans h
    refine v_tableIn (pc := 27) 71 O dX5_readStatement_27 (by rw [c36]; decide) (by rw [c36]; decide) (by rw [c36]; rfl) (by decide) ?_
    refine v_aload_n (pc := 71) O dX5_readStatement_71 0 rfl ?_
    refine v_aload_n (pc := 72) O dX5_readStatement_72 0 rfl ?_
    refine v_getI (pc := 73) (a := 3) O gf_X5_8 fl_X5_153 kq_3 dX5_readStatement_73 ?_
    refine v_iconst (pc := 76) O dX5_readStatement_76 ic_1 ?_
    refine v_iadd (pc := 77) O dX5_readStatement_77 ?_
    obtain ⟨p37, e38, h⟩ := bind_some h
    refine v_callV (pc := 78) (a := 3) (As := [.int ((dI D 3 8) + (1 : Int32))]) (rest := []) (r := none) (D' := p37) O (bb2 hT) (c_X5_goTo hm e38) mw_X5_goTo im_X5_goTo se_X5_goTo ml_X5_66 kq_3 (by decide) rfl rfl rfl (by omega) (by omega) (Nat.le_of_ble_eq_true rfl) dX5_readStatement_78 rfl rfl ?_
    refine v_aload_n (pc := 81) O dX5_readStatement_81 1 rfl ?_
    refine v_aload_n (pc := 82) O dX5_readStatement_82 0 rfl ?_
    refine v_iconst (pc := 83) O dX5_readStatement_83 ic_1 ?_
    rcases sb2_some h with ⟨p39, S41, D41, e40, rfl⟩ | ⟨p39, S41, D41, e40, h⟩
    · exact v_call2X (pc := 84) (a := 3) (As := [.int 1]) (rest := [.ref (bo X + pp a33)]) (e := p39) (S' := S41) (D' := D41) O hT (c_X5_takeName (nu := nu) hT.2.1 hm e40 :) mw_X5_takeName im_X5_takeName se_X5_takeName ml_X5_212 kq_3 (by decide) rfl rfl rfl (by omega) (by omega) (Nat.le_of_ble_eq_true rfl) dX5_readStatement_84 rfl
    · refine v_call2 (pc := 84) (a := 3) (As := [.int 1]) (rest := [.ref (bo X + pp a33)]) (r := (some (.int p39))) (S' := S41) (D' := D41) O hT (c_X5_takeName (nu := nu) hT.2.1 hm e40 :) mw_X5_takeName im_X5_takeName se_X5_takeName ml_X5_212 kq_3 (by decide) rfl rfl rfl (by omega) (by omega) (Nat.le_of_ble_eq_true rfl) dX5_readStatement_84 rfl rfl ?_
      obtain ⟨c42, h⟩ := if_none h
      refine v_putI (pc := 87) (a := a33) O pf_X7_2 fl_X5_215 c42 dX5_readStatement_87 ?_
      refine v_aload_n (pc := 90) O dX5_readStatement_90 0 rfl ?_
      refine v_bipush (pc := 91) O dX5_readStatement_91 bp_58 ?_
      rcases sb2_some h with ⟨p43, S45, D45, e44, rfl⟩ | ⟨p43, S45, D45, e44, h⟩
      · exact v_call2X (pc := 93) (a := 3) (As := [.int 58]) (rest := []) (e := p43) (S' := S45) (D' := D45) O hT (c_X5_take (nu := nu) hT.2.1 hm e44 :) mw_X5_take im_X5_take se_X5_take ml_X5_173 kq_3 (by decide) rfl rfl rfl (by omega) (by omega) (Nat.le_of_ble_eq_true rfl) dX5_readStatement_93 rfl
      · refine v_call2 (pc := 93) (a := 3) (As := [.int 58]) (rest := []) (r := none) (S' := S45) (D' := D45) O hT (c_X5_take (nu := nu) hT.2.1 hm e44 :) mw_X5_take im_X5_take se_X5_take ml_X5_173 kq_3 (by decide) rfl rfl rfl (by omega) (by omega) (Nat.le_of_ble_eq_true rfl) dX5_readStatement_93 rfl rfl ?_
        refine v_aload_n (pc := 96) O dX5_readStatement_96 1 rfl ?_
        refine v_aload_n (pc := 97) O dX5_readStatement_97 0 rfl ?_
        rcases sb2_some h with ⟨p46, S48, D48, e47, rfl⟩ | ⟨p46, S48, D48, e47, h⟩
        · exact v_call2X (pc := 98) (a := 3) (As := []) (rest := [.ref (bo X + pp a33)]) (e := p46) (S' := S48) (D' := D48) O hT (c_X5_takeLabel (nu := nu) hT.2.1 hm e47 :) mw_X5_takeLabel im_X5_takeLabel se_X5_takeLabel ml_X5_176 kq_3 (by decide) rfl rfl rfl (by omega) (by omega) (Nat.le_of_ble_eq_true rfl) dX5_readStatement_98 rfl
        · refine v_call2 (pc := 98) (a := 3) (As := []) (rest := [.ref (bo X + pp a33)]) (r := (some (.int p46))) (S' := S48) (D' := D48) O hT (c_X5_takeLabel (nu := nu) hT.2.1 hm e47 :) mw_X5_takeLabel im_X5_takeLabel se_X5_takeLabel ml_X5_176 kq_3 (by decide) rfl rfl rfl (by omega) (by omega) (Nat.le_of_ble_eq_true rfl) dX5_readStatement_98 rfl rfl ?_
          obtain ⟨c49, h⟩ := if_none h
          refine v_putI (pc := 101) (a := a33) O pf_X7_3 fl_X5_218 c49 dX5_readStatement_101 ?_
          refine v_goto (pc := 104) 211 O dX5_readStatement_104 (by decide) ?_
          refine v_sub [0, 1] rfl ?_
          exact w_X5_readStatement_b211 O hm hn hT hR (some a33) S48 (sI D48 a33 3 p46) h
  · have h := (if_neg c36).symm.trans h
    by_cases c50 : (dI D a33 0) = (14 : Int32)
    · have h := (if_pos c50).symm.trans h
      refine v_tableIn (pc := 27) 107 O dX5_readStatement_27 (by rw [c50]; decide) (by rw [c50]; decide) (by rw [c50]; rfl) (by decide) ?_
      refine v_aload_n (pc := 107) O dX5_readStatement_107 0 rfl ?_
      refine v_aload_n (pc := 108) O dX5_readStatement_108 0 rfl ?_
      refine v_getI (pc := 109) (a := 3) O gf_X5_8 fl_X5_153 kq_3 dX5_readStatement_109 ?_
      refine v_iconst (pc := 112) O dX5_readStatement_112 ic_1 ?_
      refine v_iadd (pc := 113) O dX5_readStatement_113 ?_
      obtain ⟨p51, e52, h⟩ := bind_some h
      refine v_callV (pc := 114) (a := 3) (As := [.int ((dI D 3 8) + (1 : Int32))]) (rest := []) (r := none) (D' := p51) O (bb2 hT) (c_X5_goTo hm e52) mw_X5_goTo im_X5_goTo se_X5_goTo ml_X5_66 kq_3 (by decide) rfl rfl rfl (by omega) (by omega) (Nat.le_of_ble_eq_true rfl) dX5_readStatement_114 rfl rfl ?_
      refine v_aload_n (pc := 117) O dX5_readStatement_117 1 rfl ?_
      refine v_aload_n (pc := 118) O dX5_readStatement_118 0 rfl ?_
      rcases sb2_some h with ⟨p53, S55, D55, e54, rfl⟩ | ⟨p53, S55, D55, e54, h⟩
      · exact v_call2X (pc := 119) (a := 3) (As := []) (rest := [.ref (bo X + pp a33)]) (e := p53) (S' := S55) (D' := D55) O hT (c_X5_readExpression (nu := nu) hT.2.1 hm 12 e54 :) mw_X5_readExpression im_X5_readExpression se_X5_readExpression ml_X5_221 kq_3 (by decide) rfl rfl rfl (by omega) (by omega) (Nat.le_of_ble_eq_true rfl) dX5_readStatement_119 rfl
      · refine v_call2 (pc := 119) (a := 3) (As := []) (rest := [.ref (bo X + pp a33)]) (r := (some (.int p53))) (S' := S55) (D' := D55) O hT (c_X5_readExpression (nu := nu) hT.2.1 hm 12 e54 :) mw_X5_readExpression im_X5_readExpression se_X5_readExpression ml_X5_221 kq_3 (by decide) rfl rfl rfl (by omega) (by omega) (Nat.le_of_ble_eq_true rfl) dX5_readStatement_119 rfl rfl ?_
        obtain ⟨c56, h⟩ := if_none h
        refine v_putI (pc := 122) (a := a33) O pf_X7_5 fl_X5_224 c56 dX5_readStatement_122 ?_
        refine v_aload_n (pc := 125) O dX5_readStatement_125 0 rfl ?_
        refine v_bipush (pc := 126) O dX5_readStatement_126 bp_58 ?_
        rcases sb2_some h with ⟨p57, S59, D59, e58, rfl⟩ | ⟨p57, S59, D59, e58, h⟩
        · exact v_call2X (pc := 128) (a := 3) (As := [.int 58]) (rest := []) (e := p57) (S' := S59) (D' := D59) O hT (c_X5_take (nu := nu) hT.2.1 hm e58 :) mw_X5_take im_X5_take se_X5_take ml_X5_173 kq_3 (by decide) rfl rfl rfl (by omega) (by omega) (Nat.le_of_ble_eq_true rfl) dX5_readStatement_128 rfl
        · refine v_call2 (pc := 128) (a := 3) (As := [.int 58]) (rest := []) (r := none) (S' := S59) (D' := D59) O hT (c_X5_take (nu := nu) hT.2.1 hm e58 :) mw_X5_take im_X5_take se_X5_take ml_X5_173 kq_3 (by decide) rfl rfl rfl (by omega) (by omega) (Nat.le_of_ble_eq_true rfl) dX5_readStatement_128 rfl rfl ?_
          refine v_aload_n (pc := 131) O dX5_readStatement_131 1 rfl ?_
          refine v_aload_n (pc := 132) O dX5_readStatement_132 0 rfl ?_
          rcases sb2_some h with ⟨p60, S62, D62, e61, rfl⟩ | ⟨p60, S62, D62, e61, h⟩
          · exact v_call2X (pc := 133) (a := 3) (As := []) (rest := [.ref (bo X + pp a33)]) (e := p60) (S' := S62) (D' := D62) O hT (c_X5_takeLabel (nu := nu) hT.2.1 hm e61 :) mw_X5_takeLabel im_X5_takeLabel se_X5_takeLabel ml_X5_176 kq_3 (by decide) rfl rfl rfl (by omega) (by omega) (Nat.le_of_ble_eq_true rfl) dX5_readStatement_133 rfl
          · refine v_call2 (pc := 133) (a := 3) (As := []) (rest := [.ref (bo X + pp a33)]) (r := (some (.int p60))) (S' := S62) (D' := D62) O hT (c_X5_takeLabel (nu := nu) hT.2.1 hm e61 :) mw_X5_takeLabel im_X5_takeLabel se_X5_takeLabel ml_X5_176 kq_3 (by decide) rfl rfl rfl (by omega) (by omega) (Nat.le_of_ble_eq_true rfl) dX5_readStatement_133 rfl rfl ?_
            obtain ⟨c63, h⟩ := if_none h
            refine v_putI (pc := 136) (a := a33) O pf_X7_3 fl_X5_218 c63 dX5_readStatement_136 ?_
            refine v_goto (pc := 139) 211 O dX5_readStatement_139 (by decide) ?_
            refine v_sub [0, 1] rfl ?_
            exact w_X5_readStatement_b211 O hm hn hT hR (some a33) S62 (sI D62 a33 3 p60) h
    · have h := (if_neg c50).symm.trans h
      by_cases c64 : (dI D a33 0) = (16 : Int32)
      · have h := (if_pos c64).symm.trans h
        refine v_tableIn (pc := 27) 64 O dX5_readStatement_27 (by rw [c64]; decide) (by rw [c64]; decide) (by rw [c64]; rfl) (by decide) ?_
        refine v_sub [0, 1] rfl ?_
        exact w_X5_readStatement_b64 O hm hn hT hR (some a33) S D h
      · have h := (if_neg c64).symm.trans h
        by_cases c65 : (dI D a33 0) = (17 : Int32)
        · have h := (if_pos c65).symm.trans h
          refine v_tableIn (pc := 27) 64 O dX5_readStatement_27 (by rw [c65]; decide) (by rw [c65]; decide) (by rw [c65]; rfl) (by decide) ?_
          refine v_sub [0, 1] rfl ?_
          exact w_X5_readStatement_b64 O hm hn hT hR (some a33) S D h
        · have h := (if_neg c65).symm.trans h
          by_cases c66 : (dI D a33 0) = (18 : Int32)
          · have h := (if_pos c66).symm.trans h
            refine v_tableIn (pc := 27) 142 O dX5_readStatement_27 (by rw [c66]; decide) (by rw [c66]; decide) (by rw [c66]; rfl) (by decide) ?_
            refine v_aload_n (pc := 142) O dX5_readStatement_142 0 rfl ?_
            refine v_aload_n (pc := 143) O dX5_readStatement_143 0 rfl ?_
            refine v_getI (pc := 144) (a := 3) O gf_X5_8 fl_X5_153 kq_3 dX5_readStatement_144 ?_
            refine v_iconst (pc := 147) O dX5_readStatement_147 ic_1 ?_
            refine v_iadd (pc := 148) O dX5_readStatement_148 ?_
            obtain ⟨p67, e68, h⟩ := bind_some h
            refine v_callV (pc := 149) (a := 3) (As := [.int ((dI D 3 8) + (1 : Int32))]) (rest := []) (r := none) (D' := p67) O (bb2 hT) (c_X5_goTo hm e68) mw_X5_goTo im_X5_goTo se_X5_goTo ml_X5_66 kq_3 (by decide) rfl rfl rfl (by omega) (by omega) (Nat.le_of_ble_eq_true rfl) dX5_readStatement_149 rfl rfl ?_
            refine v_aload_n (pc := 152) O dX5_readStatement_152 1 rfl ?_
            refine v_aload_n (pc := 153) O dX5_readStatement_153 0 rfl ?_
            refine v_iconst (pc := 154) O dX5_readStatement_154 ic_4 ?_
            rcases sb2_some h with ⟨p69, S71, D71, e70, rfl⟩ | ⟨p69, S71, D71, e70, h⟩
            · exact v_call2X (pc := 155) (a := 3) (As := [.int 4]) (rest := [.ref (bo X + pp a33)]) (e := p69) (S' := S71) (D' := D71) O hT (c_X5_takeName (nu := nu) hT.2.1 hm e70 :) mw_X5_takeName im_X5_takeName se_X5_takeName ml_X5_212 kq_3 (by decide) rfl rfl rfl (by omega) (by omega) (Nat.le_of_ble_eq_true rfl) dX5_readStatement_155 rfl
            · refine v_call2 (pc := 155) (a := 3) (As := [.int 4]) (rest := [.ref (bo X + pp a33)]) (r := (some (.int p69))) (S' := S71) (D' := D71) O hT (c_X5_takeName (nu := nu) hT.2.1 hm e70 :) mw_X5_takeName im_X5_takeName se_X5_takeName ml_X5_212 kq_3 (by decide) rfl rfl rfl (by omega) (by omega) (Nat.le_of_ble_eq_true rfl) dX5_readStatement_155 rfl rfl ?_
              obtain ⟨c72, h⟩ := if_none h
              refine v_putI (pc := 158) (a := a33) O pf_X7_2 fl_X5_215 c72 dX5_readStatement_158 ?_
              refine v_goto (pc := 161) 211 O dX5_readStatement_161 (by decide) ?_
              refine v_sub [0, 1] rfl ?_
              exact w_X5_readStatement_b211 O hm hn hT hR (some a33) S71 (sI D71 a33 2 p69) h
          · have h := (if_neg c66).symm.trans h
            refine v_table (pc := 27) 164 O dX5_readStatement_27 (fun g1 g2 => by
                have c36i := ne_i (13) rfl c36
                have c50i := ne_i (14) rfl c50
                have c64i := ne_i (16) rfl c64
                have c65i := ne_i (17) rfl c65
                have c66i := ne_i (18) rfl c66
                have e9 : (dI D a33 0).toInt = 15 := by omega
                rw [e9]; exact ⟨_, rfl, by decide⟩) (by decide) ?_
            refine v_sub [0, 1] rfl ?_
            exact w_X5_readStatement_b164 O hm hn hT hR (some a33) S D h
def f_X5_readStatement (rec : Int32 → Sr → Dat → Option (Sum Nat (Option Nat) × Sr × Dat)) (N : Nat) (nu : Nat) (S : Sr) (D : Dat) : Option (Sum Nat (Option Nat) × Sr × Dat) :=
  if 1 ≤ S.2.2.1 ∧ 10 ≤ S.2.2.2 ∧ NS ≤ S.1 then ((f_X5_kindHere (sN D S.1)).bind (fun p74 => ((dR p74.2 3 4)).bind (fun a76 => if a76 = 191 ∨ a76 = 196 then ((f_X4_size a76 p74.2).bind (fun p79 => f_X5_readStatement_b23 rec N nu (some S.1) (nS S) (f_X7_init S.1 p74.1 (dI p74.2 3 7) p79.1 p79.2))) else none))) else none
set_option maxHeartbeats 4000000 in
theorem w_X5_readStatement {X : Cx} {nu : Nat} {rec : Int32 → Sr → Dat → Option (Sum Nat (Option Nat) × Sr × Dat)} {N : Nat} {fr lc : Nat} {z : Sum Nat (Option Nat) × Sr × Dat} (O : Ok X cX5_readStatement RX5 (some (.object "FlowChain$Statement")) (fr + 140) (lc + 2613)) (hm : wlm (xw X) = true) (hn : xn X = 2) (hT : T2 X) (hR : ∀ {x1 : Int32} {S : Sr} {D : Dat} {z : Sum Nat (Option Nat) × Sr × Dat}, rec x1 S D = some z → C2 (xl X) (xw X) yX5_readStatements cX5_readStatements 6 (some (.object "FlowChain$Statement")) fr lc [.ref (wb (xw X) + pp 3), .int x1] nu S D (ro (wb (xw X)) z)) (S : Sr) (D : Dat) (h : f_X5_readStatement rec N nu S D = some z) : V X (Q2 X nu (ro (bo X) z)) S.1 (Az nu S) D 0 [(0, .ref (bo X + pp 3))] [] := by
  unfold f_X5_readStatement at h
  obtain ⟨c73, h⟩ := if_none h
  refine v_new (pc := 0) (A := Az nu S) (pp_big c73.2.2) O ⟨hT.2.2.1, hT.2.2.2⟩ pn_X7 cn_X5_192 (Or.inl st_n3) c73.1 c73.2.1 dX5_readStatement_0 ?_
  rw [az_push c73.2.2]
  show V X _ (nS S).1 (Az nu (nS S)) _ _ _ _
  refine v_dup (pc := 3) O dX5_readStatement_3 rfl ?_
  refine v_aload_n (pc := 4) O dX5_readStatement_4 0 rfl ?_
  obtain ⟨p74, e75, h⟩ := bind_some h
  refine v_callV (pc := 5) (a := 3) (As := []) (rest := [.ref (bo X + pp S.1), .ref (bo X + pp S.1)]) (r := (some (.int p74.1))) (D' := p74.2) O (bb2 hT) (c_X5_kindHere hm e75) mw_X5_kindHere im_X5_kindHere se_X5_kindHere ml_X5_196 kq_3 (by decide) rfl rfl rfl (by omega) (by omega) (Nat.le_of_ble_eq_true rfl) dX5_readStatement_5 rfl rfl ?_
  refine v_aload_n (pc := 8) O dX5_readStatement_8 0 rfl ?_
  refine v_getI (pc := 9) (a := 3) O gf_X5_7 fl_X5_36 kq_3 dX5_readStatement_9 ?_
  refine v_aload_n (pc := 12) O dX5_readStatement_12 0 rfl ?_
  refine v_getR (pc := 13) (a := 3) O gf_X5_4 fl_X5_45 kq_3 dX5_readStatement_13 ?_
  obtain ⟨a76, e77, h⟩ := bind_some h
  rw [e77]
  obtain ⟨c78, h⟩ := if_none h
  obtain ⟨p79, e80, h⟩ := bind_some h
  refine v_callV (pc := 16) (a := a76) (As := []) (rest := [.int (dI p74.2 3 7), .int p74.1, .ref (bo X + pp S.1), .ref (bo X + pp S.1)]) (r := (some (.int p79.1))) (D' := p79.2) O (bb2 hT) (c_X4_size hm c78 e80) mw_X4_size im_X4_size se_X4_size ml_X5_199 (kt_X4 c78) (by decide) rfl rfl rfl (by omega) (by omega) (Nat.le_of_ble_eq_true rfl) dX5_readStatement_16 rfl rfl ?_
  refine v_callI (pc := 19) (a := S.1) (As := [.int p74.1, .int (dI p74.2 3 7), .int p79.1]) (rest := [.ref (bo X + pp S.1)]) O (bb2 hT) (c_X7_init (st_k c73.2.2)) mw_X7_init rfl im_X7_init ml_X5_202 rfl (by omega) (by omega) (Nat.le_of_ble_eq_true rfl) dX5_readStatement_19 rfl ?_
  refine v_astore_n (pc := 22) (lv' := [(1, .ref (bo X + pp S.1)), (0, .ref (bo X + pp 3))]) O dX5_readStatement_22 rfl (by rw [hn]; decide) rfl ?_
  refine v_sub [1, 0] rfl ?_
  exact w_X5_readStatement_b23 O hm hn hT hR (some S.1) (nS S) (f_X7_init S.1 p74.1 (dI p74.2 3 7) p79.1 p79.2) h
theorem c_X5_readStatement {l : Launch} {w : Wx} {nu : Nat} {rec : Int32 → Sr → Dat → Option (Sum Nat (Option Nat) × Sr × Dat)} {N : Nat} {fr lc : Nat} (hl : l.stackTraces = false) (hm : wlm w = true) (hR : ∀ {x1 : Int32} {S : Sr} {D : Dat} {z : Sum Nat (Option Nat) × Sr × Dat}, rec x1 S D = some z → C2 l w yX5_readStatements cX5_readStatements 6 (some (.object "FlowChain$Statement")) fr lc [.ref (wb w + pp 3), .int x1] nu S D (ro (wb w) z)) {S : Sr} {D : Dat} {z : Sum Nat (Option Nat) × Sr × Dat} (h : f_X5_readStatement rec N nu S D = some z) : C2 l w yX5_readStatement cX5_readStatement 2 (some (.object "FlowChain$Statement")) (fr + 140) (lc + 2613) [.ref (wb w + pp 3)] nu S D (ro (wb w) z) :=
  C2.of hl (by decide) (Nat.le_of_ble_eq_true rfl) (fun X e1 e2 e3 hT O _ _ => by
  subst e1
  subst e2
  exact w_X5_readStatement O hm e3 hT hR  S D h)
def f_X5_readStatements_s_b45 (rec : Int32 → Sr → Dat → Option (Sum Nat (Option Nat) × Sr × Dat)) (N : Nat) (nu : Nat) (rec_7 : Int32 → Option Nat → Option Nat → Int32 → Sr → Dat → Option (Sum Nat (Option Nat) × Sr × Dat)) (x1 : Int32) (x2 : Option Nat) (x4 : Int32) (x5 : Option Nat) (S : Sr) (D : Dat) : Option (Sum Nat (Option Nat) × Sr × Dat) :=
  rec_7 x1 x2 x5 (x4 + 1) S D
set_option maxHeartbeats 4000000 in
theorem w_X5_readStatements_s_b45 {X : Cx} {nu : Nat} {rec : Int32 → Sr → Dat → Option (Sum Nat (Option Nat) × Sr × Dat)} {N : Nat} {fr lc : Nat} {rec_7 : Int32 → Option Nat → Option Nat → Int32 → Sr → Dat → Option (Sum Nat (Option Nat) × Sr × Dat)} {z : Sum Nat (Option Nat) × Sr × Dat} (O : Ok X cX5_readStatements RX5 (some (.object "FlowChain$Statement")) (fr + 141) (lc + 2634)) (hm : wlm (xw X) = true) (hn : xn X = 6) (hT : T2 X) (hR : ∀ {x1 : Int32} {S : Sr} {D : Dat} {z : Sum Nat (Option Nat) × Sr × Dat}, rec x1 S D = some z → C2 (xl X) (xw X) yX5_readStatements cX5_readStatements 6 (some (.object "FlowChain$Statement")) fr lc [.ref (wb (xw X) + pp 3), .int x1] nu S D (ro (wb (xw X)) z)) (hrec_7 : ∀ (x1 : Int32) (x2 : Option Nat) (x3 : Option Nat) (x4 : Int32) (S : Sr) (D : Dat), rec_7 x1 x2 x3 x4 S D = some z → V X (Q2 X nu (ro (bo X) z)) S.1 (Az nu S) D 7 [(0, .ref (bo X + pp 3)), (1, .int x1), (2, rv (bo X) x2), (3, rv (bo X) x3), (4, .int x4)] []) (x1 : Int32) (x2 : Option Nat) (x4 : Int32) (x5 : Option Nat) (S : Sr) (D : Dat) (h : f_X5_readStatements_s_b45 rec N nu rec_7 x1 x2 x4 x5 S D = some z) : V X (Q2 X nu (ro (bo X) z)) S.1 (Az nu S) D 45 [(0, .ref (bo X + pp 3)), (1, .int x1), (2, rv (bo X) x2), (4, .int x4), (5, rv (bo X) x5)] [] := by
  unfold f_X5_readStatements_s_b45 at h
  refine v_aloadr (pc := 45) O dX5_readStatements_45 4 rfl ?_
  refine v_astore_nr (pc := 47) (i := 3) (lv' := [(3, rv (bo X) x5), (0, .ref (bo X + pp 3)), (1, .int x1), (2, rv (bo X) x2), (4, .int x4), (5, rv (bo X) x5)]) O dX5_readStatements_47 rfl (by rw [hn]; decide) (by simp [rv_cat, cat_i, cat_l, cat_r, cat_n]) ?_
  refine v_iinc (pc := 48) (lv' := [(4, .int (x4 + 1)), (3, rv (bo X) x5), (0, .ref (bo X + pp 3)), (1, .int x1), (2, rv (bo X) x2), (5, rv (bo X) x5)]) O dX5_readStatements_48 4 rfl (congrArg (fun q => x4 + q) ic_1) (by rw [hn]; decide) (by simp [rv_cat, cat_i, cat_l, cat_r, cat_n]) ?_
  refine v_goto (pc := 51) 7 O dX5_readStatements_51 (by decide) ?_
  refine v_sub [2, 3, 4, 1, 0] rfl ?_
  exact hrec_7 x1 x2 x5 (x4 + 1) S D h
def f_X5_readStatements_s_b54 (rec : Int32 → Sr → Dat → Option (Sum Nat (Option Nat) × Sr × Dat)) (N : Nat) (nu : Nat) (x2 : Option Nat) (S : Sr) (D : Dat) : Option (Sum Nat (Option Nat) × Sr × Dat) :=
  some (.inr x2, S, D)
set_option maxHeartbeats 4000000 in
theorem w_X5_readStatements_s_b54 {X : Cx} {nu : Nat} {rec : Int32 → Sr → Dat → Option (Sum Nat (Option Nat) × Sr × Dat)} {N : Nat} {fr lc : Nat} {z : Sum Nat (Option Nat) × Sr × Dat} (O : Ok X cX5_readStatements RX5 (some (.object "FlowChain$Statement")) (fr + 141) (lc + 2634)) (hm : wlm (xw X) = true) (hn : xn X = 6) (hT : T2 X) (hR : ∀ {x1 : Int32} {S : Sr} {D : Dat} {z : Sum Nat (Option Nat) × Sr × Dat}, rec x1 S D = some z → C2 (xl X) (xw X) yX5_readStatements cX5_readStatements 6 (some (.object "FlowChain$Statement")) fr lc [.ref (wb (xw X) + pp 3), .int x1] nu S D (ro (wb (xw X)) z)) (x2 : Option Nat) (S : Sr) (D : Dat) (h : f_X5_readStatements_s_b54 rec N nu x2 S D = some z) : V X (Q2 X nu (ro (bo X) z)) S.1 (Az nu S) D 54 [(2, rv (bo X) x2)] [] := by
  unfold f_X5_readStatements_s_b54 at h
  refine v_aload_nr (pc := 54) O dX5_readStatements_54 0 rfl ?_
  obtain rfl := Option.some.inj h
  exact v_aret2 (pc := 55) (r := x2) O dX5_readStatements_55
def f_X5_readStatements_s_b7 (rec : Int32 → Sr → Dat → Option (Sum Nat (Option Nat) × Sr × Dat)) (N : Nat) (nu : Nat) : Nat → Int32 → Option Nat → Option Nat → Int32 → Sr → Dat → Option (Sum Nat (Option Nat) × Sr × Dat)
  | 0, _, _, _, _, _, _ => none
  | g + 1, x1, x2, x3, x4, S, D => if 240 ≤ x4 then (f_X5_readStatements_s_b54 rec N nu x2 S D) else (if (dI D 3 6) = x1 then (f_X5_readStatements_s_b54 rec N nu x2 S D) else (sb2 (f_X5_readStatement rec N nu S D) (fun p3 S5 D5 => oel x3 (f_X5_readStatements_s_b45 rec N nu (f_X5_readStatements_s_b7 rec N nu g) x1 p3 x4 p3 S5 D5) (fun a6 => if kd S5.2.1 a6 = 7 then (f_X5_readStatements_s_b45 rec N nu (f_X5_readStatements_s_b7 rec N nu g) x1 x2 x4 p3 S5 (sR D5 a6 9 p3)) else none))))
set_option maxHeartbeats 4000000 in
theorem w_X5_readStatements_s_b7 {X : Cx} {nu : Nat} {rec : Int32 → Sr → Dat → Option (Sum Nat (Option Nat) × Sr × Dat)} {N : Nat} {fr lc : Nat} {z : Sum Nat (Option Nat) × Sr × Dat} (O : Ok X cX5_readStatements RX5 (some (.object "FlowChain$Statement")) (fr + 141) (lc + 2634)) (hm : wlm (xw X) = true) (hn : xn X = 6) (hT : T2 X) (hR : ∀ {x1 : Int32} {S : Sr} {D : Dat} {z : Sum Nat (Option Nat) × Sr × Dat}, rec x1 S D = some z → C2 (xl X) (xw X) yX5_readStatements cX5_readStatements 6 (some (.object "FlowChain$Statement")) fr lc [.ref (wb (xw X) + pp 3), .int x1] nu S D (ro (wb (xw X)) z)) : ∀ (g : Nat) (x1 : Int32) (x2 : Option Nat) (x3 : Option Nat) (x4 : Int32) (S : Sr) (D : Dat), f_X5_readStatements_s_b7 rec N nu g x1 x2 x3 x4 S D = some z → V X (Q2 X nu (ro (bo X) z)) S.1 (Az nu S) D 7 [(0, .ref (bo X + pp 3)), (1, .int x1), (2, rv (bo X) x2), (3, rv (bo X) x3), (4, .int x4)] [] := by
  intro g
  induction g with
  | zero => intro x1 x2 x3 x4 S D h; exact absurd h (by simp [f_X5_readStatements_s_b7])
  | succ g ih =>
    intro x1 x2 x3 x4 S D h
    rw [f_X5_readStatements_s_b7] at h
    refine v_iload (pc := 7) O dX5_readStatements_7 4 rfl ?_
    refine v_sipush (pc := 9) O dX5_readStatements_9 sp_240 ?_
    refine v_icmpge (pc := 12) 54 O dX5_readStatements_12 (by decide) (fun c1 => ?_) (fun c1 => ?_)
    · have h := (if_pos c1).symm.trans h
      refine v_sub [2] rfl ?_
      exact w_X5_readStatements_s_b54 O hm hn hT hR x2 S D h
    · have h := (if_neg c1).symm.trans h
      refine v_aload_n (pc := 15) O dX5_readStatements_15 0 rfl ?_
      refine v_getI (pc := 16) (a := 3) O gf_X5_6 fl_X5_70 kq_3 dX5_readStatements_16 ?_
      refine v_iload_n (pc := 19) O dX5_readStatements_19 1 rfl ?_
      refine v_icmpeq (pc := 20) 54 O dX5_readStatements_20 (by decide) (fun c2 => ?_) (fun c2 => ?_)
      · have h := (if_pos c2).symm.trans h
        refine v_sub [2] rfl ?_
        exact w_X5_readStatements_s_b54 O hm hn hT hR x2 S D h
      · have h := (if_neg c2).symm.trans h
        refine v_aload_n (pc := 23) O dX5_readStatements_23 0 rfl ?_
        rcases sb2_some h with ⟨p3, S5, D5, e4, rfl⟩ | ⟨p3, S5, D5, e4, h⟩
        · exact v_call2X (pc := 24) (a := 3) (As := []) (rest := []) (e := p3) (S' := S5) (D' := D5) O hT (c_X5_readStatement (nu := nu) hT.2.1 hm hR e4 :) mw_X5_readStatement im_X5_readStatement se_X5_readStatement ml_X5_188 kq_3 (by decide) rfl rfl rfl (by omega) (by omega) (Nat.le_of_ble_eq_true rfl) dX5_readStatements_24 rfl
        · refine v_call2 (pc := 24) (a := 3) (As := []) (rest := []) (r := (some (rv (bo X) p3))) (S' := S5) (D' := D5) O hT (c_X5_readStatement (nu := nu) hT.2.1 hm hR e4 :) mw_X5_readStatement im_X5_readStatement se_X5_readStatement ml_X5_188 kq_3 (by decide) rfl rfl rfl (by omega) (by omega) (Nat.le_of_ble_eq_true rfl) dX5_readStatements_24 rfl rfl ?_
          refine v_astorer (pc := 27) (lv' := [(5, rv (bo X) p3), (0, .ref (bo X + pp 3)), (1, .int x1), (2, rv (bo X) x2), (3, rv (bo X) x3), (4, .int x4)]) O dX5_readStatements_27 (by rw [hn]; decide) rfl ?_
          refine v_aload_nr (pc := 29) O dX5_readStatements_29 4 rfl ?_
          refine v_ifnonnull (pc := 30) 39 O dX5_readStatements_30 (by decide) (fun a6 e7 => ?_) (fun e7 => ?_)
          · subst e7
            have h := osome h
            refine v_aload_n (pc := 39) O dX5_readStatements_39 4 rfl ?_
            refine v_aloadr (pc := 40) O dX5_readStatements_40 0 rfl ?_
            obtain ⟨c8, h⟩ := if_none h
            refine v_putR (pc := 42) (a := a6) (r := p3) O pf_X7_9 rfl fl_X5_191 c8 dX5_readStatements_42 ?_
            refine v_sub [1, 2, 3, 5, 0] rfl ?_
            exact w_X5_readStatements_s_b45 O hm hn hT hR ih x1 x2 x4 p3 S5 (sR D5 a6 9 p3) h
          · subst e7
            have h := onone h
            refine v_aloadr (pc := 33) O dX5_readStatements_33 0 rfl ?_
            refine v_astore_nr (pc := 35) (lv' := [(2, rv (bo X) p3), (5, rv (bo X) p3), (0, .ref (bo X + pp 3)), (1, .int x1), (3, rv (bo X) none), (4, .int x4)]) O dX5_readStatements_35 rfl (by rw [hn]; decide) rfl ?_
            refine v_goto (pc := 36) 45 O dX5_readStatements_36 (by decide) ?_
            refine v_sub [2, 3, 0, 5, 1] rfl ?_
            exact w_X5_readStatements_s_b45 O hm hn hT hR ih x1 p3 x4 p3 S5 D5 h
def f_X5_readStatements_s (rec : Int32 → Sr → Dat → Option (Sum Nat (Option Nat) × Sr × Dat)) (N : Nat) (nu : Nat) (x1 : Int32) (S : Sr) (D : Dat) : Option (Sum Nat (Option Nat) × Sr × Dat) :=
  f_X5_readStatements_s_b7 rec N nu N x1 none none 0 S D
set_option maxHeartbeats 4000000 in
theorem w_X5_readStatements_s {X : Cx} {nu : Nat} {rec : Int32 → Sr → Dat → Option (Sum Nat (Option Nat) × Sr × Dat)} {N : Nat} {fr lc : Nat} {z : Sum Nat (Option Nat) × Sr × Dat} (O : Ok X cX5_readStatements RX5 (some (.object "FlowChain$Statement")) (fr + 141) (lc + 2634)) (hm : wlm (xw X) = true) (hn : xn X = 6) (hT : T2 X) (hR : ∀ {x1 : Int32} {S : Sr} {D : Dat} {z : Sum Nat (Option Nat) × Sr × Dat}, rec x1 S D = some z → C2 (xl X) (xw X) yX5_readStatements cX5_readStatements 6 (some (.object "FlowChain$Statement")) fr lc [.ref (wb (xw X) + pp 3), .int x1] nu S D (ro (wb (xw X)) z)) (x1 : Int32) (S : Sr) (D : Dat) (h : f_X5_readStatements_s rec N nu x1 S D = some z) : V X (Q2 X nu (ro (bo X) z)) S.1 (Az nu S) D 0 [(0, .ref (bo X + pp 3)), (1, .int x1)] [] := by
  unfold f_X5_readStatements_s at h
  refine v_null (pc := 0) O dX5_readStatements_0 ?_
  show V X _ _ _ _ 1 _ (rv (bo X) none :: [])
  refine v_astore_nr (pc := 1) (lv' := [(2, rv (bo X) none), (0, .ref (bo X + pp 3)), (1, .int x1)]) O dX5_readStatements_1 rfl (by rw [hn]; decide) rfl ?_
  refine v_null (pc := 2) O dX5_readStatements_2 ?_
  show V X _ _ _ _ 3 _ (rv (bo X) none :: [])
  refine v_astore_nr (pc := 3) (i := 3) (lv' := [(3, rv (bo X) none), (2, rv (bo X) none), (0, .ref (bo X + pp 3)), (1, .int x1)]) O dX5_readStatements_3 rfl (by rw [hn]; decide) (by simp [rv_cat, cat_i, cat_l, cat_r, cat_n]) ?_
  refine v_iconst (pc := 4) O dX5_readStatements_4 ic_0 ?_
  refine v_istore (pc := 5) (lv' := [(4, .int 0), (3, rv (bo X) none), (2, rv (bo X) none), (0, .ref (bo X + pp 3)), (1, .int x1)]) O dX5_readStatements_5 (by rw [hn]; decide) (by simp [rv_cat, cat_i, cat_l, cat_r, cat_n]) ?_
  refine v_sub [3, 4, 2, 1, 0] rfl ?_
  exact w_X5_readStatements_s_b7 O hm hn hT hR N x1 none none 0 S D h
theorem c_X5_readStatements_s {l : Launch} {w : Wx} {nu : Nat} {rec : Int32 → Sr → Dat → Option (Sum Nat (Option Nat) × Sr × Dat)} {N : Nat} {fr lc : Nat} (hl : l.stackTraces = false) (hm : wlm w = true) (hR : ∀ {x1 : Int32} {S : Sr} {D : Dat} {z : Sum Nat (Option Nat) × Sr × Dat}, rec x1 S D = some z → C2 l w yX5_readStatements cX5_readStatements 6 (some (.object "FlowChain$Statement")) fr lc [.ref (wb w + pp 3), .int x1] nu S D (ro (wb w) z)) {x1 : Int32} {S : Sr} {D : Dat} {z : Sum Nat (Option Nat) × Sr × Dat} (h : f_X5_readStatements_s rec N nu x1 S D = some z) : C2 l w yX5_readStatements cX5_readStatements 6 (some (.object "FlowChain$Statement")) (fr + 141) (lc + 2634) [.ref (wb w + pp 3), .int x1] nu S D (ro (wb w) z) :=
  C2.of hl (by decide) (Nat.le_of_ble_eq_true rfl) (fun X e1 e2 e3 hT O _ _ => by
  subst e1
  subst e2
  exact w_X5_readStatements_s O hm e3 hT hR x1 S D h)
def f_X5_readStatements (N : Nat) (nu : Nat) : Nat → Int32 → Sr → Dat → Option (Sum Nat (Option Nat) × Sr × Dat)
  | 0, _, _, _ => none
  | d + 1, x1, S, D => f_X5_readStatements_s (f_X5_readStatements N nu d) N nu x1 S D
theorem c_X5_readStatements {l : Launch} {w : Wx} {nu : Nat} {N : Nat} (hl : l.stackTraces = false) (hm : wlm w = true) : ∀ (d : Nat) {x1 : Int32} {S : Sr} {D : Dat} {z : Sum Nat (Option Nat) × Sr × Dat} (h : f_X5_readStatements N nu d x1 S D = some z), C2 l w yX5_readStatements cX5_readStatements 6 (some (.object "FlowChain$Statement")) (141 * d) (2634 * d) [.ref (wb w + pp 3), .int x1] nu S D (ro (wb w) z) := by
  intro d
  induction d with
  | zero => intro x1 S D z h; exact absurd h (by simp [f_X5_readStatements])
  | succ d ih =>
    intro x1 S D z h
    rw [f_X5_readStatements] at h
    exact c_X5_readStatements_s (fr := 141 * d) (lc := 2634 * d) hl hm (fun h => ih h) h
