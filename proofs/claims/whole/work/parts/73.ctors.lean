theorem ml_X5_3 : Cond.methodLink RX5 3 Lib.objectInit ∈ tb := tb_of 230 (by decide +kernel) (by decide +kernel)
theorem ac_char : Cond.arrayClass .char ∈ tb := tb_of 274 (by decide +kernel) (by decide +kernel)
theorem sp_241 : (Int16.ofInt (241)).toInt32 = (241 : Int32) := by decide
theorem ac_int : Cond.arrayClass .int ∈ tb := tb_of 224 (by decide +kernel) (by decide +kernel)
theorem ml_X1_3 : Cond.methodLink RX1 3 Lib.objectInit ∈ tb := tb_of 280 (by decide +kernel) (by decide +kernel)
theorem cn_X1_15 : Cond.classLink RX1 15 ("[" ++ (FieldType.array .int).toString) ∈ tb := tb_of 281 (by decide +kernel) (by decide +kernel)
theorem mr_8 {nu : Nat} : ∀ q, q < 48 → kst (8 + 1 + q) = 14 ∧ nl nu (8 + 1 + q) = 26 ∧ pp (8 + 1 + q) = 11 + 1 + q := fun q hq => by
  have key : ∀ q, q < 48 → kst (8 + 1 + q) = 14 ∧ nst (8 + 1 + q) = 26 ∧ 8 + 1 + q ≠ 2 ∧ pp (8 + 1 + q) = 11 + 1 + q := by decide +kernel
  obtain ⟨k1, k2, k3, k4⟩ := key q hq
  exact ⟨k1, by rw [nl, if_neg k3, k2], k4⟩
theorem mr_57 {nu : Nat} : ∀ q, q < 48 → kst (57 + 1 + q) = 14 ∧ nl nu (57 + 1 + q) = 26 ∧ pp (57 + 1 + q) = 60 + 1 + q := fun q hq => by
  have key : ∀ q, q < 48 → kst (57 + 1 + q) = 14 ∧ nst (57 + 1 + q) = 26 ∧ 57 + 1 + q ≠ 2 ∧ pp (57 + 1 + q) = 60 + 1 + q := by decide +kernel
  obtain ⟨k1, k2, k3, k4⟩ := key q hq
  exact ⟨k1, by rw [nl, if_neg k3, k2], k4⟩
theorem ml_X8_3 : Cond.methodLink RX8 3 Lib.objectInit ∈ tb := tb_of 307 (by decide +kernel) (by decide +kernel)
theorem ml_X6_3 : Cond.methodLink RX6 3 Lib.objectInit ∈ tb := tb_of 329 (by decide +kernel) (by decide +kernel)
theorem ac_long : Cond.arrayClass .long ∈ tb := tb_of 349 (by decide +kernel) (by decide +kernel)
theorem ml_X9_5 : Cond.methodLink RX9 5 Lib.objectInit ∈ tb := tb_of 323 (by decide +kernel) (by decide +kernel)
theorem ins_X6 : Cond.instantiable RX6 6 ∈ tb := tb_of 325 (by decide +kernel) (by decide +kernel)
theorem pn_X6 : PN 6 RX6 TX6 6 tyX6 := ⟨rfl, inb_X6, tyX6_ok, by decide, rfl, by decide +kernel, ins_X6, ini_X6⟩
theorem cn_X9_11 : Cond.classLink RX9 11 RX6 ∈ tb := tb_of 324 (by decide +kernel) (by decide +kernel)
theorem cw_X6_init : Cond.code yX6_init cX6_init 1 none ∈ tb := tb_of 328 (by decide +kernel) (by decide +kernel)
theorem mw_X6_init : MW yX6_init cX6_init 1 none 0 := ⟨cw_X6_init, ini_X6, by decide +kernel⟩
theorem im_X6_init : Cond.instanceMethod yX6_init ∈ tb := tb_of 327 (by decide +kernel) (by decide +kernel)
theorem nl_X9_13 : (RX9, 13, yX6_init) ∈ nestl := by decide +kernel
theorem cn_X9_25 : Cond.classLink RX9 25 ("[" ++ (FieldType.array .int).toString) ∈ tb := tb_of 350 (by decide +kernel) (by decide +kernel)
theorem mr_115 {nu : Nat} : ∀ q, q < 64 → kst (115 + 1 + q) = 14 ∧ nl nu (115 + 1 + q) = 56 ∧ pp (115 + 1 + q) = 118 + 1 + q := fun q hq => by
  have key : ∀ q, q < 64 → kst (115 + 1 + q) = 14 ∧ nst (115 + 1 + q) = 56 ∧ 115 + 1 + q ≠ 2 ∧ pp (115 + 1 + q) = 118 + 1 + q := by decide +kernel
  obtain ⟨k1, k2, k3, k4⟩ := key q hq
  exact ⟨k1, by rw [nl, if_neg k3, k2], k4⟩
theorem ml_X3_3 : Cond.methodLink RX3 3 Lib.objectInit ∈ tb := tb_of 396 (by decide +kernel) (by decide +kernel)
theorem bp_120 : (Int8.ofInt (120)).toInt32 = (120 : Int32) := by decide
theorem ml_X10_3 : Cond.methodLink RX10 3 Lib.objectInit ∈ tb := tb_of 436 (by decide +kernel) (by decide +kernel)
theorem ml_X4_3 : Cond.methodLink RX4 3 Lib.objectInit ∈ tb := tb_of 452 (by decide +kernel) (by decide +kernel)
theorem cn_X4_9 : Cond.classLink RX4 9 "FlowChain$Statement" ∈ tb := tb_of 453 (by decide +kernel) (by decide +kernel)
theorem ml_X0_3 : Cond.methodLink RX0 3 Lib.objectInit ∈ tb := tb_of 483 (by decide +kernel) (by decide +kernel)
theorem ml_X2_3 : Cond.methodLink RX2 3 Lib.objectInit ∈ tb := tb_of 210 (by decide +kernel) (by decide +kernel)
theorem cw_X2_init : Cond.code yX2_init cX2_init 3 none ∈ tb := tb_of 209 (by decide +kernel) (by decide +kernel)
theorem mw_X2_init : MW yX2_init cX2_init 3 none 1 := ⟨cw_X2_init, ini_X2, by decide +kernel⟩
theorem im_X2_init : Cond.instanceMethod yX2_init ∈ tb := tb_of 208 (by decide +kernel) (by decide +kernel)
theorem ml_X11_1 : Cond.methodLink RX11 1 Lib.objectInit ∈ tb := tb_of 196 (by decide +kernel) (by decide +kernel)
theorem ml_X11_11 : Cond.methodLink RX11 11 Lib.Math.min.name ∈ tb := tb_of 201 (by decide +kernel) (by decide +kernel)
theorem ml_X11_17 : Cond.methodLink RX11 17 Lib.Math.max.name ∈ tb := tb_of 204 (by decide +kernel) (by decide +kernel)
theorem ins_X2 : Cond.instantiable RX2 4 ∈ tb := tb_of 200 (by decide +kernel) (by decide +kernel)
theorem pn_X2 : PN 2 RX2 TX2 4 tyX2 := ⟨rfl, inb_X2, tyX2_ok, by decide, rfl, by decide +kernel, ins_X2, ini_X2⟩
theorem cn_X11_7 : Cond.classLink RX11 7 RX2 ∈ tb := tb_of 199 (by decide +kernel) (by decide +kernel)
theorem ml_X11_20 : Cond.methodLink RX11 20 yX2_init ∈ tb := tb_of 207 (by decide +kernel) (by decide +kernel)
theorem ins_X5 : Cond.instantiable RX5 14 ∈ tb := tb_of 226 (by decide +kernel) (by decide +kernel)
theorem pn_X5 : PN 5 RX5 TX5 14 tyX5 := ⟨rfl, inb_X5, tyX5_ok, by decide, rfl, by decide +kernel, ins_X5, ini_X5⟩
theorem cn_X11_27 : Cond.classLink RX11 27 RX5 ∈ tb := tb_of 225 (by decide +kernel) (by decide +kernel)
theorem cw_X5_init : Cond.code yX5_init cX5_init 2 none ∈ tb := tb_of 229 (by decide +kernel) (by decide +kernel)
theorem mw_X5_init : MW yX5_init cX5_init 2 none 1 := ⟨cw_X5_init, ini_X5, by decide +kernel⟩
theorem im_X5_init : Cond.instanceMethod yX5_init ∈ tb := tb_of 228 (by decide +kernel) (by decide +kernel)
theorem ml_X11_29 : Cond.methodLink RX11 29 yX5_init ∈ tb := tb_of 227 (by decide +kernel) (by decide +kernel)
theorem ins_X1 : Cond.instantiable RX1 6 ∈ tb := tb_of 276 (by decide +kernel) (by decide +kernel)
theorem pn_X1 : PN 1 RX1 TX1 6 tyX1 := ⟨rfl, inb_X1, tyX1_ok, by decide, rfl, by decide +kernel, ins_X1, ini_X1⟩
theorem cn_X11_36 : Cond.classLink RX11 36 RX1 ∈ tb := tb_of 275 (by decide +kernel) (by decide +kernel)
theorem cw_X1_init : Cond.code yX1_init cX1_init 2 none ∈ tb := tb_of 279 (by decide +kernel) (by decide +kernel)
theorem mw_X1_init : MW yX1_init cX1_init 2 none 1 := ⟨cw_X1_init, ini_X1, by decide +kernel⟩
theorem im_X1_init : Cond.instanceMethod yX1_init ∈ tb := tb_of 278 (by decide +kernel) (by decide +kernel)
theorem ml_X11_38 : Cond.methodLink RX11 38 yX1_init ∈ tb := tb_of 277 (by decide +kernel) (by decide +kernel)
theorem ins_X8 : Cond.instantiable RX8 3 ∈ tb := tb_of 303 (by decide +kernel) (by decide +kernel)
theorem pn_X8 : PN 8 RX8 TX8 3 tyX8 := ⟨rfl, inb_X8, tyX8_ok, by decide, rfl, by decide +kernel, ins_X8, ini_X8⟩
theorem cn_X11_43 : Cond.classLink RX11 43 RX8 ∈ tb := tb_of 302 (by decide +kernel) (by decide +kernel)
theorem cw_X8_init : Cond.code yX8_init cX8_init 1 none ∈ tb := tb_of 306 (by decide +kernel) (by decide +kernel)
theorem mw_X8_init : MW yX8_init cX8_init 1 none 0 := ⟨cw_X8_init, ini_X8, by decide +kernel⟩
theorem im_X8_init : Cond.instanceMethod yX8_init ∈ tb := tb_of 305 (by decide +kernel) (by decide +kernel)
theorem nl_X11_45 : (RX11, 45, yX8_init) ∈ nestl := by decide +kernel
theorem ins_X9 : Cond.instantiable RX9 13 ∈ tb := tb_of 319 (by decide +kernel) (by decide +kernel)
theorem pn_X9 : PN 9 RX9 TX9 13 tyX9 := ⟨rfl, inb_X9, tyX9_ok, by decide, rfl, by decide +kernel, ins_X9, ini_X9⟩
theorem cn_X11_50 : Cond.classLink RX11 50 RX9 ∈ tb := tb_of 318 (by decide +kernel) (by decide +kernel)
theorem cw_X9_init : Cond.code yX9_init cX9_init 2 none ∈ tb := tb_of 322 (by decide +kernel) (by decide +kernel)
theorem mw_X9_init : MW yX9_init cX9_init 2 none 1 := ⟨cw_X9_init, ini_X9, by decide +kernel⟩
theorem im_X9_init : Cond.instanceMethod yX9_init ∈ tb := tb_of 321 (by decide +kernel) (by decide +kernel)
theorem ml_X11_52 : Cond.methodLink RX11 52 yX9_init ∈ tb := tb_of 320 (by decide +kernel) (by decide +kernel)
theorem ins_X3 : Cond.instantiable RX3 11 ∈ tb := tb_of 392 (by decide +kernel) (by decide +kernel)
theorem pn_X3 : PN 3 RX3 TX3 11 tyX3 := ⟨rfl, inb_X3, tyX3_ok, by decide, rfl, by decide +kernel, ins_X3, ini_X3⟩
theorem cn_X11_57 : Cond.classLink RX11 57 RX3 ∈ tb := tb_of 391 (by decide +kernel) (by decide +kernel)
theorem cw_X3_init : Cond.code yX3_init cX3_init 1 none ∈ tb := tb_of 395 (by decide +kernel) (by decide +kernel)
theorem mw_X3_init : MW yX3_init cX3_init 1 none 0 := ⟨cw_X3_init, ini_X3, by decide +kernel⟩
theorem im_X3_init : Cond.instanceMethod yX3_init ∈ tb := tb_of 394 (by decide +kernel) (by decide +kernel)
theorem nl_X11_59 : (RX11, 59, yX3_init) ∈ nestl := by decide +kernel
theorem ins_X10 : Cond.instantiable RX10 2 ∈ tb := tb_of 432 (by decide +kernel) (by decide +kernel)
theorem pn_X10 : PN 10 RX10 TX10 2 tyX10 := ⟨rfl, inb_X10, tyX10_ok, by decide, rfl, by decide +kernel, ins_X10, ini_X10⟩
theorem cn_X11_64 : Cond.classLink RX11 64 RX10 ∈ tb := tb_of 431 (by decide +kernel) (by decide +kernel)
theorem cw_X10_init : Cond.code yX10_init cX10_init 2 none ∈ tb := tb_of 435 (by decide +kernel) (by decide +kernel)
theorem mw_X10_init : MW yX10_init cX10_init 2 none 1 := ⟨cw_X10_init, ini_X10, by decide +kernel⟩
theorem im_X10_init : Cond.instanceMethod yX10_init ∈ tb := tb_of 434 (by decide +kernel) (by decide +kernel)
theorem ml_X11_66 : Cond.methodLink RX11 66 yX10_init ∈ tb := tb_of 433 (by decide +kernel) (by decide +kernel)
theorem ins_X4 : Cond.instantiable RX4 6 ∈ tb := tb_of 448 (by decide +kernel) (by decide +kernel)
theorem pn_X4 : PN 4 RX4 TX4 6 tyX4 := ⟨rfl, inb_X4, tyX4_ok, by decide, rfl, by decide +kernel, ins_X4, ini_X4⟩
theorem cn_X11_83 : Cond.classLink RX11 83 RX4 ∈ tb := tb_of 447 (by decide +kernel) (by decide +kernel)
theorem cw_X4_init : Cond.code yX4_init cX4_init 1 none ∈ tb := tb_of 451 (by decide +kernel) (by decide +kernel)
theorem mw_X4_init : MW yX4_init cX4_init 1 none 0 := ⟨cw_X4_init, ini_X4, by decide +kernel⟩
theorem im_X4_init : Cond.instanceMethod yX4_init ∈ tb := tb_of 450 (by decide +kernel) (by decide +kernel)
theorem nl_X11_85 : (RX11, 85, yX4_init) ∈ nestl := by decide +kernel
theorem ins_X0 : Cond.instantiable RX0 3 ∈ tb := tb_of 479 (by decide +kernel) (by decide +kernel)
theorem pn_X0 : PN 0 RX0 TX0 3 tyX0 := ⟨rfl, inb_X0, tyX0_ok, by decide, rfl, by decide +kernel, ins_X0, ini_X0⟩
theorem cn_X11_93 : Cond.classLink RX11 93 RX0 ∈ tb := tb_of 478 (by decide +kernel) (by decide +kernel)
theorem cw_X0_init : Cond.code yX0_init cX0_init 1 none ∈ tb := tb_of 482 (by decide +kernel) (by decide +kernel)
theorem mw_X0_init : MW yX0_init cX0_init 1 none 0 := ⟨cw_X0_init, ini_X0, by decide +kernel⟩
theorem im_X0_init : Cond.instanceMethod yX0_init ∈ tb := tb_of 481 (by decide +kernel) (by decide +kernel)
theorem nl_X11_95 : (RX11, 95, yX0_init) ∈ nestl := by decide +kernel
theorem ml_X12_1 : Cond.methodLink RX12 1 Lib.objectInit ∈ tb := tb_of 1719 (by decide +kernel) (by decide +kernel)
theorem ac_boolean : Cond.arrayClass .boolean ∈ tb := tb_of 1976 (by decide +kernel) (by decide +kernel)
theorem sp_128 : (Int16.ofInt (128)).toInt32 = (128 : Int32) := by decide
theorem sp_520 : (Int16.ofInt (520)).toInt32 = (520 : Int32) := by decide
theorem sp_300 : (Int16.ofInt (300)).toInt32 = (300 : Int32) := by decide
theorem sp_2600 : (Int16.ofInt (2600)).toInt32 = (2600 : Int32) := by decide
theorem sp_4096 : (Int16.ofInt (4096)).toInt32 = (4096 : Int32) := by decide
theorem sp_3584 : (Int16.ofInt (3584)).toInt32 = (3584 : Int32) := by decide
section RowsF
variable {X : Cx} {Q : State → Prop} {n : Nat} {A : Al} {D : Dat} {pc : Nat} {lv : List (Nat × Value)} {rest : List Value} {cc : ByteArray} {own : String} {ret : Option FieldType} {Fr Lc : Nat} {ci ix k N a : Nat} {C : String} {T : u_T} {ty : Nat → FieldType}
theorem v_getF {q : Nat} (O : Ok X cc own ret Fr Lc) (hf : wlm (xw X) = false) (F : FI ci C T N ty k 3) (hl : Cond.fieldLink own ix C (T k).2.1 (T k).2.2.1 ∈ tb) (ha : A.1 a = ci) (hq : dR D a k = some q) (d : decode cc pc = .ok (.getfield ix, 3))
    (kk : V X Q n A D (pc + 3) lv (.ref (bo X + pp q) :: rest)) : V X Q n A D pc lv (.ref (bo X + pp a) :: rest) := v_get O F hl ha d (by simp [fv, hf, hq, rv_some]) kk
end RowsF
def i_X5_init (D : Dat) : Dat := (sR (sR (sN (sR (sN (sR (sN (sR (sN (sR (sN D 4) 3 1 (some 4)) 263) 3 10 (some 263)) 264) 3 11 (some 264)) 265) 3 12 (some 265)) 5) 3 3 (some 5)) 3 0 (some 1))
set_option maxHeartbeats 4000000 in
theorem c_X5_init {l : Launch} {w : Wx} {nu : Nat} {D : Dat} (hlm : wlm w = false) : C5 l w yX5_init cX5_init 2 1 20 5 989 [.ref (wb w + pp 3), .ref (wb w + pp 1)] nu 4 9 D (i_X5_init D) :=
  C5.of (by decide) (Nat.le_of_ble_eq_true rfl) (fun X e1 e2 e3 hi hT O => by
  subst e1
  subst e2
  unfold i_X5_init
  show V X _ 4 (An nu 4 5 989) D 0 [(0, .ref (bo X + pp 3)), (1, .ref (bo X + pp 1))] []
  refine v_aload_n (pc := 0) O dX5_init_0 0 rfl ?_
  refine v_objInit (pc := 1) O ml_X5_3 im_obj cw_obj (by decide) (Nat.le_of_ble_eq_true rfl) dX5_init_1 ?_
  refine v_aload_n (pc := 4) O dX5_init_4 0 rfl ?_
  refine v_sipush (pc := 5) O dX5_init_5 sp_240 ?_
  refine v_newaC (pc := 8) (a := 4) (N := 240) (by decide) O hT ac_char (by decide) rfl (Nat.le_of_ble_eq_true rfl) rfl rfl (Nat.le_of_ble_eq_true rfl) (Nat.le_of_ble_eq_true rfl) dX5_init_8 ?_
  show V X _ 5 (An nu 5 4 749) _ 10 _ _
  refine v_putFR (pc := 10) (a := 3) (r := some 4) O hi hlm gf_X5_1 rfl rfl rfl rfl fl_X5_9 (kn_lt (n := 5) (a := 3) (by decide) rfl) dX5_init_10 ?_
  refine v_aload_n (pc := 13) O dX5_init_13 0 rfl ?_
  refine v_sipush (pc := 14) O dX5_init_14 sp_241 ?_
  refine v_newaI (pc := 17) (a := 263) (N := 241) (by decide) O hT ac_int (by decide) rfl (Nat.le_of_ble_eq_true rfl) rfl rfl (Nat.le_of_ble_eq_true rfl) (Nat.le_of_ble_eq_true rfl) dX5_init_17 ?_
  show V X _ 6 (An nu 6 3 508) _ 19 _ _
  refine v_putFR (pc := 19) (a := 3) (r := some 263) O hi hlm gf_X5_10 rfl rfl rfl rfl fl_X5_15 (kn_lt (n := 6) (a := 3) (by decide) rfl) dX5_init_19 ?_
  refine v_aload_n (pc := 22) O dX5_init_22 0 rfl ?_
  refine v_sipush (pc := 23) O dX5_init_23 sp_241 ?_
  refine v_newaI (pc := 26) (a := 264) (N := 241) (by decide) O hT ac_int (by decide) rfl (Nat.le_of_ble_eq_true rfl) rfl rfl (Nat.le_of_ble_eq_true rfl) (Nat.le_of_ble_eq_true rfl) dX5_init_26 ?_
  show V X _ 7 (An nu 7 2 267) _ 28 _ _
  refine v_putFR (pc := 28) (a := 3) (r := some 264) O hi hlm gf_X5_11 rfl rfl rfl rfl fl_X5_19 (kn_lt (n := 7) (a := 3) (by decide) rfl) dX5_init_28 ?_
  refine v_aload_n (pc := 31) O dX5_init_31 0 rfl ?_
  refine v_sipush (pc := 32) O dX5_init_32 sp_241 ?_
  refine v_newaI (pc := 35) (a := 265) (N := 241) (by decide) O hT ac_int (by decide) rfl (Nat.le_of_ble_eq_true rfl) rfl rfl (Nat.le_of_ble_eq_true rfl) (Nat.le_of_ble_eq_true rfl) dX5_init_35 ?_
  show V X _ 8 (An nu 8 1 26) _ 37 _ _
  refine v_putFR (pc := 37) (a := 3) (r := some 265) O hi hlm gf_X5_12 rfl rfl rfl rfl fl_X5_22 (kn_lt (n := 8) (a := 3) (by decide) rfl) dX5_init_37 ?_
  refine v_aload_n (pc := 40) O dX5_init_40 0 rfl ?_
  refine v_bipush (pc := 41) O dX5_init_41 bp_26 ?_
  refine v_newaI (pc := 43) (a := 5) (N := 26) (by decide) O hT ac_int (by decide) rfl (Nat.le_of_ble_eq_true rfl) rfl rfl (Nat.le_of_ble_eq_true rfl) (Nat.le_of_ble_eq_true rfl) dX5_init_43 ?_
  show V X _ 9 (An nu 9 0 0) _ 45 _ _
  refine v_putFR (pc := 45) (a := 3) (r := some 5) O hi hlm gf_X5_3 rfl rfl rfl rfl fl_X5_25 (kn_lt (n := 9) (a := 3) (by decide) rfl) dX5_init_45 ?_
  refine v_aload_n (pc := 48) O dX5_init_48 0 rfl ?_
  refine v_aload_n (pc := 49) O dX5_init_49 1 rfl ?_
  refine v_putFR (pc := 50) (a := 3) (r := some 1) O hi hlm gf_X5_0 rfl rfl rfl rfl fl_X5_28 (kn_lt (n := 9) (a := 3) (by decide) rfl) dX5_init_50 ?_
  exact v_ret5 (pc := 53) O dX5_init_53)
def i_X1_init (D : Dat) : Dat := (sR (sR (sZ (sR (sZ (sR (sN D 7) 6 2 (some 7)) 8 (1 + 48)) 6 3 (some 8)) 57 (1 + 48)) 6 4 (some 57)) 6 0 (some 1))
set_option maxHeartbeats 4000000 in
theorem c_X1_init {l : Launch} {w : Wx} {nu : Nat} {D : Dat} (hlm : wlm w = false) : C5 l w yX1_init cX1_init 2 1 20 99 2618 [.ref (wb w + pp 6), .ref (wb w + pp 1)] nu 10 109 D (i_X1_init D) :=
  C5.of (by decide) (Nat.le_of_ble_eq_true rfl) (fun X e1 e2 e3 hi hT O => by
  subst e1
  subst e2
  unfold i_X1_init
  show V X _ 10 (An nu 10 99 2618) D 0 [(0, .ref (bo X + pp 6)), (1, .ref (bo X + pp 1))] []
  refine v_aload_n (pc := 0) O dX1_init_0 0 rfl ?_
  refine v_objInit (pc := 1) O ml_X1_3 im_obj cw_obj (by decide) (Nat.le_of_ble_eq_true rfl) dX1_init_1 ?_
  refine v_aload_n (pc := 4) O dX1_init_4 0 rfl ?_
  refine v_bipush (pc := 5) O dX1_init_5 bp_26 ?_
  refine v_newaI (pc := 7) (a := 7) (N := 26) (by decide) O hT ac_int (by decide) rfl (Nat.le_of_ble_eq_true rfl) rfl rfl (Nat.le_of_ble_eq_true rfl) (Nat.le_of_ble_eq_true rfl) dX1_init_7 ?_
  show V X _ 11 (An nu 11 98 2592) _ 9 _ _
  refine v_putFR (pc := 9) (a := 6) (r := some 7) O hi hlm gf_X1_2 rfl rfl rfl rfl fl_X1_9 (kn_lt (n := 11) (a := 6) (by decide) rfl) dX1_init_9 ?_
  refine v_aload_n (pc := 12) O dX1_init_12 0 rfl ?_
  refine v_bipush (pc := 13) O dX1_init_13 bp_48 ?_
  refine v_bipush (pc := 15) O dX1_init_15 bp_26 ?_
  refine v_multi5 (pc := 17) (a := 8) (N := 48) (M := 26) (by decide) O hT cn_X1_15 ac_int (by decide) (by decide) rfl rfl (Nat.le_of_ble_eq_true rfl) (Nat.le_of_ble_eq_true rfl) rfl rfl mr_8 (Nat.le_of_ble_eq_true rfl) (Nat.le_of_ble_eq_true rfl) dX1_init_17 ?_
  show V X _ 60 (An nu 60 49 1296) _ 21 _ _
  refine v_putFR (pc := 21) (a := 6) (r := some 8) O hi hlm gf_X1_3 rfl rfl rfl rfl fl_X1_17 (kn_lt (n := 60) (a := 6) (by decide) rfl) dX1_init_21 ?_
  refine v_aload_n (pc := 24) O dX1_init_24 0 rfl ?_
  refine v_bipush (pc := 25) O dX1_init_25 bp_48 ?_
  refine v_bipush (pc := 27) O dX1_init_27 bp_26 ?_
  refine v_multi5 (pc := 29) (a := 57) (N := 48) (M := 26) (by decide) O hT cn_X1_15 ac_int (by decide) (by decide) rfl rfl (Nat.le_of_ble_eq_true rfl) (Nat.le_of_ble_eq_true rfl) rfl rfl mr_57 (Nat.le_of_ble_eq_true rfl) (Nat.le_of_ble_eq_true rfl) dX1_init_29 ?_
  show V X _ 109 (An nu 109 0 0) _ 33 _ _
  refine v_putFR (pc := 33) (a := 6) (r := some 57) O hi hlm gf_X1_4 rfl rfl rfl rfl fl_X1_20 (kn_lt (n := 109) (a := 6) (by decide) rfl) dX1_init_33 ?_
  refine v_aload_n (pc := 36) O dX1_init_36 0 rfl ?_
  refine v_aload_n (pc := 37) O dX1_init_37 1 rfl ?_
  refine v_putFR (pc := 38) (a := 6) (r := some 1) O hi hlm gf_X1_0 rfl rfl rfl rfl fl_X1_23 (kn_lt (n := 109) (a := 6) (by decide) rfl) dX1_init_38 ?_
  exact v_ret5 (pc := 41) O dX1_init_41)
def i_X8_init (D : Dat) : Dat := D
set_option maxHeartbeats 4000000 in
theorem c_X8_init {l : Launch} {w : Wx} {nu : Nat} {D : Dat} (hlm : wlm w = false) : C5 l w yX8_init cX8_init 1 1 20 0 0 [.ref (wb w + pp 106)] nu 110 110 D (i_X8_init D) :=
  C5.of (by decide) (Nat.le_of_ble_eq_true rfl) (fun X e1 e2 e3 hi hT O => by
  subst e1
  subst e2
  unfold i_X8_init
  show V X _ 110 (An nu 110 0 0) D 0 [(0, .ref (bo X + pp 106))] []
  refine v_aload_n (pc := 0) O dX8_init_0 0 rfl ?_
  refine v_objInit (pc := 1) O ml_X8_3 im_obj cw_obj (by decide) (Nat.le_of_ble_eq_true rfl) dX8_init_1 ?_
  exact v_ret5 (pc := 4) O dX8_init_4)
def i_X6_init (D : Dat) : Dat := (sR (sN (sR (sN (sR (sN (sR (sN D 109) 108 0 (some 109)) 110) 108 1 (some 110)) 111) 108 2 (some 111)) 112) 108 3 (some 112))
set_option maxHeartbeats 4000000 in
theorem c_X6_init {l : Launch} {w : Wx} {nu : Nat} {D : Dat} (hlm : wlm w = false) : C5 l w yX6_init cX6_init 1 1 20 4 256 [.ref (wb w + pp 108)] nu 112 116 D (i_X6_init D) :=
  C5.of (by decide) (Nat.le_of_ble_eq_true rfl) (fun X e1 e2 e3 hi hT O => by
  subst e1
  subst e2
  unfold i_X6_init
  show V X _ 112 (An nu 112 4 256) D 0 [(0, .ref (bo X + pp 108))] []
  refine v_aload_n (pc := 0) O dX6_init_0 0 rfl ?_
  refine v_objInit (pc := 1) O ml_X6_3 im_obj cw_obj (by decide) (Nat.le_of_ble_eq_true rfl) dX6_init_1 ?_
  refine v_aload_n (pc := 4) O dX6_init_4 0 rfl ?_
  refine v_bipush (pc := 5) O dX6_init_5 bp_64 ?_
  refine v_newaL (pc := 7) (a := 109) (N := 64) (by decide) O hT ac_long (by decide) rfl (Nat.le_of_ble_eq_true rfl) rfl rfl (Nat.le_of_ble_eq_true rfl) (Nat.le_of_ble_eq_true rfl) dX6_init_7 ?_
  show V X _ 113 (An nu 113 3 192) _ 9 _ _
  refine v_putFR (pc := 9) (a := 108) (r := some 109) O hi hlm gf_X6_0 rfl rfl rfl rfl fl_X6_9 (kn_lt (n := 113) (a := 108) (by decide) rfl) dX6_init_9 ?_
  refine v_aload_n (pc := 12) O dX6_init_12 0 rfl ?_
  refine v_bipush (pc := 13) O dX6_init_13 bp_64 ?_
  refine v_newaL (pc := 15) (a := 110) (N := 64) (by decide) O hT ac_long (by decide) rfl (Nat.le_of_ble_eq_true rfl) rfl rfl (Nat.le_of_ble_eq_true rfl) (Nat.le_of_ble_eq_true rfl) dX6_init_15 ?_
  show V X _ 114 (An nu 114 2 128) _ 17 _ _
  refine v_putFR (pc := 17) (a := 108) (r := some 110) O hi hlm gf_X6_1 rfl rfl rfl rfl fl_X6_15 (kn_lt (n := 114) (a := 108) (by decide) rfl) dX6_init_17 ?_
  refine v_aload_n (pc := 20) O dX6_init_20 0 rfl ?_
  refine v_bipush (pc := 21) O dX6_init_21 bp_64 ?_
  refine v_newaI (pc := 23) (a := 111) (N := 64) (by decide) O hT ac_int (by decide) rfl (Nat.le_of_ble_eq_true rfl) rfl rfl (Nat.le_of_ble_eq_true rfl) (Nat.le_of_ble_eq_true rfl) dX6_init_23 ?_
  show V X _ 115 (An nu 115 1 64) _ 25 _ _
  refine v_putFR (pc := 25) (a := 108) (r := some 111) O hi hlm gf_X6_2 rfl rfl rfl rfl fl_X6_18 (kn_lt (n := 115) (a := 108) (by decide) rfl) dX6_init_25 ?_
  refine v_aload_n (pc := 28) O dX6_init_28 0 rfl ?_
  refine v_bipush (pc := 29) O dX6_init_29 bp_64 ?_
  refine v_newaL (pc := 31) (a := 112) (N := 64) (by decide) O hT ac_long (by decide) rfl (Nat.le_of_ble_eq_true rfl) rfl rfl (Nat.le_of_ble_eq_true rfl) (Nat.le_of_ble_eq_true rfl) dX6_init_31 ?_
  show V X _ 116 (An nu 116 0 0) _ 33 _ _
  refine v_putFR (pc := 33) (a := 108) (r := some 112) O hi hlm gf_X6_3 rfl rfl rfl rfl fl_X6_22 (kn_lt (n := 116) (a := 108) (by decide) rfl) dX6_init_33 ?_
  exact v_ret5 (pc := 36) O dX6_init_36)
def i_X9_init (D : Dat) : Dat := (sR (sR (sN (sR (sZ (sR (sN (sR (sN (sR (i_X6_init (sN D 108)) 107 1 (some 108)) 113) 107 4 (some 113)) 114) 107 6 (some 114)) 115 (1 + 64)) 107 7 (some 115)) 180) 107 8 (some 180)) 107 0 (some 1))
set_option maxHeartbeats 4000000 in
theorem c_X9_init {l : Launch} {w : Wx} {nu : Nat} {D : Dat} (hlm : wlm w = false) : C5 l w yX9_init cX9_init 2 2 40 73 4094 [.ref (wb w + pp 107), .ref (wb w + pp 1)] nu 111 184 D (i_X9_init D) :=
  C5.of (by decide) (Nat.le_of_ble_eq_true rfl) (fun X e1 e2 e3 hi hT O => by
  subst e1
  subst e2
  unfold i_X9_init
  show V X _ 111 (An nu 111 73 4094) D 0 [(0, .ref (bo X + pp 107)), (1, .ref (bo X + pp 1))] []
  refine v_aload_n (pc := 0) O dX9_init_0 0 rfl ?_
  refine v_objInit (pc := 1) O ml_X9_5 im_obj cw_obj (by decide) (Nat.le_of_ble_eq_true rfl) dX9_init_1 ?_
  refine v_aload_n (pc := 4) O dX9_init_4 0 rfl ?_
  refine v_new5 (pc := 5) (a := 108) (by decide) O hT pn_X6 cn_X9_11 hlm rfl (Nat.le_of_ble_eq_true rfl) (Nat.le_of_ble_eq_true rfl) dX9_init_5 ?_
  show V X _ 112 (An nu 112 72 4088) _ 8 _ _
  refine v_dup (pc := 8) O dX9_init_8 rfl ?_
  refine v_call5N (pc := 9) (a := 108) (As := []) (rest := [.ref (bo X + pp 108), .ref (bo X + pp 107)]) O hT ⟨Nat.le_of_ble_eq_true rfl, Nat.le_of_ble_eq_true rfl⟩ (c_X6_init (nu := nu) hlm) mw_X6_init rfl im_X6_init nl_X9_13 rfl (by decide) (by decide) (Nat.le_of_ble_eq_true rfl) dX9_init_9 rfl ?_
  show V X _ 116 (An nu 116 68 3832) _ 12 _ _
  refine v_putFR (pc := 12) (a := 107) (r := some 108) O hi hlm gf_X9_1 rfl rfl rfl rfl fl_X9_14 (kn_lt (n := 116) (a := 107) (by decide) rfl) dX9_init_12 ?_
  refine v_aload_n (pc := 15) O dX9_init_15 0 rfl ?_
  refine v_bipush (pc := 16) O dX9_init_16 bp_64 ?_
  refine v_newaI (pc := 18) (a := 113) (N := 64) (by decide) O hT ac_int (by decide) rfl (Nat.le_of_ble_eq_true rfl) rfl rfl (Nat.le_of_ble_eq_true rfl) (Nat.le_of_ble_eq_true rfl) dX9_init_18 ?_
  show V X _ 117 (An nu 117 67 3768) _ 20 _ _
  refine v_putFR (pc := 20) (a := 107) (r := some 113) O hi hlm gf_X9_4 rfl rfl rfl rfl fl_X9_18 (kn_lt (n := 117) (a := 107) (by decide) rfl) dX9_init_20 ?_
  refine v_aload_n (pc := 23) O dX9_init_23 0 rfl ?_
  refine v_bipush (pc := 24) O dX9_init_24 bp_64 ?_
  refine v_newaI (pc := 26) (a := 114) (N := 64) (by decide) O hT ac_int (by decide) rfl (Nat.le_of_ble_eq_true rfl) rfl rfl (Nat.le_of_ble_eq_true rfl) (Nat.le_of_ble_eq_true rfl) dX9_init_26 ?_
  show V X _ 118 (An nu 118 66 3704) _ 28 _ _
  refine v_putFR (pc := 28) (a := 107) (r := some 114) O hi hlm gf_X9_6 rfl rfl rfl rfl fl_X9_22 (kn_lt (n := 118) (a := 107) (by decide) rfl) dX9_init_28 ?_
  refine v_aload_n (pc := 31) O dX9_init_31 0 rfl ?_
  refine v_bipush (pc := 32) O dX9_init_32 bp_64 ?_
  refine v_bipush (pc := 34) O dX9_init_34 bp_56 ?_
  refine v_multi5 (pc := 36) (a := 115) (N := 64) (M := 56) (by decide) O hT cn_X9_25 ac_int (by decide) (by decide) rfl rfl (Nat.le_of_ble_eq_true rfl) (Nat.le_of_ble_eq_true rfl) rfl rfl mr_115 (Nat.le_of_ble_eq_true rfl) (Nat.le_of_ble_eq_true rfl) dX9_init_36 ?_
  show V X _ 183 (An nu 183 1 56) _ 40 _ _
  refine v_putFR (pc := 40) (a := 107) (r := some 115) O hi hlm gf_X9_7 rfl rfl rfl rfl fl_X9_27 (kn_lt (n := 183) (a := 107) (by decide) rfl) dX9_init_40 ?_
  refine v_aload_n (pc := 43) O dX9_init_43 0 rfl ?_
  refine v_bipush (pc := 44) O dX9_init_44 bp_56 ?_
  refine v_newaI (pc := 46) (a := 180) (N := 56) (by decide) O hT ac_int (by decide) rfl (Nat.le_of_ble_eq_true rfl) rfl rfl (Nat.le_of_ble_eq_true rfl) (Nat.le_of_ble_eq_true rfl) dX9_init_46 ?_
  show V X _ 184 (An nu 184 0 0) _ 48 _ _
  refine v_putFR (pc := 48) (a := 107) (r := some 180) O hi hlm gf_X9_8 rfl rfl rfl rfl fl_X9_30 (kn_lt (n := 184) (a := 107) (by decide) rfl) dX9_init_48 ?_
  refine v_aload_n (pc := 51) O dX9_init_51 0 rfl ?_
  refine v_aload_n (pc := 52) O dX9_init_52 1 rfl ?_
  refine v_putFR (pc := 53) (a := 107) (r := some 1) O hi hlm gf_X9_0 rfl rfl rfl rfl fl_X9_33 (kn_lt (n := 184) (a := 107) (by decide) rfl) dX9_init_53 ?_
  exact v_ret5 (pc := 56) O dX9_init_56)
def i_X3_init (D : Dat) : Dat := (sI (sR (sN (sR (sN (sR (sN (sR (sN (sR (sN (sR (sN (sR (sN D 182) 181 0 (some 182)) 183) 181 1 (some 183)) 184) 181 3 (some 184)) 185) 181 4 (some 185)) 186) 181 5 (some 186)) 187) 181 6 (some 187)) 188) 181 7 (some 188)) 181 10 0)
set_option maxHeartbeats 4000000 in
theorem c_X3_init {l : Launch} {w : Wx} {nu : Nat} {D : Dat} (hlm : wlm w = false) : C5 l w yX3_init cX3_init 1 1 20 7 522 [.ref (wb w + pp 181)] nu 185 192 D (i_X3_init D) :=
  C5.of (by decide) (Nat.le_of_ble_eq_true rfl) (fun X e1 e2 e3 hi hT O => by
  subst e1
  subst e2
  unfold i_X3_init
  show V X _ 185 (An nu 185 7 522) D 0 [(0, .ref (bo X + pp 181))] []
  refine v_aload_n (pc := 0) O dX3_init_0 0 rfl ?_
  refine v_objInit (pc := 1) O ml_X3_3 im_obj cw_obj (by decide) (Nat.le_of_ble_eq_true rfl) dX3_init_1 ?_
  refine v_aload_n (pc := 4) O dX3_init_4 0 rfl ?_
  refine v_sipush (pc := 5) O dX3_init_5 sp_234 ?_
  refine v_newaI (pc := 8) (a := 182) (N := 234) (by decide) O hT ac_int (by decide) rfl (Nat.le_of_ble_eq_true rfl) rfl rfl (Nat.le_of_ble_eq_true rfl) (Nat.le_of_ble_eq_true rfl) dX3_init_8 ?_
  show V X _ 186 (An nu 186 6 288) _ 10 _ _
  refine v_putFR (pc := 10) (a := 181) (r := some 182) O hi hlm gf_X3_0 rfl rfl rfl rfl fl_X3_11 (kn_lt (n := 186) (a := 181) (by decide) rfl) dX3_init_10 ?_
  refine v_aload_n (pc := 13) O dX3_init_13 0 rfl ?_
  refine v_bipush (pc := 14) O dX3_init_14 bp_30 ?_
  refine v_newaI (pc := 16) (a := 183) (N := 30) (by decide) O hT ac_int (by decide) rfl (Nat.le_of_ble_eq_true rfl) rfl rfl (Nat.le_of_ble_eq_true rfl) (Nat.le_of_ble_eq_true rfl) dX3_init_16 ?_
  show V X _ 187 (An nu 187 5 258) _ 18 _ _
  refine v_putFR (pc := 18) (a := 181) (r := some 183) O hi hlm gf_X3_1 rfl rfl rfl rfl fl_X3_15 (kn_lt (n := 187) (a := 181) (by decide) rfl) dX3_init_18 ?_
  refine v_aload_n (pc := 21) O dX3_init_21 0 rfl ?_
  refine v_bipush (pc := 22) O dX3_init_22 bp_120 ?_
  refine v_newaI (pc := 24) (a := 184) (N := 120) (by decide) O hT ac_int (by decide) rfl (Nat.le_of_ble_eq_true rfl) rfl rfl (Nat.le_of_ble_eq_true rfl) (Nat.le_of_ble_eq_true rfl) dX3_init_24 ?_
  show V X _ 188 (An nu 188 4 138) _ 26 _ _
  refine v_putFR (pc := 26) (a := 181) (r := some 184) O hi hlm gf_X3_3 rfl rfl rfl rfl fl_X3_18 (kn_lt (n := 188) (a := 181) (by decide) rfl) dX3_init_26 ?_
  refine v_aload_n (pc := 29) O dX3_init_29 0 rfl ?_
  refine v_bipush (pc := 30) O dX3_init_30 bp_6 ?_
  refine v_newaI (pc := 32) (a := 185) (N := 6) (by decide) O hT ac_int (by decide) rfl (Nat.le_of_ble_eq_true rfl) rfl rfl (Nat.le_of_ble_eq_true rfl) (Nat.le_of_ble_eq_true rfl) dX3_init_32 ?_
  show V X _ 189 (An nu 189 3 132) _ 34 _ _
  refine v_putFR (pc := 34) (a := 181) (r := some 185) O hi hlm gf_X3_4 rfl rfl rfl rfl fl_X3_21 (kn_lt (n := 189) (a := 181) (by decide) rfl) dX3_init_34 ?_
  refine v_aload_n (pc := 37) O dX3_init_37 0 rfl ?_
  refine v_bipush (pc := 38) O dX3_init_38 bp_6 ?_
  refine v_newaI (pc := 40) (a := 186) (N := 6) (by decide) O hT ac_int (by decide) rfl (Nat.le_of_ble_eq_true rfl) rfl rfl (Nat.le_of_ble_eq_true rfl) (Nat.le_of_ble_eq_true rfl) dX3_init_40 ?_
  show V X _ 190 (An nu 190 2 126) _ 42 _ _
  refine v_putFR (pc := 42) (a := 181) (r := some 186) O hi hlm gf_X3_5 rfl rfl rfl rfl fl_X3_24 (kn_lt (n := 190) (a := 181) (by decide) rfl) dX3_init_42 ?_
  refine v_aload_n (pc := 45) O dX3_init_45 0 rfl ?_
  refine v_bipush (pc := 46) O dX3_init_46 bp_120 ?_
  refine v_newaI (pc := 48) (a := 187) (N := 120) (by decide) O hT ac_int (by decide) rfl (Nat.le_of_ble_eq_true rfl) rfl rfl (Nat.le_of_ble_eq_true rfl) (Nat.le_of_ble_eq_true rfl) dX3_init_48 ?_
  show V X _ 191 (An nu 191 1 6) _ 50 _ _
  refine v_putFR (pc := 50) (a := 181) (r := some 187) O hi hlm gf_X3_6 rfl rfl rfl rfl fl_X3_27 (kn_lt (n := 191) (a := 181) (by decide) rfl) dX3_init_50 ?_
  refine v_aload_n (pc := 53) O dX3_init_53 0 rfl ?_
  refine v_bipush (pc := 54) O dX3_init_54 bp_6 ?_
  refine v_newaI (pc := 56) (a := 188) (N := 6) (by decide) O hT ac_int (by decide) rfl (Nat.le_of_ble_eq_true rfl) rfl rfl (Nat.le_of_ble_eq_true rfl) (Nat.le_of_ble_eq_true rfl) dX3_init_56 ?_
  show V X _ 192 (An nu 192 0 0) _ 58 _ _
  refine v_putFR (pc := 58) (a := 181) (r := some 188) O hi hlm gf_X3_7 rfl rfl rfl rfl fl_X3_30 (kn_lt (n := 192) (a := 181) (by decide) rfl) dX3_init_58 ?_
  refine v_aload_n (pc := 61) O dX3_init_61 0 rfl ?_
  refine v_iconst (pc := 62) O dX3_init_62 ic_0 ?_
  refine v_putI (pc := 63) (a := 181) O pf_X3_10 fl_X3_33 (kn_lt (n := 192) (a := 181) (by decide) rfl) dX3_init_63 ?_
  exact v_ret5 (pc := 66) O dX3_init_66)
def i_X10_init (D : Dat) : Dat := (sR D 189 0 (some 181))
set_option maxHeartbeats 4000000 in
theorem c_X10_init {l : Launch} {w : Wx} {nu : Nat} {D : Dat} (hlm : wlm w = false) : C5 l w yX10_init cX10_init 2 1 20 0 0 [.ref (wb w + pp 189), .ref (wb w + pp 181)] nu 193 193 D (i_X10_init D) :=
  C5.of (by decide) (Nat.le_of_ble_eq_true rfl) (fun X e1 e2 e3 hi hT O => by
  subst e1
  subst e2
  unfold i_X10_init
  show V X _ 193 (An nu 193 0 0) D 0 [(0, .ref (bo X + pp 189)), (1, .ref (bo X + pp 181))] []
  refine v_aload_n (pc := 0) O dX10_init_0 0 rfl ?_
  refine v_objInit (pc := 1) O ml_X10_3 im_obj cw_obj (by decide) (Nat.le_of_ble_eq_true rfl) dX10_init_1 ?_
  refine v_aload_n (pc := 4) O dX10_init_4 0 rfl ?_
  refine v_aload_n (pc := 5) O dX10_init_5 1 rfl ?_
  refine v_putFR (pc := 6) (a := 189) (r := some 181) O hi hlm gf_X10_0 rfl rfl rfl rfl fl_X10_9 (kn_lt (n := 193) (a := 189) (by decide) rfl) dX10_init_6 ?_
  exact v_ret5 (pc := 9) O dX10_init_9)
def i_X4_init_191 (D : Dat) : Dat := (sR (sN (sR (sN (sR (sN (sR (sN D 192) 191 1 (some 192)) 193) 191 2 (some 193)) 194) 191 3 (some 194)) 195) 191 4 (some 195))
set_option maxHeartbeats 4000000 in
theorem c_X4_init_191 {l : Launch} {w : Wx} {nu : Nat} {D : Dat} (hlm : wlm w = false) : C5 l w yX4_init cX4_init 1 1 20 4 558 [.ref (wb w + pp 191)] nu 195 199 D (i_X4_init_191 D) :=
  C5.of (by decide) (Nat.le_of_ble_eq_true rfl) (fun X e1 e2 e3 hi hT O => by
  subst e1
  subst e2
  unfold i_X4_init_191
  show V X _ 195 (An nu 195 4 558) D 0 [(0, .ref (bo X + pp 191))] []
  refine v_aload_n (pc := 0) O dX4_init_0 0 rfl ?_
  refine v_objInit (pc := 1) O ml_X4_3 im_obj cw_obj (by decide) (Nat.le_of_ble_eq_true rfl) dX4_init_1 ?_
  refine v_aload_n (pc := 4) O dX4_init_4 0 rfl ?_
  refine v_bipush (pc := 5) O dX4_init_5 bp_26 ?_
  refine v_anew5 (pc := 7) (a := 192) (N := 26) (by decide) O hT cn_X4_9 (by decide) rfl (Nat.le_of_ble_eq_true rfl) rfl rfl (Nat.le_of_ble_eq_true rfl) (Nat.le_of_ble_eq_true rfl) dX4_init_7 ?_
  show V X _ 196 (An nu 196 3 532) _ 10 _ _
  refine v_putFR (pc := 10) (a := 191) (r := some 192) O hi hlm gf_X4_1 rfl rfl rfl rfl fl_X4_11 (kn_lt (n := 196) (a := 191) (by decide) rfl) dX4_init_10 ?_
  refine v_aload_n (pc := 13) O dX4_init_13 0 rfl ?_
  refine v_bipush (pc := 14) O dX4_init_14 bp_52 ?_
  refine v_newaI (pc := 16) (a := 193) (N := 52) (by decide) O hT ac_int (by decide) rfl (Nat.le_of_ble_eq_true rfl) rfl rfl (Nat.le_of_ble_eq_true rfl) (Nat.le_of_ble_eq_true rfl) dX4_init_16 ?_
  show V X _ 197 (An nu 197 2 480) _ 18 _ _
  refine v_putFR (pc := 18) (a := 191) (r := some 193) O hi hlm gf_X4_2 rfl rfl rfl rfl fl_X4_17 (kn_lt (n := 197) (a := 191) (by decide) rfl) dX4_init_18 ?_
  refine v_aload_n (pc := 21) O dX4_init_21 0 rfl ?_
  refine v_sipush (pc := 22) O dX4_init_22 sp_240 ?_
  refine v_newaI (pc := 25) (a := 194) (N := 240) (by decide) O hT ac_int (by decide) rfl (Nat.le_of_ble_eq_true rfl) rfl rfl (Nat.le_of_ble_eq_true rfl) (Nat.le_of_ble_eq_true rfl) dX4_init_25 ?_
  show V X _ 198 (An nu 198 1 240) _ 27 _ _
  refine v_putFR (pc := 27) (a := 191) (r := some 194) O hi hlm gf_X4_3 rfl rfl rfl rfl fl_X4_21 (kn_lt (n := 198) (a := 191) (by decide) rfl) dX4_init_27 ?_
  refine v_aload_n (pc := 30) O dX4_init_30 0 rfl ?_
  refine v_sipush (pc := 31) O dX4_init_31 sp_240 ?_
  refine v_newaI (pc := 34) (a := 195) (N := 240) (by decide) O hT ac_int (by decide) rfl (Nat.le_of_ble_eq_true rfl) rfl rfl (Nat.le_of_ble_eq_true rfl) (Nat.le_of_ble_eq_true rfl) dX4_init_34 ?_
  show V X _ 199 (An nu 199 0 0) _ 36 _ _
  refine v_putFR (pc := 36) (a := 191) (r := some 195) O hi hlm gf_X4_4 rfl rfl rfl rfl fl_X4_24 (kn_lt (n := 199) (a := 191) (by decide) rfl) dX4_init_36 ?_
  exact v_ret5 (pc := 39) O dX4_init_39)
def i_X4_init_196 (D : Dat) : Dat := (sR (sN (sR (sN (sR (sN (sR (sN D 197) 196 1 (some 197)) 198) 196 2 (some 198)) 199) 196 3 (some 199)) 200) 196 4 (some 200))
set_option maxHeartbeats 4000000 in
theorem c_X4_init_196 {l : Launch} {w : Wx} {nu : Nat} {D : Dat} (hlm : wlm w = false) : C5 l w yX4_init cX4_init 1 1 20 4 558 [.ref (wb w + pp 196)] nu 200 204 D (i_X4_init_196 D) :=
  C5.of (by decide) (Nat.le_of_ble_eq_true rfl) (fun X e1 e2 e3 hi hT O => by
  subst e1
  subst e2
  unfold i_X4_init_196
  show V X _ 200 (An nu 200 4 558) D 0 [(0, .ref (bo X + pp 196))] []
  refine v_aload_n (pc := 0) O dX4_init_0 0 rfl ?_
  refine v_objInit (pc := 1) O ml_X4_3 im_obj cw_obj (by decide) (Nat.le_of_ble_eq_true rfl) dX4_init_1 ?_
  refine v_aload_n (pc := 4) O dX4_init_4 0 rfl ?_
  refine v_bipush (pc := 5) O dX4_init_5 bp_26 ?_
  refine v_anew5 (pc := 7) (a := 197) (N := 26) (by decide) O hT cn_X4_9 (by decide) rfl (Nat.le_of_ble_eq_true rfl) rfl rfl (Nat.le_of_ble_eq_true rfl) (Nat.le_of_ble_eq_true rfl) dX4_init_7 ?_
  show V X _ 201 (An nu 201 3 532) _ 10 _ _
  refine v_putFR (pc := 10) (a := 196) (r := some 197) O hi hlm gf_X4_1 rfl rfl rfl rfl fl_X4_11 (kn_lt (n := 201) (a := 196) (by decide) rfl) dX4_init_10 ?_
  refine v_aload_n (pc := 13) O dX4_init_13 0 rfl ?_
  refine v_bipush (pc := 14) O dX4_init_14 bp_52 ?_
  refine v_newaI (pc := 16) (a := 198) (N := 52) (by decide) O hT ac_int (by decide) rfl (Nat.le_of_ble_eq_true rfl) rfl rfl (Nat.le_of_ble_eq_true rfl) (Nat.le_of_ble_eq_true rfl) dX4_init_16 ?_
  show V X _ 202 (An nu 202 2 480) _ 18 _ _
  refine v_putFR (pc := 18) (a := 196) (r := some 198) O hi hlm gf_X4_2 rfl rfl rfl rfl fl_X4_17 (kn_lt (n := 202) (a := 196) (by decide) rfl) dX4_init_18 ?_
  refine v_aload_n (pc := 21) O dX4_init_21 0 rfl ?_
  refine v_sipush (pc := 22) O dX4_init_22 sp_240 ?_
  refine v_newaI (pc := 25) (a := 199) (N := 240) (by decide) O hT ac_int (by decide) rfl (Nat.le_of_ble_eq_true rfl) rfl rfl (Nat.le_of_ble_eq_true rfl) (Nat.le_of_ble_eq_true rfl) dX4_init_25 ?_
  show V X _ 203 (An nu 203 1 240) _ 27 _ _
  refine v_putFR (pc := 27) (a := 196) (r := some 199) O hi hlm gf_X4_3 rfl rfl rfl rfl fl_X4_21 (kn_lt (n := 203) (a := 196) (by decide) rfl) dX4_init_27 ?_
  refine v_aload_n (pc := 30) O dX4_init_30 0 rfl ?_
  refine v_sipush (pc := 31) O dX4_init_31 sp_240 ?_
  refine v_newaI (pc := 34) (a := 200) (N := 240) (by decide) O hT ac_int (by decide) rfl (Nat.le_of_ble_eq_true rfl) rfl rfl (Nat.le_of_ble_eq_true rfl) (Nat.le_of_ble_eq_true rfl) dX4_init_34 ?_
  show V X _ 204 (An nu 204 0 0) _ 36 _ _
  refine v_putFR (pc := 36) (a := 196) (r := some 200) O hi hlm gf_X4_4 rfl rfl rfl rfl fl_X4_24 (kn_lt (n := 204) (a := 196) (by decide) rfl) dX4_init_36 ?_
  exact v_ret5 (pc := 39) O dX4_init_39)
def i_X0_init_201 (D : Dat) : Dat := (sR (sN (sR (sN D 202) 201 0 (some 202)) 203) 201 1 (some 203))
set_option maxHeartbeats 4000000 in
theorem c_X0_init_201 {l : Launch} {w : Wx} {nu : Nat} {D : Dat} (hlm : wlm w = false) : C5 l w yX0_init cX0_init 1 1 20 2 128 [.ref (wb w + pp 201)] nu 205 207 D (i_X0_init_201 D) :=
  C5.of (by decide) (Nat.le_of_ble_eq_true rfl) (fun X e1 e2 e3 hi hT O => by
  subst e1
  subst e2
  unfold i_X0_init_201
  show V X _ 205 (An nu 205 2 128) D 0 [(0, .ref (bo X + pp 201))] []
  refine v_aload_n (pc := 0) O dX0_init_0 0 rfl ?_
  refine v_objInit (pc := 1) O ml_X0_3 im_obj cw_obj (by decide) (Nat.le_of_ble_eq_true rfl) dX0_init_1 ?_
  refine v_aload_n (pc := 4) O dX0_init_4 0 rfl ?_
  refine v_bipush (pc := 5) O dX0_init_5 bp_64 ?_
  refine v_newaI (pc := 7) (a := 202) (N := 64) (by decide) O hT ac_int (by decide) rfl (Nat.le_of_ble_eq_true rfl) rfl rfl (Nat.le_of_ble_eq_true rfl) (Nat.le_of_ble_eq_true rfl) dX0_init_7 ?_
  show V X _ 206 (An nu 206 1 64) _ 9 _ _
  refine v_putFR (pc := 9) (a := 201) (r := some 202) O hi hlm gf_X0_0 rfl rfl rfl rfl fl_X0_9 (kn_lt (n := 206) (a := 201) (by decide) rfl) dX0_init_9 ?_
  refine v_aload_n (pc := 12) O dX0_init_12 0 rfl ?_
  refine v_bipush (pc := 13) O dX0_init_13 bp_64 ?_
  refine v_newaI (pc := 15) (a := 203) (N := 64) (by decide) O hT ac_int (by decide) rfl (Nat.le_of_ble_eq_true rfl) rfl rfl (Nat.le_of_ble_eq_true rfl) (Nat.le_of_ble_eq_true rfl) dX0_init_15 ?_
  show V X _ 207 (An nu 207 0 0) _ 17 _ _
  refine v_putFR (pc := 17) (a := 201) (r := some 203) O hi hlm gf_X0_1 rfl rfl rfl rfl fl_X0_15 (kn_lt (n := 207) (a := 201) (by decide) rfl) dX0_init_17 ?_
  exact v_ret5 (pc := 20) O dX0_init_20)
def i_X0_init_204 (D : Dat) : Dat := (sR (sN (sR (sN D 205) 204 0 (some 205)) 206) 204 1 (some 206))
set_option maxHeartbeats 4000000 in
theorem c_X0_init_204 {l : Launch} {w : Wx} {nu : Nat} {D : Dat} (hlm : wlm w = false) : C5 l w yX0_init cX0_init 1 1 20 2 128 [.ref (wb w + pp 204)] nu 208 210 D (i_X0_init_204 D) :=
  C5.of (by decide) (Nat.le_of_ble_eq_true rfl) (fun X e1 e2 e3 hi hT O => by
  subst e1
  subst e2
  unfold i_X0_init_204
  show V X _ 208 (An nu 208 2 128) D 0 [(0, .ref (bo X + pp 204))] []
  refine v_aload_n (pc := 0) O dX0_init_0 0 rfl ?_
  refine v_objInit (pc := 1) O ml_X0_3 im_obj cw_obj (by decide) (Nat.le_of_ble_eq_true rfl) dX0_init_1 ?_
  refine v_aload_n (pc := 4) O dX0_init_4 0 rfl ?_
  refine v_bipush (pc := 5) O dX0_init_5 bp_64 ?_
  refine v_newaI (pc := 7) (a := 205) (N := 64) (by decide) O hT ac_int (by decide) rfl (Nat.le_of_ble_eq_true rfl) rfl rfl (Nat.le_of_ble_eq_true rfl) (Nat.le_of_ble_eq_true rfl) dX0_init_7 ?_
  show V X _ 209 (An nu 209 1 64) _ 9 _ _
  refine v_putFR (pc := 9) (a := 204) (r := some 205) O hi hlm gf_X0_0 rfl rfl rfl rfl fl_X0_9 (kn_lt (n := 209) (a := 204) (by decide) rfl) dX0_init_9 ?_
  refine v_aload_n (pc := 12) O dX0_init_12 0 rfl ?_
  refine v_bipush (pc := 13) O dX0_init_13 bp_64 ?_
  refine v_newaI (pc := 15) (a := 206) (N := 64) (by decide) O hT ac_int (by decide) rfl (Nat.le_of_ble_eq_true rfl) rfl rfl (Nat.le_of_ble_eq_true rfl) (Nat.le_of_ble_eq_true rfl) dX0_init_15 ?_
  show V X _ 210 (An nu 210 0 0) _ 17 _ _
  refine v_putFR (pc := 17) (a := 204) (r := some 206) O hi hlm gf_X0_1 rfl rfl rfl rfl fl_X0_15 (kn_lt (n := 210) (a := 204) (by decide) rfl) dX0_init_17 ?_
  exact v_ret5 (pc := 20) O dX0_init_20)
def f_li (nu : Nat) : Nat → Int32 → Int32 → Dat → Option Dat
  | 0, _, _, _ => none
  | g + 1, x1, x2, D => if x1 ≤ x2 then some D else (if x2 < 0 ∨ nu ≤ (x2).toNatClampNeg then none else f_li nu g x1 (x2 + 1) (sI D 2 (x2).toNatClampNeg ((1 : Int32) <<< (x2 &&& 31))))
theorem w_li {X : Cx} {n nu c u : Nat} {z : Dat} (O : Ok X cX2_init RX2 none 1 20) (hlm : wlm (xw X) = false) (hn : xn X = 3) (h2 : 2 < n) : ∀ (g : Nat) (x1 x2 : Int32) (D : Dat), dR D 1 1 = some 2 → f_li nu g x1 x2 D = some z → V X (M5 X nu n z) n (An nu n c u) D 18 [(0, .ref (bo X + pp 1)), (1, .int x1), (2, .int x2)] [] := by
  intro g
  induction g with
  | zero => intro x1 x2 D _ h; exact absurd h (by simp [f_li])
  | succ g ih =>
    intro x1 x2 D hq h
    rw [f_li] at h
    refine v_iload_n (pc := 18) O dX2_init_18 2 rfl ?_
    refine v_iload_n (pc := 19) O dX2_init_19 1 rfl ?_
    refine v_icmpge (pc := 20) 38 O dX2_init_20 (by decide) (fun c1 => ?_) (fun c1 => ?_)
    · have h := (if_pos c1).symm.trans h
      obtain rfl := Option.some.inj h
      exact v_ret5 (pc := 38) O dX2_init_38
    · have h := (if_neg c1).symm.trans h
      obtain ⟨c3, h⟩ := or_none h
      refine v_aload_n (pc := 23) O dX2_init_23 0 rfl ?_
      refine v_getF (pc := 24) (a := 1) (q := 2) O hlm gf_X2_1 fl_X2_15 (kn_lt (n := n) (a := 1) (show (1 : Nat) < n by omega) rfl) hq dX2_init_24 ?_
      refine v_iload_n (pc := 27) O dX2_init_27 2 rfl ?_
      refine v_iconst (pc := 28) O dX2_init_28 ic_1 ?_
      refine v_iload_n (pc := 29) O dX2_init_29 2 rfl ?_
      refine v_ishl (pc := 30) O dX2_init_30 ?_
      refine v_iast (pc := 31) (a := 2) O (kn_lt h2 rfl) (inq (N := nu) rfl c3) dX2_init_31 ?_
      refine v_iinc (pc := 32) (lv' := [(2, .int (x2 + 1)), (0, .ref (bo X + pp 1)), (1, .int x1)]) O dX2_init_32 2 rfl (congrArg (fun q => x2 + q) ic_1) (by rw [hn]; decide) rfl ?_
      refine v_goto (pc := 35) 18 O dX2_init_35 (by decide) ?_
      refine v_sub [1, 2, 0] rfl ?_
      exact ih x1 (x2 + 1) _ hq h
def f_X2_init (N nu : Nat) (x1 : Int32) (D : Dat) : Option Dat := if ¬ x1 < 0 ∧ x1.toNatClampNeg = nu ∧ nu ≤ 6 then f_li nu N x1 0 (sR (sN (sI D 1 0 x1) 2) 1 1 (some 2)) else none
set_option maxHeartbeats 4000000 in
theorem c_X2_init {l : Launch} {w : Wx} {N nu : Nat} {x1 : Int32} {D z : Dat} (hlm : wlm w = false) (h : f_X2_init N nu x1 D = some z) : C5 l w yX2_init cX2_init 3 1 20 1 6 [.ref (wb w + pp 1), .int x1] nu 2 3 D z :=
  C5.of (by decide) (Nat.le_of_ble_eq_true rfl) (fun X e1 e2 e3 hi hT O => by
  subst e1
  subst e2
  obtain ⟨⟨k1, k2, k3⟩, h⟩ := if_none h
  show V X _ 2 (An nu 2 1 6) D 0 [(0, .ref (bo X + pp 1)), (1, .int x1)] []
  refine v_aload_n (pc := 0) O dX2_init_0 0 rfl ?_
  refine v_objInit (pc := 1) O ml_X2_3 im_obj cw_obj (by decide) (Nat.le_of_ble_eq_true rfl) dX2_init_1 ?_
  refine v_aload_n (pc := 4) O dX2_init_4 0 rfl ?_
  refine v_iload_n (pc := 5) O dX2_init_5 1 rfl ?_
  refine v_putFI (pc := 6) (a := 1) O hi gf_X2_0 rfl rfl rfl fl_X2_9 (kn_lt (n := 2) (a := 1) (by decide) rfl) dX2_init_6 ?_
  refine v_aload_n (pc := 9) O dX2_init_9 0 rfl ?_
  refine v_iload_n (pc := 10) O dX2_init_10 1 rfl ?_
  refine v_newaI (pc := 11) (a := 2) (N := nu) (by decide) O hT ac_int k1 k2 (by omega) rfl rfl (Nat.le_refl _) (by omega) dX2_init_11 ?_
  refine v_putFR (pc := 13) (a := 1) (r := some 2) O hi hlm gf_X2_1 rfl rfl rfl rfl fl_X2_15 (kn_lt (n := 3) (a := 1) (by decide) rfl) dX2_init_13 ?_
  refine v_iconst (pc := 16) O dX2_init_16 ic_0 ?_
  refine v_istore_n (pc := 17) (lv' := [(2, .int 0), (0, .ref (bo X + pp 1)), (1, .int x1)]) O dX2_init_17 rfl (by rw [e3]; decide) rfl ?_
  refine v_sub [1, 2, 0] rfl ?_
  exact w_li O hlm e3 (by decide) N x1 0 _ rfl h)
def cl6 (x : Int32) : Int32 := (if (1 : Int32) < (if (6 : Int32) < x then 6 else x) then (if (6 : Int32) < x then 6 else x) else 1)
def i_X11a (D : Dat) : Dat := (sR (sN (sR (i_X10_init (sN (sR (i_X3_init (sN (sR (i_X9_init (sN (sR (i_X8_init (sN (sR (i_X1_init (sN (sR (i_X5_init (sN (sR D 0 0 (some 1)) 3)) 0 1 (some 3)) 6)) 0 2 (some 6)) 106)) 0 3 (some 106)) 107)) 0 4 (some 107)) 181)) 0 5 (some 181)) 189)) 0 6 (some 189)) 190) 0 7 (some 190))
def i_X11b (D : Dat) : Dat := (sI (sI (sR (i_X0_init_204 (sN (sR (i_X0_init_201 (sN (sR (i_X4_init_196 (sN (sR (i_X4_init_191 (sN D 191)) 0 8 (some 191)) 196)) 0 9 (some 196)) 201)) 0 10 (some 201)) 204)) 0 11 (some 204)) 0 14 (-1)) 0 15 (-1))
def f_X11_init (N nu : Nat) (x1 : Int32) (D : Dat) : Option Dat := (f_X2_init N nu (cl6 x1) (sN D 1)).bind (fun z1 => (f_fl 52 N 190 (-1) 0 (Int32.ofNat 52) (i_X11a z1)).bind (fun z2 => some (i_X11b z2)))
set_option maxHeartbeats 8000000 in
theorem c_X11_init {l : Launch} {w : Wx} {N nu : Nat} {x1 : Int32} {D z : Dat} (hlm : wlm w = false) (h : f_X11_init N nu x1 D = some z) : C5 l w yX11_init cX11_init 2 3 61 209 9724 [.ref (wb w + pp 0), .int x1] nu 1 210 D z :=
  C5.of (by decide) (Nat.le_of_ble_eq_true rfl) (fun X e1 e2 e3 hi hT O => by
  subst e1
  subst e2
  unfold f_X11_init at h
  obtain ⟨z1, q1, h⟩ := bind_some h
  obtain ⟨z2, q2, h⟩ := bind_some h
  obtain rfl := Option.some.inj h
  unfold i_X11a at q2
  have hBB : ∀ {A : Al}, BB X A := ⟨Nat.le_trans hT.1 (Nat.le_add_right _ _), Nat.le_trans hT.2.1 (Nat.le_add_right _ _)⟩
  show V X (M5 X nu 210 (i_X11b z2)) 1 (An nu 1 209 9724) D 0 [(0, .ref (bo X + pp 0)), (1, .int x1)] []
  unfold i_X11b
  refine v_aload_n (pc := 0) O dX11_init_0 0 rfl ?_
  refine v_objInit (pc := 1) O ml_X11_1 im_obj cw_obj (by decide) (Nat.le_of_ble_eq_true rfl) dX11_init_1 ?_
  refine v_aload_n (pc := 4) O dX11_init_4 0 rfl ?_
  refine v_new5 (pc := 5) (a := 1) (by decide) O hT pn_X2 cn_X11_7 hlm rfl (Nat.le_of_ble_eq_true rfl) (Nat.le_of_ble_eq_true rfl) dX11_init_5 ?_
  show V X _ 2 (An nu 2 208 9720) _ 8 _ _
  refine v_dup (pc := 8) O dX11_init_8 rfl ?_
  refine v_iconst (pc := 9) O dX11_init_9 ic_1 ?_
  refine v_iload_n (pc := 10) O dX11_init_10 1 rfl ?_
  refine v_bipush (pc := 11) O dX11_init_11 bp_6 ?_
  refine v_min (pc := 13) O hBB ml_X11_11 sm_min ini_Math cw_min (by decide) (Nat.le_of_ble_eq_true rfl) dX11_init_13 ?_
  refine v_max (pc := 16) O hBB ml_X11_17 sm_max ini_Math cw_max (by decide) (Nat.le_of_ble_eq_true rfl) dX11_init_16 ?_
  refine v_call5 (pc := 19) (a := 1) (As := [.int (cl6 x1)]) (rest := [.ref (bo X + pp 1), .ref (bo X + pp 0)]) O hT ⟨Nat.le_of_ble_eq_true rfl, Nat.le_of_ble_eq_true rfl⟩ (c_X2_init hlm q1) mw_X2_init rfl im_X2_init ml_X11_20 rfl (by decide) (by decide) (Nat.le_of_ble_eq_true rfl) dX11_init_19 rfl ?_
  show V X _ 3 (An nu 3 207 9714) _ 22 _ _
  refine v_putFR (pc := 22) (a := 0) (r := some 1) O hi hlm gf_X11_0 rfl rfl rfl rfl fl_X11_23 (kn_lt (n := 3) (a := 0) (by decide) rfl) dX11_init_22 ?_
  refine v_aload_n (pc := 25) O dX11_init_25 0 rfl ?_
  refine v_new5 (pc := 26) (a := 3) (by decide) O hT pn_X5 cn_X11_27 hlm rfl (Nat.le_of_ble_eq_true rfl) (Nat.le_of_ble_eq_true rfl) dX11_init_26 ?_
  show V X _ 4 (An nu 4 206 9700) _ 29 _ _
  refine v_dup (pc := 29) O dX11_init_29 rfl ?_
  refine v_aload_n (pc := 30) O dX11_init_30 0 rfl ?_
  refine v_getF (pc := 31) (a := 0) (q := 1) O hlm gf_X11_0 fl_X11_23 (kn_lt (n := 4) (a := 0) (by decide) rfl) rfl dX11_init_31 ?_
  refine v_call5 (pc := 34) (a := 3) (As := [.ref (bo X + pp 1)]) (rest := [.ref (bo X + pp 3), .ref (bo X + pp 0)]) O hT ⟨Nat.le_of_ble_eq_true rfl, Nat.le_of_ble_eq_true rfl⟩ (c_X5_init (nu := nu) hlm) mw_X5_init rfl im_X5_init ml_X11_29 rfl (by decide) (by decide) (Nat.le_of_ble_eq_true rfl) dX11_init_34 rfl ?_
  show V X _ 9 (An nu 9 201 8711) _ 37 _ _
  refine v_putFR (pc := 37) (a := 0) (r := some 3) O hi hlm gf_X11_1 rfl rfl rfl rfl fl_X11_32 (kn_lt (n := 9) (a := 0) (by decide) rfl) dX11_init_37 ?_
  refine v_aload_n (pc := 40) O dX11_init_40 0 rfl ?_
  refine v_new5 (pc := 41) (a := 6) (by decide) O hT pn_X1 cn_X11_36 hlm rfl (Nat.le_of_ble_eq_true rfl) (Nat.le_of_ble_eq_true rfl) dX11_init_41 ?_
  show V X _ 10 (An nu 10 200 8705) _ 44 _ _
  refine v_dup (pc := 44) O dX11_init_44 rfl ?_
  refine v_aload_n (pc := 45) O dX11_init_45 0 rfl ?_
  refine v_getF (pc := 46) (a := 0) (q := 1) O hlm gf_X11_0 fl_X11_23 (kn_lt (n := 10) (a := 0) (by decide) rfl) rfl dX11_init_46 ?_
  refine v_call5 (pc := 49) (a := 6) (As := [.ref (bo X + pp 1)]) (rest := [.ref (bo X + pp 6), .ref (bo X + pp 0)]) O hT ⟨Nat.le_of_ble_eq_true rfl, Nat.le_of_ble_eq_true rfl⟩ (c_X1_init (nu := nu) hlm) mw_X1_init rfl im_X1_init ml_X11_38 rfl (by decide) (by decide) (Nat.le_of_ble_eq_true rfl) dX11_init_49 rfl ?_
  show V X _ 109 (An nu 109 101 6087) _ 52 _ _
  refine v_putFR (pc := 52) (a := 0) (r := some 6) O hi hlm gf_X11_2 rfl rfl rfl rfl fl_X11_39 (kn_lt (n := 109) (a := 0) (by decide) rfl) dX11_init_52 ?_
  refine v_aload_n (pc := 55) O dX11_init_55 0 rfl ?_
  refine v_new5 (pc := 56) (a := 106) (by decide) O hT pn_X8 cn_X11_43 hlm rfl (Nat.le_of_ble_eq_true rfl) (Nat.le_of_ble_eq_true rfl) dX11_init_56 ?_
  show V X _ 110 (An nu 110 100 6084) _ 59 _ _
  refine v_dup (pc := 59) O dX11_init_59 rfl ?_
  refine v_call5N (pc := 60) (a := 106) (As := []) (rest := [.ref (bo X + pp 106), .ref (bo X + pp 0)]) O hT ⟨Nat.le_of_ble_eq_true rfl, Nat.le_of_ble_eq_true rfl⟩ (c_X8_init (nu := nu) hlm) mw_X8_init rfl im_X8_init nl_X11_45 rfl (by decide) (by decide) (Nat.le_of_ble_eq_true rfl) dX11_init_60 rfl ?_
  show V X _ 110 (An nu 110 100 6084) _ 63 _ _
  refine v_putFR (pc := 63) (a := 0) (r := some 106) O hi hlm gf_X11_3 rfl rfl rfl rfl fl_X11_46 (kn_lt (n := 110) (a := 0) (by decide) rfl) dX11_init_63 ?_
  refine v_aload_n (pc := 66) O dX11_init_66 0 rfl ?_
  refine v_new5 (pc := 67) (a := 107) (by decide) O hT pn_X9 cn_X11_50 hlm rfl (Nat.le_of_ble_eq_true rfl) (Nat.le_of_ble_eq_true rfl) dX11_init_67 ?_
  show V X _ 111 (An nu 111 99 6071) _ 70 _ _
  refine v_dup (pc := 70) O dX11_init_70 rfl ?_
  refine v_aload_n (pc := 71) O dX11_init_71 0 rfl ?_
  refine v_getF (pc := 72) (a := 0) (q := 1) O hlm gf_X11_0 fl_X11_23 (kn_lt (n := 111) (a := 0) (by decide) rfl) rfl dX11_init_72 ?_
  refine v_call5 (pc := 75) (a := 107) (As := [.ref (bo X + pp 1)]) (rest := [.ref (bo X + pp 107), .ref (bo X + pp 0)]) O hT ⟨Nat.le_of_ble_eq_true rfl, Nat.le_of_ble_eq_true rfl⟩ (c_X9_init (nu := nu) hlm) mw_X9_init rfl im_X9_init ml_X11_52 rfl (by decide) (by decide) (Nat.le_of_ble_eq_true rfl) dX11_init_75 rfl ?_
  show V X _ 184 (An nu 184 26 1977) _ 78 _ _
  refine v_putFR (pc := 78) (a := 0) (r := some 107) O hi hlm gf_X11_4 rfl rfl rfl rfl fl_X11_53 (kn_lt (n := 184) (a := 0) (by decide) rfl) dX11_init_78 ?_
  refine v_aload_n (pc := 81) O dX11_init_81 0 rfl ?_
  refine v_new5 (pc := 82) (a := 181) (by decide) O hT pn_X3 cn_X11_57 hlm rfl (Nat.le_of_ble_eq_true rfl) (Nat.le_of_ble_eq_true rfl) dX11_init_82 ?_
  show V X _ 185 (An nu 185 25 1966) _ 85 _ _
  refine v_dup (pc := 85) O dX11_init_85 rfl ?_
  refine v_call5N (pc := 86) (a := 181) (As := []) (rest := [.ref (bo X + pp 181), .ref (bo X + pp 0)]) O hT ⟨Nat.le_of_ble_eq_true rfl, Nat.le_of_ble_eq_true rfl⟩ (c_X3_init (nu := nu) hlm) mw_X3_init rfl im_X3_init nl_X11_59 rfl (by decide) (by decide) (Nat.le_of_ble_eq_true rfl) dX11_init_86 rfl ?_
  show V X _ 192 (An nu 192 18 1444) _ 89 _ _
  refine v_putFR (pc := 89) (a := 0) (r := some 181) O hi hlm gf_X11_5 rfl rfl rfl rfl fl_X11_60 (kn_lt (n := 192) (a := 0) (by decide) rfl) dX11_init_89 ?_
  refine v_aload_n (pc := 92) O dX11_init_92 0 rfl ?_
  refine v_new5 (pc := 93) (a := 189) (by decide) O hT pn_X10 cn_X11_64 hlm rfl (Nat.le_of_ble_eq_true rfl) (Nat.le_of_ble_eq_true rfl) dX11_init_93 ?_
  show V X _ 193 (An nu 193 17 1442) _ 96 _ _
  refine v_dup (pc := 96) O dX11_init_96 rfl ?_
  refine v_aload_n (pc := 97) O dX11_init_97 0 rfl ?_
  refine v_getF (pc := 98) (a := 0) (q := 181) O hlm gf_X11_5 fl_X11_60 (kn_lt (n := 193) (a := 0) (by decide) rfl) rfl dX11_init_98 ?_
  refine v_call5 (pc := 101) (a := 189) (As := [.ref (bo X + pp 181)]) (rest := [.ref (bo X + pp 189), .ref (bo X + pp 0)]) O hT ⟨Nat.le_of_ble_eq_true rfl, Nat.le_of_ble_eq_true rfl⟩ (c_X10_init (nu := nu) hlm) mw_X10_init rfl im_X10_init ml_X11_66 rfl (by decide) (by decide) (Nat.le_of_ble_eq_true rfl) dX11_init_101 rfl ?_
  show V X _ 193 (An nu 193 17 1442) _ 104 _ _
  refine v_putFR (pc := 104) (a := 0) (r := some 189) O hi hlm gf_X11_6 rfl rfl rfl rfl fl_X11_69 (kn_lt (n := 193) (a := 0) (by decide) rfl) dX11_init_104 ?_
  refine v_aload_n (pc := 107) O dX11_init_107 0 rfl ?_
  refine v_bipush (pc := 108) O dX11_init_108 bp_52 ?_
  refine v_newaI (pc := 110) (a := 190) (N := 52) (by decide) O hT ac_int (by decide) rfl (Nat.le_of_ble_eq_true rfl) rfl rfl (Nat.le_of_ble_eq_true rfl) (Nat.le_of_ble_eq_true rfl) dX11_init_110 ?_
  show V X _ 194 (An nu 194 16 1390) _ 112 _ _
  refine v_putFR (pc := 112) (a := 0) (r := some 190) O hi hlm gf_X11_7 rfl rfl rfl rfl fl_X11_73 (kn_lt (n := 194) (a := 0) (by decide) rfl) dX11_init_112 ?_
  refine v_aload_n (pc := 115) O dX11_init_115 0 rfl ?_
  refine v_getF (pc := 116) (a := 0) (q := 190) O hlm gf_X11_7 fl_X11_73 (kn_lt (n := 194) (a := 0) (by decide) rfl) rfl dX11_init_116 ?_
  refine v_iconst (pc := 119) O dX11_init_119 ic_m1 ?_
  refine v_callS (pc := 120) (A := An nu 194 16 1390) (As := [.ref (bo X + pp 190), .int (-1)]) (rest := []) (r := none) (D' := z2) O hBB (c_fl (L := 52) (kn_lt (n := 194) (a := 190) (by decide) rfl) rfl q2) mw_J7_fill_53178 sm_J7_fill_53178 ml_X11_77 rfl (by decide) (by decide) (Nat.le_of_ble_eq_true rfl) dX11_init_120 rfl rfl ?_
  refine v_aload_n (pc := 123) O dX11_init_123 0 rfl ?_
  refine v_new5 (pc := 124) (a := 191) (by decide) O hT pn_X4 cn_X11_83 hlm rfl (Nat.le_of_ble_eq_true rfl) (Nat.le_of_ble_eq_true rfl) dX11_init_124 ?_
  show V X _ 195 (An nu 195 15 1384) _ 127 _ _
  refine v_dup (pc := 127) O dX11_init_127 rfl ?_
  refine v_call5N (pc := 128) (a := 191) (As := []) (rest := [.ref (bo X + pp 191), .ref (bo X + pp 0)]) O hT ⟨Nat.le_of_ble_eq_true rfl, Nat.le_of_ble_eq_true rfl⟩ (c_X4_init_191 (nu := nu) hlm) mw_X4_init rfl im_X4_init nl_X11_85 rfl (by decide) (by decide) (Nat.le_of_ble_eq_true rfl) dX11_init_128 rfl ?_
  show V X _ 199 (An nu 199 11 826) _ 131 _ _
  refine v_putR (pc := 131) (a := 0) (r := some 191) O pf_X11_8 rfl fl_X11_86 (kn_lt (n := 199) (a := 0) (by decide) rfl) dX11_init_131 ?_
  refine v_aload_n (pc := 134) O dX11_init_134 0 rfl ?_
  refine v_new5 (pc := 135) (a := 196) (by decide) O hT pn_X4 cn_X11_83 hlm rfl (Nat.le_of_ble_eq_true rfl) (Nat.le_of_ble_eq_true rfl) dX11_init_135 ?_
  show V X _ 200 (An nu 200 10 820) _ 138 _ _
  refine v_dup (pc := 138) O dX11_init_138 rfl ?_
  refine v_call5N (pc := 139) (a := 196) (As := []) (rest := [.ref (bo X + pp 196), .ref (bo X + pp 0)]) O hT ⟨Nat.le_of_ble_eq_true rfl, Nat.le_of_ble_eq_true rfl⟩ (c_X4_init_196 (nu := nu) hlm) mw_X4_init rfl im_X4_init nl_X11_85 rfl (by decide) (by decide) (Nat.le_of_ble_eq_true rfl) dX11_init_139 rfl ?_
  show V X _ 204 (An nu 204 6 262) _ 142 _ _
  refine v_putR (pc := 142) (a := 0) (r := some 196) O pf_X11_9 rfl fl_X11_90 (kn_lt (n := 204) (a := 0) (by decide) rfl) dX11_init_142 ?_
  refine v_aload_n (pc := 145) O dX11_init_145 0 rfl ?_
  refine v_new5 (pc := 146) (a := 201) (by decide) O hT pn_X0 cn_X11_93 hlm rfl (Nat.le_of_ble_eq_true rfl) (Nat.le_of_ble_eq_true rfl) dX11_init_146 ?_
  show V X _ 205 (An nu 205 5 259) _ 149 _ _
  refine v_dup (pc := 149) O dX11_init_149 rfl ?_
  refine v_call5N (pc := 150) (a := 201) (As := []) (rest := [.ref (bo X + pp 201), .ref (bo X + pp 0)]) O hT ⟨Nat.le_of_ble_eq_true rfl, Nat.le_of_ble_eq_true rfl⟩ (c_X0_init_201 (nu := nu) hlm) mw_X0_init rfl im_X0_init nl_X11_95 rfl (by decide) (by decide) (Nat.le_of_ble_eq_true rfl) dX11_init_150 rfl ?_
  show V X _ 207 (An nu 207 3 131) _ 153 _ _
  refine v_putR (pc := 153) (a := 0) (r := some 201) O pf_X11_10 rfl fl_X11_96 (kn_lt (n := 207) (a := 0) (by decide) rfl) dX11_init_153 ?_
  refine v_aload_n (pc := 156) O dX11_init_156 0 rfl ?_
  refine v_new5 (pc := 157) (a := 204) (by decide) O hT pn_X0 cn_X11_93 hlm rfl (Nat.le_of_ble_eq_true rfl) (Nat.le_of_ble_eq_true rfl) dX11_init_157 ?_
  show V X _ 208 (An nu 208 2 128) _ 160 _ _
  refine v_dup (pc := 160) O dX11_init_160 rfl ?_
  refine v_call5N (pc := 161) (a := 204) (As := []) (rest := [.ref (bo X + pp 204), .ref (bo X + pp 0)]) O hT ⟨Nat.le_of_ble_eq_true rfl, Nat.le_of_ble_eq_true rfl⟩ (c_X0_init_204 (nu := nu) hlm) mw_X0_init rfl im_X0_init nl_X11_95 rfl (by decide) (by decide) (Nat.le_of_ble_eq_true rfl) dX11_init_161 rfl ?_
  show V X _ 210 (An nu 210 0 0) _ 164 _ _
  refine v_putR (pc := 164) (a := 0) (r := some 204) O pf_X11_11 rfl fl_X11_100 (kn_lt (n := 210) (a := 0) (by decide) rfl) dX11_init_164 ?_
  refine v_aload_n (pc := 167) O dX11_init_167 0 rfl ?_
  refine v_iconst (pc := 168) O dX11_init_168 ic_m1 ?_
  refine v_putI (pc := 169) (a := 0) O pf_X11_14 fl_X11_103 (kn_lt (n := 210) (a := 0) (by decide) rfl) dX11_init_169 ?_
  refine v_aload_n (pc := 172) O dX11_init_172 0 rfl ?_
  refine v_iconst (pc := 173) O dX11_init_173 ic_m1 ?_
  refine v_putI (pc := 174) (a := 0) O pf_X11_15 fl_X11_107 (kn_lt (n := 210) (a := 0) (by decide) rfl) dX11_init_174 ?_
  exact v_ret5 (pc := 177) O dX11_init_177)
def i_X12a (D : Dat) : Dat := (sR (sN (sR (sN (sR (sN (sR (sN (sR (sN (sR (sN (sR (sN (sR (sN (sR (sN (sR (sN (sR (sN (sR (sN (sR (sN (sR (sN (sR (sN (sR (sN (sR (sN (sR (sN (sR (sN (sR (sN (sR (sN (sR (sN (sR (sN (sR (sN (sR (sN (sR (sN (sR (sN (sR (sN (sR (sN (sR (sN (sR (sN (sR (sN (sR (sN (sR (sN (sR (sN (sR (sN (sR (sN (sR (sN (sR (sN (sR (sN (sR (sN (sR (sN (sR (sN (sR (sN (sR (sN (sR (sN (sR (sN (sR (sN (sR (sN (sR (sN (sR (sN (sI (sI (sR (sN (sR (sN (sR (sN D 208) 207 2 (some 208)) 209) 207 3 (some 209)) 210) 207 4 (some 210)) 207 7 (-1)) 207 8 (-1)) 211) 207 9 (some 211)) 212) 207 11 (some 212)) 213) 207 12 (some 213)) 214) 207 14 (some 214)) 215) 207 15 (some 215)) 216) 207 20 (some 216)) 217) 207 21 (some 217)) 218) 207 22 (some 218)) 219) 207 23 (some 219)) 220) 207 24 (some 220)) 221) 207 25 (some 221)) 222) 207 26 (some 222)) 223) 207 27 (some 223)) 224) 207 28 (some 224)) 225) 207 29 (some 225)) 226) 207 30 (some 226)) 227) 207 31 (some 227)) 228) 207 32 (some 228)) 229) 207 42 (some 229)) 230) 207 43 (some 230)) 231) 207 45 (some 231)) 232) 207 46 (some 232)) 233) 207 47 (some 233)) 234) 207 49 (some 234)) 235) 207 50 (some 235)) 236) 207 52 (some 236)) 237) 207 53 (some 237)) 238) 207 57 (some 238)) 239) 207 58 (some 239)) 240) 207 59 (some 240)) 241) 207 60 (some 241)) 242) 207 62 (some 242)) 243) 207 63 (some 243)) 244) 207 64 (some 244)) 245) 207 65 (some 245)) 246) 207 66 (some 246)) 247) 207 67 (some 247)) 248) 207 68 (some 248)) 249) 207 69 (some 249)) 250) 207 70 (some 250)) 251) 207 71 (some 251)) 252) 207 72 (some 252)) 253) 207 73 (some 253)) 254) 207 74 (some 254)) 255) 207 75 (some 255)) 256) 207 76 (some 256)) 257) 207 77 (some 257)) 258) 207 78 (some 258)) 259) 207 79 (some 259)) 260) 207 80 (some 260)) 261) 207 81 (some 261))
def f_mu : Nat → Int32 → Dat → Option Dat
  | 0, _, _ => none
  | g + 1, x2, D => if (6 : Int32) ≤ x2 then some D else (if 7 * x2 < 0 ∨ 36 ≤ (7 * x2).toNatClampNeg then none else f_mu g (x2 + 1) (sI D 208 (7 * x2).toNatClampNeg ((1 : Int32) &&& 1)))
def f_mf : Nat → Int32 → Dat → Option Dat
  | 0, _, _ => none
  | g + 1, x2, D => if (26 : Int32) ≤ x2 then some D else (if x2 < 0 ∨ 26 ≤ (x2).toNatClampNeg then none else f_mf g (x2 + 1) (sI (sI D 214 (x2).toNatClampNeg (-1)) 215 (x2).toNatClampNeg (-1)))
theorem w_mf {X : Cx} {nu c u : Nat} {z : Dat} (O : Ok X cX12_init RX12 none 1 20) (hlm : wlm (xw X) = false) (hn : xn X = 3) : ∀ (g : Nat) (x1 x2 : Int32) (D : Dat), dR D 207 14 = some 214 → dR D 207 15 = some 215 → f_mf g x2 D = some z → V X (M5 X nu 265 z) 265 (An nu 265 c u) D 517 [(0, .ref (bo X + pp 207)), (1, .int x1), (2, .int x2)] [] := by
  intro g
  induction g with
  | zero => intro x1 x2 D _ _ h; exact absurd h (by simp [f_mf])
  | succ g ih =>
    intro x1 x2 D hq hr h
    rw [f_mf] at h
    refine v_iload_n (pc := 517) O dX12_init_517 2 rfl ?_
    refine v_bipush (pc := 518) O dX12_init_518 bp_26 ?_
    refine v_icmpge (pc := 520) 543 O dX12_init_520 (by decide) (fun c1 => ?_) (fun c1 => ?_)
    · have h := (if_pos c1).symm.trans h
      obtain rfl := Option.some.inj h
      exact v_ret5 (pc := 543) O dX12_init_543
    · have h := (if_neg c1).symm.trans h
      obtain ⟨c3, h⟩ := or_none h
      refine v_aload_n (pc := 523) O dX12_init_523 0 rfl ?_
      refine v_getF (pc := 524) (a := 207) (q := 214) O hlm gf_X12_14 fl_X12_36 (kn_lt (n := 265) (a := 207) (by decide) rfl) hq dX12_init_524 ?_
      refine v_iload_n (pc := 527) O dX12_init_527 2 rfl ?_
      refine v_iconst (pc := 528) O dX12_init_528 ic_m1 ?_
      refine v_iast (pc := 529) (a := 214) O (kn_lt (n := 265) (a := 214) (by decide) rfl) (inq (N := 26) rfl c3) dX12_init_529 ?_
      refine v_aload_n (pc := 530) O dX12_init_530 0 rfl ?_
      refine v_getF (pc := 531) (a := 207) (q := 215) O hlm gf_X12_15 fl_X12_39 (kn_lt (n := 265) (a := 207) (by decide) rfl) hr dX12_init_531 ?_
      refine v_iload_n (pc := 534) O dX12_init_534 2 rfl ?_
      refine v_iconst (pc := 535) O dX12_init_535 ic_m1 ?_
      refine v_iast (pc := 536) (a := 215) O (kn_lt (n := 265) (a := 215) (by decide) rfl) (inq (N := 26) rfl c3) dX12_init_536 ?_
      refine v_iinc (pc := 537) (lv' := [(2, .int (x2 + 1)), (0, .ref (bo X + pp 207)), (1, .int x1)]) O dX12_init_537 2 rfl (congrArg (fun q => x2 + q) ic_1) (by rw [hn]; decide) rfl ?_
      refine v_goto (pc := 540) 517 O dX12_init_540 (by decide) ?_
      refine v_sub [1, 2, 0] rfl ?_
      exact ih x1 (x2 + 1) _ hq hr h
theorem w_mu {X : Cx} {nu c u N : Nat} {z : Dat} (O : Ok X cX12_init RX12 none 1 20) (hlm : wlm (xw X) = false) (hn : xn X = 3) : ∀ (g : Nat) (x1 x2 : Int32) (D : Dat), dR D 207 2 = some 208 → dR D 207 14 = some 214 → dR D 207 15 = some 215 → (f_mu g x2 D).bind (fun z1 => f_mf N 0 z1) = some z → V X (M5 X nu 265 z) 265 (An nu 265 c u) D 493 [(0, .ref (bo X + pp 207)), (1, .int x1), (2, .int x2)] [] := by
  intro g
  induction g with
  | zero => intro x1 x2 D _ _ _ h; exact absurd h (by simp [f_mu])
  | succ g ih =>
    intro x1 x2 D hu hq hr h
    rw [f_mu] at h
    refine v_iload_n (pc := 493) O dX12_init_493 2 rfl ?_
    refine v_bipush (pc := 494) O dX12_init_494 bp_6 ?_
    refine v_icmpge (pc := 496) 515 O dX12_init_496 (by decide) (fun c1 => ?_) (fun c1 => ?_)
    · rw [if_pos c1] at h
      have h : f_mf N 0 D = some z := h
      refine v_iconst (pc := 515) O dX12_init_515 ic_0 ?_
      refine v_istore_n (pc := 516) (lv' := [(2, .int 0), (0, .ref (bo X + pp 207)), (1, .int x1)]) O dX12_init_516 rfl (by rw [hn]; decide) rfl ?_
      refine v_sub [1, 2, 0] rfl ?_
      exact w_mf O hlm hn N x1 0 D hq hr h
    · rw [if_neg c1] at h
      by_cases c3 : 7 * x2 < 0 ∨ 36 ≤ (7 * x2).toNatClampNeg
      · rw [if_pos c3] at h
        cases h
      · rw [if_neg c3] at h
        refine v_aload_n (pc := 499) O dX12_init_499 0 rfl ?_
        refine v_getF (pc := 500) (a := 207) (q := 208) O hlm gf_X12_2 fl_X12_7 (kn_lt (n := 265) (a := 207) (by decide) rfl) hu dX12_init_500 ?_
        refine v_bipush (pc := 503) O dX12_init_503 bp_7 ?_
        refine v_iload_n (pc := 505) O dX12_init_505 2 rfl ?_
        refine v_imul (pc := 506) O dX12_init_506 ?_
        refine v_iconst (pc := 507) O dX12_init_507 ic_1 ?_
        refine v_zast (pc := 508) (a := 208) O (kn_lt (n := 265) (a := 208) (by decide) rfl) (inq (N := 36) rfl c3) dX12_init_508 ?_
        refine v_iinc (pc := 509) (lv' := [(2, .int (x2 + 1)), (0, .ref (bo X + pp 207)), (1, .int x1)]) O dX12_init_509 2 rfl (congrArg (fun q => x2 + q) ic_1) (by rw [hn]; decide) rfl ?_
        refine v_goto (pc := 512) 493 O dX12_init_512 (by decide) ?_
        refine v_sub [1, 2, 0] rfl ?_
        exact ih x1 (x2 + 1) _ hu hq hr h
def cm6 (x : Int32) : Int32 := if (1 : Int32) ≤ x then (if x ≤ 6 then x else 6) else 1
def f_X12_init (N : Nat) (x1 : Int32) (D : Dat) : Option Dat := (f_mu N 0 (sI (i_X12a D) 207 1 (cm6 x1))).bind (fun z1 => f_mf N 0 z1)
set_option maxHeartbeats 4000000 in
theorem w_X12_tail {X : Cx} {nu c u N : Nat} {z : Dat} (O : Ok X cX12_init RX12 none 1 20) (hlm : wlm (xw X) = false) (hn : xn X = 3) (hi : (xh X).name = "<init>") (x1 : Int32) (D : Dat) (h : f_X12_init N x1 D = some z) : V X (M5 X nu 265 z) 265 (An nu 265 c u) (i_X12a D) 466 [(0, .ref (bo X + pp 207)), (1, .int x1)] [] := by
  unfold f_X12_init at h
  have fin : V X (M5 X nu 265 z) 265 (An nu 265 c u) (i_X12a D) 488 [(0, .ref (bo X + pp 207)), (1, .int x1)] [.int (cm6 x1), .ref (bo X + pp 207)] := by
    refine v_putFI (pc := 488) (a := 207) O hi gf_X12_1 rfl rfl rfl fl_X12_180 (kn_lt (n := 265) (a := 207) (by decide) rfl) dX12_init_488 ?_
    refine v_iconst (pc := 491) O dX12_init_491 ic_0 ?_
    refine v_istore_n (pc := 492) (lv' := [(2, .int 0), (0, .ref (bo X + pp 207)), (1, .int x1)]) O dX12_init_492 rfl (by rw [hn]; decide) rfl ?_
    refine v_sub [1, 2, 0] rfl ?_
    exact w_mu O hlm hn N x1 0 _ rfl rfl rfl h
  unfold cm6 at fin
  refine v_aload_n (pc := 466) O dX12_init_466 0 rfl ?_
  refine v_iload_n (pc := 467) O dX12_init_467 1 rfl ?_
  refine v_iconst (pc := 468) O dX12_init_468 ic_1 ?_
  refine v_icmpge (pc := 469) 476 O dX12_init_469 (by decide) (fun c1 => ?_) (fun c1 => ?_)
  · rw [if_pos c1] at fin
    refine v_iload_n (pc := 476) O dX12_init_476 1 rfl ?_
    refine v_bipush (pc := 477) O dX12_init_477 bp_6 ?_
    refine v_icmple (pc := 479) 487 O dX12_init_479 (by decide) (fun c2 => ?_) (fun c2 => ?_)
    · rw [if_pos c2] at fin
      refine v_iload_n (pc := 487) O dX12_init_487 1 rfl ?_
      exact fin
    · rw [if_neg c2] at fin
      refine v_bipush (pc := 482) O dX12_init_482 bp_6 ?_
      refine v_goto (pc := 484) 488 O dX12_init_484 (by decide) ?_
      exact fin
  · rw [if_neg c1] at fin
    refine v_iconst (pc := 472) O dX12_init_472 ic_1 ?_
    refine v_goto (pc := 473) 488 O dX12_init_473 (by decide) ?_
    exact fin
set_option maxHeartbeats 8000000 in
theorem c_X12_init {l : Launch} {w : Wx} {N nu : Nat} {x1 : Int32} {D z : Dat} (hlm : wlm w = false) (h : f_X12_init N x1 D = some z) : C5 l w yX12_init cX12_init 3 1 20 54 15822 [.ref (wb w + pp 207), .int x1] nu 211 265 D z :=
  C5.of (by decide) (Nat.le_of_ble_eq_true rfl) (fun X e1 e2 e3 hi hT O => by
  subst e1
  subst e2
  have fin := w_X12_tail (nu := nu) (c := 0) (u := 0) O hlm e3 hi x1 D h
  unfold i_X12a at fin
  show V X (M5 X nu 265 z) 211 (An nu 211 54 15822) D 0 [(0, .ref (bo X + pp 207)), (1, .int x1)] []
  refine v_aload_n (pc := 0) O dX12_init_0 0 rfl ?_
  refine v_objInit (pc := 1) O ml_X12_1 im_obj cw_obj (by decide) (Nat.le_of_ble_eq_true rfl) dX12_init_1 ?_
  refine v_aload_n (pc := 4) O dX12_init_4 0 rfl ?_
  refine v_bipush (pc := 5) O dX12_init_5 bp_36 ?_
  refine v_newaZ (pc := 7) (a := 208) (N := 36) (by decide) O hT ac_boolean (by decide) rfl (Nat.le_of_ble_eq_true rfl) rfl rfl (Nat.le_of_ble_eq_true rfl) (Nat.le_of_ble_eq_true rfl) dX12_init_7 ?_
  show V X _ 212 (An nu 212 53 15786) _ 9 _ _
  refine v_putFR (pc := 9) (a := 207) (r := some 208) O hi hlm gf_X12_2 rfl rfl rfl rfl fl_X12_7 (kn_lt (n := 212) (a := 207) (by decide) rfl) dX12_init_9 ?_
  refine v_aload_n (pc := 12) O dX12_init_12 0 rfl ?_
  refine v_bipush (pc := 13) O dX12_init_13 bp_36 ?_
  refine v_newaI (pc := 15) (a := 209) (N := 36) (by decide) O hT ac_int (by decide) rfl (Nat.le_of_ble_eq_true rfl) rfl rfl (Nat.le_of_ble_eq_true rfl) (Nat.le_of_ble_eq_true rfl) dX12_init_15 ?_
  show V X _ 213 (An nu 213 52 15750) _ 17 _ _
  refine v_putFR (pc := 17) (a := 207) (r := some 209) O hi hlm gf_X12_3 rfl rfl rfl rfl fl_X12_13 (kn_lt (n := 213) (a := 207) (by decide) rfl) dX12_init_17 ?_
  refine v_aload_n (pc := 20) O dX12_init_20 0 rfl ?_
  refine v_bipush (pc := 21) O dX12_init_21 bp_36 ?_
  refine v_newaI (pc := 23) (a := 210) (N := 36) (by decide) O hT ac_int (by decide) rfl (Nat.le_of_ble_eq_true rfl) rfl rfl (Nat.le_of_ble_eq_true rfl) (Nat.le_of_ble_eq_true rfl) dX12_init_23 ?_
  show V X _ 214 (An nu 214 51 15714) _ 25 _ _
  refine v_putFR (pc := 25) (a := 207) (r := some 210) O hi hlm gf_X12_4 rfl rfl rfl rfl fl_X12_17 (kn_lt (n := 214) (a := 207) (by decide) rfl) dX12_init_25 ?_
  refine v_aload_n (pc := 28) O dX12_init_28 0 rfl ?_
  refine v_iconst (pc := 29) O dX12_init_29 ic_m1 ?_
  refine v_putI (pc := 30) (a := 207) O pf_X12_7 fl_X12_20 (kn_lt (n := 214) (a := 207) (by decide) rfl) dX12_init_30 ?_
  refine v_aload_n (pc := 33) O dX12_init_33 0 rfl ?_
  refine v_iconst (pc := 34) O dX12_init_34 ic_m1 ?_
  refine v_putI (pc := 35) (a := 207) O pf_X12_8 fl_X12_24 (kn_lt (n := 214) (a := 207) (by decide) rfl) dX12_init_35 ?_
  refine v_aload_n (pc := 38) O dX12_init_38 0 rfl ?_
  refine v_sipush (pc := 39) O dX12_init_39 sp_240 ?_
  refine v_newaI (pc := 42) (a := 211) (N := 240) (by decide) O hT ac_int (by decide) rfl (Nat.le_of_ble_eq_true rfl) rfl rfl (Nat.le_of_ble_eq_true rfl) (Nat.le_of_ble_eq_true rfl) dX12_init_42 ?_
  show V X _ 215 (An nu 215 50 15474) _ 44 _ _
  refine v_putFR (pc := 44) (a := 207) (r := some 211) O hi hlm gf_X12_9 rfl rfl rfl rfl fl_X12_27 (kn_lt (n := 215) (a := 207) (by decide) rfl) dX12_init_44 ?_
  refine v_aload_n (pc := 47) O dX12_init_47 0 rfl ?_
  refine v_bipush (pc := 48) O dX12_init_48 bp_64 ?_
  refine v_newaI (pc := 50) (a := 212) (N := 64) (by decide) O hT ac_int (by decide) rfl (Nat.le_of_ble_eq_true rfl) rfl rfl (Nat.le_of_ble_eq_true rfl) (Nat.le_of_ble_eq_true rfl) dX12_init_50 ?_
  show V X _ 216 (An nu 216 49 15410) _ 52 _ _
  refine v_putFR (pc := 52) (a := 207) (r := some 212) O hi hlm gf_X12_11 rfl rfl rfl rfl fl_X12_30 (kn_lt (n := 216) (a := 207) (by decide) rfl) dX12_init_52 ?_
  refine v_aload_n (pc := 55) O dX12_init_55 0 rfl ?_
  refine v_bipush (pc := 56) O dX12_init_56 bp_64 ?_
  refine v_newaI (pc := 58) (a := 213) (N := 64) (by decide) O hT ac_int (by decide) rfl (Nat.le_of_ble_eq_true rfl) rfl rfl (Nat.le_of_ble_eq_true rfl) (Nat.le_of_ble_eq_true rfl) dX12_init_58 ?_
  show V X _ 217 (An nu 217 48 15346) _ 60 _ _
  refine v_putFR (pc := 60) (a := 207) (r := some 213) O hi hlm gf_X12_12 rfl rfl rfl rfl fl_X12_33 (kn_lt (n := 217) (a := 207) (by decide) rfl) dX12_init_60 ?_
  refine v_aload_n (pc := 63) O dX12_init_63 0 rfl ?_
  refine v_bipush (pc := 64) O dX12_init_64 bp_26 ?_
  refine v_newaI (pc := 66) (a := 214) (N := 26) (by decide) O hT ac_int (by decide) rfl (Nat.le_of_ble_eq_true rfl) rfl rfl (Nat.le_of_ble_eq_true rfl) (Nat.le_of_ble_eq_true rfl) dX12_init_66 ?_
  show V X _ 218 (An nu 218 47 15320) _ 68 _ _
  refine v_putFR (pc := 68) (a := 207) (r := some 214) O hi hlm gf_X12_14 rfl rfl rfl rfl fl_X12_36 (kn_lt (n := 218) (a := 207) (by decide) rfl) dX12_init_68 ?_
  refine v_aload_n (pc := 71) O dX12_init_71 0 rfl ?_
  refine v_bipush (pc := 72) O dX12_init_72 bp_26 ?_
  refine v_newaI (pc := 74) (a := 215) (N := 26) (by decide) O hT ac_int (by decide) rfl (Nat.le_of_ble_eq_true rfl) rfl rfl (Nat.le_of_ble_eq_true rfl) (Nat.le_of_ble_eq_true rfl) dX12_init_74 ?_
  show V X _ 219 (An nu 219 46 15294) _ 76 _ _
  refine v_putFR (pc := 76) (a := 207) (r := some 215) O hi hlm gf_X12_15 rfl rfl rfl rfl fl_X12_39 (kn_lt (n := 219) (a := 207) (by decide) rfl) dX12_init_76 ?_
  refine v_aload_n (pc := 79) O dX12_init_79 0 rfl ?_
  refine v_sipush (pc := 80) O dX12_init_80 sp_128 ?_
  refine v_newaI (pc := 83) (a := 216) (N := 128) (by decide) O hT ac_int (by decide) rfl (Nat.le_of_ble_eq_true rfl) rfl rfl (Nat.le_of_ble_eq_true rfl) (Nat.le_of_ble_eq_true rfl) dX12_init_83 ?_
  show V X _ 220 (An nu 220 45 15166) _ 85 _ _
  refine v_putFR (pc := 85) (a := 207) (r := some 216) O hi hlm gf_X12_20 rfl rfl rfl rfl fl_X12_42 (kn_lt (n := 220) (a := 207) (by decide) rfl) dX12_init_85 ?_
  refine v_aload_n (pc := 88) O dX12_init_88 0 rfl ?_
  refine v_sipush (pc := 89) O dX12_init_89 sp_128 ?_
  refine v_newaI (pc := 92) (a := 217) (N := 128) (by decide) O hT ac_int (by decide) rfl (Nat.le_of_ble_eq_true rfl) rfl rfl (Nat.le_of_ble_eq_true rfl) (Nat.le_of_ble_eq_true rfl) dX12_init_92 ?_
  show V X _ 221 (An nu 221 44 15038) _ 94 _ _
  refine v_putFR (pc := 94) (a := 207) (r := some 217) O hi hlm gf_X12_21 rfl rfl rfl rfl fl_X12_45 (kn_lt (n := 221) (a := 207) (by decide) rfl) dX12_init_94 ?_
  refine v_aload_n (pc := 97) O dX12_init_97 0 rfl ?_
  refine v_sipush (pc := 98) O dX12_init_98 sp_128 ?_
  refine v_newaI (pc := 101) (a := 218) (N := 128) (by decide) O hT ac_int (by decide) rfl (Nat.le_of_ble_eq_true rfl) rfl rfl (Nat.le_of_ble_eq_true rfl) (Nat.le_of_ble_eq_true rfl) dX12_init_101 ?_
  show V X _ 222 (An nu 222 43 14910) _ 103 _ _
  refine v_putFR (pc := 103) (a := 207) (r := some 218) O hi hlm gf_X12_22 rfl rfl rfl rfl fl_X12_48 (kn_lt (n := 222) (a := 207) (by decide) rfl) dX12_init_103 ?_
  refine v_aload_n (pc := 106) O dX12_init_106 0 rfl ?_
  refine v_sipush (pc := 107) O dX12_init_107 sp_128 ?_
  refine v_newaI (pc := 110) (a := 219) (N := 128) (by decide) O hT ac_int (by decide) rfl (Nat.le_of_ble_eq_true rfl) rfl rfl (Nat.le_of_ble_eq_true rfl) (Nat.le_of_ble_eq_true rfl) dX12_init_110 ?_
  show V X _ 223 (An nu 223 42 14782) _ 112 _ _
  refine v_putFR (pc := 112) (a := 207) (r := some 219) O hi hlm gf_X12_23 rfl rfl rfl rfl fl_X12_51 (kn_lt (n := 223) (a := 207) (by decide) rfl) dX12_init_112 ?_
  refine v_aload_n (pc := 115) O dX12_init_115 0 rfl ?_
  refine v_sipush (pc := 116) O dX12_init_116 sp_128 ?_
  refine v_newaI (pc := 119) (a := 220) (N := 128) (by decide) O hT ac_int (by decide) rfl (Nat.le_of_ble_eq_true rfl) rfl rfl (Nat.le_of_ble_eq_true rfl) (Nat.le_of_ble_eq_true rfl) dX12_init_119 ?_
  show V X _ 224 (An nu 224 41 14654) _ 121 _ _
  refine v_putFR (pc := 121) (a := 207) (r := some 220) O hi hlm gf_X12_24 rfl rfl rfl rfl fl_X12_54 (kn_lt (n := 224) (a := 207) (by decide) rfl) dX12_init_121 ?_
  refine v_aload_n (pc := 124) O dX12_init_124 0 rfl ?_
  refine v_sipush (pc := 125) O dX12_init_125 sp_128 ?_
  refine v_newaI (pc := 128) (a := 221) (N := 128) (by decide) O hT ac_int (by decide) rfl (Nat.le_of_ble_eq_true rfl) rfl rfl (Nat.le_of_ble_eq_true rfl) (Nat.le_of_ble_eq_true rfl) dX12_init_128 ?_
  show V X _ 225 (An nu 225 40 14526) _ 130 _ _
  refine v_putFR (pc := 130) (a := 207) (r := some 221) O hi hlm gf_X12_25 rfl rfl rfl rfl fl_X12_57 (kn_lt (n := 225) (a := 207) (by decide) rfl) dX12_init_130 ?_
  refine v_aload_n (pc := 133) O dX12_init_133 0 rfl ?_
  refine v_sipush (pc := 134) O dX12_init_134 sp_128 ?_
  refine v_newaI (pc := 137) (a := 222) (N := 128) (by decide) O hT ac_int (by decide) rfl (Nat.le_of_ble_eq_true rfl) rfl rfl (Nat.le_of_ble_eq_true rfl) (Nat.le_of_ble_eq_true rfl) dX12_init_137 ?_
  show V X _ 226 (An nu 226 39 14398) _ 139 _ _
  refine v_putFR (pc := 139) (a := 207) (r := some 222) O hi hlm gf_X12_26 rfl rfl rfl rfl fl_X12_60 (kn_lt (n := 226) (a := 207) (by decide) rfl) dX12_init_139 ?_
  refine v_aload_n (pc := 142) O dX12_init_142 0 rfl ?_
  refine v_sipush (pc := 143) O dX12_init_143 sp_128 ?_
  refine v_newaI (pc := 146) (a := 223) (N := 128) (by decide) O hT ac_int (by decide) rfl (Nat.le_of_ble_eq_true rfl) rfl rfl (Nat.le_of_ble_eq_true rfl) (Nat.le_of_ble_eq_true rfl) dX12_init_146 ?_
  show V X _ 227 (An nu 227 38 14270) _ 148 _ _
  refine v_putFR (pc := 148) (a := 207) (r := some 223) O hi hlm gf_X12_27 rfl rfl rfl rfl fl_X12_63 (kn_lt (n := 227) (a := 207) (by decide) rfl) dX12_init_148 ?_
  refine v_aload_n (pc := 151) O dX12_init_151 0 rfl ?_
  refine v_sipush (pc := 152) O dX12_init_152 sp_128 ?_
  refine v_newaI (pc := 155) (a := 224) (N := 128) (by decide) O hT ac_int (by decide) rfl (Nat.le_of_ble_eq_true rfl) rfl rfl (Nat.le_of_ble_eq_true rfl) (Nat.le_of_ble_eq_true rfl) dX12_init_155 ?_
  show V X _ 228 (An nu 228 37 14142) _ 157 _ _
  refine v_putFR (pc := 157) (a := 207) (r := some 224) O hi hlm gf_X12_28 rfl rfl rfl rfl fl_X12_66 (kn_lt (n := 228) (a := 207) (by decide) rfl) dX12_init_157 ?_
  refine v_aload_n (pc := 160) O dX12_init_160 0 rfl ?_
  refine v_sipush (pc := 161) O dX12_init_161 sp_520 ?_
  refine v_newaI (pc := 164) (a := 225) (N := 520) (by decide) O hT ac_int (by decide) rfl (Nat.le_of_ble_eq_true rfl) rfl rfl (Nat.le_of_ble_eq_true rfl) (Nat.le_of_ble_eq_true rfl) dX12_init_164 ?_
  show V X _ 229 (An nu 229 36 13622) _ 166 _ _
  refine v_putFR (pc := 166) (a := 207) (r := some 225) O hi hlm gf_X12_29 rfl rfl rfl rfl fl_X12_69 (kn_lt (n := 229) (a := 207) (by decide) rfl) dX12_init_166 ?_
  refine v_aload_n (pc := 169) O dX12_init_169 0 rfl ?_
  refine v_sipush (pc := 170) O dX12_init_170 sp_520 ?_
  refine v_newaI (pc := 173) (a := 226) (N := 520) (by decide) O hT ac_int (by decide) rfl (Nat.le_of_ble_eq_true rfl) rfl rfl (Nat.le_of_ble_eq_true rfl) (Nat.le_of_ble_eq_true rfl) dX12_init_173 ?_
  show V X _ 230 (An nu 230 35 13102) _ 175 _ _
  refine v_putFR (pc := 175) (a := 207) (r := some 226) O hi hlm gf_X12_30 rfl rfl rfl rfl fl_X12_72 (kn_lt (n := 230) (a := 207) (by decide) rfl) dX12_init_175 ?_
  refine v_aload_n (pc := 178) O dX12_init_178 0 rfl ?_
  refine v_bipush (pc := 179) O dX12_init_179 bp_52 ?_
  refine v_newaI (pc := 181) (a := 227) (N := 52) (by decide) O hT ac_int (by decide) rfl (Nat.le_of_ble_eq_true rfl) rfl rfl (Nat.le_of_ble_eq_true rfl) (Nat.le_of_ble_eq_true rfl) dX12_init_181 ?_
  show V X _ 231 (An nu 231 34 13050) _ 183 _ _
  refine v_putFR (pc := 183) (a := 207) (r := some 227) O hi hlm gf_X12_31 rfl rfl rfl rfl fl_X12_75 (kn_lt (n := 231) (a := 207) (by decide) rfl) dX12_init_183 ?_
  refine v_aload_n (pc := 186) O dX12_init_186 0 rfl ?_
  refine v_iconst (pc := 187) O dX12_init_187 ic_2 ?_
  refine v_newaI (pc := 188) (a := 228) (N := 2) (by decide) O hT ac_int (by decide) rfl (Nat.le_of_ble_eq_true rfl) rfl rfl (Nat.le_of_ble_eq_true rfl) (Nat.le_of_ble_eq_true rfl) dX12_init_188 ?_
  show V X _ 232 (An nu 232 33 13048) _ 190 _ _
  refine v_putFR (pc := 190) (a := 207) (r := some 228) O hi hlm gf_X12_32 rfl rfl rfl rfl fl_X12_78 (kn_lt (n := 232) (a := 207) (by decide) rfl) dX12_init_190 ?_
  refine v_aload_n (pc := 193) O dX12_init_193 0 rfl ?_
  refine v_bipush (pc := 194) O dX12_init_194 bp_26 ?_
  refine v_newaI (pc := 196) (a := 229) (N := 26) (by decide) O hT ac_int (by decide) rfl (Nat.le_of_ble_eq_true rfl) rfl rfl (Nat.le_of_ble_eq_true rfl) (Nat.le_of_ble_eq_true rfl) dX12_init_196 ?_
  show V X _ 233 (An nu 233 32 13022) _ 198 _ _
  refine v_putFR (pc := 198) (a := 207) (r := some 229) O hi hlm gf_X12_42 rfl rfl rfl rfl fl_X12_81 (kn_lt (n := 233) (a := 207) (by decide) rfl) dX12_init_198 ?_
  refine v_aload_n (pc := 201) O dX12_init_201 0 rfl ?_
  refine v_bipush (pc := 202) O dX12_init_202 bp_26 ?_
  refine v_newaI (pc := 204) (a := 230) (N := 26) (by decide) O hT ac_int (by decide) rfl (Nat.le_of_ble_eq_true rfl) rfl rfl (Nat.le_of_ble_eq_true rfl) (Nat.le_of_ble_eq_true rfl) dX12_init_204 ?_
  show V X _ 234 (An nu 234 31 12996) _ 206 _ _
  refine v_putFR (pc := 206) (a := 207) (r := some 230) O hi hlm gf_X12_43 rfl rfl rfl rfl fl_X12_84 (kn_lt (n := 234) (a := 207) (by decide) rfl) dX12_init_206 ?_
  refine v_aload_n (pc := 209) O dX12_init_209 0 rfl ?_
  refine v_bipush (pc := 210) O dX12_init_210 bp_10 ?_
  refine v_newaI (pc := 212) (a := 231) (N := 10) (by decide) O hT ac_int (by decide) rfl (Nat.le_of_ble_eq_true rfl) rfl rfl (Nat.le_of_ble_eq_true rfl) (Nat.le_of_ble_eq_true rfl) dX12_init_212 ?_
  show V X _ 235 (An nu 235 30 12986) _ 214 _ _
  refine v_putFR (pc := 214) (a := 207) (r := some 231) O hi hlm gf_X12_45 rfl rfl rfl rfl fl_X12_87 (kn_lt (n := 235) (a := 207) (by decide) rfl) dX12_init_214 ?_
  refine v_aload_n (pc := 217) O dX12_init_217 0 rfl ?_
  refine v_bipush (pc := 218) O dX12_init_218 bp_10 ?_
  refine v_newaI (pc := 220) (a := 232) (N := 10) (by decide) O hT ac_int (by decide) rfl (Nat.le_of_ble_eq_true rfl) rfl rfl (Nat.le_of_ble_eq_true rfl) (Nat.le_of_ble_eq_true rfl) dX12_init_220 ?_
  show V X _ 236 (An nu 236 29 12976) _ 222 _ _
  refine v_putFR (pc := 222) (a := 207) (r := some 232) O hi hlm gf_X12_46 rfl rfl rfl rfl fl_X12_90 (kn_lt (n := 236) (a := 207) (by decide) rfl) dX12_init_222 ?_
  refine v_aload_n (pc := 225) O dX12_init_225 0 rfl ?_
  refine v_bipush (pc := 226) O dX12_init_226 bp_10 ?_
  refine v_newaI (pc := 228) (a := 233) (N := 10) (by decide) O hT ac_int (by decide) rfl (Nat.le_of_ble_eq_true rfl) rfl rfl (Nat.le_of_ble_eq_true rfl) (Nat.le_of_ble_eq_true rfl) dX12_init_228 ?_
  show V X _ 237 (An nu 237 28 12966) _ 230 _ _
  refine v_putFR (pc := 230) (a := 207) (r := some 233) O hi hlm gf_X12_47 rfl rfl rfl rfl fl_X12_93 (kn_lt (n := 237) (a := 207) (by decide) rfl) dX12_init_230 ?_
  refine v_aload_n (pc := 233) O dX12_init_233 0 rfl ?_
  refine v_bipush (pc := 234) O dX12_init_234 bp_64 ?_
  refine v_newaI (pc := 236) (a := 234) (N := 64) (by decide) O hT ac_int (by decide) rfl (Nat.le_of_ble_eq_true rfl) rfl rfl (Nat.le_of_ble_eq_true rfl) (Nat.le_of_ble_eq_true rfl) dX12_init_236 ?_
  show V X _ 238 (An nu 238 27 12902) _ 238 _ _
  refine v_putFR (pc := 238) (a := 207) (r := some 234) O hi hlm gf_X12_49 rfl rfl rfl rfl fl_X12_96 (kn_lt (n := 238) (a := 207) (by decide) rfl) dX12_init_238 ?_
  refine v_aload_n (pc := 241) O dX12_init_241 0 rfl ?_
  refine v_bipush (pc := 242) O dX12_init_242 bp_64 ?_
  refine v_newaI (pc := 244) (a := 235) (N := 64) (by decide) O hT ac_int (by decide) rfl (Nat.le_of_ble_eq_true rfl) rfl rfl (Nat.le_of_ble_eq_true rfl) (Nat.le_of_ble_eq_true rfl) dX12_init_244 ?_
  show V X _ 239 (An nu 239 26 12838) _ 246 _ _
  refine v_putFR (pc := 246) (a := 207) (r := some 235) O hi hlm gf_X12_50 rfl rfl rfl rfl fl_X12_99 (kn_lt (n := 239) (a := 207) (by decide) rfl) dX12_init_246 ?_
  refine v_aload_n (pc := 249) O dX12_init_249 0 rfl ?_
  refine v_bipush (pc := 250) O dX12_init_250 bp_10 ?_
  refine v_newaZ (pc := 252) (a := 236) (N := 10) (by decide) O hT ac_boolean (by decide) rfl (Nat.le_of_ble_eq_true rfl) rfl rfl (Nat.le_of_ble_eq_true rfl) (Nat.le_of_ble_eq_true rfl) dX12_init_252 ?_
  show V X _ 240 (An nu 240 25 12828) _ 254 _ _
  refine v_putFR (pc := 254) (a := 207) (r := some 236) O hi hlm gf_X12_52 rfl rfl rfl rfl fl_X12_102 (kn_lt (n := 240) (a := 207) (by decide) rfl) dX12_init_254 ?_
  refine v_aload_n (pc := 257) O dX12_init_257 0 rfl ?_
  refine v_bipush (pc := 258) O dX12_init_258 bp_26 ?_
  refine v_newaI (pc := 260) (a := 237) (N := 26) (by decide) O hT ac_int (by decide) rfl (Nat.le_of_ble_eq_true rfl) rfl rfl (Nat.le_of_ble_eq_true rfl) (Nat.le_of_ble_eq_true rfl) dX12_init_260 ?_
  show V X _ 241 (An nu 241 24 12802) _ 262 _ _
  refine v_putFR (pc := 262) (a := 207) (r := some 237) O hi hlm gf_X12_53 rfl rfl rfl rfl fl_X12_105 (kn_lt (n := 241) (a := 207) (by decide) rfl) dX12_init_262 ?_
  refine v_aload_n (pc := 265) O dX12_init_265 0 rfl ?_
  refine v_sipush (pc := 266) O dX12_init_266 sp_300 ?_
  refine v_newaI (pc := 269) (a := 238) (N := 300) (by decide) O hT ac_int (by decide) rfl (Nat.le_of_ble_eq_true rfl) rfl rfl (Nat.le_of_ble_eq_true rfl) (Nat.le_of_ble_eq_true rfl) dX12_init_269 ?_
  show V X _ 242 (An nu 242 23 12502) _ 271 _ _
  refine v_putFR (pc := 271) (a := 207) (r := some 238) O hi hlm gf_X12_57 rfl rfl rfl rfl fl_X12_108 (kn_lt (n := 242) (a := 207) (by decide) rfl) dX12_init_271 ?_
  refine v_aload_n (pc := 274) O dX12_init_274 0 rfl ?_
  refine v_sipush (pc := 275) O dX12_init_275 sp_300 ?_
  refine v_newaI (pc := 278) (a := 239) (N := 300) (by decide) O hT ac_int (by decide) rfl (Nat.le_of_ble_eq_true rfl) rfl rfl (Nat.le_of_ble_eq_true rfl) (Nat.le_of_ble_eq_true rfl) dX12_init_278 ?_
  show V X _ 243 (An nu 243 22 12202) _ 280 _ _
  refine v_putFR (pc := 280) (a := 207) (r := some 239) O hi hlm gf_X12_58 rfl rfl rfl rfl fl_X12_111 (kn_lt (n := 243) (a := 207) (by decide) rfl) dX12_init_280 ?_
  refine v_aload_n (pc := 283) O dX12_init_283 0 rfl ?_
  refine v_sipush (pc := 284) O dX12_init_284 sp_300 ?_
  refine v_newaI (pc := 287) (a := 240) (N := 300) (by decide) O hT ac_int (by decide) rfl (Nat.le_of_ble_eq_true rfl) rfl rfl (Nat.le_of_ble_eq_true rfl) (Nat.le_of_ble_eq_true rfl) dX12_init_287 ?_
  show V X _ 244 (An nu 244 21 11902) _ 289 _ _
  refine v_putFR (pc := 289) (a := 207) (r := some 240) O hi hlm gf_X12_59 rfl rfl rfl rfl fl_X12_114 (kn_lt (n := 244) (a := 207) (by decide) rfl) dX12_init_289 ?_
  refine v_aload_n (pc := 292) O dX12_init_292 0 rfl ?_
  refine v_sipush (pc := 293) O dX12_init_293 sp_2600 ?_
  refine v_newaI (pc := 296) (a := 241) (N := 2600) (by decide) O hT ac_int (by decide) rfl (Nat.le_of_ble_eq_true rfl) rfl rfl (Nat.le_of_ble_eq_true rfl) (Nat.le_of_ble_eq_true rfl) dX12_init_296 ?_
  show V X _ 245 (An nu 245 20 9302) _ 298 _ _
  refine v_putFR (pc := 298) (a := 207) (r := some 241) O hi hlm gf_X12_60 rfl rfl rfl rfl fl_X12_117 (kn_lt (n := 245) (a := 207) (by decide) rfl) dX12_init_298 ?_
  refine v_aload_n (pc := 301) O dX12_init_301 0 rfl ?_
  refine v_bipush (pc := 302) O dX12_init_302 bp_65 ?_
  refine v_newaI (pc := 304) (a := 242) (N := 65) (by decide) O hT ac_int (by decide) rfl (Nat.le_of_ble_eq_true rfl) rfl rfl (Nat.le_of_ble_eq_true rfl) (Nat.le_of_ble_eq_true rfl) dX12_init_304 ?_
  show V X _ 246 (An nu 246 19 9237) _ 306 _ _
  refine v_putFR (pc := 306) (a := 207) (r := some 242) O hi hlm gf_X12_62 rfl rfl rfl rfl fl_X12_120 (kn_lt (n := 246) (a := 207) (by decide) rfl) dX12_init_306 ?_
  refine v_aload_n (pc := 309) O dX12_init_309 0 rfl ?_
  refine v_bipush (pc := 310) O dX12_init_310 bp_65 ?_
  refine v_newaI (pc := 312) (a := 243) (N := 65) (by decide) O hT ac_int (by decide) rfl (Nat.le_of_ble_eq_true rfl) rfl rfl (Nat.le_of_ble_eq_true rfl) (Nat.le_of_ble_eq_true rfl) dX12_init_312 ?_
  show V X _ 247 (An nu 247 18 9172) _ 314 _ _
  refine v_putFR (pc := 314) (a := 207) (r := some 243) O hi hlm gf_X12_63 rfl rfl rfl rfl fl_X12_123 (kn_lt (n := 247) (a := 207) (by decide) rfl) dX12_init_314 ?_
  refine v_aload_n (pc := 317) O dX12_init_317 0 rfl ?_
  refine v_sipush (pc := 318) O dX12_init_318 sp_300 ?_
  refine v_newaI (pc := 321) (a := 244) (N := 300) (by decide) O hT ac_int (by decide) rfl (Nat.le_of_ble_eq_true rfl) rfl rfl (Nat.le_of_ble_eq_true rfl) (Nat.le_of_ble_eq_true rfl) dX12_init_321 ?_
  show V X _ 248 (An nu 248 17 8872) _ 323 _ _
  refine v_putFR (pc := 323) (a := 207) (r := some 244) O hi hlm gf_X12_64 rfl rfl rfl rfl fl_X12_126 (kn_lt (n := 248) (a := 207) (by decide) rfl) dX12_init_323 ?_
  refine v_aload_n (pc := 326) O dX12_init_326 0 rfl ?_
  refine v_bipush (pc := 327) O dX12_init_327 bp_64 ?_
  refine v_newaI (pc := 329) (a := 245) (N := 64) (by decide) O hT ac_int (by decide) rfl (Nat.le_of_ble_eq_true rfl) rfl rfl (Nat.le_of_ble_eq_true rfl) (Nat.le_of_ble_eq_true rfl) dX12_init_329 ?_
  show V X _ 249 (An nu 249 16 8808) _ 331 _ _
  refine v_putFR (pc := 331) (a := 207) (r := some 245) O hi hlm gf_X12_65 rfl rfl rfl rfl fl_X12_129 (kn_lt (n := 249) (a := 207) (by decide) rfl) dX12_init_331 ?_
  refine v_aload_n (pc := 334) O dX12_init_334 0 rfl ?_
  refine v_bipush (pc := 335) O dX12_init_335 bp_64 ?_
  refine v_newaZ (pc := 337) (a := 246) (N := 64) (by decide) O hT ac_boolean (by decide) rfl (Nat.le_of_ble_eq_true rfl) rfl rfl (Nat.le_of_ble_eq_true rfl) (Nat.le_of_ble_eq_true rfl) dX12_init_337 ?_
  show V X _ 250 (An nu 250 15 8744) _ 339 _ _
  refine v_putFR (pc := 339) (a := 207) (r := some 246) O hi hlm gf_X12_66 rfl rfl rfl rfl fl_X12_132 (kn_lt (n := 250) (a := 207) (by decide) rfl) dX12_init_339 ?_
  refine v_aload_n (pc := 342) O dX12_init_342 0 rfl ?_
  refine v_bipush (pc := 343) O dX12_init_343 bp_64 ?_
  refine v_newaI (pc := 345) (a := 247) (N := 64) (by decide) O hT ac_int (by decide) rfl (Nat.le_of_ble_eq_true rfl) rfl rfl (Nat.le_of_ble_eq_true rfl) (Nat.le_of_ble_eq_true rfl) dX12_init_345 ?_
  show V X _ 251 (An nu 251 14 8680) _ 347 _ _
  refine v_putFR (pc := 347) (a := 207) (r := some 247) O hi hlm gf_X12_67 rfl rfl rfl rfl fl_X12_135 (kn_lt (n := 251) (a := 207) (by decide) rfl) dX12_init_347 ?_
  refine v_aload_n (pc := 350) O dX12_init_350 0 rfl ?_
  refine v_sipush (pc := 351) O dX12_init_351 sp_4096 ?_
  refine v_newaZ (pc := 354) (a := 248) (N := 4096) (by decide) O hT ac_boolean (by decide) rfl (Nat.le_of_ble_eq_true rfl) rfl rfl (Nat.le_of_ble_eq_true rfl) (Nat.le_of_ble_eq_true rfl) dX12_init_354 ?_
  show V X _ 252 (An nu 252 13 4584) _ 356 _ _
  refine v_putFR (pc := 356) (a := 207) (r := some 248) O hi hlm gf_X12_68 rfl rfl rfl rfl fl_X12_138 (kn_lt (n := 252) (a := 207) (by decide) rfl) dX12_init_356 ?_
  refine v_aload_n (pc := 359) O dX12_init_359 0 rfl ?_
  refine v_bipush (pc := 360) O dX12_init_360 bp_64 ?_
  refine v_newaI (pc := 362) (a := 249) (N := 64) (by decide) O hT ac_int (by decide) rfl (Nat.le_of_ble_eq_true rfl) rfl rfl (Nat.le_of_ble_eq_true rfl) (Nat.le_of_ble_eq_true rfl) dX12_init_362 ?_
  show V X _ 253 (An nu 253 12 4520) _ 364 _ _
  refine v_putFR (pc := 364) (a := 207) (r := some 249) O hi hlm gf_X12_69 rfl rfl rfl rfl fl_X12_141 (kn_lt (n := 253) (a := 207) (by decide) rfl) dX12_init_364 ?_
  refine v_aload_n (pc := 367) O dX12_init_367 0 rfl ?_
  refine v_sipush (pc := 368) O dX12_init_368 sp_3584 ?_
  refine v_newaI (pc := 371) (a := 250) (N := 3584) (by decide) O hT ac_int (by decide) rfl (Nat.le_of_ble_eq_true rfl) rfl rfl (Nat.le_of_ble_eq_true rfl) (Nat.le_of_ble_eq_true rfl) dX12_init_371 ?_
  show V X _ 254 (An nu 254 11 936) _ 373 _ _
  refine v_putFR (pc := 373) (a := 207) (r := some 250) O hi hlm gf_X12_70 rfl rfl rfl rfl fl_X12_144 (kn_lt (n := 254) (a := 207) (by decide) rfl) dX12_init_373 ?_
  refine v_aload_n (pc := 376) O dX12_init_376 0 rfl ?_
  refine v_bipush (pc := 377) O dX12_init_377 bp_56 ?_
  refine v_newaI (pc := 379) (a := 251) (N := 56) (by decide) O hT ac_int (by decide) rfl (Nat.le_of_ble_eq_true rfl) rfl rfl (Nat.le_of_ble_eq_true rfl) (Nat.le_of_ble_eq_true rfl) dX12_init_379 ?_
  show V X _ 255 (An nu 255 10 880) _ 381 _ _
  refine v_putFR (pc := 381) (a := 207) (r := some 251) O hi hlm gf_X12_71 rfl rfl rfl rfl fl_X12_147 (kn_lt (n := 255) (a := 207) (by decide) rfl) dX12_init_381 ?_
  refine v_aload_n (pc := 384) O dX12_init_384 0 rfl ?_
  refine v_bipush (pc := 385) O dX12_init_385 bp_64 ?_
  refine v_newaZ (pc := 387) (a := 252) (N := 64) (by decide) O hT ac_boolean (by decide) rfl (Nat.le_of_ble_eq_true rfl) rfl rfl (Nat.le_of_ble_eq_true rfl) (Nat.le_of_ble_eq_true rfl) dX12_init_387 ?_
  show V X _ 256 (An nu 256 9 816) _ 389 _ _
  refine v_putFR (pc := 389) (a := 207) (r := some 252) O hi hlm gf_X12_72 rfl rfl rfl rfl fl_X12_150 (kn_lt (n := 256) (a := 207) (by decide) rfl) dX12_init_389 ?_
  refine v_aload_n (pc := 392) O dX12_init_392 0 rfl ?_
  refine v_bipush (pc := 393) O dX12_init_393 bp_64 ?_
  refine v_newaZ (pc := 395) (a := 253) (N := 64) (by decide) O hT ac_boolean (by decide) rfl (Nat.le_of_ble_eq_true rfl) rfl rfl (Nat.le_of_ble_eq_true rfl) (Nat.le_of_ble_eq_true rfl) dX12_init_395 ?_
  show V X _ 257 (An nu 257 8 752) _ 397 _ _
  refine v_putFR (pc := 397) (a := 207) (r := some 253) O hi hlm gf_X12_73 rfl rfl rfl rfl fl_X12_153 (kn_lt (n := 257) (a := 207) (by decide) rfl) dX12_init_397 ?_
  refine v_aload_n (pc := 400) O dX12_init_400 0 rfl ?_
  refine v_bipush (pc := 401) O dX12_init_401 bp_120 ?_
  refine v_newaI (pc := 403) (a := 254) (N := 120) (by decide) O hT ac_int (by decide) rfl (Nat.le_of_ble_eq_true rfl) rfl rfl (Nat.le_of_ble_eq_true rfl) (Nat.le_of_ble_eq_true rfl) dX12_init_403 ?_
  show V X _ 258 (An nu 258 7 632) _ 405 _ _
  refine v_putFR (pc := 405) (a := 207) (r := some 254) O hi hlm gf_X12_74 rfl rfl rfl rfl fl_X12_156 (kn_lt (n := 258) (a := 207) (by decide) rfl) dX12_init_405 ?_
  refine v_aload_n (pc := 408) O dX12_init_408 0 rfl ?_
  refine v_bipush (pc := 409) O dX12_init_409 bp_6 ?_
  refine v_newaI (pc := 411) (a := 255) (N := 6) (by decide) O hT ac_int (by decide) rfl (Nat.le_of_ble_eq_true rfl) rfl rfl (Nat.le_of_ble_eq_true rfl) (Nat.le_of_ble_eq_true rfl) dX12_init_411 ?_
  show V X _ 259 (An nu 259 6 626) _ 413 _ _
  refine v_putFR (pc := 413) (a := 207) (r := some 255) O hi hlm gf_X12_75 rfl rfl rfl rfl fl_X12_159 (kn_lt (n := 259) (a := 207) (by decide) rfl) dX12_init_413 ?_
  refine v_aload_n (pc := 416) O dX12_init_416 0 rfl ?_
  refine v_bipush (pc := 417) O dX12_init_417 bp_6 ?_
  refine v_newaI (pc := 419) (a := 256) (N := 6) (by decide) O hT ac_int (by decide) rfl (Nat.le_of_ble_eq_true rfl) rfl rfl (Nat.le_of_ble_eq_true rfl) (Nat.le_of_ble_eq_true rfl) dX12_init_419 ?_
  show V X _ 260 (An nu 260 5 620) _ 421 _ _
  refine v_putFR (pc := 421) (a := 207) (r := some 256) O hi hlm gf_X12_76 rfl rfl rfl rfl fl_X12_162 (kn_lt (n := 260) (a := 207) (by decide) rfl) dX12_init_421 ?_
  refine v_aload_n (pc := 424) O dX12_init_424 0 rfl ?_
  refine v_bipush (pc := 425) O dX12_init_425 bp_120 ?_
  refine v_newaI (pc := 427) (a := 257) (N := 120) (by decide) O hT ac_int (by decide) rfl (Nat.le_of_ble_eq_true rfl) rfl rfl (Nat.le_of_ble_eq_true rfl) (Nat.le_of_ble_eq_true rfl) dX12_init_427 ?_
  show V X _ 261 (An nu 261 4 500) _ 429 _ _
  refine v_putFR (pc := 429) (a := 207) (r := some 257) O hi hlm gf_X12_77 rfl rfl rfl rfl fl_X12_165 (kn_lt (n := 261) (a := 207) (by decide) rfl) dX12_init_429 ?_
  refine v_aload_n (pc := 432) O dX12_init_432 0 rfl ?_
  refine v_bipush (pc := 433) O dX12_init_433 bp_6 ?_
  refine v_newaI (pc := 435) (a := 258) (N := 6) (by decide) O hT ac_int (by decide) rfl (Nat.le_of_ble_eq_true rfl) rfl rfl (Nat.le_of_ble_eq_true rfl) (Nat.le_of_ble_eq_true rfl) dX12_init_435 ?_
  show V X _ 262 (An nu 262 3 494) _ 437 _ _
  refine v_putFR (pc := 437) (a := 207) (r := some 258) O hi hlm gf_X12_78 rfl rfl rfl rfl fl_X12_168 (kn_lt (n := 262) (a := 207) (by decide) rfl) dX12_init_437 ?_
  refine v_aload_n (pc := 440) O dX12_init_440 0 rfl ?_
  refine v_bipush (pc := 441) O dX12_init_441 bp_26 ?_
  refine v_newaI (pc := 443) (a := 259) (N := 26) (by decide) O hT ac_int (by decide) rfl (Nat.le_of_ble_eq_true rfl) rfl rfl (Nat.le_of_ble_eq_true rfl) (Nat.le_of_ble_eq_true rfl) dX12_init_443 ?_
  show V X _ 263 (An nu 263 2 468) _ 445 _ _
  refine v_putFR (pc := 445) (a := 207) (r := some 259) O hi hlm gf_X12_79 rfl rfl rfl rfl fl_X12_171 (kn_lt (n := 263) (a := 207) (by decide) rfl) dX12_init_445 ?_
  refine v_aload_n (pc := 448) O dX12_init_448 0 rfl ?_
  refine v_sipush (pc := 449) O dX12_init_449 sp_208 ?_
  refine v_newaI (pc := 452) (a := 260) (N := 208) (by decide) O hT ac_int (by decide) rfl (Nat.le_of_ble_eq_true rfl) rfl rfl (Nat.le_of_ble_eq_true rfl) (Nat.le_of_ble_eq_true rfl) dX12_init_452 ?_
  show V X _ 264 (An nu 264 1 260) _ 454 _ _
  refine v_putFR (pc := 454) (a := 207) (r := some 260) O hi hlm gf_X12_80 rfl rfl rfl rfl fl_X12_174 (kn_lt (n := 264) (a := 207) (by decide) rfl) dX12_init_454 ?_
  refine v_aload_n (pc := 457) O dX12_init_457 0 rfl ?_
  refine v_sipush (pc := 458) O dX12_init_458 sp_260 ?_
  refine v_newaI (pc := 461) (a := 261) (N := 260) (by decide) O hT ac_int (by decide) rfl (Nat.le_of_ble_eq_true rfl) rfl rfl (Nat.le_of_ble_eq_true rfl) (Nat.le_of_ble_eq_true rfl) dX12_init_461 ?_
  show V X _ 265 (An nu 265 0 0) _ 463 _ _
  refine v_putFR (pc := 463) (a := 207) (r := some 261) O hi hlm gf_X12_81 rfl rfl rfl rfl fl_X12_177 (kn_lt (n := 265) (a := 207) (by decide) rfl) dX12_init_463 ?_
  exact fin)
