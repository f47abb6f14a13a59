theorem cw_X12_must : Cond.code yX12_must cX12_must 4 none ∈ tb := tb_of 2155 (by decide +kernel) (by decide +kernel)
theorem mw_X12_must : MW yX12_must cX12_must 4 none 3 := ⟨cw_X12_must, ini_X12, by decide +kernel⟩
theorem im_X12_must : Cond.instanceMethod yX12_must ∈ tb := tb_of 2154 (by decide +kernel) (by decide +kernel)
theorem se_X12_must : Cond.selects (yX12_must).cls yX12_must yX12_must ∈ tb := tb_of 121 (by decide +kernel) (by decide +kernel)
theorem ml_X12_357 : Cond.methodLink RX12 357 yX12_must ∈ tb := tb_of 2152 (by decide +kernel) (by decide +kernel)
theorem cw_X12_itemsLabel : Cond.code yX12_itemsLabel cX12_itemsLabel 4 (some .int) ∈ tb := tb_of 2143 (by decide +kernel) (by decide +kernel)
theorem mw_X12_itemsLabel : MW yX12_itemsLabel cX12_itemsLabel 4 (some .int) 1 := ⟨cw_X12_itemsLabel, ini_X12, by decide +kernel⟩
theorem im_X12_itemsLabel : Cond.instanceMethod yX12_itemsLabel ∈ tb := tb_of 2142 (by decide +kernel) (by decide +kernel)
theorem se_X12_itemsLabel : Cond.selects (yX12_itemsLabel).cls yX12_itemsLabel yX12_itemsLabel ∈ tb := tb_of 118 (by decide +kernel) (by decide +kernel)
theorem ml_X12_361 : Cond.methodLink RX12 361 yX12_itemsLabel ∈ tb := tb_of 2140 (by decide +kernel) (by decide +kernel)
theorem cw_X12_gets : Cond.code yX12_gets cX12_gets 4 none ∈ tb := tb_of 2151 (by decide +kernel) (by decide +kernel)
theorem mw_X12_gets : MW yX12_gets cX12_gets 4 none 3 := ⟨cw_X12_gets, ini_X12, by decide +kernel⟩
theorem im_X12_gets : Cond.instanceMethod yX12_gets ∈ tb := tb_of 2150 (by decide +kernel) (by decide +kernel)
theorem se_X12_gets : Cond.selects (yX12_gets).cls yX12_gets yX12_gets ∈ tb := tb_of 120 (by decide +kernel) (by decide +kernel)
theorem ml_X12_364 : Cond.methodLink RX12 364 yX12_gets ∈ tb := tb_of 2148 (by decide +kernel) (by decide +kernel)
theorem cw_X12_push : Cond.code yX12_push cX12_push 3 none ∈ tb := tb_of 2159 (by decide +kernel) (by decide +kernel)
theorem mw_X12_push : MW yX12_push cX12_push 3 none 2 := ⟨cw_X12_push, ini_X12, by decide +kernel⟩
theorem im_X12_push : Cond.instanceMethod yX12_push ∈ tb := tb_of 2158 (by decide +kernel) (by decide +kernel)
theorem se_X12_push : Cond.selects (yX12_push).cls yX12_push yX12_push ∈ tb := tb_of 122 (by decide +kernel) (by decide +kernel)
theorem ml_X12_367 : Cond.methodLink RX12 367 yX12_push ∈ tb := tb_of 2156 (by decide +kernel) (by decide +kernel)
theorem fl_X12_370 : Cond.fieldLink RX12 370 RX12 (TX12 56).2.1 (TX12 56).2.2.1 ∈ tb := tb_of 1776 (by decide +kernel) (by decide +kernel)
theorem gf_X12_56 : FI 12 RX12 TX12 85 tyX12 56 0 := ⟨rfl, inb_X12, tyX12_ok, nmX12, by decide, by decide, rfl, rfl, rfl⟩
theorem pf_X12_56 : PI 12 RX12 TX12 85 tyX12 56 0 .int := ⟨gf_X12_56, rfl, rfl⟩
theorem pf_X12_54 : PI 12 RX12 TX12 85 tyX12 54 0 .int := ⟨gf_X12_54, rfl, rfl⟩
theorem fl_X12_117 : Cond.fieldLink RX12 117 RX12 (TX12 60).2.1 (TX12 60).2.2.1 ∈ tb := tb_of 1780 (by decide +kernel) (by decide +kernel)
theorem gf_X12_60 : FI 12 RX12 TX12 85 tyX12 60 3 := ⟨rfl, inb_X12, tyX12_ok, nmX12, by decide, by decide, rfl, rfl, rfl⟩
theorem lk_207_60 : lks 207 60 = some 241 := by decide +kernel
theorem kq_241 {nu c u : Nat} {K : Nat → Nat} : (Ax nu K c u).1 241 = 14 := kd_lt (K := K) (a := 241) (by decide) rfl
theorem lq_241 {nu c u : Nat} {K : Nat → Nat} : (Ax nu K c u).2.1 241 = 2600 := rfl
theorem bp_52 : (Int8.ofInt (52)).toInt32 = (52 : Int32) := by decide
theorem cw_X12_leave : Cond.code yX12_leave cX12_leave 2 (some .int) ∈ tb := tb_of 2167 (by decide +kernel) (by decide +kernel)
theorem mw_X12_leave : MW yX12_leave cX12_leave 2 (some .int) 1 := ⟨cw_X12_leave, ini_X12, by decide +kernel⟩
theorem im_X12_leave : Cond.instanceMethod yX12_leave ∈ tb := tb_of 2166 (by decide +kernel) (by decide +kernel)
theorem se_X12_leave : Cond.selects (yX12_leave).cls yX12_leave yX12_leave ∈ tb := tb_of 124 (by decide +kernel) (by decide +kernel)
theorem ml_X12_373 : Cond.methodLink RX12 373 yX12_leave ∈ tb := tb_of 2164 (by decide +kernel) (by decide +kernel)
def f_X12_gets_b32 (D : Dat) : Option (Dat) :=
  some D
set_option maxHeartbeats 4000000 in
theorem w_X12_gets_b32 {X : Cx} {n nu c u : Nat} {K : Nat → Nat} {z : Dat} (O : Ok X cX12_gets RX12 none 1 23) (hm : wlm (xw X) = true) (hn : xn X = 4) (hz : Z0 X (Ax nu K c u)) (D : Dat) (h : f_X12_gets_b32 D = some z) : V X (Q0 X n (Ax nu K c u) none z) n (Ax nu K c u) D 32 [] [] := by
  unfold f_X12_gets_b32 at h
  obtain rfl := Option.some.inj h
  exact v_ret (pc := 32) O hz dX12_gets_32
def f_X12_gets (x1 : Int32) (x2 : Int32) (x3 : Int32) (D : Dat) : Option (Dat) :=
  if x1 < 0 ∨ 26 ≤ (x1).toNatClampNeg then none else (if (dI D 229 (x1).toNatClampNeg) = 2 then (if x1 < 0 ∨ 26 ≤ (x1).toNatClampNeg then none else ((f_X12_must x2 (dI D 230 (x1).toNatClampNeg) x3 D).bind (fun p5 => f_X12_gets_b32 p5))) else (if x1 < 0 ∨ 26 ≤ (x1).toNatClampNeg then none else (f_X12_gets_b32 (sI D 237 (x1).toNatClampNeg x2))))
set_option maxHeartbeats 4000000 in
theorem w_X12_gets {X : Cx} {n nu c u : Nat} {K : Nat → Nat} {z : Dat} (O : Ok X cX12_gets RX12 none 1 23) (hm : wlm (xw X) = true) (hn : xn X = 4) (hz : Z0 X (Ax nu K c u)) (x1 : Int32) (x2 : Int32) (x3 : Int32) (D : Dat) (h : f_X12_gets x1 x2 x3 D = some z) : V X (Q0 X n (Ax nu K c u) none z) n (Ax nu K c u) D 0 [(0, .ref (bo X + pp 207)), (1, .int x1), (2, .int x2), (3, .int x3)] [] := by
  unfold f_X12_gets at h
  refine v_aload_n (pc := 0) O dX12_gets_0 0 rfl ?_
  refine v_getK (pc := 1) (a := 207) O hm gf_X12_42 fl_X12_81 kq_207 lk_207_42 dX12_gets_1 ?_
  refine v_iload_n (pc := 4) O dX12_gets_4 1 rfl ?_
  obtain ⟨c1, h⟩ := or_none h
  refine v_iald (pc := 5) (a := 229) O kq_229 (inq lq_229 c1) dX12_gets_5 ?_
  refine v_iconst (pc := 6) O dX12_gets_6 ic_2 ?_
  refine v_icmpne (pc := 7) 25 O dX12_gets_7 (by decide) (fun c2 => ?_) (fun c2 => ?_)
  · have h := (if_neg c2).symm.trans h
    refine v_aload_n (pc := 25) O dX12_gets_25 0 rfl ?_
    refine v_getK (pc := 26) (a := 207) O hm gf_X12_53 fl_X12_105 kq_207 lk_207_53 dX12_gets_26 ?_
    refine v_iload_n (pc := 29) O dX12_gets_29 1 rfl ?_
    refine v_iload_n (pc := 30) O dX12_gets_30 2 rfl ?_
    obtain ⟨c3, h⟩ := or_none h
    refine v_iast (pc := 31) (a := 237) O kq_237 (inq lq_237 c3) dX12_gets_31 ?_
    refine v_sub [] rfl ?_
    exact w_X12_gets_b32 O hm hn hz (sI D 237 (x1).toNatClampNeg x2) h
  · have h := (if_pos c2).symm.trans h
    refine v_aload_n (pc := 10) O dX12_gets_10 0 rfl ?_
    refine v_iload_n (pc := 11) O dX12_gets_11 2 rfl ?_
    refine v_aload_n (pc := 12) O dX12_gets_12 0 rfl ?_
    refine v_getK (pc := 13) (a := 207) O hm gf_X12_43 fl_X12_84 kq_207 lk_207_43 dX12_gets_13 ?_
    refine v_iload_n (pc := 16) O dX12_gets_16 1 rfl ?_
    obtain ⟨c4, h⟩ := or_none h
    refine v_iald (pc := 17) (a := 230) O kq_230 (inq lq_230 c4) dX12_gets_17 ?_
    refine v_iload_n (pc := 18) O dX12_gets_18 3 rfl ?_
    obtain ⟨p5, e6, h⟩ := bind_some h
    refine v_callV (pc := 19) (a := 207) (As := [.int x2, .int (dI D 230 (x1).toNatClampNeg), .int x3]) (rest := []) (r := none) (D' := p5) O (bb0 hz) (c_X12_must hm e6) mw_X12_must im_X12_must se_X12_must ml_X12_357 kq_207 (by decide) rfl rfl rfl (by decide) (by decide) (Nat.le_of_ble_eq_true rfl) dX12_gets_19 rfl rfl ?_
    refine v_goto (pc := 22) 32 O dX12_gets_22 (by decide) ?_
    refine v_sub [] rfl ?_
    exact w_X12_gets_b32 O hm hn hz p5 h
theorem c_X12_gets {l : Launch} {w : Wx} {n nu c u : Nat} {K : Nat → Nat} (hm : wlm w = true) {x1 : Int32} {x2 : Int32} {x3 : Int32} {D : Dat} {z : Dat} (h : f_X12_gets x1 x2 x3 D = some z) : C0 l w yX12_gets cX12_gets 4 none 1 23 [.ref (wb w + pp 207), .int x1, .int x2, .int x3] n (Ax nu K c u) D none z :=
  C0.of (by decide) (Nat.le_of_ble_eq_true rfl) (fun X e1 e2 e3 hz O => by
  subst e1
  subst e2
  exact w_X12_gets O hm e3 hz x1 x2 x3 D h)
def f_X12_flowThrough_b247 (N : Nat) : Nat → Int32 → Int32 → Dat → Option (Int32 × Dat)
  | 0, _, _, _ => none
  | g + 1, x1, x3, D => if 26 ≤ x3 then (if x1 < 0 ∨ 128 ≤ (x1).toNatClampNeg then none else ((f_X12_itemsLabel N (dI (sI D 207 56 ((dI D 207 56) + (1 : Int32))) 220 (x1).toNatClampNeg) (sI D 207 56 ((dI D 207 56) + (1 : Int32)))).bind (fun p3 => (f_X12_join (dI (sI D 207 56 ((dI D 207 56) + (1 : Int32))) 207 54) p3.1 p3.2).bind (fun p5 => if x1 < 0 ∨ 128 ≤ (x1).toNatClampNeg then none else (some ((dI (sI p5.2 207 54 p5.1) 222 (x1).toNatClampNeg), (sI p5.2 207 54 p5.1))))))) else (if x3 < 0 ∨ 26 ≤ (x3).toNatClampNeg then none else (if (((52 : Int32) * (dI D 207 56)) + x3) < 0 ∨ 2600 ≤ ((((52 : Int32) * (dI D 207 56)) + x3)).toNatClampNeg then none else ((f_X12_flowThrough_b247 N g) x1 (x3 + 1) (sI D 241 (((52 : Int32) * (dI D 207 56)) + x3).toNatClampNeg (dI D 237 (x3).toNatClampNeg)))))
set_option maxHeartbeats 4000000 in
theorem w_X12_flowThrough_b247 {X : Cx} {n nu c u : Nat} {K : Nat → Nat} {N : Nat} {z : Int32 × Dat} (O : Ok X cX12_flowThrough RX12 (some .int) 2 46) (hm : wlm (xw X) = true) (hn : xn X = 4) (hz : Z0 X (Ax nu K c u)) : ∀ (g : Nat) (x1 : Int32) (x3 : Int32) (D : Dat), f_X12_flowThrough_b247 N g x1 x3 D = some z → V X (Q0 X n (Ax nu K c u) (some (.int z.1)) z.2) n (Ax nu K c u) D 247 [(0, .ref (bo X + pp 207)), (1, .int x1), (3, .int x3)] [] := by
  intro g
  induction g with
  | zero => intro x1 x3 D h; exact absurd h (by simp [f_X12_flowThrough_b247])
  | succ g ih =>
    intro x1 x3 D h
    rw [f_X12_flowThrough_b247] at h
    refine v_iload_n (pc := 247) O dX12_flowThrough_247 2 rfl ?_
    refine v_bipush (pc := 248) O dX12_flowThrough_248 bp_26 ?_
    refine v_icmpge (pc := 250) 279 O dX12_flowThrough_250 (by decide) (fun c1 => ?_) (fun c1 => ?_)
    · have h := (if_pos c1).symm.trans h
      refine v_aload_n (pc := 279) O dX12_flowThrough_279 0 rfl ?_
      refine v_dup (pc := 280) O dX12_flowThrough_280 rfl ?_
      refine v_getI (pc := 281) (a := 207) O gf_X12_56 fl_X12_370 kq_207 dX12_flowThrough_281 ?_
      refine v_iconst (pc := 284) O dX12_flowThrough_284 ic_1 ?_
      refine v_iadd (pc := 285) O dX12_flowThrough_285 ?_
      refine v_putI (pc := 286) (a := 207) O pf_X12_56 fl_X12_370 kq_207 dX12_flowThrough_286 ?_
      refine v_aload_n (pc := 289) O dX12_flowThrough_289 0 rfl ?_
      refine v_aload_n (pc := 290) O dX12_flowThrough_290 0 rfl ?_
      refine v_aload_n (pc := 291) O dX12_flowThrough_291 0 rfl ?_
      refine v_getI (pc := 292) (a := 207) O gf_X12_54 fl_X12_354 kq_207 dX12_flowThrough_292 ?_
      refine v_aload_n (pc := 295) O dX12_flowThrough_295 0 rfl ?_
      refine v_aload_n (pc := 296) O dX12_flowThrough_296 0 rfl ?_
      refine v_getK (pc := 297) (a := 207) O hm gf_X12_24 fl_X12_54 kq_207 lk_207_24 dX12_flowThrough_297 ?_
      refine v_iload_n (pc := 300) O dX12_flowThrough_300 1 rfl ?_
      obtain ⟨c2, h⟩ := or_none h
      refine v_iald (pc := 301) (a := 220) O kq_220 (inq lq_220 c2) dX12_flowThrough_301 ?_
      obtain ⟨p3, e4, h⟩ := bind_some h
      refine v_callV (pc := 302) (a := 207) (As := [.int (dI (sI D 207 56 ((dI D 207 56) + (1 : Int32))) 220 (x1).toNatClampNeg)]) (rest := [.int (dI (sI D 207 56 ((dI D 207 56) + (1 : Int32))) 207 54), .ref (bo X + pp 207), .ref (bo X + pp 207)]) (r := (some (.int p3.1))) (D' := p3.2) O (bb0 hz) (c_X12_itemsLabel hm e4) mw_X12_itemsLabel im_X12_itemsLabel se_X12_itemsLabel ml_X12_361 kq_207 (by decide) rfl rfl rfl (by decide) (by decide) (Nat.le_of_ble_eq_true rfl) dX12_flowThrough_302 rfl rfl ?_
      obtain ⟨p5, e6, h⟩ := bind_some h
      refine v_callV (pc := 305) (a := 207) (As := [.int (dI (sI D 207 56 ((dI D 207 56) + (1 : Int32))) 207 54), .int p3.1]) (rest := [.ref (bo X + pp 207)]) (r := (some (.int p5.1))) (D' := p5.2) O (bb0 hz) (c_X12_join hm e6) mw_X12_join im_X12_join se_X12_join ml_X12_347 kq_207 (by decide) rfl rfl rfl (by decide) (by decide) (Nat.le_of_ble_eq_true rfl) dX12_flowThrough_305 rfl rfl ?_
      refine v_putI (pc := 308) (a := 207) O pf_X12_54 fl_X12_354 kq_207 dX12_flowThrough_308 ?_
      refine v_aload_n (pc := 311) O dX12_flowThrough_311 0 rfl ?_
      refine v_getK (pc := 312) (a := 207) O hm gf_X12_26 fl_X12_60 kq_207 lk_207_26 dX12_flowThrough_312 ?_
      refine v_iload_n (pc := 315) O dX12_flowThrough_315 1 rfl ?_
      obtain ⟨c7, h⟩ := or_none h
      refine v_iald (pc := 316) (a := 222) O kq_222 (inq lq_222 c7) dX12_flowThrough_316 ?_
      obtain rfl := Option.some.inj h
      exact v_iret (pc := 317) O hz dX12_flowThrough_317
    · have h := (if_neg c1).symm.trans h
      refine v_aload_n (pc := 253) O dX12_flowThrough_253 0 rfl ?_
      refine v_getK (pc := 254) (a := 207) O hm gf_X12_60 fl_X12_117 kq_207 lk_207_60 dX12_flowThrough_254 ?_
      refine v_bipush (pc := 257) O dX12_flowThrough_257 bp_52 ?_
      refine v_aload_n (pc := 259) O dX12_flowThrough_259 0 rfl ?_
      refine v_getI (pc := 260) (a := 207) O gf_X12_56 fl_X12_370 kq_207 dX12_flowThrough_260 ?_
      refine v_imul (pc := 263) O dX12_flowThrough_263 ?_
      refine v_iload_n (pc := 264) O dX12_flowThrough_264 2 rfl ?_
      refine v_iadd (pc := 265) O dX12_flowThrough_265 ?_
      refine v_aload_n (pc := 266) O dX12_flowThrough_266 0 rfl ?_
      refine v_getK (pc := 267) (a := 207) O hm gf_X12_53 fl_X12_105 kq_207 lk_207_53 dX12_flowThrough_267 ?_
      refine v_iload_n (pc := 270) O dX12_flowThrough_270 2 rfl ?_
      obtain ⟨c8, h⟩ := or_none h
      refine v_iald (pc := 271) (a := 237) O kq_237 (inq lq_237 c8) dX12_flowThrough_271 ?_
      obtain ⟨c9, h⟩ := or_none h
      refine v_iast (pc := 272) (a := 241) O kq_241 (inq lq_241 c9) dX12_flowThrough_272 ?_
      refine v_iinc (pc := 273) (lv' := [(3, .int (x3 + 1)), (0, .ref (bo X + pp 207)), (1, .int x1)]) O dX12_flowThrough_273 2 rfl (congrArg (fun q => x3 + q) ic_1) (by rw [hn]; decide) rfl ?_
      refine v_goto (pc := 276) 247 O dX12_flowThrough_276 (by decide) ?_
      refine v_sub [1, 2, 0] rfl ?_
      exact ih x1 (x3 + 1) (sI D 241 (((52 : Int32) * (dI D 207 56)) + x3).toNatClampNeg (dI D 237 (x3).toNatClampNeg)) h
def f_X12_flowThrough_b234 (N : Nat) (x1 : Int32) (D : Dat) : Option (Int32 × Dat) :=
  if x1 < 0 ∨ 128 ≤ (x1).toNatClampNeg then none else ((f_X12_push (dI D 216 (x1).toNatClampNeg) x1 D).bind (fun p11 => f_X12_flowThrough_b247 N N x1 0 p11))
set_option maxHeartbeats 4000000 in
theorem w_X12_flowThrough_b234 {X : Cx} {n nu c u : Nat} {K : Nat → Nat} {N : Nat} {z : Int32 × Dat} (O : Ok X cX12_flowThrough RX12 (some .int) 2 46) (hm : wlm (xw X) = true) (hn : xn X = 4) (hz : Z0 X (Ax nu K c u)) (x1 : Int32) (D : Dat) (h : f_X12_flowThrough_b234 N x1 D = some z) : V X (Q0 X n (Ax nu K c u) (some (.int z.1)) z.2) n (Ax nu K c u) D 234 [(0, .ref (bo X + pp 207)), (1, .int x1)] [] := by
  unfold f_X12_flowThrough_b234 at h
  refine v_aload_n (pc := 234) O dX12_flowThrough_234 0 rfl ?_
  refine v_aload_n (pc := 235) O dX12_flowThrough_235 0 rfl ?_
  refine v_getK (pc := 236) (a := 207) O hm gf_X12_20 fl_X12_42 kq_207 lk_207_20 dX12_flowThrough_236 ?_
  refine v_iload_n (pc := 239) O dX12_flowThrough_239 1 rfl ?_
  obtain ⟨c10, h⟩ := or_none h
  refine v_iald (pc := 240) (a := 216) O kq_216 (inq lq_216 c10) dX12_flowThrough_240 ?_
  refine v_iload_n (pc := 241) O dX12_flowThrough_241 1 rfl ?_
  obtain ⟨p11, e12, h⟩ := bind_some h
  refine v_callV (pc := 242) (a := 207) (As := [.int (dI D 216 (x1).toNatClampNeg), .int x1]) (rest := []) (r := none) (D' := p11) O (bb0 hz) (c_X12_push hm e12) mw_X12_push im_X12_push se_X12_push ml_X12_367 kq_207 (by decide) rfl rfl rfl (by decide) (by decide) (Nat.le_of_ble_eq_true rfl) dX12_flowThrough_242 rfl rfl ?_
  refine v_iconst (pc := 245) O dX12_flowThrough_245 ic_0 ?_
  refine v_istore_n (pc := 246) (lv' := [(3, .int 0), (0, .ref (bo X + pp 207)), (1, .int x1)]) O dX12_flowThrough_246 rfl (by rw [hn]; decide) rfl ?_
  refine v_sub [1, 2, 0] rfl ?_
  exact w_X12_flowThrough_b247 O hm hn hz N x1 0 p11 h
def f_X12_flowThrough_b318 (N : Nat) (x1 : Int32) (D : Dat) : Option (Int32 × Dat) :=
  if x1 < 0 ∨ 128 ≤ (x1).toNatClampNeg then none else (some ((dI D 224 (x1).toNatClampNeg), D))
set_option maxHeartbeats 4000000 in
theorem w_X12_flowThrough_b318 {X : Cx} {n nu c u : Nat} {K : Nat → Nat} {N : Nat} {z : Int32 × Dat} (O : Ok X cX12_flowThrough RX12 (some .int) 2 46) (hm : wlm (xw X) = true) (hn : xn X = 4) (hz : Z0 X (Ax nu K c u)) (x1 : Int32) (D : Dat) (h : f_X12_flowThrough_b318 N x1 D = some z) : V X (Q0 X n (Ax nu K c u) (some (.int z.1)) z.2) n (Ax nu K c u) D 318 [(0, .ref (bo X + pp 207)), (1, .int x1)] [] := by
  unfold f_X12_flowThrough_b318 at h
  refine v_aload_n (pc := 318) O dX12_flowThrough_318 0 rfl ?_
  refine v_getK (pc := 319) (a := 207) O hm gf_X12_28 fl_X12_66 kq_207 lk_207_28 dX12_flowThrough_319 ?_
  refine v_iload_n (pc := 322) O dX12_flowThrough_322 1 rfl ?_
  obtain ⟨c13, h⟩ := or_none h
  refine v_iald (pc := 323) (a := 224) O kq_224 (inq lq_224 c13) dX12_flowThrough_323 ?_
  obtain rfl := Option.some.inj h
  exact v_iret (pc := 324) O hz dX12_flowThrough_324
def f_X12_flowThrough (N : Nat) (x1 : Int32) (D : Dat) : Option (Int32 × Dat) :=
  if x1 < 0 ∨ 128 ≤ (x1).toNatClampNeg then none else (if (dI D 216 (x1).toNatClampNeg) = (1 : Int32) then (if x1 < 0 ∨ 128 ≤ (x1).toNatClampNeg then none else (if x1 < 0 ∨ 128 ≤ (x1).toNatClampNeg then none else ((f_X12_itemsLabel N (dI D 221 (x1).toNatClampNeg) D).bind (fun p18 => (f_X12_join (dI D 207 54) p18.1 p18.2).bind (fun p20 => (f_X12_gets (dI D 218 (x1).toNatClampNeg) p20.1 x1 p20.2).bind (fun p22 => f_X12_flowThrough_b318 N x1 p22)))))) else (if (dI D 216 (x1).toNatClampNeg) = (2 : Int32) then (if x1 < 0 ∨ 128 ≤ (x1).toNatClampNeg then none else ((f_X12_itemsLabel N (dI D 220 (x1).toNatClampNeg) D).bind (fun p26 => if x1 < 0 ∨ 128 ≤ (x1).toNatClampNeg then none else ((f_X12_itemsLabel N (dI p26.2 221 (x1).toNatClampNeg) p26.2).bind (fun p29 => (f_X12_join p26.1 p29.1 p29.2).bind (fun p31 => (f_X12_join (dI p31.2 207 54) p31.1 p31.2).bind (fun p33 => if x1 < 0 ∨ 128 ≤ (x1).toNatClampNeg then none else (if (dI p33.2 218 (x1).toNatClampNeg) < 0 ∨ 26 ≤ ((dI p33.2 218 (x1).toNatClampNeg)).toNatClampNeg then none else ((f_X12_must p33.1 (dI p33.2 230 (dI p33.2 218 (x1).toNatClampNeg).toNatClampNeg) x1 p33.2).bind (fun p37 => f_X12_flowThrough_b318 N x1 p37)))))))))) else (if (dI D 216 (x1).toNatClampNeg) = (5 : Int32) then (if x1 < 0 ∨ 128 ≤ (x1).toNatClampNeg then none else ((f_X12_must (dI D 207 54) (dI D 219 (x1).toNatClampNeg) x1 D).bind (fun p41 => if 0 ≤ (dI p41 207 40) then (f_X12_flowThrough_b318 N x1 p41) else (if x1 < 0 ∨ 128 ≤ (x1).toNatClampNeg then none else (if x1 < 0 ∨ 128 ≤ (x1).toNatClampNeg then none else ((f_X12_gets (dI p41 218 (x1).toNatClampNeg) (dI p41 219 (x1).toNatClampNeg) x1 p41).bind (fun p46 => f_X12_flowThrough_b318 N x1 p46))))))) else (if (dI D 216 (x1).toNatClampNeg) = (6 : Int32) then (if x1 < 0 ∨ 128 ≤ (x1).toNatClampNeg then none else ((f_X12_itemsLabel N (dI D 220 (x1).toNatClampNeg) D).bind (fun p50 => (f_X12_join (dI D 207 54) p50.1 p50.2).bind (fun p52 => if x1 < 0 ∨ 128 ≤ (x1).toNatClampNeg then none else ((f_X12_must p52.1 (dI p52.2 219 (x1).toNatClampNeg) x1 p52.2).bind (fun p55 => f_X12_flowThrough_b318 N x1 p55)))))) else (if (dI D 216 (x1).toNatClampNeg) = (7 : Int32) then ((f_X12_push 7 x1 D).bind (fun p58 => if x1 < 0 ∨ 128 ≤ (x1).toNatClampNeg then none else (if (((26 : Int32) * (dI p58 207 35)) + (dI p58 218 (x1).toNatClampNeg)) < 0 ∨ 52 ≤ ((((26 : Int32) * (dI p58 207 35)) + (dI p58 218 (x1).toNatClampNeg))).toNatClampNeg then none else (some ((dI p58 227 (((26 : Int32) * (dI p58 207 35)) + (dI p58 218 (x1).toNatClampNeg)).toNatClampNeg), p58))))) else (f_X12_flowThrough_b234 N x1 D))))))
set_option maxHeartbeats 4000000 in
theorem w_X12_flowThrough {X : Cx} {n nu c u : Nat} {K : Nat → Nat} {N : Nat} {z : Int32 × Dat} (O : Ok X cX12_flowThrough RX12 (some .int) 2 46) (hm : wlm (xw X) = true) (hn : xn X = 4) (hz : Z0 X (Ax nu K c u)) (x1 : Int32) (D : Dat) (h : f_X12_flowThrough N x1 D = some z) : V X (Q0 X n (Ax nu K c u) (some (.int z.1)) z.2) n (Ax nu K c u) D 0 [(0, .ref (bo X + pp 207)), (1, .int x1)] [] := by
  unfold f_X12_flowThrough at h
  refine v_aload_n (pc := 0) O dX12_flowThrough_0 0 rfl ?_
  refine v_getK (pc := 1) (a := 207) O hm gf_X12_20 fl_X12_42 kq_207 lk_207_20 dX12_flowThrough_1 ?_
  refine v_iload_n (pc := 4) O dX12_flowThrough_4 1 rfl ?_
  obtain ⟨c14, h⟩ := or_none h
  refine v_iald (pc := 5) (a := 216) O kq_216 (inq lq_216 c14) dX12_flowThrough_5 ?_
  by_cases c15 : (dI D 216 (x1).toNatClampNeg) = (1 : Int32)
  · have h := (if_pos c15).symm.trans h
    refine v_tableIn (pc := 6) 48 O dX12_flowThrough_6 (by rw [c15]; decide) (by rw [c15]; decide) (by rw [c15]; rfl) (by decide) ?_
    refine v_aload_n (pc := 48) O dX12_flowThrough_48 0 rfl ?_
    refine v_aload_n (pc := 49) O dX12_flowThrough_49 0 rfl ?_
    refine v_getK (pc := 50) (a := 207) O hm gf_X12_22 fl_X12_48 kq_207 lk_207_22 dX12_flowThrough_50 ?_
    refine v_iload_n (pc := 53) O dX12_flowThrough_53 1 rfl ?_
    obtain ⟨c16, h⟩ := or_none h
    refine v_iald (pc := 54) (a := 218) O kq_218 (inq lq_218 c16) dX12_flowThrough_54 ?_
    refine v_aload_n (pc := 55) O dX12_flowThrough_55 0 rfl ?_
    refine v_aload_n (pc := 56) O dX12_flowThrough_56 0 rfl ?_
    refine v_getI (pc := 57) (a := 207) O gf_X12_54 fl_X12_354 kq_207 dX12_flowThrough_57 ?_
    refine v_aload_n (pc := 60) O dX12_flowThrough_60 0 rfl ?_
    refine v_aload_n (pc := 61) O dX12_flowThrough_61 0 rfl ?_
    refine v_getK (pc := 62) (a := 207) O hm gf_X12_25 fl_X12_57 kq_207 lk_207_25 dX12_flowThrough_62 ?_
    refine v_iload_n (pc := 65) O dX12_flowThrough_65 1 rfl ?_
    obtain ⟨c17, h⟩ := or_none h
    refine v_iald (pc := 66) (a := 221) O kq_221 (inq lq_221 c17) dX12_flowThrough_66 ?_
    obtain ⟨p18, e19, h⟩ := bind_some h
    refine v_callV (pc := 67) (a := 207) (As := [.int (dI D 221 (x1).toNatClampNeg)]) (rest := [.int (dI D 207 54), .ref (bo X + pp 207), .int (dI D 218 (x1).toNatClampNeg), .ref (bo X + pp 207)]) (r := (some (.int p18.1))) (D' := p18.2) O (bb0 hz) (c_X12_itemsLabel hm e19) mw_X12_itemsLabel im_X12_itemsLabel se_X12_itemsLabel ml_X12_361 kq_207 (by decide) rfl rfl rfl (by decide) (by decide) (Nat.le_of_ble_eq_true rfl) dX12_flowThrough_67 rfl rfl ?_
    obtain ⟨p20, e21, h⟩ := bind_some h
    refine v_callV (pc := 70) (a := 207) (As := [.int (dI D 207 54), .int p18.1]) (rest := [.int (dI D 218 (x1).toNatClampNeg), .ref (bo X + pp 207)]) (r := (some (.int p20.1))) (D' := p20.2) O (bb0 hz) (c_X12_join hm e21) mw_X12_join im_X12_join se_X12_join ml_X12_347 kq_207 (by decide) rfl rfl rfl (by decide) (by decide) (Nat.le_of_ble_eq_true rfl) dX12_flowThrough_70 rfl rfl ?_
    refine v_iload_n (pc := 73) O dX12_flowThrough_73 1 rfl ?_
    obtain ⟨p22, e23, h⟩ := bind_some h
    refine v_callV (pc := 74) (a := 207) (As := [.int (dI D 218 (x1).toNatClampNeg), .int p20.1, .int x1]) (rest := []) (r := none) (D' := p22) O (bb0 hz) (c_X12_gets hm e23) mw_X12_gets im_X12_gets se_X12_gets ml_X12_364 kq_207 (by decide) rfl rfl rfl (by decide) (by decide) (Nat.le_of_ble_eq_true rfl) dX12_flowThrough_74 rfl rfl ?_
    refine v_goto (pc := 77) 318 O dX12_flowThrough_77 (by decide) ?_
    refine v_sub [0, 1] rfl ?_
    exact w_X12_flowThrough_b318 O hm hn hz x1 p22 h
  · have h := (if_neg c15).symm.trans h
    by_cases c24 : (dI D 216 (x1).toNatClampNeg) = (2 : Int32)
    · have h := (if_pos c24).symm.trans h
      refine v_tableIn (pc := 6) 80 O dX12_flowThrough_6 (by rw [c24]; decide) (by rw [c24]; decide) (by rw [c24]; rfl) (by decide) ?_
      refine v_aload_n (pc := 80) O dX12_flowThrough_80 0 rfl ?_
      refine v_aload_n (pc := 81) O dX12_flowThrough_81 0 rfl ?_
      refine v_aload_n (pc := 82) O dX12_flowThrough_82 0 rfl ?_
      refine v_getK (pc := 83) (a := 207) O hm gf_X12_24 fl_X12_54 kq_207 lk_207_24 dX12_flowThrough_83 ?_
      refine v_iload_n (pc := 86) O dX12_flowThrough_86 1 rfl ?_
      obtain ⟨c25, h⟩ := or_none h
      refine v_iald (pc := 87) (a := 220) O kq_220 (inq lq_220 c25) dX12_flowThrough_87 ?_
      obtain ⟨p26, e27, h⟩ := bind_some h
      refine v_callV (pc := 88) (a := 207) (As := [.int (dI D 220 (x1).toNatClampNeg)]) (rest := [.ref (bo X + pp 207)]) (r := (some (.int p26.1))) (D' := p26.2) O (bb0 hz) (c_X12_itemsLabel hm e27) mw_X12_itemsLabel im_X12_itemsLabel se_X12_itemsLabel ml_X12_361 kq_207 (by decide) rfl rfl rfl (by decide) (by decide) (Nat.le_of_ble_eq_true rfl) dX12_flowThrough_88 rfl rfl ?_
      refine v_aload_n (pc := 91) O dX12_flowThrough_91 0 rfl ?_
      refine v_aload_n (pc := 92) O dX12_flowThrough_92 0 rfl ?_
      refine v_getK (pc := 93) (a := 207) O hm gf_X12_25 fl_X12_57 kq_207 lk_207_25 dX12_flowThrough_93 ?_
      refine v_iload_n (pc := 96) O dX12_flowThrough_96 1 rfl ?_
      obtain ⟨c28, h⟩ := or_none h
      refine v_iald (pc := 97) (a := 221) O kq_221 (inq lq_221 c28) dX12_flowThrough_97 ?_
      obtain ⟨p29, e30, h⟩ := bind_some h
      refine v_callV (pc := 98) (a := 207) (As := [.int (dI p26.2 221 (x1).toNatClampNeg)]) (rest := [.int p26.1, .ref (bo X + pp 207)]) (r := (some (.int p29.1))) (D' := p29.2) O (bb0 hz) (c_X12_itemsLabel hm e30) mw_X12_itemsLabel im_X12_itemsLabel se_X12_itemsLabel ml_X12_361 kq_207 (by decide) rfl rfl rfl (by decide) (by decide) (Nat.le_of_ble_eq_true rfl) dX12_flowThrough_98 rfl rfl ?_
      obtain ⟨p31, e32, h⟩ := bind_some h
      refine v_callV (pc := 101) (a := 207) (As := [.int p26.1, .int p29.1]) (rest := []) (r := (some (.int p31.1))) (D' := p31.2) O (bb0 hz) (c_X12_join hm e32) mw_X12_join im_X12_join se_X12_join ml_X12_347 kq_207 (by decide) rfl rfl rfl (by decide) (by decide) (Nat.le_of_ble_eq_true rfl) dX12_flowThrough_101 rfl rfl ?_
      refine v_istore_n (pc := 104) (lv' := [(2, .int p31.1), (0, .ref (bo X + pp 207)), (1, .int x1)]) O dX12_flowThrough_104 rfl (by rw [hn]; decide) rfl ?_
      refine v_aload_n (pc := 105) O dX12_flowThrough_105 1 rfl ?_
      refine v_aload_n (pc := 106) O dX12_flowThrough_106 1 rfl ?_
      refine v_aload_n (pc := 107) O dX12_flowThrough_107 1 rfl ?_
      refine v_getI (pc := 108) (a := 207) O gf_X12_54 fl_X12_354 kq_207 dX12_flowThrough_108 ?_
      refine v_iload_n (pc := 111) O dX12_flowThrough_111 0 rfl ?_
      obtain ⟨p33, e34, h⟩ := bind_some h
      refine v_callV (pc := 112) (a := 207) (As := [.int (dI p31.2 207 54), .int p31.1]) (rest := [.ref (bo X + pp 207)]) (r := (some (.int p33.1))) (D' := p33.2) O (bb0 hz) (c_X12_join hm e34) mw_X12_join im_X12_join se_X12_join ml_X12_347 kq_207 (by decide) rfl rfl rfl (by decide) (by decide) (Nat.le_of_ble_eq_true rfl) dX12_flowThrough_112 rfl rfl ?_
      refine v_aload_n (pc := 115) O dX12_flowThrough_115 1 rfl ?_
      refine v_getK (pc := 116) (a := 207) O hm gf_X12_43 fl_X12_84 kq_207 lk_207_43 dX12_flowThrough_116 ?_
      refine v_aload_n (pc := 119) O dX12_flowThrough_119 1 rfl ?_
      refine v_getK (pc := 120) (a := 207) O hm gf_X12_22 fl_X12_48 kq_207 lk_207_22 dX12_flowThrough_120 ?_
      refine v_iload_n (pc := 123) O dX12_flowThrough_123 2 rfl ?_
      obtain ⟨c35, h⟩ := or_none h
      refine v_iald (pc := 124) (a := 218) O kq_218 (inq lq_218 c35) dX12_flowThrough_124 ?_
      obtain ⟨c36, h⟩ := or_none h
      refine v_iald (pc := 125) (a := 230) O kq_230 (inq lq_230 c36) dX12_flowThrough_125 ?_
      refine v_iload_n (pc := 126) O dX12_flowThrough_126 2 rfl ?_
      obtain ⟨p37, e38, h⟩ := bind_some h
      refine v_callV (pc := 127) (a := 207) (As := [.int p33.1, .int (dI p33.2 230 (dI p33.2 218 (x1).toNatClampNeg).toNatClampNeg), .int x1]) (rest := []) (r := none) (D' := p37) O (bb0 hz) (c_X12_must hm e38) mw_X12_must im_X12_must se_X12_must ml_X12_357 kq_207 (by decide) rfl rfl rfl (by decide) (by decide) (Nat.le_of_ble_eq_true rfl) dX12_flowThrough_127 rfl rfl ?_
      refine v_goto (pc := 130) 318 O dX12_flowThrough_130 (by decide) ?_
      refine v_sub [1, 2] rfl ?_
      exact w_X12_flowThrough_b318 O hm hn hz x1 p37 h
    · have h := (if_neg c24).symm.trans h
      by_cases c39 : (dI D 216 (x1).toNatClampNeg) = (5 : Int32)
      · have h := (if_pos c39).symm.trans h
        refine v_tableIn (pc := 6) 133 O dX12_flowThrough_6 (by rw [c39]; decide) (by rw [c39]; decide) (by rw [c39]; rfl) (by decide) ?_
        refine v_aload_n (pc := 133) O dX12_flowThrough_133 0 rfl ?_
        refine v_aload_n (pc := 134) O dX12_flowThrough_134 0 rfl ?_
        refine v_getI (pc := 135) (a := 207) O gf_X12_54 fl_X12_354 kq_207 dX12_flowThrough_135 ?_
        refine v_aload_n (pc := 138) O dX12_flowThrough_138 0 rfl ?_
        refine v_getK (pc := 139) (a := 207) O hm gf_X12_23 fl_X12_51 kq_207 lk_207_23 dX12_flowThrough_139 ?_
        refine v_iload_n (pc := 142) O dX12_flowThrough_142 1 rfl ?_
        obtain ⟨c40, h⟩ := or_none h
        refine v_iald (pc := 143) (a := 219) O kq_219 (inq lq_219 c40) dX12_flowThrough_143 ?_
        refine v_iload_n (pc := 144) O dX12_flowThrough_144 1 rfl ?_
        obtain ⟨p41, e42, h⟩ := bind_some h
        refine v_callV (pc := 145) (a := 207) (As := [.int (dI D 207 54), .int (dI D 219 (x1).toNatClampNeg), .int x1]) (rest := []) (r := none) (D' := p41) O (bb0 hz) (c_X12_must hm e42) mw_X12_must im_X12_must se_X12_must ml_X12_357 kq_207 (by decide) rfl rfl rfl (by decide) (by decide) (Nat.le_of_ble_eq_true rfl) dX12_flowThrough_145 rfl rfl ?_
        refine v_aload_n (pc := 148) O dX12_flowThrough_148 0 rfl ?_
        refine v_getI (pc := 149) (a := 207) O gf_X12_40 fl_X12_253 kq_207 dX12_flowThrough_149 ?_
        refine v_ifge (pc := 152) 318 O dX12_flowThrough_152 (by decide) (fun c43 => ?_) (fun c43 => ?_)
        · have h := (if_pos c43).symm.trans h
          refine v_sub [0, 1] rfl ?_
          exact w_X12_flowThrough_b318 O hm hn hz x1 p41 h
        · have h := (if_neg c43).symm.trans h
          refine v_aload_n (pc := 155) O dX12_flowThrough_155 0 rfl ?_
          refine v_aload_n (pc := 156) O dX12_flowThrough_156 0 rfl ?_
          refine v_getK (pc := 157) (a := 207) O hm gf_X12_22 fl_X12_48 kq_207 lk_207_22 dX12_flowThrough_157 ?_
          refine v_iload_n (pc := 160) O dX12_flowThrough_160 1 rfl ?_
          obtain ⟨c44, h⟩ := or_none h
          refine v_iald (pc := 161) (a := 218) O kq_218 (inq lq_218 c44) dX12_flowThrough_161 ?_
          refine v_aload_n (pc := 162) O dX12_flowThrough_162 0 rfl ?_
          refine v_getK (pc := 163) (a := 207) O hm gf_X12_23 fl_X12_51 kq_207 lk_207_23 dX12_flowThrough_163 ?_
          refine v_iload_n (pc := 166) O dX12_flowThrough_166 1 rfl ?_
          obtain ⟨c45, h⟩ := or_none h
          refine v_iald (pc := 167) (a := 219) O kq_219 (inq lq_219 c45) dX12_flowThrough_167 ?_
          refine v_iload_n (pc := 168) O dX12_flowThrough_168 1 rfl ?_
          obtain ⟨p46, e47, h⟩ := bind_some h
          refine v_callV (pc := 169) (a := 207) (As := [.int (dI p41 218 (x1).toNatClampNeg), .int (dI p41 219 (x1).toNatClampNeg), .int x1]) (rest := []) (r := none) (D' := p46) O (bb0 hz) (c_X12_gets hm e47) mw_X12_gets im_X12_gets se_X12_gets ml_X12_364 kq_207 (by decide) rfl rfl rfl (by decide) (by decide) (Nat.le_of_ble_eq_true rfl) dX12_flowThrough_169 rfl rfl ?_
          refine v_goto (pc := 172) 318 O dX12_flowThrough_172 (by decide) ?_
          refine v_sub [0, 1] rfl ?_
          exact w_X12_flowThrough_b318 O hm hn hz x1 p46 h
      · have h := (if_neg c39).symm.trans h
        by_cases c48 : (dI D 216 (x1).toNatClampNeg) = (6 : Int32)
        · have h := (if_pos c48).symm.trans h
          refine v_tableIn (pc := 6) 175 O dX12_flowThrough_6 (by rw [c48]; decide) (by rw [c48]; decide) (by rw [c48]; rfl) (by decide) ?_
          refine v_aload_n (pc := 175) O dX12_flowThrough_175 0 rfl ?_
          refine v_aload_n (pc := 176) O dX12_flowThrough_176 0 rfl ?_
          refine v_aload_n (pc := 177) O dX12_flowThrough_177 0 rfl ?_
          refine v_getI (pc := 178) (a := 207) O gf_X12_54 fl_X12_354 kq_207 dX12_flowThrough_178 ?_
          refine v_aload_n (pc := 181) O dX12_flowThrough_181 0 rfl ?_
          refine v_aload_n (pc := 182) O dX12_flowThrough_182 0 rfl ?_
          refine v_getK (pc := 183) (a := 207) O hm gf_X12_24 fl_X12_54 kq_207 lk_207_24 dX12_flowThrough_183 ?_
          refine v_iload_n (pc := 186) O dX12_flowThrough_186 1 rfl ?_
          obtain ⟨c49, h⟩ := or_none h
          refine v_iald (pc := 187) (a := 220) O kq_220 (inq lq_220 c49) dX12_flowThrough_187 ?_
          obtain ⟨p50, e51, h⟩ := bind_some h
          refine v_callV (pc := 188) (a := 207) (As := [.int (dI D 220 (x1).toNatClampNeg)]) (rest := [.int (dI D 207 54), .ref (bo X + pp 207), .ref (bo X + pp 207)]) (r := (some (.int p50.1))) (D' := p50.2) O (bb0 hz) (c_X12_itemsLabel hm e51) mw_X12_itemsLabel im_X12_itemsLabel se_X12_itemsLabel ml_X12_361 kq_207 (by decide) rfl rfl rfl (by decide) (by decide) (Nat.le_of_ble_eq_true rfl) dX12_flowThrough_188 rfl rfl ?_
          obtain ⟨p52, e53, h⟩ := bind_some h
          refine v_callV (pc := 191) (a := 207) (As := [.int (dI D 207 54), .int p50.1]) (rest := [.ref (bo X + pp 207)]) (r := (some (.int p52.1))) (D' := p52.2) O (bb0 hz) (c_X12_join hm e53) mw_X12_join im_X12_join se_X12_join ml_X12_347 kq_207 (by decide) rfl rfl rfl (by decide) (by decide) (Nat.le_of_ble_eq_true rfl) dX12_flowThrough_191 rfl rfl ?_
          refine v_aload_n (pc := 194) O dX12_flowThrough_194 0 rfl ?_
          refine v_getK (pc := 195) (a := 207) O hm gf_X12_23 fl_X12_51 kq_207 lk_207_23 dX12_flowThrough_195 ?_
          refine v_iload_n (pc := 198) O dX12_flowThrough_198 1 rfl ?_
          obtain ⟨c54, h⟩ := or_none h
          refine v_iald (pc := 199) (a := 219) O kq_219 (inq lq_219 c54) dX12_flowThrough_199 ?_
          refine v_iload_n (pc := 200) O dX12_flowThrough_200 1 rfl ?_
          obtain ⟨p55, e56, h⟩ := bind_some h
          refine v_callV (pc := 201) (a := 207) (As := [.int p52.1, .int (dI p52.2 219 (x1).toNatClampNeg), .int x1]) (rest := []) (r := none) (D' := p55) O (bb0 hz) (c_X12_must hm e56) mw_X12_must im_X12_must se_X12_must ml_X12_357 kq_207 (by decide) rfl rfl rfl (by decide) (by decide) (Nat.le_of_ble_eq_true rfl) dX12_flowThrough_201 rfl rfl ?_
          refine v_goto (pc := 204) 318 O dX12_flowThrough_204 (by decide) ?_
          refine v_sub [0, 1] rfl ?_
          exact w_X12_flowThrough_b318 O hm hn hz x1 p55 h
        · have h := (if_neg c48).symm.trans h
          by_cases c57 : (dI D 216 (x1).toNatClampNeg) = (7 : Int32)
          · have h := (if_pos c57).symm.trans h
            refine v_tableIn (pc := 6) 207 O dX12_flowThrough_6 (by rw [c57]; decide) (by rw [c57]; decide) (by rw [c57]; rfl) (by decide) ?_
            refine v_aload_n (pc := 207) O dX12_flowThrough_207 0 rfl ?_
            refine v_bipush (pc := 208) O dX12_flowThrough_208 bp_7 ?_
            refine v_iload_n (pc := 210) O dX12_flowThrough_210 1 rfl ?_
            obtain ⟨p58, e59, h⟩ := bind_some h
            refine v_callV (pc := 211) (a := 207) (As := [.int 7, .int x1]) (rest := []) (r := none) (D' := p58) O (bb0 hz) (c_X12_push hm e59) mw_X12_push im_X12_push se_X12_push ml_X12_367 kq_207 (by decide) rfl rfl rfl (by decide) (by decide) (Nat.le_of_ble_eq_true rfl) dX12_flowThrough_211 rfl rfl ?_
            refine v_aload_n (pc := 214) O dX12_flowThrough_214 0 rfl ?_
            refine v_getK (pc := 215) (a := 207) O hm gf_X12_31 fl_X12_75 kq_207 lk_207_31 dX12_flowThrough_215 ?_
            refine v_bipush (pc := 218) O dX12_flowThrough_218 bp_26 ?_
            refine v_aload_n (pc := 220) O dX12_flowThrough_220 0 rfl ?_
            refine v_getI (pc := 221) (a := 207) O gf_X12_35 fl_X12_308 kq_207 dX12_flowThrough_221 ?_
            refine v_imul (pc := 224) O dX12_flowThrough_224 ?_
            refine v_aload_n (pc := 225) O dX12_flowThrough_225 0 rfl ?_
            refine v_getK (pc := 226) (a := 207) O hm gf_X12_22 fl_X12_48 kq_207 lk_207_22 dX12_flowThrough_226 ?_
            refine v_iload_n (pc := 229) O dX12_flowThrough_229 1 rfl ?_
            obtain ⟨c60, h⟩ := or_none h
            refine v_iald (pc := 230) (a := 218) O kq_218 (inq lq_218 c60) dX12_flowThrough_230 ?_
            refine v_iadd (pc := 231) O dX12_flowThrough_231 ?_
            obtain ⟨c61, h⟩ := or_none h
            refine v_iald (pc := 232) (a := 227) O kq_227 (inq lq_227 c61) dX12_flowThrough_232 ?_
            obtain rfl := Option.some.inj h
            exact v_iret (pc := 233) O hz dX12_flowThrough_233
          · have h := (if_neg c57).symm.trans h
            refine v_table (pc := 6) 234 O dX12_flowThrough_6 (fun g1 g2 => by
                have c15i := ne_i (1) rfl c15
                have c24i := ne_i (2) rfl c24
                have c39i := ne_i (5) rfl c39
                have c48i := ne_i (6) rfl c48
                have c57i := ne_i (7) rfl c57
                rcases (show (dI D 216 (x1).toNatClampNeg).toInt = 3 ∨ (dI D 216 (x1).toNatClampNeg).toInt = 4 by omega) with e9 | e9 <;> (rw [e9]; exact ⟨_, rfl, by decide⟩)) (by decide) ?_
            refine v_sub [0, 1] rfl ?_
            exact w_X12_flowThrough_b234 O hm hn hz x1 D h
theorem c_X12_flowThrough {l : Launch} {w : Wx} {n nu c u : Nat} {K : Nat → Nat} {N : Nat} (hm : wlm w = true) {x1 : Int32} {D : Dat} {z : Int32 × Dat} (h : f_X12_flowThrough N x1 D = some z) : C0 l w yX12_flowThrough cX12_flowThrough 4 (some .int) 2 46 [.ref (wb w + pp 207), .int x1] n (Ax nu K c u) D (some (.int z.1)) z.2 :=
  C0.of (by decide) (Nat.le_of_ble_eq_true rfl) (fun X e1 e2 e3 hz O => by
  subst e1
  subst e2
  exact w_X12_flowThrough O hm e3 hz x1 D h)
def f_X12_leave_b33 (x1 : Int32) (D : Dat) : Option (Int32 × Dat) :=
  if x1 < 0 ∨ 128 ≤ (x1).toNatClampNeg then none else (some ((dI D 224 (x1).toNatClampNeg), D))
set_option maxHeartbeats 4000000 in
theorem w_X12_leave_b33 {X : Cx} {n nu c u : Nat} {K : Nat → Nat} {z : Int32 × Dat} (O : Ok X cX12_leave RX12 (some .int) 0 0) (hm : wlm (xw X) = true) (hn : xn X = 2) (hz : Z0 X (Ax nu K c u)) (x1 : Int32) (D : Dat) (h : f_X12_leave_b33 x1 D = some z) : V X (Q0 X n (Ax nu K c u) (some (.int z.1)) z.2) n (Ax nu K c u) D 33 [(0, .ref (bo X + pp 207)), (1, .int x1)] [] := by
  unfold f_X12_leave_b33 at h
  refine v_aload_n (pc := 33) O dX12_leave_33 0 rfl ?_
  refine v_getK (pc := 34) (a := 207) O hm gf_X12_28 fl_X12_66 kq_207 lk_207_28 dX12_leave_34 ?_
  refine v_iload_n (pc := 37) O dX12_leave_37 1 rfl ?_
  obtain ⟨c1, h⟩ := or_none h
  refine v_iald (pc := 38) (a := 224) O kq_224 (inq lq_224 c1) dX12_leave_38 ?_
  obtain rfl := Option.some.inj h
  exact v_iret (pc := 39) O hz dX12_leave_39
def f_X12_leave (x1 : Int32) (D : Dat) : Option (Int32 × Dat) :=
  if (dI (sI (sI D 207 55 ((dI D 207 55) - (1 : Int32))) 207 56 ((dI (sI D 207 55 ((dI D 207 55) - (1 : Int32))) 207 56) - (1 : Int32))) 207 55) < 0 ∨ 300 ≤ ((dI (sI (sI D 207 55 ((dI D 207 55) - (1 : Int32))) 207 56 ((dI (sI D 207 55 ((dI D 207 55) - (1 : Int32))) 207 56) - (1 : Int32))) 207 55)).toNatClampNeg then none else (f_X12_leave_b33 x1 (sI (sI (sI D 207 55 ((dI D 207 55) - (1 : Int32))) 207 56 ((dI (sI D 207 55 ((dI D 207 55) - (1 : Int32))) 207 56) - (1 : Int32))) 207 54 (dI (sI (sI D 207 55 ((dI D 207 55) - (1 : Int32))) 207 56 ((dI (sI D 207 55 ((dI D 207 55) - (1 : Int32))) 207 56) - (1 : Int32))) 240 (dI (sI (sI D 207 55 ((dI D 207 55) - (1 : Int32))) 207 56 ((dI (sI D 207 55 ((dI D 207 55) - (1 : Int32))) 207 56) - (1 : Int32))) 207 55).toNatClampNeg)))
set_option maxHeartbeats 4000000 in
theorem w_X12_leave {X : Cx} {n nu c u : Nat} {K : Nat → Nat} {z : Int32 × Dat} (O : Ok X cX12_leave RX12 (some .int) 0 0) (hm : wlm (xw X) = true) (hn : xn X = 2) (hz : Z0 X (Ax nu K c u)) (x1 : Int32) (D : Dat) (h : f_X12_leave x1 D = some z) : V X (Q0 X n (Ax nu K c u) (some (.int z.1)) z.2) n (Ax nu K c u) D 0 [(0, .ref (bo X + pp 207)), (1, .int x1)] [] := by
  unfold f_X12_leave at h
  refine v_aload_n (pc := 0) O dX12_leave_0 0 rfl ?_
  refine v_dup (pc := 1) O dX12_leave_1 rfl ?_
  refine v_getI (pc := 2) (a := 207) O gf_X12_55 fl_X12_351 kq_207 dX12_leave_2 ?_
  refine v_iconst (pc := 5) O dX12_leave_5 ic_1 ?_
  refine v_isub (pc := 6) O dX12_leave_6 ?_
  refine v_putI (pc := 7) (a := 207) O pf_X12_55 fl_X12_351 kq_207 dX12_leave_7 ?_
  refine v_aload_n (pc := 10) O dX12_leave_10 0 rfl ?_
  refine v_dup (pc := 11) O dX12_leave_11 rfl ?_
  refine v_getI (pc := 12) (a := 207) O gf_X12_56 fl_X12_370 kq_207 dX12_leave_12 ?_
  refine v_iconst (pc := 15) O dX12_leave_15 ic_1 ?_
  refine v_isub (pc := 16) O dX12_leave_16 ?_
  refine v_putI (pc := 17) (a := 207) O pf_X12_56 fl_X12_370 kq_207 dX12_leave_17 ?_
  refine v_aload_n (pc := 20) O dX12_leave_20 0 rfl ?_
  refine v_aload_n (pc := 21) O dX12_leave_21 0 rfl ?_
  refine v_getK (pc := 22) (a := 207) O hm gf_X12_59 fl_X12_114 kq_207 lk_207_59 dX12_leave_22 ?_
  refine v_aload_n (pc := 25) O dX12_leave_25 0 rfl ?_
  refine v_getI (pc := 26) (a := 207) O gf_X12_55 fl_X12_351 kq_207 dX12_leave_26 ?_
  obtain ⟨c2, h⟩ := or_none h
  refine v_iald (pc := 29) (a := 240) O kq_240 (inq lq_240 c2) dX12_leave_29 ?_
  refine v_putI (pc := 30) (a := 207) O pf_X12_54 fl_X12_354 kq_207 dX12_leave_30 ?_
  refine v_sub [0, 1] rfl ?_
  exact w_X12_leave_b33 O hm hn hz x1 (sI (sI (sI D 207 55 ((dI D 207 55) - (1 : Int32))) 207 56 ((dI (sI D 207 55 ((dI D 207 55) - (1 : Int32))) 207 56) - (1 : Int32))) 207 54 (dI (sI (sI D 207 55 ((dI D 207 55) - (1 : Int32))) 207 56 ((dI (sI D 207 55 ((dI D 207 55) - (1 : Int32))) 207 56) - (1 : Int32))) 240 (dI (sI (sI D 207 55 ((dI D 207 55) - (1 : Int32))) 207 56 ((dI (sI D 207 55 ((dI D 207 55) - (1 : Int32))) 207 56) - (1 : Int32))) 207 55).toNatClampNeg)) h
theorem c_X12_leave {l : Launch} {w : Wx} {n nu c u : Nat} {K : Nat → Nat} (hm : wlm w = true) {x1 : Int32} {D : Dat} {z : Int32 × Dat} (h : f_X12_leave x1 D = some z) : C0 l w yX12_leave cX12_leave 2 (some .int) 0 0 [.ref (wb w + pp 207), .int x1] n (Ax nu K c u) D (some (.int z.1)) z.2 :=
  C0.of (by decide) (Nat.le_of_ble_eq_true rfl) (fun X e1 e2 e3 hz O => by
  subst e1
  subst e2
  exact w_X12_leave O hm e3 hz x1 D h)
def f_X12_flowBack_b76 (N : Nat) : Nat → Int32 → Int32 → Int32 → Dat → Option (Int32 × Dat)
  | 0, _, _, _, _ => none
  | g + 1, x2, x3, x4, D => if 26 ≤ x4 then (if ((dI D 207 55) - (1 : Int32)) < 0 ∨ 300 ≤ (((dI D 207 55) - (1 : Int32))).toNatClampNeg then none else (if x2 < 0 ∨ 128 ≤ (x2).toNatClampNeg then none else (some ((dI (sI D 238 ((dI D 207 55) - (1 : Int32)).toNatClampNeg 8) 223 (x2).toNatClampNeg), (sI D 238 ((dI D 207 55) - (1 : Int32)).toNatClampNeg 8))))) else (if x4 < 0 ∨ 26 ≤ (x4).toNatClampNeg then none else (if ((x3 + (26 : Int32)) + x4) < 0 ∨ 2600 ≤ (((x3 + (26 : Int32)) + x4)).toNatClampNeg then none else (if (x3 + x4) < 0 ∨ 2600 ≤ ((x3 + x4)).toNatClampNeg then none else (if x4 < 0 ∨ 26 ≤ (x4).toNatClampNeg then none else ((f_X12_flowBack_b76 N g) x2 x3 (x4 + 1) (sI (sI D 241 ((x3 + (26 : Int32)) + x4).toNatClampNeg (dI D 237 (x4).toNatClampNeg)) 237 (x4).toNatClampNeg (dI (sI D 241 ((x3 + (26 : Int32)) + x4).toNatClampNeg (dI D 237 (x4).toNatClampNeg)) 241 (x3 + x4).toNatClampNeg)))))))
set_option maxHeartbeats 4000000 in
theorem w_X12_flowBack_b76 {X : Cx} {n nu c u : Nat} {K : Nat → Nat} {N : Nat} {z : Int32 × Dat} (O : Ok X cX12_flowBack RX12 (some .int) 2 45) (hm : wlm (xw X) = true) (hn : xn X = 7) (hz : Z0 X (Ax nu K c u)) : ∀ (g : Nat) (x2 : Int32) (x3 : Int32) (x4 : Int32) (D : Dat), f_X12_flowBack_b76 N g x2 x3 x4 D = some z → V X (Q0 X n (Ax nu K c u) (some (.int z.1)) z.2) n (Ax nu K c u) D 76 [(0, .ref (bo X + pp 207)), (2, .int x2), (3, .int x3), (4, .int x4)] [] := by
  intro g
  induction g with
  | zero => intro x2 x3 x4 D h; exact absurd h (by simp [f_X12_flowBack_b76])
  | succ g ih =>
    intro x2 x3 x4 D h
    rw [f_X12_flowBack_b76] at h
    refine v_iload (pc := 76) O dX12_flowBack_76 3 rfl ?_
    refine v_bipush (pc := 78) O dX12_flowBack_78 bp_26 ?_
    refine v_icmpge (pc := 80) 124 O dX12_flowBack_80 (by decide) (fun c1 => ?_) (fun c1 => ?_)
    · have h := (if_pos c1).symm.trans h
      refine v_aload_n (pc := 124) O dX12_flowBack_124 0 rfl ?_
      refine v_getK (pc := 125) (a := 207) O hm gf_X12_57 fl_X12_108 kq_207 lk_207_57 dX12_flowBack_125 ?_
      refine v_aload_n (pc := 128) O dX12_flowBack_128 0 rfl ?_
      refine v_getI (pc := 129) (a := 207) O gf_X12_55 fl_X12_351 kq_207 dX12_flowBack_129 ?_
      refine v_iconst (pc := 132) O dX12_flowBack_132 ic_1 ?_
      refine v_isub (pc := 133) O dX12_flowBack_133 ?_
      refine v_bipush (pc := 134) O dX12_flowBack_134 bp_8 ?_
      obtain ⟨c2, h⟩ := or_none h
      refine v_iast (pc := 136) (a := 238) O kq_238 (inq lq_238 c2) dX12_flowBack_136 ?_
      refine v_aload_n (pc := 137) O dX12_flowBack_137 0 rfl ?_
      refine v_getK (pc := 138) (a := 207) O hm gf_X12_27 fl_X12_63 kq_207 lk_207_27 dX12_flowBack_138 ?_
      refine v_iload_n (pc := 141) O dX12_flowBack_141 1 rfl ?_
      obtain ⟨c3, h⟩ := or_none h
      refine v_iald (pc := 142) (a := 223) O kq_223 (inq lq_223 c3) dX12_flowBack_142 ?_
      obtain rfl := Option.some.inj h
      exact v_iret (pc := 143) O hz dX12_flowBack_143
    · have h := (if_neg c1).symm.trans h
      refine v_aload_n (pc := 83) O dX12_flowBack_83 0 rfl ?_
      refine v_getK (pc := 84) (a := 207) O hm gf_X12_60 fl_X12_117 kq_207 lk_207_60 dX12_flowBack_84 ?_
      refine v_iload_n (pc := 87) O dX12_flowBack_87 2 rfl ?_
      refine v_bipush (pc := 88) O dX12_flowBack_88 bp_26 ?_
      refine v_iadd (pc := 90) O dX12_flowBack_90 ?_
      refine v_iload (pc := 91) O dX12_flowBack_91 3 rfl ?_
      refine v_iadd (pc := 93) O dX12_flowBack_93 ?_
      refine v_aload_n (pc := 94) O dX12_flowBack_94 0 rfl ?_
      refine v_getK (pc := 95) (a := 207) O hm gf_X12_53 fl_X12_105 kq_207 lk_207_53 dX12_flowBack_95 ?_
      refine v_iload (pc := 98) O dX12_flowBack_98 3 rfl ?_
      obtain ⟨c4, h⟩ := or_none h
      refine v_iald (pc := 100) (a := 237) O kq_237 (inq lq_237 c4) dX12_flowBack_100 ?_
      obtain ⟨c5, h⟩ := or_none h
      refine v_iast (pc := 101) (a := 241) O kq_241 (inq lq_241 c5) dX12_flowBack_101 ?_
      refine v_aload_n (pc := 102) O dX12_flowBack_102 0 rfl ?_
      refine v_getK (pc := 103) (a := 207) O hm gf_X12_53 fl_X12_105 kq_207 lk_207_53 dX12_flowBack_103 ?_
      refine v_iload (pc := 106) O dX12_flowBack_106 3 rfl ?_
      refine v_aload_n (pc := 108) O dX12_flowBack_108 0 rfl ?_
      refine v_getK (pc := 109) (a := 207) O hm gf_X12_60 fl_X12_117 kq_207 lk_207_60 dX12_flowBack_109 ?_
      refine v_iload_n (pc := 112) O dX12_flowBack_112 2 rfl ?_
      refine v_iload (pc := 113) O dX12_flowBack_113 3 rfl ?_
      refine v_iadd (pc := 115) O dX12_flowBack_115 ?_
      obtain ⟨c6, h⟩ := or_none h
      refine v_iald (pc := 116) (a := 241) O kq_241 (inq lq_241 c6) dX12_flowBack_116 ?_
      obtain ⟨c7, h⟩ := or_none h
      refine v_iast (pc := 117) (a := 237) O kq_237 (inq lq_237 c7) dX12_flowBack_117 ?_
      refine v_iinc (pc := 118) (lv' := [(4, .int (x4 + 1)), (0, .ref (bo X + pp 207)), (2, .int x2), (3, .int x3)]) O dX12_flowBack_118 3 rfl (congrArg (fun q => x4 + q) ic_1) (by rw [hn]; decide) rfl ?_
      refine v_goto (pc := 121) 76 O dX12_flowBack_121 (by decide) ?_
      refine v_sub [1, 2, 3, 0] rfl ?_
      exact ih x2 x3 (x4 + 1) (sI (sI D 241 ((x3 + (26 : Int32)) + x4).toNatClampNeg (dI D 237 (x4).toNatClampNeg)) 237 (x4).toNatClampNeg (dI (sI D 241 ((x3 + (26 : Int32)) + x4).toNatClampNeg (dI D 237 (x4).toNatClampNeg)) 241 (x3 + x4).toNatClampNeg)) h
def f_X12_flowBack_b240 (N : Nat) (x2 : Int32) (D : Dat) : Option (Int32 × Dat) :=
  (f_X12_leave x2 D).bind (fun p8 => some (p8.1, p8.2))
set_option maxHeartbeats 4000000 in
theorem w_X12_flowBack_b240 {X : Cx} {n nu c u : Nat} {K : Nat → Nat} {N : Nat} {z : Int32 × Dat} (O : Ok X cX12_flowBack RX12 (some .int) 2 45) (hm : wlm (xw X) = true) (hn : xn X = 7) (hz : Z0 X (Ax nu K c u)) (x2 : Int32) (D : Dat) (h : f_X12_flowBack_b240 N x2 D = some z) : V X (Q0 X n (Ax nu K c u) (some (.int z.1)) z.2) n (Ax nu K c u) D 240 [(0, .ref (bo X + pp 207)), (2, .int x2)] [] := by
  unfold f_X12_flowBack_b240 at h
  refine v_aload_n (pc := 240) O dX12_flowBack_240 0 rfl ?_
  refine v_iload_n (pc := 241) O dX12_flowBack_241 1 rfl ?_
  obtain ⟨p8, e9, h⟩ := bind_some h
  refine v_callV (pc := 242) (a := 207) (As := [.int x2]) (rest := []) (r := (some (.int p8.1))) (D' := p8.2) O (bb0 hz) (c_X12_leave hm e9) mw_X12_leave im_X12_leave se_X12_leave ml_X12_373 kq_207 (by decide) rfl rfl rfl (by decide) (by decide) (Nat.le_of_ble_eq_true rfl) dX12_flowBack_242 rfl rfl ?_
  obtain rfl := Option.some.inj h
  exact v_iret (pc := 245) O hz dX12_flowBack_245
def f_X12_flowBack_b249 (N : Nat) : Nat → Int32 → Int32 → Int32 → Dat → Option (Int32 × Dat)
  | 0, _, _, _, _ => none
  | g + 1, x2, x3, x5, D => if 26 ≤ x5 then (if ((dI D 207 55) - (1 : Int32)) < 0 ∨ 300 ≤ (((dI D 207 55) - (1 : Int32))).toNatClampNeg then none else (if x2 < 0 ∨ 128 ≤ (x2).toNatClampNeg then none else ((f_X12_itemsLabel N (dI D 220 (x2).toNatClampNeg) D).bind (fun p13 => (f_X12_join (dI D 240 ((dI D 207 55) - (1 : Int32)).toNatClampNeg) p13.1 p13.2).bind (fun p15 => if x2 < 0 ∨ 128 ≤ (x2).toNatClampNeg then none else (some ((dI (sI p15.2 207 54 p15.1) 222 (x2).toNatClampNeg), (sI p15.2 207 54 p15.1)))))))) else (if x5 < 0 ∨ 26 ≤ (x5).toNatClampNeg then none else (if (x3 + x5) < 0 ∨ 2600 ≤ ((x3 + x5)).toNatClampNeg then none else ((f_X12_flowBack_b249 N g) x2 x3 (x5 + 1) (sI D 241 (x3 + x5).toNatClampNeg (dI D 237 (x5).toNatClampNeg)))))
set_option maxHeartbeats 4000000 in
theorem w_X12_flowBack_b249 {X : Cx} {n nu c u : Nat} {K : Nat → Nat} {N : Nat} {z : Int32 × Dat} (O : Ok X cX12_flowBack RX12 (some .int) 2 45) (hm : wlm (xw X) = true) (hn : xn X = 7) (hz : Z0 X (Ax nu K c u)) : ∀ (g : Nat) (x2 : Int32) (x3 : Int32) (x5 : Int32) (D : Dat), f_X12_flowBack_b249 N g x2 x3 x5 D = some z → V X (Q0 X n (Ax nu K c u) (some (.int z.1)) z.2) n (Ax nu K c u) D 249 [(0, .ref (bo X + pp 207)), (2, .int x2), (3, .int x3), (5, .int x5)] [] := by
  intro g
  induction g with
  | zero => intro x2 x3 x5 D h; exact absurd h (by simp [f_X12_flowBack_b249])
  | succ g ih =>
    intro x2 x3 x5 D h
    rw [f_X12_flowBack_b249] at h
    refine v_iload (pc := 249) O dX12_flowBack_249 3 rfl ?_
    refine v_bipush (pc := 251) O dX12_flowBack_251 bp_26 ?_
    refine v_icmpge (pc := 253) 278 O dX12_flowBack_253 (by decide) (fun c10 => ?_) (fun c10 => ?_)
    · have h := (if_pos c10).symm.trans h
      refine v_aload_n (pc := 278) O dX12_flowBack_278 0 rfl ?_
      refine v_aload_n (pc := 279) O dX12_flowBack_279 0 rfl ?_
      refine v_aload_n (pc := 280) O dX12_flowBack_280 0 rfl ?_
      refine v_getK (pc := 281) (a := 207) O hm gf_X12_59 fl_X12_114 kq_207 lk_207_59 dX12_flowBack_281 ?_
      refine v_aload_n (pc := 284) O dX12_flowBack_284 0 rfl ?_
      refine v_getI (pc := 285) (a := 207) O gf_X12_55 fl_X12_351 kq_207 dX12_flowBack_285 ?_
      refine v_iconst (pc := 288) O dX12_flowBack_288 ic_1 ?_
      refine v_isub (pc := 289) O dX12_flowBack_289 ?_
      obtain ⟨c11, h⟩ := or_none h
      refine v_iald (pc := 290) (a := 240) O kq_240 (inq lq_240 c11) dX12_flowBack_290 ?_
      refine v_aload_n (pc := 291) O dX12_flowBack_291 0 rfl ?_
      refine v_aload_n (pc := 292) O dX12_flowBack_292 0 rfl ?_
      refine v_getK (pc := 293) (a := 207) O hm gf_X12_24 fl_X12_54 kq_207 lk_207_24 dX12_flowBack_293 ?_
      refine v_iload_n (pc := 296) O dX12_flowBack_296 1 rfl ?_
      obtain ⟨c12, h⟩ := or_none h
      refine v_iald (pc := 297) (a := 220) O kq_220 (inq lq_220 c12) dX12_flowBack_297 ?_
      obtain ⟨p13, e14, h⟩ := bind_some h
      refine v_callV (pc := 298) (a := 207) (As := [.int (dI D 220 (x2).toNatClampNeg)]) (rest := [.int (dI D 240 ((dI D 207 55) - (1 : Int32)).toNatClampNeg), .ref (bo X + pp 207), .ref (bo X + pp 207)]) (r := (some (.int p13.1))) (D' := p13.2) O (bb0 hz) (c_X12_itemsLabel hm e14) mw_X12_itemsLabel im_X12_itemsLabel se_X12_itemsLabel ml_X12_361 kq_207 (by decide) rfl rfl rfl (by decide) (by decide) (Nat.le_of_ble_eq_true rfl) dX12_flowBack_298 rfl rfl ?_
      obtain ⟨p15, e16, h⟩ := bind_some h
      refine v_callV (pc := 301) (a := 207) (As := [.int (dI D 240 ((dI D 207 55) - (1 : Int32)).toNatClampNeg), .int p13.1]) (rest := [.ref (bo X + pp 207)]) (r := (some (.int p15.1))) (D' := p15.2) O (bb0 hz) (c_X12_join hm e16) mw_X12_join im_X12_join se_X12_join ml_X12_347 kq_207 (by decide) rfl rfl rfl (by decide) (by decide) (Nat.le_of_ble_eq_true rfl) dX12_flowBack_301 rfl rfl ?_
      refine v_putI (pc := 304) (a := 207) O pf_X12_54 fl_X12_354 kq_207 dX12_flowBack_304 ?_
      refine v_aload_n (pc := 307) O dX12_flowBack_307 0 rfl ?_
      refine v_getK (pc := 308) (a := 207) O hm gf_X12_26 fl_X12_60 kq_207 lk_207_26 dX12_flowBack_308 ?_
      refine v_iload_n (pc := 311) O dX12_flowBack_311 1 rfl ?_
      obtain ⟨c17, h⟩ := or_none h
      refine v_iald (pc := 312) (a := 222) O kq_222 (inq lq_222 c17) dX12_flowBack_312 ?_
      obtain rfl := Option.some.inj h
      exact v_iret (pc := 313) O hz dX12_flowBack_313
    · have h := (if_neg c10).symm.trans h
      refine v_aload_n (pc := 256) O dX12_flowBack_256 0 rfl ?_
      refine v_getK (pc := 257) (a := 207) O hm gf_X12_60 fl_X12_117 kq_207 lk_207_60 dX12_flowBack_257 ?_
      refine v_iload_n (pc := 260) O dX12_flowBack_260 2 rfl ?_
      refine v_iload (pc := 261) O dX12_flowBack_261 3 rfl ?_
      refine v_iadd (pc := 263) O dX12_flowBack_263 ?_
      refine v_aload_n (pc := 264) O dX12_flowBack_264 0 rfl ?_
      refine v_getK (pc := 265) (a := 207) O hm gf_X12_53 fl_X12_105 kq_207 lk_207_53 dX12_flowBack_265 ?_
      refine v_iload (pc := 268) O dX12_flowBack_268 3 rfl ?_
      obtain ⟨c18, h⟩ := or_none h
      refine v_iald (pc := 270) (a := 237) O kq_237 (inq lq_237 c18) dX12_flowBack_270 ?_
      obtain ⟨c19, h⟩ := or_none h
      refine v_iast (pc := 271) (a := 241) O kq_241 (inq lq_241 c19) dX12_flowBack_271 ?_
      refine v_iinc (pc := 272) (lv' := [(5, .int (x5 + 1)), (0, .ref (bo X + pp 207)), (2, .int x2), (3, .int x3)]) O dX12_flowBack_272 3 rfl (congrArg (fun q => x5 + q) ic_1) (by rw [hn]; decide) rfl ?_
      refine v_goto (pc := 275) 249 O dX12_flowBack_275 (by decide) ?_
      refine v_sub [1, 2, 3, 0] rfl ?_
      exact ih x2 x3 (x5 + 1) (sI D 241 (x3 + x5).toNatClampNeg (dI D 237 (x5).toNatClampNeg)) h
def f_X12_flowBack_b224 (N : Nat) (rec_150 : Int32 → Int32 → Int32 → Int32 → Int32 → Dat → Option (Int32 × Dat)) (x1 : Int32) (x2 : Int32) (x3 : Int32) (x4 : Int32) (x5 : Int32) (D : Dat) : Option (Int32 × Dat) :=
  rec_150 x1 x2 x3 x4 (x5 + 1) D
set_option maxHeartbeats 4000000 in
theorem w_X12_flowBack_b224 {X : Cx} {n nu c u : Nat} {K : Nat → Nat} {N : Nat} {rec_150 : Int32 → Int32 → Int32 → Int32 → Int32 → Dat → Option (Int32 × Dat)} {z : Int32 × Dat} (O : Ok X cX12_flowBack RX12 (some .int) 2 45) (hm : wlm (xw X) = true) (hn : xn X = 7) (hz : Z0 X (Ax nu K c u)) (hrec_150 : ∀ (x1 : Int32) (x2 : Int32) (x3 : Int32) (x4 : Int32) (x5 : Int32) (D : Dat), rec_150 x1 x2 x3 x4 x5 D = some z → V X (Q0 X n (Ax nu K c u) (some (.int z.1)) z.2) n (Ax nu K c u) D 150 [(0, .ref (bo X + pp 207)), (1, .int x1), (2, .int x2), (3, .int x3), (4, .int x4), (5, .int x5)] []) (x1 : Int32) (x2 : Int32) (x3 : Int32) (x4 : Int32) (x5 : Int32) (D : Dat) (h : f_X12_flowBack_b224 N rec_150 x1 x2 x3 x4 x5 D = some z) : V X (Q0 X n (Ax nu K c u) (some (.int z.1)) z.2) n (Ax nu K c u) D 224 [(0, .ref (bo X + pp 207)), (1, .int x1), (2, .int x2), (3, .int x3), (4, .int x4), (5, .int x5)] [] := by
  unfold f_X12_flowBack_b224 at h
  refine v_iinc (pc := 224) (lv' := [(5, .int (x5 + 1)), (0, .ref (bo X + pp 207)), (1, .int x1), (2, .int x2), (3, .int x3), (4, .int x4)]) O dX12_flowBack_224 5 rfl (congrArg (fun q => x5 + q) ic_1) (by rw [hn]; decide) rfl ?_
  refine v_goto (pc := 227) 150 O dX12_flowBack_227 (by decide) ?_
  refine v_sub [1, 2, 3, 4, 5, 0] rfl ?_
  exact hrec_150 x1 x2 x3 x4 (x5 + 1) D h
def f_X12_flowBack_b187 (N : Nat) (rec_150 : Int32 → Int32 → Int32 → Int32 → Int32 → Dat → Option (Int32 × Dat)) (x1 : Int32) (x2 : Int32) (x3 : Int32) (x4 : Int32) (x5 : Int32) (s0 : Int32) (D : Dat) : Option (Int32 × Dat) :=
  if x5 < 0 ∨ 26 ≤ (x5).toNatClampNeg then none else ((f_X12_join s0 (dI D 237 (x5).toNatClampNeg) D).bind (fun p21 => if x5 < 0 ∨ 26 ≤ (x5).toNatClampNeg then none else (if x5 < 0 ∨ 26 ≤ (x5).toNatClampNeg then none else (if (dI (sI p21.2 237 (x5).toNatClampNeg p21.1) 237 (x5).toNatClampNeg) = s0 then (f_X12_flowBack_b224 N rec_150 x1 x2 x3 x4 x5 (sI p21.2 237 (x5).toNatClampNeg p21.1)) else (f_X12_flowBack_b224 N rec_150 x1 x2 x3 1 x5 (sI p21.2 237 (x5).toNatClampNeg p21.1))))))
set_option maxHeartbeats 4000000 in
theorem w_X12_flowBack_b187 {X : Cx} {n nu c u : Nat} {K : Nat → Nat} {N : Nat} {rec_150 : Int32 → Int32 → Int32 → Int32 → Int32 → Dat → Option (Int32 × Dat)} {z : Int32 × Dat} (O : Ok X cX12_flowBack RX12 (some .int) 2 45) (hm : wlm (xw X) = true) (hn : xn X = 7) (hz : Z0 X (Ax nu K c u)) (hrec_150 : ∀ (x1 : Int32) (x2 : Int32) (x3 : Int32) (x4 : Int32) (x5 : Int32) (D : Dat), rec_150 x1 x2 x3 x4 x5 D = some z → V X (Q0 X n (Ax nu K c u) (some (.int z.1)) z.2) n (Ax nu K c u) D 150 [(0, .ref (bo X + pp 207)), (1, .int x1), (2, .int x2), (3, .int x3), (4, .int x4), (5, .int x5)] []) (x1 : Int32) (x2 : Int32) (x3 : Int32) (x4 : Int32) (x5 : Int32) (s0 : Int32) (D : Dat) (h : f_X12_flowBack_b187 N rec_150 x1 x2 x3 x4 x5 s0 D = some z) : V X (Q0 X n (Ax nu K c u) (some (.int z.1)) z.2) n (Ax nu K c u) D 187 [(0, .ref (bo X + pp 207)), (1, .int x1), (2, .int x2), (3, .int x3), (4, .int x4), (5, .int x5)] [.int s0] := by
  unfold f_X12_flowBack_b187 at h
  refine v_istore (pc := 187) (lv' := [(6, .int s0), (0, .ref (bo X + pp 207)), (1, .int x1), (2, .int x2), (3, .int x3), (4, .int x4), (5, .int x5)]) O dX12_flowBack_187 (by rw [hn]; decide) rfl ?_
  refine v_aload_n (pc := 189) O dX12_flowBack_189 1 rfl ?_
  refine v_getK (pc := 190) (a := 207) O hm gf_X12_53 fl_X12_105 kq_207 lk_207_53 dX12_flowBack_190 ?_
  refine v_iload (pc := 193) O dX12_flowBack_193 6 rfl ?_
  refine v_aload_n (pc := 195) O dX12_flowBack_195 1 rfl ?_
  refine v_iload (pc := 196) O dX12_flowBack_196 0 rfl ?_
  refine v_aload_n (pc := 198) O dX12_flowBack_198 1 rfl ?_
  refine v_getK (pc := 199) (a := 207) O hm gf_X12_53 fl_X12_105 kq_207 lk_207_53 dX12_flowBack_199 ?_
  refine v_iload (pc := 202) O dX12_flowBack_202 6 rfl ?_
  obtain ⟨c20, h⟩ := or_none h
  refine v_iald (pc := 204) (a := 237) O kq_237 (inq lq_237 c20) dX12_flowBack_204 ?_
  obtain ⟨p21, e22, h⟩ := bind_some h
  refine v_callV (pc := 205) (a := 207) (As := [.int s0, .int (dI D 237 (x5).toNatClampNeg)]) (rest := [.int x5, .ref (bo X + pp 237)]) (r := (some (.int p21.1))) (D' := p21.2) O (bb0 hz) (c_X12_join hm e22) mw_X12_join im_X12_join se_X12_join ml_X12_347 kq_207 (by decide) rfl rfl rfl (by decide) (by decide) (Nat.le_of_ble_eq_true rfl) dX12_flowBack_205 rfl rfl ?_
  obtain ⟨c23, h⟩ := or_none h
  refine v_iast (pc := 208) (a := 237) O kq_237 (inq lq_237 c23) dX12_flowBack_208 ?_
  refine v_aload_n (pc := 209) O dX12_flowBack_209 1 rfl ?_
  refine v_getK (pc := 210) (a := 207) O hm gf_X12_53 fl_X12_105 kq_207 lk_207_53 dX12_flowBack_210 ?_
  refine v_iload (pc := 213) O dX12_flowBack_213 6 rfl ?_
  obtain ⟨c24, h⟩ := or_none h
  refine v_iald (pc := 215) (a := 237) O kq_237 (inq lq_237 c24) dX12_flowBack_215 ?_
  refine v_iload (pc := 216) O dX12_flowBack_216 0 rfl ?_
  refine v_icmpeq (pc := 218) 224 O dX12_flowBack_218 (by decide) (fun c25 => ?_) (fun c25 => ?_)
  · have h := (if_pos c25).symm.trans h
    refine v_sub [1, 2, 3, 4, 5, 6] rfl ?_
    exact w_X12_flowBack_b224 O hm hn hz hrec_150 x1 x2 x3 x4 x5 (sI p21.2 237 (x5).toNatClampNeg p21.1) h
  · have h := (if_neg c25).symm.trans h
    refine v_iconst (pc := 221) O dX12_flowBack_221 ic_1 ?_
    refine v_istore (pc := 222) (lv' := [(4, .int 1), (6, .int s0), (0, .ref (bo X + pp 207)), (1, .int x1), (2, .int x2), (3, .int x3), (5, .int x5)]) O dX12_flowBack_222 (by rw [hn]; decide) rfl ?_
    refine v_sub [2, 3, 4, 5, 0, 6] rfl ?_
    exact w_X12_flowBack_b224 O hm hn hz hrec_150 x1 x2 x3 1 x5 (sI p21.2 237 (x5).toNatClampNeg p21.1) h
def f_X12_flowBack_b150 (N : Nat) : Nat → Int32 → Int32 → Int32 → Int32 → Int32 → Dat → Option (Int32 × Dat)
  | 0, _, _, _, _, _, _ => none
  | g + 1, x1, x2, x3, x4, x5, D => if 26 ≤ x5 then (if x1 = 4 then (if x4 = 0 then (f_X12_flowBack_b240 N x2 D) else (f_X12_flowBack_b249 N N x2 x3 0 D)) else (f_X12_flowBack_b240 N x2 D)) else (if x1 = 8 then (if ((x3 + (26 : Int32)) + x5) < 0 ∨ 2600 ≤ (((x3 + (26 : Int32)) + x5)).toNatClampNeg then none else (f_X12_flowBack_b187 N (f_X12_flowBack_b150 N g) x1 x2 x3 x4 x5 (dI D 241 ((x3 + (26 : Int32)) + x5).toNatClampNeg) D)) else (if (x3 + x5) < 0 ∨ 2600 ≤ ((x3 + x5)).toNatClampNeg then none else (f_X12_flowBack_b187 N (f_X12_flowBack_b150 N g) x1 x2 x3 x4 x5 (dI D 241 (x3 + x5).toNatClampNeg) D)))
set_option maxHeartbeats 4000000 in
theorem w_X12_flowBack_b150 {X : Cx} {n nu c u : Nat} {K : Nat → Nat} {N : Nat} {z : Int32 × Dat} (O : Ok X cX12_flowBack RX12 (some .int) 2 45) (hm : wlm (xw X) = true) (hn : xn X = 7) (hz : Z0 X (Ax nu K c u)) : ∀ (g : Nat) (x1 : Int32) (x2 : Int32) (x3 : Int32) (x4 : Int32) (x5 : Int32) (D : Dat), f_X12_flowBack_b150 N g x1 x2 x3 x4 x5 D = some z → V X (Q0 X n (Ax nu K c u) (some (.int z.1)) z.2) n (Ax nu K c u) D 150 [(0, .ref (bo X + pp 207)), (1, .int x1), (2, .int x2), (3, .int x3), (4, .int x4), (5, .int x5)] [] := by
  intro g
  induction g with
  | zero => intro x1 x2 x3 x4 x5 D h; exact absurd h (by simp [f_X12_flowBack_b150])
  | succ g ih =>
    intro x1 x2 x3 x4 x5 D h
    rw [f_X12_flowBack_b150] at h
    refine v_iload (pc := 150) O dX12_flowBack_150 5 rfl ?_
    refine v_bipush (pc := 152) O dX12_flowBack_152 bp_26 ?_
    refine v_icmpge (pc := 154) 230 O dX12_flowBack_154 (by decide) (fun c26 => ?_) (fun c26 => ?_)
    · have h := (if_pos c26).symm.trans h
      refine v_iload_n (pc := 230) O dX12_flowBack_230 1 rfl ?_
      refine v_iconst (pc := 231) O dX12_flowBack_231 ic_4 ?_
      refine v_icmpne (pc := 232) 240 O dX12_flowBack_232 (by decide) (fun c27 => ?_) (fun c27 => ?_)
      · have h := (if_neg c27).symm.trans h
        refine v_sub [0, 2] rfl ?_
        exact w_X12_flowBack_b240 O hm hn hz x2 D h
      · have h := (if_pos c27).symm.trans h
        refine v_iload (pc := 235) O dX12_flowBack_235 4 rfl ?_
        refine v_ifne (pc := 237) 246 O dX12_flowBack_237 (by decide) (fun c28 => ?_) (fun c28 => ?_)
        · have h := (if_neg c28).symm.trans h
          refine v_iconst (pc := 246) O dX12_flowBack_246 ic_0 ?_
          refine v_istore (pc := 247) (lv' := [(5, .int 0), (0, .ref (bo X + pp 207)), (1, .int x1), (2, .int x2), (3, .int x3), (4, .int x4)]) O dX12_flowBack_247 (by rw [hn]; decide) rfl ?_
          refine v_sub [1, 3, 4, 0] rfl ?_
          exact w_X12_flowBack_b249 O hm hn hz N x2 x3 0 D h
        · have h := (if_pos c28).symm.trans h
          refine v_sub [0, 2] rfl ?_
          exact w_X12_flowBack_b240 O hm hn hz x2 D h
    · have h := (if_neg c26).symm.trans h
      refine v_iload_n (pc := 157) O dX12_flowBack_157 1 rfl ?_
      refine v_bipush (pc := 158) O dX12_flowBack_158 bp_8 ?_
      refine v_icmpne (pc := 160) 178 O dX12_flowBack_160 (by decide) (fun c29 => ?_) (fun c29 => ?_)
      · have h := (if_neg c29).symm.trans h
        refine v_aload_n (pc := 178) O dX12_flowBack_178 0 rfl ?_
        refine v_getK (pc := 179) (a := 207) O hm gf_X12_60 fl_X12_117 kq_207 lk_207_60 dX12_flowBack_179 ?_
        refine v_iload_n (pc := 182) O dX12_flowBack_182 3 rfl ?_
        refine v_iload (pc := 183) O dX12_flowBack_183 5 rfl ?_
        refine v_iadd (pc := 185) O dX12_flowBack_185 ?_
        obtain ⟨c30, h⟩ := or_none h
        refine v_iald (pc := 186) (a := 241) O kq_241 (inq lq_241 c30) dX12_flowBack_186 ?_
        refine v_sub [0, 1, 2, 3, 4, 5] rfl ?_
        exact w_X12_flowBack_b187 O hm hn hz ih x1 x2 x3 x4 x5 (dI D 241 (x3 + x5).toNatClampNeg) D h
      · have h := (if_pos c29).symm.trans h
        refine v_aload_n (pc := 163) O dX12_flowBack_163 0 rfl ?_
        refine v_getK (pc := 164) (a := 207) O hm gf_X12_60 fl_X12_117 kq_207 lk_207_60 dX12_flowBack_164 ?_
        refine v_iload_n (pc := 167) O dX12_flowBack_167 3 rfl ?_
        refine v_bipush (pc := 168) O dX12_flowBack_168 bp_26 ?_
        refine v_iadd (pc := 170) O dX12_flowBack_170 ?_
        refine v_iload (pc := 171) O dX12_flowBack_171 5 rfl ?_
        refine v_iadd (pc := 173) O dX12_flowBack_173 ?_
        obtain ⟨c31, h⟩ := or_none h
        refine v_iald (pc := 174) (a := 241) O kq_241 (inq lq_241 c31) dX12_flowBack_174 ?_
        refine v_goto (pc := 175) 187 O dX12_flowBack_175 (by decide) ?_
        refine v_sub [0, 1, 2, 3, 4, 5] rfl ?_
        exact w_X12_flowBack_b187 O hm hn hz ih x1 x2 x3 x4 x5 (dI D 241 ((x3 + (26 : Int32)) + x5).toNatClampNeg) D h
def f_X12_flowBack_b144 (N : Nat) (x1 : Int32) (x2 : Int32) (x3 : Int32) (D : Dat) : Option (Int32 × Dat) :=
  f_X12_flowBack_b150 N N x1 x2 x3 0 0 D
set_option maxHeartbeats 4000000 in
theorem w_X12_flowBack_b144 {X : Cx} {n nu c u : Nat} {K : Nat → Nat} {N : Nat} {z : Int32 × Dat} (O : Ok X cX12_flowBack RX12 (some .int) 2 45) (hm : wlm (xw X) = true) (hn : xn X = 7) (hz : Z0 X (Ax nu K c u)) (x1 : Int32) (x2 : Int32) (x3 : Int32) (D : Dat) (h : f_X12_flowBack_b144 N x1 x2 x3 D = some z) : V X (Q0 X n (Ax nu K c u) (some (.int z.1)) z.2) n (Ax nu K c u) D 144 [(0, .ref (bo X + pp 207)), (1, .int x1), (2, .int x2), (3, .int x3)] [] := by
  unfold f_X12_flowBack_b144 at h
  refine v_iconst (pc := 144) O dX12_flowBack_144 ic_0 ?_
  refine v_istore (pc := 145) (lv' := [(4, .int 0), (0, .ref (bo X + pp 207)), (1, .int x1), (2, .int x2), (3, .int x3)]) O dX12_flowBack_145 (by rw [hn]; decide) rfl ?_
  refine v_iconst (pc := 147) O dX12_flowBack_147 ic_0 ?_
  refine v_istore (pc := 148) (lv' := [(5, .int 0), (4, .int 0), (0, .ref (bo X + pp 207)), (1, .int x1), (2, .int x2), (3, .int x3)]) O dX12_flowBack_148 (by rw [hn]; decide) rfl ?_
  refine v_sub [2, 3, 4, 5, 1, 0] rfl ?_
  exact w_X12_flowBack_b150 O hm hn hz N x1 x2 x3 0 0 D h
def f_X12_flowBack (N : Nat) (D : Dat) : Option (Int32 × Dat) :=
  if ((dI D 207 55) - (1 : Int32)) < 0 ∨ 300 ≤ (((dI D 207 55) - (1 : Int32))).toNatClampNeg then none else (if ((dI D 207 55) - (1 : Int32)) < 0 ∨ 300 ≤ (((dI D 207 55) - (1 : Int32))).toNatClampNeg then none else (if (dI D 238 ((dI D 207 55) - (1 : Int32)).toNatClampNeg) = 7 then (if (dI D 239 ((dI D 207 55) - (1 : Int32)).toNatClampNeg) < 0 ∨ 128 ≤ ((dI D 239 ((dI D 207 55) - (1 : Int32)).toNatClampNeg)).toNatClampNeg then none else (some ((dI (sI D 207 55 ((dI D 207 55) - (1 : Int32))) 224 (dI D 239 ((dI D 207 55) - (1 : Int32)).toNatClampNeg).toNatClampNeg), (sI D 207 55 ((dI D 207 55) - (1 : Int32)))))) else (if (dI D 238 ((dI D 207 55) - (1 : Int32)).toNatClampNeg) = 3 then (if (dI D 239 ((dI D 207 55) - (1 : Int32)).toNatClampNeg) < 0 ∨ 128 ≤ ((dI D 239 ((dI D 207 55) - (1 : Int32)).toNatClampNeg)).toNatClampNeg then none else (if (dI D 219 (dI D 239 ((dI D 207 55) - (1 : Int32)).toNatClampNeg).toNatClampNeg) = 1 then (f_X12_flowBack_b76 N N (dI D 239 ((dI D 207 55) - (1 : Int32)).toNatClampNeg) (((52 : Int32) * (dI D 207 56)) - (52 : Int32)) 0 D) else (f_X12_flowBack_b144 N (dI D 238 ((dI D 207 55) - (1 : Int32)).toNatClampNeg) (dI D 239 ((dI D 207 55) - (1 : Int32)).toNatClampNeg) (((52 : Int32) * (dI D 207 56)) - (52 : Int32)) D))) else (f_X12_flowBack_b144 N (dI D 238 ((dI D 207 55) - (1 : Int32)).toNatClampNeg) (dI D 239 ((dI D 207 55) - (1 : Int32)).toNatClampNeg) (((52 : Int32) * (dI D 207 56)) - (52 : Int32)) D))))
set_option maxHeartbeats 4000000 in
theorem w_X12_flowBack {X : Cx} {n nu c u : Nat} {K : Nat → Nat} {N : Nat} {z : Int32 × Dat} (O : Ok X cX12_flowBack RX12 (some .int) 2 45) (hm : wlm (xw X) = true) (hn : xn X = 7) (hz : Z0 X (Ax nu K c u)) (D : Dat) (h : f_X12_flowBack N D = some z) : V X (Q0 X n (Ax nu K c u) (some (.int z.1)) z.2) n (Ax nu K c u) D 0 [(0, .ref (bo X + pp 207))] [] := by
  unfold f_X12_flowBack at h
  refine v_aload_n (pc := 0) O dX12_flowBack_0 0 rfl ?_
  refine v_getK (pc := 1) (a := 207) O hm gf_X12_57 fl_X12_108 kq_207 lk_207_57 dX12_flowBack_1 ?_
  refine v_aload_n (pc := 4) O dX12_flowBack_4 0 rfl ?_
  refine v_getI (pc := 5) (a := 207) O gf_X12_55 fl_X12_351 kq_207 dX12_flowBack_5 ?_
  refine v_iconst (pc := 8) O dX12_flowBack_8 ic_1 ?_
  refine v_isub (pc := 9) O dX12_flowBack_9 ?_
  obtain ⟨c32, h⟩ := or_none h
  refine v_iald (pc := 10) (a := 238) O kq_238 (inq lq_238 c32) dX12_flowBack_10 ?_
  refine v_istore_n (pc := 11) (lv' := [(1, .int (dI D 238 ((dI D 207 55) - (1 : Int32)).toNatClampNeg)), (0, .ref (bo X + pp 207))]) O dX12_flowBack_11 rfl (by rw [hn]; decide) rfl ?_
  refine v_aload_n (pc := 12) O dX12_flowBack_12 1 rfl ?_
  refine v_getK (pc := 13) (a := 207) O hm gf_X12_58 fl_X12_111 kq_207 lk_207_58 dX12_flowBack_13 ?_
  refine v_aload_n (pc := 16) O dX12_flowBack_16 1 rfl ?_
  refine v_getI (pc := 17) (a := 207) O gf_X12_55 fl_X12_351 kq_207 dX12_flowBack_17 ?_
  refine v_iconst (pc := 20) O dX12_flowBack_20 ic_1 ?_
  refine v_isub (pc := 21) O dX12_flowBack_21 ?_
  obtain ⟨c33, h⟩ := or_none h
  refine v_iald (pc := 22) (a := 239) O kq_239 (inq lq_239 c33) dX12_flowBack_22 ?_
  refine v_istore_n (pc := 23) (lv' := [(2, .int (dI D 239 ((dI D 207 55) - (1 : Int32)).toNatClampNeg)), (1, .int (dI D 238 ((dI D 207 55) - (1 : Int32)).toNatClampNeg)), (0, .ref (bo X + pp 207))]) O dX12_flowBack_23 rfl (by rw [hn]; decide) rfl ?_
  refine v_iload_n (pc := 24) O dX12_flowBack_24 1 rfl ?_
  refine v_bipush (pc := 25) O dX12_flowBack_25 bp_7 ?_
  refine v_icmpne (pc := 27) 47 O dX12_flowBack_27 (by decide) (fun c34 => ?_) (fun c34 => ?_)
  · have h := (if_neg c34).symm.trans h
    refine v_bipush (pc := 47) O dX12_flowBack_47 bp_52 ?_
    refine v_aload_n (pc := 49) O dX12_flowBack_49 2 rfl ?_
    refine v_getI (pc := 50) (a := 207) O gf_X12_56 fl_X12_370 kq_207 dX12_flowBack_50 ?_
    refine v_imul (pc := 53) O dX12_flowBack_53 ?_
    refine v_bipush (pc := 54) O dX12_flowBack_54 bp_52 ?_
    refine v_isub (pc := 56) O dX12_flowBack_56 ?_
    refine v_istore_n (pc := 57) (lv' := [(3, .int (((52 : Int32) * (dI D 207 56)) - (52 : Int32))), (2, .int (dI D 239 ((dI D 207 55) - (1 : Int32)).toNatClampNeg)), (1, .int (dI D 238 ((dI D 207 55) - (1 : Int32)).toNatClampNeg)), (0, .ref (bo X + pp 207))]) O dX12_flowBack_57 rfl (by rw [hn]; decide) rfl ?_
    refine v_iload_n (pc := 58) O dX12_flowBack_58 2 rfl ?_
    refine v_iconst (pc := 59) O dX12_flowBack_59 ic_3 ?_
    refine v_icmpne (pc := 60) 144 O dX12_flowBack_60 (by decide) (fun c35 => ?_) (fun c35 => ?_)
    · have h := (if_neg c35).symm.trans h
      refine v_sub [3, 2, 1, 0] rfl ?_
      exact w_X12_flowBack_b144 O hm hn hz (dI D 238 ((dI D 207 55) - (1 : Int32)).toNatClampNeg) (dI D 239 ((dI D 207 55) - (1 : Int32)).toNatClampNeg) (((52 : Int32) * (dI D 207 56)) - (52 : Int32)) D h
    · have h := (if_pos c35).symm.trans h
      refine v_aload_n (pc := 63) O dX12_flowBack_63 3 rfl ?_
      refine v_getK (pc := 64) (a := 207) O hm gf_X12_23 fl_X12_51 kq_207 lk_207_23 dX12_flowBack_64 ?_
      refine v_iload_n (pc := 67) O dX12_flowBack_67 1 rfl ?_
      obtain ⟨c36, h⟩ := or_none h
      refine v_iald (pc := 68) (a := 219) O kq_219 (inq lq_219 c36) dX12_flowBack_68 ?_
      refine v_iconst (pc := 69) O dX12_flowBack_69 ic_1 ?_
      refine v_icmpne (pc := 70) 144 O dX12_flowBack_70 (by decide) (fun c37 => ?_) (fun c37 => ?_)
      · have h := (if_neg c37).symm.trans h
        refine v_sub [3, 2, 1, 0] rfl ?_
        exact w_X12_flowBack_b144 O hm hn hz (dI D 238 ((dI D 207 55) - (1 : Int32)).toNatClampNeg) (dI D 239 ((dI D 207 55) - (1 : Int32)).toNatClampNeg) (((52 : Int32) * (dI D 207 56)) - (52 : Int32)) D h
      · have h := (if_pos c37).symm.trans h
        refine v_iconst (pc := 73) O dX12_flowBack_73 ic_0 ?_
        refine v_istore (pc := 74) (lv' := [(4, .int 0), (3, .int (((52 : Int32) * (dI D 207 56)) - (52 : Int32))), (2, .int (dI D 239 ((dI D 207 55) - (1 : Int32)).toNatClampNeg)), (1, .int (dI D 238 ((dI D 207 55) - (1 : Int32)).toNatClampNeg)), (0, .ref (bo X + pp 207))]) O dX12_flowBack_74 (by rw [hn]; decide) rfl ?_
        refine v_sub [4, 2, 1, 0] rfl ?_
        exact w_X12_flowBack_b76 O hm hn hz N (dI D 239 ((dI D 207 55) - (1 : Int32)).toNatClampNeg) (((52 : Int32) * (dI D 207 56)) - (52 : Int32)) 0 D h
  · have h := (if_pos c34).symm.trans h
    refine v_aload_n (pc := 30) O dX12_flowBack_30 2 rfl ?_
    refine v_dup (pc := 31) O dX12_flowBack_31 rfl ?_
    refine v_getI (pc := 32) (a := 207) O gf_X12_55 fl_X12_351 kq_207 dX12_flowBack_32 ?_
    refine v_iconst (pc := 35) O dX12_flowBack_35 ic_1 ?_
    refine v_isub (pc := 36) O dX12_flowBack_36 ?_
    refine v_putI (pc := 37) (a := 207) O pf_X12_55 fl_X12_351 kq_207 dX12_flowBack_37 ?_
    refine v_aload_n (pc := 40) O dX12_flowBack_40 2 rfl ?_
    refine v_getK (pc := 41) (a := 207) O hm gf_X12_28 fl_X12_66 kq_207 lk_207_28 dX12_flowBack_41 ?_
    refine v_iload_n (pc := 44) O dX12_flowBack_44 0 rfl ?_
    obtain ⟨c38, h⟩ := or_none h
    refine v_iald (pc := 45) (a := 224) O kq_224 (inq lq_224 c38) dX12_flowBack_45 ?_
    obtain rfl := Option.some.inj h
    exact v_iret (pc := 46) O hz dX12_flowBack_46
theorem c_X12_flowBack {l : Launch} {w : Wx} {n nu c u : Nat} {K : Nat → Nat} {N : Nat} (hm : wlm w = true) {D : Dat} {z : Int32 × Dat} (h : f_X12_flowBack N D = some z) : C0 l w yX12_flowBack cX12_flowBack 7 (some .int) 2 45 [.ref (wb w + pp 207)] n (Ax nu K c u) D (some (.int z.1)) z.2 :=
  C0.of (by decide) (Nat.le_of_ble_eq_true rfl) (fun X e1 e2 e3 hz O => by
  subst e1
  subst e2
  exact w_X12_flowBack O hm e3 hz  D h)
