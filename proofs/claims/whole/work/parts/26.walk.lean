theorem nat_acopy : Cond.native arraycopyName ∈ tb := tb_of 1203 (by decide +kernel) (by decide +kernel)
theorem sm_acopy : Cond.static arraycopyName ∈ tb := tb_of 1202 (by decide +kernel) (by decide +kernel)
theorem ini_System : Cond.initialized "java/lang/System" ∈ tb := tb_of 189 (by decide +kernel) (by decide +kernel)
theorem ini_Math : Cond.initialized "java/lang/Math" ∈ tb := tb_of 162 (by decide +kernel) (by decide +kernel)
theorem sm_min : Cond.static Lib.Math.min.name ∈ tb := tb_of 202 (by decide +kernel) (by decide +kernel)
theorem cw_min : Cond.code Lib.Math.min.name Lib.Math.min.code 2 (some .int) ∈ tb := tb_of 203 (by decide +kernel) (by decide +kernel)
theorem kt_X4 {nu c u t : Nat} {K : Nat → Nat} (ht : t = 191 ∨ t = 196) : (Ax nu K c u).1 t = 4 := by rcases ht with rfl | rfl <;> first | exact kd_lt (K := K) (a := 191) (by decide) rfl | exact kd_lt (K := K) (a := 196) (by decide) rfl
theorem fl_X4_27 : Cond.fieldLink RX4 27 RX4 (TX4 5).2.1 (TX4 5).2.2.1 ∈ tb := tb_of 464 (by decide +kernel) (by decide +kernel)
theorem inb_X4 : ∀ w ∈ u_ws RX4 TX4 6, w ∈ tb := by decide +kernel
theorem gf_X4_5 : FI 4 RX4 TX4 6 tyX4 5 0 := ⟨rfl, inb_X4, tyX4_ok, nmX4, by decide, by decide, rfl, rfl, rfl⟩
theorem pf_X4_5 : PI 4 RX4 TX4 6 tyX4 5 0 .int := ⟨gf_X4_5, rfl, rfl⟩
theorem fl_X4_31 : Cond.fieldLink RX4 31 RX4 (TX4 0).2.1 (TX4 0).2.2.1 ∈ tb := tb_of 457 (by decide +kernel) (by decide +kernel)
theorem gf_X4_0 : FI 4 RX4 TX4 6 tyX4 0 2 := ⟨rfl, inb_X4, tyX4_ok, nmX4, by decide, by decide, rfl, rfl, rfl⟩
theorem pf_X4_0 : PI 4 RX4 TX4 6 tyX4 0 2 (.object "FlowChain$Statement") := ⟨gf_X4_0, rfl, rfl⟩
theorem fl_X4_17 : Cond.fieldLink RX4 17 RX4 (TX4 2).2.1 (TX4 2).2.2.1 ∈ tb := tb_of 461 (by decide +kernel) (by decide +kernel)
theorem lt_X4_2 {t : Nat} (ht : t = 191 ∨ t = 196) : lks t 2 = some (t + 2) := by rcases ht with rfl | rfl <;> decide +kernel
theorem ka_X4_2 {nu c u t : Nat} {K : Nat → Nat} (ht : t = 191 ∨ t = 196) : (Ax nu K c u).1 (t + 2) = 14 := by rcases ht with rfl | rfl <;> first | exact kd_lt (K := K) (a := 191 + 2) (by decide) rfl | exact kd_lt (K := K) (a := 196 + 2) (by decide) rfl
theorem la_X4_2 {nu c u t : Nat} {K : Nat → Nat} (ht : t = 191 ∨ t = 196) : (Ax nu K c u).2.1 (t + 2) = 52 := by rcases ht with rfl | rfl <;> rfl
theorem gf_X4_2 : FI 4 RX4 TX4 6 tyX4 2 3 := ⟨rfl, inb_X4, tyX4_ok, nmX4, by decide, by decide, rfl, rfl, rfl⟩
theorem ini_J7 : Cond.initialized RJ7 ∈ tb := tb_of 170 (by decide +kernel) (by decide +kernel)
theorem cw_J7_fill_53178 : Cond.code yJ7_fill_53178 cJ7_fill_53178 4 none ∈ tb := tb_of 446 (by decide +kernel) (by decide +kernel)
theorem mw_J7_fill_53178 : MW yJ7_fill_53178 cJ7_fill_53178 4 none 2 := ⟨cw_J7_fill_53178, ini_J7, by decide +kernel⟩
theorem sm_J7_fill_53178 : Cond.static yJ7_fill_53178 ∈ tb := tb_of 445 (by decide +kernel) (by decide +kernel)
theorem ml_X4_35 : Cond.methodLink RX4 35 yJ7_fill_53178 ∈ tb := tb_of 808 (by decide +kernel) (by decide +kernel)
theorem fl_X4_11 : Cond.fieldLink RX4 11 RX4 (TX4 1).2.1 (TX4 1).2.2.1 ∈ tb := tb_of 460 (by decide +kernel) (by decide +kernel)
theorem lt_X4_1 {t : Nat} (ht : t = 191 ∨ t = 196) : lks t 1 = some (t + 1) := by rcases ht with rfl | rfl <;> decide +kernel
theorem ka_X4_1 {nu c u t : Nat} {K : Nat → Nat} (ht : t = 191 ∨ t = 196) : (Ax nu K c u).1 (t + 1) = 17 := by rcases ht with rfl | rfl <;> first | exact kd_lt (K := K) (a := 191 + 1) (by decide) rfl | exact kd_lt (K := K) (a := 196 + 1) (by decide) rfl
theorem la_X4_1 {nu c u t : Nat} {K : Nat → Nat} (ht : t = 191 ∨ t = 196) : (Ax nu K c u).2.1 (t + 1) = 26 := by rcases ht with rfl | rfl <;> rfl
theorem gf_X4_1 : FI 4 RX4 TX4 6 tyX4 1 3 := ⟨rfl, inb_X4, tyX4_ok, nmX4, by decide, by decide, rfl, rfl, rfl⟩
theorem fl_X4_21 : Cond.fieldLink RX4 21 RX4 (TX4 3).2.1 (TX4 3).2.2.1 ∈ tb := tb_of 462 (by decide +kernel) (by decide +kernel)
theorem lt_X4_3 {t : Nat} (ht : t = 191 ∨ t = 196) : lks t 3 = some (t + 3) := by rcases ht with rfl | rfl <;> decide +kernel
theorem ka_X4_3 {nu c u t : Nat} {K : Nat → Nat} (ht : t = 191 ∨ t = 196) : (Ax nu K c u).1 (t + 3) = 14 := by rcases ht with rfl | rfl <;> first | exact kd_lt (K := K) (a := 191 + 3) (by decide) rfl | exact kd_lt (K := K) (a := 196 + 3) (by decide) rfl
theorem la_X4_3 {nu c u t : Nat} {K : Nat → Nat} (ht : t = 191 ∨ t = 196) : (Ax nu K c u).2.1 (t + 3) = 240 := by rcases ht with rfl | rfl <;> rfl
theorem gf_X4_3 : FI 4 RX4 TX4 6 tyX4 3 3 := ⟨rfl, inb_X4, tyX4_ok, nmX4, by decide, by decide, rfl, rfl, rfl⟩
theorem fl_X4_24 : Cond.fieldLink RX4 24 RX4 (TX4 4).2.1 (TX4 4).2.2.1 ∈ tb := tb_of 463 (by decide +kernel) (by decide +kernel)
theorem lt_X4_4 {t : Nat} (ht : t = 191 ∨ t = 196) : lks t 4 = some (t + 4) := by rcases ht with rfl | rfl <;> decide +kernel
theorem ka_X4_4 {nu c u t : Nat} {K : Nat → Nat} (ht : t = 191 ∨ t = 196) : (Ax nu K c u).1 (t + 4) = 14 := by rcases ht with rfl | rfl <;> first | exact kd_lt (K := K) (a := 191 + 4) (by decide) rfl | exact kd_lt (K := K) (a := 196 + 4) (by decide) rfl
theorem la_X4_4 {nu c u t : Nat} {K : Nat → Nat} (ht : t = 191 ∨ t = 196) : (Ax nu K c u).2.1 (t + 4) = 240 := by rcases ht with rfl | rfl <;> rfl
theorem gf_X4_4 : FI 4 RX4 TX4 6 tyX4 4 3 := ⟨rfl, inb_X4, tyX4_ok, nmX4, by decide, by decide, rfl, rfl, rfl⟩
theorem ml_X4_41 : Cond.methodLink RX4 41 Lib.Math.min.name ∈ tb := tb_of 1272 (by decide +kernel) (by decide +kernel)
theorem ml_X4_47 : Cond.methodLink RX4 47 arraycopyName ∈ tb := tb_of 1273 (by decide +kernel) (by decide +kernel)
theorem kq_181 {nu c u : Nat} {K : Nat → Nat} : (Ax nu K c u).1 181 = 3 := kd_lt (K := K) (a := 181) (by decide) rfl
theorem fl_X3_11 : Cond.fieldLink RX3 11 RX3 (TX3 0).2.1 (TX3 0).2.2.1 ∈ tb := tb_of 397 (by decide +kernel) (by decide +kernel)
theorem inb_X3 : ∀ w ∈ u_ws RX3 TX3 11, w ∈ tb := by decide +kernel
theorem gf_X3_0 : FI 3 RX3 TX3 11 tyX3 0 3 := ⟨rfl, inb_X3, tyX3_ok, nmX3, by decide, by decide, rfl, rfl, rfl⟩
theorem lk_181_0 : lks 181 0 = some 182 := by decide +kernel
theorem kq_182 {nu c u : Nat} {K : Nat → Nat} : (Ax nu K c u).1 182 = 14 := kd_lt (K := K) (a := 182) (by decide) rfl
theorem lq_182 {nu c u : Nat} {K : Nat → Nat} : (Ax nu K c u).2.1 182 = 234 := rfl
theorem ini_X3 : Cond.initialized RX3 ∈ tb := tb_of 168 (by decide +kernel) (by decide +kernel)
theorem cw_X3_isMark : Cond.code yX3_isMark cX3_isMark 1 (some .boolean) ∈ tb := tb_of 1526 (by decide +kernel) (by decide +kernel)
theorem mw_X3_isMark : MW yX3_isMark cX3_isMark 1 (some .boolean) 1 := ⟨cw_X3_isMark, ini_X3, by decide +kernel⟩
theorem sm_X3_isMark : Cond.static yX3_isMark ∈ tb := tb_of 1525 (by decide +kernel) (by decide +kernel)
theorem ml_X3_37 : Cond.methodLink RX3 37 yX3_isMark ∈ tb := tb_of 1524 (by decide +kernel) (by decide +kernel)
theorem fl_X3_21 : Cond.fieldLink RX3 21 RX3 (TX3 4).2.1 (TX3 4).2.2.1 ∈ tb := tb_of 401 (by decide +kernel) (by decide +kernel)
theorem gf_X3_4 : FI 3 RX3 TX3 11 tyX3 4 3 := ⟨rfl, inb_X3, tyX3_ok, nmX3, by decide, by decide, rfl, rfl, rfl⟩
theorem lk_181_4 : lks 181 4 = some 185 := by decide +kernel
theorem kq_185 {nu c u : Nat} {K : Nat → Nat} : (Ax nu K c u).1 185 = 14 := kd_lt (K := K) (a := 185) (by decide) rfl
theorem lq_185 {nu c u : Nat} {K : Nat → Nat} : (Ax nu K c u).2.1 185 = 6 := rfl
theorem fl_X3_18 : Cond.fieldLink RX3 18 RX3 (TX3 3).2.1 (TX3 3).2.2.1 ∈ tb := tb_of 400 (by decide +kernel) (by decide +kernel)
theorem gf_X3_3 : FI 3 RX3 TX3 11 tyX3 3 3 := ⟨rfl, inb_X3, tyX3_ok, nmX3, by decide, by decide, rfl, rfl, rfl⟩
theorem lk_181_3 : lks 181 3 = some 184 := by decide +kernel
theorem kq_184 {nu c u : Nat} {K : Nat → Nat} : (Ax nu K c u).1 184 = 14 := kd_lt (K := K) (a := 184) (by decide) rfl
theorem lq_184 {nu c u : Nat} {K : Nat → Nat} : (Ax nu K c u).2.1 184 = 120 := rfl
def f_X4_size (t : Nat) (D : Dat) : Option (Int32 × Dat) :=
  some ((dI D t 5), D)
set_option maxHeartbeats 4000000 in
theorem w_X4_size {X : Cx} {n nu c u : Nat} {K : Nat → Nat} {t : Nat} {z : Int32 × Dat} (O : Ok X cX4_size RX4 (some .int) 0 0) (hm : wlm (xw X) = true) (hn : xn X = 1) (hz : Z0 X (Ax nu K c u)) (ht : t = 191 ∨ t = 196) (D : Dat) (h : f_X4_size t D = some z) : V X (Q0 X n (Ax nu K c u) (some (.int z.1)) z.2) n (Ax nu K c u) D 0 [(0, .ref (bo X + pp t))] [] := by
  unfold f_X4_size at h
  refine v_aload_n (pc := 0) O dX4_size_0 0 rfl ?_
  refine v_getI (pc := 1) (a := t) O gf_X4_5 fl_X4_27 (kt_X4 ht) dX4_size_1 ?_
  obtain rfl := Option.some.inj h
  exact v_iret (pc := 4) O hz dX4_size_4
theorem c_X4_size {l : Launch} {w : Wx} {n nu c u : Nat} {K : Nat → Nat} {t : Nat} (hm : wlm w = true) (ht : t = 191 ∨ t = 196) {D : Dat} {z : Int32 × Dat} (h : f_X4_size t D = some z) : C0 l w yX4_size cX4_size 1 (some .int) 0 0 [.ref (wb w + pp t)] n (Ax nu K c u) D (some (.int z.1)) z.2 :=
  C0.of (by decide) (Nat.le_of_ble_eq_true rfl) (fun X e1 e2 e3 hz O => by
  subst e1
  subst e2
  exact w_X4_size O hm e3 hz ht  D h)
def f_X4_empty_b12 (N : Nat) (nu : Nat) (K : Nat → Nat) (t : Nat) : Nat → Int32 → Dat → Option (Dat)
  | 0, _, _ => none
  | g + 1, x1, D => if 26 ≤ x1 then ((f_J7_fill_53178 N nu K (t + 2) (-1) D).bind (fun p2 => some p2)) else (if x1 < 0 ∨ 26 ≤ (x1).toNatClampNeg then none else ((f_X4_empty_b12 N nu K t g) (x1 + 1) (sR D (t + 1) (x1).toNatClampNeg none)))
set_option maxHeartbeats 4000000 in
theorem w_X4_empty_b12 {X : Cx} {n nu c u : Nat} {K : Nat → Nat} {N : Nat} {t : Nat} {z : Dat} (O : Ok X cX4_empty RX4 none 1 23) (hm : wlm (xw X) = true) (hn : xn X = 2) (hz : Z0 X (Ax nu K c u)) (ht : t = 191 ∨ t = 196) : ∀ (g : Nat) (x1 : Int32) (D : Dat), f_X4_empty_b12 N nu K t g x1 D = some z → V X (Q0 X n (Ax nu K c u) none z) n (Ax nu K c u) D 12 [(0, .ref (bo X + pp t)), (1, .int x1)] [] := by
  intro g
  induction g with
  | zero => intro x1 D h; exact absurd h (by simp [f_X4_empty_b12])
  | succ g ih =>
    intro x1 D h
    rw [f_X4_empty_b12] at h
    refine v_iload_n (pc := 12) O dX4_empty_12 1 rfl ?_
    refine v_bipush (pc := 13) O dX4_empty_13 bp_26 ?_
    refine v_icmpge (pc := 15) 31 O dX4_empty_15 (by decide) (fun c1 => ?_) (fun c1 => ?_)
    · have h := (if_pos c1).symm.trans h
      refine v_aload_n (pc := 31) O dX4_empty_31 0 rfl ?_
      refine v_getK (pc := 32) (a := t) O hm gf_X4_2 fl_X4_17 (kt_X4 ht) (lt_X4_2 ht) dX4_empty_32 ?_
      refine v_iconst (pc := 35) O dX4_empty_35 ic_m1 ?_
      obtain ⟨p2, e3, h⟩ := bind_some h
      refine v_callS (pc := 36) (As := [.ref (bo X + pp (t + 2)), .int (-1)]) (rest := []) (r := none) (D' := p2) O (bb0 hz) (c_J7_fill_53178 hm e3) mw_J7_fill_53178 sm_J7_fill_53178 ml_X4_35 rfl (by decide) (by decide) (Nat.le_of_ble_eq_true rfl) dX4_empty_36 rfl rfl ?_
      obtain rfl := Option.some.inj h
      exact v_ret (pc := 39) O hz dX4_empty_39
    · have h := (if_neg c1).symm.trans h
      refine v_aload_n (pc := 18) O dX4_empty_18 0 rfl ?_
      refine v_getK (pc := 19) (a := t) O hm gf_X4_1 fl_X4_11 (kt_X4 ht) (lt_X4_1 ht) dX4_empty_19 ?_
      refine v_iload_n (pc := 22) O dX4_empty_22 1 rfl ?_
      refine v_null (pc := 23) O dX4_empty_23 ?_
      obtain ⟨c4, h⟩ := or_none h
      refine v_aast (pc := 24) (a := (t + 1)) (r := none) O (ka_X4_1 ht) (inq (la_X4_1 ht) c4) (fun _ q => nomatch q) dX4_empty_24 ?_
      refine v_iinc (pc := 25) (lv' := [(1, .int (x1 + 1)), (0, .ref (bo X + pp t))]) O dX4_empty_25 1 rfl (congrArg (fun q => x1 + q) ic_1) (by rw [hn]; decide) rfl ?_
      refine v_goto (pc := 28) 12 O dX4_empty_28 (by decide) ?_
      refine v_sub [1, 0] rfl ?_
      exact ih (x1 + 1) (sR D (t + 1) (x1).toNatClampNeg none) h
def f_X4_empty (N : Nat) (nu : Nat) (K : Nat → Nat) (t : Nat) (D : Dat) : Option (Dat) :=
  f_X4_empty_b12 N nu K t N 0 (sR (sI D t 5 0) t 0 none)
set_option maxHeartbeats 4000000 in
theorem w_X4_empty {X : Cx} {n nu c u : Nat} {K : Nat → Nat} {N : Nat} {t : Nat} {z : Dat} (O : Ok X cX4_empty RX4 none 1 23) (hm : wlm (xw X) = true) (hn : xn X = 2) (hz : Z0 X (Ax nu K c u)) (ht : t = 191 ∨ t = 196) (D : Dat) (h : f_X4_empty N nu K t D = some z) : V X (Q0 X n (Ax nu K c u) none z) n (Ax nu K c u) D 0 [(0, .ref (bo X + pp t))] [] := by
  unfold f_X4_empty at h
  refine v_aload_n (pc := 0) O dX4_empty_0 0 rfl ?_
  refine v_iconst (pc := 1) O dX4_empty_1 ic_0 ?_
  refine v_putI (pc := 2) (a := t) O pf_X4_5 fl_X4_27 (kt_X4 ht) dX4_empty_2 ?_
  refine v_aload_n (pc := 5) O dX4_empty_5 0 rfl ?_
  refine v_null (pc := 6) O dX4_empty_6 ?_
  refine v_putR (pc := 7) (a := t) (r := none) O pf_X4_0 rfl fl_X4_31 (kt_X4 ht) dX4_empty_7 ?_
  refine v_iconst (pc := 10) O dX4_empty_10 ic_0 ?_
  refine v_istore_n (pc := 11) (lv' := [(1, .int 0), (0, .ref (bo X + pp t))]) O dX4_empty_11 rfl (by rw [hn]; decide) rfl ?_
  refine v_sub [1, 0] rfl ?_
  exact w_X4_empty_b12 O hm hn hz ht N 0 (sR (sI D t 5 0) t 0 none) h
theorem c_X4_empty {l : Launch} {w : Wx} {n nu c u : Nat} {K : Nat → Nat} {N : Nat} {t : Nat} (hm : wlm w = true) (ht : t = 191 ∨ t = 196) {D : Dat} {z : Dat} (h : f_X4_empty N nu K t D = some z) : C0 l w yX4_empty cX4_empty 2 none 1 23 [.ref (wb w + pp t)] n (Ax nu K c u) D none z :=
  C0.of (by decide) (Nat.le_of_ble_eq_true rfl) (fun X e1 e2 e3 hz O => by
  subst e1
  subst e2
  exact w_X4_empty O hm e3 hz ht  D h)
def f_X4_add_b40 (t : Nat) (D : Dat) : Option (Dat) :=
  some D
set_option maxHeartbeats 4000000 in
theorem w_X4_add_b40 {X : Cx} {n nu c u : Nat} {K : Nat → Nat} {t : Nat} {z : Dat} (O : Ok X cX4_add RX4 none 0 0) (hm : wlm (xw X) = true) (hn : xn X = 3) (hz : Z0 X (Ax nu K c u)) (ht : t = 191 ∨ t = 196) (D : Dat) (h : f_X4_add_b40 t D = some z) : V X (Q0 X n (Ax nu K c u) none z) n (Ax nu K c u) D 40 [] [] := by
  unfold f_X4_add_b40 at h
  obtain rfl := Option.some.inj h
  exact v_ret (pc := 40) O hz dX4_add_40
def f_X4_add (t : Nat) (x1 : Int32) (x2 : Int32) (D : Dat) : Option (Dat) :=
  if 240 ≤ (dI D t 5) then (f_X4_add_b40 t D) else (if (dI D t 5) < 0 ∨ 240 ≤ ((dI D t 5)).toNatClampNeg then none else (if (dI (sI D (t + 3) (dI D t 5).toNatClampNeg x1) t 5) < 0 ∨ 240 ≤ ((dI (sI D (t + 3) (dI D t 5).toNatClampNeg x1) t 5)).toNatClampNeg then none else (f_X4_add_b40 t (sI (sI (sI D (t + 3) (dI D t 5).toNatClampNeg x1) (t + 4) (dI (sI D (t + 3) (dI D t 5).toNatClampNeg x1) t 5).toNatClampNeg x2) t 5 ((dI (sI (sI D (t + 3) (dI D t 5).toNatClampNeg x1) (t + 4) (dI (sI D (t + 3) (dI D t 5).toNatClampNeg x1) t 5).toNatClampNeg x2) t 5) + (1 : Int32))))))
set_option maxHeartbeats 4000000 in
theorem w_X4_add {X : Cx} {n nu c u : Nat} {K : Nat → Nat} {t : Nat} {z : Dat} (O : Ok X cX4_add RX4 none 0 0) (hm : wlm (xw X) = true) (hn : xn X = 3) (hz : Z0 X (Ax nu K c u)) (ht : t = 191 ∨ t = 196) (x1 : Int32) (x2 : Int32) (D : Dat) (h : f_X4_add t x1 x2 D = some z) : V X (Q0 X n (Ax nu K c u) none z) n (Ax nu K c u) D 0 [(0, .ref (bo X + pp t)), (1, .int x1), (2, .int x2)] [] := by
  unfold f_X4_add at h
  refine v_aload_n (pc := 0) O dX4_add_0 0 rfl ?_
  refine v_getI (pc := 1) (a := t) O gf_X4_5 fl_X4_27 (kt_X4 ht) dX4_add_1 ?_
  refine v_sipush (pc := 4) O dX4_add_4 sp_240 ?_
  refine v_icmpge (pc := 7) 40 O dX4_add_7 (by decide) (fun c1 => ?_) (fun c1 => ?_)
  · have h := (if_pos c1).symm.trans h
    refine v_sub [] rfl ?_
    exact w_X4_add_b40 O hm hn hz ht D h
  · have h := (if_neg c1).symm.trans h
    refine v_aload_n (pc := 10) O dX4_add_10 0 rfl ?_
    refine v_getK (pc := 11) (a := t) O hm gf_X4_3 fl_X4_21 (kt_X4 ht) (lt_X4_3 ht) dX4_add_11 ?_
    refine v_aload_n (pc := 14) O dX4_add_14 0 rfl ?_
    refine v_getI (pc := 15) (a := t) O gf_X4_5 fl_X4_27 (kt_X4 ht) dX4_add_15 ?_
    refine v_iload_n (pc := 18) O dX4_add_18 1 rfl ?_
    obtain ⟨c2, h⟩ := or_none h
    refine v_iast (pc := 19) (a := (t + 3)) O (ka_X4_3 ht) (inq (la_X4_3 ht) c2) dX4_add_19 ?_
    refine v_aload_n (pc := 20) O dX4_add_20 0 rfl ?_
    refine v_getK (pc := 21) (a := t) O hm gf_X4_4 fl_X4_24 (kt_X4 ht) (lt_X4_4 ht) dX4_add_21 ?_
    refine v_aload_n (pc := 24) O dX4_add_24 0 rfl ?_
    refine v_getI (pc := 25) (a := t) O gf_X4_5 fl_X4_27 (kt_X4 ht) dX4_add_25 ?_
    refine v_iload_n (pc := 28) O dX4_add_28 2 rfl ?_
    obtain ⟨c3, h⟩ := or_none h
    refine v_iast (pc := 29) (a := (t + 4)) O (ka_X4_4 ht) (inq (la_X4_4 ht) c3) dX4_add_29 ?_
    refine v_aload_n (pc := 30) O dX4_add_30 0 rfl ?_
    refine v_dup (pc := 31) O dX4_add_31 rfl ?_
    refine v_getI (pc := 32) (a := t) O gf_X4_5 fl_X4_27 (kt_X4 ht) dX4_add_32 ?_
    refine v_iconst (pc := 35) O dX4_add_35 ic_1 ?_
    refine v_iadd (pc := 36) O dX4_add_36 ?_
    refine v_putI (pc := 37) (a := t) O pf_X4_5 fl_X4_27 (kt_X4 ht) dX4_add_37 ?_
    refine v_sub [] rfl ?_
    exact w_X4_add_b40 O hm hn hz ht (sI (sI (sI D (t + 3) (dI D t 5).toNatClampNeg x1) (t + 4) (dI (sI D (t + 3) (dI D t 5).toNatClampNeg x1) t 5).toNatClampNeg x2) t 5 ((dI (sI (sI D (t + 3) (dI D t 5).toNatClampNeg x1) (t + 4) (dI (sI D (t + 3) (dI D t 5).toNatClampNeg x1) t 5).toNatClampNeg x2) t 5) + (1 : Int32))) h
theorem c_X4_add {l : Launch} {w : Wx} {n nu c u : Nat} {K : Nat → Nat} {t : Nat} (hm : wlm w = true) (ht : t = 191 ∨ t = 196) {x1 : Int32} {x2 : Int32} {D : Dat} {z : Dat} (h : f_X4_add t x1 x2 D = some z) : C0 l w yX4_add cX4_add 3 none 0 0 [.ref (wb w + pp t), .int x1, .int x2] n (Ax nu K c u) D none z :=
  C0.of (by decide) (Nat.le_of_ble_eq_true rfl) (fun X e1 e2 e3 hz O => by
  subst e1
  subst e2
  exact w_X4_add O hm e3 hz ht x1 x2 D h)
def f_X4_operation_b22 (t : Nat) (s0 : Int32) (D : Dat) : Option (Int32 × Dat) :=
  some (s0, D)
set_option maxHeartbeats 4000000 in
theorem w_X4_operation_b22 {X : Cx} {n nu c u : Nat} {K : Nat → Nat} {t : Nat} {z : Int32 × Dat} (O : Ok X cX4_operation RX4 (some .int) 0 0) (hm : wlm (xw X) = true) (hn : xn X = 2) (hz : Z0 X (Ax nu K c u)) (ht : t = 191 ∨ t = 196) (s0 : Int32) (D : Dat) (h : f_X4_operation_b22 t s0 D = some z) : V X (Q0 X n (Ax nu K c u) (some (.int z.1)) z.2) n (Ax nu K c u) D 22 [] [.int s0] := by
  unfold f_X4_operation_b22 at h
  obtain rfl := Option.some.inj h
  exact v_iret (pc := 22) O hz dX4_operation_22
def f_X4_operation_b21 (t : Nat) (D : Dat) : Option (Int32 × Dat) :=
  f_X4_operation_b22 t 0 D
set_option maxHeartbeats 4000000 in
theorem w_X4_operation_b21 {X : Cx} {n nu c u : Nat} {K : Nat → Nat} {t : Nat} {z : Int32 × Dat} (O : Ok X cX4_operation RX4 (some .int) 0 0) (hm : wlm (xw X) = true) (hn : xn X = 2) (hz : Z0 X (Ax nu K c u)) (ht : t = 191 ∨ t = 196) (D : Dat) (h : f_X4_operation_b21 t D = some z) : V X (Q0 X n (Ax nu K c u) (some (.int z.1)) z.2) n (Ax nu K c u) D 21 [] [] := by
  unfold f_X4_operation_b21 at h
  refine v_iconst (pc := 21) O dX4_operation_21 ic_0 ?_
  refine v_sub [] rfl ?_
  exact w_X4_operation_b22 O hm hn hz ht 0 D h
def f_X4_operation (t : Nat) (x1 : Int32) (D : Dat) : Option (Int32 × Dat) :=
  if x1 < 0 then (f_X4_operation_b21 t D) else (if (dI D t 5) ≤ x1 then (f_X4_operation_b21 t D) else (if x1 < 0 ∨ 240 ≤ (x1).toNatClampNeg then none else (f_X4_operation_b22 t (dI D (t + 3) (x1).toNatClampNeg) D)))
set_option maxHeartbeats 4000000 in
theorem w_X4_operation {X : Cx} {n nu c u : Nat} {K : Nat → Nat} {t : Nat} {z : Int32 × Dat} (O : Ok X cX4_operation RX4 (some .int) 0 0) (hm : wlm (xw X) = true) (hn : xn X = 2) (hz : Z0 X (Ax nu K c u)) (ht : t = 191 ∨ t = 196) (x1 : Int32) (D : Dat) (h : f_X4_operation t x1 D = some z) : V X (Q0 X n (Ax nu K c u) (some (.int z.1)) z.2) n (Ax nu K c u) D 0 [(0, .ref (bo X + pp t)), (1, .int x1)] [] := by
  unfold f_X4_operation at h
  refine v_iload_n (pc := 0) O dX4_operation_0 1 rfl ?_
  refine v_iflt (pc := 1) 21 O dX4_operation_1 (by decide) (fun c1 => ?_) (fun c1 => ?_)
  · have h := (if_pos c1).symm.trans h
    refine v_sub [] rfl ?_
    exact w_X4_operation_b21 O hm hn hz ht D h
  · have h := (if_neg c1).symm.trans h
    refine v_iload_n (pc := 4) O dX4_operation_4 1 rfl ?_
    refine v_aload_n (pc := 5) O dX4_operation_5 0 rfl ?_
    refine v_getI (pc := 6) (a := t) O gf_X4_5 fl_X4_27 (kt_X4 ht) dX4_operation_6 ?_
    refine v_icmpge (pc := 9) 21 O dX4_operation_9 (by decide) (fun c2 => ?_) (fun c2 => ?_)
    · have h := (if_pos c2).symm.trans h
      refine v_sub [] rfl ?_
      exact w_X4_operation_b21 O hm hn hz ht D h
    · have h := (if_neg c2).symm.trans h
      refine v_aload_n (pc := 12) O dX4_operation_12 0 rfl ?_
      refine v_getK (pc := 13) (a := t) O hm gf_X4_3 fl_X4_21 (kt_X4 ht) (lt_X4_3 ht) dX4_operation_13 ?_
      refine v_iload_n (pc := 16) O dX4_operation_16 1 rfl ?_
      obtain ⟨c3, h⟩ := or_none h
      refine v_iald (pc := 17) (a := (t + 3)) O (ka_X4_3 ht) (inq (la_X4_3 ht) c3) dX4_operation_17 ?_
      refine v_goto (pc := 18) 22 O dX4_operation_18 (by decide) ?_
      refine v_sub [] rfl ?_
      exact w_X4_operation_b22 O hm hn hz ht (dI D (t + 3) (x1).toNatClampNeg) D h
theorem c_X4_operation {l : Launch} {w : Wx} {n nu c u : Nat} {K : Nat → Nat} {t : Nat} (hm : wlm w = true) (ht : t = 191 ∨ t = 196) {x1 : Int32} {D : Dat} {z : Int32 × Dat} (h : f_X4_operation t x1 D = some z) : C0 l w yX4_operation cX4_operation 2 (some .int) 0 0 [.ref (wb w + pp t), .int x1] n (Ax nu K c u) D (some (.int z.1)) z.2 :=
  C0.of (by decide) (Nat.le_of_ble_eq_true rfl) (fun X e1 e2 e3 hz O => by
  subst e1
  subst e2
  exact w_X4_operation O hm e3 hz ht x1 D h)
def f_X4_argument_b22 (t : Nat) (s0 : Int32) (D : Dat) : Option (Int32 × Dat) :=
  some (s0, D)
set_option maxHeartbeats 4000000 in
theorem w_X4_argument_b22 {X : Cx} {n nu c u : Nat} {K : Nat → Nat} {t : Nat} {z : Int32 × Dat} (O : Ok X cX4_argument RX4 (some .int) 0 0) (hm : wlm (xw X) = true) (hn : xn X = 2) (hz : Z0 X (Ax nu K c u)) (ht : t = 191 ∨ t = 196) (s0 : Int32) (D : Dat) (h : f_X4_argument_b22 t s0 D = some z) : V X (Q0 X n (Ax nu K c u) (some (.int z.1)) z.2) n (Ax nu K c u) D 22 [] [.int s0] := by
  unfold f_X4_argument_b22 at h
  obtain rfl := Option.some.inj h
  exact v_iret (pc := 22) O hz dX4_argument_22
def f_X4_argument_b21 (t : Nat) (D : Dat) : Option (Int32 × Dat) :=
  f_X4_argument_b22 t 0 D
set_option maxHeartbeats 4000000 in
theorem w_X4_argument_b21 {X : Cx} {n nu c u : Nat} {K : Nat → Nat} {t : Nat} {z : Int32 × Dat} (O : Ok X cX4_argument RX4 (some .int) 0 0) (hm : wlm (xw X) = true) (hn : xn X = 2) (hz : Z0 X (Ax nu K c u)) (ht : t = 191 ∨ t = 196) (D : Dat) (h : f_X4_argument_b21 t D = some z) : V X (Q0 X n (Ax nu K c u) (some (.int z.1)) z.2) n (Ax nu K c u) D 21 [] [] := by
  unfold f_X4_argument_b21 at h
  refine v_iconst (pc := 21) O dX4_argument_21 ic_0 ?_
  refine v_sub [] rfl ?_
  exact w_X4_argument_b22 O hm hn hz ht 0 D h
def f_X4_argument (t : Nat) (x1 : Int32) (D : Dat) : Option (Int32 × Dat) :=
  if x1 < 0 then (f_X4_argument_b21 t D) else (if (dI D t 5) ≤ x1 then (f_X4_argument_b21 t D) else (if x1 < 0 ∨ 240 ≤ (x1).toNatClampNeg then none else (f_X4_argument_b22 t (dI D (t + 4) (x1).toNatClampNeg) D)))
set_option maxHeartbeats 4000000 in
theorem w_X4_argument {X : Cx} {n nu c u : Nat} {K : Nat → Nat} {t : Nat} {z : Int32 × Dat} (O : Ok X cX4_argument RX4 (some .int) 0 0) (hm : wlm (xw X) = true) (hn : xn X = 2) (hz : Z0 X (Ax nu K c u)) (ht : t = 191 ∨ t = 196) (x1 : Int32) (D : Dat) (h : f_X4_argument t x1 D = some z) : V X (Q0 X n (Ax nu K c u) (some (.int z.1)) z.2) n (Ax nu K c u) D 0 [(0, .ref (bo X + pp t)), (1, .int x1)] [] := by
  unfold f_X4_argument at h
  refine v_iload_n (pc := 0) O dX4_argument_0 1 rfl ?_
  refine v_iflt (pc := 1) 21 O dX4_argument_1 (by decide) (fun c1 => ?_) (fun c1 => ?_)
  · have h := (if_pos c1).symm.trans h
    refine v_sub [] rfl ?_
    exact w_X4_argument_b21 O hm hn hz ht D h
  · have h := (if_neg c1).symm.trans h
    refine v_iload_n (pc := 4) O dX4_argument_4 1 rfl ?_
    refine v_aload_n (pc := 5) O dX4_argument_5 0 rfl ?_
    refine v_getI (pc := 6) (a := t) O gf_X4_5 fl_X4_27 (kt_X4 ht) dX4_argument_6 ?_
    refine v_icmpge (pc := 9) 21 O dX4_argument_9 (by decide) (fun c2 => ?_) (fun c2 => ?_)
    · have h := (if_pos c2).symm.trans h
      refine v_sub [] rfl ?_
      exact w_X4_argument_b21 O hm hn hz ht D h
    · have h := (if_neg c2).symm.trans h
      refine v_aload_n (pc := 12) O dX4_argument_12 0 rfl ?_
      refine v_getK (pc := 13) (a := t) O hm gf_X4_4 fl_X4_24 (kt_X4 ht) (lt_X4_4 ht) dX4_argument_13 ?_
      refine v_iload_n (pc := 16) O dX4_argument_16 1 rfl ?_
      obtain ⟨c3, h⟩ := or_none h
      refine v_iald (pc := 17) (a := (t + 4)) O (ka_X4_4 ht) (inq (la_X4_4 ht) c3) dX4_argument_17 ?_
      refine v_goto (pc := 18) 22 O dX4_argument_18 (by decide) ?_
      refine v_sub [] rfl ?_
      exact w_X4_argument_b22 O hm hn hz ht (dI D (t + 4) (x1).toNatClampNeg) D h
theorem c_X4_argument {l : Launch} {w : Wx} {n nu c u : Nat} {K : Nat → Nat} {t : Nat} (hm : wlm w = true) (ht : t = 191 ∨ t = 196) {x1 : Int32} {D : Dat} {z : Int32 × Dat} (h : f_X4_argument t x1 D = some z) : C0 l w yX4_argument cX4_argument 2 (some .int) 0 0 [.ref (wb w + pp t), .int x1] n (Ax nu K c u) D (some (.int z.1)) z.2 :=
  C0.of (by decide) (Nat.le_of_ble_eq_true rfl) (fun X e1 e2 e3 hz O => by
  subst e1
  subst e2
  exact w_X4_argument O hm e3 hz ht x1 D h)
def f_X4_setMark_b17 (t : Nat) (D : Dat) : Option (Dat) :=
  some D
set_option maxHeartbeats 4000000 in
theorem w_X4_setMark_b17 {X : Cx} {n nu c u : Nat} {K : Nat → Nat} {t : Nat} {z : Dat} (O : Ok X cX4_setMark RX4 none 0 0) (hm : wlm (xw X) = true) (hn : xn X = 3) (hz : Z0 X (Ax nu K c u)) (ht : t = 191 ∨ t = 196) (D : Dat) (h : f_X4_setMark_b17 t D = some z) : V X (Q0 X n (Ax nu K c u) none z) n (Ax nu K c u) D 17 [] [] := by
  unfold f_X4_setMark_b17 at h
  obtain rfl := Option.some.inj h
  exact v_ret (pc := 17) O hz dX4_setMark_17
def f_X4_setMark (t : Nat) (x1 : Int32) (x2 : Int32) (D : Dat) : Option (Dat) :=
  if x1 < 0 then (f_X4_setMark_b17 t D) else (if 52 ≤ x1 then (f_X4_setMark_b17 t D) else (if x1 < 0 ∨ 52 ≤ (x1).toNatClampNeg then none else (f_X4_setMark_b17 t (sI D (t + 2) (x1).toNatClampNeg x2))))
set_option maxHeartbeats 4000000 in
theorem w_X4_setMark {X : Cx} {n nu c u : Nat} {K : Nat → Nat} {t : Nat} {z : Dat} (O : Ok X cX4_setMark RX4 none 0 0) (hm : wlm (xw X) = true) (hn : xn X = 3) (hz : Z0 X (Ax nu K c u)) (ht : t = 191 ∨ t = 196) (x1 : Int32) (x2 : Int32) (D : Dat) (h : f_X4_setMark t x1 x2 D = some z) : V X (Q0 X n (Ax nu K c u) none z) n (Ax nu K c u) D 0 [(0, .ref (bo X + pp t)), (1, .int x1), (2, .int x2)] [] := by
  unfold f_X4_setMark at h
  refine v_iload_n (pc := 0) O dX4_setMark_0 1 rfl ?_
  refine v_iflt (pc := 1) 17 O dX4_setMark_1 (by decide) (fun c1 => ?_) (fun c1 => ?_)
  · have h := (if_pos c1).symm.trans h
    refine v_sub [] rfl ?_
    exact w_X4_setMark_b17 O hm hn hz ht D h
  · have h := (if_neg c1).symm.trans h
    refine v_iload_n (pc := 4) O dX4_setMark_4 1 rfl ?_
    refine v_bipush (pc := 5) O dX4_setMark_5 bp_52 ?_
    refine v_icmpge (pc := 7) 17 O dX4_setMark_7 (by decide) (fun c2 => ?_) (fun c2 => ?_)
    · have h := (if_pos c2).symm.trans h
      refine v_sub [] rfl ?_
      exact w_X4_setMark_b17 O hm hn hz ht D h
    · have h := (if_neg c2).symm.trans h
      refine v_aload_n (pc := 10) O dX4_setMark_10 0 rfl ?_
      refine v_getK (pc := 11) (a := t) O hm gf_X4_2 fl_X4_17 (kt_X4 ht) (lt_X4_2 ht) dX4_setMark_11 ?_
      refine v_iload_n (pc := 14) O dX4_setMark_14 1 rfl ?_
      refine v_iload_n (pc := 15) O dX4_setMark_15 2 rfl ?_
      obtain ⟨c3, h⟩ := or_none h
      refine v_iast (pc := 16) (a := (t + 2)) O (ka_X4_2 ht) (inq (la_X4_2 ht) c3) dX4_setMark_16 ?_
      refine v_sub [] rfl ?_
      exact w_X4_setMark_b17 O hm hn hz ht (sI D (t + 2) (x1).toNatClampNeg x2) h
theorem c_X4_setMark {l : Launch} {w : Wx} {n nu c u : Nat} {K : Nat → Nat} {t : Nat} (hm : wlm w = true) (ht : t = 191 ∨ t = 196) {x1 : Int32} {x2 : Int32} {D : Dat} {z : Dat} (h : f_X4_setMark t x1 x2 D = some z) : C0 l w yX4_setMark cX4_setMark 3 none 0 0 [.ref (wb w + pp t), .int x1, .int x2] n (Ax nu K c u) D none z :=
  C0.of (by decide) (Nat.le_of_ble_eq_true rfl) (fun X e1 e2 e3 hz O => by
  subst e1
  subst e2
  exact w_X4_setMark O hm e3 hz ht x1 x2 D h)
def f_X4_copyMarks (nu : Nat) (K : Nat → Nat) (t : Nat) (x1 : Nat) (D : Dat) : Option (Dat) :=
  if kd K x1 = 14 then (if kd K x1 = 14 then (if (¬ (0 : Int32) < 0) ∧ (¬ (0 : Int32) < 0) ∧ (¬ (if (Int32.ofNat (nl nu x1)) < (Int32.ofNat 52) then (Int32.ofNat (nl nu x1)) else (Int32.ofNat 52)) < 0) ∧ (0 : Int32).toNatClampNeg + (if (Int32.ofNat (nl nu x1)) < (Int32.ofNat 52) then (Int32.ofNat (nl nu x1)) else (Int32.ofNat 52)).toNatClampNeg ≤ 52 ∧ (0 : Int32).toNatClampNeg + (if (Int32.ofNat (nl nu x1)) < (Int32.ofNat 52) then (Int32.ofNat (nl nu x1)) else (Int32.ofNat 52)).toNatClampNeg ≤ (nl nu x1) then (some (sC D (t + 2) x1 (0 : Int32).toNatClampNeg (0 : Int32).toNatClampNeg (if (Int32.ofNat (nl nu x1)) < (Int32.ofNat 52) then (Int32.ofNat (nl nu x1)) else (Int32.ofNat 52)).toNatClampNeg)) else none) else none) else none
set_option maxHeartbeats 4000000 in
theorem w_X4_copyMarks {X : Cx} {n nu c u : Nat} {K : Nat → Nat} {t : Nat} {z : Dat} (O : Ok X cX4_copyMarks RX4 none 1 30) (hm : wlm (xw X) = true) (hn : xn X = 2) (hz : Z0 X (Ax nu K c u)) (ht : t = 191 ∨ t = 196) (x1 : Nat) (D : Dat) (h : f_X4_copyMarks nu K t x1 D = some z) : V X (Q0 X n (Ax nu K c u) none z) n (Ax nu K c u) D 0 [(0, .ref (bo X + pp t)), (1, .ref (bo X + pp x1))] [] := by
  unfold f_X4_copyMarks at h
  refine v_aload_n (pc := 0) O dX4_copyMarks_0 0 rfl ?_
  refine v_getK (pc := 1) (a := t) O hm gf_X4_2 fl_X4_17 (kt_X4 ht) (lt_X4_2 ht) dX4_copyMarks_1 ?_
  refine v_iconst (pc := 4) O dX4_copyMarks_4 ic_0 ?_
  refine v_aload_n (pc := 5) O dX4_copyMarks_5 1 rfl ?_
  refine v_iconst (pc := 6) O dX4_copyMarks_6 ic_0 ?_
  refine v_aload_n (pc := 7) O dX4_copyMarks_7 0 rfl ?_
  refine v_getK (pc := 8) (a := t) O hm gf_X4_2 fl_X4_17 (kt_X4 ht) (lt_X4_2 ht) dX4_copyMarks_8 ?_
  refine v_alenI (pc := 11) (a := (t + 2)) O (ka_X4_2 ht) dX4_copyMarks_11 ?_
  rw [show (Ax nu K c u).2.1 (t + 2) = 52 from (la_X4_2 ht)]
  refine v_aload_n (pc := 12) O dX4_copyMarks_12 1 rfl ?_
  obtain ⟨c1, h⟩ := if_none h
  refine v_alenI (pc := 13) (a := x1) O c1 dX4_copyMarks_13 ?_
  refine v_min (pc := 14) O (bb0 hz) ml_X4_41 sm_min ini_Math cw_min (by decide) (Nat.le_of_ble_eq_true rfl) dX4_copyMarks_14 ?_
  obtain ⟨c2, h⟩ := if_none h
  obtain ⟨c3, h⟩ := if_none h
  refine v_copy (pc := 17) (a0 := (t + 2)) (a := x1) O ml_X4_47 nat_acopy sm_acopy ini_System (ka_X4_2 ht) c2 c3.1 c3.2.1 c3.2.2.1 (by rw [show (Ax nu K c u).2.1 (t + 2) = 52 from (la_X4_2 ht)]; exact c3.2.2.2.1) (by rw [show (Ax nu K c u).2.1 x1 = (nl nu x1) from rfl]; exact c3.2.2.2.2) (by decide) (Nat.le_of_ble_eq_true rfl) dX4_copyMarks_17 ?_
  obtain rfl := Option.some.inj h
  exact v_ret (pc := 20) O hz dX4_copyMarks_20
theorem c_X4_copyMarks {l : Launch} {w : Wx} {n nu c u : Nat} {K : Nat → Nat} {t : Nat} (hm : wlm w = true) (ht : t = 191 ∨ t = 196) {x1 : Nat} {D : Dat} {z : Dat} (h : f_X4_copyMarks nu K t x1 D = some z) : C0 l w yX4_copyMarks cX4_copyMarks 2 none 1 30 [.ref (wb w + pp t), .ref (wb w + pp x1)] n (Ax nu K c u) D none z :=
  C0.of (by decide) (Nat.le_of_ble_eq_true rfl) (fun X e1 e2 e3 hz O => by
  subst e1
  subst e2
  exact w_X4_copyMarks O hm e3 hz ht x1 D h)
def f_X4_variableMark_b20 (t : Nat) (s0 : Int32) (D : Dat) : Option (Int32 × Dat) :=
  some (s0, D)
set_option maxHeartbeats 4000000 in
theorem w_X4_variableMark_b20 {X : Cx} {n nu c u : Nat} {K : Nat → Nat} {t : Nat} {z : Int32 × Dat} (O : Ok X cX4_variableMark RX4 (some .int) 0 0) (hm : wlm (xw X) = true) (hn : xn X = 2) (hz : Z0 X (Ax nu K c u)) (ht : t = 191 ∨ t = 196) (s0 : Int32) (D : Dat) (h : f_X4_variableMark_b20 t s0 D = some z) : V X (Q0 X n (Ax nu K c u) (some (.int z.1)) z.2) n (Ax nu K c u) D 20 [] [.int s0] := by
  unfold f_X4_variableMark_b20 at h
  obtain rfl := Option.some.inj h
  exact v_iret (pc := 20) O hz dX4_variableMark_20
def f_X4_variableMark_b19 (t : Nat) (D : Dat) : Option (Int32 × Dat) :=
  f_X4_variableMark_b20 t (-1) D
set_option maxHeartbeats 4000000 in
theorem w_X4_variableMark_b19 {X : Cx} {n nu c u : Nat} {K : Nat → Nat} {t : Nat} {z : Int32 × Dat} (O : Ok X cX4_variableMark RX4 (some .int) 0 0) (hm : wlm (xw X) = true) (hn : xn X = 2) (hz : Z0 X (Ax nu K c u)) (ht : t = 191 ∨ t = 196) (D : Dat) (h : f_X4_variableMark_b19 t D = some z) : V X (Q0 X n (Ax nu K c u) (some (.int z.1)) z.2) n (Ax nu K c u) D 19 [] [] := by
  unfold f_X4_variableMark_b19 at h
  refine v_iconst (pc := 19) O dX4_variableMark_19 ic_m1 ?_
  refine v_sub [] rfl ?_
  exact w_X4_variableMark_b20 O hm hn hz ht (-1) D h
def f_X4_variableMark (t : Nat) (x1 : Int32) (D : Dat) : Option (Int32 × Dat) :=
  if x1 < 0 then (f_X4_variableMark_b19 t D) else (if 26 ≤ x1 then (f_X4_variableMark_b19 t D) else (if x1 < 0 ∨ 52 ≤ (x1).toNatClampNeg then none else (f_X4_variableMark_b20 t (dI D (t + 2) (x1).toNatClampNeg) D)))
set_option maxHeartbeats 4000000 in
theorem w_X4_variableMark {X : Cx} {n nu c u : Nat} {K : Nat → Nat} {t : Nat} {z : Int32 × Dat} (O : Ok X cX4_variableMark RX4 (some .int) 0 0) (hm : wlm (xw X) = true) (hn : xn X = 2) (hz : Z0 X (Ax nu K c u)) (ht : t = 191 ∨ t = 196) (x1 : Int32) (D : Dat) (h : f_X4_variableMark t x1 D = some z) : V X (Q0 X n (Ax nu K c u) (some (.int z.1)) z.2) n (Ax nu K c u) D 0 [(0, .ref (bo X + pp t)), (1, .int x1)] [] := by
  unfold f_X4_variableMark at h
  refine v_iload_n (pc := 0) O dX4_variableMark_0 1 rfl ?_
  refine v_iflt (pc := 1) 19 O dX4_variableMark_1 (by decide) (fun c1 => ?_) (fun c1 => ?_)
  · have h := (if_pos c1).symm.trans h
    refine v_sub [] rfl ?_
    exact w_X4_variableMark_b19 O hm hn hz ht D h
  · have h := (if_neg c1).symm.trans h
    refine v_iload_n (pc := 4) O dX4_variableMark_4 1 rfl ?_
    refine v_bipush (pc := 5) O dX4_variableMark_5 bp_26 ?_
    refine v_icmpge (pc := 7) 19 O dX4_variableMark_7 (by decide) (fun c2 => ?_) (fun c2 => ?_)
    · have h := (if_pos c2).symm.trans h
      refine v_sub [] rfl ?_
      exact w_X4_variableMark_b19 O hm hn hz ht D h
    · have h := (if_neg c2).symm.trans h
      refine v_aload_n (pc := 10) O dX4_variableMark_10 0 rfl ?_
      refine v_getK (pc := 11) (a := t) O hm gf_X4_2 fl_X4_17 (kt_X4 ht) (lt_X4_2 ht) dX4_variableMark_11 ?_
      refine v_iload_n (pc := 14) O dX4_variableMark_14 1 rfl ?_
      obtain ⟨c3, h⟩ := or_none h
      refine v_iald (pc := 15) (a := (t + 2)) O (ka_X4_2 ht) (inq (la_X4_2 ht) c3) dX4_variableMark_15 ?_
      refine v_goto (pc := 16) 20 O dX4_variableMark_16 (by decide) ?_
      refine v_sub [] rfl ?_
      exact w_X4_variableMark_b20 O hm hn hz ht (dI D (t + 2) (x1).toNatClampNeg) D h
theorem c_X4_variableMark {l : Launch} {w : Wx} {n nu c u : Nat} {K : Nat → Nat} {t : Nat} (hm : wlm w = true) (ht : t = 191 ∨ t = 196) {x1 : Int32} {D : Dat} {z : Int32 × Dat} (h : f_X4_variableMark t x1 D = some z) : C0 l w yX4_variableMark cX4_variableMark 2 (some .int) 0 0 [.ref (wb w + pp t), .int x1] n (Ax nu K c u) D (some (.int z.1)) z.2 :=
  C0.of (by decide) (Nat.le_of_ble_eq_true rfl) (fun X e1 e2 e3 hz O => by
  subst e1
  subst e2
  exact w_X4_variableMark O hm e3 hz ht x1 D h)
def f_X4_rowMark_b23 (t : Nat) (s0 : Int32) (D : Dat) : Option (Int32 × Dat) :=
  some (s0, D)
set_option maxHeartbeats 4000000 in
theorem w_X4_rowMark_b23 {X : Cx} {n nu c u : Nat} {K : Nat → Nat} {t : Nat} {z : Int32 × Dat} (O : Ok X cX4_rowMark RX4 (some .int) 0 0) (hm : wlm (xw X) = true) (hn : xn X = 2) (hz : Z0 X (Ax nu K c u)) (ht : t = 191 ∨ t = 196) (s0 : Int32) (D : Dat) (h : f_X4_rowMark_b23 t s0 D = some z) : V X (Q0 X n (Ax nu K c u) (some (.int z.1)) z.2) n (Ax nu K c u) D 23 [] [.int s0] := by
  unfold f_X4_rowMark_b23 at h
  obtain rfl := Option.some.inj h
  exact v_iret (pc := 23) O hz dX4_rowMark_23
def f_X4_rowMark_b22 (t : Nat) (D : Dat) : Option (Int32 × Dat) :=
  f_X4_rowMark_b23 t (-1) D
set_option maxHeartbeats 4000000 in
theorem w_X4_rowMark_b22 {X : Cx} {n nu c u : Nat} {K : Nat → Nat} {t : Nat} {z : Int32 × Dat} (O : Ok X cX4_rowMark RX4 (some .int) 0 0) (hm : wlm (xw X) = true) (hn : xn X = 2) (hz : Z0 X (Ax nu K c u)) (ht : t = 191 ∨ t = 196) (D : Dat) (h : f_X4_rowMark_b22 t D = some z) : V X (Q0 X n (Ax nu K c u) (some (.int z.1)) z.2) n (Ax nu K c u) D 22 [] [] := by
  unfold f_X4_rowMark_b22 at h
  refine v_iconst (pc := 22) O dX4_rowMark_22 ic_m1 ?_
  refine v_sub [] rfl ?_
  exact w_X4_rowMark_b23 O hm hn hz ht (-1) D h
def f_X4_rowMark (t : Nat) (x1 : Int32) (D : Dat) : Option (Int32 × Dat) :=
  if x1 < 0 then (f_X4_rowMark_b22 t D) else (if 26 ≤ x1 then (f_X4_rowMark_b22 t D) else (if ((26 : Int32) + x1) < 0 ∨ 52 ≤ (((26 : Int32) + x1)).toNatClampNeg then none else (f_X4_rowMark_b23 t (dI D (t + 2) ((26 : Int32) + x1).toNatClampNeg) D)))
set_option maxHeartbeats 4000000 in
theorem w_X4_rowMark {X : Cx} {n nu c u : Nat} {K : Nat → Nat} {t : Nat} {z : Int32 × Dat} (O : Ok X cX4_rowMark RX4 (some .int) 0 0) (hm : wlm (xw X) = true) (hn : xn X = 2) (hz : Z0 X (Ax nu K c u)) (ht : t = 191 ∨ t = 196) (x1 : Int32) (D : Dat) (h : f_X4_rowMark t x1 D = some z) : V X (Q0 X n (Ax nu K c u) (some (.int z.1)) z.2) n (Ax nu K c u) D 0 [(0, .ref (bo X + pp t)), (1, .int x1)] [] := by
  unfold f_X4_rowMark at h
  refine v_iload_n (pc := 0) O dX4_rowMark_0 1 rfl ?_
  refine v_iflt (pc := 1) 22 O dX4_rowMark_1 (by decide) (fun c1 => ?_) (fun c1 => ?_)
  · have h := (if_pos c1).symm.trans h
    refine v_sub [] rfl ?_
    exact w_X4_rowMark_b22 O hm hn hz ht D h
  · have h := (if_neg c1).symm.trans h
    refine v_iload_n (pc := 4) O dX4_rowMark_4 1 rfl ?_
    refine v_bipush (pc := 5) O dX4_rowMark_5 bp_26 ?_
    refine v_icmpge (pc := 7) 22 O dX4_rowMark_7 (by decide) (fun c2 => ?_) (fun c2 => ?_)
    · have h := (if_pos c2).symm.trans h
      refine v_sub [] rfl ?_
      exact w_X4_rowMark_b22 O hm hn hz ht D h
    · have h := (if_neg c2).symm.trans h
      refine v_aload_n (pc := 10) O dX4_rowMark_10 0 rfl ?_
      refine v_getK (pc := 11) (a := t) O hm gf_X4_2 fl_X4_17 (kt_X4 ht) (lt_X4_2 ht) dX4_rowMark_11 ?_
      refine v_bipush (pc := 14) O dX4_rowMark_14 bp_26 ?_
      refine v_iload_n (pc := 16) O dX4_rowMark_16 1 rfl ?_
      refine v_iadd (pc := 17) O dX4_rowMark_17 ?_
      obtain ⟨c3, h⟩ := or_none h
      refine v_iald (pc := 18) (a := (t + 2)) O (ka_X4_2 ht) (inq (la_X4_2 ht) c3) dX4_rowMark_18 ?_
      refine v_goto (pc := 19) 23 O dX4_rowMark_19 (by decide) ?_
      refine v_sub [] rfl ?_
      exact w_X4_rowMark_b23 O hm hn hz ht (dI D (t + 2) ((26 : Int32) + x1).toNatClampNeg) D h
theorem c_X4_rowMark {l : Launch} {w : Wx} {n nu c u : Nat} {K : Nat → Nat} {t : Nat} (hm : wlm w = true) (ht : t = 191 ∨ t = 196) {x1 : Int32} {D : Dat} {z : Int32 × Dat} (h : f_X4_rowMark t x1 D = some z) : C0 l w yX4_rowMark cX4_rowMark 2 (some .int) 0 0 [.ref (wb w + pp t), .int x1] n (Ax nu K c u) D (some (.int z.1)) z.2 :=
  C0.of (by decide) (Nat.le_of_ble_eq_true rfl) (fun X e1 e2 e3 hz O => by
  subst e1
  subst e2
  exact w_X4_rowMark O hm e3 hz ht x1 D h)
def f_X4_setProc_b17 (nu : Nat) (K : Nat → Nat) (t : Nat) (D : Dat) : Option (Dat) :=
  some D
set_option maxHeartbeats 4000000 in
theorem w_X4_setProc_b17 {X : Cx} {n nu c u : Nat} {K : Nat → Nat} {t : Nat} {z : Dat} (O : Ok X cX4_setProc RX4 none 0 0) (hm : wlm (xw X) = true) (hn : xn X = 3) (hz : Z0 X (Ax nu K c u)) (ht : t = 191 ∨ t = 196) (D : Dat) (h : f_X4_setProc_b17 nu K t D = some z) : V X (Q0 X n (Ax nu K c u) none z) n (Ax nu K c u) D 17 [] [] := by
  unfold f_X4_setProc_b17 at h
  obtain rfl := Option.some.inj h
  exact v_ret (pc := 17) O hz dX4_setProc_17
def f_X4_setProc (nu : Nat) (K : Nat → Nat) (t : Nat) (x1 : Int32) (x2 : Option Nat) (D : Dat) : Option (Dat) :=
  if x1 < 0 then (f_X4_setProc_b17 nu K t D) else (if 26 ≤ x1 then (f_X4_setProc_b17 nu K t D) else (if x1 < 0 ∨ 26 ≤ (x1).toNatClampNeg then none else (if okS K x2 = true then (f_X4_setProc_b17 nu K t (sR D (t + 1) (x1).toNatClampNeg x2)) else none)))
set_option maxHeartbeats 4000000 in
theorem w_X4_setProc {X : Cx} {n nu c u : Nat} {K : Nat → Nat} {t : Nat} {z : Dat} (O : Ok X cX4_setProc RX4 none 0 0) (hm : wlm (xw X) = true) (hn : xn X = 3) (hz : Z0 X (Ax nu K c u)) (ht : t = 191 ∨ t = 196) (x1 : Int32) (x2 : Option Nat) (D : Dat) (h : f_X4_setProc nu K t x1 x2 D = some z) : V X (Q0 X n (Ax nu K c u) none z) n (Ax nu K c u) D 0 [(0, .ref (bo X + pp t)), (1, .int x1), (2, rv (bo X) x2)] [] := by
  unfold f_X4_setProc at h
  refine v_iload_n (pc := 0) O dX4_setProc_0 1 rfl ?_
  refine v_iflt (pc := 1) 17 O dX4_setProc_1 (by decide) (fun c1 => ?_) (fun c1 => ?_)
  · have h := (if_pos c1).symm.trans h
    refine v_sub [] rfl ?_
    exact w_X4_setProc_b17 O hm hn hz ht D h
  · have h := (if_neg c1).symm.trans h
    refine v_iload_n (pc := 4) O dX4_setProc_4 1 rfl ?_
    refine v_bipush (pc := 5) O dX4_setProc_5 bp_26 ?_
    refine v_icmpge (pc := 7) 17 O dX4_setProc_7 (by decide) (fun c2 => ?_) (fun c2 => ?_)
    · have h := (if_pos c2).symm.trans h
      refine v_sub [] rfl ?_
      exact w_X4_setProc_b17 O hm hn hz ht D h
    · have h := (if_neg c2).symm.trans h
      refine v_aload_n (pc := 10) O dX4_setProc_10 0 rfl ?_
      refine v_getK (pc := 11) (a := t) O hm gf_X4_1 fl_X4_11 (kt_X4 ht) (lt_X4_1 ht) dX4_setProc_11 ?_
      refine v_iload_n (pc := 14) O dX4_setProc_14 1 rfl ?_
      refine v_aload_nr (pc := 15) O dX4_setProc_15 2 rfl ?_
      obtain ⟨c3, h⟩ := or_none h
      obtain ⟨c4, h⟩ := if_none h
      refine v_aast (pc := 16) (a := (t + 1)) (r := x2) O (ka_X4_1 ht) (inq (la_X4_1 ht) c3) (okst c4) dX4_setProc_16 ?_
      refine v_sub [] rfl ?_
      exact w_X4_setProc_b17 O hm hn hz ht (sR D (t + 1) (x1).toNatClampNeg x2) h
theorem c_X4_setProc {l : Launch} {w : Wx} {n nu c u : Nat} {K : Nat → Nat} {t : Nat} (hm : wlm w = true) (ht : t = 191 ∨ t = 196) {x1 : Int32} {x2 : Option Nat} {D : Dat} {z : Dat} (h : f_X4_setProc nu K t x1 x2 D = some z) : C0 l w yX4_setProc cX4_setProc 3 none 0 0 [.ref (wb w + pp t), .int x1, rv (wb w) x2] n (Ax nu K c u) D none z :=
  C0.of (by decide) (by simp [lg_sl, rv_cat, cat_i, cat_l, cat_r, cat_n, fmt_cat]) (fun X e1 e2 e3 hz O => by
  subst e1
  subst e2
  have q : lv_args 0 [.ref (bo X + pp t), .int x1, rv (bo X) x2] = [(0, .ref (bo X + pp t)), (1, .int x1), (2, rv (bo X) x2)] := by simp [lv_args, rv_cat, cat_i, cat_l, cat_r, cat_n, fmt_cat]
  show V X _ n _ D 0 (lv_args 0 [.ref (bo X + pp t), .int x1, rv (bo X) x2]) []
  rw [q]
  exact w_X4_setProc O hm e3 hz ht x1 x2 D h)
def f_X4_proc_b20 (t : Nat) (s0 : Option Nat) (D : Dat) : Option (Option Nat × Dat) :=
  some (s0, D)
set_option maxHeartbeats 4000000 in
theorem w_X4_proc_b20 {X : Cx} {n nu c u : Nat} {K : Nat → Nat} {t : Nat} {z : Option Nat × Dat} (O : Ok X cX4_proc RX4 (some (.object "FlowChain$Statement")) 0 0) (hm : wlm (xw X) = true) (hn : xn X = 2) (hz : Z0 X (Ax nu K c u)) (ht : t = 191 ∨ t = 196) (s0 : Option Nat) (D : Dat) (h : f_X4_proc_b20 t s0 D = some z) : V X (Q0 X n (Ax nu K c u) (some (rv (bo X) z.1)) z.2) n (Ax nu K c u) D 20 [] [rv (bo X) s0] := by
  unfold f_X4_proc_b20 at h
  obtain rfl := Option.some.inj h
  exact v_aret (pc := 20) (r := s0) O hz dX4_proc_20
def f_X4_proc_b19 (t : Nat) (D : Dat) : Option (Option Nat × Dat) :=
  f_X4_proc_b20 t none D
set_option maxHeartbeats 4000000 in
theorem w_X4_proc_b19 {X : Cx} {n nu c u : Nat} {K : Nat → Nat} {t : Nat} {z : Option Nat × Dat} (O : Ok X cX4_proc RX4 (some (.object "FlowChain$Statement")) 0 0) (hm : wlm (xw X) = true) (hn : xn X = 2) (hz : Z0 X (Ax nu K c u)) (ht : t = 191 ∨ t = 196) (D : Dat) (h : f_X4_proc_b19 t D = some z) : V X (Q0 X n (Ax nu K c u) (some (rv (bo X) z.1)) z.2) n (Ax nu K c u) D 19 [] [] := by
  unfold f_X4_proc_b19 at h
  refine v_null (pc := 19) O dX4_proc_19 ?_
  refine v_sub [] rfl ?_
  exact w_X4_proc_b20 O hm hn hz ht none D h
def f_X4_proc (t : Nat) (x1 : Int32) (D : Dat) : Option (Option Nat × Dat) :=
  if x1 < 0 then (f_X4_proc_b19 t D) else (if 26 ≤ x1 then (f_X4_proc_b19 t D) else (if x1 < 0 ∨ 26 ≤ (x1).toNatClampNeg then none else (f_X4_proc_b20 t (dR D (t + 1) (x1).toNatClampNeg) D)))
set_option maxHeartbeats 4000000 in
theorem w_X4_proc {X : Cx} {n nu c u : Nat} {K : Nat → Nat} {t : Nat} {z : Option Nat × Dat} (O : Ok X cX4_proc RX4 (some (.object "FlowChain$Statement")) 0 0) (hm : wlm (xw X) = true) (hn : xn X = 2) (hz : Z0 X (Ax nu K c u)) (ht : t = 191 ∨ t = 196) (x1 : Int32) (D : Dat) (h : f_X4_proc t x1 D = some z) : V X (Q0 X n (Ax nu K c u) (some (rv (bo X) z.1)) z.2) n (Ax nu K c u) D 0 [(0, .ref (bo X + pp t)), (1, .int x1)] [] := by
  unfold f_X4_proc at h
  refine v_iload_n (pc := 0) O dX4_proc_0 1 rfl ?_
  refine v_iflt (pc := 1) 19 O dX4_proc_1 (by decide) (fun c1 => ?_) (fun c1 => ?_)
  · have h := (if_pos c1).symm.trans h
    refine v_sub [] rfl ?_
    exact w_X4_proc_b19 O hm hn hz ht D h
  · have h := (if_neg c1).symm.trans h
    refine v_iload_n (pc := 4) O dX4_proc_4 1 rfl ?_
    refine v_bipush (pc := 5) O dX4_proc_5 bp_26 ?_
    refine v_icmpge (pc := 7) 19 O dX4_proc_7 (by decide) (fun c2 => ?_) (fun c2 => ?_)
    · have h := (if_pos c2).symm.trans h
      refine v_sub [] rfl ?_
      exact w_X4_proc_b19 O hm hn hz ht D h
    · have h := (if_neg c2).symm.trans h
      refine v_aload_n (pc := 10) O dX4_proc_10 0 rfl ?_
      refine v_getK (pc := 11) (a := t) O hm gf_X4_1 fl_X4_11 (kt_X4 ht) (lt_X4_1 ht) dX4_proc_11 ?_
      refine v_iload_n (pc := 14) O dX4_proc_14 1 rfl ?_
      obtain ⟨c3, h⟩ := or_none h
      refine v_aaldS (pc := 15) (a := (t + 1)) O (ka_X4_1 ht) (inq (la_X4_1 ht) c3) dX4_proc_15 ?_
      refine v_goto (pc := 16) 20 O dX4_proc_16 (by decide) ?_
      refine v_sub [] rfl ?_
      exact w_X4_proc_b20 O hm hn hz ht (dR D (t + 1) (x1).toNatClampNeg) D h
theorem c_X4_proc {l : Launch} {w : Wx} {n nu c u : Nat} {K : Nat → Nat} {t : Nat} (hm : wlm w = true) (ht : t = 191 ∨ t = 196) {x1 : Int32} {D : Dat} {z : Option Nat × Dat} (h : f_X4_proc t x1 D = some z) : C0 l w yX4_proc cX4_proc 2 (some (.object "FlowChain$Statement")) 0 0 [.ref (wb w + pp t), .int x1] n (Ax nu K c u) D (some (rv (wb w) z.1)) z.2 :=
  C0.of (by decide) (Nat.le_of_ble_eq_true rfl) (fun X e1 e2 e3 hz O => by
  subst e1
  subst e2
  exact w_X4_proc O hm e3 hz ht x1 D h)
def f_X3_isMark_b15 (s0 : Int32) (D : Dat) : Option (Int32 × Dat) :=
  if s0 &&& 1 = s0 then some (s0, D) else none
set_option maxHeartbeats 4000000 in
theorem w_X3_isMark_b15 {X : Cx} {n nu c u : Nat} {K : Nat → Nat} {z : Int32 × Dat} (O : Ok X cX3_isMark RX3 (some .boolean) 0 0) (hm : wlm (xw X) = true) (hn : xn X = 1) (hz : Z0 X (Ax nu K c u)) (s0 : Int32) (D : Dat) (h : f_X3_isMark_b15 s0 D = some z) : V X (Q0 X n (Ax nu K c u) (some (.int z.1)) z.2) n (Ax nu K c u) D 15 [] [.int s0] := by
  unfold f_X3_isMark_b15 at h
  obtain ⟨c1, h⟩ := if_none h
  obtain rfl := Option.some.inj h
  exact v_zret (pc := 15) O hz (congrArg Value.int c1) dX3_isMark_15
def f_X3_isMark_b14 (D : Dat) : Option (Int32 × Dat) :=
  f_X3_isMark_b15 0 D
set_option maxHeartbeats 4000000 in
theorem w_X3_isMark_b14 {X : Cx} {n nu c u : Nat} {K : Nat → Nat} {z : Int32 × Dat} (O : Ok X cX3_isMark RX3 (some .boolean) 0 0) (hm : wlm (xw X) = true) (hn : xn X = 1) (hz : Z0 X (Ax nu K c u)) (D : Dat) (h : f_X3_isMark_b14 D = some z) : V X (Q0 X n (Ax nu K c u) (some (.int z.1)) z.2) n (Ax nu K c u) D 14 [] [] := by
  unfold f_X3_isMark_b14 at h
  refine v_iconst (pc := 14) O dX3_isMark_14 ic_0 ?_
  refine v_sub [] rfl ?_
  exact w_X3_isMark_b15 O hm hn hz 0 D h
def f_X3_isMark (x0 : Int32) (D : Dat) : Option (Int32 × Dat) :=
  if x0 < 0 then (f_X3_isMark_b14 D) else (if 6 ≤ x0 then (f_X3_isMark_b14 D) else (f_X3_isMark_b15 1 D))
set_option maxHeartbeats 4000000 in
theorem w_X3_isMark {X : Cx} {n nu c u : Nat} {K : Nat → Nat} {z : Int32 × Dat} (O : Ok X cX3_isMark RX3 (some .boolean) 0 0) (hm : wlm (xw X) = true) (hn : xn X = 1) (hz : Z0 X (Ax nu K c u)) (x0 : Int32) (D : Dat) (h : f_X3_isMark x0 D = some z) : V X (Q0 X n (Ax nu K c u) (some (.int z.1)) z.2) n (Ax nu K c u) D 0 [(0, .int x0)] [] := by
  unfold f_X3_isMark at h
  refine v_iload_n (pc := 0) O dX3_isMark_0 0 rfl ?_
  refine v_iflt (pc := 1) 14 O dX3_isMark_1 (by decide) (fun c2 => ?_) (fun c2 => ?_)
  · have h := (if_pos c2).symm.trans h
    refine v_sub [] rfl ?_
    exact w_X3_isMark_b14 O hm hn hz D h
  · have h := (if_neg c2).symm.trans h
    refine v_iload_n (pc := 4) O dX3_isMark_4 0 rfl ?_
    refine v_bipush (pc := 5) O dX3_isMark_5 bp_6 ?_
    refine v_icmpge (pc := 7) 14 O dX3_isMark_7 (by decide) (fun c3 => ?_) (fun c3 => ?_)
    · have h := (if_pos c3).symm.trans h
      refine v_sub [] rfl ?_
      exact w_X3_isMark_b14 O hm hn hz D h
    · have h := (if_neg c3).symm.trans h
      refine v_iconst (pc := 10) O dX3_isMark_10 ic_1 ?_
      refine v_goto (pc := 11) 15 O dX3_isMark_11 (by decide) ?_
      refine v_sub [] rfl ?_
      exact w_X3_isMark_b15 O hm hn hz 1 D h
theorem c_X3_isMark {l : Launch} {w : Wx} {n nu c u : Nat} {K : Nat → Nat} (hm : wlm w = true) {x0 : Int32} {D : Dat} {z : Int32 × Dat} (h : f_X3_isMark x0 D = some z) : C0 l w yX3_isMark cX3_isMark 1 (some .boolean) 0 0 [.int x0] n (Ax nu K c u) D (some (.int z.1)) z.2 :=
  C0.of (by decide) (Nat.le_of_ble_eq_true rfl) (fun X e1 e2 e3 hz O => by
  subst e1
  subst e2
  exact w_X3_isMark O hm e3 hz x0 D h)
def f_X3_isCell_b16 (s0 : Int32) (D : Dat) : Option (Int32 × Dat) :=
  if s0 &&& 1 = s0 then some (s0, D) else none
set_option maxHeartbeats 4000000 in
theorem w_X3_isCell_b16 {X : Cx} {n nu c u : Nat} {K : Nat → Nat} {z : Int32 × Dat} (O : Ok X cX3_isCell RX3 (some .boolean) 0 0) (hm : wlm (xw X) = true) (hn : xn X = 1) (hz : Z0 X (Ax nu K c u)) (s0 : Int32) (D : Dat) (h : f_X3_isCell_b16 s0 D = some z) : V X (Q0 X n (Ax nu K c u) (some (.int z.1)) z.2) n (Ax nu K c u) D 16 [] [.int s0] := by
  unfold f_X3_isCell_b16 at h
  obtain ⟨c1, h⟩ := if_none h
  obtain rfl := Option.some.inj h
  exact v_zret (pc := 16) O hz (congrArg Value.int c1) dX3_isCell_16
def f_X3_isCell_b15 (D : Dat) : Option (Int32 × Dat) :=
  f_X3_isCell_b16 0 D
set_option maxHeartbeats 4000000 in
theorem w_X3_isCell_b15 {X : Cx} {n nu c u : Nat} {K : Nat → Nat} {z : Int32 × Dat} (O : Ok X cX3_isCell RX3 (some .boolean) 0 0) (hm : wlm (xw X) = true) (hn : xn X = 1) (hz : Z0 X (Ax nu K c u)) (D : Dat) (h : f_X3_isCell_b15 D = some z) : V X (Q0 X n (Ax nu K c u) (some (.int z.1)) z.2) n (Ax nu K c u) D 15 [] [] := by
  unfold f_X3_isCell_b15 at h
  refine v_iconst (pc := 15) O dX3_isCell_15 ic_0 ?_
  refine v_sub [] rfl ?_
  exact w_X3_isCell_b16 O hm hn hz 0 D h
def f_X3_isCell (x0 : Int32) (D : Dat) : Option (Int32 × Dat) :=
  if x0 < 0 then (f_X3_isCell_b15 D) else (if 234 ≤ x0 then (f_X3_isCell_b15 D) else (f_X3_isCell_b16 1 D))
set_option maxHeartbeats 4000000 in
theorem w_X3_isCell {X : Cx} {n nu c u : Nat} {K : Nat → Nat} {z : Int32 × Dat} (O : Ok X cX3_isCell RX3 (some .boolean) 0 0) (hm : wlm (xw X) = true) (hn : xn X = 1) (hz : Z0 X (Ax nu K c u)) (x0 : Int32) (D : Dat) (h : f_X3_isCell x0 D = some z) : V X (Q0 X n (Ax nu K c u) (some (.int z.1)) z.2) n (Ax nu K c u) D 0 [(0, .int x0)] [] := by
  unfold f_X3_isCell at h
  refine v_iload_n (pc := 0) O dX3_isCell_0 0 rfl ?_
  refine v_iflt (pc := 1) 15 O dX3_isCell_1 (by decide) (fun c2 => ?_) (fun c2 => ?_)
  · have h := (if_pos c2).symm.trans h
    refine v_sub [] rfl ?_
    exact w_X3_isCell_b15 O hm hn hz D h
  · have h := (if_neg c2).symm.trans h
    refine v_iload_n (pc := 4) O dX3_isCell_4 0 rfl ?_
    refine v_sipush (pc := 5) O dX3_isCell_5 sp_234 ?_
    refine v_icmpge (pc := 8) 15 O dX3_isCell_8 (by decide) (fun c3 => ?_) (fun c3 => ?_)
    · have h := (if_pos c3).symm.trans h
      refine v_sub [] rfl ?_
      exact w_X3_isCell_b15 O hm hn hz D h
    · have h := (if_neg c3).symm.trans h
      refine v_iconst (pc := 11) O dX3_isCell_11 ic_1 ?_
      refine v_goto (pc := 12) 16 O dX3_isCell_12 (by decide) ?_
      refine v_sub [] rfl ?_
      exact w_X3_isCell_b16 O hm hn hz 1 D h
theorem c_X3_isCell {l : Launch} {w : Wx} {n nu c u : Nat} {K : Nat → Nat} (hm : wlm w = true) {x0 : Int32} {D : Dat} {z : Int32 × Dat} (h : f_X3_isCell x0 D = some z) : C0 l w yX3_isCell cX3_isCell 1 (some .boolean) 0 0 [.int x0] n (Ax nu K c u) D (some (.int z.1)) z.2 :=
  C0.of (by decide) (Nat.le_of_ble_eq_true rfl) (fun X e1 e2 e3 hz O => by
  subst e1
  subst e2
  exact w_X3_isCell O hm e3 hz x0 D h)
def f_X3_cell_b21 (s0 : Int32) (D : Dat) : Option (Int32 × Dat) :=
  some (s0, D)
set_option maxHeartbeats 4000000 in
theorem w_X3_cell_b21 {X : Cx} {n nu c u : Nat} {K : Nat → Nat} {z : Int32 × Dat} (O : Ok X cX3_cell RX3 (some .int) 0 0) (hm : wlm (xw X) = true) (hn : xn X = 2) (hz : Z0 X (Ax nu K c u)) (s0 : Int32) (D : Dat) (h : f_X3_cell_b21 s0 D = some z) : V X (Q0 X n (Ax nu K c u) (some (.int z.1)) z.2) n (Ax nu K c u) D 21 [] [.int s0] := by
  unfold f_X3_cell_b21 at h
  obtain rfl := Option.some.inj h
  exact v_iret (pc := 21) O hz dX3_cell_21
def f_X3_cell_b20 (D : Dat) : Option (Int32 × Dat) :=
  f_X3_cell_b21 0 D
set_option maxHeartbeats 4000000 in
theorem w_X3_cell_b20 {X : Cx} {n nu c u : Nat} {K : Nat → Nat} {z : Int32 × Dat} (O : Ok X cX3_cell RX3 (some .int) 0 0) (hm : wlm (xw X) = true) (hn : xn X = 2) (hz : Z0 X (Ax nu K c u)) (D : Dat) (h : f_X3_cell_b20 D = some z) : V X (Q0 X n (Ax nu K c u) (some (.int z.1)) z.2) n (Ax nu K c u) D 20 [] [] := by
  unfold f_X3_cell_b20 at h
  refine v_iconst (pc := 20) O dX3_cell_20 ic_0 ?_
  refine v_sub [] rfl ?_
  exact w_X3_cell_b21 O hm hn hz 0 D h
def f_X3_cell (x1 : Int32) (D : Dat) : Option (Int32 × Dat) :=
  if x1 < 0 then (f_X3_cell_b20 D) else (if 234 ≤ x1 then (f_X3_cell_b20 D) else (if x1 < 0 ∨ 234 ≤ (x1).toNatClampNeg then none else (f_X3_cell_b21 (dI D 182 (x1).toNatClampNeg) D)))
set_option maxHeartbeats 4000000 in
theorem w_X3_cell {X : Cx} {n nu c u : Nat} {K : Nat → Nat} {z : Int32 × Dat} (O : Ok X cX3_cell RX3 (some .int) 0 0) (hm : wlm (xw X) = true) (hn : xn X = 2) (hz : Z0 X (Ax nu K c u)) (x1 : Int32) (D : Dat) (h : f_X3_cell x1 D = some z) : V X (Q0 X n (Ax nu K c u) (some (.int z.1)) z.2) n (Ax nu K c u) D 0 [(0, .ref (bo X + pp 181)), (1, .int x1)] [] := by
  unfold f_X3_cell at h
  refine v_iload_n (pc := 0) O dX3_cell_0 1 rfl ?_
  refine v_iflt (pc := 1) 20 O dX3_cell_1 (by decide) (fun c1 => ?_) (fun c1 => ?_)
  · have h := (if_pos c1).symm.trans h
    refine v_sub [] rfl ?_
    exact w_X3_cell_b20 O hm hn hz D h
  · have h := (if_neg c1).symm.trans h
    refine v_iload_n (pc := 4) O dX3_cell_4 1 rfl ?_
    refine v_sipush (pc := 5) O dX3_cell_5 sp_234 ?_
    refine v_icmpge (pc := 8) 20 O dX3_cell_8 (by decide) (fun c2 => ?_) (fun c2 => ?_)
    · have h := (if_pos c2).symm.trans h
      refine v_sub [] rfl ?_
      exact w_X3_cell_b20 O hm hn hz D h
    · have h := (if_neg c2).symm.trans h
      refine v_aload_n (pc := 11) O dX3_cell_11 0 rfl ?_
      refine v_getK (pc := 12) (a := 181) O hm gf_X3_0 fl_X3_11 kq_181 lk_181_0 dX3_cell_12 ?_
      refine v_iload_n (pc := 15) O dX3_cell_15 1 rfl ?_
      obtain ⟨c3, h⟩ := or_none h
      refine v_iald (pc := 16) (a := 182) O kq_182 (inq lq_182 c3) dX3_cell_16 ?_
      refine v_goto (pc := 17) 21 O dX3_cell_17 (by decide) ?_
      refine v_sub [] rfl ?_
      exact w_X3_cell_b21 O hm hn hz (dI D 182 (x1).toNatClampNeg) D h
theorem c_X3_cell {l : Launch} {w : Wx} {n nu c u : Nat} {K : Nat → Nat} (hm : wlm w = true) {x1 : Int32} {D : Dat} {z : Int32 × Dat} (h : f_X3_cell x1 D = some z) : C0 l w yX3_cell cX3_cell 2 (some .int) 0 0 [.ref (wb w + pp 181), .int x1] n (Ax nu K c u) D (some (.int z.1)) z.2 :=
  C0.of (by decide) (Nat.le_of_ble_eq_true rfl) (fun X e1 e2 e3 hz O => by
  subst e1
  subst e2
  exact w_X3_cell O hm e3 hz x1 D h)
def f_X3_setCell_b18 (D : Dat) : Option (Dat) :=
  some D
set_option maxHeartbeats 4000000 in
theorem w_X3_setCell_b18 {X : Cx} {n nu c u : Nat} {K : Nat → Nat} {z : Dat} (O : Ok X cX3_setCell RX3 none 0 0) (hm : wlm (xw X) = true) (hn : xn X = 3) (hz : Z0 X (Ax nu K c u)) (D : Dat) (h : f_X3_setCell_b18 D = some z) : V X (Q0 X n (Ax nu K c u) none z) n (Ax nu K c u) D 18 [] [] := by
  unfold f_X3_setCell_b18 at h
  obtain rfl := Option.some.inj h
  exact v_ret (pc := 18) O hz dX3_setCell_18
def f_X3_setCell (x1 : Int32) (x2 : Int32) (D : Dat) : Option (Dat) :=
  if x1 < 0 then (f_X3_setCell_b18 D) else (if 234 ≤ x1 then (f_X3_setCell_b18 D) else (if x1 < 0 ∨ 234 ≤ (x1).toNatClampNeg then none else (f_X3_setCell_b18 (sI D 182 (x1).toNatClampNeg x2))))
set_option maxHeartbeats 4000000 in
theorem w_X3_setCell {X : Cx} {n nu c u : Nat} {K : Nat → Nat} {z : Dat} (O : Ok X cX3_setCell RX3 none 0 0) (hm : wlm (xw X) = true) (hn : xn X = 3) (hz : Z0 X (Ax nu K c u)) (x1 : Int32) (x2 : Int32) (D : Dat) (h : f_X3_setCell x1 x2 D = some z) : V X (Q0 X n (Ax nu K c u) none z) n (Ax nu K c u) D 0 [(0, .ref (bo X + pp 181)), (1, .int x1), (2, .int x2)] [] := by
  unfold f_X3_setCell at h
  refine v_iload_n (pc := 0) O dX3_setCell_0 1 rfl ?_
  refine v_iflt (pc := 1) 18 O dX3_setCell_1 (by decide) (fun c1 => ?_) (fun c1 => ?_)
  · have h := (if_pos c1).symm.trans h
    refine v_sub [] rfl ?_
    exact w_X3_setCell_b18 O hm hn hz D h
  · have h := (if_neg c1).symm.trans h
    refine v_iload_n (pc := 4) O dX3_setCell_4 1 rfl ?_
    refine v_sipush (pc := 5) O dX3_setCell_5 sp_234 ?_
    refine v_icmpge (pc := 8) 18 O dX3_setCell_8 (by decide) (fun c2 => ?_) (fun c2 => ?_)
    · have h := (if_pos c2).symm.trans h
      refine v_sub [] rfl ?_
      exact w_X3_setCell_b18 O hm hn hz D h
    · have h := (if_neg c2).symm.trans h
      refine v_aload_n (pc := 11) O dX3_setCell_11 0 rfl ?_
      refine v_getK (pc := 12) (a := 181) O hm gf_X3_0 fl_X3_11 kq_181 lk_181_0 dX3_setCell_12 ?_
      refine v_iload_n (pc := 15) O dX3_setCell_15 1 rfl ?_
      refine v_iload_n (pc := 16) O dX3_setCell_16 2 rfl ?_
      obtain ⟨c3, h⟩ := or_none h
      refine v_iast (pc := 17) (a := 182) O kq_182 (inq lq_182 c3) dX3_setCell_17 ?_
      refine v_sub [] rfl ?_
      exact w_X3_setCell_b18 O hm hn hz (sI D 182 (x1).toNatClampNeg x2) h
theorem c_X3_setCell {l : Launch} {w : Wx} {n nu c u : Nat} {K : Nat → Nat} (hm : wlm w = true) {x1 : Int32} {x2 : Int32} {D : Dat} {z : Dat} (h : f_X3_setCell x1 x2 D = some z) : C0 l w yX3_setCell cX3_setCell 3 none 0 0 [.ref (wb w + pp 181), .int x1, .int x2] n (Ax nu K c u) D none z :=
  C0.of (by decide) (Nat.le_of_ble_eq_true rfl) (fun X e1 e2 e3 hz O => by
  subst e1
  subst e2
  exact w_X3_setCell O hm e3 hz x1 x2 D h)
def f_X3_fed_b17 (s0 : Int32) (D : Dat) : Option (Int32 × Dat) :=
  some (s0, D)
set_option maxHeartbeats 4000000 in
theorem w_X3_fed_b17 {X : Cx} {n nu c u : Nat} {K : Nat → Nat} {z : Int32 × Dat} (O : Ok X cX3_fed RX3 (some .int) 1 20) (hm : wlm (xw X) = true) (hn : xn X = 2) (hz : Z0 X (Ax nu K c u)) (s0 : Int32) (D : Dat) (h : f_X3_fed_b17 s0 D = some z) : V X (Q0 X n (Ax nu K c u) (some (.int z.1)) z.2) n (Ax nu K c u) D 17 [] [.int s0] := by
  unfold f_X3_fed_b17 at h
  obtain rfl := Option.some.inj h
  exact v_iret (pc := 17) O hz dX3_fed_17
def f_X3_fed (x1 : Int32) (D : Dat) : Option (Int32 × Dat) :=
  (f_X3_isMark x1 D).bind (fun p1 => if p1.1 = 0 then (f_X3_fed_b17 0 p1.2) else (if x1 < 0 ∨ 6 ≤ (x1).toNatClampNeg then none else (f_X3_fed_b17 (dI p1.2 185 (x1).toNatClampNeg) p1.2)))
set_option maxHeartbeats 4000000 in
theorem w_X3_fed {X : Cx} {n nu c u : Nat} {K : Nat → Nat} {z : Int32 × Dat} (O : Ok X cX3_fed RX3 (some .int) 1 20) (hm : wlm (xw X) = true) (hn : xn X = 2) (hz : Z0 X (Ax nu K c u)) (x1 : Int32) (D : Dat) (h : f_X3_fed x1 D = some z) : V X (Q0 X n (Ax nu K c u) (some (.int z.1)) z.2) n (Ax nu K c u) D 0 [(0, .ref (bo X + pp 181)), (1, .int x1)] [] := by
  unfold f_X3_fed at h
  refine v_iload_n (pc := 0) O dX3_fed_0 1 rfl ?_
  obtain ⟨p1, e2, h⟩ := bind_some h
  refine v_callS (pc := 1) (As := [.int x1]) (rest := []) (r := (some (.int p1.1))) (D' := p1.2) O (bb0 hz) (c_X3_isMark hm e2) mw_X3_isMark sm_X3_isMark ml_X3_37 rfl (by decide) (by decide) (Nat.le_of_ble_eq_true rfl) dX3_fed_1 rfl rfl ?_
  refine v_ifeq (pc := 4) 16 O dX3_fed_4 (by decide) (fun c3 => ?_) (fun c3 => ?_)
  · have h := (if_pos c3).symm.trans h
    refine v_iconst (pc := 16) O dX3_fed_16 ic_0 ?_
    refine v_sub [] rfl ?_
    exact w_X3_fed_b17 O hm hn hz 0 p1.2 h
  · have h := (if_neg c3).symm.trans h
    refine v_aload_n (pc := 7) O dX3_fed_7 0 rfl ?_
    refine v_getK (pc := 8) (a := 181) O hm gf_X3_4 fl_X3_21 kq_181 lk_181_4 dX3_fed_8 ?_
    refine v_iload_n (pc := 11) O dX3_fed_11 1 rfl ?_
    obtain ⟨c4, h⟩ := or_none h
    refine v_iald (pc := 12) (a := 185) O kq_185 (inq lq_185 c4) dX3_fed_12 ?_
    refine v_goto (pc := 13) 17 O dX3_fed_13 (by decide) ?_
    refine v_sub [] rfl ?_
    exact w_X3_fed_b17 O hm hn hz (dI p1.2 185 (x1).toNatClampNeg) p1.2 h
theorem c_X3_fed {l : Launch} {w : Wx} {n nu c u : Nat} {K : Nat → Nat} (hm : wlm w = true) {x1 : Int32} {D : Dat} {z : Int32 × Dat} (h : f_X3_fed x1 D = some z) : C0 l w yX3_fed cX3_fed 2 (some .int) 1 20 [.ref (wb w + pp 181), .int x1] n (Ax nu K c u) D (some (.int z.1)) z.2 :=
  C0.of (by decide) (Nat.le_of_ble_eq_true rfl) (fun X e1 e2 e3 hz O => by
  subst e1
  subst e2
  exact w_X3_fed O hm e3 hz x1 D h)
def f_X3_addInput_b45 (D : Dat) : Option (Dat) :=
  some D
set_option maxHeartbeats 4000000 in
theorem w_X3_addInput_b45 {X : Cx} {n nu c u : Nat} {K : Nat → Nat} {z : Dat} (O : Ok X cX3_addInput RX3 none 1 20) (hm : wlm (xw X) = true) (hn : xn X = 3) (hz : Z0 X (Ax nu K c u)) (D : Dat) (h : f_X3_addInput_b45 D = some z) : V X (Q0 X n (Ax nu K c u) none z) n (Ax nu K c u) D 45 [] [] := by
  unfold f_X3_addInput_b45 at h
  obtain rfl := Option.some.inj h
  exact v_ret (pc := 45) O hz dX3_addInput_45
def f_X3_addInput (x1 : Int32) (x2 : Int32) (D : Dat) : Option (Dat) :=
  (f_X3_isMark x1 D).bind (fun p1 => if p1.1 = 0 then (f_X3_addInput_b45 p1.2) else (if x1 < 0 ∨ 6 ≤ (x1).toNatClampNeg then none else (if 20 ≤ (dI p1.2 185 (x1).toNatClampNeg) then (f_X3_addInput_b45 p1.2) else (if x1 < 0 ∨ 6 ≤ (x1).toNatClampNeg then none else (if ((x1 * (20 : Int32)) + (dI p1.2 185 (x1).toNatClampNeg)) < 0 ∨ 120 ≤ (((x1 * (20 : Int32)) + (dI p1.2 185 (x1).toNatClampNeg))).toNatClampNeg then none else (if x1 < 0 ∨ 6 ≤ (x1).toNatClampNeg then none else (if x1 < 0 ∨ 6 ≤ (x1).toNatClampNeg then none else (f_X3_addInput_b45 (sI (sI p1.2 184 ((x1 * (20 : Int32)) + (dI p1.2 185 (x1).toNatClampNeg)).toNatClampNeg x2) 185 (x1).toNatClampNeg ((dI (sI p1.2 184 ((x1 * (20 : Int32)) + (dI p1.2 185 (x1).toNatClampNeg)).toNatClampNeg x2) 185 (x1).toNatClampNeg) + (1 : Int32)))))))))))
set_option maxHeartbeats 4000000 in
theorem w_X3_addInput {X : Cx} {n nu c u : Nat} {K : Nat → Nat} {z : Dat} (O : Ok X cX3_addInput RX3 none 1 20) (hm : wlm (xw X) = true) (hn : xn X = 3) (hz : Z0 X (Ax nu K c u)) (x1 : Int32) (x2 : Int32) (D : Dat) (h : f_X3_addInput x1 x2 D = some z) : V X (Q0 X n (Ax nu K c u) none z) n (Ax nu K c u) D 0 [(0, .ref (bo X + pp 181)), (1, .int x1), (2, .int x2)] [] := by
  unfold f_X3_addInput at h
  refine v_iload_n (pc := 0) O dX3_addInput_0 1 rfl ?_
  obtain ⟨p1, e2, h⟩ := bind_some h
  refine v_callS (pc := 1) (As := [.int x1]) (rest := []) (r := (some (.int p1.1))) (D' := p1.2) O (bb0 hz) (c_X3_isMark hm e2) mw_X3_isMark sm_X3_isMark ml_X3_37 rfl (by decide) (by decide) (Nat.le_of_ble_eq_true rfl) dX3_addInput_1 rfl rfl ?_
  refine v_ifeq (pc := 4) 45 O dX3_addInput_4 (by decide) (fun c3 => ?_) (fun c3 => ?_)
  · have h := (if_pos c3).symm.trans h
    refine v_sub [] rfl ?_
    exact w_X3_addInput_b45 O hm hn hz p1.2 h
  · have h := (if_neg c3).symm.trans h
    refine v_aload_n (pc := 7) O dX3_addInput_7 0 rfl ?_
    refine v_getK (pc := 8) (a := 181) O hm gf_X3_4 fl_X3_21 kq_181 lk_181_4 dX3_addInput_8 ?_
    refine v_iload_n (pc := 11) O dX3_addInput_11 1 rfl ?_
    obtain ⟨c4, h⟩ := or_none h
    refine v_iald (pc := 12) (a := 185) O kq_185 (inq lq_185 c4) dX3_addInput_12 ?_
    refine v_bipush (pc := 13) O dX3_addInput_13 bp_20 ?_
    refine v_icmpge (pc := 15) 45 O dX3_addInput_15 (by decide) (fun c5 => ?_) (fun c5 => ?_)
    · have h := (if_pos c5).symm.trans h
      refine v_sub [] rfl ?_
      exact w_X3_addInput_b45 O hm hn hz p1.2 h
    · have h := (if_neg c5).symm.trans h
      refine v_aload_n (pc := 18) O dX3_addInput_18 0 rfl ?_
      refine v_getK (pc := 19) (a := 181) O hm gf_X3_3 fl_X3_18 kq_181 lk_181_3 dX3_addInput_19 ?_
      refine v_iload_n (pc := 22) O dX3_addInput_22 1 rfl ?_
      refine v_bipush (pc := 23) O dX3_addInput_23 bp_20 ?_
      refine v_imul (pc := 25) O dX3_addInput_25 ?_
      refine v_aload_n (pc := 26) O dX3_addInput_26 0 rfl ?_
      refine v_getK (pc := 27) (a := 181) O hm gf_X3_4 fl_X3_21 kq_181 lk_181_4 dX3_addInput_27 ?_
      refine v_iload_n (pc := 30) O dX3_addInput_30 1 rfl ?_
      obtain ⟨c6, h⟩ := or_none h
      refine v_iald (pc := 31) (a := 185) O kq_185 (inq lq_185 c6) dX3_addInput_31 ?_
      refine v_iadd (pc := 32) O dX3_addInput_32 ?_
      refine v_iload_n (pc := 33) O dX3_addInput_33 2 rfl ?_
      obtain ⟨c7, h⟩ := or_none h
      refine v_iast (pc := 34) (a := 184) O kq_184 (inq lq_184 c7) dX3_addInput_34 ?_
      refine v_aload_n (pc := 35) O dX3_addInput_35 0 rfl ?_
      refine v_getK (pc := 36) (a := 181) O hm gf_X3_4 fl_X3_21 kq_181 lk_181_4 dX3_addInput_36 ?_
      refine v_iload_n (pc := 39) O dX3_addInput_39 1 rfl ?_
      refine v_dup2 (pc := 40) O dX3_addInput_40 rfl rfl ?_
      obtain ⟨c8, h⟩ := or_none h
      refine v_iald (pc := 41) (a := 185) O kq_185 (inq lq_185 c8) dX3_addInput_41 ?_
      refine v_iconst (pc := 42) O dX3_addInput_42 ic_1 ?_
      refine v_iadd (pc := 43) O dX3_addInput_43 ?_
      obtain ⟨c9, h⟩ := or_none h
      refine v_iast (pc := 44) (a := 185) O kq_185 (inq lq_185 c9) dX3_addInput_44 ?_
      refine v_sub [] rfl ?_
      exact w_X3_addInput_b45 O hm hn hz (sI (sI p1.2 184 ((x1 * (20 : Int32)) + (dI p1.2 185 (x1).toNatClampNeg)).toNatClampNeg x2) 185 (x1).toNatClampNeg ((dI (sI p1.2 184 ((x1 * (20 : Int32)) + (dI p1.2 185 (x1).toNatClampNeg)).toNatClampNeg x2) 185 (x1).toNatClampNeg) + (1 : Int32))) h
theorem c_X3_addInput {l : Launch} {w : Wx} {n nu c u : Nat} {K : Nat → Nat} (hm : wlm w = true) {x1 : Int32} {x2 : Int32} {D : Dat} {z : Dat} (h : f_X3_addInput x1 x2 D = some z) : C0 l w yX3_addInput cX3_addInput 3 none 1 20 [.ref (wb w + pp 181), .int x1, .int x2] n (Ax nu K c u) D none z :=
  C0.of (by decide) (Nat.le_of_ble_eq_true rfl) (fun X e1 e2 e3 hz O => by
  subst e1
  subst e2
  exact w_X3_addInput O hm e3 hz x1 x2 D h)
def f_X3_emptyInput_b14 (D : Dat) : Option (Dat) :=
  some D
set_option maxHeartbeats 4000000 in
theorem w_X3_emptyInput_b14 {X : Cx} {n nu c u : Nat} {K : Nat → Nat} {z : Dat} (O : Ok X cX3_emptyInput RX3 none 1 20) (hm : wlm (xw X) = true) (hn : xn X = 2) (hz : Z0 X (Ax nu K c u)) (D : Dat) (h : f_X3_emptyInput_b14 D = some z) : V X (Q0 X n (Ax nu K c u) none z) n (Ax nu K c u) D 14 [] [] := by
  unfold f_X3_emptyInput_b14 at h
  obtain rfl := Option.some.inj h
  exact v_ret (pc := 14) O hz dX3_emptyInput_14
def f_X3_emptyInput (x1 : Int32) (D : Dat) : Option (Dat) :=
  (f_X3_isMark x1 D).bind (fun p1 => if p1.1 = 0 then (f_X3_emptyInput_b14 p1.2) else (if x1 < 0 ∨ 6 ≤ (x1).toNatClampNeg then none else (f_X3_emptyInput_b14 (sI p1.2 185 (x1).toNatClampNeg 0))))
set_option maxHeartbeats 4000000 in
theorem w_X3_emptyInput {X : Cx} {n nu c u : Nat} {K : Nat → Nat} {z : Dat} (O : Ok X cX3_emptyInput RX3 none 1 20) (hm : wlm (xw X) = true) (hn : xn X = 2) (hz : Z0 X (Ax nu K c u)) (x1 : Int32) (D : Dat) (h : f_X3_emptyInput x1 D = some z) : V X (Q0 X n (Ax nu K c u) none z) n (Ax nu K c u) D 0 [(0, .ref (bo X + pp 181)), (1, .int x1)] [] := by
  unfold f_X3_emptyInput at h
  refine v_iload_n (pc := 0) O dX3_emptyInput_0 1 rfl ?_
  obtain ⟨p1, e2, h⟩ := bind_some h
  refine v_callS (pc := 1) (As := [.int x1]) (rest := []) (r := (some (.int p1.1))) (D' := p1.2) O (bb0 hz) (c_X3_isMark hm e2) mw_X3_isMark sm_X3_isMark ml_X3_37 rfl (by decide) (by decide) (Nat.le_of_ble_eq_true rfl) dX3_emptyInput_1 rfl rfl ?_
  refine v_ifeq (pc := 4) 14 O dX3_emptyInput_4 (by decide) (fun c3 => ?_) (fun c3 => ?_)
  · have h := (if_pos c3).symm.trans h
    refine v_sub [] rfl ?_
    exact w_X3_emptyInput_b14 O hm hn hz p1.2 h
  · have h := (if_neg c3).symm.trans h
    refine v_aload_n (pc := 7) O dX3_emptyInput_7 0 rfl ?_
    refine v_getK (pc := 8) (a := 181) O hm gf_X3_4 fl_X3_21 kq_181 lk_181_4 dX3_emptyInput_8 ?_
    refine v_iload_n (pc := 11) O dX3_emptyInput_11 1 rfl ?_
    refine v_iconst (pc := 12) O dX3_emptyInput_12 ic_0 ?_
    obtain ⟨c4, h⟩ := or_none h
    refine v_iast (pc := 13) (a := 185) O kq_185 (inq lq_185 c4) dX3_emptyInput_13 ?_
    refine v_sub [] rfl ?_
    exact w_X3_emptyInput_b14 O hm hn hz (sI p1.2 185 (x1).toNatClampNeg 0) h
theorem c_X3_emptyInput {l : Launch} {w : Wx} {n nu c u : Nat} {K : Nat → Nat} (hm : wlm w = true) {x1 : Int32} {D : Dat} {z : Dat} (h : f_X3_emptyInput x1 D = some z) : C0 l w yX3_emptyInput cX3_emptyInput 2 none 1 20 [.ref (wb w + pp 181), .int x1] n (Ax nu K c u) D none z :=
  C0.of (by decide) (Nat.le_of_ble_eq_true rfl) (fun X e1 e2 e3 hz O => by
  subst e1
  subst e2
  exact w_X3_emptyInput O hm e3 hz x1 D h)
