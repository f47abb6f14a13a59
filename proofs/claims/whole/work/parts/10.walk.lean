theorem ml_X7_1 : Cond.methodLink RX7 1 Lib.objectInit ∈ tb := tb_of 1025 (by decide +kernel) (by decide +kernel)
theorem im_obj : Cond.instanceMethod Lib.objectInit ∈ tb := tb_of 197 (by decide +kernel) (by decide +kernel)
theorem cw_obj : Cond.code Lib.objectInit ⟨#[0xb1]⟩ 1 none ∈ tb := tb_of 198 (by decide +kernel) (by decide +kernel)
theorem inb_X7 : ∀ w ∈ u_ws RX7 TX7 10, w ∈ tb := by decide +kernel
theorem gf_X7_0 : FI 7 RX7 TX7 10 tyX7 0 0 := ⟨rfl, inb_X7, tyX7_ok, nmX7, by decide, by decide, rfl, rfl, rfl⟩
theorem gf_X7_1 : FI 7 RX7 TX7 10 tyX7 1 0 := ⟨rfl, inb_X7, tyX7_ok, nmX7, by decide, by decide, rfl, rfl, rfl⟩
theorem gf_X7_4 : FI 7 RX7 TX7 10 tyX7 4 0 := ⟨rfl, inb_X7, tyX7_ok, nmX7, by decide, by decide, rfl, rfl, rfl⟩
theorem gf_X7_5 : FI 7 RX7 TX7 10 tyX7 5 0 := ⟨rfl, inb_X7, tyX7_ok, nmX7, by decide, by decide, rfl, rfl, rfl⟩
theorem fl_X7_7 : Cond.fieldLink RX7 7 RX7 (TX7 0).2.1 (TX7 0).2.2.1 ∈ tb := tb_of 1026 (by decide +kernel) (by decide +kernel)
theorem fl_X7_13 : Cond.fieldLink RX7 13 RX7 (TX7 1).2.1 (TX7 1).2.2.1 ∈ tb := tb_of 1031 (by decide +kernel) (by decide +kernel)
theorem fl_X7_16 : Cond.fieldLink RX7 16 RX7 (TX7 4).2.1 (TX7 4).2.2.1 ∈ tb := tb_of 1041 (by decide +kernel) (by decide +kernel)
theorem fl_X7_19 : Cond.fieldLink RX7 19 RX7 (TX7 5).2.1 (TX7 5).2.2.1 ∈ tb := tb_of 1045 (by decide +kernel) (by decide +kernel)
theorem pf_X7_5 : PI 7 RX7 TX7 10 tyX7 5 0 .int := ⟨gf_X7_5, rfl, rfl⟩
theorem ic_0 : Int32.ofInt (0) = (0 : Int32) := by decide
theorem ic_1 : Int32.ofInt (1) = (1 : Int32) := by decide
theorem sp_255 : (Int16.ofInt (255)).toInt32 = (255 : Int32) := by decide
theorem ic_m1 : Int32.ofInt (-1) = (-1 : Int32) := by decide
theorem fl_J0_1053 : Cond.fieldLink RJ0 1053 "jdk/internal/util/Preconditions" "SIOOBE_FORMATTER" "Ljava/util/function/BiFunction;" ∈ tb := tb_of 867 (by decide +kernel) (by decide +kernel)
theorem ini_J3 : Cond.initialized RJ3 ∈ tb := tb_of 184 (by decide +kernel) (by decide +kernel)
theorem cw_J3_checkFromToIndex_8c36e : Cond.code yJ3_checkFromToIndex_8c36e cJ3_checkFromToIndex_8c36e 4 (some .int) ∈ tb := tb_of 937 (by decide +kernel) (by decide +kernel)
theorem mw_J3_checkFromToIndex_8c36e : MW yJ3_checkFromToIndex_8c36e cJ3_checkFromToIndex_8c36e 4 (some .int) 4 := ⟨cw_J3_checkFromToIndex_8c36e, ini_J3, by decide +kernel⟩
theorem sm_J3_checkFromToIndex_8c36e : Cond.static yJ3_checkFromToIndex_8c36e ∈ tb := tb_of 936 (by decide +kernel) (by decide +kernel)
theorem ml_J0_1062 : Cond.methodLink RJ0 1062 yJ3_checkFromToIndex_8c36e ∈ tb := tb_of 935 (by decide +kernel) (by decide +kernel)
theorem cw_J3_checkIndex_8e157 : Cond.code yJ3_checkIndex_8e157 cJ3_checkIndex_8e157 3 (some .int) ∈ tb := tb_of 871 (by decide +kernel) (by decide +kernel)
theorem mw_J3_checkIndex_8e157 : MW yJ3_checkIndex_8e157 cJ3_checkIndex_8e157 3 (some .int) 3 := ⟨cw_J3_checkIndex_8e157, ini_J3, by decide +kernel⟩
theorem sm_J3_checkIndex_8e157 : Cond.static yJ3_checkIndex_8e157 ∈ tb := tb_of 870 (by decide +kernel) (by decide +kernel)
theorem ml_J0_1059 : Cond.methodLink RJ0 1059 yJ3_checkIndex_8e157 ∈ tb := tb_of 869 (by decide +kernel) (by decide +kernel)
theorem fl_J0_38 : Cond.fieldLink RJ0 38 "java/lang/String" "COMPACT_STRINGS" "Z" ∈ tb := tb_of 851 (by decide +kernel) (by decide +kernel)
theorem fl_J0_15 : Cond.fieldLink RJ0 15 "java/lang/String" "coder" "B" ∈ tb := tb_of 2383 (by decide +kernel) (by decide +kernel)
theorem fl_J0_9 : Cond.fieldLink RJ0 9 "java/lang/String" "value" "[B" ∈ tb := tb_of 2382 (by decide +kernel) (by decide +kernel)
theorem ini_J0 : Cond.initialized RJ0 ∈ tb := tb_of 182 (by decide +kernel) (by decide +kernel)
theorem cw_J0_coder_7d493 : Cond.code yJ0_coder_7d493 cJ0_coder_7d493 1 (some .byte) ∈ tb := tb_of 850 (by decide +kernel) (by decide +kernel)
theorem mw_J0_coder_7d493 : MW yJ0_coder_7d493 cJ0_coder_7d493 1 (some .byte) 0 := ⟨cw_J0_coder_7d493, ini_J0, by decide +kernel⟩
theorem im_J0_coder_7d493 : Cond.instanceMethod yJ0_coder_7d493 ∈ tb := tb_of 848 (by decide +kernel) (by decide +kernel)
theorem se_J0_coder_7d493 : Cond.selects (yJ0_coder_7d493).cls yJ0_coder_7d493 yJ0_coder_7d493 ∈ tb := tb_of 849 (by decide +kernel) (by decide +kernel)
theorem ml_J0_335 : Cond.methodLink RJ0 335 yJ0_coder_7d493 ∈ tb := tb_of 847 (by decide +kernel) (by decide +kernel)
theorem ci_J6_265 : Cond.constant RJ6 265 (1431655765) ∈ tb := tb_of 679 (by decide +kernel) (by decide +kernel)
theorem ci_J6_266 : Cond.constant RJ6 266 (858993459) ∈ tb := tb_of 680 (by decide +kernel) (by decide +kernel)
theorem ic_2 : Int32.ofInt (2) = (2 : Int32) := by decide
theorem ic_4 : Int32.ofInt (4) = (4 : Int32) := by decide
theorem ci_J6_267 : Cond.constant RJ6 267 (252645135) ∈ tb := tb_of 681 (by decide +kernel) (by decide +kernel)
theorem bp_8 : (Int8.ofInt (8)).toInt32 = (8 : Int32) := by decide
theorem bp_16 : (Int8.ofInt (16)).toInt32 = (16 : Int32) := by decide
theorem bp_63 : (Int8.ofInt (63)).toInt32 = (63 : Int32) := by decide
theorem cl_J13_314 : Cond.constantLong RJ13 314 (6148914691236517205) ∈ tb := tb_of 1342 (by decide +kernel) (by decide +kernel)
theorem cl_J13_316 : Cond.constantLong RJ13 316 (3689348814741910323) ∈ tb := tb_of 1343 (by decide +kernel) (by decide +kernel)
theorem cl_J13_318 : Cond.constantLong RJ13 318 (1085102592571150095) ∈ tb := tb_of 1344 (by decide +kernel) (by decide +kernel)
theorem bp_32 : (Int8.ofInt (32)).toInt32 = (32 : Int32) := by decide
theorem bp_127 : (Int8.ofInt (127)).toInt32 = (127 : Int32) := by decide
theorem kq_207 {nu c u : Nat} {K : Nat → Nat} : (Ax nu K c u).1 207 = 12 := kd_lt (K := K) (a := 207) (by decide) rfl
theorem fl_X12_183 : Cond.fieldLink RX12 183 RX12 (TX12 0).2.1 (TX12 0).2.2.1 ∈ tb := tb_of 1720 (by decide +kernel) (by decide +kernel)
theorem inb_X12 : ∀ w ∈ u_ws RX12 TX12 85, w ∈ tb := by decide +kernel
theorem gf_X12_0 : FI 12 RX12 TX12 85 tyX12 0 0 := ⟨rfl, inb_X12, tyX12_ok, nmX12, by decide, by decide, rfl, rfl, rfl⟩
theorem pf_X12_0 : PI 12 RX12 TX12 85 tyX12 0 0 .int := ⟨gf_X12_0, rfl, rfl⟩
theorem fl_X12_180 : Cond.fieldLink RX12 180 RX12 (TX12 1).2.1 (TX12 1).2.2.1 ∈ tb := tb_of 1721 (by decide +kernel) (by decide +kernel)
theorem gf_X12_1 : FI 12 RX12 TX12 85 tyX12 1 0 := ⟨rfl, inb_X12, tyX12_ok, nmX12, by decide, by decide, rfl, rfl, rfl⟩
theorem ini_X12 : Cond.initialized RX12 ∈ tb := tb_of 173 (by decide +kernel) (by decide +kernel)
theorem cw_X12_out : Cond.code yX12_out cX12_out 3 (some .boolean) ∈ tb := tb_of 1988 (by decide +kernel) (by decide +kernel)
theorem mw_X12_out : MW yX12_out cX12_out 3 (some .boolean) 2 := ⟨cw_X12_out, ini_X12, by decide +kernel⟩
theorem im_X12_out : Cond.instanceMethod yX12_out ∈ tb := tb_of 1987 (by decide +kernel) (by decide +kernel)
theorem se_X12_out : Cond.selects (yX12_out).cls yX12_out yX12_out ∈ tb := tb_of 84 (by decide +kernel) (by decide +kernel)
theorem ml_X12_186 : Cond.methodLink RX12 186 yX12_out ∈ tb := tb_of 1985 (by decide +kernel) (by decide +kernel)
theorem fl_X12_194 : Cond.fieldLink RX12 194 RX12 (TX12 5).2.1 (TX12 5).2.2.1 ∈ tb := tb_of 1725 (by decide +kernel) (by decide +kernel)
theorem gf_X12_5 : FI 12 RX12 TX12 85 tyX12 5 0 := ⟨rfl, inb_X12, tyX12_ok, nmX12, by decide, by decide, rfl, rfl, rfl⟩
theorem cw_X12_fail : Cond.code yX12_fail cX12_fail 2 (some .int) ∈ tb := tb_of 1992 (by decide +kernel) (by decide +kernel)
theorem mw_X12_fail : MW yX12_fail cX12_fail 2 (some .int) 1 := ⟨cw_X12_fail, ini_X12, by decide +kernel⟩
theorem im_X12_fail : Cond.instanceMethod yX12_fail ∈ tb := tb_of 1991 (by decide +kernel) (by decide +kernel)
theorem se_X12_fail : Cond.selects (yX12_fail).cls yX12_fail yX12_fail ∈ tb := tb_of 85 (by decide +kernel) (by decide +kernel)
theorem ml_X12_190 : Cond.methodLink RX12 190 yX12_fail ∈ tb := tb_of 1989 (by decide +kernel) (by decide +kernel)
theorem fl_X12_7 : Cond.fieldLink RX12 7 RX12 (TX12 2).2.1 (TX12 2).2.2.1 ∈ tb := tb_of 1722 (by decide +kernel) (by decide +kernel)
theorem gf_X12_2 : FI 12 RX12 TX12 85 tyX12 2 3 := ⟨rfl, inb_X12, tyX12_ok, nmX12, by decide, by decide, rfl, rfl, rfl⟩
theorem lk_207_2 : lks 207 2 = some 208 := by decide +kernel
theorem kq_208 {nu c u : Nat} {K : Nat → Nat} : (Ax nu K c u).1 208 = 16 := kd_lt (K := K) (a := 208) (by decide) rfl
theorem lq_208 {nu c u : Nat} {K : Nat → Nat} : (Ax nu K c u).2.1 208 = 36 := rfl
theorem bp_6 : (Int8.ofInt (6)).toInt32 = (6 : Int32) := by decide
def f_X7_init (t : Nat) (x1 x2 x3 : Int32) (D : Dat) : Dat := sI (sI (sI (sI D t 0 x1) t 1 x2) t 4 x3) t 5 x3
set_option maxHeartbeats 4000000 in
theorem c_X7_init {l : Launch} {w : Wx} {n : Nat} {A : Al} {t : Nat} (ha : A.1 t = 7) {x1 x2 x3 : Int32} {D : Dat} : C0 l w yX7_init cX7_init 4 none 1 20 [.ref (wb w + pp t), .int x1, .int x2, .int x3] n A D none (f_X7_init t x1 x2 x3 D) :=
  C0.ofI (by decide) (Nat.le_of_ble_eq_true rfl) (fun X e1 e2 e3 hi hz O => by
  subst e1
  subst e2
  show V X _ n A D 0 [(0, .ref (bo X + pp t)), (1, .int x1), (2, .int x2), (3, .int x3)] []
  refine v_aload_n (pc := 0) O dX7_init_0 0 rfl ?_
  refine v_objInit (pc := 1) O ml_X7_1 im_obj cw_obj (by decide) (Nat.le_of_ble_eq_true rfl) dX7_init_1 ?_
  refine v_aload_n (pc := 4) O dX7_init_4 0 rfl ?_
  refine v_iload_n (pc := 5) O dX7_init_5 1 rfl ?_
  refine v_putFI (pc := 6) (a := t) O hi gf_X7_0 rfl rfl rfl fl_X7_7 ha dX7_init_6 ?_
  refine v_aload_n (pc := 9) O dX7_init_9 0 rfl ?_
  refine v_iload_n (pc := 10) O dX7_init_10 2 rfl ?_
  refine v_putFI (pc := 11) (a := t) O hi gf_X7_1 rfl rfl rfl fl_X7_13 ha dX7_init_11 ?_
  refine v_aload_n (pc := 14) O dX7_init_14 0 rfl ?_
  refine v_iload_n (pc := 15) O dX7_init_15 3 rfl ?_
  refine v_putFI (pc := 16) (a := t) O hi gf_X7_4 rfl rfl rfl fl_X7_16 ha dX7_init_16 ?_
  refine v_aload_n (pc := 19) O dX7_init_19 0 rfl ?_
  refine v_iload_n (pc := 20) O dX7_init_20 3 rfl ?_
  refine v_putI (pc := 21) (a := t) O pf_X7_5 fl_X7_19 ha dX7_init_21 ?_
  exact v_ret (pc := 24) O hz dX7_init_24)
/-- the state behind a new statement -/
def nS (S : Sr) : Sr := (S.1 + 1, va_up S.2.1 S.1 7, S.2.2.1 - 1, S.2.2.2 - 10)
theorem st_n3 (k : Nat) : fty 7 k ≠ 3 := by
  have q : ∀ j, j < 10 → fty 7 j ≠ 3 := by decide +kernel
  by_cases hk : k < 10
  · exact q k hk
  · unfold fty
    rw [List.getD_eq_getElem?_getD (l := ftl.getD 7 []), List.getElem?_eq_none (by
      have : (ftl.getD 7 []).length = 10 := rfl
      omega)]
    decide
theorem st_k {nu : Nat} {S : Sr} (h : NS ≤ S.1) : (Az nu (nS S)).1 S.1 = 7 := by
  show kd (va_up S.2.1 S.1 7) S.1 = 7
  rw [kd, if_neg (by omega), va_up_self]
def f_J3_checkFromToIndex_8c36e_b14 (x0 : Int32) (x1 : Int32) (x2 : Int32) (D : Dat) : Option (Int32 × Dat) :=
  none
set_option maxHeartbeats 4000000 in
theorem w_J3_checkFromToIndex_8c36e_b14 {X : Cx} {n nu c u : Nat} {K : Nat → Nat} {z : Int32 × Dat} (O : Ok X cJ3_checkFromToIndex_8c36e RJ3 (some .int) 0 0) (hm : wlm (xw X) = true) (hn : xn X = 4) (hz : Z0 X (Ax nu K c u)) (x0 : Int32) (x1 : Int32) (x2 : Int32) (D : Dat) (h : f_J3_checkFromToIndex_8c36e_b14 x0 x1 x2 D = some z) : V X (Q0 X n (Ax nu K c u) (some (.int z.1)) z.2) n (Ax nu K c u) D 14 [(0, .int x0), (1, .int x1), (2, .int x2), (3, fmt (xw X))] [] := by
  unfold f_J3_checkFromToIndex_8c36e_b14 at h
  cases h
def f_J3_checkFromToIndex_8c36e (x0 : Int32) (x1 : Int32) (x2 : Int32) (D : Dat) : Option (Int32 × Dat) :=
  if x0 < 0 then (f_J3_checkFromToIndex_8c36e_b14 x0 x1 x2 D) else (if x1 < x0 then (f_J3_checkFromToIndex_8c36e_b14 x0 x1 x2 D) else (if x1 ≤ x2 then (some (x0, D)) else (f_J3_checkFromToIndex_8c36e_b14 x0 x1 x2 D)))
set_option maxHeartbeats 4000000 in
theorem w_J3_checkFromToIndex_8c36e {X : Cx} {n nu c u : Nat} {K : Nat → Nat} {z : Int32 × Dat} (O : Ok X cJ3_checkFromToIndex_8c36e RJ3 (some .int) 0 0) (hm : wlm (xw X) = true) (hn : xn X = 4) (hz : Z0 X (Ax nu K c u)) (x0 : Int32) (x1 : Int32) (x2 : Int32) (D : Dat) (h : f_J3_checkFromToIndex_8c36e x0 x1 x2 D = some z) : V X (Q0 X n (Ax nu K c u) (some (.int z.1)) z.2) n (Ax nu K c u) D 0 [(0, .int x0), (1, .int x1), (2, .int x2), (3, fmt (xw X))] [] := by
  unfold f_J3_checkFromToIndex_8c36e at h
  refine v_iload_n (pc := 0) O dJ3_checkFromToIndex_8c36e_0 0 rfl ?_
  refine v_iflt (pc := 1) 14 O dJ3_checkFromToIndex_8c36e_1 (by decide) (fun c1 => ?_) (fun c1 => ?_)
  · have h := (if_pos c1).symm.trans h
    refine v_sub [0, 1, 2, 3] rfl ?_
    exact w_J3_checkFromToIndex_8c36e_b14 O hm hn hz x0 x1 x2 D h
  · have h := (if_neg c1).symm.trans h
    refine v_iload_n (pc := 4) O dJ3_checkFromToIndex_8c36e_4 0 rfl ?_
    refine v_iload_n (pc := 5) O dJ3_checkFromToIndex_8c36e_5 1 rfl ?_
    refine v_icmpgt (pc := 6) 14 O dJ3_checkFromToIndex_8c36e_6 (by decide) (fun c2 => ?_) (fun c2 => ?_)
    · have h := (if_pos c2).symm.trans h
      refine v_sub [0, 1, 2, 3] rfl ?_
      exact w_J3_checkFromToIndex_8c36e_b14 O hm hn hz x0 x1 x2 D h
    · have h := (if_neg c2).symm.trans h
      refine v_iload_n (pc := 9) O dJ3_checkFromToIndex_8c36e_9 1 rfl ?_
      refine v_iload_n (pc := 10) O dJ3_checkFromToIndex_8c36e_10 2 rfl ?_
      refine v_icmple (pc := 11) 22 O dJ3_checkFromToIndex_8c36e_11 (by decide) (fun c3 => ?_) (fun c3 => ?_)
      · have h := (if_pos c3).symm.trans h
        refine v_iload_n (pc := 22) O dJ3_checkFromToIndex_8c36e_22 0 rfl ?_
        obtain rfl := Option.some.inj h
        exact v_iret (pc := 23) O hz dJ3_checkFromToIndex_8c36e_23
      · have h := (if_neg c3).symm.trans h
        refine v_sub [0, 1, 2, 3] rfl ?_
        exact w_J3_checkFromToIndex_8c36e_b14 O hm hn hz x0 x1 x2 D h
theorem c_J3_checkFromToIndex_8c36e {l : Launch} {w : Wx} {n nu c u : Nat} {K : Nat → Nat} (hm : wlm w = true) {x0 : Int32} {x1 : Int32} {x2 : Int32} {D : Dat} {z : Int32 × Dat} (h : f_J3_checkFromToIndex_8c36e x0 x1 x2 D = some z) : C0 l w yJ3_checkFromToIndex_8c36e cJ3_checkFromToIndex_8c36e 4 (some .int) 0 0 [.int x0, .int x1, .int x2, fmt (w)] n (Ax nu K c u) D (some (.int z.1)) z.2 :=
  C0.of (by decide) (by simp [lg_sl, rv_cat, cat_i, cat_l, cat_r, cat_n, fmt_cat]) (fun X e1 e2 e3 hz O => by
  subst e1
  subst e2
  have q : lv_args 0 [.int x0, .int x1, .int x2, fmt (xw X)] = [(0, .int x0), (1, .int x1), (2, .int x2), (3, fmt (xw X))] := by simp [lv_args, rv_cat, cat_i, cat_l, cat_r, cat_n, fmt_cat]
  show V X _ n _ D 0 (lv_args 0 [.int x0, .int x1, .int x2, fmt (xw X)]) []
  rw [q]
  exact w_J3_checkFromToIndex_8c36e O hm e3 hz x0 x1 x2 D h)
def f_J3_checkIndex_8e157_b9 (x0 : Int32) (x1 : Int32) (D : Dat) : Option (Int32 × Dat) :=
  none
set_option maxHeartbeats 4000000 in
theorem w_J3_checkIndex_8e157_b9 {X : Cx} {n nu c u : Nat} {K : Nat → Nat} {z : Int32 × Dat} (O : Ok X cJ3_checkIndex_8e157 RJ3 (some .int) 0 0) (hm : wlm (xw X) = true) (hn : xn X = 3) (hz : Z0 X (Ax nu K c u)) (x0 : Int32) (x1 : Int32) (D : Dat) (h : f_J3_checkIndex_8e157_b9 x0 x1 D = some z) : V X (Q0 X n (Ax nu K c u) (some (.int z.1)) z.2) n (Ax nu K c u) D 9 [(0, .int x0), (1, .int x1), (2, fmt (xw X))] [] := by
  unfold f_J3_checkIndex_8e157_b9 at h
  cases h
def f_J3_checkIndex_8e157 (x0 : Int32) (x1 : Int32) (D : Dat) : Option (Int32 × Dat) :=
  if x0 < 0 then (f_J3_checkIndex_8e157_b9 x0 x1 D) else (if x0 < x1 then (some (x0, D)) else (f_J3_checkIndex_8e157_b9 x0 x1 D))
set_option maxHeartbeats 4000000 in
theorem w_J3_checkIndex_8e157 {X : Cx} {n nu c u : Nat} {K : Nat → Nat} {z : Int32 × Dat} (O : Ok X cJ3_checkIndex_8e157 RJ3 (some .int) 0 0) (hm : wlm (xw X) = true) (hn : xn X = 3) (hz : Z0 X (Ax nu K c u)) (x0 : Int32) (x1 : Int32) (D : Dat) (h : f_J3_checkIndex_8e157 x0 x1 D = some z) : V X (Q0 X n (Ax nu K c u) (some (.int z.1)) z.2) n (Ax nu K c u) D 0 [(0, .int x0), (1, .int x1), (2, fmt (xw X))] [] := by
  unfold f_J3_checkIndex_8e157 at h
  refine v_iload_n (pc := 0) O dJ3_checkIndex_8e157_0 0 rfl ?_
  refine v_iflt (pc := 1) 9 O dJ3_checkIndex_8e157_1 (by decide) (fun c1 => ?_) (fun c1 => ?_)
  · have h := (if_pos c1).symm.trans h
    refine v_sub [0, 1, 2] rfl ?_
    exact w_J3_checkIndex_8e157_b9 O hm hn hz x0 x1 D h
  · have h := (if_neg c1).symm.trans h
    refine v_iload_n (pc := 4) O dJ3_checkIndex_8e157_4 0 rfl ?_
    refine v_iload_n (pc := 5) O dJ3_checkIndex_8e157_5 1 rfl ?_
    refine v_icmplt (pc := 6) 16 O dJ3_checkIndex_8e157_6 (by decide) (fun c2 => ?_) (fun c2 => ?_)
    · have h := (if_pos c2).symm.trans h
      refine v_iload_n (pc := 16) O dJ3_checkIndex_8e157_16 0 rfl ?_
      obtain rfl := Option.some.inj h
      exact v_iret (pc := 17) O hz dJ3_checkIndex_8e157_17
    · have h := (if_neg c2).symm.trans h
      refine v_sub [0, 1, 2] rfl ?_
      exact w_J3_checkIndex_8e157_b9 O hm hn hz x0 x1 D h
theorem c_J3_checkIndex_8e157 {l : Launch} {w : Wx} {n nu c u : Nat} {K : Nat → Nat} (hm : wlm w = true) {x0 : Int32} {x1 : Int32} {D : Dat} {z : Int32 × Dat} (h : f_J3_checkIndex_8e157 x0 x1 D = some z) : C0 l w yJ3_checkIndex_8e157 cJ3_checkIndex_8e157 3 (some .int) 0 0 [.int x0, .int x1, fmt (w)] n (Ax nu K c u) D (some (.int z.1)) z.2 :=
  C0.of (by decide) (by simp [lg_sl, rv_cat, cat_i, cat_l, cat_r, cat_n, fmt_cat]) (fun X e1 e2 e3 hz O => by
  subst e1
  subst e2
  have q : lv_args 0 [.int x0, .int x1, fmt (xw X)] = [(0, .int x0), (1, .int x1), (2, fmt (xw X))] := by simp [lv_args, rv_cat, cat_i, cat_l, cat_r, cat_n, fmt_cat]
  show V X _ n _ D 0 (lv_args 0 [.int x0, .int x1, fmt (xw X)]) []
  rw [q]
  exact w_J3_checkIndex_8e157 O hm e3 hz x0 x1 D h)
def f_J1_canEncode_9a6ad_b16 (s0 : Int32) (D : Dat) : Option (Int32 × Dat) :=
  if s0 &&& 1 = s0 then some (s0, D) else none
set_option maxHeartbeats 4000000 in
theorem w_J1_canEncode_9a6ad_b16 {X : Cx} {n nu c u : Nat} {K : Nat → Nat} {z : Int32 × Dat} (O : Ok X cJ1_canEncode_9a6ad RJ1 (some .boolean) 0 0) (hm : wlm (xw X) = true) (hn : xn X = 1) (hz : Z0 X (Ax nu K c u)) (s0 : Int32) (D : Dat) (h : f_J1_canEncode_9a6ad_b16 s0 D = some z) : V X (Q0 X n (Ax nu K c u) (some (.int z.1)) z.2) n (Ax nu K c u) D 16 [] [.int s0] := by
  unfold f_J1_canEncode_9a6ad_b16 at h
  obtain ⟨c1, h⟩ := if_none h
  obtain rfl := Option.some.inj h
  exact v_zret (pc := 16) O hz (congrArg Value.int c1) dJ1_canEncode_9a6ad_16
def f_J1_canEncode_9a6ad_b15 (D : Dat) : Option (Int32 × Dat) :=
  f_J1_canEncode_9a6ad_b16 0 D
set_option maxHeartbeats 4000000 in
theorem w_J1_canEncode_9a6ad_b15 {X : Cx} {n nu c u : Nat} {K : Nat → Nat} {z : Int32 × Dat} (O : Ok X cJ1_canEncode_9a6ad RJ1 (some .boolean) 0 0) (hm : wlm (xw X) = true) (hn : xn X = 1) (hz : Z0 X (Ax nu K c u)) (D : Dat) (h : f_J1_canEncode_9a6ad_b15 D = some z) : V X (Q0 X n (Ax nu K c u) (some (.int z.1)) z.2) n (Ax nu K c u) D 15 [] [] := by
  unfold f_J1_canEncode_9a6ad_b15 at h
  refine v_iconst (pc := 15) O dJ1_canEncode_9a6ad_15 ic_0 ?_
  refine v_sub [] rfl ?_
  exact w_J1_canEncode_9a6ad_b16 O hm hn hz 0 D h
def f_J1_canEncode_9a6ad (x0 : Int32) (D : Dat) : Option (Int32 × Dat) :=
  if x0 < 0 then (f_J1_canEncode_9a6ad_b15 D) else (if 255 < x0 then (f_J1_canEncode_9a6ad_b15 D) else (f_J1_canEncode_9a6ad_b16 1 D))
set_option maxHeartbeats 4000000 in
theorem w_J1_canEncode_9a6ad {X : Cx} {n nu c u : Nat} {K : Nat → Nat} {z : Int32 × Dat} (O : Ok X cJ1_canEncode_9a6ad RJ1 (some .boolean) 0 0) (hm : wlm (xw X) = true) (hn : xn X = 1) (hz : Z0 X (Ax nu K c u)) (x0 : Int32) (D : Dat) (h : f_J1_canEncode_9a6ad x0 D = some z) : V X (Q0 X n (Ax nu K c u) (some (.int z.1)) z.2) n (Ax nu K c u) D 0 [(0, .int x0)] [] := by
  unfold f_J1_canEncode_9a6ad at h
  refine v_iload_n (pc := 0) O dJ1_canEncode_9a6ad_0 0 rfl ?_
  refine v_iflt (pc := 1) 15 O dJ1_canEncode_9a6ad_1 (by decide) (fun c2 => ?_) (fun c2 => ?_)
  · have h := (if_pos c2).symm.trans h
    refine v_sub [] rfl ?_
    exact w_J1_canEncode_9a6ad_b15 O hm hn hz D h
  · have h := (if_neg c2).symm.trans h
    refine v_iload_n (pc := 4) O dJ1_canEncode_9a6ad_4 0 rfl ?_
    refine v_sipush (pc := 5) O dJ1_canEncode_9a6ad_5 sp_255 ?_
    refine v_icmpgt (pc := 8) 15 O dJ1_canEncode_9a6ad_8 (by decide) (fun c3 => ?_) (fun c3 => ?_)
    · have h := (if_pos c3).symm.trans h
      refine v_sub [] rfl ?_
      exact w_J1_canEncode_9a6ad_b15 O hm hn hz D h
    · have h := (if_neg c3).symm.trans h
      refine v_iconst (pc := 11) O dJ1_canEncode_9a6ad_11 ic_1 ?_
      refine v_goto (pc := 12) 16 O dJ1_canEncode_9a6ad_12 (by decide) ?_
      refine v_sub [] rfl ?_
      exact w_J1_canEncode_9a6ad_b16 O hm hn hz 1 D h
theorem c_J1_canEncode_9a6ad {l : Launch} {w : Wx} {n nu c u : Nat} {K : Nat → Nat} (hm : wlm w = true) {x0 : Int32} {D : Dat} {z : Int32 × Dat} (h : f_J1_canEncode_9a6ad x0 D = some z) : C0 l w yJ1_canEncode_9a6ad cJ1_canEncode_9a6ad 1 (some .boolean) 0 0 [.int x0] n (Ax nu K c u) D (some (.int z.1)) z.2 :=
  C0.of (by decide) (Nat.le_of_ble_eq_true rfl) (fun X e1 e2 e3 hz O => by
  subst e1
  subst e2
  exact w_J1_canEncode_9a6ad O hm e3 hz x0 D h)
def f_J1_indexOfChar_4cfef_b7 (N : Nat) : Nat → Nat → Int32 → Int32 → Int32 → Dat → Option (Int32 × Dat)
  | 0, _, _, _, _, _ => none
  | g + 1, x0, x3, x4, x5, D => if x3 ≤ x5 then (some ((-1), D)) else (if x0 < 10 then (if x5 < 0 ∨ slen.getD x0 0 ≤ (x5).toNatClampNeg then none else (if ((sbyt.getD x0 []).getD (x5).toNatClampNeg 0) = x4 then (some (x5, D)) else ((f_J1_indexOfChar_4cfef_b7 N g) x0 x3 x4 (x5 + 1) D))) else none)
set_option maxHeartbeats 4000000 in
theorem w_J1_indexOfChar_4cfef_b7 {X : Cx} {n nu c u : Nat} {K : Nat → Nat} {N : Nat} {z : Int32 × Dat} (O : Ok X cJ1_indexOfChar_4cfef RJ1 (some .int) 0 0) (hm : wlm (xw X) = true) (hn : xn X = 6) (hz : Z0 X (Ax nu K c u)) : ∀ (g : Nat) (x0 : Nat) (x3 : Int32) (x4 : Int32) (x5 : Int32) (D : Dat), f_J1_indexOfChar_4cfef_b7 N g x0 x3 x4 x5 D = some z → V X (Q0 X n (Ax nu K c u) (some (.int z.1)) z.2) n (Ax nu K c u) D 7 [(0, .ref (woV (xw X) x0)), (3, .int x3), (4, .int x4), (5, .int x5)] [] := by
  intro g
  induction g with
  | zero => intro x0 x3 x4 x5 D h; exact absurd h (by simp [f_J1_indexOfChar_4cfef_b7])
  | succ g ih =>
    intro x0 x3 x4 x5 D h
    rw [f_J1_indexOfChar_4cfef_b7] at h
    refine v_iload (pc := 7) O dJ1_indexOfChar_4cfef_7 3 rfl ?_
    refine v_iload_n (pc := 9) O dJ1_indexOfChar_4cfef_9 1 rfl ?_
    refine v_icmpge (pc := 10) 31 O dJ1_indexOfChar_4cfef_10 (by decide) (fun c1 => ?_) (fun c1 => ?_)
    · have h := (if_pos c1).symm.trans h
      refine v_iconst (pc := 31) O dJ1_indexOfChar_4cfef_31 ic_m1 ?_
      obtain rfl := Option.some.inj h
      exact v_iret (pc := 32) O hz dJ1_indexOfChar_4cfef_32
    · have h := (if_neg c1).symm.trans h
      refine v_aload_n (pc := 13) O dJ1_indexOfChar_4cfef_13 0 rfl ?_
      refine v_iload (pc := 14) O dJ1_indexOfChar_4cfef_14 3 rfl ?_
      obtain ⟨c2, h⟩ := if_none h
      obtain ⟨c3, h⟩ := or_none h
      refine v_bald (pc := 16) (i := x0) O c2 c3 dJ1_indexOfChar_4cfef_16 ?_
      refine v_iload (pc := 17) O dJ1_indexOfChar_4cfef_17 2 rfl ?_
      refine v_icmpne (pc := 19) 25 O dJ1_indexOfChar_4cfef_19 (by decide) (fun c4 => ?_) (fun c4 => ?_)
      · have h := (if_neg c4).symm.trans h
        refine v_iinc (pc := 25) (lv' := [(5, .int (x5 + 1)), (0, .ref (woV (xw X) x0)), (3, .int x3), (4, .int x4)]) O dJ1_indexOfChar_4cfef_25 3 rfl (congrArg (fun q => x5 + q) ic_1) (by rw [hn]; decide) rfl ?_
        refine v_goto (pc := 28) 7 O dJ1_indexOfChar_4cfef_28 (by decide) ?_
        refine v_sub [1, 2, 3, 0] rfl ?_
        exact ih x0 x3 x4 (x5 + 1) D h
      · have h := (if_pos c4).symm.trans h
        refine v_iload (pc := 22) O dJ1_indexOfChar_4cfef_22 3 rfl ?_
        obtain rfl := Option.some.inj h
        exact v_iret (pc := 24) O hz dJ1_indexOfChar_4cfef_24
def f_J1_indexOfChar_4cfef (N : Nat) (x0 : Nat) (x1 : Int32) (x2 : Int32) (x3 : Int32) (D : Dat) : Option (Int32 × Dat) :=
  f_J1_indexOfChar_4cfef_b7 N N x0 x3 ((x1 : Int32).toInt8.toInt32) x2 D
set_option maxHeartbeats 4000000 in
theorem w_J1_indexOfChar_4cfef {X : Cx} {n nu c u : Nat} {K : Nat → Nat} {N : Nat} {z : Int32 × Dat} (O : Ok X cJ1_indexOfChar_4cfef RJ1 (some .int) 0 0) (hm : wlm (xw X) = true) (hn : xn X = 6) (hz : Z0 X (Ax nu K c u)) (x0 : Nat) (x1 : Int32) (x2 : Int32) (x3 : Int32) (D : Dat) (h : f_J1_indexOfChar_4cfef N x0 x1 x2 x3 D = some z) : V X (Q0 X n (Ax nu K c u) (some (.int z.1)) z.2) n (Ax nu K c u) D 0 [(0, .ref (woV (xw X) x0)), (1, .int x1), (2, .int x2), (3, .int x3)] [] := by
  unfold f_J1_indexOfChar_4cfef at h
  refine v_iload_n (pc := 0) O dJ1_indexOfChar_4cfef_0 1 rfl ?_
  refine v_i2b (pc := 1) O dJ1_indexOfChar_4cfef_1 ?_
  refine v_istore (pc := 2) (lv' := [(4, .int ((x1 : Int32).toInt8.toInt32)), (0, .ref (woV (xw X) x0)), (1, .int x1), (2, .int x2), (3, .int x3)]) O dJ1_indexOfChar_4cfef_2 (by rw [hn]; decide) rfl ?_
  refine v_iload_n (pc := 4) O dJ1_indexOfChar_4cfef_4 3 rfl ?_
  refine v_istore (pc := 5) (lv' := [(5, .int x2), (4, .int ((x1 : Int32).toInt8.toInt32)), (0, .ref (woV (xw X) x0)), (1, .int x1), (2, .int x2), (3, .int x3)]) O dJ1_indexOfChar_4cfef_5 (by rw [hn]; decide) rfl ?_
  refine v_sub [2, 5, 1, 0] rfl ?_
  exact w_J1_indexOfChar_4cfef_b7 O hm hn hz N x0 x3 ((x1 : Int32).toInt8.toInt32) x2 D h
theorem c_J1_indexOfChar_4cfef {l : Launch} {w : Wx} {n nu c u : Nat} {K : Nat → Nat} {N : Nat} (hm : wlm w = true) {x0 : Nat} {x1 : Int32} {x2 : Int32} {x3 : Int32} {D : Dat} {z : Int32 × Dat} (h : f_J1_indexOfChar_4cfef N x0 x1 x2 x3 D = some z) : C0 l w yJ1_indexOfChar_4cfef cJ1_indexOfChar_4cfef 6 (some .int) 0 0 [.ref (woV (w) x0), .int x1, .int x2, .int x3] n (Ax nu K c u) D (some (.int z.1)) z.2 :=
  C0.of (by decide) (Nat.le_of_ble_eq_true rfl) (fun X e1 e2 e3 hz O => by
  subst e1
  subst e2
  exact w_J1_indexOfChar_4cfef O hm e3 hz x0 x1 x2 x3 D h)
def f_J0_checkBoundsBeginEnd_23922 (x0 : Int32) (x1 : Int32) (x2 : Int32) (D : Dat) : Option (Dat) :=
  (f_J3_checkFromToIndex_8c36e x0 x1 x2 D).bind (fun p1 => some p1.2)
set_option maxHeartbeats 4000000 in
theorem w_J0_checkBoundsBeginEnd_23922 {X : Cx} {n nu c u : Nat} {K : Nat → Nat} {z : Dat} (O : Ok X cJ0_checkBoundsBeginEnd_23922 RJ0 none 1 23) (hm : wlm (xw X) = true) (hn : xn X = 3) (hz : Z0 X (Ax nu K c u)) (x0 : Int32) (x1 : Int32) (x2 : Int32) (D : Dat) (h : f_J0_checkBoundsBeginEnd_23922 x0 x1 x2 D = some z) : V X (Q0 X n (Ax nu K c u) none z) n (Ax nu K c u) D 0 [(0, .int x0), (1, .int x1), (2, .int x2)] [] := by
  unfold f_J0_checkBoundsBeginEnd_23922 at h
  refine v_iload_n (pc := 0) O dJ0_checkBoundsBeginEnd_23922_0 0 rfl ?_
  refine v_iload_n (pc := 1) O dJ0_checkBoundsBeginEnd_23922_1 1 rfl ?_
  refine v_iload_n (pc := 2) O dJ0_checkBoundsBeginEnd_23922_2 2 rfl ?_
  refine v_fmt (pc := 3) O fl_J0_1053 dJ0_checkBoundsBeginEnd_23922_3 ?_
  obtain ⟨p1, e2, h⟩ := bind_some h
  refine v_callS (pc := 6) (As := [.int x0, .int x1, .int x2, fmt (xw X)]) (rest := []) (r := (some (.int p1.1))) (D' := p1.2) O (bb0 hz) (c_J3_checkFromToIndex_8c36e hm e2) mw_J3_checkFromToIndex_8c36e sm_J3_checkFromToIndex_8c36e ml_J0_1062 rfl (by decide) (by decide) (Nat.le_of_ble_eq_true rfl) dJ0_checkBoundsBeginEnd_23922_6 rfl rfl ?_
  refine v_pop (pc := 9) O dJ0_checkBoundsBeginEnd_23922_9 rfl ?_
  obtain rfl := Option.some.inj h
  exact v_ret (pc := 10) O hz dJ0_checkBoundsBeginEnd_23922_10
theorem c_J0_checkBoundsBeginEnd_23922 {l : Launch} {w : Wx} {n nu c u : Nat} {K : Nat → Nat} (hm : wlm w = true) {x0 : Int32} {x1 : Int32} {x2 : Int32} {D : Dat} {z : Dat} (h : f_J0_checkBoundsBeginEnd_23922 x0 x1 x2 D = some z) : C0 l w yJ0_checkBoundsBeginEnd_23922 cJ0_checkBoundsBeginEnd_23922 3 none 1 23 [.int x0, .int x1, .int x2] n (Ax nu K c u) D none z :=
  C0.of (by decide) (Nat.le_of_ble_eq_true rfl) (fun X e1 e2 e3 hz O => by
  subst e1
  subst e2
  exact w_J0_checkBoundsBeginEnd_23922 O hm e3 hz x0 x1 x2 D h)
def f_J0_checkIndex_df160 (x0 : Int32) (x1 : Int32) (D : Dat) : Option (Dat) :=
  (f_J3_checkIndex_8e157 x0 x1 D).bind (fun p1 => some p1.2)
set_option maxHeartbeats 4000000 in
theorem w_J0_checkIndex_df160 {X : Cx} {n nu c u : Nat} {K : Nat → Nat} {z : Dat} (O : Ok X cJ0_checkIndex_df160 RJ0 none 1 22) (hm : wlm (xw X) = true) (hn : xn X = 2) (hz : Z0 X (Ax nu K c u)) (x0 : Int32) (x1 : Int32) (D : Dat) (h : f_J0_checkIndex_df160 x0 x1 D = some z) : V X (Q0 X n (Ax nu K c u) none z) n (Ax nu K c u) D 0 [(0, .int x0), (1, .int x1)] [] := by
  unfold f_J0_checkIndex_df160 at h
  refine v_iload_n (pc := 0) O dJ0_checkIndex_df160_0 0 rfl ?_
  refine v_iload_n (pc := 1) O dJ0_checkIndex_df160_1 1 rfl ?_
  refine v_fmt (pc := 2) O fl_J0_1053 dJ0_checkIndex_df160_2 ?_
  obtain ⟨p1, e2, h⟩ := bind_some h
  refine v_callS (pc := 5) (As := [.int x0, .int x1, fmt (xw X)]) (rest := []) (r := (some (.int p1.1))) (D' := p1.2) O (bb0 hz) (c_J3_checkIndex_8e157 hm e2) mw_J3_checkIndex_8e157 sm_J3_checkIndex_8e157 ml_J0_1059 rfl (by decide) (by decide) (Nat.le_of_ble_eq_true rfl) dJ0_checkIndex_df160_5 rfl rfl ?_
  refine v_pop (pc := 8) O dJ0_checkIndex_df160_8 rfl ?_
  obtain rfl := Option.some.inj h
  exact v_ret (pc := 9) O hz dJ0_checkIndex_df160_9
theorem c_J0_checkIndex_df160 {l : Launch} {w : Wx} {n nu c u : Nat} {K : Nat → Nat} (hm : wlm w = true) {x0 : Int32} {x1 : Int32} {D : Dat} {z : Dat} (h : f_J0_checkIndex_df160 x0 x1 D = some z) : C0 l w yJ0_checkIndex_df160 cJ0_checkIndex_df160 2 none 1 22 [.int x0, .int x1] n (Ax nu K c u) D none z :=
  C0.of (by decide) (Nat.le_of_ble_eq_true rfl) (fun X e1 e2 e3 hz O => by
  subst e1
  subst e2
  exact w_J0_checkIndex_df160 O hm e3 hz x0 x1 D h)
def f_J0_coder_7d493_b14 (t : Nat) (s0 : Int32) (D : Dat) : Option (Int32 × Dat) :=
  if vp_nar .byte s0 = s0 then some (s0, D) else none
set_option maxHeartbeats 4000000 in
theorem w_J0_coder_7d493_b14 {X : Cx} {n nu c u : Nat} {K : Nat → Nat} {t : Nat} {z : Int32 × Dat} (O : Ok X cJ0_coder_7d493 RJ0 (some .byte) 0 0) (hm : wlm (xw X) = true) (hn : xn X = 1) (hz : Z0 X (Ax nu K c u)) (ht : t < 10) (s0 : Int32) (D : Dat) (h : f_J0_coder_7d493_b14 t s0 D = some z) : V X (Q0 X n (Ax nu K c u) (some (.int z.1)) z.2) n (Ax nu K c u) D 14 [] [.int s0] := by
  unfold f_J0_coder_7d493_b14 at h
  obtain ⟨c1, h⟩ := if_none h
  obtain rfl := Option.some.inj h
  exact v_nret (pc := 14) O hz (nar_ok c1) dJ0_coder_7d493_14
def f_J0_coder_7d493 (t : Nat) (D : Dat) : Option (Int32 × Dat) :=
  if (1 : Int32) = 0 then (f_J0_coder_7d493_b14 t 1 D) else (f_J0_coder_7d493_b14 t 0 D)
set_option maxHeartbeats 4000000 in
theorem w_J0_coder_7d493 {X : Cx} {n nu c u : Nat} {K : Nat → Nat} {t : Nat} {z : Int32 × Dat} (O : Ok X cJ0_coder_7d493 RJ0 (some .byte) 0 0) (hm : wlm (xw X) = true) (hn : xn X = 1) (hz : Z0 X (Ax nu K c u)) (ht : t < 10) (D : Dat) (h : f_J0_coder_7d493 t D = some z) : V X (Q0 X n (Ax nu K c u) (some (.int z.1)) z.2) n (Ax nu K c u) D 0 [(0, .ref (woK (xw X) t))] [] := by
  unfold f_J0_coder_7d493 at h
  refine v_compact (pc := 0) O fl_J0_38 dJ0_coder_7d493_0 ?_
  refine v_ifeq (pc := 3) 13 O dJ0_coder_7d493_3 (by decide) (fun c2 => ?_) (fun c2 => ?_)
  · have h := (if_pos c2).symm.trans h
    refine v_iconst (pc := 13) O dJ0_coder_7d493_13 ic_1 ?_
    refine v_sub [] rfl ?_
    exact w_J0_coder_7d493_b14 O hm hn hz ht 1 D h
  · have h := (if_neg c2).symm.trans h
    refine v_aload_n (pc := 6) O dJ0_coder_7d493_6 0 rfl ?_
    refine v_scod (pc := 7) (i := t) O ht fl_J0_15 dJ0_coder_7d493_7 ?_
    refine v_goto (pc := 10) 14 O dJ0_coder_7d493_10 (by decide) ?_
    refine v_sub [] rfl ?_
    exact w_J0_coder_7d493_b14 O hm hn hz ht 0 D h
theorem c_J0_coder_7d493 {l : Launch} {w : Wx} {n nu c u : Nat} {K : Nat → Nat} {t : Nat} (hm : wlm w = true) (ht : t < 10) {D : Dat} {z : Int32 × Dat} (h : f_J0_coder_7d493 t D = some z) : C0 l w yJ0_coder_7d493 cJ0_coder_7d493 1 (some .byte) 0 0 [.ref (woK (w) t)] n (Ax nu K c u) D (some (.int z.1)) z.2 :=
  C0.of (by decide) (Nat.le_of_ble_eq_true rfl) (fun X e1 e2 e3 hz O => by
  subst e1
  subst e2
  exact w_J0_coder_7d493 O hm e3 hz ht  D h)
def f_J0_isLatin1_aae02_b18 (t : Nat) (s0 : Int32) (D : Dat) : Option (Int32 × Dat) :=
  if s0 &&& 1 = s0 then some (s0, D) else none
set_option maxHeartbeats 4000000 in
theorem w_J0_isLatin1_aae02_b18 {X : Cx} {n nu c u : Nat} {K : Nat → Nat} {t : Nat} {z : Int32 × Dat} (O : Ok X cJ0_isLatin1_aae02 RJ0 (some .boolean) 0 0) (hm : wlm (xw X) = true) (hn : xn X = 1) (hz : Z0 X (Ax nu K c u)) (ht : t < 10) (s0 : Int32) (D : Dat) (h : f_J0_isLatin1_aae02_b18 t s0 D = some z) : V X (Q0 X n (Ax nu K c u) (some (.int z.1)) z.2) n (Ax nu K c u) D 18 [] [.int s0] := by
  unfold f_J0_isLatin1_aae02_b18 at h
  obtain ⟨c1, h⟩ := if_none h
  obtain rfl := Option.some.inj h
  exact v_zret (pc := 18) O hz (congrArg Value.int c1) dJ0_isLatin1_aae02_18
def f_J0_isLatin1_aae02_b17 (t : Nat) (D : Dat) : Option (Int32 × Dat) :=
  f_J0_isLatin1_aae02_b18 t 0 D
set_option maxHeartbeats 4000000 in
theorem w_J0_isLatin1_aae02_b17 {X : Cx} {n nu c u : Nat} {K : Nat → Nat} {t : Nat} {z : Int32 × Dat} (O : Ok X cJ0_isLatin1_aae02 RJ0 (some .boolean) 0 0) (hm : wlm (xw X) = true) (hn : xn X = 1) (hz : Z0 X (Ax nu K c u)) (ht : t < 10) (D : Dat) (h : f_J0_isLatin1_aae02_b17 t D = some z) : V X (Q0 X n (Ax nu K c u) (some (.int z.1)) z.2) n (Ax nu K c u) D 17 [] [] := by
  unfold f_J0_isLatin1_aae02_b17 at h
  refine v_iconst (pc := 17) O dJ0_isLatin1_aae02_17 ic_0 ?_
  refine v_sub [] rfl ?_
  exact w_J0_isLatin1_aae02_b18 O hm hn hz ht 0 D h
def f_J0_isLatin1_aae02 (t : Nat) (D : Dat) : Option (Int32 × Dat) :=
  if (1 : Int32) = 0 then (f_J0_isLatin1_aae02_b17 t D) else (if (0 : Int32) = 0 then (f_J0_isLatin1_aae02_b18 t 1 D) else (f_J0_isLatin1_aae02_b17 t D))
set_option maxHeartbeats 4000000 in
theorem w_J0_isLatin1_aae02 {X : Cx} {n nu c u : Nat} {K : Nat → Nat} {t : Nat} {z : Int32 × Dat} (O : Ok X cJ0_isLatin1_aae02 RJ0 (some .boolean) 0 0) (hm : wlm (xw X) = true) (hn : xn X = 1) (hz : Z0 X (Ax nu K c u)) (ht : t < 10) (D : Dat) (h : f_J0_isLatin1_aae02 t D = some z) : V X (Q0 X n (Ax nu K c u) (some (.int z.1)) z.2) n (Ax nu K c u) D 0 [(0, .ref (woK (xw X) t))] [] := by
  unfold f_J0_isLatin1_aae02 at h
  refine v_compact (pc := 0) O fl_J0_38 dJ0_isLatin1_aae02_0 ?_
  refine v_ifeq (pc := 3) 17 O dJ0_isLatin1_aae02_3 (by decide) (fun c2 => ?_) (fun c2 => ?_)
  · have h := (if_pos c2).symm.trans h
    refine v_sub [] rfl ?_
    exact w_J0_isLatin1_aae02_b17 O hm hn hz ht D h
  · have h := (if_neg c2).symm.trans h
    refine v_aload_n (pc := 6) O dJ0_isLatin1_aae02_6 0 rfl ?_
    refine v_scod (pc := 7) (i := t) O ht fl_J0_15 dJ0_isLatin1_aae02_7 ?_
    refine v_ifne (pc := 10) 17 O dJ0_isLatin1_aae02_10 (by decide) (fun c3 => ?_) (fun c3 => ?_)
    · have h := (if_neg c3).symm.trans h
      refine v_sub [] rfl ?_
      exact w_J0_isLatin1_aae02_b17 O hm hn hz ht D h
    · have h := (if_pos c3).symm.trans h
      refine v_iconst (pc := 13) O dJ0_isLatin1_aae02_13 ic_1 ?_
      refine v_goto (pc := 14) 18 O dJ0_isLatin1_aae02_14 (by decide) ?_
      refine v_sub [] rfl ?_
      exact w_J0_isLatin1_aae02_b18 O hm hn hz ht 1 D h
theorem c_J0_isLatin1_aae02 {l : Launch} {w : Wx} {n nu c u : Nat} {K : Nat → Nat} {t : Nat} (hm : wlm w = true) (ht : t < 10) {D : Dat} {z : Int32 × Dat} (h : f_J0_isLatin1_aae02 t D = some z) : C0 l w yJ0_isLatin1_aae02 cJ0_isLatin1_aae02 1 (some .boolean) 0 0 [.ref (woK (w) t)] n (Ax nu K c u) D (some (.int z.1)) z.2 :=
  C0.of (by decide) (Nat.le_of_ble_eq_true rfl) (fun X e1 e2 e3 hz O => by
  subst e1
  subst e2
  exact w_J0_isLatin1_aae02 O hm e3 hz ht  D h)
def f_J0_length_8abf5 (t : Nat) (D : Dat) : Option (Int32 × Dat) :=
  (f_J0_coder_7d493 t D).bind (fun p1 => some (((Int32.ofNat (slen.getD t 0)) >>> (p1.1 &&& 31)), p1.2))
set_option maxHeartbeats 4000000 in
theorem w_J0_length_8abf5 {X : Cx} {n nu c u : Nat} {K : Nat → Nat} {t : Nat} {z : Int32 × Dat} (O : Ok X cJ0_length_8abf5 RJ0 (some .int) 1 20) (hm : wlm (xw X) = true) (hn : xn X = 1) (hz : Z0 X (Ax nu K c u)) (ht : t < 10) (D : Dat) (h : f_J0_length_8abf5 t D = some z) : V X (Q0 X n (Ax nu K c u) (some (.int z.1)) z.2) n (Ax nu K c u) D 0 [(0, .ref (woK (xw X) t))] [] := by
  unfold f_J0_length_8abf5 at h
  refine v_aload_n (pc := 0) O dJ0_length_8abf5_0 0 rfl ?_
  refine v_sval (pc := 1) (i := t) O ht fl_J0_9 dJ0_length_8abf5_1 ?_
  refine v_blen (pc := 4) (i := t) O ht dJ0_length_8abf5_4 ?_
  refine v_aload_n (pc := 5) O dJ0_length_8abf5_5 0 rfl ?_
  obtain ⟨p1, e2, h⟩ := bind_some h
  refine v_callT (pc := 6) (i := t) (As := []) (rest := [.int (Int32.ofNat (slen.getD t 0))]) (r := (some (.int p1.1))) (D' := p1.2) O (bb0 hz) ht (c_J0_coder_7d493 hm ht e2) mw_J0_coder_7d493 im_J0_coder_7d493 se_J0_coder_7d493 ml_J0_335 rfl rfl (by decide) (by decide) (Nat.le_of_ble_eq_true rfl) dJ0_length_8abf5_6 rfl rfl ?_
  refine v_ishr (pc := 9) O dJ0_length_8abf5_9 ?_
  obtain rfl := Option.some.inj h
  exact v_iret (pc := 10) O hz dJ0_length_8abf5_10
theorem c_J0_length_8abf5 {l : Launch} {w : Wx} {n nu c u : Nat} {K : Nat → Nat} {t : Nat} (hm : wlm w = true) (ht : t < 10) {D : Dat} {z : Int32 × Dat} (h : f_J0_length_8abf5 t D = some z) : C0 l w yJ0_length_8abf5 cJ0_length_8abf5 1 (some .int) 1 20 [.ref (woK (w) t)] n (Ax nu K c u) D (some (.int z.1)) z.2 :=
  C0.of (by decide) (Nat.le_of_ble_eq_true rfl) (fun X e1 e2 e3 hz O => by
  subst e1
  subst e2
  exact w_J0_length_8abf5 O hm e3 hz ht  D h)
def f_J7_fill_53178_b5 (N : Nat) (nu : Nat) (K : Nat → Nat) : Nat → Nat → Int32 → Int32 → Int32 → Dat → Option (Dat)
  | 0, _, _, _, _, _ => none
  | g + 1, x0, x1, x2, x3, D => if x3 ≤ x2 then (some D) else (if kd K x0 = 14 then (if x2 < 0 ∨ (nl nu x0) ≤ (x2).toNatClampNeg then none else ((f_J7_fill_53178_b5 N nu K g) x0 x1 (x2 + 1) x3 (sI D x0 (x2).toNatClampNeg x1))) else none)
set_option maxHeartbeats 4000000 in
theorem w_J7_fill_53178_b5 {X : Cx} {n nu c u : Nat} {K : Nat → Nat} {N : Nat} {z : Dat} (O : Ok X cJ7_fill_53178 RJ7 none 0 0) (hm : wlm (xw X) = true) (hn : xn X = 4) (hz : Z0 X (Ax nu K c u)) : ∀ (g : Nat) (x0 : Nat) (x1 : Int32) (x2 : Int32) (x3 : Int32) (D : Dat), f_J7_fill_53178_b5 N nu K g x0 x1 x2 x3 D = some z → V X (Q0 X n (Ax nu K c u) none z) n (Ax nu K c u) D 5 [(0, .ref (bo X + pp x0)), (1, .int x1), (2, .int x2), (3, .int x3)] [] := by
  intro g
  induction g with
  | zero => intro x0 x1 x2 x3 D h; exact absurd h (by simp [f_J7_fill_53178_b5])
  | succ g ih =>
    intro x0 x1 x2 x3 D h
    rw [f_J7_fill_53178_b5] at h
    refine v_iload_n (pc := 5) O dJ7_fill_53178_5 2 rfl ?_
    refine v_iload_n (pc := 6) O dJ7_fill_53178_6 3 rfl ?_
    refine v_icmpge (pc := 7) 20 O dJ7_fill_53178_7 (by decide) (fun c1 => ?_) (fun c1 => ?_)
    · have h := (if_pos c1).symm.trans h
      obtain rfl := Option.some.inj h
      exact v_ret (pc := 20) O hz dJ7_fill_53178_20
    · have h := (if_neg c1).symm.trans h
      refine v_aload_n (pc := 10) O dJ7_fill_53178_10 0 rfl ?_
      refine v_iload_n (pc := 11) O dJ7_fill_53178_11 2 rfl ?_
      refine v_iload_n (pc := 12) O dJ7_fill_53178_12 1 rfl ?_
      obtain ⟨c2, h⟩ := if_none h
      obtain ⟨c3, h⟩ := or_none h
      refine v_iast (pc := 13) (a := x0) O c2 (inq rfl c3) dJ7_fill_53178_13 ?_
      refine v_iinc (pc := 14) (lv' := [(2, .int (x2 + 1)), (0, .ref (bo X + pp x0)), (1, .int x1), (3, .int x3)]) O dJ7_fill_53178_14 2 rfl (congrArg (fun q => x2 + q) ic_1) (by rw [hn]; decide) rfl ?_
      refine v_goto (pc := 17) 5 O dJ7_fill_53178_17 (by decide) ?_
      refine v_sub [1, 2, 0, 3] rfl ?_
      exact ih x0 x1 (x2 + 1) x3 (sI D x0 (x2).toNatClampNeg x1) h
def f_J7_fill_53178 (N : Nat) (nu : Nat) (K : Nat → Nat) (x0 : Nat) (x1 : Int32) (D : Dat) : Option (Dat) :=
  if kd K x0 = 14 then (f_J7_fill_53178_b5 N nu K N x0 x1 0 (Int32.ofNat (nl nu x0)) D) else none
set_option maxHeartbeats 4000000 in
theorem w_J7_fill_53178 {X : Cx} {n nu c u : Nat} {K : Nat → Nat} {N : Nat} {z : Dat} (O : Ok X cJ7_fill_53178 RJ7 none 0 0) (hm : wlm (xw X) = true) (hn : xn X = 4) (hz : Z0 X (Ax nu K c u)) (x0 : Nat) (x1 : Int32) (D : Dat) (h : f_J7_fill_53178 N nu K x0 x1 D = some z) : V X (Q0 X n (Ax nu K c u) none z) n (Ax nu K c u) D 0 [(0, .ref (bo X + pp x0)), (1, .int x1)] [] := by
  unfold f_J7_fill_53178 at h
  refine v_iconst (pc := 0) O dJ7_fill_53178_0 ic_0 ?_
  refine v_istore_n (pc := 1) (lv' := [(2, .int 0), (0, .ref (bo X + pp x0)), (1, .int x1)]) O dJ7_fill_53178_1 rfl (by rw [hn]; decide) rfl ?_
  refine v_aload_n (pc := 2) O dJ7_fill_53178_2 1 rfl ?_
  obtain ⟨c4, h⟩ := if_none h
  refine v_alenI (pc := 3) (a := x0) O c4 dJ7_fill_53178_3 ?_
  refine v_istore_n (pc := 4) (lv' := [(3, .int (Int32.ofNat (nl nu x0))), (2, .int 0), (0, .ref (bo X + pp x0)), (1, .int x1)]) O dJ7_fill_53178_4 rfl (by rw [hn]; decide) rfl ?_
  refine v_sub [2, 3, 1, 0] rfl ?_
  exact w_J7_fill_53178_b5 O hm hn hz N x0 x1 0 (Int32.ofNat (nl nu x0)) D h
theorem c_J7_fill_53178 {l : Launch} {w : Wx} {n nu c u : Nat} {K : Nat → Nat} {N : Nat} (hm : wlm w = true) {x0 : Nat} {x1 : Int32} {D : Dat} {z : Dat} (h : f_J7_fill_53178 N nu K x0 x1 D = some z) : C0 l w yJ7_fill_53178 cJ7_fill_53178 4 none 0 0 [.ref (wb w + pp x0), .int x1] n (Ax nu K c u) D none z :=
  C0.of (by decide) (Nat.le_of_ble_eq_true rfl) (fun X e1 e2 e3 hz O => by
  subst e1
  subst e2
  exact w_J7_fill_53178 O hm e3 hz x0 x1 D h)
def f_J6_bitCount_0f7a4_b41 (x0 : Int32) (D : Dat) : Option (Int32 × Dat) :=
  some (((x0 + (((x0 : Int32).toUInt32 >>> ((16 : Int32).toUInt32 &&& Int32.toUInt32 31)).toInt32)) &&& (63 : Int32)), D)
set_option maxHeartbeats 4000000 in
theorem w_J6_bitCount_0f7a4_b41 {X : Cx} {n nu c u : Nat} {K : Nat → Nat} {z : Int32 × Dat} (O : Ok X cJ6_bitCount_0f7a4 RJ6 (some .int) 0 0) (hm : wlm (xw X) = true) (hn : xn X = 1) (hz : Z0 X (Ax nu K c u)) (x0 : Int32) (D : Dat) (h : f_J6_bitCount_0f7a4_b41 x0 D = some z) : V X (Q0 X n (Ax nu K c u) (some (.int z.1)) z.2) n (Ax nu K c u) D 41 [(0, .int x0)] [] := by
  unfold f_J6_bitCount_0f7a4_b41 at h
  refine v_iload_n (pc := 41) O dJ6_bitCount_0f7a4_41 0 rfl ?_
  refine v_iload_n (pc := 42) O dJ6_bitCount_0f7a4_42 0 rfl ?_
  refine v_bipush (pc := 43) O dJ6_bitCount_0f7a4_43 bp_16 ?_
  refine v_iushr (pc := 45) O dJ6_bitCount_0f7a4_45 ?_
  refine v_iadd (pc := 46) O dJ6_bitCount_0f7a4_46 ?_
  refine v_istore_n (pc := 47) (lv' := [(0, .int (x0 + (((x0 : Int32).toUInt32 >>> ((16 : Int32).toUInt32 &&& Int32.toUInt32 31)).toInt32)))]) O dJ6_bitCount_0f7a4_47 rfl (by rw [hn]; decide) rfl ?_
  refine v_iload_n (pc := 48) O dJ6_bitCount_0f7a4_48 0 rfl ?_
  refine v_bipush (pc := 49) O dJ6_bitCount_0f7a4_49 bp_63 ?_
  refine v_iand (pc := 51) O dJ6_bitCount_0f7a4_51 ?_
  obtain rfl := Option.some.inj h
  exact v_iret (pc := 52) O hz dJ6_bitCount_0f7a4_52
def f_J6_bitCount_0f7a4_b24 (x0 : Int32) (D : Dat) : Option (Int32 × Dat) :=
  f_J6_bitCount_0f7a4_b41 (((x0 + (((x0 : Int32).toUInt32 >>> ((4 : Int32).toUInt32 &&& Int32.toUInt32 31)).toInt32)) &&& (252645135 : Int32)) + (((((x0 + (((x0 : Int32).toUInt32 >>> ((4 : Int32).toUInt32 &&& Int32.toUInt32 31)).toInt32)) &&& (252645135 : Int32)) : Int32).toUInt32 >>> ((8 : Int32).toUInt32 &&& Int32.toUInt32 31)).toInt32)) D
set_option maxHeartbeats 4000000 in
theorem w_J6_bitCount_0f7a4_b24 {X : Cx} {n nu c u : Nat} {K : Nat → Nat} {z : Int32 × Dat} (O : Ok X cJ6_bitCount_0f7a4 RJ6 (some .int) 0 0) (hm : wlm (xw X) = true) (hn : xn X = 1) (hz : Z0 X (Ax nu K c u)) (x0 : Int32) (D : Dat) (h : f_J6_bitCount_0f7a4_b24 x0 D = some z) : V X (Q0 X n (Ax nu K c u) (some (.int z.1)) z.2) n (Ax nu K c u) D 24 [(0, .int x0)] [] := by
  unfold f_J6_bitCount_0f7a4_b24 at h
  refine v_iload_n (pc := 24) O dJ6_bitCount_0f7a4_24 0 rfl ?_
  refine v_iload_n (pc := 25) O dJ6_bitCount_0f7a4_25 0 rfl ?_
  refine v_iconst (pc := 26) O dJ6_bitCount_0f7a4_26 ic_4 ?_
  refine v_iushr (pc := 27) O dJ6_bitCount_0f7a4_27 ?_
  refine v_iadd (pc := 28) O dJ6_bitCount_0f7a4_28 ?_
  refine v_ldcw (pc := 29) O dJ6_bitCount_0f7a4_29 ci_J6_267 ?_
  refine v_iand (pc := 32) O dJ6_bitCount_0f7a4_32 ?_
  refine v_istore_n (pc := 33) (lv' := [(0, .int ((x0 + (((x0 : Int32).toUInt32 >>> ((4 : Int32).toUInt32 &&& Int32.toUInt32 31)).toInt32)) &&& (252645135 : Int32)))]) O dJ6_bitCount_0f7a4_33 rfl (by rw [hn]; decide) rfl ?_
  refine v_iload_n (pc := 34) O dJ6_bitCount_0f7a4_34 0 rfl ?_
  refine v_iload_n (pc := 35) O dJ6_bitCount_0f7a4_35 0 rfl ?_
  refine v_bipush (pc := 36) O dJ6_bitCount_0f7a4_36 bp_8 ?_
  refine v_iushr (pc := 38) O dJ6_bitCount_0f7a4_38 ?_
  refine v_iadd (pc := 39) O dJ6_bitCount_0f7a4_39 ?_
  refine v_istore_n (pc := 40) (lv' := [(0, .int (((x0 + (((x0 : Int32).toUInt32 >>> ((4 : Int32).toUInt32 &&& Int32.toUInt32 31)).toInt32)) &&& (252645135 : Int32)) + (((((x0 + (((x0 : Int32).toUInt32 >>> ((4 : Int32).toUInt32 &&& Int32.toUInt32 31)).toInt32)) &&& (252645135 : Int32)) : Int32).toUInt32 >>> ((8 : Int32).toUInt32 &&& Int32.toUInt32 31)).toInt32)))]) O dJ6_bitCount_0f7a4_40 rfl (by rw [hn]; decide) rfl ?_
  refine v_sub [0] rfl ?_
  exact w_J6_bitCount_0f7a4_b41 O hm hn hz (((x0 + (((x0 : Int32).toUInt32 >>> ((4 : Int32).toUInt32 &&& Int32.toUInt32 31)).toInt32)) &&& (252645135 : Int32)) + (((((x0 + (((x0 : Int32).toUInt32 >>> ((4 : Int32).toUInt32 &&& Int32.toUInt32 31)).toInt32)) &&& (252645135 : Int32)) : Int32).toUInt32 >>> ((8 : Int32).toUInt32 &&& Int32.toUInt32 31)).toInt32)) D h
def f_J6_bitCount_0f7a4 (x0 : Int32) (D : Dat) : Option (Int32 × Dat) :=
  f_J6_bitCount_0f7a4_b24 (((x0 - ((((x0 : Int32).toUInt32 >>> ((1 : Int32).toUInt32 &&& Int32.toUInt32 31)).toInt32) &&& (1431655765 : Int32))) &&& (858993459 : Int32)) + (((((x0 - ((((x0 : Int32).toUInt32 >>> ((1 : Int32).toUInt32 &&& Int32.toUInt32 31)).toInt32) &&& (1431655765 : Int32))) : Int32).toUInt32 >>> ((2 : Int32).toUInt32 &&& Int32.toUInt32 31)).toInt32) &&& (858993459 : Int32))) D
set_option maxHeartbeats 4000000 in
theorem w_J6_bitCount_0f7a4 {X : Cx} {n nu c u : Nat} {K : Nat → Nat} {z : Int32 × Dat} (O : Ok X cJ6_bitCount_0f7a4 RJ6 (some .int) 0 0) (hm : wlm (xw X) = true) (hn : xn X = 1) (hz : Z0 X (Ax nu K c u)) (x0 : Int32) (D : Dat) (h : f_J6_bitCount_0f7a4 x0 D = some z) : V X (Q0 X n (Ax nu K c u) (some (.int z.1)) z.2) n (Ax nu K c u) D 0 [(0, .int x0)] [] := by
  unfold f_J6_bitCount_0f7a4 at h
  refine v_iload_n (pc := 0) O dJ6_bitCount_0f7a4_0 0 rfl ?_
  refine v_iload_n (pc := 1) O dJ6_bitCount_0f7a4_1 0 rfl ?_
  refine v_iconst (pc := 2) O dJ6_bitCount_0f7a4_2 ic_1 ?_
  refine v_iushr (pc := 3) O dJ6_bitCount_0f7a4_3 ?_
  refine v_ldcw (pc := 4) O dJ6_bitCount_0f7a4_4 ci_J6_265 ?_
  refine v_iand (pc := 7) O dJ6_bitCount_0f7a4_7 ?_
  refine v_isub (pc := 8) O dJ6_bitCount_0f7a4_8 ?_
  refine v_istore_n (pc := 9) (lv' := [(0, .int (x0 - ((((x0 : Int32).toUInt32 >>> ((1 : Int32).toUInt32 &&& Int32.toUInt32 31)).toInt32) &&& (1431655765 : Int32))))]) O dJ6_bitCount_0f7a4_9 rfl (by rw [hn]; decide) rfl ?_
  refine v_iload_n (pc := 10) O dJ6_bitCount_0f7a4_10 0 rfl ?_
  refine v_ldcw (pc := 11) O dJ6_bitCount_0f7a4_11 ci_J6_266 ?_
  refine v_iand (pc := 14) O dJ6_bitCount_0f7a4_14 ?_
  refine v_iload_n (pc := 15) O dJ6_bitCount_0f7a4_15 0 rfl ?_
  refine v_iconst (pc := 16) O dJ6_bitCount_0f7a4_16 ic_2 ?_
  refine v_iushr (pc := 17) O dJ6_bitCount_0f7a4_17 ?_
  refine v_ldcw (pc := 18) O dJ6_bitCount_0f7a4_18 ci_J6_266 ?_
  refine v_iand (pc := 21) O dJ6_bitCount_0f7a4_21 ?_
  refine v_iadd (pc := 22) O dJ6_bitCount_0f7a4_22 ?_
  refine v_istore_n (pc := 23) (lv' := [(0, .int (((x0 - ((((x0 : Int32).toUInt32 >>> ((1 : Int32).toUInt32 &&& Int32.toUInt32 31)).toInt32) &&& (1431655765 : Int32))) &&& (858993459 : Int32)) + (((((x0 - ((((x0 : Int32).toUInt32 >>> ((1 : Int32).toUInt32 &&& Int32.toUInt32 31)).toInt32) &&& (1431655765 : Int32))) : Int32).toUInt32 >>> ((2 : Int32).toUInt32 &&& Int32.toUInt32 31)).toInt32) &&& (858993459 : Int32))))]) O dJ6_bitCount_0f7a4_23 rfl (by rw [hn]; decide) rfl ?_
  refine v_sub [0] rfl ?_
  exact w_J6_bitCount_0f7a4_b24 O hm hn hz (((x0 - ((((x0 : Int32).toUInt32 >>> ((1 : Int32).toUInt32 &&& Int32.toUInt32 31)).toInt32) &&& (1431655765 : Int32))) &&& (858993459 : Int32)) + (((((x0 - ((((x0 : Int32).toUInt32 >>> ((1 : Int32).toUInt32 &&& Int32.toUInt32 31)).toInt32) &&& (1431655765 : Int32))) : Int32).toUInt32 >>> ((2 : Int32).toUInt32 &&& Int32.toUInt32 31)).toInt32) &&& (858993459 : Int32))) D h
theorem c_J6_bitCount_0f7a4 {l : Launch} {w : Wx} {n nu c u : Nat} {K : Nat → Nat} (hm : wlm w = true) {x0 : Int32} {D : Dat} {z : Int32 × Dat} (h : f_J6_bitCount_0f7a4 x0 D = some z) : C0 l w yJ6_bitCount_0f7a4 cJ6_bitCount_0f7a4 1 (some .int) 0 0 [.int x0] n (Ax nu K c u) D (some (.int z.1)) z.2 :=
  C0.of (by decide) (Nat.le_of_ble_eq_true rfl) (fun X e1 e2 e3 hz O => by
  subst e1
  subst e2
  exact w_J6_bitCount_0f7a4 O hm e3 hz x0 D h)
def f_J13_bitCount_95d88_b55 (x0 : Int64) (D : Dat) : Option (Int32 × Dat) :=
  some ((((x0 : Int64).toInt32) &&& (127 : Int32)), D)
set_option maxHeartbeats 4000000 in
theorem w_J13_bitCount_95d88_b55 {X : Cx} {n nu c u : Nat} {K : Nat → Nat} {z : Int32 × Dat} (O : Ok X cJ13_bitCount_95d88 RJ13 (some .int) 0 0) (hm : wlm (xw X) = true) (hn : xn X = 2) (hz : Z0 X (Ax nu K c u)) (x0 : Int64) (D : Dat) (h : f_J13_bitCount_95d88_b55 x0 D = some z) : V X (Q0 X n (Ax nu K c u) (some (.int z.1)) z.2) n (Ax nu K c u) D 55 [(0, .long x0)] [] := by
  unfold f_J13_bitCount_95d88_b55 at h
  refine v_lload_n (pc := 55) O dJ13_bitCount_95d88_55 0 rfl ?_
  refine v_l2i (pc := 56) O dJ13_bitCount_95d88_56 ?_
  refine v_bipush (pc := 57) O dJ13_bitCount_95d88_57 bp_127 ?_
  refine v_iand (pc := 59) O dJ13_bitCount_95d88_59 ?_
  obtain rfl := Option.some.inj h
  exact v_iret (pc := 60) O hz dJ13_bitCount_95d88_60
def f_J13_bitCount_95d88_b41 (x0 : Int64) (D : Dat) : Option (Int32 × Dat) :=
  f_J13_bitCount_95d88_b55 ((x0 + (((x0 : Int64).toUInt64 >>> ((16 : Int32).toInt64.toUInt64 &&& Int64.toUInt64 63)).toInt64)) + ((((x0 + (((x0 : Int64).toUInt64 >>> ((16 : Int32).toInt64.toUInt64 &&& Int64.toUInt64 63)).toInt64)) : Int64).toUInt64 >>> ((32 : Int32).toInt64.toUInt64 &&& Int64.toUInt64 63)).toInt64)) D
set_option maxHeartbeats 4000000 in
theorem w_J13_bitCount_95d88_b41 {X : Cx} {n nu c u : Nat} {K : Nat → Nat} {z : Int32 × Dat} (O : Ok X cJ13_bitCount_95d88 RJ13 (some .int) 0 0) (hm : wlm (xw X) = true) (hn : xn X = 2) (hz : Z0 X (Ax nu K c u)) (x0 : Int64) (D : Dat) (h : f_J13_bitCount_95d88_b41 x0 D = some z) : V X (Q0 X n (Ax nu K c u) (some (.int z.1)) z.2) n (Ax nu K c u) D 41 [(0, .long x0)] [] := by
  unfold f_J13_bitCount_95d88_b41 at h
  refine v_lload_n (pc := 41) O dJ13_bitCount_95d88_41 0 rfl ?_
  refine v_lload_n (pc := 42) O dJ13_bitCount_95d88_42 0 rfl ?_
  refine v_bipush (pc := 43) O dJ13_bitCount_95d88_43 bp_16 ?_
  refine v_lushr (pc := 45) O dJ13_bitCount_95d88_45 ?_
  refine v_ladd (pc := 46) O dJ13_bitCount_95d88_46 ?_
  refine v_lstore_n (pc := 47) (lv' := [(0, .long (x0 + (((x0 : Int64).toUInt64 >>> ((16 : Int32).toInt64.toUInt64 &&& Int64.toUInt64 63)).toInt64)))]) O dJ13_bitCount_95d88_47 rfl (by rw [hn]; decide) rfl ?_
  refine v_lload_n (pc := 48) O dJ13_bitCount_95d88_48 0 rfl ?_
  refine v_lload_n (pc := 49) O dJ13_bitCount_95d88_49 0 rfl ?_
  refine v_bipush (pc := 50) O dJ13_bitCount_95d88_50 bp_32 ?_
  refine v_lushr (pc := 52) O dJ13_bitCount_95d88_52 ?_
  refine v_ladd (pc := 53) O dJ13_bitCount_95d88_53 ?_
  refine v_lstore_n (pc := 54) (lv' := [(0, .long ((x0 + (((x0 : Int64).toUInt64 >>> ((16 : Int32).toInt64.toUInt64 &&& Int64.toUInt64 63)).toInt64)) + ((((x0 + (((x0 : Int64).toUInt64 >>> ((16 : Int32).toInt64.toUInt64 &&& Int64.toUInt64 63)).toInt64)) : Int64).toUInt64 >>> ((32 : Int32).toInt64.toUInt64 &&& Int64.toUInt64 63)).toInt64)))]) O dJ13_bitCount_95d88_54 rfl (by rw [hn]; decide) rfl ?_
  refine v_sub [0] rfl ?_
  exact w_J13_bitCount_95d88_b55 O hm hn hz ((x0 + (((x0 : Int64).toUInt64 >>> ((16 : Int32).toInt64.toUInt64 &&& Int64.toUInt64 63)).toInt64)) + ((((x0 + (((x0 : Int64).toUInt64 >>> ((16 : Int32).toInt64.toUInt64 &&& Int64.toUInt64 63)).toInt64)) : Int64).toUInt64 >>> ((32 : Int32).toInt64.toUInt64 &&& Int64.toUInt64 63)).toInt64)) D h
def f_J13_bitCount_95d88_b24 (x0 : Int64) (D : Dat) : Option (Int32 × Dat) :=
  f_J13_bitCount_95d88_b41 (((x0 + (((x0 : Int64).toUInt64 >>> ((4 : Int32).toInt64.toUInt64 &&& Int64.toUInt64 63)).toInt64)) &&& (1085102592571150095 : Int64)) + (((((x0 + (((x0 : Int64).toUInt64 >>> ((4 : Int32).toInt64.toUInt64 &&& Int64.toUInt64 63)).toInt64)) &&& (1085102592571150095 : Int64)) : Int64).toUInt64 >>> ((8 : Int32).toInt64.toUInt64 &&& Int64.toUInt64 63)).toInt64)) D
set_option maxHeartbeats 4000000 in
theorem w_J13_bitCount_95d88_b24 {X : Cx} {n nu c u : Nat} {K : Nat → Nat} {z : Int32 × Dat} (O : Ok X cJ13_bitCount_95d88 RJ13 (some .int) 0 0) (hm : wlm (xw X) = true) (hn : xn X = 2) (hz : Z0 X (Ax nu K c u)) (x0 : Int64) (D : Dat) (h : f_J13_bitCount_95d88_b24 x0 D = some z) : V X (Q0 X n (Ax nu K c u) (some (.int z.1)) z.2) n (Ax nu K c u) D 24 [(0, .long x0)] [] := by
  unfold f_J13_bitCount_95d88_b24 at h
  refine v_lload_n (pc := 24) O dJ13_bitCount_95d88_24 0 rfl ?_
  refine v_lload_n (pc := 25) O dJ13_bitCount_95d88_25 0 rfl ?_
  refine v_iconst (pc := 26) O dJ13_bitCount_95d88_26 ic_4 ?_
  refine v_lushr (pc := 27) O dJ13_bitCount_95d88_27 ?_
  refine v_ladd (pc := 28) O dJ13_bitCount_95d88_28 ?_
  refine v_ldc2 (pc := 29) O dJ13_bitCount_95d88_29 cl_J13_318 ?_
  refine v_land (pc := 32) O dJ13_bitCount_95d88_32 ?_
  refine v_lstore_n (pc := 33) (lv' := [(0, .long ((x0 + (((x0 : Int64).toUInt64 >>> ((4 : Int32).toInt64.toUInt64 &&& Int64.toUInt64 63)).toInt64)) &&& (1085102592571150095 : Int64)))]) O dJ13_bitCount_95d88_33 rfl (by rw [hn]; decide) rfl ?_
  refine v_lload_n (pc := 34) O dJ13_bitCount_95d88_34 0 rfl ?_
  refine v_lload_n (pc := 35) O dJ13_bitCount_95d88_35 0 rfl ?_
  refine v_bipush (pc := 36) O dJ13_bitCount_95d88_36 bp_8 ?_
  refine v_lushr (pc := 38) O dJ13_bitCount_95d88_38 ?_
  refine v_ladd (pc := 39) O dJ13_bitCount_95d88_39 ?_
  refine v_lstore_n (pc := 40) (lv' := [(0, .long (((x0 + (((x0 : Int64).toUInt64 >>> ((4 : Int32).toInt64.toUInt64 &&& Int64.toUInt64 63)).toInt64)) &&& (1085102592571150095 : Int64)) + (((((x0 + (((x0 : Int64).toUInt64 >>> ((4 : Int32).toInt64.toUInt64 &&& Int64.toUInt64 63)).toInt64)) &&& (1085102592571150095 : Int64)) : Int64).toUInt64 >>> ((8 : Int32).toInt64.toUInt64 &&& Int64.toUInt64 63)).toInt64)))]) O dJ13_bitCount_95d88_40 rfl (by rw [hn]; decide) rfl ?_
  refine v_sub [0] rfl ?_
  exact w_J13_bitCount_95d88_b41 O hm hn hz (((x0 + (((x0 : Int64).toUInt64 >>> ((4 : Int32).toInt64.toUInt64 &&& Int64.toUInt64 63)).toInt64)) &&& (1085102592571150095 : Int64)) + (((((x0 + (((x0 : Int64).toUInt64 >>> ((4 : Int32).toInt64.toUInt64 &&& Int64.toUInt64 63)).toInt64)) &&& (1085102592571150095 : Int64)) : Int64).toUInt64 >>> ((8 : Int32).toInt64.toUInt64 &&& Int64.toUInt64 63)).toInt64)) D h
def f_J13_bitCount_95d88 (x0 : Int64) (D : Dat) : Option (Int32 × Dat) :=
  f_J13_bitCount_95d88_b24 (((x0 - ((((x0 : Int64).toUInt64 >>> ((1 : Int32).toInt64.toUInt64 &&& Int64.toUInt64 63)).toInt64) &&& (6148914691236517205 : Int64))) &&& (3689348814741910323 : Int64)) + (((((x0 - ((((x0 : Int64).toUInt64 >>> ((1 : Int32).toInt64.toUInt64 &&& Int64.toUInt64 63)).toInt64) &&& (6148914691236517205 : Int64))) : Int64).toUInt64 >>> ((2 : Int32).toInt64.toUInt64 &&& Int64.toUInt64 63)).toInt64) &&& (3689348814741910323 : Int64))) D
set_option maxHeartbeats 4000000 in
theorem w_J13_bitCount_95d88 {X : Cx} {n nu c u : Nat} {K : Nat → Nat} {z : Int32 × Dat} (O : Ok X cJ13_bitCount_95d88 RJ13 (some .int) 0 0) (hm : wlm (xw X) = true) (hn : xn X = 2) (hz : Z0 X (Ax nu K c u)) (x0 : Int64) (D : Dat) (h : f_J13_bitCount_95d88 x0 D = some z) : V X (Q0 X n (Ax nu K c u) (some (.int z.1)) z.2) n (Ax nu K c u) D 0 [(0, .long x0)] [] := by
  unfold f_J13_bitCount_95d88 at h
  refine v_lload_n (pc := 0) O dJ13_bitCount_95d88_0 0 rfl ?_
  refine v_lload_n (pc := 1) O dJ13_bitCount_95d88_1 0 rfl ?_
  refine v_iconst (pc := 2) O dJ13_bitCount_95d88_2 ic_1 ?_
  refine v_lushr (pc := 3) O dJ13_bitCount_95d88_3 ?_
  refine v_ldc2 (pc := 4) O dJ13_bitCount_95d88_4 cl_J13_314 ?_
  refine v_land (pc := 7) O dJ13_bitCount_95d88_7 ?_
  refine v_lsub (pc := 8) O dJ13_bitCount_95d88_8 ?_
  refine v_lstore_n (pc := 9) (lv' := [(0, .long (x0 - ((((x0 : Int64).toUInt64 >>> ((1 : Int32).toInt64.toUInt64 &&& Int64.toUInt64 63)).toInt64) &&& (6148914691236517205 : Int64))))]) O dJ13_bitCount_95d88_9 rfl (by rw [hn]; decide) rfl ?_
  refine v_lload_n (pc := 10) O dJ13_bitCount_95d88_10 0 rfl ?_
  refine v_ldc2 (pc := 11) O dJ13_bitCount_95d88_11 cl_J13_316 ?_
  refine v_land (pc := 14) O dJ13_bitCount_95d88_14 ?_
  refine v_lload_n (pc := 15) O dJ13_bitCount_95d88_15 0 rfl ?_
  refine v_iconst (pc := 16) O dJ13_bitCount_95d88_16 ic_2 ?_
  refine v_lushr (pc := 17) O dJ13_bitCount_95d88_17 ?_
  refine v_ldc2 (pc := 18) O dJ13_bitCount_95d88_18 cl_J13_316 ?_
  refine v_land (pc := 21) O dJ13_bitCount_95d88_21 ?_
  refine v_ladd (pc := 22) O dJ13_bitCount_95d88_22 ?_
  refine v_lstore_n (pc := 23) (lv' := [(0, .long (((x0 - ((((x0 : Int64).toUInt64 >>> ((1 : Int32).toInt64.toUInt64 &&& Int64.toUInt64 63)).toInt64) &&& (6148914691236517205 : Int64))) &&& (3689348814741910323 : Int64)) + (((((x0 - ((((x0 : Int64).toUInt64 >>> ((1 : Int32).toInt64.toUInt64 &&& Int64.toUInt64 63)).toInt64) &&& (6148914691236517205 : Int64))) : Int64).toUInt64 >>> ((2 : Int32).toInt64.toUInt64 &&& Int64.toUInt64 63)).toInt64) &&& (3689348814741910323 : Int64))))]) O dJ13_bitCount_95d88_23 rfl (by rw [hn]; decide) rfl ?_
  refine v_sub [0] rfl ?_
  exact w_J13_bitCount_95d88_b24 O hm hn hz (((x0 - ((((x0 : Int64).toUInt64 >>> ((1 : Int32).toInt64.toUInt64 &&& Int64.toUInt64 63)).toInt64) &&& (6148914691236517205 : Int64))) &&& (3689348814741910323 : Int64)) + (((((x0 - ((((x0 : Int64).toUInt64 >>> ((1 : Int32).toInt64.toUInt64 &&& Int64.toUInt64 63)).toInt64) &&& (6148914691236517205 : Int64))) : Int64).toUInt64 >>> ((2 : Int32).toInt64.toUInt64 &&& Int64.toUInt64 63)).toInt64) &&& (3689348814741910323 : Int64))) D h
theorem c_J13_bitCount_95d88 {l : Launch} {w : Wx} {n nu c u : Nat} {K : Nat → Nat} (hm : wlm w = true) {x0 : Int64} {D : Dat} {z : Int32 × Dat} (h : f_J13_bitCount_95d88 x0 D = some z) : C0 l w yJ13_bitCount_95d88 cJ13_bitCount_95d88 2 (some .int) 0 0 [.long x0] n (Ax nu K c u) D (some (.int z.1)) z.2 :=
  C0.of (by decide) (Nat.le_of_ble_eq_true rfl) (fun X e1 e2 e3 hz O => by
  subst e1
  subst e2
  exact w_J13_bitCount_95d88 O hm e3 hz x0 D h)
def f_X12_thrown (D : Dat) : Option (Int32 × Dat) :=
  some ((dI D 207 0), D)
set_option maxHeartbeats 4000000 in
theorem w_X12_thrown {X : Cx} {n nu c u : Nat} {K : Nat → Nat} {z : Int32 × Dat} (O : Ok X cX12_thrown RX12 (some .int) 0 0) (hm : wlm (xw X) = true) (hn : xn X = 1) (hz : Z0 X (Ax nu K c u)) (D : Dat) (h : f_X12_thrown D = some z) : V X (Q0 X n (Ax nu K c u) (some (.int z.1)) z.2) n (Ax nu K c u) D 0 [(0, .ref (bo X + pp 207))] [] := by
  unfold f_X12_thrown at h
  refine v_aload_n (pc := 0) O dX12_thrown_0 0 rfl ?_
  refine v_getI (pc := 1) (a := 207) O gf_X12_0 fl_X12_183 kq_207 dX12_thrown_1 ?_
  obtain rfl := Option.some.inj h
  exact v_iret (pc := 4) O hz dX12_thrown_4
theorem c_X12_thrown {l : Launch} {w : Wx} {n nu c u : Nat} {K : Nat → Nat} (hm : wlm w = true) {D : Dat} {z : Int32 × Dat} (h : f_X12_thrown D = some z) : C0 l w yX12_thrown cX12_thrown 1 (some .int) 0 0 [.ref (wb w + pp 207)] n (Ax nu K c u) D (some (.int z.1)) z.2 :=
  C0.of (by decide) (Nat.le_of_ble_eq_true rfl) (fun X e1 e2 e3 hz O => by
  subst e1
  subst e2
  exact w_X12_thrown O hm e3 hz  D h)
def f_X12_fail (x1 : Int32) (D : Dat) : Option (Int32 × Dat) :=
  some (0, (sI D 207 0 x1))
set_option maxHeartbeats 4000000 in
theorem w_X12_fail {X : Cx} {n nu c u : Nat} {K : Nat → Nat} {z : Int32 × Dat} (O : Ok X cX12_fail RX12 (some .int) 0 0) (hm : wlm (xw X) = true) (hn : xn X = 2) (hz : Z0 X (Ax nu K c u)) (x1 : Int32) (D : Dat) (h : f_X12_fail x1 D = some z) : V X (Q0 X n (Ax nu K c u) (some (.int z.1)) z.2) n (Ax nu K c u) D 0 [(0, .ref (bo X + pp 207)), (1, .int x1)] [] := by
  unfold f_X12_fail at h
  refine v_aload_n (pc := 0) O dX12_fail_0 0 rfl ?_
  refine v_iload_n (pc := 1) O dX12_fail_1 1 rfl ?_
  refine v_putI (pc := 2) (a := 207) O pf_X12_0 fl_X12_183 kq_207 dX12_fail_2 ?_
  refine v_iconst (pc := 5) O dX12_fail_5 ic_0 ?_
  obtain rfl := Option.some.inj h
  exact v_iret (pc := 6) O hz dX12_fail_6
theorem c_X12_fail {l : Launch} {w : Wx} {n nu c u : Nat} {K : Nat → Nat} (hm : wlm w = true) {x1 : Int32} {D : Dat} {z : Int32 × Dat} (h : f_X12_fail x1 D = some z) : C0 l w yX12_fail cX12_fail 2 (some .int) 0 0 [.ref (wb w + pp 207), .int x1] n (Ax nu K c u) D (some (.int z.1)) z.2 :=
  C0.of (by decide) (Nat.le_of_ble_eq_true rfl) (fun X e1 e2 e3 hz O => by
  subst e1
  subst e2
  exact w_X12_fail O hm e3 hz x1 D h)
def f_X12_out_b14 (s0 : Int32) (D : Dat) : Option (Int32 × Dat) :=
  if s0 &&& 1 = s0 then some (s0, D) else none
set_option maxHeartbeats 4000000 in
theorem w_X12_out_b14 {X : Cx} {n nu c u : Nat} {K : Nat → Nat} {z : Int32 × Dat} (O : Ok X cX12_out RX12 (some .boolean) 0 0) (hm : wlm (xw X) = true) (hn : xn X = 3) (hz : Z0 X (Ax nu K c u)) (s0 : Int32) (D : Dat) (h : f_X12_out_b14 s0 D = some z) : V X (Q0 X n (Ax nu K c u) (some (.int z.1)) z.2) n (Ax nu K c u) D 14 [] [.int s0] := by
  unfold f_X12_out_b14 at h
  obtain ⟨c1, h⟩ := if_none h
  obtain rfl := Option.some.inj h
  exact v_zret (pc := 14) O hz (congrArg Value.int c1) dX12_out_14
def f_X12_out_b9 (D : Dat) : Option (Int32 × Dat) :=
  f_X12_out_b14 1 D
set_option maxHeartbeats 4000000 in
theorem w_X12_out_b9 {X : Cx} {n nu c u : Nat} {K : Nat → Nat} {z : Int32 × Dat} (O : Ok X cX12_out RX12 (some .boolean) 0 0) (hm : wlm (xw X) = true) (hn : xn X = 3) (hz : Z0 X (Ax nu K c u)) (D : Dat) (h : f_X12_out_b9 D = some z) : V X (Q0 X n (Ax nu K c u) (some (.int z.1)) z.2) n (Ax nu K c u) D 9 [] [] := by
  unfold f_X12_out_b9 at h
  refine v_iconst (pc := 9) O dX12_out_9 ic_1 ?_
  refine v_goto (pc := 10) 14 O dX12_out_10 (by decide) ?_
  refine v_sub [] rfl ?_
  exact w_X12_out_b14 O hm hn hz 1 D h
def f_X12_out (x1 : Int32) (x2 : Int32) (D : Dat) : Option (Int32 × Dat) :=
  if x1 < 0 then (f_X12_out_b9 D) else (if x1 < x2 then (f_X12_out_b14 0 D) else (f_X12_out_b9 D))
set_option maxHeartbeats 4000000 in
theorem w_X12_out {X : Cx} {n nu c u : Nat} {K : Nat → Nat} {z : Int32 × Dat} (O : Ok X cX12_out RX12 (some .boolean) 0 0) (hm : wlm (xw X) = true) (hn : xn X = 3) (hz : Z0 X (Ax nu K c u)) (x1 : Int32) (x2 : Int32) (D : Dat) (h : f_X12_out x1 x2 D = some z) : V X (Q0 X n (Ax nu K c u) (some (.int z.1)) z.2) n (Ax nu K c u) D 0 [(0, .ref (bo X + pp 207)), (1, .int x1), (2, .int x2)] [] := by
  unfold f_X12_out at h
  refine v_iload_n (pc := 0) O dX12_out_0 1 rfl ?_
  refine v_iflt (pc := 1) 9 O dX12_out_1 (by decide) (fun c2 => ?_) (fun c2 => ?_)
  · have h := (if_pos c2).symm.trans h
    refine v_sub [] rfl ?_
    exact w_X12_out_b9 O hm hn hz D h
  · have h := (if_neg c2).symm.trans h
    refine v_iload_n (pc := 4) O dX12_out_4 1 rfl ?_
    refine v_iload_n (pc := 5) O dX12_out_5 2 rfl ?_
    refine v_icmplt (pc := 6) 13 O dX12_out_6 (by decide) (fun c3 => ?_) (fun c3 => ?_)
    · have h := (if_pos c3).symm.trans h
      refine v_iconst (pc := 13) O dX12_out_13 ic_0 ?_
      refine v_sub [] rfl ?_
      exact w_X12_out_b14 O hm hn hz 0 D h
    · have h := (if_neg c3).symm.trans h
      refine v_sub [] rfl ?_
      exact w_X12_out_b9 O hm hn hz D h
theorem c_X12_out {l : Launch} {w : Wx} {n nu c u : Nat} {K : Nat → Nat} (hm : wlm w = true) {x1 : Int32} {x2 : Int32} {D : Dat} {z : Int32 × Dat} (h : f_X12_out x1 x2 D = some z) : C0 l w yX12_out cX12_out 3 (some .boolean) 0 0 [.ref (wb w + pp 207), .int x1, .int x2] n (Ax nu K c u) D (some (.int z.1)) z.2 :=
  C0.of (by decide) (Nat.le_of_ble_eq_true rfl) (fun X e1 e2 e3 hz O => by
  subst e1
  subst e2
  exact w_X12_out O hm e3 hz x1 x2 D h)
def f_X12_below_b29 (N : Nat) (D : Dat) : Option (Int32 × Dat) :=
  (f_X12_fail 1 D).bind (fun p1 => some (p1.1, p1.2))
set_option maxHeartbeats 4000000 in
theorem w_X12_below_b29 {X : Cx} {n nu c u : Nat} {K : Nat → Nat} {N : Nat} {z : Int32 × Dat} (O : Ok X cX12_below RX12 (some .int) 1 22) (hm : wlm (xw X) = true) (hn : xn X = 6) (hz : Z0 X (Ax nu K c u)) (D : Dat) (h : f_X12_below_b29 N D = some z) : V X (Q0 X n (Ax nu K c u) (some (.int z.1)) z.2) n (Ax nu K c u) D 29 [(0, .ref (bo X + pp 207))] [] := by
  unfold f_X12_below_b29 at h
  refine v_aload_n (pc := 29) O dX12_below_29 0 rfl ?_
  refine v_iconst (pc := 30) O dX12_below_30 ic_1 ?_
  obtain ⟨p1, e2, h⟩ := bind_some h
  refine v_callV (pc := 31) (a := 207) (As := [.int 1]) (rest := []) (r := (some (.int p1.1))) (D' := p1.2) O (bb0 hz) (c_X12_fail hm e2) mw_X12_fail im_X12_fail se_X12_fail ml_X12_190 kq_207 (by decide) rfl rfl rfl (by decide) (by decide) (Nat.le_of_ble_eq_true rfl) dX12_below_31 rfl rfl ?_
  obtain rfl := Option.some.inj h
  exact v_iret (pc := 34) O hz dX12_below_34
def f_X12_below_b172 (N : Nat) (rec_129 : Int32 → Int32 → Dat → Option (Int32 × Dat)) (rec_141 : Int32 → Int32 → Int32 → Dat → Option (Int32 × Dat)) (x4 : Int32) (x5 : Int32) (s0 : Int32) (s1 : Int32) (D : Dat) : Option (Int32 × Dat) :=
  rec_141 (s1 + s0) x4 (x5 + 1) D
set_option maxHeartbeats 4000000 in
theorem w_X12_below_b172 {X : Cx} {n nu c u : Nat} {K : Nat → Nat} {N : Nat} {rec_129 : Int32 → Int32 → Dat → Option (Int32 × Dat)} {rec_141 : Int32 → Int32 → Int32 → Dat → Option (Int32 × Dat)} {z : Int32 × Dat} (O : Ok X cX12_below RX12 (some .int) 1 22) (hm : wlm (xw X) = true) (hn : xn X = 6) (hz : Z0 X (Ax nu K c u)) (hrec_129 : ∀ (x3 : Int32) (x4 : Int32) (D : Dat), rec_129 x3 x4 D = some z → V X (Q0 X n (Ax nu K c u) (some (.int z.1)) z.2) n (Ax nu K c u) D 129 [(0, .ref (bo X + pp 207)), (3, .int x3), (4, .int x4)] []) (hrec_141 : ∀ (x3 : Int32) (x4 : Int32) (x5 : Int32) (D : Dat), rec_141 x3 x4 x5 D = some z → V X (Q0 X n (Ax nu K c u) (some (.int z.1)) z.2) n (Ax nu K c u) D 141 [(0, .ref (bo X + pp 207)), (3, .int x3), (4, .int x4), (5, .int x5)] []) (x4 : Int32) (x5 : Int32) (s0 : Int32) (s1 : Int32) (D : Dat) (h : f_X12_below_b172 N rec_129 rec_141 x4 x5 s0 s1 D = some z) : V X (Q0 X n (Ax nu K c u) (some (.int z.1)) z.2) n (Ax nu K c u) D 172 [(0, .ref (bo X + pp 207)), (4, .int x4), (5, .int x5)] [.int s0, .int s1] := by
  unfold f_X12_below_b172 at h
  refine v_iadd (pc := 172) O dX12_below_172 ?_
  refine v_istore_n (pc := 173) (lv' := [(3, .int (s1 + s0)), (0, .ref (bo X + pp 207)), (4, .int x4), (5, .int x5)]) O dX12_below_173 rfl (by rw [hn]; decide) rfl ?_
  refine v_iinc (pc := 174) (lv' := [(5, .int (x5 + 1)), (3, .int (s1 + s0)), (0, .ref (bo X + pp 207)), (4, .int x4)]) O dX12_below_174 3 rfl (congrArg (fun q => x5 + q) ic_1) (by rw [hn]; decide) rfl ?_
  refine v_goto (pc := 177) 141 O dX12_below_177 (by decide) ?_
  refine v_sub [2, 1, 3, 0] rfl ?_
  exact hrec_141 (s1 + s0) x4 (x5 + 1) D h
def f_X12_below_b141 (N : Nat) (rec_129 : Int32 → Int32 → Dat → Option (Int32 × Dat)) : Nat → Int32 → Int32 → Int32 → Dat → Option (Int32 × Dat)
  | 0, _, _, _, _ => none
  | g + 1, x3, x4, x5, D => if (dI D 207 1) ≤ x5 then (rec_129 x3 (x4 + 1) D) else (if (((6 : Int32) * x4) + x5) < 0 ∨ 36 ≤ ((((6 : Int32) * x4) + x5)).toNatClampNeg then none else (if (dI D 208 (((6 : Int32) * x4) + x5).toNatClampNeg) = 0 then (f_X12_below_b172 N rec_129 (f_X12_below_b141 N rec_129 g) x4 x5 0 x3 D) else (f_X12_below_b172 N rec_129 (f_X12_below_b141 N rec_129 g) x4 x5 1 x3 D)))
set_option maxHeartbeats 4000000 in
theorem w_X12_below_b141 {X : Cx} {n nu c u : Nat} {K : Nat → Nat} {N : Nat} {rec_129 : Int32 → Int32 → Dat → Option (Int32 × Dat)} {z : Int32 × Dat} (O : Ok X cX12_below RX12 (some .int) 1 22) (hm : wlm (xw X) = true) (hn : xn X = 6) (hz : Z0 X (Ax nu K c u)) (hrec_129 : ∀ (x3 : Int32) (x4 : Int32) (D : Dat), rec_129 x3 x4 D = some z → V X (Q0 X n (Ax nu K c u) (some (.int z.1)) z.2) n (Ax nu K c u) D 129 [(0, .ref (bo X + pp 207)), (3, .int x3), (4, .int x4)] []) : ∀ (g : Nat) (x3 : Int32) (x4 : Int32) (x5 : Int32) (D : Dat), f_X12_below_b141 N rec_129 g x3 x4 x5 D = some z → V X (Q0 X n (Ax nu K c u) (some (.int z.1)) z.2) n (Ax nu K c u) D 141 [(0, .ref (bo X + pp 207)), (3, .int x3), (4, .int x4), (5, .int x5)] [] := by
  intro g
  induction g with
  | zero => intro x3 x4 x5 D h; exact absurd h (by simp [f_X12_below_b141])
  | succ g ih =>
    intro x3 x4 x5 D h
    rw [f_X12_below_b141] at h
    refine v_iload (pc := 141) O dX12_below_141 3 rfl ?_
    refine v_aload_n (pc := 143) O dX12_below_143 0 rfl ?_
    refine v_getI (pc := 144) (a := 207) O gf_X12_1 fl_X12_180 kq_207 dX12_below_144 ?_
    refine v_icmpge (pc := 147) 180 O dX12_below_147 (by decide) (fun c3 => ?_) (fun c3 => ?_)
    · have h := (if_pos c3).symm.trans h
      refine v_iinc (pc := 180) (lv' := [(4, .int (x4 + 1)), (0, .ref (bo X + pp 207)), (3, .int x3), (5, .int x5)]) O dX12_below_180 2 rfl (congrArg (fun q => x4 + q) ic_1) (by rw [hn]; decide) rfl ?_
      refine v_goto (pc := 183) 129 O dX12_below_183 (by decide) ?_
      refine v_sub [1, 2, 0] rfl ?_
      exact hrec_129 x3 (x4 + 1) D h
    · have h := (if_neg c3).symm.trans h
      refine v_iload_n (pc := 150) O dX12_below_150 1 rfl ?_
      refine v_aload_n (pc := 151) O dX12_below_151 0 rfl ?_
      refine v_getK (pc := 152) (a := 207) O hm gf_X12_2 fl_X12_7 kq_207 lk_207_2 dX12_below_152 ?_
      refine v_bipush (pc := 155) O dX12_below_155 bp_6 ?_
      refine v_iload (pc := 157) O dX12_below_157 2 rfl ?_
      refine v_imul (pc := 159) O dX12_below_159 ?_
      refine v_iload (pc := 160) O dX12_below_160 3 rfl ?_
      refine v_iadd (pc := 162) O dX12_below_162 ?_
      obtain ⟨c4, h⟩ := or_none h
      refine v_zald (pc := 163) (a := 208) O kq_208 (inq lq_208 c4) dX12_below_163 ?_
      refine v_ifeq (pc := 164) 171 O dX12_below_164 (by decide) (fun c5 => ?_) (fun c5 => ?_)
      · have h := (if_pos c5).symm.trans h
        refine v_iconst (pc := 171) O dX12_below_171 ic_0 ?_
        refine v_sub [0, 2, 3] rfl ?_
        exact w_X12_below_b172 O hm hn hz hrec_129 ih x4 x5 0 x3 D h
      · have h := (if_neg c5).symm.trans h
        refine v_iconst (pc := 167) O dX12_below_167 ic_1 ?_
        refine v_goto (pc := 168) 172 O dX12_below_168 (by decide) ?_
        refine v_sub [0, 2, 3] rfl ?_
        exact w_X12_below_b172 O hm hn hz hrec_129 ih x4 x5 1 x3 D h
def f_X12_below_b129 (N : Nat) : Nat → Int32 → Int32 → Dat → Option (Int32 × Dat)
  | 0, _, _, _ => none
  | g + 1, x3, x4, D => if (dI D 207 1) ≤ x4 then (some (x3, D)) else (f_X12_below_b141 N (f_X12_below_b129 N g) N x3 x4 0 D)
set_option maxHeartbeats 4000000 in
theorem w_X12_below_b129 {X : Cx} {n nu c u : Nat} {K : Nat → Nat} {N : Nat} {z : Int32 × Dat} (O : Ok X cX12_below RX12 (some .int) 1 22) (hm : wlm (xw X) = true) (hn : xn X = 6) (hz : Z0 X (Ax nu K c u)) : ∀ (g : Nat) (x3 : Int32) (x4 : Int32) (D : Dat), f_X12_below_b129 N g x3 x4 D = some z → V X (Q0 X n (Ax nu K c u) (some (.int z.1)) z.2) n (Ax nu K c u) D 129 [(0, .ref (bo X + pp 207)), (3, .int x3), (4, .int x4)] [] := by
  intro g
  induction g with
  | zero => intro x3 x4 D h; exact absurd h (by simp [f_X12_below_b129])
  | succ g ih =>
    intro x3 x4 D h
    rw [f_X12_below_b129] at h
    refine v_iload (pc := 129) O dX12_below_129 2 rfl ?_
    refine v_aload_n (pc := 131) O dX12_below_131 0 rfl ?_
    refine v_getI (pc := 132) (a := 207) O gf_X12_1 fl_X12_180 kq_207 dX12_below_132 ?_
    refine v_icmpge (pc := 135) 186 O dX12_below_135 (by decide) (fun c6 => ?_) (fun c6 => ?_)
    · have h := (if_pos c6).symm.trans h
      refine v_iload_n (pc := 186) O dX12_below_186 1 rfl ?_
      obtain rfl := Option.some.inj h
      exact v_iret (pc := 187) O hz dX12_below_187
    · have h := (if_neg c6).symm.trans h
      refine v_iconst (pc := 138) O dX12_below_138 ic_0 ?_
      refine v_istore (pc := 139) (lv' := [(5, .int 0), (0, .ref (bo X + pp 207)), (3, .int x3), (4, .int x4)]) O dX12_below_139 (by rw [hn]; decide) rfl ?_
      refine v_sub [1, 2, 3, 0] rfl ?_
      exact w_X12_below_b141 O hm hn hz ih N x3 x4 0 D h
def f_X12_below_b112 (N : Nat) (rec_50 : Int32 → Int32 → Int32 → Dat → Option (Int32 × Dat)) (rec_61 : Int32 → Int32 → Int32 → Int32 → Dat → Option (Int32 × Dat)) (x1 : Int32) (x2 : Int32) (x3 : Int32) (x4 : Int32) (D : Dat) : Option (Int32 × Dat) :=
  rec_61 x1 x2 x3 (x4 + 1) D
set_option maxHeartbeats 4000000 in
theorem w_X12_below_b112 {X : Cx} {n nu c u : Nat} {K : Nat → Nat} {N : Nat} {rec_50 : Int32 → Int32 → Int32 → Dat → Option (Int32 × Dat)} {rec_61 : Int32 → Int32 → Int32 → Int32 → Dat → Option (Int32 × Dat)} {z : Int32 × Dat} (O : Ok X cX12_below RX12 (some .int) 1 22) (hm : wlm (xw X) = true) (hn : xn X = 6) (hz : Z0 X (Ax nu K c u)) (hrec_50 : ∀ (x1 : Int32) (x2 : Int32) (x3 : Int32) (D : Dat), rec_50 x1 x2 x3 D = some z → V X (Q0 X n (Ax nu K c u) (some (.int z.1)) z.2) n (Ax nu K c u) D 50 [(0, .ref (bo X + pp 207)), (1, .int x1), (2, .int x2), (3, .int x3)] []) (hrec_61 : ∀ (x1 : Int32) (x2 : Int32) (x3 : Int32) (x4 : Int32) (D : Dat), rec_61 x1 x2 x3 x4 D = some z → V X (Q0 X n (Ax nu K c u) (some (.int z.1)) z.2) n (Ax nu K c u) D 61 [(0, .ref (bo X + pp 207)), (1, .int x1), (2, .int x2), (3, .int x3), (4, .int x4)] []) (x1 : Int32) (x2 : Int32) (x3 : Int32) (x4 : Int32) (D : Dat) (h : f_X12_below_b112 N rec_50 rec_61 x1 x2 x3 x4 D = some z) : V X (Q0 X n (Ax nu K c u) (some (.int z.1)) z.2) n (Ax nu K c u) D 112 [(0, .ref (bo X + pp 207)), (1, .int x1), (2, .int x2), (3, .int x3), (4, .int x4)] [] := by
  unfold f_X12_below_b112 at h
  refine v_iinc (pc := 112) (lv' := [(4, .int (x4 + 1)), (0, .ref (bo X + pp 207)), (1, .int x1), (2, .int x2), (3, .int x3)]) O dX12_below_112 4 rfl (congrArg (fun q => x4 + q) ic_1) (by rw [hn]; decide) rfl ?_
  refine v_goto (pc := 115) 61 O dX12_below_115 (by decide) ?_
  refine v_sub [1, 2, 3, 4, 0] rfl ?_
  exact hrec_61 x1 x2 x3 (x4 + 1) D h
def f_X12_below_b61 (N : Nat) (rec_50 : Int32 → Int32 → Int32 → Dat → Option (Int32 × Dat)) : Nat → Int32 → Int32 → Int32 → Int32 → Dat → Option (Int32 × Dat)
  | 0, _, _, _, _, _ => none
  | g + 1, x1, x2, x3, x4, D => if (dI D 207 1) ≤ x4 then (rec_50 x1 x2 (x3 + 1) D) else (if (((6 : Int32) * x3) + x1) < 0 ∨ 36 ≤ ((((6 : Int32) * x3) + x1)).toNatClampNeg then none else (if (dI D 208 (((6 : Int32) * x3) + x1).toNatClampNeg) = 0 then (f_X12_below_b112 N rec_50 (f_X12_below_b61 N rec_50 g) x1 x2 x3 x4 D) else (if (((6 : Int32) * x2) + x4) < 0 ∨ 36 ≤ ((((6 : Int32) * x2) + x4)).toNatClampNeg then none else (if (dI D 208 (((6 : Int32) * x2) + x4).toNatClampNeg) = 0 then (f_X12_below_b112 N rec_50 (f_X12_below_b61 N rec_50 g) x1 x2 x3 x4 D) else (if (((6 : Int32) * x3) + x4) < 0 ∨ 36 ≤ ((((6 : Int32) * x3) + x4)).toNatClampNeg then none else (f_X12_below_b112 N rec_50 (f_X12_below_b61 N rec_50 g) x1 x2 x3 x4 (sI D 208 (((6 : Int32) * x3) + x4).toNatClampNeg ((1 : Int32) &&& 1))))))))
set_option maxHeartbeats 4000000 in
theorem w_X12_below_b61 {X : Cx} {n nu c u : Nat} {K : Nat → Nat} {N : Nat} {rec_50 : Int32 → Int32 → Int32 → Dat → Option (Int32 × Dat)} {z : Int32 × Dat} (O : Ok X cX12_below RX12 (some .int) 1 22) (hm : wlm (xw X) = true) (hn : xn X = 6) (hz : Z0 X (Ax nu K c u)) (hrec_50 : ∀ (x1 : Int32) (x2 : Int32) (x3 : Int32) (D : Dat), rec_50 x1 x2 x3 D = some z → V X (Q0 X n (Ax nu K c u) (some (.int z.1)) z.2) n (Ax nu K c u) D 50 [(0, .ref (bo X + pp 207)), (1, .int x1), (2, .int x2), (3, .int x3)] []) : ∀ (g : Nat) (x1 : Int32) (x2 : Int32) (x3 : Int32) (x4 : Int32) (D : Dat), f_X12_below_b61 N rec_50 g x1 x2 x3 x4 D = some z → V X (Q0 X n (Ax nu K c u) (some (.int z.1)) z.2) n (Ax nu K c u) D 61 [(0, .ref (bo X + pp 207)), (1, .int x1), (2, .int x2), (3, .int x3), (4, .int x4)] [] := by
  intro g
  induction g with
  | zero => intro x1 x2 x3 x4 D h; exact absurd h (by simp [f_X12_below_b61])
  | succ g ih =>
    intro x1 x2 x3 x4 D h
    rw [f_X12_below_b61] at h
    refine v_iload (pc := 61) O dX12_below_61 4 rfl ?_
    refine v_aload_n (pc := 63) O dX12_below_63 0 rfl ?_
    refine v_getI (pc := 64) (a := 207) O gf_X12_1 fl_X12_180 kq_207 dX12_below_64 ?_
    refine v_icmpge (pc := 67) 118 O dX12_below_67 (by decide) (fun c7 => ?_) (fun c7 => ?_)
    · have h := (if_pos c7).symm.trans h
      refine v_iinc (pc := 118) (lv' := [(3, .int (x3 + 1)), (0, .ref (bo X + pp 207)), (1, .int x1), (2, .int x2), (4, .int x4)]) O dX12_below_118 3 rfl (congrArg (fun q => x3 + q) ic_1) (by rw [hn]; decide) rfl ?_
      refine v_goto (pc := 121) 50 O dX12_below_121 (by decide) ?_
      refine v_sub [1, 2, 3, 0] rfl ?_
      exact hrec_50 x1 x2 (x3 + 1) D h
    · have h := (if_neg c7).symm.trans h
      refine v_aload_n (pc := 70) O dX12_below_70 0 rfl ?_
      refine v_getK (pc := 71) (a := 207) O hm gf_X12_2 fl_X12_7 kq_207 lk_207_2 dX12_below_71 ?_
      refine v_bipush (pc := 74) O dX12_below_74 bp_6 ?_
      refine v_iload_n (pc := 76) O dX12_below_76 3 rfl ?_
      refine v_imul (pc := 77) O dX12_below_77 ?_
      refine v_iload_n (pc := 78) O dX12_below_78 1 rfl ?_
      refine v_iadd (pc := 79) O dX12_below_79 ?_
      obtain ⟨c8, h⟩ := or_none h
      refine v_zald (pc := 80) (a := 208) O kq_208 (inq lq_208 c8) dX12_below_80 ?_
      refine v_ifeq (pc := 81) 112 O dX12_below_81 (by decide) (fun c9 => ?_) (fun c9 => ?_)
      · have h := (if_pos c9).symm.trans h
        refine v_sub [0, 1, 2, 3, 4] rfl ?_
        exact w_X12_below_b112 O hm hn hz hrec_50 ih x1 x2 x3 x4 D h
      · have h := (if_neg c9).symm.trans h
        refine v_aload_n (pc := 84) O dX12_below_84 0 rfl ?_
        refine v_getK (pc := 85) (a := 207) O hm gf_X12_2 fl_X12_7 kq_207 lk_207_2 dX12_below_85 ?_
        refine v_bipush (pc := 88) O dX12_below_88 bp_6 ?_
        refine v_iload_n (pc := 90) O dX12_below_90 2 rfl ?_
        refine v_imul (pc := 91) O dX12_below_91 ?_
        refine v_iload (pc := 92) O dX12_below_92 4 rfl ?_
        refine v_iadd (pc := 94) O dX12_below_94 ?_
        obtain ⟨c10, h⟩ := or_none h
        refine v_zald (pc := 95) (a := 208) O kq_208 (inq lq_208 c10) dX12_below_95 ?_
        refine v_ifeq (pc := 96) 112 O dX12_below_96 (by decide) (fun c11 => ?_) (fun c11 => ?_)
        · have h := (if_pos c11).symm.trans h
          refine v_sub [0, 1, 2, 3, 4] rfl ?_
          exact w_X12_below_b112 O hm hn hz hrec_50 ih x1 x2 x3 x4 D h
        · have h := (if_neg c11).symm.trans h
          refine v_aload_n (pc := 99) O dX12_below_99 0 rfl ?_
          refine v_getK (pc := 100) (a := 207) O hm gf_X12_2 fl_X12_7 kq_207 lk_207_2 dX12_below_100 ?_
          refine v_bipush (pc := 103) O dX12_below_103 bp_6 ?_
          refine v_iload_n (pc := 105) O dX12_below_105 3 rfl ?_
          refine v_imul (pc := 106) O dX12_below_106 ?_
          refine v_iload (pc := 107) O dX12_below_107 4 rfl ?_
          refine v_iadd (pc := 109) O dX12_below_109 ?_
          refine v_iconst (pc := 110) O dX12_below_110 ic_1 ?_
          obtain ⟨c12, h⟩ := or_none h
          refine v_zast (pc := 111) (a := 208) O kq_208 (inq lq_208 c12) dX12_below_111 ?_
          refine v_sub [0, 1, 2, 3, 4] rfl ?_
          exact w_X12_below_b112 O hm hn hz hrec_50 ih x1 x2 x3 x4 (sI D 208 (((6 : Int32) * x3) + x4).toNatClampNeg ((1 : Int32) &&& 1)) h
def f_X12_below_b50 (N : Nat) : Nat → Int32 → Int32 → Int32 → Dat → Option (Int32 × Dat)
  | 0, _, _, _, _ => none
  | g + 1, x1, x2, x3, D => if (dI D 207 1) ≤ x3 then (f_X12_below_b129 N N 0 0 D) else (f_X12_below_b61 N (f_X12_below_b50 N g) N x1 x2 x3 0 D)
set_option maxHeartbeats 4000000 in
theorem w_X12_below_b50 {X : Cx} {n nu c u : Nat} {K : Nat → Nat} {N : Nat} {z : Int32 × Dat} (O : Ok X cX12_below RX12 (some .int) 1 22) (hm : wlm (xw X) = true) (hn : xn X = 6) (hz : Z0 X (Ax nu K c u)) : ∀ (g : Nat) (x1 : Int32) (x2 : Int32) (x3 : Int32) (D : Dat), f_X12_below_b50 N g x1 x2 x3 D = some z → V X (Q0 X n (Ax nu K c u) (some (.int z.1)) z.2) n (Ax nu K c u) D 50 [(0, .ref (bo X + pp 207)), (1, .int x1), (2, .int x2), (3, .int x3)] [] := by
  intro g
  induction g with
  | zero => intro x1 x2 x3 D h; exact absurd h (by simp [f_X12_below_b50])
  | succ g ih =>
    intro x1 x2 x3 D h
    rw [f_X12_below_b50] at h
    refine v_iload_n (pc := 50) O dX12_below_50 3 rfl ?_
    refine v_aload_n (pc := 51) O dX12_below_51 0 rfl ?_
    refine v_getI (pc := 52) (a := 207) O gf_X12_1 fl_X12_180 kq_207 dX12_below_52 ?_
    refine v_icmpge (pc := 55) 124 O dX12_below_55 (by decide) (fun c13 => ?_) (fun c13 => ?_)
    · have h := (if_pos c13).symm.trans h
      refine v_iconst (pc := 124) O dX12_below_124 ic_0 ?_
      refine v_istore_n (pc := 125) (lv' := [(3, .int 0), (0, .ref (bo X + pp 207)), (1, .int x1), (2, .int x2)]) O dX12_below_125 rfl (by rw [hn]; decide) rfl ?_
      refine v_iconst (pc := 126) O dX12_below_126 ic_0 ?_
      refine v_istore (pc := 127) (lv' := [(4, .int 0), (3, .int 0), (0, .ref (bo X + pp 207)), (1, .int x1), (2, .int x2)]) O dX12_below_127 (by rw [hn]; decide) rfl ?_
      refine v_sub [2, 1, 0] rfl ?_
      exact w_X12_below_b129 O hm hn hz N 0 0 D h
    · have h := (if_neg c13).symm.trans h
      refine v_iconst (pc := 58) O dX12_below_58 ic_0 ?_
      refine v_istore (pc := 59) (lv' := [(4, .int 0), (0, .ref (bo X + pp 207)), (1, .int x1), (2, .int x2), (3, .int x3)]) O dX12_below_59 (by rw [hn]; decide) rfl ?_
      refine v_sub [1, 2, 3, 4, 0] rfl ?_
      exact w_X12_below_b61 O hm hn hz ih N x1 x2 x3 0 D h
def f_X12_below (N : Nat) (x1 : Int32) (x2 : Int32) (D : Dat) : Option (Int32 × Dat) :=
  (f_X12_out x1 (dI (sI D 207 0 0) 207 1) (sI D 207 0 0)).bind (fun p14 => if p14.1 = 0 then ((f_X12_out x2 (dI p14.2 207 1) p14.2).bind (fun p17 => if p17.1 = 0 then (if (dI p17.2 207 5) = 0 then (f_X12_below_b50 N N x1 x2 0 p17.2) else ((f_X12_fail 2 p17.2).bind (fun p21 => some (p21.1, p21.2)))) else (f_X12_below_b29 N p17.2))) else (f_X12_below_b29 N p14.2))
set_option maxHeartbeats 4000000 in
theorem w_X12_below {X : Cx} {n nu c u : Nat} {K : Nat → Nat} {N : Nat} {z : Int32 × Dat} (O : Ok X cX12_below RX12 (some .int) 1 22) (hm : wlm (xw X) = true) (hn : xn X = 6) (hz : Z0 X (Ax nu K c u)) (x1 : Int32) (x2 : Int32) (D : Dat) (h : f_X12_below N x1 x2 D = some z) : V X (Q0 X n (Ax nu K c u) (some (.int z.1)) z.2) n (Ax nu K c u) D 0 [(0, .ref (bo X + pp 207)), (1, .int x1), (2, .int x2)] [] := by
  unfold f_X12_below at h
  refine v_aload_n (pc := 0) O dX12_below_0 0 rfl ?_
  refine v_iconst (pc := 1) O dX12_below_1 ic_0 ?_
  refine v_putI (pc := 2) (a := 207) O pf_X12_0 fl_X12_183 kq_207 dX12_below_2 ?_
  refine v_aload_n (pc := 5) O dX12_below_5 0 rfl ?_
  refine v_iload_n (pc := 6) O dX12_below_6 1 rfl ?_
  refine v_aload_n (pc := 7) O dX12_below_7 0 rfl ?_
  refine v_getI (pc := 8) (a := 207) O gf_X12_1 fl_X12_180 kq_207 dX12_below_8 ?_
  obtain ⟨p14, e15, h⟩ := bind_some h
  refine v_callV (pc := 11) (a := 207) (As := [.int x1, .int (dI (sI D 207 0 0) 207 1)]) (rest := []) (r := (some (.int p14.1))) (D' := p14.2) O (bb0 hz) (c_X12_out hm e15) mw_X12_out im_X12_out se_X12_out ml_X12_186 kq_207 (by decide) rfl rfl rfl (by decide) (by decide) (Nat.le_of_ble_eq_true rfl) dX12_below_11 rfl rfl ?_
  refine v_ifne (pc := 14) 29 O dX12_below_14 (by decide) (fun c16 => ?_) (fun c16 => ?_)
  · have h := (if_neg c16).symm.trans h
    refine v_sub [0] rfl ?_
    exact w_X12_below_b29 O hm hn hz p14.2 h
  · have h := (if_pos c16).symm.trans h
    refine v_aload_n (pc := 17) O dX12_below_17 0 rfl ?_
    refine v_iload_n (pc := 18) O dX12_below_18 2 rfl ?_
    refine v_aload_n (pc := 19) O dX12_below_19 0 rfl ?_
    refine v_getI (pc := 20) (a := 207) O gf_X12_1 fl_X12_180 kq_207 dX12_below_20 ?_
    obtain ⟨p17, e18, h⟩ := bind_some h
    refine v_callV (pc := 23) (a := 207) (As := [.int x2, .int (dI p14.2 207 1)]) (rest := []) (r := (some (.int p17.1))) (D' := p17.2) O (bb0 hz) (c_X12_out hm e18) mw_X12_out im_X12_out se_X12_out ml_X12_186 kq_207 (by decide) rfl rfl rfl (by decide) (by decide) (Nat.le_of_ble_eq_true rfl) dX12_below_23 rfl rfl ?_
    refine v_ifeq (pc := 26) 35 O dX12_below_26 (by decide) (fun c19 => ?_) (fun c19 => ?_)
    · have h := (if_pos c19).symm.trans h
      refine v_aload_n (pc := 35) O dX12_below_35 0 rfl ?_
      refine v_getI (pc := 36) (a := 207) O gf_X12_5 fl_X12_194 kq_207 dX12_below_36 ?_
      refine v_ifeq (pc := 39) 48 O dX12_below_39 (by decide) (fun c20 => ?_) (fun c20 => ?_)
      · have h := (if_pos c20).symm.trans h
        refine v_iconst (pc := 48) O dX12_below_48 ic_0 ?_
        refine v_istore_n (pc := 49) (lv' := [(3, .int 0), (0, .ref (bo X + pp 207)), (1, .int x1), (2, .int x2)]) O dX12_below_49 rfl (by rw [hn]; decide) rfl ?_
        refine v_sub [1, 2, 3, 0] rfl ?_
        exact w_X12_below_b50 O hm hn hz N x1 x2 0 p17.2 h
      · have h := (if_neg c20).symm.trans h
        refine v_aload_n (pc := 42) O dX12_below_42 0 rfl ?_
        refine v_iconst (pc := 43) O dX12_below_43 ic_2 ?_
        obtain ⟨p21, e22, h⟩ := bind_some h
        refine v_callV (pc := 44) (a := 207) (As := [.int 2]) (rest := []) (r := (some (.int p21.1))) (D' := p21.2) O (bb0 hz) (c_X12_fail hm e22) mw_X12_fail im_X12_fail se_X12_fail ml_X12_190 kq_207 (by decide) rfl rfl rfl (by decide) (by decide) (Nat.le_of_ble_eq_true rfl) dX12_below_44 rfl rfl ?_
        obtain rfl := Option.some.inj h
        exact v_iret (pc := 47) O hz dX12_below_47
    · have h := (if_neg c19).symm.trans h
      refine v_sub [0] rfl ?_
      exact w_X12_below_b29 O hm hn hz p17.2 h
theorem c_X12_below {l : Launch} {w : Wx} {n nu c u : Nat} {K : Nat → Nat} {N : Nat} (hm : wlm w = true) {x1 : Int32} {x2 : Int32} {D : Dat} {z : Int32 × Dat} (h : f_X12_below N x1 x2 D = some z) : C0 l w yX12_below cX12_below 6 (some .int) 1 22 [.ref (wb w + pp 207), .int x1, .int x2] n (Ax nu K c u) D (some (.int z.1)) z.2 :=
  C0.of (by decide) (Nat.le_of_ble_eq_true rfl) (fun X e1 e2 e3 hz O => by
  subst e1
  subst e2
  exact w_X12_below O hm e3 hz x1 x2 D h)
