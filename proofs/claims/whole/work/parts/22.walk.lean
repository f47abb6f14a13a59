theorem cw_X12_goodX : Cond.code yX12_goodX cX12_goodX 3 (some .boolean) ∈ tb := tb_of 2211 (by decide +kernel) (by decide +kernel)
theorem mw_X12_goodX : MW yX12_goodX cX12_goodX 3 (some .boolean) 1 := ⟨cw_X12_goodX, ini_X12, by decide +kernel⟩
theorem im_X12_goodX : Cond.instanceMethod yX12_goodX ∈ tb := tb_of 2210 (by decide +kernel) (by decide +kernel)
theorem se_X12_goodX : Cond.selects (yX12_goodX).cls yX12_goodX yX12_goodX ∈ tb := tb_of 131 (by decide +kernel) (by decide +kernel)
theorem ml_X12_454 : Cond.methodLink RX12 454 yX12_goodX ∈ tb := tb_of 2208 (by decide +kernel) (by decide +kernel)
theorem cw_X12_heights : Cond.code yX12_heights cX12_heights 3 (some .int) ∈ tb := tb_of 2215 (by decide +kernel) (by decide +kernel)
theorem mw_X12_heights : MW yX12_heights cX12_heights 3 (some .int) 0 := ⟨cw_X12_heights, ini_X12, by decide +kernel⟩
theorem im_X12_heights : Cond.instanceMethod yX12_heights ∈ tb := tb_of 2214 (by decide +kernel) (by decide +kernel)
theorem se_X12_heights : Cond.selects (yX12_heights).cls yX12_heights yX12_heights ∈ tb := tb_of 132 (by decide +kernel) (by decide +kernel)
theorem ml_X12_457 : Cond.methodLink RX12 457 yX12_heights ∈ tb := tb_of 2212 (by decide +kernel) (by decide +kernel)
theorem cw_X12_regions : Cond.code yX12_regions cX12_regions 3 none ∈ tb := tb_of 2239 (by decide +kernel) (by decide +kernel)
theorem mw_X12_regions : MW yX12_regions cX12_regions 3 none 0 := ⟨cw_X12_regions, ini_X12, by decide +kernel⟩
theorem im_X12_regions : Cond.instanceMethod yX12_regions ∈ tb := tb_of 2238 (by decide +kernel) (by decide +kernel)
theorem se_X12_regions : Cond.selects (yX12_regions).cls yX12_regions yX12_regions ∈ tb := tb_of 138 (by decide +kernel) (by decide +kernel)
theorem ml_X12_460 : Cond.methodLink RX12 460 yX12_regions ∈ tb := tb_of 2236 (by decide +kernel) (by decide +kernel)
theorem cw_X12_rounds : Cond.code yX12_rounds cX12_rounds 3 none ∈ tb := tb_of 2255 (by decide +kernel) (by decide +kernel)
theorem mw_X12_rounds : MW yX12_rounds cX12_rounds 3 none 0 := ⟨cw_X12_rounds, ini_X12, by decide +kernel⟩
theorem im_X12_rounds : Cond.instanceMethod yX12_rounds ∈ tb := tb_of 2254 (by decide +kernel) (by decide +kernel)
theorem se_X12_rounds : Cond.selects (yX12_rounds).cls yX12_rounds yX12_rounds ∈ tb := tb_of 142 (by decide +kernel) (by decide +kernel)
theorem ml_X12_463 : Cond.methodLink RX12 463 yX12_rounds ∈ tb := tb_of 2252 (by decide +kernel) (by decide +kernel)
theorem cw_X12_leaks : Cond.code yX12_leaks cX12_leaks 4 (some .boolean) ∈ tb := tb_of 2275 (by decide +kernel) (by decide +kernel)
theorem mw_X12_leaks : MW yX12_leaks cX12_leaks 4 (some .boolean) 1 := ⟨cw_X12_leaks, ini_X12, by decide +kernel⟩
theorem im_X12_leaks : Cond.instanceMethod yX12_leaks ∈ tb := tb_of 2274 (by decide +kernel) (by decide +kernel)
theorem se_X12_leaks : Cond.selects (yX12_leaks).cls yX12_leaks yX12_leaks ∈ tb := tb_of 147 (by decide +kernel) (by decide +kernel)
theorem ml_X12_466 : Cond.methodLink RX12 466 yX12_leaks ∈ tb := tb_of 2272 (by decide +kernel) (by decide +kernel)
theorem bp_27 : (Int8.ofInt (27)).toInt32 = (27 : Int32) := by decide
theorem bp_28 : (Int8.ofInt (28)).toInt32 = (28 : Int32) := by decide
theorem bp_m2 : (Int8.ofInt (-2)).toInt32 = (-2 : Int32) := by decide
theorem fl_X12_159 : Cond.fieldLink RX12 159 RX12 (TX12 75).2.1 (TX12 75).2.2.1 ∈ tb := tb_of 1795 (by decide +kernel) (by decide +kernel)
theorem gf_X12_75 : FI 12 RX12 TX12 85 tyX12 75 3 := ⟨rfl, inb_X12, tyX12_ok, nmX12, by decide, by decide, rfl, rfl, rfl⟩
theorem lk_207_75 : lks 207 75 = some 255 := by decide +kernel
theorem kq_255 {nu c u : Nat} {K : Nat → Nat} : (Ax nu K c u).1 255 = 14 := kd_lt (K := K) (a := 255) (by decide) rfl
theorem lq_255 {nu c u : Nat} {K : Nat → Nat} : (Ax nu K c u).2.1 255 = 6 := rfl
theorem bp_20 : (Int8.ofInt (20)).toInt32 = (20 : Int32) := by decide
theorem fl_X12_156 : Cond.fieldLink RX12 156 RX12 (TX12 74).2.1 (TX12 74).2.2.1 ∈ tb := tb_of 1794 (by decide +kernel) (by decide +kernel)
theorem gf_X12_74 : FI 12 RX12 TX12 85 tyX12 74 3 := ⟨rfl, inb_X12, tyX12_ok, nmX12, by decide, by decide, rfl, rfl, rfl⟩
theorem lk_207_74 : lks 207 74 = some 254 := by decide +kernel
theorem kq_254 {nu c u : Nat} {K : Nat → Nat} : (Ax nu K c u).1 254 = 14 := kd_lt (K := K) (a := 254) (by decide) rfl
theorem lq_254 {nu c u : Nat} {K : Nat → Nat} : (Ax nu K c u).2.1 254 = 120 := rfl
theorem fl_X12_171 : Cond.fieldLink RX12 171 RX12 (TX12 79).2.1 (TX12 79).2.2.1 ∈ tb := tb_of 1799 (by decide +kernel) (by decide +kernel)
theorem gf_X12_79 : FI 12 RX12 TX12 85 tyX12 79 3 := ⟨rfl, inb_X12, tyX12_ok, nmX12, by decide, by decide, rfl, rfl, rfl⟩
theorem lk_207_79 : lks 207 79 = some 259 := by decide +kernel
theorem kq_259 {nu c u : Nat} {K : Nat → Nat} : (Ax nu K c u).1 259 = 14 := kd_lt (K := K) (a := 259) (by decide) rfl
theorem lq_259 {nu c u : Nat} {K : Nat → Nat} : (Ax nu K c u).2.1 259 = 26 := rfl
theorem sp_208 : (Int16.ofInt (208)).toInt32 = (208 : Int32) := by decide
theorem fl_X12_174 : Cond.fieldLink RX12 174 RX12 (TX12 80).2.1 (TX12 80).2.2.1 ∈ tb := tb_of 1800 (by decide +kernel) (by decide +kernel)
theorem gf_X12_80 : FI 12 RX12 TX12 85 tyX12 80 3 := ⟨rfl, inb_X12, tyX12_ok, nmX12, by decide, by decide, rfl, rfl, rfl⟩
theorem lk_207_80 : lks 207 80 = some 260 := by decide +kernel
theorem kq_260 {nu c u : Nat} {K : Nat → Nat} : (Ax nu K c u).1 260 = 14 := kd_lt (K := K) (a := 260) (by decide) rfl
theorem lq_260 {nu c u : Nat} {K : Nat → Nat} : (Ax nu K c u).2.1 260 = 208 := rfl
theorem fl_X12_469 : Cond.fieldLink RX12 469 RX12 (TX12 82).2.1 (TX12 82).2.2.1 ∈ tb := tb_of 1802 (by decide +kernel) (by decide +kernel)
theorem gf_X12_82 : FI 12 RX12 TX12 85 tyX12 82 0 := ⟨rfl, inb_X12, tyX12_ok, nmX12, by decide, by decide, rfl, rfl, rfl⟩
theorem pf_X12_82 : PI 12 RX12 TX12 85 tyX12 82 0 .int := ⟨gf_X12_82, rfl, rfl⟩
theorem fl_X12_472 : Cond.fieldLink RX12 472 RX12 (TX12 83).2.1 (TX12 83).2.2.1 ∈ tb := tb_of 1803 (by decide +kernel) (by decide +kernel)
theorem gf_X12_83 : FI 12 RX12 TX12 85 tyX12 83 0 := ⟨rfl, inb_X12, tyX12_ok, nmX12, by decide, by decide, rfl, rfl, rfl⟩
theorem pf_X12_83 : PI 12 RX12 TX12 85 tyX12 83 0 .int := ⟨gf_X12_83, rfl, rfl⟩
theorem fl_X12_475 : Cond.fieldLink RX12 475 RX12 (TX12 84).2.1 (TX12 84).2.2.1 ∈ tb := tb_of 1804 (by decide +kernel) (by decide +kernel)
theorem gf_X12_84 : FI 12 RX12 TX12 85 tyX12 84 0 := ⟨rfl, inb_X12, tyX12_ok, nmX12, by decide, by decide, rfl, rfl, rfl⟩
theorem pf_X12_84 : PI 12 RX12 TX12 85 tyX12 84 0 .int := ⟨gf_X12_84, rfl, rfl⟩
theorem fl_X12_162 : Cond.fieldLink RX12 162 RX12 (TX12 76).2.1 (TX12 76).2.2.1 ∈ tb := tb_of 1796 (by decide +kernel) (by decide +kernel)
theorem gf_X12_76 : FI 12 RX12 TX12 85 tyX12 76 3 := ⟨rfl, inb_X12, tyX12_ok, nmX12, by decide, by decide, rfl, rfl, rfl⟩
theorem lk_207_76 : lks 207 76 = some 256 := by decide +kernel
theorem kq_256 {nu c u : Nat} {K : Nat → Nat} : (Ax nu K c u).1 256 = 14 := kd_lt (K := K) (a := 256) (by decide) rfl
theorem lq_256 {nu c u : Nat} {K : Nat → Nat} : (Ax nu K c u).2.1 256 = 6 := rfl
theorem fl_X12_168 : Cond.fieldLink RX12 168 RX12 (TX12 78).2.1 (TX12 78).2.2.1 ∈ tb := tb_of 1798 (by decide +kernel) (by decide +kernel)
theorem gf_X12_78 : FI 12 RX12 TX12 85 tyX12 78 3 := ⟨rfl, inb_X12, tyX12_ok, nmX12, by decide, by decide, rfl, rfl, rfl⟩
theorem lk_207_78 : lks 207 78 = some 258 := by decide +kernel
theorem kq_258 {nu c u : Nat} {K : Nat → Nat} : (Ax nu K c u).1 258 = 14 := kd_lt (K := K) (a := 258) (by decide) rfl
theorem lq_258 {nu c u : Nat} {K : Nat → Nat} : (Ax nu K c u).2.1 258 = 6 := rfl
def f_X12_verify_b19 (N : Nat) (D : Dat) : Option (Int32 × Dat) :=
  (f_X12_fail 1 D).bind (fun p1 => some (p1.1, p1.2))
set_option maxHeartbeats 4000000 in
theorem w_X12_verify_b19 {X : Cx} {n nu c u : Nat} {K : Nat → Nat} {N : Nat} {z : Int32 × Dat} (O : Ok X cX12_verify RX12 (some .int) 5 116) (hm : wlm (xw X) = true) (hn : xn X = 4) (hz : Z0 X (Ax nu K c u)) (D : Dat) (h : f_X12_verify_b19 N D = some z) : V X (Q0 X n (Ax nu K c u) (some (.int z.1)) z.2) n (Ax nu K c u) D 19 [(0, .ref (bo X + pp 207))] [] := by
  unfold f_X12_verify_b19 at h
  refine v_aload_n (pc := 19) O dX12_verify_19 0 rfl ?_
  refine v_iconst (pc := 20) O dX12_verify_20 ic_1 ?_
  obtain ⟨p1, e2, h⟩ := bind_some h
  refine v_callV (pc := 21) (a := 207) (As := [.int 1]) (rest := []) (r := (some (.int p1.1))) (D' := p1.2) O (bb0 hz) (c_X12_fail hm e2) mw_X12_fail im_X12_fail se_X12_fail ml_X12_190 kq_207 (by decide) rfl rfl rfl (by decide) (by decide) (Nat.le_of_ble_eq_true rfl) dX12_verify_21 rfl rfl ?_
  obtain rfl := Option.some.inj h
  exact v_iret (pc := 24) O hz dX12_verify_24
def f_X12_verify_b183 (N : Nat) (rec_143 : Int32 → Int32 → Dat → Option (Int32 × Dat)) (x2 : Int32) (x3 : Int32) (D : Dat) : Option (Int32 × Dat) :=
  rec_143 x2 (x3 + 1) D
set_option maxHeartbeats 4000000 in
theorem w_X12_verify_b183 {X : Cx} {n nu c u : Nat} {K : Nat → Nat} {N : Nat} {rec_143 : Int32 → Int32 → Dat → Option (Int32 × Dat)} {z : Int32 × Dat} (O : Ok X cX12_verify RX12 (some .int) 5 116) (hm : wlm (xw X) = true) (hn : xn X = 4) (hz : Z0 X (Ax nu K c u)) (hrec_143 : ∀ (x2 : Int32) (x3 : Int32) (D : Dat), rec_143 x2 x3 D = some z → V X (Q0 X n (Ax nu K c u) (some (.int z.1)) z.2) n (Ax nu K c u) D 143 [(0, .ref (bo X + pp 207)), (2, .int x2), (3, .int x3)] []) (x2 : Int32) (x3 : Int32) (D : Dat) (h : f_X12_verify_b183 N rec_143 x2 x3 D = some z) : V X (Q0 X n (Ax nu K c u) (some (.int z.1)) z.2) n (Ax nu K c u) D 183 [(0, .ref (bo X + pp 207)), (2, .int x2), (3, .int x3)] [] := by
  unfold f_X12_verify_b183 at h
  refine v_iinc (pc := 183) (lv' := [(3, .int (x3 + 1)), (0, .ref (bo X + pp 207)), (2, .int x2)]) O dX12_verify_183 2 rfl (congrArg (fun q => x3 + q) ic_1) (by rw [hn]; decide) rfl ?_
  refine v_goto (pc := 186) 143 O dX12_verify_186 (by decide) ?_
  refine v_sub [1, 2, 0] rfl ?_
  exact hrec_143 x2 (x3 + 1) D h
def f_X12_verify_b143 (N : Nat) : Nat → Int32 → Int32 → Dat → Option (Int32 × Dat)
  | 0, _, _, _ => none
  | g + 1, x2, x3, D => if (dI D 207 13) ≤ x3 then (some (x2, (sI (sI (sI D 207 7 (-1)) 207 8 (-1)) 207 16 1))) else (if x3 < 0 ∨ 64 ≤ (x3).toNatClampNeg then none else (if 0 ≤ (dI D 245 (x3).toNatClampNeg) then ((f_X12_leaks N x3 D).bind (fun p6 => if p6.1 = 0 then (f_X12_verify_b183 N (f_X12_verify_b143 N g) (x2 + 1) x3 p6.2) else ((f_X12_refuse x3 6 2 p6.2).bind (fun p9 => some (p9.1, p9.2))))) else (f_X12_verify_b183 N (f_X12_verify_b143 N g) x2 x3 D)))
set_option maxHeartbeats 4000000 in
theorem w_X12_verify_b143 {X : Cx} {n nu c u : Nat} {K : Nat → Nat} {N : Nat} {z : Int32 × Dat} (O : Ok X cX12_verify RX12 (some .int) 5 116) (hm : wlm (xw X) = true) (hn : xn X = 4) (hz : Z0 X (Ax nu K c u)) : ∀ (g : Nat) (x2 : Int32) (x3 : Int32) (D : Dat), f_X12_verify_b143 N g x2 x3 D = some z → V X (Q0 X n (Ax nu K c u) (some (.int z.1)) z.2) n (Ax nu K c u) D 143 [(0, .ref (bo X + pp 207)), (2, .int x2), (3, .int x3)] [] := by
  intro g
  induction g with
  | zero => intro x2 x3 D h; exact absurd h (by simp [f_X12_verify_b143])
  | succ g ih =>
    intro x2 x3 D h
    rw [f_X12_verify_b143] at h
    refine v_iload_n (pc := 143) O dX12_verify_143 2 rfl ?_
    refine v_aload_n (pc := 144) O dX12_verify_144 0 rfl ?_
    refine v_getI (pc := 145) (a := 207) O gf_X12_13 fl_X12_406 kq_207 dX12_verify_145 ?_
    refine v_icmpge (pc := 148) 189 O dX12_verify_148 (by decide) (fun c3 => ?_) (fun c3 => ?_)
    · have h := (if_pos c3).symm.trans h
      refine v_aload_n (pc := 189) O dX12_verify_189 0 rfl ?_
      refine v_iconst (pc := 190) O dX12_verify_190 ic_m1 ?_
      refine v_putI (pc := 191) (a := 207) O pf_X12_7 fl_X12_20 kq_207 dX12_verify_191 ?_
      refine v_aload_n (pc := 194) O dX12_verify_194 0 rfl ?_
      refine v_iconst (pc := 195) O dX12_verify_195 ic_m1 ?_
      refine v_putI (pc := 196) (a := 207) O pf_X12_8 fl_X12_24 kq_207 dX12_verify_196 ?_
      refine v_aload_n (pc := 199) O dX12_verify_199 0 rfl ?_
      refine v_iconst (pc := 200) O dX12_verify_200 ic_1 ?_
      refine v_putZ (pc := 201) (a := 207) O pf_X12_16 fl_X12_409 kq_207 narrow_b1 dX12_verify_201 ?_
      refine v_iload_n (pc := 204) O dX12_verify_204 1 rfl ?_
      obtain rfl := Option.some.inj h
      exact v_iret (pc := 205) O hz dX12_verify_205
    · have h := (if_neg c3).symm.trans h
      refine v_aload_n (pc := 151) O dX12_verify_151 0 rfl ?_
      refine v_getK (pc := 152) (a := 207) O hm gf_X12_65 fl_X12_129 kq_207 lk_207_65 dX12_verify_152 ?_
      refine v_iload_n (pc := 155) O dX12_verify_155 2 rfl ?_
      obtain ⟨c4, h⟩ := or_none h
      refine v_iald (pc := 156) (a := 245) O kq_245 (inq lq_245 c4) dX12_verify_156 ?_
      refine v_ifge (pc := 157) 163 O dX12_verify_157 (by decide) (fun c5 => ?_) (fun c5 => ?_)
      · have h := (if_pos c5).symm.trans h
        refine v_iinc (pc := 163) (lv' := [(2, .int (x2 + 1)), (0, .ref (bo X + pp 207)), (3, .int x3)]) O dX12_verify_163 1 rfl (congrArg (fun q => x2 + q) ic_1) (by rw [hn]; decide) rfl ?_
        refine v_aload_n (pc := 166) O dX12_verify_166 1 rfl ?_
        refine v_iload_n (pc := 167) O dX12_verify_167 2 rfl ?_
        obtain ⟨p6, e7, h⟩ := bind_some h
        refine v_callV (pc := 168) (a := 207) (As := [.int x3]) (rest := []) (r := (some (.int p6.1))) (D' := p6.2) O (bb0 hz) (c_X12_leaks hm e7) mw_X12_leaks im_X12_leaks se_X12_leaks ml_X12_466 kq_207 (by decide) rfl rfl rfl (by decide) (by decide) (Nat.le_of_ble_eq_true rfl) dX12_verify_168 rfl rfl ?_
        refine v_ifeq (pc := 171) 183 O dX12_verify_171 (by decide) (fun c8 => ?_) (fun c8 => ?_)
        · have h := (if_pos c8).symm.trans h
          refine v_sub [1, 0, 2] rfl ?_
          exact w_X12_verify_b183 O hm hn hz ih (x2 + 1) x3 p6.2 h
        · have h := (if_neg c8).symm.trans h
          refine v_aload_n (pc := 174) O dX12_verify_174 1 rfl ?_
          refine v_iload_n (pc := 175) O dX12_verify_175 2 rfl ?_
          refine v_bipush (pc := 176) O dX12_verify_176 bp_6 ?_
          refine v_iconst (pc := 178) O dX12_verify_178 ic_2 ?_
          obtain ⟨p9, e10, h⟩ := bind_some h
          refine v_callV (pc := 179) (a := 207) (As := [.int x3, .int 6, .int 2]) (rest := []) (r := (some (.int p9.1))) (D' := p9.2) O (bb0 hz) (c_X12_refuse hm e10) mw_X12_refuse im_X12_refuse se_X12_refuse ml_X12_206 kq_207 (by decide) rfl rfl rfl (by decide) (by decide) (Nat.le_of_ble_eq_true rfl) dX12_verify_179 rfl rfl ?_
          obtain rfl := Option.some.inj h
          exact v_iret (pc := 182) O hz dX12_verify_182
      · have h := (if_neg c5).symm.trans h
        refine v_goto (pc := 160) 183 O dX12_verify_160 (by decide) ?_
        refine v_sub [0, 1, 2] rfl ?_
        exact w_X12_verify_b183 O hm hn hz ih x2 x3 D h
def f_X12_verify_b112 (N : Nat) (D : Dat) : Option (Int32 × Dat) :=
  (f_X12_heights N D).bind (fun p11 => if (dI p11.2 207 0) ≤ 0 then ((f_X12_regions N p11.2).bind (fun p14 => (f_X12_rounds N p14).bind (fun p16 => f_X12_verify_b143 N N 0 0 (sI p16 207 17 1)))) else (some (0, p11.2)))
set_option maxHeartbeats 4000000 in
theorem w_X12_verify_b112 {X : Cx} {n nu c u : Nat} {K : Nat → Nat} {N : Nat} {z : Int32 × Dat} (O : Ok X cX12_verify RX12 (some .int) 5 116) (hm : wlm (xw X) = true) (hn : xn X = 4) (hz : Z0 X (Ax nu K c u)) (D : Dat) (h : f_X12_verify_b112 N D = some z) : V X (Q0 X n (Ax nu K c u) (some (.int z.1)) z.2) n (Ax nu K c u) D 112 [(0, .ref (bo X + pp 207))] [] := by
  unfold f_X12_verify_b112 at h
  refine v_aload_n (pc := 112) O dX12_verify_112 0 rfl ?_
  obtain ⟨p11, e12, h⟩ := bind_some h
  refine v_callV (pc := 113) (a := 207) (As := []) (rest := []) (r := (some (.int p11.1))) (D' := p11.2) O (bb0 hz) (c_X12_heights hm e12) mw_X12_heights im_X12_heights se_X12_heights ml_X12_457 kq_207 (by decide) rfl rfl rfl (by decide) (by decide) (Nat.le_of_ble_eq_true rfl) dX12_verify_113 rfl rfl ?_
  refine v_istore_n (pc := 116) (lv' := [(1, .int p11.1), (0, .ref (bo X + pp 207))]) O dX12_verify_116 rfl (by rw [hn]; decide) rfl ?_
  refine v_aload_n (pc := 117) O dX12_verify_117 1 rfl ?_
  refine v_getI (pc := 118) (a := 207) O gf_X12_0 fl_X12_183 kq_207 dX12_verify_118 ?_
  refine v_ifle (pc := 121) 126 O dX12_verify_121 (by decide) (fun c13 => ?_) (fun c13 => ?_)
  · have h := (if_pos c13).symm.trans h
    refine v_aload_n (pc := 126) O dX12_verify_126 1 rfl ?_
    obtain ⟨p14, e15, h⟩ := bind_some h
    refine v_callV (pc := 127) (a := 207) (As := []) (rest := []) (r := none) (D' := p14) O (bb0 hz) (c_X12_regions hm e15) mw_X12_regions im_X12_regions se_X12_regions ml_X12_460 kq_207 (by decide) rfl rfl rfl (by decide) (by decide) (Nat.le_of_ble_eq_true rfl) dX12_verify_127 rfl rfl ?_
    refine v_aload_n (pc := 130) O dX12_verify_130 1 rfl ?_
    obtain ⟨p16, e17, h⟩ := bind_some h
    refine v_callV (pc := 131) (a := 207) (As := []) (rest := []) (r := none) (D' := p16) O (bb0 hz) (c_X12_rounds hm e17) mw_X12_rounds im_X12_rounds se_X12_rounds ml_X12_463 kq_207 (by decide) rfl rfl rfl (by decide) (by decide) (Nat.le_of_ble_eq_true rfl) dX12_verify_131 rfl rfl ?_
    refine v_aload_n (pc := 134) O dX12_verify_134 1 rfl ?_
    refine v_iconst (pc := 135) O dX12_verify_135 ic_1 ?_
    refine v_putZ (pc := 136) (a := 207) O pf_X12_17 fl_X12_412 kq_207 narrow_b1 dX12_verify_136 ?_
    refine v_iconst (pc := 139) O dX12_verify_139 ic_0 ?_
    refine v_istore_n (pc := 140) (lv' := [(2, .int 0), (1, .int p11.1), (0, .ref (bo X + pp 207))]) O dX12_verify_140 rfl (by rw [hn]; decide) rfl ?_
    refine v_iconst (pc := 141) O dX12_verify_141 ic_0 ?_
    refine v_istore_n (pc := 142) (lv' := [(3, .int 0), (2, .int 0), (1, .int p11.1), (0, .ref (bo X + pp 207))]) O dX12_verify_142 rfl (by rw [hn]; decide) rfl ?_
    refine v_sub [3, 1, 0] rfl ?_
    exact w_X12_verify_b143 O hm hn hz N 0 0 (sI p16 207 17 1) h
  · have h := (if_neg c13).symm.trans h
    refine v_iconst (pc := 124) O dX12_verify_124 ic_0 ?_
    obtain rfl := Option.some.inj h
    exact v_iret (pc := 125) O hz dX12_verify_125
def f_X12_verify_b37 (N : Nat) : Nat → Int32 → Dat → Option (Int32 × Dat)
  | 0, _, _ => none
  | g + 1, x1, D => if (dI D 207 13) ≤ x1 then (if ((dI D 207 13) - (1 : Int32)) < 0 ∨ 64 ≤ (((dI D 207 13) - (1 : Int32))).toNatClampNeg then none else (if (dI D 212 ((dI D 207 13) - (1 : Int32)).toNatClampNeg) = 12 then (f_X12_verify_b112 N D) else (if ((dI D 207 13) - (1 : Int32)) < 0 ∨ 64 ≤ (((dI D 207 13) - (1 : Int32))).toNatClampNeg then none else (if (dI D 212 ((dI D 207 13) - (1 : Int32)).toNatClampNeg) = 15 then (f_X12_verify_b112 N D) else ((f_X12_refuse ((dI D 207 13) - (1 : Int32)) 2 2 D).bind (fun p23 => some (p23.1, p23.2))))))) else ((f_X12_goodX x1 D).bind (fun p25 => if p25.1 = 0 then ((f_X12_refuse x1 1 2 p25.2).bind (fun p28 => some (p28.1, p28.2))) else ((f_X12_verify_b37 N g) (x1 + 1) p25.2)))
set_option maxHeartbeats 4000000 in
theorem w_X12_verify_b37 {X : Cx} {n nu c u : Nat} {K : Nat → Nat} {N : Nat} {z : Int32 × Dat} (O : Ok X cX12_verify RX12 (some .int) 5 116) (hm : wlm (xw X) = true) (hn : xn X = 4) (hz : Z0 X (Ax nu K c u)) : ∀ (g : Nat) (x1 : Int32) (D : Dat), f_X12_verify_b37 N g x1 D = some z → V X (Q0 X n (Ax nu K c u) (some (.int z.1)) z.2) n (Ax nu K c u) D 37 [(0, .ref (bo X + pp 207)), (1, .int x1)] [] := by
  intro g
  induction g with
  | zero => intro x1 D h; exact absurd h (by simp [f_X12_verify_b37])
  | succ g ih =>
    intro x1 D h
    rw [f_X12_verify_b37] at h
    refine v_iload_n (pc := 37) O dX12_verify_37 1 rfl ?_
    refine v_aload_n (pc := 38) O dX12_verify_38 0 rfl ?_
    refine v_getI (pc := 39) (a := 207) O gf_X12_13 fl_X12_406 kq_207 dX12_verify_39 ?_
    refine v_icmpge (pc := 42) 67 O dX12_verify_42 (by decide) (fun c18 => ?_) (fun c18 => ?_)
    · have h := (if_pos c18).symm.trans h
      refine v_aload_n (pc := 67) O dX12_verify_67 0 rfl ?_
      refine v_getK (pc := 68) (a := 207) O hm gf_X12_11 fl_X12_30 kq_207 lk_207_11 dX12_verify_68 ?_
      refine v_aload_n (pc := 71) O dX12_verify_71 0 rfl ?_
      refine v_getI (pc := 72) (a := 207) O gf_X12_13 fl_X12_406 kq_207 dX12_verify_72 ?_
      refine v_iconst (pc := 75) O dX12_verify_75 ic_1 ?_
      refine v_isub (pc := 76) O dX12_verify_76 ?_
      obtain ⟨c19, h⟩ := or_none h
      refine v_iald (pc := 77) (a := 212) O kq_212 (inq lq_212 c19) dX12_verify_77 ?_
      refine v_bipush (pc := 78) O dX12_verify_78 bp_12 ?_
      refine v_icmpeq (pc := 80) 112 O dX12_verify_80 (by decide) (fun c20 => ?_) (fun c20 => ?_)
      · have h := (if_pos c20).symm.trans h
        refine v_sub [0] rfl ?_
        exact w_X12_verify_b112 O hm hn hz D h
      · have h := (if_neg c20).symm.trans h
        refine v_aload_n (pc := 83) O dX12_verify_83 0 rfl ?_
        refine v_getK (pc := 84) (a := 207) O hm gf_X12_11 fl_X12_30 kq_207 lk_207_11 dX12_verify_84 ?_
        refine v_aload_n (pc := 87) O dX12_verify_87 0 rfl ?_
        refine v_getI (pc := 88) (a := 207) O gf_X12_13 fl_X12_406 kq_207 dX12_verify_88 ?_
        refine v_iconst (pc := 91) O dX12_verify_91 ic_1 ?_
        refine v_isub (pc := 92) O dX12_verify_92 ?_
        obtain ⟨c21, h⟩ := or_none h
        refine v_iald (pc := 93) (a := 212) O kq_212 (inq lq_212 c21) dX12_verify_93 ?_
        refine v_bipush (pc := 94) O dX12_verify_94 bp_15 ?_
        refine v_icmpeq (pc := 96) 112 O dX12_verify_96 (by decide) (fun c22 => ?_) (fun c22 => ?_)
        · have h := (if_pos c22).symm.trans h
          refine v_sub [0] rfl ?_
          exact w_X12_verify_b112 O hm hn hz D h
        · have h := (if_neg c22).symm.trans h
          refine v_aload_n (pc := 99) O dX12_verify_99 0 rfl ?_
          refine v_aload_n (pc := 100) O dX12_verify_100 0 rfl ?_
          refine v_getI (pc := 101) (a := 207) O gf_X12_13 fl_X12_406 kq_207 dX12_verify_101 ?_
          refine v_iconst (pc := 104) O dX12_verify_104 ic_1 ?_
          refine v_isub (pc := 105) O dX12_verify_105 ?_
          refine v_iconst (pc := 106) O dX12_verify_106 ic_2 ?_
          refine v_iconst (pc := 107) O dX12_verify_107 ic_2 ?_
          obtain ⟨p23, e24, h⟩ := bind_some h
          refine v_callV (pc := 108) (a := 207) (As := [.int ((dI D 207 13) - (1 : Int32)), .int 2, .int 2]) (rest := []) (r := (some (.int p23.1))) (D' := p23.2) O (bb0 hz) (c_X12_refuse hm e24) mw_X12_refuse im_X12_refuse se_X12_refuse ml_X12_206 kq_207 (by decide) rfl rfl rfl (by decide) (by decide) (Nat.le_of_ble_eq_true rfl) dX12_verify_108 rfl rfl ?_
          obtain rfl := Option.some.inj h
          exact v_iret (pc := 111) O hz dX12_verify_111
    · have h := (if_neg c18).symm.trans h
      refine v_aload_n (pc := 45) O dX12_verify_45 0 rfl ?_
      refine v_iload_n (pc := 46) O dX12_verify_46 1 rfl ?_
      obtain ⟨p25, e26, h⟩ := bind_some h
      refine v_callV (pc := 47) (a := 207) (As := [.int x1]) (rest := []) (r := (some (.int p25.1))) (D' := p25.2) O (bb0 hz) (c_X12_goodX hm e26) mw_X12_goodX im_X12_goodX se_X12_goodX ml_X12_454 kq_207 (by decide) rfl rfl rfl (by decide) (by decide) (Nat.le_of_ble_eq_true rfl) dX12_verify_47 rfl rfl ?_
      refine v_ifne (pc := 50) 61 O dX12_verify_50 (by decide) (fun c27 => ?_) (fun c27 => ?_)
      · have h := (if_neg c27).symm.trans h
        refine v_iinc (pc := 61) (lv' := [(1, .int (x1 + 1)), (0, .ref (bo X + pp 207))]) O dX12_verify_61 1 rfl (congrArg (fun q => x1 + q) ic_1) (by rw [hn]; decide) rfl ?_
        refine v_goto (pc := 64) 37 O dX12_verify_64 (by decide) ?_
        refine v_sub [1, 0] rfl ?_
        exact ih (x1 + 1) p25.2 h
      · have h := (if_pos c27).symm.trans h
        refine v_aload_n (pc := 53) O dX12_verify_53 0 rfl ?_
        refine v_iload_n (pc := 54) O dX12_verify_54 1 rfl ?_
        refine v_iconst (pc := 55) O dX12_verify_55 ic_1 ?_
        refine v_iconst (pc := 56) O dX12_verify_56 ic_2 ?_
        obtain ⟨p28, e29, h⟩ := bind_some h
        refine v_callV (pc := 57) (a := 207) (As := [.int x1, .int 1, .int 2]) (rest := []) (r := (some (.int p28.1))) (D' := p28.2) O (bb0 hz) (c_X12_refuse hm e29) mw_X12_refuse im_X12_refuse se_X12_refuse ml_X12_206 kq_207 (by decide) rfl rfl rfl (by decide) (by decide) (Nat.le_of_ble_eq_true rfl) dX12_verify_57 rfl rfl ?_
        obtain rfl := Option.some.inj h
        exact v_iret (pc := 60) O hz dX12_verify_60
def f_X12_verify (N : Nat) (D : Dat) : Option (Int32 × Dat) :=
  if (dI (sI D 207 0 0) 207 5) = 0 then (f_X12_verify_b19 N (sI D 207 0 0)) else (if (dI (sI D 207 0 0) 207 13) = 0 then (f_X12_verify_b19 N (sI D 207 0 0)) else (f_X12_verify_b37 N N 0 (sI (sI (sI D 207 0 0) 207 16 0) 207 17 0)))
set_option maxHeartbeats 4000000 in
theorem w_X12_verify {X : Cx} {n nu c u : Nat} {K : Nat → Nat} {N : Nat} {z : Int32 × Dat} (O : Ok X cX12_verify RX12 (some .int) 5 116) (hm : wlm (xw X) = true) (hn : xn X = 4) (hz : Z0 X (Ax nu K c u)) (D : Dat) (h : f_X12_verify N D = some z) : V X (Q0 X n (Ax nu K c u) (some (.int z.1)) z.2) n (Ax nu K c u) D 0 [(0, .ref (bo X + pp 207))] [] := by
  unfold f_X12_verify at h
  refine v_aload_n (pc := 0) O dX12_verify_0 0 rfl ?_
  refine v_iconst (pc := 1) O dX12_verify_1 ic_0 ?_
  refine v_putI (pc := 2) (a := 207) O pf_X12_0 fl_X12_183 kq_207 dX12_verify_2 ?_
  refine v_aload_n (pc := 5) O dX12_verify_5 0 rfl ?_
  refine v_getI (pc := 6) (a := 207) O gf_X12_5 fl_X12_194 kq_207 dX12_verify_6 ?_
  refine v_ifeq (pc := 9) 19 O dX12_verify_9 (by decide) (fun c30 => ?_) (fun c30 => ?_)
  · have h := (if_pos c30).symm.trans h
    refine v_sub [0] rfl ?_
    exact w_X12_verify_b19 O hm hn hz (sI D 207 0 0) h
  · have h := (if_neg c30).symm.trans h
    refine v_aload_n (pc := 12) O dX12_verify_12 0 rfl ?_
    refine v_getI (pc := 13) (a := 207) O gf_X12_13 fl_X12_406 kq_207 dX12_verify_13 ?_
    refine v_ifne (pc := 16) 25 O dX12_verify_16 (by decide) (fun c31 => ?_) (fun c31 => ?_)
    · have h := (if_neg c31).symm.trans h
      refine v_aload_n (pc := 25) O dX12_verify_25 0 rfl ?_
      refine v_iconst (pc := 26) O dX12_verify_26 ic_0 ?_
      refine v_putZ (pc := 27) (a := 207) O pf_X12_16 fl_X12_409 kq_207 narrow_b0 dX12_verify_27 ?_
      refine v_aload_n (pc := 30) O dX12_verify_30 0 rfl ?_
      refine v_iconst (pc := 31) O dX12_verify_31 ic_0 ?_
      refine v_putZ (pc := 32) (a := 207) O pf_X12_17 fl_X12_412 kq_207 narrow_b0 dX12_verify_32 ?_
      refine v_iconst (pc := 35) O dX12_verify_35 ic_0 ?_
      refine v_istore_n (pc := 36) (lv' := [(1, .int 0), (0, .ref (bo X + pp 207))]) O dX12_verify_36 rfl (by rw [hn]; decide) rfl ?_
      refine v_sub [1, 0] rfl ?_
      exact w_X12_verify_b37 O hm hn hz N 0 (sI (sI (sI D 207 0 0) 207 16 0) 207 17 0) h
    · have h := (if_pos c31).symm.trans h
      refine v_sub [0] rfl ?_
      exact w_X12_verify_b19 O hm hn hz (sI D 207 0 0) h
theorem c_X12_verify {l : Launch} {w : Wx} {n nu c u : Nat} {K : Nat → Nat} {N : Nat} (hm : wlm w = true) {D : Dat} {z : Int32 × Dat} (h : f_X12_verify N D = some z) : C0 l w yX12_verify cX12_verify 4 (some .int) 5 116 [.ref (wb w + pp 207)] n (Ax nu K c u) D (some (.int z.1)) z.2 :=
  C0.of (by decide) (Nat.le_of_ble_eq_true rfl) (fun X e1 e2 e3 hz O => by
  subst e1
  subst e2
  exact w_X12_verify O hm e3 hz  D h)
def f_X12_map_b138 (s0 : Int32) (D : Dat) : Option (Int32 × Dat) :=
  some (s0, D)
set_option maxHeartbeats 4000000 in
theorem w_X12_map_b138 {X : Cx} {n nu c u : Nat} {K : Nat → Nat} {z : Int32 × Dat} (O : Ok X cX12_map RX12 (some .int) 1 22) (hm : wlm (xw X) = true) (hn : xn X = 3) (hz : Z0 X (Ax nu K c u)) (s0 : Int32) (D : Dat) (h : f_X12_map_b138 s0 D = some z) : V X (Q0 X n (Ax nu K c u) (some (.int z.1)) z.2) n (Ax nu K c u) D 138 [] [.int s0] := by
  unfold f_X12_map_b138 at h
  obtain rfl := Option.some.inj h
  exact v_iret (pc := 138) O hz dX12_map_138
def f_X12_map (x1 : Int32) (x2 : Int32) (D : Dat) : Option (Int32 × Dat) :=
  (f_X12_out x2 58 (sI D 207 0 0)).bind (fun p1 => if p1.1 = 0 then (if (dI p1.2 207 17) = 0 then ((f_X12_fail 2 p1.2).bind (fun p21 => some (p21.1, p21.2))) else ((f_X12_out x1 (dI p1.2 207 13) p1.2).bind (fun p5 => if p5.1 = 0 then (if x1 < 0 ∨ 64 ≤ (x1).toNatClampNeg then none else (if 0 ≤ (dI p5.2 245 (x1).toNatClampNeg) then (if 26 ≤ x2 then (if x2 = 26 then (if x1 < 0 ∨ 64 ≤ (x1).toNatClampNeg then none else (some ((dI p5.2 249 (x1).toNatClampNeg), p5.2))) else (if x2 = 27 then (if x1 < 0 ∨ 64 ≤ (x1).toNatClampNeg then none else (some ((dI p5.2 245 (x1).toNatClampNeg), p5.2))) else (if x1 < 0 ∨ 64 ≤ (x1).toNatClampNeg then none else (if (dI p5.2 245 (x1).toNatClampNeg) ≤ (x2 - (28 : Int32)) then (f_X12_map_b138 (-1) p5.2) else (if ((((56 : Int32) * x1) + x2) - (2 : Int32)) < 0 ∨ 3584 ≤ (((((56 : Int32) * x1) + x2) - (2 : Int32))).toNatClampNeg then none else (f_X12_map_b138 (dI p5.2 250 ((((56 : Int32) * x1) + x2) - (2 : Int32)).toNatClampNeg) p5.2)))))) else (if (((56 : Int32) * x1) + x2) < 0 ∨ 3584 ≤ ((((56 : Int32) * x1) + x2)).toNatClampNeg then none else (some ((dI p5.2 250 (((56 : Int32) * x1) + x2).toNatClampNeg), p5.2)))) else (some ((-2), p5.2)))) else ((f_X12_fail 3 p5.2).bind (fun p19 => some (p19.1, p19.2)))))) else ((f_X12_fail 1 p1.2).bind (fun p23 => some (p23.1, p23.2))))
set_option maxHeartbeats 4000000 in
theorem w_X12_map {X : Cx} {n nu c u : Nat} {K : Nat → Nat} {z : Int32 × Dat} (O : Ok X cX12_map RX12 (some .int) 1 22) (hm : wlm (xw X) = true) (hn : xn X = 3) (hz : Z0 X (Ax nu K c u)) (x1 : Int32) (x2 : Int32) (D : Dat) (h : f_X12_map x1 x2 D = some z) : V X (Q0 X n (Ax nu K c u) (some (.int z.1)) z.2) n (Ax nu K c u) D 0 [(0, .ref (bo X + pp 207)), (1, .int x1), (2, .int x2)] [] := by
  unfold f_X12_map at h
  refine v_aload_n (pc := 0) O dX12_map_0 0 rfl ?_
  refine v_iconst (pc := 1) O dX12_map_1 ic_0 ?_
  refine v_putI (pc := 2) (a := 207) O pf_X12_0 fl_X12_183 kq_207 dX12_map_2 ?_
  refine v_aload_n (pc := 5) O dX12_map_5 0 rfl ?_
  refine v_iload_n (pc := 6) O dX12_map_6 2 rfl ?_
  refine v_bipush (pc := 7) O dX12_map_7 bp_58 ?_
  obtain ⟨p1, e2, h⟩ := bind_some h
  refine v_callV (pc := 9) (a := 207) (As := [.int x2, .int 58]) (rest := []) (r := (some (.int p1.1))) (D' := p1.2) O (bb0 hz) (c_X12_out hm e2) mw_X12_out im_X12_out se_X12_out ml_X12_186 kq_207 (by decide) rfl rfl rfl (by decide) (by decide) (Nat.le_of_ble_eq_true rfl) dX12_map_9 rfl rfl ?_
  refine v_ifeq (pc := 12) 21 O dX12_map_12 (by decide) (fun c3 => ?_) (fun c3 => ?_)
  · have h := (if_pos c3).symm.trans h
    refine v_aload_n (pc := 21) O dX12_map_21 0 rfl ?_
    refine v_getI (pc := 22) (a := 207) O gf_X12_17 fl_X12_412 kq_207 dX12_map_22 ?_
    refine v_ifne (pc := 25) 34 O dX12_map_25 (by decide) (fun c4 => ?_) (fun c4 => ?_)
    · have h := (if_neg c4).symm.trans h
      refine v_aload_n (pc := 34) O dX12_map_34 0 rfl ?_
      refine v_iload_n (pc := 35) O dX12_map_35 1 rfl ?_
      refine v_aload_n (pc := 36) O dX12_map_36 0 rfl ?_
      refine v_getI (pc := 37) (a := 207) O gf_X12_13 fl_X12_406 kq_207 dX12_map_37 ?_
      obtain ⟨p5, e6, h⟩ := bind_some h
      refine v_callV (pc := 40) (a := 207) (As := [.int x1, .int (dI p1.2 207 13)]) (rest := []) (r := (some (.int p5.1))) (D' := p5.2) O (bb0 hz) (c_X12_out hm e6) mw_X12_out im_X12_out se_X12_out ml_X12_186 kq_207 (by decide) rfl rfl rfl (by decide) (by decide) (Nat.le_of_ble_eq_true rfl) dX12_map_40 rfl rfl ?_
      refine v_ifeq (pc := 43) 52 O dX12_map_43 (by decide) (fun c7 => ?_) (fun c7 => ?_)
      · have h := (if_pos c7).symm.trans h
        refine v_aload_n (pc := 52) O dX12_map_52 0 rfl ?_
        refine v_getK (pc := 53) (a := 207) O hm gf_X12_65 fl_X12_129 kq_207 lk_207_65 dX12_map_53 ?_
        refine v_iload_n (pc := 56) O dX12_map_56 1 rfl ?_
        obtain ⟨c8, h⟩ := or_none h
        refine v_iald (pc := 57) (a := 245) O kq_245 (inq lq_245 c8) dX12_map_57 ?_
        refine v_ifge (pc := 58) 64 O dX12_map_58 (by decide) (fun c9 => ?_) (fun c9 => ?_)
        · have h := (if_pos c9).symm.trans h
          refine v_iload_n (pc := 64) O dX12_map_64 2 rfl ?_
          refine v_bipush (pc := 65) O dX12_map_65 bp_26 ?_
          refine v_icmpge (pc := 67) 82 O dX12_map_67 (by decide) (fun c10 => ?_) (fun c10 => ?_)
          · have h := (if_pos c10).symm.trans h
            refine v_iload_n (pc := 82) O dX12_map_82 2 rfl ?_
            refine v_bipush (pc := 83) O dX12_map_83 bp_26 ?_
            refine v_icmpne (pc := 85) 95 O dX12_map_85 (by decide) (fun c11 => ?_) (fun c11 => ?_)
            · have h := (if_neg c11).symm.trans h
              refine v_iload_n (pc := 95) O dX12_map_95 2 rfl ?_
              refine v_bipush (pc := 96) O dX12_map_96 bp_27 ?_
              refine v_icmpne (pc := 98) 108 O dX12_map_98 (by decide) (fun c12 => ?_) (fun c12 => ?_)
              · have h := (if_neg c12).symm.trans h
                refine v_iload_n (pc := 108) O dX12_map_108 2 rfl ?_
                refine v_bipush (pc := 109) O dX12_map_109 bp_28 ?_
                refine v_isub (pc := 111) O dX12_map_111 ?_
                refine v_aload_n (pc := 112) O dX12_map_112 0 rfl ?_
                refine v_getK (pc := 113) (a := 207) O hm gf_X12_65 fl_X12_129 kq_207 lk_207_65 dX12_map_113 ?_
                refine v_iload_n (pc := 116) O dX12_map_116 1 rfl ?_
                obtain ⟨c13, h⟩ := or_none h
                refine v_iald (pc := 117) (a := 245) O kq_245 (inq lq_245 c13) dX12_map_117 ?_
                refine v_icmpge (pc := 118) 137 O dX12_map_118 (by decide) (fun c14 => ?_) (fun c14 => ?_)
                · have h := (if_pos c14).symm.trans h
                  refine v_iconst (pc := 137) O dX12_map_137 ic_m1 ?_
                  refine v_sub [] rfl ?_
                  exact w_X12_map_b138 O hm hn hz (-1) p5.2 h
                · have h := (if_neg c14).symm.trans h
                  refine v_aload_n (pc := 121) O dX12_map_121 0 rfl ?_
                  refine v_getK (pc := 122) (a := 207) O hm gf_X12_70 fl_X12_144 kq_207 lk_207_70 dX12_map_122 ?_
                  refine v_bipush (pc := 125) O dX12_map_125 bp_56 ?_
                  refine v_iload_n (pc := 127) O dX12_map_127 1 rfl ?_
                  refine v_imul (pc := 128) O dX12_map_128 ?_
                  refine v_iload_n (pc := 129) O dX12_map_129 2 rfl ?_
                  refine v_iadd (pc := 130) O dX12_map_130 ?_
                  refine v_iconst (pc := 131) O dX12_map_131 ic_2 ?_
                  refine v_isub (pc := 132) O dX12_map_132 ?_
                  obtain ⟨c15, h⟩ := or_none h
                  refine v_iald (pc := 133) (a := 250) O kq_250 (inq lq_250 c15) dX12_map_133 ?_
                  refine v_goto (pc := 134) 138 O dX12_map_134 (by decide) ?_
                  refine v_sub [] rfl ?_
                  exact w_X12_map_b138 O hm hn hz (dI p5.2 250 ((((56 : Int32) * x1) + x2) - (2 : Int32)).toNatClampNeg) p5.2 h
              · have h := (if_pos c12).symm.trans h
                refine v_aload_n (pc := 101) O dX12_map_101 0 rfl ?_
                refine v_getK (pc := 102) (a := 207) O hm gf_X12_65 fl_X12_129 kq_207 lk_207_65 dX12_map_102 ?_
                refine v_iload_n (pc := 105) O dX12_map_105 1 rfl ?_
                obtain ⟨c16, h⟩ := or_none h
                refine v_iald (pc := 106) (a := 245) O kq_245 (inq lq_245 c16) dX12_map_106 ?_
                obtain rfl := Option.some.inj h
                exact v_iret (pc := 107) O hz dX12_map_107
            · have h := (if_pos c11).symm.trans h
              refine v_aload_n (pc := 88) O dX12_map_88 0 rfl ?_
              refine v_getK (pc := 89) (a := 207) O hm gf_X12_69 fl_X12_141 kq_207 lk_207_69 dX12_map_89 ?_
              refine v_iload_n (pc := 92) O dX12_map_92 1 rfl ?_
              obtain ⟨c17, h⟩ := or_none h
              refine v_iald (pc := 93) (a := 249) O kq_249 (inq lq_249 c17) dX12_map_93 ?_
              obtain rfl := Option.some.inj h
              exact v_iret (pc := 94) O hz dX12_map_94
          · have h := (if_neg c10).symm.trans h
            refine v_aload_n (pc := 70) O dX12_map_70 0 rfl ?_
            refine v_getK (pc := 71) (a := 207) O hm gf_X12_70 fl_X12_144 kq_207 lk_207_70 dX12_map_71 ?_
            refine v_bipush (pc := 74) O dX12_map_74 bp_56 ?_
            refine v_iload_n (pc := 76) O dX12_map_76 1 rfl ?_
            refine v_imul (pc := 77) O dX12_map_77 ?_
            refine v_iload_n (pc := 78) O dX12_map_78 2 rfl ?_
            refine v_iadd (pc := 79) O dX12_map_79 ?_
            obtain ⟨c18, h⟩ := or_none h
            refine v_iald (pc := 80) (a := 250) O kq_250 (inq lq_250 c18) dX12_map_80 ?_
            obtain rfl := Option.some.inj h
            exact v_iret (pc := 81) O hz dX12_map_81
        · have h := (if_neg c9).symm.trans h
          refine v_bipush (pc := 61) O dX12_map_61 bp_m2 ?_
          obtain rfl := Option.some.inj h
          exact v_iret (pc := 63) O hz dX12_map_63
      · have h := (if_neg c7).symm.trans h
        refine v_aload_n (pc := 46) O dX12_map_46 0 rfl ?_
        refine v_iconst (pc := 47) O dX12_map_47 ic_3 ?_
        obtain ⟨p19, e20, h⟩ := bind_some h
        refine v_callV (pc := 48) (a := 207) (As := [.int 3]) (rest := []) (r := (some (.int p19.1))) (D' := p19.2) O (bb0 hz) (c_X12_fail hm e20) mw_X12_fail im_X12_fail se_X12_fail ml_X12_190 kq_207 (by decide) rfl rfl rfl (by decide) (by decide) (Nat.le_of_ble_eq_true rfl) dX12_map_48 rfl rfl ?_
        obtain rfl := Option.some.inj h
        exact v_iret (pc := 51) O hz dX12_map_51
    · have h := (if_pos c4).symm.trans h
      refine v_aload_n (pc := 28) O dX12_map_28 0 rfl ?_
      refine v_iconst (pc := 29) O dX12_map_29 ic_2 ?_
      obtain ⟨p21, e22, h⟩ := bind_some h
      refine v_callV (pc := 30) (a := 207) (As := [.int 2]) (rest := []) (r := (some (.int p21.1))) (D' := p21.2) O (bb0 hz) (c_X12_fail hm e22) mw_X12_fail im_X12_fail se_X12_fail ml_X12_190 kq_207 (by decide) rfl rfl rfl (by decide) (by decide) (Nat.le_of_ble_eq_true rfl) dX12_map_30 rfl rfl ?_
      obtain rfl := Option.some.inj h
      exact v_iret (pc := 33) O hz dX12_map_33
  · have h := (if_neg c3).symm.trans h
    refine v_aload_n (pc := 15) O dX12_map_15 0 rfl ?_
    refine v_iconst (pc := 16) O dX12_map_16 ic_1 ?_
    obtain ⟨p23, e24, h⟩ := bind_some h
    refine v_callV (pc := 17) (a := 207) (As := [.int 1]) (rest := []) (r := (some (.int p23.1))) (D' := p23.2) O (bb0 hz) (c_X12_fail hm e24) mw_X12_fail im_X12_fail se_X12_fail ml_X12_190 kq_207 (by decide) rfl rfl rfl (by decide) (by decide) (Nat.le_of_ble_eq_true rfl) dX12_map_17 rfl rfl ?_
    obtain rfl := Option.some.inj h
    exact v_iret (pc := 20) O hz dX12_map_20
theorem c_X12_map {l : Launch} {w : Wx} {n nu c u : Nat} {K : Nat → Nat} (hm : wlm w = true) {x1 : Int32} {x2 : Int32} {D : Dat} {z : Int32 × Dat} (h : f_X12_map x1 x2 D = some z) : C0 l w yX12_map cX12_map 3 (some .int) 1 22 [.ref (wb w + pp 207), .int x1, .int x2] n (Ax nu K c u) D (some (.int z.1)) z.2 :=
  C0.of (by decide) (Nat.le_of_ble_eq_true rfl) (fun X e1 e2 e3 hz O => by
  subst e1
  subst e2
  exact w_X12_map O hm e3 hz x1 x2 D h)
def f_X12_region_b16 (D : Dat) : Option (Int32 × Dat) :=
  (f_X12_fail 1 D).bind (fun p1 => some (p1.1, p1.2))
set_option maxHeartbeats 4000000 in
theorem w_X12_region_b16 {X : Cx} {n nu c u : Nat} {K : Nat → Nat} {z : Int32 × Dat} (O : Ok X cX12_region RX12 (some .int) 1 22) (hm : wlm (xw X) = true) (hn : xn X = 3) (hz : Z0 X (Ax nu K c u)) (D : Dat) (h : f_X12_region_b16 D = some z) : V X (Q0 X n (Ax nu K c u) (some (.int z.1)) z.2) n (Ax nu K c u) D 16 [(0, .ref (bo X + pp 207))] [] := by
  unfold f_X12_region_b16 at h
  refine v_aload_n (pc := 16) O dX12_region_16 0 rfl ?_
  refine v_iconst (pc := 17) O dX12_region_17 ic_1 ?_
  obtain ⟨p1, e2, h⟩ := bind_some h
  refine v_callV (pc := 18) (a := 207) (As := [.int 1]) (rest := []) (r := (some (.int p1.1))) (D' := p1.2) O (bb0 hz) (c_X12_fail hm e2) mw_X12_fail im_X12_fail se_X12_fail ml_X12_190 kq_207 (by decide) rfl rfl rfl (by decide) (by decide) (Nat.le_of_ble_eq_true rfl) dX12_region_18 rfl rfl ?_
  obtain rfl := Option.some.inj h
  exact v_iret (pc := 21) O hz dX12_region_21
def f_X12_region_b55 (D : Dat) : Option (Int32 × Dat) :=
  (f_X12_fail 3 D).bind (fun p3 => some (p3.1, p3.2))
set_option maxHeartbeats 4000000 in
theorem w_X12_region_b55 {X : Cx} {n nu c u : Nat} {K : Nat → Nat} {z : Int32 × Dat} (O : Ok X cX12_region RX12 (some .int) 1 22) (hm : wlm (xw X) = true) (hn : xn X = 3) (hz : Z0 X (Ax nu K c u)) (D : Dat) (h : f_X12_region_b55 D = some z) : V X (Q0 X n (Ax nu K c u) (some (.int z.1)) z.2) n (Ax nu K c u) D 55 [(0, .ref (bo X + pp 207))] [] := by
  unfold f_X12_region_b55 at h
  refine v_aload_n (pc := 55) O dX12_region_55 0 rfl ?_
  refine v_iconst (pc := 56) O dX12_region_56 ic_3 ?_
  obtain ⟨p3, e4, h⟩ := bind_some h
  refine v_callV (pc := 57) (a := 207) (As := [.int 3]) (rest := []) (r := (some (.int p3.1))) (D' := p3.2) O (bb0 hz) (c_X12_fail hm e4) mw_X12_fail im_X12_fail se_X12_fail ml_X12_190 kq_207 (by decide) rfl rfl rfl (by decide) (by decide) (Nat.le_of_ble_eq_true rfl) dX12_region_57 rfl rfl ?_
  obtain rfl := Option.some.inj h
  exact v_iret (pc := 60) O hz dX12_region_60
def f_X12_region_b81 (D : Dat) : Option (Int32 × Dat) :=
  (f_X12_fail 4 D).bind (fun p5 => some (p5.1, p5.2))
set_option maxHeartbeats 4000000 in
theorem w_X12_region_b81 {X : Cx} {n nu c u : Nat} {K : Nat → Nat} {z : Int32 × Dat} (O : Ok X cX12_region RX12 (some .int) 1 22) (hm : wlm (xw X) = true) (hn : xn X = 3) (hz : Z0 X (Ax nu K c u)) (D : Dat) (h : f_X12_region_b81 D = some z) : V X (Q0 X n (Ax nu K c u) (some (.int z.1)) z.2) n (Ax nu K c u) D 81 [(0, .ref (bo X + pp 207))] [] := by
  unfold f_X12_region_b81 at h
  refine v_aload_n (pc := 81) O dX12_region_81 0 rfl ?_
  refine v_iconst (pc := 82) O dX12_region_82 ic_4 ?_
  obtain ⟨p5, e6, h⟩ := bind_some h
  refine v_callV (pc := 83) (a := 207) (As := [.int 4]) (rest := []) (r := (some (.int p5.1))) (D' := p5.2) O (bb0 hz) (c_X12_fail hm e6) mw_X12_fail im_X12_fail se_X12_fail ml_X12_190 kq_207 (by decide) rfl rfl rfl (by decide) (by decide) (Nat.le_of_ble_eq_true rfl) dX12_region_83 rfl rfl ?_
  obtain rfl := Option.some.inj h
  exact v_iret (pc := 86) O hz dX12_region_86
def f_X12_region_b117 (s0 : Int32) (D : Dat) : Option (Int32 × Dat) :=
  some (s0, D)
set_option maxHeartbeats 4000000 in
theorem w_X12_region_b117 {X : Cx} {n nu c u : Nat} {K : Nat → Nat} {z : Int32 × Dat} (O : Ok X cX12_region RX12 (some .int) 1 22) (hm : wlm (xw X) = true) (hn : xn X = 3) (hz : Z0 X (Ax nu K c u)) (s0 : Int32) (D : Dat) (h : f_X12_region_b117 s0 D = some z) : V X (Q0 X n (Ax nu K c u) (some (.int z.1)) z.2) n (Ax nu K c u) D 117 [] [.int s0] := by
  unfold f_X12_region_b117 at h
  obtain rfl := Option.some.inj h
  exact v_iret (pc := 117) O hz dX12_region_117
def f_X12_region (x1 : Int32) (x2 : Int32) (D : Dat) : Option (Int32 × Dat) :=
  if x2 < (-1) then (f_X12_region_b16 (sI D 207 0 0)) else (if x2 ≤ 63 then (if (dI (sI D 207 0 0) 207 17) = 0 then ((f_X12_fail 2 (sI D 207 0 0)).bind (fun p22 => some (p22.1, p22.2))) else ((f_X12_out x1 (dI (sI D 207 0 0) 207 13) (sI D 207 0 0)).bind (fun p10 => if p10.1 = 0 then (if x2 < (dI p10.2 207 13) then (if x1 < 0 ∨ 64 ≤ (x1).toNatClampNeg then none else (if (dI p10.2 212 (x1).toNatClampNeg) = 11 then (if x1 < 0 ∨ 64 ≤ (x1).toNatClampNeg then none else (if 0 ≤ (dI p10.2 245 (x1).toNatClampNeg) then (if 0 ≤ x2 then (if (((64 : Int32) * x1) + x2) < 0 ∨ 4096 ≤ ((((64 : Int32) * x1) + x2)).toNatClampNeg then none else (if (dI p10.2 248 (((64 : Int32) * x1) + x2).toNatClampNeg) = 0 then (f_X12_region_b117 0 p10.2) else (f_X12_region_b117 1 p10.2))) else (if x1 < 0 ∨ 64 ≤ (x1).toNatClampNeg then none else (some ((dI p10.2 247 (x1).toNatClampNeg), p10.2)))) else (f_X12_region_b81 p10.2))) else (f_X12_region_b81 p10.2))) else (f_X12_region_b55 p10.2)) else (f_X12_region_b55 p10.2)))) else (f_X12_region_b16 (sI D 207 0 0)))
set_option maxHeartbeats 4000000 in
theorem w_X12_region {X : Cx} {n nu c u : Nat} {K : Nat → Nat} {z : Int32 × Dat} (O : Ok X cX12_region RX12 (some .int) 1 22) (hm : wlm (xw X) = true) (hn : xn X = 3) (hz : Z0 X (Ax nu K c u)) (x1 : Int32) (x2 : Int32) (D : Dat) (h : f_X12_region x1 x2 D = some z) : V X (Q0 X n (Ax nu K c u) (some (.int z.1)) z.2) n (Ax nu K c u) D 0 [(0, .ref (bo X + pp 207)), (1, .int x1), (2, .int x2)] [] := by
  unfold f_X12_region at h
  refine v_aload_n (pc := 0) O dX12_region_0 0 rfl ?_
  refine v_iconst (pc := 1) O dX12_region_1 ic_0 ?_
  refine v_putI (pc := 2) (a := 207) O pf_X12_0 fl_X12_183 kq_207 dX12_region_2 ?_
  refine v_iload_n (pc := 5) O dX12_region_5 2 rfl ?_
  refine v_iconst (pc := 6) O dX12_region_6 ic_m1 ?_
  refine v_icmplt (pc := 7) 16 O dX12_region_7 (by decide) (fun c7 => ?_) (fun c7 => ?_)
  · have h := (if_pos c7).symm.trans h
    refine v_sub [0] rfl ?_
    exact w_X12_region_b16 O hm hn hz (sI D 207 0 0) h
  · have h := (if_neg c7).symm.trans h
    refine v_iload_n (pc := 10) O dX12_region_10 2 rfl ?_
    refine v_bipush (pc := 11) O dX12_region_11 bp_63 ?_
    refine v_icmple (pc := 13) 22 O dX12_region_13 (by decide) (fun c8 => ?_) (fun c8 => ?_)
    · have h := (if_pos c8).symm.trans h
      refine v_aload_n (pc := 22) O dX12_region_22 0 rfl ?_
      refine v_getI (pc := 23) (a := 207) O gf_X12_17 fl_X12_412 kq_207 dX12_region_23 ?_
      refine v_ifne (pc := 26) 35 O dX12_region_26 (by decide) (fun c9 => ?_) (fun c9 => ?_)
      · have h := (if_neg c9).symm.trans h
        refine v_aload_n (pc := 35) O dX12_region_35 0 rfl ?_
        refine v_iload_n (pc := 36) O dX12_region_36 1 rfl ?_
        refine v_aload_n (pc := 37) O dX12_region_37 0 rfl ?_
        refine v_getI (pc := 38) (a := 207) O gf_X12_13 fl_X12_406 kq_207 dX12_region_38 ?_
        obtain ⟨p10, e11, h⟩ := bind_some h
        refine v_callV (pc := 41) (a := 207) (As := [.int x1, .int (dI (sI D 207 0 0) 207 13)]) (rest := []) (r := (some (.int p10.1))) (D' := p10.2) O (bb0 hz) (c_X12_out hm e11) mw_X12_out im_X12_out se_X12_out ml_X12_186 kq_207 (by decide) rfl rfl rfl (by decide) (by decide) (Nat.le_of_ble_eq_true rfl) dX12_region_41 rfl rfl ?_
        refine v_ifne (pc := 44) 55 O dX12_region_44 (by decide) (fun c12 => ?_) (fun c12 => ?_)
        · have h := (if_neg c12).symm.trans h
          refine v_sub [0] rfl ?_
          exact w_X12_region_b55 O hm hn hz p10.2 h
        · have h := (if_pos c12).symm.trans h
          refine v_iload_n (pc := 47) O dX12_region_47 2 rfl ?_
          refine v_aload_n (pc := 48) O dX12_region_48 0 rfl ?_
          refine v_getI (pc := 49) (a := 207) O gf_X12_13 fl_X12_406 kq_207 dX12_region_49 ?_
          refine v_icmplt (pc := 52) 61 O dX12_region_52 (by decide) (fun c13 => ?_) (fun c13 => ?_)
          · have h := (if_pos c13).symm.trans h
            refine v_aload_n (pc := 61) O dX12_region_61 0 rfl ?_
            refine v_getK (pc := 62) (a := 207) O hm gf_X12_11 fl_X12_30 kq_207 lk_207_11 dX12_region_62 ?_
            refine v_iload_n (pc := 65) O dX12_region_65 1 rfl ?_
            obtain ⟨c14, h⟩ := or_none h
            refine v_iald (pc := 66) (a := 212) O kq_212 (inq lq_212 c14) dX12_region_66 ?_
            refine v_bipush (pc := 67) O dX12_region_67 bp_11 ?_
            refine v_icmpne (pc := 69) 81 O dX12_region_69 (by decide) (fun c15 => ?_) (fun c15 => ?_)
            · have h := (if_neg c15).symm.trans h
              refine v_sub [0] rfl ?_
              exact w_X12_region_b81 O hm hn hz p10.2 h
            · have h := (if_pos c15).symm.trans h
              refine v_aload_n (pc := 72) O dX12_region_72 0 rfl ?_
              refine v_getK (pc := 73) (a := 207) O hm gf_X12_65 fl_X12_129 kq_207 lk_207_65 dX12_region_73 ?_
              refine v_iload_n (pc := 76) O dX12_region_76 1 rfl ?_
              obtain ⟨c16, h⟩ := or_none h
              refine v_iald (pc := 77) (a := 245) O kq_245 (inq lq_245 c16) dX12_region_77 ?_
              refine v_ifge (pc := 78) 87 O dX12_region_78 (by decide) (fun c17 => ?_) (fun c17 => ?_)
              · have h := (if_pos c17).symm.trans h
                refine v_iload_n (pc := 87) O dX12_region_87 2 rfl ?_
                refine v_ifge (pc := 88) 98 O dX12_region_88 (by decide) (fun c18 => ?_) (fun c18 => ?_)
                · have h := (if_pos c18).symm.trans h
                  refine v_aload_n (pc := 98) O dX12_region_98 0 rfl ?_
                  refine v_getK (pc := 99) (a := 207) O hm gf_X12_68 fl_X12_138 kq_207 lk_207_68 dX12_region_99 ?_
                  refine v_bipush (pc := 102) O dX12_region_102 bp_64 ?_
                  refine v_iload_n (pc := 104) O dX12_region_104 1 rfl ?_
                  refine v_imul (pc := 105) O dX12_region_105 ?_
                  refine v_iload_n (pc := 106) O dX12_region_106 2 rfl ?_
                  refine v_iadd (pc := 107) O dX12_region_107 ?_
                  obtain ⟨c19, h⟩ := or_none h
                  refine v_zald (pc := 108) (a := 248) O kq_248 (inq lq_248 c19) dX12_region_108 ?_
                  refine v_ifeq (pc := 109) 116 O dX12_region_109 (by decide) (fun c20 => ?_) (fun c20 => ?_)
                  · have h := (if_pos c20).symm.trans h
                    refine v_iconst (pc := 116) O dX12_region_116 ic_0 ?_
                    refine v_sub [] rfl ?_
                    exact w_X12_region_b117 O hm hn hz 0 p10.2 h
                  · have h := (if_neg c20).symm.trans h
                    refine v_iconst (pc := 112) O dX12_region_112 ic_1 ?_
                    refine v_goto (pc := 113) 117 O dX12_region_113 (by decide) ?_
                    refine v_sub [] rfl ?_
                    exact w_X12_region_b117 O hm hn hz 1 p10.2 h
                · have h := (if_neg c18).symm.trans h
                  refine v_aload_n (pc := 91) O dX12_region_91 0 rfl ?_
                  refine v_getK (pc := 92) (a := 207) O hm gf_X12_67 fl_X12_135 kq_207 lk_207_67 dX12_region_92 ?_
                  refine v_iload_n (pc := 95) O dX12_region_95 1 rfl ?_
                  obtain ⟨c21, h⟩ := or_none h
                  refine v_iald (pc := 96) (a := 247) O kq_247 (inq lq_247 c21) dX12_region_96 ?_
                  obtain rfl := Option.some.inj h
                  exact v_iret (pc := 97) O hz dX12_region_97
              · have h := (if_neg c17).symm.trans h
                refine v_sub [0] rfl ?_
                exact w_X12_region_b81 O hm hn hz p10.2 h
          · have h := (if_neg c13).symm.trans h
            refine v_sub [0] rfl ?_
            exact w_X12_region_b55 O hm hn hz p10.2 h
      · have h := (if_pos c9).symm.trans h
        refine v_aload_n (pc := 29) O dX12_region_29 0 rfl ?_
        refine v_iconst (pc := 30) O dX12_region_30 ic_2 ?_
        obtain ⟨p22, e23, h⟩ := bind_some h
        refine v_callV (pc := 31) (a := 207) (As := [.int 2]) (rest := []) (r := (some (.int p22.1))) (D' := p22.2) O (bb0 hz) (c_X12_fail hm e23) mw_X12_fail im_X12_fail se_X12_fail ml_X12_190 kq_207 (by decide) rfl rfl rfl (by decide) (by decide) (Nat.le_of_ble_eq_true rfl) dX12_region_31 rfl rfl ?_
        obtain rfl := Option.some.inj h
        exact v_iret (pc := 34) O hz dX12_region_34
    · have h := (if_neg c8).symm.trans h
      refine v_sub [0] rfl ?_
      exact w_X12_region_b16 O hm hn hz (sI D 207 0 0) h
theorem c_X12_region {l : Launch} {w : Wx} {n nu c u : Nat} {K : Nat → Nat} (hm : wlm w = true) {x1 : Int32} {x2 : Int32} {D : Dat} {z : Int32 × Dat} (h : f_X12_region x1 x2 D = some z) : C0 l w yX12_region cX12_region 3 (some .int) 1 22 [.ref (wb w + pp 207), .int x1, .int x2] n (Ax nu K c u) D (some (.int z.1)) z.2 :=
  C0.of (by decide) (Nat.le_of_ble_eq_true rfl) (fun X e1 e2 e3 hz O => by
  subst e1
  subst e2
  exact w_X12_region O hm e3 hz x1 x2 D h)
def f_X12_feed (x1 : Int32) (x2 : Int32) (D : Dat) : Option (Int32 × Dat) :=
  (f_X12_out x1 (dI (sI D 207 0 0) 207 1) (sI D 207 0 0)).bind (fun p1 => if p1.1 = 0 then (if x1 < 0 ∨ 6 ≤ (x1).toNatClampNeg then none else (if (dI p1.2 255 (x1).toNatClampNeg) = 20 then ((f_X12_fail 2 p1.2).bind (fun p11 => some (p11.1, p11.2))) else (if x1 < 0 ∨ 6 ≤ (x1).toNatClampNeg then none else (if (((20 : Int32) * x1) + (dI p1.2 255 (x1).toNatClampNeg)) < 0 ∨ 120 ≤ ((((20 : Int32) * x1) + (dI p1.2 255 (x1).toNatClampNeg))).toNatClampNeg then none else (if x1 < 0 ∨ 6 ≤ (x1).toNatClampNeg then none else (if x1 < 0 ∨ 6 ≤ (x1).toNatClampNeg then none else (if x1 < 0 ∨ 6 ≤ (x1).toNatClampNeg then none else (some ((dI (sI (sI p1.2 254 (((20 : Int32) * x1) + (dI p1.2 255 (x1).toNatClampNeg)).toNatClampNeg x2) 255 (x1).toNatClampNeg ((dI (sI p1.2 254 (((20 : Int32) * x1) + (dI p1.2 255 (x1).toNatClampNeg)).toNatClampNeg x2) 255 (x1).toNatClampNeg) + (1 : Int32))) 255 (x1).toNatClampNeg), (sI (sI p1.2 254 (((20 : Int32) * x1) + (dI p1.2 255 (x1).toNatClampNeg)).toNatClampNeg x2) 255 (x1).toNatClampNeg ((dI (sI p1.2 254 (((20 : Int32) * x1) + (dI p1.2 255 (x1).toNatClampNeg)).toNatClampNeg x2) 255 (x1).toNatClampNeg) + (1 : Int32)))))))))))) else ((f_X12_fail 1 p1.2).bind (fun p13 => some (p13.1, p13.2))))
set_option maxHeartbeats 4000000 in
theorem w_X12_feed {X : Cx} {n nu c u : Nat} {K : Nat → Nat} {z : Int32 × Dat} (O : Ok X cX12_feed RX12 (some .int) 1 22) (hm : wlm (xw X) = true) (hn : xn X = 3) (hz : Z0 X (Ax nu K c u)) (x1 : Int32) (x2 : Int32) (D : Dat) (h : f_X12_feed x1 x2 D = some z) : V X (Q0 X n (Ax nu K c u) (some (.int z.1)) z.2) n (Ax nu K c u) D 0 [(0, .ref (bo X + pp 207)), (1, .int x1), (2, .int x2)] [] := by
  unfold f_X12_feed at h
  refine v_aload_n (pc := 0) O dX12_feed_0 0 rfl ?_
  refine v_iconst (pc := 1) O dX12_feed_1 ic_0 ?_
  refine v_putI (pc := 2) (a := 207) O pf_X12_0 fl_X12_183 kq_207 dX12_feed_2 ?_
  refine v_aload_n (pc := 5) O dX12_feed_5 0 rfl ?_
  refine v_iload_n (pc := 6) O dX12_feed_6 1 rfl ?_
  refine v_aload_n (pc := 7) O dX12_feed_7 0 rfl ?_
  refine v_getI (pc := 8) (a := 207) O gf_X12_1 fl_X12_180 kq_207 dX12_feed_8 ?_
  obtain ⟨p1, e2, h⟩ := bind_some h
  refine v_callV (pc := 11) (a := 207) (As := [.int x1, .int (dI (sI D 207 0 0) 207 1)]) (rest := []) (r := (some (.int p1.1))) (D' := p1.2) O (bb0 hz) (c_X12_out hm e2) mw_X12_out im_X12_out se_X12_out ml_X12_186 kq_207 (by decide) rfl rfl rfl (by decide) (by decide) (Nat.le_of_ble_eq_true rfl) dX12_feed_11 rfl rfl ?_
  refine v_ifeq (pc := 14) 23 O dX12_feed_14 (by decide) (fun c3 => ?_) (fun c3 => ?_)
  · have h := (if_pos c3).symm.trans h
    refine v_aload_n (pc := 23) O dX12_feed_23 0 rfl ?_
    refine v_getK (pc := 24) (a := 207) O hm gf_X12_75 fl_X12_159 kq_207 lk_207_75 dX12_feed_24 ?_
    refine v_iload_n (pc := 27) O dX12_feed_27 1 rfl ?_
    obtain ⟨c4, h⟩ := or_none h
    refine v_iald (pc := 28) (a := 255) O kq_255 (inq lq_255 c4) dX12_feed_28 ?_
    refine v_bipush (pc := 29) O dX12_feed_29 bp_20 ?_
    refine v_icmpne (pc := 31) 40 O dX12_feed_31 (by decide) (fun c5 => ?_) (fun c5 => ?_)
    · have h := (if_neg c5).symm.trans h
      refine v_aload_n (pc := 40) O dX12_feed_40 0 rfl ?_
      refine v_getK (pc := 41) (a := 207) O hm gf_X12_74 fl_X12_156 kq_207 lk_207_74 dX12_feed_41 ?_
      refine v_bipush (pc := 44) O dX12_feed_44 bp_20 ?_
      refine v_iload_n (pc := 46) O dX12_feed_46 1 rfl ?_
      refine v_imul (pc := 47) O dX12_feed_47 ?_
      refine v_aload_n (pc := 48) O dX12_feed_48 0 rfl ?_
      refine v_getK (pc := 49) (a := 207) O hm gf_X12_75 fl_X12_159 kq_207 lk_207_75 dX12_feed_49 ?_
      refine v_iload_n (pc := 52) O dX12_feed_52 1 rfl ?_
      obtain ⟨c6, h⟩ := or_none h
      refine v_iald (pc := 53) (a := 255) O kq_255 (inq lq_255 c6) dX12_feed_53 ?_
      refine v_iadd (pc := 54) O dX12_feed_54 ?_
      refine v_iload_n (pc := 55) O dX12_feed_55 2 rfl ?_
      obtain ⟨c7, h⟩ := or_none h
      refine v_iast (pc := 56) (a := 254) O kq_254 (inq lq_254 c7) dX12_feed_56 ?_
      refine v_aload_n (pc := 57) O dX12_feed_57 0 rfl ?_
      refine v_getK (pc := 58) (a := 207) O hm gf_X12_75 fl_X12_159 kq_207 lk_207_75 dX12_feed_58 ?_
      refine v_iload_n (pc := 61) O dX12_feed_61 1 rfl ?_
      refine v_dup2 (pc := 62) O dX12_feed_62 rfl rfl ?_
      obtain ⟨c8, h⟩ := or_none h
      refine v_iald (pc := 63) (a := 255) O kq_255 (inq lq_255 c8) dX12_feed_63 ?_
      refine v_iconst (pc := 64) O dX12_feed_64 ic_1 ?_
      refine v_iadd (pc := 65) O dX12_feed_65 ?_
      obtain ⟨c9, h⟩ := or_none h
      refine v_iast (pc := 66) (a := 255) O kq_255 (inq lq_255 c9) dX12_feed_66 ?_
      refine v_aload_n (pc := 67) O dX12_feed_67 0 rfl ?_
      refine v_getK (pc := 68) (a := 207) O hm gf_X12_75 fl_X12_159 kq_207 lk_207_75 dX12_feed_68 ?_
      refine v_iload_n (pc := 71) O dX12_feed_71 1 rfl ?_
      obtain ⟨c10, h⟩ := or_none h
      refine v_iald (pc := 72) (a := 255) O kq_255 (inq lq_255 c10) dX12_feed_72 ?_
      obtain rfl := Option.some.inj h
      exact v_iret (pc := 73) O hz dX12_feed_73
    · have h := (if_pos c5).symm.trans h
      refine v_aload_n (pc := 34) O dX12_feed_34 0 rfl ?_
      refine v_iconst (pc := 35) O dX12_feed_35 ic_2 ?_
      obtain ⟨p11, e12, h⟩ := bind_some h
      refine v_callV (pc := 36) (a := 207) (As := [.int 2]) (rest := []) (r := (some (.int p11.1))) (D' := p11.2) O (bb0 hz) (c_X12_fail hm e12) mw_X12_fail im_X12_fail se_X12_fail ml_X12_190 kq_207 (by decide) rfl rfl rfl (by decide) (by decide) (Nat.le_of_ble_eq_true rfl) dX12_feed_36 rfl rfl ?_
      obtain rfl := Option.some.inj h
      exact v_iret (pc := 39) O hz dX12_feed_39
  · have h := (if_neg c3).symm.trans h
    refine v_aload_n (pc := 17) O dX12_feed_17 0 rfl ?_
    refine v_iconst (pc := 18) O dX12_feed_18 ic_1 ?_
    obtain ⟨p13, e14, h⟩ := bind_some h
    refine v_callV (pc := 19) (a := 207) (As := [.int 1]) (rest := []) (r := (some (.int p13.1))) (D' := p13.2) O (bb0 hz) (c_X12_fail hm e14) mw_X12_fail im_X12_fail se_X12_fail ml_X12_190 kq_207 (by decide) rfl rfl rfl (by decide) (by decide) (Nat.le_of_ble_eq_true rfl) dX12_feed_19 rfl rfl ?_
    obtain rfl := Option.some.inj h
    exact v_iret (pc := 22) O hz dX12_feed_22
theorem c_X12_feed {l : Launch} {w : Wx} {n nu c u : Nat} {K : Nat → Nat} (hm : wlm w = true) {x1 : Int32} {x2 : Int32} {D : Dat} {z : Int32 × Dat} (h : f_X12_feed x1 x2 D = some z) : C0 l w yX12_feed cX12_feed 3 (some .int) 1 22 [.ref (wb w + pp 207), .int x1, .int x2] n (Ax nu K c u) D (some (.int z.1)) z.2 :=
  C0.of (by decide) (Nat.le_of_ble_eq_true rfl) (fun X e1 e2 e3 hz O => by
  subst e1
  subst e2
  exact w_X12_feed O hm e3 hz x1 x2 D h)
def f_X12_drain (x1 : Int32) (D : Dat) : Option (Int32 × Dat) :=
  (f_X12_out x1 (dI (sI D 207 0 0) 207 1) (sI D 207 0 0)).bind (fun p1 => if p1.1 = 0 then (if x1 < 0 ∨ 6 ≤ (x1).toNatClampNeg then none else (if x1 < 0 ∨ 6 ≤ (x1).toNatClampNeg then none else (some ((dI p1.2 255 (x1).toNatClampNeg), (sI p1.2 255 (x1).toNatClampNeg 0))))) else ((f_X12_fail 1 p1.2).bind (fun p6 => some (p6.1, p6.2))))
set_option maxHeartbeats 4000000 in
theorem w_X12_drain {X : Cx} {n nu c u : Nat} {K : Nat → Nat} {z : Int32 × Dat} (O : Ok X cX12_drain RX12 (some .int) 1 22) (hm : wlm (xw X) = true) (hn : xn X = 3) (hz : Z0 X (Ax nu K c u)) (x1 : Int32) (D : Dat) (h : f_X12_drain x1 D = some z) : V X (Q0 X n (Ax nu K c u) (some (.int z.1)) z.2) n (Ax nu K c u) D 0 [(0, .ref (bo X + pp 207)), (1, .int x1)] [] := by
  unfold f_X12_drain at h
  refine v_aload_n (pc := 0) O dX12_drain_0 0 rfl ?_
  refine v_iconst (pc := 1) O dX12_drain_1 ic_0 ?_
  refine v_putI (pc := 2) (a := 207) O pf_X12_0 fl_X12_183 kq_207 dX12_drain_2 ?_
  refine v_aload_n (pc := 5) O dX12_drain_5 0 rfl ?_
  refine v_iload_n (pc := 6) O dX12_drain_6 1 rfl ?_
  refine v_aload_n (pc := 7) O dX12_drain_7 0 rfl ?_
  refine v_getI (pc := 8) (a := 207) O gf_X12_1 fl_X12_180 kq_207 dX12_drain_8 ?_
  obtain ⟨p1, e2, h⟩ := bind_some h
  refine v_callV (pc := 11) (a := 207) (As := [.int x1, .int (dI (sI D 207 0 0) 207 1)]) (rest := []) (r := (some (.int p1.1))) (D' := p1.2) O (bb0 hz) (c_X12_out hm e2) mw_X12_out im_X12_out se_X12_out ml_X12_186 kq_207 (by decide) rfl rfl rfl (by decide) (by decide) (Nat.le_of_ble_eq_true rfl) dX12_drain_11 rfl rfl ?_
  refine v_ifeq (pc := 14) 23 O dX12_drain_14 (by decide) (fun c3 => ?_) (fun c3 => ?_)
  · have h := (if_pos c3).symm.trans h
    refine v_aload_n (pc := 23) O dX12_drain_23 0 rfl ?_
    refine v_getK (pc := 24) (a := 207) O hm gf_X12_75 fl_X12_159 kq_207 lk_207_75 dX12_drain_24 ?_
    refine v_iload_n (pc := 27) O dX12_drain_27 1 rfl ?_
    obtain ⟨c4, h⟩ := or_none h
    refine v_iald (pc := 28) (a := 255) O kq_255 (inq lq_255 c4) dX12_drain_28 ?_
    refine v_istore_n (pc := 29) (lv' := [(2, .int (dI p1.2 255 (x1).toNatClampNeg)), (0, .ref (bo X + pp 207)), (1, .int x1)]) O dX12_drain_29 rfl (by rw [hn]; decide) rfl ?_
    refine v_aload_n (pc := 30) O dX12_drain_30 1 rfl ?_
    refine v_getK (pc := 31) (a := 207) O hm gf_X12_75 fl_X12_159 kq_207 lk_207_75 dX12_drain_31 ?_
    refine v_iload_n (pc := 34) O dX12_drain_34 2 rfl ?_
    refine v_iconst (pc := 35) O dX12_drain_35 ic_0 ?_
    obtain ⟨c5, h⟩ := or_none h
    refine v_iast (pc := 36) (a := 255) O kq_255 (inq lq_255 c5) dX12_drain_36 ?_
    refine v_iload_n (pc := 37) O dX12_drain_37 0 rfl ?_
    obtain rfl := Option.some.inj h
    exact v_iret (pc := 38) O hz dX12_drain_38
  · have h := (if_neg c3).symm.trans h
    refine v_aload_n (pc := 17) O dX12_drain_17 0 rfl ?_
    refine v_iconst (pc := 18) O dX12_drain_18 ic_1 ?_
    obtain ⟨p6, e7, h⟩ := bind_some h
    refine v_callV (pc := 19) (a := 207) (As := [.int 1]) (rest := []) (r := (some (.int p6.1))) (D' := p6.2) O (bb0 hz) (c_X12_fail hm e7) mw_X12_fail im_X12_fail se_X12_fail ml_X12_190 kq_207 (by decide) rfl rfl rfl (by decide) (by decide) (Nat.le_of_ble_eq_true rfl) dX12_drain_19 rfl rfl ?_
    obtain rfl := Option.some.inj h
    exact v_iret (pc := 22) O hz dX12_drain_22
theorem c_X12_drain {l : Launch} {w : Wx} {n nu c u : Nat} {K : Nat → Nat} (hm : wlm w = true) {x1 : Int32} {D : Dat} {z : Int32 × Dat} (h : f_X12_drain x1 D = some z) : C0 l w yX12_drain cX12_drain 3 (some .int) 1 22 [.ref (wb w + pp 207), .int x1] n (Ax nu K c u) D (some (.int z.1)) z.2 :=
  C0.of (by decide) (Nat.le_of_ble_eq_true rfl) (fun X e1 e2 e3 hz O => by
  subst e1
  subst e2
  exact w_X12_drain O hm e3 hz x1 D h)
def f_X12_begin_b45 (N : Nat) : Nat → Int32 → Dat → Option (Dat)
  | 0, _, _ => none
  | g + 1, x1, D => if 6 ≤ x1 then (some (sI (sI (sI D 207 82 0) 207 83 0) 207 84 (-1))) else (if x1 < 0 ∨ 6 ≤ (x1).toNatClampNeg then none else (if x1 < 0 ∨ 6 ≤ (x1).toNatClampNeg then none else ((f_X12_begin_b45 N g) (x1 + 1) (sI (sI D 256 (x1).toNatClampNeg 0) 258 (x1).toNatClampNeg 0))))
set_option maxHeartbeats 4000000 in
theorem w_X12_begin_b45 {X : Cx} {n nu c u : Nat} {K : Nat → Nat} {N : Nat} {z : Dat} (O : Ok X cX12_begin RX12 none 0 0) (hm : wlm (xw X) = true) (hn : xn X = 2) (hz : Z0 X (Ax nu K c u)) : ∀ (g : Nat) (x1 : Int32) (D : Dat), f_X12_begin_b45 N g x1 D = some z → V X (Q0 X n (Ax nu K c u) none z) n (Ax nu K c u) D 45 [(0, .ref (bo X + pp 207)), (1, .int x1)] [] := by
  intro g
  induction g with
  | zero => intro x1 D h; exact absurd h (by simp [f_X12_begin_b45])
  | succ g ih =>
    intro x1 D h
    rw [f_X12_begin_b45] at h
    refine v_iload_n (pc := 45) O dX12_begin_45 1 rfl ?_
    refine v_bipush (pc := 46) O dX12_begin_46 bp_6 ?_
    refine v_icmpge (pc := 48) 71 O dX12_begin_48 (by decide) (fun c1 => ?_) (fun c1 => ?_)
    · have h := (if_pos c1).symm.trans h
      refine v_aload_n (pc := 71) O dX12_begin_71 0 rfl ?_
      refine v_iconst (pc := 72) O dX12_begin_72 ic_0 ?_
      refine v_putI (pc := 73) (a := 207) O pf_X12_82 fl_X12_469 kq_207 dX12_begin_73 ?_
      refine v_aload_n (pc := 76) O dX12_begin_76 0 rfl ?_
      refine v_iconst (pc := 77) O dX12_begin_77 ic_0 ?_
      refine v_putI (pc := 78) (a := 207) O pf_X12_83 fl_X12_472 kq_207 dX12_begin_78 ?_
      refine v_aload_n (pc := 81) O dX12_begin_81 0 rfl ?_
      refine v_iconst (pc := 82) O dX12_begin_82 ic_m1 ?_
      refine v_putI (pc := 83) (a := 207) O pf_X12_84 fl_X12_475 kq_207 dX12_begin_83 ?_
      obtain rfl := Option.some.inj h
      exact v_ret (pc := 86) O hz dX12_begin_86
    · have h := (if_neg c1).symm.trans h
      refine v_aload_n (pc := 51) O dX12_begin_51 0 rfl ?_
      refine v_getK (pc := 52) (a := 207) O hm gf_X12_76 fl_X12_162 kq_207 lk_207_76 dX12_begin_52 ?_
      refine v_iload_n (pc := 55) O dX12_begin_55 1 rfl ?_
      refine v_iconst (pc := 56) O dX12_begin_56 ic_0 ?_
      obtain ⟨c2, h⟩ := or_none h
      refine v_iast (pc := 57) (a := 256) O kq_256 (inq lq_256 c2) dX12_begin_57 ?_
      refine v_aload_n (pc := 58) O dX12_begin_58 0 rfl ?_
      refine v_getK (pc := 59) (a := 207) O hm gf_X12_78 fl_X12_168 kq_207 lk_207_78 dX12_begin_59 ?_
      refine v_iload_n (pc := 62) O dX12_begin_62 1 rfl ?_
      refine v_iconst (pc := 63) O dX12_begin_63 ic_0 ?_
      obtain ⟨c3, h⟩ := or_none h
      refine v_iast (pc := 64) (a := 258) O kq_258 (inq lq_258 c3) dX12_begin_64 ?_
      refine v_iinc (pc := 65) (lv' := [(1, .int (x1 + 1)), (0, .ref (bo X + pp 207))]) O dX12_begin_65 1 rfl (congrArg (fun q => x1 + q) ic_1) (by rw [hn]; decide) rfl ?_
      refine v_goto (pc := 68) 45 O dX12_begin_68 (by decide) ?_
      refine v_sub [1, 0] rfl ?_
      exact ih (x1 + 1) (sI (sI D 256 (x1).toNatClampNeg 0) 258 (x1).toNatClampNeg 0) h
def f_X12_begin_b23 (N : Nat) : Nat → Int32 → Dat → Option (Dat)
  | 0, _, _ => none
  | g + 1, x1, D => if 208 ≤ x1 then (f_X12_begin_b45 N N 0 D) else (if x1 < 0 ∨ 208 ≤ (x1).toNatClampNeg then none else ((f_X12_begin_b23 N g) (x1 + 1) (sI D 260 (x1).toNatClampNeg 0)))
set_option maxHeartbeats 4000000 in
theorem w_X12_begin_b23 {X : Cx} {n nu c u : Nat} {K : Nat → Nat} {N : Nat} {z : Dat} (O : Ok X cX12_begin RX12 none 0 0) (hm : wlm (xw X) = true) (hn : xn X = 2) (hz : Z0 X (Ax nu K c u)) : ∀ (g : Nat) (x1 : Int32) (D : Dat), f_X12_begin_b23 N g x1 D = some z → V X (Q0 X n (Ax nu K c u) none z) n (Ax nu K c u) D 23 [(0, .ref (bo X + pp 207)), (1, .int x1)] [] := by
  intro g
  induction g with
  | zero => intro x1 D h; exact absurd h (by simp [f_X12_begin_b23])
  | succ g ih =>
    intro x1 D h
    rw [f_X12_begin_b23] at h
    refine v_iload_n (pc := 23) O dX12_begin_23 1 rfl ?_
    refine v_sipush (pc := 24) O dX12_begin_24 sp_208 ?_
    refine v_icmpge (pc := 27) 43 O dX12_begin_27 (by decide) (fun c4 => ?_) (fun c4 => ?_)
    · have h := (if_pos c4).symm.trans h
      refine v_iconst (pc := 43) O dX12_begin_43 ic_0 ?_
      refine v_istore_n (pc := 44) (lv' := [(1, .int 0), (0, .ref (bo X + pp 207))]) O dX12_begin_44 rfl (by rw [hn]; decide) rfl ?_
      refine v_sub [1, 0] rfl ?_
      exact w_X12_begin_b45 O hm hn hz N 0 D h
    · have h := (if_neg c4).symm.trans h
      refine v_aload_n (pc := 30) O dX12_begin_30 0 rfl ?_
      refine v_getK (pc := 31) (a := 207) O hm gf_X12_80 fl_X12_174 kq_207 lk_207_80 dX12_begin_31 ?_
      refine v_iload_n (pc := 34) O dX12_begin_34 1 rfl ?_
      refine v_iconst (pc := 35) O dX12_begin_35 ic_0 ?_
      obtain ⟨c5, h⟩ := or_none h
      refine v_iast (pc := 36) (a := 260) O kq_260 (inq lq_260 c5) dX12_begin_36 ?_
      refine v_iinc (pc := 37) (lv' := [(1, .int (x1 + 1)), (0, .ref (bo X + pp 207))]) O dX12_begin_37 1 rfl (congrArg (fun q => x1 + q) ic_1) (by rw [hn]; decide) rfl ?_
      refine v_goto (pc := 40) 23 O dX12_begin_40 (by decide) ?_
      refine v_sub [1, 0] rfl ?_
      exact ih (x1 + 1) (sI D 260 (x1).toNatClampNeg 0) h
def f_X12_begin_b2 (N : Nat) : Nat → Int32 → Dat → Option (Dat)
  | 0, _, _ => none
  | g + 1, x1, D => if 26 ≤ x1 then (f_X12_begin_b23 N N 0 D) else (if x1 < 0 ∨ 26 ≤ (x1).toNatClampNeg then none else ((f_X12_begin_b2 N g) (x1 + 1) (sI D 259 (x1).toNatClampNeg 0)))
set_option maxHeartbeats 4000000 in
theorem w_X12_begin_b2 {X : Cx} {n nu c u : Nat} {K : Nat → Nat} {N : Nat} {z : Dat} (O : Ok X cX12_begin RX12 none 0 0) (hm : wlm (xw X) = true) (hn : xn X = 2) (hz : Z0 X (Ax nu K c u)) : ∀ (g : Nat) (x1 : Int32) (D : Dat), f_X12_begin_b2 N g x1 D = some z → V X (Q0 X n (Ax nu K c u) none z) n (Ax nu K c u) D 2 [(0, .ref (bo X + pp 207)), (1, .int x1)] [] := by
  intro g
  induction g with
  | zero => intro x1 D h; exact absurd h (by simp [f_X12_begin_b2])
  | succ g ih =>
    intro x1 D h
    rw [f_X12_begin_b2] at h
    refine v_iload_n (pc := 2) O dX12_begin_2 1 rfl ?_
    refine v_bipush (pc := 3) O dX12_begin_3 bp_26 ?_
    refine v_icmpge (pc := 5) 21 O dX12_begin_5 (by decide) (fun c6 => ?_) (fun c6 => ?_)
    · have h := (if_pos c6).symm.trans h
      refine v_iconst (pc := 21) O dX12_begin_21 ic_0 ?_
      refine v_istore_n (pc := 22) (lv' := [(1, .int 0), (0, .ref (bo X + pp 207))]) O dX12_begin_22 rfl (by rw [hn]; decide) rfl ?_
      refine v_sub [1, 0] rfl ?_
      exact w_X12_begin_b23 O hm hn hz N 0 D h
    · have h := (if_neg c6).symm.trans h
      refine v_aload_n (pc := 8) O dX12_begin_8 0 rfl ?_
      refine v_getK (pc := 9) (a := 207) O hm gf_X12_79 fl_X12_171 kq_207 lk_207_79 dX12_begin_9 ?_
      refine v_iload_n (pc := 12) O dX12_begin_12 1 rfl ?_
      refine v_iconst (pc := 13) O dX12_begin_13 ic_0 ?_
      obtain ⟨c7, h⟩ := or_none h
      refine v_iast (pc := 14) (a := 259) O kq_259 (inq lq_259 c7) dX12_begin_14 ?_
      refine v_iinc (pc := 15) (lv' := [(1, .int (x1 + 1)), (0, .ref (bo X + pp 207))]) O dX12_begin_15 1 rfl (congrArg (fun q => x1 + q) ic_1) (by rw [hn]; decide) rfl ?_
      refine v_goto (pc := 18) 2 O dX12_begin_18 (by decide) ?_
      refine v_sub [1, 0] rfl ?_
      exact ih (x1 + 1) (sI D 259 (x1).toNatClampNeg 0) h
def f_X12_begin (N : Nat) (D : Dat) : Option (Dat) :=
  f_X12_begin_b2 N N 0 D
set_option maxHeartbeats 4000000 in
theorem w_X12_begin {X : Cx} {n nu c u : Nat} {K : Nat → Nat} {N : Nat} {z : Dat} (O : Ok X cX12_begin RX12 none 0 0) (hm : wlm (xw X) = true) (hn : xn X = 2) (hz : Z0 X (Ax nu K c u)) (D : Dat) (h : f_X12_begin N D = some z) : V X (Q0 X n (Ax nu K c u) none z) n (Ax nu K c u) D 0 [(0, .ref (bo X + pp 207))] [] := by
  unfold f_X12_begin at h
  refine v_iconst (pc := 0) O dX12_begin_0 ic_0 ?_
  refine v_istore_n (pc := 1) (lv' := [(1, .int 0), (0, .ref (bo X + pp 207))]) O dX12_begin_1 rfl (by rw [hn]; decide) rfl ?_
  refine v_sub [1, 0] rfl ?_
  exact w_X12_begin_b2 O hm hn hz N 0 D h
theorem c_X12_begin {l : Launch} {w : Wx} {n nu c u : Nat} {K : Nat → Nat} {N : Nat} (hm : wlm w = true) {D : Dat} {z : Dat} (h : f_X12_begin N D = some z) : C0 l w yX12_begin cX12_begin 2 none 0 0 [.ref (wb w + pp 207)] n (Ax nu K c u) D none z :=
  C0.of (by decide) (Nat.le_of_ble_eq_true rfl) (fun X e1 e2 e3 hz O => by
  subst e1
  subst e2
  exact w_X12_begin O hm e3 hz  D h)
