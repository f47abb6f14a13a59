theorem cw_X12_behindOf : Cond.code yX12_behindOf cX12_behindOf 4 none ∈ tb := tb_of 2263 (by decide +kernel) (by decide +kernel)
theorem mw_X12_behindOf : MW yX12_behindOf cX12_behindOf 4 none 1 := ⟨cw_X12_behindOf, ini_X12, by decide +kernel⟩
theorem im_X12_behindOf : Cond.instanceMethod yX12_behindOf ∈ tb := tb_of 2262 (by decide +kernel) (by decide +kernel)
theorem se_X12_behindOf : Cond.selects (yX12_behindOf).cls yX12_behindOf yX12_behindOf ∈ tb := tb_of 144 (by decide +kernel) (by decide +kernel)
theorem ml_X12_442 : Cond.methodLink RX12 442 yX12_behindOf ∈ tb := tb_of 2260 (by decide +kernel) (by decide +kernel)
theorem cw_X12_spread : Cond.code yX12_spread cX12_spread 7 (some .boolean) ∈ tb := tb_of 2259 (by decide +kernel) (by decide +kernel)
theorem mw_X12_spread : MW yX12_spread cX12_spread 7 (some .boolean) 1 := ⟨cw_X12_spread, ini_X12, by decide +kernel⟩
theorem im_X12_spread : Cond.instanceMethod yX12_spread ∈ tb := tb_of 2258 (by decide +kernel) (by decide +kernel)
theorem se_X12_spread : Cond.selects (yX12_spread).cls yX12_spread yX12_spread ∈ tb := tb_of 143 (by decide +kernel) (by decide +kernel)
theorem ml_X12_445 : Cond.methodLink RX12 445 yX12_spread ∈ tb := tb_of 2256 (by decide +kernel) (by decide +kernel)
theorem cw_X12_leastOpen : Cond.code yX12_leastOpen cX12_leastOpen 2 (some .int) ∈ tb := tb_of 2219 (by decide +kernel) (by decide +kernel)
theorem mw_X12_leastOpen : MW yX12_leastOpen cX12_leastOpen 2 (some .int) 0 := ⟨cw_X12_leastOpen, ini_X12, by decide +kernel⟩
theorem im_X12_leastOpen : Cond.instanceMethod yX12_leastOpen ∈ tb := tb_of 2218 (by decide +kernel) (by decide +kernel)
theorem se_X12_leastOpen : Cond.selects (yX12_leastOpen).cls yX12_leastOpen yX12_leastOpen ∈ tb := tb_of 133 (by decide +kernel) (by decide +kernel)
theorem ml_X12_448 : Cond.methodLink RX12 448 yX12_leastOpen ∈ tb := tb_of 2216 (by decide +kernel) (by decide +kernel)
theorem cw_X12_look : Cond.code yX12_look cX12_look 5 (some .int) ∈ tb := tb_of 2223 (by decide +kernel) (by decide +kernel)
theorem mw_X12_look : MW yX12_look cX12_look 5 (some .int) 1 := ⟨cw_X12_look, ini_X12, by decide +kernel⟩
theorem im_X12_look : Cond.instanceMethod yX12_look ∈ tb := tb_of 2222 (by decide +kernel) (by decide +kernel)
theorem se_X12_look : Cond.selects (yX12_look).cls yX12_look yX12_look ∈ tb := tb_of 134 (by decide +kernel) (by decide +kernel)
theorem ml_X12_451 : Cond.methodLink RX12 451 yX12_look ∈ tb := tb_of 2220 (by decide +kernel) (by decide +kernel)
def f_X12_spread_b223 (N : Nat) (rec_153 : Int32 → Int32 → Int32 → Int32 → Dat → Option (Int32 × Dat)) (x1 : Int32) (x2 : Int32) (x3 : Int32) (x4 : Int32) (D : Dat) : Option (Int32 × Dat) :=
  rec_153 x1 x2 x3 (x4 + 1) D
set_option maxHeartbeats 4000000 in
theorem w_X12_spread_b223 {X : Cx} {n nu c u : Nat} {K : Nat → Nat} {N : Nat} {rec_153 : Int32 → Int32 → Int32 → Int32 → Dat → Option (Int32 × Dat)} {z : Int32 × Dat} (O : Ok X cX12_spread RX12 (some .boolean) 3 68) (hm : wlm (xw X) = true) (hn : xn X = 7) (hz : Z0 X (Ax nu K c u)) (hrec_153 : ∀ (x1 : Int32) (x2 : Int32) (x3 : Int32) (x4 : Int32) (D : Dat), rec_153 x1 x2 x3 x4 D = some z → V X (Q0 X n (Ax nu K c u) (some (.int z.1)) z.2) n (Ax nu K c u) D 153 [(0, .ref (bo X + pp 207)), (1, .int x1), (2, .int x2), (3, .int x3), (4, .int x4)] []) (x1 : Int32) (x2 : Int32) (x3 : Int32) (x4 : Int32) (D : Dat) (h : f_X12_spread_b223 N rec_153 x1 x2 x3 x4 D = some z) : V X (Q0 X n (Ax nu K c u) (some (.int z.1)) z.2) n (Ax nu K c u) D 223 [(0, .ref (bo X + pp 207)), (1, .int x1), (2, .int x2), (3, .int x3), (4, .int x4)] [] := by
  unfold f_X12_spread_b223 at h
  refine v_iinc (pc := 223) (lv' := [(4, .int (x4 + 1)), (0, .ref (bo X + pp 207)), (1, .int x1), (2, .int x2), (3, .int x3)]) O dX12_spread_223 4 rfl (congrArg (fun q => x4 + q) ic_1) (by rw [hn]; decide) rfl ?_
  refine v_goto (pc := 226) 153 O dX12_spread_226 (by decide) ?_
  refine v_sub [1, 2, 3, 4, 0] rfl ?_
  exact hrec_153 x1 x2 x3 (x4 + 1) D h
def f_X12_spread_b153 (N : Nat) : Nat → Int32 → Int32 → Int32 → Int32 → Dat → Option (Int32 × Dat)
  | 0, _, _, _, _, _ => none
  | g + 1, x1, x2, x3, x4, D => if (dI D 207 13) ≤ x4 then (if x2 &&& 1 = x2 then some (x2, D) else none) else (if (((64 : Int32) * x1) + x4) < 0 ∨ 4096 ≤ ((((64 : Int32) * x1) + x4)).toNatClampNeg then none else (if (dI D 248 (((64 : Int32) * x1) + x4).toNatClampNeg) = 0 then (f_X12_spread_b223 N (f_X12_spread_b153 N g) x1 x2 x3 x4 D) else (if x4 < 0 ∨ 64 ≤ (x4).toNatClampNeg then none else ((f_X12_join (dI D 249 (x4).toNatClampNeg) x3 D).bind (fun p6 => if x4 < 0 ∨ 64 ≤ (x4).toNatClampNeg then none else (if p6.1 = (dI p6.2 249 (x4).toNatClampNeg) then (f_X12_spread_b223 N (f_X12_spread_b153 N g) x1 x2 x3 x4 p6.2) else (if x4 < 0 ∨ 64 ≤ (x4).toNatClampNeg then none else ((f_X12_join (dI p6.2 249 (x4).toNatClampNeg) x3 p6.2).bind (fun p11 => if x4 < 0 ∨ 64 ≤ (x4).toNatClampNeg then none else (f_X12_spread_b223 N (f_X12_spread_b153 N g) x1 1 x3 x4 (sI p11.2 249 (x4).toNatClampNeg p11.1)))))))))))
set_option maxHeartbeats 4000000 in
theorem w_X12_spread_b153 {X : Cx} {n nu c u : Nat} {K : Nat → Nat} {N : Nat} {z : Int32 × Dat} (O : Ok X cX12_spread RX12 (some .boolean) 3 68) (hm : wlm (xw X) = true) (hn : xn X = 7) (hz : Z0 X (Ax nu K c u)) : ∀ (g : Nat) (x1 : Int32) (x2 : Int32) (x3 : Int32) (x4 : Int32) (D : Dat), f_X12_spread_b153 N g x1 x2 x3 x4 D = some z → V X (Q0 X n (Ax nu K c u) (some (.int z.1)) z.2) n (Ax nu K c u) D 153 [(0, .ref (bo X + pp 207)), (1, .int x1), (2, .int x2), (3, .int x3), (4, .int x4)] [] := by
  intro g
  induction g with
  | zero => intro x1 x2 x3 x4 D h; exact absurd h (by simp [f_X12_spread_b153])
  | succ g ih =>
    intro x1 x2 x3 x4 D h
    rw [f_X12_spread_b153] at h
    refine v_iload (pc := 153) O dX12_spread_153 4 rfl ?_
    refine v_aload_n (pc := 155) O dX12_spread_155 0 rfl ?_
    refine v_getI (pc := 156) (a := 207) O gf_X12_13 fl_X12_406 kq_207 dX12_spread_156 ?_
    refine v_icmpge (pc := 159) 229 O dX12_spread_159 (by decide) (fun c1 => ?_) (fun c1 => ?_)
    · have h := (if_pos c1).symm.trans h
      refine v_iload_n (pc := 229) O dX12_spread_229 2 rfl ?_
      obtain ⟨c2, h⟩ := if_none h
      obtain rfl := Option.some.inj h
      exact v_zret (pc := 230) O hz (congrArg Value.int c2) dX12_spread_230
    · have h := (if_neg c1).symm.trans h
      refine v_aload_n (pc := 162) O dX12_spread_162 0 rfl ?_
      refine v_getK (pc := 163) (a := 207) O hm gf_X12_68 fl_X12_138 kq_207 lk_207_68 dX12_spread_163 ?_
      refine v_bipush (pc := 166) O dX12_spread_166 bp_64 ?_
      refine v_iload_n (pc := 168) O dX12_spread_168 1 rfl ?_
      refine v_imul (pc := 169) O dX12_spread_169 ?_
      refine v_iload (pc := 170) O dX12_spread_170 4 rfl ?_
      refine v_iadd (pc := 172) O dX12_spread_172 ?_
      obtain ⟨c3, h⟩ := or_none h
      refine v_zald (pc := 173) (a := 248) O kq_248 (inq lq_248 c3) dX12_spread_173 ?_
      refine v_ifeq (pc := 174) 223 O dX12_spread_174 (by decide) (fun c4 => ?_) (fun c4 => ?_)
      · have h := (if_pos c4).symm.trans h
        refine v_sub [0, 1, 2, 3, 4] rfl ?_
        exact w_X12_spread_b223 O hm hn hz ih x1 x2 x3 x4 D h
      · have h := (if_neg c4).symm.trans h
        refine v_aload_n (pc := 177) O dX12_spread_177 0 rfl ?_
        refine v_aload_n (pc := 178) O dX12_spread_178 0 rfl ?_
        refine v_getK (pc := 179) (a := 207) O hm gf_X12_69 fl_X12_141 kq_207 lk_207_69 dX12_spread_179 ?_
        refine v_iload (pc := 182) O dX12_spread_182 4 rfl ?_
        obtain ⟨c5, h⟩ := or_none h
        refine v_iald (pc := 184) (a := 249) O kq_249 (inq lq_249 c5) dX12_spread_184 ?_
        refine v_iload_n (pc := 185) O dX12_spread_185 3 rfl ?_
        obtain ⟨p6, e7, h⟩ := bind_some h
        refine v_callV (pc := 186) (a := 207) (As := [.int (dI D 249 (x4).toNatClampNeg), .int x3]) (rest := []) (r := (some (.int p6.1))) (D' := p6.2) O (bb0 hz) (c_X12_join hm e7) mw_X12_join im_X12_join se_X12_join ml_X12_347 kq_207 (by decide) rfl rfl rfl (by decide) (by decide) (Nat.le_of_ble_eq_true rfl) dX12_spread_186 rfl rfl ?_
        refine v_aload_n (pc := 189) O dX12_spread_189 0 rfl ?_
        refine v_getK (pc := 190) (a := 207) O hm gf_X12_69 fl_X12_141 kq_207 lk_207_69 dX12_spread_190 ?_
        refine v_iload (pc := 193) O dX12_spread_193 4 rfl ?_
        obtain ⟨c8, h⟩ := or_none h
        refine v_iald (pc := 195) (a := 249) O kq_249 (inq lq_249 c8) dX12_spread_195 ?_
        refine v_icmpne (pc := 196) 202 O dX12_spread_196 (by decide) (fun c9 => ?_) (fun c9 => ?_)
        · have h := (if_neg c9).symm.trans h
          refine v_aload_n (pc := 202) O dX12_spread_202 0 rfl ?_
          refine v_getK (pc := 203) (a := 207) O hm gf_X12_69 fl_X12_141 kq_207 lk_207_69 dX12_spread_203 ?_
          refine v_iload (pc := 206) O dX12_spread_206 4 rfl ?_
          refine v_aload_n (pc := 208) O dX12_spread_208 0 rfl ?_
          refine v_aload_n (pc := 209) O dX12_spread_209 0 rfl ?_
          refine v_getK (pc := 210) (a := 207) O hm gf_X12_69 fl_X12_141 kq_207 lk_207_69 dX12_spread_210 ?_
          refine v_iload (pc := 213) O dX12_spread_213 4 rfl ?_
          obtain ⟨c10, h⟩ := or_none h
          refine v_iald (pc := 215) (a := 249) O kq_249 (inq lq_249 c10) dX12_spread_215 ?_
          refine v_iload_n (pc := 216) O dX12_spread_216 3 rfl ?_
          obtain ⟨p11, e12, h⟩ := bind_some h
          refine v_callV (pc := 217) (a := 207) (As := [.int (dI p6.2 249 (x4).toNatClampNeg), .int x3]) (rest := [.int x4, .ref (bo X + pp 249)]) (r := (some (.int p11.1))) (D' := p11.2) O (bb0 hz) (c_X12_join hm e12) mw_X12_join im_X12_join se_X12_join ml_X12_347 kq_207 (by decide) rfl rfl rfl (by decide) (by decide) (Nat.le_of_ble_eq_true rfl) dX12_spread_217 rfl rfl ?_
          obtain ⟨c13, h⟩ := or_none h
          refine v_iast (pc := 220) (a := 249) O kq_249 (inq lq_249 c13) dX12_spread_220 ?_
          refine v_iconst (pc := 221) O dX12_spread_221 ic_1 ?_
          refine v_istore_n (pc := 222) (lv' := [(2, .int 1), (0, .ref (bo X + pp 207)), (1, .int x1), (3, .int x3), (4, .int x4)]) O dX12_spread_222 rfl (by rw [hn]; decide) rfl ?_
          refine v_sub [1, 2, 0, 3, 4] rfl ?_
          exact w_X12_spread_b223 O hm hn hz ih x1 1 x3 x4 (sI p11.2 249 (x4).toNatClampNeg p11.1) h
        · have h := (if_pos c9).symm.trans h
          refine v_goto (pc := 199) 223 O dX12_spread_199 (by decide) ?_
          refine v_sub [0, 1, 2, 3, 4] rfl ?_
          exact w_X12_spread_b223 O hm hn hz ih x1 x2 x3 x4 p6.2 h
def f_X12_spread_b115 (N : Nat) (rec_9 : Int32 → Int32 → Int32 → Dat → Option (Int32 × Dat)) (x1 : Int32) (x2 : Int32) (x3 : Int32) (D : Dat) : Option (Int32 × Dat) :=
  rec_9 x1 x2 (x3 + 1) D
set_option maxHeartbeats 4000000 in
theorem w_X12_spread_b115 {X : Cx} {n nu c u : Nat} {K : Nat → Nat} {N : Nat} {rec_9 : Int32 → Int32 → Int32 → Dat → Option (Int32 × Dat)} {z : Int32 × Dat} (O : Ok X cX12_spread RX12 (some .boolean) 3 68) (hm : wlm (xw X) = true) (hn : xn X = 7) (hz : Z0 X (Ax nu K c u)) (hrec_9 : ∀ (x1 : Int32) (x2 : Int32) (x3 : Int32) (D : Dat), rec_9 x1 x2 x3 D = some z → V X (Q0 X n (Ax nu K c u) (some (.int z.1)) z.2) n (Ax nu K c u) D 9 [(0, .ref (bo X + pp 207)), (1, .int x1), (2, .int x2), (3, .int x3)] []) (x1 : Int32) (x2 : Int32) (x3 : Int32) (D : Dat) (h : f_X12_spread_b115 N rec_9 x1 x2 x3 D = some z) : V X (Q0 X n (Ax nu K c u) (some (.int z.1)) z.2) n (Ax nu K c u) D 115 [(0, .ref (bo X + pp 207)), (1, .int x1), (2, .int x2), (3, .int x3)] [] := by
  unfold f_X12_spread_b115 at h
  refine v_iinc (pc := 115) (lv' := [(3, .int (x3 + 1)), (0, .ref (bo X + pp 207)), (1, .int x1), (2, .int x2)]) O dX12_spread_115 3 rfl (congrArg (fun q => x3 + q) ic_1) (by rw [hn]; decide) rfl ?_
  refine v_goto (pc := 118) 9 O dX12_spread_118 (by decide) ?_
  refine v_sub [1, 2, 3, 0] rfl ?_
  exact hrec_9 x1 x2 (x3 + 1) D h
def f_X12_spread_b94 (N : Nat) (rec_9 : Int32 → Int32 → Int32 → Dat → Option (Int32 × Dat)) (rec_33 : Int32 → Int32 → Int32 → Int32 → Int32 → Dat → Option (Int32 × Dat)) (x1 : Int32) (x2 : Int32) (x3 : Int32) (x4 : Int32) (x5 : Int32) (x6 : Int32) (D : Dat) : Option (Int32 × Dat) :=
  if (((56 : Int32) * x4) + x5) < 0 ∨ 3584 ≤ ((((56 : Int32) * x4) + x5)).toNatClampNeg then none else (rec_33 x1 x2 x3 x4 (x5 + 1) (sI D 250 (((56 : Int32) * x4) + x5).toNatClampNeg x6))
set_option maxHeartbeats 4000000 in
theorem w_X12_spread_b94 {X : Cx} {n nu c u : Nat} {K : Nat → Nat} {N : Nat} {rec_9 : Int32 → Int32 → Int32 → Dat → Option (Int32 × Dat)} {rec_33 : Int32 → Int32 → Int32 → Int32 → Int32 → Dat → Option (Int32 × Dat)} {z : Int32 × Dat} (O : Ok X cX12_spread RX12 (some .boolean) 3 68) (hm : wlm (xw X) = true) (hn : xn X = 7) (hz : Z0 X (Ax nu K c u)) (hrec_9 : ∀ (x1 : Int32) (x2 : Int32) (x3 : Int32) (D : Dat), rec_9 x1 x2 x3 D = some z → V X (Q0 X n (Ax nu K c u) (some (.int z.1)) z.2) n (Ax nu K c u) D 9 [(0, .ref (bo X + pp 207)), (1, .int x1), (2, .int x2), (3, .int x3)] []) (hrec_33 : ∀ (x1 : Int32) (x2 : Int32) (x3 : Int32) (x4 : Int32) (x5 : Int32) (D : Dat), rec_33 x1 x2 x3 x4 x5 D = some z → V X (Q0 X n (Ax nu K c u) (some (.int z.1)) z.2) n (Ax nu K c u) D 33 [(0, .ref (bo X + pp 207)), (1, .int x1), (2, .int x2), (3, .int x3), (4, .int x4), (5, .int x5)] []) (x1 : Int32) (x2 : Int32) (x3 : Int32) (x4 : Int32) (x5 : Int32) (x6 : Int32) (D : Dat) (h : f_X12_spread_b94 N rec_9 rec_33 x1 x2 x3 x4 x5 x6 D = some z) : V X (Q0 X n (Ax nu K c u) (some (.int z.1)) z.2) n (Ax nu K c u) D 94 [(0, .ref (bo X + pp 207)), (1, .int x1), (2, .int x2), (3, .int x3), (4, .int x4), (5, .int x5), (6, .int x6)] [] := by
  unfold f_X12_spread_b94 at h
  refine v_aload_n (pc := 94) O dX12_spread_94 0 rfl ?_
  refine v_getK (pc := 95) (a := 207) O hm gf_X12_70 fl_X12_144 kq_207 lk_207_70 dX12_spread_95 ?_
  refine v_bipush (pc := 98) O dX12_spread_98 bp_56 ?_
  refine v_iload (pc := 100) O dX12_spread_100 4 rfl ?_
  refine v_imul (pc := 102) O dX12_spread_102 ?_
  refine v_iload (pc := 103) O dX12_spread_103 5 rfl ?_
  refine v_iadd (pc := 105) O dX12_spread_105 ?_
  refine v_iload (pc := 106) O dX12_spread_106 6 rfl ?_
  obtain ⟨c14, h⟩ := or_none h
  refine v_iast (pc := 108) (a := 250) O kq_250 (inq lq_250 c14) dX12_spread_108 ?_
  refine v_iinc (pc := 109) (lv' := [(5, .int (x5 + 1)), (0, .ref (bo X + pp 207)), (1, .int x1), (2, .int x2), (3, .int x3), (4, .int x4), (6, .int x6)]) O dX12_spread_109 5 rfl (congrArg (fun q => x5 + q) ic_1) (by rw [hn]; decide) rfl ?_
  refine v_goto (pc := 112) 33 O dX12_spread_112 (by decide) ?_
  refine v_sub [1, 2, 3, 4, 5, 0] rfl ?_
  exact hrec_33 x1 x2 x3 x4 (x5 + 1) (sI D 250 (((56 : Int32) * x4) + x5).toNatClampNeg x6) h
def f_X12_spread_b33 (N : Nat) (rec_9 : Int32 → Int32 → Int32 → Dat → Option (Int32 × Dat)) : Nat → Int32 → Int32 → Int32 → Int32 → Int32 → Dat → Option (Int32 × Dat)
  | 0, _, _, _, _, _, _ => none
  | g + 1, x1, x2, x3, x4, x5, D => if x4 < 0 ∨ 64 ≤ (x4).toNatClampNeg then none else (if ((26 : Int32) + (dI D 245 (x4).toNatClampNeg)) ≤ x5 then (f_X12_spread_b115 N rec_9 x1 x2 x3 D) else (if (((56 : Int32) * x4) + x5) < 0 ∨ 3584 ≤ ((((56 : Int32) * x4) + x5)).toNatClampNeg then none else (if x5 < 0 ∨ 56 ≤ (x5).toNatClampNeg then none else ((f_X12_join (dI D 250 (((56 : Int32) * x4) + x5).toNatClampNeg) (dI D 251 (x5).toNatClampNeg) D).bind (fun p19 => if (((56 : Int32) * x4) + x5) < 0 ∨ 3584 ≤ ((((56 : Int32) * x4) + x5)).toNatClampNeg then none else (if p19.1 = (dI p19.2 250 (((56 : Int32) * x4) + x5).toNatClampNeg) then (f_X12_spread_b94 N rec_9 (f_X12_spread_b33 N rec_9 g) x1 x2 x3 x4 x5 p19.1 p19.2) else (f_X12_spread_b94 N rec_9 (f_X12_spread_b33 N rec_9 g) x1 1 x3 x4 x5 p19.1 p19.2)))))))
set_option maxHeartbeats 4000000 in
theorem w_X12_spread_b33 {X : Cx} {n nu c u : Nat} {K : Nat → Nat} {N : Nat} {rec_9 : Int32 → Int32 → Int32 → Dat → Option (Int32 × Dat)} {z : Int32 × Dat} (O : Ok X cX12_spread RX12 (some .boolean) 3 68) (hm : wlm (xw X) = true) (hn : xn X = 7) (hz : Z0 X (Ax nu K c u)) (hrec_9 : ∀ (x1 : Int32) (x2 : Int32) (x3 : Int32) (D : Dat), rec_9 x1 x2 x3 D = some z → V X (Q0 X n (Ax nu K c u) (some (.int z.1)) z.2) n (Ax nu K c u) D 9 [(0, .ref (bo X + pp 207)), (1, .int x1), (2, .int x2), (3, .int x3)] []) : ∀ (g : Nat) (x1 : Int32) (x2 : Int32) (x3 : Int32) (x4 : Int32) (x5 : Int32) (D : Dat), f_X12_spread_b33 N rec_9 g x1 x2 x3 x4 x5 D = some z → V X (Q0 X n (Ax nu K c u) (some (.int z.1)) z.2) n (Ax nu K c u) D 33 [(0, .ref (bo X + pp 207)), (1, .int x1), (2, .int x2), (3, .int x3), (4, .int x4), (5, .int x5)] [] := by
  intro g
  induction g with
  | zero => intro x1 x2 x3 x4 x5 D h; exact absurd h (by simp [f_X12_spread_b33])
  | succ g ih =>
    intro x1 x2 x3 x4 x5 D h
    rw [f_X12_spread_b33] at h
    refine v_iload (pc := 33) O dX12_spread_33 5 rfl ?_
    refine v_bipush (pc := 35) O dX12_spread_35 bp_26 ?_
    refine v_aload_n (pc := 37) O dX12_spread_37 0 rfl ?_
    refine v_getK (pc := 38) (a := 207) O hm gf_X12_65 fl_X12_129 kq_207 lk_207_65 dX12_spread_38 ?_
    refine v_iload (pc := 41) O dX12_spread_41 4 rfl ?_
    obtain ⟨c15, h⟩ := or_none h
    refine v_iald (pc := 43) (a := 245) O kq_245 (inq lq_245 c15) dX12_spread_43 ?_
    refine v_iadd (pc := 44) O dX12_spread_44 ?_
    refine v_icmpge (pc := 45) 115 O dX12_spread_45 (by decide) (fun c16 => ?_) (fun c16 => ?_)
    · have h := (if_pos c16).symm.trans h
      refine v_sub [0, 1, 2, 3] rfl ?_
      exact w_X12_spread_b115 O hm hn hz hrec_9 x1 x2 x3 D h
    · have h := (if_neg c16).symm.trans h
      refine v_aload_n (pc := 48) O dX12_spread_48 0 rfl ?_
      refine v_aload_n (pc := 49) O dX12_spread_49 0 rfl ?_
      refine v_getK (pc := 50) (a := 207) O hm gf_X12_70 fl_X12_144 kq_207 lk_207_70 dX12_spread_50 ?_
      refine v_bipush (pc := 53) O dX12_spread_53 bp_56 ?_
      refine v_iload (pc := 55) O dX12_spread_55 4 rfl ?_
      refine v_imul (pc := 57) O dX12_spread_57 ?_
      refine v_iload (pc := 58) O dX12_spread_58 5 rfl ?_
      refine v_iadd (pc := 60) O dX12_spread_60 ?_
      obtain ⟨c17, h⟩ := or_none h
      refine v_iald (pc := 61) (a := 250) O kq_250 (inq lq_250 c17) dX12_spread_61 ?_
      refine v_aload_n (pc := 62) O dX12_spread_62 0 rfl ?_
      refine v_getK (pc := 63) (a := 207) O hm gf_X12_71 fl_X12_147 kq_207 lk_207_71 dX12_spread_63 ?_
      refine v_iload (pc := 66) O dX12_spread_66 5 rfl ?_
      obtain ⟨c18, h⟩ := or_none h
      refine v_iald (pc := 68) (a := 251) O kq_251 (inq lq_251 c18) dX12_spread_68 ?_
      obtain ⟨p19, e20, h⟩ := bind_some h
      refine v_callV (pc := 69) (a := 207) (As := [.int (dI D 250 (((56 : Int32) * x4) + x5).toNatClampNeg), .int (dI D 251 (x5).toNatClampNeg)]) (rest := []) (r := (some (.int p19.1))) (D' := p19.2) O (bb0 hz) (c_X12_join hm e20) mw_X12_join im_X12_join se_X12_join ml_X12_347 kq_207 (by decide) rfl rfl rfl (by decide) (by decide) (Nat.le_of_ble_eq_true rfl) dX12_spread_69 rfl rfl ?_
      refine v_istore (pc := 72) (lv' := [(6, .int p19.1), (0, .ref (bo X + pp 207)), (1, .int x1), (2, .int x2), (3, .int x3), (4, .int x4), (5, .int x5)]) O dX12_spread_72 (by rw [hn]; decide) rfl ?_
      refine v_iload (pc := 74) O dX12_spread_74 0 rfl ?_
      refine v_aload_n (pc := 76) O dX12_spread_76 1 rfl ?_
      refine v_getK (pc := 77) (a := 207) O hm gf_X12_70 fl_X12_144 kq_207 lk_207_70 dX12_spread_77 ?_
      refine v_bipush (pc := 80) O dX12_spread_80 bp_56 ?_
      refine v_iload (pc := 82) O dX12_spread_82 5 rfl ?_
      refine v_imul (pc := 84) O dX12_spread_84 ?_
      refine v_iload (pc := 85) O dX12_spread_85 6 rfl ?_
      refine v_iadd (pc := 87) O dX12_spread_87 ?_
      obtain ⟨c21, h⟩ := or_none h
      refine v_iald (pc := 88) (a := 250) O kq_250 (inq lq_250 c21) dX12_spread_88 ?_
      refine v_icmpeq (pc := 89) 94 O dX12_spread_89 (by decide) (fun c22 => ?_) (fun c22 => ?_)
      · have h := (if_pos c22).symm.trans h
        refine v_sub [1, 2, 3, 4, 5, 6, 0] rfl ?_
        exact w_X12_spread_b94 O hm hn hz hrec_9 ih x1 x2 x3 x4 x5 p19.1 p19.2 h
      · have h := (if_neg c22).symm.trans h
        refine v_iconst (pc := 92) O dX12_spread_92 ic_1 ?_
        refine v_istore_n (pc := 93) (lv' := [(2, .int 1), (6, .int p19.1), (0, .ref (bo X + pp 207)), (1, .int x1), (3, .int x3), (4, .int x4), (5, .int x5)]) O dX12_spread_93 rfl (by rw [hn]; decide) rfl ?_
        refine v_sub [2, 3, 0, 4, 5, 6, 1] rfl ?_
        exact w_X12_spread_b94 O hm hn hz hrec_9 ih x1 1 x3 x4 x5 p19.1 p19.2 h
def f_X12_spread_b9 (N : Nat) : Nat → Int32 → Int32 → Int32 → Dat → Option (Int32 × Dat)
  | 0, _, _, _, _ => none
  | g + 1, x1, x2, x3, D => if 2 ≤ x3 then (if x1 < 0 ∨ 64 ≤ (x1).toNatClampNeg then none else (if (dI D 212 (x1).toNatClampNeg) = 11 then (if x1 < 0 ∨ 64 ≤ (x1).toNatClampNeg then none else ((f_X12_taken N x1 D).bind (fun p27 => (f_X12_join (dI D 249 (x1).toNatClampNeg) p27.1 p27.2).bind (fun p29 => f_X12_spread_b153 N N x1 x2 p29.1 0 p29.2)))) else (if x2 &&& 1 = x2 then some (x2, D) else none))) else ((f_X12_nextOf x1 x3 D).bind (fun p32 => if 0 ≤ p32.1 then (f_X12_spread_b33 N (f_X12_spread_b9 N g) N x1 x2 x3 p32.1 0 p32.2) else (f_X12_spread_b115 N (f_X12_spread_b9 N g) x1 x2 x3 p32.2)))
set_option maxHeartbeats 4000000 in
theorem w_X12_spread_b9 {X : Cx} {n nu c u : Nat} {K : Nat → Nat} {N : Nat} {z : Int32 × Dat} (O : Ok X cX12_spread RX12 (some .boolean) 3 68) (hm : wlm (xw X) = true) (hn : xn X = 7) (hz : Z0 X (Ax nu K c u)) : ∀ (g : Nat) (x1 : Int32) (x2 : Int32) (x3 : Int32) (D : Dat), f_X12_spread_b9 N g x1 x2 x3 D = some z → V X (Q0 X n (Ax nu K c u) (some (.int z.1)) z.2) n (Ax nu K c u) D 9 [(0, .ref (bo X + pp 207)), (1, .int x1), (2, .int x2), (3, .int x3)] [] := by
  intro g
  induction g with
  | zero => intro x1 x2 x3 D h; exact absurd h (by simp [f_X12_spread_b9])
  | succ g ih =>
    intro x1 x2 x3 D h
    rw [f_X12_spread_b9] at h
    refine v_iload_n (pc := 9) O dX12_spread_9 3 rfl ?_
    refine v_iconst (pc := 10) O dX12_spread_10 ic_2 ?_
    refine v_icmpge (pc := 11) 121 O dX12_spread_11 (by decide) (fun c23 => ?_) (fun c23 => ?_)
    · have h := (if_pos c23).symm.trans h
      refine v_aload_n (pc := 121) O dX12_spread_121 0 rfl ?_
      refine v_getK (pc := 122) (a := 207) O hm gf_X12_11 fl_X12_30 kq_207 lk_207_11 dX12_spread_122 ?_
      refine v_iload_n (pc := 125) O dX12_spread_125 1 rfl ?_
      obtain ⟨c24, h⟩ := or_none h
      refine v_iald (pc := 126) (a := 212) O kq_212 (inq lq_212 c24) dX12_spread_126 ?_
      refine v_bipush (pc := 127) O dX12_spread_127 bp_11 ?_
      refine v_icmpeq (pc := 129) 134 O dX12_spread_129 (by decide) (fun c25 => ?_) (fun c25 => ?_)
      · have h := (if_pos c25).symm.trans h
        refine v_aload_n (pc := 134) O dX12_spread_134 0 rfl ?_
        refine v_aload_n (pc := 135) O dX12_spread_135 0 rfl ?_
        refine v_getK (pc := 136) (a := 207) O hm gf_X12_69 fl_X12_141 kq_207 lk_207_69 dX12_spread_136 ?_
        refine v_iload_n (pc := 139) O dX12_spread_139 1 rfl ?_
        obtain ⟨c26, h⟩ := or_none h
        refine v_iald (pc := 140) (a := 249) O kq_249 (inq lq_249 c26) dX12_spread_140 ?_
        refine v_aload_n (pc := 141) O dX12_spread_141 0 rfl ?_
        refine v_iload_n (pc := 142) O dX12_spread_142 1 rfl ?_
        obtain ⟨p27, e28, h⟩ := bind_some h
        refine v_callV (pc := 143) (a := 207) (As := [.int x1]) (rest := [.int (dI D 249 (x1).toNatClampNeg), .ref (bo X + pp 207)]) (r := (some (.int p27.1))) (D' := p27.2) O (bb0 hz) (c_X12_taken hm e28) mw_X12_taken im_X12_taken se_X12_taken ml_X12_436 kq_207 (by decide) rfl rfl rfl (by decide) (by decide) (Nat.le_of_ble_eq_true rfl) dX12_spread_143 rfl rfl ?_
        obtain ⟨p29, e30, h⟩ := bind_some h
        refine v_callV (pc := 146) (a := 207) (As := [.int (dI D 249 (x1).toNatClampNeg), .int p27.1]) (rest := []) (r := (some (.int p29.1))) (D' := p29.2) O (bb0 hz) (c_X12_join hm e30) mw_X12_join im_X12_join se_X12_join ml_X12_347 kq_207 (by decide) rfl rfl rfl (by decide) (by decide) (Nat.le_of_ble_eq_true rfl) dX12_spread_146 rfl rfl ?_
        refine v_istore_n (pc := 149) (lv' := [(3, .int p29.1), (0, .ref (bo X + pp 207)), (1, .int x1), (2, .int x2)]) O dX12_spread_149 rfl (by rw [hn]; decide) rfl ?_
        refine v_iconst (pc := 150) O dX12_spread_150 ic_0 ?_
        refine v_istore (pc := 151) (lv' := [(4, .int 0), (3, .int p29.1), (0, .ref (bo X + pp 207)), (1, .int x1), (2, .int x2)]) O dX12_spread_151 (by rw [hn]; decide) rfl ?_
        refine v_sub [2, 3, 4, 1, 0] rfl ?_
        exact w_X12_spread_b153 O hm hn hz N x1 x2 p29.1 0 p29.2 h
      · have h := (if_neg c25).symm.trans h
        refine v_iload_n (pc := 132) O dX12_spread_132 2 rfl ?_
        obtain ⟨c31, h⟩ := if_none h
        obtain rfl := Option.some.inj h
        exact v_zret (pc := 133) O hz (congrArg Value.int c31) dX12_spread_133
    · have h := (if_neg c23).symm.trans h
      refine v_aload_n (pc := 14) O dX12_spread_14 0 rfl ?_
      refine v_iload_n (pc := 15) O dX12_spread_15 1 rfl ?_
      refine v_iload_n (pc := 16) O dX12_spread_16 3 rfl ?_
      obtain ⟨p32, e33, h⟩ := bind_some h
      refine v_callV (pc := 17) (a := 207) (As := [.int x1, .int x3]) (rest := []) (r := (some (.int p32.1))) (D' := p32.2) O (bb0 hz) (c_X12_nextOf hm e33) mw_X12_nextOf im_X12_nextOf se_X12_nextOf ml_X12_424 kq_207 (by decide) rfl rfl rfl (by decide) (by decide) (Nat.le_of_ble_eq_true rfl) dX12_spread_17 rfl rfl ?_
      refine v_istore (pc := 20) (lv' := [(4, .int p32.1), (0, .ref (bo X + pp 207)), (1, .int x1), (2, .int x2), (3, .int x3)]) O dX12_spread_20 (by rw [hn]; decide) rfl ?_
      refine v_iload (pc := 22) O dX12_spread_22 0 rfl ?_
      refine v_ifge (pc := 24) 30 O dX12_spread_24 (by decide) (fun c34 => ?_) (fun c34 => ?_)
      · have h := (if_pos c34).symm.trans h
        refine v_iconst (pc := 30) O dX12_spread_30 ic_0 ?_
        refine v_istore (pc := 31) (lv' := [(5, .int 0), (4, .int p32.1), (0, .ref (bo X + pp 207)), (1, .int x1), (2, .int x2), (3, .int x3)]) O dX12_spread_31 (by rw [hn]; decide) rfl ?_
        refine v_sub [2, 3, 4, 5, 1, 0] rfl ?_
        exact w_X12_spread_b33 O hm hn hz ih N x1 x2 x3 p32.1 0 p32.2 h
      · have h := (if_neg c34).symm.trans h
        refine v_goto (pc := 27) 115 O dX12_spread_27 (by decide) ?_
        refine v_sub [1, 2, 3, 4] rfl ?_
        exact w_X12_spread_b115 O hm hn hz ih x1 x2 x3 p32.2 h
def f_X12_spread (N : Nat) (x1 : Int32) (D : Dat) : Option (Int32 × Dat) :=
  (f_X12_behindOf N x1 D).bind (fun p35 => f_X12_spread_b9 N N x1 0 0 p35)
set_option maxHeartbeats 4000000 in
theorem w_X12_spread {X : Cx} {n nu c u : Nat} {K : Nat → Nat} {N : Nat} {z : Int32 × Dat} (O : Ok X cX12_spread RX12 (some .boolean) 3 68) (hm : wlm (xw X) = true) (hn : xn X = 7) (hz : Z0 X (Ax nu K c u)) (x1 : Int32) (D : Dat) (h : f_X12_spread N x1 D = some z) : V X (Q0 X n (Ax nu K c u) (some (.int z.1)) z.2) n (Ax nu K c u) D 0 [(0, .ref (bo X + pp 207)), (1, .int x1)] [] := by
  unfold f_X12_spread at h
  refine v_iconst (pc := 0) O dX12_spread_0 ic_0 ?_
  refine v_istore_n (pc := 1) (lv' := [(2, .int 0), (0, .ref (bo X + pp 207)), (1, .int x1)]) O dX12_spread_1 rfl (by rw [hn]; decide) rfl ?_
  refine v_aload_n (pc := 2) O dX12_spread_2 1 rfl ?_
  refine v_iload_n (pc := 3) O dX12_spread_3 2 rfl ?_
  obtain ⟨p35, e36, h⟩ := bind_some h
  refine v_callV (pc := 4) (a := 207) (As := [.int x1]) (rest := []) (r := none) (D' := p35) O (bb0 hz) (c_X12_behindOf hm e36) mw_X12_behindOf im_X12_behindOf se_X12_behindOf ml_X12_442 kq_207 (by decide) rfl rfl rfl (by decide) (by decide) (Nat.le_of_ble_eq_true rfl) dX12_spread_4 rfl rfl ?_
  refine v_iconst (pc := 7) O dX12_spread_7 ic_0 ?_
  refine v_istore_n (pc := 8) (lv' := [(3, .int 0), (2, .int 0), (0, .ref (bo X + pp 207)), (1, .int x1)]) O dX12_spread_8 rfl (by rw [hn]; decide) rfl ?_
  refine v_sub [2, 3, 1, 0] rfl ?_
  exact w_X12_spread_b9 O hm hn hz N x1 0 0 p35 h
theorem c_X12_spread {l : Launch} {w : Wx} {n nu c u : Nat} {K : Nat → Nat} {N : Nat} (hm : wlm w = true) {x1 : Int32} {D : Dat} {z : Int32 × Dat} (h : f_X12_spread N x1 D = some z) : C0 l w yX12_spread cX12_spread 7 (some .boolean) 3 68 [.ref (wb w + pp 207), .int x1] n (Ax nu K c u) D (some (.int z.1)) z.2 :=
  C0.of (by decide) (Nat.le_of_ble_eq_true rfl) (fun X e1 e2 e3 hz O => by
  subst e1
  subst e2
  exact w_X12_spread O hm e3 hz x1 D h)
def f_X12_rounds_b116 (N : Nat) (rec_81 : Int32 → Dat → Option (Dat)) (rec_89 : Int32 → Int32 → Dat → Option (Dat)) (x1 : Int32) (x2 : Int32) (D : Dat) : Option (Dat) :=
  rec_89 x1 (x2 + 1) D
set_option maxHeartbeats 4000000 in
theorem w_X12_rounds_b116 {X : Cx} {n nu c u : Nat} {K : Nat → Nat} {N : Nat} {rec_81 : Int32 → Dat → Option (Dat)} {rec_89 : Int32 → Int32 → Dat → Option (Dat)} {z : Dat} (O : Ok X cX12_rounds RX12 none 4 94) (hm : wlm (xw X) = true) (hn : xn X = 3) (hz : Z0 X (Ax nu K c u)) (hrec_81 : ∀ (x1 : Int32) (D : Dat), rec_81 x1 D = some z → V X (Q0 X n (Ax nu K c u) none z) n (Ax nu K c u) D 81 [(0, .ref (bo X + pp 207)), (1, .int x1)] []) (hrec_89 : ∀ (x1 : Int32) (x2 : Int32) (D : Dat), rec_89 x1 x2 D = some z → V X (Q0 X n (Ax nu K c u) none z) n (Ax nu K c u) D 89 [(0, .ref (bo X + pp 207)), (1, .int x1), (2, .int x2)] []) (x1 : Int32) (x2 : Int32) (D : Dat) (h : f_X12_rounds_b116 N rec_81 rec_89 x1 x2 D = some z) : V X (Q0 X n (Ax nu K c u) none z) n (Ax nu K c u) D 116 [(0, .ref (bo X + pp 207)), (1, .int x1), (2, .int x2)] [] := by
  unfold f_X12_rounds_b116 at h
  refine v_iinc (pc := 116) (lv' := [(2, .int (x2 + 1)), (0, .ref (bo X + pp 207)), (1, .int x1)]) O dX12_rounds_116 2 rfl (congrArg (fun q => x2 + q) ic_1) (by rw [hn]; decide) rfl ?_
  refine v_goto (pc := 119) 89 O dX12_rounds_119 (by decide) ?_
  refine v_sub [1, 2, 0] rfl ?_
  exact hrec_89 x1 (x2 + 1) D h
def f_X12_rounds_b89 (N : Nat) (rec_81 : Int32 → Dat → Option (Dat)) : Nat → Int32 → Int32 → Dat → Option (Dat)
  | 0, _, _, _ => none
  | g + 1, x1, x2, D => if (dI D 207 13) ≤ x2 then (rec_81 x1 D) else (if x2 < 0 ∨ 64 ≤ (x2).toNatClampNeg then none else (if (dI D 245 (x2).toNatClampNeg) < 0 then (f_X12_rounds_b116 N rec_81 (f_X12_rounds_b89 N rec_81 g) x1 x2 D) else ((f_X12_spread N x2 D).bind (fun p4 => if p4.1 = 0 then (f_X12_rounds_b116 N rec_81 (f_X12_rounds_b89 N rec_81 g) x1 x2 p4.2) else (f_X12_rounds_b116 N rec_81 (f_X12_rounds_b89 N rec_81 g) 1 x2 p4.2)))))
set_option maxHeartbeats 4000000 in
theorem w_X12_rounds_b89 {X : Cx} {n nu c u : Nat} {K : Nat → Nat} {N : Nat} {rec_81 : Int32 → Dat → Option (Dat)} {z : Dat} (O : Ok X cX12_rounds RX12 none 4 94) (hm : wlm (xw X) = true) (hn : xn X = 3) (hz : Z0 X (Ax nu K c u)) (hrec_81 : ∀ (x1 : Int32) (D : Dat), rec_81 x1 D = some z → V X (Q0 X n (Ax nu K c u) none z) n (Ax nu K c u) D 81 [(0, .ref (bo X + pp 207)), (1, .int x1)] []) : ∀ (g : Nat) (x1 : Int32) (x2 : Int32) (D : Dat), f_X12_rounds_b89 N rec_81 g x1 x2 D = some z → V X (Q0 X n (Ax nu K c u) none z) n (Ax nu K c u) D 89 [(0, .ref (bo X + pp 207)), (1, .int x1), (2, .int x2)] [] := by
  intro g
  induction g with
  | zero => intro x1 x2 D h; exact absurd h (by simp [f_X12_rounds_b89])
  | succ g ih =>
    intro x1 x2 D h
    rw [f_X12_rounds_b89] at h
    refine v_iload_n (pc := 89) O dX12_rounds_89 2 rfl ?_
    refine v_aload_n (pc := 90) O dX12_rounds_90 0 rfl ?_
    refine v_getI (pc := 91) (a := 207) O gf_X12_13 fl_X12_406 kq_207 dX12_rounds_91 ?_
    refine v_icmpge (pc := 94) 122 O dX12_rounds_94 (by decide) (fun c1 => ?_) (fun c1 => ?_)
    · have h := (if_pos c1).symm.trans h
      refine v_goto (pc := 122) 81 O dX12_rounds_122 (by decide) ?_
      refine v_sub [0, 1] rfl ?_
      exact hrec_81 x1 D h
    · have h := (if_neg c1).symm.trans h
      refine v_aload_n (pc := 97) O dX12_rounds_97 0 rfl ?_
      refine v_getK (pc := 98) (a := 207) O hm gf_X12_65 fl_X12_129 kq_207 lk_207_65 dX12_rounds_98 ?_
      refine v_iload_n (pc := 101) O dX12_rounds_101 2 rfl ?_
      obtain ⟨c2, h⟩ := or_none h
      refine v_iald (pc := 102) (a := 245) O kq_245 (inq lq_245 c2) dX12_rounds_102 ?_
      refine v_iflt (pc := 103) 116 O dX12_rounds_103 (by decide) (fun c3 => ?_) (fun c3 => ?_)
      · have h := (if_pos c3).symm.trans h
        refine v_sub [0, 1, 2] rfl ?_
        exact w_X12_rounds_b116 O hm hn hz hrec_81 ih x1 x2 D h
      · have h := (if_neg c3).symm.trans h
        refine v_aload_n (pc := 106) O dX12_rounds_106 0 rfl ?_
        refine v_iload_n (pc := 107) O dX12_rounds_107 2 rfl ?_
        obtain ⟨p4, e5, h⟩ := bind_some h
        refine v_callV (pc := 108) (a := 207) (As := [.int x2]) (rest := []) (r := (some (.int p4.1))) (D' := p4.2) O (bb0 hz) (c_X12_spread hm e5) mw_X12_spread im_X12_spread se_X12_spread ml_X12_445 kq_207 (by decide) rfl rfl rfl (by decide) (by decide) (Nat.le_of_ble_eq_true rfl) dX12_rounds_108 rfl rfl ?_
        refine v_ifeq (pc := 111) 116 O dX12_rounds_111 (by decide) (fun c6 => ?_) (fun c6 => ?_)
        · have h := (if_pos c6).symm.trans h
          refine v_sub [0, 1, 2] rfl ?_
          exact w_X12_rounds_b116 O hm hn hz hrec_81 ih x1 x2 p4.2 h
        · have h := (if_neg c6).symm.trans h
          refine v_iconst (pc := 114) O dX12_rounds_114 ic_1 ?_
          refine v_istore_n (pc := 115) (lv' := [(1, .int 1), (0, .ref (bo X + pp 207)), (2, .int x2)]) O dX12_rounds_115 rfl (by rw [hn]; decide) rfl ?_
          refine v_sub [1, 0, 2] rfl ?_
          exact w_X12_rounds_b116 O hm hn hz hrec_81 ih 1 x2 p4.2 h
def f_X12_rounds_b81 (N : Nat) : Nat → Int32 → Dat → Option (Dat)
  | 0, _, _ => none
  | g + 1, x1, D => if x1 = 0 then (some D) else (f_X12_rounds_b89 N (f_X12_rounds_b81 N g) N 0 0 D)
set_option maxHeartbeats 4000000 in
theorem w_X12_rounds_b81 {X : Cx} {n nu c u : Nat} {K : Nat → Nat} {N : Nat} {z : Dat} (O : Ok X cX12_rounds RX12 none 4 94) (hm : wlm (xw X) = true) (hn : xn X = 3) (hz : Z0 X (Ax nu K c u)) : ∀ (g : Nat) (x1 : Int32) (D : Dat), f_X12_rounds_b81 N g x1 D = some z → V X (Q0 X n (Ax nu K c u) none z) n (Ax nu K c u) D 81 [(0, .ref (bo X + pp 207)), (1, .int x1)] [] := by
  intro g
  induction g with
  | zero => intro x1 D h; exact absurd h (by simp [f_X12_rounds_b81])
  | succ g ih =>
    intro x1 D h
    rw [f_X12_rounds_b81] at h
    refine v_iload_n (pc := 81) O dX12_rounds_81 1 rfl ?_
    refine v_ifeq (pc := 82) 125 O dX12_rounds_82 (by decide) (fun c7 => ?_) (fun c7 => ?_)
    · have h := (if_pos c7).symm.trans h
      obtain rfl := Option.some.inj h
      exact v_ret (pc := 125) O hz dX12_rounds_125
    · have h := (if_neg c7).symm.trans h
      refine v_iconst (pc := 85) O dX12_rounds_85 ic_0 ?_
      refine v_istore_n (pc := 86) (lv' := [(1, .int 0), (0, .ref (bo X + pp 207))]) O dX12_rounds_86 rfl (by rw [hn]; decide) rfl ?_
      refine v_iconst (pc := 87) O dX12_rounds_87 ic_0 ?_
      refine v_istore_n (pc := 88) (lv' := [(2, .int 0), (1, .int 0), (0, .ref (bo X + pp 207))]) O dX12_rounds_88 rfl (by rw [hn]; decide) rfl ?_
      refine v_sub [2, 1, 0] rfl ?_
      exact w_X12_rounds_b89 O hm hn hz ih N 0 0 D h
def f_X12_rounds_b66 (N : Nat) (rec_2 : Int32 → Dat → Option (Dat)) (rec_22 : Int32 → Int32 → Dat → Option (Dat)) (x1 : Int32) (x2 : Int32) (s0 : Int32) (s1 : Int32) (D : Dat) : Option (Dat) :=
  if s1 < 0 ∨ 3584 ≤ (s1).toNatClampNeg then none else (rec_22 x1 (x2 + 1) (sI D 250 (s1).toNatClampNeg s0))
set_option maxHeartbeats 4000000 in
theorem w_X12_rounds_b66 {X : Cx} {n nu c u : Nat} {K : Nat → Nat} {N : Nat} {rec_2 : Int32 → Dat → Option (Dat)} {rec_22 : Int32 → Int32 → Dat → Option (Dat)} {z : Dat} (O : Ok X cX12_rounds RX12 none 4 94) (hm : wlm (xw X) = true) (hn : xn X = 3) (hz : Z0 X (Ax nu K c u)) (hrec_2 : ∀ (x1 : Int32) (D : Dat), rec_2 x1 D = some z → V X (Q0 X n (Ax nu K c u) none z) n (Ax nu K c u) D 2 [(0, .ref (bo X + pp 207)), (1, .int x1)] []) (hrec_22 : ∀ (x1 : Int32) (x2 : Int32) (D : Dat), rec_22 x1 x2 D = some z → V X (Q0 X n (Ax nu K c u) none z) n (Ax nu K c u) D 22 [(0, .ref (bo X + pp 207)), (1, .int x1), (2, .int x2)] []) (x1 : Int32) (x2 : Int32) (s0 : Int32) (s1 : Int32) (D : Dat) (h : f_X12_rounds_b66 N rec_2 rec_22 x1 x2 s0 s1 D = some z) : V X (Q0 X n (Ax nu K c u) none z) n (Ax nu K c u) D 66 [(0, .ref (bo X + pp 207)), (1, .int x1), (2, .int x2)] [.int s0, .int s1, .ref (bo X + pp 250)] := by
  unfold f_X12_rounds_b66 at h
  obtain ⟨c8, h⟩ := or_none h
  refine v_iast (pc := 66) (a := 250) O kq_250 (inq lq_250 c8) dX12_rounds_66 ?_
  refine v_iinc (pc := 67) (lv' := [(2, .int (x2 + 1)), (0, .ref (bo X + pp 207)), (1, .int x1)]) O dX12_rounds_67 2 rfl (congrArg (fun q => x2 + q) ic_1) (by rw [hn]; decide) rfl ?_
  refine v_goto (pc := 70) 22 O dX12_rounds_70 (by decide) ?_
  refine v_sub [1, 2, 0] rfl ?_
  exact hrec_22 x1 (x2 + 1) (sI D 250 (s1).toNatClampNeg s0) h
def f_X12_rounds_b62 (N : Nat) (rec_2 : Int32 → Dat → Option (Dat)) (rec_22 : Int32 → Int32 → Dat → Option (Dat)) (x1 : Int32) (x2 : Int32) (s0 : Int32) (D : Dat) : Option (Dat) :=
  f_X12_rounds_b66 N rec_2 rec_22 x1 x2 (dI D 207 6) s0 D
set_option maxHeartbeats 4000000 in
theorem w_X12_rounds_b62 {X : Cx} {n nu c u : Nat} {K : Nat → Nat} {N : Nat} {rec_2 : Int32 → Dat → Option (Dat)} {rec_22 : Int32 → Int32 → Dat → Option (Dat)} {z : Dat} (O : Ok X cX12_rounds RX12 none 4 94) (hm : wlm (xw X) = true) (hn : xn X = 3) (hz : Z0 X (Ax nu K c u)) (hrec_2 : ∀ (x1 : Int32) (D : Dat), rec_2 x1 D = some z → V X (Q0 X n (Ax nu K c u) none z) n (Ax nu K c u) D 2 [(0, .ref (bo X + pp 207)), (1, .int x1)] []) (hrec_22 : ∀ (x1 : Int32) (x2 : Int32) (D : Dat), rec_22 x1 x2 D = some z → V X (Q0 X n (Ax nu K c u) none z) n (Ax nu K c u) D 22 [(0, .ref (bo X + pp 207)), (1, .int x1), (2, .int x2)] []) (x1 : Int32) (x2 : Int32) (s0 : Int32) (D : Dat) (h : f_X12_rounds_b62 N rec_2 rec_22 x1 x2 s0 D = some z) : V X (Q0 X n (Ax nu K c u) none z) n (Ax nu K c u) D 62 [(0, .ref (bo X + pp 207)), (1, .int x1), (2, .int x2)] [.int s0, .ref (bo X + pp 250)] := by
  unfold f_X12_rounds_b62 at h
  refine v_aload_n (pc := 62) O dX12_rounds_62 0 rfl ?_
  refine v_getI (pc := 63) (a := 207) O gf_X12_6 fl_X12_210 kq_207 dX12_rounds_63 ?_
  refine v_sub [0, 1, 2] rfl ?_
  exact w_X12_rounds_b66 O hm hn hz hrec_2 hrec_22 x1 x2 (dI D 207 6) s0 D h
def f_X12_rounds_b22 (N : Nat) (rec_2 : Int32 → Dat → Option (Dat)) : Nat → Int32 → Int32 → Dat → Option (Dat)
  | 0, _, _, _ => none
  | g + 1, x1, x2, D => if 56 ≤ x2 then (rec_2 (x1 + 1) D) else (if 26 ≤ x2 then (f_X12_rounds_b62 N rec_2 (f_X12_rounds_b22 N rec_2 g) x1 x2 (((56 : Int32) * x1) + x2) D) else (if x2 < 0 ∨ 26 ≤ (x2).toNatClampNeg then none else (if (dI D 214 (x2).toNatClampNeg) < 0 then (f_X12_rounds_b62 N rec_2 (f_X12_rounds_b22 N rec_2 g) x1 x2 (((56 : Int32) * x1) + x2) D) else (if x2 < 0 ∨ 26 ≤ (x2).toNatClampNeg then none else (f_X12_rounds_b66 N rec_2 (f_X12_rounds_b22 N rec_2 g) x1 x2 (dI D 214 (x2).toNatClampNeg) (((56 : Int32) * x1) + x2) D)))))
set_option maxHeartbeats 4000000 in
theorem w_X12_rounds_b22 {X : Cx} {n nu c u : Nat} {K : Nat → Nat} {N : Nat} {rec_2 : Int32 → Dat → Option (Dat)} {z : Dat} (O : Ok X cX12_rounds RX12 none 4 94) (hm : wlm (xw X) = true) (hn : xn X = 3) (hz : Z0 X (Ax nu K c u)) (hrec_2 : ∀ (x1 : Int32) (D : Dat), rec_2 x1 D = some z → V X (Q0 X n (Ax nu K c u) none z) n (Ax nu K c u) D 2 [(0, .ref (bo X + pp 207)), (1, .int x1)] []) : ∀ (g : Nat) (x1 : Int32) (x2 : Int32) (D : Dat), f_X12_rounds_b22 N rec_2 g x1 x2 D = some z → V X (Q0 X n (Ax nu K c u) none z) n (Ax nu K c u) D 22 [(0, .ref (bo X + pp 207)), (1, .int x1), (2, .int x2)] [] := by
  intro g
  induction g with
  | zero => intro x1 x2 D h; exact absurd h (by simp [f_X12_rounds_b22])
  | succ g ih =>
    intro x1 x2 D h
    rw [f_X12_rounds_b22] at h
    refine v_iload_n (pc := 22) O dX12_rounds_22 2 rfl ?_
    refine v_bipush (pc := 23) O dX12_rounds_23 bp_56 ?_
    refine v_icmpge (pc := 25) 73 O dX12_rounds_25 (by decide) (fun c9 => ?_) (fun c9 => ?_)
    · have h := (if_pos c9).symm.trans h
      refine v_iinc (pc := 73) (lv' := [(1, .int (x1 + 1)), (0, .ref (bo X + pp 207)), (2, .int x2)]) O dX12_rounds_73 1 rfl (congrArg (fun q => x1 + q) ic_1) (by rw [hn]; decide) rfl ?_
      refine v_goto (pc := 76) 2 O dX12_rounds_76 (by decide) ?_
      refine v_sub [1, 0] rfl ?_
      exact hrec_2 (x1 + 1) D h
    · have h := (if_neg c9).symm.trans h
      refine v_aload_n (pc := 28) O dX12_rounds_28 0 rfl ?_
      refine v_getK (pc := 29) (a := 207) O hm gf_X12_70 fl_X12_144 kq_207 lk_207_70 dX12_rounds_29 ?_
      refine v_bipush (pc := 32) O dX12_rounds_32 bp_56 ?_
      refine v_iload_n (pc := 34) O dX12_rounds_34 1 rfl ?_
      refine v_imul (pc := 35) O dX12_rounds_35 ?_
      refine v_iload_n (pc := 36) O dX12_rounds_36 2 rfl ?_
      refine v_iadd (pc := 37) O dX12_rounds_37 ?_
      refine v_iload_n (pc := 38) O dX12_rounds_38 2 rfl ?_
      refine v_bipush (pc := 39) O dX12_rounds_39 bp_26 ?_
      refine v_icmpge (pc := 41) 62 O dX12_rounds_41 (by decide) (fun c10 => ?_) (fun c10 => ?_)
      · have h := (if_pos c10).symm.trans h
        refine v_sub [0, 1, 2] rfl ?_
        exact w_X12_rounds_b62 O hm hn hz hrec_2 ih x1 x2 (((56 : Int32) * x1) + x2) D h
      · have h := (if_neg c10).symm.trans h
        refine v_aload_n (pc := 44) O dX12_rounds_44 0 rfl ?_
        refine v_getK (pc := 45) (a := 207) O hm gf_X12_14 fl_X12_36 kq_207 lk_207_14 dX12_rounds_45 ?_
        refine v_iload_n (pc := 48) O dX12_rounds_48 2 rfl ?_
        obtain ⟨c11, h⟩ := or_none h
        refine v_iald (pc := 49) (a := 214) O kq_214 (inq lq_214 c11) dX12_rounds_49 ?_
        refine v_iflt (pc := 50) 62 O dX12_rounds_50 (by decide) (fun c12 => ?_) (fun c12 => ?_)
        · have h := (if_pos c12).symm.trans h
          refine v_sub [0, 1, 2] rfl ?_
          exact w_X12_rounds_b62 O hm hn hz hrec_2 ih x1 x2 (((56 : Int32) * x1) + x2) D h
        · have h := (if_neg c12).symm.trans h
          refine v_aload_n (pc := 53) O dX12_rounds_53 0 rfl ?_
          refine v_getK (pc := 54) (a := 207) O hm gf_X12_14 fl_X12_36 kq_207 lk_207_14 dX12_rounds_54 ?_
          refine v_iload_n (pc := 57) O dX12_rounds_57 2 rfl ?_
          obtain ⟨c13, h⟩ := or_none h
          refine v_iald (pc := 58) (a := 214) O kq_214 (inq lq_214 c13) dX12_rounds_58 ?_
          refine v_goto (pc := 59) 66 O dX12_rounds_59 (by decide) ?_
          refine v_sub [0, 1, 2] rfl ?_
          exact w_X12_rounds_b66 O hm hn hz hrec_2 ih x1 x2 (dI D 214 (x2).toNatClampNeg) (((56 : Int32) * x1) + x2) D h
def f_X12_rounds_b2 (N : Nat) : Nat → Int32 → Dat → Option (Dat)
  | 0, _, _ => none
  | g + 1, x1, D => if (dI D 207 13) ≤ x1 then (f_X12_rounds_b81 N N 1 D) else (if x1 < 0 ∨ 64 ≤ (x1).toNatClampNeg then none else (f_X12_rounds_b22 N (f_X12_rounds_b2 N g) N x1 0 (sI D 249 (x1).toNatClampNeg (dI D 207 6))))
set_option maxHeartbeats 4000000 in
theorem w_X12_rounds_b2 {X : Cx} {n nu c u : Nat} {K : Nat → Nat} {N : Nat} {z : Dat} (O : Ok X cX12_rounds RX12 none 4 94) (hm : wlm (xw X) = true) (hn : xn X = 3) (hz : Z0 X (Ax nu K c u)) : ∀ (g : Nat) (x1 : Int32) (D : Dat), f_X12_rounds_b2 N g x1 D = some z → V X (Q0 X n (Ax nu K c u) none z) n (Ax nu K c u) D 2 [(0, .ref (bo X + pp 207)), (1, .int x1)] [] := by
  intro g
  induction g with
  | zero => intro x1 D h; exact absurd h (by simp [f_X12_rounds_b2])
  | succ g ih =>
    intro x1 D h
    rw [f_X12_rounds_b2] at h
    refine v_iload_n (pc := 2) O dX12_rounds_2 1 rfl ?_
    refine v_aload_n (pc := 3) O dX12_rounds_3 0 rfl ?_
    refine v_getI (pc := 4) (a := 207) O gf_X12_13 fl_X12_406 kq_207 dX12_rounds_4 ?_
    refine v_icmpge (pc := 7) 79 O dX12_rounds_7 (by decide) (fun c14 => ?_) (fun c14 => ?_)
    · have h := (if_pos c14).symm.trans h
      refine v_iconst (pc := 79) O dX12_rounds_79 ic_1 ?_
      refine v_istore_n (pc := 80) (lv' := [(1, .int 1), (0, .ref (bo X + pp 207))]) O dX12_rounds_80 rfl (by rw [hn]; decide) rfl ?_
      refine v_sub [1, 0] rfl ?_
      exact w_X12_rounds_b81 O hm hn hz N 1 D h
    · have h := (if_neg c14).symm.trans h
      refine v_aload_n (pc := 10) O dX12_rounds_10 0 rfl ?_
      refine v_getK (pc := 11) (a := 207) O hm gf_X12_69 fl_X12_141 kq_207 lk_207_69 dX12_rounds_11 ?_
      refine v_iload_n (pc := 14) O dX12_rounds_14 1 rfl ?_
      refine v_aload_n (pc := 15) O dX12_rounds_15 0 rfl ?_
      refine v_getI (pc := 16) (a := 207) O gf_X12_6 fl_X12_210 kq_207 dX12_rounds_16 ?_
      obtain ⟨c15, h⟩ := or_none h
      refine v_iast (pc := 19) (a := 249) O kq_249 (inq lq_249 c15) dX12_rounds_19 ?_
      refine v_iconst (pc := 20) O dX12_rounds_20 ic_0 ?_
      refine v_istore_n (pc := 21) (lv' := [(2, .int 0), (0, .ref (bo X + pp 207)), (1, .int x1)]) O dX12_rounds_21 rfl (by rw [hn]; decide) rfl ?_
      refine v_sub [1, 2, 0] rfl ?_
      exact w_X12_rounds_b22 O hm hn hz ih N x1 0 (sI D 249 (x1).toNatClampNeg (dI D 207 6)) h
def f_X12_rounds (N : Nat) (D : Dat) : Option (Dat) :=
  f_X12_rounds_b2 N N 0 D
set_option maxHeartbeats 4000000 in
theorem w_X12_rounds {X : Cx} {n nu c u : Nat} {K : Nat → Nat} {N : Nat} {z : Dat} (O : Ok X cX12_rounds RX12 none 4 94) (hm : wlm (xw X) = true) (hn : xn X = 3) (hz : Z0 X (Ax nu K c u)) (D : Dat) (h : f_X12_rounds N D = some z) : V X (Q0 X n (Ax nu K c u) none z) n (Ax nu K c u) D 0 [(0, .ref (bo X + pp 207))] [] := by
  unfold f_X12_rounds at h
  refine v_iconst (pc := 0) O dX12_rounds_0 ic_0 ?_
  refine v_istore_n (pc := 1) (lv' := [(1, .int 0), (0, .ref (bo X + pp 207))]) O dX12_rounds_1 rfl (by rw [hn]; decide) rfl ?_
  refine v_sub [1, 0] rfl ?_
  exact w_X12_rounds_b2 O hm hn hz N 0 D h
theorem c_X12_rounds {l : Launch} {w : Wx} {n nu c u : Nat} {K : Nat → Nat} {N : Nat} (hm : wlm w = true) {D : Dat} {z : Dat} (h : f_X12_rounds N D = some z) : C0 l w yX12_rounds cX12_rounds 3 none 4 94 [.ref (wb w + pp 207)] n (Ax nu K c u) D none z :=
  C0.of (by decide) (Nat.le_of_ble_eq_true rfl) (fun X e1 e2 e3 hz O => by
  subst e1
  subst e2
  exact w_X12_rounds O hm e3 hz  D h)
def f_X12_leaks_b105 (N : Nat) (s0 : Int32) (D : Dat) : Option (Int32 × Dat) :=
  if s0 &&& 1 = s0 then some (s0, D) else none
set_option maxHeartbeats 4000000 in
theorem w_X12_leaks_b105 {X : Cx} {n nu c u : Nat} {K : Nat → Nat} {N : Nat} {z : Int32 × Dat} (O : Ok X cX12_leaks RX12 (some .boolean) 2 45) (hm : wlm (xw X) = true) (hn : xn X = 4) (hz : Z0 X (Ax nu K c u)) (s0 : Int32) (D : Dat) (h : f_X12_leaks_b105 N s0 D = some z) : V X (Q0 X n (Ax nu K c u) (some (.int z.1)) z.2) n (Ax nu K c u) D 105 [] [.int s0] := by
  unfold f_X12_leaks_b105 at h
  obtain ⟨c1, h⟩ := if_none h
  obtain rfl := Option.some.inj h
  exact v_zret (pc := 105) O hz (congrArg Value.int c1) dX12_leaks_105
def f_X12_leaks_b104 (N : Nat) (D : Dat) : Option (Int32 × Dat) :=
  f_X12_leaks_b105 N 0 D
set_option maxHeartbeats 4000000 in
theorem w_X12_leaks_b104 {X : Cx} {n nu c u : Nat} {K : Nat → Nat} {N : Nat} {z : Int32 × Dat} (O : Ok X cX12_leaks RX12 (some .boolean) 2 45) (hm : wlm (xw X) = true) (hn : xn X = 4) (hz : Z0 X (Ax nu K c u)) (D : Dat) (h : f_X12_leaks_b104 N D = some z) : V X (Q0 X n (Ax nu K c u) (some (.int z.1)) z.2) n (Ax nu K c u) D 104 [] [] := by
  unfold f_X12_leaks_b104 at h
  refine v_iconst (pc := 104) O dX12_leaks_104 ic_0 ?_
  refine v_sub [] rfl ?_
  exact w_X12_leaks_b105 O hm hn hz 0 D h
def f_X12_leaks_b129 (N : Nat) (s0 : Int32) (D : Dat) : Option (Int32 × Dat) :=
  if s0 &&& 1 = s0 then some (s0, D) else none
set_option maxHeartbeats 4000000 in
theorem w_X12_leaks_b129 {X : Cx} {n nu c u : Nat} {K : Nat → Nat} {N : Nat} {z : Int32 × Dat} (O : Ok X cX12_leaks RX12 (some .boolean) 2 45) (hm : wlm (xw X) = true) (hn : xn X = 4) (hz : Z0 X (Ax nu K c u)) (s0 : Int32) (D : Dat) (h : f_X12_leaks_b129 N s0 D = some z) : V X (Q0 X n (Ax nu K c u) (some (.int z.1)) z.2) n (Ax nu K c u) D 129 [] [.int s0] := by
  unfold f_X12_leaks_b129 at h
  obtain ⟨c2, h⟩ := if_none h
  obtain rfl := Option.some.inj h
  exact v_zret (pc := 129) O hz (congrArg Value.int c2) dX12_leaks_129
def f_X12_leaks_b149 (N : Nat) (s0 : Int32) (D : Dat) : Option (Int32 × Dat) :=
  if s0 &&& 1 = s0 then some (s0, D) else none
set_option maxHeartbeats 4000000 in
theorem w_X12_leaks_b149 {X : Cx} {n nu c u : Nat} {K : Nat → Nat} {N : Nat} {z : Int32 × Dat} (O : Ok X cX12_leaks RX12 (some .boolean) 2 45) (hm : wlm (xw X) = true) (hn : xn X = 4) (hz : Z0 X (Ax nu K c u)) (s0 : Int32) (D : Dat) (h : f_X12_leaks_b149 N s0 D = some z) : V X (Q0 X n (Ax nu K c u) (some (.int z.1)) z.2) n (Ax nu K c u) D 149 [] [.int s0] := by
  unfold f_X12_leaks_b149 at h
  obtain ⟨c3, h⟩ := if_none h
  obtain rfl := Option.some.inj h
  exact v_zret (pc := 149) O hz (congrArg Value.int c3) dX12_leaks_149
def f_X12_leaks_b130 (N : Nat) (x2 : Int32) (x3 : Int32) (D : Dat) : Option (Int32 × Dat) :=
  if (((6 : Int32) * x2) + x3) < 0 ∨ 36 ≤ ((((6 : Int32) * x2) + x3)).toNatClampNeg then none else (if (dI D 208 (((6 : Int32) * x2) + x3).toNatClampNeg) = 0 then (f_X12_leaks_b149 N 1 D) else (f_X12_leaks_b149 N 0 D))
set_option maxHeartbeats 4000000 in
theorem w_X12_leaks_b130 {X : Cx} {n nu c u : Nat} {K : Nat → Nat} {N : Nat} {z : Int32 × Dat} (O : Ok X cX12_leaks RX12 (some .boolean) 2 45) (hm : wlm (xw X) = true) (hn : xn X = 4) (hz : Z0 X (Ax nu K c u)) (x2 : Int32) (x3 : Int32) (D : Dat) (h : f_X12_leaks_b130 N x2 x3 D = some z) : V X (Q0 X n (Ax nu K c u) (some (.int z.1)) z.2) n (Ax nu K c u) D 130 [(0, .ref (bo X + pp 207)), (2, .int x2), (3, .int x3)] [] := by
  unfold f_X12_leaks_b130 at h
  refine v_aload_n (pc := 130) O dX12_leaks_130 0 rfl ?_
  refine v_getK (pc := 131) (a := 207) O hm gf_X12_2 fl_X12_7 kq_207 lk_207_2 dX12_leaks_131 ?_
  refine v_bipush (pc := 134) O dX12_leaks_134 bp_6 ?_
  refine v_iload_n (pc := 136) O dX12_leaks_136 1 rfl ?_
  refine v_imul (pc := 137) O dX12_leaks_137 ?_
  refine v_iload_n (pc := 138) O dX12_leaks_138 2 rfl ?_
  refine v_iadd (pc := 139) O dX12_leaks_139 ?_
  obtain ⟨c4, h⟩ := or_none h
  refine v_zald (pc := 140) (a := 208) O kq_208 (inq lq_208 c4) dX12_leaks_140 ?_
  refine v_ifne (pc := 141) 148 O dX12_leaks_141 (by decide) (fun c5 => ?_) (fun c5 => ?_)
  · have h := (if_neg c5).symm.trans h
    refine v_iconst (pc := 148) O dX12_leaks_148 ic_0 ?_
    refine v_sub [] rfl ?_
    exact w_X12_leaks_b149 O hm hn hz 0 D h
  · have h := (if_pos c5).symm.trans h
    refine v_iconst (pc := 144) O dX12_leaks_144 ic_1 ?_
    refine v_goto (pc := 145) 149 O dX12_leaks_145 (by decide) ?_
    refine v_sub [] rfl ?_
    exact w_X12_leaks_b149 O hm hn hz 1 D h
def f_X12_leaks (N : Nat) (x1 : Int32) (D : Dat) : Option (Int32 × Dat) :=
  if x1 < 0 ∨ 64 ≤ (x1).toNatClampNeg then none else ((f_X12_taken N x1 D).bind (fun p7 => (f_X12_join (dI D 249 (x1).toNatClampNeg) p7.1 p7.2).bind (fun p9 => if x1 < 0 ∨ 64 ≤ (x1).toNatClampNeg then none else (if x1 < 0 ∨ 64 ≤ (x1).toNatClampNeg then none else (if (dI p9.2 212 (x1).toNatClampNeg) = (2 : Int32) then (if (dI p9.2 213 (x1).toNatClampNeg) < 0 ∨ 26 ≤ ((dI p9.2 213 (x1).toNatClampNeg)).toNatClampNeg then none else (if (dI p9.2 214 (dI p9.2 213 (x1).toNatClampNeg).toNatClampNeg) < 0 then (f_X12_leaks_b104 N p9.2) else (if (dI p9.2 213 (x1).toNatClampNeg) < 0 ∨ 26 ≤ ((dI p9.2 213 (x1).toNatClampNeg)).toNatClampNeg then none else (if (((6 : Int32) * p9.1) + (dI p9.2 214 (dI p9.2 213 (x1).toNatClampNeg).toNatClampNeg)) < 0 ∨ 36 ≤ ((((6 : Int32) * p9.1) + (dI p9.2 214 (dI p9.2 213 (x1).toNatClampNeg).toNatClampNeg))).toNatClampNeg then none else (if (dI p9.2 208 (((6 : Int32) * p9.1) + (dI p9.2 214 (dI p9.2 213 (x1).toNatClampNeg).toNatClampNeg)).toNatClampNeg) = 0 then (f_X12_leaks_b105 N 1 p9.2) else (f_X12_leaks_b104 N p9.2)))))) else (if (dI p9.2 212 (x1).toNatClampNeg) = (4 : Int32) then ((f_X12_rowOf (dI p9.2 213 (x1).toNatClampNeg) p9.2).bind (fun p20 => if (((6 : Int32) * p9.1) + p20.1) < 0 ∨ 36 ≤ ((((6 : Int32) * p9.1) + p20.1)).toNatClampNeg then none else (if (dI p20.2 208 (((6 : Int32) * p9.1) + p20.1).toNatClampNeg) = 0 then (f_X12_leaks_b129 N 1 p20.2) else (f_X12_leaks_b129 N 0 p20.2)))) else (if (dI p9.2 212 (x1).toNatClampNeg) = (13 : Int32) then (f_X12_leaks_b130 N p9.1 (dI p9.2 213 (x1).toNatClampNeg) p9.2) else (if (dI p9.2 212 (x1).toNatClampNeg) = (14 : Int32) then (f_X12_leaks_b130 N p9.1 (dI p9.2 213 (x1).toNatClampNeg) p9.2) else (some (0, p9.2))))))))))
set_option maxHeartbeats 4000000 in
theorem w_X12_leaks {X : Cx} {n nu c u : Nat} {K : Nat → Nat} {N : Nat} {z : Int32 × Dat} (O : Ok X cX12_leaks RX12 (some .boolean) 2 45) (hm : wlm (xw X) = true) (hn : xn X = 4) (hz : Z0 X (Ax nu K c u)) (x1 : Int32) (D : Dat) (h : f_X12_leaks N x1 D = some z) : V X (Q0 X n (Ax nu K c u) (some (.int z.1)) z.2) n (Ax nu K c u) D 0 [(0, .ref (bo X + pp 207)), (1, .int x1)] [] := by
  unfold f_X12_leaks at h
  refine v_aload_n (pc := 0) O dX12_leaks_0 0 rfl ?_
  refine v_aload_n (pc := 1) O dX12_leaks_1 0 rfl ?_
  refine v_getK (pc := 2) (a := 207) O hm gf_X12_69 fl_X12_141 kq_207 lk_207_69 dX12_leaks_2 ?_
  refine v_iload_n (pc := 5) O dX12_leaks_5 1 rfl ?_
  obtain ⟨c6, h⟩ := or_none h
  refine v_iald (pc := 6) (a := 249) O kq_249 (inq lq_249 c6) dX12_leaks_6 ?_
  refine v_aload_n (pc := 7) O dX12_leaks_7 0 rfl ?_
  refine v_iload_n (pc := 8) O dX12_leaks_8 1 rfl ?_
  obtain ⟨p7, e8, h⟩ := bind_some h
  refine v_callV (pc := 9) (a := 207) (As := [.int x1]) (rest := [.int (dI D 249 (x1).toNatClampNeg), .ref (bo X + pp 207)]) (r := (some (.int p7.1))) (D' := p7.2) O (bb0 hz) (c_X12_taken hm e8) mw_X12_taken im_X12_taken se_X12_taken ml_X12_436 kq_207 (by decide) rfl rfl rfl (by decide) (by decide) (Nat.le_of_ble_eq_true rfl) dX12_leaks_9 rfl rfl ?_
  obtain ⟨p9, e10, h⟩ := bind_some h
  refine v_callV (pc := 12) (a := 207) (As := [.int (dI D 249 (x1).toNatClampNeg), .int p7.1]) (rest := []) (r := (some (.int p9.1))) (D' := p9.2) O (bb0 hz) (c_X12_join hm e10) mw_X12_join im_X12_join se_X12_join ml_X12_347 kq_207 (by decide) rfl rfl rfl (by decide) (by decide) (Nat.le_of_ble_eq_true rfl) dX12_leaks_12 rfl rfl ?_
  refine v_istore_n (pc := 15) (lv' := [(2, .int p9.1), (0, .ref (bo X + pp 207)), (1, .int x1)]) O dX12_leaks_15 rfl (by rw [hn]; decide) rfl ?_
  refine v_aload_n (pc := 16) O dX12_leaks_16 1 rfl ?_
  refine v_getK (pc := 17) (a := 207) O hm gf_X12_12 fl_X12_33 kq_207 lk_207_12 dX12_leaks_17 ?_
  refine v_iload_n (pc := 20) O dX12_leaks_20 2 rfl ?_
  obtain ⟨c11, h⟩ := or_none h
  refine v_iald (pc := 21) (a := 213) O kq_213 (inq lq_213 c11) dX12_leaks_21 ?_
  refine v_istore_n (pc := 22) (lv' := [(3, .int (dI p9.2 213 (x1).toNatClampNeg)), (2, .int p9.1), (0, .ref (bo X + pp 207)), (1, .int x1)]) O dX12_leaks_22 rfl (by rw [hn]; decide) rfl ?_
  refine v_aload_n (pc := 23) O dX12_leaks_23 2 rfl ?_
  refine v_getK (pc := 24) (a := 207) O hm gf_X12_11 fl_X12_30 kq_207 lk_207_11 dX12_leaks_24 ?_
  refine v_iload_n (pc := 27) O dX12_leaks_27 3 rfl ?_
  obtain ⟨c12, h⟩ := or_none h
  refine v_iald (pc := 28) (a := 212) O kq_212 (inq lq_212 c12) dX12_leaks_28 ?_
  by_cases c13 : (dI p9.2 212 (x1).toNatClampNeg) = (2 : Int32)
  · have h := (if_pos c13).symm.trans h
    refine v_lookup (pc := 29) 72 O dX12_leaks_29 (by decide) (by rw [c13]) (by decide) ?_
    refine v_aload_n (pc := 72) O dX12_leaks_72 2 rfl ?_
    refine v_getK (pc := 73) (a := 207) O hm gf_X12_14 fl_X12_36 kq_207 lk_207_14 dX12_leaks_73 ?_
    refine v_iload_n (pc := 76) O dX12_leaks_76 0 rfl ?_
    obtain ⟨c14, h⟩ := or_none h
    refine v_iald (pc := 77) (a := 214) O kq_214 (inq lq_214 c14) dX12_leaks_77 ?_
    refine v_iflt (pc := 78) 104 O dX12_leaks_78 (by decide) (fun c15 => ?_) (fun c15 => ?_)
    · have h := (if_pos c15).symm.trans h
      refine v_sub [] rfl ?_
      exact w_X12_leaks_b104 O hm hn hz p9.2 h
    · have h := (if_neg c15).symm.trans h
      refine v_aload_n (pc := 81) O dX12_leaks_81 2 rfl ?_
      refine v_getK (pc := 82) (a := 207) O hm gf_X12_2 fl_X12_7 kq_207 lk_207_2 dX12_leaks_82 ?_
      refine v_bipush (pc := 85) O dX12_leaks_85 bp_6 ?_
      refine v_iload_n (pc := 87) O dX12_leaks_87 1 rfl ?_
      refine v_imul (pc := 88) O dX12_leaks_88 ?_
      refine v_aload_n (pc := 89) O dX12_leaks_89 2 rfl ?_
      refine v_getK (pc := 90) (a := 207) O hm gf_X12_14 fl_X12_36 kq_207 lk_207_14 dX12_leaks_90 ?_
      refine v_iload_n (pc := 93) O dX12_leaks_93 0 rfl ?_
      obtain ⟨c16, h⟩ := or_none h
      refine v_iald (pc := 94) (a := 214) O kq_214 (inq lq_214 c16) dX12_leaks_94 ?_
      refine v_iadd (pc := 95) O dX12_leaks_95 ?_
      obtain ⟨c17, h⟩ := or_none h
      refine v_zald (pc := 96) (a := 208) O kq_208 (inq lq_208 c17) dX12_leaks_96 ?_
      refine v_ifne (pc := 97) 104 O dX12_leaks_97 (by decide) (fun c18 => ?_) (fun c18 => ?_)
      · have h := (if_neg c18).symm.trans h
        refine v_sub [] rfl ?_
        exact w_X12_leaks_b104 O hm hn hz p9.2 h
      · have h := (if_pos c18).symm.trans h
        refine v_iconst (pc := 100) O dX12_leaks_100 ic_1 ?_
        refine v_goto (pc := 101) 105 O dX12_leaks_101 (by decide) ?_
        refine v_sub [] rfl ?_
        exact w_X12_leaks_b105 O hm hn hz 1 p9.2 h
  · have h := (if_neg c13).symm.trans h
    by_cases c19 : (dI p9.2 212 (x1).toNatClampNeg) = (4 : Int32)
    · have h := (if_pos c19).symm.trans h
      refine v_lookup (pc := 29) 106 O dX12_leaks_29 (by decide) (by rw [c19]) (by decide) ?_
      refine v_aload_n (pc := 106) O dX12_leaks_106 2 rfl ?_
      refine v_getK (pc := 107) (a := 207) O hm gf_X12_2 fl_X12_7 kq_207 lk_207_2 dX12_leaks_107 ?_
      refine v_bipush (pc := 110) O dX12_leaks_110 bp_6 ?_
      refine v_iload_n (pc := 112) O dX12_leaks_112 1 rfl ?_
      refine v_imul (pc := 113) O dX12_leaks_113 ?_
      refine v_aload_n (pc := 114) O dX12_leaks_114 2 rfl ?_
      refine v_iload_n (pc := 115) O dX12_leaks_115 0 rfl ?_
      obtain ⟨p20, e21, h⟩ := bind_some h
      refine v_callV (pc := 116) (a := 207) (As := [.int (dI p9.2 213 (x1).toNatClampNeg)]) (rest := [.int ((6 : Int32) * p9.1), .ref (bo X + pp 208)]) (r := (some (.int p20.1))) (D' := p20.2) O (bb0 hz) (c_X12_rowOf hm e21) mw_X12_rowOf im_X12_rowOf se_X12_rowOf ml_X12_439 kq_207 (by decide) rfl rfl rfl (by decide) (by decide) (Nat.le_of_ble_eq_true rfl) dX12_leaks_116 rfl rfl ?_
      refine v_iadd (pc := 119) O dX12_leaks_119 ?_
      obtain ⟨c22, h⟩ := or_none h
      refine v_zald (pc := 120) (a := 208) O kq_208 (inq lq_208 c22) dX12_leaks_120 ?_
      refine v_ifne (pc := 121) 128 O dX12_leaks_121 (by decide) (fun c23 => ?_) (fun c23 => ?_)
      · have h := (if_neg c23).symm.trans h
        refine v_iconst (pc := 128) O dX12_leaks_128 ic_0 ?_
        refine v_sub [] rfl ?_
        exact w_X12_leaks_b129 O hm hn hz 0 p20.2 h
      · have h := (if_pos c23).symm.trans h
        refine v_iconst (pc := 124) O dX12_leaks_124 ic_1 ?_
        refine v_goto (pc := 125) 129 O dX12_leaks_125 (by decide) ?_
        refine v_sub [] rfl ?_
        exact w_X12_leaks_b129 O hm hn hz 1 p20.2 h
    · have h := (if_neg c19).symm.trans h
      by_cases c24 : (dI p9.2 212 (x1).toNatClampNeg) = (13 : Int32)
      · have h := (if_pos c24).symm.trans h
        refine v_lookup (pc := 29) 130 O dX12_leaks_29 (by decide) (by rw [c24]) (by decide) ?_
        refine v_sub [2, 1, 0] rfl ?_
        exact w_X12_leaks_b130 O hm hn hz p9.1 (dI p9.2 213 (x1).toNatClampNeg) p9.2 h
      · have h := (if_neg c24).symm.trans h
        by_cases c25 : (dI p9.2 212 (x1).toNatClampNeg) = (14 : Int32)
        · have h := (if_pos c25).symm.trans h
          refine v_lookup (pc := 29) 130 O dX12_leaks_29 (by decide) (by rw [c25]) (by decide) ?_
          refine v_sub [2, 1, 0] rfl ?_
          exact w_X12_leaks_b130 O hm hn hz p9.1 (dI p9.2 213 (x1).toNatClampNeg) p9.2 h
        · have h := (if_neg c25).symm.trans h
          refine v_lookup (pc := 29) 150 O dX12_leaks_29 (by decide) (by have c13i := ne_i (2) rfl c13; have c19i := ne_i (4) rfl c19; have c24i := ne_i (13) rfl c24; have c25i := ne_i (14) rfl c25; exact lk_out _ _ _ (by simp [Ne.symm c13i, Ne.symm c19i, Ne.symm c24i, Ne.symm c25i])) (by decide) ?_
          refine v_iconst (pc := 150) O dX12_leaks_150 ic_0 ?_
          obtain rfl := Option.some.inj h
          exact v_zret (pc := 151) O hz narrow_b0 dX12_leaks_151
theorem c_X12_leaks {l : Launch} {w : Wx} {n nu c u : Nat} {K : Nat → Nat} {N : Nat} (hm : wlm w = true) {x1 : Int32} {D : Dat} {z : Int32 × Dat} (h : f_X12_leaks N x1 D = some z) : C0 l w yX12_leaks cX12_leaks 4 (some .boolean) 2 45 [.ref (wb w + pp 207), .int x1] n (Ax nu K c u) D (some (.int z.1)) z.2 :=
  C0.of (by decide) (Nat.le_of_ble_eq_true rfl) (fun X e1 e2 e3 hz O => by
  subst e1
  subst e2
  exact w_X12_leaks O hm e3 hz x1 D h)
def f_X12_heights_b40 (N : Nat) : Nat → Int32 → Dat → Option (Int32 × Dat)
  | 0, _, _ => none
  | g + 1, x1, D => if x1 < 0 then (some (0, D)) else ((f_X12_look N x1 D).bind (fun p2 => if p2.1 ≤ 0 then ((f_X12_leastOpen N p2.2).bind (fun p5 => (f_X12_heights_b40 N g) p5.1 p5.2)) else ((f_X12_refuse x1 p2.1 2 p2.2).bind (fun p7 => some (p7.1, p7.2)))))
set_option maxHeartbeats 4000000 in
theorem w_X12_heights_b40 {X : Cx} {n nu c u : Nat} {K : Nat → Nat} {N : Nat} {z : Int32 × Dat} (O : Ok X cX12_heights RX12 (some .int) 2 46) (hm : wlm (xw X) = true) (hn : xn X = 3) (hz : Z0 X (Ax nu K c u)) : ∀ (g : Nat) (x1 : Int32) (D : Dat), f_X12_heights_b40 N g x1 D = some z → V X (Q0 X n (Ax nu K c u) (some (.int z.1)) z.2) n (Ax nu K c u) D 40 [(0, .ref (bo X + pp 207)), (1, .int x1)] [] := by
  intro g
  induction g with
  | zero => intro x1 D h; exact absurd h (by simp [f_X12_heights_b40])
  | succ g ih =>
    intro x1 D h
    rw [f_X12_heights_b40] at h
    refine v_iload_n (pc := 40) O dX12_heights_40 1 rfl ?_
    refine v_iflt (pc := 41) 70 O dX12_heights_41 (by decide) (fun c1 => ?_) (fun c1 => ?_)
    · have h := (if_pos c1).symm.trans h
      refine v_iconst (pc := 70) O dX12_heights_70 ic_0 ?_
      obtain rfl := Option.some.inj h
      exact v_iret (pc := 71) O hz dX12_heights_71
    · have h := (if_neg c1).symm.trans h
      refine v_aload_n (pc := 44) O dX12_heights_44 0 rfl ?_
      refine v_iload_n (pc := 45) O dX12_heights_45 1 rfl ?_
      obtain ⟨p2, e3, h⟩ := bind_some h
      refine v_callV (pc := 46) (a := 207) (As := [.int x1]) (rest := []) (r := (some (.int p2.1))) (D' := p2.2) O (bb0 hz) (c_X12_look hm e3) mw_X12_look im_X12_look se_X12_look ml_X12_451 kq_207 (by decide) rfl rfl rfl (by decide) (by decide) (Nat.le_of_ble_eq_true rfl) dX12_heights_46 rfl rfl ?_
      refine v_istore_n (pc := 49) (lv' := [(2, .int p2.1), (0, .ref (bo X + pp 207)), (1, .int x1)]) O dX12_heights_49 rfl (by rw [hn]; decide) rfl ?_
      refine v_iload_n (pc := 50) O dX12_heights_50 0 rfl ?_
      refine v_ifle (pc := 51) 62 O dX12_heights_51 (by decide) (fun c4 => ?_) (fun c4 => ?_)
      · have h := (if_pos c4).symm.trans h
        refine v_aload_n (pc := 62) O dX12_heights_62 1 rfl ?_
        obtain ⟨p5, e6, h⟩ := bind_some h
        refine v_callV (pc := 63) (a := 207) (As := []) (rest := []) (r := (some (.int p5.1))) (D' := p5.2) O (bb0 hz) (c_X12_leastOpen hm e6) mw_X12_leastOpen im_X12_leastOpen se_X12_leastOpen ml_X12_448 kq_207 (by decide) rfl rfl rfl (by decide) (by decide) (Nat.le_of_ble_eq_true rfl) dX12_heights_63 rfl rfl ?_
        refine v_istore_n (pc := 66) (lv' := [(1, .int p5.1), (2, .int p2.1), (0, .ref (bo X + pp 207))]) O dX12_heights_66 rfl (by rw [hn]; decide) rfl ?_
        refine v_goto (pc := 67) 40 O dX12_heights_67 (by decide) ?_
        refine v_sub [2, 0] rfl ?_
        exact ih p5.1 p5.2 h
      · have h := (if_neg c4).symm.trans h
        refine v_aload_n (pc := 54) O dX12_heights_54 1 rfl ?_
        refine v_iload_n (pc := 55) O dX12_heights_55 2 rfl ?_
        refine v_iload_n (pc := 56) O dX12_heights_56 0 rfl ?_
        refine v_iconst (pc := 57) O dX12_heights_57 ic_2 ?_
        obtain ⟨p7, e8, h⟩ := bind_some h
        refine v_callV (pc := 58) (a := 207) (As := [.int x1, .int p2.1, .int 2]) (rest := []) (r := (some (.int p7.1))) (D' := p7.2) O (bb0 hz) (c_X12_refuse hm e8) mw_X12_refuse im_X12_refuse se_X12_refuse ml_X12_206 kq_207 (by decide) rfl rfl rfl (by decide) (by decide) (Nat.le_of_ble_eq_true rfl) dX12_heights_58 rfl rfl ?_
        obtain rfl := Option.some.inj h
        exact v_iret (pc := 61) O hz dX12_heights_61
def f_X12_heights_b2 (N : Nat) : Nat → Int32 → Dat → Option (Int32 × Dat)
  | 0, _, _ => none
  | g + 1, x1, D => if 64 ≤ x1 then ((f_X12_leastOpen N (sI D 245 (0 : Int32).toNatClampNeg 0)).bind (fun p10 => f_X12_heights_b40 N N p10.1 p10.2)) else (if x1 < 0 ∨ 64 ≤ (x1).toNatClampNeg then none else (if x1 < 0 ∨ 64 ≤ (x1).toNatClampNeg then none else ((f_X12_heights_b2 N g) (x1 + 1) (sI (sI D 245 (x1).toNatClampNeg (-1)) 246 (x1).toNatClampNeg ((0 : Int32) &&& 1)))))
set_option maxHeartbeats 4000000 in
theorem w_X12_heights_b2 {X : Cx} {n nu c u : Nat} {K : Nat → Nat} {N : Nat} {z : Int32 × Dat} (O : Ok X cX12_heights RX12 (some .int) 2 46) (hm : wlm (xw X) = true) (hn : xn X = 3) (hz : Z0 X (Ax nu K c u)) : ∀ (g : Nat) (x1 : Int32) (D : Dat), f_X12_heights_b2 N g x1 D = some z → V X (Q0 X n (Ax nu K c u) (some (.int z.1)) z.2) n (Ax nu K c u) D 2 [(0, .ref (bo X + pp 207)), (1, .int x1)] [] := by
  intro g
  induction g with
  | zero => intro x1 D h; exact absurd h (by simp [f_X12_heights_b2])
  | succ g ih =>
    intro x1 D h
    rw [f_X12_heights_b2] at h
    refine v_iload_n (pc := 2) O dX12_heights_2 1 rfl ?_
    refine v_bipush (pc := 3) O dX12_heights_3 bp_64 ?_
    refine v_icmpge (pc := 5) 28 O dX12_heights_5 (by decide) (fun c9 => ?_) (fun c9 => ?_)
    · have h := (if_pos c9).symm.trans h
      refine v_aload_n (pc := 28) O dX12_heights_28 0 rfl ?_
      refine v_getK (pc := 29) (a := 207) O hm gf_X12_65 fl_X12_129 kq_207 lk_207_65 dX12_heights_29 ?_
      refine v_iconst (pc := 32) O dX12_heights_32 ic_0 ?_
      refine v_iconst (pc := 33) O dX12_heights_33 ic_0 ?_
      refine v_iast (pc := 34) (a := 245) O kq_245 (inq lq_245 (by decide)) dX12_heights_34 ?_
      refine v_aload_n (pc := 35) O dX12_heights_35 0 rfl ?_
      obtain ⟨p10, e11, h⟩ := bind_some h
      refine v_callV (pc := 36) (a := 207) (As := []) (rest := []) (r := (some (.int p10.1))) (D' := p10.2) O (bb0 hz) (c_X12_leastOpen hm e11) mw_X12_leastOpen im_X12_leastOpen se_X12_leastOpen ml_X12_448 kq_207 (by decide) rfl rfl rfl (by decide) (by decide) (Nat.le_of_ble_eq_true rfl) dX12_heights_36 rfl rfl ?_
      refine v_istore_n (pc := 39) (lv' := [(1, .int p10.1), (0, .ref (bo X + pp 207))]) O dX12_heights_39 rfl (by rw [hn]; decide) rfl ?_
      refine v_sub [1, 0] rfl ?_
      exact w_X12_heights_b40 O hm hn hz N p10.1 p10.2 h
    · have h := (if_neg c9).symm.trans h
      refine v_aload_n (pc := 8) O dX12_heights_8 0 rfl ?_
      refine v_getK (pc := 9) (a := 207) O hm gf_X12_65 fl_X12_129 kq_207 lk_207_65 dX12_heights_9 ?_
      refine v_iload_n (pc := 12) O dX12_heights_12 1 rfl ?_
      refine v_iconst (pc := 13) O dX12_heights_13 ic_m1 ?_
      obtain ⟨c12, h⟩ := or_none h
      refine v_iast (pc := 14) (a := 245) O kq_245 (inq lq_245 c12) dX12_heights_14 ?_
      refine v_aload_n (pc := 15) O dX12_heights_15 0 rfl ?_
      refine v_getK (pc := 16) (a := 207) O hm gf_X12_66 fl_X12_132 kq_207 lk_207_66 dX12_heights_16 ?_
      refine v_iload_n (pc := 19) O dX12_heights_19 1 rfl ?_
      refine v_iconst (pc := 20) O dX12_heights_20 ic_0 ?_
      obtain ⟨c13, h⟩ := or_none h
      refine v_zast (pc := 21) (a := 246) O kq_246 (inq lq_246 c13) dX12_heights_21 ?_
      refine v_iinc (pc := 22) (lv' := [(1, .int (x1 + 1)), (0, .ref (bo X + pp 207))]) O dX12_heights_22 1 rfl (congrArg (fun q => x1 + q) ic_1) (by rw [hn]; decide) rfl ?_
      refine v_goto (pc := 25) 2 O dX12_heights_25 (by decide) ?_
      refine v_sub [1, 0] rfl ?_
      exact ih (x1 + 1) (sI (sI D 245 (x1).toNatClampNeg (-1)) 246 (x1).toNatClampNeg ((0 : Int32) &&& 1)) h
def f_X12_heights (N : Nat) (D : Dat) : Option (Int32 × Dat) :=
  f_X12_heights_b2 N N 0 D
set_option maxHeartbeats 4000000 in
theorem w_X12_heights {X : Cx} {n nu c u : Nat} {K : Nat → Nat} {N : Nat} {z : Int32 × Dat} (O : Ok X cX12_heights RX12 (some .int) 2 46) (hm : wlm (xw X) = true) (hn : xn X = 3) (hz : Z0 X (Ax nu K c u)) (D : Dat) (h : f_X12_heights N D = some z) : V X (Q0 X n (Ax nu K c u) (some (.int z.1)) z.2) n (Ax nu K c u) D 0 [(0, .ref (bo X + pp 207))] [] := by
  unfold f_X12_heights at h
  refine v_iconst (pc := 0) O dX12_heights_0 ic_0 ?_
  refine v_istore_n (pc := 1) (lv' := [(1, .int 0), (0, .ref (bo X + pp 207))]) O dX12_heights_1 rfl (by rw [hn]; decide) rfl ?_
  refine v_sub [1, 0] rfl ?_
  exact w_X12_heights_b2 O hm hn hz N 0 D h
theorem c_X12_heights {l : Launch} {w : Wx} {n nu c u : Nat} {K : Nat → Nat} {N : Nat} (hm : wlm w = true) {D : Dat} {z : Int32 × Dat} (h : f_X12_heights N D = some z) : C0 l w yX12_heights cX12_heights 3 (some .int) 2 46 [.ref (wb w + pp 207)] n (Ax nu K c u) D (some (.int z.1)) z.2 :=
  C0.of (by decide) (Nat.le_of_ble_eq_true rfl) (fun X e1 e2 e3 hz O => by
  subst e1
  subst e2
  exact w_X12_heights O hm e3 hz  D h)
