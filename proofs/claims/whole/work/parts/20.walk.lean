theorem cw_X12_reach : Cond.code yX12_reach cX12_reach 8 none ∈ tb := tb_of 2247 (by decide +kernel) (by decide +kernel)
theorem mw_X12_reach : MW yX12_reach cX12_reach 8 none 2 := ⟨cw_X12_reach, ini_X12, by decide +kernel⟩
theorem im_X12_reach : Cond.instanceMethod yX12_reach ∈ tb := tb_of 2246 (by decide +kernel) (by decide +kernel)
theorem se_X12_reach : Cond.selects (yX12_reach).cls yX12_reach yX12_reach ∈ tb := tb_of 140 (by decide +kernel) (by decide +kernel)
theorem ml_X12_427 : Cond.methodLink RX12 427 yX12_reach ∈ tb := tb_of 2244 (by decide +kernel) (by decide +kernel)
theorem cw_X12_halts : Cond.code yX12_halts cX12_halts 2 (some .boolean) ∈ tb := tb_of 2251 (by decide +kernel) (by decide +kernel)
theorem mw_X12_halts : MW yX12_halts cX12_halts 2 (some .boolean) 0 := ⟨cw_X12_halts, ini_X12, by decide +kernel⟩
theorem im_X12_halts : Cond.instanceMethod yX12_halts ∈ tb := tb_of 2250 (by decide +kernel) (by decide +kernel)
theorem se_X12_halts : Cond.selects (yX12_halts).cls yX12_halts yX12_halts ∈ tb := tb_of 141 (by decide +kernel) (by decide +kernel)
theorem ml_X12_430 : Cond.methodLink RX12 430 yX12_halts ∈ tb := tb_of 2248 (by decide +kernel) (by decide +kernel)
theorem fl_X12_153 : Cond.fieldLink RX12 153 RX12 (TX12 73).2.1 (TX12 73).2.2.1 ∈ tb := tb_of 1793 (by decide +kernel) (by decide +kernel)
theorem gf_X12_73 : FI 12 RX12 TX12 85 tyX12 73 3 := ⟨rfl, inb_X12, tyX12_ok, nmX12, by decide, by decide, rfl, rfl, rfl⟩
theorem lk_207_73 : lks 207 73 = some 253 := by decide +kernel
theorem kq_253 {nu c u : Nat} {K : Nat → Nat} : (Ax nu K c u).1 253 = 16 := kd_lt (K := K) (a := 253) (by decide) rfl
theorem lq_253 {nu c u : Nat} {K : Nat → Nat} : (Ax nu K c u).2.1 253 = 64 := rfl
theorem fl_X12_135 : Cond.fieldLink RX12 135 RX12 (TX12 67).2.1 (TX12 67).2.2.1 ∈ tb := tb_of 1787 (by decide +kernel) (by decide +kernel)
theorem gf_X12_67 : FI 12 RX12 TX12 85 tyX12 67 3 := ⟨rfl, inb_X12, tyX12_ok, nmX12, by decide, by decide, rfl, rfl, rfl⟩
theorem lk_207_67 : lks 207 67 = some 247 := by decide +kernel
theorem kq_247 {nu c u : Nat} {K : Nat → Nat} : (Ax nu K c u).1 247 = 14 := kd_lt (K := K) (a := 247) (by decide) rfl
theorem lq_247 {nu c u : Nat} {K : Nat → Nat} : (Ax nu K c u).2.1 247 = 64 := rfl
theorem cw_X12_meeting : Cond.code yX12_meeting cX12_meeting 5 (some .int) ∈ tb := tb_of 2243 (by decide +kernel) (by decide +kernel)
theorem mw_X12_meeting : MW yX12_meeting cX12_meeting 5 (some .int) 1 := ⟨cw_X12_meeting, ini_X12, by decide +kernel⟩
theorem im_X12_meeting : Cond.instanceMethod yX12_meeting ∈ tb := tb_of 2242 (by decide +kernel) (by decide +kernel)
theorem se_X12_meeting : Cond.selects (yX12_meeting).cls yX12_meeting yX12_meeting ∈ tb := tb_of 139 (by decide +kernel) (by decide +kernel)
theorem ml_X12_433 : Cond.methodLink RX12 433 yX12_meeting ∈ tb := tb_of 2240 (by decide +kernel) (by decide +kernel)
theorem fl_X12_138 : Cond.fieldLink RX12 138 RX12 (TX12 68).2.1 (TX12 68).2.2.1 ∈ tb := tb_of 1788 (by decide +kernel) (by decide +kernel)
theorem gf_X12_68 : FI 12 RX12 TX12 85 tyX12 68 3 := ⟨rfl, inb_X12, tyX12_ok, nmX12, by decide, by decide, rfl, rfl, rfl⟩
theorem lk_207_68 : lks 207 68 = some 248 := by decide +kernel
theorem kq_248 {nu c u : Nat} {K : Nat → Nat} : (Ax nu K c u).1 248 = 16 := kd_lt (K := K) (a := 248) (by decide) rfl
theorem lq_248 {nu c u : Nat} {K : Nat → Nat} : (Ax nu K c u).2.1 248 = 4096 := rfl
theorem fl_X12_144 : Cond.fieldLink RX12 144 RX12 (TX12 70).2.1 (TX12 70).2.2.1 ∈ tb := tb_of 1790 (by decide +kernel) (by decide +kernel)
theorem gf_X12_70 : FI 12 RX12 TX12 85 tyX12 70 3 := ⟨rfl, inb_X12, tyX12_ok, nmX12, by decide, by decide, rfl, rfl, rfl⟩
theorem lk_207_70 : lks 207 70 = some 250 := by decide +kernel
theorem kq_250 {nu c u : Nat} {K : Nat → Nat} : (Ax nu K c u).1 250 = 14 := kd_lt (K := K) (a := 250) (by decide) rfl
theorem lq_250 {nu c u : Nat} {K : Nat → Nat} : (Ax nu K c u).2.1 250 = 3584 := rfl
theorem bp_56 : (Int8.ofInt (56)).toInt32 = (56 : Int32) := by decide
theorem fl_X12_141 : Cond.fieldLink RX12 141 RX12 (TX12 69).2.1 (TX12 69).2.2.1 ∈ tb := tb_of 1789 (by decide +kernel) (by decide +kernel)
theorem gf_X12_69 : FI 12 RX12 TX12 85 tyX12 69 3 := ⟨rfl, inb_X12, tyX12_ok, nmX12, by decide, by decide, rfl, rfl, rfl⟩
theorem lk_207_69 : lks 207 69 = some 249 := by decide +kernel
theorem kq_249 {nu c u : Nat} {K : Nat → Nat} : (Ax nu K c u).1 249 = 14 := kd_lt (K := K) (a := 249) (by decide) rfl
theorem lq_249 {nu c u : Nat} {K : Nat → Nat} : (Ax nu K c u).2.1 249 = 64 := rfl
theorem cw_X12_taken : Cond.code yX12_taken cX12_taken 4 (some .int) ∈ tb := tb_of 2267 (by decide +kernel) (by decide +kernel)
theorem mw_X12_taken : MW yX12_taken cX12_taken 4 (some .int) 1 := ⟨cw_X12_taken, ini_X12, by decide +kernel⟩
theorem im_X12_taken : Cond.instanceMethod yX12_taken ∈ tb := tb_of 2266 (by decide +kernel) (by decide +kernel)
theorem se_X12_taken : Cond.selects (yX12_taken).cls yX12_taken yX12_taken ∈ tb := tb_of 145 (by decide +kernel) (by decide +kernel)
theorem ml_X12_436 : Cond.methodLink RX12 436 yX12_taken ∈ tb := tb_of 2264 (by decide +kernel) (by decide +kernel)
theorem fl_X12_147 : Cond.fieldLink RX12 147 RX12 (TX12 71).2.1 (TX12 71).2.2.1 ∈ tb := tb_of 1791 (by decide +kernel) (by decide +kernel)
theorem gf_X12_71 : FI 12 RX12 TX12 85 tyX12 71 3 := ⟨rfl, inb_X12, tyX12_ok, nmX12, by decide, by decide, rfl, rfl, rfl⟩
theorem lk_207_71 : lks 207 71 = some 251 := by decide +kernel
theorem kq_251 {nu c u : Nat} {K : Nat → Nat} : (Ax nu K c u).1 251 = 14 := kd_lt (K := K) (a := 251) (by decide) rfl
theorem lq_251 {nu c u : Nat} {K : Nat → Nat} : (Ax nu K c u).2.1 251 = 56 := rfl
theorem cw_X12_rowOf : Cond.code yX12_rowOf cX12_rowOf 2 (some .int) ∈ tb := tb_of 2271 (by decide +kernel) (by decide +kernel)
theorem mw_X12_rowOf : MW yX12_rowOf cX12_rowOf 2 (some .int) 1 := ⟨cw_X12_rowOf, ini_X12, by decide +kernel⟩
theorem im_X12_rowOf : Cond.instanceMethod yX12_rowOf ∈ tb := tb_of 2270 (by decide +kernel) (by decide +kernel)
theorem se_X12_rowOf : Cond.selects (yX12_rowOf).cls yX12_rowOf yX12_rowOf ∈ tb := tb_of 146 (by decide +kernel) (by decide +kernel)
theorem ml_X12_439 : Cond.methodLink RX12 439 yX12_rowOf ∈ tb := tb_of 2268 (by decide +kernel) (by decide +kernel)
def f_X12_halts_b32 (N : Nat) (rec_2 : Int32 → Dat → Option (Int32 × Dat)) (x1 : Int32) (D : Dat) : Option (Int32 × Dat) :=
  rec_2 (x1 + 1) D
set_option maxHeartbeats 4000000 in
theorem w_X12_halts_b32 {X : Cx} {n nu c u : Nat} {K : Nat → Nat} {N : Nat} {rec_2 : Int32 → Dat → Option (Int32 × Dat)} {z : Int32 × Dat} (O : Ok X cX12_halts RX12 (some .boolean) 0 0) (hm : wlm (xw X) = true) (hn : xn X = 2) (hz : Z0 X (Ax nu K c u)) (hrec_2 : ∀ (x1 : Int32) (D : Dat), rec_2 x1 D = some z → V X (Q0 X n (Ax nu K c u) (some (.int z.1)) z.2) n (Ax nu K c u) D 2 [(0, .ref (bo X + pp 207)), (1, .int x1)] []) (x1 : Int32) (D : Dat) (h : f_X12_halts_b32 N rec_2 x1 D = some z) : V X (Q0 X n (Ax nu K c u) (some (.int z.1)) z.2) n (Ax nu K c u) D 32 [(0, .ref (bo X + pp 207)), (1, .int x1)] [] := by
  unfold f_X12_halts_b32 at h
  refine v_iinc (pc := 32) (lv' := [(1, .int (x1 + 1)), (0, .ref (bo X + pp 207))]) O dX12_halts_32 1 rfl (congrArg (fun q => x1 + q) ic_1) (by rw [hn]; decide) rfl ?_
  refine v_goto (pc := 35) 2 O dX12_halts_35 (by decide) ?_
  refine v_sub [1, 0] rfl ?_
  exact hrec_2 (x1 + 1) D h
def f_X12_halts_b2 (N : Nat) : Nat → Int32 → Dat → Option (Int32 × Dat)
  | 0, _, _ => none
  | g + 1, x1, D => if (dI D 207 13) ≤ x1 then (some (0, D)) else (if x1 < 0 ∨ 64 ≤ (x1).toNatClampNeg then none else (if (dI D 252 (x1).toNatClampNeg) = 0 then (f_X12_halts_b32 N (f_X12_halts_b2 N g) x1 D) else (if x1 < 0 ∨ 64 ≤ (x1).toNatClampNeg then none else (if (dI D 212 (x1).toNatClampNeg) = 15 then (some (1, D)) else (f_X12_halts_b32 N (f_X12_halts_b2 N g) x1 D)))))
set_option maxHeartbeats 4000000 in
theorem w_X12_halts_b2 {X : Cx} {n nu c u : Nat} {K : Nat → Nat} {N : Nat} {z : Int32 × Dat} (O : Ok X cX12_halts RX12 (some .boolean) 0 0) (hm : wlm (xw X) = true) (hn : xn X = 2) (hz : Z0 X (Ax nu K c u)) : ∀ (g : Nat) (x1 : Int32) (D : Dat), f_X12_halts_b2 N g x1 D = some z → V X (Q0 X n (Ax nu K c u) (some (.int z.1)) z.2) n (Ax nu K c u) D 2 [(0, .ref (bo X + pp 207)), (1, .int x1)] [] := by
  intro g
  induction g with
  | zero => intro x1 D h; exact absurd h (by simp [f_X12_halts_b2])
  | succ g ih =>
    intro x1 D h
    rw [f_X12_halts_b2] at h
    refine v_iload_n (pc := 2) O dX12_halts_2 1 rfl ?_
    refine v_aload_n (pc := 3) O dX12_halts_3 0 rfl ?_
    refine v_getI (pc := 4) (a := 207) O gf_X12_13 fl_X12_406 kq_207 dX12_halts_4 ?_
    refine v_icmpge (pc := 7) 38 O dX12_halts_7 (by decide) (fun c1 => ?_) (fun c1 => ?_)
    · have h := (if_pos c1).symm.trans h
      refine v_iconst (pc := 38) O dX12_halts_38 ic_0 ?_
      obtain rfl := Option.some.inj h
      exact v_zret (pc := 39) O hz narrow_b0 dX12_halts_39
    · have h := (if_neg c1).symm.trans h
      refine v_aload_n (pc := 10) O dX12_halts_10 0 rfl ?_
      refine v_getK (pc := 11) (a := 207) O hm gf_X12_72 fl_X12_150 kq_207 lk_207_72 dX12_halts_11 ?_
      refine v_iload_n (pc := 14) O dX12_halts_14 1 rfl ?_
      obtain ⟨c2, h⟩ := or_none h
      refine v_zald (pc := 15) (a := 252) O kq_252 (inq lq_252 c2) dX12_halts_15 ?_
      refine v_ifeq (pc := 16) 32 O dX12_halts_16 (by decide) (fun c3 => ?_) (fun c3 => ?_)
      · have h := (if_pos c3).symm.trans h
        refine v_sub [0, 1] rfl ?_
        exact w_X12_halts_b32 O hm hn hz ih x1 D h
      · have h := (if_neg c3).symm.trans h
        refine v_aload_n (pc := 19) O dX12_halts_19 0 rfl ?_
        refine v_getK (pc := 20) (a := 207) O hm gf_X12_11 fl_X12_30 kq_207 lk_207_11 dX12_halts_20 ?_
        refine v_iload_n (pc := 23) O dX12_halts_23 1 rfl ?_
        obtain ⟨c4, h⟩ := or_none h
        refine v_iald (pc := 24) (a := 212) O kq_212 (inq lq_212 c4) dX12_halts_24 ?_
        refine v_bipush (pc := 25) O dX12_halts_25 bp_15 ?_
        refine v_icmpne (pc := 27) 32 O dX12_halts_27 (by decide) (fun c5 => ?_) (fun c5 => ?_)
        · have h := (if_neg c5).symm.trans h
          refine v_sub [0, 1] rfl ?_
          exact w_X12_halts_b32 O hm hn hz ih x1 D h
        · have h := (if_pos c5).symm.trans h
          refine v_iconst (pc := 30) O dX12_halts_30 ic_1 ?_
          obtain rfl := Option.some.inj h
          exact v_zret (pc := 31) O hz narrow_b1 dX12_halts_31
def f_X12_halts (N : Nat) (D : Dat) : Option (Int32 × Dat) :=
  f_X12_halts_b2 N N 0 D
set_option maxHeartbeats 4000000 in
theorem w_X12_halts {X : Cx} {n nu c u : Nat} {K : Nat → Nat} {N : Nat} {z : Int32 × Dat} (O : Ok X cX12_halts RX12 (some .boolean) 0 0) (hm : wlm (xw X) = true) (hn : xn X = 2) (hz : Z0 X (Ax nu K c u)) (D : Dat) (h : f_X12_halts N D = some z) : V X (Q0 X n (Ax nu K c u) (some (.int z.1)) z.2) n (Ax nu K c u) D 0 [(0, .ref (bo X + pp 207))] [] := by
  unfold f_X12_halts at h
  refine v_iconst (pc := 0) O dX12_halts_0 ic_0 ?_
  refine v_istore_n (pc := 1) (lv' := [(1, .int 0), (0, .ref (bo X + pp 207))]) O dX12_halts_1 rfl (by rw [hn]; decide) rfl ?_
  refine v_sub [1, 0] rfl ?_
  exact w_X12_halts_b2 O hm hn hz N 0 D h
theorem c_X12_halts {l : Launch} {w : Wx} {n nu c u : Nat} {K : Nat → Nat} {N : Nat} (hm : wlm w = true) {D : Dat} {z : Int32 × Dat} (h : f_X12_halts N D = some z) : C0 l w yX12_halts cX12_halts 2 (some .boolean) 0 0 [.ref (wb w + pp 207)] n (Ax nu K c u) D (some (.int z.1)) z.2 :=
  C0.of (by decide) (Nat.le_of_ble_eq_true rfl) (fun X e1 e2 e3 hz O => by
  subst e1
  subst e2
  exact w_X12_halts O hm e3 hz  D h)
def f_X12_meeting_b53 (N : Nat) (rec_17 : Int32 → Int32 → Dat → Option (Int32 × Dat)) (x1 : Int32) (x2 : Int32) (s0 : Int32) (s1 : Int32) (D : Dat) : Option (Int32 × Dat) :=
  if s1 < 0 ∨ 64 ≤ (s1).toNatClampNeg then none else (rec_17 x1 (x2 + 1) (sI D 253 (s1).toNatClampNeg (s0 &&& 1)))
set_option maxHeartbeats 4000000 in
theorem w_X12_meeting_b53 {X : Cx} {n nu c u : Nat} {K : Nat → Nat} {N : Nat} {rec_17 : Int32 → Int32 → Dat → Option (Int32 × Dat)} {z : Int32 × Dat} (O : Ok X cX12_meeting RX12 (some .int) 2 49) (hm : wlm (xw X) = true) (hn : xn X = 5) (hz : Z0 X (Ax nu K c u)) (hrec_17 : ∀ (x1 : Int32) (x2 : Int32) (D : Dat), rec_17 x1 x2 D = some z → V X (Q0 X n (Ax nu K c u) (some (.int z.1)) z.2) n (Ax nu K c u) D 17 [(0, .ref (bo X + pp 207)), (1, .int x1), (2, .int x2)] []) (x1 : Int32) (x2 : Int32) (s0 : Int32) (s1 : Int32) (D : Dat) (h : f_X12_meeting_b53 N rec_17 x1 x2 s0 s1 D = some z) : V X (Q0 X n (Ax nu K c u) (some (.int z.1)) z.2) n (Ax nu K c u) D 53 [(0, .ref (bo X + pp 207)), (1, .int x1), (2, .int x2)] [.int s0, .int s1, .ref (bo X + pp 253)] := by
  unfold f_X12_meeting_b53 at h
  obtain ⟨c1, h⟩ := or_none h
  refine v_zast (pc := 53) (a := 253) O kq_253 (inq lq_253 c1) dX12_meeting_53 ?_
  refine v_iinc (pc := 54) (lv' := [(2, .int (x2 + 1)), (0, .ref (bo X + pp 207)), (1, .int x1)]) O dX12_meeting_54 2 rfl (congrArg (fun q => x2 + q) ic_1) (by rw [hn]; decide) rfl ?_
  refine v_goto (pc := 57) 17 O dX12_meeting_57 (by decide) ?_
  refine v_sub [1, 2, 0] rfl ?_
  exact hrec_17 x1 (x2 + 1) (sI D 253 (s1).toNatClampNeg (s0 &&& 1)) h
def f_X12_meeting_b52 (N : Nat) (rec_17 : Int32 → Int32 → Dat → Option (Int32 × Dat)) (x1 : Int32) (x2 : Int32) (s0 : Int32) (D : Dat) : Option (Int32 × Dat) :=
  f_X12_meeting_b53 N rec_17 x1 x2 0 s0 D
set_option maxHeartbeats 4000000 in
theorem w_X12_meeting_b52 {X : Cx} {n nu c u : Nat} {K : Nat → Nat} {N : Nat} {rec_17 : Int32 → Int32 → Dat → Option (Int32 × Dat)} {z : Int32 × Dat} (O : Ok X cX12_meeting RX12 (some .int) 2 49) (hm : wlm (xw X) = true) (hn : xn X = 5) (hz : Z0 X (Ax nu K c u)) (hrec_17 : ∀ (x1 : Int32) (x2 : Int32) (D : Dat), rec_17 x1 x2 D = some z → V X (Q0 X n (Ax nu K c u) (some (.int z.1)) z.2) n (Ax nu K c u) D 17 [(0, .ref (bo X + pp 207)), (1, .int x1), (2, .int x2)] []) (x1 : Int32) (x2 : Int32) (s0 : Int32) (D : Dat) (h : f_X12_meeting_b52 N rec_17 x1 x2 s0 D = some z) : V X (Q0 X n (Ax nu K c u) (some (.int z.1)) z.2) n (Ax nu K c u) D 52 [(0, .ref (bo X + pp 207)), (1, .int x1), (2, .int x2)] [.int s0, .ref (bo X + pp 253)] := by
  unfold f_X12_meeting_b52 at h
  refine v_iconst (pc := 52) O dX12_meeting_52 ic_0 ?_
  refine v_sub [0, 1, 2] rfl ?_
  exact w_X12_meeting_b53 O hm hn hz hrec_17 x1 x2 0 s0 D h
def f_X12_meeting_b130 (N : Nat) (rec_62 : Int32 → Int32 → Dat → Option (Int32 × Dat)) (rec_93 : Int32 → Int32 → Int32 → Int32 → Dat → Option (Int32 × Dat)) (x1 : Int32) (x2 : Int32) (x3 : Int32) (x4 : Int32) (D : Dat) : Option (Int32 × Dat) :=
  rec_93 x1 x2 x3 (x4 + 1) D
set_option maxHeartbeats 4000000 in
theorem w_X12_meeting_b130 {X : Cx} {n nu c u : Nat} {K : Nat → Nat} {N : Nat} {rec_62 : Int32 → Int32 → Dat → Option (Int32 × Dat)} {rec_93 : Int32 → Int32 → Int32 → Int32 → Dat → Option (Int32 × Dat)} {z : Int32 × Dat} (O : Ok X cX12_meeting RX12 (some .int) 2 49) (hm : wlm (xw X) = true) (hn : xn X = 5) (hz : Z0 X (Ax nu K c u)) (hrec_62 : ∀ (x1 : Int32) (x2 : Int32) (D : Dat), rec_62 x1 x2 D = some z → V X (Q0 X n (Ax nu K c u) (some (.int z.1)) z.2) n (Ax nu K c u) D 62 [(0, .ref (bo X + pp 207)), (1, .int x1), (2, .int x2)] []) (hrec_93 : ∀ (x1 : Int32) (x2 : Int32) (x3 : Int32) (x4 : Int32) (D : Dat), rec_93 x1 x2 x3 x4 D = some z → V X (Q0 X n (Ax nu K c u) (some (.int z.1)) z.2) n (Ax nu K c u) D 93 [(0, .ref (bo X + pp 207)), (1, .int x1), (2, .int x2), (3, .int x3), (4, .int x4)] []) (x1 : Int32) (x2 : Int32) (x3 : Int32) (x4 : Int32) (D : Dat) (h : f_X12_meeting_b130 N rec_62 rec_93 x1 x2 x3 x4 D = some z) : V X (Q0 X n (Ax nu K c u) (some (.int z.1)) z.2) n (Ax nu K c u) D 130 [(0, .ref (bo X + pp 207)), (1, .int x1), (2, .int x2), (3, .int x3), (4, .int x4)] [] := by
  unfold f_X12_meeting_b130 at h
  refine v_iinc (pc := 130) (lv' := [(4, .int (x4 + 1)), (0, .ref (bo X + pp 207)), (1, .int x1), (2, .int x2), (3, .int x3)]) O dX12_meeting_130 4 rfl (congrArg (fun q => x4 + q) ic_1) (by rw [hn]; decide) rfl ?_
  refine v_goto (pc := 133) 93 O dX12_meeting_133 (by decide) ?_
  refine v_sub [1, 2, 3, 4, 0] rfl ?_
  exact hrec_93 x1 x2 x3 (x4 + 1) D h
def f_X12_meeting_b142 (N : Nat) (rec_62 : Int32 → Int32 → Dat → Option (Int32 × Dat)) (x1 : Int32) (x2 : Int32) (D : Dat) : Option (Int32 × Dat) :=
  rec_62 x1 (x2 + 1) D
set_option maxHeartbeats 4000000 in
theorem w_X12_meeting_b142 {X : Cx} {n nu c u : Nat} {K : Nat → Nat} {N : Nat} {rec_62 : Int32 → Int32 → Dat → Option (Int32 × Dat)} {z : Int32 × Dat} (O : Ok X cX12_meeting RX12 (some .int) 2 49) (hm : wlm (xw X) = true) (hn : xn X = 5) (hz : Z0 X (Ax nu K c u)) (hrec_62 : ∀ (x1 : Int32) (x2 : Int32) (D : Dat), rec_62 x1 x2 D = some z → V X (Q0 X n (Ax nu K c u) (some (.int z.1)) z.2) n (Ax nu K c u) D 62 [(0, .ref (bo X + pp 207)), (1, .int x1), (2, .int x2)] []) (x1 : Int32) (x2 : Int32) (D : Dat) (h : f_X12_meeting_b142 N rec_62 x1 x2 D = some z) : V X (Q0 X n (Ax nu K c u) (some (.int z.1)) z.2) n (Ax nu K c u) D 142 [(0, .ref (bo X + pp 207)), (1, .int x1), (2, .int x2)] [] := by
  unfold f_X12_meeting_b142 at h
  refine v_iinc (pc := 142) (lv' := [(2, .int (x2 + 1)), (0, .ref (bo X + pp 207)), (1, .int x1)]) O dX12_meeting_142 2 rfl (congrArg (fun q => x2 + q) ic_1) (by rw [hn]; decide) rfl ?_
  refine v_goto (pc := 145) 62 O dX12_meeting_145 (by decide) ?_
  refine v_sub [1, 2, 0] rfl ?_
  exact hrec_62 x1 (x2 + 1) D h
def f_X12_meeting_b93 (N : Nat) (rec_62 : Int32 → Int32 → Dat → Option (Int32 × Dat)) : Nat → Int32 → Int32 → Int32 → Int32 → Dat → Option (Int32 × Dat)
  | 0, _, _, _, _, _ => none
  | g + 1, x1, x2, x3, x4, D => if (dI D 207 13) ≤ x4 then (if x3 = 0 then (f_X12_meeting_b142 N rec_62 x1 x2 D) else (some (x2, D))) else (if x4 = x2 then (f_X12_meeting_b130 N rec_62 (f_X12_meeting_b93 N rec_62 g) x1 x2 x3 x4 D) else (if x4 < 0 ∨ 64 ≤ (x4).toNatClampNeg then none else (if (dI D 253 (x4).toNatClampNeg) = 0 then (f_X12_meeting_b130 N rec_62 (f_X12_meeting_b93 N rec_62 g) x1 x2 x3 x4 D) else (if x4 < 0 ∨ 64 ≤ (x4).toNatClampNeg then none else (if (dI D 252 (x4).toNatClampNeg) = 0 then (f_X12_meeting_b130 N rec_62 (f_X12_meeting_b93 N rec_62 g) x1 x2 x3 x4 D) else (f_X12_meeting_b130 N rec_62 (f_X12_meeting_b93 N rec_62 g) x1 x2 0 x4 D))))))
set_option maxHeartbeats 4000000 in
theorem w_X12_meeting_b93 {X : Cx} {n nu c u : Nat} {K : Nat → Nat} {N : Nat} {rec_62 : Int32 → Int32 → Dat → Option (Int32 × Dat)} {z : Int32 × Dat} (O : Ok X cX12_meeting RX12 (some .int) 2 49) (hm : wlm (xw X) = true) (hn : xn X = 5) (hz : Z0 X (Ax nu K c u)) (hrec_62 : ∀ (x1 : Int32) (x2 : Int32) (D : Dat), rec_62 x1 x2 D = some z → V X (Q0 X n (Ax nu K c u) (some (.int z.1)) z.2) n (Ax nu K c u) D 62 [(0, .ref (bo X + pp 207)), (1, .int x1), (2, .int x2)] []) : ∀ (g : Nat) (x1 : Int32) (x2 : Int32) (x3 : Int32) (x4 : Int32) (D : Dat), f_X12_meeting_b93 N rec_62 g x1 x2 x3 x4 D = some z → V X (Q0 X n (Ax nu K c u) (some (.int z.1)) z.2) n (Ax nu K c u) D 93 [(0, .ref (bo X + pp 207)), (1, .int x1), (2, .int x2), (3, .int x3), (4, .int x4)] [] := by
  intro g
  induction g with
  | zero => intro x1 x2 x3 x4 D h; exact absurd h (by simp [f_X12_meeting_b93])
  | succ g ih =>
    intro x1 x2 x3 x4 D h
    rw [f_X12_meeting_b93] at h
    refine v_iload (pc := 93) O dX12_meeting_93 4 rfl ?_
    refine v_aload_n (pc := 95) O dX12_meeting_95 0 rfl ?_
    refine v_getI (pc := 96) (a := 207) O gf_X12_13 fl_X12_406 kq_207 dX12_meeting_96 ?_
    refine v_icmpge (pc := 99) 136 O dX12_meeting_99 (by decide) (fun c2 => ?_) (fun c2 => ?_)
    · have h := (if_pos c2).symm.trans h
      refine v_iload_n (pc := 136) O dX12_meeting_136 3 rfl ?_
      refine v_ifeq (pc := 137) 142 O dX12_meeting_137 (by decide) (fun c3 => ?_) (fun c3 => ?_)
      · have h := (if_pos c3).symm.trans h
        refine v_sub [0, 1, 2] rfl ?_
        exact w_X12_meeting_b142 O hm hn hz hrec_62 x1 x2 D h
      · have h := (if_neg c3).symm.trans h
        refine v_iload_n (pc := 140) O dX12_meeting_140 2 rfl ?_
        obtain rfl := Option.some.inj h
        exact v_iret (pc := 141) O hz dX12_meeting_141
    · have h := (if_neg c2).symm.trans h
      refine v_iload (pc := 102) O dX12_meeting_102 4 rfl ?_
      refine v_iload_n (pc := 104) O dX12_meeting_104 2 rfl ?_
      refine v_icmpeq (pc := 105) 130 O dX12_meeting_105 (by decide) (fun c4 => ?_) (fun c4 => ?_)
      · have h := (if_pos c4).symm.trans h
        refine v_sub [0, 1, 2, 3, 4] rfl ?_
        exact w_X12_meeting_b130 O hm hn hz hrec_62 ih x1 x2 x3 x4 D h
      · have h := (if_neg c4).symm.trans h
        refine v_aload_n (pc := 108) O dX12_meeting_108 0 rfl ?_
        refine v_getK (pc := 109) (a := 207) O hm gf_X12_73 fl_X12_153 kq_207 lk_207_73 dX12_meeting_109 ?_
        refine v_iload (pc := 112) O dX12_meeting_112 4 rfl ?_
        obtain ⟨c5, h⟩ := or_none h
        refine v_zald (pc := 114) (a := 253) O kq_253 (inq lq_253 c5) dX12_meeting_114 ?_
        refine v_ifeq (pc := 115) 130 O dX12_meeting_115 (by decide) (fun c6 => ?_) (fun c6 => ?_)
        · have h := (if_pos c6).symm.trans h
          refine v_sub [0, 1, 2, 3, 4] rfl ?_
          exact w_X12_meeting_b130 O hm hn hz hrec_62 ih x1 x2 x3 x4 D h
        · have h := (if_neg c6).symm.trans h
          refine v_aload_n (pc := 118) O dX12_meeting_118 0 rfl ?_
          refine v_getK (pc := 119) (a := 207) O hm gf_X12_72 fl_X12_150 kq_207 lk_207_72 dX12_meeting_119 ?_
          refine v_iload (pc := 122) O dX12_meeting_122 4 rfl ?_
          obtain ⟨c7, h⟩ := or_none h
          refine v_zald (pc := 124) (a := 252) O kq_252 (inq lq_252 c7) dX12_meeting_124 ?_
          refine v_ifeq (pc := 125) 130 O dX12_meeting_125 (by decide) (fun c8 => ?_) (fun c8 => ?_)
          · have h := (if_pos c8).symm.trans h
            refine v_sub [0, 1, 2, 3, 4] rfl ?_
            exact w_X12_meeting_b130 O hm hn hz hrec_62 ih x1 x2 x3 x4 D h
          · have h := (if_neg c8).symm.trans h
            refine v_iconst (pc := 128) O dX12_meeting_128 ic_0 ?_
            refine v_istore_n (pc := 129) (lv' := [(3, .int 0), (0, .ref (bo X + pp 207)), (1, .int x1), (2, .int x2), (4, .int x4)]) O dX12_meeting_129 rfl (by rw [hn]; decide) rfl ?_
            refine v_sub [1, 2, 3, 0, 4] rfl ?_
            exact w_X12_meeting_b130 O hm hn hz hrec_62 ih x1 x2 0 x4 D h
def f_X12_meeting_b62 (N : Nat) : Nat → Int32 → Int32 → Dat → Option (Int32 × Dat)
  | 0, _, _, _ => none
  | g + 1, x1, x2, D => if (dI D 207 13) ≤ x2 then (some ((-1), D)) else (if x2 < 0 ∨ 64 ≤ (x2).toNatClampNeg then none else (if (dI D 253 (x2).toNatClampNeg) = 0 then (f_X12_meeting_b142 N (f_X12_meeting_b62 N g) x1 x2 D) else ((f_X12_reach N x1 x2 D).bind (fun p12 => f_X12_meeting_b93 N (f_X12_meeting_b62 N g) N x1 x2 1 0 p12))))
set_option maxHeartbeats 4000000 in
theorem w_X12_meeting_b62 {X : Cx} {n nu c u : Nat} {K : Nat → Nat} {N : Nat} {z : Int32 × Dat} (O : Ok X cX12_meeting RX12 (some .int) 2 49) (hm : wlm (xw X) = true) (hn : xn X = 5) (hz : Z0 X (Ax nu K c u)) : ∀ (g : Nat) (x1 : Int32) (x2 : Int32) (D : Dat), f_X12_meeting_b62 N g x1 x2 D = some z → V X (Q0 X n (Ax nu K c u) (some (.int z.1)) z.2) n (Ax nu K c u) D 62 [(0, .ref (bo X + pp 207)), (1, .int x1), (2, .int x2)] [] := by
  intro g
  induction g with
  | zero => intro x1 x2 D h; exact absurd h (by simp [f_X12_meeting_b62])
  | succ g ih =>
    intro x1 x2 D h
    rw [f_X12_meeting_b62] at h
    refine v_iload_n (pc := 62) O dX12_meeting_62 2 rfl ?_
    refine v_aload_n (pc := 63) O dX12_meeting_63 0 rfl ?_
    refine v_getI (pc := 64) (a := 207) O gf_X12_13 fl_X12_406 kq_207 dX12_meeting_64 ?_
    refine v_icmpge (pc := 67) 148 O dX12_meeting_67 (by decide) (fun c9 => ?_) (fun c9 => ?_)
    · have h := (if_pos c9).symm.trans h
      refine v_iconst (pc := 148) O dX12_meeting_148 ic_m1 ?_
      obtain rfl := Option.some.inj h
      exact v_iret (pc := 149) O hz dX12_meeting_149
    · have h := (if_neg c9).symm.trans h
      refine v_aload_n (pc := 70) O dX12_meeting_70 0 rfl ?_
      refine v_getK (pc := 71) (a := 207) O hm gf_X12_73 fl_X12_153 kq_207 lk_207_73 dX12_meeting_71 ?_
      refine v_iload_n (pc := 74) O dX12_meeting_74 2 rfl ?_
      obtain ⟨c10, h⟩ := or_none h
      refine v_zald (pc := 75) (a := 253) O kq_253 (inq lq_253 c10) dX12_meeting_75 ?_
      refine v_ifne (pc := 76) 82 O dX12_meeting_76 (by decide) (fun c11 => ?_) (fun c11 => ?_)
      · have h := (if_neg c11).symm.trans h
        refine v_aload_n (pc := 82) O dX12_meeting_82 0 rfl ?_
        refine v_iload_n (pc := 83) O dX12_meeting_83 1 rfl ?_
        refine v_iload_n (pc := 84) O dX12_meeting_84 2 rfl ?_
        obtain ⟨p12, e13, h⟩ := bind_some h
        refine v_callV (pc := 85) (a := 207) (As := [.int x1, .int x2]) (rest := []) (r := none) (D' := p12) O (bb0 hz) (c_X12_reach hm e13) mw_X12_reach im_X12_reach se_X12_reach ml_X12_427 kq_207 (by decide) rfl rfl rfl (by decide) (by decide) (Nat.le_of_ble_eq_true rfl) dX12_meeting_85 rfl rfl ?_
        refine v_iconst (pc := 88) O dX12_meeting_88 ic_1 ?_
        refine v_istore_n (pc := 89) (lv' := [(3, .int 1), (0, .ref (bo X + pp 207)), (1, .int x1), (2, .int x2)]) O dX12_meeting_89 rfl (by rw [hn]; decide) rfl ?_
        refine v_iconst (pc := 90) O dX12_meeting_90 ic_0 ?_
        refine v_istore (pc := 91) (lv' := [(4, .int 0), (3, .int 1), (0, .ref (bo X + pp 207)), (1, .int x1), (2, .int x2)]) O dX12_meeting_91 (by rw [hn]; decide) rfl ?_
        refine v_sub [2, 3, 4, 1, 0] rfl ?_
        exact w_X12_meeting_b93 O hm hn hz ih N x1 x2 1 0 p12 h
      · have h := (if_pos c11).symm.trans h
        refine v_goto (pc := 79) 142 O dX12_meeting_79 (by decide) ?_
        refine v_sub [0, 1, 2] rfl ?_
        exact w_X12_meeting_b142 O hm hn hz ih x1 x2 D h
def f_X12_meeting_b17 (N : Nat) : Nat → Int32 → Int32 → Dat → Option (Int32 × Dat)
  | 0, _, _, _ => none
  | g + 1, x1, x2, D => if (dI D 207 13) ≤ x2 then (f_X12_meeting_b62 N N x1 0 D) else ((f_X12_reach N x1 x2 D).bind (fun p15 => if x2 = x1 then (f_X12_meeting_b52 N (f_X12_meeting_b17 N g) x1 x2 x2 p15) else ((f_X12_halts N p15).bind (fun p18 => if p18.1 = 0 then (f_X12_meeting_b53 N (f_X12_meeting_b17 N g) x1 x2 1 x2 p18.2) else (f_X12_meeting_b52 N (f_X12_meeting_b17 N g) x1 x2 x2 p18.2)))))
set_option maxHeartbeats 4000000 in
theorem w_X12_meeting_b17 {X : Cx} {n nu c u : Nat} {K : Nat → Nat} {N : Nat} {z : Int32 × Dat} (O : Ok X cX12_meeting RX12 (some .int) 2 49) (hm : wlm (xw X) = true) (hn : xn X = 5) (hz : Z0 X (Ax nu K c u)) : ∀ (g : Nat) (x1 : Int32) (x2 : Int32) (D : Dat), f_X12_meeting_b17 N g x1 x2 D = some z → V X (Q0 X n (Ax nu K c u) (some (.int z.1)) z.2) n (Ax nu K c u) D 17 [(0, .ref (bo X + pp 207)), (1, .int x1), (2, .int x2)] [] := by
  intro g
  induction g with
  | zero => intro x1 x2 D h; exact absurd h (by simp [f_X12_meeting_b17])
  | succ g ih =>
    intro x1 x2 D h
    rw [f_X12_meeting_b17] at h
    refine v_iload_n (pc := 17) O dX12_meeting_17 2 rfl ?_
    refine v_aload_n (pc := 18) O dX12_meeting_18 0 rfl ?_
    refine v_getI (pc := 19) (a := 207) O gf_X12_13 fl_X12_406 kq_207 dX12_meeting_19 ?_
    refine v_icmpge (pc := 22) 60 O dX12_meeting_22 (by decide) (fun c14 => ?_) (fun c14 => ?_)
    · have h := (if_pos c14).symm.trans h
      refine v_iconst (pc := 60) O dX12_meeting_60 ic_0 ?_
      refine v_istore_n (pc := 61) (lv' := [(2, .int 0), (0, .ref (bo X + pp 207)), (1, .int x1)]) O dX12_meeting_61 rfl (by rw [hn]; decide) rfl ?_
      refine v_sub [1, 2, 0] rfl ?_
      exact w_X12_meeting_b62 O hm hn hz N x1 0 D h
    · have h := (if_neg c14).symm.trans h
      refine v_aload_n (pc := 25) O dX12_meeting_25 0 rfl ?_
      refine v_iload_n (pc := 26) O dX12_meeting_26 1 rfl ?_
      refine v_iload_n (pc := 27) O dX12_meeting_27 2 rfl ?_
      obtain ⟨p15, e16, h⟩ := bind_some h
      refine v_callV (pc := 28) (a := 207) (As := [.int x1, .int x2]) (rest := []) (r := none) (D' := p15) O (bb0 hz) (c_X12_reach hm e16) mw_X12_reach im_X12_reach se_X12_reach ml_X12_427 kq_207 (by decide) rfl rfl rfl (by decide) (by decide) (Nat.le_of_ble_eq_true rfl) dX12_meeting_28 rfl rfl ?_
      refine v_aload_n (pc := 31) O dX12_meeting_31 0 rfl ?_
      refine v_getK (pc := 32) (a := 207) O hm gf_X12_73 fl_X12_153 kq_207 lk_207_73 dX12_meeting_32 ?_
      refine v_iload_n (pc := 35) O dX12_meeting_35 2 rfl ?_
      refine v_iload_n (pc := 36) O dX12_meeting_36 2 rfl ?_
      refine v_iload_n (pc := 37) O dX12_meeting_37 1 rfl ?_
      refine v_icmpeq (pc := 38) 52 O dX12_meeting_38 (by decide) (fun c17 => ?_) (fun c17 => ?_)
      · have h := (if_pos c17).symm.trans h
        refine v_sub [0, 1, 2] rfl ?_
        exact w_X12_meeting_b52 O hm hn hz ih x1 x2 x2 p15 h
      · have h := (if_neg c17).symm.trans h
        refine v_aload_n (pc := 41) O dX12_meeting_41 0 rfl ?_
        obtain ⟨p18, e19, h⟩ := bind_some h
        refine v_callV (pc := 42) (a := 207) (As := []) (rest := [.int x2, .ref (bo X + pp 253)]) (r := (some (.int p18.1))) (D' := p18.2) O (bb0 hz) (c_X12_halts hm e19) mw_X12_halts im_X12_halts se_X12_halts ml_X12_430 kq_207 (by decide) rfl rfl rfl (by decide) (by decide) (Nat.le_of_ble_eq_true rfl) dX12_meeting_42 rfl rfl ?_
        refine v_ifne (pc := 45) 52 O dX12_meeting_45 (by decide) (fun c20 => ?_) (fun c20 => ?_)
        · have h := (if_neg c20).symm.trans h
          refine v_sub [0, 1, 2] rfl ?_
          exact w_X12_meeting_b52 O hm hn hz ih x1 x2 x2 p18.2 h
        · have h := (if_pos c20).symm.trans h
          refine v_iconst (pc := 48) O dX12_meeting_48 ic_1 ?_
          refine v_goto (pc := 49) 53 O dX12_meeting_49 (by decide) ?_
          refine v_sub [0, 1, 2] rfl ?_
          exact w_X12_meeting_b53 O hm hn hz ih x1 x2 1 x2 p18.2 h
def f_X12_meeting (N : Nat) (x1 : Int32) (D : Dat) : Option (Int32 × Dat) :=
  (f_X12_reach N x1 (-1) D).bind (fun p21 => (f_X12_halts N p21).bind (fun p23 => if p23.1 = 0 then (some ((-1), p23.2)) else (f_X12_meeting_b17 N N x1 0 p23.2)))
set_option maxHeartbeats 4000000 in
theorem w_X12_meeting {X : Cx} {n nu c u : Nat} {K : Nat → Nat} {N : Nat} {z : Int32 × Dat} (O : Ok X cX12_meeting RX12 (some .int) 2 49) (hm : wlm (xw X) = true) (hn : xn X = 5) (hz : Z0 X (Ax nu K c u)) (x1 : Int32) (D : Dat) (h : f_X12_meeting N x1 D = some z) : V X (Q0 X n (Ax nu K c u) (some (.int z.1)) z.2) n (Ax nu K c u) D 0 [(0, .ref (bo X + pp 207)), (1, .int x1)] [] := by
  unfold f_X12_meeting at h
  refine v_aload_n (pc := 0) O dX12_meeting_0 0 rfl ?_
  refine v_iload_n (pc := 1) O dX12_meeting_1 1 rfl ?_
  refine v_iconst (pc := 2) O dX12_meeting_2 ic_m1 ?_
  obtain ⟨p21, e22, h⟩ := bind_some h
  refine v_callV (pc := 3) (a := 207) (As := [.int x1, .int (-1)]) (rest := []) (r := none) (D' := p21) O (bb0 hz) (c_X12_reach hm e22) mw_X12_reach im_X12_reach se_X12_reach ml_X12_427 kq_207 (by decide) rfl rfl rfl (by decide) (by decide) (Nat.le_of_ble_eq_true rfl) dX12_meeting_3 rfl rfl ?_
  refine v_aload_n (pc := 6) O dX12_meeting_6 0 rfl ?_
  obtain ⟨p23, e24, h⟩ := bind_some h
  refine v_callV (pc := 7) (a := 207) (As := []) (rest := []) (r := (some (.int p23.1))) (D' := p23.2) O (bb0 hz) (c_X12_halts hm e24) mw_X12_halts im_X12_halts se_X12_halts ml_X12_430 kq_207 (by decide) rfl rfl rfl (by decide) (by decide) (Nat.le_of_ble_eq_true rfl) dX12_meeting_7 rfl rfl ?_
  refine v_ifne (pc := 10) 15 O dX12_meeting_10 (by decide) (fun c25 => ?_) (fun c25 => ?_)
  · have h := (if_neg c25).symm.trans h
    refine v_iconst (pc := 15) O dX12_meeting_15 ic_0 ?_
    refine v_istore_n (pc := 16) (lv' := [(2, .int 0), (0, .ref (bo X + pp 207)), (1, .int x1)]) O dX12_meeting_16 rfl (by rw [hn]; decide) rfl ?_
    refine v_sub [1, 2, 0] rfl ?_
    exact w_X12_meeting_b17 O hm hn hz N x1 0 p23.2 h
  · have h := (if_pos c25).symm.trans h
    refine v_iconst (pc := 13) O dX12_meeting_13 ic_m1 ?_
    obtain rfl := Option.some.inj h
    exact v_iret (pc := 14) O hz dX12_meeting_14
theorem c_X12_meeting {l : Launch} {w : Wx} {n nu c u : Nat} {K : Nat → Nat} {N : Nat} (hm : wlm w = true) {x1 : Int32} {D : Dat} {z : Int32 × Dat} (h : f_X12_meeting N x1 D = some z) : C0 l w yX12_meeting cX12_meeting 5 (some .int) 2 49 [.ref (wb w + pp 207), .int x1] n (Ax nu K c u) D (some (.int z.1)) z.2 :=
  C0.of (by decide) (Nat.le_of_ble_eq_true rfl) (fun X e1 e2 e3 hz O => by
  subst e1
  subst e2
  exact w_X12_meeting O hm e3 hz x1 D h)
def f_X12_regions_b93 (N : Nat) (rec_2 : Int32 → Dat → Option (Dat)) (x1 : Int32) (D : Dat) : Option (Dat) :=
  rec_2 (x1 + 1) D
set_option maxHeartbeats 4000000 in
theorem w_X12_regions_b93 {X : Cx} {n nu c u : Nat} {K : Nat → Nat} {N : Nat} {rec_2 : Int32 → Dat → Option (Dat)} {z : Dat} (O : Ok X cX12_regions RX12 none 3 73) (hm : wlm (xw X) = true) (hn : xn X = 3) (hz : Z0 X (Ax nu K c u)) (hrec_2 : ∀ (x1 : Int32) (D : Dat), rec_2 x1 D = some z → V X (Q0 X n (Ax nu K c u) none z) n (Ax nu K c u) D 2 [(0, .ref (bo X + pp 207)), (1, .int x1)] []) (x1 : Int32) (D : Dat) (h : f_X12_regions_b93 N rec_2 x1 D = some z) : V X (Q0 X n (Ax nu K c u) none z) n (Ax nu K c u) D 93 [(0, .ref (bo X + pp 207)), (1, .int x1)] [] := by
  unfold f_X12_regions_b93 at h
  refine v_iinc (pc := 93) (lv' := [(1, .int (x1 + 1)), (0, .ref (bo X + pp 207))]) O dX12_regions_93 1 rfl (congrArg (fun q => x1 + q) ic_1) (by rw [hn]; decide) rfl ?_
  refine v_goto (pc := 96) 2 O dX12_regions_96 (by decide) ?_
  refine v_sub [1, 0] rfl ?_
  exact hrec_2 (x1 + 1) D h
def f_X12_regions_b64 (N : Nat) (rec_2 : Int32 → Dat → Option (Dat)) : Nat → Int32 → Int32 → Dat → Option (Dat)
  | 0, _, _, _ => none
  | g + 1, x1, x2, D => if 64 ≤ x2 then (f_X12_regions_b93 N rec_2 x1 D) else (if x2 < 0 ∨ 64 ≤ (x2).toNatClampNeg then none else (if (((64 : Int32) * x1) + x2) < 0 ∨ 4096 ≤ ((((64 : Int32) * x1) + x2)).toNatClampNeg then none else ((f_X12_regions_b64 N rec_2 g) x1 (x2 + 1) (sI D 248 (((64 : Int32) * x1) + x2).toNatClampNeg ((dI D 252 (x2).toNatClampNeg) &&& 1)))))
set_option maxHeartbeats 4000000 in
theorem w_X12_regions_b64 {X : Cx} {n nu c u : Nat} {K : Nat → Nat} {N : Nat} {rec_2 : Int32 → Dat → Option (Dat)} {z : Dat} (O : Ok X cX12_regions RX12 none 3 73) (hm : wlm (xw X) = true) (hn : xn X = 3) (hz : Z0 X (Ax nu K c u)) (hrec_2 : ∀ (x1 : Int32) (D : Dat), rec_2 x1 D = some z → V X (Q0 X n (Ax nu K c u) none z) n (Ax nu K c u) D 2 [(0, .ref (bo X + pp 207)), (1, .int x1)] []) : ∀ (g : Nat) (x1 : Int32) (x2 : Int32) (D : Dat), f_X12_regions_b64 N rec_2 g x1 x2 D = some z → V X (Q0 X n (Ax nu K c u) none z) n (Ax nu K c u) D 64 [(0, .ref (bo X + pp 207)), (1, .int x1), (2, .int x2)] [] := by
  intro g
  induction g with
  | zero => intro x1 x2 D h; exact absurd h (by simp [f_X12_regions_b64])
  | succ g ih =>
    intro x1 x2 D h
    rw [f_X12_regions_b64] at h
    refine v_iload_n (pc := 64) O dX12_regions_64 2 rfl ?_
    refine v_bipush (pc := 65) O dX12_regions_65 bp_64 ?_
    refine v_icmpge (pc := 67) 93 O dX12_regions_67 (by decide) (fun c1 => ?_) (fun c1 => ?_)
    · have h := (if_pos c1).symm.trans h
      refine v_sub [0, 1] rfl ?_
      exact w_X12_regions_b93 O hm hn hz hrec_2 x1 D h
    · have h := (if_neg c1).symm.trans h
      refine v_aload_n (pc := 70) O dX12_regions_70 0 rfl ?_
      refine v_getK (pc := 71) (a := 207) O hm gf_X12_68 fl_X12_138 kq_207 lk_207_68 dX12_regions_71 ?_
      refine v_bipush (pc := 74) O dX12_regions_74 bp_64 ?_
      refine v_iload_n (pc := 76) O dX12_regions_76 1 rfl ?_
      refine v_imul (pc := 77) O dX12_regions_77 ?_
      refine v_iload_n (pc := 78) O dX12_regions_78 2 rfl ?_
      refine v_iadd (pc := 79) O dX12_regions_79 ?_
      refine v_aload_n (pc := 80) O dX12_regions_80 0 rfl ?_
      refine v_getK (pc := 81) (a := 207) O hm gf_X12_72 fl_X12_150 kq_207 lk_207_72 dX12_regions_81 ?_
      refine v_iload_n (pc := 84) O dX12_regions_84 2 rfl ?_
      obtain ⟨c2, h⟩ := or_none h
      refine v_zald (pc := 85) (a := 252) O kq_252 (inq lq_252 c2) dX12_regions_85 ?_
      obtain ⟨c3, h⟩ := or_none h
      refine v_zast (pc := 86) (a := 248) O kq_248 (inq lq_248 c3) dX12_regions_86 ?_
      refine v_iinc (pc := 87) (lv' := [(2, .int (x2 + 1)), (0, .ref (bo X + pp 207)), (1, .int x1)]) O dX12_regions_87 2 rfl (congrArg (fun q => x2 + q) ic_1) (by rw [hn]; decide) rfl ?_
      refine v_goto (pc := 90) 64 O dX12_regions_90 (by decide) ?_
      refine v_sub [1, 2, 0] rfl ?_
      exact ih x1 (x2 + 1) (sI D 248 (((64 : Int32) * x1) + x2).toNatClampNeg ((dI D 252 (x2).toNatClampNeg) &&& 1)) h
def f_X12_regions_b2 (N : Nat) : Nat → Int32 → Dat → Option (Dat)
  | 0, _, _ => none
  | g + 1, x1, D => if (dI D 207 13) ≤ x1 then (some D) else (if x1 < 0 ∨ 64 ≤ (x1).toNatClampNeg then none else (if x1 < 0 ∨ 64 ≤ (x1).toNatClampNeg then none else (if (dI (sI D 247 (x1).toNatClampNeg (-1)) 212 (x1).toNatClampNeg) = 11 then (if x1 < 0 ∨ 64 ≤ (x1).toNatClampNeg then none else (if 0 ≤ (dI (sI D 247 (x1).toNatClampNeg (-1)) 245 (x1).toNatClampNeg) then ((f_X12_meeting N x1 (sI D 247 (x1).toNatClampNeg (-1))).bind (fun p10 => if x1 < 0 ∨ 64 ≤ (x1).toNatClampNeg then none else (if x1 < 0 ∨ 64 ≤ (x1).toNatClampNeg then none else ((f_X12_reach N x1 (dI (sI p10.2 247 (x1).toNatClampNeg p10.1) 247 (x1).toNatClampNeg) (sI p10.2 247 (x1).toNatClampNeg p10.1)).bind (fun p14 => f_X12_regions_b64 N (f_X12_regions_b2 N g) N x1 0 p14))))) else (f_X12_regions_b93 N (f_X12_regions_b2 N g) x1 (sI D 247 (x1).toNatClampNeg (-1))))) else (f_X12_regions_b93 N (f_X12_regions_b2 N g) x1 (sI D 247 (x1).toNatClampNeg (-1))))))
set_option maxHeartbeats 4000000 in
theorem w_X12_regions_b2 {X : Cx} {n nu c u : Nat} {K : Nat → Nat} {N : Nat} {z : Dat} (O : Ok X cX12_regions RX12 none 3 73) (hm : wlm (xw X) = true) (hn : xn X = 3) (hz : Z0 X (Ax nu K c u)) : ∀ (g : Nat) (x1 : Int32) (D : Dat), f_X12_regions_b2 N g x1 D = some z → V X (Q0 X n (Ax nu K c u) none z) n (Ax nu K c u) D 2 [(0, .ref (bo X + pp 207)), (1, .int x1)] [] := by
  intro g
  induction g with
  | zero => intro x1 D h; exact absurd h (by simp [f_X12_regions_b2])
  | succ g ih =>
    intro x1 D h
    rw [f_X12_regions_b2] at h
    refine v_iload_n (pc := 2) O dX12_regions_2 1 rfl ?_
    refine v_aload_n (pc := 3) O dX12_regions_3 0 rfl ?_
    refine v_getI (pc := 4) (a := 207) O gf_X12_13 fl_X12_406 kq_207 dX12_regions_4 ?_
    refine v_icmpge (pc := 7) 99 O dX12_regions_7 (by decide) (fun c4 => ?_) (fun c4 => ?_)
    · have h := (if_pos c4).symm.trans h
      obtain rfl := Option.some.inj h
      exact v_ret (pc := 99) O hz dX12_regions_99
    · have h := (if_neg c4).symm.trans h
      refine v_aload_n (pc := 10) O dX12_regions_10 0 rfl ?_
      refine v_getK (pc := 11) (a := 207) O hm gf_X12_67 fl_X12_135 kq_207 lk_207_67 dX12_regions_11 ?_
      refine v_iload_n (pc := 14) O dX12_regions_14 1 rfl ?_
      refine v_iconst (pc := 15) O dX12_regions_15 ic_m1 ?_
      obtain ⟨c5, h⟩ := or_none h
      refine v_iast (pc := 16) (a := 247) O kq_247 (inq lq_247 c5) dX12_regions_16 ?_
      refine v_aload_n (pc := 17) O dX12_regions_17 0 rfl ?_
      refine v_getK (pc := 18) (a := 207) O hm gf_X12_11 fl_X12_30 kq_207 lk_207_11 dX12_regions_18 ?_
      refine v_iload_n (pc := 21) O dX12_regions_21 1 rfl ?_
      obtain ⟨c6, h⟩ := or_none h
      refine v_iald (pc := 22) (a := 212) O kq_212 (inq lq_212 c6) dX12_regions_22 ?_
      refine v_bipush (pc := 23) O dX12_regions_23 bp_11 ?_
      refine v_icmpne (pc := 25) 93 O dX12_regions_25 (by decide) (fun c7 => ?_) (fun c7 => ?_)
      · have h := (if_neg c7).symm.trans h
        refine v_sub [0, 1] rfl ?_
        exact w_X12_regions_b93 O hm hn hz ih x1 (sI D 247 (x1).toNatClampNeg (-1)) h
      · have h := (if_pos c7).symm.trans h
        refine v_aload_n (pc := 28) O dX12_regions_28 0 rfl ?_
        refine v_getK (pc := 29) (a := 207) O hm gf_X12_65 fl_X12_129 kq_207 lk_207_65 dX12_regions_29 ?_
        refine v_iload_n (pc := 32) O dX12_regions_32 1 rfl ?_
        obtain ⟨c8, h⟩ := or_none h
        refine v_iald (pc := 33) (a := 245) O kq_245 (inq lq_245 c8) dX12_regions_33 ?_
        refine v_ifge (pc := 34) 40 O dX12_regions_34 (by decide) (fun c9 => ?_) (fun c9 => ?_)
        · have h := (if_pos c9).symm.trans h
          refine v_aload_n (pc := 40) O dX12_regions_40 0 rfl ?_
          refine v_getK (pc := 41) (a := 207) O hm gf_X12_67 fl_X12_135 kq_207 lk_207_67 dX12_regions_41 ?_
          refine v_iload_n (pc := 44) O dX12_regions_44 1 rfl ?_
          refine v_aload_n (pc := 45) O dX12_regions_45 0 rfl ?_
          refine v_iload_n (pc := 46) O dX12_regions_46 1 rfl ?_
          obtain ⟨p10, e11, h⟩ := bind_some h
          refine v_callV (pc := 47) (a := 207) (As := [.int x1]) (rest := [.int x1, .ref (bo X + pp 247)]) (r := (some (.int p10.1))) (D' := p10.2) O (bb0 hz) (c_X12_meeting hm e11) mw_X12_meeting im_X12_meeting se_X12_meeting ml_X12_433 kq_207 (by decide) rfl rfl rfl (by decide) (by decide) (Nat.le_of_ble_eq_true rfl) dX12_regions_47 rfl rfl ?_
          obtain ⟨c12, h⟩ := or_none h
          refine v_iast (pc := 50) (a := 247) O kq_247 (inq lq_247 c12) dX12_regions_50 ?_
          refine v_aload_n (pc := 51) O dX12_regions_51 0 rfl ?_
          refine v_iload_n (pc := 52) O dX12_regions_52 1 rfl ?_
          refine v_aload_n (pc := 53) O dX12_regions_53 0 rfl ?_
          refine v_getK (pc := 54) (a := 207) O hm gf_X12_67 fl_X12_135 kq_207 lk_207_67 dX12_regions_54 ?_
          refine v_iload_n (pc := 57) O dX12_regions_57 1 rfl ?_
          obtain ⟨c13, h⟩ := or_none h
          refine v_iald (pc := 58) (a := 247) O kq_247 (inq lq_247 c13) dX12_regions_58 ?_
          obtain ⟨p14, e15, h⟩ := bind_some h
          refine v_callV (pc := 59) (a := 207) (As := [.int x1, .int (dI (sI p10.2 247 (x1).toNatClampNeg p10.1) 247 (x1).toNatClampNeg)]) (rest := []) (r := none) (D' := p14) O (bb0 hz) (c_X12_reach hm e15) mw_X12_reach im_X12_reach se_X12_reach ml_X12_427 kq_207 (by decide) rfl rfl rfl (by decide) (by decide) (Nat.le_of_ble_eq_true rfl) dX12_regions_59 rfl rfl ?_
          refine v_iconst (pc := 62) O dX12_regions_62 ic_0 ?_
          refine v_istore_n (pc := 63) (lv' := [(2, .int 0), (0, .ref (bo X + pp 207)), (1, .int x1)]) O dX12_regions_63 rfl (by rw [hn]; decide) rfl ?_
          refine v_sub [1, 2, 0] rfl ?_
          exact w_X12_regions_b64 O hm hn hz ih N x1 0 p14 h
        · have h := (if_neg c9).symm.trans h
          refine v_goto (pc := 37) 93 O dX12_regions_37 (by decide) ?_
          refine v_sub [0, 1] rfl ?_
          exact w_X12_regions_b93 O hm hn hz ih x1 (sI D 247 (x1).toNatClampNeg (-1)) h
def f_X12_regions (N : Nat) (D : Dat) : Option (Dat) :=
  f_X12_regions_b2 N N 0 D
set_option maxHeartbeats 4000000 in
theorem w_X12_regions {X : Cx} {n nu c u : Nat} {K : Nat → Nat} {N : Nat} {z : Dat} (O : Ok X cX12_regions RX12 none 3 73) (hm : wlm (xw X) = true) (hn : xn X = 3) (hz : Z0 X (Ax nu K c u)) (D : Dat) (h : f_X12_regions N D = some z) : V X (Q0 X n (Ax nu K c u) none z) n (Ax nu K c u) D 0 [(0, .ref (bo X + pp 207))] [] := by
  unfold f_X12_regions at h
  refine v_iconst (pc := 0) O dX12_regions_0 ic_0 ?_
  refine v_istore_n (pc := 1) (lv' := [(1, .int 0), (0, .ref (bo X + pp 207))]) O dX12_regions_1 rfl (by rw [hn]; decide) rfl ?_
  refine v_sub [1, 0] rfl ?_
  exact w_X12_regions_b2 O hm hn hz N 0 D h
theorem c_X12_regions {l : Launch} {w : Wx} {n nu c u : Nat} {K : Nat → Nat} {N : Nat} (hm : wlm w = true) {D : Dat} {z : Dat} (h : f_X12_regions N D = some z) : C0 l w yX12_regions cX12_regions 3 none 3 73 [.ref (wb w + pp 207)] n (Ax nu K c u) D none z :=
  C0.of (by decide) (Nat.le_of_ble_eq_true rfl) (fun X e1 e2 e3 hz O => by
  subst e1
  subst e2
  exact w_X12_regions O hm e3 hz  D h)
def f_X12_rowOf_b22 (s0 : Int32) (D : Dat) : Option (Int32 × Dat) :=
  some (s0, D)
set_option maxHeartbeats 4000000 in
theorem w_X12_rowOf_b22 {X : Cx} {n nu c u : Nat} {K : Nat → Nat} {z : Int32 × Dat} (O : Ok X cX12_rowOf RX12 (some .int) 0 0) (hm : wlm (xw X) = true) (hn : xn X = 2) (hz : Z0 X (Ax nu K c u)) (s0 : Int32) (D : Dat) (h : f_X12_rowOf_b22 s0 D = some z) : V X (Q0 X n (Ax nu K c u) (some (.int z.1)) z.2) n (Ax nu K c u) D 22 [] [.int s0] := by
  unfold f_X12_rowOf_b22 at h
  obtain rfl := Option.some.inj h
  exact v_iret (pc := 22) O hz dX12_rowOf_22
def f_X12_rowOf (x1 : Int32) (D : Dat) : Option (Int32 × Dat) :=
  if x1 < 0 ∨ 26 ≤ (x1).toNatClampNeg then none else (if 0 ≤ (dI D 215 (x1).toNatClampNeg) then (if x1 < 0 ∨ 26 ≤ (x1).toNatClampNeg then none else (f_X12_rowOf_b22 (dI D 215 (x1).toNatClampNeg) D)) else (f_X12_rowOf_b22 (dI D 207 6) D))
set_option maxHeartbeats 4000000 in
theorem w_X12_rowOf {X : Cx} {n nu c u : Nat} {K : Nat → Nat} {z : Int32 × Dat} (O : Ok X cX12_rowOf RX12 (some .int) 0 0) (hm : wlm (xw X) = true) (hn : xn X = 2) (hz : Z0 X (Ax nu K c u)) (x1 : Int32) (D : Dat) (h : f_X12_rowOf x1 D = some z) : V X (Q0 X n (Ax nu K c u) (some (.int z.1)) z.2) n (Ax nu K c u) D 0 [(0, .ref (bo X + pp 207)), (1, .int x1)] [] := by
  unfold f_X12_rowOf at h
  refine v_aload_n (pc := 0) O dX12_rowOf_0 0 rfl ?_
  refine v_getK (pc := 1) (a := 207) O hm gf_X12_15 fl_X12_39 kq_207 lk_207_15 dX12_rowOf_1 ?_
  refine v_iload_n (pc := 4) O dX12_rowOf_4 1 rfl ?_
  obtain ⟨c1, h⟩ := or_none h
  refine v_iald (pc := 5) (a := 215) O kq_215 (inq lq_215 c1) dX12_rowOf_5 ?_
  refine v_ifge (pc := 6) 16 O dX12_rowOf_6 (by decide) (fun c2 => ?_) (fun c2 => ?_)
  · have h := (if_pos c2).symm.trans h
    refine v_aload_n (pc := 16) O dX12_rowOf_16 0 rfl ?_
    refine v_getK (pc := 17) (a := 207) O hm gf_X12_15 fl_X12_39 kq_207 lk_207_15 dX12_rowOf_17 ?_
    refine v_iload_n (pc := 20) O dX12_rowOf_20 1 rfl ?_
    obtain ⟨c3, h⟩ := or_none h
    refine v_iald (pc := 21) (a := 215) O kq_215 (inq lq_215 c3) dX12_rowOf_21 ?_
    refine v_sub [] rfl ?_
    exact w_X12_rowOf_b22 O hm hn hz (dI D 215 (x1).toNatClampNeg) D h
  · have h := (if_neg c2).symm.trans h
    refine v_aload_n (pc := 9) O dX12_rowOf_9 0 rfl ?_
    refine v_getI (pc := 10) (a := 207) O gf_X12_6 fl_X12_210 kq_207 dX12_rowOf_10 ?_
    refine v_goto (pc := 13) 22 O dX12_rowOf_13 (by decide) ?_
    refine v_sub [] rfl ?_
    exact w_X12_rowOf_b22 O hm hn hz (dI D 207 6) D h
theorem c_X12_rowOf {l : Launch} {w : Wx} {n nu c u : Nat} {K : Nat → Nat} (hm : wlm w = true) {x1 : Int32} {D : Dat} {z : Int32 × Dat} (h : f_X12_rowOf x1 D = some z) : C0 l w yX12_rowOf cX12_rowOf 2 (some .int) 0 0 [.ref (wb w + pp 207), .int x1] n (Ax nu K c u) D (some (.int z.1)) z.2 :=
  C0.of (by decide) (Nat.le_of_ble_eq_true rfl) (fun X e1 e2 e3 hz O => by
  subst e1
  subst e2
  exact w_X12_rowOf O hm e3 hz x1 D h)
def f_X12_taken_b7 (N : Nat) : Nat → Int32 → Int32 → Int32 → Dat → Option (Int32 × Dat)
  | 0, _, _, _, _ => none
  | g + 1, x1, x2, x3, D => if x1 < 0 ∨ 64 ≤ (x1).toNatClampNeg then none else ((f_X12_takes (dI D 212 (x1).toNatClampNeg) D).bind (fun p2 => if p2.1 ≤ x3 then (some (x2, p2.2)) else (if x1 < 0 ∨ 64 ≤ (x1).toNatClampNeg then none else (if ((((((56 : Int32) * x1) + (26 : Int32)) + (dI p2.2 245 (x1).toNatClampNeg)) - (1 : Int32)) - x3) < 0 ∨ 3584 ≤ (((((((56 : Int32) * x1) + (26 : Int32)) + (dI p2.2 245 (x1).toNatClampNeg)) - (1 : Int32)) - x3)).toNatClampNeg then none else ((f_X12_join x2 (dI p2.2 250 ((((((56 : Int32) * x1) + (26 : Int32)) + (dI p2.2 245 (x1).toNatClampNeg)) - (1 : Int32)) - x3).toNatClampNeg) p2.2).bind (fun p7 => (f_X12_taken_b7 N g) x1 p7.1 (x3 + 1) p7.2))))))
set_option maxHeartbeats 4000000 in
theorem w_X12_taken_b7 {X : Cx} {n nu c u : Nat} {K : Nat → Nat} {N : Nat} {z : Int32 × Dat} (O : Ok X cX12_taken RX12 (some .int) 1 22) (hm : wlm (xw X) = true) (hn : xn X = 4) (hz : Z0 X (Ax nu K c u)) : ∀ (g : Nat) (x1 : Int32) (x2 : Int32) (x3 : Int32) (D : Dat), f_X12_taken_b7 N g x1 x2 x3 D = some z → V X (Q0 X n (Ax nu K c u) (some (.int z.1)) z.2) n (Ax nu K c u) D 7 [(0, .ref (bo X + pp 207)), (1, .int x1), (2, .int x2), (3, .int x3)] [] := by
  intro g
  induction g with
  | zero => intro x1 x2 x3 D h; exact absurd h (by simp [f_X12_taken_b7])
  | succ g ih =>
    intro x1 x2 x3 D h
    rw [f_X12_taken_b7] at h
    refine v_iload_n (pc := 7) O dX12_taken_7 3 rfl ?_
    refine v_aload_n (pc := 8) O dX12_taken_8 0 rfl ?_
    refine v_aload_n (pc := 9) O dX12_taken_9 0 rfl ?_
    refine v_getK (pc := 10) (a := 207) O hm gf_X12_11 fl_X12_30 kq_207 lk_207_11 dX12_taken_10 ?_
    refine v_iload_n (pc := 13) O dX12_taken_13 1 rfl ?_
    obtain ⟨c1, h⟩ := or_none h
    refine v_iald (pc := 14) (a := 212) O kq_212 (inq lq_212 c1) dX12_taken_14 ?_
    obtain ⟨p2, e3, h⟩ := bind_some h
    refine v_callV (pc := 15) (a := 207) (As := [.int (dI D 212 (x1).toNatClampNeg)]) (rest := [.int x3]) (r := (some (.int p2.1))) (D' := p2.2) O (bb0 hz) (c_X12_takes hm e3) mw_X12_takes im_X12_takes se_X12_takes ml_X12_418 kq_207 (by decide) rfl rfl rfl (by decide) (by decide) (Nat.le_of_ble_eq_true rfl) dX12_taken_15 rfl rfl ?_
    refine v_icmpge (pc := 18) 56 O dX12_taken_18 (by decide) (fun c4 => ?_) (fun c4 => ?_)
    · have h := (if_pos c4).symm.trans h
      refine v_iload_n (pc := 56) O dX12_taken_56 2 rfl ?_
      obtain rfl := Option.some.inj h
      exact v_iret (pc := 57) O hz dX12_taken_57
    · have h := (if_neg c4).symm.trans h
      refine v_aload_n (pc := 21) O dX12_taken_21 0 rfl ?_
      refine v_iload_n (pc := 22) O dX12_taken_22 2 rfl ?_
      refine v_aload_n (pc := 23) O dX12_taken_23 0 rfl ?_
      refine v_getK (pc := 24) (a := 207) O hm gf_X12_70 fl_X12_144 kq_207 lk_207_70 dX12_taken_24 ?_
      refine v_bipush (pc := 27) O dX12_taken_27 bp_56 ?_
      refine v_iload_n (pc := 29) O dX12_taken_29 1 rfl ?_
      refine v_imul (pc := 30) O dX12_taken_30 ?_
      refine v_bipush (pc := 31) O dX12_taken_31 bp_26 ?_
      refine v_iadd (pc := 33) O dX12_taken_33 ?_
      refine v_aload_n (pc := 34) O dX12_taken_34 0 rfl ?_
      refine v_getK (pc := 35) (a := 207) O hm gf_X12_65 fl_X12_129 kq_207 lk_207_65 dX12_taken_35 ?_
      refine v_iload_n (pc := 38) O dX12_taken_38 1 rfl ?_
      obtain ⟨c5, h⟩ := or_none h
      refine v_iald (pc := 39) (a := 245) O kq_245 (inq lq_245 c5) dX12_taken_39 ?_
      refine v_iadd (pc := 40) O dX12_taken_40 ?_
      refine v_iconst (pc := 41) O dX12_taken_41 ic_1 ?_
      refine v_isub (pc := 42) O dX12_taken_42 ?_
      refine v_iload_n (pc := 43) O dX12_taken_43 3 rfl ?_
      refine v_isub (pc := 44) O dX12_taken_44 ?_
      obtain ⟨c6, h⟩ := or_none h
      refine v_iald (pc := 45) (a := 250) O kq_250 (inq lq_250 c6) dX12_taken_45 ?_
      obtain ⟨p7, e8, h⟩ := bind_some h
      refine v_callV (pc := 46) (a := 207) (As := [.int x2, .int (dI p2.2 250 ((((((56 : Int32) * x1) + (26 : Int32)) + (dI p2.2 245 (x1).toNatClampNeg)) - (1 : Int32)) - x3).toNatClampNeg)]) (rest := []) (r := (some (.int p7.1))) (D' := p7.2) O (bb0 hz) (c_X12_join hm e8) mw_X12_join im_X12_join se_X12_join ml_X12_347 kq_207 (by decide) rfl rfl rfl (by decide) (by decide) (Nat.le_of_ble_eq_true rfl) dX12_taken_46 rfl rfl ?_
      refine v_istore_n (pc := 49) (lv' := [(2, .int p7.1), (0, .ref (bo X + pp 207)), (1, .int x1), (3, .int x3)]) O dX12_taken_49 rfl (by rw [hn]; decide) rfl ?_
      refine v_iinc (pc := 50) (lv' := [(3, .int (x3 + 1)), (2, .int p7.1), (0, .ref (bo X + pp 207)), (1, .int x1)]) O dX12_taken_50 3 rfl (congrArg (fun q => x3 + q) ic_1) (by rw [hn]; decide) rfl ?_
      refine v_goto (pc := 53) 7 O dX12_taken_53 (by decide) ?_
      refine v_sub [2, 3, 1, 0] rfl ?_
      exact ih x1 p7.1 (x3 + 1) p7.2 h
def f_X12_taken (N : Nat) (x1 : Int32) (D : Dat) : Option (Int32 × Dat) :=
  f_X12_taken_b7 N N x1 (dI D 207 6) 0 D
set_option maxHeartbeats 4000000 in
theorem w_X12_taken {X : Cx} {n nu c u : Nat} {K : Nat → Nat} {N : Nat} {z : Int32 × Dat} (O : Ok X cX12_taken RX12 (some .int) 1 22) (hm : wlm (xw X) = true) (hn : xn X = 4) (hz : Z0 X (Ax nu K c u)) (x1 : Int32) (D : Dat) (h : f_X12_taken N x1 D = some z) : V X (Q0 X n (Ax nu K c u) (some (.int z.1)) z.2) n (Ax nu K c u) D 0 [(0, .ref (bo X + pp 207)), (1, .int x1)] [] := by
  unfold f_X12_taken at h
  refine v_aload_n (pc := 0) O dX12_taken_0 0 rfl ?_
  refine v_getI (pc := 1) (a := 207) O gf_X12_6 fl_X12_210 kq_207 dX12_taken_1 ?_
  refine v_istore_n (pc := 4) (lv' := [(2, .int (dI D 207 6)), (0, .ref (bo X + pp 207)), (1, .int x1)]) O dX12_taken_4 rfl (by rw [hn]; decide) rfl ?_
  refine v_iconst (pc := 5) O dX12_taken_5 ic_0 ?_
  refine v_istore_n (pc := 6) (lv' := [(3, .int 0), (2, .int (dI D 207 6)), (0, .ref (bo X + pp 207)), (1, .int x1)]) O dX12_taken_6 rfl (by rw [hn]; decide) rfl ?_
  refine v_sub [2, 3, 1, 0] rfl ?_
  exact w_X12_taken_b7 O hm hn hz N x1 (dI D 207 6) 0 D h
theorem c_X12_taken {l : Launch} {w : Wx} {n nu c u : Nat} {K : Nat → Nat} {N : Nat} (hm : wlm w = true) {x1 : Int32} {D : Dat} {z : Int32 × Dat} (h : f_X12_taken N x1 D = some z) : C0 l w yX12_taken cX12_taken 4 (some .int) 1 22 [.ref (wb w + pp 207), .int x1] n (Ax nu K c u) D (some (.int z.1)) z.2 :=
  C0.of (by decide) (Nat.le_of_ble_eq_true rfl) (fun X e1 e2 e3 hz O => by
  subst e1
  subst e2
  exact w_X12_taken O hm e3 hz x1 D h)
def f_X12_behindOf_b181 (N : Nat) (D : Dat) : Option (Dat) :=
  some D
set_option maxHeartbeats 4000000 in
theorem w_X12_behindOf_b181 {X : Cx} {n nu c u : Nat} {K : Nat → Nat} {N : Nat} {z : Dat} (O : Ok X cX12_behindOf RX12 none 2 45) (hm : wlm (xw X) = true) (hn : xn X = 4) (hz : Z0 X (Ax nu K c u)) (D : Dat) (h : f_X12_behindOf_b181 N D = some z) : V X (Q0 X n (Ax nu K c u) none z) n (Ax nu K c u) D 181 [] [] := by
  unfold f_X12_behindOf_b181 at h
  obtain rfl := Option.some.inj h
  exact v_ret (pc := 181) O hz dX12_behindOf_181
def f_X12_behindOf_b151 (N : Nat) (x1 : Int32) (x2 : Int32) (x3 : Int32) (D : Dat) : Option (Dat) :=
  (f_X12_puts x3 D).bind (fun p1 => if p1.1 = 1 then (if x1 < 0 ∨ 64 ≤ (x1).toNatClampNeg then none else ((f_X12_takes x3 p1.2).bind (fun p5 => if (((26 : Int32) + (dI p1.2 245 (x1).toNatClampNeg)) - p5.1) < 0 ∨ 56 ≤ ((((26 : Int32) + (dI p1.2 245 (x1).toNatClampNeg)) - p5.1)).toNatClampNeg then none else (f_X12_behindOf_b181 N (sI p5.2 251 (((26 : Int32) + (dI p1.2 245 (x1).toNatClampNeg)) - p5.1).toNatClampNeg x2))))) else (f_X12_behindOf_b181 N p1.2))
set_option maxHeartbeats 4000000 in
theorem w_X12_behindOf_b151 {X : Cx} {n nu c u : Nat} {K : Nat → Nat} {N : Nat} {z : Dat} (O : Ok X cX12_behindOf RX12 none 2 45) (hm : wlm (xw X) = true) (hn : xn X = 4) (hz : Z0 X (Ax nu K c u)) (x1 : Int32) (x2 : Int32) (x3 : Int32) (D : Dat) (h : f_X12_behindOf_b151 N x1 x2 x3 D = some z) : V X (Q0 X n (Ax nu K c u) none z) n (Ax nu K c u) D 151 [(0, .ref (bo X + pp 207)), (1, .int x1), (2, .int x2), (3, .int x3)] [] := by
  unfold f_X12_behindOf_b151 at h
  refine v_aload_n (pc := 151) O dX12_behindOf_151 0 rfl ?_
  refine v_iload_n (pc := 152) O dX12_behindOf_152 3 rfl ?_
  obtain ⟨p1, e2, h⟩ := bind_some h
  refine v_callV (pc := 153) (a := 207) (As := [.int x3]) (rest := []) (r := (some (.int p1.1))) (D' := p1.2) O (bb0 hz) (c_X12_puts hm e2) mw_X12_puts im_X12_puts se_X12_puts ml_X12_421 kq_207 (by decide) rfl rfl rfl (by decide) (by decide) (Nat.le_of_ble_eq_true rfl) dX12_behindOf_153 rfl rfl ?_
  refine v_iconst (pc := 156) O dX12_behindOf_156 ic_1 ?_
  refine v_icmpne (pc := 157) 181 O dX12_behindOf_157 (by decide) (fun c3 => ?_) (fun c3 => ?_)
  · have h := (if_neg c3).symm.trans h
    refine v_sub [] rfl ?_
    exact w_X12_behindOf_b181 O hm hn hz p1.2 h
  · have h := (if_pos c3).symm.trans h
    refine v_aload_n (pc := 160) O dX12_behindOf_160 0 rfl ?_
    refine v_getK (pc := 161) (a := 207) O hm gf_X12_71 fl_X12_147 kq_207 lk_207_71 dX12_behindOf_161 ?_
    refine v_bipush (pc := 164) O dX12_behindOf_164 bp_26 ?_
    refine v_aload_n (pc := 166) O dX12_behindOf_166 0 rfl ?_
    refine v_getK (pc := 167) (a := 207) O hm gf_X12_65 fl_X12_129 kq_207 lk_207_65 dX12_behindOf_167 ?_
    refine v_iload_n (pc := 170) O dX12_behindOf_170 1 rfl ?_
    obtain ⟨c4, h⟩ := or_none h
    refine v_iald (pc := 171) (a := 245) O kq_245 (inq lq_245 c4) dX12_behindOf_171 ?_
    refine v_iadd (pc := 172) O dX12_behindOf_172 ?_
    refine v_aload_n (pc := 173) O dX12_behindOf_173 0 rfl ?_
    refine v_iload_n (pc := 174) O dX12_behindOf_174 3 rfl ?_
    obtain ⟨p5, e6, h⟩ := bind_some h
    refine v_callV (pc := 175) (a := 207) (As := [.int x3]) (rest := [.int ((26 : Int32) + (dI p1.2 245 (x1).toNatClampNeg)), .ref (bo X + pp 251)]) (r := (some (.int p5.1))) (D' := p5.2) O (bb0 hz) (c_X12_takes hm e6) mw_X12_takes im_X12_takes se_X12_takes ml_X12_418 kq_207 (by decide) rfl rfl rfl (by decide) (by decide) (Nat.le_of_ble_eq_true rfl) dX12_behindOf_175 rfl rfl ?_
    refine v_isub (pc := 178) O dX12_behindOf_178 ?_
    refine v_iload_n (pc := 179) O dX12_behindOf_179 2 rfl ?_
    obtain ⟨c7, h⟩ := or_none h
    refine v_iast (pc := 180) (a := 251) O kq_251 (inq lq_251 c7) dX12_behindOf_180 ?_
    refine v_sub [] rfl ?_
    exact w_X12_behindOf_b181 O hm hn hz (sI p5.2 251 (((26 : Int32) + (dI p1.2 245 (x1).toNatClampNeg)) - p5.1).toNatClampNeg x2) h
def f_X12_behindOf_b133 (N : Nat) (x1 : Int32) (x2 : Int32) (x3 : Int32) (D : Dat) : Option (Dat) :=
  if x3 = 13 then (if x1 < 0 ∨ 64 ≤ (x1).toNatClampNeg then none else ((f_X12_join x2 (dI D 213 (x1).toNatClampNeg) D).bind (fun p10 => f_X12_behindOf_b151 N x1 p10.1 x3 p10.2))) else (f_X12_behindOf_b151 N x1 x2 x3 D)
set_option maxHeartbeats 4000000 in
theorem w_X12_behindOf_b133 {X : Cx} {n nu c u : Nat} {K : Nat → Nat} {N : Nat} {z : Dat} (O : Ok X cX12_behindOf RX12 none 2 45) (hm : wlm (xw X) = true) (hn : xn X = 4) (hz : Z0 X (Ax nu K c u)) (x1 : Int32) (x2 : Int32) (x3 : Int32) (D : Dat) (h : f_X12_behindOf_b133 N x1 x2 x3 D = some z) : V X (Q0 X n (Ax nu K c u) none z) n (Ax nu K c u) D 133 [(0, .ref (bo X + pp 207)), (1, .int x1), (2, .int x2), (3, .int x3)] [] := by
  unfold f_X12_behindOf_b133 at h
  refine v_iload_n (pc := 133) O dX12_behindOf_133 3 rfl ?_
  refine v_bipush (pc := 134) O dX12_behindOf_134 bp_13 ?_
  refine v_icmpne (pc := 136) 151 O dX12_behindOf_136 (by decide) (fun c8 => ?_) (fun c8 => ?_)
  · have h := (if_neg c8).symm.trans h
    refine v_sub [0, 1, 2, 3] rfl ?_
    exact w_X12_behindOf_b151 O hm hn hz x1 x2 x3 D h
  · have h := (if_pos c8).symm.trans h
    refine v_aload_n (pc := 139) O dX12_behindOf_139 0 rfl ?_
    refine v_iload_n (pc := 140) O dX12_behindOf_140 2 rfl ?_
    refine v_aload_n (pc := 141) O dX12_behindOf_141 0 rfl ?_
    refine v_getK (pc := 142) (a := 207) O hm gf_X12_12 fl_X12_33 kq_207 lk_207_12 dX12_behindOf_142 ?_
    refine v_iload_n (pc := 145) O dX12_behindOf_145 1 rfl ?_
    obtain ⟨c9, h⟩ := or_none h
    refine v_iald (pc := 146) (a := 213) O kq_213 (inq lq_213 c9) dX12_behindOf_146 ?_
    obtain ⟨p10, e11, h⟩ := bind_some h
    refine v_callV (pc := 147) (a := 207) (As := [.int x2, .int (dI D 213 (x1).toNatClampNeg)]) (rest := []) (r := (some (.int p10.1))) (D' := p10.2) O (bb0 hz) (c_X12_join hm e11) mw_X12_join im_X12_join se_X12_join ml_X12_347 kq_207 (by decide) rfl rfl rfl (by decide) (by decide) (Nat.le_of_ble_eq_true rfl) dX12_behindOf_147 rfl rfl ?_
    refine v_istore_n (pc := 150) (lv' := [(2, .int p10.1), (0, .ref (bo X + pp 207)), (1, .int x1), (3, .int x3)]) O dX12_behindOf_150 rfl (by rw [hn]; decide) rfl ?_
    refine v_sub [1, 2, 0, 3] rfl ?_
    exact w_X12_behindOf_b151 O hm hn hz x1 p10.1 x3 p10.2 h
def f_X12_behindOf_b112 (N : Nat) (x1 : Int32) (x2 : Int32) (x3 : Int32) (D : Dat) : Option (Dat) :=
  if x3 = 3 then (if x1 < 0 ∨ 64 ≤ (x1).toNatClampNeg then none else ((f_X12_rowOf (dI D 213 (x1).toNatClampNeg) D).bind (fun p14 => (f_X12_join x2 p14.1 p14.2).bind (fun p16 => f_X12_behindOf_b133 N x1 p16.1 x3 p16.2)))) else (f_X12_behindOf_b133 N x1 x2 x3 D)
set_option maxHeartbeats 4000000 in
theorem w_X12_behindOf_b112 {X : Cx} {n nu c u : Nat} {K : Nat → Nat} {N : Nat} {z : Dat} (O : Ok X cX12_behindOf RX12 none 2 45) (hm : wlm (xw X) = true) (hn : xn X = 4) (hz : Z0 X (Ax nu K c u)) (x1 : Int32) (x2 : Int32) (x3 : Int32) (D : Dat) (h : f_X12_behindOf_b112 N x1 x2 x3 D = some z) : V X (Q0 X n (Ax nu K c u) none z) n (Ax nu K c u) D 112 [(0, .ref (bo X + pp 207)), (1, .int x1), (2, .int x2), (3, .int x3)] [] := by
  unfold f_X12_behindOf_b112 at h
  refine v_iload_n (pc := 112) O dX12_behindOf_112 3 rfl ?_
  refine v_iconst (pc := 113) O dX12_behindOf_113 ic_3 ?_
  refine v_icmpne (pc := 114) 133 O dX12_behindOf_114 (by decide) (fun c12 => ?_) (fun c12 => ?_)
  · have h := (if_neg c12).symm.trans h
    refine v_sub [0, 1, 2, 3] rfl ?_
    exact w_X12_behindOf_b133 O hm hn hz x1 x2 x3 D h
  · have h := (if_pos c12).symm.trans h
    refine v_aload_n (pc := 117) O dX12_behindOf_117 0 rfl ?_
    refine v_iload_n (pc := 118) O dX12_behindOf_118 2 rfl ?_
    refine v_aload_n (pc := 119) O dX12_behindOf_119 0 rfl ?_
    refine v_aload_n (pc := 120) O dX12_behindOf_120 0 rfl ?_
    refine v_getK (pc := 121) (a := 207) O hm gf_X12_12 fl_X12_33 kq_207 lk_207_12 dX12_behindOf_121 ?_
    refine v_iload_n (pc := 124) O dX12_behindOf_124 1 rfl ?_
    obtain ⟨c13, h⟩ := or_none h
    refine v_iald (pc := 125) (a := 213) O kq_213 (inq lq_213 c13) dX12_behindOf_125 ?_
    obtain ⟨p14, e15, h⟩ := bind_some h
    refine v_callV (pc := 126) (a := 207) (As := [.int (dI D 213 (x1).toNatClampNeg)]) (rest := [.int x2, .ref (bo X + pp 207)]) (r := (some (.int p14.1))) (D' := p14.2) O (bb0 hz) (c_X12_rowOf hm e15) mw_X12_rowOf im_X12_rowOf se_X12_rowOf ml_X12_439 kq_207 (by decide) rfl rfl rfl (by decide) (by decide) (Nat.le_of_ble_eq_true rfl) dX12_behindOf_126 rfl rfl ?_
    obtain ⟨p16, e17, h⟩ := bind_some h
    refine v_callV (pc := 129) (a := 207) (As := [.int x2, .int p14.1]) (rest := []) (r := (some (.int p16.1))) (D' := p16.2) O (bb0 hz) (c_X12_join hm e17) mw_X12_join im_X12_join se_X12_join ml_X12_347 kq_207 (by decide) rfl rfl rfl (by decide) (by decide) (Nat.le_of_ble_eq_true rfl) dX12_behindOf_129 rfl rfl ?_
    refine v_istore_n (pc := 132) (lv' := [(2, .int p16.1), (0, .ref (bo X + pp 207)), (1, .int x1), (3, .int x3)]) O dX12_behindOf_132 rfl (by rw [hn]; decide) rfl ?_
    refine v_sub [1, 2, 0, 3] rfl ?_
    exact w_X12_behindOf_b133 O hm hn hz x1 p16.1 x3 p16.2 h
def f_X12_behindOf_b85 (N : Nat) (x1 : Int32) (x2 : Int32) (x3 : Int32) (D : Dat) : Option (Dat) :=
  if x3 = 1 then (if x1 < 0 ∨ 64 ≤ (x1).toNatClampNeg then none else (if (((56 : Int32) * x1) + (dI D 213 (x1).toNatClampNeg)) < 0 ∨ 3584 ≤ ((((56 : Int32) * x1) + (dI D 213 (x1).toNatClampNeg))).toNatClampNeg then none else ((f_X12_join x2 (dI D 250 (((56 : Int32) * x1) + (dI D 213 (x1).toNatClampNeg)).toNatClampNeg) D).bind (fun p21 => f_X12_behindOf_b112 N x1 p21.1 x3 p21.2)))) else (f_X12_behindOf_b112 N x1 x2 x3 D)
set_option maxHeartbeats 4000000 in
theorem w_X12_behindOf_b85 {X : Cx} {n nu c u : Nat} {K : Nat → Nat} {N : Nat} {z : Dat} (O : Ok X cX12_behindOf RX12 none 2 45) (hm : wlm (xw X) = true) (hn : xn X = 4) (hz : Z0 X (Ax nu K c u)) (x1 : Int32) (x2 : Int32) (x3 : Int32) (D : Dat) (h : f_X12_behindOf_b85 N x1 x2 x3 D = some z) : V X (Q0 X n (Ax nu K c u) none z) n (Ax nu K c u) D 85 [(0, .ref (bo X + pp 207)), (1, .int x1), (2, .int x2), (3, .int x3)] [] := by
  unfold f_X12_behindOf_b85 at h
  refine v_iload_n (pc := 85) O dX12_behindOf_85 3 rfl ?_
  refine v_iconst (pc := 86) O dX12_behindOf_86 ic_1 ?_
  refine v_icmpne (pc := 87) 112 O dX12_behindOf_87 (by decide) (fun c18 => ?_) (fun c18 => ?_)
  · have h := (if_neg c18).symm.trans h
    refine v_sub [0, 1, 2, 3] rfl ?_
    exact w_X12_behindOf_b112 O hm hn hz x1 x2 x3 D h
  · have h := (if_pos c18).symm.trans h
    refine v_aload_n (pc := 90) O dX12_behindOf_90 0 rfl ?_
    refine v_iload_n (pc := 91) O dX12_behindOf_91 2 rfl ?_
    refine v_aload_n (pc := 92) O dX12_behindOf_92 0 rfl ?_
    refine v_getK (pc := 93) (a := 207) O hm gf_X12_70 fl_X12_144 kq_207 lk_207_70 dX12_behindOf_93 ?_
    refine v_bipush (pc := 96) O dX12_behindOf_96 bp_56 ?_
    refine v_iload_n (pc := 98) O dX12_behindOf_98 1 rfl ?_
    refine v_imul (pc := 99) O dX12_behindOf_99 ?_
    refine v_aload_n (pc := 100) O dX12_behindOf_100 0 rfl ?_
    refine v_getK (pc := 101) (a := 207) O hm gf_X12_12 fl_X12_33 kq_207 lk_207_12 dX12_behindOf_101 ?_
    refine v_iload_n (pc := 104) O dX12_behindOf_104 1 rfl ?_
    obtain ⟨c19, h⟩ := or_none h
    refine v_iald (pc := 105) (a := 213) O kq_213 (inq lq_213 c19) dX12_behindOf_105 ?_
    refine v_iadd (pc := 106) O dX12_behindOf_106 ?_
    obtain ⟨c20, h⟩ := or_none h
    refine v_iald (pc := 107) (a := 250) O kq_250 (inq lq_250 c20) dX12_behindOf_107 ?_
    obtain ⟨p21, e22, h⟩ := bind_some h
    refine v_callV (pc := 108) (a := 207) (As := [.int x2, .int (dI D 250 (((56 : Int32) * x1) + (dI D 213 (x1).toNatClampNeg)).toNatClampNeg)]) (rest := []) (r := (some (.int p21.1))) (D' := p21.2) O (bb0 hz) (c_X12_join hm e22) mw_X12_join im_X12_join se_X12_join ml_X12_347 kq_207 (by decide) rfl rfl rfl (by decide) (by decide) (Nat.le_of_ble_eq_true rfl) dX12_behindOf_108 rfl rfl ?_
    refine v_istore_n (pc := 111) (lv' := [(2, .int p21.1), (0, .ref (bo X + pp 207)), (1, .int x1), (3, .int x3)]) O dX12_behindOf_111 rfl (by rw [hn]; decide) rfl ?_
    refine v_sub [1, 2, 0, 3] rfl ?_
    exact w_X12_behindOf_b112 O hm hn hz x1 p21.1 x3 p21.2 h
def f_X12_behindOf_b2 (N : Nat) : Nat → Int32 → Int32 → Dat → Option (Dat)
  | 0, _, _, _ => none
  | g + 1, x1, x2, D => if 56 ≤ x2 then (if x1 < 0 ∨ 64 ≤ (x1).toNatClampNeg then none else ((f_X12_taken N x1 D).bind (fun p25 => (f_X12_join (dI D 249 (x1).toNatClampNeg) p25.1 p25.2).bind (fun p27 => if x1 < 0 ∨ 64 ≤ (x1).toNatClampNeg then none else (if (dI p27.2 212 (x1).toNatClampNeg) = 2 then (if x1 < 0 ∨ 64 ≤ (x1).toNatClampNeg then none else (if (dI p27.2 213 (x1).toNatClampNeg) < 0 ∨ 26 ≤ ((dI p27.2 213 (x1).toNatClampNeg)).toNatClampNeg then none else (if 0 ≤ (dI p27.2 214 (dI p27.2 213 (x1).toNatClampNeg).toNatClampNeg) then (f_X12_behindOf_b85 N x1 p27.1 (dI p27.2 212 (x1).toNatClampNeg) p27.2) else (if x1 < 0 ∨ 64 ≤ (x1).toNatClampNeg then none else (if (dI p27.2 213 (x1).toNatClampNeg) < 0 ∨ 56 ≤ ((dI p27.2 213 (x1).toNatClampNeg)).toNatClampNeg then none else (f_X12_behindOf_b85 N x1 p27.1 (dI p27.2 212 (x1).toNatClampNeg) (sI p27.2 251 (dI p27.2 213 (x1).toNatClampNeg).toNatClampNeg p27.1))))))) else (f_X12_behindOf_b85 N x1 p27.1 (dI p27.2 212 (x1).toNatClampNeg) p27.2)))))) else (if (((56 : Int32) * x1) + x2) < 0 ∨ 3584 ≤ ((((56 : Int32) * x1) + x2)).toNatClampNeg then none else (if x2 < 0 ∨ 56 ≤ (x2).toNatClampNeg then none else ((f_X12_behindOf_b2 N g) x1 (x2 + 1) (sI D 251 (x2).toNatClampNeg (dI D 250 (((56 : Int32) * x1) + x2).toNatClampNeg)))))
set_option maxHeartbeats 4000000 in
theorem w_X12_behindOf_b2 {X : Cx} {n nu c u : Nat} {K : Nat → Nat} {N : Nat} {z : Dat} (O : Ok X cX12_behindOf RX12 none 2 45) (hm : wlm (xw X) = true) (hn : xn X = 4) (hz : Z0 X (Ax nu K c u)) : ∀ (g : Nat) (x1 : Int32) (x2 : Int32) (D : Dat), f_X12_behindOf_b2 N g x1 x2 D = some z → V X (Q0 X n (Ax nu K c u) none z) n (Ax nu K c u) D 2 [(0, .ref (bo X + pp 207)), (1, .int x1), (2, .int x2)] [] := by
  intro g
  induction g with
  | zero => intro x1 x2 D h; exact absurd h (by simp [f_X12_behindOf_b2])
  | succ g ih =>
    intro x1 x2 D h
    rw [f_X12_behindOf_b2] at h
    refine v_iload_n (pc := 2) O dX12_behindOf_2 2 rfl ?_
    refine v_bipush (pc := 3) O dX12_behindOf_3 bp_56 ?_
    refine v_icmpge (pc := 5) 31 O dX12_behindOf_5 (by decide) (fun c23 => ?_) (fun c23 => ?_)
    · have h := (if_pos c23).symm.trans h
      refine v_aload_n (pc := 31) O dX12_behindOf_31 0 rfl ?_
      refine v_aload_n (pc := 32) O dX12_behindOf_32 0 rfl ?_
      refine v_getK (pc := 33) (a := 207) O hm gf_X12_69 fl_X12_141 kq_207 lk_207_69 dX12_behindOf_33 ?_
      refine v_iload_n (pc := 36) O dX12_behindOf_36 1 rfl ?_
      obtain ⟨c24, h⟩ := or_none h
      refine v_iald (pc := 37) (a := 249) O kq_249 (inq lq_249 c24) dX12_behindOf_37 ?_
      refine v_aload_n (pc := 38) O dX12_behindOf_38 0 rfl ?_
      refine v_iload_n (pc := 39) O dX12_behindOf_39 1 rfl ?_
      obtain ⟨p25, e26, h⟩ := bind_some h
      refine v_callV (pc := 40) (a := 207) (As := [.int x1]) (rest := [.int (dI D 249 (x1).toNatClampNeg), .ref (bo X + pp 207)]) (r := (some (.int p25.1))) (D' := p25.2) O (bb0 hz) (c_X12_taken hm e26) mw_X12_taken im_X12_taken se_X12_taken ml_X12_436 kq_207 (by decide) rfl rfl rfl (by decide) (by decide) (Nat.le_of_ble_eq_true rfl) dX12_behindOf_40 rfl rfl ?_
      obtain ⟨p27, e28, h⟩ := bind_some h
      refine v_callV (pc := 43) (a := 207) (As := [.int (dI D 249 (x1).toNatClampNeg), .int p25.1]) (rest := []) (r := (some (.int p27.1))) (D' := p27.2) O (bb0 hz) (c_X12_join hm e28) mw_X12_join im_X12_join se_X12_join ml_X12_347 kq_207 (by decide) rfl rfl rfl (by decide) (by decide) (Nat.le_of_ble_eq_true rfl) dX12_behindOf_43 rfl rfl ?_
      refine v_istore_n (pc := 46) (lv' := [(2, .int p27.1), (0, .ref (bo X + pp 207)), (1, .int x1)]) O dX12_behindOf_46 rfl (by rw [hn]; decide) rfl ?_
      refine v_aload_n (pc := 47) O dX12_behindOf_47 1 rfl ?_
      refine v_getK (pc := 48) (a := 207) O hm gf_X12_11 fl_X12_30 kq_207 lk_207_11 dX12_behindOf_48 ?_
      refine v_iload_n (pc := 51) O dX12_behindOf_51 2 rfl ?_
      obtain ⟨c29, h⟩ := or_none h
      refine v_iald (pc := 52) (a := 212) O kq_212 (inq lq_212 c29) dX12_behindOf_52 ?_
      refine v_istore_n (pc := 53) (lv' := [(3, .int (dI p27.2 212 (x1).toNatClampNeg)), (2, .int p27.1), (0, .ref (bo X + pp 207)), (1, .int x1)]) O dX12_behindOf_53 rfl (by rw [hn]; decide) rfl ?_
      refine v_iload_n (pc := 54) O dX12_behindOf_54 0 rfl ?_
      refine v_iconst (pc := 55) O dX12_behindOf_55 ic_2 ?_
      refine v_icmpne (pc := 56) 85 O dX12_behindOf_56 (by decide) (fun c30 => ?_) (fun c30 => ?_)
      · have h := (if_neg c30).symm.trans h
        refine v_sub [2, 3, 1, 0] rfl ?_
        exact w_X12_behindOf_b85 O hm hn hz x1 p27.1 (dI p27.2 212 (x1).toNatClampNeg) p27.2 h
      · have h := (if_pos c30).symm.trans h
        refine v_aload_n (pc := 59) O dX12_behindOf_59 2 rfl ?_
        refine v_getK (pc := 60) (a := 207) O hm gf_X12_14 fl_X12_36 kq_207 lk_207_14 dX12_behindOf_60 ?_
        refine v_aload_n (pc := 63) O dX12_behindOf_63 2 rfl ?_
        refine v_getK (pc := 64) (a := 207) O hm gf_X12_12 fl_X12_33 kq_207 lk_207_12 dX12_behindOf_64 ?_
        refine v_iload_n (pc := 67) O dX12_behindOf_67 3 rfl ?_
        obtain ⟨c31, h⟩ := or_none h
        refine v_iald (pc := 68) (a := 213) O kq_213 (inq lq_213 c31) dX12_behindOf_68 ?_
        obtain ⟨c32, h⟩ := or_none h
        refine v_iald (pc := 69) (a := 214) O kq_214 (inq lq_214 c32) dX12_behindOf_69 ?_
        refine v_ifge (pc := 70) 85 O dX12_behindOf_70 (by decide) (fun c33 => ?_) (fun c33 => ?_)
        · have h := (if_pos c33).symm.trans h
          refine v_sub [2, 3, 1, 0] rfl ?_
          exact w_X12_behindOf_b85 O hm hn hz x1 p27.1 (dI p27.2 212 (x1).toNatClampNeg) p27.2 h
        · have h := (if_neg c33).symm.trans h
          refine v_aload_n (pc := 73) O dX12_behindOf_73 2 rfl ?_
          refine v_getK (pc := 74) (a := 207) O hm gf_X12_71 fl_X12_147 kq_207 lk_207_71 dX12_behindOf_74 ?_
          refine v_aload_n (pc := 77) O dX12_behindOf_77 2 rfl ?_
          refine v_getK (pc := 78) (a := 207) O hm gf_X12_12 fl_X12_33 kq_207 lk_207_12 dX12_behindOf_78 ?_
          refine v_iload_n (pc := 81) O dX12_behindOf_81 3 rfl ?_
          obtain ⟨c34, h⟩ := or_none h
          refine v_iald (pc := 82) (a := 213) O kq_213 (inq lq_213 c34) dX12_behindOf_82 ?_
          refine v_iload_n (pc := 83) O dX12_behindOf_83 1 rfl ?_
          obtain ⟨c35, h⟩ := or_none h
          refine v_iast (pc := 84) (a := 251) O kq_251 (inq lq_251 c35) dX12_behindOf_84 ?_
          refine v_sub [2, 3, 1, 0] rfl ?_
          exact w_X12_behindOf_b85 O hm hn hz x1 p27.1 (dI p27.2 212 (x1).toNatClampNeg) (sI p27.2 251 (dI p27.2 213 (x1).toNatClampNeg).toNatClampNeg p27.1) h
    · have h := (if_neg c23).symm.trans h
      refine v_aload_n (pc := 8) O dX12_behindOf_8 0 rfl ?_
      refine v_getK (pc := 9) (a := 207) O hm gf_X12_71 fl_X12_147 kq_207 lk_207_71 dX12_behindOf_9 ?_
      refine v_iload_n (pc := 12) O dX12_behindOf_12 2 rfl ?_
      refine v_aload_n (pc := 13) O dX12_behindOf_13 0 rfl ?_
      refine v_getK (pc := 14) (a := 207) O hm gf_X12_70 fl_X12_144 kq_207 lk_207_70 dX12_behindOf_14 ?_
      refine v_bipush (pc := 17) O dX12_behindOf_17 bp_56 ?_
      refine v_iload_n (pc := 19) O dX12_behindOf_19 1 rfl ?_
      refine v_imul (pc := 20) O dX12_behindOf_20 ?_
      refine v_iload_n (pc := 21) O dX12_behindOf_21 2 rfl ?_
      refine v_iadd (pc := 22) O dX12_behindOf_22 ?_
      obtain ⟨c36, h⟩ := or_none h
      refine v_iald (pc := 23) (a := 250) O kq_250 (inq lq_250 c36) dX12_behindOf_23 ?_
      obtain ⟨c37, h⟩ := or_none h
      refine v_iast (pc := 24) (a := 251) O kq_251 (inq lq_251 c37) dX12_behindOf_24 ?_
      refine v_iinc (pc := 25) (lv' := [(2, .int (x2 + 1)), (0, .ref (bo X + pp 207)), (1, .int x1)]) O dX12_behindOf_25 2 rfl (congrArg (fun q => x2 + q) ic_1) (by rw [hn]; decide) rfl ?_
      refine v_goto (pc := 28) 2 O dX12_behindOf_28 (by decide) ?_
      refine v_sub [1, 2, 0] rfl ?_
      exact ih x1 (x2 + 1) (sI D 251 (x2).toNatClampNeg (dI D 250 (((56 : Int32) * x1) + x2).toNatClampNeg)) h
def f_X12_behindOf (N : Nat) (x1 : Int32) (D : Dat) : Option (Dat) :=
  f_X12_behindOf_b2 N N x1 0 D
set_option maxHeartbeats 4000000 in
theorem w_X12_behindOf {X : Cx} {n nu c u : Nat} {K : Nat → Nat} {N : Nat} {z : Dat} (O : Ok X cX12_behindOf RX12 none 2 45) (hm : wlm (xw X) = true) (hn : xn X = 4) (hz : Z0 X (Ax nu K c u)) (x1 : Int32) (D : Dat) (h : f_X12_behindOf N x1 D = some z) : V X (Q0 X n (Ax nu K c u) none z) n (Ax nu K c u) D 0 [(0, .ref (bo X + pp 207)), (1, .int x1)] [] := by
  unfold f_X12_behindOf at h
  refine v_iconst (pc := 0) O dX12_behindOf_0 ic_0 ?_
  refine v_istore_n (pc := 1) (lv' := [(2, .int 0), (0, .ref (bo X + pp 207)), (1, .int x1)]) O dX12_behindOf_1 rfl (by rw [hn]; decide) rfl ?_
  refine v_sub [1, 2, 0] rfl ?_
  exact w_X12_behindOf_b2 O hm hn hz N x1 0 D h
theorem c_X12_behindOf {l : Launch} {w : Wx} {n nu c u : Nat} {K : Nat → Nat} {N : Nat} (hm : wlm w = true) {x1 : Int32} {D : Dat} {z : Dat} (h : f_X12_behindOf N x1 D = some z) : C0 l w yX12_behindOf cX12_behindOf 4 none 2 45 [.ref (wb w + pp 207), .int x1] n (Ax nu K c u) D none z :=
  C0.of (by decide) (Nat.le_of_ble_eq_true rfl) (fun X e1 e2 e3 hz O => by
  subst e1
  subst e2
  exact w_X12_behindOf O hm e3 hz x1 D h)
