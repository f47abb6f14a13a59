theorem pf_X5_4 : PI 5 RX5 TX5 10 tyX5 4 2 (.object "FlowChain$Program") := ⟨gf_X5_4, rfl, rfl⟩
theorem cw_X4_empty : Cond.code yX4_empty cX4_empty 2 none ∈ tb := tb_of 798 (by decide +kernel) (by decide +kernel)
theorem mw_X4_empty : MW yX4_empty cX4_empty 2 none 0 := ⟨cw_X4_empty, ini_X4, by decide +kernel⟩
theorem im_X4_empty : Cond.instanceMethod yX4_empty ∈ tb := tb_of 796 (by decide +kernel) (by decide +kernel)
theorem se_X4_empty : Cond.selects (yX4_empty).cls yX4_empty yX4_empty ∈ tb := tb_of 797 (by decide +kernel) (by decide +kernel)
theorem ml_X5_40 : Cond.methodLink RX5 40 yX4_empty ∈ tb := tb_of 795 (by decide +kernel) (by decide +kernel)
theorem ml_X5_45 : Cond.methodLink RX5 45 yJ7_fill_53178 ∈ tb := tb_of 800 (by decide +kernel) (by decide +kernel)
theorem cw_X5_readDeclarations : Cond.code yX5_readDeclarations cX5_readDeclarations 2 none ∈ tb := tb_of 904 (by decide +kernel) (by decide +kernel)
theorem mw_X5_readDeclarations : MW yX5_readDeclarations cX5_readDeclarations 2 none 0 := ⟨cw_X5_readDeclarations, ini_X5, by decide +kernel⟩
theorem im_X5_readDeclarations : Cond.instanceMethod yX5_readDeclarations ∈ tb := tb_of 903 (by decide +kernel) (by decide +kernel)
theorem se_X5_readDeclarations : Cond.selects (yX5_readDeclarations).cls yX5_readDeclarations yX5_readDeclarations ∈ tb := tb_of 10 (by decide +kernel) (by decide +kernel)
theorem ml_X5_60 : Cond.methodLink RX5 60 yX5_readDeclarations ∈ tb := tb_of 901 (by decide +kernel) (by decide +kernel)
theorem fl_X5_67 : Cond.fieldLink RX5 67 RX4 (TX4 0).2.1 (TX4 0).2.2.1 ∈ tb := tb_of 450 (by decide +kernel) (by decide +kernel)
def f_X5_read (N : Nat) (nu : Nat) (x1 : Option Nat) (S : Sr) (D : Dat) : Option (Sum Nat Unit × Sr × Dat) :=
  ((dR (sR D 3 4 x1) 3 4)).bind (fun a1 => if a1 = 191 ∨ a1 = 196 then ((f_X4_empty N nu S.2.1 a1 (sR D 3 4 x1)).bind (fun p4 => (f_J7_fill_53178 N nu S.2.1 5 0 p4).bind (fun p6 => (f_X5_advance N (sI (sI p6 3 5 0) 3 8 0)).bind (fun p8 => sb2 (f_X5_readDeclarations N nu S p8) (fun p10 S12 D12 => sb2 (f_X5_readStatements N nu 12 0 S12 D12) (fun p13 S15 D15 => ((dR D12 3 4)).bind (fun a16 => if a16 = 191 ∨ a16 = 196 then (some (.inr (), S15, (sR D15 a16 0 p13))) else none))))))) else none)
set_option maxHeartbeats 4000000 in
theorem w_X5_read {X : Cx} {nu : Nat} {N : Nat} {z : Sum Nat Unit × Sr × Dat} (O : Ok X cX5_read RX5 none 1714 38155) (hm : wlm (xw X) = true) (hn : xn X = 2) (hT : T2 X) (x1 : Option Nat) (S : Sr) (D : Dat) (h : f_X5_read N nu x1 S D = some z) : V X (Q2 X nu (ru z)) S.1 (Az nu S) D 0 [(0, .ref (bo X + 3)), (1, rv (bo X) x1)] [] := by
  unfold f_X5_read at h
  refine v_aload_n (pc := 0) O dX5_read_0 0 rfl ?_
  refine v_aload_nr (pc := 1) O dX5_read_1 1 rfl ?_
  refine v_putR (pc := 2) (a := 3) (r := x1) O pf_X5_4 rfl fl_X5_36 kq_3 dX5_read_2 ?_
  refine v_aload_n (pc := 5) O dX5_read_5 0 rfl ?_
  refine v_getR (pc := 6) (a := 3) O gf_X5_4 fl_X5_36 kq_3 dX5_read_6 ?_
  obtain ⟨a1, e2, h⟩ := bind_some h
  rw [e2]
  obtain ⟨c3, h⟩ := if_none h
  obtain ⟨p4, e5, h⟩ := bind_some h
  refine v_callV (pc := 9) (a := a1) (As := []) (rest := []) (r := none) (D' := p4) O (bb2 hT) (c_X4_empty hm c3 e5) mw_X4_empty im_X4_empty se_X4_empty ml_X5_40 (kt_X4 c3) (by decide) rfl rfl rfl (by decide) (by decide) (Nat.le_of_ble_eq_true rfl) dX5_read_9 rfl rfl ?_
  refine v_aload_n (pc := 12) O dX5_read_12 0 rfl ?_
  refine v_getK (pc := 13) (a := 3) O hm gf_X5_3 fl_X5_15 kq_3 lk_3_3 dX5_read_13 ?_
  refine v_iconst (pc := 16) O dX5_read_16 ic_0 ?_
  obtain ⟨p6, e7, h⟩ := bind_some h
  refine v_callS (pc := 17) (As := [.ref (bo X + 5), .int 0]) (rest := []) (r := none) (D' := p6) O (bb2 hT) (c_J7_fill_53178 hm e7) mw_J7_fill_53178 sm_J7_fill_53178 ml_X5_45 rfl (by decide) (by decide) (Nat.le_of_ble_eq_true rfl) dX5_read_17 rfl rfl ?_
  refine v_aload_n (pc := 20) O dX5_read_20 0 rfl ?_
  refine v_iconst (pc := 21) O dX5_read_21 ic_0 ?_
  refine v_putI (pc := 22) (a := 3) O pf_X5_5 fl_X5_51 kq_3 dX5_read_22 ?_
  refine v_aload_n (pc := 25) O dX5_read_25 0 rfl ?_
  refine v_iconst (pc := 26) O dX5_read_26 ic_0 ?_
  refine v_putI (pc := 27) (a := 3) O pf_X5_8 fl_X5_54 kq_3 dX5_read_27 ?_
  refine v_aload_n (pc := 30) O dX5_read_30 0 rfl ?_
  obtain ⟨p8, e9, h⟩ := bind_some h
  refine v_callV (pc := 31) (a := 3) (As := []) (rest := []) (r := none) (D' := p8) O (bb2 hT) (c_X5_advance hm e9) mw_X5_advance im_X5_advance se_X5_advance ml_X5_57 kq_3 (by decide) rfl rfl rfl (by decide) (by decide) (Nat.le_of_ble_eq_true rfl) dX5_read_31 rfl rfl ?_
  refine v_aload_n (pc := 34) O dX5_read_34 0 rfl ?_
  rcases sb2_some h with ⟨p10, S12, D12, e11, rfl⟩ | ⟨p10, S12, D12, e11, h⟩
  · exact v_call2X (pc := 35) (a := 3) (As := []) (rest := []) (e := p10) (S' := S12) (D' := D12) O hT (c_X5_readDeclarations (nu := nu) hT.2.1 hm e11 :) mw_X5_readDeclarations im_X5_readDeclarations se_X5_readDeclarations ml_X5_60 kq_3 (by decide) rfl rfl rfl (by decide) (by decide) (Nat.le_of_ble_eq_true rfl) dX5_read_35 rfl
  · refine v_call2 (pc := 35) (a := 3) (As := []) (rest := []) (r := none) (S' := S12) (D' := D12) O hT (c_X5_readDeclarations (nu := nu) hT.2.1 hm e11 :) mw_X5_readDeclarations im_X5_readDeclarations se_X5_readDeclarations ml_X5_60 kq_3 (by decide) rfl rfl rfl (by decide) (by decide) (Nat.le_of_ble_eq_true rfl) dX5_read_35 rfl rfl ?_
    refine v_aload_n (pc := 38) O dX5_read_38 0 rfl ?_
    refine v_getR (pc := 39) (a := 3) O gf_X5_4 fl_X5_36 kq_3 dX5_read_39 ?_
    refine v_aload_n (pc := 42) O dX5_read_42 0 rfl ?_
    refine v_iconst (pc := 43) O dX5_read_43 ic_0 ?_
    rcases sb2_some h with ⟨p13, S15, D15, e14, rfl⟩ | ⟨p13, S15, D15, e14, h⟩
    · exact v_call2X (pc := 44) (a := 3) (As := [.int 0]) (rest := [rv (bo X) (dR D12 3 4)]) (e := p13) (S' := S15) (D' := D15) O hT (c_X5_readStatements (nu := nu) hT.2.1 hm 12 e14 :) mw_X5_readStatements im_X5_readStatements se_X5_readStatements ml_X5_63 kq_3 (by decide) rfl rfl rfl (by decide) (by decide) (by simp [rv_cat, cat_i, cat_l, cat_r, cat_n, fmt_cat]) dX5_read_44 rfl
    · refine v_call2 (pc := 44) (a := 3) (As := [.int 0]) (rest := [rv (bo X) (dR D12 3 4)]) (r := (some (rv (bo X) p13))) (S' := S15) (D' := D15) O hT (c_X5_readStatements (nu := nu) hT.2.1 hm 12 e14 :) mw_X5_readStatements im_X5_readStatements se_X5_readStatements ml_X5_63 kq_3 (by decide) rfl rfl rfl (by decide) (by decide) (by simp [rv_cat, cat_i, cat_l, cat_r, cat_n, fmt_cat]) dX5_read_44 rfl rfl ?_
      obtain ⟨a16, e17, h⟩ := bind_some h
      rw [e17]
      obtain ⟨c18, h⟩ := if_none h
      refine v_putR (pc := 47) (a := a16) (r := p13) O pf_X4_0 rfl fl_X5_67 (kt_X4 c18) dX5_read_47 ?_
      obtain rfl := Option.some.inj h
      exact v_vret2 (pc := 50) O dX5_read_50
theorem c_X5_read {l : Launch} {w : Wx} {nu : Nat} {N : Nat} (hl : l.stackTraces = false) (hm : wlm w = true) {x1 : Option Nat} {S : Sr} {D : Dat} {z : Sum Nat Unit × Sr × Dat} (h : f_X5_read N nu x1 S D = some z) : C2 l w yX5_read cX5_read 2 none 1714 38155 [.ref (wb w + 3), rv (wb w) x1] nu S D (ru z) :=
  C2.of hl (by decide) (by simp [lg_sl, rv_cat, cat_i, cat_l, cat_r, cat_n, fmt_cat]) (fun X e1 e2 e3 hT O _ _ => by
  subst e1
  subst e2
  have q : lv_args 0 [.ref (bo X + 3), rv (bo X) x1] = [(0, .ref (bo X + 3)), (1, rv (bo X) x1)] := by simp [lv_args, rv_cat, cat_i, cat_l, cat_r, cat_n, fmt_cat]
  show V X _ _ _ D 0 (lv_args 0 [.ref (bo X + 3), rv (bo X) x1]) []
  rw [q]
  exact w_X5_read O hm e3 hT x1 S D h)
