theorem cw_X5_isWord : Cond.code yX5_isWord cX5_isWord 4 (some .boolean) ∈ tb := tb_of 909 (by decide +kernel) (by decide +kernel)
theorem mw_X5_isWord : MW yX5_isWord cX5_isWord 4 (some .boolean) 1 := ⟨cw_X5_isWord, ini_X5, by decide +kernel⟩
theorem im_X5_isWord : Cond.instanceMethod yX5_isWord ∈ tb := tb_of 908 (by decide +kernel) (by decide +kernel)
theorem se_X5_isWord : Cond.selects (yX5_isWord).cls yX5_isWord yX5_isWord ∈ tb := tb_of 11 (by decide +kernel) (by decide +kernel)
theorem ml_X5_73 : Cond.methodLink RX5 73 yX5_isWord ∈ tb := tb_of 906 (by decide +kernel) (by decide +kernel)
theorem cw_X5_readStatements : Cond.code yX5_readStatements cX5_readStatements 6 (some (.object "FlowChain$Statement")) ∈ tb := tb_of 993 (by decide +kernel) (by decide +kernel)
theorem mw_X5_readStatements : MW yX5_readStatements cX5_readStatements 6 (some (.object "FlowChain$Statement")) 1 := ⟨cw_X5_readStatements, ini_X5, by decide +kernel⟩
theorem im_X5_readStatements : Cond.instanceMethod yX5_readStatements ∈ tb := tb_of 992 (by decide +kernel) (by decide +kernel)
theorem se_X5_readStatements : Cond.selects (yX5_readStatements).cls yX5_readStatements yX5_readStatements ∈ tb := tb_of 21 (by decide +kernel) (by decide +kernel)
theorem ml_X5_63 : Cond.methodLink RX5 63 yX5_readStatements ∈ tb := tb_of 990 (by decide +kernel) (by decide +kernel)
theorem cw_X5_readBlock : Cond.code yX5_readBlock cX5_readBlock 2 (some (.object "FlowChain$Statement")) ∈ tb := tb_of 985 (by decide +kernel) (by decide +kernel)
theorem mw_X5_readBlock : MW yX5_readBlock cX5_readBlock 2 (some (.object "FlowChain$Statement")) 0 := ⟨cw_X5_readBlock, ini_X5, by decide +kernel⟩
theorem im_X5_readBlock : Cond.instanceMethod yX5_readBlock ∈ tb := tb_of 984 (by decide +kernel) (by decide +kernel)
theorem se_X5_readBlock : Cond.selects (yX5_readBlock).cls yX5_readBlock yX5_readBlock ∈ tb := tb_of 19 (by decide +kernel) (by decide +kernel)
theorem ml_X5_103 : Cond.methodLink RX5 103 yX5_readBlock ∈ tb := tb_of 982 (by decide +kernel) (by decide +kernel)
theorem fl_X5_174 : Cond.fieldLink RX5 174 RX7 (TX7 6).2.1 (TX7 6).2.2.1 ∈ tb := tb_of 1043 (by decide +kernel) (by decide +kernel)
theorem pf_X7_6 : PI 7 RX7 TX7 10 tyX7 6 2 (.object "FlowChain$Statement") := ⟨gf_X7_6, rfl, rfl⟩
theorem fl_X5_179 : Cond.fieldLink RX5 179 RX7 (TX7 8).2.1 (TX7 8).2.2.1 ∈ tb := tb_of 1049 (by decide +kernel) (by decide +kernel)
theorem pf_X7_8 : PI 7 RX7 TX7 10 tyX7 8 0 .boolean := ⟨gf_X7_8, rfl, rfl⟩
theorem fl_X5_183 : Cond.fieldLink RX5 183 RX7 (TX7 7).2.1 (TX7 7).2.2.1 ∈ tb := tb_of 1047 (by decide +kernel) (by decide +kernel)
theorem pf_X7_7 : PI 7 RX7 TX7 10 tyX7 7 2 (.object "FlowChain$Statement") := ⟨gf_X7_7, rfl, rfl⟩
theorem bp_17 : (Int8.ofInt (17)).toInt32 = (17 : Int32) := by decide
theorem cw_X5_readSetting : Cond.code yX5_readSetting cX5_readSetting 2 (some (.object "FlowChain$Statement")) ∈ tb := tb_of 1135 (by decide +kernel) (by decide +kernel)
theorem mw_X5_readSetting : MW yX5_readSetting cX5_readSetting 2 (some (.object "FlowChain$Statement")) 0 := ⟨cw_X5_readSetting, ini_X5, by decide +kernel⟩
theorem im_X5_readSetting : Cond.instanceMethod yX5_readSetting ∈ tb := tb_of 1134 (by decide +kernel) (by decide +kernel)
theorem se_X5_readSetting : Cond.selects (yX5_readSetting).cls yX5_readSetting yX5_readSetting ∈ tb := tb_of 37 (by decide +kernel) (by decide +kernel)
theorem ml_X5_162 : Cond.methodLink RX5 162 yX5_readSetting ∈ tb := tb_of 1132 (by decide +kernel) (by decide +kernel)
theorem cw_X5_readRowSetting : Cond.code yX5_readRowSetting cX5_readRowSetting 2 (some (.object "FlowChain$Statement")) ∈ tb := tb_of 1131 (by decide +kernel) (by decide +kernel)
theorem mw_X5_readRowSetting : MW yX5_readRowSetting cX5_readRowSetting 2 (some (.object "FlowChain$Statement")) 0 := ⟨cw_X5_readRowSetting, ini_X5, by decide +kernel⟩
theorem im_X5_readRowSetting : Cond.instanceMethod yX5_readRowSetting ∈ tb := tb_of 1130 (by decide +kernel) (by decide +kernel)
theorem se_X5_readRowSetting : Cond.selects (yX5_readRowSetting).cls yX5_readRowSetting yX5_readRowSetting ∈ tb := tb_of 36 (by decide +kernel) (by decide +kernel)
theorem ml_X5_159 : Cond.methodLink RX5 159 yX5_readRowSetting ∈ tb := tb_of 1128 (by decide +kernel) (by decide +kernel)
theorem cw_X5_readDo : Cond.code yX5_readDo cX5_readDo 2 (some (.object "FlowChain$Statement")) ∈ tb := tb_of 1127 (by decide +kernel) (by decide +kernel)
theorem mw_X5_readDo : MW yX5_readDo cX5_readDo 2 (some (.object "FlowChain$Statement")) 0 := ⟨cw_X5_readDo, ini_X5, by decide +kernel⟩
theorem im_X5_readDo : Cond.instanceMethod yX5_readDo ∈ tb := tb_of 1126 (by decide +kernel) (by decide +kernel)
theorem se_X5_readDo : Cond.selects (yX5_readDo).cls yX5_readDo yX5_readDo ∈ tb := tb_of 35 (by decide +kernel) (by decide +kernel)
theorem ml_X5_153 : Cond.methodLink RX5 153 yX5_readDo ∈ tb := tb_of 1124 (by decide +kernel) (by decide +kernel)
theorem cw_X5_readOut : Cond.code yX5_readOut cX5_readOut 2 (some (.object "FlowChain$Statement")) ∈ tb := tb_of 1122 (by decide +kernel) (by decide +kernel)
theorem mw_X5_readOut : MW yX5_readOut cX5_readOut 2 (some (.object "FlowChain$Statement")) 0 := ⟨cw_X5_readOut, ini_X5, by decide +kernel⟩
theorem im_X5_readOut : Cond.instanceMethod yX5_readOut ∈ tb := tb_of 1121 (by decide +kernel) (by decide +kernel)
theorem se_X5_readOut : Cond.selects (yX5_readOut).cls yX5_readOut yX5_readOut ∈ tb := tb_of 34 (by decide +kernel) (by decide +kernel)
theorem ml_X5_148 : Cond.methodLink RX5 148 yX5_readOut ∈ tb := tb_of 1119 (by decide +kernel) (by decide +kernel)
theorem cw_X5_readIn : Cond.code yX5_readIn cX5_readIn 2 (some (.object "FlowChain$Statement")) ∈ tb := tb_of 1117 (by decide +kernel) (by decide +kernel)
theorem mw_X5_readIn : MW yX5_readIn cX5_readIn 2 (some (.object "FlowChain$Statement")) 0 := ⟨cw_X5_readIn, ini_X5, by decide +kernel⟩
theorem im_X5_readIn : Cond.instanceMethod yX5_readIn ∈ tb := tb_of 1116 (by decide +kernel) (by decide +kernel)
theorem se_X5_readIn : Cond.selects (yX5_readIn).cls yX5_readIn yX5_readIn ∈ tb := tb_of 33 (by decide +kernel) (by decide +kernel)
theorem ml_X5_143 : Cond.methodLink RX5 143 yX5_readIn ∈ tb := tb_of 1114 (by decide +kernel) (by decide +kernel)
theorem cw_X5_readWhile : Cond.code yX5_readWhile cX5_readWhile 2 (some (.object "FlowChain$Statement")) ∈ tb := tb_of 1112 (by decide +kernel) (by decide +kernel)
theorem mw_X5_readWhile : MW yX5_readWhile cX5_readWhile 2 (some (.object "FlowChain$Statement")) 0 := ⟨cw_X5_readWhile, ini_X5, by decide +kernel⟩
theorem im_X5_readWhile : Cond.instanceMethod yX5_readWhile ∈ tb := tb_of 1111 (by decide +kernel) (by decide +kernel)
theorem se_X5_readWhile : Cond.selects (yX5_readWhile).cls yX5_readWhile yX5_readWhile ∈ tb := tb_of 32 (by decide +kernel) (by decide +kernel)
theorem ml_X5_138 : Cond.methodLink RX5 138 yX5_readWhile ∈ tb := tb_of 1109 (by decide +kernel) (by decide +kernel)
theorem cw_X5_readIf : Cond.code yX5_readIf cX5_readIf 2 (some (.object "FlowChain$Statement")) ∈ tb := tb_of 1002 (by decide +kernel) (by decide +kernel)
theorem mw_X5_readIf : MW yX5_readIf cX5_readIf 2 (some (.object "FlowChain$Statement")) 0 := ⟨cw_X5_readIf, ini_X5, by decide +kernel⟩
theorem im_X5_readIf : Cond.instanceMethod yX5_readIf ∈ tb := tb_of 1001 (by decide +kernel) (by decide +kernel)
theorem se_X5_readIf : Cond.selects (yX5_readIf).cls yX5_readIf yX5_readIf ∈ tb := tb_of 23 (by decide +kernel) (by decide +kernel)
theorem ml_X5_133 : Cond.methodLink RX5 133 yX5_readIf ∈ tb := tb_of 999 (by decide +kernel) (by decide +kernel)
theorem cw_X5_readStatement : Cond.code yX5_readStatement cX5_readStatement 1 (some (.object "FlowChain$Statement")) ∈ tb := tb_of 997 (by decide +kernel) (by decide +kernel)
theorem mw_X5_readStatement : MW yX5_readStatement cX5_readStatement 1 (some (.object "FlowChain$Statement")) 0 := ⟨cw_X5_readStatement, ini_X5, by decide +kernel⟩
theorem im_X5_readStatement : Cond.instanceMethod yX5_readStatement ∈ tb := tb_of 996 (by decide +kernel) (by decide +kernel)
theorem se_X5_readStatement : Cond.selects (yX5_readStatement).cls yX5_readStatement yX5_readStatement ∈ tb := tb_of 22 (by decide +kernel) (by decide +kernel)
theorem ml_X5_123 : Cond.methodLink RX5 123 yX5_readStatement ∈ tb := tb_of 994 (by decide +kernel) (by decide +kernel)
theorem fl_X5_126 : Cond.fieldLink RX5 126 RX7 (TX7 9).2.1 (TX7 9).2.2.1 ∈ tb := tb_of 1053 (by decide +kernel) (by decide +kernel)
theorem pf_X7_9 : PI 7 RX7 TX7 10 tyX7 9 2 (.object "FlowChain$Statement") := ⟨gf_X7_9, rfl, rfl⟩
theorem cw_X4_setProc : Cond.code yX4_setProc cX4_setProc 3 none ∈ tb := tb_of 1139 (by decide +kernel) (by decide +kernel)
theorem mw_X4_setProc : MW yX4_setProc cX4_setProc 3 none 2 := ⟨cw_X4_setProc, ini_X4, by decide +kernel⟩
theorem im_X4_setProc : Cond.instanceMethod yX4_setProc ∈ tb := tb_of 1137 (by decide +kernel) (by decide +kernel)
theorem se_X4_setProc : Cond.selects (yX4_setProc).cls yX4_setProc yX4_setProc ∈ tb := tb_of 1138 (by decide +kernel) (by decide +kernel)
theorem ml_X5_107 : Cond.methodLink RX5 107 yX4_setProc ∈ tb := tb_of 1136 (by decide +kernel) (by decide +kernel)
theorem cw_X5_readProc : Cond.code yX5_readProc cX5_readProc 2 none ∈ tb := tb_of 981 (by decide +kernel) (by decide +kernel)
theorem mw_X5_readProc : MW yX5_readProc cX5_readProc 2 none 0 := ⟨cw_X5_readProc, ini_X5, by decide +kernel⟩
theorem im_X5_readProc : Cond.instanceMethod yX5_readProc ∈ tb := tb_of 980 (by decide +kernel) (by decide +kernel)
theorem se_X5_readProc : Cond.selects (yX5_readProc).cls yX5_readProc yX5_readProc ∈ tb := tb_of 18 (by decide +kernel) (by decide +kernel)
theorem ml_X5_85 : Cond.methodLink RX5 85 yX5_readProc ∈ tb := tb_of 978 (by decide +kernel) (by decide +kernel)
theorem cw_X5_readMark : Cond.code yX5_readMark cX5_readMark 4 none ∈ tb := tb_of 934 (by decide +kernel) (by decide +kernel)
theorem mw_X5_readMark : MW yX5_readMark cX5_readMark 4 none 2 := ⟨cw_X5_readMark, ini_X5, by decide +kernel⟩
theorem im_X5_readMark : Cond.instanceMethod yX5_readMark ∈ tb := tb_of 933 (by decide +kernel) (by decide +kernel)
theorem se_X5_readMark : Cond.selects (yX5_readMark).cls yX5_readMark yX5_readMark ∈ tb := tb_of 12 (by decide +kernel) (by decide +kernel)
theorem ml_X5_77 : Cond.methodLink RX5 77 yX5_readMark ∈ tb := tb_of 931 (by decide +kernel) (by decide +kernel)
def f_X5_readBlock (rec : Int32 → Sr → Dat → Option (Sum Nat (Option Nat) × Sr × Dat)) (N : Nat) (nu : Nat) (S : Sr) (D : Dat) : Option (Sum Nat (Option Nat) × Sr × Dat) :=
  sb2 (f_X5_openWith N nu 123 S D) (fun p1 S3 D3 => sb2 (rec 125 S3 D3) (fun p4 S6 D6 => sb2 (f_X5_closeWith N nu 125 S6 D6) (fun p7 S9 D9 => some (.inr p4, S9, D9))))
set_option maxHeartbeats 4000000 in
theorem w_X5_readBlock {X : Cx} {nu : Nat} {rec : Int32 → Sr → Dat → Option (Sum Nat (Option Nat) × Sr × Dat)} {N : Nat} {fr lc : Nat} {z : Sum Nat (Option Nat) × Sr × Dat} (O : Ok X cX5_readBlock RX5 (some (.object "FlowChain$Statement")) (fr + 7) (lc + 160)) (hm : wlm (xw X) = true) (hn : xn X = 2) (hT : T2 X) (hR : ∀ {x1 : Int32} {S : Sr} {D : Dat} {z : Sum Nat (Option Nat) × Sr × Dat}, rec x1 S D = some z → C2 (xl X) (xw X) yX5_readStatements cX5_readStatements 6 (some (.object "FlowChain$Statement")) fr lc [.ref (wb (xw X) + 3), .int x1] nu S D (ro (wb (xw X)) z)) (S : Sr) (D : Dat) (h : f_X5_readBlock rec N nu S D = some z) : V X (Q2 X nu (ro (bo X) z)) S.1 (Az nu S) D 0 [(0, .ref (bo X + 3))] [] := by
  unfold f_X5_readBlock at h
  refine v_aload_n (pc := 0) O dX5_readBlock_0 0 rfl ?_
  refine v_bipush (pc := 1) O dX5_readBlock_1 bp_123 ?_
  rcases sb2_some h with ⟨p1, S3, D3, e2, rfl⟩ | ⟨p1, S3, D3, e2, h⟩
  · exact v_call2X (pc := 3) (a := 3) (As := [.int 123]) (rest := []) (e := p1) (S' := S3) (D' := D3) O hT (c_X5_openWith (nu := nu) hT.2.1 hm e2 :) mw_X5_openWith im_X5_openWith se_X5_openWith ml_X5_114 kq_3 (by decide) rfl rfl rfl (by omega) (by omega) (Nat.le_of_ble_eq_true rfl) dX5_readBlock_3 rfl
  · refine v_call2 (pc := 3) (a := 3) (As := [.int 123]) (rest := []) (r := none) (S' := S3) (D' := D3) O hT (c_X5_openWith (nu := nu) hT.2.1 hm e2 :) mw_X5_openWith im_X5_openWith se_X5_openWith ml_X5_114 kq_3 (by decide) rfl rfl rfl (by omega) (by omega) (Nat.le_of_ble_eq_true rfl) dX5_readBlock_3 rfl rfl ?_
    refine v_aload_n (pc := 6) O dX5_readBlock_6 0 rfl ?_
    refine v_bipush (pc := 7) O dX5_readBlock_7 bp_125 ?_
    rcases sb2_some h with ⟨p4, S6, D6, e5, rfl⟩ | ⟨p4, S6, D6, e5, h⟩
    · exact v_call2X (pc := 9) (a := 3) (As := [.int 125]) (rest := []) (e := p4) (S' := S6) (D' := D6) O hT (hR e5 :) mw_X5_readStatements im_X5_readStatements se_X5_readStatements ml_X5_63 kq_3 (by decide) rfl rfl rfl (by omega) (by omega) (Nat.le_of_ble_eq_true rfl) dX5_readBlock_9 rfl
    · refine v_call2 (pc := 9) (a := 3) (As := [.int 125]) (rest := []) (r := (some (rv (bo X) p4))) (S' := S6) (D' := D6) O hT (hR e5 :) mw_X5_readStatements im_X5_readStatements se_X5_readStatements ml_X5_63 kq_3 (by decide) rfl rfl rfl (by omega) (by omega) (Nat.le_of_ble_eq_true rfl) dX5_readBlock_9 rfl rfl ?_
      refine v_astore_nr (pc := 12) (lv' := [(1, rv (bo X) p4), (0, .ref (bo X + 3))]) O dX5_readBlock_12 rfl (by rw [hn]; decide) rfl ?_
      refine v_aload_n (pc := 13) O dX5_readBlock_13 1 rfl ?_
      refine v_bipush (pc := 14) O dX5_readBlock_14 bp_125 ?_
      rcases sb2_some h with ⟨p7, S9, D9, e8, rfl⟩ | ⟨p7, S9, D9, e8, h⟩
      · exact v_call2X (pc := 16) (a := 3) (As := [.int 125]) (rest := []) (e := p7) (S' := S9) (D' := D9) O hT (c_X5_closeWith (nu := nu) hT.2.1 hm e8 :) mw_X5_closeWith im_X5_closeWith se_X5_closeWith ml_X5_117 kq_3 (by decide) rfl rfl rfl (by omega) (by omega) (Nat.le_of_ble_eq_true rfl) dX5_readBlock_16 rfl
      · refine v_call2 (pc := 16) (a := 3) (As := [.int 125]) (rest := []) (r := none) (S' := S9) (D' := D9) O hT (c_X5_closeWith (nu := nu) hT.2.1 hm e8 :) mw_X5_closeWith im_X5_closeWith se_X5_closeWith ml_X5_117 kq_3 (by decide) rfl rfl rfl (by omega) (by omega) (Nat.le_of_ble_eq_true rfl) dX5_readBlock_16 rfl rfl ?_
        refine v_aload_nr (pc := 19) O dX5_readBlock_19 0 rfl ?_
        obtain rfl := Option.some.inj h
        exact v_aret2 (pc := 20) (r := p4) O dX5_readBlock_20
theorem c_X5_readBlock {l : Launch} {w : Wx} {nu : Nat} {rec : Int32 → Sr → Dat → Option (Sum Nat (Option Nat) × Sr × Dat)} {N : Nat} {fr lc : Nat} (hl : l.stackTraces = false) (hm : wlm w = true) (hR : ∀ {x1 : Int32} {S : Sr} {D : Dat} {z : Sum Nat (Option Nat) × Sr × Dat}, rec x1 S D = some z → C2 l w yX5_readStatements cX5_readStatements 6 (some (.object "FlowChain$Statement")) fr lc [.ref (wb w + 3), .int x1] nu S D (ro (wb w) z)) {S : Sr} {D : Dat} {z : Sum Nat (Option Nat) × Sr × Dat} (h : f_X5_readBlock rec N nu S D = some z) : C2 l w yX5_readBlock cX5_readBlock 2 (some (.object "FlowChain$Statement")) (fr + 7) (lc + 160) [.ref (wb w + 3)] nu S D (ro (wb w) z) :=
  C2.of hl (by decide) (Nat.le_of_ble_eq_true rfl) (fun X e1 e2 e3 hT O _ _ => by
  subst e1
  subst e2
  exact w_X5_readBlock O hm e3 hT hR  S D h)
def f_X5_readIf_b53 (rec : Int32 → Sr → Dat → Option (Sum Nat (Option Nat) × Sr × Dat)) (N : Nat) (nu : Nat) (x1 : Option Nat) (S : Sr) (D : Dat) : Option (Sum Nat (Option Nat) × Sr × Dat) :=
  some (.inr x1, S, D)
set_option maxHeartbeats 4000000 in
theorem w_X5_readIf_b53 {X : Cx} {nu : Nat} {rec : Int32 → Sr → Dat → Option (Sum Nat (Option Nat) × Sr × Dat)} {N : Nat} {fr lc : Nat} {z : Sum Nat (Option Nat) × Sr × Dat} (O : Ok X cX5_readIf RX5 (some (.object "FlowChain$Statement")) (fr + 133) (lc + 2961)) (hm : wlm (xw X) = true) (hn : xn X = 2) (hT : T2 X) (hR : ∀ {x1 : Int32} {S : Sr} {D : Dat} {z : Sum Nat (Option Nat) × Sr × Dat}, rec x1 S D = some z → C2 (xl X) (xw X) yX5_readStatements cX5_readStatements 6 (some (.object "FlowChain$Statement")) fr lc [.ref (wb (xw X) + 3), .int x1] nu S D (ro (wb (xw X)) z)) (x1 : Option Nat) (S : Sr) (D : Dat) (h : f_X5_readIf_b53 rec N nu x1 S D = some z) : V X (Q2 X nu (ro (bo X) z)) S.1 (Az nu S) D 53 [(1, rv (bo X) x1)] [] := by
  unfold f_X5_readIf_b53 at h
  refine v_aload_nr (pc := 53) O dX5_readIf_53 0 rfl ?_
  obtain rfl := Option.some.inj h
  exact v_aret2 (pc := 54) (r := x1) O dX5_readIf_54
def f_X5_readIf (rec : Int32 → Sr → Dat → Option (Sum Nat (Option Nat) × Sr × Dat)) (N : Nat) (nu : Nat) (S : Sr) (D : Dat) : Option (Sum Nat (Option Nat) × Sr × Dat) :=
  sb2 (f_X5_start nu 16 S D) (fun p1 S3 D3 => (f_X5_advance N D3).bind (fun p4 => sb2 (f_X5_readExpression N nu 12 S3 p4) (fun p6 S8 D8 => (p1).bind (fun a9 => if kd S8.2.1 a9 = 7 then (sb2 (f_X5_readBlock rec N nu S8 (sI D8 a9 5 p6)) (fun p12 S14 D14 => if kd S14.2.1 a9 = 7 then ((f_X5_isWord N 8 (sR D14 a9 6 p12)).bind (fun p16 => if p16.1 = 0 then (f_X5_readIf_b53 rec N nu (some a9) S14 p16.2) else ((f_X5_advance N p16.2).bind (fun p19 => sb2 (f_X5_readBlock rec N nu S14 (sI p19 a9 8 1)) (fun p21 S23 D23 => if kd S23.2.1 a9 = 7 then (f_X5_readIf_b53 rec N nu (some a9) S23 (sR D23 a9 7 p21)) else none))))) else none)) else none))))
set_option maxHeartbeats 4000000 in
theorem w_X5_readIf {X : Cx} {nu : Nat} {rec : Int32 → Sr → Dat → Option (Sum Nat (Option Nat) × Sr × Dat)} {N : Nat} {fr lc : Nat} {z : Sum Nat (Option Nat) × Sr × Dat} (O : Ok X cX5_readIf RX5 (some (.object "FlowChain$Statement")) (fr + 133) (lc + 2961)) (hm : wlm (xw X) = true) (hn : xn X = 2) (hT : T2 X) (hR : ∀ {x1 : Int32} {S : Sr} {D : Dat} {z : Sum Nat (Option Nat) × Sr × Dat}, rec x1 S D = some z → C2 (xl X) (xw X) yX5_readStatements cX5_readStatements 6 (some (.object "FlowChain$Statement")) fr lc [.ref (wb (xw X) + 3), .int x1] nu S D (ro (wb (xw X)) z)) (S : Sr) (D : Dat) (h : f_X5_readIf rec N nu S D = some z) : V X (Q2 X nu (ro (bo X) z)) S.1 (Az nu S) D 0 [(0, .ref (bo X + 3))] [] := by
  unfold f_X5_readIf at h
  refine v_aload_n (pc := 0) O dX5_readIf_0 0 rfl ?_
  refine v_bipush (pc := 1) O dX5_readIf_1 bp_16 ?_
  rcases sb2_some h with ⟨p1, S3, D3, e2, rfl⟩ | ⟨p1, S3, D3, e2, h⟩
  · exact v_call2X (pc := 3) (a := 3) (As := [.int 16]) (rest := []) (e := p1) (S' := S3) (D' := D3) O hT (c_X5_start (nu := nu) hT.2.1 hm e2 :) mw_X5_start im_X5_start se_X5_start ml_X5_165 kq_3 (by decide) rfl rfl rfl (by omega) (by omega) (Nat.le_of_ble_eq_true rfl) dX5_readIf_3 rfl
  · refine v_call2 (pc := 3) (a := 3) (As := [.int 16]) (rest := []) (r := (some (rv (bo X) p1))) (S' := S3) (D' := D3) O hT (c_X5_start (nu := nu) hT.2.1 hm e2 :) mw_X5_start im_X5_start se_X5_start ml_X5_165 kq_3 (by decide) rfl rfl rfl (by omega) (by omega) (Nat.le_of_ble_eq_true rfl) dX5_readIf_3 rfl rfl ?_
    refine v_astore_nr (pc := 6) (lv' := [(1, rv (bo X) p1), (0, .ref (bo X + 3))]) O dX5_readIf_6 rfl (by rw [hn]; decide) rfl ?_
    refine v_aload_n (pc := 7) O dX5_readIf_7 1 rfl ?_
    obtain ⟨p4, e5, h⟩ := bind_some h
    refine v_callV (pc := 8) (a := 3) (As := []) (rest := []) (r := none) (D' := p4) O (bb2 hT) (c_X5_advance hm e5) mw_X5_advance im_X5_advance se_X5_advance ml_X5_57 kq_3 (by decide) rfl rfl rfl (by omega) (by omega) (Nat.le_of_ble_eq_true rfl) dX5_readIf_8 rfl rfl ?_
    refine v_aload_nr (pc := 11) O dX5_readIf_11 0 rfl ?_
    refine v_aload_n (pc := 12) O dX5_readIf_12 1 rfl ?_
    rcases sb2_some h with ⟨p6, S8, D8, e7, rfl⟩ | ⟨p6, S8, D8, e7, h⟩
    · exact v_call2X (pc := 13) (a := 3) (As := []) (rest := [rv (bo X) p1]) (e := p6) (S' := S8) (D' := D8) O hT (c_X5_readExpression (nu := nu) hT.2.1 hm 12 e7 :) mw_X5_readExpression im_X5_readExpression se_X5_readExpression ml_X5_168 kq_3 (by decide) rfl rfl rfl (by omega) (by omega) (by simp [rv_cat, cat_i, cat_l, cat_r, cat_n, fmt_cat]) dX5_readIf_13 rfl
    · refine v_call2 (pc := 13) (a := 3) (As := []) (rest := [rv (bo X) p1]) (r := (some (.int p6))) (S' := S8) (D' := D8) O hT (c_X5_readExpression (nu := nu) hT.2.1 hm 12 e7 :) mw_X5_readExpression im_X5_readExpression se_X5_readExpression ml_X5_168 kq_3 (by decide) rfl rfl rfl (by omega) (by omega) (by simp [rv_cat, cat_i, cat_l, cat_r, cat_n, fmt_cat]) dX5_readIf_13 rfl rfl ?_
      obtain ⟨a9, e10, h⟩ := bind_some h
      subst e10
      obtain ⟨c11, h⟩ := if_none h
      refine v_putI (pc := 16) (a := a9) O pf_X7_5 fl_X5_171 c11 dX5_readIf_16 ?_
      refine v_aload_n (pc := 19) O dX5_readIf_19 0 rfl ?_
      refine v_aload_n (pc := 20) O dX5_readIf_20 1 rfl ?_
      rcases sb2_some h with ⟨p12, S14, D14, e13, rfl⟩ | ⟨p12, S14, D14, e13, h⟩
      · exact v_call2X (pc := 21) (a := 3) (As := []) (rest := [.ref (bo X + a9)]) (e := p12) (S' := S14) (D' := D14) O hT (c_X5_readBlock (nu := nu) hT.2.1 hm hR e13 :) mw_X5_readBlock im_X5_readBlock se_X5_readBlock ml_X5_103 kq_3 (by decide) rfl rfl rfl (by omega) (by omega) (Nat.le_of_ble_eq_true rfl) dX5_readIf_21 rfl
      · refine v_call2 (pc := 21) (a := 3) (As := []) (rest := [.ref (bo X + a9)]) (r := (some (rv (bo X) p12))) (S' := S14) (D' := D14) O hT (c_X5_readBlock (nu := nu) hT.2.1 hm hR e13 :) mw_X5_readBlock im_X5_readBlock se_X5_readBlock ml_X5_103 kq_3 (by decide) rfl rfl rfl (by omega) (by omega) (Nat.le_of_ble_eq_true rfl) dX5_readIf_21 rfl rfl ?_
        obtain ⟨c15, h⟩ := if_none h
        refine v_putR (pc := 24) (a := a9) (r := p12) O pf_X7_6 rfl fl_X5_174 c15 dX5_readIf_24 ?_
        refine v_aload_n (pc := 27) O dX5_readIf_27 1 rfl ?_
        refine v_ldcS (pc := 28) O 8 (by decide) rfl dX5_readIf_28 ?_
        obtain ⟨p16, e17, h⟩ := bind_some h
        refine v_callV (pc := 30) (a := 3) (As := [.ref (woK (xw X) 8)]) (rest := []) (r := (some (.int p16.1))) (D' := p16.2) O (bb2 hT) (c_X5_isWord hm e17) mw_X5_isWord im_X5_isWord se_X5_isWord ml_X5_73 kq_3 (by decide) rfl rfl rfl (by omega) (by omega) (Nat.le_of_ble_eq_true rfl) dX5_readIf_30 rfl rfl ?_
        refine v_ifeq (pc := 33) 53 O dX5_readIf_33 (by decide) (fun c18 => ?_) (fun c18 => ?_)
        · have h := (if_pos c18).symm.trans h
          refine v_sub [0] rfl ?_
          exact w_X5_readIf_b53 O hm hn hT hR (some a9) S14 p16.2 h
        · have h := (if_neg c18).symm.trans h
          refine v_aload_n (pc := 36) O dX5_readIf_36 1 rfl ?_
          obtain ⟨p19, e20, h⟩ := bind_some h
          refine v_callV (pc := 37) (a := 3) (As := []) (rest := []) (r := none) (D' := p19) O (bb2 hT) (c_X5_advance hm e20) mw_X5_advance im_X5_advance se_X5_advance ml_X5_57 kq_3 (by decide) rfl rfl rfl (by omega) (by omega) (Nat.le_of_ble_eq_true rfl) dX5_readIf_37 rfl rfl ?_
          refine v_aload_n (pc := 40) O dX5_readIf_40 0 rfl ?_
          refine v_iconst (pc := 41) O dX5_readIf_41 ic_1 ?_
          refine v_putZ (pc := 42) (a := a9) O pf_X7_8 fl_X5_179 c15 narrow_b1 dX5_readIf_42 ?_
          refine v_aload_n (pc := 45) O dX5_readIf_45 0 rfl ?_
          refine v_aload_n (pc := 46) O dX5_readIf_46 1 rfl ?_
          rcases sb2_some h with ⟨p21, S23, D23, e22, rfl⟩ | ⟨p21, S23, D23, e22, h⟩
          · exact v_call2X (pc := 47) (a := 3) (As := []) (rest := [.ref (bo X + a9)]) (e := p21) (S' := S23) (D' := D23) O hT (c_X5_readBlock (nu := nu) hT.2.1 hm hR e22 :) mw_X5_readBlock im_X5_readBlock se_X5_readBlock ml_X5_103 kq_3 (by decide) rfl rfl rfl (by omega) (by omega) (Nat.le_of_ble_eq_true rfl) dX5_readIf_47 rfl
          · refine v_call2 (pc := 47) (a := 3) (As := []) (rest := [.ref (bo X + a9)]) (r := (some (rv (bo X) p21))) (S' := S23) (D' := D23) O hT (c_X5_readBlock (nu := nu) hT.2.1 hm hR e22 :) mw_X5_readBlock im_X5_readBlock se_X5_readBlock ml_X5_103 kq_3 (by decide) rfl rfl rfl (by omega) (by omega) (Nat.le_of_ble_eq_true rfl) dX5_readIf_47 rfl rfl ?_
            obtain ⟨c24, h⟩ := if_none h
            refine v_putR (pc := 50) (a := a9) (r := p21) O pf_X7_7 rfl fl_X5_183 c24 dX5_readIf_50 ?_
            refine v_sub [0] rfl ?_
            exact w_X5_readIf_b53 O hm hn hT hR (some a9) S23 (sR D23 a9 7 p21) h
theorem c_X5_readIf {l : Launch} {w : Wx} {nu : Nat} {rec : Int32 → Sr → Dat → Option (Sum Nat (Option Nat) × Sr × Dat)} {N : Nat} {fr lc : Nat} (hl : l.stackTraces = false) (hm : wlm w = true) (hR : ∀ {x1 : Int32} {S : Sr} {D : Dat} {z : Sum Nat (Option Nat) × Sr × Dat}, rec x1 S D = some z → C2 l w yX5_readStatements cX5_readStatements 6 (some (.object "FlowChain$Statement")) fr lc [.ref (wb w + 3), .int x1] nu S D (ro (wb w) z)) {S : Sr} {D : Dat} {z : Sum Nat (Option Nat) × Sr × Dat} (h : f_X5_readIf rec N nu S D = some z) : C2 l w yX5_readIf cX5_readIf 2 (some (.object "FlowChain$Statement")) (fr + 133) (lc + 2961) [.ref (wb w + 3)] nu S D (ro (wb w) z) :=
  C2.of hl (by decide) (Nat.le_of_ble_eq_true rfl) (fun X e1 e2 e3 hT O _ _ => by
  subst e1
  subst e2
  exact w_X5_readIf O hm e3 hT hR  S D h)
def f_X5_readWhile (rec : Int32 → Sr → Dat → Option (Sum Nat (Option Nat) × Sr × Dat)) (N : Nat) (nu : Nat) (S : Sr) (D : Dat) : Option (Sum Nat (Option Nat) × Sr × Dat) :=
  sb2 (f_X5_start nu 17 S D) (fun p1 S3 D3 => (f_X5_advance N D3).bind (fun p4 => sb2 (f_X5_readExpression N nu 12 S3 p4) (fun p6 S8 D8 => (p1).bind (fun a9 => if kd S8.2.1 a9 = 7 then (sb2 (f_X5_readBlock rec N nu S8 (sI D8 a9 5 p6)) (fun p12 S14 D14 => if kd S14.2.1 a9 = 7 then (some (.inr (some a9), S14, (sR D14 a9 6 p12))) else none)) else none))))
set_option maxHeartbeats 4000000 in
theorem w_X5_readWhile {X : Cx} {nu : Nat} {rec : Int32 → Sr → Dat → Option (Sum Nat (Option Nat) × Sr × Dat)} {N : Nat} {fr lc : Nat} {z : Sum Nat (Option Nat) × Sr × Dat} (O : Ok X cX5_readWhile RX5 (some (.object "FlowChain$Statement")) (fr + 133) (lc + 2961)) (hm : wlm (xw X) = true) (hn : xn X = 2) (hT : T2 X) (hR : ∀ {x1 : Int32} {S : Sr} {D : Dat} {z : Sum Nat (Option Nat) × Sr × Dat}, rec x1 S D = some z → C2 (xl X) (xw X) yX5_readStatements cX5_readStatements 6 (some (.object "FlowChain$Statement")) fr lc [.ref (wb (xw X) + 3), .int x1] nu S D (ro (wb (xw X)) z)) (S : Sr) (D : Dat) (h : f_X5_readWhile rec N nu S D = some z) : V X (Q2 X nu (ro (bo X) z)) S.1 (Az nu S) D 0 [(0, .ref (bo X + 3))] [] := by
  unfold f_X5_readWhile at h
  refine v_aload_n (pc := 0) O dX5_readWhile_0 0 rfl ?_
  refine v_bipush (pc := 1) O dX5_readWhile_1 bp_17 ?_
  rcases sb2_some h with ⟨p1, S3, D3, e2, rfl⟩ | ⟨p1, S3, D3, e2, h⟩
  · exact v_call2X (pc := 3) (a := 3) (As := [.int 17]) (rest := []) (e := p1) (S' := S3) (D' := D3) O hT (c_X5_start (nu := nu) hT.2.1 hm e2 :) mw_X5_start im_X5_start se_X5_start ml_X5_165 kq_3 (by decide) rfl rfl rfl (by omega) (by omega) (Nat.le_of_ble_eq_true rfl) dX5_readWhile_3 rfl
  · refine v_call2 (pc := 3) (a := 3) (As := [.int 17]) (rest := []) (r := (some (rv (bo X) p1))) (S' := S3) (D' := D3) O hT (c_X5_start (nu := nu) hT.2.1 hm e2 :) mw_X5_start im_X5_start se_X5_start ml_X5_165 kq_3 (by decide) rfl rfl rfl (by omega) (by omega) (Nat.le_of_ble_eq_true rfl) dX5_readWhile_3 rfl rfl ?_
    refine v_astore_nr (pc := 6) (lv' := [(1, rv (bo X) p1), (0, .ref (bo X + 3))]) O dX5_readWhile_6 rfl (by rw [hn]; decide) rfl ?_
    refine v_aload_n (pc := 7) O dX5_readWhile_7 1 rfl ?_
    obtain ⟨p4, e5, h⟩ := bind_some h
    refine v_callV (pc := 8) (a := 3) (As := []) (rest := []) (r := none) (D' := p4) O (bb2 hT) (c_X5_advance hm e5) mw_X5_advance im_X5_advance se_X5_advance ml_X5_57 kq_3 (by decide) rfl rfl rfl (by omega) (by omega) (Nat.le_of_ble_eq_true rfl) dX5_readWhile_8 rfl rfl ?_
    refine v_aload_nr (pc := 11) O dX5_readWhile_11 0 rfl ?_
    refine v_aload_n (pc := 12) O dX5_readWhile_12 1 rfl ?_
    rcases sb2_some h with ⟨p6, S8, D8, e7, rfl⟩ | ⟨p6, S8, D8, e7, h⟩
    · exact v_call2X (pc := 13) (a := 3) (As := []) (rest := [rv (bo X) p1]) (e := p6) (S' := S8) (D' := D8) O hT (c_X5_readExpression (nu := nu) hT.2.1 hm 12 e7 :) mw_X5_readExpression im_X5_readExpression se_X5_readExpression ml_X5_168 kq_3 (by decide) rfl rfl rfl (by omega) (by omega) (by simp [rv_cat, cat_i, cat_l, cat_r, cat_n, fmt_cat]) dX5_readWhile_13 rfl
    · refine v_call2 (pc := 13) (a := 3) (As := []) (rest := [rv (bo X) p1]) (r := (some (.int p6))) (S' := S8) (D' := D8) O hT (c_X5_readExpression (nu := nu) hT.2.1 hm 12 e7 :) mw_X5_readExpression im_X5_readExpression se_X5_readExpression ml_X5_168 kq_3 (by decide) rfl rfl rfl (by omega) (by omega) (by simp [rv_cat, cat_i, cat_l, cat_r, cat_n, fmt_cat]) dX5_readWhile_13 rfl rfl ?_
      obtain ⟨a9, e10, h⟩ := bind_some h
      subst e10
      obtain ⟨c11, h⟩ := if_none h
      refine v_putI (pc := 16) (a := a9) O pf_X7_5 fl_X5_171 c11 dX5_readWhile_16 ?_
      refine v_aload_n (pc := 19) O dX5_readWhile_19 0 rfl ?_
      refine v_aload_n (pc := 20) O dX5_readWhile_20 1 rfl ?_
      rcases sb2_some h with ⟨p12, S14, D14, e13, rfl⟩ | ⟨p12, S14, D14, e13, h⟩
      · exact v_call2X (pc := 21) (a := 3) (As := []) (rest := [.ref (bo X + a9)]) (e := p12) (S' := S14) (D' := D14) O hT (c_X5_readBlock (nu := nu) hT.2.1 hm hR e13 :) mw_X5_readBlock im_X5_readBlock se_X5_readBlock ml_X5_103 kq_3 (by decide) rfl rfl rfl (by omega) (by omega) (Nat.le_of_ble_eq_true rfl) dX5_readWhile_21 rfl
      · refine v_call2 (pc := 21) (a := 3) (As := []) (rest := [.ref (bo X + a9)]) (r := (some (rv (bo X) p12))) (S' := S14) (D' := D14) O hT (c_X5_readBlock (nu := nu) hT.2.1 hm hR e13 :) mw_X5_readBlock im_X5_readBlock se_X5_readBlock ml_X5_103 kq_3 (by decide) rfl rfl rfl (by omega) (by omega) (Nat.le_of_ble_eq_true rfl) dX5_readWhile_21 rfl rfl ?_
        obtain ⟨c15, h⟩ := if_none h
        refine v_putR (pc := 24) (a := a9) (r := p12) O pf_X7_6 rfl fl_X5_174 c15 dX5_readWhile_24 ?_
        refine v_aload_n (pc := 27) O dX5_readWhile_27 0 rfl ?_
        obtain rfl := Option.some.inj h
        exact v_aret2 (pc := 28) (r := (some a9)) O dX5_readWhile_28
theorem c_X5_readWhile {l : Launch} {w : Wx} {nu : Nat} {rec : Int32 → Sr → Dat → Option (Sum Nat (Option Nat) × Sr × Dat)} {N : Nat} {fr lc : Nat} (hl : l.stackTraces = false) (hm : wlm w = true) (hR : ∀ {x1 : Int32} {S : Sr} {D : Dat} {z : Sum Nat (Option Nat) × Sr × Dat}, rec x1 S D = some z → C2 l w yX5_readStatements cX5_readStatements 6 (some (.object "FlowChain$Statement")) fr lc [.ref (wb w + 3), .int x1] nu S D (ro (wb w) z)) {S : Sr} {D : Dat} {z : Sum Nat (Option Nat) × Sr × Dat} (h : f_X5_readWhile rec N nu S D = some z) : C2 l w yX5_readWhile cX5_readWhile 2 (some (.object "FlowChain$Statement")) (fr + 133) (lc + 2961) [.ref (wb w + 3)] nu S D (ro (wb w) z) :=
  C2.of hl (by decide) (Nat.le_of_ble_eq_true rfl) (fun X e1 e2 e3 hT O _ _ => by
  subst e1
  subst e2
  exact w_X5_readWhile O hm e3 hT hR  S D h)
def f_X5_readStatement_b89 (rec : Int32 → Sr → Dat → Option (Sum Nat (Option Nat) × Sr × Dat)) (N : Nat) (nu : Nat) (s0 : Option Nat) (S : Sr) (D : Dat) : Option (Sum Nat (Option Nat) × Sr × Dat) :=
  some (.inr s0, S, D)
set_option maxHeartbeats 4000000 in
theorem w_X5_readStatement_b89 {X : Cx} {nu : Nat} {rec : Int32 → Sr → Dat → Option (Sum Nat (Option Nat) × Sr × Dat)} {N : Nat} {fr lc : Nat} {z : Sum Nat (Option Nat) × Sr × Dat} (O : Ok X cX5_readStatement RX5 (some (.object "FlowChain$Statement")) (fr + 141) (lc + 3141)) (hm : wlm (xw X) = true) (hn : xn X = 1) (hT : T2 X) (hR : ∀ {x1 : Int32} {S : Sr} {D : Dat} {z : Sum Nat (Option Nat) × Sr × Dat}, rec x1 S D = some z → C2 (xl X) (xw X) yX5_readStatements cX5_readStatements 6 (some (.object "FlowChain$Statement")) fr lc [.ref (wb (xw X) + 3), .int x1] nu S D (ro (wb (xw X)) z)) (s0 : Option Nat) (S : Sr) (D : Dat) (h : f_X5_readStatement_b89 rec N nu s0 S D = some z) : V X (Q2 X nu (ro (bo X) z)) S.1 (Az nu S) D 89 [] [rv (bo X) s0] := by
  unfold f_X5_readStatement_b89 at h
  obtain rfl := Option.some.inj h
  exact v_aret2 (pc := 89) (r := s0) O dX5_readStatement_89
def f_X5_readStatement (rec : Int32 → Sr → Dat → Option (Sum Nat (Option Nat) × Sr × Dat)) (N : Nat) (nu : Nat) (S : Sr) (D : Dat) : Option (Sum Nat (Option Nat) × Sr × Dat) :=
  (f_X5_isWord N 3 D).bind (fun p1 => if p1.1 = 0 then ((f_X5_isWord N 4 p1.2).bind (fun p4 => if p4.1 = 0 then ((f_X5_isWord N 5 p4.2).bind (fun p7 => if p7.1 = 0 then ((f_X5_isWord N 6 p7.2).bind (fun p10 => if p10.1 = 0 then ((f_X5_isWord N 7 p10.2).bind (fun p13 => if p13.1 = 0 then ((f_X5_roleHere p13.2).bind (fun p16 => if p16.1 = 2 then (sb2 (f_X5_readRowSetting N nu S p16.2) (fun p22 S24 D24 => f_X5_readStatement_b89 rec N nu p22 S24 D24)) else (sb2 (f_X5_readSetting N nu S p16.2) (fun p19 S21 D21 => f_X5_readStatement_b89 rec N nu p19 S21 D21)))) else (sb2 (f_X5_readDo N nu S p13.2) (fun p25 S27 D27 => some (.inr p25, S27, D27))))) else (sb2 (f_X5_readOut N nu S p10.2) (fun p28 S30 D30 => some (.inr p28, S30, D30))))) else (sb2 (f_X5_readIn N nu S p7.2) (fun p31 S33 D33 => some (.inr p31, S33, D33))))) else (sb2 (f_X5_readWhile rec N nu S p4.2) (fun p34 S36 D36 => some (.inr p34, S36, D36))))) else (sb2 (f_X5_readIf rec N nu S p1.2) (fun p37 S39 D39 => some (.inr p37, S39, D39))))
set_option maxHeartbeats 4000000 in
theorem w_X5_readStatement {X : Cx} {nu : Nat} {rec : Int32 → Sr → Dat → Option (Sum Nat (Option Nat) × Sr × Dat)} {N : Nat} {fr lc : Nat} {z : Sum Nat (Option Nat) × Sr × Dat} (O : Ok X cX5_readStatement RX5 (some (.object "FlowChain$Statement")) (fr + 141) (lc + 3141)) (hm : wlm (xw X) = true) (hn : xn X = 1) (hT : T2 X) (hR : ∀ {x1 : Int32} {S : Sr} {D : Dat} {z : Sum Nat (Option Nat) × Sr × Dat}, rec x1 S D = some z → C2 (xl X) (xw X) yX5_readStatements cX5_readStatements 6 (some (.object "FlowChain$Statement")) fr lc [.ref (wb (xw X) + 3), .int x1] nu S D (ro (wb (xw X)) z)) (S : Sr) (D : Dat) (h : f_X5_readStatement rec N nu S D = some z) : V X (Q2 X nu (ro (bo X) z)) S.1 (Az nu S) D 0 [(0, .ref (bo X + 3))] [] := by
  unfold f_X5_readStatement at h
  refine v_aload_n (pc := 0) O dX5_readStatement_0 0 rfl ?_
  refine v_ldcS (pc := 1) O 3 (by decide) rfl dX5_readStatement_1 ?_
  obtain ⟨p1, e2, h⟩ := bind_some h
  refine v_callV (pc := 3) (a := 3) (As := [.ref (woK (xw X) 3)]) (rest := []) (r := (some (.int p1.1))) (D' := p1.2) O (bb2 hT) (c_X5_isWord hm e2) mw_X5_isWord im_X5_isWord se_X5_isWord ml_X5_73 kq_3 (by decide) rfl rfl rfl (by omega) (by omega) (Nat.le_of_ble_eq_true rfl) dX5_readStatement_3 rfl rfl ?_
  refine v_ifeq (pc := 6) 14 O dX5_readStatement_6 (by decide) (fun c3 => ?_) (fun c3 => ?_)
  · have h := (if_pos c3).symm.trans h
    refine v_aload_n (pc := 14) O dX5_readStatement_14 0 rfl ?_
    refine v_ldcS (pc := 15) O 4 (by decide) rfl dX5_readStatement_15 ?_
    obtain ⟨p4, e5, h⟩ := bind_some h
    refine v_callV (pc := 17) (a := 3) (As := [.ref (woK (xw X) 4)]) (rest := []) (r := (some (.int p4.1))) (D' := p4.2) O (bb2 hT) (c_X5_isWord hm e5) mw_X5_isWord im_X5_isWord se_X5_isWord ml_X5_73 kq_3 (by decide) rfl rfl rfl (by omega) (by omega) (Nat.le_of_ble_eq_true rfl) dX5_readStatement_17 rfl rfl ?_
    refine v_ifeq (pc := 20) 28 O dX5_readStatement_20 (by decide) (fun c6 => ?_) (fun c6 => ?_)
    · have h := (if_pos c6).symm.trans h
      refine v_aload_n (pc := 28) O dX5_readStatement_28 0 rfl ?_
      refine v_ldcS (pc := 29) O 5 (by decide) rfl dX5_readStatement_29 ?_
      obtain ⟨p7, e8, h⟩ := bind_some h
      refine v_callV (pc := 31) (a := 3) (As := [.ref (woK (xw X) 5)]) (rest := []) (r := (some (.int p7.1))) (D' := p7.2) O (bb2 hT) (c_X5_isWord hm e8) mw_X5_isWord im_X5_isWord se_X5_isWord ml_X5_73 kq_3 (by decide) rfl rfl rfl (by omega) (by omega) (Nat.le_of_ble_eq_true rfl) dX5_readStatement_31 rfl rfl ?_
      refine v_ifeq (pc := 34) 42 O dX5_readStatement_34 (by decide) (fun c9 => ?_) (fun c9 => ?_)
      · have h := (if_pos c9).symm.trans h
        refine v_aload_n (pc := 42) O dX5_readStatement_42 0 rfl ?_
        refine v_ldcS (pc := 43) O 6 (by decide) rfl dX5_readStatement_43 ?_
        obtain ⟨p10, e11, h⟩ := bind_some h
        refine v_callV (pc := 45) (a := 3) (As := [.ref (woK (xw X) 6)]) (rest := []) (r := (some (.int p10.1))) (D' := p10.2) O (bb2 hT) (c_X5_isWord hm e11) mw_X5_isWord im_X5_isWord se_X5_isWord ml_X5_73 kq_3 (by decide) rfl rfl rfl (by omega) (by omega) (Nat.le_of_ble_eq_true rfl) dX5_readStatement_45 rfl rfl ?_
        refine v_ifeq (pc := 48) 56 O dX5_readStatement_48 (by decide) (fun c12 => ?_) (fun c12 => ?_)
        · have h := (if_pos c12).symm.trans h
          refine v_aload_n (pc := 56) O dX5_readStatement_56 0 rfl ?_
          refine v_ldcS (pc := 57) O 7 (by decide) rfl dX5_readStatement_57 ?_
          obtain ⟨p13, e14, h⟩ := bind_some h
          refine v_callV (pc := 59) (a := 3) (As := [.ref (woK (xw X) 7)]) (rest := []) (r := (some (.int p13.1))) (D' := p13.2) O (bb2 hT) (c_X5_isWord hm e14) mw_X5_isWord im_X5_isWord se_X5_isWord ml_X5_73 kq_3 (by decide) rfl rfl rfl (by omega) (by omega) (Nat.le_of_ble_eq_true rfl) dX5_readStatement_59 rfl rfl ?_
          refine v_ifeq (pc := 62) 70 O dX5_readStatement_62 (by decide) (fun c15 => ?_) (fun c15 => ?_)
          · have h := (if_pos c15).symm.trans h
            refine v_aload_n (pc := 70) O dX5_readStatement_70 0 rfl ?_
            obtain ⟨p16, e17, h⟩ := bind_some h
            refine v_callV (pc := 71) (a := 3) (As := []) (rest := []) (r := (some (.int p16.1))) (D' := p16.2) O (bb2 hT) (c_X5_roleHere hm e17) mw_X5_roleHere im_X5_roleHere se_X5_roleHere ml_X5_156 kq_3 (by decide) rfl rfl rfl (by omega) (by omega) (Nat.le_of_ble_eq_true rfl) dX5_readStatement_71 rfl rfl ?_
            refine v_iconst (pc := 74) O dX5_readStatement_74 ic_2 ?_
            refine v_icmpne (pc := 75) 85 O dX5_readStatement_75 (by decide) (fun c18 => ?_) (fun c18 => ?_)
            · have h := (if_neg c18).symm.trans h
              refine v_aload_n (pc := 85) O dX5_readStatement_85 0 rfl ?_
              rcases sb2_some h with ⟨p19, S21, D21, e20, rfl⟩ | ⟨p19, S21, D21, e20, h⟩
              · exact v_call2X (pc := 86) (a := 3) (As := []) (rest := []) (e := p19) (S' := S21) (D' := D21) O hT (c_X5_readSetting (nu := nu) hT.2.1 hm e20 :) mw_X5_readSetting im_X5_readSetting se_X5_readSetting ml_X5_162 kq_3 (by decide) rfl rfl rfl (by omega) (by omega) (Nat.le_of_ble_eq_true rfl) dX5_readStatement_86 rfl
              · refine v_call2 (pc := 86) (a := 3) (As := []) (rest := []) (r := (some (rv (bo X) p19))) (S' := S21) (D' := D21) O hT (c_X5_readSetting (nu := nu) hT.2.1 hm e20 :) mw_X5_readSetting im_X5_readSetting se_X5_readSetting ml_X5_162 kq_3 (by decide) rfl rfl rfl (by omega) (by omega) (Nat.le_of_ble_eq_true rfl) dX5_readStatement_86 rfl rfl ?_
                refine v_sub [] rfl ?_
                exact w_X5_readStatement_b89 O hm hn hT hR p19 S21 D21 h
            · have h := (if_pos c18).symm.trans h
              refine v_aload_n (pc := 78) O dX5_readStatement_78 0 rfl ?_
              rcases sb2_some h with ⟨p22, S24, D24, e23, rfl⟩ | ⟨p22, S24, D24, e23, h⟩
              · exact v_call2X (pc := 79) (a := 3) (As := []) (rest := []) (e := p22) (S' := S24) (D' := D24) O hT (c_X5_readRowSetting (nu := nu) hT.2.1 hm e23 :) mw_X5_readRowSetting im_X5_readRowSetting se_X5_readRowSetting ml_X5_159 kq_3 (by decide) rfl rfl rfl (by omega) (by omega) (Nat.le_of_ble_eq_true rfl) dX5_readStatement_79 rfl
              · refine v_call2 (pc := 79) (a := 3) (As := []) (rest := []) (r := (some (rv (bo X) p22))) (S' := S24) (D' := D24) O hT (c_X5_readRowSetting (nu := nu) hT.2.1 hm e23 :) mw_X5_readRowSetting im_X5_readRowSetting se_X5_readRowSetting ml_X5_159 kq_3 (by decide) rfl rfl rfl (by omega) (by omega) (Nat.le_of_ble_eq_true rfl) dX5_readStatement_79 rfl rfl ?_
                refine v_goto (pc := 82) 89 O dX5_readStatement_82 (by decide) ?_
                refine v_sub [] rfl ?_
                exact w_X5_readStatement_b89 O hm hn hT hR p22 S24 D24 h
          · have h := (if_neg c15).symm.trans h
            refine v_aload_n (pc := 65) O dX5_readStatement_65 0 rfl ?_
            rcases sb2_some h with ⟨p25, S27, D27, e26, rfl⟩ | ⟨p25, S27, D27, e26, h⟩
            · exact v_call2X (pc := 66) (a := 3) (As := []) (rest := []) (e := p25) (S' := S27) (D' := D27) O hT (c_X5_readDo (nu := nu) hT.2.1 hm e26 :) mw_X5_readDo im_X5_readDo se_X5_readDo ml_X5_153 kq_3 (by decide) rfl rfl rfl (by omega) (by omega) (Nat.le_of_ble_eq_true rfl) dX5_readStatement_66 rfl
            · refine v_call2 (pc := 66) (a := 3) (As := []) (rest := []) (r := (some (rv (bo X) p25))) (S' := S27) (D' := D27) O hT (c_X5_readDo (nu := nu) hT.2.1 hm e26 :) mw_X5_readDo im_X5_readDo se_X5_readDo ml_X5_153 kq_3 (by decide) rfl rfl rfl (by omega) (by omega) (Nat.le_of_ble_eq_true rfl) dX5_readStatement_66 rfl rfl ?_
              obtain rfl := Option.some.inj h
              exact v_aret2 (pc := 69) (r := p25) O dX5_readStatement_69
        · have h := (if_neg c12).symm.trans h
          refine v_aload_n (pc := 51) O dX5_readStatement_51 0 rfl ?_
          rcases sb2_some h with ⟨p28, S30, D30, e29, rfl⟩ | ⟨p28, S30, D30, e29, h⟩
          · exact v_call2X (pc := 52) (a := 3) (As := []) (rest := []) (e := p28) (S' := S30) (D' := D30) O hT (c_X5_readOut (nu := nu) hT.2.1 hm e29 :) mw_X5_readOut im_X5_readOut se_X5_readOut ml_X5_148 kq_3 (by decide) rfl rfl rfl (by omega) (by omega) (Nat.le_of_ble_eq_true rfl) dX5_readStatement_52 rfl
          · refine v_call2 (pc := 52) (a := 3) (As := []) (rest := []) (r := (some (rv (bo X) p28))) (S' := S30) (D' := D30) O hT (c_X5_readOut (nu := nu) hT.2.1 hm e29 :) mw_X5_readOut im_X5_readOut se_X5_readOut ml_X5_148 kq_3 (by decide) rfl rfl rfl (by omega) (by omega) (Nat.le_of_ble_eq_true rfl) dX5_readStatement_52 rfl rfl ?_
            obtain rfl := Option.some.inj h
            exact v_aret2 (pc := 55) (r := p28) O dX5_readStatement_55
      · have h := (if_neg c9).symm.trans h
        refine v_aload_n (pc := 37) O dX5_readStatement_37 0 rfl ?_
        rcases sb2_some h with ⟨p31, S33, D33, e32, rfl⟩ | ⟨p31, S33, D33, e32, h⟩
        · exact v_call2X (pc := 38) (a := 3) (As := []) (rest := []) (e := p31) (S' := S33) (D' := D33) O hT (c_X5_readIn (nu := nu) hT.2.1 hm e32 :) mw_X5_readIn im_X5_readIn se_X5_readIn ml_X5_143 kq_3 (by decide) rfl rfl rfl (by omega) (by omega) (Nat.le_of_ble_eq_true rfl) dX5_readStatement_38 rfl
        · refine v_call2 (pc := 38) (a := 3) (As := []) (rest := []) (r := (some (rv (bo X) p31))) (S' := S33) (D' := D33) O hT (c_X5_readIn (nu := nu) hT.2.1 hm e32 :) mw_X5_readIn im_X5_readIn se_X5_readIn ml_X5_143 kq_3 (by decide) rfl rfl rfl (by omega) (by omega) (Nat.le_of_ble_eq_true rfl) dX5_readStatement_38 rfl rfl ?_
          obtain rfl := Option.some.inj h
          exact v_aret2 (pc := 41) (r := p31) O dX5_readStatement_41
    · have h := (if_neg c6).symm.trans h
      refine v_aload_n (pc := 23) O dX5_readStatement_23 0 rfl ?_
      rcases sb2_some h with ⟨p34, S36, D36, e35, rfl⟩ | ⟨p34, S36, D36, e35, h⟩
      · exact v_call2X (pc := 24) (a := 3) (As := []) (rest := []) (e := p34) (S' := S36) (D' := D36) O hT (c_X5_readWhile (nu := nu) hT.2.1 hm hR e35 :) mw_X5_readWhile im_X5_readWhile se_X5_readWhile ml_X5_138 kq_3 (by decide) rfl rfl rfl (by omega) (by omega) (Nat.le_of_ble_eq_true rfl) dX5_readStatement_24 rfl
      · refine v_call2 (pc := 24) (a := 3) (As := []) (rest := []) (r := (some (rv (bo X) p34))) (S' := S36) (D' := D36) O hT (c_X5_readWhile (nu := nu) hT.2.1 hm hR e35 :) mw_X5_readWhile im_X5_readWhile se_X5_readWhile ml_X5_138 kq_3 (by decide) rfl rfl rfl (by omega) (by omega) (Nat.le_of_ble_eq_true rfl) dX5_readStatement_24 rfl rfl ?_
        obtain rfl := Option.some.inj h
        exact v_aret2 (pc := 27) (r := p34) O dX5_readStatement_27
  · have h := (if_neg c3).symm.trans h
    refine v_aload_n (pc := 9) O dX5_readStatement_9 0 rfl ?_
    rcases sb2_some h with ⟨p37, S39, D39, e38, rfl⟩ | ⟨p37, S39, D39, e38, h⟩
    · exact v_call2X (pc := 10) (a := 3) (As := []) (rest := []) (e := p37) (S' := S39) (D' := D39) O hT (c_X5_readIf (nu := nu) hT.2.1 hm hR e38 :) mw_X5_readIf im_X5_readIf se_X5_readIf ml_X5_133 kq_3 (by decide) rfl rfl rfl (by omega) (by omega) (Nat.le_of_ble_eq_true rfl) dX5_readStatement_10 rfl
    · refine v_call2 (pc := 10) (a := 3) (As := []) (rest := []) (r := (some (rv (bo X) p37))) (S' := S39) (D' := D39) O hT (c_X5_readIf (nu := nu) hT.2.1 hm hR e38 :) mw_X5_readIf im_X5_readIf se_X5_readIf ml_X5_133 kq_3 (by decide) rfl rfl rfl (by omega) (by omega) (Nat.le_of_ble_eq_true rfl) dX5_readStatement_10 rfl rfl ?_
      obtain rfl := Option.some.inj h
      exact v_aret2 (pc := 13) (r := p37) O dX5_readStatement_13
theorem c_X5_readStatement {l : Launch} {w : Wx} {nu : Nat} {rec : Int32 → Sr → Dat → Option (Sum Nat (Option Nat) × Sr × Dat)} {N : Nat} {fr lc : Nat} (hl : l.stackTraces = false) (hm : wlm w = true) (hR : ∀ {x1 : Int32} {S : Sr} {D : Dat} {z : Sum Nat (Option Nat) × Sr × Dat}, rec x1 S D = some z → C2 l w yX5_readStatements cX5_readStatements 6 (some (.object "FlowChain$Statement")) fr lc [.ref (wb w + 3), .int x1] nu S D (ro (wb w) z)) {S : Sr} {D : Dat} {z : Sum Nat (Option Nat) × Sr × Dat} (h : f_X5_readStatement rec N nu S D = some z) : C2 l w yX5_readStatement cX5_readStatement 1 (some (.object "FlowChain$Statement")) (fr + 141) (lc + 3141) [.ref (wb w + 3)] nu S D (ro (wb w) z) :=
  C2.of hl (by decide) (Nat.le_of_ble_eq_true rfl) (fun X e1 e2 e3 hT O _ _ => by
  subst e1
  subst e2
  exact w_X5_readStatement O hm e3 hT hR  S D h)
def f_X5_readStatements_s_b45 (rec : Int32 → Sr → Dat → Option (Sum Nat (Option Nat) × Sr × Dat)) (N : Nat) (nu : Nat) (rec_7 : Int32 → Option Nat → Option Nat → Int32 → Sr → Dat → Option (Sum Nat (Option Nat) × Sr × Dat)) (x1 : Int32) (x2 : Option Nat) (x4 : Int32) (x5 : Option Nat) (S : Sr) (D : Dat) : Option (Sum Nat (Option Nat) × Sr × Dat) :=
  rec_7 x1 x2 x5 (x4 + 1) S D
set_option maxHeartbeats 4000000 in
theorem w_X5_readStatements_s_b45 {X : Cx} {nu : Nat} {rec : Int32 → Sr → Dat → Option (Sum Nat (Option Nat) × Sr × Dat)} {N : Nat} {fr lc : Nat} {rec_7 : Int32 → Option Nat → Option Nat → Int32 → Sr → Dat → Option (Sum Nat (Option Nat) × Sr × Dat)} {z : Sum Nat (Option Nat) × Sr × Dat} (O : Ok X cX5_readStatements RX5 (some (.object "FlowChain$Statement")) (fr + 142) (lc + 3161)) (hm : wlm (xw X) = true) (hn : xn X = 6) (hT : T2 X) (hR : ∀ {x1 : Int32} {S : Sr} {D : Dat} {z : Sum Nat (Option Nat) × Sr × Dat}, rec x1 S D = some z → C2 (xl X) (xw X) yX5_readStatements cX5_readStatements 6 (some (.object "FlowChain$Statement")) fr lc [.ref (wb (xw X) + 3), .int x1] nu S D (ro (wb (xw X)) z)) (hrec_7 : ∀ (x1 : Int32) (x2 : Option Nat) (x3 : Option Nat) (x4 : Int32) (S : Sr) (D : Dat), rec_7 x1 x2 x3 x4 S D = some z → V X (Q2 X nu (ro (bo X) z)) S.1 (Az nu S) D 7 [(0, .ref (bo X + 3)), (1, .int x1), (2, rv (bo X) x2), (3, rv (bo X) x3), (4, .int x4)] []) (x1 : Int32) (x2 : Option Nat) (x4 : Int32) (x5 : Option Nat) (S : Sr) (D : Dat) (h : f_X5_readStatements_s_b45 rec N nu rec_7 x1 x2 x4 x5 S D = some z) : V X (Q2 X nu (ro (bo X) z)) S.1 (Az nu S) D 45 [(0, .ref (bo X + 3)), (1, .int x1), (2, rv (bo X) x2), (4, .int x4), (5, rv (bo X) x5)] [] := by
  unfold f_X5_readStatements_s_b45 at h
  refine v_aloadr (pc := 45) O dX5_readStatements_45 4 rfl ?_
  refine v_astore_nr (pc := 47) (i := 3) (lv' := [(3, rv (bo X) x5), (0, .ref (bo X + 3)), (1, .int x1), (2, rv (bo X) x2), (4, .int x4), (5, rv (bo X) x5)]) O dX5_readStatements_47 rfl (by rw [hn]; decide) (by simp [rv_cat, cat_i, cat_l, cat_r, cat_n]) ?_
  refine v_iinc (pc := 48) (lv' := [(4, .int (x4 + 1)), (3, rv (bo X) x5), (0, .ref (bo X + 3)), (1, .int x1), (2, rv (bo X) x2), (5, rv (bo X) x5)]) O dX5_readStatements_48 4 rfl (congrArg (fun q => x4 + q) ic_1) (by rw [hn]; decide) (by simp [rv_cat, cat_i, cat_l, cat_r, cat_n]) ?_
  refine v_goto (pc := 51) 7 O dX5_readStatements_51 (by decide) ?_
  refine v_sub [2, 3, 4, 1, 0] rfl ?_
  exact hrec_7 x1 x2 x5 (x4 + 1) S D h
def f_X5_readStatements_s_b54 (rec : Int32 → Sr → Dat → Option (Sum Nat (Option Nat) × Sr × Dat)) (N : Nat) (nu : Nat) (x2 : Option Nat) (S : Sr) (D : Dat) : Option (Sum Nat (Option Nat) × Sr × Dat) :=
  some (.inr x2, S, D)
set_option maxHeartbeats 4000000 in
theorem w_X5_readStatements_s_b54 {X : Cx} {nu : Nat} {rec : Int32 → Sr → Dat → Option (Sum Nat (Option Nat) × Sr × Dat)} {N : Nat} {fr lc : Nat} {z : Sum Nat (Option Nat) × Sr × Dat} (O : Ok X cX5_readStatements RX5 (some (.object "FlowChain$Statement")) (fr + 142) (lc + 3161)) (hm : wlm (xw X) = true) (hn : xn X = 6) (hT : T2 X) (hR : ∀ {x1 : Int32} {S : Sr} {D : Dat} {z : Sum Nat (Option Nat) × Sr × Dat}, rec x1 S D = some z → C2 (xl X) (xw X) yX5_readStatements cX5_readStatements 6 (some (.object "FlowChain$Statement")) fr lc [.ref (wb (xw X) + 3), .int x1] nu S D (ro (wb (xw X)) z)) (x2 : Option Nat) (S : Sr) (D : Dat) (h : f_X5_readStatements_s_b54 rec N nu x2 S D = some z) : V X (Q2 X nu (ro (bo X) z)) S.1 (Az nu S) D 54 [(2, rv (bo X) x2)] [] := by
  unfold f_X5_readStatements_s_b54 at h
  refine v_aload_nr (pc := 54) O dX5_readStatements_54 0 rfl ?_
  obtain rfl := Option.some.inj h
  exact v_aret2 (pc := 55) (r := x2) O dX5_readStatements_55
def f_X5_readStatements_s_b7 (rec : Int32 → Sr → Dat → Option (Sum Nat (Option Nat) × Sr × Dat)) (N : Nat) (nu : Nat) : Nat → Int32 → Option Nat → Option Nat → Int32 → Sr → Dat → Option (Sum Nat (Option Nat) × Sr × Dat)
  | 0, _, _, _, _, _, _ => none
  | g + 1, x1, x2, x3, x4, S, D => if 240 ≤ x4 then (f_X5_readStatements_s_b54 rec N nu x2 S D) else (if (dI D 3 6) = x1 then (f_X5_readStatements_s_b54 rec N nu x2 S D) else (sb2 (f_X5_readStatement rec N nu S D) (fun p3 S5 D5 => oel x3 (f_X5_readStatements_s_b45 rec N nu (f_X5_readStatements_s_b7 rec N nu g) x1 p3 x4 p3 S5 D5) (fun a6 => if kd S5.2.1 a6 = 7 then (f_X5_readStatements_s_b45 rec N nu (f_X5_readStatements_s_b7 rec N nu g) x1 x2 x4 p3 S5 (sR D5 a6 9 p3)) else none))))
set_option maxHeartbeats 4000000 in
theorem w_X5_readStatements_s_b7 {X : Cx} {nu : Nat} {rec : Int32 → Sr → Dat → Option (Sum Nat (Option Nat) × Sr × Dat)} {N : Nat} {fr lc : Nat} {z : Sum Nat (Option Nat) × Sr × Dat} (O : Ok X cX5_readStatements RX5 (some (.object "FlowChain$Statement")) (fr + 142) (lc + 3161)) (hm : wlm (xw X) = true) (hn : xn X = 6) (hT : T2 X) (hR : ∀ {x1 : Int32} {S : Sr} {D : Dat} {z : Sum Nat (Option Nat) × Sr × Dat}, rec x1 S D = some z → C2 (xl X) (xw X) yX5_readStatements cX5_readStatements 6 (some (.object "FlowChain$Statement")) fr lc [.ref (wb (xw X) + 3), .int x1] nu S D (ro (wb (xw X)) z)) : ∀ (g : Nat) (x1 : Int32) (x2 : Option Nat) (x3 : Option Nat) (x4 : Int32) (S : Sr) (D : Dat), f_X5_readStatements_s_b7 rec N nu g x1 x2 x3 x4 S D = some z → V X (Q2 X nu (ro (bo X) z)) S.1 (Az nu S) D 7 [(0, .ref (bo X + 3)), (1, .int x1), (2, rv (bo X) x2), (3, rv (bo X) x3), (4, .int x4)] [] := by
  intro g
  induction g with
  | zero => intro x1 x2 x3 x4 S D h; exact absurd h (by simp [f_X5_readStatements_s_b7])
  | succ g ih =>
    intro x1 x2 x3 x4 S D h
    rw [f_X5_readStatements_s_b7] at h
    refine v_iload (pc := 7) O dX5_readStatements_7 4 rfl ?_
    refine v_sipush (pc := 9) O dX5_readStatements_9 sp_240 ?_
    refine v_icmpge (pc := 12) 54 O dX5_readStatements_12 (by decide) (fun c1 => ?_) (fun c1 => ?_)
    · have h := (if_pos c1).symm.trans h
      refine v_sub [2] rfl ?_
      exact w_X5_readStatements_s_b54 O hm hn hT hR x2 S D h
    · have h := (if_neg c1).symm.trans h
      refine v_aload_n (pc := 15) O dX5_readStatements_15 0 rfl ?_
      refine v_getI (pc := 16) (a := 3) O gf_X5_6 fl_X5_120 kq_3 dX5_readStatements_16 ?_
      refine v_iload_n (pc := 19) O dX5_readStatements_19 1 rfl ?_
      refine v_icmpeq (pc := 20) 54 O dX5_readStatements_20 (by decide) (fun c2 => ?_) (fun c2 => ?_)
      · have h := (if_pos c2).symm.trans h
        refine v_sub [2] rfl ?_
        exact w_X5_readStatements_s_b54 O hm hn hT hR x2 S D h
      · have h := (if_neg c2).symm.trans h
        refine v_aload_n (pc := 23) O dX5_readStatements_23 0 rfl ?_
        rcases sb2_some h with ⟨p3, S5, D5, e4, rfl⟩ | ⟨p3, S5, D5, e4, h⟩
        · exact v_call2X (pc := 24) (a := 3) (As := []) (rest := []) (e := p3) (S' := S5) (D' := D5) O hT (c_X5_readStatement (nu := nu) hT.2.1 hm hR e4 :) mw_X5_readStatement im_X5_readStatement se_X5_readStatement ml_X5_123 kq_3 (by decide) rfl rfl rfl (by omega) (by omega) (Nat.le_of_ble_eq_true rfl) dX5_readStatements_24 rfl
        · refine v_call2 (pc := 24) (a := 3) (As := []) (rest := []) (r := (some (rv (bo X) p3))) (S' := S5) (D' := D5) O hT (c_X5_readStatement (nu := nu) hT.2.1 hm hR e4 :) mw_X5_readStatement im_X5_readStatement se_X5_readStatement ml_X5_123 kq_3 (by decide) rfl rfl rfl (by omega) (by omega) (Nat.le_of_ble_eq_true rfl) dX5_readStatements_24 rfl rfl ?_
          refine v_astorer (pc := 27) (lv' := [(5, rv (bo X) p3), (0, .ref (bo X + 3)), (1, .int x1), (2, rv (bo X) x2), (3, rv (bo X) x3), (4, .int x4)]) O dX5_readStatements_27 (by rw [hn]; decide) rfl ?_
          refine v_aload_nr (pc := 29) O dX5_readStatements_29 4 rfl ?_
          refine v_ifnonnull (pc := 30) 39 O dX5_readStatements_30 (by decide) (fun a6 e7 => ?_) (fun e7 => ?_)
          · subst e7
            have h := osome h
            refine v_aload_n (pc := 39) O dX5_readStatements_39 4 rfl ?_
            refine v_aloadr (pc := 40) O dX5_readStatements_40 0 rfl ?_
            obtain ⟨c8, h⟩ := if_none h
            refine v_putR (pc := 42) (a := a6) (r := p3) O pf_X7_9 rfl fl_X5_126 c8 dX5_readStatements_42 ?_
            refine v_sub [1, 2, 3, 5, 0] rfl ?_
            exact w_X5_readStatements_s_b45 O hm hn hT hR ih x1 x2 x4 p3 S5 (sR D5 a6 9 p3) h
          · subst e7
            have h := onone h
            refine v_aloadr (pc := 33) O dX5_readStatements_33 0 rfl ?_
            refine v_astore_nr (pc := 35) (lv' := [(2, rv (bo X) p3), (5, rv (bo X) p3), (0, .ref (bo X + 3)), (1, .int x1), (3, rv (bo X) none), (4, .int x4)]) O dX5_readStatements_35 rfl (by rw [hn]; decide) rfl ?_
            refine v_goto (pc := 36) 45 O dX5_readStatements_36 (by decide) ?_
            refine v_sub [2, 3, 0, 5, 1] rfl ?_
            exact w_X5_readStatements_s_b45 O hm hn hT hR ih x1 p3 x4 p3 S5 D5 h
def f_X5_readStatements_s (rec : Int32 → Sr → Dat → Option (Sum Nat (Option Nat) × Sr × Dat)) (N : Nat) (nu : Nat) (x1 : Int32) (S : Sr) (D : Dat) : Option (Sum Nat (Option Nat) × Sr × Dat) :=
  f_X5_readStatements_s_b7 rec N nu N x1 none none 0 S D
set_option maxHeartbeats 4000000 in
theorem w_X5_readStatements_s {X : Cx} {nu : Nat} {rec : Int32 → Sr → Dat → Option (Sum Nat (Option Nat) × Sr × Dat)} {N : Nat} {fr lc : Nat} {z : Sum Nat (Option Nat) × Sr × Dat} (O : Ok X cX5_readStatements RX5 (some (.object "FlowChain$Statement")) (fr + 142) (lc + 3161)) (hm : wlm (xw X) = true) (hn : xn X = 6) (hT : T2 X) (hR : ∀ {x1 : Int32} {S : Sr} {D : Dat} {z : Sum Nat (Option Nat) × Sr × Dat}, rec x1 S D = some z → C2 (xl X) (xw X) yX5_readStatements cX5_readStatements 6 (some (.object "FlowChain$Statement")) fr lc [.ref (wb (xw X) + 3), .int x1] nu S D (ro (wb (xw X)) z)) (x1 : Int32) (S : Sr) (D : Dat) (h : f_X5_readStatements_s rec N nu x1 S D = some z) : V X (Q2 X nu (ro (bo X) z)) S.1 (Az nu S) D 0 [(0, .ref (bo X + 3)), (1, .int x1)] [] := by
  unfold f_X5_readStatements_s at h
  refine v_null (pc := 0) O dX5_readStatements_0 ?_
  show V X _ _ _ _ 1 _ (rv (bo X) none :: [])
  refine v_astore_nr (pc := 1) (lv' := [(2, rv (bo X) none), (0, .ref (bo X + 3)), (1, .int x1)]) O dX5_readStatements_1 rfl (by rw [hn]; decide) rfl ?_
  refine v_null (pc := 2) O dX5_readStatements_2 ?_
  show V X _ _ _ _ 3 _ (rv (bo X) none :: [])
  refine v_astore_nr (pc := 3) (i := 3) (lv' := [(3, rv (bo X) none), (2, rv (bo X) none), (0, .ref (bo X + 3)), (1, .int x1)]) O dX5_readStatements_3 rfl (by rw [hn]; decide) (by simp [rv_cat, cat_i, cat_l, cat_r, cat_n]) ?_
  refine v_iconst (pc := 4) O dX5_readStatements_4 ic_0 ?_
  refine v_istore (pc := 5) (lv' := [(4, .int 0), (3, rv (bo X) none), (2, rv (bo X) none), (0, .ref (bo X + 3)), (1, .int x1)]) O dX5_readStatements_5 (by rw [hn]; decide) (by simp [rv_cat, cat_i, cat_l, cat_r, cat_n]) ?_
  refine v_sub [3, 4, 2, 1, 0] rfl ?_
  exact w_X5_readStatements_s_b7 O hm hn hT hR N x1 none none 0 S D h
theorem c_X5_readStatements_s {l : Launch} {w : Wx} {nu : Nat} {rec : Int32 → Sr → Dat → Option (Sum Nat (Option Nat) × Sr × Dat)} {N : Nat} {fr lc : Nat} (hl : l.stackTraces = false) (hm : wlm w = true) (hR : ∀ {x1 : Int32} {S : Sr} {D : Dat} {z : Sum Nat (Option Nat) × Sr × Dat}, rec x1 S D = some z → C2 l w yX5_readStatements cX5_readStatements 6 (some (.object "FlowChain$Statement")) fr lc [.ref (wb w + 3), .int x1] nu S D (ro (wb w) z)) {x1 : Int32} {S : Sr} {D : Dat} {z : Sum Nat (Option Nat) × Sr × Dat} (h : f_X5_readStatements_s rec N nu x1 S D = some z) : C2 l w yX5_readStatements cX5_readStatements 6 (some (.object "FlowChain$Statement")) (fr + 142) (lc + 3161) [.ref (wb w + 3), .int x1] nu S D (ro (wb w) z) :=
  C2.of hl (by decide) (Nat.le_of_ble_eq_true rfl) (fun X e1 e2 e3 hT O _ _ => by
  subst e1
  subst e2
  exact w_X5_readStatements_s O hm e3 hT hR x1 S D h)
def f_X5_readStatements (N : Nat) (nu : Nat) : Nat → Int32 → Sr → Dat → Option (Sum Nat (Option Nat) × Sr × Dat)
  | 0, _, _, _ => none
  | d + 1, x1, S, D => f_X5_readStatements_s (f_X5_readStatements N nu d) N nu x1 S D
theorem c_X5_readStatements {l : Launch} {w : Wx} {nu : Nat} {N : Nat} (hl : l.stackTraces = false) (hm : wlm w = true) : ∀ (d : Nat) {x1 : Int32} {S : Sr} {D : Dat} {z : Sum Nat (Option Nat) × Sr × Dat} (h : f_X5_readStatements N nu d x1 S D = some z), C2 l w yX5_readStatements cX5_readStatements 6 (some (.object "FlowChain$Statement")) (142 * d) (3161 * d) [.ref (wb w + 3), .int x1] nu S D (ro (wb w) z) := by
  intro d
  induction d with
  | zero => intro x1 S D z h; exact absurd h (by simp [f_X5_readStatements])
  | succ d ih =>
    intro x1 S D z h
    rw [f_X5_readStatements] at h
    exact c_X5_readStatements_s (fr := 142 * d) (lc := 3161 * d) hl hm (fun h => ih h) h
def f_X5_readProc (N : Nat) (nu : Nat) (S : Sr) (D : Dat) : Option (Sum Nat Unit × Sr × Dat) :=
  (f_X5_advance N D).bind (fun p1 => sb2 (f_X5_takeNewName N nu 3 S p1) (fun p3 S5 D5 => sb2 (f_X5_readBlock (f_X5_readStatements N nu 12) N nu S5 D5) (fun p6 S8 D8 => ((dR D5 3 4)).bind (fun a9 => if a9 = 191 ∨ a9 = 196 then ((f_X4_setProc nu S8.2.1 a9 p3 p6 D8).bind (fun p12 => (f_X5_setRole p3 4 p12).bind (fun p14 => some (.inr (), S8, p14)))) else none))))
set_option maxHeartbeats 4000000 in
theorem w_X5_readProc {X : Cx} {nu : Nat} {N : Nat} {z : Sum Nat Unit × Sr × Dat} (O : Ok X cX5_readProc RX5 none 1712 38113) (hm : wlm (xw X) = true) (hn : xn X = 2) (hT : T2 X) (S : Sr) (D : Dat) (h : f_X5_readProc N nu S D = some z) : V X (Q2 X nu (ru z)) S.1 (Az nu S) D 0 [(0, .ref (bo X + 3))] [] := by
  unfold f_X5_readProc at h
  refine v_aload_n (pc := 0) O dX5_readProc_0 0 rfl ?_
  obtain ⟨p1, e2, h⟩ := bind_some h
  refine v_callV (pc := 1) (a := 3) (As := []) (rest := []) (r := none) (D' := p1) O (bb2 hT) (c_X5_advance hm e2) mw_X5_advance im_X5_advance se_X5_advance ml_X5_57 kq_3 (by decide) rfl rfl rfl (by decide) (by decide) (Nat.le_of_ble_eq_true rfl) dX5_readProc_1 rfl rfl ?_
  refine v_aload_n (pc := 4) O dX5_readProc_4 0 rfl ?_
  refine v_iconst (pc := 5) O dX5_readProc_5 ic_3 ?_
  rcases sb2_some h with ⟨p3, S5, D5, e4, rfl⟩ | ⟨p3, S5, D5, e4, h⟩
  · exact v_call2X (pc := 6) (a := 3) (As := [.int 3]) (rest := []) (e := p3) (S' := S5) (D' := D5) O hT (c_X5_takeNewName (nu := nu) hT.2.1 hm e4 :) mw_X5_takeNewName im_X5_takeNewName se_X5_takeNewName ml_X5_88 kq_3 (by decide) rfl rfl rfl (by decide) (by decide) (Nat.le_of_ble_eq_true rfl) dX5_readProc_6 rfl
  · refine v_call2 (pc := 6) (a := 3) (As := [.int 3]) (rest := []) (r := (some (.int p3))) (S' := S5) (D' := D5) O hT (c_X5_takeNewName (nu := nu) hT.2.1 hm e4 :) mw_X5_takeNewName im_X5_takeNewName se_X5_takeNewName ml_X5_88 kq_3 (by decide) rfl rfl rfl (by decide) (by decide) (Nat.le_of_ble_eq_true rfl) dX5_readProc_6 rfl rfl ?_
    refine v_istore_n (pc := 9) (lv' := [(1, .int p3), (0, .ref (bo X + 3))]) O dX5_readProc_9 rfl (by rw [hn]; decide) rfl ?_
    refine v_aload_n (pc := 10) O dX5_readProc_10 1 rfl ?_
    refine v_getR (pc := 11) (a := 3) O gf_X5_4 fl_X5_36 kq_3 dX5_readProc_11 ?_
    refine v_iload_n (pc := 14) O dX5_readProc_14 0 rfl ?_
    refine v_aload_n (pc := 15) O dX5_readProc_15 1 rfl ?_
    rcases sb2_some h with ⟨p6, S8, D8, e7, rfl⟩ | ⟨p6, S8, D8, e7, h⟩
    · exact v_call2X (pc := 16) (a := 3) (As := []) (rest := [.int p3, rv (bo X) (dR D5 3 4)]) (e := p6) (S' := S8) (D' := D8) O hT (c_X5_readBlock (nu := nu) hT.2.1 hm (fun h => c_X5_readStatements hT.2.1 hm 12 h) e7 :) mw_X5_readBlock im_X5_readBlock se_X5_readBlock ml_X5_103 kq_3 (by decide) rfl rfl rfl (by decide) (by decide) (by simp [rv_cat, cat_i, cat_l, cat_r, cat_n, fmt_cat]) dX5_readProc_16 rfl
    · refine v_call2 (pc := 16) (a := 3) (As := []) (rest := [.int p3, rv (bo X) (dR D5 3 4)]) (r := (some (rv (bo X) p6))) (S' := S8) (D' := D8) O hT (c_X5_readBlock (nu := nu) hT.2.1 hm (fun h => c_X5_readStatements hT.2.1 hm 12 h) e7 :) mw_X5_readBlock im_X5_readBlock se_X5_readBlock ml_X5_103 kq_3 (by decide) rfl rfl rfl (by decide) (by decide) (by simp [rv_cat, cat_i, cat_l, cat_r, cat_n, fmt_cat]) dX5_readProc_16 rfl rfl ?_
      obtain ⟨a9, e10, h⟩ := bind_some h
      rw [e10]
      obtain ⟨c11, h⟩ := if_none h
      obtain ⟨p12, e13, h⟩ := bind_some h
      refine v_callV (pc := 19) (a := a9) (As := [.int p3, rv (bo X) p6]) (rest := []) (r := none) (D' := p12) O (bb2 hT) (c_X4_setProc hm c11 e13) mw_X4_setProc im_X4_setProc se_X4_setProc ml_X5_107 (kt_X4 c11) (by decide) rfl rfl rfl (by decide) (by decide) (Nat.le_of_ble_eq_true rfl) dX5_readProc_19 rfl rfl ?_
      refine v_aload_n (pc := 22) O dX5_readProc_22 1 rfl ?_
      refine v_iload_n (pc := 23) O dX5_readProc_23 0 rfl ?_
      refine v_iconst (pc := 24) O dX5_readProc_24 ic_4 ?_
      obtain ⟨p14, e15, h⟩ := bind_some h
      refine v_callV (pc := 25) (a := 3) (As := [.int p3, .int 4]) (rest := []) (r := none) (D' := p14) O (bb2 hT) (c_X5_setRole hm e15) mw_X5_setRole im_X5_setRole se_X5_setRole ml_X5_111 kq_3 (by decide) rfl rfl rfl (by decide) (by decide) (Nat.le_of_ble_eq_true rfl) dX5_readProc_25 rfl rfl ?_
      obtain rfl := Option.some.inj h
      exact v_vret2 (pc := 28) O dX5_readProc_28
theorem c_X5_readProc {l : Launch} {w : Wx} {nu : Nat} {N : Nat} (hl : l.stackTraces = false) (hm : wlm w = true) {S : Sr} {D : Dat} {z : Sum Nat Unit × Sr × Dat} (h : f_X5_readProc N nu S D = some z) : C2 l w yX5_readProc cX5_readProc 2 none 1712 38113 [.ref (wb w + 3)] nu S D (ru z) :=
  C2.of hl (by decide) (Nat.le_of_ble_eq_true rfl) (fun X e1 e2 e3 hT O _ _ => by
  subst e1
  subst e2
  exact w_X5_readProc O hm e3 hT  S D h)
def f_X5_readDeclarations_b63 (N : Nat) (nu : Nat) (rec_2 : Int32 → Sr → Dat → Option (Sum Nat Unit × Sr × Dat)) (x1 : Int32) (S : Sr) (D : Dat) : Option (Sum Nat Unit × Sr × Dat) :=
  rec_2 (x1 + 1) S D
set_option maxHeartbeats 4000000 in
theorem w_X5_readDeclarations_b63 {X : Cx} {nu : Nat} {N : Nat} {rec_2 : Int32 → Sr → Dat → Option (Sum Nat Unit × Sr × Dat)} {z : Sum Nat Unit × Sr × Dat} (O : Ok X cX5_readDeclarations RX5 none 1713 38134) (hm : wlm (xw X) = true) (hn : xn X = 2) (hT : T2 X) (hrec_2 : ∀ (x1 : Int32) (S : Sr) (D : Dat), rec_2 x1 S D = some z → V X (Q2 X nu (ru z)) S.1 (Az nu S) D 2 [(0, .ref (bo X + 3)), (1, .int x1)] []) (x1 : Int32) (S : Sr) (D : Dat) (h : f_X5_readDeclarations_b63 N nu rec_2 x1 S D = some z) : V X (Q2 X nu (ru z)) S.1 (Az nu S) D 63 [(0, .ref (bo X + 3)), (1, .int x1)] [] := by
  unfold f_X5_readDeclarations_b63 at h
  refine v_iinc (pc := 63) (lv' := [(1, .int (x1 + 1)), (0, .ref (bo X + 3))]) O dX5_readDeclarations_63 1 rfl (congrArg (fun q => x1 + q) ic_1) (by rw [hn]; decide) rfl ?_
  refine v_goto (pc := 66) 2 O dX5_readDeclarations_66 (by decide) ?_
  refine v_sub [1, 0] rfl ?_
  exact hrec_2 (x1 + 1) S D h
def f_X5_readDeclarations_b2 (N : Nat) (nu : Nat) : Nat → Int32 → Sr → Dat → Option (Sum Nat Unit × Sr × Dat)
  | 0, _, _, _ => none
  | g + 1, x1, S, D => if 240 ≤ x1 then (some (.inr (), S, D)) else ((f_X5_isWord N 0 D).bind (fun p2 => if p2.1 = 0 then ((f_X5_isWord N 1 p2.2).bind (fun p5 => if p5.1 = 0 then ((f_X5_isWord N 2 p5.2).bind (fun p8 => if p8.1 = 0 then (some (.inr (), S, p8.2)) else (sb2 (f_X5_readProc N nu S p8.2) (fun p11 S13 D13 => f_X5_readDeclarations_b63 N nu (f_X5_readDeclarations_b2 N nu g) x1 S13 D13)))) else (sb2 (f_X5_readMark N nu 2 26 S p5.2) (fun p14 S16 D16 => f_X5_readDeclarations_b63 N nu (f_X5_readDeclarations_b2 N nu g) x1 S16 D16)))) else (sb2 (f_X5_readMark N nu 1 0 S p2.2) (fun p17 S19 D19 => f_X5_readDeclarations_b63 N nu (f_X5_readDeclarations_b2 N nu g) x1 S19 D19))))
set_option maxHeartbeats 4000000 in
theorem w_X5_readDeclarations_b2 {X : Cx} {nu : Nat} {N : Nat} {z : Sum Nat Unit × Sr × Dat} (O : Ok X cX5_readDeclarations RX5 none 1713 38134) (hm : wlm (xw X) = true) (hn : xn X = 2) (hT : T2 X) : ∀ (g : Nat) (x1 : Int32) (S : Sr) (D : Dat), f_X5_readDeclarations_b2 N nu g x1 S D = some z → V X (Q2 X nu (ru z)) S.1 (Az nu S) D 2 [(0, .ref (bo X + 3)), (1, .int x1)] [] := by
  intro g
  induction g with
  | zero => intro x1 S D h; exact absurd h (by simp [f_X5_readDeclarations_b2])
  | succ g ih =>
    intro x1 S D h
    rw [f_X5_readDeclarations_b2] at h
    refine v_iload_n (pc := 2) O dX5_readDeclarations_2 1 rfl ?_
    refine v_sipush (pc := 3) O dX5_readDeclarations_3 sp_240 ?_
    refine v_icmpge (pc := 6) 69 O dX5_readDeclarations_6 (by decide) (fun c1 => ?_) (fun c1 => ?_)
    · have h := (if_pos c1).symm.trans h
      obtain rfl := Option.some.inj h
      exact v_vret2 (pc := 69) O dX5_readDeclarations_69
    · have h := (if_neg c1).symm.trans h
      refine v_aload_n (pc := 9) O dX5_readDeclarations_9 0 rfl ?_
      refine v_ldcS (pc := 10) O 0 (by decide) rfl dX5_readDeclarations_10 ?_
      obtain ⟨p2, e3, h⟩ := bind_some h
      refine v_callV (pc := 12) (a := 3) (As := [.ref (woK (xw X) 0)]) (rest := []) (r := (some (.int p2.1))) (D' := p2.2) O (bb2 hT) (c_X5_isWord hm e3) mw_X5_isWord im_X5_isWord se_X5_isWord ml_X5_73 kq_3 (by decide) rfl rfl rfl (by decide) (by decide) (Nat.le_of_ble_eq_true rfl) dX5_readDeclarations_12 rfl rfl ?_
      refine v_ifeq (pc := 15) 27 O dX5_readDeclarations_15 (by decide) (fun c4 => ?_) (fun c4 => ?_)
      · have h := (if_pos c4).symm.trans h
        refine v_aload_n (pc := 27) O dX5_readDeclarations_27 0 rfl ?_
        refine v_ldcS (pc := 28) O 1 (by decide) rfl dX5_readDeclarations_28 ?_
        obtain ⟨p5, e6, h⟩ := bind_some h
        refine v_callV (pc := 30) (a := 3) (As := [.ref (woK (xw X) 1)]) (rest := []) (r := (some (.int p5.1))) (D' := p5.2) O (bb2 hT) (c_X5_isWord hm e6) mw_X5_isWord im_X5_isWord se_X5_isWord ml_X5_73 kq_3 (by decide) rfl rfl rfl (by decide) (by decide) (Nat.le_of_ble_eq_true rfl) dX5_readDeclarations_30 rfl rfl ?_
        refine v_ifeq (pc := 33) 46 O dX5_readDeclarations_33 (by decide) (fun c7 => ?_) (fun c7 => ?_)
        · have h := (if_pos c7).symm.trans h
          refine v_aload_n (pc := 46) O dX5_readDeclarations_46 0 rfl ?_
          refine v_ldcS (pc := 47) O 2 (by decide) rfl dX5_readDeclarations_47 ?_
          obtain ⟨p8, e9, h⟩ := bind_some h
          refine v_callV (pc := 49) (a := 3) (As := [.ref (woK (xw X) 2)]) (rest := []) (r := (some (.int p8.1))) (D' := p8.2) O (bb2 hT) (c_X5_isWord hm e9) mw_X5_isWord im_X5_isWord se_X5_isWord ml_X5_73 kq_3 (by decide) rfl rfl rfl (by decide) (by decide) (Nat.le_of_ble_eq_true rfl) dX5_readDeclarations_49 rfl rfl ?_
          refine v_ifeq (pc := 52) 62 O dX5_readDeclarations_52 (by decide) (fun c10 => ?_) (fun c10 => ?_)
          · have h := (if_pos c10).symm.trans h
            obtain rfl := Option.some.inj h
            exact v_vret2 (pc := 62) O dX5_readDeclarations_62
          · have h := (if_neg c10).symm.trans h
            refine v_aload_n (pc := 55) O dX5_readDeclarations_55 0 rfl ?_
            rcases sb2_some h with ⟨p11, S13, D13, e12, rfl⟩ | ⟨p11, S13, D13, e12, h⟩
            · exact v_call2X (pc := 56) (a := 3) (As := []) (rest := []) (e := p11) (S' := S13) (D' := D13) O hT (c_X5_readProc (nu := nu) hT.2.1 hm e12 :) mw_X5_readProc im_X5_readProc se_X5_readProc ml_X5_85 kq_3 (by decide) rfl rfl rfl (by decide) (by decide) (Nat.le_of_ble_eq_true rfl) dX5_readDeclarations_56 rfl
            · refine v_call2 (pc := 56) (a := 3) (As := []) (rest := []) (r := none) (S' := S13) (D' := D13) O hT (c_X5_readProc (nu := nu) hT.2.1 hm e12 :) mw_X5_readProc im_X5_readProc se_X5_readProc ml_X5_85 kq_3 (by decide) rfl rfl rfl (by decide) (by decide) (Nat.le_of_ble_eq_true rfl) dX5_readDeclarations_56 rfl rfl ?_
              refine v_goto (pc := 59) 63 O dX5_readDeclarations_59 (by decide) ?_
              refine v_sub [0, 1] rfl ?_
              exact w_X5_readDeclarations_b63 O hm hn hT ih x1 S13 D13 h
        · have h := (if_neg c7).symm.trans h
          refine v_aload_n (pc := 36) O dX5_readDeclarations_36 0 rfl ?_
          refine v_iconst (pc := 37) O dX5_readDeclarations_37 ic_2 ?_
          refine v_bipush (pc := 38) O dX5_readDeclarations_38 bp_26 ?_
          rcases sb2_some h with ⟨p14, S16, D16, e15, rfl⟩ | ⟨p14, S16, D16, e15, h⟩
          · exact v_call2X (pc := 40) (a := 3) (As := [.int 2, .int 26]) (rest := []) (e := p14) (S' := S16) (D' := D16) O hT (c_X5_readMark (nu := nu) hT.2.1 hm e15 :) mw_X5_readMark im_X5_readMark se_X5_readMark ml_X5_77 kq_3 (by decide) rfl rfl rfl (by decide) (by decide) (Nat.le_of_ble_eq_true rfl) dX5_readDeclarations_40 rfl
          · refine v_call2 (pc := 40) (a := 3) (As := [.int 2, .int 26]) (rest := []) (r := none) (S' := S16) (D' := D16) O hT (c_X5_readMark (nu := nu) hT.2.1 hm e15 :) mw_X5_readMark im_X5_readMark se_X5_readMark ml_X5_77 kq_3 (by decide) rfl rfl rfl (by decide) (by decide) (Nat.le_of_ble_eq_true rfl) dX5_readDeclarations_40 rfl rfl ?_
            refine v_goto (pc := 43) 63 O dX5_readDeclarations_43 (by decide) ?_
            refine v_sub [0, 1] rfl ?_
            exact w_X5_readDeclarations_b63 O hm hn hT ih x1 S16 D16 h
      · have h := (if_neg c4).symm.trans h
        refine v_aload_n (pc := 18) O dX5_readDeclarations_18 0 rfl ?_
        refine v_iconst (pc := 19) O dX5_readDeclarations_19 ic_1 ?_
        refine v_iconst (pc := 20) O dX5_readDeclarations_20 ic_0 ?_
        rcases sb2_some h with ⟨p17, S19, D19, e18, rfl⟩ | ⟨p17, S19, D19, e18, h⟩
        · exact v_call2X (pc := 21) (a := 3) (As := [.int 1, .int 0]) (rest := []) (e := p17) (S' := S19) (D' := D19) O hT (c_X5_readMark (nu := nu) hT.2.1 hm e18 :) mw_X5_readMark im_X5_readMark se_X5_readMark ml_X5_77 kq_3 (by decide) rfl rfl rfl (by decide) (by decide) (Nat.le_of_ble_eq_true rfl) dX5_readDeclarations_21 rfl
        · refine v_call2 (pc := 21) (a := 3) (As := [.int 1, .int 0]) (rest := []) (r := none) (S' := S19) (D' := D19) O hT (c_X5_readMark (nu := nu) hT.2.1 hm e18 :) mw_X5_readMark im_X5_readMark se_X5_readMark ml_X5_77 kq_3 (by decide) rfl rfl rfl (by decide) (by decide) (Nat.le_of_ble_eq_true rfl) dX5_readDeclarations_21 rfl rfl ?_
          refine v_goto (pc := 24) 63 O dX5_readDeclarations_24 (by decide) ?_
          refine v_sub [0, 1] rfl ?_
          exact w_X5_readDeclarations_b63 O hm hn hT ih x1 S19 D19 h
def f_X5_readDeclarations (N : Nat) (nu : Nat) (S : Sr) (D : Dat) : Option (Sum Nat Unit × Sr × Dat) :=
  f_X5_readDeclarations_b2 N nu N 0 S D
set_option maxHeartbeats 4000000 in
theorem w_X5_readDeclarations {X : Cx} {nu : Nat} {N : Nat} {z : Sum Nat Unit × Sr × Dat} (O : Ok X cX5_readDeclarations RX5 none 1713 38134) (hm : wlm (xw X) = true) (hn : xn X = 2) (hT : T2 X) (S : Sr) (D : Dat) (h : f_X5_readDeclarations N nu S D = some z) : V X (Q2 X nu (ru z)) S.1 (Az nu S) D 0 [(0, .ref (bo X + 3))] [] := by
  unfold f_X5_readDeclarations at h
  refine v_iconst (pc := 0) O dX5_readDeclarations_0 ic_0 ?_
  refine v_istore_n (pc := 1) (lv' := [(1, .int 0), (0, .ref (bo X + 3))]) O dX5_readDeclarations_1 rfl (by rw [hn]; decide) rfl ?_
  refine v_sub [1, 0] rfl ?_
  exact w_X5_readDeclarations_b2 O hm hn hT N 0 S D h
theorem c_X5_readDeclarations {l : Launch} {w : Wx} {nu : Nat} {N : Nat} (hl : l.stackTraces = false) (hm : wlm w = true) {S : Sr} {D : Dat} {z : Sum Nat Unit × Sr × Dat} (h : f_X5_readDeclarations N nu S D = some z) : C2 l w yX5_readDeclarations cX5_readDeclarations 2 none 1713 38134 [.ref (wb w + 3)] nu S D (ru z) :=
  C2.of hl (by decide) (Nat.le_of_ble_eq_true rfl) (fun X e1 e2 e3 hT O _ _ => by
  subst e1
  subst e2
  exact w_X5_readDeclarations O hm e3 hT  S D h)
