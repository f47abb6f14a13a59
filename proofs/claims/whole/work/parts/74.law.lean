theorem cw_L_cell : Cond.code yL_cell cL_cell 2 (some .int) ∈ tb := tb_of 565 (by decide +kernel) (by decide +kernel)
theorem mw_L_cell : MW yL_cell cL_cell 2 (some .int) 2 := ⟨cw_L_cell, ini_L, by decide +kernel⟩
theorem sm_L_cell : Cond.static yL_cell ∈ tb := tb_of 564 (by decide +kernel) (by decide +kernel)
theorem ml_L_80 : Cond.methodLink RL 80 yL_cell ∈ tb := tb_of 563 (by decide +kernel) (by decide +kernel)
theorem bp_31 : (Int8.ofInt (31)).toInt32 = (31 : Int32) := by decide
theorem cl_L_107 : Cond.constantLong RL 107 (4294967295) ∈ tb := tb_of 2360 (by decide +kernel) (by decide +kernel)
theorem sm_L_below : Cond.static yL_below ∈ tb := tb_of 567 (by decide +kernel) (by decide +kernel)
theorem ml_L_92 : Cond.methodLink RL 92 yL_below ∈ tb := tb_of 566 (by decide +kernel) (by decide +kernel)
theorem cw_X12_below : Cond.code yX12_below cX12_below 6 (some .int) ∈ tb := tb_of 1984 (by decide +kernel) (by decide +kernel)
theorem mw_X12_below : MW yX12_below cX12_below 6 (some .int) 2 := ⟨cw_X12_below, ini_X12, by decide +kernel⟩
theorem im_X12_below : Cond.instanceMethod yX12_below ∈ tb := tb_of 1982 (by decide +kernel) (by decide +kernel)
theorem se_X12_below : Cond.selects (yX12_below).cls yX12_below yX12_below ∈ tb := tb_of 1983 (by decide +kernel) (by decide +kernel)
theorem ml_L_95 : Cond.methodLink RL 95 yX12_below ∈ tb := tb_of 1981 (by decide +kernel) (by decide +kernel)
theorem cw_X12_thrown : Cond.code yX12_thrown cX12_thrown 1 (some .int) ∈ tb := tb_of 1980 (by decide +kernel) (by decide +kernel)
theorem mw_X12_thrown : MW yX12_thrown cX12_thrown 1 (some .int) 0 := ⟨cw_X12_thrown, ini_X12, by decide +kernel⟩
theorem im_X12_thrown : Cond.instanceMethod yX12_thrown ∈ tb := tb_of 1978 (by decide +kernel) (by decide +kernel)
theorem se_X12_thrown : Cond.selects (yX12_thrown).cls yX12_thrown yX12_thrown ∈ tb := tb_of 1979 (by decide +kernel) (by decide +kernel)
theorem ml_L_96 : Cond.methodLink RL 96 yX12_thrown ∈ tb := tb_of 1977 (by decide +kernel) (by decide +kernel)
theorem sm_L_seal : Cond.static yL_seal ∈ tb := tb_of 683 (by decide +kernel) (by decide +kernel)
theorem ml_L_99 : Cond.methodLink RL 99 yL_seal ∈ tb := tb_of 682 (by decide +kernel) (by decide +kernel)
theorem cw_X12_seal : Cond.code yX12_seal cX12_seal 5 (some .int) ∈ tb := tb_of 1996 (by decide +kernel) (by decide +kernel)
theorem mw_X12_seal : MW yX12_seal cX12_seal 5 (some .int) 0 := ⟨cw_X12_seal, ini_X12, by decide +kernel⟩
theorem im_X12_seal : Cond.instanceMethod yX12_seal ∈ tb := tb_of 1994 (by decide +kernel) (by decide +kernel)
theorem se_X12_seal : Cond.selects (yX12_seal).cls yX12_seal yX12_seal ∈ tb := tb_of 1995 (by decide +kernel) (by decide +kernel)
theorem ml_L_102 : Cond.methodLink RL 102 yX12_seal ∈ tb := tb_of 1993 (by decide +kernel) (by decide +kernel)
theorem sm_L_label : Cond.static yL_label ∈ tb := tb_of 738 (by decide +kernel) (by decide +kernel)
theorem ml_L_103 : Cond.methodLink RL 103 yL_label ∈ tb := tb_of 737 (by decide +kernel) (by decide +kernel)
theorem cw_X12_label : Cond.code yX12_label cX12_label 4 (some .int) ∈ tb := tb_of 2012 (by decide +kernel) (by decide +kernel)
theorem mw_X12_label : MW yX12_label cX12_label 4 (some .int) 3 := ⟨cw_X12_label, ini_X12, by decide +kernel⟩
theorem im_X12_label : Cond.instanceMethod yX12_label ∈ tb := tb_of 2010 (by decide +kernel) (by decide +kernel)
theorem se_X12_label : Cond.selects (yX12_label).cls yX12_label yX12_label ∈ tb := tb_of 2011 (by decide +kernel) (by decide +kernel)
theorem ml_L_106 : Cond.methodLink RL 106 yX12_label ∈ tb := tb_of 2009 (by decide +kernel) (by decide +kernel)
theorem sm_L_append : Cond.static yL_append ∈ tb := tb_of 751 (by decide +kernel) (by decide +kernel)
theorem ml_L_109 : Cond.methodLink RL 109 yL_append ∈ tb := tb_of 750 (by decide +kernel) (by decide +kernel)
theorem cw_X12_append : Cond.code yX12_append cX12_append 7 (some .int) ∈ tb := tb_of 2016 (by decide +kernel) (by decide +kernel)
theorem mw_X12_append : MW yX12_append cX12_append 7 (some .int) 2 := ⟨cw_X12_append, ini_X12, by decide +kernel⟩
theorem im_X12_append : Cond.instanceMethod yX12_append ∈ tb := tb_of 2014 (by decide +kernel) (by decide +kernel)
theorem se_X12_append : Cond.selects (yX12_append).cls yX12_append yX12_append ∈ tb := tb_of 2015 (by decide +kernel) (by decide +kernel)
theorem ml_L_112 : Cond.methodLink RL 112 yX12_append ∈ tb := tb_of 2013 (by decide +kernel) (by decide +kernel)
theorem sm_L_compile : Cond.static yL_compile ∈ tb := tb_of 788 (by decide +kernel) (by decide +kernel)
theorem ml_L_113 : Cond.methodLink RL 113 yL_compile ∈ tb := tb_of 787 (by decide +kernel) (by decide +kernel)
theorem cw_X12_compile : Cond.code yX12_compile cX12_compile 2 (some .int) ∈ tb := tb_of 2023 (by decide +kernel) (by decide +kernel)
theorem mw_X12_compile : MW yX12_compile cX12_compile 2 (some .int) 0 := ⟨cw_X12_compile, ini_X12, by decide +kernel⟩
theorem im_X12_compile : Cond.instanceMethod yX12_compile ∈ tb := tb_of 2021 (by decide +kernel) (by decide +kernel)
theorem se_X12_compile : Cond.selects (yX12_compile).cls yX12_compile yX12_compile ∈ tb := tb_of 2022 (by decide +kernel) (by decide +kernel)
theorem ml_L_115 : Cond.methodLink RL 115 yX12_compile ∈ tb := tb_of 2020 (by decide +kernel) (by decide +kernel)
theorem sm_L_code : Cond.static yL_code ∈ tb := tb_of 1275 (by decide +kernel) (by decide +kernel)
theorem ml_L_116 : Cond.methodLink RL 116 yL_code ∈ tb := tb_of 1274 (by decide +kernel) (by decide +kernel)
theorem cw_X12_code : Cond.code yX12_code cX12_code 3 (some .int) ∈ tb := tb_of 2191 (by decide +kernel) (by decide +kernel)
theorem mw_X12_code : MW yX12_code cX12_code 3 (some .int) 2 := ⟨cw_X12_code, ini_X12, by decide +kernel⟩
theorem im_X12_code : Cond.instanceMethod yX12_code ∈ tb := tb_of 2189 (by decide +kernel) (by decide +kernel)
theorem se_X12_code : Cond.selects (yX12_code).cls yX12_code yX12_code ∈ tb := tb_of 2190 (by decide +kernel) (by decide +kernel)
theorem ml_L_118 : Cond.methodLink RL 118 yX12_code ∈ tb := tb_of 2188 (by decide +kernel) (by decide +kernel)
theorem sm_L_fix : Cond.static yL_fix ∈ tb := tb_of 1283 (by decide +kernel) (by decide +kernel)
theorem ml_L_119 : Cond.methodLink RL 119 yL_fix ∈ tb := tb_of 1282 (by decide +kernel) (by decide +kernel)
theorem cw_X12_fix : Cond.code yX12_fix cX12_fix 5 (some .int) ∈ tb := tb_of 2199 (by decide +kernel) (by decide +kernel)
theorem mw_X12_fix : MW yX12_fix cX12_fix 5 (some .int) 3 := ⟨cw_X12_fix, ini_X12, by decide +kernel⟩
theorem im_X12_fix : Cond.instanceMethod yX12_fix ∈ tb := tb_of 2197 (by decide +kernel) (by decide +kernel)
theorem se_X12_fix : Cond.selects (yX12_fix).cls yX12_fix yX12_fix ∈ tb := tb_of 2198 (by decide +kernel) (by decide +kernel)
theorem ml_L_122 : Cond.methodLink RL 122 yX12_fix ∈ tb := tb_of 2196 (by decide +kernel) (by decide +kernel)
theorem ml_L_123 : Cond.methodLink RL 123 yX11_clear ∈ tb := tb_of 543 (by decide +kernel) (by decide +kernel)
theorem ml_L_126 : Cond.methodLink RL 126 yX12_clear ∈ tb := tb_of 2200 (by decide +kernel) (by decide +kernel)
theorem cw_X11_clear : Cond.code yX11_clear cX11_clear 2 (some .int) ∈ tb := tb_of 546 (by decide +kernel) (by decide +kernel)
theorem mw_X11_clear : MW yX11_clear cX11_clear 2 (some .int) 0 := ⟨cw_X11_clear, ini_X11, by decide +kernel⟩
theorem im_X11_clear : Cond.instanceMethod yX11_clear ∈ tb := tb_of 544 (by decide +kernel) (by decide +kernel)
theorem se_X11_clear : Cond.selects (yX11_clear).cls yX11_clear yX11_clear ∈ tb := tb_of 545 (by decide +kernel) (by decide +kernel)
theorem cw_X12_clear : Cond.code yX12_clear cX12_clear 3 (some .int) ∈ tb := tb_of 2203 (by decide +kernel) (by decide +kernel)
theorem mw_X12_clear : MW yX12_clear cX12_clear 3 (some .int) 0 := ⟨cw_X12_clear, ini_X12, by decide +kernel⟩
theorem im_X12_clear : Cond.instanceMethod yX12_clear ∈ tb := tb_of 2201 (by decide +kernel) (by decide +kernel)
theorem se_X12_clear : Cond.selects (yX12_clear).cls yX12_clear yX12_clear ∈ tb := tb_of 2202 (by decide +kernel) (by decide +kernel)
theorem sm_L_verify : Cond.static yL_verify ∈ tb := tb_of 1290 (by decide +kernel) (by decide +kernel)
theorem ml_L_127 : Cond.methodLink RL 127 yL_verify ∈ tb := tb_of 1289 (by decide +kernel) (by decide +kernel)
theorem cw_X12_verify : Cond.code yX12_verify cX12_verify 4 (some .int) ∈ tb := tb_of 2207 (by decide +kernel) (by decide +kernel)
theorem mw_X12_verify : MW yX12_verify cX12_verify 4 (some .int) 0 := ⟨cw_X12_verify, ini_X12, by decide +kernel⟩
theorem im_X12_verify : Cond.instanceMethod yX12_verify ∈ tb := tb_of 2205 (by decide +kernel) (by decide +kernel)
theorem se_X12_verify : Cond.selects (yX12_verify).cls yX12_verify yX12_verify ∈ tb := tb_of 2206 (by decide +kernel) (by decide +kernel)
theorem ml_L_129 : Cond.methodLink RL 129 yX12_verify ∈ tb := tb_of 2204 (by decide +kernel) (by decide +kernel)
theorem sm_L_map : Cond.static yL_map ∈ tb := tb_of 1472 (by decide +kernel) (by decide +kernel)
theorem ml_L_130 : Cond.methodLink RL 130 yL_map ∈ tb := tb_of 1471 (by decide +kernel) (by decide +kernel)
theorem cw_X12_map : Cond.code yX12_map cX12_map 3 (some .int) ∈ tb := tb_of 2279 (by decide +kernel) (by decide +kernel)
theorem mw_X12_map : MW yX12_map cX12_map 3 (some .int) 2 := ⟨cw_X12_map, ini_X12, by decide +kernel⟩
theorem im_X12_map : Cond.instanceMethod yX12_map ∈ tb := tb_of 2277 (by decide +kernel) (by decide +kernel)
theorem se_X12_map : Cond.selects (yX12_map).cls yX12_map yX12_map ∈ tb := tb_of 2278 (by decide +kernel) (by decide +kernel)
theorem ml_L_132 : Cond.methodLink RL 132 yX12_map ∈ tb := tb_of 2276 (by decide +kernel) (by decide +kernel)
theorem sm_L_region : Cond.static yL_region ∈ tb := tb_of 1493 (by decide +kernel) (by decide +kernel)
theorem ml_L_133 : Cond.methodLink RL 133 yL_region ∈ tb := tb_of 1492 (by decide +kernel) (by decide +kernel)
theorem cw_X12_region : Cond.code yX12_region cX12_region 3 (some .int) ∈ tb := tb_of 2283 (by decide +kernel) (by decide +kernel)
theorem mw_X12_region : MW yX12_region cX12_region 3 (some .int) 2 := ⟨cw_X12_region, ini_X12, by decide +kernel⟩
theorem im_X12_region : Cond.instanceMethod yX12_region ∈ tb := tb_of 2281 (by decide +kernel) (by decide +kernel)
theorem se_X12_region : Cond.selects (yX12_region).cls yX12_region yX12_region ∈ tb := tb_of 2282 (by decide +kernel) (by decide +kernel)
theorem ml_L_135 : Cond.methodLink RL 135 yX12_region ∈ tb := tb_of 2280 (by decide +kernel) (by decide +kernel)
theorem sm_L_feed : Cond.static yL_feed ∈ tb := tb_of 1514 (by decide +kernel) (by decide +kernel)
theorem ml_L_136 : Cond.methodLink RL 136 yL_feed ∈ tb := tb_of 1513 (by decide +kernel) (by decide +kernel)
theorem cw_X12_feed : Cond.code yX12_feed cX12_feed 3 (some .int) ∈ tb := tb_of 2287 (by decide +kernel) (by decide +kernel)
theorem mw_X12_feed : MW yX12_feed cX12_feed 3 (some .int) 2 := ⟨cw_X12_feed, ini_X12, by decide +kernel⟩
theorem im_X12_feed : Cond.instanceMethod yX12_feed ∈ tb := tb_of 2285 (by decide +kernel) (by decide +kernel)
theorem se_X12_feed : Cond.selects (yX12_feed).cls yX12_feed yX12_feed ∈ tb := tb_of 2286 (by decide +kernel) (by decide +kernel)
theorem ml_L_138 : Cond.methodLink RL 138 yX12_feed ∈ tb := tb_of 2284 (by decide +kernel) (by decide +kernel)
theorem sm_L_drain : Cond.static yL_drain ∈ tb := tb_of 1532 (by decide +kernel) (by decide +kernel)
theorem ml_L_139 : Cond.methodLink RL 139 yL_drain ∈ tb := tb_of 1531 (by decide +kernel) (by decide +kernel)
theorem cw_X12_drain : Cond.code yX12_drain cX12_drain 3 (some .int) ∈ tb := tb_of 2291 (by decide +kernel) (by decide +kernel)
theorem mw_X12_drain : MW yX12_drain cX12_drain 3 (some .int) 1 := ⟨cw_X12_drain, ini_X12, by decide +kernel⟩
theorem im_X12_drain : Cond.instanceMethod yX12_drain ∈ tb := tb_of 2289 (by decide +kernel) (by decide +kernel)
theorem se_X12_drain : Cond.selects (yX12_drain).cls yX12_drain yX12_drain ∈ tb := tb_of 2290 (by decide +kernel) (by decide +kernel)
theorem ml_L_142 : Cond.methodLink RL 142 yX12_drain ∈ tb := tb_of 2288 (by decide +kernel) (by decide +kernel)
theorem sm_L_run : Cond.static yL_run ∈ tb := tb_of 1543 (by decide +kernel) (by decide +kernel)
theorem ml_L_143 : Cond.methodLink RL 143 yL_run ∈ tb := tb_of 1542 (by decide +kernel) (by decide +kernel)
theorem cw_X12_run : Cond.code yX12_run cX12_run 5 (some .int) ∈ tb := tb_of 2295 (by decide +kernel) (by decide +kernel)
theorem mw_X12_run : MW yX12_run cX12_run 5 (some .int) 1 := ⟨cw_X12_run, ini_X12, by decide +kernel⟩
theorem im_X12_run : Cond.instanceMethod yX12_run ∈ tb := tb_of 2293 (by decide +kernel) (by decide +kernel)
theorem se_X12_run : Cond.selects (yX12_run).cls yX12_run yX12_run ∈ tb := tb_of 2294 (by decide +kernel) (by decide +kernel)
theorem ml_L_145 : Cond.methodLink RL 145 yX12_run ∈ tb := tb_of 2292 (by decide +kernel) (by decide +kernel)
theorem sm_L_walk : Cond.static yL_walk ∈ tb := tb_of 1622 (by decide +kernel) (by decide +kernel)
theorem ml_L_146 : Cond.methodLink RL 146 yL_walk ∈ tb := tb_of 1621 (by decide +kernel) (by decide +kernel)
theorem cw_X12_walk : Cond.code yX12_walk cX12_walk 3 (some .int) ∈ tb := tb_of 2327 (by decide +kernel) (by decide +kernel)
theorem mw_X12_walk : MW yX12_walk cX12_walk 3 (some .int) 1 := ⟨cw_X12_walk, ini_X12, by decide +kernel⟩
theorem im_X12_walk : Cond.instanceMethod yX12_walk ∈ tb := tb_of 2325 (by decide +kernel) (by decide +kernel)
theorem se_X12_walk : Cond.selects (yX12_walk).cls yX12_walk yX12_walk ∈ tb := tb_of 2326 (by decide +kernel) (by decide +kernel)
theorem ml_L_148 : Cond.methodLink RL 148 yX12_walk ∈ tb := tb_of 2324 (by decide +kernel) (by decide +kernel)
theorem sm_L_output : Cond.static yL_output ∈ tb := tb_of 1665 (by decide +kernel) (by decide +kernel)
theorem ml_L_149 : Cond.methodLink RL 149 yL_output ∈ tb := tb_of 1664 (by decide +kernel) (by decide +kernel)
theorem cw_X12_output : Cond.code yX12_output cX12_output 3 (some .int) ∈ tb := tb_of 2347 (by decide +kernel) (by decide +kernel)
theorem mw_X12_output : MW yX12_output cX12_output 3 (some .int) 2 := ⟨cw_X12_output, ini_X12, by decide +kernel⟩
theorem im_X12_output : Cond.instanceMethod yX12_output ∈ tb := tb_of 2345 (by decide +kernel) (by decide +kernel)
theorem se_X12_output : Cond.selects (yX12_output).cls yX12_output yX12_output ∈ tb := tb_of 2346 (by decide +kernel) (by decide +kernel)
theorem ml_L_151 : Cond.methodLink RL 151 yX12_output ∈ tb := tb_of 2344 (by decide +kernel) (by decide +kernel)
theorem sm_L_value : Cond.static yL_value ∈ tb := tb_of 1681 (by decide +kernel) (by decide +kernel)
theorem ml_L_152 : Cond.methodLink RL 152 yL_value ∈ tb := tb_of 1680 (by decide +kernel) (by decide +kernel)
theorem cw_X12_value : Cond.code yX12_value cX12_value 2 (some .int) ∈ tb := tb_of 2351 (by decide +kernel) (by decide +kernel)
theorem mw_X12_value : MW yX12_value cX12_value 2 (some .int) 1 := ⟨cw_X12_value, ini_X12, by decide +kernel⟩
theorem im_X12_value : Cond.instanceMethod yX12_value ∈ tb := tb_of 2349 (by decide +kernel) (by decide +kernel)
theorem se_X12_value : Cond.selects (yX12_value).cls yX12_value yX12_value ∈ tb := tb_of 2350 (by decide +kernel) (by decide +kernel)
theorem ml_L_154 : Cond.methodLink RL 154 yX12_value ∈ tb := tb_of 2348 (by decide +kernel) (by decide +kernel)
theorem sm_L_instruction : Cond.static yL_instruction ∈ tb := tb_of 1692 (by decide +kernel) (by decide +kernel)
theorem ml_L_155 : Cond.methodLink RL 155 yL_instruction ∈ tb := tb_of 1691 (by decide +kernel) (by decide +kernel)
theorem cw_X12_instruction : Cond.code yX12_instruction cX12_instruction 3 (some .int) ∈ tb := tb_of 2355 (by decide +kernel) (by decide +kernel)
theorem mw_X12_instruction : MW yX12_instruction cX12_instruction 3 (some .int) 2 := ⟨cw_X12_instruction, ini_X12, by decide +kernel⟩
theorem im_X12_instruction : Cond.instanceMethod yX12_instruction ∈ tb := tb_of 2353 (by decide +kernel) (by decide +kernel)
theorem se_X12_instruction : Cond.selects (yX12_instruction).cls yX12_instruction yX12_instruction ∈ tb := tb_of 2354 (by decide +kernel) (by decide +kernel)
theorem ml_L_158 : Cond.methodLink RL 158 yX12_instruction ∈ tb := tb_of 2352 (by decide +kernel) (by decide +kernel)
theorem sm_L_count : Cond.static yL_count ∈ tb := tb_of 1700 (by decide +kernel) (by decide +kernel)
theorem ml_L_159 : Cond.methodLink RL 159 yL_count ∈ tb := tb_of 1699 (by decide +kernel) (by decide +kernel)
theorem cw_X12_count : Cond.code yX12_count cX12_count 2 (some .int) ∈ tb := tb_of 2359 (by decide +kernel) (by decide +kernel)
theorem mw_X12_count : MW yX12_count cX12_count 2 (some .int) 1 := ⟨cw_X12_count, ini_X12, by decide +kernel⟩
theorem im_X12_count : Cond.instanceMethod yX12_count ∈ tb := tb_of 2357 (by decide +kernel) (by decide +kernel)
theorem se_X12_count : Cond.selects (yX12_count).cls yX12_count yX12_count ∈ tb := tb_of 2358 (by decide +kernel) (by decide +kernel)
theorem ml_L_161 : Cond.methodLink RL 161 yX12_count ∈ tb := tb_of 2356 (by decide +kernel) (by decide +kernel)
/-! THE CLAIM OUT OF ONE WALK OF THE LAW'S BODY. Your part is whole_start (and what it stands on); all else here is the same for every law, but numbers. -/
def R_law : String := "FlowChainLaw"
def lw_P (b : Addr) (xs : List Int32) (args : Array Value) (s : State) : Prop := args = #[.ref b] ∧ s.IntsAt b xs ∧ xs.length ≤ 257 ∧ (Jvm.Cond.and given_1 narrow_1).before args s = true
def lw_Q (_ : Array Value) (s : State) (o : Outcome) (t : State) : Prop := o = .returned (some (.int 1)) ∧ Framed s o t [] 600128 7301064
def lw_Z (below : List Frame) (a : Array Value) (s : State) : State → Prop := fun t => ∃ o, t.status = .running ∧ Ended t below o ∧ lw_Q a s o t
/-- the law's own end, with 1 on the stack, nothing written that was there before, its room as the claim has it -/
theorem lw_ret {p : Program} {l : Launch} {e : Env} {s : State} {m : MethodId} {below : List Frame} {meth : Method} {c : Code} {b : Nat} (hx : p.tables.exec = Jvm.exec) (hb : c.code = code) (hr : meth.sig.returnType = ret) (hlocks : meth.locks = false) {pc : Nat} {H : Heap} {ls : Array Slot} (hdg : decode code pc = .ok (.ireturn, 1)) : W p l e room_1 s m #[Value.ref b] below meth c H [] 600128 7301064 (lw_Z below #[Value.ref b] s) (F0 m pc ls [.int 1]) := by
  intro T hT X
  obtain ⟨fs, hret, hrun, hended, hW, hframe⟩ := X.leave (v := some (.int 1)) (hlocks := hlocks) (fun h => by rw [hr] at h; cases h)
  have hmeth' : T.vm.method? m = some meth := X.method'
  refine ⟨T.setFrames fs, ?_, .returned (some (.int 1)), hrun, hended, rfl, ⟨_, rfl⟩, hW, hframe⟩
  jvm_step X.here [X.here.top, hx, hb, hdg, hmeth', hr, ret, narrow_b1]
  (try refine ⟨rfl, ?_⟩); (try refine ⟨rfl, ?_⟩)
  first | (intro acts; rw [hret _ acts rfl rfl rfl]) | rw [hret _ _ rfl rfl rfl]
  exact Steps.refl _
/-- what holds at the law's entry: the machine, the code, the tables' words (any of lw_tbl by 'hts w (by decide +kernel)'), the script of L ints xs at the cell b, what the Statement gives of the start (any of its parts by flat_of_before) -/
def lw_At (p : Program) (s : State) (m : MethodId) (meth : Method) (c : Code) (b L : Nat) (xs : Nat → Int32) : Prop :=
  p.tables.exec = Jvm.exec ∧ c.code = code ∧ meth.sig.returnType = ret ∧ c.maxLocals = 7 ∧ s.vm.findClass R_law = some m.cls ∧ (∀ w ∈ lw_tbl, w.before #[Value.ref b] s = true) ∧ va_X b L xs s s.heap ∧ b < s.heap.size ∧ meth.locks = false ∧ (Jvm.Cond.and given_1 narrow_1).before #[Value.ref b] s = true
theorem cmp_self (x : Int64) : lg_cmp x x = 0 := by
  unfold lg_cmp
  rw [if_neg (Int64.lt_irrefl), if_pos rfl]
theorem pic_lt {w : Wx} {n : Nat} {A : Al} {D : Dat} {H : Heap} (h : Pic w n A D H) {a : Nat} (ha : A.1 a < 19) : pp a < n := by
  have h1 := h.1
  have := (pic_at h ha 0 _ rfl).lt
  dsimp only at this
  omega
section RowsL
variable {X : Cx} {Q : State → Prop} {n : Nat} {A : Al} {D D' : Dat} {pc : Nat} {lv : List (Nat × Value)} {st rest : List Value} {cc : ByteArray} {own : String} {ret : Option FieldType} {Fr Lc b L : Nat} {ss : Nat → Int32}
theorem v_sld {i : Int32} (O : Ok X cc own ret Fr Lc) (hX : va_X b L ss (xs X) (xs X).heap) (hbl : b < (xs X).heap.size) (hbo : ¬ bo X ≤ b) (hin : ¬ (i < 0 ∨ L ≤ i.toNatClampNeg)) (d : decode cc pc = .ok (.iaload, 1)) (kk : V X Q n A D (pc + 1) lv (.int (ss i.toNatClampNeg) :: rest)) : V X Q n A D pc lv (.int i :: .ref b :: rest) := fun H locs cells slots ls h1 h2 h3 h4 h5 =>
  va_sld O.1 O.2.1 hX hbl hbo h2 hin d (kk H locs cells slots ls h1 h2 h3 h4 h5)
theorem v_slen (O : Ok X cc own ret Fr Lc) (hX : va_X b L ss (xs X) (xs X).heap) (hbl : b < (xs X).heap.size) (hbo : ¬ bo X ≤ b) (d : decode cc pc = .ok (.arraylength, 1)) (kk : V X Q n A D (pc + 1) lv (.int (Int32.ofNat L) :: rest)) : V X Q n A D pc lv (.ref b :: rest) := fun H locs cells slots ls h1 h2 h3 h4 h5 =>
  va_slen O.1 O.2.1 hX hbl hbo h2 d (kk H locs cells slots ls h1 h2 h3 h4 h5)
/-- the script's first int, 0 if there is none -/
def s0 (L : Nat) (ss : Nat → Int32) : Int32 := if Int32.ofNat L ≤ 0 then 0 else ss 0
theorem c_L_cell {l : Launch} {w : Wx} {n : Nat} {A : Al} {D : Dat} {b L : Nat} {ss : Nat → Int32} (hb : ¬ wb w ≤ b) (hL : L ≤ 257) : Met l yL_cell (Cond.code yL_cell cL_cell 2 (some .int) :: tb) { frames := 0, cells := 0, slots := 0, locals := 0 } (va_Pc [.ref b, .int 0] (fun U => wb w ≤ U.heap.size ∧ (Pic w n A D U.heap ∧ va_X b L ss U U.heap) ∧ KK w U)) (Qr w n A (some (.int (s0 L ss))) D) 0 0 (gb w) := by
  refine Met.ofW (cc := cL_cell) (maxL := 2) (ret := some .int) (by decide) rfl ?_
  intro p e s m args below meth c s₁ B hml hv
  obtain ⟨rfl, hge, ⟨hP, hX⟩, hK⟩ := hv
  have hts := atoms_spec (ws := Cond.code yL_cell cL_cell 2 (some .int) :: tb) B.pre
  let X : Cx := (p, l, e, { frames := 0, cells := 0, slots := 0, locals := 0 }, s, m, ([.ref b, .int 0] : List Value).toArray, below, meth, c, w, 2, A.2.2.1, A.2.2.2)
  have O : Ok X cL_cell RL (some .int) 0 0 := ⟨B.exec, B.bytes, hml, findClass_of_methodNamed B.named, fun w h => hts w (List.mem_cons_of_mem _ h), hK, Nat.le_refl _, Nat.le_refl _, B.notSynchronized, B.returns, hge⟩
  have hz : Z0 X A := ⟨rfl, rfl⟩
  have hbl : b < s.heap.size := by
    obtain ⟨scr, h1, -⟩ := hX
    exact (Array.getElem?_eq_some_iff.mp h1).1
  have h : V X (Q0 X n A (some (.int (s0 L ss))) D) n A D 0 [(0, .ref b), (1, .int 0)] [] := by
    unfold s0
    refine v_iload_n (pc := 0) O dL_cell_0 1 rfl ?_
    refine v_aload_n (pc := 1) O dL_cell_1 0 rfl ?_
    refine v_slen (pc := 2) O hX hbl hb dL_cell_2 ?_
    refine v_icmpge (pc := 3) 12 O dL_cell_3 (by decide) (fun c1 => ?_) (fun c1 => ?_)
    · rw [if_pos c1]
      refine v_iconst (pc := 12) O dL_cell_12 ic_0 ?_
      exact v_iret (pc := 13) O hz dL_cell_13
    · rw [if_neg c1]
      refine v_aload_n (pc := 6) O dL_cell_6 0 rfl ?_
      refine v_iload_n (pc := 7) O dL_cell_7 1 rfl ?_
      refine v_sld (pc := 8) O hX hbl hb (by
        intro q
        rcases q with q | q
        · exact absurd q (by decide)
        · have : L = 0 := by
            have : (0 : Int32).toNatClampNeg = 0 := by decide
            omega
          subst this
          exact c1 (by decide)) dL_cell_8 ?_
      refine v_goto (pc := 9) 13 O dL_cell_9 (by decide) ?_
      exact v_iret (pc := 13) O hz dL_cell_13
  rw [lg_entry_eq]
  exact h s.heap [] 0 0 _ hP va_S.rf (Nat.zero_add _) (Nat.zero_add _) (lv_entry [.ref b, .int 0] (Nat.le_of_ble_eq_true rfl))
theorem pc_blindX {w : Wx} {av : List Value} {P : Heap → Prop} {b L : Nat} {ss : Nat → Int32} : FrameBlind (va_Pc av (fun U => wb w ≤ U.heap.size ∧ (P U.heap ∧ va_X b L ss U U.heap) ∧ KK w U)) := fun a U g mk q => ⟨q.1, q.2.1, ⟨q.2.2.1.1, va_X.moved (u := U) (U := U.calling g mk a) (Vm.Alike.refl U.vm) q.2.2.1.2⟩, va_K.moved (u := U) (U := U.calling g mk a) (Vm.Alike.refl U.vm) q.2.2.2.1, OldP.moved (u := U) (U := U.calling g mk a) (State.WarmedH.refl U) q.2.2.2.2⟩
theorem v_cell (O : Ok X cc RL ret Fr Lc) (hB : BB X A) (hX : va_X b L ss (xs X) (xs X).heap) (hbl : b < (xs X).heap.size) (hbo : ¬ bo X ≤ b) (hL : L ≤ 257) (hR1 : 1 ≤ Fr) (hR2 : 21 ≤ Lc) (hW : (rest.map fun v => v.category).sum ≤ 8) (d : decode cc pc = .ok (.invokestatic 80, 3)) (kk : V X Q n A D (pc + 3) lv (.int (s0 L ss) :: rest)) : V X Q n A D pc lv (.int 0 :: .ref b :: rest) := by
  intro H locs cells slots ls h1 h2 h3 h4 h5
  have hts := O.2.2.2.2.1
  have hrun := va_runS (p := xp X) (l := xl X) (e := xe X) (R := xR X) (s := xs X) (m := xm X) (args := xa X) (below := xb X) (meth := xh X) (c := xc X) (H := H) (locs := locs) (cells := cells) (slots := slots) (g := F0 (xm X) pc ls ([Value.ref b, .int 0].reverse ++ rest)) (As := [.ref b, .int 0]) (rest := rest) (index := 80) (Ts := tb) ⟨O.1, O.2.1, O.2.2.1, O.2.2.2.1, hts⟩ (c_L_cell (n := n) (A := A) (D := D) (ss := ss) hbo hL)
    ⟨callB_of 2 hts (tb_in mw_L_cell.1) rfl rfl rfl (hts _ mw_L_cell.2.1) (hts _ ml_L_80) mw_L_cell.2.2 ⟨Nat.le_trans hR1 O.2.2.2.2.2.2.1, Nat.le_trans hR2 O.2.2.2.2.2.2.2.1⟩, hts _ sm_L_cell⟩
    ⟨pc_blindX (P := Pic (xw X) n A D), fun U hU hWm => ⟨rfl, by rw [hU]; exact Nat.le_trans O.2.2.2.2.2.2.2.2.2.2 h2.1, ⟨by rw [hU]; exact h1, by rw [hU]; exact (hX.kept (h2.2.1 b hbl hbo)).moved hWm.alike⟩, O.2.2.2.2.2.1.to hU hWm h2⟩⟩ rfl rfl h5.1 rfl (lv_room hW) d (bb_fit hB h3 h4)
  exact v_goes hrun h2 h3 h4 h5 kk
end RowsL
def Xlm (X : Cx) : Cx := (xp X, xl X, xe X, xR X, xs X, xm X, xa X, xb X, xh X, xc X, lmT (xw X), xn X, xC X, xU X)
theorem v_lm {X : Cx} {Q : State → Prop} {n : Nat} {A : Al} {D : Dat} {pc : Nat} {lv : List (Nat × Value)} {st : List Value} (hf : wlm (xw X) = false) (hl : ∀ a k, A.1 a < 13 → k < fN (A.1 a) → fty (A.1 a) k = 3 → dR D a k = lks a k) (kk : V (Xlm X) Q n A D pc lv st) : V X Q n A D pc lv st := fun H locs cells slots ls h1 h2 h3 h4 h5 => kk H locs cells slots ls (pic_lm h1 hf hl) h2 h3 h4 h5
def stp_0 (N nu n : Nat) (K : Nat → Nat) (D : Dat) (a1 a2 a3 : Int32) : Option ((Nat → Nat) × Dat) :=
  (f_L_below N nu K a1 a2 D).bind (fun p => (f_X12_below N a1 a2 p.2).bind (fun q => (f_X12_thrown q.2).bind (fun r => if r.1 = p.1 ∧ (p.1 = 0 → dL r.2 262 (0 : Int32).toNatClampNeg = q.1.toInt64) then some (K, r.2) else none)))
def stp_1 (N nu n : Nat) (K : Nat → Nat) (D : Dat) (a1 a2 a3 : Int32) : Option ((Nat → Nat) × Dat) :=
  (f_L_seal N nu K D).bind (fun p => (f_X12_seal N p.2).bind (fun q => (f_X12_thrown q.2).bind (fun r => if r.1 = p.1 ∧ (p.1 = 0 → dL r.2 262 (0 : Int32).toNatClampNeg = q.1.toInt64) then some (K, r.2) else none)))
def stp_2 (N nu n : Nat) (K : Nat → Nat) (D : Dat) (a1 a2 a3 : Int32) : Option ((Nat → Nat) × Dat) :=
  (f_L_label N nu K a1 a2 a3 D).bind (fun p => (f_X12_label a1 a2 a3 p.2).bind (fun q => (f_X12_thrown q.2).bind (fun r => if r.1 = p.1 ∧ (p.1 = 0 → dL r.2 262 (0 : Int32).toNatClampNeg = q.1.toInt64) then some (K, r.2) else none)))
def stp_3 (N nu n : Nat) (K : Nat → Nat) (D : Dat) (a1 a2 a3 : Int32) : Option ((Nat → Nat) × Dat) :=
  (f_L_append N nu K ((a1.toInt64 <<< ((32 : Int32).toInt64 &&& 63)) ||| (a2.toInt64 &&& 4294967295)) a3 D).bind (fun p => (f_X12_append N ((a1.toInt64 <<< ((32 : Int32).toInt64 &&& 63)) ||| (a2.toInt64 &&& 4294967295)) a3 p.2).bind (fun q => (f_X12_thrown q.2).bind (fun r => if r.1 = p.1 ∧ (p.1 = 0 → dL r.2 262 (0 : Int32).toNatClampNeg = q.1.toInt64) then some (K, r.2) else none)))
def stp_4 (N nu n : Nat) (K : Nat → Nat) (D : Dat) (a1 a2 a3 : Int32) : Option ((Nat → Nat) × Dat) :=
  (f_L_compile N nu n K D).bind (fun p => (f_X12_compile N p.2.2).bind (fun q => (f_X12_thrown q.2).bind (fun r => if r.1 = p.1 ∧ (p.1 = 0 → dL r.2 262 (0 : Int32).toNatClampNeg = q.1.toInt64) then some (p.2.1, r.2) else none)))
def stp_5 (N nu n : Nat) (K : Nat → Nat) (D : Dat) (a1 a2 a3 : Int32) : Option ((Nat → Nat) × Dat) :=
  (f_L_code N nu K a1 a2 D).bind (fun p => (f_X12_code a1 a2 p.2).bind (fun q => (f_X12_thrown q.2).bind (fun r => if r.1 = p.1 ∧ (p.1 = 0 → dL r.2 262 (0 : Int32).toNatClampNeg = q.1.toInt64) then some (K, r.2) else none)))
def stp_6 (N nu n : Nat) (K : Nat → Nat) (D : Dat) (a1 a2 a3 : Int32) : Option ((Nat → Nat) × Dat) :=
  (f_L_fix N nu K a1 (if a2 = 0 then (0 : Int32) else 1) a3 D).bind (fun p => (f_X12_fix a1 (if a2 = 0 then (0 : Int32) else 1) a3 p.2).bind (fun q => (f_X12_thrown q.2).bind (fun r => if r.1 = p.1 ∧ (p.1 = 0 → dL r.2 262 (0 : Int32).toNatClampNeg = q.1.toInt64) then some (K, r.2) else none)))
def stp_7 (N nu n : Nat) (K : Nat → Nat) (D : Dat) (a1 a2 a3 : Int32) : Option ((Nat → Nat) × Dat) :=
  (f_X11_clear N nu K D).bind (fun p => (f_X12_clear N p.2).bind (fun q => if p.1 = q.1 then some (K, q.2) else none))
def stp_8 (N nu n : Nat) (K : Nat → Nat) (D : Dat) (a1 a2 a3 : Int32) : Option ((Nat → Nat) × Dat) :=
  (f_L_verify N nu K D).bind (fun p => (f_X12_verify N p.2).bind (fun q => (f_X12_thrown q.2).bind (fun r => if r.1 = p.1 ∧ (p.1 = 0 → dL r.2 262 (0 : Int32).toNatClampNeg = q.1.toInt64) then some (K, r.2) else none)))
def stp_9 (N nu n : Nat) (K : Nat → Nat) (D : Dat) (a1 a2 a3 : Int32) : Option ((Nat → Nat) × Dat) :=
  (f_L_map N nu K a1 a2 D).bind (fun p => (f_X12_map a1 a2 p.2).bind (fun q => (f_X12_thrown q.2).bind (fun r => if r.1 = p.1 ∧ (p.1 = 0 → dL r.2 262 (0 : Int32).toNatClampNeg = q.1.toInt64) then some (K, r.2) else none)))
def stp_10 (N nu n : Nat) (K : Nat → Nat) (D : Dat) (a1 a2 a3 : Int32) : Option ((Nat → Nat) × Dat) :=
  (f_L_region N nu K a1 a2 D).bind (fun p => (f_X12_region a1 a2 p.2).bind (fun q => (f_X12_thrown q.2).bind (fun r => if r.1 = p.1 ∧ (p.1 = 0 → dL r.2 262 (0 : Int32).toNatClampNeg = q.1.toInt64) then some (K, r.2) else none)))
def stp_11 (N nu n : Nat) (K : Nat → Nat) (D : Dat) (a1 a2 a3 : Int32) : Option ((Nat → Nat) × Dat) :=
  (f_L_feed N nu K a1 a2 D).bind (fun p => (f_X12_feed a1 a2 p.2).bind (fun q => (f_X12_thrown q.2).bind (fun r => if r.1 = p.1 ∧ (p.1 = 0 → dL r.2 262 (0 : Int32).toNatClampNeg = q.1.toInt64) then some (K, r.2) else none)))
def stp_12 (N nu n : Nat) (K : Nat → Nat) (D : Dat) (a1 a2 a3 : Int32) : Option ((Nat → Nat) × Dat) :=
  (f_L_drain N nu K a1 D).bind (fun p => (f_X12_drain a1 p.2).bind (fun q => (f_X12_thrown q.2).bind (fun r => if r.1 = p.1 ∧ (p.1 = 0 → dL r.2 262 (0 : Int32).toNatClampNeg = q.1.toInt64) then some (K, r.2) else none)))
def stp_13 (N nu n : Nat) (K : Nat → Nat) (D : Dat) (a1 a2 a3 : Int32) : Option ((Nat → Nat) × Dat) :=
  (f_L_run N nu K a1 D).bind (fun p => (f_X12_run N a1 p.2).bind (fun q => (f_X12_thrown q.2).bind (fun r => if r.1 = p.1 ∧ (p.1 = 0 → dL r.2 262 (0 : Int32).toNatClampNeg = q.1.toInt64) then some (K, r.2) else none)))
def stp_14 (N nu n : Nat) (K : Nat → Nat) (D : Dat) (a1 a2 a3 : Int32) : Option ((Nat → Nat) × Dat) :=
  (f_L_walk N nu K a1 D).bind (fun p => (f_X12_walk N a1 p.2).bind (fun q => (f_X12_thrown q.2).bind (fun r => if r.1 = p.1 ∧ (p.1 = 0 → dL r.2 262 (0 : Int32).toNatClampNeg = q.1.toInt64) then some (K, r.2) else none)))
def stp_15 (N nu n : Nat) (K : Nat → Nat) (D : Dat) (a1 a2 a3 : Int32) : Option ((Nat → Nat) × Dat) :=
  (f_L_output N nu K a1 a2 D).bind (fun p => (f_X12_output a1 a2 p.2).bind (fun q => (f_X12_thrown q.2).bind (fun r => if r.1 = p.1 ∧ (p.1 = 0 → dL r.2 262 (0 : Int32).toNatClampNeg = q.1.toInt64) then some (K, r.2) else none)))
def stp_16 (N nu n : Nat) (K : Nat → Nat) (D : Dat) (a1 a2 a3 : Int32) : Option ((Nat → Nat) × Dat) :=
  (f_L_value N nu K a1 D).bind (fun p => (f_X12_value a1 p.2).bind (fun q => (f_X12_thrown q.2).bind (fun r => if r.1 = p.1 ∧ (p.1 = 0 → dL r.2 262 (0 : Int32).toNatClampNeg = q.1.toInt64) then some (K, r.2) else none)))
def stp_17 (N nu n : Nat) (K : Nat → Nat) (D : Dat) (a1 a2 a3 : Int32) : Option ((Nat → Nat) × Dat) :=
  (f_L_instruction N nu K a1 (if a2 = 0 then (0 : Int32) else 1) D).bind (fun p => (f_X12_instruction a1 (if a2 = 0 then (0 : Int32) else 1) p.2).bind (fun q => (f_X12_thrown q.2).bind (fun r => if r.1 = p.1 ∧ (p.1 = 0 → dL r.2 262 (0 : Int32).toNatClampNeg = q.1.toInt64) then some (K, r.2) else none)))
def stp_18 (N nu n : Nat) (K : Nat → Nat) (D : Dat) (a1 a2 a3 : Int32) : Option ((Nat → Nat) × Dat) :=
  (f_L_count N nu K a1 D).bind (fun p => (f_X12_count a1 p.2).bind (fun q => (f_X12_thrown q.2).bind (fun r => if r.1 = p.1 ∧ (p.1 = 0 → dL r.2 262 (0 : Int32).toNatClampNeg = q.1.toInt64) then some (K, r.2) else none)))
set_option maxHeartbeats 4000000 in
theorem lw_case0 {X : Cx} {Q : State → Prop} {b L N nu n c u : Nat} {ss : Nat → Int32} {K : Nat → Nat} {D : Dat} {i a1 a2 a3 : Int32} {K' : Nat → Nat} {D' : Dat} (O : Ok X cL_law RL (some .boolean) 2048 84000) (hm : wlm (xw X) = true) (hn : xn X = 7) (hl : (xl X).stackTraces = false) (hT : xC X ≤ (xR X).cells ∧ xU X ≤ (xR X).slots) (hX : va_X b L ss (xs X) (xs X).heap) (hbl : b < (xs X).heap.size) (hbo : ¬ bo X ≤ b) (h1 : ¬ (i + 1 < 0 ∨ L ≤ (i + 1).toNatClampNeg)) (g1 : ss (i + 1).toNatClampNeg = a1) (h2 : ¬ (i + 2 < 0 ∨ L ≤ (i + 2).toNatClampNeg)) (g2 : ss (i + 2).toNatClampNeg = a2) (h3 : ¬ (i + 3 < 0 ∨ L ≤ (i + 3).toNatClampNeg)) (g3 : ss (i + 3).toNatClampNeg = a3) (h : stp_0 N nu n K D a1 a2 a3 = some (K', D')) (hcu : 9200 ≤ c ∧ 112000 ≤ u)
    (kk : ∀ n' c' u', n ≤ n' → c - 9200 ≤ c' → u - 112000 ≤ u' → V X Q n' (Ax nu K' c' u') D' 1333 [(0, .ref b), (1, .ref (bo X + pp 0)), (2, .ref (bo X + pp 207)), (3, .ref (bo X + pp 262)), (4, .int i)] []) : V X Q n (Ax nu K c u) D 140 [(0, .ref b), (1, .ref (bo X + pp 0)), (2, .ref (bo X + pp 207)), (3, .ref (bo X + pp 262)), (4, .int i)] [] := by
  have hBB : ∀ {A : Al}, BB X A := ⟨Nat.le_trans hT.1 (Nat.le_add_right _ _), Nat.le_trans hT.2 (Nat.le_add_right _ _)⟩
  unfold stp_0 at h
  obtain ⟨p, e1, h⟩ := bind_some h
  obtain ⟨q, e2, h⟩ := bind_some h
  obtain ⟨r, e3, h⟩ := bind_some h
  obtain ⟨g, h⟩ := if_none h
  cases h
  refine v_aload_n (pc := 140) O dL_law_140 1 rfl ?_
  refine v_aload_n (pc := 141) O dL_law_141 0 rfl ?_
  refine v_iload (pc := 142) O dL_law_142 4 rfl ?_
  refine v_iconst (pc := 144) O dL_law_144 ic_1 ?_
  refine v_iadd (pc := 145) O dL_law_145 ?_
  refine v_sld (pc := 146) O hX hbl hbo h1 dL_law_146 ?_
  rw [g1]
  refine v_aload_n (pc := 147) O dL_law_147 0 rfl ?_
  refine v_iload (pc := 148) O dL_law_148 4 rfl ?_
  refine v_iconst (pc := 150) O dL_law_150 ic_2 ?_
  refine v_iadd (pc := 151) O dL_law_151 ?_
  refine v_sld (pc := 152) O hX hbl hbo h2 dL_law_152 ?_
  rw [g2]
  refine v_aload_n (pc := 153) O dL_law_153 3 rfl ?_
  refine v_call3S (pc := 154) (cm := 1) (um := 6) (As := [.ref (bo X + pp 0), .int a1, .int a2, .ref (bo X + pp 262)]) (rest := []) (r := (some (.int p.1))) (K' := K) (D' := p.2) O hT ⟨by omega, by omega⟩ (c_L_below (n := n) (nu := nu) (K := K) hl hm e1 :) mwh_L_below sm_L_below ml_L_92 rfl (Nat.le_of_ble_eq_true rfl) (Nat.le_of_ble_eq_true rfl) (Nat.le_of_ble_eq_true rfl) dL_law_154 rfl rfl (fun n1 k1 => ?_)
  refine v_istore (pc := 157) (lv' := [(5, .int p.1), (0, .ref b), (1, .ref (bo X + pp 0)), (2, .ref (bo X + pp 207)), (3, .ref (bo X + pp 262)), (4, .int i)]) O dL_law_157 (by rw [hn]; decide) rfl ?_
  refine v_aload_n (pc := 159) O dL_law_159 3 rfl ?_
  refine v_aload_n (pc := 160) O dL_law_160 1 rfl ?_
  refine v_iload (pc := 161) O dL_law_161 5 rfl ?_
  refine v_iconst (pc := 163) O dL_law_163 ic_1 ?_
  refine v_iadd (pc := 164) O dL_law_164 ?_
  refine v_sld (pc := 165) O hX hbl hbo h1 dL_law_165 ?_
  rw [g1]
  refine v_aload_n (pc := 166) O dL_law_166 1 rfl ?_
  refine v_iload (pc := 167) O dL_law_167 5 rfl ?_
  refine v_iconst (pc := 169) O dL_law_169 ic_2 ?_
  refine v_iadd (pc := 170) O dL_law_170 ?_
  refine v_sld (pc := 171) O hX hbl hbo h2 dL_law_171 ?_
  rw [g2]
  refine v_callV (pc := 172) (a := 207) (As := [.int a1, .int a2]) (rest := []) (r := (some (.int q.1))) (D' := q.2) O hBB (c_X12_below hm e2) mw_X12_below im_X12_below se_X12_below ml_L_95 kq_207 (by decide) rfl rfl rfl (Nat.le_of_ble_eq_true rfl) (Nat.le_of_ble_eq_true rfl) (Nat.le_of_ble_eq_true rfl) dL_law_172 rfl rfl ?_
  refine v_istore (pc := 175) (lv' := [(6, .int q.1), (5, .int p.1), (0, .ref b), (1, .ref (bo X + pp 0)), (2, .ref (bo X + pp 207)), (3, .ref (bo X + pp 262)), (4, .int i)]) O dL_law_175 (by rw [hn]; decide) rfl ?_
  refine v_aload_n (pc := 177) O dL_law_177 4 rfl ?_
  refine v_callV (pc := 178) (a := 207) (As := []) (rest := []) (r := (some (.int r.1))) (D' := r.2) O hBB (c_X12_thrown hm e3) mw_X12_thrown im_X12_thrown se_X12_thrown ml_L_96 kq_207 (by decide) rfl rfl rfl (Nat.le_of_ble_eq_true rfl) (Nat.le_of_ble_eq_true rfl) (Nat.le_of_ble_eq_true rfl) dL_law_178 rfl rfl ?_
  refine v_iload (pc := 181) O dL_law_181 1 rfl ?_
  refine v_icmpeq (pc := 183) 188 O dL_law_183 (by decide) (fun _ => ?_) (fun c9 => absurd g.1 c9)
  have fin : ∀ pc9, pc9 = 205 → V X Q n1 (Ax nu K (c - 1) (u - 6)) r.2 pc9 [(6, .int q.1), (5, .int p.1), (0, .ref b), (1, .ref (bo X + pp 0)), (2, .ref (bo X + pp 207)), (3, .ref (bo X + pp 262)), (4, .int i)] [] := by
    intro pc9 hpc9
    subst hpc9
    refine v_goto (pc := 205) 1333 O dL_law_205 (by decide) ?_
    refine v_sub [2, 3, 4, 5, 6] rfl ?_
    exact kk n1 (c - 1) (u - 6) k1 (by omega) (by omega)
  refine v_iload (pc := 188) O dL_law_188 1 rfl ?_
  refine v_ifne (pc := 190) 205 O dL_law_190 (by decide) (fun _ => fin _ rfl) (fun c8 => ?_)
  refine v_aload_n (pc := 193) O dL_law_193 5 rfl ?_
  refine v_iconst (pc := 194) O dL_law_194 ic_0 ?_
  refine v_lald (pc := 195) (a := 262) O kq_262 (inq lq_262 (by decide)) dL_law_195 ?_
  rw [g.2 c8]
  refine v_iload (pc := 196) O dL_law_196 0 rfl ?_
  refine v_i2l (pc := 198) O dL_law_198 ?_
  refine v_lcmp (pc := 199) O dL_law_199 ?_
  exact v_ifeq (pc := 200) 205 O dL_law_200 (by decide) (fun _ => fin _ rfl) (fun c9 => absurd (cmp_self _) c9)
set_option maxHeartbeats 4000000 in
theorem lw_case1 {X : Cx} {Q : State → Prop} {b L N nu n c u : Nat} {ss : Nat → Int32} {K : Nat → Nat} {D : Dat} {i a1 a2 a3 : Int32} {K' : Nat → Nat} {D' : Dat} (O : Ok X cL_law RL (some .boolean) 2048 84000) (hm : wlm (xw X) = true) (hn : xn X = 7) (hl : (xl X).stackTraces = false) (hT : xC X ≤ (xR X).cells ∧ xU X ≤ (xR X).slots) (hX : va_X b L ss (xs X) (xs X).heap) (hbl : b < (xs X).heap.size) (hbo : ¬ bo X ≤ b) (h1 : ¬ (i + 1 < 0 ∨ L ≤ (i + 1).toNatClampNeg)) (g1 : ss (i + 1).toNatClampNeg = a1) (h2 : ¬ (i + 2 < 0 ∨ L ≤ (i + 2).toNatClampNeg)) (g2 : ss (i + 2).toNatClampNeg = a2) (h3 : ¬ (i + 3 < 0 ∨ L ≤ (i + 3).toNatClampNeg)) (g3 : ss (i + 3).toNatClampNeg = a3) (h : stp_1 N nu n K D a1 a2 a3 = some (K', D')) (hcu : 9200 ≤ c ∧ 112000 ≤ u)
    (kk : ∀ n' c' u', n ≤ n' → c - 9200 ≤ c' → u - 112000 ≤ u' → V X Q n' (Ax nu K' c' u') D' 1333 [(0, .ref b), (1, .ref (bo X + pp 0)), (2, .ref (bo X + pp 207)), (3, .ref (bo X + pp 262)), (4, .int i)] []) : V X Q n (Ax nu K c u) D 208 [(0, .ref b), (1, .ref (bo X + pp 0)), (2, .ref (bo X + pp 207)), (3, .ref (bo X + pp 262)), (4, .int i)] [] := by
  have hBB : ∀ {A : Al}, BB X A := ⟨Nat.le_trans hT.1 (Nat.le_add_right _ _), Nat.le_trans hT.2 (Nat.le_add_right _ _)⟩
  unfold stp_1 at h
  obtain ⟨p, e1, h⟩ := bind_some h
  obtain ⟨q, e2, h⟩ := bind_some h
  obtain ⟨r, e3, h⟩ := bind_some h
  obtain ⟨g, h⟩ := if_none h
  cases h
  refine v_aload_n (pc := 208) O dL_law_208 1 rfl ?_
  refine v_aload_n (pc := 209) O dL_law_209 3 rfl ?_
  refine v_call3S (pc := 210) (cm := 1) (um := 6) (As := [.ref (bo X + pp 0), .ref (bo X + pp 262)]) (rest := []) (r := (some (.int p.1))) (K' := K) (D' := p.2) O hT ⟨by omega, by omega⟩ (c_L_seal (n := n) (nu := nu) (K := K) hl hm e1 :) mwh_L_seal sm_L_seal ml_L_99 rfl (Nat.le_of_ble_eq_true rfl) (Nat.le_of_ble_eq_true rfl) (Nat.le_of_ble_eq_true rfl) dL_law_210 rfl rfl (fun n1 k1 => ?_)
  refine v_istore (pc := 213) (lv' := [(5, .int p.1), (0, .ref b), (1, .ref (bo X + pp 0)), (2, .ref (bo X + pp 207)), (3, .ref (bo X + pp 262)), (4, .int i)]) O dL_law_213 (by rw [hn]; decide) rfl ?_
  refine v_aload_n (pc := 215) O dL_law_215 3 rfl ?_
  refine v_callV (pc := 216) (a := 207) (As := []) (rest := []) (r := (some (.int q.1))) (D' := q.2) O hBB (c_X12_seal hm e2) mw_X12_seal im_X12_seal se_X12_seal ml_L_102 kq_207 (by decide) rfl rfl rfl (Nat.le_of_ble_eq_true rfl) (Nat.le_of_ble_eq_true rfl) (Nat.le_of_ble_eq_true rfl) dL_law_216 rfl rfl ?_
  refine v_istore (pc := 219) (lv' := [(6, .int q.1), (5, .int p.1), (0, .ref b), (1, .ref (bo X + pp 0)), (2, .ref (bo X + pp 207)), (3, .ref (bo X + pp 262)), (4, .int i)]) O dL_law_219 (by rw [hn]; decide) rfl ?_
  refine v_aload_n (pc := 221) O dL_law_221 4 rfl ?_
  refine v_callV (pc := 222) (a := 207) (As := []) (rest := []) (r := (some (.int r.1))) (D' := r.2) O hBB (c_X12_thrown hm e3) mw_X12_thrown im_X12_thrown se_X12_thrown ml_L_96 kq_207 (by decide) rfl rfl rfl (Nat.le_of_ble_eq_true rfl) (Nat.le_of_ble_eq_true rfl) (Nat.le_of_ble_eq_true rfl) dL_law_222 rfl rfl ?_
  refine v_iload (pc := 225) O dL_law_225 1 rfl ?_
  refine v_icmpeq (pc := 227) 232 O dL_law_227 (by decide) (fun _ => ?_) (fun c9 => absurd g.1 c9)
  have fin : ∀ pc9, pc9 = 249 → V X Q n1 (Ax nu K (c - 1) (u - 6)) r.2 pc9 [(6, .int q.1), (5, .int p.1), (0, .ref b), (1, .ref (bo X + pp 0)), (2, .ref (bo X + pp 207)), (3, .ref (bo X + pp 262)), (4, .int i)] [] := by
    intro pc9 hpc9
    subst hpc9
    refine v_goto (pc := 249) 1333 O dL_law_249 (by decide) ?_
    refine v_sub [2, 3, 4, 5, 6] rfl ?_
    exact kk n1 (c - 1) (u - 6) k1 (by omega) (by omega)
  refine v_iload (pc := 232) O dL_law_232 1 rfl ?_
  refine v_ifne (pc := 234) 249 O dL_law_234 (by decide) (fun _ => fin _ rfl) (fun c8 => ?_)
  refine v_aload_n (pc := 237) O dL_law_237 5 rfl ?_
  refine v_iconst (pc := 238) O dL_law_238 ic_0 ?_
  refine v_lald (pc := 239) (a := 262) O kq_262 (inq lq_262 (by decide)) dL_law_239 ?_
  rw [g.2 c8]
  refine v_iload (pc := 240) O dL_law_240 0 rfl ?_
  refine v_i2l (pc := 242) O dL_law_242 ?_
  refine v_lcmp (pc := 243) O dL_law_243 ?_
  exact v_ifeq (pc := 244) 249 O dL_law_244 (by decide) (fun _ => fin _ rfl) (fun c9 => absurd (cmp_self _) c9)
set_option maxHeartbeats 4000000 in
theorem lw_case2 {X : Cx} {Q : State → Prop} {b L N nu n c u : Nat} {ss : Nat → Int32} {K : Nat → Nat} {D : Dat} {i a1 a2 a3 : Int32} {K' : Nat → Nat} {D' : Dat} (O : Ok X cL_law RL (some .boolean) 2048 84000) (hm : wlm (xw X) = true) (hn : xn X = 7) (hl : (xl X).stackTraces = false) (hT : xC X ≤ (xR X).cells ∧ xU X ≤ (xR X).slots) (hX : va_X b L ss (xs X) (xs X).heap) (hbl : b < (xs X).heap.size) (hbo : ¬ bo X ≤ b) (h1 : ¬ (i + 1 < 0 ∨ L ≤ (i + 1).toNatClampNeg)) (g1 : ss (i + 1).toNatClampNeg = a1) (h2 : ¬ (i + 2 < 0 ∨ L ≤ (i + 2).toNatClampNeg)) (g2 : ss (i + 2).toNatClampNeg = a2) (h3 : ¬ (i + 3 < 0 ∨ L ≤ (i + 3).toNatClampNeg)) (g3 : ss (i + 3).toNatClampNeg = a3) (h : stp_2 N nu n K D a1 a2 a3 = some (K', D')) (hcu : 9200 ≤ c ∧ 112000 ≤ u)
    (kk : ∀ n' c' u', n ≤ n' → c - 9200 ≤ c' → u - 112000 ≤ u' → V X Q n' (Ax nu K' c' u') D' 1333 [(0, .ref b), (1, .ref (bo X + pp 0)), (2, .ref (bo X + pp 207)), (3, .ref (bo X + pp 262)), (4, .int i)] []) : V X Q n (Ax nu K c u) D 252 [(0, .ref b), (1, .ref (bo X + pp 0)), (2, .ref (bo X + pp 207)), (3, .ref (bo X + pp 262)), (4, .int i)] [] := by
  have hBB : ∀ {A : Al}, BB X A := ⟨Nat.le_trans hT.1 (Nat.le_add_right _ _), Nat.le_trans hT.2 (Nat.le_add_right _ _)⟩
  unfold stp_2 at h
  obtain ⟨p, e1, h⟩ := bind_some h
  obtain ⟨q, e2, h⟩ := bind_some h
  obtain ⟨r, e3, h⟩ := bind_some h
  obtain ⟨g, h⟩ := if_none h
  cases h
  refine v_aload_n (pc := 252) O dL_law_252 1 rfl ?_
  refine v_aload_n (pc := 253) O dL_law_253 0 rfl ?_
  refine v_iload (pc := 254) O dL_law_254 4 rfl ?_
  refine v_iconst (pc := 256) O dL_law_256 ic_1 ?_
  refine v_iadd (pc := 257) O dL_law_257 ?_
  refine v_sld (pc := 258) O hX hbl hbo h1 dL_law_258 ?_
  rw [g1]
  refine v_aload_n (pc := 259) O dL_law_259 0 rfl ?_
  refine v_iload (pc := 260) O dL_law_260 4 rfl ?_
  refine v_iconst (pc := 262) O dL_law_262 ic_2 ?_
  refine v_iadd (pc := 263) O dL_law_263 ?_
  refine v_sld (pc := 264) O hX hbl hbo h2 dL_law_264 ?_
  rw [g2]
  refine v_aload_n (pc := 265) O dL_law_265 0 rfl ?_
  refine v_iload (pc := 266) O dL_law_266 4 rfl ?_
  refine v_iconst (pc := 268) O dL_law_268 ic_3 ?_
  refine v_iadd (pc := 269) O dL_law_269 ?_
  refine v_sld (pc := 270) O hX hbl hbo h3 dL_law_270 ?_
  rw [g3]
  refine v_aload_n (pc := 271) O dL_law_271 3 rfl ?_
  refine v_call3S (pc := 272) (cm := 1) (um := 6) (As := [.ref (bo X + pp 0), .int a1, .int a2, .int a3, .ref (bo X + pp 262)]) (rest := []) (r := (some (.int p.1))) (K' := K) (D' := p.2) O hT ⟨by omega, by omega⟩ (c_L_label (n := n) (nu := nu) (K := K) hl hm e1 :) mwh_L_label sm_L_label ml_L_103 rfl (Nat.le_of_ble_eq_true rfl) (Nat.le_of_ble_eq_true rfl) (Nat.le_of_ble_eq_true rfl) dL_law_272 rfl rfl (fun n1 k1 => ?_)
  refine v_istore (pc := 275) (lv' := [(5, .int p.1), (0, .ref b), (1, .ref (bo X + pp 0)), (2, .ref (bo X + pp 207)), (3, .ref (bo X + pp 262)), (4, .int i)]) O dL_law_275 (by rw [hn]; decide) rfl ?_
  refine v_aload_n (pc := 277) O dL_law_277 3 rfl ?_
  refine v_aload_n (pc := 278) O dL_law_278 1 rfl ?_
  refine v_iload (pc := 279) O dL_law_279 5 rfl ?_
  refine v_iconst (pc := 281) O dL_law_281 ic_1 ?_
  refine v_iadd (pc := 282) O dL_law_282 ?_
  refine v_sld (pc := 283) O hX hbl hbo h1 dL_law_283 ?_
  rw [g1]
  refine v_aload_n (pc := 284) O dL_law_284 1 rfl ?_
  refine v_iload (pc := 285) O dL_law_285 5 rfl ?_
  refine v_iconst (pc := 287) O dL_law_287 ic_2 ?_
  refine v_iadd (pc := 288) O dL_law_288 ?_
  refine v_sld (pc := 289) O hX hbl hbo h2 dL_law_289 ?_
  rw [g2]
  refine v_aload_n (pc := 290) O dL_law_290 1 rfl ?_
  refine v_iload (pc := 291) O dL_law_291 5 rfl ?_
  refine v_iconst (pc := 293) O dL_law_293 ic_3 ?_
  refine v_iadd (pc := 294) O dL_law_294 ?_
  refine v_sld (pc := 295) O hX hbl hbo h3 dL_law_295 ?_
  rw [g3]
  refine v_callV (pc := 296) (a := 207) (As := [.int a1, .int a2, .int a3]) (rest := []) (r := (some (.int q.1))) (D' := q.2) O hBB (c_X12_label hm e2) mw_X12_label im_X12_label se_X12_label ml_L_106 kq_207 (by decide) rfl rfl rfl (Nat.le_of_ble_eq_true rfl) (Nat.le_of_ble_eq_true rfl) (Nat.le_of_ble_eq_true rfl) dL_law_296 rfl rfl ?_
  refine v_istore (pc := 299) (lv' := [(6, .int q.1), (5, .int p.1), (0, .ref b), (1, .ref (bo X + pp 0)), (2, .ref (bo X + pp 207)), (3, .ref (bo X + pp 262)), (4, .int i)]) O dL_law_299 (by rw [hn]; decide) rfl ?_
  refine v_aload_n (pc := 301) O dL_law_301 4 rfl ?_
  refine v_callV (pc := 302) (a := 207) (As := []) (rest := []) (r := (some (.int r.1))) (D' := r.2) O hBB (c_X12_thrown hm e3) mw_X12_thrown im_X12_thrown se_X12_thrown ml_L_96 kq_207 (by decide) rfl rfl rfl (Nat.le_of_ble_eq_true rfl) (Nat.le_of_ble_eq_true rfl) (Nat.le_of_ble_eq_true rfl) dL_law_302 rfl rfl ?_
  refine v_iload (pc := 305) O dL_law_305 1 rfl ?_
  refine v_icmpeq (pc := 307) 312 O dL_law_307 (by decide) (fun _ => ?_) (fun c9 => absurd g.1 c9)
  have fin : ∀ pc9, pc9 = 329 → V X Q n1 (Ax nu K (c - 1) (u - 6)) r.2 pc9 [(6, .int q.1), (5, .int p.1), (0, .ref b), (1, .ref (bo X + pp 0)), (2, .ref (bo X + pp 207)), (3, .ref (bo X + pp 262)), (4, .int i)] [] := by
    intro pc9 hpc9
    subst hpc9
    refine v_goto (pc := 329) 1333 O dL_law_329 (by decide) ?_
    refine v_sub [2, 3, 4, 5, 6] rfl ?_
    exact kk n1 (c - 1) (u - 6) k1 (by omega) (by omega)
  refine v_iload (pc := 312) O dL_law_312 1 rfl ?_
  refine v_ifne (pc := 314) 329 O dL_law_314 (by decide) (fun _ => fin _ rfl) (fun c8 => ?_)
  refine v_aload_n (pc := 317) O dL_law_317 5 rfl ?_
  refine v_iconst (pc := 318) O dL_law_318 ic_0 ?_
  refine v_lald (pc := 319) (a := 262) O kq_262 (inq lq_262 (by decide)) dL_law_319 ?_
  rw [g.2 c8]
  refine v_iload (pc := 320) O dL_law_320 0 rfl ?_
  refine v_i2l (pc := 322) O dL_law_322 ?_
  refine v_lcmp (pc := 323) O dL_law_323 ?_
  exact v_ifeq (pc := 324) 329 O dL_law_324 (by decide) (fun _ => fin _ rfl) (fun c9 => absurd (cmp_self _) c9)
set_option maxHeartbeats 4000000 in
theorem lw_case3 {X : Cx} {Q : State → Prop} {b L N nu n c u : Nat} {ss : Nat → Int32} {K : Nat → Nat} {D : Dat} {i a1 a2 a3 : Int32} {K' : Nat → Nat} {D' : Dat} (O : Ok X cL_law RL (some .boolean) 2048 84000) (hm : wlm (xw X) = true) (hn : xn X = 7) (hl : (xl X).stackTraces = false) (hT : xC X ≤ (xR X).cells ∧ xU X ≤ (xR X).slots) (hX : va_X b L ss (xs X) (xs X).heap) (hbl : b < (xs X).heap.size) (hbo : ¬ bo X ≤ b) (h1 : ¬ (i + 1 < 0 ∨ L ≤ (i + 1).toNatClampNeg)) (g1 : ss (i + 1).toNatClampNeg = a1) (h2 : ¬ (i + 2 < 0 ∨ L ≤ (i + 2).toNatClampNeg)) (g2 : ss (i + 2).toNatClampNeg = a2) (h3 : ¬ (i + 3 < 0 ∨ L ≤ (i + 3).toNatClampNeg)) (g3 : ss (i + 3).toNatClampNeg = a3) (h : stp_3 N nu n K D a1 a2 a3 = some (K', D')) (hcu : 9200 ≤ c ∧ 112000 ≤ u)
    (kk : ∀ n' c' u', n ≤ n' → c - 9200 ≤ c' → u - 112000 ≤ u' → V X Q n' (Ax nu K' c' u') D' 1333 [(0, .ref b), (1, .ref (bo X + pp 0)), (2, .ref (bo X + pp 207)), (3, .ref (bo X + pp 262)), (4, .int i)] []) : V X Q n (Ax nu K c u) D 332 [(0, .ref b), (1, .ref (bo X + pp 0)), (2, .ref (bo X + pp 207)), (3, .ref (bo X + pp 262)), (4, .int i)] [] := by
  have hBB : ∀ {A : Al}, BB X A := ⟨Nat.le_trans hT.1 (Nat.le_add_right _ _), Nat.le_trans hT.2 (Nat.le_add_right _ _)⟩
  unfold stp_3 at h
  obtain ⟨p, e1, h⟩ := bind_some h
  obtain ⟨q, e2, h⟩ := bind_some h
  obtain ⟨r, e3, h⟩ := bind_some h
  obtain ⟨g, h⟩ := if_none h
  cases h
  refine v_aload_n (pc := 332) O dL_law_332 1 rfl ?_
  refine v_aload_n (pc := 333) O dL_law_333 0 rfl ?_
  refine v_iload (pc := 334) O dL_law_334 4 rfl ?_
  refine v_iconst (pc := 336) O dL_law_336 ic_1 ?_
  refine v_iadd (pc := 337) O dL_law_337 ?_
  refine v_sld (pc := 338) O hX hbl hbo h1 dL_law_338 ?_
  rw [g1]
  refine v_i2l (pc := 339) O dL_law_339 ?_
  refine v_bipush (pc := 340) O dL_law_340 bp_32 ?_
  refine v_lshl (pc := 342) O dL_law_342 ?_
  refine v_aload_n (pc := 343) O dL_law_343 0 rfl ?_
  refine v_iload (pc := 344) O dL_law_344 4 rfl ?_
  refine v_iconst (pc := 346) O dL_law_346 ic_2 ?_
  refine v_iadd (pc := 347) O dL_law_347 ?_
  refine v_sld (pc := 348) O hX hbl hbo h2 dL_law_348 ?_
  rw [g2]
  refine v_i2l (pc := 349) O dL_law_349 ?_
  refine v_ldc2 (pc := 350) O dL_law_350 cl_L_107 ?_
  refine v_land (pc := 353) O dL_law_353 ?_
  refine v_lor (pc := 354) O dL_law_354 ?_
  refine v_aload_n (pc := 355) O dL_law_355 0 rfl ?_
  refine v_iload (pc := 356) O dL_law_356 4 rfl ?_
  refine v_iconst (pc := 358) O dL_law_358 ic_3 ?_
  refine v_iadd (pc := 359) O dL_law_359 ?_
  refine v_sld (pc := 360) O hX hbl hbo h3 dL_law_360 ?_
  rw [g3]
  refine v_aload_n (pc := 361) O dL_law_361 3 rfl ?_
  refine v_call3S (pc := 362) (cm := 1) (um := 6) (As := [.ref (bo X + pp 0), .long ((a1.toInt64 <<< ((32 : Int32).toInt64 &&& 63)) ||| (a2.toInt64 &&& 4294967295)), .int a3, .ref (bo X + pp 262)]) (rest := []) (r := (some (.int p.1))) (K' := K) (D' := p.2) O hT ⟨by omega, by omega⟩ (c_L_append (n := n) (nu := nu) (K := K) hl hm e1 :) mwh_L_append sm_L_append ml_L_109 rfl (Nat.le_of_ble_eq_true rfl) (Nat.le_of_ble_eq_true rfl) (Nat.le_of_ble_eq_true rfl) dL_law_362 rfl rfl (fun n1 k1 => ?_)
  refine v_istore (pc := 365) (lv' := [(5, .int p.1), (0, .ref b), (1, .ref (bo X + pp 0)), (2, .ref (bo X + pp 207)), (3, .ref (bo X + pp 262)), (4, .int i)]) O dL_law_365 (by rw [hn]; decide) rfl ?_
  refine v_aload_n (pc := 367) O dL_law_367 3 rfl ?_
  refine v_aload_n (pc := 368) O dL_law_368 1 rfl ?_
  refine v_iload (pc := 369) O dL_law_369 5 rfl ?_
  refine v_iconst (pc := 371) O dL_law_371 ic_1 ?_
  refine v_iadd (pc := 372) O dL_law_372 ?_
  refine v_sld (pc := 373) O hX hbl hbo h1 dL_law_373 ?_
  rw [g1]
  refine v_i2l (pc := 374) O dL_law_374 ?_
  refine v_bipush (pc := 375) O dL_law_375 bp_32 ?_
  refine v_lshl (pc := 377) O dL_law_377 ?_
  refine v_aload_n (pc := 378) O dL_law_378 1 rfl ?_
  refine v_iload (pc := 379) O dL_law_379 5 rfl ?_
  refine v_iconst (pc := 381) O dL_law_381 ic_2 ?_
  refine v_iadd (pc := 382) O dL_law_382 ?_
  refine v_sld (pc := 383) O hX hbl hbo h2 dL_law_383 ?_
  rw [g2]
  refine v_i2l (pc := 384) O dL_law_384 ?_
  refine v_ldc2 (pc := 385) O dL_law_385 cl_L_107 ?_
  refine v_land (pc := 388) O dL_law_388 ?_
  refine v_lor (pc := 389) O dL_law_389 ?_
  refine v_aload_n (pc := 390) O dL_law_390 1 rfl ?_
  refine v_iload (pc := 391) O dL_law_391 5 rfl ?_
  refine v_iconst (pc := 393) O dL_law_393 ic_3 ?_
  refine v_iadd (pc := 394) O dL_law_394 ?_
  refine v_sld (pc := 395) O hX hbl hbo h3 dL_law_395 ?_
  rw [g3]
  refine v_callV (pc := 396) (a := 207) (As := [.long ((a1.toInt64 <<< ((32 : Int32).toInt64 &&& 63)) ||| (a2.toInt64 &&& 4294967295)), .int a3]) (rest := []) (r := (some (.int q.1))) (D' := q.2) O hBB (c_X12_append hm e2) mw_X12_append im_X12_append se_X12_append ml_L_112 kq_207 (by decide) rfl rfl rfl (Nat.le_of_ble_eq_true rfl) (Nat.le_of_ble_eq_true rfl) (Nat.le_of_ble_eq_true rfl) dL_law_396 rfl rfl ?_
  refine v_istore (pc := 399) (lv' := [(6, .int q.1), (5, .int p.1), (0, .ref b), (1, .ref (bo X + pp 0)), (2, .ref (bo X + pp 207)), (3, .ref (bo X + pp 262)), (4, .int i)]) O dL_law_399 (by rw [hn]; decide) rfl ?_
  refine v_aload_n (pc := 401) O dL_law_401 4 rfl ?_
  refine v_callV (pc := 402) (a := 207) (As := []) (rest := []) (r := (some (.int r.1))) (D' := r.2) O hBB (c_X12_thrown hm e3) mw_X12_thrown im_X12_thrown se_X12_thrown ml_L_96 kq_207 (by decide) rfl rfl rfl (Nat.le_of_ble_eq_true rfl) (Nat.le_of_ble_eq_true rfl) (Nat.le_of_ble_eq_true rfl) dL_law_402 rfl rfl ?_
  refine v_iload (pc := 405) O dL_law_405 1 rfl ?_
  refine v_icmpeq (pc := 407) 412 O dL_law_407 (by decide) (fun _ => ?_) (fun c9 => absurd g.1 c9)
  have fin : ∀ pc9, pc9 = 429 → V X Q n1 (Ax nu K (c - 1) (u - 6)) r.2 pc9 [(6, .int q.1), (5, .int p.1), (0, .ref b), (1, .ref (bo X + pp 0)), (2, .ref (bo X + pp 207)), (3, .ref (bo X + pp 262)), (4, .int i)] [] := by
    intro pc9 hpc9
    subst hpc9
    refine v_goto (pc := 429) 1333 O dL_law_429 (by decide) ?_
    refine v_sub [2, 3, 4, 5, 6] rfl ?_
    exact kk n1 (c - 1) (u - 6) k1 (by omega) (by omega)
  refine v_iload (pc := 412) O dL_law_412 1 rfl ?_
  refine v_ifne (pc := 414) 429 O dL_law_414 (by decide) (fun _ => fin _ rfl) (fun c8 => ?_)
  refine v_aload_n (pc := 417) O dL_law_417 5 rfl ?_
  refine v_iconst (pc := 418) O dL_law_418 ic_0 ?_
  refine v_lald (pc := 419) (a := 262) O kq_262 (inq lq_262 (by decide)) dL_law_419 ?_
  rw [g.2 c8]
  refine v_iload (pc := 420) O dL_law_420 0 rfl ?_
  refine v_i2l (pc := 422) O dL_law_422 ?_
  refine v_lcmp (pc := 423) O dL_law_423 ?_
  exact v_ifeq (pc := 424) 429 O dL_law_424 (by decide) (fun _ => fin _ rfl) (fun c9 => absurd (cmp_self _) c9)
set_option maxHeartbeats 4000000 in
theorem lw_case4 {X : Cx} {Q : State → Prop} {b L N nu n c u : Nat} {ss : Nat → Int32} {K : Nat → Nat} {D : Dat} {i a1 a2 a3 : Int32} {K' : Nat → Nat} {D' : Dat} (O : Ok X cL_law RL (some .boolean) 2048 84000) (hm : wlm (xw X) = true) (hn : xn X = 7) (hl : (xl X).stackTraces = false) (hT : xC X ≤ (xR X).cells ∧ xU X ≤ (xR X).slots) (hX : va_X b L ss (xs X) (xs X).heap) (hbl : b < (xs X).heap.size) (hbo : ¬ bo X ≤ b) (h1 : ¬ (i + 1 < 0 ∨ L ≤ (i + 1).toNatClampNeg)) (g1 : ss (i + 1).toNatClampNeg = a1) (h2 : ¬ (i + 2 < 0 ∨ L ≤ (i + 2).toNatClampNeg)) (g2 : ss (i + 2).toNatClampNeg = a2) (h3 : ¬ (i + 3 < 0 ∨ L ≤ (i + 3).toNatClampNeg)) (g3 : ss (i + 3).toNatClampNeg = a3) (h : stp_4 N nu n K D a1 a2 a3 = some (K', D')) (hcu : 9200 ≤ c ∧ 112000 ≤ u)
    (kk : ∀ n' c' u', n ≤ n' → c - 9200 ≤ c' → u - 112000 ≤ u' → V X Q n' (Ax nu K' c' u') D' 1333 [(0, .ref b), (1, .ref (bo X + pp 0)), (2, .ref (bo X + pp 207)), (3, .ref (bo X + pp 262)), (4, .int i)] []) : V X Q n (Ax nu K c u) D 432 [(0, .ref b), (1, .ref (bo X + pp 0)), (2, .ref (bo X + pp 207)), (3, .ref (bo X + pp 262)), (4, .int i)] [] := by
  have hBB : ∀ {A : Al}, BB X A := ⟨Nat.le_trans hT.1 (Nat.le_add_right _ _), Nat.le_trans hT.2 (Nat.le_add_right _ _)⟩
  unfold stp_4 at h
  obtain ⟨p, e1, h⟩ := bind_some h
  obtain ⟨q, e2, h⟩ := bind_some h
  obtain ⟨r, e3, h⟩ := bind_some h
  obtain ⟨g, h⟩ := if_none h
  cases h
  refine v_aload_n (pc := 432) O dL_law_432 1 rfl ?_
  refine v_aload_n (pc := 433) O dL_law_433 3 rfl ?_
  refine v_call3S (pc := 434) (cm := 9200) (um := 112000) (As := [.ref (bo X + pp 0), .ref (bo X + pp 262)]) (rest := []) (r := (some (.int p.1))) (K' := p.2.1) (D' := p.2.2) O hT ⟨by omega, by omega⟩ (c_L_compile (n := n) (nu := nu) (K := K) hl hm e1 :) mwh_L_compile sm_L_compile ml_L_113 rfl (Nat.le_of_ble_eq_true rfl) (Nat.le_of_ble_eq_true rfl) (Nat.le_of_ble_eq_true rfl) dL_law_434 rfl rfl (fun n1 k1 => ?_)
  refine v_istore (pc := 437) (lv' := [(5, .int p.1), (0, .ref b), (1, .ref (bo X + pp 0)), (2, .ref (bo X + pp 207)), (3, .ref (bo X + pp 262)), (4, .int i)]) O dL_law_437 (by rw [hn]; decide) rfl ?_
  refine v_aload_n (pc := 439) O dL_law_439 3 rfl ?_
  refine v_callV (pc := 440) (a := 207) (As := []) (rest := []) (r := (some (.int q.1))) (D' := q.2) O hBB (c_X12_compile hm e2) mw_X12_compile im_X12_compile se_X12_compile ml_L_115 kq_207 (by decide) rfl rfl rfl (Nat.le_of_ble_eq_true rfl) (Nat.le_of_ble_eq_true rfl) (Nat.le_of_ble_eq_true rfl) dL_law_440 rfl rfl ?_
  refine v_istore (pc := 443) (lv' := [(6, .int q.1), (5, .int p.1), (0, .ref b), (1, .ref (bo X + pp 0)), (2, .ref (bo X + pp 207)), (3, .ref (bo X + pp 262)), (4, .int i)]) O dL_law_443 (by rw [hn]; decide) rfl ?_
  refine v_aload_n (pc := 445) O dL_law_445 4 rfl ?_
  refine v_callV (pc := 446) (a := 207) (As := []) (rest := []) (r := (some (.int r.1))) (D' := r.2) O hBB (c_X12_thrown hm e3) mw_X12_thrown im_X12_thrown se_X12_thrown ml_L_96 kq_207 (by decide) rfl rfl rfl (Nat.le_of_ble_eq_true rfl) (Nat.le_of_ble_eq_true rfl) (Nat.le_of_ble_eq_true rfl) dL_law_446 rfl rfl ?_
  refine v_iload (pc := 449) O dL_law_449 1 rfl ?_
  refine v_icmpeq (pc := 451) 456 O dL_law_451 (by decide) (fun _ => ?_) (fun c9 => absurd g.1 c9)
  have fin : ∀ pc9, pc9 = 473 → V X Q n1 (Ax nu p.2.1 (c - 9200) (u - 112000)) r.2 pc9 [(6, .int q.1), (5, .int p.1), (0, .ref b), (1, .ref (bo X + pp 0)), (2, .ref (bo X + pp 207)), (3, .ref (bo X + pp 262)), (4, .int i)] [] := by
    intro pc9 hpc9
    subst hpc9
    refine v_goto (pc := 473) 1333 O dL_law_473 (by decide) ?_
    refine v_sub [2, 3, 4, 5, 6] rfl ?_
    exact kk n1 (c - 9200) (u - 112000) k1 (by omega) (by omega)
  refine v_iload (pc := 456) O dL_law_456 1 rfl ?_
  refine v_ifne (pc := 458) 473 O dL_law_458 (by decide) (fun _ => fin _ rfl) (fun c8 => ?_)
  refine v_aload_n (pc := 461) O dL_law_461 5 rfl ?_
  refine v_iconst (pc := 462) O dL_law_462 ic_0 ?_
  refine v_lald (pc := 463) (a := 262) O kq_262 (inq lq_262 (by decide)) dL_law_463 ?_
  rw [g.2 c8]
  refine v_iload (pc := 464) O dL_law_464 0 rfl ?_
  refine v_i2l (pc := 466) O dL_law_466 ?_
  refine v_lcmp (pc := 467) O dL_law_467 ?_
  exact v_ifeq (pc := 468) 473 O dL_law_468 (by decide) (fun _ => fin _ rfl) (fun c9 => absurd (cmp_self _) c9)
set_option maxHeartbeats 4000000 in
theorem lw_case5 {X : Cx} {Q : State → Prop} {b L N nu n c u : Nat} {ss : Nat → Int32} {K : Nat → Nat} {D : Dat} {i a1 a2 a3 : Int32} {K' : Nat → Nat} {D' : Dat} (O : Ok X cL_law RL (some .boolean) 2048 84000) (hm : wlm (xw X) = true) (hn : xn X = 7) (hl : (xl X).stackTraces = false) (hT : xC X ≤ (xR X).cells ∧ xU X ≤ (xR X).slots) (hX : va_X b L ss (xs X) (xs X).heap) (hbl : b < (xs X).heap.size) (hbo : ¬ bo X ≤ b) (h1 : ¬ (i + 1 < 0 ∨ L ≤ (i + 1).toNatClampNeg)) (g1 : ss (i + 1).toNatClampNeg = a1) (h2 : ¬ (i + 2 < 0 ∨ L ≤ (i + 2).toNatClampNeg)) (g2 : ss (i + 2).toNatClampNeg = a2) (h3 : ¬ (i + 3 < 0 ∨ L ≤ (i + 3).toNatClampNeg)) (g3 : ss (i + 3).toNatClampNeg = a3) (h : stp_5 N nu n K D a1 a2 a3 = some (K', D')) (hcu : 9200 ≤ c ∧ 112000 ≤ u)
    (kk : ∀ n' c' u', n ≤ n' → c - 9200 ≤ c' → u - 112000 ≤ u' → V X Q n' (Ax nu K' c' u') D' 1333 [(0, .ref b), (1, .ref (bo X + pp 0)), (2, .ref (bo X + pp 207)), (3, .ref (bo X + pp 262)), (4, .int i)] []) : V X Q n (Ax nu K c u) D 476 [(0, .ref b), (1, .ref (bo X + pp 0)), (2, .ref (bo X + pp 207)), (3, .ref (bo X + pp 262)), (4, .int i)] [] := by
  have hBB : ∀ {A : Al}, BB X A := ⟨Nat.le_trans hT.1 (Nat.le_add_right _ _), Nat.le_trans hT.2 (Nat.le_add_right _ _)⟩
  unfold stp_5 at h
  obtain ⟨p, e1, h⟩ := bind_some h
  obtain ⟨q, e2, h⟩ := bind_some h
  obtain ⟨r, e3, h⟩ := bind_some h
  obtain ⟨g, h⟩ := if_none h
  cases h
  refine v_aload_n (pc := 476) O dL_law_476 1 rfl ?_
  refine v_aload_n (pc := 477) O dL_law_477 0 rfl ?_
  refine v_iload (pc := 478) O dL_law_478 4 rfl ?_
  refine v_iconst (pc := 480) O dL_law_480 ic_1 ?_
  refine v_iadd (pc := 481) O dL_law_481 ?_
  refine v_sld (pc := 482) O hX hbl hbo h1 dL_law_482 ?_
  rw [g1]
  refine v_aload_n (pc := 483) O dL_law_483 0 rfl ?_
  refine v_iload (pc := 484) O dL_law_484 4 rfl ?_
  refine v_iconst (pc := 486) O dL_law_486 ic_2 ?_
  refine v_iadd (pc := 487) O dL_law_487 ?_
  refine v_sld (pc := 488) O hX hbl hbo h2 dL_law_488 ?_
  rw [g2]
  refine v_aload_n (pc := 489) O dL_law_489 3 rfl ?_
  refine v_call3S (pc := 490) (cm := 1) (um := 6) (As := [.ref (bo X + pp 0), .int a1, .int a2, .ref (bo X + pp 262)]) (rest := []) (r := (some (.int p.1))) (K' := K) (D' := p.2) O hT ⟨by omega, by omega⟩ (c_L_code (n := n) (nu := nu) (K := K) hl hm e1 :) mwh_L_code sm_L_code ml_L_116 rfl (Nat.le_of_ble_eq_true rfl) (Nat.le_of_ble_eq_true rfl) (Nat.le_of_ble_eq_true rfl) dL_law_490 rfl rfl (fun n1 k1 => ?_)
  refine v_istore (pc := 493) (lv' := [(5, .int p.1), (0, .ref b), (1, .ref (bo X + pp 0)), (2, .ref (bo X + pp 207)), (3, .ref (bo X + pp 262)), (4, .int i)]) O dL_law_493 (by rw [hn]; decide) rfl ?_
  refine v_aload_n (pc := 495) O dL_law_495 3 rfl ?_
  refine v_aload_n (pc := 496) O dL_law_496 1 rfl ?_
  refine v_iload (pc := 497) O dL_law_497 5 rfl ?_
  refine v_iconst (pc := 499) O dL_law_499 ic_1 ?_
  refine v_iadd (pc := 500) O dL_law_500 ?_
  refine v_sld (pc := 501) O hX hbl hbo h1 dL_law_501 ?_
  rw [g1]
  refine v_aload_n (pc := 502) O dL_law_502 1 rfl ?_
  refine v_iload (pc := 503) O dL_law_503 5 rfl ?_
  refine v_iconst (pc := 505) O dL_law_505 ic_2 ?_
  refine v_iadd (pc := 506) O dL_law_506 ?_
  refine v_sld (pc := 507) O hX hbl hbo h2 dL_law_507 ?_
  rw [g2]
  refine v_callV (pc := 508) (a := 207) (As := [.int a1, .int a2]) (rest := []) (r := (some (.int q.1))) (D' := q.2) O hBB (c_X12_code hm e2) mw_X12_code im_X12_code se_X12_code ml_L_118 kq_207 (by decide) rfl rfl rfl (Nat.le_of_ble_eq_true rfl) (Nat.le_of_ble_eq_true rfl) (Nat.le_of_ble_eq_true rfl) dL_law_508 rfl rfl ?_
  refine v_istore (pc := 511) (lv' := [(6, .int q.1), (5, .int p.1), (0, .ref b), (1, .ref (bo X + pp 0)), (2, .ref (bo X + pp 207)), (3, .ref (bo X + pp 262)), (4, .int i)]) O dL_law_511 (by rw [hn]; decide) rfl ?_
  refine v_aload_n (pc := 513) O dL_law_513 4 rfl ?_
  refine v_callV (pc := 514) (a := 207) (As := []) (rest := []) (r := (some (.int r.1))) (D' := r.2) O hBB (c_X12_thrown hm e3) mw_X12_thrown im_X12_thrown se_X12_thrown ml_L_96 kq_207 (by decide) rfl rfl rfl (Nat.le_of_ble_eq_true rfl) (Nat.le_of_ble_eq_true rfl) (Nat.le_of_ble_eq_true rfl) dL_law_514 rfl rfl ?_
  refine v_iload (pc := 517) O dL_law_517 1 rfl ?_
  refine v_icmpeq (pc := 519) 524 O dL_law_519 (by decide) (fun _ => ?_) (fun c9 => absurd g.1 c9)
  have fin : ∀ pc9, pc9 = 541 → V X Q n1 (Ax nu K (c - 1) (u - 6)) r.2 pc9 [(6, .int q.1), (5, .int p.1), (0, .ref b), (1, .ref (bo X + pp 0)), (2, .ref (bo X + pp 207)), (3, .ref (bo X + pp 262)), (4, .int i)] [] := by
    intro pc9 hpc9
    subst hpc9
    refine v_goto (pc := 541) 1333 O dL_law_541 (by decide) ?_
    refine v_sub [2, 3, 4, 5, 6] rfl ?_
    exact kk n1 (c - 1) (u - 6) k1 (by omega) (by omega)
  refine v_iload (pc := 524) O dL_law_524 1 rfl ?_
  refine v_ifne (pc := 526) 541 O dL_law_526 (by decide) (fun _ => fin _ rfl) (fun c8 => ?_)
  refine v_aload_n (pc := 529) O dL_law_529 5 rfl ?_
  refine v_iconst (pc := 530) O dL_law_530 ic_0 ?_
  refine v_lald (pc := 531) (a := 262) O kq_262 (inq lq_262 (by decide)) dL_law_531 ?_
  rw [g.2 c8]
  refine v_iload (pc := 532) O dL_law_532 0 rfl ?_
  refine v_i2l (pc := 534) O dL_law_534 ?_
  refine v_lcmp (pc := 535) O dL_law_535 ?_
  exact v_ifeq (pc := 536) 541 O dL_law_536 (by decide) (fun _ => fin _ rfl) (fun c9 => absurd (cmp_self _) c9)
set_option maxHeartbeats 4000000 in
theorem lw_case6 {X : Cx} {Q : State → Prop} {b L N nu n c u : Nat} {ss : Nat → Int32} {K : Nat → Nat} {D : Dat} {i a1 a2 a3 : Int32} {K' : Nat → Nat} {D' : Dat} (O : Ok X cL_law RL (some .boolean) 2048 84000) (hm : wlm (xw X) = true) (hn : xn X = 7) (hl : (xl X).stackTraces = false) (hT : xC X ≤ (xR X).cells ∧ xU X ≤ (xR X).slots) (hX : va_X b L ss (xs X) (xs X).heap) (hbl : b < (xs X).heap.size) (hbo : ¬ bo X ≤ b) (h1 : ¬ (i + 1 < 0 ∨ L ≤ (i + 1).toNatClampNeg)) (g1 : ss (i + 1).toNatClampNeg = a1) (h2 : ¬ (i + 2 < 0 ∨ L ≤ (i + 2).toNatClampNeg)) (g2 : ss (i + 2).toNatClampNeg = a2) (h3 : ¬ (i + 3 < 0 ∨ L ≤ (i + 3).toNatClampNeg)) (g3 : ss (i + 3).toNatClampNeg = a3) (h : stp_6 N nu n K D a1 a2 a3 = some (K', D')) (hcu : 9200 ≤ c ∧ 112000 ≤ u)
    (kk : ∀ n' c' u', n ≤ n' → c - 9200 ≤ c' → u - 112000 ≤ u' → V X Q n' (Ax nu K' c' u') D' 1333 [(0, .ref b), (1, .ref (bo X + pp 0)), (2, .ref (bo X + pp 207)), (3, .ref (bo X + pp 262)), (4, .int i)] []) : V X Q n (Ax nu K c u) D 544 [(0, .ref b), (1, .ref (bo X + pp 0)), (2, .ref (bo X + pp 207)), (3, .ref (bo X + pp 262)), (4, .int i)] [] := by
  have hBB : ∀ {A : Al}, BB X A := ⟨Nat.le_trans hT.1 (Nat.le_add_right _ _), Nat.le_trans hT.2 (Nat.le_add_right _ _)⟩
  unfold stp_6 at h
  by_cases cz : a2 = 0
  · rw [if_pos cz] at h
    obtain ⟨p, e1, h⟩ := bind_some h
    obtain ⟨q, e2, h⟩ := bind_some h
    obtain ⟨r, e3, h⟩ := bind_some h
    obtain ⟨g, h⟩ := if_none h
    cases h
    refine v_aload_n (pc := 544) O dL_law_544 1 rfl ?_
    refine v_aload_n (pc := 545) O dL_law_545 0 rfl ?_
    refine v_iload (pc := 546) O dL_law_546 4 rfl ?_
    refine v_iconst (pc := 548) O dL_law_548 ic_1 ?_
    refine v_iadd (pc := 549) O dL_law_549 ?_
    refine v_sld (pc := 550) O hX hbl hbo h1 dL_law_550 ?_
    rw [g1]
    refine v_aload_n (pc := 551) O dL_law_551 0 rfl ?_
    refine v_iload (pc := 552) O dL_law_552 4 rfl ?_
    refine v_iconst (pc := 554) O dL_law_554 ic_2 ?_
    refine v_iadd (pc := 555) O dL_law_555 ?_
    refine v_sld (pc := 556) O hX hbl hbo h2 dL_law_556 ?_
    rw [g2]
    refine v_ifeq (pc := 557) 564 O dL_law_557 (by decide) (fun _ => ?_) (fun c9 => absurd cz c9)
    refine v_iconst (pc := 564) O dL_law_564 ic_0 ?_
    refine v_aload_n (pc := 565) O dL_law_565 0 rfl ?_
    refine v_iload (pc := 566) O dL_law_566 4 rfl ?_
    refine v_iconst (pc := 568) O dL_law_568 ic_3 ?_
    refine v_iadd (pc := 569) O dL_law_569 ?_
    refine v_sld (pc := 570) O hX hbl hbo h3 dL_law_570 ?_
    rw [g3]
    refine v_aload_n (pc := 571) O dL_law_571 3 rfl ?_
    refine v_call3S (pc := 572) (cm := 1) (um := 6) (As := [.ref (bo X + pp 0), .int a1, .int 0, .int a3, .ref (bo X + pp 262)]) (rest := []) (r := (some (.int p.1))) (K' := K) (D' := p.2) O hT ⟨by omega, by omega⟩ (c_L_fix (n := n) (nu := nu) (K := K) hl hm e1 :) mwh_L_fix sm_L_fix ml_L_119 rfl (Nat.le_of_ble_eq_true rfl) (Nat.le_of_ble_eq_true rfl) (Nat.le_of_ble_eq_true rfl) dL_law_572 rfl rfl (fun n1 k1 => ?_)
    refine v_istore (pc := 575) (lv' := [(5, .int p.1), (0, .ref b), (1, .ref (bo X + pp 0)), (2, .ref (bo X + pp 207)), (3, .ref (bo X + pp 262)), (4, .int i)]) O dL_law_575 (by rw [hn]; decide) rfl ?_
    refine v_aload_n (pc := 577) O dL_law_577 3 rfl ?_
    refine v_aload_n (pc := 578) O dL_law_578 1 rfl ?_
    refine v_iload (pc := 579) O dL_law_579 5 rfl ?_
    refine v_iconst (pc := 581) O dL_law_581 ic_1 ?_
    refine v_iadd (pc := 582) O dL_law_582 ?_
    refine v_sld (pc := 583) O hX hbl hbo h1 dL_law_583 ?_
    rw [g1]
    refine v_aload_n (pc := 584) O dL_law_584 1 rfl ?_
    refine v_iload (pc := 585) O dL_law_585 5 rfl ?_
    refine v_iconst (pc := 587) O dL_law_587 ic_2 ?_
    refine v_iadd (pc := 588) O dL_law_588 ?_
    refine v_sld (pc := 589) O hX hbl hbo h2 dL_law_589 ?_
    rw [g2]
    refine v_ifeq (pc := 590) 597 O dL_law_590 (by decide) (fun _ => ?_) (fun c9 => absurd cz c9)
    refine v_iconst (pc := 597) O dL_law_597 ic_0 ?_
    refine v_aload_n (pc := 598) O dL_law_598 1 rfl ?_
    refine v_iload (pc := 599) O dL_law_599 5 rfl ?_
    refine v_iconst (pc := 601) O dL_law_601 ic_3 ?_
    refine v_iadd (pc := 602) O dL_law_602 ?_
    refine v_sld (pc := 603) O hX hbl hbo h3 dL_law_603 ?_
    rw [g3]
    refine v_callV (pc := 604) (a := 207) (As := [.int a1, .int 0, .int a3]) (rest := []) (r := (some (.int q.1))) (D' := q.2) O hBB (c_X12_fix hm e2) mw_X12_fix im_X12_fix se_X12_fix ml_L_122 kq_207 (by decide) rfl rfl rfl (Nat.le_of_ble_eq_true rfl) (Nat.le_of_ble_eq_true rfl) (Nat.le_of_ble_eq_true rfl) dL_law_604 rfl rfl ?_
    refine v_istore (pc := 607) (lv' := [(6, .int q.1), (5, .int p.1), (0, .ref b), (1, .ref (bo X + pp 0)), (2, .ref (bo X + pp 207)), (3, .ref (bo X + pp 262)), (4, .int i)]) O dL_law_607 (by rw [hn]; decide) rfl ?_
    refine v_aload_n (pc := 609) O dL_law_609 4 rfl ?_
    refine v_callV (pc := 610) (a := 207) (As := []) (rest := []) (r := (some (.int r.1))) (D' := r.2) O hBB (c_X12_thrown hm e3) mw_X12_thrown im_X12_thrown se_X12_thrown ml_L_96 kq_207 (by decide) rfl rfl rfl (Nat.le_of_ble_eq_true rfl) (Nat.le_of_ble_eq_true rfl) (Nat.le_of_ble_eq_true rfl) dL_law_610 rfl rfl ?_
    refine v_iload (pc := 613) O dL_law_613 1 rfl ?_
    refine v_icmpeq (pc := 615) 620 O dL_law_615 (by decide) (fun _ => ?_) (fun c9 => absurd g.1 c9)
    have fin : ∀ pc9, pc9 = 637 → V X Q n1 (Ax nu K (c - 1) (u - 6)) r.2 pc9 [(6, .int q.1), (5, .int p.1), (0, .ref b), (1, .ref (bo X + pp 0)), (2, .ref (bo X + pp 207)), (3, .ref (bo X + pp 262)), (4, .int i)] [] := by
      intro pc9 hpc9
      subst hpc9
      refine v_goto (pc := 637) 1333 O dL_law_637 (by decide) ?_
      refine v_sub [2, 3, 4, 5, 6] rfl ?_
      exact kk n1 (c - 1) (u - 6) k1 (by omega) (by omega)
    refine v_iload (pc := 620) O dL_law_620 1 rfl ?_
    refine v_ifne (pc := 622) 637 O dL_law_622 (by decide) (fun _ => fin _ rfl) (fun c8 => ?_)
    refine v_aload_n (pc := 625) O dL_law_625 5 rfl ?_
    refine v_iconst (pc := 626) O dL_law_626 ic_0 ?_
    refine v_lald (pc := 627) (a := 262) O kq_262 (inq lq_262 (by decide)) dL_law_627 ?_
    rw [g.2 c8]
    refine v_iload (pc := 628) O dL_law_628 0 rfl ?_
    refine v_i2l (pc := 630) O dL_law_630 ?_
    refine v_lcmp (pc := 631) O dL_law_631 ?_
    exact v_ifeq (pc := 632) 637 O dL_law_632 (by decide) (fun _ => fin _ rfl) (fun c9 => absurd (cmp_self _) c9)
  · rw [if_neg cz] at h
    obtain ⟨p, e1, h⟩ := bind_some h
    obtain ⟨q, e2, h⟩ := bind_some h
    obtain ⟨r, e3, h⟩ := bind_some h
    obtain ⟨g, h⟩ := if_none h
    cases h
    refine v_aload_n (pc := 544) O dL_law_544 1 rfl ?_
    refine v_aload_n (pc := 545) O dL_law_545 0 rfl ?_
    refine v_iload (pc := 546) O dL_law_546 4 rfl ?_
    refine v_iconst (pc := 548) O dL_law_548 ic_1 ?_
    refine v_iadd (pc := 549) O dL_law_549 ?_
    refine v_sld (pc := 550) O hX hbl hbo h1 dL_law_550 ?_
    rw [g1]
    refine v_aload_n (pc := 551) O dL_law_551 0 rfl ?_
    refine v_iload (pc := 552) O dL_law_552 4 rfl ?_
    refine v_iconst (pc := 554) O dL_law_554 ic_2 ?_
    refine v_iadd (pc := 555) O dL_law_555 ?_
    refine v_sld (pc := 556) O hX hbl hbo h2 dL_law_556 ?_
    rw [g2]
    refine v_ifeq (pc := 557) 564 O dL_law_557 (by decide) (fun c9 => absurd c9 cz) (fun _ => ?_)
    refine v_iconst (pc := 560) O dL_law_560 ic_1 ?_
    refine v_goto (pc := 561) 565 O dL_law_561 (by decide) ?_
    refine v_aload_n (pc := 565) O dL_law_565 0 rfl ?_
    refine v_iload (pc := 566) O dL_law_566 4 rfl ?_
    refine v_iconst (pc := 568) O dL_law_568 ic_3 ?_
    refine v_iadd (pc := 569) O dL_law_569 ?_
    refine v_sld (pc := 570) O hX hbl hbo h3 dL_law_570 ?_
    rw [g3]
    refine v_aload_n (pc := 571) O dL_law_571 3 rfl ?_
    refine v_call3S (pc := 572) (cm := 1) (um := 6) (As := [.ref (bo X + pp 0), .int a1, .int 1, .int a3, .ref (bo X + pp 262)]) (rest := []) (r := (some (.int p.1))) (K' := K) (D' := p.2) O hT ⟨by omega, by omega⟩ (c_L_fix (n := n) (nu := nu) (K := K) hl hm e1 :) mwh_L_fix sm_L_fix ml_L_119 rfl (Nat.le_of_ble_eq_true rfl) (Nat.le_of_ble_eq_true rfl) (Nat.le_of_ble_eq_true rfl) dL_law_572 rfl rfl (fun n1 k1 => ?_)
    refine v_istore (pc := 575) (lv' := [(5, .int p.1), (0, .ref b), (1, .ref (bo X + pp 0)), (2, .ref (bo X + pp 207)), (3, .ref (bo X + pp 262)), (4, .int i)]) O dL_law_575 (by rw [hn]; decide) rfl ?_
    refine v_aload_n (pc := 577) O dL_law_577 3 rfl ?_
    refine v_aload_n (pc := 578) O dL_law_578 1 rfl ?_
    refine v_iload (pc := 579) O dL_law_579 5 rfl ?_
    refine v_iconst (pc := 581) O dL_law_581 ic_1 ?_
    refine v_iadd (pc := 582) O dL_law_582 ?_
    refine v_sld (pc := 583) O hX hbl hbo h1 dL_law_583 ?_
    rw [g1]
    refine v_aload_n (pc := 584) O dL_law_584 1 rfl ?_
    refine v_iload (pc := 585) O dL_law_585 5 rfl ?_
    refine v_iconst (pc := 587) O dL_law_587 ic_2 ?_
    refine v_iadd (pc := 588) O dL_law_588 ?_
    refine v_sld (pc := 589) O hX hbl hbo h2 dL_law_589 ?_
    rw [g2]
    refine v_ifeq (pc := 590) 597 O dL_law_590 (by decide) (fun c9 => absurd c9 cz) (fun _ => ?_)
    refine v_iconst (pc := 593) O dL_law_593 ic_1 ?_
    refine v_goto (pc := 594) 598 O dL_law_594 (by decide) ?_
    refine v_aload_n (pc := 598) O dL_law_598 1 rfl ?_
    refine v_iload (pc := 599) O dL_law_599 5 rfl ?_
    refine v_iconst (pc := 601) O dL_law_601 ic_3 ?_
    refine v_iadd (pc := 602) O dL_law_602 ?_
    refine v_sld (pc := 603) O hX hbl hbo h3 dL_law_603 ?_
    rw [g3]
    refine v_callV (pc := 604) (a := 207) (As := [.int a1, .int 1, .int a3]) (rest := []) (r := (some (.int q.1))) (D' := q.2) O hBB (c_X12_fix hm e2) mw_X12_fix im_X12_fix se_X12_fix ml_L_122 kq_207 (by decide) rfl rfl rfl (Nat.le_of_ble_eq_true rfl) (Nat.le_of_ble_eq_true rfl) (Nat.le_of_ble_eq_true rfl) dL_law_604 rfl rfl ?_
    refine v_istore (pc := 607) (lv' := [(6, .int q.1), (5, .int p.1), (0, .ref b), (1, .ref (bo X + pp 0)), (2, .ref (bo X + pp 207)), (3, .ref (bo X + pp 262)), (4, .int i)]) O dL_law_607 (by rw [hn]; decide) rfl ?_
    refine v_aload_n (pc := 609) O dL_law_609 4 rfl ?_
    refine v_callV (pc := 610) (a := 207) (As := []) (rest := []) (r := (some (.int r.1))) (D' := r.2) O hBB (c_X12_thrown hm e3) mw_X12_thrown im_X12_thrown se_X12_thrown ml_L_96 kq_207 (by decide) rfl rfl rfl (Nat.le_of_ble_eq_true rfl) (Nat.le_of_ble_eq_true rfl) (Nat.le_of_ble_eq_true rfl) dL_law_610 rfl rfl ?_
    refine v_iload (pc := 613) O dL_law_613 1 rfl ?_
    refine v_icmpeq (pc := 615) 620 O dL_law_615 (by decide) (fun _ => ?_) (fun c9 => absurd g.1 c9)
    have fin : ∀ pc9, pc9 = 637 → V X Q n1 (Ax nu K (c - 1) (u - 6)) r.2 pc9 [(6, .int q.1), (5, .int p.1), (0, .ref b), (1, .ref (bo X + pp 0)), (2, .ref (bo X + pp 207)), (3, .ref (bo X + pp 262)), (4, .int i)] [] := by
      intro pc9 hpc9
      subst hpc9
      refine v_goto (pc := 637) 1333 O dL_law_637 (by decide) ?_
      refine v_sub [2, 3, 4, 5, 6] rfl ?_
      exact kk n1 (c - 1) (u - 6) k1 (by omega) (by omega)
    refine v_iload (pc := 620) O dL_law_620 1 rfl ?_
    refine v_ifne (pc := 622) 637 O dL_law_622 (by decide) (fun _ => fin _ rfl) (fun c8 => ?_)
    refine v_aload_n (pc := 625) O dL_law_625 5 rfl ?_
    refine v_iconst (pc := 626) O dL_law_626 ic_0 ?_
    refine v_lald (pc := 627) (a := 262) O kq_262 (inq lq_262 (by decide)) dL_law_627 ?_
    rw [g.2 c8]
    refine v_iload (pc := 628) O dL_law_628 0 rfl ?_
    refine v_i2l (pc := 630) O dL_law_630 ?_
    refine v_lcmp (pc := 631) O dL_law_631 ?_
    exact v_ifeq (pc := 632) 637 O dL_law_632 (by decide) (fun _ => fin _ rfl) (fun c9 => absurd (cmp_self _) c9)
set_option maxHeartbeats 4000000 in
theorem lw_case7 {X : Cx} {Q : State → Prop} {b L N nu n c u : Nat} {ss : Nat → Int32} {K : Nat → Nat} {D : Dat} {i a1 a2 a3 : Int32} {K' : Nat → Nat} {D' : Dat} (O : Ok X cL_law RL (some .boolean) 2048 84000) (hm : wlm (xw X) = true) (hn : xn X = 7) (hl : (xl X).stackTraces = false) (hT : xC X ≤ (xR X).cells ∧ xU X ≤ (xR X).slots) (hX : va_X b L ss (xs X) (xs X).heap) (hbl : b < (xs X).heap.size) (hbo : ¬ bo X ≤ b) (h1 : ¬ (i + 1 < 0 ∨ L ≤ (i + 1).toNatClampNeg)) (g1 : ss (i + 1).toNatClampNeg = a1) (h2 : ¬ (i + 2 < 0 ∨ L ≤ (i + 2).toNatClampNeg)) (g2 : ss (i + 2).toNatClampNeg = a2) (h3 : ¬ (i + 3 < 0 ∨ L ≤ (i + 3).toNatClampNeg)) (g3 : ss (i + 3).toNatClampNeg = a3) (h : stp_7 N nu n K D a1 a2 a3 = some (K', D')) (hcu : 9200 ≤ c ∧ 112000 ≤ u)
    (kk : ∀ n' c' u', n ≤ n' → c - 9200 ≤ c' → u - 112000 ≤ u' → V X Q n' (Ax nu K' c' u') D' 1333 [(0, .ref b), (1, .ref (bo X + pp 0)), (2, .ref (bo X + pp 207)), (3, .ref (bo X + pp 262)), (4, .int i)] []) : V X Q n (Ax nu K c u) D 640 [(0, .ref b), (1, .ref (bo X + pp 0)), (2, .ref (bo X + pp 207)), (3, .ref (bo X + pp 262)), (4, .int i)] [] := by
  unfold stp_7 at h
  obtain ⟨p, e1, h⟩ := bind_some h
  obtain ⟨q, e2, h⟩ := bind_some h
  obtain ⟨g, h⟩ := if_none h
  cases h
  have hBB : ∀ {A : Al}, BB X A := ⟨Nat.le_trans hT.1 (Nat.le_add_right _ _), Nat.le_trans hT.2 (Nat.le_add_right _ _)⟩
  refine v_aload_n (pc := 640) O dL_law_640 1 rfl ?_
  refine v_callV (pc := 641) (a := 0) (As := []) (rest := []) (r := (some (.int p.1))) (D' := p.2) O hBB (c_X11_clear hm e1) mw_X11_clear im_X11_clear se_X11_clear ml_L_123 kq_0 (by decide) rfl rfl rfl (Nat.le_of_ble_eq_true rfl) (Nat.le_of_ble_eq_true rfl) (Nat.le_of_ble_eq_true rfl) dL_law_641 rfl rfl ?_
  refine v_aload_n (pc := 644) O dL_law_644 2 rfl ?_
  refine v_callV (pc := 645) (a := 207) (As := []) (rest := [.int p.1]) (r := (some (.int q.1))) (D' := q.2) O hBB (c_X12_clear hm e2) mw_X12_clear im_X12_clear se_X12_clear ml_L_126 kq_207 (by decide) rfl rfl rfl (Nat.le_of_ble_eq_true rfl) (Nat.le_of_ble_eq_true rfl) (Nat.le_of_ble_eq_true rfl) dL_law_645 rfl rfl ?_
  refine v_icmpeq (pc := 648) 1333 O dL_law_648 (by decide) (fun _ => ?_) (fun c9 => absurd g c9)
  exact kk n c u (Nat.le_refl _) (Nat.sub_le _ _) (Nat.sub_le _ _)
set_option maxHeartbeats 4000000 in
theorem lw_case8 {X : Cx} {Q : State → Prop} {b L N nu n c u : Nat} {ss : Nat → Int32} {K : Nat → Nat} {D : Dat} {i a1 a2 a3 : Int32} {K' : Nat → Nat} {D' : Dat} (O : Ok X cL_law RL (some .boolean) 2048 84000) (hm : wlm (xw X) = true) (hn : xn X = 7) (hl : (xl X).stackTraces = false) (hT : xC X ≤ (xR X).cells ∧ xU X ≤ (xR X).slots) (hX : va_X b L ss (xs X) (xs X).heap) (hbl : b < (xs X).heap.size) (hbo : ¬ bo X ≤ b) (h1 : ¬ (i + 1 < 0 ∨ L ≤ (i + 1).toNatClampNeg)) (g1 : ss (i + 1).toNatClampNeg = a1) (h2 : ¬ (i + 2 < 0 ∨ L ≤ (i + 2).toNatClampNeg)) (g2 : ss (i + 2).toNatClampNeg = a2) (h3 : ¬ (i + 3 < 0 ∨ L ≤ (i + 3).toNatClampNeg)) (g3 : ss (i + 3).toNatClampNeg = a3) (h : stp_8 N nu n K D a1 a2 a3 = some (K', D')) (hcu : 9200 ≤ c ∧ 112000 ≤ u)
    (kk : ∀ n' c' u', n ≤ n' → c - 9200 ≤ c' → u - 112000 ≤ u' → V X Q n' (Ax nu K' c' u') D' 1333 [(0, .ref b), (1, .ref (bo X + pp 0)), (2, .ref (bo X + pp 207)), (3, .ref (bo X + pp 262)), (4, .int i)] []) : V X Q n (Ax nu K c u) D 653 [(0, .ref b), (1, .ref (bo X + pp 0)), (2, .ref (bo X + pp 207)), (3, .ref (bo X + pp 262)), (4, .int i)] [] := by
  have hBB : ∀ {A : Al}, BB X A := ⟨Nat.le_trans hT.1 (Nat.le_add_right _ _), Nat.le_trans hT.2 (Nat.le_add_right _ _)⟩
  unfold stp_8 at h
  obtain ⟨p, e1, h⟩ := bind_some h
  obtain ⟨q, e2, h⟩ := bind_some h
  obtain ⟨r, e3, h⟩ := bind_some h
  obtain ⟨g, h⟩ := if_none h
  cases h
  refine v_aload_n (pc := 653) O dL_law_653 1 rfl ?_
  refine v_aload_n (pc := 654) O dL_law_654 3 rfl ?_
  refine v_call3S (pc := 655) (cm := 1) (um := 6) (As := [.ref (bo X + pp 0), .ref (bo X + pp 262)]) (rest := []) (r := (some (.int p.1))) (K' := K) (D' := p.2) O hT ⟨by omega, by omega⟩ (c_L_verify (n := n) (nu := nu) (K := K) hl hm e1 :) mwh_L_verify sm_L_verify ml_L_127 rfl (Nat.le_of_ble_eq_true rfl) (Nat.le_of_ble_eq_true rfl) (Nat.le_of_ble_eq_true rfl) dL_law_655 rfl rfl (fun n1 k1 => ?_)
  refine v_istore (pc := 658) (lv' := [(5, .int p.1), (0, .ref b), (1, .ref (bo X + pp 0)), (2, .ref (bo X + pp 207)), (3, .ref (bo X + pp 262)), (4, .int i)]) O dL_law_658 (by rw [hn]; decide) rfl ?_
  refine v_aload_n (pc := 660) O dL_law_660 3 rfl ?_
  refine v_callV (pc := 661) (a := 207) (As := []) (rest := []) (r := (some (.int q.1))) (D' := q.2) O hBB (c_X12_verify hm e2) mw_X12_verify im_X12_verify se_X12_verify ml_L_129 kq_207 (by decide) rfl rfl rfl (Nat.le_of_ble_eq_true rfl) (Nat.le_of_ble_eq_true rfl) (Nat.le_of_ble_eq_true rfl) dL_law_661 rfl rfl ?_
  refine v_istore (pc := 664) (lv' := [(6, .int q.1), (5, .int p.1), (0, .ref b), (1, .ref (bo X + pp 0)), (2, .ref (bo X + pp 207)), (3, .ref (bo X + pp 262)), (4, .int i)]) O dL_law_664 (by rw [hn]; decide) rfl ?_
  refine v_aload_n (pc := 666) O dL_law_666 4 rfl ?_
  refine v_callV (pc := 667) (a := 207) (As := []) (rest := []) (r := (some (.int r.1))) (D' := r.2) O hBB (c_X12_thrown hm e3) mw_X12_thrown im_X12_thrown se_X12_thrown ml_L_96 kq_207 (by decide) rfl rfl rfl (Nat.le_of_ble_eq_true rfl) (Nat.le_of_ble_eq_true rfl) (Nat.le_of_ble_eq_true rfl) dL_law_667 rfl rfl ?_
  refine v_iload (pc := 670) O dL_law_670 1 rfl ?_
  refine v_icmpeq (pc := 672) 677 O dL_law_672 (by decide) (fun _ => ?_) (fun c9 => absurd g.1 c9)
  have fin : ∀ pc9, pc9 = 694 → V X Q n1 (Ax nu K (c - 1) (u - 6)) r.2 pc9 [(6, .int q.1), (5, .int p.1), (0, .ref b), (1, .ref (bo X + pp 0)), (2, .ref (bo X + pp 207)), (3, .ref (bo X + pp 262)), (4, .int i)] [] := by
    intro pc9 hpc9
    subst hpc9
    refine v_goto (pc := 694) 1333 O dL_law_694 (by decide) ?_
    refine v_sub [2, 3, 4, 5, 6] rfl ?_
    exact kk n1 (c - 1) (u - 6) k1 (by omega) (by omega)
  refine v_iload (pc := 677) O dL_law_677 1 rfl ?_
  refine v_ifne (pc := 679) 694 O dL_law_679 (by decide) (fun _ => fin _ rfl) (fun c8 => ?_)
  refine v_aload_n (pc := 682) O dL_law_682 5 rfl ?_
  refine v_iconst (pc := 683) O dL_law_683 ic_0 ?_
  refine v_lald (pc := 684) (a := 262) O kq_262 (inq lq_262 (by decide)) dL_law_684 ?_
  rw [g.2 c8]
  refine v_iload (pc := 685) O dL_law_685 0 rfl ?_
  refine v_i2l (pc := 687) O dL_law_687 ?_
  refine v_lcmp (pc := 688) O dL_law_688 ?_
  exact v_ifeq (pc := 689) 694 O dL_law_689 (by decide) (fun _ => fin _ rfl) (fun c9 => absurd (cmp_self _) c9)
set_option maxHeartbeats 4000000 in
theorem lw_case9 {X : Cx} {Q : State → Prop} {b L N nu n c u : Nat} {ss : Nat → Int32} {K : Nat → Nat} {D : Dat} {i a1 a2 a3 : Int32} {K' : Nat → Nat} {D' : Dat} (O : Ok X cL_law RL (some .boolean) 2048 84000) (hm : wlm (xw X) = true) (hn : xn X = 7) (hl : (xl X).stackTraces = false) (hT : xC X ≤ (xR X).cells ∧ xU X ≤ (xR X).slots) (hX : va_X b L ss (xs X) (xs X).heap) (hbl : b < (xs X).heap.size) (hbo : ¬ bo X ≤ b) (h1 : ¬ (i + 1 < 0 ∨ L ≤ (i + 1).toNatClampNeg)) (g1 : ss (i + 1).toNatClampNeg = a1) (h2 : ¬ (i + 2 < 0 ∨ L ≤ (i + 2).toNatClampNeg)) (g2 : ss (i + 2).toNatClampNeg = a2) (h3 : ¬ (i + 3 < 0 ∨ L ≤ (i + 3).toNatClampNeg)) (g3 : ss (i + 3).toNatClampNeg = a3) (h : stp_9 N nu n K D a1 a2 a3 = some (K', D')) (hcu : 9200 ≤ c ∧ 112000 ≤ u)
    (kk : ∀ n' c' u', n ≤ n' → c - 9200 ≤ c' → u - 112000 ≤ u' → V X Q n' (Ax nu K' c' u') D' 1333 [(0, .ref b), (1, .ref (bo X + pp 0)), (2, .ref (bo X + pp 207)), (3, .ref (bo X + pp 262)), (4, .int i)] []) : V X Q n (Ax nu K c u) D 697 [(0, .ref b), (1, .ref (bo X + pp 0)), (2, .ref (bo X + pp 207)), (3, .ref (bo X + pp 262)), (4, .int i)] [] := by
  have hBB : ∀ {A : Al}, BB X A := ⟨Nat.le_trans hT.1 (Nat.le_add_right _ _), Nat.le_trans hT.2 (Nat.le_add_right _ _)⟩
  unfold stp_9 at h
  obtain ⟨p, e1, h⟩ := bind_some h
  obtain ⟨q, e2, h⟩ := bind_some h
  obtain ⟨r, e3, h⟩ := bind_some h
  obtain ⟨g, h⟩ := if_none h
  cases h
  refine v_aload_n (pc := 697) O dL_law_697 1 rfl ?_
  refine v_aload_n (pc := 698) O dL_law_698 0 rfl ?_
  refine v_iload (pc := 699) O dL_law_699 4 rfl ?_
  refine v_iconst (pc := 701) O dL_law_701 ic_1 ?_
  refine v_iadd (pc := 702) O dL_law_702 ?_
  refine v_sld (pc := 703) O hX hbl hbo h1 dL_law_703 ?_
  rw [g1]
  refine v_aload_n (pc := 704) O dL_law_704 0 rfl ?_
  refine v_iload (pc := 705) O dL_law_705 4 rfl ?_
  refine v_iconst (pc := 707) O dL_law_707 ic_2 ?_
  refine v_iadd (pc := 708) O dL_law_708 ?_
  refine v_sld (pc := 709) O hX hbl hbo h2 dL_law_709 ?_
  rw [g2]
  refine v_aload_n (pc := 710) O dL_law_710 3 rfl ?_
  refine v_call3S (pc := 711) (cm := 1) (um := 6) (As := [.ref (bo X + pp 0), .int a1, .int a2, .ref (bo X + pp 262)]) (rest := []) (r := (some (.int p.1))) (K' := K) (D' := p.2) O hT ⟨by omega, by omega⟩ (c_L_map (n := n) (nu := nu) (K := K) hl hm e1 :) mwh_L_map sm_L_map ml_L_130 rfl (Nat.le_of_ble_eq_true rfl) (Nat.le_of_ble_eq_true rfl) (Nat.le_of_ble_eq_true rfl) dL_law_711 rfl rfl (fun n1 k1 => ?_)
  refine v_istore (pc := 714) (lv' := [(5, .int p.1), (0, .ref b), (1, .ref (bo X + pp 0)), (2, .ref (bo X + pp 207)), (3, .ref (bo X + pp 262)), (4, .int i)]) O dL_law_714 (by rw [hn]; decide) rfl ?_
  refine v_aload_n (pc := 716) O dL_law_716 3 rfl ?_
  refine v_aload_n (pc := 717) O dL_law_717 1 rfl ?_
  refine v_iload (pc := 718) O dL_law_718 5 rfl ?_
  refine v_iconst (pc := 720) O dL_law_720 ic_1 ?_
  refine v_iadd (pc := 721) O dL_law_721 ?_
  refine v_sld (pc := 722) O hX hbl hbo h1 dL_law_722 ?_
  rw [g1]
  refine v_aload_n (pc := 723) O dL_law_723 1 rfl ?_
  refine v_iload (pc := 724) O dL_law_724 5 rfl ?_
  refine v_iconst (pc := 726) O dL_law_726 ic_2 ?_
  refine v_iadd (pc := 727) O dL_law_727 ?_
  refine v_sld (pc := 728) O hX hbl hbo h2 dL_law_728 ?_
  rw [g2]
  refine v_callV (pc := 729) (a := 207) (As := [.int a1, .int a2]) (rest := []) (r := (some (.int q.1))) (D' := q.2) O hBB (c_X12_map hm e2) mw_X12_map im_X12_map se_X12_map ml_L_132 kq_207 (by decide) rfl rfl rfl (Nat.le_of_ble_eq_true rfl) (Nat.le_of_ble_eq_true rfl) (Nat.le_of_ble_eq_true rfl) dL_law_729 rfl rfl ?_
  refine v_istore (pc := 732) (lv' := [(6, .int q.1), (5, .int p.1), (0, .ref b), (1, .ref (bo X + pp 0)), (2, .ref (bo X + pp 207)), (3, .ref (bo X + pp 262)), (4, .int i)]) O dL_law_732 (by rw [hn]; decide) rfl ?_
  refine v_aload_n (pc := 734) O dL_law_734 4 rfl ?_
  refine v_callV (pc := 735) (a := 207) (As := []) (rest := []) (r := (some (.int r.1))) (D' := r.2) O hBB (c_X12_thrown hm e3) mw_X12_thrown im_X12_thrown se_X12_thrown ml_L_96 kq_207 (by decide) rfl rfl rfl (Nat.le_of_ble_eq_true rfl) (Nat.le_of_ble_eq_true rfl) (Nat.le_of_ble_eq_true rfl) dL_law_735 rfl rfl ?_
  refine v_iload (pc := 738) O dL_law_738 1 rfl ?_
  refine v_icmpeq (pc := 740) 745 O dL_law_740 (by decide) (fun _ => ?_) (fun c9 => absurd g.1 c9)
  have fin : ∀ pc9, pc9 = 762 → V X Q n1 (Ax nu K (c - 1) (u - 6)) r.2 pc9 [(6, .int q.1), (5, .int p.1), (0, .ref b), (1, .ref (bo X + pp 0)), (2, .ref (bo X + pp 207)), (3, .ref (bo X + pp 262)), (4, .int i)] [] := by
    intro pc9 hpc9
    subst hpc9
    refine v_goto (pc := 762) 1333 O dL_law_762 (by decide) ?_
    refine v_sub [2, 3, 4, 5, 6] rfl ?_
    exact kk n1 (c - 1) (u - 6) k1 (by omega) (by omega)
  refine v_iload (pc := 745) O dL_law_745 1 rfl ?_
  refine v_ifne (pc := 747) 762 O dL_law_747 (by decide) (fun _ => fin _ rfl) (fun c8 => ?_)
  refine v_aload_n (pc := 750) O dL_law_750 5 rfl ?_
  refine v_iconst (pc := 751) O dL_law_751 ic_0 ?_
  refine v_lald (pc := 752) (a := 262) O kq_262 (inq lq_262 (by decide)) dL_law_752 ?_
  rw [g.2 c8]
  refine v_iload (pc := 753) O dL_law_753 0 rfl ?_
  refine v_i2l (pc := 755) O dL_law_755 ?_
  refine v_lcmp (pc := 756) O dL_law_756 ?_
  exact v_ifeq (pc := 757) 762 O dL_law_757 (by decide) (fun _ => fin _ rfl) (fun c9 => absurd (cmp_self _) c9)
set_option maxHeartbeats 4000000 in
theorem lw_case10 {X : Cx} {Q : State → Prop} {b L N nu n c u : Nat} {ss : Nat → Int32} {K : Nat → Nat} {D : Dat} {i a1 a2 a3 : Int32} {K' : Nat → Nat} {D' : Dat} (O : Ok X cL_law RL (some .boolean) 2048 84000) (hm : wlm (xw X) = true) (hn : xn X = 7) (hl : (xl X).stackTraces = false) (hT : xC X ≤ (xR X).cells ∧ xU X ≤ (xR X).slots) (hX : va_X b L ss (xs X) (xs X).heap) (hbl : b < (xs X).heap.size) (hbo : ¬ bo X ≤ b) (h1 : ¬ (i + 1 < 0 ∨ L ≤ (i + 1).toNatClampNeg)) (g1 : ss (i + 1).toNatClampNeg = a1) (h2 : ¬ (i + 2 < 0 ∨ L ≤ (i + 2).toNatClampNeg)) (g2 : ss (i + 2).toNatClampNeg = a2) (h3 : ¬ (i + 3 < 0 ∨ L ≤ (i + 3).toNatClampNeg)) (g3 : ss (i + 3).toNatClampNeg = a3) (h : stp_10 N nu n K D a1 a2 a3 = some (K', D')) (hcu : 9200 ≤ c ∧ 112000 ≤ u)
    (kk : ∀ n' c' u', n ≤ n' → c - 9200 ≤ c' → u - 112000 ≤ u' → V X Q n' (Ax nu K' c' u') D' 1333 [(0, .ref b), (1, .ref (bo X + pp 0)), (2, .ref (bo X + pp 207)), (3, .ref (bo X + pp 262)), (4, .int i)] []) : V X Q n (Ax nu K c u) D 765 [(0, .ref b), (1, .ref (bo X + pp 0)), (2, .ref (bo X + pp 207)), (3, .ref (bo X + pp 262)), (4, .int i)] [] := by
  have hBB : ∀ {A : Al}, BB X A := ⟨Nat.le_trans hT.1 (Nat.le_add_right _ _), Nat.le_trans hT.2 (Nat.le_add_right _ _)⟩
  unfold stp_10 at h
  obtain ⟨p, e1, h⟩ := bind_some h
  obtain ⟨q, e2, h⟩ := bind_some h
  obtain ⟨r, e3, h⟩ := bind_some h
  obtain ⟨g, h⟩ := if_none h
  cases h
  refine v_aload_n (pc := 765) O dL_law_765 1 rfl ?_
  refine v_aload_n (pc := 766) O dL_law_766 0 rfl ?_
  refine v_iload (pc := 767) O dL_law_767 4 rfl ?_
  refine v_iconst (pc := 769) O dL_law_769 ic_1 ?_
  refine v_iadd (pc := 770) O dL_law_770 ?_
  refine v_sld (pc := 771) O hX hbl hbo h1 dL_law_771 ?_
  rw [g1]
  refine v_aload_n (pc := 772) O dL_law_772 0 rfl ?_
  refine v_iload (pc := 773) O dL_law_773 4 rfl ?_
  refine v_iconst (pc := 775) O dL_law_775 ic_2 ?_
  refine v_iadd (pc := 776) O dL_law_776 ?_
  refine v_sld (pc := 777) O hX hbl hbo h2 dL_law_777 ?_
  rw [g2]
  refine v_aload_n (pc := 778) O dL_law_778 3 rfl ?_
  refine v_call3S (pc := 779) (cm := 1) (um := 6) (As := [.ref (bo X + pp 0), .int a1, .int a2, .ref (bo X + pp 262)]) (rest := []) (r := (some (.int p.1))) (K' := K) (D' := p.2) O hT ⟨by omega, by omega⟩ (c_L_region (n := n) (nu := nu) (K := K) hl hm e1 :) mwh_L_region sm_L_region ml_L_133 rfl (Nat.le_of_ble_eq_true rfl) (Nat.le_of_ble_eq_true rfl) (Nat.le_of_ble_eq_true rfl) dL_law_779 rfl rfl (fun n1 k1 => ?_)
  refine v_istore (pc := 782) (lv' := [(5, .int p.1), (0, .ref b), (1, .ref (bo X + pp 0)), (2, .ref (bo X + pp 207)), (3, .ref (bo X + pp 262)), (4, .int i)]) O dL_law_782 (by rw [hn]; decide) rfl ?_
  refine v_aload_n (pc := 784) O dL_law_784 3 rfl ?_
  refine v_aload_n (pc := 785) O dL_law_785 1 rfl ?_
  refine v_iload (pc := 786) O dL_law_786 5 rfl ?_
  refine v_iconst (pc := 788) O dL_law_788 ic_1 ?_
  refine v_iadd (pc := 789) O dL_law_789 ?_
  refine v_sld (pc := 790) O hX hbl hbo h1 dL_law_790 ?_
  rw [g1]
  refine v_aload_n (pc := 791) O dL_law_791 1 rfl ?_
  refine v_iload (pc := 792) O dL_law_792 5 rfl ?_
  refine v_iconst (pc := 794) O dL_law_794 ic_2 ?_
  refine v_iadd (pc := 795) O dL_law_795 ?_
  refine v_sld (pc := 796) O hX hbl hbo h2 dL_law_796 ?_
  rw [g2]
  refine v_callV (pc := 797) (a := 207) (As := [.int a1, .int a2]) (rest := []) (r := (some (.int q.1))) (D' := q.2) O hBB (c_X12_region hm e2) mw_X12_region im_X12_region se_X12_region ml_L_135 kq_207 (by decide) rfl rfl rfl (Nat.le_of_ble_eq_true rfl) (Nat.le_of_ble_eq_true rfl) (Nat.le_of_ble_eq_true rfl) dL_law_797 rfl rfl ?_
  refine v_istore (pc := 800) (lv' := [(6, .int q.1), (5, .int p.1), (0, .ref b), (1, .ref (bo X + pp 0)), (2, .ref (bo X + pp 207)), (3, .ref (bo X + pp 262)), (4, .int i)]) O dL_law_800 (by rw [hn]; decide) rfl ?_
  refine v_aload_n (pc := 802) O dL_law_802 4 rfl ?_
  refine v_callV (pc := 803) (a := 207) (As := []) (rest := []) (r := (some (.int r.1))) (D' := r.2) O hBB (c_X12_thrown hm e3) mw_X12_thrown im_X12_thrown se_X12_thrown ml_L_96 kq_207 (by decide) rfl rfl rfl (Nat.le_of_ble_eq_true rfl) (Nat.le_of_ble_eq_true rfl) (Nat.le_of_ble_eq_true rfl) dL_law_803 rfl rfl ?_
  refine v_iload (pc := 806) O dL_law_806 1 rfl ?_
  refine v_icmpeq (pc := 808) 813 O dL_law_808 (by decide) (fun _ => ?_) (fun c9 => absurd g.1 c9)
  have fin : ∀ pc9, pc9 = 830 → V X Q n1 (Ax nu K (c - 1) (u - 6)) r.2 pc9 [(6, .int q.1), (5, .int p.1), (0, .ref b), (1, .ref (bo X + pp 0)), (2, .ref (bo X + pp 207)), (3, .ref (bo X + pp 262)), (4, .int i)] [] := by
    intro pc9 hpc9
    subst hpc9
    refine v_goto (pc := 830) 1333 O dL_law_830 (by decide) ?_
    refine v_sub [2, 3, 4, 5, 6] rfl ?_
    exact kk n1 (c - 1) (u - 6) k1 (by omega) (by omega)
  refine v_iload (pc := 813) O dL_law_813 1 rfl ?_
  refine v_ifne (pc := 815) 830 O dL_law_815 (by decide) (fun _ => fin _ rfl) (fun c8 => ?_)
  refine v_aload_n (pc := 818) O dL_law_818 5 rfl ?_
  refine v_iconst (pc := 819) O dL_law_819 ic_0 ?_
  refine v_lald (pc := 820) (a := 262) O kq_262 (inq lq_262 (by decide)) dL_law_820 ?_
  rw [g.2 c8]
  refine v_iload (pc := 821) O dL_law_821 0 rfl ?_
  refine v_i2l (pc := 823) O dL_law_823 ?_
  refine v_lcmp (pc := 824) O dL_law_824 ?_
  exact v_ifeq (pc := 825) 830 O dL_law_825 (by decide) (fun _ => fin _ rfl) (fun c9 => absurd (cmp_self _) c9)
set_option maxHeartbeats 4000000 in
theorem lw_case11 {X : Cx} {Q : State → Prop} {b L N nu n c u : Nat} {ss : Nat → Int32} {K : Nat → Nat} {D : Dat} {i a1 a2 a3 : Int32} {K' : Nat → Nat} {D' : Dat} (O : Ok X cL_law RL (some .boolean) 2048 84000) (hm : wlm (xw X) = true) (hn : xn X = 7) (hl : (xl X).stackTraces = false) (hT : xC X ≤ (xR X).cells ∧ xU X ≤ (xR X).slots) (hX : va_X b L ss (xs X) (xs X).heap) (hbl : b < (xs X).heap.size) (hbo : ¬ bo X ≤ b) (h1 : ¬ (i + 1 < 0 ∨ L ≤ (i + 1).toNatClampNeg)) (g1 : ss (i + 1).toNatClampNeg = a1) (h2 : ¬ (i + 2 < 0 ∨ L ≤ (i + 2).toNatClampNeg)) (g2 : ss (i + 2).toNatClampNeg = a2) (h3 : ¬ (i + 3 < 0 ∨ L ≤ (i + 3).toNatClampNeg)) (g3 : ss (i + 3).toNatClampNeg = a3) (h : stp_11 N nu n K D a1 a2 a3 = some (K', D')) (hcu : 9200 ≤ c ∧ 112000 ≤ u)
    (kk : ∀ n' c' u', n ≤ n' → c - 9200 ≤ c' → u - 112000 ≤ u' → V X Q n' (Ax nu K' c' u') D' 1333 [(0, .ref b), (1, .ref (bo X + pp 0)), (2, .ref (bo X + pp 207)), (3, .ref (bo X + pp 262)), (4, .int i)] []) : V X Q n (Ax nu K c u) D 833 [(0, .ref b), (1, .ref (bo X + pp 0)), (2, .ref (bo X + pp 207)), (3, .ref (bo X + pp 262)), (4, .int i)] [] := by
  have hBB : ∀ {A : Al}, BB X A := ⟨Nat.le_trans hT.1 (Nat.le_add_right _ _), Nat.le_trans hT.2 (Nat.le_add_right _ _)⟩
  unfold stp_11 at h
  obtain ⟨p, e1, h⟩ := bind_some h
  obtain ⟨q, e2, h⟩ := bind_some h
  obtain ⟨r, e3, h⟩ := bind_some h
  obtain ⟨g, h⟩ := if_none h
  cases h
  refine v_aload_n (pc := 833) O dL_law_833 1 rfl ?_
  refine v_aload_n (pc := 834) O dL_law_834 0 rfl ?_
  refine v_iload (pc := 835) O dL_law_835 4 rfl ?_
  refine v_iconst (pc := 837) O dL_law_837 ic_1 ?_
  refine v_iadd (pc := 838) O dL_law_838 ?_
  refine v_sld (pc := 839) O hX hbl hbo h1 dL_law_839 ?_
  rw [g1]
  refine v_aload_n (pc := 840) O dL_law_840 0 rfl ?_
  refine v_iload (pc := 841) O dL_law_841 4 rfl ?_
  refine v_iconst (pc := 843) O dL_law_843 ic_2 ?_
  refine v_iadd (pc := 844) O dL_law_844 ?_
  refine v_sld (pc := 845) O hX hbl hbo h2 dL_law_845 ?_
  rw [g2]
  refine v_aload_n (pc := 846) O dL_law_846 3 rfl ?_
  refine v_call3S (pc := 847) (cm := 1) (um := 6) (As := [.ref (bo X + pp 0), .int a1, .int a2, .ref (bo X + pp 262)]) (rest := []) (r := (some (.int p.1))) (K' := K) (D' := p.2) O hT ⟨by omega, by omega⟩ (c_L_feed (n := n) (nu := nu) (K := K) hl hm e1 :) mwh_L_feed sm_L_feed ml_L_136 rfl (Nat.le_of_ble_eq_true rfl) (Nat.le_of_ble_eq_true rfl) (Nat.le_of_ble_eq_true rfl) dL_law_847 rfl rfl (fun n1 k1 => ?_)
  refine v_istore (pc := 850) (lv' := [(5, .int p.1), (0, .ref b), (1, .ref (bo X + pp 0)), (2, .ref (bo X + pp 207)), (3, .ref (bo X + pp 262)), (4, .int i)]) O dL_law_850 (by rw [hn]; decide) rfl ?_
  refine v_aload_n (pc := 852) O dL_law_852 3 rfl ?_
  refine v_aload_n (pc := 853) O dL_law_853 1 rfl ?_
  refine v_iload (pc := 854) O dL_law_854 5 rfl ?_
  refine v_iconst (pc := 856) O dL_law_856 ic_1 ?_
  refine v_iadd (pc := 857) O dL_law_857 ?_
  refine v_sld (pc := 858) O hX hbl hbo h1 dL_law_858 ?_
  rw [g1]
  refine v_aload_n (pc := 859) O dL_law_859 1 rfl ?_
  refine v_iload (pc := 860) O dL_law_860 5 rfl ?_
  refine v_iconst (pc := 862) O dL_law_862 ic_2 ?_
  refine v_iadd (pc := 863) O dL_law_863 ?_
  refine v_sld (pc := 864) O hX hbl hbo h2 dL_law_864 ?_
  rw [g2]
  refine v_callV (pc := 865) (a := 207) (As := [.int a1, .int a2]) (rest := []) (r := (some (.int q.1))) (D' := q.2) O hBB (c_X12_feed hm e2) mw_X12_feed im_X12_feed se_X12_feed ml_L_138 kq_207 (by decide) rfl rfl rfl (Nat.le_of_ble_eq_true rfl) (Nat.le_of_ble_eq_true rfl) (Nat.le_of_ble_eq_true rfl) dL_law_865 rfl rfl ?_
  refine v_istore (pc := 868) (lv' := [(6, .int q.1), (5, .int p.1), (0, .ref b), (1, .ref (bo X + pp 0)), (2, .ref (bo X + pp 207)), (3, .ref (bo X + pp 262)), (4, .int i)]) O dL_law_868 (by rw [hn]; decide) rfl ?_
  refine v_aload_n (pc := 870) O dL_law_870 4 rfl ?_
  refine v_callV (pc := 871) (a := 207) (As := []) (rest := []) (r := (some (.int r.1))) (D' := r.2) O hBB (c_X12_thrown hm e3) mw_X12_thrown im_X12_thrown se_X12_thrown ml_L_96 kq_207 (by decide) rfl rfl rfl (Nat.le_of_ble_eq_true rfl) (Nat.le_of_ble_eq_true rfl) (Nat.le_of_ble_eq_true rfl) dL_law_871 rfl rfl ?_
  refine v_iload (pc := 874) O dL_law_874 1 rfl ?_
  refine v_icmpeq (pc := 876) 881 O dL_law_876 (by decide) (fun _ => ?_) (fun c9 => absurd g.1 c9)
  have fin : ∀ pc9, pc9 = 898 → V X Q n1 (Ax nu K (c - 1) (u - 6)) r.2 pc9 [(6, .int q.1), (5, .int p.1), (0, .ref b), (1, .ref (bo X + pp 0)), (2, .ref (bo X + pp 207)), (3, .ref (bo X + pp 262)), (4, .int i)] [] := by
    intro pc9 hpc9
    subst hpc9
    refine v_goto (pc := 898) 1333 O dL_law_898 (by decide) ?_
    refine v_sub [2, 3, 4, 5, 6] rfl ?_
    exact kk n1 (c - 1) (u - 6) k1 (by omega) (by omega)
  refine v_iload (pc := 881) O dL_law_881 1 rfl ?_
  refine v_ifne (pc := 883) 898 O dL_law_883 (by decide) (fun _ => fin _ rfl) (fun c8 => ?_)
  refine v_aload_n (pc := 886) O dL_law_886 5 rfl ?_
  refine v_iconst (pc := 887) O dL_law_887 ic_0 ?_
  refine v_lald (pc := 888) (a := 262) O kq_262 (inq lq_262 (by decide)) dL_law_888 ?_
  rw [g.2 c8]
  refine v_iload (pc := 889) O dL_law_889 0 rfl ?_
  refine v_i2l (pc := 891) O dL_law_891 ?_
  refine v_lcmp (pc := 892) O dL_law_892 ?_
  exact v_ifeq (pc := 893) 898 O dL_law_893 (by decide) (fun _ => fin _ rfl) (fun c9 => absurd (cmp_self _) c9)
set_option maxHeartbeats 4000000 in
theorem lw_case12 {X : Cx} {Q : State → Prop} {b L N nu n c u : Nat} {ss : Nat → Int32} {K : Nat → Nat} {D : Dat} {i a1 a2 a3 : Int32} {K' : Nat → Nat} {D' : Dat} (O : Ok X cL_law RL (some .boolean) 2048 84000) (hm : wlm (xw X) = true) (hn : xn X = 7) (hl : (xl X).stackTraces = false) (hT : xC X ≤ (xR X).cells ∧ xU X ≤ (xR X).slots) (hX : va_X b L ss (xs X) (xs X).heap) (hbl : b < (xs X).heap.size) (hbo : ¬ bo X ≤ b) (h1 : ¬ (i + 1 < 0 ∨ L ≤ (i + 1).toNatClampNeg)) (g1 : ss (i + 1).toNatClampNeg = a1) (h2 : ¬ (i + 2 < 0 ∨ L ≤ (i + 2).toNatClampNeg)) (g2 : ss (i + 2).toNatClampNeg = a2) (h3 : ¬ (i + 3 < 0 ∨ L ≤ (i + 3).toNatClampNeg)) (g3 : ss (i + 3).toNatClampNeg = a3) (h : stp_12 N nu n K D a1 a2 a3 = some (K', D')) (hcu : 9200 ≤ c ∧ 112000 ≤ u)
    (kk : ∀ n' c' u', n ≤ n' → c - 9200 ≤ c' → u - 112000 ≤ u' → V X Q n' (Ax nu K' c' u') D' 1333 [(0, .ref b), (1, .ref (bo X + pp 0)), (2, .ref (bo X + pp 207)), (3, .ref (bo X + pp 262)), (4, .int i)] []) : V X Q n (Ax nu K c u) D 901 [(0, .ref b), (1, .ref (bo X + pp 0)), (2, .ref (bo X + pp 207)), (3, .ref (bo X + pp 262)), (4, .int i)] [] := by
  have hBB : ∀ {A : Al}, BB X A := ⟨Nat.le_trans hT.1 (Nat.le_add_right _ _), Nat.le_trans hT.2 (Nat.le_add_right _ _)⟩
  unfold stp_12 at h
  obtain ⟨p, e1, h⟩ := bind_some h
  obtain ⟨q, e2, h⟩ := bind_some h
  obtain ⟨r, e3, h⟩ := bind_some h
  obtain ⟨g, h⟩ := if_none h
  cases h
  refine v_aload_n (pc := 901) O dL_law_901 1 rfl ?_
  refine v_aload_n (pc := 902) O dL_law_902 0 rfl ?_
  refine v_iload (pc := 903) O dL_law_903 4 rfl ?_
  refine v_iconst (pc := 905) O dL_law_905 ic_1 ?_
  refine v_iadd (pc := 906) O dL_law_906 ?_
  refine v_sld (pc := 907) O hX hbl hbo h1 dL_law_907 ?_
  rw [g1]
  refine v_aload_n (pc := 908) O dL_law_908 3 rfl ?_
  refine v_call3S (pc := 909) (cm := 1) (um := 6) (As := [.ref (bo X + pp 0), .int a1, .ref (bo X + pp 262)]) (rest := []) (r := (some (.int p.1))) (K' := K) (D' := p.2) O hT ⟨by omega, by omega⟩ (c_L_drain (n := n) (nu := nu) (K := K) hl hm e1 :) mwh_L_drain sm_L_drain ml_L_139 rfl (Nat.le_of_ble_eq_true rfl) (Nat.le_of_ble_eq_true rfl) (Nat.le_of_ble_eq_true rfl) dL_law_909 rfl rfl (fun n1 k1 => ?_)
  refine v_istore (pc := 912) (lv' := [(5, .int p.1), (0, .ref b), (1, .ref (bo X + pp 0)), (2, .ref (bo X + pp 207)), (3, .ref (bo X + pp 262)), (4, .int i)]) O dL_law_912 (by rw [hn]; decide) rfl ?_
  refine v_aload_n (pc := 914) O dL_law_914 3 rfl ?_
  refine v_aload_n (pc := 915) O dL_law_915 1 rfl ?_
  refine v_iload (pc := 916) O dL_law_916 5 rfl ?_
  refine v_iconst (pc := 918) O dL_law_918 ic_1 ?_
  refine v_iadd (pc := 919) O dL_law_919 ?_
  refine v_sld (pc := 920) O hX hbl hbo h1 dL_law_920 ?_
  rw [g1]
  refine v_callV (pc := 921) (a := 207) (As := [.int a1]) (rest := []) (r := (some (.int q.1))) (D' := q.2) O hBB (c_X12_drain hm e2) mw_X12_drain im_X12_drain se_X12_drain ml_L_142 kq_207 (by decide) rfl rfl rfl (Nat.le_of_ble_eq_true rfl) (Nat.le_of_ble_eq_true rfl) (Nat.le_of_ble_eq_true rfl) dL_law_921 rfl rfl ?_
  refine v_istore (pc := 924) (lv' := [(6, .int q.1), (5, .int p.1), (0, .ref b), (1, .ref (bo X + pp 0)), (2, .ref (bo X + pp 207)), (3, .ref (bo X + pp 262)), (4, .int i)]) O dL_law_924 (by rw [hn]; decide) rfl ?_
  refine v_aload_n (pc := 926) O dL_law_926 4 rfl ?_
  refine v_callV (pc := 927) (a := 207) (As := []) (rest := []) (r := (some (.int r.1))) (D' := r.2) O hBB (c_X12_thrown hm e3) mw_X12_thrown im_X12_thrown se_X12_thrown ml_L_96 kq_207 (by decide) rfl rfl rfl (Nat.le_of_ble_eq_true rfl) (Nat.le_of_ble_eq_true rfl) (Nat.le_of_ble_eq_true rfl) dL_law_927 rfl rfl ?_
  refine v_iload (pc := 930) O dL_law_930 1 rfl ?_
  refine v_icmpeq (pc := 932) 937 O dL_law_932 (by decide) (fun _ => ?_) (fun c9 => absurd g.1 c9)
  have fin : ∀ pc9, pc9 = 954 → V X Q n1 (Ax nu K (c - 1) (u - 6)) r.2 pc9 [(6, .int q.1), (5, .int p.1), (0, .ref b), (1, .ref (bo X + pp 0)), (2, .ref (bo X + pp 207)), (3, .ref (bo X + pp 262)), (4, .int i)] [] := by
    intro pc9 hpc9
    subst hpc9
    refine v_goto (pc := 954) 1333 O dL_law_954 (by decide) ?_
    refine v_sub [2, 3, 4, 5, 6] rfl ?_
    exact kk n1 (c - 1) (u - 6) k1 (by omega) (by omega)
  refine v_iload (pc := 937) O dL_law_937 1 rfl ?_
  refine v_ifne (pc := 939) 954 O dL_law_939 (by decide) (fun _ => fin _ rfl) (fun c8 => ?_)
  refine v_aload_n (pc := 942) O dL_law_942 5 rfl ?_
  refine v_iconst (pc := 943) O dL_law_943 ic_0 ?_
  refine v_lald (pc := 944) (a := 262) O kq_262 (inq lq_262 (by decide)) dL_law_944 ?_
  rw [g.2 c8]
  refine v_iload (pc := 945) O dL_law_945 0 rfl ?_
  refine v_i2l (pc := 947) O dL_law_947 ?_
  refine v_lcmp (pc := 948) O dL_law_948 ?_
  exact v_ifeq (pc := 949) 954 O dL_law_949 (by decide) (fun _ => fin _ rfl) (fun c9 => absurd (cmp_self _) c9)
set_option maxHeartbeats 4000000 in
theorem lw_case13 {X : Cx} {Q : State → Prop} {b L N nu n c u : Nat} {ss : Nat → Int32} {K : Nat → Nat} {D : Dat} {i a1 a2 a3 : Int32} {K' : Nat → Nat} {D' : Dat} (O : Ok X cL_law RL (some .boolean) 2048 84000) (hm : wlm (xw X) = true) (hn : xn X = 7) (hl : (xl X).stackTraces = false) (hT : xC X ≤ (xR X).cells ∧ xU X ≤ (xR X).slots) (hX : va_X b L ss (xs X) (xs X).heap) (hbl : b < (xs X).heap.size) (hbo : ¬ bo X ≤ b) (h1 : ¬ (i + 1 < 0 ∨ L ≤ (i + 1).toNatClampNeg)) (g1 : ss (i + 1).toNatClampNeg = a1) (h2 : ¬ (i + 2 < 0 ∨ L ≤ (i + 2).toNatClampNeg)) (g2 : ss (i + 2).toNatClampNeg = a2) (h3 : ¬ (i + 3 < 0 ∨ L ≤ (i + 3).toNatClampNeg)) (g3 : ss (i + 3).toNatClampNeg = a3) (h : stp_13 N nu n K D a1 a2 a3 = some (K', D')) (hcu : 9200 ≤ c ∧ 112000 ≤ u)
    (kk : ∀ n' c' u', n ≤ n' → c - 9200 ≤ c' → u - 112000 ≤ u' → V X Q n' (Ax nu K' c' u') D' 1333 [(0, .ref b), (1, .ref (bo X + pp 0)), (2, .ref (bo X + pp 207)), (3, .ref (bo X + pp 262)), (4, .int i)] []) : V X Q n (Ax nu K c u) D 957 [(0, .ref b), (1, .ref (bo X + pp 0)), (2, .ref (bo X + pp 207)), (3, .ref (bo X + pp 262)), (4, .int i)] [] := by
  have hBB : ∀ {A : Al}, BB X A := ⟨Nat.le_trans hT.1 (Nat.le_add_right _ _), Nat.le_trans hT.2 (Nat.le_add_right _ _)⟩
  unfold stp_13 at h
  obtain ⟨p, e1, h⟩ := bind_some h
  obtain ⟨q, e2, h⟩ := bind_some h
  obtain ⟨r, e3, h⟩ := bind_some h
  obtain ⟨g, h⟩ := if_none h
  cases h
  refine v_aload_n (pc := 957) O dL_law_957 1 rfl ?_
  refine v_aload_n (pc := 958) O dL_law_958 0 rfl ?_
  refine v_iload (pc := 959) O dL_law_959 4 rfl ?_
  refine v_iconst (pc := 961) O dL_law_961 ic_1 ?_
  refine v_iadd (pc := 962) O dL_law_962 ?_
  refine v_sld (pc := 963) O hX hbl hbo h1 dL_law_963 ?_
  rw [g1]
  refine v_aload_n (pc := 964) O dL_law_964 3 rfl ?_
  refine v_call3S (pc := 965) (cm := 1) (um := 6) (As := [.ref (bo X + pp 0), .int a1, .ref (bo X + pp 262)]) (rest := []) (r := (some (.int p.1))) (K' := K) (D' := p.2) O hT ⟨by omega, by omega⟩ (c_L_run (n := n) (nu := nu) (K := K) hl hm e1 :) mwh_L_run sm_L_run ml_L_143 rfl (Nat.le_of_ble_eq_true rfl) (Nat.le_of_ble_eq_true rfl) (Nat.le_of_ble_eq_true rfl) dL_law_965 rfl rfl (fun n1 k1 => ?_)
  refine v_istore (pc := 968) (lv' := [(5, .int p.1), (0, .ref b), (1, .ref (bo X + pp 0)), (2, .ref (bo X + pp 207)), (3, .ref (bo X + pp 262)), (4, .int i)]) O dL_law_968 (by rw [hn]; decide) rfl ?_
  refine v_aload_n (pc := 970) O dL_law_970 3 rfl ?_
  refine v_aload_n (pc := 971) O dL_law_971 1 rfl ?_
  refine v_iload (pc := 972) O dL_law_972 5 rfl ?_
  refine v_iconst (pc := 974) O dL_law_974 ic_1 ?_
  refine v_iadd (pc := 975) O dL_law_975 ?_
  refine v_sld (pc := 976) O hX hbl hbo h1 dL_law_976 ?_
  rw [g1]
  refine v_callV (pc := 977) (a := 207) (As := [.int a1]) (rest := []) (r := (some (.int q.1))) (D' := q.2) O hBB (c_X12_run hm e2) mw_X12_run im_X12_run se_X12_run ml_L_145 kq_207 (by decide) rfl rfl rfl (Nat.le_of_ble_eq_true rfl) (Nat.le_of_ble_eq_true rfl) (Nat.le_of_ble_eq_true rfl) dL_law_977 rfl rfl ?_
  refine v_istore (pc := 980) (lv' := [(6, .int q.1), (5, .int p.1), (0, .ref b), (1, .ref (bo X + pp 0)), (2, .ref (bo X + pp 207)), (3, .ref (bo X + pp 262)), (4, .int i)]) O dL_law_980 (by rw [hn]; decide) rfl ?_
  refine v_aload_n (pc := 982) O dL_law_982 4 rfl ?_
  refine v_callV (pc := 983) (a := 207) (As := []) (rest := []) (r := (some (.int r.1))) (D' := r.2) O hBB (c_X12_thrown hm e3) mw_X12_thrown im_X12_thrown se_X12_thrown ml_L_96 kq_207 (by decide) rfl rfl rfl (Nat.le_of_ble_eq_true rfl) (Nat.le_of_ble_eq_true rfl) (Nat.le_of_ble_eq_true rfl) dL_law_983 rfl rfl ?_
  refine v_iload (pc := 986) O dL_law_986 1 rfl ?_
  refine v_icmpeq (pc := 988) 993 O dL_law_988 (by decide) (fun _ => ?_) (fun c9 => absurd g.1 c9)
  have fin : ∀ pc9, pc9 = 1010 → V X Q n1 (Ax nu K (c - 1) (u - 6)) r.2 pc9 [(6, .int q.1), (5, .int p.1), (0, .ref b), (1, .ref (bo X + pp 0)), (2, .ref (bo X + pp 207)), (3, .ref (bo X + pp 262)), (4, .int i)] [] := by
    intro pc9 hpc9
    subst hpc9
    refine v_goto (pc := 1010) 1333 O dL_law_1010 (by decide) ?_
    refine v_sub [2, 3, 4, 5, 6] rfl ?_
    exact kk n1 (c - 1) (u - 6) k1 (by omega) (by omega)
  refine v_iload (pc := 993) O dL_law_993 1 rfl ?_
  refine v_ifne (pc := 995) 1010 O dL_law_995 (by decide) (fun _ => fin _ rfl) (fun c8 => ?_)
  refine v_aload_n (pc := 998) O dL_law_998 5 rfl ?_
  refine v_iconst (pc := 999) O dL_law_999 ic_0 ?_
  refine v_lald (pc := 1000) (a := 262) O kq_262 (inq lq_262 (by decide)) dL_law_1000 ?_
  rw [g.2 c8]
  refine v_iload (pc := 1001) O dL_law_1001 0 rfl ?_
  refine v_i2l (pc := 1003) O dL_law_1003 ?_
  refine v_lcmp (pc := 1004) O dL_law_1004 ?_
  exact v_ifeq (pc := 1005) 1010 O dL_law_1005 (by decide) (fun _ => fin _ rfl) (fun c9 => absurd (cmp_self _) c9)
set_option maxHeartbeats 4000000 in
theorem lw_case14 {X : Cx} {Q : State → Prop} {b L N nu n c u : Nat} {ss : Nat → Int32} {K : Nat → Nat} {D : Dat} {i a1 a2 a3 : Int32} {K' : Nat → Nat} {D' : Dat} (O : Ok X cL_law RL (some .boolean) 2048 84000) (hm : wlm (xw X) = true) (hn : xn X = 7) (hl : (xl X).stackTraces = false) (hT : xC X ≤ (xR X).cells ∧ xU X ≤ (xR X).slots) (hX : va_X b L ss (xs X) (xs X).heap) (hbl : b < (xs X).heap.size) (hbo : ¬ bo X ≤ b) (h1 : ¬ (i + 1 < 0 ∨ L ≤ (i + 1).toNatClampNeg)) (g1 : ss (i + 1).toNatClampNeg = a1) (h2 : ¬ (i + 2 < 0 ∨ L ≤ (i + 2).toNatClampNeg)) (g2 : ss (i + 2).toNatClampNeg = a2) (h3 : ¬ (i + 3 < 0 ∨ L ≤ (i + 3).toNatClampNeg)) (g3 : ss (i + 3).toNatClampNeg = a3) (h : stp_14 N nu n K D a1 a2 a3 = some (K', D')) (hcu : 9200 ≤ c ∧ 112000 ≤ u)
    (kk : ∀ n' c' u', n ≤ n' → c - 9200 ≤ c' → u - 112000 ≤ u' → V X Q n' (Ax nu K' c' u') D' 1333 [(0, .ref b), (1, .ref (bo X + pp 0)), (2, .ref (bo X + pp 207)), (3, .ref (bo X + pp 262)), (4, .int i)] []) : V X Q n (Ax nu K c u) D 1013 [(0, .ref b), (1, .ref (bo X + pp 0)), (2, .ref (bo X + pp 207)), (3, .ref (bo X + pp 262)), (4, .int i)] [] := by
  have hBB : ∀ {A : Al}, BB X A := ⟨Nat.le_trans hT.1 (Nat.le_add_right _ _), Nat.le_trans hT.2 (Nat.le_add_right _ _)⟩
  unfold stp_14 at h
  obtain ⟨p, e1, h⟩ := bind_some h
  obtain ⟨q, e2, h⟩ := bind_some h
  obtain ⟨r, e3, h⟩ := bind_some h
  obtain ⟨g, h⟩ := if_none h
  cases h
  refine v_aload_n (pc := 1013) O dL_law_1013 1 rfl ?_
  refine v_aload_n (pc := 1014) O dL_law_1014 0 rfl ?_
  refine v_iload (pc := 1015) O dL_law_1015 4 rfl ?_
  refine v_iconst (pc := 1017) O dL_law_1017 ic_1 ?_
  refine v_iadd (pc := 1018) O dL_law_1018 ?_
  refine v_sld (pc := 1019) O hX hbl hbo h1 dL_law_1019 ?_
  rw [g1]
  refine v_aload_n (pc := 1020) O dL_law_1020 3 rfl ?_
  refine v_call3S (pc := 1021) (cm := 1) (um := 6) (As := [.ref (bo X + pp 0), .int a1, .ref (bo X + pp 262)]) (rest := []) (r := (some (.int p.1))) (K' := K) (D' := p.2) O hT ⟨by omega, by omega⟩ (c_L_walk (n := n) (nu := nu) (K := K) hl hm e1 :) mwh_L_walk sm_L_walk ml_L_146 rfl (Nat.le_of_ble_eq_true rfl) (Nat.le_of_ble_eq_true rfl) (Nat.le_of_ble_eq_true rfl) dL_law_1021 rfl rfl (fun n1 k1 => ?_)
  refine v_istore (pc := 1024) (lv' := [(5, .int p.1), (0, .ref b), (1, .ref (bo X + pp 0)), (2, .ref (bo X + pp 207)), (3, .ref (bo X + pp 262)), (4, .int i)]) O dL_law_1024 (by rw [hn]; decide) rfl ?_
  refine v_aload_n (pc := 1026) O dL_law_1026 3 rfl ?_
  refine v_aload_n (pc := 1027) O dL_law_1027 1 rfl ?_
  refine v_iload (pc := 1028) O dL_law_1028 5 rfl ?_
  refine v_iconst (pc := 1030) O dL_law_1030 ic_1 ?_
  refine v_iadd (pc := 1031) O dL_law_1031 ?_
  refine v_sld (pc := 1032) O hX hbl hbo h1 dL_law_1032 ?_
  rw [g1]
  refine v_callV (pc := 1033) (a := 207) (As := [.int a1]) (rest := []) (r := (some (.int q.1))) (D' := q.2) O hBB (c_X12_walk hm e2) mw_X12_walk im_X12_walk se_X12_walk ml_L_148 kq_207 (by decide) rfl rfl rfl (Nat.le_of_ble_eq_true rfl) (Nat.le_of_ble_eq_true rfl) (Nat.le_of_ble_eq_true rfl) dL_law_1033 rfl rfl ?_
  refine v_istore (pc := 1036) (lv' := [(6, .int q.1), (5, .int p.1), (0, .ref b), (1, .ref (bo X + pp 0)), (2, .ref (bo X + pp 207)), (3, .ref (bo X + pp 262)), (4, .int i)]) O dL_law_1036 (by rw [hn]; decide) rfl ?_
  refine v_aload_n (pc := 1038) O dL_law_1038 4 rfl ?_
  refine v_callV (pc := 1039) (a := 207) (As := []) (rest := []) (r := (some (.int r.1))) (D' := r.2) O hBB (c_X12_thrown hm e3) mw_X12_thrown im_X12_thrown se_X12_thrown ml_L_96 kq_207 (by decide) rfl rfl rfl (Nat.le_of_ble_eq_true rfl) (Nat.le_of_ble_eq_true rfl) (Nat.le_of_ble_eq_true rfl) dL_law_1039 rfl rfl ?_
  refine v_iload (pc := 1042) O dL_law_1042 1 rfl ?_
  refine v_icmpeq (pc := 1044) 1049 O dL_law_1044 (by decide) (fun _ => ?_) (fun c9 => absurd g.1 c9)
  have fin : ∀ pc9, pc9 = 1066 → V X Q n1 (Ax nu K (c - 1) (u - 6)) r.2 pc9 [(6, .int q.1), (5, .int p.1), (0, .ref b), (1, .ref (bo X + pp 0)), (2, .ref (bo X + pp 207)), (3, .ref (bo X + pp 262)), (4, .int i)] [] := by
    intro pc9 hpc9
    subst hpc9
    refine v_goto (pc := 1066) 1333 O dL_law_1066 (by decide) ?_
    refine v_sub [2, 3, 4, 5, 6] rfl ?_
    exact kk n1 (c - 1) (u - 6) k1 (by omega) (by omega)
  refine v_iload (pc := 1049) O dL_law_1049 1 rfl ?_
  refine v_ifne (pc := 1051) 1066 O dL_law_1051 (by decide) (fun _ => fin _ rfl) (fun c8 => ?_)
  refine v_aload_n (pc := 1054) O dL_law_1054 5 rfl ?_
  refine v_iconst (pc := 1055) O dL_law_1055 ic_0 ?_
  refine v_lald (pc := 1056) (a := 262) O kq_262 (inq lq_262 (by decide)) dL_law_1056 ?_
  rw [g.2 c8]
  refine v_iload (pc := 1057) O dL_law_1057 0 rfl ?_
  refine v_i2l (pc := 1059) O dL_law_1059 ?_
  refine v_lcmp (pc := 1060) O dL_law_1060 ?_
  exact v_ifeq (pc := 1061) 1066 O dL_law_1061 (by decide) (fun _ => fin _ rfl) (fun c9 => absurd (cmp_self _) c9)
set_option maxHeartbeats 4000000 in
theorem lw_case15 {X : Cx} {Q : State → Prop} {b L N nu n c u : Nat} {ss : Nat → Int32} {K : Nat → Nat} {D : Dat} {i a1 a2 a3 : Int32} {K' : Nat → Nat} {D' : Dat} (O : Ok X cL_law RL (some .boolean) 2048 84000) (hm : wlm (xw X) = true) (hn : xn X = 7) (hl : (xl X).stackTraces = false) (hT : xC X ≤ (xR X).cells ∧ xU X ≤ (xR X).slots) (hX : va_X b L ss (xs X) (xs X).heap) (hbl : b < (xs X).heap.size) (hbo : ¬ bo X ≤ b) (h1 : ¬ (i + 1 < 0 ∨ L ≤ (i + 1).toNatClampNeg)) (g1 : ss (i + 1).toNatClampNeg = a1) (h2 : ¬ (i + 2 < 0 ∨ L ≤ (i + 2).toNatClampNeg)) (g2 : ss (i + 2).toNatClampNeg = a2) (h3 : ¬ (i + 3 < 0 ∨ L ≤ (i + 3).toNatClampNeg)) (g3 : ss (i + 3).toNatClampNeg = a3) (h : stp_15 N nu n K D a1 a2 a3 = some (K', D')) (hcu : 9200 ≤ c ∧ 112000 ≤ u)
    (kk : ∀ n' c' u', n ≤ n' → c - 9200 ≤ c' → u - 112000 ≤ u' → V X Q n' (Ax nu K' c' u') D' 1333 [(0, .ref b), (1, .ref (bo X + pp 0)), (2, .ref (bo X + pp 207)), (3, .ref (bo X + pp 262)), (4, .int i)] []) : V X Q n (Ax nu K c u) D 1069 [(0, .ref b), (1, .ref (bo X + pp 0)), (2, .ref (bo X + pp 207)), (3, .ref (bo X + pp 262)), (4, .int i)] [] := by
  have hBB : ∀ {A : Al}, BB X A := ⟨Nat.le_trans hT.1 (Nat.le_add_right _ _), Nat.le_trans hT.2 (Nat.le_add_right _ _)⟩
  unfold stp_15 at h
  obtain ⟨p, e1, h⟩ := bind_some h
  obtain ⟨q, e2, h⟩ := bind_some h
  obtain ⟨r, e3, h⟩ := bind_some h
  obtain ⟨g, h⟩ := if_none h
  cases h
  refine v_aload_n (pc := 1069) O dL_law_1069 1 rfl ?_
  refine v_aload_n (pc := 1070) O dL_law_1070 0 rfl ?_
  refine v_iload (pc := 1071) O dL_law_1071 4 rfl ?_
  refine v_iconst (pc := 1073) O dL_law_1073 ic_1 ?_
  refine v_iadd (pc := 1074) O dL_law_1074 ?_
  refine v_sld (pc := 1075) O hX hbl hbo h1 dL_law_1075 ?_
  rw [g1]
  refine v_aload_n (pc := 1076) O dL_law_1076 0 rfl ?_
  refine v_iload (pc := 1077) O dL_law_1077 4 rfl ?_
  refine v_iconst (pc := 1079) O dL_law_1079 ic_2 ?_
  refine v_iadd (pc := 1080) O dL_law_1080 ?_
  refine v_sld (pc := 1081) O hX hbl hbo h2 dL_law_1081 ?_
  rw [g2]
  refine v_aload_n (pc := 1082) O dL_law_1082 3 rfl ?_
  refine v_call3S (pc := 1083) (cm := 1) (um := 6) (As := [.ref (bo X + pp 0), .int a1, .int a2, .ref (bo X + pp 262)]) (rest := []) (r := (some (.int p.1))) (K' := K) (D' := p.2) O hT ⟨by omega, by omega⟩ (c_L_output (n := n) (nu := nu) (K := K) hl hm e1 :) mwh_L_output sm_L_output ml_L_149 rfl (Nat.le_of_ble_eq_true rfl) (Nat.le_of_ble_eq_true rfl) (Nat.le_of_ble_eq_true rfl) dL_law_1083 rfl rfl (fun n1 k1 => ?_)
  refine v_istore (pc := 1086) (lv' := [(5, .int p.1), (0, .ref b), (1, .ref (bo X + pp 0)), (2, .ref (bo X + pp 207)), (3, .ref (bo X + pp 262)), (4, .int i)]) O dL_law_1086 (by rw [hn]; decide) rfl ?_
  refine v_aload_n (pc := 1088) O dL_law_1088 3 rfl ?_
  refine v_aload_n (pc := 1089) O dL_law_1089 1 rfl ?_
  refine v_iload (pc := 1090) O dL_law_1090 5 rfl ?_
  refine v_iconst (pc := 1092) O dL_law_1092 ic_1 ?_
  refine v_iadd (pc := 1093) O dL_law_1093 ?_
  refine v_sld (pc := 1094) O hX hbl hbo h1 dL_law_1094 ?_
  rw [g1]
  refine v_aload_n (pc := 1095) O dL_law_1095 1 rfl ?_
  refine v_iload (pc := 1096) O dL_law_1096 5 rfl ?_
  refine v_iconst (pc := 1098) O dL_law_1098 ic_2 ?_
  refine v_iadd (pc := 1099) O dL_law_1099 ?_
  refine v_sld (pc := 1100) O hX hbl hbo h2 dL_law_1100 ?_
  rw [g2]
  refine v_callV (pc := 1101) (a := 207) (As := [.int a1, .int a2]) (rest := []) (r := (some (.int q.1))) (D' := q.2) O hBB (c_X12_output hm e2) mw_X12_output im_X12_output se_X12_output ml_L_151 kq_207 (by decide) rfl rfl rfl (Nat.le_of_ble_eq_true rfl) (Nat.le_of_ble_eq_true rfl) (Nat.le_of_ble_eq_true rfl) dL_law_1101 rfl rfl ?_
  refine v_istore (pc := 1104) (lv' := [(6, .int q.1), (5, .int p.1), (0, .ref b), (1, .ref (bo X + pp 0)), (2, .ref (bo X + pp 207)), (3, .ref (bo X + pp 262)), (4, .int i)]) O dL_law_1104 (by rw [hn]; decide) rfl ?_
  refine v_aload_n (pc := 1106) O dL_law_1106 4 rfl ?_
  refine v_callV (pc := 1107) (a := 207) (As := []) (rest := []) (r := (some (.int r.1))) (D' := r.2) O hBB (c_X12_thrown hm e3) mw_X12_thrown im_X12_thrown se_X12_thrown ml_L_96 kq_207 (by decide) rfl rfl rfl (Nat.le_of_ble_eq_true rfl) (Nat.le_of_ble_eq_true rfl) (Nat.le_of_ble_eq_true rfl) dL_law_1107 rfl rfl ?_
  refine v_iload (pc := 1110) O dL_law_1110 1 rfl ?_
  refine v_icmpeq (pc := 1112) 1117 O dL_law_1112 (by decide) (fun _ => ?_) (fun c9 => absurd g.1 c9)
  have fin : ∀ pc9, pc9 = 1134 → V X Q n1 (Ax nu K (c - 1) (u - 6)) r.2 pc9 [(6, .int q.1), (5, .int p.1), (0, .ref b), (1, .ref (bo X + pp 0)), (2, .ref (bo X + pp 207)), (3, .ref (bo X + pp 262)), (4, .int i)] [] := by
    intro pc9 hpc9
    subst hpc9
    refine v_goto (pc := 1134) 1333 O dL_law_1134 (by decide) ?_
    refine v_sub [2, 3, 4, 5, 6] rfl ?_
    exact kk n1 (c - 1) (u - 6) k1 (by omega) (by omega)
  refine v_iload (pc := 1117) O dL_law_1117 1 rfl ?_
  refine v_ifne (pc := 1119) 1134 O dL_law_1119 (by decide) (fun _ => fin _ rfl) (fun c8 => ?_)
  refine v_aload_n (pc := 1122) O dL_law_1122 5 rfl ?_
  refine v_iconst (pc := 1123) O dL_law_1123 ic_0 ?_
  refine v_lald (pc := 1124) (a := 262) O kq_262 (inq lq_262 (by decide)) dL_law_1124 ?_
  rw [g.2 c8]
  refine v_iload (pc := 1125) O dL_law_1125 0 rfl ?_
  refine v_i2l (pc := 1127) O dL_law_1127 ?_
  refine v_lcmp (pc := 1128) O dL_law_1128 ?_
  exact v_ifeq (pc := 1129) 1134 O dL_law_1129 (by decide) (fun _ => fin _ rfl) (fun c9 => absurd (cmp_self _) c9)
set_option maxHeartbeats 4000000 in
theorem lw_case16 {X : Cx} {Q : State → Prop} {b L N nu n c u : Nat} {ss : Nat → Int32} {K : Nat → Nat} {D : Dat} {i a1 a2 a3 : Int32} {K' : Nat → Nat} {D' : Dat} (O : Ok X cL_law RL (some .boolean) 2048 84000) (hm : wlm (xw X) = true) (hn : xn X = 7) (hl : (xl X).stackTraces = false) (hT : xC X ≤ (xR X).cells ∧ xU X ≤ (xR X).slots) (hX : va_X b L ss (xs X) (xs X).heap) (hbl : b < (xs X).heap.size) (hbo : ¬ bo X ≤ b) (h1 : ¬ (i + 1 < 0 ∨ L ≤ (i + 1).toNatClampNeg)) (g1 : ss (i + 1).toNatClampNeg = a1) (h2 : ¬ (i + 2 < 0 ∨ L ≤ (i + 2).toNatClampNeg)) (g2 : ss (i + 2).toNatClampNeg = a2) (h3 : ¬ (i + 3 < 0 ∨ L ≤ (i + 3).toNatClampNeg)) (g3 : ss (i + 3).toNatClampNeg = a3) (h : stp_16 N nu n K D a1 a2 a3 = some (K', D')) (hcu : 9200 ≤ c ∧ 112000 ≤ u)
    (kk : ∀ n' c' u', n ≤ n' → c - 9200 ≤ c' → u - 112000 ≤ u' → V X Q n' (Ax nu K' c' u') D' 1333 [(0, .ref b), (1, .ref (bo X + pp 0)), (2, .ref (bo X + pp 207)), (3, .ref (bo X + pp 262)), (4, .int i)] []) : V X Q n (Ax nu K c u) D 1137 [(0, .ref b), (1, .ref (bo X + pp 0)), (2, .ref (bo X + pp 207)), (3, .ref (bo X + pp 262)), (4, .int i)] [] := by
  have hBB : ∀ {A : Al}, BB X A := ⟨Nat.le_trans hT.1 (Nat.le_add_right _ _), Nat.le_trans hT.2 (Nat.le_add_right _ _)⟩
  unfold stp_16 at h
  obtain ⟨p, e1, h⟩ := bind_some h
  obtain ⟨q, e2, h⟩ := bind_some h
  obtain ⟨r, e3, h⟩ := bind_some h
  obtain ⟨g, h⟩ := if_none h
  cases h
  refine v_aload_n (pc := 1137) O dL_law_1137 1 rfl ?_
  refine v_aload_n (pc := 1138) O dL_law_1138 0 rfl ?_
  refine v_iload (pc := 1139) O dL_law_1139 4 rfl ?_
  refine v_iconst (pc := 1141) O dL_law_1141 ic_1 ?_
  refine v_iadd (pc := 1142) O dL_law_1142 ?_
  refine v_sld (pc := 1143) O hX hbl hbo h1 dL_law_1143 ?_
  rw [g1]
  refine v_aload_n (pc := 1144) O dL_law_1144 3 rfl ?_
  refine v_call3S (pc := 1145) (cm := 1) (um := 6) (As := [.ref (bo X + pp 0), .int a1, .ref (bo X + pp 262)]) (rest := []) (r := (some (.int p.1))) (K' := K) (D' := p.2) O hT ⟨by omega, by omega⟩ (c_L_value (n := n) (nu := nu) (K := K) hl hm e1 :) mwh_L_value sm_L_value ml_L_152 rfl (Nat.le_of_ble_eq_true rfl) (Nat.le_of_ble_eq_true rfl) (Nat.le_of_ble_eq_true rfl) dL_law_1145 rfl rfl (fun n1 k1 => ?_)
  refine v_istore (pc := 1148) (lv' := [(5, .int p.1), (0, .ref b), (1, .ref (bo X + pp 0)), (2, .ref (bo X + pp 207)), (3, .ref (bo X + pp 262)), (4, .int i)]) O dL_law_1148 (by rw [hn]; decide) rfl ?_
  refine v_aload_n (pc := 1150) O dL_law_1150 3 rfl ?_
  refine v_aload_n (pc := 1151) O dL_law_1151 1 rfl ?_
  refine v_iload (pc := 1152) O dL_law_1152 5 rfl ?_
  refine v_iconst (pc := 1154) O dL_law_1154 ic_1 ?_
  refine v_iadd (pc := 1155) O dL_law_1155 ?_
  refine v_sld (pc := 1156) O hX hbl hbo h1 dL_law_1156 ?_
  rw [g1]
  refine v_callV (pc := 1157) (a := 207) (As := [.int a1]) (rest := []) (r := (some (.int q.1))) (D' := q.2) O hBB (c_X12_value hm e2) mw_X12_value im_X12_value se_X12_value ml_L_154 kq_207 (by decide) rfl rfl rfl (Nat.le_of_ble_eq_true rfl) (Nat.le_of_ble_eq_true rfl) (Nat.le_of_ble_eq_true rfl) dL_law_1157 rfl rfl ?_
  refine v_istore (pc := 1160) (lv' := [(6, .int q.1), (5, .int p.1), (0, .ref b), (1, .ref (bo X + pp 0)), (2, .ref (bo X + pp 207)), (3, .ref (bo X + pp 262)), (4, .int i)]) O dL_law_1160 (by rw [hn]; decide) rfl ?_
  refine v_aload_n (pc := 1162) O dL_law_1162 4 rfl ?_
  refine v_callV (pc := 1163) (a := 207) (As := []) (rest := []) (r := (some (.int r.1))) (D' := r.2) O hBB (c_X12_thrown hm e3) mw_X12_thrown im_X12_thrown se_X12_thrown ml_L_96 kq_207 (by decide) rfl rfl rfl (Nat.le_of_ble_eq_true rfl) (Nat.le_of_ble_eq_true rfl) (Nat.le_of_ble_eq_true rfl) dL_law_1163 rfl rfl ?_
  refine v_iload (pc := 1166) O dL_law_1166 1 rfl ?_
  refine v_icmpeq (pc := 1168) 1173 O dL_law_1168 (by decide) (fun _ => ?_) (fun c9 => absurd g.1 c9)
  have fin : ∀ pc9, pc9 = 1190 → V X Q n1 (Ax nu K (c - 1) (u - 6)) r.2 pc9 [(6, .int q.1), (5, .int p.1), (0, .ref b), (1, .ref (bo X + pp 0)), (2, .ref (bo X + pp 207)), (3, .ref (bo X + pp 262)), (4, .int i)] [] := by
    intro pc9 hpc9
    subst hpc9
    refine v_goto (pc := 1190) 1333 O dL_law_1190 (by decide) ?_
    refine v_sub [2, 3, 4, 5, 6] rfl ?_
    exact kk n1 (c - 1) (u - 6) k1 (by omega) (by omega)
  refine v_iload (pc := 1173) O dL_law_1173 1 rfl ?_
  refine v_ifne (pc := 1175) 1190 O dL_law_1175 (by decide) (fun _ => fin _ rfl) (fun c8 => ?_)
  refine v_aload_n (pc := 1178) O dL_law_1178 5 rfl ?_
  refine v_iconst (pc := 1179) O dL_law_1179 ic_0 ?_
  refine v_lald (pc := 1180) (a := 262) O kq_262 (inq lq_262 (by decide)) dL_law_1180 ?_
  rw [g.2 c8]
  refine v_iload (pc := 1181) O dL_law_1181 0 rfl ?_
  refine v_i2l (pc := 1183) O dL_law_1183 ?_
  refine v_lcmp (pc := 1184) O dL_law_1184 ?_
  exact v_ifeq (pc := 1185) 1190 O dL_law_1185 (by decide) (fun _ => fin _ rfl) (fun c9 => absurd (cmp_self _) c9)
set_option maxHeartbeats 4000000 in
theorem lw_case17 {X : Cx} {Q : State → Prop} {b L N nu n c u : Nat} {ss : Nat → Int32} {K : Nat → Nat} {D : Dat} {i a1 a2 a3 : Int32} {K' : Nat → Nat} {D' : Dat} (O : Ok X cL_law RL (some .boolean) 2048 84000) (hm : wlm (xw X) = true) (hn : xn X = 7) (hl : (xl X).stackTraces = false) (hT : xC X ≤ (xR X).cells ∧ xU X ≤ (xR X).slots) (hX : va_X b L ss (xs X) (xs X).heap) (hbl : b < (xs X).heap.size) (hbo : ¬ bo X ≤ b) (h1 : ¬ (i + 1 < 0 ∨ L ≤ (i + 1).toNatClampNeg)) (g1 : ss (i + 1).toNatClampNeg = a1) (h2 : ¬ (i + 2 < 0 ∨ L ≤ (i + 2).toNatClampNeg)) (g2 : ss (i + 2).toNatClampNeg = a2) (h3 : ¬ (i + 3 < 0 ∨ L ≤ (i + 3).toNatClampNeg)) (g3 : ss (i + 3).toNatClampNeg = a3) (h : stp_17 N nu n K D a1 a2 a3 = some (K', D')) (hcu : 9200 ≤ c ∧ 112000 ≤ u)
    (kk : ∀ n' c' u', n ≤ n' → c - 9200 ≤ c' → u - 112000 ≤ u' → V X Q n' (Ax nu K' c' u') D' 1333 [(0, .ref b), (1, .ref (bo X + pp 0)), (2, .ref (bo X + pp 207)), (3, .ref (bo X + pp 262)), (4, .int i)] []) : V X Q n (Ax nu K c u) D 1193 [(0, .ref b), (1, .ref (bo X + pp 0)), (2, .ref (bo X + pp 207)), (3, .ref (bo X + pp 262)), (4, .int i)] [] := by
  have hBB : ∀ {A : Al}, BB X A := ⟨Nat.le_trans hT.1 (Nat.le_add_right _ _), Nat.le_trans hT.2 (Nat.le_add_right _ _)⟩
  unfold stp_17 at h
  by_cases cz : a2 = 0
  · rw [if_pos cz] at h
    obtain ⟨p, e1, h⟩ := bind_some h
    obtain ⟨q, e2, h⟩ := bind_some h
    obtain ⟨r, e3, h⟩ := bind_some h
    obtain ⟨g, h⟩ := if_none h
    cases h
    refine v_aload_n (pc := 1193) O dL_law_1193 1 rfl ?_
    refine v_aload_n (pc := 1194) O dL_law_1194 0 rfl ?_
    refine v_iload (pc := 1195) O dL_law_1195 4 rfl ?_
    refine v_iconst (pc := 1197) O dL_law_1197 ic_1 ?_
    refine v_iadd (pc := 1198) O dL_law_1198 ?_
    refine v_sld (pc := 1199) O hX hbl hbo h1 dL_law_1199 ?_
    rw [g1]
    refine v_aload_n (pc := 1200) O dL_law_1200 0 rfl ?_
    refine v_iload (pc := 1201) O dL_law_1201 4 rfl ?_
    refine v_iconst (pc := 1203) O dL_law_1203 ic_2 ?_
    refine v_iadd (pc := 1204) O dL_law_1204 ?_
    refine v_sld (pc := 1205) O hX hbl hbo h2 dL_law_1205 ?_
    rw [g2]
    refine v_ifeq (pc := 1206) 1213 O dL_law_1206 (by decide) (fun _ => ?_) (fun c9 => absurd cz c9)
    refine v_iconst (pc := 1213) O dL_law_1213 ic_0 ?_
    refine v_aload_n (pc := 1214) O dL_law_1214 3 rfl ?_
    refine v_call3S (pc := 1215) (cm := 1) (um := 6) (As := [.ref (bo X + pp 0), .int a1, .int 0, .ref (bo X + pp 262)]) (rest := []) (r := (some (.int p.1))) (K' := K) (D' := p.2) O hT ⟨by omega, by omega⟩ (c_L_instruction (n := n) (nu := nu) (K := K) hl hm e1 :) mwh_L_instruction sm_L_instruction ml_L_155 rfl (Nat.le_of_ble_eq_true rfl) (Nat.le_of_ble_eq_true rfl) (Nat.le_of_ble_eq_true rfl) dL_law_1215 rfl rfl (fun n1 k1 => ?_)
    refine v_istore (pc := 1218) (lv' := [(5, .int p.1), (0, .ref b), (1, .ref (bo X + pp 0)), (2, .ref (bo X + pp 207)), (3, .ref (bo X + pp 262)), (4, .int i)]) O dL_law_1218 (by rw [hn]; decide) rfl ?_
    refine v_aload_n (pc := 1220) O dL_law_1220 3 rfl ?_
    refine v_aload_n (pc := 1221) O dL_law_1221 1 rfl ?_
    refine v_iload (pc := 1222) O dL_law_1222 5 rfl ?_
    refine v_iconst (pc := 1224) O dL_law_1224 ic_1 ?_
    refine v_iadd (pc := 1225) O dL_law_1225 ?_
    refine v_sld (pc := 1226) O hX hbl hbo h1 dL_law_1226 ?_
    rw [g1]
    refine v_aload_n (pc := 1227) O dL_law_1227 1 rfl ?_
    refine v_iload (pc := 1228) O dL_law_1228 5 rfl ?_
    refine v_iconst (pc := 1230) O dL_law_1230 ic_2 ?_
    refine v_iadd (pc := 1231) O dL_law_1231 ?_
    refine v_sld (pc := 1232) O hX hbl hbo h2 dL_law_1232 ?_
    rw [g2]
    refine v_ifeq (pc := 1233) 1240 O dL_law_1233 (by decide) (fun _ => ?_) (fun c9 => absurd cz c9)
    refine v_iconst (pc := 1240) O dL_law_1240 ic_0 ?_
    refine v_callV (pc := 1241) (a := 207) (As := [.int a1, .int 0]) (rest := []) (r := (some (.int q.1))) (D' := q.2) O hBB (c_X12_instruction hm e2) mw_X12_instruction im_X12_instruction se_X12_instruction ml_L_158 kq_207 (by decide) rfl rfl rfl (Nat.le_of_ble_eq_true rfl) (Nat.le_of_ble_eq_true rfl) (Nat.le_of_ble_eq_true rfl) dL_law_1241 rfl rfl ?_
    refine v_istore (pc := 1244) (lv' := [(6, .int q.1), (5, .int p.1), (0, .ref b), (1, .ref (bo X + pp 0)), (2, .ref (bo X + pp 207)), (3, .ref (bo X + pp 262)), (4, .int i)]) O dL_law_1244 (by rw [hn]; decide) rfl ?_
    refine v_aload_n (pc := 1246) O dL_law_1246 4 rfl ?_
    refine v_callV (pc := 1247) (a := 207) (As := []) (rest := []) (r := (some (.int r.1))) (D' := r.2) O hBB (c_X12_thrown hm e3) mw_X12_thrown im_X12_thrown se_X12_thrown ml_L_96 kq_207 (by decide) rfl rfl rfl (Nat.le_of_ble_eq_true rfl) (Nat.le_of_ble_eq_true rfl) (Nat.le_of_ble_eq_true rfl) dL_law_1247 rfl rfl ?_
    refine v_iload (pc := 1250) O dL_law_1250 1 rfl ?_
    refine v_icmpeq (pc := 1252) 1257 O dL_law_1252 (by decide) (fun _ => ?_) (fun c9 => absurd g.1 c9)
    have fin : ∀ pc9, pc9 = 1274 → V X Q n1 (Ax nu K (c - 1) (u - 6)) r.2 pc9 [(6, .int q.1), (5, .int p.1), (0, .ref b), (1, .ref (bo X + pp 0)), (2, .ref (bo X + pp 207)), (3, .ref (bo X + pp 262)), (4, .int i)] [] := by
      intro pc9 hpc9
      subst hpc9
      refine v_goto (pc := 1274) 1333 O dL_law_1274 (by decide) ?_
      refine v_sub [2, 3, 4, 5, 6] rfl ?_
      exact kk n1 (c - 1) (u - 6) k1 (by omega) (by omega)
    refine v_iload (pc := 1257) O dL_law_1257 1 rfl ?_
    refine v_ifne (pc := 1259) 1274 O dL_law_1259 (by decide) (fun _ => fin _ rfl) (fun c8 => ?_)
    refine v_aload_n (pc := 1262) O dL_law_1262 5 rfl ?_
    refine v_iconst (pc := 1263) O dL_law_1263 ic_0 ?_
    refine v_lald (pc := 1264) (a := 262) O kq_262 (inq lq_262 (by decide)) dL_law_1264 ?_
    rw [g.2 c8]
    refine v_iload (pc := 1265) O dL_law_1265 0 rfl ?_
    refine v_i2l (pc := 1267) O dL_law_1267 ?_
    refine v_lcmp (pc := 1268) O dL_law_1268 ?_
    exact v_ifeq (pc := 1269) 1274 O dL_law_1269 (by decide) (fun _ => fin _ rfl) (fun c9 => absurd (cmp_self _) c9)
  · rw [if_neg cz] at h
    obtain ⟨p, e1, h⟩ := bind_some h
    obtain ⟨q, e2, h⟩ := bind_some h
    obtain ⟨r, e3, h⟩ := bind_some h
    obtain ⟨g, h⟩ := if_none h
    cases h
    refine v_aload_n (pc := 1193) O dL_law_1193 1 rfl ?_
    refine v_aload_n (pc := 1194) O dL_law_1194 0 rfl ?_
    refine v_iload (pc := 1195) O dL_law_1195 4 rfl ?_
    refine v_iconst (pc := 1197) O dL_law_1197 ic_1 ?_
    refine v_iadd (pc := 1198) O dL_law_1198 ?_
    refine v_sld (pc := 1199) O hX hbl hbo h1 dL_law_1199 ?_
    rw [g1]
    refine v_aload_n (pc := 1200) O dL_law_1200 0 rfl ?_
    refine v_iload (pc := 1201) O dL_law_1201 4 rfl ?_
    refine v_iconst (pc := 1203) O dL_law_1203 ic_2 ?_
    refine v_iadd (pc := 1204) O dL_law_1204 ?_
    refine v_sld (pc := 1205) O hX hbl hbo h2 dL_law_1205 ?_
    rw [g2]
    refine v_ifeq (pc := 1206) 1213 O dL_law_1206 (by decide) (fun c9 => absurd c9 cz) (fun _ => ?_)
    refine v_iconst (pc := 1209) O dL_law_1209 ic_1 ?_
    refine v_goto (pc := 1210) 1214 O dL_law_1210 (by decide) ?_
    refine v_aload_n (pc := 1214) O dL_law_1214 3 rfl ?_
    refine v_call3S (pc := 1215) (cm := 1) (um := 6) (As := [.ref (bo X + pp 0), .int a1, .int 1, .ref (bo X + pp 262)]) (rest := []) (r := (some (.int p.1))) (K' := K) (D' := p.2) O hT ⟨by omega, by omega⟩ (c_L_instruction (n := n) (nu := nu) (K := K) hl hm e1 :) mwh_L_instruction sm_L_instruction ml_L_155 rfl (Nat.le_of_ble_eq_true rfl) (Nat.le_of_ble_eq_true rfl) (Nat.le_of_ble_eq_true rfl) dL_law_1215 rfl rfl (fun n1 k1 => ?_)
    refine v_istore (pc := 1218) (lv' := [(5, .int p.1), (0, .ref b), (1, .ref (bo X + pp 0)), (2, .ref (bo X + pp 207)), (3, .ref (bo X + pp 262)), (4, .int i)]) O dL_law_1218 (by rw [hn]; decide) rfl ?_
    refine v_aload_n (pc := 1220) O dL_law_1220 3 rfl ?_
    refine v_aload_n (pc := 1221) O dL_law_1221 1 rfl ?_
    refine v_iload (pc := 1222) O dL_law_1222 5 rfl ?_
    refine v_iconst (pc := 1224) O dL_law_1224 ic_1 ?_
    refine v_iadd (pc := 1225) O dL_law_1225 ?_
    refine v_sld (pc := 1226) O hX hbl hbo h1 dL_law_1226 ?_
    rw [g1]
    refine v_aload_n (pc := 1227) O dL_law_1227 1 rfl ?_
    refine v_iload (pc := 1228) O dL_law_1228 5 rfl ?_
    refine v_iconst (pc := 1230) O dL_law_1230 ic_2 ?_
    refine v_iadd (pc := 1231) O dL_law_1231 ?_
    refine v_sld (pc := 1232) O hX hbl hbo h2 dL_law_1232 ?_
    rw [g2]
    refine v_ifeq (pc := 1233) 1240 O dL_law_1233 (by decide) (fun c9 => absurd c9 cz) (fun _ => ?_)
    refine v_iconst (pc := 1236) O dL_law_1236 ic_1 ?_
    refine v_goto (pc := 1237) 1241 O dL_law_1237 (by decide) ?_
    refine v_callV (pc := 1241) (a := 207) (As := [.int a1, .int 1]) (rest := []) (r := (some (.int q.1))) (D' := q.2) O hBB (c_X12_instruction hm e2) mw_X12_instruction im_X12_instruction se_X12_instruction ml_L_158 kq_207 (by decide) rfl rfl rfl (Nat.le_of_ble_eq_true rfl) (Nat.le_of_ble_eq_true rfl) (Nat.le_of_ble_eq_true rfl) dL_law_1241 rfl rfl ?_
    refine v_istore (pc := 1244) (lv' := [(6, .int q.1), (5, .int p.1), (0, .ref b), (1, .ref (bo X + pp 0)), (2, .ref (bo X + pp 207)), (3, .ref (bo X + pp 262)), (4, .int i)]) O dL_law_1244 (by rw [hn]; decide) rfl ?_
    refine v_aload_n (pc := 1246) O dL_law_1246 4 rfl ?_
    refine v_callV (pc := 1247) (a := 207) (As := []) (rest := []) (r := (some (.int r.1))) (D' := r.2) O hBB (c_X12_thrown hm e3) mw_X12_thrown im_X12_thrown se_X12_thrown ml_L_96 kq_207 (by decide) rfl rfl rfl (Nat.le_of_ble_eq_true rfl) (Nat.le_of_ble_eq_true rfl) (Nat.le_of_ble_eq_true rfl) dL_law_1247 rfl rfl ?_
    refine v_iload (pc := 1250) O dL_law_1250 1 rfl ?_
    refine v_icmpeq (pc := 1252) 1257 O dL_law_1252 (by decide) (fun _ => ?_) (fun c9 => absurd g.1 c9)
    have fin : ∀ pc9, pc9 = 1274 → V X Q n1 (Ax nu K (c - 1) (u - 6)) r.2 pc9 [(6, .int q.1), (5, .int p.1), (0, .ref b), (1, .ref (bo X + pp 0)), (2, .ref (bo X + pp 207)), (3, .ref (bo X + pp 262)), (4, .int i)] [] := by
      intro pc9 hpc9
      subst hpc9
      refine v_goto (pc := 1274) 1333 O dL_law_1274 (by decide) ?_
      refine v_sub [2, 3, 4, 5, 6] rfl ?_
      exact kk n1 (c - 1) (u - 6) k1 (by omega) (by omega)
    refine v_iload (pc := 1257) O dL_law_1257 1 rfl ?_
    refine v_ifne (pc := 1259) 1274 O dL_law_1259 (by decide) (fun _ => fin _ rfl) (fun c8 => ?_)
    refine v_aload_n (pc := 1262) O dL_law_1262 5 rfl ?_
    refine v_iconst (pc := 1263) O dL_law_1263 ic_0 ?_
    refine v_lald (pc := 1264) (a := 262) O kq_262 (inq lq_262 (by decide)) dL_law_1264 ?_
    rw [g.2 c8]
    refine v_iload (pc := 1265) O dL_law_1265 0 rfl ?_
    refine v_i2l (pc := 1267) O dL_law_1267 ?_
    refine v_lcmp (pc := 1268) O dL_law_1268 ?_
    exact v_ifeq (pc := 1269) 1274 O dL_law_1269 (by decide) (fun _ => fin _ rfl) (fun c9 => absurd (cmp_self _) c9)
set_option maxHeartbeats 4000000 in
theorem lw_case18 {X : Cx} {Q : State → Prop} {b L N nu n c u : Nat} {ss : Nat → Int32} {K : Nat → Nat} {D : Dat} {i a1 a2 a3 : Int32} {K' : Nat → Nat} {D' : Dat} (O : Ok X cL_law RL (some .boolean) 2048 84000) (hm : wlm (xw X) = true) (hn : xn X = 7) (hl : (xl X).stackTraces = false) (hT : xC X ≤ (xR X).cells ∧ xU X ≤ (xR X).slots) (hX : va_X b L ss (xs X) (xs X).heap) (hbl : b < (xs X).heap.size) (hbo : ¬ bo X ≤ b) (h1 : ¬ (i + 1 < 0 ∨ L ≤ (i + 1).toNatClampNeg)) (g1 : ss (i + 1).toNatClampNeg = a1) (h2 : ¬ (i + 2 < 0 ∨ L ≤ (i + 2).toNatClampNeg)) (g2 : ss (i + 2).toNatClampNeg = a2) (h3 : ¬ (i + 3 < 0 ∨ L ≤ (i + 3).toNatClampNeg)) (g3 : ss (i + 3).toNatClampNeg = a3) (h : stp_18 N nu n K D a1 a2 a3 = some (K', D')) (hcu : 9200 ≤ c ∧ 112000 ≤ u)
    (kk : ∀ n' c' u', n ≤ n' → c - 9200 ≤ c' → u - 112000 ≤ u' → V X Q n' (Ax nu K' c' u') D' 1333 [(0, .ref b), (1, .ref (bo X + pp 0)), (2, .ref (bo X + pp 207)), (3, .ref (bo X + pp 262)), (4, .int i)] []) : V X Q n (Ax nu K c u) D 1277 [(0, .ref b), (1, .ref (bo X + pp 0)), (2, .ref (bo X + pp 207)), (3, .ref (bo X + pp 262)), (4, .int i)] [] := by
  have hBB : ∀ {A : Al}, BB X A := ⟨Nat.le_trans hT.1 (Nat.le_add_right _ _), Nat.le_trans hT.2 (Nat.le_add_right _ _)⟩
  unfold stp_18 at h
  obtain ⟨p, e1, h⟩ := bind_some h
  obtain ⟨q, e2, h⟩ := bind_some h
  obtain ⟨r, e3, h⟩ := bind_some h
  obtain ⟨g, h⟩ := if_none h
  cases h
  refine v_aload_n (pc := 1277) O dL_law_1277 1 rfl ?_
  refine v_aload_n (pc := 1278) O dL_law_1278 0 rfl ?_
  refine v_iload (pc := 1279) O dL_law_1279 4 rfl ?_
  refine v_iconst (pc := 1281) O dL_law_1281 ic_1 ?_
  refine v_iadd (pc := 1282) O dL_law_1282 ?_
  refine v_sld (pc := 1283) O hX hbl hbo h1 dL_law_1283 ?_
  rw [g1]
  refine v_aload_n (pc := 1284) O dL_law_1284 3 rfl ?_
  refine v_call3S (pc := 1285) (cm := 1) (um := 6) (As := [.ref (bo X + pp 0), .int a1, .ref (bo X + pp 262)]) (rest := []) (r := (some (.int p.1))) (K' := K) (D' := p.2) O hT ⟨by omega, by omega⟩ (c_L_count (n := n) (nu := nu) (K := K) hl hm e1 :) mwh_L_count sm_L_count ml_L_159 rfl (Nat.le_of_ble_eq_true rfl) (Nat.le_of_ble_eq_true rfl) (Nat.le_of_ble_eq_true rfl) dL_law_1285 rfl rfl (fun n1 k1 => ?_)
  refine v_istore (pc := 1288) (lv' := [(5, .int p.1), (0, .ref b), (1, .ref (bo X + pp 0)), (2, .ref (bo X + pp 207)), (3, .ref (bo X + pp 262)), (4, .int i)]) O dL_law_1288 (by rw [hn]; decide) rfl ?_
  refine v_aload_n (pc := 1290) O dL_law_1290 3 rfl ?_
  refine v_aload_n (pc := 1291) O dL_law_1291 1 rfl ?_
  refine v_iload (pc := 1292) O dL_law_1292 5 rfl ?_
  refine v_iconst (pc := 1294) O dL_law_1294 ic_1 ?_
  refine v_iadd (pc := 1295) O dL_law_1295 ?_
  refine v_sld (pc := 1296) O hX hbl hbo h1 dL_law_1296 ?_
  rw [g1]
  refine v_callV (pc := 1297) (a := 207) (As := [.int a1]) (rest := []) (r := (some (.int q.1))) (D' := q.2) O hBB (c_X12_count hm e2) mw_X12_count im_X12_count se_X12_count ml_L_161 kq_207 (by decide) rfl rfl rfl (Nat.le_of_ble_eq_true rfl) (Nat.le_of_ble_eq_true rfl) (Nat.le_of_ble_eq_true rfl) dL_law_1297 rfl rfl ?_
  refine v_istore (pc := 1300) (lv' := [(6, .int q.1), (5, .int p.1), (0, .ref b), (1, .ref (bo X + pp 0)), (2, .ref (bo X + pp 207)), (3, .ref (bo X + pp 262)), (4, .int i)]) O dL_law_1300 (by rw [hn]; decide) rfl ?_
  refine v_aload_n (pc := 1302) O dL_law_1302 4 rfl ?_
  refine v_callV (pc := 1303) (a := 207) (As := []) (rest := []) (r := (some (.int r.1))) (D' := r.2) O hBB (c_X12_thrown hm e3) mw_X12_thrown im_X12_thrown se_X12_thrown ml_L_96 kq_207 (by decide) rfl rfl rfl (Nat.le_of_ble_eq_true rfl) (Nat.le_of_ble_eq_true rfl) (Nat.le_of_ble_eq_true rfl) dL_law_1303 rfl rfl ?_
  refine v_iload (pc := 1306) O dL_law_1306 1 rfl ?_
  refine v_icmpeq (pc := 1308) 1313 O dL_law_1308 (by decide) (fun _ => ?_) (fun c9 => absurd g.1 c9)
  have fin : ∀ pc9, pc9 = 1330 → V X Q n1 (Ax nu K (c - 1) (u - 6)) r.2 pc9 [(6, .int q.1), (5, .int p.1), (0, .ref b), (1, .ref (bo X + pp 0)), (2, .ref (bo X + pp 207)), (3, .ref (bo X + pp 262)), (4, .int i)] [] := by
    intro pc9 hpc9
    subst hpc9
    refine v_goto (pc := 1330) 1333 O dL_law_1330 (by decide) ?_
    refine v_sub [2, 3, 4, 5, 6] rfl ?_
    exact kk n1 (c - 1) (u - 6) k1 (by omega) (by omega)
  refine v_iload (pc := 1313) O dL_law_1313 1 rfl ?_
  refine v_ifne (pc := 1315) 1330 O dL_law_1315 (by decide) (fun _ => fin _ rfl) (fun c8 => ?_)
  refine v_aload_n (pc := 1318) O dL_law_1318 5 rfl ?_
  refine v_iconst (pc := 1319) O dL_law_1319 ic_0 ?_
  refine v_lald (pc := 1320) (a := 262) O kq_262 (inq lq_262 (by decide)) dL_law_1320 ?_
  rw [g.2 c8]
  refine v_iload (pc := 1321) O dL_law_1321 0 rfl ?_
  refine v_i2l (pc := 1323) O dL_law_1323 ?_
  refine v_lcmp (pc := 1324) O dL_law_1324 ?_
  exact v_ifeq (pc := 1325) 1330 O dL_law_1325 (by decide) (fun _ => fin _ rfl) (fun c9 => absurd (cmp_self _) c9)
def stp (N nu n : Nat) (K : Nat → Nat) (D : Dat) (o a1 a2 a3 : Int32) : Option ((Nat → Nat) × Dat) := if o = 0 then stp_0 N nu n K D a1 a2 a3 else if o = 1 then stp_1 N nu n K D a1 a2 a3 else if o = 2 then stp_2 N nu n K D a1 a2 a3 else if o = 3 then stp_3 N nu n K D a1 a2 a3 else if o = 4 then stp_4 N nu n K D a1 a2 a3 else if o = 5 then stp_5 N nu n K D a1 a2 a3 else if o = 6 then stp_6 N nu n K D a1 a2 a3 else if o = 7 then stp_7 N nu n K D a1 a2 a3 else if o = 8 then stp_8 N nu n K D a1 a2 a3 else if o = 9 then stp_9 N nu n K D a1 a2 a3 else if o = 10 then stp_10 N nu n K D a1 a2 a3 else if o = 11 then stp_11 N nu n K D a1 a2 a3 else if o = 12 then stp_12 N nu n K D a1 a2 a3 else if o = 13 then stp_13 N nu n K D a1 a2 a3 else if o = 14 then stp_14 N nu n K D a1 a2 a3 else if o = 15 then stp_15 N nu n K D a1 a2 a3 else if o = 16 then stp_16 N nu n K D a1 a2 a3 else if o = 17 then stp_17 N nu n K D a1 a2 a3 else if o = 18 then stp_18 N nu n K D a1 a2 a3 else some (K, D)
