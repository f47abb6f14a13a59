/-! rows of the ten texts -/
section RowsS
variable {X : Cx} {Q : State → Prop} {n : Nat} {A : Al} {D D' : Dat} {pc : Nat} {lv lv' : List (Nat × Value)} {st rest : List Value} {cc : ByteArray} {own : String} {ret : Option FieldType} {Fr Lc : Nat} {i ix : Nat}
theorem v_ldcS (O : Ok X cc "FlowChain$Reader" ret Fr Lc) (i : Nat) (hi : i < 10) (hix : (stxt.getD i (0, "")).1 = ix) (d : decode cc pc = .ok (.ldc ix, 2)) (k : V X Q n A D (pc + 2) lv (.ref (woK (xw X) i) :: rest)) : V X Q n A D pc lv rest := fun H locs cells slots ls h1 h2 h3 h4 h5 => by
  subst hix
  exact va_ldcS O.1 O.2.1 O.2.2.2.1 (O.2.2.2.2.2.1.2.2.2.2.2.2.2.2.2.1 i hi) d (k H locs cells slots ls h1 h2 h3 h4 h5)
theorem v_sval (O : Ok X cc own ret Fr Lc) (hi : i < 10) (hl : Cond.fieldLink own ix "java/lang/String" "value" "[B" ∈ tb) (d : decode cc pc = .ok (.getfield ix, 3)) (k : V X Q n A D (pc + 3) lv (.ref (woV (xw X) i) :: rest)) : V X Q n A D pc lv (.ref (woK (xw X) i) :: rest) := fun H locs cells slots ls h1 h2 h3 h4 h5 =>
  vk_getf O.1 O.2.1 (O.2.2.2.2.2.1.2.2.2.2.2.2.2.2.1.1 i hi).2.2.1 h2 O.2.2.2.1 (O.2.2.2.2.1 _ hl) (fun _ q => q) d (k H locs cells slots ls h1 h2 h3 h4 h5)
theorem v_scod (O : Ok X cc own ret Fr Lc) (hi : i < 10) (hl : Cond.fieldLink own ix "java/lang/String" "coder" "B" ∈ tb) (d : decode cc pc = .ok (.getfield ix, 3)) (k : V X Q n A D (pc + 3) lv (.int 0 :: rest)) : V X Q n A D pc lv (.ref (woK (xw X) i) :: rest) := fun H locs cells slots ls h1 h2 h3 h4 h5 =>
  vk_getf O.1 O.2.1 (O.2.2.2.2.2.1.2.2.2.2.2.2.2.2.1.1 i hi).2.1 h2 O.2.2.2.1 (O.2.2.2.2.1 _ hl) (fun _ q => q) d (k H locs cells slots ls h1 h2 h3 h4 h5)
theorem v_compact (O : Ok X cc own ret Fr Lc) (hl : Cond.fieldLink own ix "java/lang/String" "COMPACT_STRINGS" "Z" ∈ tb) (d : decode cc pc = .ok (.getstatic ix, 3)) (k : V X Q n A D (pc + 3) lv (.int 1 :: rest)) : V X Q n A D pc lv rest := fun H locs cells slots ls h1 h2 h3 h4 h5 =>
  va_gets O.1 O.2.1 O.2.2.2.2.2.1.2.2.2.2.2.2.2.1 h2 O.2.2.2.1 (O.2.2.2.2.1 _ hl) (fun _ q => q) d (k H locs cells slots ls h1 h2 h3 h4 h5)
theorem v_fmt (O : Ok X cc own ret Fr Lc) (hl : Cond.fieldLink own ix "jdk/internal/util/Preconditions" "SIOOBE_FORMATTER" "Ljava/util/function/BiFunction;" ∈ tb) (d : decode cc pc = .ok (.getstatic ix, 3)) (k : V X Q n A D (pc + 3) lv (fmt (xw X) :: rest)) : V X Q n A D pc lv rest := fun H locs cells slots ls h1 h2 h3 h4 h5 =>
  va_gets O.1 O.2.1 O.2.2.2.2.2.1.2.2.2.2.2.2.2.2.2.2.2.2.2.2 h2 O.2.2.2.1 (O.2.2.2.2.1 _ hl) (fun _ q => q) d (k H locs cells slots ls h1 h2 h3 h4 h5)
theorem v_blen (O : Ok X cc own ret Fr Lc) (hi : i < 10) (d : decode cc pc = .ok (.arraylength, 1)) (k : V X Q n A D (pc + 1) lv (.int (Int32.ofNat (slen.getD i 0)) :: rest)) : V X Q n A D pc lv (.ref (woV (xw X) i) :: rest) := fun H locs cells slots ls h1 h2 h3 h4 h5 =>
  va_tlen O.1 O.2.1 (O.2.2.2.2.2.1.2.2.2.2.2.2.2.2.1.1 i hi).2.2.2 h2 rfl d (k H locs cells slots ls h1 h2 h3 h4 h5)
theorem v_bald {j : Int32} (O : Ok X cc own ret Fr Lc) (hi : i < 10) (hc : ¬ (j < 0 ∨ slen.getD i 0 ≤ j.toNatClampNeg)) (d : decode cc pc = .ok (.baload, 1)) (k : V X Q n A D (pc + 1) lv (.int ((sbyt.getD i []).getD j.toNatClampNeg 0) :: rest)) : V X Q n A D pc lv (.int j :: .ref (woV (xw X) i) :: rest) := fun H locs cells slots ls h1 h2 h3 h4 h5 =>
  va_tb O.1 O.2.1 (O.2.2.2.2.2.1.2.2.2.2.2.2.2.2.1.1 i hi).2.2.2 h2 hc rfl d (k H locs cells slots ls h1 h2 h3 h4 h5)
theorem v_i2b {x : Int32} (O : Ok X cc own ret Fr Lc) (d : decode cc pc = .ok (.i2b, 1)) (k : V X Q n A D (pc + 1) lv (.int x.toInt8.toInt32 :: rest)) : V X Q n A D pc lv (.int x :: rest) := fun H locs cells slots ls h1 h2 h3 h4 h5 => lv_i2b O.1 O.2.1 d rfl (k H locs cells slots ls h1 h2 h3 h4 h5)
theorem v_aload_x {f : Fin 4} (O : Ok X cc own ret Fr Lc) (d : decode cc pc = .ok (.aload_n f, 1)) (j : Nat) (hj : lv[j]? = some ((f : Nat), fmt (xw X))) (k : V X Q n A D (pc + 1) lv (fmt (xw X) :: rest)) : V X Q n A D pc lv rest := fun H locs cells slots ls h1 h2 h3 h4 h5 => by
  have h6 := lv_at h5 j hj
  have k6 := k H locs cells slots ls h1 h2 h3 h4 h5
  unfold fmt at h6 k6
  by_cases e : woV (xw X) 200 = 0
  · rw [if_pos e] at h6 k6
    exact lv_aload_nN O.1 O.2.1 d rfl h6 k6
  · rw [if_neg e] at h6 k6
    exact lv_aload_n O.1 O.2.1 d rfl h6 k6
theorem fmt_cat (w : Wx) : (fmt w).category = 1 := by unfold fmt; split <;> rfl
/-- an answer that is a char, or a byte: it is one already -/
theorem v_nret {r : Int32} {τ : FieldType} (O : Ok X cc own (some τ) Fr Lc) (hz : Z0 X A) (hn : narrow τ (.int r) = .int r) (d : decode cc pc = .ok (.ireturn, 1)) : V X (Q0 X n A (some (.int r)) D) n A D pc lv [.int r] := by
  intro H locs cells slots ls h1 h2 h3 h4 h5
  have hc := hz.1
  have hu := hz.2
  have e1 : cells = 0 := by omega
  have e2 : slots = 0 := by omega
  subst e1; subst e2
  exact W.zret O.1 O.2.1 O.2.2.2.2.2.2.2.2.2.1 hn (fun t ht hW => ⟨rfl, by rw [ht]; exact h1, h2.F ht⟩) h2.2.2 d O.2.2.2.2.2.2.2.2.1
variable {y : MethodName} {cy : ByteArray} {maxL np Fr' Lc' : Nat} {rt : Option FieldType} {As : List Value} {r : Option Value}
theorem v_callT (O : Ok X cc own ret Fr Lc) (hB : BB X A) (hi10 : i < 10) (hM : C0 (xl X) (xw X) y cy maxL rt Fr' Lc' (.ref (woK (xw X) i) :: As) n A D r D') (hm : MW y cy maxL rt np) (hi : Cond.instanceMethod y ∈ tb) (hse : Cond.selects y.cls y y ∈ tb) (hl : Cond.methodLink own ix y ∈ tb) (hq : y.cls = "java/lang/String")
    (hn : As.length = np) (hR1 : Fr' + 1 ≤ Fr) (hR2 : 8 + (maxL + 11) + Lc' ≤ Lc) (hW : (rest.map fun v => v.category).sum ≤ 8) (d : decode cc pc = .ok (.invokevirtual ix, 3)) (hst : st = As.reverse ++ .ref (woK (xw X) i) :: rest) {st' : List Value} (hst' : r.toList ++ rest = st') (kk : V X Q n A D' (pc + 3) lv st') : V X Q n A D pc lv st := by
  subst hst
  subst hst'
  intro H locs cells slots ls h1 h2 h3 h4 h5
  have hts := O.2.2.2.2.1
  have hE := O.2.2.2.2.2.1.2.2.2.2.2.2.2.2.1
  have hrun := va_runV (p := xp X) (l := xl X) (e := xe X) (R := xR X) (s := xs X) (m := xm X) (args := xa X) (below := xb X) (meth := xh X) (c := xc X) (H := H) (locs := locs) (cells := cells) (slots := slots) (g := F0 (xm X) pc ls (As.reverse ++ .ref (woK (xw X) i) :: rest)) (As := As) (rest := rest) (b := woK (xw X) i) (C := y.cls) (index := ix) (Ts := tb) ⟨O.1, O.2.1, O.2.2.1, O.2.2.2.1, hts⟩ hM
    ⟨callB_of np hts (tb_in hm.1) rfl rfl rfl (hts _ hm.2.1) (hts _ hl) hm.2.2 ⟨Nat.le_trans hR1 O.2.2.2.2.2.2.1, Nat.le_trans hR2 O.2.2.2.2.2.2.2.1⟩, hts _ hi, hts _ hse⟩
    ⟨pc_blind (P := Pic (xw X) n A D), by rw [hq]; exact vk_recv hE hi10 h2, fun U hU hWm => ⟨rfl, by rw [hU]; exact Nat.le_trans O.2.2.2.2.2.2.2.2.2.2 h2.1, by rw [hU]; exact h1, O.2.2.2.2.2.1.to hU hWm h2⟩⟩ rfl hn h5.1 rfl (lv_room hW) d (bb_fit hB h3 h4)
  exact v_goes hrun h2 h3 h4 h5 kk
end RowsS
theorem nar_ok {τ : FieldType} {v : Int32} (h : vp_nar τ v = v) : narrow τ (.int v) = .int v := by
  cases τ <;> first | rfl | exact congrArg Value.int h
