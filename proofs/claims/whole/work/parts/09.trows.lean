/-! methods that return or throw: an answer is .inl (the exception's place in exl) or .inr (the value) -/
abbrev Rz : Type := Sum Nat (Option Value) × Dat
def co (z : Rz) : Nat := match z.1 with
  | .inl _ => 1
  | .inr _ => 0
def zi (z : Sum Nat Int32 × Dat) : Rz := (match z.1 with | .inl e => .inl e | .inr r => .inr (some (.int r)), z.2)
def zu (z : Sum Nat Unit × Dat) : Rz := (match z.1 with | .inl e => .inl e | .inr _ => .inr none, z.2)
def Qt (w : Wx) (n : Nat) (A : Al) (z : Rz) : Array Value → State → Outcome → State → Prop := fun _ st oc t => ∃ r, z.1 = .inr r ∧ oc = .returned r ∧ Pic w n A z.2 t.heap ∧ va_F (gb w) st t
def Xt (w : Wx) (n : Nat) (A : Al) (z : Rz) : String → State → State → Prop := fun E st t => ∃ e, z.1 = .inl e ∧ exl[e]? = some E ∧ (∃ n', n ≤ n' ∧ Pic w n' A z.2 t.heap) ∧ va_F (gb w) st t
abbrev Q1 (X : Cx) (n : Nat) (A : Al) (z : Rz) : State → Prop := vx_MQ (xb X) (Qt (xw X) n A z) (Xt (xw X) n A z) (xa X) (xs X) (co z) (6 * co z) (gb (xw X))
/-- no handler in the method, no stack traces, room for the exception where one is thrown -/
def T1 (X : Cx) (z : Rz) : Prop := (∀ x ∈ (xc X).exceptionTable.toList, False) ∧ (xl X).stackTraces = false ∧ co z ≤ (xR X).cells ∧ 6 * co z ≤ (xR X).slots
def C1 (l : Launch) (w : Wx) (y : MethodName) (cc : ByteArray) (maxL : Nat) (ret : Option FieldType) (Fr Lc : Nat) (av : List Value) (n : Nat) (A : Al) (D : Dat) (z : Rz) : Prop :=
  vx_Met l y (Cond.code y cc maxL ret :: tb) { frames := Fr, cells := co z, slots := 6 * co z, locals := Lc } (va_Pc av (fun U => wb w ≤ U.heap.size ∧ Pic w n A D U.heap ∧ KK w U)) (Qt w n A z) (Xt w n A z) (co z) (6 * co z) (gb w)
theorem C1.of {l : Launch} {w : Wx} {y : MethodName} {cc : ByteArray} {maxL : Nat} {ret : Option FieldType} {Fr Lc : Nat} {av : List Value} {n : Nat} {A : Al} {D : Dat} {z : Rz} (hl : l.stackTraces = false) (hy : plainName y.cls = true) (hlen : (lg_sl av).length ≤ maxL)
    (k : ∀ X : Cx, xl X = l → xw X = w → xn X = maxL → Z0 X A → T1 X z → Ok X cc y.cls ret Fr Lc → V X (Q1 X n A z) n A D 0 (lv_args 0 av) []) : C1 l w y cc maxL ret Fr Lc av n A D z := by
  refine vx_ofW (cc := cc) (maxL := maxL) (ret := ret) hy rfl ?_
  intro p e s m args below meth c s₁ B hml hx hv
  obtain ⟨rfl, hge, hP, hK⟩ := hv
  have hts := atoms_spec (ws := Cond.code y cc maxL ret :: tb) B.pre
  have h := k (p, l, e, { frames := Fr, cells := co z, slots := 6 * co z, locals := Lc }, s, m, av.toArray, below, meth, c, w, maxL, A.2.2.1, A.2.2.2) rfl rfl rfl ⟨rfl, rfl⟩ ⟨hx, hl, Nat.le_refl _, Nat.le_refl _⟩ ⟨B.exec, B.bytes, hml, findClass_of_methodNamed B.named, fun w h => hts w (List.mem_cons_of_mem _ h), hK, Nat.le_refl _, Nat.le_refl _, B.notSynchronized, B.returns, hge⟩
  rw [lg_entry_eq]
  exact h s.heap [] 0 0 _ hP va_S.rf (Nat.zero_add _) (Nat.zero_add _) (lv_entry av hlen)
/-- more cells than the picture has -/
theorem pic_more {w : Wx} {n : Nat} {A : Al} {D : Dat} {H H1 : Heap} (h : Pic w n A D H) (hz : H.size ≤ H1.size) (hq : ∀ q : Nat, q < H.size → H1[q]? = H[q]?) : ∃ n', n ≤ n' ∧ Pic w n' A D H1 := by
  obtain ⟨h1, L, hP, hD, hL⟩ := h
  refine ⟨H1.size - wb w, by omega, by omega, L, hP.kept (fun k q hk => hq _ ((hP k q hk).lt)), hD, hL⟩
/-- what the words say of 'throw new E()' in a class -/
def TW (own : String) (ik ic : Nat) (E : String) : Prop := Bundle.fit E = true ∧ Cond.classLink own ik E ∈ tb ∧ Cond.initialized E ∈ tb ∧ (∀ w ∈ (vx_at0 own ic E ["java/lang/RuntimeException", "java/lang/Exception"]).filter goodWord, w ∈ tb) ∧ (∀ w ∈ (vx_at0 own ic E ["java/lang/RuntimeException", "java/lang/Exception"]).filter (fun w => !goodWord w), w ∈ Cond.castable E E :: decll.map Cond.declares) ∧ (∀ w ∈ Cond.classLink own ik E :: Cond.initialized E :: vx_at0 own ic E ["java/lang/RuntimeException", "java/lang/Exception"], vx_ot w = true)
section RowsT
variable {X : Cx} {Q : State → Prop} {n : Nat} {A : Al} {D D' : Dat} {pc : Nat} {lv lv' : List (Nat × Value)} {st rest : List Value} {cc : ByteArray} {own : String} {ret : Option FieldType} {Fr Lc : Nat}
theorem v_throw {ik ic e : Nat} {E : String} (O : Ok X cc own ret Fr Lc) (hz : Z0 X A) (hT : T1 X (.inl e, D)) (hE : exl[e]? = some E) (tw : TW own ik ic E) (hF : 6 ≤ Fr) (hLc : (rest.map fun v => v.category).sum + 81 ≤ Lc) (d0 : decode cc pc = .ok (.new ik, 3)) (d3 : decode cc (pc + 3) = .ok (.dup, 1)) (d4 : decode cc (pc + 4) = .ok (.invokespecial ic, 3)) (d7 : decode cc (pc + 7) = .ok (.athrow, 1)) : V X (Q1 X n A (.inl e, D)) n A D pc lv rest := by
  intro H locs cells slots ls h1 h2 h3 h4 h5
  have hc := hz.1
  have hu := hz.2
  have e1 : cells = 0 := by omega
  have e2 : slots = 0 := by omega
  subst e1; subst e2
  have hts := O.2.2.2.2.1
  have hold := O.2.2.2.2.2.1.2
  obtain ⟨o1, o2, o3, o4, o5, o6, o7, o8, o9, o10, o11, o12, o13, o14⟩ := hold
  obtain ⟨t1, t2, t3, t4, t5, t6⟩ := tw
  have hmem : E ∈ exl := List.mem_of_getElem? hE
  refine vx_throw0 (names := ["java/lang/RuntimeException", "java/lang/Exception"]) (A := gb (xw X)) O.1 O.2.1 hT.2.1 O.2.2.2.1 t1 (by decide) (hts _ t2) (hts _ t3) (vx_hat (B := Cond.castable E E :: decll.map Cond.declares) (fun w hw => hts _ (t4 w hw)) t5 ?_) t6 o1 o2 h2 (h5.1.trans O.2.2.1.symm) d0 d3 d4 d7 (fun x hx => absurd hx (fun q => hT.1 x q)) ?_ ?_ (by have := hT.2.2.1; show 0 + 1 ≤ _; exact this) (by have := hT.2.2.2; show 0 + 6 ≤ _; exact this) O.2.2.2.2.2.2.2.2.1 ?_ h2.2.2 (Nat.le_refl _) (Nat.le_refl _)
  · intro w hw
    rcases List.mem_cons.mp hw with q | q
    · rw [q]
      exact va_Nw.use rfl (o11 E hmem)
    · obtain ⟨x, hx, rfl⟩ := List.mem_map.mp q
      exact va_Nw.use rfl (o13 x hx)
  · have := O.2.2.2.2.2.2.1
    show 2 + 3 < _
    omega
  · have := O.2.2.2.2.2.2.2.1
    show _ + (13 * (2 + 1) + 42) ≤ _
    omega
  · intro t ht1 ht2 ht3
    exact ⟨e, rfl, hE, pic_more h1 ht2 ht3, by
      refine ⟨Nat.le_trans h2.1 ht2, fun q g1 g2 => ?_⟩
      rw [ht3 q (Nat.lt_of_lt_of_le g1 h2.1)]
      exact h2.2.1 q g1 g2⟩
theorem v_q1 {z : Rz} {r : Option Value} (hr : z = (.inr r, D)) (k : V X (MQ (xb X) (Qt (xw X) n A z) (xa X) (xs X) 0 0 (gb (xw X))) n A D pc lv st) : V X (Q1 X n A z) n A D pc lv st := by
  subst hr
  intro H locs cells slots ls h1 h2 h3 h4 h5
  exact vx_ret (k H locs cells slots ls h1 h2 h3 h4 h5)
theorem q0_qt {r : Option Value} {t : State} (h : Q0 X n A r D t) : MQ (xb X) (Qt (xw X) n A (.inr r, D)) (xa X) (xs X) 0 0 (gb (xw X)) t := by
  obtain ⟨o, h1, h2, ⟨h3, h4, h5⟩, h6⟩ := h
  exact ⟨o, h1, h2, ⟨r, rfl, h3, h4, h5⟩, h6⟩
/-- a return of a method that may throw, out of the row of one that doesn't -/
theorem v_r1 {r : Option Value} (k : V X (Q0 X n A r D) n A D pc lv st) : V X (Q1 X n A (.inr r, D)) n A D pc lv st := v_q1 rfl (fun H locs cells slots ls h1 h2 h3 h4 h5 T hT Y => by
  obtain ⟨t, a, b⟩ := k H locs cells slots ls h1 h2 h3 h4 h5 T hT Y
  exact ⟨t, a, q0_qt b⟩)
variable {y : MethodName} {cy : ByteArray} {maxL np ix Fr' Lc' ci : Nat} {rt : Option FieldType} {As : List Value} {a : Nat} {z' : Rz}
theorem v_goes1 {H : Heap} {locs : List Loc} {ls : Array Slot} {st0 : List Value} {av : Array Value} {r : Option Value} (hr : vx_Run (xp X) (xl X) (xe X) (xR X) (xs X) (xm X) (xa X) (xb X) (xh X) (xc X) H locs 0 0 (co (.inr r, D')) (6 * co (.inr r, D')) (F0 (xm X) pc ls st0) rest (Qt (xw X) n A (.inr r, D') av) (Xt (xw X) n A (.inr r, D')) (gb (xw X)))
    (hz : Z0 X A) (h2 : va_S (fun q => bo X ≤ q) (xs X).heap H locs) (h5 : lv_has ls (xn X) lv) (kk : V X Q n A D' (pc + 3) lv (r.toList ++ rest)) :
    W (xp X) (xl X) (xe X) (xR X) (xs X) (xm X) (xa X) (xb X) (xh X) (xc X) H locs 0 0 Q (F0 (xm X) pc ls st0) := by
  intro T hT X0
  rcases hr T hT X0 with ⟨v, st₀, t, T', L, h0, X', hL, e1, e2, ⟨r9, hr9, hv, hpic, hF⟩, st⟩ | ⟨q, st₀, t, T', L, E, ce, h0, X', hL, e1, e2, ⟨e9, he9, -⟩, -⟩
  · cases hr9
    cases hv
    have hz9 := hF.1
    have hk := hF.2
    rw [h0] at hz9 hk
    have q1 := hz.1
    have q2 := hz.2
    obtain ⟨t2, a1, b1⟩ := kk T'.heap (locs ++ L) 0 0 ls (by rw [e1]; exact hpic) ⟨Nat.le_trans h2.1 (by rw [e1]; exact hz9), fun q g1 g2 => by rw [e1, hk q (Nat.lt_of_lt_of_le g1 h2.1) g2]; exact h2.2.1 q g1 g2, fun q hq => by
        rcases List.mem_append.mp hq with h | h
        · exact h2.2.2 q h
        · exact hL q h⟩ (by omega) (by omega) h5 T' rfl X'
    exact ⟨t2, st t2 a1, b1⟩
  · cases he9
theorem v_goesX {H : Heap} {locs : List Loc} {ls : Array Slot} {st0 : List Value} {av : Array Value} {e : Nat} (hr : vx_Run (xp X) (xl X) (xe X) (xR X) (xs X) (xm X) (xa X) (xb X) (xh X) (xc X) H locs 0 0 (co (.inl e, D')) (6 * co (.inl e, D')) (F0 (xm X) pc ls st0) rest (Qt (xw X) n A (.inl e, D') av) (Xt (xw X) n A (.inl e, D')) (gb (xw X)))
    (O : Ok X cc own ret Fr Lc) (hT1 : T1 X (.inl e, D')) (h2 : va_S (fun q => bo X ≤ q) (xs X).heap H locs) :
    W (xp X) (xl X) (xe X) (xR X) (xs X) (xm X) (xa X) (xb X) (xh X) (xc X) H locs 0 0 (Q1 X n A (.inl e, D')) (F0 (xm X) pc ls st0) := by
  intro T hT X0
  rcases hr T hT X0 with ⟨v, st₀, t, T', L, h0, X', hL, e1, e2, ⟨r9, hr9, -⟩, -⟩ | ⟨q, st₀, t, T', L, E, ce, h0, X', hL, e1, e2, ⟨e9, he9, hE, ⟨n', hn', hpic⟩, hF⟩, hce, hcv, hcl, st⟩
  · cases hr9
  · cases he9
    have hz9 := hF.1
    have hk := hF.2
    rw [h0] at hz9 hk
    have hS1 : va_S (gb (xw X)) (xs X).heap T'.heap (locs ++ L) := ⟨Nat.le_trans h2.1 (by rw [e1]; exact hz9), fun q g1 g2 => by rw [e1, hk q (Nat.lt_of_lt_of_le g1 h2.1) g2]; exact h2.2.1 q g1 g2, fun q hq => by
        rcases List.mem_append.mp hq with h | h
        · exact h2.2.2 q h
        · exact hL q h⟩
    have hw := vx_out (p := xp X) (l := xl X) (e := xe X) (R := xR X) (s := xs X) (m := xm X) (args := xa X) (below := xb X) (meth := xh X) (c := xc X) (H := T'.heap) (locs := locs ++ L) (cells := 0 + co (.inl e, D')) (slots := 0 + 6 * co (.inl e, D')) (ls := ls) (rest := rest) (pc := pc) (Qc := Qt (xw X) n A (.inl e, D')) (XC := Xt (xw X) n A (.inl e, D')) (mc := co (.inl e, D')) (ms := 6 * co (.inl e, D')) (free := gb (xw X)) (q := q) (E := E) (ce := ce) (fun x hx => absurd hx (fun q => hT1.1 x q)) O.2.2.2.2.2.2.2.2.1 (by rw [e1]; exact hce) hcv hcl
      (fun t9 ht9 hA9 => ⟨e, rfl, hE, ⟨n', hn', by rw [ht9, e1]; exact hpic⟩, hS1.F ht9⟩) hS1.2.2 (by rw [Nat.zero_add]; exact Nat.le_refl _) (by rw [Nat.zero_add]; exact Nat.le_refl _)
    obtain ⟨t2, a1, b1⟩ := hw T' rfl X'
    exact ⟨t2, st.trans a1, b1⟩
theorem v_run1V {H : Heap} {locs : List Loc} {ls : Array Slot} (O : Ok X cc own ret Fr Lc) (hM : C1 (xl X) (xw X) y cy maxL rt Fr' Lc' (.ref (bo X + pp a) :: As) n A D z') (hm : MW y cy maxL rt np) (hi : Cond.instanceMethod y ∈ tb) (hse : Cond.selects y.cls y y ∈ tb) (hl : Cond.methodLink own ix y ∈ tb) (ha : A.1 a = ci) (hci : ci < 13) {q : vw_C} (hcl : vwCl[ci]? = some q) (hq : q.1 = y.cls)
    (hn : As.length = np) (hR1 : Fr' + 1 ≤ Fr) (hR2 : 8 + (maxL + 11) + Lc' ≤ Lc) (hW : (rest.map fun v => v.category).sum ≤ 8) (d : decode cc pc = .ok (.invokevirtual ix, 3)) (hroom : co z' ≤ (xR X).cells ∧ 6 * co z' ≤ (xR X).slots) (h1 : Pic (xw X) n A D H) (h2 : va_S (fun q => bo X ≤ q) (xs X).heap H locs) (h5 : lv_has ls (xn X) lv) :
    vx_Run (xp X) (xl X) (xe X) (xR X) (xs X) (xm X) (xa X) (xb X) (xh X) (xc X) H locs 0 0 (co z') (6 * co z') (F0 (xm X) pc ls (As.reverse ++ .ref (bo X + pp a) :: rest)) rest (Qt (xw X) n A z' (Value.ref (bo X + pp a) :: As).toArray) (Xt (xw X) n A z') (gb (xw X)) := by
  have hP := pic_at h1 (a := a) (by rw [ha]; omega)
  rw [cE_obj ha hci] at hP
  have hts := O.2.2.2.2.1
  exact vx_runV (p := xp X) (l := xl X) (e := xe X) (R := xR X) (s := xs X) (m := xm X) (args := xa X) (below := xb X) (meth := xh X) (c := xc X) (H := H) (locs := locs) (cells := 0) (slots := 0) (g := F0 (xm X) pc ls (As.reverse ++ .ref (bo X + pp a) :: rest)) (As := As) (rest := rest) (b := bo X + pp a) (C := y.cls) (index := ix) (Ts := tb) ⟨O.1, O.2.1, O.2.2.1, O.2.2.2.1, hts⟩ hM
    ⟨callB_of np hts (tb_in hm.1) rfl rfl rfl (hts _ hm.2.1) (hts _ hl) hm.2.2 ⟨Nat.le_trans hR1 O.2.2.2.2.2.2.1, Nat.le_trans hR2 O.2.2.2.2.2.2.2.1⟩, hts _ hi, hts _ hse⟩
    ⟨pc_blind (P := Pic (xw X) n A D), by rw [← hq]; exact va_recv O.2.2.2.2.2.1.1 hP hcl (q0 := 0) rfl, fun U hU hWm => ⟨rfl, by rw [hU]; exact Nat.le_trans O.2.2.2.2.2.2.2.2.2.2 h2.1, by rw [hU]; exact h1, O.2.2.2.2.2.1.to hU hWm h2⟩⟩ rfl hn h5.1 rfl (lv_room hW) d (by simpa using hroom)
theorem v_call1 {r : Option Value} (O : Ok X cc own ret Fr Lc) (hz : Z0 X A) (hM : C1 (xl X) (xw X) y cy maxL rt Fr' Lc' (.ref (bo X + pp a) :: As) n A D (.inr r, D')) (hm : MW y cy maxL rt np) (hi : Cond.instanceMethod y ∈ tb) (hse : Cond.selects y.cls y y ∈ tb) (hl : Cond.methodLink own ix y ∈ tb) (ha : A.1 a = ci) (hci : ci < 13) {q : vw_C} (hcl : vwCl[ci]? = some q) (hq : q.1 = y.cls)
    (hn : As.length = np) (hR1 : Fr' + 1 ≤ Fr) (hR2 : 8 + (maxL + 11) + Lc' ≤ Lc) (hW : (rest.map fun v => v.category).sum ≤ 8) (d : decode cc pc = .ok (.invokevirtual ix, 3)) (hst : st = As.reverse ++ .ref (bo X + pp a) :: rest) {st' : List Value} (hst' : r.toList ++ rest = st') (kk : V X Q n A D' (pc + 3) lv st') : V X Q n A D pc lv st := by
  subst hst
  subst hst'
  intro H locs cells slots ls h1 h2 h3 h4 h5
  have hc := hz.1
  have hu := hz.2
  have e1 : cells = 0 := by omega
  have e2 : slots = 0 := by omega
  subst e1; subst e2
  exact v_goes1 (v_run1V O hM hm hi hse hl ha hci hcl hq hn hR1 hR2 hW d ⟨Nat.zero_le _, Nat.zero_le _⟩ h1 h2 h5) hz h2 h5 kk
theorem v_call1X {e : Nat} (O : Ok X cc own ret Fr Lc) (hz : Z0 X A) (hT1 : T1 X (.inl e, D')) (hM : C1 (xl X) (xw X) y cy maxL rt Fr' Lc' (.ref (bo X + pp a) :: As) n A D (.inl e, D')) (hm : MW y cy maxL rt np) (hi : Cond.instanceMethod y ∈ tb) (hse : Cond.selects y.cls y y ∈ tb) (hl : Cond.methodLink own ix y ∈ tb) (ha : A.1 a = ci) (hci : ci < 13) {q : vw_C} (hcl : vwCl[ci]? = some q) (hq : q.1 = y.cls)
    (hn : As.length = np) (hR1 : Fr' + 1 ≤ Fr) (hR2 : 8 + (maxL + 11) + Lc' ≤ Lc) (hW : (rest.map fun v => v.category).sum ≤ 8) (d : decode cc pc = .ok (.invokevirtual ix, 3)) (hst : st = As.reverse ++ .ref (bo X + pp a) :: rest) : V X (Q1 X n A (.inl e, D')) n A D pc lv st := by
  subst hst
  intro H locs cells slots ls h1 h2 h3 h4 h5
  have hc := hz.1
  have hu := hz.2
  have e1 : cells = 0 := by omega
  have e2 : slots = 0 := by omega
  subst e1; subst e2
  exact v_goesX (v_run1V O hM hm hi hse hl ha hci hcl hq hn hR1 hR2 hW d ⟨hT1.2.2.1, hT1.2.2.2⟩ h1 h2 h5) O hT1 h2
end RowsT
/-- behind a call that may throw -/
def sb {α β : Type} (p : Option (Sum Nat α × Dat)) (f : α → Dat → Option (Sum Nat β × Dat)) : Option (Sum Nat β × Dat) := p.bind (fun q => match q.1 with | .inl e => some (.inl e, q.2) | .inr r => f r q.2)
theorem sb_some {α β : Type} {p : Option (Sum Nat α × Dat)} {f : α → Dat → Option (Sum Nat β × Dat)} {z : Sum Nat β × Dat} (h : sb p f = some z) : (∃ e D1, p = some (.inl e, D1) ∧ z = (.inl e, D1)) ∨ ∃ r D1, p = some (.inr r, D1) ∧ f r D1 = some z := by
  cases p with
  | none => cases h
  | some q =>
    obtain ⟨q1, q2⟩ := q
    cases q1 with
    | inl e => exact Or.inl ⟨e, q2, rfl, (Option.some.inj h).symm⟩
    | inr r => exact Or.inr ⟨r, q2, rfl, h⟩
