/-! methods with handlers: they answer, whatever was thrown; and the one that reads, checks and translates -/
theorem pic_al {w : Wx} {n : Nat} {k l : Nat → Nat} {c u c' u' : Nat} {D : Dat} {H : Heap} (h : Pic w n (k, l, c, u) D H) : Pic w n (k, l, c', u') D H := h
abbrev Hh : Type := List (Nat × Nat × Nat × Nat)
def Q3 (w : Wx) (n nu : Nat) (r : Option Value) (K : Nat → Nat) (D : Dat) : Array Value → State → Outcome → State → Prop := fun _ st oc t => oc = .returned r ∧ (∃ n', n ≤ n' ∧ Pic w n' (Ax nu K 0 0) D t.heap) ∧ va_F (gb w) st t
abbrev M3 (X : Cx) (n0 nu : Nat) (r : Option Value) (K : Nat → Nat) (D : Dat) : State → Prop := MQ (xb X) (Q3 (xw X) n0 nu r K D) (xa X) (xs X) (xC X) (xU X) (gb (xw X))
def T3 (X : Cx) (hh : Hh) : Prop := (xc X).exceptionTable.toList = tableOf hh ∧ xC X ≤ (xR X).cells ∧ xU X ≤ (xR X).slots
def C3 (l : Launch) (w : Wx) (y : MethodName) (cc : ByteArray) (maxL : Nat) (ret : Option FieldType) (hh : Hh) (Fr Lc cm um : Nat) (av : List Value) (n nu : Nat) (K : Nat → Nat) (D : Dat) (r : Option Value) (K' : Nat → Nat) (D' : Dat) : Prop :=
  Met l y (Cond.codeWith y cc maxL ret hh :: tb) { frames := Fr, cells := cm, slots := um, locals := Lc } (va_Pc av (fun U => wb w ≤ U.heap.size ∧ Pic w n (Ax nu K 0 0) D U.heap ∧ KK w U)) (Q3 w n nu r K' D') cm um (gb w)
theorem C3.of {l : Launch} {w : Wx} {y : MethodName} {cc : ByteArray} {maxL : Nat} {ret : Option FieldType} {hh : Hh} {Fr Lc cm um : Nat} {av : List Value} {n nu : Nat} {K K' : Nat → Nat} {D D' : Dat} {r : Option Value} (hy : plainName y.cls = true) (hlen : (lg_sl av).length ≤ maxL)
    (k : ∀ X : Cx, xl X = l → xw X = w → xn X = maxL → xC X = cm → xU X = um → T3 X hh → Ok X cc y.cls ret Fr Lc → V X (M3 X n nu r K' D') n (Ax nu K cm um) D 0 (lv_args 0 av) []) : C3 l w y cc maxL ret hh Fr Lc cm um av n nu K D r K' D' := by
  refine va_MetW (cc := cc) (maxL := maxL) (ret := ret) hy rfl ?_
  intro p e s m args below meth c s₁ B hml hv
  obtain ⟨rfl, hge, hP, hK⟩ := hv
  have hts := atoms_spec (ws := Cond.codeWith y cc maxL ret hh :: tb) B.pre
  have h := k (p, l, e, { frames := Fr, cells := cm, slots := um, locals := Lc }, s, m, av.toArray, below, meth, c, w, maxL, cm, um) rfl rfl rfl rfl rfl ⟨vx_table (x := y) B (hts _ List.mem_cons_self), Nat.le_refl _, Nat.le_refl _⟩ ⟨B.exec, B.bytes, hml, findClass_of_methodNamed B.named, fun w h => hts w (List.mem_cons_of_mem _ h), hK, Nat.le_refl _, Nat.le_refl _, B.notSynchronized, B.returns, hge⟩
  rw [lg_entry_eq]
  exact h s.heap [] 0 0 _ (pic_al hP) va_S.rf (Nat.zero_add _) (Nat.zero_add _) (lv_entry av hlen)
/-- the handler that takes exception e at pc, past rows of other classes -/
def HdP (own : String) (hh : Hh) (pc e hp : Nat) : Prop := ∃ (pre suf : Hh) (x : Nat × Nat × Nat × Nat) (E : String), hh = pre ++ x :: suf ∧ exl[e]? = some E ∧ (∀ z ∈ pre, z.2.2.2 ≠ 0 ∧ ∃ nm ∈ exl, E ≠ nm ∧ Cond.classLink own z.2.2.2 nm ∈ tb) ∧ x.1 ≤ pc ∧ pc < x.2.1 ∧ x.2.2.2 ≠ 0 ∧ Cond.classLink own x.2.2.2 E ∈ tb ∧ x.2.2.1 = hp
def Q4 (w : Wx) (n nu : Nat) (z : Sum Nat (Option Value) × (Nat → Nat) × Dat) : Array Value → State → Outcome → State → Prop := fun _ st oc t => ∃ r, z.1 = .inr r ∧ oc = .returned r ∧ (∃ n', n ≤ n' ∧ Pic w n' (Ax nu z.2.1 0 0) z.2.2 t.heap) ∧ va_F (gb w) st t
def X4 (w : Wx) (n nu : Nat) (z : Sum Nat (Option Value) × (Nat → Nat) × Dat) : String → State → State → Prop := fun E st t => ∃ e, z.1 = .inl e ∧ exl[e]? = some E ∧ (∃ n', n ≤ n' ∧ Pic w n' (Ax nu z.2.1 0 0) z.2.2 t.heap) ∧ va_F (gb w) st t
def C4 (l : Launch) (w : Wx) (y : MethodName) (cc : ByteArray) (maxL : Nat) (ret : Option FieldType) (Fr Lc cm um : Nat) (av : List Value) (n nu : Nat) (K : Nat → Nat) (D : Dat) (z : Sum Nat (Option Value) × (Nat → Nat) × Dat) : Prop :=
  vx_Met l y (Cond.code y cc maxL ret :: tb) { frames := Fr, cells := cm, slots := um, locals := Lc } (va_Pc av (fun U => wb w ≤ U.heap.size ∧ Pic w n (Ax nu K 0 0) D U.heap ∧ KK w U)) (Q4 w n nu z) (X4 w n nu z) cm um (gb w)
abbrev M4 (X : Cx) (n0 nu : Nat) (z : Sum Nat (Option Value) × (Nat → Nat) × Dat) : State → Prop := vx_MQ (xb X) (Q4 (xw X) n0 nu z) (X4 (xw X) n0 nu z) (xa X) (xs X) (xC X) (xU X) (gb (xw X))
theorem C4.of {l : Launch} {w : Wx} {y : MethodName} {cc : ByteArray} {maxL : Nat} {ret : Option FieldType} {Fr Lc cm um : Nat} {av : List Value} {n nu : Nat} {K : Nat → Nat} {D : Dat} {z : Sum Nat (Option Value) × (Nat → Nat) × Dat} (hl : l.stackTraces = false) (hy : plainName y.cls = true) (hlen : (lg_sl av).length ≤ maxL)
    (k : ∀ X : Cx, xl X = l → xw X = w → xn X = maxL → xC X = cm → xU X = um → T2 X → Ok X cc y.cls ret Fr Lc → V X (M4 X n nu z) n (Ax nu K cm um) D 0 (lv_args 0 av) []) : C4 l w y cc maxL ret Fr Lc cm um av n nu K D z := by
  refine vx_ofW (cc := cc) (maxL := maxL) (ret := ret) hy rfl ?_
  intro p e s m args below meth c s₁ B hml hx hv
  obtain ⟨rfl, hge, hP, hK⟩ := hv
  have hts := atoms_spec (ws := Cond.code y cc maxL ret :: tb) B.pre
  have h := k (p, l, e, { frames := Fr, cells := cm, slots := um, locals := Lc }, s, m, av.toArray, below, meth, c, w, maxL, cm, um) rfl rfl rfl rfl rfl ⟨hx, hl, Nat.le_refl _, Nat.le_refl _⟩ ⟨B.exec, B.bytes, hml, findClass_of_methodNamed B.named, fun w h => hts w (List.mem_cons_of_mem _ h), hK, Nat.le_refl _, Nat.le_refl _, B.notSynchronized, B.returns, hge⟩
  rw [lg_entry_eq]
  exact h s.heap [] 0 0 _ (pic_al hP) va_S.rf (Nat.zero_add _) (Nat.zero_add _) (lv_entry av hlen)
section RowsH
variable {X : Cx} {Q : State → Prop} {n n0 nu c u : Nat} {K K' : Nat → Nat} {A : Al} {D D' : Dat} {pc : Nat} {lv lv' : List (Nat × Value)} {st rest : List Value} {cc : ByteArray} {own : String} {ret : Option FieldType} {Fr Lc : Nat} {hh : Hh}
theorem v_iret3 {r : Int32} (O : Ok X cc own (some .int) Fr Lc) (hn0 : n0 ≤ n) (d : decode cc pc = .ok (.ireturn, 1)) : V X (M3 X n0 nu (some (.int r)) K D) n (Ax nu K c u) D pc lv [.int r] := by
  intro H locs cells slots ls h1 h2 h3 h4 h5
  have h3 : cells + c = xC X := h3
  have h4 : slots + u = xU X := h4
  refine W.widen (k := xC X) (n := xU X) (by omega) (by omega) ?_
  exact W.iret O.1 O.2.1 O.2.2.2.2.2.2.2.2.2.1 (fun t ht hW => ⟨rfl, ⟨n, hn0, by rw [ht]; exact pic_al h1⟩, h2.F ht⟩) h2.2.2 d O.2.2.2.2.2.2.2.2.1
theorem v_zret3 {r : Int32} (O : Ok X cc own (some .boolean) Fr Lc) (hn : narrow .boolean (.int r) = .int r) (hn0 : n0 ≤ n) (d : decode cc pc = .ok (.ireturn, 1)) : V X (M3 X n0 nu (some (.int r)) K D) n (Ax nu K c u) D pc lv [.int r] := by
  intro H locs cells slots ls h1 h2 h3 h4 h5
  have h3 : cells + c = xC X := h3
  have h4 : slots + u = xU X := h4
  refine W.widen (k := xC X) (n := xU X) (by omega) (by omega) ?_
  exact W.zret O.1 O.2.1 O.2.2.2.2.2.2.2.2.2.1 hn (fun t ht hW => ⟨rfl, ⟨n, hn0, by rw [ht]; exact pic_al h1⟩, h2.F ht⟩) h2.2.2 d O.2.2.2.2.2.2.2.2.1
theorem v_iret4 {r : Int32} (O : Ok X cc own (some .int) Fr Lc) (hn0 : n0 ≤ n) (d : decode cc pc = .ok (.ireturn, 1)) : V X (M4 X n0 nu (.inr (some (.int r)), K, D)) n (Ax nu K c u) D pc lv [.int r] := by
  intro H locs cells slots ls h1 h2 h3 h4 h5
  have h3 : cells + c = xC X := h3
  have h4 : slots + u = xU X := h4
  refine W.widen (k := xC X) (n := xU X) (by omega) (by omega) ?_
  exact vx_ret (W.iret O.1 O.2.1 O.2.2.2.2.2.2.2.2.2.1 (fun t ht hW => ⟨_, rfl, rfl, ⟨n, hn0, by rw [ht]; exact pic_al h1⟩, h2.F ht⟩) h2.2.2 d O.2.2.2.2.2.2.2.2.1)
theorem v_throw4 {ik ic e : Nat} {E : String} (O : Ok X cc own ret Fr Lc) (hT : T2 X) (hr : 1 ≤ c ∧ 6 ≤ u) (hn0 : n0 ≤ n) (hE : exl[e]? = some E) (tw : TW own ik ic E) (hF : 6 ≤ Fr) (hLc : (rest.map fun v => v.category).sum + 81 ≤ Lc) (d0 : decode cc pc = .ok (.new ik, 3)) (d3 : decode cc (pc + 3) = .ok (.dup, 1)) (d4 : decode cc (pc + 4) = .ok (.invokespecial ic, 3)) (d7 : decode cc (pc + 7) = .ok (.athrow, 1)) : V X (M4 X n0 nu (.inl e, K, D)) n (Ax nu K c u) D pc lv rest := by
  intro H locs cells slots ls h1 h2 h3 h4 h5
  have h3 : cells + c = xC X := h3
  have h4 : slots + u = xU X := h4
  have hts := O.2.2.2.2.1
  have hold := O.2.2.2.2.2.1.2
  obtain ⟨o1, o2, o3, o4, o5, o6, o7, o8, o9, o10, o11, o12, o13, o14⟩ := hold
  obtain ⟨t1, t2, t3, t4, t5, t6⟩ := tw
  have hmem : E ∈ exl := List.mem_of_getElem? hE
  have r1 := hT.2.2.1
  have r2 := hT.2.2.2
  have q1 := hr.1
  have q2 := hr.2
  refine vx_throw0 (names := ["java/lang/RuntimeException", "java/lang/Exception"]) (A := gb (xw X)) O.1 O.2.1 hT.2.1 O.2.2.2.1 t1 (by decide) (hts _ t2) (hts _ t3) (vx_hat (B := Cond.castable E E :: decll.map Cond.declares) (fun w hw => hts _ (t4 w hw)) t5 ?_) t6 o1 o2 h2 (h5.1.trans O.2.2.1.symm) d0 d3 d4 d7 (fun x hx => absurd hx (fun q => hT.1 x q)) ?_ ?_ (by omega) (by omega) O.2.2.2.2.2.2.2.2.1 ?_ h2.2.2 (by omega) (by omega)
  · intro w hw
    rcases List.mem_cons.mp hw with q | q
    · rw [q]
      exact va_Nw.use rfl (o11 E hmem)
    · obtain ⟨x, hx, rfl⟩ := List.mem_map.mp q
      exact va_Nw.use rfl (o13 x hx)
  · have := O.2.2.2.2.2.2.1
    show 2 + 3 < _
    omega
  · have := O.2.2.2.2.2.2.2.1
    show _ + (13 * (2 + 1) + 42) ≤ _
    omega
  · intro t ht1 ht2 ht3
    obtain ⟨n', hnn, hn'⟩ := pic_more h1 ht2 ht3
    refine ⟨e, rfl, hE, ⟨n', Nat.le_trans hn0 hnn, ?_⟩, ?_⟩
    · exact pic_al hn'
    · refine ⟨Nat.le_trans h2.1 ht2, fun q g1 g2 => ?_⟩
      rw [ht3 q (Nat.lt_of_lt_of_le g1 h2.1)]
      exact h2.2.1 q g1 g2
/-- behind what was run: the heap since the start -/
theorem va_S.next {A : Nat → Prop} {H0 H H1 : Heap} {locs L : List Loc} (h2 : va_S A H0 H locs) (hz : H.size ≤ H1.size) (hk : ∀ q : Nat, q < H.size → ¬ A q → H1[q]? = H[q]?) (hL : ∀ q ∈ L, A q.base) : va_S A H0 H1 (locs ++ L) := ⟨Nat.le_trans h2.1 hz, fun q g1 g2 => (hk q (Nat.lt_of_lt_of_le g1 h2.1) g2).trans (h2.2.1 q g1 g2), fun q hq => by
  rcases List.mem_append.mp hq with h | h
  · exact h2.2.2 q h
  · exact hL q h⟩
/-- a thrown one is caught -/
theorem v_caught {T' : State} {locs : List Loc} {cells slots : Nat} {ls : Array Slot} {q : Addr} {E : String} {ce : Cell} {e hp : Nat} (O : Ok X cc own ret Fr Lc) (hT : T3 X hh) (hd : HdP own hh pc e hp) (hE : exl[e]? = some E) (hce : T'.heap[q]? = some ce) (hcv : ce.vm = .none) (hcl : (xs X).vm.findClass E = some ce.cls)
    (kk : W (xp X) (xl X) (xe X) (xR X) (xs X) (xm X) (xa X) (xb X) (xh X) (xc X) T'.heap locs cells slots Q (F0 (xm X) hp ls [.ref q])) : vx_W (xp X) (xl X) (xe X) (xR X) (xs X) (xm X) (xa X) (xb X) (xh X) (xc X) T'.heap locs cells slots Q (F0 (xm X) pc ls rest) q := by
  obtain ⟨pre, suf, x, E9, hsp, hE9, hpre, hc1, hc2, hx0, hlk, hhp⟩ := hd
  cases Option.some.inj (hE.symm.trans hE9)
  have hts := O.2.2.2.2.1
  have hold := O.2.2.2.2.2.1.2
  obtain ⟨o1, o2, o3, o4, o5, o6, o7, o8, o9, o10, o11, o12, o13, o14⟩ := hold
  have hmem : E ∈ exl := List.mem_of_getElem? hE
  subst hhp
  refine vx_catch (name := E) O.2.2.2.1 (tableOf pre) ⟨x.1, x.2.1, x.2.2.1, x.2.2.2⟩ (tableOf suf) ?_ ?_ ?_ hx0 (hts _ hlk) (va_Nw.use rfl (o11 E hmem)) hce hcv hcl kk
  · rw [hT.1, hsp]
    simp [tableOf]
  · intro z hz
    obtain ⟨z0, hz0, rfl⟩ := List.mem_map.mp hz
    obtain ⟨a1, nm, a2, a3, a4⟩ := hpre z0 hz0
    exact Or.inr ⟨a1, nm, hts _ a4, o12 E hmem nm a2 a3⟩
  · simp [covers, hc1, hc2]
variable {y : MethodName} {cy : ByteArray} {maxL np ix Fr' Lc' ci : Nat} {rt : Option FieldType} {As : List Value} {a : Nat}
theorem v_run1G {z' : Rz} {H : Heap} {locs : List Loc} {ls : Array Slot} {cells slots : Nat} (O : Ok X cc own ret Fr Lc) (hM : C1 (xl X) (xw X) y cy maxL rt Fr' Lc' (.ref (bo X + pp a) :: As) n A D z') (hm : MW y cy maxL rt np) (hi : Cond.instanceMethod y ∈ tb) (hse : Cond.selects y.cls y y ∈ tb) (hl : Cond.methodLink own ix y ∈ tb) (ha : A.1 a = ci) (hci : ci < 13) {q : vw_C} (hcl : vwCl[ci]? = some q) (hq : q.1 = y.cls)
    (hn : As.length = np) (hR1 : Fr' + 1 ≤ Fr) (hR2 : 8 + (maxL + 11) + Lc' ≤ Lc) (hW : (rest.map fun v => v.category).sum ≤ 8) (d : decode cc pc = .ok (.invokevirtual ix, 3)) (hroom : cells + co z' ≤ (xR X).cells ∧ slots + 6 * co z' ≤ (xR X).slots) (h1 : Pic (xw X) n A D H) (h2 : va_S (fun q => bo X ≤ q) (xs X).heap H locs) (h5 : lv_has ls (xn X) lv) :
    vx_Run (xp X) (xl X) (xe X) (xR X) (xs X) (xm X) (xa X) (xb X) (xh X) (xc X) H locs cells slots (co z') (6 * co z') (F0 (xm X) pc ls (As.reverse ++ .ref (bo X + pp a) :: rest)) rest (Qt (xw X) n A z' (Value.ref (bo X + pp a) :: As).toArray) (Xt (xw X) n A z') (gb (xw X)) := by
  have hP := pic_at h1 (a := a) (by rw [ha]; omega)
  rw [cE_obj ha hci] at hP
  have hts := O.2.2.2.2.1
  exact vx_runV (p := xp X) (l := xl X) (e := xe X) (R := xR X) (s := xs X) (m := xm X) (args := xa X) (below := xb X) (meth := xh X) (c := xc X) (H := H) (locs := locs) (cells := cells) (slots := slots) (g := F0 (xm X) pc ls (As.reverse ++ .ref (bo X + pp a) :: rest)) (As := As) (rest := rest) (b := bo X + pp a) (C := y.cls) (index := ix) (Ts := tb) ⟨O.1, O.2.1, O.2.2.1, O.2.2.2.1, hts⟩ hM
    ⟨callB_of np hts (tb_in hm.1) rfl rfl rfl (hts _ hm.2.1) (hts _ hl) hm.2.2 ⟨Nat.le_trans hR1 O.2.2.2.2.2.2.1, Nat.le_trans hR2 O.2.2.2.2.2.2.2.1⟩, hts _ hi, hts _ hse⟩
    ⟨pc_blind (P := Pic (xw X) n A D), by rw [← hq]; exact va_recv O.2.2.2.2.2.1.1 hP hcl (q0 := 0) rfl, fun U hU hWm => ⟨rfl, by rw [hU]; exact Nat.le_trans O.2.2.2.2.2.2.2.2.2.2 h2.1, by rw [hU]; exact h1, O.2.2.2.2.2.1.to hU hWm h2⟩⟩ rfl hn h5.1 rfl (lv_room hW) d hroom
theorem v_call1C {r : Option Value} (O : Ok X cc own ret Fr Lc) (hB : BB X A) (hM : C1 (xl X) (xw X) y cy maxL rt Fr' Lc' (.ref (bo X + pp a) :: As) n A D (.inr r, D')) (hm : MW y cy maxL rt np) (hi : Cond.instanceMethod y ∈ tb) (hse : Cond.selects y.cls y y ∈ tb) (hl : Cond.methodLink own ix y ∈ tb) (ha : A.1 a = ci) (hci : ci < 13) {q : vw_C} (hcl : vwCl[ci]? = some q) (hq : q.1 = y.cls)
    (hn : As.length = np) (hR1 : Fr' + 1 ≤ Fr) (hR2 : 8 + (maxL + 11) + Lc' ≤ Lc) (hW : (rest.map fun v => v.category).sum ≤ 8) (d : decode cc pc = .ok (.invokevirtual ix, 3)) (hst : st = As.reverse ++ .ref (bo X + pp a) :: rest) {st' : List Value} (hst' : r.toList ++ rest = st') (kk : V X Q n A D' (pc + 3) lv st') : V X Q n A D pc lv st := by
  subst hst
  subst hst'
  intro H locs cells slots ls h1 h2 h3 h4 h5
  have hr := v_run1G (cells := cells) (slots := slots) (rest := rest) O hM hm hi hse hl ha hci hcl hq hn hR1 hR2 hW d (bb_fit hB h3 h4) h1 h2 h5
  intro T hT X0
  rcases hr T hT X0 with ⟨v, st₀, t, T', L, h0, X', hL, e1, e2, ⟨r9, hr9, hv, hpic, hF⟩, st⟩ | ⟨q, st₀, t, T', L, E, ce, h0, X', hL, e1, e2, ⟨e9, he9, -⟩, -⟩
  · cases hr9
    cases hv
    have hz9 := hF.1
    have hk := hF.2
    rw [h0, ← e1] at hz9 hk
    obtain ⟨t2, a1, b1⟩ := kk T'.heap (locs ++ L) cells slots ls (by rw [e1]; exact hpic) (h2.next hz9 hk hL) h3 h4 h5 T' rfl X'
    exact ⟨t2, st t2 a1, b1⟩
  · cases he9
theorem v_call1H {e hp : Nat} (O : Ok X cc own ret Fr Lc) (hT3 : T3 X hh) (hd : HdP own hh pc e hp) (hcu : 1 ≤ c ∧ 6 ≤ u) (hM : C1 (xl X) (xw X) y cy maxL rt Fr' Lc' (.ref (bo X + pp a) :: As) n (Ax nu K c u) D (.inl e, D')) (hm : MW y cy maxL rt np) (hi : Cond.instanceMethod y ∈ tb) (hse : Cond.selects y.cls y y ∈ tb) (hl : Cond.methodLink own ix y ∈ tb) (ha : (Ax nu K c u).1 a = ci) (hci : ci < 13) {q : vw_C} (hcl : vwCl[ci]? = some q) (hq : q.1 = y.cls)
    (hn : As.length = np) (hR1 : Fr' + 1 ≤ Fr) (hR2 : 8 + (maxL + 11) + Lc' ≤ Lc) (hW : (rest.map fun v => v.category).sum ≤ 8) (d : decode cc pc = .ok (.invokevirtual ix, 3)) (hst : st = As.reverse ++ .ref (bo X + pp a) :: rest) (kk : ∀ n' q, n ≤ n' → V X Q n' (Ax nu K (c - 1) (u - 6)) D' hp lv [.ref q]) : V X Q n (Ax nu K c u) D pc lv st := by
  subst hst
  intro H locs cells slots ls h1 h2 h3 h4 h5
  have h3 : cells + c = xC X := h3
  have h4 : slots + u = xU X := h4
  have g1 := hT3.2.1
  have g2 := hT3.2.2
  have k1 := hcu.1
  have k2 := hcu.2
  have hr := v_run1G (cells := cells) (slots := slots) (rest := rest) O hM hm hi hse hl ha hci hcl hq hn hR1 hR2 hW d ⟨by show cells + 1 ≤ _; omega, by show slots + 6 ≤ _; omega⟩ h1 h2 h5
  intro T hT X0
  rcases hr T hT X0 with ⟨v, st₀, t, T', L, h0, X', hL, e1, e2, ⟨r9, hr9, -⟩, -⟩ | ⟨q, st₀, t, T', L, E, ce, h0, X', hL, e1, e2, ⟨e9, he9, hE, ⟨n', hn', hpic⟩, hF⟩, hce, hcv, hcl9, st⟩
  · cases hr9
  · cases he9
    have hz9 := hF.1
    have hk := hF.2
    rw [h0, ← e1] at hz9 hk
    rw [← e1] at hce
    have hw := v_caught (Q := Q) (rest := rest) (ls := ls) (locs := locs ++ L) (cells := cells + 1) (slots := slots + 6) O hT3 hd hE hce hcv hcl9 (kk n' q hn' T'.heap (locs ++ L) (cells + 1) (slots + 6) ls (by rw [e1]; exact pic_al hpic) (h2.next hz9 hk hL) (by show cells + 1 + (c - 1) = _; omega) (by show slots + 6 + (u - 6) = _; omega) h5)
    obtain ⟨t2, a1, b1⟩ := hw T' rfl X'
    exact ⟨t2, st.trans a1, b1⟩
variable {S S' : Sr} {z' : Rs}
theorem v_run2G {H : Heap} {locs : List Loc} {ls : Array Slot} {cells slots : Nat} (O : Ok X cc own ret Fr Lc) (hT : xC X ≤ (xR X).cells ∧ xU X ≤ (xR X).slots) (hM : C2 (xl X) (xw X) y cy maxL rt Fr' Lc' (.ref (bo X + pp a) :: As) nu S D z') (hm : MW y cy maxL rt np) (hi : Cond.instanceMethod y ∈ tb) (hse : Cond.selects y.cls y y ∈ tb) (hl : Cond.methodLink own ix y ∈ tb) (ha : (Az nu S).1 a = ci) (hci : ci < 13) {q : vw_C} (hcl : vwCl[ci]? = some q) (hq : q.1 = y.cls)
    (hn : As.length = np) (hR1 : Fr' + 1 ≤ Fr) (hR2 : 8 + (maxL + 11) + Lc' ≤ Lc) (hW : (rest.map fun v => v.category).sum ≤ 8) (d : decode cc pc = .ok (.invokevirtual ix, 3)) (h1 : Pic (xw X) S.1 (Az nu S) D H) (h2 : va_S (fun q => bo X ≤ q) (xs X).heap H locs) (h3 : cells + S.2.2.1 = xC X) (h4 : slots + S.2.2.2 = xU X) (h5 : lv_has ls (xn X) lv) :
    vx_Run (xp X) (xl X) (xe X) (xR X) (xs X) (xm X) (xa X) (xb X) (xh X) (xc X) H locs cells slots (S.2.2.1 - z'.2.1.2.2.1) (S.2.2.2 - z'.2.1.2.2.2) (F0 (xm X) pc ls (As.reverse ++ .ref (bo X + pp a) :: rest)) rest (Qs (xw X) nu S.2.2.1 S.2.2.2 z' (Value.ref (bo X + pp a) :: As).toArray) (Xs (xw X) nu S.2.2.1 S.2.2.2 z') (gb (xw X)) := by
  have hP := pic_at h1 (a := a) (by rw [ha]; omega)
  rw [cE_obj ha hci] at hP
  have hts := O.2.2.2.2.1
  have r1 := hT.1
  have r2 := hT.2
  have hcb := callB_of (R := xR X) (s := xs X) (args := xa X) (own := own) (index := ix) (y := y) (bytes := cy) (maxL := maxL) (ret := rt) (ws := Cond.code y cy maxL rt :: tb) (ws' := tb) (Ts := tb) (rm := { frames := Fr', cells := 0, slots := 0, locals := Lc' }) (mc := 0) (ms := 0) np hts (tb_in hm.1) rfl rfl rfl (hts _ hm.2.1) (hts _ hl) hm.2.2 ⟨Nat.le_trans hR1 O.2.2.2.2.2.2.1, Nat.le_trans hR2 O.2.2.2.2.2.2.2.1⟩
  obtain ⟨-, -, b1, b2, b3, b4, b5, b6, b7, b8, b9⟩ := hcb
  exact vx_runV2 (p := xp X) (l := xl X) (e := xe X) (R := xR X) (s := xs X) (m := xm X) (args := xa X) (below := xb X) (meth := xh X) (c := xc X) (H := H) (locs := locs) (cells := cells) (slots := slots) (g := F0 (xm X) pc ls (As.reverse ++ .ref (bo X + pp a) :: rest)) (As := As) (rest := rest) (b := bo X + pp a) (C := y.cls) (index := ix) (Ts := tb) ⟨O.1, O.2.1, O.2.2.1, O.2.2.2.1, hts⟩ hM
    ⟨⟨b1, b2, b3, b4, b5, b6, b7, b8, b9⟩, hts _ hi, hts _ hse⟩
    ⟨pc_blind (P := Pic (xw X) S.1 (Az nu S) D), by rw [← hq]; exact va_recv O.2.2.2.2.2.1.1 hP hcl (q0 := 0) rfl, fun U hU hWm => ⟨rfl, by rw [hU]; exact Nat.le_trans O.2.2.2.2.2.2.2.2.2.2 h2.1, by rw [hU]; exact h1, O.2.2.2.2.2.1.to hU hWm h2⟩⟩ rfl hn h5.1 rfl (lv_room hW) d ⟨by show cells + S.2.2.1 ≤ _; omega, by show slots + S.2.2.2 ≤ _; omega⟩
theorem v_call2C {r : Option Value} (O : Ok X cc own ret Fr Lc) (hT : xC X ≤ (xR X).cells ∧ xU X ≤ (xR X).slots) (hM : C2 (xl X) (xw X) y cy maxL rt Fr' Lc' (.ref (bo X + pp a) :: As) nu S D (.inr r, S', D')) (hm : MW y cy maxL rt np) (hi : Cond.instanceMethod y ∈ tb) (hse : Cond.selects y.cls y y ∈ tb) (hl : Cond.methodLink own ix y ∈ tb) (ha : (Az nu S).1 a = ci) (hci : ci < 13) {q : vw_C} (hcl : vwCl[ci]? = some q) (hq : q.1 = y.cls)
    (hn : As.length = np) (hR1 : Fr' + 1 ≤ Fr) (hR2 : 8 + (maxL + 11) + Lc' ≤ Lc) (hW : (rest.map fun v => v.category).sum ≤ 8) (d : decode cc pc = .ok (.invokevirtual ix, 3)) (hst : st = As.reverse ++ .ref (bo X + pp a) :: rest) {st' : List Value} (hst' : r.toList ++ rest = st') (kk : S.1 ≤ S'.1 → V X Q S'.1 (Az nu S') D' (pc + 3) lv st') : V X Q S.1 (Az nu S) D pc lv st := by
  subst hst
  subst hst'
  intro H locs cells slots ls h1 h2 h3 h4 h5
  have h3 : cells + S.2.2.1 = xC X := h3
  have h4 : slots + S.2.2.2 = xU X := h4
  have hr := v_run2G (rest := rest) O hT hM hm hi hse hl ha hci hcl hq hn hR1 hR2 hW d h1 h2 h3 h4 h5
  intro T hT0 X0
  rcases hr T hT0 X0 with ⟨v, st₀, t, T', L, h0, X', hL, e1, e2, ⟨r9, hr9, hv, hpic, hF, hc9, hu9⟩, st⟩ | ⟨q, st₀, t, T', L, E, ce, h0, X', hL, e1, e2, ⟨e9, he9, -⟩, -⟩
  · cases hr9
    cases hv
    have hz9 := hF.1
    have hk := hF.2
    rw [h0, ← e1] at hz9 hk
    dsimp only at X' hc9 hu9 hpic
    have s1 := h1.1
    have s2 := hpic.1
    rw [← e1] at s2
    obtain ⟨t2, a1, b1⟩ := kk (by omega) T'.heap (locs ++ L) (cells + (S.2.2.1 - S'.2.2.1)) (slots + (S.2.2.2 - S'.2.2.2)) ls (by rw [e1]; exact hpic) (h2.next hz9 hk hL) (by dsimp only; omega) (by dsimp only; omega) h5 T' rfl X'
    exact ⟨t2, st t2 a1, b1⟩
  · cases he9
theorem v_call2H {e hp : Nat} (O : Ok X cc own ret Fr Lc) (hT3 : T3 X hh) (hd : HdP own hh pc e hp) (hM : C2 (xl X) (xw X) y cy maxL rt Fr' Lc' (.ref (bo X + pp a) :: As) nu S D (.inl e, S', D')) (hm : MW y cy maxL rt np) (hi : Cond.instanceMethod y ∈ tb) (hse : Cond.selects y.cls y y ∈ tb) (hl : Cond.methodLink own ix y ∈ tb) (ha : (Az nu S).1 a = ci) (hci : ci < 13) {q : vw_C} (hcl : vwCl[ci]? = some q) (hq : q.1 = y.cls)
    (hn : As.length = np) (hR1 : Fr' + 1 ≤ Fr) (hR2 : 8 + (maxL + 11) + Lc' ≤ Lc) (hW : (rest.map fun v => v.category).sum ≤ 8) (d : decode cc pc = .ok (.invokevirtual ix, 3)) (hst : st = As.reverse ++ .ref (bo X + pp a) :: rest) (kk : ∀ n' q, S.1 ≤ n' → V X Q n' (Az nu S') D' hp lv [.ref q]) : V X Q S.1 (Az nu S) D pc lv st := by
  subst hst
  intro H locs cells slots ls h1 h2 h3 h4 h5
  have h3 : cells + S.2.2.1 = xC X := h3
  have h4 : slots + S.2.2.2 = xU X := h4
  have hr := v_run2G (rest := rest) O hT3.2 hM hm hi hse hl ha hci hcl hq hn hR1 hR2 hW d h1 h2 h3 h4 h5
  intro T hT0 X0
  rcases hr T hT0 X0 with ⟨v, st₀, t, T', L, h0, X', hL, e1, e2, ⟨r9, hr9, -⟩, -⟩ | ⟨q, st₀, t, T', L, E, ce, h0, X', hL, e1, e2, ⟨e9, he9, hE, ⟨n', hpic⟩, hF, hc9, hu9⟩, hce, hcv, hcl9, st⟩
  · cases hr9
  · cases he9
    have hz9 := hF.1
    have hk := hF.2
    rw [h0, ← e1] at hz9 hk
    rw [← e1] at hce
    dsimp only at X' hc9 hu9 hpic
    have s1 := h1.1
    have s2 := hpic.1
    rw [← e1] at s2
    have hw := v_caught (Q := Q) (rest := rest) (ls := ls) (locs := locs ++ L) (cells := cells + (S.2.2.1 - S'.2.2.1)) (slots := slots + (S.2.2.2 - S'.2.2.2)) O hT3 hd hE hce hcv hcl9 (kk n' q (by omega) T'.heap (locs ++ L) (cells + (S.2.2.1 - S'.2.2.1)) (slots + (S.2.2.2 - S'.2.2.2)) ls (by rw [e1]; exact hpic) (h2.next hz9 hk hL) (by dsimp only; omega) (by dsimp only; omega) h5)
    obtain ⟨t2, a1, b1⟩ := hw T' rfl X'
    exact ⟨t2, st.trans a1, b1⟩
variable {z4 : Sum Nat (Option Value) × (Nat → Nat) × Dat} {cm um : Nat}
theorem v_run4G {H : Heap} {locs : List Loc} {ls : Array Slot} {cells slots : Nat} (O : Ok X cc own ret Fr Lc) (hM : C4 (xl X) (xw X) y cy maxL rt Fr' Lc' cm um (.ref (bo X + pp a) :: As) n nu K D z4) (hm : MW y cy maxL rt np) (hi : Cond.instanceMethod y ∈ tb) (hse : Cond.selects y.cls y y ∈ tb) (hl : Cond.methodLink own ix y ∈ tb) (ha : (Ax nu K c u).1 a = ci) (hci : ci < 13) {q : vw_C} (hcl : vwCl[ci]? = some q) (hq : q.1 = y.cls)
    (hn : As.length = np) (hR1 : Fr' + 1 ≤ Fr) (hR2 : 8 + (maxL + 11) + Lc' ≤ Lc) (hW : (rest.map fun v => v.category).sum ≤ 8) (d : decode cc pc = .ok (.invokevirtual ix, 3)) (hroom : cells + cm ≤ (xR X).cells ∧ slots + um ≤ (xR X).slots) (h1 : Pic (xw X) n (Ax nu K c u) D H) (h2 : va_S (fun q => bo X ≤ q) (xs X).heap H locs) (h5 : lv_has ls (xn X) lv) :
    vx_Run (xp X) (xl X) (xe X) (xR X) (xs X) (xm X) (xa X) (xb X) (xh X) (xc X) H locs cells slots cm um (F0 (xm X) pc ls (As.reverse ++ .ref (bo X + pp a) :: rest)) rest (Q4 (xw X) n nu z4 (Value.ref (bo X + pp a) :: As).toArray) (X4 (xw X) n nu z4) (gb (xw X)) := by
  have hP := pic_at h1 (a := a) (by rw [ha]; omega)
  rw [cE_obj ha hci] at hP
  have hts := O.2.2.2.2.1
  exact vx_runV (p := xp X) (l := xl X) (e := xe X) (R := xR X) (s := xs X) (m := xm X) (args := xa X) (below := xb X) (meth := xh X) (c := xc X) (H := H) (locs := locs) (cells := cells) (slots := slots) (g := F0 (xm X) pc ls (As.reverse ++ .ref (bo X + pp a) :: rest)) (As := As) (rest := rest) (b := bo X + pp a) (C := y.cls) (index := ix) (Ts := tb) ⟨O.1, O.2.1, O.2.2.1, O.2.2.2.1, hts⟩ hM
    ⟨callB_of np hts (tb_in hm.1) rfl rfl rfl (hts _ hm.2.1) (hts _ hl) hm.2.2 ⟨Nat.le_trans hR1 O.2.2.2.2.2.2.1, Nat.le_trans hR2 O.2.2.2.2.2.2.2.1⟩, hts _ hi, hts _ hse⟩
    ⟨pc_blind (P := Pic (xw X) n (Ax nu K 0 0) D), by rw [← hq]; exact va_recv O.2.2.2.2.2.1.1 hP hcl (q0 := 0) rfl, fun U hU hWm => ⟨rfl, by rw [hU]; exact Nat.le_trans O.2.2.2.2.2.2.2.2.2.2 h2.1, by rw [hU]; exact pic_al h1, O.2.2.2.2.2.1.to hU hWm h2⟩⟩ rfl hn h5.1 rfl (lv_room hW) d hroom
theorem v_call4C {r : Option Value} (O : Ok X cc own ret Fr Lc) (hT : xC X ≤ (xR X).cells ∧ xU X ≤ (xR X).slots) (hcu : cm ≤ c ∧ um ≤ u) (hM : C4 (xl X) (xw X) y cy maxL rt Fr' Lc' cm um (.ref (bo X + pp a) :: As) n nu K D (.inr r, K', D')) (hm : MW y cy maxL rt np) (hi : Cond.instanceMethod y ∈ tb) (hse : Cond.selects y.cls y y ∈ tb) (hl : Cond.methodLink own ix y ∈ tb) (ha : (Ax nu K c u).1 a = ci) (hci : ci < 13) {q : vw_C} (hcl : vwCl[ci]? = some q) (hq : q.1 = y.cls)
    (hn : As.length = np) (hR1 : Fr' + 1 ≤ Fr) (hR2 : 8 + (maxL + 11) + Lc' ≤ Lc) (hW : (rest.map fun v => v.category).sum ≤ 8) (d : decode cc pc = .ok (.invokevirtual ix, 3)) (hst : st = As.reverse ++ .ref (bo X + pp a) :: rest) {st' : List Value} (hst' : r.toList ++ rest = st') (kk : ∀ n', n ≤ n' → V X Q n' (Ax nu K' (c - cm) (u - um)) D' (pc + 3) lv st') : V X Q n (Ax nu K c u) D pc lv st := by
  subst hst
  subst hst'
  intro H locs cells slots ls h1 h2 h3 h4 h5
  have h3 : cells + c = xC X := h3
  have h4 : slots + u = xU X := h4
  have g1 := hT.1
  have g2 := hT.2
  have k1 := hcu.1
  have k2 := hcu.2
  have hr := v_run4G (cells := cells) (slots := slots) (rest := rest) O hM hm hi hse hl ha hci hcl hq hn hR1 hR2 hW d ⟨by omega, by omega⟩ h1 h2 h5
  intro T hT X0
  rcases hr T hT X0 with ⟨v, st₀, t, T', L, h0, X', hL, e1, e2, ⟨r9, hr9, hv, ⟨n', hn', hpic⟩, hF⟩, st⟩ | ⟨q, st₀, t, T', L, E, ce, h0, X', hL, e1, e2, ⟨e9, he9, -⟩, -⟩
  · cases hr9
    cases hv
    have hz9 := hF.1
    have hk := hF.2
    rw [h0, ← e1] at hz9 hk
    obtain ⟨t2, a1, b1⟩ := kk n' hn' T'.heap (locs ++ L) (cells + cm) (slots + um) ls (by rw [e1]; exact pic_al hpic) (h2.next hz9 hk hL) (by show cells + cm + (c - cm) = _; omega) (by show slots + um + (u - um) = _; omega) h5 T' rfl X'
    exact ⟨t2, st t2 a1, b1⟩
  · cases he9
theorem v_call4H {e hp : Nat} (O : Ok X cc own ret Fr Lc) (hT3 : T3 X hh) (hd : HdP own hh pc e hp) (hcu : cm ≤ c ∧ um ≤ u) (hM : C4 (xl X) (xw X) y cy maxL rt Fr' Lc' cm um (.ref (bo X + pp a) :: As) n nu K D (.inl e, K', D')) (hm : MW y cy maxL rt np) (hi : Cond.instanceMethod y ∈ tb) (hse : Cond.selects y.cls y y ∈ tb) (hl : Cond.methodLink own ix y ∈ tb) (ha : (Ax nu K c u).1 a = ci) (hci : ci < 13) {q : vw_C} (hcl : vwCl[ci]? = some q) (hq : q.1 = y.cls)
    (hn : As.length = np) (hR1 : Fr' + 1 ≤ Fr) (hR2 : 8 + (maxL + 11) + Lc' ≤ Lc) (hW : (rest.map fun v => v.category).sum ≤ 8) (d : decode cc pc = .ok (.invokevirtual ix, 3)) (hst : st = As.reverse ++ .ref (bo X + pp a) :: rest) (kk : ∀ n' q, n ≤ n' → V X Q n' (Ax nu K' (c - cm) (u - um)) D' hp lv [.ref q]) : V X Q n (Ax nu K c u) D pc lv st := by
  subst hst
  intro H locs cells slots ls h1 h2 h3 h4 h5
  have h3 : cells + c = xC X := h3
  have h4 : slots + u = xU X := h4
  have g1 := hT3.2.1
  have g2 := hT3.2.2
  have k1 := hcu.1
  have k2 := hcu.2
  have hr := v_run4G (cells := cells) (slots := slots) (rest := rest) O hM hm hi hse hl ha hci hcl hq hn hR1 hR2 hW d ⟨by omega, by omega⟩ h1 h2 h5
  intro T hT X0
  rcases hr T hT X0 with ⟨v, st₀, t, T', L, h0, X', hL, e1, e2, ⟨r9, hr9, -⟩, -⟩ | ⟨q, st₀, t, T', L, E, ce, h0, X', hL, e1, e2, ⟨e9, he9, hE, ⟨n', hn', hpic⟩, hF⟩, hce, hcv, hcl9, st⟩
  · cases hr9
  · cases he9
    have hz9 := hF.1
    have hk := hF.2
    rw [h0, ← e1] at hz9 hk
    rw [← e1] at hce
    have hw := v_caught (Q := Q) (rest := rest) (ls := ls) (locs := locs ++ L) (cells := cells + cm) (slots := slots + um) O hT3 hd hE hce hcv hcl9 (kk n' q hn' T'.heap (locs ++ L) (cells + cm) (slots + um) ls (by rw [e1]; exact pic_al hpic) (h2.next hz9 hk hL) (by show cells + cm + (c - cm) = _; omega) (by show slots + um + (u - um) = _; omega) h5)
    obtain ⟨t2, a1, b1⟩ := hw T' rfl X'
    exact ⟨t2, st.trans a1, b1⟩
def MWh (y : MethodName) (cc : ByteArray) (maxL : Nat) (ret : Option FieldType) (hh : Hh) (np : Nat) : Prop := Cond.codeWith y cc maxL ret hh ∈ tb ∧ Cond.initialized y.cls ∈ tb ∧ (y.cls ≠ "java/lang/invoke/MethodHandle" ∧ y.cls ≠ "java/lang/invoke/VarHandle" ∧ (parseMethodDescriptor y.desc).map (fun d => d.parameters.length) = some np)
theorem v_goes3 {H : Heap} {locs : List Loc} {cells slots : Nat} {ls : Array Slot} {st0 : List Value} {av : Array Value} {r : Option Value} (hr : va_Run (xp X) (xl X) (xe X) (xR X) (xs X) (xm X) (xa X) (xb X) (xh X) (xc X) H locs cells slots cm um (F0 (xm X) pc ls st0) rest (Q3 (xw X) n nu r K' D' av) (gb (xw X)))
    (h2 : va_S (fun q => bo X ≤ q) (xs X).heap H locs) (h3 : cells + c = xC X) (h4 : slots + u = xU X) (hcu : cm ≤ c ∧ um ≤ u) (h5 : lv_has ls (xn X) lv) (kk : ∀ n', n ≤ n' → V X Q n' (Ax nu K' (c - cm) (u - um)) D' (pc + 3) lv (r.toList ++ rest)) :
    W (xp X) (xl X) (xe X) (xR X) (xs X) (xm X) (xa X) (xb X) (xh X) (xc X) H locs cells slots Q (F0 (xm X) pc ls st0) := by
  have k1 := hcu.1
  have k2 := hcu.2
  intro T hT X0
  obtain ⟨v, st₀, t, T', L, h0, X', hL, e1, e2, ⟨hv, ⟨n', hn', hpic⟩, hF⟩, st⟩ := hr T hT X0
  cases hv
  have hz9 := hF.1
  have hk := hF.2
  rw [h0, ← e1] at hz9 hk
  obtain ⟨t2, a1, b1⟩ := kk n' hn' T'.heap (locs ++ L) (cells + cm) (slots + um) ls (by rw [e1]; exact pic_al hpic) (h2.next hz9 hk hL) (by show cells + cm + (c - cm) = _; omega) (by show slots + um + (u - um) = _; omega) h5 T' rfl X'
  exact ⟨t2, st t2 a1, b1⟩
theorem v_call3V {hh' : Hh} {r : Option Value} (O : Ok X cc own ret Fr Lc) (hT : xC X ≤ (xR X).cells ∧ xU X ≤ (xR X).slots) (hcu : cm ≤ c ∧ um ≤ u) (hM : C3 (xl X) (xw X) y cy maxL rt hh' Fr' Lc' cm um (.ref (bo X + pp a) :: As) n nu K D r K' D') (hm : MWh y cy maxL rt hh' np) (hi : Cond.instanceMethod y ∈ tb) (hse : Cond.selects y.cls y y ∈ tb) (hl : Cond.methodLink own ix y ∈ tb) (ha : (Ax nu K c u).1 a = ci) (hci : ci < 13) {q : vw_C} (hcl : vwCl[ci]? = some q) (hq : q.1 = y.cls)
    (hn : As.length = np) (hR1 : Fr' + 1 ≤ Fr) (hR2 : 8 + (maxL + 11) + Lc' ≤ Lc) (hW : (rest.map fun v => v.category).sum ≤ 8) (d : decode cc pc = .ok (.invokevirtual ix, 3)) (hst : st = As.reverse ++ .ref (bo X + pp a) :: rest) {st' : List Value} (hst' : r.toList ++ rest = st') (kk : ∀ n', n ≤ n' → V X Q n' (Ax nu K' (c - cm) (u - um)) D' (pc + 3) lv st') : V X Q n (Ax nu K c u) D pc lv st := by
  subst hst
  subst hst'
  intro H locs cells slots ls h1 h2 h3 h4 h5
  have h3 : cells + c = xC X := h3
  have h4 : slots + u = xU X := h4
  have g1 := hT.1
  have g2 := hT.2
  have k1 := hcu.1
  have k2 := hcu.2
  have hP := pic_at h1 (a := a) (by rw [ha]; omega)
  rw [cE_obj ha hci] at hP
  have hts := O.2.2.2.2.1
  have hrun := vx_runVW (p := xp X) (l := xl X) (e := xe X) (R := xR X) (s := xs X) (m := xm X) (args := xa X) (below := xb X) (meth := xh X) (c := xc X) (H := H) (locs := locs) (cells := cells) (slots := slots) (g := F0 (xm X) pc ls (As.reverse ++ .ref (bo X + pp a) :: rest)) (As := As) (rest := rest) (b := bo X + pp a) (C := y.cls) (index := ix) (Ts := tb) (hh := hh') (bytes := cy) (maxL := maxL) (ret := rt) (n := np) ⟨O.1, O.2.1, O.2.2.1, O.2.2.2.1, hts⟩ hM
    ⟨⟨rfl, rfl, Nat.le_trans hR1 O.2.2.2.2.2.2.1, Nat.le_trans hR2 O.2.2.2.2.2.2.2.1, pay_in hts (tb_in hm.1), List.mem_cons_self⟩, hts _ hm.1, hts _ hm.2.1, ⟨hm.2.2.1, hm.2.2.2.1⟩, fun sig h => by
      have h2 := hm.2.2.2.2
      rw [h] at h2
      exact (Option.some.inj h2).symm, hts _ hl, hts _ hi, hts _ hse⟩
    ⟨pc_blind (P := Pic (xw X) n (Ax nu K 0 0) D), by rw [← hq]; exact va_recv O.2.2.2.2.2.1.1 hP hcl (q0 := 0) rfl, fun U hU hWm => ⟨rfl, by rw [hU]; exact Nat.le_trans O.2.2.2.2.2.2.2.2.2.2 h2.1, by rw [hU]; exact pic_al h1, O.2.2.2.2.2.1.to hU hWm h2⟩⟩ rfl hn h5.1 rfl (lv_room hW) d ⟨by omega, by omega⟩
  exact v_goes3 hrun h2 h3 h4 hcu h5 kk
theorem v_call3S {hh' : Hh} {r : Option Value} (O : Ok X cc own ret Fr Lc) (hT : xC X ≤ (xR X).cells ∧ xU X ≤ (xR X).slots) (hcu : cm ≤ c ∧ um ≤ u) (hM : C3 (xl X) (xw X) y cy maxL rt hh' Fr' Lc' cm um As n nu K D r K' D') (hm : MWh y cy maxL rt hh' np) (hi : Cond.static y ∈ tb) (hl : Cond.methodLink own ix y ∈ tb)
    (hn : As.length = np) (hR1 : Fr' + 1 ≤ Fr) (hR2 : 8 + (maxL + 11) + Lc' ≤ Lc) (hW : (rest.map fun v => v.category).sum ≤ 8) (d : decode cc pc = .ok (.invokestatic ix, 3)) (hst : st = As.reverse ++ rest) {st' : List Value} (hst' : r.toList ++ rest = st') (kk : ∀ n', n ≤ n' → V X Q n' (Ax nu K' (c - cm) (u - um)) D' (pc + 3) lv st') : V X Q n (Ax nu K c u) D pc lv st := by
  subst hst
  subst hst'
  intro H locs cells slots ls h1 h2 h3 h4 h5
  have h3 : cells + c = xC X := h3
  have h4 : slots + u = xU X := h4
  have g1 := hT.1
  have g2 := hT.2
  have k1 := hcu.1
  have k2 := hcu.2
  have hts := O.2.2.2.2.1
  have hrun := vx_runSW (p := xp X) (l := xl X) (e := xe X) (R := xR X) (s := xs X) (m := xm X) (args := xa X) (below := xb X) (meth := xh X) (c := xc X) (H := H) (locs := locs) (cells := cells) (slots := slots) (g := F0 (xm X) pc ls (As.reverse ++ rest)) (As := As) (rest := rest) (index := ix) (Ts := tb) (hh := hh') (bytes := cy) (maxL := maxL) (ret := rt) (n := np) ⟨O.1, O.2.1, O.2.2.1, O.2.2.2.1, hts⟩ hM
    ⟨⟨rfl, rfl, Nat.le_trans hR1 O.2.2.2.2.2.2.1, Nat.le_trans hR2 O.2.2.2.2.2.2.2.1, pay_in hts (tb_in hm.1), List.mem_cons_self⟩, hts _ hm.1, hts _ hm.2.1, ⟨hm.2.2.1, hm.2.2.2.1⟩, fun sig h => by
      have h2 := hm.2.2.2.2
      rw [h] at h2
      exact (Option.some.inj h2).symm, hts _ hl, hts _ hi⟩
    ⟨pc_blind (P := Pic (xw X) n (Ax nu K 0 0) D), fun U hU hWm => ⟨rfl, by rw [hU]; exact Nat.le_trans O.2.2.2.2.2.2.2.2.2.2 h2.1, by rw [hU]; exact pic_al h1, O.2.2.2.2.2.1.to hU hWm h2⟩⟩ rfl hn h5.1 rfl (lv_room hW) d ⟨by omega, by omega⟩
  exact v_goes3 hrun h2 h3 h4 hcu h5 kk
/-- fewer left than there are -/
theorem v_widen {c' u' : Nat} (h : c' ≤ c ∧ u' ≤ u) (kk : V X Q n (Ax nu K c' u') D pc lv st) : V X Q n (Ax nu K c u) D pc lv st := by
  intro H locs cells slots ls h1 h2 h3 h4 h5
  have h3 : cells + c = xC X := h3
  have h4 : slots + u = xU X := h4
  have k1 := h.1
  have k2 := h.2
  exact W.widen (k := cells + (c - c')) (n := slots + (u - u')) (by omega) (by omega) (kk H locs _ _ ls (pic_al h1) h2 (by show cells + (c - c') + c' = _; omega) (by show slots + (u - u') + u' = _; omega) h5)
end RowsH
