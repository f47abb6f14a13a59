/-! methods that make statements, return or throw: the state is (next number, kinds, cells left, slots left) -/
abbrev Sr : Type := Nat × (Nat → Nat) × Nat × Nat
abbrev Az (nu : Nat) (S : Sr) : Al := Ax nu S.2.1 S.2.2.1 S.2.2.2
abbrev Rs : Type := Sum Nat (Option Value) × Sr × Dat
def ri (z : Sum Nat Int32 × Sr × Dat) : Rs := (match z.1 with | .inl e => .inl e | .inr r => .inr (some (.int r)), z.2)
def ru (z : Sum Nat Unit × Sr × Dat) : Rs := (match z.1 with | .inl e => .inl e | .inr _ => .inr none, z.2)
def ro (b : Nat) (z : Sum Nat (Option Nat) × Sr × Dat) : Rs := (match z.1 with | .inl e => .inl e | .inr r => .inr (some (rv b r)), z.2)
def Qs (w : Wx) (nu C U : Nat) (z : Rs) : Array Value → State → Outcome → State → Prop := fun _ st oc t => ∃ r, z.1 = .inr r ∧ oc = .returned r ∧ Pic w z.2.1.1 (Az nu z.2.1) z.2.2 t.heap ∧ va_F (gb w) st t ∧ z.2.1.2.2.1 ≤ C ∧ z.2.1.2.2.2 ≤ U
def Xs (w : Wx) (nu C U : Nat) (z : Rs) : String → State → State → Prop := fun E st t => ∃ e, z.1 = .inl e ∧ exl[e]? = some E ∧ (∃ n', Pic w n' (Az nu z.2.1) z.2.2 t.heap) ∧ va_F (gb w) st t ∧ z.2.1.2.2.1 ≤ C ∧ z.2.1.2.2.2 ≤ U
abbrev Q2 (X : Cx) (nu : Nat) (z : Rs) : State → Prop := vx_MQ (xb X) (Qs (xw X) nu (xC X) (xU X) z) (Xs (xw X) nu (xC X) (xU X) z) (xa X) (xs X) (xC X - z.2.1.2.2.1) (xU X - z.2.1.2.2.2) (gb (xw X))
def T2 (X : Cx) : Prop := (∀ x ∈ (xc X).exceptionTable.toList, False) ∧ (xl X).stackTraces = false ∧ xC X ≤ (xR X).cells ∧ xU X ≤ (xR X).slots
theorem bb2 {X : Cx} {A : Al} (h : T2 X) : BB X A := ⟨Nat.le_trans h.2.2.1 (Nat.le_add_right _ _), Nat.le_trans h.2.2.2 (Nat.le_add_right _ _)⟩
def C2 (l : Launch) (w : Wx) (y : MethodName) (cc : ByteArray) (maxL : Nat) (ret : Option FieldType) (Fr Lc : Nat) (av : List Value) (nu : Nat) (S : Sr) (D : Dat) (z : Rs) : Prop :=
  vx_Met l y (Cond.code y cc maxL ret :: tb) { frames := Fr, cells := S.2.2.1, slots := S.2.2.2, locals := Lc } (va_Pc av (fun U => wb w ≤ U.heap.size ∧ Pic w S.1 (Az nu S) D U.heap ∧ KK w U)) (Qs w nu S.2.2.1 S.2.2.2 z) (Xs w nu S.2.2.1 S.2.2.2 z) (S.2.2.1 - z.2.1.2.2.1) (S.2.2.2 - z.2.1.2.2.2) (gb w)
theorem C2.of {l : Launch} {w : Wx} {y : MethodName} {cc : ByteArray} {maxL : Nat} {ret : Option FieldType} {Fr Lc nu : Nat} {av : List Value} {S : Sr} {D : Dat} {z : Rs} (hl : l.stackTraces = false) (hy : plainName y.cls = true) (hlen : (lg_sl av).length ≤ maxL)
    (k : ∀ X : Cx, xl X = l → xw X = w → xn X = maxL → T2 X → Ok X cc y.cls ret Fr Lc → xC X = S.2.2.1 → xU X = S.2.2.2 → V X (Q2 X nu z) S.1 (Az nu S) D 0 (lv_args 0 av) []) : C2 l w y cc maxL ret Fr Lc av nu S D z := by
  refine vx_ofW (cc := cc) (maxL := maxL) (ret := ret) hy rfl ?_
  intro p e s m args below meth c s₁ B hml hx hv
  obtain ⟨rfl, hge, hP, hK⟩ := hv
  have hts := atoms_spec (ws := Cond.code y cc maxL ret :: tb) B.pre
  have h := k (p, l, e, { frames := Fr, cells := S.2.2.1, slots := S.2.2.2, locals := Lc }, s, m, av.toArray, below, meth, c, w, maxL, S.2.2.1, S.2.2.2) rfl rfl rfl ⟨hx, hl, Nat.le_refl _, Nat.le_refl _⟩ ⟨B.exec, B.bytes, hml, findClass_of_methodNamed B.named, fun w h => hts w (List.mem_cons_of_mem _ h), hK, Nat.le_refl _, Nat.le_refl _, B.notSynchronized, B.returns, hge⟩ rfl rfl
  rw [lg_entry_eq]
  exact h s.heap [] 0 0 _ hP va_S.rf (Nat.zero_add _) (Nat.zero_add _) (lv_entry av hlen)
section RowsR
variable {X : Cx} {Q : State → Prop} {nu : Nat} {S S' : Sr} {D D' : Dat} {pc : Nat} {lv lv' : List (Nat × Value)} {st rest : List Value} {cc : ByteArray} {own : String} {ret : Option FieldType} {Fr Lc : Nat}
theorem v_iret2 {r : Int32} (O : Ok X cc own (some .int) Fr Lc) (d : decode cc pc = .ok (.ireturn, 1)) : V X (Q2 X nu (.inr (some (.int r)), S, D)) S.1 (Az nu S) D pc lv [.int r] := by
  intro H locs cells slots ls h1 h2 h3 h4 h5
  have h3 : cells + S.2.2.1 = xC X := h3
  have h4 : slots + S.2.2.2 = xU X := h4
  have e1 : cells = xC X - S.2.2.1 := by omega
  have e2 : slots = xU X - S.2.2.2 := by omega
  subst e1; subst e2
  exact vx_ret (W.iret O.1 O.2.1 O.2.2.2.2.2.2.2.2.2.1 (fun t ht hW => ⟨_, rfl, rfl, by rw [ht]; exact h1, h2.F ht, by show S.2.2.1 ≤ _; omega, by show S.2.2.2 ≤ _; omega⟩) h2.2.2 d O.2.2.2.2.2.2.2.2.1)
theorem v_vret2 (O : Ok X cc own none Fr Lc) (d : decode cc pc = .ok (.return_, 1)) : V X (Q2 X nu (.inr none, S, D)) S.1 (Az nu S) D pc lv [] := by
  intro H locs cells slots ls h1 h2 h3 h4 h5
  have h3 : cells + S.2.2.1 = xC X := h3
  have h4 : slots + S.2.2.2 = xU X := h4
  have e1 : cells = xC X - S.2.2.1 := by omega
  have e2 : slots = xU X - S.2.2.2 := by omega
  subst e1; subst e2
  exact vx_ret (W.vret O.1 O.2.1 O.2.2.2.2.2.2.2.2.2.1 (fun t ht hW => ⟨_, rfl, rfl, by rw [ht]; exact h1, h2.F ht, by show S.2.2.1 ≤ _; omega, by show S.2.2.2 ≤ _; omega⟩) h2.2.2 d O.2.2.2.2.2.2.2.2.1)
theorem v_aret2 {r : Option Nat} {nm : String} (O : Ok X cc own (some (.object nm)) Fr Lc) (d : decode cc pc = .ok (.areturn, 1)) : V X (Q2 X nu (.inr (some (rv (bo X) r)), S, D)) S.1 (Az nu S) D pc lv [rv (bo X) r] := by
  intro H locs cells slots ls h1 h2 h3 h4 h5
  have h3 : cells + S.2.2.1 = xC X := h3
  have h4 : slots + S.2.2.2 = xU X := h4
  have e1 : cells = xC X - S.2.2.1 := by omega
  have e2 : slots = xU X - S.2.2.2 := by omega
  subst e1; subst e2
  exact vx_ret (W.aret O.1 O.2.1 O.2.2.2.2.2.2.2.2.2.1 (Or.inl ⟨nm, rfl⟩) (by cases r with | none => exact Or.inl rfl | some q => exact Or.inr ⟨_, rfl⟩) (fun t ht hW => ⟨_, rfl, rfl, by rw [ht]; exact h1, h2.F ht, by show S.2.2.1 ≤ _; omega, by show S.2.2.2 ≤ _; omega⟩) h2.2.2 d O.2.2.2.2.2.2.2.2.1)
theorem v_throw2 {ik ic e : Nat} {E : String} (O : Ok X cc own ret Fr Lc) (hT : T2 X) (hr : 1 ≤ S.2.2.1 ∧ 6 ≤ S.2.2.2) (hE : exl[e]? = some E) (tw : TW own ik ic E) (hF : 6 ≤ Fr) (hLc : (rest.map fun v => v.category).sum + 81 ≤ Lc) (d0 : decode cc pc = .ok (.new ik, 3)) (d3 : decode cc (pc + 3) = .ok (.dup, 1)) (d4 : decode cc (pc + 4) = .ok (.invokespecial ic, 3)) (d7 : decode cc (pc + 7) = .ok (.athrow, 1)) : V X (Q2 X nu (.inl e, (S.1, S.2.1, S.2.2.1 - 1, S.2.2.2 - 6), D)) S.1 (Az nu S) D pc lv rest := by
  intro H locs cells slots ls h1 h2 h3 h4 h5
  have h3 : cells + S.2.2.1 = xC X := h3
  have h4 : slots + S.2.2.2 = xU X := h4
  have hts := O.2.2.2.2.1
  have hold := O.2.2.2.2.2.1.2
  obtain ⟨o1, o2, o3, o4, o5, o6, o7, o8, o9, o10, o11, o12, o13, o14⟩ := hold
  obtain ⟨t1, t2, t3, t4, t5, t6⟩ := tw
  have hmem : E ∈ exl := List.mem_of_getElem? hE
  have r1 := hT.2.2.1
  have r2 := hT.2.2.2
  have q1 := hr.1
  have q2 := hr.2
  refine vx_throw0 (names := ["java/lang/RuntimeException", "java/lang/Exception"]) (A := gb (xw X)) O.1 O.2.1 hT.2.1 O.2.2.2.1 t1 (by decide) (hts _ t2) (hts _ t3) (vx_hat (B := Cond.castable E E :: decll.map Cond.declares) (fun w hw => hts _ (t4 w hw)) t5 ?_) t6 o1 o2 h2 (h5.1.trans O.2.2.1.symm) d0 d3 d4 d7 (fun x hx => absurd hx (fun q => hT.1 x q)) ?_ ?_ (by omega) (by omega) O.2.2.2.2.2.2.2.2.1 ?_ h2.2.2 (by show _ ≤ xC X - (S.2.2.1 - 1); omega) (by show _ ≤ xU X - (S.2.2.2 - 6); omega)
  · intro w hw
    rcases List.mem_cons.mp hw with q | q
    · rw [q]
      exact va_Nw.use rfl (o11 E hmem)
    · obtain ⟨x, hx, rfl⟩ := List.mem_map.mp q
      exact va_Nw.use rfl (o13 x hx)
  · have := O.2.2.2.2.2.2.1
    show 2 + 3 < _
    omega
  · have := O.2.2.2.2.2.2.2.1
    show _ + (13 * (2 + 1) + 42) ≤ _
    omega
  · intro t ht1 ht2 ht3
    obtain ⟨n', -, hn'⟩ := pic_more h1 ht2 ht3
    refine ⟨e, rfl, hE, ⟨n', ?_⟩, ?_, by show S.2.2.1 - 1 ≤ _; omega, by show S.2.2.2 - 6 ≤ _; omega⟩
    · exact hn'
    · refine ⟨Nat.le_trans h2.1 ht2, fun q g1 g2 => ?_⟩
      rw [ht3 q (Nat.lt_of_lt_of_le g1 h2.1)]
      exact h2.2.1 q g1 g2
variable {y : MethodName} {cy : ByteArray} {maxL np ix Fr' Lc' ci : Nat} {rt : Option FieldType} {As : List Value} {a : Nat} {z' : Rs}
theorem v_run2V {H : Heap} {locs : List Loc} {ls : Array Slot} {cells slots : Nat} (O : Ok X cc own ret Fr Lc) (hT : T2 X) (hM : C2 (xl X) (xw X) y cy maxL rt Fr' Lc' (.ref (bo X + pp a) :: As) nu S D z') (hm : MW y cy maxL rt np) (hi : Cond.instanceMethod y ∈ tb) (hse : Cond.selects y.cls y y ∈ tb) (hl : Cond.methodLink own ix y ∈ tb) (ha : (Az nu S).1 a = ci) (hci : ci < 13) {q : vw_C} (hcl : vwCl[ci]? = some q) (hq : q.1 = y.cls)
    (hn : As.length = np) (hR1 : Fr' + 1 ≤ Fr) (hR2 : 8 + (maxL + 11) + Lc' ≤ Lc) (hW : (rest.map fun v => v.category).sum ≤ 8) (d : decode cc pc = .ok (.invokevirtual ix, 3)) (h1 : Pic (xw X) S.1 (Az nu S) D H) (h2 : va_S (fun q => bo X ≤ q) (xs X).heap H locs) (h3 : cells + S.2.2.1 = xC X) (h4 : slots + S.2.2.2 = xU X) (h5 : lv_has ls (xn X) lv) :
    vx_Run (xp X) (xl X) (xe X) (xR X) (xs X) (xm X) (xa X) (xb X) (xh X) (xc X) H locs cells slots (S.2.2.1 - z'.2.1.2.2.1) (S.2.2.2 - z'.2.1.2.2.2) (F0 (xm X) pc ls (As.reverse ++ .ref (bo X + pp a) :: rest)) rest (Qs (xw X) nu S.2.2.1 S.2.2.2 z' (Value.ref (bo X + pp a) :: As).toArray) (Xs (xw X) nu S.2.2.1 S.2.2.2 z') (gb (xw X)) := by
  have hP := pic_at h1 (a := a) (by rw [ha]; omega)
  rw [cE_obj ha hci] at hP
  have hts := O.2.2.2.2.1
  have r1 := hT.2.2.1
  have r2 := hT.2.2.2
  have hcb := callB_of (R := xR X) (s := xs X) (args := xa X) (own := own) (index := ix) (y := y) (bytes := cy) (maxL := maxL) (ret := rt) (ws := Cond.code y cy maxL rt :: tb) (ws' := tb) (Ts := tb) (rm := { frames := Fr', cells := 0, slots := 0, locals := Lc' }) (mc := 0) (ms := 0) np hts (tb_in hm.1) rfl rfl rfl (hts _ hm.2.1) (hts _ hl) hm.2.2 ⟨Nat.le_trans hR1 O.2.2.2.2.2.2.1, Nat.le_trans hR2 O.2.2.2.2.2.2.2.1⟩
  obtain ⟨-, -, b1, b2, b3, b4, b5, b6, b7, b8, b9⟩ := hcb
  exact vx_runV2 (p := xp X) (l := xl X) (e := xe X) (R := xR X) (s := xs X) (m := xm X) (args := xa X) (below := xb X) (meth := xh X) (c := xc X) (H := H) (locs := locs) (cells := cells) (slots := slots) (g := F0 (xm X) pc ls (As.reverse ++ .ref (bo X + pp a) :: rest)) (As := As) (rest := rest) (b := bo X + pp a) (C := y.cls) (index := ix) (Ts := tb) ⟨O.1, O.2.1, O.2.2.1, O.2.2.2.1, hts⟩ hM
    ⟨⟨b1, b2, b3, b4, b5, b6, b7, b8, b9⟩, hts _ hi, hts _ hse⟩
    ⟨pc_blind (P := Pic (xw X) S.1 (Az nu S) D), by rw [← hq]; exact va_recv O.2.2.2.2.2.1.1 hP hcl (q0 := 0) rfl, fun U hU hWm => ⟨rfl, by rw [hU]; exact Nat.le_trans O.2.2.2.2.2.2.2.2.2.2 h2.1, by rw [hU]; exact h1, O.2.2.2.2.2.1.to hU hWm h2⟩⟩ rfl hn h5.1 rfl (lv_room hW) d ⟨by show cells + S.2.2.1 ≤ _; omega, by show slots + S.2.2.2 ≤ _; omega⟩
theorem v_call2 {r : Option Value} (O : Ok X cc own ret Fr Lc) (hT : T2 X) (hM : C2 (xl X) (xw X) y cy maxL rt Fr' Lc' (.ref (bo X + pp a) :: As) nu S D (.inr r, S', D')) (hm : MW y cy maxL rt np) (hi : Cond.instanceMethod y ∈ tb) (hse : Cond.selects y.cls y y ∈ tb) (hl : Cond.methodLink own ix y ∈ tb) (ha : (Az nu S).1 a = ci) (hci : ci < 13) {q : vw_C} (hcl : vwCl[ci]? = some q) (hq : q.1 = y.cls)
    (hn : As.length = np) (hR1 : Fr' + 1 ≤ Fr) (hR2 : 8 + (maxL + 11) + Lc' ≤ Lc) (hW : (rest.map fun v => v.category).sum ≤ 8) (d : decode cc pc = .ok (.invokevirtual ix, 3)) (hst : st = As.reverse ++ .ref (bo X + pp a) :: rest) {st' : List Value} (hst' : r.toList ++ rest = st') (kk : V X Q S'.1 (Az nu S') D' (pc + 3) lv st') : V X Q S.1 (Az nu S) D pc lv st := by
  subst hst
  subst hst'
  intro H locs cells slots ls h1 h2 h3 h4 h5
  have h3 : cells + S.2.2.1 = xC X := h3
  have h4 : slots + S.2.2.2 = xU X := h4
  have hr := v_run2V O hT hM hm hi hse hl ha hci hcl hq hn hR1 hR2 hW d h1 h2 h3 h4 h5
  intro T hT0 X0
  rcases hr T hT0 X0 with ⟨v, st₀, t, T', L, h0, X', hL, e1, e2, ⟨r9, hr9, hv, hpic, hF, hc9, hu9⟩, st⟩ | ⟨q, st₀, t, T', L, E, ce, h0, X', hL, e1, e2, ⟨e9, he9, -⟩, -⟩
  · cases hr9
    cases hv
    have hz9 := hF.1
    have hk := hF.2
    rw [h0] at hz9 hk
    dsimp only at X' hc9 hu9 hpic
    obtain ⟨t2, a1, b1⟩ := kk T'.heap (locs ++ L) (cells + (S.2.2.1 - S'.2.2.1)) (slots + (S.2.2.2 - S'.2.2.2)) ls (by rw [e1]; exact hpic) ⟨Nat.le_trans h2.1 (by rw [e1]; exact hz9), fun q g1 g2 => by rw [e1, hk q (Nat.lt_of_lt_of_le g1 h2.1) g2]; exact h2.2.1 q g1 g2, fun q hq => by
        rcases List.mem_append.mp hq with h | h
        · exact h2.2.2 q h
        · exact hL q h⟩ (by dsimp only; omega) (by dsimp only; omega) h5 T' rfl X'
    exact ⟨t2, st t2 a1, b1⟩
  · cases he9
theorem v_call2X {e : Nat} (O : Ok X cc own ret Fr Lc) (hT : T2 X) (hM : C2 (xl X) (xw X) y cy maxL rt Fr' Lc' (.ref (bo X + pp a) :: As) nu S D (.inl e, S', D')) (hm : MW y cy maxL rt np) (hi : Cond.instanceMethod y ∈ tb) (hse : Cond.selects y.cls y y ∈ tb) (hl : Cond.methodLink own ix y ∈ tb) (ha : (Az nu S).1 a = ci) (hci : ci < 13) {q : vw_C} (hcl : vwCl[ci]? = some q) (hq : q.1 = y.cls)
    (hn : As.length = np) (hR1 : Fr' + 1 ≤ Fr) (hR2 : 8 + (maxL + 11) + Lc' ≤ Lc) (hW : (rest.map fun v => v.category).sum ≤ 8) (d : decode cc pc = .ok (.invokevirtual ix, 3)) (hst : st = As.reverse ++ .ref (bo X + pp a) :: rest) : V X (Q2 X nu (.inl e, S', D')) S.1 (Az nu S) D pc lv st := by
  subst hst
  intro H locs cells slots ls h1 h2 h3 h4 h5
  have h3 : cells + S.2.2.1 = xC X := h3
  have h4 : slots + S.2.2.2 = xU X := h4
  have hr := v_run2V O hT hM hm hi hse hl ha hci hcl hq hn hR1 hR2 hW d h1 h2 h3 h4 h5
  intro T hT0 X0
  rcases hr T hT0 X0 with ⟨v, st₀, t, T', L, h0, X', hL, e1, e2, ⟨r9, hr9, -⟩, -⟩ | ⟨q, st₀, t, T', L, E, ce, h0, X', hL, e1, e2, ⟨e9, he9, hE, ⟨n', hpic⟩, hF, hc9, hu9⟩, hce, hcv, hcl9, st⟩
  · cases hr9
  · cases he9
    have hz9 := hF.1
    have hk := hF.2
    rw [h0] at hz9 hk
    dsimp only at X' hc9 hu9 hpic
    have hS1 : va_S (gb (xw X)) (xs X).heap T'.heap (locs ++ L) := ⟨Nat.le_trans h2.1 (by rw [e1]; exact hz9), fun q g1 g2 => by rw [e1, hk q (Nat.lt_of_lt_of_le g1 h2.1) g2]; exact h2.2.1 q g1 g2, fun q hq => by
        rcases List.mem_append.mp hq with h | h
        · exact h2.2.2 q h
        · exact hL q h⟩
    have hw := vx_out (p := xp X) (l := xl X) (e := xe X) (R := xR X) (s := xs X) (m := xm X) (args := xa X) (below := xb X) (meth := xh X) (c := xc X) (H := T'.heap) (locs := locs ++ L) (cells := cells + (S.2.2.1 - S'.2.2.1)) (slots := slots + (S.2.2.2 - S'.2.2.2)) (ls := ls) (rest := rest) (pc := pc) (Qc := Qs (xw X) nu (xC X) (xU X) (.inl e, S', D')) (XC := Xs (xw X) nu (xC X) (xU X) (.inl e, S', D')) (mc := xC X - S'.2.2.1) (ms := xU X - S'.2.2.2) (free := gb (xw X)) (q := q) (E := E) (ce := ce) (fun x hx => absurd hx (fun q => hT.1 x q)) O.2.2.2.2.2.2.2.2.1 (by rw [e1]; exact hce) hcv hcl9
      (fun t9 ht9 hA9 => ⟨e, rfl, hE, ⟨n', by rw [ht9, e1]; exact hpic⟩, hS1.F ht9, by dsimp only; omega, by dsimp only; omega⟩) hS1.2.2 (by omega) (by omega)
    obtain ⟨t2, a1, b1⟩ := hw T' rfl X'
    exact ⟨t2, st.trans a1, b1⟩
end RowsR
/-- behind a call that may throw and make statements -/
def sb2 {α β : Type} (p : Option (Sum Nat α × Sr × Dat)) (f : α → Sr → Dat → Option (Sum Nat β × Sr × Dat)) : Option (Sum Nat β × Sr × Dat) := p.bind (fun q => match q.1 with | .inl e => some (.inl e, q.2) | .inr r => f r q.2.1 q.2.2)
theorem sb2_some {α β : Type} {p : Option (Sum Nat α × Sr × Dat)} {f : α → Sr → Dat → Option (Sum Nat β × Sr × Dat)} {z : Sum Nat β × Sr × Dat} (h : sb2 p f = some z) : (∃ e S1 D1, p = some (.inl e, S1, D1) ∧ z = (.inl e, S1, D1)) ∨ ∃ r S1 D1, p = some (.inr r, S1, D1) ∧ f r S1 D1 = some z := by
  cases p with
  | none => cases h
  | some q =>
    obtain ⟨q1, q2, q3⟩ := q
    cases q1 with
    | inl e => exact Or.inl ⟨e, q2, q3, rfl, (Option.some.inj h).symm⟩
    | inr r => exact Or.inr ⟨r, q2, q3, rfl, h⟩
