/-! a call whose room isn't what it costs (after vx_back, vx_runV above: the room is what is left, the cost what was made) -/
section Back2
variable {l : Launch} {R : Room} {p : Program} {e : Env} {below : List Frame} {s : State} {sargs : Array Value} {y : MethodName} {len W9 : Nat}
theorem vx_back2 {ws : List Cond} {rm : Room} {Pc : Array Value → State → Prop} {Qc : Array Value → State → Outcome → State → Prop} {XC : String → State → State → Prop} {mc ms : Nat} {free : Addr → Prop} {bytes : ByteArray} {maxL : Nat} {ret : Option FieldType}
    (hM : vx_Met l y ws rm Pc Qc XC mc ms free) (hblind : FrameBlind Pc)
    (hframes : rm.frames + 1 ≤ R.frames) (hlocals : W9 + (maxL + 11) + rm.locals ≤ R.locals)
    (hws : ∀ w ∈ ws, ∀ a' U, s.WarmedH U.vm → w.before a' U = true) (hcode : Cond.code y bytes maxL ret ∈ ws) (hinit : ∀ a' U, s.WarmedH U.vm → (Cond.initialized y.cls).before a' U = true) :
    vx_Back l R p e below s sargs y len W9 (PreOf R rm.cells rm.slots Pc) (PostOf Qc mc ms free) (vx_Post XC mc ms free) := by
  intro m meth c A g ig mk a X hg hsize hdg hW hn hp
  have h1 : (headSpec ws rm).pre.before a A.U = true := atoms_intro fun w hw => hws w hw _ _ X.warmed
  have h2 : (Cond.code y bytes maxL ret).before a A.U = true := hws _ hcode _ _ X.warmed
  have h3 : (Cond.initialized y.cls).before a A.U = true := hinit _ _ X.warmed
  have h4 : A.cells + (headSpec ws rm).room.cells ≤ R.cells := hp.1
  have h5 : A.slots + (headSpec ws rm).room.slots ≤ R.slots := hp.2.1
  have hPc : Pc a (A.U.calling g mk a) := hblind _ _ _ _ hp.2.2
  obtain ⟨U, Ls, c0, s0⟩ := A
  dsimp only [Pt.U, Pt.locs, Pt.cells, Pt.slots] at h1 h2 h3 h4 h5 X hn hPc ⊢
  obtain ⟨methY, cY, hmY, hcY, -, hlY, -, -, -, -⟩ := Cond.code_spec hn h2
  obtain ⟨kY, hkY, -⟩ := className_of_methodNamed hn
  have hinitY : kY.init = .initialized := Cond.initialized_spec (findClass_of_methodNamed hn) hkY h3
  have h : At U g.method c below := by rw [hg]; exact X.here
  have hlocals9 : W9 + (maxL + 11) + (headSpec ws rm).room.locals ≤ R.locals := hlocals
  have happ : (headSpec ws rm).appliesLoose y e.platform (U.calling g mk a) = true :=
    Spec.appliesLoose_calling (g := g) h hdg hn hkY hinitY
      (X.room_calling (g := g) (R' := (headSpec ws rm).room) hsize hmY hcY hframes (by rw [hlY]; omega) h4 h5) h1
  obtain ⟨mid, hmid⟩ := h.above
  have hfr : (U.setTop g).frames = (.java g :: mid) ++ below := by rw [State.frames_setTop' g h.top, hmid]; rfl
  obtain ⟨o, s₂, hsteps, -, hend, hq⟩ := Steps.callFree hM p X.admits X.cas X.clock (acts := []) hfr happ hPc trivial
  have hq' : vx_Q Qc XC mc ms free a (U.calling g mk a) o s₂ := hq
  rw [State.frames_setTop' g h.top] at hend
  obtain ⟨g₀, hg0⟩ := Option.isSome_iff_exists.mp h.top
  obtain ⟨r, hr⟩ := State.topJava?_eq_some.mp hg0
  have hr' : (({ U with heap := s₂.heap, slotsUsed := s₂.slotsUsed } : State).setVm s₂.vm).frames = .java g₀ :: r := hr
  rcases hq' with ⟨hqc, L, hfe, hL⟩ | ⟨q, rfl, E, ce, L, hx, hce, hcv, hcl, hW₂, hsm, hL⟩
  · obtain ⟨⟨v, rfl⟩, hW₂, e2, q2, q3, q4, q5, q6⟩ := id hfe
    have e3 : s₂ = ({ (U.calling g mk a).setFrames s₂.frames with heap := s₂.heap, slotsUsed := s₂.slotsUsed } : State).setVm s₂.vm := by
      have : s₂ = ({ s₂ with vm := (U.calling g mk a).vm } : State).setVm s₂.vm := rfl
      rw [e2] at this
      exact this
    obtain ⟨c₂, i₂, len₂, hc₂, hd₂, hf₂⟩ := hend
    have hW' : U.WarmedH s₂.vm := hW₂
    have hcc : c₂ = c := by
      have h1 : s₂.code? g.method = U.code? g.method := by
        rw [State.code?_eq, State.code?_eq, hW'.alike.method?]
      exact Option.some.inj (hc₂.symm.trans (h1.trans h.code))
    subst hcc
    have hlen : len₂ = len := by rw [hdg] at hd₂; cases hd₂; rfl
    subst hlen
    have hs₂ : s₂ = (({ U with heap := s₂.heap, slotsUsed := s₂.slotsUsed } : State).setVm s₂.vm).setTop { g with pc := g.pc + len₂, stack := v.toList ++ g.stack } := by
      refine e3.trans ?_
      rw [hf₂, State.calling_eq h.top, State.setFrames_setFrames, State.setTop_of_frames _ hr', hr]
      rfl
    have hsame : U.sameButNew ({ U with heap := s₂.heap, slotsUsed := s₂.slotsUsed } : State) L mc ms := by
      refine ⟨?_, q2, q3, q4, q5, q6⟩
      obtain ⟨t, ht, -⟩ := State.frames_cons hr
      show ({ U with heap := s₂.heap, slotsUsed := s₂.slotsUsed } : State) = { U.setFrames U.frames with heap := s₂.heap, slotsUsed := s₂.slotsUsed }
      rw [State.setFrames_self ht]
    subst hg
    refine Or.inl ⟨v, ⟨(({ U with heap := s₂.heap, slotsUsed := s₂.slotsUsed } : State).setVm s₂.vm), Ls ++ L, c0 + mc, s0 + ms⟩,
      ⟨X.admits, X.cas, X.clock, X.frames, X.room, X.hears, X.method, X.code, (X.here.setHeapUsed s₂.heap s₂.slotsUsed).setVm hW'.alike, X.tail, State.WarmedH.trans X.warmed hW', X.limits, X.bytes, X.same.trans (hsame.setVm s.vm)⟩,
      ⟨g, mk, s₂, L, rfl, rfl, hqc, rfl, hL, rfl, rfl⟩, ?_⟩
    show Steps p.tables e below _ ((({ U with heap := s₂.heap, slotsUsed := s₂.slotsUsed } : State).setVm s₂.vm).setTop { g with pc := g.pc + len₂, stack := v.toList ++ g.stack })
    rw [← hs₂]
    exact hsteps
  · obtain ⟨e2, q2, q3, q4, q5, q6⟩ := id hsm
    have e3 : s₂ = ({ (U.calling g mk a).setFrames s₂.frames with heap := s₂.heap, slotsUsed := s₂.slotsUsed } : State).setVm s₂.vm := by
      have : s₂ = ({ s₂ with vm := (U.calling g mk a).vm } : State).setVm s₂.vm := rfl
      rw [e2] at this
      exact this
    have hf₂ : s₂.frames = .throwing q :: .java g :: U.frames.tail := hend
    have hW' : U.WarmedH s₂.vm := hW₂
    have hs₂ : s₂ = ((({ U with heap := s₂.heap, slotsUsed := s₂.slotsUsed } : State).setVm s₂.vm).setTop g).pushFrame (.throwing q) := by
      refine e3.trans ?_
      rw [hf₂, State.calling_eq h.top, State.setFrames_setFrames, State.pushFrame, State.frames_setTop _ hr', State.setTop_of_frames _ hr', State.setFrames_setFrames, hr]
      rfl
    have hsame : U.sameButNew ({ U with heap := s₂.heap, slotsUsed := s₂.slotsUsed } : State) L mc ms := by
      refine ⟨?_, q2, q3, q4, q5, q6⟩
      obtain ⟨t, ht, -⟩ := State.frames_cons hr
      show ({ U with heap := s₂.heap, slotsUsed := s₂.slotsUsed } : State) = { U.setFrames U.frames with heap := s₂.heap, slotsUsed := s₂.slotsUsed }
      rw [State.setFrames_self ht]
    subst hg
    refine Or.inr ⟨q, ⟨(({ U with heap := s₂.heap, slotsUsed := s₂.slotsUsed } : State).setVm s₂.vm), Ls ++ L, c0 + mc, s0 + ms⟩,
      ⟨X.admits, X.cas, X.clock, X.frames, X.room, X.hears, X.method, X.code, (X.here.setHeapUsed s₂.heap s₂.slotsUsed).setVm hW'.alike, X.tail, State.WarmedH.trans X.warmed hW', X.limits, X.bytes, X.same.trans (hsame.setVm s.vm)⟩,
      ⟨g, mk, s₂, L, E, ce, rfl, rfl, hx, hce, hcv, hcl, rfl, hL, rfl, rfl⟩, ?_⟩
    show Steps p.tables e below _ (((({ U with heap := s₂.heap, slotsUsed := s₂.slotsUsed } : State).setVm s₂.vm).setTop g).pushFrame (.throwing q))
    rw [← hs₂]
    exact hsteps
end Back2
abbrev CallB2 (R : Room) (s : State) (args : Array Value) (own : String) (index : Nat) (y : MethodName) (bytes : ByteArray) (maxL : Nat) (ret : Option FieldType) (ws : List Cond) (rm : Room) (n : Nat) : Prop :=
  rm.frames + 1 ≤ R.frames ∧ 8 + (maxL + 11) + rm.locals ≤ R.locals ∧ (∀ w ∈ ws, ∀ (a' : Array Value) (U : State), s.WarmedH U.vm → w.before a' U = true) ∧ Cond.code y bytes maxL ret ∈ ws ∧
  (Cond.code y bytes maxL ret).before args s = true ∧ (Cond.initialized y.cls).before args s = true ∧ (y.cls ≠ "java/lang/invoke/MethodHandle" ∧ y.cls ≠ "java/lang/invoke/VarHandle") ∧ (∀ sig, parseMethodDescriptor y.desc = some sig → n = sig.parameters.length) ∧ (Cond.methodLink own index y).before args s = true
abbrev CallW2 (R : Room) (s : State) (args : Array Value) (own C : String) (index : Nat) (y : MethodName) (bytes : ByteArray) (maxL : Nat) (ret : Option FieldType) (ws : List Cond) (rm : Room) (n : Nat) : Prop :=
  CallB2 R s args own index y bytes maxL ret ws rm n ∧ (Cond.instanceMethod y).before args s = true ∧ (Cond.selects C y y).before args s = true
section Runs2
variable {p : Program} {l : Launch} {e : Env} {R : Room} {s : State} {m : MethodId} {args : Array Value} {below : List Frame} {meth : Method} {c : Code} {H : Heap} {locs : List Loc} {cells slots : Nat}
variable {y : MethodName} {bytes cc : ByteArray} {maxL nL mc ms n index : Nat} {ret : Option FieldType} {ws : List Cond} {rm : Room} {Pc : Array Value → State → Prop} {Qc : Array Value → State → Outcome → State → Prop} {XC : String → State → State → Prop} {free : Addr → Prop} {Ts : List Cond} {own C : String} {b : Addr} {As rest : List Value} {g : JFrame}
theorem vx_runV2 (S : CallFix p m c cc nL s args Ts own) (hM : vx_Met l y ws rm Pc Qc XC mc ms free) (cw : CallW2 R s args own C index y bytes maxL ret ws rm n) (hp : PreV s H C b Pc As)
    (hg : g.method = m) (hn : As.length = n) (hsize : g.locals.size = nL) (hstack : g.stack = As.reverse ++ .ref b :: rest) (hW : 2 * g.monitorRoom + (rest.map fun v => v.category).sum ≤ 8) (hdg : decode cc g.pc = .ok (.invokevirtual index, 3)) (hf : cells + rm.cells ≤ R.cells ∧ slots + rm.slots ≤ R.slots) :
    vx_Run p l e R s m args below meth c H locs cells slots mc ms g rest (Qc (Value.ref b :: As).toArray) XC free := by
  have hK : vx_Back l R p e below s args y 3 8 (PreOf R rm.cells rm.slots Pc) (PostOf Qc mc ms free) (vx_Post XC mc ms free) := by
    obtain ⟨⟨hfr, hlo, hws, hcw, -, hini, -⟩, -⟩ := cw
    exact vx_back2 (bytes := bytes) (maxL := maxL) (ret := ret) hM hp.1 hfr hlo hws hcw (fun a' U hW => word_at hW (Or.inl (by first | rfl | simp [Cond.onTables, Cond.keeps, Cond.steady])) hini)
  obtain ⟨⟨-, -, -, -, hcode, -, hy, hlen, hl⟩, hin, hse⟩ := cw
  obtain ⟨hx, hb, hml, ho, -⟩ := S
  obtain ⟨-, ⟨cellB, hcB, hoB, hclB⟩, hPc⟩ := hp
  intro T hT X
  rcases vx_callV X hx (C := C) (bytes := bytes) (maxL := maxL) (ret := ret) ho hl hin hse hcode hy hK (by rw [hT]; exact hcB) hoB hclB hg (hsize.trans hml.symm) (argsL := As) (rest := rest) (fun sig h => hn.trans (hlen sig h)) hstack hW (by rw [hb]; exact hdg)
    (fun vm₁ hW₁ => ⟨hf.1, hf.2, hPc (T.setVm vm₁) hT hW₁⟩) with ⟨v, vm₁, ⟨U', l2, c2, s2⟩, hW₁, X', ⟨g', mk, t, L, e1, e2, hq, h1, hL, h2, h3⟩, st⟩ | ⟨q, vm₁, ⟨U', l2, c2, s2⟩, hW₁, X', ⟨g', mk, t, L, E, ce, e1, e2, hq, hce, hcv, hcl, h1, hL, h2, h3⟩, st⟩
  · dsimp only [Pt.U, Pt.locs, Pt.cells, Pt.slots] at X' e1 e2 h1 h2 h3 st
    subst h1; subst h2; subst h3
    exact Or.inl ⟨v, (T.setVm vm₁).calling g' mk (Value.ref b :: As).toArray, t, U', L, hT, X', hL, e1, e2, hq, st⟩
  · dsimp only [Pt.U, Pt.locs, Pt.cells, Pt.slots] at X' e1 e2 h1 h2 h3 st hcl
    subst h1; subst h2; subst h3
    exact Or.inr ⟨q, (T.setVm vm₁).calling g' mk (Value.ref b :: As).toArray, t, U', L, E, ce, hT, X', hL, e1, e2, hq, hce, hcv, vx_cls hW₁ hcl, st⟩
end Runs2
theorem fty_lt (ci k : Nat) (h : k < fN ci) : fty ci k < 4 := by
  have key : ∀ l ∈ ftl, ∀ x ∈ l, x < 4 := by decide +kernel
  unfold fN at h
  unfold fty
  rw [List.getD_eq_getElem?_getD (l := ftl.getD ci []), List.getElem?_eq_getElem h]
  have hm : (ftl.getD ci []) ∈ ftl ∨ ftl.getD ci [] = [] := by
    by_cases hc : ci < ftl.length
    · left; rw [List.getD_eq_getElem?_getD, List.getElem?_eq_getElem hc]; exact List.getElem_mem hc
    · right; rw [List.getD_eq_getElem?_getD, List.getElem?_eq_none (by omega)]; rfl
  rcases hm with hm | hm
  · exact key _ hm _ (List.getElem_mem h)
  · rw [hm] at h; exact absurd h (Nat.not_lt_zero _)

/-! making cells -/
/-- a new object's fields -/
def sN (D : Dat) (a : Nat) : Dat := (fun b k => if b = a then 0 else D.1 b k, fun b k => if b = a then 0 else D.2.1 b k, fun b k => if b = a then none else D.2.2 b k)
theorem dI_N (D : Dat) (a b k : Nat) : dI (sN D a) b k = if b = a then 0 else dI D b k := rfl
theorem dL_N (D : Dat) (a b k : Nat) : dL (sN D a) b k = if b = a then 0 else dL D b k := rfl
theorem dR_N (D : Dat) (a b k : Nat) : dR (sN D a) b k = if b = a then none else dR D b k := rfl
theorem cE_sN {w : Wx} {A : Al} (D : Dat) (a : Nat) : ∀ b, b ≠ a → cE w A (sN D a) b = cE w A D b := fun b h => cE_same (fun j => by rw [dI_N, if_neg h]) (fun j => by rw [dL_N, if_neg h]) (fun j => by rw [dR_N, if_neg h])
/-- the picture with one cell more, at its end -/
theorem pic_push {w : Wx} {n a0 : Nat} (hp : pp a0 = n) {A A' : Al} {D D' : Dat} {H H1 : Heap} (h : Pic w n A D H) (hn : A'.1 a0 < 19) (ho : ∀ b, b ≠ a0 → cE w A' D' b = cE w A D b) (hk : ∀ b, b ≠ a0 → A'.1 b = A.1 b) (hz : H1.size = H.size + 1) (hq : ∀ q : Nat, q < H.size → H1[q]? = H[q]?) (he : va_at (wG w) vwCl (wb w + pp a0, cE w A' D' a0) H1) : Pic w (n + 1) A' D' H1 := by
  subst hp
  obtain ⟨h1, L, hP, hD, hL⟩ := h
  have hge := pic_ge hD
  have hlt : ∀ q ∈ L, q < wb w + pp a0 := fun q hq => by
    obtain ⟨k, hk⟩ := va_pl_get (X := []) (f := fA w A D) hq
    have := (hP k _ hk).lt
    dsimp only at this
    omega
  have hsame : va_pl L (fA w A D) = va_pl L (fA w A' D') := by
    unfold va_pl
    apply List.map_congr_left
    intro q hq
    have e1 := hge q hq
    have e2 := hlt q hq
    show (q, cE w A D (qq (q - wb w))) = (q, cE w A' D' (qq (q - wb w)))
    rw [ho _ (fun e9 => by rw [← e9, pq] at e2; omega)]
  have hpl : va_pl (L ++ [wb w + pp a0]) (fA w A' D') = va_pl L (fA w A' D') ++ [(wb w + pp a0, fA w A' D' (wb w + pp a0))] := by simp [va_pl]
  have hP0 : va_P (wG w) vwCl (va_pl L (fA w A' D')) H := by rw [← hsame]; exact hP
  have hD0 : va_D (gb w) (va_pl L (fA w A' D')) := by rw [← hsame]; exact hD
  refine ⟨by omega, L ++ [wb w + pp a0], ?_, ?_, ?_⟩
  · rw [hpl]
    refine va_P.app (hP0.kept (fun k q hk => hq _ ((hP0 k q hk).lt))) (fun k q hk => ?_)
    have : k = 0 := by
      have := (List.getElem?_eq_some_iff.mp hk).1
      simp at this
      exact this
    subst this
    cases hk
    rw [fA_b]
    exact he
  · rw [hpl]
    exact hD0.push hP0 (by omega) (Nat.le_add_right _ _)
  · intro a ha
    by_cases e : a = a0
    · rw [e]; exact List.mem_append_right _ (List.mem_singleton.mpr rfl)
    · rw [hk a e] at ha
      exact List.mem_append_left _ (hL a ha)
def PN (ci : Nat) (C : String) (T : u_T) (N : Nat) (ty : Nat → FieldType) : Prop := vwCl[ci]? = some (C, T, N) ∧ (∀ w ∈ u_ws C T N, w ∈ tb) ∧ (∀ k, k < N → parseFieldDescriptor (T k).2.2.1 = some (ty k)) ∧ ci < 13 ∧ fN ci = N ∧ (∀ k, k < N → (fty ci k = 0 ∧ defaultValue (ty k) = .int 0) ∨ (fty ci k = 1 ∧ defaultValue (ty k) = .long 0) ∨ (2 ≤ fty ci k ∧ defaultValue (ty k) = .null)) ∧ Cond.instantiable C N ∈ tb ∧ Cond.initialized C ∈ tb
section RowsN
variable {X : Cx} {Q : State → Prop} {n : Nat} {A : Al} {D : Dat} {pc : Nat} {lv lv' : List (Nat × Value)} {st rest : List Value} {cc : ByteArray} {own : String} {ret : Option FieldType} {Fr Lc : Nat}
variable {ci ix k N a : Nat} {C : String} {T : u_T} {ty : Nat → FieldType} {t : Nat} {τ : FieldType}
theorem v_new {a0 : Nat} (hp : pp a0 = n) (O : Ok X cc own ret Fr Lc) (hR : xC X ≤ (xR X).cells ∧ xU X ≤ (xR X).slots) (P : PN ci C T N ty) (hcl : Cond.classLink own ix C ∈ tb) (hlm : (∀ k, fty ci k ≠ 3) ∨ wlm (xw X) = false) (h1c : 1 ≤ A.2.2.1) (h1u : N ≤ A.2.2.2) (d : decode cc pc = .ok (.new ix, 3))
    (kk : V X Q (n + 1) (va_up A.1 a0 ci, A.2.1, A.2.2.1 - 1, A.2.2.2 - N) (sN D a0) (pc + 3) lv (.ref (bo X + pp a0) :: rest)) : V X Q n A D pc lv rest := by
  intro H locs cells slots ls h1 h2 h3 h4 h5
  obtain ⟨P1, P2, P3, P4, P5, P6, P7, P8⟩ := P
  have hts := O.2.2.2.2.1
  have hKn := O.2.2.2.2.2.1.1.1 ci _ P1
  have hr1 := hR.1
  have hr2 := hR.2
  refine W.newcK O.1 O.2.1 O.2.2.2.1 (hts _ hcl) (hts _ P7) (hts _ P8) rfl d (by omega) (by omega) hKn.2.1 rfl fun H1 kC hkC e1 z1 o1 => ?_
  have hsz := h1.1
  have hw := kk H1 locs (cells + 1) (slots + N) ls (pic_push hp h1 (A' := (va_up A.1 a0 ci, A.2.1, A.2.2.1 - 1, A.2.2.2 - N)) (D' := sN D a0) (by show va_up A.1 a0 ci a0 < 19; rw [va_up_self]; omega) (fun b hb => by
      have e : va_up A.1 a0 ci b = A.1 b := va_up_ne _ _ hb
      have := cE_sN (w := xw X) (A := A) D a0 b hb
      unfold cE at this ⊢
      simp only [e]
      exact this) (fun b hb => va_up_ne _ _ hb) z1 (fun q hq => o1 q hq) ?_) ⟨Nat.le_trans h2.1 (by omega), fun q g1 g2 => (o1 q (Nat.lt_of_lt_of_le g1 h2.1)).trans (h2.2.1 q g1 g2), h2.2.2⟩ (by dsimp only; omega) (by dsimp only; omega) h5
  · have e9 : wb (xw X) + pp a0 = H.size := by omega
    rw [e9] at hw
    exact hw
  · rw [cE_obj (ci := ci) (by show va_up A.1 a0 ci a0 = ci; rw [va_up_self]) P4]
    have e9 : wb (xw X) + pp a0 = H.size := by omega
    rw [e9]
    refine ⟨_, P1, (u_born ty hts P2 hKn hkC e1 P3).to (fun j hj => ?_)⟩
    have e2 : vp_V (flds (xw X) (sN D a0) a0 ci) j = fv (xw X) (sN D a0) a0 (fty ci j) j := by
      show (flds (xw X) (sN D a0) a0 ci).getD j .null = _
      rw [List.getD_eq_getElem?_getD, flds_get _ _ _ _ _ (by omega)]; rfl
    rw [e2]
    rcases P6 j hj with ⟨q1, q2⟩ | ⟨q1, q2⟩ | ⟨q1, q2⟩
    · rw [q2, q1]; simp [fv, dI_N]
    · rw [q2, q1]; simp [fv, dL_N]
    · rw [q2]
      have y0 : fty ci j ≠ 0 := by omega
      have a1 : fty ci j ≠ 1 := by omega
      rcases hlm with q | q
      · have := q j
        have e3 : fv (xw X) (sN D a0) a0 (fty ci j) j = rv (wb (xw X)) (dR (sN D a0) a0 j) ∨ wlm (xw X) = true := by
          by_cases a2 : fty ci j = 2
          · left; simp [fv, a2]
          · by_cases hl : wlm (xw X) = true
            · exact Or.inr hl
            · left; simp [fv, y0, a1, a2, hl]
        by_cases a2 : fty ci j = 2
        · simp [fv, a2, dR_N, rv, va_rf]
        · by_cases hl : wlm (xw X) = true
          · exact absurd (show fty ci j = 3 from by
              have hb : fty ci j < 4 := fty_lt ci j (by omega)
              omega) this
          · simp [fv, y0, a1, a2, hl, dR_N, rv, va_rf]
      · by_cases a2 : fty ci j = 2
        · simp [fv, a2, dR_N, rv, va_rf]
        · simp [fv, y0, a1, a2, q, dR_N, rv, va_rf]
theorem v_objInit (O : Ok X cc own ret Fr Lc) (hl : Cond.methodLink own ix Lib.objectInit ∈ tb) (hi : Cond.instanceMethod Lib.objectInit ∈ tb) (hc : Cond.code Lib.objectInit ⟨#[0xb1]⟩ 1 none ∈ tb) (hF : 1 ≤ Fr) (hLc : (rest.map fun v => v.category).sum + 12 ≤ Lc) (d : decode cc pc = .ok (.invokespecial ix, 3)) (kk : V X Q n A D (pc + 3) lv rest) : V X Q n A D pc lv (.ref a :: rest) := by
  intro H locs cells slots ls h1 h2 h3 h4 h5
  have hts := O.2.2.2.2.1
  refine W.objInit O.1 O.2.1 O.2.2.2.1 (hts _ hl) (hts _ hi) (hts _ hc) rfl (h5.1.trans O.2.2.1.symm) rfl d (Nat.le_trans hF O.2.2.2.2.2.2.1) ?_ (kk H locs cells slots ls h1 h2 h3 h4 h5)
  have := O.2.2.2.2.2.2.2.1
  show 2 * 0 + _ + 12 ≤ _
  omega
/-- a final field, in the constructor -/
theorem v_putF {D' : Dat} {v : Value} (O : Ok X cc own ret Fr Lc) (hinit : (xh X).name = "<init>") (F : FI ci C T N ty k t) (hfin : (T k).2.2.2 = true) (hown : C = own) (hty : ty k = τ) (hl : Cond.fieldLink own ix C (T k).2.1 (T k).2.2.1 ∈ tb) (ha : A.1 a = ci) (d : decode cc pc = .ok (.putfield ix, 3)) (hn : narrow τ v = v) (hf : fits τ v = true)
    (hv : fv (xw X) D' a t k = v) (ho : ∀ j, j ≠ k → fv (xw X) D' a (fty ci j) j = fv (xw X) D a (fty ci j) j) (h0 : ∀ b, b ≠ a → cE (xw X) A D' b = cE (xw X) A D b)
    (kk : V X Q n A D' (pc + 3) lv rest) : V X Q n A D pc lv (v :: .ref (bo X + pp a) :: rest) := by
  intro H locs cells slots ls h1 h2 h3 h4 h5
  obtain ⟨F1, F2, F3, F4, F5, F6, F7, F8, F9⟩ := F
  have ha19 : A.1 a < 19 := by rw [ha]; omega
  have hP := pic_at h1 (a := a) ha19
  rw [cE_obj ha F5] at hP
  have hts := O.2.2.2.2.1
  have hK := O.2.2.2.2.2.1.1
  have hap := va_apart (own := own) hts F2 ty F3 F4 hK F1
  obtain ⟨r, g1, cell, q1, q2, q3, q4⟩ := hP 0 _ rfl
  have hr : r = (C, T, N) := Option.some.inj (g1.symm.trans F1)
  subst hr
  obtain ⟨hS, hfc, kC, hkC, hkind⟩ := hK.1 ci _ F1
  obtain ⟨cf, kf, fi, f, hi, hsl⟩ := hS k F6
  have hlay := hts _ (F2 _ (u_in_lay F6))
  unfold u_lay at hlay
  rw [if_pos hfin] at hlay
  have hst := (u_facts hfc hkC (u_lays hts F2 F6) hi).1
  have hcf : (xm X).cls = cf := by
    obtain ⟨_, _, c', _, _, _, -, -, hf', -, -, -, hown2, -⟩ := Cond.laysFinal_spec hlay
    have e1 : c' = cf := by have := hi.symm.trans hf'; simp at this; exact this.1.symm
    rw [F9, hown] at hown2
    rw [← e1]; exact Option.some.inj (O.2.2.2.1.symm.trans hown2)
  have h6 := u_fits hfc hkC hkind (Or.inr hlay) hi ((F3 k F6).trans (congrArg some hty)) hn hf
  refine W.putFinK O.1 O.2.1 O.2.2.2.1 (hts _ hl) (by rw [F9] at hi; exact hi) hst hcf hinit (by rw [q2]; exact h6) q1 q3 (by rw [hsl]; exact k2_hasslot (q4 k F6)) rfl rfl d fun H' e1 e2 e3 => ?_
  rw [hsl] at e1 ⊢
  refine kk H' _ cells slots ls (pic_store h1 ha19 h0 e2 ?_ e3) (h2.put e2 e3 (Nat.le_add_right _ _)) h3 h4 h5
  rw [cE_obj ha F5]
  exact ⟨_, F1, t_OB.to (V := updV (vp_V (flds (xw X) D a ci)) k v) ⟨_, e1, q2, q3, t_set q4 hap F6 v⟩ (flds_upd F7 (by rw [F8]; exact hv) ho)⟩
theorem v_putFI {v : Int32} (O : Ok X cc own ret Fr Lc) (hinit : (xh X).name = "<init>") (F : FI ci C T N ty k 0) (hfin : (T k).2.2.2 = true) (hown : C = own) (hty : ty k = .int) (hl : Cond.fieldLink own ix C (T k).2.1 (T k).2.2.1 ∈ tb) (ha : A.1 a = ci) (d : decode cc pc = .ok (.putfield ix, 3))
    (kk : V X Q n A (sI D a k v) (pc + 3) lv rest) : V X Q n A D pc lv (.int v :: .ref (bo X + pp a) :: rest) :=
  v_putF O hinit F hfin hown hty hl ha d rfl rfl (by simp [fv, dI_s]) (fun j h => fv_sI D a k v _ j h) (cE_sI D a k v) kk
/-- a final reference, as long as links aren't fixed -/
theorem v_putFR {r : Option Nat} (O : Ok X cc own ret Fr Lc) (hinit : (xh X).name = "<init>") (hlm : wlm (xw X) = false) (F : FI ci C T N ty k 3) (hfin : (T k).2.2.2 = true) (hown : C = own) (hty : ty k = τ) (hτ : refKind τ = true) (hl : Cond.fieldLink own ix C (T k).2.1 (T k).2.2.1 ∈ tb) (ha : A.1 a = ci) (d : decode cc pc = .ok (.putfield ix, 3))
    (kk : V X Q n A (sR D a k r) (pc + 3) lv rest) : V X Q n A D pc lv (rv (bo X) r :: .ref (bo X + pp a) :: rest) :=
  v_putF O hinit F hfin hown hty hl ha d (ref_nar hτ r) (ref_fit hτ r) (by simp [fv, hlm, dR_s]) (fun j h => fv_sR D a k r _ j h) (cE_sR D a k r) kk
end RowsN
