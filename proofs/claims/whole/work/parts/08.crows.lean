/-! rows of arrays, of returns and of calls -/
def Qr (w : Wx) (n : Nat) (A : Al) (r : Option Value) (D : Dat) : Array Value → State → Outcome → State → Prop := fun _ st oc t => oc = .returned r ∧ Pic w n A D t.heap ∧ va_F (gb w) st t
abbrev Q0 (X : Cx) (n : Nat) (A : Al) (r : Option Value) (D : Dat) : State → Prop := MQ (xb X) (Qr (xw X) n A r D) (xa X) (xs X) 0 0 (gb (xw X))
def Z0 (X : Cx) (A : Al) : Prop := xC X = A.2.2.1 ∧ xU X = A.2.2.2
def BB (X : Cx) (A : Al) : Prop := xC X ≤ (xR X).cells + A.2.2.1 ∧ xU X ≤ (xR X).slots + A.2.2.2
theorem bb0 {X : Cx} {A : Al} (h : Z0 X A) : BB X A := ⟨by rw [h.1]; exact Nat.le_add_left _ _, by rw [h.2]; exact Nat.le_add_left _ _⟩
section RowsC
variable {X : Cx} {Q : State → Prop} {n : Nat} {A : Al} {D : Dat} {pc : Nat} {lv lv' : List (Nat × Value)} {st rest : List Value} {cc : ByteArray} {own : String} {ret : Option FieldType} {Fr Lc : Nat}
variable {a : Nat} {i : Int32}
theorem v_iald (O : Ok X cc own ret Fr Lc) (ha : A.1 a = 14) (hin : vp_in i (A.2.1 a)) (d : decode cc pc = .ok (.iaload, 1)) (kk : V X Q n A D (pc + 1) lv (.int (dI D a i.toNatClampNeg) :: rest)) : V X Q n A D pc lv (.int i :: .ref (bo X + pp a) :: rest) := by
  intro H locs cells slots ls h1 h2 h3 h4 h5
  have hP := pic_at h1 (a := a) (by rw [ha]; decide)
  rw [cE_int ha] at hP
  exact va_iald O.1 O.2.1 O.2.2.2.2.2.1.1 hP 0 1 rfl rfl hin d (kk H locs cells slots ls h1 h2 h3 h4 h5)
theorem v_zald (O : Ok X cc own ret Fr Lc) (ha : A.1 a = 16) (hin : vp_in i (A.2.1 a)) (d : decode cc pc = .ok (.baload, 1)) (kk : V X Q n A D (pc + 1) lv (.int (dI D a i.toNatClampNeg) :: rest)) : V X Q n A D pc lv (.int i :: .ref (bo X + pp a) :: rest) := by
  intro H locs cells slots ls h1 h2 h3 h4 h5
  have hP := pic_at h1 (a := a) (by rw [ha]; decide)
  rw [cE_boo ha] at hP
  exact va_zald O.1 O.2.1 O.2.2.2.2.2.1.1 hP 0 3 rfl rfl hin d (kk H locs cells slots ls h1 h2 h3 h4 h5)
theorem v_cald (O : Ok X cc own ret Fr Lc) (ha : A.1 a = 13) (hin : vp_in i (A.2.1 a)) (d : decode cc pc = .ok (.caload, 1)) (kk : V X Q n A D (pc + 1) lv (.int (dI D a i.toNatClampNeg) :: rest)) : V X Q n A D pc lv (.int i :: .ref (bo X + pp a) :: rest) := by
  intro H locs cells slots ls h1 h2 h3 h4 h5
  have hP := pic_at h1 (a := a) (by rw [ha]; decide)
  rw [cE_chr ha] at hP
  exact va_cald O.1 O.2.1 O.2.2.2.2.2.1.1 hP 0 0 rfl rfl hin d (kk H locs cells slots ls h1 h2 h3 h4 h5)
theorem v_lald (O : Ok X cc own ret Fr Lc) (ha : A.1 a = 15) (hin : vp_in i (A.2.1 a)) (d : decode cc pc = .ok (.laload, 1)) (kk : V X Q n A D (pc + 1) lv (.long (dL D a i.toNatClampNeg) :: rest)) : V X Q n A D pc lv (.int i :: .ref (bo X + pp a) :: rest) := by
  intro H locs cells slots ls h1 h2 h3 h4 h5
  have hP := pic_at h1 (a := a) (by rw [ha]; decide)
  rw [cE_lng ha] at hP
  exact va_lald O.1 O.2.1 O.2.2.2.2.2.1.1 hP 0 2 rfl rfl hin d (kk H locs cells slots ls h1 h2 h3 h4 h5)
theorem v_aaldS (O : Ok X cc own ret Fr Lc) (ha : A.1 a = 17) (hin : vp_in i (A.2.1 a)) (d : decode cc pc = .ok (.aaload, 1)) (kk : V X Q n A D (pc + 1) lv (rv (bo X) (dR D a i.toNatClampNeg) :: rest)) : V X Q n A D pc lv (.int i :: .ref (bo X + pp a) :: rest) := by
  intro H locs cells slots ls h1 h2 h3 h4 h5
  have hP := pic_at h1 (a := a) (by rw [ha]; decide)
  rw [cE_sts ha] at hP
  exact va_aldq (C := "FlowChain$Statement") O.1 O.2.1 O.2.2.2.2.2.1.1 hP 0 4 rfl rfl hin d (kk H locs cells slots ls h1 h2 h3 h4 h5)
theorem v_aald2 (O : Ok X cc own ret Fr Lc) (ha : A.1 a = 18) (hin : vp_in i (A.2.1 a)) (d : decode cc pc = .ok (.aaload, 1)) (kk : V X Q n A D (pc + 1) lv (.ref (bo X + pp (a + 1 + i.toNatClampNeg)) :: rest)) : V X Q n A D pc lv (.int i :: .ref (bo X + pp a) :: rest) := by
  intro H locs cells slots ls h1 h2 h3 h4 h5
  have hP := pic_at h1 (a := a) (by rw [ha]; decide)
  rw [cE_two ha] at hP
  have hlt : i.toNatClampNeg < A.2.1 a := Nat.not_le.mp fun q => hin (Or.inr q)
  exact W.aald (v := .ref (bo X + pp (a + 1 + i.toNatClampNeg))) (ty := .array .int) O.1 O.2.1 (hP 0 _ rfl) ((O.2.2.2.2.2.1.1.2 5 _ rfl).1 _ (fun j => va_rf (some (bo X + pp (a + 1 + j))))) rfl (fun q => by cases q) (by show ¬ (i < 0 ∨ (arrV _ _ _).slots.size ≤ _); rw [arrV_size]; exact hin) (by show (arrV _ _ _).slots[_]? = _; rw [arrV_read _ _ hlt]; rfl) rfl rfl d (kk H locs cells slots ls h1 h2 h3 h4 h5)
theorem v_iast {x : Int32} (O : Ok X cc own ret Fr Lc) (ha : A.1 a = 14) (hin : vp_in i (A.2.1 a)) (d : decode cc pc = .ok (.iastore, 1)) (kk : V X Q n A (sI D a i.toNatClampNeg x) (pc + 1) lv rest) : V X Q n A D pc lv (.int x :: .int i :: .ref (bo X + pp a) :: rest) := by
  intro H locs cells slots ls h1 h2 h3 h4 h5
  have h19 : A.1 a < 19 := by rw [ha]; decide
  have hP := pic_at h1 (a := a) h19
  rw [cE_int ha] at hP
  refine W.iast O.1 O.2.1 (hP 0 _ rfl) ((O.2.2.2.2.2.1.1.2 1 _ rfl).1 _ (fun j => .int (dI D a j))) (fun q => by cases q) (by show ¬ (i < 0 ∨ (arrV _ _ _).slots.size ≤ _); rw [arrV_size]; exact hin) rfl rfl d fun H1 e z oq => ?_
  refine kk H1 _ cells slots ls (pic_store h1 h19 (cE_sI D a _ x) z ?_ oq) (h2.put z oq (Nat.le_add_right _ _)) h3 h4 h5
  rw [cE_int ha]
  show H1[_]? = some (vp_cell _ _)
  rw [e]
  show some ((vp_cell _ (_, .inl _)).setSlot _ _) = _
  rw [vp_cell_i, vp_cell_i, arrV_store]
  congr 2
  funext q
  by_cases hq : q = i.toNatClampNeg
  · subst hq
    simp [updV, dI_s]
  · simp [updV, dI_s, hq]
theorem v_zast {x : Int32} (O : Ok X cc own ret Fr Lc) (ha : A.1 a = 16) (hin : vp_in i (A.2.1 a)) (d : decode cc pc = .ok (.bastore, 1)) (kk : V X Q n A (sI D a i.toNatClampNeg (x &&& 1)) (pc + 1) lv rest) : V X Q n A D pc lv (.int x :: .int i :: .ref (bo X + pp a) :: rest) := by
  intro H locs cells slots ls h1 h2 h3 h4 h5
  have h19 : A.1 a < 19 := by rw [ha]; decide
  have hP := pic_at h1 (a := a) h19
  rw [cE_boo ha] at hP
  refine W.zast O.1 O.2.1 (hP 0 _ rfl) ((O.2.2.2.2.2.1.1.2 3 _ rfl).1 _ (fun j => .int (dI D a j))) (fun q => by cases q) (by show ¬ (i < 0 ∨ (arrV _ _ _).slots.size ≤ _); rw [arrV_size]; exact hin) rfl rfl d fun H1 e z oq => ?_
  refine kk H1 _ cells slots ls (pic_store h1 h19 (cE_sI D a _ _) z ?_ oq) (h2.put z oq (Nat.le_add_right _ _)) h3 h4 h5
  rw [cE_boo ha]
  show H1[_]? = some (vp_cell _ _)
  rw [e]
  show some ((vp_cell _ (_, .inl _)).setSlot _ _) = _
  rw [vp_cell_i, vp_cell_i, arrV_store]
  congr 2
  funext q
  by_cases hq : q = i.toNatClampNeg
  · subst hq
    simp [updV, dI_s, narrow]
  · simp [updV, dI_s, hq]
theorem v_cast {x : Int32} (O : Ok X cc own ret Fr Lc) (ha : A.1 a = 13) (hin : vp_in i (A.2.1 a)) (d : decode cc pc = .ok (.castore, 1)) (kk : V X Q n A (sI D a i.toNatClampNeg (vp_nar .char x)) (pc + 1) lv rest) : V X Q n A D pc lv (.int x :: .int i :: .ref (bo X + pp a) :: rest) := by
  intro H locs cells slots ls h1 h2 h3 h4 h5
  have h19 : A.1 a < 19 := by rw [ha]; decide
  have hP := pic_at h1 (a := a) h19
  rw [cE_chr ha] at hP
  refine W.cast O.1 O.2.1 (hP 0 _ rfl) ((O.2.2.2.2.2.1.1.2 0 _ rfl).1 _ (fun j => .int (dI D a j))) (fun q => by cases q) (by show ¬ (i < 0 ∨ (arrV _ _ _).slots.size ≤ _); rw [arrV_size]; exact hin) rfl rfl d fun H1 e z oq => ?_
  refine kk H1 _ cells slots ls (pic_store h1 h19 (cE_sI D a _ _) z ?_ oq) (h2.put z oq (Nat.le_add_right _ _)) h3 h4 h5
  rw [cE_chr ha]
  show H1[_]? = some (vp_cell _ _)
  rw [e]
  show some ((vp_cell _ (_, .inl _)).setSlot _ _) = _
  rw [vp_cell_i, vp_cell_i, arrV_store]
  congr 2
  funext q
  by_cases hq : q = i.toNatClampNeg
  · subst hq
    simp [updV, dI_s, narrow, vp_nar]
  · simp [updV, dI_s, hq]
theorem v_last {x : Int64} (O : Ok X cc own ret Fr Lc) (ha : A.1 a = 15) (hin : vp_in i (A.2.1 a)) (d : decode cc pc = .ok (.lastore, 1)) (kk : V X Q n A (sL D a i.toNatClampNeg x) (pc + 1) lv rest) : V X Q n A D pc lv (.long x :: .int i :: .ref (bo X + pp a) :: rest) := by
  intro H locs cells slots ls h1 h2 h3 h4 h5
  have h19 : A.1 a < 19 := by rw [ha]; decide
  have hP := pic_at h1 (a := a) h19
  rw [cE_lng ha] at hP
  refine W.last O.1 O.2.1 (hP 0 _ rfl) ((O.2.2.2.2.2.1.1.2 2 _ rfl).1 _ (fun j => .long (dL D a j))) (fun q => by cases q) (by show ¬ (i < 0 ∨ (arrV _ _ _).slots.size ≤ _); rw [arrV_size]; exact hin) rfl rfl d fun H1 e z oq => ?_
  refine kk H1 _ cells slots ls (pic_store h1 h19 (cE_sL D a _ x) z ?_ oq) (h2.put z oq (Nat.le_add_right _ _)) h3 h4 h5
  rw [cE_lng ha]
  show H1[_]? = some (vp_cell _ _)
  rw [e]
  show some ((vp_cell _ (_, .inr (.inl _))).setSlot _ _) = _
  rw [vp_cell_l, vp_cell_l, arrV_store]
  congr 2
  funext q
  by_cases hq : q = i.toNatClampNeg
  · subst hq
    simp [updV, dL_s]
  · simp [updV, dL_s, hq]
theorem v_alenI (O : Ok X cc own ret Fr Lc) (ha : A.1 a = 14) (d : decode cc pc = .ok (.arraylength, 1)) (kk : V X Q n A D (pc + 1) lv (.int (Int32.ofNat (A.2.1 a)) :: rest)) : V X Q n A D pc lv (.ref (bo X + pp a) :: rest) := by
  intro H locs cells slots ls h1 h2 h3 h4 h5
  have hP := pic_at h1 (a := a) (by rw [ha]; decide)
  rw [cE_int ha] at hP
  exact va_alen O.1 O.2.1 O.2.2.2.2.2.1.1 hP 0 1 rfl rfl rfl d (kk H locs cells slots ls h1 h2 h3 h4 h5)
theorem v_iret {r : Int32} (O : Ok X cc own (some .int) Fr Lc) (hz : Z0 X A) (d : decode cc pc = .ok (.ireturn, 1)) : V X (Q0 X n A (some (.int r)) D) n A D pc lv [.int r] := by
  intro H locs cells slots ls h1 h2 h3 h4 h5
  have hc := hz.1
  have hu := hz.2
  have e1 : cells = 0 := by omega
  have e2 : slots = 0 := by omega
  subst e1; subst e2
  exact W.iret O.1 O.2.1 O.2.2.2.2.2.2.2.2.2.1 (fun t ht hW => ⟨rfl, by rw [ht]; exact h1, h2.F ht⟩) h2.2.2 d O.2.2.2.2.2.2.2.2.1
theorem v_zret {r : Int32} (O : Ok X cc own (some .boolean) Fr Lc) (hz : Z0 X A) (hn : narrow .boolean (.int r) = .int r) (d : decode cc pc = .ok (.ireturn, 1)) : V X (Q0 X n A (some (.int r)) D) n A D pc lv [.int r] := by
  intro H locs cells slots ls h1 h2 h3 h4 h5
  have hc := hz.1
  have hu := hz.2
  have e1 : cells = 0 := by omega
  have e2 : slots = 0 := by omega
  subst e1; subst e2
  exact W.zret O.1 O.2.1 O.2.2.2.2.2.2.2.2.2.1 hn (fun t ht hW => ⟨rfl, by rw [ht]; exact h1, h2.F ht⟩) h2.2.2 d O.2.2.2.2.2.2.2.2.1
theorem v_lret {r : Int64} (O : Ok X cc own (some .long) Fr Lc) (hz : Z0 X A) (d : decode cc pc = .ok (.lreturn, 1)) : V X (Q0 X n A (some (.long r)) D) n A D pc lv [.long r] := by
  intro H locs cells slots ls h1 h2 h3 h4 h5
  have hc := hz.1
  have hu := hz.2
  have e1 : cells = 0 := by omega
  have e2 : slots = 0 := by omega
  subst e1; subst e2
  exact W.lret O.1 O.2.1 O.2.2.2.2.2.2.2.2.2.1 (fun t ht hW => ⟨rfl, by rw [ht]; exact h1, h2.F ht⟩) h2.2.2 d O.2.2.2.2.2.2.2.2.1
theorem v_ret (O : Ok X cc own none Fr Lc) (hz : Z0 X A) (d : decode cc pc = .ok (.return_, 1)) : V X (Q0 X n A none D) n A D pc lv [] := by
  intro H locs cells slots ls h1 h2 h3 h4 h5
  have hc := hz.1
  have hu := hz.2
  have e1 : cells = 0 := by omega
  have e2 : slots = 0 := by omega
  subst e1; subst e2
  exact W.vret O.1 O.2.1 O.2.2.2.2.2.2.2.2.2.1 (fun t ht hW => ⟨rfl, by rw [ht]; exact h1, h2.F ht⟩) h2.2.2 d O.2.2.2.2.2.2.2.2.1
theorem v_aret {r : Option Nat} {nm : String} (O : Ok X cc own (some (.object nm)) Fr Lc) (hz : Z0 X A) (d : decode cc pc = .ok (.areturn, 1)) : V X (Q0 X n A (some (rv (bo X) r)) D) n A D pc lv [rv (bo X) r] := by
  intro H locs cells slots ls h1 h2 h3 h4 h5
  have hc := hz.1
  have hu := hz.2
  have e1 : cells = 0 := by omega
  have e2 : slots = 0 := by omega
  subst e1; subst e2
  exact W.aret O.1 O.2.1 O.2.2.2.2.2.2.2.2.2.1 (Or.inl ⟨nm, rfl⟩) (by cases r with | none => exact Or.inl rfl | some q => exact Or.inr ⟨_, rfl⟩) (fun t ht hW => ⟨rfl, by rw [ht]; exact h1, h2.F ht⟩) h2.2.2 d O.2.2.2.2.2.2.2.2.1
end RowsC
/-- the contract of a method that makes no cell and doesn't throw -/
def C0 (l : Launch) (w : Wx) (y : MethodName) (cc : ByteArray) (maxL : Nat) (ret : Option FieldType) (Fr Lc : Nat) (av : List Value) (n : Nat) (A : Al) (D : Dat) (r : Option Value) (D' : Dat) : Prop :=
  Met l y (Cond.code y cc maxL ret :: tb) { frames := Fr, cells := 0, slots := 0, locals := Lc } (va_Pc av (fun U => wb w ≤ U.heap.size ∧ Pic w n A D U.heap ∧ KK w U)) (Qr w n A r D') 0 0 (gb w)
theorem C0.of {l : Launch} {w : Wx} {y : MethodName} {cc : ByteArray} {maxL : Nat} {ret : Option FieldType} {Fr Lc : Nat} {av : List Value} {n : Nat} {A : Al} {D : Dat} {r : Option Value} {D' : Dat} (hy : plainName y.cls = true) (hlen : (lg_sl av).length ≤ maxL)
    (k : ∀ X : Cx, xl X = l → xw X = w → xn X = maxL → Z0 X A → Ok X cc y.cls ret Fr Lc → V X (Q0 X n A r D') n A D 0 (lv_args 0 av) []) : C0 l w y cc maxL ret Fr Lc av n A D r D' := by
  refine Met.ofW (cc := cc) (maxL := maxL) (ret := ret) hy rfl ?_
  intro p e s m args below meth c s₁ B hml hv
  obtain ⟨rfl, hge, hP, hK⟩ := hv
  have hts := atoms_spec (ws := Cond.code y cc maxL ret :: tb) B.pre
  have h := k (p, l, e, { frames := Fr, cells := 0, slots := 0, locals := Lc }, s, m, av.toArray, below, meth, c, w, maxL, A.2.2.1, A.2.2.2) rfl rfl rfl ⟨rfl, rfl⟩ ⟨B.exec, B.bytes, hml, findClass_of_methodNamed B.named, fun w h => hts w (List.mem_cons_of_mem _ h), hK, Nat.le_refl _, Nat.le_refl _, B.notSynchronized, B.returns, hge⟩
  rw [lg_entry_eq]
  exact h s.heap [] 0 0 _ hP va_S.rf (Nat.zero_add _) (Nat.zero_add _) (lv_entry av hlen)
def MW (y : MethodName) (cc : ByteArray) (maxL : Nat) (ret : Option FieldType) (np : Nat) : Prop := Cond.code y cc maxL ret ∈ tb ∧ Cond.initialized y.cls ∈ tb ∧ (y.cls ≠ "java/lang/invoke/MethodHandle" ∧ y.cls ≠ "java/lang/invoke/VarHandle" ∧ (parseMethodDescriptor y.desc).map (fun d => d.parameters.length) = some np)
theorem KK.to {w : Wx} {s U : State} {H : Heap} {locs : List Loc} (h : KK w s) (hU : U.heap = H) (hW : s.WarmedH U.vm) (hS : va_S (gb w) s.heap H locs) : KK w U := ⟨va_K.moved hW.alike h.1, by rw [hU]; exact OldP.moved hW (h.2.kept (fun a h1 h2 => hS.2.1 a h1 h2))⟩
theorem pc_blind {w : Wx} {av : List Value} {P : Heap → Prop} : FrameBlind (va_Pc av (fun U => wb w ≤ U.heap.size ∧ P U.heap ∧ KK w U)) := fun a U g mk q => ⟨q.1, q.2.1, q.2.2.1, va_K.moved (u := U) (U := U.calling g mk a) (Vm.Alike.refl U.vm) q.2.2.2.1, OldP.moved (u := U) (U := U.calling g mk a) (State.WarmedH.refl U) q.2.2.2.2⟩
section RowsD
variable {X : Cx} {Q : State → Prop} {n : Nat} {A : Al} {D D' : Dat} {pc : Nat} {lv lv' : List (Nat × Value)} {st rest : List Value} {cc : ByteArray} {own : String} {ret : Option FieldType} {Fr Lc : Nat}
variable {y : MethodName} {cy : ByteArray} {maxL np ix Fr' Lc' ci : Nat} {rt : Option FieldType} {As : List Value} {r : Option Value} {a : Nat}
theorem tb_in {w : Cond} (h : w ∈ tb) : GoodIn tb (w :: tb) := fun v hv => by
  have hm : v ∈ tb := by
    rcases List.mem_cons.mp hv with e | e
    · rw [e]; exact h
    · exact e
  exact ⟨hm, good_of_word (List.mem_filter.mp hm).2⟩
theorem bb_fit {cells slots : Nat} (hB : BB X A) (h3 : cells + A.2.2.1 = xC X) (h4 : slots + A.2.2.2 = xU X) : cells + 0 ≤ (xR X).cells ∧ slots + 0 ≤ (xR X).slots := by
  have b1 := hB.1
  have b2 := hB.2
  exact ⟨by omega, by omega⟩
theorem v_goes {H : Heap} {locs : List Loc} {cells slots : Nat} {ls : Array Slot} {st0 : List Value} {av : Array Value} (hr : va_Run (xp X) (xl X) (xe X) (xR X) (xs X) (xm X) (xa X) (xb X) (xh X) (xc X) H locs cells slots 0 0 (F0 (xm X) pc ls st0) rest (Qr (xw X) n A r D' av) (gb (xw X)))
    (h2 : va_S (fun q => bo X ≤ q) (xs X).heap H locs) (h3 : cells + A.2.2.1 = xC X) (h4 : slots + A.2.2.2 = xU X) (h5 : lv_has ls (xn X) lv) (kk : V X Q n A D' (pc + 3) lv (r.toList ++ rest)) :
    W (xp X) (xl X) (xe X) (xR X) (xs X) (xm X) (xa X) (xb X) (xh X) (xc X) H locs cells slots Q (F0 (xm X) pc ls st0) := by
  intro T hT X0
  obtain ⟨v, st₀, t, T', L, h0, X', hL, e1, e2, ⟨hv, hpic, hF⟩, st⟩ := hr T hT X0
  cases hv
  have hz := hF.1
  have hk := hF.2
  rw [h0] at hz hk
  obtain ⟨t2, a1, b1⟩ := kk T'.heap (locs ++ L) cells slots ls (by rw [e1]; exact hpic) ⟨Nat.le_trans h2.1 (by rw [e1]; exact hz), fun q g1 g2 => by rw [e1, hk q (Nat.lt_of_lt_of_le g1 h2.1) g2]; exact h2.2.1 q g1 g2, fun q hq => by
      rcases List.mem_append.mp hq with h | h
      · exact h2.2.2 q h
      · exact hL q h⟩ h3 h4 h5 T' rfl X'
  exact ⟨t2, st t2 a1, b1⟩
theorem v_callV (O : Ok X cc own ret Fr Lc) (hB : BB X A) (hM : C0 (xl X) (xw X) y cy maxL rt Fr' Lc' (.ref (bo X + pp a) :: As) n A D r D') (hm : MW y cy maxL rt np) (hi : Cond.instanceMethod y ∈ tb) (hse : Cond.selects y.cls y y ∈ tb) (hl : Cond.methodLink own ix y ∈ tb) (ha : A.1 a = ci) (hci : ci < 13) {q : vw_C} (hcl : vwCl[ci]? = some q) (hq : q.1 = y.cls)
    (hn : As.length = np) (hR1 : Fr' + 1 ≤ Fr) (hR2 : 8 + (maxL + 11) + Lc' ≤ Lc) (hW : (rest.map fun v => v.category).sum ≤ 8) (d : decode cc pc = .ok (.invokevirtual ix, 3)) (hst : st = As.reverse ++ .ref (bo X + pp a) :: rest) {st' : List Value} (hst' : r.toList ++ rest = st') (kk : V X Q n A D' (pc + 3) lv st') : V X Q n A D pc lv st := by
  subst hst
  subst hst'
  intro H locs cells slots ls h1 h2 h3 h4 h5
  have hP := pic_at h1 (a := a) (by rw [ha]; omega)
  rw [cE_obj ha hci] at hP
  have hts := O.2.2.2.2.1
  have hrun := va_runV (p := xp X) (l := xl X) (e := xe X) (R := xR X) (s := xs X) (m := xm X) (args := xa X) (below := xb X) (meth := xh X) (c := xc X) (H := H) (locs := locs) (cells := cells) (slots := slots) (g := F0 (xm X) pc ls (As.reverse ++ .ref (bo X + pp a) :: rest)) (As := As) (rest := rest) (b := bo X + pp a) (C := y.cls) (index := ix) (Ts := tb) ⟨O.1, O.2.1, O.2.2.1, O.2.2.2.1, hts⟩ hM
    ⟨callB_of np hts (tb_in hm.1) rfl rfl rfl (hts _ hm.2.1) (hts _ hl) hm.2.2 ⟨Nat.le_trans hR1 O.2.2.2.2.2.2.1, Nat.le_trans hR2 O.2.2.2.2.2.2.2.1⟩, hts _ hi, hts _ hse⟩
    ⟨pc_blind (P := Pic (xw X) n A D), by rw [← hq]; exact va_recv O.2.2.2.2.2.1.1 hP hcl (q0 := 0) rfl, fun U hU hWm => ⟨rfl, by rw [hU]; exact Nat.le_trans O.2.2.2.2.2.2.2.2.2.2 h2.1, by rw [hU]; exact h1, O.2.2.2.2.2.1.to hU hWm h2⟩⟩ rfl hn h5.1 rfl (lv_room hW) d (bb_fit hB h3 h4)
  exact v_goes hrun h2 h3 h4 h5 kk
theorem v_callS (O : Ok X cc own ret Fr Lc) (hB : BB X A) (hM : C0 (xl X) (xw X) y cy maxL rt Fr' Lc' As n A D r D') (hm : MW y cy maxL rt np) (hi : Cond.static y ∈ tb) (hl : Cond.methodLink own ix y ∈ tb)
    (hn : As.length = np) (hR1 : Fr' + 1 ≤ Fr) (hR2 : 8 + (maxL + 11) + Lc' ≤ Lc) (hW : (rest.map fun v => v.category).sum ≤ 8) (d : decode cc pc = .ok (.invokestatic ix, 3)) (hst : st = As.reverse ++ rest) {st' : List Value} (hst' : r.toList ++ rest = st') (kk : V X Q n A D' (pc + 3) lv st') : V X Q n A D pc lv st := by
  subst hst
  subst hst'
  intro H locs cells slots ls h1 h2 h3 h4 h5
  have hts := O.2.2.2.2.1
  have hrun := va_runS (p := xp X) (l := xl X) (e := xe X) (R := xR X) (s := xs X) (m := xm X) (args := xa X) (below := xb X) (meth := xh X) (c := xc X) (H := H) (locs := locs) (cells := cells) (slots := slots) (g := F0 (xm X) pc ls (As.reverse ++ rest)) (As := As) (rest := rest) (index := ix) (Ts := tb) ⟨O.1, O.2.1, O.2.2.1, O.2.2.2.1, hts⟩ hM
    ⟨callB_of np hts (tb_in hm.1) rfl rfl rfl (hts _ hm.2.1) (hts _ hl) hm.2.2 ⟨Nat.le_trans hR1 O.2.2.2.2.2.2.1, Nat.le_trans hR2 O.2.2.2.2.2.2.2.1⟩, hts _ hi⟩
    ⟨pc_blind (P := Pic (xw X) n A D), fun U hU hWm => ⟨rfl, by rw [hU]; exact Nat.le_trans O.2.2.2.2.2.2.2.2.2.2 h2.1, by rw [hU]; exact h1, O.2.2.2.2.2.1.to hU hWm h2⟩⟩ rfl hn h5.1 rfl (lv_room hW) d (bb_fit hB h3 h4)
  exact v_goes hrun h2 h3 h4 h5 kk
theorem v_callN (O : Ok X cc own ret Fr Lc) (hB : BB X A) (hM : C0 (xl X) (xw X) y cy maxL rt Fr' Lc' As n A D r D') (hm : MW y cy maxL rt np) (hi : Cond.static y ∈ tb) (hl : (own, ix, y) ∈ nestl)
    (hn : As.length = np) (hR1 : Fr' + 1 ≤ Fr) (hR2 : 8 + (maxL + 11) + Lc' ≤ Lc) (hW : (rest.map fun v => v.category).sum ≤ 8) (d : decode cc pc = .ok (.invokestatic ix, 3)) (hst : st = As.reverse ++ rest) {st' : List Value} (hst' : r.toList ++ rest = st') (kk : V X Q n A D' (pc + 3) lv st') : V X Q n A D pc lv st := by
  subst hst
  subst hst'
  intro H locs cells slots ls h1 h2 h3 h4 h5
  have hts := O.2.2.2.2.1
  have hold := O.2.2.2.2.2.1.2
  obtain ⟨o1, o2, o3, o4, o5, o6, o7, o8, o9, o10, o11, o12, o13, o14⟩ := hold
  have hnst := o10 (own, ix, y) hl
  have hrun := va_runSN (p := xp X) (l := xl X) (e := xe X) (R := xR X) (s := xs X) (m := xm X) (args := xa X) (below := xb X) (meth := xh X) (c := xc X) (H := H) (locs := locs) (cells := cells) (slots := slots) (g := F0 (xm X) pc ls (As.reverse ++ rest)) (As := As) (rest := rest) (index := ix) (Ts := tb) ⟨O.1, O.2.1, O.2.2.1, O.2.2.2.1, hts⟩ hM
    ⟨va_cnB np hts (tb_in hm.1) rfl rfl rfl hnst (hts _ hm.2.1) hm.2.2 ⟨Nat.le_trans hR1 O.2.2.2.2.2.2.1, Nat.le_trans hR2 O.2.2.2.2.2.2.2.1⟩, hts _ hi, trivial⟩
    ⟨pc_blind (P := Pic (xw X) n A D), fun U hU hWm => ⟨rfl, by rw [hU]; exact Nat.le_trans O.2.2.2.2.2.2.2.2.2.2 h2.1, by rw [hU]; exact h1, O.2.2.2.2.2.1.to hU hWm h2⟩⟩ rfl hn h5.1 rfl (lv_room hW) d (bb_fit hB h3 h4)
  exact v_goes hrun h2 h3 h4 h5 kk
/-- Math.max, Math.min -/
theorem v_max {x z : Int32} (O : Ok X cc own ret Fr Lc) (hB : BB X A) (hl : Cond.methodLink own ix Lib.Math.max.name ∈ tb) (hs : Cond.static Lib.Math.max.name ∈ tb) (hini : Cond.initialized "java/lang/Math" ∈ tb) (hc : Cond.code Lib.Math.max.name Lib.Math.max.code 2 (some .int) ∈ tb) (hR1 : 1 ≤ Fr) (hR2 : (rest.map fun v => v.category).sum + 13 ≤ Lc) (d : decode cc pc = .ok (.invokestatic ix, 3))
    (kk : V X Q n A D (pc + 3) lv (.int (if x < z then z else x) :: rest)) : V X Q n A D pc lv (.int z :: .int x :: rest) := fun H locs cells slots ls h1 h2 h3 h4 h5 =>
  va_mmax O.1 O.2.1 (O.2.2.1.trans h5.1.symm) O.2.2.2.1 (O.2.2.2.2.1 _ hl) (O.2.2.2.2.1 _ hs) (O.2.2.2.2.1 _ hini) (O.2.2.2.2.1 _ hc) (Nat.le_trans hR1 O.2.2.2.2.2.2.1) (Nat.le_trans hR2 O.2.2.2.2.2.2.2.1) (bb_fit hB h3 h4).1 (bb_fit hB h3 h4).2 d (kk H locs cells slots ls h1 h2 h3 h4 h5)
theorem v_min {x z : Int32} (O : Ok X cc own ret Fr Lc) (hB : BB X A) (hl : Cond.methodLink own ix Lib.Math.min.name ∈ tb) (hs : Cond.static Lib.Math.min.name ∈ tb) (hini : Cond.initialized "java/lang/Math" ∈ tb) (hc : Cond.code Lib.Math.min.name Lib.Math.min.code 2 (some .int) ∈ tb) (hR1 : 1 ≤ Fr) (hR2 : (rest.map fun v => v.category).sum + 13 ≤ Lc) (d : decode cc pc = .ok (.invokestatic ix, 3))
    (kk : V X Q n A D (pc + 3) lv (.int (if z < x then z else x) :: rest)) : V X Q n A D pc lv (.int z :: .int x :: rest) := fun H locs cells slots ls h1 h2 h3 h4 h5 =>
  va_mmin O.1 O.2.1 (O.2.2.1.trans h5.1.symm) O.2.2.2.1 (O.2.2.2.2.1 _ hl) (O.2.2.2.2.1 _ hs) (O.2.2.2.2.1 _ hini) (O.2.2.2.2.1 _ hc) (Nat.le_trans hR1 O.2.2.2.2.2.2.1) (Nat.le_trans hR2 O.2.2.2.2.2.2.2.1) (bb_fit hB h3 h4).1 (bb_fit hB h3 h4).2 d (kk H locs cells slots ls h1 h2 h3 h4 h5)
end RowsD
theorem inq {A : Al} {a N : Nat} {i : Int32} (h : A.2.1 a = N) (c : ¬ (i < 0 ∨ N ≤ i.toNatClampNeg)) : vp_in i (A.2.1 a) := by rw [h]; exact c
theorem or_none {α : Type} {c : Prop} {dc : Decidable c} {t : Option α} {r : α} (h : (@ite _ c dc none t) = some r) : ¬ c ∧ t = some r := by
  by_cases q : c
  · rw [if_pos q] at h; cases h
  · rw [if_neg q] at h; exact ⟨q, h⟩
theorem if_none {α : Type} {c : Prop} {dc : Decidable c} {t : Option α} {r : α} (h : (@ite _ c dc t none) = some r) : c ∧ t = some r := by
  by_cases q : c
  · rw [if_pos q] at h; exact ⟨q, h⟩
  · rw [if_neg q] at h; cases h
theorem bind_some {α β : Type} {o : Option α} {f : α → Option β} {r : β} (h : o.bind f = some r) : ∃ a, o = some a ∧ f a = some r := by
  cases o with
  | none => cases h
  | some a => exact ⟨a, rfl, h⟩
theorem ne_i {x c : Int32} (z : Int) (hz : c.toInt = z) (h : ¬ x = c) : x.toInt ≠ z := fun q => h (Int32.toInt_inj.mp (q.trans hz.symm))
theorem kd_lt {K : Nat → Nat} {a k : Nat} (h : a < NS) (hk : kst a = k) : kd K a = k := by rw [kd, if_pos h, hk]
