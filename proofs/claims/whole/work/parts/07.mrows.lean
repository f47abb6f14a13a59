/-! rows that read and write the memory -/
def FI (ci : Nat) (C : String) (T : u_T) (N : Nat) (ty : Nat → FieldType) (k t : Nat) : Prop := vwCl[ci]? = some (C, T, N) ∧ (∀ w ∈ u_ws C T N, w ∈ tb) ∧ (∀ k, k < N → parseFieldDescriptor (T k).2.2.1 = some (ty k)) ∧ (∀ a, a < N → ∀ b, b < N → a ≠ b → (T a).2.1 ≠ (T b).2.1) ∧ ci < 13 ∧ k < N ∧ fN ci = N ∧ fty ci k = t ∧ (T k).1 = C
def PI (ci : Nat) (C : String) (T : u_T) (N : Nat) (ty : Nat → FieldType) (k t : Nat) (τ : FieldType) : Prop := FI ci C T N ty k t ∧ (T k).2.2.2 = false ∧ ty k = τ
theorem dI_s (D : Dat) (a k : Nat) (v : Int32) (b j : Nat) : dI (sI D a k v) b j = if b = a ∧ j = k then v else dI D b j := rfl
theorem dL_s (D : Dat) (a k : Nat) (v : Int64) (b j : Nat) : dL (sL D a k v) b j = if b = a ∧ j = k then v else dL D b j := rfl
theorem dR_s (D : Dat) (a k : Nat) (v : Option Nat) (b j : Nat) : dR (sR D a k v) b j = if b = a ∧ j = k then v else dR D b j := rfl
theorem dI_sL (D : Dat) (a k : Nat) (v : Int64) (b j : Nat) : dI (sL D a k v) b j = dI D b j := rfl
theorem dI_sR (D : Dat) (a k : Nat) (v : Option Nat) (b j : Nat) : dI (sR D a k v) b j = dI D b j := rfl
theorem dL_sI (D : Dat) (a k : Nat) (v : Int32) (b j : Nat) : dL (sI D a k v) b j = dL D b j := rfl
theorem dL_sR (D : Dat) (a k : Nat) (v : Option Nat) (b j : Nat) : dL (sR D a k v) b j = dL D b j := rfl
theorem dR_sI (D : Dat) (a k : Nat) (v : Int32) (b j : Nat) : dR (sI D a k v) b j = dR D b j := rfl
theorem dR_sL (D : Dat) (a k : Nat) (v : Int64) (b j : Nat) : dR (sL D a k v) b j = dR D b j := rfl
theorem cE_sI {w : Wx} {A : Al} (D : Dat) (a k : Nat) (v : Int32) : ∀ b, b ≠ a → cE w A (sI D a k v) b = cE w A D b := fun b h => cE_same (fun j => by rw [dI_s, if_neg (fun q => h q.1)]) (fun _ => rfl) (fun _ => rfl)
theorem cE_sL {w : Wx} {A : Al} (D : Dat) (a k : Nat) (v : Int64) : ∀ b, b ≠ a → cE w A (sL D a k v) b = cE w A D b := fun b h => cE_same (fun _ => rfl) (fun j => by rw [dL_s, if_neg (fun q => h q.1)]) (fun _ => rfl)
theorem cE_sR {w : Wx} {A : Al} (D : Dat) (a k : Nat) (v : Option Nat) : ∀ b, b ≠ a → cE w A (sR D a k v) b = cE w A D b := fun b h => cE_same (fun _ => rfl) (fun _ => rfl) (fun j => by rw [dR_s, if_neg (fun q => h q.1)])
theorem flds_upd {w : Wx} {D D' : Dat} {a ci k N : Nat} {v : Value} (hN : fN ci = N) (hv : fv w D' a (fty ci k) k = v) (ho : ∀ j, j ≠ k → fv w D' a (fty ci j) j = fv w D a (fty ci j) j) : ∀ j, j < N → updV (vp_V (flds w D a ci)) k v j = vp_V (flds w D' a ci) j := by
  intro j hj
  have hj' : j < fN ci := by omega
  have e2 : vp_V (flds w D' a ci) j = fv w D' a (fty ci j) j := by
    show (flds w D' a ci).getD j .null = _
    rw [List.getD_eq_getElem?_getD, flds_get w D' a ci j hj']; rfl
  rw [e2]
  by_cases e : j = k
  · subst e
    simp [updV, hv]
  · have e1 : vp_V (flds w D a ci) j = fv w D a (fty ci j) j := by
      show (flds w D a ci).getD j .null = _
      rw [List.getD_eq_getElem?_getD, flds_get w D a ci j hj']; rfl
    simp [updV, e, e1, ho j e]
theorem bool_01 (v : Int32) : v &&& 1 = 0 ∨ v &&& 1 = 1 := by
  rw [pk_and v (m := 1) 1 (by decide)]
  rcases Nat.mod_two_eq_zero_or_one v.toBitVec.toNat with h | h
  · left; rw [show (2 : Nat) ^ 1 = 2 from rfl, h]; rfl
  · right; rw [show (2 : Nat) ^ 1 = 2 from rfl, h]; rfl
theorem bool_fit (v : Int32) : fits .boolean (narrow .boolean (.int v)) = true := by
  show fits .boolean (.int (v &&& 1)) = true
  rcases bool_01 v with h | h <;> rw [h] <;> rfl
theorem ref_nar {τ : FieldType} (h : refKind τ = true) {b : Nat} (r : Option Nat) : narrow τ (rv b r) = rv b r := by
  cases τ <;> first | (exact absurd h (by decide)) | (cases r <;> rfl)
theorem ref_fit {τ : FieldType} (h : refKind τ = true) {b : Nat} (r : Option Nat) : fits τ (rv b r) = true := by
  cases τ <;> first | (exact absurd h (by decide)) | (cases r <;> rfl)
section RowsB
variable {X : Cx} {Q : State → Prop} {n : Nat} {A : Al} {D : Dat} {pc : Nat} {lv lv' : List (Nat × Value)} {st rest : List Value} {cc : ByteArray} {own : String} {ret : Option FieldType} {Fr Lc : Nat}
variable {ci ix k N a : Nat} {C : String} {T : u_T} {ty : Nat → FieldType} {t : Nat} {τ : FieldType}
theorem v_get (O : Ok X cc own ret Fr Lc) (F : FI ci C T N ty k t) (hl : Cond.fieldLink own ix C (T k).2.1 (T k).2.2.1 ∈ tb) (ha : A.1 a = ci) (d : decode cc pc = .ok (.getfield ix, 3)) {v : Value} (hv : fv (xw X) D a t k = v)
    (kk : V X Q n A D (pc + 3) lv (v :: rest)) : V X Q n A D pc lv (.ref (bo X + pp a) :: rest) := by
  intro H locs cells slots ls h1 h2 h3 h4 h5
  obtain ⟨F1, F2, F3, F4, F5, F6, F7, F8, F9⟩ := F
  have hP := pic_at h1 (a := a) (by rw [ha]; omega)
  rw [cE_obj ha F5] at hP
  refine va_get (D := wG (xw X)) (v := v) O.1 O.2.1 O.2.2.2.2.1 F2 O.2.2.2.1 O.2.2.2.2.2.1.1 hP 0 rfl F1 k F6 (O.2.2.2.2.1 _ hl) (fun x h => by rw [← F9]; exact h) ?_ d (kk H locs cells slots ls h1 h2 h3 h4 h5)
  rw [flds_get _ _ _ _ _ (by omega), F8, hv]
theorem v_getI (O : Ok X cc own ret Fr Lc) (F : FI ci C T N ty k 0) (hl : Cond.fieldLink own ix C (T k).2.1 (T k).2.2.1 ∈ tb) (ha : A.1 a = ci) (d : decode cc pc = .ok (.getfield ix, 3))
    (kk : V X Q n A D (pc + 3) lv (.int (dI D a k) :: rest)) : V X Q n A D pc lv (.ref (bo X + pp a) :: rest) := v_get O F hl ha d rfl kk
theorem v_getL (O : Ok X cc own ret Fr Lc) (F : FI ci C T N ty k 1) (hl : Cond.fieldLink own ix C (T k).2.1 (T k).2.2.1 ∈ tb) (ha : A.1 a = ci) (d : decode cc pc = .ok (.getfield ix, 3))
    (kk : V X Q n A D (pc + 3) lv (.long (dL D a k) :: rest)) : V X Q n A D pc lv (.ref (bo X + pp a) :: rest) := v_get O F hl ha d rfl kk
theorem v_getR (O : Ok X cc own ret Fr Lc) (F : FI ci C T N ty k 2) (hl : Cond.fieldLink own ix C (T k).2.1 (T k).2.2.1 ∈ tb) (ha : A.1 a = ci) (d : decode cc pc = .ok (.getfield ix, 3))
    (kk : V X Q n A D (pc + 3) lv (rv (bo X) (dR D a k) :: rest)) : V X Q n A D pc lv (.ref (bo X + pp a) :: rest) := v_get O F hl ha d rfl kk
theorem v_getK {q : Nat} (O : Ok X cc own ret Fr Lc) (hm : wlm (xw X) = true) (F : FI ci C T N ty k 3) (hl : Cond.fieldLink own ix C (T k).2.1 (T k).2.2.1 ∈ tb) (ha : A.1 a = ci) (hq : lks a k = some q) (d : decode cc pc = .ok (.getfield ix, 3))
    (kk : V X Q n A D (pc + 3) lv (.ref (bo X + pp q) :: rest)) : V X Q n A D pc lv (.ref (bo X + pp a) :: rest) := v_get O F hl ha d (by simp [fv, hm, hq, rv_some]) kk
theorem v_put {D' : Dat} {v : Value} (O : Ok X cc own ret Fr Lc) (P : PI ci C T N ty k t τ) (hl : Cond.fieldLink own ix C (T k).2.1 (T k).2.2.1 ∈ tb) (ha : A.1 a = ci) (d : decode cc pc = .ok (.putfield ix, 3)) (hn : narrow τ v = v) (hf : fits τ v = true)
    (hv : fv (xw X) D' a t k = v) (ho : ∀ j, j ≠ k → fv (xw X) D' a (fty ci j) j = fv (xw X) D a (fty ci j) j) (h0 : ∀ b, b ≠ a → cE (xw X) A D' b = cE (xw X) A D b)
    (kk : V X Q n A D' (pc + 3) lv rest) : V X Q n A D pc lv (v :: .ref (bo X + pp a) :: rest) := by
  intro H locs cells slots ls h1 h2 h3 h4 h5
  obtain ⟨⟨F1, F2, F3, F4, F5, F6, F7, F8, F9⟩, P1, P2⟩ := P
  have ha19 : A.1 a < 19 := by rw [ha]; omega
  have hP := pic_at h1 (a := a) ha19
  rw [cE_obj ha F5] at hP
  have hts := O.2.2.2.2.1
  have hK := O.2.2.2.2.2.1.1
  have hap := va_apart (own := own) hts F2 ty F3 F4 hK F1
  obtain ⟨r, g1, cell, q1, q2, q3, q4⟩ := hP 0 _ rfl
  have hr : r = (C, T, N) := Option.some.inj (g1.symm.trans F1)
  subst hr
  obtain ⟨hS, hfc, kC, hkC, hkind⟩ := hK.1 ci _ F1
  obtain ⟨cf, kf, fi, f, hi, hsl⟩ := hS k F6
  have hlay := hts _ (F2 _ (u_in_lay F6))
  unfold u_lay at hlay
  rw [if_neg (by rw [P1]; decide)] at hlay
  have hst := (u_facts hfc hkC (u_lays hts F2 F6) hi).1
  have h6 := u_store hfc hkC hkind hlay hi ((F3 k F6).trans (congrArg some P2)) hn hf
  refine W.putK O.1 O.2.1 (f := f) ⟨O.2.2.2.1, hts _ hl, ⟨_, _, _, by rw [F9] at hi; exact hi⟩, hst⟩ (by rw [q2]; exact h6) q1 q3 (by rw [hsl]; exact k2_hasslot (q4 k F6)) rfl rfl d fun H' e1 e2 e3 => ?_
  rw [hsl] at e1 ⊢
  refine kk H' _ cells slots ls (pic_store h1 ha19 h0 e2 ?_ e3) (h2.put e2 e3 (Nat.le_add_right _ _)) h3 h4 h5
  rw [cE_obj ha F5]
  exact ⟨_, F1, t_OB.to (V := updV (vp_V (flds (xw X) D a ci)) k v) ⟨_, e1, q2, q3, t_set q4 hap F6 v⟩ (flds_upd F7 (by rw [F8]; exact hv) ho)⟩
theorem fv_sI {w : Wx} (D : Dat) (a k : Nat) (v : Int32) (t j : Nat) (h : j ≠ k) : fv w (sI D a k v) a t j = fv w D a t j := by simp [fv, dI_s, dL_sI, dR_sI, h]
theorem fv_sL {w : Wx} (D : Dat) (a k : Nat) (v : Int64) (t j : Nat) (h : j ≠ k) : fv w (sL D a k v) a t j = fv w D a t j := by simp [fv, dL_s, dI_sL, dR_sL, h]
theorem fv_sR {w : Wx} (D : Dat) (a k : Nat) (v : Option Nat) (t j : Nat) (h : j ≠ k) : fv w (sR D a k v) a t j = fv w D a t j := by simp [fv, dR_s, dI_sR, dL_sR, h]
theorem v_putI {v : Int32} (O : Ok X cc own ret Fr Lc) (P : PI ci C T N ty k 0 .int) (hl : Cond.fieldLink own ix C (T k).2.1 (T k).2.2.1 ∈ tb) (ha : A.1 a = ci) (d : decode cc pc = .ok (.putfield ix, 3))
    (kk : V X Q n A (sI D a k v) (pc + 3) lv rest) : V X Q n A D pc lv (.int v :: .ref (bo X + pp a) :: rest) :=
  v_put O P hl ha d rfl rfl (by simp [fv, dI_s]) (fun j h => fv_sI D a k v _ j h) (cE_sI D a k v) kk
theorem v_putZ {v : Int32} (O : Ok X cc own ret Fr Lc) (P : PI ci C T N ty k 0 .boolean) (hl : Cond.fieldLink own ix C (T k).2.1 (T k).2.2.1 ∈ tb) (ha : A.1 a = ci) (hn : narrow .boolean (.int v) = .int v) (d : decode cc pc = .ok (.putfield ix, 3))
    (kk : V X Q n A (sI D a k v) (pc + 3) lv rest) : V X Q n A D pc lv (.int v :: .ref (bo X + pp a) :: rest) :=
  v_put O P hl ha d hn (by rw [← hn]; exact bool_fit v) (by simp [fv, dI_s]) (fun j h => fv_sI D a k v _ j h) (cE_sI D a k v) kk
theorem v_putL {v : Int64} (O : Ok X cc own ret Fr Lc) (P : PI ci C T N ty k 1 .long) (hl : Cond.fieldLink own ix C (T k).2.1 (T k).2.2.1 ∈ tb) (ha : A.1 a = ci) (d : decode cc pc = .ok (.putfield ix, 3))
    (kk : V X Q n A (sL D a k v) (pc + 3) lv rest) : V X Q n A D pc lv (.long v :: .ref (bo X + pp a) :: rest) :=
  v_put O P hl ha d rfl rfl (by simp [fv, dL_s]) (fun j h => fv_sL D a k v _ j h) (cE_sL D a k v) kk
theorem v_putR {r : Option Nat} (O : Ok X cc own ret Fr Lc) (P : PI ci C T N ty k 2 τ) (hτ : refKind τ = true) (hl : Cond.fieldLink own ix C (T k).2.1 (T k).2.2.1 ∈ tb) (ha : A.1 a = ci) (d : decode cc pc = .ok (.putfield ix, 3))
    (kk : V X Q n A (sR D a k r) (pc + 3) lv rest) : V X Q n A D pc lv (rv (bo X) r :: .ref (bo X + pp a) :: rest) :=
  v_put O P hl ha d (ref_nar hτ r) (ref_fit hτ r) (by simp [fv, dR_s]) (fun j h => fv_sR D a k r _ j h) (cE_sR D a k r) kk
end RowsB
