/-! more rows: shifts, constants, switches, the two old tables, arraycopy, references into a row of statements -/
def oel {α : Type} (o : Option Nat) (a : α) (f : Nat → α) : α := match o with
  | none => a
  | some q => f q
theorem onone {α : Type} {a : α} {f : Nat → α} {r : α} (h : oel none a f = r) : a = r := h
theorem osome {α : Type} {a : α} {q : Nat} {f : Nat → α} {r : α} (h : oel (some q) a f = r) : f q = r := h
/-- a reference that may stand in a row of statements -/
def okS (K : Nat → Nat) (r : Option Nat) : Bool := match r with
  | none => true
  | some a => kd K a == 7
theorem okst {K : Nat → Nat} {r : Option Nat} (h : okS K r = true) : ∀ v, r = some v → kd K v = 7 := by
  intro v e
  subst e
  simpa [okS] using h
theorem lk_out (l : List (Int × Int)) (dflt k : Int) (h : ∀ p ∈ l, p.1 ≠ k) : Op.lookupswitch.offset l dflt k = dflt := by
  induction l with
  | nil => rfl
  | cons p l ih =>
    obtain ⟨a, o⟩ := p
    rw [Op.lookupswitch.offset_cons, if_neg (h (a, o) List.mem_cons_self)]
    exact ih (fun q hq => h q (List.mem_cons_of_mem _ hq))
/-- a row of ints from one array into another -/
def sC (D : Dat) (a0 a sp dp n : Nat) : Dat := (fun b k => if b = a ∧ dp ≤ k ∧ k < dp + n then D.1 a0 (sp + (k - dp)) else D.1 b k, D.2.1, D.2.2)
theorem dI_C (D : Dat) (a0 a sp dp n b k : Nat) : dI (sC D a0 a sp dp n) b k = if b = a ∧ dp ≤ k ∧ k < dp + n then dI D a0 (sp + (k - dp)) else dI D b k := rfl
theorem cE_sC {w : Wx} {A : Al} (D : Dat) (a0 a sp dp n : Nat) : ∀ b, b ≠ a → cE w A (sC D a0 a sp dp n) b = cE w A D b := fun b h => cE_same (fun j => by rw [dI_C, if_neg (fun q => h q.1)]) (fun _ => rfl) (fun _ => rfl)
section RowsX
variable {X : Cx} {Q : State → Prop} {n : Nat} {A : Al} {D : Dat} {pc : Nat} {lv lv' : List (Nat × Value)} {st rest : List Value} {cc : ByteArray} {own : String} {ret : Option FieldType} {Fr Lc : Nat} {a ix : Nat}
theorem v_iushr {x y : Int32} (O : Ok X cc own ret Fr Lc) (d : decode cc pc = .ok (.iushr, 1)) (k : V X Q n A D (pc + 1) lv (.int (x.toUInt32 >>> (y.toUInt32 &&& Int32.toUInt32 31)).toInt32 :: rest)) : V X Q n A D pc lv (.int y :: .int x :: rest) := fun H locs cells slots ls h1 h2 h3 h4 h5 => lv_iushr O.1 O.2.1 d rfl (k H locs cells slots ls h1 h2 h3 h4 h5)
theorem v_lushr {x : Int64} {y : Int32} (O : Ok X cc own ret Fr Lc) (d : decode cc pc = .ok (.lushr, 1)) (k : V X Q n A D (pc + 1) lv (.long (x.toUInt64 >>> (y.toInt64.toUInt64 &&& Int64.toUInt64 63)).toInt64 :: rest)) : V X Q n A D pc lv (.int y :: .long x :: rest) := fun H locs cells slots ls h1 h2 h3 h4 h5 => lv_lushr O.1 O.2.1 d rfl (k H locs cells slots ls h1 h2 h3 h4 h5)
theorem v_ldcw {v : Int32} (O : Ok X cc own ret Fr Lc) (d : decode cc pc = .ok (.ldc_w ix, 3)) (hc : Jvm.Cond.constant own ix v ∈ tb) (k : V X Q n A D (pc + 3) lv (.int v :: rest)) : V X Q n A D pc lv rest := fun H locs cells slots ls h1 h2 h3 h4 h5 => lv_ldcw O.1 O.2.1 O.2.2.2.1 (O.2.2.2.2.1 _ hc) d (k H locs cells slots ls h1 h2 h3 h4 h5)
theorem v_table {dflt lo hi : Int} {offs : Array Int} {len : Nat} {x : Int32} (tgt : Nat) (O : Ok X cc own ret Fr Lc) (d : decode cc pc = .ok (.tableswitch dflt lo hi offs, len)) (h : ¬ x.toInt < lo → ¬ hi < x.toInt → ∃ off, offs[(x.toInt - lo).toNat]? = some off ∧ (pc : Int) + off = (tgt : Int)) (ht : (pc : Int) + dflt = (tgt : Int)) (k : V X Q n A D tgt lv rest) : V X Q n A D pc lv (.int x :: rest) := by
  by_cases g1 : x.toInt < lo
  · exact v_tableOut tgt O d (Or.inl g1) ht k
  · by_cases g2 : hi < x.toInt
    · exact v_tableOut tgt O d (Or.inr g2) ht k
    · obtain ⟨off, e1, e2⟩ := h g1 g2
      exact v_tableIn tgt O d g1 g2 e1 e2 k
theorem v_getTaken (O : Ok X cc own ret Fr Lc) (hl : Cond.fieldLink own ix "FlowChain$Code" "TAKEN" "[I" ∈ tb) (d : decode cc pc = .ok (.getstatic ix, 3)) (k : V X Q n A D (pc + 3) lv (.ref (woK (xw X) 100) :: rest)) : V X Q n A D pc lv rest := fun H locs cells slots ls h1 h2 h3 h4 h5 =>
  va_gets O.1 O.2.1 O.2.2.2.2.2.1.2.2.2.1 h2 O.2.2.2.1 (O.2.2.2.2.1 _ hl) (fun _ q => q) d (k H locs cells slots ls h1 h2 h3 h4 h5)
theorem v_getPut (O : Ok X cc own ret Fr Lc) (hl : Cond.fieldLink own ix "FlowChain$Code" "PUT" "[I" ∈ tb) (d : decode cc pc = .ok (.getstatic ix, 3)) (k : V X Q n A D (pc + 3) lv (.ref (woK (xw X) 101) :: rest)) : V X Q n A D pc lv rest := fun H locs cells slots ls h1 h2 h3 h4 h5 =>
  va_gets O.1 O.2.1 O.2.2.2.2.2.1.2.2.2.2.2.1 h2 O.2.2.2.1 (O.2.2.2.2.1 _ hl) (fun _ q => q) d (k H locs cells slots ls h1 h2 h3 h4 h5)
theorem v_lenTaken (O : Ok X cc own ret Fr Lc) (d : decode cc pc = .ok (.arraylength, 1)) (k : V X Q n A D (pc + 1) lv (.int 16 :: rest)) : V X Q n A D pc lv (.ref (woK (xw X) 100) :: rest) := fun H locs cells slots ls h1 h2 h3 h4 h5 =>
  va_tlen O.1 O.2.1 O.2.2.2.2.2.1.2.2.2.2.1 h2 rfl d (k H locs cells slots ls h1 h2 h3 h4 h5)
theorem v_lenPut (O : Ok X cc own ret Fr Lc) (d : decode cc pc = .ok (.arraylength, 1)) (k : V X Q n A D (pc + 1) lv (.int 16 :: rest)) : V X Q n A D pc lv (.ref (woK (xw X) 101) :: rest) := fun H locs cells slots ls h1 h2 h3 h4 h5 =>
  va_tlen O.1 O.2.1 O.2.2.2.2.2.1.2.2.2.2.2.2.1 h2 rfl d (k H locs cells slots ls h1 h2 h3 h4 h5)
theorem v_ldTaken {i : Int32} (O : Ok X cc own ret Fr Lc) (c : ¬ (i < 0 ∨ 16 ≤ i.toNatClampNeg)) (d : decode cc pc = .ok (.iaload, 1)) (k : V X Q n A D (pc + 1) lv (.int (takenl.getD i.toNatClampNeg 0) :: rest)) : V X Q n A D pc lv (.int i :: .ref (woK (xw X) 100) :: rest) := fun H locs cells slots ls h1 h2 h3 h4 h5 =>
  va_ti O.1 O.2.1 O.2.2.2.2.2.1.2.2.2.2.1 h2 c rfl d (k H locs cells slots ls h1 h2 h3 h4 h5)
theorem v_ldPut {i : Int32} (O : Ok X cc own ret Fr Lc) (c : ¬ (i < 0 ∨ 16 ≤ i.toNatClampNeg)) (d : decode cc pc = .ok (.iaload, 1)) (k : V X Q n A D (pc + 1) lv (.int (putl.getD i.toNatClampNeg 0) :: rest)) : V X Q n A D pc lv (.int i :: .ref (woK (xw X) 101) :: rest) := fun H locs cells slots ls h1 h2 h3 h4 h5 =>
  va_ti O.1 O.2.1 O.2.2.2.2.2.1.2.2.2.2.2.2.1 h2 c rfl d (k H locs cells slots ls h1 h2 h3 h4 h5)
theorem v_aast {i : Int32} {r : Option Nat} (O : Ok X cc own ret Fr Lc) (ha : A.1 a = 17) (hin : vp_in i (A.2.1 a)) (hv : ∀ v, r = some v → A.1 v = 7) (d : decode cc pc = .ok (.aastore, 1)) (kk : V X Q n A (sR D a i.toNatClampNeg r) (pc + 1) lv rest) : V X Q n A D pc lv (rv (bo X) r :: .int i :: .ref (bo X + pp a) :: rest) := by
  intro H locs cells slots ls h1 h2 h3 h4 h5
  have h19 : A.1 a < 19 := by rw [ha]; decide
  have hP := pic_at h1 (a := a) h19
  rw [cE_sts ha] at hP
  have hlt : i.toNatClampNeg < A.2.1 a := Nat.not_le.mp fun q => hin (Or.inr q)
  have h0 : ¬ i < 0 := fun q => hin (Or.inl q)
  have hK := O.2.2.2.2.2.1.1
  have fin : ∀ (H1 : Heap), H1[wb (xw X) + pp a]? = some ((vp_cell (wy (xw X) 17) (A.2.1 a, .inr (.inr (.inr (.inr (fun k => (dR D a k).map (fun q => wb (xw X) + pp q))))))).setSlot i.toNatClampNeg (rv (bo X) r)) → va_at (wG (xw X)) vwCl (wb (xw X) + pp a, cE (xw X) A (sR D a i.toNatClampNeg r) a) H1 := by
    intro H1 e
    rw [cE_sts ha]
    show H1[_]? = some (vp_cell _ _)
    rw [e, vp_cell_q, vp_cell_q, arrV_store]
    congr 2
    funext q
    by_cases hq : q = i.toNatClampNeg
    · subst hq
      simp [updV, dR_s, rv]
    · simp [updV, dR_s, hq]
  cases r with
  | none =>
    refine va_WaastN (C := "FlowChain$Statement") O.1 O.2.1 (hP 0 _ rfl) ((hK.2 4 _ rfl).1 _ (fun j => va_rf ((dR D a j).map (fun q => wb (xw X) + pp q)))) (fun h => by cases h) (by show ¬ (i < 0 ∨ (arrV _ _ _).slots.size ≤ _); rw [arrV_size]; exact hin) rfl rfl d fun H1 e z oq => ?_
    exact kk H1 _ cells slots ls (pic_store h1 h19 (cE_sR D a _ none) z (fin H1 e) oq) (h2.put z oq (Nat.le_add_right _ _)) h3 h4 h5
  | some v =>
    have hv7 := hv v rfl
    have hPv := pic_at h1 (a := v) (by rw [hv7]; decide)
    rw [cE_obj hv7 (by decide)] at hPv
    obtain ⟨r', hr', cellV, g1, g2, g3, -⟩ := hPv 0 _ rfl
    have hcls := (hK.1 7 _ rfl).2
    obtain ⟨kA, comp, k1, k2, k3, -⟩ := (hK.2 4 _ rfl).2
    have hcomp : comp = (wG (xw X)).1 7 := Option.some.inj (k3.symm.trans hcls.1)
    subst hcomp
    obtain ⟨kC, hkC, -⟩ := hcls.2
    refine W.aast O.1 O.2.1 (hP 0 _ rfl) (fun q h => by cases h) (fun h => by cases h) k1 k2 rfl hkC ⟨h0, by show _ < (arrV _ _ _).slots.size; rw [arrV_size]; exact hlt⟩ g1 (fun q h => by rw [g3] at h; cases h) (by rw [g2]; exact hkC) (by rw [g2]; exact va_assign hcls) rfl rfl d fun H1 e z oq => ?_
    exact kk H1 _ cells slots ls (pic_store h1 h19 (cE_sR D a _ (some v)) z (fin H1 e) oq) (h2.put z oq (Nat.le_add_right _ _)) h3 h4 h5
theorem v_copy {a0 : Nat} {sp dp z : Int32} (O : Ok X cc own ret Fr Lc) (hl : Cond.methodLink own ix arraycopyName ∈ tb) (hnat : Cond.native arraycopyName ∈ tb) (hstat : Cond.static arraycopyName ∈ tb) (hini : Cond.initialized "java/lang/System" ∈ tb)
    (ha0 : A.1 a0 = 14) (ha : A.1 a = 14) (h1 : ¬ sp < 0) (h2 : ¬ dp < 0) (h3 : ¬ z < 0) (h4 : sp.toNatClampNeg + z.toNatClampNeg ≤ A.2.1 a0) (h5 : dp.toNatClampNeg + z.toNatClampNeg ≤ A.2.1 a)
    (hframes : 1 ≤ Fr) (hlocals : (rest.map fun v => v.category).sum + 18 ≤ Lc) (d : decode cc pc = .ok (.invokestatic ix, 3))
    (kk : V X Q n A (sC D a0 a sp.toNatClampNeg dp.toNatClampNeg z.toNatClampNeg) (pc + 3) lv rest) : V X Q n A D pc lv (.int z :: .int dp :: .ref (bo X + pp a) :: .int sp :: .ref (bo X + pp a0) :: rest) := by
  intro H locs cells slots ls g1 g2 g3 g4 g5
  have nn : ∀ z : Int32, ¬ z < 0 → z.toInt = (z.toNatClampNeg : Int) := by
    intro z hz
    have hz0 : (0 : Int) ≤ z.toInt := by
      have := Int32.not_lt.mp hz
      simpa using Int32.le_iff_toInt_le.mp this
    show z.toInt = ((z.toInt.toNat : Nat) : Int)
    omega
  have h19 : A.1 a < 19 := by rw [ha]; decide
  have hP0 := pic_at g1 (a := a0) (by rw [ha0]; decide)
  have hP1 := pic_at g1 (a := a) h19
  rw [cE_int ha0] at hP0
  rw [cE_int ha] at hP1
  have hK := O.2.2.2.2.2.1.1
  have hts := O.2.2.2.2.1
  intro T hT X0
  have hc0 : H[bo X + pp a0]? = some (vp_cell (wy (xw X) 14) (A.2.1 a0, .inl (fun k => dI D a0 k))) := hP0 0 _ rfl
  have hc1 : H[bo X + pp a]? = some (vp_cell (wy (xw X) 14) (A.2.1 a, .inl (fun k => dI D a k))) := hP1 0 _ rfl
  obtain ⟨-, k0, hk0, cm0, hkk0⟩ := (hK.2 1 _ rfl).1 (A.2.1 a0) (fun j => .int (dI D a0 j))
  obtain ⟨-, k1, hk1, cm1, hkk1⟩ := (hK.2 1 _ rfl).1 (A.2.1 a) (fun j => .int (dI D a j))
  obtain ⟨vm', X', step⟩ := X0.arraycopy O.1 O.2.2.2.1 (hts _ hl) (hts _ hnat) (hts _ hstat) (hts _ hini) (src := bo X + pp a0) (dst := bo X + pp a) (cs := vp_cell (wy (xw X) 14) (A.2.1 a0, .inl (fun k => dI D a0 k))) (cd := vp_cell (wy (xw X) 14) (A.2.1 a, .inl (fun k => dI D a k))) (srcPos := sp) (destPos := dp) (n := z) (by rw [hT]; exact hc0) (by rw [hT]; exact hc1)
    (fun _ h => by cases h) (fun _ h => by cases h) (fun h => by cases h) (fun h => by cases h) hk0 hk1 hkk0 hkk1 (by simp [refKind]) h1 h2 h3
    (by rw [nn sp h1, nn z h3]; show ¬ _ > ((arrV (wy (xw X) 14) (A.2.1 a0) (fun j => .int (dI D a0 j))).slots.size : Int); rw [arrV_size]; omega)
    (by rw [nn dp h2, nn z h3]; show ¬ _ > ((arrV (wy (xw X) 14) (A.2.1 a) (fun j => .int (dI D a j))).slots.size : Int); rw [arrV_size]; omega)
    (fun vm₁ _ i hi => by
      have e : (vp_cell (wy (xw X) 14) (A.2.1 a0, .inl (fun k => dI D a0 k))).slots.getD (sp.toNatClampNeg + i) .null = .int (dI D a0 (sp.toNatClampNeg + i)) := by
        show (arrV (wy (xw X) 14) (A.2.1 a0) (fun j => .int (dI D a0 j))).slots.getD _ _ = _
        rw [Array.getD_eq_getD_getElem?, arrV_read _ _ (by omega)]
        rfl
      refine ⟨?_, ?_⟩
      · rw [e]
        rfl
      · rw [e]
        exact trivial)
    (g := F0 (xm X) pc ls (.int z :: .int dp :: .ref (bo X + pp a) :: .int sp :: .ref (bo X + pp a0) :: rest)) rfl (by rw [O.2.2.1]; exact g5.1) (rest := rest) rfl (by rw [O.2.1]; exact d) (Nat.le_trans hframes O.2.2.2.2.2.2.1) (by have e8 := O.2.2.2.2.2.2.2.1; have e9 : nativeFrameWords "java/lang/System" "arraycopy" 5 + 11 = 18 := (by decide); show 2 * 0 + _ + (nativeFrameWords "java/lang/System" "arraycopy" 5 + 11) ≤ _; rw [e9]; omega)
  have e1 : copied (vp_cell (wy (xw X) 14) (A.2.1 a0, .inl (fun k => dI D a0 k))) (vp_cell (wy (xw X) 14) (A.2.1 a, .inl (fun k => dI D a k))) sp dp z = vp_cell (wy (xw X) 14) (A.2.1 a, .inl (va_cpy (fun k => dI D a0 k) (fun k => dI D a k) sp.toNatClampNeg dp.toNatClampNeg z.toNatClampNeg)) := va_copied (fun z => .int z) _ _ (fun k => dI D a0 k) (fun k => dI D a k) h4
  rw [e1] at X' step
  have hl9 : bo X + pp a < H.size := (Array.getElem?_eq_some_iff.mp hc1).1
  generalize hC9 : vp_cell (wy (xw X) 14) (A.2.1 a, .inl (va_cpy (fun k => dI D a0 k) (fun k => dI D a k) sp.toNatClampNeg dp.toNatClampNeg z.toNatClampNeg)) = C9 at X' step
  have hheap : ((T.setVm vm').setCell (bo X + pp a) C9).heap = H.setIfInBounds (bo X + pp a) C9 := by rw [← hT]; rfl
  have oq : ∀ q : Nat, q ≠ bo X + pp a → (H.setIfInBounds (bo X + pp a) C9)[q]? = H[q]? := fun q hq => by simp [Array.getElem?_setIfInBounds, Ne.symm hq]
  obtain ⟨t, a1, b1⟩ := kk _ _ cells slots ls (pic_store g1 h19 (cE_sC D a0 a _ _ _) (by simp) (by
      rw [cE_int ha]
      show (H.setIfInBounds (bo X + pp a) C9)[bo X + pp a]? = some (vp_cell _ _)
      rw [← hC9]
      have : (fun k => dI (sC D a0 a sp.toNatClampNeg dp.toNatClampNeg z.toNatClampNeg) a k) = va_cpy (fun k => dI D a0 k) (fun k => dI D a k) sp.toNatClampNeg dp.toNatClampNeg z.toNatClampNeg := by
        funext k
        simp [dI_C, va_cpy]
      rw [this]
      simp [Array.getElem?_setIfInBounds, hl9]) oq) ⟨by simp; exact g2.1, fun q e1 e2 => by
      rw [oq q (fun e => e2 (by rw [e]; exact Nat.le_add_right _ _))]
      exact g2.2.1 q e1 e2, fun q hq => by
      rcases List.mem_append.mp hq with h | h
      · exact g2.2.2 q h
      · obtain ⟨z9, -, hz⟩ := List.mem_map.mp h
        rw [← hz]
        exact Nat.le_add_right _ _⟩ g3 g4 g5 _ hheap X'
  exact ⟨t, step t a1, b1⟩
end RowsX
theorem cat_i (x : Int32) : (Value.int x).category = 1 := rfl
theorem cat_l (x : Int64) : (Value.long x).category = 2 := rfl
theorem cat_r (x : Nat) : (Value.ref x).category = 1 := rfl
theorem cat_n : Value.null.category = 1 := rfl
