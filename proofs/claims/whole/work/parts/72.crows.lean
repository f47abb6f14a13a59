/-! constructors: the first n cells are there (those with pp a < n), the next is made at n -/
def kn (n a : Nat) : Nat := if pp a < n then kst a else 99
abbrev An (nu n c u : Nat) : Al := (kn n, nl nu, c, u)
theorem kn_up {n a k : Nat} (hp : pp a = n) (h : kst a = k) : va_up (kn n) a k = kn (n + 1) := by
  funext b
  by_cases hb : b = a
  · subst hb
    rw [va_up_self, kn, if_pos (by omega), h]
  · rw [va_up_ne _ _ hb]
    have hb' : pp b ≠ n := fun e => hb (pp_inj (e.trans hp.symm))
    unfold kn
    by_cases h1 : pp b < n
    · rw [if_pos h1, if_pos (by omega)]
    · rw [if_neg h1, if_neg (by omega)]
theorem kn_lt {n a k : Nat} (h : pp a < n) (hk : kst a = k) : kn n a = k := by rw [kn, if_pos h, hk]
theorem kn_big {n a : Nat} (h : kn n a < 19) : pp a < n := by
  unfold kn at h
  by_cases q : pp a < n
  · exact q
  · rw [if_neg q] at h
    exact absurd h (by decide)
/-- what 'new' of array classes goes by -/
def AO (U : State) : Prop := va_AO "FlowChain$Statement" U ∧ (Cond.arrayOver (.array .int)).before #[] U = true
theorem AO.moved {u U : State} (h : u.vm.Alike U.vm) (q : AO u) : AO U := ⟨q.1.moved h, over_moved h q.2⟩
def Q5 (w : Wx) (nu n' : Nat) (D' : Dat) : Array Value → State → Outcome → State → Prop := fun _ st oc t => oc = .returned none ∧ Pic w n' (An nu n' 0 0) D' t.heap ∧ va_F (gb w) st t
abbrev M5 (X : Cx) (nu n' : Nat) (D' : Dat) : State → Prop := MQ (xb X) (Q5 (xw X) nu n' D') (xa X) (xs X) (xC X) (xU X) (gb (xw X))
def C5 (l : Launch) (w : Wx) (y : MethodName) (cc : ByteArray) (maxL Fr Lc cm um : Nat) (av : List Value) (nu n n' : Nat) (D D' : Dat) : Prop :=
  Met l y (Cond.code y cc maxL none :: tb) { frames := Fr, cells := cm, slots := um, locals := Lc } (va_Pc av (fun U => wb w ≤ U.heap.size ∧ Pic w n (An nu n 0 0) D U.heap ∧ KK w U ∧ AO U)) (Q5 w nu n' D') cm um (gb w)
def T5 (X : Cx) : Prop := xC X ≤ (xR X).cells ∧ xU X ≤ (xR X).slots ∧ AO (xs X)
theorem C5.of {l : Launch} {w : Wx} {y : MethodName} {cc : ByteArray} {maxL Fr Lc cm um : Nat} {av : List Value} {nu n n' : Nat} {D D' : Dat} (hy : plainName y.cls = true) (hlen : (lg_sl av).length ≤ maxL)
    (k : ∀ X : Cx, xl X = l → xw X = w → xn X = maxL → (xh X).name = y.name → T5 X → Ok X cc y.cls none Fr Lc → V X (M5 X nu n' D') n (An nu n cm um) D 0 (lv_args 0 av) []) : C5 l w y cc maxL Fr Lc cm um av nu n n' D D' := by
  refine Met.ofW (cc := cc) (maxL := maxL) (ret := none) hy rfl ?_
  intro p e s m args below meth c s₁ B hml hv
  obtain ⟨rfl, hge, hP, hK, hA⟩ := hv
  have hts := atoms_spec (ws := Cond.code y cc maxL none :: tb) B.pre
  have h := k (p, l, e, { frames := Fr, cells := cm, slots := um, locals := Lc }, s, m, av.toArray, below, meth, c, w, maxL, cm, um) rfl rfl rfl (name_of_methodNamed B.named B.method).1 ⟨Nat.le_refl _, Nat.le_refl _, hA⟩ ⟨B.exec, B.bytes, hml, findClass_of_methodNamed B.named, fun w h => hts w (List.mem_cons_of_mem _ h), hK, Nat.le_refl _, Nat.le_refl _, B.notSynchronized, B.returns, hge⟩
  rw [lg_entry_eq]
  exact h s.heap [] 0 0 _ (pic_al hP) va_S.rf (Nat.zero_add _) (Nat.zero_add _) (lv_entry av hlen)
theorem pc_blind5 {w : Wx} {av : List Value} {P : Heap → Prop} : FrameBlind (va_Pc av (fun U => wb w ≤ U.heap.size ∧ P U.heap ∧ KK w U ∧ AO U)) := fun a U g mk q => ⟨q.1, q.2.1, q.2.2.1, ⟨va_K.moved (u := U) (U := U.calling g mk a) (Vm.Alike.refl U.vm) q.2.2.2.1.1, OldP.moved (u := U) (U := U.calling g mk a) (State.WarmedH.refl U) q.2.2.2.1.2⟩, AO.moved (u := U) (U := U.calling g mk a) (Vm.Alike.refl U.vm) q.2.2.2.2⟩
/-- the picture with m cells more, at its end -/
theorem pic_grow {w : Wx} {n m : Nat} {A A' : Al} {D D' : Dat} {H H1 : Heap} (h : Pic w n A D H) (hz : H1.size = H.size + m) (hq : ∀ q : Nat, q < H.size → H1[q]? = H[q]?) (ho : ∀ b, pp b < n → cE w A' D' b = cE w A D b) (hk : ∀ b, pp b < n → A'.1 b = A.1 b) (hb : ∀ b, A'.1 b < 19 → pp b < n + m) (hn : ∀ j, j < m → va_at (wG w) vwCl (wb w + (n + j), cE w A' D' (qq (n + j))) H1) : Pic w (n + m) A' D' H1 := by
  obtain ⟨h1, L, hP, hD, hL⟩ := h
  have hge := pic_ge hD
  have hlt : ∀ q ∈ L, q < wb w + n := fun q hq => by
    obtain ⟨k, hk⟩ := va_pl_get (X := []) (f := fA w A D) hq
    have := (hP k _ hk).lt
    dsimp only at this
    omega
  have hsame : va_pl L (fA w A D) = va_pl L (fA w A' D') := by
    unfold va_pl
    apply List.map_congr_left
    intro q hq
    have e1 := hge q hq
    have e2 := hlt q hq
    show (q, cE w A D (qq (q - wb w))) = (q, cE w A' D' (qq (q - wb w)))
    rw [ho _ (by rw [pq]; omega)]
  have hP0 : va_P (wG w) vwCl (va_pl L (fA w A' D')) H1 := by
    rw [← hsame]
    exact hP.kept (fun k q hk => hq _ ((hP k q hk).lt))
  have hD0 : va_D (gb w) (va_pl L (fA w A' D')) := by rw [← hsame]; exact hD
  have hget : ∀ (M : List Nat) (f : Nat → va_E) (k : Nat) (x : Nat × va_E), (va_pl M f)[k]? = some x → M[k]? = some x.1 ∧ x = (x.1, f x.1) := by
    intro M f k x hx
    unfold va_pl at hx
    rw [List.getElem?_map] at hx
    cases hm : M[k]? with
    | none => rw [hm] at hx; cases hx
    | some q => rw [hm] at hx; cases hx; exact ⟨rfl, rfl⟩
  have hnew : ∀ k q, ((List.range m).map (fun j => wb w + (n + j)))[k]? = some q → k < m ∧ q = wb w + (n + k) := by
    intro k q hk
    rw [List.getElem?_map] at hk
    by_cases hkm : k < m
    · rw [List.getElem?_range hkm] at hk
      cases hk
      exact ⟨hkm, rfl⟩
    · rw [List.getElem?_eq_none (by rw [List.length_range]; omega)] at hk
      cases hk
  refine ⟨by omega, L ++ (List.range m).map (fun j => wb w + (n + j)), ?_, ?_, ?_⟩
  · have hpl : va_pl (L ++ (List.range m).map (fun j => wb w + (n + j))) (fA w A' D') = va_pl L (fA w A' D') ++ va_pl ((List.range m).map (fun j => wb w + (n + j))) (fA w A' D') := by simp [va_pl]
    rw [hpl]
    refine va_P.app hP0 (fun k x hx => ?_)
    obtain ⟨e1, e2⟩ := hget _ _ _ _ hx
    obtain ⟨e3, e4⟩ := hnew k x.1 e1
    have e5 : fA w A' D' (wb w + (n + k)) = cE w A' D' (qq (n + k)) := by
      show cE w A' D' (qq (wb w + (n + k) - wb w)) = _
      rw [Nat.add_sub_cancel_left]
    rw [e2, e4, e5]
    exact hn k e3
  · refine ⟨fun i j x y hi hj hxy => ?_, fun k x hx => ?_⟩
    · obtain ⟨e1, -⟩ := hget _ _ _ _ hi
      obtain ⟨e2, -⟩ := hget _ _ _ _ hj
      rw [hxy] at e1
      by_cases hiL : i < L.length <;> by_cases hjL : j < L.length
      · have a1 : (va_pl L (fA w A' D'))[i]? = some (y.1, fA w A' D' y.1) := by
          rw [List.getElem?_append_left hiL] at e1
          unfold va_pl; rw [List.getElem?_map, e1]; rfl
        have a2 : (va_pl L (fA w A' D'))[j]? = some (y.1, fA w A' D' y.1) := by
          rw [List.getElem?_append_left hjL] at e2
          unfold va_pl; rw [List.getElem?_map, e2]; rfl
        exact hD0.1 i j _ _ a1 a2 rfl
      · rw [List.getElem?_append_left hiL] at e1
        rw [List.getElem?_append_right (by omega)] at e2
        have := hlt _ (List.mem_of_getElem? e1)
        obtain ⟨-, q2⟩ := hnew _ _ e2
        omega
      · rw [List.getElem?_append_right (by omega)] at e1
        rw [List.getElem?_append_left hjL] at e2
        have := hlt _ (List.mem_of_getElem? e2)
        obtain ⟨-, q2⟩ := hnew _ _ e1
        omega
      · rw [List.getElem?_append_right (by omega)] at e1 e2
        obtain ⟨q1, q2⟩ := hnew _ _ e1
        obtain ⟨q3, q4⟩ := hnew _ _ e2
        omega
    · obtain ⟨e1, -⟩ := hget _ _ _ _ hx
      by_cases hkL : k < L.length
      · rw [List.getElem?_append_left hkL] at e1
        exact hge _ (List.mem_of_getElem? e1)
      · rw [List.getElem?_append_right (by omega)] at e1
        obtain ⟨q1, q2⟩ := hnew _ _ e1
        show wb w ≤ x.1
        omega
  · intro a ha
    have hlt2 := hb a ha
    by_cases e : pp a < n
    · rw [hk a e] at ha
      exact List.mem_append_left _ (hL a ha)
    · refine List.mem_append_right _ (List.mem_map.mpr ⟨pp a - n, List.mem_range.mpr (by omega), by congr 1; omega⟩)
theorem arrV_eq {cI : ClassId} {N : Nat} {f g : Nat → Value} (h : ∀ j, j < N → f j = g j) : arrV cI N f = arrV cI N g := by
  unfold arrV
  congr 1
  congr 1
  funext j
  exact h j.1 j.2
theorem cE_kn {w : Wx} {nu n c u c' u' m : Nat} {D D' : Dat} {b : Nat} (hb : pp b < n) (hI : ∀ k, dI D' b k = dI D b k) (hL : ∀ k, dL D' b k = dL D b k) (hR : ∀ k, dR D' b k = dR D b k) : cE w (An nu (n + m) c' u') D' b = cE w (An nu n c u) D b := by
  have e : kn (n + m) b = kn n b := by
    unfold kn
    rw [if_pos hb, if_pos (by omega)]
  have q := cE_same (w := w) (A := An nu n c u) (D := D) (D' := D') (a := b) hI hL hR
  rw [← q]
  unfold cE
  simp only [e]
theorem pne {a b n : Nat} (hp : pp a = n) (hb : pp b < n) : ¬ b = a := fun e => by rw [e] at hb; omega
/-- cells n .. n + m - 1 anew -/
def sZ (D : Dat) (n m : Nat) : Dat := (fun b k => if n ≤ b ∧ b < n + m then 0 else D.1 b k, fun b k => if n ≤ b ∧ b < n + m then 0 else D.2.1 b k, fun b k => if n ≤ b ∧ b < n + m then none else D.2.2 b k)
theorem dI_Z (D : Dat) (n m b k : Nat) : dI (sZ D n m) b k = if n ≤ b ∧ b < n + m then 0 else dI D b k := rfl
theorem dL_Z (D : Dat) (n m b k : Nat) : dL (sZ D n m) b k = if n ≤ b ∧ b < n + m then 0 else dL D b k := rfl
theorem dR_Z (D : Dat) (n m b k : Nat) : dR (sZ D n m) b k = if n ≤ b ∧ b < n + m then none else dR D b k := rfl
section RowsK
variable {X : Cx} {Q : State → Prop} {n nu c u : Nat} {D D' : Dat} {pc : Nat} {lv lv' : List (Nat × Value)} {st rest : List Value} {cc : ByteArray} {own : String} {ret : Option FieldType} {Fr Lc : Nat}
variable {ci ix k N a : Nat} {C : String} {T : u_T} {ty : Nat → FieldType} {t : Nat} {τ : FieldType}
theorem v_ret5 (O : Ok X cc own none Fr Lc) (d : decode cc pc = .ok (.return_, 1)) : V X (M5 X nu n D) n (An nu n c u) D pc lv [] := by
  intro H locs cells slots ls h1 h2 h3 h4 h5
  have h3 : cells + c = xC X := h3
  have h4 : slots + u = xU X := h4
  refine W.widen (k := xC X) (n := xU X) (by omega) (by omega) ?_
  exact W.vret O.1 O.2.1 O.2.2.2.2.2.2.2.2.2.1 (fun t ht hW => ⟨rfl, by rw [ht]; exact pic_al h1, h2.F ht⟩) h2.2.2 d O.2.2.2.2.2.2.2.2.1
theorem v_new5 (hp : pp a = n) (O : Ok X cc own ret Fr Lc) (hT : T5 X) (P : PN ci C T N ty) (hcl : Cond.classLink own ix C ∈ tb) (hlm : wlm (xw X) = false) (hk : kst a = ci) (h1c : 1 ≤ c) (h1u : N ≤ u) (d : decode cc pc = .ok (.new ix, 3))
    (kk : V X Q (n + 1) (An nu (n + 1) (c - 1) (u - N)) (sN D a) (pc + 3) lv (.ref (bo X + pp a) :: rest)) : V X Q n (An nu n c u) D pc lv rest := by
  refine v_new (a0 := a) (A := An nu n c u) hp O ⟨hT.1, hT.2.1⟩ P hcl (Or.inr hlm) h1c h1u d ?_
  show V X Q (n + 1) (va_up (kn n) a ci, nl nu, c - 1, u - N) (sN D a) (pc + 3) lv (.ref (bo X + pp a) :: rest)
  rw [kn_up hp hk]
  exact kk
theorem v_newaI {i : Int32} (hp : pp a = n) (O : Ok X cc own ret Fr Lc) (hT : T5 X) (harr : Cond.arrayClass .int ∈ tb) (hi : ¬ i < 0) (hN : i.toNatClampNeg = N) (hb : N * 8 ≤ 536870912) (hk : kst a = 14) (hl : nl nu a = N) (h1c : 1 ≤ c) (h1u : N ≤ u) (d : decode cc pc = .ok (.newarray .int, 2))
    (kk : V X Q (n + 1) (An nu (n + 1) (c - 1) (u - N)) (sN D a) (pc + 2) lv (.ref (bo X + pp a) :: rest)) : V X Q n (An nu n c u) D pc lv (.int i :: rest) := by
  intro H locs cells slots ls h1 h2 h3 h4 h5
  have h3 : cells + c = xC X := h3
  have h4 : slots + u = xU X := h4
  have g1 := hT.1
  have g2 := hT.2.1
  have hK := O.2.2.2.2.2.1.1
  refine va_newaK (atype := .int) O.1 O.2.1 (O.2.2.2.2.1 _ harr) rfl d rfl hi hN (by show N * 4 ≤ _; omega) (by omega) (by omega) rfl fun H1 cA e1 z1 o1 _ hNm => ?_
  have hcA : cA = wy (xw X) 14 := Option.some.inj (hNm.symm.trans (hK.2 1 _ rfl).2)
  subst hcA
  have hsz := h1.1
  have e9 : wb (xw X) + pp a = H.size := by omega
  have eq9 : qq n = a := by rw [← hp, qp]
  have hw := kk H1 locs (cells + 1) (slots + N) ls (pic_grow (m := 1) h1 (A' := An nu (n + 1) (c - 1) (u - N)) (D' := sN D a) z1 o1 (fun b hb => cE_kn hb (fun j => by rw [dI_N, if_neg (pne hp hb)]) (fun j => by rw [dL_N, if_neg (pne hp hb)]) (fun j => by rw [dR_N, if_neg (pne hp hb)])) (fun b hb => by
      show kn (n + 1) b = kn n b
      unfold kn
      rw [if_pos hb, if_pos (by omega)]) (fun b hb => kn_big hb) (fun j hj => by
      have hj0 : j = 0 := by omega
      subst hj0
      rw [Nat.add_zero, eq9, cE_int (by exact kn_lt (by omega) hk)]
      show H1[wb (xw X) + n]? = some (vp_cell _ _)
      rw [show wb (xw X) + n = H.size by omega, e1, vp_cell_i]
      congr 1
      show arrV _ _ _ = arrV _ (nl nu a) _
      rw [hl]
      exact arrV_eq (fun j _ => by rw [dI_N, if_pos rfl]; rfl))) ⟨Nat.le_trans h2.1 (by omega), fun q g1 g2 => (o1 q (Nat.lt_of_lt_of_le g1 h2.1)).trans (h2.2.1 q g1 g2), h2.2.2⟩ (by show cells + 1 + (c - 1) = _; omega) (by show slots + N + (u - N) = _; omega) h5
  rw [e9] at hw
  exact hw
theorem v_newaC {i : Int32} (hp : pp a = n) (O : Ok X cc own ret Fr Lc) (hT : T5 X) (harr : Cond.arrayClass .char ∈ tb) (hi : ¬ i < 0) (hN : i.toNatClampNeg = N) (hb : N * 8 ≤ 536870912) (hk : kst a = 13) (hl : nl nu a = N) (h1c : 1 ≤ c) (h1u : N ≤ u) (d : decode cc pc = .ok (.newarray .char, 2))
    (kk : V X Q (n + 1) (An nu (n + 1) (c - 1) (u - N)) (sN D a) (pc + 2) lv (.ref (bo X + pp a) :: rest)) : V X Q n (An nu n c u) D pc lv (.int i :: rest) := by
  intro H locs cells slots ls h1 h2 h3 h4 h5
  have h3 : cells + c = xC X := h3
  have h4 : slots + u = xU X := h4
  have g1 := hT.1
  have g2 := hT.2.1
  have hK := O.2.2.2.2.2.1.1
  refine va_newaK (atype := .char) O.1 O.2.1 (O.2.2.2.2.1 _ harr) rfl d rfl hi hN (by show N * 2 ≤ _; omega) (by omega) (by omega) rfl fun H1 cA e1 z1 o1 _ hNm => ?_
  have hcA : cA = wy (xw X) 13 := Option.some.inj (hNm.symm.trans (hK.2 0 _ rfl).2)
  subst hcA
  have hsz := h1.1
  have e9 : wb (xw X) + pp a = H.size := by omega
  have eq9 : qq n = a := by rw [← hp, qp]
  have hw := kk H1 locs (cells + 1) (slots + N) ls (pic_grow (m := 1) h1 (A' := An nu (n + 1) (c - 1) (u - N)) (D' := sN D a) z1 o1 (fun b hb => cE_kn hb (fun j => by rw [dI_N, if_neg (pne hp hb)]) (fun j => by rw [dL_N, if_neg (pne hp hb)]) (fun j => by rw [dR_N, if_neg (pne hp hb)])) (fun b hb => by
      show kn (n + 1) b = kn n b
      unfold kn
      rw [if_pos hb, if_pos (by omega)]) (fun b hb => kn_big hb) (fun j hj => by
      have hj0 : j = 0 := by omega
      subst hj0
      rw [Nat.add_zero, eq9, cE_chr (by exact kn_lt (by omega) hk)]
      show H1[wb (xw X) + n]? = some (vp_cell _ _)
      rw [show wb (xw X) + n = H.size by omega, e1, vp_cell_i]
      congr 1
      show arrV _ _ _ = arrV _ (nl nu a) _
      rw [hl]
      exact arrV_eq (fun j _ => by rw [dI_N, if_pos rfl]; rfl))) ⟨Nat.le_trans h2.1 (by omega), fun q g1 g2 => (o1 q (Nat.lt_of_lt_of_le g1 h2.1)).trans (h2.2.1 q g1 g2), h2.2.2⟩ (by show cells + 1 + (c - 1) = _; omega) (by show slots + N + (u - N) = _; omega) h5
  rw [e9] at hw
  exact hw
theorem v_newaZ {i : Int32} (hp : pp a = n) (O : Ok X cc own ret Fr Lc) (hT : T5 X) (harr : Cond.arrayClass .boolean ∈ tb) (hi : ¬ i < 0) (hN : i.toNatClampNeg = N) (hb : N * 8 ≤ 536870912) (hk : kst a = 16) (hl : nl nu a = N) (h1c : 1 ≤ c) (h1u : N ≤ u) (d : decode cc pc = .ok (.newarray .boolean, 2))
    (kk : V X Q (n + 1) (An nu (n + 1) (c - 1) (u - N)) (sN D a) (pc + 2) lv (.ref (bo X + pp a) :: rest)) : V X Q n (An nu n c u) D pc lv (.int i :: rest) := by
  intro H locs cells slots ls h1 h2 h3 h4 h5
  have h3 : cells + c = xC X := h3
  have h4 : slots + u = xU X := h4
  have g1 := hT.1
  have g2 := hT.2.1
  have hK := O.2.2.2.2.2.1.1
  refine va_newaK (atype := .boolean) O.1 O.2.1 (O.2.2.2.2.1 _ harr) rfl d rfl hi hN (by show N * 1 ≤ _; omega) (by omega) (by omega) rfl fun H1 cA e1 z1 o1 _ hNm => ?_
  have hcA : cA = wy (xw X) 16 := Option.some.inj (hNm.symm.trans (hK.2 3 _ rfl).2)
  subst hcA
  have hsz := h1.1
  have e9 : wb (xw X) + pp a = H.size := by omega
  have eq9 : qq n = a := by rw [← hp, qp]
  have hw := kk H1 locs (cells + 1) (slots + N) ls (pic_grow (m := 1) h1 (A' := An nu (n + 1) (c - 1) (u - N)) (D' := sN D a) z1 o1 (fun b hb => cE_kn hb (fun j => by rw [dI_N, if_neg (pne hp hb)]) (fun j => by rw [dL_N, if_neg (pne hp hb)]) (fun j => by rw [dR_N, if_neg (pne hp hb)])) (fun b hb => by
      show kn (n + 1) b = kn n b
      unfold kn
      rw [if_pos hb, if_pos (by omega)]) (fun b hb => kn_big hb) (fun j hj => by
      have hj0 : j = 0 := by omega
      subst hj0
      rw [Nat.add_zero, eq9, cE_boo (by exact kn_lt (by omega) hk)]
      show H1[wb (xw X) + n]? = some (vp_cell _ _)
      rw [show wb (xw X) + n = H.size by omega, e1, vp_cell_i]
      congr 1
      show arrV _ _ _ = arrV _ (nl nu a) _
      rw [hl]
      exact arrV_eq (fun j _ => by rw [dI_N, if_pos rfl]; rfl))) ⟨Nat.le_trans h2.1 (by omega), fun q g1 g2 => (o1 q (Nat.lt_of_lt_of_le g1 h2.1)).trans (h2.2.1 q g1 g2), h2.2.2⟩ (by show cells + 1 + (c - 1) = _; omega) (by show slots + N + (u - N) = _; omega) h5
  rw [e9] at hw
  exact hw
theorem v_newaL {i : Int32} (hp : pp a = n) (O : Ok X cc own ret Fr Lc) (hT : T5 X) (harr : Cond.arrayClass .long ∈ tb) (hi : ¬ i < 0) (hN : i.toNatClampNeg = N) (hb : N * 8 ≤ 536870912) (hk : kst a = 15) (hl : nl nu a = N) (h1c : 1 ≤ c) (h1u : N ≤ u) (d : decode cc pc = .ok (.newarray .long, 2))
    (kk : V X Q (n + 1) (An nu (n + 1) (c - 1) (u - N)) (sN D a) (pc + 2) lv (.ref (bo X + pp a) :: rest)) : V X Q n (An nu n c u) D pc lv (.int i :: rest) := by
  intro H locs cells slots ls h1 h2 h3 h4 h5
  have h3 : cells + c = xC X := h3
  have h4 : slots + u = xU X := h4
  have g1 := hT.1
  have g2 := hT.2.1
  have hK := O.2.2.2.2.2.1.1
  refine va_newaK (atype := .long) O.1 O.2.1 (O.2.2.2.2.1 _ harr) rfl d rfl hi hN (by show N * 8 ≤ _; omega) (by omega) (by omega) rfl fun H1 cA e1 z1 o1 _ hNm => ?_
  have hcA : cA = wy (xw X) 15 := Option.some.inj (hNm.symm.trans (hK.2 2 _ rfl).2)
  subst hcA
  have hsz := h1.1
  have e9 : wb (xw X) + pp a = H.size := by omega
  have eq9 : qq n = a := by rw [← hp, qp]
  have hw := kk H1 locs (cells + 1) (slots + N) ls (pic_grow (m := 1) h1 (A' := An nu (n + 1) (c - 1) (u - N)) (D' := sN D a) z1 o1 (fun b hb => cE_kn hb (fun j => by rw [dI_N, if_neg (pne hp hb)]) (fun j => by rw [dL_N, if_neg (pne hp hb)]) (fun j => by rw [dR_N, if_neg (pne hp hb)])) (fun b hb => by
      show kn (n + 1) b = kn n b
      unfold kn
      rw [if_pos hb, if_pos (by omega)]) (fun b hb => kn_big hb) (fun j hj => by
      have hj0 : j = 0 := by omega
      subst hj0
      rw [Nat.add_zero, eq9, cE_lng (by exact kn_lt (by omega) hk)]
      show H1[wb (xw X) + n]? = some (vp_cell _ _)
      rw [show wb (xw X) + n = H.size by omega, e1, vp_cell_l]
      congr 1
      show arrV _ _ _ = arrV _ (nl nu a) _
      rw [hl]
      exact arrV_eq (fun j _ => by rw [dL_N, if_pos rfl]; rfl))) ⟨Nat.le_trans h2.1 (by omega), fun q g1 g2 => (o1 q (Nat.lt_of_lt_of_le g1 h2.1)).trans (h2.2.1 q g1 g2), h2.2.2⟩ (by show cells + 1 + (c - 1) = _; omega) (by show slots + N + (u - N) = _; omega) h5
  rw [e9] at hw
  exact hw
theorem v_anew5 {i : Int32} (hp : pp a = n) (O : Ok X cc own ret Fr Lc) (hT : T5 X) (hcl : Cond.classLink own ix "FlowChain$Statement" ∈ tb) (hi : ¬ i < 0) (hN : i.toNatClampNeg = N) (hb : N * 4 ≤ 536870912) (hk : kst a = 17) (hl : nl nu a = N) (h1c : 1 ≤ c) (h1u : N ≤ u) (d : decode cc pc = .ok (.anewarray ix, 3))
    (kk : V X Q (n + 1) (An nu (n + 1) (c - 1) (u - N)) (sN D a) (pc + 3) lv (.ref (bo X + pp a) :: rest)) : V X Q n (An nu n c u) D pc lv (.int i :: rest) := by
  intro H locs cells slots ls h1 h2 h3 h4 h5
  have h3 : cells + c = xC X := h3
  have h4 : slots + u = xU X := h4
  have g1 := hT.1
  have g2 := hT.2.1
  subst hN
  have hK := O.2.2.2.2.2.1.1
  refine W.anew O.1 O.2.1 O.2.2.2.1 (O.2.2.2.2.1 _ hcl) (va_AO.use hT.2.2.1) rfl d rfl hi hb (by omega) (by omega) fun cA kA comp e1 e2 e3 e4 => ?_
  obtain ⟨kA9, comp9, -, -, -, hRA⟩ := (hK.2 4 _ rfl).2
  have hcA : cA = wy (xw X) 17 := Option.some.inj (e1.symm.trans hRA)
  subst hcA
  have hsz := h1.1
  have e9 : wb (xw X) + pp a = H.size := by omega
  have eq9 : qq n = a := by rw [← hp, qp]
  have hw := kk (H.push { cls := wy (xw X) 17, slots := Array.replicate i.toNatClampNeg .null, vm := .none }) locs (cells + 1) (slots + i.toNatClampNeg) ls (pic_grow (m := 1) h1 (A' := An nu (n + 1) (c - 1) (u - i.toNatClampNeg)) (D' := sN D a) (by simp) (fun q hq => by rw [Array.getElem?_push, if_neg (Nat.ne_of_lt hq)]) (fun b hb => cE_kn hb (fun j => by rw [dI_N, if_neg (pne hp hb)]) (fun j => by rw [dL_N, if_neg (pne hp hb)]) (fun j => by rw [dR_N, if_neg (pne hp hb)])) (fun b hb => by
      show kn (n + 1) b = kn n b
      unfold kn
      rw [if_pos hb, if_pos (by omega)]) (fun b hb => kn_big hb) (fun j hj => by
      have hj0 : j = 0 := by omega
      subst hj0
      rw [Nat.add_zero, eq9, cE_sts (by exact kn_lt (by omega) hk)]
      show (H.push _)[wb (xw X) + n]? = some (vp_cell _ _)
      rw [show wb (xw X) + n = H.size by omega, Array.getElem?_push, if_pos rfl, arrV_new, vp_cell_q]
      congr 1
      show arrV _ _ _ = arrV _ (nl nu a) _
      rw [hl]
      exact arrV_eq (fun j _ => by rw [dR_N, if_pos rfl]; rfl))) ⟨Nat.le_trans h2.1 (by simp), fun q g1 g2 => by
      rw [Array.getElem?_push, if_neg (Nat.ne_of_lt (Nat.lt_of_lt_of_le g1 h2.1))]
      exact h2.2.1 q g1 g2, h2.2.2⟩ (by show cells + 1 + (c - 1) = _; omega) (by show slots + i.toNatClampNeg + (u - i.toNatClampNeg) = _; omega) h5
  rw [e9] at hw
  exact hw
theorem v_multi5 {i j : Int32} {M : Nat} (hp : pp a = n) (O : Ok X cc own ret Fr Lc) (hT : T5 X) (hcl : Cond.classLink own ix ("[" ++ (FieldType.array .int).toString) ∈ tb) (harr : Cond.arrayClass .int ∈ tb) (hi : ¬ i < 0) (hj : ¬ j < 0) (hN : i.toNatClampNeg = N) (hM : j.toNatClampNeg = M) (hb1 : N * 4 ≤ 536870912) (hb2 : M * 4 ≤ 536870912) (hk : kst a = 18) (hl : nl nu a = N) (hks : ∀ q, q < N → kst (a + 1 + q) = 14 ∧ nl nu (a + 1 + q) = M ∧ pp (a + 1 + q) = n + 1 + q) (h1c : 1 + N ≤ c) (h1u : N + N * M ≤ u) (d : decode cc pc = .ok (.multianewarray ix 2, 4))
    (kk : V X Q (n + (1 + N)) (An nu (n + (1 + N)) (c - (1 + N)) (u - (N + N * M))) (sZ D a (1 + N)) (pc + 4) lv (.ref (bo X + pp a) :: rest)) : V X Q n (An nu n c u) D pc lv (.int j :: .int i :: rest) := by
  intro H locs cells slots ls h1 h2 h3 h4 h5
  have h3 : cells + c = xC X := h3
  have h4 : slots + u = xU X := h4
  have g1 := hT.1
  have g2 := hT.2.1
  subst hN
  subst hM
  have hK := O.2.2.2.2.2.1.1
  intro T hT0 Xs
  obtain ⟨vm₁, cA, comp, -, fA, fC, -, -, X', step⟩ := Xs.multianewarray2F O.1 O.2.2.2.1 (O.2.2.2.2.1 _ hcl) (over_moved (Vm.Alike.refl _) hT.2.2.2) (O.2.2.2.2.1 _ harr) (g := F0 (xm X) pc ls (.int j :: .int i :: rest)) rfl (by rw [O.2.1]; exact d) rfl hi hj hb1 (by show _ * 4 ≤ _; exact hb2) (by omega) rfl rfl (by omega) (by omega)
  have hcomp : comp = wy (xw X) 14 := Option.some.inj (fC.symm.trans (hK.2 1 _ rfl).2)
  subst hcomp
  have hcA : cA = wy (xw X) 18 := Option.some.inj (fA.symm.trans (hK.2 5 _ rfl).2)
  subst hcA
  generalize hF : Jvm.Free.Multi.fill (T.setVm vm₁) (wy (xw X) 18) (wy (xw X) 14) i.toNatClampNeg j.toNatClampNeg (defaultValue .int) i.toNatClampNeg = F at X' step
  have hTh : (T.setVm vm₁).heap = H := hT0
  obtain ⟨f1, f2, -, -⟩ := Jvm.Free.Multi.fill_facts (T.setVm vm₁) (wy (xw X) 18) (wy (xw X) 14) i.toNatClampNeg j.toNatClampNeg (defaultValue .int) i.toNatClampNeg
  rw [hF, hTh] at f1 f2
  have hold : ∀ x : Nat, x < H.size → F.heap[x]? = H[x]? := fun x hx => by
    have := Jvm.Free.Multi.fill_old (T.setVm vm₁) (wy (xw X) 18) (wy (xw X) 14) i.toNatClampNeg j.toNatClampNeg (defaultValue .int) (a := x) (by rw [hTh]; exact hx) i.toNatClampNeg
    rw [hF, hTh] at this
    exact this
  have hrow : ∀ q : Nat, q < i.toNatClampNeg → F.heap[H.size + 1 + q]? = some (Jvm.Free.Multi.innerC (wy (xw X) 14) j.toNatClampNeg (defaultValue .int)) := fun q hq => by
    have := Jvm.Free.Multi.fill_inner (T.setVm vm₁) (wy (xw X) 18) (wy (xw X) 14) i.toNatClampNeg j.toNatClampNeg (defaultValue .int) i.toNatClampNeg q hq
    rw [hF, hTh] at this
    exact this
  have hsz := h1.1
  have e9 : wb (xw X) + pp a = H.size := by omega
  have eq9 : qq n = a := by rw [← hp, qp]
  have out : ∀ b, pp b < n → ¬ (a ≤ b ∧ b < a + (1 + i.toNatClampNeg)) := fun b hb w => by
    by_cases e : b = a
    · subst e; omega
    · have q := (hks (b - (a + 1)) (by omega)).2.2
      rw [show a + 1 + (b - (a + 1)) = b by omega] at q
      omega
  have hw := kk F.heap locs (cells + 1 + i.toNatClampNeg) (slots + i.toNatClampNeg + i.toNatClampNeg * j.toNatClampNeg) ls (pic_grow (m := 1 + i.toNatClampNeg) h1 (A' := An nu (n + (1 + i.toNatClampNeg)) (c - (1 + i.toNatClampNeg)) (u - (i.toNatClampNeg + i.toNatClampNeg * j.toNatClampNeg))) (D' := sZ D a (1 + i.toNatClampNeg)) (by omega) hold (fun b hb => cE_kn hb (fun k => by rw [dI_Z, if_neg (out b hb)]) (fun k => by rw [dL_Z, if_neg (out b hb)]) (fun k => by rw [dR_Z, if_neg (out b hb)])) (fun b hb => by
      show kn (n + (1 + i.toNatClampNeg)) b = kn n b
      unfold kn
      rw [if_pos hb, if_pos (by omega)]) (fun b hb => kn_big hb) (fun q hq => by
      cases q with
      | zero =>
        rw [Nat.add_zero, eq9, cE_two (by exact kn_lt (by omega) hk)]
        show F.heap[wb (xw X) + n]? = some (vp_cell _ _)
        rw [show wb (xw X) + n = H.size by omega, f2, vr_outer, vp_cell_q]
        congr 1
        show arrV _ _ _ = arrV _ (nl nu a) _
        rw [hl]
        exact arrV_eq (fun q hq => by rw [if_pos hq]; show _ = Value.ref (wb (xw X) + pp (a + 1 + q)); have e5 : wb (xw X) + pp (a + 1 + q) = H.size + 1 + q := (by rw [(hks q hq).2.2]; omega); rw [e5]; rfl)
      | succ q =>
        have hq' : q < i.toNatClampNeg := by omega
        have e8 : n + (q + 1) = n + 1 + q := by omega
        have e7 : qq (n + 1 + q) = a + 1 + q := by rw [← (hks q hq').2.2, qp]
        rw [e8, e7, cE_int (by exact kn_lt (by have := (hks q hq').2.2; omega) (hks q hq').1)]
        show F.heap[wb (xw X) + (n + 1 + q)]? = some (vp_cell _ _)
        rw [show wb (xw X) + (n + 1 + q) = H.size + 1 + q by omega, hrow q hq', vp_cell_i]
        congr 1
        show ({ cls := _, slots := Array.replicate _ _, vm := .none } : Cell) = arrV _ (nl nu (a + 1 + q)) _
        rw [(hks q hq').2.1, arrV_new]
        exact arrV_eq (fun k _ => by rw [dI_Z, if_pos (by omega)]; rfl))) ⟨Nat.le_trans h2.1 (by omega), fun q g1 g2 => (hold q (Nat.lt_of_lt_of_le g1 h2.1)).trans (h2.2.1 q g1 g2), h2.2.2⟩ (by show cells + 1 + i.toNatClampNeg + (c - (1 + i.toNatClampNeg)) = _; omega) (by show slots + i.toNatClampNeg + i.toNatClampNeg * j.toNatClampNeg + (u - (i.toNatClampNeg + i.toNatClampNeg * j.toNatClampNeg)) = _; omega) h5
  rw [e9] at hw
  obtain ⟨t2, a1, b1⟩ := hw F rfl X'
  exact ⟨t2, step t2 (by rw [hT0]; exact a1), b1⟩
variable {y : MethodName} {cy : ByteArray} {maxL np Fr' Lc' cm um n' : Nat} {As : List Value}
theorem v_goes5 {H : Heap} {locs : List Loc} {cells slots : Nat} {ls : Array Slot} {st0 : List Value} {av : Array Value} (hr : va_Run (xp X) (xl X) (xe X) (xR X) (xs X) (xm X) (xa X) (xb X) (xh X) (xc X) H locs cells slots cm um (F0 (xm X) pc ls st0) rest (Q5 (xw X) nu n' D' av) (gb (xw X)))
    (h2 : va_S (fun q => bo X ≤ q) (xs X).heap H locs) (h3 : cells + c = xC X) (h4 : slots + u = xU X) (hcu : cm ≤ c ∧ um ≤ u) (h5 : lv_has ls (xn X) lv) (kk : V X Q n' (An nu n' (c - cm) (u - um)) D' (pc + 3) lv rest) :
    W (xp X) (xl X) (xe X) (xR X) (xs X) (xm X) (xa X) (xb X) (xh X) (xc X) H locs cells slots Q (F0 (xm X) pc ls st0) := by
  have k1 := hcu.1
  have k2 := hcu.2
  intro T hT X0
  obtain ⟨v, st₀, t, T', L, h0, X', hL, e1, e2, ⟨hv, hpic, hF⟩, st⟩ := hr T hT X0
  cases hv
  have hz9 := hF.1
  have hk := hF.2
  rw [h0, ← e1] at hz9 hk
  obtain ⟨t2, a1, b1⟩ := kk T'.heap (locs ++ L) (cells + cm) (slots + um) ls (by rw [e1]; exact pic_al hpic) (h2.next hz9 hk hL) (by show cells + cm + (c - cm) = _; omega) (by show slots + um + (u - um) = _; omega) h5 T' rfl X'
  exact ⟨t2, st t2 a1, b1⟩
theorem v_call5 (O : Ok X cc own ret Fr Lc) (hT : T5 X) (hcu : cm ≤ c ∧ um ≤ u) (hM : C5 (xl X) (xw X) y cy maxL Fr' Lc' cm um (.ref (bo X + pp a) :: As) nu n n' D D') (hm : MW y cy maxL none np) (hy : y.name = "<init>") (hi : Cond.instanceMethod y ∈ tb) (hl : Cond.methodLink own ix y ∈ tb)
    (hn : As.length = np) (hR1 : Fr' + 1 ≤ Fr) (hR2 : 8 + (maxL + 11) + Lc' ≤ Lc) (hW : (rest.map fun v => v.category).sum ≤ 8) (d : decode cc pc = .ok (.invokespecial ix, 3)) (hst : st = As.reverse ++ .ref (bo X + pp a) :: rest) (kk : V X Q n' (An nu n' (c - cm) (u - um)) D' (pc + 3) lv rest) : V X Q n (An nu n c u) D pc lv st := by
  subst hst
  intro H locs cells slots ls h1 h2 h3 h4 h5
  have h3 : cells + c = xC X := h3
  have h4 : slots + u = xU X := h4
  have g1 := hT.1
  have g2 := hT.2.1
  have k1 := hcu.1
  have k2 := hcu.2
  have hts := O.2.2.2.2.1
  have hrun := va_runI (p := xp X) (l := xl X) (e := xe X) (R := xR X) (s := xs X) (m := xm X) (args := xa X) (below := xb X) (meth := xh X) (c := xc X) (H := H) (locs := locs) (cells := cells) (slots := slots) (g := F0 (xm X) pc ls (As.reverse ++ .ref (bo X + pp a) :: rest)) (As := As) (rest := rest) (b := bo X + pp a) (index := ix) (Ts := tb) ⟨O.1, O.2.1, O.2.2.1, O.2.2.2.1, hts⟩ hM
    ⟨callB_of np hts (tb_in hm.1) rfl rfl rfl (hts _ hm.2.1) (hts _ hl) hm.2.2 ⟨Nat.le_trans hR1 O.2.2.2.2.2.2.1, Nat.le_trans hR2 O.2.2.2.2.2.2.2.1⟩, hy, hts _ hi⟩
    ⟨pc_blind5 (P := Pic (xw X) n (An nu n 0 0) D), fun U hU hWm => ⟨rfl, by rw [hU]; exact Nat.le_trans O.2.2.2.2.2.2.2.2.2.2 h2.1, by rw [hU]; exact pic_al h1, O.2.2.2.2.2.1.to hU hWm h2, hT.2.2.moved hWm.alike⟩⟩ rfl hn h5.1 rfl (lv_room hW) d ⟨by omega, by omega⟩
  exact v_goes5 hrun h2 h3 h4 hcu h5 kk
theorem v_call5N (O : Ok X cc own ret Fr Lc) (hT : T5 X) (hcu : cm ≤ c ∧ um ≤ u) (hM : C5 (xl X) (xw X) y cy maxL Fr' Lc' cm um (.ref (bo X + pp a) :: As) nu n n' D D') (hm : MW y cy maxL none np) (hy : y.name = "<init>") (hi : Cond.instanceMethod y ∈ tb) (hl : (own, ix, y) ∈ nestl)
    (hn : As.length = np) (hR1 : Fr' + 1 ≤ Fr) (hR2 : 8 + (maxL + 11) + Lc' ≤ Lc) (hW : (rest.map fun v => v.category).sum ≤ 8) (d : decode cc pc = .ok (.invokespecial ix, 3)) (hst : st = As.reverse ++ .ref (bo X + pp a) :: rest) (kk : V X Q n' (An nu n' (c - cm) (u - um)) D' (pc + 3) lv rest) : V X Q n (An nu n c u) D pc lv st := by
  subst hst
  intro H locs cells slots ls h1 h2 h3 h4 h5
  have h3 : cells + c = xC X := h3
  have h4 : slots + u = xU X := h4
  have g1 := hT.1
  have g2 := hT.2.1
  have k1 := hcu.1
  have k2 := hcu.2
  have hts := O.2.2.2.2.1
  have hold := O.2.2.2.2.2.1.2
  obtain ⟨o1, o2, o3, o4, o5, o6, o7, o8, o9, o10, o11, o12, o13, o14⟩ := hold
  have hnst := o10 (own, ix, y) hl
  have hrun := va_runIN (p := xp X) (l := xl X) (e := xe X) (R := xR X) (s := xs X) (m := xm X) (args := xa X) (below := xb X) (meth := xh X) (c := xc X) (H := H) (locs := locs) (cells := cells) (slots := slots) (g := F0 (xm X) pc ls (As.reverse ++ .ref (bo X + pp a) :: rest)) (As := As) (rest := rest) (b := bo X + pp a) (index := ix) (Ts := tb) ⟨O.1, O.2.1, O.2.2.1, O.2.2.2.1, hts⟩ hM
    ⟨va_cnB np hts (tb_in hm.1) rfl rfl rfl hnst (hts _ hm.2.1) hm.2.2 ⟨Nat.le_trans hR1 O.2.2.2.2.2.2.1, Nat.le_trans hR2 O.2.2.2.2.2.2.2.1⟩, hy, hts _ hi⟩
    ⟨pc_blind5 (P := Pic (xw X) n (An nu n 0 0) D), fun U hU hWm => ⟨rfl, by rw [hU]; exact Nat.le_trans O.2.2.2.2.2.2.2.2.2.2 h2.1, by rw [hU]; exact pic_al h1, O.2.2.2.2.2.1.to hU hWm h2, hT.2.2.moved hWm.alike⟩⟩ rfl hn h5.1 rfl (lv_room hW) d ⟨by omega, by omega⟩
  exact v_goes5 hrun h2 h3 h4 hcu h5 kk
end RowsK
/-- Arrays.fill, whatever the cells -/
def f_fl (L : Nat) : Nat → Nat → Int32 → Int32 → Int32 → Dat → Option Dat
  | 0, _, _, _, _, _ => none
  | g + 1, x0, x1, x2, x3, D => if x3 ≤ x2 then some D else (if x2 < 0 ∨ L ≤ (x2).toNatClampNeg then none else f_fl L g x0 x1 (x2 + 1) x3 (sI D x0 (x2).toNatClampNeg x1))
theorem w_fl {X : Cx} {n L : Nat} {A : Al} {z : Dat} (O : Ok X cJ7_fill_53178 RJ7 none 0 0) (hn : xn X = 4) (hz : Z0 X A) {x0 : Nat} (ha : A.1 x0 = 14) (hl : A.2.1 x0 = L) : ∀ (g : Nat) (x1 : Int32) (x2 : Int32) (x3 : Int32) (D : Dat), f_fl L g x0 x1 x2 x3 D = some z → V X (Q0 X n A none z) n A D 5 [(0, .ref (bo X + pp x0)), (1, .int x1), (2, .int x2), (3, .int x3)] [] := by
  intro g
  induction g with
  | zero => intro x1 x2 x3 D h; exact absurd h (by simp [f_fl])
  | succ g ih =>
    intro x1 x2 x3 D h
    rw [f_fl] at h
    refine v_iload_n (pc := 5) O dJ7_fill_53178_5 2 rfl ?_
    refine v_iload_n (pc := 6) O dJ7_fill_53178_6 3 rfl ?_
    refine v_icmpge (pc := 7) 20 O dJ7_fill_53178_7 (by decide) (fun c1 => ?_) (fun c1 => ?_)
    · have h := (if_pos c1).symm.trans h
      obtain rfl := Option.some.inj h
      exact v_ret (pc := 20) O hz dJ7_fill_53178_20
    · have h := (if_neg c1).symm.trans h
      refine v_aload_n (pc := 10) O dJ7_fill_53178_10 0 rfl ?_
      refine v_iload_n (pc := 11) O dJ7_fill_53178_11 2 rfl ?_
      refine v_iload_n (pc := 12) O dJ7_fill_53178_12 1 rfl ?_
      obtain ⟨c3, h⟩ := or_none h
      refine v_iast (pc := 13) (a := x0) O ha (inq hl c3) dJ7_fill_53178_13 ?_
      refine v_iinc (pc := 14) (lv' := [(2, .int (x2 + 1)), (0, .ref (bo X + pp x0)), (1, .int x1), (3, .int x3)]) O dJ7_fill_53178_14 2 rfl (congrArg (fun q => x2 + q) ic_1) (by rw [hn]; decide) rfl ?_
      refine v_goto (pc := 17) 5 O dJ7_fill_53178_17 (by decide) ?_
      refine v_sub [1, 2, 0, 3] rfl ?_
      exact ih x1 (x2 + 1) x3 (sI D x0 (x2).toNatClampNeg x1) h
theorem c_fl {l : Launch} {w : Wx} {n L N : Nat} {A : Al} {x0 : Nat} (ha : A.1 x0 = 14) (hl : A.2.1 x0 = L) {x1 : Int32} {D z : Dat} (h : f_fl L N x0 x1 0 (Int32.ofNat L) D = some z) : C0 l w yJ7_fill_53178 cJ7_fill_53178 4 none 0 0 [.ref (wb w + pp x0), .int x1] n A D none z :=
  C0.of (by decide) (Nat.le_of_ble_eq_true rfl) (fun X e1 e2 e3 hz O => by
  subst e1
  subst e2
  show V X _ n A D 0 [(0, .ref (bo X + pp x0)), (1, .int x1)] []
  refine v_iconst (pc := 0) O dJ7_fill_53178_0 ic_0 ?_
  refine v_istore_n (pc := 1) (lv' := [(2, .int 0), (0, .ref (bo X + pp x0)), (1, .int x1)]) O dJ7_fill_53178_1 rfl (by rw [e3]; decide) rfl ?_
  refine v_aload_n (pc := 2) O dJ7_fill_53178_2 1 rfl ?_
  refine v_alenI (pc := 3) (a := x0) O ha dJ7_fill_53178_3 ?_
  rw [hl]
  refine v_istore_n (pc := 4) (lv' := [(3, .int (Int32.ofNat L)), (2, .int 0), (0, .ref (bo X + pp x0)), (1, .int x1)]) O dJ7_fill_53178_4 rfl (by rw [e3]; decide) rfl ?_
  refine v_sub [2, 3, 1, 0] rfl ?_
  exact w_fl O e3 hz ha hl N x1 0 (Int32.ofNat L) D h)
/-- links are fixed from here on -/
def lmT (w : Wx) : Wx := (w.1, w.2.1, w.2.2.1, true, w.2.2.2.2)
theorem pic_lm {w : Wx} {n : Nat} {A : Al} {D : Dat} {H : Heap} (h : Pic w n A D H) (hf : wlm w = false) (hl : ∀ a k, A.1 a < 13 → k < fN (A.1 a) → fty (A.1 a) k = 3 → dR D a k = lks a k) : Pic (lmT w) n A D H := by
  have e : ∀ a, cE (lmT w) A D a = cE w A D a := by
    intro a
    by_cases ha : A.1 a < 13
    · unfold cE
      rw [if_pos ha, if_pos ha]
      congr 2
      unfold flds
      apply List.map_congr_left
      intro k hk
      have hk := List.mem_range.mp hk
      unfold fv
      by_cases h3 : fty (A.1 a) k = 3
      · have hw : wlm (lmT w) = true := rfl
        have := hl a k ha hk h3
        simp [h3, hf, hw, this]
        rfl
      · have hb : fty (A.1 a) k < 4 := fty_lt _ _ hk
        by_cases h0 : fty (A.1 a) k = 0
        · simp [h0]
        · by_cases h1 : fty (A.1 a) k = 1
          · simp [h1]
          · have h2 : fty (A.1 a) k = 2 := by omega
            simp [h2]
            rfl
    · unfold cE
      rw [if_neg ha, if_neg ha]
      rfl
  obtain ⟨h1, L, hP, hD, hL⟩ := h
  have hs : va_pl L (fA w A D) = va_pl L (fA (lmT w) A D) := by
    unfold va_pl
    apply List.map_congr_left
    intro q _
    show (q, cE w A D (qq (q - wb w))) = (q, cE (lmT w) A D (qq (q - wb w)))
    rw [e]
  exact ⟨h1, L, by rw [← hs]; exact hP, by rw [← hs]; exact hD, hL⟩
