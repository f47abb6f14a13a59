/-! constructors -/
theorem C0.ofI {l : Launch} {w : Wx} {y : MethodName} {cc : ByteArray} {maxL : Nat} {ret : Option FieldType} {Fr Lc : Nat} {av : List Value} {n : Nat} {A : Al} {D : Dat} {r : Option Value} {D' : Dat} (hy : plainName y.cls = true) (hlen : (lg_sl av).length ≤ maxL)
    (k : ∀ X : Cx, xl X = l → xw X = w → xn X = maxL → (xh X).name = y.name → Z0 X A → Ok X cc y.cls ret Fr Lc → V X (Q0 X n A r D') n A D 0 (lv_args 0 av) []) : C0 l w y cc maxL ret Fr Lc av n A D r D' := by
  refine Met.ofW (cc := cc) (maxL := maxL) (ret := ret) hy rfl ?_
  intro p e s m args below meth c s₁ B hml hv
  obtain ⟨rfl, hge, hP, hK⟩ := hv
  have hts := atoms_spec (ws := Cond.code y cc maxL ret :: tb) B.pre
  have h := k (p, l, e, { frames := Fr, cells := 0, slots := 0, locals := Lc }, s, m, av.toArray, below, meth, c, w, maxL, A.2.2.1, A.2.2.2) rfl rfl rfl (name_of_methodNamed B.named B.method).1 ⟨rfl, rfl⟩ ⟨B.exec, B.bytes, hml, findClass_of_methodNamed B.named, fun w h => hts w (List.mem_cons_of_mem _ h), hK, Nat.le_refl _, Nat.le_refl _, B.notSynchronized, B.returns, hge⟩
  rw [lg_entry_eq]
  exact h s.heap [] 0 0 _ hP va_S.rf (Nat.zero_add _) (Nat.zero_add _) (lv_entry av hlen)
section RowsI
variable {X : Cx} {Q : State → Prop} {n : Nat} {A : Al} {D D' : Dat} {pc : Nat} {lv lv' : List (Nat × Value)} {st rest : List Value} {cc : ByteArray} {own : String} {ret : Option FieldType} {Fr Lc : Nat}
variable {y : MethodName} {cy : ByteArray} {maxL np ix Fr' Lc' : Nat} {As : List Value} {a : Nat}
theorem v_callI (O : Ok X cc own ret Fr Lc) (hB : BB X A) (hM : C0 (xl X) (xw X) y cy maxL none Fr' Lc' (.ref (bo X + pp a) :: As) n A D none D') (hm : MW y cy maxL none np) (hy : y.name = "<init>") (hi : Cond.instanceMethod y ∈ tb) (hl : Cond.methodLink own ix y ∈ tb)
    (hn : As.length = np) (hR1 : Fr' + 1 ≤ Fr) (hR2 : 8 + (maxL + 11) + Lc' ≤ Lc) (hW : (rest.map fun v => v.category).sum ≤ 8) (d : decode cc pc = .ok (.invokespecial ix, 3)) (hst : st = As.reverse ++ .ref (bo X + pp a) :: rest) (kk : V X Q n A D' (pc + 3) lv rest) : V X Q n A D pc lv st := by
  subst hst
  intro H locs cells slots ls h1 h2 h3 h4 h5
  have hts := O.2.2.2.2.1
  have hrun := va_runI (p := xp X) (l := xl X) (e := xe X) (R := xR X) (s := xs X) (m := xm X) (args := xa X) (below := xb X) (meth := xh X) (c := xc X) (H := H) (locs := locs) (cells := cells) (slots := slots) (g := F0 (xm X) pc ls (As.reverse ++ .ref (bo X + pp a) :: rest)) (As := As) (rest := rest) (b := bo X + pp a) (index := ix) (Ts := tb) ⟨O.1, O.2.1, O.2.2.1, O.2.2.2.1, hts⟩ hM
    ⟨callB_of np hts (tb_in hm.1) rfl rfl rfl (hts _ hm.2.1) (hts _ hl) hm.2.2 ⟨Nat.le_trans hR1 O.2.2.2.2.2.2.1, Nat.le_trans hR2 O.2.2.2.2.2.2.2.1⟩, hy, hts _ hi⟩
    ⟨pc_blind (P := Pic (xw X) n A D), fun U hU hWm => ⟨rfl, by rw [hU]; exact Nat.le_trans O.2.2.2.2.2.2.2.2.2.2 h2.1, by rw [hU]; exact h1, O.2.2.2.2.2.1.to hU hWm h2⟩⟩ rfl hn h5.1 rfl (lv_room hW) d (bb_fit hB h3 h4)
  exact v_goes (r := none) hrun h2 h3 h4 h5 kk
end RowsI
theorem az_push {nu : Nat} {S : Sr} (h : NS ≤ S.1) : ((va_up (Az nu S).1 S.1 7, (Az nu S).2.1, (Az nu S).2.2.1 - 1, (Az nu S).2.2.2 - 10) : Al) = Az nu (S.1 + 1, va_up S.2.1 S.1 7, S.2.2.1 - 1, S.2.2.2 - 10) := by
  have e : va_up (kd S.2.1) S.1 7 = kd (va_up S.2.1 S.1 7) := by
    funext b
    by_cases hb : b = S.1
    · subst hb
      rw [va_up_self, kd, if_neg (by omega), va_up_self]
    · rw [va_up_ne _ _ hb, kd, kd, va_up_ne _ _ hb]
  show (va_up (kd S.2.1) S.1 7, _, _, _) = _
  rw [e]
