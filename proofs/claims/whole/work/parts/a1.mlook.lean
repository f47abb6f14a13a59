/-! heights: one look of the model -/
def Hm (hv : Nat → Option Nat) (lk : Nat → Bool) (D : Dat) : Prop := ∀ i, i < 64 → dI D 245 i = hI (hv i) ∧ dI D 246 i = if lk i then 1 else 0
theorem e_takes {o : Nat} (ho : o ≤ 15) (D : Dat) : f_X12_takes (nn o) D = some (nn (tk o), D) := by
  unfold f_X12_takes f_X12_takes_b13 f_X12_takes_b35 f_X12_takes_b40
  rcases (show o = 0 ∨ o = 1 ∨ o = 2 ∨ o = 3 ∨ o = 4 ∨ o = 5 ∨ o = 6 ∨ o = 7 ∨ o = 8 ∨ o = 9 ∨ o = 10 ∨ o = 11 ∨ o = 12 ∨ o = 13 ∨ o = 14 ∨ o = 15 by omega) with rfl | rfl | rfl | rfl | rfl | rfl | rfl | rfl | rfl | rfl | rfl | rfl | rfl | rfl | rfl | rfl
  all_goals (repeat first | rw [if_neg (by decide)] | rw [if_pos (by decide)])
  all_goals rfl
theorem e_puts {o : Nat} (ho : o ≤ 15) (D : Dat) : f_X12_puts (nn o) D = some (nn (pu o), D) := by
  unfold f_X12_puts f_X12_puts_b21 f_X12_puts_b27 f_X12_puts_b32
  rcases (show o = 0 ∨ o = 1 ∨ o = 2 ∨ o = 3 ∨ o = 4 ∨ o = 5 ∨ o = 6 ∨ o = 7 ∨ o = 8 ∨ o = 9 ∨ o = 10 ∨ o = 11 ∨ o = 12 ∨ o = 13 ∨ o = 14 ∨ o = 15 by omega) with rfl | rfl | rfl | rfl | rfl | rfl | rfl | rfl | rfl | rfl | rfl | rfl | rfl | rfl | rfl | rfl
  all_goals (repeat first | rw [if_neg (by decide)] | rw [if_pos (by decide)])
  all_goals rfl
theorem e_next0 {nu sz : Nat} {o : Nat → Nat} {x : Nat → Int32} {D : Dat} (h : GC nu sz o x) (hK : Km sz o x D) {i : Nat} (hi : i < sz) : f_X12_nextOf (nn i) 0 D = some (if o i ≠ 12 ∧ o i ≠ 15 then nn (i + 1) else -1, D) := by
  obtain ⟨k1, k2, k3⟩ := hK
  have ho := h.2.1 i
  have i1 := nn_in (k := i) (n := 64) (by omega) (by omega)
  unfold f_X12_nextOf f_X12_nextOf_b26 f_X12_nextOf_b33
  simp only [i1, reduceIte]
  rw [nn_nat (by omega), (k3 i hi).1, nn_1]
  by_cases c12 : o i = 12
  · rw [if_pos (show nn (o i) = (12 : Int32) by rw [c12]; rfl), if_neg (by omega)]
  · rw [if_neg (show ¬ nn (o i) = (12 : Int32) from ne_op (b := 12) (by omega) (by omega) c12)]
    by_cases c15 : o i = 15
    · rw [if_pos (show nn (o i) = (15 : Int32) by rw [c15]; rfl), if_neg (by omega)]
    · rw [if_neg (show ¬ nn (o i) = (15 : Int32) from ne_op (b := 15) (by omega) (by omega) c15), if_pos ⟨c12, c15⟩]
theorem e_next1 {nu sz : Nat} {o : Nat → Nat} {x : Nat → Int32} {D : Dat} (h : GC nu sz o x) (hK : Km sz o x D) {i : Nat} (hi : i < sz) : f_X12_nextOf (nn i) 1 D = some (if o i = 11 ∨ o i = 12 then nn (tg (x i)) else -1, D) := by
  obtain ⟨k1, k2, k3⟩ := hK
  have ho := h.2.1 i
  have i1 := nn_in (k := i) (n := 64) (by omega) (by omega)
  unfold f_X12_nextOf f_X12_nextOf_b56 f_X12_nextOf_b66
  rw [if_neg (show ¬ (1 : Int32) = 0 by decide)]
  simp only [i1, reduceIte]
  rw [nn_nat (by omega), (k3 i hi).1, (k3 i hi).2]
  by_cases c11 : o i = 11
  · rw [if_pos (show nn (o i) = (11 : Int32) by rw [c11]; rfl), if_pos (Or.inl c11), ← (h.tgt hi (Or.inl c11)).2]
  · rw [if_neg (show ¬ nn (o i) = (11 : Int32) from ne_op (b := 11) (by omega) (by omega) c11)]
    by_cases c12 : o i = 12
    · rw [if_pos (show nn (o i) = (12 : Int32) by rw [c12]; rfl), if_pos (Or.inr c12), ← (h.tgt hi (Or.inr c12)).2]
    · rw [if_neg (show ¬ nn (o i) = (12 : Int32) from ne_op (b := 12) (by omega) (by omega) c12), if_neg (by omega)]
def Pmh (a _j : Nat) : Prop := a = 245 ∨ a = 246
theorem hI_neg {v : Option Nat} (hb : ∀ k, v = some k → k ≤ 30) : hI v < 0 ↔ v = none := by
  cases v with
  | none => exact ⟨fun _ => rfl, fun _ => by decide⟩
  | some k =>
    have := hb k rfl
    exact ⟨fun q => absurd q (nn_nlt0 (by omega)), fun q => by simp at q⟩
/-- one way -/
theorem lk_way {N i n q : Nat} {hv : Nat → Option Nat} {D : Dat} {w : Int32} (hn : n ≤ 30) (hq : q < 64) (hH : ∀ j, j < 64 → dI D 245 j = hI (hv j)) (hB : Bd hv) (rec : Int32 → Int32 → Int32 → Dat → Option (Int32 × Dat)) :
    (if (0 : Int32) ≤ nn q then (if nn q < 0 ∨ 64 ≤ (nn q).toNatClampNeg then none else (if (dI D 245 (nn q).toNatClampNeg) < 0 then (f_X12_look_b135 N rec (nn i) (nn n) w (nn q) D) else (if nn q < 0 ∨ 64 ≤ (nn q).toNatClampNeg then none else (if (dI D 245 (nn q).toNatClampNeg) = nn n then (f_X12_look_b135 N rec (nn i) (nn n) w (nn q) D) else (some (5, D)))))) else (f_X12_look_b143 N rec (nn i) (nn n) w D)) = if cf hv n q = true then some (5, D) else rec (nn i) (nn n) (w + 1) (sI D 245 q (nn n)) := by
  have i1 := nn_in (k := q) (n := 64) (by omega) (by omega)
  have q0 : (0 : Int32) ≤ nn q := by rw [nn_l, nn_le (by omega) (by omega)]; omega
  obtain ⟨b1, b2⟩ := hI_n1 (v := hv q) (h := n) (fun k hk => hB q k hk)
  have b3 := hI_neg (v := hv q) (fun k hk => hB q k hk)
  unfold f_X12_look_b135 f_X12_look_b143
  simp only [q0, i1, reduceIte]
  rw [nn_nat (by omega), hH q hq]
  unfold cf
  by_cases z : hv q = none
  · rw [if_pos (b3.mpr z), z]
    simp
  · rw [if_neg (fun w => z (b3.mp w))]
    by_cases z2 : hv q = some n
    · rw [if_pos ((b2 hn).mpr z2), z2]
      simp
    · rw [if_neg (fun w => z2 ((b2 hn).mp w))]
      cases e : hv q with
      | none => exact absurd e z
      | some k =>
        have : k ≠ n := fun w => z2 (by rw [e, w])
        simp [this]
theorem lk_91 {N nu sz : Nat} {o : Nat → Nat} {x : Nat → Int32} {hv : Nat → Option Nat} {D : Dat} (hN : 1000 ≤ N) (h : GC nu sz o x) (hK : Km sz o x D) {i n : Nat} (hi : i < sz) (hn : n ≤ 30) (hH : ∀ j, j < 64 → dI D 245 j = hI (hv j)) (hB : Bd hv) :
    ((((o i ≠ 12 ∧ o i ≠ 15) ∧ cf hv n (i + 1) = true) ∨ ((o i = 11 ∨ o i = 12) ∧ cf hv n (tg (x i)) = true)) ∧ ∃ D', f_X12_look_b91 N N (nn i) (nn n) 0 D = some (5, D') ∧ Ch (fun a _ => a = 245) D D')
    ∨ (¬ (((o i ≠ 12 ∧ o i ≠ 15) ∧ cf hv n (i + 1) = true) ∨ ((o i = 11 ∨ o i = 12) ∧ cf hv n (tg (x i)) = true)) ∧ ∃ D', f_X12_look_b91 N N (nn i) (nn n) 0 D = some (0, D') ∧ Ch (fun a _ => a = 245) D D' ∧ ∀ j, j < 64 → dI D' 245 j = hI (if isn o x i j then some n else hv j)) := by
  have hz := h.1.2
  obtain ⟨g, rfl⟩ : ∃ g', N = g' + 3 := ⟨N - 3, by omega⟩
  have s2 : ∀ E : Dat, f_X12_look_b91 (g + 3) (g + 1) (nn i) (nn n) 2 E = some (0, E) := fun E => by
    rw [f_X12_look_b91, if_pos (by decide)]
  have s1 : ∀ (E : Dat) (hw : Nat → Option Nat), Km sz o x E → (∀ j, j < 64 → dI E 245 j = hI (hw j)) → Bd hw → f_X12_look_b91 (g + 3) (g + 2) (nn i) (nn n) 1 E = if o i = 11 ∨ o i = 12 then (if cf hw n (tg (x i)) = true then some (5, E) else some (0, sI E 245 (tg (x i)) (nn n))) else some (0, E) := fun E hw hKE hHE hBE => by
    rw [f_X12_look_b91, if_neg (by decide), e_next1 h hKE hi, bS]
    by_cases c : o i = 11 ∨ o i = 12
    · have t := h.tgt hi c
      simp only [c, reduceIte]
      rw [lk_way (N := g + 3) hn (show tg (x i) < 64 by omega) hHE hBE, show (1 : Int32) + 1 = 2 by decide, s2]
    · simp only [c, reduceIte]
      rw [if_neg (by decide)]
      unfold f_X12_look_b143
      rw [show (1 : Int32) + 1 = 2 by decide, s2]
  have s0 : f_X12_look_b91 (g + 3) (g + 3) (nn i) (nn n) 0 D = if o i ≠ 12 ∧ o i ≠ 15 then (if cf hv n (i + 1) = true then some (5, D) else f_X12_look_b91 (g + 3) (g + 2) (nn i) (nn n) 1 (sI D 245 (i + 1) (nn n))) else f_X12_look_b91 (g + 3) (g + 2) (nn i) (nn n) 1 D := by
    rw [f_X12_look_b91, if_neg (by decide), e_next0 h hK hi, bS]
    by_cases c : o i ≠ 12 ∧ o i ≠ 15
    · have t := h.nxt hi c
      rw [if_pos c, if_pos c]
      dsimp only
      rw [lk_way (N := g + 3) hn (show i + 1 < 64 by omega) hH hB, show (0 : Int32) + 1 = 1 by decide]
    · rw [if_neg c, if_neg c]
      dsimp only
      rw [if_neg (by decide)]
      unfold f_X12_look_b143
      rw [show (0 : Int32) + 1 = 1 by decide]
  have setH : ∀ (E : Dat) (hw : Nat → Option Nat) (q : Nat), (∀ j, j < 64 → dI E 245 j = hI (hw j)) → ∀ j, j < 64 → dI (sI E 245 q (nn n)) 245 j = hI (up hw q n j) := fun E hw q hE j hj => by
    rw [dI_s]
    unfold up
    by_cases z : j = q
    · rw [if_pos ⟨rfl, z⟩, if_pos z]; rfl
    · rw [if_neg (fun w => z w.2), if_neg z]; exact hE j hj
  have upB : ∀ q, Bd (up hv q n) := fun q j k hjk => by
    unfold up at hjk
    by_cases z : j = q
    · rw [if_pos z] at hjk
      have : n = k := by simpa using hjk
      omega
    · rw [if_neg z] at hjk; exact hB j k hjk
  rw [s0]
  by_cases c0 : o i ≠ 12 ∧ o i ≠ 15
  · have t0 := h.nxt hi c0
    rw [if_pos c0]
    by_cases f0 : cf hv n (i + 1) = true
    · rw [if_pos f0]
      exact Or.inl ⟨Or.inl ⟨c0, f0⟩, D, rfl, Ch.rf⟩
    · have ch0 : Ch (fun a _ => a = 245) D (sI D 245 (i + 1) (nn n)) := Ch.sI rfl Ch.rf
      rw [if_neg f0, s1 _ (up hv (i + 1) n) (hK.kept ch0 (fun a k w => by unfold RKm; omega)) (setH D hv (i + 1) hH) (upB _)]
      by_cases c1 : o i = 11 ∨ o i = 12
      · have t1 := h.tgt hi c1
        rw [if_pos c1]
        by_cases f1 : cf (up hv (i + 1) n) n (tg (x i)) = true
        · rw [if_pos f1]
          refine Or.inl ⟨Or.inr ⟨c1, ?_⟩, _, rfl, ch0⟩
          unfold cf up at f1
          by_cases z : tg (x i) = i + 1
          · rw [if_pos z] at f1
            simp at f1
          · rw [if_neg z] at f1
            exact f1
        · rw [if_neg f1]
          refine Or.inr ⟨?_, _, rfl, Ch.sI rfl ch0, fun j hj => ?_⟩
          · intro w
            rcases w with w | w
            · exact f0 w.2
            · refine f1 ?_
              have w2 := w.2
              unfold cf up
              by_cases z : tg (x i) = i + 1
              · rw [z] at w2; exact absurd w2 f0
              · rw [if_neg z]; exact w2
          · rw [setH _ _ _ (setH D hv (i + 1) hH) j hj]
            congr 1
            unfold up isn
            by_cases z1 : j = tg (x i)
            · rw [if_pos z1, if_pos]
              rw [Bool.or_eq_true, decide_eq_true_iff, decide_eq_true_iff]; exact Or.inr ⟨c1, z1⟩
            · rw [if_neg z1]
              by_cases z2 : j = i + 1
              · rw [if_pos z2, if_pos]
                rw [Bool.or_eq_true, decide_eq_true_iff, decide_eq_true_iff]; exact Or.inl ⟨c0.1, c0.2, z2⟩
              · rw [if_neg z2, if_neg]
                rw [Bool.or_eq_true, decide_eq_true_iff, decide_eq_true_iff]; omega
      · rw [if_neg c1]
        refine Or.inr ⟨?_, _, rfl, ch0, fun j hj => ?_⟩
        · intro w
          rcases w with w | w
          · exact f0 w.2
          · exact c1 w.1
        · rw [setH D hv (i + 1) hH j hj]
          congr 1
          unfold up isn
          by_cases z2 : j = i + 1
          · rw [if_pos z2, if_pos]
            rw [Bool.or_eq_true, decide_eq_true_iff, decide_eq_true_iff]; exact Or.inl ⟨c0.1, c0.2, z2⟩
          · rw [if_neg z2, if_neg]
            rw [Bool.or_eq_true, decide_eq_true_iff, decide_eq_true_iff]; omega
  · rw [if_neg c0, s1 D hv hK hH hB]
    by_cases c1 : o i = 11 ∨ o i = 12
    · have t1 := h.tgt hi c1
      rw [if_pos c1]
      by_cases f1 : cf hv n (tg (x i)) = true
      · rw [if_pos f1]
        exact Or.inl ⟨Or.inr ⟨c1, f1⟩, _, rfl, Ch.rf⟩
      · rw [if_neg f1]
        refine Or.inr ⟨?_, _, rfl, Ch.sI rfl Ch.rf, fun j hj => ?_⟩
        · intro w
          rcases w with w | w
          · exact c0 w.1
          · exact f1 w.2
        · rw [setH D hv _ hH j hj]
          congr 1
          unfold up isn
          by_cases z1 : j = tg (x i)
          · rw [if_pos z1, if_pos]
            rw [Bool.or_eq_true, decide_eq_true_iff, decide_eq_true_iff]; exact Or.inr ⟨c1, z1⟩
          · rw [if_neg z1, if_neg]
            rw [Bool.or_eq_true, decide_eq_true_iff, decide_eq_true_iff]; omega
    · rw [if_neg c1]
      refine Or.inr ⟨?_, D, rfl, Ch.rf, fun j hj => ?_⟩
      · intro w
        rcases w with w | w
        · exact c0 w.1
        · exact c1 w.1
      · rw [hH j hj]
        congr 1
        unfold isn
        rw [if_neg]
        rw [Bool.or_eq_true, decide_eq_true_iff, decide_eq_true_iff]; omega
def lkU (lk : Nat → Bool) (i : Nat) : Nat → Bool := fun j => j == i || lk j
theorem mF {N nu sz : Nat} {o : Nat → Nat} {x : Nat → Int32} {hv : Nat → Option Nat} {lk : Nat → Bool} {D : Dat} (hN : 1000 ≤ N) (h : GC nu sz o x) (hK : Km sz o x D) {i k : Nat} (hi : i < sz) (hk : hv i = some k) (hH : Hm hv lk D) (hB : Bd hv) :
    ∃ D', f_X12_look N (nn i) D = some (nn (lookF o x hv i), D') ∧ Ch Pmh D D' ∧ (lookF o x hv i = 0 → Hm (lookH o x hv i) (lkU lk i) D') := by
  have hz := h.1.2
  have hb := hB i k hk
  have i1 := nn_in (k := i) (n := 64) (by omega) (by omega)
  have eg : (hv i).getD 0 = k := by rw [hk]; rfl
  have ho := h.2.1 i
  have ht := tk_le (o i)
  have hp := pu_le (o i)
  have c6 : Ch (fun a _ => a = 246) D (sI D 246 i 1) := Ch.sI rfl Ch.rf
  have hK1 : Km sz o x (sI D 246 i 1) := hK.kept c6 (fun a k w => by unfold RKm; omega)
  have e212 : dI (sI D 246 i 1) 212 i = nn (o i) := (hK1.2.2 i hi).1
  have e245 : dI (sI D 246 i 1) 245 i = nn k := by rw [c6.i (by omega), (hH i (by omega)).1, hk]; rfl
  have base : f_X12_look N (nn i) D = if nn k - nn (tk (o i)) < 0 then some (3, sI D 246 i 1) else if nn k - nn (tk (o i)) + nn (pu (o i)) ≤ 30 then (if nn (o i) = 11 then f_X12_look_b83 N (nn i) (nn k - nn (tk (o i)) + nn (pu (o i))) (sI D 246 i 1) else if nn (o i) = 12 then f_X12_look_b83 N (nn i) (nn k - nn (tk (o i)) + nn (pu (o i))) (sI D 246 i 1) else f_X12_look_b89 N (nn i) (nn k - nn (tk (o i)) + nn (pu (o i))) (sI D 246 i 1)) else some (3, sI D 246 i 1) := by
    unfold f_X12_look f_X12_look_b46
    simp only [i1, reduceIte, b1_1]
    rw [nn_nat (k := i) (by omega)]
    simp only [e212, e245, e_takes ho, e_puts ho, bS]
  have l1 : lookF o x hv i = 3 ∨ lookF o x hv i = 4 ∨ lookF o x hv i = 5 ∨ lookF o x hv i = 0 := by
    unfold lookF
    repeat (first | split | omega)
  have six1 : Ch Pmh D (sI D 246 i 1) := c6.mono (fun a j w => Or.inr w)
  rw [base]
  by_cases c1 : k < tk (o i)
  · have eF : lookF o x hv i = 3 := by unfold lookF; rw [eg, if_pos c1]
    rw [eF, if_pos (nn_sub_neg c1 (by omega))]
    exact ⟨_, rfl, six1, fun w => absurd w (by omega)⟩
  · have e1 : nn k - nn (tk (o i)) = nn (k - tk (o i)) := nn_sub (by omega) (by omega)
    have en : nh o hv i = k - tk (o i) + pu (o i) := by unfold nh; rw [eg]
    rw [e1, if_neg (nn_nlt0 (by omega)), nn_add, ← en]
    by_cases c2 : 30 < nh o hv i
    · have eF : lookF o x hv i = 3 := by unfold lookF; rw [eg, if_neg c1, if_pos c2]
      rw [eF, if_neg (by rw [nn_l, nn_le (by omega) (by omega)]; omega)]
      exact ⟨_, rfl, six1, fun w => absurd w (by omega)⟩
    · rw [if_pos (by rw [nn_l, nn_le (by omega) (by omega)]; omega)]
      have go : ¬ ((o i = 11 ∨ o i = 12) ∧ nh o hv i ≠ 0) → ∃ D', f_X12_look_b89 N (nn i) (nn (nh o hv i)) (sI D 246 i 1) = some (nn (lookF o x hv i), D') ∧ Ch Pmh D D' ∧ (lookF o x hv i = 0 → Hm (lookH o x hv i) (lkU lk i) D') := by
        intro c3
        unfold f_X12_look_b89
        rcases lk_91 (N := N) hN h hK1 hi (n := nh o hv i) (by omega) (hv := hv) (fun j hj => by rw [c6.i (by omega)]; exact (hH j hj).1) hB with ⟨a1, D', a2, a3⟩ | ⟨a1, D', a2, a3, a4⟩
        · have eF : lookF o x hv i = 5 := by
            unfold lookF
            rw [eg, if_neg c1, if_neg c2, if_neg c3, if_pos a1]
          rw [eF]
          exact ⟨D', a2, six1.tr (a3.mono (fun a j w => Or.inl w)), fun w => absurd w (by omega)⟩
        · have eF : lookF o x hv i = 0 := by
            unfold lookF
            rw [eg, if_neg c1, if_neg c2, if_neg c3, if_neg a1]
          rw [eF]
          refine ⟨D', a2, six1.tr (a3.mono (fun a j w => Or.inl w)), fun _ j hj => ⟨a4 j hj, ?_⟩⟩
          rw [a3.i (by omega), dI_s]
          unfold lkU
          by_cases z : j = i
          · rw [if_pos ⟨rfl, z⟩, z]; simp
          · rw [if_neg (fun w => z w.2), (hH j hj).2]
            simp [z]
      have e83 : f_X12_look_b83 N (nn i) (nn (nh o hv i)) (sI D 246 i 1) = if nh o hv i = 0 then f_X12_look_b89 N (nn i) (nn (nh o hv i)) (sI D 246 i 1) else some (4, sI D 246 i 1) := by
        unfold f_X12_look_b83
        by_cases z : nh o hv i = 0
        · rw [if_pos z, if_pos (by rw [z]; decide)]
        · rw [if_neg z, if_neg (show ¬ nn (nh o hv i) ≤ (0 : Int32) from fun w => z (by have := (nn_le (a := nh o hv i) (b := 0) (by omega) (by omega)).mp w; omega))]
      by_cases c3 : o i = 11 ∨ o i = 12
      · have : (if nn (o i) = 11 then f_X12_look_b83 N (nn i) (nn (nh o hv i)) (sI D 246 i 1) else if nn (o i) = 12 then f_X12_look_b83 N (nn i) (nn (nh o hv i)) (sI D 246 i 1) else f_X12_look_b89 N (nn i) (nn (nh o hv i)) (sI D 246 i 1)) = f_X12_look_b83 N (nn i) (nn (nh o hv i)) (sI D 246 i 1) := by
          by_cases z : nn (o i) = 11
          · rw [if_pos z]
          · rw [if_neg z, if_pos (by rcases c3 with w | w; exact absurd (by rw [w]; rfl) z; rw [w]; rfl)]
        rw [this, e83]
        by_cases c4 : nh o hv i = 0
        · rw [if_pos c4]
          exact go (fun w => w.2 c4)
        · have eF : lookF o x hv i = 4 := by unfold lookF; rw [eg, if_neg c1, if_neg c2, if_pos ⟨c3, c4⟩]
          rw [if_neg c4, eF]
          exact ⟨_, rfl, six1, fun w => absurd w (by omega)⟩
      · rw [if_neg (show ¬ nn (o i) = (11 : Int32) from ne_op (b := 11) (by omega) (by omega) (by omega)), if_neg (show ¬ nn (o i) = (12 : Int32) from ne_op (b := 12) (by omega) (by omega) (by omega))]
        exact go (fun w => c3 w.1)
