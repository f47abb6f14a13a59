/-! the machine: what the class has in its cells against what the model has in its own -/
def Cor (a k b j : Nat) : Prop := (a = 182 ∧ k < 26 ∧ b = 259 ∧ j = k) ∨ (a = 182 ∧ 26 ≤ k ∧ k < 234 ∧ b = 260 ∧ j + 26 = k) ∨ (a = 184 ∧ k < 120 ∧ b = 254 ∧ j = k) ∨ (a = 185 ∧ k < 6 ∧ b = 255 ∧ j = k) ∨ (a = 186 ∧ k < 6 ∧ b = 256 ∧ j = k) ∨ (a = 187 ∧ k < 120 ∧ b = 257 ∧ j = k) ∨ (a = 188 ∧ k < 6 ∧ b = 258 ∧ j = k) ∨ (a = 181 ∧ k = 9 ∧ b = 207 ∧ j = 83) ∨ (a = 181 ∧ k = 10 ∧ b = 207 ∧ j = 84)
def SmR (D E : Dat) : Prop := (∀ a k b j, Cor a k b j → dI D a k = dI E b j) ∧ ∀ l, l < 6 → (0 ≤ (dI E 255 l).toInt ∧ (dI E 255 l).toInt ≤ 20) ∧ (0 ≤ (dI E 256 l).toInt ∧ (dI E 256 l).toInt ≤ 20) ∧ (0 ≤ (dI E 258 l).toInt ∧ (dI E 258 l).toInt ≤ 20)
/-- ... with h numbers on the stacks -/
def Sm (h : Nat) (D E : Dat) : Prop := (h ≤ 30 ∧ dI D 181 2 = nn h ∧ dI E 207 82 = nn h) ∧ (∀ i, i < h → dI D 183 i = dI E 261 i) ∧ SmR D E
def PmC (a k : Nat) : Prop := (a = 181 ∧ (k = 2 ∨ k = 10)) ∨ a = 182 ∨ a = 183 ∨ a = 186 ∨ a = 187 ∨ a = 188
def PmM (a k : Nat) : Prop := (a = 207 ∧ (k = 82 ∨ k = 83 ∨ k = 84)) ∨ (256 ≤ a ∧ a ≤ 261)
/-- no ending, or one that is no 'goes on' -/
def En (D D' : Dat) : Prop := dI D' 181 10 = dI D 181 10 ∨ 0 ≤ (dI D' 181 10).toInt
def Cm (D D' : Dat) : Prop := Ch PmC D D' ∧ En D D'
theorem Cm.rf {D : Dat} : Cm D D := ⟨Ch.rf, Or.inl rfl⟩
theorem Cm.tr {D D' D'' : Dat} (h : Cm D D') (g : Cm D' D'') : Cm D D'' := ⟨h.1.tr g.1, by
  rcases g.2 with q | q
  · rcases h.2 with r | r
    · exact Or.inl (q.trans r)
    · exact Or.inr (by rw [q]; exact r)
  · exact Or.inr q⟩
theorem Cm.sI {D D' : Dat} {a k : Nat} {v : Int32} (hp : PmC a k) (hn : ¬ (a = 181 ∧ k = 10)) (h : Cm D D') : Cm D (sI D' a k v) := ⟨Ch.sI hp h.1, by
  unfold En
  rw [dI_s, if_neg (fun q => hn ⟨q.1.symm, q.2.symm⟩)]
  exact h.2⟩
theorem cor_v {k : Nat} (h : k < 26) : Cor 182 k 259 k := Or.inl ⟨rfl, h, rfl, rfl⟩
theorem cor_r {j : Nat} (h : j < 208) : Cor 182 (26 + j) 260 j := Or.inr (Or.inl ⟨rfl, Nat.le_add_right _ _, by omega, rfl, Nat.add_comm _ _⟩)
theorem cor_i {k : Nat} (h : k < 120) : Cor 184 k 254 k := Or.inr (Or.inr (Or.inl ⟨rfl, h, rfl, rfl⟩))
theorem cor_f {k : Nat} (h : k < 6) : Cor 185 k 255 k := Or.inr (Or.inr (Or.inr (Or.inl ⟨rfl, h, rfl, rfl⟩)))
theorem cor_e {k : Nat} (h : k < 6) : Cor 186 k 256 k := Or.inr (Or.inr (Or.inr (Or.inr (Or.inl ⟨rfl, h, rfl, rfl⟩))))
theorem cor_o {k : Nat} (h : k < 120) : Cor 187 k 257 k := Or.inr (Or.inr (Or.inr (Or.inr (Or.inr (Or.inl ⟨rfl, h, rfl, rfl⟩)))))
theorem cor_w {k : Nat} (h : k < 6) : Cor 188 k 258 k := Or.inr (Or.inr (Or.inr (Or.inr (Or.inr (Or.inr (Or.inl ⟨rfl, h, rfl, rfl⟩))))))
theorem cor_u : Cor 181 9 207 83 := Or.inr (Or.inr (Or.inr (Or.inr (Or.inr (Or.inr (Or.inr (Or.inl ⟨rfl, rfl, rfl, rfl⟩)))))))
theorem cor_n : Cor 181 10 207 84 := Or.inr (Or.inr (Or.inr (Or.inr (Or.inr (Or.inr (Or.inr (Or.inr ⟨rfl, rfl, rfl, rfl⟩)))))))
theorem SmR.kept {P Q : Nat → Nat → Prop} {D D' E E' : Dat} (h : SmR D E) (hD : Ch P D D') (hE : Ch Q E E') (hP : ∀ a k b j, Cor a k b j → ¬ P a k ∧ ¬ Q b j) : SmR D' E' := by
  refine ⟨fun a k b j hc => ?_, fun l hl => ?_⟩
  · rw [hD.i (hP a k b j hc).1, hE.i (hP a k b j hc).2]; exact h.1 a k b j hc
  · rw [hE.i (hP 185 l 255 l (cor_f hl)).2, hE.i (hP 186 l 256 l (cor_e hl)).2, hE.i (hP 188 l 258 l (cor_w hl)).2]
    exact h.2 l hl
theorem Cor.inj {a k b j a' k' b' j' : Nat} (h : Cor a k b j) (h' : Cor a' k' b' j') : (a' = a ∧ k' = k) ↔ (b' = b ∧ j' = j) := by
  unfold Cor at h h'
  omega
theorem SmR.set {D E : Dat} {a k b j : Nat} {v : Int32} (h : SmR D E) (hc : Cor a k b j) (hb : b = 255 ∨ b = 256 ∨ b = 258 → 0 ≤ v.toInt ∧ v.toInt ≤ 20) : SmR (sI D a k v) (sI E b j v) := by
  refine ⟨fun a' k' b' j' hc' => ?_, fun l hl => ?_⟩
  · rw [dI_s, dI_s]
    by_cases q : a' = a ∧ k' = k
    · rw [if_pos q, if_pos ((Cor.inj hc hc').mp q)]
    · rw [if_neg q, if_neg (fun r => q ((Cor.inj hc hc').mpr r))]
      exact h.1 a' k' b' j' hc'
  · have key : ∀ b', (b' = 255 ∨ b' = 256 ∨ b' = 258) → (0 ≤ (dI E b' l).toInt ∧ (dI E b' l).toInt ≤ 20) → 0 ≤ (dI (sI E b j v) b' l).toInt ∧ (dI (sI E b j v) b' l).toInt ≤ 20 := by
      intro b' hb' h0
      rw [dI_s]
      by_cases q : b' = b ∧ l = j
      · rw [if_pos q]; exact hb (by rw [← q.1]; exact hb')
      · rw [if_neg q]; exact h0
    obtain ⟨h1, h2, h3⟩ := h.2 l hl
    exact ⟨key 255 (Or.inl rfl) h1, key 256 (Or.inr (Or.inl rfl)) h2, key 258 (Or.inr (Or.inr rfl)) h3⟩
theorem Sm.set {h : Nat} {D E : Dat} {a k b j : Nat} {v : Int32} (hs : Sm h D E) (hc : Cor a k b j) (hb : b = 255 ∨ b = 256 ∨ b = 258 → 0 ≤ v.toInt ∧ v.toInt ≤ 20) : Sm h (sI D a k v) (sI E b j v) := by
  obtain ⟨⟨h1, h2, h3⟩, h4, h5⟩ := hs
  have c := hc
  unfold Cor at c
  refine ⟨⟨h1, ?_, ?_⟩, fun i hi => ?_, h5.set hc hb⟩
  · rw [dI_s, if_neg (by omega)]; exact h2
  · rw [dI_s, if_neg (by omega)]; exact h3
  · rw [dI_s, if_neg (by omega), dI_s, if_neg (by omega)]; exact h4 i hi
theorem sim_push {h : Nat} {D E : Dat} (v : Int32) (hs : Sm h D E) (hh : h < 30) : ∃ D' E', f_X3_push v D = some D' ∧ f_X12_give v E = some E' ∧ Sm (h + 1) D' E' ∧ Cm D D' ∧ Ch PmM E E' := by
  obtain ⟨⟨h1, h2, h3⟩, h4, h5⟩ := hs
  have q1 : ¬ 30 ≤ nn h := by rw [nn_l, nn_le (by omega) (by omega)]; omega
  have i1 := nn_in (k := h) (n := 30) (by omega) (by omega)
  have i2 := nn_in (k := h) (n := 260) (by omega) (by omega)
  have cD : Ch (fun a k => a = 183 ∨ (a = 181 ∧ k = 2)) D (sI (sI D 183 h v) 181 2 (nn (h + 1))) := Ch.sI (Or.inr ⟨rfl, rfl⟩) (Ch.sI (Or.inl rfl) Ch.rf)
  have cE : Ch (fun a k => a = 261 ∨ (a = 207 ∧ k = 82)) E (sI (sI E 261 h v) 207 82 (nn (h + 1))) := Ch.sI (Or.inr ⟨rfl, rfl⟩) (Ch.sI (Or.inl rfl) Ch.rf)
  refine ⟨sI (sI D 183 h v) 181 2 (nn (h + 1)), sI (sI E 261 h v) 207 82 (nn (h + 1)), ?_, ?_, ⟨⟨by omega, ?_, ?_⟩, fun i hi => ?_, ?_⟩, ?_, ?_⟩
  · unfold f_X3_push f_X3_push_b29
    rw [h2, if_neg q1, if_neg i1, nn_nat (by omega), dI_s, if_neg (by omega), h2, nn_1]
  · unfold f_X12_give
    rw [h3, if_neg i2, nn_nat (by omega), dI_s, if_neg (by omega), h3, nn_1]
  · rw [dI_s, if_pos ⟨rfl, rfl⟩]
  · rw [dI_s, if_pos ⟨rfl, rfl⟩]
  · have x1 : dI (sI (sI D 183 h v) 181 2 (nn (h + 1))) 183 i = dI (sI D 183 h v) 183 i := by rw [dI_s, if_neg (by omega)]
    have x2 : dI (sI (sI E 261 h v) 207 82 (nn (h + 1))) 261 i = dI (sI E 261 h v) 261 i := by rw [dI_s, if_neg (by omega)]
    rw [x1, x2, dI_s, dI_s]
    by_cases q : i = h
    · rw [if_pos ⟨rfl, q⟩, if_pos ⟨rfl, q⟩]
    · rw [if_neg (fun r => q r.2), if_neg (fun r => q r.2)]
      exact h4 i (by omega)
  · exact h5.kept cD cE (fun a k b j hc => by unfold Cor at hc; omega)
  · exact ⟨cD.mono (fun a k q => by unfold PmC; omega), Or.inl (cD.i (by omega))⟩
  · exact cE.mono (fun a k q => by unfold PmM; omega)
theorem sim_pop {h : Nat} {D E : Dat} (hs : Sm (h + 1) D E) : ∃ v D' E', f_X3_pop D = some (v, D') ∧ f_X12_pop E = some (v, E') ∧ Sm h D' E' ∧ Cm D D' ∧ Ch PmM E E' := by
  obtain ⟨⟨h1, h2, h3⟩, h4, h5⟩ := hs
  have q1 : 0 < nn (h + 1) := by rw [nn_l, nn_lt (by omega) (by omega)]; show 0 < _; omega
  have i1 := nn_in (k := h) (n := 30) (by omega) (by omega)
  have i2 := nn_in (k := h) (n := 260) (by omega) (by omega)
  have e1 : nn (h + 1) - (1 : Int32) = nn h := nn_sub (a := h + 1) (b := 1) (by omega) (by omega)
  have cD : Ch (fun a k => a = 181 ∧ k = 2) D (sI D 181 2 (nn h)) := Ch.sI ⟨rfl, rfl⟩ Ch.rf
  have cE : Ch (fun a k => a = 207 ∧ k = 82) E (sI E 207 82 (nn h)) := Ch.sI ⟨rfl, rfl⟩ Ch.rf
  refine ⟨dI D 183 h, sI D 181 2 (nn h), sI E 207 82 (nn h), ?_, ?_, ⟨⟨by omega, ?_, ?_⟩, fun i hi => ?_, ?_⟩, ?_, ?_⟩
  · unfold f_X3_pop
    have r1 : dI (sI D 181 2 (nn h)) 181 2 = nn h := by rw [dI_s, if_pos ⟨rfl, rfl⟩]
    rw [h2, if_pos q1, e1, r1, if_neg i1, nn_nat (by omega), dI_s, if_neg (by omega)]
  · unfold f_X12_pop
    have r1 : dI (sI E 207 82 (nn h)) 207 82 = nn h := by rw [dI_s, if_pos ⟨rfl, rfl⟩]
    rw [h3, e1, r1, if_neg i2, nn_nat (by omega), dI_s, if_neg (by omega), h4 h (by omega)]
  · rw [dI_s, if_pos ⟨rfl, rfl⟩]
  · rw [dI_s, if_pos ⟨rfl, rfl⟩]
  · rw [dI_s, if_neg (by omega), dI_s, if_neg (by omega)]; exact h4 i (by omega)
  · exact h5.kept cD cE (fun a k b j hc => by unfold Cor at hc; omega)
  · exact ⟨cD.mono (fun a k q => by unfold PmC; omega), Or.inl (cD.i (by omega))⟩
  · exact cE.mono (fun a k q => by unfold PmM; omega)
/-- the numbers of operations: how many they take and put -/
def tk (o : Nat) : Nat := if o = 4 ∨ (5 ≤ o ∧ o ≤ 10) then 2 else if o = 2 ∨ o = 3 ∨ o = 11 ∨ o = 14 then 1 else 0
def pu (o : Nat) : Nat := if o = 0 ∨ o = 1 ∨ o = 3 ∨ (5 ≤ o ∧ o ≤ 10) ∨ o = 13 then 1 else 0
/-- x fits an operation that isn't a jump or an end -/
def fitx (o : Nat) (x : Int32) : Prop := (1 ≤ o ∧ o ≤ 4 → 0 ≤ x.toInt ∧ x.toInt < 26) ∧ (o = 13 ∨ o = 14 → 0 ≤ x.toInt ∧ x.toInt < 6)
theorem e_X3_setCell {k : Nat} (h : k < 234) (v : Int32) (D : Dat) : f_X3_setCell (nn k) v D = some (sI D 182 k v) := by
  unfold f_X3_setCell f_X3_setCell_b18
  have c1 : ¬ 234 ≤ nn k := by rw [nn_l, nn_le (by omega) (by omega)]; omega
  have i1 := nn_in (k := k) (n := 234) (by omega) (by omega)
  rw [if_neg (nn_nlt0 (by omega)), if_neg c1, if_neg i1, nn_nat (by omega)]
theorem sim_input {h k : Nat} {D E : Dat} (hs : Sm h D E) (hk : k < 6) : ∃ v D' E', f_X3_nextInput (nn k) D = some (v, D') ∧ f_X12_input (nn k) E = some (v, E') ∧ Sm h D' E' ∧ Cm D D' ∧ Ch PmM E E' := by
  have hR := hs.2.2
  obtain ⟨⟨a1, a2⟩, ⟨b1, b2⟩, -⟩ := hR.2 k hk
  obtain ⟨f, hf, ef⟩ := nn_of a1
  obtain ⟨e, he, ee⟩ := nn_of b1
  rw [ef, nn_int hf] at a2
  rw [ee, nn_int he] at b2
  have d1 : dI D 185 k = nn f := (hR.1 185 k 255 k (cor_f hk)).trans ef
  have d2 : dI D 186 k = nn e := (hR.1 186 k 256 k (cor_e hk)).trans ee
  have i1 := nn_in (k := k) (n := 6) (by omega) (by omega)
  have n1 : (nn k).toNatClampNeg = k := nn_nat (by omega)
  by_cases q : e < f
  · have q1 : nn e < nn f := (nn_lt he hf).mpr q
    have e9 : nn k * (20 : Int32) + nn e = nn (20 * k + e) := by rw [nn_l, nn_mul, nn_add, Nat.mul_comm]
    have i2 := nn_in (k := 20 * k + e) (n := 120) (by omega) (by omega)
    refine ⟨dI D 184 (20 * k + e), sI D 186 k (nn (e + 1)), sI E 256 k (nn (e + 1)), ?_, ?_, hs.set (cor_e hk) (fun _ => by rw [nn_int (by omega)]; omega), Cm.sI (by unfold PmC; omega) (by omega) Cm.rf, Ch.sI (by unfold PmM; omega) Ch.rf⟩
    · unfold f_X3_nextInput
      simp only [isMark_yes hk, bS, n10, i1, reduceIte]
      rw [n1, d1, d2, if_pos q1, e9, if_neg i2, nn_1, nn_nat (by omega)]
    · unfold f_X12_input
      have r1 : dI (sI E 256 k (nn (e + 1))) 256 k = nn (e + 1) := by rw [dI_s, if_pos ⟨rfl, rfl⟩]
      have e8 : (20 : Int32) * nn k + nn (e + 1) - (1 : Int32) = nn (20 * k + e) := by
        rw [nn_l 20, nn_mul, nn_add]
        exact nn_sub (a := 20 * k + (e + 1)) (b := 1) (by omega) (by omega)
      simp only [i1, reduceIte]
      rw [n1, ef, ee, if_pos q1, nn_1, r1, e8, if_neg i2, nn_nat (by omega), dI_s, if_neg (by omega), ← hR.1 184 (20 * k + e) 254 (20 * k + e) (cor_i (by omega))]
  · have q1 : ¬ nn e < nn f := by rw [nn_lt he hf]; exact q
    refine ⟨0, D, E, ?_, ?_, hs, Cm.rf, Ch.rf⟩
    · unfold f_X3_nextInput f_X3_nextInput_b22
      simp only [isMark_yes hk, bS, n10, i1, reduceIte]
      rw [n1, d1, d2, if_neg q1]
    · unfold f_X12_input
      simp only [i1, reduceIte]
      rw [n1, ef, ee, if_neg q1]
theorem sim_end {h : Nat} {D E : Dat} (hs : Sm h D E) (v : Int32) : Sm h (sI D 181 10 v) (sI E 207 84 v) := hs.set cor_n (fun q => absurd q (by decide))
theorem chE1 {D D' : Dat} {v : Int32} (h : Cm D D') (hv : 0 ≤ v.toInt) : Cm D (sI D' 181 10 v) := ⟨Ch.sI (by unfold PmC; omega) h.1, Or.inr (by rw [dI_s, if_pos ⟨rfl, rfl⟩]; exact hv)⟩
theorem chE2 {D D' : Dat} {v : Int32} (h : Ch PmM D D') : Ch PmM D (sI D' 207 84 v) := Ch.sI (by unfold PmM; omega) h
