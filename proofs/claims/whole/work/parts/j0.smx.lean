/-! the machine, with s numbers more on the class's stack, below what both hold -/
def Smx (s : Nat) (bs : Nat → Int32) (h : Nat) (D E : Dat) : Prop := (h + s ≤ 30 ∧ dI D 181 2 = nn (h + s) ∧ dI E 207 82 = nn h) ∧ (∀ i, i < h → dI D 183 (i + s) = dI E 261 i) ∧ SmR D E ∧ ∀ i, i < s → dI D 183 i = bs i
theorem Smx.set {s h : Nat} {bs : Nat → Int32} {D E : Dat} {a k b j : Nat} {v : Int32} (hs : Smx s bs h D E) (hc : Cor a k b j) (hb : b = 255 ∨ b = 256 ∨ b = 258 → 0 ≤ v.toInt ∧ v.toInt ≤ 20) : Smx s bs h (sI D a k v) (sI E b j v) := by
  obtain ⟨⟨h1, h2, h3⟩, h4, h5, h6⟩ := hs
  have c := hc
  unfold Cor at c
  refine ⟨⟨h1, ?_, ?_⟩, fun i hi => ?_, h5.set hc hb, fun i hi => ?_⟩
  · rw [dI_s, if_neg (by omega)]; exact h2
  · rw [dI_s, if_neg (by omega)]; exact h3
  · rw [dI_s, if_neg (by omega), dI_s, if_neg (by omega)]; exact h4 i hi
  · rw [dI_s, if_neg (by omega)]; exact h6 i hi
theorem smx_push {s h : Nat} {bs : Nat → Int32} {D E : Dat} (v : Int32) (hs : Smx s bs h D E) (hh : h + s < 30) : ∃ D' E', f_X3_push v D = some D' ∧ f_X12_give v E = some E' ∧ Smx s bs (h + 1) D' E' ∧ Cm D D' ∧ Ch PmM E E' := by
  obtain ⟨⟨h1, h2, h3⟩, h4, h5, h6⟩ := hs
  have q1 : ¬ 30 ≤ nn (h + s) := by rw [nn_l, nn_le (by omega) (by omega)]; omega
  have i1 := nn_in (k := h + s) (n := 30) (by omega) (by omega)
  have i2 := nn_in (k := h) (n := 260) (by omega) (by omega)
  have cD : Ch (fun a k => (a = 183 ∧ k = h + s) ∨ (a = 181 ∧ k = 2)) D (sI (sI D 183 (h + s) v) 181 2 (nn (h + s + 1))) := Ch.sI (Or.inr ⟨rfl, rfl⟩) (Ch.sI (Or.inl ⟨rfl, rfl⟩) Ch.rf)
  have cE : Ch (fun a k => a = 261 ∨ (a = 207 ∧ k = 82)) E (sI (sI E 261 h v) 207 82 (nn (h + 1))) := Ch.sI (Or.inr ⟨rfl, rfl⟩) (Ch.sI (Or.inl rfl) Ch.rf)
  refine ⟨sI (sI D 183 (h + s) v) 181 2 (nn (h + s + 1)), sI (sI E 261 h v) 207 82 (nn (h + 1)), ?_, ?_, ⟨⟨by omega, ?_, ?_⟩, fun i hi => ?_, ?_, fun i hi => ?_⟩, ?_, ?_⟩
  · unfold f_X3_push f_X3_push_b29
    rw [h2, if_neg q1, if_neg i1, nn_nat (by omega), dI_s, if_neg (by omega), h2, nn_1]
  · unfold f_X12_give
    rw [h3, if_neg i2, nn_nat (by omega), dI_s, if_neg (by omega), h3, nn_1]
  · rw [dI_s, if_pos ⟨rfl, rfl⟩, show h + s + 1 = h + 1 + s by omega]
  · rw [dI_s, if_pos ⟨rfl, rfl⟩]
  · have x1 : dI (sI (sI D 183 (h + s) v) 181 2 (nn (h + s + 1))) 183 (i + s) = dI (sI D 183 (h + s) v) 183 (i + s) := by rw [dI_s, if_neg (by omega)]
    have x2 : dI (sI (sI E 261 h v) 207 82 (nn (h + 1))) 261 i = dI (sI E 261 h v) 261 i := by rw [dI_s, if_neg (by omega)]
    rw [x1, x2, dI_s, dI_s]
    by_cases q : i = h
    · rw [if_pos ⟨rfl, by rw [q]⟩, if_pos ⟨rfl, q⟩]
    · rw [if_neg (fun r => q (by omega)), if_neg (fun r => q r.2)]
      exact h4 i (by omega)
  · exact h5.kept cD cE (fun a k b j hc => by unfold Cor at hc; omega)
  · rw [cD.i (by omega)]; exact h6 i hi
  · exact ⟨cD.mono (fun a k q => by unfold PmC; omega), Or.inl (cD.i (by omega))⟩
  · exact cE.mono (fun a k q => by unfold PmM; omega)
theorem smx_pop {s h : Nat} {bs : Nat → Int32} {D E : Dat} (hs : Smx s bs (h + 1) D E) : ∃ v D' E', f_X3_pop D = some (v, D') ∧ f_X12_pop E = some (v, E') ∧ Smx s bs h D' E' ∧ Cm D D' ∧ Ch PmM E E' := by
  obtain ⟨⟨h1, h2, h3⟩, h4, h5, h6⟩ := hs
  have q1 : 0 < nn (h + 1 + s) := by rw [nn_l, nn_lt (by omega) (by omega)]; show 0 < _; omega
  have i1 := nn_in (k := h + s) (n := 30) (by omega) (by omega)
  have i2 := nn_in (k := h) (n := 260) (by omega) (by omega)
  have e0 : nn (h + 1 + s) - (1 : Int32) = nn (h + s) := by
    have := nn_sub (a := h + 1 + s) (b := 1) (by omega) (by omega)
    rw [show h + 1 + s - 1 = h + s by omega] at this
    exact this
  have e1 : nn (h + 1) - (1 : Int32) = nn h := nn_sub (a := h + 1) (b := 1) (by omega) (by omega)
  have cD : Ch (fun a k => a = 181 ∧ k = 2) D (sI D 181 2 (nn (h + s))) := Ch.sI ⟨rfl, rfl⟩ Ch.rf
  have cE : Ch (fun a k => a = 207 ∧ k = 82) E (sI E 207 82 (nn h)) := Ch.sI ⟨rfl, rfl⟩ Ch.rf
  refine ⟨dI D 183 (h + s), sI D 181 2 (nn (h + s)), sI E 207 82 (nn h), ?_, ?_, ⟨⟨by omega, ?_, ?_⟩, fun i hi => ?_, ?_, fun i hi => ?_⟩, ?_, ?_⟩
  · unfold f_X3_pop
    have r1 : dI (sI D 181 2 (nn (h + s))) 181 2 = nn (h + s) := by rw [dI_s, if_pos ⟨rfl, rfl⟩]
    rw [h2, if_pos q1, e0, r1, if_neg i1, nn_nat (by omega), dI_s, if_neg (by omega)]
  · unfold f_X12_pop
    have r1 : dI (sI E 207 82 (nn h)) 207 82 = nn h := by rw [dI_s, if_pos ⟨rfl, rfl⟩]
    rw [h3, e1, r1, if_neg i2, nn_nat (by omega), dI_s, if_neg (by omega), h4 h (by omega)]
  · rw [dI_s, if_pos ⟨rfl, rfl⟩]
  · rw [dI_s, if_pos ⟨rfl, rfl⟩]
  · rw [dI_s, if_neg (by omega), dI_s, if_neg (by omega)]; exact h4 i (by omega)
  · exact h5.kept cD cE (fun a k b j hc => by unfold Cor at hc; omega)
  · rw [dI_s, if_neg (by omega)]; exact h6 i hi
  · exact ⟨cD.mono (fun a k q => by unfold PmC; omega), Or.inl (cD.i (by omega))⟩
  · exact cE.mono (fun a k q => by unfold PmM; omega)
theorem smx_end {s h : Nat} {bs : Nat → Int32} {D E : Dat} (hs : Smx s bs h D E) (v : Int32) : Smx s bs h (sI D 181 10 v) (sI E 207 84 v) := hs.set cor_n (fun q => absurd q (by decide))
theorem smx_input {s h k : Nat} {bs : Nat → Int32} {D E : Dat} (hs : Smx s bs h D E) (hk : k < 6) : ∃ v D' E', f_X3_nextInput (nn k) D = some (v, D') ∧ f_X12_input (nn k) E = some (v, E') ∧ Smx s bs h D' E' ∧ Cm D D' ∧ Ch PmM E E' := by
  have hR := hs.2.2.1
  obtain ⟨⟨a1, a2⟩, ⟨b1, b2⟩, -⟩ := hR.2 k hk
  obtain ⟨f, hf, ef⟩ := nn_of a1
  obtain ⟨e, he, ee⟩ := nn_of b1
  rw [ef, nn_int hf] at a2
  rw [ee, nn_int he] at b2
  have d1 : dI D 185 k = nn f := (hR.1 185 k 255 k (cor_f hk)).trans ef
  have d2 : dI D 186 k = nn e := (hR.1 186 k 256 k (cor_e hk)).trans ee
  have i1 := nn_in (k := k) (n := 6) (by omega) (by omega)
  have n1 : (nn k).toNatClampNeg = k := nn_nat (by omega)
  by_cases q : e < f
  · have q1 : nn e < nn f := (nn_lt he hf).mpr q
    have e9 : nn k * (20 : Int32) + nn e = nn (20 * k + e) := by rw [nn_l, nn_mul, nn_add, Nat.mul_comm]
    have i2 := nn_in (k := 20 * k + e) (n := 120) (by omega) (by omega)
    refine ⟨dI D 184 (20 * k + e), sI D 186 k (nn (e + 1)), sI E 256 k (nn (e + 1)), ?_, ?_, hs.set (cor_e hk) (fun _ => by rw [nn_int (by omega)]; omega), Cm.sI (by unfold PmC; omega) (by omega) Cm.rf, Ch.sI (by unfold PmM; omega) Ch.rf⟩
    · unfold f_X3_nextInput
      simp only [isMark_yes hk, bS, n10, i1, reduceIte]
      rw [n1, d1, d2, if_pos q1, e9, if_neg i2, nn_1, nn_nat (by omega)]
    · unfold f_X12_input
      have r1 : dI (sI E 256 k (nn (e + 1))) 256 k = nn (e + 1) := by rw [dI_s, if_pos ⟨rfl, rfl⟩]
      have e8 : (20 : Int32) * nn k + nn (e + 1) - (1 : Int32) = nn (20 * k + e) := by
        rw [nn_l 20, nn_mul, nn_add]
        exact nn_sub (a := 20 * k + (e + 1)) (b := 1) (by omega) (by omega)
      simp only [i1, reduceIte]
      rw [n1, ef, ee, if_pos q1, nn_1, r1, e8, if_neg i2, nn_nat (by omega), dI_s, if_neg (by omega), ← hR.1 184 (20 * k + e) 254 (20 * k + e) (cor_i (by omega))]
  · have q1 : ¬ nn e < nn f := by rw [nn_lt he hf]; exact q
    refine ⟨0, D, E, ?_, ?_, hs, Cm.rf, Ch.rf⟩
    · unfold f_X3_nextInput f_X3_nextInput_b22
      simp only [isMark_yes hk, bS, n10, i1, reduceIte]
      rw [n1, d1, d2, if_neg q1]
    · unfold f_X12_input
      simp only [i1, reduceIte]
      rw [n1, ef, ee, if_neg q1]
theorem smx_write {s h k : Nat} {bs : Nat → Int32} {D E : Dat} (hs : Smx s bs (h + 1) D E) (hk : k < 6) : ∃ D' E', ((f_X3_pop D).bind (fun p38 => (f_X3_write (nn k) p38.1 p38.2).bind (fun p40 => f_X3_perform_b173 p40))) = some D' ∧ f_X12_write (nn k) E = some E' ∧ Smx s bs h D' E' ∧ Cm D D' ∧ Ch PmM E E' := by
  obtain ⟨v, D1, E1, p1, p2, s1, g1, g2⟩ := smx_pop hs
  have hR := s1.2.2.1
  obtain ⟨-, -, a1, a2⟩ := hR.2 k hk
  obtain ⟨f, hf, ef⟩ := nn_of a1
  rw [ef, nn_int hf] at a2
  have d1 : dI D1 188 k = nn f := (hR.1 188 k 258 k (cor_w hk)).trans ef
  have i1 := nn_in (k := k) (n := 6) (by omega) (by omega)
  have n1 : (nn k).toNatClampNeg = k := nn_nat (by omega)
  rw [p1, bS]
  unfold f_X12_write f_X3_write
  simp only [f_X12_write_b51, f_X3_write_b18, f_X3_write_b53, f_X3_perform_b173, p2, bS, isMark_yes hk, n10, i1, reduceIte]
  rw [n1, d1, ef]
  by_cases q : f < 20
  · have q1 : nn f < 20 := by rw [nn_l, nn_lt (by omega) (by omega)]; exact q
    have q2 : ¬ nn f = 20 := by rw [nn_l, nn_eq (by omega) (by omega)]; omega
    have e9 : nn k * (20 : Int32) + nn f = nn (20 * k + f) := by rw [nn_l, nn_mul, nn_add, Nat.mul_comm]
    have e8 : (20 : Int32) * nn k + nn f = nn (20 * k + f) := by rw [nn_l, nn_mul, nn_add]
    have i2 := nn_in (k := 20 * k + f) (n := 120) (by omega) (by omega)
    have r1 : dI (sI D1 187 (20 * k + f) v) 188 k = nn f := by rw [dI_s, if_neg (by omega)]; exact d1
    have r2 : dI (sI E1 257 (20 * k + f) v) 258 k = nn f := by rw [dI_s, if_neg (by omega)]; exact ef
    refine ⟨sI (sI D1 187 (20 * k + f) v) 188 k (nn (f + 1)), sI (sI E1 257 (20 * k + f) v) 258 k (nn (f + 1)), ?_, ?_, ?_, ?_, ?_⟩
    · rw [if_pos q1, e9, if_neg i2, nn_nat (by omega), r1, nn_1, bS]
    · rw [if_neg q2, e8, if_neg i2, nn_nat (by omega), r2, nn_1]
    · exact (s1.set (cor_o (k := 20 * k + f) (by omega)) (fun q => absurd q (by decide))).set (cor_w hk) (fun _ => by rw [nn_int (by omega)]; omega)
    · exact Cm.sI (by unfold PmC; omega) (by omega) (Cm.sI (by unfold PmC; omega) (by omega) g1)
    · exact Ch.sI (by unfold PmM; omega) (Ch.sI (by unfold PmM; omega) g2)
  · have q1 : ¬ nn f < 20 := by rw [nn_l, nn_lt (by omega) (by omega)]; exact q
    have q2 : nn f = 20 := by rw [show f = 20 by omega]; rfl
    refine ⟨sI D1 181 10 4, sI E1 207 84 4, ?_, ?_, smx_end s1 4, chE1 g1 (by decide), chE2 g2⟩
    · rw [if_neg q1, bS]
    · rw [if_pos q2]
theorem smx_reckon {s h o : Nat} {bs : Nat → Int32} {D E : Dat} (hs : Smx s bs (h + 2) D E) (ho : 5 ≤ o ∧ o ≤ 10) : ∃ D' E', f_X3_perform_b160 (nn o) D = some D' ∧ f_X12_compute (nn o) E = some E' ∧ (Smx s bs (h + 1) D' E' ∨ (Smx s bs h D' E' ∧ ¬ dI D' 181 10 = -1)) ∧ Cm D D' ∧ Ch PmM E E' := by
  obtain ⟨q, D1, E1, p1, p2, s1, g1, g2⟩ := smx_pop hs
  obtain ⟨p, D2, E2, p3, p4, s2, g3, g4⟩ := smx_pop s1
  have g5 := g1.tr g3
  have g6 := g2.tr g4
  have fin : ∀ v : Int32, ∃ D' E', f_X3_push v D2 = some D' ∧ f_X12_give v E2 = some E' ∧ Smx s bs (h + 1) D' E' ∧ Cm D D' ∧ Ch PmM E E' := fun v => by
    obtain ⟨D', E', a1, a2, a3, a4, a5⟩ := smx_push v s2 (by have := hs.1.1; omega)
    exact ⟨D', E', a1, a2, a3, g5.tr a4, g6.tr a5⟩
  unfold f_X3_perform_b160 f_X3_reckon f_X12_compute
  simp only [f_X3_perform_b173, f_X3_reckon_b129, f_X3_reckon_b81, f_X3_reckon_b101, f_X3_reckon_b110, f_X12_compute_b127, f_X12_compute_b107, f_X12_compute_b124, p1, p2, p3, p4, bS]
  rcases (show o = 5 ∨ o = 6 ∨ o = 7 ∨ o = 8 ∨ o = 9 ∨ o = 10 by omega) with rfl | rfl | rfl | rfl | rfl | rfl
  · obtain ⟨D', E', a1, a2, a3, a4, a5⟩ := fin (p + q)
    have e5 : nn 5 = (5 : Int32) := rfl
    exact ⟨D', E', by simp only [e5, reduceIte, a1, bS], by simp only [e5, reduceIte, a2, bS], Or.inl a3, a4, a5⟩
  · obtain ⟨D', E', a1, a2, a3, a4, a5⟩ := fin (p - q)
    have e5 : nn 6 = (6 : Int32) := rfl
    have f1 : ((6 : Int32) = 5) = False := by decide
    exact ⟨D', E', by simp only [e5, f1, reduceIte, a1, bS], by simp only [e5, f1, reduceIte, a2, bS], Or.inl a3, a4, a5⟩
  · obtain ⟨D', E', a1, a2, a3, a4, a5⟩ := fin (p * q)
    have e5 : nn 7 = (7 : Int32) := rfl
    have f1 : ((7 : Int32) = 5) = False := by decide
    have f2 : ((7 : Int32) = 6) = False := by decide
    exact ⟨D', E', by simp only [e5, f1, f2, reduceIte, a1, bS], by simp only [e5, f1, f2, reduceIte, a2, bS], Or.inl a3, a4, a5⟩
  · have e5 : nn 8 = (8 : Int32) := rfl
    have f1 : ((8 : Int32) = 5) = False := by decide
    have f2 : ((8 : Int32) = 6) = False := by decide
    have f3 : ((8 : Int32) = 7) = False := by decide
    have f4 : ((8 : Int32) = 9) = False := by decide
    have f5 : ((8 : Int32) = 10) = False := by decide
    by_cases q0 : q = 0
    · refine ⟨sI D2 181 10 1, sI E2 207 84 1, by simp only [e5, f1, f2, f3, f4, f5, q0, reduceIte, bS], by simp only [e5, f1, f2, f3, q0, reduceIte, bS], Or.inr ⟨smx_end s2 1, ?_⟩, chE1 g5 (by decide), chE2 g6⟩
      rw [dI_s, if_pos ⟨rfl, rfl⟩]
      decide
    · obtain ⟨D', E', a1, a2, a3, a4, a5⟩ := fin (p / q)
      exact ⟨D', E', by simp only [e5, f1, f2, f3, f4, f5, q0, reduceIte, a1, bS], by simp only [e5, f1, f2, f3, q0, reduceIte, a2, bS], Or.inl a3, a4, a5⟩
  · have e5 : nn 9 = (9 : Int32) := rfl
    have f1 : ((9 : Int32) = 5) = False := by decide
    have f2 : ((9 : Int32) = 6) = False := by decide
    have f3 : ((9 : Int32) = 7) = False := by decide
    have f4 : ((9 : Int32) = 8) = False := by decide
    by_cases q0 : q ≤ p
    · obtain ⟨D', E', a1, a2, a3, a4, a5⟩ := fin 0
      exact ⟨D', E', by simp only [e5, f1, f2, f3, q0, reduceIte, asN (Or.inl rfl), a1, bS], by simp only [e5, f1, f2, f3, f4, q0, reduceIte, a2, bS], Or.inl a3, a4, a5⟩
    · obtain ⟨D', E', a1, a2, a3, a4, a5⟩ := fin 1
      exact ⟨D', E', by simp only [e5, f1, f2, f3, q0, reduceIte, asN (Or.inr rfl), a1, bS], by simp only [e5, f1, f2, f3, f4, q0, reduceIte, a2, bS], Or.inl a3, a4, a5⟩
  · have e5 : nn 10 = (10 : Int32) := rfl
    have f1 : ((10 : Int32) = 5) = False := by decide
    have f2 : ((10 : Int32) = 6) = False := by decide
    have f3 : ((10 : Int32) = 7) = False := by decide
    have f4 : ((10 : Int32) = 8) = False := by decide
    have f5 : ((10 : Int32) = 9) = False := by decide
    by_cases q0 : p = q
    · obtain ⟨D', E', a1, a2, a3, a4, a5⟩ := fin 1
      exact ⟨D', E', by simp only [e5, f1, f2, f3, f5, q0, reduceIte, asN (Or.inr rfl), a1, bS], by simp only [e5, f1, f2, f3, f4, f5, q0, reduceIte, a2, bS], Or.inl a3, a4, a5⟩
    · obtain ⟨D', E', a1, a2, a3, a4, a5⟩ := fin 0
      exact ⟨D', E', by simp only [e5, f1, f2, f3, f5, q0, reduceIte, asN (Or.inl rfl), a1, bS], by simp only [e5, f1, f2, f3, f4, f5, q0, reduceIte, a2, bS], Or.inl a3, a4, a5⟩
theorem smx_perform {s h o : Nat} {bs : Nat → Int32} {x : Int32} {D E : Dat} (hs : Smx s bs h D E) (ho : o ≤ 10 ∨ o = 13 ∨ o = 14) (hx : fitx o x) (ht : tk o ≤ h) (hp : h - tk o + pu o + s ≤ 30) : ∃ D' E', f_X3_perform (nn o) x D = some D' ∧ f_X12_perform (nn o) x E = some E' ∧ (Smx s bs (h - tk o + pu o) D' E' ∨ ((∃ h', Smx s bs h' D' E') ∧ ¬ dI D' 181 10 = -1)) ∧ Cm D D' ∧ Ch PmM E E' := by
  rcases (show o = 0 ∨ o = 1 ∨ o = 2 ∨ o = 3 ∨ o = 4 ∨ (5 ≤ o ∧ o ≤ 10) ∨ o = 13 ∨ o = 14 by omega) with rfl | rfl | rfl | rfl | rfl | h5 | rfl | rfl
  · obtain ⟨D', E', a1, a2, a3, a4, a5⟩ := smx_push x hs (show h + s < 30 by simp [tk, pu] at hp; omega)
    exact ⟨D', E', (pC_0 x D).trans a1, (pM_0 x E).trans a2, Or.inl a3, a4, a5⟩
  · obtain ⟨x1, x2⟩ := hx.1 (by omega)
    obtain ⟨k, hk, rfl⟩ := nn_of x1
    rw [nn_int hk] at x2
    obtain ⟨D', E', a1, a2, a3, a4, a5⟩ := smx_push (dI D 182 k) hs (show h + s < 30 by simp [tk, pu] at hp; omega)
    have i1 := nn_in (k := k) (n := 26) (by omega) (by omega)
    have e1 : dI E 259 (nn k).toNatClampNeg = dI D 182 k := by rw [nn_nat (by omega)]; exact (hs.2.2.1.1 182 k 259 k (cor_v (by omega))).symm
    exact ⟨D', E', (pC_1 _ D).trans (by rw [e_X3_cell (by omega), bS]; exact a1), (pM_1 _ E).trans (by rw [if_neg i1, e1]; exact a2), Or.inl a3, a4, a5⟩
  · obtain ⟨x1, x2⟩ := hx.1 (by omega)
    obtain ⟨k, hk, rfl⟩ := nn_of x1
    rw [nn_int hk] at x2
    obtain ⟨h', rfl⟩ : ∃ h', h = h' + 1 := ⟨h - 1, by simp [tk] at ht; omega⟩
    obtain ⟨v, D1, E1, p1, p2, s1, g1, g2⟩ := smx_pop hs
    have i1 := nn_in (k := k) (n := 26) (by omega) (by omega)
    exact ⟨sI D1 182 k v, sI E1 259 k v, (pC_2 _ D).trans (by rw [p1, bS, e_X3_setCell (by omega)]), (pM_2 _ E).trans (by rw [p2, bS, if_neg i1, nn_nat (by omega)]), Or.inl (s1.set (cor_v (k := k) (by omega)) (fun q => absurd q (by decide))), Cm.sI (by unfold PmC; omega) (by omega) g1, Ch.sI (by unfold PmM; omega) g2⟩
  · obtain ⟨x1, x2⟩ := hx.1 (by omega)
    obtain ⟨k, hk, rfl⟩ := nn_of x1
    rw [nn_int hk] at x2
    obtain ⟨h', rfl⟩ : ∃ h', h = h' + 1 := ⟨h - 1, by simp [tk] at ht; omega⟩
    obtain ⟨i, D1, E1, p1, p2, s1, g1, g2⟩ := smx_pop hs
    by_cases hi : 0 ≤ i.toInt ∧ i.toInt < 8
    · obtain ⟨m, hm, rfl⟩ := nn_of hi.1
      rw [nn_int hm] at hi
      obtain ⟨D', E', a1, a2, a3, a4, a5⟩ := smx_push (dI D1 182 (26 + (8 * k + m))) s1 (by have := hs.1.1; omega)
      have e1 : (26 : Int32) + nn k * (8 : Int32) + nn m = nn (26 + (8 * k + m)) := by rw [nn_l 26, nn_l 8, nn_mul, nn_add, nn_add, Nat.mul_comm k, Nat.add_assoc]
      have e2 : (8 : Int32) * nn k + nn m = nn (8 * k + m) := by rw [nn_l, nn_mul, nn_add]
      have q1 : nn m < 8 := by rw [nn_l, nn_lt (by omega) (by omega)]; omega
      have i2 := nn_in (k := 8 * k + m) (n := 208) (by omega) (by omega)
      have e3 : dI E1 260 (nn (8 * k + m)).toNatClampNeg = dI D1 182 (26 + (8 * k + m)) := by rw [nn_nat (by omega)]; exact (s1.2.2.1.1 182 (26 + (8 * k + m)) 260 (8 * k + m) (cor_r (by omega))).symm
      refine ⟨D', E', (pC_3 _ D).trans ?_, (pM_3 _ E).trans ?_, Or.inl a3, g1.tr a4, g2.tr a5⟩
      · rw [p1, bS]
        unfold f_X3_getFromRow
        rw [if_neg (nn_nlt0 hm), if_pos q1, e1, e_X3_cell (by omega), bS]
        simp only [f_X3_getFromRow_b35, bI]
        exact a1
      · rw [p2, bS]
        simp only [row_yes (show m < 8 by omega), bS, reduceIte]
        rw [e2, if_neg i2, e3]
        exact a2
    · refine ⟨sI D1 181 10 2, sI E1 207 84 2, (pC_3 _ D).trans ?_, (pM_3 _ E).trans ?_, Or.inr ⟨⟨h', smx_end s1 2⟩, by rw [dI_s, if_pos ⟨rfl, rfl⟩]; decide⟩, chE1 g1 (by decide), chE2 g2⟩
      · rw [p1, bS]
        unfold f_X3_getFromRow
        simp only [f_X3_getFromRow_b10, f_X3_getFromRow_b35]
        by_cases q : i < 0
        · rw [if_pos q]
        · have q2 : ¬ i < 8 := by
            rw [Int32.lt_iff_toInt_lt]
            have := not_lt0.mp q
            show ¬ _ < (8 : Int)
            omega
          rw [if_neg q, if_neg q2]
      · rw [p2, bS]
        simp only [row_no hi, bS, n10, reduceIte]
  · obtain ⟨x1, x2⟩ := hx.1 (by omega)
    obtain ⟨k, hk, rfl⟩ := nn_of x1
    rw [nn_int hk] at x2
    obtain ⟨h', rfl⟩ : ∃ h', h = h' + 2 := ⟨h - 2, by simp [tk] at ht; omega⟩
    obtain ⟨v, D0, E0, p3, p4, s0, g3, g4⟩ := smx_pop hs
    obtain ⟨i, D1, E1, p1, p2, s1, g1, g2⟩ := smx_pop s0
    by_cases hi : 0 ≤ i.toInt ∧ i.toInt < 8
    · obtain ⟨m, hm, rfl⟩ := nn_of hi.1
      rw [nn_int hm] at hi
      have e1 : (26 : Int32) + nn k * (8 : Int32) + nn m = nn (26 + (8 * k + m)) := by rw [nn_l 26, nn_l 8, nn_mul, nn_add, nn_add, Nat.mul_comm k, Nat.add_assoc]
      have e2 : (8 : Int32) * nn k + nn m = nn (8 * k + m) := by rw [nn_l, nn_mul, nn_add]
      have q1 : nn m < 8 := by rw [nn_l, nn_lt (by omega) (by omega)]; omega
      have i2 := nn_in (k := 8 * k + m) (n := 208) (by omega) (by omega)
      refine ⟨sI D1 182 (26 + (8 * k + m)) v, sI E1 260 (8 * k + m) v, (pC_4 _ D).trans ?_, (pM_4 _ E).trans ?_, Or.inl (s1.set (cor_r (j := 8 * k + m) (by omega)) (fun q => absurd q (by decide))), Cm.sI (by unfold PmC; omega) (by omega) (g3.tr g1), Ch.sI (by unfold PmM; omega) (g4.tr g2)⟩
      · rw [p3, bS, p1, bS]
        unfold f_X3_setInRow
        rw [if_neg (nn_nlt0 hm), if_pos q1, e1, e_X3_setCell (by omega), bS]
        rfl
      · rw [p4, bS, p2, bS]
        simp only [row_yes (show m < 8 by omega), bS, reduceIte]
        rw [e2, if_neg i2, nn_nat (by omega)]
    · refine ⟨sI D1 181 10 2, sI E1 207 84 2, (pC_4 _ D).trans ?_, (pM_4 _ E).trans ?_, Or.inr ⟨⟨h', smx_end s1 2⟩, by rw [dI_s, if_pos ⟨rfl, rfl⟩]; decide⟩, chE1 (g3.tr g1) (by decide), chE2 (g4.tr g2)⟩
      · rw [p3, bS, p1, bS]
        unfold f_X3_setInRow
        simp only [f_X3_setInRow_b10, f_X3_setInRow_b32]
        by_cases q : i < 0
        · rw [if_pos q]
        · have q2 : ¬ i < 8 := by
            rw [Int32.lt_iff_toInt_lt]
            have := not_lt0.mp q
            show ¬ _ < (8 : Int)
            omega
          rw [if_neg q, if_neg q2]
      · rw [p4, bS, p2, bS]
        simp only [row_no hi, bS, n10, reduceIte]
  · have ht2 : tk o = 2 := by unfold tk; rw [if_pos (by omega)]
    have hp1 : pu o = 1 := by unfold pu; rw [if_pos (by omega)]
    obtain ⟨h', rfl⟩ : ∃ h', h = h' + 2 := ⟨h - 2, by omega⟩
    obtain ⟨D', E', a1, a2, a3, a4, a5⟩ := smx_reckon hs h5
    refine ⟨D', E', (pC_5 h5 x D).trans a1, (pM_5 h5 x E).trans a2, ?_, a4, a5⟩
    rw [ht2, hp1]
    rcases a3 with a3 | a3
    · exact Or.inl a3
    · exact Or.inr ⟨⟨h', a3.1⟩, a3.2⟩
  · obtain ⟨x1, x2⟩ := hx.2 (by omega)
    obtain ⟨k, hk, rfl⟩ := nn_of x1
    rw [nn_int hk] at x2
    obtain ⟨v, D1, E1, p1, p2, s1, g1, g2⟩ := smx_input (k := k) hs (by omega)
    obtain ⟨D', E', a1, a2, a3, a4, a5⟩ := smx_push v s1 (show h + s < 30 by simp [tk, pu] at hp; omega)
    exact ⟨D', E', (pC_13 _ D).trans (by rw [p1, bS]; exact a1), (pM_13 _ E).trans (by rw [p2, bS]; exact a2), Or.inl a3, g1.tr a4, g2.tr a5⟩
  · obtain ⟨x1, x2⟩ := hx.2 (by omega)
    obtain ⟨k, hk, rfl⟩ := nn_of x1
    rw [nn_int hk] at x2
    obtain ⟨h', rfl⟩ : ∃ h', h = h' + 1 := ⟨h - 1, by simp [tk] at ht; omega⟩
    obtain ⟨D', E', a1, a2, a3, a4, a5⟩ := smx_write (k := k) hs (by omega)
    exact ⟨D', E', (pC_14 _ D).trans a1, (pM_14 _ E).trans a2, Or.inl a3, a4, a5⟩
