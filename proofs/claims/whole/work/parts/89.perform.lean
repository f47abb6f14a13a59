/-! an operation on both machines -/
theorem sim_write {h k : Nat} {D E : Dat} (hs : Sm (h + 1) D E) (hk : k < 6) : ∃ D' E', ((f_X3_pop D).bind (fun p38 => (f_X3_write (nn k) p38.1 p38.2).bind (fun p40 => f_X3_perform_b173 p40))) = some D' ∧ f_X12_write (nn k) E = some E' ∧ Sm h D' E' ∧ Cm D D' ∧ Ch PmM E E' := by
  obtain ⟨v, D1, E1, p1, p2, s1, g1, g2⟩ := sim_pop hs
  have hR := s1.2.2
  obtain ⟨-, -, a1, a2⟩ := hR.2 k hk
  obtain ⟨f, hf, ef⟩ := nn_of a1
  rw [ef, nn_int hf] at a2
  have d1 : dI D1 188 k = nn f := (hR.1 188 k 258 k (cor_w hk)).trans ef
  have i1 := nn_in (k := k) (n := 6) (by omega) (by omega)
  have n1 : (nn k).toNatClampNeg = k := nn_nat (by omega)
  rw [p1, bS]
  unfold f_X12_write f_X3_write
  simp only [f_X12_write_b51, f_X3_write_b18, f_X3_write_b53, f_X3_perform_b173, p2, bS, isMark_yes hk, n10, i1, reduceIte]
  rw [n1, d1, ef]
  by_cases q : f < 20
  · have q1 : nn f < 20 := by rw [nn_l, nn_lt (by omega) (by omega)]; exact q
    have q2 : ¬ nn f = 20 := by rw [nn_l, nn_eq (by omega) (by omega)]; omega
    have e9 : nn k * (20 : Int32) + nn f = nn (20 * k + f) := by rw [nn_l, nn_mul, nn_add, Nat.mul_comm]
    have e8 : (20 : Int32) * nn k + nn f = nn (20 * k + f) := by rw [nn_l, nn_mul, nn_add]
    have i2 := nn_in (k := 20 * k + f) (n := 120) (by omega) (by omega)
    have r1 : dI (sI D1 187 (20 * k + f) v) 188 k = nn f := by rw [dI_s, if_neg (by omega)]; exact d1
    have r2 : dI (sI E1 257 (20 * k + f) v) 258 k = nn f := by rw [dI_s, if_neg (by omega)]; exact ef
    refine ⟨sI (sI D1 187 (20 * k + f) v) 188 k (nn (f + 1)), sI (sI E1 257 (20 * k + f) v) 258 k (nn (f + 1)), ?_, ?_, ?_, ?_, ?_⟩
    · rw [if_pos q1, e9, if_neg i2, nn_nat (by omega), r1, nn_1, bS]
    · rw [if_neg q2, e8, if_neg i2, nn_nat (by omega), r2, nn_1]
    · exact (s1.set (cor_o (k := 20 * k + f) (by omega)) (fun q => absurd q (by decide))).set (cor_w hk) (fun _ => by rw [nn_int (by omega)]; omega)
    · exact Cm.sI (by unfold PmC; omega) (by omega) (Cm.sI (by unfold PmC; omega) (by omega) g1)
    · exact Ch.sI (by unfold PmM; omega) (Ch.sI (by unfold PmM; omega) g2)
  · have q1 : ¬ nn f < 20 := by rw [nn_l, nn_lt (by omega) (by omega)]; exact q
    have q2 : nn f = 20 := by rw [show f = 20 by omega]; rfl
    refine ⟨sI D1 181 10 4, sI E1 207 84 4, ?_, ?_, sim_end s1 4, chE1 g1 (by decide), chE2 g2⟩
    · rw [if_neg q1, bS]
    · rw [if_pos q2]
/-- arithmetic on both -/
theorem sim_reckon {h o : Nat} {D E : Dat} (hs : Sm (h + 2) D E) (ho : 5 ≤ o ∧ o ≤ 10) : ∃ D' E', f_X3_perform_b160 (nn o) D = some D' ∧ f_X12_compute (nn o) E = some E' ∧ (Sm (h + 1) D' E' ∨ (Sm h D' E' ∧ ¬ dI D' 181 10 = -1)) ∧ Cm D D' ∧ Ch PmM E E' := by
  obtain ⟨q, D1, E1, p1, p2, s1, g1, g2⟩ := sim_pop hs
  obtain ⟨p, D2, E2, p3, p4, s2, g3, g4⟩ := sim_pop s1
  have g5 := g1.tr g3
  have g6 := g2.tr g4
  have fin : ∀ v : Int32, ∃ D' E', f_X3_push v D2 = some D' ∧ f_X12_give v E2 = some E' ∧ Sm (h + 1) D' E' ∧ Cm D D' ∧ Ch PmM E E' := fun v => by
    obtain ⟨D', E', a1, a2, a3, a4, a5⟩ := sim_push v s2 (by have := hs.1.1; omega)
    exact ⟨D', E', a1, a2, a3, g5.tr a4, g6.tr a5⟩
  unfold f_X3_perform_b160 f_X3_reckon f_X12_compute
  simp only [f_X3_perform_b173, f_X3_reckon_b129, f_X3_reckon_b81, f_X3_reckon_b101, f_X3_reckon_b110, f_X12_compute_b127, f_X12_compute_b107, f_X12_compute_b124, p1, p2, p3, p4, bS]
  rcases (show o = 5 ∨ o = 6 ∨ o = 7 ∨ o = 8 ∨ o = 9 ∨ o = 10 by omega) with rfl | rfl | rfl | rfl | rfl | rfl
  · obtain ⟨D', E', a1, a2, a3, a4, a5⟩ := fin (p + q)
    have e5 : nn 5 = (5 : Int32) := rfl
    exact ⟨D', E', by simp only [e5, reduceIte, a1, bS], by simp only [e5, reduceIte, a2, bS], Or.inl a3, a4, a5⟩
  · obtain ⟨D', E', a1, a2, a3, a4, a5⟩ := fin (p - q)
    have e5 : nn 6 = (6 : Int32) := rfl
    have f1 : ((6 : Int32) = 5) = False := by decide
    exact ⟨D', E', by simp only [e5, f1, reduceIte, a1, bS], by simp only [e5, f1, reduceIte, a2, bS], Or.inl a3, a4, a5⟩
  · obtain ⟨D', E', a1, a2, a3, a4, a5⟩ := fin (p * q)
    have e5 : nn 7 = (7 : Int32) := rfl
    have f1 : ((7 : Int32) = 5) = False := by decide
    have f2 : ((7 : Int32) = 6) = False := by decide
    exact ⟨D', E', by simp only [e5, f1, f2, reduceIte, a1, bS], by simp only [e5, f1, f2, reduceIte, a2, bS], Or.inl a3, a4, a5⟩
  · have e5 : nn 8 = (8 : Int32) := rfl
    have f1 : ((8 : Int32) = 5) = False := by decide
    have f2 : ((8 : Int32) = 6) = False := by decide
    have f3 : ((8 : Int32) = 7) = False := by decide
    have f4 : ((8 : Int32) = 9) = False := by decide
    have f5 : ((8 : Int32) = 10) = False := by decide
    by_cases q0 : q = 0
    · refine ⟨sI D2 181 10 1, sI E2 207 84 1, by simp only [e5, f1, f2, f3, f4, f5, q0, reduceIte, bS], by simp only [e5, f1, f2, f3, q0, reduceIte, bS], Or.inr ⟨sim_end s2 1, ?_⟩, chE1 g5 (by decide), chE2 g6⟩
      rw [dI_s, if_pos ⟨rfl, rfl⟩]
      decide
    · obtain ⟨D', E', a1, a2, a3, a4, a5⟩ := fin (p / q)
      exact ⟨D', E', by simp only [e5, f1, f2, f3, f4, f5, q0, reduceIte, a1, bS], by simp only [e5, f1, f2, f3, q0, reduceIte, a2, bS], Or.inl a3, a4, a5⟩
  · have e5 : nn 9 = (9 : Int32) := rfl
    have f1 : ((9 : Int32) = 5) = False := by decide
    have f2 : ((9 : Int32) = 6) = False := by decide
    have f3 : ((9 : Int32) = 7) = False := by decide
    have f4 : ((9 : Int32) = 8) = False := by decide
    by_cases q0 : q ≤ p
    · obtain ⟨D', E', a1, a2, a3, a4, a5⟩ := fin 0
      exact ⟨D', E', by simp only [e5, f1, f2, f3, q0, reduceIte, asN (Or.inl rfl), a1, bS], by simp only [e5, f1, f2, f3, f4, q0, reduceIte, a2, bS], Or.inl a3, a4, a5⟩
    · obtain ⟨D', E', a1, a2, a3, a4, a5⟩ := fin 1
      exact ⟨D', E', by simp only [e5, f1, f2, f3, q0, reduceIte, asN (Or.inr rfl), a1, bS], by simp only [e5, f1, f2, f3, f4, q0, reduceIte, a2, bS], Or.inl a3, a4, a5⟩
  · have e5 : nn 10 = (10 : Int32) := rfl
    have f1 : ((10 : Int32) = 5) = False := by decide
    have f2 : ((10 : Int32) = 6) = False := by decide
    have f3 : ((10 : Int32) = 7) = False := by decide
    have f4 : ((10 : Int32) = 8) = False := by decide
    have f5 : ((10 : Int32) = 9) = False := by decide
    by_cases q0 : p = q
    · obtain ⟨D', E', a1, a2, a3, a4, a5⟩ := fin 1
      exact ⟨D', E', by simp only [e5, f1, f2, f3, f5, q0, reduceIte, asN (Or.inr rfl), a1, bS], by simp only [e5, f1, f2, f3, f4, f5, q0, reduceIte, a2, bS], Or.inl a3, a4, a5⟩
    · obtain ⟨D', E', a1, a2, a3, a4, a5⟩ := fin 0
      exact ⟨D', E', by simp only [e5, f1, f2, f3, f5, q0, reduceIte, asN (Or.inl rfl), a1, bS], by simp only [e5, f1, f2, f3, f4, f5, q0, reduceIte, a2, bS], Or.inl a3, a4, a5⟩
theorem bI {α : Type} (o : Option α) : o.bind (fun p => some p) = o := by cases o <;> rfl
theorem row_no {i : Int32} (h : ¬ (0 ≤ i.toInt ∧ i.toInt < 8)) (D : Dat) : f_X12_out i 8 D = some (1, D) := by
  rw [show (8 : Int32) = nn 8 from rfl]
  exact out_yes (by omega) (by omega) D
theorem row_yes {m : Nat} (h : m < 8) (D : Dat) : f_X12_out (nn m) 8 D = some (0, D) := out_no (m := 8) (by omega) h D
theorem pC_0 (x : Int32) (D : Dat) : f_X3_perform 0 x D = f_X3_push x D := by
  unfold f_X3_perform
  rw [if_pos rfl]
  simp only [f_X3_perform_b173, bI]
theorem pM_0 (x : Int32) (D : Dat) : f_X12_perform 0 x D = f_X12_give x D := by
  unfold f_X12_perform
  rw [if_pos rfl]
  simp only [f_X12_perform_b222, bI]
theorem pC_1 (x : Int32) (D : Dat) : f_X3_perform 1 x D = (f_X3_cell x D).bind (fun p11 => f_X3_push p11.1 p11.2) := by
  unfold f_X3_perform
  rw [if_neg (show ¬ (1 : Int32) = 0 by decide), if_pos rfl]
  simp only [f_X3_perform_b173, bI]
theorem pM_1 (x : Int32) (D : Dat) : f_X12_perform 1 x D = (if x < 0 ∨ 26 ≤ (x).toNatClampNeg then none else f_X12_give (dI D 259 (x).toNatClampNeg) D) := by
  unfold f_X12_perform
  rw [if_neg (show ¬ (1 : Int32) = 0 by decide), if_pos rfl]
  simp only [f_X12_perform_b222, bI]
theorem pC_2 (x : Int32) (D : Dat) : f_X3_perform 2 x D = (f_X3_pop D).bind (fun p16 => f_X3_setCell x p16.1 p16.2) := by
  unfold f_X3_perform
  rw [if_neg (show ¬ (2 : Int32) = 0 by decide), if_neg (show ¬ (2 : Int32) = 1 by decide), if_pos rfl]
  simp only [f_X3_perform_b173, bI]
theorem pM_2 (x : Int32) (D : Dat) : f_X12_perform 2 x D = (f_X12_pop D).bind (fun p11 => if x < 0 ∨ 26 ≤ (x).toNatClampNeg then none else some (sI p11.2 259 (x).toNatClampNeg p11.1)) := by
  unfold f_X12_perform
  rw [if_neg (show ¬ (2 : Int32) = 0 by decide), if_neg (show ¬ (2 : Int32) = 1 by decide), if_pos rfl]
  simp only [f_X12_perform_b222, bI]
theorem pC_3 (x : Int32) (D : Dat) : f_X3_perform 3 x D = (f_X3_pop D).bind (fun p21 => f_X3_getFromRow x p21.1 p21.2) := by
  unfold f_X3_perform
  rw [if_neg (show ¬ (3 : Int32) = 0 by decide), if_neg (show ¬ (3 : Int32) = 1 by decide), if_neg (show ¬ (3 : Int32) = 2 by decide), if_pos rfl]
  simp only [f_X3_perform_b173, bI]
theorem pM_3 (x : Int32) (D : Dat) : f_X12_perform 3 x D = (f_X12_pop D).bind (fun p15 => (f_X12_out p15.1 8 p15.2).bind (fun p17 => if p17.1 = 0 then (if (((8 : Int32) * x) + p15.1) < 0 ∨ 208 ≤ ((((8 : Int32) * x) + p15.1)).toNatClampNeg then none else f_X12_give (dI p17.2 260 (((8 : Int32) * x) + p15.1).toNatClampNeg) p17.2) else some (sI p17.2 207 84 2))) := by
  unfold f_X12_perform
  rw [if_neg (show ¬ (3 : Int32) = 0 by decide), if_neg (show ¬ (3 : Int32) = 1 by decide), if_neg (show ¬ (3 : Int32) = 2 by decide), if_pos rfl]
  simp only [f_X12_perform_b222, bI]
theorem pC_4 (x : Int32) (D : Dat) : f_X3_perform 4 x D = (f_X3_pop D).bind (fun p26 => (f_X3_pop p26.2).bind (fun p28 => f_X3_setInRow x p26.1 p28.1 p28.2)) := by
  unfold f_X3_perform
  rw [if_neg (show ¬ (4 : Int32) = 0 by decide), if_neg (show ¬ (4 : Int32) = 1 by decide), if_neg (show ¬ (4 : Int32) = 2 by decide), if_neg (show ¬ (4 : Int32) = 3 by decide), if_pos rfl]
  simp only [f_X3_perform_b173, bI]
theorem pM_4 (x : Int32) (D : Dat) : f_X12_perform 4 x D = (f_X12_pop D).bind (fun p24 => (f_X12_pop p24.2).bind (fun p26 => (f_X12_out p26.1 8 p26.2).bind (fun p28 => if p28.1 = 0 then (if (((8 : Int32) * x) + p26.1) < 0 ∨ 208 ≤ ((((8 : Int32) * x) + p26.1)).toNatClampNeg then none else some (sI p28.2 260 (((8 : Int32) * x) + p26.1).toNatClampNeg p24.1)) else some (sI p28.2 207 84 2)))) := by
  unfold f_X12_perform
  rw [if_neg (show ¬ (4 : Int32) = 0 by decide), if_neg (show ¬ (4 : Int32) = 1 by decide), if_neg (show ¬ (4 : Int32) = 2 by decide), if_neg (show ¬ (4 : Int32) = 3 by decide), if_pos rfl]
  simp only [f_X12_perform_b222, bI]
theorem pC_13 (x : Int32) (D : Dat) : f_X3_perform 13 x D = (f_X3_nextInput x D).bind (fun p33 => f_X3_push p33.1 p33.2) := by
  unfold f_X3_perform
  rw [if_neg (show ¬ (13 : Int32) = 0 by decide), if_neg (show ¬ (13 : Int32) = 1 by decide), if_neg (show ¬ (13 : Int32) = 2 by decide), if_neg (show ¬ (13 : Int32) = 3 by decide), if_neg (show ¬ (13 : Int32) = 4 by decide), if_pos rfl]
  simp only [f_X3_perform_b173, bI]
theorem pM_13 (x : Int32) (D : Dat) : f_X12_perform 13 x D = (f_X12_input x D).bind (fun p33 => f_X12_give p33.1 p33.2) := by
  unfold f_X12_perform
  rw [if_neg (show ¬ (13 : Int32) = 0 by decide), if_neg (show ¬ (13 : Int32) = 1 by decide), if_neg (show ¬ (13 : Int32) = 2 by decide), if_neg (show ¬ (13 : Int32) = 3 by decide), if_neg (show ¬ (13 : Int32) = 4 by decide), if_pos rfl]
  simp only [f_X12_perform_b222, bI]
theorem pC_14 (x : Int32) (D : Dat) : f_X3_perform 14 x D = (f_X3_pop D).bind (fun p38 => (f_X3_write x p38.1 p38.2).bind (fun p40 => f_X3_perform_b173 p40)) := by
  unfold f_X3_perform
  rw [if_neg (show ¬ (14 : Int32) = 0 by decide), if_neg (show ¬ (14 : Int32) = 1 by decide), if_neg (show ¬ (14 : Int32) = 2 by decide), if_neg (show ¬ (14 : Int32) = 3 by decide), if_neg (show ¬ (14 : Int32) = 4 by decide), if_neg (show ¬ (14 : Int32) = 13 by decide), if_pos rfl]
theorem pM_14 (x : Int32) (D : Dat) : f_X12_perform 14 x D = f_X12_write x D := by
  unfold f_X12_perform
  rw [if_neg (show ¬ (14 : Int32) = 0 by decide), if_neg (show ¬ (14 : Int32) = 1 by decide), if_neg (show ¬ (14 : Int32) = 2 by decide), if_neg (show ¬ (14 : Int32) = 3 by decide), if_neg (show ¬ (14 : Int32) = 4 by decide), if_neg (show ¬ (14 : Int32) = 13 by decide), if_pos rfl]
  simp only [f_X12_perform_b222, bI]
theorem pC_5 {o : Nat} (h : 5 ≤ o ∧ o ≤ 10) (x : Int32) (D : Dat) : f_X3_perform (nn o) x D = f_X3_perform_b160 (nn o) D := by
  have ne : ∀ b : Nat, b < 2147483648 → o ≠ b → ¬ nn o = nn b := fun b hb q => by rw [nn_eq (by omega) hb]; exact q
  unfold f_X3_perform
  rw [if_neg (show ¬ nn o = (0 : Int32) from ne 0 (by omega) (by omega)), if_neg (show ¬ nn o = (1 : Int32) from ne 1 (by omega) (by omega)), if_neg (show ¬ nn o = (2 : Int32) from ne 2 (by omega) (by omega)), if_neg (show ¬ nn o = (3 : Int32) from ne 3 (by omega) (by omega)), if_neg (show ¬ nn o = (4 : Int32) from ne 4 (by omega) (by omega)), if_neg (show ¬ nn o = (13 : Int32) from ne 13 (by omega) (by omega)), if_neg (show ¬ nn o = (14 : Int32) from ne 14 (by omega) (by omega))]
theorem pM_5 {o : Nat} (h : 5 ≤ o ∧ o ≤ 10) (x : Int32) (D : Dat) : f_X12_perform (nn o) x D = f_X12_compute (nn o) D := by
  have ne : ∀ b : Nat, b < 2147483648 → o ≠ b → ¬ nn o = nn b := fun b hb q => by rw [nn_eq (by omega) hb]; exact q
  unfold f_X12_perform
  rw [if_neg (show ¬ nn o = (0 : Int32) from ne 0 (by omega) (by omega)), if_neg (show ¬ nn o = (1 : Int32) from ne 1 (by omega) (by omega)), if_neg (show ¬ nn o = (2 : Int32) from ne 2 (by omega) (by omega)), if_neg (show ¬ nn o = (3 : Int32) from ne 3 (by omega) (by omega)), if_neg (show ¬ nn o = (4 : Int32) from ne 4 (by omega) (by omega)), if_neg (show ¬ nn o = (13 : Int32) from ne 13 (by omega) (by omega)), if_neg (show ¬ nn o = (14 : Int32) from ne 14 (by omega) (by omega))]
  simp only [f_X12_perform_b217, f_X12_perform_b222, bI]
