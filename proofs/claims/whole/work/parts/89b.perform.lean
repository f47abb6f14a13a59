/-- an operation that is no jump and no end, on both: the stacks, or an ending -/
theorem sim_perform {h o : Nat} {x : Int32} {D E : Dat} (hs : Sm h D E) (ho : o ≤ 10 ∨ o = 13 ∨ o = 14) (hx : fitx o x) (ht : tk o ≤ h) (hp : h - tk o + pu o ≤ 30) : ∃ D' E', f_X3_perform (nn o) x D = some D' ∧ f_X12_perform (nn o) x E = some E' ∧ (Sm (h - tk o + pu o) D' E' ∨ ((∃ h', Sm h' D' E') ∧ ¬ dI D' 181 10 = -1)) ∧ Cm D D' ∧ Ch PmM E E' := by
  rcases (show o = 0 ∨ o = 1 ∨ o = 2 ∨ o = 3 ∨ o = 4 ∨ (5 ≤ o ∧ o ≤ 10) ∨ o = 13 ∨ o = 14 by omega) with rfl | rfl | rfl | rfl | rfl | h5 | rfl | rfl
  · obtain ⟨D', E', a1, a2, a3, a4, a5⟩ := sim_push x hs (show h < 30 by simp [tk, pu] at hp; omega)
    exact ⟨D', E', (pC_0 x D).trans a1, (pM_0 x E).trans a2, Or.inl a3, a4, a5⟩
  · obtain ⟨x1, x2⟩ := hx.1 (by omega)
    obtain ⟨k, hk, rfl⟩ := nn_of x1
    rw [nn_int hk] at x2
    obtain ⟨D', E', a1, a2, a3, a4, a5⟩ := sim_push (dI D 182 k) hs (show h < 30 by simp [tk, pu] at hp; omega)
    have i1 := nn_in (k := k) (n := 26) (by omega) (by omega)
    have e1 : dI E 259 (nn k).toNatClampNeg = dI D 182 k := by rw [nn_nat (by omega)]; exact (hs.2.2.1 182 k 259 k (cor_v (by omega))).symm
    exact ⟨D', E', (pC_1 _ D).trans (by rw [e_X3_cell (by omega), bS]; exact a1), (pM_1 _ E).trans (by rw [if_neg i1, e1]; exact a2), Or.inl a3, a4, a5⟩
  · obtain ⟨x1, x2⟩ := hx.1 (by omega)
    obtain ⟨k, hk, rfl⟩ := nn_of x1
    rw [nn_int hk] at x2
    obtain ⟨h', rfl⟩ : ∃ h', h = h' + 1 := ⟨h - 1, by simp [tk] at ht; omega⟩
    obtain ⟨v, D1, E1, p1, p2, s1, g1, g2⟩ := sim_pop hs
    have i1 := nn_in (k := k) (n := 26) (by omega) (by omega)
    exact ⟨sI D1 182 k v, sI E1 259 k v, (pC_2 _ D).trans (by rw [p1, bS, e_X3_setCell (by omega)]), (pM_2 _ E).trans (by rw [p2, bS, if_neg i1, nn_nat (by omega)]), Or.inl (s1.set (cor_v (k := k) (by omega)) (fun q => absurd q (by decide))), Cm.sI (by unfold PmC; omega) (by omega) g1, Ch.sI (by unfold PmM; omega) g2⟩
  · obtain ⟨x1, x2⟩ := hx.1 (by omega)
    obtain ⟨k, hk, rfl⟩ := nn_of x1
    rw [nn_int hk] at x2
    obtain ⟨h', rfl⟩ : ∃ h', h = h' + 1 := ⟨h - 1, by simp [tk] at ht; omega⟩
    obtain ⟨i, D1, E1, p1, p2, s1, g1, g2⟩ := sim_pop hs
    by_cases hi : 0 ≤ i.toInt ∧ i.toInt < 8
    · obtain ⟨m, hm, rfl⟩ := nn_of hi.1
      rw [nn_int hm] at hi
      obtain ⟨D', E', a1, a2, a3, a4, a5⟩ := sim_push (dI D1 182 (26 + (8 * k + m))) s1 (by have := hs.1.1; omega)
      have e1 : (26 : Int32) + nn k * (8 : Int32) + nn m = nn (26 + (8 * k + m)) := by rw [nn_l 26, nn_l 8, nn_mul, nn_add, nn_add, Nat.mul_comm k, Nat.add_assoc]
      have e2 : (8 : Int32) * nn k + nn m = nn (8 * k + m) := by rw [nn_l, nn_mul, nn_add]
      have q1 : nn m < 8 := by rw [nn_l, nn_lt (by omega) (by omega)]; omega
      have i2 := nn_in (k := 8 * k + m) (n := 208) (by omega) (by omega)
      have e3 : dI E1 260 (nn (8 * k + m)).toNatClampNeg = dI D1 182 (26 + (8 * k + m)) := by rw [nn_nat (by omega)]; exact (s1.2.2.1 182 (26 + (8 * k + m)) 260 (8 * k + m) (cor_r (by omega))).symm
      refine ⟨D', E', (pC_3 _ D).trans ?_, (pM_3 _ E).trans ?_, Or.inl a3, g1.tr a4, g2.tr a5⟩
      · rw [p1, bS]
        unfold f_X3_getFromRow
        rw [if_neg (nn_nlt0 hm), if_pos q1, e1, e_X3_cell (by omega), bS]
        simp only [f_X3_getFromRow_b35, bI]
        exact a1
      · rw [p2, bS]
        simp only [row_yes (show m < 8 by omega), bS, reduceIte]
        rw [e2, if_neg i2, e3]
        exact a2
    · refine ⟨sI D1 181 10 2, sI E1 207 84 2, (pC_3 _ D).trans ?_, (pM_3 _ E).trans ?_, Or.inr ⟨⟨h', sim_end s1 2⟩, by rw [dI_s, if_pos ⟨rfl, rfl⟩]; decide⟩, chE1 g1 (by decide), chE2 g2⟩
      · rw [p1, bS]
        unfold f_X3_getFromRow
        simp only [f_X3_getFromRow_b10, f_X3_getFromRow_b35]
        by_cases q : i < 0
        · rw [if_pos q]
        · have q2 : ¬ i < 8 := by
            rw [Int32.lt_iff_toInt_lt]
            have := not_lt0.mp q
            show ¬ _ < (8 : Int)
            omega
          rw [if_neg q, if_neg q2]
      · rw [p2, bS]
        simp only [row_no hi, bS, n10, reduceIte]
  · obtain ⟨x1, x2⟩ := hx.1 (by omega)
    obtain ⟨k, hk, rfl⟩ := nn_of x1
    rw [nn_int hk] at x2
    obtain ⟨h', rfl⟩ : ∃ h', h = h' + 2 := ⟨h - 2, by simp [tk] at ht; omega⟩
    obtain ⟨v, D0, E0, p3, p4, s0, g3, g4⟩ := sim_pop hs
    obtain ⟨i, D1, E1, p1, p2, s1, g1, g2⟩ := sim_pop s0
    by_cases hi : 0 ≤ i.toInt ∧ i.toInt < 8
    · obtain ⟨m, hm, rfl⟩ := nn_of hi.1
      rw [nn_int hm] at hi
      have e1 : (26 : Int32) + nn k * (8 : Int32) + nn m = nn (26 + (8 * k + m)) := by rw [nn_l 26, nn_l 8, nn_mul, nn_add, nn_add, Nat.mul_comm k, Nat.add_assoc]
      have e2 : (8 : Int32) * nn k + nn m = nn (8 * k + m) := by rw [nn_l, nn_mul, nn_add]
      have q1 : nn m < 8 := by rw [nn_l, nn_lt (by omega) (by omega)]; omega
      have i2 := nn_in (k := 8 * k + m) (n := 208) (by omega) (by omega)
      refine ⟨sI D1 182 (26 + (8 * k + m)) v, sI E1 260 (8 * k + m) v, (pC_4 _ D).trans ?_, (pM_4 _ E).trans ?_, Or.inl (s1.set (cor_r (j := 8 * k + m) (by omega)) (fun q => absurd q (by decide))), Cm.sI (by unfold PmC; omega) (by omega) (g3.tr g1), Ch.sI (by unfold PmM; omega) (g4.tr g2)⟩
      · rw [p3, bS, p1, bS]
        unfold f_X3_setInRow
        rw [if_neg (nn_nlt0 hm), if_pos q1, e1, e_X3_setCell (by omega), bS]
        rfl
      · rw [p4, bS, p2, bS]
        simp only [row_yes (show m < 8 by omega), bS, reduceIte]
        rw [e2, if_neg i2, nn_nat (by omega)]
    · refine ⟨sI D1 181 10 2, sI E1 207 84 2, (pC_4 _ D).trans ?_, (pM_4 _ E).trans ?_, Or.inr ⟨⟨h', sim_end s1 2⟩, by rw [dI_s, if_pos ⟨rfl, rfl⟩]; decide⟩, chE1 (g3.tr g1) (by decide), chE2 (g4.tr g2)⟩
      · rw [p3, bS, p1, bS]
        unfold f_X3_setInRow
        simp only [f_X3_setInRow_b10, f_X3_setInRow_b32]
        by_cases q : i < 0
        · rw [if_pos q]
        · have q2 : ¬ i < 8 := by
            rw [Int32.lt_iff_toInt_lt]
            have := not_lt0.mp q
            show ¬ _ < (8 : Int)
            omega
          rw [if_neg q, if_neg q2]
      · rw [p4, bS, p2, bS]
        simp only [row_no hi, bS, n10, reduceIte]
  · have ht2 : tk o = 2 := by unfold tk; rw [if_pos (by omega)]
    have hp1 : pu o = 1 := by unfold pu; rw [if_pos (by omega)]
    obtain ⟨h', rfl⟩ : ∃ h', h = h' + 2 := ⟨h - 2, by omega⟩
    obtain ⟨D', E', a1, a2, a3, a4, a5⟩ := sim_reckon hs h5
    refine ⟨D', E', (pC_5 h5 x D).trans a1, (pM_5 h5 x E).trans a2, ?_, a4, a5⟩
    rw [ht2, hp1]
    rcases a3 with a3 | a3
    · exact Or.inl a3
    · exact Or.inr ⟨⟨h', a3.1⟩, a3.2⟩
  · obtain ⟨x1, x2⟩ := hx.2 (by omega)
    obtain ⟨k, hk, rfl⟩ := nn_of x1
    rw [nn_int hk] at x2
    obtain ⟨v, D1, E1, p1, p2, s1, g1, g2⟩ := sim_input (k := k) hs (by omega)
    obtain ⟨D', E', a1, a2, a3, a4, a5⟩ := sim_push v s1 (show h < 30 by simp [tk, pu] at hp; omega)
    exact ⟨D', E', (pC_13 _ D).trans (by rw [p1, bS]; exact a1), (pM_13 _ E).trans (by rw [p2, bS]; exact a2), Or.inl a3, g1.tr a4, g2.tr a5⟩
  · obtain ⟨x1, x2⟩ := hx.2 (by omega)
    obtain ⟨k, hk, rfl⟩ := nn_of x1
    rw [nn_int hk] at x2
    obtain ⟨h', rfl⟩ : ∃ h', h = h' + 1 := ⟨h - 1, by simp [tk] at ht; omega⟩
    obtain ⟨D', E', a1, a2, a3, a4, a5⟩ := sim_write (k := k) hs (by omega)
    exact ⟨D', E', (pC_14 _ D).trans a1, (pM_14 _ E).trans a2, Or.inl a3, a4, a5⟩
