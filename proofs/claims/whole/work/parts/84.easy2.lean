/-! count, instruction, code, fix -/
theorem stp_count {N nu n : Nat} {K : Nat → Nat} {D : Dat} {c sz len : Nat} (a1 a2 a3 : Int32) (hS : IS nu D) (hC : IC c sz D) (hT : IT len D) (hA : IA D) : ∃ D', stp_18 N nu n K D a1 a2 a3 = some (K, D') ∧ Ch Pr D D' := by
  obtain ⟨⟨n1, n2⟩, ⟨d1, d2⟩, ⟨d3, d4⟩, ⟨d5, b5⟩, ⟨d6, b6⟩, ⟨d7, b7⟩, d8, b8⟩ := hS
  obtain ⟨c1, ⟨c2, c3⟩, c4, ⟨c5, c6⟩, -⟩ := hC
  obtain ⟨t1, ⟨t2, t3⟩, -⟩ := hT
  obtain ⟨-, -, -, m6⟩ := hA
  unfold stp_18
  have ml : ∀ (D : Dat) (v : Int64) (k : Nat), k ≠ 0 → dI (sI (sL D 262 (0 : Int32).toNatClampNeg v) 207 0 0) 207 k = dI D 207 k := fun D v k hk => by rw [dI_s, if_neg (fun q => hk q.2), dI_sL]
  have ite2 : ∀ (x : Int32) (D : Dat) (f : Int32 → Dat → Option (Int32 × Dat)), b01 x → (if x = 0 then f 0 D else f 1 D) = f x D := fun x D f h => by
    rcases h with h | h <;> rw [h] <;> simp
  by_cases o0 : a1 = 0
  · subst o0
    refine stp_read (r := nn nu) ?_ ?_
    · unfold f_L_count f_X11_count f_X2_size
      simp only [reduceIte, bS, d1]
    · unfold f_X12_count
      simp only [reduceIte]
      rw [ml _ _ 1 (by decide), d2]
  by_cases o1 : a1 = 1
  · subst o1
    refine stp_read (r := dI D 207 5) ?_ ?_
    · unfold f_L_count f_X11_count
      simp only [n10, reduceIte, sealed_e (show b01 (dI D 1 2) by rw [d8]; exact b8), bS, d8, asN b8]
    · unfold f_X12_count f_X12_count_b73
      simp only [n10, reduceIte]
      rw [ml _ _ 5 (by decide), ite2 _ _ (fun a b => some (a, b)) b8]
  by_cases o2 : a1 = 2
  · subst o2
    refine stp_read (r := nn len) ?_ ?_
    · unfold f_L_count f_X11_count f_X5_length
      simp only [show ((2 : Int32) = 0) = False by decide, show ((2 : Int32) = 1) = False by decide, reduceIte, bS, t2]
    · unfold f_X12_count
      simp only [show ((2 : Int32) = 0) = False by decide, show ((2 : Int32) = 1) = False by decide, reduceIte]
      rw [ml _ _ 10 (by decide), t3]
  by_cases o3 : a1 = 3
  · subst o3
    refine stp_read (r := nn sz) ?_ ?_
    · unfold f_L_count f_X11_count f_X0_size
      simp only [show ((3 : Int32) = 0) = False by decide, show ((3 : Int32) = 1) = False by decide, show ((3 : Int32) = 2) = False by decide, reduceIte, bS, c2, c1, c5]
    · unfold f_X12_count
      simp only [show ((3 : Int32) = 0) = False by decide, show ((3 : Int32) = 1) = False by decide, show ((3 : Int32) = 2) = False by decide, reduceIte]
      rw [ml _ _ 13 (by decide), c6]
  by_cases o4 : a1 = 4
  · subst o4
    refine stp_read (r := dI D 207 16) ?_ ?_
    · unfold f_L_count f_X11_count
      simp only [show ((4 : Int32) = 0) = False by decide, show ((4 : Int32) = 1) = False by decide, show ((4 : Int32) = 2) = False by decide, show ((4 : Int32) = 3) = False by decide, reduceIte, bS, d5, asN b5]
    · unfold f_X12_count f_X12_count_b96
      simp only [show ((4 : Int32) = 0) = False by decide, show ((4 : Int32) = 1) = False by decide, show ((4 : Int32) = 2) = False by decide, show ((4 : Int32) = 3) = False by decide, reduceIte]
      rw [ml _ _ 16 (by decide), ite2 _ _ (fun a b => some (a, b)) b5]
  by_cases o5 : a1 = 5
  · subst o5
    refine stp_read (r := dI D 207 18) ?_ ?_
    · unfold f_L_count f_X11_count
      simp only [show ((5 : Int32) = 0) = False by decide, show ((5 : Int32) = 1) = False by decide, show ((5 : Int32) = 2) = False by decide, show ((5 : Int32) = 3) = False by decide, show ((5 : Int32) = 4) = False by decide, reduceIte, bS, d6, asN b6]
    · unfold f_X12_count f_X12_count_b109
      simp only [show ((5 : Int32) = 0) = False by decide, show ((5 : Int32) = 1) = False by decide, show ((5 : Int32) = 2) = False by decide, show ((5 : Int32) = 3) = False by decide, show ((5 : Int32) = 4) = False by decide, reduceIte]
      rw [ml _ _ 18 (by decide), ite2 _ _ (fun a b => some (a, b)) b6]
  by_cases o6 : a1 = 6
  · subst o6
    refine stp_read (r := dI D 207 83) ?_ ?_
    · unfold f_L_count f_X11_count f_X3_fuelTaken
      simp only [show ((6 : Int32) = 0) = False by decide, show ((6 : Int32) = 1) = False by decide, show ((6 : Int32) = 2) = False by decide, show ((6 : Int32) = 3) = False by decide, show ((6 : Int32) = 4) = False by decide, show ((6 : Int32) = 5) = False by decide, reduceIte, bS, m6]
    · unfold f_X12_count
      simp only [show ((6 : Int32) = 0) = False by decide, show ((6 : Int32) = 1) = False by decide, show ((6 : Int32) = 2) = False by decide, show ((6 : Int32) = 3) = False by decide, show ((6 : Int32) = 4) = False by decide, show ((6 : Int32) = 5) = False by decide, reduceIte]
      rw [ml _ _ 83 (by decide)]
  by_cases o7 : a1 = 7
  · subst o7
    refine stp_read (r := dI D 207 7) ?_ ?_
    · unfold f_L_count f_X11_count
      simp only [show ((7 : Int32) = 0) = False by decide, show ((7 : Int32) = 1) = False by decide, show ((7 : Int32) = 2) = False by decide, show ((7 : Int32) = 3) = False by decide, show ((7 : Int32) = 4) = False by decide, show ((7 : Int32) = 5) = False by decide, show ((7 : Int32) = 6) = False by decide, reduceIte, bS, d3]
    · unfold f_X12_count
      simp only [show ((7 : Int32) = 0) = False by decide, show ((7 : Int32) = 1) = False by decide, show ((7 : Int32) = 2) = False by decide, show ((7 : Int32) = 3) = False by decide, show ((7 : Int32) = 4) = False by decide, show ((7 : Int32) = 5) = False by decide, show ((7 : Int32) = 6) = False by decide, reduceIte]
      rw [ml _ _ 7 (by decide)]
  by_cases o8 : a1 = 8
  · subst o8
    refine stp_read (r := dI D 207 8) ?_ ?_
    · unfold f_L_count f_X11_count
      simp only [show ((8 : Int32) = 0) = False by decide, show ((8 : Int32) = 1) = False by decide, show ((8 : Int32) = 2) = False by decide, show ((8 : Int32) = 3) = False by decide, show ((8 : Int32) = 4) = False by decide, show ((8 : Int32) = 5) = False by decide, show ((8 : Int32) = 6) = False by decide, show ((8 : Int32) = 7) = False by decide, reduceIte, bS, d4]
    · unfold f_X12_count
      simp only [show ((8 : Int32) = 0) = False by decide, show ((8 : Int32) = 1) = False by decide, show ((8 : Int32) = 2) = False by decide, show ((8 : Int32) = 3) = False by decide, show ((8 : Int32) = 4) = False by decide, show ((8 : Int32) = 5) = False by decide, show ((8 : Int32) = 6) = False by decide, show ((8 : Int32) = 7) = False by decide, reduceIte]
      rw [ml _ _ 8 (by decide)]
  · refine stp_not (r := 1) (by decide) ?_ ?_
    · unfold f_L_count f_X11_count
      simp only [o0, o1, o2, o3, o4, o5, o6, o7, o8, reduceIte, bS]
    · unfold f_X12_count
      simp only [o0, o1, o2, o3, o4, o5, o6, o7, o8, reduceIte, bS, e_X12_fail]
      rfl
theorem code_has {c sz : Nat} {x : Int32} {D : Dat} (h : sz ≤ 64) (hd : dI D c 2 = nn sz) : f_X0_has c x D = some (if 0 ≤ x.toInt ∧ x.toInt < sz then 1 else 0, D) := by
  unfold f_X0_has f_X0_has_b16 f_X0_has_b17
  rw [hd]
  by_cases q : x < 0
  · have := Int32.lt_iff_toInt_lt.mp q
    have e0 : (0 : Int32).toInt = 0 := rfl
    rw [if_pos q, if_pos (by decide), if_neg (by omega)]
  · have q' := not_lt0.mp q
    rw [if_neg q]
    by_cases r : nn sz ≤ x
    · rw [if_pos r]
      rw [Int32.le_iff_toInt_le, nn_int (by omega)] at r
      rw [if_pos (by decide), if_neg (by omega)]
    · rw [if_neg r]
      rw [Int32.le_iff_toInt_le, nn_int (by omega)] at r
      rw [if_pos (by decide), if_pos (by omega)]
theorem code_op {c sz k : Nat} {D : Dat} (h : sz ≤ 64) (hd : dI D c 2 = nn sz) (hk : k < sz) : f_X0_operation c (nn k) D = some (dI D (c + 1) k, D) := by
  unfold f_X0_operation f_X0_operation_b19
  have i1 := nn_in (k := k) (n := 64) (by omega) (by omega)
  have c1 : 0 ≤ (nn k).toInt ∧ (nn k).toInt < sz := by rw [nn_int (by omega)]; omega
  simp only [code_has h hd, bS, c1, and_self, n10, i1, reduceIte]
  rw [nn_nat (by omega)]
theorem code_arg {c sz k : Nat} {D : Dat} (h : sz ≤ 64) (hd : dI D c 2 = nn sz) (hk : k < sz) : f_X0_argument c (nn k) D = some (dI D (c + 2) k, D) := by
  unfold f_X0_argument f_X0_argument_b18
  have i1 := nn_in (k := k) (n := 64) (by omega) (by omega)
  have c1 : 0 ≤ (nn k).toInt ∧ (nn k).toInt < sz := by rw [nn_int (by omega)]; omega
  simp only [code_has h hd, bS, c1, and_self, n10, i1, reduceIte]
  rw [nn_nat (by omega)]
theorem stp_instr {N nu n : Nat} {K : Nat → Nat} {D : Dat} {c sz : Nat} (a1 a2 a3 : Int32) (hC : IC c sz D) : ∃ D', stp_17 N nu n K D a1 a2 a3 = some (K, D') ∧ Ch Pr D D' := by
  obtain ⟨c1, ⟨c2, c3⟩, c4, ⟨c5, c6⟩, c7⟩ := hC
  unfold stp_17
  generalize hw : (if a2 = 0 then (0 : Int32) else 1) = w
  have hb : b01 w := by rw [← hw]; unfold b01; split <;> simp
  rcases num sz a1 with ⟨k, hk, -, rfl⟩ | hbad
  · obtain ⟨e1, e2, -⟩ := c7 k hk
    have q0 : 0 ≤ (nn k).toInt ∧ (nn k).toInt < sz := by rw [nn_int (by omega)]; omega
    have i1 := nn_in (k := k) (n := 64) (by omega) (by omega)
    by_cases h2 : w = 0
    · refine stp_read (r := dI D 212 k) ?_ ?_
      · unfold f_L_instruction f_X11_instruction f_X11_instruction_b42
        simp only [c2, bS, c1, code_has c4 c5, q0, and_self, n10, reduceIte, h2, code_op c4 c5 hk, e1]
      · unfold f_X12_instruction f_X12_instruction_b42
        have q1 : dI (sI (sL D 262 (0 : Int32).toNatClampNeg (dI D 212 k).toInt64) 207 0 0) 207 13 = nn sz := by simp [dI_s, dI_sL, c6]
        rw [q1, out_no (by omega) hk]
        simp only [bS, h2, i1, reduceIte]
        rw [nn_nat (by omega)]
        simp [dI_s, dI_sL]
    · refine stp_read (r := dI D 213 k) ?_ ?_
      · unfold f_L_instruction f_X11_instruction f_X11_instruction_b42
        simp only [c2, bS, c1, code_has c4 c5, q0, and_self, n10, reduceIte, h2, code_arg c4 c5 hk, e2]
      · unfold f_X12_instruction f_X12_instruction_b42
        have q1 : dI (sI (sL D 262 (0 : Int32).toNatClampNeg (dI D 213 k).toInt64) 207 0 0) 207 13 = nn sz := by simp [dI_s, dI_sL, c6]
        rw [q1, out_no (by omega) hk]
        simp only [bS, h2, i1, reduceIte]
        rw [nn_nat (by omega)]
        simp [dI_s, dI_sL]
  · have q0 : ¬ (0 ≤ a1.toInt ∧ a1.toInt < sz) := by omega
    refine stp_not (r := 1) (by decide) ?_ ?_
    · unfold f_L_instruction f_X11_instruction
      simp only [c2, bS, c1, code_has c4 c5, q0, reduceIte]
    · unfold f_X12_instruction
      have q1 : dI (sI D 207 0 0) 207 13 = nn sz := by simp [dI_s, c6]
      rw [q1, out_yes (by omega) hbad]
      simp only [bS, n10, reduceIte, e_X12_fail]
      rfl
