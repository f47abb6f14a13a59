/-! map, region -/
theorem hasH_e {D : Dat} {i : Nat} (h : i < 64) : f_X9_hasHeight (nn i) D = some (if mm (dL D 107 5) i then 1 else 0, D) := by
  unfold f_X9_hasHeight
  rw [e_holds _ h, bS]
  dsimp only
  cases mm (dL D 107 5) i with
  | true => exact if_pos b1_1
  | false => exact if_pos b0_1
theorem held_e {D : Dat} {i k : Nat} (hi : i < 64) (hk : k < 56) : f_X9_heldAt (nn i) (nn k) D = some (dI D (116 + i) k, D) := by
  unfold f_X9_heldAt f_X9_heldAt_b32
  rw [if_neg (show ¬ nn i < 0 from fun w => by have := Int32.lt_iff_toInt_lt.mp w; rw [nn_int (by omega)] at this; exact absurd this (by simp)), if_neg (show ¬ (64 : Int32) ≤ nn i from fun w => by have := (nn_le (a := 64) (by omega) (by omega)).mp w; omega), if_neg (show ¬ nn k < 0 from fun w => by have := Int32.lt_iff_toInt_lt.mp w; rw [nn_int (by omega)] at this; exact absurd this (by simp)), if_neg (show ¬ (56 : Int32) ≤ nn k from fun w => by have := (nn_le (a := 56) (by omega) (by omega)).mp w; omega), if_neg (nn_in (by omega) hi), if_neg (nn_in (by omega) hk), nn_nat (by omega), nn_nat (by omega)]
def mr (D : Dat) (i k h : Nat) : Int32 := if 26 ≤ k then (if k = 26 then dI D 249 i else if k = 27 then dI D 245 i else if h ≤ k - 28 then -1 else dI D 250 (56 * i + (k - 2))) else dI D 250 (56 * i + k)
theorem mapped_C {N nu i h k : Nat} {K : Nat → Nat} {D : Dat} {hv : Nat → Option Nat} (hN : 1000 ≤ N) (hn : nu ≤ 6) (hd : dI D 1 0 = nn nu) (hL : Lat nu D) (hs : dI D 207 5 = 1) (hB : Bd hv) (h1 : ∀ i, i < 64 → dI D 113 i = hI (hv i) ∧ dI D 245 i = hI (hv i) ∧ (mm (dL D 107 5) i = true ↔ ¬ hv i = none)) (hi : i < 64) (hk : k < 58) (hh : hv i = some h)
    (h2 : (∃ d, d < nu ∧ dI D 114 i = nn (sh nu D d) ∧ dI D 249 i = nn d) ∧ (∀ k, k < 26 + h → ∃ d, d < nu ∧ dI D (116 + i) k = nn (sh nu D d) ∧ dI D 250 (56 * i + k) = nn d)) :
    f_X9_mapped N nu K (nn i) (nn k) D = some (mr D i k h, D) := by
  obtain ⟨⟨d, d1, d2, d3⟩, hM⟩ := h2
  have hb := hB i h hh
  obtain ⟨g1, g2, g3⟩ := h1 i hi
  have e5 : mm (dL D 107 5) i = true := g3.mpr (by rw [hh]; simp)
  have n26 : ((26 : Int32) ≤ nn k) ↔ 26 ≤ k := nn_le (a := 26) (by omega) (by omega)
  have q26 : (nn k = (26 : Int32)) ↔ k = 26 := nn_eq (b := 26) (by omega) (by omega)
  have q27 : (nn k = (27 : Int32)) ↔ k = 27 := nn_eq (b := 27) (by omega) (by omega)
  have i1 := nn_in (k := i) (n := 64) (by omega) hi
  unfold f_X9_mapped mr
  rw [hasH_e hi, e5, bS]
  simp only [n10, reduceIte]
  by_cases c1 : 26 ≤ k
  · rw [if_pos (n26.mpr c1), if_pos c1]
    by_cases c2 : k = 26
    · rw [if_pos (q26.mpr c2), if_pos c2, if_neg i1, nn_nat (by omega), d2, e_labelOf hN hn hd hL hs d1, bS, d3]
    · rw [if_neg (fun w => c2 (q26.mp w)), if_neg c2]
      by_cases c3 : k = 27
      · rw [if_pos (q27.mpr c3), if_pos c3, if_neg i1, nn_nat (by omega), g1, g2]
      · have e1 : nn k - (26 : Int32) = nn (k - 26) := nn_sub (b := 26) c1 (by omega)
        have e2 : nn (k - 26) - (2 : Int32) = nn (k - 28) := nn_sub (b := 2) (by omega) (by omega)
        have e3 : (26 : Int32) + nn (k - 28) = nn (k - 2) := by rw [show (26 : Int32) = nn 26 from rfl, nn_add]; congr 1; omega
        have e4 : dI D 113 i = nn h := by rw [g1, hh]; rfl
        rw [if_neg (fun w => c3 (q27.mp w)), if_neg c3, if_neg i1, nn_nat (by omega), e1, e2, e3, e4]
        by_cases c4 : h ≤ k - 28
        · rw [if_pos ((nn_le (by omega) (by omega)).mpr c4), if_pos c4]
          rfl
        · obtain ⟨d', f1, f2, f3⟩ := hM (k - 2) (by omega)
          rw [if_neg (fun w => c4 ((nn_le (by omega) (by omega)).mp w)), if_neg c4, held_e hi (by omega), bS]
          dsimp only
          rw [f2, e_labelOf hN hn hd hL hs f1, bS, f3]
          rfl
  · obtain ⟨d', f1, f2, f3⟩ := hM k (by omega)
    rw [if_neg (fun w => c1 (n26.mp w)), if_neg c1, held_e hi (by omega), bS]
    dsimp only
    rw [f2, e_labelOf hN hn hd hL hs f1, bS, f3]
theorem map_M {i h k sz : Nat} {D : Dat} (h17 : dI D 207 17 = 1) (h13 : dI D 207 13 = nn sz) (hz : sz ≤ 64) (hi : i < sz) (hk : k < 58) (hh : h ≤ 30) (h245 : dI D 245 i = nn h) : f_X12_map (nn i) (nn k) D = some (mr D i k h, sI D 207 0 0) := by
  have n26 : ((26 : Int32) ≤ nn k) ↔ 26 ≤ k := nn_le (a := 26) (by omega) (by omega)
  have q26 : (nn k = (26 : Int32)) ↔ k = 26 := nn_eq (b := 26) (by omega) (by omega)
  have q27 : (nn k = (27 : Int32)) ↔ k = 27 := nn_eq (b := 27) (by omega) (by omega)
  have i1 := nn_in (k := i) (n := 64) (by omega) (by omega)
  have i2 : ¬ (nn i < 0 ∨ 64 ≤ i) := by rw [nn_nat (by omega)] at i1; exact i1
  have s17 : dI (sI D 207 0 0) 207 17 = 1 := by rw [dI_s, if_neg (by omega)]; exact h17
  have s13 : dI (sI D 207 0 0) 207 13 = nn sz := by rw [dI_s, if_neg (by omega)]; exact h13
  have so : ∀ a j, a ≠ 207 → dI (sI D 207 0 0) a j = dI D a j := fun a j h => by rw [dI_s, if_neg (fun w => h w.1)]
  have e0 : (56 : Int32) * nn i + nn k = nn (56 * i + k) := by rw [show (56 : Int32) = nn 56 from rfl, nn_mul, nn_add]
  unfold f_X12_map mr
  rw [show f_X12_out (nn k) 58 (sI D 207 0 0) = _ from out_no (m := 58) (by omega) hk _, bS]
  simp only [reduceIte]
  rw [s17, if_neg (by decide), s13, out_no (by omega) hi, bS]
  simp only [reduceIte]
  rw [if_neg i1, nn_nat (by omega), so 245 i (by omega), h245, if_pos (show (0 : Int32) ≤ nn h from (nn_le (a := 0) (by omega) (by omega)).mpr (Nat.zero_le _))]
  by_cases c1 : 26 ≤ k
  · rw [if_pos (n26.mpr c1), if_pos c1]
    by_cases c2 : k = 26
    · rw [if_pos (q26.mpr c2), if_pos c2, if_neg i2, so 249 i (by omega)]
    · rw [if_neg (fun w => c2 (q26.mp w)), if_neg c2]
      by_cases c3 : k = 27
      · rw [if_pos (q27.mpr c3), if_pos c3, if_neg i2]
      · have e1 : nn k - (28 : Int32) = nn (k - 28) := nn_sub (b := 28) (by omega) (by omega)
        have e2 : nn (56 * i + k) - (2 : Int32) = nn (56 * i + (k - 2)) := by rw [show (2 : Int32) = nn 2 from rfl, nn_sub (by omega) (by omega)]; congr 1; omega
        rw [if_neg (fun w => c3 (q27.mp w)), if_neg c3, if_neg i2, e1, e0, e2]
        by_cases c4 : h ≤ k - 28
        · rw [if_pos ((nn_le (by omega) (by omega)).mpr c4), if_pos c4]
          rfl
        · rw [if_neg (fun w => c4 ((nn_le (by omega) (by omega)).mp w)), if_neg c4, if_neg (nn_in (n := 3584) (by omega) (by omega)), nn_nat (by omega), so 250 _ (by omega)]
          rfl
  · rw [if_neg (fun w => c1 (n26.mp w)), if_neg c1, e0, if_neg (nn_in (n := 3584) (by omega) (by omega)), nn_nat (by omega), so 250 _ (by omega)]
theorem stp_map {N nu n c sz : Nat} {K : Nat → Nat} {D : Dat} (hN : 1000 ≤ N) (a1 a2 a3 : Int32) (hS : IS nu D) (hL : Lat nu D) (hC : IC c sz D) (hV : dI D 207 17 = 1 → IVm nu sz D ∧ dI D 207 5 = 1) : ∃ D', stp_9 N nu n K D a1 a2 a3 = some (K, D') ∧ Ch Pr D D' := by
  obtain ⟨⟨n1, n2⟩, ⟨d1, d2⟩, -, -, -, ⟨m1, m2⟩, -⟩ := id hS
  obtain ⟨c1, ⟨c2, -⟩, hz, ⟨c5, c6⟩, -⟩ := id hC
  have hm : f_X9_hasMaps D = some (dI D 207 17, D) := by
    unfold f_X9_hasMaps
    rw [m1]
    rcases m2 with w | w <;> rw [w]
    · exact if_pos b0_1
    · exact if_pos b1_1
  have lt0 : ∀ x : Int32, (x < 0) ↔ x.toInt < 0 := fun x => Int32.lt_iff_toInt_lt
  have lt58 : ∀ x : Int32, (x < 58) ↔ x.toInt < 58 := fun x => Int32.lt_iff_toInt_lt
  unfold stp_9
  rcases num 58 a2 with ⟨k, hk, -, rfl⟩ | hbad
  · have g1 : ¬ nn k < 0 := by rw [lt0, nn_int (by omega)]; omega
    have g2 : nn k < 58 := by rw [lt58, nn_int (by omega)]; omega
    rcases m2 with w17 | w17
    · -- no maps
      refine stp_not (r := 2) (by decide) ?_ ?_
      · unfold f_L_map f_X11_map
        rw [if_neg g1, if_pos g2, hm, w17, bS]
        simp only [reduceIte]
        rfl
      · unfold f_X12_map
        rw [show f_X12_out (nn k) 58 (sI D 207 0 0) = _ from out_no (m := 58) (by omega) hk _, bS]
        simp only [reduceIte]
        rw [if_pos (by rw [dI_s, if_neg (by omega)]; exact w17)]
        rfl
    · obtain ⟨⟨hv, hB, h1, -, h3⟩, hsl⟩ := hV w17
      rcases num sz a1 with ⟨i, hi, -, rfl⟩ | hbad1
      · have q0 : 0 ≤ (nn i).toInt ∧ (nn i).toInt < sz := by rw [nn_int (by omega)]; omega
        have lf : f_L_map N nu K (nn i) (nn k) D = (f_X9_mapped N nu K (nn i) (nn k) D).bind (fun p => some (0, sL p.2 262 (0 : Int32).toNatClampNeg p.1.toInt64)) := by
          unfold f_L_map f_X11_map
          rw [if_neg g1, if_pos g2, hm, w17, bS]
          simp only [n10, reduceIte]
          rw [c2, bS, if_pos c1, code_has hz c5, if_pos q0, bS]
          simp only [n10, reduceIte]
          cases f_X9_mapped N nu K (nn i) (nn k) D <;> rfl
        cases hh : hv i with
        | none =>
          refine stp_read (r := -2) ?_ ?_
          · rw [lf]
            unfold f_X9_mapped
            rw [hasH_e (by omega), show mm (dL D 107 5) i = false from Bool.eq_false_iff.mpr (fun w => (h1 i (by omega)).2.2.mp w hh), bS]
            rfl
          · unfold f_X12_map
            rw [show f_X12_out (nn k) 58 _ = _ from out_no (m := 58) (by omega) hk _, bS]
            simp only [reduceIte]
            rw [if_neg (by rw [dI_s, if_neg (by omega), dI_sL, w17]; decide), show dI (sI (sL D 262 (0 : Int32).toNatClampNeg (-2 : Int32).toInt64) 207 0 0) 207 13 = nn sz by rw [dI_s, if_neg (by omega), dI_sL]; exact c6, out_no (by omega) hi, bS]
            simp only [reduceIte]
            rw [if_neg (nn_in (n := 64) (by omega) (by omega)), if_neg]
            rw [nn_nat (by omega), dI_s, if_neg (by omega), dI_sL, (h1 i (by omega)).2.1, hh]
            decide
        | some h =>
          have hmr : mr (sL D 262 (0 : Int32).toNatClampNeg (mr D i k h).toInt64) i k h = mr D i k h := rfl
          refine stp_read (r := mr D i k h) ?_ ?_
          · rw [lf, mapped_C (N := N) hN n2 d1 hL hsl hB h1 (by omega) hk hh ⟨(h3 i h hh).2.1, (h3 i h hh).2.2.1⟩]
            rfl
          · rw [map_M (sz := sz) (h := h) (by rw [dI_sL]; exact w17) (by rw [dI_sL]; exact c6) hz hi hk (hB i h hh) (by rw [dI_sL, (h1 i (by omega)).2.1, hh]; rfl), hmr]
      · have q0 : ¬ (0 ≤ a1.toInt ∧ a1.toInt < sz) := by omega
        refine stp_not (r := 3) (by decide) ?_ ?_
        · unfold f_L_map f_X11_map
          rw [if_neg g1, if_pos g2, hm, w17, bS]
          simp only [n10, reduceIte]
          rw [c2, bS, if_pos c1, code_has hz c5, if_neg q0, bS]
          rfl
        · unfold f_X12_map
          rw [show f_X12_out (nn k) 58 _ = _ from out_no (m := 58) (by omega) hk _, bS]
          simp only [reduceIte]
          rw [if_neg (by rw [dI_s, if_neg (by omega), w17]; decide), show dI (sI D 207 0 0) 207 13 = nn sz by rw [dI_s, if_neg (by omega)]; exact c6, out_yes (by omega) hbad1, bS]
          rfl
  · refine stp_not (r := 1) (by decide) ?_ ?_
    · unfold f_L_map f_X11_map f_X11_map_b10
      by_cases w : a2 < 0
      · rw [if_pos w]; rfl
      · rw [if_neg w, if_neg (by rw [lt58]; rw [lt0] at w; omega)]; rfl
    · unfold f_X12_map
      rw [show f_X12_out a2 58 _ = _ from out_yes (m := 58) (by omega) hbad _, bS]
      rfl
