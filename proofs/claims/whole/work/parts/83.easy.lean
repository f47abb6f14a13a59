/-! drain, output, value, count -/
theorem rd_A {D D' : Dat} (h : Ch Pr D D') (hA : IA D) : IA D' := IA.kept h (fun a k q => by unfold Pr at q; unfold RIA; omega) hA
theorem stp_drain {N nu n : Nat} {K : Nat → Nat} {D : Dat} (a1 a2 a3 : Int32) (hS : IS nu D) (hA : IA D) : ∃ D', stp_12 N nu n K D a1 a2 a3 = some (K, D') ∧ Ch Pf D D' ∧ IA D' := by
  obtain ⟨⟨n1, n2⟩, ⟨d1, d2⟩, -⟩ := hS
  unfold stp_12
  rcases lab n2 a1 with ⟨k, hk, rfl⟩ | hb
  · obtain ⟨⟨m1, m2⟩, ⟨m3, m4⟩, m5, m6⟩ := id hA
    obtain ⟨⟨e1, e2, e3⟩, -⟩ := m5 k (by omega)
    have i1 := nn_in (k := k) (n := 6) (by omega) (by omega)
    have e0 : f_X11_drain (nn k) D = some (.inr (dI D 185 k), sI D 185 k 0) := by
      unfold f_X11_drain f_X3_emptyInput f_X3_emptyInput_b14
      simp only [has_yes n2 hk d1, bS, n10, reduceIte, e_X3_fed (show k < 6 by omega), isMark_yes (show k < 6 by omega), i1]
      rw [nn_nat (by omega)]
    have eL : f_L_drain N nu K (nn k) D = some (0, sL (sI D 185 k 0) 262 (0 : Int32).toNatClampNeg (dI D 185 k).toInt64) := by
      unfold f_L_drain
      rw [e0, bS]
    have eM : f_X12_drain (nn k) (sL (sI D 185 k 0) 262 (0 : Int32).toNatClampNeg (dI D 185 k).toInt64) = some (dI D 255 k, sI (sI (sL (sI D 185 k 0) 262 (0 : Int32).toNatClampNeg (dI D 185 k).toInt64) 207 0 0) 255 k 0) := by
      unfold f_X12_drain
      have q1 : dI (sI (sL (sI D 185 k 0) 262 (0 : Int32).toNatClampNeg (dI D 185 k).toInt64) 207 0 0) 207 1 = nn nu := by simp [dI_s, dI_sL, d2]
      rw [q1, out_no (by omega) hk]
      simp only [bS, i1, reduceIte]
      rw [nn_nat (by omega)]
      simp [dI_s, dI_sL]
    refine ⟨_, stp_ok eL eM (by simp [dI_s]) (fun _ => by rw [dL_sI, dL_sI, e1]; exact fin_b), ?_, ?_⟩
    · exact Ch.sI (by unfold Pf; omega) (Ch.sI (by unfold Pf Pr; omega) (Ch.sL (by unfold Pf Pr; omega) (Ch.sI (by unfold Pf; omega) Ch.rf)))
    · refine ⟨⟨fun j hj => ?_, fun j hj => ?_⟩, ⟨fun j hj => ?_, fun j hj => ?_⟩, fun j hj => ?_, ?_⟩
      · simp [dI_s, dI_sL]; exact m1 j hj
      · simp [dI_s, dI_sL]; exact m2 j hj
      · simp [dI_s, dI_sL]; exact m3 j hj
      · simp [dI_s, dI_sL]; exact m4 j hj
      · simp only [dI_s, dI_sL]
        simp
        by_cases hjk : j = k
        · rw [if_pos hjk, if_pos hjk]
          exact ⟨⟨rfl, by decide, by decide⟩, (m5 j hj).2⟩
        · rw [if_neg hjk, if_neg hjk]
          exact m5 j hj
      · simp [dI_s, dI_sL]; exact m6
  · have e0 : f_X11_drain a1 D = some (.inl 0, D) := by
      unfold f_X11_drain
      simp only [has_no n2 hb d1, bS, reduceIte]
    have eL : f_L_drain N nu K a1 D = some (1, D) := by
      unfold f_L_drain
      rw [e0, bS]
      rfl
    have eM : f_X12_drain a1 D = some (0, mf D 1) := by
      unfold f_X12_drain
      rw [dI_s, if_neg (by omega), d2, out_yes (by omega) hb]
      simp only [bS, n10, reduceIte, e_X12_fail]
      rfl
    exact ⟨_, stp_ok eL eM (by rw [dI_mf, if_pos ⟨rfl, rfl⟩]) (fun h => absurd h (by decide)), Ch.mf (by unfold Pf Pr; omega) Ch.rf, rd_A (Ch.mf (by unfold Pr; omega) Ch.rf) hA⟩
theorem e_X3_written {k : Nat} (h : k < 6) (D : Dat) : f_X3_written (nn k) D = some (dI D 188 k, D) := by
  unfold f_X3_written f_X3_written_b17
  have i1 := nn_in (k := k) (n := 6) (by omega) (by omega)
  simp only [isMark_yes h, bS, n10, i1, reduceIte]
  rw [nn_nat (by omega)]
/-- an answer that is only read -/
theorem stp_read {K : Nat → Nat} {fL : Option (Int32 × Dat)} {fM : Dat → Option (Int32 × Dat)} {D : Dat} {r : Int32} (h1 : fL = some (0, sL D 262 (0 : Int32).toNatClampNeg r.toInt64)) (h2 : fM (sL D 262 (0 : Int32).toNatClampNeg r.toInt64) = some (r, sI (sL D 262 (0 : Int32).toNatClampNeg r.toInt64) 207 0 0)) :
    ∃ D', (fL.bind (fun p => (fM p.2).bind (fun q => (f_X12_thrown q.2).bind (fun r => if r.1 = p.1 ∧ (p.1 = 0 → dL r.2 262 (0 : Int32).toNatClampNeg = q.1.toInt64) then some (K, r.2) else none)))) = some (K, D') ∧ Ch Pr D D' :=
  ⟨_, stp_ok h1 h2 (by simp [dI_s]) (fun _ => by rw [dL_sI]; exact fin_b), Ch.sI (by unfold Pr; omega) (Ch.sL (by unfold Pr; omega) Ch.rf)⟩
/-- a call that is refused -/
theorem stp_not {K : Nat → Nat} {fL : Option (Int32 × Dat)} {fM : Dat → Option (Int32 × Dat)} {D : Dat} {r : Int32} (hr : ¬ r = 0) (h1 : fL = some (r, D)) (h2 : fM D = some (0, mf D r)) :
    ∃ D', (fL.bind (fun p => (fM p.2).bind (fun q => (f_X12_thrown q.2).bind (fun r => if r.1 = p.1 ∧ (p.1 = 0 → dL r.2 262 (0 : Int32).toNatClampNeg = q.1.toInt64) then some (K, r.2) else none)))) = some (K, D') ∧ Ch Pr D D' :=
  ⟨_, stp_ok h1 h2 (by rw [dI_mf, if_pos ⟨rfl, rfl⟩]) (fun h => absurd h hr), Ch.mf (by unfold Pr; omega) Ch.rf⟩
theorem stp_output {N nu n : Nat} {K : Nat → Nat} {D : Dat} (a1 a2 a3 : Int32) (hS : IS nu D) (hA : IA D) : ∃ D', stp_15 N nu n K D a1 a2 a3 = some (K, D') ∧ Ch Pr D D' := by
  obtain ⟨⟨n1, n2⟩, ⟨d1, d2⟩, -⟩ := hS
  unfold stp_15
  rcases lab n2 a1 with ⟨k, hk, rfl⟩ | hb
  · obtain ⟨⟨m1, m2⟩, ⟨m3, m4⟩, m5, m6⟩ := id hA
    obtain ⟨-, e1, e2, e3⟩ := m5 k (by omega)
    obtain ⟨f, hf, ef⟩ := nn_of e2
    rw [ef, nn_int hf] at e3
    have ec : dI D 188 k = nn f := e1.trans ef
    have i1 := nn_in (k := k) (n := 6) (by omega) (by omega)
    by_cases h2 : 0 ≤ a2
    · obtain ⟨j, hj, rfl⟩ := nn_of (le0.mp h2)
      by_cases hjf : j < f
      · have c1 : nn j < nn f := (nn_lt hj hf).mpr hjf
        have c2 : ¬ nn f ≤ nn j := by rw [nn_le hf hj]; omega
        have e9 : nn k * (20 : Int32) + nn j = nn (20 * k + j) := by rw [nn_l, nn_mul, nn_add, Nat.mul_comm]
        have e8 : (20 : Int32) * nn k + nn j = nn (20 * k + j) := by rw [nn_l, nn_mul, nn_add]
        have i2 := nn_in (k := 20 * k + j) (n := 120) (by omega) (by omega)
        refine stp_read (r := dI D 187 (20 * k + j)) ?_ ?_
        · unfold f_L_output f_X11_output f_X3_numberPut f_X3_numberPut_b28
          simp only [has_yes n2 hk d1, bS, n10, reduceIte, h2, e_X3_written (show k < 6 by omega), ec, c1, c2, nn_nlt0 hj, e9, i2]
          rw [nn_nat (by omega)]
        · unfold f_X12_output
          have q1 : dI (sI (sL D 262 (0 : Int32).toNatClampNeg (dI D 187 (20 * k + j)).toInt64) 207 0 0) 207 1 = nn nu := by simp [dI_s, dI_sL, d2]
          rw [q1, out_no (by omega) hk]
          have q2 : dI (sI (sL D 262 (0 : Int32).toNatClampNeg (dI D 187 (20 * k + j)).toInt64) 207 0 0) 258 (nn k).toNatClampNeg = nn f := by rw [nn_nat (by omega)]; simp [dI_s, dI_sL, ef]
          simp only [bS, h2, i1, q2, c1, e8, i2, reduceIte]
          rw [nn_nat (by omega), m4 (20 * k + j) (by omega)]
          simp [dI_s, dI_sL]
      · have c1 : ¬ nn j < nn f := by rw [nn_lt hj hf]; omega
        refine stp_not (r := 2) (by decide) ?_ ?_
        · unfold f_L_output f_X11_output
          simp only [has_yes n2 hk d1, bS, n10, reduceIte, h2, e_X3_written (show k < 6 by omega), ec, c1]
          rfl
        · unfold f_X12_output
          have q1 : dI (sI D 207 0 0) 207 1 = nn nu := by simp [dI_s, d2]
          rw [q1, out_no (by omega) hk]
          have q2 : dI (sI D 207 0 0) 258 (nn k).toNatClampNeg = nn f := by rw [nn_nat (by omega)]; simp [dI_s, ef]
          simp only [bS, h2, i1, q2, c1, reduceIte, e_X12_fail]
          rfl
    · refine stp_not (r := 1) (by decide) ?_ ?_
      · unfold f_L_output f_X11_output f_X11_output_b15
        simp only [has_yes n2 hk d1, bS, n10, reduceIte, h2]
      · unfold f_X12_output f_X12_output_b21
        have q1 : dI (sI D 207 0 0) 207 1 = nn nu := by simp [dI_s, d2]
        rw [q1, out_no (by omega) hk]
        simp only [bS, h2, reduceIte, e_X12_fail]
        rfl
  · refine stp_not (r := 1) (by decide) ?_ ?_
    · unfold f_L_output f_X11_output f_X11_output_b15
      simp only [has_no n2 hb d1, bS, reduceIte]
    · unfold f_X12_output f_X12_output_b21
      have q1 : dI (sI D 207 0 0) 207 1 = nn nu := by simp [dI_s, d2]
      rw [q1, out_yes (by omega) hb]
      simp only [bS, n10, reduceIte, e_X12_fail]
      rfl
/-- a number below m or not -/
theorem num (m : Nat) (x : Int32) : (∃ k, k < m ∧ k < 2147483648 ∧ x = nn k) ∨ (x.toInt < 0 ∨ (m : Int) ≤ x.toInt) := by
  by_cases h : 0 ≤ x.toInt ∧ x.toInt < m
  · obtain ⟨k, hk, rfl⟩ := nn_of h.1
    rw [nn_int hk] at h
    exact Or.inl ⟨k, by omega, hk, rfl⟩
  · exact Or.inr (by omega)
theorem e_X3_cell {k : Nat} (h : k < 234) (D : Dat) : f_X3_cell (nn k) D = some (dI D 182 k, D) := by
  unfold f_X3_cell f_X3_cell_b20 f_X3_cell_b21
  have c1 : ¬ 234 ≤ nn k := by rw [nn_l, nn_le (by omega) (by omega)]; omega
  have i1 := nn_in (k := k) (n := 234) (by omega) (by omega)
  rw [if_neg (nn_nlt0 (by omega)), if_neg c1, if_neg i1, nn_nat (by omega)]
theorem stp_value {N nu n : Nat} {K : Nat → Nat} {D : Dat} (a1 a2 a3 : Int32) (hA : IA D) : ∃ D', stp_16 N nu n K D a1 a2 a3 = some (K, D') ∧ Ch Pr D D' := by
  unfold stp_16
  obtain ⟨⟨m1, m2⟩, -⟩ := id hA
  rcases num 234 a1 with ⟨k, hk, -, rfl⟩ | hb
  · have c1 : ¬ 234 ≤ nn k := by rw [nn_l, nn_le (by omega) (by omega)]; omega
    have i0 := nn_in (k := k) (n := 234) (by omega) (by omega)
    have hc : f_X3_isCell (nn k) D = some (1, D) := by rw [e_X3_isCell, if_neg (nn_nlt0 (by omega)), if_neg c1]
    refine stp_read (r := dI D 182 k) ?_ ?_
    · unfold f_L_value f_X11_value
      simp only [hc, bS, n10, reduceIte, e_X3_cell (show k < 234 by omega)]
    · unfold f_X12_value f_X12_value_b46
      rw [show (234 : Int32) = nn 234 from rfl, out_no (by omega) hk]
      by_cases h26 : 26 ≤ k
      · have c2 : (26 : Int32) ≤ nn k := by rw [nn_l, nn_le (by omega) (by omega)]; exact h26
        have e9 : nn k - (26 : Int32) = nn (k - 26) := by rw [nn_l]; exact nn_sub h26 (by omega)
        have i1 := nn_in (k := k - 26) (n := 208) (by omega) (by omega)
        simp only [bS, c2, e9, i1, reduceIte]
        rw [nn_nat (by omega)]
        have := m2 (k - 26) (by omega)
        rw [show 26 + (k - 26) = k by omega] at this
        rw [this]
        simp [dI_s, dI_sL]
      · have c2 : ¬ (26 : Int32) ≤ nn k := by rw [nn_l, nn_le (by omega) (by omega)]; exact h26
        have i1 := nn_in (k := k) (n := 26) (by omega) (by omega)
        simp only [bS, c2, i1, reduceIte]
        rw [nn_nat (by omega), m1 k (by omega)]
        simp [dI_s, dI_sL]
  · have hc : f_X3_isCell a1 D = some (0, D) := by
      rw [e_X3_isCell]
      by_cases q : a1 < 0
      · rw [if_pos q]
      · rw [if_neg q, if_pos]
        rw [Int32.le_iff_toInt_le]
        have := not_lt0.mp q
        show (234 : Int) ≤ _
        omega
    refine stp_not (r := 1) (by decide) ?_ ?_
    · unfold f_L_value f_X11_value
      simp only [hc, bS, reduceIte]
    · unfold f_X12_value
      rw [show (234 : Int32) = nn 234 from rfl, out_yes (by omega) hb]
      simp only [bS, n10, reduceIte, e_X12_fail]
      rfl
theorem asN {x : Int32} (h : b01 x) (D : Dat) : f_X11_asNumber x D = some (x, D) := by
  unfold f_X11_asNumber f_X11_asNumber_b9
  rcases h with h | h <;> rw [h] <;> simp
theorem sealed_e {D : Dat} (h : b01 (dI D 1 2)) : f_X2_isSealed D = some (dI D 1 2, D) := by
  unfold f_X2_isSealed
  rw [if_pos (b01_and h)]
theorem b01_ite {x : Int32} (h : b01 x) : (if x = 0 then (0 : Int32) else 1) = x := by
  rcases h with h | h <;> rw [h] <;> decide
