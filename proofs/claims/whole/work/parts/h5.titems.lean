/-! translation: expressions -/
theorem tr_it {N nu P CO nb h cnt bz ez : Nat} {W K : Nat → Nat} {C0 M0 : Dat} (hE : TE nu P CO nb h cnt bz ez W K C0 M0) : ∀ (n fr e c : Nat) (C M : Dat), Ex P C0 M0 fr n e → fr + n ≤ bz → e + n < 520 → TV CO C0 M0 C M c → ∃ C' M' c', (∀ g a to, 266 ≤ a → kd K a = 7 → dI C0 a 5 = nn to → fr + n ≤ to → to ≤ 240 → f_X8_emitExpressions_b5 N nu K (g + n) (some a) (nn fr) C = f_X8_emitExpressions_b5 N nu K g (some a) (nn (fr + n)) C') ∧ (∀ g, n < g → f_X12_putItems_b2 N g (nn e) M = some M') ∧ TV CO C0 M0 C' M' c' ∧ Ch TPm M M' := by
  intro n
  induction n with
  | zero =>
    intro fr e c C M hx hfr he hV
    refine ⟨C, M, c, fun g a to _ _ _ _ _ => rfl, fun g hg => ?_, hV, Ch.rf⟩
    have mO : dI M 225 e = -1 := by rw [hV.2.1.i (by unfold TM; omega)]; exact hx.2
    rw [show g = (g - 1) + 1 by omega, f_X12_putItems_b2, if_neg (nn_in (by omega) (by omega)), nn_nat (by omega), mO, if_pos (by decide)]
  | succ n ih =>
    intro fr e c C M hx hfr he hV
    obtain ⟨⟨h60, hP⟩, ⟨h61, hCO⟩, hG, -⟩ := id hE
    obtain ⟨-, -, -, ⟨-, hbz, -⟩, hP5⟩ := hG
    have hx' : Ex P C0 M0 (fr + 1) n (e + 1) := ⟨fun i hi => by rw [show fr + 1 + i = fr + (i + 1) by omega, show e + 1 + i = e + (i + 1) by omega]; exact hx.1 (i + 1) (by omega), by rw [show e + 1 + n = e + (n + 1) by omega]; exact hx.2⟩
    obtain ⟨op, o1, o2, o3, o4, -⟩ := hx.1 0 (by omega)
    have hop : op < 11 := by omega
    have cP5 : dI C P 5 = nn bz := by rw [hV.1.i (by unfold TC; omega)]; exact hP5
    have d0 : dR C 106 0 = some P := by rw [hV.1.r (by unfold TC; omega)]; exact h60
    have fop := e4_op (t := P) cP5 (show fr < bz by omega) hbz
    have far := e4_arg (t := P) cP5 (show fr < bz by omega) hbz
    rw [hV.1.i (by unfold TC; omega), show dI C0 (P + 3) fr = nn op from o1] at fop
    rw [hV.1.i (by unfold TC; omega), show dI C0 (P + 4) fr = dI M0 226 e from o3] at far
    obtain ⟨C1, M1, p1, p2, p3, p4⟩ := tr_put hE hV (nn op) (dI M0 226 e) (by rw [nn_int (by omega)]; omega)
    obtain ⟨C2, M2, c2, q1, q2, q3, q4⟩ := ih (fr + 1) (e + 1) _ C1 M1 hx' (by omega) (by omega) p3
    refine ⟨C2, M2, c2, fun g a to ha ka k5 kto k240 => ?_, fun g hg => ?_, q3, p4.tr q4⟩
    · have k5' : dI C a 5 = nn to := by rw [hV.1.i (by unfold TC; omega)]; exact k5
      rw [show g + (n + 1) = g + n + 1 by omega, f_X8_emitExpressions_b5, bS, if_pos ka, k5', if_neg (show ¬ nn to ≤ nn fr from fun q => by have := (nn_le (by omega) (by omega)).mp q; omega), d0, bS, if_pos hP, fop, bS]
      show ((dR C 106 0)).bind _ = _
      rw [d0, bS, if_pos hP, far, bS]
      show (f_X8_emit (nn op) (dI M0 226 e) C).bind _ = _
      rw [p1, bS, nn_1, q1 g a to ha ka k5 (by omega) k240, show fr + 1 + n = fr + (n + 1) by omega]
    · have mO : dI M 225 e = nn op := by rw [hV.2.1.i (by unfold TM; omega)]; exact o2
      have mA : dI M 226 e = dI M0 226 e := hV.2.1.i (by unfold TM; omega)
      rw [show g = (g - 1) + 1 by omega, f_X12_putItems_b2]
      simp only [if_neg (nn_in (k := e) (n := 520) (by omega) (by omega))]
      rw [nn_nat (by omega), mO, mA, if_neg (nn_nlt0 (by omega)), p2, bS, nn_1]
      exact q2 (g - 1) (by omega)
