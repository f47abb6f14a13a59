/-! translation: the expressions of a statement -/
theorem tr_ex {N nu P CO nb h cnt bz ez : Nat} {W K : Nat → Nat} {C0 M0 C M : Dat} (hN : 1000 ≤ N) (hE : TE nu P CO nb h cnt bz ez W K C0 M0) {i es c : Nat} (hV : TV CO C0 M0 C M c) (hi : i < cnt) (hx : FsE P h bz ez C0 M0 (nb + i) es) : ∃ C' M' c', f_X8_emitExpressions N nu K (some (nb + i)) C = some C' ∧ f_X12_putItems N (nn es) M = some M' ∧ TV CO C0 M0 C' M' c' ∧ Ch TPm M M' := by
  obtain ⟨fr, n, x1, x2, x3, x4, x5, x6, -⟩ := hx
  obtain ⟨-, ⟨h61, hCO⟩, hG, hK7, hh, hNS⟩ := id hE
  obtain ⟨-, -, -, ⟨hcnt, hbz, hez⟩, hP5⟩ := hG
  have hNSv : 266 ≤ nb := hNS
  have k7 := hK7 i hi
  obtain ⟨C', M', c', a1, a2, a3, a4⟩ := tr_it (N := N) hE n fr es c C M x6 x3 (by omega) hV
  refine ⟨C', M', c', ?_, a2 N (by omega), a3, a4⟩
  have k4 : dI C (nb + i) 4 = nn fr := by rw [hV.1.i (by unfold TC; omega)]; exact x1
  have k5 : dI C' (nb + i) 5 = nn (fr + n) := by rw [a3.1.i (by unfold TC; omega)]; exact x2
  have := a1 (N - n - 1 + 1) (nb + i) (fr + n) (by omega) k7 x2 (Nat.le_refl _) (by omega)
  rw [show N - n - 1 + 1 + n = N by omega] at this
  unfold f_X8_emitExpressions
  rw [bS, if_pos k7, k4]
  refine this.trans ?_
  rw [f_X8_emitExpressions_b5, bS, if_pos k7, k5, if_pos ((nn_le (by omega) (by omega)).mpr (Nat.le_refl _))]
theorem tr_ex2 {N nu P CO nb h cnt bz ez : Nat} {W K : Nat → Nat} {C0 M0 C M : Dat} (hN : 1000 ≤ N) (hE : TE nu P CO nb h cnt bz ez W K C0 M0) {i fr n1 n2 e1 e2 c : Nat} (hV : TV CO C0 M0 C M c) (hi : i < cnt) (x1 : dI C0 (nb + i) 4 = nn fr) (x2 : dI C0 (nb + i) 5 = nn (fr + n1 + n2)) (x3 : fr + n1 + n2 ≤ bz) (y1 : e1 + n1 < 520) (y2 : e2 + n2 < 520) (q1 : Ex P C0 M0 fr n1 e1) (q2 : Ex P C0 M0 (fr + n1) n2 e2) : ∃ C' M1 M' c', f_X8_emitExpressions N nu K (some (nb + i)) C = some C' ∧ f_X12_putItems N (nn e1) M = some M1 ∧ f_X12_putItems N (nn e2) M1 = some M' ∧ TV CO C0 M0 C' M' c' ∧ Ch TPm M M1 ∧ Ch TPm M M' := by
  obtain ⟨-, ⟨h61, hCO⟩, hG, hK7, hh, hNS⟩ := id hE
  obtain ⟨-, -, -, ⟨hcnt, hbz, hez⟩, hP5⟩ := hG
  have hNSv : 266 ≤ nb := hNS
  have k7 := hK7 i hi
  obtain ⟨C1, M1, c1, a1, a2, a3, a4⟩ := tr_it (N := N) hE n1 fr e1 c C M q1 (by omega) y1 hV
  obtain ⟨C2, M2, c2, b1, b2, b3, b4⟩ := tr_it (N := N) hE n2 (fr + n1) e2 c1 C1 M1 q2 (by omega) y2 a3
  refine ⟨C2, M1, M2, c2, ?_, a2 N (by omega), b2 N (by omega), b3, a4, a4.tr b4⟩
  have k4 : dI C (nb + i) 4 = nn fr := by rw [hV.1.i (by unfold TC; omega)]; exact x1
  have k5 : dI C2 (nb + i) 5 = nn (fr + n1 + n2) := by rw [b3.1.i (by unfold TC; omega)]; exact x2
  have u1 := a1 (N - n1 - n2 - 1 + 1 + n2) (nb + i) (fr + n1 + n2) (by omega) k7 x2 (by omega) (by omega)
  have u2 := b1 (N - n1 - n2 - 1 + 1) (nb + i) (fr + n1 + n2) (by omega) k7 x2 (Nat.le_refl _) (by omega)
  rw [show N - n1 - n2 - 1 + 1 + n2 + n1 = N by omega] at u1
  unfold f_X8_emitExpressions
  rw [bS, if_pos k7, k4]
  refine u1.trans (u2.trans ?_)
  rw [f_X8_emitExpressions_b5, bS, if_pos k7, k5, if_pos ((nn_le (by omega) (by omega)).mpr (Nat.le_refl _))]
