/-! translation: assign, row, in, out -/
theorem tr_plain {N nu P CO nb h cnt bz ez : Nat} {W K : Nat → Nat} {C0 M0 C M : Dat} (hN : 1000 ≤ N) (hE : TE nu P CO nb h cnt bz ez W K C0 M0) {x c i : Nat} (hV : TV CO C0 M0 C M c) (hc : c ≤ 64) (h55 : dI M 207 55 = nn x) (hi : i < cnt) {rec : RtT} (hk : dI C0 (nb + i) 0 = 2 ∨ dI C0 (nb + i) 0 = 4 ∨ dI C0 (nb + i) 0 = 13 ∨ dI C0 (nb + i) 0 = 14) : TSt N nu CO nb h K C0 M0 rec 2 x i C M := by
  obtain ⟨⟨h60, hPP⟩, ⟨h61, hCO⟩, hG, hK7, ⟨hh1, hh2⟩, hNS⟩ := id hE
  obtain ⟨hFs, -, -, ⟨hcnt, hbz, hez⟩, hP5⟩ := hG
  have hNSv : 266 ≤ nb := hNS
  have k7 := hK7 i hi
  have in128 := nn_in (k := 64 * h + i) (n := 128) (by omega) (by omega)
  have cI : ∀ {C1 : Dat} (k : Nat), Ch (TC CO) C0 C1 → dI C1 (nb + i) k = dI C0 (nb + i) k := fun k q => q.i (by unfold TC; omega)
  have mI : ∀ {M1 : Dat} (a : Nat), Ch TM M0 M1 → 216 ≤ a → a ≤ 224 → dI M1 a (64 * h + i) = dI M0 a (64 * h + i) := fun a q g1 g2 => q.i (by unfold TM; omega)
  have u0 : ¬ dI C0 (nb + i) 0 = 16 → ¬ dI C0 (nb + i) 0 = 17 → ¬ dI C0 (nb + i) 0 = 18 → ∀ g, f_X8_goThrough_s_b9 rec N nu K (g + 1) (nn x) (some (nb + i)) C = (f_X8_goOverPlain N nu K (some (nb + i)) C).bind (fun p22 => f_X8_goThrough_s_b96 rec N nu K (f_X8_goThrough_s_b9 rec N nu K g) (nn x) (some (nb + i)) p22) := fun n1 n2 n3 g => by
    rw [f_X8_goThrough_s_b9, oelS, hV.2.2.flag hc, if_pos rfl, if_pos k7, cI 0 hV.1, if_neg n1, if_neg n2, if_neg n3]
  rcases (hFs i hi).1.2 with ⟨q1, q2, ⟨y, y1, y2, y3, y4⟩, e, e1, e2⟩ | ⟨q1, q2, ⟨y, y1, y2, y3, y4⟩, fr, n1, n2, e1, e2, ⟨f1, f2, f3⟩, ⟨f4, f5, f6, f7, f8, f9⟩, x1, x2, -, -⟩ | ⟨q1, q2, ⟨y, y1, y2, y3, y4⟩, ⟨l, l1, l2, l3⟩, fr, z1, z2, z3⟩ | ⟨q1, q2, ⟨l, l1, l2, l3⟩, e, e1, e2⟩ | ⟨q1, -⟩ | ⟨q1, -⟩ | ⟨q1, -⟩
  · have u := u0 (by rw [q1]; decide) (by rw [q1]; decide) (by rw [q1]; decide)
    obtain ⟨C1, M1, c1, a1, a2, a3, a4⟩ := tr_ex (N := N) hN hE hV hi e2
    obtain ⟨C2, M2, b1, b2, b3, b4⟩ := tr_put hE a3 2 (nn y) (by decide)
    refine tr_fin (C' := C2) (M' := M2) hE hV hc h55 hi (fun g => ?_) ?_ b3 (a4.tr b4)
    · rw [u]
      unfold f_X8_goOverPlain f_X8_goOverPlain_b61 f_X8_goOverPlain_b64
      rw [a1, bS, bS, if_pos k7, cI 0 a3.1, q1, if_neg (show ¬ (2 : Int32) = 13 by decide), if_neg (show ¬ (2 : Int32) = 14 by decide), cI 2 a3.1, y2, b1, bS, bS]
    · unfold f_X12_codeThrough
      simp only [if_neg in128]
      rw [nn_nat (by omega), mI 216 hV.2.1 (by omega) (by omega), q2, if_pos rfl, mI 221 hV.2.1 (by omega) (by omega), e1, a2, bS, mI 218 a3.2.1 (by omega) (by omega), y3, b2, bS]
  · have u := u0 (by rw [q1]; decide) (by rw [q1]; decide) (by rw [q1]; decide)
    obtain ⟨C1, M1, M2, c1, a1, a2, a2', a3, a4, a5⟩ := tr_ex2 (N := N) hN hE hV hi f1 f2 f3 (by omega) (by omega) x1 x2
    obtain ⟨C2, M3, b1, b2, b3, b4⟩ := tr_put hE a3 4 (nn y) (by decide)
    refine tr_fin (C' := C2) (M' := M3) hE hV hc h55 hi (fun g => ?_) ?_ b3 (a5.tr b4)
    · rw [u]
      unfold f_X8_goOverPlain f_X8_goOverPlain_b61 f_X8_goOverPlain_b64
      rw [a1, bS, bS, if_pos k7, cI 0 a3.1, q1, if_neg (show ¬ (4 : Int32) = 13 by decide), if_neg (show ¬ (4 : Int32) = 14 by decide), cI 2 a3.1, y2, b1, bS, bS]
    · have m1 : Ch TM M0 M1 := hV.2.1.tr (a4.mono (fun a k q => tmx_TM (x := 0) (tpm_TMx q)))
      unfold f_X12_codeThrough
      simp only [if_neg in128]
      rw [nn_nat (by omega), mI 216 hV.2.1 (by omega) (by omega), q2, if_neg (show ¬ (2 : Int32) = 1 by decide), if_pos rfl, mI 220 hV.2.1 (by omega) (by omega), f4, a2, bS, mI 221 m1 (by omega) (by omega), f5, a2', bS, mI 218 a3.2.1 (by omega) (by omega), y3, b2, bS]
  · have u := u0 (by rw [q1]; decide) (by rw [q1]; decide) (by rw [q1]; decide)
    obtain ⟨C2, M2, b1, b2, b3, b4⟩ := tr_put hE hV 13 (nn l) (by decide)
    obtain ⟨C3, M3, d1, d2, d3, d4⟩ := tr_put hE b3 2 (nn y) (by decide)
    have ex : f_X8_emitExpressions N nu K (some (nb + i)) C = some C := by
      unfold f_X8_emitExpressions
      rw [bS, if_pos k7, show N = (N - 1) + 1 by omega, f_X8_emitExpressions_b5, bS, if_pos k7, cI 4 hV.1, cI 5 hV.1, z2, z3, if_pos ((nn_le (by omega) (by omega)).mpr (Nat.le_refl _))]
    refine tr_fin (C' := C3) (M' := M3) hE hV hc h55 hi (fun g => ?_) ?_ d3 (b4.tr d4)
    · rw [u]
      unfold f_X8_goOverPlain f_X8_goOverPlain_b64
      rw [ex, bS, bS, if_pos k7, cI 0 hV.1, q1, if_pos rfl, cI 3 hV.1, l2, b1, bS, cI 2 b3.1, y2, d1, bS, bS]
    · unfold f_X12_codeThrough
      simp only [if_neg in128]
      rw [nn_nat (by omega), mI 216 hV.2.1 (by omega) (by omega), q2, if_neg (show ¬ (5 : Int32) = 1 by decide), if_neg (show ¬ (5 : Int32) = 2 by decide), if_pos rfl, mI 219 hV.2.1 (by omega) (by omega), l3, b2, bS, mI 218 b3.2.1 (by omega) (by omega), y3, d2, bS]
  · have u := u0 (by rw [q1]; decide) (by rw [q1]; decide) (by rw [q1]; decide)
    obtain ⟨C1, M1, c1, a1, a2, a3, a4⟩ := tr_ex (N := N) hN hE hV hi e2
    obtain ⟨C2, M2, b1, b2, b3, b4⟩ := tr_put hE a3 14 (nn l) (by decide)
    refine tr_fin (C' := C2) (M' := M2) hE hV hc h55 hi (fun g => ?_) ?_ b3 (a4.tr b4)
    · rw [u]
      unfold f_X8_goOverPlain f_X8_goOverPlain_b61 f_X8_goOverPlain_b64
      rw [a1, bS, bS, if_pos k7, cI 0 a3.1, q1, if_neg (show ¬ (14 : Int32) = 13 by decide), if_pos rfl, cI 3 a3.1, l2, b1, bS, bS]
    · unfold f_X12_codeThrough
      simp only [if_neg in128]
      rw [nn_nat (by omega), mI 216 hV.2.1 (by omega) (by omega), q2, if_neg (show ¬ (6 : Int32) = 1 by decide), if_neg (show ¬ (6 : Int32) = 2 by decide), if_neg (show ¬ (6 : Int32) = 5 by decide), if_pos rfl, mI 220 hV.2.1 (by omega) (by omega), e1, a2, bS, mI 219 a3.2.1 (by omega) (by omega), l3, b2, bS]
  · rw [q1] at hk; exact absurd hk (by decide)
  · rw [q1] at hk; exact absurd hk (by decide)
  · rw [q1] at hk; exact absurd hk (by decide)
