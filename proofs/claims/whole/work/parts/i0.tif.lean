/-! translation: do, while, if -/
def TL (N CO : Nat) (C0 M0 : Dat) (B x : Nat) (s : Int32) (M : Dat) (r : Option Dat) : Prop := ∃ C' M' c' k, k ≤ B ∧ r = some C' ∧ TV CO C0 M0 C' M' c' ∧ TGo N x c' k s (-1) M M'
def RecT (N CO nb h cnt : Nat) (W : Nat → Nat) (C0 M0 : Dat) (rec : RtT) (B x w : Nat) : Prop := (∀ r s c C M, Lk nb h cnt r s → (∀ i, r = some (nb + i) → W i + 5 ≤ 5 * w + 4) → TV CO C0 M0 C M c → c ≤ 64 → dI M 207 55 = nn (x + 1) → TL N CO C0 M0 B (x + 1) s M (rec r (nn (x + 1)) C)) ∧ ∀ r y C, dI C 106 2 = 1 → rec r y C = some C
theorem tmx_mono {x a k : Nat} (h : TMx (x + 1) a k) : TMx x a k := by unfold TMx at h ⊢; omega
theorem TE.cs {N nu P CO nb h cnt bz ez : Nat} {W K : Nat → Nat} {C0 M0 C' : Dat} (hE : TE nu P CO nb h cnt bz ez W K C0 M0) {i : Nat} (hi : i < cnt) {rec : RtT} (hC : Ch (TC CO) C0 C') (g : Nat) (y : Int32) : f_X8_goThrough_s_b96 rec N nu K (f_X8_goThrough_s_b9 rec N nu K g) y (some (nb + i)) C' = f_X8_goThrough_s_b9 rec N nu K g y (dR C0 (nb + i) 9) C' := by
  obtain ⟨-, ⟨h61, hCO⟩, -, hK7, -, hNS⟩ := hE
  have hNSv : 266 ≤ nb := hNS
  unfold f_X8_goThrough_s_b96
  rw [bS, if_pos (hK7 i hi), hC.r (by unfold TC; omega)]
theorem tr_do {N nu P CO nb h cnt bz ez B : Nat} {W K : Nat → Nat} {C0 M0 C M : Dat} (hE : TE nu P CO nb h cnt bz ez W K C0 M0) {x c i w : Nat} (hV : TV CO C0 M0 C M c) (hc : c ≤ 64) (h55 : dI M 207 55 = nn x) (hi : i < cnt) {rec : RtT} (hx : x ≤ 47) (hW : W i ≤ 5 * w + 4) (hrec : RecT N CO nb h cnt W C0 M0 rec B x w) (hk : dI C0 (nb + i) 0 = 18) : TSt N nu CO nb h K C0 M0 rec (B + 2) x i C M := by
  obtain ⟨⟨h60, hPP⟩, ⟨h61, hCO⟩, hG, hK7, ⟨hh1, hh2⟩, hNS⟩ := id hE
  obtain ⟨hFs, -, hPr, ⟨hcnt, hbz, hez⟩, hP5⟩ := hG
  have hNSv : 266 ≤ nb := hNS
  have k7 := hK7 i hi
  have hC := hV.1
  have hM := hV.2.1
  have in128 := nn_in (k := 64 * h + i) (n := 128) (by omega) (by omega)
  have hq : dI M0 216 (64 * h + i) = 7 ∧ ∃ y, y < 26 ∧ dI C0 (nb + i) 2 = nn y ∧ dI M0 218 (64 * h + i) = nn y ∧ dI M0 229 y = 5 := by
    rcases (hFs i hi).1.2 with ⟨q, -⟩ | ⟨q, -⟩ | ⟨q, -⟩ | ⟨q, -⟩ | ⟨q, -⟩ | ⟨q, -⟩ | ⟨q, q2, q3⟩
    · rw [q] at hk; exact absurd hk (by decide)
    · rw [q] at hk; exact absurd hk (by decide)
    · rw [q] at hk; exact absurd hk (by decide)
    · rw [q] at hk; exact absurd hk (by decide)
    · rw [q] at hk; exact absurd hk (by decide)
    · rw [q] at hk; exact absurd hk (by decide)
    · exact ⟨q2, q3⟩
  obtain ⟨q2, y, y1, y2, y3, y4⟩ := hq
  have hLk := hPr y y1 y4
  obtain ⟨Mp, p1, p2, p3, p4, p5, -⟩ := fl_push (k := 7) (m := nn (64 * h + i)) (show x < 300 by omega) h55
  have pM : Ch TM M0 Mp := hM.tr (p2.mono (fun a k q => by unfold TM; omega))
  have hVp : TV CO C0 M0 C Mp c := ⟨hC, pM, hV.2.2.mv (fun a k q => by unfold TPm at q; rw [p2.i (by omega)])⟩
  have ft : f_X12_codeThrough N (nn (64 * h + i)) M = some (dI M0 227 (26 * h + y), Mp) := by
    have e35 : dI Mp 207 35 = nn h := by rw [pM.i (by unfold TM; omega)]; exact hh2
    have e18 : dI Mp 218 (64 * h + i) = nn y := by rw [pM.i (by unfold TM; omega)]; exact y3
    unfold f_X12_codeThrough
    simp only [if_neg in128]
    rw [nn_nat (by omega), hM.i (by unfold TM; omega), q2, if_neg (show ¬ (7 : Int32) = 1 by decide), if_neg (show ¬ (7 : Int32) = 2 by decide), if_neg (show ¬ (7 : Int32) = 5 by decide), if_neg (show ¬ (7 : Int32) = 6 by decide), if_pos rfl, p1, bS, e35, e18, show (26 : Int32) * nn h + nn y = nn (26 * h + y) by rw [nn_l, nn_mul, nn_add], if_neg (nn_in (by omega) (by omega)), nn_nat (by omega), pM.i (by unfold TM; omega)]
  have cs : ∀ g, f_X8_goThrough_s_b9 rec N nu K (g + 1) (nn x) (some (nb + i)) C = (rec (dR C0 (P + 1) y) (nn (x + 1)) C).bind (fun p20 => f_X8_goThrough_s_b96 rec N nu K (f_X8_goThrough_s_b9 rec N nu K g) (nn x) (some (nb + i)) p20) := by
    intro g
    rw [f_X8_goThrough_s_b9, oelS, hV.2.2.flag hc, if_pos rfl, if_pos k7, hC.i (by unfold TC; omega), hk, if_neg (show ¬ (18 : Int32) = 16 by decide), if_neg (show ¬ (18 : Int32) = 17 by decide), if_pos rfl, hC.r (by unfold TC; omega), h60, bS, if_pos hPP, hC.i (by unfold TC; omega), y2, e4_proc y1, bS, hC.r (by unfold TC; omega), nn_1]
  have hw : ∀ i', dR C0 (P + 1) y = some (nb + i') → W i' + 5 ≤ 5 * w + 4 := fun i' q => by
    have := ((hFs i hi).2.2.1.2 hk y y1 y2 i' q).2
    omega
  obtain ⟨C', M', c', k, r1, r2, r3, r4⟩ := hrec.1 (dR C0 (P + 1) y) (dI M0 227 (26 * h + y)) c C Mp hLk hw hVp hc p3
  rcases r4 with ⟨u1, u2, u3, u4⟩ | ⟨u1, u2⟩
  · have s8 : dI M' 238 x = 7 := by rw [u4.i (by unfold TMx; omega)]; exact p4
    have s9 : dI M' 239 x = nn (64 * h + i) := by rw [u4.i (by unfold TMx; omega)]; exact p5
    refine ⟨C', sI M' 207 55 (nn x), c', k + 2, by omega, fun g => by rw [cs, r2, bS, hE.cs hi r3.1], ⟨r3.1, Ch.sI (by unfold TM; omega) r3.2.1, r3.2.2.mv (fun a k q => by unfold TPm at q; rw [dI_s, if_neg (by omega)])⟩, Or.inl ⟨u1, fun g => ?_, rfl, Ch.sI (by unfold TMx; omega) ((p2.mono (fun a k q => by unfold TMx; omega)).tr (u4.mono (fun a k q => tmx_mono q)))⟩⟩
    rw [show g + (k + 2) = (g + 1 + k) + 1 by omega, tr_st (by omega) hc hV.2.2.c61, ft, bS]
    show f_X12_translate_b20 N (g + 1 + k) (dI M0 227 (26 * h + y)) Mp = _
    rw [u2, tr_bk (show x < 300 by omega) u1 r3.2.2.c61 u3, tr_bk7 (by omega) (by omega) u3 s8 s9, bS, r3.2.1.i (by unfold TM; omega)]
  · refine ⟨C', M', c', k + 1, by omega, fun g => by rw [cs, r2, bS, hE.cs hi r3.1], r3, Or.inr ⟨u1, fun g => ?_⟩⟩
    rw [show g + (k + 1) = (g + k) + 1 by omega, tr_st (by omega) hc hV.2.2.c61, ft, bS]
    exact u2 g
theorem tr_while {N nu P CO nb h cnt bz ez B : Nat} {W K : Nat → Nat} {C0 M0 C M : Dat} (hN : 1000 ≤ N) (hE : TE nu P CO nb h cnt bz ez W K C0 M0) {x c i w : Nat} (hV : TV CO C0 M0 C M c) (hc : c ≤ 64) (h55 : dI M 207 55 = nn x) (hi : i < cnt) {rec : RtT} (hx : x ≤ 47) (hW : W i ≤ 5 * w + 4) (hrec : RecT N CO nb h cnt W C0 M0 rec B x w) (hk : dI C0 (nb + i) 0 = 17) : TSt N nu CO nb h K C0 M0 rec (B + 4) x i C M := by
  obtain ⟨⟨h60, hPP⟩, ⟨h61, hCO⟩, hG, hK7, ⟨hh1, hh2⟩, hNS⟩ := id hE
  obtain ⟨hFs, -, hPr, ⟨hcnt, hbz, hez⟩, hP5⟩ := hG
  have hNSv : 266 ≤ nb := hNS
  have k7 := hK7 i hi
  have hC := hV.1
  have hq : dI M0 216 (64 * h + i) = 4 ∧ (∃ e, dI M0 220 (64 * h + i) = nn e ∧ FsE P h bz ez C0 M0 (nb + i) e) ∧ Lk nb h cnt (dR C0 (nb + i) 6) (dI M0 222 (64 * h + i)) := by
    rcases (hFs i hi).1.2 with ⟨q, -⟩ | ⟨q, -⟩ | ⟨q, -⟩ | ⟨q, -⟩ | ⟨q, -⟩ | ⟨q, q2⟩ | ⟨q, -⟩
    · rw [q] at hk; exact absurd hk (by decide)
    · rw [q] at hk; exact absurd hk (by decide)
    · rw [q] at hk; exact absurd hk (by decide)
    · rw [q] at hk; exact absurd hk (by decide)
    · rw [q] at hk; exact absurd hk (by decide)
    · exact q2
    · rw [q] at hk; exact absurd hk (by decide)
  obtain ⟨q2, ⟨e, e1, e2⟩, hL6⟩ := hq
  have hw : ∀ i', dR C0 (nb + i) 6 = some (nb + i') → W i' + 5 ≤ 5 * w + 4 := fun i' q => by
    have := ((hFs i hi).2.2.1.1 i' (Or.inl q)).2
    omega
  obtain ⟨C1, C2, M4, c1, a1, a2, a3, a4, a5, a6, a7, a8, a9, a10, a11, a12⟩ := tr_enter (N := N) hN hE hV h55 hi hx (Or.inr q2) e1 e2
  rw [q2] at a9
  have szC : dI C CO 2 = nn c := by rw [hV.2.2.sz]; unfold cPl; rw [if_pos (by omega)]
  have cs : ∀ g, f_X8_goThrough_s_b9 rec N nu K (g + 1) (nn x) (some (nb + i)) C = ((rec (dR C0 (nb + i) 6) (nn (x + 1)) C2).bind (fun p18 => (f_X8_emit 12 (nn c) p18).bind (fun p20 => ((dR p20 106 1)).bind (fun a22 => if a22 = 201 ∨ a22 = 204 then ((f_X0_size a22 p20).bind (fun p25 => (f_X0_aim a22 (nn (cPl c1)) p25.1 p25.2).bind (fun p27 => some p27))) else none)))).bind (fun p12 => f_X8_goThrough_s_b96 rec N nu K (f_X8_goThrough_s_b9 rec N nu K g) (nn x) (some (nb + i)) p12) := by
    intro g
    rw [f_X8_goThrough_s_b9, oelS, hV.2.2.flag hc, if_pos rfl, if_pos k7, hC.i (by unfold TC; omega), hk, if_neg (show ¬ (17 : Int32) = 16 by decide), if_pos rfl]
    unfold f_X8_goOverWhile
    rw [hE.r1 hC, bS, if_pos hCO]
    unfold f_X0_size
    rw [bS, szC]
    show (((f_X8_emitExpressions N nu K (some (nb + i)) C)).bind _).bind _ = _
    rw [a1, bS, hE.r1 a2, bS, if_pos hCO, bS, a3]
    show (((f_X8_emit 11 0 C1)).bind _).bind _ = _
    rw [a4, bS, bS, if_pos k7, a6.1.r (by unfold TC; omega), nn_1]
  have ovf : ∀ C3 M3, TV CO C0 M0 C3 M3 65 → ∃ C5, ((f_X8_emit 12 (nn c) C3).bind (fun p20 => ((dR p20 106 1)).bind (fun a22 => if a22 = 201 ∨ a22 = 204 then ((f_X0_size a22 p20).bind (fun p25 => (f_X0_aim a22 (nn (cPl c1)) p25.1 p25.2).bind (fun p27 => some p27))) else none))) = some C5 ∧ TV CO C0 M0 C5 M3 65 := fun C3 M3 t => by
    obtain ⟨C4, d1, d2⟩ := tr_em65 hE t 12 (nn c) (by decide)
    obtain ⟨C5, f1, -, f2⟩ := tr_aim hE d2 (cPl_le c1)
    refine ⟨C5, ?_, f2 rfl⟩
    rw [d1, bS, hE.r1 d2.1, bS, if_pos hCO]
    unfold f_X0_size
    rw [bS]
    show (f_X0_aim CO (nn (cPl c1)) (dI C4 CO 2) C4).bind _ = _
    rw [f1, bS]
  have st : ∀ g, f_X12_translate_b20 N (g + 1) (nn (64 * h + i)) M = f_X12_translate_b20 N g (dI M0 222 (64 * h + i)) M4 := fun g => by
    rw [tr_st (by omega) hc hV.2.2.c61, a5, bS]
  by_cases o1 : cN1 c1 = 65
  · rw [o1] at a6
    obtain ⟨C5, f1, f2⟩ := ovf C2 M4 a6
    refine ⟨C5, M4, 65, 2, by omega, fun g => ?_, f2, Or.inr ⟨rfl, fun g => ?_⟩⟩
    · rw [cs, hrec.2 _ _ C2 (tr_flag a6), bS, f1, bS, hE.cs hi f2.1]
    · rw [show g + 2 = (g + 1) + 1 by omega, st, tr_end a6.2.2.c61]
  have le1 := cN1_le c1
  obtain ⟨C3, M5, c3, k, r1, r2, r3, r4⟩ := hrec.1 (dR C0 (nb + i) 6) (dI M0 222 (64 * h + i)) (cN1 c1) C2 M4 hL6 hw a6 (by omega) a8
  rcases r4 with ⟨u1, u2, u3, u4⟩ | ⟨u1, u2⟩
  · have s8 : dI M5 238 x = 4 := by rw [u4.i (by unfold TMx; omega)]; exact a9
    have s9 : dI M5 239 x = nn (64 * h + i) := by rw [u4.i (by unfold TMx; omega)]; exact a10
    have s0 : dI M5 240 x = nn c := by rw [u4.i (by unfold TMx; omega)]; exact a11
    have s4 : dI M5 244 x = nn (cPl c1) := by rw [u4.i (by unfold TMx; omega)]; exact a12
    obtain ⟨C4, M6, d1, d2, d3, d4⟩ := tr_put hE r3 12 (nn c) (by decide)
    obtain ⟨C5, f1, f2, f3⟩ := tr_aim hE d3 (cPl_le c1)
    have m55 : dI M6 207 55 = nn (x + 1) := by rw [d4.i (by unfold TPm; omega)]; exact u3
    have bk := tr_bkW (x := x) (m := 64 * h + i) (z := cPl c1) (by omega) (by omega) (cPl_le c1) u3 s8 s9 s4 (by rw [s0]; exact d2) m55
    rw [d3.2.2.c61, d3.2.1.i (by unfold TM; omega)] at bk
    have hV5 : TV CO C0 M0 C5 (sI (sI M6 243 (cPl c1) (nn (cN1 c3))) 207 55 (nn x)) (cN1 c3) := ⟨f2.1, Ch.sI (by unfold TM; omega) f2.2.1, f2.2.2.mv (fun a k q => by unfold TPm at q; rw [dI_s, if_neg (by omega)])⟩
    have cC : ∀ g, f_X8_goThrough_s_b9 rec N nu K (g + 1) (nn x) (some (nb + i)) C = f_X8_goThrough_s_b9 rec N nu K g (nn x) (dR C0 (nb + i) 9) C5 := fun g => by
      rw [cs, r2, bS, d1, bS, hE.r1 d3.1, bS, if_pos hCO]
      unfold f_X0_size
      rw [bS]
      show ((f_X0_aim CO (nn (cPl c1)) (dI C4 CO 2) C4).bind _).bind _ = _
      rw [f1, bS, bS, hE.cs hi f2.1]
    have cM : ∀ g, f_X12_translate_b20 N (g + 1 + k + 1) (nn (64 * h + i)) M = f_X12_translate_b20 N g (dI M0 224 (64 * h + i)) (sI (sI M6 243 (cPl c1) (nn (cN1 c3))) 207 55 (nn x)) := fun g => by
      rw [st, u2, tr_bk (show x < 300 by omega) u1 r3.2.2.c61 u3, bk, bS]
    have le3 := cN1_le c3
    by_cases o3 : cN1 c3 = 65
    · refine ⟨C5, _, cN1 c3, k + 3, by omega, cC, hV5, Or.inr ⟨o3, fun g => ?_⟩⟩
      rw [show g + (k + 3) = g + 1 + 1 + k + 1 by omega, cM, tr_end (by rw [hV5.2.2.c61, o3])]
    · refine ⟨C5, _, cN1 c3, k + 2, by omega, cC, hV5, Or.inl ⟨by omega, fun g => ?_, rfl, ?_⟩⟩
      · rw [show g + (k + 2) = g + 1 + k + 1 by omega, cM]
      · exact Ch.sI (by unfold TMx; omega) (Ch.sI (by unfold TMx; omega) (a7.tr (Ch.tr (u4.mono (fun a k q => tmx_mono q)) (d4.mono (fun a k q => tpm_TMx q)))))
  · rw [u1] at r3
    obtain ⟨C5, f1, f2⟩ := ovf C3 M5 r3
    refine ⟨C5, M5, 65, k + 1, by omega, fun g => ?_, f2, Or.inr ⟨rfl, fun g => ?_⟩⟩
    · rw [cs, r2, bS, f1, bS, hE.cs hi f2.1]
    · rw [show g + (k + 1) = (g + k) + 1 by omega, st, u2]
