/-! translation: if -/
/-- the class behind the first block of an if -/
def ifB (CO a x : Nat) (z : Int32) (rec : RtT) (p13 : Dat) : Option Dat := if (dI p13 a 8) = 0 then (f_X0_aim CO z (dI p13 CO 2) p13) else ((f_X8_emit 12 0 p13).bind (fun p28 => (f_X0_aim CO z (dI p28 CO 2) p28).bind (fun p35 => (rec (dR p35 a 7) (nn (x + 1)) p35).bind (fun p37 => f_X0_aim CO (dI p13 CO 2) (dI p37 CO 2) p37))))
theorem tr_ifC {N nu P CO nb h cnt bz ez : Nat} {W K : Nat → Nat} {C0 M0 C3 : Dat} (hE : TE nu P CO nb h cnt bz ez W K C0 M0) {i x : Nat} {z : Int32} {rec : RtT} (hC : Ch (TC CO) C0 C3) (he : ∀ C4, f_X8_emit 12 0 C3 = some C4 → Ch (TC CO) C0 C4 ∧ ∀ C5, f_X0_aim CO z (dI C4 CO 2) C4 = some C5 → Ch (TC CO) C0 C5 ∧ ∀ C6, rec (dR C5 (nb + i) 7) (nn (x + 1)) C5 = some C6 → Ch (TC CO) C0 C6) {r : Dat} (hr : ifB CO (nb + i) x z rec C3 = some r) : (if (dI C3 (nb + i) 8) = 0 then (((dR C3 106 1)).bind (fun a16 => if a16 = 201 ∨ a16 = 204 then ((f_X0_size a16 C3).bind (fun p19 => (f_X0_aim a16 z p19.1 p19.2).bind (fun p21 => f_X8_goOverIf_b114 rec N nu K p21))) else none)) else (((dR C3 106 1)).bind (fun a23 => if a23 = 201 ∨ a23 = 204 then ((f_X0_size a23 C3).bind (fun p26 => (f_X8_emit 12 0 p26.2).bind (fun p28 => ((dR p28 106 1)).bind (fun a30 => if a30 = 201 ∨ a30 = 204 then ((f_X0_size a30 p28).bind (fun p33 => (f_X0_aim a30 z p33.1 p33.2).bind (fun p35 => (rec (dR p35 (nb + i) 7) (nn (x + 1)) p35).bind (fun p37 => ((dR p37 106 1)).bind (fun a39 => if a39 = 201 ∨ a39 = 204 then ((f_X0_size a39 p37).bind (fun p42 => (f_X0_aim a39 p26.1 p42.1 p42.2).bind (fun p44 => f_X8_goOverIf_b114 rec N nu K p44))) else none))))) else none)))) else none))) = some r := by
  obtain ⟨-, ⟨h61, hCO⟩, -⟩ := id hE
  unfold ifB at hr
  by_cases q : dI C3 (nb + i) 8 = 0
  · rw [if_pos q] at hr ⊢
    rw [hE.r1 hC, bS, if_pos hCO]
    unfold f_X0_size
    rw [bS]
    show (f_X0_aim CO z (dI C3 CO 2) C3).bind _ = _
    rw [hr, bS]
    rfl
  · rw [if_neg q] at hr ⊢
    rw [hE.r1 hC, bS, if_pos hCO]
    unfold f_X0_size
    rw [bS]
    show (f_X8_emit 12 0 C3).bind _ = _
    obtain ⟨C4, e4, hr⟩ := bind_some hr
    obtain ⟨hC4, he⟩ := he C4 e4
    rw [e4, bS, hE.r1 hC4, bS, if_pos hCO, bS]
    show (f_X0_aim CO z (dI C4 CO 2) C4).bind _ = _
    obtain ⟨C5, e5, hr⟩ := bind_some hr
    obtain ⟨hC5, he⟩ := he C5 e5
    rw [e5, bS]
    obtain ⟨C6, e6, hr⟩ := bind_some hr
    have hC6 := he C6 e6
    rw [e6, bS, hE.r1 hC6, bS, if_pos hCO, bS]
    show (f_X0_aim CO (dI C3 CO 2) (dI C6 CO 2) C6).bind _ = _
    rw [hr, bS]
    rfl
theorem tr_if {N nu P CO nb h cnt bz ez B : Nat} {W K : Nat → Nat} {C0 M0 C M : Dat} (hN : 1000 ≤ N) (hE : TE nu P CO nb h cnt bz ez W K C0 M0) {x c i w : Nat} (hV : TV CO C0 M0 C M c) (hc : c ≤ 64) (h55 : dI M 207 55 = nn x) (hi : i < cnt) {rec : RtT} (hx : x ≤ 47) (hW : W i ≤ 5 * w + 4) (hrec : RecT N CO nb h cnt W C0 M0 rec B x w) (hk : dI C0 (nb + i) 0 = 16) : TSt N nu CO nb h K C0 M0 rec (2 * B + 6) x i C M := by
  obtain ⟨⟨h60, hPP⟩, ⟨h61, hCO⟩, hG, hK7, ⟨hh1, hh2⟩, hNS⟩ := id hE
  obtain ⟨hFs, -, hPr, ⟨hcnt, hbz, hez⟩, hP5⟩ := hG
  have hNSv : 266 ≤ nb := hNS
  have k7 := hK7 i hi
  have hC := hV.1
  have hq : dI M0 216 (64 * h + i) = 3 ∧ (∃ e, dI M0 220 (64 * h + i) = nn e ∧ FsE P h bz ez C0 M0 (nb + i) e) ∧ Lk nb h cnt (dR C0 (nb + i) 6) (dI M0 222 (64 * h + i)) ∧ ((dI C0 (nb + i) 8 = 0 ∧ dI M0 219 (64 * h + i) = 0 ∧ dR C0 (nb + i) 7 = none ∧ dI M0 223 (64 * h + i) = -1) ∨ (dI C0 (nb + i) 8 = 1 ∧ dI M0 219 (64 * h + i) = 1 ∧ Lk nb h cnt (dR C0 (nb + i) 7) (dI M0 223 (64 * h + i)))) := by
    rcases (hFs i hi).1.2 with ⟨q, -⟩ | ⟨q, -⟩ | ⟨q, -⟩ | ⟨q, -⟩ | ⟨q, q2⟩ | ⟨q, -⟩ | ⟨q, -⟩
    · rw [q] at hk; exact absurd hk (by decide)
    · rw [q] at hk; exact absurd hk (by decide)
    · rw [q] at hk; exact absurd hk (by decide)
    · rw [q] at hk; exact absurd hk (by decide)
    · exact q2
    · rw [q] at hk; exact absurd hk (by decide)
    · rw [q] at hk; exact absurd hk (by decide)
  obtain ⟨q2, ⟨e, e1, e2⟩, hL6, hEl⟩ := hq
  have hw : ∀ i', dR C0 (nb + i) 6 = some (nb + i') ∨ dR C0 (nb + i) 7 = some (nb + i') → W i' + 5 ≤ 5 * w + 4 := fun i' q => by
    have := ((hFs i hi).2.2.1.1 i' q).2
    omega
  obtain ⟨C1, C2, M4, c1, a1, a2, a3, a4, a5, a6, a7, a8, a9, a10, a11, a12⟩ := tr_enter (N := N) hN hE hV h55 hi hx (Or.inl q2) e1 e2
  rw [q2] at a9
  have cs : ∀ g C3 r, rec (dR C0 (nb + i) 6) (nn (x + 1)) C2 = some C3 → Ch (TC CO) C0 C3 → (∀ C4, f_X8_emit 12 0 C3 = some C4 → Ch (TC CO) C0 C4 ∧ ∀ C5, f_X0_aim CO (nn (cPl c1)) (dI C4 CO 2) C4 = some C5 → Ch (TC CO) C0 C5 ∧ ∀ C6, rec (dR C5 (nb + i) 7) (nn (x + 1)) C5 = some C6 → Ch (TC CO) C0 C6) → ifB CO (nb + i) x (nn (cPl c1)) rec C3 = some r → Ch (TC CO) C0 r → f_X8_goThrough_s_b9 rec N nu K (g + 1) (nn x) (some (nb + i)) C = f_X8_goThrough_s_b9 rec N nu K g (nn x) (dR C0 (nb + i) 9) r := by
    intro g C3 r hr3 hC3 he hr hCr
    have u := tr_ifC (N := N) hE (x := x) hC3 he hr
    rw [f_X8_goThrough_s_b9, oelS, hV.2.2.flag hc, if_pos rfl, if_pos k7, hC.i (by unfold TC; omega), hk, if_pos rfl]
    unfold f_X8_goOverIf
    rw [a1, bS, hE.r1 a2, bS, if_pos hCO]
    have e0 : f_X0_size CO C1 = some (nn (cPl c1), C1) := by unfold f_X0_size; rw [a3]
    rw [e0, bS]
    show ((f_X8_emit 11 0 C1).bind _).bind _ = _
    rw [a4, bS, bS, if_pos k7, a6.1.r (by unfold TC; omega), nn_1, hr3, bS]
    refine (congrArg (fun z => Option.bind z _) u).trans ?_
    rw [bS, hE.cs hi hCr]
  -- too many: the class goes on
  have ovf : ∀ C3 M3, TV CO C0 M0 C3 M3 65 → ∃ C7, ifB CO (nb + i) x (nn (cPl c1)) rec C3 = some C7 ∧ TV CO C0 M0 C7 M3 65 ∧ (∀ C4, f_X8_emit 12 0 C3 = some C4 → Ch (TC CO) C0 C4 ∧ ∀ C5, f_X0_aim CO (nn (cPl c1)) (dI C4 CO 2) C4 = some C5 → Ch (TC CO) C0 C5 ∧ ∀ C6, rec (dR C5 (nb + i) 7) (nn (x + 1)) C5 = some C6 → Ch (TC CO) C0 C6) := fun C3 M3 t => by
    obtain ⟨C4, d1, d2⟩ := tr_em65 hE t 12 0 (by decide)
    obtain ⟨C5, f1, -, f2⟩ := tr_aim hE d2 (cPl_le c1)
    have f2 := f2 rfl
    have f3 := hrec.2 (dR C5 (nb + i) 7) (nn (x + 1)) C5 (tr_flag f2)
    obtain ⟨C8, g1, -, g2⟩ := tr_aim hE t (cPl_le c1)
    obtain ⟨C9, g3, -, g4⟩ := tr_aim hE f2 (cPl_le 65)
    have sz : dI C3 CO 2 = nn (cPl 65) := t.2.2.sz
    have hh : ∀ C4', f_X8_emit 12 0 C3 = some C4' → Ch (TC CO) C0 C4' ∧ ∀ C5', f_X0_aim CO (nn (cPl c1)) (dI C4' CO 2) C4' = some C5' → Ch (TC CO) C0 C5' ∧ ∀ C6, rec (dR C5' (nb + i) 7) (nn (x + 1)) C5' = some C6 → Ch (TC CO) C0 C6 := by
      intro C4' e4
      obtain rfl : C4 = C4' := Option.some.inj (d1.symm.trans e4)
      refine ⟨d2.1, fun C5' e5 => ?_⟩
      obtain rfl : C5 = C5' := Option.some.inj (f1.symm.trans e5)
      refine ⟨f2.1, fun C6 e6 => ?_⟩
      obtain rfl : C5 = C6 := Option.some.inj (f3.symm.trans e6)
      exact f2.1
    unfold ifB
    by_cases q : dI C3 (nb + i) 8 = 0
    · exact ⟨C8, by rw [if_pos q, g1], g2 rfl, hh⟩
    · exact ⟨C9, by rw [if_neg q, d1, bS, f1, bS, f3, bS, sz, g3], g4 rfl, hh⟩
  have st : ∀ g, f_X12_translate_b20 N (g + 1) (nn (64 * h + i)) M = f_X12_translate_b20 N g (dI M0 222 (64 * h + i)) M4 := fun g => by
    rw [tr_st (by omega) hc hV.2.2.c61, a5, bS]
  by_cases o1 : cN1 c1 = 65
  · rw [o1] at a6
    obtain ⟨C5, f1, f2, f3⟩ := ovf C2 M4 a6
    refine ⟨C5, M4, 65, 2, by omega, fun g => cs g C2 C5 (hrec.2 _ _ C2 (tr_flag a6)) a6.1 f3 f1 f2.1, f2, Or.inr ⟨rfl, fun g => ?_⟩⟩
    rw [show g + 2 = (g + 1) + 1 by omega, st, tr_end a6.2.2.c61]
  have le1 := cN1_le c1
  obtain ⟨C3, M5, c3, k, r1, r2, r3, r4⟩ := hrec.1 (dR C0 (nb + i) 6) (dI M0 222 (64 * h + i)) (cN1 c1) C2 M4 hL6 (fun i' q => hw i' (Or.inl q)) a6 (by omega) a8
  rcases Or.symm r4 with ⟨u1, u2⟩ | ⟨u1, u2, u3, u4⟩
  · rw [u1] at r3
    obtain ⟨C5, f1, f2, f3⟩ := ovf C3 M5 r3
    refine ⟨C5, M5, 65, k + 1, by omega, fun g => cs g C3 C5 r2 r3.1 f3 f1 f2.1, f2, Or.inr ⟨rfl, fun g => ?_⟩⟩
    rw [show g + (k + 1) = (g + k) + 1 by omega, st, u2]
  have s8 : dI M5 238 x = 3 := by rw [u4.i (by unfold TMx; omega)]; exact a9
  have s9 : dI M5 239 x = nn (64 * h + i) := by rw [u4.i (by unfold TMx; omega)]; exact a10
  have s4 : dI M5 244 x = nn (cPl c1) := by rw [u4.i (by unfold TMx; omega)]; exact a12
  have s19 : dI M5 219 (64 * h + i) = dI M0 219 (64 * h + i) := r3.2.1.i (by unfold TM; omega)
  have c38 : dI C3 (nb + i) 8 = dI C0 (nb + i) 8 := r3.1.i (by unfold TC; omega)
  have cM5 : Ch (TMx x) M M5 := a7.tr (u4.mono (fun a k q => tmx_mono q))
  rcases hEl with ⟨g1, g2, g3, g4⟩ | ⟨g1, g2, g3⟩
  · obtain ⟨C5, f1, f2, -⟩ := tr_aim hE r3 (cPl_le c1)
    have bk := tr_bkA (x := x) (m := 64 * h + i) (z := cPl c1) (kn := 3) (by omega) (by omega) (cPl_le c1) u3 (Or.inr ⟨rfl, by rw [s19]; exact g2⟩) s8 s9 s4
    rw [r3.2.2.c61, r3.2.1.i (by unfold TM; omega)] at bk
    have hr : ifB CO (nb + i) x (nn (cPl c1)) rec C3 = some C5 := by unfold ifB; rw [if_pos (by rw [c38]; exact g1), f1]
    have hV5 : TV CO C0 M0 C5 (sI (sI M5 243 (cPl c1) (nn c3)) 207 55 (nn x)) c3 := ⟨f2.1, Ch.sI (by unfold TM; omega) f2.2.1, f2.2.2.mv (fun a k q => by unfold TPm at q; rw [dI_s, if_neg (by omega)])⟩
    refine ⟨C5, _, c3, k + 2, by omega, fun g => ?_, hV5, Or.inl ⟨u1, fun g => ?_, rfl, Ch.sI (by unfold TMx; omega) (Ch.sI (by unfold TMx; omega) cM5)⟩⟩
    · have z0 : dI C3 (nb + i) 8 = 0 := by rw [c38]; exact g1
      rw [f_X8_goThrough_s_b9, oelS, hV.2.2.flag hc, if_pos rfl, if_pos k7, hC.i (by unfold TC; omega), hk, if_pos rfl]
      unfold f_X8_goOverIf
      have e0 : f_X0_size CO C1 = some (nn (cPl c1), C1) := by unfold f_X0_size; rw [a3]
      have e3 : f_X0_size CO C3 = some (dI C3 CO 2, C3) := rfl
      rw [a1, bS, hE.r1 a2, bS, if_pos hCO, e0, bS]
      show ((f_X8_emit 11 0 C1).bind _).bind _ = _
      rw [a4, bS, bS, if_pos k7, a6.1.r (by unfold TC; omega), nn_1, r2, bS, if_pos z0, hE.r1 r3.1, bS, if_pos hCO, e3, bS]
      show ((f_X0_aim CO (nn (cPl c1)) (dI C3 CO 2) C3).bind _).bind _ = _
      rw [f1, bS]
      show (some C5).bind _ = _
      rw [bS, hE.cs hi f2.1]
    · rw [show g + (k + 2) = g + 1 + k + 1 by omega, st, u2, tr_bk (show x < 300 by omega) u1 r3.2.2.c61 u3, bk, bS]
  · obtain ⟨C4, M6, d1, d2, d3, d4⟩ := tr_put hE r3 12 0 (by decide)
    obtain ⟨C5, f1, f2, f3⟩ := tr_aim hE d3 (cPl_le c1)
    have m55 : dI M6 207 55 = nn (x + 1) := by rw [d4.i (by unfold TPm; omega)]; exact u3
    have bk := tr_bkE (x := x) (m := 64 * h + i) (z := cPl c1) (by omega) (by omega) (cPl_le c1) u3 s8 s9 s4 (by rw [s19]; exact g2) d2 m55
    rw [d3.2.2.c61, d3.2.1.i (by unfold TM; omega)] at bk
    generalize hM7 : sI (sI (sI M6 244 x (nn (cPl c3))) 243 (cPl c1) (nn (cN1 c3))) 238 x 8 = M7 at bk
    have m7 : ∀ a k, ¬ (a = 244 ∧ k = x) → ¬ (a = 238 ∧ k = x) → dI M7 a k = dI (sI M6 243 (cPl c1) (nn (cN1 c3))) a k := fun a k v1 v2 => by
      rw [← hM7, dI_s, if_neg v2, dI_s, dI_s, dI_s, if_neg v1]
    have c67 : Ch (TMx x) M6 M7 := by
      rw [← hM7]
      exact Ch.sI (by unfold TMx; omega) (Ch.sI (by unfold TMx; omega) (Ch.sI (by unfold TMx; omega) Ch.rf))
    have cM7 : Ch (TMx x) M M7 := cM5.tr (Ch.tr (d4.mono (fun a k q => tpm_TMx q)) c67)
    have hV7 : TV CO C0 M0 C5 M7 (cN1 c3) := ⟨f2.1, d3.2.1.tr (c67.mono (fun a k q => tmx_TM q)), f2.2.2.mv (fun a k q => by unfold TPm at q; exact m7 a k (by omega) (by omega))⟩
    have m755 : dI M7 207 55 = nn (x + 1) := by
      rw [m7 _ _ (by omega) (by omega), dI_s, if_neg (by omega)]
      exact m55
    have m78 : dI M7 238 x = 8 := by rw [← hM7, dI_s, if_pos ⟨rfl, rfl⟩]
    have m79 : dI M7 239 x = nn (64 * h + i) := by
      rw [m7 _ _ (by omega) (by omega), dI_s, if_neg (by omega), d4.i (by unfold TPm; omega)]
      exact s9
    have m74 : dI M7 244 x = nn (cPl c3) := by rw [← hM7, dI_s, if_neg (by omega), dI_s, if_neg (by omega), dI_s, if_pos ⟨rfl, rfl⟩]
    have run : ∀ g, f_X12_translate_b20 N (g + 1 + k + 1) (nn (64 * h + i)) M = f_X12_translate_b20 N g (dI M0 223 (64 * h + i)) M7 := fun g => by
      rw [st, u2, tr_bk (show x < 300 by omega) u1 r3.2.2.c61 u3, bk, bS]
    have sz3 : dI C3 CO 2 = nn (cPl c3) := r3.2.2.sz
    have r7 : dR C5 (nb + i) 7 = dR C0 (nb + i) 7 := f2.1.r (by unfold TC; omega)
    have n8 : ¬ dI C3 (nb + i) 8 = 0 := by rw [c38, g1]; decide
    have fin : ∀ C6 C7, rec (dR C0 (nb + i) 7) (nn (x + 1)) C5 = some C6 → Ch (TC CO) C0 C6 → f_X0_aim CO (nn (cPl c3)) (dI C6 CO 2) C6 = some C7 → Ch (TC CO) C0 C7 → ∀ g, f_X8_goThrough_s_b9 rec N nu K (g + 1) (nn x) (some (nb + i)) C = f_X8_goThrough_s_b9 rec N nu K g (nn x) (dR C0 (nb + i) 9) C7 := fun C6 C7 v1 v2 v3 v4 g => by
      refine cs g C3 C7 r2 r3.1 (fun C4' e4 => ?_) (by unfold ifB; rw [if_neg n8, d1, bS, f1, bS, r7, v1, bS, sz3, v3]) v4
      obtain rfl : C4 = C4' := Option.some.inj (d1.symm.trans e4)
      refine ⟨d3.1, fun C5' e5 => ?_⟩
      obtain rfl : C5 = C5' := Option.some.inj (f1.symm.trans e5)
      refine ⟨f2.1, fun C6' e6 => ?_⟩
      rw [r7] at e6
      obtain rfl : C6 = C6' := Option.some.inj (v1.symm.trans e6)
      exact v2
    have le3 := cN1_le c3
    by_cases o3 : cN1 c3 = 65
    · rw [o3] at hV7
      obtain ⟨C7, w1, -, w2⟩ := tr_aim hE hV7 (cPl_le c3)
      refine ⟨C7, M7, 65, k + 3, by omega, fin C5 C7 (hrec.2 _ _ C5 (tr_flag hV7)) hV7.1 w1 (w2 rfl).1, w2 rfl, Or.inr ⟨rfl, fun g => ?_⟩⟩
      rw [show g + (k + 3) = g + 1 + 1 + k + 1 by omega, run, tr_end hV7.2.2.c61]
    obtain ⟨C6, M8, c6, k6, v1, v2, v3, v4⟩ := hrec.1 (dR C0 (nb + i) 7) (dI M0 223 (64 * h + i)) (cN1 c3) C5 M7 g3 (fun i' q => hw i' (Or.inr q)) hV7 (by omega) m755
    obtain ⟨C7, w1, w2, w3⟩ := tr_aim hE v3 (cPl_le c3)
    rcases v4 with ⟨z1, z2, z3, z4⟩ | ⟨z1, z2⟩
    · have t8 : dI M8 238 x = 8 := by rw [z4.i (by unfold TMx; omega)]; exact m78
      have t9 : dI M8 239 x = nn (64 * h + i) := by rw [z4.i (by unfold TMx; omega)]; exact m79
      have t4 : dI M8 244 x = nn (cPl c3) := by rw [z4.i (by unfold TMx; omega)]; exact m74
      have bk2 := tr_bkA (x := x) (m := 64 * h + i) (z := cPl c3) (kn := 8) (by omega) (by omega) (cPl_le c3) z3 (Or.inl rfl) t8 t9 t4
      rw [v3.2.2.c61, v3.2.1.i (by unfold TM; omega)] at bk2
      have hV9 : TV CO C0 M0 C7 (sI (sI M8 243 (cPl c3) (nn c6)) 207 55 (nn x)) c6 := ⟨w2.1, Ch.sI (by unfold TM; omega) w2.2.1, w2.2.2.mv (fun a k q => by unfold TPm at q; rw [dI_s, if_neg (by omega)])⟩
      refine ⟨C7, _, c6, k6 + 1 + k + 2, by omega, fin C6 C7 v2 v3.1 w1 w2.1, hV9, Or.inl ⟨z1, fun g => ?_, rfl, Ch.sI (by unfold TMx; omega) (Ch.sI (by unfold TMx; omega) (cM7.tr (z4.mono (fun a k q => tmx_mono q))))⟩⟩
      rw [show g + (k6 + 1 + k + 2) = (g + 1 + k6) + 1 + k + 1 by omega, run, z2, tr_bk (show x < 300 by omega) z1 v3.2.2.c61 z3, bk2, bS]
    · refine ⟨C7, M8, c6, k6 + k + 2, by omega, fin C6 C7 v2 v3.1 w1 w2.1, w3 z1, Or.inr ⟨z1, fun g => ?_⟩⟩
      rw [show g + (k6 + k + 2) = (g + k6) + 1 + k + 1 by omega, run, z2]
