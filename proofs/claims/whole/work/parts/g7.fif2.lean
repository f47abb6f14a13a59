/-! flows: if, both blocks -/
def c4 (x : Nat) (D : Dat) : Dat := sC (sC D 7 (57 + 1 + x) 0 0 26) (8 + 1 + x) 7 0 0 26
theorem sbR {α β : Type} (a : α) (D : Dat) (f : α → Dat → Option (Sum Nat β × Dat)) : sb (some (.inr a, D)) f = f a D := rfl
theorem fl_if {N nu P nb h cnt bz ez B : Nat} {W K V : Nat → Nat} {D0 C0 M0 C M : Dat} (hN : 1000 ≤ N) (hE : FE nu P nb h cnt bz ez W K D0 C0 M0) {x sv pc i w : Nat} (hP : FP nu D0 C0 M0 x sv pc V C M) (hi : i < cnt) {rec : RcT} (hx : x ≤ 47) (hW : W i ≤ 5 * w + 4) (hrec : RecP N nu nb h cnt W D0 C0 M0 rec B x w) (hnil : ∀ p D, rec none p (nn (x + 1)) D = some (.inr (), D)) (hk : dI C0 (nb + i) 0 = 16) : StG N nu nb h K D0 C0 M0 rec (2 * B + 4) x sv pc i C M ∨ StB N nu nb h K rec (2 * B + 4) x pc i C M := by
  obtain ⟨hS, hR2, h10, ⟨h61, hPP⟩, hG, hRo, hK7, ⟨hh1, hh2⟩, hNS⟩ := id hE
  obtain ⟨hFs, -, hPr, ⟨hcnt, hbz, hez⟩, hP5⟩ := hG
  have hNSv : 266 ≤ nb := hNS
  have k7 := hK7 i hi
  obtain ⟨hV, hpc, ⟨h55, h56, hsv⟩, h40⟩ := id hP
  have hC := hV.1
  have hM := hV.2.1
  have cI : ∀ k, dI C (nb + i) k = dI C0 (nb + i) k := fun k => hC.i (by unfold FC; omega)
  have hq : dI M0 216 (64 * h + i) = 3 ∧ (∃ e, dI M0 220 (64 * h + i) = nn e ∧ FsE P h bz ez C0 M0 (nb + i) e) ∧ Lk nb h cnt (dR C0 (nb + i) 6) (dI M0 222 (64 * h + i)) ∧ ((dI C0 (nb + i) 8 = 0 ∧ dI M0 219 (64 * h + i) = 0 ∧ dR C0 (nb + i) 7 = none ∧ dI M0 223 (64 * h + i) = -1) ∨ (dI C0 (nb + i) 8 = 1 ∧ dI M0 219 (64 * h + i) = 1 ∧ Lk nb h cnt (dR C0 (nb + i) 7) (dI M0 223 (64 * h + i)))) := by
    rcases (hFs i hi).1.2 with ⟨q, -⟩ | ⟨q, -⟩ | ⟨q, -⟩ | ⟨q, -⟩ | ⟨q, q2⟩ | ⟨q, -⟩ | ⟨q, -⟩
    · rw [q] at hk; exact absurd hk (by decide)
    · rw [q] at hk; exact absurd hk (by decide)
    · rw [q] at hk; exact absurd hk (by decide)
    · rw [q] at hk; exact absurd hk (by decide)
    · exact q2
    · rw [q] at hk; exact absurd hk (by decide)
    · rw [q] at hk; exact absurd hk (by decide)
  obtain ⟨q2, ⟨e, e1, e2⟩, hL6, hEl⟩ := hq
  obtain ⟨s, M1, sh1, s64, ft, fp1, c1, ⟨t8, t9, t0⟩, t1⟩ := fl_enter (N := N) hN hE hP hi hx (Or.inl q2) e1 e2
  rw [q2] at t8
  have in48 := nn_in (k := x) (n := 48) (by omega) (by omega)
  have hw : ∀ i', dR C0 (nb + i) 6 = some (nb + i') ∨ dR C0 (nb + i) 7 = some (nb + i') → W i' + 5 ≤ 5 * w + 4 := fun i' q => by
    have := ((hFs i hi).2.2.1.1 i' q).2
    omega
  have c1C : Ch (FCx x) C (sC C 7 (8 + 1 + x) 0 0 26) := Ch.sC (fun k => by unfold FCx; omega) Ch.rf
  have c17 : ∀ t, dI (sC C 7 (8 + 1 + x) 0 0 26) 7 t = dI C 7 t := fun t => by rw [dI_C, if_neg (by omega)]
  have c19 : ∀ t, t < 26 → dI (sC C 7 (8 + 1 + x) 0 0 26) (8 + 1 + x) t = dI C 7 t := fun t ht => by rw [dI_C, if_pos (by omega), show 0 + (t - 0) = t by omega]
  have fp1' : FP nu D0 C0 M0 (x + 1) (sv + 1) (pc ||| s) V (sC C 7 (8 + 1 + x) 0 0 26) M1 := ⟨⟨hC.tr (c1C.mono (fun a k q => fcx_FC q)), fp1.1.2.1, fun t ht => by rw [c17]; exact fp1.1.2.2 t ht⟩, fp1.2⟩
  have r6 : dR (sC C 7 (8 + 1 + x) 0 0 26) (nb + i) 6 = dR C0 (nb + i) 6 := fp1'.1.1.r (by unfold FC; omega)
  have cs : ∀ g, f_X1_goThrough_s_b10 rec N nu K (g + 1) (nn pc) (nn x) (some (nb + i)) C = sb (sb (rec (dR C0 (nb + i) 6) (nn (pc ||| s)) (nn (x + 1)) (sC C 7 (8 + 1 + x) 0 0 26)) (fun _ D7 => sb (rec (dR (c4 x D7) (nb + i) 7) (nn (pc ||| s)) (nn (x + 1)) (c4 x D7)) (fun _ D12 => (f_X1_joinInto N nu K 7 (57 + 1 + x) D12).bind (fun p14 => some (.inr (), p14.2))))) (fun p12 D14 => f_X1_goThrough_s_b260 rec N nu K (f_X1_goThrough_s_b10 rec N nu K g) (nn pc) (nn x) (some (nb + i)) D14) := by
    intro g
    rw [f_X1_goThrough_s_b10, oelS, if_pos k7, cI, hk, if_neg (show ¬ (16 : Int32) = 2 by decide), if_neg (show ¬ (16 : Int32) = 4 by decide), if_neg (show ¬ (16 : Int32) = 13 by decide), if_neg (show ¬ (16 : Int32) = 14 by decide), if_pos rfl, sh1, bS, bt_or _ (hP.pcl hS) _ s64]
    unfold f_X1_goOverIf
    simp only [if_neg in48]
    rw [bS, if_pos k7, nn_nat (by omega), nn_1, ← r6]
    rfl
  rcases Or.symm (hrec (dR C0 (nb + i) 6) (dI M0 222 (64 * h + i)) (sv + 1) (pc ||| s) V _ M1 hL6 (fun i' q => hw i' (Or.inl q)) fp1') with ⟨C', M', q, k, r1, r2, r3, r4, r5, r6, r7⟩ | ⟨C2, M2, V2, ka, a1, a2, a3, a4, a5, a6⟩
  · right
    refine ⟨C', M', q, k + 1, by omega, r2, fun g => by rw [cs, r3]; rfl, r4, fun g => ?_, (c1C.mono (fun a k q => fcx_FC q)).tr r6, (c1.mono (fun a k q => fmx_FM q)).tr r7⟩
    rw [show g + (k + 1) = (g + k) + 1 by omega, fl_st (by omega) h40, ft, bS]
    exact r5 g
  have v4 : ∀ t, t < 26 → V t < 64 ∧ dI (c4 x C2) 7 t = nn (V t) := fun t ht => by
    refine ⟨lb_lt hS (hV.2.2 t ht).2, ?_⟩
    unfold c4
    rw [dI_C, if_pos (by omega), show 0 + (t - 0) = t by omega, dI_C, if_neg (by omega), a5.i (by unfold FCx; omega), c19 t ht]
    exact (hV.2.2 t ht).1
  have v5 : ∀ t, t < 26 → V2 t < 64 ∧ dI (c4 x C2) (57 + 1 + x) t = nn (V2 t) := fun t ht => by
    refine ⟨lb_lt hS (a4.1.2.2 t ht).2, ?_⟩
    unfold c4
    rw [dI_C, if_neg (by omega), dI_C, if_pos (by omega), show 0 + (t - 0) = t by omega]
    exact (a4.1.2.2 t ht).1
  have c24 : Ch (FCx x) C2 (c4 x C2) := Ch.sC (fun k => by unfold FCx; omega) (Ch.sC (fun k => by unfold FCx; omega) Ch.rf)
  have cC2 : Ch (FCx x) C C2 := c1C.tr (a5.mono (fun a k q => by unfold FCx at q ⊢; omega))
  have hC4 : Ch FC C0 (c4 x C2) := a4.1.1.tr (c24.mono (fun a k q => fcx_FC q))
  have r7 : dR (c4 x C2) (nb + i) 7 = dR C0 (nb + i) 7 := hC4.r (by unfold FC; omega)
  have m8 : dI M2 238 x = 3 := by rw [a6.i (by unfold FMx; omega)]; exact t8
  have m9 : dI M2 239 x = nn (64 * h + i) := by rw [a6.i (by unfold FMx; omega)]; exact t9
  have m0 : lb nu D0 (dI M2 240 x) pc := by rw [a6.i (by unfold FMx; omega)]; exact t0
  have mk : ∀ t, t < 26 → lb nu D0 (dI M2 241 (52 * sv + t)) (V t) := fun t ht => by
    rw [a6.i (by unfold FMx; omega), t1 t ht]
    exact (hV.2.2 t ht).2
  have cM2 : Ch (FMx x sv) M M2 := c1.tr (a6.mono (fun a k q => by unfold FMx at q ⊢; omega))
  have k77 : kd K 7 = 14 := kd_sh (by omega) (by omega) (by omega) (by omega)
  have k58 : kd K (57 + 1 + x) = 14 := kd_sh (by omega) (by omega) (by omega) (by omega)
  have l77 : nl nu 7 = 26 := nl_sh (by omega) (by omega) (by omega) (by omega)
  have l58 : nl nu (57 + 1 + x) = 26 := nl_sh (by omega) (by omega) (by omega) (by omega)
  rcases hEl with ⟨-, g2, g3, g4⟩ | ⟨-, g2, g3⟩
  · left
    obtain ⟨C6, f, j1, j2, j3, -⟩ := cj_ok (N := N) hN k77 k58 l77 l58 (by omega) v4 v5
    obtain ⟨M', b1, b2, b3, b4, ⟨b5, b6⟩, b7⟩ := fl_bjoin (N := N) (kn := 3) hN hE a4 (show 64 * h + i < 128 by omega) hx (Or.inr ⟨rfl, rfl, by rw [g2]; decide⟩) m8 m9 m0 mk
    have cF : Ch (FCx x) C C6 := cC2.tr (c24.tr (j2.mono (fun a k q => Or.inr (Or.inl q))))
    have cG : Ch (FMx x sv) M M' := cM2.tr b2
    refine ⟨C6, M', fun t => V t ||| V2 t, ka + 2, by omega, fun g => ?_, fun g => ?_, ⟨⟨hC.tr (cF.mono (fun a k q => fcx_FC q)), hM.tr (cG.mono (fun a k q => fmx_FM q)), fun t ht => ⟨j3 t ht, b3 t ht⟩⟩, b4, ⟨b5, b6, hsv⟩, b7⟩, cF, cG⟩
    · rw [cs, a2, sbR, r7, g3, hnil, sbR, j1, bS, sbR]
      show f_X1_goThrough_s_b260 rec N nu K (f_X1_goThrough_s_b10 rec N nu K g) (nn pc) (nn x) (some (nb + i)) C6 = _
      unfold f_X1_goThrough_s_b260
      rw [bS, if_pos k7, (hC.tr (cF.mono (fun a k q => fcx_FC q))).r (by unfold FC; omega)]
    · rw [show g + (ka + 2) = (g + 1 + ka) + 1 by omega, fl_st (by omega) h40, ft, bS]
      show f_X12_flow_b71 N (g + 1 + ka) (dI M0 222 (64 * h + i)) M1 = _
      rw [a3, fl_bk (show x < 300 by omega) a4.2.2.2 a4.2.2.1.1, b1, bS]
  · obtain ⟨M3, d1, d2, d3, d4, ⟨d5, d6⟩, d7⟩ := fl_bswap (N := N) hN hE a4 (show 64 * h + i < 128 by omega) hx g2 m8 m9
    have cM3 : Ch (FMx x sv) M M3 := cM2.tr d2
    have fp3 : FP nu D0 C0 M0 (x + 1) (sv + 1) (pc ||| s) V (c4 x C2) M3 := ⟨⟨hC4, hM.tr (cM3.mono (fun a k q => fmx_FM q)), fun t ht => ⟨(v4 t ht).2, by rw [(d3 t ht).2]; exact mk t ht⟩⟩, by rw [d7]; exact a4.2.1, by rw [d7, d7]; exact a4.2.2.1, by rw [d7]; exact a4.2.2.2⟩
    have run : ∀ g, f_X12_flow_b71 N (g + (ka + 2)) (nn (64 * h + i)) M = f_X12_flow_b71 N g (dI M0 223 (64 * h + i)) M3 := fun g => by
      rw [show g + (ka + 2) = (g + 1 + ka) + 1 by omega, fl_st (by omega) h40, ft, bS]
      show f_X12_flow_b71 N (g + 1 + ka) (dI M0 222 (64 * h + i)) M1 = _
      rw [a3, fl_bk (show x < 300 by omega) a4.2.2.2 a4.2.2.1.1, d1, bS]
    rcases hrec (dR C0 (nb + i) 7) (dI M0 223 (64 * h + i)) (sv + 1) (pc ||| s) V _ M3 g3 (fun i' q => hw i' (Or.inr q)) fp3 with ⟨C5, M4, V4, kb, u1, u2, u3, u4, u5, u6⟩ | ⟨C', M', q, k, z1, z2, z3, z4, z5, z6, z7⟩
    · left
      have w5 : ∀ t, t < 26 → V2 t < 64 ∧ dI C5 (57 + 1 + x) t = nn (V2 t) := fun t ht => ⟨(v5 t ht).1, by rw [u5.i (by unfold FCx; omega)]; exact (v5 t ht).2⟩
      have w4 : ∀ t, t < 26 → V4 t < 64 ∧ dI C5 7 t = nn (V4 t) := fun t ht => ⟨lb_lt hS (u4.1.2.2 t ht).2, (u4.1.2.2 t ht).1⟩
      obtain ⟨C6, f, j1, j2, j3, -⟩ := cj_ok (N := N) hN k77 k58 l77 l58 (by omega) w4 w5
      obtain ⟨M', b1, b2, b3, b4, ⟨b5, b6⟩, b7⟩ := fl_bjoin (N := N) (kn := 8) (A := V2) hN hE u4 (show 64 * h + i < 128 by omega) hx (Or.inl ⟨rfl, rfl⟩) (by rw [u6.i (by unfold FMx; omega)]; exact d4) (by rw [u6.i (by unfold FMx; omega)]; exact d5) (show lb nu D0 (dI M4 240 x) pc by rw [u6.i (by unfold FMx; omega), d6]; exact m0) (fun t ht => by rw [u6.i (by unfold FMx; omega), (d3 t ht).1]; exact (a4.1.2.2 t ht).2)
      have cF : Ch (FCx x) C C6 := cC2.tr (c24.tr (Ch.tr (u5.mono (fun a k q => by unfold FCx at q ⊢; omega)) (j2.mono (fun a k q => Or.inr (Or.inl q)))))
      have cG : Ch (FMx x sv) M M' := cM3.tr (Ch.tr (u6.mono (fun a k q => by unfold FMx at q ⊢; omega)) b2)
      refine ⟨C6, M', fun t => V2 t ||| V4 t, kb + 1 + (ka + 2), by omega, fun g => ?_, fun g => ?_, ⟨⟨hC.tr (cF.mono (fun a k q => fcx_FC q)), hM.tr (cG.mono (fun a k q => fmx_FM q)), fun t ht => ⟨by rw [j3 t ht, Nat.or_comm], b3 t ht⟩⟩, b4, ⟨b5, b6, hsv⟩, b7⟩, cF, cG⟩
      · rw [cs, a2, sbR, r7, u2, sbR, j1, bS, sbR]
        show f_X1_goThrough_s_b260 rec N nu K (f_X1_goThrough_s_b10 rec N nu K g) (nn pc) (nn x) (some (nb + i)) C6 = _
        unfold f_X1_goThrough_s_b260
        rw [bS, if_pos k7, (hC.tr (cF.mono (fun a k q => fcx_FC q))).r (by unfold FC; omega)]
      · rw [show g + (kb + 1 + (ka + 2)) = (g + 1 + kb) + (ka + 2) by omega, run, u3, fl_bk (show x < 300 by omega) u4.2.2.2 u4.2.2.1.1, b1, bS]
    · right
      refine ⟨C', M', q, k + (ka + 2), by omega, z2, fun g => ?_, z4, fun g => ?_, (cC2.mono (fun a k q => fcx_FC q)).tr ((c24.mono (fun a k q => fcx_FC q)).tr z6), (cM3.mono (fun a k q => fmx_FM q)).tr z7⟩
      · rw [cs, a2, sbR, r7, z3]
        rfl
      · rw [show g + (k + (ka + 2)) = (g + k) + (ka + 2) by omega, run]
        exact z5 g
