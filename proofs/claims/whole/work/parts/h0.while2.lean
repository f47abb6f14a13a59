/-! flows: while, a statement -/
theorem fl_while {N nu P nb h cnt bz ez B : Nat} {W K V : Nat → Nat} {D0 C0 M0 C M : Dat} (hN : 1000 ≤ N) (hE : FE nu P nb h cnt bz ez W K D0 C0 M0) {x sv pc i w : Nat} (hP : FP nu D0 C0 M0 x sv pc V C M) (hi : i < cnt) {rec : RcT} (hx : x ≤ 47) (hW : W i ≤ 5 * w + 4) (hrec : RecP N nu nb h cnt W D0 C0 M0 rec B x w) (hk : dI C0 (nb + i) 0 = 17) : StG N nu nb h K D0 C0 M0 rec (131 * (B + 1) + 1) x sv pc i C M ∨ StB N nu nb h K rec (131 * (B + 1) + 1) x pc i C M := by
  obtain ⟨hS, hR2, h10, ⟨h61, hPP⟩, hG, hRo, hK7, ⟨hh1, hh2⟩, hNS⟩ := id hE
  obtain ⟨hFs, -, hPr, ⟨hcnt, hbz, hez⟩, hP5⟩ := hG
  have hNSv : 266 ≤ nb := hNS
  have k7 := hK7 i hi
  obtain ⟨hV, hpc, ⟨h55, h56, hsv⟩, h40⟩ := id hP
  have hC := hV.1
  have hM := hV.2.1
  have cI : ∀ k, dI C (nb + i) k = dI C0 (nb + i) k := fun k => hC.i (by unfold FC; omega)
  have hq : dI M0 216 (64 * h + i) = 4 ∧ (∃ e, dI M0 220 (64 * h + i) = nn e ∧ FsE P h bz ez C0 M0 (nb + i) e) ∧ Lk nb h cnt (dR C0 (nb + i) 6) (dI M0 222 (64 * h + i)) := by
    rcases (hFs i hi).1.2 with ⟨q, -⟩ | ⟨q, -⟩ | ⟨q, -⟩ | ⟨q, -⟩ | ⟨q, -⟩ | ⟨q, q2⟩ | ⟨q, -⟩
    · rw [q] at hk; exact absurd hk (by decide)
    · rw [q] at hk; exact absurd hk (by decide)
    · rw [q] at hk; exact absurd hk (by decide)
    · rw [q] at hk; exact absurd hk (by decide)
    · rw [q] at hk; exact absurd hk (by decide)
    · exact q2
    · rw [q] at hk; exact absurd hk (by decide)
  obtain ⟨q2, ⟨e, e1, e2⟩, hL6⟩ := hq
  have cD : Ch (FCx x) C (c9 x C) := Ch.sC (fun k => by unfold FCx; omega) Ch.rf
  have hP' : FP nu D0 C0 M0 x sv pc V (c9 x C) M := ⟨⟨hC.tr (cD.mono (fun a k q => fcx_FC q)), hM, fun t ht => by rw [dI_C, if_neg (by omega)]; exact hV.2.2 t ht⟩, hP.2⟩
  obtain ⟨s, M1, sh1, s64, ft, fp1, c1, ⟨t8, t9, t0⟩, t1⟩ := fl_enter (N := N) hN hE hP' hi hx (Or.inr q2) e1 e2
  rw [q2] at t8
  have hw : ∀ i', dR C0 (nb + i) 6 = some (nb + i') → W i' + 5 ≤ 5 * w + 4 := fun i' q => by
    have := ((hFs i hi).2.2.1.1 i' (Or.inl q)).2
    omega
  have cs : ∀ g, f_X1_goThrough_s_b10 rec N nu K (g + 1) (nn pc) (nn x) (some (nb + i)) C = sb (f_X1_goOverWhile_b6 rec N nu K N (some (nb + i)) (nn pc) (nn x) 1 (nn 0) C) (fun p12 D14 => f_X1_goThrough_s_b260 rec N nu K (f_X1_goThrough_s_b10 rec N nu K g) (nn pc) (nn x) (some (nb + i)) D14) := by
    intro g
    rw [f_X1_goThrough_s_b10, oelS, if_pos k7, cI, hk, if_neg (show ¬ (17 : Int32) = 2 by decide), if_neg (show ¬ (17 : Int32) = 4 by decide), if_neg (show ¬ (17 : Int32) = 13 by decide), if_neg (show ¬ (17 : Int32) = 14 by decide), if_neg (show ¬ (17 : Int32) = 16 by decide), if_pos rfl]
    rfl
  have st : ∀ g k, f_X12_flow_b71 N (g + (k + 1)) (nn (64 * h + i)) M = f_X12_flow_b71 N (g + k) (dI M0 222 (64 * h + i)) M1 := fun g k => by
    rw [← Nat.add_assoc, fl_st (by omega) h40, ft, bS]
  rcases fw_l (N := N) (B := B) (w := w) hN hE hi hx hsv (hP.pcl hS) hrec e1 e2 hL6 hw 131 0 N s V C M1 (by omega) (by omega) (by omega) hC (fun t ht => (hV.2.2 t ht).1) sh1 s64 fp1 ⟨t8, t9, t0⟩ (fun t ht => by rw [t1 t ht]; exact (hV.2.2 t ht).2) with ⟨C', M', V', k, u1, u2, u3, u4, u5, u6⟩ | ⟨C', M', q, k, u1, u2, u3, u4, u5, u6, u7⟩
  · left
    refine ⟨C', M', V', k + 1, by omega, fun g => ?_, fun g => by rw [st]; exact u3 g, u4, u5, c1.tr u6⟩
    rw [cs, u2, sbR]
    unfold f_X1_goThrough_s_b260
    rw [bS, if_pos k7, u4.1.1.r (by unfold FC; omega)]
  · right
    exact ⟨C', M', q, k + 1, by omega, u2, fun g => by rw [cs, u3]; rfl, u4, fun g => by rw [st]; exact u5 g, u6, (c1.mono (fun a k q => fmx_FM q)).tr u7⟩
