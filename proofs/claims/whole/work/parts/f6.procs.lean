/-! procs -/
theorem Fs.sRef {nu P nb h cnt bz ez i a k : Nat} {x : Option Nat} {C M : Dat} (ha : a < nb) (hx : Fs nu P nb h cnt bz ez C M i) : Fs nu P nb h cnt bz ez (sR C a k x) M i := by
  have e6 : dR (sR C a k x) (nb + i) 6 = dR C (nb + i) 6 := by rw [dR_s, if_neg (by omega)]
  have e7 : dR (sR C a k x) (nb + i) 7 = dR C (nb + i) 7 := by rw [dR_s, if_neg (by omega)]
  have hz : ∀ n fr hh, zx_h (sR C a k x) P n fr hh = zx_h C P n fr hh := fun n fr hh => zx_h_eq _ _ _ (fun j _ _ => rfl)
  have hE : ∀ es, FsE P h bz ez C M (nb + i) es → FsE P h bz ez (sR C a k x) M (nb + i) es := fun es q => by
    obtain ⟨fr, n, h1, h2, h3, h4, h5, h6, h7⟩ := q
    exact ⟨fr, n, h1, h2, h3, h4, h5, h6, by rw [hz]; exact h7⟩
  obtain ⟨hp, hB⟩ := hx
  refine ⟨hp, ?_⟩
  unfold FsB at hB ⊢
  rw [e6, e7]
  rcases hB with ⟨a1, a2, a3, e, a4, a5⟩ | ⟨a1, a2, a3, fr, n1, n2, e1, e2, b1, b2, b10, b11, b12, b13⟩ | q | ⟨a1, a2, a3, e, a4, a5⟩ | ⟨a1, a2, ⟨e, a3, a4⟩, a5, a6⟩ | ⟨a1, a2, ⟨e, a3, a4⟩, a5⟩ | q
  · exact Or.inl ⟨a1, a2, a3, e, a4, hE _ a5⟩
  · exact Or.inr (Or.inl ⟨a1, a2, a3, fr, n1, n2, e1, e2, b1, b2, b10, b11, by rw [hz]; exact b12, by rw [hz, hz]; exact b13⟩)
  · exact Or.inr (Or.inr (Or.inl q))
  · exact Or.inr (Or.inr (Or.inr (Or.inl ⟨a1, a2, a3, e, a4, hE _ a5⟩)))
  · exact Or.inr (Or.inr (Or.inr (Or.inr (Or.inl ⟨a1, a2, ⟨e, a3, hE _ a4⟩, a5, a6⟩))))
  · exact Or.inr (Or.inr (Or.inr (Or.inr (Or.inr (Or.inl ⟨a1, a2, ⟨e, a3, hE _ a4⟩, a5⟩)))))
  · exact Or.inr (Or.inr (Or.inr (Or.inr (Or.inr (Or.inr q)))))
theorem Wc.kp2 {P nb jE jE' i : Nat} {W W' : Nat → Nat} {C C' : Dat} (hj : jE ≤ jE') (ci : ∀ k, k = 0 ∨ k = 2 → dI C' (nb + i) k = dI C (nb + i) k) (cr : ∀ k, k = 6 ∨ k = 7 ∨ k = 9 → dR C' (nb + i) k = dR C (nb + i) k) (cp : dI C (nb + i) 0 = 18 → ∀ x, x < 26 → dI C (nb + i) 2 = nn x → dR C' (P + 1) x = dR C (P + 1) x) (hW1 : ∀ i', i < i' → (dR C (nb + i) 6 = some (nb + i') ∨ dR C (nb + i) 7 = some (nb + i') ∨ dR C (nb + i) 9 = some (nb + i')) → W' i' = W i') (hW2 : ∀ i', i' < jE → W' i' = W i') (hW3 : W' i = W i) (hx : Wc P nb jE W C i) : Wc P nb jE' W' C' i := by
  obtain ⟨⟨h1, h2⟩, h3⟩ := hx
  refine ⟨⟨fun i' q => ?_, fun q x hx q2 i' q3 => ?_⟩, fun i' q => ?_⟩
  · rw [cr 6 (by omega), cr 7 (by omega)] at q
    have := h1 i' q
    rw [hW1 i' this.1 (by rcases q with q | q; exact Or.inl q; exact Or.inr (Or.inl q)), hW3]
    exact this
  · rw [ci 0 (by omega)] at q
    rw [ci 2 (by omega)] at q2
    rw [cp q x hx q2] at q3
    have := h2 q x hx q2 i' q3
    rw [hW2 i' this.1, hW3]
    omega
  · rw [cr 9 (by omega)] at q
    have := h3 i' q
    rw [hW1 i' this.1 (Or.inr (Or.inr q)), hW3]
    exact this
theorem Fs.do5 {nu P nb h cnt bz ez i x : Nat} {C M : Dat} (hF : Fs nu P nb h cnt bz ez C M i) (h18 : dI C (nb + i) 0 = 18) (hx : x < 26) (h2 : dI C (nb + i) 2 = nn x) : dI M 229 x = 5 := by
  obtain ⟨-, hB⟩ := hF
  unfold FsB at hB
  rw [h18] at hB
  rcases hB with q | q | q | q | q | q | q
  · exact absurd q.1 (by decide)
  · exact absurd q.1 (by decide)
  · exact absurd q.1 (by decide)
  · exact absurd q.1 (by decide)
  · exact absurd q.1 (by decide)
  · exact absurd q.1 (by decide)
  · obtain ⟨-, -, y, y1, y2, y3, y4⟩ := q
    rw [h2] at y2
    have := (nn_eq (by omega) (by omega)).mp y2
    rw [this]; exact y4
theorem zd_setProc {nu P v : Nat} {K : Nat → Nat} {fr : Option Nat} {C : Dat} (hv : v < 26) (ho : okS K fr = true) : f_X4_setProc nu K P (nn v) fr C = some (sR C (P + 1) v fr) := by
  unfold f_X4_setProc f_X4_setProc_b17
  rw [if_neg (nn_nlt0 (by omega)), if_neg (show ¬ (26 : Int32) ≤ nn v from fun q => by have := (nn_le (a := 26) (by omega) (by omega)).mp q; omega), if_neg (nn_in (k := v) (n := 26) (by omega) hv), if_pos ho, nn_nat (by omega)]
theorem zd_oks {nb h j : Nat} {K0 : Nat → Nat} {S : Sr} {fr : Option Nat} {s : Int32} (hS : Sk nb j K0 S) (hl : Lk nb h j fr s) : okS S.2.1 fr = true := by
  rcases hl with ⟨q, _⟩ | ⟨i, q1, q2, _⟩
  · rw [q]; rfl
  · rw [q2]
    have := zb_kd hS q1
    unfold okS
    simp [this]
set_option maxHeartbeats 4000000 in
theorem zd_proc {N nu len P : Nat} {tx : Nat → Nat} {nb h p e j b w : Nat} {K0 W : Nat → Nat} (hN : 1000 ≤ N) {S : Sr} {C M : Dat} (hd : Ds nu len P tx nb h p e 4 3 j b w K0 W S C M) : DBad N P nb h p K0 C M (f_X5_readProc N nu S C) ∨ DGood N nu len P tx nb h p K0 C M (f_X5_readProc N nu S C) := by
  obtain ⟨hSb, hp240, hj60, hnb, hPP, hh⟩ := hd.sb
  obtain ⟨⟨hR, hS, ⟨s1, s2, s3, s4⟩, ⟨s5, s6, s7⟩, s8⟩, ⟨m1, m2, m3⟩, hFs, hPr, hLb⟩ := id hd
  have hps := fun gg => zd_ps (N := N) (g := gg) hR s8 (by omega)
  have k38 : dI M 207 38 = nn 3 := hR.2.2.1.2.2.2 (Or.inr (Or.inr rfl))
  obtain ⟨p1, e1, t1, v1, C1, M1, l1, l2, l3, l4, l5, l6, l7⟩ := zx_adv hN hR.1
  have hlen := zs_kwlen (j := 2) hR.2.2.2 (by decide) rfl
  have hl2 : zl_sl 2 = 4 := by decide
  have hdl := zd_decl k38 l2 l5.2.2.1 l5.2.2.2 l5.1.2.2.1
  have dC1 : Ch (DC P nb) C C1 := l6.mono (fun a k q => Or.inl (by unfold QlC at q; omega))
  have dM1 : Ch (DM h) M M1 := l7.mono (fun a k q => Or.inl (by unfold QlM at q; omega))
  unfold f_X5_readProc f_X5_proc
  rw [l1, bS]
  rcases zd_name (wh := 3 + 1) (r := 3) hN l5 hSb with ⟨t1e, hv26, w1, p2, e2, t2, v2, C2, M2, b1, b2, b3, b4, b5, b6, b7, b8, b9⟩ | ⟨nb1, b1⟩
  · subst t1e
    rw [b1, sb2_r]
    have hde := hdl.1 ⟨rfl, w1.2.1⟩
    have cC02 : Ch (fun a k => (a = 3 ∧ 6 ≤ k ∧ k ≤ 9) ∨ (a = 5 ∧ k = v1)) C C2 := (l6.mono (fun a k q => by unfold QlC at q; omega)).tr (b6.mono (fun a k q => by unfold QlC at q; omega))
    have cM02 : Ch (fun a k => (a = 207 ∧ 36 ≤ k ∧ k ≤ 39) ∨ (a = 229 ∧ k = v1)) M M2 := (l7.mono (fun a k q => by unfold QlM at q; omega)).tr (b7.mono (fun a k q => by unfold QlM at q; omega))
    have r0M : dI M 229 v1 = 0 := by rw [← l7.i (a := 229) (k := v1) (by unfold QlM; omega)]; exact w1.2.1
    have h35 : dI M2 207 35 = nn h := by rw [cM02.i (by omega)]; exact s2
    have s26 : (26 : Int32) * nn h + nn v1 = nn (26 * h + v1) := by rw [nn_l, nn_mul, nn_add]
    rw [b2, bS, if_pos (show nn 3 = 3 from rfl), h35, s26, if_neg (nn_in (k := 26 * h + v1) (n := 52) (by omega) (by omega)), nn_nat (by omega), bI] at hde
    have c3 : Ch (fun a k => a = 227 ∧ k = 26 * h + v1) M2 (sI M2 227 (26 * h + v1) (-1)) := Ch.sI ⟨rfl, rfl⟩ Ch.rf
    have v227 : dI (sI M2 227 (26 * h + v1) (-1)) 227 (26 * h + v1) = -1 := by rw [dI_s, if_pos ⟨rfl, rfl⟩]
    have hRo : Ro nu P C2 (sI M2 227 (26 * h + v1) (-1)) := fun y hy => by
      have e229 : dI (sI M2 227 (26 * h + v1) (-1)) 229 y = dI M2 229 y := c3.i (by omega)
      have e230 : dI (sI M2 227 (26 * h + v1) (-1)) 230 y = dI M2 230 y := c3.i (by omega)
      rw [e229, e230]
      by_cases ey : y = v1
      · subst ey
        rw [b8, b9]
        right; right; right; right; left
        exact ⟨rfl, rfl, by rw [b6.i (by unfold QlC; omega)]; exact w1.2.2.1, by rw [b6.i (by unfold QlC; omega)]; exact w1.2.2.2⟩
      · rw [cC02.i (by omega), cC02.i (by omega), cC02.i (by omega), cM02.i (by omega), cM02.i (by omega)]
        exact hR.1.2.2.2.2.2.2 y hy
    have cM03 : Ch (fun a k => (a = 207 ∧ 36 ≤ k ∧ k ≤ 39) ∨ (a = 229 ∧ k = v1) ∨ (a = 227 ∧ k = 26 * h + v1)) M (sI M2 227 (26 * h + v1) (-1)) := (cM02.mono (fun a k q => by omega)).tr (c3.mono (fun a k q => by omega))
    have hRd : Rd nu len P tx 0 p2 e2 t2 v2 C2 (sI M2 227 (26 * h + v1) (-1)) := (b5.kept (Ch.rf (P := fun _ _ => False)) c3 (fun a k q => q.elim) (fun a k q => by unfold RCm; omega)).d hRo
    have x229 : dI (sI M2 227 (26 * h + v1) (-1)) 229 v1 = 4 := by rw [c3.i (by omega)]; exact b9
    generalize sI M2 227 (26 * h + v1) (-1) = M3 at *
    have bp : BPre1 nu len P tx nb h 0 p2 e2 t2 v2 j b w p j v1 K0 W S C2 M3 := ⟨hRd, hS, ⟨by rw [cM03.i (by omega)]; exact s1, by rw [cM03.i (by omega)]; exact s2, s3, by omega⟩, ⟨by rw [cC02.i (by omega)]; exact s5, by rw [cM03.i (by omega)]; exact s6, by omega⟩, by rw [cM03.i (by omega)]; exact s8, ⟨v227, Nat.le_refl _⟩, fun x hx q i' q' => by
      have ex : x ≠ v1 := fun ex => by rw [ex, x229] at q; exact absurd q (by decide)
      rw [cM03.i (by omega)] at q
      rw [cC02.r (by omega)] at q'
      exact (hPr x hx q).2 i' q'⟩
    have dC2 : Ch (DC P nb) C C2 := cC02.mono (fun a k q => by unfold DC; omega)
    have dM3 : Ch (DM h) M M3 := cM03.mono (fun a k q => by unfold DM; omega)
    rcases zs_blk1 (x1 := 0) (rec := f_X5_readStatements N nu 12) hN (fun _ => zl_all hN 12 1 125 (by omega) (by omega) (Or.inr ⟨by omega, rfl⟩)) hv26 bp with ⟨S', C', M', q, k, r1, r2, r3, r4, r5, r6, r7⟩ | ⟨fr, S3, C3, M4, p3, e3, t3, v3, j3, b3', w3, k, W3, r1, r2, r3, r4, r5, r6, r7, r8, r9, r10, r11, r12, r13⟩
    · left
      refine ⟨S', C', M', q, k + 1, by rw [r1, sb2_l], r2, ⟨r3.1, r3.2.1, by omega, r3.2.2.2⟩, dC2.tr (r4.mono (fun a k q => yc_DC q)), dM3.tr (r5.mono (fun a k q => bm_DM (by omega) ⟨rfl, by omega, by omega⟩ q)), by omega, fun g => ?_⟩
      rw [show g + (k + 1) = (g + k) + 1 by omega, hps, hde]
      exact r7 g
    · right
      obtain ⟨q1, q2, q3, q4, q5⟩ := id r2
      have hok := zd_oks q2 r10
      rw [r1, sb2_r, b5.1.2.2.2.2.1.2]
      have c5 : Ch (fun a k => (a = P + 1 ∧ k = v1) ∨ (a = 5 ∧ k = v1)) C3 (sI (sR C3 (P + 1) v1 fr) 5 v1 4) := Ch.sI (by omega) (Ch.sR (by omega) Ch.rf)
      have m5 : Ch (fun a k => a = 229 ∧ k = v1) M4 (sI M4 229 v1 5) := Ch.sI ⟨rfl, rfl⟩ Ch.rf
      have x4 : dI M4 229 v1 = 4 := r6.keep hv26 (by decide) x229
      have y5 : dI (sI (sR C3 (P + 1) v1 fr) 5 v1 4) 5 v1 = 4 := by rw [dI_s, if_pos ⟨rfl, rfl⟩]
      have y229 : dI (sI M4 229 v1 5) 229 v1 = 5 := by rw [dI_s, if_pos ⟨rfl, rfl⟩]
      have yfr : dR (sI (sR C3 (P + 1) v1 fr) 5 v1 4) (P + 1) v1 = fr := by
        show dR (sR C3 (P + 1) v1 fr) (P + 1) v1 = fr
        rw [dR_s, if_pos ⟨rfl, rfl⟩]
      have c3ro := q1.1.2.2.2.2.2.2
      have hRo5 : Ro nu P (sI (sR C3 (P + 1) v1 fr) 5 v1 4) (sI M4 229 v1 5) := fun y hy => by
        by_cases ey : y = v1
        · subst ey
          rw [y5, y229]
          right; right; right; right; right
          have z := c3ro y hy
          rw [x4] at z
          have e1 : dI (sI (sR C3 (P + 1) y fr) 5 y 4) (P + 2) y = dI C3 (P + 2) y := c5.i (by omega)
          have e2 : dI (sI (sR C3 (P + 1) y fr) 5 y 4) (P + 2) (26 + y) = dI C3 (P + 2) (26 + y) := c5.i (by omega)
          rw [e1, e2]
          rcases z with z | z | z | z | z | z
          · exact absurd z.2.1 (by decide)
          · exact absurd z.2.1 (by decide)
          · exact absurd z.2.1 (by decide)
          · exact absurd z.2.1 (by decide)
          · exact ⟨rfl, rfl, z.2.2.1, z.2.2.2⟩
          · exact absurd z.2.1 (by decide)
        · rw [c5.i (by omega), c5.i (by omega), c5.i (by omega), m5.i (by omega), m5.i (by omega)]
          exact c3ro y hy
      have hRd5 : Rd nu len P tx 0 p3 e3 t3 v3 (sI (sR C3 (P + 1) v1 fr) 5 v1 4) (sI M4 229 v1 5) := (q1.n.kept c5 m5 (fun a k q => by unfold RCc; omega) (fun a k q => by unfold RCm; omega)).d hRo5
      have k5 : Kp P nb h 0 b3' (260 * h + b3' + w3) (sR C3 (P + 1) v1 fr) M4 (sI (sR C3 (P + 1) v1 fr) 5 v1 4) (sI M4 229 v1 5) := ⟨fun i _ hi => absurd hi (by omega), fun i _ hi => absurd hi (by omega), fun x => rfl, fun i _ => ⟨by rw [dI_s, if_neg (by omega)], by rw [dI_s, if_neg (by omega)]⟩, fun k _ _ => ⟨m5.i (by omega), m5.i (by omega)⟩, fun x _ => by
        by_cases ex : x = v1
        · subst ex
          rw [x4]
          exact ⟨fun q => absurd q (by decide), fun q => absurd q (by decide), fun q => absurd q (by decide), fun q => absurd q (by decide)⟩
        · rw [m5.i (by omega)]
          exact ⟨id, id, id, id⟩⟩
      have k03 : Kp P nb h j b (260 * h + b + w) C M C3 M4 := ⟨fun i k hi hk => by rw [r4.i (by unfold YC Ec; omega), cC02.i (by omega)], fun i k hi hk => by rw [r4.r (by unfold YC Ec; omega), cC02.r (by omega)], fun x => by rw [r4.r (by unfold YC Ec; omega), cC02.r (by omega)], fun i hi => ⟨by rw [r4.i (by unfold YC Ec; omega), cC02.i (by omega)], by rw [r4.i (by unfold YC Ec; omega), cC02.i (by omega)]⟩, fun k h1 h2 => ⟨by rw [r5.i (by unfold BM; omega), cM03.i (by omega)], by rw [r5.i (by unfold BM; omega), cM03.i (by omega)]⟩, fun x hx => by
        by_cases ex : x = v1
        · subst ex
          rw [r0M]
          exact ⟨fun q => absurd q (by decide), fun q => absurd q (by decide), fun q => absurd q (by decide), fun q => absurd q (by decide)⟩
        · have e : dI M3 229 x = dI M 229 x := cM03.i (by omega)
          rw [← e]
          exact ⟨fun q => r6.keep hx (by decide) q, fun q => r6.keep hx (by decide) q, fun q => r6.keep hx (by decide) q, fun q => r6.keep hx (by decide) q⟩⟩
      have ci5 : ∀ i k, dI (sI (sR C3 (P + 1) v1 fr) 5 v1 4) (nb + i) k = dI C3 (nb + i) k := fun i k => c5.i (by omega)
      have cr5 : ∀ i k, dR (sI (sR C3 (P + 1) v1 fr) 5 v1 4) (nb + i) k = dR C3 (nb + i) k := fun i k => c5.r (by omega)
      have fs5 : ∀ i, i < j3 → Fs nu P nb h j3 b3' (260 * h + b3' + w3) C3 M4 i → Fs nu P nb h j3 b3' (260 * h + b3' + w3) (sI (sR C3 (P + 1) v1 fr) 5 v1 4) (sI M4 229 v1 5) i := fun i hi hF => (hF.sRef (a := P + 1) (k := v1) (x := fr) (by omega)).kp1 k5 (fun k _ => by rw [dI_s, if_neg (by omega)]) (fun k _ => rfl) (Nat.le_refl _) ⟨Nat.le_refl _, Nat.le_refl _⟩ (fun a _ _ => m5.i (by omega))
      have do5 : ∀ i, Fs nu P nb h j3 b3' (260 * h + b3' + w3) C3 M4 i → dI C3 (nb + i) 0 = 18 → ∀ x, x < 26 → dI C3 (nb + i) 2 = nn x → dR (sI (sR C3 (P + 1) v1 fr) 5 v1 4) (P + 1) x = dR C3 (P + 1) x := fun i hF h18 x hx h2 => by
        have z := hF.do5 h18 hx h2
        have ex : x ≠ v1 := fun ex => by rw [ex, x4] at z; exact absurd z (by decide)
        exact c5.r (by omega)
      refine ⟨S3, sI (sR C3 (P + 1) v1 fr) 5 v1 4, sI M4 229 v1 5, p3, e3, t3, v3, j3, b3', w3, k + 1, W3, ?_, ⟨⟨hRd5, q2, ⟨by rw [m5.i (by omega)]; exact q3.1, by rw [m5.i (by omega)]; exact q3.2.1, q3.2.2⟩, ⟨by rw [c5.i (by omega)]; exact q4.1, by rw [m5.i (by omega)]; exact q4.2.1, q4.2.2⟩, by rw [m5.i (by omega)]; exact q5⟩, ⟨?_, ?_, ?_⟩, fun i hi => ?_, fun x hx q => ?_, fun i k' i' hi hk q => ?_⟩, by omega, dC2.tr ((r4.mono (fun a k q => yc_DC q)).tr (c5.mono (fun a k q => by unfold DC; omega))), dM3.tr ((r5.mono (fun a k q => bm_DM (by omega) ⟨rfl, by omega, by omega⟩ q)).tr (m5.mono (fun a k q => by unfold DM; omega))), fun g => ?_⟩
      · show (if P = 191 ∨ P = 196 then _ else _) = _
        rw [if_pos hPP, zd_setProc hv26 hok, bS, zx_setRole hv26, bS]
      · rw [m5.i (by omega), r5.i (by unfold BM; omega), cM03.i (by omega)]; exact m1
      · rw [m5.i (by omega), r5.i (by unfold BM; omega), cM03.i (by omega)]; exact m2
      · rw [m5.i (by omega), r5.i (by unfold BM; omega), cM03.i (by omega)]; exact m3
      · by_cases hij : i < j
        · obtain ⟨z1, z2, z3⟩ := hFs i hij
          have zF : Fs nu P nb h j3 b3' (260 * h + b3' + w3) C3 M4 i := z1.kp k03 hij (by omega) (by omega) (fun a h1 h2 => by rw [r5.i (by unfold BM; omega), cM03.i (by omega)])
          have cr9 : ∀ k, dR C3 (nb + i) k = dR C (nb + i) k := fun k => by rw [r4.r (by unfold YC Ec; omega), cC02.r (by omega)]
          have ci9 : ∀ k, dI C3 (nb + i) k = dI C (nb + i) k := fun k => by rw [r4.i (by unfold YC Ec; omega), cC02.i (by omega)]
          refine ⟨fs5 i hi zF, ?_, z3.kp2 (by omega) (fun k _ => by rw [ci5, ci9]) (fun k _ => by rw [cr5, cr9]) (fun h18 x hx h2 => by
            rw [do5 i zF (by rw [ci9]; exact h18) x hx (by rw [ci9]; exact h2)]
            exact k03.2.2.1 x) (fun i' h1 h2 => r12 i' ?_) (fun i' h1 => r12 i' h1) (r12 i hij)⟩
          · unfold Nx
            rw [cr5, cr9, m5.i (by omega), r5.i (by unfold BM; omega), cM03.i (by omega)]
            exact z2.mono (by omega)
          · rcases h2 with h2 | h2 | h2
            · exact hLb i 6 i' hij (by omega) h2
            · exact hLb i 7 i' hij (by omega) h2
            · exact hLb i 9 i' hij (by omega) h2
        · obtain ⟨z1, z2, z3⟩ := r9 i (by omega) hi
          refine ⟨fs5 i hi z1, ?_, z3.kp2 (by omega) (fun k _ => ci5 i k) (fun k _ => cr5 i k) (fun h18 x hx h2 => do5 i z1 h18 x hx h2) (fun _ _ _ => rfl) (fun _ _ => rfl) rfl⟩
          unfold Nx
          rw [cr5, m5.i (by omega)]
          exact z2
      · by_cases ex : x = v1
        · subst ex
          rw [yfr, m5.i (by omega)]
          refine ⟨r10, fun i' q' => ?_⟩
          have := r11 i' q'
          rcases r10 with ⟨z, _⟩ | ⟨y, z1, z2, _⟩
          · rw [z] at q'; exact absurd q' (by simp)
          · rw [z2] at q'
            have := Option.some.inj q'
            omega
        · rw [m5.i (by omega)] at q
          have q5 : dI M 229 x = 5 := by
            rcases r6 x hx with ⟨_, b'⟩ | b'
            · rw [b'] at q; exact absurd q (by decide)
            · rw [b', cM03.i (by omega)] at q; exact q
          obtain ⟨z1, z2⟩ := hPr x hx q5
          have e1 : dR (sI (sR C3 (P + 1) v1 fr) 5 v1 4) (P + 1) x = dR C (P + 1) x := by rw [c5.r (by omega)]; exact k03.2.2.1 x
          have e2 : dI (sI M4 229 v1 5) 227 (26 * h + x) = dI M 227 (26 * h + x) := by rw [m5.i (by omega), r5.i (by unfold BM; omega), cM03.i (by omega)]
          rw [e1, e2]
          refine ⟨z1.mono (by omega), fun i' q' => ?_⟩
          have := z2 i' q'
          rw [r12 i' (by omega)]
          omega
      · rw [cr5] at q
        by_cases hij : i < j
        · have q' : dR C (nb + i) k' = some (nb + i') := by
            rw [r4.r (by unfold YC Ec; omega), cC02.r (by omega)] at q
            exact q
          have := hLb i k' i' hij hk q'
          omega
        · exact r13 i k' i' (by omega) hi hk q
      · rw [show g + (k + 1) = (g + k) + 1 by omega, hps, hde]
        exact r7 g
  · left
    have b40 : dI (sI M1 207 40 (nn p1)) 207 40 = nn p1 := by rw [dI_s, if_pos ⟨rfl, rfl⟩]
    refine ⟨Sx S, C1, sI M1 207 40 (nn p1), p1, 2, by rw [b1, sb2_l], hS.2.2.2.2.2, ⟨l5.2.1.1, b40, by omega, l4⟩, dC1, Ch.sI (Or.inl (by omega)) dM1, by omega, fun g => ?_⟩
    rw [show g + 2 = (g + 1) + 1 by omega, hps, hdl.2 nb1, bS]
    exact zs_psB (q := p1) (by omega) b40
