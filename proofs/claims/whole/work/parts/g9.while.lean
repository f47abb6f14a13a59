/-! flows: while -/
def pot (V : Nat → Nat) : Nat := sm (fun t => pcn (V t)) 26 0
theorem pot_bd {nu : Nat} {D0 : Dat} (hS : LatS nu D0) {V : Nat → Nat} (h : ∀ t, t < 26 → vs nu D0 (V t)) : pot V ≤ 130 := by
  have := sm_bd (f := fun t => pcn (V t)) (c := 5) 26 0 (fun b _ hb => (vs_pc hS (h b (by omega))).2)
  unfold pot
  omega
theorem pot_up {nu : Nat} {D0 : Dat} (hS : LatS nu D0) {V U' : Nat → Nat} (h : ∀ t, t < 26 → vs nu D0 (V t)) (h' : ∀ t, t < 26 → vs nu D0 (V t ||| U' t)) (hx : ∃ t, t < 26 ∧ ¬ V t ||| U' t = V t) : pot V < pot (fun t => V t ||| U' t) := by
  have key : ∀ t, t < 26 → pcn (V t) ≤ pcn (V t ||| U' t) ∧ (V t ≠ V t ||| U' t → pcn (V t) < pcn (V t ||| U' t)) := fun t ht => pcn_le _ (vs_pc hS (h t ht)).1 _ (vs_pc hS (h' t ht)).1 (le_l _ _)
  obtain ⟨t, t1, t2⟩ := hx
  exact (sm_lt (f := fun t => pcn (V t)) (f' := fun t => pcn (V t ||| U' t)) 26 0 (fun b _ hb => (key b (by omega)).1)).2 ⟨t, by omega, by omega, (key t t1).2 (fun q => t2 q.symm)⟩
abbrev c9 (x : Nat) (D : Dat) : Dat := sC D 7 (8 + 1 + x) 0 0 26
abbrev c7 (x : Nat) (D : Dat) : Dat := sC D (8 + 1 + x) 7 0 0 26
theorem fw_l {N nu P nb h cnt bz ez B : Nat} {W K : Nat → Nat} {D0 C0 M0 : Dat} (hN : 1000 ≤ N) (hE : FE nu P nb h cnt bz ez W K D0 C0 M0) {x sv pc i w e : Nat} (hi : i < cnt) {rec : RcT} (hx : x ≤ 47) (hsx : sv ≤ x) (hpcl : pc < 64) (hrec : RecP N nu nb h cnt W D0 C0 M0 rec B x w) (he : dI M0 220 (64 * h + i) = nn e) (hex : FsE P h bz ez C0 M0 (nb + i) e) (hL6 : Lk nb h cnt (dR C0 (nb + i) 6) (dI M0 222 (64 * h + i))) (hw : ∀ i', dR C0 (nb + i) 6 = some (nb + i') → W i' + 5 ≤ 5 * w + 4) : ∀ (j n g s : Nat) (V : Nat → Nat) (D M : Dat), 131 ≤ n + j → n ≤ pot V → j + 1 < g → Ch FC C0 D → (∀ t, t < 26 → dI D 7 t = nn (V t)) → f_X1_shadeOf N nu K (some (nb + i)) (c9 x D) = some (nn s, c9 x D) → s < 64 → FP nu D0 C0 M0 (x + 1) (sv + 1) (pc ||| s) V (c9 x D) M → (dI M 238 x = 4 ∧ dI M 239 x = nn (64 * h + i) ∧ lb nu D0 (dI M 240 x) pc) → (∀ t, t < 26 → lb nu D0 (dI M 241 (52 * sv + t)) (V t)) → (∃ C' M' V' k, k ≤ j * (B + 1) ∧ f_X1_goOverWhile_b6 rec N nu K g (some (nb + i)) (nn pc) (nn x) 1 (nn n) D = some (.inr (), C') ∧ (∀ g, f_X12_flow_b71 N (g + k) (dI M0 222 (64 * h + i)) M = f_X12_flow_b71 N g (dI M0 224 (64 * h + i)) M') ∧ FP nu D0 C0 M0 x sv pc V' C' M' ∧ Ch (FCx x) D C' ∧ Ch (FMx x sv) M M') ∨ (∃ C' M' q k, k ≤ j * (B + 1) ∧ q ≤ 240 ∧ f_X1_goOverWhile_b6 rec N nu K g (some (nb + i)) (nn pc) (nn x) 1 (nn n) D = some (.inl 2, C') ∧ (dI C' 6 5 = nn q ∧ dI M' 207 40 = nn q) ∧ (∀ g, f_X12_flow_b71 N (g + k) (dI M0 222 (64 * h + i)) M = some M') ∧ Ch FC D C' ∧ Ch FM M M') := by
  obtain ⟨hS, hR2, h10, ⟨h61, hPP⟩, hG, hRo, hK7, ⟨hh1, hh2⟩, hNS⟩ := id hE
  obtain ⟨hFs, -, hPr, ⟨hcnt, hbz, hez⟩, hP5⟩ := hG
  have hNSv : 266 ≤ nb := hNS
  have k7 := hK7 i hi
  have in48 := nn_in (k := x) (n := 48) (by omega) (by omega)
  have k77 : kd K 7 = 14 := kd_sh (by omega) (by omega) (by omega) (by omega)
  have k58 : kd K (8 + 1 + x) = 14 := kd_sh (by omega) (by omega) (by omega) (by omega)
  have l77 : nl nu 7 = 26 := nl_sh (by omega) (by omega) (by omega) (by omega)
  have l58 : nl nu (8 + 1 + x) = 26 := nl_sh (by omega) (by omega) (by omega) (by omega)
  intro j
  induction j with
  | zero =>
    intro n g s V D M hj hn hg hD h7 hs s64 hP _ _
    have := pot_bd hS (V := V) (fun t ht => lb_vs (hP.1.2.2 t ht).2)
    omega
  | succ j ih =>
    intro n g s V D M hj hn hg hD h7 hs s64 hP ⟨k8, k9, k0⟩ hA
    have hpot := pot_bd hS (V := V) (fun t ht => lb_vs (hP.1.2.2 t ht).2)
    have cD : Ch (FCx x) D (c9 x D) := Ch.sC (fun k => by unfold FCx; omega) Ch.rf
    have r6 : dR (c9 x D) (nb + i) 6 = dR C0 (nb + i) 6 := hP.1.1.r (by unfold FC; omega)
    have cs : f_X1_goOverWhile_b6 rec N nu K g (some (nb + i)) (nn pc) (nn x) 1 (nn n) D = sb (rec (dR C0 (nb + i) 6) (nn (pc ||| s)) (nn (x + 1)) (c9 x D)) (fun _ D11 => (f_X1_joinInto N nu K (8 + 1 + x) 7 D11).bind (fun p13 => f_X1_goOverWhile_b6 rec N nu K (g - 1) (some (nb + i)) (nn pc) (nn x) p13.1 (nn (n + 1)) (c7 x p13.2))) := by
      rw [show g = (g - 1) + 1 by omega, f_X1_goOverWhile_b6, if_neg (show ¬ (156 : Int32) ≤ nn n from fun q => by have := (nn_le (a := 156) (by omega) (by omega)).mp q; omega), if_neg (show ¬ (1 : Int32) = 0 by decide)]
      simp only [if_neg in48]
      rw [bS, if_pos k7, nn_nat (by omega)]
      show (f_X1_shadeOf N nu K (some (nb + i)) (c9 x D)).bind _ = _
      rw [hs, bS, bt_or _ hpcl _ s64, nn_1, nn_1, ← r6]
      rfl
    rw [cs]
    rcases Or.symm (hrec (dR C0 (nb + i) 6) (dI M0 222 (64 * h + i)) (sv + 1) (pc ||| s) V _ M hL6 hw hP) with ⟨C', M', q, k, r1, r2, r3, r4, r5, r6, r7⟩ | ⟨C2, M2, V2, ka, a1, a2, a3, a4, a5, a6⟩
    · right
      exact ⟨C', M', q, k, by rw [Nat.succ_mul]; omega, r2, by rw [r3]; rfl, r4, r5, (cD.mono (fun a k q => fcx_FC q)).tr r6, r7⟩
    have v9 : ∀ t, t < 26 → V t < 64 ∧ dI C2 (8 + 1 + x) t = nn (V t) := fun t ht => ⟨lb_lt hS (hP.1.2.2 t ht).2, by rw [a5.i (by unfold FCx; omega), dI_C, if_pos (by omega), show 0 + (t - 0) = t by omega]; exact h7 t ht⟩
    have v7 : ∀ t, t < 26 → V2 t < 64 ∧ dI C2 7 t = nn (V2 t) := fun t ht => ⟨lb_lt hS (a4.1.2.2 t ht).2, (a4.1.2.2 t ht).1⟩
    obtain ⟨D3, f, j1, j2, j3, j4⟩ := cj_ok (N := N) hN k58 k77 l58 l77 (by omega) v9 v7
    have cD3 : Ch (FCx x) D (c7 x D3) := Ch.sC (fun k => by unfold FCx; omega) (cD.tr ((a5.mono (fun a k q => by unfold FCx at q ⊢; omega)).tr (j2.mono (fun a k q => by unfold FCx; omega))))
    have hD4 : Ch FC C0 (c7 x D3) := hD.tr (cD3.mono (fun a k q => fcx_FC q))
    have d47 : ∀ t, t < 26 → dI (c7 x D3) 7 t = nn (V t ||| V2 t) := fun t ht => by rw [dI_C, if_pos (by omega), show 0 + (t - 0) = t by omega]; exact j3 t ht
    have cD5 : Ch (FCx x) (c7 x D3) (c9 x (c7 x D3)) := Ch.sC (fun k => by unfold FCx; omega) Ch.rf
    have d57 : ∀ t, t < 26 → dI (c9 x (c7 x D3)) 7 t = nn (V t ||| V2 t) := fun t ht => by rw [dI_C, if_neg (by omega)]; exact d47 t ht
    have m8 : dI M2 238 x = 4 := by rw [a6.i (by unfold FMx; omega)]; exact k8
    have m9 : dI M2 239 x = nn (64 * h + i) := by rw [a6.i (by unfold FMx; omega)]; exact k9
    have m0 : lb nu D0 (dI M2 240 x) pc := by rw [a6.i (by unfold FMx; omega)]; exact k0
    have mA : ∀ t, t < 26 → lb nu D0 (dI M2 241 (52 * sv + t)) (V t) := fun t ht => by rw [a6.i (by unfold FMx; omega)]; exact hA t ht
    have cM2 : Ch (FMx x sv) M M2 := a6.mono (fun a k q => by unfold FMx at q ⊢; omega)
    rw [a2, sbR, j1, bS]
    rcases fl_bwhile (N := N) (C2 := c7 x D3) hN hE a4 hi hx he hex m8 m9 m0 mA hD4 d47 with ⟨b1, M', b2, b3, b4⟩ | ⟨b1, -⟩
    · left
      have hf : f = false := by
        cases f with
        | false => rfl
        | true =>
          obtain ⟨t, t1, t2⟩ := j4.mp rfl
          exact absurd (b1 t t1) t2
      refine ⟨c7 x D3, M', _, ka + 1, by rw [Nat.succ_mul]; omega, ?_, fun g' => ?_, b4, cD3, cM2.tr b3⟩
      · rw [hf, show g - 1 = (g - 2) + 1 by omega, f_X1_goOverWhile_b6, if_neg (show ¬ (156 : Int32) ≤ nn (n + 1) from fun q => by have := (nn_le (a := 156) (by omega) (by omega)).mp q; omega), if_pos (show wi false = 0 by decide)]
        rfl
      · rw [show g' + (ka + 1) = (g' + 1) + ka by omega, a3, fl_bk (show x < 300 by omega) a4.2.2.2 a4.2.2.1.1, b2, bS]
    · rcases fl_bwhile (N := N) (C2 := c9 x (c7 x D3)) hN hE a4 hi hx he hex m8 m9 m0 mA (hD4.tr (cD5.mono (fun a k q => fcx_FC q))) d57 with ⟨b2, -⟩ | ⟨-, s', M3, y1, y2, y3, y4, y5, y6, y7⟩
      · obtain ⟨t, t1, t2⟩ := b1
        exact absurd (b2 t t1) t2
      · have hf : f = true := j4.mpr b1
        have up := pot_up hS (V := V) (U' := V2) (fun t ht => lb_vs (hP.1.2.2 t ht).2) (fun t ht => lb_vs (y4.1.2.2 t ht).2) b1
        have st : ∀ g', f_X12_flow_b71 N (g' + (ka + 1)) (dI M0 222 (64 * h + i)) M = f_X12_flow_b71 N g' (dI M0 222 (64 * h + i)) M3 := fun g' => by
          rw [show g' + (ka + 1) = (g' + 1) + ka by omega, a3, fl_bk (show x < 300 by omega) a4.2.2.2 a4.2.2.1.1, y3, bS]
        rw [hf]
        rcases ih (n + 1) (g - 1) s' (fun t => V t ||| V2 t) (c7 x D3) M3 (by omega) (by omega) (by omega) hD4 d47 y1 y2 y4 y6 y7 with ⟨C', M', V', k, u1, u2, u3, u4, u5, u6⟩ | ⟨C', M', q, k, u1, u2, u3, u4, u5, u6, u7⟩
        · left
          exact ⟨C', M', V', k + (ka + 1), by rw [Nat.succ_mul]; omega, u2, fun g' => by rw [← Nat.add_assoc, st]; exact u3 g', u4, cD3.tr u5, cM2.tr (y5.tr u6)⟩
        · right
          exact ⟨C', M', q, k + (ka + 1), by rw [Nat.succ_mul]; omega, u2, u3, u4, fun g' => by rw [← Nat.add_assoc, st]; exact u5 g', (cD3.mono (fun a k q => fcx_FC q)).tr u6, (cM2.mono (fun a k q => fmx_FM q)).tr ((y5.mono (fun a k q => fmx_FM q)).tr u7)⟩
