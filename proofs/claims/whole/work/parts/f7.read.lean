/-! all declarations, all statements: a text -/
def DEnd (N nu len P : Nat) (tx : Nat → Nat) (nb h p : Nat) (K0 : Nat → Nat) (C M : Dat) (r : Option (Sum Nat Unit × Sr × Dat)) : Prop := ∃ S' C' M' p' e' t' v' j' b' w' k W', r = some (.inr (), S', C') ∧ Ds nu len P tx nb h p' e' t' v' j' b' w' K0 W' S' C' M' ∧ ¬ (t' = 4 ∧ 1 ≤ v' ∧ v' ≤ 3) ∧ (p ≤ p' ∧ k + p ≤ p' ∧ p' ≤ 240) ∧ Ch (DC P nb) C C' ∧ Ch (DM h) M M' ∧ ∀ g, f_X12_parse_b118 N (g + k) 0 M = f_X12_parse_b118 N g 0 M'
theorem zd_loop {N nu len P : Nat} {tx : Nat → Nat} {nb h : Nat} {K0 : Nat → Nat} (hN : 1000 ≤ N) : ∀ (g kk p e t v j b w : Nat) (W : Nat → Nat) (S : Sr) (C M : Dat), 240 - p < g → 4 * kk ≤ p → Ds nu len P tx nb h p e t v j b w K0 W S C M → DBad N P nb h p K0 C M (f_X5_readDeclarations_b2 N nu g (nn kk) S C) ∨ DEnd N nu len P tx nb h p K0 C M (f_X5_readDeclarations_b2 N nu g (nn kk) S C) := by
  intro g
  induction g with
  | zero => intro kk p e t v j b w W S C M h; omega
  | succ g ih =>
    intro kk p e t v j b w W S C M hg hkk hd
    obtain ⟨hSb, hp240, hj60, hnb, hPP, hh⟩ := hd.sb
    have hR := hd.1.1
    have iw : ∀ i, i < 9 → f_X5_isW i C = some (if t = 4 ∧ v = zl_kc i then 1 else 0, C) := fun i hi => zl_isW hi hR.2.1 hR.2.2.2
    have k0 : zl_kc 0 = 1 := rfl
    have k1 : zl_kc 1 = 2 := rfl
    have k2 : zl_kc 2 = 3 := rfl
    have go : ∀ r, (DBad N P nb h p K0 C M r ∨ DGood N nu len P tx nb h p K0 C M r) → DBad N P nb h p K0 C M (sb2 r (fun p11 S13 D13 => f_X5_readDeclarations_b63 N nu (f_X5_readDeclarations_b2 N nu g) (nn kk) S13 D13)) ∨ DEnd N nu len P tx nb h p K0 C M (sb2 r (fun p11 S13 D13 => f_X5_readDeclarations_b63 N nu (f_X5_readDeclarations_b2 N nu g) (nn kk) S13 D13)) := by
      intro r hr
      rcases hr with ⟨S', C', M', q, k, r1, r2⟩ | ⟨S', C', M', p', e', t', v', j', b', w', k, W', r1, r2, r3, r4, r5, r6⟩
      · exact Or.inl ⟨S', C', M', q, k, by rw [r1, sb2_l], r2⟩
      · rw [r1, sb2_r]
        unfold f_X5_readDeclarations_b63
        rw [nn_1]
        rcases ih (kk + 1) p' e' t' v' j' b' w' W' S' C' M' (by omega) (by omega) r2 with ⟨S2, C2, M2, q, k2, u1, u2, u3, u4, u5, u6, u7⟩ | ⟨S2, C2, M2, p2, e2, t2, v2, j2, b2, w2, k2, W2, u1, u2, u3, u4, u5, u6, u7⟩
        · left
          exact ⟨S2, C2, M2, q, k2 + k, u1, u2, ⟨u3.1, u3.2.1, by omega, u3.2.2.2⟩, r4.tr u4, r5.tr u5, by omega, fun gg => by rw [show gg + (k2 + k) = (gg + k2) + k by omega, r6]; exact u7 gg⟩
        · right
          exact ⟨S2, C2, M2, p2, e2, t2, v2, j2, b2, w2, k2 + k, W2, u1, u2, u3, by omega, r4.tr u5, r5.tr u6, fun gg => by rw [show gg + (k2 + k) = (gg + k2) + k by omega, r6]; exact u7 gg⟩
    rw [f_X5_readDeclarations_b2, if_neg (show ¬ (240 : Int32) ≤ nn kk from fun q => by have := (nn_le (a := 240) (by omega) (by omega)).mp q; omega), iw 0 (by decide), bS, k0]
    by_cases c0 : t = 4 ∧ v = 1
    · obtain ⟨rfl, rfl⟩ := c0
      rw [if_pos (show (4 : Nat) = 4 ∧ (1 : Nat) = 1 from ⟨rfl, rfl⟩), if_neg (show ¬ (1 : Int32) = 0 by decide)]
      exact go _ (zd_mark hN (Or.inl rfl) hd)
    rw [if_neg c0, if_pos rfl, iw 1 (by decide), bS, k1]
    by_cases c1 : t = 4 ∧ v = 2
    · obtain ⟨rfl, rfl⟩ := c1
      rw [if_pos (show (4 : Nat) = 4 ∧ (2 : Nat) = 2 from ⟨rfl, rfl⟩), if_neg (show ¬ (1 : Int32) = 0 by decide)]
      exact go _ (zd_mark hN (Or.inr rfl) hd)
    rw [if_neg c1, if_pos rfl, iw 2 (by decide), bS, k2]
    by_cases c2 : t = 4 ∧ v = 3
    · obtain ⟨rfl, rfl⟩ := c2
      rw [if_pos (show (4 : Nat) = 4 ∧ (3 : Nat) = 3 from ⟨rfl, rfl⟩), if_neg (show ¬ (1 : Int32) = 0 by decide)]
      exact go _ (zd_proc hN hd)
    rw [if_neg c2, if_pos rfl]
    right
    exact ⟨S, C, M, p, e, t, v, j, b, w, 0, W, rfl, hd, fun q => by omega, by omega, Ch.rf, Ch.rf, fun gg => rfl⟩
/-- a program that was read: statements, links, widths -/
def PG (nu P nb h cnt bz ez : Nat) (W : Nat → Nat) (C M : Dat) : Prop := (∀ i, i < cnt → Fs nu P nb h cnt bz ez C M i ∧ Nx nb h cnt C M i ∧ Wc P nb cnt W C i) ∧ (Lk nb h cnt (dR C P 0) (dI M 228 h) ∧ ∀ i', dR C P 0 = some (nb + i') → W i' ≤ 239) ∧ (∀ x, x < 26 → dI M 229 x = 5 → Lk nb h cnt (dR C (P + 1) x) (dI M 227 (26 * h + x))) ∧ (cnt ≤ 60 ∧ bz ≤ 240 ∧ ez ≤ 260 * h + 260) ∧ dI C P 5 = nn bz
theorem zr_main {N nu len P : Nat} {tx : Nat → Nat} {nb h p e t v : Nat} {K0 W : Nat → Nat} (hN : 1000 ≤ N) {S : Sr} {C M : Dat} (hd : Ds nu len P tx nb h p e t v 0 0 0 K0 W S C M) : (∃ S' C' M' q, (sb2 (f_X5_readDeclarations N nu S C) (fun p10 S12 D12 => sb2 (f_X5_readStatements N nu 12 0 S12 D12) (fun p13 S15 D15 => ((dR D12 3 4)).bind (fun a16 => if a16 = 191 ∨ a16 = 196 then (some (.inr (), S15, (sR D15 a16 0 p13))) else none))) : Option (Sum Nat Unit × Sr × Dat)) = some (.inl 4, S', C') ∧ f_X12_parse_b118 N N 0 M = some M' ∧ (∀ a, a < nb → S'.2.1 a = K0 a) ∧ (dI C' 3 7 = nn q ∧ dI M' 207 40 = nn q ∧ q ≤ 240) ∧ Ch (DC P nb) C C' ∧ Ch (DM h) M M') ∨ (∃ S' C' M' cnt bz ez W', (sb2 (f_X5_readDeclarations N nu S C) (fun p10 S12 D12 => sb2 (f_X5_readStatements N nu 12 0 S12 D12) (fun p13 S15 D15 => ((dR D12 3 4)).bind (fun a16 => if a16 = 191 ∨ a16 = 196 then (some (.inr (), S15, (sR D15 a16 0 p13))) else none))) : Option (Sum Nat Unit × Sr × Dat)) = some (.inr (), S', C') ∧ f_X12_parse_b118 N N 0 M = some M' ∧ (∀ a, a < nb → S'.2.1 a = K0 a) ∧ (∀ i, i < cnt → S'.2.1 (nb + i) = 7) ∧ dI M' 207 40 = -1 ∧ dI M' 207 35 = nn h ∧ Ch (DC P nb) C C' ∧ Ch (DM h) M M' ∧ PG nu P nb h cnt bz ez W' C' M' ∧ Ro nu P C' M') := by
  obtain ⟨hSb, hp240, hj60, hnb, hPP, hh⟩ := hd.sb
  unfold f_X5_readDeclarations
  rcases zd_loop hN N 0 p e t v 0 0 0 W S C M (by omega) (by omega) hd with ⟨S', C', M', q, k, r1, r2, r3, r4, r5, r6, r7⟩ | ⟨S1, C1, M1, p1, e1, t1, v1, j1, b1, w1, k, W1, r1, r2, r3, r4, r5, r6, r7⟩
  · left
    have r1' : f_X5_readDeclarations_b2 N nu N 0 S C = some (.inl 4, S', C') := r1
    refine ⟨S', C', M', q, by rw [r1', sb2_l], ?_, r2, ⟨r3.1, r3.2.1, r3.2.2.2⟩, r4, r5⟩
    have := r7 (N - k)
    rw [show N - k + k = N by omega] at this
    exact this
  · have r1' : f_X5_readDeclarations_b2 N nu N 0 S C = some (.inr (), S1, C1) := r1
    rw [r1', sb2_r]
    obtain ⟨h1, ⟨m1, m2, m3⟩, hFs, hPr, hLb⟩ := id r2
    have hSP : SPre nu len P tx nb h 0 p1 e1 t1 v1 j1 b1 w1 p1 j1 228 h 228 h K0 W1 S1 C1 M1 := ⟨h1, Or.inl ⟨m1, rfl, rfl⟩, Or.inl ⟨m2, rfl, rfl⟩, Nat.le_refl _, fun x hx q i' q' => (hPr x hx q).2 i' q'⟩
    have hP34 : dR C1 3 4 = some P := h1.1.1.2.2.2.2.1.2
    rcases zl_all (E := p1) (jE := j1) hN 12 0 0 (by omega) (by omega) (Or.inl ⟨rfl, rfl⟩) p1 e1 t1 v1 j1 b1 w1 228 h W1 0 S1 C1 M1 hSP m2 m3 (fun _ _ => r3) with ⟨S', C', M', q, k2, u1, u2, u3, u4, u5, u6, u7⟩ | ⟨fr, S2, C2, M2, p2, e2, v2, j2, b2, w2, k2, W2, x1', u1, u2, u3, u4, u5, u6, u7, u8, u9, u10, u11, u12, -, u14⟩
    · left
      have u1' : f_X5_readStatements N nu 12 0 S1 C1 = some (.inl 4, S', C') := u1
      refine ⟨S', C', M', q, by rw [u1', sb2_l], ?_, u2, ⟨u3.1, u3.2.1, u3.2.2.2⟩, r5.tr (u4.mono (fun a k q => yc_DC (yc_mono (Nat.le_refl _) (Nat.le_refl _) q))), r6.tr (u5.mono (fun a k q => ym_DM (by omega) (Or.inr (Or.inr ⟨rfl, rfl⟩)) q))⟩
      have e1 := r7 (N - k - k2 + k2)
      rw [show N - k - k2 + k2 + k = N by omega] at e1
      exact e1.trans (u7 (N - k - k2))
    · right
      have u1' : f_X5_readStatements N nu 12 0 S1 C1 = some (.inr fr, S2, C2) := u1
      rw [u1', sb2_r, hP34]
      obtain ⟨q1, q2, q3, q4, q5⟩ := id u2
      have cR : Ch (fun a k => a = P ∧ k = 0) C2 (sR C2 P 0 fr) := Ch.sR ⟨rfl, rfl⟩ Ch.rf
      have hj2 : j2 ≤ 60 := by have := q3.2.2.2; omega
      have kp : Kp P nb h j1 b1 (260 * h + b1 + w1) C1 M1 C2 M2 := zl_kp (o := 0) (la := 228) (li := h) hnb hPP (Or.inr (Or.inr rfl)) (u5.mono (fun a k q => Or.inl (yc_mono (Nat.le_refl _) (Nat.le_refl _) q))) u6 u7
      have cr9 : ∀ i k, i < j1 → dR C2 (nb + i) k = dR C1 (nb + i) k := fun i k hi => u5.r (fun q => by have := yc_mono (Nat.le_refl _) (Nat.le_refl _) q; unfold YC Ec at this; omega)
      have ci9 : ∀ i k, i < j1 → dI C2 (nb + i) k = dI C1 (nb + i) k := fun i k hi => u5.i (fun q => by have := yc_mono (Nat.le_refl _) (Nat.le_refl _) q; unfold YC Ec at this; omega)
      have cp9 : ∀ x, dR C2 (P + 1) x = dR C1 (P + 1) x := kp.2.2.1
      have mi9 : ∀ a i, 216 ≤ a → a ≤ 224 → i < j1 → dI M2 a (64 * h + i) = dI M1 a (64 * h + i) := fun a i g1 g2 g3 => u6.i (by unfold YM; omega)
      have crP : ∀ i k, dR (sR C2 P 0 fr) (nb + i) k = dR C2 (nb + i) k := fun i k => cR.r (by omega)
      refine ⟨S2, sR C2 P 0 fr, M2, j2, b2, 260 * h + b2 + w2, W2, ?_, ?_, q2.2.2.2.2.2, fun i hi => q2.2.2.2.2.1 (nb + i) (by omega) (by omega), q1.1.2.2.1, q3.2.1, r5.tr ((u5.mono (fun a k q => yc_DC (yc_mono (Nat.le_refl _) (Nat.le_refl _) q))).tr (cR.mono (fun a k q => by unfold DC; omega))), r6.tr (u6.mono (fun a k q => ym_DM (by omega) (Or.inr (Or.inr ⟨rfl, rfl⟩)) q)), ⟨fun i hi => ?_, ⟨?_, fun i' q => ?_⟩, fun x hx q => ?_, ⟨hj2, by omega, by omega⟩, ?_⟩, ?_⟩
      · show (if P = 191 ∨ P = 196 then _ else _) = _
        rw [if_pos hPP]
      · have e1 := r7 (N - k - k2 + k2)
        rw [show N - k - k2 + k2 + k = N by omega] at e1
        rw [e1, u8, show N - k - k2 = (N - k - k2 - 1) + 1 by omega, f_X12_parse_b118, q1.1.2.2.1, if_neg m1_lt, q5, if_neg (show ¬ (1 : Int32) < nn (0 + 1) by decide), q1.2.2.1.2.2.1, if_pos (show nn (zl_mt 0) = 0 from rfl)]
        rfl
      · by_cases hij : i < j1
        · obtain ⟨z1, z2, z3⟩ := hFs i hij
          have zF : Fs nu P nb h j2 b2 (260 * h + b2 + w2) C2 M2 i := z1.kp kp hij (by omega) (by omega) (fun a g1 g2 => mi9 a i g1 (by omega) hij)
          refine ⟨zF.sRef (by omega), ?_, z3.kp2 (by omega) (fun k _ => ci9 i k hij) (fun k _ => by rw [crP, cr9 i k hij]) (fun _ x _ _ => by rw [cR.r (by omega)]; exact cp9 x) (fun i' g1 g2 => u12 i' ?_) (fun i' g1 => u12 i' g1) (u12 i hij)⟩
          · unfold Nx
            rw [crP, cr9 i 9 hij, mi9 224 i (by omega) (by omega) hij]
            exact z2.mono (by omega)
          · rcases g2 with g2 | g2 | g2
            · exact hLb i 6 i' hij (by omega) g2
            · exact hLb i 7 i' hij (by omega) g2
            · exact hLb i 9 i' hij (by omega) g2
        · obtain ⟨z1, z2, z3⟩ := u9 i (by omega) hi
          refine ⟨z1.sRef (by omega), ?_, Wc.kp2 (C := C2) (C' := sR C2 P 0 fr) (jE := j1) (W := W2) (W' := W2) (show j1 ≤ j2 by omega) (fun k _ => rfl) (fun k _ => crP i k) (fun _ x _ _ => cR.r (by omega)) (fun _ _ _ => rfl) (fun _ _ => rfl) rfl z3⟩
          unfold Nx
          rw [crP]
          exact z2
      · rw [dR_s, if_pos ⟨rfl, rfl⟩]
        exact u10
      · rw [dR_s, if_pos ⟨rfl, rfl⟩] at q
        have := u11 i' q
        omega
      · have q5' : dI M1 229 x = 5 := by
          rcases u7 x hx with ⟨_, b'⟩ | b'
          · rw [b'] at q; exact absurd q (by decide)
          · rw [b'] at q; exact q
        have z := (hPr x hx q5').1
        rw [cR.r (by omega), cp9, u6.i (by unfold YM; omega)]
        exact z.mono (by omega)
      · exact q4.1
      · exact q1.1.2.2.2.2.2.2
