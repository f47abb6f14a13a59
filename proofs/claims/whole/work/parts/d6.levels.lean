/-! products, sums, expressions -/
theorem XBad.pre {α : Type} {N P z z' e0 e0' eu s0 s0' i0 i0' p p1 kk : Nat} {x1 st st1 : Int32} {S : Sr} {C M C1 M1 : Dat} {r : Option (Sum Nat α × Sr × Dat)} (hb : XBad N P z' e0' eu s0' i0' p1 x1 st1 S C1 M1 r) (c : Ch (XC P z) C C1) (m : Ch (XM e0 eu s0 i0) M M1) (hk : kk + p ≤ p1) (hz : z ≤ z') (he : e0 ≤ e0') (hs : s0 ≤ s0') (hi : i0 ≤ i0') (hL : ∀ g, f_X12_expression_b24 N (g + kk) x1 st M = f_X12_expression_b24 N g x1 st1 M1) : XBad N P z e0 eu s0 i0 p x1 st S C M r := by
  obtain ⟨S', C', M', q, k, r1, r2, r3, r4, r5, r6, r7⟩ := hb
  refine ⟨S', C', M', q, k + kk, r1, r2, ⟨r3.1, r3.2.1, by omega, r3.2.2.2⟩, c.tr (r4.mono (fun a k w => by unfold XC Ec at w ⊢; omega)), m.tr (r5.mono (fun a k w => by unfold XM at w ⊢; omega)), by omega, fun g => ?_⟩
  rw [show g + (k + kk) = (g + k) + kk by omega, hL]
  exact r7 g
theorem XGood.pre {α : Type} {lv N nu len P : Nat} {tx : Nat → Nat} {o p p1 b eb eu n n1 s0 inn w c z0 zc zc' ze ze' i0 i0' kk : Nat} {x1 st st1 : Int32} {S : Sr} {C M C1 M1 : Dat} {A : α → Dat → Prop} {r : Option (Sum Nat α × Sr × Dat)} (hg : XGood lv N nu len P tx o p1 b eb eu n1 s0 inn w c z0 zc' ze' i0' x1 st1 S C1 M1 A r) (cc : Ch (XC P zc) C C1) (m : Ch (XM ze eu s0 i0) M M1) (hk : kk + p ≤ p1) (hn : n ≤ n1) (hz : zc ≤ zc') (he : ze ≤ ze') (hi : i0 ≤ i0') (hL : ∀ g, f_X12_expression_b24 N (g + kk) x1 st M = f_X12_expression_b24 N g x1 st1 M1) (hR : RP M M1) : XGood lv N nu len P tx o p b eb eu n s0 inn w c z0 zc ze i0 x1 st S C M A r := by
  obtain ⟨a, C', M', p', e', t', v', n', pn', k, r1, r2, r3, r4, r5, r6, r7, r8, r9⟩ := hg
  refine ⟨a, C', M', p', e', t', v', n', pn', k + kk, r1, r2, r3, cc.tr (r4.mono (fun a k w => by unfold XC Ec at w ⊢; omega)), m.tr (r5.mono (fun a k w => by unfold XM at w ⊢; omega)), by omega, fun g => ?_, r8, hR.tr r9⟩
  rw [show g + (k + kk) = (g + k) + kk by omega, hL]
  exact r7 g
theorem zl_ckb {t v : Nat} (ht : t < 127) : zl_ck t v < 127 ∧ (t = 4 → zl_ck t v = 3 ∨ (13 ≤ zl_ck t v ∧ zl_ck t v ≤ 23)) := by
  by_cases h4 : t = 4
  · subst h4
    by_cases hv : v < 10
    · have := zl_ckw v hv
      omega
    · have e : zl_ck 4 v = 3 := by
        unfold zl_ck
        rw [if_pos rfl, List.getD_eq_getElem?_getD, List.getElem?_eq_none (by show 10 ≤ v; omega)]
        rfl
      omega
  · rw [zl_ckt h4]
    omega
theorem zx_tkC {t v s : Nat} (ht : t < 127) (hs : zl_S s = true) : (nn (zl_ck t v) = nn s) ↔ t = s := by
  have := zl_Si.mp hs
  have := zl_ckb (v := v) ht
  rw [nn_eq (by omega) (by omega)]
  by_cases h4 : t = 4
  · omega
  · rw [zl_ckt h4]
theorem zx_tk012 {t v s : Nat} (ht : t < 127) (hs : s ≤ 2) : (nn (zl_ck t v) = nn s) ↔ t = s := by
  have := zl_ckb (v := v) ht
  rw [nn_eq (by omega) (by omega)]
  by_cases h4 : t = 4
  · omega
  · rw [zl_ckt h4]
theorem zx_tkM {t s : Nat} (ht : t < 127) (hs : zl_S s = true) : (nn (zl_mt t) = nn s) ↔ t = s := by
  have := zl_Si.mp hs
  have := zx_mt_lt ht
  rw [nn_eq (by omega) (by omega)]
  unfold zl_mt
  repeat' split
  all_goals omega
theorem Em.mono {r r' P b eb n pn s0 : Nat} {C M : Dat} (h : Em r P b eb n pn s0 C M) (hr : r' ≤ r) : Em r' P b eb n pn s0 C M := by
  obtain ⟨h1, h2, h3, h4, h5⟩ := h
  refine ⟨h1, h2, h3, h4, fun i hi => ?_⟩
  obtain ⟨s, a, b, c⟩ := h5 i hi
  exact ⟨s, by omega, b, c⟩
theorem Top.mono {r r' s0 : Nat} {M : Dat} (h : Top r s0 M) (hr : r ≤ r') : Top r' s0 M := by
  rcases h with h | ⟨s, h1, h2, h3⟩
  · exact Or.inl h
  · exact Or.inr ⟨s, h1, h2, by omega⟩
theorem zx_prod_l {N nu len P : Nat} {tx : Nat → Nat} {o b eb eu s0 inn w c z0 : Nat} {rec : Sr → Dat → Option (Sum Nat Int32 × Sr × Dat)} (hN : 1000 ≤ N) (hsub : XLv 4 N nu len P tx o (fun _ _ => True) (f_X5_readFactor rec nu)) : ∀ (g kk p e t v n pn : Nat) (x1 : Int32) (S : Sr) (C M : Dat), 240 - p < g → kk + 1 ≤ p → XMid 3 nu len P tx o p e t v b eb eu n pn s0 inn w c z0 C M → Sb S → XBad N P (b + n + pn) (eb + n) eu s0 (inn + 1) p x1 2 S C M (f_X5_readProduct_b6 rec N nu g (nn kk) S C) ∨ (∃ C' M' p' e' t' v' n' pn' k, f_X5_readProduct_b6 rec N nu g (nn kk) S C = some (.inr (), S, C') ∧ XMid 3 nu len P tx o p' e' t' v' b eb eu n' pn' s0 inn w c z0 C' M' ∧ Ch (XC P (b + n + pn)) C C' ∧ Ch (XM (eb + n) eu s0 (inn + 1)) M M' ∧ (k + p ≤ p' ∧ n ≤ n') ∧ (∀ g, f_X12_expression_b24 N (g + k) x1 2 M = f_X12_expression_b24 N g x1 2 M') ∧ zx_rk t' < 3 ∧ RP M M') := by
  intro g
  induction g with
  | zero => intro kk p e t v n pn x1 S C M h; omega
  | succ g ih =>
    intro kk p e t v n pn x1 S C M hg hkk hM hS
    have hR := hM.1
    have hp240 : p ≤ 240 := by have := hR.2.2.2.1; have := hR.1.1.1.1; omega
    have ht := zx_tok_lt hR.2.2.2
    rw [f_X5_readProduct_b6, if_neg (show ¬ (240 : Int32) ≤ nn kk from fun q => by have := (nn_le (a := 240) (by omega) (by omega)).mp q; omega), hR.2.1.2.2.1]
    have step : zx_rk t = 3 → XBad N P (b + n + pn) (eb + n) eu s0 (inn + 1) p x1 2 S C M ((f_X5_goTo (dI C 3 8 + 1) C).bind (fun p1 => sb2 (f_X5_readFactor rec nu S p1) (fun p3 S5 D5 => ((dR D5 3 4)).bind (fun a6 => if a6 = 191 ∨ a6 = 196 then ((f_X4_add a6 (nn (zx_op t)) 0 D5).bind (fun p9 => (f_X5_readProduct_b6 rec N nu g) (nn kk + 1) S5 p9)) else none)))) ∨ (∃ C' M' p' e' t' v' n' pn' k, ((f_X5_goTo (dI C 3 8 + 1) C).bind (fun p1 => sb2 (f_X5_readFactor rec nu S p1) (fun p3 S5 D5 => ((dR D5 3 4)).bind (fun a6 => if a6 = 191 ∨ a6 = 196 then ((f_X4_add a6 (nn (zx_op t)) 0 D5).bind (fun p9 => (f_X5_readProduct_b6 rec N nu g) (nn kk + 1) S5 p9)) else none)))) = some (.inr (), S, C') ∧ XMid 3 nu len P tx o p' e' t' v' b eb eu n' pn' s0 inn w c z0 C' M' ∧ Ch (XC P (b + n + pn)) C C' ∧ Ch (XM (eb + n) eu s0 (inn + 1)) M M' ∧ (k + p ≤ p' ∧ n ≤ n') ∧ (∀ g, f_X12_expression_b24 N (g + k) x1 2 M = f_X12_expression_b24 N g x1 2 M') ∧ zx_rk t' < 3 ∧ RP M M') := by
      intro hrk
      rcases zx_iter (x1 := x1) (i0 := inn + 1) hN ⟨by decide, by decide⟩ hsub hM hS hrk (fun q => absurd q (by decide)) ⟨by omega, fun q => absurd q (by decide)⟩ (fun S5 p9 => f_X5_readProduct_b6 rec N nu g (nn kk + 1) S5 p9) with hb | ⟨C', M', p', e', t', v', n', pn', k, r1, r2, r3, r4, r5, r6, r7, r8, r9⟩
      · exact Or.inl hb
      · rw [r1, nn_1]
        have hbd := r2.2.2.2.1
        have hp' : p' ≤ 240 := by have := r2.1.2.2.2.1; have := r2.1.1.1.1.1; omega
        rcases ih (kk + 1) p' e' t' v' n' pn' x1 S C' M' (by omega) (by omega) r2 hS with hb | ⟨C2, M2, p2, e2, t2, v2, n2, pn2, k2, s1, s2, s3, s4, s5, s6, s7, s8⟩
        · exact Or.inl (hb.pre r3 r4 (by omega) (by omega) (by omega) (Nat.le_refl _) (Nat.le_refl _) r6)
        · right
          refine ⟨C2, M2, p2, e2, t2, v2, n2, pn2, k2 + k, s1, s2, ?_, ?_, by omega, fun g' => ?_, s7, r9.tr s8⟩
          · exact r3.tr (s3.mono (fun a k w => by unfold XC Ec at w ⊢; omega))
          · exact r4.tr (s4.mono (fun a k w => by unfold XM at w ⊢; omega))
          · rw [show g' + (k2 + k) = (g' + k2) + k by omega, r6, s6]
    by_cases c1 : t = 42
    · subst c1
      rw [if_pos (show nn (zl_ck 42 v) = 42 from rfl)]
      unfold f_X5_readProduct_b31
      rw [hR.2.1.2.2.1, if_pos (show nn (zl_ck 42 v) = 42 from rfl)]
      exact step rfl
    · rw [if_neg (show ¬ nn (zl_ck t v) = 42 from fun q => c1 ((zx_tkC (s := 42) ht rfl).mp q))]
      by_cases c2 : t = 47
      · subst c2
        rw [if_pos (show nn (zl_ck 47 v) = 47 from rfl)]
        unfold f_X5_readProduct_b31
        rw [hR.2.1.2.2.1, if_neg (show ¬ nn (zl_ck 47 v) = 42 from (show ¬ nn 47 = 42 by decide))]
        exact step rfl
      · rw [if_neg (show ¬ nn (zl_ck t v) = 47 from fun q => c2 ((zx_tkC (s := 47) ht rfl).mp q))]
        right
        refine ⟨C, M, p, e, t, v, n, pn, 0, rfl, hM, Ch.rf, Ch.rf, by omega, fun g => rfl, ?_, RP.rf (fun _ => rfl)⟩
        unfold zx_rk
        rw [if_neg (by omega)]
        split
        · omega
        · split <;> omega
theorem zx_sum_l {N nu len P : Nat} {tx : Nat → Nat} {o b eb eu s0 inn w c z0 : Nat} {rec : Sr → Dat → Option (Sum Nat Int32 × Sr × Dat)} (hN : 1000 ≤ N) (hsub : XLv 3 N nu len P tx o (fun _ _ => True) (f_X5_readProduct rec N nu)) : ∀ (g kk p e t v n pn : Nat) (x1 : Int32) (S : Sr) (C M : Dat), 240 - p < g → kk + 1 ≤ p → zx_rk t < 3 → XMid 2 nu len P tx o p e t v b eb eu n pn s0 inn w c z0 C M → Sb S → XBad N P (b + n + pn) (eb + n) eu s0 (inn + 1) p x1 2 S C M (f_X5_readSum_b6 rec N nu g (nn kk) S C) ∨ (∃ C' M' p' e' t' v' n' pn' k, f_X5_readSum_b6 rec N nu g (nn kk) S C = some (.inr (), S, C') ∧ XMid 2 nu len P tx o p' e' t' v' b eb eu n' pn' s0 inn w c z0 C' M' ∧ Ch (XC P (b + n + pn)) C C' ∧ Ch (XM (eb + n) eu s0 (inn + 1)) M M' ∧ (k + p ≤ p' ∧ n ≤ n') ∧ (∀ g, f_X12_expression_b24 N (g + k) x1 2 M = f_X12_expression_b24 N g x1 2 M') ∧ zx_rk t' < 2 ∧ RP M M') := by
  intro g
  induction g with
  | zero => intro kk p e t v n pn x1 S C M h; omega
  | succ g ih =>
    intro kk p e t v n pn x1 S C M hg hkk hrk3 hM hS
    have hR := hM.1
    have hp240 : p ≤ 240 := by have := hR.2.2.2.1; have := hR.1.1.1.1; omega
    have ht := zx_tok_lt hR.2.2.2
    rw [f_X5_readSum_b6, if_neg (show ¬ (240 : Int32) ≤ nn kk from fun q => by have := (nn_le (a := 240) (by omega) (by omega)).mp q; omega), hR.2.1.2.2.1]
    have step : zx_rk t = 2 → XBad N P (b + n + pn) (eb + n) eu s0 (inn + 1) p x1 2 S C M ((f_X5_goTo (dI C 3 8 + 1) C).bind (fun p1 => sb2 (f_X5_readProduct rec N nu S p1) (fun p3 S5 D5 => ((dR D5 3 4)).bind (fun a6 => if a6 = 191 ∨ a6 = 196 then ((f_X4_add a6 (nn (zx_op t)) 0 D5).bind (fun p9 => (f_X5_readSum_b6 rec N nu g) (nn kk + 1) S5 p9)) else none)))) ∨ (∃ C' M' p' e' t' v' n' pn' k, ((f_X5_goTo (dI C 3 8 + 1) C).bind (fun p1 => sb2 (f_X5_readProduct rec N nu S p1) (fun p3 S5 D5 => ((dR D5 3 4)).bind (fun a6 => if a6 = 191 ∨ a6 = 196 then ((f_X4_add a6 (nn (zx_op t)) 0 D5).bind (fun p9 => (f_X5_readSum_b6 rec N nu g) (nn kk + 1) S5 p9)) else none)))) = some (.inr (), S, C') ∧ XMid 2 nu len P tx o p' e' t' v' b eb eu n' pn' s0 inn w c z0 C' M' ∧ Ch (XC P (b + n + pn)) C C' ∧ Ch (XM (eb + n) eu s0 (inn + 1)) M M' ∧ (k + p ≤ p' ∧ n ≤ n') ∧ (∀ g, f_X12_expression_b24 N (g + k) x1 2 M = f_X12_expression_b24 N g x1 2 M') ∧ zx_rk t' < 2 ∧ RP M M') := by
      intro hrk
      rcases zx_iter (x1 := x1) (i0 := inn + 1) hN ⟨by decide, by decide⟩ hsub hM hS hrk (fun q => absurd q (by decide)) ⟨by omega, fun q => absurd q (by decide)⟩ (fun S5 p9 => f_X5_readSum_b6 rec N nu g (nn kk + 1) S5 p9) with hb | ⟨C', M', p', e', t', v', n', pn', k, r1, r2, r3, r4, r5, r6, r7, r8, r9⟩
      · exact Or.inl hb
      · rw [r1, nn_1]
        have hbd := r2.2.2.2.1
        have hp' : p' ≤ 240 := by have := r2.1.2.2.2.1; have := r2.1.1.1.1.1; omega
        rcases ih (kk + 1) p' e' t' v' n' pn' x1 S C' M' (by omega) (by omega) (by omega) r2 hS with hb | ⟨C2, M2, p2, e2, t2, v2, n2, pn2, k2, s1, s2, s3, s4, s5, s6, s7, s8⟩
        · exact Or.inl (hb.pre r3 r4 (by omega) (by omega) (by omega) (Nat.le_refl _) (Nat.le_refl _) r6)
        · right
          refine ⟨C2, M2, p2, e2, t2, v2, n2, pn2, k2 + k, s1, s2, ?_, ?_, by omega, fun g' => ?_, s7, r9.tr s8⟩
          · exact r3.tr (s3.mono (fun a k w => by unfold XC Ec at w ⊢; omega))
          · exact r4.tr (s4.mono (fun a k w => by unfold XM at w ⊢; omega))
          · rw [show g' + (k2 + k) = (g' + k2) + k by omega, r6, s6]
    by_cases c1 : t = 43
    · subst c1
      rw [if_pos (show nn (zl_ck 43 v) = 43 from rfl)]
      unfold f_X5_readSum_b31
      rw [hR.2.1.2.2.1, if_pos (show nn (zl_ck 43 v) = 43 from rfl)]
      exact step rfl
    · rw [if_neg (show ¬ nn (zl_ck t v) = 43 from fun q => c1 ((zx_tkC (s := 43) ht rfl).mp q))]
      by_cases c2 : t = 45
      · subst c2
        rw [if_pos (show nn (zl_ck 45 v) = 45 from rfl)]
        unfold f_X5_readSum_b31
        rw [hR.2.1.2.2.1, if_neg (show ¬ nn (zl_ck 45 v) = 43 from (show ¬ nn 45 = 43 by decide))]
        exact step rfl
      · rw [if_neg (show ¬ nn (zl_ck t v) = 45 from fun q => c2 ((zx_tkC (s := 45) ht rfl).mp q))]
        right
        refine ⟨C, M, p, e, t, v, n, pn, 0, rfl, hM, Ch.rf, Ch.rf, by omega, fun g => rfl, ?_, RP.rf (fun _ => rfl)⟩
        unfold zx_rk at hrk3 ⊢
        split
        · rename_i q; rw [if_pos q] at hrk3; omega
        · rw [if_neg (by omega)]
          split <;> omega
theorem zx_prod {N nu len P : Nat} {tx : Nat → Nat} {o : Nat} {rec : Sr → Dat → Option (Sum Nat Int32 × Sr × Dat)} (hN : 1000 ≤ N) (hsub : XLv 4 N nu len P tx o (fun _ _ => True) (f_X5_readFactor rec nu)) : XLv 3 N nu len P tx o (fun _ _ => True) (f_X5_readProduct rec N nu) := by
  intro p e t v b eb eu n s0 inn w c x1 S C M hP hS
  obtain ⟨hR, hE, h51, ⟨hb1, hb2, hb3, hb4⟩, hT, -⟩ := hP
  rw [if_neg (show ¬ 3 = 1 by decide)]
  unfold f_X5_readProduct
  rcases hsub p e t v b eb eu n s0 inn w c x1 S C M ⟨hR, hE, h51, ⟨hb1, hb2, hb3, by omega⟩, hT.mono (by decide), fun q => absurd q (by decide)⟩ hS with hb | ⟨a, C', M', p', e', t', v', n', pn', k, r1, r2, r3, r4, r5, r6, r7, r8, r9⟩
  · rw [if_neg (show ¬ 4 = 1 by decide)] at hb
    obtain ⟨S', C', M', q, k, r1, r2⟩ := hb
    exact Or.inl ⟨S', C', M', q, k, by rw [r1, sb2_l], r2⟩
  · rw [if_neg (show ¬ 4 = 1 by decide)] at r5
    rw [r1, sb2_r]
    obtain ⟨q1, q2, q3, ⟨q4, q5, q6, q7, q8⟩, q9, q10, q11⟩ := r3
    have hM3 : XMid 3 nu len P tx o p' e' t' v' b eb eu n' pn' s0 inn w c (b + n) C' M' := ⟨q1, q2.mono (by decide), q3, ⟨q4, q5, q6, by omega, hb4⟩, hT.kept (fun h0 => r5.i (by unfold XM; omega)), Hg.up (by decide) q10, q11⟩
    rcases zx_prod_l hN hsub N 0 p' e' t' v' n' pn' x1 S C' M' (by omega) (by omega) hM3 hS with hb | ⟨C2, M2, p2, e2, t2, v2, n2, pn2, k2, s1, s2, s3, s4, s5, s6, s7, s8⟩
    · exact Or.inl (hb.pre r4 r5 r6.1 (by omega) (by omega) (Nat.le_refl _) (Nat.le_refl _) r7)
    · right
      refine ⟨(), C2, M2, p2, e2, t2, v2, n2, pn2, k2 + k, s1, trivial, s2, r4.tr (s3.mono (fun a k w => by unfold XC Ec at w ⊢; omega)), r5.tr (s4.mono (fun a k w => by unfold XM at w ⊢; omega)), by omega, fun g => ?_, ⟨fun q => absurd q (by decide), fun _ => s7⟩, r9.tr s8⟩
      rw [show g + (k2 + k) = (g + k2) + k by omega, r7, s6]
theorem zx_sum {N nu len P : Nat} {tx : Nat → Nat} {o : Nat} {rec : Sr → Dat → Option (Sum Nat Int32 × Sr × Dat)} (hN : 1000 ≤ N) (hsub : XLv 3 N nu len P tx o (fun _ _ => True) (f_X5_readProduct rec N nu)) : XLv 2 N nu len P tx o (fun _ _ => True) (f_X5_readSum rec N nu) := by
  intro p e t v b eb eu n s0 inn w c x1 S C M hP hS
  obtain ⟨hR, hE, h51, ⟨hb1, hb2, hb3, hb4⟩, hT, -⟩ := hP
  rw [if_neg (show ¬ 2 = 1 by decide)]
  unfold f_X5_readSum
  rcases hsub p e t v b eb eu n s0 inn w c x1 S C M ⟨hR, hE, h51, ⟨hb1, hb2, hb3, by omega⟩, hT.mono (by decide), fun q => absurd q (by decide)⟩ hS with hb | ⟨a, C', M', p', e', t', v', n', pn', k, r1, r2, r3, r4, r5, r6, r7, r8, r9⟩
  · rw [if_neg (show ¬ 3 = 1 by decide)] at hb
    obtain ⟨S', C', M', q, k, r1, r2⟩ := hb
    exact Or.inl ⟨S', C', M', q, k, by rw [r1, sb2_l], r2⟩
  · rw [if_neg (show ¬ 3 = 1 by decide)] at r5
    rw [r1, sb2_r]
    obtain ⟨q1, q2, q3, ⟨q4, q5, q6, q7, q8⟩, q9, q10, q11⟩ := r3
    have hM3 : XMid 2 nu len P tx o p' e' t' v' b eb eu n' pn' s0 inn w c (b + n) C' M' := ⟨q1, q2.mono (by decide), q3, ⟨q4, q5, q6, by omega, hb4⟩, hT.kept (fun h0 => r5.i (by unfold XM; omega)), Hg.up (by decide) q10, q11⟩
    rcases zx_sum_l hN hsub N 0 p' e' t' v' n' pn' x1 S C' M' (by omega) (by omega) (r8.2 (by decide)) hM3 hS with hb | ⟨C2, M2, p2, e2, t2, v2, n2, pn2, k2, s1, s2, s3, s4, s5, s6, s7, s8⟩
    · exact Or.inl (hb.pre r4 r5 r6.1 (by omega) (by omega) (Nat.le_refl _) (Nat.le_refl _) r7)
    · right
      refine ⟨(), C2, M2, p2, e2, t2, v2, n2, pn2, k2 + k, s1, trivial, s2, r4.tr (s3.mono (fun a k w => by unfold XC Ec at w ⊢; omega)), r5.tr (s4.mono (fun a k w => by unfold XM at w ⊢; omega)), by omega, fun g => ?_, ⟨fun q => absurd q (by decide), fun _ => s7⟩, r9.tr s8⟩
      rw [show g + (k2 + k) = (g + k2) + k by omega, r7, s6]
def XA (P : Nat) (a : Int32) (C : Dat) : Prop := a = dI C P 5
theorem zx_expr {N nu len P : Nat} {tx : Nat → Nat} {o : Nat} {rec : Sr → Dat → Option (Sum Nat Int32 × Sr × Dat)} (hN : 1000 ≤ N) (hsub : XLv 2 N nu len P tx o (fun _ _ => True) (f_X5_readSum rec N nu)) : XLv 1 N nu len P tx o (XA P) (f_X5_readExpression_s rec N nu) := by
  intro p e t v b eb eu n s0 inn w c x1 S C M hP hS
  obtain ⟨hR, hE, h51, ⟨hb1, hb2, hb3, hb4⟩, hT, hrel⟩ := hP
  rw [if_pos rfl, Nat.add_zero]
  unfold f_X5_readExpression_s
  rcases hsub p e t v b eb eu n s0 inn w c x1 S C M ⟨hR, hE, h51, ⟨hb1, hb2, hb3, by omega⟩, hT.mono (by decide), fun q => absurd q (by decide)⟩ hS with hb | ⟨a, C', M', p', e', t', v', n', pn', k, r1, r2, r3, r4, r5, r6, r7, r8, r9⟩
  · rw [if_neg (show ¬ 2 = 1 by decide)] at hb
    obtain ⟨S', C', M', q, k, r1, r2, r3, r4, r5, r6⟩ := hb
    exact Or.inl ⟨S', C', M', q, k, by rw [r1, sb2_l], r2, r3, r4, r5.mono (fun a k w => by unfold XM at w ⊢; omega), r6⟩
  · rw [if_neg (show ¬ 2 = 1 by decide)] at r5
    rw [r1, sb2_r]
    obtain ⟨q1, q2, q3, ⟨q4, q5, q6, q7, q8⟩, q9, q10, q11⟩ := r3
    have ht := zx_tok_lt q1.2.2.2
    have hM1 : XMid 1 nu len P tx o p' e' t' v' b eb eu n' pn' s0 inn w c (b + n) C' M' := ⟨q1, q2.mono (by decide), q3, ⟨q4, q5, q6, by omega, hb4⟩, hT.kept (fun h0 => r5.i (by unfold XM; omega)), Hg.up (by decide) q10, q11⟩
    have hrel' : dI M' 236 inn = 0 := by rw [r5.i (by unfold XM; omega)]; exact hrel rfl
    have r5' : Ch (XM (eb + n) eu s0 inn) M M' := r5.mono (fun a k w => by unfold XM at w ⊢; omega)
    have e56 : ∀ D, dR D 3 4 = some P → f_X5_readExpression_s_b62 rec N nu S D = some (.inr (dI D P 5), S, D) := fun D hD => by
      unfold f_X5_readExpression_s_b62
      rw [hD]
      show (if P = 191 ∨ P = 196 then _ else _) = _
      rw [if_pos q1.1.2.2.2.2.1.1]
      rfl
    have step : zx_rk t' = 1 → XBad N P (b + n) (eb + n) eu s0 inn p x1 1 S C M ((f_X5_goTo (dI C' 3 8 + 1) C').bind (fun p7 => sb2 (f_X5_readSum rec N nu S p7) (fun p9 S11 D11 => ((dR D11 3 4)).bind (fun a12 => if a12 = 191 ∨ a12 = 196 then ((f_X4_add a12 (nn (zx_op t')) 0 D11).bind (fun p15 => f_X5_readExpression_s_b62 rec N nu S11 p15)) else none)))) ∨ XGood 1 N nu len P tx o p b eb eu n s0 inn w c (b + n) (b + n) (eb + n) inn x1 1 S C M (XA P) ((f_X5_goTo (dI C' 3 8 + 1) C').bind (fun p7 => sb2 (f_X5_readSum rec N nu S p7) (fun p9 S11 D11 => ((dR D11 3 4)).bind (fun a12 => if a12 = 191 ∨ a12 = 196 then ((f_X4_add a12 (nn (zx_op t')) 0 D11).bind (fun p15 => f_X5_readExpression_s_b62 rec N nu S11 p15)) else none)))) := by
      intro hrk
      rcases zx_iter (x1 := x1) (i0 := inn) hN ⟨by decide, by decide⟩ hsub hM1 hS hrk (fun _ => hrel') ⟨by omega, fun _ => rfl⟩ (fun S5 p9 => f_X5_readExpression_s_b62 rec N nu S5 p9) with hb | ⟨C2, M2, p2, e2, t2, v2, n2, pn2, k2, s1, s2, s3, s4, s5, s6, s7, s8, s9⟩
      · exact Or.inl (hb.pre r4 r5' r6.1 (by omega) (by omega) (Nat.le_refl _) (Nat.le_refl _) r7)
      · right
        rw [s1, e56 C2 s2.1.1.2.2.2.2.1.2]
        refine ⟨_, C2, M2, p2, e2, t2, v2, n2, pn2, k2 + k, rfl, rfl, s2, r4.tr (s3.mono (fun a k w => by unfold XC Ec at w ⊢; omega)), r5'.tr (s4.mono (fun a k w => by unfold XM at w ⊢; omega)), by omega, fun g => ?_, ⟨fun _ => ?_, fun q => absurd q (by decide)⟩, r9.tr s9⟩
        · rw [show g + (k2 + k) = (g + k2) + k by omega, r7, s6]
        · by_cases z : zx_rk t2 = 0
          · exact Or.inl z
          · exact Or.inr ⟨by omega, s8 rfl⟩
    rw [q1.2.1.2.2.1]
    unfold f_X5_readExpression_s_b33
    by_cases c1 : t' = 60
    · subst c1
      rw [if_pos (show nn (zl_ck 60 v') = 60 from rfl), if_neg (show ¬ (9 : Int32) = -1 by decide)]
      exact step rfl
    · rw [if_neg (show ¬ nn (zl_ck t' v') = 60 from fun q => c1 ((zx_tkC (s := 60) ht rfl).mp q))]
      by_cases c2 : t' = 61
      · subst c2
        rw [if_pos (show nn (zl_ck 61 v') = 61 from rfl), if_neg (show ¬ (10 : Int32) = -1 by decide)]
        exact step rfl
      · rw [if_neg (show ¬ nn (zl_ck t' v') = 61 from fun q => c2 ((zx_tkC (s := 61) ht rfl).mp q)), if_pos rfl, e56 C' q1.1.2.2.2.2.1.2]
        right
        refine ⟨_, C', M', p', e', t', v', n', pn', k, rfl, rfl, hM1, r4, r5', r6, r7, ⟨fun _ => Or.inl ?_, fun q => absurd q (by decide)⟩, r9⟩
        have := r8.2 (by decide)
        unfold zx_rk at this ⊢
        split
        · rename_i q; rw [if_pos q] at this; omega
        · rename_i q
          rw [if_neg q] at this
          split
          · rename_i q2; rw [if_pos q2] at this; omega
          · rw [if_neg (by omega)]
