/-! brackets and factors -/
theorem zx_b17 {nu : Nat} {S : Sr} {C : Dat} (hS : Sb S) : f_X5_openWith_b17 nu S C = some (.inl 4, (S.1, S.2.1, S.2.2.1 - 1, S.2.2.2 - 6), C) := by
  unfold f_X5_openWith_b17
  rw [if_pos (show 1 ≤ S.2.2.1 ∧ 6 ≤ S.2.2.2 from hS)]
/-- the class's bracket -/
def zx_br (N nu : Nat) (rec : Sr → Dat → Option (Sum Nat Int32 × Sr × Dat)) (oc cc : Int32) (S : Sr) (D : Dat) : Option (Sum Nat Unit × Sr × Dat) := sb2 (f_X5_openWith nu oc S D) (fun p1 S3 D3 => sb2 (rec S3 D3) (fun p4 S6 D6 => sb2 (f_X5_closeWith nu cc S6 D6) (fun p7 S9 D9 => some (.inr (), S9, D9))))
theorem zx_bracket {N nu len P : Nat} {tx : Nat → Nat} {o p e t v b eb eu n s0 inn w c oc cc : Nat} {rec : Sr → Dat → Option (Sum Nat Int32 × Sr × Dat)} (hN : 1000 ≤ N) (hrec : o < 8 → XLv 1 N nu len P tx (o + 1) (XA P) rec) (hoc : (oc = 40 ∧ cc = 41) ∨ (oc = 91 ∧ cc = 93)) {x x1 : Int32} {S : Sr} {C M : Dat} (hR : Rd nu len P tx o p e t v C M) (hE : Em 0 P b eb n 0 s0 C M) (h51 : dI M 207 51 = nn inn) (hin : inn ≤ o) (hb : eb + 260 = eu + b + w ∧ eu ≤ 520 ∧ b + n + w + c ≤ p ∧ s0 + 1 ≤ 4 * inn + 4) (hS : Sb S) : ∃ M1, f_X12_enter N (nn oc) x M = some M1 ∧ ((∃ S' C' M' q k, zx_br N nu rec (nn oc) (nn cc) S C = some (.inl 4, S', C') ∧ (S'.1 = S.1 ∧ S'.2.1 = S.2.1) ∧ (dI C' 3 7 = nn q ∧ dI M' 207 40 = nn q ∧ p ≤ q ∧ q ≤ 240) ∧ Ch (XC P (b + n)) C C' ∧ Ch (XM (eb + n) eu s0 (inn + 1)) M M' ∧ k + p ≤ q + 1 ∧ ∀ g, f_X12_expression_b24 N (g + k) x1 1 M1 = some (x1, M')) ∨ (∃ C' M' p' e' t' v' n' k, zx_br N nu rec (nn oc) (nn cc) S C = some (.inr (), S, C') ∧ Rd nu len P tx o p' e' t' v' C' M' ∧ Em 0 P b eb n' 0 s0 C' M' ∧ dI M' 207 51 = nn inn ∧ (n ≤ n' ∧ b + n' + w + c + 1 ≤ p') ∧ Ch (XC P (b + n)) C C' ∧ Ch (XM (eb + n) eu s0 (inn + 1)) M M' ∧ k + p + 1 ≤ p' ∧ (∀ g, f_X12_expression_b24 N (g + k) x1 1 M1 = if oc = 91 then (f_X12_emit 3 x M').bind (fun M'' => f_X12_expression_b24 N g x1 2 M'') else f_X12_expression_b24 N g x1 2 M') ∧ Hg 4 o P C' (b + n) (b + n') ∧ RP M M')) := by
  obtain ⟨hB, hkC, hkM, hTk⟩ := id hR
  have h40 := hB.2.2.1
  have ho := hB.2.2.2.1
  have hS9 : zl_S oc = true := zl_Si.mpr (by omega)
  have hSc : zl_S cc = true := zl_Si.mpr (by omega)
  have ht := zx_tok_lt hTk
  have hp240 : p ≤ 240 := by have := hTk.1; have := hB.1.1.1; omega
  have e48 : dI M 207 48 = nn s0 := by have := hE.2.2.2.1; rw [Nat.add_zero] at this; exact this
  -- what enter does behind the opening
  have ent : ∀ M0, Ch (fun a k => a = 207 ∧ 36 ≤ k ∧ k ≤ 41) M M0 → ∃ M1, ((if (dI M0 207 48) < 0 ∨ 64 ≤ ((dI M0 207 48)).toNatClampNeg then none else (if (dI (sI M0 234 (dI M0 207 48).toNatClampNeg (nn oc)) 207 48) < 0 ∨ 64 ≤ ((dI (sI M0 234 (dI M0 207 48).toNatClampNeg (nn oc)) 207 48)).toNatClampNeg then none else (f_X12_enter_b35 N (sI (sI (sI M0 234 (dI M0 207 48).toNatClampNeg (nn oc)) 235 (dI (sI M0 234 (dI M0 207 48).toNatClampNeg (nn oc)) 207 48).toNatClampNeg x) 207 48 ((dI (sI (sI M0 234 (dI M0 207 48).toNatClampNeg (nn oc)) 235 (dI (sI M0 234 (dI M0 207 48).toNatClampNeg (nn oc)) 207 48).toNatClampNeg x) 207 48) + (1 : Int32))))) : Option Dat)) = some M1 ∧ Ch (fun a k => (a = 207 ∧ (k = 48 ∨ k = 51)) ∨ ((a = 234 ∨ a = 235) ∧ k = s0) ∨ (a = 236 ∧ k = inn + 1)) M0 M1 ∧ dI M1 207 48 = nn (s0 + 1) ∧ dI M1 207 51 = nn (inn + 1) ∧ dI M1 234 s0 = nn oc ∧ dI M1 235 s0 = x ∧ dI M1 236 (inn + 1) = 0 := by
    intro M0 c0
    have g48 : dI M0 207 48 = nn s0 := by rw [c0.i (by omega)]; exact e48
    have g51 : dI M0 207 51 = nn inn := by rw [c0.i (by omega)]; exact h51
    have i1 := nn_in (k := s0) (n := 64) (by omega) (by omega)
    have d1 : dI (sI M0 234 s0 (nn oc)) 207 48 = nn s0 := by rw [dI_s, if_neg (by omega)]; exact g48
    have d2 : dI (sI (sI M0 234 s0 (nn oc)) 235 s0 x) 207 48 = nn s0 := by rw [dI_s, if_neg (by omega)]; exact d1
    rw [g48, if_neg i1, nn_nat (by omega), d1, if_neg i1, nn_nat (by omega), d2, nn_1]
    unfold f_X12_enter_b35
    have c1 : Ch (fun a k => (a = 207 ∧ k = 48) ∨ ((a = 234 ∨ a = 235) ∧ k = s0)) M0 (sI (sI (sI M0 234 s0 (nn oc)) 235 s0 x) 207 48 (nn (s0 + 1))) := Ch.sI (by omega) (Ch.sI (by omega) (Ch.sI (by omega) Ch.rf))
    have w1 : dI (sI (sI (sI M0 234 s0 (nn oc)) 235 s0 x) 207 48 (nn (s0 + 1))) 207 48 = nn (s0 + 1) := by rw [dI_s, if_pos ⟨rfl, rfl⟩]
    have w2 : dI (sI (sI (sI M0 234 s0 (nn oc)) 235 s0 x) 207 48 (nn (s0 + 1))) 234 s0 = nn oc := by rw [dI_s, if_neg (by omega), dI_s, if_neg (by omega), dI_s, if_pos ⟨rfl, rfl⟩]
    have w3 : dI (sI (sI (sI M0 234 s0 (nn oc)) 235 s0 x) 207 48 (nn (s0 + 1))) 235 s0 = x := by rw [dI_s, if_neg (by omega), dI_s, if_pos ⟨rfl, rfl⟩]
    have w4 : dI (sI (sI (sI M0 234 s0 (nn oc)) 235 s0 x) 207 48 (nn (s0 + 1))) 207 51 = nn inn := by rw [c1.i (by omega)]; exact g51
    generalize sI (sI (sI M0 234 s0 (nn oc)) 235 s0 x) 207 48 (nn (s0 + 1)) = E at *
    have w5 : dI (sI E 207 51 (nn (inn + 1))) 207 51 = nn (inn + 1) := by rw [dI_s, if_pos ⟨rfl, rfl⟩]
    rw [w4, nn_1, w5, if_neg (nn_in (k := inn + 1) (n := 10) (by omega) (by omega)), nn_nat (by omega)]
    refine ⟨_, rfl, (c1.mono (fun a k w => by omega)).tr (Ch.sI (by omega) (Ch.sI (by omega) Ch.rf)), ?_, ?_, ?_, ?_, ?_⟩
    · rw [dI_s, if_neg (by omega), dI_s, if_neg (by omega)]; exact w1
    · rw [dI_s, if_neg (by omega), dI_s, if_pos ⟨rfl, rfl⟩]
    · rw [dI_s, if_neg (by omega), dI_s, if_neg (by omega)]; exact w2
    · rw [dI_s, if_neg (by omega), dI_s, if_neg (by omega)]; exact w3
    · rw [dI_s, if_pos ⟨rfl, rfl⟩]; decide
  -- refused at once
  have no : f_X12_opening N (nn oc) M = some (sI M 207 40 (nn p)) → f_X5_openWith nu (nn oc) S C = some (.inl 4, (S.1, S.2.1, S.2.2.1 - 1, S.2.2.2 - 6), C) → ∃ M1, f_X12_enter N (nn oc) x M = some M1 ∧ (∃ S' C' M' q k, zx_br N nu rec (nn oc) (nn cc) S C = some (.inl 4, S', C') ∧ (S'.1 = S.1 ∧ S'.2.1 = S.2.1) ∧ (dI C' 3 7 = nn q ∧ dI M' 207 40 = nn q ∧ p ≤ q ∧ q ≤ 240) ∧ Ch (XC P (b + n)) C C' ∧ Ch (XM (eb + n) eu s0 (inn + 1)) M M' ∧ k + p ≤ q + 1 ∧ ∀ g, f_X12_expression_b24 N (g + k) x1 1 M1 = some (x1, M')) := by
    intro hm hc
    have c0 : Ch (fun a k => a = 207 ∧ 36 ≤ k ∧ k ≤ 41) M (sI M 207 40 (nn p)) := Ch.sI (by omega) Ch.rf
    obtain ⟨M1, m1, m2, m3⟩ := ent _ c0
    have b1 : dI M1 207 40 = nn p := by rw [m2.i (by omega), dI_s, if_pos ⟨rfl, rfl⟩]
    refine ⟨M1, ?_, (S.1, S.2.1, S.2.2.1 - 1, S.2.2.2 - 6), C, M1, p, 1, ?_, ⟨rfl, rfl⟩, ⟨hkC.1, b1, Nat.le_refl _, hp240⟩, Ch.rf, ?_, by omega, fun g => zx_Lb (by omega) b1⟩
    · unfold f_X12_enter
      rw [hm, bS]
      exact m1
    · unfold zx_br
      rw [hc, sb2_l]
    · exact (c0.mono (fun a k w => by unfold XM; omega)).tr (m2.mono (fun a k w => by unfold XM; omega))
  by_cases hto : t = oc
  · subst hto
    have k6 : dI C 3 6 = nn t := by rw [hkC.2.2.1, zl_ckt (by omega)]
    have k37 : dI M 207 37 = nn t := by rw [hkM.2.2.1, zx_mt (by omega)]
    by_cases h8 : o = 8
    · obtain ⟨M1, q1, q2⟩ := no (by
        unfold f_X12_opening f_X12_opening_b25 f_X12_opening_b46
        rw [h40, if_pos (by decide), k37, if_pos rfl, ho.2.2, h8, if_pos (show nn 8 = 8 from rfl), zx_wrong h40 hkM.1]
        rfl) (by
        unfold f_X5_openWith
        rw [k6, if_pos rfl, ho.2.1, h8, if_neg (show ¬ nn 8 < 8 by decide), zx_b17 hS])
      exact ⟨M1, q1, Or.inl q2⟩
    · -- open
      have o8 : o < 8 := by omega
      have cc1 : Ch (fun a k => a = 3 ∧ k = 5) C (sI C 3 5 (nn (o + 1))) := Ch.sI (by omega) Ch.rf
      have cm1 : Ch (fun a k => a = 207 ∧ k = 41) M (sI M 207 41 (nn (o + 1))) := Ch.sI (by omega) Ch.rf
      have hB1 : Rb nu len P tx (o + 1) e (sI C 3 5 (nn (o + 1))) (sI M 207 41 (nn (o + 1))) := by
        obtain ⟨⟨h1, h2⟩, ⟨h3, h4, h5⟩, h6, ⟨h7, h8, h9⟩, ⟨h10, h11⟩, ⟨h12, h13, h14⟩, h15⟩ := hB
        refine ⟨⟨h1.kept cc1 (fun a k w => by omega), h2.kept cm1 (fun a k w => by omega)⟩, ⟨h3, h4.kept cc1 (fun a k w => by unfold RTb; omega), by rw [cm1.i (by omega)]; exact h5⟩, by rw [cm1.i (by omega)]; exact h6, ⟨by omega, by rw [dI_s, if_pos ⟨rfl, rfl⟩], by rw [dI_s, if_pos ⟨rfl, rfl⟩]⟩, ⟨h10, h11⟩, ⟨h12, by rw [cc1.i (by omega)]; exact h13, by rw [cm1.i (by omega)]; exact h14⟩, fun y hy => ?_⟩
        rw [cc1.i (by omega), cc1.i (by omega), cc1.i (by omega), cm1.i (by omega), cm1.i (by omega)]
        exact h15 y hy
      obtain ⟨p1, e1, t1, v1, C1, M0, a1, a2, a3, a4, a5, a6, a7⟩ := zx_adv hN hB1
      have pe : p < e := hTk.2.1 (by omega)
      have c0 : Ch (fun a k => a = 207 ∧ 36 ≤ k ∧ k ≤ 41) M M0 := (cm1.mono (fun a k w => by omega)).tr (a7.mono (fun a k w => by unfold QlM at w; omega))
      obtain ⟨M1, m1, m2, m3, m4, m5, m6, m7⟩ := ent M0 c0
      have hopen : f_X5_openWith nu (nn t) S C = some (.inr (), S, C1) := by
        unfold f_X5_openWith
        rw [k6, if_pos rfl, ho.2.1, if_pos (show nn o < 8 from (nn_lt (b := 8) (by omega) (by omega)).mpr o8), nn_1, a1]
        rfl
      have hent : f_X12_enter N (nn t) x M = some M1 := by
        unfold f_X12_enter f_X12_opening f_X12_opening_b46
        rw [h40, if_pos (by decide), k37, if_pos rfl, ho.2.2, if_neg (show ¬ nn o = 8 from fun q => h8 ((nn_eq (b := 8) (by omega) (by omega)).mp q)), nn_1, a2, bS, bS]
        exact m1
      have cC1 : Ch (fun a k => a = 3 ∧ 5 ≤ k ∧ k ≤ 9) C C1 := (cc1.mono (fun a k w => by omega)).tr (a6.mono (fun a k w => by unfold QlC at w; omega))
      have cM1 : Ch (fun a k => (a = 207 ∧ ((36 ≤ k ∧ k ≤ 41) ∨ k = 48 ∨ k = 51)) ∨ ((a = 234 ∨ a = 235) ∧ k = s0) ∨ (a = 236 ∧ k = inn + 1)) M M1 := (c0.mono (fun a k w => by omega)).tr (m2.mono (fun a k w => by omega))
      have pre : XPre 1 nu len P tx (o + 1) p1 e1 t1 v1 b eb eu n (s0 + 1) (inn + 1) w (c + 1) C1 M1 := by
        refine ⟨a5.kept (Ch.rf (P := fun _ _ => False)) m2 (fun a k w => w.elim) (fun a k w => by unfold RRm; omega), ?_, ⟨m4, by omega⟩, ⟨hb.1, hb.2.1, by omega, by omega⟩, Or.inr ⟨t, by omega, by rw [Nat.add_sub_cancel]; exact m5, ?_⟩, fun _ => m7⟩
        · obtain ⟨u1, u2, u3, u4, u5⟩ := hE
          refine ⟨by rw [cC1.i (by have := hB.2.2.2.2.1.1; omega)]; exact u1, by rw [cM1.i (by omega)]; exact u2, fun i hi => ?_, by rw [m3, Nat.add_zero], fun i hi => absurd hi (by omega)⟩
          have hPP := hB.2.2.2.2.1.1
          exact (u3 i hi).kept (cC1.i (by omega)) (cC1.i (by omega)) (cM1.i (by omega)) (cM1.i (by omega)) (fun y _ hy => by rw [cM1.i (by omega)]; exact hy)
        · rcases hoc with h | h
          · rw [h.1]; decide
          · rw [h.1]; decide
      have fC1 : Ch (XC P (b + n)) C C1 := cC1.mono (fun a k w => by unfold XC; omega)
      have fM1 : Ch (XM (eb + n) eu s0 (inn + 1)) M M1 := cM1.mono (fun a k w => by unfold XM; omega)
      refine ⟨M1, hent, ?_⟩
      rcases hrec o8 p1 e1 t1 v1 b eb eu n (s0 + 1) (inn + 1) w (c + 1) x1 S C1 M1 pre hS with hbad | ⟨a, C', M', p', e', t', v', n', pn', k, r1, r2, r3, r4, r5, r6, r7, r8, r9⟩
      · left
        rw [if_pos rfl, Nat.add_zero] at hbad
        obtain ⟨S', C', M', q, k, r1, r2, r3, r4, r5, r6, r7⟩ := hbad
        refine ⟨S', C', M', q, k, ?_, r2, ⟨r3.1, r3.2.1, by omega, r3.2.2.2⟩, fC1.tr r4, fM1.tr (r5.mono (fun a k w => by unfold XM at w ⊢; omega)), by omega, r7⟩
        unfold zx_br
        rw [hopen, sb2_r, r1, sb2_l]
      · rw [if_pos rfl, Nat.add_zero] at r5
        obtain ⟨q1, q2, ⟨q3, _⟩, ⟨q4, q5, q6, q7, q8⟩, q9, q10, q11⟩ := r3
        obtain ⟨gB, gkC, gkM, gTk⟩ := id q1
        have ht' := zx_tok_lt gTk
        have gp : p' ≤ 240 := by have := gTk.1; have := gB.1.1.1; omega
        -- the model: what is pending, then the bracket
        have top1 : Top 1 (s0 + 1) M' := q9
        obtain ⟨M2, f1, f2, f3⟩ := zx_flush hN (r := 1) (rr := 1) ⟨by decide, by decide⟩ (by decide) (by omega) (by omega) q2 (show eb + n' + pn' < eu by omega) hb.2.1 top1
        have z234 : dI M2 234 s0 = nn t := by rw [f3.i (by unfold Fm; omega), r5.i (by unfold XM; omega)]; exact m5
        have z235 : dI M2 235 s0 = x := by rw [f3.i (by unfold Fm; omega), r5.i (by unfold XM; omega)]; exact m6
        have z48 : dI M2 207 48 = nn (s0 + 1) := by have := f2.2.2.2.1; rw [Nat.add_zero] at this; exact this
        have z51 : dI M2 207 51 = nn (inn + 1) := by rw [f3.i (by unfold Fm; omega)]; exact q3
        have z37 : dI M2 207 37 = nn (zl_mt t') := by rw [f3.i (by unfold Fm; omega)]; exact gkM.2.2.1
        have z40 : dI M2 207 40 = -1 := by rw [f3.i (by unfold Fm; omega)]; exact gB.2.2.1
        have z39 : dI M2 207 39 = nn p' := by rw [f3.i (by unfold Fm; omega)]; exact gkM.1
        have hinn : inn ≤ 7 := by omega
        have beh : f_X12_behind N M' = f_X12_behind_b134 N (nn t) (nn cc) (nn (zl_mt t')) M2 := by
          have b80 : f_X12_behind_b80 N M' = f_X12_behind_b134 N (nn t) (nn cc) (nn (zl_mt t')) M2 := by
            unfold f_X12_behind_b80
            have s1 : nn (s0 + 1) - (1 : Int32) = nn s0 := by
              have := nn_sub (a := s0 + 1) (b := 1) (by omega) (by omega)
              rw [Nat.add_sub_cancel] at this
              exact this
            have f1' : f_X12_flush N 1 M' = some M2 := f1
            rw [q3, if_neg (show ¬ nn (inn + 1) = 0 from fun q => by have := (nn_eq (b := 0) (by omega) (by omega)).mp q; omega), f1', bS, z48, s1, if_neg (nn_in (k := s0) (n := 64) (by omega) (by omega)), nn_nat (by omega), z234, z37]
            rcases hoc with h | h
            · rw [h.1, h.2, if_pos (show nn 40 = 40 from rfl)]
              rfl
            · rw [h.1, h.2, if_neg (show ¬ nn 91 = 40 by decide)]
              rfl
          unfold f_X12_behind
          rw [gkM.2.2.1, zx_rank (by have := zx_mt_lt ht'; omega), bS, zx_rkmt]
          rcases r8.1 rfl with h0 | ⟨h1, h2⟩
          · rw [h0, if_neg (show ¬ (1 : Int32) < nn 0 by decide), if_neg (show ¬ nn 0 = 1 by decide), b80]
          · rw [h1, if_neg (show ¬ (1 : Int32) < nn 1 by decide), if_pos (show nn 1 = 1 from rfl), q3, if_neg (nn_in (k := inn + 1) (n := 10) (by omega) (by omega)), nn_nat (by omega), h2, if_neg (by decide), b80]
        have fM2 : Ch (XM (eb + n) eu s0 (inn + 1)) M M2 := fM1.tr ((r5.mono (fun a k w => by unfold XM at w ⊢; omega)).tr (f3.mono (fun a k w => by unfold Fm at w; unfold XM; omega)))
        have hgo : zx_br N nu rec (nn t) (nn cc) S C = sb2 (f_X5_closeWith nu (nn cc) S C') (fun p7 S9 D9 => some (.inr (), S9, D9)) := by
          unfold zx_br
          rw [hopen, sb2_r, r1, sb2_r]
        by_cases htc : t' = cc
        · right
          subst htc
          have c6 : dI C' 3 6 = nn t' := by rw [gkC.2.2.1, zl_ckt (by omega)]
          have s5 : nn (o + 1) - (1 : Int32) = nn o := by
            have := nn_sub (a := o + 1) (b := 1) (by omega) (by omega)
            rw [Nat.add_sub_cancel] at this
            exact this
          have cc2 : Ch (fun a k => a = 3 ∧ k = 5) C' (sI C' 3 5 (nn o)) := Ch.sI (by omega) Ch.rf
          -- the lexer goes on over a memory where open is one less already
          have cm2 : Ch (fun a k => (a = 207 ∧ (k = 48 ∨ k = 51 ∨ k = 41))) M2 (sI (sI (sI M2 207 48 (nn s0)) 207 51 (nn inn)) 207 41 (nn o)) := Ch.sI (by omega) (Ch.sI (by omega) (Ch.sI (by omega) Ch.rf))
          have hBm : Rb nu len P tx (o + 1) e' C' M2 := gB.kept (Ch.rf (P := fun _ _ => False)) f3 (fun a k w => w.elim) (fun a k w => by unfold Fm at w; unfold RRm; omega)
          obtain ⟨⟨j1, j2⟩, ⟨j3, j4, j5⟩, j6, ⟨j7, j8, j9⟩, ⟨j10, j11⟩, ⟨j12, j13, j14⟩, j15⟩ := hBm
          obtain ⟨p3, e3, t3, v3, C3, M3, l1, l2, l3, l4, l5, l6⟩ := zl_lex hN (j1.kept cc2 (fun a k w => by omega)) j2 j3 (j4.kept cc2 (fun a k w => by unfold RTb; omega)) j5
          have pe' : p' < e' := gTk.2.1 (by omega)
          have v41 : dI M3 207 41 = nn (o + 1) := by rw [l6.i (by unfold QlM; omega)]; exact j9
          have v48 : dI M3 207 48 = nn (s0 + 1) := by rw [l6.i (by unfold QlM; omega)]; exact z48
          have v51 : dI M3 207 51 = nn (inn + 1) := by rw [l6.i (by unfold QlM; omega)]; exact z51
          have v235 : dI M3 235 s0 = x := by rw [l6.i (by unfold QlM; omega)]; exact z235
          have s1 : ∀ y, y < 1000 → nn (y + 1) - (1 : Int32) = nn y := fun y hy => by
            have := nn_sub (a := y + 1) (b := 1) (by omega) (by omega)
            rw [Nat.add_sub_cancel] at this
            exact this
          have cm3 : Ch (fun a k => a = 207 ∧ (k = 48 ∨ k = 51 ∨ k = 41)) M3 (sI (sI (sI M3 207 48 (nn s0)) 207 51 (nn inn)) 207 41 (nn o)) := Ch.sI (by omega) (Ch.sI (by omega) (Ch.sI (by omega) Ch.rf))
          have w41 : dI (sI (sI (sI M3 207 48 (nn s0)) 207 51 (nn inn)) 207 41 (nn o)) 207 41 = nn o := by rw [dI_s, if_pos ⟨rfl, rfl⟩]
          have w48 : dI (sI (sI (sI M3 207 48 (nn s0)) 207 51 (nn inn)) 207 41 (nn o)) 207 48 = nn s0 := by rw [dI_s, if_neg (by omega), dI_s, if_neg (by omega), dI_s, if_pos ⟨rfl, rfl⟩]
          have w51 : dI (sI (sI (sI M3 207 48 (nn s0)) 207 51 (nn inn)) 207 41 (nn o)) 207 51 = nn inn := by rw [dI_s, if_neg (by omega), dI_s, if_pos ⟨rfl, rfl⟩]
          have b134 : ∀ g, (f_X12_behind N M').bind (fun p4 => f_X12_expression_b24 N g x1 p4.1 p4.2) = if t = 91 then (f_X12_emit 3 x (sI (sI (sI M3 207 48 (nn s0)) 207 51 (nn inn)) 207 41 (nn o))).bind (fun M'' => f_X12_expression_b24 N g x1 2 M'') else f_X12_expression_b24 N g x1 2 (sI (sI (sI M3 207 48 (nn s0)) 207 51 (nn inn)) 207 41 (nn o)) := fun g => by
            have d51 : dI (sI M3 207 48 (nn s0)) 207 51 = nn (inn + 1) := by rw [dI_s, if_neg (by omega)]; exact v51
            have d41 : dI (sI (sI M3 207 48 (nn s0)) 207 51 (nn inn)) 207 41 = nn (o + 1) := by rw [dI_s, if_neg (by omega), dI_s, if_neg (by omega)]; exact v41
            rw [beh]
            unfold f_X12_behind_b134
            rw [zx_mt (show 5 ≤ t' by omega), if_pos rfl, l2, bS, v48, s1 s0 (by omega), d51, s1 inn (by omega), d41, s1 o (by omega)]
            unfold f_X12_behind_b177 f_X12_behind_b197
            rcases hoc with h | h
            · rw [h.1, if_neg (show ¬ nn 40 = 91 by decide), if_neg (show ¬ 40 = 91 by decide)]
              rfl
            · rw [h.1, if_pos (show nn 91 = 91 from rfl), if_pos rfl, w48, if_neg (nn_in (k := s0) (n := 64) (by omega) (by omega)), nn_nat (by omega), cm3.i (by omega), v235]
              cases f_X12_emit 3 x (sI (sI (sI M3 207 48 (nn s0)) 207 51 (nn inn)) 207 41 (nn o)) with
              | none => rfl
              | some y => rfl
          generalize sI (sI (sI M3 207 48 (nn s0)) 207 51 (nn inn)) 207 41 (nn o) = M4 at *
          have cC3 : Ch (fun a k => a = 3 ∧ 5 ≤ k ∧ k ≤ 9) C' C3 := (cc2.mono (fun a k w => by omega)).tr (l5.mono (fun a k w => by unfold QlC at w; omega))
          have cM4 : Ch (fun a k => a = 207 ∧ ((36 ≤ k ∧ k ≤ 39) ∨ k = 48 ∨ k = 51 ∨ k = 41)) M2 M4 := (l6.mono (fun a k w => by unfold QlM at w; omega)).tr (cm3.mono (fun a k w => by omega))
          obtain ⟨⟨i1, i2⟩, ⟨i3, i3'⟩, i4, i5⟩ := l4
          refine ⟨C3, M4, p3, e3, t3, v3, n' + pn', k + 1, ?_, ⟨⟨⟨i1, i2.kept cm3 (fun a k w => by omega)⟩, ⟨i5.1.2, i3', by rw [cm3.i (by omega)]; exact i4.2.1⟩, by rw [cM4.i (by omega)]; exact z40, ⟨ho.1, ?_, w41⟩, ⟨j10, by rw [cC3.r (by omega)]; exact j11⟩, ⟨j12, by rw [cC3.i (by omega)]; exact j13, by rw [cM4.i (by omega)]; exact j14⟩, fun y hy => ?_⟩, i3, i4.kept cm3 (fun a k w => by omega), i5⟩, ?_, w51, ⟨by omega, by omega⟩, ?_, ?_, by omega, fun g => ?_, ?_, ?_⟩
          · rw [hgo]
            unfold f_X5_closeWith
            rw [c6, if_pos rfl, gB.2.2.2.1.2.1, s5, l1, bS, sb2_r]
          · rw [l5.i (by unfold QlC; omega), dI_s, if_pos ⟨rfl, rfl⟩]
          · rw [cC3.i (by omega), cC3.i (by have := j10; omega), cC3.i (by have := j10; omega), cM4.i (by omega), cM4.i (by omega)]
            exact j15 y hy
          · obtain ⟨u1, u2, u3, u4, u5⟩ := f2
            refine ⟨by rw [cC3.i (by have := j10; omega)]; exact u1, by rw [cM4.i (by omega)]; exact u2, fun i hi => ?_, by rw [w48, Nat.add_zero], fun i hi => absurd hi (by omega)⟩
            exact (u3 i hi).kept (cC3.i (by have := j10; omega)) (cC3.i (by have := j10; omega)) (cM4.i (by omega)) (cM4.i (by omega)) (fun y _ hy => by rw [cM4.i (by omega)]; exact hy)
          · exact fC1.tr (r4.tr (cC3.mono (fun a k w => by unfold XC; omega)))
          · exact fM2.tr (cM4.mono (fun a k w => by unfold XM; omega))
          · rw [show g + (k + 1) = (g + 1) + k by omega, r7, zx_L2 gB.2.2.1]
            exact b134 g
          · intro h hh
            rw [show b + (n' + pn') = b + n' + pn' by omega, zx_h_eq (C := C') _ _ _ (fun j _ _ => cC3.i (by have := j10; omega))]
            exact q10 h (by omega)
          · exact (RP.rf (fun y => cM1.i (by omega))).tr (r9.tr ((RP.rf (fun y => f3.i (by unfold Fm; omega))).tr (RP.rf (fun y => cM4.i (by omega)))))
        · left
          have c6 : ¬ dI C' 3 6 = nn cc := by rw [gkC.2.2.1]; exact fun q => htc ((zx_tkC ht' hSc).mp q)
          refine ⟨(S.1, S.2.1, S.2.2.1 - 1, S.2.2.2 - 6), C', sI M2 207 40 (nn p'), p', k + 2, ?_, ⟨rfl, rfl⟩, ⟨gkC.1, by rw [dI_s, if_pos ⟨rfl, rfl⟩], by omega, gp⟩, fC1.tr r4, Ch.sI (by unfold XM; omega) fM2, by omega, fun g => ?_⟩
          · rw [hgo]
            unfold f_X5_closeWith
            rw [if_neg c6, if_pos (show 1 ≤ S.2.2.1 ∧ 6 ≤ S.2.2.2 from hS), sb2_l]
          · rw [show g + (k + 2) = ((g + 1) + 1) + k by omega, r7, zx_L2 gB.2.2.1, beh]
            unfold f_X12_behind_b134
            rw [if_neg (fun q => htc ((zx_tkM ht' hSc).mp q)), zx_wrong z40 z39, bS, bS]
            exact zx_Lb (q := p') (by omega) (by rw [dI_s, if_pos ⟨rfl, rfl⟩])
  · obtain ⟨M1, q1, q2⟩ := no (by
      unfold f_X12_opening f_X12_opening_b25 f_X12_opening_b46
      rw [h40, if_pos (by decide), hkM.2.2.1, if_neg (fun q => hto ((zx_tkM ht hS9).mp q)), zx_wrong h40 hkM.1]
      rfl) (by
      unfold f_X5_openWith
      rw [hkC.2.2.1, if_neg (fun q => hto ((zx_tkC ht hS9).mp q)), zx_b17 hS])
    exact ⟨M1, q1, Or.inl q2⟩
