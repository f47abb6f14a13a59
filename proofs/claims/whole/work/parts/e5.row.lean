/-! signs that open and close; ROW "[" E "]" "=" E ";" -/
theorem zs_open {N nu len P : Nat} {tx : Nat → Nat} {o p e t v c : Nat} (hN : 1000 ≤ N) {S : Sr} {C M : Dat} (hR : Rd nu len P tx o p e t v C M) (hS : Sb S) (hc : zl_S c = true) : (∃ p' e' t' v' C' M', f_X5_openWith nu (nn c) S C = some (.inr (), S, C') ∧ f_X12_opening N (nn c) M = some M' ∧ p + 1 ≤ p' ∧ p' ≤ 240 ∧ o < 8 ∧ Rd nu len P tx (o + 1) p' e' t' v' C' M' ∧ Ch (fun a k => a = 3 ∧ 5 ≤ k ∧ k ≤ 9) C C' ∧ Ch (fun a k => a = 207 ∧ 36 ≤ k ∧ k ≤ 41) M M') ∨ (f_X5_openWith nu (nn c) S C = some (.inl 4, Sx S, C) ∧ f_X12_opening N (nn c) M = some (sI M 207 40 (nn p))) := by
  obtain ⟨hB, hkC, hkM, hTk⟩ := id hR
  have h40 := hB.2.2.1
  have ho := hB.2.2.2.1
  have ht := zx_tok_lt hTk
  have hc' := zl_Si.mp hc
  unfold f_X5_openWith f_X12_opening f_X12_opening_b25 f_X12_opening_b46
  rw [hkC.2.2.1, hkM.2.2.1, h40, if_pos (show (-1 : Int32) < 0 by decide)]
  by_cases q : t = c
  · rw [if_pos ((zx_tkC ht hc).mpr q), if_pos ((zx_tkM ht hc).mpr q)]
    by_cases h8 : o = 8
    · right
      rw [ho.2.1, ho.2.2, h8, if_neg (show ¬ nn 8 < 8 by decide), if_pos (show nn 8 = 8 from rfl), zx_b17 hS, zx_wrong h40 hkM.1]
      exact ⟨rfl, rfl⟩
    · left
      have o8 : o < 8 := by omega
      have cc1 : Ch (fun a k => a = 3 ∧ k = 5) C (sI C 3 5 (nn (o + 1))) := Ch.sI (by omega) Ch.rf
      have cm1 : Ch (fun a k => a = 207 ∧ k = 41) M (sI M 207 41 (nn (o + 1))) := Ch.sI (by omega) Ch.rf
      have hB1 : Rb nu len P tx (o + 1) e (sI C 3 5 (nn (o + 1))) (sI M 207 41 (nn (o + 1))) := by
        obtain ⟨⟨h1, h2⟩, ⟨h3, h4, h5⟩, h6, ⟨h7, h8, h9⟩, ⟨h10, h11⟩, ⟨h12, h13, h14⟩, h15⟩ := hB
        refine ⟨⟨h1.kept cc1 (fun a k w => by omega), h2.kept cm1 (fun a k w => by omega)⟩, ⟨h3, h4.kept cc1 (fun a k w => by unfold RTb; omega), by rw [cm1.i (by omega)]; exact h5⟩, by rw [cm1.i (by omega)]; exact h6, ⟨by omega, by rw [dI_s, if_pos ⟨rfl, rfl⟩], by rw [dI_s, if_pos ⟨rfl, rfl⟩]⟩, ⟨h10, h11⟩, ⟨h12, by rw [cc1.i (by omega)]; exact h13, by rw [cm1.i (by omega)]; exact h14⟩, fun y hy => ?_⟩
        rw [cc1.i (by omega), cc1.i (by omega), cc1.i (by omega), cm1.i (by omega), cm1.i (by omega)]
        exact h15 y hy
      obtain ⟨p1, e1, t1, v1, C1, M0, a1, a2, a3, a4, a5, a6, a7⟩ := zx_adv hN hB1
      have pe : p < e := hTk.2.1 (by omega)
      rw [ho.2.1, ho.2.2, if_pos (show nn o < 8 from (nn_lt (b := 8) (by omega) (by omega)).mpr o8), if_neg (show ¬ nn o = 8 from fun q => h8 ((nn_eq (b := 8) (by omega) (by omega)).mp q)), nn_1, a1, bS, a2, bS]
      exact ⟨p1, e1, t1, v1, C1, M0, rfl, rfl, by omega, a4, o8, a5, (cc1.mono (fun a k w => by omega)).tr (a6.mono (fun a k w => by unfold QlC at w; omega)), (cm1.mono (fun a k w => by omega)).tr (a7.mono (fun a k w => by unfold QlM at w; omega))⟩
  · right
    rw [if_neg (fun w => q ((zx_tkC ht hc).mp w)), if_neg (fun w => q ((zx_tkM ht hc).mp w)), zx_b17 hS, zx_wrong h40 hkM.1]
    exact ⟨rfl, rfl⟩
theorem zs_n1 {o : Nat} (h : o < 1000) : nn (o + 1) - (1 : Int32) = nn o := by
  have := nn_sub (a := o + 1) (b := 1) (by omega) (by omega)
  rw [Nat.add_sub_cancel] at this
  exact this
/-- a closing sign: the class counts ahead of the next token, the model behind it -/
theorem zs_close {N nu len P : Nat} {tx : Nat → Nat} {o p e t v c : Nat} (hN : 1000 ≤ N) {S : Sr} {C M : Dat} (hR : Rd nu len P tx (o + 1) p e t v C M) (hS : Sb S) (hc : zl_S c = true) : (t = c ∧ ∃ p' e' t' v' C' M1, f_X5_closeWith nu (nn c) S C = some (.inr (), S, C') ∧ f_X12_next N M = some M1 ∧ dI M1 207 41 = nn (o + 1) ∧ p + 1 ≤ p' ∧ p' ≤ 240 ∧ Rd nu len P tx o p' e' t' v' C' (sI M1 207 41 (nn o)) ∧ Ch (fun a k => a = 3 ∧ 5 ≤ k ∧ k ≤ 9) C C' ∧ Ch QlM M M1) ∨ (¬ t = c ∧ f_X5_closeWith nu (nn c) S C = some (.inl 4, Sx S, C)) := by
  obtain ⟨hB, hkC, hkM, hTk⟩ := id hR
  have ho := hB.2.2.2.1
  have ht := zx_tok_lt hTk
  have hc' := zl_Si.mp hc
  unfold f_X5_closeWith
  rw [hkC.2.2.1]
  by_cases q : t = c
  · left
    rw [if_pos ((zx_tkC ht hc).mpr q), ho.2.1, zs_n1 (by omega)]
    have cc2 : Ch (fun a k => a = 3 ∧ k = 5) C (sI C 3 5 (nn o)) := Ch.sI (by omega) Ch.rf
    obtain ⟨⟨j1, j2⟩, ⟨j3, j4, j5⟩, j6, ⟨j7, j8, j9⟩, ⟨j10, j11⟩, ⟨j12, j13, j14⟩, j15⟩ := hB
    obtain ⟨p3, e3, t3, v3, C3, M3, l1, l2, l3, l4, l5, l6⟩ := zl_lex hN (j1.kept cc2 (fun a k w => by omega)) j2 j3 (j4.kept cc2 (fun a k w => by unfold RTb; omega)) j5
    have pe' : p < e := hTk.2.1 (by omega)
    have v41 : dI M3 207 41 = nn (o + 1) := by rw [l6.i (by unfold QlM; omega)]; exact j9
    have cm3 : Ch (fun a k => a = 207 ∧ k = 41) M3 (sI M3 207 41 (nn o)) := Ch.sI ⟨rfl, rfl⟩ Ch.rf
    have cC3 : Ch (fun a k => a = 3 ∧ 5 ≤ k ∧ k ≤ 9) C C3 := (cc2.mono (fun a k w => by omega)).tr (l5.mono (fun a k w => by unfold QlC at w; omega))
    have cM4 : Ch (fun a k => a = 207 ∧ ((36 ≤ k ∧ k ≤ 39) ∨ k = 41)) M (sI M3 207 41 (nn o)) := (l6.mono (fun a k w => by unfold QlM at w; omega)).tr (cm3.mono (fun a k w => by omega))
    obtain ⟨⟨i1, i2⟩, ⟨i3, i3'⟩, i4, i5⟩ := l4
    have := j1.1
    have := i5.1
    refine ⟨q, p3, e3, t3, v3, C3, M3, by rw [l1, bS], l2, v41, by omega, by omega, ⟨⟨⟨i1, i2.kept cm3 (fun a k w => by omega)⟩, ⟨i5.1.2, i3', by rw [cm3.i (by omega)]; exact i4.2.1⟩, by rw [cM4.i (by omega)]; exact j6, ⟨by omega, ?_, by rw [dI_s, if_pos ⟨rfl, rfl⟩]⟩, ⟨j10, by rw [cC3.r (by omega)]; exact j11⟩, ⟨j12, by rw [cC3.i (by omega)]; exact j13, by rw [cM4.i (by omega)]; exact j14⟩, fun y hy => ?_⟩, i3, i4.kept cm3 (fun a k w => by omega), i5⟩, cC3, l6⟩
    · rw [l5.i (by unfold QlC; omega), dI_s, if_pos ⟨rfl, rfl⟩]
    · rw [cC3.i (by omega), cC3.i (by omega), cC3.i (by omega), cM4.i (by omega), cM4.i (by omega)]
      exact j15 y hy
  · right
    rw [if_neg (fun w => q ((zx_tkC ht hc).mp w)), if_pos (show 1 ≤ S.2.2.1 ∧ 6 ≤ S.2.2.2 from hS)]
    exact ⟨q, rfl⟩
theorem zs_b120B {N q : Nat} {x : Int32} {M : Dat} (hq : q < 1000) (h : dI M 207 40 = nn q) : f_X12_named_b120 N x M = some M := by
  unfold f_X12_named_b120 f_X12_named_b143
  rw [zs_expB hq h, bS, h, if_pos (show (0 : Int32) ≤ nn q from (nn_le (a := 0) (by omega) (by omega)).mpr (by omega)), zs_expB hq h, bS]
theorem zs_b85B {N q : Nat} {x : Int32} {M : Dat} (hq : q < 1000) (h : dI M 207 40 = nn q) : f_X12_named_b85 N x M = some (sI M 207 41 (dI M 207 41 - 1)) := by
  unfold f_X12_named_b85
  rw [zs_expB hq h, bS, zs_b120B (q := q) hq (by rw [dI_s, if_neg (by omega)]; exact h)]
theorem zs_row {N nu len P : Nat} {tx : Nat → Nat} {nb h o p e v j b w E jE sa si la li : Nat} {K0 W : Nat → Nat} {x1 : Int32} (hN : 1000 ≤ N) {S : Sr} {C M : Dat} (hp : SPre nu len P tx nb h o p e 1 v j b w E jE sa si la li K0 W S C M) (hv : dI M 229 v = 3) : SBad N P nb h o p j b (260 * h + b + w) la li K0 x1 C M (f_X5_readRowSetting N nu S C) (fun f => (f_X12_statement N M).bind f) ∨ SGood N nu len P tx nb h o p j b (260 * h + b + w) la li E jE K0 W x1 C M (f_X5_readRowSetting N nu S C) (fun f => (f_X12_statement N M).bind f) := by
  obtain ⟨S0, C0, M0, a1, a2, hz, ht, ⟨y1, y2, y3, y4, y5, y6, y7, y8⟩, ⟨z1, z2, z3, z4, z5, z6, z7, z8⟩⟩ := zs_zb 4 hp
  obtain ⟨c0, m0, hS0, hkd, ⟨g1, g2, g3, hPP, hh, ho, hbw⟩, hla⟩ := id hz
  have hR := hp.1.1
  have hv26 : v < 26 := (hR.2.2.2.2.2.2.1 rfl).1
  have hSb := hS0.sb (by omega)
  have r0 : dI M0 229 v = 3 := by rw [m0.i (by unfold Ma; omega)]; exact hv
  have i128 : ¬ (nn (64 * h + j) < 0 ∨ 128 ≤ (nn (64 * h + j)).toNatClampNeg) := nn_in (k := 64 * h + j) (n := 128) (by omega) (by omega)
  have i26 : ¬ (nn v < 0 ∨ 26 ≤ (nn v).toNatClampNeg) := nn_in (k := v) (n := 26) (by omega) hv26
  have nm : (nn (64 * h + j)).toNatClampNeg = 64 * h + j := nn_nat (by omega)
  have nv : (nn v).toNatClampNeg = v := nn_nat (by omega)
  have i26' : ¬ (nn v < 0 ∨ 26 ≤ v) := by have := i26; rw [nv] at this; exact this
  have i128' : ¬ (nn (64 * h + j) < 0 ∨ 128 ≤ 64 * h + j) := by have := i128; rw [nm] at this; exact this
  have k38 : dI M0 207 38 = nn v := ht.1.2.2.1.2.2.2 (Or.inl rfl)
  rcases zs_kindC (r := 2) hN ht.1 hSb (Or.inl rfl) with ⟨-, -, p1, e1, t1, v1, C1, M1, b1, b2, b3, b4, b5, b6, b7⟩ | ⟨hr, -⟩
  · have b1' : f_X5_takeName nu 2 S0 C0 = some (.inr (nn v), S0, C1) := b1
    have ht1 : Zt nu len P tx nb h o p j b w C0 M0 p1 e1 t1 v1 b w (sI C1 (nb + j) 2 (nn v)) (sI (sI M1 218 (64 * h + j) (nn v)) 216 (64 * h + j) 2) := (((ht.go b5 (b6.mono (fun a k q => by unfold QlC at q; omega)) (b7.mono (fun a k q => by unfold QlM at q; omega)) (RP.rf (fun x => b7.i (by unfold QlM; omega))) (by omega)).setC g3 (by omega)).setM (by omega)).setM (by omega)
    have r1 : ∀ y, dI (sI M1 218 (64 * h + j) y) 229 v = 3 := fun y => by rw [dI_s, if_neg (by omega), b7.i (by unfold QlM; omega)]; exact r0
    have r2 : ∀ y z, dI (sI (sI M1 218 (64 * h + j) y) 216 (64 * h + j) z) 229 v = 3 := fun y z => by rw [dI_s, if_neg (by omega)]; exact r1 y
    have v218 : dI (sI (sI M1 218 (64 * h + j) (nn v)) 216 (64 * h + j) 2) 218 (64 * h + j) = nn v := by rw [dI_s, if_neg (by omega), dI_s, if_pos ⟨rfl, rfl⟩]
    have v216 : dI (sI (sI M1 218 (64 * h + j) (nn v)) 216 (64 * h + j) 2) 216 (64 * h + j) = 2 := by rw [dI_s, if_pos ⟨rfl, rfl⟩]
    have x2 : dI (sI C1 (nb + j) 2 (nn v)) (nb + j) 2 = nn v := by rw [dI_s, if_pos ⟨rfl, rfl⟩]
    have x0 : ∀ k, k ≠ 2 → dI (sI C1 (nb + j) 2 (nn v)) (nb + j) k = dI C0 (nb + j) k := fun k hk => by rw [dI_s, if_neg (by omega), b6.i (by unfold QlC; omega)]
    have st : f_X12_statement N M = (f_X12_opening N 91 (sI (sI M1 218 (64 * h + j) (nn v)) 216 (64 * h + j) 2)).bind (fun p17 => if 0 ≤ (dI p17 207 40) then (f_X12_named_b85 N (nn (64 * h + j)) p17) else ((f_X12_expression N p17).bind (fun p20 => f_X12_named_b85 N (nn (64 * h + j)) (sI p20.2 220 (64 * h + j) p20.1)))) := by
      unfold f_X12_statement
      rw [hR.2.2.1.2.2.1, if_pos (show nn (zl_mt 1) = 110 from rfl), hR.2.2.1.1, a2, bS]
      unfold f_X12_named f_X12_named_b51
      simp only [k38, nv, nm, i26', i128', if_false, r0, if_pos (show (3 : Int32) ≤ 3 by decide), b2, bS, r1, r2, if_true, bI]
    have cls : f_X5_readRowSetting N nu S C = sb2 (f_X5_readIndex (f_X5_readExpression N nu 12) nu S0 (sI C1 (nb + j) 2 (nn v))) (fun p10 S12 D12 => sb2 (f_X5_take nu 61 S12 D12) (fun p13 S15 D15 => sb2 (f_X5_readExpression N nu 12 S15 D15) (fun p16 S18 D18 => if kd S18.2.1 (nb + j) = 7 then (sb2 (f_X5_take nu 59 S18 (sI D18 (nb + j) 5 p16)) (fun p20 S22 D22 => some (.inr (some (nb + j)), S22, D22))) else none))) := by
      unfold f_X5_readRowSetting f_X5_named f_X5_tail
      rw [a1, sb2_r, b1', sb2_r]
      show (if kd S0.2.1 (nb + j) = 7 then _ else _) = _
      rw [if_pos hkd, if_pos hkd, x0 0 (by omega), y1, if_pos rfl]
    generalize sI (sI M1 218 (64 * h + j) (nn v)) 216 (64 * h + j) 2 = M1' at *
    generalize sI C1 (nb + j) 2 (nn v) = C1' at *
    rw [cls]
    unfold f_X5_readIndex
    rcases zs_open (c := 91) hN ht1.1 hSb rfl with ⟨p2, e2, t2, v2, C2, M2, d1, d2, d3, d4, d5, d6, d7, d8⟩ | ⟨d1, d2⟩
    · have d1' : f_X5_openWith nu 91 S0 C1' = some (.inr (), S0, C2) := d1
      have d2' : f_X12_opening N 91 M1' = some M2 := d2
      have ht2 : Zt nu len P tx nb h (o + 1) p j b w C0 M0 p2 e2 t2 v2 b w C2 M2 := ht1.go d6 (d7.mono (fun a k q => by omega)) (d8.mono (fun a k q => by omega)) (RP.rf (fun x => d8.i (by omega))) (by omega)
      rw [d1', sb2_r]
      have st2 : f_X12_statement N M = (f_X12_expression N M2).bind (fun p20 => f_X12_named_b85 N (nn (64 * h + j)) (sI p20.2 220 (64 * h + j) p20.1)) := by
        rw [st, d2', bS, d6.1.2.2.1, if_neg m1_lt]
      rcases zt_expr hN hSb hh ht2 (by omega) with ⟨S', C', M', q, f1, f2, f3, f4, f5, f6⟩ | ⟨C3, M3, p3, e3, t3, v3, n, f1, f2, f3, f4, f5, f6, f7, f8, f9⟩
      · left
        have b40 : ∀ y, dI (sI M' 220 (64 * h + j) y) 207 40 = nn q := fun y => by rw [dI_s, if_neg (by omega)]; exact f4.2.1
        refine hz.bad (q := q) (S' := S') (C' := C') (by rw [f1, sb2_l, sb2_l]) f2 f4.1 ?_ f4.2.2 f5 ?_ (fun f => by show (f_X12_statement N M).bind f = _; rw [st2, f3, bS, zs_b85B (q := q) (by omega) (b40 _), bS])
        · rw [dI_s, if_neg (by omega)]; exact b40 _
        · exact Ch.sI (by unfold ZM; omega) (Ch.sI (by unfold ZM; omega) f6)
      · rw [f1, sb2_r]
        have st3 : f_X12_statement N M = f_X12_named_b85 N (nn (64 * h + j)) (sI M3 220 (64 * h + j) (nn (260 * h + b + w))) := by rw [st2, f2, bS]
        have hz3 : Zt nu len P tx nb h (o + 1) p j b w C0 M0 p3 e3 t3 v3 (b + n) (w + 1) C3 (sI M3 220 (64 * h + j) (nn (260 * h + b + w))) := f3.setM (by omega)
        have v220 : dI (sI M3 220 (64 * h + j) (nn (260 * h + b + w))) 220 (64 * h + j) = nn (260 * h + b + w) := by rw [dI_s, if_pos ⟨rfl, rfl⟩]
        have m3 : Ch (fun a k => a = 220 ∧ k = 64 * h + j) M3 (sI M3 220 (64 * h + j) (nn (260 * h + b + w))) := Ch.sI ⟨rfl, rfl⟩ Ch.rf
        generalize sI M3 220 (64 * h + j) (nn (260 * h + b + w)) = M3' at *
        rcases zs_close (c := 93) hN hz3.1 hSb rfl with ⟨tc, p4, e4, t4, v4, C4, M4, k1, k2, k3, k4, k5, k6, k7, k8⟩ | ⟨tc, k1⟩
        · subst tc
          have k1' : f_X5_closeWith nu 93 S0 C3 = some (.inr (), S0, C4) := k1
          have m4 : Ch (fun a k => a = 207 ∧ 36 ≤ k ∧ k ≤ 41) M3' (sI M4 207 41 (nn o)) := Ch.sI (by omega) (k8.mono (fun a k q => by unfold QlM at q; omega))
          have hz4 : Zt nu len P tx nb h o p j b w C0 M0 p4 e4 t4 v4 (b + n) (w + 1) C4 (sI M4 207 41 (nn o)) := hz3.go k6 (k7.mono (fun a k q => by omega)) (m4.mono (fun a k q => by omega)) (RP.rf (fun x => m4.i (by omega))) (by omega)
          have st4 : f_X12_statement N M = f_X12_named_b120 N (nn (64 * h + j)) (sI M4 207 41 (nn o)) := by
            rw [st3]
            unfold f_X12_named_b85 f_X12_expect f_X12_expect_b27
            rw [hz3.1.1.2.2.1, if_pos (show (-1 : Int32) < 0 by decide), hz3.1.2.2.1.2.2.1, if_pos (show nn (zl_mt 93) = 93 from rfl), k2, bS, bS, k3, zs_n1 (by omega)]
          generalize sI M4 207 41 (nn o) = M4' at *
          rw [k1', sb2_r, sb2_r]
          rcases zt_tail (S := S0) hN hSb hh g2 g3 hkd hz4 (by omega) with ⟨S', C', M', q, u1, u2, u3, u4, u5, u6⟩ | ⟨C', M', p', e', t', v', n2, u1, u2, u3, u4, u5, u6, u7, u8, u9, u10, u11⟩
          · left
            exact hz.bad u1 u2 u4.1 u4.2.1 u4.2.2 u5 u6 (fun f => by show (f_X12_statement N M).bind f = _; rw [st4, u3, bS])
          · right
            obtain ⟨w1, w2, w3, w4, w5, w6⟩ := id u3
            have cAll : ∀ a k, ¬ ((a = 3 ∧ 5 ≤ k ∧ k ≤ 9) ∨ a = 5 ∨ Ec P b a k ∨ (a = nb + j ∧ k = 5)) → dI C' a k = dI C1' a k := fun a k hq => by
              unfold Ec at hq
              rw [u9.i (by unfold XC Ec; omega), k7.i (by omega), f7.i (by unfold XC Ec; omega), d7.i (by omega)]
            have mAll : ∀ a k, a = 216 ∨ a = 218 → dI M' a k = dI M1' a k := fun a k hq => by
              rw [u10.i (by unfold XM; omega), m4.i (by omega), m3.i (by omega), f8.i (by unfold XM; omega), d8.i (by omega)]
            refine zs_done (b' := b + n + n2) (w' := w + 1 + 1) hp hS0 c0 m0 ⟨?_, y2, y6, y7, y8⟩ ⟨z1, z2, z6, z7, z8⟩ w2 w3 u1 w1 w5.1 w5.2 (by omega) (by omega) w4 (fun f => by show (f_X12_statement N M).bind f = _; rw [st4, u2, bS]) ?_ (fun q => ?_)
            · rw [cAll _ _ (by unfold Ec; omega), x0 0 (by omega)]
            · right; left
              refine ⟨by rw [cAll _ _ (by unfold Ec; omega), x0 0 (by omega)]; exact y1, by rw [mAll _ _ (by omega)]; exact v216, ⟨v, hv26, by rw [cAll _ _ (by unfold Ec; omega)]; exact x2, by rw [mAll _ _ (by omega)]; exact v218, ?_⟩, b, n, n2, 260 * h + b + w, 260 * h + (b + n) + (w + 1), ⟨by rw [cAll _ _ (by unfold Ec; omega), x0 4 (by omega)]; exact y3, u5, by omega⟩, ⟨?_, u6, by omega, by omega, by omega, by omega⟩, ?_, u7, ?_, u8.zero, u8.oneh⟩
              · exact w4.keep hv26 (by decide) r0
              · rw [u10.i (by unfold XM; omega), m4.i (by omega)]; exact v220
              · exact f5.kept (fun i _ _ => ⟨by rw [u9.i (by unfold XC Ec; omega), k7.i (by omega)], by rw [u9.i (by unfold XC Ec; omega), k7.i (by omega)]⟩) (fun k _ _ => ⟨by rw [u10.i (by unfold XM; omega), m4.i (by omega), m3.i (by omega)], by rw [u10.i (by unfold XM; omega), m4.i (by omega), m3.i (by omega)]⟩) (fun x hx hx3 => u11.keep hx (by decide) (by rw [m4.i (by omega), m3.i (by omega)]; exact hx3))
              · rw [zx_h_eq (C := C3) _ _ _ (fun i _ _ => by rw [u9.i (by unfold XC Ec; omega), k7.i (by omega)])]
                exact f6.zero
            · rw [cAll _ _ (by unfold Ec; omega), x0 0 (by omega), y1] at q
              exact absurd q (by decide)
        · left
          have k1' : f_X5_closeWith nu 93 S0 C3 = some (.inl 4, Sx S0, C3) := k1
          have ht3 := zx_tok_lt hz3.1.2.2.2
          have b40 : dI (sI M3' 207 40 (nn p3)) 207 40 = nn p3 := by rw [dI_s, if_pos ⟨rfl, rfl⟩]
          have b40' : ∀ y, dI (sI (sI M3' 207 40 (nn p3)) 207 41 y) 207 40 = nn p3 := fun y => by rw [dI_s, if_neg (by omega)]; exact b40
          have hp3 := hz3.2.2.2.2.2
          refine hz.bad (q := p3) (S' := Sx S0) (C' := C3) (by rw [k1', sb2_l, sb2_l]) rfl hz3.1.2.1.1 (b40' (dI (sI M3' 207 40 (nn p3)) 207 41 - 1)) ⟨hp3.1, hp3.2.1⟩ hz3.2.1 (Ch.sI (by unfold ZM; omega) (Ch.sI (by unfold ZM; omega) hz3.2.2.1)) (fun f => ?_)
          show (f_X12_statement N M).bind f = _
          rw [st3]
          unfold f_X12_named_b85 f_X12_expect f_X12_expect_b27
          rw [hz3.1.1.2.2.1, if_pos (show (-1 : Int32) < 0 by decide), hz3.1.2.2.1.2.2.1, if_neg (show ¬ nn (zl_mt t3) = 93 from fun q => tc ((zx_tkM (s := 93) ht3 rfl).mp q)), zx_wrong hz3.1.1.2.2.1 hz3.1.2.2.1.1, bS, bS, zs_b120B (q := p3) (by omega) (b40' _), bS]
    · left
      have d1' : f_X5_openWith nu 91 S0 C1' = some (.inl 4, Sx S0, C1') := d1
      have d2' : f_X12_opening N 91 M1' = some (sI M1' 207 40 (nn p1)) := d2
      have b40 : dI (sI M1' 207 40 (nn p1)) 207 40 = nn p1 := by rw [dI_s, if_pos ⟨rfl, rfl⟩]
      have hp1 := ht1.2.2.2.2.2
      refine hz.bad (q := p1) (S' := Sx S0) (C' := C1') (by rw [d1', sb2_l, sb2_l]) rfl ht1.1.2.1.1 ?_ ⟨hp1.1, hp1.2.1⟩ ht1.2.1 ?_ (fun f => by show (f_X12_statement N M).bind f = _; rw [st, d2', bS, b40, if_pos (show (0 : Int32) ≤ nn p1 from (nn_le (a := 0) (by omega) (by omega)).mpr (by omega)), zs_b85B (q := p1) (by omega) b40, bS])
      · rw [dI_s, if_neg (by omega)]; exact b40
      · exact Ch.sI (by unfold ZM; omega) (Ch.sI (by unfold ZM; omega) ht1.2.2.1)
  · exact absurd ⟨rfl, r0⟩ hr
