/-! factors -/
theorem Em.z {r r' P b eb n s0 : Nat} {C M : Dat} (h : Em r P b eb n 0 s0 C M) : Em r' P b eb n 0 s0 C M := ⟨h.1, h.2.1, h.2.2.1, h.2.2.2.1, fun i hi => absurd hi (by omega)⟩
/-- both put an item -/
theorem zx_both {P b eb n s0 op : Nat} {x : Int32} {C M : Dat} (hP : P = 191 ∨ P = 196) (hE : Em 0 P b eb n 0 s0 C M) (hz : b + n < 240) (he : eb + n < 520) (ho : op = 0 ∨ op = 1 ∨ op = 3) (hx : op = 1 ∨ op = 3 → ∃ y, y < 26 ∧ x = nn y ∧ (op = 3 → dI M 229 y = 3)) : ∃ C1 M1, f_X4_add P (nn op) x C = some C1 ∧ f_X12_emit (nn op) x M = some M1 ∧ Em 0 P b eb (n + 1) 0 s0 C1 M1 ∧ Ch (Ec P (b + n)) C C1 ∧ Ch (fun a k => (a = 207 ∧ k = 34) ∨ ((a = 225 ∨ a = 226) ∧ k = eb + n)) M M1 ∧ dI C1 (P + 3) (b + n) = nn op := by
  obtain ⟨e1, e2, e3, e4, e5⟩ := id hE
  rw [Nat.add_zero] at e1
  refine ⟨_, _, zx_addC hP hz e1, zx_emitM he e2, ?_, Ch.sI (by unfold Ec; omega) (Ch.sI (by unfold Ec; omega) (Ch.sI (by unfold Ec; omega) Ch.rf)), Ch.sI (by omega) (Ch.sI (by omega) (Ch.sI (by omega) Ch.rf)), ?_⟩
  · have cC : Ch (fun a k => (a = P ∧ k = 5) ∨ ((a = P + 3 ∨ a = P + 4) ∧ k = b + n)) C (sI (sI (sI C (P + 3) (b + n) (nn op)) (P + 4) (b + n) x) P 5 (nn (b + n + 1))) := Ch.sI (by omega) (Ch.sI (by omega) (Ch.sI (by omega) Ch.rf))
    have cM : Ch (fun a k => (a = 207 ∧ k = 34) ∨ ((a = 225 ∨ a = 226) ∧ k = eb + n)) M (sI (sI (sI M 225 (eb + n) (nn op)) 226 (eb + n) x) 207 34 (nn (eb + n + 1))) := Ch.sI (by omega) (Ch.sI (by omega) (Ch.sI (by omega) Ch.rf))
    refine ⟨by rw [dI_s, if_pos ⟨rfl, rfl⟩]; congr 1, by rw [dI_s, if_pos ⟨rfl, rfl⟩]; congr 1, fun i hi => ?_, by rw [cM.i (by omega)]; exact e4, fun i hi => absurd hi (by omega)⟩
    by_cases ei : i = n
    · rw [ei]
      have v226 : dI (sI (sI (sI M 225 (eb + n) (nn op)) 226 (eb + n) x) 207 34 (nn (eb + n + 1))) 226 (eb + n) = x := by rw [dI_s, if_neg (by omega), dI_s, if_pos ⟨rfl, rfl⟩]
      refine ⟨op, by rw [dI_s, if_neg (by omega), dI_s, if_neg (by omega), dI_s, if_pos ⟨rfl, rfl⟩], by rw [dI_s, if_neg (by omega), dI_s, if_neg (by omega), dI_s, if_pos ⟨rfl, rfl⟩], ?_, ho.elim (fun h => Or.inl h) (fun h => h.elim (fun h => Or.inr (Or.inl h)) (fun h => Or.inr (Or.inr (Or.inl h)))), fun w => ?_⟩
      · rw [v226, dI_s, if_neg (by omega), dI_s, if_pos ⟨rfl, rfl⟩]
      · obtain ⟨y, y1, y2, y3⟩ := hx w
        exact ⟨y, y1, by rw [v226]; exact y2, fun q => by rw [cM.i (by omega)]; exact y3 q⟩
    · exact (e3 i (by omega)).kept (cC.i (by omega)) (cC.i (by omega)) (cM.i (by omega)) (cM.i (by omega)) (fun y _ hy => by rw [cM.i (by omega)]; exact hy)
  · rw [dI_s, if_neg (by omega), dI_s, if_neg (by omega), dI_s, if_pos ⟨rfl, rfl⟩]
theorem zx_role1 {p e v : Nat} {C : Dat} (hk : TkC p e 1 v C) (hv : v < 26) : f_X5_roleHere C = some (dI C 5 v, C) := by
  obtain ⟨k7, k8, k6, k9⟩ := hk
  rw [if_pos (Or.inl rfl)] at k9
  unfold f_X5_roleHere f_X5_roleHere_b37
  rw [k6, if_pos (show nn (zl_ck 1 v) = 1 from rfl), k9, if_neg (nn_nlt0 (by omega)), if_neg (show ¬ (26 : Int32) ≤ nn v from fun q => by have := (nn_le (a := 26) (by omega) (by omega)).mp q; omega), if_neg (nn_in (k := v) (n := 26) (by omega) hv), nn_nat (by omega)]
theorem zx_role0 {p e t v : Nat} {C : Dat} (hk : TkC p e t v C) (ht : t < 127) (h1 : ¬ t = 1) : f_X5_roleHere C = some (-1, C) := by
  obtain ⟨k7, k8, k6, k9⟩ := hk
  unfold f_X5_roleHere f_X5_roleHere_b36 f_X5_roleHere_b37
  rw [k6, if_neg (show ¬ nn (zl_ck t v) = 1 from fun q => h1 ((zx_tk012 (s := 1) ht (by decide)).mp q))]
theorem zx_setRole {v : Nat} (hv : v < 26) (x : Int32) (C : Dat) : f_X5_setRole (nn v) x C = some (sI C 5 v x) := by
  unfold f_X5_setRole f_X5_setRole_b17
  rw [if_neg (nn_nlt0 (by omega)), if_neg (show ¬ (26 : Int32) ≤ nn v from fun q => by have := (nn_le (a := 26) (by omega) (by omega)).mp q; omega), if_neg (nn_in (k := v) (n := 26) (by omega) hv), nn_nat (by omega)]
/-- both refuse the token -/
theorem zx_refuse {α : Type} {N nu len P : Nat} {tx : Nat → Nat} {o p e t v z0 e0 eu s0 i0 : Nat} {x1 : Int32} {S : Sr} {C M : Dat} (hR : Rd nu len P tx o p e t v C M) (r : Option (Sum Nat α × Sr × Dat)) (hr : r = some (.inl 4, (S.1, S.2.1, S.2.2.1 - 1, S.2.2.2 - 6), C)) (hm : f_X12_operand N M = f_X12_operand_b64 N M) : XBad N P z0 e0 eu s0 i0 p x1 1 S C M r := by
  have hp240 : p ≤ 240 := by have := hR.2.2.2.1; have := hR.1.1.1.1; omega
  refine ⟨_, C, sI M 207 40 (nn p), p, 2, hr, ⟨rfl, rfl⟩, ⟨hR.2.1.1, by rw [dI_s, if_pos ⟨rfl, rfl⟩], Nat.le_refl _, hp240⟩, Ch.rf, Ch.sI (by unfold XM; omega) Ch.rf, by omega, fun g => ?_⟩
  rw [show g + 2 = (g + 1) + 1 by omega, zx_L1 hR.1.2.2.1, hm]
  unfold f_X12_operand_b64
  rw [zx_wrong hR.1.2.2.1 hR.2.2.1.1, bS, bS, if_pos rfl]
  exact zx_Lb (q := p) (by omega) (by rw [dI_s, if_pos ⟨rfl, rfl⟩])
theorem zx_factor {N nu len P : Nat} {tx : Nat → Nat} {o : Nat} {rec : Sr → Dat → Option (Sum Nat Int32 × Sr × Dat)} (hN : 1000 ≤ N) (hrec : o < 8 → XLv 1 N nu len P tx (o + 1) (XA P) rec) : XLv 4 N nu len P tx o (fun _ _ => True) (f_X5_readFactor rec nu) := by
  intro p e t v b eb eu n s0 inn w c x1 S C M hPr hS
  obtain ⟨hR, hE, ⟨h51, hin⟩, ⟨hb1, hb2, hb3, hb4⟩, hT, -⟩ := hPr
  rw [if_neg (show ¬ 4 = 1 by decide)]
  obtain ⟨hB, hkC, hkM, hTk⟩ := id hR
  have h40 := hB.2.2.1
  have ho := hB.2.2.2.1.1
  have hPP := hB.2.2.2.2.1
  have ht := zx_tok_lt hTk
  have hp240 : p ≤ 240 := by have := hTk.1; have := hB.1.1.1; omega
  have he240 : e ≤ 240 := by have := hTk.1; have := hB.1.1.1; omega
  have tp : ∀ {M' : Dat} {i0 : Nat}, Ch (XM (eb + n) eu s0 i0) M M' → Top 4 s0 M' := fun c => hT.kept (fun h0 => c.i (by unfold XM; omega))
  unfold f_X5_readFactor f_X5_readFactor_b105
  by_cases h2 : t = 2
  · -- a number
    subst h2
    have hpe : p < e := hTk.2.1 (by omega)
    have k9 : dI C 3 9 = nn v := by rw [hkC.2.2.2, if_pos (Or.inr rfl)]
    have k38 : dI M 207 38 = nn v := hkM.2.2.2 (Or.inr (Or.inl rfl))
    obtain ⟨C1, M1, a1, a2, a3, a4, a5, a6⟩ := zx_both (op := 0) (x := nn v) hPP.1 hE (by omega) (by omega) (Or.inl rfl) (fun q => by omega)
    have hB1 : Rb nu len P tx o e C1 M1 := hB.kept a4 a5 (fun a k q => by unfold Ec at q; unfold RRc; omega) (fun a k q => by unfold RRm; omega)
    obtain ⟨p1, e1, t1, v1, C2, M2, l1, l2, l3, l4, l5, l6, l7⟩ := zx_adv hN hB1
    right
    have c2 : Ch (XC P (b + n)) C C2 := (a4.mono (Q := XC P (b + n)) (fun a k q => Or.inr (Or.inr q))).tr (l6.mono (fun a k q => by unfold QlC at q; unfold XC; omega))
    have m2 : Ch (XM (eb + n) eu s0 (inn + 1)) M M2 := (a5.mono (fun a k q => by unfold XM; omega)).tr (l7.mono (fun a k q => by unfold QlM at q; unfold XM; omega))
    refine ⟨(), C2, M2, p1, e1, t1, v1, n + 1, 0, 1, ?_, trivial, ⟨l5, ?_, ⟨by rw [l7.i (by unfold QlM; omega), a5.i (by omega)]; exact h51, hin⟩, ⟨hb1, hb2, by omega, by omega, hb4⟩, tp m2, ?_, by omega⟩, c2, m2, by omega, fun g => ?_, ⟨fun q => absurd q (by decide), fun _ => by have := zx_rk_b t1; omega⟩, RP.rf (fun x => by rw [l7.i (by unfold QlM; omega), a5.i (by omega)])⟩
    · rw [hkC.2.2.1, if_pos (show nn (zl_ck 2 v) = 2 from rfl), hPP.2]
      show (if P = 191 ∨ P = 196 then _ else _) = _
      rw [if_pos hPP.1, k9]
      show ((f_X4_add P (nn 0) (nn v) C).bind _) = _
      rw [a1, bS, l1, bS]
    · obtain ⟨u1, u2, u3, u4, u5⟩ := a3
      refine ⟨by rw [l6.i (by unfold QlC; omega)]; exact u1, by rw [l7.i (by unfold QlM; omega)]; exact u2, fun i hi => ?_, by rw [l7.i (by unfold QlM; omega)]; exact u4, fun i hi => absurd hi (by omega)⟩
      exact (u3 i hi).kept (l6.i (by unfold QlC; omega)) (l6.i (by unfold QlC; omega)) (l7.i (by unfold QlM; omega)) (l7.i (by unfold QlM; omega)) (fun y _ hy => by rw [l7.i (by unfold QlM; omega)]; exact hy)
    · rw [show b + (n + 1) + 0 = b + n + 1 by omega]
      exact Hg.one (op := 0) (by rw [l6.i (by unfold QlC; omega)]; exact a6) (by decide)
    · rw [zx_L1 h40]
      unfold f_X12_operand
      rw [hkM.2.2.1, if_pos (show nn (zl_mt 2) = 35 from rfl), k38]
      show (((f_X12_emit (nn 0) (nn v) M).bind _).bind _) = _
      rw [a2, bS, l2, bS, bS, if_neg (show ¬ (1 : Int32) = 0 by decide)]
  · rw [hkC.2.2.1, if_neg (show ¬ nn (zl_ck t v) = 2 from fun q => h2 ((zx_tk012 (s := 2) ht (by decide)).mp q))]
    have n35 : ¬ nn (zl_mt t) = 35 := fun q => by
      have := (nn_eq (b := 35) (by have := zx_mt_lt ht; omega) (by omega)).mp q
      rcases hTk.2.2.2.2.2.1 with a | a
      · unfold zl_mt at this
        repeat' split at this
        all_goals omega
      · have := zl_Si.mp a
        rw [zx_mt (by omega)] at *
        omega
    by_cases h40t : t = 40
    · -- a bracket
      subst h40t
      rw [if_pos (show nn (zl_ck 40 v) = 40 from rfl)]
      have hpe : p < e := hTk.2.1 (by omega)
      obtain ⟨M1, m1, mm⟩ := zx_bracket (oc := 40) (cc := 41) (x := 0) (x1 := x1) (eu := eu) (w := w) (c := c) hN hrec (Or.inl ⟨rfl, rfl⟩) hR hE h51 hin ⟨hb1, hb2, hb3, by omega⟩ hS
      have op1 : ∀ g, f_X12_expression_b24 N (g + 1) x1 1 M = f_X12_expression_b24 N g x1 1 M1 := fun g => by
        rw [zx_L1 h40]
        unfold f_X12_operand
        rw [hkM.2.2.1, if_neg n35, if_pos (show nn (zl_mt 40) = 40 from rfl)]
        show (((f_X12_enter N (nn 40) 0 M).bind _).bind _) = _
        rw [m1, bS, bS, if_pos rfl]
      rcases mm with ⟨S', C', M', q, k, r1, r2, r3, r4, r5, r6, r7⟩ | ⟨C', M', p', e', t', v', n', k, r1, r2, r3, r4, r5, r6, r7, r8, r9, r10, r11⟩
      · left
        exact ⟨S', C', M', q, k + 1, r1, r2, r3, r4, r5, by omega, fun g => by rw [show g + (k + 1) = (g + k) + 1 by omega, op1]; exact r7 g⟩
      · right
        refine ⟨(), C', M', p', e', t', v', n', 0, k + 1, r1, trivial, ⟨r2, r3.z, ⟨r4, hin⟩, ⟨hb1, hb2, by omega, by omega, hb4⟩, tp r7, by rw [Nat.add_zero]; exact r10, by omega⟩, r6, r7, by omega, fun g => ?_, ⟨fun q => absurd q (by decide), fun _ => by have := zx_rk_b t'; omega⟩, r11⟩
        rw [show g + (k + 1) = (g + k) + 1 by omega, op1, r9, if_neg (by decide)]
    · rw [if_neg (show ¬ nn (zl_ck t v) = 40 from fun q => h40t ((zx_tkC (s := 40) ht rfl).mp q))]
      have n40 : ¬ nn (zl_mt t) = 40 := fun q => h40t ((zx_tkM (s := 40) ht rfl).mp q)
      by_cases h1 : t = 1
      · -- a name
        subst h1
        have hv : v < 26 := (hTk.2.2.2.1 rfl).1
        have hpe : p < e := hTk.2.1 (by omega)
        have k9 : dI C 3 9 = nn v := by rw [hkC.2.2.2, if_pos (Or.inl rfl)]
        have k38 : dI M 207 38 = nn v := hkM.2.2.2 (Or.inl rfl)
        have i26 : ¬ (nn v < 0 ∨ 26 ≤ v) := fun q => by
          rcases q with q | q
          · exact nn_nlt0 (by omega) q
          · omega
        have opn : f_X12_operand N M = (if (dI M 229 v) ≤ 3 then ((f_X12_next N M).bind (fun p10 => if (dI p10 229 v) = 3 then ((f_X12_enter N 91 (nn v) p10).bind (fun p17 => some (0, p17))) else (if (dI p10 229 v) = 0 then (f_X12_operand_b114 N (nn v) (sI p10 229 v 1)) else (f_X12_operand_b114 N (nn v) p10)))) else (f_X12_operand_b64 N M)) := by
          unfold f_X12_operand
          rw [hkM.2.2.1, if_neg n35, if_neg n40, if_pos (show nn (zl_mt 1) = 110 from rfl), k38]
          simp only [i26, if_false, nn_nat (show v < 2147483648 by omega)]
        rw [zx_role1 hkC hv, bS]
        have hro := hB.2.2.2.2.2.2 v hv
        have v1 : (dI C 5 v = 2 ∧ dI M 229 v = 3) ∨ (dI C 5 v = 0 ∧ dI M 229 v = 0 ∧ dI C (P + 2) v = -1 ∧ dI C (P + 2) (26 + v) = -1) ∨ (dI C 5 v = 1 ∧ (dI M 229 v = 1 ∨ dI M 229 v = 2)) ∨ ((dI C 5 v = 3 ∨ dI C 5 v = 4) ∧ (dI M 229 v = 4 ∨ dI M 229 v = 5)) := by
          unfold RoX at hro
          rcases hro with h | h | h | h | h | h
          · exact Or.inr (Or.inl ⟨h.1, h.2.1, h.2.2.1, h.2.2.2⟩)
          · exact Or.inr (Or.inr (Or.inl ⟨h.1, Or.inl h.2.1⟩))
          · exact Or.inr (Or.inr (Or.inl ⟨h.1, Or.inr h.2.1⟩))
          · exact Or.inl ⟨h.1, h.2.1⟩
          · exact Or.inr (Or.inr (Or.inr ⟨Or.inl h.1, Or.inl h.2.1⟩))
          · exact Or.inr (Or.inr (Or.inr ⟨Or.inr h.1, Or.inr h.2.1⟩))
        rcases v1 with ⟨w1, w2⟩ | w1 | w1 | ⟨w1, w2⟩
        · -- a row
          rw [w1, if_pos (show (2 : Int32) = 2 from rfl)]
          obtain ⟨p1, e1, t1, v1', C1, M1, l1, l2, l3, l4, l5, l6, l7⟩ := zx_adv hN hB
          have tn : f_X5_takeName nu 2 S C = some (.inr (nn v), S, C1) := by
            unfold f_X5_takeName f_X5_takeName_b21
            rw [if_neg (show ¬ (2 : Int32) = 1 by decide), zx_role1 hkC hv, bS, if_pos w1, l1, bS, k9]
          rw [tn, sb2_r]
          have hE1 : Em 0 P b eb n 0 s0 C1 M1 := by
            obtain ⟨u1, u2, u3, u4, u5⟩ := hE
            refine ⟨by rw [l6.i (by unfold QlC; omega)]; exact u1, by rw [l7.i (by unfold QlM; omega)]; exact u2, fun i hi => ?_, by rw [l7.i (by unfold QlM; omega)]; exact u4, fun i hi => absurd hi (by omega)⟩
            exact (u3 i hi).kept (l6.i (by unfold QlC; omega)) (l6.i (by unfold QlC; omega)) (l7.i (by unfold QlM; omega)) (l7.i (by unfold QlM; omega)) (fun y _ hy => by rw [l7.i (by unfold QlM; omega)]; exact hy)
          have r3' : dI M1 229 v = 3 := by rw [l7.i (by unfold QlM; omega)]; exact w2
          obtain ⟨M2, m1, mm⟩ := zx_bracket (oc := 91) (cc := 93) (x := nn v) (x1 := x1) (eu := eu) (w := w) (c := c) hN hrec (Or.inr ⟨rfl, rfl⟩) l5 hE1 (by rw [l7.i (by unfold QlM; omega)]; exact h51) hin ⟨hb1, hb2, by omega, by omega⟩ hS
          have op1 : ∀ g, f_X12_expression_b24 N (g + 1) x1 1 M = f_X12_expression_b24 N g x1 1 M2 := fun g => by
            rw [zx_L1 h40, opn, if_pos (by rw [w2]; decide), l2, bS, if_pos r3']
            show (((f_X12_enter N (nn 91) (nn v) M1).bind _).bind _) = _
            rw [m1, bS, bS, if_pos rfl]
          have cl : Ch (XC P (b + n)) C C1 := l6.mono (fun a k q => by unfold QlC at q; unfold XC; omega)
          have ml : Ch (XM (eb + n) eu s0 (inn + 1)) M M1 := l7.mono (fun a k q => by unfold QlM at q; unfold XM; omega)
          have hri : f_X5_readIndex rec nu S C1 = zx_br N nu rec (nn 91) (nn 93) S C1 := rfl
          rw [hri]
          rcases mm with ⟨S', C', M', q, k, r1, r2, r3, r4, r5, r6, r7⟩ | ⟨C', M', p', e', t', v', n', k, r1, r2, r3, r4, r5, r6, r7, r8, r9, r10, r11⟩
          · left
            exact ⟨S', C', M', q, k + 1, by rw [r1, sb2_l], r2, ⟨r3.1, r3.2.1, by omega, r3.2.2.2⟩, cl.tr r4, ml.tr r5, by omega, fun g => by rw [show g + (k + 1) = (g + k) + 1 by omega, op1]; exact r7 g⟩
          · right
            have gp : p' ≤ 240 := by have := r2.2.2.2.1; have := r2.1.1.1.1; omega
            have r3v : dI M' 229 v = 3 := r11.keep hv (by decide) r3'
            obtain ⟨C2, M3, a1, a2, a3, a4, a5, a6⟩ := zx_both (op := 3) (x := nn v) hPP.1 r3 (by omega) (by omega) (Or.inr (Or.inr rfl)) (fun _ => ⟨v, hv, rfl, fun _ => r3v⟩)
            refine ⟨(), C2, M3, p', e', t', v', n' + 1, 0, k + 1, ?_, trivial, ⟨r2.kept a4 a5 (fun a k q => by unfold Ec at q; unfold RRc; omega) (fun a k q => by unfold RRm; omega), a3.z, ⟨by rw [a5.i (by omega)]; exact r4, hin⟩, ⟨hb1, hb2, by omega, by omega, hb4⟩, (tp (ml.tr r7)).kept (fun h0 => a5.i (by omega)), ?_, by omega⟩, cl.tr (r6.tr (a4.mono (fun a k q => by unfold Ec at q; unfold XC Ec; omega))), ml.tr (r7.tr (a5.mono (fun a k q => by unfold XM; omega))), by omega, fun g => ?_, ⟨fun q => absurd q (by decide), fun _ => by have := zx_rk_b t'; omega⟩, (RP.rf (fun x => l7.i (by unfold QlM; omega))).tr (r11.tr (RP.rf (fun x => a5.i (by omega))))⟩
            · rw [r1, sb2_r, r2.1.2.2.2.2.1.2]
              show (if P = 191 ∨ P = 196 then _ else _) = _
              rw [if_pos hPP.1]
              show ((f_X4_add P (nn 3) (nn v) C').bind _) = _
              rw [a1, bS]
            · rw [show b + (n' + 1) + 0 = b + n' + 1 by omega]
              intro h hh
              rw [show b + n' + 1 - (b + n) = (n' - n) + 1 by omega, zx_h_add, zx_h_eq (C := C') _ _ _ (fun j j1 j2 => a4.i (by unfold Ec; omega))]
              have := r10 h (by omega)
              rw [show b + n' - (b + n) = n' - n by omega] at this
              rw [this]
              show zx_h C2 P (0 + 1) (b + n + (n' - n)) (h + 1) = _
              rw [show b + n + (n' - n) = b + n' by omega, zx_h_s, a6]
              rw [nn_nat (by omega), show tk 3 = 1 from rfl, show pu 3 = 1 from rfl, if_pos (by omega)]
              rfl
            · rw [show g + (k + 1) = (g + k) + 1 by omega, op1, r9, if_pos rfl]
              show ((f_X12_emit (nn 3) (nn v) M').bind _) = _
              rw [a2, bS]
        · -- a new variable
          rw [w1.1, if_neg (show ¬ (0 : Int32) = 2 by decide)]
          have cr : Ch (fun a k => a = 5 ∧ k = v) C (sI C 5 v 1) := Ch.sI ⟨rfl, rfl⟩ Ch.rf
          have hkC' : TkC p e 1 v (sI C 5 v 1) := hkC.kept cr (fun a k q => by omega)
          obtain ⟨⟨j1, j2⟩, ⟨j3, j4, j5⟩, j6, j7, ⟨j10, j11⟩, ⟨j12, j13, j14⟩, j15⟩ := id hB
          obtain ⟨p1, e1, t1, v1', C1, M1, l1, l2, l3, l4, l6, l7⟩ := zl_lex hN (j1.kept cr (fun a k q => by omega)) j2 j3 (j4.kept cr (fun a k w => by unfold RTb; omega)) j5
          have tn : f_X5_takeName nu 1 S C = some (.inr (nn v), S, C1) := by
            unfold f_X5_takeName f_X5_takeName_b21
            rw [if_pos rfl, zx_role1 hkC hv, bS, if_pos w1.1, k9, zx_setRole hv, bS, zx_role1 hkC' hv, bS, if_pos (by rw [dI_s, if_pos ⟨rfl, rfl⟩]), l1, bS]
            show some (Sum.inr (dI (sI C 5 v 1) 3 9), S, C1) = _
            rw [cr.i (by omega), k9]
          rw [tn, sb2_r]
          have cC1 : Ch (fun a k => (a = 5 ∧ k = v) ∨ QlC a k) C C1 := (cr.mono (fun a k q => Or.inl q)).tr (l6.mono (fun a k q => Or.inr q))
          have cM2 : Ch (fun a k => (a = 229 ∧ k = v) ∨ QlM a k) M (sI M1 229 v 1) := Ch.sI (Or.inl ⟨rfl, rfl⟩) (l7.mono (fun a k q => Or.inr q))
          have v229 : dI (sI M1 229 v 1) 229 v = 1 := by rw [dI_s, if_pos ⟨rfl, rfl⟩]
          have v5 : dI C1 5 v = 1 := by rw [l6.i (by unfold QlC; omega), dI_s, if_pos ⟨rfl, rfl⟩]
          have c229 : Ch (fun a k => a = 229 ∧ k = v) M1 (sI M1 229 v 1) := Ch.sI ⟨rfl, rfl⟩ Ch.rf
          have z229 : dI M1 229 v = 0 := by rw [l7.i (by unfold QlM; omega)]; exact w1.2.1
          obtain ⟨⟨i1, i2⟩, ⟨i3, i3'⟩, i4, i5⟩ := l4
          have op1 : f_X12_operand N M = f_X12_operand_b114 N (nn v) (sI M1 229 v 1) := by
            rw [opn, if_pos (by rw [w1.2.1]; decide), l2, bS, if_neg (by rw [z229]; decide), if_pos z229]
          have hR1 : Rd nu len P tx o p1 e1 t1 v1' C1 (sI M1 229 v 1) := by
            refine ⟨⟨⟨i1, i2.kept c229 (fun a k q => by omega)⟩, ⟨i5.1.2, i3', by rw [c229.i (by omega)]; exact i4.2.1⟩, by rw [cM2.i (by unfold QlM; omega)]; exact h40, ⟨j7.1, by rw [cC1.i (by unfold QlC; omega)]; exact j7.2.1, by rw [cM2.i (by unfold QlM; omega)]; exact j7.2.2⟩, ⟨j10, by rw [cC1.r (by unfold QlC; omega)]; exact j11⟩, ⟨j12, by rw [cC1.i (by unfold QlC; omega)]; exact j13, by rw [cM2.i (by unfold QlM; omega)]; exact j14⟩, fun y hy => ?_⟩, i3, i4.kept c229 (fun a k q => by omega), i5⟩
            by_cases ey : y = v
            · subst ey
              right; left
              exact ⟨v5, v229, by rw [cC1.i (by unfold QlC; omega)]; exact w1.2.2.1, by rw [cC1.i (by unfold QlC; omega)]; exact w1.2.2.2⟩
            · rw [cC1.i (by unfold QlC; omega), cC1.i (by unfold QlC; omega), cC1.i (by unfold QlC; omega), cM2.i (by unfold QlM; omega), cM2.i (by unfold QlM; omega)]
              exact j15 y hy
          generalize sI M1 229 v 1 = M2 at *
          have hE1 : Em 0 P b eb n 0 s0 C1 M2 := by
            obtain ⟨u1, u2, u3, u4, u5⟩ := hE
            refine ⟨by rw [cC1.i (by unfold QlC; omega)]; exact u1, by rw [cM2.i (by unfold QlM; omega)]; exact u2, fun i hi => ?_, by rw [cM2.i (by unfold QlM; omega)]; exact u4, fun i hi => absurd hi (by omega)⟩
            refine (u3 i hi).kept (cC1.i (by unfold QlC; omega)) (cC1.i (by unfold QlC; omega)) (cM2.i (by unfold QlM; omega)) (cM2.i (by unfold QlM; omega)) (fun y _ hy => ?_)
            by_cases ey : y = v
            · subst ey; rw [w1.2.1] at hy; exact absurd hy (by decide)
            · rw [cM2.i (by unfold QlM; omega)]; exact hy
          obtain ⟨C2, M3, a1, a2, a3, a4, a5, a6⟩ := zx_both (op := 1) (x := nn v) hPP.1 hE1 (by omega) (by omega) (Or.inr (Or.inl rfl)) (fun _ => ⟨v, hv, rfl, fun q => absurd q (by decide)⟩)
          right
          have rp : RP M M2 := fun y hy => by
            by_cases ey : y = v
            · subst ey; exact Or.inl ⟨w1.2.1, v229⟩
            · exact Or.inr (cM2.i (by unfold QlM; omega))
          have m2 : Ch (XM (eb + n) eu s0 (inn + 1)) M M3 := (cM2.mono (fun a k q => by unfold QlM at q; unfold XM; omega)).tr (a5.mono (fun a k q => by unfold XM; omega))
          refine ⟨(), C2, M3, p1, e1, t1, v1', n + 1, 0, 1, ?_, trivial, ⟨hR1.kept a4 a5 (fun a k q => by unfold Ec at q; unfold RRc; omega) (fun a k q => by unfold RRm; omega), a3.z, ⟨by rw [a5.i (by omega), cM2.i (by unfold QlM; omega)]; exact h51, hin⟩, ⟨hb1, hb2, by omega, by omega, hb4⟩, tp m2, ?_, by omega⟩, (cC1.mono (fun a k q => by unfold QlC at q; unfold XC; omega)).tr (a4.mono (Q := XC P (b + n)) (fun a k q => Or.inr (Or.inr q))), m2, by omega, fun g => ?_, ⟨fun q => absurd q (by decide), fun _ => by have := zx_rk_b t1; omega⟩, rp.tr (RP.rf (fun x => a5.i (by omega)))⟩
          · rw [hPP.2]
            show (if P = 191 ∨ P = 196 then _ else _) = _
            rw [if_pos hPP.1]
            show ((f_X4_add P (nn 1) (nn v) C1).bind _) = _
            rw [a1, bS]
          · rw [show b + (n + 1) + 0 = b + n + 1 by omega]
            exact Hg.one (op := 1) a6 (by decide)
          · rw [zx_L1 h40, op1]
            unfold f_X12_operand_b114
            show (((f_X12_emit (nn 1) (nn v) M2).bind _).bind _) = _
            rw [a2, bS, bS, if_neg (show ¬ (1 : Int32) = 0 by decide)]
        · -- a variable
          rw [w1.1, if_neg (show ¬ (1 : Int32) = 2 by decide)]
          obtain ⟨p1, e1, t1, v1', C1, M1, l1, l2, l3, l4, l5, l6, l7⟩ := zx_adv hN hB
          have tn : f_X5_takeName nu 1 S C = some (.inr (nn v), S, C1) := by
            unfold f_X5_takeName f_X5_takeName_b21
            rw [if_pos rfl, zx_role1 hkC hv, bS, if_neg (by rw [w1.1]; show ¬ (1 : Int32) = 0; decide), zx_role1 hkC hv, bS, if_pos w1.1, l1, bS, k9]
          rw [tn, sb2_r]
          have hE1 : Em 0 P b eb n 0 s0 C1 M1 := by
            obtain ⟨u1, u2, u3, u4, u5⟩ := hE
            refine ⟨by rw [l6.i (by unfold QlC; omega)]; exact u1, by rw [l7.i (by unfold QlM; omega)]; exact u2, fun i hi => ?_, by rw [l7.i (by unfold QlM; omega)]; exact u4, fun i hi => absurd hi (by omega)⟩
            exact (u3 i hi).kept (l6.i (by unfold QlC; omega)) (l6.i (by unfold QlC; omega)) (l7.i (by unfold QlM; omega)) (l7.i (by unfold QlM; omega)) (fun y _ hy => by rw [l7.i (by unfold QlM; omega)]; exact hy)
          have z229 : dI M1 229 v = dI M 229 v := l7.i (by unfold QlM; omega)
          obtain ⟨C2, M3, a1, a2, a3, a4, a5, a6⟩ := zx_both (op := 1) (x := nn v) hPP.1 hE1 (by omega) (by omega) (Or.inr (Or.inl rfl)) (fun _ => ⟨v, hv, rfl, fun q => absurd q (by decide)⟩)
          right
          have m2 : Ch (XM (eb + n) eu s0 (inn + 1)) M M3 := (l7.mono (fun a k q => by unfold QlM at q; unfold XM; omega)).tr (a5.mono (fun a k q => by unfold XM; omega))
          refine ⟨(), C2, M3, p1, e1, t1, v1', n + 1, 0, 1, ?_, trivial, ⟨l5.kept a4 a5 (fun a k q => by unfold Ec at q; unfold RRc; omega) (fun a k q => by unfold RRm; omega), a3.z, ⟨by rw [a5.i (by omega), l7.i (by unfold QlM; omega)]; exact h51, hin⟩, ⟨hb1, hb2, by omega, by omega, hb4⟩, tp m2, ?_, by omega⟩, (l6.mono (fun a k q => by unfold QlC at q; unfold XC; omega)).tr (a4.mono (Q := XC P (b + n)) (fun a k q => Or.inr (Or.inr q))), m2, by omega, fun g => ?_, ⟨fun q => absurd q (by decide), fun _ => by have := zx_rk_b t1; omega⟩, RP.rf (fun x => by rw [a5.i (by omega), l7.i (by unfold QlM; omega)])⟩
          · rw [hPP.2]
            show (if P = 191 ∨ P = 196 then _ else _) = _
            rw [if_pos hPP.1]
            show ((f_X4_add P (nn 1) (nn v) C1).bind _) = _
            rw [a1, bS]
          · rw [show b + (n + 1) + 0 = b + n + 1 by omega]
            exact Hg.one (op := 1) a6 (by decide)
          · have le3 : dI M 229 v ≤ 3 := by rcases w1.2 with h | h <;> rw [h] <;> decide
            have ne3 : ¬ dI M1 229 v = 3 := by rw [z229]; rcases w1.2 with h | h <;> rw [h] <;> decide
            have ne0 : ¬ dI M1 229 v = 0 := by rw [z229]; rcases w1.2 with h | h <;> rw [h] <;> decide
            rw [zx_L1 h40, opn, if_pos le3, l2, bS, if_neg ne3, if_neg ne0]
            unfold f_X12_operand_b114
            show (((f_X12_emit (nn 1) (nn v) M1).bind _).bind _) = _
            rw [a2, bS, bS, if_neg (show ¬ (1 : Int32) = 0 by decide)]
        · -- a proc
          left
          have c2 : ¬ dI C 5 v = 2 := by rcases w1 with h | h <;> rw [h] <;> decide
          have c1 : ¬ dI C 5 v = 1 := by rcases w1 with h | h <;> rw [h] <;> decide
          have c0 : ¬ dI C 5 v = 0 := by rcases w1 with h | h <;> rw [h] <;> decide
          refine zx_refuse hR _ ?_ ?_
          · rw [if_neg c2]
            unfold f_X5_takeName f_X5_takeName_b21
            rw [if_pos rfl, zx_role1 hkC hv, bS, if_neg c0, zx_role1 hkC hv, bS, if_neg c1, if_pos (show 1 ≤ S.2.2.1 ∧ 6 ≤ S.2.2.2 from hS), sb2_l]
          · rw [opn, if_neg (by rcases w2 with h | h <;> rw [h] <;> decide)]
      · -- nothing of the kind
        left
        refine zx_refuse hR _ ?_ ?_
        · rw [zx_role0 hkC ht h1, bS, if_neg (show ¬ (-1 : Int32) = 2 by decide)]
          unfold f_X5_takeName f_X5_takeName_b21
          rw [if_pos rfl, zx_role0 hkC ht h1, bS, if_neg (show ¬ (-1 : Int32) = 0 by decide), zx_role0 hkC ht h1, bS, if_neg (show ¬ (-1 : Int32) = 1 by decide), if_pos (show 1 ≤ S.2.2.1 ∧ 6 ≤ S.2.2.2 from hS), sb2_l]
        · unfold f_X12_operand
          have n110 : ¬ nn (zl_mt t) = 110 := fun q => by
            have := (nn_eq (b := 110) (by have := zx_mt_lt ht; omega) (by omega)).mp q
            rcases hTk.2.2.2.2.2.1 with a | a
            · unfold zl_mt at this
              repeat' split at this
              all_goals omega
            · have := zl_Si.mp a
              rw [zx_mt (by omega)] at *
              omega
          rw [hkM.2.2.1, if_neg n35, if_neg n40, if_neg n110]
theorem zx_rexpr {N nu len P : Nat} {tx : Nat → Nat} (hN : 1000 ≤ N) : ∀ (d o : Nat), 9 ≤ d + o → XLv 1 N nu len P tx o (XA P) (f_X5_readExpression N nu d) := by
  intro d
  induction d with
  | zero =>
    intro o h p e t v b eb eu n s0 inn w c x1 S C M hP
    have := hP.1.1.2.2.2.1.1
    omega
  | succ d ih =>
    intro o h
    have e : f_X5_readExpression N nu (d + 1) = f_X5_readExpression_s (f_X5_readExpression N nu d) N nu := rfl
    rw [e]
    exact zx_expr hN (zx_sum hN (zx_prod hN (zx_factor hN (fun h8 => ih (o + 1) (by omega)))))
