/-! one declaration -/
theorem zd_setMark {P y : Nat} {C : Dat} {x : Int32} (hy : y < 52) : f_X4_setMark P (nn y) x C = some (sI C (P + 2) y x) := by
  unfold f_X4_setMark f_X4_setMark_b17
  rw [if_neg (nn_nlt0 (by omega)), if_neg (show ¬ (52 : Int32) ≤ nn y from fun q => by have := (nn_le (a := 52) (by omega) (by omega)).mp q; omega), if_neg (nn_in (k := y) (n := 52) (by omega) hy), nn_nat (by omega)]
/-- a name that is new, or both refuse -/
theorem zd_name {N nu len P : Nat} {tx : Nat → Nat} {o p e t v wh : Nat} {r : Int32} (hN : 1000 ≤ N) {S : Sr} {C M : Dat} (hR : Rd nu len P tx o p e t v C M) (hS : Sb S) : (t = 1 ∧ v < 26 ∧ (dI C 5 v = 0 ∧ dI M 229 v = 0 ∧ dI C (P + 2) v = -1 ∧ dI C (P + 2) (26 + v) = -1) ∧ ∃ p' e' t' v' C' M', f_X5_takeNewName nu r S C = some (.inr (nn v), S, C') ∧ f_X12_next N (sI M 229 v (nn wh)) = some M' ∧ p + 1 ≤ p' ∧ p' ≤ 240 ∧ RqN nu len P tx o p' e' t' v' C' M' ∧ Ch (fun a k => QlC a k ∨ (a = 5 ∧ k = v)) C C' ∧ Ch (fun a k => QlM a k ∨ (a = 229 ∧ k = v)) M M' ∧ dI C' 5 v = r ∧ dI M' 229 v = nn wh) ∨ (¬ (t = 1 ∧ dI M 229 v = 0) ∧ f_X5_takeNewName nu r S C = some (.inl 4, Sx S, C)) := by
  obtain ⟨hB, hkC, hkM, hTk⟩ := id hR
  have tl := zx_tok_lt hTk
  unfold f_X5_takeNewName
  by_cases h1 : t = 1
  · subst h1
    have hv26 : v < 26 := (hTk.2.2.2.1 rfl).1
    have hpe : p < e := hTk.2.1 (by omega)
    have k9 : dI C 3 9 = nn v := by rw [hkC.2.2.2, if_pos (Or.inl rfl)]
    rw [zx_role1 hkC hv26, bS]
    by_cases z : dI C 5 v = 0
    · left
      have w1 : dI C 5 v = 0 ∧ dI M 229 v = 0 ∧ dI C (P + 2) v = -1 ∧ dI C (P + 2) (26 + v) = -1 := by
        rcases zs_roles hB.2.2.2.2.2.2 hv26 with h | h | h | h | h
        · exact h
        · exact absurd (z.symm.trans h.1) (by decide)
        · exact absurd (z.symm.trans h.1) (by decide)
        · exact absurd (z.symm.trans h.1) (by decide)
        · exact absurd (z.symm.trans h.1) (by decide)
      have cr : Ch (fun a k => a = 5 ∧ k = v) C (sI C 5 v r) := Ch.sI ⟨rfl, rfl⟩ Ch.rf
      have cm : Ch (fun a k => a = 229 ∧ k = v) M (sI M 229 v (nn wh)) := Ch.sI ⟨rfl, rfl⟩ Ch.rf
      obtain ⟨p1, e1, t1, v1', C1, M1, l1, l2, l3, l4, l5, l6, l7⟩ := zn_adv hN (hB.c.kept cr cm (fun a k q => by unfold RCc; omega) (fun a k q => by unfold RCm; omega))
      refine ⟨rfl, hv26, w1, p1, e1, t1, v1', C1, M1, ?_, l2, by omega, l4, l5, (cr.mono (fun a k q => Or.inr q)).tr (l6.mono (fun a k q => Or.inl q)), (cm.mono (fun a k q => Or.inr q)).tr (l7.mono (fun a k q => Or.inl q)), ?_, ?_⟩
      · rw [if_pos (show (dI C 5 v, C).1 = 0 from z)]
        show ((f_X5_setRole (dI C 3 9) r C).bind _) = _
        rw [k9, zx_setRole hv26, bS, l1, bS]
      · rw [l6.i (by unfold QlC; omega), dI_s, if_pos ⟨rfl, rfl⟩]
      · rw [l7.i (by unfold QlM; omega), dI_s, if_pos ⟨rfl, rfl⟩]
    · right
      rw [if_neg (show ¬ (dI C 5 v, C).1 = 0 from z), if_pos (show 1 ≤ S.2.2.1 ∧ 6 ≤ S.2.2.2 from hS)]
      refine ⟨fun q => z ?_, rfl⟩
      rcases zs_roles hB.2.2.2.2.2.2 hv26 with h | h | h | h | h
      · exact h.1
      · rcases h.2 with g | g <;> exact absurd (g.symm.trans q.2) (by decide)
      · exact absurd (h.2.symm.trans q.2) (by decide)
      · exact absurd (h.2.symm.trans q.2) (by decide)
      · exact absurd (h.2.symm.trans q.2) (by decide)
  · right
    rw [zx_role0 hkC tl h1, bS, if_neg (show ¬ (-1 : Int32) = 0 by decide), if_pos (show 1 ≤ S.2.2.1 ∧ 6 ≤ S.2.2.2 from hS)]
    exact ⟨fun q => h1 q.1, rfl⟩
/-- the model's declare up to the name -/
theorem zd_decl {N p e t v wh : Nat} {len : Nat} {tx : Nat → Nat} {M M1 : Dat} (h38 : dI M 207 38 = nn wh) (hn : f_X12_next N M = some M1) (hk : TkM p e t v M1) (hTk : Tok len tx p e t v) (h40 : dI M1 207 40 = -1) : (t = 1 ∧ dI M1 229 v = 0 → f_X12_declare N M = (f_X12_next N (sI M1 229 v (nn (wh + 1)))).bind (fun p9 => if nn wh = 3 then (if (((26 : Int32) * (dI p9 207 35)) + nn v) < 0 ∨ 52 ≤ ((((26 : Int32) * (dI p9 207 35)) + nn v)).toNatClampNeg then none else ((f_X12_block N 1 (nn v) (sI p9 227 (((26 : Int32) * (dI p9 207 35)) + nn v).toNatClampNeg (-1))).bind (fun p20 => some p20))) else ((f_X12_expect N 58 p9).bind (fun p12 => (f_X12_labelToken N p12).bind (fun p14 => ((f_X12_expect N 59 (sI p14.2 230 v p14.1)).bind (fun p17 => some p17))))))) ∧ (¬ (t = 1 ∧ dI M1 229 v = 0) → f_X12_declare N M = some (sI M1 207 40 (nn p))) := by
  have tl := zx_tok_lt hTk
  have bad : f_X12_declare_b30 N M1 = some (sI M1 207 40 (nn p)) := by
    unfold f_X12_declare_b30
    rw [zx_wrong h40 hk.1, bS]
  unfold f_X12_declare
  rw [hn, bS, hk.2.2.1, h38]
  by_cases h1 : t = 1
  · subst h1
    have hv26 : v < 26 := (hTk.2.2.2.1 rfl).1
    have k38 : dI M1 207 38 = nn v := hk.2.2.2 (Or.inl rfl)
    have nv : (nn v).toNatClampNeg = v := nn_nat (by omega)
    have i26' : ¬ (nn v < 0 ∨ 26 ≤ v) := by have := nn_in (k := v) (n := 26) (by omega) hv26; rw [nv] at this; exact this
    rw [if_pos (show nn (zl_mt 1) = 110 from rfl)]
    simp only [k38, nv, i26', if_false, nn_1]
    refine ⟨fun q => ?_, fun q => ?_⟩
    · rw [if_pos q.2]
    · rw [if_neg (fun z => q ⟨trivial, z⟩), bad]
  · refine ⟨fun q => absurd q.1 h1, fun _ => ?_⟩
    rw [if_neg (show ¬ nn (zl_mt t) = 110 from fun q => ?_), bad]
    have q := (nn_eq (b := 110) (by have := zx_mt_lt tl; omega) (by omega)).mp q
    rcases hTk.2.2.2.2.2.1 with a | a
    · unfold zl_mt at q
      repeat' split at q
      all_goals omega
    · have := zl_Si.mp a
      rw [zx_mt (by omega)] at q
      omega
theorem Ds.sb {nu len P : Nat} {tx : Nat → Nat} {nb h p e t v j b w : Nat} {K0 W : Nat → Nat} {S : Sr} {C M : Dat} (hd : Ds nu len P tx nb h p e t v j b w K0 W S C M) : Sb S ∧ p ≤ 240 ∧ j ≤ 60 ∧ 266 ≤ nb ∧ (P = 191 ∨ P = 196) ∧ h ≤ 1 := by
  have s := hd.1
  have hp240 : p ≤ 240 := by have := s.1.2.2.2.1; have := s.1.1.1.1.1; omega
  have := s.2.2.1.2.2.2
  exact ⟨s.2.1.sb (by omega), hp240, by omega, s.2.1.2.2.2.1, s.1.1.2.2.2.2.1.1, s.2.2.1.2.2.1⟩
set_option maxHeartbeats 4000000 in
/-- "var" or "row" -/
theorem zd_mark {N nu len P : Nat} {tx : Nat → Nat} {nb h p e wh j b w : Nat} {K0 W : Nat → Nat} (hN : 1000 ≤ N) (hwh : wh = 1 ∨ wh = 2) {S : Sr} {C M : Dat} (hd : Ds nu len P tx nb h p e 4 wh j b w K0 W S C M) : DBad N P nb h p K0 C M (f_X5_readMark N nu (nn wh) (nn (26 * (wh - 1))) S C) ∨ DGood N nu len P tx nb h p K0 C M (f_X5_readMark N nu (nn wh) (nn (26 * (wh - 1))) S C) := by
  obtain ⟨hSb, hp240, hj60, hnb, hPP, hh⟩ := hd.sb
  obtain ⟨⟨hR, hS, ⟨s1, s2, s3, s4⟩, ⟨s5, s6, s7⟩, s8⟩, ⟨m1, m2, m3⟩, hFs, hPr, hLb⟩ := id hd
  have hps := fun gg => zd_ps (N := N) (g := gg) hR s8 (by omega)
  have k38 : dI M 207 38 = nn wh := hR.2.2.1.2.2.2 (Or.inr (Or.inr rfl))
  obtain ⟨p1, e1, t1, v1, C1, M1, l1, l2, l3, l4, l5, l6, l7⟩ := zx_adv hN hR.1
  have hpe : p < e := hR.2.2.2.2.1 (by decide)
  have hdl := zd_decl k38 l2 l5.2.2.1 l5.2.2.2 l5.1.2.2.1
  have dC1 : Ch (DC P nb) C C1 := l6.mono (fun a k q => Or.inl (by unfold QlC at q; omega))
  have dM1 : Ch (DM h) M M1 := l7.mono (fun a k q => Or.inl (by unfold QlM at q; omega))
  -- a failing
  have fail : ∀ (r : Option (Sum Nat Unit × Sr × Dat)) (S' : Sr) (C' M' : Dat) (q : Nat), r = some (.inl 4, S', C') → S'.2.1 = S.2.1 → dI C' 3 7 = nn q → dI M' 207 40 = nn q → p ≤ q ∧ q ≤ 240 → Ch (DC P nb) C1 C' → Ch (DM h) M1 M' → f_X12_declare N M = some M' → DBad N P nb h p K0 C M r := fun r S' C' M' q hr hK h7 h40 hq cC cM hde => ⟨S', C', M', q, 2, hr, fun a ha => by rw [hK]; exact hS.2.2.2.2.2 a ha, ⟨h7, h40, hq.1, hq.2⟩, dC1.tr cC, dM1.tr cM, by omega, fun g => by
    rw [show g + 2 = (g + 1) + 1 by omega, hps, hde, bS]
    exact zs_psB (by omega) h40⟩
  unfold f_X5_readMark f_X5_mark
  rw [l1, bS]
  rcases zd_name (wh := wh + 1) (r := nn wh) hN l5 hSb with ⟨t1e, hv26, w1, p2, e2, t2, v2, C2, M2, b1, b2, b3, b4, b5, b6, b7, b8, b9⟩ | ⟨nb1, b1⟩
  · subst t1e
    rw [b1, sb2_r]
    have hde := hdl.1 ⟨rfl, w1.2.1⟩
    rw [b2, bS, if_neg (show ¬ nn wh = 3 by rcases hwh with z | z <;> rw [z] <;> decide)] at hde
    have dC2 : Ch (DC P nb) C1 C2 := b6.mono (fun a k q => by unfold QlC at q; unfold DC; omega)
    have dM2 : Ch (DM h) M1 M2 := b7.mono (fun a k q => by unfold QlM at q; unfold DM; omega)
    rcases zn_take (c := 58) hN b5 hSb rfl with ⟨p3, e3, t3, v3, C3, M3, d1, d2, d3, d4, d5, d6, d7⟩ | ⟨d1, d2⟩
    · have d1' : f_X5_take nu 58 S C2 = some (.inr (), S, C3) := d1
      have d2' : f_X12_expect N 58 M2 = some M3 := d2
      rw [d1', sb2_r]
      rw [d2', bS] at hde
      have dC3 : Ch (DC P nb) C1 C3 := dC2.tr (d6.mono (fun a k q => Or.inl (by unfold QlC at q; omega)))
      have dM3 : Ch (DM h) M1 M3 := dM2.tr (d7.mono (fun a k q => Or.inl (by unfold QlM at q; omega)))
      rcases zn_label hN d5 hSb with ⟨hl, p4, e4, t4, v4, C4, M4, f1, f2, f3, f4, f5, f6, f7⟩ | ⟨f1, f2⟩
      · rw [f1, sb2_r, d5.1.2.2.2.2.1.2]
        rw [f2, bS] at hde
        have hmk : (nn (26 * (wh - 1)) : Int32) + nn v1 = nn (26 * (wh - 1) + v1) := nn_add _ _
        have hsm := zd_setMark (P := P) (C := C4) (x := nn v3) (show 26 * (wh - 1) + v1 < 52 by omega)
        have dC4 : Ch (DC P nb) C1 (sI C4 (P + 2) (26 * (wh - 1) + v1) (nn v3)) := Ch.sI (by unfold DC; omega) (dC3.tr (f6.mono (fun a k q => Or.inl (by unfold QlC at q; omega))))
        have dM4 : Ch (DM h) M1 (sI M4 230 v1 (nn v3)) := Ch.sI (by unfold DM; omega) (dM3.tr (f7.mono (fun a k q => Or.inl (by unfold QlM at q; omega))))
        have hR4 : RqN nu len P tx 0 p4 e4 t4 v4 (sI C4 (P + 2) (26 * (wh - 1) + v1) (nn v3)) (sI M4 230 v1 (nn v3)) := f5.kept (X := fun a k => a = P + 2) (Y := fun a k => a = 230) (Ch.sI rfl Ch.rf) (Ch.sI rfl Ch.rf) (fun a k q => by unfold RCc; omega) (fun a k q => by unfold RCm; omega)
        have kk : ∀ (f : Dat → Option (Sum Nat Unit × Sr × Dat)), ((some P).bind (fun a12 => if a12 = 191 ∨ a12 = 196 then ((f_X4_setMark a12 (nn (26 * (wh - 1)) + nn v1) (nn v3) C4).bind f) else none)) = f (sI C4 (P + 2) (26 * (wh - 1) + v1) (nn v3)) := fun f => by
          show (if P = 191 ∨ P = 196 then _ else _) = _
          rw [if_pos hPP, hmk, hsm, bS]
        rw [kk]
        rcases zn_take (c := 59) hN hR4 hSb rfl with ⟨p5, e5, t5, v5, C5, M5, u1, u2, u3, u4, u5, u6, u7⟩ | ⟨u1, u2⟩
        · right
          have u1' : f_X5_take nu 59 S (sI C4 (P + 2) (26 * (wh - 1) + v1) (nn v3)) = some (.inr (), S, C5) := u1
          have u2' : f_X12_expect N 59 (sI M4 230 v1 (nn v3)) = some M5 := u2
          rw [u1', sb2_r]
          rw [u2', bS] at hde
          -- what changed
          have cC : Ch (fun a k => (a = 3 ∧ 6 ≤ k ∧ k ≤ 9) ∨ (a = 5 ∧ k = v1) ∨ (a = P + 2 ∧ k = 26 * (wh - 1) + v1)) C C5 := (l6.mono (fun a k q => by unfold QlC at q; omega)).tr ((b6.mono (fun a k q => by unfold QlC at q; omega)).tr ((d6.mono (fun a k q => by unfold QlC at q; omega)).tr ((f6.mono (fun a k q => by unfold QlC at q; omega)).tr ((Ch.sI (by omega) Ch.rf).tr (u6.mono (fun a k q => by unfold QlC at q; omega))))))
          have cM : Ch (fun a k => (a = 207 ∧ 36 ≤ k ∧ k ≤ 39) ∨ (a = 229 ∧ k = v1) ∨ (a = 230 ∧ k = v1)) M M5 := (l7.mono (fun a k q => by unfold QlM at q; omega)).tr ((b7.mono (fun a k q => by unfold QlM at q; omega)).tr ((d7.mono (fun a k q => by unfold QlM at q; omega)).tr ((f7.mono (fun a k q => by unfold QlM at q; omega)).tr ((Ch.sI (by omega) Ch.rf).tr (u7.mono (fun a k q => by unfold QlM at q; omega))))))
          have r0C : dI C 5 v1 = 0 := by rw [← l6.i (a := 5) (k := v1) (by unfold QlC; omega)]; exact w1.1
          have r0M : dI M 229 v1 = 0 := by rw [← l7.i (a := 229) (k := v1) (by unfold QlM; omega)]; exact w1.2.1
          have mk0 : dI C (P + 2) v1 = -1 ∧ dI C (P + 2) (26 + v1) = -1 := ⟨by rw [← l6.i (a := P + 2) (k := v1) (by unfold QlC; omega)]; exact w1.2.2.1, by rw [← l6.i (a := P + 2) (k := 26 + v1) (by unfold QlC; omega)]; exact w1.2.2.2⟩
          have x5 : dI C5 5 v1 = nn wh := by rw [u6.i (by unfold QlC; omega), dI_s, if_neg (by omega), f6.i (by unfold QlC; omega), d6.i (by unfold QlC; omega)]; exact b8
          have x229 : dI M5 229 v1 = nn (wh + 1) := by rw [u7.i (by unfold QlM; omega), dI_s, if_neg (by omega), f7.i (by unfold QlM; omega), d7.i (by unfold QlM; omega)]; exact b9
          have x230 : dI M5 230 v1 = nn v3 := by rw [u7.i (by unfold QlM; omega), dI_s, if_pos ⟨rfl, rfl⟩]
          have xmk : dI C5 (P + 2) (26 * (wh - 1) + v1) = nn v3 := by rw [u6.i (by unfold QlC; omega), dI_s, if_pos ⟨rfl, rfl⟩]
          have hRo : Ro nu P C5 M5 := fun y hy => by
            by_cases ey : y = v1
            · subst ey
              rw [x5, x229, x230]
              rcases hwh with rfl | rfl
              · right; right; left
                have z1 : dI C5 (P + 2) y = nn v3 := by have := xmk; rw [show 26 * (1 - 1) + y = y by omega] at this; exact this
                have z2 : dI C5 (P + 2) (26 + y) = -1 := by rw [cC.i (by omega)]; exact mk0.2
                exact ⟨rfl, rfl, z1, z2, v3, hl, rfl⟩
              · right; right; right; left
                have z1 : dI C5 (P + 2) (26 + y) = nn v3 := xmk
                have z2 : dI C5 (P + 2) y = -1 := by rw [cC.i (by omega)]; exact mk0.1
                exact ⟨rfl, rfl, z2, z1, v3, hl, rfl⟩
            · rw [cC.i (by omega), cC.i (by omega), cC.i (by omega), cM.i (by omega), cM.i (by omega)]
              exact hR.1.2.2.2.2.2.2 y hy
          have hKp : Kp P nb h j b (260 * h + b + w) C M C5 M5 := ⟨fun i k _ _ => cC.i (by omega), fun i k _ _ => cC.r (by omega), fun x => cC.r (by omega), fun i _ => ⟨cC.i (by omega), cC.i (by omega)⟩, fun k _ _ => ⟨cM.i (by omega), cM.i (by omega)⟩, fun x _ => by
            by_cases ex : x = v1
            · subst ex
              rw [r0M]
              exact ⟨fun q => absurd q (by decide), fun q => absurd q (by decide), fun q => absurd q (by decide), fun q => absurd q (by decide)⟩
            · rw [cM.i (by omega)]
              exact ⟨id, id, id, id⟩⟩
          refine ⟨S, C5, M5, p5, e5, t5, v5, j, b, w, 1, W, rfl, ⟨⟨u5.d hRo, hS, ⟨by rw [cM.i (by omega)]; exact s1, by rw [cM.i (by omega)]; exact s2, s3, by omega⟩, ⟨by rw [cC.i (by omega)]; exact s5, by rw [cM.i (by omega)]; exact s6, by omega⟩, by rw [cM.i (by omega)]; exact s8⟩, ⟨by rw [cM.i (by omega)]; exact m1, by rw [cM.i (by omega)]; exact m2, by rw [cM.i (by omega)]; exact m3⟩, fun i hi => ?_, fun x hx q => ?_, fun i k i' hi hk q => hLb i k i' hi hk (by rw [← cC.r (by omega)]; exact q)⟩, by omega, dC1.tr (dC4.tr (u6.mono (fun a k q => Or.inl (by unfold QlC at q; omega)))), dM1.tr (dM4.tr (u7.mono (fun a k q => Or.inl (by unfold QlM at q; omega)))), fun g => by rw [hps, hde, bS]⟩
          · obtain ⟨z1, z2, z3⟩ := hFs i hi
            refine ⟨z1.kp hKp hi (Nat.le_refl _) ⟨Nat.le_refl _, Nat.le_refl _⟩ (fun a _ _ => cM.i (by omega)), ?_, Wc.kp1 (C := C) (W := W) (fun k _ => cC.i (by omega)) (fun k _ => cC.r (by omega)) (fun x => cC.r (by omega)) (fun _ _ _ => rfl) (fun _ _ => rfl) rfl z3⟩
            unfold Nx
            rw [cC.r (by omega), cM.i (by omega)]
            exact z2
          · have ex : x ≠ v1 := fun ex => by
              rw [ex, x229] at q
              rcases hwh with z | z <;> rw [z] at q <;> exact absurd q (by decide)
            rw [cM.i (by omega)] at q
            obtain ⟨z1, z2⟩ := hPr x hx q
            rw [cC.r (by omega), cM.i (by omega)]
            exact ⟨z1, fun i' q' => by have := z2 i' q'; omega⟩
        · left
          have u1' : f_X5_take nu 59 S (sI C4 (P + 2) (26 * (wh - 1) + v1) (nn v3)) = some (.inl 4, Sx S, sI C4 (P + 2) (26 * (wh - 1) + v1) (nn v3)) := u1
          have u2' : f_X12_expect N 59 (sI M4 230 v1 (nn v3)) = _ := u2
          rw [u1', sb2_l]
          rw [u2', bS] at hde
          exact fail _ (Sx S) _ _ p4 rfl rfl hR4.2.1.1 (by rw [dI_s, if_pos ⟨rfl, rfl⟩]) (by omega) dC4 (Ch.sI (Or.inl (by omega)) dM4) hde
      · left
        rw [f1, sb2_l]
        have b40 : ∀ y, dI (sI (sI M3 207 40 (nn p3)) 230 v1 y) 207 40 = nn p3 := fun y => by rw [dI_s, if_neg (by omega), dI_s, if_pos ⟨rfl, rfl⟩]
        rw [f2, bS, zs_expB (q := p3) (by omega) (b40 0), bS] at hde
        exact fail _ (Sx S) C3 _ p3 rfl rfl d5.2.1.1 (b40 0) (by omega) dC3 (Ch.sI (by unfold DM; omega) (Ch.sI (Or.inl (by omega)) dM3)) hde
    · left
      have d1' : f_X5_take nu 58 S C2 = some (.inl 4, Sx S, C2) := d1
      have d2' : f_X12_expect N 58 M2 = some (sI M2 207 40 (nn p2)) := d2
      rw [d1', sb2_l]
      have b40 : dI (sI M2 207 40 (nn p2)) 207 40 = nn p2 := by rw [dI_s, if_pos ⟨rfl, rfl⟩]
      have b40' : ∀ y, dI (sI (sI M2 207 40 (nn p2)) 230 v1 y) 207 40 = nn p2 := fun y => by rw [dI_s, if_neg (by omega)]; exact b40
      rw [d2', bS, zs_labB (q := p2) (by omega) b40, bS, zs_expB (q := p2) (by omega) (b40' 0), bS] at hde
      exact fail _ (Sx S) C2 _ p2 rfl rfl b5.2.1.1 (b40' 0) (by omega) dC2 (Ch.sI (by unfold DM; omega) (Ch.sI (Or.inl (by omega)) dM2)) hde
  · left
    rw [b1, sb2_l]
    exact fail _ (Sx S) C1 _ p1 rfl rfl l5.2.1.1 (by rw [dI_s, if_pos ⟨rfl, rfl⟩]) (by omega) Ch.rf (Ch.sI (Or.inl (by omega)) Ch.rf) (hdl.2 nb1)
