/-! the kinds of simple statements -/
theorem zs_zb {nu len P : Nat} {tx : Nat → Nat} {nb h o p e t v j b w E jE sa si la li : Nat} {K0 W : Nat → Nat} {S : Sr} {C M : Dat} (kind : Int32) (hp : SPre nu len P tx nb h o p e t v j b w E jE sa si la li K0 W S C M) : ∃ S0 C0 M0, f_X5_start nu kind S C = some (.inr (some (nb + j)), S0, C0) ∧ f_X12_statementAt (nn p) M = some (nn (64 * h + j), M0) ∧ Zb P nb h o p j b w la li K0 S0 C M C0 M0 ∧ Zt nu len P tx nb h o p j b w C0 M0 p e t v b w C0 M0 ∧ (dI C0 (nb + j) 0 = kind ∧ dI C0 (nb + j) 1 = nn p ∧ dI C0 (nb + j) 4 = nn b ∧ dI C0 (nb + j) 5 = nn b ∧ dI C0 (nb + j) 8 = 0 ∧ dR C0 (nb + j) 6 = none ∧ dR C0 (nb + j) 7 = none ∧ dR C0 (nb + j) 9 = none) ∧ (dI M0 207 33 = nn (64 * h + (j + 1)) ∧ dI M0 217 (64 * h + j) = nn p ∧ dI M0 219 (64 * h + j) = 0 ∧ dI M0 222 (64 * h + j) = -1 ∧ dI M0 223 (64 * h + j) = -1 ∧ dI M0 224 (64 * h + j) = -1 ∧ dI M0 la li = nn (64 * h + j) ∧ dI M0 233 o = nn (64 * h + j)) := by
  obtain ⟨S0, C0, M0, a1, a2, hR0, hS0, hkd, c0, m0, y, z, ⟨g1, g2, g3, hPP⟩, ⟨g5, g6⟩, hla⟩ := zs_begin kind hp
  have s := hp.1
  exact ⟨S0, C0, M0, a1, a2, ⟨c0, m0, hS0, hkd, ⟨g1, g2, g3, hPP, s.2.2.1.2.2.1, s.1.1.2.2.2.1.1, s.2.2.2.1.2.2⟩, hla⟩, ⟨hR0, Ch.rf, Ch.rf, RP.rf (fun _ => rfl), ⟨g5, g6⟩, by omega⟩, y, z⟩
/-- E ';' : what is behind the '=' of a setting -/
theorem zt_tail {N nu len P : Nat} {tx : Nat → Nat} {nb h o p0 j b w : Nat} {C0 M0 : Dat} {p e t v bc wc : Nat} {S : Sr} {C M : Dat} (hN : 1000 ≤ N) (hS : Sb S) (hh : h ≤ 1) (hj : j ≤ 60) (hnb : 266 ≤ nb) (hkd : kd S.2.1 (nb + j) = 7) (hz : Zt nu len P tx nb h o p0 j b w C0 M0 p e t v bc wc C M) (hb : bc + wc ≤ p) : (∃ S' C' M' q, (sb2 (f_X5_take nu 61 S C) (fun p10 S12 D12 => sb2 (f_X5_readExpression N nu 12 S12 D12) (fun p13 S15 D15 => if kd S15.2.1 (nb + j) = 7 then (sb2 (f_X5_take nu 59 S15 (sI D15 (nb + j) 5 p13)) (fun p17 S19 D19 => some (.inr (some (nb + j)), S19, D19))) else none)) : Option (Sum Nat (Option Nat) × Sr × Dat)) = some (.inl 4, S', C') ∧ S'.2.1 = S.2.1 ∧ f_X12_named_b120 N (nn (64 * h + j)) M = some M' ∧ (dI C' 3 7 = nn q ∧ dI M' 207 40 = nn q ∧ p0 ≤ q ∧ q ≤ 240) ∧ Ch (ZC P nb j b) C0 C' ∧ Ch (ZM h j (260 * h + b + w)) M0 M') ∨ (∃ C' M' p' e' t' v' n, (sb2 (f_X5_take nu 61 S C) (fun p10 S12 D12 => sb2 (f_X5_readExpression N nu 12 S12 D12) (fun p13 S15 D15 => if kd S15.2.1 (nb + j) = 7 then (sb2 (f_X5_take nu 59 S15 (sI D15 (nb + j) 5 p13)) (fun p17 S19 D19 => some (.inr (some (nb + j)), S19, D19))) else none)) : Option (Sum Nat (Option Nat) × Sr × Dat)) = some (.inr (some (nb + j)), S, C') ∧ f_X12_named_b120 N (nn (64 * h + j)) M = some M' ∧ Zt nu len P tx nb h o p0 j b w C0 M0 p' e' t' v' (bc + n) (wc + 1) C' M' ∧ (p + 3 ≤ p' ∧ bc + n + wc + 1 ≤ p') ∧ dI C' (nb + j) 5 = nn (bc + n) ∧ dI M' 221 (64 * h + j) = nn (260 * h + bc + wc) ∧ Ex P C' M' bc n (260 * h + bc + wc) ∧ Hg 1 o P C' bc (bc + n) ∧ Ch (fun a k => XC P bc a k ∨ (a = nb + j ∧ k = 5)) C C' ∧ Ch (fun a k => XM (260 * h + bc + wc) (260 * h + 260) 0 0 a k ∨ (a = 221 ∧ k = 64 * h + j)) M M' ∧ RP M M') := by
  have hPP := hz.1.1.2.2.2.2.1.1
  have i128 : ¬ (nn (64 * h + j) < 0 ∨ 128 ≤ (nn (64 * h + j)).toNatClampNeg) := nn_in (k := 64 * h + j) (n := 128) (by omega) (by omega)
  have nm : (nn (64 * h + j)).toNatClampNeg = 64 * h + j := nn_nat (by omega)
  have hz6 := hz.2.2.2.2.2
  unfold f_X12_named_b120 f_X12_named_b143
  rcases zt_take (c := 61) hN hS hz rfl with ⟨p2, e2, t2, v2, C2, M2, d1, d2, d3, d4, d5, d6⟩ | ⟨d1, d2⟩
  · have d1' : f_X5_take nu 61 S C = some (.inr (), S, C2) := d1
    have d2' : f_X12_expect N 61 M = some M2 := d2
    rw [d1', sb2_r, d2', bS, d3.1.1.2.2.1, if_neg m1_lt]
    rcases zt_expr hN hS hh d3 (by omega) with ⟨S', C', M', q, f1, f2, f3, f4, f5, f6⟩ | ⟨C3, M3, p3, e3, t3, v3, n, f1, f2, f3, f4, f5, f6, f7, f8, f9⟩
    · left
      refine ⟨S', C', sI M' 221 (64 * h + j) (nn (260 * h + bc + wc)), q, by rw [f1, sb2_l], f2, ?_, ⟨f4.1, by rw [dI_s, if_neg (by omega)]; exact f4.2.1, f4.2.2⟩, f5, Ch.sI (by unfold ZM; omega) f6⟩
      rw [f3, bS, if_neg i128, nm, zs_expB (q := q) (by omega) (by rw [dI_s, if_neg (by omega)]; exact f4.2.1), bS]
    · rw [f1, sb2_r, if_pos hkd, f2, bS, if_neg i128, nm]
      have hz3 : Zt nu len P tx nb h o p0 j b w C0 M0 p3 e3 t3 v3 (bc + n) (wc + 1) (sI C3 (nb + j) 5 (nn (bc + n))) (sI M3 221 (64 * h + j) (nn (260 * h + bc + wc))) := (f3.setC hnb (by omega)).setM (by omega)
      rcases zt_take (c := 59) hN hS hz3 rfl with ⟨p4, e4, t4, v4, C4, M4, k1, k2, k3, k4, k5, k6⟩ | ⟨k1, k2⟩
      · right
        have k1' : f_X5_take nu 59 S (sI C3 (nb + j) 5 (nn (bc + n))) = some (.inr (), S, C4) := k1
        have k2' : f_X12_expect N 59 (sI M3 221 (64 * h + j) (nn (260 * h + bc + wc))) = some M4 := k2
        have c34 : Ch (fun a k => QlC a k ∨ (a = nb + j ∧ k = 5)) C3 C4 := (Ch.sI (Or.inr ⟨rfl, rfl⟩) Ch.rf).tr (k5.mono (fun a k q => Or.inl q))
        have m34 : Ch (fun a k => QlM a k ∨ (a = 221 ∧ k = 64 * h + j)) M3 M4 := (Ch.sI (Or.inr ⟨rfl, rfl⟩) Ch.rf).tr (k6.mono (fun a k q => Or.inl q))
        refine ⟨C4, M4, p4, e4, t4, v4, n, by rw [k1', sb2_r], by rw [k2', bS], k3, by omega, ?_, ?_, ?_, ?_, ?_, ?_, ?_⟩
        · rw [k5.i (by unfold QlC; omega), dI_s, if_pos ⟨rfl, rfl⟩]
        · rw [k6.i (by unfold QlM; omega), dI_s, if_pos ⟨rfl, rfl⟩]
        · exact f5.kept (fun i _ _ => ⟨c34.i (by unfold QlC; omega), c34.i (by unfold QlC; omega)⟩) (fun k _ _ => ⟨m34.i (by unfold QlM; omega), m34.i (by unfold QlM; omega)⟩) (fun x _ hx => by rw [m34.i (by unfold QlM; omega)]; exact hx)
        · exact f6.eq (by omega) (fun i _ => c34.i (by unfold QlC; omega))
        · exact (d5.mono (fun a k q => by unfold QlC at q; unfold XC; omega)).tr ((f7.mono (fun a k q => Or.inl q)).tr (c34.mono (fun a k q => by unfold QlC at q; unfold XC; omega)))
        · exact (d6.mono (fun a k q => by unfold QlM at q; unfold XM; omega)).tr ((f8.mono (fun a k q => Or.inl q)).tr (m34.mono (fun a k q => by unfold QlM at q; unfold XM; omega)))
        · exact (RP.rf (fun x => d6.i (by unfold QlM; omega))).tr (f9.tr (RP.rf (fun x => m34.i (by unfold QlM; omega))))
      · left
        have k1' : f_X5_take nu 59 S (sI C3 (nb + j) 5 (nn (bc + n))) = some (.inl 4, Sx S, sI C3 (nb + j) 5 (nn (bc + n))) := k1
        have k2' : f_X12_expect N 59 (sI M3 221 (64 * h + j) (nn (260 * h + bc + wc))) = _ := k2
        refine ⟨Sx S, _, _, p3, by rw [k1', sb2_l], rfl, by rw [k2', bS], ⟨hz3.1.2.1.1, by rw [dI_s, if_pos ⟨rfl, rfl⟩], hz3.2.2.2.2.2.1, hz3.2.2.2.2.2.2.1⟩, hz3.2.1, Ch.sI (by unfold ZM; omega) hz3.2.2.1⟩
  · left
    have d1' : f_X5_take nu 61 S C = some (.inl 4, Sx S, C) := d1
    have d2' : f_X12_expect N 61 M = some (sI M 207 40 (nn p)) := d2
    have b40 : dI (sI M 207 40 (nn p)) 207 40 = nn p := by rw [dI_s, if_pos ⟨rfl, rfl⟩]
    refine ⟨Sx S, C, sI M 207 40 (nn p), p, by rw [d1', sb2_l], rfl, ?_, ⟨hz.1.2.1.1, b40, hz6.1, hz6.2.1⟩, hz.2.1, Ch.sI (by unfold ZM; omega) hz.2.2.1⟩
    rw [d2', bS, b40, if_pos (show (0 : Int32) ≤ nn p from (nn_le (a := 0) (by omega) (by omega)).mpr (by omega)), zs_expB (q := p) (by omega) b40, bS]
theorem zs_assign {N nu len P : Nat} {tx : Nat → Nat} {nb h o p e v j b w E jE sa si la li : Nat} {K0 W : Nat → Nat} {x1 : Int32} (hN : 1000 ≤ N) {S : Sr} {C M : Dat} (hp : SPre nu len P tx nb h o p e 1 v j b w E jE sa si la li K0 W S C M) (hv : dI M 229 v = 0 ∨ dI M 229 v = 1 ∨ dI M 229 v = 2) : SBad N P nb h o p j b (260 * h + b + w) la li K0 x1 C M (f_X5_readSetting N nu S C) (fun f => (f_X12_statement N M).bind f) ∨ SGood N nu len P tx nb h o p j b (260 * h + b + w) la li E jE K0 W x1 C M (f_X5_readSetting N nu S C) (fun f => (f_X12_statement N M).bind f) := by
  obtain ⟨S0, C0, M0, a1, a2, hz, ht, ⟨y1, y2, y3, y4, y5, y6, y7, y8⟩, ⟨z1, z2, z3, z4, z5, z6, z7, z8⟩⟩ := zs_zb 2 hp
  obtain ⟨c0, m0, hS0, hkd, ⟨g1, g2, g3, hPP, hh, ho, hbw⟩, hla⟩ := id hz
  have hR := hp.1.1
  have hv26 : v < 26 := (hR.2.2.2.2.2.2.1 rfl).1
  have hSb := hS0.sb (by omega)
  have r0 : dI M0 229 v = dI M 229 v := m0.i (by unfold Ma; omega)
  obtain ⟨p1, e1, t1, v1, C1, M1, Mr, b1, b2, b3, b4, b5, b6, b7, b8, b9, b10, b11, b12⟩ := zs_varN (S := S0) hN ht.1 (by rw [r0]; exact hv)
  have ht1 : Zt nu len P tx nb h o p j b w C0 M0 p1 e1 t1 v1 b w (sI C1 (nb + j) 2 (nn v)) (sI (sI Mr 218 (64 * h + j) (nn v)) 216 (64 * h + j) 1) := (((ht.go b7 (b8.mono (fun a k q => by unfold QlC at q; omega)) (b10.mono (fun a k q => by unfold QlM at q; omega)) b11 (by omega)).setC g3 (by omega)).setM (by omega)).setM (by omega)
  have v229 : dI (sI (sI Mr 218 (64 * h + j) (nn v)) 216 (64 * h + j) 1) 229 v = 1 ∨ dI (sI (sI Mr 218 (64 * h + j) (nn v)) 216 (64 * h + j) 1) 229 v = 2 := by rw [dI_s, if_neg (by omega), dI_s, if_neg (by omega)]; exact b12
  have v218 : dI (sI (sI Mr 218 (64 * h + j) (nn v)) 216 (64 * h + j) 1) 218 (64 * h + j) = nn v := by rw [dI_s, if_neg (by omega), dI_s, if_pos ⟨rfl, rfl⟩]
  have v216 : dI (sI (sI Mr 218 (64 * h + j) (nn v)) 216 (64 * h + j) 1) 216 (64 * h + j) = 1 := by rw [dI_s, if_pos ⟨rfl, rfl⟩]
  have x2 : dI (sI C1 (nb + j) 2 (nn v)) (nb + j) 2 = nn v := by rw [dI_s, if_pos ⟨rfl, rfl⟩]
  have x0 : ∀ k, k ≠ 2 → dI (sI C1 (nb + j) 2 (nn v)) (nb + j) k = dI C0 (nb + j) k := fun k hk => by rw [dI_s, if_neg (by omega), b8.i (by unfold QlC; omega)]
  have i128 : ¬ (nn (64 * h + j) < 0 ∨ 128 ≤ (nn (64 * h + j)).toNatClampNeg) := nn_in (k := 64 * h + j) (n := 128) (by omega) (by omega)
  have i26 : ¬ (nn v < 0 ∨ 26 ≤ (nn v).toNatClampNeg) := nn_in (k := v) (n := 26) (by omega) hv26
  have nm : (nn (64 * h + j)).toNatClampNeg = 64 * h + j := nn_nat (by omega)
  have nv : (nn v).toNatClampNeg = v := nn_nat (by omega)
  have i26' : ¬ (nn v < 0 ∨ 26 ≤ v) := by have := i26; rw [nv] at this; exact this
  have i128' : ¬ (nn (64 * h + j) < 0 ∨ 128 ≤ 64 * h + j) := by have := i128; rw [nm] at this; exact this
  have le3 : dI M0 229 v ≤ 3 := by rw [r0]; rcases hv with q | q | q <;> rw [q] <;> decide
  have r1 : ∀ y, dI (sI M1 218 (64 * h + j) y) 229 v = dI M0 229 v := fun y => by rw [dI_s, if_neg (by omega), b9.i (by unfold QlM; omega)]
  have r2 : ∀ y z, dI (sI (sI M1 218 (64 * h + j) y) 216 (64 * h + j) z) 229 v = dI M0 229 v := fun y z => by rw [dI_s, if_neg (by omega)]; exact r1 y
  have ne3 : ¬ dI M0 229 v = 3 := by rw [r0]; rcases hv with q | q | q <;> rw [q] <;> decide
  have k38 : dI M0 207 38 = nn v := ht.1.2.2.1.2.2.2 (Or.inl rfl)
  have st : f_X12_statement N M = f_X12_named_b120 N (nn (64 * h + j)) (sI (sI Mr 218 (64 * h + j) (nn v)) 216 (64 * h + j) 1) := by
    unfold f_X12_statement
    rw [hR.2.2.1.2.2.1, if_pos (show nn (zl_mt 1) = 110 from rfl), hR.2.2.1.1, a2, bS]
    unfold f_X12_named f_X12_named_b51
    simp only [k38, nv, nm, i26', i128', if_false, if_pos le3, b2, bS, r1, r2, if_neg ne3]
    by_cases z : dI M 229 v = 0
    · rw [if_pos (r0.trans z), b3 (r0.trans z), sI_comm (show ¬ (216 = 229 ∧ 64 * h + j = v) by omega), sI_comm (show ¬ (218 = 229 ∧ 64 * h + j = v) by omega), bI]
    · rw [if_neg (fun q => z (r0.symm.trans q)), b4 (fun q => z (r0.symm.trans q)), bI]
  have cls : f_X5_readSetting N nu S C = (sb2 (f_X5_take nu 61 S0 (sI C1 (nb + j) 2 (nn v))) (fun p10 S12 D12 => sb2 (f_X5_readExpression N nu 12 S12 D12) (fun p13 S15 D15 => if kd S15.2.1 (nb + j) = 7 then (sb2 (f_X5_take nu 59 S15 (sI D15 (nb + j) 5 p13)) (fun p17 S19 D19 => some (.inr (some (nb + j)), S19, D19))) else none))) := by
    unfold f_X5_readSetting f_X5_named f_X5_tail
    rw [a1, sb2_r, b1, sb2_r]
    show (if kd S0.2.1 (nb + j) = 7 then _ else _) = _
    rw [if_pos hkd, if_pos hkd, x0 0 (by omega), y1, if_neg (by decide)]
  generalize sI (sI Mr 218 (64 * h + j) (nn v)) 216 (64 * h + j) 1 = M1' at *
  generalize sI C1 (nb + j) 2 (nn v) = C1' at *
  rw [cls]
  rcases zt_tail (S := S0) hN hSb hh g2 g3 hkd ht1 (by omega) with ⟨S', C', M', q, f1, f2, f3, f4, f5, f6⟩ | ⟨C', M', p', e', t', v', n, f1, f2, f3, f4, f5, f6, f7, f8, f9, f10, f11⟩
  · left
    exact hz.bad f1 f2 f4.1 f4.2.1 f4.2.2 f5 f6 (fun f => by show (f_X12_statement N M).bind f = _; rw [st, f3, bS])
  · right
    obtain ⟨w1, w2, w3, w4, w5, w6⟩ := id f3
    refine zs_done (b' := b + n) (w' := w + 1) hp hS0 c0 m0 ⟨?_, y2, y6, y7, y8⟩ ⟨z1, z2, z6, z7, z8⟩ w2 w3 f1 w1 w5.1 w5.2 (by omega) (by omega) w4 (fun f => by show (f_X12_statement N M).bind f = _; rw [st, f2, bS]) ?_ (fun q => ?_)
    · rw [f9.i (by unfold XC Ec; omega), x0 0 (by omega)]
    · left
      refine ⟨by rw [f9.i (by unfold XC Ec; omega), x0 0 (by omega)]; exact y1, by rw [f10.i (by unfold XM; omega)]; exact v216, ⟨v, hv26, by rw [f9.i (by unfold XC Ec; omega)]; exact x2, by rw [f10.i (by unfold XM; omega)]; exact v218, ?_⟩, 260 * h + b + w, f6, FsE.mk (fr := b) (n := n) (by rw [f9.i (by unfold XC Ec; omega), x0 4 (by omega)]; exact y3) f5 (by omega) (by omega) f7 f8.zero⟩
      rcases v229 with q | q
      · exact Or.inl (f11.keep hv26 (by decide) q)
      · exact Or.inr (f11.keep hv26 (by decide) q)
    · rw [f9.i (by unfold XC Ec; omega), x0 0 (by omega), y1] at q
      exact absurd q (by decide)
