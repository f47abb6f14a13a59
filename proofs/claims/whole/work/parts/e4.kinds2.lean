/-! ':' LABEL ';' , in, out, do -/
theorem zt_label {N nu len P : Nat} {tx : Nat → Nat} {nb h o p0 j b w : Nat} {C0 M0 : Dat} {p e t v bc wc : Nat} {S : Sr} {C M : Dat} (hN : 1000 ≤ N) (hS : Sb S) (hh : h ≤ 1) (hj : j ≤ 60) (hnb : 266 ≤ nb) (hkd : kd S.2.1 (nb + j) = 7) (hz : Zt nu len P tx nb h o p0 j b w C0 M0 p e t v bc wc C M) : (∃ S' C' M' q, (sb2 (f_X5_take nu 58 S C) (fun p12 S14 D14 => sb2 (f_X5_takeLabel nu S14 D14) (fun p15 S17 D17 => if kd S17.2.1 (nb + j) = 7 then (sb2 (f_X5_take nu 59 S17 (sI D17 (nb + j) 3 p15)) (fun p19 S21 D21 => some (.inr (some (nb + j)), S21, D21))) else none)) : Option (Sum Nat (Option Nat) × Sr × Dat)) = some (.inl 4, S', C') ∧ S'.2.1 = S.2.1 ∧ f_X12_moving_b100 N (nn (64 * h + j)) M = some M' ∧ (dI C' 3 7 = nn q ∧ dI M' 207 40 = nn q ∧ p0 ≤ q ∧ q ≤ 240) ∧ Ch (ZC P nb j b) C0 C' ∧ Ch (ZM h j (260 * h + b + w)) M0 M') ∨ (∃ C' M' p' e' t' v' l, (sb2 (f_X5_take nu 58 S C) (fun p12 S14 D14 => sb2 (f_X5_takeLabel nu S14 D14) (fun p15 S17 D17 => if kd S17.2.1 (nb + j) = 7 then (sb2 (f_X5_take nu 59 S17 (sI D17 (nb + j) 3 p15)) (fun p19 S21 D21 => some (.inr (some (nb + j)), S21, D21))) else none)) : Option (Sum Nat (Option Nat) × Sr × Dat)) = some (.inr (some (nb + j)), S, C') ∧ f_X12_moving_b100 N (nn (64 * h + j)) M = some M' ∧ Zt nu len P tx nb h o p0 j b w C0 M0 p' e' t' v' bc wc C' M' ∧ (p + 3 ≤ p' ∧ l < nu) ∧ dI C' (nb + j) 3 = nn l ∧ dI M' 219 (64 * h + j) = nn l ∧ Ch (fun a k => QlC a k ∨ (a = nb + j ∧ k = 3)) C C' ∧ Ch (fun a k => QlM a k ∨ (a = 219 ∧ k = 64 * h + j)) M M') := by
  have hPP := hz.1.1.2.2.2.2.1.1
  have i128 : ¬ (nn (64 * h + j) < 0 ∨ 128 ≤ (nn (64 * h + j)).toNatClampNeg) := nn_in (k := 64 * h + j) (n := 128) (by omega) (by omega)
  have nm : (nn (64 * h + j)).toNatClampNeg = 64 * h + j := nn_nat (by omega)
  have hz6 := hz.2.2.2.2.2
  unfold f_X12_moving_b100
  rcases zt_take (c := 58) hN hS hz rfl with ⟨p2, e2, t2, v2, C2, M2, d1, d2, d3, d4, d5, d6⟩ | ⟨d1, d2⟩
  · have d1' : f_X5_take nu 58 S C = some (.inr (), S, C2) := d1
    have d2' : f_X12_expect N 58 M = some M2 := d2
    rw [d1', sb2_r, d2', bS]
    rcases zs_label hN d3.1 hS with ⟨hl, p3, e3, t3, v3, C3, M3, f1, f2, f3, f4, f5, f6, f7⟩ | ⟨f1, f2⟩
    · rw [f1, sb2_r, if_pos hkd, f2, bS, if_neg i128, nm]
      have hz3 : Zt nu len P tx nb h o p0 j b w C0 M0 p3 e3 t3 v3 bc wc (sI C3 (nb + j) 3 (nn v2)) (sI M3 219 (64 * h + j) (nn v2)) := ((d3.go f5 (f6.mono (fun a k q => by unfold QlC at q; omega)) (f7.mono (fun a k q => by unfold QlM at q; omega)) (RP.rf (fun x => f7.i (by unfold QlM; omega))) (by omega)).setC hnb (by omega)).setM (by omega)
      rcases zt_take (c := 59) hN hS hz3 rfl with ⟨p4, e4, t4, v4, C4, M4, k1, k2, k3, k4, k5, k6⟩ | ⟨k1, k2⟩
      · right
        have k1' : f_X5_take nu 59 S (sI C3 (nb + j) 3 (nn v2)) = some (.inr (), S, C4) := k1
        have k2' : f_X12_expect N 59 (sI M3 219 (64 * h + j) (nn v2)) = some M4 := k2
        refine ⟨C4, M4, p4, e4, t4, v4, v2, by rw [k1', sb2_r], by rw [k2', bS], k3, by omega, ?_, ?_, ?_, ?_⟩
        · rw [k5.i (by unfold QlC; omega), dI_s, if_pos ⟨rfl, rfl⟩]
        · rw [k6.i (by unfold QlM; omega), dI_s, if_pos ⟨rfl, rfl⟩]
        · exact (d5.mono (fun a k q => Or.inl q)).tr ((f6.mono (fun a k q => Or.inl q)).tr ((Ch.sI (Or.inr ⟨rfl, rfl⟩) Ch.rf).tr (k5.mono (fun a k q => Or.inl q))))
        · exact (d6.mono (fun a k q => Or.inl q)).tr ((f7.mono (fun a k q => Or.inl q)).tr ((Ch.sI (Or.inr ⟨rfl, rfl⟩) Ch.rf).tr (k6.mono (fun a k q => Or.inl q))))
      · left
        have k1' : f_X5_take nu 59 S (sI C3 (nb + j) 3 (nn v2)) = some (.inl 4, Sx S, sI C3 (nb + j) 3 (nn v2)) := k1
        have k2' : f_X12_expect N 59 (sI M3 219 (64 * h + j) (nn v2)) = _ := k2
        exact ⟨Sx S, _, _, p3, by rw [k1', sb2_l], rfl, by rw [k2', bS], ⟨hz3.1.2.1.1, by rw [dI_s, if_pos ⟨rfl, rfl⟩], hz3.2.2.2.2.2.1, hz3.2.2.2.2.2.2.1⟩, hz3.2.1, Ch.sI (by unfold ZM; omega) hz3.2.2.1⟩
    · left
      have b40 : ∀ y, dI (sI (sI M2 207 40 (nn p2)) 219 (64 * h + j) y) 207 40 = nn p2 := fun y => by rw [dI_s, if_neg (by omega), dI_s, if_pos ⟨rfl, rfl⟩]
      refine ⟨Sx S, C2, sI (sI M2 207 40 (nn p2)) 219 (64 * h + j) 0, p2, by rw [f1, sb2_l], rfl, ?_, ⟨d3.1.2.1.1, b40 0, d3.2.2.2.2.2.1, d3.2.2.2.2.2.2.1⟩, d3.2.1, Ch.sI (by unfold ZM; omega) (Ch.sI (by unfold ZM; omega) d3.2.2.1)⟩
      rw [f2, bS, if_neg i128, nm, zs_expB (q := p2) (by have := d3.2.2.2.2.2.2.1; omega) (b40 0), bS]
  · left
    have d1' : f_X5_take nu 58 S C = some (.inl 4, Sx S, C) := d1
    have d2' : f_X12_expect N 58 M = some (sI M 207 40 (nn p)) := d2
    have b40 : dI (sI M 207 40 (nn p)) 207 40 = nn p := by rw [dI_s, if_pos ⟨rfl, rfl⟩]
    have b40' : ∀ y, dI (sI (sI M 207 40 (nn p)) 219 (64 * h + j) y) 207 40 = nn p := fun y => by rw [dI_s, if_neg (by omega)]; exact b40
    refine ⟨Sx S, C, sI (sI M 207 40 (nn p)) 219 (64 * h + j) 0, p, by rw [d1', sb2_l], rfl, ?_, ⟨hz.1.2.1.1, b40' 0, hz6.1, hz6.2.1⟩, hz.2.1, Ch.sI (by unfold ZM; omega) (Ch.sI (by unfold ZM; omega) hz.2.2.1)⟩
    rw [d2', bS, zs_labB (q := p) (by omega) b40, bS, if_neg i128, nm, zs_expB (q := p) (by omega) (b40' 0), bS]
/-- the model at a keyword -/
theorem zs_kw {N nu len P : Nat} {tx : Nat → Nat} {nb h o p e v j b w E jE sa si la li : Nat} {K0 W : Nat → Nat} (hN : 1000 ≤ N) {S : Sr} {C M : Dat} (kind : Int32) (hp : SPre nu len P tx nb h o p e 4 v j b w E jE sa si la li K0 W S C M) : ∃ S0 C0 M0 p1 e1 t1 v1 C1 M1, f_X5_start nu kind S C = some (.inr (some (nb + j)), S0, C0) ∧ f_X12_statementAt (nn p) M = some (nn (64 * h + j), M0) ∧ f_X5_goTo (dI C0 3 8 + 1) C0 = some C1 ∧ f_X12_next N M0 = some M1 ∧ f_X12_statement N M = f_X12_statement_b41 N (nn p) (nn v) M ∧ Zb P nb h o p j b w la li K0 S0 C M C0 M0 ∧ Zt nu len P tx nb h o p j b w C0 M0 p1 e1 t1 v1 b w C1 M1 ∧ (e ≤ p1 ∧ v ≤ 9 ∧ p < e) ∧ Ch QlC C0 C1 ∧ Ch QlM M0 M1 ∧ (dI C0 (nb + j) 0 = kind ∧ dI C0 (nb + j) 1 = nn p ∧ dI C0 (nb + j) 4 = nn b ∧ dI C0 (nb + j) 5 = nn b ∧ dI C0 (nb + j) 8 = 0 ∧ dR C0 (nb + j) 6 = none ∧ dR C0 (nb + j) 7 = none ∧ dR C0 (nb + j) 9 = none) ∧ (dI M0 207 33 = nn (64 * h + (j + 1)) ∧ dI M0 217 (64 * h + j) = nn p ∧ dI M0 219 (64 * h + j) = 0 ∧ dI M0 222 (64 * h + j) = -1 ∧ dI M0 223 (64 * h + j) = -1 ∧ dI M0 224 (64 * h + j) = -1 ∧ dI M0 la li = nn (64 * h + j) ∧ dI M0 233 o = nn (64 * h + j)) := by
  obtain ⟨S0, C0, M0, a1, a2, hz, ht, hy, hzz⟩ := zs_zb kind hp
  obtain ⟨p1, e1, t1, v1, C1, M1, l1, l2, l3, l4, l5, l6, l7⟩ := zx_adv hN ht.1.1
  have hR := hp.1.1
  have hTk := hR.2.2.2
  refine ⟨S0, C0, M0, p1, e1, t1, v1, C1, M1, a1, a2, l1, l2, ?_, hz, ht.go l5 (l6.mono (fun a k q => by unfold QlC at q; omega)) (l7.mono (fun a k q => by unfold QlM at q; omega)) (RP.rf (fun x => l7.i (by unfold QlM; omega))) (by have := hTk.1; omega), ⟨l3, (hTk.2.2.2.2.2.2 rfl).1, hTk.2.1 (by decide)⟩, l6, l7, hy, hzz⟩
  unfold f_X12_statement
  rw [hR.2.2.1.2.2.1, if_neg (show ¬ nn (zl_mt 4) = 110 by decide), if_pos (show nn (zl_mt 4) = 107 from rfl), hR.2.2.1.1, hR.2.2.1.2.2.2 (Or.inr (Or.inr rfl))]
theorem zs_b41 {v : Nat} (h : v = 4 ∨ v = 6 ∨ v = 7 ∨ v = 8 ∨ v = 9) : ¬ nn v < 4 ∧ ¬ nn v = 5 := by
  rcases h with h | h | h | h | h <;> rw [h] <;> decide
theorem zs_kwlen {len p e v j : Nat} {tx : Nat → Nat} (h : Tok len tx p e 4 v) (hj : j < 9) (hv : v = zl_kc j) : p + zl_sl j = e := by
  have := ((h.2.2.2.2.2.2 rfl).2 j hj).mp hv
  have := h.1
  omega
/-- "in" VARIABLE ":" LABEL ";" -/
theorem zs_in {N nu len P : Nat} {tx : Nat → Nat} {nb h o p e j b w E jE sa si la li : Nat} {K0 W : Nat → Nat} {x1 : Int32} (hN : 1000 ≤ N) {S : Sr} {C M : Dat} (hp : SPre nu len P tx nb h o p e 4 7 j b w E jE sa si la li K0 W S C M) : SBad N P nb h o p j b (260 * h + b + w) la li K0 x1 C M (f_X5_readIn N nu S C) (fun f => (f_X12_statement N M).bind f) ∨ SGood N nu len P tx nb h o p j b (260 * h + b + w) la li E jE K0 W x1 C M (f_X5_readIn N nu S C) (fun f => (f_X12_statement N M).bind f) := by
  obtain ⟨S0, C0, M0, p1, e1, t1, v1, C1, M1, a1, a2, a3, a4, a5, hz, ht, hpe, l6, l7, ⟨y1, y2, y3, y4, y5, y6, y7, y8⟩, ⟨z1, z2, z3, z4, z5, z6, z7, z8⟩⟩ := zs_kw hN 13 hp
  obtain ⟨c0, m0, hS0, hkd, ⟨g1, g2, g3, hPP, hh, ho, hbw⟩, hla⟩ := id hz
  have hlen := zs_kwlen (j := 5) hp.1.1.2.2.2 (by decide) rfl
  have hl5 : zl_sl 5 = 2 := by decide
  have hSb := hS0.sb (by omega)
  have i128 : ¬ (nn (64 * h + j) < 0 ∨ 128 ≤ (nn (64 * h + j)).toNatClampNeg) := nn_in (k := 64 * h + j) (n := 128) (by omega) (by omega)
  have nm : (nn (64 * h + j)).toNatClampNeg = 64 * h + j := nn_nat (by omega)
  have i128' : ¬ (nn (64 * h + j) < 0 ∨ 128 ≤ 64 * h + j) := by have := i128; rw [nm] at this; exact this
  have ht5 : Zt nu len P tx nb h o p j b w C0 M0 p1 e1 t1 v1 b w C1 (sI M1 216 (64 * h + j) 5) := ht.setM (by omega)
  have st : f_X12_statement N M = f_X12_moving N (nn (64 * h + j)) 7 M1 := by
    rw [a5]
    unfold f_X12_statement_b41 f_X12_statement_b192
    rw [if_neg (show ¬ nn 7 < 4 by decide), if_neg (show ¬ nn 7 = 5 by decide), a2, bS, a4, bS, if_neg (show ¬ nn 7 = 4 by decide), if_neg (show ¬ nn 7 = 6 by decide), if_neg (show ¬ nn 7 = 9 by decide), bI]
    rfl
  have stm : f_X12_moving N (nn (64 * h + j)) 7 M1 = f_X12_moving_b17 N (nn (64 * h + j)) 7 5 (nn (64 * h + j)) M1 := by
    unfold f_X12_moving; rw [if_pos rfl]
  have cls0 : f_X5_readIn N nu S C = sb2 (f_X5_takeName nu 1 S0 C1) (fun p6 S8 D8 => (some (nb + j)).bind (fun a9 => if kd S8.2.1 a9 = 7 then (sb2 (f_X5_take nu 58 S8 (sI D8 a9 2 p6)) (fun p12 S14 D14 => sb2 (f_X5_takeLabel nu S14 D14) (fun p15 S17 D17 => if kd S17.2.1 a9 = 7 then (sb2 (f_X5_take nu 59 S17 (sI D17 a9 3 p15)) (fun p19 S21 D21 => some (.inr (some a9), S21, D21))) else none))) else none)) := by
    unfold f_X5_readIn
    rw [a1, sb2_r, a3, bS]
  have tk := zx_tok_lt ht.1.2.2.2
  have k37 : dI (sI M1 216 (64 * h + j) 5) 207 37 = nn (zl_mt t1) := ht5.1.2.2.1.2.2.1
  by_cases hv : t1 = 1 ∧ (dI M1 229 v1 = 0 ∨ dI M1 229 v1 = 1 ∨ dI M1 229 v1 = 2)
  · obtain ⟨rfl, hv⟩ := hv
    have hv26 : v1 < 26 := (ht.1.2.2.2.2.2.2.1 rfl).1
    have i26 : ¬ (nn v1 < 0 ∨ 26 ≤ (nn v1).toNatClampNeg) := nn_in (k := v1) (n := 26) (by omega) hv26
    have nv : (nn v1).toNatClampNeg = v1 := nn_nat (by omega)
    have i26' : ¬ (nn v1 < 0 ∨ 26 ≤ v1) := by have := i26; rw [nv] at this; exact this
    have k38 : dI (sI M1 216 (64 * h + j) 5) 207 38 = nn v1 := ht5.1.2.2.1.2.2.2 (Or.inl rfl)
    have ht6 : Zt nu len P tx nb h o p j b w C0 M0 p1 e1 1 v1 b w C1 (sI (sI M1 216 (64 * h + j) 5) 218 (64 * h + j) (nn v1)) := ht5.setM (by omega)
    have r2 : dI (sI (sI M1 216 (64 * h + j) 5) 218 (64 * h + j) (nn v1)) 229 v1 = dI M1 229 v1 := by rw [dI_s, if_neg (by omega), dI_s, if_neg (by omega)]
    have r1 : dI (sI M1 216 (64 * h + j) 5) 229 v1 = dI M1 229 v1 := by rw [dI_s, if_neg (by omega)]
    have k38' : dI (sI (sI M1 216 (64 * h + j) 5) 218 (64 * h + j) (nn v1)) 207 38 = nn v1 := by rw [dI_s, if_neg (by omega)]; exact k38
    obtain ⟨p2, e2, t2, v2, C2, M2, Mr, b1, b2, b3, b4, b5, b6, b7, b8, b9, b10, b11⟩ := zs_varI (S := S0) hN ht6.1 (by rw [r2]; exact hv)
    have ht7 : Zt nu len P tx nb h o p j b w C0 M0 p2 e2 t2 v2 b w (sI C2 (nb + j) 2 (nn v1)) M2 := (ht6.go b7 (b8.mono (fun a k q => by unfold QlC at q; omega)) (b9.mono (fun a k q => by unfold QlM at q; omega)) b10 (by omega)).setC g3 (by omega)
    have st2 : f_X12_statement N M = f_X12_moving_b100 N (nn (64 * h + j)) M2 := by
      rw [st, stm]
      unfold f_X12_moving_b17 f_X12_moving_b83
      have le2 : dI M1 229 v1 ≤ 2 := by rcases hv with q | q | q <;> rw [q] <;> decide
      simp only [nm, i128', if_false, if_true, k37, if_pos (show nn (zl_mt 1) = 110 from rfl), k38, nv, i26', r1, if_pos le2, k38', r2]
      by_cases z : dI M1 229 v1 = 0
      · rw [if_pos z]
        have := b2 (r2.trans z)
        rw [← this, b4, bS]
      · rw [if_neg z]
        have := b3 (fun q => z (r2.symm.trans q))
        rw [← this, b4, bS]
    have cls : f_X5_readIn N nu S C = (sb2 (f_X5_take nu 58 S0 (sI C2 (nb + j) 2 (nn v1))) (fun p12 S14 D14 => sb2 (f_X5_takeLabel nu S14 D14) (fun p15 S17 D17 => if kd S17.2.1 (nb + j) = 7 then (sb2 (f_X5_take nu 59 S17 (sI D17 (nb + j) 3 p15)) (fun p19 S21 D21 => some (.inr (some (nb + j)), S21, D21))) else none))) := by
      rw [cls0, b1, sb2_r]
      show (if kd S0.2.1 (nb + j) = 7 then _ else _) = _
      rw [if_pos hkd]
    have x2 : dI (sI C2 (nb + j) 2 (nn v1)) (nb + j) 2 = nn v1 := by rw [dI_s, if_pos ⟨rfl, rfl⟩]
    have x0 : ∀ k, k ≠ 2 → dI (sI C2 (nb + j) 2 (nn v1)) (nb + j) k = dI C0 (nb + j) k := fun k hk => by rw [dI_s, if_neg (by omega), b8.i (by unfold QlC; omega), l6.i (by unfold QlC; omega)]
    have v218 : dI M2 218 (64 * h + j) = nn v1 := by rw [b9.i (by unfold QlM; omega), dI_s, if_pos ⟨rfl, rfl⟩]
    have v216 : dI M2 216 (64 * h + j) = 5 := by rw [b9.i (by unfold QlM; omega), dI_s, if_neg (by omega), dI_s, if_pos ⟨rfl, rfl⟩]
    rw [cls]
    rcases zt_label (S := S0) hN hSb hh g2 g3 hkd ht7 with ⟨S', C', M', q, f1, f2, f3, f4, f5, f6⟩ | ⟨C', M', p', e', t', v', l, f1, f2, f3, f4, f5, f6, f9, f10⟩
    · left
      exact hz.bad f1 f2 f4.1 f4.2.1 f4.2.2 f5 f6 (fun f => by show (f_X12_statement N M).bind f = _; rw [st2, f3, bS])
    · right
      obtain ⟨w1, w2, w3, w4, w5, w6⟩ := id f3
      refine zs_done (b' := b) (w' := w) hp hS0 c0 m0 ⟨?_, y2, y6, y7, y8⟩ ⟨z1, z2, z6, z7, z8⟩ w2 w3 f1 w1 w5.1 w5.2 (by omega) (by omega) w4 (fun f => by show (f_X12_statement N M).bind f = _; rw [st2, f2, bS]) ?_ (fun q => ?_)
      · rw [f9.i (by unfold QlC; omega), x0 0 (by omega)]
      · right; right; left
        refine ⟨by rw [f9.i (by unfold QlC; omega), x0 0 (by omega)]; exact y1, by rw [f10.i (by unfold QlM; omega)]; exact v216, ⟨v1, hv26, by rw [f9.i (by unfold QlC; omega)]; exact x2, by rw [f10.i (by unfold QlM; omega)]; exact v218, ?_⟩, ⟨l, f4.2, f5, f6⟩, b, by omega, by rw [f9.i (by unfold QlC; omega), x0 4 (by omega)]; exact y3, by rw [f9.i (by unfold QlC; omega), x0 5 (by omega)]; exact y4⟩
        rw [f10.i (by unfold QlM; omega)]; exact b11
      · rw [f9.i (by unfold QlC; omega), x0 0 (by omega), y1] at q
        exact absurd q (by decide)
  · left
    have nC : f_X5_takeName nu 1 S0 C1 = some (.inl 4, Sx S0, C1) := zs_nonameC ht.1 hSb (fun q w => hv ⟨q, w⟩)
    have b40 : dI (sI (sI M1 216 (64 * h + j) 5) 207 40 (nn p1)) 207 40 = nn p1 := by rw [dI_s, if_pos ⟨rfl, rfl⟩]
    refine hz.bad (q := p1) (S' := Sx S0) (C' := C1) (M' := sI (sI M1 216 (64 * h + j) 5) 207 40 (nn p1)) (by rw [cls0, nC, sb2_l]) rfl ht.1.2.1.1 b40 ⟨ht.2.2.2.2.2.1, ht.2.2.2.2.2.2.1⟩ ht.2.1 (Ch.sI (by unfold ZM; omega) ht5.2.2.1) (fun f => ?_)
    show (f_X12_statement N M).bind f = _
    have bad : f_X12_moving_b46 N (sI M1 216 (64 * h + j) 5) = some (sI (sI M1 216 (64 * h + j) 5) 207 40 (nn p1)) := by
      unfold f_X12_moving_b46
      rw [zx_wrong ht5.1.1.2.2.1 ht5.1.2.2.1.1, bS]
    rw [st, stm]
    unfold f_X12_moving_b17
    simp only [nm, i128', if_false, if_true, k37]
    by_cases h1 : t1 = 1
    · subst h1
      have hv26 : v1 < 26 := (ht.1.2.2.2.2.2.2.1 rfl).1
      have nv : (nn v1).toNatClampNeg = v1 := nn_nat (by omega)
      have i26' : ¬ (nn v1 < 0 ∨ 26 ≤ v1) := by have := nn_in (k := v1) (n := 26) (by omega) hv26; rw [nv] at this; exact this
      have k38 : dI (sI M1 216 (64 * h + j) 5) 207 38 = nn v1 := ht5.1.2.2.1.2.2.2 (Or.inl rfl)
      have r1 : dI (sI M1 216 (64 * h + j) 5) 229 v1 = dI M1 229 v1 := by rw [dI_s, if_neg (by omega)]
      have gt2 : ¬ dI M1 229 v1 ≤ 2 := by
        rcases zs_roles ht.1.1.2.2.2.2.2.2 hv26 with q | q | q | q | q
        · exact absurd ⟨rfl, Or.inl q.2.1⟩ hv
        · rcases q.2 with g | g
          · exact absurd ⟨rfl, Or.inr (Or.inl g)⟩ hv
          · exact absurd ⟨rfl, Or.inr (Or.inr g)⟩ hv
        · rw [q.2]; decide
        · rw [q.2]; decide
        · rw [q.2]; decide
      simp only [if_pos (show nn (zl_mt 1) = 110 from rfl), k38, nv, i26', if_false, r1, if_neg gt2, bad, bS]
    · rw [if_neg (show ¬ nn (zl_mt t1) = 110 from fun q => ?_), bad, bS]
      have q := (nn_eq (b := 110) (by have := zx_mt_lt tk; omega) (by omega)).mp q
      rcases ht.1.2.2.2.2.2.2.2.2.1 with a | a
      · unfold zl_mt at q
        repeat' split at q
        all_goals omega
      · have := zl_Si.mp a
        rw [zx_mt (by omega)] at q
        omega
/-- "out" E ":" LABEL ";" -/
theorem zs_out {N nu len P : Nat} {tx : Nat → Nat} {nb h o p e j b w E jE sa si la li : Nat} {K0 W : Nat → Nat} {x1 : Int32} (hN : 1000 ≤ N) {S : Sr} {C M : Dat} (hp : SPre nu len P tx nb h o p e 4 8 j b w E jE sa si la li K0 W S C M) : SBad N P nb h o p j b (260 * h + b + w) la li K0 x1 C M (f_X5_readOut N nu S C) (fun f => (f_X12_statement N M).bind f) ∨ SGood N nu len P tx nb h o p j b (260 * h + b + w) la li E jE K0 W x1 C M (f_X5_readOut N nu S C) (fun f => (f_X12_statement N M).bind f) := by
  obtain ⟨S0, C0, M0, p1, e1, t1, v1, C1, M1, a1, a2, a3, a4, a5, hz, ht, hpe, l6, l7, ⟨y1, y2, y3, y4, y5, y6, y7, y8⟩, ⟨z1, z2, z3, z4, z5, z6, z7, z8⟩⟩ := zs_kw hN 14 hp
  obtain ⟨c0, m0, hS0, hkd, ⟨g1, g2, g3, hPP, hh, ho, hbw⟩, hla⟩ := id hz
  have hSb := hS0.sb (by omega)
  have i128 : ¬ (nn (64 * h + j) < 0 ∨ 128 ≤ (nn (64 * h + j)).toNatClampNeg) := nn_in (k := 64 * h + j) (n := 128) (by omega) (by omega)
  have nm : (nn (64 * h + j)).toNatClampNeg = 64 * h + j := nn_nat (by omega)
  have i128' : ¬ (nn (64 * h + j) < 0 ∨ 128 ≤ 64 * h + j) := by have := i128; rw [nm] at this; exact this
  have ht5 : Zt nu len P tx nb h o p j b w C0 M0 p1 e1 t1 v1 b w C1 (sI M1 216 (64 * h + j) 6) := ht.setM (by omega)
  have st : f_X12_statement N M = (f_X12_expression N (sI M1 216 (64 * h + j) 6)).bind (fun p14 => f_X12_moving_b100 N (nn (64 * h + j)) (sI p14.2 220 (64 * h + j) p14.1)) := by
    rw [a5]
    unfold f_X12_statement_b41 f_X12_statement_b192
    rw [if_neg (show ¬ nn 8 < 4 by decide), if_neg (show ¬ nn 8 = 5 by decide), a2, bS, a4, bS, if_neg (show ¬ nn 8 = 4 by decide), if_neg (show ¬ nn 8 = 6 by decide), if_neg (show ¬ nn 8 = 9 by decide), bI]
    unfold f_X12_moving f_X12_moving_b17
    rw [if_neg (show ¬ nn 8 = 7 by decide), if_neg i128, if_neg (show ¬ nn 8 = 7 by decide)]
    simp only [nm, i128', if_false]
  rcases zt_expr hN hSb hh ht5 (by omega) with ⟨S', C', M', q, f1, f2, f3, f4, f5, f6⟩ | ⟨C3, M3, p3, e3, t3, v3, n, f1, f2, f3, f4, f5, f6, f7, f8, f9⟩
  · left
    -- the model still looks for ':' and a label
    have b40 : ∀ y, dI (sI M' 220 (64 * h + j) y) 207 40 = nn q := fun y => by rw [dI_s, if_neg (by omega)]; exact f4.2.1
    have b40' : ∀ y z, dI (sI (sI M' 220 (64 * h + j) y) 219 (64 * h + j) z) 207 40 = nn q := fun y z => by rw [dI_s, if_neg (by omega)]; exact b40 y
    refine hz.bad (q := q) (S' := S') (C' := C') (M' := sI (sI M' 220 (64 * h + j) (nn (260 * h + b + w))) 219 (64 * h + j) 0) ?_ f2 f4.1 (b40' _ _) f4.2.2 f5 (Ch.sI (by unfold ZM; omega) (Ch.sI (by unfold ZM; omega) f6)) (fun f => ?_)
    · unfold f_X5_readOut
      rw [a1, sb2_r, a3, bS, f1, sb2_l]
    · show (f_X12_statement N M).bind f = _
      rw [st, f3, bS]
      unfold f_X12_moving_b100
      rw [zs_expB (q := q) (by omega) (b40 _), bS, zs_labB (q := q) (by omega) (b40 _), bS, if_neg i128, nm, zs_expB (q := q) (by omega) (b40' _ _), bS, bS]
  · have hz3 : Zt nu len P tx nb h o p j b w C0 M0 p3 e3 t3 v3 (b + n) (w + 1) (sI C3 (nb + j) 5 (nn (b + n))) (sI M3 220 (64 * h + j) (nn (260 * h + b + w))) := (f3.setC g3 (by omega)).setM (by omega)
    have cls : f_X5_readOut N nu S C = (sb2 (f_X5_take nu 58 S0 (sI C3 (nb + j) 5 (nn (b + n)))) (fun p12 S14 D14 => sb2 (f_X5_takeLabel nu S14 D14) (fun p15 S17 D17 => if kd S17.2.1 (nb + j) = 7 then (sb2 (f_X5_take nu 59 S17 (sI D17 (nb + j) 3 p15)) (fun p19 S21 D21 => some (.inr (some (nb + j)), S21, D21))) else none))) := by
      unfold f_X5_readOut
      rw [a1, sb2_r, a3, bS, f1, sb2_r]
      show (if kd S0.2.1 (nb + j) = 7 then _ else _) = _
      rw [if_pos hkd]
    have st2 : f_X12_statement N M = f_X12_moving_b100 N (nn (64 * h + j)) (sI M3 220 (64 * h + j) (nn (260 * h + b + w))) := by
      rw [st, f2, bS]
    have x5 : dI (sI C3 (nb + j) 5 (nn (b + n))) (nb + j) 5 = nn (b + n) := by rw [dI_s, if_pos ⟨rfl, rfl⟩]
    have x0 : ∀ k, k ≠ 5 → dI (sI C3 (nb + j) 5 (nn (b + n))) (nb + j) k = dI C0 (nb + j) k := fun k hk => by rw [dI_s, if_neg (by omega), f7.i (by unfold XC Ec; omega), l6.i (by unfold QlC; omega)]
    have v220 : dI (sI M3 220 (64 * h + j) (nn (260 * h + b + w))) 220 (64 * h + j) = nn (260 * h + b + w) := by rw [dI_s, if_pos ⟨rfl, rfl⟩]
    have v216 : dI (sI M3 220 (64 * h + j) (nn (260 * h + b + w))) 216 (64 * h + j) = 6 := by rw [dI_s, if_neg (by omega), f8.i (by unfold XM; omega), dI_s, if_pos ⟨rfl, rfl⟩]
    have hx : Ex P (sI C3 (nb + j) 5 (nn (b + n))) (sI M3 220 (64 * h + j) (nn (260 * h + b + w))) b n (260 * h + b + w) := f5.kept (fun i _ _ => ⟨by rw [dI_s, if_neg (by omega)], by rw [dI_s, if_neg (by omega)]⟩) (fun k _ _ => ⟨by rw [dI_s, if_neg (by omega)], by rw [dI_s, if_neg (by omega)]⟩) (fun x _ hx => by rw [dI_s, if_neg (by omega)]; exact hx)
    have hg : Hg 1 o P (sI C3 (nb + j) 5 (nn (b + n))) b (b + n) := f6.eq (by omega) (fun i _ => by rw [dI_s, if_neg (by omega)])
    generalize sI C3 (nb + j) 5 (nn (b + n)) = C3' at *
    generalize sI M3 220 (64 * h + j) (nn (260 * h + b + w)) = M3' at *
    rw [cls]
    rcases zt_label (S := S0) hN hSb hh g2 g3 hkd hz3 with ⟨S', C', M', q, k1, k2, k3, k4, k5, k6⟩ | ⟨C', M', p', e', t', v', l, k1, k2, k3, k4, k5, k6, k9, k10⟩
    · left
      exact hz.bad k1 k2 k4.1 k4.2.1 k4.2.2 k5 k6 (fun f => by show (f_X12_statement N M).bind f = _; rw [st2, k3, bS])
    · right
      obtain ⟨w1, w2, w3, w4, w5, w6⟩ := id k3
      refine zs_done (b' := b + n) (w' := w + 1) hp hS0 c0 m0 ⟨?_, y2, y6, y7, y8⟩ ⟨z1, z2, z6, z7, z8⟩ w2 w3 k1 w1 w5.1 w5.2 (by omega) (by omega) w4 (fun f => by show (f_X12_statement N M).bind f = _; rw [st2, k2, bS]) ?_ (fun q => ?_)
      · rw [k9.i (by unfold QlC; omega), x0 0 (by omega)]
      · right; right; right; left
        refine ⟨by rw [k9.i (by unfold QlC; omega), x0 0 (by omega)]; exact y1, by rw [k10.i (by unfold QlM; omega)]; exact v216, ⟨l, k4.2, k5, k6⟩, 260 * h + b + w, by rw [k10.i (by unfold QlM; omega)]; exact v220, FsE.mk (fr := b) (n := n) (by rw [k9.i (by unfold QlC; omega), x0 4 (by omega)]; exact y3) (by rw [k9.i (by unfold QlC; omega)]; exact x5) (by omega) (by omega) ?_ ?_⟩
        · exact hx.kept (fun i _ _ => ⟨k9.i (by unfold QlC; omega), k9.i (by unfold QlC; omega)⟩) (fun k _ _ => ⟨k10.i (by unfold QlM; omega), k10.i (by unfold QlM; omega)⟩) (fun x _ hx => by rw [k10.i (by unfold QlM; omega)]; exact hx)
        · exact (hg.eq (by omega) (fun i _ => k9.i (by unfold QlC; omega))).zero
      · rw [k9.i (by unfold QlC; omega), x0 0 (by omega), y1] at q
        exact absurd q (by decide)
/-- "do" PROC ";" -/
theorem zs_do {N nu len P : Nat} {tx : Nat → Nat} {nb h o p e j b w E jE sa si la li : Nat} {K0 W : Nat → Nat} {x1 : Int32} (hN : 1000 ≤ N) {S : Sr} {C M : Dat} (hp : SPre nu len P tx nb h o p e 4 9 j b w E jE sa si la li K0 W S C M) : SBad N P nb h o p j b (260 * h + b + w) la li K0 x1 C M (f_X5_readDo N nu S C) (fun f => (f_X12_statement N M).bind f) ∨ SGood N nu len P tx nb h o p j b (260 * h + b + w) la li E jE K0 W x1 C M (f_X5_readDo N nu S C) (fun f => (f_X12_statement N M).bind f) := by
  obtain ⟨S0, C0, M0, p1, e1, t1, v1, C1, M1, a1, a2, a3, a4, a5, hz, ht, hpe, l6, l7, ⟨y1, y2, y3, y4, y5, y6, y7, y8⟩, ⟨z1, z2, z3, z4, z5, z6, z7, z8⟩⟩ := zs_kw hN 18 hp
  obtain ⟨c0, m0, hS0, hkd, ⟨g1, g2, g3, hPP, hh, ho, hbw⟩, hla⟩ := id hz
  have hWp := hp.2.2.2.2
  have hlen := zs_kwlen (j := 7) hp.1.1.2.2.2 (by decide) rfl
  have hl5 : zl_sl 7 = 2 := by decide
  have hSb := hS0.sb (by omega)
  have i128 : ¬ (nn (64 * h + j) < 0 ∨ 128 ≤ (nn (64 * h + j)).toNatClampNeg) := nn_in (k := 64 * h + j) (n := 128) (by omega) (by omega)
  have nm : (nn (64 * h + j)).toNatClampNeg = 64 * h + j := nn_nat (by omega)
  have i128' : ¬ (nn (64 * h + j) < 0 ∨ 128 ≤ 64 * h + j) := by have := i128; rw [nm] at this; exact this
  have ht5 : ∀ y, Zt nu len P tx nb h o p j b w C0 M0 p1 e1 t1 v1 b w C1 (sI (sI M1 216 (64 * h + j) 7) 218 (64 * h + j) y) := fun y => (ht.setM (by omega)).setM (by omega)
  have k37 : ∀ y, dI (sI (sI M1 216 (64 * h + j) 7) 218 (64 * h + j) y) 207 37 = nn (zl_mt t1) := fun y => (ht5 y).1.2.2.1.2.2.1
  have d38 : dI (sI M1 216 (64 * h + j) 7) 207 38 = dI M1 207 38 := by rw [dI_s, if_neg (by omega)]
  have d38' : ∀ y, dI (sI (sI M1 216 (64 * h + j) 7) 218 (64 * h + j) y) 207 38 = dI M1 207 38 := fun y => by rw [dI_s, if_neg (by omega)]; exact d38
  have d229 : ∀ y k, dI (sI (sI M1 216 (64 * h + j) 7) 218 (64 * h + j) y) 229 k = dI M1 229 k := fun y k => by rw [dI_s, if_neg (by omega), dI_s, if_neg (by omega)]
  have st : f_X12_statement N M = (if nn (zl_mt t1) = 110 then (if dI M1 207 38 < 0 ∨ 26 ≤ (dI M1 207 38).toNatClampNeg then none else (if dI M1 229 (dI M1 207 38).toNatClampNeg = 5 then ((f_X12_next N (sI (sI M1 216 (64 * h + j) 7) 218 (64 * h + j) (dI M1 207 38))).bind (fun p31 => f_X12_statement_b177 N p31)) else f_X12_statement_b166 N (sI (sI M1 216 (64 * h + j) 7) 218 (64 * h + j) (dI M1 207 38)))) else f_X12_statement_b166 N (sI (sI M1 216 (64 * h + j) 7) 218 (64 * h + j) (dI M1 207 38))) := by
    rw [a5]
    unfold f_X12_statement_b41
    rw [if_neg (show ¬ nn 9 < 4 by decide), if_neg (show ¬ nn 9 = 5 by decide), a2, bS, a4, bS, if_neg (show ¬ nn 9 = 4 by decide), if_neg (show ¬ nn 9 = 6 by decide), if_pos (show nn 9 = 9 from rfl)]
    simp only [nm, i128', if_false, d38, d38', k37, d229]
  have cls0 : f_X5_readDo N nu S C = sb2 (f_X5_takeName nu 4 S0 C1) (fun p6 S8 D8 => (some (nb + j)).bind (fun a9 => if kd S8.2.1 a9 = 7 then (sb2 (f_X5_take nu 59 S8 (sI D8 a9 2 p6)) (fun p12 S14 D14 => some (.inr (some a9), S14, D14))) else none)) := by
    unfold f_X5_readDo
    rw [a1, sb2_r, a3, bS]
  have tk := zx_tok_lt ht.1.2.2.2
  rcases zs_kindC (r := 4) hN (ht5 (dI M1 207 38)).1 hSb (Or.inr rfl) with ⟨rfl, hr, p2, e2, t2, v2, C2, M2, b1, b2, b3, b4, b5, b6, b7⟩ | ⟨hr, b1⟩
  · have hv26 : v1 < 26 := (ht.1.2.2.2.2.2.2.1 rfl).1
    have k38 : dI M1 207 38 = nn v1 := ht.1.2.2.1.2.2.2 (Or.inl rfl)
    have i26 : ¬ (nn v1 < 0 ∨ 26 ≤ (nn v1).toNatClampNeg) := nn_in (k := v1) (n := 26) (by omega) hv26
    have nv : (nn v1).toNatClampNeg = v1 := nn_nat (by omega)
    have b1' : f_X5_takeName nu 4 S0 C1 = some (.inr (nn v1), S0, C2) := b1
    rw [d229] at hr
    have ht7 : Zt nu len P tx nb h o p j b w C0 M0 p2 e2 t2 v2 b w (sI C2 (nb + j) 2 (nn v1)) M2 := ((ht5 _).go b5 (b6.mono (fun a k q => by unfold QlC at q; omega)) (b7.mono (fun a k q => by unfold QlM at q; omega)) (RP.rf (fun x => b7.i (by unfold QlM; omega))) (by omega)).setC g3 (by omega)
    have st2 : f_X12_statement N M = (f_X12_expect N 59 M2).bind (fun p1 => some p1) := by
      rw [st, if_pos (show nn (zl_mt 1) = 110 from rfl), k38, if_neg i26, nv, if_pos (show dI M1 229 v1 = 5 from hr)]
      rw [k38] at b2
      rw [b2, bS]
      rfl
    have cls : f_X5_readDo N nu S C = sb2 (f_X5_take nu 59 S0 (sI C2 (nb + j) 2 (nn v1))) (fun p12 S14 D14 => some (.inr (some (nb + j)), S14, D14)) := by
      rw [cls0, b1', sb2_r]
      show (if kd S0.2.1 (nb + j) = 7 then _ else _) = _
      rw [if_pos hkd]
    have x2 : dI (sI C2 (nb + j) 2 (nn v1)) (nb + j) 2 = nn v1 := by rw [dI_s, if_pos ⟨rfl, rfl⟩]
    have x0 : ∀ k, k ≠ 2 → dI (sI C2 (nb + j) 2 (nn v1)) (nb + j) k = dI C0 (nb + j) k := fun k hk => by rw [dI_s, if_neg (by omega), b6.i (by unfold QlC; omega), l6.i (by unfold QlC; omega)]
    have v218 : dI M2 218 (64 * h + j) = nn v1 := by rw [b7.i (by unfold QlM; omega), dI_s, if_pos ⟨rfl, rfl⟩]; exact k38
    have v216 : dI M2 216 (64 * h + j) = 7 := by rw [b7.i (by unfold QlM; omega), dI_s, if_neg (by omega), dI_s, if_pos ⟨rfl, rfl⟩]
    rw [cls]
    rcases zt_take (c := 59) hN hSb ht7 rfl with ⟨p4, e4, t4, v4, C4, M4, k1, k2, k3, k4, k5, k6⟩ | ⟨k1, k2⟩
    · right
      have k1' : f_X5_take nu 59 S0 (sI C2 (nb + j) 2 (nn v1)) = some (.inr (), S0, C4) := k1
      have k2' : f_X12_expect N 59 M2 = some M4 := k2
      obtain ⟨w1, w2, w3, w4, w5, w6⟩ := id k3
      have r5 : dI M4 229 v1 = 5 := by rw [k6.i (by unfold QlM; omega), b7.i (by unfold QlM; omega), d229]; exact hr
      refine zs_done (b' := b) (w' := w) hp hS0 c0 m0 ⟨?_, y2, y6, y7, y8⟩ ⟨z1, z2, z6, z7, z8⟩ w2 w3 (by rw [k1', sb2_r]) w1 w5.1 w5.2 (by omega) (by omega) w4 (fun f => by show (f_X12_statement N M).bind f = _; rw [st2, k2', bS, bS]) ?_ (fun q x hx q2 i' q3 => ?_)
      · rw [k5.i (by unfold QlC; omega), x0 0 (by omega)]
      · right; right; right; right; right; right
        exact ⟨by rw [k5.i (by unfold QlC; omega), x0 0 (by omega)]; exact y1, by rw [k6.i (by unfold QlM; omega)]; exact v216, v1, hv26, by rw [k5.i (by unfold QlC; omega)]; exact x2, by rw [k6.i (by unfold QlM; omega)]; exact v218, r5⟩
      · have e1 : nn v1 = nn x := by rw [← q2, k5.i (by unfold QlC; omega)]; exact x2.symm
        have e2 : x = v1 := ((nn_eq (by omega) (by omega)).mp e1).symm
        subst e2
        have rM : dI M 229 x = 5 := by
          have q := m0.i (a := 229) (k := x) (by unfold Ma; omega)
          rw [← q, ← l7.i (a := 229) (k := x) (by unfold QlM; omega)]; exact hr
        have rC : dR C4 (P + 1) x = dR C (P + 1) x := by rw [w2.r (by unfold ZC Ec; omega), c0.r (by omega)]
        rw [rC] at q3
        exact hWp x hx rM i' q3
    · left
      have k1' : f_X5_take nu 59 S0 (sI C2 (nb + j) 2 (nn v1)) = some (.inl 4, Sx S0, sI C2 (nb + j) 2 (nn v1)) := k1
      have k2' : f_X12_expect N 59 M2 = some (sI M2 207 40 (nn p2)) := k2
      exact hz.bad (q := p2) (S' := Sx S0) (by rw [k1', sb2_l]) rfl ht7.1.2.1.1 (by rw [dI_s, if_pos ⟨rfl, rfl⟩]) ⟨ht7.2.2.2.2.2.1, ht7.2.2.2.2.2.2.1⟩ ht7.2.1 (Ch.sI (by unfold ZM; omega) ht7.2.2.1) (fun f => by show (f_X12_statement N M).bind f = _; rw [st2, k2', bS, bS])
  · left
    have b1' : f_X5_takeName nu 4 S0 C1 = some (.inl 4, Sx S0, C1) := b1
    have z5 := (ht5 (dI M1 207 38))
    have b40 : dI (sI (sI (sI M1 216 (64 * h + j) 7) 218 (64 * h + j) (dI M1 207 38)) 207 40 (nn p1)) 207 40 = nn p1 := by rw [dI_s, if_pos ⟨rfl, rfl⟩]
    have bad : f_X12_statement_b166 N (sI (sI M1 216 (64 * h + j) 7) 218 (64 * h + j) (dI M1 207 38)) = some (sI (sI (sI M1 216 (64 * h + j) 7) 218 (64 * h + j) (dI M1 207 38)) 207 40 (nn p1)) := by
      unfold f_X12_statement_b166 f_X12_statement_b177 f_X12_statement_b192
      rw [zx_wrong z5.1.1.2.2.1 z5.1.2.2.1.1, bS, zs_expB (q := p1) (by have := z5.2.2.2.2.2.2.1; omega) b40, bS]
    refine hz.bad (q := p1) (S' := Sx S0) (C' := C1) (by rw [cls0, b1', sb2_l]) rfl ht.1.2.1.1 b40 ⟨ht.2.2.2.2.2.1, ht.2.2.2.2.2.2.1⟩ ht.2.1 (Ch.sI (by unfold ZM; omega) z5.2.2.1) (fun f => ?_)
    show (f_X12_statement N M).bind f = _
    rw [st]
    by_cases h1 : t1 = 1
    · subst h1
      have hv26 : v1 < 26 := (ht.1.2.2.2.2.2.2.1 rfl).1
      have k38 : dI M1 207 38 = nn v1 := ht.1.2.2.1.2.2.2 (Or.inl rfl)
      have i26 : ¬ (nn v1 < 0 ∨ 26 ≤ (nn v1).toNatClampNeg) := nn_in (k := v1) (n := 26) (by omega) hv26
      have nv : (nn v1).toNatClampNeg = v1 := nn_nat (by omega)
      rw [if_pos (show nn (zl_mt 1) = 110 from rfl), k38, if_neg i26, nv, if_neg (fun q => hr ⟨rfl, by rw [d229]; exact q⟩)]
      rw [k38] at bad
      rw [bad, bS]
    · rw [if_neg (show ¬ nn (zl_mt t1) = 110 from fun q => ?_), bad, bS]
      have q := (nn_eq (b := 110) (by have := zx_mt_lt tk; omega) (by omega)).mp q
      rcases ht.1.2.2.2.2.2.2.2.2.1 with a | a
      · unfold zl_mt at q
        repeat' split at q
        all_goals omega
      · have := zl_Si.mp a
        rw [zx_mt (by omega)] at q
        omega
