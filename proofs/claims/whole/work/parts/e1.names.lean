/-! names; what a statement comes to -/
theorem zs_roles {nu P v : Nat} {C M : Dat} (h : Ro nu P C M) (hv : v < 26) : (dI C 5 v = 0 ∧ dI M 229 v = 0 ∧ dI C (P + 2) v = -1 ∧ dI C (P + 2) (26 + v) = -1) ∨ (dI C 5 v = 1 ∧ (dI M 229 v = 1 ∨ dI M 229 v = 2)) ∨ (dI C 5 v = 2 ∧ dI M 229 v = 3) ∨ (dI C 5 v = 3 ∧ dI M 229 v = 4) ∨ (dI C 5 v = 4 ∧ dI M 229 v = 5) := by
  have hro := h v hv
  unfold RoX at hro
  rcases hro with h | h | h | h | h | h
  · exact Or.inl ⟨h.1, h.2.1, h.2.2.1, h.2.2.2⟩
  · exact Or.inr (Or.inl ⟨h.1, Or.inl h.2.1⟩)
  · exact Or.inr (Or.inl ⟨h.1, Or.inr h.2.1⟩)
  · exact Or.inr (Or.inr (Or.inl ⟨h.1, h.2.1⟩))
  · exact Or.inr (Or.inr (Or.inr (Or.inl ⟨h.1, h.2.1⟩)))
  · exact Or.inr (Or.inr (Or.inr (Or.inr ⟨h.1, h.2.1⟩)))
/-- both roles become 'variable' -/
theorem zs_rbv {nu len P : Nat} {tx : Nat → Nat} {o e v : Nat} {C M : Dat} (h : Rb nu len P tx o e C M) (hv : v < 26) (w1 : dI C 5 v = 0 ∧ dI M 229 v = 0 ∧ dI C (P + 2) v = -1 ∧ dI C (P + 2) (26 + v) = -1) : Rb nu len P tx o e (sI C 5 v 1) (sI M 229 v 1) := by
  obtain ⟨⟨h1, h2⟩, ⟨h3, h4, h5⟩, h6, ⟨h7, h8, h9⟩, ⟨h10, h11⟩, ⟨h12, h13, h14⟩, h15⟩ := h
  have cc1 : Ch (fun a k => a = 5 ∧ k = v) C (sI C 5 v 1) := Ch.sI (by omega) Ch.rf
  have cm1 : Ch (fun a k => a = 229 ∧ k = v) M (sI M 229 v 1) := Ch.sI (by omega) Ch.rf
  refine ⟨⟨h1.kept cc1 (fun a k w => by omega), h2.kept cm1 (fun a k w => by omega)⟩, ⟨h3, h4.kept cc1 (fun a k w => by unfold RTb; omega), by rw [cm1.i (by omega)]; exact h5⟩, by rw [cm1.i (by omega)]; exact h6, ⟨h7, by rw [cc1.i (by omega)]; exact h8, by rw [cm1.i (by omega)]; exact h9⟩, ⟨h10, h11⟩, ⟨h12, by rw [cc1.i (by omega)]; exact h13, by rw [cm1.i (by omega)]; exact h14⟩, fun y hy => ?_⟩
  by_cases ey : y = v
  · subst ey
    right; left
    exact ⟨by rw [dI_s, if_pos ⟨rfl, rfl⟩], by rw [dI_s, if_pos ⟨rfl, rfl⟩], by rw [cc1.i (by omega)]; exact w1.2.2.1, by rw [cc1.i (by omega)]; exact w1.2.2.2⟩
  · rw [cc1.i (by omega), cc1.i (by omega), cc1.i (by omega), cm1.i (by omega), cm1.i (by omega)]
    exact h15 y hy
/-- a variable's name: the model sets its role behind the token -/
theorem zs_varN {N nu len P : Nat} {tx : Nat → Nat} {o p e v : Nat} (hN : 1000 ≤ N) {S : Sr} {C M : Dat} (hR : Rd nu len P tx o p e 1 v C M) (hv : dI M 229 v = 0 ∨ dI M 229 v = 1 ∨ dI M 229 v = 2) : ∃ p' e' t' v' C' M1 Mr, f_X5_takeName nu 1 S C = some (.inr (nn v), S, C') ∧ f_X12_next N M = some M1 ∧ (dI M 229 v = 0 → Mr = sI M1 229 v 1) ∧ (¬ dI M 229 v = 0 → Mr = M1) ∧ p + 1 ≤ p' ∧ p' ≤ 240 ∧ Rd nu len P tx o p' e' t' v' C' Mr ∧ Ch (fun a k => QlC a k ∨ (a = 5 ∧ k = v)) C C' ∧ Ch QlM M M1 ∧ Ch (fun a k => QlM a k ∨ (a = 229 ∧ k = v)) M Mr ∧ RP M Mr ∧ (dI Mr 229 v = 1 ∨ dI Mr 229 v = 2) := by
  obtain ⟨hB, hkC, hkM, hTk⟩ := id hR
  have hv26 : v < 26 := (hTk.2.2.2.1 rfl).1
  have hpe : p < e := hTk.2.1 (by omega)
  have k9 : dI C 3 9 = nn v := by rw [hkC.2.2.2, if_pos (Or.inl rfl)]
  have hPP := hB.2.2.2.2.1.1
  by_cases z : dI M 229 v = 0
  · have w1 : dI C 5 v = 0 ∧ dI M 229 v = 0 ∧ dI C (P + 2) v = -1 ∧ dI C (P + 2) (26 + v) = -1 := by
      rcases zs_roles hB.2.2.2.2.2.2 hv26 with h | h | h | h | h
      · exact h
      · rcases h.2 with q | q <;> exact absurd (z.symm.trans q) (by decide)
      · exact absurd (z.symm.trans h.2) (by decide)
      · exact absurd (z.symm.trans h.2) (by decide)
      · exact absurd (z.symm.trans h.2) (by decide)
    have cr : Ch (fun a k => a = 5 ∧ k = v) C (sI C 5 v 1) := Ch.sI ⟨rfl, rfl⟩ Ch.rf
    have hkC' : TkC p e 1 v (sI C 5 v 1) := hkC.kept cr (fun a k q => by omega)
    obtain ⟨⟨j1, j2⟩, ⟨j3, j4, j5⟩, j6, j7, ⟨j10, j11⟩, ⟨j12, j13, j14⟩, j15⟩ := id hB
    obtain ⟨p1, e1, t1, v1', C1, M1, l1, l2, l3, l4, l6, l7⟩ := zl_lex hN (j1.kept cr (fun a k q => by omega)) j2 j3 (j4.kept cr (fun a k w => by unfold RTb; omega)) j5
    have cC1 : Ch (fun a k => QlC a k ∨ (a = 5 ∧ k = v)) C C1 := (cr.mono (fun a k q => Or.inr q)).tr (l6.mono (fun a k q => Or.inl q))
    have cM2 : Ch (fun a k => QlM a k ∨ (a = 229 ∧ k = v)) M (sI M1 229 v 1) := Ch.sI (Or.inr ⟨rfl, rfl⟩) (l7.mono (fun a k q => Or.inl q))
    have v229 : dI (sI M1 229 v 1) 229 v = 1 := by rw [dI_s, if_pos ⟨rfl, rfl⟩]
    have v5 : dI C1 5 v = 1 := by rw [l6.i (by unfold QlC; omega), dI_s, if_pos ⟨rfl, rfl⟩]
    have c229 : Ch (fun a k => a = 229 ∧ k = v) M1 (sI M1 229 v 1) := Ch.sI ⟨rfl, rfl⟩ Ch.rf
    obtain ⟨⟨i1, i2⟩, ⟨i3, i3'⟩, i4, i5⟩ := l4
    have := j1.1
    have := i5.1
    refine ⟨p1, e1, t1, v1', C1, M1, sI M1 229 v 1, ?_, l2, fun _ => rfl, fun q => absurd z q, by omega, by omega, ?_, cC1, l7, cM2, fun y hy => ?_, Or.inl v229⟩
    · unfold f_X5_takeName f_X5_takeName_b21
      rw [if_pos rfl, zx_role1 hkC hv26, bS, if_pos w1.1, k9, zx_setRole hv26, bS, zx_role1 hkC' hv26, bS, if_pos (by rw [dI_s, if_pos ⟨rfl, rfl⟩]), l1, bS]
      show some (Sum.inr (dI (sI C 5 v 1) 3 9), S, C1) = _
      rw [cr.i (by omega), k9]
    · refine ⟨⟨⟨i1, i2.kept c229 (fun a k q => by omega)⟩, ⟨i5.1.2, i3', by rw [c229.i (by omega)]; exact i4.2.1⟩, by rw [cM2.i (by unfold QlM; omega)]; exact j6, ⟨j7.1, by rw [cC1.i (by unfold QlC; omega)]; exact j7.2.1, by rw [cM2.i (by unfold QlM; omega)]; exact j7.2.2⟩, ⟨j10, by rw [cC1.r (by unfold QlC; omega)]; exact j11⟩, ⟨j12, by rw [cC1.i (by unfold QlC; omega)]; exact j13, by rw [cM2.i (by unfold QlM; omega)]; exact j14⟩, fun y hy => ?_⟩, i3, i4.kept c229 (fun a k q => by omega), i5⟩
      by_cases ey : y = v
      · subst ey
        right; left
        exact ⟨v5, v229, by rw [cC1.i (by unfold QlC; omega)]; exact w1.2.2.1, by rw [cC1.i (by unfold QlC; omega)]; exact w1.2.2.2⟩
      · rw [cC1.i (by unfold QlC; omega), cC1.i (by unfold QlC; omega), cC1.i (by unfold QlC; omega), cM2.i (by unfold QlM; omega), cM2.i (by unfold QlM; omega)]
        exact j15 y hy
    · by_cases ey : y = v
      · subst ey; exact Or.inl ⟨z, v229⟩
      · exact Or.inr (cM2.i (by unfold QlM; omega))
  · have w1 : dI C 5 v = 1 := by
      rcases zs_roles hB.2.2.2.2.2.2 hv26 with h | h | h | h | h
      · exact absurd h.2.1 z
      · exact h.1
      · rcases hv with q | q | q <;> exact absurd (q.symm.trans h.2) (by decide)
      · rcases hv with q | q | q <;> exact absurd (q.symm.trans h.2) (by decide)
      · rcases hv with q | q | q <;> exact absurd (q.symm.trans h.2) (by decide)
    obtain ⟨p1, e1, t1, v1', C1, M1, l1, l2, l3, l4, l5, l6, l7⟩ := zx_adv hN hB
    have e229 : ∀ y, dI M1 229 y = dI M 229 y := fun y => l7.i (by unfold QlM; omega)
    refine ⟨p1, e1, t1, v1', C1, M1, M1, ?_, l2, fun q => absurd q z, fun _ => rfl, by omega, l4, l5, l6.mono (fun a k q => Or.inl q), l7, l7.mono (fun a k q => Or.inl q), RP.rf e229, ?_⟩
    · unfold f_X5_takeName f_X5_takeName_b21
      rw [if_pos rfl, zx_role1 hkC hv26, bS, if_neg (by rw [w1]; show ¬ (1 : Int32) = 0; decide), zx_role1 hkC hv26, bS, if_pos w1, l1, bS, k9]
    · rw [e229]
      rcases hv with q | q | q
      · exact absurd q z
      · exact Or.inl q
      · exact Or.inr q
/-- a variable's name: the model sets its role ahead of the next token -/
theorem zs_varI {N nu len P : Nat} {tx : Nat → Nat} {o p e v : Nat} (hN : 1000 ≤ N) {S : Sr} {C M : Dat} (hR : Rd nu len P tx o p e 1 v C M) (hv : dI M 229 v = 0 ∨ dI M 229 v = 1 ∨ dI M 229 v = 2) : ∃ p' e' t' v' C' M' Mr, f_X5_takeName nu 1 S C = some (.inr (nn v), S, C') ∧ (dI M 229 v = 0 → Mr = sI M 229 v 1) ∧ (¬ dI M 229 v = 0 → Mr = M) ∧ f_X12_next N Mr = some M' ∧ p + 1 ≤ p' ∧ p' ≤ 240 ∧ Rd nu len P tx o p' e' t' v' C' M' ∧ Ch (fun a k => QlC a k ∨ (a = 5 ∧ k = v)) C C' ∧ Ch (fun a k => QlM a k ∨ (a = 229 ∧ k = v)) M M' ∧ RP M M' ∧ (dI M' 229 v = 1 ∨ dI M' 229 v = 2) := by
  obtain ⟨hB, hkC, hkM, hTk⟩ := id hR
  have hv26 : v < 26 := (hTk.2.2.2.1 rfl).1
  have hpe : p < e := hTk.2.1 (by omega)
  have k9 : dI C 3 9 = nn v := by rw [hkC.2.2.2, if_pos (Or.inl rfl)]
  by_cases z : dI M 229 v = 0
  · have w1 : dI C 5 v = 0 ∧ dI M 229 v = 0 ∧ dI C (P + 2) v = -1 ∧ dI C (P + 2) (26 + v) = -1 := by
      rcases zs_roles hB.2.2.2.2.2.2 hv26 with h | h | h | h | h
      · exact h
      · rcases h.2 with q | q <;> exact absurd (z.symm.trans q) (by decide)
      · exact absurd (z.symm.trans h.2) (by decide)
      · exact absurd (z.symm.trans h.2) (by decide)
      · exact absurd (z.symm.trans h.2) (by decide)
    have cr : Ch (fun a k => a = 5 ∧ k = v) C (sI C 5 v 1) := Ch.sI ⟨rfl, rfl⟩ Ch.rf
    have cm : Ch (fun a k => a = 229 ∧ k = v) M (sI M 229 v 1) := Ch.sI ⟨rfl, rfl⟩ Ch.rf
    have hkC' : TkC p e 1 v (sI C 5 v 1) := hkC.kept cr (fun a k q => by omega)
    obtain ⟨p1, e1, t1, v1', C1, M1, l1, l2, l3, l4, l5, l6, l7⟩ := zx_adv hN (zs_rbv hB hv26 w1)
    have v1 : dI M1 229 v = 1 := by rw [l7.i (by unfold QlM; omega), dI_s, if_pos ⟨rfl, rfl⟩]
    refine ⟨p1, e1, t1, v1', C1, M1, sI M 229 v 1, ?_, fun _ => rfl, fun q => absurd z q, l2, by omega, l4, l5, (cr.mono (fun a k q => Or.inr q)).tr (l6.mono (fun a k q => Or.inl q)), (cm.mono (fun a k q => Or.inr q)).tr (l7.mono (fun a k q => Or.inl q)), fun y hy => ?_, Or.inl v1⟩
    · unfold f_X5_takeName f_X5_takeName_b21
      rw [if_pos rfl, zx_role1 hkC hv26, bS, if_pos w1.1, k9, zx_setRole hv26, bS, zx_role1 hkC' hv26, bS, if_pos (by rw [dI_s, if_pos ⟨rfl, rfl⟩]), l1, bS]
      show some (Sum.inr (dI (sI C 5 v 1) 3 9), S, C1) = _
      rw [cr.i (by omega), k9]
    · by_cases ey : y = v
      · subst ey; exact Or.inl ⟨z, v1⟩
      · right
        rw [l7.i (by unfold QlM; omega), cm.i (by omega)]
  · obtain ⟨p1, e1, t1, v1', C1, M1, Mr, a1, a2, a3, a4, a5, a6, a7, a8, a9, a10, a11, a12⟩ := zs_varN (S := S) hN hR hv
    obtain rfl := a4 z
    exact ⟨p1, e1, t1, v1', C1, Mr, M, a1, fun q => absurd q z, fun _ => rfl, a2, a5, a6, a7, a8, a10, a11, a12⟩
/-- a name that is none here: the class refuses -/
theorem zs_nonameC {nu len P : Nat} {tx : Nat → Nat} {o p e t v : Nat} {S : Sr} {C M : Dat} (hR : Rd nu len P tx o p e t v C M) (hS : Sb S) (h : t = 1 → ¬ (dI M 229 v = 0 ∨ dI M 229 v = 1 ∨ dI M 229 v = 2)) : f_X5_takeName nu 1 S C = some (.inl 4, Sx S, C) := by
  obtain ⟨hB, hkC, hkM, hTk⟩ := id hR
  unfold f_X5_takeName f_X5_takeName_b21
  rw [if_pos rfl]
  have ht := zx_tok_lt hTk
  by_cases h1 : t = 1
  · subst h1
    have hv26 : v < 26 := (hTk.2.2.2.1 rfl).1
    have hh := h rfl
    have c0 : ¬ dI C 5 v = 0 ∧ ¬ dI C 5 v = 1 := by
      rcases zs_roles hB.2.2.2.2.2.2 hv26 with h | h | h | h | h
      · exact absurd (Or.inl h.2.1) hh
      · rcases h.2 with q | q
        · exact absurd (Or.inr (Or.inl q)) hh
        · exact absurd (Or.inr (Or.inr q)) hh
      · rw [h.1]; decide
      · rw [h.1]; decide
      · rw [h.1]; decide
    rw [zx_role1 hkC hv26, bS, if_neg c0.1, zx_role1 hkC hv26, bS, if_neg c0.2, if_pos (show 1 ≤ S.2.2.1 ∧ 6 ≤ S.2.2.2 from hS)]
    rfl
  · rw [zx_role0 hkC ht h1, bS, if_neg (show ¬ (-1 : Int32) = 0 by decide), zx_role0 hkC ht h1, bS, if_neg (show ¬ (-1 : Int32) = 1 by decide), if_pos (show 1 ≤ S.2.2.1 ∧ 6 ≤ S.2.2.2 from hS)]
    rfl
/-- a name of another kind (2 row, 4 proc) -/
theorem zs_kindC {N nu len P : Nat} {tx : Nat → Nat} {o p e t v r : Nat} (hN : 1000 ≤ N) {S : Sr} {C M : Dat} (hR : Rd nu len P tx o p e t v C M) (hS : Sb S) (hr : r = 2 ∨ r = 4) : (t = 1 ∧ dI M 229 v = nn (r + 1) ∧ ∃ p' e' t' v' C' M', f_X5_takeName nu (nn r) S C = some (.inr (nn v), S, C') ∧ f_X12_next N M = some M' ∧ p + 1 ≤ p' ∧ p' ≤ 240 ∧ Rd nu len P tx o p' e' t' v' C' M' ∧ Ch QlC C C' ∧ Ch QlM M M') ∨ (¬ (t = 1 ∧ dI M 229 v = nn (r + 1)) ∧ f_X5_takeName nu (nn r) S C = some (.inl 4, Sx S, C)) := by
  obtain ⟨hB, hkC, hkM, hTk⟩ := id hR
  have ht := zx_tok_lt hTk
  have r1 : ¬ nn r = 1 := by rcases hr with h | h <;> rw [h] <;> decide
  unfold f_X5_takeName f_X5_takeName_b21
  rw [if_neg r1]
  by_cases h1 : t = 1
  · subst h1
    have hv26 : v < 26 := (hTk.2.2.2.1 rfl).1
    have hpe : p < e := hTk.2.1 (by omega)
    have k9 : dI C 3 9 = nn v := by rw [hkC.2.2.2, if_pos (Or.inl rfl)]
    rw [zx_role1 hkC hv26, bS]
    have iff : dI C 5 v = nn r ↔ dI M 229 v = nn (r + 1) := by
      rcases zs_roles hB.2.2.2.2.2.2 hv26 with h | h | h | h | h
      · rw [h.1, h.2.1]; rcases hr with q | q <;> rw [q] <;> decide
      · rw [h.1]; rcases h.2 with g | g <;> rw [g] <;> (rcases hr with q | q <;> rw [q] <;> decide)
      · rw [h.1, h.2]; rcases hr with q | q <;> rw [q] <;> decide
      · rw [h.1, h.2]; rcases hr with q | q <;> rw [q] <;> decide
      · rw [h.1, h.2]; rcases hr with q | q <;> rw [q] <;> decide
    by_cases q : dI M 229 v = nn (r + 1)
    · left
      rw [if_pos (show (dI C 5 v, C).1 = nn r from iff.mpr q)]
      obtain ⟨p1, e1, t1, v1', C1, M1, l1, l2, l3, l4, l5, l6, l7⟩ := zx_adv hN hB
      exact ⟨rfl, q, p1, e1, t1, v1', C1, M1, by rw [l1, bS, k9], l2, by omega, l4, l5, l6, l7⟩
    · right
      rw [if_neg (show ¬ (dI C 5 v, C).1 = nn r from fun w => q (iff.mp w)), if_pos (show 1 ≤ S.2.2.1 ∧ 6 ≤ S.2.2.2 from hS)]
      exact ⟨fun w => q w.2, rfl⟩
  · right
    have : ¬ (-1 : Int32) = nn r := by rcases hr with h | h <;> rw [h] <;> decide
    rw [zx_role0 hkC ht h1, bS, if_neg this, if_pos (show 1 ≤ S.2.2.1 ∧ 6 ≤ S.2.2.2 from hS)]
    exact ⟨fun w => h1 w.1, rfl⟩
/-- a statement that fails, and one that is read -/
def SBad (N P nb h o p j b e0 la li : Nat) (K0 : Nat → Nat) (x1 : Int32) (C M : Dat) (r : Option (Sum Nat (Option Nat) × Sr × Dat)) (F : (Dat → Option Dat) → Option Dat) : Prop := ∃ S' C' M' q k, r = some (.inl 4, S', C') ∧ (∀ a, a < nb → S'.2.1 a = K0 a) ∧ (dI C' 3 7 = nn q ∧ dI M' 207 40 = nn q ∧ p ≤ q ∧ q ≤ 240) ∧ Ch (YC P nb j b) C C' ∧ Ch (YM h j e0 o la li) M M' ∧ k + p ≤ q + 2 ∧ ∀ g, F (f_X12_parse_b118 N (g + k) x1) = some M'
def SGood (N nu len P : Nat) (tx : Nat → Nat) (nb h o p j b e0 la li E jE : Nat) (K0 : Nat → Nat) (W : Nat → Nat) (x1 : Int32) (C M : Dat) (r : Option (Sum Nat (Option Nat) × Sr × Dat)) (F : (Dat → Option Dat) → Option Dat) : Prop := ∃ S' C' M' p' e' t' v' j' b' w' k W', r = some (.inr (some (nb + j)), S', C') ∧ Si nu len P tx nb h o p' e' t' v' j' b' w' K0 S' C' M' ∧ (j < j' ∧ p + 4 ≤ p' ∧ k + p + 1 ≤ p' ∧ p' ≤ 240) ∧ Ch (YC P nb j b) C C' ∧ Ch (YM h j e0 o la li) M M' ∧ RP M M' ∧ (∀ g, F (f_X12_parse_b118 N (g + k) x1) = f_X12_parse_b118 N g x1 M') ∧ (∀ i, j ≤ i → i < j' → Fs nu P nb h j' b' (260 * h + b' + w') C' M' i) ∧ (∀ i, j < i → i < j' → Nx nb h j' C' M' i ∧ Wc P nb jE W' C' i) ∧ (dR C' (nb + j) 9 = none ∧ dI M' 224 (64 * h + j) = -1) ∧ (dI M' la li = nn (64 * h + j) ∧ dI M' 233 o = nn (64 * h + j)) ∧ (∀ X, p' + E ≤ X + p + 1 → Wq P nb jE W' C' j X) ∧ (∀ i, i < j → W' i = W i) ∧ dI C' (nb + j) 1 = nn p ∧ (b ≤ b' ∧ e0 ≤ 260 * h + b' + w') ∧ (∀ i k i', j ≤ i → i < j' → (k = 6 ∨ k = 7 ∨ k = 9) → dR C' (nb + i) k = some (nb + i') → i' < j')
theorem zs_psB {N g q : Nat} {x1 : Int32} {M : Dat} (hq : q < 1000) (h : dI M 207 40 = nn q) : f_X12_parse_b118 N (g + 1) x1 M = some M := by
  rw [f_X12_parse_b118, h, if_pos (show (0 : Int32) ≤ nn q from (nn_le (a := 0) (by omega) (by omega)).mpr (by omega))]
  rfl
theorem SBad.one {N P nb h o p j b e0 la li q : Nat} {K0 : Nat → Nat} {x1 : Int32} {S' : Sr} {C M C' M' : Dat} {r : Option (Sum Nat (Option Nat) × Sr × Dat)} {F : (Dat → Option Dat) → Option Dat} (hr : r = some (.inl 4, S', C')) (hK : ∀ a, a < nb → S'.2.1 a = K0 a) (h7 : dI C' 3 7 = nn q) (h40 : dI M' 207 40 = nn q) (hq : p ≤ q ∧ q ≤ 240) (cC : Ch (YC P nb j b) C C') (cM : Ch (YM h j e0 o la li) M M') (hF : ∀ f, F f = f M') : SBad N P nb h o p j b e0 la li K0 x1 C M r F :=
  ⟨S', C', M', q, 1, hr, hK, ⟨h7, h40, hq.1, hq.2⟩, cC, cM, by omega, fun g => by rw [hF]; exact zs_psB (by omega) h40⟩
