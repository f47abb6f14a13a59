/-! one operator and what stands behind it -/
theorem zx_flush {N r rr P b eb eu s0 n pn : Nat} {C M : Dat} (hN : 1000 ≤ N) (hr : 1 ≤ r ∧ r ≤ rr) (hr3 : r ≤ 3) (hp : pn ≤ 3) (hs : s0 + pn ≤ 60) (hE : Em rr P b eb n pn s0 C M) (he : eb + n + pn < eu) (heu : eu ≤ 520) (hT : Top r s0 M) : ∃ M', f_X12_flush N (nn r) M = some M' ∧ Em rr P b eb (n + pn) 0 s0 C M' ∧ Ch (Fm (eb + n) eu) M M' := zx_flush_l hr hr3 pn n N M (by omega) hs hE he heu hT
theorem zx_mt {t : Nat} (h : 5 ≤ t) : zl_mt t = t := by
  unfold zl_mt
  rw [if_neg (by omega), if_neg (by omega), if_neg (by omega), if_neg (by omega)]
theorem zx_rk5 {t : Nat} (h : 1 ≤ zx_rk t) : 42 ≤ t ∧ t < 127 := by
  unfold zx_rk at h
  split at h
  · omega
  · split at h
    · omega
    · split at h <;> omega
theorem zx_rkmt (t : Nat) : zx_rk (zl_mt t) = zx_rk t := by
  unfold zl_mt
  by_cases h1 : t = 1
  · rw [if_pos h1, h1]; rfl
  · rw [if_neg h1]
    by_cases h2 : t = 2
    · rw [if_pos h2, h2]; rfl
    · rw [if_neg h2]
      by_cases h3 : t = 3
      · rw [if_pos h3, h3]; rfl
      · rw [if_neg h3]
        by_cases h4 : t = 4
        · rw [if_pos h4, h4]; rfl
        · rw [if_neg h4]
theorem zx_tok_lt {len p e t v : Nat} {tx : Nat → Nat} (h : Tok len tx p e t v) : t < 127 := by
  rcases h.2.2.2.2.2.1 with a | a
  · omega
  · have := zl_Si.mp a; omega
theorem zx_mt_lt {t : Nat} (h : t < 127) : zl_mt t < 127 := by
  unfold zl_mt
  repeat' split
  all_goals omega
theorem m1_lt : ¬ (0 : Int32) ≤ -1 := by decide
theorem zx_L1 {N g : Nat} {x1 : Int32} {M : Dat} (h : dI M 207 40 = -1) : f_X12_expression_b24 N (g + 1) x1 1 M = (f_X12_operand N M).bind (fun p6 => if p6.1 = 0 then f_X12_expression_b24 N g x1 1 p6.2 else f_X12_expression_b24 N g x1 2 p6.2) := by
  rw [f_X12_expression_b24, h, if_neg m1_lt, if_neg (by decide), if_pos rfl]
  rfl
theorem zx_L2 {N g : Nat} {x1 : Int32} {M : Dat} (h : dI M 207 40 = -1) : f_X12_expression_b24 N (g + 1) x1 2 M = (f_X12_behind N M).bind (fun p4 => f_X12_expression_b24 N g x1 p4.1 p4.2) := by
  rw [f_X12_expression_b24, h, if_neg m1_lt, if_neg (by decide), if_neg (by decide)]
theorem zx_Lb {N g q : Nat} {x1 st : Int32} {M : Dat} (hq : q < 1000) (h : dI M 207 40 = nn q) : f_X12_expression_b24 N (g + 1) x1 st M = some (x1, M) := by
  rw [f_X12_expression_b24, h, if_pos (show (0 : Int32) ≤ nn q from (nn_le (a := 0) (by omega) (by omega)).mpr (by omega))]
  rfl
theorem zx_wrong {p : Nat} {M : Dat} (h : dI M 207 40 = -1) (h39 : dI M 207 39 = nn p) : f_X12_wrong M = some (sI M 207 40 (nn p)) := by
  unfold f_X12_wrong f_X12_wrong_b15
  rw [h, if_neg m1_lt, h39]
/-- an operator: both take it -/
theorem zx_behind_op {N nu len P : Nat} {tx : Nat → Nat} {o p e t v b eb eu n pn s0 inn r rr : Nat} (hN : 1000 ≤ N) {C M : Dat} (hR : Rd nu len P tx o p e t v C M) (hE : Em rr P b eb n pn s0 C M) (hr : 1 ≤ r ∧ r ≤ rr) (ht : zx_rk t = r) (hp : pn ≤ 3) (hs : s0 + pn ≤ 60) (he : eb + n + pn < eu) (heu : eu ≤ 520) (hT : Top r s0 M) (h51 : dI M 207 51 = nn inn) (hi : inn ≤ 9) (h1 : r = 1 → dI M 236 inn = 0) : ∃ p' e' t' v' C' M', f_X5_goTo (dI C 3 8 + 1) C = some C' ∧ (∀ g x1, f_X12_expression_b24 N (g + 1) x1 2 M = f_X12_expression_b24 N g x1 1 M') ∧ p + 1 ≤ p' ∧ p' ≤ 240 ∧ Rd nu len P tx o p' e' t' v' C' M' ∧ Em 0 P b eb (n + pn) 0 (s0 + 1) C' M' ∧ dI M' 234 s0 = nn t ∧ dI M' 207 51 = nn inn ∧ (r = 1 → dI M' 236 inn = 1) ∧ Ch QlC C C' ∧ Ch (fun a k => QlM a k ∨ Fm (eb + n) eu a k ∨ (a = 234 ∧ k = s0) ∨ (a = 236 ∧ k = inn ∧ r = 1)) M M' := by
  have t5 := zx_rk5 (t := t) (by omega)
  have hr3 := zx_rk_b t
  obtain ⟨hB, hkC, hkM, hTk⟩ := id hR
  have h40 := hB.2.2.1
  have hPP := hB.2.2.2.2.1.1
  obtain ⟨M1, f1, f2, f3⟩ := zx_flush hN hr (by omega) hp hs hE he heu hT
  have pe : p < e := hTk.2.1 (by omega)
  have g37 : dI M 207 37 = nn t := by rw [hkM.2.2.1, zx_mt (by omega)]
  have hB1 : Rb nu len P tx o e C M1 := hB.kept (Ch.rf (P := fun _ _ => False)) f3 (fun a k w => w.elim) (fun a k w => by unfold Fm at w; unfold RRm; omega)
  -- behind the flush: the mark of a relation, the sign
  have fin : ∀ M2, Ch (fun a k => a = 236 ∧ k = inn ∧ r = 1) M1 M2 → (r = 1 → dI M2 236 inn = 1) → ∃ p' e' t' v' C' M', f_X5_goTo (dI C 3 8 + 1) C = some C' ∧ f_X12_behind_b51 N M2 = some (1, M') ∧ p + 1 ≤ p' ∧ p' ≤ 240 ∧ Rd nu len P tx o p' e' t' v' C' M' ∧ Em 0 P b eb (n + pn) 0 (s0 + 1) C' M' ∧ dI M' 234 s0 = nn t ∧ dI M' 207 51 = nn inn ∧ (r = 1 → dI M' 236 inn = 1) ∧ Ch QlC C C' ∧ Ch (fun a k => QlM a k ∨ Fm (eb + n) eu a k ∨ (a = 234 ∧ k = s0) ∨ (a = 236 ∧ k = inn ∧ r = 1)) M M' := by
    intro M2 c2 hrel
    have e48 : dI M2 207 48 = nn s0 := by rw [c2.i (by omega), f2.2.2.2.1, Nat.add_zero]
    have e37 : dI M2 207 37 = nn t := by rw [c2.i (by omega), f3.i (by unfold Fm; omega)]; exact g37
    have d48 : dI (sI M2 234 s0 (nn t)) 207 48 = nn s0 := by rw [dI_s, if_neg (by omega)]; exact e48
    have c3 : Ch (fun a k => (a = 234 ∧ k = s0) ∨ (a = 207 ∧ k = 48)) M2 (sI (sI M2 234 s0 (nn t)) 207 48 (nn (s0 + 1))) := Ch.sI (by omega) (Ch.sI (by omega) Ch.rf)
    have hB2 : Rb nu len P tx o e C M2 := hB1.kept (Ch.rf (P := fun _ _ => False)) c2 (fun a k w => w.elim) (fun a k w => by unfold RRm; omega)
    have hB3 := hB2.kept (Ch.rf (P := fun _ _ => False)) c3 (fun a k w => w.elim) (fun a k w => by unfold RRm; omega)
    obtain ⟨p', e', t', v', C', M', a1, a2, a3, a4, a5, a6, a7⟩ := zx_adv hN hB3
    have cM : Ch (fun a k => QlM a k ∨ (a = 234 ∧ k = s0) ∨ (a = 207 ∧ k = 48) ∨ (a = 236 ∧ k = inn ∧ r = 1)) M1 M' := (c2.mono (fun a k w => by omega)).tr ((c3.mono (fun a k w => by omega)).tr (a7.mono (fun a k w => Or.inl w)))
    have cM' : Ch (fun a k => (a = 207 ∧ k ≠ 34 ∧ k ≠ 51) ∨ (a = 234 ∧ k = s0) ∨ a = 236) M1 M' := cM.mono (fun a k w => by unfold QlM at w; omega)
    refine ⟨p', e', t', v', C', M', a1, ?_, by omega, a4, a5, ?_, ?_, ?_, fun w => ?_, a6, ?_⟩
    · unfold f_X12_behind_b51
      rw [e48, if_neg (nn_in (k := s0) (n := 64) (by omega) (by omega)), nn_nat (by omega), e37, d48, nn_1, a2]
      rfl
    · obtain ⟨u1, u2, u3, u4, u5⟩ := f2
      refine ⟨?_, ?_, fun i hi' => ?_, ?_, fun i hi' => absurd hi' (by omega)⟩
      · rw [a6.i (by unfold QlC; omega)]; exact u1
      · rw [cM'.i (by omega)]; exact u2
      · exact (u3 i hi').kept (a6.i (by unfold QlC; omega)) (a6.i (by unfold QlC; omega)) (cM'.i (by omega)) (cM'.i (by omega)) (fun x _ hx => by rw [cM'.i (by omega)]; exact hx)
      · rw [a7.i (by unfold QlM; omega), dI_s, if_pos ⟨rfl, rfl⟩, Nat.add_zero]
    · rw [a7.i (by unfold QlM; omega), dI_s, if_neg (by omega), dI_s, if_pos ⟨rfl, rfl⟩]
    · rw [cM'.i (by omega), f3.i (by unfold Fm; omega)]; exact h51
    · rw [a7.i (by unfold QlM; omega), c3.i (by omega)]; exact hrel w
    · exact (f3.mono (fun a k w => Or.inr (Or.inl w))).tr (cM.mono (fun a k w => by unfold QlM at w; unfold QlM Fm; omega))
  have beh : ∃ p' e' t' v' C' M', f_X5_goTo (dI C 3 8 + 1) C = some C' ∧ f_X12_behind_b31 N (nn r) M = some (1, M') ∧ p + 1 ≤ p' ∧ p' ≤ 240 ∧ Rd nu len P tx o p' e' t' v' C' M' ∧ Em 0 P b eb (n + pn) 0 (s0 + 1) C' M' ∧ dI M' 234 s0 = nn t ∧ dI M' 207 51 = nn inn ∧ (r = 1 → dI M' 236 inn = 1) ∧ Ch QlC C C' ∧ Ch (fun a k => QlM a k ∨ Fm (eb + n) eu a k ∨ (a = 234 ∧ k = s0) ∨ (a = 236 ∧ k = inn ∧ r = 1)) M M' := by
    unfold f_X12_behind_b31
    rw [f1, bS]
    by_cases w : r = 1
    · rw [if_pos (show nn r = 1 by rw [w]; rfl), f3.i (by unfold Fm; omega), h51, if_neg (nn_in (k := inn) (n := 10) (by omega) (by omega)), nn_nat (by omega)]
      exact fin _ (Ch.sI (by omega) Ch.rf) (fun _ => by rw [dI_s, if_pos ⟨rfl, rfl⟩]; decide)
    · rw [if_neg (show ¬ nn r = 1 from fun q => w ((nn_eq (b := 1) (by omega) (by omega)).mp q))]
      exact fin _ Ch.rf (fun q => absurd q w)
  obtain ⟨p', e', t', v', C', M', b1, b2, b3⟩ := beh
  refine ⟨p', e', t', v', C', M', b1, fun g x1 => ?_, b3⟩
  rw [zx_L2 h40]
  unfold f_X12_behind
  rw [g37, zx_rank (by omega), bS, ht]
  by_cases w : r = 1
  · rw [if_neg (show ¬ (1 : Int32) < nn r by rw [w]; decide), if_pos (show nn r = 1 by rw [w]; rfl), h51, if_neg (nn_in (k := inn) (n := 10) (by omega) (by omega)), nn_nat (by omega), if_pos (h1 w), b2, bS]
  · rw [if_pos (show (1 : Int32) < nn r from (nn_lt (a := 1) (by omega) (by omega)).mpr (by omega)), b2, bS]
def XC (P b a k : Nat) : Prop := (a = 3 ∧ 5 ≤ k ∧ k ≤ 9) ∨ a = 5 ∨ Ec P b a k
def XM (e0 eu s0 i0 a k : Nat) : Prop := (a = 207 ∧ (k = 34 ∨ (36 ≤ k ∧ k ≤ 41) ∨ k = 48 ∨ k = 51)) ∨ ((a = 225 ∨ a = 226) ∧ e0 ≤ k ∧ k < eu) ∨ a = 229 ∨ ((a = 234 ∨ a = 235) ∧ s0 ≤ k) ∨ (a = 236 ∧ i0 ≤ k)
/-- the height of the stack over the class's items -/
def zx_h (C : Dat) (P : Nat) : Nat → Nat → Nat → Option Nat
  | 0, _, h => some h
  | k + 1, i, h => if tk (dI C (P + 3) i).toNatClampNeg ≤ h ∧ h - tk (dI C (P + 3) i).toNatClampNeg + pu (dI C (P + 3) i).toNatClampNeg ≤ 30 then zx_h C P k (i + 1) (h - tk (dI C (P + 3) i).toNatClampNeg + pu (dI C (P + 3) i).toNatClampNeg) else none
theorem zx_h_s (C : Dat) (P k i h : Nat) : zx_h C P (k + 1) i h = if tk (dI C (P + 3) i).toNatClampNeg ≤ h ∧ h - tk (dI C (P + 3) i).toNatClampNeg + pu (dI C (P + 3) i).toNatClampNeg ≤ 30 then zx_h C P k (i + 1) (h - tk (dI C (P + 3) i).toNatClampNeg + pu (dI C (P + 3) i).toNatClampNeg) else none := rfl
theorem zx_h_eq {C C' : Dat} {P : Nat} : ∀ (k i h : Nat), (∀ j, i ≤ j → j < i + k → dI C' (P + 3) j = dI C (P + 3) j) → zx_h C' P k i h = zx_h C P k i h := by
  intro k
  induction k with
  | zero => intro i h _; rfl
  | succ k ih =>
    intro i h e
    rw [zx_h_s, zx_h_s, e i (by omega) (by omega), ih (i + 1) _ (fun j h1 h2 => e j (by omega) (by omega))]
theorem zx_h_add {C : Dat} {P : Nat} : ∀ (k m i h : Nat), zx_h C P (k + m) i h = (zx_h C P k i h).bind (fun h' => zx_h C P m (i + k) h') := by
  intro k
  induction k with
  | zero => intro m i h; rw [Nat.zero_add]; rfl
  | succ k ih =>
    intro m i h
    rw [show k + 1 + m = (k + m) + 1 by omega, zx_h_s, zx_h_s]
    split
    · rw [ih m (i + 1) _, show i + 1 + k = i + (k + 1) by omega]
    · rfl
def Hg (lv o P : Nat) (C : Dat) (z0 z1 : Nat) : Prop := ∀ h, h + (5 - lv) + 3 * (8 - o) ≤ 30 → zx_h C P (z1 - z0) z0 h = some (h + 1)
theorem Hg.eq {lv o P z0 z1 : Nat} {C C' : Dat} (hh : Hg lv o P C z0 z1) (hz : z0 ≤ z1) (e : ∀ j, j < z1 → dI C' (P + 3) j = dI C (P + 3) j) : Hg lv o P C' z0 z1 := fun h hb => by
  rw [zx_h_eq (C := C) _ _ _ (fun j h1 h2 => e j (by omega))]
  exact hh h hb
theorem Hg.up {lv o P z0 z1 : Nat} {C : Dat} (hl : lv + 1 ≤ 4) (hh : Hg (lv + 1) o P C z0 z1) : Hg lv o P C z0 z1 := fun h hb => hh h (by omega)
theorem Hg.join {lv o P z0 z1 z2 op : Nat} {C : Dat} (hl : 1 ≤ lv ∧ lv ≤ 3) (h01 : z0 ≤ z1) (h12 : z1 ≤ z2) (a : Hg lv o P C z0 z1) (b : Hg (lv + 1) o P C z1 z2) (ho : 5 ≤ op ∧ op ≤ 10) (h : dI C (P + 3) z2 = nn op) : Hg lv o P C z0 (z2 + 1) := fun hh hb => by
  rw [show z2 + 1 - z0 = (z1 - z0) + ((z2 - z1) + 1) by omega, zx_h_add, a hh hb]
  show zx_h C P ((z2 - z1) + 1) (z0 + (z1 - z0)) (hh + 1) = _
  rw [show z0 + (z1 - z0) = z1 by omega, zx_h_add, b (hh + 1) (by omega)]
  show zx_h C P 1 (z1 + (z2 - z1)) (hh + 1 + 1) = _
  rw [show z1 + (z2 - z1) = z2 by omega]
  unfold zx_h
  have t2 : tk op = 2 := by unfold tk; rw [if_pos (by omega)]
  have p1 : pu op = 1 := by unfold pu; rw [if_pos (by omega)]
  rw [h, nn_nat (by omega), t2, p1, if_pos (by omega)]
  show some _ = _
  congr 1
theorem Hg.one {o P z op : Nat} {C : Dat} (h : dI C (P + 3) z = nn op) (ho : op < 2) : Hg 4 o P C z (z + 1) := fun hh hb => by
  rw [show z + 1 - z = 0 + 1 by omega]
  unfold zx_h
  have t2 : tk op = 0 := by unfold tk; rw [if_neg (by omega), if_neg (by omega)]
  have p1 : pu op = 1 := by unfold pu; rw [if_pos (by omega)]
  rw [h, nn_nat (by omega), t2, p1, if_pos (by omega)]
  rfl
/-- roles change from 0 to 1 alone -/
def RP (M M' : Dat) : Prop := ∀ x, x < 26 → (dI M 229 x = 0 ∧ dI M' 229 x = 1) ∨ dI M' 229 x = dI M 229 x
theorem RP.rf {M M' : Dat} (h : ∀ x, dI M' 229 x = dI M 229 x) : RP M M' := fun x _ => Or.inr (h x)
theorem RP.tr {M M' M'' : Dat} (h : RP M M') (g : RP M' M'') : RP M M'' := fun x hx => by
  rcases h x hx with ⟨a, b⟩ | a
  · rcases g x hx with ⟨c, d⟩ | c
    · exact Or.inl ⟨a, d⟩
    · exact Or.inl ⟨a, by rw [c]; exact b⟩
  · rcases g x hx with ⟨c, d⟩ | c
    · exact Or.inl ⟨by rw [← a]; exact c, d⟩
    · exact Or.inr (c.trans a)
theorem RP.keep {M M' : Dat} (h : RP M M') {x : Nat} (hx : x < 26) {r : Int32} (hr : ¬ r = 0) (e : dI M 229 x = r) : dI M' 229 x = r := by
  rcases h x hx with ⟨a, b⟩ | a
  · exact absurd (e.symm.trans a) hr
  · rw [a]; exact e
def Sb (S : Sr) : Prop := 1 ≤ S.2.2.1 ∧ 6 ≤ S.2.2.2
def XMid (lv nu len P : Nat) (tx : Nat → Nat) (o p e t v b eb eu n pn s0 inn w c z0 : Nat) (C M : Dat) : Prop := Rd nu len P tx o p e t v C M ∧ Em lv P b eb n pn s0 C M ∧ (dI M 207 51 = nn inn ∧ inn ≤ o) ∧ (eb + 260 = eu + b + w ∧ eu ≤ 520 ∧ b + n + pn + w + c ≤ p ∧ pn + lv ≤ 4 ∧ s0 + 1 ≤ 4 * inn + lv) ∧ Top lv s0 M ∧ Hg lv o P C z0 (b + n + pn) ∧ z0 ≤ b + n + pn
def XPre (lv nu len P : Nat) (tx : Nat → Nat) (o p e t v b eb eu n s0 inn w c : Nat) (C M : Dat) : Prop := Rd nu len P tx o p e t v C M ∧ Em 0 P b eb n 0 s0 C M ∧ (dI M 207 51 = nn inn ∧ inn ≤ o) ∧ (eb + 260 = eu + b + w ∧ eu ≤ 520 ∧ b + n + w + c ≤ p ∧ s0 + 1 ≤ 4 * inn + lv) ∧ Top lv s0 M ∧ (lv = 1 → dI M 236 inn = 0)
def XBad {α : Type} (N P z0 e0 eu s0 i0 p : Nat) (x1 st : Int32) (S : Sr) (C M : Dat) (r : Option (Sum Nat α × Sr × Dat)) : Prop := ∃ S' C' M' q k, r = some (.inl 4, S', C') ∧ (S'.1 = S.1 ∧ S'.2.1 = S.2.1) ∧ (dI C' 3 7 = nn q ∧ dI M' 207 40 = nn q ∧ p ≤ q ∧ q ≤ 240) ∧ Ch (XC P z0) C C' ∧ Ch (XM e0 eu s0 i0) M M' ∧ k + p ≤ q + 2 ∧ ∀ g, f_X12_expression_b24 N (g + k) x1 st M = some (x1, M')
def Exi (lv t inn : Nat) (M : Dat) : Prop := (lv = 1 → zx_rk t = 0 ∨ (zx_rk t = 1 ∧ dI M 236 inn = 1)) ∧ (2 ≤ lv → zx_rk t < lv)
def XGood {α : Type} (lv N nu len P : Nat) (tx : Nat → Nat) (o p b eb eu n s0 inn w c z0 : Nat) (zc ze i0 : Nat) (x1 st : Int32) (S : Sr) (C M : Dat) (A : α → Dat → Prop) (r : Option (Sum Nat α × Sr × Dat)) : Prop := ∃ a C' M' p' e' t' v' n' pn' k, r = some (.inr a, S, C') ∧ A a C' ∧ XMid lv nu len P tx o p' e' t' v' b eb eu n' pn' s0 inn w c z0 C' M' ∧ Ch (XC P zc) C C' ∧ Ch (XM ze eu s0 i0) M M' ∧ (k + p ≤ p' ∧ p < p' ∧ n ≤ n') ∧ (∀ g, f_X12_expression_b24 N (g + k) x1 st M = f_X12_expression_b24 N g x1 2 M') ∧ Exi lv t' inn M' ∧ RP M M'
def XLv {α : Type} (lv N nu len P : Nat) (tx : Nat → Nat) (o : Nat) (A : α → Dat → Prop) (sub : Sr → Dat → Option (Sum Nat α × Sr × Dat)) : Prop := ∀ (p e t v b eb eu n s0 inn w c : Nat) (x1 : Int32) (S : Sr) (C M : Dat), XPre lv nu len P tx o p e t v b eb eu n s0 inn w c C M → Sb S → XBad N P (b + n) (eb + n) eu s0 (inn + (if lv = 1 then 0 else 1)) p x1 1 S C M (sub S C) ∨ XGood lv N nu len P tx o p b eb eu n s0 inn w c (b + n) (b + n) (eb + n) (inn + (if lv = 1 then 0 else 1)) x1 1 S C M A (sub S C)
theorem sb2_l {α β : Type} (e : Nat) (S : Sr) (D : Dat) (f : α → Sr → Dat → Option (Sum Nat β × Sr × Dat)) : sb2 (some (.inl e, S, D)) f = some (.inl e, S, D) := rfl
theorem sb2_r {α β : Type} (a : α) (S : Sr) (D : Dat) (f : α → Sr → Dat → Option (Sum Nat β × Sr × Dat)) : sb2 (some (.inr a, S, D)) f = f a S D := rfl
/-- an operator of rank lv and what stands behind it: the class adds it, the model holds it -/
theorem zx_iter {β : Type} {lv N nu len P : Nat} {tx : Nat → Nat} {o p e t v b eb eu n pn s0 inn w c z0 i0 : Nat} (hN : 1000 ≤ N) (hlv : 1 ≤ lv ∧ lv ≤ 3) {sub : Sr → Dat → Option (Sum Nat Unit × Sr × Dat)} (hsub : XLv (lv + 1) N nu len P tx o (fun _ _ => True) sub) {x1 : Int32} {S : Sr} {C M : Dat} (hM : XMid lv nu len P tx o p e t v b eb eu n pn s0 inn w c z0 C M) (hS : Sb S) (ht : zx_rk t = lv) (h1 : lv = 1 → dI M 236 inn = 0) (hi0 : i0 ≤ inn + 1 ∧ (lv = 1 → i0 = inn)) (k : Sr → Dat → Option (Sum Nat β × Sr × Dat)) : (XBad N P (b + n + pn) (eb + n) eu s0 i0 p x1 2 S C M ((f_X5_goTo (dI C 3 8 + 1) C).bind (fun p1 => sb2 (sub S p1) (fun _ S5 D5 => (dR D5 3 4).bind (fun a6 => if a6 = 191 ∨ a6 = 196 then (f_X4_add a6 (nn (zx_op t)) 0 D5).bind (fun p9 => k S5 p9) else none))))) ∨ ∃ C' M' p' e' t' v' n' pn' kk, ((f_X5_goTo (dI C 3 8 + 1) C).bind (fun p1 => sb2 (sub S p1) (fun _ S5 D5 => (dR D5 3 4).bind (fun a6 => if a6 = 191 ∨ a6 = 196 then (f_X4_add a6 (nn (zx_op t)) 0 D5).bind (fun p9 => k S5 p9) else none)))) = k S C' ∧ XMid lv nu len P tx o p' e' t' v' b eb eu n' pn' s0 inn w c z0 C' M' ∧ Ch (XC P (b + n + pn)) C C' ∧ Ch (XM (eb + n) eu s0 i0) M M' ∧ (kk + p ≤ p' ∧ p < p' ∧ n + pn ≤ n') ∧ (∀ g, f_X12_expression_b24 N (g + kk) x1 2 M = f_X12_expression_b24 N g x1 2 M') ∧ zx_rk t' < lv + 1 ∧ (lv = 1 → dI M' 236 inn = 1) ∧ RP M M' := by
  obtain ⟨hR, hE, ⟨h51, hin⟩, ⟨hb1, hb2, hb3, hb4, hb5⟩, hT, hH, hz⟩ := hM
  have ho : o ≤ 8 := hR.1.2.2.2.1.1
  have hp240 : p ≤ 240 := by have := hR.2.2.2.1; have := hR.1.1.1.1; omega
  obtain ⟨p1, e1, t1, v1, C1, M1, a1, a2, a3, a4, a5, a6, a7, a8, a9, a10, a11⟩ := zx_behind_op (eu := eu) hN hR hE ⟨hlv.1, Nat.le_refl _⟩ ht (by omega) (by omega) (by omega) hb2 hT h51 (by omega) h1
  rw [a1, bS]
  have hst := zx_rk5 (t := t) (by omega)
  have pre : XPre (lv + 1) nu len P tx o p1 e1 t1 v1 b eb eu (n + pn) (s0 + 1) inn w (c + 1) C1 M1 := ⟨a5, a6, ⟨a8, hin⟩, ⟨hb1, hb2, by omega, by omega⟩, Or.inr ⟨t, by omega, by rw [Nat.add_sub_cancel]; exact a7, by omega⟩, fun q => absurd q (by omega)⟩
  have cC1 : Ch (XC P (b + n + pn)) C C1 := a10.mono (fun a k w => by unfold QlC at w; unfold XC; omega)
  have cM1 : Ch (XM (eb + n) eu s0 i0) M M1 := a11.mono (fun a k w => by unfold QlM Fm at w; unfold XM; omega)
  rcases hsub p1 e1 t1 v1 b eb eu (n + pn) (s0 + 1) inn w (c + 1) x1 S C1 M1 pre hS with hb | hg
  · obtain ⟨S', C', M', q, k', r1, r2, r3, r4, r5, r6, r7⟩ := hb
    left
    refine ⟨S', C', M', q, k' + 1, by rw [r1, sb2_l], r2, ⟨r3.1, r3.2.1, by omega, r3.2.2.2⟩, ?_, ?_, by omega, fun g => ?_⟩
    · exact cC1.tr (r4.mono (fun a k w => by unfold XC Ec at w ⊢; omega))
    · exact cM1.tr (r5.mono (fun a k w => by rw [if_neg (by omega)] at w; unfold XM at w ⊢; omega))
    · rw [show g + (k' + 1) = (g + k') + 1 by omega, a2]
      exact r7 g
  · obtain ⟨_, C', M', p', e', t', v', n', pn', k', r1, -, r3, r4, r5, r6, r7, r8, r9⟩ := hg
    right
    obtain ⟨gR, gE, ⟨g51, _⟩, ⟨_, _, gb3, gb4, _⟩, gT, gH, gz⟩ := r3
    obtain ⟨u1, u2, u3, u4, u5⟩ := gE
    have hPP := gR.1.2.2.2.2.1
    have hp240' : p' ≤ 240 := by have := gR.2.2.2.1; have := gR.1.1.1.1; omega
    have hadd := zx_addC (op := nn (zx_op t)) (x := 0) hPP.1 (show b + n' + pn' < 240 by omega) u1
    have cA : Ch (fun a k => (a = P + 3 ∧ k = b + n' + pn') ∨ (a = P + 4 ∧ k = b + n' + pn') ∨ (a = P ∧ k = 5)) C' (sI (sI (sI C' (P + 3) (b + n' + pn') (nn (zx_op t))) (P + 4) (b + n' + pn') 0) P 5 (nn (b + n' + pn' + 1))) := Ch.sI (by omega) (Ch.sI (by omega) (Ch.sI (by omega) Ch.rf))
    have v3 : dI (sI (sI (sI C' (P + 3) (b + n' + pn') (nn (zx_op t))) (P + 4) (b + n' + pn') 0) P 5 (nn (b + n' + pn' + 1))) (P + 3) (b + n' + pn') = nn (zx_op t) := by rw [dI_s, if_neg (by omega), dI_s, if_neg (by omega), dI_s, if_pos ⟨rfl, rfl⟩]
    have v4 : dI (sI (sI (sI C' (P + 3) (b + n' + pn') (nn (zx_op t))) (P + 4) (b + n' + pn') 0) P 5 (nn (b + n' + pn' + 1))) (P + 4) (b + n' + pn') = 0 := by rw [dI_s, if_neg (by omega), dI_s, if_pos ⟨rfl, rfl⟩]
    have v5 : dI (sI (sI (sI C' (P + 3) (b + n' + pn') (nn (zx_op t))) (P + 4) (b + n' + pn') 0) P 5 (nn (b + n' + pn' + 1))) P 5 = nn (b + n' + pn' + 1) := by rw [dI_s, if_pos ⟨rfl, rfl⟩]
    generalize sI (sI (sI C' (P + 3) (b + n' + pn') (nn (zx_op t))) (P + 4) (b + n' + pn') 0) P 5 (nn (b + n' + pn' + 1)) = C2 at *
    have d3 : ∀ j, j < b + n' + pn' → dI C2 (P + 3) j = dI C' (P + 3) j := fun j hj => cA.i (by omega)
    have s0k : dI M' 234 s0 = nn t := by rw [r5.i (by rw [if_neg (by omega)]; unfold XM; omega)]; exact a7
    refine ⟨C2, M', p', e', t', v', n', pn' + 1, k' + 1, ?_, ?_, ?_, ?_, by omega, fun g => ?_, r8.2 (by omega), fun q => ?_, ?_⟩
    · rw [r1, sb2_r, hPP.2]
      show (if P = 191 ∨ P = 196 then _ else _) = _
      rw [if_pos hPP.1, hadd, bS]
    · refine ⟨gR.kept cA (Ch.rf (P := fun _ _ => False)) (fun a k w => by unfold RRc; omega) (fun a k w => w.elim), ⟨by rw [v5]; congr 1, u2, fun i hi => ?_, by rw [u4]; congr 1; omega, fun i hi => ?_⟩, ⟨g51, hin⟩, ⟨hb1, hb2, by omega, by omega, by omega⟩, ?_, ?_, by omega⟩
      · exact (u3 i hi).kept (d3 _ (by omega)) (cA.i (by omega)) rfl rfl (fun x _ hx => hx)
      · by_cases ei : i = pn'
        · subst ei
          exact ⟨t, by omega, by rw [show i + 1 - 1 - i = 0 by omega, Nat.add_zero]; exact s0k, v3, v4⟩
        · obtain ⟨s', x1', x2, x3, x4⟩ := u5 i (by omega)
          refine ⟨s', by omega, ?_, by rw [d3 _ (by omega)]; exact x3, by rw [cA.i (by omega)]; exact x4⟩
          rw [show s0 + (pn' + 1 - 1 - i) = s0 + 1 + (pn' - 1 - i) by omega]; exact x2
      · refine hT.kept (fun h0 => ?_)
        rw [r5.i (by rw [if_neg (by omega)]; unfold XM; omega), a11.i (by unfold QlM Fm; omega)]
      · rw [show b + n' + (pn' + 1) = (b + n' + pn') + 1 by omega]
        have a' : Hg lv o P C2 z0 (b + n + pn) := hH.eq hz (fun j hj => by
          rw [d3 j (by omega), r4.i (by unfold XC Ec; omega), a10.i (by unfold QlC; omega)])
        have b' : Hg (lv + 1) o P C2 (b + n + pn) (b + n' + pn') := by
          rw [show b + n + pn = b + (n + pn) by omega]
          exact gH.eq (by omega) d3
        exact Hg.join hlv hz (by omega) a' b' (zx_op_b t) v3
    · exact cC1.tr ((r4.mono (fun a k w => by unfold XC Ec at w ⊢; omega)).tr (cA.mono (fun a k w => by unfold XC Ec; omega)))
    · exact cM1.tr (r5.mono (fun a k w => by rw [if_neg (by omega)] at w; unfold XM at w ⊢; omega))
    · rw [show g + (k' + 1) = (g + k') + 1 by omega, a2]
      exact r7 g
    · rw [r5.i (by rw [if_neg (by omega)]; unfold XM; omega)]; exact a9 q
    · exact (RP.rf (fun x => a11.i (by unfold QlM Fm; omega))).tr r9
