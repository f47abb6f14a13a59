/-! a whole expression -/
def Ex (P : Nat) (C M : Dat) (fr n e : Nat) : Prop := (∀ i, i < n → It P C M (fr + i) (e + i)) ∧ dI M 225 (e + n) = -1
theorem zx_L0 {N g : Nat} {x1 : Int32} {M : Dat} (h : dI M 207 40 = -1) : f_X12_expression_b24 N (g + 1) x1 0 M = some (x1, M) := by
  rw [f_X12_expression_b24, h, if_neg m1_lt, if_pos rfl]
  rfl
theorem zx_top {N nu len P : Nat} {tx : Nat → Nat} {o p e t v b eb eu w : Nat} (hN : 1000 ≤ N) {S : Sr} {C M : Dat} (hR : Rd nu len P tx o p e t v C M) (h5 : dI C P 5 = nn b) (h34 : dI M 207 34 = nn eb) (hb : eb + 260 = eu + b + w ∧ eu ≤ 520 ∧ b + w ≤ p) (hS : Sb S) : (∃ S' C' M' q, f_X5_readExpression N nu 12 S C = some (.inl 4, S', C') ∧ (S'.1 = S.1 ∧ S'.2.1 = S.2.1) ∧ f_X12_expression N M = some (nn eb, M') ∧ (dI C' 3 7 = nn q ∧ dI M' 207 40 = nn q ∧ p ≤ q ∧ q ≤ 240) ∧ Ch (XC P b) C C' ∧ Ch (XM eb eu 0 0) M M') ∨ (∃ C' M' p' e' t' v' n, f_X5_readExpression N nu 12 S C = some (.inr (nn (b + n)), S, C') ∧ f_X12_expression N M = some (nn eb, M') ∧ Rd nu len P tx o p' e' t' v' C' M' ∧ dI C' P 5 = nn (b + n) ∧ dI M' 207 34 = nn (eb + n + 1) ∧ Ex P C' M' b n eb ∧ Ch (XC P b) C C' ∧ Ch (XM eb eu 0 0) M M' ∧ (p < p' ∧ b + n + w ≤ p' ∧ p' ≤ 240) ∧ Hg 1 o P C' b (b + n) ∧ RP M M') := by
  have hPP := hR.1.2.2.2.2.1.1
  have ho := hR.1.2.2.2.1.1
  have cm : Ch (fun a k => (a = 207 ∧ (k = 48 ∨ k = 51)) ∨ (a = 236 ∧ k = 0)) M (sI (sI (sI M 207 48 0) 207 51 0) 236 (0 : Int32).toNatClampNeg ((0 : Int32) &&& 1)) := Ch.sI (Or.inr ⟨rfl, rfl⟩) (Ch.sI (by omega) (Ch.sI (by omega) Ch.rf))
  have v48 : dI (sI (sI (sI M 207 48 0) 207 51 0) 236 (0 : Int32).toNatClampNeg ((0 : Int32) &&& 1)) 207 48 = 0 := by rw [dI_s, if_neg (by omega), dI_s, if_neg (by omega), dI_s, if_pos ⟨rfl, rfl⟩]
  have v51 : dI (sI (sI (sI M 207 48 0) 207 51 0) 236 (0 : Int32).toNatClampNeg ((0 : Int32) &&& 1)) 207 51 = 0 := by rw [dI_s, if_neg (by omega), dI_s, if_pos ⟨rfl, rfl⟩]
  have v236 : dI (sI (sI (sI M 207 48 0) 207 51 0) 236 (0 : Int32).toNatClampNeg ((0 : Int32) &&& 1)) 236 0 = 0 := by rw [dI_s, if_pos ⟨rfl, rfl⟩]; decide
  unfold f_X12_expression
  rw [h34]
  generalize sI (sI (sI M 207 48 0) 207 51 0) 236 (0 : Int32).toNatClampNeg ((0 : Int32) &&& 1) = M1 at *
  have cmX : Ch (XM eb eu 0 0) M M1 := cm.mono (fun a k q => by unfold XM; omega)
  have pre : XPre 1 nu len P tx o p e t v b eb eu 0 0 0 w 0 C M1 := by
    refine ⟨hR.kept (Ch.rf (P := fun _ _ => False)) cm (fun a k q => q.elim) (fun a k q => by unfold RRm; omega), ⟨h5, by rw [cm.i (by omega)]; exact h34, fun i hi => absurd hi (by omega), v48, fun i hi => absurd hi (by omega)⟩, ⟨v51, by omega⟩, ⟨hb.1, hb.2.1, by omega, by omega⟩, Or.inl rfl, fun _ => v236⟩
  obtain ⟨g, hg⟩ : ∃ g, N = g + 1000 := ⟨N - 1000, by omega⟩
  rcases zx_rexpr (N := N) (nu := nu) (len := len) (P := P) (tx := tx) hN 12 o (by omega) p e t v b eb eu 0 0 0 w 0 (nn eb) S C M1 pre hS with hbad | ⟨a, C', M', p', e', t', v', n', pn', k, r1, r2, r3, r4, r5, r6, r7, r8, r9⟩
  · left
    obtain ⟨S', C', M', q, k, r1, r2, r3, r4, r5, r6, r7⟩ := hbad
    refine ⟨S', C', M', q, r1, r2, ?_, r3, r4, cmX.tr r5⟩
    have := r7 (N - k)
    rw [show N - k + k = N by omega] at this
    exact this
  · right
    obtain ⟨q1, q2, ⟨q3, _⟩, ⟨q4, q5, q6, q7, q8⟩, q9, q10, q11⟩ := r3
    obtain ⟨gB, gkC, gkM, gTk⟩ := id q1
    have ht' := zx_tok_lt gTk
    have gp : p' ≤ 240 := by have := gTk.1; have := gB.1.1.1; omega
    obtain ⟨M2, f1, f2, f3⟩ := zx_flush hN (r := 1) (rr := 1) ⟨by decide, by decide⟩ (by decide) (by omega) (by omega) q2 (show eb + n' + pn' < eu by omega) hb.2.1 q9
    obtain ⟨u1, u2, u3, u4, u5⟩ := f2
    have em := zx_emitM (op := -1) (x := 0) (show eb + (n' + pn') < 520 by omega) u2
    have cE : Ch (fun a k => (a = 207 ∧ k = 34) ∨ ((a = 225 ∨ a = 226) ∧ k = eb + (n' + pn'))) M2 (sI (sI (sI M2 225 (eb + (n' + pn')) (-1)) 226 (eb + (n' + pn')) 0) 207 34 (nn (eb + (n' + pn') + 1))) := Ch.sI (by omega) (Ch.sI (by omega) (Ch.sI (by omega) Ch.rf))
    have v34 : dI (sI (sI (sI M2 225 (eb + (n' + pn')) (-1)) 226 (eb + (n' + pn')) 0) 207 34 (nn (eb + (n' + pn') + 1))) 207 34 = nn (eb + (n' + pn') + 1) := by rw [dI_s, if_pos ⟨rfl, rfl⟩]
    have v225 : dI (sI (sI (sI M2 225 (eb + (n' + pn')) (-1)) 226 (eb + (n' + pn')) 0) 207 34 (nn (eb + (n' + pn') + 1))) 225 (eb + (n' + pn')) = -1 := by rw [dI_s, if_neg (by omega), dI_s, if_neg (by omega), dI_s, if_pos ⟨rfl, rfl⟩]
    generalize sI (sI (sI M2 225 (eb + (n' + pn')) (-1)) 226 (eb + (n' + pn')) 0) 207 34 (nn (eb + (n' + pn') + 1)) = M3 at *
    have beh : f_X12_behind N M' = some (0, M3) := by
      have f1' : f_X12_flush N 1 M' = some M2 := f1
      have q3' : dI M' 207 51 = 0 := q3
      have b80 : f_X12_behind_b80 N M' = some (0, M3) := by
        unfold f_X12_behind_b80
        rw [q3', if_pos rfl, f1', bS, em, bS]
      unfold f_X12_behind
      rw [gkM.2.2.1, zx_rank (by have := zx_mt_lt ht'; omega), bS, zx_rkmt]
      rcases r8.1 rfl with h0 | ⟨h1, h2⟩
      · rw [h0, if_neg (show ¬ (1 : Int32) < nn 0 by decide), if_neg (show ¬ nn 0 = 1 by decide), b80]
      · rw [h1, if_neg (show ¬ (1 : Int32) < nn 1 by decide), if_pos (show nn 1 = 1 from rfl), q3', if_neg (by decide)]
        have h2' : dI M' 236 (0 : Int32).toNatClampNeg = 1 := h2
        rw [h2', if_neg (by decide), b80]
    have fM : Ch (XM eb eu 0 0) M M3 := cmX.tr (r5.tr ((f3.mono (fun a k q => by unfold Fm at q; unfold XM; omega)).tr (cE.mono (fun a k q => by unfold XM; omega))))
    have rk : Ch (fun a k => (a = 207 ∧ (k = 34 ∨ k = 48)) ∨ a = 225 ∨ a = 226) M' M3 := (f3.mono (fun a k q => by unfold Fm at q; omega)).tr (cE.mono (fun a k q => by omega))
    refine ⟨C', M3, p', e', t', v', n' + pn', ?_, ?_, q1.kept (Ch.rf (P := fun _ _ => False)) rk (fun a k q => q.elim) (fun a k q => by unfold RRm; omega), by rw [u1]; rfl, by rw [v34], ⟨fun i hi => ?_, v225⟩, r4, fM, by omega, ?_, ?_⟩
    · rw [r1, r2, u1]; rfl
    · have e2 : N = (N - k - 2 + 1 + 1) + k := by omega
      have e3 : f_X12_expression_b24 N N (nn eb) 1 M1 = f_X12_expression_b24 N ((N - k - 2 + 1 + 1) + k) (nn eb) 1 M1 := by rw [← e2]
      rw [e3, r7, zx_L2 gB.2.2.1, beh, bS]
      exact zx_L0 (by rw [rk.i (by omega)]; exact gB.2.2.1)
    · exact (u3 i hi).kept rfl rfl (cE.i (by omega)) (cE.i (by omega)) (fun y _ hy => by rw [cE.i (by omega)]; exact hy)
    · rw [show b + (n' + pn') = b + n' + pn' by omega]; exact q10
    · exact (RP.rf (fun y => cm.i (by omega))).tr (r9.tr (RP.rf (fun y => rk.i (by omega))))
