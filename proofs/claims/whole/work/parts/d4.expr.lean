/-! EXPRESSIONS: the reader's state in both, items, pending signs -/
def RoX (nu : Nat) (c r mv mr L : Int32) : Prop := (c = 0 ∧ r = 0 ∧ mv = -1 ∧ mr = -1) ∨ (c = 1 ∧ r = 1 ∧ mv = -1 ∧ mr = -1) ∨ (c = 1 ∧ r = 2 ∧ mv = L ∧ mr = -1 ∧ ∃ l, l < nu ∧ L = nn l) ∨ (c = 2 ∧ r = 3 ∧ mv = -1 ∧ mr = L ∧ ∃ l, l < nu ∧ L = nn l) ∨ (c = 3 ∧ r = 4 ∧ mv = -1 ∧ mr = -1) ∨ (c = 4 ∧ r = 5 ∧ mv = -1 ∧ mr = -1)
def Ro (nu P : Nat) (C M : Dat) : Prop := ∀ x, x < 26 → RoX nu (dI C 5 x) (dI M 229 x) (dI C (P + 2) x) (dI C (P + 2) (26 + x)) (dI M 230 x)
def Rb (nu len P : Nat) (tx : Nat → Nat) (o e : Nat) (C M : Dat) : Prop := (TxC len tx C ∧ TxM len tx M) ∧ (e ≤ len ∧ AtE len tx C e ∧ dI M 207 36 = nn e) ∧ dI M 207 40 = -1 ∧ (o ≤ 8 ∧ dI C 3 5 = nn o ∧ dI M 207 41 = nn o) ∧ ((P = 191 ∨ P = 196) ∧ dR C 3 4 = some P) ∧ (nu ≤ 6 ∧ dI C 1 0 = nn nu ∧ dI M 207 1 = nn nu) ∧ Ro nu P C M
def Rd (nu len P : Nat) (tx : Nat → Nat) (o p e t v : Nat) (C M : Dat) : Prop := Rb nu len P tx o e C M ∧ TkC p e t v C ∧ TkM p e t v M ∧ Tok len tx p e t v
def RRc (P a k : Nat) : Prop := (a = 3 ∧ (k = 2 ∨ k = 4 ∨ k = 5 ∨ k = 8 ∨ k = 13)) ∨ a = 4 ∨ a = 5 ∨ (263 ≤ a ∧ a ≤ 265) ∨ a = P + 2 ∨ (a = 1 ∧ k = 0)
def RRm (a k : Nat) : Prop := (a = 207 ∧ (k = 1 ∨ k = 10 ∨ k = 36 ∨ k = 40 ∨ k = 41)) ∨ a = 211 ∨ a = 229 ∨ a = 230
theorem Rb.kept {nu len P : Nat} {tx : Nat → Nat} {o e : Nat} {C M C' M' : Dat} {X Y : Nat → Nat → Prop} (h : Rb nu len P tx o e C M) (c : Ch X C C') (m : Ch Y M M') (hx : ∀ a k, X a k → ¬ RRc P a k) (hy : ∀ a k, Y a k → ¬ RRm a k) : Rb nu len P tx o e C' M' := by
  obtain ⟨⟨h1, h2⟩, ⟨h3, h4, h5⟩, h6, ⟨h7, h8, h9⟩, ⟨h10, h11⟩, ⟨h12, h13, h14⟩, h15⟩ := h
  have ei : ∀ a k, RRc P a k → dI C' a k = dI C a k := fun a k r => c.i (fun q => hx a k q r)
  have em : ∀ a k, RRm a k → dI M' a k = dI M a k := fun a k r => m.i (fun q => hy a k q r)
  refine ⟨⟨h1.kept c (fun a k w q => hx a k w (by unfold RRc; omega)), h2.kept m (fun a k w q => hy a k w (by unfold RRm; omega))⟩, ⟨h3, h4.kept c (fun a k w q => hx a k w (by unfold RTb at q; unfold RRc; omega)), by rw [em _ _ (by unfold RRm; omega)]; exact h5⟩, by rw [em _ _ (by unfold RRm; omega)]; exact h6, ⟨h7, by rw [ei _ _ (by unfold RRc; omega)]; exact h8, by rw [em _ _ (by unfold RRm; omega)]; exact h9⟩, ⟨h10, by rw [c.r (fun q => hx _ _ q (by unfold RRc; omega))]; exact h11⟩, ⟨h12, by rw [ei _ _ (by unfold RRc; omega)]; exact h13, by rw [em _ _ (by unfold RRm; omega)]; exact h14⟩, fun x hx' => ?_⟩
  rw [ei 5 x (by unfold RRc; omega), ei (P + 2) x (by unfold RRc; omega), ei (P + 2) (26 + x) (by unfold RRc; omega), em 229 x (by unfold RRm; omega), em 230 x (by unfold RRm; omega)]
  exact h15 x hx'
theorem TkC.kept {p e t v : Nat} {C C' : Dat} {X : Nat → Nat → Prop} (h : TkC p e t v C) (c : Ch X C C') (hx : ∀ a k, X a k → ¬ (a = 3 ∧ 6 ≤ k ∧ k ≤ 9)) : TkC p e t v C' := by
  obtain ⟨h1, h2, h3, h4⟩ := h
  refine ⟨by rw [c.i (fun q => hx _ _ q (by omega))]; exact h1, trivial, by rw [c.i (fun q => hx _ _ q (by omega))]; exact h3, by rw [c.i (fun q => hx _ _ q (by omega))]; exact h4⟩
theorem TkM.kept {p e t v : Nat} {C C' : Dat} {X : Nat → Nat → Prop} (h : TkM p e t v C) (c : Ch X C C') (hx : ∀ a k, X a k → ¬ (a = 207 ∧ 36 ≤ k ∧ k ≤ 39)) : TkM p e t v C' := by
  obtain ⟨h1, h2, h3, h4⟩ := h
  refine ⟨by rw [c.i (fun q => hx _ _ q (by omega))]; exact h1, by rw [c.i (fun q => hx _ _ q (by omega))]; exact h2, by rw [c.i (fun q => hx _ _ q (by omega))]; exact h3, fun w => by rw [c.i (fun q => hx _ _ q (by omega))]; exact h4 w⟩
theorem Rd.kept {nu len P : Nat} {tx : Nat → Nat} {o p e t v : Nat} {C M C' M' : Dat} {X Y : Nat → Nat → Prop} (h : Rd nu len P tx o p e t v C M) (c : Ch X C C') (m : Ch Y M M') (hx : ∀ a k, X a k → ¬ (RRc P a k ∨ (a = 3 ∧ 6 ≤ k ∧ k ≤ 9))) (hy : ∀ a k, Y a k → ¬ (RRm a k ∨ (a = 207 ∧ 36 ≤ k ∧ k ≤ 39))) : Rd nu len P tx o p e t v C' M' :=
  ⟨h.1.kept c m (fun a k w q => hx a k w (Or.inl q)) (fun a k w q => hy a k w (Or.inl q)), h.2.1.kept c (fun a k w q => hx a k w (Or.inr q)), h.2.2.1.kept m (fun a k w q => hy a k w (Or.inr q)), h.2.2.2⟩
/-- both go on to the next token -/
theorem zx_adv {N nu len P : Nat} {tx : Nat → Nat} {o e : Nat} (hN : 1000 ≤ N) {C M : Dat} (h : Rb nu len P tx o e C M) : ∃ p' e' t' v' C' M', f_X5_goTo (dI C 3 8 + 1) C = some C' ∧ f_X12_next N M = some M' ∧ e ≤ p' ∧ p' ≤ 240 ∧ Rd nu len P tx o p' e' t' v' C' M' ∧ Ch QlC C C' ∧ Ch QlM M M' := by
  obtain ⟨⟨h1, h2⟩, ⟨h3, h4, h5⟩, h6, ⟨h7, h8, h9⟩, ⟨h10, h11⟩, ⟨h12, h13, h14⟩, h15⟩ := h
  obtain ⟨p', e', t', v', C', M', a1, a2, a3, a4, a5, a6⟩ := zl_lex hN h1 h2 h3 h4 h5
  obtain ⟨⟨b1, b2⟩, ⟨b3, b3'⟩, b4, b5⟩ := a4
  have := h1.1
  have z5 := b5.1
  refine ⟨p', e', t', v', C', M', a1, a2, a3, by omega, ⟨⟨⟨b1, b2⟩, ⟨b5.1.2, b3', b4.2.1⟩, by rw [a6.i (by unfold QlM; omega)]; exact h6, ⟨h7, by rw [a5.i (by unfold QlC; omega)]; exact h8, by rw [a6.i (by unfold QlM; omega)]; exact h9⟩, ⟨h10, by rw [a5.r (by unfold QlC; omega)]; exact h11⟩, ⟨h12, by rw [a5.i (by unfold QlC; omega)]; exact h13, by rw [a6.i (by unfold QlM; omega)]; exact h14⟩, fun x hx => ?_⟩, b3, b4, b5⟩, a5, a6⟩
  rw [a5.i (by unfold QlC; omega), a5.i (by unfold QlC; omega), a5.i (by unfold QlC; omega), a6.i (by unfold QlM; omega), a6.i (by unfold QlM; omega)]
  exact h15 x hx
def zx_rk (s : Nat) : Nat := if s = 42 ∨ s = 47 then 3 else if s = 43 ∨ s = 45 then 2 else if s = 60 ∨ s = 61 then 1 else 0
def zx_op (s : Nat) : Nat := if s = 42 then 7 else if s = 43 then 5 else if s = 45 then 6 else if s = 47 then 8 else if s = 60 then 9 else 10
theorem zx_op_b (s : Nat) : 5 ≤ zx_op s ∧ zx_op s ≤ 10 := by
  unfold zx_op
  repeat' split
  all_goals omega
theorem zx_rk_b (s : Nat) : zx_rk s ≤ 3 := by
  unfold zx_rk
  repeat' split
  all_goals omega
theorem zx_rk_lt {s : Nat} (h : 1 ≤ zx_rk s) : s < 127 := by
  unfold zx_rk at h
  split at h
  · omega
  · split at h
    · omega
    · split at h <;> omega
theorem zx_rank {s : Nat} (hs : s < 1000) (D : Dat) : f_X12_rank (nn s) D = some (nn (zx_rk s), D) := by
  have q : ∀ b, b < 1000 → (nn s = nn b ↔ s = b) := fun b hb => nn_eq (by omega) (by omega)
  unfold f_X12_rank f_X12_rank_b12 f_X12_rank_b28 f_X12_rank_b44 f_X12_rank_b49 zx_rk
  by_cases c1 : s = 42
  · rw [if_pos (show nn s = 42 from (q 42 (by omega)).mpr c1), if_pos (Or.inl c1)]; rfl
  rw [if_neg (show ¬ nn s = 42 from fun w => c1 ((q 42 (by omega)).mp w))]
  by_cases c2 : s = 47
  · rw [if_pos (show nn s = 47 from (q 47 (by omega)).mpr c2), if_pos (Or.inr c2)]; rfl
  rw [if_neg (show ¬ nn s = 47 from fun w => c2 ((q 47 (by omega)).mp w)), if_neg (show ¬ (s = 42 ∨ s = 47) by omega)]
  by_cases c3 : s = 43
  · rw [if_pos (show nn s = 43 from (q 43 (by omega)).mpr c3), if_pos (Or.inl c3)]; rfl
  rw [if_neg (show ¬ nn s = 43 from fun w => c3 ((q 43 (by omega)).mp w))]
  by_cases c4 : s = 45
  · rw [if_pos (show nn s = 45 from (q 45 (by omega)).mpr c4), if_pos (Or.inr c4)]; rfl
  rw [if_neg (show ¬ nn s = 45 from fun w => c4 ((q 45 (by omega)).mp w)), if_neg (show ¬ (s = 43 ∨ s = 45) by omega)]
  by_cases c5 : s = 60
  · rw [if_pos (show nn s = 60 from (q 60 (by omega)).mpr c5), if_pos (Or.inl c5)]; rfl
  rw [if_neg (show ¬ nn s = 60 from fun w => c5 ((q 60 (by omega)).mp w))]
  by_cases c6 : s = 61
  · rw [if_pos (show nn s = 61 from (q 61 (by omega)).mpr c6), if_pos (Or.inr c6)]; rfl
  rw [if_neg (show ¬ nn s = 61 from fun w => c6 ((q 61 (by omega)).mp w)), if_neg (show ¬ (s = 60 ∨ s = 61) by omega)]
  rfl
theorem zx_oper {s : Nat} (hs : s < 1000) (D : Dat) : f_X12_operation (nn s) D = some (nn (zx_op s), D) := by
  have q : ∀ b, b < 1000 → (nn s = nn b ↔ s = b) := fun b hb => nn_eq (by omega) (by omega)
  unfold f_X12_operation zx_op
  by_cases c1 : s = 42
  · rw [if_pos (show nn s = 42 from (q 42 (by omega)).mpr c1), if_pos c1]; rfl
  rw [if_neg (show ¬ nn s = 42 from fun w => c1 ((q 42 (by omega)).mp w)), if_neg c1]
  by_cases c1 : s = 43
  · rw [if_pos (show nn s = 43 from (q 43 (by omega)).mpr c1), if_pos c1]; rfl
  rw [if_neg (show ¬ nn s = 43 from fun w => c1 ((q 43 (by omega)).mp w)), if_neg c1]
  by_cases c1 : s = 45
  · rw [if_pos (show nn s = 45 from (q 45 (by omega)).mpr c1), if_pos c1]; rfl
  rw [if_neg (show ¬ nn s = 45 from fun w => c1 ((q 45 (by omega)).mp w)), if_neg c1]
  by_cases c1 : s = 47
  · rw [if_pos (show nn s = 47 from (q 47 (by omega)).mpr c1), if_pos c1]; rfl
  rw [if_neg (show ¬ nn s = 47 from fun w => c1 ((q 47 (by omega)).mp w)), if_neg c1]
  by_cases c1 : s = 60
  · rw [if_pos (show nn s = 60 from (q 60 (by omega)).mpr c1), if_pos c1]; rfl
  rw [if_neg (show ¬ nn s = 60 from fun w => c1 ((q 60 (by omega)).mp w)), if_neg c1]
  rfl
/-- an item of both -/
def It (P : Nat) (C M : Dat) (i j : Nat) : Prop := ∃ op, dI C (P + 3) i = nn op ∧ dI M 225 j = nn op ∧ dI C (P + 4) i = dI M 226 j ∧ (op = 0 ∨ op = 1 ∨ op = 3 ∨ (5 ≤ op ∧ op ≤ 10)) ∧ (op = 1 ∨ op = 3 → ∃ x, x < 26 ∧ dI M 226 j = nn x ∧ (op = 3 → dI M 229 x = 3))
/-- items from b (class) and eb (model) on: n of both, pn more of the class alone whose signs the model still holds on its stack over s0; their ranks at least r -/
def Em (r P b eb n pn s0 : Nat) (C M : Dat) : Prop := dI C P 5 = nn (b + n + pn) ∧ dI M 207 34 = nn (eb + n) ∧ (∀ i, i < n → It P C M (b + i) (eb + i)) ∧ dI M 207 48 = nn (s0 + pn) ∧ ∀ i, i < pn → ∃ s, (1 ≤ zx_rk s ∧ r ≤ zx_rk s) ∧ dI M 234 (s0 + (pn - 1 - i)) = nn s ∧ dI C (P + 3) (b + n + i) = nn (zx_op s) ∧ dI C (P + 4) (b + n + i) = 0
def Ec (P b a k : Nat) : Prop := (a = P ∧ k = 5) ∨ ((a = P + 3 ∨ a = P + 4) ∧ b ≤ k)
theorem It.kept {P i j : Nat} {C M C' M' : Dat} (h : It P C M i j) (h1 : dI C' (P + 3) i = dI C (P + 3) i) (h2 : dI C' (P + 4) i = dI C (P + 4) i) (h3 : dI M' 225 j = dI M 225 j) (h4 : dI M' 226 j = dI M 226 j) (h5 : ∀ x, x < 26 → dI M 229 x = 3 → dI M' 229 x = 3) : It P C' M' i j := by
  obtain ⟨op, a1, a2, a3, a4, a5⟩ := h
  refine ⟨op, by rw [h1]; exact a1, by rw [h3]; exact a2, by rw [h2, h4]; exact a3, a4, fun w => ?_⟩
  obtain ⟨x, x1, x2, x3⟩ := a5 w
  exact ⟨x, x1, by rw [h4]; exact x2, fun q => h5 x x1 (x3 q)⟩
theorem zx_emitM {j : Nat} {M : Dat} {op x : Int32} (hj : j < 520) (h : dI M 207 34 = nn j) : f_X12_emit op x M = some (sI (sI (sI M 225 j op) 226 j x) 207 34 (nn (j + 1))) := by
  unfold f_X12_emit f_X12_emit_b30
  have i1 := nn_in (k := j) (n := 520) (by omega) (by omega)
  have d1 : ∀ y, dI (sI M 225 j y) 207 34 = nn j := fun y => by rw [dI_s, if_neg (by omega)]; exact h
  have d2 : ∀ y z, dI (sI (sI M 225 j y) 226 j z) 207 34 = nn j := fun y z => by rw [dI_s, if_neg (by omega)]; exact d1 y
  rw [h, if_neg i1, nn_nat (by omega), d1, if_neg i1, nn_nat (by omega), d2, nn_1]
theorem zx_addC {P z : Nat} {C : Dat} {op x : Int32} (hP : P = 191 ∨ P = 196) (hz : z < 240) (h : dI C P 5 = nn z) : f_X4_add P op x C = some (sI (sI (sI C (P + 3) z op) (P + 4) z x) P 5 (nn (z + 1))) := by
  unfold f_X4_add f_X4_add_b40
  have i1 := nn_in (k := z) (n := 240) (by omega) (by omega)
  have d1 : ∀ y, dI (sI C (P + 3) z y) P 5 = nn z := fun y => by rw [dI_s, if_neg (by omega)]; exact h
  have d2 : ∀ y w, dI (sI (sI C (P + 3) z y) (P + 4) z w) P 5 = nn z := fun y w => by rw [dI_s, if_neg (by omega)]; exact d1 y
  rw [h, if_neg (show ¬ (240 : Int32) ≤ nn z from fun w => by have := (nn_le (a := 240) (by omega) (by omega)).mp w; omega), if_neg i1, nn_nat (by omega), d1, if_neg i1, nn_nat (by omega), d2, nn_1]
/-- what flushing changes -/
def Fm (e0 eu a k : Nat) : Prop := (a = 207 ∧ (k = 34 ∨ k = 48)) ∨ ((a = 225 ∨ a = 226) ∧ e0 ≤ k ∧ k < eu)
def Top (r s0 : Nat) (M : Dat) : Prop := s0 = 0 ∨ ∃ s, s < 127 ∧ dI M 234 (s0 - 1) = nn s ∧ zx_rk s < r
theorem Top.kept {r s0 : Nat} {M M' : Dat} (h : Top r s0 M) (e : 0 < s0 → dI M' 234 (s0 - 1) = dI M 234 (s0 - 1)) : Top r s0 M' := by
  rcases h with h | ⟨s, h1, h2, h3⟩
  · exact Or.inl h
  · by_cases z : s0 = 0
    · exact Or.inl z
    · exact Or.inr ⟨s, h1, by rw [e (by omega)]; exact h2, h3⟩
theorem zx_flush_l {N r rr P b eb eu s0 : Nat} {C : Dat} (hr : 1 ≤ r ∧ r ≤ rr) (hr3 : r ≤ 3) : ∀ (pn n g : Nat) (M : Dat), pn < g → s0 + pn ≤ 60 → Em rr P b eb n pn s0 C M → eb + n + pn < eu → eu ≤ 520 → Top r s0 M → ∃ M', f_X12_flush_b0 N g (nn r) M = some M' ∧ Em rr P b eb (n + pn) 0 s0 C M' ∧ Ch (Fm (eb + n) eu) M M' := by
  intro pn
  induction pn with
  | zero =>
    intro n g M hg hs hE he heu hT
    obtain ⟨g, rfl⟩ : ∃ g', g = g' + 1 := ⟨g - 1, by omega⟩
    obtain ⟨e1, e2, e3, e4, e5⟩ := id hE
    rw [Nat.add_zero] at e4
    refine ⟨M, ?_, hE, Ch.rf⟩
    rw [f_X12_flush_b0, e4]
    unfold f_X12_flush_b57
    by_cases z : s0 = 0
    · rw [z, if_pos (by decide)]
    · rw [if_neg (show ¬ nn s0 ≤ 0 from fun w => by have := (nn_le (b := 0) (by omega) (by omega)).mp w; omega)]
      have s1 : nn s0 - (1 : Int32) = nn (s0 - 1) := nn_sub (b := 1) (by omega) (by omega)
      rw [s1, if_neg (nn_in (k := s0 - 1) (n := 64) (by omega) (by omega)), nn_nat (by omega)]
      rcases hT with w | ⟨s, h1, h2, h3⟩
      · exact absurd w z
      · have := zx_rk_b s
        rw [h2, zx_rank (by omega), bS, if_pos ((nn_lt (by omega) (by omega)).mpr h3)]
  | succ pn ih =>
    intro n g M hg hs hE he heu hT
    obtain ⟨g, rfl⟩ : ∃ g', g = g' + 1 := ⟨g - 1, by omega⟩
    obtain ⟨e1, e2, e3, e4, e5⟩ := id hE
    obtain ⟨s, ⟨q1, q1'⟩, q2, q3, q4⟩ := e5 0 (by omega)
    rw [show pn + 1 - 1 - 0 = pn by omega] at q2
    have hs1 := zx_rk_lt q1
    have hop := zx_op_b s
    have s1 : nn (s0 + (pn + 1)) - (1 : Int32) = nn (s0 + pn) := by
      have := nn_sub (a := s0 + (pn + 1)) (b := 1) (by omega) (by omega)
      rw [show s0 + (pn + 1) - 1 = s0 + pn by omega] at this
      exact this
    have hrb := zx_rk_b s
    rw [f_X12_flush_b0, e4, if_neg (show ¬ nn (s0 + (pn + 1)) ≤ 0 from fun w => by have := (nn_le (b := 0) (by omega) (by omega)).mp w; omega), s1, if_neg (nn_in (k := s0 + pn) (n := 64) (by omega) (by omega)), nn_nat (by omega), q2, zx_rank (by omega), bS, if_neg (fun w => by have := (nn_lt (by omega) (by omega)).mp w; omega), e4, s1]
    have d48 : dI (sI M 207 48 (nn (s0 + pn))) 207 48 = nn (s0 + pn) := by rw [dI_s, if_pos ⟨rfl, rfl⟩]
    have d34 : dI (sI M 207 48 (nn (s0 + pn))) 207 34 = nn (eb + n) := by rw [dI_s, if_neg (by omega)]; exact e2
    rw [d48, if_neg (nn_in (k := s0 + pn) (n := 64) (by omega) (by omega)), nn_nat (by omega), dI_s, if_neg (by omega), q2, zx_oper (by omega), bS, zx_emitM (by omega) d34, bS]
    have c1 : Ch (fun a k => (a = 207 ∧ (k = 34 ∨ k = 48)) ∨ ((a = 225 ∨ a = 226) ∧ k = eb + n)) M (sI (sI (sI (sI M 207 48 (nn (s0 + pn))) 225 (eb + n) (nn (zx_op s))) 226 (eb + n) 0) 207 34 (nn (eb + n + 1))) := Ch.sI (by omega) (Ch.sI (by omega) (Ch.sI (by omega) (Ch.sI (by omega) Ch.rf)))
    have v225 : dI (sI (sI (sI (sI M 207 48 (nn (s0 + pn))) 225 (eb + n) (nn (zx_op s))) 226 (eb + n) 0) 207 34 (nn (eb + n + 1))) 225 (eb + n) = nn (zx_op s) := by rw [dI_s, if_neg (by omega), dI_s, if_neg (by omega), dI_s, if_pos ⟨rfl, rfl⟩]
    have v226 : dI (sI (sI (sI (sI M 207 48 (nn (s0 + pn))) 225 (eb + n) (nn (zx_op s))) 226 (eb + n) 0) 207 34 (nn (eb + n + 1))) 226 (eb + n) = 0 := by rw [dI_s, if_neg (by omega), dI_s, if_pos ⟨rfl, rfl⟩]
    have v34 : dI (sI (sI (sI (sI M 207 48 (nn (s0 + pn))) 225 (eb + n) (nn (zx_op s))) 226 (eb + n) 0) 207 34 (nn (eb + n + 1))) 207 34 = nn (eb + n + 1) := by rw [dI_s, if_pos ⟨rfl, rfl⟩]
    have v48 : dI (sI (sI (sI (sI M 207 48 (nn (s0 + pn))) 225 (eb + n) (nn (zx_op s))) 226 (eb + n) 0) 207 34 (nn (eb + n + 1))) 207 48 = nn (s0 + pn) := by rw [dI_s, if_neg (by omega), dI_s, if_neg (by omega), dI_s, if_neg (by omega), d48]
    generalize sI (sI (sI (sI M 207 48 (nn (s0 + pn))) 225 (eb + n) (nn (zx_op s))) 226 (eb + n) 0) 207 34 (nn (eb + n + 1)) = M1 at *
    have cF : Ch (Fm (eb + n) eu) M M1 := c1.mono (fun a k w => by unfold Fm; omega)
    have hE1 : Em rr P b eb (n + 1) pn s0 C M1 := by
      refine ⟨by rw [e1]; congr 1; omega, by rw [v34]; congr 1, fun i hi => ?_, v48, fun i hi => ?_⟩
      · by_cases ei : i = n
        · subst ei
          refine ⟨zx_op s, by rw [Nat.add_zero] at q3; exact q3, v225, ?_, by omega, fun w => by omega⟩
          rw [v226]
          rw [Nat.add_zero] at q4; exact q4
        · exact (e3 i (by omega)).kept rfl rfl (c1.i (by omega)) (c1.i (by omega)) (fun x _ hx => by rw [c1.i (by omega)]; exact hx)
      · obtain ⟨s', a1, a2, a3, a4⟩ := e5 (i + 1) (by omega)
        refine ⟨s', a1, ?_, ?_, ?_⟩
        · rw [c1.i (by omega), show pn - 1 - i = pn + 1 - 1 - (i + 1) by omega]; exact a2
        · rw [show b + (n + 1) + i = b + n + (i + 1) by omega]; exact a3
        · rw [show b + (n + 1) + i = b + n + (i + 1) by omega]; exact a4
    obtain ⟨M', r1, r2, r4⟩ := ih (n + 1) g M1 (by omega) (by omega) hE1 (by omega) heu (hT.kept (fun h0 => c1.i (by omega)))
    exact ⟨M', r1, by rw [show n + (pn + 1) = n + 1 + pn by omega]; exact r2, cF.tr (r4.mono (fun a k w => by unfold Fm at w ⊢; omega))⟩
