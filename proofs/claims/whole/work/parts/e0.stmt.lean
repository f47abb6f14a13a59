/-! STATEMENTS: links, nodes, the state between statements -/
def Sx (S : Sr) : Sr := (S.1, S.2.1, S.2.2.1 - 1, S.2.2.2 - 6)
def Lk (nb h cnt : Nat) (r : Option Nat) (s : Int32) : Prop := (r = none ∧ s = -1) ∨ ∃ i, i < cnt ∧ r = some (nb + i) ∧ s = nn (64 * h + i)
theorem Lk.mono {nb h c c' : Nat} {r : Option Nat} {s : Int32} (h1 : Lk nb h c r s) (hc : c ≤ c') : Lk nb h c' r s := by
  rcases h1 with q | ⟨i, q1, q2⟩
  · exact Or.inl q
  · exact Or.inr ⟨i, by omega, q2⟩
def FsV (C M : Dat) (a m : Nat) : Prop := ∃ x, x < 26 ∧ dI C a 2 = nn x ∧ dI M 218 m = nn x ∧ (dI M 229 x = 1 ∨ dI M 229 x = 2)
def FsE (P h bz ez : Nat) (C M : Dat) (a es : Nat) : Prop := ∃ fr n, dI C a 4 = nn fr ∧ dI C a 5 = nn (fr + n) ∧ fr + n ≤ bz ∧ 260 * h ≤ es ∧ es + n < ez ∧ Ex P C M fr n es ∧ zx_h C P n fr 0 = some 1
def FsB (nu P nb h cnt bz ez : Nat) (C M : Dat) (a m : Nat) : Prop :=
  (dI C a 0 = 2 ∧ dI M 216 m = 1 ∧ FsV C M a m ∧ ∃ e, dI M 221 m = nn e ∧ FsE P h bz ez C M a e)
  ∨ (dI C a 0 = 4 ∧ dI M 216 m = 2 ∧ (∃ x, x < 26 ∧ dI C a 2 = nn x ∧ dI M 218 m = nn x ∧ dI M 229 x = 3) ∧ ∃ fr n1 n2 e1 e2, (dI C a 4 = nn fr ∧ dI C a 5 = nn (fr + n1 + n2) ∧ fr + n1 + n2 ≤ bz) ∧ (dI M 220 m = nn e1 ∧ dI M 221 m = nn e2 ∧ 260 * h ≤ e1 ∧ e1 + n1 < ez ∧ 260 * h ≤ e2 ∧ e2 + n2 < ez) ∧ Ex P C M fr n1 e1 ∧ Ex P C M (fr + n1) n2 e2 ∧ zx_h C P n1 fr 0 = some 1 ∧ (zx_h C P n2 (fr + n1) 0 = some 1 ∧ zx_h C P n2 (fr + n1) 1 = some 2))
  ∨ (dI C a 0 = 13 ∧ dI M 216 m = 5 ∧ FsV C M a m ∧ (∃ l, l < nu ∧ dI C a 3 = nn l ∧ dI M 219 m = nn l) ∧ ∃ fr, fr ≤ bz ∧ dI C a 4 = nn fr ∧ dI C a 5 = nn fr)
  ∨ (dI C a 0 = 14 ∧ dI M 216 m = 6 ∧ (∃ l, l < nu ∧ dI C a 3 = nn l ∧ dI M 219 m = nn l) ∧ ∃ e, dI M 220 m = nn e ∧ FsE P h bz ez C M a e)
  ∨ (dI C a 0 = 16 ∧ dI M 216 m = 3 ∧ (∃ e, dI M 220 m = nn e ∧ FsE P h bz ez C M a e) ∧ Lk nb h cnt (dR C a 6) (dI M 222 m) ∧ ((dI C a 8 = 0 ∧ dI M 219 m = 0 ∧ dR C a 7 = none ∧ dI M 223 m = -1) ∨ (dI C a 8 = 1 ∧ dI M 219 m = 1 ∧ Lk nb h cnt (dR C a 7) (dI M 223 m))))
  ∨ (dI C a 0 = 17 ∧ dI M 216 m = 4 ∧ (∃ e, dI M 220 m = nn e ∧ FsE P h bz ez C M a e) ∧ Lk nb h cnt (dR C a 6) (dI M 222 m))
  ∨ (dI C a 0 = 18 ∧ dI M 216 m = 7 ∧ ∃ x, x < 26 ∧ dI C a 2 = nn x ∧ dI M 218 m = nn x ∧ dI M 229 x = 5)
def Fs (nu P nb h cnt bz ez : Nat) (C M : Dat) (i : Nat) : Prop := (∃ pl, pl ≤ 240 ∧ dI C (nb + i) 1 = nn pl ∧ dI M 217 (64 * h + i) = nn pl) ∧ FsB nu P nb h cnt bz ez C M (nb + i) (64 * h + i)
def Nx (nb h cnt : Nat) (C M : Dat) (i : Nat) : Prop := Lk nb h cnt (dR C (nb + i) 9) (dI M 224 (64 * h + i))
/-- what a width X of statement i must be above: the widths of its blocks, of the proc that it does -/
def Wq (P nb jE : Nat) (W : Nat → Nat) (C : Dat) (i X : Nat) : Prop := (∀ i', dR C (nb + i) 6 = some (nb + i') ∨ dR C (nb + i) 7 = some (nb + i') → i < i' ∧ W i' + 5 ≤ X) ∧ (dI C (nb + i) 0 = 18 → ∀ x, x < 26 → dI C (nb + i) 2 = nn x → ∀ i', dR C (P + 1) x = some (nb + i') → i' < jE ∧ W i' + 5 ≤ X)
def Wc (P nb jE : Nat) (W : Nat → Nat) (C : Dat) (i : Nat) : Prop := Wq P nb jE W C i (W i) ∧ ∀ i', dR C (nb + i) 9 = some (nb + i') → i < i' ∧ W i' ≤ W i
def Sk (nb j : Nat) (K0 : Nat → Nat) (S : Sr) : Prop := S.1 = nb + j ∧ S.2.2.1 + j = 9100 ∧ S.2.2.2 + 10 * j = 111000 ∧ NS ≤ nb ∧ (∀ a, nb ≤ a → a < nb + j → S.2.1 a = 7) ∧ ∀ a, a < nb → S.2.1 a = K0 a
def Si (nu len P : Nat) (tx : Nat → Nat) (nb h o p e t v j b w : Nat) (K0 : Nat → Nat) (S : Sr) (C M : Dat) : Prop := Rd nu len P tx o p e t v C M ∧ Sk nb j K0 S ∧ (dI M 207 33 = nn (64 * h + j) ∧ dI M 207 35 = nn h ∧ h ≤ 1 ∧ 4 * j ≤ p) ∧ (dI C P 5 = nn b ∧ dI M 207 34 = nn (260 * h + b + w) ∧ b + w ≤ p) ∧ dI M 207 44 = nn (o + 1)
/-- where the model puts the first statement of the innermost block -/
def Bk (h o j sa si : Nat) (M : Dat) : Prop := (dI M 231 o = 0 ∧ sa = 228 ∧ si = h) ∨ (dI M 231 o = 1 ∧ sa = 227 ∧ ∃ y, y < 26 ∧ dI M 232 o = nn y ∧ si = 26 * h + y) ∨ (dI M 231 o = 2 ∧ sa = 222 ∧ ∃ y, y < j ∧ dI M 232 o = nn (64 * h + y) ∧ si = 64 * h + y) ∨ (dI M 231 o = 3 ∧ sa = 223 ∧ ∃ y, y < j ∧ dI M 232 o = nn (64 * h + y) ∧ si = 64 * h + y)
/-- the link that the next statement is put into: the slot, or behind the last one -/
def Lq (h o j sa si la li : Nat) (M : Dat) : Prop := (dI M 233 o = -1 ∧ la = sa ∧ li = si) ∨ ∃ y, y < j ∧ dI M 233 o = nn (64 * h + y) ∧ la = 224 ∧ li = 64 * h + y
def YC (P nb j b a k : Nat) : Prop := (a = 3 ∧ 5 ≤ k ∧ k ≤ 9) ∨ a = 5 ∨ Ec P b a k ∨ nb + j ≤ a
def YM (h j e0 o la li a k : Nat) : Prop := (a = 207 ∧ (k = 33 ∨ k = 34 ∨ (36 ≤ k ∧ k ≤ 41) ∨ k = 44 ∨ k = 48 ∨ k = 51)) ∨ ((216 ≤ a ∧ a ≤ 224) ∧ 64 * h + j ≤ k ∧ k < 64 * h + 64) ∨ ((a = 225 ∨ a = 226) ∧ e0 ≤ k ∧ k < 260 * h + 260) ∨ a = 229 ∨ ((a = 231 ∨ a = 232) ∧ o + 1 ≤ k) ∨ (a = 233 ∧ o ≤ k) ∨ (234 ≤ a ∧ a ≤ 236) ∨ (a = la ∧ k = li)
theorem Sk.sb {nb j : Nat} {K0 : Nat → Nat} {S : Sr} (h : Sk nb j K0 S) (hj : j ≤ 100) : Sb S := by
  obtain ⟨h1, h2, h3, h4⟩ := h
  exact ⟨by omega, by omega⟩
/-- the class makes a statement -/
theorem zs_start {nu nb j P b p : Nat} {K0 : Nat → Nat} {S : Sr} {C : Dat} {kind : Int32} (hS : Sk nb j K0 S) (hj : j ≤ 100) (hP : P = 191 ∨ P = 196) (h34 : dR C 3 4 = some P) (h5 : dI C P 5 = nn b) (h7 : dI C 3 7 = nn p) : ∃ S' C', f_X5_start nu kind S C = some (.inr (some (nb + j)), S', C') ∧ Sk nb (j + 1) K0 S' ∧ kd S'.2.1 (nb + j) = 7 ∧ Ch (fun a _ => a = nb + j) C C' ∧ dI C' (nb + j) 0 = kind ∧ dI C' (nb + j) 1 = nn p ∧ dI C' (nb + j) 4 = nn b ∧ dI C' (nb + j) 5 = nn b ∧ dI C' (nb + j) 8 = 0 ∧ dR C' (nb + j) 6 = none ∧ dR C' (nb + j) 7 = none ∧ dR C' (nb + j) 9 = none := by
  obtain ⟨h1, h2, h3, h4, h6, h8⟩ := hS
  unfold f_X5_start f_X4_size
  have n3 : ∀ b' k', b' ≠ nb + j → dI (sN C (nb + j)) b' k' = dI C b' k' := fun b' k' hb => by rw [dI_N, if_neg hb]
  have n3r : dR (sN C (nb + j)) 3 4 = some P := by rw [dR_N, if_neg (by unfold NS at h4; omega)]; exact h34
  rw [h1, if_pos ⟨by omega, by omega, by omega⟩, n3r]
  show ∃ S' C', (if P = 191 ∨ P = 196 then _ else _) = _ ∧ _
  rw [if_pos hP, bS, n3 P 5 (by unfold NS at h4; omega), h5, n3 3 7 (by unfold NS at h4; omega), h7]
  refine ⟨_, _, rfl, ⟨by show nb + j + 1 = nb + (j + 1); omega, by show S.2.2.1 - 1 + (j + 1) = 9100; omega, by show S.2.2.2 - 10 + 10 * (j + 1) = 111000; omega, h4, fun a g1 g2 => ?_, fun a g => ?_⟩, ?_, ?_, ?_⟩
  · show va_up S.2.1 (nb + j) 7 a = 7
    by_cases e : a = nb + j
    · rw [e, va_up_self]
    · rw [va_up_ne _ _ e]; exact h6 a g1 (by omega)
  · show va_up S.2.1 (nb + j) 7 a = K0 a
    rw [va_up_ne _ _ (by omega)]; exact h8 a g
  · show kd (va_up S.2.1 (nb + j) 7) (nb + j) = 7
    rw [kd, if_neg (by omega), va_up_self]
  · unfold f_X7_init
    refine Ch.sI rfl (Ch.sI rfl (Ch.sI rfl (Ch.sI rfl (fun a k ha => ⟨?_, ?_, ?_⟩))))
    · rw [dI_N, if_neg ha]
    · rw [dL_N, if_neg ha]
    · rw [dR_N, if_neg ha]
  · unfold f_X7_init
    refine ⟨?_, ?_, ?_, ?_, ?_, ?_, ?_, ?_⟩
    · rw [dI_s, if_neg (by omega), dI_s, if_neg (by omega), dI_s, if_neg (by omega), dI_s, if_pos ⟨rfl, rfl⟩]
    · rw [dI_s, if_neg (by omega), dI_s, if_neg (by omega), dI_s, if_pos ⟨rfl, rfl⟩]
    · rw [dI_s, if_neg (by omega), dI_s, if_pos ⟨rfl, rfl⟩]
    · rw [dI_s, if_pos ⟨rfl, rfl⟩]
    · rw [dI_s, if_neg (by omega), dI_s, if_neg (by omega), dI_s, if_neg (by omega), dI_s, if_neg (by omega), dI_N, if_pos rfl]
    · show dR (sN C (nb + j)) (nb + j) 6 = none
      rw [dR_N, if_pos rfl]
    · show dR (sN C (nb + j)) (nb + j) 7 = none
      rw [dR_N, if_pos rfl]
    · show dR (sN C (nb + j)) (nb + j) 9 = none
      rw [dR_N, if_pos rfl]
/-- the model makes a statement -/
def Ma (h j o la li a k : Nat) : Prop := (a = 207 ∧ k = 33) ∨ ((a = 217 ∨ a = 219 ∨ a = 222 ∨ a = 223 ∨ a = 224) ∧ k = 64 * h + j) ∨ (a = la ∧ k = li) ∨ (a = 233 ∧ k = o)
theorem zs_at {h j o p sa si la li : Nat} {M : Dat} (hh : h ≤ 1) (hj : j < 64) (ho : o ≤ 8) (h33 : dI M 207 33 = nn (64 * h + j)) (h35 : dI M 207 35 = nn h) (h44 : dI M 207 44 = nn (o + 1)) (hB : Bk h o j sa si M) (hL : Lq h o j sa si la li M) : ∃ M', f_X12_statementAt (nn p) M = some (nn (64 * h + j), M') ∧ Ch (Ma h j o la li) M M' ∧ dI M' 207 33 = nn (64 * h + (j + 1)) ∧ dI M' 217 (64 * h + j) = nn p ∧ dI M' 219 (64 * h + j) = 0 ∧ dI M' 222 (64 * h + j) = -1 ∧ dI M' 223 (64 * h + j) = -1 ∧ dI M' 224 (64 * h + j) = -1 ∧ dI M' la li = nn (64 * h + j) ∧ dI M' 233 o = nn (64 * h + j) := by
  have i1 := nn_in (k := 64 * h + j) (n := 128) (by omega) (by omega)
  have io := nn_in (k := o) (n := 10) (by omega) (by omega)
  have io' : ¬ (nn o < 0 ∨ 10 ≤ o) := by have := io; rw [nn_nat (by omega)] at this; exact this
  unfold f_X12_statementAt
  rw [h33, if_neg i1, if_neg i1, if_neg i1, if_neg i1, if_neg i1, nn_nat (by omega), nn_1]
  have c1 : Ch (fun a k => (a = 207 ∧ k = 33) ∨ ((a = 217 ∨ a = 219 ∨ a = 222 ∨ a = 223 ∨ a = 224) ∧ k = 64 * h + j)) M (sI (sI (sI (sI (sI (sI M 207 33 (nn (64 * h + j + 1))) 217 (64 * h + j) (nn p)) 224 (64 * h + j) (-1)) 222 (64 * h + j) (-1)) 223 (64 * h + j) (-1)) 219 (64 * h + j) 0) := Ch.sI (by omega) (Ch.sI (by omega) (Ch.sI (by omega) (Ch.sI (by omega) (Ch.sI (by omega) (Ch.sI (by omega) Ch.rf)))))
  have w33 : dI (sI (sI (sI (sI (sI (sI M 207 33 (nn (64 * h + j + 1))) 217 (64 * h + j) (nn p)) 224 (64 * h + j) (-1)) 222 (64 * h + j) (-1)) 223 (64 * h + j) (-1)) 219 (64 * h + j) 0) 207 33 = nn (64 * h + j + 1) := by rw [dI_s, if_neg (by omega), dI_s, if_neg (by omega), dI_s, if_neg (by omega), dI_s, if_neg (by omega), dI_s, if_neg (by omega), dI_s, if_pos ⟨rfl, rfl⟩]
  have w217 : dI (sI (sI (sI (sI (sI (sI M 207 33 (nn (64 * h + j + 1))) 217 (64 * h + j) (nn p)) 224 (64 * h + j) (-1)) 222 (64 * h + j) (-1)) 223 (64 * h + j) (-1)) 219 (64 * h + j) 0) 217 (64 * h + j) = nn p := by rw [dI_s, if_neg (by omega), dI_s, if_neg (by omega), dI_s, if_neg (by omega), dI_s, if_neg (by omega), dI_s, if_pos ⟨rfl, rfl⟩]
  have w224 : dI (sI (sI (sI (sI (sI (sI M 207 33 (nn (64 * h + j + 1))) 217 (64 * h + j) (nn p)) 224 (64 * h + j) (-1)) 222 (64 * h + j) (-1)) 223 (64 * h + j) (-1)) 219 (64 * h + j) 0) 224 (64 * h + j) = -1 := by rw [dI_s, if_neg (by omega), dI_s, if_neg (by omega), dI_s, if_neg (by omega), dI_s, if_pos ⟨rfl, rfl⟩]
  have w222 : dI (sI (sI (sI (sI (sI (sI M 207 33 (nn (64 * h + j + 1))) 217 (64 * h + j) (nn p)) 224 (64 * h + j) (-1)) 222 (64 * h + j) (-1)) 223 (64 * h + j) (-1)) 219 (64 * h + j) 0) 222 (64 * h + j) = -1 := by rw [dI_s, if_neg (by omega), dI_s, if_neg (by omega), dI_s, if_pos ⟨rfl, rfl⟩]
  have w223 : dI (sI (sI (sI (sI (sI (sI M 207 33 (nn (64 * h + j + 1))) 217 (64 * h + j) (nn p)) 224 (64 * h + j) (-1)) 222 (64 * h + j) (-1)) 223 (64 * h + j) (-1)) 219 (64 * h + j) 0) 223 (64 * h + j) = -1 := by rw [dI_s, if_neg (by omega), dI_s, if_pos ⟨rfl, rfl⟩]
  have w219 : dI (sI (sI (sI (sI (sI (sI M 207 33 (nn (64 * h + j + 1))) 217 (64 * h + j) (nn p)) 224 (64 * h + j) (-1)) 222 (64 * h + j) (-1)) 223 (64 * h + j) (-1)) 219 (64 * h + j) 0) 219 (64 * h + j) = 0 := by rw [dI_s, if_pos ⟨rfl, rfl⟩]
  generalize sI (sI (sI (sI (sI (sI M 207 33 (nn (64 * h + j + 1))) 217 (64 * h + j) (nn p)) 224 (64 * h + j) (-1)) 222 (64 * h + j) (-1)) 223 (64 * h + j) (-1)) 219 (64 * h + j) 0 = E at *
  have s1 : nn (o + 1) - (1 : Int32) = nn o := by
    have := nn_sub (a := o + 1) (b := 1) (by omega) (by omega)
    rw [Nat.add_sub_cancel] at this
    exact this
  rw [c1.i (by omega), h44, s1]
  -- the link
  have fin : ∀ E', Ch (fun a k => a = la ∧ k = li) E E' → dI E' la li = nn (64 * h + j) → (la = 224 → li < 64 * h + j) → (la = 222 ∨ la = 223 → li < 64 * h + j) → (la = 227 ∨ la = 228 ∨ la = 222 ∨ la = 223 ∨ la = 224) → ∃ M', f_X12_statementAt_b173 (nn (64 * h + j)) (nn o) E' = some (nn (64 * h + j), M') ∧ Ch (Ma h j o la li) M M' ∧ dI M' 207 33 = nn (64 * h + (j + 1)) ∧ dI M' 217 (64 * h + j) = nn p ∧ dI M' 219 (64 * h + j) = 0 ∧ dI M' 222 (64 * h + j) = -1 ∧ dI M' 223 (64 * h + j) = -1 ∧ dI M' 224 (64 * h + j) = -1 ∧ dI M' la li = nn (64 * h + j) ∧ dI M' 233 o = nn (64 * h + j) := by
    intro E' cE vE g1 g2 g3
    unfold f_X12_statementAt_b173
    rw [if_neg io, nn_nat (by omega)]
    have c3 : Ch (fun a k => a = 233 ∧ k = o) E' (sI E' 233 o (nn (64 * h + j))) := Ch.sI ⟨rfl, rfl⟩ Ch.rf
    refine ⟨_, rfl, (c1.mono (fun a k q => by unfold Ma; omega)).tr ((cE.mono (fun a k q => by unfold Ma; omega)).tr (c3.mono (fun a k q => by unfold Ma; omega))), ?_, ?_, ?_, ?_, ?_, ?_, ?_, ?_⟩
    · rw [c3.i (by omega), cE.i (by omega)]; exact w33
    · rw [c3.i (by omega), cE.i (by omega)]; exact w217
    · rw [c3.i (by omega), cE.i (by omega)]; exact w219
    · rw [c3.i (by omega), cE.i (by omega)]; exact w222
    · rw [c3.i (by omega), cE.i (by omega)]; exact w223
    · rw [c3.i (by omega), cE.i (by omega)]; exact w224
    · rw [c3.i (by omega)]; exact vE
    · rw [dI_s, if_pos ⟨rfl, rfl⟩]
  unfold f_X12_statementAt_b57
  rw [if_neg io, nn_nat (by omega)]
  rw [c1.i (by omega)]
  rcases hL with ⟨q1, q2, q3⟩ | ⟨y, q1, q2, q3, q4⟩
  · rw [q1, if_pos (by decide), if_neg io', c1.i (by omega)]
    subst q2 q3
    rcases hB with ⟨u1, u2, u3⟩ | ⟨u1, u2, y, u3, u4, u5⟩ | ⟨u1, u2, y, u3, u4, u5⟩ | ⟨u1, u2, y, u3, u4, u5⟩
    · rw [u1, if_pos rfl, c1.i (by omega), h35, if_neg (nn_in (k := h) (n := 2) (by omega) (by omega)), nn_nat (by omega)]
      subst u2 u3
      exact fin _ (Ch.sI ⟨rfl, rfl⟩ Ch.rf) (by rw [dI_s, if_pos ⟨rfl, rfl⟩]) (fun q => absurd q (by decide)) (fun q => absurd q (by decide)) (by omega)
    · rw [u1, if_neg (by decide), if_neg io', if_pos rfl, if_neg io', c1.i (by omega), c1.i (by omega), h35, u4]
      have s2 : (26 : Int32) * nn h + nn y = nn (26 * h + y) := by rw [nn_l, nn_mul, nn_add]
      rw [s2, if_neg (nn_in (k := 26 * h + y) (n := 52) (by omega) (by omega)), nn_nat (by omega)]
      subst u2 u5
      exact fin _ (Ch.sI ⟨rfl, rfl⟩ Ch.rf) (by rw [dI_s, if_pos ⟨rfl, rfl⟩]) (fun q => absurd q (by decide)) (fun q => absurd q (by decide)) (by omega)
    · rw [u1, if_neg (by decide), if_neg io', if_neg (by decide), if_neg io', if_pos rfl, if_neg io', c1.i (by omega), u4, if_neg (nn_in (k := 64 * h + y) (n := 128) (by omega) (by omega)), nn_nat (by omega)]
      subst u2 u5
      exact fin _ (Ch.sI ⟨rfl, rfl⟩ Ch.rf) (by rw [dI_s, if_pos ⟨rfl, rfl⟩]) (fun q => absurd q (by decide)) (fun q => by omega) (by omega)
    · rw [u1, if_neg (by decide), if_neg io', if_neg (by decide), if_neg io', if_neg (by decide), if_neg io', c1.i (by omega), u4, if_neg (nn_in (k := 64 * h + y) (n := 128) (by omega) (by omega)), nn_nat (by omega)]
      subst u2 u5
      exact fin _ (Ch.sI ⟨rfl, rfl⟩ Ch.rf) (by rw [dI_s, if_pos ⟨rfl, rfl⟩]) (fun q => absurd q (by decide)) (fun q => by omega) (by omega)
  · rw [q2, if_neg (nn_nlt0 (by omega)), if_neg io', if_neg (nn_in (k := 64 * h + y) (n := 128) (by omega) (by omega)), nn_nat (by omega)]
    subst q3 q4
    exact fin _ (Ch.sI ⟨rfl, rfl⟩ Ch.rf) (by rw [dI_s, if_pos ⟨rfl, rfl⟩]) (fun q => by omega) (fun q => absurd q (by decide)) (by omega)
/-! tokens that both take -/
theorem zs_expB {N q : Nat} {M : Dat} (hq : q < 1000) (h : dI M 207 40 = nn q) (c : Int32) : f_X12_expect N c M = some M := by
  unfold f_X12_expect
  rw [h, if_neg (nn_nlt0 (by omega))]
theorem zs_opB {N q : Nat} {M : Dat} (hq : q < 1000) (h : dI M 207 40 = nn q) (c : Int32) : f_X12_opening N c M = some M := by
  unfold f_X12_opening
  rw [h, if_neg (nn_nlt0 (by omega))]
theorem zs_labB {N q : Nat} {M : Dat} (hq : q < 1000) (h : dI M 207 40 = nn q) : f_X12_labelToken N M = some (0, M) := by
  unfold f_X12_labelToken
  rw [h, if_neg (nn_nlt0 (by omega))]
theorem zs_take {N nu len P : Nat} {tx : Nat → Nat} {o p e t v c : Nat} (hN : 1000 ≤ N) {S : Sr} {C M : Dat} (hR : Rd nu len P tx o p e t v C M) (hS : Sb S) (hc : zl_S c = true) : (∃ p' e' t' v' C' M', f_X5_take nu (nn c) S C = some (.inr (), S, C') ∧ f_X12_expect N (nn c) M = some M' ∧ p + 1 ≤ p' ∧ p' ≤ 240 ∧ Rd nu len P tx o p' e' t' v' C' M' ∧ Ch QlC C C' ∧ Ch QlM M M') ∨ (f_X5_take nu (nn c) S C = some (.inl 4, Sx S, C) ∧ f_X12_expect N (nn c) M = some (sI M 207 40 (nn p))) := by
  obtain ⟨hB, hkC, hkM, hTk⟩ := id hR
  have ht := zx_tok_lt hTk
  have hc' := zl_Si.mp hc
  unfold f_X5_take f_X12_expect f_X12_expect_b27
  rw [hkC.2.2.1, hkM.2.2.1, hB.2.2.1, if_pos (show (-1 : Int32) < 0 by decide)]
  by_cases q : t = c
  · left
    rw [if_pos ((zx_tkC ht hc).mpr q), if_pos ((zx_tkM ht hc).mpr q)]
    obtain ⟨p', e', t', v', C', M', a1, a2, a3, a4, a5, a6, a7⟩ := zx_adv hN hB
    have := hTk.2.1 (by omega)
    refine ⟨p', e', t', v', C', M', by rw [a1, bS], by rw [a2, bS], by omega, a4, a5, a6, a7⟩
  · right
    rw [if_neg (fun w => q ((zx_tkC ht hc).mp w)), if_neg (fun w => q ((zx_tkM ht hc).mp w)), if_pos (show 1 ≤ S.2.2.1 ∧ 6 ≤ S.2.2.2 from hS), zx_wrong hB.2.2.1 hkM.1]
    exact ⟨rfl, rfl⟩
theorem zs_label {N nu len P : Nat} {tx : Nat → Nat} {o p e t v : Nat} (hN : 1000 ≤ N) {S : Sr} {C M : Dat} (hR : Rd nu len P tx o p e t v C M) (hS : Sb S) : (v < nu ∧ ∃ p' e' t' v' C' M', f_X5_takeLabel nu S C = some (.inr (nn v), S, C') ∧ f_X12_labelToken N M = some (nn v, M') ∧ p + 1 ≤ p' ∧ p' ≤ 240 ∧ Rd nu len P tx o p' e' t' v' C' M' ∧ Ch QlC C C' ∧ Ch QlM M M') ∨ (f_X5_takeLabel nu S C = some (.inl 4, Sx S, C) ∧ f_X12_labelToken N M = some (0, sI M 207 40 (nn p))) := by
  obtain ⟨hB, hkC, hkM, hTk⟩ := id hR
  have ht := zx_tok_lt hTk
  have hmt := zx_mt_lt ht
  have hp240 : p ≤ 240 := by have := hTk.1; have := hB.1.1.1; omega
  obtain ⟨n6, d1, d2⟩ := hB.2.2.2.2.2.1
  unfold f_X5_takeLabel f_X5_takeLabel_b22 f_X12_labelToken f_X12_labelToken_b31 f_X12_labelToken_b42 f_X12_labelToken_b54
  rw [hkC.2.2.1, hkM.2.2.1, hB.2.2.1, if_pos (show (-1 : Int32) < 0 by decide)]
  have bad : ∀ x : Int32, ((f_X12_wrong M).bind (fun p2 => if 0 ≤ (dI p2 207 40) then some ((0 : Int32), p2) else some (x, p2))) = some (0, sI M 207 40 (nn p)) := fun x => by
    have d40 : dI (sI M 207 40 (nn p)) 207 40 = nn p := by rw [dI_s, if_pos ⟨rfl, rfl⟩]
    rw [zx_wrong hB.2.2.1 hkM.1, bS, d40, if_pos (show (0 : Int32) ≤ nn p from (nn_le (a := 0) (by omega) (by omega)).mpr (by omega))]
  by_cases q : t = 2
  · subst q
    have v9 : v < 1000000000 := hTk.2.2.2.2.1 rfl
    have k9 : dI C 3 9 = nn v := by rw [hkC.2.2.2, if_pos (Or.inr rfl)]
    have k38 : dI M 207 38 = nn v := hkM.2.2.2 (Or.inr (Or.inl rfl))
    rw [if_pos (show nn (zl_ck 2 v) = 2 from rfl), if_pos (show nn (zl_mt 2) = 35 from rfl), k9, k38, d2]
    by_cases l : v < nu
    · left
      rw [has_yes n6 l d1, bS, if_neg (show ¬ (1 : Int32) = 0 by decide), if_pos ((nn_lt (by omega) (by omega)).mpr l)]
      obtain ⟨p', e', t', v', C', M', a1, a2, a3, a4, a5, a6, a7⟩ := zx_adv hN hB
      have := hTk.2.1 (by omega)
      refine ⟨l, p', e', t', v', C', M', by rw [a1, bS, k9], ?_, by omega, a4, a5, a6, a7⟩
      rw [a2, bS, a5.1.2.2.1, if_neg m1_lt]
    · right
      rw [has_no n6 (show (nn v).toInt < 0 ∨ (nu : Int) ≤ (nn v).toInt by rw [nn_int (by omega)]; omega) d1, bS, if_pos rfl, if_pos (show 1 ≤ S.2.2.1 ∧ 6 ≤ S.2.2.2 from hS), if_neg (fun w => l ((nn_lt (by omega) (by omega)).mp w))]
      exact ⟨rfl, bad _⟩
  · right
    rw [if_neg (show ¬ nn (zl_ck t v) = 2 from fun w => q ((zx_tk012 (s := 2) ht (by decide)).mp w)), if_pos (show 1 ≤ S.2.2.1 ∧ 6 ≤ S.2.2.2 from hS), if_neg (show ¬ nn (zl_mt t) = 35 from fun w => by
      have w := (nn_eq (b := 35) (by omega) (by omega)).mp w
      rcases hTk.2.2.2.2.2.1 with a | a
      · unfold zl_mt at w
        repeat' split at w
        all_goals omega
      · have := zl_Si.mp a
        rw [zx_mt (by omega)] at w
        omega)]
    exact ⟨rfl, bad _⟩
