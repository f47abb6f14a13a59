/-! advance and next -/
def zl_bk (tx : Nat → Nat) (i : Nat) : Bool := decide (tx i = 32)
def zl_lt (tx : Nat → Nat) (i : Nat) : Bool := zl_L (tx i)
def zl_dt (tx : Nat → Nat) (i : Nat) : Bool := zl_D (tx i)
def zl_nv (tx : Nat → Nat) : Nat → Nat → Nat → Nat
  | 0, _, a => a
  | k + 1, i, a => zl_nv tx k (i + 1) (10 * a + (tx i - 48))
def zl_cv (tx : Nat → Nat) : Nat → Nat → Nat → Nat
  | 0, _, a => a
  | k + 1, i, a => zl_cv tx k (i + 1) (32 * a + (tx i - 96))
def zl_kw (c : Nat) : Nat := if c = 143 then 9 else if c = 294 then 4 else if c = 302 then 7 else if c = 16052 then 8 else if c = 18935 then 2 else if c = 22578 then 1 else if c = 176741 then 5 else if c = 543203 then 3 else if c = 24388997 then 6 else 0
/-- where the token ends, its kind (0 end, 1 name, 2 number, 3 unknown, 4 another word, else the sign), its value -/
def zl_e (len : Nat) (tx : Nat → Nat) (p : Nat) : Nat := if p < len then (if zl_L (tx p) = true then zl_run (zl_lt tx) (len - (p + 1)) (p + 1) else if zl_D (tx p) = true then zl_run (zl_dt tx) (len - (p + 1)) (p + 1) else p + 1) else len
def zl_t (len : Nat) (tx : Nat → Nat) (p : Nat) : Nat := if p < len then (if zl_L (tx p) = true then (if zl_e len tx p - p = 1 then 1 else 4) else if zl_D (tx p) = true then (if zl_e len tx p - p ≤ 9 then 2 else 3) else if zl_S (tx p) = true then tx p else 3) else 0
def zl_v (len : Nat) (tx : Nat → Nat) (p : Nat) : Nat := if zl_L (tx p) = true then (if zl_e len tx p - p = 1 then tx p - 97 else if zl_e len tx p - p ≤ 5 then zl_kw (zl_cv tx (zl_e len tx p - p) p 0) else 0) else zl_nv tx (zl_e len tx p - p) p 0
/-- the class's kind of a token -/
def zl_ck (t v : Nat) : Nat := if t = 4 then [3, 20, 21, 22, 16, 23, 17, 13, 14, 18].getD v 3 else t
def zl_vl (t v : Nat) : Int32 := if t = 1 ∨ t = 2 then nn v else -1
def TkC (p e t v : Nat) (C : Dat) : Prop := dI C 3 7 = nn p ∧ True ∧ dI C 3 6 = nn (zl_ck t v) ∧ dI C 3 9 = (if t = 1 ∨ t = 2 then nn v else -1)
def zl_mt (t : Nat) : Nat := if t = 1 then 110 else if t = 2 then 35 else if t = 3 then 1 else if t = 4 then 107 else t
def TkM (p e t v : Nat) (M : Dat) : Prop := dI M 207 39 = nn p ∧ dI M 207 36 = nn e ∧ dI M 207 37 = nn (zl_mt t) ∧ (t = 1 ∨ t = 2 ∨ t = 4 → dI M 207 38 = nn v)
def QlC (a k : Nat) : Prop := a = 3 ∧ 6 ≤ k ∧ k ≤ 9
def QlM (a k : Nat) : Prop := a = 207 ∧ 36 ≤ k ∧ k ≤ 39
theorem zl_LD {c : Nat} (h : zl_L c = true) : ¬ zl_D c = true := fun w => by have := zl_Li.mp h; have := zl_Di.mp w; omega
theorem zl_ckw : ∀ v, v < 10 → (zl_ck 4 v = 3 ∨ zl_ck 4 v = 13 ∨ zl_ck 4 v = 14 ∨ (16 ≤ zl_ck 4 v ∧ zl_ck 4 v ≤ 18) ∨ (20 ≤ zl_ck 4 v ∧ zl_ck 4 v ≤ 23)) := by decide
theorem zl_ckt {t v : Nat} (h : ¬ t = 4) : zl_ck t v = t := if_neg h
/-- a token's first sign; where the j-th token is looked for -/
def zl_p (len : Nat) (tx : Nat → Nat) (b : Nat) : Nat := zl_run (zl_bk tx) (len - b) b
def zl_T (len : Nat) (tx : Nat → Nat) : Nat → Nat
  | 0 => 0
  | j + 1 => zl_e len tx (zl_p len tx (zl_T len tx j))
/-- the j-th token in the class's rows -/
def TEn (len : Nat) (tx : Nat → Nat) (C : Dat) (j : Nat) : Prop := dI C 264 j = nn (zl_p len tx (zl_T len tx j)) ∧ dI C 263 j = nn (zl_ck (zl_t len tx (zl_p len tx (zl_T len tx j))) (zl_v len tx (zl_p len tx (zl_T len tx j)))) ∧ dI C 265 j = zl_vl (zl_t len tx (zl_p len tx (zl_T len tx j))) (zl_v len tx (zl_p len tx (zl_T len tx j)))
def TB (len : Nat) (tx : Nat → Nat) (cnt : Nat) (C : Dat) : Prop := (1 ≤ cnt ∧ cnt ≤ 241) ∧ dI C 3 13 = nn cnt ∧ (∀ j, j < cnt → TEn len tx C j) ∧ zl_p len tx (zl_T len tx (cnt - 1)) = len
/-- the class stands at a token that ends at e -/
def AtE (len : Nat) (tx : Nat → Nat) (C : Dat) (e : Nat) : Prop := ∃ cnt i, TB len tx cnt C ∧ i < cnt ∧ dI C 3 8 = nn i ∧ zl_T len tx (i + 1) = e
def RTb (a k : Nat) : Prop := (a = 3 ∧ k = 13) ∨ (263 ≤ a ∧ a ≤ 265)
theorem TEn.kept {len j : Nat} {tx : Nat → Nat} {C C' : Dat} {X : Nat → Nat → Prop} (h : TEn len tx C j) (c : Ch X C C') (hx : ∀ a, X a j → ¬ (263 ≤ a ∧ a ≤ 265)) : TEn len tx C' j := by
  obtain ⟨h1, h2, h3⟩ := h
  refine ⟨by rw [c.i (fun q => hx _ q (by omega))]; exact h1, by rw [c.i (fun q => hx _ q (by omega))]; exact h2, by rw [c.i (fun q => hx _ q (by omega))]; exact h3⟩
theorem TB.kept {len cnt : Nat} {tx : Nat → Nat} {C C' : Dat} {X : Nat → Nat → Prop} (h : TB len tx cnt C) (c : Ch X C C') (hx : ∀ a k, X a k → ¬ RTb a k) : TB len tx cnt C' := by
  obtain ⟨h1, h2, h3, h4⟩ := h
  exact ⟨h1, by rw [c.i (fun q => hx _ _ q (Or.inl ⟨rfl, rfl⟩))]; exact h2, fun j hj => (h3 j hj).kept c (fun a q w => hx a j q (Or.inr w)), h4⟩
theorem AtE.kept {len e : Nat} {tx : Nat → Nat} {C C' : Dat} {X : Nat → Nat → Prop} (h : AtE len tx C e) (c : Ch X C C') (hx : ∀ a k, X a k → ¬ (RTb a k ∨ (a = 3 ∧ k = 8))) : AtE len tx C' e := by
  obtain ⟨cnt, i, h1, h2, h3, h4⟩ := h
  exact ⟨cnt, i, h1.kept c (fun a k q w => hx a k q (Or.inl w)), h2, by rw [c.i (fun q => hx _ _ q (Or.inr ⟨rfl, rfl⟩))]; exact h3, h4⟩
/-- the class: behind the word or number -/
theorem zl_endL {N len : Nat} {tx : Nat → Nat} {C : Dat} (hT : TxC len tx C) : ∀ (r g i : Nat), i + r = len → r < g → f_X5_endOfToken_b12 N g (nn i) C = some (nn (zl_run (zl_lt tx) r i), C) := by
  have hl := hT.1
  intro r
  induction r with
  | zero =>
    intro g i hi hg
    obtain ⟨g, rfl⟩ : ∃ g', g = g' + 1 := ⟨g - 1, by omega⟩
    rw [f_X5_endOfToken_b12, hT.2.1, if_pos ((nn_le (by omega) (by omega)).mpr (by omega))]
    rfl
  | succ r ih =>
    intro g i hi hg
    obtain ⟨g, rfl⟩ : ∃ g', g = g' + 1 := ⟨g - 1, by omega⟩
    rw [f_X5_endOfToken_b12, hT.2.1, if_neg (fun w => by have := (nn_le (by omega) (by omega)).mp w; omega), zl_clet hT (by omega), bS]
    unfold zl_run
    by_cases e : zl_L (tx i) = true
    · rw [if_pos (show i < len ∧ zl_L (tx i) = true from ⟨by omega, e⟩), if_neg (show ¬ (1 : Int32) = 0 by decide), nn_1, if_pos (show zl_lt tx i = true from e)]
      exact ih g (i + 1) (by omega) (by omega)
    · rw [if_neg (show ¬ (i < len ∧ zl_L (tx i) = true) from fun w => e w.2), if_pos (show (0 : Int32) = 0 from rfl), if_neg (show ¬ zl_lt tx i = true from e)]
      rfl
theorem zl_endD {N len : Nat} {tx : Nat → Nat} {C : Dat} (hT : TxC len tx C) : ∀ (r g i : Nat), i + r = len → r < g → f_X5_endOfToken_b42 N g (nn i) C = some (nn (zl_run (zl_dt tx) r i), C) := by
  have hl := hT.1
  intro r
  induction r with
  | zero =>
    intro g i hi hg
    obtain ⟨g, rfl⟩ : ∃ g', g = g' + 1 := ⟨g - 1, by omega⟩
    rw [f_X5_endOfToken_b42, hT.2.1, if_pos ((nn_le (by omega) (by omega)).mpr (by omega))]
    rfl
  | succ r ih =>
    intro g i hi hg
    obtain ⟨g, rfl⟩ : ∃ g', g = g' + 1 := ⟨g - 1, by omega⟩
    rw [f_X5_endOfToken_b42, hT.2.1, if_neg (fun w => by have := (nn_le (by omega) (by omega)).mp w; omega), zl_cdig hT (by omega), bS]
    unfold zl_run
    by_cases e : zl_D (tx i) = true
    · rw [if_pos (show i < len ∧ zl_D (tx i) = true from ⟨by omega, e⟩), if_neg (show ¬ (1 : Int32) = 0 by decide), nn_1, if_pos (show zl_dt tx i = true from e)]
      exact ih g (i + 1) (by omega) (by omega)
    · rw [if_neg (show ¬ (i < len ∧ zl_D (tx i) = true) from fun w => e w.2), if_pos (show (0 : Int32) = 0 from rfl), if_neg (show ¬ zl_dt tx i = true from e)]
      rfl
theorem zl_end {N len p : Nat} {tx : Nat → Nat} {C : Dat} (hN : 1000 ≤ N) (hT : TxC len tx C) (hp : p < len) : f_X5_endOfToken N (nn p) C = some (nn (zl_e len tx p), C) := by
  have hl := hT.1
  unfold f_X5_endOfToken f_X5_endOfToken_b64 zl_e
  rw [zl_clet hT (by omega), bS, if_pos hp]
  by_cases hL : zl_L (tx p) = true
  · rw [if_pos (show p < len ∧ zl_L (tx p) = true from ⟨hp, hL⟩), if_neg (show ¬ (1 : Int32) = 0 by decide), nn_1, zl_endL hT (len - (p + 1)) N (p + 1) (by omega) (by omega), if_pos hL]
  · rw [if_neg (show ¬ (p < len ∧ zl_L (tx p) = true) from fun w => hL w.2), if_pos (show (0 : Int32) = 0 from rfl), if_neg hL, zl_cdig hT (by omega), bS]
    by_cases hD : zl_D (tx p) = true
    · rw [if_pos (show p < len ∧ zl_D (tx p) = true from ⟨hp, hD⟩), if_neg (show ¬ (1 : Int32) = 0 by decide), nn_1, zl_endD hT (len - (p + 1)) N (p + 1) (by omega) (by omega), if_pos hD]
    · rw [if_neg (show ¬ (p < len ∧ zl_D (tx p) = true) from fun w => hD w.2), if_pos (show (0 : Int32) = 0 from rfl), if_neg hD, nn_1]
theorem zl_numC {N len e : Nat} {tx : Nat → Nat} {C : Dat} (hT : TxC len tx C) (he : e ≤ len) : ∀ (k g i a : Nat), i + k = e → k < g → (∀ j, i ≤ j → j < e → 48 ≤ tx j) → f_X5_numberAt_b5 N g (nn e) (nn a) (nn i) C = some (nn (zl_nv tx k i a), C) := by
  intro k
  have hl := hT.1
  induction k with
  | zero =>
    intro g i a hi hg _
    obtain ⟨g, rfl⟩ : ∃ g', g = g' + 1 := ⟨g - 1, by omega⟩
    rw [f_X5_numberAt_b5, if_pos ((nn_le (by omega) (by omega)).mpr (by omega))]
    rfl
  | succ k ih =>
    intro g i a hi hg hx
    obtain ⟨g, rfl⟩ : ∃ g', g = g' + 1 := ⟨g - 1, by omega⟩
    have q := hT.2.2 i (by omega)
    have q4 := hx i (by omega) (by omega)
    have e1 : (10 : Int32) * nn a + (nn (tx i) - 48) = nn (10 * a + (tx i - 48)) := by
      have s : nn (tx i) - (48 : Int32) = nn (tx i - 48) := nn_sub (b := 48) q4 (by omega)
      rw [s, nn_l, nn_mul, nn_add]
    rw [f_X5_numberAt_b5, if_neg (fun w => by have := (nn_le (by omega) (by omega)).mp w; omega), hT.2.1, if_neg (fun w => by have := (nn_le (by omega) (by omega)).mp w; omega), if_neg (nn_in (k := i) (n := 240) (by omega) (by omega)), nn_nat (by omega), q.1, e1, nn_1]
    exact ih g (i + 1) _ (by omega) (by omega) (fun j h1 h2 => hx j (by omega) h2)
