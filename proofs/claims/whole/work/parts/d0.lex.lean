/-! THE LEXER: what the class's findTokens and the model's next find -/
def zl_L (c : Nat) : Bool := decide (97 ≤ c ∧ c ≤ 122)
def zl_D (c : Nat) : Bool := decide (48 ≤ c ∧ c ≤ 57)
def zl_S (c : Nat) : Bool := decide (c = 59 ∨ c = 61 ∨ c = 91 ∨ c = 93 ∨ c = 123 ∨ c = 125 ∨ c = 40 ∨ c = 41 ∨ c = 43 ∨ c = 45 ∨ c = 42 ∨ c = 47 ∨ c = 60 ∨ c = 58)
def zl_k (c : Nat) : Nat := if zl_L c = true then 1 else if zl_D c = true then 2 else if zl_S c = true then c else 3
theorem zl_Li {c : Nat} : zl_L c = true ↔ (97 ≤ c ∧ c ≤ 122) := by unfold zl_L; exact decide_eq_true_iff
theorem zl_Di {c : Nat} : zl_D c = true ↔ (48 ≤ c ∧ c ≤ 57) := by unfold zl_D; exact decide_eq_true_iff
theorem zl_Si {c : Nat} : zl_S c = true ↔ (c = 59 ∨ c = 61 ∨ c = 91 ∨ c = 93 ∨ c = 123 ∨ c = 125 ∨ c = 40 ∨ c = 41 ∨ c = 43 ∨ c = 45 ∨ c = 42 ∨ c = 47 ∨ c = 60 ∨ c = 58) := by unfold zl_S; exact decide_eq_true_iff
def zl_run (f : Nat → Bool) : Nat → Nat → Nat
  | 0, i => i
  | r + 1, i => if f i = true then zl_run f r (i + 1) else i
theorem zl_run_b {f : Nat → Bool} : ∀ (r i : Nat), i ≤ zl_run f r i ∧ zl_run f r i ≤ i + r := by
  intro r
  induction r with
  | zero => intro i; exact ⟨Nat.le_refl _, Nat.le_refl _⟩
  | succ r ih =>
    intro i
    unfold zl_run
    split
    · have := ih (i + 1); omega
    · omega
theorem zl_run_in {f : Nat → Bool} : ∀ (r i j : Nat), i ≤ j → j < zl_run f r i → f j = true := by
  intro r
  induction r with
  | zero => intro i j h1 h2; unfold zl_run at h2; omega
  | succ r ih =>
    intro i j h1 h2
    unfold zl_run at h2
    split at h2
    · rename_i q
      by_cases e : j = i
      · rw [e]; exact q
      · exact ih (i + 1) j (by omega) h2
    · omega
theorem zl_run_eq {f g : Nat → Bool} : ∀ (r i : Nat), (∀ j, i ≤ j → j < i + r → f j = g j) → zl_run f r i = zl_run g r i := by
  intro r
  induction r with
  | zero => intro i _; rfl
  | succ r ih =>
    intro i h
    unfold zl_run
    rw [h i (Nat.le_refl _) (by omega), ih (i + 1) (fun j h1 h2 => h j (by omega) (by omega))]
def TxC (len : Nat) (tx : Nat → Nat) (C : Dat) : Prop := len ≤ 240 ∧ dI C 3 2 = nn len ∧ ∀ i, i < len → dI C 4 i = nn (tx i) ∧ 32 ≤ tx i ∧ tx i ≤ 126
def TxM (len : Nat) (tx : Nat → Nat) (M : Dat) : Prop := len ≤ 240 ∧ dI M 207 10 = nn len ∧ ∀ i, i < len → dI M 211 i = nn (tx i) ∧ 32 ≤ tx i ∧ tx i ≤ 126
theorem TxC.kept {len : Nat} {tx : Nat → Nat} {P : Nat → Nat → Prop} {C C' : Dat} (h : TxC len tx C) (c : Ch P C C') (hp : ∀ a k, P a k → ¬ (a = 4 ∨ (a = 3 ∧ k = 2))) : TxC len tx C' := by
  obtain ⟨h1, h2, h3⟩ := h
  refine ⟨h1, ?_, fun i hi => ?_⟩
  · rw [c.i (fun q => hp _ _ q (Or.inr ⟨rfl, rfl⟩))]; exact h2
  · rw [c.i (fun q => hp _ _ q (Or.inl rfl))]; exact h3 i hi
theorem TxM.kept {len : Nat} {tx : Nat → Nat} {P : Nat → Nat → Prop} {C C' : Dat} (h : TxM len tx C) (c : Ch P C C') (hp : ∀ a k, P a k → ¬ (a = 211 ∨ (a = 207 ∧ k = 10))) : TxM len tx C' := by
  obtain ⟨h1, h2, h3⟩ := h
  refine ⟨h1, ?_, fun i hi => ?_⟩
  · rw [c.i (fun q => hp _ _ q (Or.inr ⟨rfl, rfl⟩))]; exact h2
  · rw [c.i (fun q => hp _ _ q (Or.inl rfl))]; exact h3 i hi
/-! the text of lone signs -/
def zl_ic (x0 : Nat) (x4 : Int32) : Nat → Nat → Int32
  | 0, _ => -1
  | k + 1, i => if (sbyt.getD x0 []).getD i 0 = x4 then nn i else zl_ic x0 x4 k (i + 1)
theorem zl_ic_l {N x0 n : Nat} {x4 : Int32} {D : Dat} (hx : x0 < 10) (hn : slen.getD x0 0 = n) (hb : n < 1000) : ∀ (k g i : Nat), i + k = n → k < g → f_J1_indexOfChar_4cfef_b7 N g x0 (nn n) x4 (nn i) D = some (zl_ic x0 x4 k i, D) := by
  intro k
  induction k with
  | zero =>
    intro g i hi hg
    obtain ⟨g, rfl⟩ : ∃ g', g = g' + 1 := ⟨g - 1, by omega⟩
    rw [f_J1_indexOfChar_4cfef_b7, if_pos ((nn_le (by omega) (by omega)).mpr (by omega))]
    rfl
  | succ k ih =>
    intro g i hi hg
    obtain ⟨g, rfl⟩ : ∃ g', g = g' + 1 := ⟨g - 1, by omega⟩
    have i1 := nn_in (k := i) (n := n) (by omega) (by omega)
    rw [f_J1_indexOfChar_4cfef_b7, if_neg (fun w => by have := (nn_le (by omega) (by omega)).mp w; omega), if_pos hx, hn, if_neg i1, nn_nat (by omega), nn_1, ih g (i + 1) (by omega) (by omega)]
    rw [show zl_ic x0 x4 (k + 1) i = if (sbyt.getD x0 []).getD i 0 = x4 then nn i else zl_ic x0 x4 k (i + 1) from rfl]
    split <;> rfl
theorem zl_ic9 : ∀ c, c < 127 → 32 ≤ c → ((zl_ic 9 ((nn c).toInt8.toInt32) 14 0 < 0) ↔ zl_S c = false) := by decide +kernel
theorem zl_n14 : Int32.ofNat (slen.getD 9 0) = nn 14 := by decide
theorem zl_len {t : Nat} (ht : t < 10) (D : Dat) : f_J0_length_8abf5 t D = some (nn (slen.getD t 0), D) := by
  have h : ∀ t, t < 10 → (Int32.ofNat (slen.getD t 0)) >>> ((0 : Int32) &&& 31) = nn (slen.getD t 0) := by decide +kernel
  unfold f_J0_length_8abf5 f_J0_coder_7d493 f_J0_coder_7d493_b14
  rw [if_neg (by decide), if_pos (by decide), bS]
  show some (_, D) = _
  rw [h t ht]
theorem zl_idx {N c : Nat} (hN : 1000 ≤ N) (h1 : c < 127) (h2 : 32 ≤ c) (D : Dat) : f_J0_indexOf_0f7a4 N 9 (nn c) D = some (zl_ic 9 ((nn c).toInt8.toInt32) 14 0, D) := by
  have z9 : slen.getD 9 0 = 14 := by decide
  have e1 : f_J1_canEncode_9a6ad (nn c) D = some (1, D) := by
    unfold f_J1_canEncode_9a6ad f_J1_canEncode_9a6ad_b16
    rw [if_neg (nn_nlt0 (by omega)), if_neg (show ¬ (255 : Int32) < nn c from fun w => by have := (nn_lt (a := 255) (by omega) (by omega)).mp w; omega), if_pos (by decide)]
  unfold f_J0_indexOf_0f7a4 f_J0_indexOf_7cf53 f_J0_isLatin1_aae02 f_J0_isLatin1_aae02_b18 f_J0_indexOf_7cf53_b36
  rw [if_neg (by decide), if_pos (by decide), if_pos (by decide), bS]
  rw [if_neg (show ¬ (1 : Int32) = 0 by decide), zl_len (by decide), bS]
  show ((f_J1_indexOf_4cfef N 9 (nn c) 0 (nn (slen.getD 9 0)) D).bind fun p8 => some (p8.1, p8.2)).bind (fun p1 => some (p1.1, p1.2)) = _
  unfold f_J1_indexOf_4cfef f_J1_indexOfChar_4cfef
  rw [e1, bS, if_neg (show ¬ (1 : Int32) = 0 by decide), if_pos (show 9 < 10 by decide), z9, if_neg (show ¬ (0 : Int32) < 0 by decide), if_neg (show ¬ (Int32.ofNat 14) < nn 14 by decide), if_pos (show (0 : Int32) < nn 14 by decide)]
  have e2 := zl_ic_l (N := N) (x0 := 9) (n := 14) (x4 := (nn c).toInt8.toInt32) (D := D) (by decide) z9 (by decide) 14 N 0 rfl (by omega)
  have e3 : f_J1_indexOfChar_4cfef_b7 N N 9 (nn 14) ((nn c).toInt8.toInt32) 0 D = some (zl_ic 9 ((nn c).toInt8.toInt32) 14 0, D) := e2
  rw [e3]
  rfl
theorem zl_clet {len i : Nat} {tx : Nat → Nat} {C : Dat} (h : TxC len tx C) (hi : i < 1000) : f_X5_isLetter (nn i) C = some (if i < len ∧ zl_L (tx i) = true then 1 else 0, C) := by
  obtain ⟨h1, h2, h3⟩ := h
  unfold f_X5_isLetter f_X5_isLetter_b38 f_X5_isLetter_b39
  rw [if_neg (nn_nlt0 (by omega)), h2]
  by_cases hl : i < len
  · obtain ⟨q1, q2, q3⟩ := h3 i hl
    have i1 := nn_in (k := i) (n := 240) (by omega) (by omega)
    have i2 : ¬ (nn i < 0 ∨ 240 ≤ i) := by have := i1; rw [nn_nat (by omega)] at this; exact this
    rw [if_neg (fun w => by have := (nn_le (by omega) (by omega)).mp w; omega), if_neg i1, nn_nat (by omega), q1]
    by_cases c1 : tx i < 97
    · rw [if_pos (show nn (tx i) < 97 from (nn_lt (b := 97) (by omega) (by omega)).mpr c1), if_pos (by decide), if_neg (fun w => by have := zl_Li.mp w.2; omega)]
    · rw [if_neg (show ¬ nn (tx i) < 97 from fun w => c1 ((nn_lt (b := 97) (by omega) (by omega)).mp w)), if_neg i2]
      by_cases c2 : 122 < tx i
      · rw [if_pos (show (122 : Int32) < nn (tx i) from (nn_lt (a := 122) (by omega) (by omega)).mpr c2), if_pos (by decide), if_neg (fun w => by have := zl_Li.mp w.2; omega)]
      · rw [if_neg (show ¬ (122 : Int32) < nn (tx i) from fun w => c2 ((nn_lt (a := 122) (by omega) (by omega)).mp w)), if_pos (by decide), if_pos ⟨hl, zl_Li.mpr (by omega)⟩]
  · rw [if_pos ((nn_le (by omega) (by omega)).mpr (by omega)), if_pos (by decide), if_neg (fun w => hl w.1)]
theorem zl_cdig {len i : Nat} {tx : Nat → Nat} {C : Dat} (h : TxC len tx C) (hi : i < 1000) : f_X5_isDigit (nn i) C = some (if i < len ∧ zl_D (tx i) = true then 1 else 0, C) := by
  obtain ⟨h1, h2, h3⟩ := h
  unfold f_X5_isDigit f_X5_isDigit_b38 f_X5_isDigit_b39
  rw [if_neg (nn_nlt0 (by omega)), h2]
  by_cases hl : i < len
  · obtain ⟨q1, q2, q3⟩ := h3 i hl
    have i1 := nn_in (k := i) (n := 240) (by omega) (by omega)
    have i2 : ¬ (nn i < 0 ∨ 240 ≤ i) := by have := i1; rw [nn_nat (by omega)] at this; exact this
    rw [if_neg (fun w => by have := (nn_le (by omega) (by omega)).mp w; omega), if_neg i1, nn_nat (by omega), q1]
    by_cases c1 : tx i < 48
    · rw [if_pos (show nn (tx i) < 48 from (nn_lt (b := 48) (by omega) (by omega)).mpr c1), if_pos (by decide), if_neg (fun w => by have := zl_Di.mp w.2; omega)]
    · rw [if_neg (show ¬ nn (tx i) < 48 from fun w => c1 ((nn_lt (b := 48) (by omega) (by omega)).mp w)), if_neg i2]
      by_cases c2 : 57 < tx i
      · rw [if_pos (show (57 : Int32) < nn (tx i) from (nn_lt (a := 57) (by omega) (by omega)).mpr c2), if_pos (by decide), if_neg (fun w => by have := zl_Di.mp w.2; omega)]
      · rw [if_neg (show ¬ (57 : Int32) < nn (tx i) from fun w => c2 ((nn_lt (a := 57) (by omega) (by omega)).mp w)), if_pos (by decide), if_pos ⟨hl, zl_Di.mpr (by omega)⟩]
  · rw [if_pos ((nn_le (by omega) (by omega)).mpr (by omega)), if_pos (by decide), if_neg (fun w => hl w.1)]
/-! the model's signs -/
theorem zl_letter {len i : Nat} {tx : Nat → Nat} {M : Dat} (h : TxM len tx M) (hi : i < 1000) : f_X12_letter (nn i) M = some (if i < len ∧ zl_L (tx i) = true then 1 else 0, M) := by
  obtain ⟨h1, h2, h3⟩ := h
  unfold f_X12_letter f_X12_letter_b34 f_X12_letter_b35
  rw [h2]
  by_cases hl : i < len
  · obtain ⟨q1, q2, q3⟩ := h3 i hl
    have i1 := nn_in (k := i) (n := 240) (by omega) (by omega)
    have i2 : ¬ (nn i < 0 ∨ 240 ≤ i) := by have := i1; rw [nn_nat (by omega)] at this; exact this
    rw [if_neg (fun w => by have := (nn_le (by omega) (by omega)).mp w; omega), if_neg i1, nn_nat (by omega), q1]
    by_cases c1 : tx i < 97
    · rw [if_pos (show nn (tx i) < 97 from (nn_lt (b := 97) (by omega) (by omega)).mpr c1), if_pos (by decide), if_neg (fun w => by have := zl_Li.mp w.2; omega)]
    · rw [if_neg (show ¬ nn (tx i) < 97 from fun w => c1 ((nn_lt (b := 97) (by omega) (by omega)).mp w)), if_neg i2]
      by_cases c2 : 122 < tx i
      · rw [if_pos (show (122 : Int32) < nn (tx i) from (nn_lt (a := 122) (by omega) (by omega)).mpr c2), if_pos (by decide), if_neg (fun w => by have := zl_Li.mp w.2; omega)]
      · rw [if_neg (show ¬ (122 : Int32) < nn (tx i) from fun w => c2 ((nn_lt (a := 122) (by omega) (by omega)).mp w)), if_pos (by decide), if_pos ⟨hl, zl_Li.mpr (by omega)⟩]
  · rw [if_pos ((nn_le (by omega) (by omega)).mpr (by omega)), if_pos (by decide), if_neg (fun w => hl w.1)]
theorem zl_digit {len i : Nat} {tx : Nat → Nat} {M : Dat} (h : TxM len tx M) (hi : i < 1000) : f_X12_digit (nn i) M = some (if i < len ∧ zl_D (tx i) = true then 1 else 0, M) := by
  obtain ⟨h1, h2, h3⟩ := h
  unfold f_X12_digit f_X12_digit_b34 f_X12_digit_b35
  rw [h2]
  by_cases hl : i < len
  · obtain ⟨q1, q2, q3⟩ := h3 i hl
    have i1 := nn_in (k := i) (n := 240) (by omega) (by omega)
    have i2 : ¬ (nn i < 0 ∨ 240 ≤ i) := by have := i1; rw [nn_nat (by omega)] at this; exact this
    rw [if_neg (fun w => by have := (nn_le (by omega) (by omega)).mp w; omega), if_neg i1, nn_nat (by omega), q1]
    by_cases c1 : tx i < 48
    · rw [if_pos (show nn (tx i) < 48 from (nn_lt (b := 48) (by omega) (by omega)).mpr c1), if_pos (by decide), if_neg (fun w => by have := zl_Di.mp w.2; omega)]
    · rw [if_neg (show ¬ nn (tx i) < 48 from fun w => c1 ((nn_lt (b := 48) (by omega) (by omega)).mp w)), if_neg i2]
      by_cases c2 : 57 < tx i
      · rw [if_pos (show (57 : Int32) < nn (tx i) from (nn_lt (a := 57) (by omega) (by omega)).mpr c2), if_pos (by decide), if_neg (fun w => by have := zl_Di.mp w.2; omega)]
      · rw [if_neg (show ¬ (57 : Int32) < nn (tx i) from fun w => c2 ((nn_lt (a := 57) (by omega) (by omega)).mp w)), if_pos (by decide), if_pos ⟨hl, zl_Di.mpr (by omega)⟩]
  · rw [if_pos ((nn_le (by omega) (by omega)).mpr (by omega)), if_pos (by decide), if_neg (fun w => hl w.1)]
def zl_sgv (x : Int32) : Int32 := ((f_X12_sign x Dz).getD (0, Dz)).1
theorem zl_sg (x : Int32) (D : Dat) : f_X12_sign x D = some (zl_sgv x, D) := by
  unfold zl_sgv f_X12_sign f_X12_sign_b124
  by_cases h : x = 40
  · rw [if_pos h, if_pos h]; rfl
  rw [if_neg h, if_neg h]
  clear h
  by_cases h : x = 41
  · rw [if_pos h, if_pos h]; rfl
  rw [if_neg h, if_neg h]
  clear h
  by_cases h : x = 42
  · rw [if_pos h, if_pos h]; rfl
  rw [if_neg h, if_neg h]
  clear h
  by_cases h : x = 43
  · rw [if_pos h, if_pos h]; rfl
  rw [if_neg h, if_neg h]
  clear h
  by_cases h : x = 45
  · rw [if_pos h, if_pos h]; rfl
  rw [if_neg h, if_neg h]
  clear h
  by_cases h : x = 47
  · rw [if_pos h, if_pos h]; rfl
  rw [if_neg h, if_neg h]
  clear h
  by_cases h : x = 58
  · rw [if_pos h, if_pos h]; rfl
  rw [if_neg h, if_neg h]
  clear h
  by_cases h : x = 59
  · rw [if_pos h, if_pos h]; rfl
  rw [if_neg h, if_neg h]
  clear h
  by_cases h : x = 60
  · rw [if_pos h, if_pos h]; rfl
  rw [if_neg h, if_neg h]
  clear h
  by_cases h : x = 61
  · rw [if_pos h, if_pos h]; rfl
  rw [if_neg h, if_neg h]
  clear h
  by_cases h : x = 91
  · rw [if_pos h, if_pos h]; rfl
  rw [if_neg h, if_neg h]
  clear h
  by_cases h : x = 93
  · rw [if_pos h, if_pos h]; rfl
  rw [if_neg h, if_neg h]
  clear h
  by_cases h : x = 123
  · rw [if_pos h, if_pos h]; rfl
  rw [if_neg h, if_neg h]
  clear h
  by_cases h : x = 125
  · rw [if_pos h, if_pos h]; rfl
  rw [if_neg h, if_neg h]
  clear h
  rfl
theorem zl_sgn : ∀ c, c < 127 → zl_sgv (nn c) = if zl_S c = true then 1 else 0 := by decide +kernel
