/-! the model's next -/
theorem zl_kwM {c : Nat} (hc : c < 2147483648) (D : Dat) : f_X12_keyword (nn c) D = some (nn (zl_kw c), D) := by
  have q : ∀ b, b < 2147483648 → (nn c = nn b ↔ c = b) := fun b hb => nn_eq hc hb
  unfold f_X12_keyword zl_kw
  by_cases c1 : c = 143
  · rw [if_pos (show nn c = 143 from (q 143 (by omega)).mpr c1), if_pos c1]; rfl
  rw [if_neg (show ¬ nn c = 143 from fun w => c1 ((q 143 (by omega)).mp w)), if_neg c1]
  by_cases c1 : c = 294
  · rw [if_pos (show nn c = 294 from (q 294 (by omega)).mpr c1), if_pos c1]; rfl
  rw [if_neg (show ¬ nn c = 294 from fun w => c1 ((q 294 (by omega)).mp w)), if_neg c1]
  by_cases c1 : c = 302
  · rw [if_pos (show nn c = 302 from (q 302 (by omega)).mpr c1), if_pos c1]; rfl
  rw [if_neg (show ¬ nn c = 302 from fun w => c1 ((q 302 (by omega)).mp w)), if_neg c1]
  by_cases c1 : c = 16052
  · rw [if_pos (show nn c = 16052 from (q 16052 (by omega)).mpr c1), if_pos c1]; rfl
  rw [if_neg (show ¬ nn c = 16052 from fun w => c1 ((q 16052 (by omega)).mp w)), if_neg c1]
  by_cases c1 : c = 18935
  · rw [if_pos (show nn c = 18935 from (q 18935 (by omega)).mpr c1), if_pos c1]; rfl
  rw [if_neg (show ¬ nn c = 18935 from fun w => c1 ((q 18935 (by omega)).mp w)), if_neg c1]
  by_cases c1 : c = 22578
  · rw [if_pos (show nn c = 22578 from (q 22578 (by omega)).mpr c1), if_pos c1]; rfl
  rw [if_neg (show ¬ nn c = 22578 from fun w => c1 ((q 22578 (by omega)).mp w)), if_neg c1]
  by_cases c1 : c = 176741
  · rw [if_pos (show nn c = 176741 from (q 176741 (by omega)).mpr c1), if_pos c1]; rfl
  rw [if_neg (show ¬ nn c = 176741 from fun w => c1 ((q 176741 (by omega)).mp w)), if_neg c1]
  by_cases c1 : c = 543203
  · rw [if_pos (show nn c = 543203 from (q 543203 (by omega)).mpr c1), if_pos c1]; rfl
  rw [if_neg (show ¬ nn c = 543203 from fun w => c1 ((q 543203 (by omega)).mp w)), if_neg c1]
  by_cases c1 : c = 24388997
  · rw [if_pos (show nn c = 24388997 from (q 24388997 (by omega)).mpr c1), if_pos c1]; rfl
  rw [if_neg (show ¬ nn c = 24388997 from fun w => c1 ((q 24388997 (by omega)).mp w)), if_neg c1]
  rfl
theorem zl_as (x y z : Int32) : (x + y) - z = x + (y - z) := by
  rw [Int32.sub_eq_add_neg, Int32.add_assoc, ← Int32.sub_eq_add_neg]
theorem zl_cv_b {tx : Nat → Nat} : ∀ (k i a m : Nat), (∀ j, i ≤ j → j < i + k → tx j ≤ 122) → a < 32 ^ m → zl_cv tx k i a < 32 ^ (m + k) := by
  intro k
  induction k with
  | zero => intro i a m _ h; exact h
  | succ k ih =>
    intro i a m hx h
    have := hx i (Nat.le_refl _) (by omega)
    have e : m + (k + 1) = (m + 1) + k := by omega
    rw [e]
    refine ih (i + 1) _ (m + 1) (fun j g1 g2 => hx j (by omega) (by omega)) ?_
    rw [Nat.pow_succ]
    omega
theorem zl_wordM {N len f : Nat} {tx : Nat → Nat} (hf : f < len) (hL : ∀ j, f ≤ j → j < len → zl_L (tx j) = true → True) {X : Dat} : ∀ (r g i a : Nat) (M : Dat), i + r = len → r < g → f ≤ i → TxM len tx M → dI M 207 36 = nn i → (∀ j, f ≤ j → j < i → zl_L (tx j) = true) → f < i ∨ zl_L (tx f) = true → (i - f ≤ 5 → a < 32 ^ (i - f)) → Ch QlM X M → ∃ M', f_X12_word_b7 N g (nn a) (nn f) M = some M' ∧ Ch QlM X M' ∧ dI M' 207 39 = dI M 207 39 ∧ dI M' 207 36 = nn (zl_run (zl_lt tx) r i) ∧ dI M' 207 37 = (if zl_run (zl_lt tx) r i - f = 1 then nn 110 else nn 107) ∧ dI M' 207 38 = (if zl_run (zl_lt tx) r i - f = 1 then nn (tx f - 97) else if zl_run (zl_lt tx) r i - f ≤ 5 then nn (zl_kw (zl_cv tx (zl_run (zl_lt tx) r i - i) i a)) else 0) := by
  have pend : ∀ (i a : Nat) (M : Dat), i ≤ len → f < i → TxM len tx M → dI M 207 36 = nn i → zl_L (tx f) = true → (i - f ≤ 5 → a < 32 ^ (i - f)) → Ch QlM X M → ∃ M', (if dI M 207 36 - nn f = 1 then f_X12_word_b77 N (nn a) (nn f) 110 M else f_X12_word_b77 N (nn a) (nn f) 107 M) = some M' ∧ Ch QlM X M' ∧ dI M' 207 39 = dI M 207 39 ∧ dI M' 207 36 = nn i ∧ dI M' 207 37 = (if i - f = 1 then nn 110 else nn 107) ∧ dI M' 207 38 = (if i - f = 1 then nn (tx f - 97) else if i - f ≤ 5 then nn (zl_kw a) else 0) := by
    intro i a M hi hfi hT h36 hLf ha hc
    have hl := hT.1
    have hc' : ∀ x y, Ch QlM X (sI (sI M 207 37 x) 207 38 y) := fun x y => Ch.sI (by unfold QlM; omega) (Ch.sI (by unfold QlM; omega) hc)
    have d36 : ∀ y, dI (sI M 207 37 y) 207 36 = nn i := fun y => by rw [dI_s, if_neg (by omega)]; exact h36
    have d211 : ∀ y, dI (sI M 207 37 y) 211 f = nn (tx f) := fun y => by rw [dI_s, if_neg (by omega)]; exact (hT.2.2 f hf).1
    rw [h36, nn_sub (by omega) (by omega)]
    unfold f_X12_word_b77 f_X12_word_b122
    by_cases w1 : i - f = 1
    · rw [w1, if_pos (show nn 1 = 1 from rfl), d36, nn_sub (by omega) (by omega), w1, if_pos (show nn 1 = 1 from rfl), if_neg (nn_in (k := f) (n := 240) (by omega) (by omega)), nn_nat (by omega), d211, if_pos rfl, if_pos rfl]
      have := zl_Li.mp hLf
      have s : nn (tx f) - (97 : Int32) = nn (tx f - 97) := nn_sub (b := 97) (by omega) (by omega)
      refine ⟨_, rfl, hc' _ _, by rw [dI_s, if_neg (by omega), dI_s, if_neg (by omega)], by rw [dI_s, if_neg (by omega), dI_s, if_neg (by omega)]; exact h36, by rw [dI_s, if_neg (by omega), dI_s, if_pos ⟨rfl, rfl⟩]; rfl, by rw [dI_s, if_pos ⟨rfl, rfl⟩]; exact s⟩
    · rw [if_neg (show ¬ nn (i - f) = 1 from fun w => w1 ((nn_eq (b := 1) (by omega) (by omega)).mp w)), d36, nn_sub (by omega) (by omega), if_neg (show ¬ nn (i - f) = 1 from fun w => w1 ((nn_eq (b := 1) (by omega) (by omega)).mp w)), if_neg w1, if_neg w1]
      by_cases w2 : i - f ≤ 5
      · have p5 : (32 : Nat) ^ (i - f) ≤ 32 ^ 5 := Nat.pow_le_pow_right (by decide) w2
        have p6 : (32 : Nat) ^ 5 = 33554432 := by decide
        rw [if_pos (show nn (i - f) ≤ 5 from (nn_le (b := 5) (by omega) (by omega)).mpr w2), zl_kwM (by have := ha w2; omega), bS, if_pos w2]
        refine ⟨_, rfl, hc' _ _, by rw [dI_s, if_neg (by omega), dI_s, if_neg (by omega)], by rw [dI_s, if_neg (by omega), dI_s, if_neg (by omega)]; exact h36, by rw [dI_s, if_neg (by omega), dI_s, if_pos ⟨rfl, rfl⟩]; rfl, by rw [dI_s, if_pos ⟨rfl, rfl⟩]⟩
      · rw [if_neg (show ¬ nn (i - f) ≤ 5 from fun w => w2 ((nn_le (b := 5) (by omega) (by omega)).mp w)), if_neg w2]
        refine ⟨_, rfl, hc' _ _, by rw [dI_s, if_neg (by omega), dI_s, if_neg (by omega)], by rw [dI_s, if_neg (by omega), dI_s, if_neg (by omega)]; exact h36, by rw [dI_s, if_neg (by omega), dI_s, if_pos ⟨rfl, rfl⟩]; rfl, by rw [dI_s, if_pos ⟨rfl, rfl⟩]⟩
  intro r
  induction r with
  | zero =>
    intro g i a M hi hg hfi hT h36 hin hLf ha hc
    obtain ⟨g, rfl⟩ : ∃ g', g = g' + 1 := ⟨g - 1, by omega⟩
    have hl := hT.1
    rw [f_X12_word_b7, h36, zl_letter hT (by omega), bS, if_neg (show ¬ (i < len ∧ zl_L (tx i) = true) from fun w => by omega), if_pos (show (0 : Int32) = 0 from rfl)]
    obtain ⟨M', e1, e2⟩ := pend i a M (by omega) (by omega) hT h36 (hin f (by omega) (by omega)) ha hc
    have z : zl_run (zl_lt tx) 0 i = i := rfl
    rw [z, Nat.sub_self]
    exact ⟨M', e1, e2⟩
  | succ r ih =>
    intro g i a M hi hg hfi hT h36 hin hLf ha hc
    obtain ⟨g, rfl⟩ : ∃ g', g = g' + 1 := ⟨g - 1, by omega⟩
    have hl := hT.1
    have hx := hT.2.2 i (by omega)
    rw [f_X12_word_b7, h36, zl_letter hT (by omega), bS]
    by_cases e : zl_L (tx i) = true
    · have er : zl_run (zl_lt tx) (r + 1) i = zl_run (zl_lt tx) r (i + 1) := by
        show (if zl_lt tx i = true then _ else _) = _
        rw [if_pos (show zl_lt tx i = true from e)]
      have be := zl_run_b (f := zl_lt tx) r (i + 1)
      have hL' := zl_Li.mp e
      rw [if_pos (show i < len ∧ zl_L (tx i) = true from ⟨by omega, e⟩), if_neg (show ¬ (1 : Int32) = 0 by decide), er]
      have go : ∀ (b : Nat), (i + 1 - f ≤ 5 → b < 32 ^ (i + 1 - f)) → (zl_run (zl_lt tx) r (i + 1) - f ≤ 5 → zl_cv tx (zl_run (zl_lt tx) r (i + 1) - i) i a = zl_cv tx (zl_run (zl_lt tx) r (i + 1) - (i + 1)) (i + 1) b) → ∃ M', f_X12_word_b46 N (f_X12_word_b7 N g) (nn b) (nn f) M = some M' ∧ Ch QlM X M' ∧ dI M' 207 39 = dI M 207 39 ∧ dI M' 207 36 = nn (zl_run (zl_lt tx) r (i + 1)) ∧ dI M' 207 37 = (if zl_run (zl_lt tx) r (i + 1) - f = 1 then nn 110 else nn 107) ∧ dI M' 207 38 = (if zl_run (zl_lt tx) r (i + 1) - f = 1 then nn (tx f - 97) else if zl_run (zl_lt tx) r (i + 1) - f ≤ 5 then nn (zl_kw (zl_cv tx (zl_run (zl_lt tx) r (i + 1) - i) i a)) else 0) := by
        intro b hb hcv
        unfold f_X12_word_b46
        rw [h36, nn_1]
        have c1 : Ch QlM M (sI M 207 36 (nn (i + 1))) := Ch.sI (by unfold QlM; omega) Ch.rf
        obtain ⟨M', e1, e2, e3, e4, e5, e6⟩ := ih g (i + 1) b (sI M 207 36 (nn (i + 1))) (by omega) (by omega) (by omega) (hT.kept c1 (fun a k w => by unfold QlM at w; omega)) (by rw [dI_s, if_pos ⟨rfl, rfl⟩]) (fun j g1 g2 => by
          by_cases ej : j = i
          · rw [ej]; exact e
          · exact hin j g1 (by omega)) (Or.inl (by omega)) hb (Ch.sI (by unfold QlM; omega) hc)
        refine ⟨M', e1, e2, by rw [e3, dI_s, if_neg (by omega)], e4, e5, ?_⟩
        rw [e6]
        by_cases w1 : zl_run (zl_lt tx) r (i + 1) - f = 1
        · rw [if_pos w1, if_pos w1]
        · rw [if_neg w1, if_neg w1]
          by_cases w2 : zl_run (zl_lt tx) r (i + 1) - f ≤ 5
          · rw [if_pos w2, if_pos w2, hcv w2]
          · rw [if_neg w2, if_neg w2]
      rw [h36, nn_sub (by omega) (by omega)]
      by_cases w5 : 5 ≤ i - f
      · rw [if_pos (show (5 : Int32) ≤ nn (i - f) from (nn_le (a := 5) (by omega) (by omega)).mpr w5)]
        exact go a (fun w => by omega) (fun w => by omega)
      · rw [if_neg (show ¬ (5 : Int32) ≤ nn (i - f) from fun w => w5 ((nn_le (a := 5) (by omega) (by omega)).mp w)), if_neg (nn_in (k := i) (n := 240) (by omega) (by omega)), nn_nat (by omega), hx.1]
        have s : (32 : Int32) * nn a + nn (tx i) - 96 = nn (32 * a + (tx i - 96)) := by
          rw [zl_as]
          have s1 : nn (tx i) - (96 : Int32) = nn (tx i - 96) := nn_sub (b := 96) (by omega) (by omega)
          rw [s1, nn_l, nn_mul, nn_add]
        rw [s]
        refine go _ (fun w => ?_) (fun w => ?_)
        · have := ha (by omega)
          have e2 : i + 1 - f = (i - f) + 1 := by omega
          rw [e2, Nat.pow_succ]
          omega
        · have e2 : zl_run (zl_lt tx) r (i + 1) - i = (zl_run (zl_lt tx) r (i + 1) - (i + 1)) + 1 := by omega
          rw [e2]
          rfl
    · have er : zl_run (zl_lt tx) (r + 1) i = i := by
        show (if zl_lt tx i = true then _ else _) = _
        rw [if_neg (show ¬ zl_lt tx i = true from e)]
      rw [if_neg (show ¬ (i < len ∧ zl_L (tx i) = true) from fun w => e w.2), if_pos (show (0 : Int32) = 0 from rfl), er, Nat.sub_self]
      have fi : f < i := by
        rcases hLf with w | w
        · exact w
        · by_cases q : f = i
          · rw [q] at w; exact absurd w e
          · omega
      obtain ⟨M', e1, e2⟩ := pend i a M (by omega) fi hT h36 (hin f (by omega) fi) ha hc
      exact ⟨M', e1, e2⟩
theorem zl_numM {N len f : Nat} {tx : Nat → Nat} (hf : f < len) {X : Dat} : ∀ (r g i a : Nat) (M : Dat), i + r = len → r < g → f ≤ i → TxM len tx M → dI M 207 36 = nn i → (i - f ≤ 9 → dI M 207 38 = nn a) → Ch QlM X M → ∃ M', f_X12_number_b10 N g (nn f) M = some M' ∧ Ch QlM X M' ∧ dI M' 207 39 = dI M 207 39 ∧ dI M' 207 36 = nn (zl_run (zl_dt tx) r i) ∧ dI M' 207 37 = (if zl_run (zl_dt tx) r i - f ≤ 9 then nn 35 else nn 1) ∧ (zl_run (zl_dt tx) r i - f ≤ 9 → dI M' 207 38 = nn (zl_nv tx (zl_run (zl_dt tx) r i - i) i a)) := by
  have pend : ∀ (i a : Nat) (M : Dat), i ≤ len → f ≤ i → TxM len tx M → dI M 207 36 = nn i → (i - f ≤ 9 → dI M 207 38 = nn a) → Ch QlM X M → ∃ M', (if dI M 207 36 - nn f ≤ 9 then f_X12_number_b87 N 35 M else f_X12_number_b87 N 1 M) = some M' ∧ Ch QlM X M' ∧ dI M' 207 39 = dI M 207 39 ∧ dI M' 207 36 = nn i ∧ dI M' 207 37 = (if i - f ≤ 9 then nn 35 else nn 1) ∧ (i - f ≤ 9 → dI M' 207 38 = nn a) := by
    intro i a M hi hfi hT h36 h38 hc
    have hl := hT.1
    rw [h36, nn_sub (by omega) (by omega)]
    unfold f_X12_number_b87
    by_cases w1 : i - f ≤ 9
    · rw [if_pos (show nn (i - f) ≤ 9 from (nn_le (b := 9) (by omega) (by omega)).mpr w1), if_pos w1]
      exact ⟨_, rfl, Ch.sI (by unfold QlM; omega) hc, by rw [dI_s, if_neg (by omega)], by rw [dI_s, if_neg (by omega)]; exact h36, by rw [dI_s, if_pos ⟨rfl, rfl⟩]; rfl, fun w => by rw [dI_s, if_neg (by omega)]; exact h38 w⟩
    · rw [if_neg (show ¬ nn (i - f) ≤ 9 from fun w => w1 ((nn_le (b := 9) (by omega) (by omega)).mp w)), if_neg w1]
      exact ⟨_, rfl, Ch.sI (by unfold QlM; omega) hc, by rw [dI_s, if_neg (by omega)], by rw [dI_s, if_neg (by omega)]; exact h36, by rw [dI_s, if_pos ⟨rfl, rfl⟩]; rfl, fun w => absurd w w1⟩
  intro r
  induction r with
  | zero =>
    intro g i a M hi hg hfi hT h36 h38 hc
    obtain ⟨g, rfl⟩ : ∃ g', g = g' + 1 := ⟨g - 1, by omega⟩
    have hl := hT.1
    rw [f_X12_number_b10, h36, zl_digit hT (by omega), bS, if_neg (show ¬ (i < len ∧ zl_D (tx i) = true) from fun w => by omega), if_pos (show (0 : Int32) = 0 from rfl)]
    obtain ⟨M', e1, e2⟩ := pend i a M (by omega) (by omega) hT h36 h38 hc
    have z : zl_run (zl_dt tx) 0 i = i := rfl
    rw [z, Nat.sub_self]
    exact ⟨M', e1, e2⟩
  | succ r ih =>
    intro g i a M hi hg hfi hT h36 h38 hc
    obtain ⟨g, rfl⟩ : ∃ g', g = g' + 1 := ⟨g - 1, by omega⟩
    have hl := hT.1
    have hx := hT.2.2 i (by omega)
    rw [f_X12_number_b10, h36, zl_digit hT (by omega), bS]
    by_cases e : zl_D (tx i) = true
    · have er : zl_run (zl_dt tx) (r + 1) i = zl_run (zl_dt tx) r (i + 1) := by
        show (if zl_dt tx i = true then _ else _) = _
        rw [if_pos (show zl_dt tx i = true from e)]
      have be := zl_run_b (f := zl_dt tx) r (i + 1)
      have hD' := zl_Di.mp e
      rw [if_pos (show i < len ∧ zl_D (tx i) = true from ⟨by omega, e⟩), if_neg (show ¬ (1 : Int32) = 0 by decide), er]
      have go : ∀ (b : Nat) (E : Dat), Ch (fun a k => a = 207 ∧ k = 38) M E → (i + 1 - f ≤ 9 → dI E 207 38 = nn b) → (zl_run (zl_dt tx) r (i + 1) - f ≤ 9 → zl_nv tx (zl_run (zl_dt tx) r (i + 1) - i) i a = zl_nv tx (zl_run (zl_dt tx) r (i + 1) - (i + 1)) (i + 1) b) → ∃ M', f_X12_number_b56 N (f_X12_number_b10 N g) (nn f) E = some M' ∧ Ch QlM X M' ∧ dI M' 207 39 = dI M 207 39 ∧ dI M' 207 36 = nn (zl_run (zl_dt tx) r (i + 1)) ∧ dI M' 207 37 = (if zl_run (zl_dt tx) r (i + 1) - f ≤ 9 then nn 35 else nn 1) ∧ (zl_run (zl_dt tx) r (i + 1) - f ≤ 9 → dI M' 207 38 = nn (zl_nv tx (zl_run (zl_dt tx) r (i + 1) - i) i a)) := by
        intro b E hE hb hnv
        unfold f_X12_number_b56
        rw [hE.i (by omega), h36, nn_1]
        have hEX : Ch QlM X E := hc.tr (hE.mono (fun a k w => by unfold QlM; omega))
        have hTE : TxM len tx E := hT.kept hE (fun a k w => by omega)
        have c1 : Ch QlM E (sI E 207 36 (nn (i + 1))) := Ch.sI (by unfold QlM; omega) Ch.rf
        obtain ⟨M', e1, e2, e3, e4, e5, e6⟩ := ih g (i + 1) b (sI E 207 36 (nn (i + 1))) (by omega) (by omega) (by omega) (hTE.kept c1 (fun a k w => by unfold QlM at w; omega)) (by rw [dI_s, if_pos ⟨rfl, rfl⟩]) (fun w => by rw [dI_s, if_neg (by omega)]; exact hb w) (Ch.sI (by unfold QlM; omega) hEX)
        refine ⟨M', e1, e2, by rw [e3, dI_s, if_neg (by omega), hE.i (by omega)], e4, e5, fun w => ?_⟩
        rw [hnv w]
        exact e6 w
      rw [h36, nn_sub (by omega) (by omega)]
      by_cases w5 : 9 ≤ i - f
      · rw [if_pos (show (9 : Int32) ≤ nn (i - f) from (nn_le (a := 9) (by omega) (by omega)).mpr w5)]
        exact go a M Ch.rf (fun w => by omega) (fun w => by omega)
      · rw [if_neg (show ¬ (9 : Int32) ≤ nn (i - f) from fun w => w5 ((nn_le (a := 9) (by omega) (by omega)).mp w)), if_neg (nn_in (k := i) (n := 240) (by omega) (by omega)), nn_nat (by omega), hx.1, h38 (by omega)]
        have s : (10 : Int32) * nn a + nn (tx i) - 48 = nn (10 * a + (tx i - 48)) := by
          rw [zl_as]
          have s1 : nn (tx i) - (48 : Int32) = nn (tx i - 48) := nn_sub (b := 48) (by omega) (by omega)
          rw [s1, nn_l, nn_mul, nn_add]
        rw [s]
        refine go _ _ (Ch.sI (by omega) Ch.rf) (fun w => by rw [dI_s, if_pos ⟨rfl, rfl⟩]) (fun w => ?_)
        have e2 : zl_run (zl_dt tx) r (i + 1) - i = (zl_run (zl_dt tx) r (i + 1) - (i + 1)) + 1 := by omega
        rw [e2]
        rfl
    · have er : zl_run (zl_dt tx) (r + 1) i = i := by
        show (if zl_dt tx i = true then _ else _) = _
        rw [if_neg (show ¬ zl_dt tx i = true from e)]
      rw [if_neg (show ¬ (i < len ∧ zl_D (tx i) = true) from fun w => e w.2), if_pos (show (0 : Int32) = 0 from rfl), er, Nat.sub_self]
      obtain ⟨M', e1, e2⟩ := pend i a M (by omega) hfi hT h36 h38 hc
      exact ⟨M', e1, e2⟩
theorem zl_finM {N len p : Nat} {tx : Nat → Nat} (hN : 1000 ≤ N) {M : Dat} (hT : TxM len tx M) (hp : p ≤ len) (h36 : dI M 207 36 = nn p) : ∃ M', f_X12_next_b38 N M = some M' ∧ Ch QlM M M' ∧ TkM p (zl_e len tx p) (zl_t len tx p) (zl_v len tx p) M' := by
  have hl := hT.1
  unfold f_X12_next_b38 f_X12_next_b142
  rw [h36]
  have c1 : Ch QlM M (sI (sI M 207 39 (nn p)) 207 37 0) := Ch.sI (by unfold QlM; omega) (Ch.sI (by unfold QlM; omega) Ch.rf)
  have d36 : dI (sI (sI M 207 39 (nn p)) 207 37 0) 207 36 = nn p := by rw [dI_s, if_neg (by omega), dI_s, if_neg (by omega)]; exact h36
  have d10 : dI (sI (sI M 207 39 (nn p)) 207 37 0) 207 10 = nn len := by rw [dI_s, if_neg (by omega), dI_s, if_neg (by omega)]; exact hT.2.1
  have d39 : dI (sI (sI M 207 39 (nn p)) 207 37 0) 207 39 = nn p := by rw [dI_s, if_neg (by omega), dI_s, if_pos ⟨rfl, rfl⟩]
  have d37 : dI (sI (sI M 207 39 (nn p)) 207 37 0) 207 37 = 0 := by rw [dI_s, if_pos ⟨rfl, rfl⟩]
  have hT1 : TxM len tx (sI (sI M 207 39 (nn p)) 207 37 0) := hT.kept c1 (fun a k w => by unfold QlM at w; omega)
  generalize hM1 : sI (sI M 207 39 (nn p)) 207 37 0 = M1 at *
  rw [d36, d10]
  by_cases hpl : p < len
  · rw [if_neg (fun w => by have := (nn_eq (by omega) (by omega)).mp w; omega), zl_letter hT1 (by omega), bS]
    have hx := hT.2.2 p hpl
    by_cases hL : zl_L (tx p) = true
    · rw [if_pos (show p < len ∧ zl_L (tx p) = true from ⟨hpl, hL⟩), if_neg (show ¬ (1 : Int32) = 0 by decide)]
      unfold f_X12_word
      rw [d36]
      have er : zl_run (zl_lt tx) (len - p) p = zl_e len tx p := by
        have : len - p = (len - (p + 1)) + 1 := by omega
        rw [this]
        show (if zl_lt tx p = true then _ else _) = _
        rw [if_pos (show zl_lt tx p = true from hL)]
        unfold zl_e
        rw [if_pos hpl, if_pos hL]
      obtain ⟨M', e1, e2, e3, e4, e5, e6⟩ := zl_wordM (N := N) (X := M1) hpl (fun _ _ _ _ => trivial) (len - p) N p 0 M1 (by omega) (by omega) (Nat.le_refl _) hT1 d36 (fun j g1 g2 => absurd g2 (by omega)) (Or.inr hL) (fun _ => by rw [Nat.sub_self]; decide) Ch.rf
      rw [er] at e4 e5 e6
      have e1' : f_X12_word_b7 N N 0 (nn p) M1 = some M' := e1
      rw [e1', bS]
      refine ⟨M', rfl, c1.tr e2, by rw [e3, d39], e4, ?_, fun _ => ?_⟩
      · rw [e5]
        unfold zl_t
        rw [if_pos hpl, if_pos hL]
        split <;> rfl
      · rw [e6]
        unfold zl_v
        rw [if_pos hL]
        split
        · rfl
        · split <;> rfl
    · rw [if_neg (show ¬ (p < len ∧ zl_L (tx p) = true) from fun w => hL w.2), if_pos (show (0 : Int32) = 0 from rfl), d36, zl_digit hT1 (by omega), bS]
      by_cases hD : zl_D (tx p) = true
      · rw [if_pos (show p < len ∧ zl_D (tx p) = true from ⟨hpl, hD⟩), if_neg (show ¬ (1 : Int32) = 0 by decide)]
        unfold f_X12_number
        rw [d36]
        have er : zl_run (zl_dt tx) (len - p) p = zl_e len tx p := by
          have : len - p = (len - (p + 1)) + 1 := by omega
          rw [this]
          show (if zl_dt tx p = true then _ else _) = _
          rw [if_pos (show zl_dt tx p = true from hD)]
          unfold zl_e
          rw [if_pos hpl, if_neg hL, if_pos hD]
        have c2 : Ch QlM M1 (sI M1 207 38 0) := Ch.sI (by unfold QlM; omega) Ch.rf
        obtain ⟨M', e1, e2, e3, e4, e5, e6⟩ := zl_numM (N := N) (X := M1) hpl (len - p) N p 0 (sI M1 207 38 0) (by omega) (by omega) (Nat.le_refl _) (hT1.kept c2 (fun a k w => by unfold QlM at w; omega)) (by rw [dI_s, if_neg (by omega)]; exact d36) (fun _ => by rw [dI_s, if_pos ⟨rfl, rfl⟩]; rfl) c2
        rw [er] at e4 e5 e6
        rw [e1, bS]
        have tt : zl_t len tx p = if zl_e len tx p - p ≤ 9 then 2 else 3 := by unfold zl_t; rw [if_pos hpl, if_neg hL, if_pos hD]
        refine ⟨M', rfl, c1.tr e2, by rw [e3, dI_s, if_neg (by omega), d39], e4, ?_, fun w => ?_⟩
        · rw [e5, tt]
          split <;> rfl
        · rw [tt] at w
          by_cases w1 : zl_e len tx p - p ≤ 9
          · rw [e6 w1]
            unfold zl_v
            rw [if_neg hL]
          · rw [if_neg w1] at w; omega
      · have ee : zl_e len tx p = p + 1 := by unfold zl_e; rw [if_pos hpl, if_neg hL, if_neg hD]
        have tt : zl_t len tx p = if zl_S (tx p) = true then tx p else 3 := by unfold zl_t; rw [if_pos hpl, if_neg hL, if_neg hD]
        rw [if_neg (show ¬ (p < len ∧ zl_D (tx p) = true) from fun w => hD w.2), if_pos (show (0 : Int32) = 0 from rfl), d36, if_neg (nn_in (k := p) (n := 240) (by omega) (by omega)), nn_nat (by omega), (hT1.2.2 p hpl).1, zl_sg, bS, zl_sgn _ (by omega)]
        unfold f_X12_next_b129 f_X12_next_b142
        by_cases hS : zl_S (tx p) = true
        · rw [if_pos hS, if_neg (show ¬ (1 : Int32) = 0 by decide), d36, if_neg (nn_in (k := p) (n := 240) (by omega) (by omega)), nn_nat (by omega), (hT1.2.2 p hpl).1, dI_s, if_neg (by omega), d36, nn_1]
          have := zl_Si.mp hS
          refine ⟨_, rfl, c1.tr (Ch.sI (by unfold QlM; omega) (Ch.sI (by unfold QlM; omega) Ch.rf)), ?_, ?_, ?_, fun w => ?_⟩
          · rw [dI_s, if_neg (by omega), dI_s, if_neg (by omega), d39]
          · rw [dI_s, if_pos ⟨rfl, rfl⟩, ee]
          · rw [dI_s, if_neg (by omega), dI_s, if_pos ⟨rfl, rfl⟩, tt, if_pos hS]
            unfold zl_mt
            rw [if_neg (by omega), if_neg (by omega), if_neg (by omega), if_neg (by omega)]
          · rw [tt, if_pos hS] at w; omega
        · rw [if_neg hS, if_pos (show (0 : Int32) = 0 from rfl), dI_s, if_neg (by omega), d36, nn_1]
          refine ⟨_, rfl, c1.tr (Ch.sI (by unfold QlM; omega) (Ch.sI (by unfold QlM; omega) Ch.rf)), ?_, ?_, ?_, fun w => ?_⟩
          · rw [dI_s, if_neg (by omega), dI_s, if_neg (by omega), d39]
          · rw [dI_s, if_pos ⟨rfl, rfl⟩, ee]
          · rw [dI_s, if_neg (by omega), dI_s, if_pos ⟨rfl, rfl⟩, tt, if_neg hS]
            rfl
          · rw [tt, if_neg hS] at w; omega
  · have hpe : p = len := by omega
    rw [if_pos (by rw [hpe])]
    have tt : zl_t len tx p = 0 := by unfold zl_t; rw [if_neg hpl]
    have ee : zl_e len tx p = len := by unfold zl_e; rw [if_neg hpl]
    refine ⟨_, rfl, c1, d39, by rw [d36, ee, hpe], by rw [d37, tt]; rfl, fun w => ?_⟩
    rw [tt] at w; omega
theorem zl_skipM {N len : Nat} {tx : Nat → Nat} {X : Dat} : ∀ (r g i : Nat) (M : Dat), i + r = len → r < g → TxM len tx M → dI M 207 36 = nn i → Ch (fun a k => a = 207 ∧ k = 36) X M → ∃ M', f_X12_next_b0 N g M = f_X12_next_b38 N M' ∧ Ch (fun a k => a = 207 ∧ k = 36) X M' ∧ dI M' 207 36 = nn (zl_run (zl_bk tx) r i) := by
  intro r
  induction r with
  | zero =>
    intro g i C hi hg hT h7 hc
    obtain ⟨g, rfl⟩ : ∃ g', g = g' + 1 := ⟨g - 1, by omega⟩
    have := hT.1
    refine ⟨C, ?_, hc, h7⟩
    rw [f_X12_next_b0, hT.2.1, h7, if_pos ((nn_le (by omega) (by omega)).mpr (by omega))]
  | succ r ih =>
    intro g i C hi hg hT h7 hc
    obtain ⟨g, rfl⟩ : ∃ g', g = g' + 1 := ⟨g - 1, by omega⟩
    have hl := hT.1
    have hx := hT.2.2 i (by omega)
    rw [f_X12_next_b0, hT.2.1, h7, if_neg (fun w => by have := (nn_le (by omega) (by omega)).mp w; omega), if_neg (nn_in (k := i) (n := 240) (by omega) (by omega)), nn_nat (by omega), hx.1]
    unfold zl_run
    by_cases e : tx i = 32
    · rw [if_pos (by rw [e]; rfl), if_pos (show zl_bk tx i = true from decide_eq_true e), nn_1]
      exact ih g (i + 1) _ (by omega) (by omega) (hT.kept (P := fun a k => a = 207 ∧ k = 36) (Ch.sI (by omega) Ch.rf) (fun a k w => by omega)) (by rw [dI_s, if_pos ⟨rfl, rfl⟩]) (Ch.sI (by omega) hc)
    · rw [if_neg (show ¬ nn (tx i) = 32 from fun w => e ((nn_eq (b := 32) (by omega) (by omega)).mp w)), if_neg (show ¬ zl_bk tx i = true from fun w => e (of_decide_eq_true w))]
      exact ⟨C, rfl, hc, h7⟩
theorem zl_nextM {N len b : Nat} {tx : Nat → Nat} (hN : 1000 ≤ N) {M : Dat} (hT : TxM len tx M) (hb : b ≤ len) (h36 : dI M 207 36 = nn b) : ∃ M', f_X12_next N M = some M' ∧ Ch QlM M M' ∧ TkM (zl_p len tx b) (zl_e len tx (zl_p len tx b)) (zl_t len tx (zl_p len tx b)) (zl_v len tx (zl_p len tx b)) M' := by
  have hl := hT.1
  unfold f_X12_next
  obtain ⟨C1, r1, r2, r3⟩ := zl_skipM (N := N) (X := M) (len - b) N b M (by omega) (by omega) hT h36 Ch.rf
  have be := zl_run_b (f := zl_bk tx) (len - b) b
  obtain ⟨C2, s1, s2, s3⟩ := zl_finM hN (hT.kept r2 (fun a k w => by omega)) (p := zl_p len tx b) (by unfold zl_p; omega) r3
  exact ⟨C2, r1.trans s1, (r2.mono (fun a k w => by unfold QlM; omega)).tr s2, s3⟩
