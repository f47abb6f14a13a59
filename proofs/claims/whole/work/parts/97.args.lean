/-! the verifier: code as numbers; 1 and 2 -/
def Kc (c sz : Nat) (o : Nat → Nat) (x : Nat → Int32) (D : Dat) : Prop := (c = 201 ∨ c = 204) ∧ sz ≤ 64 ∧ dR D 107 2 = some c ∧ dR D 107 3 = some 190 ∧ dI D c 2 = nn sz ∧ ∀ i, i < sz → dI D (c + 1) i = nn (o i) ∧ dI D (c + 2) i = x i
def Km (sz : Nat) (o : Nat → Nat) (x : Nat → Int32) (D : Dat) : Prop := sz ≤ 64 ∧ dI D 207 13 = nn sz ∧ ∀ i, i < sz → dI D 212 i = nn (o i) ∧ dI D 213 i = x i
def RKc (a k : Nat) : Prop := (a = 107 ∧ (k = 2 ∨ k = 3)) ∨ (201 ≤ a ∧ a ≤ 206)
def RKm (a k : Nat) : Prop := (a = 207 ∧ k = 13) ∨ a = 212 ∨ a = 213
theorem Kc.kept {c sz : Nat} {o : Nat → Nat} {x : Nat → Int32} {P : Nat → Nat → Prop} {D D' : Dat} (h : Ch P D D') (hp : ∀ a k, P a k → ¬ RKc a k) (k : Kc c sz o x D) : Kc c sz o x D' := by
  obtain ⟨k1, k2, k3, k4, k5, k6⟩ := k
  have e : ∀ a j, RKc a j → dI D' a j = dI D a j ∧ dR D' a j = dR D a j := fun a j r => ⟨h.i (fun q => hp a j q r), h.r (fun q => hp a j q r)⟩
  refine ⟨k1, k2, ?_, ?_, ?_, fun i hi => ?_⟩
  · rw [(e 107 2 (by unfold RKc; omega)).2]; exact k3
  · rw [(e 107 3 (by unfold RKc; omega)).2]; exact k4
  · rw [(e c 2 (by unfold RKc; omega)).1]; exact k5
  · rw [(e (c + 1) i (by unfold RKc; omega)).1, (e (c + 2) i (by unfold RKc; omega)).1]; exact k6 i hi
theorem Km.kept {sz : Nat} {o : Nat → Nat} {x : Nat → Int32} {P : Nat → Nat → Prop} {D D' : Dat} (h : Ch P D D') (hp : ∀ a k, P a k → ¬ RKm a k) (k : Km sz o x D) : Km sz o x D' := by
  obtain ⟨k1, k2, k3⟩ := k
  have e : ∀ a j, RKm a j → dI D' a j = dI D a j := fun a j r => h.i (fun q => hp a j q r)
  refine ⟨k1, ?_, fun i hi => ?_⟩
  · rw [e 207 13 (by unfold RKm; omega)]; exact k2
  · rw [e 212 i (by unfold RKm; omega), e 213 i (by unfold RKm; omega)]; exact k3 i hi
def bd (nu sz o : Nat) : Option Nat := if 1 ≤ o ∧ o ≤ 4 then some 26 else if o = 13 ∨ o = 14 then some nu else if o = 11 ∨ o = 12 then some sz else none
def fb (nu sz o : Nat) (x : Int32) : Bool := match bd nu sz o with
  | none => true
  | some m => decide (0 ≤ x.toInt ∧ x.toInt < m)
theorem e_72 (x : Int32) (D : Dat) : f_X9_argumentFits_b72 x D = some (if 0 ≤ x.toInt ∧ x.toInt < 26 then 1 else 0, D) := by
  unfold f_X9_argumentFits_b72 f_X9_argumentFits_b86 f_X9_argumentFits_b87
  by_cases q : x < 0
  · have := Int32.lt_iff_toInt_lt.mp q
    have z : (0 : Int32).toInt = 0 := rfl
    rw [if_pos q, if_pos b0_1, if_neg (by omega)]
  · have q0 := not_lt0.mp q
    by_cases q2 : 26 ≤ x
    · have z : (26 : Int32).toInt = 26 := rfl
      rw [if_neg q, if_pos q2, if_pos b0_1, if_neg (by rw [Int32.le_iff_toInt_le] at q2; omega)]
    · have z : (26 : Int32).toInt = 26 := rfl
      rw [if_neg q, if_neg q2, if_pos b1_1, if_pos (by rw [Int32.le_iff_toInt_le] at q2; omega)]
theorem has_e {nu : Nat} (hn : nu ≤ 6) {D : Dat} (hd : dI D 1 0 = nn nu) (x : Int32) : f_X2_has x D = some (if 0 ≤ x.toInt ∧ x.toInt < nu then 1 else 0, D) := by
  by_cases q : 0 ≤ x.toInt ∧ x.toInt < nu
  · obtain ⟨k, hk, rfl⟩ := nn_of q.1
    rw [nn_int hk] at q
    rw [has_yes hn (by omega) hd, nn_int hk, if_pos q]
  · rw [has_no hn (by omega) hd, if_neg q]
theorem out_e {m : Nat} (hm : m < 2147483648) (x : Int32) (D : Dat) : f_X12_out x (nn m) D = some (if 0 ≤ x.toInt ∧ x.toInt < m then 0 else 1, D) := by
  by_cases q : 0 ≤ x.toInt ∧ x.toInt < m
  · obtain ⟨k, hk, rfl⟩ := nn_of q.1
    rw [nn_int hk] at q
    rw [out_no hm (by omega), nn_int hk, if_pos q]
  · rw [out_yes hm (by omega), if_neg q]
theorem b01_if {c : Prop} {d : Decidable c} : (@ite Int32 c d 1 0) &&& 1 = @ite Int32 c d 1 0 := by
  by_cases q : c
  · rw [if_pos q]; decide
  · rw [if_neg q]; decide
theorem if10 {α : Type} {c : Prop} {d : Decidable c} {a b : α} : (if (@ite Int32 c d 1 0) = 0 then a else b) = if c then b else a := by
  by_cases q : c
  · rw [if_pos q, if_pos q, if_neg (by decide)]
  · rw [if_neg q, if_neg q, if_pos rfl]
theorem if01 {α : Type} {c : Prop} {d : Decidable c} {a b : α} : (if (@ite Int32 c d 0 1) = 0 then a else b) = if c then a else b := by
  by_cases q : c
  · rw [if_pos q, if_pos q, if_pos rfl]
  · rw [if_neg q, if_neg q, if_neg (by decide)]
theorem argF {nu sz o c : Nat} {x : Int32} {D : Dat} (hn : nu ≤ 6) (hz : sz ≤ 64) (ho : o ≤ 15) (hd : dI D 1 0 = nn nu) (hc : c = 201 ∨ c = 204) (h2 : dR D 107 2 = some c) (hs : dI D c 2 = nn sz) : f_X9_argumentFits (nn o) x D = some (if fb nu sz o x = true then 1 else 0, D) := by
  have e88 : f_X9_argumentFits_b88 x D = some (if 0 ≤ x.toInt ∧ x.toInt < nu then 1 else 0, D) := by
    unfold f_X9_argumentFits_b88
    rw [has_e hn hd, bS, if_pos b01_if]
  have e97 : f_X9_argumentFits_b97 x D = some (if 0 ≤ x.toInt ∧ x.toInt < sz then 1 else 0, D) := by
    unfold f_X9_argumentFits_b97
    rw [h2, bS, if_pos hc, code_has hz hs, bS, if_pos b01_if]
  have e106 : f_X9_argumentFits_b106 D = some (1, D) := rfl
  unfold f_X9_argumentFits
  rw [e_72, e88, e97, e106]
  rcases (show o = 0 ∨ o = 1 ∨ o = 2 ∨ o = 3 ∨ o = 4 ∨ o = 5 ∨ o = 6 ∨ o = 7 ∨ o = 8 ∨ o = 9 ∨ o = 10 ∨ o = 11 ∨ o = 12 ∨ o = 13 ∨ o = 14 ∨ o = 15 by omega) with rfl | rfl | rfl | rfl | rfl | rfl | rfl | rfl | rfl | rfl | rfl | rfl | rfl | rfl | rfl | rfl
  all_goals (repeat rw [if_neg (by decide)])
  all_goals (try rw [if_pos (by decide)])
  all_goals simp [fb, bd]
theorem goodF {nu sz : Nat} {o : Nat → Nat} {x : Nat → Int32} {D : Dat} (hn : nu ≤ 6) (ho : ∀ i, o i ≤ 15) (hd : dI D 207 1 = nn nu) (hK : Km sz o x D) {i : Nat} (hi : i < sz) : f_X12_goodX (nn i) D = some (if fb nu sz (o i) (x i) = true then 1 else 0, D) := by
  obtain ⟨k1, k2, k3⟩ := hK
  obtain ⟨e1, e2⟩ := k3 i hi
  have i1 := nn_in (k := i) (n := 64) (by omega) (by omega)
  have hoi := ho i
  have e50 : f_X12_goodX_b50 (nn i) D = some (if 0 ≤ (x i).toInt ∧ (x i).toInt < nu then 1 else 0, D) := by
    unfold f_X12_goodX_b50 f_X12_goodX_b72
    rw [if_neg i1, nn_nat (by omega), e2, hd, out_e (by omega), bS, if01]
    split <;> simp [b0_1, b1_1]
  have e85 : f_X12_goodX_b85 (nn i) D = some (if 0 ≤ (x i).toInt ∧ (x i).toInt < sz then 1 else 0, D) := by
    unfold f_X12_goodX_b85 f_X12_goodX_b102 f_X12_goodX_b107
    rw [if_neg i1, nn_nat (by omega), e2, k2, out_e (by omega), bS, if01]
    split <;> simp [b0_1, b1_1]
  have e102 : f_X12_goodX_b102 D = some (1, D) := by
    unfold f_X12_goodX_b102 f_X12_goodX_b107
    rw [if_pos b1_1]
  have e26 : (f_X12_out (x i) 26 D).bind (fun p20 => if p20.1 = 0 then (f_X12_goodX_b37 1 p20.2) else (f_X12_goodX_b37 0 p20.2)) = some (if 0 ≤ (x i).toInt ∧ (x i).toInt < 26 then 1 else 0, D) := by
    unfold f_X12_goodX_b37
    rw [show (26 : Int32) = nn 26 from rfl, out_e (by omega), bS, if01]
    by_cases h : 0 ≤ (x i).toInt ∧ (x i).toInt < 26
    · rw [if_pos h, if_pos (show 0 ≤ (x i).toInt ∧ (x i).toInt < ((26 : Nat) : Int) from h), if_pos b1_1]
    · rw [if_neg h, if_neg (show ¬ (0 ≤ (x i).toInt ∧ (x i).toInt < ((26 : Nat) : Int)) from h), if_pos b0_1]
  unfold f_X12_goodX f_X12_goodX_b38
  rw [if_neg i1, if_neg i1, nn_nat (by omega), e1, e2, e50, e85, e102, e26]
  generalize o i = q at hoi
  generalize x i = y
  rcases (show q = 0 ∨ q = 1 ∨ q = 2 ∨ q = 3 ∨ q = 4 ∨ q = 5 ∨ q = 6 ∨ q = 7 ∨ q = 8 ∨ q = 9 ∨ q = 10 ∨ q = 11 ∨ q = 12 ∨ q = 13 ∨ q = 14 ∨ q = 15 by omega) with rfl | rfl | rfl | rfl | rfl | rfl | rfl | rfl | rfl | rfl | rfl | rfl | rfl | rfl | rfl | rfl
  all_goals (repeat first | rw [if_neg (by decide)] | rw [if_pos (by decide)])
  all_goals simp [fb, bd]
/-- the first that isn't so -/
theorem first_bad (P : Nat → Prop) (n : Nat) : (∀ j, j < n → P j) ∨ ∃ b, b < n ∧ ¬ P b ∧ ∀ j, j < b → P j := by
  induction n with
  | zero => exact Or.inl (fun j hj => absurd hj (by omega))
  | succ n ih =>
    rcases ih with h | ⟨b, h1, h2, h3⟩
    · by_cases q : P n
      · refine Or.inl (fun j hj => ?_)
        by_cases z : j = n
        · rw [z]; exact q
        · exact h j (by omega)
      · exact Or.inr ⟨n, by omega, q, h⟩
    · exact Or.inr ⟨b, by omega, h2, h3⟩
theorem args_ok {N nu c sz : Nat} {o : Nat → Nat} {x : Nat → Int32} {D : Dat} (hn : nu ≤ 6) (ho : ∀ i, o i ≤ 15) (hd : dI D 1 0 = nn nu) (hK : Kc c sz o x D) (hf : ∀ j, j < sz → fb nu sz (o j) (x j) = true) : ∀ (k g i : Nat), i + k = sz → k < g → f_X9_argumentsFit_b2 N g (nn i) D = some (1, D) := by
  obtain ⟨k1, k2, k3, k4, k5, k6⟩ := hK
  intro k
  induction k with
  | zero =>
    intro g i hi hg
    obtain ⟨g, rfl⟩ : ∃ g', g = g' + 1 := ⟨g - 1, by omega⟩
    have h1 : nn sz ≤ nn i := (nn_le (by omega) (by omega)).mpr (by omega)
    rw [f_X9_argumentsFit_b2]
    simp only [k3, bS, k1, reduceIte, f_X0_size, k5, h1]
  | succ k ih =>
    intro g i hi hg
    obtain ⟨g, rfl⟩ : ∃ g', g = g' + 1 := ⟨g - 1, by omega⟩
    have h1 : ¬ nn sz ≤ nn i := by rw [nn_le (by omega) (by omega)]; omega
    have hi' : i < sz := by omega
    rw [f_X9_argumentsFit_b2]
    simp only [k3, bS, k1, reduceIte, f_X0_size, k5, h1, code_op k2 k5 hi', code_arg k2 k5 hi', (k6 i hi').1, (k6 i hi').2, argF hn k2 (ho i) hd k1 k3 k5, hf i hi', n10, nn_1]
    exact ih g (i + 1) (by omega) (by omega)
theorem args_no {N nu c sz b : Nat} {o : Nat → Nat} {x : Nat → Int32} {D : Dat} (hn : nu ≤ 6) (ho : ∀ i, o i ≤ 15) (hd : dI D 1 0 = nn nu) (hK : Kc c sz o x D) (hb : b < sz) (hf : ∀ j, j < b → fb nu sz (o j) (x j) = true) (hx : ¬ fb nu sz (o b) (x b) = true) : ∀ (k g i : Nat), i + k = b → k < g → f_X9_argumentsFit_b2 N g (nn i) D = some (0, sI (sI D 107 11 (nn b)) 107 12 1) := by
  obtain ⟨k1, k2, k3, k4, k5, k6⟩ := hK
  intro k
  induction k with
  | zero =>
    intro g i hi hg
    obtain ⟨g, rfl⟩ : ∃ g', g = g' + 1 := ⟨g - 1, by omega⟩
    obtain rfl : i = b := by omega
    have h1 : ¬ nn sz ≤ nn i := by rw [nn_le (by omega) (by omega)]; omega
    rw [f_X9_argumentsFit_b2]
    simp only [k3, bS, k1, reduceIte, f_X0_size, k5, h1, code_op k2 k5 hb, code_arg k2 k5 hb, (k6 i hb).1, (k6 i hb).2, argF hn k2 (ho i) hd k1 k3 k5, hx, Bool.false_eq_true, f_X9_refuse, b0_1]
  | succ k ih =>
    intro g i hi hg
    obtain ⟨g, rfl⟩ : ∃ g', g = g' + 1 := ⟨g - 1, by omega⟩
    have h1 : ¬ nn sz ≤ nn i := by rw [nn_le (by omega) (by omega)]; omega
    have hi' : i < sz := by omega
    rw [f_X9_argumentsFit_b2]
    simp only [k3, bS, k1, reduceIte, f_X0_size, k5, h1, code_op k2 k5 hi', code_arg k2 k5 hi', (k6 i hi').1, (k6 i hi').2, argF hn k2 (ho i) hd k1 k3 k5, hf i (by omega), n10, nn_1]
    exact ih g (i + 1) (by omega) (by omega)
theorem end_ok {c sz : Nat} {o : Nat → Nat} {x : Nat → Int32} {D : Dat} (hK : Kc c sz o x D) (h1 : 1 ≤ sz) (he : o (sz - 1) = 12 ∨ o (sz - 1) = 15) : f_X9_endFits D = some (1, D) := by
  obtain ⟨k1, k2, k3, k4, k5, k6⟩ := hK
  have e1 : nn sz - (1 : Int32) = nn (sz - 1) := nn_sub (a := sz) (b := 1) h1 (by omega)
  unfold f_X9_endFits f_X9_endFits_b40 f_X9_endFits_b45
  simp only [k3, bS, k1, reduceIte, f_X0_size, k5, e1, code_op k2 k5 (show sz - 1 < sz by omega), (k6 (sz - 1) (by omega)).1]
  rcases he with q | q <;> rw [q]
  · rw [if_pos (show nn 12 = (12 : Int32) from rfl), if_pos b1_1]
  · rw [if_neg (show ¬ nn 15 = (12 : Int32) by decide), if_pos (show nn 15 = (15 : Int32) from rfl), if_pos b1_1]
theorem end_no {c sz : Nat} {o : Nat → Nat} {x : Nat → Int32} {D : Dat} (ho : ∀ i, o i ≤ 15) (hK : Kc c sz o x D) (h1 : 1 ≤ sz) (he : ¬ (o (sz - 1) = 12 ∨ o (sz - 1) = 15)) : f_X9_endFits D = some (0, sI (sI D 107 11 (nn (sz - 1))) 107 12 2) := by
  obtain ⟨k1, k2, k3, k4, k5, k6⟩ := hK
  have e1 : nn sz - (1 : Int32) = nn (sz - 1) := nn_sub (a := sz) (b := 1) h1 (by omega)
  have q1 : ¬ nn (o (sz - 1)) = (12 : Int32) := ne_op (b := 12) (by have := ho (sz - 1); omega) (by omega) (by omega)
  have q2 : ¬ nn (o (sz - 1)) = (15 : Int32) := ne_op (b := 15) (by have := ho (sz - 1); omega) (by omega) (by omega)
  unfold f_X9_endFits f_X9_endFits_b40 f_X9_endFits_b45
  simp only [k3, bS, k1, reduceIte, f_X0_size, k5, e1, code_op k2 k5 (show sz - 1 < sz by omega), (k6 (sz - 1) (by omega)).1, q1, q2, f_X9_refuse, b0_1]
