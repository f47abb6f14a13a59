/-! the invariant: scalars, code, marks, text, machine -/
theorem nn_l (n : Nat) : (@OfNat.ofNat Int32 n Int32.instOfNat) = nn (OfNat.ofNat n) := rfl
theorem n10 : ((1 : Int32) = 0) = False := by decide
theorem n01 : ((0 : Int32) = 1) = False := by decide
theorem bS {α β : Type} (a : α) (f : α → Option β) : (some a).bind f = f a := rfl
def b01 (x : Int32) : Prop := x = 0 ∨ x = 1
theorem b01_and {x : Int32} (h : b01 x) : x &&& 1 = x := by rcases h with h | h <;> rw [h] <;> decide
def RIS (a k : Nat) : Prop := (a = 1 ∧ (k = 0 ∨ k = 2)) ∨ (a = 207 ∧ (k = 1 ∨ k = 5 ∨ k = 7 ∨ k = 8 ∨ k = 16 ∨ k = 17 ∨ k = 18)) ∨ (a = 0 ∧ (k = 12 ∨ k = 13 ∨ k = 14 ∨ k = 15)) ∨ (a = 107 ∧ k = 10)
def IS (nu : Nat) (D : Dat) : Prop := (1 ≤ nu ∧ nu ≤ 6) ∧ (dI D 1 0 = nn nu ∧ dI D 207 1 = nn nu) ∧ (dI D 0 14 = dI D 207 7 ∧ dI D 0 15 = dI D 207 8) ∧ (dI D 0 13 = dI D 207 16 ∧ b01 (dI D 207 16)) ∧ (dI D 0 12 = dI D 207 18 ∧ b01 (dI D 207 18)) ∧ (dI D 107 10 = dI D 207 17 ∧ b01 (dI D 207 17)) ∧ (dI D 1 2 = dI D 207 5 ∧ b01 (dI D 207 5))
def RIC (a k : Nat) : Prop := (a = 0 ∧ (k = 10 ∨ k = 11)) ∨ (a = 207 ∧ k = 13) ∨ a = 212 ∨ a = 213 ∨ (201 ≤ a ∧ a ≤ 206)
/-- the code's cell, its size -/
def IC (c sz : Nat) (D : Dat) : Prop := (c = 201 ∨ c = 204) ∧ (dR D 0 10 = some c ∧ dR D 0 11 = some (405 - c)) ∧ sz ≤ 64 ∧ (dI D c 2 = nn sz ∧ dI D 207 13 = nn sz) ∧ ∀ i, i < sz → dI D (c + 1) i = dI D 212 i ∧ dI D (c + 2) i = dI D 213 i ∧ 0 ≤ (dI D 212 i).toInt ∧ (dI D 212 i).toInt ≤ 15
def RIM (a _k : Nat) : Prop := a = 190 ∨ a = 214 ∨ a = 215
def IM (nu : Nat) (D : Dat) : Prop := ∀ x, x < 26 → (dI D 190 x = dI D 214 x ∧ dI D 190 (26 + x) = dI D 215 x) ∧ (-1 ≤ (dI D 214 x).toInt ∧ (dI D 214 x).toInt < nu) ∧ (-1 ≤ (dI D 215 x).toInt ∧ (dI D 215 x).toInt < nu)
def RIT (a k : Nat) : Prop := (a = 3 ∧ k = 2) ∨ (a = 207 ∧ k = 10) ∨ a = 4 ∨ a = 211
def IT (len : Nat) (D : Dat) : Prop := len ≤ 240 ∧ (dI D 3 2 = nn len ∧ dI D 207 10 = nn len) ∧ ∀ i, i < len → dI D 4 i = dI D 211 i ∧ 32 ≤ (dI D 211 i).toInt ∧ (dI D 211 i).toInt ≤ 126
def RIA (a k : Nat) : Prop := a = 182 ∨ a = 184 ∨ a = 185 ∨ a = 187 ∨ a = 188 ∨ a = 254 ∨ a = 255 ∨ a = 257 ∨ a = 258 ∨ a = 259 ∨ a = 260 ∨ (a = 181 ∧ k = 9) ∨ (a = 207 ∧ k = 83)
def IA (D : Dat) : Prop := ((∀ k, k < 26 → dI D 182 k = dI D 259 k) ∧ (∀ k, k < 208 → dI D 182 (26 + k) = dI D 260 k)) ∧ ((∀ k, k < 120 → dI D 184 k = dI D 254 k) ∧ (∀ k, k < 120 → dI D 187 k = dI D 257 k)) ∧ (∀ k, k < 6 → (dI D 185 k = dI D 255 k ∧ 0 ≤ (dI D 255 k).toInt ∧ (dI D 255 k).toInt ≤ 20) ∧ (dI D 188 k = dI D 258 k ∧ 0 ≤ (dI D 258 k).toInt ∧ (dI D 258 k).toInt ≤ 20)) ∧ dI D 181 9 = dI D 207 83
theorem IS.kept {nu : Nat} {P : Nat → Nat → Prop} {D D' : Dat} (h : Ch P D D') (hp : ∀ a k, P a k → ¬ RIS a k) (hI : IS nu D) : IS nu D' := by
  have e : ∀ a k, RIS a k → dI D' a k = dI D a k := fun a k r => h.i (fun q => hp a k q r)
  unfold IS at hI ⊢
  rw [e 1 0 (by unfold RIS; omega), e 207 1 (by unfold RIS; omega), e 0 14 (by unfold RIS; omega), e 207 7 (by unfold RIS; omega), e 0 15 (by unfold RIS; omega), e 207 8 (by unfold RIS; omega), e 0 13 (by unfold RIS; omega), e 207 16 (by unfold RIS; omega), e 0 12 (by unfold RIS; omega), e 207 18 (by unfold RIS; omega), e 107 10 (by unfold RIS; omega), e 207 17 (by unfold RIS; omega), e 1 2 (by unfold RIS; omega), e 207 5 (by unfold RIS; omega)]
  exact hI
theorem IC.kept {c sz : Nat} {P : Nat → Nat → Prop} {D D' : Dat} (h : Ch P D D') (hp : ∀ a k, P a k → ¬ RIC a k) (hI : IC c sz D) : IC c sz D' := by
  have e : ∀ a k, RIC a k → dI D' a k = dI D a k := fun a k r => h.i (fun q => hp a k q r)
  have er : ∀ a k, RIC a k → dR D' a k = dR D a k := fun a k r => h.r (fun q => hp a k q r)
  obtain ⟨h1, h2, h3, h4, h5⟩ := hI
  refine ⟨h1, ?_, h3, ?_, fun i hi => ?_⟩
  · rw [er 0 10 (by unfold RIC; omega), er 0 11 (by unfold RIC; omega)]; exact h2
  · rw [e c 2 (by unfold RIC; omega), e 207 13 (by unfold RIC; omega)]; exact h4
  · rw [e (c + 1) i (by unfold RIC; omega), e (c + 2) i (by unfold RIC; omega), e 212 i (by unfold RIC; omega), e 213 i (by unfold RIC; omega)]; exact h5 i hi
theorem IM.kept {nu : Nat} {P : Nat → Nat → Prop} {D D' : Dat} (h : Ch P D D') (hp : ∀ a k, P a k → ¬ RIM a k) (hI : IM nu D) : IM nu D' := by
  have e : ∀ a k, RIM a k → dI D' a k = dI D a k := fun a k r => h.i (fun q => hp a k q r)
  intro x hx
  rw [e 190 x (by unfold RIM; omega), e 190 (26 + x) (by unfold RIM; omega), e 214 x (by unfold RIM; omega), e 215 x (by unfold RIM; omega)]
  exact hI x hx
theorem IT.kept {len : Nat} {P : Nat → Nat → Prop} {D D' : Dat} (h : Ch P D D') (hp : ∀ a k, P a k → ¬ RIT a k) (hI : IT len D) : IT len D' := by
  have e : ∀ a k, RIT a k → dI D' a k = dI D a k := fun a k r => h.i (fun q => hp a k q r)
  obtain ⟨h1, h2, h3⟩ := hI
  refine ⟨h1, ?_, fun i hi => ?_⟩
  · rw [e 3 2 (by unfold RIT; omega), e 207 10 (by unfold RIT; omega)]; exact h2
  · rw [e 4 i (by unfold RIT; omega), e 211 i (by unfold RIT; omega)]; exact h3 i hi
theorem IA.kept {P : Nat → Nat → Prop} {D D' : Dat} (h : Ch P D D') (hp : ∀ a k, P a k → ¬ RIA a k) (hI : IA D) : IA D' := by
  have e : ∀ a k, RIA a k → dI D' a k = dI D a k := fun a k r => h.i (fun q => hp a k q r)
  obtain ⟨⟨h1, h2⟩, ⟨h3, h4⟩, h5, h6⟩ := hI
  refine ⟨⟨fun k hk => ?_, fun k hk => ?_⟩, ⟨fun k hk => ?_, fun k hk => ?_⟩, fun k hk => ?_, ?_⟩
  · rw [e 182 k (by unfold RIA; omega), e 259 k (by unfold RIA; omega)]; exact h1 k hk
  · rw [e 182 (26 + k) (by unfold RIA; omega), e 260 k (by unfold RIA; omega)]; exact h2 k hk
  · rw [e 184 k (by unfold RIA; omega), e 254 k (by unfold RIA; omega)]; exact h3 k hk
  · rw [e 187 k (by unfold RIA; omega), e 257 k (by unfold RIA; omega)]; exact h4 k hk
  · rw [e 185 k (by unfold RIA; omega), e 255 k (by unfold RIA; omega), e 188 k (by unfold RIA; omega), e 258 k (by unfold RIA; omega)]; exact h5 k hk
  · rw [e 181 9 (by unfold RIA; omega), e 207 83 (by unfold RIA; omega)]; exact h6
/-- a call of the class, then of the model: the same kind of end, the same answer -/
theorem stp_ok {K : Nat → Nat} {fL : Option (Int32 × Dat)} {fM : Dat → Option (Int32 × Dat)} {k b : Int32} {D1 D2 : Dat} (h1 : fL = some (k, D1)) (h2 : fM D1 = some (b, D2)) (h3 : dI D2 207 0 = k) (h4 : k = 0 → dL D2 262 (0 : Int32).toNatClampNeg = b.toInt64) :
    (fL.bind (fun p => (fM p.2).bind (fun q => (f_X12_thrown q.2).bind (fun r => if r.1 = p.1 ∧ (p.1 = 0 → dL r.2 262 (0 : Int32).toNatClampNeg = q.1.toInt64) then some (K, r.2) else none)))) = some (K, D2) := by
  subst h1
  rw [bS, h2, bS, e_X12_thrown, bS, if_pos ⟨h3, h4⟩]
/-- the model gives 'failed = k', and nothing else changes -/
def mf (D : Dat) (k : Int32) : Dat := sI (sI D 207 0 0) 207 0 k
theorem Ch.mf {P : Nat → Nat → Prop} {D D' : Dat} {k : Int32} (hp : P 207 0) (h : Ch P D D') : Ch P D (mf D' k) := Ch.sI hp (Ch.sI hp h)
theorem dI_mf (D : Dat) (k : Int32) (a j : Nat) : dI (mf D k) a j = if a = 207 ∧ j = 0 then k else dI D a j := by
  unfold mf
  rw [dI_s, dI_s]
  by_cases q : a = 207 ∧ j = 0
  · rw [if_pos q, if_pos q]
  · rw [if_neg q, if_neg q, if_neg q]
/-- a label or not -/
theorem lab {nu : Nat} (hn : nu ≤ 6) (x : Int32) : (∃ k, k < nu ∧ x = nn k) ∨ (x.toInt < 0 ∨ (nu : Int) ≤ x.toInt) := by
  by_cases h : 0 ≤ x.toInt ∧ x.toInt < nu
  · obtain ⟨k, hk, rfl⟩ := nn_of h.1
    rw [nn_int hk] at h
    exact Or.inl ⟨k, by omega, rfl⟩
  · exact Or.inr (by omega)
theorem has_no {nu : Nat} (hn : nu ≤ 6) {x : Int32} (h : x.toInt < 0 ∨ (nu : Int) ≤ x.toInt) {D : Dat} (hd : dI D 1 0 = nn nu) : f_X2_has x D = some (0, D) := by
  rw [e_X2_has, hd]
  by_cases q : x < 0
  · rw [if_pos q]
  · rw [if_neg q, if_pos]
    rw [Int32.le_iff_toInt_le, nn_int (by omega)]
    have := not_lt0.mp q
    omega
theorem has_yes {nu k : Nat} (hn : nu ≤ 6) (h : k < nu) {D : Dat} (hd : dI D 1 0 = nn nu) : f_X2_has (nn k) D = some (1, D) := by
  rw [e_X2_has, hd, if_neg (nn_nlt0 (by omega)), if_neg]
  rw [nn_le (by omega) (by omega)]
  omega
theorem out_no {m k : Nat} (hm : m < 2147483648) (h : k < m) (D : Dat) : f_X12_out (nn k) (nn m) D = some (0, D) := by
  rw [e_X12_out, if_neg (nn_nlt0 (by omega)), if_pos ((nn_lt (by omega) hm).mpr h)]
theorem out_yes {m : Nat} (hm : m < 2147483648) {x : Int32} (h : x.toInt < 0 ∨ (m : Int) ≤ x.toInt) (D : Dat) : f_X12_out x (nn m) D = some (1, D) := by
  rw [e_X12_out]
  by_cases q : x < 0
  · rw [if_pos q]
  · rw [if_neg q, if_neg]
    rw [Int32.lt_iff_toInt_lt, nn_int hm]
    have := not_lt0.mp q
    omega
theorem isMark_yes {k : Nat} (h : k < 6) (D : Dat) : f_X3_isMark (nn k) D = some (1, D) := by
  rw [e_X3_isMark, if_neg (nn_nlt0 (by omega)), if_neg]
  rw [nn_l, nn_le (by omega) (by omega)]
  omega
theorem e_X3_fed {k : Nat} (h : k < 6) (D : Dat) : f_X3_fed (nn k) D = some (dI D 185 k, D) := by
  unfold f_X3_fed f_X3_fed_b17
  have i1 := nn_in (k := k) (n := 6) (by omega) (by omega)
  simp only [isMark_yes h, bS, n10, i1, reduceIte]
  rw [nn_nat (by omega)]
