/-! THE PURE PART: total correctness, loops, small numbers -/
def Tt {α : Type} (o : Option α) (P : α → Prop) : Prop := ∃ z, o = some z ∧ P z
theorem Tt_some {α : Type} {z : α} {P : α → Prop} (h : P z) : Tt (some z) P := ⟨z, rfl, h⟩
theorem Tt_bind {α β : Type} {o : Option α} {k : α → Option β} {P : β → Prop} (h : Tt o (fun r => Tt (k r) P)) : Tt (o.bind k) P := by
  obtain ⟨z, e, h⟩ := h
  rw [e]
  exact h
theorem Tt_mono {α : Type} {o : Option α} {P Q : α → Prop} (h : Tt o P) (k : ∀ z, P z → Q z) : Tt o Q := by
  obtain ⟨z, e, h⟩ := h
  exact ⟨z, e, k z h⟩
theorem Tt_call {α β : Type} {o : Option α} {k : α → Option β} {P : α → Prop} {Q : β → Prop} (h : Tt o P) (g : ∀ r, P r → Tt (k r) Q) : Tt (o.bind k) Q := Tt_bind (Tt_mono h g)
theorem Tt_if {α : Type} {c : Prop} {d : Decidable c} {a b : Option α} {P : α → Prop} (h1 : c → Tt a P) (h2 : ¬ c → Tt b P) : Tt (@ite _ c d a b) P := by
  by_cases q : c
  · rw [if_pos q]; exact h1 q
  · rw [if_neg q]; exact h2 q
theorem Tt_chk {α : Type} {c : Prop} {d : Decidable c} {b : Option α} {P : α → Prop} (h1 : ¬ c) (h2 : Tt b P) : Tt (@ite _ c d none b) P := by
  rw [if_neg h1]; exact h2
theorem Tt_req {α : Type} {c : Prop} {d : Decidable c} {a : Option α} {P : α → Prop} (h1 : c) (h2 : Tt a P) : Tt (@ite _ c d a none) P := by
  rw [if_pos h1]; exact h2
theorem Tt_pos {α : Type} {c : Prop} {d : Decidable c} {a b : Option α} {P : α → Prop} (h1 : c) (h2 : Tt a P) : Tt (@ite _ c d a b) P := by
  rw [if_pos h1]; exact h2
theorem Tt_neg {α : Type} {c : Prop} {d : Decidable c} {a b : Option α} {P : α → Prop} (h1 : ¬ c) (h2 : Tt b P) : Tt (@ite _ c d a b) P := by
  rw [if_neg h1]; exact h2
/-- a loop with fuel: what it does at one round, given that it goes well where the measure is less -/
theorem loopM {σ ρ : Type} (F : Nat → σ → Option ρ) (I : σ → Prop) (μ : σ → Nat) (P : ρ → Prop) (hs : ∀ g s, I s → (∀ s', I s' → μ s' < μ s → Tt (F g s') P) → Tt (F (g + 1) s) P) : ∀ g s, μ s < g → I s → Tt (F g s) P := by
  intro g
  induction g with
  | zero => intro s h; exact absurd h (Nat.not_lt_zero _)
  | succ g ih => intro s h hI; exact hs g s hI (fun s' h' hl => ih s' (by omega) h')
/-! small numbers -/
def nn (k : Nat) : Int32 := Int32.ofNat k
theorem nn_int {k : Nat} (h : k < 2147483648) : (nn k).toInt = (k : Int) := Int32.toInt_ofNat_of_lt h
theorem nn_nat {k : Nat} (h : k < 2147483648) : (nn k).toNatClampNeg = k := Int32.toNatClampNeg_ofNat_of_lt h
theorem nn_add (a b : Nat) : nn a + nn b = nn (a + b) := (Int32.ofNat_add a b).symm
theorem nn_mul (a b : Nat) : nn a * nn b = nn (a * b) := (Int32.ofNat_mul a b).symm
theorem nn_1 (a : Nat) : nn a + 1 = nn (a + 1) := nn_add a 1
theorem nn_le {a b : Nat} (ha : a < 2147483648) (hb : b < 2147483648) : nn a ≤ nn b ↔ a ≤ b := by
  rw [Int32.le_iff_toInt_le, nn_int ha, nn_int hb]; omega
theorem nn_lt {a b : Nat} (ha : a < 2147483648) (hb : b < 2147483648) : nn a < nn b ↔ a < b := by
  rw [Int32.lt_iff_toInt_lt, nn_int ha, nn_int hb]; omega
theorem nn_eq {a b : Nat} (ha : a < 2147483648) (hb : b < 2147483648) : nn a = nn b ↔ a = b := by
  rw [← Int32.toInt_inj, nn_int ha, nn_int hb]; omega
theorem nn_nlt0 {a : Nat} (ha : a < 2147483648) : ¬ nn a < 0 := by
  rw [Int32.lt_iff_toInt_lt, nn_int ha]; show ¬ _ < (0 : Int); omega
theorem nn_sub {a b : Nat} (h : b ≤ a) (ha : a < 2147483648) : nn a - nn b = nn (a - b) := by
  rw [← Int32.toInt_inj, Int32.toInt_sub, nn_int ha, nn_int (by omega), nn_int (by omega), Int.bmod_eq_of_le (by omega) (by omega)]
  omega
/-- a place in a row -/
theorem in_row {x : Int32} {n : Nat} (h0 : 0 ≤ x.toInt) (h1 : x.toInt < n) : ¬ (x < 0 ∨ n ≤ x.toNatClampNeg) := by
  intro q
  rcases q with q | q
  · rw [Int32.lt_iff_toInt_lt] at q
    have : (0 : Int32).toInt = 0 := rfl
    omega
  · have : x.toNatClampNeg = x.toInt.toNat := rfl
    omega
theorem nn_in {k n : Nat} (hk : k < 2147483648) (h : k < n) : ¬ (nn k < 0 ∨ n ≤ (nn k).toNatClampNeg) := in_row (by rw [nn_int hk]; omega) (by rw [nn_int hk]; omega)
theorem nn_of {x : Int32} (h : 0 ≤ x.toInt) : ∃ k, k < 2147483648 ∧ x = nn k := ⟨x.toInt.toNat, by have := Int32.toInt_lt x; omega, by
  rw [← Int32.toInt_inj, nn_int (by have := Int32.toInt_lt x; omega)]; omega⟩
theorem not_lt0 {x : Int32} : ¬ x < 0 ↔ 0 ≤ x.toInt := by
  rw [Int32.lt_iff_toInt_lt]; show ¬ _ < (0 : Int) ↔ _; omega
theorem le0 {x : Int32} : 0 ≤ x ↔ 0 ≤ x.toInt := by
  rw [Int32.le_iff_toInt_le]; exact Iff.rfl
/-! changes of the memory -/
/-- what isn't named by P is as it was -/
def Ch (P : Nat → Nat → Prop) (D D' : Dat) : Prop := ∀ a k, ¬ P a k → dI D' a k = dI D a k ∧ dL D' a k = dL D a k ∧ dR D' a k = dR D a k
theorem Ch.rf {P : Nat → Nat → Prop} {D : Dat} : Ch P D D := fun _ _ _ => ⟨rfl, rfl, rfl⟩
theorem Ch.tr {P : Nat → Nat → Prop} {D D' D'' : Dat} (h : Ch P D D') (g : Ch P D' D'') : Ch P D D'' := fun a k hp => ⟨(g a k hp).1.trans (h a k hp).1, (g a k hp).2.1.trans (h a k hp).2.1, (g a k hp).2.2.trans (h a k hp).2.2⟩
theorem Ch.mono {P Q : Nat → Nat → Prop} {D D' : Dat} (h : Ch P D D') (g : ∀ a k, P a k → Q a k) : Ch Q D D' := fun a k hq => h a k (fun hp => hq (g a k hp))
theorem Ch.sI {P : Nat → Nat → Prop} {D D' : Dat} {a k : Nat} {v : Int32} (hp : P a k) (h : Ch P D D') : Ch P D (sI D' a k v) := fun b j hq => ⟨by rw [dI_s, if_neg (fun e => hq (by rw [e.1, e.2]; exact hp))]; exact (h b j hq).1, (h b j hq).2.1, (h b j hq).2.2⟩
theorem Ch.sL {P : Nat → Nat → Prop} {D D' : Dat} {a k : Nat} {v : Int64} (hp : P a k) (h : Ch P D D') : Ch P D (sL D' a k v) := fun b j hq => ⟨(h b j hq).1, by rw [dL_s, if_neg (fun e => hq (by rw [e.1, e.2]; exact hp))]; exact (h b j hq).2.1, (h b j hq).2.2⟩
theorem Ch.sR {P : Nat → Nat → Prop} {D D' : Dat} {a k : Nat} {v : Option Nat} (hp : P a k) (h : Ch P D D') : Ch P D (sR D' a k v) := fun b j hq => ⟨(h b j hq).1, (h b j hq).2.1, by rw [dR_s, if_neg (fun e => hq (by rw [e.1, e.2]; exact hp))]; exact (h b j hq).2.2⟩
theorem Ch.sC {P : Nat → Nat → Prop} {D D' : Dat} {a0 a sp dp n : Nat} (hp : ∀ k, P a k) (h : Ch P D D') : Ch P D (sC D' a0 a sp dp n) := fun b j hq => ⟨by rw [dI_C, if_neg (fun e => hq (by rw [e.1]; exact hp j))]; exact (h b j hq).1, (h b j hq).2.1, (h b j hq).2.2⟩
theorem Ch.i {P : Nat → Nat → Prop} {D D' : Dat} (h : Ch P D D') {a k : Nat} (hp : ¬ P a k) : dI D' a k = dI D a k := (h a k hp).1
theorem Ch.l {P : Nat → Nat → Prop} {D D' : Dat} (h : Ch P D D') {a k : Nat} (hp : ¬ P a k) : dL D' a k = dL D a k := (h a k hp).2.1
theorem Ch.r {P : Nat → Nat → Prop} {D D' : Dat} (h : Ch P D D') {a k : Nat} (hp : ¬ P a k) : dR D' a k = dR D a k := (h a k hp).2.2
/-! leaf functions in closed form -/
def bz (b : Prop) [Decidable b] : Int32 := if b then 1 else 0
theorem b0_1 : (0 : Int32) &&& 1 = 0 := by decide
theorem b1_1 : (1 : Int32) &&& 1 = 1 := by decide
theorem e_X2_has (x : Int32) (D : Dat) : f_X2_has x D = some (if x < 0 then 0 else if dI D 1 0 ≤ x then 0 else 1, D) := by
  unfold f_X2_has f_X2_has_b16 f_X2_has_b17
  split
  · simp
  · split <;> simp
theorem e_X3_isMark (x : Int32) (D : Dat) : f_X3_isMark x D = some (if x < 0 then 0 else if 6 ≤ x then 0 else 1, D) := by
  unfold f_X3_isMark f_X3_isMark_b14 f_X3_isMark_b15
  split
  · simp
  · split <;> simp
theorem e_X3_isCell (x : Int32) (D : Dat) : f_X3_isCell x D = some (if x < 0 then 0 else if 234 ≤ x then 0 else 1, D) := by
  unfold f_X3_isCell f_X3_isCell_b15 f_X3_isCell_b16
  split
  · simp
  · split <;> simp
theorem e_X12_out (x y : Int32) (D : Dat) : f_X12_out x y D = some (if x < 0 then 1 else if x < y then 0 else 1, D) := by
  unfold f_X12_out f_X12_out_b9 f_X12_out_b14
  split
  · simp
  · split <;> simp
theorem e_X12_fail (x : Int32) (D : Dat) : f_X12_fail x D = some (0, sI D 207 0 x) := by
  unfold f_X12_fail; rfl
theorem e_X12_thrown (D : Dat) : f_X12_thrown D = some (dI D 207 0, D) := by
  unfold f_X12_thrown; rfl
