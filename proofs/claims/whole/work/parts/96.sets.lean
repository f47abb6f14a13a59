/-! sets of instructions: the bits of a long -/
def mm (x : Int64) (i : Nat) : Bool := x.toBitVec.getLsbD i
theorem mm_or (x y : Int64) (i : Nat) : mm (x ||| y) i = (mm x i || mm y i) := by
  unfold mm; rw [Int64.toBitVec_or, BitVec.getLsbD_or]
theorem mm_and (x y : Int64) (i : Nat) : mm (x &&& y) i = (mm x i && mm y i) := by
  unfold mm; rw [Int64.toBitVec_and, BitVec.getLsbD_and]
theorem mm_m1 {i : Nat} (h : i < 64) : mm (-1) i = true := by
  unfold mm
  rw [show (-1 : Int64).toBitVec = BitVec.allOnes 64 by decide, BitVec.getLsbD_allOnes]
  exact decide_eq_true h
theorem mm_not (x : Int64) {i : Nat} (h : i < 64) : mm (x ^^^ (-1 : Int64)) i = !mm x i := by
  have e : mm (x ^^^ (-1 : Int64)) i = (mm x i ^^ mm (-1) i) := by
    unfold mm; rw [Int64.toBitVec_xor, BitVec.getLsbD_xor]
  rw [e, mm_m1 h]
  cases mm x i <;> rfl
theorem mm_0 (i : Nat) : mm 0 i = false := by
  unfold mm
  rw [show (0 : Int64).toBitVec = 0#64 from rfl, BitVec.getLsbD_zero]
theorem mm_ge (x : Int64) {i : Nat} (h : 64 ≤ i) : mm x i = false := BitVec.getLsbD_of_ge _ _ h
theorem mm_ext {x y : Int64} (h : ∀ i, i < 64 → mm x i = mm y i) : x = y := Int64.toBitVec_inj.mp (BitVec.eq_of_getLsbD_eq (fun i hi => h i hi))
theorem mm_zero (x : Int64) : x = 0 ↔ ∀ i, i < 64 → mm x i = false := ⟨fun h i _ => by rw [h]; exact mm_0 i, fun h => mm_ext (fun i hi => by rw [h i hi, mm_0])⟩
def bit1 (k : Nat) : Int64 := (1 : Int64) <<< ((nn k).toInt64 &&& 63)
theorem e_bit (k : Nat) (D : Dat) : f_X11_bit (nn k) D = some (bit1 k, D) := rfl
theorem mm_bit : ∀ k, k < 64 → ∀ i, i < 64 → mm (bit1 k) i = decide (k = i) := by decide +kernel
theorem sh64 : ∀ i, i < 64 → (((nn i).toInt64 &&& 63).toBitVec.smod 64).toNat = i := by decide +kernel
theorem mm_sh (x : Int64) {i : Nat} (h : i < 64) : ((x >>> ((nn i).toInt64 &&& 63)) &&& (1 : Int64) = 1) ↔ mm x i = true := by
  have e0 : mm (x >>> ((nn i).toInt64 &&& 63)) 0 = mm x i := by
    unfold mm
    show (BitVec.sshiftRight' x.toBitVec (((nn i).toInt64 &&& 63).toBitVec.smod 64)).getLsbD 0 = _
    show (BitVec.sshiftRight x.toBitVec (((nn i).toInt64 &&& 63).toBitVec.smod 64).toNat).getLsbD 0 = _
    rw [sh64 i h, BitVec.getLsbD_sshiftRight, if_pos (by omega)]
    rfl
  have o1 : ∀ j, j < 64 → mm (1 : Int64) j = decide (j = 0) := by decide +kernel
  constructor
  · intro q
    have := congrArg (fun y => mm y 0) q
    simp only [mm_and, e0, o1 0 (by omega)] at this
    simpa using this
  · intro q
    refine mm_ext (fun j hj => ?_)
    rw [mm_and, o1 j hj]
    by_cases c : j = 0
    · subst c
      rw [e0, q]; rfl
    · rw [decide_eq_false c, Bool.and_false]
theorem e_holds (x : Int64) {i : Nat} (h : i < 64) (D : Dat) : f_X11_holds x (nn i) D = some (if mm x i then 1 else 0, D) := by
  unfold f_X11_holds f_X11_holds_b24 f_X11_holds_b25
  rw [if_neg (nn_nlt0 (by omega)), if_neg (by rw [nn_l, nn_le (by omega) (by omega)]; omega)]
  by_cases q : mm x i = true
  · rw [if_pos ((lg_cmp_eq _ _).mpr ((mm_sh x h).mpr q)), if_pos q, if_pos b1_1]
  · rw [if_neg (fun z => q ((mm_sh x h).mp ((lg_cmp_eq _ _).mp z))), if_neg q, if_pos b0_1]
/-- k is the least of x -/
def lst (x : Int64) (k : Nat) : Prop := k < 64 ∧ mm x k = true ∧ ∀ j, j < k → mm x j = false
theorem has_lst {x : Int64} (h : ¬ x = 0) : ∃ k, lst x k := by
  have key : ∀ n, (∀ j, j < n → mm x j = false) ∨ ∃ k, k < n ∧ mm x k = true ∧ ∀ j, j < k → mm x j = false := by
    intro n
    induction n with
    | zero => exact Or.inl (fun j hj => absurd hj (by omega))
    | succ n ih =>
      rcases ih with q | ⟨k, q1, q2, q3⟩
      · by_cases c : mm x n = true
        · exact Or.inr ⟨n, by omega, c, q⟩
        · refine Or.inl (fun j hj => ?_)
          by_cases z : j = n
          · rw [z]; exact Bool.eq_false_iff.mpr c
          · exact q j (by omega)
      · exact Or.inr ⟨k, by omega, q2, q3⟩
  rcases key 64 with q | ⟨k, q1, q2, q3⟩
  · exact absurd ((mm_zero x).mpr q) h
  · exact ⟨k, q1, q2, q3⟩
theorem mm_neg (x : Int64) {i : Nat} (h : i < 64) : mm (-x) i = (mm x i ^^ decide (∃ j, j < i ∧ mm x j = true)) := by
  unfold mm
  rw [Int64.toBitVec_neg, BitVec.getLsbD_neg, decide_eq_true h, Bool.true_and]
theorem lst_and {x : Int64} {k : Nat} (h : lst x k) : x &&& (-x) = bit1 k := by
  obtain ⟨h1, h2, h3⟩ := h
  refine mm_ext (fun i hi => ?_)
  rw [mm_and, mm_neg x hi, mm_bit k h1 i hi]
  rcases Nat.lt_trichotomy i k with q | q | q
  · rw [h3 i q, decide_eq_false (show ¬ k = i by omega)]; rfl
  · subst q
    rw [h2, decide_eq_true rfl, decide_eq_false (show ¬ ∃ j, j < i ∧ mm x j = true from fun ⟨j, j1, j2⟩ => by rw [h3 j j1] at j2; exact absurd j2 (by decide))]
    rfl
  · rw [decide_eq_true (show ∃ j, j < i ∧ mm x j = true from ⟨k, q, h2⟩), decide_eq_false (show ¬ k = i by omega)]
    cases mm x i <;> rfl
def bcl (x : Int64) : Int32 := ((f_J13_bitCount_95d88 x Dz).getD (0, Dz)).1
theorem e_bcl (x : Int64) (D : Dat) : f_J13_bitCount_95d88 x D = some (bcl x, D) := rfl
theorem bcl_b : ∀ k, k < 64 → bcl (bit1 k - 1) = nn k := by decide +kernel
theorem e_least {x : Int64} {k : Nat} (h : lst x k) (D : Dat) : f_X11_least x D = some (nn k, D) := by
  unfold f_X11_least
  rw [lst_and h, e_bcl, bS, bcl_b k h.1]
/-- what is left without the least -/
theorem mm_rest {x : Int64} {k i : Nat} (h : lst x k) (hi : i < 64) : mm (x &&& (x - 1)) i = (mm x i && decide (i ≠ k)) := by
  have e : mm (x - 1) i = !mm (-x) i := by
    unfold mm
    rw [show (x - 1).toBitVec = ~~~(-x.toBitVec) from (BitVec.not_neg x.toBitVec).symm, BitVec.getLsbD_not, decide_eq_true hi, Bool.true_and, Int64.toBitVec_neg]
  obtain ⟨h1, h2, h3⟩ := h
  rw [mm_and, e, mm_neg x hi]
  rcases Nat.lt_trichotomy i k with q | q | q
  · rw [h3 i q]; rfl
  · subst q
    rw [h2, decide_eq_false (show ¬ ∃ j, j < i ∧ mm x j = true from fun ⟨j, j1, j2⟩ => by rw [h3 j j1] at j2; exact absurd j2 (by decide)), decide_eq_false (show ¬ i ≠ i from fun z => z rfl)]
    rfl
  · rw [decide_eq_true (show ∃ j, j < i ∧ mm x j = true from ⟨k, q, h2⟩), decide_eq_true (show i ≠ k by omega)]
    cases mm x i <;> rfl
theorem cmp0 (x : Int64) : (lg_cmp x (0 : Int64) = 0) ↔ x = 0 := lg_cmp_eq x 0
