/-! heights: one look of the class -/
def isn (o : Nat → Nat) (x : Nat → Int32) (i j : Nat) : Bool := decide (o i ≠ 12 ∧ o i ≠ 15 ∧ j = i + 1) || decide ((o i = 11 ∨ o i = 12) ∧ j = tg (x i))
theorem isn_iff {o : Nat → Nat} {x : Nat → Int32} {i j : Nat} : isn o x i j = true ↔ nx o x i j := by
  unfold isn nx
  rw [Bool.or_eq_true, decide_eq_true_iff, decide_eq_true_iff]
def nh (o : Nat → Nat) (hv : Nat → Option Nat) (i : Nat) : Nat := (hv i).getD 0 - tk (o i) + pu (o i)
def lookF (o : Nat → Nat) (x : Nat → Int32) (hv : Nat → Option Nat) (i : Nat) : Nat :=
  if (hv i).getD 0 < tk (o i) then 3 else if 30 < nh o hv i then 3 else if (o i = 11 ∨ o i = 12) ∧ nh o hv i ≠ 0 then 4 else if ((o i ≠ 12 ∧ o i ≠ 15) ∧ cf hv (nh o hv i) (i + 1) = true) ∨ ((o i = 11 ∨ o i = 12) ∧ cf hv (nh o hv i) (tg (x i)) = true) then 5 else 0
def lookH (o : Nat → Nat) (x : Nat → Int32) (hv : Nat → Option Nat) (i : Nat) : Nat → Option Nat := fun j => if isn o x i j then some (nh o hv i) else hv j
theorem nn_sub_neg {a b : Nat} (h : a < b) (hb : b < 2147483648) : nn a - nn b < 0 := by
  rw [Int32.lt_iff_toInt_lt, Int32.toInt_sub, nn_int (by omega), nn_int hb, Int.bmod_eq_of_le (by omega) (by omega)]
  show _ < (0 : Int)
  omega
theorem tk_le (o : Nat) : tk o ≤ 2 := by unfold tk; split; omega; split <;> omega
theorem pu_le (o : Nat) : pu o ≤ 1 := by unfold pu; split <;> omega
theorem tk_l : ∀ o, o < 16 → takenl.getD o 0 = nn (tk o) := by decide +kernel
theorem pu_l : ∀ o, o < 16 → putl.getD o 0 = nn (pu o) := by decide +kernel
theorem e_taken {nu c sz : Nat} {o : Nat → Nat} {x : Nat → Int32} {D : Dat} (h : GC nu sz o x) (hK : Kc c sz o x D) {i : Nat} (hi : i < sz) : f_X0_taken c (nn i) D = some (nn (tk (o i)), D) := by
  obtain ⟨k1, k2, k3, k4, k5, k6⟩ := hK
  have ho := h.2.1 i
  have i1 := nn_in (k := o i) (n := 16) (by omega) (by omega)
  have q1 : ¬ 16 ≤ nn (o i) := by rw [nn_l, nn_le (by omega) (by omega)]; omega
  unfold f_X0_taken f_X0_taken_b26 f_X0_taken_b27
  simp only [code_op k2 k5 hi, (k6 i hi).1, bS, nn_nlt0 (show o i < 2147483648 by omega), q1, i1, reduceIte]
  rw [nn_nat (by omega), tk_l (o i) (by omega), if_neg (show ¬ (False ∨ 16 ≤ o i) from fun w => w.elim id (fun v => by omega))]
theorem e_put {nu c sz : Nat} {o : Nat → Nat} {x : Nat → Int32} {D : Dat} (h : GC nu sz o x) (hK : Kc c sz o x D) {i : Nat} (hi : i < sz) : f_X0_put c (nn i) D = some (nn (pu (o i)), D) := by
  obtain ⟨k1, k2, k3, k4, k5, k6⟩ := hK
  have ho := h.2.1 i
  have i1 := nn_in (k := o i) (n := 16) (by omega) (by omega)
  have q1 : ¬ 16 ≤ nn (o i) := by rw [nn_l, nn_le (by omega) (by omega)]; omega
  unfold f_X0_put f_X0_put_b26 f_X0_put_b27
  simp only [code_op k2 k5 hi, (k6 i hi).1, bS, nn_nlt0 (show o i < 2147483648 by omega), q1, i1, reduceIte]
  rw [nn_nat (by omega), pu_l (o i) (by omega), if_neg (show ¬ (False ∨ 16 ≤ o i) from fun w => w.elim id (fun v => by omega))]
theorem e_jumps {nu c sz : Nat} {o : Nat → Nat} {x : Nat → Int32} {D : Dat} (h : GC nu sz o x) (hK : Kc c sz o x D) {i : Nat} (hi : i < sz) : f_X0_jumps c (nn i) D = some (if o i = 11 ∨ o i = 12 then 1 else 0, D) := by
  obtain ⟨k1, k2, k3, k4, k5, k6⟩ := hK
  have ho := h.2.1 i
  unfold f_X0_jumps f_X0_jumps_b20 f_X0_jumps_b25
  simp only [code_op k2 k5 hi, (k6 i hi).1, bS]
  by_cases c11 : o i = 11
  · rw [c11, if_pos (show nn 11 = (11 : Int32) from rfl), if_pos b1_1]
    simp
  · rw [if_neg (show ¬ nn (o i) = (11 : Int32) from ne_op (b := 11) (by omega) (by omega) c11)]
    by_cases c12 : o i = 12
    · rw [c12, if_pos (show nn 12 = (12 : Int32) from rfl), if_pos b1_1]
      simp
    · rw [if_neg (show ¬ nn (o i) = (12 : Int32) from ne_op (b := 12) (by omega) (by omega) c12), if_pos b0_1, if_neg (by omega)]
def PhC (a j : Nat) : Prop := a = 113 ∨ (a = 107 ∧ (j = 5 ∨ j = 11 ∨ j = 12))
theorem cf_nS {nu sz : Nat} {o : Nat → Nat} {x : Nat → Int32} (h : GC nu sz o x) {i n : Nat} (hi : i < sz) (hv : Nat → Option Nat) : (∃ q, q < 64 ∧ mm (nSs o x i) q = true ∧ cf hv n q = true) ↔ (((o i ≠ 12 ∧ o i ≠ 15) ∧ cf hv n (i + 1) = true) ∨ ((o i = 11 ∨ o i = 12) ∧ cf hv n (tg (x i)) = true)) := by
  have hz := h.1.2
  constructor
  · intro ⟨q, q1, q2, q3⟩
    rcases (mm_nS h hi q1).mp q2 with ⟨z1, z2, z3⟩ | ⟨z1, z2⟩
    · exact Or.inl ⟨⟨z1, z2⟩, by rw [← z3]; exact q3⟩
    · exact Or.inr ⟨z1, by rw [← z2]; exact q3⟩
  · intro w
    rcases w with ⟨z1, z2⟩ | ⟨z1, z2⟩
    · have := h.nxt hi z1
      exact ⟨i + 1, by omega, (mm_nS h hi (by omega)).mpr (Or.inl ⟨z1.1, z1.2, rfl⟩), z2⟩
    · have := h.tgt hi z1
      exact ⟨tg (x i), by omega, (mm_nS h hi (by omega)).mpr (Or.inr ⟨z1, rfl⟩), z2⟩
theorem lookH_eq {nu sz : Nat} {o : Nat → Nat} {x : Nat → Int32} (h : GC nu sz o x) {i : Nat} (hi : i < sz) (hv : Nat → Option Nat) : (fun j => if mm (nSs o x i) j = true then some (nh o hv i) else hv j) = lookH o x hv i := by
  have hz := h.1.2
  funext j
  unfold lookH
  by_cases hj : j < 64
  · by_cases c : mm (nSs o x i) j = true
    · rw [if_pos c, if_pos (isn_iff.mpr ((mm_nS h hi hj).mp c))]
    · rw [if_neg c, if_neg (fun w => c ((mm_nS h hi hj).mpr (isn_iff.mp w)))]
  · rw [mm_ge _ (by omega), if_neg (by decide), if_neg (fun w => by have := h.nxs hi (isn_iff.mp w); omega)]
theorem hF {N nu c sz : Nat} {o : Nat → Nat} {x : Nat → Int32} {hv : Nat → Option Nat} {D : Dat} (hN : 1000 ≤ N) (h : GC nu sz o x) (hK : Kc c sz o x D) {i k : Nat} (hi : i < sz) (hk : hv i = some k) (hH : Hc hv D) (hB : Bd hv) :
    (lookF o x hv i = 0 ∧ ∃ D', f_X9_heightFits N (nn i) D = some (1, D') ∧ Hc (lookH o x hv i) D' ∧ Ch PhC D D')
    ∨ (¬ lookF o x hv i = 0 ∧ ∃ D', f_X9_heightFits N (nn i) D = some (0, D') ∧ dI D' 107 11 = nn i ∧ dI D' 107 12 = nn (lookF o x hv i) ∧ Ch PhC D D') := by
  have hz := h.1.2
  have hb := hB i k hk
  have i1 := nn_in (k := i) (n := 64) (by omega) (by omega)
  have e113 : dI D 113 (nn i).toNatClampNeg = nn k := by rw [nn_nat (by omega), (hH i (by omega)).1, hk]; rfl
  have eg : (hv i).getD 0 = k := by rw [hk]; rfl
  obtain ⟨k1, k2, k3, k4, k5, k6⟩ := id hK
  have ht := tk_le (o i)
  have hp := pu_le (o i)
  have rf : ∀ w : Nat, Ch PhC D (sI (sI D 107 11 (nn i)) 107 12 (nn w)) := fun w => Ch.sI (by unfold PhC; omega) (Ch.sI (by unfold PhC; omega) Ch.rf)
  have rf1 : ∀ w : Nat, dI (sI (sI D 107 11 (nn i)) 107 12 (nn w)) 107 11 = nn i := fun w => by rw [dI_s, if_neg (by omega), dI_s, if_pos ⟨rfl, rfl⟩]
  have rf2 : ∀ w : Nat, dI (sI (sI D 107 11 (nn i)) 107 12 (nn w)) 107 12 = nn w := fun w => by rw [dI_s, if_pos ⟨rfl, rfl⟩]
  have e66 : ∀ n : Nat, f_X9_heightFits_b66 N (nn i) (nn n) D = f_X9_heightFits_b79 N N (nn i) (nn n) (nSs o x i) 0 D := fun n => by
    unfold f_X9_heightFits_b66
    rw [k3, bS, if_pos k1, e_nexts h hK hi, bS]
  have base : f_X9_heightFits N (nn i) D = if nn k - nn (tk (o i)) < 0 then some (0, sI (sI D 107 11 (nn i)) 107 12 (nn 3)) else if nn k - nn (tk (o i)) + nn (pu (o i)) ≤ 30 then (if o i = 11 ∨ o i = 12 then (if nn k - nn (tk (o i)) + nn (pu (o i)) = 0 then f_X9_heightFits_b66 N (nn i) (nn k - nn (tk (o i)) + nn (pu (o i))) D else some (0, sI (sI D 107 11 (nn i)) 107 12 (nn 4))) else f_X9_heightFits_b66 N (nn i) (nn k - nn (tk (o i)) + nn (pu (o i))) D) else some (0, sI (sI D 107 11 (nn i)) 107 12 (nn 3)) := by
    unfold f_X9_heightFits f_X9_heightFits_b37
    rw [if_neg i1]
    simp only [k3, bS, k1, reduceIte, e_taken h hK hi, e_put h hK hi, e_jumps h hK hi, e113, f_X9_refuse, b0_1, if10]
    rfl
  rw [base]
  by_cases c1 : k < tk (o i)
  · have eF : lookF o x hv i = 3 := by unfold lookF; rw [eg, if_pos c1]
    rw [eF, if_pos (nn_sub_neg c1 (by omega))]
    exact Or.inr ⟨by omega, _, rfl, rf1 3, rf2 3, rf 3⟩
  · have e1 : nn k - nn (tk (o i)) = nn (k - tk (o i)) := nn_sub (by omega) (by omega)
    have en : nh o hv i = k - tk (o i) + pu (o i) := by unfold nh; rw [eg]
    rw [e1, if_neg (nn_nlt0 (by omega)), nn_add, ← en]
    by_cases c2 : 30 < nh o hv i
    · have eF : lookF o x hv i = 3 := by unfold lookF; rw [eg, if_neg c1, if_pos c2]
      rw [eF, if_neg (by rw [nn_l, nn_le (by omega) (by omega)]; omega)]
      exact Or.inr ⟨by omega, _, rfl, rf1 3, rf2 3, rf 3⟩
    · rw [if_pos (by rw [nn_l, nn_le (by omega) (by omega)]; omega)]
      have go : ¬ ((o i = 11 ∨ o i = 12) ∧ nh o hv i ≠ 0) → (lookF o x hv i = 0 ∧ ∃ D', f_X9_heightFits_b66 N (nn i) (nn (nh o hv i)) D = some (1, D') ∧ Hc (lookH o x hv i) D' ∧ Ch PhC D D') ∨ (¬ lookF o x hv i = 0 ∧ ∃ D', f_X9_heightFits_b66 N (nn i) (nn (nh o hv i)) D = some (0, D') ∧ dI D' 107 11 = nn i ∧ dI D' 107 12 = nn (lookF o x hv i) ∧ Ch PhC D D') := by
        intro c3
        rw [e66]
        have key := cf_nS h (n := nh o hv i) hi hv
        rcases hf_l (N := N) (i := i) (h := nh o hv i) (by omega) (by omega) 2 0 N (nSs o x i) hv D (by omega) (by omega) (cn_nS h hi) hH hB with ⟨a1, D', a2, a3, a4⟩ | ⟨a1, D', a2, a3, a4, a5⟩
        · have eF : lookF o x hv i = 0 := by
            unfold lookF
            rw [eg, if_neg c1, if_neg c2, if_neg c3, if_neg]
            intro w
            obtain ⟨q, q1, q2, q3⟩ := key.mpr w
            rw [a1 q q1 q2] at q3
            exact absurd q3 (by decide)
          rw [lookH_eq h hi hv] at a3
          exact Or.inl ⟨eF, D', a2, a3, a4.mono (fun a j w => by unfold PhC; omega)⟩
        · have eF : lookF o x hv i = 5 := by
            unfold lookF
            rw [eg, if_neg c1, if_neg c2, if_neg c3, if_pos (key.mp a1)]
          rw [eF]
          exact Or.inr ⟨by omega, D', a2, a3, a4, a5.mono (fun a j w => by unfold PhC; omega)⟩
      by_cases c3 : o i = 11 ∨ o i = 12
      · rw [if_pos c3]
        by_cases c4 : nh o hv i = 0
        · rw [if_pos (show nn (nh o hv i) = 0 by rw [c4]; rfl)]
          exact go (fun w => w.2 c4)
        · have eF : lookF o x hv i = 4 := by unfold lookF; rw [eg, if_neg c1, if_neg c2, if_pos ⟨c3, c4⟩]
          rw [eF, if_neg (show ¬ nn (nh o hv i) = (0 : Int32) from ne_op (b := 0) (by omega) (by omega) c4)]
          exact Or.inr ⟨by omega, _, rfl, rf1 4, rf2 4, rf 4⟩
      · rw [if_neg c3]
        exact go (fun w => c3 w.1)
