/-! flows of a text: labels and shades over two memories -/
def FC (a k : Nat) : Prop := (a = 6 ∧ k = 5) ∨ (7 ≤ a ∧ a ≤ 105)
def FM (a k : Nat) : Prop := (a = 207 ∧ (k = 40 ∨ (54 ≤ k ∧ k ≤ 56))) ∨ (237 ≤ a ∧ a ≤ 241)
/-- what stands still while the flows of a program are looked over -/
def FE (nu P nb h cnt bz ez : Nat) (W K : Nat → Nat) (D0 C0 M0 : Dat) : Prop := LatS nu D0 ∧ ((∀ a k, RIL a k → dI C0 a k = dI D0 a k) ∧ ∀ a k, RIL a k → dI M0 a k = dI D0 a k) ∧ dI C0 1 0 = nn nu ∧ (dR C0 6 1 = some P ∧ (P = 191 ∨ P = 196)) ∧ PG nu P nb h cnt bz ez W C0 M0 ∧ Ro nu P C0 M0 ∧ (∀ i, i < cnt → kd K (nb + i) = 7) ∧ (h ≤ 1 ∧ dI M0 207 35 = nn h) ∧ NS ≤ nb
/-- the two memories between the steps: V the shades of the variables -/
def FV (nu : Nat) (D0 C0 M0 C M : Dat) (V : Nat → Nat) : Prop := Ch FC C0 C ∧ Ch FM M0 M ∧ ∀ x, x < 26 → dI C 7 x = nn (V x) ∧ lb nu D0 (dI M 237 x) (V x)
theorem lb_lt {nu : Nat} {D0 : Dat} (hS : LatS nu D0) {z : Int32} {s : Nat} (h : lb nu D0 z s) : s < 64 := by
  obtain ⟨d, d1, -, d3⟩ := h
  exact (vs_pc hS ⟨d, d1, d3⟩).1
theorem lb_vs {nu : Nat} {D0 : Dat} {z : Int32} {s : Nat} (h : lb nu D0 z s) : vs nu D0 s := by
  obtain ⟨d, d1, -, d3⟩ := h
  exact ⟨d, d1, d3⟩
theorem fl_mL {nu P nb h cnt bz ez : Nat} {W K : Nat → Nat} {D0 C0 M0 M : Dat} (hE : FE nu P nb h cnt bz ez W K D0 C0 M0) (hM : Ch FM M0 M) : ∀ a k, RIL a k → dI M a k = dI D0 a k := fun a k r => by
  rw [hM.i (by unfold FM; unfold RIL at r; omega)]
  exact hE.2.1.2 a k r
theorem fl_cL {nu P nb h cnt bz ez : Nat} {W K : Nat → Nat} {D0 C0 M0 C : Dat} (hE : FE nu P nb h cnt bz ez W K D0 C0 M0) (hC : Ch FC C0 C) : ∀ a k, RIL a k → dI C a k = dI D0 a k := fun a k r => by
  rw [hC.i (by unfold FC; unfold RIL at r; omega)]
  exact hE.2.1.1 a k r
theorem fl_join {nu P nb h cnt bz ez : Nat} {W K : Nat → Nat} {D0 C0 M0 M : Dat} (hE : FE nu P nb h cnt bz ez W K D0 C0 M0) (hM : Ch FM M0 M) {v w : Int32} {a b : Nat} (hv : lb nu D0 v a) (hw : lb nu D0 w b) : ∃ z, f_X12_join v w M = some (z, M) ∧ lb nu D0 z (a ||| b) := by
  obtain ⟨d, d1, d2, d3⟩ := hv
  obtain ⟨e, e1, e2, e3⟩ := hw
  have hS := hE.1
  have hR := fl_mL hE hM
  have es : sh nu M = sh nu D0 := sh_same (fun a => hR 2 a (by unfold RIL; omega))
  obtain ⟨j, j1, j2, j3⟩ := sh_join hS.1.2 (hS.2.1.eqs hR) ((hR 207 5 (by unfold RIL; omega)).trans hS.2.2) d1 e1
  rw [es] at j3
  exact ⟨nn j, by rw [d2, e2]; exact j2, j, j1, rfl, by rw [d3, e3, j3]⟩
theorem fl_bot {nu P nb h cnt bz ez : Nat} {W K : Nat → Nat} {D0 C0 M0 M : Dat} (hE : FE nu P nb h cnt bz ez W K D0 C0 M0) (hM : Ch FM M0 M) : lb nu D0 (dI M 207 6) 0 := by
  have hS := hE.1
  obtain ⟨B, b1, b2, -, b4, -⟩ := sh_bot hS.1.2 hS.2.1 hS.2.2
  exact ⟨B, b1, (fl_mL hE hM 207 6 (by unfold RIL; omega)).trans b2, b4.symm⟩
theorem fl_shade {nu P nb h cnt bz ez : Nat} {W K : Nat → Nat} {D0 C0 M0 C : Dat} (hE : FE nu P nb h cnt bz ez W K D0 C0 M0) (hC : Ch FC C0 C) {l : Nat} (hl : l < nu) : ∃ s, f_X2_shade nu K (nn l) C = some (nn s, C) ∧ lb nu D0 (nn l) s := by
  have hS := hE.1
  have hR := fl_cL hE hC
  have es : sh nu C = sh nu D0 := sh_same (fun a => hR 2 a (by unfold RIL; omega))
  refine ⟨sh nu D0 l, ?_, l, hl, rfl, rfl⟩
  rw [← es]
  exact e_shade hS.1.2 (by rw [hC.i (by unfold FC; omega)]; exact hE.2.2.1) (hS.2.1.eqs hR).2.1 hl
/-- a shade against a label: both find the same -/
theorem fl_fits {nu P nb h cnt bz ez : Nat} {W K : Nat → Nat} {D0 C0 M0 C M : Dat} (hE : FE nu P nb h cnt bz ez W K D0 C0 M0) (hC : Ch FC C0 C) (hM : Ch FM M0 M) {z : Int32} {s l : Nat} (hz : lb nu D0 z s) (hl : l < nu) : ∃ b : Bool, f_X2_fits (nn s) (nn l) C = some (wi b, C) ∧ ∃ k, k < 36 ∧ (6 : Int32) * z + nn l = nn k ∧ (dI M 208 k = 0 ↔ b = false) := by
  have hS := hE.1
  have hR := fl_cL hE hC
  have es : sh nu C = sh nu D0 := sh_same (fun a => hR 2 a (by unfold RIL; omega))
  obtain ⟨d, d1, d2, d3⟩ := hz
  have hL := hS.2.1.eqs hR
  obtain ⟨b, b1, b2⟩ := e_fits hS.1.2 (by rw [hC.i (by unfold FC; omega)]; exact hE.2.2.1) hL d1 hl
  rw [es] at b1
  refine ⟨b, by rw [d3]; exact b1, 6 * d + l, by have := hS.1.2; omega, by rw [d2, six], ?_⟩
  unfold U at b2
  rw [hR 208 _ (by unfold RIL; omega)] at b2
  rw [fl_mL hE hM 208 _ (by unfold RIL; omega)]
  have hb : b01 (dI D0 208 (6 * d + l)) := hS.2.1.1 _ (by have := hS.1.2; omega)
  unfold b01 at hb
  cases b with
  | true =>
    have := b2.mp rfl
    rw [this]
    exact ⟨fun q => absurd q (by decide), fun q => absurd q (by decide)⟩
  | false =>
    rcases hb with q | q
    · exact ⟨fun _ => rfl, fun _ => q⟩
    · exact absurd (b2.mpr q) (by decide)
theorem e4_op {t i bz : Nat} {C : Dat} (h5 : dI C t 5 = nn bz) (hi : i < bz) (hb : bz ≤ 240) : f_X4_operation t (nn i) C = some (dI C (t + 3) i, C) := by
  unfold f_X4_operation f_X4_operation_b22
  rw [if_neg (nn_nlt0 (by omega)), h5, if_neg (show ¬ nn bz ≤ nn i from fun q => by have := (nn_le (by omega) (by omega)).mp q; omega), if_neg (nn_in (by omega) (by omega)), nn_nat (by omega)]
theorem e4_arg {t i bz : Nat} {C : Dat} (h5 : dI C t 5 = nn bz) (hi : i < bz) (hb : bz ≤ 240) : f_X4_argument t (nn i) C = some (dI C (t + 4) i, C) := by
  unfold f_X4_argument f_X4_argument_b22
  rw [if_neg (nn_nlt0 (by omega)), h5, if_neg (show ¬ nn bz ≤ nn i from fun q => by have := (nn_le (by omega) (by omega)).mp q; omega), if_neg (nn_in (by omega) (by omega)), nn_nat (by omega)]
theorem e4_var {t x : Nat} {C : Dat} (hx : x < 26) : f_X4_variableMark t (nn x) C = some (dI C (t + 2) x, C) := by
  unfold f_X4_variableMark f_X4_variableMark_b20
  rw [if_neg (nn_nlt0 (by omega)), if_neg (show ¬ (26 : Int32) ≤ nn x from fun q => by have := (nn_le (a := 26) (by omega) (by omega)).mp q; omega), if_neg (nn_in (by omega) (by omega)), nn_nat (by omega)]
theorem e4_row {t x : Nat} {C : Dat} (hx : x < 26) : f_X4_rowMark t (nn x) C = some (dI C (t + 2) (26 + x), C) := by
  unfold f_X4_rowMark f_X4_rowMark_b23
  rw [if_neg (nn_nlt0 (by omega)), if_neg (show ¬ (26 : Int32) ≤ nn x from fun q => by have := (nn_le (a := 26) (by omega) (by omega)).mp q; omega), show (26 : Int32) + nn x = nn (26 + x) from nn_add 26 x, if_neg (nn_in (by omega) (by omega)), nn_nat (by omega)]
theorem e4_proc {t x : Nat} {C : Dat} (hx : x < 26) : f_X4_proc t (nn x) C = some (dR C (t + 1) x, C) := by
  unfold f_X4_proc f_X4_proc_b20
  rw [if_neg (nn_nlt0 (by omega)), if_neg (show ¬ (26 : Int32) ≤ nn x from fun q => by have := (nn_le (a := 26) (by omega) (by omega)).mp q; omega), if_neg (nn_in (by omega) (by omega)), nn_nat (by omega)]
