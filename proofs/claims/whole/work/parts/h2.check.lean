/-! flows: the beginning -/
theorem fl_ini {nu P nb h cnt bz ez : Nat} {W K : Nat → Nat} {D0 C0 M0 : Dat} (hE : FE nu P nb h cnt bz ez W K D0 C0 M0) : ∃ V : Nat → Nat, ∀ x, x < 26 → (∀ C, Ch FC C0 C → f_X2_shade nu K (dI C0 (P + 2) x) C = some (nn (V x), C)) ∧ lb nu D0 (if dI M0 229 x = 2 then dI M0 230 x else dI M0 207 6) (V x) := by
  have hv : ∀ x, x < 26 → ∃ s : Nat, (∀ C, Ch FC C0 C → f_X2_shade nu K (dI C0 (P + 2) x) C = some (nn s, C)) ∧ lb nu D0 (if dI M0 229 x = 2 then dI M0 230 x else dI M0 207 6) s := by
    intro x hx
    have z0 : dI C0 (P + 2) x = -1 → ¬ dI M0 229 x = 2 → ∃ s : Nat, (∀ C, Ch FC C0 C → f_X2_shade nu K (dI C0 (P + 2) x) C = some (nn s, C)) ∧ lb nu D0 (if dI M0 229 x = 2 then dI M0 230 x else dI M0 207 6) s := fun q1 q2 => ⟨0, fun C hC => by rw [q1]; exact e_shade1 hE.1.1.2 (by rw [hC.i (by unfold FC; omega)]; exact hE.2.2.1), by rw [if_neg q2]; exact fl_bot hE Ch.rf⟩
    rcases hE.2.2.2.2.2.1 x hx with ⟨-, q, q3, -⟩ | ⟨-, q, q3, -⟩ | ⟨-, q, q3, -, l, q5, q6⟩ | ⟨-, q, q3, -⟩ | ⟨-, q, q3, -⟩ | ⟨-, q, q3, -⟩
    · exact z0 q3 (by rw [q]; decide)
    · exact z0 q3 (by rw [q]; decide)
    · refine ⟨sh nu D0 l, fun C hC => ?_, ?_⟩
      · obtain ⟨s, s1, d, d1, d2, d3⟩ := fl_shade hE hC q5
        have hn := hE.1.1.2
        have : l = d := (nn_eq (by omega) (by omega)).mp d2
        rw [q3, q6, s1, d3, this]
      · rw [if_pos q, q6]
        exact ⟨l, q5, rfl, rfl⟩
    · exact z0 q3 (by rw [q]; decide)
    · exact z0 q3 (by rw [q]; decide)
    · exact z0 q3 (by rw [q]; decide)
  exact ⟨fun x => if hx : x < 26 then Classical.choose (hv x hx) else 0, fun x hx => by simp only [dif_pos hx]; exact Classical.choose_spec (hv x hx)⟩
theorem cf_l {N nu P nb h cnt bz ez : Nat} {W K V : Nat → Nat} {D0 C0 M0 : Dat} (hE : FE nu P nb h cnt bz ez W K D0 C0 M0) (hv : ∀ x, x < 26 → (∀ C, Ch FC C0 C → f_X2_shade nu K (dI C0 (P + 2) x) C = some (nn (V x), C)) ∧ lb nu D0 (if dI M0 229 x = 2 then dI M0 230 x else dI M0 207 6) (V x)) : ∀ (j k g : Nat) (D : Dat), k + j = 26 → Ch FC C0 D → (∀ t, t < k → dI D 7 t = nn (V t)) → ∃ D', f_X1_check_b7 N nu K (g + j) (nn k) D = f_X1_check_b7 N nu K g 26 D' ∧ Ch FC C0 D' ∧ ∀ t, t < 26 → dI D' 7 t = nn (V t) := by
  intro j
  induction j with
  | zero =>
    intro k g D hk hD h7
    obtain rfl : k = 26 := by omega
    exact ⟨D, rfl, hD, h7⟩
  | succ j ih =>
    intro k g D hk hD h7
    have hP := hE.2.2.2.1
    obtain ⟨D', r1, r2, r3⟩ := ih (k + 1) g (sI D 7 k (nn (V k))) (by omega) (Ch.sI (by unfold FC; omega) hD) (fun t ht => by
      rw [dI_s]
      by_cases c : t = k
      · rw [if_pos (show 7 = 7 ∧ t = k from ⟨rfl, c⟩), c]
      · rw [if_neg (show ¬ (7 = 7 ∧ t = k) from fun q => c q.2)]
        exact h7 t (by omega))
    refine ⟨D', ?_, r2, r3⟩
    rw [show g + (j + 1) = g + j + 1 by omega, f_X1_check_b7, if_neg (show ¬ (26 : Int32) ≤ nn k from fun q => by have := (nn_le (a := 26) (by omega) (by omega)).mp q; omega), hD.r (by unfold FC; omega), hP.1, bS, if_pos hP.2, e4_var (show k < 26 by omega), bS, hD.i (by have := hP.2; unfold FC; omega), (hv k (by omega)).1 D hD, bS, if_neg (nn_in (by omega) (by omega)), nn_nat (by omega), nn_1]
    exact r1
theorem mf_l {N nu P nb h cnt bz ez : Nat} {W K V : Nat → Nat} {D0 C0 M0 : Dat} (hE : FE nu P nb h cnt bz ez W K D0 C0 M0) (hv : ∀ x, x < 26 → (∀ C, Ch FC C0 C → f_X2_shade nu K (dI C0 (P + 2) x) C = some (nn (V x), C)) ∧ lb nu D0 (if dI M0 229 x = 2 then dI M0 230 x else dI M0 207 6) (V x)) : ∀ (j k g : Nat) (D : Dat), k + j = 26 → Ch (fun a _ => a = 237) M0 D → (∀ t, t < k → lb nu D0 (dI D 237 t) (V t)) → ∃ D', f_X12_flow_b2 N (g + j) (nn k) D = f_X12_flow_b2 N g 26 D' ∧ Ch (fun a _ => a = 237) M0 D' ∧ ∀ t, t < 26 → lb nu D0 (dI D' 237 t) (V t) := by
  intro j
  induction j with
  | zero =>
    intro k g D hk hD h7
    obtain rfl : k = 26 := by omega
    exact ⟨D, rfl, hD, h7⟩
  | succ j ih =>
    intro k g D hk hD h7
    have in26 := nn_in (k := k) (n := 26) (by omega) (by omega)
    obtain ⟨D', r1, r2, r3⟩ := ih (k + 1) g (sI D 237 k (if dI M0 229 k = 2 then dI M0 230 k else dI M0 207 6)) (by omega) (Ch.sI rfl hD) (fun t ht => by
      rw [dI_s]
      by_cases c : t = k
      · rw [if_pos (show 237 = 237 ∧ t = k from ⟨rfl, c⟩), c]
        exact (hv k (by omega)).2
      · rw [if_neg (show ¬ (237 = 237 ∧ t = k) from fun q => c q.2)]
        exact h7 t (by omega))
    refine ⟨D', ?_, r2, r3⟩
    rw [show g + (j + 1) = g + j + 1 by omega, f_X12_flow_b2, if_neg (show ¬ (26 : Int32) ≤ nn k from fun q => by have := (nn_le (a := 26) (by omega) (by omega)).mp q; omega)]
    unfold f_X12_flow_b36
    simp only [if_neg in26]
    rw [nn_nat (by omega), hD.i (show ¬ 229 = 237 by omega), hD.i (show ¬ 230 = 237 by omega), hD.i (show ¬ 207 = 237 by omega), nn_1]
    by_cases c : dI M0 229 k = 2
    · rw [if_pos c]
      rw [if_pos c] at r1
      exact r1
    · rw [if_neg c]
      rw [if_neg c] at r1
      exact r1
