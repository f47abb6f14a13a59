/-! flows: class and model find the same -/
theorem fl_check {N nu P nb h cnt bz ez : Nat} {W K : Nat → Nat} {D0 C0 M0 : Dat} (hN : 1000 ≤ N) (hNb : bW 47 + 2 ≤ N) (hE : FE nu P nb h cnt bz ez W K D0 C0 M0) (h40 : dI M0 207 40 = -1) : (∃ C' M', f_X1_check_b7 N nu K N 0 C0 = some (.inr (), C') ∧ f_X12_flow N M0 = some M' ∧ dI M' 207 40 = -1 ∧ Ch FC C0 C' ∧ Ch FM M0 M') ∨ (∃ C' M' q, q ≤ 240 ∧ f_X1_check_b7 N nu K N 0 C0 = some (.inl 2, C') ∧ f_X12_flow N M0 = some M' ∧ (dI C' 6 5 = nn q ∧ dI M' 207 40 = nn q) ∧ Ch FC C0 C' ∧ Ch FM M0 M') := by
  obtain ⟨V, hv⟩ := fl_ini hE
  obtain ⟨C1, c1, c2, c3⟩ := cf_l (N := N) hE hv 26 0 (N - 27 + 1) C0 (by omega) Ch.rf (fun t ht => by omega)
  obtain ⟨M1, m1, m2, m3⟩ := mf_l (N := N) hE hv 26 0 (N - 27 + 1) M0 (by omega) Ch.rf (fun t ht => by omega)
  rw [show N - 27 + 1 + 26 = N by omega] at c1 m1
  obtain ⟨hh1, hh2⟩ := hE.2.2.2.2.2.2.2.1
  obtain ⟨h61, hP⟩ := hE.2.2.2.1
  obtain ⟨hL, hW0⟩ := hE.2.2.2.2.1.2.1
  have cM : Ch FM M0 (sI (sI (sI M1 207 54 (dI M1 207 6)) 207 55 0) 207 56 0) := Ch.sI (by unfold FM; omega) (Ch.sI (by unfold FM; omega) (Ch.sI (by unfold FM; omega) (m2.mono (fun a k q => by unfold FM; omega))))
  have eC : f_X1_check_b7 N nu K N 0 C0 = sb (f_X1_goThrough N nu K 50 (dR C0 P 0) (nn 0) (nn 0) C1) (fun _ D7 => some (.inr (), D7)) := by
    refine (show f_X1_check_b7 N nu K N 0 C0 = _ from c1).trans ?_
    rw [f_X1_check_b7, if_pos (by decide), c2.r (by unfold FC; omega), h61, bS, if_pos hP, c2.r (by unfold FC; omega)]
    rfl
  have eM : f_X12_flow N M0 = f_X12_flow_b71 N N (dI M0 228 h) (sI (sI (sI M1 207 54 (dI M1 207 6)) 207 55 0) 207 56 0) := by
    refine (show f_X12_flow N M0 = _ from m1).trans ?_
    rw [f_X12_flow_b2, if_pos (by decide), cM.i (show ¬ FM 207 35 by unfold FM; omega), hh2, if_neg (nn_in (by omega) (by omega)), nn_nat (by omega), cM.i (show ¬ FM 228 h by unfold FM; omega)]
  have fp : FP nu D0 C0 M0 0 0 0 V C1 (sI (sI (sI M1 207 54 (dI M1 207 6)) 207 55 0) 207 56 0) := ⟨⟨c2, cM, fun t ht => ⟨c3 t ht, m3 t ht⟩⟩, by
    show lb nu D0 (dI M1 207 6) 0
    rw [m2.i (show ¬ 207 = 237 by omega)]
    exact fl_bot hE Ch.rf, ⟨rfl, rfl, Nat.le_refl _⟩, by
    show dI M1 207 40 = -1
    rw [m2.i (show ¬ 207 = 237 by omega)]
    exact h40⟩
  rw [eC, eM]
  rcases fl_go hN hE 47 0 50 (by omega) (by omega) (dR C0 P 0) (dI M0 228 h) 0 0 V C1 _ hL (fun i q => by have := hW0 i q; omega) fp with ⟨C2, M2, V2, k, a1, a2, a3, a4, a5, a6⟩ | ⟨C2, M2, q, k, a1, a2, a3, a4, a5, a6, a7⟩
  · left
    refine ⟨C2, M2, by rw [a2]; rfl, ?_, a4.2.2.2, a4.1.1, a4.1.2.1⟩
    have := a3 (N - k - 1 + 1)
    rw [show N - k - 1 + 1 + k = N by omega] at this
    rw [this, f_X12_flow_b71, a4.2.2.2, if_neg m1_lt, if_neg m1_lt, a4.2.2.1.1, if_pos (by decide)]
    rfl
  · right
    refine ⟨C2, M2, q, a2, by rw [a3]; rfl, ?_, a4, c2.tr a6, cM.tr a7⟩
    have := a5 (N - k)
    rw [show N - k + k = N by omega] at this
    exact this
