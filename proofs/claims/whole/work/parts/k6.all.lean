/-! every call keeps the invariant -/
theorem stp_below1 {N nu n : Nat} {K : Nat → Nat} {D : Dat} (a1 a2 a3 : Int32) (hS : IS nu D) (h5 : dI D 207 5 = 1) : ∃ D', stp_0 N nu n K D a1 a2 a3 = some (K, D') ∧ Ch Pr D D' := by
  obtain ⟨⟨n1, n2⟩, ⟨d1, d2⟩, -, -, -, -, ⟨s1, -⟩⟩ := hS
  have q1 : dI (sI D 207 0 0) 207 1 = nn nu := by rw [dI_s, if_neg (by omega)]; exact d2
  unfold stp_0
  rcases lab n2 a1 with ⟨a, ha, rfl⟩ | hb
  · rcases lab n2 a2 with ⟨b, hb, rfl⟩ | hb
    · have eS : f_X2_isSealed D = some (1, D) := by rw [sealed_e (by rw [s1]; exact Or.inr h5), s1, h5]
      refine stp_not (r := 2) (by decide) ?_ ?_
      · unfold f_L_below f_X11_below
        simp only [has_yes n2 ha d1, has_yes n2 hb d1, eS, bS, n10, reduceIte]
        rfl
      · unfold f_X12_below
        rw [q1, out_no (by omega) ha, bS]
        simp only [reduceIte]
        rw [q1, out_no (by omega) hb, bS]
        have q5 : ¬ dI (sI D 207 0 0) 207 5 = 0 := by rw [dI_s, if_neg (by omega), h5]; decide
        simp only [q5, reduceIte, e_X12_fail, bS]
        rfl
    · refine stp_not (r := 1) (by decide) ?_ ?_
      · unfold f_L_below f_X11_below f_X11_below_b22
        simp only [has_yes n2 ha d1, has_no n2 hb d1, bS, n10, reduceIte]
      · unfold f_X12_below f_X12_below_b29
        rw [q1, out_no (by omega) ha, bS]
        simp only [reduceIte]
        rw [q1, out_yes (by omega) hb, bS]
        simp only [n10, reduceIte, e_X12_fail, bS]
        rfl
  · refine stp_not (r := 1) (by decide) ?_ ?_
    · unfold f_L_below f_X11_below f_X11_below_b22
      simp only [has_no n2 hb d1, bS, reduceIte]
    · unfold f_X12_below f_X12_below_b29
      rw [q1, out_yes (by omega) hb, bS]
      simp only [n10, reduceIte, e_X12_fail, bS]
      rfl
theorem stp_seal1 {N nu n : Nat} {K : Nat → Nat} {D : Dat} (a1 a2 a3 : Int32) (hS : IS nu D) (h5 : dI D 207 5 = 1) : ∃ D', stp_1 N nu n K D a1 a2 a3 = some (K, D') ∧ Ch Pr D D' := by
  obtain ⟨-, -, -, -, -, -, ⟨s1, -⟩⟩ := hS
  have eS : f_X2_isSealed D = some (1, D) := by rw [sealed_e (by rw [s1]; exact Or.inr h5), s1, h5]
  unfold stp_1
  exact stp_not (K := K) (fL := f_L_seal N nu K D) (fM := fun D => f_X12_seal N D) (D := D) (r := 1) (by decide) (by
      unfold f_L_seal f_X11_seal
      simp only [eS, bS, n10, reduceIte]) (by
      show f_X12_seal N D = _
      unfold f_X12_seal
      have q5 : ¬ dI (sI D 207 0 0) 207 5 = 0 := by rw [dI_s, if_neg (by omega), h5]; decide
      simp only [q5, reduceIte, e_X12_fail, bS]
      rfl)
theorem stp_verify0 {N nu n : Nat} {K : Nat → Nat} {D : Dat} (a1 a2 a3 : Int32) (hS : IS nu D) (h5 : dI D 207 5 = 0) : ∃ D', stp_8 N nu n K D a1 a2 a3 = some (K, D') ∧ Ch Pr D D' := by
  obtain ⟨-, -, -, -, -, -, ⟨s1, -⟩⟩ := hS
  unfold stp_8
  exact stp_not (K := K) (fL := f_L_verify N nu K D) (fM := fun D => f_X12_verify N D) (D := D) (r := 1) (by decide) (by
      unfold f_L_verify f_X11_verify f_X11_verify_b20
      have eS : f_X2_isSealed D = some (0, D) := by rw [sealed_e (by rw [s1]; exact Or.inl h5), s1, h5]
      simp only [eS, bS, reduceIte]) (by
      show f_X12_verify N D = _
      unfold f_X12_verify f_X12_verify_b19
      have q5 : dI (sI D 207 0 0) 207 5 = 0 := by rw [dI_s, if_neg (by omega)]; exact h5
      rw [q5, if_pos rfl]
      rfl)
theorem ICV.none {nu c sz : Nat} {D : Dat} (hC : IC c sz D) (h : none_left D) : ICV nu D := ⟨c, sz, hC, fun q => by rw [h.1] at q; exact absurd q (by decide), fun q => by rw [h.2.1] at q; exact absurd q (by decide)⟩
/-- code, fix, clear -/
theorem Inv.pc {nu c sz : Nat} {K : Nat → Nat} {D D' : Dat} (hI : Inv nu K D) (h : Ch Pc D D') (i1 : IS nu D') (i3 : IC c sz D') (i4 : IM nu D') (h0 : none_left D') : Inv nu K D' := by
  obtain ⟨-, i2, -, -, ⟨len, i5⟩, i6, i7⟩ := hI
  exact ⟨i1, i2.kept h (fun a k q => by unfold Pc at q; unfold RIL; omega), ICV.none i3 h0, i4, ⟨len, i5.kept h (fun a k q => by unfold Pc at q; unfold RIT; omega)⟩, i6.kept h (fun a k q => by unfold Pc at q; unfold RIA; omega), i7.clr h (fun a k q => by unfold Pc at q; omega) h0.2.2⟩
/-- feed, drain, run, walk -/
theorem Inv.ma {nu : Nat} {K : Nat → Nat} {D D' : Dat} {Q : Nat → Nat → Prop} (hI : Inv nu K D) (h : Ch Q D D') (hq : ∀ a k, Q a k → Pr a k ∨ (181 ≤ a ∧ a ≤ 189) ∨ (a = 207 ∧ (k = 55 ∨ (82 ≤ k ∧ k ≤ 84))) ∨ (238 ≤ a ∧ a ≤ 240) ∨ (254 ≤ a ∧ a ≤ 261)) (i6 : IA D') : Inv nu K D' := by
  obtain ⟨i1, i2, i3, i4, ⟨len, i5⟩, -, i7⟩ := hI
  exact ⟨i1.kept h (fun a k q => by have := hq a k q; unfold Pr at this; unfold RIS; omega), i2.kept h (fun a k q => by have := hq a k q; unfold Pr at this; unfold RIL; omega), i3.kept h (fun a k q => by have := hq a k q; unfold Pr at this; unfold RIC RVm; omega), i4.kept h (fun a k q => by have := hq a k q; unfold Pr at this; unfold RIM; omega), ⟨len, i5.kept h (fun a k q => by have := hq a k q; unfold Pr at this; unfold RIT; omega)⟩, i6, i7.kept h (fun a k q => by have := hq a k q; unfold Pr at this; unfold RIP; omega)⟩
theorem if_ex {nu : Nat} {c : Prop} {dc : Decidable c} {x y : Option ((Nat → Nat) × Dat)} (h1 : c → ∃ (K' : Nat → Nat) (D' : Dat), x = some (K', D') ∧ Inv nu K' D') (h2 : ¬ c → ∃ (K' : Nat → Nat) (D' : Dat), y = some (K', D') ∧ Inv nu K' D') : ∃ (K' : Nat → Nat) (D' : Dat), (@ite _ c dc x y) = some (K', D') ∧ Inv nu K' D' := by
  by_cases q : c
  · rw [if_pos q]; exact h1 q
  · rw [if_neg q]; exact h2 q
theorem stp_all {N : Nat} (hN : 100000 ≤ N) (hNb : bW 47 + 2 ≤ N) (hNt : tW 47 + 2 ≤ N) (nu n : Nat) (K : Nat → Nat) (D : Dat) (o a1 a2 a3 : Int32) (hI : Inv nu K D) (hn : NS ≤ n) (hlt : ∀ a, kd K a < 19 → a < n) : ∃ (K' : Nat → Nat) (D' : Dat), stp N nu n K D o a1 a2 a3 = some (K', D') ∧ Inv nu K' D' := by
  have hN1 : 1000 ≤ N := Nat.le_trans (by decide) hN
  have hN2 : 2000 ≤ N := Nat.le_trans (by decide) hN
  obtain ⟨i1, i2, i3, i4, ⟨len, i5⟩, i6, i7⟩ := id hI
  obtain ⟨c, sz, j1, j2, j3⟩ := id i3
  have b5 : b01 (dI D 207 5) := i1.2.2.2.2.2.2.2
  have pr : ∀ {z : Option ((Nat → Nat) × Dat)}, (∃ D', z = some (K, D') ∧ Ch Pr D D') → ∃ (K' : Nat → Nat) (D' : Dat), z = some (K', D') ∧ Inv nu K' D' := fun ⟨D', e1, e2⟩ => ⟨K, D', e1, hI.pr e2⟩
  unfold stp
  refine if_ex (fun _ => ?_) (fun _ => ?_)
  · rcases b5 with q | q
    · obtain ⟨D', e1, e2, e3⟩ := stp_below (N := N) (n := n) (K := K) hN1 a1 a2 a3 i1 i2
      have h17 : dI D 207 17 = 1 → False := fun w => by rw [(j3 w).2] at q; exact absurd q (by decide)
      refine ⟨K, D', e1, i1.kept e2 (fun a k q => by unfold Pb Pr at q; unfold RIS; omega), e3, ⟨c, sz, j1.kept e2 (fun a k q => by unfold Pb Pr at q; unfold RIC; omega), fun w => ?_, fun w => ?_⟩, i4.kept e2 (fun a k q => by unfold Pb Pr at q; unfold RIM; omega), ⟨len, i5.kept e2 (fun a k q => by unfold Pb Pr at q; unfold RIT; omega)⟩, i6.kept e2 (fun a k q => by unfold Pb Pr at q; unfold RIA; omega), i7.kept e2 (fun a k q => by unfold Pb Pr at q; unfold RIP; omega)⟩
      · rw [e2.i (by unfold Pb Pr; omega)] at w
        obtain ⟨ht, h4⟩ := j2 w
        exact ⟨ht, h4.kept e2 (fun a k q => by unfold Pb Pr at q; omega)⟩
      · rw [e2.i (by unfold Pb Pr; omega)] at w
        exact (h17 w).elim
    · exact pr (stp_below1 a1 a2 a3 i1 q)
  refine if_ex (fun _ => ?_) (fun _ => ?_)
  · rcases b5 with q | q
    · obtain ⟨D', e1, e2, e3, e4⟩ := stp_seal (N := N) (n := n) (K := K) hN1 a1 a2 a3 i1 i2
      have h17 : dI D 207 17 = 1 → False := fun w => by rw [(j3 w).2] at q; exact absurd q (by decide)
      refine ⟨K, D', e1, e4, e3, ⟨c, sz, j1.kept e2 (fun a k q => by unfold Ps Pr at q; unfold RIC; omega), fun w => ?_, fun w => ?_⟩, i4.kept e2 (fun a k q => by unfold Ps Pr at q; unfold RIM; omega), ⟨len, i5.kept e2 (fun a k q => by unfold Ps Pr at q; unfold RIT; omega)⟩, i6.kept e2 (fun a k q => by unfold Ps Pr at q; unfold RIA; omega), i7.kept e2 (fun a k q => by unfold Ps Pr at q; unfold RIP; omega)⟩
      · rw [e2.i (by unfold Ps Pr; omega)] at w
        obtain ⟨ht, h4⟩ := j2 w
        exact ⟨ht, h4.kept e2 (fun a k q => by unfold Ps Pr at q; omega)⟩
      · rw [e2.i (by unfold Ps Pr; omega)] at w
        exact (h17 w).elim
    · exact pr (stp_seal1 a1 a2 a3 i1 q)
  refine if_ex (fun _ => pr (stp_label hN1 a1 a2 a3 i1 i2)) (fun _ => ?_)
  refine if_ex (fun _ => ?_) (fun _ => ?_)
  · obtain ⟨D', e1, e2⟩ := stp_append (N := N) (nu := nu) (n := n) (K := K) hN1 a1 a2 a3 i5
    rcases e2 with e2 | ⟨e2, len', e3⟩
    · exact ⟨K, D', e1, hI.pr e2⟩
    · exact ⟨K, D', e1, i1.kept e2 (fun a k q => by unfold Pa at q; unfold RIS; omega), i2.kept e2 (fun a k q => by unfold Pa at q; unfold RIL; omega), i3.kept e2 (fun a k q => by unfold Pa at q; unfold RIC RVm; omega), i4.kept e2 (fun a k q => by unfold Pa at q; unfold RIM; omega), ⟨len', e3⟩, i6.kept e2 (fun a k q => by unfold Pa at q; unfold RIA; omega), i7.kept e2 (fun a k q => by unfold Pa at q; unfold RIP; omega)⟩
  refine if_ex (fun _ => stp_compile hN1 hNb hNt a1 a2 a3 hI hn hlt) (fun _ => ?_)
  refine if_ex (fun _ => ?_) (fun _ => ?_)
  · obtain ⟨D', e1, e2⟩ := stp_code (N := N) (n := n) (K := K) a1 a2 a3 i1 j1 i4
    rcases e2 with e2 | ⟨e2, e3, e4, e5, e6⟩
    · exact ⟨K, D', e1, hI.pr e2⟩
    · exact ⟨K, D', e1, hI.pc e2 e3 e4 e5 e6⟩
  refine if_ex (fun _ => ?_) (fun _ => ?_)
  · obtain ⟨D', e1, e2⟩ := stp_fix (N := N) (n := n) (K := K) a1 a2 a3 i1 j1 i4
    rcases e2 with e2 | ⟨e2, e3, e4, e5, e6⟩
    · exact ⟨K, D', e1, hI.pr e2⟩
    · exact ⟨K, D', e1, hI.pc e2 e3 e4 e5 e6⟩
  refine if_ex (fun _ => ?_) (fun _ => ?_)
  · obtain ⟨D', e1, e2, e3, e4, e5, e6⟩ := stp_clear (N := N) (n := n) (K := K) hN1 a1 a2 a3 i1 j1
    exact ⟨K, D', e1, hI.pc e2 e3 e4 e5 e6⟩
  refine if_ex (fun _ => ?_) (fun _ => ?_)
  · rcases b5 with q | q
    · exact pr (stp_verify0 a1 a2 a3 i1 q)
    · obtain ⟨D', e1, e2⟩ := stp_verify (N := N) (n := n) (K := K) hN a1 a2 a3 i1 i2 j1 i4
      rcases e2 with e2 | ⟨e2, e3, e4, e5⟩
      · exact ⟨K, D', e1, hI.pr e2⟩
      · exact ⟨K, D', e1, e3, i2.kept e2 (fun a k q => by unfold Pv Pr PvC PvM at q; unfold RIL; omega), ⟨c, sz, j1.kept e2 (fun a k q => by unfold Pv Pr PvC PvM at q; unfold RIC; omega), e5, fun w => ⟨e4 w, by rw [e2.i (by unfold Pv Pr PvC PvM; omega)]; exact q⟩⟩, i4.kept e2 (fun a k q => by unfold Pv Pr PvC PvM at q; unfold RIM; omega), ⟨len, i5.kept e2 (fun a k q => by unfold Pv Pr PvC PvM at q; unfold RIT; omega)⟩, i6.kept e2 (fun a k q => by unfold Pv Pr PvC PvM at q; unfold RIA; omega), i7.kept e2 (fun a k q => by unfold Pv Pr PvC PvM at q; unfold RIP; omega)⟩
  refine if_ex (fun _ => pr (stp_map hN1 a1 a2 a3 i1 i2 j1 j3)) (fun _ => ?_)
  refine if_ex (fun _ => pr (stp_region a1 a2 a3 i1 j1 (fun w => (j3 w).1))) (fun _ => ?_)
  refine if_ex (fun _ => ?_) (fun _ => ?_)
  · obtain ⟨D', e1, e2, e3⟩ := stp_feed (N := N) (n := n) (K := K) a1 a2 a3 i1 i6
    exact ⟨K, D', e1, hI.ma e2 (fun a k q => by unfold Pf Pr at q; unfold Pr; omega) e3⟩
  refine if_ex (fun _ => ?_) (fun _ => ?_)
  · obtain ⟨D', e1, e2, e3⟩ := stp_drain (N := N) (n := n) (K := K) a1 a2 a3 i1 i6
    exact ⟨K, D', e1, hI.ma e2 (fun a k q => by unfold Pf Pr at q; unfold Pr; omega) e3⟩
  refine if_ex (fun _ => ?_) (fun _ => ?_)
  · obtain ⟨D', e1, e2⟩ := stp_run (N := N) (nu := nu) (n := n) (K := K) hN1 a1 a2 a3 i1 j1 i6 j2
    rcases e2 with e2 | ⟨e2, e3⟩
    · exact ⟨K, D', e1, hI.pr e2⟩
    · exact ⟨K, D', e1, hI.ma e2 (fun a k q => by unfold Prun PmB PmC PmM Pr at q; unfold Pr; omega) e3⟩
  refine if_ex (fun _ => ?_) (fun _ => ?_)
  · obtain ⟨D', e1, e2⟩ := stp_walk (N := N) (nu := nu) (n := n) (K := K) hN2 a1 a2 a3 i1 i6 i7
    rcases e2 with e2 | ⟨e2, e3⟩
    · exact ⟨K, D', e1, hI.pr e2⟩
    · exact ⟨K, D', e1, hI.ma e2 (fun a k q => by unfold Pwk PmB PmC WM Pr at q; unfold Pr; omega) e3⟩
  refine if_ex (fun _ => pr (stp_output a1 a2 a3 i1 i6)) (fun _ => ?_)
  refine if_ex (fun _ => pr (stp_value a1 a2 a3 i6)) (fun _ => ?_)
  refine if_ex (fun _ => pr (stp_instr a1 a2 a3 j1)) (fun _ => ?_)
  refine if_ex (fun _ => pr (stp_count a1 a2 a3 i1 j1 i5 i6)) (fun _ => ?_)
  exact ⟨K, D, rfl, hI⟩
