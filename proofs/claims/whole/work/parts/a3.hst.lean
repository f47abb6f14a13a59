/-! heights: from the start -/
def hv0 : Nat → Option Nat := fun j => if j = 0 then some 0 else none
def lk0 : Nat → Bool := fun _ => false
theorem JH0 {nu sz : Nat} {o : Nat → Nat} {x : Nat → Int32} (hG : GC nu sz o x) : JH o x sz hv0 lk0 := by
  refine ⟨rfl, fun i h hi => ?_, fun i hi => absurd hi (by unfold lk0; decide)⟩
  unfold hv0 at hi
  by_cases z : i = 0
  · rw [if_pos z] at hi
    have : 0 = h := by simpa using hi
    exact ⟨by have := hG.1.1; omega, by omega, Or.inl z⟩
  · rw [if_neg z] at hi
    simp at hi
theorem cnt0 (sz : Nat) : sm (cn1 lk0) sz 0 = 0 := by
  have : ∀ k i, sm (cn1 lk0) k i = 0 := by
    intro k
    induction k with
    | zero => intro i; rfl
    | succ k ih => intro i; show cn1 lk0 i + sm (cn1 lk0) k (i + 1) = 0; rw [ih]; rfl
  exact this sz 0
theorem tn0 : (0 : Int32).toNatClampNeg = 0 := rfl
theorem hts_C {N nu c sz : Nat} {K : Nat → Nat} {o : Nat → Nat} {x : Nat → Int32} {D : Dat} (hN : 1000 ≤ N) (hG : GC nu sz o x) (hK : Kc c sz o x D) :
    ∃ D', Ch PhC D D' ∧ ((∃ hv', hrun o x sz sz hv0 lk0 = .inr hv' ∧ f_X9_heightsFit N nu K D = some (1, D') ∧ Hc hv' D') ∨ (∃ i w, hrun o x sz sz hv0 lk0 = .inl (i, w) ∧ f_X9_heightsFit N nu K D = some (0, D') ∧ dI D' 107 11 = nn i ∧ dI D' 107 12 = nn w)) := by
  have hk : kd K 113 = 14 := kd_lt (by decide) rfl
  have ch0 : Ch PhC D (sL (sI (sF D 113 0 64 (-1)) 113 0 0) 107 5 (bit1 0)) := Ch.sL (by unfold PhC; omega) (Ch.sI (by unfold PhC; omega) (Ch.sF (fun k => by unfold PhC; omega) Ch.rf))
  have hH : Hc hv0 (sL (sI (sF D 113 0 64 (-1)) 113 0 0) 107 5 (bit1 0)) := by
    intro i hi
    have e1 : dI (sL (sI (sF D 113 0 64 (-1)) 113 0 0) 107 5 (bit1 0)) 113 i = if i = 0 then 0 else -1 := by
      rw [dI_sL, dI_s]
      by_cases z : i = 0
      · rw [if_pos ⟨rfl, z⟩, if_pos z]
      · rw [if_neg (fun w => z w.2), if_neg z, dI_F, if_pos ⟨rfl, by omega, hi⟩]
    have e2 : dL (sL (sI (sF D 113 0 64 (-1)) 113 0 0) 107 5 (bit1 0)) 107 5 = bit1 0 := by rw [dL_s, if_pos ⟨rfl, rfl⟩]
    rw [e1, e2, mm_bt (by omega) hi]
    unfold hv0
    by_cases z : i = 0
    · rw [if_pos z, if_pos z]; exact ⟨rfl, fun _ => by simp, fun _ => z⟩
    · rw [if_neg z, if_neg z]; exact ⟨rfl, fun w => absurd w z, fun w => absurd rfl w⟩
  obtain ⟨D', a1, a2⟩ := hts_c (N := N) (K := K) hN hG sz N 0 0 hv0 lk0 _ (by omega) (by have := hG.1.2; omega) (hK.kept ch0 (fun a j w => by unfold PhC at w; unfold RKc; omega)) (JH0 hG) hH (fun j _ => by rw [mm_0]; exact Iff.rfl)
  have st : f_X9_heightsFit N nu K D = f_X9_heightsFit_b27 N nu K N 0 (nn 0) (sL (sI (sF D 113 0 64 (-1)) 113 0 0) 107 5 (bit1 0)) := by
    unfold f_X9_heightsFit
    rw [fill_e (nu := nu) (a := 113) (n := 64) (v := -1) hk rfl (by omega) (show 64 < N by omega), bS, tn0, show f_X11_bit 0 (sI (sF D 113 0 64 (-1)) 113 0 0) = some (bit1 0, sI (sF D 113 0 64 (-1)) 113 0 0) from rfl, bS]
    rfl
  rw [← st] at a2
  exact ⟨D', ch0.tr a1, a2⟩
theorem hm_fill {N : Nat} {E : Dat} {Q : Int32 × Dat → Prop} (hfin : ∀ D', Ch Pmh E D' → (∀ j, j < 64 → dI D' 245 j = -1 ∧ dI D' 246 j = 0) → Tt ((f_X12_leastOpen N (sI D' 245 0 0)).bind (fun p10 => f_X12_heights_b40 N N p10.1 p10.2)) Q) : ∀ (k g i : Nat) (D : Dat), i + k = 64 → k < g → Ch Pmh E D → (∀ j, j < i → dI D 245 j = -1 ∧ dI D 246 j = 0) → Tt (f_X12_heights_b2 N g (nn i) D) Q := by
  intro k
  induction k with
  | zero =>
    intro g i D hi hg hch hv
    obtain ⟨g, rfl⟩ : ∃ g', g = g' + 1 := ⟨g - 1, by omega⟩
    rw [f_X12_heights_b2, if_pos (by rw [nn_l, nn_le (by omega) (by omega)]; omega), tn0]
    exact hfin D hch (fun j hj => hv j (by omega))
  | succ k ih =>
    intro g i D hi hg hch hv
    obtain ⟨g, rfl⟩ : ∃ g', g = g' + 1 := ⟨g - 1, by omega⟩
    have i1 := nn_in (k := i) (n := 64) (by omega) (by omega)
    rw [f_X12_heights_b2, if_neg (by rw [nn_l, nn_le (by omega) (by omega)]; omega), if_neg i1, if_neg i1, nn_nat (by omega), nn_1, b0_1]
    refine ih g (i + 1) _ (by omega) (by omega) (Ch.sI (Or.inr rfl) (Ch.sI (Or.inl rfl) hch)) (fun j hj => ?_)
    have e1 : dI (sI (sI D 245 i (-1)) 246 i 0) 245 j = if j = i then -1 else dI D 245 j := by
      rw [dI_s, if_neg (by omega), dI_s]
      by_cases z : j = i
      · rw [if_pos ⟨rfl, z⟩, if_pos z]
      · rw [if_neg (fun w => z w.2), if_neg z]
    have e2 : dI (sI (sI D 245 i (-1)) 246 i 0) 246 j = if j = i then 0 else dI D 246 j := by
      rw [dI_s]
      by_cases z : j = i
      · rw [if_pos ⟨rfl, z⟩, if_pos z]
      · rw [if_neg (fun w => z w.2), if_neg z, dI_s, if_neg (by omega)]
    rw [e1, e2]
    by_cases z : j = i
    · rw [if_pos z, if_pos z]; exact ⟨rfl, rfl⟩
    · rw [if_neg z, if_neg z]; exact hv j (by omega)
theorem hts_M {N nu sz : Nat} {o : Nat → Nat} {x : Nat → Int32} {D : Dat} (hN : 1000 ≤ N) (hG : GC nu sz o x) (hK : Km sz o x D) :
    ∃ D', ((∃ hv', hrun o x sz sz hv0 lk0 = .inr hv' ∧ f_X12_heights N D = some (0, D') ∧ (∀ j, j < 64 → dI D' 245 j = hI (hv' j)) ∧ Ch Pmh D D') ∨ (∃ i w, hrun o x sz sz hv0 lk0 = .inl (i, w) ∧ f_X12_heights N D = some (0, D') ∧ dI D' 207 7 = nn i ∧ dI D' 207 8 = nn w ∧ dI D' 207 0 = 2 ∧ Ch (fun a j => Pmh a j ∨ (a = 207 ∧ (j = 0 ∨ j = 7 ∨ j = 8))) D D')) := by
  have hz := hG.1.2
  have key : Tt (f_X12_heights N D) (fun z => z.1 = 0 ∧ ((∃ hv', hrun o x sz sz hv0 lk0 = .inr hv' ∧ (∀ j, j < 64 → dI z.2 245 j = hI (hv' j)) ∧ Ch Pmh D z.2) ∨ (∃ i w, hrun o x sz sz hv0 lk0 = .inl (i, w) ∧ dI z.2 207 7 = nn i ∧ dI z.2 207 8 = nn w ∧ dI z.2 207 0 = 2 ∧ Ch (fun a j => Pmh a j ∨ (a = 207 ∧ (j = 0 ∨ j = 7 ∨ j = 8))) D z.2))) := by
    refine hm_fill (E := D) (fun D' h1 h2 => ?_) 64 N 0 D (by omega) (by omega) Ch.rf (fun j hj => absurd hj (by omega))
    have c1 : Ch Pmh D (sI D' 245 0 0) := Ch.sI (Or.inl rfl) h1
    have hK' : Km sz o x (sI D' 245 0 0) := hK.kept c1 (fun a j w => by unfold Pmh at w; unfold RKm; omega)
    have hH : Hm hv0 lk0 (sI D' 245 0 0) := by
      intro j hj
      have e1 : dI (sI D' 245 0 0) 245 j = if j = 0 then 0 else dI D' 245 j := by
        rw [dI_s]
        by_cases z : j = 0
        · rw [if_pos ⟨rfl, z⟩, if_pos z]
        · rw [if_neg (fun w => z w.2), if_neg z]
      have e2 : dI (sI D' 245 0 0) 246 j = 0 := by rw [dI_s, if_neg (by omega)]; exact (h2 j hj).2
      rw [e1, e2]
      unfold hv0 lk0
      by_cases z : j = 0
      · rw [if_pos z, if_pos z]; exact ⟨rfl, rfl⟩
      · rw [if_neg z, if_neg z]; exact ⟨(h2 j hj).1, rfl⟩
    have el : f_X12_leastOpen N (sI D' 245 0 0) = some (loI (lo hv0 lk0 sz 0), sI D' 245 0 0) := lo_m (N := N) hz hK'.2.1 hH (JH0 hG).bd sz N 0 (by omega) (by omega)
    rw [el, bS]
    obtain ⟨D'', b⟩ := hts_m (N := N) hN hG sz N hv0 lk0 _ (by omega) hK' (JH0 hG) (by rw [cnt0]; omega) hH
    rcases b with ⟨hv', b1, b2, b3, b4⟩ | ⟨i, w, b1, b2, b3, b4, b5, b6⟩
    · exact ⟨_, b2, rfl, Or.inl ⟨hv', b1, b3, c1.tr b4⟩⟩
    · exact ⟨_, b2, rfl, Or.inr ⟨i, w, b1, b3, b4, b5, (c1.mono (fun a j w => Or.inl w)).tr b6⟩⟩
  obtain ⟨⟨z, D'⟩, e, e0, b⟩ := key
  have e0' : z = 0 := e0
  subst e0'
  refine ⟨D', ?_⟩
  rcases b with ⟨hv', b1, b2, b3⟩ | ⟨i, w, b1, b2, b3, b4, b5⟩
  · exact Or.inl ⟨hv', b1, e, b2, b3⟩
  · exact Or.inr ⟨i, w, b1, e, b2, b3, b4, b5⟩
