/-! labels of the class: the loops -/
theorem lr_in {N nu c sz : Nat} {K : Nat → Nat} {o : Nat → Nat} {x : Nat → Int32} {hv : Nat → Option Nat} {rg : Nat → Nat → Prop} {D0 : Dat} (hN : 1000 ≤ N) (hG : GC nu sz o x) (hS : LatS nu D0) (hmk : ∀ v, v < 52 → mkOk nu (dI D0 190 v)) (hV : HV o x sz hv) (hRg : ∀ i t, ¬ hv i = none → rg i t → ¬ hv t = none) {E : Dat} {ph r : Nat} {Q : Dat → Prop} (rec : Int32 → Dat → Option Dat)
    (hfin : ∀ (L : Nat → Nat) (M : Nat → Nat → Nat) (D' : Dat), CEn nu c sz o x hv rg D0 D' → Ch PlC E D' → SC sz L M D' → LI nu sz o x hv rg D0 L M (dL D' 107 9) → ph ≤ phi sz L M → (phi sz L M = ph → dL D' 107 9 = 0) → Tt (rec (nn (r + 1)) D') Q) :
    ∀ (k g i : Nat) (L : Nat → Nat) (M : Nat → Nat → Nat) (D : Dat), i + k = sz → k < g → CEn nu c sz o x hv rg D0 D → Ch PlC E D → SC sz L M D → LI nu sz o x hv rg D0 L M (dL D 107 9) → ph ≤ phi sz L M → (phi sz L M = ph → ∀ j, j < i → mm (dL D 107 9) j = false) → Tt (f_X9_findLabels_b100 N nu K rec g (nn r) (nn i) D) Q := by
  have hz := hG.1.2
  intro k
  induction k with
  | zero =>
    intro g i L M D hi hg hE hch hSC hI hp hq
    obtain ⟨g, rfl⟩ : ∃ g', g = g' + 1 := ⟨g - 1, by omega⟩
    obtain ⟨k1, k2, k3, k4, k5, k6⟩ := id hE.1
    have h1 : nn sz ≤ nn i := (nn_le (by omega) (by omega)).mpr (by omega)
    rw [f_X9_findLabels_b100]
    simp only [k3, bS, k1, reduceIte, f_X0_size, k5, h1, nn_1]
    refine hfin L M D hE hch hSC hI hp (fun e => (mm_zero _).mpr (fun j hj => ?_))
    by_cases c : j < sz
    · exact hq e j (by omega)
    · refine Bool.eq_false_iff.mpr (fun w => ?_)
      have := hI.2.2.2.2 j hj w
      cases e2 : hv j with
      | none => exact this e2
      | some h => exact c (hV.2 j h e2).1
  | succ k ih =>
    intro g i L M D hi hg hE hch hSC hI hp hq
    obtain ⟨g, rfl⟩ : ∃ g', g = g' + 1 := ⟨g - 1, by omega⟩
    obtain ⟨k1, k2, k3, k4, k5, k6⟩ := id hE.1
    have h1 : ¬ nn sz ≤ nn i := by rw [nn_le (by omega) (by omega)]; omega
    have hi' : i < sz := by omega
    rw [f_X9_findLabels_b100]
    unfold f_X9_findLabels_b144
    simp only [k3, bS, k1, reduceIte, f_X0_size, k5, h1, e_holds _ (show i < 64 by omega), if10, e_bit, nn_1]
    by_cases m : mm (dL D 107 9) i = true
    · rw [if_pos m]
      have hni := hI.2.2.2.2 i (by omega) m
      obtain ⟨h, hh⟩ : ∃ h, hv i = some h := by
        cases e : hv i with
        | none => exact absurd e hni
        | some h => exact ⟨h, rfl⟩
      have c1 : Ch PlC D (sL D 107 9 (dL D 107 9 &&& (bit1 i ^^^ (-1 : Int64)))) := Ch.sL (by unfold PlC; omega) Ch.rf
      have hE1 := hE.kept c1
      have hS1 : SC sz L M (sL D 107 9 (dL D 107 9 &&& (bit1 i ^^^ (-1 : Int64)))) := hSC
      obtain ⟨D', a1, a2, a3, a4⟩ := e_goOver (K := K) hN hS.1.2 hG hS.rw2 hmk hV hE1 hS1 hh
      rw [a1, bS]
      have e12 : dL (sL D 107 9 (dL D 107 9 &&& (bit1 i ^^^ (-1 : Int64)))) 112 i = dL D 112 i := by rw [dL_s, if_neg (by omega)]
      rw [e12] at a3 a4
      have hO : ∀ t, t < 64 → (mm (dL D' 107 9) t = true ↔ ((mm (dL D 107 9) t = true ∧ t ≠ i) ∨ (t < sz ∧ (¬ goL o hv (dL D 112 i) L M i t = L t ∨ ∃ k, k < 56 ∧ ¬ goM o x hv (evD nu D0) L M i t k = M t k)))) := fun t ht => by
        rw [a4 t ht, dL_s, if_pos ⟨rfl, rfl⟩, mm_and, mm_not _ ht, Bool.and_eq_true, Bool.not_eq_true', ← Bool.not_eq_true, mm_bt (by omega) ht]
      obtain ⟨b1, b2, b3⟩ := LI.step hG hS hmk hV hRg hE hI hh hO
      refine ih g (i + 1) _ _ D' (by omega) (by omega) (hE1.kept a2) (hch.tr (c1.tr a2)) a3 b1 (by omega) (fun e j hj => ?_)
      have e' : phi sz L M = ph := by omega
      refine Bool.eq_false_iff.mpr (fun w => ?_)
      have := b3 (by omega) j (by omega) w
      by_cases c : j = i
      · exact this.2 c
      · have f := hq e' j (by omega)
        rw [this.1] at f
        exact absurd f (by decide)
    · rw [if_neg m]
      refine ih g (i + 1) L M D (by omega) (by omega) hE hch hSC hI hp (fun e j hj => ?_)
      by_cases c : j = i
      · rw [c]; exact Bool.eq_false_iff.mpr m
      · exact hq e j (by omega)
/-- what the class finds -/
def FoundC (nu sz : Nat) (o : Nat → Nat) (x : Nat → Int32) (hv : Nat → Option Nat) (rg : Nat → Nat → Prop) (D0 : Dat) (L : Nat → Nat) (M : Nat → Nat → Nat) : Prop := VSt nu sz D0 L M ∧ mini nu sz o x hv rg D0 L M ∧ (∀ v, v < 26 → le (fxD nu D0 v) (M 0 v)) ∧ Sol o x sz hv (evD nu D0) rg L M
theorem lr_out {N nu c sz : Nat} {K : Nat → Nat} {o : Nat → Nat} {x : Nat → Int32} {hv : Nat → Option Nat} {rg : Nat → Nat → Prop} {D0 : Dat} (hN : 100000 ≤ N) (hG : GC nu sz o x) (hS : LatS nu D0) (hmk : ∀ v, v < 52 → mkOk nu (dI D0 190 v)) (hV : HV o x sz hv) (hRg : ∀ i t, ¬ hv i = none → rg i t → ¬ hv t = none) {E : Dat} : ∀ (r g k : Nat) (L : Nat → Nat) (M : Nat → Nat → Nat) (D : Dat), 18241 ≤ phi sz L M + r → r + 1 < g → k ≤ phi sz L M → CEn nu c sz o x hv rg D0 D → Ch PlC E D → SC sz L M D → LI nu sz o x hv rg D0 L M (dL D 107 9) → Tt (f_X9_findLabels_b82 N nu K g (nn k) D) (fun D' => CEn nu c sz o x hv rg D0 D' ∧ Ch PlC E D' ∧ ∃ L M, SC sz L M D' ∧ FoundC nu sz o x hv rg D0 L M) := by
  have hz := hG.1.2
  have done : ∀ (L : Nat → Nat) (M : Nat → Nat → Nat) (D : Dat), LI nu sz o x hv rg D0 L M (dL D 107 9) → dL D 107 9 = 0 → FoundC nu sz o x hv rg D0 L M := fun L M D hI h0 => ⟨hI.1, hI.2.1, hI.2.2.1, fun i h hi => hI.2.2.2.1 i h hi (by rw [h0]; exact mm_0 i)⟩
  intro r
  induction r with
  | zero =>
    intro g k L M D hr hg hk hE hch hSC hI
    have := phi_bd hS hz hI.1
    omega
  | succ r ih =>
    intro g k L M D hr hg hk hE hch hSC hI
    obtain ⟨g, rfl⟩ : ∃ g', g = g' + 1 := ⟨g - 1, by omega⟩
    have pb := phi_bd hS hz hI.1
    rw [f_X9_findLabels_b82, if_neg (show ¬ 21888 ≤ nn k by rw [nn_l, nn_le (by omega) (by omega)]; omega)]
    by_cases h0 : dL D 107 9 = 0
    · rw [if_pos ((cmp0 _).mpr h0)]
      exact ⟨D, rfl, hE, hch, L, M, hSC, done L M D hI h0⟩
    · rw [if_neg (fun w => h0 ((cmp0 _).mp w))]
      refine lr_in (E := D) (ph := phi sz L M) (r := k) (by omega) hG hS hmk hV hRg _ (fun L' M' D' b1 b2 b3 b4 b5 b6 => ?_) sz N 0 L M D (by omega) (by omega) hE Ch.rf hSC hI (Nat.le_refl _) (fun _ j hj => absurd hj (by omega))
      by_cases e : phi sz L' M' = phi sz L M
      · obtain ⟨g, rfl⟩ : ∃ g', g = g' + 1 := ⟨g - 1, by omega⟩
        have z0 := b6 e
        rw [f_X9_findLabels_b82]
        unfold f_X9_findLabels_b156
        have fin : CEn nu c sz o x hv rg D0 D' ∧ Ch PlC E D' ∧ ∃ L M, SC sz L M D' ∧ FoundC nu sz o x hv rg D0 L M := ⟨b1, hch.tr b2, L', M', b3, done L' M' D' b4 z0⟩
        split
        · exact ⟨D', rfl, fin⟩
        · exact ⟨D', by rw [if_pos ((cmp0 _).mpr z0)], fin⟩
      · exact ih g (k + 1) L' M' D' (by omega) (by omega) (by omega) b1 (hch.tr b2) b3 b4
/-- the rows at the start -/
theorem li_fill {N nu c sz : Nat} {K : Nat → Nat} {o : Nat → Nat} {x : Nat → Int32} {hv : Nat → Option Nat} {rg : Nat → Nat → Prop} {D0 : Dat} (hN : 1000 ≤ N) (hz : sz ≤ 64) {E : Dat} {Q : Dat → Prop} (hfin : ∀ D', CEn nu c sz o x hv rg D0 D' → Ch (fun a _ => 116 ≤ a ∧ a ≤ 179) E D' → (∀ i k, i < sz → k < 56 → dI D' (116 + i) k = 0) → Tt (f_X9_findLabels_b39 N nu K N 0 D') Q) : ∀ (k g i : Nat) (D : Dat), i + k = sz → k < g → CEn nu c sz o x hv rg D0 D → Ch (fun a _ => 116 ≤ a ∧ a ≤ 179) E D → (∀ j k, j < i → k < 56 → dI D (116 + j) k = 0) → Tt (f_X9_findLabels_b10 N nu K g (nn i) D) Q := by
  intro k
  induction k with
  | zero =>
    intro g i D hi hg hE hch hv'
    obtain ⟨g, rfl⟩ : ∃ g', g = g' + 1 := ⟨g - 1, by omega⟩
    obtain ⟨k1, k2, k3, k4, k5, k6⟩ := id hE.1
    have h1 : nn sz ≤ nn i := (nn_le (by omega) (by omega)).mpr (by omega)
    rw [f_X9_findLabels_b10]
    simp only [k3, bS, k1, reduceIte, f_X0_size, k5, h1]
    exact hfin D hE hch (fun j k hj hk => hv' j k (by omega) hk)
  | succ k ih =>
    intro g i D hi hg hE hch hv'
    obtain ⟨g, rfl⟩ : ∃ g', g = g' + 1 := ⟨g - 1, by omega⟩
    obtain ⟨k1, k2, k3, k4, k5, k6⟩ := id hE.1
    have h1 : ¬ nn sz ≤ nn i := by rw [nn_le (by omega) (by omega)]; omega
    have i1 := nn_in (k := i) (n := 64) (by omega) (by omega)
    rw [f_X9_findLabels_b10]
    simp only [k3, bS, k1, reduceIte, f_X0_size, k5, h1, i1, nn_1]
    rw [nn_nat (by omega), fill_e (nu := nu) (a := 115 + 1 + i) (n := 56) (v := 0) (kd_row (by omega)) (nl_row (by omega)) (by omega) (by omega), bS]
    have c1 : Ch (fun a _ => 116 ≤ a ∧ a ≤ 179) D (sF D (115 + 1 + i) 0 56 0) := Ch.sF (fun k => by omega) Ch.rf
    refine ih g (i + 1) _ (by omega) (by omega) (hE.kept (c1.mono (fun a j w => by unfold PlC; omega))) (hch.tr c1) (fun j k hj hk => ?_)
    rw [dI_F]
    by_cases e : j = i
    · rw [if_pos ⟨by omega, by omega, hk⟩]
    · rw [if_neg (fun w => e (by omega))]; exact hv' j k (by omega) hk
theorem li_vars {N nu c sz : Nat} {K : Nat → Nat} {o : Nat → Nat} {x : Nat → Int32} {hv : Nat → Option Nat} {rg : Nat → Nat → Prop} {D0 : Dat} (hn : nu ≤ 6) (hr : Rw2 nu D0) (hmk : ∀ v, v < 52 → mkOk nu (dI D0 190 v)) {E : Dat} {Q : Dat → Prop} (hfin : ∀ D', CEn nu c sz o x hv rg D0 D' → Ch (fun a j => a = 116 ∧ j < 26) E D' → (∀ v, v < 26 → dI D' 116 v = nn (fxD nu D0 v)) → Tt (f_X9_findLabels_b82 N nu K N 0 (sL D' 107 9 (dL D' 107 5))) Q) : ∀ (k g v : Nat) (D : Dat), v + k = 26 → k < g → CEn nu c sz o x hv rg D0 D → Ch (fun a j => a = 116 ∧ j < 26) E D → (∀ t, t < v → dI D 116 t = nn (fxD nu D0 t)) → Tt (f_X9_findLabels_b39 N nu K g (nn v) D) Q := by
  have hk190 : kd K 190 = 14 := kd_lt (by decide) rfl
  have hl190 : nl nu 190 = 52 := rfl
  intro k
  induction k with
  | zero =>
    intro g v D hi hg hE hch hv'
    obtain ⟨g, rfl⟩ : ∃ g', g = g' + 1 := ⟨g - 1, by omega⟩
    rw [f_X9_findLabels_b39, if_pos (show 26 ≤ nn v by rw [nn_l, nn_le (by omega) (by omega)]; omega)]
    exact hfin D hE hch (fun t ht => hv' t (by omega))
  | succ k ih =>
    intro g v D hi hg hE hch hv'
    obtain ⟨g, rfl⟩ : ∃ g', g = g' + 1 := ⟨g - 1, by omega⟩
    obtain ⟨hK, -, ⟨hd, h2⟩, -, h190⟩ := id hE
    obtain ⟨k1, k2, k3, k4, k5, k6⟩ := id hK
    have i0 : ¬ ((0 : Int32) < 0 ∨ 64 ≤ (0 : Int32).toNatClampNeg) := by decide
    have i1 : ¬ (nn v < 0 ∨ nl nu 190 ≤ (nn v).toNatClampNeg) := by rw [hl190]; exact nn_in (by omega) (by omega)
    have i2 := nn_in (k := v) (n := 56) (by omega) (by omega)
    rw [f_X9_findLabels_b39, if_neg (show ¬ 26 ≤ nn v by rw [nn_l, nn_le (by omega) (by omega)]; omega), if_neg i0, k4, bS, if_pos hk190, if_neg i1, nn_nat (by omega), h190, e_shv hn hd h2 hr (hmk v (by omega)), bS]
    rw [if_neg (by rw [nn_nat (by omega)] at i2; exact i2), nn_1, tn0]
    refine ih g (v + 1) _ (by omega) (by omega) (hE.kept (Ch.sI (by unfold PlC; omega) Ch.rf)) (Ch.sI (by omega) hch) (fun t ht => ?_)
    rw [dI_s]
    by_cases e : t = v
    · rw [if_pos ⟨by omega, e⟩, e]; rfl
    · rw [if_neg (fun w => e w.2)]; exact hv' t (by omega)
def st0 (nu : Nat) (D0 : Dat) (i k : Nat) : Nat := if i = 0 ∧ k < 26 then fxD nu D0 k else 0
theorem e_labels {N nu c sz : Nat} {K : Nat → Nat} {o : Nat → Nat} {x : Nat → Int32} {hv : Nat → Option Nat} {rg : Nat → Nat → Prop} {D0 D : Dat} (hN : 100000 ≤ N) (hG : GC nu sz o x) (hS : LatS nu D0) (hmk : ∀ v, v < 52 → mkOk nu (dI D0 190 v)) (hV : HV o x sz hv) (hRg : ∀ i t, ¬ hv i = none → rg i t → ¬ hv t = none) (hE : CEn nu c sz o x hv rg D0 D) (h5 : ∀ i, i < 64 → (mm (dL D 107 5) i = true ↔ ¬ hv i = none)) : Tt (f_X9_findLabels N nu K D) (fun D' => CEn nu c sz o x hv rg D0 D' ∧ Ch PlC D D' ∧ ∃ L M, SC sz L M D' ∧ FoundC nu sz o x hv rg D0 L M) := by
  have hz := hG.1.2
  have hk114 : kd K 114 = 14 := kd_lt (by decide) rfl
  unfold f_X9_findLabels
  rw [fill_e (nu := nu) (a := 114) (n := 64) (v := 0) hk114 rfl (by omega) (show 64 < N by omega), bS]
  have c1 : Ch PlC D (sF D 114 0 64 0) := Ch.sF (fun k => by unfold PlC; omega) Ch.rf
  refine li_fill (by omega) hz (E := sF D 114 0 64 0) (fun D1 a1 a2 a3 => ?_) sz N 0 _ (by omega) (by omega) (hE.kept c1) Ch.rf (fun j k hj => absurd hj (by omega))
  refine li_vars hS.1.2 hS.rw2 hmk (E := D1) (fun D2 b1 b2 b3 => ?_) 26 N 0 D1 (by omega) (by omega) a1 Ch.rf (fun t ht => absurd ht (by omega))
  have c2 : Ch PlC D D2 := c1.tr ((a2.mono (fun a j w => by unfold PlC; omega)).tr (b2.mono (fun a j w => by unfold PlC; omega)))
  have c3 : Ch PlC D (sL D2 107 9 (dL D2 107 5)) := Ch.sL (by unfold PlC; omega) c2
  have fvs : ∀ v, v < 26 → vs nu D0 (fxD nu D0 v) := fun v hv' => vs_shv hS (hmk v (by omega))
  have hSC : SC sz (fun _ => 0) (st0 nu D0) (sL D2 107 9 (dL D2 107 5)) := fun i hi => ⟨⟨by show 0 < 64; omega, by
    rw [dI_sL, b2.i (by omega), a2.i (by omega), dI_F, if_pos ⟨rfl, by omega, by omega⟩]; rfl⟩, fun k hk => by
    rw [dI_sL]
    unfold st0
    by_cases e : i = 0 ∧ k < 26
    · rw [if_pos e, e.1]
      exact ⟨(vs_pc hS (fvs k e.2)).1, b3 k e.2⟩
    · rw [if_neg e, b2.i (fun w => e (by omega)), a3 i k hi hk]
      exact ⟨by omega, rfl⟩⟩
  have e9 : dL (sL D2 107 9 (dL D2 107 5)) 107 9 = dL D 107 5 := by rw [dL_s, if_pos ⟨rfl, rfl⟩, c2.l (by unfold PlC; omega)]
  have hI : LI nu sz o x hv rg D0 (fun _ => 0) (st0 nu D0) (dL (sL D2 107 9 (dL D2 107 5)) 107 9) := by
    refine ⟨fun i hi => ⟨vs_0 hS, fun k hk => ?_⟩, fun T U' hT hU i h hi => ⟨le_0 _, fun k hk => ?_⟩, fun v hv' => ?_, fun j h hj hm => ?_, fun j hj hm => ?_⟩
    · unfold st0
      split
      · rename_i e; exact fvs k e.2
      · exact vs_0 hS
    · unfold st0
      by_cases e : i = 0 ∧ k < 26
      · rw [if_pos e, e.1]; exact hU k e.2
      · rw [if_neg e]; exact le_0 _
    · unfold st0; rw [if_pos ⟨rfl, hv'⟩]; exact le_rf _
    · have js := (hV.2 j h hj).1
      rw [e9, (h5 j (by omega)).mpr (by rw [hj]; simp)] at hm
      exact absurd hm (by decide)
    · rw [e9] at hm
      exact (h5 j hj).mp hm
  exact lr_out (E := D) hN hG hS hmk hV hRg 18241 N 0 _ _ _ (by omega) (by omega) (Nat.zero_le _) (hE.kept c3) c3 hSC hI
