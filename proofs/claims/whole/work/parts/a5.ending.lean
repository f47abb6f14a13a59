/-! regions of the class: rows, and those that have a way to a HALT -/
def PrC (a j : Nat) : Prop := a = 109 ∨ a = 110 ∨ a = 111 ∨ a = 112 ∨ (a = 108 ∧ (j = 4 ∨ j = 5))
def RG (o : Nat → Nat) (x : Nat → Int32) (sz : Nat) (D : Dat) : Prop := dI D 108 4 = nn sz ∧ ∀ i, i < sz → dL D 109 i = nSs o x i
theorem find_b {N nu c sz : Nat} {o : Nat → Nat} {x : Nat → Int32} (hG : GC nu sz o x) {R : Int64} {E : Dat} {Q : Dat → Prop} (hE : Kc c sz o x E) (hE4 : dI E 108 4 = nn sz)
    (hfin : ∀ D', Ch PrC E D' → RG o x sz D' → (∀ i, i < sz → dL D' 110 i = if o i = 15 then bit1 i else -1) → (∀ j, j < 64 → (mm (dL D' 108 5) j = true ↔ (j < sz ∧ o j = 15))) → Tt ((f_X6_findEnding N D').bind (fun p30 => (f_X6_findSure N p30).bind (fun p32 => f_X6_find_b114 N N (some c) R 0 p32))) Q) :
    ∀ (k g i : Nat) (D : Dat), i + k = sz → k < g → Ch (fun a j => a = 109 ∨ a = 110 ∨ (a = 108 ∧ j = 5)) E D → (∀ j, j < i → dL D 109 j = nSs o x j ∧ dL D 110 j = if o j = 15 then bit1 j else -1) → (∀ j, j < 64 → (mm (dL D 108 5) j = true ↔ (j < i ∧ o j = 15))) → Tt (f_X6_find_b21 N g (some c) R (nn i) D) Q := by
  have hz := hG.1.2
  intro k
  induction k with
  | zero =>
    intro g i D hi hg hch hv he
    obtain ⟨g, rfl⟩ : ∃ g', g = g' + 1 := ⟨g - 1, by omega⟩
    have h4 : dI D 108 4 = nn sz := (hch.i (by omega)).trans hE4
    rw [f_X6_find_b21, h4, if_pos ((nn_le (by omega) (by omega)).mpr (by omega))]
    obtain rfl : i = sz := by omega
    exact hfin D (hch.mono (fun a j w => by unfold PrC; omega)) ⟨h4, fun j hj => (hv j hj).1⟩ (fun j hj => (hv j hj).2) he
  | succ k ih =>
    intro g i D hi hg hch hv he
    obtain ⟨g, rfl⟩ : ∃ g', g = g' + 1 := ⟨g - 1, by omega⟩
    have hi' : i < sz := by omega
    have h4 : dI D 108 4 = nn sz := (hch.i (by omega)).trans hE4
    have i1 := nn_in (k := i) (n := 64) (by omega) (by omega)
    have kk : ∀ D', Ch (fun a j => a = 109 ∨ a = 110 ∨ (a = 108 ∧ j = 5)) E D' → Kc c sz o x D' := fun D' h => hE.kept h (fun a j w => by unfold RKc; omega)
    have hK := kk D hch
    have c1 : Ch (fun a j => a = 109 ∨ a = 110 ∨ (a = 108 ∧ j = 5)) E (sL D 109 i (nSs o x i)) := Ch.sL (by omega) hch
    have c2 : ∀ v, Ch (fun a j => a = 109 ∨ a = 110 ∨ (a = 108 ∧ j = 5)) E (sL (sL D 109 i (nSs o x i)) 110 i v) := fun v => Ch.sL (by omega) c1
    have k1 := (kk _ c1)
    have k2 := fun v => (kk _ (c2 v))
    have op1 : f_X0_operation c (nn i) (sL D 109 i (nSs o x i)) = some (nn (o i), sL D 109 i (nSs o x i)) := by rw [code_op k1.2.1 k1.2.2.2.2.1 hi', (k1.2.2.2.2.2 i hi').1]
    have op2 : ∀ v, f_X0_operation c (nn i) (sL (sL D 109 i (nSs o x i)) 110 i v) = some (nn (o i), sL (sL D 109 i (nSs o x i)) 110 i v) := fun v => by rw [code_op (k2 v).2.1 (k2 v).2.2.2.2.1 hi', ((k2 v).2.2.2.2.2 i hi').1]
    have nn12 : (nn i).toNatClampNeg = i := nn_nat (by omega)
    have i1' : ¬ (nn i < 0 ∨ 64 ≤ i) := by rw [nn12] at i1; exact i1
    have st : f_X6_find_b21 N (g + 1) (some c) R (nn i) D = f_X6_find_b21 N g (some c) R (nn (i + 1)) (if o i = 15 then sL (sL (sL D 109 i (nSs o x i)) 110 i (bit1 i)) 108 5 (dL D 108 5 ||| bit1 i) else sL (sL D 109 i (nSs o x i)) 110 i (-1)) := by
      rw [f_X6_find_b21, h4, if_neg (by rw [nn_le (by omega) (by omega)]; omega), bS, if_pos hE.1, e_nexts hG hK hi', bS]
      unfold f_X6_find_b71 f_X6_find_b97
      simp only [nn12, i1', reduceIte, op1, bS, e_bit, op2, hE.1, nn_1]
      by_cases c15 : o i = 15
      · rw [if_pos (show nn (o i) = (15 : Int32) by rw [c15]; rfl), if_pos (show nn (o i) = (15 : Int32) by rw [c15]; rfl), if_pos c15, dL_s, if_neg (by omega), dL_s, if_neg (by omega)]
      · have q15 : ¬ nn (o i) = (15 : Int32) := ne_op (b := 15) (by have := hG.2.1 i; omega) (by omega) c15
        rw [if_neg q15, if_neg q15, if_neg c15]
    rw [st]
    have l9 : ∀ j, j < i + 1 → dL (if o i = 15 then sL (sL (sL D 109 i (nSs o x i)) 110 i (bit1 i)) 108 5 (dL D 108 5 ||| bit1 i) else sL (sL D 109 i (nSs o x i)) 110 i (-1)) 109 j = nSs o x j := fun j hj => by
      by_cases z : j = i
      · split
        · rw [dL_s, if_neg (by omega), dL_s, if_neg (by omega), dL_s, if_pos ⟨rfl, z⟩, z]
        · rw [dL_s, if_neg (by omega), dL_s, if_pos ⟨rfl, z⟩, z]
      · split
        · rw [dL_s, if_neg (by omega), dL_s, if_neg (by omega), dL_s, if_neg (by omega)]; exact (hv j (by omega)).1
        · rw [dL_s, if_neg (by omega), dL_s, if_neg (by omega)]; exact (hv j (by omega)).1
    have l10 : ∀ j, j < i + 1 → dL (if o i = 15 then sL (sL (sL D 109 i (nSs o x i)) 110 i (bit1 i)) 108 5 (dL D 108 5 ||| bit1 i) else sL (sL D 109 i (nSs o x i)) 110 i (-1)) 110 j = if o j = 15 then bit1 j else -1 := fun j hj => by
      by_cases z : j = i
      · subst z
        split
        · rw [dL_s, if_neg (by omega), dL_s, if_pos ⟨rfl, rfl⟩]
        · rw [dL_s, if_pos ⟨rfl, rfl⟩]
      · split
        · rw [dL_s, if_neg (by omega), dL_s, if_neg (by omega), dL_s, if_neg (by omega)]; exact (hv j (by omega)).2
        · rw [dL_s, if_neg (by omega), dL_s, if_neg (by omega)]; exact (hv j (by omega)).2
    have l5 : ∀ j, j < 64 → (mm (dL (if o i = 15 then sL (sL (sL D 109 i (nSs o x i)) 110 i (bit1 i)) 108 5 (dL D 108 5 ||| bit1 i) else sL (sL D 109 i (nSs o x i)) 110 i (-1)) 108 5) j = true ↔ (j < i + 1 ∧ o j = 15)) := fun j hj => by
      by_cases c15 : o i = 15
      · rw [if_pos c15, dL_s, if_pos ⟨rfl, rfl⟩, mm_or, Bool.or_eq_true, he j hj, mm_bt (by omega) hj]
        constructor
        · intro w
          rcases w with w | w
          · exact ⟨by omega, w.2⟩
          · rw [w]; exact ⟨by omega, c15⟩
        · intro w
          by_cases z : j = i
          · exact Or.inr z
          · exact Or.inl ⟨by omega, w.2⟩
      · rw [if_neg c15, dL_s, if_neg (by omega), dL_s, if_neg (by omega), he j hj]
        constructor
        · intro w; exact ⟨by omega, w.2⟩
        · intro w
          by_cases z : j = i
          · rw [z] at w; exact absurd w.2 c15
          · exact ⟨by omega, w.2⟩
    refine ih g (i + 1) _ (by omega) (by omega) ?_ (fun j hj => ⟨l9 j hj, l10 j hj⟩) l5
    by_cases c15 : o i = 15
    · rw [if_pos c15]; exact Ch.sL (by omega) (c2 _)
    · rw [if_neg c15]; exact c2 _
/-- how many of sz are in a set -/
def cm (sz : Nat) (e : Int64) : Nat := sm (cn1 (mm e)) sz 0
theorem cm_le (sz : Nat) (e : Int64) : cm sz e ≤ sz := (sm_full (f := cn1 (mm e)) (fun b => by unfold cn1; split <;> simp) sz 0).1
theorem cm_bit {sz i : Nat} {e : Int64} (hi : i < sz) (hz : sz ≤ 64) (h : mm e i = false) : cm sz (e ||| bit1 i) = cm sz e + 1 := by
  have key : ∀ j, j < 64 → mm (e ||| bit1 i) j = (mm e j || decide (i = j)) := fun j hj => by rw [mm_or, mm_bit i (by omega) j hj]
  have h2 : sm (cn1 (mm (e ||| bit1 i))) sz 0 = sm (cn1 (fun j => mm e j || decide (i = j))) sz 0 := sm_eq sz 0 (fun b _ hb => by unfold cn1; rw [key b (by omega)])
  unfold cm
  rw [h2]
  refine sm_up (q := i) ?_ ?_ sz 0 (Nat.zero_le _) (by omega)
  · unfold cn1; simp [h]
  · intro j hj
    unfold cn1
    have : ¬ i = j := fun w => hj w.symm
    simp [this]
/-- sound, and HALTs are in it -/
def IE (o : Nat → Nat) (x : Nat → Int32) (sz : Nat) (e : Int64) : Prop := (∀ i, i < 64 → mm e i = true → i < sz ∧ Aw o x 64 i) ∧ ∀ i, i < sz → o i = 15 → mm e i = true
theorem end_in {N nu sz : Nat} {o : Nat → Nat} {x : Nat → Int32} (hG : GC nu sz o x) {k : Nat} {e0 : Int64} {E : Dat} {Q : Dat → Prop} (rec : Int32 → Int32 → Dat → Option Dat) (hE : RG o x sz E)
    (h0 : ∀ D', Ch (fun a j => a = 108 ∧ j = 5) E D' → dL D' 108 5 = e0 → (∀ i s, i < sz → nx o x i s → mm e0 s = true → mm e0 i = true) → Tt (rec 0 (nn (k + 1)) D') Q)
    (h1 : ∀ D', Ch (fun a j => a = 108 ∧ j = 5) E D' → IE o x sz (dL D' 108 5) → cm sz e0 + 1 ≤ cm sz (dL D' 108 5) → Tt (rec 1 (nn (k + 1)) D') Q) :
    ∀ (j g : Nat) (fl : Bool) (D : Dat), j ≤ sz → j < g → Ch (fun a j => a = 108 ∧ j = 5) E D → IE o x sz (dL D 108 5) → (fl = false → dL D 108 5 = e0 ∧ ∀ i s, j ≤ i → i < sz → nx o x i s → mm e0 s = true → mm e0 i = true) → (fl = true → cm sz e0 + 1 ≤ cm sz (dL D 108 5)) → Tt (f_X6_findEnding_b25 N rec g (wi fl) (nn k) (nj j) D) Q := by
  have hz := hG.1.2
  intro j
  induction j with
  | zero =>
    intro g fl D hj hg hch hI hf ht
    obtain ⟨g, rfl⟩ : ∃ g', g = g' + 1 := ⟨g - 1, by omega⟩
    rw [f_X6_findEnding_b25, if_pos nj_0, nn_1]
    cases fl with
    | false => exact h0 D hch (hf rfl).1 (fun i s hi => (hf rfl).2 i s (Nat.zero_le _) hi)
    | true => exact h1 D hch hI (ht rfl)
  | succ j ih =>
    intro g fl D hj hg hch hI hf ht
    obtain ⟨g, rfl⟩ : ∃ g', g = g' + 1 := ⟨g - 1, by omega⟩
    have i1 := nn_in (k := j) (n := 64) (by omega) (by omega)
    have e9 : dL D 109 (nn j).toNatClampNeg = nSs o x j := by rw [nn_nat (by omega), hch.l (by omega)]; exact hE.2 j (by omega)
    rw [f_X6_findEnding_b25, nj_s, if_neg (nn_nlt0 (by omega)), e_holds _ (show j < 64 by omega), bS, if10, if_neg i1, e9]
    unfold f_X6_findEnding_b71
    rw [nj_d, e_bit, bS]
    dsimp only
    have mem : (lg_cmp (nSs o x j &&& dL D 108 5) (0 : Int64) = 0) ↔ ¬ ∃ s, nx o x j s ∧ mm (dL D 108 5) s = true := by
      rw [cmp0, mm_zero]
      constructor
      · intro w ⟨s, s1, s2⟩
        have hs := hG.nxs (show j < sz by omega) s1
        have := w s (by omega)
        rw [mm_and, (mm_nS hG (by omega) (by omega)).mpr s1, s2] at this
        exact absurd this (by decide)
      · intro w s hs
        rw [mm_and]
        by_cases z : mm (nSs o x j) s = true
        · rw [Bool.eq_false_iff.mpr (fun v => w ⟨s, (mm_nS hG (by omega) hs).mp z, v⟩), Bool.and_false]
        · rw [Bool.eq_false_iff.mpr z, Bool.false_and]
    by_cases m1 : mm (dL D 108 5) j = true
    · rw [if_pos m1]
      refine ih g fl D (by omega) (by omega) hch hI (fun w => ⟨(hf w).1, fun i s h1 h2 h3 h4 => ?_⟩) ht
      by_cases z : i = j
      · rw [z, ← (hf w).1]; exact m1
      · exact (hf w).2 i s (by omega) h2 h3 h4
    · rw [if_neg m1]
      by_cases m2 : lg_cmp (nSs o x j &&& dL D 108 5) (0 : Int64) = 0
      · rw [if_pos m2]
        refine ih g fl D (by omega) (by omega) hch hI (fun w => ⟨(hf w).1, fun i s h1 h2 h3 h4 => ?_⟩) ht
        by_cases z : i = j
        · exact absurd ⟨s, by rw [← z]; exact h3, by rw [(hf w).1]; exact h4⟩ (mem.mp m2)
        · exact (hf w).2 i s (by omega) h2 h3 h4
      · rw [if_neg m2]
        obtain ⟨s, s1, s2⟩ := Classical.not_not.mp (fun w => m2 (mem.mpr w))
        have hs := hG.nxs (show j < sz by omega) s1
        have c5 : dL (sL D 108 5 (dL D 108 5 ||| bit1 j)) 108 5 = dL D 108 5 ||| bit1 j := by rw [dL_s, if_pos ⟨rfl, rfl⟩]
        have cnt : cm sz (dL D 108 5 ||| bit1 j) = cm sz (dL D 108 5) + 1 := cm_bit (by omega) hz (Bool.eq_false_iff.mpr m1)
        have key : cm sz e0 + 1 ≤ cm sz (dL D 108 5 ||| bit1 j) := by
          cases fl with
          | false => rw [← (hf rfl).1]; omega
          | true => have := ht rfl; omega
        refine ih g true _ (by omega) (by omega) (Ch.sL ⟨rfl, rfl⟩ hch) ?_ (fun w => absurd w (by decide)) (fun _ => by rw [c5]; exact key)
        rw [c5]
        refine ⟨fun i hi hm => ?_, fun i hi h15 => ?_⟩
        · rw [mm_or, Bool.or_eq_true, mm_bt (by omega) hi] at hm
          rcases hm with hm | hm
          · exact hI.1 i hi hm
          · rw [hm]
            exact ⟨by omega, (hI.1 s (by omega) s2).2.step (by omega) s1⟩
        · rw [mm_or, hI.2 i hi h15]; rfl
/-- the ending set is right -/
def EndOk (o : Nat → Nat) (x : Nat → Int32) (sz : Nat) (e : Int64) : Prop := ∀ i, i < 64 → (mm e i = true ↔ (i < sz ∧ Aw o x 64 i))
theorem end_done {nu sz : Nat} {o : Nat → Nat} {x : Nat → Int32} (hG : GC nu sz o x) {e : Int64} (hI : IE o x sz e) (hc : ∀ i s, i < sz → nx o x i s → mm e s = true → mm e i = true) : EndOk o x sz e := by
  have key : ∀ (n i : Nat), i < sz → Awn o x 64 n i → mm e i = true := by
    intro n
    induction n with
    | zero => intro i h1 h2; exact hI.2 i h1 h2.2
    | succ n ih =>
      intro i h1 h2
      obtain ⟨-, s, s1, s2⟩ := h2
      exact hc i s h1 s1 (ih s (hG.nxs h1 s1) s2)
  exact fun i hi => ⟨fun h => hI.1 i hi h, fun ⟨h1, n, h2⟩ => key n i h1 h2⟩
theorem end_l {N nu sz : Nat} {o : Nat → Nat} {x : Nat → Int32} (hN : 1000 ≤ N) (hG : GC nu sz o x) {E : Dat} (hE : RG o x sz E) : ∀ (r g k : Nat) (D : Dat), sz + 1 ≤ cm sz (dL D 108 5) + r → r + 1 < g → k ≤ cm sz (dL D 108 5) → Ch (fun a j => a = 108 ∧ j = 5) E D → IE o x sz (dL D 108 5) → Tt (f_X6_findEnding_b4 N g 1 (nn k) D) (fun D' => Ch (fun a j => a = 108 ∧ j = 5) E D' ∧ EndOk o x sz (dL D' 108 5)) := by
  have hz := hG.1.2
  intro r
  induction r with
  | zero =>
    intro g k D hr
    have := cm_le sz (dL D 108 5)
    omega
  | succ r ih =>
    intro g k D hr hg hk hch hI
    obtain ⟨g, rfl⟩ : ∃ g', g = g' + 1 := ⟨g - 1, by omega⟩
    have hcl := cm_le sz (dL D 108 5)
    have h4 : dI D 108 4 = nn sz := (hch.i (by omega)).trans hE.1
    have hR : RG o x sz D := ⟨h4, fun i hi => (hch.l (by omega)).trans (hE.2 i hi)⟩
    rw [f_X6_findEnding_b4, h4, if_neg (by rw [nn_lt (by omega) (by omega)]; omega), if_neg (by decide)]
    refine end_in (N := N) hG (e0 := dL D 108 5) (E := D) (k := k) _ hR (fun D' a1 a2 a3 => ?_) (fun D' a1 a2 a3 => ?_) sz N false D (Nat.le_refl _) (by omega) Ch.rf hI (fun _ => ⟨rfl, fun i s h1 h2 => by omega⟩) (fun w => absurd w (by decide))
    · obtain ⟨g, rfl⟩ : ∃ g', g = g' + 1 := ⟨g - 1, by omega⟩
      rw [f_X6_findEnding_b4]
      have fin : Ch (fun a j => a = 108 ∧ j = 5) E D' ∧ EndOk o x sz (dL D' 108 5) := ⟨hch.tr a1, by rw [a2]; exact end_done hG hI a3⟩
      unfold f_X6_findEnding_b83
      split
      · exact ⟨D', rfl, fin⟩
      · exact ⟨D', by rw [if_pos rfl], fin⟩
    · exact ih g (k + 1) D' (by omega) (by omega) (by omega) (hch.tr a1) a2
theorem e_ending {N nu sz : Nat} {o : Nat → Nat} {x : Nat → Int32} {D : Dat} (hN : 1000 ≤ N) (hG : GC nu sz o x) (hE : RG o x sz D) (he : ∀ j, j < 64 → (mm (dL D 108 5) j = true ↔ (j < sz ∧ o j = 15))) : Tt (f_X6_findEnding N D) (fun D' => Ch (fun a j => a = 108 ∧ j = 5) D D' ∧ EndOk o x sz (dL D' 108 5)) := by
  have hz := hG.1.2
  exact end_l hN hG hE (sz + 1) N 0 D (by omega) (by omega) (Nat.zero_le _) Ch.rf ⟨fun i hi h => ⟨((he i hi).mp h).1, 0, by have := ((he i hi).mp h).1; omega, ((he i hi).mp h).2⟩, fun i hi h => (he i (by omega)).mpr ⟨hi, h⟩⟩
