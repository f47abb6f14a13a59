/-! labels of the class: raising -/
theorem kst_row : ∀ q, q < 64 → kst (116 + q) = 14 := by decide +kernel
theorem nst_row : ∀ q, q < 64 → nst (116 + q) = 56 := by decide +kernel
theorem kd_row {K : Nat → Nat} {q : Nat} (hq : q < 64) : kd K (115 + 1 + q) = 14 := by
  show kd K (116 + q) = 14
  exact kd_lt (by show 116 + q < 266; omega) (kst_row q hq)
theorem nl_row {nu q : Nat} (hq : q < 64) : nl nu (115 + 1 + q) = 56 := by
  show nl nu (116 + q) = 56
  unfold nl
  rw [if_neg (by omega), nst_row q hq]
theorem e_heldAt {i k : Nat} (hi : i < 64) (hk : k < 56) (D : Dat) : f_X9_heldAt (nn i) (nn k) D = some (dI D (116 + i) k, D) := by
  have i1 := nn_in (k := i) (n := 64) (by omega) (by omega)
  have i2 := nn_in (k := k) (n := 56) (by omega) (by omega)
  unfold f_X9_heldAt f_X9_heldAt_b32
  rw [if_neg (nn_nlt0 (by omega)), if_neg (show ¬ 64 ≤ nn i by rw [nn_l, nn_le (by omega) (by omega)]; omega), if_neg (nn_nlt0 (by omega)), if_neg (show ¬ 56 ≤ nn k by rw [nn_l, nn_le (by omega) (by omega)]; omega), if_neg i1, if_neg i2, nn_nat (by omega), nn_nat (by omega)]
theorem rh_l {N nu u q : Nat} {K : Nat → Nat} (hu : u ≤ 56) (hq : q < 64) (R B : Nat → Nat) (hR : ∀ k, k < 56 → R k < 64) (hB : ∀ k, k < 56 → B k < 64) : ∀ (j g k : Nat) (D : Dat), k + j = u → j < g → (∀ t, t < 56 → dI D (116 + q) t = nn (if t < k then R t ||| B t else R t)) → (∀ t, t < 56 → dI D 180 t = nn (B t)) →
    ∃ D', f_X9_raiseHeld_b10 N nu K g (nn q) (nn u) (115 + 1 + q) (nn k) D = some D' ∧ Ch (fun a j => a = 116 + q ∨ (a = 107 ∧ j = 9)) D D' ∧ (∀ t, t < 56 → dI D' (116 + q) t = nn (if t < u then R t ||| B t else R t)) ∧ ∀ t, t < 64 → (mm (dL D' 107 9) t = true ↔ (mm (dL D 107 9) t = true ∨ (t = q ∧ ∃ s, k ≤ s ∧ s < u ∧ ¬ R s ||| B s = R s))) := by
  intro j
  induction j with
  | zero =>
    intro g k D hk hg h1 h2
    obtain ⟨g, rfl⟩ : ∃ g', g = g' + 1 := ⟨g - 1, by omega⟩
    obtain rfl : k = u := by omega
    refine ⟨D, ?_, Ch.rf, h1, fun t _ => ⟨fun w => Or.inl w, fun w => ?_⟩⟩
    · rw [f_X9_raiseHeld_b10, if_pos ((nn_le (by omega) (by omega)).mpr (Nat.le_refl _))]
      rfl
    · rcases w with w | ⟨-, s, s1, s2, -⟩
      · exact w
      · omega
  | succ j ih =>
    intro g k D hk hg h1 h2
    obtain ⟨g, rfl⟩ : ∃ g', g = g' + 1 := ⟨g - 1, by omega⟩
    have hk' : k < 56 := by omega
    have i1 : ¬ (nn k < 0 ∨ nl nu (115 + 1 + q) ≤ (nn k).toNatClampNeg) := by rw [nl_row hq]; exact nn_in (by omega) (by omega)
    have i2 := nn_in (k := k) (n := 56) (by omega) (by omega)
    have v1 : dI D (115 + 1 + q) (nn k).toNatClampNeg = nn (R k) := by rw [nn_nat (by omega)]; show dI D (116 + q) k = _; rw [h1 k hk', if_neg (by omega)]
    have v2 : dI D 180 (nn k).toNatClampNeg = nn (B k) := by rw [nn_nat (by omega)]; exact h2 k hk'
    have l1 := lor64 _ (hR k hk') _ (hB k hk')
    have r1 := hR k hk'
    have st : f_X9_raiseHeld_b10 N nu K (g + 1) (nn q) (nn u) (115 + 1 + q) (nn k) D = if R k ||| B k = R k then f_X9_raiseHeld_b10 N nu K g (nn q) (nn u) (115 + 1 + q) (nn (k + 1)) D else f_X9_raiseHeld_b10 N nu K g (nn q) (nn u) (115 + 1 + q) (nn (k + 1)) (sL (sI D (116 + q) k (nn (R k ||| B k))) 107 9 (dL D 107 9 ||| bit1 q)) := by
      rw [f_X9_raiseHeld_b10, if_neg (show ¬ nn u ≤ nn k by rw [nn_le (by omega) (by omega)]; omega), if_neg (show ¬ 56 ≤ nn k by rw [nn_l, nn_le (by omega) (by omega)]; omega), if_pos (kd_row hq), if_neg i1, if_neg i2, if_neg i1, if_neg i1, v1, v2, bt_or _ r1 _ (hB k hk')]
      unfold f_X9_raiseHeld_b65
      rw [nn_1, e_bit, bS, dL_sI]
      by_cases c : R k ||| B k = R k
      · rw [if_pos (by rw [c]), if_pos c]
      · rw [if_neg (by rw [nn_eq (by omega) (by omega)]; exact c), if_neg c, nn_nat (by omega)]
    by_cases c : R k ||| B k = R k
    · rw [if_pos c] at st
      obtain ⟨D', a1, a2, a3, a4⟩ := ih g (k + 1) D (by omega) (by omega) (fun t ht => by
        rw [h1 t ht]
        by_cases e : t = k
        · rw [if_neg (by omega), if_pos (by omega), e, c]
        · by_cases e2 : t < k
          · rw [if_pos e2, if_pos (by omega)]
          · rw [if_neg e2, if_neg (by omega)]) h2
      refine ⟨D', st.trans a1, a2, a3, fun t ht => ?_⟩
      rw [a4 t ht]
      refine or_congr_right (and_congr_right (fun _ => ?_))
      constructor
      · intro ⟨s, s1, s2, s3⟩; exact ⟨s, by omega, s2, s3⟩
      · intro ⟨s, s1, s2, s3⟩
        by_cases e : s = k
        · rw [e] at s3; exact absurd c s3
        · exact ⟨s, by omega, s2, s3⟩
    · rw [if_neg c] at st
      have e1 : ∀ t, dI (sL (sI D (116 + q) k (nn (R k ||| B k))) 107 9 (dL D 107 9 ||| bit1 q)) (116 + q) t = if t = k then nn (R k ||| B k) else dI D (116 + q) t := fun t => by
        rw [dI_sL, dI_s]
        by_cases e : t = k
        · rw [if_pos ⟨rfl, e⟩, if_pos e]
        · rw [if_neg (fun w => e w.2), if_neg e]
      obtain ⟨D', a1, a2, a3, a4⟩ := ih g (k + 1) (sL (sI D (116 + q) k (nn (R k ||| B k))) 107 9 (dL D 107 9 ||| bit1 q)) (by omega) (by omega) (fun t ht => by
        rw [e1]
        by_cases e : t = k
        · rw [if_pos e, if_pos (by omega), e]
        · rw [if_neg e, h1 t ht]
          by_cases e2 : t < k
          · rw [if_pos e2, if_pos (by omega)]
          · rw [if_neg e2, if_neg (by omega)]) (fun t ht => by rw [dI_sL, dI_s, if_neg (by omega)]; exact h2 t ht)
      have cc : Ch (fun a j => a = 116 + q ∨ (a = 107 ∧ j = 9)) D (sL (sI D (116 + q) k (nn (R k ||| B k))) 107 9 (dL D 107 9 ||| bit1 q)) := Ch.sL (Or.inr ⟨rfl, rfl⟩) (Ch.sI (Or.inl rfl) Ch.rf)
      refine ⟨D', st.trans a1, cc.tr a2, a3, fun t ht => ?_⟩
      rw [a4 t ht, dL_s, if_pos ⟨rfl, rfl⟩, mm_or, Bool.or_eq_true, mm_bt hq ht]
      constructor
      · intro w
        rcases w with (w | w) | ⟨w, s, s1, s2, s3⟩
        · exact Or.inl w
        · exact Or.inr ⟨w, k, Nat.le_refl _, by omega, c⟩
        · exact Or.inr ⟨w, s, by omega, s2, s3⟩
      · intro w
        rcases w with w | ⟨w, -⟩
        · exact Or.inl (Or.inl w)
        · exact Or.inl (Or.inr w)
theorem e_raiseHeld {N nu u q : Nat} {K : Nat → Nat} {D : Dat} (hN : 1000 ≤ N) (hu : u ≤ 56) (hq : q < 64) (R B : Nat → Nat) (hR : ∀ k, k < 56 → R k < 64) (hB : ∀ k, k < 56 → B k < 64) (h1 : ∀ t, t < 56 → dI D (116 + q) t = nn (R t)) (h2 : ∀ t, t < 56 → dI D 180 t = nn (B t)) :
    ∃ D', f_X9_raiseHeld N nu K (nn q) (nn u) D = some D' ∧ Ch (fun a j => a = 116 + q ∨ (a = 107 ∧ j = 9)) D D' ∧ (∀ t, t < 56 → dI D' (116 + q) t = nn (if t < u then R t ||| B t else R t)) ∧ ∀ t, t < 64 → (mm (dL D' 107 9) t = true ↔ (mm (dL D 107 9) t = true ∨ (t = q ∧ ∃ s, s < u ∧ ¬ R s ||| B s = R s))) := by
  have i1 := nn_in (k := q) (n := 64) (by omega) (by omega)
  obtain ⟨D', a1, a2, a3, a4⟩ := rh_l (N := N) (nu := nu) (K := K) hu hq R B hR hB u N 0 D (by omega) (by omega) (fun t ht => by rw [if_neg (by omega)]; exact h1 t ht) h2
  refine ⟨D', ?_, a2, a3, fun t ht => ?_⟩
  · unfold f_X9_raiseHeld
    rw [if_neg i1, nn_nat (by omega)]
    exact a1
  · rw [a4 t ht]
    exact or_congr_right (and_congr_right (fun _ => ⟨fun ⟨s, _, s2⟩ => ⟨s, s2⟩, fun ⟨s, s2⟩ => ⟨s, Nat.zero_le _, s2⟩⟩))
/-- over a set of at most two -/
theorem rh_set {N nu u sz : Nat} {K : Nat → Nat} (hN : 1000 ≤ N) (hu : u ≤ 56) (B : Nat → Nat) (hB : ∀ k, k < 56 → B k < 64) : ∀ (m k g : Nat) (S : Int64) (M : Nat → Nat → Nat) (D : Dat), k + m = 2 → m < g → Cn m S → (∀ q, q < 64 → mm S q = true → q < sz) → sz ≤ 64 → (∀ i t, i < sz → t < 56 → M i t < 64 ∧ dI D (116 + i) t = nn (M i t)) → (∀ t, t < 56 → dI D 180 t = nn (B t)) →
    ∃ D', f_X9_goOver_b191 N nu K g (nn u) S (nn k) D = some D' ∧ Ch (fun a j => (116 ≤ a ∧ a ≤ 179) ∨ (a = 107 ∧ j = 9)) D D' ∧ (∀ i t, i < sz → t < 56 → dI D' (116 + i) t = nn (if mm S i = true ∧ t < u then M i t ||| B t else M i t)) ∧ ∀ t, t < 64 → (mm (dL D' 107 9) t = true ↔ (mm (dL D 107 9) t = true ∨ (mm S t = true ∧ ∃ s, s < u ∧ ¬ M t s ||| B s = M t s))) := by
  intro m
  induction m with
  | zero =>
    intro k g S M D hk hg hS hSz hz hM hBD
    obtain ⟨g, rfl⟩ : ∃ g', g = g' + 1 := ⟨g - 1, by omega⟩
    obtain rfl : S = 0 := hS
    refine ⟨D, ?_, Ch.rf, fun i t hi ht => ?_, fun t _ => ⟨fun w => Or.inl w, fun w => ?_⟩⟩
    · rw [f_X9_goOver_b191, if_pos (by rw [nn_l, nn_le (by omega) (by omega)]; omega)]
      rfl
    · rw [mm_0, if_neg (fun w => absurd w.1 (by decide))]; exact (hM i t hi ht).2
    · rcases w with w | w
      · exact w
      · rw [mm_0] at w; exact absurd w.1 (by decide)
  | succ m ih =>
    intro k g S M D hk hg hS hSz hz hM hBD
    obtain ⟨g, rfl⟩ : ∃ g', g = g' + 1 := ⟨g - 1, by omega⟩
    have hk2 : ¬ 2 ≤ nn k := by rw [nn_l, nn_le (by omega) (by omega)]; omega
    by_cases h0 : S = 0
    · subst h0
      refine ⟨D, ?_, Ch.rf, fun i t hi ht => ?_, fun t _ => ⟨fun w => Or.inl w, fun w => ?_⟩⟩
      · rw [f_X9_goOver_b191, if_neg hk2, if_pos ((cmp0 0).mpr rfl)]
        rfl
      · rw [mm_0, if_neg (fun w => absurd w.1 (by decide))]; exact (hM i t hi ht).2
      · rcases w with w | w
        · exact w
        · rw [mm_0] at w; exact absurd w.1 (by decide)
    · obtain ⟨q, hq⟩ := has_lst h0
      have hS' : Cn m (S &&& (S - 1)) := (hS.resolve_left h0) q hq
      have hq64 := hq.1
      have hqs := hSz q hq64 hq.2.1
      obtain ⟨D1, a1, a2, a3, a4⟩ := e_raiseHeld (N := N) (nu := nu) (K := K) (D := D) hN hu hq64 (M q) B (fun t ht => (hM q t hqs ht).1) hB (fun t ht => (hM q t hqs ht).2) hBD
      have mem : ∀ j, j < 64 → (mm (S &&& (S - 1)) j = true ↔ (mm S j = true ∧ j ≠ q)) := fun j hj => by rw [mm_rest hq hj, Bool.and_eq_true, decide_eq_true_iff]
      obtain ⟨D', b1, b2, b3, b4⟩ := ih (k + 1) g (S &&& (S - 1)) (fun i t => if i = q ∧ t < u then M i t ||| B t else M i t) D1 (by omega) (by omega) hS' (fun j hj hm => hSz j hj ((mem j hj).mp hm).1) hz (fun i t hi ht => by
        by_cases e : i = q
        · rw [e, a3 t ht]
          by_cases e2 : t < u
          · rw [if_pos e2, if_pos ⟨rfl, e2⟩]; exact ⟨lor64 _ (hM q t hqs ht).1 _ (hB t ht), rfl⟩
          · rw [if_neg e2, if_neg (fun w => e2 w.2)]; exact ⟨(hM q t hqs ht).1, rfl⟩
        · rw [a2.i (by omega), if_neg (fun w => e w.1)]; exact hM i t hi ht) (fun t ht => by rw [a2.i (by omega)]; exact hBD t ht)
      refine ⟨D', ?_, (a2.mono (fun a j w => by omega)).tr b2, fun i t hi ht => ?_, fun t ht => ?_⟩
      · rw [f_X9_goOver_b191, if_neg hk2, if_neg (fun w => h0 ((cmp0 S).mp w)), e_least hq, bS]
        dsimp only
        rw [a1, bS, nn_1]
        exact b1
      · rw [b3 i t hi ht]
        by_cases e : i = q
        · have n1 : ¬ (mm (S &&& (S - 1)) i = true ∧ t < u) := fun w => ((mem i (by omega)).mp w.1).2 e
          rw [if_neg n1, e]
          by_cases e2 : t < u
          · rw [if_pos ⟨rfl, e2⟩, if_pos ⟨hq.2.1, e2⟩]
          · rw [if_neg (fun w => e2 w.2), if_neg (fun w => e2 w.2)]
        · rw [if_neg (c := i = q ∧ t < u) (fun w => e w.1)]
          by_cases e2 : mm S i = true ∧ t < u
          · rw [if_pos e2, if_pos ⟨(mem i (by omega)).mpr ⟨e2.1, e⟩, e2.2⟩]
          · rw [if_neg e2, if_neg (fun w => e2 ⟨((mem i (by omega)).mp w.1).1, w.2⟩)]
      · rw [b4 t ht, a4 t ht]
        constructor
        · intro w
          rcases w with (w | ⟨w, s, s1, s2⟩) | ⟨w, s, s1, s2⟩
          · exact Or.inl w
          · rw [w]; exact Or.inr ⟨hq.2.1, s, s1, s2⟩
          · have := (mem t ht).mp w
            rw [if_neg (fun v => this.2 v.1)] at s2
            exact Or.inr ⟨this.1, s, s1, s2⟩
        · intro w
          rcases w with w | ⟨w, s, s1, s2⟩
          · exact Or.inl (Or.inl w)
          · by_cases e : t = q
            · rw [e] at s2; exact Or.inl (Or.inr ⟨e, s, s1, s2⟩)
            · exact Or.inr ⟨(mem t ht).mpr ⟨w, e⟩, s, s1, by rw [if_neg (fun v => e v.1)]; exact s2⟩
/-- levels -/
theorem rl_l {N c sz i s : Nat} {o : Nat → Nat} {x : Nat → Int32} (hs : s < 64) (hi : i < sz) (L : Nat → Nat) : ∀ (k g q : Nat) (D : Dat), q + k = sz → k < g → Kc c sz o x D → dI D 108 4 = nn sz → (∀ t, t < sz → L t < 64 ∧ dI D 114 t = nn (if t < q ∧ mm (dL D 112 i) t = true then L t ||| s else L t)) →
    ∃ D', f_X9_raiseLevels_b2 N g (nn i) (nn s) (nn q) D = some D' ∧ Ch (fun a j => a = 114 ∨ (a = 107 ∧ j = 9)) D D' ∧ (∀ t, t < sz → dI D' 114 t = nn (if mm (dL D 112 i) t = true then L t ||| s else L t)) ∧ ∀ t, t < 64 → (mm (dL D' 107 9) t = true ↔ (mm (dL D 107 9) t = true ∨ (q ≤ t ∧ t < sz ∧ mm (dL D 112 i) t = true ∧ ¬ L t ||| s = L t))) := by
  intro k
  induction k with
  | zero =>
    intro g q D hq hg hK h4 hL
    obtain ⟨g, rfl⟩ : ∃ g', g = g' + 1 := ⟨g - 1, by omega⟩
    obtain ⟨k1, k2, k3, k4, k5, k6⟩ := hK
    have h1 : nn sz ≤ nn q := (nn_le (by omega) (by omega)).mpr (by omega)
    refine ⟨D, ?_, Ch.rf, fun t ht => ?_, fun t _ => ⟨fun w => Or.inl w, fun w => ?_⟩⟩
    · rw [f_X9_raiseLevels_b2]
      simp only [k3, bS, k1, reduceIte, f_X0_size, k5, h1]
    · rw [(hL t ht).2]
      by_cases e : mm (dL D 112 i) t = true
      · rw [if_pos ⟨by omega, e⟩, if_pos e]
      · rw [if_neg (fun w => e w.2), if_neg e]
    · rcases w with w | w
      · exact w
      · omega
  | succ k ih =>
    intro g q D hq hg hK h4 hL
    obtain ⟨g, rfl⟩ : ∃ g', g = g' + 1 := ⟨g - 1, by omega⟩
    obtain ⟨k1, k2, k3, k4, k5, k6⟩ := id hK
    have h1 : ¬ nn sz ≤ nn q := by rw [nn_le (by omega) (by omega)]; omega
    have hq' : q < sz := by omega
    have i1 := nn_in (k := q) (n := 64) (by omega) (by omega)
    have i2 := nn_in (k := i) (n := 64) (by omega) (by omega)
    have n1 : (nn q).toNatClampNeg = q := nn_nat (by omega)
    have n2 : (nn i).toNatClampNeg = i := nn_nat (by omega)
    have vq : dI D 114 q = nn (L q) := by rw [(hL q hq').2, if_neg (fun w => by omega)]
    have lq := (hL q hq').1
    have ins : f_X6_isInside (nn i) (nn q) D = some (if mm (dL D 112 i) q then 1 else 0, D) := by
      unfold f_X6_isInside f_X6_isInside_b29 f_X6_isInside_b30
      rw [if_neg (nn_nlt0 (by omega)), h4, if_neg (show ¬ nn sz ≤ nn i by rw [nn_le (by omega) (by omega)]; omega), if_neg i2, n2, e_holds _ (show q < 64 by omega), bS, if10, if_pos b1_1, if_pos b0_1]
      split <;> rfl
    have st : f_X9_raiseLevels_b2 N (g + 1) (nn i) (nn s) (nn q) D = if mm (dL D 112 i) q = true ∧ ¬ L q ||| s = L q then f_X9_raiseLevels_b2 N g (nn i) (nn s) (nn (q + 1)) (sL (sI D 114 q (nn (L q ||| s))) 107 9 (dL D 107 9 ||| bit1 q)) else f_X9_raiseLevels_b2 N g (nn i) (nn s) (nn (q + 1)) D := by
      rw [f_X9_raiseLevels_b2]
      unfold f_X9_raiseLevels_b67
      simp only [k3, bS, k1, reduceIte, f_X0_size, k5, h1, i1, ins, e_bit, if10, dL_sI]
      rw [n1, vq, bt_or _ lq _ hs, nn_1]
      by_cases m : mm (dL D 112 i) q = true
      · rw [if_pos m]
        by_cases e : L q ||| s = L q
        · rw [if_pos (by rw [e]), if_neg (fun w => w.2 e)]
        · rw [if_neg (by rw [nn_eq (by have := lor64 _ lq _ hs; omega) (by omega)]; exact e), if_pos ⟨m, e⟩]
      · rw [if_neg m, if_neg (fun w => m w.1)]
    by_cases c : mm (dL D 112 i) q = true ∧ ¬ L q ||| s = L q
    · rw [if_pos c] at st
      have cc : Ch (fun a j => a = 114 ∨ (a = 107 ∧ j = 9)) D (sL (sI D 114 q (nn (L q ||| s))) 107 9 (dL D 107 9 ||| bit1 q)) := Ch.sL (Or.inr ⟨rfl, rfl⟩) (Ch.sI (Or.inl rfl) Ch.rf)
      have e12 : dL (sL (sI D 114 q (nn (L q ||| s))) 107 9 (dL D 107 9 ||| bit1 q)) 112 i = dL D 112 i := cc.l (by omega)
      obtain ⟨D', a1, a2, a3, a4⟩ := ih g (q + 1) _ (by omega) (by omega) (hK.kept cc (fun a j w => by unfold RKc; omega)) ((cc.i (by omega)).trans h4) (fun t ht => ⟨(hL t ht).1, by
        rw [e12, dI_sL, dI_s]
        by_cases e : t = q
        · rw [if_pos ⟨rfl, e⟩, if_pos ⟨by omega, by rw [e]; exact c.1⟩, e]
        · rw [if_neg (fun w => e w.2), (hL t ht).2]
          by_cases e2 : t < q ∧ mm (dL D 112 i) t = true
          · rw [if_pos e2, if_pos ⟨by omega, e2.2⟩]
          · rw [if_neg e2, if_neg (fun w => e2 ⟨by omega, w.2⟩)]⟩)
      refine ⟨D', st.trans a1, cc.tr a2, fun t ht => by rw [a3 t ht, e12], fun t ht => ?_⟩
      rw [a4 t ht, e12, dL_s, if_pos ⟨rfl, rfl⟩, mm_or, Bool.or_eq_true, mm_bt (by omega) ht]
      constructor
      · intro w
        rcases w with (w | w) | w
        · exact Or.inl w
        · rw [w]; exact Or.inr ⟨Nat.le_refl _, hq', c⟩
        · exact Or.inr ⟨by omega, w.2⟩
      · intro w
        rcases w with w | ⟨w1, w2⟩
        · exact Or.inl (Or.inl w)
        · by_cases e : t = q
          · exact Or.inl (Or.inr e)
          · exact Or.inr ⟨by omega, w2⟩
    · rw [if_neg c] at st
      obtain ⟨D', a1, a2, a3, a4⟩ := ih g (q + 1) D (by omega) (by omega) hK h4 (fun t ht => ⟨(hL t ht).1, by
        rw [(hL t ht).2]
        by_cases e : t = q
        · rw [if_neg (fun w => by omega)]
          by_cases e2 : mm (dL D 112 i) t = true
          · rw [if_pos ⟨by omega, e2⟩]
            rw [e] at e2 ⊢
            rw [Classical.not_not.mp (fun w => c ⟨e2, w⟩)]
          · rw [if_neg (fun w => e2 w.2)]
        · by_cases e2 : t < q ∧ mm (dL D 112 i) t = true
          · rw [if_pos e2, if_pos ⟨by omega, e2.2⟩]
          · rw [if_neg e2, if_neg (fun w => e2 ⟨by omega, w.2⟩)]⟩)
      refine ⟨D', st.trans a1, a2, a3, fun t ht => ?_⟩
      rw [a4 t ht]
      constructor
      · intro w
        rcases w with w | w
        · exact Or.inl w
        · exact Or.inr ⟨by omega, w.2⟩
      · intro w
        rcases w with w | ⟨w1, w2, w3⟩
        · exact Or.inl w
        · by_cases e : t = q
          · rw [e] at w3; exact absurd w3 c
          · exact Or.inr ⟨by omega, w2, w3⟩
