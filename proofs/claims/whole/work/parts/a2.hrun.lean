/-! heights: the loops -/
def lo (hv : Nat → Option Nat) (lk : Nat → Bool) : Nat → Nat → Option Nat
  | 0, _ => none
  | k + 1, i => if (hv i).isSome && !lk i then some i else lo hv lk k (i + 1)
def hrun (o : Nat → Nat) (x : Nat → Int32) (sz : Nat) : Nat → (Nat → Option Nat) → (Nat → Bool) → Sum (Nat × Nat) (Nat → Option Nat)
  | 0, hv, _ => .inr hv
  | g + 1, hv, lk => match lo hv lk sz 0 with
    | none => .inr hv
    | some i => if lookF o x hv i = 0 then hrun o x sz g (lookH o x hv i) (lkU lk i) else .inl (i, lookF o x hv i)
def opn (hv : Nat → Option Nat) (lk : Nat → Bool) (j : Nat) : Prop := ¬ hv j = none ∧ lk j = false
theorem opn_b {hv : Nat → Option Nat} {lk : Nat → Bool} {j : Nat} : ((hv j).isSome && !lk j) = true ↔ opn hv lk j := by
  unfold opn
  cases hv j <;> cases lk j <;> simp
theorem lo_none {hv : Nat → Option Nat} {lk : Nat → Bool} : ∀ (k i : Nat), (∀ j, i ≤ j → j < i + k → ¬ opn hv lk j) → lo hv lk k i = none := by
  intro k
  induction k with
  | zero => intro i _; rfl
  | succ k ih =>
    intro i h
    show (if ((hv i).isSome && !lk i) = true then some i else lo hv lk k (i + 1)) = none
    rw [if_neg (fun w => h i (Nat.le_refl _) (by omega) (opn_b.mp w))]
    exact ih (i + 1) (fun j h1 h2 => h j (by omega) (by omega))
theorem lo_some {hv : Nat → Option Nat} {lk : Nat → Bool} : ∀ (k i q : Nat), i ≤ q → q < i + k → opn hv lk q → (∀ j, i ≤ j → j < q → ¬ opn hv lk j) → lo hv lk k i = some q := by
  intro k
  induction k with
  | zero => intro i q h1 h2; omega
  | succ k ih =>
    intro i q h1 h2 h3 h4
    show (if ((hv i).isSome && !lk i) = true then some i else lo hv lk k (i + 1)) = some q
    by_cases z : i = q
    · rw [z, if_pos (opn_b.mpr h3)]
    · rw [if_neg (fun w => h4 i (Nat.le_refl _) (by omega) (opn_b.mp w))]
      exact ih (i + 1) q (by omega) (by omega) h3 (fun j g1 g2 => h4 j (by omega) g2)
theorem lo_cases (hv : Nat → Option Nat) (lk : Nat → Bool) (n : Nat) : (lo hv lk n 0 = none ∧ ∀ j, j < n → ¬ opn hv lk j) ∨ ∃ q, q < n ∧ opn hv lk q ∧ (∀ j, j < q → ¬ opn hv lk j) ∧ lo hv lk n 0 = some q := by
  rcases first_bad (fun j => ¬ opn hv lk j) n with h | ⟨b, h1, h2, h3⟩
  · exact Or.inl ⟨lo_none n 0 (fun j _ hj => h j (by omega)), h⟩
  · have h2' : opn hv lk b := Classical.not_not.mp h2
    exact Or.inr ⟨b, h1, h2', h3, lo_some n 0 b (Nat.zero_le _) (by omega) h2' (fun j _ hj => h3 j hj)⟩
/-! reaching: by steps that never come to p -/
def Rn (o : Nat → Nat) (x : Nat → Int32) (p : Nat) : Nat → Nat → Nat → Prop
  | 0, z, q => nx o x z q ∧ q ≠ p
  | n + 1, z, q => ∃ r, Rn o x p n z r ∧ nx o x r q ∧ q ≠ p
def Rc (o : Nat → Nat) (x : Nat → Int32) (p z q : Nat) : Prop := ∃ n, Rn o x p n z q
def R0 (o : Nat → Nat) (x : Nat → Int32) (i : Nat) : Prop := i = 0 ∨ Rc o x 64 0 i
def LK (o : Nat → Nat) (x : Nat → Int32) (hv : Nat → Option Nat) (i : Nat) : Prop := ∃ h, hv i = some h ∧ tk (o i) ≤ h ∧ h - tk (o i) + pu (o i) ≤ 30 ∧ ((o i = 11 ∨ o i = 12) → h - tk (o i) + pu (o i) = 0) ∧ ∀ q, nx o x i q → hv q = some (h - tk (o i) + pu (o i))
def JH (o : Nat → Nat) (x : Nat → Int32) (sz : Nat) (hv : Nat → Option Nat) (lk : Nat → Bool) : Prop := hv 0 = some 0 ∧ (∀ i h, hv i = some h → i < sz ∧ h ≤ 30 ∧ R0 o x i) ∧ ∀ i, lk i = true → LK o x hv i
def HV (o : Nat → Nat) (x : Nat → Int32) (sz : Nat) (hv : Nat → Option Nat) : Prop := hv 0 = some 0 ∧ ∀ i h, hv i = some h → i < sz ∧ h ≤ 30 ∧ R0 o x i ∧ LK o x hv i
def cn1 (lk : Nat → Bool) (i : Nat) : Nat := if lk i then 1 else 0
theorem sm_up {f f' : Nat → Nat} {q : Nat} (hq : f' q = f q + 1) (h : ∀ j, j ≠ q → f' j = f j) : ∀ (k i : Nat), i ≤ q → q < i + k → sm f' k i = sm f k i + 1 := by
  intro k
  induction k with
  | zero => intro i h1 h2; omega
  | succ k ih =>
    intro i h1 h2
    show f' i + sm f' k (i + 1) = f i + sm f k (i + 1) + 1
    by_cases z : i = q
    · have : sm f' k (i + 1) = sm f k (i + 1) := sm_eq k (i + 1) (fun b g1 g2 => h b (by omega))
      rw [this, z, hq]; omega
    · rw [h i z, ih (i + 1) (by omega) (by omega)]; omega
theorem cnt_up {lk : Nat → Bool} {sz q : Nat} (hq : q < sz) (h : lk q = false) : sm (cn1 (lkU lk q)) sz 0 = sm (cn1 lk) sz 0 + 1 := by
  refine sm_up (q := q) ?_ ?_ sz 0 (Nat.zero_le _) (by omega)
  · unfold cn1 lkU; simp [h]
  · intro j hj; unfold cn1 lkU; simp [hj]
theorem cnt_all {lk : Nat → Bool} {sz : Nat} (h : sm (cn1 lk) sz 0 = sz) : ∀ j, j < sz → lk j = true := by
  intro j hj
  have := (sm_full (f := cn1 lk) (fun b => by unfold cn1; split <;> simp) sz 0).2.mp h j (Nat.zero_le _) (by omega)
  unfold cn1 at this
  by_cases z : lk j = true
  · exact z
  · rw [if_neg z] at this; exact absurd this (by decide)
theorem JH.step {nu sz : Nat} {o : Nat → Nat} {x : Nat → Int32} (hG : GC nu sz o x) {hv : Nat → Option Nat} {lk : Nat → Bool} (J : JH o x sz hv lk) {i : Nat} (hi : opn hv lk i) (hF0 : lookF o x hv i = 0) : JH o x sz (lookH o x hv i) (lkU lk i) := by
  obtain ⟨j1, j2, j3⟩ := J
  obtain ⟨k, hk⟩ : ∃ k, hv i = some k := by
    cases e : hv i with
    | none => exact absurd e hi.1
    | some k => exact ⟨k, rfl⟩
  obtain ⟨hi1, hi2, hi3⟩ := j2 i k hk
  have eg : (hv i).getD 0 = k := by rw [hk]; rfl
  have en : nh o hv i = k - tk (o i) + pu (o i) := by unfold nh; rw [eg]
  unfold lookF at hF0
  rw [eg] at hF0
  have c1 : ¬ k < tk (o i) := fun w => by rw [if_pos w] at hF0; omega
  rw [if_neg c1] at hF0
  have c2 : ¬ 30 < nh o hv i := fun w => by rw [if_pos w] at hF0; omega
  rw [if_neg c2] at hF0
  have c3 : ¬ ((o i = 11 ∨ o i = 12) ∧ nh o hv i ≠ 0) := fun w => by rw [if_pos w] at hF0; omega
  rw [if_neg c3] at hF0
  have c4 : ¬ (((o i ≠ 12 ∧ o i ≠ 15) ∧ cf hv (nh o hv i) (i + 1) = true) ∨ ((o i = 11 ∨ o i = 12) ∧ cf hv (nh o hv i) (tg (x i)) = true)) := fun w => by rw [if_pos w] at hF0; omega
  -- what has a height keeps it
  have keep : ∀ j h, hv j = some h → lookH o x hv i j = some h := fun j h hj => by
    unfold lookH
    by_cases z : isn o x i j = true
    · rw [if_pos z]
      have : ¬ cf hv (nh o hv i) j = true := fun w => by
        rcases isn_iff.mp z with ⟨z1, z2, z3⟩ | ⟨z1, z2⟩
        · exact c4 (Or.inl ⟨⟨z1, z2⟩, by rw [← z3]; exact w⟩)
        · exact c4 (Or.inr ⟨z1, by rw [← z2]; exact w⟩)
      unfold cf at this
      rw [hj] at this
      have e : h = nh o hv i := by simpa using this
      rw [e]
    · rw [if_neg z]; exact hj
  refine ⟨keep 0 0 j1, fun j h hj => ?_, fun j hj => ?_⟩
  · unfold lookH at hj
    by_cases z : isn o x i j = true
    · rw [if_pos z] at hj
      have e : nh o hv i = h := by simpa using hj
      have zn := isn_iff.mp z
      have hjs := hG.nxs hi1 zn
      refine ⟨hjs, by omega, Or.inr ?_⟩
      have hz := hG.1.2
      rcases hi3 with w | ⟨n, w⟩
      · rw [w] at zn; exact ⟨0, zn, by omega⟩
      · exact ⟨n + 1, i, w, zn, by omega⟩
    · rw [if_neg z] at hj; exact j2 j h hj
  · unfold lkU at hj
    by_cases z : j = i
    · subst z
      refine ⟨k, keep j k hk, by omega, by omega, fun w => ?_, fun q hq => ?_⟩
      · by_cases v : nh o hv j = 0
        · omega
        · exact absurd ⟨w, v⟩ c3
      · unfold lookH
        rw [if_pos (isn_iff.mpr hq), en]
    · have hj' : lk j = true := by simpa [z] using hj
      obtain ⟨h, l1, l2, l3, l4, l5⟩ := j3 j hj'
      exact ⟨h, keep j h l1, l2, l3, l4, fun q hq => keep q _ (l5 q hq)⟩
theorem hrun_J {nu sz : Nat} {o : Nat → Nat} {x : Nat → Int32} (hG : GC nu sz o x) : ∀ (r : Nat) (hv : Nat → Option Nat) (lk : Nat → Bool), JH o x sz hv lk → sm (cn1 lk) sz 0 + r = sz → ∀ hv', hrun o x sz r hv lk = .inr hv' → HV o x sz hv' := by
  intro r
  induction r with
  | zero =>
    intro hv lk J hc hv' e
    have e' : hv = hv' := by simpa [hrun] using e
    subst e'
    have al := cnt_all (lk := lk) (sz := sz) (by omega)
    exact ⟨J.1, fun i h hi => ⟨(J.2.1 i h hi).1, (J.2.1 i h hi).2.1, (J.2.1 i h hi).2.2, J.2.2 i (al i (J.2.1 i h hi).1)⟩⟩
  | succ r ih =>
    intro hv lk J hc hv' e
    rcases lo_cases hv lk sz with ⟨h1, h2⟩ | ⟨q, h1, h2, h3, h4⟩
    · have e' : hv = hv' := by simpa [hrun, h1] using e
      subst e'
      refine ⟨J.1, fun i h hi => ⟨(J.2.1 i h hi).1, (J.2.1 i h hi).2.1, (J.2.1 i h hi).2.2, J.2.2 i ?_⟩⟩
      by_cases z : lk i = true
      · exact z
      · exact absurd ⟨by rw [hi]; simp, Bool.eq_false_iff.mpr z⟩ (h2 i (J.2.1 i h hi).1)
    · rw [hrun, h4] at e
      by_cases z : lookF o x hv q = 0
      · simp only [z, reduceIte] at e
        exact ih _ _ (J.step hG h2 z) (by rw [cnt_up h1 h2.2]; omega) hv' e
      · simp only [z, reduceIte] at e
        exact absurd e (by simp)
theorem JH.bd {o : Nat → Nat} {x : Nat → Int32} {sz : Nat} {hv : Nat → Option Nat} {lk : Nat → Bool} (J : JH o x sz hv lk) : Bd hv := fun i h hi => (J.2.1 i h hi).2.1
/-- the class's loop -/
theorem hts_c {N nu c sz : Nat} {K : Nat → Nat} {o : Nat → Nat} {x : Nat → Int32} (hN : 1000 ≤ N) (hG : GC nu sz o x) : ∀ (r g k : Nat) (X : Int64) (hv : Nat → Option Nat) (lk : Nat → Bool) (D : Dat), k + r = sz → r < g → Kc c sz o x D → JH o x sz hv lk → Hc hv D → (∀ j, j < 64 → (mm X j = true ↔ lk j = true)) →
    ∃ D', Ch PhC D D' ∧ ((∃ hv', hrun o x sz r hv lk = .inr hv' ∧ f_X9_heightsFit_b27 N nu K g X (nn k) D = some (1, D') ∧ Hc hv' D') ∨ (∃ i w, hrun o x sz r hv lk = .inl (i, w) ∧ f_X9_heightsFit_b27 N nu K g X (nn k) D = some (0, D') ∧ dI D' 107 11 = nn i ∧ dI D' 107 12 = nn w)) := by
  have hz := hG.1.2
  intro r
  induction r with
  | zero =>
    intro g k X hv lk D hk hg hK J hH hX
    obtain ⟨g, rfl⟩ : ∃ g', g = g' + 1 := ⟨g - 1, by omega⟩
    obtain ⟨k1, k2, k3, k4, k5, k6⟩ := id hK
    refine ⟨D, Ch.rf, Or.inl ⟨hv, rfl, ?_, hH⟩⟩
    have h1 : nn sz ≤ nn k := (nn_le (by omega) (by omega)).mpr (by omega)
    rw [f_X9_heightsFit_b27]
    simp only [k3, bS, k1, reduceIte, f_X0_size, k5, h1, f_X9_heightsFit_b87]
  | succ r ih =>
    intro g k X hv lk D hk hg hK J hH hX
    obtain ⟨g, rfl⟩ : ∃ g', g = g' + 1 := ⟨g - 1, by omega⟩
    obtain ⟨k1, k2, k3, k4, k5, k6⟩ := id hK
    have h1 : ¬ nn sz ≤ nn k := by rw [nn_le (by omega) (by omega)]; omega
    have mo : ∀ j, j < 64 → (mm (dL D 107 5 &&& (X ^^^ (-1 : Int64))) j = true ↔ opn hv lk j) := fun j hj => by
      rw [mm_and, mm_not X hj, Bool.and_eq_true, (hH j hj).2]
      unfold opn
      refine and_congr_right (fun _ => ?_)
      have := hX j hj
      cases a : mm X j <;> cases b : lk j <;> simp [a, b] at this ⊢
    rcases lo_cases hv lk sz with ⟨g1, g2⟩ | ⟨q, g1, g2, g3, g4⟩
    · have hno : ∀ j, j < 64 → ¬ opn hv lk j := fun j hj w => by
        by_cases z : j < sz
        · exact g2 j z w
        · cases e : hv j with
          | none => exact w.1 e
          | some h => exact z (J.2.1 j h e).1
      have eX : dL D 107 5 = X := mm_ext (fun j hj => by
        have a1 := (hH j hj).2
        have a2 := hX j hj
        have a3 := hno j hj
        unfold opn at a3
        by_cases z : lk j = true
        · obtain ⟨h, l1, -⟩ := J.2.2 j z
          rw [a2.mpr z, a1.mpr (by rw [l1]; simp)]
        · have z' : lk j = false := Bool.eq_false_iff.mpr z
          have : hv j = none := Classical.not_not.mp (fun w => a3 ⟨w, z'⟩)
          rw [Bool.eq_false_iff.mpr (fun w => z (a2.mp w)), Bool.eq_false_iff.mpr (fun w => a1.mp w this)])
      refine ⟨D, Ch.rf, Or.inl ⟨hv, by rw [hrun, g1], ?_, hH⟩⟩
      rw [f_X9_heightsFit_b27]
      have h2 : lg_cmp (dL D 107 5) X = 0 := (lg_cmp_eq _ _).mpr eX
      simp only [k3, bS, k1, reduceIte, f_X0_size, k5, h1, h2, f_X9_heightsFit_b87]
    · have hq64 : q < 64 := by omega
      have hl : lst (dL D 107 5 &&& (X ^^^ (-1 : Int64))) q := ⟨hq64, (mo q hq64).mpr g2, fun j hj => Bool.eq_false_iff.mpr (fun w => g3 j hj ((mo j (by omega)).mp w))⟩
      have nX : ¬ lg_cmp (dL D 107 5) X = 0 := fun w => by
        have e := (lg_cmp_eq _ _).mp w
        have := (mo q hq64).mpr g2
        rw [e, mm_and, mm_not X hq64] at this
        cases z : mm X q <;> simp [z] at this
      obtain ⟨h, hh⟩ : ∃ h, hv q = some h := by
        cases e : hv q with
        | none => exact absurd e g2.1
        | some h => exact ⟨h, rfl⟩
      have st : f_X9_heightsFit_b27 N nu K (g + 1) X (nn k) D = (f_X9_heightFits N (nn q) D).bind (fun p12 => if p12.1 = 0 then (some (0, p12.2)) else ((f_X9_heightsFit_b27 N nu K g) (X ||| bit1 q) (nn (k + 1)) p12.2)) := by
        rw [f_X9_heightsFit_b27]
        simp only [k3, bS, k1, reduceIte, f_X0_size, k5, h1, nX, e_least hl, e_bit, nn_1]
      rcases hF (N := N) hN hG hK (show q < sz from g1) hh hH J.bd with ⟨z, D', a1, a2, a3⟩ | ⟨z, D', a1, a2, a3, a4⟩
      · have hK' : Kc c sz o x D' := hK.kept a3 (fun a j w => by unfold PhC at w; unfold RKc; omega)
        obtain ⟨D'', b1, b2⟩ := ih g (k + 1) (X ||| bit1 q) (lookH o x hv q) (lkU lk q) D' (by omega) (by omega) hK' (J.step hG g2 z) a2 (fun j hj => by
          rw [mm_or, Bool.or_eq_true, mm_bt hq64 hj, hX j hj]
          unfold lkU
          rw [Bool.or_eq_true, beq_iff_eq]
          exact or_comm)
        refine ⟨D'', a3.tr b1, ?_⟩
        have er : hrun o x sz (r + 1) hv lk = hrun o x sz r (lookH o x hv q) (lkU lk q) := by
          rw [hrun, g4]
          simp only [z, reduceIte]
        have es : f_X9_heightsFit_b27 N nu K (g + 1) X (nn k) D = f_X9_heightsFit_b27 N nu K g (X ||| bit1 q) (nn (k + 1)) D' := by
          rw [st, a1, bS]
          simp only [n10, reduceIte]
        rw [er, es]
        exact b2
      · refine ⟨D', a4, Or.inr ⟨q, lookF o x hv q, ?_, ?_, a2, a3⟩⟩
        · rw [hrun, g4]
          simp only [z, reduceIte]
        · rw [st, a1, bS]
          simp only [reduceIte]
def loI : Option Nat → Int32
  | none => -1
  | some q => nn q
theorem lo_m {N sz : Nat} {hv : Nat → Option Nat} {lk : Nat → Bool} {D : Dat} (hz : sz ≤ 64) (hs : dI D 207 13 = nn sz) (hH : Hm hv lk D) (hB : Bd hv) : ∀ (k g i : Nat), i + k = sz → k < g → f_X12_leastOpen_b2 N g (nn i) D = some (loI (lo hv lk k i), D) := by
  intro k
  induction k with
  | zero =>
    intro g i hi hg
    obtain ⟨g, rfl⟩ : ∃ g', g = g' + 1 := ⟨g - 1, by omega⟩
    rw [f_X12_leastOpen_b2, hs, if_pos ((nn_le (by omega) (by omega)).mpr (by omega))]
    rfl
  | succ k ih =>
    intro g i hi hg
    obtain ⟨g, rfl⟩ : ∃ g', g = g' + 1 := ⟨g - 1, by omega⟩
    have i1 := nn_in (k := i) (n := 64) (by omega) (by omega)
    obtain ⟨a1, a2⟩ := hH i (by omega)
    have b3 := hI_neg (v := hv i) (fun k hk => hB i k hk)
    have e : lo hv lk (k + 1) i = if ((hv i).isSome && !lk i) = true then some i else lo hv lk k (i + 1) := rfl
    rw [f_X12_leastOpen_b2, hs, if_neg (by rw [nn_le (by omega) (by omega)]; omega), if_neg i1, if_neg i1, nn_nat (by omega), a1, a2, e]
    unfold f_X12_leastOpen_b30
    rw [nn_1, ih g (i + 1) (by omega) (by omega)]
    by_cases z : hv i = none
    · rw [if_pos (b3.mpr z), z]
      simp
    · rw [if_neg (fun w => z (b3.mp w))]
      cases e2 : hv i with
      | none => exact absurd e2 z
      | some h =>
        cases lk i <;> simp [loI, n10]
theorem hts_m {N nu sz : Nat} {o : Nat → Nat} {x : Nat → Int32} (hN : 1000 ≤ N) (hG : GC nu sz o x) : ∀ (r g : Nat) (hv : Nat → Option Nat) (lk : Nat → Bool) (D : Dat), r + 1 < g → Km sz o x D → JH o x sz hv lk → sm (cn1 lk) sz 0 + r = sz → Hm hv lk D →
    ∃ D', ((∃ hv', hrun o x sz r hv lk = .inr hv' ∧ f_X12_heights_b40 N g (loI (lo hv lk sz 0)) D = some (0, D') ∧ (∀ j, j < 64 → dI D' 245 j = hI (hv' j)) ∧ Ch Pmh D D') ∨ (∃ i w, hrun o x sz r hv lk = .inl (i, w) ∧ f_X12_heights_b40 N g (loI (lo hv lk sz 0)) D = some (0, D') ∧ dI D' 207 7 = nn i ∧ dI D' 207 8 = nn w ∧ dI D' 207 0 = 2 ∧ Ch (fun a j => Pmh a j ∨ (a = 207 ∧ (j = 0 ∨ j = 7 ∨ j = 8))) D D')) := by
  have hz := hG.1.2
  have stop : ∀ g (D : Dat), f_X12_heights_b40 N (g + 1) (loI none) D = some (0, D) := fun g D => by
    rw [f_X12_heights_b40, if_pos (by decide)]
  intro r
  induction r with
  | zero =>
    intro g hv lk D hg hK J hc hH
    obtain ⟨g, rfl⟩ : ∃ g', g = g' + 1 := ⟨g - 1, by omega⟩
    have al := cnt_all (lk := lk) (sz := sz) (by omega)
    have e : lo hv lk sz 0 = none := lo_none sz 0 (fun j _ hj w => by have := al j (by omega); rw [w.2] at this; exact absurd this (by decide))
    rw [e, stop]
    exact ⟨D, Or.inl ⟨hv, rfl, rfl, fun j hj => (hH j hj).1, Ch.rf⟩⟩
  | succ r ih =>
    intro g hv lk D hg hK J hc hH
    obtain ⟨g, rfl⟩ : ∃ g', g = g' + 1 := ⟨g - 1, by omega⟩
    rcases lo_cases hv lk sz with ⟨g1, g2⟩ | ⟨q, g1, g2, g3, g4⟩
    · rw [g1, stop]
      exact ⟨D, Or.inl ⟨hv, by rw [hrun, g1], rfl, fun j hj => (hH j hj).1, Ch.rf⟩⟩
    · obtain ⟨h, hh⟩ : ∃ h, hv q = some h := by
        cases e : hv q with
        | none => exact absurd e g2.1
        | some h => exact ⟨h, rfl⟩
      obtain ⟨D', a1, a2, a3⟩ := mF (N := N) hN hG hK g1 hh hH J.bd
      have l1 : lookF o x hv q ≤ 5 := by
        unfold lookF
        repeat (first | split | omega)
      have st : f_X12_heights_b40 N (g + 1) (loI (lo hv lk sz 0)) D = if nn (lookF o x hv q) ≤ 0 then (f_X12_leastOpen N D').bind (fun p5 => (f_X12_heights_b40 N g) p5.1 p5.2) else some (0, sI (sI (sI D' 207 7 (nn q)) 207 8 (nn (lookF o x hv q))) 207 0 2) := by
        rw [g4, f_X12_heights_b40]
        show (if nn q < 0 then _ else _) = _
        rw [if_neg (nn_nlt0 (by omega))]
        show (f_X12_look N (nn q) D).bind _ = _
        rw [a1, bS]
        rfl
      by_cases z : lookF o x hv q = 0
      · have hK' : Km sz o x D' := hK.kept a2 (fun a j w => by unfold Pmh at w; unfold RKm; omega)
        have J' := J.step hG g2 z
        have hH' := a3 z
        have el : f_X12_leastOpen N D' = some (loI (lo (lookH o x hv q) (lkU lk q) sz 0), D') := lo_m (N := N) hz hK'.2.1 hH' J'.bd sz N 0 (by omega) (by omega)
        obtain ⟨D'', b⟩ := ih g (lookH o x hv q) (lkU lk q) D' (by omega) hK' J' (by rw [cnt_up g1 g2.2]; omega) hH'
        have es : f_X12_heights_b40 N (g + 1) (loI (lo hv lk sz 0)) D = f_X12_heights_b40 N g (loI (lo (lookH o x hv q) (lkU lk q) sz 0)) D' := by
          rw [st, z, if_pos (by decide), el, bS]
        have er : hrun o x sz (r + 1) hv lk = hrun o x sz r (lookH o x hv q) (lkU lk q) := by
          rw [hrun, g4]
          simp only [z, reduceIte]
        rw [er, es]
        refine ⟨D'', ?_⟩
        rcases b with ⟨hv', b1, b2, b3, b4⟩ | ⟨i, w, b1, b2, b3, b4, b5, b6⟩
        · exact Or.inl ⟨hv', b1, b2, b3, a2.tr b4⟩
        · exact Or.inr ⟨i, w, b1, b2, b3, b4, b5, (a2.mono (fun a j w => Or.inl w)).tr b6⟩
      · rw [st, if_neg (show ¬ nn (lookF o x hv q) ≤ (0 : Int32) from fun w => z (by have := (nn_le (a := lookF o x hv q) (b := 0) (by omega) (by omega)).mp w; omega))]
        refine ⟨_, Or.inr ⟨q, lookF o x hv q, ?_, rfl, ?_, ?_, ?_, ?_⟩⟩
        · rw [hrun, g4]
          simp only [z, reduceIte]
        · rw [dI_s, if_neg (by omega), dI_s, if_neg (by omega), dI_s, if_pos ⟨rfl, rfl⟩]
        · rw [dI_s, if_neg (by omega), dI_s, if_pos ⟨rfl, rfl⟩]
        · rw [dI_s, if_pos ⟨rfl, rfl⟩]
        · exact Ch.sI (by omega) (Ch.sI (by omega) (Ch.sI (by omega) (a2.mono (fun a j w => Or.inl w))))
