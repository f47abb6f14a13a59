/-! regions of the model: reaching -/
def RB (rb : Nat → Bool) (D : Dat) : Prop := ∀ j, j < 64 → dI D 252 j = if rb j then 1 else 0
def vf (v : Int32) : Prop := v = -1 ∨ ∃ c, c < 64 ∧ v = nn c
theorem av_eq {v : Int32} (h : vf v) {q : Nat} (hq : q < 64) : nn q = v ↔ q = av v := by
  rcases h with h | ⟨c, hc, h⟩
  · rw [show av v = 64 from if_pos h, h]
    exact ⟨fun w => absurd w (nn_nm1 (by omega)), fun w => by omega⟩
  · have ea : av v = c := by unfold av tg; rw [h, if_neg (nn_nm1 (by omega)), nn_nat (by omega)]
    rw [ea, h, nn_eq (by omega) (by omega)]
theorem rb_0 {rb : Nat → Bool} {D : Dat} (h : RB rb D) {j : Nat} (hj : j < 64) : dI D 252 j = 0 ↔ rb j = false := by
  rw [h j hj]
  cases rb j <;> simp [n10]
def ad (rb : Nat → Bool) (q p : Nat) : Nat → Bool := fun j => rb j || decide (j = q ∧ q ≠ p)
theorem re_way {N q : Nat} {z v first i w : Int32} {m : Bool} {rb : Nat → Bool} {D : Dat} {Q : Dat → Prop} (hv : vf v) (hq : q < 64) (hR : RB rb D) (r26 : Int32 → Int32 → Int32 → Int32 → Dat → Option Dat) (r37 : Int32 → Int32 → Int32 → Int32 → Int32 → Dat → Option Dat) (r72 : Int32 → Int32 → Int32 → Int32 → Int32 → Int32 → Dat → Option Dat)
    (hrec : ∀ (m' : Bool) (D' : Dat), RB (ad rb q (av v)) D' → Ch (fun a _ => a = 252) D D' → (m' = false → m = false ∧ ∀ j, j < 64 → ad rb q (av v) j = rb j) → (m' = true → m = true ∨ ∃ j, j < 64 ∧ ad rb q (av v) j = true ∧ rb j = false) → Tt (r72 z v first (wi m') i (w + 1) D') Q) :
    Tt (if nn q < 0 then (f_X12_reach_b120 N r26 r37 r72 z v first (wi m) i w D) else (if nn q = v then (f_X12_reach_b120 N r26 r37 r72 z v first (wi m) i w D) else (if nn q < 0 ∨ 64 ≤ (nn q).toNatClampNeg then none else (if (dI D 252 (nn q).toNatClampNeg) = 0 then (if nn q < 0 ∨ 64 ≤ (nn q).toNatClampNeg then none else (f_X12_reach_b120 N r26 r37 r72 z v first 1 i w (sI D 252 (nn q).toNatClampNeg ((1 : Int32) &&& 1)))) else (f_X12_reach_b120 N r26 r37 r72 z v first (wi m) i w D))))) Q := by
  have i1 := nn_in (k := q) (n := 64) (by omega) (by omega)
  have same : (q = av v ∨ rb q = true) → ad rb q (av v) = rb := fun h => by
    funext j
    unfold ad
    rcases h with h | h
    · rw [decide_eq_false (fun w => w.2 h), Bool.or_false]
    · by_cases e : j = q
      · rw [e, h]; rfl
      · rw [decide_eq_false (fun w => e w.1), Bool.or_false]
  unfold f_X12_reach_b120
  rw [if_neg (nn_nlt0 (by omega))]
  by_cases h1 : nn q = v
  · rw [if_pos h1]
    have e := same (Or.inl ((av_eq hv hq).mp h1))
    exact hrec m D (by rw [e]; exact hR) Ch.rf (fun w => ⟨w, fun j _ => by rw [e]⟩) (fun w => Or.inl w)
  · rw [if_neg h1, if_neg i1, if_neg i1, nn_nat (by omega), b1_1]
    have hne : q ≠ av v := fun w => h1 ((av_eq hv hq).mpr w)
    by_cases h2 : dI D 252 q = 0
    · rw [if_pos h2]
      have hf := (rb_0 hR hq).mp h2
      have hq1 : ad rb q (av v) q = true := by unfold ad; rw [decide_eq_true ⟨rfl, hne⟩, Bool.or_true]
      refine hrec true _ (fun j hj => ?_) (Ch.sI rfl Ch.rf) (fun w => absurd w (by decide)) (fun _ => Or.inr ⟨q, hq, hq1, hf⟩)
      rw [dI_s]
      by_cases e : j = q
      · rw [if_pos ⟨rfl, e⟩, e, hq1]; rfl
      · rw [if_neg (fun w => e w.2), hR j hj]
        unfold ad
        rw [decide_eq_false (fun w => e w.1), Bool.or_false]
    · rw [if_neg h2]
      have hf : rb q = true := by
        cases e : rb q with
        | true => rfl
        | false => exact absurd ((rb_0 hR hq).mpr e) h2
      have e := same (Or.inr hf)
      exact hrec m D (by rw [e]; exact hR) Ch.rf (fun w => ⟨w, fun j _ => by rw [e]⟩) (fun w => Or.inl w)
/-- those that an instruction adds -/
def adn (o : Nat → Nat) (x : Nat → Int32) (p i : Nat) (rb : Nat → Bool) : Nat → Bool := fun j => rb j || (isn o x i j && decide (j ≠ p))
theorem re_node {N nu sz : Nat} {o : Nat → Nat} {x : Nat → Int32} (hN : 1000 ≤ N) (hG : GC nu sz o x) {z v first : Int32} {i : Nat} {m : Bool} {rb : Nat → Bool} {D : Dat} {Q : Dat → Prop} (hK : Km sz o x D) (hi : i < sz) (hv : vf v) (hR : RB rb D) (r26 : Int32 → Int32 → Int32 → Int32 → Dat → Option Dat) (r37 : Int32 → Int32 → Int32 → Int32 → Int32 → Dat → Option Dat)
    (hrec : ∀ (m' : Bool) (D' : Dat), RB (adn o x (av v) i rb) D' → Ch (fun a _ => a = 252) D D' → (m' = false → m = false ∧ ∀ j, j < 64 → adn o x (av v) i rb j = rb j) → (m' = true → m = true ∨ ∃ j, j < 64 ∧ adn o x (av v) i rb j = true ∧ rb j = false) → Tt (r37 z v first (wi m') (nn (i + 1)) D') Q) :
    Tt (f_X12_reach_b69 N r26 r37 z v first (wi m) (nn i) D) Q := by
  have hz := hG.1.2
  obtain ⟨g, rfl⟩ : ∃ g', N = g' + 3 := ⟨N - 3, by omega⟩
  unfold f_X12_reach_b69
  -- ways behind
  have s2 : ∀ (m' : Bool) (E : Dat), f_X12_reach_b72 (g + 3) r26 r37 (g + 1) z v first (wi m') (nn i) 2 E = r37 z v first (wi m') (nn (i + 1)) E := fun m' E => by
    rw [f_X12_reach_b72, if_pos (by decide)]
    unfold f_X12_reach_b126
    rw [nn_1]
  have s1 : ∀ (m1 : Bool) (r1 : Nat → Bool) (E : Dat), RB r1 E → Ch (fun a _ => a = 252) D E → (m1 = false → m = false ∧ ∀ j, j < 64 → r1 j = rb j) → (m1 = true → m = true ∨ ∃ j, j < 64 ∧ r1 j = true ∧ rb j = false) → (∀ j, r1 j = true → adn o x (av v) i rb j = true) → (∀ j, rb j = true → r1 j = true) → ((o i ≠ 12 ∧ o i ≠ 15) → i + 1 ≠ av v → r1 (i + 1) = true) → Tt (f_X12_reach_b72 (g + 3) r26 r37 (g + 2) z v first (wi m1) (nn i) 1 E) Q := by
    intro m1 r1 E hE hch f1 f2 f3 f4 f5
    have hKE : Km sz o x E := hK.kept hch (fun a k w => by unfold RKm; omega)
    rw [f_X12_reach_b72, if_neg (by decide), e_next1 hG hKE hi, bS]
    by_cases c : o i = 11 ∨ o i = 12
    · have t := hG.tgt hi c
      simp only [c, reduceIte]
      refine re_way (N := g + 3) (m := m1) hv (show tg (x i) < 64 by omega) hE r26 r37 _ (fun m' D' a1 a2 a3 a4 => ?_)
      rw [show (1 : Int32) + 1 = 2 by decide, s2]
      have e : ∀ j, ad r1 (tg (x i)) (av v) j = adn o x (av v) i rb j := fun j => by
        rw [Bool.eq_iff_iff]
        constructor
        · intro w
          unfold ad at w
          rw [Bool.or_eq_true, decide_eq_true_iff] at w
          rcases w with w | w
          · exact f3 j w
          · unfold adn
            rw [Bool.or_eq_true, Bool.and_eq_true, isn_iff, decide_eq_true_iff]
            exact Or.inr ⟨Or.inr ⟨c, w.1⟩, by rw [w.1]; exact w.2⟩
        · intro w
          unfold adn at w
          rw [Bool.or_eq_true, Bool.and_eq_true, isn_iff, decide_eq_true_iff] at w
          unfold ad
          rw [Bool.or_eq_true, decide_eq_true_iff]
          rcases w with w | ⟨w1, w2⟩
          · exact Or.inl (f4 j w)
          · rcases w1 with ⟨y1, y2, y3⟩ | ⟨y1, y2⟩
            · rw [y3] at w2 ⊢; exact Or.inl (f5 ⟨y1, y2⟩ w2)
            · exact Or.inr ⟨y2, by rw [← y2]; exact w2⟩
      have e' : ad r1 (tg (x i)) (av v) = adn o x (av v) i rb := funext e
      rw [e'] at a1 a3 a4
      refine hrec m' D' a1 (hch.tr a2) (fun w => ⟨(f1 (a3 w).1).1, fun j hj => ?_⟩) (fun w => ?_)
      · rw [(a3 w).2 j hj, (f1 (a3 w).1).2 j hj]
      · rcases a4 w with y | ⟨j, y1, y2, y3⟩
        · rcases f2 y with u | ⟨j, u1, u2, u3⟩
          · exact Or.inl u
          · exact Or.inr ⟨j, u1, f3 j u2, u3⟩
        · refine Or.inr ⟨j, y1, y2, ?_⟩
          cases u : rb j with
          | false => rfl
          | true => rw [f4 j u] at y3; exact absurd y3 (by decide)
    · simp only [c, reduceIte]
      rw [if_pos (by decide)]
      unfold f_X12_reach_b120
      rw [show (1 : Int32) + 1 = 2 by decide, s2]
      have e' : r1 = adn o x (av v) i rb := by
        funext j
        rw [Bool.eq_iff_iff]
        refine ⟨fun w => f3 j w, fun w => ?_⟩
        unfold adn at w
        rw [Bool.or_eq_true, Bool.and_eq_true, isn_iff, decide_eq_true_iff] at w
        rcases w with w | ⟨w1, w2⟩
        · exact f4 j w
        · rcases w1 with ⟨y1, y2, y3⟩ | ⟨y1, y2⟩
          · rw [y3] at w2 ⊢; exact f5 ⟨y1, y2⟩ w2
          · exact absurd y1 c
      rw [e'] at hE f1 f2
      exact hrec m1 E hE hch f1 f2
  rw [f_X12_reach_b72, if_neg (by decide), e_next0 hG hK hi, bS]
  by_cases c : o i ≠ 12 ∧ o i ≠ 15
  · have t := hG.nxt hi c
    rw [if_pos c]
    dsimp only
    refine re_way (N := g + 3) (m := m) hv (show i + 1 < 64 by omega) hR r26 r37 _ (fun m' D' a1 a2 a3 a4 => ?_)
    rw [show (0 : Int32) + 1 = 1 by decide]
    refine s1 m' _ D' a1 a2 a3 a4 (fun j w => ?_) (fun j w => ?_) (fun _ h => ?_)
    · unfold ad at w
      rw [Bool.or_eq_true, decide_eq_true_iff] at w
      unfold adn
      rw [Bool.or_eq_true, Bool.and_eq_true, isn_iff, decide_eq_true_iff]
      rcases w with w | w
      · exact Or.inl w
      · exact Or.inr ⟨Or.inl ⟨c.1, c.2, w.1⟩, by rw [w.1]; exact w.2⟩
    · unfold ad; rw [w]; rfl
    · unfold ad; rw [decide_eq_true ⟨rfl, h⟩, Bool.or_true]
  · rw [if_neg c]
    dsimp only
    rw [if_pos (by decide)]
    unfold f_X12_reach_b120
    rw [show (0 : Int32) + 1 = 1 by decide]
    exact s1 m rb D hR Ch.rf (fun w => ⟨w, fun j _ => rfl⟩) (fun w => Or.inl w) (fun j w => by unfold adn; rw [w]; rfl) (fun j w => w) (fun w => absurd w c)
/-- one round -/
theorem re_round {N nu sz : Nat} {o : Nat → Nat} {x : Nat → Int32} (hN : 1000 ≤ N) (hG : GC nu sz o x) {z : Nat} {v : Int32} {fi : Bool} {ro : Nat → Bool} {E : Dat} {Q : Dat → Prop} (hK : Km sz o x E) (hzs : z < sz) (hv : vf v) (r26 : Int32 → Int32 → Int32 → Int32 → Dat → Option Dat)
    (hrec : ∀ (m : Bool) (rb : Nat → Bool) (D' : Dat), RB rb D' → Ch (fun a _ => a = 252) E D' → (∀ j, ro j = true → rb j = true) → (∀ j, j < 64 → rb j = true → j < sz ∧ Rc o x (av v) z j) → (m = false → ∀ j, j < 64 → rb j = ro j) → (m = true → ∃ j, j < 64 ∧ rb j = true ∧ ro j = false) → (∀ i q, i < sz → (ro i = true ∨ (fi = true ∧ i = z)) → nx o x i q → q ≠ av v → rb q = true) → Tt (r26 (nn z) v 0 (wi m) D') Q) :
    ∀ (k g i : Nat) (m : Bool) (rb : Nat → Bool) (D : Dat), i + k = sz → k < g → RB rb D → Ch (fun a _ => a = 252) E D → (∀ j, ro j = true → rb j = true) → (∀ j, j < 64 → rb j = true → j < sz ∧ Rc o x (av v) z j) → (m = false → ∀ j, j < 64 → rb j = ro j) → (m = true → ∃ j, j < 64 ∧ rb j = true ∧ ro j = false) → (∀ t q, t < i → (ro t = true ∨ (fi = true ∧ t = z)) → nx o x t q → q ≠ av v → rb q = true) → Tt (f_X12_reach_b37 N r26 g (nn z) v (wi fi) (wi m) (nn i) D) Q := by
  have hz := hG.1.2
  intro k
  induction k with
  | zero =>
    intro g i m rb D hi hg hR hch h1 h2 h3 h4 h5
    obtain ⟨g, rfl⟩ : ∃ g', g = g' + 1 := ⟨g - 1, by omega⟩
    have hs : dI D 207 13 = nn sz := (hch.i (by omega)).trans hK.2.1
    rw [f_X12_reach_b37, hs, if_pos ((nn_le (by omega) (by omega)).mpr (by omega))]
    exact hrec m rb D hR hch h1 h2 h3 h4 (fun t q ht => h5 t q (by omega))
  | succ k ih =>
    intro g i m rb D hi hg hR hch h1 h2 h3 h4 h5
    obtain ⟨g, rfl⟩ : ∃ g', g = g' + 1 := ⟨g - 1, by omega⟩
    have hs : dI D 207 13 = nn sz := (hch.i (by omega)).trans hK.2.1
    have hi' : i < sz := by omega
    have i1 := nn_in (k := i) (n := 64) (by omega) (by omega)
    rw [f_X12_reach_b37, hs, if_neg (by rw [nn_le (by omega) (by omega)]; omega), if_neg i1, nn_nat (by omega)]
    have skip : ¬ (ro i = true ∨ (fi = true ∧ i = z)) → Tt (f_X12_reach_b126 N r26 (f_X12_reach_b37 N r26 g) (nn z) v (wi fi) (wi m) (nn i) D) Q := fun c => by
      unfold f_X12_reach_b126
      rw [nn_1]
      refine ih g (i + 1) m rb D (by omega) (by omega) hR hch h1 h2 h3 h4 (fun t q ht w => ?_)
      by_cases e : t = i
      · rw [e] at w; exact absurd w c
      · exact h5 t q (by omega) w
    have walk : (rb i = true ∨ i = z) → Tt (f_X12_reach_b69 N r26 (f_X12_reach_b37 N r26 g) (nn z) v (wi fi) (wi m) (nn i) D) Q := fun c => by
      refine re_node hN hG (hK.kept hch (fun a k w => by unfold RKm; omega)) hi' hv hR r26 _ (fun m' D' a1 a2 a3 a4 => ?_)
      have up : ∀ j, rb j = true → adn o x (av v) i rb j = true := fun j w => by unfold adn; rw [w]; rfl
      refine ih g (i + 1) m' _ D' (by omega) (by omega) a1 (hch.tr a2) (fun j w => up j (h1 j w)) (fun j hj w => ?_) (fun w j hj => ?_) (fun w => ?_) (fun t q ht w y1 y2 => ?_)
      · unfold adn at w
        rw [Bool.or_eq_true, Bool.and_eq_true, isn_iff, decide_eq_true_iff] at w
        rcases w with w | ⟨w1, w2⟩
        · exact h2 j hj w
        · refine ⟨hG.nxs hi' w1, ?_⟩
          rcases c with c | c
          · exact (h2 i (by omega) c).2.snoc w1 w2
          · rw [c] at w1; exact Rc.one w1 w2
      · rw [(a3 w).2 j hj, h3 (a3 w).1 j hj]
      · rcases a4 w with y | ⟨j, y1, y2, y3⟩
        · obtain ⟨j, u1, u2, u3⟩ := h4 y
          exact ⟨j, u1, up j u2, u3⟩
        · refine ⟨j, y1, y2, ?_⟩
          cases u : ro j with
          | false => rfl
          | true => rw [h1 j u] at y3; exact absurd y3 (by decide)
      · by_cases e : t = i
        · rw [e] at y1
          unfold adn
          rw [Bool.or_eq_true, Bool.and_eq_true, isn_iff, decide_eq_true_iff]
          exact Or.inr ⟨y1, y2⟩
        · exact up q (h5 t q (by omega) w y1 y2)
    by_cases h0 : dI D 252 i = 0
    · have hf := (rb_0 hR (show i < 64 by omega)).mp h0
      have hro : ro i = false := by
        cases u : ro i with
        | false => rfl
        | true => rw [h1 i u] at hf; exact absurd hf (by decide)
      rw [if_pos h0]
      cases fi with
      | false =>
        rw [show wi false = (0 : Int32) from rfl, if_pos rfl]
        exact skip (by rw [hro]; intro w; rcases w with w | w; exact absurd w (by decide); exact absurd w.1 (by decide))
      | true =>
        rw [show wi true = (1 : Int32) from rfl, if_neg (by decide)]
        by_cases e : i = z
        · rw [if_pos (by rw [e])]
          exact walk (Or.inr e)
        · rw [if_neg (by rw [nn_eq (by omega) (by omega)]; exact e)]
          exact skip (by rw [hro]; intro w; rcases w with w | w; exact absurd w (by decide); exact e w.2)
    · rw [if_neg h0]
      refine walk (Or.inl ?_)
      cases u : rb i with
      | true => rfl
      | false => exact absurd ((rb_0 hR (show i < 64 by omega)).mpr u) h0
theorem re_l {N nu sz : Nat} {o : Nat → Nat} {x : Nat → Int32} (hN : 1000 ≤ N) (hG : GC nu sz o x) {z : Nat} {v : Int32} {E : Dat} (hK : Km sz o x E) (hzs : z < sz) (hv : vf v) : ∀ (r g : Nat) (fi : Bool) (ro : Nat → Bool) (D : Dat), 64 + 1 ≤ sm (cn1 ro) 64 0 + r → r + 1 < g → RB ro D → Ch (fun a _ => a = 252) E D → (∀ j, j < 64 → ro j = true → j < sz ∧ Rc o x (av v) z j) → (fi = false → ∀ q, nx o x z q → q ≠ av v → ro q = true) → Tt (f_X12_reach_b26 N g (nn z) v (wi fi) 1 D) (fun D' => Ch (fun a _ => a = 252) E D' ∧ ∃ rb, RB rb D' ∧ ∀ q, q < 64 → (rb q = true ↔ Rc o x (av v) z q)) := by
  have hz := hG.1.2
  intro r
  induction r with
  | zero =>
    intro g fi ro D hr
    have := (sm_full (f := cn1 ro) (fun b => by unfold cn1; split <;> simp) 64 0).1
    omega
  | succ r ih =>
    intro g fi ro D hr hg hR hch hs hb
    obtain ⟨g, rfl⟩ : ∃ g', g = g' + 1 := ⟨g - 1, by omega⟩
    rw [f_X12_reach_b26, if_neg (by decide)]
    refine re_round (ro := ro) hN hG (hK.kept hch (fun a k w => by unfold RKm; omega)) hzs hv _ (fun m rb D' a1 a2 a3 a4 a5 a6 a7 => ?_) sz N 0 false ro D (by omega) (by omega) hR Ch.rf (fun j h => h) hs (fun _ j _ => rfl) (fun w => absurd w (by decide)) (fun t q ht => absurd ht (by omega))
    have base : ∀ q, nx o x z q → q ≠ av v → rb q = true := fun q h1 h2 => by
      cases fi with
      | false => exact a3 q (hb rfl q h1 h2)
      | true => exact a7 z q hzs (Or.inr ⟨rfl, rfl⟩) h1 h2
    cases m with
    | false =>
      obtain ⟨g, rfl⟩ : ∃ g', g = g' + 1 := ⟨g - 1, by omega⟩
      rw [show wi false = (0 : Int32) from rfl, f_X12_reach_b26, if_pos rfl]
      refine ⟨D', rfl, hch.tr a2, rb, a1, fun q hq => ⟨fun w => (a4 q hq w).2, fun w => ?_⟩⟩
      refine (Rc.ind (P := fun q => q < sz ∧ rb q = true) (fun t t1 t2 => ⟨hG.nxs hzs t1, base t t1 t2⟩) (fun t q ht t1 t2 => ⟨hG.nxs ht.1 t1, a7 t q ht.1 (Or.inl ?_) t1 t2⟩) w).2
      rw [← a5 rfl t (by omega)]; exact ht.2
    | true =>
      have cnt : sm (cn1 ro) 64 0 < sm (cn1 rb) 64 0 := by
        refine (sm_lt 64 0 (fun b _ hb => ?_)).2 ?_
        · have := a3 b
          unfold cn1
          cases u : ro b <;> cases y : rb b <;> simp [u, y] at this ⊢
        · obtain ⟨j, y1, y2, y3⟩ := a6 rfl
          exact ⟨j, Nat.zero_le _, by omega, by unfold cn1; rw [y2, y3]; decide⟩
      exact ih g false rb D' (by omega) (by omega) a1 (hch.tr a2) a4 (fun _ => base)
theorem re_clear {N : Nat} {z v : Int32} {E : Dat} {Q : Dat → Prop} (hfin : ∀ D', Ch (fun a _ => a = 252) E D' → RB (fun _ => false) D' → Tt (f_X12_reach_b26 N N z v 1 1 D') Q) : ∀ (k g i : Nat) (D : Dat), i + k = 64 → k < g → Ch (fun a _ => a = 252) E D → (∀ j, j < i → dI D 252 j = 0) → Tt (f_X12_reach_b2 N g z v (nn i) D) Q := by
  intro k
  induction k with
  | zero =>
    intro g i D hi hg hch hv
    obtain ⟨g, rfl⟩ : ∃ g', g = g' + 1 := ⟨g - 1, by omega⟩
    rw [f_X12_reach_b2, if_pos (by rw [nn_l, nn_le (by omega) (by omega)]; omega)]
    exact hfin D hch (fun j hj => by rw [hv j (by omega)]; rfl)
  | succ k ih =>
    intro g i D hi hg hch hv
    obtain ⟨g, rfl⟩ : ∃ g', g = g' + 1 := ⟨g - 1, by omega⟩
    have i1 := nn_in (k := i) (n := 64) (by omega) (by omega)
    rw [f_X12_reach_b2, if_neg (by rw [nn_l, nn_le (by omega) (by omega)]; omega), if_neg i1, nn_nat (by omega), nn_1, b0_1]
    refine ih g (i + 1) _ (by omega) (by omega) (Ch.sI rfl hch) (fun j hj => ?_)
    rw [dI_s]
    by_cases e : j = i
    · rw [if_pos ⟨rfl, e⟩]
    · rw [if_neg (fun w => e w.2)]; exact hv j (by omega)
theorem e_reach {N nu sz : Nat} {o : Nat → Nat} {x : Nat → Int32} {D : Dat} (hN : 1000 ≤ N) (hG : GC nu sz o x) (hK : Km sz o x D) {z : Nat} (hzs : z < sz) {v : Int32} (hv : vf v) : Tt (f_X12_reach N (nn z) v D) (fun D' => Ch (fun a _ => a = 252) D D' ∧ ∃ rb, RB rb D' ∧ ∀ q, q < 64 → (rb q = true ↔ Rc o x (av v) z q)) := by
  refine re_clear (E := D) (fun D' a1 a2 => ?_) 64 N 0 D (by omega) (by omega) Ch.rf (fun j hj => absurd hj (by omega))
  refine Tt_mono (re_l hN hG (hK.kept a1 (fun a k w => by unfold RKm; omega)) hzs hv 65 N true _ D' (by omega) (by omega) a2 Ch.rf (fun j _ w => absurd w (by decide)) (fun w => absurd w (by decide))) (fun D'' b => ⟨a1.tr b.1, b.2⟩)
