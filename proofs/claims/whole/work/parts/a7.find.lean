/-! regions of the class: next and inside -/
theorem fs_min {p : Nat → Bool} : ∀ (k i : Nat), (fs p k i = -1 ∧ ∀ c, i ≤ c → c < i + k → p c = false) ∨ ∃ c, i ≤ c ∧ c < i + k ∧ p c = true ∧ fs p k i = nn c ∧ ∀ d, i ≤ d → d < c → p d = false := by
  intro k
  induction k with
  | zero => intro i; exact Or.inl ⟨rfl, fun c h1 h2 => absurd h2 (by omega)⟩
  | succ k ih =>
    intro i
    by_cases q : p i = true
    · exact Or.inr ⟨i, Nat.le_refl _, by omega, q, if_pos q, fun d h1 h2 => by omega⟩
    · have e : fs p (k + 1) i = fs p k (i + 1) := if_neg q
      rw [e]
      rcases ih (i + 1) with ⟨h1, h2⟩ | ⟨c, h1, h2, h3, h4, h5⟩
      · refine Or.inl ⟨h1, fun c g1 g2 => ?_⟩
        by_cases z : c = i
        · rw [z]; exact Bool.eq_false_iff.mpr q
        · exact h2 c (by omega) (by omega)
      · refine Or.inr ⟨c, by omega, by omega, h3, h4, fun d g1 g2 => ?_⟩
        by_cases z : d = i
        · rw [z]; exact Bool.eq_false_iff.mpr q
        · exact h5 d (by omega) g2
def HW (o : Nat → Nat) (x : Nat → Int32) (i : Nat) : Prop := ∃ s, nx o x i s ∧ Aw o x 64 s
def Sel (o : Nat → Nat) (x : Nat → Int32) (i c : Nat) : Prop := Cw o x i c ∧ ∀ q, Cw o x i q → ¬ Aw o x q c
/-- v is NEXT of i -/
def NX (o : Nat → Nat) (x : Nat → Int32) (sz i : Nat) (v : Int32) : Prop := (v = -1 ∧ (¬ HW o x i ∨ ∀ c, c < sz → ¬ Sel o x i c)) ∨ ∃ c, c < sz ∧ v = nn c ∧ HW o x i ∧ Sel o x i c ∧ ∀ d, d < c → ¬ Sel o x i d
theorem NX.uniq {o : Nat → Nat} {x : Nat → Int32} {sz i : Nat} {v w : Int32} (h : NX o x sz i v) (g : NX o x sz i w) : v = w := by
  rcases h with ⟨h1, h2⟩ | ⟨c, c1, c2, c3, c4, c5⟩ <;> rcases g with ⟨g1, g2⟩ | ⟨d, d1, d2, d3, d4, d5⟩
  · rw [h1, g1]
  · rcases h2 with h2 | h2
    · exact absurd d3 h2
    · exact absurd d4 (h2 d d1)
  · rcases g2 with g2 | g2
    · exact absurd c3 g2
    · exact absurd c4 (g2 c c1)
  · rcases Nat.lt_trichotomy c d with q | q | q
    · exact absurd c4 (d5 c q)
    · rw [c2, d2, q]
    · exact absurd d4 (c5 d q)
theorem Aw.w {nu sz : Nat} {o : Nat → Nat} {x : Nat → Int32} (hG : GC nu sz o x) {p y : Nat} (hy : y < sz) (h : Aw o x p y) : Aw o x 64 y := by
  have hz := hG.1.2
  obtain ⟨n, h⟩ := h
  have : ∀ (n y : Nat), y < sz → Awn o x p n y → Aw o x 64 y := by
    intro n
    induction n with
    | zero => intro y hy hA; exact ⟨0, by omega, hA.2⟩
    | succ n ih =>
      intro y hy hA
      obtain ⟨-, t, t1, t2⟩ := hA
      exact (ih t (hG.nxs hy t1) t2).step (by omega) t1
  exact this n y hy h
/-- where there is a way, what is on each way is an instruction -/
theorem Cw.lt {nu sz : Nat} {o : Nat → Nat} {x : Nat → Int32} (hG : GC nu sz o x) {i q : Nat} (hi : i < sz) (hW : HW o x i) (h : Cw o x i q) : q < sz := by
  by_cases z : q < sz
  · exact z
  · exfalso
    obtain ⟨s, s1, n, s2⟩ := hW
    apply h.2
    refine ⟨s, s1, n, ?_⟩
    have : ∀ (n y : Nat), y < sz → Awn o x 64 n y → Awn o x q n y := by
      intro n
      induction n with
      | zero => intro y hy hA; exact ⟨by omega, hA.2⟩
      | succ n ih =>
        intro y hy hA
        obtain ⟨-, t, t1, t2⟩ := hA
        exact ⟨by omega, t, t1, ih t (hG.nxs hy t1) t2⟩
    exact this n s (hG.nxs hi s1) s2
def selb (C : Int64) (D : Dat) (c : Nat) : Bool := mm C c && decide (lg_cmp (C &&& (dL D 110 c ^^^ (-1 : Int64))) (0 : Int64) = 0)
theorem fn_l {N sz : Nat} {C : Int64} {D : Dat} (hz : sz ≤ 64) (h4 : dI D 108 4 = nn sz) : ∀ (k g c : Nat), c + k = sz → k < g → f_X6_findNext_b36 N g C (nn c) D = some (fs (selb C D) k c, D) := by
  intro k
  induction k with
  | zero =>
    intro g c hc hg
    obtain ⟨g, rfl⟩ : ∃ g', g = g' + 1 := ⟨g - 1, by omega⟩
    rw [f_X6_findNext_b36, h4, if_pos ((nn_le (by omega) (by omega)).mpr (by omega))]
    rfl
  | succ k ih =>
    intro g c hc hg
    obtain ⟨g, rfl⟩ : ∃ g', g = g' + 1 := ⟨g - 1, by omega⟩
    have i1 := nn_in (k := c) (n := 64) (by omega) (by omega)
    have e : fs (selb C D) (k + 1) c = if selb C D c = true then nn c else fs (selb C D) k (c + 1) := rfl
    rw [f_X6_findNext_b36, h4, if_neg (by rw [nn_le (by omega) (by omega)]; omega), e_holds C (show c < 64 by omega), bS, if10, if_neg i1, nn_nat (by omega), e]
    unfold f_X6_findNext_b75 selb
    rw [nn_1, ih g (c + 1) (by omega) (by omega)]
    dsimp only
    by_cases m1 : mm C c = true
    · rw [if_pos m1, m1]
      by_cases m2 : lg_cmp (C &&& (dL D 110 c ^^^ (-1 : Int64))) (0 : Int64) = 0
      · rw [if_pos m2, decide_eq_true m2]; rfl
      · rw [if_neg m2, decide_eq_false m2]; rfl
    · rw [if_neg m1, Bool.eq_false_iff.mpr m1]; rfl
theorem e_findNext {N nu sz : Nat} {o : Nat → Nat} {x : Nat → Int32} {D : Dat} (hN : 1000 ≤ N) (hG : GC nu sz o x) (hR : RG o x sz D) (he : EndOk o x sz (dL D 108 5)) (hu : SureOk o x sz (dL D 110)) {i : Nat} (hi : i < sz) : ∃ v, f_X6_findNext N (nn i) D = some (v, D) ∧ NX o x sz i v := by
  have hz := hG.1.2
  have i1 := nn_in (k := i) (n := 64) (by omega) (by omega)
  have mem : (lg_cmp (nSs o x i &&& dL D 108 5) (0 : Int64) = 0) ↔ ¬ HW o x i := by
    rw [cmp0, mm_zero]
    constructor
    · intro w ⟨s, s1, s2⟩
      have hs := hG.nxs hi s1
      have := w s (by omega)
      rw [mm_and, (mm_nS hG hi (by omega)).mpr s1, (he s (by omega)).mpr ⟨hs, s2⟩] at this
      exact absurd this (by decide)
    · intro w s hs
      rw [mm_and]
      by_cases z : mm (nSs o x i) s = true
      · rw [Bool.eq_false_iff.mpr (fun v => w ⟨s, (mm_nS hG hi hs).mp z, ((he s hs).mp v).2⟩), Bool.and_false]
      · rw [Bool.eq_false_iff.mpr z, Bool.false_and]
  unfold f_X6_findNext
  rw [if_neg i1, nn_nat (by omega), hR.2 i hi]
  by_cases m : lg_cmp (nSs o x i &&& dL D 108 5) (0 : Int64) = 0
  · rw [if_pos m]
    exact ⟨-1, rfl, Or.inl ⟨rfl, Or.inl (mem.mp m)⟩⟩
  · rw [if_neg m]
    have hW : HW o x i := Classical.not_not.mp (fun w => m (mem.mpr w))
    obtain ⟨B, b1, b2⟩ := e_behind (N := N) hN hG hR hi
    rw [b1, bS, e_bit, bS]
    have hC : ∀ p, p < 64 → (mm (B &&& (bit1 i ^^^ (-1 : Int64))) p = true ↔ Cw o x i p) := fun p hp => by
      rw [mm_and, mm_not _ hp, Bool.and_eq_true, b2 p hp]
      have e2 : ((!mm (bit1 i) p) = true) ↔ p ≠ i := by
        rw [Bool.not_eq_true', ← Bool.not_eq_true, mm_bt (by omega) hp]
      rw [e2]
      constructor
      · intro ⟨w1, w2⟩
        refine ⟨w2, fun ⟨s, s1, s2⟩ => ?_⟩
        have hs := hG.nxs hi s1
        exact (hu s p hs hp).mp (w1 s s1 ((he s (by omega)).mpr ⟨hs, s2.w hG hs⟩)) s2
      · intro ⟨w1, w2⟩
        refine ⟨fun s s1 s2 => ?_, w1⟩
        exact (hu s p (hG.nxs hi s1) hp).mpr (fun v => w2 ⟨s, s1, v⟩)
    generalize hCC : B &&& (bit1 i ^^^ (-1 : Int64)) = C at hC
    have hsel : ∀ c, c < sz → (selb C D c = true ↔ Sel o x i c) := fun c hc => by
      unfold selb Sel
      rw [Bool.and_eq_true, hC c (by omega), decide_eq_true_iff, cmp0, mm_zero]
      refine and_congr_right (fun _ => ?_)
      constructor
      · intro w q hq
        have hq' := hq.lt hG hi hW
        have := w q (by omega)
        rw [mm_and, (hC q (by omega)).mpr hq, mm_not _ (by omega), Bool.true_and] at this
        have : mm (dL D 110 c) q = true := by simpa using this
        exact (hu c q hc (by omega)).mp this
      · intro w q hq
        rw [mm_and, mm_not _ hq]
        by_cases z : mm C q = true
        · rw [(hu c q hc hq).mpr (w q ((hC q hq).mp z))]; simp
        · rw [Bool.eq_false_iff.mpr z, Bool.false_and]
    refine ⟨fs (selb C D) sz 0, fn_l (N := N) hz hR.1 sz N 0 (by omega) (by omega), ?_⟩
    rcases fs_min (p := selb C D) sz 0 with ⟨h1, h2⟩ | ⟨c, -, h2, h3, h4, h5⟩
    · refine Or.inl ⟨h1, Or.inr (fun c hc w => ?_)⟩
      have := h2 c (Nat.zero_le _) (by omega)
      rw [(hsel c hc).mpr w] at this
      exact absurd this (by decide)
    · refine Or.inr ⟨c, by omega, h4, hW, (hsel c (by omega)).mp h3, fun d hd w => ?_⟩
      have := h5 d (Nat.zero_le _) hd
      rw [(hsel d (by omega)).mpr w] at this
      exact absurd this (by decide)
theorem and_not_iff (a b : Bool) : (a && !b) = true ↔ (a = true ∧ ¬ b = true) := by cases a <;> cases b <;> simp
/-- processed: reached and not open -/
def pr (R O : Int64) (j : Nat) : Bool := mm R j && !mm O j
theorem rf_l {N nu sz : Nat} {o : Nat → Nat} {x : Nat → Int32} (hG : GC nu sz o x) {D : Dat} (hR : RG o x sz D) {i p : Nat} (hi : i < sz) {A : Int64} (hA : ∀ q, q < 64 → (mm A q = true ↔ q ≠ p)) : ∀ (r g k : Nat) (R O : Int64), k + r = sz → r < g → (∀ q, q < 64 → mm R q = true → q < sz ∧ Rc o x p i q) → (∀ q, q < 64 → mm O q = true → mm R q = true) → (∀ q, nx o x i q → q ≠ p → mm R q = true) → (∀ t q, t < sz → mm R t = true → mm O t = false → nx o x t q → q ≠ p → mm R q = true) → k ≤ sm (cn1 (pr R O)) sz 0 → ∃ R', f_X6_reachedFrom_b37 N g A R O (nn k) D = some (R', D) ∧ ∀ q, q < 64 → (mm R' q = true ↔ Rc o x p i q) := by
  have hz := hG.1.2
  have done : ∀ R O : Int64, (∀ q, q < 64 → mm R q = true → q < sz ∧ Rc o x p i q) → (∀ q, nx o x i q → q ≠ p → mm R q = true) → (∀ t q, t < sz → mm R t = true → mm O t = false → nx o x t q → q ≠ p → mm R q = true) → (∀ j, j < sz → mm O j = false) → ∀ q, q < 64 → (mm R q = true ↔ Rc o x p i q) := by
    intro R O h1 h2 h3 h4 q hq
    refine ⟨fun h => (h1 q hq h).2, fun h => ?_⟩
    refine (Rc.ind (P := fun q => q < sz ∧ mm R q = true) (fun t t1 t2 => ⟨hG.nxs hi t1, h2 t t1 t2⟩) (fun t q ht t1 t2 => ⟨hG.nxs ht.1 t1, h3 t q ht.1 ht.2 (h4 t ht.1) t1 t2⟩) h).2
  intro r
  induction r with
  | zero =>
    intro g k R O hk hg h1 h2 h3 h4 h5
    obtain ⟨g, rfl⟩ : ∃ g', g = g' + 1 := ⟨g - 1, by omega⟩
    have sf := sm_full (f := cn1 (pr R O)) (fun b => by unfold cn1; split <;> simp) sz 0
    have al := cnt_all (lk := pr R O) (sz := sz) (by have := sf.1; omega)
    have hO : ∀ j, j < sz → mm O j = false := fun j hj => by
      have := al j hj
      unfold pr at this
      rw [Bool.and_eq_true] at this
      simpa using this.2
    refine ⟨R, ?_, done R O h1 h3 h4 hO⟩
    rw [f_X6_reachedFrom_b37, hR.1, if_pos ((nn_le (by omega) (by omega)).mpr (by omega))]
    rfl
  | succ r ih =>
    intro g k R O hk hg h1 h2 h3 h4 h5
    obtain ⟨g, rfl⟩ : ∃ g', g = g' + 1 := ⟨g - 1, by omega⟩
    by_cases h0 : O = 0
    · subst h0
      refine ⟨R, ?_, done R 0 h1 h3 h4 (fun j _ => mm_0 j)⟩
      rw [f_X6_reachedFrom_b37, hR.1, if_neg (by rw [nn_le (by omega) (by omega)]; omega), if_pos ((cmp0 0).mpr rfl)]
      rfl
    · obtain ⟨q, hq⟩ := has_lst h0
      have hqs := (h1 q hq.1 (h2 q hq.1 hq.2.1))
      have i1 := nn_in (k := q) (n := 64) (by omega) (by omega)
      have mF : ∀ t, t < 64 → (mm ((nSs o x q &&& A) &&& (R ^^^ (-1 : Int64))) t = true ↔ (nx o x q t ∧ t ≠ p ∧ mm R t = false)) := fun t ht => by
        rw [mm_and, mm_and, mm_not _ ht, Bool.and_eq_true, Bool.and_eq_true, mm_nS hG hqs.1 ht, hA t ht, Bool.not_eq_true', and_assoc]
      generalize hF : (nSs o x q &&& A) &&& (R ^^^ (-1 : Int64)) = F at mF
      have mR : ∀ t, t < 64 → (mm (R ||| F) t = true ↔ (mm R t = true ∨ (nx o x q t ∧ t ≠ p))) := fun t ht => by
        rw [mm_or, Bool.or_eq_true, mF t ht]
        constructor
        · intro w
          rcases w with w | w
          · exact Or.inl w
          · exact Or.inr ⟨w.1, w.2.1⟩
        · intro w
          rcases w with w | w
          · exact Or.inl w
          · by_cases z : mm R t = true
            · exact Or.inl z
            · exact Or.inr ⟨w.1, w.2, Bool.eq_false_iff.mpr z⟩
      have mO : ∀ t, t < 64 → (mm ((O &&& (O - 1)) ||| F) t = true ↔ ((mm O t = true ∧ t ≠ q) ∨ (nx o x q t ∧ t ≠ p ∧ mm R t = false))) := fun t ht => by
        rw [mm_or, Bool.or_eq_true, mm_rest hq ht, Bool.and_eq_true, decide_eq_true_iff, mF t ht]
      obtain ⟨R', a1, a2⟩ := ih g (k + 1) (R ||| F) ((O &&& (O - 1)) ||| F) (by omega) (by omega) (fun t ht hm => by
          rcases (mR t ht).mp hm with w | w
          · exact h1 t ht w
          · exact ⟨hG.nxs hqs.1 w.1, hqs.2.snoc w.1 w.2⟩) (fun t ht hm => by
          rcases (mO t ht).mp hm with w | w
          · exact (mR t ht).mpr (Or.inl (h2 t ht w.1))
          · exact (mR t ht).mpr (Or.inr ⟨w.1, w.2.1⟩)) (fun t t1 t2 => by
          have := hG.nxs hi t1
          exact (mR t (by omega)).mpr (Or.inl (h3 t t1 t2))) (fun t u ht hm hn t1 t2 => by
          have hu := hG.nxs ht t1
          refine (mR u (by omega)).mpr ?_
          have hn' : ¬ ((mm O t = true ∧ t ≠ q) ∨ (nx o x q t ∧ t ≠ p ∧ mm R t = false)) := fun w => by
            rw [(mO t (by omega)).mpr w] at hn
            exact absurd hn (by decide)
          by_cases z : t = q
          · rw [z] at t1; exact Or.inr ⟨t1, t2⟩
          · rcases (mR t (by omega)).mp hm with w | w
            · exact Or.inl (h4 t u ht w (Bool.eq_false_iff.mpr (fun v => hn' (Or.inl ⟨v, z⟩))) t1 t2)
            · by_cases v : mm R t = true
              · exact Or.inl (h4 t u ht v (Bool.eq_false_iff.mpr (fun v => hn' (Or.inl ⟨v, z⟩))) t1 t2)
              · exact absurd (Or.inr ⟨w.1, w.2, Bool.eq_false_iff.mpr v⟩) hn') (by
          have e : sm (cn1 (pr (R ||| F) ((O &&& (O - 1)) ||| F))) sz 0 = sm (cn1 (lkU (pr R O) q)) sz 0 := sm_eq sz 0 (fun b _ hb => by
            unfold cn1
            congr 1
            have b64 : b < 64 := by omega
            have x1 := mR b b64
            have x2 := mO b b64
            have x3 := h2 b b64
            unfold lkU pr
            rw [eq_iff_iff, and_not_iff, Bool.or_eq_true, beq_iff_eq, and_not_iff, x1, x2]
            constructor
            · intro ⟨w1, w2⟩
              by_cases z : b = q
              · exact Or.inl z
              · refine Or.inr ⟨?_, fun v => w2 (Or.inl ⟨v, z⟩)⟩
                rcases w1 with w1 | w1
                · exact w1
                · by_cases v : mm R b = true
                  · exact v
                  · exact absurd (Or.inr ⟨w1.1, w1.2, Bool.eq_false_iff.mpr v⟩) w2
            · intro w
              rcases w with w | ⟨w1, w2⟩
              · have hRq := h2 q hq.1 hq.2.1
                rw [w]
                refine ⟨Or.inl hRq, fun v => ?_⟩
                rcases v with v | v
                · exact v.2 rfl
                · rw [hRq] at v; exact absurd v.2.2 (by decide)
              · refine ⟨Or.inl w1, fun v => ?_⟩
                rcases v with v | v
                · exact w2 v.1
                · rw [w1] at v; exact absurd v.2.2 (by decide))
          have pq : pr R O q = false := by unfold pr; rw [hq.2.1]; simp
          rw [e, cnt_up hqs.1 pq]
          omega)
      refine ⟨R', ?_, a2⟩
      rw [f_X6_reachedFrom_b37, hR.1, if_neg (by rw [nn_le (by omega) (by omega)]; omega), if_neg (fun w => h0 ((cmp0 O).mp w)), e_least hq, bS, if_neg i1, nn_nat (by omega), hR.2 q hqs.1, hF, nn_1]
      exact a1
/-- the one that is avoided -/
def av (v : Int32) : Nat := if v = -1 then 64 else tg v
theorem e_reachedFrom {N nu sz : Nat} {o : Nat → Nat} {x : Nat → Int32} {D : Dat} (hN : 1000 ≤ N) (hG : GC nu sz o x) (hR : RG o x sz D) {i : Nat} (hi : i < sz) {v : Int32} (hv : v = -1 ∨ ∃ c, c < sz ∧ v = nn c) : ∃ R, f_X6_reachedFrom N (nn i) v D = some (R, D) ∧ ∀ q, q < 64 → (mm R q = true ↔ Rc o x (av v) i q) := by
  have hz := hG.1.2
  have i1 := nn_in (k := i) (n := 64) (by omega) (by omega)
  have base : ∀ (A : Int64) (p : Nat), (∀ q, q < 64 → (mm A q = true ↔ q ≠ p)) → ∃ R, f_X6_reachedFrom_b19 N (nn i) A D = some (R, D) ∧ ∀ q, q < 64 → (mm R q = true ↔ Rc o x p i q) := fun A p hA => by
    unfold f_X6_reachedFrom_b19
    rw [if_neg i1, nn_nat (by omega), hR.2 i hi]
    have m0 : ∀ q, q < 64 → (mm (nSs o x i &&& A) q = true ↔ (nx o x i q ∧ q ≠ p)) := fun q hq => by rw [mm_and, Bool.and_eq_true, mm_nS hG hi hq, hA q hq]
    exact rf_l (N := N) hG hR hi hA sz N 0 _ _ (by omega) (by omega) (fun q hq h => ⟨hG.nxs hi ((m0 q hq).mp h).1, Rc.one ((m0 q hq).mp h).1 ((m0 q hq).mp h).2⟩) (fun q _ h => h) (fun q h1 h2 => by
      have := hG.nxs hi h1
      exact (m0 q (by omega)).mpr ⟨h1, h2⟩) (fun t q ht h1 h2 => by rw [h1] at h2; exact absurd h2 (by decide)) (Nat.zero_le _)
  unfold f_X6_reachedFrom
  rcases hv with hv | ⟨c, hc, hv⟩
  · rw [if_pos hv, show av v = 64 from if_pos hv]
    exact base (-1) 64 (fun q hq => ⟨fun _ => by omega, fun _ => mm_m1 hq⟩)
  · have ea : av v = c := by unfold av tg; rw [hv, if_neg (nn_nm1 (by omega)), nn_nat (by omega)]
    rw [hv, if_neg (nn_nm1 (by omega)), e_bit, bS, ← hv, ea]
    exact base _ c (fun q hq => by rw [mm_not _ hq, Bool.not_eq_true', ← Bool.not_eq_true, mm_bt (by omega) hq])
/-- what regions tell of an instruction -/
def RgC (o : Nat → Nat) (x : Nat → Int32) (sz : Nat) (R : Int64) (D : Dat) (i : Nat) : Prop := ((o i = 11 ∧ mm R i = true) → NX o x sz i (dI D 111 i) ∧ ∀ q, q < 64 → (mm (dL D 112 i) q = true ↔ Rc o x (av (dI D 111 i)) i q)) ∧ (¬ (o i = 11 ∧ mm R i = true) → dI D 111 i = -1 ∧ dL D 112 i = 0)
theorem NX.form {o : Nat → Nat} {x : Nat → Int32} {sz i : Nat} {v : Int32} (h : NX o x sz i v) : v = -1 ∨ ∃ c, c < sz ∧ v = nn c := by
  rcases h with h | ⟨c, c1, c2, -⟩
  · exact Or.inl h.1
  · exact Or.inr ⟨c, c1, c2⟩
theorem find_2 {N nu c sz : Nat} {o : Nat → Nat} {x : Nat → Int32} (hN : 1000 ≤ N) (hG : GC nu sz o x) {R : Int64} {E : Dat} (hK : Kc c sz o x E) (hE : RG o x sz E) (he : EndOk o x sz (dL E 108 5)) (hu : SureOk o x sz (dL E 110)) : ∀ (k g i : Nat) (D : Dat), i + k = sz → k < g → Ch (fun a _ => a = 111 ∨ a = 112) E D → (∀ j, j < i → RgC o x sz R D j) → Tt (f_X6_find_b114 N g (some c) R (nn i) D) (fun D' => Ch (fun a _ => a = 111 ∨ a = 112) E D' ∧ ∀ j, j < sz → RgC o x sz R D' j) := by
  have hz := hG.1.2
  intro k
  induction k with
  | zero =>
    intro g i D hi hg hch hv
    obtain ⟨g, rfl⟩ : ∃ g', g = g' + 1 := ⟨g - 1, by omega⟩
    have h4 : dI D 108 4 = nn sz := (hch.i (by omega)).trans hE.1
    rw [f_X6_find_b114, h4, if_pos ((nn_le (by omega) (by omega)).mpr (by omega))]
    exact ⟨D, rfl, hch, fun j hj => hv j (by omega)⟩
  | succ k ih =>
    intro g i D hi hg hch hv
    obtain ⟨g, rfl⟩ : ∃ g', g = g' + 1 := ⟨g - 1, by omega⟩
    have hi' : i < sz := by omega
    have h4 : dI D 108 4 = nn sz := (hch.i (by omega)).trans hE.1
    have i1 := nn_in (k := i) (n := 64) (by omega) (by omega)
    have n1 : (nn i).toNatClampNeg = i := nn_nat (by omega)
    have i2 : ¬ (nn i < 0 ∨ 64 ≤ i) := by rw [n1] at i1; exact i1
    have hK' : Kc c sz o x D := hK.kept hch (fun a j w => by unfold RKc; omega)
    have rest : ∀ (E' : Dat), Ch (fun a _ => a = 111 ∨ a = 112) E E' → RG o x sz E' ∧ EndOk o x sz (dL E' 108 5) ∧ SureOk o x sz (dL E' 110) := fun E' h => by
      have e10 : dL E' 110 = dL E 110 := by funext j; exact h.l (by omega)
      refine ⟨⟨(h.i (by omega)).trans hE.1, fun j hj => (h.l (by omega)).trans (hE.2 j hj)⟩, ?_, ?_⟩
      · rw [h.l (by omega)]; exact he
      · rw [e10]; exact hu
    -- whatever is put for i
    have go : ∀ (v : Int32) (L : Int64), RgC o x sz R (sL (sI D 111 i v) 112 i L) i → Tt (f_X6_find_b114 N g (some c) R (nn (i + 1)) (sL (sI D 111 i v) 112 i L)) (fun D' => Ch (fun a _ => a = 111 ∨ a = 112) E D' ∧ ∀ j, j < sz → RgC o x sz R D' j) := fun v L h => by
      refine ih g (i + 1) _ (by omega) (by omega) (Ch.sL (Or.inr rfl) (Ch.sI (Or.inl rfl) hch)) (fun j hj => ?_)
      by_cases z : j = i
      · rw [z]; exact h
      · have e1 : dI (sL (sI D 111 i v) 112 i L) 111 j = dI D 111 j := by rw [dI_sL, dI_s, if_neg (by omega)]
        have e2 : dL (sL (sI D 111 i v) 112 i L) 112 j = dL D 112 j := by rw [dL_s, if_neg (by omega), dL_sI]
        have := hv j (by omega)
        unfold RgC at this ⊢
        rw [e1, e2]; exact this
    have v1 : ∀ (v : Int32) (L : Int64), dI (sL (sI D 111 i v) 112 i L) 111 i = v := fun v L => by rw [dI_sL, dI_s, if_pos ⟨rfl, rfl⟩]
    have v2 : ∀ (v : Int32) (L : Int64), dL (sL (sI D 111 i v) 112 i L) 112 i = L := fun v L => by rw [dL_s, if_pos ⟨rfl, rfl⟩]
    have op : f_X0_operation c (nn i) D = some (nn (o i), D) := by rw [code_op hK'.2.1 hK'.2.2.2.2.1 hi', (hK'.2.2.2.2.2 i hi').1]
    have st : f_X6_find_b114 N (g + 1) (some c) R (nn i) D = if o i = 11 ∧ mm R i = true then f_X6_find_b148 N (f_X6_find_b114 N g) (some c) R (nn i) 1 D else f_X6_find_b148 N (f_X6_find_b114 N g) (some c) R (nn i) 0 D := by
      rw [f_X6_find_b114, h4, if_neg (by rw [nn_le (by omega) (by omega)]; omega), bS, if_pos hK.1, op, bS]
      unfold f_X6_find_b147
      rw [e_holds R (show i < 64 by omega), bS, if10]
      dsimp only
      by_cases c11 : o i = 11
      · rw [if_pos (show nn (o i) = (11 : Int32) by rw [c11]; rfl)]
        by_cases m : mm R i = true
        · rw [if_pos m, if_pos ⟨c11, m⟩]
        · rw [if_neg m, if_neg (fun w => m w.2)]
      · rw [if_neg (show ¬ nn (o i) = (11 : Int32) from ne_op (b := 11) (by have := hG.2.1 i; omega) (by omega) c11), if_neg (fun w => c11 w.1)]
    rw [st]
    by_cases has : o i = 11 ∧ mm R i = true
    · rw [if_pos has]
      obtain ⟨hR1, he1, hu1⟩ := rest D hch
      obtain ⟨v, a1, a2⟩ := e_findNext (N := N) hN hG hR1 he1 hu1 hi'
      have c11 : Ch (fun a _ => a = 111 ∨ a = 112) E (sI D 111 i v) := Ch.sI (Or.inl rfl) hch
      obtain ⟨L, b1, b2⟩ := e_reachedFrom (N := N) hN hG (rest _ c11).1 hi' a2.form
      unfold f_X6_find_b148 f_X6_find_b171 f_X6_find_b200
      rw [if_neg (show ¬ (1 : Int32) = 0 by decide), a1, bS, if_neg (show ¬ (1 : Int32) = 0 by decide)]
      simp only [n1, i2, reduceIte, dI_s, and_self, b1, bS, nn_1]
      refine go v L ⟨fun _ => ?_, fun w => absurd has w⟩
      rw [v1, v2]
      exact ⟨a2, b2⟩
    · rw [if_neg has]
      unfold f_X6_find_b148 f_X6_find_b171 f_X6_find_b200
      rw [if_pos rfl, if_neg i1, if_pos rfl, if_neg i1, n1, nn_1]
      refine go (-1) 0 ⟨fun w => absurd w has, fun _ => ?_⟩
      rw [v1, v2]
      exact ⟨rfl, rfl⟩
theorem e_find {N nu c sz : Nat} {o : Nat → Nat} {x : Nat → Int32} {D : Dat} (hN : 1000 ≤ N) (hG : GC nu sz o x) (R : Int64) (hK : Kc c sz o x D) : Tt (f_X6_find N (some c) R D) (fun D' => Ch PrC D D' ∧ dI D' 108 4 = nn sz ∧ ∀ j, j < sz → RgC o x sz R D' j) := by
  have hz := hG.1.2
  have c0 : Ch PrC D (sL (sI D 108 4 (nn sz)) 108 5 0) := Ch.sL (by unfold PrC; omega) (Ch.sI (by unfold PrC; omega) Ch.rf)
  have h4 : dI (sL (sI D 108 4 (nn sz)) 108 5 0) 108 4 = nn sz := by rw [dI_sL, dI_s, if_pos ⟨rfl, rfl⟩]
  have h5 : dL (sL (sI D 108 4 (nn sz)) 108 5 0) 108 5 = 0 := by rw [dL_s, if_pos ⟨rfl, rfl⟩]
  have hK0 : Kc c sz o x (sL (sI D 108 4 (nn sz)) 108 5 0) := hK.kept c0 (fun a j w => by unfold PrC at w; unfold RKc; omega)
  unfold f_X6_find
  rw [bS, if_pos hK.1]
  show Tt ((f_X0_size c D).bind _) _
  unfold f_X0_size
  rw [bS, hK.2.2.2.2.1, if_neg (show ¬ 64 < nn sz by rw [nn_l, nn_lt (by omega) (by omega)]; omega)]
  refine find_b (N := N) hG (E := sL (sI D 108 4 (nn sz)) 108 5 0) hK0 h4 (fun D1 a1 a2 a3 a4 => ?_) sz N 0 _ (by omega) (by omega) Ch.rf (fun j hj => absurd hj (by omega)) (fun j _ => by rw [h5, mm_0]; exact ⟨fun w => absurd w (by decide), fun w => absurd w.1 (by omega)⟩)
  refine Tt_call (e_ending hN hG a2 a4) (fun D2 b => ?_)
  have r2 : RG o x sz D2 := ⟨(b.1.i (by omega)).trans a2.1, fun i hi => (b.1.l (by omega)).trans (a2.2 i hi)⟩
  refine Tt_call (e_sure hN hG r2 b.2 (fun i hi => (b.1.l (by omega)).trans (a3 i hi))) (fun D3 d => ?_)
  have r3 : RG o x sz D3 := ⟨(d.1.i (by omega)).trans r2.1, fun i hi => (d.1.l (by omega)).trans (r2.2 i hi)⟩
  have c3 : Ch PrC D D3 := c0.tr (a1.tr ((b.1.mono (fun a j w => by unfold PrC; omega)).tr (d.1.mono (fun a j w => by unfold PrC; omega))))
  refine Tt_mono (find_2 hN hG (R := R) (hK.kept c3 (fun a j w => by unfold PrC at w; unfold RKc; omega)) r3 (by rw [d.1.l (by omega)]; exact b.2) d.2 sz N 0 D3 (by omega) (by omega) Ch.rf (fun j hj => absurd hj (by omega))) (fun D4 f => ?_)
  exact ⟨c3.tr (f.1.mono (fun a j w => by unfold PrC; omega)), (f.1.i (by omega)).trans r3.1, f.2⟩
