/-! regions of the class: those that are on each way -/
theorem sb_l {N : Nat} {D : Dat} : ∀ (m k g : Nat) (S acc : Int64), k + m = 2 → m < g → Cn m S → ∃ B, f_X6_sureBehind_b20 N g acc S (nn k) D = some (B, D) ∧ ∀ p, p < 64 → (mm B p = true ↔ (mm acc p = true ∧ ∀ s, s < 64 → mm S s = true → mm (dL D 110 s) p = true)) := by
  intro m
  induction m with
  | zero =>
    intro k g S acc hk hg hS
    obtain ⟨g, rfl⟩ : ∃ g', g = g' + 1 := ⟨g - 1, by omega⟩
    obtain rfl : S = 0 := hS
    refine ⟨acc, ?_, fun p hp => ⟨fun h => ⟨h, fun s _ w => absurd w (by rw [mm_0]; decide)⟩, fun h => h.1⟩⟩
    rw [f_X6_sureBehind_b20, if_pos (by rw [nn_l, nn_le (by omega) (by omega)]; omega)]
    rfl
  | succ m ih =>
    intro k g S acc hk hg hS
    obtain ⟨g, rfl⟩ : ∃ g', g = g' + 1 := ⟨g - 1, by omega⟩
    have hk2 : ¬ 2 ≤ nn k := by rw [nn_l, nn_le (by omega) (by omega)]; omega
    by_cases h0 : S = 0
    · subst h0
      refine ⟨acc, ?_, fun p hp => ⟨fun h => ⟨h, fun s _ w => absurd w (by rw [mm_0]; decide)⟩, fun h => h.1⟩⟩
      rw [f_X6_sureBehind_b20, if_neg hk2, if_pos ((cmp0 0).mpr rfl)]
      rfl
    · obtain ⟨q, hq⟩ := has_lst h0
      have hS' : Cn m (S &&& (S - 1)) := (hS.resolve_left h0) q hq
      have hq64 := hq.1
      have i1 := nn_in (k := q) (n := 64) (by omega) (by omega)
      obtain ⟨B, b1, b2⟩ := ih (k + 1) g (S &&& (S - 1)) (acc &&& dL D 110 q) (by omega) (by omega) hS'
      refine ⟨B, ?_, fun p hp => ?_⟩
      · rw [f_X6_sureBehind_b20, if_neg hk2, if_neg (fun w => h0 ((cmp0 S).mp w)), e_least hq, bS, if_neg i1, nn_nat (by omega), nn_1]
        exact b1
      · rw [b2 p hp, mm_and, Bool.and_eq_true]
        constructor
        · intro ⟨⟨w1, w2⟩, w3⟩
          refine ⟨w1, fun s hs hm => ?_⟩
          by_cases z : s = q
          · rw [z]; exact w2
          · exact w3 s hs (by rw [mm_rest hq hs, hm, decide_eq_true z]; rfl)
        · intro ⟨w1, w2⟩
          refine ⟨⟨w1, w2 q hq64 hq.2.1⟩, fun s hs hm => ?_⟩
          rw [mm_rest hq hs, Bool.and_eq_true] at hm
          exact w2 s hs hm.1
theorem cn_and {S T : Int64} {a b : Nat} (h : ∀ q, q < 64 → mm S q = true → q = a ∨ q = b) : Cn 2 (S &&& T) := cn_two (a := a) (b := b) (fun q hq hm => by
  rw [mm_and, Bool.and_eq_true] at hm
  exact h q hq hm.1)
theorem e_behind {N nu sz : Nat} {o : Nat → Nat} {x : Nat → Int32} {D : Dat} (hN : 1000 ≤ N) (hG : GC nu sz o x) (hR : RG o x sz D) {i : Nat} (hi : i < sz) : ∃ B, f_X6_sureBehind N (nn i) D = some (B, D) ∧ ∀ p, p < 64 → (mm B p = true ↔ ∀ s, nx o x i s → mm (dL D 108 5) s = true → mm (dL D 110 s) p = true) := by
  have hz := hG.1.2
  have i1 := nn_in (k := i) (n := 64) (by omega) (by omega)
  have two : ∀ q, q < 64 → mm (nSs o x i) q = true → q = i + 1 ∨ q = tg (x i) := fun q hq hm => by
    rcases (mm_nS hG hi hq).mp hm with z | z
    · exact Or.inl z.2.2
    · exact Or.inr z.2
  obtain ⟨B, b1, b2⟩ := sb_l (N := N) (D := D) 2 0 N (nSs o x i &&& dL D 108 5) (-1) (by omega) (by omega) (cn_and two)
  refine ⟨B, ?_, fun p hp => ?_⟩
  · unfold f_X6_sureBehind
    rw [if_neg i1, nn_nat (by omega), hR.2 i hi]
    exact b1
  · rw [b2 p hp]
    constructor
    · intro w s h1 h2
      have hs := hG.nxs hi h1
      exact w.2 s (by omega) (by rw [mm_and, (mm_nS hG hi (by omega)).mpr h1, h2]; rfl)
    · intro w
      refine ⟨mm_m1 hp, fun s hs hm => ?_⟩
      rw [mm_and, Bool.and_eq_true] at hm
      exact w s ((mm_nS hG hi hs).mp hm.1) hm.2
/-- for p, nothing is left to take away -/
def Cl (o : Nat → Nat) (x : Nat → Int32) (sz : Nat) (e : Int64) (u : Nat → Int64) (p : Nat) : Prop := ∀ i, i < sz → mm (u i) p = true → p = i ∨ ∀ s, nx o x i s → mm e s = true → mm (u s) p = true
/-- sound: what was taken away has a way without p -/
def Sd (o : Nat → Nat) (x : Nat → Int32) (sz : Nat) (u : Nat → Int64) : Prop := ∀ i p, i < sz → p < 64 → mm (u i) p = false → Aw o x p i
theorem sure_in {N nu sz : Nat} {o : Nat → Nat} {x : Nat → Int32} (hN : 1000 ≤ N) (hG : GC nu sz o x) {k : Nat} {E : Dat} {Q : Dat → Prop} (rec : Int32 → Int32 → Dat → Option Dat) (hE : RG o x sz E) (hS : Sd o x sz (dL E 110))
    (hfin : ∀ (fl : Bool) (D' : Dat), Ch (fun a _ => a = 110) E D' → Sd o x sz (dL D' 110) → (∀ i p, i < sz → p < 64 → mm (dL D' 110 i) p = true → mm (dL E 110 i) p = true) → (∀ p, p < 64 → (∀ i, i < sz → mm (dL D' 110 i) p = mm (dL E 110 i) p) → Cl o x sz (dL E 108 5) (dL E 110) p) → (∀ p, p < 64 → Cl o x sz (dL E 108 5) (dL E 110) p → ∀ i, i < sz → mm (dL D' 110 i) p = mm (dL E 110 i) p) → (fl = false → ∀ i p, i < sz → p < 64 → mm (dL D' 110 i) p = mm (dL E 110 i) p) → (fl = true → ∃ i p, i < sz ∧ p < 64 ∧ ¬ mm (dL D' 110 i) p = mm (dL E 110 i) p) → Tt (rec (wi fl) (nn (k + 1)) D') Q) :
    ∀ (j g : Nat) (fl : Bool) (D : Dat), j ≤ sz → j < g → Ch (fun a _ => a = 110) E D → Sd o x sz (dL D 110) → (∀ i p, i < sz → p < 64 → mm (dL D 110 i) p = true → mm (dL E 110 i) p = true) → (∀ i, i < j → dL D 110 i = dL E 110 i) → (∀ p, p < 64 → (∀ i, i < sz → mm (dL D 110 i) p = mm (dL E 110 i) p) → ∀ i, j ≤ i → i < sz → mm (dL E 110 i) p = true → p = i ∨ ∀ s, nx o x i s → mm (dL E 108 5) s = true → mm (dL E 110 s) p = true) → (∀ p, p < 64 → Cl o x sz (dL E 108 5) (dL E 110) p → ∀ i, i < sz → mm (dL D 110 i) p = mm (dL E 110 i) p) → (fl = false → ∀ i p, i < sz → p < 64 → mm (dL D 110 i) p = mm (dL E 110 i) p) → (fl = true → ∃ i p, i < sz ∧ p < 64 ∧ ¬ mm (dL D 110 i) p = mm (dL E 110 i) p) → Tt (f_X6_findSure_b30 N rec g (wi fl) (nn k) (nj j) D) Q := by
  have hz := hG.1.2
  intro j
  induction j with
  | zero =>
    intro g fl D hj hg hch hs hm hun hpr hcl hf ht
    obtain ⟨g, rfl⟩ : ∃ g', g = g' + 1 := ⟨g - 1, by omega⟩
    rw [f_X6_findSure_b30, if_pos nj_0, nn_1]
    exact hfin fl D hch hs hm (fun p hp h i hi => hpr p hp h i (Nat.zero_le _) hi) hcl hf ht
  | succ j ih =>
    intro g fl D hj hg hch hs hm hun hpr hcl hf ht
    obtain ⟨g, rfl⟩ : ∃ g', g = g' + 1 := ⟨g - 1, by omega⟩
    have hj' : j < sz := by omega
    have i1 := nn_in (k := j) (n := 64) (by omega) (by omega)
    have n1 : (nn j).toNatClampNeg = j := nn_nat (by omega)
    have hRD : RG o x sz D := ⟨(hch.i (by omega)).trans hE.1, fun i hi => (hch.l (by omega)).trans (hE.2 i hi)⟩
    have e5 : dL D 108 5 = dL E 108 5 := hch.l (by omega)
    obtain ⟨B, b1, b2⟩ := e_behind (N := N) hN hG hRD hj'
    rw [e5] at b2
    -- the new set
    have hnew : ∀ p, p < 64 → (mm (dL D 110 j &&& (bit1 j ||| B)) p = true ↔ (mm (dL D 110 j) p = true ∧ (p = j ∨ ∀ s, nx o x j s → mm (dL E 108 5) s = true → mm (dL D 110 s) p = true))) := fun p hp => by
      rw [mm_and, mm_or, Bool.and_eq_true, Bool.or_eq_true, mm_bt (by omega) hp, b2 p hp]
    generalize hM : dL D 110 j &&& (bit1 j ||| B) = M at hnew
    have eL : ∀ i, dL (sL D 110 j M) 110 i = if i = j then M else dL D 110 i := fun i => by
      rw [dL_s]
      by_cases z : i = j
      · rw [if_pos ⟨rfl, z⟩, if_pos z]
      · rw [if_neg (fun w => z w.2), if_neg z]
    have go : ∀ fl' : Bool, (fl' = false → fl = false ∧ M = dL D 110 j) → (fl' = true → fl = true ∨ ¬ M = dL D 110 j) → Tt (f_X6_findSure_b30 N rec g (wi fl') (nn k) (nj j) (sL D 110 j M)) Q := by
      intro fl' f1 f2
      refine ih g fl' _ (by omega) (by omega) (Ch.sL rfl hch) ?_ ?_ ?_ ?_ ?_ ?_ ?_
      · intro i p hi hp h
        rw [eL] at h
        by_cases z : i = j
        · rw [if_pos z] at h
          by_cases w : mm (dL D 110 j) p = true
          · have nw : ¬ (p = j ∨ ∀ s, nx o x j s → mm (dL E 108 5) s = true → mm (dL D 110 s) p = true) := fun v => by
              have := (hnew p hp).mpr ⟨w, v⟩
              rw [h] at this
              exact absurd this (by decide)
            have n2 : p ≠ j := fun v => nw (Or.inl v)
            obtain ⟨s, s1⟩ := Classical.not_forall.mp (fun v => nw (Or.inr v))
            have s2 : nx o x j s := Classical.not_not.mp (fun v => s1 (fun q => absurd q v))
            have s3 : mm (dL D 110 s) p = false := Bool.eq_false_iff.mpr (fun v => s1 (fun _ _ => v))
            rw [z]
            exact (hs s p (hG.nxs hj' s2) hp s3).step (fun v => n2 v.symm) s2
          · rw [z]; exact hs j p hj' hp (Bool.eq_false_iff.mpr w)
        · rw [if_neg z] at h; exact hs i p hi hp h
      · intro i p hi hp h
        rw [eL] at h
        by_cases z : i = j
        · rw [if_pos z] at h; rw [z]; exact hm j p hj' hp ((hnew p hp).mp h).1
        · rw [if_neg z] at h; exact hm i p hi hp h
      · intro i hi
        rw [eL, if_neg (by omega)]; exact hun i (by omega)
      · intro p hp hall
        -- p's slice is as it was: so it was, too, before this one
        have back : ∀ i, i < sz → mm (dL D 110 i) p = mm (dL E 110 i) p := fun i hi => by
          have h := hall i hi
          rw [eL] at h
          by_cases z : i = j
          · rw [z, hun j (by omega)]
          · rw [if_neg z] at h; exact h
        intro i hij hi hmi
        by_cases z : i = j
        · have h := hall j hj'
          rw [eL, if_pos rfl] at h
          rw [z] at hmi ⊢
          rw [hmi] at h
          rcases ((hnew p hp).mp h).2 with w | w
          · exact Or.inl w
          · refine Or.inr (fun s s1 s2 => ?_)
            rw [← back s (hG.nxs hj' s1)]
            exact w s s1 s2
        · exact hpr p hp back i (by omega) hi hmi
      · intro p hp hc i hi
        rw [eL]
        have b := hcl p hp hc
        by_cases z : i = j
        · rw [if_pos z, z]
          by_cases w : mm (dL E 110 j) p = true
          · rw [w]
            refine (hnew p hp).mpr ⟨by rw [b j hj']; exact w, ?_⟩
            rcases hc j hj' w with v | v
            · exact Or.inl v
            · exact Or.inr (fun s s1 s2 => by rw [b s (hG.nxs hj' s1)]; exact v s s1 s2)
          · rw [Bool.eq_false_iff.mpr w]
            exact Bool.eq_false_iff.mpr (fun v => w (by rw [← b j hj']; exact ((hnew p hp).mp v).1))
        · rw [if_neg z]; exact b i hi
      · intro h i p hi hp
        obtain ⟨g1, g2⟩ := f1 h
        rw [eL]
        by_cases z : i = j
        · rw [if_pos z, g2, z]; exact hf g1 j p hj' hp
        · rw [if_neg z]; exact hf g1 i p hi hp
      · intro h
        rcases f2 h with g1 | g1
        · obtain ⟨i, p, a1, a2, a3⟩ := ht g1
          refine ⟨i, p, a1, a2, ?_⟩
          rw [eL]
          by_cases z : i = j
          · exfalso
            apply a3
            rw [z, hun j (by omega)]
          · rw [if_neg z]; exact a3
        · obtain ⟨p, hp⟩ := Classical.not_forall.mp (fun v => g1 (mm_ext v))
          obtain ⟨hp1, hp2⟩ : p < 64 ∧ ¬ mm M p = mm (dL D 110 j) p := by
            by_cases w : p < 64
            · exact ⟨w, fun v => hp (fun _ => v)⟩
            · exact absurd (fun q => absurd q w) hp
          refine ⟨j, p, hj', hp1, ?_⟩
          rw [eL, if_pos rfl, ← hun j (by omega)]
          exact hp2
    rw [f_X6_findSure_b30, nj_s, if_neg (nn_nlt0 (by omega)), if_neg i1, e_bit, bS, b1, bS]
    unfold f_X6_findSure_b69 f_X6_findSure_b74
    simp only [i1, reduceIte]
    rw [n1, nj_d, hM]
    cases fl with
    | false =>
      rw [show wi false = (0 : Int32) from rfl, if_pos rfl]
      by_cases z : M = dL D 110 j
      · rw [if_pos ((lg_cmp_eq _ _).mpr z)]
        exact go false (fun _ => ⟨rfl, z⟩) (fun w => absurd w (by decide))
      · rw [if_neg (fun w => z ((lg_cmp_eq _ _).mp w))]
        exact go true (fun w => absurd w (by decide)) (fun _ => Or.inr z)
    | true =>
      rw [show wi true = (1 : Int32) from rfl, if_neg (by decide)]
      exact go true (fun w => absurd w (by decide)) (fun _ => Or.inl rfl)
def cp (sz : Nat) (u : Nat → Int64) (p : Nat) : Nat := sm (cn1 (fun i => !mm (u i) p)) sz 0
theorem cp_le (sz : Nat) (u : Nat → Int64) (p : Nat) : cp sz u p ≤ sz := (sm_full (f := cn1 (fun i => !mm (u i) p)) (fun b => by unfold cn1; split <;> simp) sz 0).1
theorem sm_lt {f f' : Nat → Nat} : ∀ (k i : Nat), (∀ b, i ≤ b → b < i + k → f b ≤ f' b) → sm f k i ≤ sm f' k i ∧ ((∃ b, i ≤ b ∧ b < i + k ∧ f b < f' b) → sm f k i < sm f' k i) := by
  intro k
  induction k with
  | zero => intro i _; exact ⟨Nat.le_refl _, fun ⟨b, h1, h2, _⟩ => absurd h2 (by omega)⟩
  | succ k ih =>
    intro i h
    obtain ⟨a1, a2⟩ := ih (i + 1) (fun b h1 h2 => h b (by omega) (by omega))
    have h0 := h i (Nat.le_refl _) (by omega)
    show f i + sm f k (i + 1) ≤ f' i + sm f' k (i + 1) ∧ (_ → f i + sm f k (i + 1) < f' i + sm f' k (i + 1))
    refine ⟨by omega, fun ⟨b, h1, h2, h3⟩ => ?_⟩
    by_cases z : b = i
    · rw [z] at h3; omega
    · have := a2 ⟨b, by omega, by omega, h3⟩; omega
theorem cp_lt {sz p : Nat} {u u' : Nat → Int64} (h : ∀ i, i < sz → mm (u' i) p = true → mm (u i) p = true) (hc : ¬ ∀ i, i < sz → mm (u' i) p = mm (u i) p) : cp sz u p < cp sz u' p := by
  refine (sm_lt sz 0 (fun b _ hb => ?_)).2 ?_
  · have := h b (by omega)
    unfold cn1
    cases a : mm (u b) p <;> cases c : mm (u' b) p <;> simp [a, c] at this ⊢
  · obtain ⟨i, hi⟩ := Classical.not_forall.mp hc
    obtain ⟨i1, i2⟩ : i < sz ∧ ¬ mm (u' i) p = mm (u i) p := by
      by_cases w : i < sz
      · exact ⟨w, fun v => hi (fun _ => v)⟩
      · exact absurd (fun q => absurd q w) hi
    have := h i i1
    refine ⟨i, Nat.zero_le _, by omega, ?_⟩
    unfold cn1
    cases a : mm (u i) p <;> cases c : mm (u' i) p <;> simp [a, c] at this i2 ⊢
/-- the sets are right -/
def SureOk (o : Nat → Nat) (x : Nat → Int32) (sz : Nat) (u : Nat → Int64) : Prop := ∀ i p, i < sz → p < 64 → (mm (u i) p = true ↔ ¬ Aw o x p i)
theorem sure_l {N nu sz : Nat} {o : Nat → Nat} {x : Nat → Int32} (hN : 1000 ≤ N) (hG : GC nu sz o x) {E : Dat} (hE : RG o x sz E) (he : EndOk o x sz (dL E 108 5)) (hh : ∀ i p, i < sz → p < 64 → o i = 15 → i ≠ p → mm (dL E 110 i) p = false) : ∀ (r g k : Nat) (D : Dat), k + r = sz + 1 → r + 1 < g → (k = 0 ∨ ∃ p, p < 64 ∧ k ≤ cp sz (dL D 110) p) → (∀ p, p < 64 → k ≤ cp sz (dL D 110) p ∨ Cl o x sz (dL E 108 5) (dL D 110) p) → Ch (fun a _ => a = 110) E D → Sd o x sz (dL D 110) → (∀ i p, i < sz → p < 64 → mm (dL D 110 i) p = true → mm (dL E 110 i) p = true) → Tt (f_X6_findSure_b4 N g 1 (nn k) D) (fun D' => Ch (fun a _ => a = 110) E D' ∧ SureOk o x sz (dL D' 110)) := by
  have hz := hG.1.2
  have hz1 := hG.1.1
  have done : ∀ u : Nat → Int64, Sd o x sz u → (∀ i p, i < sz → p < 64 → mm (u i) p = true → mm (dL E 110 i) p = true) → (∀ p, p < 64 → Cl o x sz (dL E 108 5) u p) → SureOk o x sz u := by
    intro u h1 h2 h3 i p hi hp
    have key : ∀ (n i : Nat), i < sz → Awn o x p n i → mm (u i) p = false := by
      intro n
      induction n with
      | zero =>
        intro i hi hA
        refine Bool.eq_false_iff.mpr (fun w => ?_)
        have := h2 i p hi hp w
        rw [hh i p hi hp hA.2 hA.1] at this
        exact absurd this (by decide)
      | succ n ih =>
        intro i hi hA
        obtain ⟨g1, s, g2, g3⟩ := hA
        refine Bool.eq_false_iff.mpr (fun w => ?_)
        have hs := hG.nxs hi g2
        rcases h3 p hp i hi w with v | v
        · exact g1 v.symm
        · have hW : Aw o x 64 s := by
            have : ∀ (n y : Nat), y < sz → Awn o x p n y → Aw o x 64 y := by
              intro n
              induction n with
              | zero => intro y hy hA; exact ⟨0, by omega, hA.2⟩
              | succ n ih =>
                intro y hy hA
                obtain ⟨-, t, t1, t2⟩ := hA
                exact (ih t (hG.nxs hy t1) t2).step (by omega) t1
            exact this n s hs g3
          have := v s g2 ((he s (by omega)).mpr ⟨hs, hW⟩)
          rw [ih s hs g3] at this
          exact absurd this (by decide)
    constructor
    · intro w ⟨n, hA⟩
      rw [key n i hi hA] at w
      exact absurd w (by decide)
    · intro w
      by_cases v : mm (u i) p = true
      · exact v
      · exact absurd (h1 i p hi hp (Bool.eq_false_iff.mpr v)) w
  intro r
  induction r with
  | zero =>
    intro g k D hr hg hk
    rcases hk with w | ⟨p, -, w⟩
    · omega
    · have := cp_le sz (dL D 110) p; omega
  | succ r ih =>
    intro g k D hr hg hk hQ hch hS hm
    obtain ⟨g, rfl⟩ : ∃ g', g = g' + 1 := ⟨g - 1, by omega⟩
    have hks : k ≤ sz := by omega
    have hsq : sz ≤ sz * sz := Nat.le_mul_of_pos_left sz (by omega)
    have hsq2 : sz * sz ≤ 64 * 64 := Nat.mul_le_mul hz hz
    have h4 : dI D 108 4 = nn sz := (hch.i (by omega)).trans hE.1
    have hR : RG o x sz D := ⟨h4, fun i hi => (hch.l (by omega)).trans (hE.2 i hi)⟩
    have e5 : dL D 108 5 = dL E 108 5 := hch.l (by omega)
    rw [f_X6_findSure_b4, h4, nn_mul, if_neg (by rw [nn_lt (by omega) (by omega)]; omega), if_neg (by decide)]
    refine sure_in (N := N) hN hG (k := k) (E := D) _ hR hS (fun fl D' a1 a2 a3 a4 a5 a6 a7 => ?_) sz N false D (Nat.le_refl _) (by omega) Ch.rf hS (fun i p _ _ h => h) (fun i _ => rfl) (fun p hp h i h1 h2 => absurd h2 (by omega)) (fun p hp h i hi => rfl) (fun _ i p _ _ => rfl) (fun w => absurd w (by decide))
    rw [e5] at a4 a5
    have hm' : ∀ i p, i < sz → p < 64 → mm (dL D' 110 i) p = true → mm (dL E 110 i) p = true := fun i p hi hp h => hm i p hi hp (a3 i p hi hp h)
    cases fl with
    | false =>
      obtain ⟨g, rfl⟩ : ∃ g', g = g' + 1 := ⟨g - 1, by omega⟩
      have fin : Ch (fun a _ => a = 110) E D' ∧ SureOk o x sz (dL D' 110) := by
        refine ⟨hch.tr a1, done _ a2 hm' (fun p hp => ?_)⟩
        have e := a4 p hp (fun i hi => a6 rfl i p hi hp)
        intro i hi hmi
        rw [a6 rfl i p hi hp] at hmi
        rcases e i hi hmi with w | w
        · exact Or.inl w
        · exact Or.inr (fun s s1 s2 => by rw [a6 rfl s p (hG.nxs hi s1) hp]; exact w s s1 s2)
      rw [show wi false = (0 : Int32) from rfl, f_X6_findSure_b4]
      unfold f_X6_findSure_b95
      split
      · exact ⟨D', rfl, fin⟩
      · exact ⟨D', by rw [if_pos rfl], fin⟩
    | true =>
      have st : ∀ p, p < 64 → (¬ ∀ i, i < sz → mm (dL D' 110 i) p = mm (dL D 110 i) p) → k + 1 ≤ cp sz (dL D' 110) p := fun p hp hc => by
        have lt := cp_lt (sz := sz) (p := p) (u := dL D 110) (u' := dL D' 110) (fun i hi h => a3 i p hi hp h) hc
        rcases hQ p hp with w | w
        · omega
        · exact absurd (a5 p hp w) hc
      obtain ⟨i, p, b1, b2, b3⟩ := a7 rfl
      refine ih g (k + 1) D' (by omega) (by omega) (Or.inr ⟨p, b2, st p b2 (fun w => b3 (w i b1))⟩) (fun q hq => ?_) (hch.tr a1) a2 hm'
      by_cases c : ∀ i, i < sz → mm (dL D' 110 i) q = mm (dL D 110 i) q
      · refine Or.inr (fun j hj hmj => ?_)
        rw [c j hj] at hmj
        rcases a4 q hq c j hj hmj with w | w
        · exact Or.inl w
        · exact Or.inr (fun s s1 s2 => by rw [c s (hG.nxs hj s1)]; exact w s s1 s2)
      · exact Or.inl (st q hq c)
theorem e_sure {N nu sz : Nat} {o : Nat → Nat} {x : Nat → Int32} {D : Dat} (hN : 1000 ≤ N) (hG : GC nu sz o x) (hE : RG o x sz D) (he : EndOk o x sz (dL D 108 5)) (hi : ∀ i, i < sz → dL D 110 i = if o i = 15 then bit1 i else -1) : Tt (f_X6_findSure N D) (fun D' => Ch (fun a _ => a = 110) D D' ∧ SureOk o x sz (dL D' 110)) := by
  have hz := hG.1.2
  refine sure_l hN hG hE he (fun i p h1 h2 h3 h4 => ?_) (sz + 1) N 0 D (by omega) (by omega) (Or.inl rfl) (fun p hp => Or.inl (Nat.zero_le _)) Ch.rf (fun i p h1 h2 h3 => ?_) (fun i p _ _ h => h)
  · rw [hi i h1, if_pos h3]
    exact Bool.eq_false_iff.mpr (fun w => h4 ((mm_bt (by omega) h2).mp w).symm)
  · rw [hi i h1] at h3
    by_cases c : o i = 15
    · rw [if_pos c] at h3
      refine ⟨0, fun w => ?_, c⟩
      rw [(mm_bt (by omega) h2).mpr w.symm] at h3
      exact absurd h3 (by decide)
    · rw [if_neg c, mm_m1 h2] at h3
      exact absurd h3 (by decide)
