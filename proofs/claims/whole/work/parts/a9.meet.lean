/-! regions of the model: the meeting, the rows -/
theorem Rc.lt {nu sz : Nat} {o : Nat → Nat} {x : Nat → Int32} (hG : GC nu sz o x) {p z q : Nat} (hz : z < sz) (h : Rc o x p z q) : q < sz := Rc.ind (P := fun q => q < sz) (fun _ h1 _ => hG.nxs hz h1) (fun _ _ hr h1 _ => hG.nxs hr h1) h
theorem halts_l {N nu sz : Nat} {o : Nat → Nat} {x : Nat → Int32} {D : Dat} (hG : GC nu sz o x) (hK : Km sz o x D) {rb : Nat → Bool} (hR : RB rb D) : ∀ (k g i : Nat), i + k = sz → k < g → ∃ b : Bool, f_X12_halts_b2 N g (nn i) D = some (wi b, D) ∧ (b = true ↔ ∃ h, i ≤ h ∧ h < sz ∧ rb h = true ∧ o h = 15) := by
  have hz := hG.1.2
  intro k
  induction k with
  | zero =>
    intro g i hi hg
    obtain ⟨g, rfl⟩ : ∃ g', g = g' + 1 := ⟨g - 1, by omega⟩
    rw [f_X12_halts_b2, hK.2.1, if_pos ((nn_le (by omega) (by omega)).mpr (by omega))]
    exact ⟨false, rfl, fun w => absurd w (by decide), fun ⟨h, h1, h2, _⟩ => absurd h2 (by omega)⟩
  | succ k ih =>
    intro g i hi hg
    obtain ⟨g, rfl⟩ : ∃ g', g = g' + 1 := ⟨g - 1, by omega⟩
    have i1 := nn_in (k := i) (n := 64) (by omega) (by omega)
    have hi' : i < sz := by omega
    obtain ⟨b, b1, b2⟩ := ih g (i + 1) (by omega) (by omega)
    have nxt : ¬ (rb i = true ∧ o i = 15) → ((b = true) ↔ ∃ h, i ≤ h ∧ h < sz ∧ rb h = true ∧ o h = 15) := fun c => by
      rw [b2]
      constructor
      · intro ⟨h, h1, h2⟩; exact ⟨h, by omega, h2⟩
      · intro ⟨h, h1, h2, h3, h4⟩
        by_cases e : h = i
        · rw [e] at h3 h4; exact absurd ⟨h3, h4⟩ c
        · exact ⟨h, by omega, h2, h3, h4⟩
    rw [f_X12_halts_b2, hK.2.1, if_neg (by rw [nn_le (by omega) (by omega)]; omega), if_neg i1, if_neg i1, nn_nat (by omega), (hK.2.2 i hi').1]
    unfold f_X12_halts_b32
    rw [nn_1, b1]
    by_cases h0 : dI D 252 i = 0
    · rw [if_pos h0]
      have hf := (rb_0 hR (show i < 64 by omega)).mp h0
      exact ⟨b, rfl, nxt (fun w => by rw [hf] at w; exact absurd w.1 (by decide))⟩
    · rw [if_neg h0]
      have hf : rb i = true := by
        cases u : rb i with
        | true => rfl
        | false => exact absurd ((rb_0 hR (show i < 64 by omega)).mpr u) h0
      by_cases c15 : o i = 15
      · rw [if_pos (show nn (o i) = (15 : Int32) by rw [c15]; rfl)]
        exact ⟨true, rfl, fun _ => ⟨i, Nat.le_refl _, hi', hf, c15⟩, fun _ => rfl⟩
      · rw [if_neg (show ¬ nn (o i) = (15 : Int32) from ne_op (b := 15) (by have := hG.2.1 i; omega) (by omega) c15)]
        exact ⟨b, rfl, nxt (fun w => c15 w.2)⟩
theorem e_halts {N nu sz : Nat} {o : Nat → Nat} {x : Nat → Int32} {D : Dat} (hN : 1000 ≤ N) (hG : GC nu sz o x) (hK : Km sz o x D) {rb : Nat → Bool} (hR : RB rb D) {z p : Nat} (hzs : z < sz) (hrb : ∀ q, q < 64 → (rb q = true ↔ Rc o x p z q)) : ∃ b : Bool, f_X12_halts N D = some (wi b, D) ∧ (b = true ↔ ∃ s, nx o x z s ∧ Aw o x p s) := by
  have hz := hG.1.2
  obtain ⟨b, b1, b2⟩ := halts_l (N := N) hG hK hR sz N 0 (by omega) (by omega)
  refine ⟨b, b1, ?_⟩
  rw [b2, ← Rc.halt]
  constructor
  · intro ⟨h, _, h2, h3, h4⟩; exact ⟨h, h4, (hrb h (by omega)).mp h3⟩
  · intro ⟨h, h1, h2⟩
    have := h2.lt hG hzs
    exact ⟨h, Nat.zero_le _, this, (hrb h (by omega)).mpr h2, h1⟩
/-- the commons -/
def CO (o : Nat → Nat) (x : Nat → Int32) (z n : Nat) (D : Dat) : Prop := ∀ p, p < n → (dI D 253 p = 0 ↔ ¬ Cw o x z p)
def Pme (a _j : Nat) : Prop := a = 252 ∨ a = 253
theorem meet_1 {N nu sz : Nat} {o : Nat → Nat} {x : Nat → Int32} (hN : 1000 ≤ N) (hG : GC nu sz o x) {z : Nat} {E : Dat} {Q : Int32 × Dat → Prop} (hK : Km sz o x E) (hzs : z < sz) (hfin : ∀ D', Ch Pme E D' → CO o x z sz D' → Tt (f_X12_meeting_b62 N N (nn z) 0 D') Q) : ∀ (k g p : Nat) (D : Dat), p + k = sz → k < g → Ch Pme E D → CO o x z p D → Tt (f_X12_meeting_b17 N g (nn z) (nn p) D) Q := by
  have hz := hG.1.2
  intro k
  induction k with
  | zero =>
    intro g p D hp hg hch hC
    obtain ⟨g, rfl⟩ : ∃ g', g = g' + 1 := ⟨g - 1, by omega⟩
    have hs : dI D 207 13 = nn sz := (hch.i (by unfold Pme; omega)).trans hK.2.1
    rw [f_X12_meeting_b17, hs, if_pos ((nn_le (by omega) (by omega)).mpr (by omega))]
    obtain rfl : p = sz := by omega
    exact hfin D hch hC
  | succ k ih =>
    intro g p D hp hg hch hC
    obtain ⟨g, rfl⟩ : ∃ g', g = g' + 1 := ⟨g - 1, by omega⟩
    have hs : dI D 207 13 = nn sz := (hch.i (by unfold Pme; omega)).trans hK.2.1
    have hKD : Km sz o x D := hK.kept hch (fun a k w => by unfold Pme at w; unfold RKm; omega)
    have i1 := nn_in (k := p) (n := 64) (by omega) (by omega)
    have ev : vf (nn p) := Or.inr ⟨p, by omega, rfl⟩
    have ea : av (nn p) = p := by unfold av tg; rw [if_neg (nn_nm1 (by omega)), nn_nat (by omega)]
    rw [f_X12_meeting_b17, hs, if_neg (by rw [nn_le (by omega) (by omega)]; omega)]
    refine Tt_call (e_reach hN hG hKD hzs ev) (fun D1 ⟨c1, rb, r1, r2⟩ => ?_)
    rw [ea] at r2
    have cD1 : Ch Pme E D1 := hch.tr (c1.mono (fun a j w => Or.inl w))
    have hK1 : Km sz o x D1 := hK.kept cD1 (fun a k w => by unfold Pme at w; unfold RKm; omega)
    have put : ∀ (w : Int32), (w = 0 ∨ w = 1) → (w = 0 ↔ ¬ Cw o x z p) → Tt (f_X12_meeting_b53 N (f_X12_meeting_b17 N g) (nn z) (nn p) w (nn p) D1) Q := fun w hw hcw => by
      unfold f_X12_meeting_b53
      rw [if_neg i1, nn_nat (by omega), nn_1, b01_and hw]
      refine ih g (p + 1) _ (by omega) (by omega) (Ch.sI (Or.inr rfl) cD1) (fun t ht => ?_)
      rw [dI_s]
      by_cases e : t = p
      · rw [if_pos ⟨rfl, e⟩, e]; exact hcw
      · rw [if_neg (fun w => e w.2), c1.i (by omega)]; exact hC t (by omega)
    by_cases e : p = z
    · rw [if_pos (by rw [e])]
      unfold f_X12_meeting_b52
      exact put 0 (Or.inl rfl) ⟨fun _ w => w.1 e, fun _ => rfl⟩
    · rw [if_neg (by rw [nn_eq (by omega) (by omega)]; exact e)]
      obtain ⟨b, b1, b2⟩ := e_halts (N := N) hN hG hK1 r1 hzs r2
      rw [b1, bS]
      unfold f_X12_meeting_b52
      cases b with
      | false =>
        rw [show wi false = (0 : Int32) from rfl]
        simp only [reduceIte]
        exact put 1 (Or.inr rfl) ⟨fun w => absurd w (by decide), fun w => absurd ⟨e, fun v => absurd (b2.mpr v) (by decide)⟩ w⟩
      | true =>
        rw [show wi true = (1 : Int32) from rfl]
        simp only [n10, reduceIte]
        exact put 0 (Or.inl rfl) ⟨fun _ w => w.2 (b2.mp rfl), fun _ => rfl⟩
/-- whether another common comes before -/
theorem meet_3 {N nu sz : Nat} {o : Nat → Nat} {x : Nat → Int32} (hG : GC nu sz o x) {z p : Nat} {D : Dat} (hK : Km sz o x D) (hp : p < sz) (hC : CO o x z sz D) {rb : Nat → Bool} (hR : RB rb D) (rec : Int32 → Int32 → Dat → Option (Int32 × Dat)) : ∀ (k g q : Nat) (fl : Bool), q + k = sz → k < g → ∃ b : Bool, f_X12_meeting_b93 N rec g (nn z) (nn p) (wi fl) (nn q) D = (if b = true then some (nn p, D) else rec (nn z) (nn (p + 1)) D) ∧ (b = true ↔ (fl = true ∧ ∀ t, q ≤ t → t < sz → t ≠ p → Cw o x z t → rb t = false)) := by
  have hz := hG.1.2
  intro k
  induction k with
  | zero =>
    intro g q fl hq hg
    obtain ⟨g, rfl⟩ : ∃ g', g = g' + 1 := ⟨g - 1, by omega⟩
    rw [f_X12_meeting_b93, hK.2.1, if_pos ((nn_le (by omega) (by omega)).mpr (by omega))]
    unfold f_X12_meeting_b142
    rw [nn_1]
    refine ⟨fl, ?_, ⟨fun w => ⟨w, fun t h1 h2 => absurd h2 (by omega)⟩, fun w => w.1⟩⟩
    cases fl <;> rfl
  | succ k ih =>
    intro g q fl hq hg
    obtain ⟨g, rfl⟩ : ∃ g', g = g' + 1 := ⟨g - 1, by omega⟩
    have i1 := nn_in (k := q) (n := 64) (by omega) (by omega)
    rw [f_X12_meeting_b93, hK.2.1, if_neg (by rw [nn_le (by omega) (by omega)]; omega), if_neg i1, if_neg i1, nn_nat (by omega)]
    unfold f_X12_meeting_b130
    rw [nn_1]
    obtain ⟨b, b1, b2⟩ := ih g (q + 1) fl (by omega) (by omega)
    obtain ⟨b', b1', b2'⟩ := ih g (q + 1) false (by omega) (by omega)
    rw [show wi false = (0 : Int32) from rfl] at b1'
    have same : (q = p ∨ ¬ Cw o x z q ∨ rb q = false) → ((b = true) ↔ (fl = true ∧ ∀ t, q ≤ t → t < sz → t ≠ p → Cw o x z t → rb t = false)) := fun c => by
      rw [b2]
      refine and_congr_right (fun _ => ⟨fun w t h1 h2 h3 h4 => ?_, fun w t h1 h2 => w t (by omega) h2⟩)
      by_cases e : t = q
      · rw [e] at h3 h4 ⊢
        rcases c with c | c | c
        · exact absurd c h3
        · exact absurd h4 c
        · exact c
      · exact w t (by omega) h2 h3 h4
    by_cases e : q = p
    · rw [if_pos (by rw [e])]
      exact ⟨b, b1, same (Or.inl e)⟩
    · rw [if_neg (by rw [nn_eq (by omega) (by omega)]; exact e)]
      by_cases h0 : dI D 253 q = 0
      · rw [if_pos h0]
        exact ⟨b, b1, same (Or.inr (Or.inl ((hC q (by omega)).mp h0)))⟩
      · rw [if_neg h0]
        have hCq : Cw o x z q := Classical.not_not.mp (fun w => h0 ((hC q (by omega)).mpr w))
        by_cases h2 : dI D 252 q = 0
        · rw [if_pos h2]
          exact ⟨b, b1, same (Or.inr (Or.inr ((rb_0 hR (show q < 64 by omega)).mp h2)))⟩
        · rw [if_neg h2]
          refine ⟨b', b1', ?_⟩
          rw [b2']
          constructor
          · intro w; exact absurd w.1 (by decide)
          · intro w
            exact absurd ((rb_0 hR (show q < 64 by omega)).mpr (w.2 q (Nat.le_refl _) (by omega) e hCq)) h2
theorem meet_2 {N nu sz : Nat} {o : Nat → Nat} {x : Nat → Int32} (hN : 1000 ≤ N) (hG : GC nu sz o x) {z : Nat} {E : Dat} (hK : Km sz o x E) (hzs : z < sz) (hW : HW o x z) : ∀ (k g p : Nat) (D : Dat), p + k = sz → k < g → Ch Pme E D → CO o x z sz D → (∀ d, d < p → ¬ Sel o x z d) → Tt (f_X12_meeting_b62 N g (nn z) (nn p) D) (fun r => Ch Pme E r.2 ∧ NX o x sz z r.1) := by
  have hz := hG.1.2
  intro k
  induction k with
  | zero =>
    intro g p D hp hg hch hC hn
    obtain ⟨g, rfl⟩ : ∃ g', g = g' + 1 := ⟨g - 1, by omega⟩
    have hs : dI D 207 13 = nn sz := (hch.i (by unfold Pme; omega)).trans hK.2.1
    rw [f_X12_meeting_b62, hs, if_pos ((nn_le (by omega) (by omega)).mpr (by omega))]
    exact ⟨_, rfl, hch, Or.inl ⟨rfl, Or.inr (fun c hc => hn c (by omega))⟩⟩
  | succ k ih =>
    intro g p D hp hg hch hC hn
    obtain ⟨g, rfl⟩ : ∃ g', g = g' + 1 := ⟨g - 1, by omega⟩
    have hs : dI D 207 13 = nn sz := (hch.i (by unfold Pme; omega)).trans hK.2.1
    have hKD : Km sz o x D := hK.kept hch (fun a k w => by unfold Pme at w; unfold RKm; omega)
    have i1 := nn_in (k := p) (n := 64) (by omega) (by omega)
    have ev : vf (nn p) := Or.inr ⟨p, by omega, rfl⟩
    have ea : av (nn p) = p := by unfold av tg; rw [if_neg (nn_nm1 (by omega)), nn_nat (by omega)]
    rw [f_X12_meeting_b62, hs, if_neg (by rw [nn_le (by omega) (by omega)]; omega), if_neg i1, nn_nat (by omega)]
    by_cases h0 : dI D 253 p = 0
    · rw [if_pos h0]
      unfold f_X12_meeting_b142
      rw [nn_1]
      refine ih g (p + 1) D (by omega) (by omega) hch hC (fun d hd w => ?_)
      by_cases e : d = p
      · rw [e] at w; exact (hC p (by omega)).mp h0 w.1
      · exact hn d (by omega) w
    · rw [if_neg h0]
      have hCp : Cw o x z p := Classical.not_not.mp (fun w => h0 ((hC p (by omega)).mpr w))
      refine Tt_call (e_reach hN hG hKD hzs ev) (fun D1 ⟨c1, rb, r1, r2⟩ => ?_)
      rw [ea] at r2
      have cD1 : Ch Pme E D1 := hch.tr (c1.mono (fun a j w => Or.inl w))
      have hK1 : Km sz o x D1 := hK.kept cD1 (fun a k w => by unfold Pme at w; unfold RKm; omega)
      have hC1 : CO o x z sz D1 := fun t ht => by rw [c1.i (by omega)]; exact hC t ht
      obtain ⟨b, b1, b2⟩ := meet_3 (N := N) hG (p := p) hK1 (by omega) hC1 r1 (f_X12_meeting_b62 N g) sz N 0 true (by omega) (by omega)
      rw [show wi true = (1 : Int32) from rfl, show nn 0 = (0 : Int32) from rfl] at b1
      rw [b1]
      have key : b = true ↔ Sel o x z p := by
        have fo := first_on (o := o) (x := x) (z := z) (p := p) (w := 64) hW (by omega) hCp
        rw [b2]
        unfold Sel
        constructor
        · intro ⟨_, w⟩
          refine ⟨hCp, fo.mp (fun q h1 h2 h3 => ?_)⟩
          have hq := h1.lt hG hzs hW
          have := w q (Nat.zero_le _) hq h2 h1
          rw [(r2 q (by omega)).mpr h3] at this
          exact absurd this (by decide)
        · intro ⟨_, w⟩
          refine ⟨rfl, fun t _ h2 h3 h4 => Bool.eq_false_iff.mpr (fun v => ?_)⟩
          exact fo.mpr w t h4 h3 ((r2 t (by omega)).mp v)
      cases b with
      | true =>
        rw [if_pos rfl]
        exact ⟨_, rfl, cD1, Or.inr ⟨p, by omega, rfl, hW, key.mp rfl, hn⟩⟩
      | false =>
        rw [if_neg (by decide)]
        refine ih g (p + 1) D1 (by omega) (by omega) cD1 hC1 (fun d hd w => ?_)
        by_cases e : d = p
        · rw [e] at w; exact absurd (key.mpr w) (by decide)
        · exact hn d (by omega) w
theorem e_meeting {N nu sz : Nat} {o : Nat → Nat} {x : Nat → Int32} {D : Dat} (hN : 1000 ≤ N) (hG : GC nu sz o x) (hK : Km sz o x D) {z : Nat} (hzs : z < sz) : Tt (f_X12_meeting N (nn z) D) (fun r => Ch Pme D r.2 ∧ NX o x sz z r.1) := by
  have hz := hG.1.2
  unfold f_X12_meeting
  refine Tt_call (e_reach hN hG hK hzs (v := -1) (Or.inl rfl)) (fun D1 ⟨c1, rb, r1, r2⟩ => ?_)
  have cD1 : Ch Pme D D1 := c1.mono (fun a j w => Or.inl w)
  have hK1 : Km sz o x D1 := hK.kept cD1 (fun a k w => by unfold Pme at w; unfold RKm; omega)
  rw [show av (-1) = 64 from rfl] at r2
  obtain ⟨b, b1, b2⟩ := e_halts (N := N) hN hG hK1 r1 hzs r2
  rw [b1, bS]
  cases b with
  | false =>
    rw [show wi false = (0 : Int32) from rfl]
    simp only [reduceIte]
    exact ⟨_, rfl, cD1, Or.inl ⟨rfl, Or.inl (fun w => absurd (b2.mpr w) (by decide))⟩⟩
  | true =>
    rw [show wi true = (1 : Int32) from rfl]
    simp only [n10, reduceIte]
    have hW : HW o x z := b2.mp rfl
    refine meet_1 hN hG hK1 hzs (fun D2 a1 a2 => ?_) sz N 0 D1 (by omega) (by omega) Ch.rf (fun p hp => absurd hp (by omega))
    refine Tt_mono (meet_2 hN hG hK1 hzs hW sz N 0 D2 (by omega) (by omega) a1 a2 (fun d hd => absurd hd (by omega))) (fun r h => ⟨cD1.tr h.1, h.2⟩)
/-- what the model's regions tell -/
def RgM (o : Nat → Nat) (x : Nat → Int32) (sz : Nat) (hv : Nat → Option Nat) (D : Dat) (i : Nat) : Prop := (o i = 11 ∧ ¬ hv i = none) → NX o x sz i (dI D 247 i) ∧ ∀ q, q < 64 → (dI D 248 (64 * i + q) = 0 ↔ ¬ Rc o x (av (dI D 247 i)) i q)
def Prm (a _j : Nat) : Prop := a = 247 ∨ a = 248 ∨ a = 252 ∨ a = 253
theorem b01_rb {rb : Nat → Bool} {D : Dat} (h : RB rb D) {j : Nat} (hj : j < 64) : dI D 252 j &&& 1 = dI D 252 j := b01_and (by rw [h j hj]; cases rb j; exact Or.inl rfl; exact Or.inr rfl)
theorem reg_copy {N : Nat} {z : Nat} (hz64 : z < 64) {E : Dat} {rb : Nat → Bool} {Q : Dat → Prop} (rec : Int32 → Dat → Option Dat) (hE : RB rb E) (hfin : ∀ D', Ch (fun a j => a = 248 ∧ 64 * z ≤ j ∧ j < 64 * z + 64) E D' → (∀ q, q < 64 → (dI D' 248 (64 * z + q) = 0 ↔ rb q = false)) → Tt (rec (nn (z + 1)) D') Q) : ∀ (k g q : Nat) (D : Dat), q + k = 64 → k < g → Ch (fun a j => a = 248 ∧ 64 * z ≤ j ∧ j < 64 * z + 64) E D → (∀ t, t < q → (dI D 248 (64 * z + t) = 0 ↔ rb t = false)) → Tt (f_X12_regions_b64 N rec g (nn z) (nn q) D) Q := by
  intro k
  induction k with
  | zero =>
    intro g q D hq hg hch hv
    obtain ⟨g, rfl⟩ : ∃ g', g = g' + 1 := ⟨g - 1, by omega⟩
    rw [f_X12_regions_b64, if_pos (by rw [nn_l, nn_le (by omega) (by omega)]; omega)]
    unfold f_X12_regions_b93
    rw [nn_1]
    exact hfin D hch (fun t ht => hv t (by omega))
  | succ k ih =>
    intro g q D hq hg hch hv
    obtain ⟨g, rfl⟩ : ∃ g', g = g' + 1 := ⟨g - 1, by omega⟩
    have i1 := nn_in (k := q) (n := 64) (by omega) (by omega)
    have i2 := nn_in (k := 64 * z + q) (n := 4096) (by omega) (by omega)
    have e : (64 : Int32) * nn z + nn q = nn (64 * z + q) := by rw [nn_l, nn_mul, nn_add]
    have hR : RB rb D := fun j hj => by rw [hch.i (by omega)]; exact hE j hj
    rw [f_X12_regions_b64, if_neg (by rw [nn_l, nn_le (by omega) (by omega)]; omega), if_neg i1, e, if_neg i2, nn_nat (k := 64 * z + q) (by omega), nn_nat (k := q) (by omega), nn_1, b01_rb hR (by omega)]
    refine ih g (q + 1) _ (by omega) (by omega) (Ch.sI (by omega) hch) (fun t ht => ?_)
    rw [dI_s]
    by_cases c : t = q
    · rw [if_pos ⟨rfl, by omega⟩, c]; exact rb_0 hR (by omega)
    · rw [if_neg (fun w => c (by omega))]; exact hv t (by omega)
theorem reg_l {N nu sz : Nat} {o : Nat → Nat} {x : Nat → Int32} (hN : 1000 ≤ N) (hG : GC nu sz o x) {hv : Nat → Option Nat} {E : Dat} (hK : Km sz o x E) (hH : ∀ j, j < 64 → dI E 245 j = hI (hv j)) (hB : Bd hv) : ∀ (k g z : Nat) (D : Dat), z + k = sz → k < g → Ch Prm E D → (∀ j, j < z → RgM o x sz hv D j) → Tt (f_X12_regions_b2 N g (nn z) D) (fun D' => Ch Prm E D' ∧ ∀ j, j < sz → RgM o x sz hv D' j) := by
  have hz := hG.1.2
  intro k
  induction k with
  | zero =>
    intro g z D hi hg hch hr
    obtain ⟨g, rfl⟩ : ∃ g', g = g' + 1 := ⟨g - 1, by omega⟩
    have hs : dI D 207 13 = nn sz := (hch.i (by unfold Prm; omega)).trans hK.2.1
    rw [f_X12_regions_b2, hs, if_pos ((nn_le (by omega) (by omega)).mpr (by omega))]
    exact ⟨D, rfl, hch, fun j hj => hr j (by omega)⟩
  | succ k ih =>
    intro g z D hi hg hch hr
    obtain ⟨g, rfl⟩ : ∃ g', g = g' + 1 := ⟨g - 1, by omega⟩
    have hs : dI D 207 13 = nn sz := (hch.i (by unfold Prm; omega)).trans hK.2.1
    have hzs : z < sz := by omega
    have i1 := nn_in (k := z) (n := 64) (by omega) (by omega)
    have n1 : (nn z).toNatClampNeg = z := nn_nat (by omega)
    have c0 : Ch Prm E (sI D 247 z (-1)) := Ch.sI (Or.inl rfl) hch
    have keep : ∀ (D' : Dat), Ch (fun a j => (a = 247 ∧ j = z) ∨ (a = 248 ∧ 64 * z ≤ j ∧ j < 64 * z + 64) ∨ a = 252 ∨ a = 253) D D' → ∀ j, j < z → RgM o x sz hv D' j := fun D' h j hj w => by
      have := hr j hj w
      have e8 : ∀ q, q < 64 → dI D' 248 (64 * j + q) = dI D 248 (64 * j + q) := fun q hq => h.i (by omega)
      rw [h.i (by omega)]
      exact ⟨this.1, fun q hq => by rw [e8 q hq]; exact this.2 q hq⟩
    rw [f_X12_regions_b2, hs, if_neg (by rw [nn_le (by omega) (by omega)]; omega)]
    simp only [i1, reduceIte]
    rw [n1]
    have hK0 : Km sz o x (sI D 247 z (-1)) := hK.kept c0 (fun a k w => by unfold Prm at w; unfold RKm; omega)
    have e212 : dI (sI D 247 z (-1)) 212 z = nn (o z) := (hK0.2.2 z hzs).1
    have e245 : dI (sI D 247 z (-1)) 245 z = hI (hv z) := by rw [c0.i (by unfold Prm; omega)]; exact hH z (by omega)
    have hpos : (0 ≤ hI (hv z)) ↔ ¬ hv z = none := by
      rw [← hI_neg (v := hv z) (fun k hk => hB z k hk), Int32.not_lt]
    rw [e212, e245]
    have skip : ¬ (o z = 11 ∧ ¬ hv z = none) → Tt (f_X12_regions_b93 N (f_X12_regions_b2 N g) (nn z) (sI D 247 z (-1))) (fun D' => Ch Prm E D' ∧ ∀ j, j < sz → RgM o x sz hv D' j) := fun c => by
      unfold f_X12_regions_b93
      rw [nn_1]
      refine ih g (z + 1) _ (by omega) (by omega) c0 (fun j hj => ?_)
      by_cases e : j = z
      · rw [e]; exact fun w => absurd w c
      · exact keep _ (Ch.sI (Or.inl ⟨rfl, rfl⟩) Ch.rf) j (by omega)
    by_cases c11 : o z = 11
    · rw [if_pos (show nn (o z) = (11 : Int32) by rw [c11]; rfl)]
      by_cases hh : hv z = none
      · rw [if_neg (fun w => hpos.mp w hh)]
        exact skip (fun w => w.2 hh)
      · rw [if_pos (hpos.mpr hh)]
        refine Tt_call (e_meeting hN hG hK0 hzs) (fun r ⟨a1, a2⟩ => ?_)
        obtain ⟨v, D1⟩ := r
        have a1' : Ch Pme (sI D 247 z (-1)) D1 := a1
        have a2' : NX o x sz z v := a2
        have c1 : Ch Prm E (sI D1 247 z v) := Ch.sI (Or.inl rfl) (c0.tr (a1'.mono (fun a j w => by unfold Pme at w; unfold Prm; omega)))
        have hK1 : Km sz o x (sI D1 247 z v) := hK.kept c1 (fun a k w => by unfold Prm at w; unfold RKm; omega)
        have vv : vf v := by
          rcases a2'.form with w | ⟨c, w1, w2⟩
          · exact Or.inl w
          · exact Or.inr ⟨c, by omega, w2⟩
        have e7 : dI (sI D1 247 z v) 247 z = v := by rw [dI_s, if_pos ⟨rfl, rfl⟩]
        show Tt ((f_X12_reach N (nn z) (dI (sI D1 247 z v) 247 z) (sI D1 247 z v)).bind _) _
        rw [e7]
        refine Tt_call (e_reach hN hG hK1 hzs vv) (fun D2 ⟨d1, rb, d2, d3⟩ => ?_)
        refine reg_copy (show z < 64 by omega) _ d2 (fun D3 f1 f2 => ?_) 64 N 0 D2 (by omega) (by omega) Ch.rf (fun t ht => absurd ht (by omega))
        have cc : Ch (fun a j => (a = 247 ∧ j = z) ∨ (a = 248 ∧ 64 * z ≤ j ∧ j < 64 * z + 64) ∨ a = 252 ∨ a = 253) D D3 := by
          refine Ch.tr (P := fun a j => (a = 247 ∧ j = z) ∨ (a = 248 ∧ 64 * z ≤ j ∧ j < 64 * z + 64) ∨ a = 252 ∨ a = 253) (Ch.sI (Or.inl ⟨rfl, rfl⟩) ((Ch.sI (Or.inl ⟨rfl, rfl⟩) Ch.rf).tr (a1'.mono (fun a j w => by unfold Pme at w; omega)))) ((d1.mono (fun a j w => by omega)).tr (f1.mono (fun a j w => by omega)))
        refine ih g (z + 1) D3 (by omega) (by omega) (hch.tr (cc.mono (fun a j w => by unfold Prm; omega))) (fun j hj => ?_)
        by_cases e : j = z
        · rw [e]
          intro _
          have e7' : dI D3 247 z = v := by rw [f1.i (by omega), d1.i (by omega)]; exact e7
          rw [e7']
          refine ⟨a2', fun q hq => ?_⟩
          rw [f2 q hq, ← d3 q hq, Bool.not_eq_true]
        · exact keep D3 cc j (by omega)
    · rw [if_neg (show ¬ nn (o z) = (11 : Int32) from ne_op (b := 11) (by have := hG.2.1 z; omega) (by omega) c11)]
      exact skip (fun w => c11 w.1)
theorem e_regions {N nu sz : Nat} {o : Nat → Nat} {x : Nat → Int32} {D : Dat} (hN : 1000 ≤ N) (hG : GC nu sz o x) {hv : Nat → Option Nat} (hK : Km sz o x D) (hH : ∀ j, j < 64 → dI D 245 j = hI (hv j)) (hB : Bd hv) : Tt (f_X12_regions N D) (fun D' => Ch Prm D D' ∧ ∀ j, j < sz → RgM o x sz hv D' j) := by
  have hz := hG.1.2
  exact reg_l hN hG hK hH hB sz N 0 D (by omega) (by omega) Ch.rf (fun j hj => absurd hj (by omega))
