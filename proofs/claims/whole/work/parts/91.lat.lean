/-! the lattice: bits of the class against the model's rows of truths -/
def bt (m b : Nat) : Nat := (m >>> b) % 2
def sm (f : Nat → Nat) : Nat → Nat → Nat
  | 0, _ => 0
  | k + 1, i => f i + sm f k (i + 1)
theorem bt_sh : ∀ m, m < 64 → ∀ b, b < 6 → ((nn m) >>> (nn b &&& 31)) &&& (1 : Int32) = nn (bt m b) := by decide +kernel
theorem bt_or : ∀ x, x < 64 → ∀ y, y < 64 → nn x ||| nn y = nn (x ||| y) := by decide +kernel
theorem bt_lt (m b : Nat) : bt m b < 2 := Nat.mod_lt _ (by decide)
theorem bt_01 (m b : Nat) : bt m b = 0 ∨ bt m b = 1 := by have := bt_lt m b; omega
theorem bt_lor : ∀ x, x < 64 → ∀ y, y < 64 → ∀ b, b < 6 → bt (x ||| y) b = if bt x b = 1 ∨ bt y b = 1 then 1 else 0 := by decide +kernel
theorem lor64 : ∀ x, x < 64 → ∀ y, y < 64 → x ||| y < 64 := by decide +kernel
def Dz : Dat := (fun _ _ => 0, fun _ _ => 0, fun _ _ => none)
def bcv (x : Int32) : Int32 := ((f_J6_bitCount_0f7a4 x Dz).getD (0, Dz)).1
theorem e_bc (x : Int32) (D : Dat) : f_J6_bitCount_0f7a4 x D = some (bcv x, D) := rfl
theorem bc_v : ∀ m, m < 64 → bcv (nn m) = nn (sm (bt m) 6 0) := by decide +kernel
theorem six (a b : Nat) : (6 : Int32) * nn a + nn b = nn (6 * a + b) := by rw [nn_l, nn_mul, nn_add]
theorem leads_m {nu a b m : Nat} {K : Nat → Nat} {D : Dat} (hn : nu ≤ 6) (hd : dI D 1 0 = nn nu) (ha : a < nu) (hb : b < nu) (hm : m < 64) (e : dI D 2 a = nn m) : f_X2_leads nu K (nn a) (nn b) D = some (nn (bt m b), D) := by
  have i1 := nn_in (k := a) (n := nu) (by omega) ha
  unfold f_X2_leads f_X2_leads_b34 f_X2_leads_b35
  simp only [has_yes hn ha hd, has_yes hn hb hd, bS, n10, i1, reduceIte]
  rw [nn_nat (by omega), e, bt_sh m hm b (by omega)]
  rcases bt_01 m b with q | q
  · rw [q, if_neg (show ¬ nn 0 = (1 : Int32) by decide), if_pos b0_1]; rfl
  · rw [q, if_pos (show nn 1 = (1 : Int32) from rfl), if_pos b1_1]; rfl
theorem put_l {N nu a mb : Nat} {K : Nat → Nat} (hn : nu ≤ 6) (ha : a < nu) (hmb : mb < 64) (r : Nat → Nat) (hr : ∀ p, r p < 64) : ∀ (k g i : Nat) (D : Dat), i + k = nu → k < g → dI D 1 0 = nn nu → (∀ p, i ≤ p → p < nu → dI D 2 p = nn (r p)) →
    ∃ D', f_X2_put_b27 N nu K g (nn a) (nn mb) (nn i) D = some D' ∧ Ch (fun x _ => x = 2) D D' ∧ ∀ p, p < nu → dI D' 2 p = if i ≤ p then nn (if bt (r p) a = 1 then r p ||| mb else r p) else dI D 2 p := by
  intro k
  induction k with
  | zero =>
    intro g i D hi hg hd hrow
    obtain ⟨g, rfl⟩ : ∃ g', g = g' + 1 := ⟨g - 1, by omega⟩
    rw [f_X2_put_b27, hd, if_pos ((nn_le (by omega) (by omega)).mpr (by omega))]
    exact ⟨D, rfl, Ch.rf, fun p hp => by rw [if_neg (by omega)]⟩
  | succ k ih =>
    intro g i D hi hg hd hrow
    obtain ⟨g, rfl⟩ : ∃ g', g = g' + 1 := ⟨g - 1, by omega⟩
    have i1 := nn_in (k := i) (n := nu) (by omega) (by omega)
    rw [f_X2_put_b27, hd, if_neg (by rw [nn_le (by omega) (by omega)]; omega), leads_m hn hd (show i < nu by omega) ha (hr i) (hrow i (Nat.le_refl _) (by omega)), bS]
    unfold f_X2_put_b57
    by_cases q : bt (r i) a = 1
    · have n1 : ¬ nn (bt (r i) a) = 0 := by rw [q]; decide
      obtain ⟨D', e1, e2, e3⟩ := ih g (i + 1) (sI D 2 i (nn (r i ||| mb))) (by omega) (by omega) (by rw [dI_s, if_neg (by omega)]; exact hd) (fun p h1 h2 => by rw [dI_s, if_neg (by omega)]; exact hrow p (by omega) h2)
      refine ⟨D', ?_, Ch.tr (P := fun x _ => x = 2) (Ch.sI rfl Ch.rf) e2, fun p hp => ?_⟩
      · simp only [n1, i1, reduceIte]
        rw [nn_nat (by omega), hrow i (Nat.le_refl _) (by omega), bt_or _ (hr i) _ hmb, nn_1]
        exact e1
      · rw [e3 p hp]
        by_cases h1 : i + 1 ≤ p
        · rw [if_pos h1, if_pos (show i ≤ p by omega)]
        · rw [if_neg h1, dI_s]
          by_cases h2 : p = i
          · rw [if_pos ⟨rfl, h2⟩, if_pos (show i ≤ p by omega), h2, if_pos q]
          · rw [if_neg (fun z => h2 z.2), if_neg (show ¬ i ≤ p by omega)]
    · have n0 : nn (bt (r i) a) = 0 := by rw [show bt (r i) a = 0 by have := bt_lt (r i) a; omega]; rfl
      obtain ⟨D', e1, e2, e3⟩ := ih g (i + 1) D (by omega) (by omega) hd (fun p h1 h2 => hrow p (by omega) h2)
      refine ⟨D', ?_, e2, fun p hp => ?_⟩
      · simp only [n0, reduceIte]
        rw [nn_1]
        exact e1
      · rw [e3 p hp]
        by_cases h1 : i + 1 ≤ p
        · rw [if_pos h1, if_pos (show i ≤ p by omega)]
        · rw [if_neg h1]
          by_cases h2 : p = i
          · rw [if_pos (show i ≤ p by omega), h2, if_neg q, hrow i (Nat.le_refl _) (by omega)]
          · rw [if_neg (show ¬ i ≤ p by omega)]
theorem pairs_l {N nu : Nat} {K : Nat → Nat} (hn : nu ≤ 6) (r : Nat → Nat) (hr : ∀ p, r p < 64) (D : Dat) (hd : dI D 1 0 = nn nu) (hrow : ∀ p, p < nu → dI D 2 p = nn (r p)) : ∀ (k g i s : Nat), i + k = nu → k < g → f_X2_pairs_b4 N nu K g (nn s) (nn i) D = some (nn (s + sm (fun p => sm (bt (r p)) 6 0) k i), D) := by
  intro k
  induction k with
  | zero =>
    intro g i s hi hg
    obtain ⟨g, rfl⟩ : ∃ g', g = g' + 1 := ⟨g - 1, by omega⟩
    rw [f_X2_pairs_b4, hd, if_pos ((nn_le (by omega) (by omega)).mpr (by omega))]
    rfl
  | succ k ih =>
    intro g i s hi hg
    obtain ⟨g, rfl⟩ : ∃ g', g = g' + 1 := ⟨g - 1, by omega⟩
    have i1 := nn_in (k := i) (n := nu) (by omega) (by omega)
    rw [f_X2_pairs_b4, hd, if_neg (by rw [nn_le (by omega) (by omega)]; omega), if_neg i1, e_bc, bS, nn_nat (by omega), hrow i (by omega), bc_v _ (hr i), nn_add, nn_1, ih g (i + 1) _ (by omega) (by omega)]
    show some (nn (s + sm (bt (r i)) 6 0 + sm (fun p => sm (bt (r p)) 6 0) k (i + 1)), D) = some (nn (s + (sm (bt (r i)) 6 0 + sm (fun p => sm (bt (r p)) 6 0) k (i + 1))), D)
    rw [Nat.add_assoc]
/-! the model's rows -/
def wv (u0 : Nat → Nat → Prop) (a b x y : Nat) : Prop := u0 x y ∨ (u0 x a ∧ u0 b y)
def mid (u0 : Nat → Nat → Prop) (nu a b c d : Nat) (D : Dat) : Prop := (∀ k, k < 36 → b01 (dI D 208 k)) ∧ (∀ x y, x < nu → y < nu → (u0 x y → dI D 208 (6 * x + y) = 1) ∧ (dI D 208 (6 * x + y) = 1 → wv u0 a b x y)) ∧ ∀ x y, x < nu → y < nu → (x < c ∨ (x = c ∧ y < d)) → wv u0 a b x y → dI D 208 (6 * x + y) = 1
theorem bel_in {N nu a b : Nat} {u0 : Nat → Nat → Prop} (hn : nu ≤ 6) (ha : a < nu) (hb : b < nu) (rec : Int32 → Int32 → Int32 → Dat → Option (Int32 × Dat)) {c : Nat} (hc : c < nu) {Q : Int32 × Dat → Prop} {E : Dat} (hrec : ∀ D', mid u0 nu a b (c + 1) 0 D' → Ch (fun x _ => x = 208) E D' → Tt (rec (nn a) (nn b) (nn (c + 1)) D') Q) : ∀ (k g d : Nat) (D : Dat), d + k = nu → k < g → dI D 207 1 = nn nu → mid u0 nu a b c d D → Ch (fun x _ => x = 208) E D → Tt (f_X12_below_b61 N rec g (nn a) (nn b) (nn c) (nn d) D) Q := by
  intro k
  induction k with
  | zero =>
    intro g d D hi hg hd hm hch
    obtain ⟨g, rfl⟩ : ∃ g', g = g' + 1 := ⟨g - 1, by omega⟩
    rw [f_X12_below_b61, hd, if_pos ((nn_le (by omega) (by omega)).mpr (by omega)), nn_1]
    exact hrec D ⟨hm.1, hm.2.1, fun x y hx hy h w => hm.2.2 x y hx hy (by omega) w⟩ hch
  | succ k ih =>
    intro g d D hi hg hd hm hch
    obtain ⟨g, rfl⟩ : ∃ g', g = g' + 1 := ⟨g - 1, by omega⟩
    have i1 := nn_in (k := 6 * c + a) (n := 36) (by omega) (by omega)
    have i2 := nn_in (k := 6 * b + d) (n := 36) (by omega) (by omega)
    have i3 := nn_in (k := 6 * c + d) (n := 36) (by omega) (by omega)
    rw [f_X12_below_b61, hd, if_neg (by rw [nn_le (by omega) (by omega)]; omega), six, six, six]
    simp only [i1, i2, i3, reduceIte]
    rw [nn_nat (k := 6 * c + a) (by omega), nn_nat (k := 6 * b + d) (by omega), nn_nat (k := 6 * c + d) (by omega)]
    unfold f_X12_below_b112
    rw [nn_1]
    have key : ∀ D', dI D' 207 1 = nn nu → mid u0 nu a b c (d + 1) D' → Ch (fun x _ => x = 208) E D' → Tt (f_X12_below_b61 N rec g (nn a) (nn b) (nn c) (nn (d + 1)) D') Q := fun D' h1 h2 h3 => ih g (d + 1) D' (by omega) (by omega) h1 h2 h3
    by_cases z1 : dI D 208 (6 * c + a) = 0
    · rw [if_pos z1]
      refine key D hd ⟨hm.1, hm.2.1, fun x y hx hy h w => ?_⟩ hch
      by_cases q : x = c ∧ y = d
      · obtain ⟨rfl, rfl⟩ := q
        rcases w with w | w
        · exact (hm.2.1 x y hx hy).1 w
        · have := (hm.2.1 x a hx ha).1 w.1
          rw [z1] at this
          exact absurd this (by decide)
      · exact hm.2.2 x y hx hy (by omega) w
    · rw [if_neg z1]
      by_cases z2 : dI D 208 (6 * b + d) = 0
      · rw [if_pos z2]
        refine key D hd ⟨hm.1, hm.2.1, fun x y hx hy h w => ?_⟩ hch
        by_cases q : x = c ∧ y = d
        · obtain ⟨rfl, rfl⟩ := q
          rcases w with w | w
          · exact (hm.2.1 x y hx hy).1 w
          · have := (hm.2.1 b y hb hy).1 w.2
            rw [z2] at this
            exact absurd this (by decide)
        · exact hm.2.2 x y hx hy (by omega) w
      · rw [if_neg z2, b1_1]
        have hd2 : d < nu := by omega
        have y1 : dI D 208 (6 * c + a) = 1 := (hm.1 (6 * c + a) (by omega)).resolve_left z1
        have y2 : dI D 208 (6 * b + d) = 1 := (hm.1 (6 * b + d) (by omega)).resolve_left z2
        have w1 : u0 c a := by
          rcases (hm.2.1 c a hc ha).2 y1 with w | w
          · exact w
          · exact w.1
        have w2 : u0 b d := by
          rcases (hm.2.1 b d hb hd2).2 y2 with w | w
          · exact w
          · exact w.2
        have e : ∀ k, dI (sI D 208 (6 * c + d) 1) 208 k = if k = 6 * c + d then 1 else dI D 208 k := fun k => by
          rw [dI_s]
          by_cases q : k = 6 * c + d
          · rw [if_pos ⟨rfl, q⟩, if_pos q]
          · rw [if_neg (fun z => q z.2), if_neg q]
        refine key _ (by rw [dI_s, if_neg (by omega)]; exact hd) ⟨fun k hk => ?_, fun x y hx hy => ?_, fun x y hx hy h w => ?_⟩ (Ch.sI rfl hch)
        · rw [e]
          by_cases q : k = 6 * c + d
          · rw [if_pos q]; exact Or.inr rfl
          · rw [if_neg q]; exact hm.1 k hk
        · rw [e]
          by_cases q : 6 * x + y = 6 * c + d
          · rw [if_pos q]
            obtain ⟨rfl, rfl⟩ : x = c ∧ y = d := by omega
            exact ⟨fun _ => rfl, fun _ => Or.inr ⟨w1, w2⟩⟩
          · rw [if_neg q]; exact hm.2.1 x y hx hy
        · rw [e]
          by_cases q : 6 * x + y = 6 * c + d
          · rw [if_pos q]
          · rw [if_neg q]
            exact hm.2.2 x y hx hy (by omega) w
theorem bel_out {N nu a b : Nat} {u0 : Nat → Nat → Prop} (hN : 1000 ≤ N) (hn : nu ≤ 6) (ha : a < nu) (hb : b < nu) {Q : Int32 × Dat → Prop} {E : Dat} (hE : dI E 207 1 = nn nu) (hfin : ∀ D', mid u0 nu a b nu 0 D' → Ch (fun x _ => x = 208) E D' → Tt (f_X12_below_b129 N N 0 0 D') Q) : ∀ (k g c : Nat) (D : Dat), c + k = nu → k < g → mid u0 nu a b c 0 D → Ch (fun x _ => x = 208) E D → Tt (f_X12_below_b50 N g (nn a) (nn b) (nn c) D) Q := by
  intro k
  induction k with
  | zero =>
    intro g c D hi hg hm hch
    obtain ⟨g, rfl⟩ : ∃ g', g = g' + 1 := ⟨g - 1, by omega⟩
    have hd : dI D 207 1 = nn nu := (hch.i (by omega)).trans hE
    rw [f_X12_below_b50, hd, if_pos ((nn_le (by omega) (by omega)).mpr (by omega))]
    obtain rfl : c = nu := by omega
    exact hfin D hm hch
  | succ k ih =>
    intro g c D hi hg hm hch
    obtain ⟨g, rfl⟩ : ∃ g', g = g' + 1 := ⟨g - 1, by omega⟩
    have hd : dI D 207 1 = nn nu := (hch.i (by omega)).trans hE
    rw [f_X12_below_b50, hd, if_neg (by rw [nn_le (by omega) (by omega)]; omega)]
    exact bel_in hn ha hb _ (show c < nu by omega) (fun D' h1 h2 => ih g (c + 1) D' (by omega) (by omega) h1 h2) nu N 0 D (by omega) (by omega) hd hm hch
def tv (D : Dat) (c d : Nat) : Nat := if dI D 208 (6 * c + d) = 0 then 0 else 1
theorem cnt_in {N nu : Nat} (hn : nu ≤ 6) (D : Dat) (hd : dI D 207 1 = nn nu) (rec : Int32 → Int32 → Dat → Option (Int32 × Dat)) {c : Nat} (hc : c < nu) : ∀ (k g d s : Nat), d + k = nu → k < g → f_X12_below_b141 N rec g (nn s) (nn c) (nn d) D = rec (nn (s + sm (tv D c) k d)) (nn (c + 1)) D := by
  intro k
  induction k with
  | zero =>
    intro g d s hi hg
    obtain ⟨g, rfl⟩ : ∃ g', g = g' + 1 := ⟨g - 1, by omega⟩
    rw [f_X12_below_b141, hd, if_pos ((nn_le (by omega) (by omega)).mpr (by omega)), nn_1]
    rfl
  | succ k ih =>
    intro g d s hi hg
    obtain ⟨g, rfl⟩ : ∃ g', g = g' + 1 := ⟨g - 1, by omega⟩
    have i1 := nn_in (k := 6 * c + d) (n := 36) (by omega) (by omega)
    rw [f_X12_below_b141, hd, if_neg (by rw [nn_le (by omega) (by omega)]; omega), six, if_neg i1, nn_nat (by omega)]
    unfold f_X12_below_b172
    have e : sm (tv D c) (k + 1) d = tv D c d + sm (tv D c) k (d + 1) := rfl
    rw [e, nn_1, ← Nat.add_assoc]
    by_cases z : dI D 208 (6 * c + d) = 0
    · rw [if_pos z, show tv D c d = 0 from if_pos z, show nn s + (0 : Int32) = nn (s + 0) from nn_add s 0]
      exact ih g (d + 1) _ (by omega) (by omega)
    · rw [if_neg z, show tv D c d = 1 from if_neg z, nn_1]
      exact ih g (d + 1) _ (by omega) (by omega)
theorem cnt_out {N nu : Nat} (hN : 1000 ≤ N) (hn : nu ≤ 6) (D : Dat) (hd : dI D 207 1 = nn nu) : ∀ (k g c s : Nat), c + k = nu → k < g → f_X12_below_b129 N g (nn s) (nn c) D = some (nn (s + sm (fun c => sm (tv D c) nu 0) k c), D) := by
  intro k
  induction k with
  | zero =>
    intro g c s hi hg
    obtain ⟨g, rfl⟩ : ∃ g', g = g' + 1 := ⟨g - 1, by omega⟩
    rw [f_X12_below_b129, hd, if_pos ((nn_le (by omega) (by omega)).mpr (by omega))]
    rfl
  | succ k ih =>
    intro g c s hi hg
    obtain ⟨g, rfl⟩ : ∃ g', g = g' + 1 := ⟨g - 1, by omega⟩
    rw [f_X12_below_b129, hd, if_neg (by rw [nn_le (by omega) (by omega)]; omega)]
    rw [show (0 : Int32) = nn 0 from rfl, cnt_in hn D hd _ (show c < nu by omega) nu N 0 s (by omega) (by omega), ih g (c + 1) _ (by omega) (by omega)]
    show some (nn (s + sm (tv D c) nu 0 + sm (fun c => sm (tv D c) nu 0) k (c + 1)), D) = some (nn (s + (sm (tv D c) nu 0 + sm (fun c => sm (tv D c) nu 0) k (c + 1))), D)
    rw [Nat.add_assoc]
