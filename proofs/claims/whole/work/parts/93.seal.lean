/-! join and meet: the first that is nearest -/
def ub (D : Dat) (a b : Nat) : Bool := tv D a b == 1
def vb (w : Bool) (D : Dat) (x y : Nat) : Bool := if w then ub D x y else ub D y x
def al (p : Nat → Bool) : Nat → Nat → Bool
  | 0, _ => true
  | k + 1, i => p i && al p k (i + 1)
def fs (p : Nat → Bool) : Nat → Nat → Int32
  | 0, _ => -1
  | k + 1, i => if p i then nn i else fs p k (i + 1)
/-- c bounds d where d bounds both -/
def jp (w : Bool) (D : Dat) (a b c d : Nat) : Bool := !(vb w D a d && vb w D b d) || vb w D c d
def jb (w : Bool) (D : Dat) (nu a b c : Nat) : Bool := vb w D a c && vb w D b c && al (jp w D a b c) nu 0
def wi (w : Bool) : Int32 := if w then 1 else 0
theorem nn_tv (D : Dat) (a b : Nat) : nn (tv D a b) = if ub D a b then 1 else 0 := by
  unfold ub
  rcases tv_01 D a b with q | q <;> rw [q] <;> rfl
theorem tv_0 (D : Dat) (a b : Nat) : (dI D 208 (6 * a + b) = 0) ↔ ub D a b = false := by
  unfold ub tv
  by_cases q : dI D 208 (6 * a + b) = 0
  · rw [if_pos q]; exact ⟨fun _ => rfl, fun _ => q⟩
  · rw [if_neg q]; exact ⟨fun h => absurd h q, fun h => absurd h (by decide)⟩
theorem least_l {N nu a b c : Nat} {K : Nat → Nat} {D : Dat} (hn : nu ≤ 6) (hd : dI D 1 0 = nn nu) (hm : ILm nu D) (ha : a < nu) (hb : b < nu) (hc : c < nu) : ∀ (k g i : Nat), i + k = nu → k < g → f_X2_isLeastAbove_b3 N nu K g (nn c) (nn a) (nn b) (nn i) D = some (if al (jp true D a b c) k i then 1 else 0, D) := by
  intro k
  induction k with
  | zero =>
    intro g i hi hg
    obtain ⟨g, rfl⟩ : ∃ g', g = g' + 1 := ⟨g - 1, by omega⟩
    rw [f_X2_isLeastAbove_b3, hd, if_pos ((nn_le (by omega) (by omega)).mpr (by omega))]
    rfl
  | succ k ih =>
    intro g i hi hg
    obtain ⟨g, rfl⟩ : ∃ g', g = g' + 1 := ⟨g - 1, by omega⟩
    have hi' : i < nu := by omega
    have e : al (jp true D a b c) (k + 1) i = ((!(ub D a i && ub D b i) || ub D c i) && al (jp true D a b c) k (i + 1)) := rfl
    rw [f_X2_isLeastAbove_b3, hd, if_neg (by rw [nn_le (by omega) (by omega)]; omega), e]
    unfold f_X2_isLeastAbove_b44
    simp only [leads_t hn hd hm ha hi', leads_t hn hd hm hb hi', leads_t hn hd hm hc hi', bS, nn_tv, nn_1, ih g (i + 1) (by omega) (by omega)]
    cases ub D a i <;> cases ub D b i <;> cases ub D c i <;> simp [n10]
theorem great_l {N nu a b c : Nat} {K : Nat → Nat} {D : Dat} (hn : nu ≤ 6) (hd : dI D 1 0 = nn nu) (hm : ILm nu D) (ha : a < nu) (hb : b < nu) (hc : c < nu) : ∀ (k g i : Nat), i + k = nu → k < g → f_X2_isGreatestUnder_b3 N nu K g (nn c) (nn a) (nn b) (nn i) D = some (if al (jp false D a b c) k i then 1 else 0, D) := by
  intro k
  induction k with
  | zero =>
    intro g i hi hg
    obtain ⟨g, rfl⟩ : ∃ g', g = g' + 1 := ⟨g - 1, by omega⟩
    rw [f_X2_isGreatestUnder_b3, hd, if_pos ((nn_le (by omega) (by omega)).mpr (by omega))]
    rfl
  | succ k ih =>
    intro g i hi hg
    obtain ⟨g, rfl⟩ : ∃ g', g = g' + 1 := ⟨g - 1, by omega⟩
    have hi' : i < nu := by omega
    have e : al (jp false D a b c) (k + 1) i = ((!(ub D i a && ub D i b) || ub D i c) && al (jp false D a b c) k (i + 1)) := rfl
    rw [f_X2_isGreatestUnder_b3, hd, if_neg (by rw [nn_le (by omega) (by omega)]; omega), e]
    unfold f_X2_isGreatestUnder_b44
    simp only [leads_t hn hd hm hi' ha, leads_t hn hd hm hi' hb, leads_t hn hd hm hi' hc, bS, nn_tv, nn_1, ih g (i + 1) (by omega) (by omega)]
    cases ub D i a <;> cases ub D i b <;> cases ub D i c <;> simp [n10]
theorem join_l {N nu a b : Nat} {K : Nat → Nat} {D : Dat} (hN : 1000 ≤ N) (hn : nu ≤ 6) (hd : dI D 1 0 = nn nu) (hm : ILm nu D) (ha : a < nu) (hb : b < nu) : ∀ (k g i : Nat), i + k = nu → k < g → f_X2_join_b2 N nu K g (nn a) (nn b) (nn i) D = some (fs (jb true D nu a b) k i, D) := by
  intro k
  induction k with
  | zero =>
    intro g i hi hg
    obtain ⟨g, rfl⟩ : ∃ g', g = g' + 1 := ⟨g - 1, by omega⟩
    rw [f_X2_join_b2, hd, if_pos ((nn_le (by omega) (by omega)).mpr (by omega))]
    rfl
  | succ k ih =>
    intro g i hi hg
    obtain ⟨g, rfl⟩ : ∃ g', g = g' + 1 := ⟨g - 1, by omega⟩
    have hi' : i < nu := by omega
    have e : fs (jb true D nu a b) (k + 1) i = if (ub D a i && ub D b i && al (jp true D a b i) nu 0) then nn i else fs (jb true D nu a b) k (i + 1) := rfl
    rw [f_X2_join_b2, hd, if_neg (by rw [nn_le (by omega) (by omega)]; omega), e]
    unfold f_X2_join_b40 f_X2_isLeastAbove
    have e2 := least_l (N := N) (K := K) hn hd hm ha hb hi' nu N 0 (by omega) (by omega)
    rw [show (0 : Int32) = nn 0 from rfl] at *
    simp only [leads_t hn hd hm ha hi', leads_t hn hd hm hb hi', e2, bS, nn_tv, nn_1, ih g (i + 1) (by omega) (by omega)]
    rw [show nn 0 = (0 : Int32) from rfl]
    cases ub D a i <;> cases ub D b i <;> cases al (jp true D a b i) nu 0 <;> simp [n10]
theorem meet_l {N nu a b : Nat} {K : Nat → Nat} {D : Dat} (hN : 1000 ≤ N) (hn : nu ≤ 6) (hd : dI D 1 0 = nn nu) (hm : ILm nu D) (ha : a < nu) (hb : b < nu) : ∀ (k g i : Nat), i + k = nu → k < g → f_X2_meet_b2 N nu K g (nn a) (nn b) (nn i) D = some (fs (jb false D nu a b) k i, D) := by
  intro k
  induction k with
  | zero =>
    intro g i hi hg
    obtain ⟨g, rfl⟩ : ∃ g', g = g' + 1 := ⟨g - 1, by omega⟩
    rw [f_X2_meet_b2, hd, if_pos ((nn_le (by omega) (by omega)).mpr (by omega))]
    rfl
  | succ k ih =>
    intro g i hi hg
    obtain ⟨g, rfl⟩ : ∃ g', g = g' + 1 := ⟨g - 1, by omega⟩
    have hi' : i < nu := by omega
    have e : fs (jb false D nu a b) (k + 1) i = if (ub D i a && ub D i b && al (jp false D a b i) nu 0) then nn i else fs (jb false D nu a b) k (i + 1) := rfl
    rw [f_X2_meet_b2, hd, if_neg (by rw [nn_le (by omega) (by omega)]; omega), e]
    unfold f_X2_meet_b40 f_X2_isGreatestUnder
    have e2 := great_l (N := N) (K := K) hn hd hm ha hb hi' nu N 0 (by omega) (by omega)
    rw [show (0 : Int32) = nn 0 from rfl] at *
    simp only [leads_t hn hd hm hi' ha, leads_t hn hd hm hi' hb, e2, bS, nn_tv, nn_1, ih g (i + 1) (by omega) (by omega)]
    rw [show nn 0 = (0 : Int32) from rfl]
    cases ub D i a <;> cases ub D i b <;> cases al (jp false D a b i) nu 0 <;> simp [n10]
theorem e_join {N nu a b : Nat} {K : Nat → Nat} {D : Dat} (hN : 1000 ≤ N) (hn : nu ≤ 6) (hd : dI D 1 0 = nn nu) (hm : ILm nu D) (ha : a < nu) (hb : b < nu) : f_X2_join N nu K (nn a) (nn b) D = some (fs (jb true D nu a b) nu 0, D) := join_l hN hn hd hm ha hb nu N 0 (by omega) (by omega)
theorem e_meet {N nu a b : Nat} {K : Nat → Nat} {D : Dat} (hN : 1000 ≤ N) (hn : nu ≤ 6) (hd : dI D 1 0 = nn nu) (hm : ILm nu D) (ha : a < nu) (hb : b < nu) : f_X2_meet N nu K (nn a) (nn b) D = some (fs (jb false D nu a b) nu 0, D) := meet_l hN hn hd hm ha hb nu N 0 (by omega) (by omega)
/-! the model's nearest -/
theorem e_bound {a b c : Nat} (w : Bool) {D : Dat} (ha : a < 6) (hb : b < 6) (hc : c < 6) : f_X12_bound (nn a) (nn b) (nn c) (wi w) D = some (if vb w D a c && vb w D b c then 1 else 0, D) := by
  have i1 := nn_in (k := 6 * c + a) (n := 36) (by omega) (by omega)
  have i2 := nn_in (k := 6 * c + b) (n := 36) (by omega) (by omega)
  have i3 := nn_in (k := 6 * a + c) (n := 36) (by omega) (by omega)
  have i4 := nn_in (k := 6 * b + c) (n := 36) (by omega) (by omega)
  unfold f_X12_bound f_X12_bound_b73 f_X12_bound_b37 f_X12_bound_b74
  rw [six, six, six, six]
  simp only [i1, i2, i3, i4, reduceIte, b0_1, b1_1]
  rw [nn_nat (k := 6 * c + a) (by omega), nn_nat (k := 6 * c + b) (by omega), nn_nat (k := 6 * a + c) (by omega), nn_nat (k := 6 * b + c) (by omega)]
  simp only [tv_0]
  cases w
  · show (if (0 : Int32) = 0 then _ else _) = some (if (ub D c a && ub D c b) = true then 1 else 0, D)
    rw [if_pos rfl]
    cases ub D c a <;> cases ub D c b <;> rfl
  · show (if (1 : Int32) = 0 then _ else _) = some (if (ub D a c && ub D b c) = true then 1 else 0, D)
    rw [if_neg (by decide)]
    cases ub D a c <;> cases ub D b c <;> rfl
theorem near_in {N nu a b c : Nat} (w : Bool) {D : Dat} (hn : nu ≤ 6) (hd : dI D 207 1 = nn nu) (ha : a < 6) (hb : b < 6) (hc : c < nu) (rec : Int32 → Int32 → Int32 → Int32 → Dat → Option (Int32 × Dat)) : ∀ (k g d : Nat) (fl : Bool), d + k = nu → k < g → f_X12_nearest_b33 N rec g (nn a) (nn b) (wi w) (nn c) (wi fl) (nn d) D = if fl && al (jp w D a b c) k d then some (nn c, D) else rec (nn a) (nn b) (wi w) (nn (c + 1)) D := by
  intro k
  induction k with
  | zero =>
    intro g d fl hi hg
    obtain ⟨g, rfl⟩ : ∃ g', g = g' + 1 := ⟨g - 1, by omega⟩
    rw [f_X12_nearest_b33, hd, if_pos ((nn_le (by omega) (by omega)).mpr (by omega))]
    unfold f_X12_nearest_b110
    rw [nn_1]
    cases fl <;> rfl
  | succ k ih =>
    intro g d fl hi hg
    obtain ⟨g, rfl⟩ : ∃ g', g = g' + 1 := ⟨g - 1, by omega⟩
    have i1 := nn_in (k := 6 * d + c) (n := 36) (by omega) (by omega)
    have i2 := nn_in (k := 6 * c + d) (n := 36) (by omega) (by omega)
    rw [f_X12_nearest_b33, hd, if_neg (by rw [nn_le (by omega) (by omega)]; omega), e_bound w ha hb (show d < 6 by omega), bS, six, six]
    unfold f_X12_nearest_b93 f_X12_nearest_b96
    simp only [i1, i2, reduceIte]
    rw [nn_nat (k := 6 * d + c) (by omega), nn_nat (k := 6 * c + d) (by omega), nn_1]
    simp only [tv_0]
    have h1 := ih g (d + 1) fl (by omega) (by omega)
    have h0 := ih g (d + 1) false (by omega) (by omega)
    rw [show wi false = (0 : Int32) from rfl] at h0
    have e : al (jp w D a b c) (k + 1) d = ((!(vb w D a d && vb w D b d) || vb w D c d) && al (jp w D a b c) k (d + 1)) := rfl
    rw [h1, h0, e]
    cases w
    · rw [show vb false D c d = ub D d c from rfl]
      cases (vb false D a d && vb false D b d) <;> cases ub D d c <;> simp [n10, wi]
    · rw [show vb true D c d = ub D c d from rfl]
      cases (vb true D a d && vb true D b d) <;> cases ub D c d <;> simp [n10, wi]
theorem near_out {N nu a b : Nat} (w : Bool) {D : Dat} (hN : 1000 ≤ N) (hn : nu ≤ 6) (hd : dI D 207 1 = nn nu) (ha : a < 6) (hb : b < 6) : ∀ (k g c : Nat), c + k = nu → k < g → f_X12_nearest_b3 N g (nn a) (nn b) (wi w) (nn c) D = some (fs (jb w D nu a b) k c, D) := by
  intro k
  induction k with
  | zero =>
    intro g c hi hg
    obtain ⟨g, rfl⟩ : ∃ g', g = g' + 1 := ⟨g - 1, by omega⟩
    rw [f_X12_nearest_b3, hd, if_pos ((nn_le (by omega) (by omega)).mpr (by omega))]
    rfl
  | succ k ih =>
    intro g c hi hg
    obtain ⟨g, rfl⟩ : ∃ g', g = g' + 1 := ⟨g - 1, by omega⟩
    rw [f_X12_nearest_b3, hd, if_neg (by rw [nn_le (by omega) (by omega)]; omega), e_bound w ha hb (show c < 6 by omega), bS]
    have h1 := near_in (N := N) w hn hd ha hb (show c < nu by omega) (f_X12_nearest_b3 N g) nu N 0 true (by omega) (by omega)
    rw [show wi true = (1 : Int32) from rfl, show nn 0 = (0 : Int32) from rfl] at h1
    unfold f_X12_nearest_b110
    rw [nn_1, h1, ih g (c + 1) (by omega) (by omega)]
    have e : fs (jb w D nu a b) (k + 1) c = if (vb w D a c && vb w D b c && al (jp w D a b c) nu 0) then nn c else fs (jb w D nu a b) k (c + 1) := rfl
    rw [e]
    cases (vb w D a c && vb w D b c) <;> cases al (jp w D a b c) nu 0 <;> simp [n10]
theorem e_near {N nu a b : Nat} (w : Bool) {D : Dat} (hN : 1000 ≤ N) (hn : nu ≤ 6) (hd : dI D 207 1 = nn nu) (ha : a < 6) (hb : b < 6) : f_X12_nearest N (nn a) (nn b) (wi w) D = some (fs (jb w D nu a b) nu 0, D) := near_out w hN hn hd ha hb nu N 0 (by omega) (by omega)
theorem nn_nm1 {k : Nat} (h : k < 2147483648) : ¬ nn k = -1 := fun q => by
  have := congrArg Int32.toInt q
  rw [nn_int h] at this
  have h1 : (-1 : Int32).toInt = -1 := by decide
  omega
theorem al_iff {p : Nat → Bool} : ∀ (k i : Nat), al p k i = true ↔ ∀ d, i ≤ d → d < i + k → p d = true := by
  intro k
  induction k with
  | zero => intro i; exact ⟨fun _ d h1 h2 => absurd h2 (by omega), fun _ => rfl⟩
  | succ k ih =>
    intro i
    show (p i && al p k (i + 1)) = true ↔ _
    rw [Bool.and_eq_true, ih]
    constructor
    · intro h d h1 h2
      by_cases q : d = i
      · rw [q]; exact h.1
      · exact h.2 d (by omega) (by omega)
    · intro h
      exact ⟨h i (Nat.le_refl _) (by omega), fun d h1 h2 => h d (by omega) (by omega)⟩
theorem fs_sp {p : Nat → Bool} : ∀ (k i : Nat), (fs p k i = -1 ∧ ∀ c, i ≤ c → c < i + k → p c = false) ∨ ∃ c, i ≤ c ∧ c < i + k ∧ p c = true ∧ fs p k i = nn c := by
  intro k
  induction k with
  | zero => intro i; exact Or.inl ⟨rfl, fun c h1 h2 => absurd h2 (by omega)⟩
  | succ k ih =>
    intro i
    by_cases q : p i = true
    · exact Or.inr ⟨i, Nat.le_refl _, by omega, q, if_pos q⟩
    · have e : fs p (k + 1) i = fs p k (i + 1) := if_neg q
      rw [e]
      rcases ih (i + 1) with ⟨h1, h2⟩ | ⟨c, h1, h2, h3, h4⟩
      · refine Or.inl ⟨h1, fun c g1 g2 => ?_⟩
        by_cases z : c = i
        · rw [z]; exact Bool.eq_false_iff.mpr q
        · exact h2 c (by omega) (by omega)
      · exact Or.inr ⟨c, by omega, by omega, h3, h4⟩
theorem ub_iff {D : Dat} {a b : Nat} (hu : ILu D) (ha : a < 6) (hb : b < 6) : ub D a b = true ↔ U D a b := by
  unfold ub
  rw [beq_iff_eq, tv_1 hu (by omega)]
theorem jb_J {D : Dat} {nu a b c : Nat} (hu : ILu D) (hn : nu ≤ 6) (ha : a < 6) (hb : b < 6) (hc : c < 6) : jb true D nu a b c = true ↔ isJ D nu a b c := by
  unfold jb isJ
  rw [Bool.and_eq_true, Bool.and_eq_true, al_iff, show vb true D a c = ub D a c from rfl, show vb true D b c = ub D b c from rfl, ub_iff hu ha hc, ub_iff hu hb hc, and_assoc]
  refine and_congr_right (fun _ => and_congr_right (fun _ => ?_))
  have key : ∀ d, d < nu → (jp true D a b c d = true ↔ (U D a d → U D b d → U D c d)) := fun d hd => by
    have e : jp true D a b c d = (!(ub D a d && ub D b d) || ub D c d) := rfl
    have x1 := ub_iff hu ha (show d < 6 by omega)
    have x2 := ub_iff hu hb (show d < 6 by omega)
    have x3 := ub_iff hu hc (show d < 6 by omega)
    rw [e, ← x1, ← x2, ← x3]
    cases ub D a d <;> cases ub D b d <;> cases ub D c d <;> simp
  exact ⟨fun h d hd => (key d hd).mp (h d (Nat.zero_le _) (by omega)), fun h d _ hd => (key d (by omega)).mpr (h d (by omega))⟩
theorem jb_M {D : Dat} {nu a b c : Nat} (hu : ILu D) (hn : nu ≤ 6) (ha : a < 6) (hb : b < 6) (hc : c < 6) : jb false D nu a b c = true ↔ isM D nu a b c := by
  unfold jb isM
  rw [Bool.and_eq_true, Bool.and_eq_true, al_iff, show vb false D a c = ub D c a from rfl, show vb false D b c = ub D c b from rfl, ub_iff hu hc ha, ub_iff hu hc hb, and_assoc]
  refine and_congr_right (fun _ => and_congr_right (fun _ => ?_))
  have key : ∀ d, d < nu → (jp false D a b c d = true ↔ (U D d a → U D d b → U D d c)) := fun d hd => by
    have e : jp false D a b c d = (!(ub D d a && ub D d b) || ub D d c) := rfl
    have x1 := ub_iff hu (show d < 6 by omega) ha
    have x2 := ub_iff hu (show d < 6 by omega) hb
    have x3 := ub_iff hu (show d < 6 by omega) hc
    rw [e, ← x1, ← x2, ← x3]
    cases ub D d a <;> cases ub D d b <;> cases ub D d c <;> simp
  exact ⟨fun h d hd => (key d hd).mp (h d (Nat.zero_le _) (by omega)), fun h d _ hd => (key d (by omega)).mpr (h d (by omega))⟩
