/-! labels: sets of shades, the least solution -/
def le (a b : Nat) : Prop := a ||| b = b
theorem le_rf (a : Nat) : le a a := Nat.or_self a
theorem le_0 (a : Nat) : le 0 a := Nat.zero_or a
theorem le_tr {a b c : Nat} (h : le a b) (g : le b c) : le a c := by
  unfold le at *
  rw [← g, ← Nat.or_assoc, h]
theorem le_as {a b : Nat} (h : le a b) (g : le b a) : a = b := by
  unfold le at *
  rw [← g, Nat.or_comm, h]
theorem le_l (a b : Nat) : le a (a ||| b) := by
  unfold le
  rw [← Nat.or_assoc, Nat.or_self]
theorem le_r (a b : Nat) : le b (a ||| b) := by
  rw [Nat.or_comm]; exact le_l b a
theorem or_le {a b c : Nat} (h : le a c) (g : le b c) : le (a ||| b) c := by
  unfold le at *
  rw [Nat.or_assoc, g, h]
theorem or_mono {a b c d : Nat} (h : le a c) (g : le b d) : le (a ||| b) (c ||| d) := or_le (le_tr h (le_l c d)) (le_tr g (le_r c d))
theorem or_abs {a b : Nat} (h : le b a) : a ||| b = a := by
  unfold le at h
  rw [Nat.or_comm, h]
/-- shades of rows, shades of labels, which variables are fixed -/
abbrev Ev : Type := (Nat → Nat) × (Nat → Nat) × (Nat → Bool)
/-- what an instruction takes -/
def tS (M : Nat → Nat → Nat) (i h : Nat) : Nat → Nat
  | 0 => 0
  | j + 1 => tS M i h j ||| M i (26 + h - (j + 1))
def dS (o : Nat → Nat) (hv : Nat → Option Nat) (L : Nat → Nat) (M : Nat → Nat → Nat) (i : Nat) : Nat := L i ||| tS M i ((hv i).getD 0) (tk (o i))
def srS (o : Nat → Nat) (x : Nat → Int32) (e : Ev) (M : Nat → Nat → Nat) (i : Nat) : Nat := if o i = 1 then M i (tg (x i)) else if o i = 3 then e.1 (tg (x i)) else if o i = 13 then e.2.1 (tg (x i)) else 0
/-- what an instruction has behind it -/
def afS (o : Nat → Nat) (x : Nat → Int32) (hv : Nat → Option Nat) (e : Ev) (L : Nat → Nat) (M : Nat → Nat → Nat) (i k : Nat) : Nat := if pu (o i) = 1 ∧ k = 26 + ((hv i).getD 0 - tk (o i)) then dS o hv L M i ||| srS o x e M i else if o i = 2 ∧ k = tg (x i) ∧ e.2.2 (tg (x i)) = false then dS o hv L M i else M i k
/-- what is asked of one that is reached -/
def Con (o : Nat → Nat) (x : Nat → Int32) (sz : Nat) (hv : Nat → Option Nat) (e : Ev) (rg : Nat → Nat → Prop) (L : Nat → Nat) (M : Nat → Nat → Nat) (i : Nat) : Prop := (o i = 11 → ∀ q, q < sz → rg i q → le (dS o hv L M i) (L q)) ∧ ∀ q, nx o x i q → ∀ k, k < 26 + nh o hv i → le (afS o x hv e L M i k) (M q k)
def Sol (o : Nat → Nat) (x : Nat → Int32) (sz : Nat) (hv : Nat → Option Nat) (e : Ev) (rg : Nat → Nat → Prop) (L : Nat → Nat) (M : Nat → Nat → Nat) : Prop := ∀ i h, hv i = some h → Con o x sz hv e rg L M i
def leS (hv : Nat → Option Nat) (L : Nat → Nat) (M : Nat → Nat → Nat) (L' : Nat → Nat) (M' : Nat → Nat → Nat) : Prop := ∀ i h, hv i = some h → le (L i) (L' i) ∧ ∀ k, k < 26 + h → le (M i k) (M' i k)
theorem tS_mono {M M' : Nat → Nat → Nat} {i h : Nat} (hm : ∀ k, k < 26 + h → le (M i k) (M' i k)) : ∀ j, j ≤ h → le (tS M i h j) (tS M' i h j) := by
  intro j
  induction j with
  | zero => intro _; exact le_rf _
  | succ j ih => intro hj; exact or_mono (ih (by omega)) (hm _ (by omega))
theorem dS_mono {o : Nat → Nat} {hv : Nat → Option Nat} {L L' : Nat → Nat} {M M' : Nat → Nat → Nat} {i h : Nat} (hi : hv i = some h) (ht : tk (o i) ≤ h) (hl : le (L i) (L' i)) (hm : ∀ k, k < 26 + h → le (M i k) (M' i k)) : le (dS o hv L M i) (dS o hv L' M' i) := by
  unfold dS
  rw [hi]
  exact or_mono hl (tS_mono hm _ ht)
theorem afS_mono {nu sz : Nat} {o : Nat → Nat} {x : Nat → Int32} (hG : GC nu sz o x) {hv : Nat → Option Nat} {e : Ev} {L L' : Nat → Nat} {M M' : Nat → Nat → Nat} {i h : Nat} (his : i < sz) (hi : hv i = some h) (ht : tk (o i) ≤ h) (hl : le (L i) (L' i)) (hm : ∀ k, k < 26 + h → le (M i k) (M' i k)) {k : Nat} (hk : k < 26 + nh o hv i) : le (afS o x hv e L M i k) (afS o x hv e L' M' i k) := by
  have d := dS_mono (o := o) hi ht hl hm
  have eg : (hv i).getD 0 = h := by rw [hi]; rfl
  have en : nh o hv i = h - tk (o i) + pu (o i) := by unfold nh; rw [eg]
  have hp := pu_le (o i)
  unfold afS
  by_cases c : pu (o i) = 1 ∧ k = 26 + ((hv i).getD 0 - tk (o i))
  · rw [if_pos c, if_pos c]
    refine or_mono d ?_
    unfold srS
    by_cases c1 : o i = 1
    · rw [if_pos c1, if_pos c1]
      refine hm _ ?_
      have f := hG.2.2.1 i his
      unfold fb bd at f
      rw [c1] at f
      have f' := of_decide_eq_true f
      obtain ⟨t, ht', et⟩ := nn_of f'.1
      unfold tg
      rw [et, nn_nat ht']
      rw [et, nn_int ht'] at f'
      omega
    · rw [if_neg c1, if_neg c1]; exact le_rf _
  · rw [if_neg c, if_neg c]
    by_cases c2 : o i = 2 ∧ k = tg (x i) ∧ e.2.2 (tg (x i)) = false
    · rw [if_pos c2, if_pos c2]; exact d
    · rw [if_neg c2, if_neg c2]
      refine hm k ?_
      rw [eg] at c
      by_cases c3 : pu (o i) = 1
      · have : ¬ k = 26 + (h - tk (o i)) := fun w => c ⟨c3, w⟩
        omega
      · omega
/-- what the class finds and what the model finds are the same -/
theorem fix_eq {nu sz : Nat} {o : Nat → Nat} {x : Nat → Int32} (hG : GC nu sz o x) {hv : Nat → Option Nat} (hV : HV o x sz hv) {e : Ev} {rg : Nat → Nat → Prop} {fx : Nat → Nat} (hf : ∀ v, e.2.2 v = false → fx v = 0) {L L' : Nat → Nat} {M M' : Nat → Nat → Nat}
    (c1 : Sol o x sz hv e rg L M) (c2 : ∀ v, v < 26 → le (fx v) (M 0 v)) (c3 : ∀ T U, Sol o x sz hv e rg T U → (∀ v, v < 26 → le (fx v) (U 0 v)) → leS hv L M T U)
    (m1 : Sol o x sz hv e rg L' M') (m2 : ∀ i h v, hv i = some h → v < 26 → le (fx v) (M' i v)) (m3 : ∀ T U, Sol o x sz hv e rg T U → (∀ i h v, hv i = some h → v < 26 → le (fx v) (U i v)) → leS hv L' M' T U) :
    ∀ i h, hv i = some h → L i = L' i ∧ ∀ k, k < 26 + h → M i k = M' i k := by
  have a1 := c3 L' M' m1 (fun v hv' => m2 0 0 v hV.1 hv')
  have key : ∀ i, R0 o x i → ∀ h v, hv i = some h → v < 26 → le (fx v) (M i v) := by
    have step : ∀ i q v, v < 26 → (∃ h, hv i = some h) → nx o x i q → le (fx v) (M i v) → le (fx v) (M q v) := by
      intro i q v hv' ⟨h, hi⟩ hq hle
      by_cases f : e.2.2 v = false
      · rw [hf v f]; exact le_0 _
      · obtain ⟨his, hb, -, k, l1, l2, l3, l4, l5⟩ := hV.2 i h hi
        have := (c1 i h hi).2 q hq v (by omega)
        have ea : afS o x hv e L M i v = M i v := by
          unfold afS
          rw [if_neg (by omega), if_neg]
          intro w
          rw [← w.2.1] at w
          exact f w.2.2
        rw [ea] at this
        exact le_tr hle this
    intro i hi
    rcases hi with hi | hi
    · intro h v _ hv'; rw [hi]; exact c2 v hv'
    · have := Rc.ind (P := fun i => (∃ h, hv i = some h) ∧ ∀ v, v < 26 → le (fx v) (M i v)) (fun q h1 _ => ?_) (fun r q hr h1 _ => ?_) hi
      · exact fun h v _ hv' => this.2 v hv'
      · obtain ⟨-, -, -, k, l1, -, -, -, l5⟩ := hV.2 0 0 hV.1
        exact ⟨⟨_, l5 q h1⟩, fun v hv' => step 0 q v hv' ⟨0, hV.1⟩ h1 (c2 v hv')⟩
      · obtain ⟨⟨h, hr1⟩, hr2⟩ := hr
        obtain ⟨-, -, -, k, l1, -, -, -, l5⟩ := hV.2 r h hr1
        exact ⟨⟨_, l5 q h1⟩, fun v hv' => step r q v hv' ⟨h, hr1⟩ h1 (hr2 v hv')⟩
  have a2 := m3 L M c1 (fun i h v hi hv' => key i (hV.2 i h hi).2.2.1 h v hi hv')
  exact fun i h hi => ⟨le_as (a1 i h hi).1 (a2 i h hi).1, fun k hk => le_as ((a1 i h hi).2 k hk) ((a2 i h hi).2 k hk)⟩
/-! shades of labels -/
def shn (nu m : Nat) : Nat := (63 - m) &&& (2 ^ nu - 1)
theorem shn_v : ∀ nu, nu < 7 → ∀ m, m < 64 → ((nn m ^^^ (-1 : Int32)) &&& (((1 : Int32) <<< (nn nu &&& 31)) - (1 : Int32))) = nn (shn nu m) := by decide +kernel
theorem shn_b : ∀ nu, nu < 7 → ∀ m, m < 64 → ∀ b, b < 6 → bt (shn nu m) b = if b < nu then 1 - bt m b else 0 := by decide +kernel
theorem shn_lt : ∀ nu, nu < 7 → ∀ m, m < 64 → shn nu m < 64 := by decide +kernel
theorem ext64 : ∀ a, a < 64 → ∀ b, b < 64 → (∀ k, k < 6 → bt a k = bt b k) → a = b := by decide +kernel
def sh (nu : Nat) (D : Dat) (a : Nat) : Nat := shn nu (dI D 2 a).toNatClampNeg
theorem sh_bits {nu : Nat} {D : Dat} (hn : nu ≤ 6) (hu : ILu D) (hm : ILm nu D) {a : Nat} (ha : a < nu) : sh nu D a < 64 ∧ ∀ b, b < 6 → (bt (sh nu D a) b = 1 ↔ (b < nu ∧ ¬ U D a b)) := by
  obtain ⟨m, m1, m2, m3⟩ := hm a ha
  have e : sh nu D a = shn nu m := by unfold sh; rw [m2, nn_nat (by omega)]
  rw [e]
  refine ⟨shn_lt nu (by omega) m m1, fun b hb => ?_⟩
  rw [shn_b nu (by omega) m m1 b hb, m3 b hb]
  by_cases c : b < nu
  · rw [if_pos c, if_pos c, ← tv_1 hu (show 6 * a + b < 36 by omega)]
    rcases tv_01 D a b with q | q <;> rw [q] <;> simp [c]
  · rw [if_neg c]
    exact ⟨fun w => absurd w (by decide), fun w => absurd w.1 c⟩
theorem e_shade {nu : Nat} {K : Nat → Nat} {D : Dat} (hn : nu ≤ 6) (hd : dI D 1 0 = nn nu) (hm : ILm nu D) {a : Nat} (ha : a < nu) : f_X2_shade nu K (nn a) D = some (nn (sh nu D a), D) := by
  obtain ⟨m, m1, m2, m3⟩ := hm a ha
  have i1 := nn_in (k := a) (n := nu) (by omega) ha
  unfold f_X2_shade f_X2_shade_b29 sh
  simp only [has_yes hn ha hd, bS, n10, i1, reduceIte]
  rw [nn_nat (by omega), m2, hd, shn_v nu (by omega) m m1, nn_nat (by omega)]
theorem e_shade1 {nu : Nat} {K : Nat → Nat} {D : Dat} (hn : nu ≤ 6) (hd : dI D 1 0 = nn nu) : f_X2_shade nu K (-1) D = some (0, D) := by
  unfold f_X2_shade f_X2_shade_b29
  rw [has_no hn (Or.inl (by decide)) hd, bS]
  rfl
theorem bt_dec (a b : Nat) : ¬ bt a b = 1 ↔ bt a b = 0 := by have := bt_lt a b; omega
theorem sh_inj {nu : Nat} {D : Dat} (hn : nu ≤ 6) (hL : Lat nu D) (hs : dI D 207 5 = 1) {a b : Nat} (ha : a < nu) (hb : b < nu) (h : sh nu D a = sh nu D b) : a = b := by
  obtain ⟨hu, hm, ho, hS⟩ := hL
  have x1 := sh_bits hn hu hm ha
  have x2 := sh_bits hn hu hm hb
  refine (hS hs).1 a b ha hb ?_ ?_
  · by_cases c : U D a b
    · exact c
    · have := (x1.2 b (by omega)).mpr ⟨hb, c⟩
      rw [h] at this
      exact absurd (ho.1 b hb) ((x2.2 b (by omega)).mp this).2
  · by_cases c : U D b a
    · exact c
    · have := (x2.2 a (by omega)).mpr ⟨ha, c⟩
      rw [← h] at this
      exact absurd (ho.1 a ha) ((x1.2 a (by omega)).mp this).2
theorem sh_join {nu : Nat} {D : Dat} (hn : nu ≤ 6) (hL : Lat nu D) (hs : dI D 207 5 = 1) {a b : Nat} (ha : a < nu) (hb : b < nu) : ∃ j, j < nu ∧ f_X12_join (nn a) (nn b) D = some (nn j, D) ∧ sh nu D j = sh nu D a ||| sh nu D b := by
  obtain ⟨hu, hm, ho, hS⟩ := hL
  obtain ⟨⟨j, j1, j2, j3, j4, j5⟩, -⟩ := (hS hs).2.1 a b ha hb
  have x1 := sh_bits hn hu hm ha
  have x2 := sh_bits hn hu hm hb
  have x3 := sh_bits hn hu hm j1
  have i1 := nn_in (k := 6 * a + b) (n := 36) (by omega) (by omega)
  refine ⟨j, j1, ?_, ?_⟩
  · unfold f_X12_join
    rw [six, if_neg i1, nn_nat (by omega), j2]
  · refine ext64 _ x3.1 _ (lor64 _ x1.1 _ x2.1) (fun k hk => ?_)
    rw [bt_lor _ x1.1 _ x2.1 k hk]
    have key : bt (sh nu D j) k = 1 ↔ (bt (sh nu D a) k = 1 ∨ bt (sh nu D b) k = 1) := by
      rw [x3.2 k hk, x1.2 k hk, x2.2 k hk]
      constructor
      · intro ⟨w1, w2⟩
        by_cases c : U D a k
        · exact Or.inr ⟨w1, fun w => w2 (j5 k w1 c w)⟩
        · exact Or.inl ⟨w1, c⟩
      · intro w
        rcases w with w | w
        · exact ⟨w.1, fun v => w.2 (ho.2 a j k ha j1 w.1 j3 v)⟩
        · exact ⟨w.1, fun v => w.2 (ho.2 b j k hb j1 w.1 j4 v)⟩
    by_cases c : bt (sh nu D a) k = 1 ∨ bt (sh nu D b) k = 1
    · rw [if_pos c, key.mpr c]
    · rw [if_neg c]
      exact (bt_dec _ _).mp (fun w => c (key.mp w))
theorem sh_bot {nu : Nat} {D : Dat} (hn : nu ≤ 6) (hL : Lat nu D) (hs : dI D 207 5 = 1) : ∃ B, B < nu ∧ dI D 207 6 = nn B ∧ dI D 1 3 = nn B ∧ sh nu D B = 0 ∧ ∀ a, a < nu → U D B a := by
  obtain ⟨hu, hm, ho, hS⟩ := hL
  obtain ⟨-, -, B, b1, b2, b3, b4⟩ := hS hs
  have x1 := sh_bits hn hu hm b1
  refine ⟨B, b1, b2, b3, ?_, b4⟩
  refine ext64 _ x1.1 _ (by decide) (fun k hk => ?_)
  have : bt 0 k = 0 := by unfold bt; rw [Nat.zero_shiftRight]
  rw [this]
  exact (bt_dec _ _).mp (fun w => ((x1.2 k hk).mp w).2 (b4 k ((x1.2 k hk).mp w).1))
theorem bt_nn : ∀ m, m < 64 → ∀ b, b < 6 → (((nn m) >>> (nn b &&& 31)) &&& (1 : Int32) = 0 ↔ bt m b = 0) := by decide +kernel
/-- d fits a label, or bottom -/
theorem e_fits {nu : Nat} {D : Dat} (hn : nu ≤ 6) (hd : dI D 1 0 = nn nu) (hL : Lat nu D) {d : Nat} (hdn : d < nu) {a : Nat} (ha : a < nu) : ∃ b : Bool, f_X2_fits (nn (sh nu D d)) (nn a) D = some (wi b, D) ∧ (b = true ↔ U D d a) := by
  have x1 := sh_bits hn hL.1 hL.2.1 hdn
  unfold f_X2_fits f_X2_fits_b33
  rw [has_yes hn ha hd, bS]
  simp only [n10, reduceIte, b0_1, b1_1, bt_nn _ x1.1 a (show a < 6 by omega)]
  by_cases c : bt (sh nu D d) a = 0
  · rw [if_pos c]
    refine ⟨true, rfl, fun _ => ?_, fun _ => rfl⟩
    exact Classical.not_not.mp (fun w => by have := (x1.2 a (by omega)).mpr ⟨ha, w⟩; omega)
  · rw [if_neg c]
    refine ⟨false, rfl, fun w => absurd w (by decide), fun w => ?_⟩
    have h1 : bt (sh nu D d) a = 1 := by have := bt_lt (sh nu D d) a; omega
    exact absurd w ((x1.2 a (by omega)).mp h1).2
theorem e_fits1 {nu : Nat} {D : Dat} (hn : nu ≤ 6) (hd : dI D 1 0 = nn nu) (hL : Lat nu D) {d : Nat} (hdn : d < nu) : ∃ b : Bool, f_X2_fits (nn (sh nu D d)) (-1) D = some (wi b, D) ∧ (b = true ↔ ∀ a, a < nu → U D d a) := by
  have x1 := sh_bits hn hL.1 hL.2.1 hdn
  unfold f_X2_fits f_X2_fits_b33
  rw [has_no hn (Or.inl (by decide)) hd, bS]
  simp only [reduceIte, b0_1, b1_1]
  by_cases c : sh nu D d = 0
  · rw [if_pos (by rw [c]; rfl)]
    refine ⟨true, rfl, fun _ a ha => ?_, fun _ => rfl⟩
    refine Classical.not_not.mp (fun w => ?_)
    have := (x1.2 a (by omega)).mpr ⟨ha, w⟩
    rw [c] at this
    unfold bt at this
    rw [Nat.zero_shiftRight] at this
    exact absurd this (by decide)
  · rw [if_neg (show ¬ nn (sh nu D d) = (0 : Int32) from ne_op (b := 0) (by omega) (by omega) c)]
    refine ⟨false, rfl, fun w => absurd w (by decide), fun w => ?_⟩
    exfalso
    apply c
    refine ext64 _ x1.1 _ (by decide) (fun k hk => ?_)
    have : bt 0 k = 0 := by unfold bt; rw [Nat.zero_shiftRight]
    rw [this]
    exact (bt_dec _ _).mp (fun v => ((x1.2 k hk).mp v).2 (w k ((x1.2 k hk).mp v).1))
theorem labelOf_l {N nu : Nat} {K : Nat → Nat} {D : Dat} (hn : nu ≤ 6) (hd : dI D 1 0 = nn nu) (hL : Lat nu D) (hs : dI D 207 5 = 1) {d : Nat} (hdn : d < nu) : ∀ (k g i : Nat), i + k = nu → k < g → i ≤ d → f_X2_labelOf_b2 N nu K g (nn (sh nu D d)) (nn i) D = some (nn d, D) := by
  have x1 := sh_bits hn hL.1 hL.2.1 hdn
  intro k
  induction k with
  | zero => intro g i hi hg hid; omega
  | succ k ih =>
    intro g i hi hg hid
    obtain ⟨g, rfl⟩ : ∃ g', g = g' + 1 := ⟨g - 1, by omega⟩
    have hi' : i < nu := by omega
    have x2 := sh_bits hn hL.1 hL.2.1 hi'
    rw [f_X2_labelOf_b2, hd, if_neg (by rw [nn_le (by omega) (by omega)]; omega), e_shade hn hd hL.2.1 hi', bS]
    by_cases c : i = d
    · rw [if_pos (by rw [c]), c]
    · rw [if_neg (by rw [nn_eq (by omega) (by omega)]; exact fun w => c (sh_inj hn hL hs hi' hdn w)), nn_1]
      exact ih g (i + 1) (by omega) (by omega) (by omega)
theorem e_labelOf {N nu : Nat} {K : Nat → Nat} {D : Dat} (hN : 1000 ≤ N) (hn : nu ≤ 6) (hd : dI D 1 0 = nn nu) (hL : Lat nu D) (hs : dI D 207 5 = 1) {d : Nat} (hdn : d < nu) : f_X2_labelOf N nu K (nn (sh nu D d)) D = some (nn d, D) := labelOf_l (N := N) hn hd hL hs hdn nu N 0 (by omega) (by omega) (Nat.zero_le _)
