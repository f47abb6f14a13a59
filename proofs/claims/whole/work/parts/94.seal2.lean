/-! seal: the first pair that doesn't fit -/
def qM (D : Dat) (a b : Nat) : Bool := ub D a b && ub D b a
def qU (D : Dat) (nu a b : Nat) : Bool := decide (fs (jb true D nu a b) nu 0 = -1) || decide (fs (jb false D nu a b) nu 0 = -1)
def qqs (w : Bool) (D : Dat) (nu : Nat) : Nat → Nat → Bool := if w then qU D nu else qM D
def inn (q : Nat → Nat → Bool) (a : Nat) : Nat → Int32 → Int32
  | 0, z => z
  | k + 1, z => inn q a k (if q a (a + k + 1) then nn (10 * a + (a + k + 1)) else z)
def ou (q : Nat → Nat → Bool) (nu : Nat) : Nat → Int32 → Int32
  | 0, z => z
  | k + 1, z => ou q nu k (inn q k (nu - 1 - k) z)
def fw (q : Nat → Nat → Bool) (a : Nat) : Nat → Nat → Int32 → Int32
  | 0, _, z => z
  | k + 1, i, z => if q a i then nn (10 * a + i) else fw q a k (i + 1) z
def fo (q : Nat → Nat → Bool) (nu : Nat) : Nat → Nat → Int32 → Int32
  | 0, _, z => z
  | k + 1, a, z => fw q a (nu - 1 - a) (a + 1) (fo q nu k (a + 1) z)
theorem ten (a b : Nat) : (10 : Int32) * nn a + nn b = nn (10 * a + b) := by rw [nn_l, nn_mul, nn_add]
theorem fw_snoc {q : Nat → Nat → Bool} {a : Nat} : ∀ (k i : Nat) (z : Int32), fw q a (k + 1) i z = fw q a k i (if q a (i + k) then nn (10 * a + (i + k)) else z) := by
  intro k
  induction k with
  | zero => intro i z; rfl
  | succ k ih =>
    intro i z
    show (if q a i then nn (10 * a + i) else fw q a (k + 1) (i + 1) z) = (if q a i then nn (10 * a + i) else fw q a k (i + 1) (if q a (i + (k + 1)) then nn (10 * a + (i + (k + 1))) else z))
    rw [ih (i + 1) z, show i + 1 + k = i + (k + 1) by omega]
theorem inn_fw {q : Nat → Nat → Bool} {a : Nat} : ∀ (k : Nat) (z : Int32), inn q a k z = fw q a k (a + 1) z := by
  intro k
  induction k with
  | zero => intro z; rfl
  | succ k ih =>
    intro z
    rw [fw_snoc]
    show inn q a k _ = _
    rw [ih, show a + 1 + k = a + k + 1 by omega]
theorem fo_snoc {q : Nat → Nat → Bool} {nu : Nat} : ∀ (k i : Nat) (z : Int32), fo q nu (k + 1) i z = fo q nu k i (fw q (i + k) (nu - 1 - (i + k)) (i + k + 1) z) := by
  intro k
  induction k with
  | zero => intro i z; rfl
  | succ k ih =>
    intro i z
    show fw q i (nu - 1 - i) (i + 1) (fo q nu (k + 1) (i + 1) z) = fw q i (nu - 1 - i) (i + 1) (fo q nu k (i + 1) _)
    rw [ih (i + 1) z, show i + 1 + k = i + (k + 1) by omega]
theorem ou_fo {q : Nat → Nat → Bool} {nu : Nat} : ∀ (k : Nat) (z : Int32), ou q nu k z = fo q nu k 0 z := by
  intro k
  induction k with
  | zero => intro z; rfl
  | succ k ih =>
    intro z
    rw [fo_snoc]
    show ou q nu k _ = _
    rw [ih, inn_fw, Nat.zero_add]
theorem fw_z {q : Nat → Nat → Bool} {a : Nat} (ha : a < 6) : ∀ (k i : Nat) (z : Int32), i + k ≤ 6 → fw q a k i z = if fw q a k i (-1) = -1 then z else fw q a k i (-1) := by
  intro k
  induction k with
  | zero => intro i z _; show z = if (-1 : Int32) = -1 then z else _; rw [if_pos rfl]
  | succ k ih =>
    intro i z h
    show (if q a i then nn (10 * a + i) else fw q a k (i + 1) z) = if (if q a i then nn (10 * a + i) else fw q a k (i + 1) (-1)) = -1 then z else (if q a i then nn (10 * a + i) else fw q a k (i + 1) (-1))
    by_cases c : q a i = true
    · rw [if_pos c, if_pos c, if_neg (nn_nm1 (by omega))]
    · rw [if_neg c, if_neg c]; exact ih (i + 1) z (by omega)
theorem fw_none {q : Nat → Nat → Bool} {a : Nat} (ha : a < 6) : ∀ (k i : Nat), i + k ≤ 6 → fw q a k i (-1) = -1 → ∀ b, i ≤ b → b < i + k → q a b = false := by
  intro k
  induction k with
  | zero => intro i _ _ b h1 h2; omega
  | succ k ih =>
    intro i h e b h1 h2
    have e' : (if q a i then nn (10 * a + i) else fw q a k (i + 1) (-1)) = -1 := e
    by_cases c : q a i = true
    · rw [if_pos c] at e'; exact absurd e' (nn_nm1 (by omega))
    · rw [if_neg c] at e'
      by_cases z : b = i
      · rw [z]; exact Bool.eq_false_iff.mpr c
      · exact ih (i + 1) (by omega) e' b (by omega) (by omega)
theorem fo_none {q : Nat → Nat → Bool} {nu : Nat} (hn : nu ≤ 6) : ∀ (k a : Nat), a + k = nu → fo q nu k a (-1) = -1 → ∀ x b, a ≤ x → x < b → b < nu → q x b = false := by
  intro k
  induction k with
  | zero => intro a h _ x b h1 h2 h3; omega
  | succ k ih =>
    intro a h e x b h1 h2 h3
    have e' : fw q a (nu - 1 - a) (a + 1) (fo q nu k (a + 1) (-1)) = -1 := e
    rw [fw_z (by omega) _ _ _ (by omega)] at e'
    by_cases c : fw q a (nu - 1 - a) (a + 1) (-1) = -1
    · rw [if_pos c] at e'
      by_cases z : x = a
      · rw [z]; exact fw_none (by omega) _ _ (by omega) c b (by omega) (by omega)
      · exact ih (a + 1) (by omega) e' x b (by omega) h2 h3
    · rw [if_neg c] at e'; exact absurd e' c
theorem unf_in {N nu a : Nat} {K : Nat → Nat} {D : Dat} (hN : 1000 ≤ N) (hn : nu ≤ 6) (hd : dI D 1 0 = nn nu) (hm : ILm nu D) (rec : Int32 → Int32 → Int32 → Dat → Option (Int32 × Dat)) : ∀ (k g : Nat) (z1 z2 : Int32), a + k < nu → k < g → f_X2_unfitPair_b23 N nu K rec g z1 z2 (nn a) (nn (a + k)) D = rec (inn (qM D) a k z1) (inn (qU D nu) a k z2) (nj a) D := by
  intro k
  induction k with
  | zero =>
    intro g z1 z2 ha hg
    obtain ⟨g, rfl⟩ : ∃ g', g = g' + 1 := ⟨g - 1, by omega⟩
    rw [f_X2_unfitPair_b23, if_pos ((nn_le (by omega) (by omega)).mpr (by omega)), nj_d]
    rfl
  | succ k ih =>
    intro g z1 z2 ha hg
    obtain ⟨g, rfl⟩ : ∃ g', g = g' + 1 := ⟨g - 1, by omega⟩
    have h1 : a < nu := by omega
    have h2 : a + k + 1 < nu := by omega
    have eb : nn (a + k + 1) + (-1) = nn (a + k) := (nj_d _).trans (nj_s _)
    have IH := fun z1 z2 => ih g z1 z2 (by omega) (by omega)
    have e1 : inn (qM D) a (k + 1) z1 = inn (qM D) a k (if (ub D a (a + k + 1) && ub D (a + k + 1) a) then nn (10 * a + (a + k + 1)) else z1) := rfl
    have e2 : inn (qU D nu) a (k + 1) z2 = inn (qU D nu) a k (if (decide (fs (jb true D nu a (a + k + 1)) nu 0 = -1) || decide (fs (jb false D nu a (a + k + 1)) nu 0 = -1)) then nn (10 * a + (a + k + 1)) else z2) := rfl
    rw [e1, e2, show a + (k + 1) = a + k + 1 from rfl, f_X2_unfitPair_b23, if_neg (by rw [nn_le (by omega) (by omega)]; omega)]
    unfold f_X2_unfitPair_b57 f_X2_unfitPair_b79 f_X2_unfitPair_b87
    simp only [leads_t hn hd hm h1 h2, leads_t hn hd hm h2 h1, e_join hN hn hd hm h1 h2, e_meet hN hn hd hm h1 h2, bS, nn_tv, ten, eb, IH]
    cases ub D a (a + k + 1) <;> cases ub D (a + k + 1) a <;> by_cases c1 : fs (jb true D nu a (a + k + 1)) nu 0 = -1 <;> by_cases c2 : fs (jb false D nu a (a + k + 1)) nu 0 = -1 <;> simp [c1, c2, n10]
theorem unf_out {N nu : Nat} {K : Nat → Nat} {D : Dat} (hN : 1000 ≤ N) (hn : nu ≤ 6) (hd : dI D 1 0 = nn nu) (hm : ILm nu D) : ∀ (j g : Nat) (z1 z2 : Int32), j ≤ nu → j < g → f_X2_unfitPair_b11 N nu K g z1 z2 (nj j) D = some (if ou (qM D) nu j z1 = -1 then ou (qU D nu) nu j z2 else ou (qM D) nu j z1, D) := by
  intro j
  induction j with
  | zero =>
    intro g z1 z2 hj hg
    obtain ⟨g, rfl⟩ : ∃ g', g = g' + 1 := ⟨g - 1, by omega⟩
    rw [f_X2_unfitPair_b11, if_pos nj_0]
    unfold f_X2_unfitPair_b109
    show (if z1 = -1 then some (z2, D) else some (z1, D)) = some (if z1 = -1 then z2 else z1, D)
    split <;> rfl
  | succ j ih =>
    intro g z1 z2 hj hg
    obtain ⟨g, rfl⟩ : ∃ g', g = g' + 1 := ⟨g - 1, by omega⟩
    have e0 : nn nu - (1 : Int32) = nn (j + (nu - 1 - j)) := by
      rw [show j + (nu - 1 - j) = nu - 1 by omega]
      exact nn_sub (a := nu) (b := 1) (by omega) (by omega)
    rw [f_X2_unfitPair_b11, nj_s, if_neg (nn_nlt0 (by omega)), hd, e0, unf_in hN hn hd hm _ (nu - 1 - j) N z1 z2 (by omega) (by omega), ih g _ _ (by omega) (by omega)]
    rfl
def zz (D : Dat) (nu : Nat) : Int32 := if fo (qM D) nu nu 0 (-1) = -1 then fo (qU D nu) nu nu 0 (-1) else fo (qM D) nu nu 0 (-1)
theorem e_unfit {N nu : Nat} {K : Nat → Nat} {D : Dat} (hN : 1000 ≤ N) (hn : nu ≤ 6) (hd : dI D 1 0 = nn nu) (hm : ILm nu D) : f_X2_unfitPair N nu K D = some (zz D nu, D) := by
  unfold f_X2_unfitPair zz
  rw [hd]
  have := unf_out (N := N) (K := K) hN hn hd hm nu N (-1) (-1) (Nat.le_refl _) (by omega)
  rw [ou_fo, ou_fo] at this
  exact this
theorem e_refuse (x y z : Int32) (D : Dat) : f_X12_refuse x y z D = some (0, sI (sI (sI D 207 7 x) 207 8 y) 207 0 z) := rfl
theorem fs_neg {p : Nat → Bool} {k : Nat} (hk : k ≤ 6) : (fs p k 0 < 0) ↔ fs p k 0 = -1 := by
  rcases fs_sp (p := p) k 0 with ⟨h, -⟩ | ⟨c, -, h2, -, h⟩
  · rw [h]; decide
  · rw [h]
    exact ⟨fun q => absurd q (nn_nlt0 (by omega)), fun q => absurd q (nn_nm1 (by omega))⟩
theorem fs_pos {p : Nat → Bool} {k : Nat} (hk : k ≤ 6) : (0 ≤ fs p k 0) ↔ ¬ fs p k 0 = -1 := by
  rw [← fs_neg hk, Int32.not_lt]
theorem seal_in {N nu a : Nat} (w : Bool) {D : Dat} (hN : 1000 ≤ N) (hn : nu ≤ 6) (hd : dI D 207 1 = nn nu) (ha : a < nu) (rec20 : Int32 → Dat → Option (Int32 × Dat)) (rec27 : Int32 → Int32 → Dat → Option (Int32 × Dat)) : ∀ (k g i : Nat), i + k = nu → k < g → f_X12_seal_b39 N rec20 rec27 g (wi w) (nn a) (nn i) D = if fw (qqs w D nu) a k i (-1) = -1 then rec27 (wi w) (nn (a + 1)) D else f_X12_refuse (fw (qqs w D nu) a k i (-1)) 7 2 D := by
  intro k
  induction k with
  | zero =>
    intro g i hi hg
    obtain ⟨g, rfl⟩ : ∃ g', g = g' + 1 := ⟨g - 1, by omega⟩
    rw [f_X12_seal_b39, hd, if_pos ((nn_le (by omega) (by omega)).mpr (by omega)), nn_1]
    show _ = if (-1 : Int32) = -1 then _ else _
    rw [if_pos rfl]
  | succ k ih =>
    intro g i hi hg
    obtain ⟨g, rfl⟩ : ∃ g', g = g' + 1 := ⟨g - 1, by omega⟩
    have i1 := nn_in (k := 6 * a + i) (n := 36) (by omega) (by omega)
    have i2 := nn_in (k := 6 * i + a) (n := 36) (by omega) (by omega)
    have en1 : f_X12_nearest N (nn a) (nn i) 1 D = _ := e_near (N := N) true hN hn hd (show a < 6 by omega) (show i < 6 by omega)
    have en0 : f_X12_nearest N (nn a) (nn i) 0 D = _ := e_near (N := N) false hN hn hd (show a < 6 by omega) (show i < 6 by omega)
    have IH := ih g (i + 1) (by omega) (by omega)
    have e : fw (qqs w D nu) a (k + 1) i (-1) = if qqs w D nu a i then nn (10 * a + i) else fw (qqs w D nu) a k (i + 1) (-1) := rfl
    have nz : ¬ nn (10 * a + i) = -1 := nn_nm1 (by omega)
    rw [f_X12_seal_b39, hd, if_neg (by rw [nn_le (by omega) (by omega)]; omega), six, six, e]
    unfold f_X12_seal_b107 f_X12_seal_b83 f_X12_seal_b112
    simp only [i1, i2, reduceIte]
    rw [nn_nat (k := 6 * a + i) (by omega), nn_nat (k := 6 * i + a) (by omega)]
    simp only [tv_0, en1, en0, bS, fs_neg hn, fs_pos hn, nn_1, IH, ten, e_refuse]
    cases w
    · have e2 : qqs false D nu a i = (ub D a i && ub D i a) := rfl
      rw [e2]
      cases ub D a i <;> cases ub D i a <;> simp [n10, wi, nz]
    · have e2 : qqs true D nu a i = (decide (fs (jb true D nu a i) nu 0 = -1) || decide (fs (jb false D nu a i) nu 0 = -1)) := rfl
      rw [e2]
      by_cases c1 : fs (jb true D nu a i) nu 0 = -1 <;> by_cases c2 : fs (jb false D nu a i) nu 0 = -1 <;> simp [n10, wi, nz, c1, c2]
theorem seal_rows {N nu : Nat} (w : Bool) {D : Dat} (hN : 1000 ≤ N) (hn : nu ≤ 6) (hd : dI D 207 1 = nn nu) (rec20 : Int32 → Dat → Option (Int32 × Dat)) : ∀ (k g a : Nat), a + k = nu → k < g → f_X12_seal_b27 N rec20 g (wi w) (nn a) D = if fo (qqs w D nu) nu k a (-1) = -1 then rec20 (wi w + 1) D else f_X12_refuse (fo (qqs w D nu) nu k a (-1)) 7 2 D := by
  intro k
  induction k with
  | zero =>
    intro g a hi hg
    obtain ⟨g, rfl⟩ : ∃ g', g = g' + 1 := ⟨g - 1, by omega⟩
    rw [f_X12_seal_b27, hd, if_pos ((nn_le (by omega) (by omega)).mpr (by omega))]
    show _ = if (-1 : Int32) = -1 then _ else _
    rw [if_pos rfl]
  | succ k ih =>
    intro g a hi hg
    obtain ⟨g, rfl⟩ : ∃ g', g = g' + 1 := ⟨g - 1, by omega⟩
    have e : fo (qqs w D nu) nu (k + 1) a (-1) = fw (qqs w D nu) a (nu - 1 - a) (a + 1) (fo (qqs w D nu) nu k (a + 1) (-1)) := rfl
    rw [f_X12_seal_b27, hd, if_neg (by rw [nn_le (by omega) (by omega)]; omega), nn_1, seal_in w hN hn hd (show a < nu by omega) rec20 _ (nu - 1 - a) N (a + 1) (by omega) (by omega), ih g (a + 1) (by omega) (by omega), e, fw_z (a := a) (by omega) (nu - 1 - a) (a + 1) (fo (qqs w D nu) nu k (a + 1) (-1)) (by omega)]
    by_cases c : fw (qqs w D nu) a (nu - 1 - a) (a + 1) (-1) = -1
    · rw [if_pos c, if_pos c]
    · rw [if_neg c, if_neg c, if_neg c]
theorem seal_way {N nu : Nat} {D : Dat} (hN : 1000 ≤ N) (hn : nu ≤ 6) (hd : dI D 207 1 = nn nu) : f_X12_seal_b20 N N 0 D = if zz D nu = -1 then f_X12_seal_b153 N N 0 D else f_X12_refuse (zz D nu) 7 2 D := by
  obtain ⟨g, rfl⟩ : ∃ g', N = g' + 3 := ⟨N - 3, by omega⟩
  have w0 : wi false + 1 = (1 : Int32) := by decide
  have w1 : wi true + 1 = (2 : Int32) := by decide
  have h0 := seal_rows (N := g + 3) false hN hn hd (f_X12_seal_b20 (g + 3) (g + 2)) nu (g + 3) 0 (by omega) (by omega)
  have h1 := seal_rows (N := g + 3) true hN hn hd (f_X12_seal_b20 (g + 3) (g + 1)) nu (g + 3) 0 (by omega) (by omega)
  rw [w0] at h0
  rw [w1] at h1
  have s0 : f_X12_seal_b20 (g + 3) (g + 3) 0 D = f_X12_seal_b27 (g + 3) (f_X12_seal_b20 (g + 3) (g + 2)) (g + 3) 0 0 D := by
    rw [f_X12_seal_b20, if_neg (by decide)]
  have s1 : f_X12_seal_b20 (g + 3) (g + 2) 1 D = f_X12_seal_b27 (g + 3) (f_X12_seal_b20 (g + 3) (g + 1)) (g + 3) 1 0 D := by
    rw [f_X12_seal_b20, if_neg (by decide)]
  have s2 : f_X12_seal_b20 (g + 3) (g + 1) 2 D = f_X12_seal_b153 (g + 3) (g + 3) 0 D := by
    rw [f_X12_seal_b20, if_pos (by decide)]
  rw [s2] at h1
  rw [s1, show f_X12_seal_b27 (g + 3) (f_X12_seal_b20 (g + 3) (g + 1)) (g + 3) 1 0 D = _ from h1] at h0
  rw [s0, show f_X12_seal_b27 (g + 3) (f_X12_seal_b20 (g + 3) (g + 2)) (g + 3) 0 0 D = _ from h0]
  unfold zz
  show (if fo (qM D) nu nu 0 (-1) = -1 then (if fo (qU D nu) nu nu 0 (-1) = -1 then _ else _) else _) = _
  by_cases c : fo (qM D) nu nu 0 (-1) = -1
  · rw [if_pos c, if_pos c]; rfl
  · rw [if_neg c, if_neg c, if_neg c]; rfl
