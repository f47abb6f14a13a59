/-! what is known of a token; the class's rows of tokens -/
def zl_by (j k : Nat) : Nat := ((sbyt.getD j []).getD k 0).toNatClampNeg
def zl_kc (j : Nat) : Nat := [1, 2, 3, 4, 6, 7, 8, 9, 5].getD j 0
def zl_sl (j : Nat) : Nat := slen.getD j 0
def Tok (len : Nat) (tx : Nat → Nat) (p e t v : Nat) : Prop := (p ≤ e ∧ e ≤ len) ∧ (t ≠ 0 → p < e) ∧ (t = 0 → p = len ∧ e = len) ∧ (t = 1 → v < 26 ∧ e = p + 1) ∧ (t = 2 → v < 1000000000) ∧ (t ≤ 4 ∨ zl_S t = true) ∧ (t = 4 → v ≤ 9 ∧ ∀ j, j < 9 → (v = zl_kc j ↔ (e - p = zl_sl j ∧ ∀ k, k < zl_sl j → tx (p + k) = zl_by j k)))
theorem zl_by_ok : ∀ j, j < 9 → 2 ≤ zl_sl j ∧ zl_sl j ≤ 5 ∧ ∀ k, k < zl_sl j → (97 ≤ zl_by j k ∧ zl_by j k ≤ 122) ∧ (sbyt.getD j []).getD k 0 = nn (zl_by j k) := by decide +kernel
def zl_co (j : Nat) : Nat := zl_cv (zl_by j) (zl_sl j) 0 0
theorem zl_co_v : zl_co 0 = 22578 ∧ zl_co 1 = 18935 ∧ zl_co 2 = 543203 ∧ zl_co 3 = 294 ∧ zl_co 4 = 24388997 ∧ zl_co 5 = 302 ∧ zl_co 6 = 16052 ∧ zl_co 7 = 143 ∧ zl_co 8 = 176741 := by decide +kernel
theorem zl_kw_iff (X : Nat) : ∀ j, j < 9 → (zl_kw X = zl_kc j ↔ X = zl_co j) := by
  obtain ⟨c0, c1, c2, c3, c4, c5, c6, c7, c8⟩ := zl_co_v
  intro j hj
  have hh : j = 0 ∨ j = 1 ∨ j = 2 ∨ j = 3 ∨ j = 4 ∨ j = 5 ∨ j = 6 ∨ j = 7 ∨ j = 8 := by omega
  unfold zl_kw
  rcases hh with rfl | rfl | rfl | rfl | rfl | rfl | rfl | rfl | rfl
  · rw [c0]; show _ = 1 ↔ _; repeat' split
    all_goals omega
  · rw [c1]; show _ = 2 ↔ _; repeat' split
    all_goals omega
  · rw [c2]; show _ = 3 ↔ _; repeat' split
    all_goals omega
  · rw [c3]; show _ = 4 ↔ _; repeat' split
    all_goals omega
  · rw [c4]; show _ = 6 ↔ _; repeat' split
    all_goals omega
  · rw [c5]; show _ = 7 ↔ _; repeat' split
    all_goals omega
  · rw [c6]; show _ = 8 ↔ _; repeat' split
    all_goals omega
  · rw [c7]; show _ = 9 ↔ _; repeat' split
    all_goals omega
  · rw [c8]; show _ = 5 ↔ _; repeat' split
    all_goals omega
theorem zl_kw_9 (X : Nat) : zl_kw X ≤ 9 := by
  unfold zl_kw
  repeat' split
  all_goals omega
theorem zl_cv_inj {f g : Nat → Nat} : ∀ (k i i' a a' : Nat), (∀ j, j < k → 97 ≤ f (i + j) ∧ f (i + j) ≤ 122) → (∀ j, j < k → 97 ≤ g (i' + j) ∧ g (i' + j) ≤ 122) → (zl_cv f k i a = zl_cv g k i' a' ↔ (a = a' ∧ ∀ j, j < k → f (i + j) = g (i' + j))) := by
  intro k
  induction k with
  | zero => intro i i' a a' _ _; exact ⟨fun h => ⟨h, fun j hj => absurd hj (by omega)⟩, fun h => h.1⟩
  | succ k ih =>
    intro i i' a a' hf hg
    have f0 := hf 0 (by omega)
    have g0 := hg 0 (by omega)
    rw [Nat.add_zero] at f0 g0
    show zl_cv f k (i + 1) (32 * a + (f i - 96)) = zl_cv g k (i' + 1) (32 * a' + (g i' - 96)) ↔ _
    rw [ih (i + 1) (i' + 1) _ _ (fun j hj => by have := hf (j + 1) (by omega); rw [show i + 1 + j = i + (j + 1) by omega]; exact this) (fun j hj => by have := hg (j + 1) (by omega); rw [show i' + 1 + j = i' + (j + 1) by omega]; exact this)]
    constructor
    · rintro ⟨h1, h2⟩
      refine ⟨by omega, fun j hj => ?_⟩
      by_cases e : j = 0
      · rw [e, Nat.add_zero, Nat.add_zero]; omega
      · have := h2 (j - 1) (by omega)
        rw [show i + 1 + (j - 1) = i + j by omega, show i' + 1 + (j - 1) = i' + j by omega] at this
        exact this
    · rintro ⟨h1, h2⟩
      have z := h2 0 (by omega)
      rw [Nat.add_zero, Nat.add_zero] at z
      refine ⟨by rw [h1, z], fun j hj => ?_⟩
      have := h2 (j + 1) (by omega)
      rw [show i + 1 + j = i + (j + 1) by omega, show i' + 1 + j = i' + (j + 1) by omega]
      exact this
theorem zl_cv_lo {f : Nat → Nat} : ∀ (k i a : Nat), a * 32 ^ k ≤ zl_cv f k i a := by
  intro k
  induction k with
  | zero => intro i a; show a * 32 ^ 0 ≤ a; omega
  | succ k ih =>
    intro i a
    have h := ih (i + 1) (32 * a + (f i - 96))
    show a * 32 ^ (k + 1) ≤ zl_cv f k (i + 1) (32 * a + (f i - 96))
    refine Nat.le_trans ?_ h
    rw [Nat.pow_succ]
    have e : a * (32 ^ k * 32) = (32 * a) * 32 ^ k := by rw [Nat.mul_comm (32 ^ k) 32, ← Nat.mul_assoc, Nat.mul_comm a 32]
    rw [e]
    exact Nat.mul_le_mul_right _ (by omega)
theorem zl_cv_one {f : Nat → Nat} {n i : Nat} (h1 : 1 ≤ n) (h : 97 ≤ f i) : 32 ^ (n - 1) ≤ zl_cv f n i 0 := by
  obtain ⟨n, rfl⟩ : ∃ m, n = m + 1 := ⟨n - 1, by omega⟩
  have := zl_cv_lo (f := f) n (i + 1) (32 * 0 + (f i - 96))
  show 32 ^ (n + 1 - 1) ≤ zl_cv f n (i + 1) (32 * 0 + (f i - 96))
  refine Nat.le_trans ?_ this
  rw [Nat.add_sub_cancel]
  have : 1 * 32 ^ n ≤ (32 * 0 + (f i - 96)) * 32 ^ n := Nat.mul_le_mul_right _ (by omega)
  omega
theorem zl_word {f : Nat → Nat} {n i j : Nat} (hj : j < 9) (h1 : 1 ≤ n) (h5 : n ≤ 5) (hf : ∀ k, k < n → 97 ≤ f (i + k) ∧ f (i + k) ≤ 122) : zl_kw (zl_cv f n i 0) = zl_kc j ↔ (n = zl_sl j ∧ ∀ k, k < zl_sl j → f (i + k) = zl_by j k) := by
  obtain ⟨s1, s2, s3⟩ := zl_by_ok j hj
  rw [zl_kw_iff _ j hj]
  unfold zl_co
  have lo1 := zl_cv_one (f := f) (n := n) (i := i) h1 (by have := (hf 0 (by omega)).1; rw [Nat.add_zero] at this; exact this)
  have lo2 := zl_cv_one (f := zl_by j) (n := zl_sl j) (i := 0) (by omega) (s3 0 (by omega)).1.1
  have hi1 := zl_cv_b (tx := f) n i 0 0 (fun k g1 g2 => by have := (hf (k - i) (by omega)).2; rw [show i + (k - i) = k by omega] at this; exact this) (by decide)
  have hi2 := zl_cv_b (tx := zl_by j) (zl_sl j) 0 0 0 (fun k g1 g2 => (s3 k (by omega)).1.2) (by decide)
  rw [Nat.zero_add] at hi1 hi2
  by_cases hn : n = zl_sl j
  · rw [← hn]
    rw [← hn] at s3
    rw [zl_cv_inj n i 0 0 0 hf (fun k hk => by rw [Nat.zero_add]; exact (s3 k hk).1)]
    constructor
    · rintro ⟨_, h⟩
      exact ⟨rfl, fun k hk => by have := h k hk; rw [Nat.zero_add] at this; exact this⟩
    · rintro ⟨_, h⟩
      exact ⟨rfl, fun k hk => by rw [Nat.zero_add]; exact h k hk⟩
  · constructor
    · intro h
      exfalso
      rcases Nat.lt_or_gt_of_ne hn with q | q
      · have : (32 : Nat) ^ n ≤ 32 ^ (zl_sl j - 1) := Nat.pow_le_pow_right (by decide) (by omega)
        omega
      · have : (32 : Nat) ^ (zl_sl j) ≤ 32 ^ (n - 1) := Nat.pow_le_pow_right (by decide) (by omega)
        omega
    · intro h; exact absurd h.1 hn
theorem zl_nv_b {tx : Nat → Nat} : ∀ (k i a m : Nat), (∀ j, i ≤ j → j < i + k → tx j ≤ 57) → a < 10 ^ m → zl_nv tx k i a < 10 ^ (m + k) := by
  intro k
  induction k with
  | zero => intro i a m _ h; exact h
  | succ k ih =>
    intro i a m hx h
    have := hx i (Nat.le_refl _) (by omega)
    have e : m + (k + 1) = (m + 1) + k := by omega
    rw [e]
    refine ih (i + 1) _ (m + 1) (fun j g1 g2 => hx j (by omega) (by omega)) ?_
    rw [Nat.pow_succ]
    omega
theorem zl_facts {len p : Nat} {tx : Nat → Nat} (hp : p ≤ len) : Tok len tx p (zl_e len tx p) (zl_t len tx p) (zl_v len tx p) := by
  have bL := zl_run_b (f := zl_lt tx) (len - (p + 1)) (p + 1)
  have bD := zl_run_b (f := zl_dt tx) (len - (p + 1)) (p + 1)
  have iL := zl_run_in (f := zl_lt tx) (len - (p + 1)) (p + 1)
  have iD := zl_run_in (f := zl_dt tx) (len - (p + 1)) (p + 1)
  by_cases hpl : p < len
  · by_cases hL : zl_L (tx p) = true
    · have ee : zl_e len tx p = zl_run (zl_lt tx) (len - (p + 1)) (p + 1) := by unfold zl_e; rw [if_pos hpl, if_pos hL]
      have tt : zl_t len tx p = if zl_e len tx p - p = 1 then 1 else 4 := by unfold zl_t; rw [if_pos hpl, if_pos hL]
      have vv : zl_v len tx p = if zl_e len tx p - p = 1 then tx p - 97 else if zl_e len tx p - p ≤ 5 then zl_kw (zl_cv tx (zl_e len tx p - p) p 0) else 0 := by unfold zl_v; rw [if_pos hL]
      rw [← ee] at bL iL
      have hc := zl_Li.mp hL
      have lets : ∀ k, k < zl_e len tx p - p → 97 ≤ tx (p + k) ∧ tx (p + k) ≤ 122 := fun k hk => by
        by_cases e : k = 0
        · rw [e, Nat.add_zero]; exact hc
        · exact zl_Li.mp (iL (p + k) (by omega) (by omega))
      generalize zl_e len tx p = e at *
      by_cases w : e - p = 1
      · rw [tt, if_pos w, vv, if_pos w]
        exact ⟨by omega, fun _ => by omega, fun q => absurd q (by decide), fun _ => by omega, fun q => absurd q (by decide), Or.inl (by decide), fun q => absurd q (by decide)⟩
      · rw [tt, if_neg w, vv, if_neg w]
        refine ⟨by omega, fun _ => by omega, fun q => absurd q (by decide), fun q => absurd q (by decide), fun q => absurd q (by decide), Or.inl (by decide), fun _ => ?_⟩
        by_cases w5 : e - p ≤ 5
        · rw [if_pos w5]
          exact ⟨zl_kw_9 _, fun j hj => zl_word hj (by omega) w5 lets⟩
        · rw [if_neg w5]
          refine ⟨by omega, fun j hj => ⟨fun q => ?_, fun q => ?_⟩⟩
          · have : ∀ j, j < 9 → 0 ≠ zl_kc j := by decide
            exact absurd q (this j hj)
          · have := (zl_by_ok j hj).2.1; omega
    · by_cases hD : zl_D (tx p) = true
      · have ee : zl_e len tx p = zl_run (zl_dt tx) (len - (p + 1)) (p + 1) := by unfold zl_e; rw [if_pos hpl, if_neg hL, if_pos hD]
        have tt : zl_t len tx p = if zl_e len tx p - p ≤ 9 then 2 else 3 := by unfold zl_t; rw [if_pos hpl, if_neg hL, if_pos hD]
        have vv : zl_v len tx p = zl_nv tx (zl_e len tx p - p) p 0 := by unfold zl_v; rw [if_neg hL]
        rw [← ee] at bD iD
        have hc := zl_Di.mp hD
        have lets : ∀ j, p ≤ j → j < p + (zl_e len tx p - p) → tx j ≤ 57 := fun j g1 g2 => by
          by_cases e : j = p
          · rw [e]; exact hc.2
          · exact (zl_Di.mp (iD j (by omega) (by omega))).2
        generalize zl_e len tx p = e at *
        by_cases w : e - p ≤ 9
        · rw [tt, if_pos w, vv]
          have nb := zl_nv_b (tx := tx) (e - p) p 0 0 lets (by decide)
          rw [Nat.zero_add] at nb
          have p9 : (10 : Nat) ^ (e - p) ≤ 10 ^ 9 := Nat.pow_le_pow_right (by decide) w
          have p9' : (10 : Nat) ^ 9 = 1000000000 := by decide
          exact ⟨by omega, fun _ => by omega, fun q => absurd q (by decide), fun q => absurd q (by decide), fun _ => by omega, Or.inl (by decide), fun q => absurd q (by decide)⟩
        · rw [tt, if_neg w]
          exact ⟨by omega, fun _ => by omega, fun q => absurd q (by decide), fun q => absurd q (by decide), fun q => absurd q (by decide), Or.inl (by decide), fun q => absurd q (by decide)⟩
      · have ee : zl_e len tx p = p + 1 := by unfold zl_e; rw [if_pos hpl, if_neg hL, if_neg hD]
        have tt : zl_t len tx p = if zl_S (tx p) = true then tx p else 3 := by unfold zl_t; rw [if_pos hpl, if_neg hL, if_neg hD]
        rw [ee, tt]
        by_cases s : zl_S (tx p) = true
        · rw [if_pos s]
          have := zl_Si.mp s
          exact ⟨by omega, fun _ => by omega, fun q => by omega, fun q => by omega, fun q => by omega, Or.inr s, fun q => by omega⟩
        · rw [if_neg s]
          exact ⟨by omega, fun _ => by omega, fun q => absurd q (by decide), fun q => absurd q (by decide), fun q => absurd q (by decide), Or.inl (by decide), fun q => absurd q (by decide)⟩
  · have ee : zl_e len tx p = len := by unfold zl_e; rw [if_neg hpl]
    have tt : zl_t len tx p = 0 := by unfold zl_t; rw [if_neg hpl]
    rw [ee, tt]
    exact ⟨by omega, fun q => absurd rfl q, fun _ => by omega, fun q => absurd q (by decide), fun q => absurd q (by decide), Or.inl (by decide), fun q => absurd q (by decide)⟩
theorem zl_char {j k : Nat} (hj : j < 9) (hk : k < zl_sl j) (D : Dat) : f_J0_charAt_5068e j (nn k) D = some (nn (zl_by j k), D) := by
  obtain ⟨s1, s2, s3⟩ := zl_by_ok j hj
  obtain ⟨s4, s5⟩ := s3 k hk
  have q1 : ∀ c, c < 127 → (((nn c &&& (255 : Int32)) : Int32).toUInt32 % 65536).toInt32 = nn c ∧ vp_nar .char (nn c) = nn c := by decide +kernel
  have q2 := q1 (zl_by j k) (by omega)
  unfold f_J0_charAt_5068e f_J0_isLatin1_aae02 f_J0_isLatin1_aae02_b18 f_J1_charAt_3b067 f_J0_checkIndex_df160 f_J3_checkIndex_8e157
  rw [if_neg (by decide), if_pos (by decide), if_pos (by decide), bS, if_neg (show ¬ (1 : Int32) = 0 by decide), if_pos (show j < 10 by omega), if_neg (nn_nlt0 (by omega)), if_pos (show nn k < Int32.ofNat (slen.getD j 0) from (nn_lt (by omega) (by unfold zl_sl at s2; omega)).mpr hk), bS, bS, if_pos (show j < 10 by omega), if_neg (nn_in (k := k) (n := slen.getD j 0) (by omega) hk), nn_nat (by omega), s5, q2.1, if_pos q2.2, bS, if_pos q2.2]
theorem zl_isW_l {N len p e j : Nat} {tx : Nat → Nat} {C : Dat} (hj : j < 9) (hT : TxC len tx C) (he : p + zl_sl j = e) (hel : e ≤ len) : ∀ (k g i : Nat), i + k = zl_sl j → k < g → ((∀ m, i ≤ m → m < zl_sl j → tx (p + m) = zl_by j m) → f_X5_isWord_b20 N (g + 1) j (nn p) 1 (nn i) C = some (1, C)) ∧ (¬ (∀ m, i ≤ m → m < zl_sl j → tx (p + m) = zl_by j m) → f_X5_isWord_b20 N (g + 1) j (nn p) 1 (nn i) C = some (0, C)) := by
  obtain ⟨s1, s2, s3⟩ := zl_by_ok j hj
  have hl := hT.1
  intro k
  induction k with
  | zero =>
    intro g i hi hg
    refine ⟨fun _ => ?_, fun w => absurd (fun m h1 h2 => absurd h2 (by omega)) w⟩
    rw [f_X5_isWord_b20, if_neg (show ¬ (1 : Int32) = 0 by decide), if_pos (show j < 10 by omega), zl_len (by omega), bS, if_pos (show nn (slen.getD j 0) ≤ nn i from (nn_le (by unfold zl_sl at s2; omega) (by omega)).mpr (by unfold zl_sl at hi; omega))]
    unfold f_X5_isWord_b76
    rw [if_pos (by decide)]
  | succ k ih =>
    intro g i hi hg
    obtain ⟨g, rfl⟩ : ∃ g', g = g' + 1 := ⟨g - 1, by omega⟩
    rw [f_X5_isWord_b20, if_neg (show ¬ (1 : Int32) = 0 by decide), if_pos (show j < 10 by omega), zl_len (by omega), bS, if_neg (show ¬ nn (slen.getD j 0) ≤ nn i from fun w => by have := (nn_le (by unfold zl_sl at s2; omega) (by omega)).mp w; unfold zl_sl at hi; omega), hT.2.1, nn_add, if_neg (fun w => by have := (nn_le (by omega) (by omega)).mp w; omega), if_neg (nn_in (k := p + i) (n := 240) (by omega) (by omega)), if_pos (show j < 10 by omega), zl_char hj (show i < zl_sl j by omega), bS, nn_nat (by omega), (hT.2.2 (p + i) (by omega)).1]
    have hx := hT.2.2 (p + i) (by omega)
    have hy := (s3 i (by omega)).1
    unfold f_X5_isWord_b68 f_X5_isWord_b67 f_X5_isWord_b68
    rw [nn_1]
    by_cases q : tx (p + i) = zl_by j i
    · rw [if_pos (by rw [q])]
      obtain ⟨h1, h2⟩ := ih g (i + 1) (by omega) (by omega)
      refine ⟨fun w => h1 (fun m g1 g2 => w m (by omega) g2), fun w => h2 (fun z => w (fun m g1 g2 => ?_))⟩
      by_cases em : m = i
      · rw [em]; exact q
      · exact z m (by omega) g2
    · rw [if_neg (fun w => q ((nn_eq (by omega) (by omega)).mp w))]
      refine ⟨fun w => absurd (w i (by omega) (by omega)) q, fun _ => ?_⟩
      rw [f_X5_isWord_b20, if_pos (show (0 : Int32) = 0 from rfl)]
      rfl
theorem zl_isWord {N len p e v j : Nat} {tx : Nat → Nat} {C : Dat} (hN : 1000 ≤ N) (hj : j < 9) (hT : TxC len tx C) (ht : Tok len tx p e 4 v) : f_X5_isWord N j (nn p) (nn e) C = some (if v = zl_kc j then 1 else 0, C) := by
  obtain ⟨s1, s2, s3⟩ := zl_by_ok j hj
  obtain ⟨⟨t1, t2⟩, t3, t4, t5, t6, t7, t8⟩ := ht
  have hl := hT.1
  obtain ⟨g, hg⟩ : ∃ g', N = g' + 1 := ⟨N - 1, by omega⟩
  have hs := (t8 rfl).2 j hj
  unfold f_X5_isWord f_X5_isWord_b15
  rw [if_pos (show j < 10 by omega), zl_len (by omega), bS, nn_sub t1 (by omega)]
  by_cases en : e - p = zl_sl j
  · rw [if_pos (show nn (e - p) = nn (slen.getD j 0) by rw [en]; rfl)]
    obtain ⟨h1, h2⟩ := zl_isW_l (N := N) (p := p) (e := e) hj hT (by omega) t2 (zl_sl j) g 0 (by omega) (by omega)
    rw [← hg] at h1 h2
    by_cases a : ∀ m, 0 ≤ m → m < zl_sl j → tx (p + m) = zl_by j m
    · rw [if_pos (hs.mpr ⟨en, fun k hk => a k (by omega) hk⟩)]
      exact h1 a
    · rw [if_neg (fun q => a (fun m _ hm => (hs.mp q).2 m hm))]
      exact h2 a
  · rw [if_neg (show ¬ nn (e - p) = nn (slen.getD j 0) from fun q => en ((nn_eq (by omega) (show zl_sl j < 2147483648 by omega)).mp q)), if_neg (fun q => en (hs.mp q).1)]
    have : ∀ g, f_X5_isWord_b20 N (g + 1) j (nn p) 0 0 C = some (0, C) := fun g => by
      rw [f_X5_isWord_b20, if_pos (show (0 : Int32) = 0 from rfl)]; rfl
    have h := this g
    rw [← hg] at h
    exact h
theorem zl_kwd {N len p e v : Nat} {tx : Nat → Nat} {C : Dat} (hN : 1000 ≤ N) (hT : TxC len tx C) (ht : Tok len tx p e 4 v) : f_X5_kindOfWord N (nn p) (nn e) C = some (nn (zl_ck 4 v), C) := by
  have w : ∀ j, j < 9 → f_X5_isWord N j (nn p) (nn e) C = some (if v = zl_kc j then 1 else 0, C) := fun j hj => zl_isWord hN hj hT ht
  have hv : v ≤ 9 := (ht.2.2.2.2.2.2 rfl).1
  have hh : v = 0 ∨ v = 1 ∨ v = 2 ∨ v = 3 ∨ v = 4 ∨ v = 5 ∨ v = 6 ∨ v = 7 ∨ v = 8 ∨ v = 9 := by omega
  clear ht hv
  unfold f_X5_kindOfWord f_X5_kindOfWord_b145
  rcases hh with rfl | rfl | rfl | rfl | rfl | rfl | rfl | rfl | rfl | rfl
  · rw [show f_X5_isWord N 0 (nn p) (nn e) C = some (0, C) from w 0 (by decide), bS, if_pos (show (0 : Int32) = 0 from rfl), show f_X5_isWord N 1 (nn p) (nn e) C = some (0, C) from w 1 (by decide), bS, if_pos (show (0 : Int32) = 0 from rfl), show f_X5_isWord N 2 (nn p) (nn e) C = some (0, C) from w 2 (by decide), bS, if_pos (show (0 : Int32) = 0 from rfl), show f_X5_isWord N 3 (nn p) (nn e) C = some (0, C) from w 3 (by decide), bS, if_pos (show (0 : Int32) = 0 from rfl), show f_X5_isWord N 8 (nn p) (nn e) C = some (0, C) from w 8 (by decide), bS, if_pos (show (0 : Int32) = 0 from rfl), show f_X5_isWord N 4 (nn p) (nn e) C = some (0, C) from w 4 (by decide), bS, if_pos (show (0 : Int32) = 0 from rfl), show f_X5_isWord N 5 (nn p) (nn e) C = some (0, C) from w 5 (by decide), bS, if_pos (show (0 : Int32) = 0 from rfl), show f_X5_isWord N 6 (nn p) (nn e) C = some (0, C) from w 6 (by decide), bS, if_pos (show (0 : Int32) = 0 from rfl), show f_X5_isWord N 7 (nn p) (nn e) C = some (0, C) from w 7 (by decide), bS, if_pos (show (0 : Int32) = 0 from rfl)]
    rfl
  · rw [show f_X5_isWord N 0 (nn p) (nn e) C = some (1, C) from w 0 (by decide), bS, if_neg (show ¬ (1 : Int32) = 0 by decide)]
    rfl
  · rw [show f_X5_isWord N 0 (nn p) (nn e) C = some (0, C) from w 0 (by decide), bS, if_pos (show (0 : Int32) = 0 from rfl), show f_X5_isWord N 1 (nn p) (nn e) C = some (1, C) from w 1 (by decide), bS, if_neg (show ¬ (1 : Int32) = 0 by decide)]
    rfl
  · rw [show f_X5_isWord N 0 (nn p) (nn e) C = some (0, C) from w 0 (by decide), bS, if_pos (show (0 : Int32) = 0 from rfl), show f_X5_isWord N 1 (nn p) (nn e) C = some (0, C) from w 1 (by decide), bS, if_pos (show (0 : Int32) = 0 from rfl), show f_X5_isWord N 2 (nn p) (nn e) C = some (1, C) from w 2 (by decide), bS, if_neg (show ¬ (1 : Int32) = 0 by decide)]
    rfl
  · rw [show f_X5_isWord N 0 (nn p) (nn e) C = some (0, C) from w 0 (by decide), bS, if_pos (show (0 : Int32) = 0 from rfl), show f_X5_isWord N 1 (nn p) (nn e) C = some (0, C) from w 1 (by decide), bS, if_pos (show (0 : Int32) = 0 from rfl), show f_X5_isWord N 2 (nn p) (nn e) C = some (0, C) from w 2 (by decide), bS, if_pos (show (0 : Int32) = 0 from rfl), show f_X5_isWord N 3 (nn p) (nn e) C = some (1, C) from w 3 (by decide), bS, if_neg (show ¬ (1 : Int32) = 0 by decide)]
    rfl
  · rw [show f_X5_isWord N 0 (nn p) (nn e) C = some (0, C) from w 0 (by decide), bS, if_pos (show (0 : Int32) = 0 from rfl), show f_X5_isWord N 1 (nn p) (nn e) C = some (0, C) from w 1 (by decide), bS, if_pos (show (0 : Int32) = 0 from rfl), show f_X5_isWord N 2 (nn p) (nn e) C = some (0, C) from w 2 (by decide), bS, if_pos (show (0 : Int32) = 0 from rfl), show f_X5_isWord N 3 (nn p) (nn e) C = some (0, C) from w 3 (by decide), bS, if_pos (show (0 : Int32) = 0 from rfl), show f_X5_isWord N 8 (nn p) (nn e) C = some (1, C) from w 8 (by decide), bS, if_neg (show ¬ (1 : Int32) = 0 by decide)]
    rfl
  · rw [show f_X5_isWord N 0 (nn p) (nn e) C = some (0, C) from w 0 (by decide), bS, if_pos (show (0 : Int32) = 0 from rfl), show f_X5_isWord N 1 (nn p) (nn e) C = some (0, C) from w 1 (by decide), bS, if_pos (show (0 : Int32) = 0 from rfl), show f_X5_isWord N 2 (nn p) (nn e) C = some (0, C) from w 2 (by decide), bS, if_pos (show (0 : Int32) = 0 from rfl), show f_X5_isWord N 3 (nn p) (nn e) C = some (0, C) from w 3 (by decide), bS, if_pos (show (0 : Int32) = 0 from rfl), show f_X5_isWord N 8 (nn p) (nn e) C = some (0, C) from w 8 (by decide), bS, if_pos (show (0 : Int32) = 0 from rfl), show f_X5_isWord N 4 (nn p) (nn e) C = some (1, C) from w 4 (by decide), bS, if_neg (show ¬ (1 : Int32) = 0 by decide)]
    rfl
  · rw [show f_X5_isWord N 0 (nn p) (nn e) C = some (0, C) from w 0 (by decide), bS, if_pos (show (0 : Int32) = 0 from rfl), show f_X5_isWord N 1 (nn p) (nn e) C = some (0, C) from w 1 (by decide), bS, if_pos (show (0 : Int32) = 0 from rfl), show f_X5_isWord N 2 (nn p) (nn e) C = some (0, C) from w 2 (by decide), bS, if_pos (show (0 : Int32) = 0 from rfl), show f_X5_isWord N 3 (nn p) (nn e) C = some (0, C) from w 3 (by decide), bS, if_pos (show (0 : Int32) = 0 from rfl), show f_X5_isWord N 8 (nn p) (nn e) C = some (0, C) from w 8 (by decide), bS, if_pos (show (0 : Int32) = 0 from rfl), show f_X5_isWord N 4 (nn p) (nn e) C = some (0, C) from w 4 (by decide), bS, if_pos (show (0 : Int32) = 0 from rfl), show f_X5_isWord N 5 (nn p) (nn e) C = some (1, C) from w 5 (by decide), bS, if_neg (show ¬ (1 : Int32) = 0 by decide)]
    rfl
  · rw [show f_X5_isWord N 0 (nn p) (nn e) C = some (0, C) from w 0 (by decide), bS, if_pos (show (0 : Int32) = 0 from rfl), show f_X5_isWord N 1 (nn p) (nn e) C = some (0, C) from w 1 (by decide), bS, if_pos (show (0 : Int32) = 0 from rfl), show f_X5_isWord N 2 (nn p) (nn e) C = some (0, C) from w 2 (by decide), bS, if_pos (show (0 : Int32) = 0 from rfl), show f_X5_isWord N 3 (nn p) (nn e) C = some (0, C) from w 3 (by decide), bS, if_pos (show (0 : Int32) = 0 from rfl), show f_X5_isWord N 8 (nn p) (nn e) C = some (0, C) from w 8 (by decide), bS, if_pos (show (0 : Int32) = 0 from rfl), show f_X5_isWord N 4 (nn p) (nn e) C = some (0, C) from w 4 (by decide), bS, if_pos (show (0 : Int32) = 0 from rfl), show f_X5_isWord N 5 (nn p) (nn e) C = some (0, C) from w 5 (by decide), bS, if_pos (show (0 : Int32) = 0 from rfl), show f_X5_isWord N 6 (nn p) (nn e) C = some (1, C) from w 6 (by decide), bS, if_neg (show ¬ (1 : Int32) = 0 by decide)]
    rfl
  · rw [show f_X5_isWord N 0 (nn p) (nn e) C = some (0, C) from w 0 (by decide), bS, if_pos (show (0 : Int32) = 0 from rfl), show f_X5_isWord N 1 (nn p) (nn e) C = some (0, C) from w 1 (by decide), bS, if_pos (show (0 : Int32) = 0 from rfl), show f_X5_isWord N 2 (nn p) (nn e) C = some (0, C) from w 2 (by decide), bS, if_pos (show (0 : Int32) = 0 from rfl), show f_X5_isWord N 3 (nn p) (nn e) C = some (0, C) from w 3 (by decide), bS, if_pos (show (0 : Int32) = 0 from rfl), show f_X5_isWord N 8 (nn p) (nn e) C = some (0, C) from w 8 (by decide), bS, if_pos (show (0 : Int32) = 0 from rfl), show f_X5_isWord N 4 (nn p) (nn e) C = some (0, C) from w 4 (by decide), bS, if_pos (show (0 : Int32) = 0 from rfl), show f_X5_isWord N 5 (nn p) (nn e) C = some (0, C) from w 5 (by decide), bS, if_pos (show (0 : Int32) = 0 from rfl), show f_X5_isWord N 6 (nn p) (nn e) C = some (0, C) from w 6 (by decide), bS, if_pos (show (0 : Int32) = 0 from rfl), show f_X5_isWord N 7 (nn p) (nn e) C = some (1, C) from w 7 (by decide), bS, if_neg (show ¬ (1 : Int32) = 0 by decide)]
    rfl
theorem zl_kindOf {N len p : Nat} {tx : Nat → Nat} {C : Dat} (hN : 1000 ≤ N) (hT : TxC len tx C) (hp : p < len) : f_X5_kindOf N (nn p) (nn (zl_e len tx p)) C = some (nn (zl_ck (zl_t len tx p) (zl_v len tx p)), C) := by
  have hl := hT.1
  have hx := hT.2.2 p hp
  have hf := zl_facts (len := len) (p := p) (tx := tx) (by omega)
  have be := hf.1
  unfold f_X5_kindOf f_X5_kindOf_b21 f_X5_kindOf_b47 f_X5_kindOf_b72
  rw [zl_cdig hT (by omega), bS]
  by_cases hL : zl_L (tx p) = true
  · have tt : zl_t len tx p = if zl_e len tx p - p = 1 then 1 else 4 := by unfold zl_t; rw [if_pos hp, if_pos hL]
    rw [if_neg (show ¬ (p < len ∧ zl_D (tx p) = true) from fun w => zl_LD hL w.2), if_pos (show (0 : Int32) = 0 from rfl), zl_clet hT (by omega), bS, if_pos (show p < len ∧ zl_L (tx p) = true from ⟨hp, hL⟩), if_neg (show ¬ (1 : Int32) = 0 by decide), nn_sub be.1 (by omega)]
    by_cases w1 : zl_e len tx p - p = 1
    · rw [w1, if_pos (show nn 1 = 1 from rfl), tt, if_pos w1]
      rfl
    · rw [if_neg (show ¬ nn (zl_e len tx p - p) = 1 from fun w => w1 ((nn_eq (b := 1) (by omega) (by omega)).mp w))]
      rw [tt, if_neg w1] at hf
      rw [zl_kwd hN hT hf, bS, tt, if_neg w1]
  · by_cases hD : zl_D (tx p) = true
    · have tt : zl_t len tx p = if zl_e len tx p - p ≤ 9 then 2 else 3 := by unfold zl_t; rw [if_pos hp, if_neg hL, if_pos hD]
      rw [if_pos (show p < len ∧ zl_D (tx p) = true from ⟨hp, hD⟩), if_neg (show ¬ (1 : Int32) = 0 by decide), nn_sub be.1 (by omega)]
      by_cases w1 : zl_e len tx p - p ≤ 9
      · rw [if_pos (show nn _ ≤ (9 : Int32) from (nn_le (b := 9) (by omega) (by omega)).mpr w1), tt, if_pos w1]
        rfl
      · rw [if_neg (show ¬ nn _ ≤ (9 : Int32) from fun w => w1 ((nn_le (b := 9) (by omega) (by omega)).mp w)), tt, if_neg w1]
        rfl
    · have tt : zl_t len tx p = if zl_S (tx p) = true then tx p else 3 := by unfold zl_t; rw [if_pos hp, if_neg hL, if_neg hD]
      have i1 := nn_in (k := p) (n := 240) (by omega) (by omega)
      have i2 : ¬ (nn p < 0 ∨ 240 ≤ p) := by have := i1; rw [nn_nat (by omega)] at this; exact this
      rw [if_neg (show ¬ (p < len ∧ zl_D (tx p) = true) from fun w => hD w.2), if_pos (show (0 : Int32) = 0 from rfl), zl_clet hT (by omega), bS, if_neg (show ¬ (p < len ∧ zl_L (tx p) = true) from fun w => hL w.2), if_pos (show (0 : Int32) = 0 from rfl), if_neg i1, nn_nat (by omega), hx.1, zl_idx hN (by omega) hx.2.1, bS, hx.1, if_neg i2]
      by_cases s : zl_S (tx p) = true
      · have := zl_Si.mp s
        rw [if_neg (fun w => by have := (zl_ic9 _ (by omega) hx.2.1).mp w; rw [s] at this; exact absurd this (by decide)), tt, if_pos s, zl_ckt (by omega)]
      · have s' : zl_S (tx p) = false := by cases e : zl_S (tx p) with
          | true => exact absurd e s
          | false => rfl
        rw [if_pos ((zl_ic9 _ (by omega) hx.2.1).mpr s'), tt, if_neg s]
        rfl
theorem zl_ck1 {t v : Nat} (ht : t ≤ 4 ∨ zl_S t = true) (hv : t = 4 → v ≤ 9) : (zl_ck t v = 1 ↔ t = 1) ∧ (zl_ck t v = 2 ↔ t = 2) ∧ zl_ck t v < 127 := by
  have b : t < 127 := by
    rcases ht with h | h
    · omega
    · have := zl_Si.mp h; omega
  by_cases h4 : t = 4
  · subst h4
    have := zl_ckw v (by have := hv rfl; omega)
    omega
  · rw [zl_ckt h4]
    omega
/-- a token comes into the rows -/
theorem zl_addC {N len p c : Nat} {tx : Nat → Nat} {C : Dat} (hN : 1000 ≤ N) (hT : TxC len tx C) (hp : p < len) (hc : c < 240) (h13 : dI C 3 13 = nn c) : f_X5_addToken N (nn p) (nn (zl_e len tx p)) C = some (sI (sI (sI (sI C 263 c (nn (zl_ck (zl_t len tx p) (zl_v len tx p)))) 264 c (nn p)) 265 c (zl_vl (zl_t len tx p) (zl_v len tx p))) 3 13 (nn (c + 1))) := by
  have hl := hT.1
  have hf := zl_facts (len := len) (p := p) (tx := tx) (by omega)
  have ck := zl_ck1 (v := zl_v len tx p) hf.2.2.2.2.2.1 (fun q => (hf.2.2.2.2.2.2 q).1)
  have be := hf.1
  have d1 : ∀ x, dI (sI C 263 c x) 3 13 = nn c := fun x => by rw [dI_s, if_neg (by omega)]; exact h13
  have d2 : ∀ x y, dI (sI (sI C 263 c x) 264 c y) 3 13 = nn c := fun x y => by rw [dI_s, if_neg (by omega)]; exact d1 x
  have d3 : ∀ x y z, dI (sI (sI (sI C 263 c x) 264 c y) 265 c z) 3 13 = nn c := fun x y z => by rw [dI_s, if_neg (by omega)]; exact d2 x y
  have d4 : ∀ x y, dI (sI (sI C 263 c x) 264 c y) 4 p = nn (tx p) := fun x y => by rw [dI_s, if_neg (by omega), dI_s, if_neg (by omega)]; exact (hT.2.2 p hp).1
  have cN : (nn c).toNatClampNeg = c := nn_nat (by omega)
  have pN : (nn p).toNatClampNeg = p := nn_nat (by omega)
  have i1 : ¬ (nn c < 0 ∨ 241 ≤ c) := by have := nn_in (k := c) (n := 241) (by omega) (by omega); rw [cN] at this; exact this
  have i2 : ¬ (nn p < 0 ∨ 240 ≤ p) := by have := nn_in (k := p) (n := 240) (by omega) (by omega); rw [pN] at this; exact this
  have fin : ∀ x y z, f_X5_addToken_b78 N z (nn c) (sI (sI C 263 c x) 264 c y) = some (sI (sI (sI (sI C 263 c x) 264 c y) 265 c z) 3 13 (nn (c + 1))) := fun x y z => by
    unfold f_X5_addToken_b78
    rw [cN, if_neg i1, d3, nn_1]
  unfold f_X5_addToken
  rw [h13, if_pos (show nn c < 240 from (nn_lt (b := 240) (by omega) (by omega)).mpr hc), zl_kindOf hN hT hp, bS, h13, cN, if_neg i1, d1, cN, if_neg i1, d2, pN, if_neg i2, d4]
  unfold zl_vl
  by_cases t1 : zl_t len tx p = 1
  · have hL : zl_L (tx p) = true := by
      by_cases q : zl_L (tx p) = true
      · exact q
      · exfalso
        unfold zl_t at t1
        rw [if_pos hp, if_neg q] at t1
        split at t1
        · split at t1 <;> omega
        · split at t1
          · rename_i s
            have := zl_Si.mp s
            omega
          · omega
    have e1 : zl_e len tx p - p = 1 := by have := (hf.2.2.2.1 t1).2; omega
    have := zl_Li.mp hL
    have s : nn (tx p) - (97 : Int32) = nn (zl_v len tx p) := by
      unfold zl_v
      rw [if_pos hL, if_pos e1]
      exact nn_sub (b := 97) (by omega) (by omega)
    rw [if_pos (show nn (zl_ck (zl_t len tx p) (zl_v len tx p)) = 1 by rw [ck.1.mpr t1]; rfl), s, fin, if_pos (Or.inl t1)]
  · rw [if_neg (show ¬ nn (zl_ck (zl_t len tx p) (zl_v len tx p)) = 1 from fun q => t1 (ck.1.mp ((nn_eq (b := 1) (by omega) (by omega)).mp q)))]
    by_cases t2 : zl_t len tx p = 2
    · have hL : ¬ zl_L (tx p) = true := fun q => by
        unfold zl_t at t2
        rw [if_pos hp, if_pos q] at t2
        split at t2 <;> omega
      have hD : zl_D (tx p) = true := by
        by_cases q : zl_D (tx p) = true
        · exact q
        · exfalso
          unfold zl_t at t2
          rw [if_pos hp, if_neg hL, if_neg q] at t2
          split at t2
          · rename_i s
            have := zl_Si.mp s
            omega
          · omega
      have ee : zl_e len tx p = zl_run (zl_dt tx) (len - (p + 1)) (p + 1) := by unfold zl_e; rw [if_pos hp, if_neg hL, if_pos hD]
      have dig : ∀ j, p ≤ j → j < zl_e len tx p → 48 ≤ tx j := fun j g1 g2 => by
        by_cases e : j = p
        · rw [e]; exact (zl_Di.mp hD).1
        · have := zl_run_in (f := zl_dt tx) (len - (p + 1)) (p + 1) j (by omega) (by rw [← ee]; exact g2)
          exact (zl_Di.mp this).1
      have hT2 : TxC len tx (sI (sI C 263 c (nn (zl_ck (zl_t len tx p) (zl_v len tx p)))) 264 c (nn p)) := hT.kept (P := fun a k => a = 263 ∨ a = 264) (Ch.sI (by omega) (Ch.sI (by omega) Ch.rf)) (fun a k w => by omega)
      have nm : f_X5_numberAt N (nn p) (nn (zl_e len tx p)) (sI (sI C 263 c (nn (zl_ck (zl_t len tx p) (zl_v len tx p)))) 264 c (nn p)) = some (nn (zl_v len tx p), sI (sI C 263 c (nn (zl_ck (zl_t len tx p) (zl_v len tx p)))) 264 c (nn p)) := by
        have := zl_numC (N := N) hT2 (show zl_e len tx p ≤ len by omega) (zl_e len tx p - p) N p 0 (by omega) (by omega) dig
        have vv : zl_v len tx p = zl_nv tx (zl_e len tx p - p) p 0 := by unfold zl_v; rw [if_neg hL]
        unfold f_X5_numberAt
        rw [vv] at this ⊢
        exact this
      rw [if_pos (show nn (zl_ck (zl_t len tx p) (zl_v len tx p)) = 2 by rw [ck.2.1.mpr t2]; rfl), nm, bS, fin, if_pos (Or.inr t2)]
    · rw [if_neg (show ¬ nn (zl_ck (zl_t len tx p) (zl_v len tx p)) = 2 from fun q => t2 (ck.2.1.mp ((nn_eq (b := 2) (by omega) (by omega)).mp q))), fin, if_neg (show ¬ (zl_t len tx p = 1 ∨ zl_t len tx p = 2) by omega)]
theorem zl_p_at {len i : Nat} {tx : Nat → Nat} (hi : i < len) (h : ¬ tx i = 32) : zl_p len tx i = i := by
  unfold zl_p
  obtain ⟨r, hr⟩ : ∃ r, len - i = r + 1 := ⟨len - i - 1, by omega⟩
  rw [hr]
  unfold zl_run
  rw [if_neg (show ¬ zl_bk tx i = true from fun w => h (of_decide_eq_true w))]
theorem zl_p_bk {len i : Nat} {tx : Nat → Nat} (hi : i < len) (h : tx i = 32) : zl_p len tx i = zl_p len tx (i + 1) := by
  unfold zl_p
  obtain ⟨r, hr⟩ : ∃ r, len - i = r + 1 := ⟨len - i - 1, by omega⟩
  rw [hr, show len - (i + 1) = r by omega]
  show (if zl_bk tx i = true then _ else _) = _
  rw [if_pos (show zl_bk tx i = true from decide_eq_true h)]
theorem zl_p_end {len : Nat} {tx : Nat → Nat} : zl_p len tx len = len := by
  unfold zl_p
  rw [Nat.sub_self]
  rfl
theorem zl_p_le {len b : Nat} {tx : Nat → Nat} (hb : b ≤ len) : b ≤ zl_p len tx b ∧ zl_p len tx b ≤ len := by
  have := zl_run_b (f := zl_bk tx) (len - b) b
  unfold zl_p
  omega
def QTk (a k : Nat) : Prop := (a = 3 ∧ k = 13) ∨ (263 ≤ a ∧ a ≤ 265)
/-- the last token -/
theorem zl_fin55 {N len c : Nat} {tx : Nat → Nat} {C : Dat} (hT : TxC len tx C) (hc : c ≤ 240) (h13 : dI C 3 13 = nn c) (hE : ∀ j, j < c → TEn len tx C j) (hp : zl_p len tx (zl_T len tx c) = len) : ∃ C' cnt, f_X5_findTokens_b55 N C = some C' ∧ Ch QTk C C' ∧ TB len tx cnt C' := by
  have hl := hT.1
  have d1 : ∀ x, dI (sI C 263 c x) 3 13 = nn c := fun x => by rw [dI_s, if_neg (by omega)]; exact h13
  have d1' : ∀ x, dI (sI C 263 c x) 3 2 = nn len := fun x => by rw [dI_s, if_neg (by omega)]; exact hT.2.1
  have d2 : ∀ x y, dI (sI (sI C 263 c x) 264 c y) 3 13 = nn c := fun x y => by rw [dI_s, if_neg (by omega)]; exact d1 x
  have d3 : ∀ x y z, dI (sI (sI (sI C 263 c x) 264 c y) 265 c z) 3 13 = nn c := fun x y z => by rw [dI_s, if_neg (by omega)]; exact d2 x y
  have cN : (nn c).toNatClampNeg = c := nn_nat (by omega)
  have i1 : ¬ (nn c < 0 ∨ 241 ≤ c) := by have := nn_in (k := c) (n := 241) (by omega) (by omega); rw [cN] at this; exact this
  refine ⟨sI (sI (sI (sI C 263 c 0) 264 c (nn len)) 265 c (-1)) 3 13 (nn (c + 1)), c + 1, ?_, Ch.sI (by unfold QTk; omega) (Ch.sI (by unfold QTk; omega) (Ch.sI (by unfold QTk; omega) (Ch.sI (by unfold QTk; omega) Ch.rf))), ⟨⟨by omega, by omega⟩, by rw [dI_s, if_pos ⟨rfl, rfl⟩], fun j hj => ?_, hp⟩⟩
  · unfold f_X5_findTokens_b55 f_X5_findTokens_b88
    rw [h13, cN, if_neg i1, d1, cN, if_neg i1, d1', d2, cN, if_neg i1, d3, nn_1]
  · by_cases e : j = c
    · subst e
      unfold TEn
      rw [hp]
      have tt : zl_t len tx len = 0 := by unfold zl_t; rw [if_neg (by omega)]
      rw [tt]
      refine ⟨?_, ?_, ?_⟩
      · rw [dI_s, if_neg (by omega), dI_s, if_neg (by omega), dI_s, if_pos ⟨rfl, rfl⟩]
      · rw [dI_s, if_neg (by omega), dI_s, if_neg (by omega), dI_s, if_neg (by omega), dI_s, if_pos ⟨rfl, rfl⟩]
        rfl
      · rw [dI_s, if_neg (by omega), dI_s, if_pos ⟨rfl, rfl⟩]
        rfl
    · exact (hE j (by omega)).kept (X := fun a k => (a = 3 ∧ k = 13) ∨ ((263 ≤ a ∧ a ≤ 265) ∧ k = c)) (Ch.sI (by omega) (Ch.sI (by omega) (Ch.sI (by omega) (Ch.sI (by omega) Ch.rf)))) (fun a w => by omega)
theorem zl_find_l {N len : Nat} {tx : Nat → Nat} (hN : 1000 ≤ N) {X : Dat} : ∀ (r g i k c : Nat) (C : Dat), len ≤ i + r → r < g → i ≤ len → k ≤ i → c ≤ k → TxC len tx C → dI C 3 13 = nn c → (∀ j, j < c → TEn len tx C j) → zl_p len tx (zl_T len tx c) = zl_p len tx i → Ch QTk X C → ∃ C' cnt, f_X5_findTokens_b9 N g (nn i) (nn k) C = some C' ∧ Ch QTk X C' ∧ TB len tx cnt C' := by
  have stop : ∀ (g k c : Nat) (C : Dat), k ≤ len → c ≤ k → TxC len tx C → dI C 3 13 = nn c → (∀ j, j < c → TEn len tx C j) → zl_p len tx (zl_T len tx c) = zl_p len tx len → Ch QTk X C → ∃ C' cnt, f_X5_findTokens_b9 N (g + 1) (nn len) (nn k) C = some C' ∧ Ch QTk X C' ∧ TB len tx cnt C' := by
    intro g k c C hk hc hT h13 hE hp hX
    have hl := hT.1
    rw [zl_p_end] at hp
    obtain ⟨C', cnt, a1, a2, a3⟩ := zl_fin55 (N := N) hT (show c ≤ 240 by omega) h13 hE hp
    refine ⟨C', cnt, ?_, hX.tr a2, a3⟩
    rw [f_X5_findTokens_b9, hT.2.1]
    by_cases w : (240 : Int32) ≤ nn k
    · rw [if_pos w]; exact a1
    · rw [if_neg w, if_pos (Int32.le_refl _)]; exact a1
  intro r
  induction r with
  | zero =>
    intro g i k c C hi hg hil hk hc hT h13 hE hp hX
    obtain ⟨g, rfl⟩ : ∃ g', g = g' + 1 := ⟨g - 1, by omega⟩
    have : i = len := by omega
    subst this
    exact stop g k c C hk hc hT h13 hE hp hX
  | succ r ih =>
    intro g i k c C hi hg hil hk hc hT h13 hE hp hX
    obtain ⟨g, rfl⟩ : ∃ g', g = g' + 1 := ⟨g - 1, by omega⟩
    have hl := hT.1
    by_cases hil2 : i = len
    · subst hil2
      exact stop g k c C hk hc hT h13 hE hp hX
    have hlt : i < len := by omega
    have hx := hT.2.2 i hlt
    have hf := zl_facts (len := len) (p := i) (tx := tx) (by omega)
    have be := hf.1
    rw [f_X5_findTokens_b9, hT.2.1, if_neg (show ¬ (240 : Int32) ≤ nn k from fun w => by have := (nn_le (a := 240) (by omega) (by omega)).mp w; omega), if_neg (fun w => by have := (nn_le (by omega) (by omega)).mp w; omega), zl_end hN hT hlt, bS, if_neg (nn_in (k := i) (n := 240) (by omega) (by omega)), nn_nat (by omega), hx.1]
    unfold f_X5_findTokens_b47
    rw [nn_1]
    by_cases e : tx i = 32
    · have ee : zl_e len tx i = i + 1 := by
        unfold zl_e
        rw [if_pos hlt, if_neg (fun w => by have := zl_Li.mp w; omega), if_neg (fun w => by have := zl_Di.mp w; omega)]
      rw [if_pos (by rw [e]; rfl), ee]
      exact ih g (i + 1) (k + 1) c C (by omega) (by omega) (by omega) (by omega) (by omega) hT h13 hE (by rw [hp]; exact zl_p_bk hlt e) hX
    · have pi := zl_p_at (len := len) hlt e
      have t0 : zl_t len tx i ≠ 0 := by
        unfold zl_t
        rw [if_pos hlt]
        split
        · split <;> omega
        · split
          · split <;> omega
          · split
            · rename_i s
              have := zl_Si.mp s
              omega
            · omega
      have elt := hf.2.1 t0
      rw [if_neg (show ¬ nn (tx i) = 32 from fun w => e ((nn_eq (b := 32) (by omega) (by omega)).mp w)), zl_addC hN hT hlt (show c < 240 by omega) h13, bS]
      have cC : ∀ x y z w, Ch (fun a k => (a = 3 ∧ k = 13) ∨ ((263 ≤ a ∧ a ≤ 265) ∧ k = c)) C (sI (sI (sI (sI C 263 c x) 264 c y) 265 c z) 3 13 w) := fun x y z w => Ch.sI (by omega) (Ch.sI (by omega) (Ch.sI (by omega) (Ch.sI (by omega) Ch.rf)))
      rw [pi] at hp
      refine ih g (zl_e len tx i) (k + 1) (c + 1) _ (by omega) (by omega) (by omega) (by omega) (by omega) (hT.kept (cC _ _ _ _) (fun a k w => by omega)) (by rw [dI_s, if_pos ⟨rfl, rfl⟩]) (fun j hj => ?_) ?_ (hX.tr ((cC _ _ _ _).mono (fun a k w => by unfold QTk; omega)))
      · by_cases ej : j = c
        · subst ej
          unfold TEn
          rw [hp]
          refine ⟨?_, ?_, ?_⟩
          · rw [dI_s, if_neg (by omega), dI_s, if_neg (by omega), dI_s, if_pos ⟨rfl, rfl⟩]
          · rw [dI_s, if_neg (by omega), dI_s, if_neg (by omega), dI_s, if_neg (by omega), dI_s, if_pos ⟨rfl, rfl⟩]
          · rw [dI_s, if_neg (by omega), dI_s, if_pos ⟨rfl, rfl⟩]
        · exact (hE j (by omega)).kept (cC _ _ _ _) (fun a w => by omega)
      · show zl_p len tx (zl_e len tx (zl_p len tx (zl_T len tx c))) = _
        rw [hp]
theorem zl_find {N len : Nat} {tx : Nat → Nat} (hN : 1000 ≤ N) {C : Dat} (hT : TxC len tx C) : ∃ C' cnt, f_X5_findTokens N C = some C' ∧ Ch QTk C C' ∧ TB len tx cnt C' := by
  have hl := hT.1
  have c1 : Ch QTk C (sI C 3 13 0) := Ch.sI (by unfold QTk; omega) Ch.rf
  unfold f_X5_findTokens
  exact zl_find_l hN len N 0 0 0 _ (by omega) (by omega) (by omega) (by omega) (by omega) (hT.kept c1 (fun a k w => by unfold QTk at w; omega)) (by rw [dI_s, if_pos ⟨rfl, rfl⟩]; rfl) (fun j hj => absurd hj (by omega)) rfl c1
/-- the class goes to the i-th token, or stays at the last -/
theorem zl_goC {len cnt i j : Nat} {tx : Nat → Nat} {C : Dat} (hB : TB len tx cnt C) (hi : i < 1000) (hj : j = if cnt - 1 < i then cnt - 1 else i) : ∃ C', f_X5_goTo (nn i) C = some C' ∧ Ch QlC C C' ∧ dI C' 3 8 = nn j ∧ j < cnt ∧ TkC (zl_p len tx (zl_T len tx j)) (zl_e len tx (zl_p len tx (zl_T len tx j))) (zl_t len tx (zl_p len tx (zl_T len tx j))) (zl_v len tx (zl_p len tx (zl_T len tx j))) C' := by
  obtain ⟨⟨h1, h2⟩, h3, h4, h5⟩ := hB
  have jc : j < cnt := by rw [hj]; split <;> omega
  obtain ⟨e1, e2, e3⟩ := h4 j jc
  have s1 : nn cnt - (1 : Int32) = nn (cnt - 1) := nn_sub (b := 1) (by omega) (by omega)
  have m : (if nn (cnt - 1) < nn i then nn (cnt - 1) else nn i) = nn j := by
    rw [hj]
    by_cases w : cnt - 1 < i
    · rw [if_pos ((nn_lt (by omega) (by omega)).mpr w), if_pos w]
    · rw [if_neg (fun q => w ((nn_lt (by omega) (by omega)).mp q)), if_neg w]
  have jN : (nn j).toNatClampNeg = j := nn_nat (by omega)
  have i1 : ¬ (nn j < 0 ∨ 241 ≤ j) := by have := nn_in (k := j) (n := 241) (by omega) (by omega); rw [jN] at this; exact this
  have d1 : dI (sI C 3 8 (nn j)) 3 8 = nn j := by rw [dI_s, if_pos ⟨rfl, rfl⟩]
  have d2 : dI (sI C 3 8 (nn j)) 263 j = nn (zl_ck (zl_t len tx (zl_p len tx (zl_T len tx j))) (zl_v len tx (zl_p len tx (zl_T len tx j)))) := by rw [dI_s, if_neg (by omega)]; exact e2
  have d3 : ∀ x, dI (sI (sI C 3 8 (nn j)) 3 6 x) 3 8 = nn j := fun x => by rw [dI_s, if_neg (by omega)]; exact d1
  have d4 : ∀ x, dI (sI (sI C 3 8 (nn j)) 3 6 x) 264 j = nn (zl_p len tx (zl_T len tx j)) := fun x => by rw [dI_s, if_neg (by omega), dI_s, if_neg (by omega)]; exact e1
  have d5 : ∀ x y, dI (sI (sI (sI C 3 8 (nn j)) 3 6 x) 3 7 y) 3 8 = nn j := fun x y => by rw [dI_s, if_neg (by omega)]; exact d3 x
  have d6 : ∀ x y, dI (sI (sI (sI C 3 8 (nn j)) 3 6 x) 3 7 y) 265 j = zl_vl (zl_t len tx (zl_p len tx (zl_T len tx j))) (zl_v len tx (zl_p len tx (zl_T len tx j))) := fun x y => by rw [dI_s, if_neg (by omega), dI_s, if_neg (by omega), dI_s, if_neg (by omega)]; exact e3
  refine ⟨sI (sI (sI (sI C 3 8 (nn j)) 3 6 (nn (zl_ck (zl_t len tx (zl_p len tx (zl_T len tx j))) (zl_v len tx (zl_p len tx (zl_T len tx j)))))) 3 7 (nn (zl_p len tx (zl_T len tx j)))) 3 9 (zl_vl (zl_t len tx (zl_p len tx (zl_T len tx j))) (zl_v len tx (zl_p len tx (zl_T len tx j)))), ?_, Ch.sI (by unfold QlC; omega) (Ch.sI (by unfold QlC; omega) (Ch.sI (by unfold QlC; omega) (Ch.sI (by unfold QlC; omega) Ch.rf))), by rw [dI_s, if_neg (by omega)]; exact d5 _ _, jc, ?_⟩
  · unfold f_X5_goTo f_X5_goTo_b34 f_X5_goTo_b60
    rw [h3, s1, m, d1, if_neg (nn_nlt0 (by omega)), jN, if_neg i1, d2, d3, jN, if_neg i1, d4, d5, jN, if_neg i1, d6]
  · refine ⟨by rw [dI_s, if_neg (by omega), dI_s, if_pos ⟨rfl, rfl⟩], trivial, by rw [dI_s, if_neg (by omega), dI_s, if_neg (by omega), dI_s, if_pos ⟨rfl, rfl⟩], by rw [dI_s, if_pos ⟨rfl, rfl⟩]; rfl⟩
theorem zl_advC {len e : Nat} {tx : Nat → Nat} {C : Dat} (he : e ≤ len) (hl : len ≤ 240) (hA : AtE len tx C e) : ∃ C', f_X5_goTo (dI C 3 8 + 1) C = some C' ∧ Ch QlC C C' ∧ AtE len tx C' (zl_e len tx (zl_p len tx e)) ∧ TkC (zl_p len tx e) (zl_e len tx (zl_p len tx e)) (zl_t len tx (zl_p len tx e)) (zl_v len tx (zl_p len tx e)) C' := by
  obtain ⟨cnt, i, hB, h2, h3, h4⟩ := hA
  have hc := hB.1
  obtain ⟨C', a1, a2, a3, a4, a5⟩ := zl_goC (i := i + 1) hB (by omega) rfl
  rw [h3, nn_1]
  have e1 : zl_p len tx (zl_T len tx (if cnt - 1 < i + 1 then cnt - 1 else i + 1)) = zl_p len tx e := by
    by_cases w : cnt - 1 < i + 1
    · rw [if_pos w]
      have hi : i = cnt - 1 := by omega
      have h5 := hB.2.2.2
      rw [h5]
      have h6 : zl_T len tx (i + 1) = zl_e len tx (zl_p len tx (zl_T len tx i)) := rfl
      rw [h6, hi, h5] at h4
      have ee : zl_e len tx len = len := by unfold zl_e; rw [if_neg (by omega)]
      rw [ee] at h4
      rw [← h4, zl_p_end]
    · rw [if_neg w, h4]
  rw [e1] at a5
  refine ⟨C', a1, a2, ⟨cnt, _, hB.kept a2 (fun a k w => by unfold QlC at w; unfold RTb; omega), a4, a3, ?_⟩, a5⟩
  show zl_e len tx (zl_p len tx (zl_T len tx (if cnt - 1 < i + 1 then cnt - 1 else i + 1))) = _
  rw [e1]
/-- text and token of both -/
def Lx (len : Nat) (tx : Nat → Nat) (p e t v : Nat) (C M : Dat) : Prop := (TxC len tx C ∧ TxM len tx M) ∧ (TkC p e t v C ∧ AtE len tx C e) ∧ TkM p e t v M ∧ Tok len tx p e t v
/-- both go on to the next token -/
theorem zl_lex {N len e : Nat} {tx : Nat → Nat} (hN : 1000 ≤ N) {C M : Dat} (hC : TxC len tx C) (hM : TxM len tx M) (he : e ≤ len) (hA : AtE len tx C e) (h36 : dI M 207 36 = nn e) : ∃ p' e' t' v' C' M', f_X5_goTo (dI C 3 8 + 1) C = some C' ∧ f_X12_next N M = some M' ∧ e ≤ p' ∧ Lx len tx p' e' t' v' C' M' ∧ Ch QlC C C' ∧ Ch QlM M M' := by
  obtain ⟨C', a1, a2, a3, a4⟩ := zl_advC he hC.1 hA
  obtain ⟨M', b1, b2, b3⟩ := zl_nextM hN hM he h36
  have be := zl_p_le (tx := tx) he
  exact ⟨zl_p len tx e, _, _, _, C', M', a1, b1, be.1, ⟨⟨hC.kept a2 (fun a k w => by unfold QlC at w; omega), hM.kept b2 (fun a k w => by unfold QlM at w; omega)⟩, ⟨a4, a3⟩, b3, zl_facts be.2⟩, a2, b2⟩
/-- both at the first token -/
theorem zl_first {N len cnt : Nat} {tx : Nat → Nat} (hN : 1000 ≤ N) {C M : Dat} (hC : TxC len tx C) (hM : TxM len tx M) (hB : TB len tx cnt C) (h36 : dI M 207 36 = nn 0) : ∃ p' e' t' v' C' M', f_X5_goTo 0 C = some C' ∧ f_X12_next N M = some M' ∧ Lx len tx p' e' t' v' C' M' ∧ Ch QlC C C' ∧ Ch QlM M M' := by
  obtain ⟨C', a1, a2, a3, a4, a5⟩ := zl_goC (i := 0) (j := 0) hB (by omega) (by split <;> omega)
  obtain ⟨M', b1, b2, b3⟩ := zl_nextM hN hM (show 0 ≤ len by omega) h36
  have be := zl_p_le (b := 0) (tx := tx) (show 0 ≤ len by omega)
  exact ⟨zl_p len tx 0, _, _, _, C', M', a1, b1, ⟨⟨hC.kept a2 (fun a k w => by unfold QlC at w; omega), hM.kept b2 (fun a k w => by unfold QlM at w; omega)⟩, ⟨a5, ⟨cnt, 0, hB.kept a2 (fun a k w => by unfold QlC at w; unfold RTb; omega), a4, a3, rfl⟩⟩, b3, zl_facts be.2⟩, a2, b2⟩
/-- whether the token is a word, by its kind -/
def f_X5_isW (j : Nat) (D : Dat) : Option (Int32 × Dat) := some (if dI D 3 6 = nn (zl_ck 4 (zl_kc j)) then 1 else 0, D)
theorem zl_isW {len p e t v j : Nat} {tx : Nat → Nat} {C : Dat} (hj : j < 9) (hk : TkC p e t v C) (ht : Tok len tx p e t v) : f_X5_isW j C = some (if t = 4 ∧ v = zl_kc j then 1 else 0, C) := by
  unfold f_X5_isW
  rw [hk.2.2.1]
  obtain ⟨⟨t1, t2⟩, t3, t4, t5, t6, t7, t8⟩ := ht
  have ki : ∀ j, j < 9 → ∀ v, v < 10 → (zl_ck 4 v = zl_ck 4 (zl_kc j) ↔ v = zl_kc j) := by decide +kernel
  have kb : ∀ j, j < 9 → zl_ck 4 (zl_kc j) = 13 ∨ zl_ck 4 (zl_kc j) = 14 ∨ (16 ≤ zl_ck 4 (zl_kc j) ∧ zl_ck 4 (zl_kc j) ≤ 23) := by decide +kernel
  have k2 := kb j hj
  by_cases h4 : t = 4
  · subst h4
    have v9 := (t8 rfl).1
    have := zl_ckw v (by omega)
    by_cases e : v = zl_kc j
    · rw [if_pos (by rw [e]), if_pos ⟨rfl, e⟩]
    · rw [if_neg (fun q => e ((ki j hj v (by omega)).mp ((nn_eq (by omega) (by omega)).mp q))), if_neg (fun q => e q.2)]
  · rw [zl_ckt h4, if_neg (fun q => ?_), if_neg (fun q => h4 q.1)]
    rcases t7 with a | a
    · have := (nn_eq (by omega) (by omega)).mp q
      omega
    · have b := zl_Si.mp a
      have := (nn_eq (by omega) (by omega)).mp q
      omega
