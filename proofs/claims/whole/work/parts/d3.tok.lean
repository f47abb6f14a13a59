/-! what is known of a token; the class's isWord -/
def zl_by (j k : Nat) : Nat := ((sbyt.getD j []).getD k 0).toNatClampNeg
def zl_kc (j : Nat) : Nat := [1, 2, 3, 4, 6, 7, 8, 9, 5].getD j 0
def zl_sl (j : Nat) : Nat := slen.getD j 0
def Tok (len : Nat) (tx : Nat → Nat) (p e t v : Nat) : Prop := (p ≤ e ∧ e ≤ len) ∧ (t ≠ 0 → p < e) ∧ (t = 0 → p = len ∧ e = len) ∧ (t = 1 → v < 26 ∧ e = p + 1) ∧ (t = 2 → v < 1000000000) ∧ (t ≤ 4 ∨ zl_S t = true) ∧ (t = 4 → v ≤ 9 ∧ ∀ j, j < 9 → (v = zl_kc j ↔ (e - p = zl_sl j ∧ ∀ k, k < zl_sl j → tx (p + k) = zl_by j k)))
theorem zl_by_ok : ∀ j, j < 9 → 2 ≤ zl_sl j ∧ zl_sl j ≤ 5 ∧ ∀ k, k < zl_sl j → (97 ≤ zl_by j k ∧ zl_by j k ≤ 122) ∧ (sbyt.getD j []).getD k 0 = nn (zl_by j k) := by decide +kernel
def zl_co (j : Nat) : Nat := zl_cv (zl_by j) (zl_sl j) 0 0
theorem zl_co_v : zl_co 0 = 22578 ∧ zl_co 1 = 18935 ∧ zl_co 2 = 543203 ∧ zl_co 3 = 294 ∧ zl_co 4 = 24388997 ∧ zl_co 5 = 302 ∧ zl_co 6 = 16052 ∧ zl_co 7 = 143 ∧ zl_co 8 = 176741 := by decide +kernel
theorem zl_kw_iff (X : Nat) : ∀ j, j < 9 → (zl_kw X = zl_kc j ↔ X = zl_co j) := by
  obtain ⟨c0, c1, c2, c3, c4, c5, c6, c7, c8⟩ := zl_co_v
  intro j hj
  have hh : j = 0 ∨ j = 1 ∨ j = 2 ∨ j = 3 ∨ j = 4 ∨ j = 5 ∨ j = 6 ∨ j = 7 ∨ j = 8 := by omega
  unfold zl_kw
  rcases hh with rfl | rfl | rfl | rfl | rfl | rfl | rfl | rfl | rfl
  · rw [c0]; show _ = 1 ↔ _; repeat' split
    all_goals omega
  · rw [c1]; show _ = 2 ↔ _; repeat' split
    all_goals omega
  · rw [c2]; show _ = 3 ↔ _; repeat' split
    all_goals omega
  · rw [c3]; show _ = 4 ↔ _; repeat' split
    all_goals omega
  · rw [c4]; show _ = 6 ↔ _; repeat' split
    all_goals omega
  · rw [c5]; show _ = 7 ↔ _; repeat' split
    all_goals omega
  · rw [c6]; show _ = 8 ↔ _; repeat' split
    all_goals omega
  · rw [c7]; show _ = 9 ↔ _; repeat' split
    all_goals omega
  · rw [c8]; show _ = 5 ↔ _; repeat' split
    all_goals omega
theorem zl_kw_9 (X : Nat) : zl_kw X ≤ 9 := by
  unfold zl_kw
  repeat' split
  all_goals omega
theorem zl_cv_inj {f g : Nat → Nat} : ∀ (k i i' a a' : Nat), (∀ j, j < k → 97 ≤ f (i + j) ∧ f (i + j) ≤ 122) → (∀ j, j < k → 97 ≤ g (i' + j) ∧ g (i' + j) ≤ 122) → (zl_cv f k i a = zl_cv g k i' a' ↔ (a = a' ∧ ∀ j, j < k → f (i + j) = g (i' + j))) := by
  intro k
  induction k with
  | zero => intro i i' a a' _ _; exact ⟨fun h => ⟨h, fun j hj => absurd hj (by omega)⟩, fun h => h.1⟩
  | succ k ih =>
    intro i i' a a' hf hg
    have f0 := hf 0 (by omega)
    have g0 := hg 0 (by omega)
    rw [Nat.add_zero] at f0 g0
    show zl_cv f k (i + 1) (32 * a + (f i - 96)) = zl_cv g k (i' + 1) (32 * a' + (g i' - 96)) ↔ _
    rw [ih (i + 1) (i' + 1) _ _ (fun j hj => by have := hf (j + 1) (by omega); rw [show i + 1 + j = i + (j + 1) by omega]; exact this) (fun j hj => by have := hg (j + 1) (by omega); rw [show i' + 1 + j = i' + (j + 1) by omega]; exact this)]
    constructor
    · rintro ⟨h1, h2⟩
      refine ⟨by omega, fun j hj => ?_⟩
      by_cases e : j = 0
      · rw [e, Nat.add_zero, Nat.add_zero]; omega
      · have := h2 (j - 1) (by omega)
        rw [show i + 1 + (j - 1) = i + j by omega, show i' + 1 + (j - 1) = i' + j by omega] at this
        exact this
    · rintro ⟨h1, h2⟩
      have z := h2 0 (by omega)
      rw [Nat.add_zero, Nat.add_zero] at z
      refine ⟨by rw [h1, z], fun j hj => ?_⟩
      have := h2 (j + 1) (by omega)
      rw [show i + 1 + j = i + (j + 1) by omega, show i' + 1 + j = i' + (j + 1) by omega]
      exact this
theorem zl_cv_lo {f : Nat → Nat} : ∀ (k i a : Nat), a * 32 ^ k ≤ zl_cv f k i a := by
  intro k
  induction k with
  | zero => intro i a; show a * 32 ^ 0 ≤ a; omega
  | succ k ih =>
    intro i a
    have h := ih (i + 1) (32 * a + (f i - 96))
    show a * 32 ^ (k + 1) ≤ zl_cv f k (i + 1) (32 * a + (f i - 96))
    refine Nat.le_trans ?_ h
    rw [Nat.pow_succ]
    have e : a * (32 ^ k * 32) = (32 * a) * 32 ^ k := by rw [Nat.mul_comm (32 ^ k) 32, ← Nat.mul_assoc, Nat.mul_comm a 32]
    rw [e]
    exact Nat.mul_le_mul_right _ (by omega)
theorem zl_cv_one {f : Nat → Nat} {n i : Nat} (h1 : 1 ≤ n) (h : 97 ≤ f i) : 32 ^ (n - 1) ≤ zl_cv f n i 0 := by
  obtain ⟨n, rfl⟩ : ∃ m, n = m + 1 := ⟨n - 1, by omega⟩
  have := zl_cv_lo (f := f) n (i + 1) (32 * 0 + (f i - 96))
  show 32 ^ (n + 1 - 1) ≤ zl_cv f n (i + 1) (32 * 0 + (f i - 96))
  refine Nat.le_trans ?_ this
  rw [Nat.add_sub_cancel]
  have : 1 * 32 ^ n ≤ (32 * 0 + (f i - 96)) * 32 ^ n := Nat.mul_le_mul_right _ (by omega)
  omega
theorem zl_word {f : Nat → Nat} {n i j : Nat} (hj : j < 9) (h1 : 1 ≤ n) (h5 : n ≤ 5) (hf : ∀ k, k < n → 97 ≤ f (i + k) ∧ f (i + k) ≤ 122) : zl_kw (zl_cv f n i 0) = zl_kc j ↔ (n = zl_sl j ∧ ∀ k, k < zl_sl j → f (i + k) = zl_by j k) := by
  obtain ⟨s1, s2, s3⟩ := zl_by_ok j hj
  rw [zl_kw_iff _ j hj]
  unfold zl_co
  have lo1 := zl_cv_one (f := f) (n := n) (i := i) h1 (by have := (hf 0 (by omega)).1; rw [Nat.add_zero] at this; exact this)
  have lo2 := zl_cv_one (f := zl_by j) (n := zl_sl j) (i := 0) (by omega) (s3 0 (by omega)).1.1
  have hi1 := zl_cv_b (tx := f) n i 0 0 (fun k g1 g2 => by have := (hf (k - i) (by omega)).2; rw [show i + (k - i) = k by omega] at this; exact this) (by decide)
  have hi2 := zl_cv_b (tx := zl_by j) (zl_sl j) 0 0 0 (fun k g1 g2 => (s3 k (by omega)).1.2) (by decide)
  rw [Nat.zero_add] at hi1 hi2
  by_cases hn : n = zl_sl j
  · rw [← hn]
    rw [← hn] at s3
    rw [zl_cv_inj n i 0 0 0 hf (fun k hk => by rw [Nat.zero_add]; exact (s3 k hk).1)]
    constructor
    · rintro ⟨_, h⟩
      exact ⟨rfl, fun k hk => by have := h k hk; rw [Nat.zero_add] at this; exact this⟩
    · rintro ⟨_, h⟩
      exact ⟨rfl, fun k hk => by rw [Nat.zero_add]; exact h k hk⟩
  · constructor
    · intro h
      exfalso
      rcases Nat.lt_or_gt_of_ne hn with q | q
      · have : (32 : Nat) ^ n ≤ 32 ^ (zl_sl j - 1) := Nat.pow_le_pow_right (by decide) (by omega)
        omega
      · have : (32 : Nat) ^ (zl_sl j) ≤ 32 ^ (n - 1) := Nat.pow_le_pow_right (by decide) (by omega)
        omega
    · intro h; exact absurd h.1 hn
theorem zl_nv_b {tx : Nat → Nat} : ∀ (k i a m : Nat), (∀ j, i ≤ j → j < i + k → tx j ≤ 57) → a < 10 ^ m → zl_nv tx k i a < 10 ^ (m + k) := by
  intro k
  induction k with
  | zero => intro i a m _ h; exact h
  | succ k ih =>
    intro i a m hx h
    have := hx i (Nat.le_refl _) (by omega)
    have e : m + (k + 1) = (m + 1) + k := by omega
    rw [e]
    refine ih (i + 1) _ (m + 1) (fun j g1 g2 => hx j (by omega) (by omega)) ?_
    rw [Nat.pow_succ]
    omega
theorem zl_facts {len p : Nat} {tx : Nat → Nat} (hp : p ≤ len) : Tok len tx p (zl_e len tx p) (zl_t len tx p) (zl_v len tx p) := by
  have bL := zl_run_b (f := zl_lt tx) (len - (p + 1)) (p + 1)
  have bD := zl_run_b (f := zl_dt tx) (len - (p + 1)) (p + 1)
  have iL := zl_run_in (f := zl_lt tx) (len - (p + 1)) (p + 1)
  have iD := zl_run_in (f := zl_dt tx) (len - (p + 1)) (p + 1)
  by_cases hpl : p < len
  · by_cases hL : zl_L (tx p) = true
    · have ee : zl_e len tx p = zl_run (zl_lt tx) (len - (p + 1)) (p + 1) := by unfold zl_e; rw [if_pos hpl, if_pos hL]
      have tt : zl_t len tx p = if zl_e len tx p - p = 1 then 1 else 4 := by unfold zl_t; rw [if_pos hpl, if_pos hL]
      have vv : zl_v len tx p = if zl_e len tx p - p = 1 then tx p - 97 else if zl_e len tx p - p ≤ 5 then zl_kw (zl_cv tx (zl_e len tx p - p) p 0) else 0 := by unfold zl_v; rw [if_pos hL]
      rw [← ee] at bL iL
      have hc := zl_Li.mp hL
      have lets : ∀ k, k < zl_e len tx p - p → 97 ≤ tx (p + k) ∧ tx (p + k) ≤ 122 := fun k hk => by
        by_cases e : k = 0
        · rw [e, Nat.add_zero]; exact hc
        · exact zl_Li.mp (iL (p + k) (by omega) (by omega))
      generalize zl_e len tx p = e at *
      by_cases w : e - p = 1
      · rw [tt, if_pos w, vv, if_pos w]
        exact ⟨by omega, fun _ => by omega, fun q => absurd q (by decide), fun _ => by omega, fun q => absurd q (by decide), Or.inl (by decide), fun q => absurd q (by decide)⟩
      · rw [tt, if_neg w, vv, if_neg w]
        refine ⟨by omega, fun _ => by omega, fun q => absurd q (by decide), fun q => absurd q (by decide), fun q => absurd q (by decide), Or.inl (by decide), fun _ => ?_⟩
        by_cases w5 : e - p ≤ 5
        · rw [if_pos w5]
          exact ⟨zl_kw_9 _, fun j hj => zl_word hj (by omega) w5 lets⟩
        · rw [if_neg w5]
          refine ⟨by omega, fun j hj => ⟨fun q => ?_, fun q => ?_⟩⟩
          · have : ∀ j, j < 9 → 0 ≠ zl_kc j := by decide
            exact absurd q (this j hj)
          · have := (zl_by_ok j hj).2.1; omega
    · by_cases hD : zl_D (tx p) = true
      · have ee : zl_e len tx p = zl_run (zl_dt tx) (len - (p + 1)) (p + 1) := by unfold zl_e; rw [if_pos hpl, if_neg hL, if_pos hD]
        have tt : zl_t len tx p = if zl_e len tx p - p ≤ 9 then 2 else 3 := by unfold zl_t; rw [if_pos hpl, if_neg hL, if_pos hD]
        have vv : zl_v len tx p = zl_nv tx (zl_e len tx p - p) p 0 := by unfold zl_v; rw [if_neg hL]
        rw [← ee] at bD iD
        have hc := zl_Di.mp hD
        have lets : ∀ j, p ≤ j → j < p + (zl_e len tx p - p) → tx j ≤ 57 := fun j g1 g2 => by
          by_cases e : j = p
          · rw [e]; exact hc.2
          · exact (zl_Di.mp (iD j (by omega) (by omega))).2
        generalize zl_e len tx p = e at *
        by_cases w : e - p ≤ 9
        · rw [tt, if_pos w, vv]
          have nb := zl_nv_b (tx := tx) (e - p) p 0 0 lets (by decide)
          rw [Nat.zero_add] at nb
          have p9 : (10 : Nat) ^ (e - p) ≤ 10 ^ 9 := Nat.pow_le_pow_right (by decide) w
          have p9' : (10 : Nat) ^ 9 = 1000000000 := by decide
          exact ⟨by omega, fun _ => by omega, fun q => absurd q (by decide), fun q => absurd q (by decide), fun _ => by omega, Or.inl (by decide), fun q => absurd q (by decide)⟩
        · rw [tt, if_neg w]
          exact ⟨by omega, fun _ => by omega, fun q => absurd q (by decide), fun q => absurd q (by decide), fun q => absurd q (by decide), Or.inl (by decide), fun q => absurd q (by decide)⟩
      · have ee : zl_e len tx p = p + 1 := by unfold zl_e; rw [if_pos hpl, if_neg hL, if_neg hD]
        have tt : zl_t len tx p = if zl_S (tx p) = true then tx p else 3 := by unfold zl_t; rw [if_pos hpl, if_neg hL, if_neg hD]
        rw [ee, tt]
        by_cases s : zl_S (tx p) = true
        · rw [if_pos s]
          have := zl_Si.mp s
          exact ⟨by omega, fun _ => by omega, fun q => by omega, fun q => by omega, fun q => by omega, Or.inr s, fun q => by omega⟩
        · rw [if_neg s]
          exact ⟨by omega, fun _ => by omega, fun q => absurd q (by decide), fun q => absurd q (by decide), fun q => absurd q (by decide), Or.inl (by decide), fun q => absurd q (by decide)⟩
  · have ee : zl_e len tx p = len := by unfold zl_e; rw [if_neg hpl]
    have tt : zl_t len tx p = 0 := by unfold zl_t; rw [if_neg hpl]
    rw [ee, tt]
    exact ⟨by omega, fun q => absurd rfl q, fun _ => by omega, fun q => absurd q (by decide), fun q => absurd q (by decide), Or.inl (by decide), fun q => absurd q (by decide)⟩
/-- text and token of both -/
def Lx (len : Nat) (tx : Nat → Nat) (p e t v : Nat) (C M : Dat) : Prop := (TxC len tx C ∧ TxM len tx M) ∧ TkC p e t v C ∧ TkM p e t v M ∧ Tok len tx p e t v
/-- both go on to the next token -/
theorem zl_lex {N len e : Nat} {tx : Nat → Nat} (hN : 1000 ≤ N) {C M : Dat} (hC : TxC len tx C) (hM : TxM len tx M) (he : e ≤ len) (h8 : dI C 3 8 = nn e) (h36 : dI M 207 36 = nn e) : ∃ p' e' t' v' C' M', f_X5_advance N C = some C' ∧ f_X12_next N M = some M' ∧ e ≤ p' ∧ Lx len tx p' e' t' v' C' M' ∧ Ch QlC C C' ∧ Ch QlM M M' := by
  obtain ⟨C', a1, a2, a3⟩ := zl_advC hN hC he h8
  obtain ⟨M', b1, b2, b3⟩ := zl_nextM hN hM he h36
  have be := zl_run_b (f := zl_bk tx) (len - e) e
  exact ⟨zl_p len tx e, _, _, _, C', M', a1, b1, be.1, ⟨⟨hC.kept a2 (fun a k w => by unfold QlC at w; omega), hM.kept b2 (fun a k w => by unfold QlM at w; omega)⟩, a3, b3, zl_facts (show zl_p len tx e ≤ len by unfold zl_p; omega)⟩, a2, b2⟩
theorem zl_char {j k : Nat} (hj : j < 9) (hk : k < zl_sl j) (D : Dat) : f_J0_charAt_5068e j (nn k) D = some (nn (zl_by j k), D) := by
  obtain ⟨s1, s2, s3⟩ := zl_by_ok j hj
  obtain ⟨s4, s5⟩ := s3 k hk
  have q1 : ∀ c, c < 127 → (((nn c &&& (255 : Int32)) : Int32).toUInt32 % 65536).toInt32 = nn c ∧ vp_nar .char (nn c) = nn c := by decide +kernel
  have q2 := q1 (zl_by j k) (by omega)
  unfold f_J0_charAt_5068e f_J0_isLatin1_aae02 f_J0_isLatin1_aae02_b18 f_J1_charAt_3b067 f_J0_checkIndex_df160 f_J3_checkIndex_8e157
  rw [if_neg (by decide), if_pos (by decide), if_pos (by decide), bS, if_neg (show ¬ (1 : Int32) = 0 by decide), if_pos (show j < 10 by omega), if_neg (nn_nlt0 (by omega)), if_pos (show nn k < Int32.ofNat (slen.getD j 0) from (nn_lt (by omega) (by unfold zl_sl at s2; omega)).mpr hk), bS, bS, if_pos (show j < 10 by omega), if_neg (nn_in (k := k) (n := slen.getD j 0) (by omega) hk), nn_nat (by omega), s5, q2.1, if_pos q2.2, bS, if_pos q2.2]
theorem zl_isW_l {N len p e j : Nat} {tx : Nat → Nat} {C : Dat} (hj : j < 9) (hT : TxC len tx C) (h7 : dI C 3 7 = nn p) (he : p + zl_sl j = e) (hel : e ≤ len) : ∀ (k g i : Nat), i + k = zl_sl j → k < g → ((∀ m, i ≤ m → m < zl_sl j → tx (p + m) = zl_by j m) → f_X5_isWord_b32 N (g + 1) j 1 (nn i) C = some (1, C)) ∧ (¬ (∀ m, i ≤ m → m < zl_sl j → tx (p + m) = zl_by j m) → f_X5_isWord_b32 N (g + 1) j 1 (nn i) C = some (0, C)) := by
  obtain ⟨s1, s2, s3⟩ := zl_by_ok j hj
  have hl := hT.1
  intro k
  induction k with
  | zero =>
    intro g i hi hg
    refine ⟨fun _ => ?_, fun w => absurd (fun m h1 h2 => absurd h2 (by omega)) w⟩
    rw [f_X5_isWord_b32, if_neg (show ¬ (1 : Int32) = 0 by decide), if_pos (show j < 10 by omega), zl_len (by omega), bS, if_pos (show nn (slen.getD j 0) ≤ nn i from (nn_le (by unfold zl_sl at s2; omega) (by omega)).mpr (by unfold zl_sl at hi; omega))]
    unfold f_X5_isWord_b88
    rw [if_pos (by decide)]
  | succ k ih =>
    intro g i hi hg
    obtain ⟨g, rfl⟩ : ∃ g', g = g' + 1 := ⟨g - 1, by omega⟩
    rw [f_X5_isWord_b32, if_neg (show ¬ (1 : Int32) = 0 by decide), if_pos (show j < 10 by omega), zl_len (by omega), bS, if_neg (show ¬ nn (slen.getD j 0) ≤ nn i from fun w => by have := (nn_le (by unfold zl_sl at s2; omega) (by omega)).mp w; unfold zl_sl at hi; omega), hT.2.1, h7, nn_add, if_neg (fun w => by have := (nn_le (by omega) (by omega)).mp w; omega), if_neg (nn_in (k := p + i) (n := 240) (by omega) (by omega)), if_pos (show j < 10 by omega), zl_char hj (show i < zl_sl j by omega), bS, nn_nat (by omega), (hT.2.2 (p + i) (by omega)).1]
    have hx := hT.2.2 (p + i) (by omega)
    have hy := (s3 i (by omega)).1
    unfold f_X5_isWord_b81 f_X5_isWord_b80 f_X5_isWord_b81
    rw [nn_1]
    by_cases q : tx (p + i) = zl_by j i
    · rw [if_pos (by rw [q])]
      obtain ⟨h1, h2⟩ := ih g (i + 1) (by omega) (by omega)
      refine ⟨fun w => h1 (fun m g1 g2 => w m (by omega) g2), fun w => h2 (fun z => w (fun m g1 g2 => ?_))⟩
      by_cases em : m = i
      · rw [em]; exact q
      · exact z m (by omega) g2
    · rw [if_neg (fun w => q ((nn_eq (by omega) (by omega)).mp w))]
      refine ⟨fun w => absurd (w i (by omega) (by omega)) q, fun _ => ?_⟩
      rw [f_X5_isWord_b32, if_pos (show (0 : Int32) = 0 from rfl)]
      rfl
theorem zl_isWord {N len p e t v j : Nat} {tx : Nat → Nat} {C : Dat} (hN : 1000 ≤ N) (hj : j < 9) (hT : TxC len tx C) (hk : TkC p e t v C) (ht : Tok len tx p e t v) : f_X5_isWord N j C = some (if t = 4 ∧ v = zl_kc j then 1 else 0, C) := by
  obtain ⟨s1, s2, s3⟩ := zl_by_ok j hj
  obtain ⟨k7, k8, k6, k9⟩ := hk
  obtain ⟨⟨t1, t2⟩, t3, t4, t5, t6, t7, t8⟩ := ht
  have hl := hT.1
  obtain ⟨g, hg⟩ : ∃ g', N = g' + 1 := ⟨N - 1, by omega⟩
  have z : f_X5_isWord_b28 N j C = some (0, C) := by
    unfold f_X5_isWord_b28 f_X5_isWord_b29
    have : ∀ g, f_X5_isWord_b32 N (g + 1) j 0 0 C = some (0, C) := fun g => by
      rw [f_X5_isWord_b32, if_pos (show (0 : Int32) = 0 from rfl)]; rfl
    have h := this g
    rw [← hg] at h
    exact h
  unfold f_X5_isWord
  rw [k6]
  by_cases w : t = 1 ∨ t = 4
  · have e1 : nn (if t = 4 then 1 else t) = 1 := by
      split
      · rfl
      · rw [show t = 1 by omega]; rfl
    rw [e1, if_pos rfl, if_pos (show j < 10 by omega), zl_len (by omega), bS, k8, k7, nn_sub t1 (by omega)]
    by_cases en : e - p = zl_sl j
    · rw [if_pos (show nn (e - p) = nn (slen.getD j 0) by rw [en]; rfl)]
      have t4' : t = 4 := by
        rcases w with w | w
        · have := (t5 w).2; omega
        · exact w
      obtain ⟨h1, h2⟩ := zl_isW_l (N := N) (e := e) hj hT k7 (by omega) t2 (zl_sl j) g 0 (by omega) (by omega)
      unfold f_X5_isWord_b29
      have hs := (t8 t4').2 j hj
      rw [← hg] at h1 h2
      by_cases a : ∀ m, 0 ≤ m → m < zl_sl j → tx (p + m) = zl_by j m
      · rw [if_pos ⟨t4', hs.mpr ⟨en, fun k hk => a k (by omega) hk⟩⟩]
        exact h1 a
      · rw [if_neg (fun q => a (fun m _ hm => (hs.mp q.2).2 m hm))]
        exact h2 a
    · rw [if_neg (show ¬ nn (e - p) = nn (slen.getD j 0) from fun q => en ((nn_eq (by omega) (show zl_sl j < 2147483648 by omega)).mp q)), z, if_neg]
      intro q
      exact en (((t8 q.1).2 j hj).mp q.2).1
  · have e1 : ¬ nn (if t = 4 then 1 else t) = 1 := by
      rw [if_neg (fun q => w (Or.inr q))]
      intro q
      have : t < 127 := by
        rcases t7 with a | a
        · omega
        · have := zl_Si.mp a; omega
      exact w (Or.inl ((nn_eq (b := 1) (by omega) (by omega)).mp q))
    rw [if_neg e1, z, if_neg (fun q => w (Or.inr q.1))]
