/-! how many bits a long has -/
theorem and_sp {a m : Nat} (b k : Nat) (ha : a < 256) (hm : m < 256) : (a + 256 * b) &&& (m + 256 * k) = (a &&& m) + 256 * (b &&& k) := by
  have hl : a &&& m < 256 := Nat.lt_of_le_of_lt Nat.and_le_left ha
  refine Nat.eq_of_testBit_eq (fun i => ?_)
  rw [Nat.testBit_and, show a + 256 * b = 2 ^ 8 * b + a by omega, show m + 256 * k = 2 ^ 8 * k + m by omega, show (a &&& m) + 256 * (b &&& k) = 2 ^ 8 * (b &&& k) + (a &&& m) by omega, Nat.testBit_two_pow_mul_add b (show a < 2 ^ 8 from ha) i, Nat.testBit_two_pow_mul_add k (show m < 2 ^ 8 from hm) i, Nat.testBit_two_pow_mul_add (b &&& k) (show a &&& m < 2 ^ 8 from hl) i]
  by_cases c : i < 8
  · rw [if_pos c, if_pos c, if_pos c, Nat.testBit_and]
  · rw [if_neg c, if_neg c, if_neg c, Nat.testBit_and]
def mkm (b : Nat) : Nat → Nat
  | 0 => 0
  | k + 1 => b + 256 * mkm b k
def s1n (k n : Nat) : Nat := n - ((n / 2) &&& mkm 85 k)
def s2n (k n : Nat) : Nat := (n &&& mkm 51 k) + ((n / 4) &&& mkm 51 k)
def s3n (k n : Nat) : Nat := (n + n / 16) &&& mkm 15 k
def b1n (c : Nat) : Nat := c - ((c / 2) &&& 85)
def b2n (c : Nat) : Nat := (c &&& 51) + ((c / 4) &&& 51)
def pc8 (c : Nat) : Nat := sm (bt c) 8 0
theorem f1n : ∀ c, c < 256 → ∀ b, b < 2 → ((c / 2 + 128 * b) &&& 85) = ((c / 2) &&& 85) ∧ ((c / 2) &&& 85) ≤ c := by decide +kernel
theorem f2n : ∀ c, c < 256 → ∀ b, b < 4 → ((c / 4 + 64 * b) &&& 51) = ((c / 4) &&& 51) := by decide +kernel
theorem f3n : ∀ c, c < 256 → b2n (b1n c) ≤ 68 ∧ b2n (b1n c) % 16 ≤ 4 ∧ b1n c < 256 ∧ ∀ b, b < 5 → ((b2n (b1n c) + b2n (b1n c) / 16 + 16 * b) &&& 15) = pc8 c := by decide +kernel
theorem f4n : ∀ c, c < 256 → pc8 c ≤ 8 := by decide +kernel
theorem s1_st {k c h : Nat} (hc : c < 256) : s1n (k + 1) (c + 256 * h) = b1n c + 256 * s1n k h := by
  obtain ⟨a1, a2⟩ := f1n c hc (h % 2) (Nat.mod_lt _ (by decide))
  have a3 : (h / 2) &&& mkm 85 k ≤ h := Nat.le_trans Nat.and_le_left (Nat.div_le_self _ _)
  unfold s1n b1n
  rw [show mkm 85 (k + 1) = 85 + 256 * mkm 85 k from rfl, show (c + 256 * h) / 2 = (c / 2 + 128 * (h % 2)) + 256 * (h / 2) by omega, and_sp _ _ (by omega) (by omega), a1]
  omega
theorem s2_st {k c h : Nat} (hc : c < 256) : s2n (k + 1) (c + 256 * h) = b2n c + 256 * s2n k h := by
  have a1 := f2n c hc (h % 4) (Nat.mod_lt _ (by decide))
  unfold s2n b2n
  rw [show mkm 51 (k + 1) = 51 + 256 * mkm 51 k from rfl, show (c + 256 * h) / 4 = (c / 4 + 64 * (h % 4)) + 256 * (h / 4) by omega, and_sp _ _ hc (by omega), and_sp _ _ (by omega) (by omega), a1]
  omega
theorem nib {k n : Nat} : s2n k (s1n k n) % 16 ≤ 4 := by
  cases k with
  | zero =>
    show ((_ &&& 0) + (_ &&& 0)) % 16 ≤ 4
    rw [Nat.and_zero, Nat.and_zero]
    decide
  | succ k =>
    have e : n = n % 256 + 256 * (n / 256) := by omega
    have hc : n % 256 < 256 := Nat.mod_lt _ (by decide)
    obtain ⟨a1, a2, a3, -⟩ := f3n (n % 256) hc
    rw [e, s1_st hc, s2_st a3]
    omega
def Pn (k n : Nat) : Nat := s3n k (s2n k (s1n k n))
theorem P_st {k c h : Nat} (hc : c < 256) : Pn (k + 1) (c + 256 * h) = pc8 c + 256 * Pn k h := by
  obtain ⟨a1, a2, a3, a4⟩ := f3n c hc
  have a5 := nib (k := k) (n := h)
  unfold Pn
  rw [s1_st hc, s2_st a3]
  generalize hH : s2n k (s1n k h) = H at a5
  generalize hb : b2n (b1n c) = d at a1 a2 a4
  unfold s3n
  rw [show mkm 15 (k + 1) = 15 + 256 * mkm 15 k from rfl, show d + 256 * H + (d + 256 * H) / 16 = (d + d / 16 + 16 * (H % 16)) + 256 * (H + H / 16) by omega, and_sp _ _ (by omega) (by omega), a4 (H % 16) (by omega)]
theorem P_0 (n : Nat) : Pn 0 n = 0 := by
  show (_ &&& 0) = 0
  exact Nat.and_zero _
theorem P_1 (k n : Nat) : Pn (k + 1) n = pc8 (n % 256) + 256 * Pn k (n / 256) := by
  have e : n = n % 256 + 256 * (n / 256) := by omega
  have := P_st (k := k) (c := n % 256) (h := n / 256) (Nat.mod_lt _ (by decide))
  rw [← e] at this
  exact this
/-- the bits' sum -/
theorem sm_sh {f : Nat → Nat} (a : Nat) : ∀ (k i : Nat), sm f k (i + a) = sm (fun b => f (b + a)) k i := by
  intro k
  induction k with
  | zero => intro i; rfl
  | succ k ih =>
    intro i
    show f (i + a) + sm f k (i + a + 1) = f (i + a) + sm (fun b => f (b + a)) k (i + 1)
    rw [← ih (i + 1), show i + 1 + a = i + a + 1 by omega]
theorem sm_add {f : Nat → Nat} : ∀ (j k i : Nat), sm f (j + k) i = sm f j i + sm f k (i + j) := by
  intro j
  induction j with
  | zero => intro k i; rw [Nat.zero_add]; show _ = 0 + _; rw [Nat.zero_add]; rfl
  | succ j ih =>
    intro k i
    rw [show j + 1 + k = (j + k) + 1 by omega]
    show f i + sm f (j + k) (i + 1) = f i + sm f j (i + 1) + sm f k (i + (j + 1))
    rw [ih k (i + 1), show i + 1 + j = i + (j + 1) by omega]
    omega
def Tn : Nat → Nat → Nat
  | 0, _ => 0
  | k + 1, n => pc8 (n % 256) + Tn k (n / 256)
theorem T_sm : ∀ (k n : Nat), Tn k n = sm (bt n) (8 * k) 0 := by
  intro k
  induction k with
  | zero => intro n; rfl
  | succ k ih =>
    intro n
    rw [show 8 * (k + 1) = 8 + 8 * k by omega, sm_add, sm_sh 8 (8 * k) 0]
    show pc8 (n % 256) + Tn k (n / 256) = _
    rw [ih]
    have e1 : sm (bt n) 8 0 = pc8 (n % 256) := by
      unfold pc8
      refine sm_eq 8 0 (fun b _ hb => ?_)
      unfold bt
      rw [Nat.shiftRight_eq_div_pow, Nat.shiftRight_eq_div_pow]
      have hb' : b < 8 := by omega
      rcases (show b = 0 ∨ b = 1 ∨ b = 2 ∨ b = 3 ∨ b = 4 ∨ b = 5 ∨ b = 6 ∨ b = 7 by omega) with rfl | rfl | rfl | rfl | rfl | rfl | rfl | rfl <;> simp <;> omega
    have e2 : sm (bt (n / 256)) (8 * k) 0 = sm (fun b => bt n (b + 8)) (8 * k) 0 := sm_eq (8 * k) 0 (fun b _ _ => by
      unfold bt
      rw [Nat.shiftRight_eq_div_pow, Nat.shiftRight_eq_div_pow, Nat.pow_add, Nat.mul_comm (2 ^ b), ← Nat.div_div_eq_div_mul])
    rw [e1, e2]
def tn (z : Int64) : Nat := z.toBitVec.toNat
theorem tn_lt (z : Int64) : tn z < 18446744073709551616 := z.toBitVec.isLt
theorem tn_and (a b : Int64) : tn (a &&& b) = tn a &&& tn b := by unfold tn; rw [Int64.toBitVec_and, BitVec.toNat_and]
theorem tn_add (a b : Int64) : tn (a + b) = (tn a + tn b) % 18446744073709551616 := by unfold tn; rw [Int64.toBitVec_add, BitVec.toNat_add]
theorem tn_sub {a b : Int64} (h : tn b ≤ tn a) : tn (a - b) = tn a - tn b := by
  have := tn_lt a
  unfold tn at *
  rw [Int64.toBitVec_sub, BitVec.toNat_sub]
  omega
theorem amt : ∀ k, k < 64 → ((UInt64.mod ((nn k).toInt64.toUInt64 &&& Int64.toUInt64 63) 64).toBitVec).toNat = k := by decide +kernel
theorem tn_shr (z : Int64) {k : Nat} (hk : k < 64) : tn ((z.toUInt64 >>> ((nn k).toInt64.toUInt64 &&& Int64.toUInt64 63)).toInt64) = tn z / 2 ^ k := by
  unfold tn
  show (z.toBitVec >>> (UInt64.mod ((nn k).toInt64.toUInt64 &&& Int64.toUInt64 63) 64).toBitVec).toNat = _
  show (z.toBitVec >>> ((UInt64.mod ((nn k).toInt64.toUInt64 &&& Int64.toUInt64 63) 64).toBitVec).toNat).toNat = _
  rw [amt k hk, BitVec.toNat_ushiftRight, Nat.shiftRight_eq_div_pow]
theorem small7 : ∀ s, s < 128 → (Int64.ofNat s).toInt32 = nn s := by decide +kernel
theorem p32 : (2 : Nat) ^ 32 = 4294967296 := by decide +kernel
theorem p16 : (2 : Nat) ^ 16 = 65536 := by decide +kernel
theorem p8 : (2 : Nat) ^ 8 = 256 := by decide +kernel
theorem p4 : (2 : Nat) ^ 4 = 16 := by decide +kernel
theorem p2 : (2 : Nat) ^ 2 = 4 := by decide +kernel
theorem p1 : (2 : Nat) ^ 1 = 2 := by decide +kernel
def shl (z : Int64) (k : Nat) : Int64 := (z.toUInt64 >>> ((nn k).toInt64.toUInt64 &&& Int64.toUInt64 63)).toInt64
theorem tn_s1 (z : Int64) : tn (shl z 1) = tn z / 2 := by unfold shl; rw [tn_shr z (by decide), p1]
theorem tn_s2 (z : Int64) : tn (shl z 2) = tn z / 4 := by unfold shl; rw [tn_shr z (by decide), p2]
theorem tn_s4 (z : Int64) : tn (shl z 4) = tn z / 16 := by unfold shl; rw [tn_shr z (by decide), p4]
theorem tn_s8 (z : Int64) : tn (shl z 8) = tn z / 256 := by unfold shl; rw [tn_shr z (by decide), p8]
theorem tn_s16 (z : Int64) : tn (shl z 16) = tn z / 65536 := by unfold shl; rw [tn_shr z (by decide), p16]
theorem tn_s32 (z : Int64) : tn (shl z 32) = tn z / 4294967296 := by unfold shl; rw [tn_shr z (by decide), p32]
def y1d (x : Int64) : Int64 := x - (shl x 1 &&& (6148914691236517205 : Int64))
def y2d (y : Int64) : Int64 := (y &&& (3689348814741910323 : Int64)) + (shl y 2 &&& (3689348814741910323 : Int64))
def y3d (y : Int64) : Int64 := (y + shl y 4) &&& (1085102592571150095 : Int64)
def y6d (y : Int64) : Int64 := (y + shl y 8 + shl (y + shl y 8) 16) + shl (y + shl y 8 + shl (y + shl y 8) 16) 32
theorem bcl_y (x : Int64) : bcl x = (y6d (y3d (y2d (y1d x)))).toInt32 &&& (127 : Int32) := rfl
theorem m1t : tn (6148914691236517205 : Int64) = mkm 85 8 := by decide +kernel
theorem m2t : tn (3689348814741910323 : Int64) = mkm 51 8 := by decide +kernel
theorem m3t : tn (1085102592571150095 : Int64) = mkm 15 8 := by decide +kernel
theorem mb2 : mkm 51 8 = 3689348814741910323 := by decide +kernel
theorem t1t (x : Int64) : tn (y1d x) = s1n 8 (tn x) := by
  have hs : tn (shl x 1 &&& (6148914691236517205 : Int64)) = (tn x / 2) &&& mkm 85 8 := by rw [tn_and, tn_s1, m1t]
  have hl : (tn x / 2) &&& mkm 85 8 ≤ tn x := Nat.le_trans Nat.and_le_left (Nat.div_le_self _ _)
  unfold y1d
  rw [tn_sub (by rw [hs]; exact hl), hs]
  rfl
theorem t2t (y : Int64) : tn (y2d y) = s2n 8 (tn y) ∧ s2n 8 (tn y) ≤ 7378697629483820646 := by
  have a := Nat.and_le_right (n := tn y) (m := mkm 51 8)
  have b := Nat.and_le_right (n := tn y / 4) (m := mkm 51 8)
  rw [mb2] at a b
  have l : s2n 8 (tn y) ≤ 7378697629483820646 := by
    unfold s2n
    rw [mb2]
    omega
  refine ⟨?_, l⟩
  unfold y2d
  rw [tn_add, tn_and, tn_and, tn_s2, m2t]
  show s2n 8 (tn y) % 18446744073709551616 = _
  exact Nat.mod_eq_of_lt (by omega)
theorem t3t {y : Int64} (h : tn y ≤ 7378697629483820646) : tn (y3d y) = s3n 8 (tn y) := by
  unfold y3d
  rw [tn_and, tn_add, tn_s4, m3t, Nat.mod_eq_of_lt (by omega)]
  rfl
def Hn (f : Nat → Nat) : Nat → Nat → Nat
  | 0, _ => 0
  | k + 1, i => f i + 256 * Hn f k (i + 1)
theorem H_add {f g : Nat → Nat} : ∀ (k i : Nat), Hn f k i + Hn g k i = Hn (fun j => f j + g j) k i := by
  intro k
  induction k with
  | zero => intro i; rfl
  | succ k ih =>
    intro i
    show (f i + 256 * Hn f k (i + 1)) + (g i + 256 * Hn g k (i + 1)) = (f i + g i) + 256 * Hn (fun j => f j + g j) k (i + 1)
    rw [← ih (i + 1)]
    omega
theorem H_sh {f : Nat → Nat} (a : Nat) : ∀ (k i : Nat), Hn f k (i + a) = Hn (fun j => f (j + a)) k i := by
  intro k
  induction k with
  | zero => intro i; rfl
  | succ k ih =>
    intro i
    show f (i + a) + 256 * Hn f k (i + a + 1) = f (i + a) + 256 * Hn (fun j => f (j + a)) k (i + 1)
    rw [← ih (i + 1), show i + 1 + a = i + a + 1 by omega]
theorem H_z {f : Nat → Nat} : ∀ (k i : Nat), f (i + k) = 0 → Hn f (k + 1) i = Hn f k i := by
  intro k
  induction k with
  | zero =>
    intro i h
    show f i + 256 * 0 = 0
    rw [Nat.add_zero] at h
    omega
  | succ k ih =>
    intro i h
    show f i + 256 * Hn f (k + 1) (i + 1) = f i + 256 * Hn f k (i + 1)
    rw [ih (i + 1) (by rw [show i + 1 + k = i + (k + 1) by omega]; exact h)]
theorem H_dv {f : Nat → Nat} (h1 : ∀ j, f j ≤ 64) (h2 : ∀ j, 8 ≤ j → f j = 0) (i : Nat) : Hn f 8 i / 256 = Hn f 8 (i + 1) := by
  have e : Hn f 8 (i + 1) = Hn f 7 (i + 1) := H_z 7 (i + 1) (h2 _ (by omega))
  rw [e]
  show (f i + 256 * Hn f 7 (i + 1)) / 256 = _
  have := h1 i
  rw [Nat.add_mul_div_left _ _ (by decide), Nat.div_eq_of_lt (by omega), Nat.zero_add]
theorem H_lt {f : Nat → Nat} (h1 : ∀ j, f j ≤ 64) : ∀ (k i : Nat), Hn f k i < 256 ^ k := by
  intro k
  induction k with
  | zero => intro i; show 0 < 1; omega
  | succ k ih =>
    intro i
    have a := ih (i + 1)
    have b := h1 i
    show f i + 256 * Hn f k (i + 1) < 256 ^ (k + 1)
    rw [Nat.pow_succ]
    omega
theorem H64 {f : Nat → Nat} (h1 : ∀ j, f j ≤ 64) : Hn f 8 0 < 18446744073709551616 := by
  have := H_lt h1 8 0
  rw [show (256 : Nat) ^ 8 = 18446744073709551616 by decide +kernel] at this
  exact this
theorem t6t {y : Int64} {p : Nat → Nat} (q : ∀ j, p j ≤ 8) (q8 : ∀ j, 8 ≤ j → p j = 0) (h : tn y = Hn p 8 0) : tn (y6d y) % 128 = p 0 + p 1 + p 2 + p 3 + p 4 + p 5 + p 6 + p 7 := by
  have a1 : ∀ j, p j + p (j + 1) ≤ 16 := fun j => by have := q j; have := q (j + 1); omega
  have a2 : ∀ j, 8 ≤ j → p j + p (j + 1) = 0 := fun j hj => by rw [q8 j hj, q8 (j + 1) (by omega)]
  have b1 : ∀ j, p j + p (j + 1) + (p (j + 2) + p (j + 2 + 1)) ≤ 32 := fun j => by have := a1 j; have := a1 (j + 2); omega
  have b2 : ∀ j, 8 ≤ j → p j + p (j + 1) + (p (j + 2) + p (j + 2 + 1)) = 0 := fun j hj => by rw [a2 j hj, a2 (j + 2) (by omega)]
  have c1 : ∀ j, p j + p (j + 1) + (p (j + 2) + p (j + 2 + 1)) + (p (j + 4) + p (j + 4 + 1) + (p (j + 4 + 2) + p (j + 4 + 2 + 1))) ≤ 64 := fun j => by have := b1 j; have := b1 (j + 4); omega
  have t4 : tn (y + shl y 8) = Hn (fun j => p j + p (j + 1)) 8 0 := by
    rw [tn_add, tn_s8, h, H_dv (fun j => by have := q j; omega) q8 0, H_sh 1 8 0, H_add, Nat.mod_eq_of_lt (H64 (fun j => by have := a1 j; omega))]
  unfold y6d
  generalize y + shl y 8 = z at t4
  have t5 : tn (z + shl z 16) = Hn (fun j => p j + p (j + 1) + (p (j + 2) + p (j + 2 + 1))) 8 0 := by
    rw [tn_add, tn_s16, show (65536 : Nat) = 256 * 256 by decide, ← Nat.div_div_eq_div_mul, t4, H_dv (fun j => by have := a1 j; omega) a2 0, H_dv (fun j => by have := a1 j; omega) a2 (0 + 1), show 0 + 1 + 1 = 0 + 2 from rfl, H_sh 2 8 0, H_add, Nat.mod_eq_of_lt (H64 (fun j => by have := b1 j; omega))]
  generalize z + shl z 16 = w at t5
  have t6 : tn (w + shl w 32) = Hn (fun j => p j + p (j + 1) + (p (j + 2) + p (j + 2 + 1)) + (p (j + 4) + p (j + 4 + 1) + (p (j + 4 + 2) + p (j + 4 + 2 + 1)))) 8 0 := by
    rw [tn_add, tn_s32, show (4294967296 : Nat) = 256 * 256 * 256 * 256 by decide +kernel, ← Nat.div_div_eq_div_mul, ← Nat.div_div_eq_div_mul, ← Nat.div_div_eq_div_mul, t5, H_dv (fun j => by have := b1 j; omega) b2 0, H_dv (fun j => by have := b1 j; omega) b2 (0 + 1), H_dv (fun j => by have := b1 j; omega) b2 (0 + 1 + 1), H_dv (fun j => by have := b1 j; omega) b2 (0 + 1 + 1 + 1), show 0 + 1 + 1 + 1 + 1 = 0 + 4 from rfl, H_sh 4 8 0, H_add, Nat.mod_eq_of_lt (H64 (fun j => c1 j))]
  rw [t6]
  have c0 := c1 0
  show (p 0 + p 1 + (p 2 + p 3) + (p 4 + p 5 + (p 6 + p 7)) + 256 * _) % 128 = _
  have c0' : p 0 + p 1 + (p 2 + p 3) + (p 4 + p 5 + (p 6 + p 7)) ≤ 64 := c0
  generalize Hn (fun j => p j + p (j + 1) + (p (j + 2) + p (j + 2 + 1)) + (p (j + 4) + p (j + 4 + 1) + (p (j + 4 + 2) + p (j + 4 + 2 + 1)))) 7 (0 + 1) = H
  omega
/-- the bytes' counts -/
def pB (n j : Nat) : Nat := if j < 8 then pc8 (n / 256 ^ j % 256) else 0
theorem P_H (n : Nat) : ∀ (k i : Nat), i + k = 8 → Pn k (n / 256 ^ i) = Hn (pB n) k i := by
  intro k
  induction k with
  | zero => intro i _; rw [P_0]; rfl
  | succ k ih =>
    intro i hi
    rw [P_1]
    show _ = pB n i + 256 * Hn (pB n) k (i + 1)
    rw [← ih (i + 1) (by omega), Nat.div_div_eq_div_mul, ← Nat.pow_succ]
    unfold pB
    rw [if_pos (by omega)]
theorem T_B (n : Nat) : ∀ (k i : Nat), i + k = 8 → Tn k (n / 256 ^ i) = sm (pB n) k i := by
  intro k
  induction k with
  | zero => intro i _; rfl
  | succ k ih =>
    intro i hi
    show pc8 (n / 256 ^ i % 256) + Tn k (n / 256 ^ i / 256) = pB n i + sm (pB n) k (i + 1)
    rw [← ih (i + 1) (by omega), Nat.div_div_eq_div_mul, ← Nat.pow_succ]
    unfold pB
    rw [if_pos (by omega)]
theorem y127 (y : Int64) : y.toInt32 &&& (127 : Int32) = nn (tn y % 128) := by
  have ea : y.toInt32 &&& (127 : Int32) = (y &&& (127 : Int64)).toInt32 := by
    rw [Int64.toInt32_and]
    rfl
  have eb : y &&& (127 : Int64) = Int64.ofNat (tn y % 128) := by
    apply Int64.toBitVec_inj.mp
    apply BitVec.eq_of_toNat_eq
    have h1 : (y &&& (127 : Int64)).toBitVec.toNat = tn y % 128 := by
      show tn (y &&& (127 : Int64)) = _
      rw [tn_and, show tn (127 : Int64) = 2 ^ 7 - 1 by decide +kernel, Nat.and_two_pow_sub_one_eq_mod]
    have h2 : (Int64.ofNat (tn y % 128)).toBitVec.toNat = tn y % 128 := by
      show (BitVec.ofNat 64 (tn y % 128)).toNat = _
      rw [BitVec.toNat_ofNat, Nat.mod_eq_of_lt]
      have := Nat.mod_lt (tn y) (show 128 > 0 by decide)
      exact Nat.lt_trans this (by decide)
    rw [h1, h2]
  rw [ea, eb, small7 _ (Nat.mod_lt _ (by decide))]
theorem add8 (a b c d e f g h : Nat) : a + (b + (c + (d + (e + (f + (g + (h + 0))))))) = a + b + c + d + e + f + g + h := by omega
theorem bcl_n (x : Int64) : bcl x = nn (Tn 8 (tn x)) := by
  have q : ∀ j, pB (tn x) j ≤ 8 := fun j => by
    unfold pB
    split
    · exact f4n _ (Nat.mod_lt _ (by decide))
    · omega
  have q8 : ∀ j, 8 ≤ j → pB (tn x) j = 0 := fun j hj => by unfold pB; rw [if_neg (by omega)]
  have d0 : tn x / 256 ^ 0 = tn x := by rw [Nat.pow_zero, Nat.div_one]
  have e3 : tn (y3d (y2d (y1d x))) = Hn (pB (tn x)) 8 0 := by
    have a := t2t (y1d x)
    have b := P_H (tn x) 8 0 (by omega)
    rw [d0] at b
    rw [t3t (by rw [a.1]; exact a.2), a.1, t1t]
    exact b
  have e4 := T_B (tn x) 8 0 (by omega)
  rw [d0] at e4
  rw [bcl_y, y127, t6t q q8 e3, e4]
  show nn _ = nn (pB (tn x) 0 + (pB (tn x) 1 + (pB (tn x) 2 + (pB (tn x) 3 + (pB (tn x) 4 + (pB (tn x) 5 + (pB (tn x) 6 + (pB (tn x) 7 + 0))))))))
  rw [add8]
theorem mm_bt2 (x : Int64) (i : Nat) : bt (tn x) i = if mm x i then 1 else 0 := by
  unfold bt mm tn
  rw [show x.toBitVec.getLsbD i = x.toBitVec.toNat.testBit i from rfl, Nat.testBit_eq_decide_div_mod_eq, Nat.shiftRight_eq_div_pow]
  by_cases c : x.toBitVec.toNat / 2 ^ i % 2 = 1
  · rw [c]; simp
  · have := Nat.mod_lt (x.toBitVec.toNat / 2 ^ i) (show 2 > 0 by decide)
    rw [decide_eq_false c]
    simp
    omega
/-- the number of bits -/
theorem bcl_sm (x : Int64) : bcl x = nn (sm (cn1 (mm x)) 64 0) := by
  have e : sm (bt (tn x)) (8 * 8) 0 = sm (cn1 (mm x)) 64 0 := sm_eq 64 0 (fun b _ _ => mm_bt2 x b)
  rw [bcl_n, T_sm, e]
