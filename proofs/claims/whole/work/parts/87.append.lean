/-! append -/
def sg64 (v : Int64) (k : Nat) : Int64 := (v >>> ((((8 : Int32) * nn k) : Int32).toInt64 &&& 63)) &&& (255 : Int64)
def plain (v : Int64) (k : Nat) : Prop := ¬ lg_cmp (sg64 v k) 32 < 0 ∧ lg_cmp (sg64 v k) 126 ≤ 0
theorem cmp_lt0 (x y : Int64) : lg_cmp x y < 0 ↔ x < y := by
  unfold lg_cmp
  by_cases h1 : y < x
  · rw [if_pos h1]
    constructor
    · intro q; exact absurd q (by decide)
    · intro q; exact absurd (Int64.lt_trans h1 q) (Int64.lt_irrefl)
  · rw [if_neg h1]
    by_cases h2 : x = y
    · rw [if_pos h2]
      constructor
      · intro q; exact absurd q (by decide)
      · intro q; rw [h2] at q; exact absurd q Int64.lt_irrefl
    · rw [if_neg h2]
      constructor
      · intro _
        rw [Int64.lt_iff_toInt_lt] at h1 ⊢
        have : x.toInt ≠ y.toInt := fun q => h2 (Int64.toInt_inj.mp q)
        omega
      · intro _; decide
theorem plain_iff (v : Int64) (k : Nat) : plain v k ↔ 32 ≤ (sg64 v k).toInt ∧ (sg64 v k).toInt ≤ 126 := by
  unfold plain
  rw [cmp_lt0, lg_cmp_le, Int64.lt_iff_toInt_lt, Int64.le_iff_toInt_le]
  show ¬ _ < (32 : Int) ∧ _ ≤ (126 : Int) ↔ _
  omega
theorem plain_nn {v : Int64} {k : Nat} (h : plain v k) : ∃ s, 32 ≤ s ∧ s ≤ 126 ∧ (sg64 v k).toInt32 = nn s := by
  obtain ⟨h1, h2⟩ := (plain_iff v k).mp h
  refine ⟨(sg64 v k).toInt.toNat, by omega, by omega, ?_⟩
  rw [← Int32.toInt_inj, nn_int (by omega), Int64.toInt_toInt32, Int.bmod_eq_of_le (by omega) (by omega)]
  omega
theorem char_nn : ∀ s, s < 128 → vp_nar .char (((nn s).toUInt32 % 65536).toInt32) = nn s := by decide +kernel
theorem all_s {v : Int64} {i m : Nat} (h : plain v i) : (∀ k, i + 1 ≤ k → k < m → plain v k) ↔ (∀ k, i ≤ k → k < m → plain v k) := by
  constructor
  · intro g k h1 h2
    by_cases hk : k = i
    · rw [hk]; exact h
    · exact g k (by omega) h2
  · intro g k h1 h2
    exact g k (by omega) h2
theorem arePlain_l {N : Nat} {v : Int64} {m : Nat} (hm : m ≤ 8) (D : Dat) : ∀ (g i : Nat), i ≤ m → m - i < g → ((∀ k, i ≤ k → k < m → plain v k) → f_X5_arePlain_b2 N g v (nn m) (nn i) D = some (1, D)) ∧ (¬ (∀ k, i ≤ k → k < m → plain v k) → f_X5_arePlain_b2 N g v (nn m) (nn i) D = some (0, D)) := by
  intro g
  induction g with
  | zero => intro i _ h; omega
  | succ g ih =>
    intro i hi hg
    rw [f_X5_arePlain_b2]
    by_cases q : i = m
    · subst q
      rw [if_pos ((nn_le (by omega) (by omega)).mpr (Nat.le_refl _))]
      exact ⟨fun _ => rfl, fun h => absurd (fun k h1 h2 => by omega) h⟩
    · rw [if_neg (by rw [nn_le (by omega) (by omega)]; omega)]
      show (_ → (if lg_cmp (sg64 v i) 32 < 0 then _ else if lg_cmp (sg64 v i) 126 ≤ 0 then _ else _) = _) ∧ (_ → (if lg_cmp (sg64 v i) 32 < 0 then _ else if lg_cmp (sg64 v i) 126 ≤ 0 then _ else _) = _)
      unfold f_X5_arePlain_b37
      by_cases p1 : lg_cmp (sg64 v i) 32 < 0
      · rw [if_pos p1]
        exact ⟨fun h => absurd p1 (h i (Nat.le_refl _) (by omega)).1, fun _ => rfl⟩
      · rw [if_neg p1]
        by_cases p2 : lg_cmp (sg64 v i) 126 ≤ 0
        · rw [if_pos p2, nn_1, ← all_s ⟨p1, p2⟩]
          exact ih (i + 1) (by omega) (by omega)
        · rw [if_neg p2]
          exact ⟨fun h => absurd (h i (Nat.le_refl _) (by omega)).2 p2, fun _ => rfl⟩
/-- counters that go down: the number of rounds that are left, less one -/
def nj (j : Nat) : Int32 := nn j - 1
theorem nj_s (j : Nat) : nj (j + 1) = nn j := by
  unfold nj nn
  rw [Int32.ofNat_add, show Int32.ofNat 1 = 1 from rfl, Int32.add_sub_cancel]
theorem nj_d (j : Nat) : nn j + (-1) = nj j := by
  unfold nj
  rw [Int32.sub_eq_add_neg]
theorem nj_0 : nj 0 < 0 := by decide
def addC (v : Int64) : Nat → Nat → Dat → Dat
  | 0, _, D => D
  | j + 1, len, D => addC v j (len + 1) (sI (sI D 4 len (sg64 v j).toInt32) 3 2 (nn (len + 1)))
def addM (v : Int64) : Nat → Nat → Dat → Dat
  | 0, _, D => D
  | j + 1, len, D => addM v j (len + 1) (sI (sI D 211 len (sg64 v j).toInt32) 207 10 (nn (len + 1)))
theorem addC_l {N : Nat} {v : Int64} : ∀ (j g len : Nat) (D : Dat), (∀ k, k < j → plain v k) → len + j ≤ 240 → j < g → dI D 3 2 = nn len → f_X5_addSigns_b5 N g v (nj j) D = some (addC v j len D) := by
  intro j
  induction j with
  | zero =>
    intro g len D _ hl hg h0
    cases g with
    | zero => omega
    | succ g =>
      rw [f_X5_addSigns_b5, if_pos nj_0]
      rfl
  | succ j ih =>
    intro g len D hp hl hg h0
    cases g with
    | zero => omega
    | succ g =>
      obtain ⟨s, s1, s2, s3⟩ := plain_nn (hp j (by omega))
      have i1 := nn_in (k := len) (n := 240) (by omega) (by omega)
      rw [f_X5_addSigns_b5, nj_s, if_neg (nn_nlt0 (by omega)), h0, if_neg (by rw [nn_l, nn_le (by omega) (by omega)]; omega), if_neg i1]
      unfold f_X5_addSigns_b52
      rw [nj_d, nn_nat (by omega)]
      show f_X5_addSigns_b5 N g v (nj j) (sI (sI D 4 len (vp_nar .char (((sg64 v j).toInt32.toUInt32 % 65536).toInt32))) 3 2 (dI (sI D 4 len (vp_nar .char (((sg64 v j).toInt32.toUInt32 % 65536).toInt32))) 3 2 + 1)) = _
      rw [dI_s, if_neg (by omega), h0, nn_1, s3, char_nn s (by omega), ← s3]
      rw [ih g (len + 1) _ (fun k hk => hp k (by omega)) (by omega) (by omega) (by rw [dI_s, if_pos ⟨rfl, rfl⟩])]
      rfl
theorem addM_l {N : Nat} {v : Int64} : ∀ (j g len : Nat) (D : Dat), len + j ≤ 240 → j < g → dI D 207 10 = nn len → f_X12_append_b97 N g v (nj j) D = some (nn (len + j), addM v j len D) := by
  intro j
  induction j with
  | zero =>
    intro g len D hl hg h0
    cases g with
    | zero => omega
    | succ g =>
      rw [f_X12_append_b97, if_pos nj_0, h0]
      rfl
  | succ j ih =>
    intro g len D hl hg h0
    cases g with
    | zero => omega
    | succ g =>
      have i1 := nn_in (k := len) (n := 240) (by omega) (by omega)
      rw [f_X12_append_b97, nj_s, if_neg (nn_nlt0 (by omega)), h0, if_neg i1]
      unfold f_X12_append_b133
      rw [nj_d, nn_nat (by omega)]
      show f_X12_append_b97 N g v (nj j) (sI (sI D 211 len (sg64 v j).toInt32) 207 10 (dI (sI D 211 len (sg64 v j).toInt32) 207 10 + 1)) = _
      rw [dI_s, if_neg (by omega), h0, nn_1]
      rw [ih g (len + 1) _ (by omega) (by omega) (by rw [dI_s, if_pos ⟨rfl, rfl⟩])]
      rw [show len + 1 + j = len + (j + 1) by omega]
      rfl
theorem addC_d {v : Int64} : ∀ (j len : Nat) (D : Dat), dI D 3 2 = nn len → Ch (fun a k => a = 4 ∨ (a = 3 ∧ k = 2)) D (addC v j len D) ∧ dI (addC v j len D) 3 2 = nn (len + j) ∧ ∀ i, dI (addC v j len D) 4 i = if len ≤ i ∧ i < len + j then (sg64 v (len + j - 1 - i)).toInt32 else dI D 4 i := by
  intro j
  induction j with
  | zero =>
    intro len D h0
    refine ⟨Ch.rf, h0, fun i => ?_⟩
    rw [if_neg (by omega)]
    rfl
  | succ j ih =>
    intro len D h0
    obtain ⟨a1, a2, a3⟩ := ih (len + 1) (sI (sI D 4 len (sg64 v j).toInt32) 3 2 (nn (len + 1))) (by rw [dI_s, if_pos ⟨rfl, rfl⟩])
    refine ⟨?_, ?_, fun i => ?_⟩
    · exact (Ch.sI (Or.inr ⟨rfl, rfl⟩) (Ch.sI (Or.inl rfl) Ch.rf)).tr a1
    · rw [show len + (j + 1) = len + 1 + j by omega]; exact a2
    · show dI (addC v j (len + 1) _) 4 i = _
      rw [a3 i]
      by_cases h1 : len + 1 ≤ i ∧ i < len + 1 + j
      · rw [if_pos h1, if_pos (by omega)]
        rw [show len + 1 + j - 1 - i = len + (j + 1) - 1 - i by omega]
      · rw [if_neg h1, dI_s, if_neg (by omega), dI_s]
        by_cases h2 : i = len
        · rw [if_pos ⟨rfl, h2⟩, if_pos (by omega), show len + (j + 1) - 1 - i = j by omega]
        · rw [if_neg (fun q => h2 q.2), if_neg (by omega)]
theorem addM_d {v : Int64} : ∀ (j len : Nat) (D : Dat), dI D 207 10 = nn len → Ch (fun a k => a = 211 ∨ (a = 207 ∧ k = 10)) D (addM v j len D) ∧ dI (addM v j len D) 207 10 = nn (len + j) ∧ ∀ i, dI (addM v j len D) 211 i = if len ≤ i ∧ i < len + j then (sg64 v (len + j - 1 - i)).toInt32 else dI D 211 i := by
  intro j
  induction j with
  | zero =>
    intro len D h0
    refine ⟨Ch.rf, h0, fun i => ?_⟩
    rw [if_neg (by omega)]
    rfl
  | succ j ih =>
    intro len D h0
    obtain ⟨a1, a2, a3⟩ := ih (len + 1) (sI (sI D 211 len (sg64 v j).toInt32) 207 10 (nn (len + 1))) (by rw [dI_s, if_pos ⟨rfl, rfl⟩])
    refine ⟨?_, ?_, fun i => ?_⟩
    · exact (Ch.sI (Or.inr ⟨rfl, rfl⟩) (Ch.sI (Or.inl rfl) Ch.rf)).tr a1
    · rw [show len + (j + 1) = len + 1 + j by omega]; exact a2
    · show dI (addM v j (len + 1) _) 211 i = _
      rw [a3 i]
      by_cases h1 : len + 1 ≤ i ∧ i < len + 1 + j
      · rw [if_pos h1, if_pos (by omega)]
        rw [show len + 1 + j - 1 - i = len + (j + 1) - 1 - i by omega]
      · rw [if_neg h1, dI_s, if_neg (by omega), dI_s]
        by_cases h2 : i = len
        · rw [if_pos ⟨rfl, h2⟩, if_pos (by omega), show len + (j + 1) - 1 - i = j by omega]
        · rw [if_neg (fun q => h2 q.2), if_neg (by omega)]
/-- the model's check of the signs -/
theorem mplain_l {N : Nat} {v : Int64} {m : Nat} (hm : m ≤ 8) (D : Dat) : ∀ (g i : Nat), i ≤ m → m - i < g → ((∀ k, i ≤ k → k < m → plain v k) → f_X12_append_b25 N g v (nn m) (nn i) D = (if dI D 207 10 + nn m ≤ 240 then f_X12_append_b97 N N v (nn m - 1) D else some (0, sI D 207 0 2))) ∧ (¬ (∀ k, i ≤ k → k < m → plain v k) → f_X12_append_b25 N g v (nn m) (nn i) D = some (0, sI D 207 0 1)) := by
  intro g
  induction g with
  | zero => intro i _ h; omega
  | succ g ih =>
    intro i hi hg
    rw [f_X12_append_b25]
    by_cases q : i = m
    · subst q
      rw [if_pos ((nn_le (by omega) (by omega)).mpr (Nat.le_refl _)), e_X12_fail, bS]
      exact ⟨fun _ => rfl, fun h => absurd (fun k h1 h2 => by omega) h⟩
    · rw [if_neg (by rw [nn_le (by omega) (by omega)]; omega)]
      show (_ → (if lg_cmp (sg64 v i) 32 < 0 then _ else if lg_cmp (sg64 v i) 126 ≤ 0 then _ else _) = _) ∧ (_ → (if lg_cmp (sg64 v i) 32 < 0 then _ else if lg_cmp (sg64 v i) 126 ≤ 0 then _ else _) = _)
      unfold f_X12_append_b62
      rw [e_X12_fail, bS]
      by_cases p1 : lg_cmp (sg64 v i) 32 < 0
      · rw [if_pos p1]
        exact ⟨fun h => absurd p1 (h i (Nat.le_refl _) (by omega)).1, fun _ => rfl⟩
      · rw [if_neg p1]
        by_cases p2 : lg_cmp (sg64 v i) 126 ≤ 0
        · rw [if_pos p2, nn_1, ← all_s ⟨p1, p2⟩]
          exact ih (i + 1) (by omega) (by omega)
        · rw [if_neg p2]
          exact ⟨fun h => absurd (h i (Nat.le_refl _) (by omega)).2 p2, fun _ => rfl⟩
def Pa (a k : Nat) : Prop := a = 262 ∨ (a = 207 ∧ (k = 0 ∨ k = 10)) ∨ a = 4 ∨ (a = 3 ∧ k = 2) ∨ a = 211
theorem stp_append {N nu n : Nat} {K : Nat → Nat} {D : Dat} {len : Nat} (hN : 1000 ≤ N) (a1 a2 a3 : Int32) (hT : IT len D) : ∃ D', stp_3 N nu n K D a1 a2 a3 = some (K, D') ∧ ((Ch Pr D D') ∨ (Ch Pa D D' ∧ ∃ len', IT len' D')) := by
  obtain ⟨t1, ⟨t2, t3⟩, t4⟩ := id hT
  unfold stp_3
  generalize ((a1.toInt64 <<< ((32 : Int32).toInt64 &&& 63)) ||| (a2.toInt64 &&& 4294967295)) = v
  by_cases hb : 1 ≤ a3.toInt ∧ a3.toInt ≤ 8
  · obtain ⟨m, hm, rfl⟩ := nn_of (show 0 ≤ a3.toInt by omega)
    rw [nn_int hm] at hb
    have b1 : ¬ nn m < 1 := by rw [nn_l, nn_lt (by omega) (by omega)]; omega
    have b2 : ¬ 8 < nn m := by rw [nn_l, nn_lt (by omega) (by omega)]; omega
    have b3 : nn m ≤ 8 := by rw [nn_l, nn_le (by omega) (by omega)]; omega
    have eC0 := arePlain_l (N := N) (v := v) (m := m) (by omega) D N 0 (by omega) (by omega)
    have eM0 := fun D : Dat => mplain_l (N := N) (v := v) (m := m) (by omega) D N 0 (by omega) (by omega)
    by_cases hp : ∀ k, 0 ≤ k → k < m → plain v k
    · have eC : f_X5_arePlain N v (nn m) D = some (1, D) := eC0.1 hp
      have eM : ∀ D : Dat, f_X12_append_b25 N N v (nn m) 0 D = _ := fun D => (eM0 D).1 hp
      by_cases hl : len + m ≤ 240
      · have q1 : nn len + nn m ≤ 240 := by rw [nn_add, nn_l, nn_le (by omega) (by omega)]; exact hl
        have e0 : f_X11_append N v (nn m) D = some (.inr (nn (len + m)), addC v m len D) := by
          unfold f_X11_append f_X5_length f_X5_addSigns
          have := addC_l (N := N) (v := v) m N len D (fun k hk => hp k (Nat.zero_le _) hk) hl (by omega) t2
          simp only [b1, b2, eC, bS, n10, t2, q1, reduceIte, show nn m - (1 : Int32) = nj m from rfl, this]
          rw [(addC_d m len D t2).2.1]
        have eL : f_L_append N nu K v (nn m) D = some (0, sL (addC v m len D) 262 (0 : Int32).toNatClampNeg (nn (len + m)).toInt64) := by
          unfold f_L_append
          rw [e0, bS]
        obtain ⟨f1, f2, f3⟩ := addC_d (v := v) m len D t2
        generalize hD1 : sL (addC v m len D) 262 (0 : Int32).toNatClampNeg (nn (len + m)).toInt64 = D1 at eL
        have hq : ∀ a j, a ≠ 4 → ¬ (a = 3 ∧ j = 2) → dI D1 a j = dI D a j := fun a j h1 h2 => by
          rw [← hD1, dI_sL]; exact f1.i (by omega)
        have eM2 : f_X12_append N v (nn m) D1 = some (nn (len + m), addM v m len (sI D1 207 0 0)) := by
          unfold f_X12_append
          have r1 : dI (sI D1 207 0 0) 207 10 = nn len := by rw [dI_s, if_neg (by omega), hq 207 10 (by omega) (by omega)]; exact t3
          rw [if_neg b1, if_pos b3, eM, r1, if_pos q1]
          exact addM_l m N len _ hl (by omega) r1
        obtain ⟨g1, g2, g3⟩ := addM_d (v := v) m len (sI D1 207 0 0) (by rw [dI_s, if_neg (by omega), hq 207 10 (by omega) (by omega)]; exact t3)
        have c0 : Ch Pa D D1 := by
          rw [← hD1]
          exact Ch.sL (by unfold Pa; omega) (f1.mono (fun a k h => by unfold Pa; omega))
        have c1 : Ch Pa D (addM v m len (sI D1 207 0 0)) := (Ch.sI (by unfold Pa; omega) c0).tr (g1.mono (fun a k h => by unfold Pa; omega))
        refine ⟨_, stp_ok eL eM2 (by rw [g1.i (by omega), dI_s, if_pos ⟨rfl, rfl⟩]) (fun _ => by rw [g1.l (by omega), dL_sI, ← hD1]; exact fin_b), Or.inr ⟨c1, len + m, hl, ⟨?_, g2⟩, fun i hi => ?_⟩⟩
        · rw [g1.i (by omega), dI_s, if_neg (by omega), ← hD1, dI_sL]; exact f2
        · have z1 : dI (addM v m len (sI D1 207 0 0)) 4 i = if len ≤ i ∧ i < len + m then (sg64 v (len + m - 1 - i)).toInt32 else dI D 4 i := by
            rw [g1.i (by omega), dI_s, if_neg (by omega), ← hD1, dI_sL]; exact f3 i
          have z2 : dI (addM v m len (sI D1 207 0 0)) 211 i = if len ≤ i ∧ i < len + m then (sg64 v (len + m - 1 - i)).toInt32 else dI D 211 i := by
            have z0 : dI (sI D1 207 0 0) 211 i = dI D 211 i := by rw [dI_s, if_neg (by omega), hq 211 i (by omega) (by omega)]
            rw [g3 i, z0]
          rw [z1, z2]
          by_cases hh : len ≤ i ∧ i < len + m
          · rw [if_pos hh, if_pos hh]
            obtain ⟨s, s1, s2, s3⟩ := plain_nn (hp (len + m - 1 - i) (Nat.zero_le _) (by omega))
            rw [s3, nn_int (by omega)]
            exact ⟨rfl, by omega, by omega⟩
          · rw [if_neg hh, if_neg hh]
            exact t4 i (by omega)
      · have q1 : ¬ nn len + nn m ≤ 240 := by rw [nn_add, nn_l, nn_le (by omega) (by omega)]; exact hl
        obtain ⟨D', e1, e2⟩ := stp_not (K := K) (fL := f_L_append N nu K v (nn m) D) (fM := fun D => f_X12_append N v (nn m) D) (D := D) (r := 2) (by decide) (by
          unfold f_L_append f_X11_append f_X5_length
          simp only [b1, b2, eC, bS, n10, t2, q1, reduceIte]
          rfl) (by
          show f_X12_append N v (nn m) D = _
          unfold f_X12_append
          have r1 : dI (sI D 207 0 0) 207 10 = nn len := by rw [dI_s, if_neg (by omega)]; exact t3
          rw [if_neg b1, if_pos b3, eM, r1, if_neg q1]
          rfl)
        exact ⟨D', e1, Or.inl e2⟩
    · have eC : f_X5_arePlain N v (nn m) D = some (0, D) := eC0.2 hp
      have eM : ∀ D : Dat, f_X12_append_b25 N N v (nn m) 0 D = _ := fun D => (eM0 D).2 hp
      obtain ⟨D', e1, e2⟩ := stp_not (K := K) (fL := f_L_append N nu K v (nn m) D) (fM := fun D => f_X12_append N v (nn m) D) (D := D) (r := 1) (by decide) (by
        unfold f_L_append f_X11_append f_X11_append_b19
        simp only [b1, b2, eC, bS, reduceIte]) (by
        show f_X12_append N v (nn m) D = _
        unfold f_X12_append
        rw [if_neg b1, if_pos b3, eM]
        rfl)
      exact ⟨D', e1, Or.inl e2⟩
  · obtain ⟨D', e1, e2⟩ := stp_not (K := K) (fL := f_L_append N nu K v a3 D) (fM := fun D => f_X12_append N v a3 D) (D := D) (r := 1) (by decide) (by
      unfold f_L_append f_X11_append f_X11_append_b19
      by_cases q : a3 < 1
      · simp only [q, bS, reduceIte]
      · have : 8 < a3 := by
          rw [Int32.lt_iff_toInt_lt] at q ⊢
          have o1 : (1 : Int32).toInt = 1 := rfl
          show (8 : Int) < _
          omega
        simp only [q, this, bS, reduceIte]) (by
      show f_X12_append N v a3 D = _
      unfold f_X12_append f_X12_append_b16
      by_cases q : a3 < 1
      · simp only [q, bS, reduceIte, e_X12_fail]
        rfl
      · have : ¬ a3 ≤ 8 := by
          rw [Int32.lt_iff_toInt_lt] at q
          rw [Int32.le_iff_toInt_le]
          have o1 : (1 : Int32).toInt = 1 := rfl
          show ¬ _ ≤ (8 : Int)
          omega
        simp only [q, this, bS, reduceIte, e_X12_fail]
        rfl)
    exact ⟨D', e1, Or.inl e2⟩
