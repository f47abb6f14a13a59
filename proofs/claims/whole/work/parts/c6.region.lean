/-! region -/
theorem inside_e {D : Dat} {sz i k : Nat} (hz : sz ≤ 64) (h4 : dI D 108 4 = nn sz) (hi : i < sz) (hk : k < 64) : f_X9_isInside (nn i) (nn k) D = some (if mm (dL D 112 i) k then 1 else 0, D) := by
  unfold f_X9_isInside f_X6_isInside f_X6_isInside_b29 f_X6_isInside_b30
  rw [if_neg (show ¬ nn i < 0 from fun w => by have := Int32.lt_iff_toInt_lt.mp w; rw [nn_int (by omega)] at this; exact absurd this (by simp)), h4, if_neg (show ¬ nn sz ≤ nn i from fun w => by have := (nn_le (by omega) (by omega)).mp w; omega), if_neg (nn_in (n := 64) (by omega) (by omega)), nn_nat (by omega), e_holds _ hk, bS]
  cases mm (dL D 112 i) k <;> simp only [Bool.false_eq_true, reduceIte, b0_1, b1_1, bS, n10]
theorem nextOf_e {D : Dat} {sz i : Nat} (hz : sz ≤ 64) (h4 : dI D 108 4 = nn sz) (hi : i < sz) : f_X9_nextOf (nn i) D = some (dI D 111 i, D) := by
  unfold f_X9_nextOf f_X6_nextOf f_X6_nextOf_b22
  rw [if_neg (show ¬ nn i < 0 from fun w => by have := Int32.lt_iff_toInt_lt.mp w; rw [nn_int (by omega)] at this; exact absurd this (by simp)), h4, if_neg (show ¬ nn sz ≤ nn i from fun w => by have := (nn_le (by omega) (by omega)).mp w; omega), if_neg (nn_in (n := 64) (by omega) (by omega)), nn_nat (by omega)]
  rfl
def rgK (z : Sum Nat Int32 × Dat) : Option (Int32 × Dat) := match z.1 with | .inr r => some (0, sL z.2 262 (0 : Int32).toNatClampNeg r.toInt64) | .inl e => if e = 0 then some (1, z.2) else if e = 1 then some (2, z.2) else if e = 4 then some (3, z.2) else if e = 2 then some (4, z.2) else none
theorem nn_m1 {k : Nat} (h : k < 2147483648) : ¬ nn k = -1 := fun w => by
  have h1 := congrArg Int32.toInt w
  rw [nn_int h] at h1
  have h2 : ((-1 : Int32)).toInt = -1 := by decide
  omega
theorem stp_region {N nu n c sz : Nat} {K : Nat → Nat} {D : Dat} (a1 a2 a3 : Int32) (hS : IS nu D) (hC : IC c sz D) (hV : dI D 207 17 = 1 → IVm nu sz D) : ∃ D', stp_10 N nu n K D a1 a2 a3 = some (K, D') ∧ Ch Pr D D' := by
  obtain ⟨⟨n1, n2⟩, ⟨d1, d2⟩, -, -, -, ⟨m1, m2⟩, -⟩ := id hS
  obtain ⟨c1, ⟨c2, -⟩, hz, ⟨c5, c6⟩, hcode⟩ := id hC
  have hm : f_X9_hasMaps D = some (dI D 207 17, D) := by
    unfold f_X9_hasMaps
    rw [m1]
    rcases m2 with w | w <;> rw [w]
    · exact if_pos b0_1
    · exact if_pos b1_1
  have ltm : ∀ x : Int32, (x < -1) ↔ x.toInt < -1 := fun x => Int32.lt_iff_toInt_lt
  have lt64 : ∀ x : Int32, (x < 64) ↔ x.toInt < 64 := fun x => Int32.lt_iff_toInt_lt
  have le63 : ∀ x : Int32, (x ≤ 63) ↔ x.toInt ≤ 63 := fun x => Int32.le_iff_toInt_le
  have le0 : ∀ x : Int32, (x ≤ 0) ↔ x.toInt ≤ 0 := fun x => Int32.le_iff_toInt_le
  have ge0 : ∀ x : Int32, (0 ≤ x) ↔ 0 ≤ x.toInt := fun x => Int32.le_iff_toInt_le
  have so : ∀ (v : Int64) a j, ¬ (a = 207 ∧ j = 0) → dI (sI (sL D 262 (0 : Int32).toNatClampNeg v) 207 0 0) a j = dI D a j := fun v a j h => by rw [dI_s, if_neg h, dI_sL]
  have so1 : ∀ a j, ¬ (a = 207 ∧ j = 0) → dI (sI D 207 0 0) a j = dI D a j := fun a j h => by rw [dI_s, if_neg h]
  unfold stp_10
  have body : a2.toInt ≥ -1 → a2.toInt < 64 → (a2 = -1 ∨ ∃ k, k < 64 ∧ a2 = nn k) → ∃ D', ((f_L_region N nu K a1 a2 D).bind (fun p => (f_X12_region a1 a2 p.2).bind (fun q => (f_X12_thrown q.2).bind (fun r => if r.1 = p.1 ∧ (p.1 = 0 → dL r.2 262 (0 : Int32).toNatClampNeg = q.1.toInt64) then some (K, r.2) else none)))) = some (K, D') ∧ Ch Pr D D' := by
    intro hlo hhi hform
    have g1 : ¬ a2 < -1 := by rw [ltm]; omega
    have g2 : a2 < 64 := by rw [lt64]; omega
    have g3 : a2 ≤ 63 := by rw [le63]; omega
    rcases m2 with w17 | w17
    · refine stp_not (r := 2) (by decide) ?_ ?_
      · unfold f_L_region f_X11_region
        rw [if_neg g1, if_pos g2, hm, w17, bS]
        simp only [reduceIte]
        rfl
      · unfold f_X12_region
        rw [if_neg g1, if_pos g3, if_pos (by rw [so1 _ _ (by omega)]; exact w17)]
        rfl
    · obtain ⟨hv, hB, h1, h4, h3⟩ := hV w17
      rcases num sz a1 with ⟨i, hi, -, rfl⟩ | hbad1
      · have q0 : 0 ≤ (nn i).toInt ∧ (nn i).toInt < sz := by rw [nn_int (by omega)]; omega
        have i1 := nn_in (k := i) (n := 64) (by omega) (by omega)
        have i2 : ¬ (nn i < 0 ∨ 64 ≤ i) := by rw [nn_nat (by omega)] at i1; exact i1
        have ltsz : (a2 < nn sz) ↔ a2.toInt < sz := by rw [Int32.lt_iff_toInt_lt, nn_int (by omega)]
        have lf : f_L_region N nu K (nn i) a2 D = (if a2 ≤ 0 then (f_X11_region_b71 (nn i) a2 D) else (if 0 ≤ a2.toInt ∧ a2.toInt < sz then f_X11_region_b71 (nn i) a2 D else f_X11_region_b63 D)).bind rgK := by
          show (f_X11_region (nn i) a2 D).bind rgK = _
          unfold f_X11_region
          rw [if_neg g1, if_pos g2, hm, w17, bS]
          simp only [n10, reduceIte]
          rw [c2, bS, if_pos c1, code_has hz c5, if_pos q0, bS]
          simp only [n10, reduceIte]
          by_cases w : a2 ≤ 0
          · rw [if_pos w, if_pos w]
          · rw [if_neg w, if_neg w, c2, bS, if_pos c1, code_has hz c5, bS]
            dsimp only
            by_cases v : 0 ≤ a2.toInt ∧ a2.toInt < sz
            · rw [if_pos v, if_pos v, if_neg (by decide : ¬ (1 : Int32) = 0)]
            · rw [if_neg v, if_neg v, if_pos rfl]
        have mf1 : ∀ E : Dat, dI (sI E 207 0 0) 207 17 = 1 → dI (sI E 207 0 0) 207 13 = nn sz → f_X12_region (nn i) a2 E = if a2 < nn sz then (if dI (sI E 207 0 0) 212 i = 11 then (if 0 ≤ dI (sI E 207 0 0) 245 i then (if 0 ≤ a2 then (if (((64 : Int32) * nn i) + a2) < 0 ∨ 4096 ≤ ((((64 : Int32) * nn i) + a2)).toNatClampNeg then none else (if (dI (sI E 207 0 0) 248 (((64 : Int32) * nn i) + a2).toNatClampNeg) = 0 then (f_X12_region_b117 0 (sI E 207 0 0)) else (f_X12_region_b117 1 (sI E 207 0 0)))) else some (dI (sI E 207 0 0) 247 i, sI E 207 0 0)) else f_X12_region_b81 (sI E 207 0 0)) else f_X12_region_b81 (sI E 207 0 0)) else f_X12_region_b55 (sI E 207 0 0) := fun E e1 e2 => by
          unfold f_X12_region
          rw [if_neg g1, if_pos g3, e1, if_neg (by decide), e2, out_no (by omega) hi, bS]
          dsimp only
          rw [if_pos rfl, e2]
          by_cases v : a2 < nn sz
          · rw [if_pos v, if_pos v, if_neg i1, if_neg i1, nn_nat (by omega)]
            by_cases v2 : dI (sI E 207 0 0) 212 i = 11
            · rw [if_pos v2, if_pos v2]
              by_cases v3 : 0 ≤ dI (sI E 207 0 0) 245 i
              · rw [if_pos v3, if_pos v3]
                by_cases v4 : 0 ≤ a2
                · rw [if_pos v4, if_pos v4]
                · rw [if_neg v4, if_neg v4, if_neg i2]
              · rw [if_neg v3, if_neg v3]
            · rw [if_neg v2, if_neg v2]
          · rw [if_neg v, if_neg v]
        by_cases hx : a2.toInt < sz
        · have lf2 : f_L_region N nu K (nn i) a2 D = (f_X11_region_b71 (nn i) a2 D).bind rgK := by
            rw [lf]
            by_cases w : a2 ≤ 0
            · rw [if_pos w]
            · rw [if_neg w, if_pos ⟨by rw [le0] at w; omega, hx⟩]
          have eb : f_X11_region_b71 (nn i) a2 D = if dI D 212 i = 11 then (if mm (dL D 107 5) i = true then (if a2 = -1 then some (.inr (dI D 111 i), D) else (f_X9_isInside (nn i) a2 D).bind (fun p11 => (f_X11_asNumber p11.1 p11.2).bind (fun p13 => f_X11_region_b131 p13.1 p13.2))) else f_X11_region_b95 D) else f_X11_region_b95 D := by
            unfold f_X11_region_b71
            rw [c2, bS, if_pos c1, code_op hz c5 hi, bS, (hcode i hi).1]
            dsimp only
            by_cases v2 : dI D 212 i = 11
            · rw [if_pos v2, if_pos v2, hasH_e (by omega), bS]
              dsimp only
              cases mm (dL D 107 5) i with
              | false => rfl
              | true =>
                rw [if_pos rfl, if_neg (by decide : ¬ (1 : Int32) = 0), if_pos rfl]
                by_cases v3 : a2 = -1
                · rw [if_pos v3, if_pos v3, nextOf_e hz h4 hi]; rfl
                · rw [if_neg v3, if_neg v3]
            · rw [if_neg v2, if_neg v2]
          by_cases v2 : dI D 212 i = 11
          · cases hh : hv i with
            | none =>
              have e5 : ¬ mm (dL D 107 5) i = true := fun w => (h1 i (by omega)).2.2.mp w hh
              refine stp_not (r := 4) (by decide) ?_ ?_
              · rw [lf2, eb, if_pos v2, if_neg e5]; rfl
              · rw [mf1 D (by rw [so1 _ _ (by omega)]; exact w17) (by rw [so1 _ _ (by omega)]; exact c6), if_pos (ltsz.mpr hx), so1 _ _ (by omega), if_pos v2, so1 _ _ (by omega), (h1 i (by omega)).2.1, hh, if_neg (by decide)]
                rfl
            | some h =>
              have hb := hB i h hh
              have e5 : mm (dL D 107 5) i = true := (h1 i (by omega)).2.2.mpr (by rw [hh]; simp)
              obtain ⟨y1, y2⟩ := (h3 i h hh).2.2.2 v2
              have p0 : (0 : Int32) ≤ nn h := (nn_le (a := 0) (by omega) (by omega)).mpr (Nat.zero_le _)
              rcases hform with rfl | ⟨k, hk, rfl⟩
              · refine stp_read (r := dI D 111 i) ?_ ?_
                · rw [lf2, eb, if_pos v2, if_pos e5, if_pos rfl]; rfl
                · rw [mf1 _ (by rw [so _ _ _ (by omega)]; exact w17) (by rw [so _ _ _ (by omega)]; exact c6), if_pos (ltsz.mpr hx), so _ _ _ (by omega), if_pos v2, so _ _ _ (by omega), (h1 i (by omega)).2.1, hh, show hI (some h) = nn h from rfl, if_pos p0, if_neg (by decide), so _ _ _ (by omega), y1]
              · have hks : k < sz := by rw [nn_int (by omega)] at hx; omega
                have en : ¬ nn k = -1 := nn_m1 (by omega)
                have e0 : (64 : Int32) * nn i + nn k = nn (64 * i + k) := by rw [show (64 : Int32) = nn 64 from rfl, nn_mul, nn_add]
                refine stp_read (r := if mm (dL D 112 i) k then 1 else 0) ?_ ?_
                · rw [lf2, eb, if_pos v2, if_pos e5, if_neg en, inside_e hz h4 hi hk, bS]
                  cases mm (dL D 112 i) k <;> rfl
                · rw [mf1 _ (by rw [so _ _ _ (by omega)]; exact w17) (by rw [so _ _ _ (by omega)]; exact c6), if_pos (ltsz.mpr hx), so _ _ _ (by omega), if_pos v2, so _ _ _ (by omega), (h1 i (by omega)).2.1, hh, show hI (some h) = nn h from rfl, if_pos p0, if_pos ((ge0 _).mpr (by rw [nn_int (by omega)]; omega)), e0, if_neg (nn_in (n := 4096) (by omega) (by omega)), nn_nat (by omega), so _ _ _ (by omega)]
                  by_cases z : dI D 248 (64 * i + k) = 0
                  · rw [if_pos z, if_neg (fun w => (y2 k hks).mp w z)]; rfl
                  · rw [if_neg z, if_pos ((y2 k hks).mpr z)]; rfl
          · refine stp_not (r := 4) (by decide) ?_ ?_
            · rw [lf2, eb, if_neg v2]; rfl
            · rw [mf1 D (by rw [so1 _ _ (by omega)]; exact w17) (by rw [so1 _ _ (by omega)]; exact c6), if_pos (ltsz.mpr hx), so1 _ _ (by omega), if_neg v2]
              rfl
        · refine stp_not (r := 3) (by decide) ?_ ?_
          · rw [lf, if_neg (by rw [le0]; omega), if_neg (by omega)]; rfl
          · rw [mf1 D (by rw [so1 _ _ (by omega)]; exact w17) (by rw [so1 _ _ (by omega)]; exact c6), if_neg (by rw [ltsz]; exact hx)]
            rfl
      · have q0 : ¬ (0 ≤ a1.toInt ∧ a1.toInt < sz) := by omega
        refine stp_not (r := 3) (by decide) ?_ ?_
        · unfold f_L_region f_X11_region
          rw [if_neg g1, if_pos g2, hm, w17, bS]
          simp only [n10, reduceIte]
          rw [c2, bS, if_pos c1, code_has hz c5, if_neg q0, bS]
          rfl
        · unfold f_X12_region
          rw [if_neg g1, if_pos g3, if_neg (by rw [so1 _ _ (by omega), w17]; decide), so1 _ _ (by omega), c6, out_yes (by omega) hbad1, bS]
          rfl
  rcases num 64 a2 with ⟨k, hk, -, rfl⟩ | hbad
  · exact body (by rw [nn_int (by omega)]; omega) (by rw [nn_int (by omega)]; omega) (Or.inr ⟨k, hk, rfl⟩)
  · by_cases e : a2 = -1
    · exact body (by rw [e]; decide) (by rw [e]; decide) (Or.inl e)
    · have e1 : ¬ a2.toInt = -1 := fun w => e (Int32.toInt_inj.mp (by rw [w]; decide))
      refine stp_not (r := 1) (by decide) ?_ ?_
      · unfold f_L_region f_X11_region f_X11_region_b11
        by_cases w : a2 < -1
        · rw [if_pos w]; rfl
        · rw [if_neg w, if_neg (by rw [lt64]; rw [ltm] at w; omega)]; rfl
      · unfold f_X12_region f_X12_region_b16
        by_cases w : a2 < -1
        · rw [if_pos w]; rfl
        · rw [if_neg w, if_neg (by rw [le63]; rw [ltm] at w; omega)]; rfl
