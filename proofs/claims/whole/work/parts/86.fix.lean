/-! fix, clear -/
def sF (D : Dat) (a i n : Nat) (v : Int32) : Dat := (fun b k => if b = a ∧ i ≤ k ∧ k < n then v else D.1 b k, D.2.1, D.2.2)
theorem dI_F (D : Dat) (a i n : Nat) (v : Int32) (b k : Nat) : dI (sF D a i n v) b k = if b = a ∧ i ≤ k ∧ k < n then v else dI D b k := rfl
theorem dR_F (D : Dat) (a i n : Nat) (v : Int32) (b k : Nat) : dR (sF D a i n v) b k = dR D b k := rfl
theorem dL_F (D : Dat) (a i n : Nat) (v : Int32) (b k : Nat) : dL (sF D a i n v) b k = dL D b k := rfl
theorem sF_end (D : Dat) (a n : Nat) (v : Int32) : sF D a n n v = D := by
  have : (fun b k => if b = a ∧ n ≤ k ∧ k < n then v else D.1 b k) = D.1 := by
    funext b k
    rw [if_neg (by omega)]
  unfold sF
  rw [this]
theorem sF_step (D : Dat) (a i n : Nat) (v : Int32) (h : i < n) : sF (sI D a i v) a (i + 1) n v = sF D a i n v := by
  unfold sF sI
  congr 1
  funext b k
  dsimp only
  by_cases h1 : b = a ∧ i + 1 ≤ k ∧ k < n
  · rw [if_pos h1, if_pos (by omega)]
  · rw [if_neg h1]
    by_cases h2 : b = a ∧ k = i
    · rw [if_pos h2, if_pos (by omega)]
    · rw [if_neg h2, if_neg (by omega)]
theorem Ch.sF {P : Nat → Nat → Prop} {D D' : Dat} {a i n : Nat} {v : Int32} (hp : ∀ k, P a k) (h : Ch P D D') : Ch P D (sF D' a i n v) := fun b j hq => ⟨by rw [dI_F, if_neg (fun e => hq (by rw [e.1]; exact hp j))]; exact (h b j hq).1, (h b j hq).2.1, (h b j hq).2.2⟩
theorem fill_l {N nu : Nat} {K : Nat → Nat} {a n : Nat} {v : Int32} (hk : kd K a = 14) (hn : nl nu a = n) (hb : n < 2147483648) : ∀ (g i : Nat) (D : Dat), i ≤ n → n - i < g → f_J7_fill_53178_b5 N nu K g a v (nn i) (nn n) D = some (sF D a i n v) := by
  intro g
  induction g with
  | zero => intro i D _ h; omega
  | succ g ih =>
    intro i D hi hg
    rw [f_J7_fill_53178_b5]
    by_cases q : i = n
    · subst q
      rw [if_pos ((nn_le hb hb).mpr (Nat.le_refl _)), sF_end]
    · have i1 := nn_in (k := i) (n := n) (by omega) (by omega)
      rw [if_neg (by rw [nn_le hb (by omega)]; omega), if_pos hk, hn, if_neg i1, nn_1, nn_nat (by omega), ih (i + 1) _ (by omega) (by omega), sF_step _ _ _ _ _ (by omega)]
theorem fill_e {N nu : Nat} {K : Nat → Nat} {a n : Nat} {v : Int32} (hk : kd K a = 14) (hn : nl nu a = n) (hb : n < 2147483648) (hN : n < N) (D : Dat) : f_J7_fill_53178 N nu K a v D = some (sF D a 0 n v) := by
  unfold f_J7_fill_53178
  rw [if_pos hk, hn]
  exact fill_l hk hn hb N 0 D (Nat.zero_le _) (by omega)
theorem neg1 : (-1 : Int32).toInt = -1 := by decide
theorem stp_fix {N nu n : Nat} {K : Nat → Nat} {D : Dat} {c sz : Nat} (a1 a2 a3 : Int32) (hS : IS nu D) (hC : IC c sz D) (hM : IM nu D) : ∃ D', stp_6 N nu n K D a1 a2 a3 = some (K, D') ∧ ((Ch Pr D D') ∨ (Ch Pc D D' ∧ IS nu D' ∧ IC c sz D' ∧ IM nu D' ∧ none_left D')) := by
  obtain ⟨⟨n1, n2⟩, ⟨d1, d2⟩, -⟩ := id hS
  unfold stp_6
  generalize (if a2 = 0 then (0 : Int32) else 1) = w
  rcases num 26 a1 with ⟨k, hk, -, rfl⟩ | hbad
  · have q0 : ¬ 26 ≤ nn k := by rw [nn_l, nn_le (by omega) (by omega)]; omega
    have i1 := nn_in (k := k) (n := 26) (by omega) (by omega)
    by_cases hl : -1 ≤ a3.toInt ∧ a3.toInt < nu
    · have m1 : ¬ a3 < -1 := by rw [Int32.lt_iff_toInt_lt, neg1]; omega
      have m2 : a3 < nn nu := by rw [Int32.lt_iff_toInt_lt, nn_int (by omega)]; omega
      -- the class's place
      have pl : ∃ p, p < 52 ∧ (p = if w = 0 then k else 26 + k) := ⟨if w = 0 then k else 26 + k, by split <;> omega, rfl⟩
      obtain ⟨p, hp, ep⟩ := pl
      have i2 := nn_in (k := p) (n := 52) (by omega) (by omega)
      have eb : ∀ D : Dat, f_X11_fix_b34 (nn k) w a3 D = some (.inr (dI D 190 p), sI (sI (sI (sI D 190 p a3) 0 12 0) 0 13 0) 107 10 0) := by
        intro D
        unfold f_X11_fix_b34 f_X11_fix_b46
        by_cases hw : w = 0
        · rw [if_pos hw] at ep
          subst ep
          simp only [hw, i2, reduceIte, e_forget, bS]
          rw [nn_nat (by omega)]
        · rw [if_neg hw] at ep
          have e9 : (26 : Int32) + nn k = nn p := by rw [ep, nn_l, nn_add]
          simp only [hw, e9, i2, reduceIte, e_forget, bS]
          rw [nn_nat (by omega)]
      have e0 : f_X11_fix (nn k) w a3 D = some (.inr (dI D 190 p), sI (sI (sI (sI D 190 p a3) 0 12 0) 0 13 0) 107 10 0) := by
        unfold f_X11_fix
        by_cases h1 : a3 = -1
        · simp only [nn_nlt0 (show k < 2147483648 by omega), q0, h1, reduceIte]
          rw [← h1]
          exact eb D
        · have h0 : 0 ≤ a3.toInt := by
            have : a3.toInt ≠ -1 := fun q => h1 (Int32.toInt_inj.mp (q.trans neg1.symm))
            omega
          obtain ⟨j, hj, ej⟩ := nn_of h0
          have hjn : j < nu := by rw [ej, nn_int hj] at hl; omega
          have hh : f_X2_has a3 D = some (1, D) := by rw [ej]; exact has_yes n2 hjn d1
          simp only [nn_nlt0 (show k < 2147483648 by omega), q0, h1, hh, bS, n10, reduceIte]
          exact eb D
      have eL : f_L_fix N nu K (nn k) w a3 D = some (0, sL (sI (sI (sI (sI D 190 p a3) 0 12 0) 0 13 0) 107 10 0) 262 (0 : Int32).toNatClampNeg (dI D 190 p).toInt64) := by
        unfold f_L_fix
        rw [e0, bS]
      generalize hD1 : sL (sI (sI (sI (sI D 190 p a3) 0 12 0) 0 13 0) 107 10 0) 262 (0 : Int32).toNatClampNeg (dI D 190 p).toInt64 = D1 at eL
      have hq : ∀ a j, 207 ≤ a → dI D1 a j = dI D a j := fun a j ha => by
        rw [← hD1]; repeat first | rw [dI_s, if_neg (by omega)] | rw [dI_sL]
      -- the model's row
      obtain ⟨m, hm, em⟩ : ∃ m, (m = 214 ∨ m = 215) ∧ m = (if w = 0 then 214 else 215) := ⟨if w = 0 then 214 else 215, by split <;> omega, rfl⟩
      have hval : dI D 190 p = dI D m k := by
        by_cases hw : w = 0
        · rw [if_pos hw] at ep em; subst ep; subst em; exact (hM p (by omega)).1.1
        · rw [if_neg hw] at ep em; subst ep; subst em; exact (hM k (by omega)).1.2
      have eM : f_X12_fix (nn k) w a3 D1 = some (dI D m k, sI (sI (sI (sI (sI D1 207 0 0) m k a3) 207 18 0) 207 16 0) 207 17 0) := by
        unfold f_X12_fix f_X12_fix_b53 f_X12_fix_b76
        rw [show (26 : Int32) = nn 26 from rfl, out_no (by omega) hk]
        have r1 : dI (sI D1 207 0 0) 207 1 = nn nu := by rw [dI_s, if_neg (by omega), hq 207 1 (by omega)]; exact d2
        by_cases hw : w = 0
        · rw [if_pos hw] at em
          subst em
          simp only [bS, m1, r1, m2, hw, i1, e_changed, reduceIte]
          rw [nn_nat (by omega), dI_s, if_neg (by omega), hq 214 k (by omega)]
        · rw [if_neg hw] at em
          subst em
          simp only [bS, m1, r1, m2, hw, i1, e_changed, reduceIte]
          rw [nn_nat (by omega), dI_s, if_neg (by omega), hq 215 k (by omega)]
      have hch : Ch Pc D (sI (sI (sI (sI (sI D1 207 0 0) m k a3) 207 18 0) 207 16 0) 207 17 0) := by
        rw [← hD1]
        refine Ch.sI ?_ (Ch.sI ?_ (Ch.sI ?_ (Ch.sI ?_ (Ch.sI ?_ (Ch.sL ?_ (Ch.sI ?_ (Ch.sI ?_ (Ch.sI ?_ (Ch.sI ?_ Ch.rf))))))))) <;> (unfold Pc; omega)
      have hch2 : Ch (fun a k => Pc a k ∧ ¬ RIC a k) D (sI (sI (sI (sI (sI D1 207 0 0) m k a3) 207 18 0) 207 16 0) 207 17 0) := by
        rw [← hD1]
        refine Ch.sI ?_ (Ch.sI ?_ (Ch.sI ?_ (Ch.sI ?_ (Ch.sI ?_ (Ch.sL ?_ (Ch.sI ?_ (Ch.sI ?_ (Ch.sI ?_ (Ch.sI ?_ Ch.rf))))))))) <;> (unfold Pc RIC; omega)
      refine ⟨_, stp_ok eL eM (by repeat first | rw [dI_s, if_neg (by omega)] | rw [dI_s, if_pos (by omega)]) (fun _ => by rw [dL_sI, dL_sI, dL_sI, dL_sI, dL_sI, ← hD1, fin_b, hval]), Or.inr ⟨hch, ?_, ?_, ?_, ?_⟩⟩
      · refine IS.down hch hS ⟨?_, ?_, ?_⟩ ⟨?_, ?_, ?_⟩
        · rw [← hD1]; repeat first | rw [dI_s, if_neg (by omega)] | rw [dI_s, if_pos (by omega)] | rw [dI_sL]
        · rw [← hD1]; repeat first | rw [dI_s, if_neg (by omega)] | rw [dI_s, if_pos (by omega)] | rw [dI_sL]
        · rw [← hD1]; repeat first | rw [dI_s, if_neg (by omega)] | rw [dI_s, if_pos (by omega)] | rw [dI_sL]
        · simp [dI_s]
        · simp [dI_s]
        · simp [dI_s]
      · exact IC.kept hch2 (fun a k h => h.2) hC
      · intro x hx
        have w1 : ∀ j, dI (sI (sI (sI (sI (sI D1 207 0 0) m k a3) 207 18 0) 207 16 0) 207 17 0) 190 j = if j = p then a3 else dI D 190 j := fun j => by
          rw [← hD1, dI_s, if_neg (by omega), dI_s, if_neg (by omega), dI_s, if_neg (by omega), dI_s, if_neg (by omega), dI_s, if_neg (by omega), dI_sL, dI_s, if_neg (by omega), dI_s, if_neg (by omega), dI_s, if_neg (by omega), dI_s]
          by_cases hh : j = p
          · rw [if_pos ⟨rfl, hh⟩, if_pos hh]
          · rw [if_neg (fun q => hh q.2), if_neg hh]
        have w2 : ∀ a j, (a = 214 ∨ a = 215) → dI (sI (sI (sI (sI (sI D1 207 0 0) m k a3) 207 18 0) 207 16 0) 207 17 0) a j = if a = m ∧ j = k then a3 else dI D a j := fun a j ha => by
          rw [dI_s, if_neg (by omega), dI_s, if_neg (by omega), dI_s, if_neg (by omega), dI_s]
          by_cases hh : a = m ∧ j = k
          · rw [if_pos hh, if_pos hh]
          · rw [if_neg hh, if_neg hh, dI_s, if_neg (by omega), hq a j (by omega)]
        have hMx := hM x hx
        rw [w1, w1, w2 214 x (Or.inl rfl), w2 215 x (Or.inr rfl)]
        by_cases hw : w = 0
        · rw [if_pos hw] at ep em
          subst ep; subst em
          rw [if_neg (show ¬ 26 + x = p by omega), if_neg (show ¬ (215 = 214 ∧ x = p) by omega)]
          by_cases hh : x = p
          · rw [if_pos hh, if_pos ⟨rfl, hh⟩]
            exact ⟨⟨rfl, hMx.1.2⟩, hl, hMx.2.2⟩
          · rw [if_neg hh, if_neg (fun q => hh q.2)]
            exact hMx
        · rw [if_neg hw] at ep em
          subst ep; subst em
          rw [if_neg (show ¬ x = 26 + k by omega), if_neg (show ¬ (214 = 215 ∧ x = k) by omega)]
          by_cases hh : x = k
          · rw [if_pos (show 26 + x = 26 + k by omega), if_pos ⟨rfl, hh⟩]
            exact ⟨⟨hMx.1.1, rfl⟩, hMx.2.1, hl⟩
          · rw [if_neg (show ¬ 26 + x = 26 + k by omega), if_neg (fun q => hh q.2)]
            exact hMx
      · exact ⟨by simp [dI_s], by simp [dI_s], by simp [dI_s]⟩
    · have h1 : ¬ a3 = -1 := fun q => hl (by rw [q, neg1]; omega)
      have hlb : a3.toInt < 0 ∨ (nu : Int) ≤ a3.toInt := by
        have : a3.toInt ≠ -1 := fun q => h1 (Int32.toInt_inj.mp (q.trans neg1.symm))
        omega
      obtain ⟨D', e1, e2⟩ := stp_not (K := K) (fL := f_L_fix N nu K (nn k) w a3 D) (fM := fun D => f_X12_fix (nn k) w a3 D) (D := D) (r := 1) (by decide) (by
        unfold f_L_fix f_X11_fix f_X11_fix_b26
        simp only [nn_nlt0 (show k < 2147483648 by omega), q0, h1, has_no n2 hlb d1, bS, reduceIte]) (by
        show f_X12_fix (nn k) w a3 D = _
        unfold f_X12_fix f_X12_fix_b28
        rw [show (26 : Int32) = nn 26 from rfl, out_no (by omega) hk]
        have r1 : dI (sI D 207 0 0) 207 1 = nn nu := by rw [dI_s, if_neg (by omega)]; exact d2
        by_cases q : a3 < -1
        · simp only [bS, q, reduceIte, e_X12_fail]
          rfl
        · have q2 : ¬ a3 < nn nu := by
            rw [Int32.lt_iff_toInt_lt, neg1] at q
            rw [Int32.lt_iff_toInt_lt, nn_int (by omega)]
            have : a3.toInt ≠ -1 := fun q => h1 (Int32.toInt_inj.mp (q.trans neg1.symm))
            omega
          simp only [bS, q, r1, q2, reduceIte, e_X12_fail]
          rfl)
      exact ⟨D', e1, Or.inl e2⟩
  · obtain ⟨D', e1, e2⟩ := stp_not (K := K) (fL := f_L_fix N nu K a1 w a3 D) (fM := fun D => f_X12_fix a1 w a3 D) (D := D) (r := 1) (by decide) (by
      unfold f_L_fix f_X11_fix f_X11_fix_b26
      by_cases q : a1 < 0
      · simp only [q, bS, reduceIte]
      · have : 26 ≤ a1 := by
          rw [Int32.le_iff_toInt_le]
          have := not_lt0.mp q
          show (26 : Int) ≤ _
          omega
        simp only [q, this, bS, reduceIte]) (by
      show f_X12_fix a1 w a3 D = _
      unfold f_X12_fix f_X12_fix_b28
      rw [show (26 : Int32) = nn 26 from rfl, out_yes (by omega) hbad]
      simp only [bS, n10, reduceIte, e_X12_fail]
      rfl)
    exact ⟨D', e1, Or.inl e2⟩
/-- the model's loop of clear -/
theorem clear_l {N : Nat} {x : Int32} : ∀ (g i : Nat) (D : Dat), i ≤ 26 → 26 - i < g → f_X12_clear_b17 N g x (nn i) D = some (x, sI (sI (sI (sF (sF D 214 i 26 (-1)) 215 i 26 (-1)) 207 18 0) 207 16 0) 207 17 0) := by
  intro g
  induction g with
  | zero => intro i D _ h; omega
  | succ g ih =>
    intro i D hi hg
    rw [f_X12_clear_b17]
    by_cases q : i = 26
    · subst q
      rw [if_pos (by rw [nn_l]; exact (nn_le (by omega) (by omega)).mpr (Nat.le_refl _)), sF_end, sF_end, e_changed, bS]
    · have i1 := nn_in (k := i) (n := 26) (by omega) (by omega)
      rw [if_neg (by rw [nn_l, nn_le (by omega) (by omega)]; omega), if_neg i1, if_neg i1, nn_1, nn_nat (by omega), ih (i + 1) _ (by omega) (by omega)]
      have e : sF (sF (sI (sI D 214 i (-1)) 215 i (-1)) 214 (i + 1) 26 (-1)) 215 (i + 1) 26 (-1) = sF (sF D 214 i 26 (-1)) 215 i 26 (-1) := by
        rw [← sF_step D 214 i 26 (-1) (by omega), ← sF_step (sF (sI D 214 i (-1)) 214 (i + 1) 26 (-1)) 215 i 26 (-1) (by omega)]
        congr 1
        unfold sF sI
        congr 1
        funext b k
        dsimp only
        by_cases h1 : b = 215 ∧ k = i
        · rw [if_neg (by omega), if_pos h1, if_pos h1]
        · by_cases h2 : b = 214 ∧ i + 1 ≤ k ∧ k < 26
          · rw [if_pos h2, if_neg h1, if_pos h2]
          · rw [if_neg h2, if_neg h1, if_neg h1, if_neg h2]
      rw [e]
theorem stp_clear {N nu n : Nat} {K : Nat → Nat} {D : Dat} {c sz : Nat} (hN : 1000 ≤ N) (a1 a2 a3 : Int32) (hS : IS nu D) (hC : IC c sz D) : ∃ D', stp_7 N nu n K D a1 a2 a3 = some (K, D') ∧ Ch Pc D D' ∧ IS nu D' ∧ IC c 0 D' ∧ IM nu D' ∧ none_left D' := by
  obtain ⟨⟨n1, n2⟩, ⟨d1, d2⟩, -⟩ := id hS
  obtain ⟨c1, ⟨c2, c3⟩, c4, ⟨c5, c6⟩, -⟩ := id hC
  have e0 : f_X11_clear N nu K D = some (nn sz, sI (sI (sI (sF (sI D c 2 0) 190 0 52 (-1)) 0 12 0) 0 13 0) 107 10 0) := by
    unfold f_X11_clear f_X0_size f_X0_empty
    have hk : kd K 190 = 14 := kd_lt (by decide) rfl
    simp only [c2, bS, c1, c5, reduceIte, fill_e (nu := nu) (a := 190) (n := 52) (v := -1) hk rfl (by omega) (show 52 < N by omega), e_forget]
  generalize hD1 : sI (sI (sI (sF (sI D c 2 0) 190 0 52 (-1)) 0 12 0) 0 13 0) 107 10 0 = D1 at e0
  have hq : ∀ a j, 207 ≤ a → dI D1 a j = dI D a j := fun a j ha => by
    rw [← hD1, dI_s, if_neg (by omega), dI_s, if_neg (by omega), dI_s, if_neg (by omega), dI_F, if_neg (by omega), dI_s, if_neg (by omega)]
  have eM : f_X12_clear N D1 = some (nn sz, sI (sI (sI (sF (sF (sI (sI D1 207 0 0) 207 13 0) 214 0 26 (-1)) 215 0 26 (-1)) 207 18 0) 207 16 0) 207 17 0) := by
    unfold f_X12_clear
    have r1 : dI (sI D1 207 0 0) 207 13 = nn sz := by rw [dI_s, if_neg (by omega), hq 207 13 (by omega)]; exact c6
    rw [r1]
    exact clear_l N 0 _ (by omega) (by omega)
  have hch : Ch Pc D (sI (sI (sI (sF (sF (sI (sI D1 207 0 0) 207 13 0) 214 0 26 (-1)) 215 0 26 (-1)) 207 18 0) 207 16 0) 207 17 0) := by
    rw [← hD1]
    refine Ch.sI ?_ (Ch.sI ?_ (Ch.sI ?_ (Ch.sF ?_ (Ch.sF ?_ (Ch.sI ?_ (Ch.sI ?_ (Ch.sI ?_ (Ch.sI ?_ (Ch.sI ?_ (Ch.sF ?_ (Ch.sI ?_ Ch.rf))))))))))) <;> first | (intro k; unfold Pc; omega) | (unfold Pc; omega)
  refine ⟨_, by unfold stp_7; rw [e0, bS, eM, bS, if_pos rfl], hch, ?_, ?_, ?_, ?_⟩
  · refine IS.down hch hS ⟨?_, ?_, ?_⟩ ⟨?_, ?_, ?_⟩
    · rw [← hD1]; repeat first | rw [dI_s, if_neg (by omega)] | rw [dI_s, if_pos (by omega)] | rw [dI_F, if_neg (by omega)]
    · rw [← hD1]; repeat first | rw [dI_s, if_neg (by omega)] | rw [dI_s, if_pos (by omega)] | rw [dI_F, if_neg (by omega)]
    · rw [← hD1]; repeat first | rw [dI_s, if_neg (by omega)] | rw [dI_s, if_pos (by omega)] | rw [dI_F, if_neg (by omega)]
    · repeat first | rw [dI_s, if_neg (by omega)] | rw [dI_s, if_pos (by omega)]
    · repeat first | rw [dI_s, if_neg (by omega)] | rw [dI_s, if_pos (by omega)]
    · repeat first | rw [dI_s, if_neg (by omega)] | rw [dI_s, if_pos (by omega)]
  · refine ⟨c1, ⟨?_, ?_⟩, by omega, ⟨?_, ?_⟩, fun i hi => absurd hi (Nat.not_lt_zero _)⟩
    · rw [← hD1]; simp only [dR_sI, dR_F]; exact c2
    · rw [← hD1]; simp only [dR_sI, dR_F]; exact c3
    · rw [← hD1]
      repeat first | rw [dI_s, if_neg (by omega)] | rw [dI_F, if_neg (by omega)]
      rw [dI_s, if_pos ⟨rfl, rfl⟩]
      rfl
    · repeat first | rw [dI_s, if_neg (by omega)] | rw [dI_F, if_neg (by omega)]
      rw [dI_s, if_pos ⟨rfl, rfl⟩]
      rfl
  · intro x hx
    have w1 : ∀ j, j < 52 → dI (sI (sI (sI (sF (sF (sI (sI D1 207 0 0) 207 13 0) 214 0 26 (-1)) 215 0 26 (-1)) 207 18 0) 207 16 0) 207 17 0) 190 j = -1 := fun j hj => by
      rw [← hD1]
      repeat first | rw [dI_s, if_neg (by omega)] | rw [dI_F, if_neg (by omega)]
      rw [dI_F, if_pos ⟨rfl, by omega, by omega⟩]
    have w2 : dI (sI (sI (sI (sF (sF (sI (sI D1 207 0 0) 207 13 0) 214 0 26 (-1)) 215 0 26 (-1)) 207 18 0) 207 16 0) 207 17 0) 214 x = -1 := by
      repeat first | rw [dI_s, if_neg (by omega)] | rw [dI_F, if_neg (by omega)]
      rw [dI_F, if_pos ⟨rfl, by omega, by omega⟩]
    have w3 : dI (sI (sI (sI (sF (sF (sI (sI D1 207 0 0) 207 13 0) 214 0 26 (-1)) 215 0 26 (-1)) 207 18 0) 207 16 0) 207 17 0) 215 x = -1 := by
      repeat first | rw [dI_s, if_neg (by omega)]
      rw [dI_F, if_pos ⟨rfl, by omega, by omega⟩]
    rw [w1 x (by omega), w1 (26 + x) (by omega), w2, w3, neg1]
    exact ⟨⟨rfl, rfl⟩, ⟨by omega, by omega⟩, by omega, by omega⟩
  · refine ⟨?_, ?_, ?_⟩ <;> repeat first | rw [dI_s, if_neg (by omega)] | rw [dI_s, if_pos (by omega)]
