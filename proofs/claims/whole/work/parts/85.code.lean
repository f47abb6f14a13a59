/-! code, fix, clear -/
/-- what may have changed behind a call that changes code or marks -/
def Pc (a k : Nat) : Prop := a = 262 ∨ (a = 207 ∧ (k = 0 ∨ k = 13 ∨ k = 16 ∨ k = 17 ∨ k = 18)) ∨ (a = 0 ∧ (k = 12 ∨ k = 13)) ∨ (a = 107 ∧ k = 10) ∨ (201 ≤ a ∧ a ≤ 206) ∨ a = 212 ∨ a = 213 ∨ a = 190 ∨ a = 214 ∨ a = 215
/-- no findings are left -/
def none_left (D : Dat) : Prop := dI D 207 16 = 0 ∧ dI D 207 17 = 0 ∧ dI D 207 18 = 0
theorem e_forget (D : Dat) : f_X11_forgetFindings D = some (sI (sI (sI D 0 12 0) 0 13 0) 107 10 0) := by
  unfold f_X11_forgetFindings f_X9_forget
  rfl
theorem e_changed (D : Dat) : f_X12_changed D = some (sI (sI (sI D 207 18 0) 207 16 0) 207 17 0) := rfl
/-- scalars behind a change: flags are down on both sides, the rest as before -/
theorem IS.down {nu : Nat} {D D' : Dat} (h : Ch Pc D D') (hS : IS nu D) (h1 : dI D' 0 12 = 0 ∧ dI D' 0 13 = 0 ∧ dI D' 107 10 = 0) (h2 : none_left D') : IS nu D' := by
  obtain ⟨g1, ⟨g2, g3⟩, ⟨g4, g5⟩, -, -, -, g6, g7⟩ := hS
  obtain ⟨k1, k2, k3⟩ := h1
  obtain ⟨l1, l2, l3⟩ := h2
  have e : ∀ a k, ¬ Pc a k → dI D' a k = dI D a k := fun a k r => h.i r
  refine ⟨g1, ⟨?_, ?_⟩, ⟨?_, ?_⟩, ⟨by rw [k2, l1], by rw [l1]; exact Or.inl rfl⟩, ⟨by rw [k1, l3], by rw [l3]; exact Or.inl rfl⟩, ⟨by rw [k3, l2], by rw [l2]; exact Or.inl rfl⟩, ?_, ?_⟩
  · rw [e 1 0 (by unfold Pc; omega)]; exact g2
  · rw [e 207 1 (by unfold Pc; omega)]; exact g3
  · rw [e 0 14 (by unfold Pc; omega), e 207 7 (by unfold Pc; omega)]; exact g4
  · rw [e 0 15 (by unfold Pc; omega), e 207 8 (by unfold Pc; omega)]; exact g5
  · rw [e 1 2 (by unfold Pc; omega), e 207 5 (by unfold Pc; omega)]; exact g6
  · rw [e 207 5 (by unfold Pc; omega)]; exact g7
theorem stp_code {N nu n : Nat} {K : Nat → Nat} {D : Dat} {c sz : Nat} (a1 a2 a3 : Int32) (hS : IS nu D) (hC : IC c sz D) (hM : IM nu D) : ∃ D', stp_5 N nu n K D a1 a2 a3 = some (K, D') ∧ ((Ch Pr D D') ∨ (Ch Pc D D' ∧ IS nu D' ∧ IC c (sz + 1) D' ∧ IM nu D' ∧ none_left D')) := by
  obtain ⟨c1, ⟨c2, c3⟩, c4, ⟨c5, c6⟩, c7⟩ := id hC
  unfold stp_5
  rcases num 16 a1 with ⟨k, hk, -, rfl⟩ | hbad
  · have q0 : nn k ≤ 15 := by rw [nn_l, nn_le (by omega) (by omega)]; omega
    by_cases hf : sz = 64
    · have q1 : ¬ nn sz < 64 := by rw [nn_l, nn_lt (by omega) (by omega)]; omega
      have q2 : nn sz = 64 := by rw [hf]; rfl
      obtain ⟨D', e1, e2⟩ := stp_not (K := K) (fL := f_L_code N nu K (nn k) a2 D) (fM := fun D => f_X12_code (nn k) a2 D) (D := D) (r := 2) (by decide) (by
        unfold f_L_code f_X11_code f_X0_size
        simp only [nn_nlt0 (show k < 2147483648 by omega), q0, c2, c1, c5, q1, bS, reduceIte]
        rfl) (by
        show f_X12_code (nn k) a2 D = _
        unfold f_X12_code
        rw [show (16 : Int32) = nn 16 from rfl, out_no (by omega) hk]
        have q3 : dI (sI D 207 0 0) 207 13 = 64 := by rw [dI_s, if_neg (by omega), c6]; exact q2
        simp only [bS, q3, reduceIte, e_X12_fail]
        rfl)
      exact ⟨D', e1, Or.inl e2⟩
    · have hlt : sz < 64 := by omega
      have q1 : nn sz < 64 := by rw [nn_l, nn_lt (by omega) (by omega)]; omega
      have q1' : ¬ 64 ≤ nn sz := by rw [nn_l, nn_le (by omega) (by omega)]; omega
      have q2 : ¬ nn sz = 64 := by rw [nn_l, nn_eq (by omega) (by omega)]; omega
      have i1 := nn_in (k := sz) (n := 64) (by omega) (by omega)
      have hc0 : c ≠ 0 ∧ c ≠ 107 ∧ c + 1 ≠ 0 ∧ c + 2 ≠ 0 ∧ c + 1 ≠ c ∧ c + 2 ≠ c ∧ c ≠ 262 := by omega
      have e0 : f_X11_code (nn k) a2 D = some (.inr (nn sz), sI (sI (sI (sI (sI (sI D 0 12 0) 0 13 0) 107 10 0) (c + 1) sz (nn k)) (c + 2) sz a2) c 2 (nn (sz + 1))) := by
        unfold f_X11_code f_X0_size
        have r1 : dI (sI (sI (sI D 0 12 0) 0 13 0) 107 10 0) c 2 = nn sz := by rw [dI_s, if_neg (by omega), dI_s, if_neg (by omega), dI_s, if_neg (by omega)]; exact c5
        have r2 : dI (sI (sI (sI (sI D 0 12 0) 0 13 0) 107 10 0) (c + 1) sz (nn k)) c 2 = nn sz := by rw [dI_s, if_neg (by omega)]; exact r1
        have r3 : dI (sI (sI (sI (sI (sI D 0 12 0) 0 13 0) 107 10 0) (c + 1) sz (nn k)) (c + 2) sz a2) c 2 = nn sz := by rw [dI_s, if_neg (by omega)]; exact r2
        have eadd : f_X0_add c (nn k) a2 (sI (sI (sI D 0 12 0) 0 13 0) 107 10 0) = some (sI (sI (sI (sI (sI (sI D 0 12 0) 0 13 0) 107 10 0) (c + 1) sz (nn k)) (c + 2) sz a2) c 2 (nn (sz + 1))) := by
          unfold f_X0_add f_X0_add_b39
          simp only [r1, q1', i1, reduceIte]
          rw [nn_nat (k := sz) (by omega)]
          simp only [r2, i1, reduceIte]
          rw [nn_nat (k := sz) (by omega), r3, nn_1]
        simp only [nn_nlt0 (show k < 2147483648 by omega), q0, c2, c1, c5, q1, bS, reduceIte, e_forget, dR_sI, eadd]
        rw [dI_s, if_pos ⟨rfl, rfl⟩, show nn (sz + 1) - (1 : Int32) = nn sz from nn_sub (a := sz + 1) (b := 1) (by omega) (by omega)]
      have eL : f_L_code N nu K (nn k) a2 D = some (0, sL (sI (sI (sI (sI (sI (sI D 0 12 0) 0 13 0) 107 10 0) (c + 1) sz (nn k)) (c + 2) sz a2) c 2 (nn (sz + 1))) 262 (0 : Int32).toNatClampNeg (nn sz).toInt64) := by
        unfold f_L_code
        rw [e0, bS]
      generalize hD1 : sL (sI (sI (sI (sI (sI (sI D 0 12 0) 0 13 0) 107 10 0) (c + 1) sz (nn k)) (c + 2) sz a2) c 2 (nn (sz + 1))) 262 (0 : Int32).toNatClampNeg (nn sz).toInt64 = D1 at eL
      have hq : ∀ a j, 207 ≤ a → dI D1 a j = dI D a j := fun a j ha => by
        rw [← hD1, dI_sL, dI_s, if_neg (by omega), dI_s, if_neg (by omega), dI_s, if_neg (by omega), dI_s, if_neg (by omega), dI_s, if_neg (by omega), dI_s, if_neg (by omega)]
      have eM : f_X12_code (nn k) a2 D1 = some (nn sz, sI (sI (sI (sI (sI (sI (sI D1 207 0 0) 212 sz (nn k)) 213 sz a2) 207 13 (nn (sz + 1))) 207 18 0) 207 16 0) 207 17 0) := by
        unfold f_X12_code f_X12_code_b66
        rw [show (16 : Int32) = nn 16 from rfl, out_no (by omega) hk]
        have r1 : dI (sI D1 207 0 0) 207 13 = nn sz := by rw [dI_s, if_neg (by omega), hq 207 13 (by omega)]; exact c6
        have r2 : dI (sI (sI D1 207 0 0) 212 sz (nn k)) 207 13 = nn sz := by rw [dI_s, if_neg (by omega)]; exact r1
        have r3 : dI (sI (sI (sI D1 207 0 0) 212 sz (nn k)) 213 sz a2) 207 13 = nn sz := by rw [dI_s, if_neg (by omega)]; exact r2
        simp only [bS, r1, q2, i1, reduceIte]
        rw [nn_nat (k := sz) (by omega)]
        simp only [r2, i1, reduceIte]
        rw [nn_nat (k := sz) (by omega), r3, nn_1]
        simp only [e_changed, bS]
        have r4 : dI (sI (sI (sI (sI (sI (sI (sI D1 207 0 0) 212 sz (nn k)) 213 sz a2) 207 13 (nn (sz + 1))) 207 18 0) 207 16 0) 207 17 0) 207 13 = nn (sz + 1) := by
          rw [dI_s, if_neg (by omega), dI_s, if_neg (by omega), dI_s, if_neg (by omega), dI_s, if_pos ⟨rfl, rfl⟩]
        rw [r4, show nn (sz + 1) - (1 : Int32) = nn sz from nn_sub (a := sz + 1) (b := 1) (by omega) (by omega)]
      have hch : Ch Pc D (sI (sI (sI (sI (sI (sI (sI D1 207 0 0) 212 sz (nn k)) 213 sz a2) 207 13 (nn (sz + 1))) 207 18 0) 207 16 0) 207 17 0) := by
        rw [← hD1]
        refine Ch.sI ?_ (Ch.sI ?_ (Ch.sI ?_ (Ch.sI ?_ (Ch.sI ?_ (Ch.sI ?_ (Ch.sI ?_ (Ch.sL ?_ (Ch.sI ?_ (Ch.sI ?_ (Ch.sI ?_ (Ch.sI ?_ (Ch.sI ?_ (Ch.sI ?_ Ch.rf))))))))))))) <;> (unfold Pc; omega)
      refine ⟨_, stp_ok eL eM (by rw [dI_s, if_neg (by omega), dI_s, if_neg (by omega), dI_s, if_neg (by omega), dI_s, if_neg (by omega), dI_s, if_neg (by omega), dI_s, if_neg (by omega), dI_s, if_pos ⟨rfl, rfl⟩]) (fun _ => by rw [dL_sI, dL_sI, dL_sI, dL_sI, dL_sI, dL_sI, dL_sI, ← hD1]; exact fin_b), Or.inr ⟨hch, ?_, ?_, ?_, ?_⟩⟩
      · refine IS.down hch hS ⟨?_, ?_, ?_⟩ ⟨?_, ?_, ?_⟩
        · rw [← hD1]; repeat first | rw [dI_s, if_neg (by omega)] | rw [dI_s, if_pos (by omega)] | rw [dI_sL]
        · rw [← hD1]; repeat first | rw [dI_s, if_neg (by omega)] | rw [dI_s, if_pos (by omega)] | rw [dI_sL]
        · rw [← hD1]; repeat first | rw [dI_s, if_neg (by omega)] | rw [dI_s, if_pos (by omega)] | rw [dI_sL]
        · simp [dI_s]
        · simp [dI_s]
        · simp [dI_s]
      · refine ⟨c1, ⟨?_, ?_⟩, by omega, ⟨?_, ?_⟩, fun i hi => ?_⟩
        · rw [← hD1]; simp [dR_sI, dR_sL, c2]
        · rw [← hD1]; simp [dR_sI, dR_sL, c3]
        · rw [← hD1]
          rw [dI_s, if_neg (by omega), dI_s, if_neg (by omega), dI_s, if_neg (by omega), dI_s, if_neg (by omega), dI_s, if_neg (by omega), dI_s, if_neg (by omega), dI_s, if_neg (by omega), dI_sL, dI_s, if_pos ⟨rfl, rfl⟩]
        · simp [dI_s]
        · have x1 : ∀ a, 201 ≤ a → a ≤ 206 → dI (sI (sI (sI (sI (sI (sI (sI D1 207 0 0) 212 sz (nn k)) 213 sz a2) 207 13 (nn (sz + 1))) 207 18 0) 207 16 0) 207 17 0) a i = dI D1 a i := fun a h1 h2 => by
            rw [dI_s, if_neg (by omega), dI_s, if_neg (by omega), dI_s, if_neg (by omega), dI_s, if_neg (by omega), dI_s, if_neg (by omega), dI_s, if_neg (by omega), dI_s, if_neg (by omega)]
          have y1 : dI (sI (sI (sI (sI (sI (sI (sI D1 207 0 0) 212 sz (nn k)) 213 sz a2) 207 13 (nn (sz + 1))) 207 18 0) 207 16 0) 207 17 0) 212 i = if i = sz then nn k else dI D 212 i := by
            simp only [dI_s]
            simp
            rw [hq 212 i (by omega)]
          have y2 : dI (sI (sI (sI (sI (sI (sI (sI D1 207 0 0) 212 sz (nn k)) 213 sz a2) 207 13 (nn (sz + 1))) 207 18 0) 207 16 0) 207 17 0) 213 i = if i = sz then a2 else dI D 213 i := by
            simp only [dI_s]
            simp
            rw [hq 213 i (by omega)]
          have z1 : dI D1 (c + 1) i = if i = sz then nn k else dI D (c + 1) i := by
            rw [← hD1, dI_sL, dI_s, if_neg (by omega), dI_s, if_neg (by omega), dI_s]
            by_cases hh : i = sz
            · rw [if_pos ⟨rfl, hh⟩, if_pos hh]
            · rw [if_neg (fun q => hh q.2), if_neg hh, dI_s, if_neg (by omega), dI_s, if_neg (by omega), dI_s, if_neg (by omega)]
          have z2 : dI D1 (c + 2) i = if i = sz then a2 else dI D (c + 2) i := by
            rw [← hD1, dI_sL, dI_s, if_neg (by omega), dI_s]
            by_cases hh : i = sz
            · rw [if_pos ⟨rfl, hh⟩, if_pos hh]
            · rw [if_neg (fun q => hh q.2), if_neg hh, dI_s, if_neg (by omega), dI_s, if_neg (by omega), dI_s, if_neg (by omega), dI_s, if_neg (by omega)]
          rw [x1 (c + 1) (by omega) (by omega), x1 (c + 2) (by omega) (by omega), y1, y2, z1, z2]
          by_cases hh : i = sz
          · rw [if_pos hh, if_pos hh, if_pos hh, if_pos hh, nn_int (by omega)]
            exact ⟨rfl, rfl, by omega, by omega⟩
          · rw [if_neg hh, if_neg hh, if_neg hh, if_neg hh]
            exact c7 i (by omega)
      · intro x hx
        have w1 : ∀ j, dI (sI (sI (sI (sI (sI (sI (sI D1 207 0 0) 212 sz (nn k)) 213 sz a2) 207 13 (nn (sz + 1))) 207 18 0) 207 16 0) 207 17 0) 190 j = dI D 190 j := fun j => by
          rw [← hD1]; repeat first | rw [dI_s, if_neg (by omega)] | rw [dI_s, if_pos (by omega)] | rw [dI_sL]
        have w2 : ∀ a j, (a = 214 ∨ a = 215) → dI (sI (sI (sI (sI (sI (sI (sI D1 207 0 0) 212 sz (nn k)) 213 sz a2) 207 13 (nn (sz + 1))) 207 18 0) 207 16 0) 207 17 0) a j = dI D a j := fun a j ha => by
          rw [dI_s, if_neg (by omega), dI_s, if_neg (by omega), dI_s, if_neg (by omega), dI_s, if_neg (by omega), dI_s, if_neg (by omega), dI_s, if_neg (by omega), dI_s, if_neg (by omega), hq a j (by omega)]
        rw [w1, w1, w2 214 x (Or.inl rfl), w2 215 x (Or.inr rfl)]
        exact hM x hx
      · exact ⟨by simp [dI_s], by simp [dI_s], by simp [dI_s]⟩
  · obtain ⟨D', e1, e2⟩ := stp_not (K := K) (fL := f_L_code N nu K a1 a2 D) (fM := fun D => f_X12_code a1 a2 D) (D := D) (r := 1) (by decide) (by
      unfold f_L_code f_X11_code f_X11_code_b10
      by_cases q : a1 < 0
      · simp only [q, bS, reduceIte]
      · have : ¬ a1 ≤ 15 := by
          rw [Int32.le_iff_toInt_le]
          have := not_lt0.mp q
          show ¬ _ ≤ (15 : Int)
          omega
        simp only [q, this, bS, reduceIte]) (by
      show f_X12_code a1 a2 D = _
      unfold f_X12_code
      rw [show (16 : Int32) = nn 16 from rfl, out_yes (by omega) hbad]
      simp only [bS, n10, reduceIte, e_X12_fail]
      rfl)
    exact ⟨D', e1, Or.inl e2⟩
