/-! translation of a text: one operation, an expression -/
def TC (CO a k : Nat) : Prop := (a = 106 ∧ k = 2) ∨ (a = CO ∧ k = 2) ∨ a = CO + 1 ∨ a = CO + 2
def TM (a k : Nat) : Prop := (a = 207 ∧ (k = 55 ∨ k = 61)) ∨ (238 ≤ a ∧ a ≤ 240) ∨ (242 ≤ a ∧ a ≤ 244)
/-- what stands still while a program is translated -/
def TE (nu P CO nb h cnt bz ez : Nat) (W K : Nat → Nat) (C0 M0 : Dat) : Prop := (dR C0 106 0 = some P ∧ (P = 191 ∨ P = 196)) ∧ (dR C0 106 1 = some CO ∧ (CO = 201 ∨ CO = 204)) ∧ PG nu P nb h cnt bz ez W C0 M0 ∧ (∀ i, i < cnt → kd K (nb + i) = 7) ∧ (h ≤ 1 ∧ dI M0 207 35 = nn h) ∧ NS ≤ nb
/-- c operations were put in both; 65: too many -/
def TS (CO c : Nat) (C M : Dat) : Prop := (c ≤ 64 ∧ dI C CO 2 = nn c ∧ dI C 106 2 = 0 ∧ dI M 207 61 = nn c ∧ ∀ k, k < c → dI C (CO + 1) k = dI M 242 k ∧ dI C (CO + 2) k = dI M 243 k ∧ (0 ≤ (dI M 242 k).toInt ∧ (dI M 242 k).toInt ≤ 15)) ∨ (c = 65 ∧ dI C CO 2 = nn 64 ∧ dI C 106 2 = 1 ∧ dI M 207 61 = nn 65)
def cN1 (c : Nat) : Nat := if c < 65 then c + 1 else 65
def cPl (c : Nat) : Nat := if c < 65 then c else 64
def TV (CO : Nat) (C0 M0 C M : Dat) (c : Nat) : Prop := Ch (TC CO) C0 C ∧ Ch TM M0 M ∧ TS CO c C M
theorem TS.le {CO c : Nat} {C M : Dat} (h : TS CO c C M) : c ≤ 65 := by
  rcases h with h | h
  · have := h.1; omega
  · have := h.1; omega
def TPm (a k : Nat) : Prop := (a = 207 ∧ k = 61) ∨ a = 242 ∨ a = 243
theorem tr_put {nu P CO nb h cnt bz ez : Nat} {W K : Nat → Nat} {C0 M0 C M : Dat} (hE : TE nu P CO nb h cnt bz ez W K C0 M0) {c : Nat} (hV : TV CO C0 M0 C M c) (op ar : Int32) (ho : 0 ≤ op.toInt ∧ op.toInt ≤ 15) : ∃ C' M', f_X8_emit op ar C = some C' ∧ f_X12_put op ar M = some (nn (cPl c), M') ∧ TV CO C0 M0 C' M' (cN1 c) ∧ Ch TPm M M' := by
  obtain ⟨-, ⟨h61, hCO⟩, -⟩ := hE
  obtain ⟨hC, hM, hT⟩ := hV
  have d1 : dR C 106 1 = some CO := by rw [hC.r (by unfold TC; omega)]; exact h61
  rcases hT with ⟨t1, t2, t3, t4, t5⟩ | ⟨t1, t2, t3, t4⟩
  · have p65 : ¬ (65 : Int32) ≤ nn c := fun q => by have := (nn_le (a := 65) (by omega) (by omega)).mp q; omega
    have mput : f_X12_put op ar M = some (nn c, sI (sI (sI M 242 c op) 243 c ar) 207 61 (nn (c + 1))) := by
      have e1 : dI (sI M 242 c op) 207 61 = nn c := t4
      have e2 : dI (sI (sI M 242 c op) 243 c ar) 207 61 = nn c := t4
      have e3 : dI (sI (sI (sI M 242 c op) 243 c ar) 207 61 (nn (c + 1))) 207 61 = nn (c + 1) := rfl
      unfold f_X12_put f_X12_put_b39
      rw [t4, if_neg p65, if_neg (nn_in (by omega) (by omega)), nn_nat (by omega), e1, if_neg (nn_in (by omega) (by omega)), nn_nat (by omega), e2, nn_1, e3, show nn (c + 1) - (1 : Int32) = nn c from by rw [show (1 : Int32) = nn 1 from rfl, nn_sub (by omega) (by omega)]; rfl]
    have cM : Ch TPm M (sI (sI (sI M 242 c op) 243 c ar) 207 61 (nn (c + 1))) := Ch.sI (by unfold TPm; omega) (Ch.sI (by unfold TPm; omega) (Ch.sI (by unfold TPm; omega) Ch.rf))
    have cpc : cPl c = c := by unfold cPl; rw [if_pos (by omega)]
    have c1c : cN1 c = c + 1 := by unfold cN1; rw [if_pos (by omega)]
    rw [cpc, c1c]
    by_cases hc : c < 64
    · refine ⟨sI (sI (sI C (CO + 1) c op) (CO + 2) c ar) CO 2 (nn (c + 1)), _, ?_, mput, ⟨Ch.sI (by unfold TC; omega) (Ch.sI (by unfold TC; omega) (Ch.sI (by unfold TC; omega) hC)), hM.tr (cM.mono (fun a k q => by unfold TPm at q; unfold TM; omega)), Or.inl ⟨by omega, ?_, ?_, rfl, fun k hk => ?_⟩⟩, cM⟩
      · have l64 : nn c < (64 : Int32) := (nn_lt (b := 64) (by omega) (by omega)).mpr hc
        have n64 : ¬ (64 : Int32) ≤ nn c := fun q => by have := (nn_le (a := 64) (by omega) (by omega)).mp q; omega
        have e1 : dI (sI C (CO + 1) c op) CO 2 = nn c := by rw [dI_s, if_neg (by omega)]; exact t2
        have e2 : dI (sI (sI C (CO + 1) c op) (CO + 2) c ar) CO 2 = nn c := by rw [dI_s, if_neg (by omega)]; exact e1
        unfold f_X8_emit f_X8_emit_b17 f_X0_size f_X0_add f_X0_add_b39
        rw [d1, bS, if_pos hCO, bS, t2, if_pos l64]
        show ((dR C 106 1)).bind _ = _
        rw [d1, bS, if_pos hCO]
        show (if 64 ≤ (dI C CO 2) then _ else _ : Option Dat).bind _ = _
        rw [t2, if_neg n64, if_neg (nn_in (by omega) (by omega)), nn_nat (by omega), e1, if_neg (nn_in (by omega) (by omega)), nn_nat (by omega), e2, nn_1]
        rfl
      · rw [dI_s, if_pos ⟨rfl, rfl⟩]
      · rw [dI_s, if_neg (by omega), dI_s, if_neg (by omega), dI_s, if_neg (by omega)]
        exact t3
      · have z1 : dI (sI (sI (sI C (CO + 1) c op) (CO + 2) c ar) CO 2 (nn (c + 1))) (CO + 1) k = if k = c then op else dI C (CO + 1) k := by
          rw [dI_s, if_neg (by omega), dI_s, if_neg (by omega), dI_s]
          by_cases q : k = c
          · rw [if_pos ⟨rfl, q⟩, if_pos q]
          · rw [if_neg (fun u => q u.2), if_neg q]
        have z2 : dI (sI (sI (sI C (CO + 1) c op) (CO + 2) c ar) CO 2 (nn (c + 1))) (CO + 2) k = if k = c then ar else dI C (CO + 2) k := by
          rw [dI_s, if_neg (by omega), dI_s]
          by_cases q : k = c
          · rw [if_pos ⟨rfl, q⟩, if_pos q]
          · rw [if_neg (fun u => q u.2), if_neg q, dI_s, if_neg (by omega)]
        have z3 : dI (sI (sI (sI M 242 c op) 243 c ar) 207 61 (nn (c + 1))) 242 k = if k = c then op else dI M 242 k := by
          rw [dI_s, if_neg (by omega), dI_s, if_neg (by omega), dI_s]
          by_cases q : k = c
          · rw [if_pos ⟨rfl, q⟩, if_pos q]
          · rw [if_neg (fun u => q u.2), if_neg q]
        have z4 : dI (sI (sI (sI M 242 c op) 243 c ar) 207 61 (nn (c + 1))) 243 k = if k = c then ar else dI M 243 k := by
          rw [dI_s, if_neg (by omega), dI_s]
          by_cases q : k = c
          · rw [if_pos ⟨rfl, q⟩, if_pos q]
          · rw [if_neg (fun u => q u.2), if_neg q, dI_s, if_neg (by omega)]
        rw [z1, z2, z3, z4]
        by_cases q : k = c
        · rw [if_pos q, if_pos q, if_pos q, if_pos q]
          exact ⟨rfl, rfl, ho⟩
        · rw [if_neg q, if_neg q, if_neg q, if_neg q]
          exact t5 k (by omega)
    · obtain rfl : c = 64 := by omega
      refine ⟨sI C 106 2 1, _, ?_, mput, ⟨Ch.sI (by unfold TC; omega) hC, hM.tr (cM.mono (fun a k q => by unfold TPm at q; unfold TM; omega)), Or.inr ⟨rfl, ?_, rfl, rfl⟩⟩, cM⟩
      · have e1 : dI (sI C 106 2 1) CO 2 = nn 64 := by rw [dI_s, if_neg (by omega)]; exact t2
        unfold f_X8_emit f_X8_emit_b17 f_X0_size f_X0_add f_X0_add_b39
        rw [d1, bS, if_pos hCO, bS, t2, if_neg (show ¬ nn 64 < (64 : Int32) by decide)]
        show ((dR C 106 1)).bind _ = _
        rw [d1, bS, if_pos hCO]
        show (if 64 ≤ (dI (sI C 106 2 1) CO 2) then _ else _ : Option Dat).bind _ = _
        rw [e1, if_pos (by decide)]
        rfl
      · rw [dI_s, if_neg (by omega)]
        exact t2
  · have cpc : cPl c = 64 := by unfold cPl; rw [if_neg (by omega)]
    have c1c : cN1 c = 65 := by unfold cN1; rw [if_neg (by omega)]
    rw [cpc, c1c]
    have e1 : dI (sI C 106 2 1) CO 2 = nn 64 := by rw [dI_s, if_neg (by omega)]; exact t2
    refine ⟨sI C 106 2 1, M, ?_, ?_, ⟨Ch.sI (by unfold TC; omega) hC, hM, Or.inr ⟨rfl, e1, rfl, t4⟩⟩, Ch.rf⟩
    · unfold f_X8_emit f_X8_emit_b17 f_X0_size f_X0_add f_X0_add_b39
      rw [d1, bS, if_pos hCO, bS, t2, if_neg (show ¬ nn 64 < (64 : Int32) by decide)]
      show ((dR C 106 1)).bind _ = _
      rw [d1, bS, if_pos hCO]
      show (if 64 ≤ (dI (sI C 106 2 1) CO 2) then _ else _ : Option Dat).bind _ = _
      rw [e1, if_pos (by decide)]
      rfl
    · unfold f_X12_put f_X12_put_b39
      rw [t4, if_pos (by decide)]
      rfl
