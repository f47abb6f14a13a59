/-! translation: plain statements -/
def TMx (x a k : Nat) : Prop := (a = 207 ∧ (k = 55 ∨ k = 61)) ∨ (((238 ≤ a ∧ a ≤ 240) ∨ a = 244) ∧ x ≤ k) ∨ a = 242 ∨ a = 243
theorem tmx_TM {x a k : Nat} (h : TMx x a k) : TM a k := by unfold TMx at h; unfold TM; omega
theorem tpm_TMx {x a k : Nat} (h : TPm a k) : TMx x a k := by unfold TPm at h; unfold TMx; omega
abbrev RtT := Option Nat → Int32 → Dat → Option Dat
/-- the model after k steps: at s', or done where too many were put -/
def TGo (N x c' k : Nat) (s s' : Int32) (M M' : Dat) : Prop := (c' ≤ 64 ∧ (∀ g, f_X12_translate_b20 N (g + k) s M = f_X12_translate_b20 N g s' M') ∧ dI M' 207 55 = nn x ∧ Ch (TMx x) M M') ∨ (c' = 65 ∧ ∀ g, f_X12_translate_b20 N (g + k) s M = some M')
def TSt (N nu CO nb h : Nat) (K : Nat → Nat) (C0 M0 : Dat) (rec : RtT) (B x i : Nat) (C M : Dat) : Prop := ∃ C' M' c' k, k ≤ B ∧ (∀ g, f_X8_goThrough_s_b9 rec N nu K (g + 1) (nn x) (some (nb + i)) C = f_X8_goThrough_s_b9 rec N nu K g (nn x) (dR C0 (nb + i) 9) C') ∧ TV CO C0 M0 C' M' c' ∧ TGo N x c' k (nn (64 * h + i)) (dI M0 224 (64 * h + i)) M M'
theorem tr_end {N g : Nat} {s : Int32} {M : Dat} (h61 : dI M 207 61 = nn 65) : f_X12_translate_b20 N (g + 1) s M = some M := by
  rw [f_X12_translate_b20, h61, if_pos (by decide)]
  unfold f_X12_translate_b60 f_X12_put f_X12_put_b39
  rw [h61, if_pos (by decide)]
  rfl
theorem tr_st {N m c : Nat} {M : Dat} (hm : m < 2147483648) (hc : c ≤ 64) (h61 : dI M 207 61 = nn c) (g : Nat) : f_X12_translate_b20 N (g + 1) (nn m) M = (f_X12_codeThrough N (nn m) M).bind (fun p => f_X12_translate_b20 N g p.1 p.2) := by
  rw [f_X12_translate_b20, h61, if_neg (show ¬ (65 : Int32) ≤ nn c from fun q => by have := (nn_le (a := 65) (by omega) (by omega)).mp q; omega), if_pos (show (0 : Int32) ≤ nn m from (nn_le (a := 0) (by omega) (by omega)).mpr (by omega))]
  unfold f_X12_translate_b40
  rw [if_neg (nn_nlt0 (by omega))]
  rfl
theorem tr_bk {N x c : Nat} {M : Dat} (hx : x < 300) (hc : c ≤ 64) (h61 : dI M 207 61 = nn c) (h55 : dI M 207 55 = nn (x + 1)) (g : Nat) : f_X12_translate_b20 N (g + 1) (-1) M = (f_X12_codeBack M).bind (fun p => f_X12_translate_b20 N g p.1 p.2) := by
  rw [f_X12_translate_b20, h61, if_neg (show ¬ (65 : Int32) ≤ nn c from fun q => by have := (nn_le (a := 65) (by omega) (by omega)).mp q; omega), if_neg m1_lt, h55, if_neg (show ¬ nn (x + 1) ≤ (0 : Int32) from fun q => by have := (nn_le (b := 0) (by omega) (by omega)).mp q; omega)]
  unfold f_X12_translate_b40
  rw [if_pos (by decide)]
  rfl
theorem TS.c61 {CO c : Nat} {C M : Dat} (h : TS CO c C M) : dI M 207 61 = nn c := by
  rcases h with h | h
  · exact h.2.2.2.1
  · rw [h.1]; exact h.2.2.2
theorem TS.flag {CO c : Nat} {C M : Dat} (h : TS CO c C M) (hc : c ≤ 64) : dI C 106 2 = 0 := by
  rcases h with h | h
  · exact h.2.2.1
  · have := h.1; omega
/-- the end of a step that goes forward -/
theorem tr_fin {N nu P CO nb h cnt bz ez : Nat} {W K : Nat → Nat} {C0 M0 C M C' M' : Dat} (hE : TE nu P CO nb h cnt bz ez W K C0 M0) {x c c' i : Nat} (hV : TV CO C0 M0 C M c) (hc : c ≤ 64) (h55 : dI M 207 55 = nn x) (hi : i < cnt) {rec : RtT} (Hc : ∀ g, f_X8_goThrough_s_b9 rec N nu K (g + 1) (nn x) (some (nb + i)) C = f_X8_goThrough_s_b96 rec N nu K (f_X8_goThrough_s_b9 rec N nu K g) (nn x) (some (nb + i)) C') (Hm : f_X12_codeThrough N (nn (64 * h + i)) M = f_X12_codeThrough_b254 N (nn (64 * h + i)) M') (hV' : TV CO C0 M0 C' M' c') (cM : Ch TPm M M') : TSt N nu CO nb h K C0 M0 rec 2 x i C M := by
  obtain ⟨-, ⟨h61, hCO⟩, hG, hK7, ⟨hh1, hh2⟩, hNS⟩ := id hE
  obtain ⟨-, -, -, ⟨hcnt, hbz, hez⟩, hP5⟩ := hG
  have hNSv : 266 ≤ nb := hNS
  have k7 := hK7 i hi
  have b254 : f_X12_codeThrough_b254 N (nn (64 * h + i)) M' = some (dI M0 224 (64 * h + i), M') := by
    unfold f_X12_codeThrough_b254
    rw [if_neg (nn_in (by omega) (by omega)), nn_nat (by omega), hV'.2.1.i (by unfold TM; omega)]
  have st : ∀ g, f_X12_translate_b20 N (g + 1) (nn (64 * h + i)) M = f_X12_translate_b20 N g (dI M0 224 (64 * h + i)) M' := fun g => by rw [tr_st (by omega) hc hV.2.2.c61, Hm, b254, bS]
  have cc : ∀ g, f_X8_goThrough_s_b9 rec N nu K (g + 1) (nn x) (some (nb + i)) C = f_X8_goThrough_s_b9 rec N nu K g (nn x) (dR C0 (nb + i) 9) C' := fun g => by
    rw [Hc]
    unfold f_X8_goThrough_s_b96
    rw [bS, if_pos k7, hV'.1.r (by unfold TC; omega)]
  have le := hV'.2.2.le
  by_cases q : c' ≤ 64
  · exact ⟨C', M', c', 1, by omega, cc, hV', Or.inl ⟨q, st, by rw [cM.i (by unfold TPm; omega)]; exact h55, cM.mono (fun a k q => tpm_TMx q)⟩⟩
  · refine ⟨C', M', c', 2, by omega, cc, hV', Or.inr ⟨by omega, fun g => ?_⟩⟩
    rw [show g + 2 = (g + 1) + 1 by omega, st, tr_end (by rw [hV'.2.2.c61, show c' = 65 by omega])]
