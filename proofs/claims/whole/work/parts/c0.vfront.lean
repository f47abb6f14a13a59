/-! verify: the front of both -/
theorem mg_ok {N nu sz : Nat} {o : Nat → Nat} {x : Nat → Int32} {D : Dat} (hn : nu ≤ 6) (h1 : 1 ≤ sz) (ho : ∀ i, o i ≤ 15) (hd : dI D 207 1 = nn nu) (hK : Km sz o x D) : ∀ (k g i n : Nat), i + k = n → k < g → n ≤ sz → (∀ j, j < n → fb nu sz (o j) (x j) = true) → (n = sz → f_X12_verify_b37 N g (nn i) D = if o (sz - 1) = 12 ∨ o (sz - 1) = 15 then f_X12_verify_b112 N D else some (0, sI (sI (sI D 207 7 (nn (sz - 1))) 207 8 2) 207 0 2)) ∧ (n < sz → ¬ fb nu sz (o n) (x n) = true → f_X12_verify_b37 N g (nn i) D = some (0, sI (sI (sI D 207 7 (nn n)) 207 8 1) 207 0 2)) := by
  have hz := hK.1
  intro k
  induction k with
  | zero =>
    intro g i n hi hg hns hall
    obtain ⟨g, rfl⟩ : ∃ g', g = g' + 1 := ⟨g - 1, by omega⟩
    obtain rfl : i = n := by omega
    refine ⟨fun e => ?_, fun hlt hx => ?_⟩
    · have e1 : nn sz - (1 : Int32) = nn (sz - 1) := nn_sub (a := sz) (b := 1) h1 (by omega)
      have i1 := nn_in (k := sz - 1) (n := 64) (by omega) (by omega)
      have hoo := ho (sz - 1)
      rw [f_X12_verify_b37, hK.2.1, if_pos ((nn_le (by omega) (by omega)).mpr (by omega)), e1, if_neg i1, if_neg i1, nn_nat (by omega), (hK.2.2 (sz - 1) (by omega)).1]
      by_cases c12 : o (sz - 1) = 12
      · rw [if_pos (show nn (o (sz - 1)) = (12 : Int32) by rw [c12]; rfl), if_pos (Or.inl c12)]
      · rw [if_neg (show ¬ nn (o (sz - 1)) = (12 : Int32) from ne_op (b := 12) (by omega) (by omega) c12)]
        by_cases c15 : o (sz - 1) = 15
        · rw [if_pos (show nn (o (sz - 1)) = (15 : Int32) by rw [c15]; rfl), if_pos (Or.inr c15)]
        · rw [if_neg (show ¬ nn (o (sz - 1)) = (15 : Int32) from ne_op (b := 15) (by omega) (by omega) c15), if_neg (by omega)]
          rfl
    · rw [f_X12_verify_b37, hK.2.1, if_neg (by rw [nn_le (by omega) (by omega)]; omega), goodF hn ho hd hK hlt, bS, if10, if_neg hx]
      rfl
  | succ k ih =>
    intro g i n hi hg hns hall
    obtain ⟨g, rfl⟩ : ∃ g', g = g' + 1 := ⟨g - 1, by omega⟩
    have st : f_X12_verify_b37 N (g + 1) (nn i) D = f_X12_verify_b37 N g (nn (i + 1)) D := by
      rw [f_X12_verify_b37, hK.2.1, if_neg (by rw [nn_le (by omega) (by omega)]; omega), goodF hn ho hd hK (show i < sz by omega), bS, if10, if_pos (hall i (by omega)), nn_1]
    rw [st]
    exact ih g (i + 1) n (by omega) (by omega) hns hall
def PvC (a j : Nat) : Prop := (a = 107 ∧ (j = 2 ∨ j = 3 ∨ j = 5 ∨ j = 9 ∨ j = 10 ∨ j = 11 ∨ j = 12)) ∨ (a = 108 ∧ (j = 4 ∨ j = 5)) ∨ (109 ≤ a ∧ a ≤ 114) ∨ (116 ≤ a ∧ a ≤ 180)
def PvM (a j : Nat) : Prop := (a = 207 ∧ (j = 0 ∨ j = 7 ∨ j = 8 ∨ j = 16 ∨ j = 17)) ∨ (245 ≤ a ∧ a ≤ 253)
def Pv (a j : Nat) : Prop := Pr a j ∨ PvC a j ∨ PvM a j ∨ (a = 0 ∧ (j = 13 ∨ j = 14 ∨ j = 15))
/-- the class, refused -/
theorem vf_no {N nu c : Nat} {K : Nat → Nat} {D D1 : Dat} (hc : c = 201 ∨ c = 204) (h10 : dR D 0 10 = some c) (hs : dI D 1 2 = 1) (hz : ¬ dI D c 2 = 0) (ha : f_X9_accepts N nu K (some c) 190 D = some (0, D1)) : f_L_verify N nu K D = some (2, sI (sI (sI D1 0 13 0) 0 14 (dI D1 107 11)) 0 15 (dI D1 107 12)) := by
  have eS : f_X2_isSealed D = some (1, D) := by rw [sealed_e (by rw [hs]; exact Or.inr rfl), hs]
  unfold f_L_verify f_X11_verify f_X0_size
  rw [eS, bS]
  simp only [n10, reduceIte]
  rw [h10, bS, if_pos hc, bS]
  dsimp only
  rw [if_neg hz, h10, ha, bS]
  dsimp only
  rw [if_pos b0_1]
  have e : dI (sI D1 0 13 0) 0 13 = 0 := by rw [dI_s, if_pos ⟨rfl, rfl⟩]
  rw [if_pos e]
  unfold f_X9_place f_X9_kind f_X11_tell
  rw [bS, bS, bS, bS]
  rfl
theorem vf_yes {N nu c : Nat} {K : Nat → Nat} {D D1 : Dat} (hc : c = 201 ∨ c = 204) (h10 : dR D 0 10 = some c) (hs : dI D 1 2 = 1) (hz : ¬ dI D c 2 = 0) (ha : f_X9_accepts N nu K (some c) 190 D = some (1, D1)) : f_L_verify N nu K D = some (0, sL (sI (sI (sI D1 0 13 1) 0 14 (-1)) 0 15 (-1)) 262 (0 : Int32).toNatClampNeg (bcl (dL D1 107 5)).toInt64) := by
  have eS : f_X2_isSealed D = some (1, D) := by rw [sealed_e (by rw [hs]; exact Or.inr rfl), hs]
  unfold f_L_verify f_X11_verify f_X0_size
  rw [eS, bS]
  simp only [n10, reduceIte]
  rw [h10, bS, if_pos hc, bS]
  dsimp only
  rw [if_neg hz, h10, ha, bS]
  dsimp only
  rw [if_pos b1_1]
  have e : ¬ dI (sI D1 0 13 1) 0 13 = 0 := by rw [dI_s, if_pos ⟨rfl, rfl⟩]; decide
  rw [if_neg e]
  unfold f_X9_heights f_X11_tell
  rw [bS, e_bcl, bS, bS, bS]
  rfl
/-- both refused -/
theorem vf_fail {N nu n c : Nat} {K : Nat → Nat} {D D1 E : Dat} {p k mp : Int32} (a1 a2 a3 : Int32) (hS : IS nu D) (hc : c = 201 ∨ c = 204) (h10 : dR D 0 10 = some c) (hs : dI D 1 2 = 1) (hz : ¬ dI D c 2 = 0) (ha : f_X9_accepts N nu K (some c) 190 D = some (0, D1)) (hc1 : Ch PvC D D1) (hp : dI D1 107 11 = p) (hk : dI D1 107 12 = k) (hm : dI D1 107 10 = mp) (hmp : b01 mp)
    (hM : f_X12_verify N (sI (sI (sI D1 0 13 0) 0 14 p) 0 15 k) = some (0, E)) (hcE : Ch PvM (sI (sI (sI D1 0 13 0) 0 14 p) 0 15 k) E) (e7 : dI E 207 7 = p) (e8 : dI E 207 8 = k) (e0 : dI E 207 0 = 2) (e16 : dI E 207 16 = 0) (e17 : dI E 207 17 = mp) :
    stp_8 N nu n K D a1 a2 a3 = some (K, E) ∧ Ch Pv D E ∧ IS nu E := by
  have eL := vf_no (N := N) (nu := nu) (K := K) hc h10 hs hz ha
  rw [hp, hk] at eL
  have c2 : Ch (fun a j => a = 0 ∧ (j = 13 ∨ j = 14 ∨ j = 15)) D1 (sI (sI (sI D1 0 13 0) 0 14 p) 0 15 k) := Ch.sI (by omega) (Ch.sI (by omega) (Ch.sI (by omega) Ch.rf))
  have v13 : dI (sI (sI (sI D1 0 13 0) 0 14 p) 0 15 k) 0 13 = 0 := by rw [dI_s, if_neg (by omega), dI_s, if_neg (by omega), dI_s, if_pos ⟨rfl, rfl⟩]
  have v14 : dI (sI (sI (sI D1 0 13 0) 0 14 p) 0 15 k) 0 14 = p := by rw [dI_s, if_neg (by omega), dI_s, if_pos ⟨rfl, rfl⟩]
  have v15 : dI (sI (sI (sI D1 0 13 0) 0 14 p) 0 15 k) 0 15 = k := by rw [dI_s, if_pos ⟨rfl, rfl⟩]
  generalize sI (sI (sI D1 0 13 0) 0 14 p) 0 15 k = D2 at eL hM hcE c2 v13 v14 v15
  have cD : Ch Pv D E := (hc1.mono (Q := Pv) (fun a j w => Or.inr (Or.inl w))).tr ((c2.mono (Q := Pv) (fun a j w => Or.inr (Or.inr (Or.inr w)))).tr (hcE.mono (Q := Pv) (fun a j w => Or.inr (Or.inr (Or.inl w)))))
  refine ⟨?_, cD, ?_⟩
  · unfold stp_8
    exact stp_ok eL hM e0 (fun h => absurd h (by decide))
  · obtain ⟨g1, ⟨g2, g3⟩, -, -, ⟨g4, g5⟩, -, g6, g7⟩ := hS
    have w : ∀ a j, ¬ Pv a j → dI E a j = dI D a j := fun a j h => cD.i h
    refine ⟨g1, ⟨?_, ?_⟩, ⟨?_, ?_⟩, ⟨?_, ?_⟩, ⟨?_, ?_⟩, ⟨?_, ?_⟩, ?_, ?_⟩
    · rw [w 1 0 (by unfold Pv Pr PvC PvM; omega)]; exact g2
    · rw [w 207 1 (by unfold Pv Pr PvC PvM; omega)]; exact g3
    · rw [hcE.i (by unfold PvM; omega), v14, e7]
    · rw [hcE.i (by unfold PvM; omega), v15, e8]
    · rw [hcE.i (by unfold PvM; omega), v13, e16]
    · rw [e16]; exact Or.inl rfl
    · rw [w 0 12 (by unfold Pv Pr PvC PvM; omega), w 207 18 (by unfold Pv Pr PvC PvM; omega)]; exact g4
    · rw [w 207 18 (by unfold Pv Pr PvC PvM; omega)]; exact g5
    · rw [hcE.i (by unfold PvM; omega), c2.i (by omega), hm, e17]
    · rw [e17]; exact hmp
    · rw [w 1 2 (by unfold Pv Pr PvC PvM; omega), w 207 5 (by unfold Pv Pr PvC PvM; omega)]; exact g6
    · rw [w 207 5 (by unfold Pv Pr PvC PvM; omega)]; exact g7
/-- both accepted -/
theorem vf_fine {N nu n c cn : Nat} {K : Nat → Nat} {D D1 E : Dat} (a1 a2 a3 : Int32) (hS : IS nu D) (hc : c = 201 ∨ c = 204) (h10 : dR D 0 10 = some c) (hs : dI D 1 2 = 1) (hz : ¬ dI D c 2 = 0) (ha : f_X9_accepts N nu K (some c) 190 D = some (1, D1)) (hc1 : Ch PvC D D1) (hm : dI D1 107 10 = 1) (hcn : bcl (dL D1 107 5) = nn cn)
    (hM : f_X12_verify N (sL (sI (sI (sI D1 0 13 1) 0 14 (-1)) 0 15 (-1)) 262 (0 : Int32).toNatClampNeg (nn cn).toInt64) = some (nn cn, E)) (hcE : Ch PvM (sL (sI (sI (sI D1 0 13 1) 0 14 (-1)) 0 15 (-1)) 262 (0 : Int32).toNatClampNeg (nn cn).toInt64) E) (e7 : dI E 207 7 = -1) (e8 : dI E 207 8 = -1) (e0 : dI E 207 0 = 0) (e16 : dI E 207 16 = 1) (e17 : dI E 207 17 = 1) :
    stp_8 N nu n K D a1 a2 a3 = some (K, E) ∧ Ch Pv D E ∧ IS nu E := by
  have eL := vf_yes (N := N) (nu := nu) (K := K) hc h10 hs hz ha
  rw [hcn] at eL
  have c2 : Ch (fun a j => a = 262 ∨ (a = 0 ∧ (j = 13 ∨ j = 14 ∨ j = 15))) D1 (sL (sI (sI (sI D1 0 13 1) 0 14 (-1)) 0 15 (-1)) 262 (0 : Int32).toNatClampNeg (nn cn).toInt64) := Ch.sL (by omega) (Ch.sI (by omega) (Ch.sI (by omega) (Ch.sI (by omega) Ch.rf)))
  have v13 : dI (sL (sI (sI (sI D1 0 13 1) 0 14 (-1)) 0 15 (-1)) 262 (0 : Int32).toNatClampNeg (nn cn).toInt64) 0 13 = 1 := by rw [dI_sL, dI_s, if_neg (by omega), dI_s, if_neg (by omega), dI_s, if_pos ⟨rfl, rfl⟩]
  have v14 : dI (sL (sI (sI (sI D1 0 13 1) 0 14 (-1)) 0 15 (-1)) 262 (0 : Int32).toNatClampNeg (nn cn).toInt64) 0 14 = -1 := by rw [dI_sL, dI_s, if_neg (by omega), dI_s, if_pos ⟨rfl, rfl⟩]
  have v15 : dI (sL (sI (sI (sI D1 0 13 1) 0 14 (-1)) 0 15 (-1)) 262 (0 : Int32).toNatClampNeg (nn cn).toInt64) 0 15 = -1 := by rw [dI_sL, dI_s, if_pos ⟨rfl, rfl⟩]
  have vL : dL (sL (sI (sI (sI D1 0 13 1) 0 14 (-1)) 0 15 (-1)) 262 (0 : Int32).toNatClampNeg (nn cn).toInt64) 262 (0 : Int32).toNatClampNeg = (nn cn).toInt64 := fin_b
  generalize sL (sI (sI (sI D1 0 13 1) 0 14 (-1)) 0 15 (-1)) 262 (0 : Int32).toNatClampNeg (nn cn).toInt64 = D2 at eL hM hcE c2 v13 v14 v15 vL
  have cD : Ch Pv D E := (hc1.mono (Q := Pv) (fun a j w => Or.inr (Or.inl w))).tr ((c2.mono (Q := Pv) (fun a j w => w.elim (fun v => Or.inl (Or.inl v)) (fun v => Or.inr (Or.inr (Or.inr v))))).tr (hcE.mono (Q := Pv) (fun a j w => Or.inr (Or.inr (Or.inl w)))))
  refine ⟨?_, cD, ?_⟩
  · unfold stp_8
    exact stp_ok eL hM e0 (fun _ => by rw [hcE.l (by unfold PvM; omega)]; exact vL)
  · obtain ⟨g1, ⟨g2, g3⟩, -, -, ⟨g4, g5⟩, -, g6, g7⟩ := hS
    have w : ∀ a j, ¬ Pv a j → dI E a j = dI D a j := fun a j h => cD.i h
    refine ⟨g1, ⟨?_, ?_⟩, ⟨?_, ?_⟩, ⟨?_, ?_⟩, ⟨?_, ?_⟩, ⟨?_, ?_⟩, ?_, ?_⟩
    · rw [w 1 0 (by unfold Pv Pr PvC PvM; omega)]; exact g2
    · rw [w 207 1 (by unfold Pv Pr PvC PvM; omega)]; exact g3
    · rw [hcE.i (by unfold PvM; omega), v14, e7]
    · rw [hcE.i (by unfold PvM; omega), v15, e8]
    · rw [hcE.i (by unfold PvM; omega), v13, e16]
    · rw [e16]; exact Or.inr rfl
    · rw [w 0 12 (by unfold Pv Pr PvC PvM; omega), w 207 18 (by unfold Pv Pr PvC PvM; omega)]; exact g4
    · rw [w 207 18 (by unfold Pv Pr PvC PvM; omega)]; exact g5
    · rw [hcE.i (by unfold PvM; omega), c2.i (by omega), hm, e17]
    · rw [e17]; exact Or.inr rfl
    · rw [w 1 2 (by unfold Pv Pr PvC PvM; omega), w 207 5 (by unfold Pv Pr PvC PvM; omega)]; exact g6
    · rw [w 207 5 (by unfold Pv Pr PvC PvM; omega)]; exact g7
