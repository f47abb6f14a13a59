/-! a compiled program: what it rests on, the class's and the model's way to it -/
theorem PG.mv {nu P nb h cnt bz ez : Nat} {W : Nat → Nat} {C M C' M' : Dat} (hG : PG nu P nb h cnt bz ez W C M) (hC : ∀ a k, (P ≤ a ∧ a ≤ P + 4) ∨ (nb ≤ a ∧ a < nb + cnt) → dI C' a k = dI C a k ∧ dR C' a k = dR C a k) (hM : ∀ a k, HC h a k ∨ a = 229 → dI M' a k = dI M a k) : PG nu P nb h cnt bz ez W C' M' := by
  obtain ⟨g1, ⟨g2, g3⟩, g4, ⟨g5, g6, g7⟩, g8⟩ := hG
  have hk : Kp P nb h cnt bz ez C M C' M' := by
    refine ⟨fun i k _ _ => (hC _ _ (by omega)).1, fun i k _ _ => (hC _ _ (by omega)).2, fun x => (hC _ _ (by omega)).2, fun i _ => ⟨(hC _ _ (by omega)).1, (hC _ _ (by omega)).1⟩, fun k h1 h2 => ⟨hM _ _ (by unfold HC; omega), hM _ _ (by unfold HC; omega)⟩, fun x hx => ?_⟩
    rw [hM 229 x (Or.inr rfl)]
    exact ⟨id, id, id, id⟩
  refine ⟨fun i hi => ⟨Fs.kp hk hi (Nat.le_refl _) ⟨Nat.le_refl _, Nat.le_refl _⟩ (fun a h1 h2 => hM _ _ (by unfold HC; omega)) (g1 i hi).1, ?_, ?_⟩, ⟨?_, fun i' q => ?_⟩, fun x hx q => ?_, ⟨g5, g6, g7⟩, ?_⟩
  · have := (g1 i hi).2.1
    unfold Nx at this ⊢
    rw [(hC (nb + i) 9 (by omega)).2, hM 224 (64 * h + i) (by unfold HC; omega)]
    exact this
  · obtain ⟨⟨w1, w2⟩, w3⟩ := (g1 i hi).2.2
    refine ⟨⟨fun i' q => w1 i' ?_, fun q x hx q2 i' q3 => w2 ?_ x hx ?_ i' ?_⟩, fun i' q => w3 i' ?_⟩
    · rw [(hC (nb + i) 6 (by omega)).2, (hC (nb + i) 7 (by omega)).2] at q; exact q
    · rw [(hC (nb + i) 0 (by omega)).1] at q; exact q
    · rw [(hC (nb + i) 2 (by omega)).1] at q2; exact q2
    · rw [(hC (P + 1) x (by omega)).2] at q3; exact q3
    · rw [(hC (nb + i) 9 (by omega)).2] at q; exact q
  · rw [(hC P 0 (by omega)).2, hM 228 h (by unfold HC; omega)]; exact g2
  · rw [(hC P 0 (by omega)).2] at q; exact g3 i' q
  · rw [hM 229 x (Or.inr rfl)] at q
    rw [(hC (P + 1) x (by omega)).2, hM 227 (26 * h + x) (by unfold HC; omega)]
    exact g4 x hx q
  · rw [(hC P 5 (by omega)).1]; exact g8
theorem Ro.mv {nu P : Nat} {C M C' M' : Dat} (hR : Ro nu P C M) (hC : ∀ a k, a = 5 ∨ a = P + 2 → dI C' a k = dI C a k) (hM : ∀ a k, a = 229 ∨ a = 230 → dI M' a k = dI M a k) : Ro nu P C' M' := fun x hx => by
  rw [hC 5 x (Or.inl rfl), hC (P + 2) x (Or.inr rfl), hC (P + 2) (26 + x) (Or.inr rfl), hM 229 x (Or.inl rfl), hM 230 x (Or.inr rfl)]
  exact hR x hx
/-! the class -/
def cpU (N nu : Nat) (K : Nat → Nat) (D : Dat) : Option (Sum Nat Int32 × (Nat → Nat) × Dat) := (f_X8_fits N nu K (dR D 0 9) (dR D 0 11) D).bind (fun p9 => if p9.1 = 0 then (f_X11_tell 64 10 p9.2).bind (fun p10 => some (.inl 3, K, p10)) else (f_X11_tell (-1) (-1) p9.2).bind (fun p11 => (f_X11_takeSpare nu K p11).bind (fun p12 => (dR p12 0 10).bind (fun a => if a = 201 ∨ a = 204 then (f_X0_size a p12).bind (fun p13 => some (.inr p13.1, K, p13.2)) else none))))
def cpT (N nu : Nat) (K : Nat → Nat) (D : Dat) : Option (Sum Nat Int32 × (Nat → Nat) × Dat) := (f_X11_canFlow N nu K D).bind (fun p6 => if p6.1 = 0 then (f_X1_place p6.2).bind (fun p7 => (f_X11_tell p7.1 9 p7.2).bind (fun p8 => some (.inl 2, K, p8))) else cpU N nu K p6.2)
theorem cpC_0 {N nu n : Nat} {K : Nat → Nat} {C : Dat} (h12 : dI C 1 2 = 0) : f_X11_compile N nu n K C = some (.inl 1, K, C) := by
  unfold f_X11_compile f_X2_isSealed
  rw [h12, if_pos (show (0 : Int32) &&& 1 = 0 by decide), bS]
  exact if_pos rfl
theorem cpC_bad {N nu n P : Nat} {K : Nat → Nat} {C C1 : Dat} {S : Sr} (h12 : dI C 1 2 = 1) (h9 : dR C 0 9 = some P) (hr : f_X5_read N nu (some P) (n, K, 9100, 111000) C = some (.inl 4, S, C1)) : f_X11_compile N nu n K C = some (.inl 4, S.2.1, sI (sI (sI C1 3 2 0) 0 14 (dI C1 3 7)) 0 15 8) := by
  have hc : f_X11_canRead N nu n K 9100 111000 C = some (0, S.2.1, C1) := by
    unfold f_X11_canRead
    rw [h9, hr, bS]
    exact if_pos rfl
  unfold f_X11_compile f_X2_isSealed
  rw [h12, if_pos (show (1 : Int32) &&& 1 = 1 by decide), bS]
  refine (if_neg (show ¬ (1 : Int32) = 0 by decide)).trans ?_
  show (f_X11_canRead N nu n K 9100 111000 C).bind _ = _
  rw [hc, bS]
  unfold f_X5_forget
  rw [bS]
  exact if_pos rfl
theorem cpC_ok {N nu n P : Nat} {K : Nat → Nat} {C C1 : Dat} {S : Sr} (h12 : dI C 1 2 = 1) (h9 : dR C 0 9 = some P) (hr : f_X5_read N nu (some P) (n, K, 9100, 111000) C = some (.inr (), S, C1)) : f_X11_compile N nu n K C = cpT N nu S.2.1 (sI C1 3 2 0) := by
  have hc : f_X11_canRead N nu n K 9100 111000 C = some (1, S.2.1, C1) := by
    unfold f_X11_canRead
    rw [h9, hr, bS]
  unfold f_X11_compile f_X2_isSealed
  rw [h12, if_pos (show (1 : Int32) &&& 1 = 1 by decide), bS]
  refine (if_neg (show ¬ (1 : Int32) = 0 by decide)).trans ?_
  show (f_X11_canRead N nu n K 9100 111000 C).bind _ = _
  rw [hc, bS]
  unfold f_X5_forget
  rw [bS]
  exact if_neg (show ¬ (1 : Int32) = 0 by decide)
theorem cpT_bad {N nu : Nat} {K : Nat → Nat} {C C1 : Dat} (hk : f_X1_check_b7 N nu K N 0 (sR C 6 1 (dR C 0 9)) = some (.inl 2, C1)) : cpT N nu K C = some (.inl 2, K, sI (sI C1 0 14 (dI C1 6 5)) 0 15 9) := by
  have hc : f_X11_canFlow N nu K C = some (0, C1) := by
    unfold f_X11_canFlow f_X1_check
    rw [hk, bS]
    exact if_pos rfl
  unfold cpT
  rw [hc, bS]
  exact if_pos rfl
theorem cpT_ok {N nu : Nat} {K : Nat → Nat} {C C1 : Dat} (hk : f_X1_check_b7 N nu K N 0 (sR C 6 1 (dR C 0 9)) = some (.inr (), C1)) : cpT N nu K C = cpU N nu K C1 := by
  have hc : f_X11_canFlow N nu K C = some (1, C1) := by
    unfold f_X11_canFlow f_X1_check
    rw [hk, bS]
  unfold cpT
  rw [hc, bS]
  exact if_neg (show ¬ (1 : Int32) = 0 by decide)
/-- where the translation begins -/
def trB (P CO : Nat) (C : Dat) : Dat := sI (sI (sR (sR C 106 0 (some P)) 106 1 (some CO)) CO 2 0) 106 2 0
theorem cp_fits {N nu P CO : Nat} {K : Nat → Nat} {C C1 : Dat} {v : Int32} (hP : P = 191 ∨ P = 196) (hCO : CO = 201 ∨ CO = 204) (hr : (f_X8_goThrough N nu K 50 (dR (trB P CO C) P 0) 0 (trB P CO C)).bind (fun p => f_X8_emit 15 0 p) = some C1) (hv : dI C1 106 2 = v) (h01 : (v = 0 ∨ v = 1)) : f_X8_fits N nu K (some P) (some CO) C = some (if v = 0 then 1 else 0, C1) := by
  have e1 : dR (sR (sR C 106 0 (some P)) 106 1 (some CO)) 106 1 = some CO := by rw [dR_s, if_pos ⟨rfl, rfl⟩]
  have e0 : dR (trB P CO C) 106 0 = some P := by
    unfold trB
    rw [dR_sI, dR_sI, dR_s, if_neg (by omega), dR_s, if_pos ⟨rfl, rfl⟩]
  unfold f_X8_fits f_X0_empty f_X8_fits_b53
  rw [e1, bS, if_pos hCO, bS]
  show ((dR (trB P CO C) 106 0)).bind _ = _
  rw [e0, bS, if_pos hP]
  show (f_X8_goThrough N nu K 50 (dR (trB P CO C) P 0) 0 (trB P CO C)).bind _ = _
  obtain ⟨C2, g1, g2⟩ := bind_some hr
  rw [g1, bS, g2, bS, hv]
  rcases h01 with rfl | rfl
  · rfl
  · rfl
theorem cp_take {nu P P' CO c : Nat} {K : Nat → Nat} {C : Dat} (hP : P = 191 ∨ P = 196) (h8 : dR C 0 8 = some P') (h9 : dR C 0 9 = some P) (h10 : dR C 0 10 = some c) (h11 : dR C 0 11 = some CO) : ∃ C', f_X11_takeSpare nu K C = some C' ∧ Ch (fun a k => (a = 0 ∧ 8 ≤ k ∧ k ≤ 13) ∨ a = 190 ∨ (a = 107 ∧ k = 10)) C C' ∧ (dR C' 0 8 = some P ∧ dR C' 0 9 = some P' ∧ dR C' 0 10 = some CO ∧ dR C' 0 11 = some c) ∧ (∀ k, k < 52 → dI C' 190 k = dI C (P + 2) k) ∧ dI C' 0 12 = 1 ∧ dI C' 0 13 = 0 ∧ dI C' 107 10 = 0 := by
  have k190 : kd K 190 = 14 := kd_lt (by decide) rfl
  have n190 : nl nu 190 = 52 := rfl
  have f8 : dR (sR (sR C 0 8 (some P)) 0 9 (some P')) 0 11 = some CO := by rw [dR_s, if_neg (by omega), dR_s, if_neg (by omega)]; exact h11
  have f9 : dR (sR (sR C 0 8 (some P)) 0 9 (some P')) 0 10 = some c := by rw [dR_s, if_neg (by omega), dR_s, if_neg (by omega)]; exact h10
  have eT : dR (sR (sR (sR (sR C 0 8 (some P)) 0 9 (some P')) 0 10 (some CO)) 0 11 (some c)) 0 8 = some P := by rw [dR_s, if_neg (by omega), dR_s, if_neg (by omega), dR_s, if_neg (by omega), dR_s, if_pos ⟨rfl, rfl⟩]
  unfold f_X11_takeSpare
  rw [h8, h9, f8, f9, eT, bS, if_pos hP]
  have t1 : dR (sR (sR (sR (sR C 0 8 (some P)) 0 9 (some P')) 0 10 (some CO)) 0 11 (some c)) 0 9 = some P' := by rw [dR_s, if_neg (by omega), dR_s, if_neg (by omega), dR_s, if_pos ⟨rfl, rfl⟩]
  have t2 : dR (sR (sR (sR (sR C 0 8 (some P)) 0 9 (some P')) 0 10 (some CO)) 0 11 (some c)) 0 10 = some CO := by rw [dR_s, if_neg (by omega), dR_s, if_pos ⟨rfl, rfl⟩]
  have t3 : dR (sR (sR (sR (sR C 0 8 (some P)) 0 9 (some P')) 0 10 (some CO)) 0 11 (some c)) 0 11 = some c := by rw [dR_s, if_pos ⟨rfl, rfl⟩]
  have cT : Ch (fun a k => (a = 0 ∧ 8 ≤ k ∧ k ≤ 13) ∨ a = 190 ∨ (a = 107 ∧ k = 10)) C (sR (sR (sR (sR C 0 8 (some P)) 0 9 (some P')) 0 10 (some CO)) 0 11 (some c)) := Ch.sR (by omega) (Ch.sR (by omega) (Ch.sR (by omega) (Ch.sR (by omega) Ch.rf)))
  have iT : ∀ a k, dI (sR (sR (sR (sR C 0 8 (some P)) 0 9 (some P')) 0 10 (some CO)) 0 11 (some c)) a k = dI C a k := fun a k => rfl
  generalize sR (sR (sR (sR C 0 8 (some P)) 0 9 (some P')) 0 10 (some CO)) 0 11 (some c) = T at *
  have cm : f_X4_copyMarks nu K P 190 T = some (sC T (P + 2) 190 0 0 52) := by
    unfold f_X4_copyMarks
    rw [n190, if_pos k190, if_pos k190, if_pos (by decide)]
    rfl
  refine ⟨sI (sI (sI (sI (sC T (P + 2) 190 0 0 52) 0 12 0) 0 13 0) 107 10 0) 0 12 1, ?_, Ch.sI (by omega) (Ch.sI (by omega) (Ch.sI (by omega) (Ch.sI (by omega) (Ch.sC (fun k => by omega) cT)))), ⟨eT, t1, t2, t3⟩, fun k hk => ?_, ?_, ?_, ?_⟩
  · rw [cm, bS]
    unfold f_X11_forgetFindings f_X9_forget
    rw [bS, bS]
  · rw [dI_s, if_neg (by omega), dI_s, if_neg (by omega), dI_s, if_neg (by omega), dI_s, if_neg (by omega), dI_C, if_pos ⟨rfl, by omega, by omega⟩, iT]
    congr 1
    omega
  · rw [dI_s, if_pos ⟨rfl, rfl⟩]
  · rw [dI_s, if_neg (by omega), dI_s, if_neg (by omega), dI_s, if_pos ⟨rfl, rfl⟩]
  · rw [dI_s, if_neg (by omega), dI_s, if_pos ⟨rfl, rfl⟩]
theorem cpU_long {N nu P CO : Nat} {K : Nat → Nat} {C C1 : Dat} (h9 : dR C 0 9 = some P) (h11 : dR C 0 11 = some CO) (hf : f_X8_fits N nu K (some P) (some CO) C = some (0, C1)) : cpU N nu K C = some (.inl 3, K, sI (sI C1 0 14 64) 0 15 10) := by
  unfold cpU
  rw [h9, h11, hf, bS]
  exact if_pos rfl
theorem cpU_ok {N nu P CO : Nat} {K : Nat → Nat} {C C1 C2 : Dat} (h9 : dR C 0 9 = some P) (h11 : dR C 0 11 = some CO) (hf : f_X8_fits N nu K (some P) (some CO) C = some (1, C1)) (ht : f_X11_takeSpare nu K (sI (sI C1 0 14 (-1)) 0 15 (-1)) = some C2) (h10 : dR C2 0 10 = some CO) (hCO : CO = 201 ∨ CO = 204) : cpU N nu K C = some (.inr (dI C2 CO 2), K, C2) := by
  unfold cpU
  rw [h9, h11, hf, bS]
  refine (if_neg (show ¬ (1 : Int32) = 0 by decide)).trans ?_
  unfold f_X11_tell
  rw [bS, ht, bS, h10, bS, if_pos hCO]
  rfl
