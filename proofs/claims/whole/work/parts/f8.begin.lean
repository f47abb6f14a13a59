/-! the beginning of a reading -/
theorem zr_emp {N nu P : Nat} {K : Nat → Nat} (hN : 1000 ≤ N) (hP : P = 191 ∨ P = 196) : ∀ (r g i : Nat) (C : Dat), i + r = 26 → r < g → (∀ x, x < i → dR C (P + 1) x = none) → ∃ C1, f_X4_empty_b12 N nu K P g (nn i) C = some C1 ∧ Ch (fun a k => a = P + 1 ∨ a = P + 2) C C1 ∧ (∀ x, x < 26 → dR C1 (P + 1) x = none) ∧ ∀ k, k < 52 → dI C1 (P + 2) k = -1 := by
  intro r
  induction r with
  | zero =>
    intro g i C hi hg hx
    obtain ⟨g, rfl⟩ : ∃ g', g = g' + 1 := ⟨g - 1, by omega⟩
    obtain rfl : i = 26 := by omega
    have hk : kd K (P + 2) = 14 := by rcases hP with h | h <;> subst h <;> exact kd_lt (by decide) rfl
    have hn : nl nu (P + 2) = 52 := by rcases hP with h | h <;> subst h <;> rfl
    refine ⟨sF C (P + 2) 0 52 (-1), ?_, Ch.sF (fun k => by omega) Ch.rf, fun x hx' => by rw [dR_F]; exact hx x hx', fun k hk' => by rw [dI_F, if_pos (by omega)]⟩
    rw [f_X4_empty_b12, if_pos (show (26 : Int32) ≤ nn 26 by decide), fill_e hk hn (by omega) (by omega), bS]
  | succ r ih =>
    intro g i C hi hg hx
    obtain ⟨g, rfl⟩ : ∃ g', g = g' + 1 := ⟨g - 1, by omega⟩
    rw [f_X4_empty_b12, if_neg (show ¬ (26 : Int32) ≤ nn i from fun w => by have := (nn_le (a := 26) (by omega) (by omega)).mp w; omega), if_neg (nn_in (k := i) (n := 26) (by omega) (by omega)), nn_1, nn_nat (by omega)]
    obtain ⟨C1, a1, a2, a3⟩ := ih g (i + 1) (sR C (P + 1) i none) (by omega) (by omega) (fun x hx' => by
      rw [dR_s]
      by_cases e : x = i
      · rw [if_pos ⟨rfl, e⟩]
      · rw [if_neg (fun w => e w.2)]; exact hx x (by omega))
    exact ⟨C1, a1, (Ch.sR (by omega) Ch.rf).tr a2, a3⟩
theorem zr_74 {N : Nat} : ∀ (r g i : Nat) (M : Dat), i + r = 26 → r < g → f_X12_parse_b74 N g (nn i) M = (f_X12_next N (sI (sI (sI (sF M 229 i 26 0) 207 44 1) 231 (0 : Int32).toNatClampNeg 0) 233 (0 : Int32).toNatClampNeg (-1))).bind (fun p19 => f_X12_parse_b118 N N 0 p19) := by
  intro r
  induction r with
  | zero =>
    intro g i M hi hg
    obtain ⟨g, rfl⟩ : ∃ g', g = g' + 1 := ⟨g - 1, by omega⟩
    obtain rfl : i = 26 := by omega
    rw [f_X12_parse_b74, if_pos (show (26 : Int32) ≤ nn 26 by decide), sF_end]
  | succ r ih =>
    intro g i M hi hg
    obtain ⟨g, rfl⟩ : ∃ g', g = g' + 1 := ⟨g - 1, by omega⟩
    rw [f_X12_parse_b74, if_neg (show ¬ (26 : Int32) ≤ nn i from fun w => by have := (nn_le (a := 26) (by omega) (by omega)).mp w; omega), if_neg (nn_in (k := i) (n := 26) (by omega) (by omega)), nn_1, nn_nat (by omega), ih g (i + 1) _ (by omega) (by omega), sF_step _ _ _ _ _ (by omega)]
def DCt (P nb a k : Nat) : Prop := DC P nb a k ∨ (a = 3 ∧ k = 13) ∨ (263 ≤ a ∧ a ≤ 265)
def QlB (a k : Nat) : Prop := (a = 3 ∧ 6 ≤ k ∧ (k ≤ 9 ∨ k = 13)) ∨ (263 ≤ a ∧ a ≤ 265)
theorem zr_read {N nu len P n h : Nat} {tx : Nat → Nat} {K : Nat → Nat} (hN : 1000 ≤ N) (hP : P = 191 ∨ P = 196) (hn : NS ≤ n) (hh : h ≤ 1) (hnu : nu ≤ 6) {C M : Dat} (hC : TxC len tx C) (hM : TxM len tx M) (h1 : dI C 1 0 = nn nu) (h2 : dI M 207 1 = nn nu) (hp : (dI M 207 18 = 0 ∧ dI M 207 19 = nn h) ∨ (dI M 207 18 = 1 ∧ dI M 207 19 = nn (1 - h))) : (∃ S' C' M' q, f_X5_read N nu (some P) (n, K, 9100, 111000) C = some (.inl 4, S', C') ∧ f_X12_parse N M = some M' ∧ (∀ a, a < n → S'.2.1 a = K a) ∧ (dI C' 3 7 = nn q ∧ dI M' 207 40 = nn q ∧ q ≤ 240) ∧ Ch (DCt P n) C C' ∧ Ch (DM h) M M') ∨ (∃ S' C' M' cnt bz ez W', f_X5_read N nu (some P) (n, K, 9100, 111000) C = some (.inr (), S', C') ∧ f_X12_parse N M = some M' ∧ (∀ a, a < n → S'.2.1 a = K a) ∧ (∀ i, i < cnt → S'.2.1 (n + i) = 7) ∧ dI M' 207 40 = -1 ∧ dI M' 207 35 = nn h ∧ Ch (DCt P n) C C' ∧ Ch (DM h) M M' ∧ PG nu P n h cnt bz ez W' C' M' ∧ Ro nu P C' M') := by
  have hn' : 266 ≤ n := hn
  have hl := hC.1
  -- the class
  have c0 : Ch (fun a k => (a = 3 ∧ k = 4) ∨ (a = P ∧ (k = 5 ∨ k = 0))) C (sR (sI (sR C 3 4 (some P)) P 5 0) P 0 none) := Ch.sR (by omega) (Ch.sI (by omega) (Ch.sR (by omega) Ch.rf))
  have z34 : dR (sR (sI (sR C 3 4 (some P)) P 5 0) P 0 none) 3 4 = some P := by
    rw [dR_s, if_neg (by omega)]
    show dR (sR C 3 4 (some P)) 3 4 = some P
    rw [dR_s, if_pos ⟨rfl, rfl⟩]
  have z5 : dI (sR (sI (sR C 3 4 (some P)) P 5 0) P 0 none) P 5 = 0 := by
    show dI (sI (sR C 3 4 (some P)) P 5 0) P 5 = 0
    rw [dI_s, if_pos ⟨rfl, rfl⟩]
  obtain ⟨C1, a1, a2, a3, a4⟩ := zr_emp (N := N) (nu := nu) (K := K) hN hP 26 N 0 (sR (sI (sR C 3 4 (some P)) P 5 0) P 0 none) (by omega) (by omega) (fun x hx => absurd hx (by omega))
  have f5 := fill_e (N := N) (nu := nu) (K := K) (a := 5) (n := 26) (v := 0) (kd_lt (by decide) rfl) rfl (by omega) (by omega) C1
  have c2 : Ch (fun a k => a = 5 ∨ (a = 3 ∧ k = 5)) C1 (sI (sF C1 5 0 26 0) 3 5 0) := Ch.sI (by omega) (Ch.sF (fun k => by omega) Ch.rf)
  have y5 : ∀ x, x < 26 → dI (sI (sF C1 5 0 26 0) 3 5 0) 5 x = 0 := fun x hx => by rw [dI_s, if_neg (by omega), dI_F, if_pos (by omega)]
  have y35 : dI (sI (sF C1 5 0 26 0) 3 5 0) 3 5 = nn 0 := by rw [dI_s, if_pos ⟨rfl, rfl⟩]; rfl
  have cC2 : Ch (fun a k => (a = 3 ∧ (k = 4 ∨ k = 5)) ∨ a = 5 ∨ (a = P ∧ (k = 5 ∨ k = 0)) ∨ a = P + 1 ∨ a = P + 2) C (sI (sF C1 5 0 26 0) 3 5 0) := (c0.mono (fun a k q => by omega)).tr ((a2.mono (fun a k q => by omega)).tr (c2.mono (fun a k q => by omega)))
  have yP5 : dI (sI (sF C1 5 0 26 0) 3 5 0) P 5 = 0 := by rw [c2.i (by omega), a2.i (by omega)]; exact z5
  have yR : dR (sI (sF C1 5 0 26 0) 3 5 0) 3 4 = some P := by rw [c2.r (by omega), a2.r (by omega)]; exact z34
  have yPr : ∀ x, x < 26 → dR (sI (sF C1 5 0 26 0) 3 5 0) (P + 1) x = none := fun x hx => by rw [c2.r (by omega)]; exact a3 x hx
  have yMk : ∀ k, k < 52 → dI (sI (sF C1 5 0 26 0) 3 5 0) (P + 2) k = -1 := fun k hk => by rw [c2.i (by omega)]; exact a4 k hk
  have cls : f_X5_read N nu (some P) (n, K, 9100, 111000) C = (f_X5_findTokens N (sI (sF C1 5 0 26 0) 3 5 0)).bind (fun p20 => (f_X5_goTo 0 p20).bind (fun p8 => sb2 (f_X5_readDeclarations N nu (n, K, 9100, 111000) p8) (fun p10 S12 D12 => sb2 (f_X5_readStatements N nu 12 0 S12 D12) (fun p13 S15 D15 => ((dR D12 3 4)).bind (fun a16 => if a16 = 191 ∨ a16 = 196 then (some (.inr (), S15, (sR D15 a16 0 p13))) else none))))) := by
    unfold f_X5_read f_X4_empty f_X5_readDeclarations
    have e1 : dR (sR C 3 4 (some P)) 3 4 = some P := by rw [dR_s, if_pos ⟨rfl, rfl⟩]
    rw [e1]
    show (if P = 191 ∨ P = 196 then _ else _) = _
    have a1' : f_X4_empty_b12 N nu K P N 0 (sR (sI (sR C 3 4 (some P)) P 5 0) P 0 none) = some C1 := a1
    rw [if_pos hP]
    show ((f_X4_empty_b12 N nu K P N 0 (sR (sI (sR C 3 4 (some P)) P 5 0) P 0 none)).bind _) = _
    rw [a1', bS]
    show ((f_J7_fill_53178 N nu K 5 0 C1).bind _) = _
    rw [f5, bS]
    simp only [g_dloop]
    rfl
  generalize sI (sF C1 5 0 26 0) 3 5 0 = C2 at *
  -- the model
  have v64 : (64 : Int32) * nn h = nn (64 * h) := by rw [nn_l, nn_mul]
  have v260 : (260 : Int32) * nn h = nn (260 * h) := by rw [nn_l, nn_mul]
  have mp : f_X12_parse N M = f_X12_parse_b21 N (nn h) M := by
    unfold f_X12_parse
    rcases hp with ⟨q1, q2⟩ | ⟨q1, q2⟩
    · rw [q1, if_pos rfl, q2]
    · rw [q1, if_neg (by decide), q2]
      have : (1 : Int32) - nn (1 - h) = nn h := by
        have hc : h = 0 ∨ h = 1 := by omega
        rcases hc with z | z <;> subst z <;> decide
      rw [this]
  have e35a : ∀ (D : Dat) x, dI (sI D 207 35 x) 207 35 = x := fun D x => by rw [dI_s, if_pos ⟨rfl, rfl⟩]
  have e35b : ∀ (D : Dat) x y, dI (sI (sI D 207 35 x) 207 33 y) 207 35 = x := fun D x y => by rw [dI_s, if_neg (by omega), dI_s, if_pos ⟨rfl, rfl⟩]
  have e35c : ∀ (D : Dat) x y z, dI (sI (sI (sI D 207 35 x) 207 33 y) 207 34 z) 207 35 = x := fun D x y z => by rw [dI_s, if_neg (by omega), dI_s, if_neg (by omega), dI_s, if_pos ⟨rfl, rfl⟩]
  have mp2 : f_X12_parse N M = f_X12_parse_b74 N N (nn 0) (sI (sI (sI (sI (sI (sI (sI M 207 35 (nn h)) 207 33 (nn (64 * h))) 207 34 (nn (260 * h))) 228 h (-1)) 207 36 0) 207 40 (-1)) 207 41 0) := by
    rw [mp]
    unfold f_X12_parse_b21 f_X12_parse_b57
    rw [e35a, e35b, e35c, if_neg (nn_in (k := h) (n := 2) (by omega) (by omega)), nn_nat (by omega), v64, v260]
    rfl
  rw [zr_74 26 N 0 _ (by omega) (by omega)] at mp2
  have cM3 : Ch (fun a k => (a = 207 ∧ (k = 33 ∨ k = 34 ∨ k = 35 ∨ k = 36 ∨ k = 40 ∨ k = 41 ∨ k = 44)) ∨ (a = 228 ∧ k = h) ∨ a = 229 ∨ a = 231 ∨ a = 233) M (sI (sI (sI (sF (sI (sI (sI (sI (sI (sI (sI M 207 35 (nn h)) 207 33 (nn (64 * h))) 207 34 (nn (260 * h))) 228 h (-1)) 207 36 0) 207 40 (-1)) 207 41 0) 229 0 26 0) 207 44 1) 231 (0 : Int32).toNatClampNeg 0) 233 (0 : Int32).toNatClampNeg (-1)) := Ch.sI (by omega) (Ch.sI (by omega) (Ch.sI (by omega) (Ch.sF (fun k => by omega) (Ch.sI (by omega) (Ch.sI (by omega) (Ch.sI (by omega) (Ch.sI (by omega) (Ch.sI (by omega) (Ch.sI (by omega) (Ch.sI (by omega) Ch.rf))))))))))
  have y33 : dI (sI (sI (sI (sF (sI (sI (sI (sI (sI (sI (sI M 207 35 (nn h)) 207 33 (nn (64 * h))) 207 34 (nn (260 * h))) 228 h (-1)) 207 36 0) 207 40 (-1)) 207 41 0) 229 0 26 0) 207 44 1) 231 (0 : Int32).toNatClampNeg 0) 233 (0 : Int32).toNatClampNeg (-1)) 207 33 = nn (64 * h) := by rw [dI_s, if_neg (by omega), dI_s, if_neg (by omega), dI_s, if_neg (by omega), dI_F, if_neg (by omega), dI_s, if_neg (by omega), dI_s, if_neg (by omega), dI_s, if_neg (by omega), dI_s, if_neg (by omega), dI_s, if_neg (by omega), dI_s, if_pos ⟨rfl, rfl⟩]
  have y34 : dI (sI (sI (sI (sF (sI (sI (sI (sI (sI (sI (sI M 207 35 (nn h)) 207 33 (nn (64 * h))) 207 34 (nn (260 * h))) 228 h (-1)) 207 36 0) 207 40 (-1)) 207 41 0) 229 0 26 0) 207 44 1) 231 (0 : Int32).toNatClampNeg 0) 233 (0 : Int32).toNatClampNeg (-1)) 207 34 = nn (260 * h) := by rw [dI_s, if_neg (by omega), dI_s, if_neg (by omega), dI_s, if_neg (by omega), dI_F, if_neg (by omega), dI_s, if_neg (by omega), dI_s, if_neg (by omega), dI_s, if_neg (by omega), dI_s, if_neg (by omega), dI_s, if_pos ⟨rfl, rfl⟩]
  have y35' : dI (sI (sI (sI (sF (sI (sI (sI (sI (sI (sI (sI M 207 35 (nn h)) 207 33 (nn (64 * h))) 207 34 (nn (260 * h))) 228 h (-1)) 207 36 0) 207 40 (-1)) 207 41 0) 229 0 26 0) 207 44 1) 231 (0 : Int32).toNatClampNeg 0) 233 (0 : Int32).toNatClampNeg (-1)) 207 35 = nn h := by rw [dI_s, if_neg (by omega), dI_s, if_neg (by omega), dI_s, if_neg (by omega), dI_F, if_neg (by omega), dI_s, if_neg (by omega), dI_s, if_neg (by omega), dI_s, if_neg (by omega), dI_s, if_neg (by omega), dI_s, if_neg (by omega), dI_s, if_neg (by omega), dI_s, if_pos ⟨rfl, rfl⟩]
  have y36 : dI (sI (sI (sI (sF (sI (sI (sI (sI (sI (sI (sI M 207 35 (nn h)) 207 33 (nn (64 * h))) 207 34 (nn (260 * h))) 228 h (-1)) 207 36 0) 207 40 (-1)) 207 41 0) 229 0 26 0) 207 44 1) 231 (0 : Int32).toNatClampNeg 0) 233 (0 : Int32).toNatClampNeg (-1)) 207 36 = nn 0 := by rw [dI_s, if_neg (by omega), dI_s, if_neg (by omega), dI_s, if_neg (by omega), dI_F, if_neg (by omega), dI_s, if_neg (by omega), dI_s, if_neg (by omega), dI_s, if_pos ⟨rfl, rfl⟩]; rfl
  have y40 : dI (sI (sI (sI (sF (sI (sI (sI (sI (sI (sI (sI M 207 35 (nn h)) 207 33 (nn (64 * h))) 207 34 (nn (260 * h))) 228 h (-1)) 207 36 0) 207 40 (-1)) 207 41 0) 229 0 26 0) 207 44 1) 231 (0 : Int32).toNatClampNeg 0) 233 (0 : Int32).toNatClampNeg (-1)) 207 40 = -1 := by rw [dI_s, if_neg (by omega), dI_s, if_neg (by omega), dI_s, if_neg (by omega), dI_F, if_neg (by omega), dI_s, if_neg (by omega), dI_s, if_pos ⟨rfl, rfl⟩]
  have y41 : dI (sI (sI (sI (sF (sI (sI (sI (sI (sI (sI (sI M 207 35 (nn h)) 207 33 (nn (64 * h))) 207 34 (nn (260 * h))) 228 h (-1)) 207 36 0) 207 40 (-1)) 207 41 0) 229 0 26 0) 207 44 1) 231 (0 : Int32).toNatClampNeg 0) 233 (0 : Int32).toNatClampNeg (-1)) 207 41 = nn 0 := by rw [dI_s, if_neg (by omega), dI_s, if_neg (by omega), dI_s, if_neg (by omega), dI_F, if_neg (by omega), dI_s, if_pos ⟨rfl, rfl⟩]; rfl
  have y44 : dI (sI (sI (sI (sF (sI (sI (sI (sI (sI (sI (sI M 207 35 (nn h)) 207 33 (nn (64 * h))) 207 34 (nn (260 * h))) 228 h (-1)) 207 36 0) 207 40 (-1)) 207 41 0) 229 0 26 0) 207 44 1) 231 (0 : Int32).toNatClampNeg 0) 233 (0 : Int32).toNatClampNeg (-1)) 207 44 = nn (0 + 1) := by rw [dI_s, if_neg (by omega), dI_s, if_neg (by omega), dI_s, if_pos ⟨rfl, rfl⟩]; rfl
  have y228 : dI (sI (sI (sI (sF (sI (sI (sI (sI (sI (sI (sI M 207 35 (nn h)) 207 33 (nn (64 * h))) 207 34 (nn (260 * h))) 228 h (-1)) 207 36 0) 207 40 (-1)) 207 41 0) 229 0 26 0) 207 44 1) 231 (0 : Int32).toNatClampNeg 0) 233 (0 : Int32).toNatClampNeg (-1)) 228 h = -1 := by rw [dI_s, if_neg (by omega), dI_s, if_neg (by omega), dI_s, if_neg (by omega), dI_F, if_neg (by omega), dI_s, if_neg (by omega), dI_s, if_neg (by omega), dI_s, if_neg (by omega), dI_s, if_pos ⟨rfl, rfl⟩]
  have y229 : ∀ x, x < 26 → dI (sI (sI (sI (sF (sI (sI (sI (sI (sI (sI (sI M 207 35 (nn h)) 207 33 (nn (64 * h))) 207 34 (nn (260 * h))) 228 h (-1)) 207 36 0) 207 40 (-1)) 207 41 0) 229 0 26 0) 207 44 1) 231 (0 : Int32).toNatClampNeg 0) 233 (0 : Int32).toNatClampNeg (-1)) 229 x = 0 := fun x hx => by rw [dI_s, if_neg (by omega), dI_s, if_neg (by omega), dI_s, if_neg (by omega), dI_F, if_pos (by omega)]
  have y231 : dI (sI (sI (sI (sF (sI (sI (sI (sI (sI (sI (sI M 207 35 (nn h)) 207 33 (nn (64 * h))) 207 34 (nn (260 * h))) 228 h (-1)) 207 36 0) 207 40 (-1)) 207 41 0) 229 0 26 0) 207 44 1) 231 (0 : Int32).toNatClampNeg 0) 233 (0 : Int32).toNatClampNeg (-1)) 231 0 = 0 := by rw [dI_s, if_neg (by omega), dI_s, if_pos ⟨rfl, rfl⟩]
  have y233 : dI (sI (sI (sI (sF (sI (sI (sI (sI (sI (sI (sI M 207 35 (nn h)) 207 33 (nn (64 * h))) 207 34 (nn (260 * h))) 228 h (-1)) 207 36 0) 207 40 (-1)) 207 41 0) 229 0 26 0) 207 44 1) 231 (0 : Int32).toNatClampNeg 0) 233 (0 : Int32).toNatClampNeg (-1)) 233 0 = -1 := by rw [dI_s, if_pos ⟨rfl, rfl⟩]
  generalize sI (sI (sI (sF (sI (sI (sI (sI (sI (sI (sI M 207 35 (nn h)) 207 33 (nn (64 * h))) 207 34 (nn (260 * h))) 228 h (-1)) 207 36 0) 207 40 (-1)) 207 41 0) 229 0 26 0) 207 44 1) 231 (0 : Int32).toNatClampNeg 0) 233 (0 : Int32).toNatClampNeg (-1) = M3 at *
  have hT2 : TxC len tx C2 := hC.kept cC2 (fun a k q => by omega)
  obtain ⟨C3, ct, w1, w2, w3⟩ := zl_find hN hT2
  obtain ⟨p1, e1, t1, v1, C4, M4, l1, l2, w4, w5, l7⟩ := zl_first hN (hT2.kept w2 (fun a k q => by unfold QTk at q; omega)) (hM.kept cM3 (fun a k q => by omega)) w3 y36
  obtain ⟨x1, ⟨x2, x2'⟩, x3, x4⟩ := w4
  have l6 : Ch QlB C2 C4 := (w2.mono (fun a k q => by unfold QTk at q; unfold QlB; omega)).tr (w5.mono (fun a k q => by unfold QlC at q; unfold QlB; omega))
  have l5 : RqN nu len P tx 0 p1 e1 t1 v1 C4 M4 := ⟨⟨x1, ⟨x4.1.2, x2', x3.2.1⟩, by rw [l7.i (by unfold QlM; omega)]; exact y40, ⟨by omega, by rw [l6.i (by unfold QlB; omega)]; exact y35, by rw [l7.i (by unfold QlM; omega)]; exact y41⟩, ⟨hP, by rw [l6.r (by unfold QlB; omega)]; exact yR⟩, ⟨hnu, by rw [l6.i (by unfold QlB; omega), cC2.i (by omega)]; exact h1, by rw [l7.i (by unfold QlM; omega), cM3.i (by omega)]; exact h2⟩⟩, x2, x3, x4⟩
  have l4 : p1 ≤ 240 := by have := x4.1; omega
  have hRo : Ro nu P C4 M4 := fun x hx => by
    left
    exact ⟨by rw [l6.i (by unfold QlB; omega)]; exact y5 x hx, by rw [l7.i (by unfold QlM; omega)]; exact y229 x hx, by rw [l6.i (by unfold QlB; omega)]; exact yMk x (by omega), by rw [l6.i (by unfold QlB; omega)]; exact yMk (26 + x) (by omega)⟩
  have hd : Ds nu len P tx n h p1 e1 t1 v1 0 0 0 K (fun _ => 0) (n, K, 9100, 111000) C4 M4 := by
    refine ⟨⟨l5.d hRo, ⟨rfl, rfl, rfl, hn, fun a g1 g2 => by omega, fun a _ => rfl⟩, ⟨by rw [l7.i (by unfold QlM; omega)]; exact y33, by rw [l7.i (by unfold QlM; omega)]; exact y35', hh, by omega⟩, ⟨by rw [l6.i (by unfold QlB; omega), yP5]; rfl, by rw [l7.i (by unfold QlM; omega), y34]; rfl, by omega⟩, by rw [l7.i (by unfold QlM; omega)]; exact y44⟩, ⟨by rw [l7.i (by unfold QlM; omega)]; exact y231, by rw [l7.i (by unfold QlM; omega)]; exact y233, by rw [l7.i (by unfold QlM; omega)]; exact y228⟩, fun i hi => absurd hi (by omega), fun x hx q => ?_, fun i k i' hi => absurd hi (by omega)⟩
    rw [l7.i (by unfold QlM; omega), y229 x hx] at q
    exact absurd q (by decide)
  have dC : Ch (DCt P n) C C4 := (cC2.mono (fun a k q => by unfold DCt DC; omega)).tr (l6.mono (fun a k q => by unfold QlB at q; unfold DCt DC; omega))
  have dM : Ch (DM h) M M4 := (cM3.mono (fun a k q => by unfold DM; omega)).tr (l7.mono (fun a k q => by unfold QlM at q; unfold DM; omega))
  rw [l2, bS] at mp2
  rw [cls, w1, bS, l1, bS, mp2]
  rcases zr_main hN hd with ⟨S', C', M', q, u1, u2, u3, u4, u5, u6⟩ | ⟨S', C', M', cnt, bz, ez, W', u1, u2, u3, u4, u5, u6, u7, u8, u9, u10⟩
  · exact Or.inl ⟨S', C', M', q, u1, u2, u3, u4, dC.tr (u5.mono (fun a k q => Or.inl q)), dM.tr u6⟩
  · exact Or.inr ⟨S', C', M', cnt, bz, ez, W', u1, u2, u3, u4, u5, u6, dC.tr (u7.mono (fun a k q => Or.inl q)), dM.tr u8, u9, u10⟩
