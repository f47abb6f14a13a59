/-! the shade of an expression, the label of an expression -/
def ItA (M : Dat) (op j : Nat) : Prop := op = 1 ∨ op = 3 → ∃ x, x < 26 ∧ dI M 226 j = nn x ∧ (op = 3 → dI M 229 x = 3)
/-- one item -/
theorem fl_c1 {N nu P nb h cnt bz ez : Nat} {W K V : Nat → Nat} {D0 C0 M0 C M : Dat} (hE : FE nu P nb h cnt bz ez W K D0 C0 M0) (hV : FV nu D0 C0 M0 C M V) {fr e : Nat} (hi : It P C0 M0 fr e) (hfr : fr < bz) (he : e < 520) : ∃ s, (∀ g a to acc, kd K a = 7 → dI C a 5 = nn to → fr < to → to ≤ 240 → acc < 64 → f_X1_shadeOf_b7 N nu K (g + 1) (some a) (nn acc) (nn fr) C = f_X1_shadeOf_b7 N nu K g (some a) (nn (acc ||| s)) (nn (fr + 1)) C) ∧ vs nu D0 s ∧ ∀ g m am, lb nu D0 m am → ∃ m', f_X12_itemsLabel_b7 N (g + 1) m (nn e) M = f_X12_itemsLabel_b7 N g m' (nn (e + 1)) M ∧ lb nu D0 m' (am ||| s) := by
  obtain ⟨hC, hM, hVV⟩ := hV
  obtain ⟨hS, hR2, h10, ⟨h61, hP⟩, hG, hRo, hK7, hh, hNS⟩ := id hE
  obtain ⟨-, -, -, ⟨hcnt, hbz, hez⟩, hP5⟩ := hG
  obtain ⟨op, o1, o2, o3, o4, o5'⟩ := hi
  have o5 : ItA M0 op e := o5'
  clear o5'
  have hNSv : (NS : Nat) ≤ nb := hNS
  have c61 : dR C 6 1 = some P := by rw [hC.r (by unfold FC; omega)]; exact h61
  have cP5 : dI C P 5 = nn bz := by rw [hC.i (by unfold FC; omega)]; exact hP5
  have cO : dI C (P + 3) fr = nn op := by rw [hC.i (by unfold FC; omega)]; exact o1
  have cA : dI C (P + 4) fr = dI M0 226 e := by rw [hC.i (by unfold FC; omega)]; exact o3
  have mO : dI M 225 e = nn op := by rw [hM.i (by unfold FM; omega)]; exact o2
  have mA : dI M 226 e = dI M0 226 e := hM.i (by unfold FM; omega)
  have fop := e4_op (t := P) cP5 hfr hbz
  have far := e4_arg (t := P) cP5 hfr hbz
  rw [cO] at fop
  rw [cA] at far
  have hop : op < 11 := by omega
  have in520 := nn_in (k := e) (n := 520) (by omega) he
  have ci : ∀ g a to acc, kd K a = 7 → dI C a 5 = nn to → fr < to → to ≤ 240 → f_X1_shadeOf_b7 N nu K (g + 1) (some a) (nn acc) (nn fr) C = if nn op = 1 then (if dI M0 226 e < 0 then (f_X1_shadeOf_b62 N nu K (f_X1_shadeOf_b7 N nu K g) (some a) (nn acc) (nn fr) (dI M0 226 e) C) else (if 26 ≤ dI M0 226 e then (f_X1_shadeOf_b62 N nu K (f_X1_shadeOf_b7 N nu K g) (some a) (nn acc) (nn fr) (dI M0 226 e) C) else (if dI M0 226 e < 0 ∨ 26 ≤ (dI M0 226 e).toNatClampNeg then none else (f_X1_shadeOf_b93 N nu K (f_X1_shadeOf_b7 N nu K g) (some a) (nn acc ||| (dI C 7 (dI M0 226 e).toNatClampNeg)) (nn fr) C)))) else (f_X1_shadeOf_b62 N nu K (f_X1_shadeOf_b7 N nu K g) (some a) (nn acc) (nn fr) (dI M0 226 e) C) := by
    intro g a to acc ka k5 hto hto2
    rw [f_X1_shadeOf_b7, bS, if_pos ka, k5, if_neg (show ¬ nn to ≤ nn fr from fun q => by have := (nn_le (by omega) (by omega)).mp q; omega), c61, bS, if_pos hP, far, bS]
    show ((dR C 6 1)).bind _ = _
    rw [c61, bS, if_pos hP, fop, bS]
  have b62 : ∀ g a acc x4, f_X1_shadeOf_b62 N nu K g a acc (nn fr) x4 C = if nn op = 3 then ((f_X4_rowMark P x4 C).bind (fun p10 => (f_X2_shade nu K p10.1 p10.2).bind (fun p12 => f_X1_shadeOf_b93 N nu K g a (acc ||| p12.1) (nn fr) p12.2))) else f_X1_shadeOf_b93 N nu K g a acc (nn fr) C := by
    intro g a acc x4
    unfold f_X1_shadeOf_b62
    rw [c61, bS, if_pos hP, fop, bS]
    show (if nn op = 3 then (dR C 6 1).bind _ else _) = _
    rw [c61, bS, if_pos hP]
  have mi : ∀ g m, f_X12_itemsLabel_b7 N (g + 1) m (nn e) M = if nn op = 1 then (if dI M0 226 e < 0 ∨ 26 ≤ (dI M0 226 e).toNatClampNeg then none else ((f_X12_join m (dI M 237 (dI M0 226 e).toNatClampNeg) M).bind (fun p13 => f_X12_itemsLabel_b43 N (f_X12_itemsLabel_b7 N g) p13.1 (nn e) p13.2))) else (f_X12_itemsLabel_b43 N (f_X12_itemsLabel_b7 N g) m (nn e) M) := by
    intro g m
    rw [f_X12_itemsLabel_b7]
    simp only [if_neg in520]
    rw [nn_nat (by omega), mO, mA, if_neg (nn_nlt0 (by omega))]
  have m43 : ∀ g m, f_X12_itemsLabel_b43 N g m (nn e) M = if nn op = 3 then (if dI M0 226 e < 0 ∨ 26 ≤ (dI M0 226 e).toNatClampNeg then none else ((f_X12_join m (dI M 230 (dI M0 226 e).toNatClampNeg) M).bind (fun p5 => f_X12_itemsLabel_b70 N g p5.1 (nn e) p5.2))) else f_X12_itemsLabel_b70 N g m (nn e) M := by
    intro g m
    unfold f_X12_itemsLabel_b43
    simp only [if_neg in520]
    rw [nn_nat (by omega), mO, mA]
  have n1 : ¬ nn op = 1 ∨ op = 1 := by
    by_cases c : op = 1
    · exact Or.inr c
    · exact Or.inl (ne_op (b := 1) (by omega) (by omega) c)
  by_cases c1 : op = 1
  · obtain ⟨x, x1, x2, -⟩ := o5 (Or.inl c1)
    have in26 := nn_in (k := x) (n := 26) (by omega) x1
    obtain ⟨v1, v2⟩ := hVV x x1
    refine ⟨V x, fun g a to acc ka k5 k6 k7 k8 => ?_, lb_vs v2, fun g m am hm => ?_⟩
    · rw [ci g a to acc ka k5 k6 k7, if_pos (by rw [c1]; rfl), x2, if_neg (nn_nlt0 (by omega)), if_neg (show ¬ (26 : Int32) ≤ nn x from fun q => by have := (nn_le (a := 26) (by omega) (by omega)).mp q; omega), if_neg in26, nn_nat (by omega), v1, bt_or _ k8 _ (lb_lt hS v2)]
      unfold f_X1_shadeOf_b93
      rw [nn_1]
    · obtain ⟨z, z1, z2⟩ := fl_join hE hM hm v2
      refine ⟨z, ?_, z2⟩
      rw [mi, if_pos (by rw [c1]; rfl), x2, if_neg in26, nn_nat (by omega), z1, bS, m43, if_neg (by rw [c1]; decide)]
      unfold f_X12_itemsLabel_b70
      rw [nn_1]
  · have c1' : ¬ nn op = (1 : Int32) := ne_op (b := 1) (by omega) (by omega) c1
    by_cases c3 : op = 3
    · obtain ⟨x, x1, x2, x3⟩ := o5 (Or.inr c3)
      have in26 := nn_in (k := x) (n := 26) (by omega) x1
      have r3 := x3 c3
      have hl : ∃ l, l < nu ∧ dI C0 (P + 2) (26 + x) = nn l ∧ dI M0 230 x = nn l := by
        have := hRo x x1
        unfold RoX at this
        rw [r3] at this
        rcases this with ⟨-, q, -⟩ | ⟨-, q, -⟩ | ⟨-, q, -⟩ | ⟨-, q, -, q4, l, q5, q6⟩ | ⟨-, q, -⟩ | ⟨-, q, -⟩
        · exact absurd q (by decide)
        · exact absurd q (by decide)
        · exact absurd q (by decide)
        · exact ⟨l, q5, by rw [q4, q6], q6⟩
        · exact absurd q (by decide)
        · exact absurd q (by decide)
      obtain ⟨l, l1, l2, l3⟩ := hl
      obtain ⟨s, s1, s2⟩ := fl_shade hE hC l1
      refine ⟨s, fun g a to acc ka k5 k6 k7 k8 => ?_, lb_vs s2, fun g m am hm => ?_⟩
      · rw [ci g a to acc ka k5 k6 k7, if_neg c1', b62, if_pos (by rw [c3]; rfl), x2, e4_row x1, bS, hC.i (by unfold FC; omega), l2, s1, bS, bt_or _ k8 _ (lb_lt hS s2)]
        unfold f_X1_shadeOf_b93
        rw [nn_1]
      · obtain ⟨z, z1, z2⟩ := fl_join hE hM hm s2
        refine ⟨z, ?_, z2⟩
        rw [mi, if_neg c1', m43, if_pos (by rw [c3]; rfl), x2, if_neg in26, nn_nat (by omega), hM.i (by unfold FM; omega), l3, z1, bS]
        unfold f_X12_itemsLabel_b70
        rw [nn_1]
    · have c3' : ¬ nn op = (3 : Int32) := ne_op (b := 3) (by omega) (by omega) c3
      refine ⟨0, fun g a to acc ka k5 k6 k7 k8 => ?_, vs_0 hS, fun g m am hm => ⟨m, ?_, by rw [Nat.or_zero]; exact hm⟩⟩
      · rw [ci g a to acc ka k5 k6 k7, if_neg c1', b62, if_neg c3', Nat.or_zero]
        unfold f_X1_shadeOf_b93
        rw [nn_1]
      · rw [mi, if_neg c1', m43, if_neg c3']
        unfold f_X12_itemsLabel_b70
        rw [nn_1]
theorem fl_it {N nu P nb h cnt bz ez : Nat} {W K V : Nat → Nat} {D0 C0 M0 C M : Dat} (hE : FE nu P nb h cnt bz ez W K D0 C0 M0) (hV : FV nu D0 C0 M0 C M V) : ∀ n fr e, Ex P C0 M0 fr n e → fr + n ≤ bz → e + n < 520 → ∃ s, (∀ g a to acc, kd K a = 7 → dI C a 5 = nn to → fr + n ≤ to → to ≤ 240 → acc < 64 → f_X1_shadeOf_b7 N nu K (g + n) (some a) (nn acc) (nn fr) C = f_X1_shadeOf_b7 N nu K g (some a) (nn (acc ||| s)) (nn (fr + n)) C) ∧ vs nu D0 s ∧ ∀ g m am, n < g → lb nu D0 m am → ∃ m', f_X12_itemsLabel_b7 N g m (nn e) M = some (m', M) ∧ lb nu D0 m' (am ||| s) := by
  intro n
  induction n with
  | zero =>
    intro fr e hx hfr he
    refine ⟨0, fun g a to acc _ _ _ _ _ => by rw [Nat.or_zero]; rfl, vs_0 hE.1, fun g m am hg hm => ⟨m, ?_, by rw [Nat.or_zero]; exact hm⟩⟩
    have mO : dI M 225 e = -1 := by rw [hV.2.1.i (by unfold FM; omega)]; exact hx.2
    rw [show g = (g - 1) + 1 by omega, f_X12_itemsLabel_b7, if_neg (nn_in (by omega) (by omega)), nn_nat (by omega), mO, if_pos (by decide)]
  | succ n ih =>
    intro fr e hx hfr he
    have hx' : Ex P C0 M0 (fr + 1) n (e + 1) := ⟨fun i hi => by rw [show fr + 1 + i = fr + (i + 1) by omega, show e + 1 + i = e + (i + 1) by omega]; exact hx.1 (i + 1) (by omega), by rw [show e + 1 + n = e + (n + 1) by omega]; exact hx.2⟩
    obtain ⟨s1, a1, a2, a3⟩ := fl_c1 (N := N) hE hV (hx.1 0 (by omega)) (show fr + 0 < bz by omega) (show e + 0 < 520 by omega)
    obtain ⟨s2, b1, b2, b3⟩ := ih (fr + 1) (e + 1) hx' (by omega) (by omega)
    refine ⟨s1 ||| s2, fun g a to acc k1 k2 k3 k4 k5 => ?_, vs_or hE.1 a2 b2, fun g m am hg hm => ?_⟩
    · have := a1 (g + n) a to acc k1 k2 (by omega) k4 k5
      rw [show g + (n + 1) = g + n + 1 by omega]
      refine this.trans ?_
      rw [show fr + 0 + 1 = fr + 1 by omega, b1 g a to _ k1 k2 (by omega) k4 (lor64 _ k5 _ (vs_pc hE.1 a2).1), Nat.or_assoc, show fr + 1 + n = fr + (n + 1) by omega]
    · obtain ⟨m1, c1, c2⟩ := a3 (g - 1) m am hm
      obtain ⟨m2, d1, d2⟩ := b3 (g - 1) m1 _ (by omega) c2
      refine ⟨m2, ?_, by rw [← Nat.or_assoc]; exact d2⟩
      rw [show g = (g - 1) + 1 by omega]
      exact c1.trans d1
/-- an expression: the class's shade s, the model's label -/
theorem fl_ex {N nu P nb h cnt bz ez : Nat} {W K V : Nat → Nat} {D0 C0 M0 C M : Dat} (hN : 1000 ≤ N) (hE : FE nu P nb h cnt bz ez W K D0 C0 M0) (hV : FV nu D0 C0 M0 C M V) {i es : Nat} (hi : i < cnt) (hx : FsE P h bz ez C0 M0 (nb + i) es) : ∃ s z, f_X1_shadeOf N nu K (some (nb + i)) C = some (nn s, C) ∧ f_X12_itemsLabel N (nn es) M = some (z, M) ∧ lb nu D0 z s := by
  obtain ⟨fr, n, x1, x2, x3, x4, x5, x6, -⟩ := hx
  obtain ⟨hS, hR2, h10, ⟨h61, hP⟩, hG, hRo, hK7, hh, hNS⟩ := id hE
  obtain ⟨-, -, -, ⟨hcnt, hbz, hez⟩, hP5⟩ := hG
  have hNSv : 266 ≤ nb := hNS
  obtain ⟨s, a1, a2, a3⟩ := fl_it (N := N) hE hV n fr es x6 x3 (by omega)
  obtain ⟨z, b1, b2⟩ := a3 N _ 0 (by omega) (fl_bot hE hV.2.1)
  rw [Nat.zero_or] at b2
  refine ⟨s, z, ?_, b1, b2⟩
  have k4 : dI C (nb + i) 4 = nn fr := by rw [hV.1.i (by unfold FC; omega)]; exact x1
  have k5 : dI C (nb + i) 5 = nn (fr + n) := by rw [hV.1.i (by unfold FC; omega)]; exact x2
  have k7 := hK7 i hi
  have := a1 (N - n - 1 + 1) (nb + i) (fr + n) 0 k7 k5 (Nat.le_refl _) (by omega) (by omega)
  unfold f_X1_shadeOf
  rw [bS, if_pos k7, k4]
  rw [show N - n - 1 + 1 + n = N by omega] at this
  refine this.trans ?_
  rw [Nat.zero_or, f_X1_shadeOf_b7, bS, if_pos k7, k5, if_pos ((nn_le (by omega) (by omega)).mpr (Nat.le_refl _))]
/-- a row's two expressions -/
theorem fl_ex2 {N nu P nb h cnt bz ez : Nat} {W K V : Nat → Nat} {D0 C0 M0 C M : Dat} (hN : 1000 ≤ N) (hE : FE nu P nb h cnt bz ez W K D0 C0 M0) (hV : FV nu D0 C0 M0 C M V) {i fr n1 n2 e1 e2 : Nat} (hi : i < cnt) (x1 : dI C0 (nb + i) 4 = nn fr) (x2 : dI C0 (nb + i) 5 = nn (fr + n1 + n2)) (x3 : fr + n1 + n2 ≤ bz) (y1 : e1 + n1 < 520) (y2 : e2 + n2 < 520) (q1 : Ex P C0 M0 fr n1 e1) (q2 : Ex P C0 M0 (fr + n1) n2 e2) : ∃ s1 s2 z1 z2, f_X1_shadeOf N nu K (some (nb + i)) C = some (nn (s1 ||| s2), C) ∧ f_X12_itemsLabel N (nn e1) M = some (z1, M) ∧ f_X12_itemsLabel N (nn e2) M = some (z2, M) ∧ lb nu D0 z1 s1 ∧ lb nu D0 z2 s2 := by
  obtain ⟨hS, hR2, h10, ⟨h61, hP⟩, hG, hRo, hK7, hh, hNS⟩ := id hE
  obtain ⟨-, -, -, ⟨hcnt, hbz, hez⟩, hP5⟩ := hG
  have hNSv : 266 ≤ nb := hNS
  obtain ⟨s1, a1, a2, a3⟩ := fl_it (N := N) hE hV n1 fr e1 q1 (by omega) y1
  obtain ⟨s2, b1, b2, b3⟩ := fl_it (N := N) hE hV n2 (fr + n1) e2 q2 (by omega) y2
  obtain ⟨z1, c1, c2⟩ := a3 N _ 0 (by omega) (fl_bot hE hV.2.1)
  obtain ⟨z2, d1, d2⟩ := b3 N _ 0 (by omega) (fl_bot hE hV.2.1)
  rw [Nat.zero_or] at c2 d2
  refine ⟨s1, s2, z1, z2, ?_, c1, d1, c2, d2⟩
  have k4 : dI C (nb + i) 4 = nn fr := by rw [hV.1.i (by unfold FC; omega)]; exact x1
  have k5 : dI C (nb + i) 5 = nn (fr + n1 + n2) := by rw [hV.1.i (by unfold FC; omega)]; exact x2
  have k7 := hK7 i hi
  have u1 := a1 (N - n1 - n2 - 1 + 1 + n2) (nb + i) (fr + n1 + n2) 0 k7 k5 (by omega) (by omega) (by omega)
  have u2 := b1 (N - n1 - n2 - 1 + 1) (nb + i) (fr + n1 + n2) (0 ||| s1) k7 k5 (Nat.le_refl _) (by omega) (by rw [Nat.zero_or]; exact (vs_pc hS a2).1)
  unfold f_X1_shadeOf
  rw [bS, if_pos k7, k4]
  rw [show N - n1 - n2 - 1 + 1 + n2 + n1 = N by omega] at u1
  refine u1.trans (u2.trans ?_)
  rw [Nat.zero_or, f_X1_shadeOf_b7, bS, if_pos k7, k5, if_pos ((nn_le (by omega) (by omega)).mpr (Nat.le_refl _))]
