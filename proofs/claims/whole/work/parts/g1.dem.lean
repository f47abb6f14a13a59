/-! flows: a demand, a setting -/
/-- both go on / both refuse at the same place -/
def SimG (nu : Nat) (D0 C0 M0 C M : Dat) (r : Option (Sum Nat Unit × Dat)) (rm : Option Dat) : Prop := ∃ C' M' V', r = some (.inr (), C') ∧ rm = some M' ∧ FV nu D0 C0 M0 C' M' V' ∧ Ch (fun a _ => a = 7) C C' ∧ Ch (fun a _ => a = 237) M M'
def SimB (C M : Dat) (r : Option (Sum Nat Unit × Dat)) (rm : Option Dat) : Prop := ∃ pl, pl ≤ 240 ∧ r = some (.inl 2, sI C 6 5 (nn pl)) ∧ rm = some (sI M 207 40 (nn pl))
theorem fl_dem {nu P nb h cnt bz ez : Nat} {W K V : Nat → Nat} {D0 C0 M0 C M : Dat} (hE : FE nu P nb h cnt bz ez W K D0 C0 M0) (hV : FV nu D0 C0 M0 C M V) {z : Int32} {s l i : Nat} (hz : lb nu D0 z s) (hl : l < nu) (hi : i < cnt) : (f_X1_demand nu K (some (nb + i)) (nn s) (nn l) C = some (.inr (), C) ∧ f_X12_must z (nn l) (nn (64 * h + i)) M = some M) ∨ SimB C M (f_X1_demand nu K (some (nb + i)) (nn s) (nn l) C) (f_X12_must z (nn l) (nn (64 * h + i)) M) := by
  obtain ⟨hS, hR2, h10, ⟨h61, hP⟩, hG, hRo, hK7, hh, hNS⟩ := id hE
  obtain ⟨hFs, -, -, ⟨hcnt, hbz, hez⟩, hP5⟩ := hG
  have hNSv : 266 ≤ nb := hNS
  obtain ⟨b, b1, k, k1, k2, k3⟩ := fl_fits hE hV.1 hV.2.1 hz hl
  obtain ⟨pl, p1, p2, p3⟩ := (hFs i hi).1.1
  have c1 : dI C (nb + i) 1 = nn pl := by rw [hV.1.i (by unfold FC; omega)]; exact p2
  have m1 : dI M 217 (64 * h + i) = nn pl := by rw [hV.2.1.i (by unfold FM; omega)]; exact p3
  have k7 := hK7 i hi
  unfold f_X1_demand f_X12_must f_X12_must_b24
  rw [b1, bS, k2, if_neg (nn_in (by omega) k1), nn_nat (by omega)]
  cases b with
  | true =>
    left
    rw [if_neg (show ¬ wi true = 0 by decide), if_neg (fun q => absurd (k3.mp q) (by decide))]
    exact ⟨rfl, rfl⟩
  | false =>
    right
    rw [if_pos (show wi false = 0 by decide), if_pos (k3.mpr rfl), bS, if_pos k7, if_neg (nn_in (by omega) (by omega)), nn_nat (by omega)]
    exact ⟨pl, p1, by rw [← c1], by rw [m1]⟩
theorem fl_set {nu P nb h cnt bz ez : Nat} {W K V : Nat → Nat} {D0 C0 M0 C M : Dat} (hE : FE nu P nb h cnt bz ez W K D0 C0 M0) (hV : FV nu D0 C0 M0 C M V) {z : Int32} {s x i : Nat} (hz : lb nu D0 z s) (hx : x < 26) (hr : dI M0 229 x = 1 ∨ dI M0 229 x = 2) (hi : i < cnt) : SimG nu D0 C0 M0 C M (f_X1_set nu K (some (nb + i)) (nn x) (nn s) C) (f_X12_gets (nn x) z (nn (64 * h + i)) M) ∨ SimB C M (f_X1_set nu K (some (nb + i)) (nn x) (nn s) C) (f_X12_gets (nn x) z (nn (64 * h + i)) M) := by
  obtain ⟨hS, hR2, h10, ⟨h61, hP⟩, hG, hRo, hK7, hh, hNS⟩ := id hE
  have c61 : dR C 6 1 = some P := by rw [hV.1.r (by unfold FC; omega)]; exact h61
  have in26 := nn_in (k := x) (n := 26) (by omega) hx
  have m9 : dI M 229 x = dI M0 229 x := hV.2.1.i (by unfold FM; omega)
  have m0 : dI M 230 x = dI M0 230 x := hV.2.1.i (by unfold FM; omega)
  have c2 : dI C (P + 2) x = dI C0 (P + 2) x := hV.1.i (by unfold FC; omega)
  have l26 : ¬ (26 : Int32) ≤ nn x := fun q => by have := (nn_le (a := 26) (by omega) (by omega)).mp q; omega
  have hro : (dI M0 229 x = 1 ∧ dI C0 (P + 2) x = -1) ∨ (dI M0 229 x = 2 ∧ ∃ l, l < nu ∧ dI C0 (P + 2) x = nn l ∧ dI M0 230 x = nn l) := by
    rcases hRo x hx with ⟨-, q, -⟩ | ⟨-, q, q3, -⟩ | ⟨-, q, q3, -, l, q5, q6⟩ | ⟨-, q, -⟩ | ⟨-, q, -⟩ | ⟨-, q, -⟩
    · rw [q] at hr; exact absurd hr (by decide)
    · exact Or.inl ⟨q, q3⟩
    · exact Or.inr ⟨q, l, q5, by rw [q3, q6], q6⟩
    · rw [q] at hr; exact absurd hr (by decide)
    · rw [q] at hr; exact absurd hr (by decide)
    · rw [q] at hr; exact absurd hr (by decide)
  unfold f_X1_set f_X12_gets
  simp only [if_neg in26]
  rw [c61, bS, if_pos hP, e4_var hx, bS, c2, nn_nat (by omega), m9, m0]
  rcases hro with ⟨r1, r2⟩ | ⟨r1, l, l1, l2, l3⟩
  · left
    rw [r1, r2, if_pos rfl, if_neg (nn_nlt0 (by omega)), if_neg l26, if_neg (show ¬ (1 : Int32) = 2 by decide)]
    refine ⟨sI C 7 x (nn s), sI M 237 x z, fun y => if y = x then s else V y, rfl, rfl, ⟨Ch.sI (by unfold FC; omega) hV.1, Ch.sI (by unfold FM; omega) hV.2.1, fun y hy => ?_⟩, Ch.sI rfl Ch.rf, Ch.sI rfl Ch.rf⟩
    rw [dI_s, dI_s]
    show _ = nn (if y = x then s else V y) ∧ lb nu D0 _ (if y = x then s else V y)
    by_cases c : y = x
    · rw [if_pos (show 7 = 7 ∧ y = x from ⟨rfl, c⟩), if_pos (show 237 = 237 ∧ y = x from ⟨rfl, c⟩), if_pos c]
      exact ⟨rfl, hz⟩
    · rw [if_neg (show ¬ (7 = 7 ∧ y = x) from fun q => c q.2), if_neg (show ¬ (237 = 237 ∧ y = x) from fun q => c q.2), if_neg c]
      exact hV.2.2 y hy
  · rw [r1, l2, l3, if_neg (nn_m1 (by have := hS.1.2; omega)), if_pos rfl]
    show SimG nu D0 C0 M0 C M ((dR C 6 1).bind _) _ ∨ SimB C M ((dR C 6 1).bind _) _
    rw [c61, bS, if_pos hP]
    show SimG nu D0 C0 M0 C M ((f_X4_variableMark P (nn x) C).bind _) _ ∨ SimB C M ((f_X4_variableMark P (nn x) C).bind _) _
    rw [e4_var hx, bS, c2, l2]
    rcases fl_dem hE hV hz l1 hi with ⟨d1, d2⟩ | ⟨pl, d1, d2, d3⟩
    · left
      rw [d1, d2]
      exact ⟨C, M, V, rfl, rfl, hV, Ch.rf, Ch.rf⟩
    · right
      rw [d2, d3]
      exact ⟨pl, d1, rfl, rfl⟩
