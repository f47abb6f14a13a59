/-! flows: a simple statement -/
def FP (nu : Nat) (D0 C0 M0 : Dat) (x sv pc : Nat) (V : Nat → Nat) (C M : Dat) : Prop := FV nu D0 C0 M0 C M V ∧ lb nu D0 (dI M 207 54) pc ∧ (dI M 207 55 = nn x ∧ dI M 207 56 = nn sv ∧ sv ≤ x) ∧ dI M 207 40 = -1
def FCx (x a k : Nat) : Prop := (a = 6 ∧ k = 5) ∨ a = 7 ∨ (9 + x ≤ a ∧ a ≤ 56) ∨ (58 + x ≤ a ∧ a ≤ 105)
def FMx (x sv a k : Nat) : Prop := (a = 207 ∧ (k = 40 ∨ (54 ≤ k ∧ k ≤ 56))) ∨ a = 237 ∨ ((238 ≤ a ∧ a ≤ 240) ∧ x ≤ k) ∨ (a = 241 ∧ 52 * sv ≤ k)
theorem fcx_FC {x a k : Nat} (h : FCx x a k) : FC a k := by unfold FCx at h; unfold FC; omega
theorem fmx_FM {x sv a k : Nat} (h : FMx x sv a k) : FM a k := by unfold FMx at h; unfold FM; omega
abbrev RcT := Option Nat → Int32 → Int32 → Dat → Option (Sum Nat Unit × Dat)
/-- a statement was gone over in both -/
def StG (N nu nb h : Nat) (K : Nat → Nat) (D0 C0 M0 : Dat) (rec : RcT) (B x sv pc i : Nat) (C M : Dat) : Prop := ∃ C' M' V' k, k ≤ B ∧ (∀ g, f_X1_goThrough_s_b10 rec N nu K (g + 1) (nn pc) (nn x) (some (nb + i)) C = f_X1_goThrough_s_b10 rec N nu K g (nn pc) (nn x) (dR C0 (nb + i) 9) C') ∧ (∀ g, f_X12_flow_b71 N (g + k) (nn (64 * h + i)) M = f_X12_flow_b71 N g (dI M0 224 (64 * h + i)) M') ∧ FP nu D0 C0 M0 x sv pc V' C' M' ∧ Ch (FCx x) C C' ∧ Ch (FMx x sv) M M'
/-- a statement was refused in both -/
def StB (N nu nb h : Nat) (K : Nat → Nat) (rec : RcT) (B x pc i : Nat) (C M : Dat) : Prop := ∃ C' M' q k, k ≤ B ∧ q ≤ 240 ∧ (∀ g, f_X1_goThrough_s_b10 rec N nu K (g + 1) (nn pc) (nn x) (some (nb + i)) C = some (.inl 2, C')) ∧ (dI C' 6 5 = nn q ∧ dI M' 207 40 = nn q) ∧ (∀ g, f_X12_flow_b71 N (g + k) (nn (64 * h + i)) M = some M') ∧ Ch FC C C' ∧ Ch FM M M'
theorem oelS {α : Type} (a : Nat) (x : α) (f : Nat → α) : oel (some a) x f = f a := rfl
theorem fl_fin {N nu P nb h cnt bz ez : Nat} {W K V : Nat → Nat} {D0 C0 M0 C M : Dat} (hE : FE nu P nb h cnt bz ez W K D0 C0 M0) {x sv pc i : Nat} (hP : FP nu D0 C0 M0 x sv pc V C M) (hi : i < cnt) {rec : RcT} {r : Option (Sum Nat Unit × Dat)} {rm : Option Dat} (Hc : ∀ g, f_X1_goThrough_s_b10 rec N nu K (g + 1) (nn pc) (nn x) (some (nb + i)) C = sb r (fun _ D => f_X1_goThrough_s_b260 rec N nu K (f_X1_goThrough_s_b10 rec N nu K g) (nn pc) (nn x) (some (nb + i)) D)) (Hm : f_X12_flowThrough N (nn (64 * h + i)) M = rm.bind (fun p => f_X12_flowThrough_b318 N (nn (64 * h + i)) p)) (hr : SimG nu D0 C0 M0 C M r rm ∨ SimB C M r rm) : StG N nu nb h K D0 C0 M0 rec 2 x sv pc i C M ∨ StB N nu nb h K rec 2 x pc i C M := by
  obtain ⟨hS, hR2, h10, ⟨h61, hPP⟩, hG, hRo, hK7, hh, hNS⟩ := id hE
  obtain ⟨hFs, -, -, ⟨hcnt, hbz, hez⟩, hP5⟩ := hG
  have hNSv : 266 ≤ nb := hNS
  have k7 := hK7 i hi
  obtain ⟨hV, hpc, hst, h40⟩ := hP
  have st : ∀ g, f_X12_flow_b71 N (g + 1) (nn (64 * h + i)) M = (f_X12_flowThrough N (nn (64 * h + i)) M).bind (fun p5 => f_X12_flow_b105 N (f_X12_flow_b71 N g) p5.1 p5.2) := by
    intro g
    rw [f_X12_flow_b71, h40, if_neg m1_lt, if_pos (show (0 : Int32) ≤ nn (64 * h + i) from (nn_le (a := 0) (by omega) (by omega)).mpr (by omega))]
    unfold f_X12_flow_b89
    rw [if_neg (nn_nlt0 (by omega))]
  have b318 : ∀ M', f_X12_flowThrough_b318 N (nn (64 * h + i)) M' = some (dI M' 224 (64 * h + i), M') := by
    intro M'
    unfold f_X12_flowThrough_b318
    rw [if_neg (nn_in (by omega) (by omega)), nn_nat (by omega)]
  rcases hr with ⟨C', M', V', r1, r2, r3, r4, r5⟩ | ⟨pl, p1, p2, p3⟩
  · left
    have mm : ∀ k, dI M' 207 k = dI M 207 k := fun k => r5.i (by omega)
    refine ⟨C', M', V', 1, by omega, fun g => ?_, fun g => ?_, ⟨r3, by rw [mm]; exact hpc, by rw [mm, mm]; exact hst, by rw [mm]; exact h40⟩, r4.mono (fun a k q => Or.inr (Or.inl q)), r5.mono (fun a k q => Or.inr (Or.inl q))⟩
    · rw [Hc, r1]
      show f_X1_goThrough_s_b260 rec N nu K (f_X1_goThrough_s_b10 rec N nu K g) (nn pc) (nn x) (some (nb + i)) C' = _
      unfold f_X1_goThrough_s_b260
      rw [bS, if_pos k7, r3.1.r (by unfold FC; omega)]
    · rw [st, Hm, r2, bS, b318, bS, r3.2.1.i (by unfold FM; omega)]
      rfl
  · right
    refine ⟨sI C 6 5 (nn pl), sI M 207 40 (nn pl), pl, 2, by omega, p1, fun g => ?_, ⟨by rw [dI_s, if_pos ⟨rfl, rfl⟩], by rw [dI_s, if_pos ⟨rfl, rfl⟩]⟩, fun g => ?_, Ch.sI (by unfold FC; omega) Ch.rf, Ch.sI (by unfold FM; omega) Ch.rf⟩
    · rw [Hc, p2]
      rfl
    · rw [show g + 2 = (g + 1) + 1 by omega, st, Hm, p3, bS, b318, bS]
      show f_X12_flow_b71 N (g + 1) _ (sI M 207 40 (nn pl)) = _
      rw [f_X12_flow_b71, dI_s, if_pos (show 207 = 207 ∧ 40 = 40 from ⟨rfl, rfl⟩), if_pos (show (0 : Int32) ≤ nn pl from (nn_le (a := 0) (by omega) (by omega)).mpr (by omega))]
      rfl
theorem FP.pcl {nu x sv pc : Nat} {V : Nat → Nat} {D0 C0 M0 C M : Dat} (h : FP nu D0 C0 M0 x sv pc V C M) (hS : LatS nu D0) : pc < 64 := lb_lt hS h.2.1
theorem fl_sim {N nu P nb h cnt bz ez : Nat} {W K V : Nat → Nat} {D0 C0 M0 C M : Dat} (hN : 1000 ≤ N) (hE : FE nu P nb h cnt bz ez W K D0 C0 M0) {x sv pc i : Nat} (hP : FP nu D0 C0 M0 x sv pc V C M) (hi : i < cnt) {rec : RcT} (hk : dI C0 (nb + i) 0 = 2 ∨ dI C0 (nb + i) 0 = 4 ∨ dI C0 (nb + i) 0 = 13 ∨ dI C0 (nb + i) 0 = 14) : StG N nu nb h K D0 C0 M0 rec 2 x sv pc i C M ∨ StB N nu nb h K rec 2 x pc i C M := by
  obtain ⟨hS, hR2, h10, ⟨h61, hPP⟩, hG, hRo, hK7, hh, hNS⟩ := id hE
  obtain ⟨hFs, -, -, ⟨hcnt, hbz, hez⟩, hP5⟩ := hG
  have hNSv : 266 ≤ nb := hNS
  have k7 := hK7 i hi
  obtain ⟨hV, hpc, hst, h40⟩ := id hP
  have hC := hV.1
  have hM := hV.2.1
  have cI : ∀ k, dI C (nb + i) k = dI C0 (nb + i) k := fun k => hC.i (by unfold FC; omega)
  have mI : ∀ a, 216 ≤ a → a ≤ 224 → dI M a (64 * h + i) = dI M0 a (64 * h + i) := fun a g1 g2 => hM.i (by unfold FM; omega)
  have in128 := nn_in (k := 64 * h + i) (n := 128) (by omega) (by omega)
  have c61 : dR C 6 1 = some P := by rw [hC.r (by unfold FC; omega)]; exact h61
  rcases (hFs i hi).1.2 with ⟨q1, q2, ⟨y, y1, y2, y3, y4⟩, e, e1, e2⟩ | ⟨q1, q2, ⟨y, y1, y2, y3, y4⟩, fr, n1, n2, e1, e2, ⟨f1, f2, f3⟩, ⟨f4, f5, f6, f7, f8, f9⟩, x1, x2, -, -⟩ | ⟨q1, q2, ⟨y, y1, y2, y3, y4⟩, ⟨l, l1, l2, l3⟩, -⟩ | ⟨q1, q2, ⟨l, l1, l2, l3⟩, e, e1, e2⟩ | ⟨q1, -⟩ | ⟨q1, -⟩ | ⟨q1, -⟩
  · obtain ⟨s, z, a1, a2, a3⟩ := fl_ex (N := N) hN hE hV hi e2
    obtain ⟨z2, b1, b2⟩ := fl_join hE hM hpc a3
    refine fl_fin hE hP hi (r := f_X1_set nu K (some (nb + i)) (nn y) (nn (pc ||| s)) C) (rm := f_X12_gets (nn y) z2 (nn (64 * h + i)) M) (fun g => ?_) ?_ (fl_set hE hV b2 y1 y4 hi)
    · rw [f_X1_goThrough_s_b10, oelS, if_pos k7, cI, q1, if_pos rfl, a1, bS, cI, y2, bt_or _ (hP.pcl hS) _ (lb_lt hS a3)]
    · unfold f_X12_flowThrough
      simp only [if_neg in128]
      rw [nn_nat (by omega), mI 216 (by omega) (by omega), q2, if_pos rfl, mI 221 (by omega) (by omega), e1, a2, bS]
      show (f_X12_join (dI M 207 54) z M).bind _ = _
      rw [b1, bS, mI 218 (by omega) (by omega), y3]
  · obtain ⟨s1, s2, z1, z2, a1, a2, a3, a4, a5⟩ := fl_ex2 (N := N) hN hE hV hi f1 f2 f3 (by omega) (by omega) x1 x2
    obtain ⟨z3, b1, b2⟩ := fl_join hE hM a4 a5
    obtain ⟨z4, d1, d2⟩ := fl_join hE hM hpc b2
    have hl : ∃ l, l < nu ∧ dI C0 (P + 2) (26 + y) = nn l ∧ dI M0 230 y = nn l := by
      have := hRo y y1
      unfold RoX at this
      rw [y4] at this
      rcases this with ⟨-, q, -⟩ | ⟨-, q, -⟩ | ⟨-, q, -⟩ | ⟨-, q, -, q4, l, q5, q6⟩ | ⟨-, q, -⟩ | ⟨-, q, -⟩
      · exact absurd q (by decide)
      · exact absurd q (by decide)
      · exact absurd q (by decide)
      · exact ⟨l, q5, by rw [q4, q6], q6⟩
      · exact absurd q (by decide)
      · exact absurd q (by decide)
    obtain ⟨l, l1, l2, l3⟩ := hl
    refine fl_fin hE hP hi (r := f_X1_demand nu K (some (nb + i)) (nn (pc ||| (s1 ||| s2))) (nn l) C) (rm := f_X12_must z4 (nn l) (nn (64 * h + i)) M) (fun g => ?_) ?_ ?_
    · rw [f_X1_goThrough_s_b10, oelS, if_pos k7, cI, q1, if_neg (show ¬ (4 : Int32) = 2 by decide), if_pos rfl, a1, bS]
      show ((dR C 6 1)).bind _ = _
      rw [c61, bS, if_pos hPP]
      show (f_X4_rowMark P (dI C (nb + i) 2) C).bind _ = _
      rw [cI, y2, e4_row y1, bS, hC.i (by unfold FC; omega), l2, bt_or _ (hP.pcl hS) _ (lb_lt hS b2)]
    · unfold f_X12_flowThrough
      simp only [if_neg in128]
      rw [nn_nat (by omega), mI 216 (by omega) (by omega), q2, if_neg (show ¬ (2 : Int32) = 1 by decide), if_pos rfl, mI 220 (by omega) (by omega), f4, a2, bS]
      show (f_X12_itemsLabel N (dI M 221 (64 * h + i)) M).bind _ = _
      rw [mI 221 (by omega) (by omega), f5, a3, bS]
      show (f_X12_join z1 z2 M).bind _ = _
      rw [b1, bS]
      show (f_X12_join (dI M 207 54) z3 M).bind _ = _
      rw [d1, bS]
      show (if (dI M 218 (64 * h + i)) < 0 ∨ 26 ≤ ((dI M 218 (64 * h + i))).toNatClampNeg then none else _) = _
      rw [mI 218 (by omega) (by omega), y3, if_neg (nn_in (by omega) y1), nn_nat (by omega), hM.i (by unfold FM; omega), l3]
    · rcases fl_dem hE hV d2 l1 hi with ⟨w1, w2⟩ | w
      · exact Or.inl ⟨C, M, V, w1, w2, hV, Ch.rf, Ch.rf⟩
      · exact Or.inr w
  · obtain ⟨s, s1, s2⟩ := fl_shade hE hC l1
    rcases fl_dem hE hV hpc l1 hi with ⟨w1, w2⟩ | ⟨pl, w0, w1, w2⟩
    · refine fl_fin hE hP hi (r := f_X1_set nu K (some (nb + i)) (nn y) (nn s) C) (rm := f_X12_gets (nn y) (nn l) (nn (64 * h + i)) M) (fun g => ?_) ?_ (fl_set hE hV s2 y1 y4 hi)
      · rw [f_X1_goThrough_s_b10, oelS, if_pos k7, cI, q1, if_neg (show ¬ (13 : Int32) = 2 by decide), if_neg (show ¬ (13 : Int32) = 4 by decide), if_pos rfl, cI, l2, w1]
        show (f_X2_shade nu K (dI C (nb + i) 3) C).bind _ = _
        rw [cI, l2, s1, bS, cI, y2]
      · unfold f_X12_flowThrough
        simp only [if_neg in128]
        rw [nn_nat (by omega), mI 216 (by omega) (by omega), q2, if_neg (show ¬ (5 : Int32) = 1 by decide), if_neg (show ¬ (5 : Int32) = 2 by decide), if_pos rfl, mI 219 (by omega) (by omega), l3, w2, bS, h40, if_neg m1_lt, mI 218 (by omega) (by omega), y3, mI 219 (by omega) (by omega), l3]
    · refine fl_fin hE hP hi (r := some (.inl 2, sI C 6 5 (nn pl))) (rm := some (sI M 207 40 (nn pl))) (fun g => ?_) ?_ (Or.inr ⟨pl, w0, rfl, rfl⟩)
      · rw [f_X1_goThrough_s_b10, oelS, if_pos k7, cI, q1, if_neg (show ¬ (13 : Int32) = 2 by decide), if_neg (show ¬ (13 : Int32) = 4 by decide), if_pos rfl, cI, l2, w1]
        rfl
      · unfold f_X12_flowThrough
        simp only [if_neg in128]
        rw [nn_nat (by omega), mI 216 (by omega) (by omega), q2, if_neg (show ¬ (5 : Int32) = 1 by decide), if_neg (show ¬ (5 : Int32) = 2 by decide), if_pos rfl, mI 219 (by omega) (by omega), l3, w2, bS, dI_s, if_pos (show 207 = 207 ∧ 40 = 40 from ⟨rfl, rfl⟩), if_pos (show (0 : Int32) ≤ nn pl from (nn_le (a := 0) (by omega) (by omega)).mpr (by omega)), bS]
  · obtain ⟨s, z, a1, a2, a3⟩ := fl_ex (N := N) hN hE hV hi e2
    obtain ⟨z2, b1, b2⟩ := fl_join hE hM hpc a3
    refine fl_fin hE hP hi (r := f_X1_demand nu K (some (nb + i)) (nn (pc ||| s)) (nn l) C) (rm := f_X12_must z2 (nn l) (nn (64 * h + i)) M) (fun g => ?_) ?_ ?_
    · rw [f_X1_goThrough_s_b10, oelS, if_pos k7, cI, q1, if_neg (show ¬ (14 : Int32) = 2 by decide), if_neg (show ¬ (14 : Int32) = 4 by decide), if_neg (show ¬ (14 : Int32) = 13 by decide), if_pos rfl, a1, bS, bt_or _ (hP.pcl hS) _ (lb_lt hS a3)]
      show sb (f_X1_demand nu K (some (nb + i)) (nn (pc ||| s)) (dI C (nb + i) 3) C) _ = _
      rw [cI, l2]
    · unfold f_X12_flowThrough
      simp only [if_neg in128]
      rw [nn_nat (by omega), mI 216 (by omega) (by omega), q2, if_neg (show ¬ (6 : Int32) = 1 by decide), if_neg (show ¬ (6 : Int32) = 2 by decide), if_neg (show ¬ (6 : Int32) = 5 by decide), if_pos rfl, mI 220 (by omega) (by omega), e1, a2, bS]
      show (f_X12_join (dI M 207 54) z M).bind _ = _
      rw [b1, bS]
      show (f_X12_must z2 (dI M 219 (64 * h + i)) (nn (64 * h + i)) M).bind _ = _
      rw [mI 219 (by omega) (by omega), l3]
    · rcases fl_dem hE hV b2 l1 hi with ⟨w1, w2⟩ | w
      · exact Or.inl ⟨C, M, V, w1, w2, hV, Ch.rf, Ch.rf⟩
      · exact Or.inr w
  · rw [q1] at hk; exact absurd hk (by decide)
  · rw [q1] at hk; exact absurd hk (by decide)
  · rw [q1] at hk; exact absurd hk (by decide)
