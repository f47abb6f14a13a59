/-! flows: lists of statements, do -/
def FlG (N nu : Nat) (D0 C0 M0 : Dat) (B x sv pc : Nat) (s : Int32) (C M : Dat) (r : Option (Sum Nat Unit × Dat)) : Prop := ∃ C' M' V' k, k ≤ B ∧ r = some (.inr (), C') ∧ (∀ g, f_X12_flow_b71 N (g + k) s M = f_X12_flow_b71 N g (-1) M') ∧ FP nu D0 C0 M0 x sv pc V' C' M' ∧ Ch (FCx x) C C' ∧ Ch (FMx x sv) M M'
def FlB (N B : Nat) (s : Int32) (C M : Dat) (r : Option (Sum Nat Unit × Dat)) : Prop := ∃ C' M' q k, k ≤ B ∧ q ≤ 240 ∧ r = some (.inl 2, C') ∧ (dI C' 6 5 = nn q ∧ dI M' 207 40 = nn q) ∧ (∀ g, f_X12_flow_b71 N (g + k) s M = some M') ∧ Ch FC C C' ∧ Ch FM M M'
/-- blocks that are narrower than the statement they stand in -/
def RecP (N nu nb h cnt : Nat) (W : Nat → Nat) (D0 C0 M0 : Dat) (rec : RcT) (B x w : Nat) : Prop := ∀ r s sv pc V C M, Lk nb h cnt r s → (∀ i, r = some (nb + i) → W i + 5 ≤ 5 * w + 4) → FP nu D0 C0 M0 (x + 1) sv pc V C M → FlG N nu D0 C0 M0 B (x + 1) sv pc s C M (rec r (nn pc) (nn (x + 1)) C) ∨ FlB N B s C M (rec r (nn pc) (nn (x + 1)) C)
theorem fl_st {N m : Nat} {M : Dat} (hm : m < 2147483648) (h40 : dI M 207 40 = -1) (g : Nat) : f_X12_flow_b71 N (g + 1) (nn m) M = (f_X12_flowThrough N (nn m) M).bind (fun p5 => f_X12_flow_b71 N g p5.1 p5.2) := by
  rw [f_X12_flow_b71, h40, if_neg m1_lt, if_pos (show (0 : Int32) ≤ nn m from (nn_le (a := 0) (by omega) (by omega)).mpr (by omega))]
  unfold f_X12_flow_b89
  rw [if_neg (nn_nlt0 (by omega))]
  rfl
theorem fl_bk {N x : Nat} {M : Dat} (hx : x < 300) (h40 : dI M 207 40 = -1) (h55 : dI M 207 55 = nn (x + 1)) (g : Nat) : f_X12_flow_b71 N (g + 1) (-1) M = (f_X12_flowBack N M).bind (fun p5 => f_X12_flow_b71 N g p5.1 p5.2) := by
  rw [f_X12_flow_b71, h40, if_neg m1_lt, if_neg m1_lt, h55, if_neg (show ¬ nn (x + 1) ≤ (0 : Int32) from fun q => by have := (nn_le (b := 0) (by omega) (by omega)).mp q; omega)]
  unfold f_X12_flow_b89
  rw [if_pos (by decide)]
  rfl
theorem fl_push {x : Nat} {k m : Int32} {M : Dat} (hx : x < 300) (h55 : dI M 207 55 = nn x) : ∃ M', f_X12_push k m M = some M' ∧ Ch (fun a j => (a = 207 ∧ j = 55) ∨ ((238 ≤ a ∧ a ≤ 240) ∧ j = x)) M M' ∧ dI M' 207 55 = nn (x + 1) ∧ dI M' 238 x = k ∧ dI M' 239 x = m ∧ dI M' 240 x = dI M 207 54 := by
  have i3 := nn_in (k := x) (n := 300) (by omega) hx
  refine ⟨sI (sI (sI (sI M 238 x k) 239 x m) 240 x (dI M 207 54)) 207 55 (nn (x + 1)), ?_, Ch.sI (by omega) (Ch.sI (by omega) (Ch.sI (by omega) (Ch.sI (by omega) Ch.rf))), rfl, ?_, ?_, ?_⟩
  · have e1 : ∀ v j y, dI (sI M 238 j v) 207 y = dI M 207 y := fun v j y => rfl
    have e2 : ∀ v u j i' y, dI (sI (sI M 238 j v) 239 i' u) 207 y = dI M 207 y := fun v u j i' y => rfl
    have e3 : ∀ v u t j i' l y, dI (sI (sI (sI M 238 j v) 239 i' u) 240 l t) 207 y = dI M 207 y := fun v u t j i' l y => rfl
    unfold f_X12_push f_X12_push_b33
    simp only [e1, e2, e3, h55, if_neg i3, nn_1]
    rw [nn_nat (by omega)]
  · rw [dI_s, if_neg (show ¬ (238 = 207 ∧ x = 55) by omega), dI_s, if_neg (show ¬ (238 = 240 ∧ x = x) by omega), dI_s, if_neg (show ¬ (238 = 239 ∧ x = x) by omega), dI_s, if_pos (show 238 = 238 ∧ x = x from ⟨rfl, rfl⟩)]
  · rw [dI_s, if_neg (show ¬ (239 = 207 ∧ x = 55) by omega), dI_s, if_neg (show ¬ (239 = 240 ∧ x = x) by omega), dI_s, if_pos (show 239 = 239 ∧ x = x from ⟨rfl, rfl⟩)]
  · rw [dI_s, if_neg (show ¬ (240 = 207 ∧ x = 55) by omega), dI_s, if_pos (show 240 = 240 ∧ x = x from ⟨rfl, rfl⟩)]
/-- the end of a list -/
theorem fl_nil {N nu x sv pc B : Nat} {V : Nat → Nat} {D0 C0 M0 C M : Dat} (hP : FP nu D0 C0 M0 x sv pc V C M) : FlG N nu D0 C0 M0 B x sv pc (-1) C M (some (.inr (), C)) := ⟨C, M, V, 0, Nat.zero_le _, rfl, fun _ => rfl, hP, Ch.rf, Ch.rf⟩
theorem fl_do {N nu P nb h cnt bz ez B : Nat} {W K V : Nat → Nat} {D0 C0 M0 C M : Dat} (hE : FE nu P nb h cnt bz ez W K D0 C0 M0) {x sv pc i w : Nat} (hP : FP nu D0 C0 M0 x sv pc V C M) (hi : i < cnt) {rec : RcT} (hx : x ≤ 47) (hW : W i ≤ 5 * w + 4) (hrec : RecP N nu nb h cnt W D0 C0 M0 rec B x w) (hk : dI C0 (nb + i) 0 = 18) : StG N nu nb h K D0 C0 M0 rec (B + 2) x sv pc i C M ∨ StB N nu nb h K rec (B + 2) x pc i C M := by
  obtain ⟨hS, hR2, h10, ⟨h61, hPP⟩, hG, hRo, hK7, ⟨hh1, hh2⟩, hNS⟩ := id hE
  obtain ⟨hFs, -, hPr, ⟨hcnt, hbz, hez⟩, hP5⟩ := hG
  have hNSv : 266 ≤ nb := hNS
  have k7 := hK7 i hi
  obtain ⟨hV, hpc, ⟨h55, h56, hsv⟩, h40⟩ := id hP
  have hC := hV.1
  have hM := hV.2.1
  have in128 := nn_in (k := 64 * h + i) (n := 128) (by omega) (by omega)
  have cI : ∀ k, dI C (nb + i) k = dI C0 (nb + i) k := fun k => hC.i (by unfold FC; omega)
  have c61 : dR C 6 1 = some P := by rw [hC.r (by unfold FC; omega)]; exact h61
  have hq : dI M0 216 (64 * h + i) = 7 ∧ ∃ y, y < 26 ∧ dI C0 (nb + i) 2 = nn y ∧ dI M0 218 (64 * h + i) = nn y ∧ dI M0 229 y = 5 := by
    rcases (hFs i hi).1.2 with ⟨q, -⟩ | ⟨q, -⟩ | ⟨q, -⟩ | ⟨q, -⟩ | ⟨q, -⟩ | ⟨q, -⟩ | ⟨q, q2, q3⟩
    · rw [q] at hk; exact absurd hk (by decide)
    · rw [q] at hk; exact absurd hk (by decide)
    · rw [q] at hk; exact absurd hk (by decide)
    · rw [q] at hk; exact absurd hk (by decide)
    · rw [q] at hk; exact absurd hk (by decide)
    · rw [q] at hk; exact absurd hk (by decide)
    · exact ⟨q2, q3⟩
  obtain ⟨q2, y, y1, y2, y3, y4⟩ := hq
  have hLk := hPr y y1 y4
  obtain ⟨Mp, p1, p2, p3, p4, p5, p6⟩ := fl_push (k := 7) (m := nn (64 * h + i)) (show x < 300 by omega) h55
  have pI : ∀ a k, a < 238 → ¬ (a = 207 ∧ k = 55) → dI Mp a k = dI M a k := fun a k g1 g2 => p2.i (by omega)
  have pM : Ch FM M0 Mp := hM.tr (p2.mono (fun a k q => by unfold FM; omega))
  have hPp : FP nu D0 C0 M0 (x + 1) sv pc V C Mp := ⟨⟨hC, pM, fun u hu => by rw [pI 237 u (by omega) (by omega)]; exact hV.2.2 u hu⟩, by rw [pI 207 54 (by omega) (by omega)]; exact hpc, ⟨p3, by rw [pI 207 56 (by omega) (by omega)]; exact h56, by omega⟩, by rw [pI 207 40 (by omega) (by omega)]; exact h40⟩
  have ft : f_X12_flowThrough N (nn (64 * h + i)) M = some (dI M0 227 (26 * h + y), Mp) := by
    unfold f_X12_flowThrough
    simp only [if_neg in128]
    rw [nn_nat (by omega), hM.i (by unfold FM; omega), q2, if_neg (show ¬ (7 : Int32) = 1 by decide), if_neg (show ¬ (7 : Int32) = 2 by decide), if_neg (show ¬ (7 : Int32) = 5 by decide), if_neg (show ¬ (7 : Int32) = 6 by decide), if_pos rfl, p1, bS]
    have e35 : dI Mp 207 35 = nn h := by rw [pI 207 35 (by omega) (by omega), hM.i (by unfold FM; omega)]; exact hh2
    have e18 : dI Mp 218 (64 * h + i) = nn y := by rw [pI 218 _ (by omega) (by omega), hM.i (by unfold FM; omega)]; exact y3
    rw [e35, e18, show (26 : Int32) * nn h + nn y = nn (26 * h + y) by rw [nn_l, nn_mul, nn_add], if_neg (nn_in (by omega) (by omega)), nn_nat (by omega), pI 227 _ (by omega) (by omega), hM.i (by unfold FM; omega)]
  have cs : ∀ g, f_X1_goThrough_s_b10 rec N nu K (g + 1) (nn pc) (nn x) (some (nb + i)) C = sb (rec (dR C0 (P + 1) y) (nn pc) (nn (x + 1)) C) (fun p12 D14 => f_X1_goThrough_s_b260 rec N nu K (f_X1_goThrough_s_b10 rec N nu K g) (nn pc) (nn x) (some (nb + i)) D14) := by
    intro g
    rw [f_X1_goThrough_s_b10, oelS, if_pos k7, cI, hk, if_neg (show ¬ (18 : Int32) = 2 by decide), if_neg (show ¬ (18 : Int32) = 4 by decide), if_neg (show ¬ (18 : Int32) = 13 by decide), if_neg (show ¬ (18 : Int32) = 14 by decide), if_neg (show ¬ (18 : Int32) = 16 by decide), if_neg (show ¬ (18 : Int32) = 17 by decide)]
    unfold f_X1_goThrough_s_b240
    rw [bS, if_pos k7, c61, bS, if_pos hPP, cI, y2, e4_proc y1, bS, hC.r (by unfold FC; omega), nn_1]
  have hw : ∀ i', dR C0 (P + 1) y = some (nb + i') → W i' + 5 ≤ 5 * w + 4 := fun i' q => by
    have := ((hFs i hi).2.2.1.2 hk y y1 y2 i' q).2
    omega
  rcases hrec (dR C0 (P + 1) y) (dI M0 227 (26 * h + y)) sv pc V C Mp hLk hw hPp with ⟨C', M', V', k, r1, r2, r3, r4, r5, r6⟩ | ⟨C', M', q, k, r1, r2, r3, r4, r5, r6, r7⟩
  · left
    obtain ⟨u1, u2, ⟨u3, u4, u5⟩, u6⟩ := id r4
    have s8 : dI M' 238 x = 7 := by rw [r6.i (by unfold FMx; omega)]; exact p4
    have s9 : dI M' 239 x = nn (64 * h + i) := by rw [r6.i (by unfold FMx; omega)]; exact p5
    have fb : f_X12_flowBack N M' = some (dI M0 224 (64 * h + i), sI M' 207 55 (nn x)) := by
      unfold f_X12_flowBack
      rw [u3, show nn (x + 1) - (1 : Int32) = nn x from by rw [show (1 : Int32) = nn 1 from rfl, nn_sub (by omega) (by omega)]; rfl]
      simp only [if_neg (nn_in (k := x) (n := 300) (by omega) (by omega))]
      rw [nn_nat (by omega), s8, if_pos rfl, s9, if_neg in128, nn_nat (by omega)]
      show some (dI M' 224 (64 * h + i), _) = _
      rw [u1.2.1.i (by unfold FM; omega)]
    have eI : ∀ k, ¬ k = 55 → dI (sI M' 207 55 (nn x)) 207 k = dI M' 207 k := fun k hk' => by rw [dI_s, if_neg (fun q => hk' q.2)]
    refine ⟨C', sI M' 207 55 (nn x), V', k + 2, by omega, fun g => ?_, fun g => ?_, ⟨⟨u1.1, Ch.sI (by unfold FM; omega) u1.2.1, fun u hu => u1.2.2 u hu⟩, by rw [eI 54 (by omega)]; exact u2, ⟨rfl, by rw [eI 56 (by omega)]; exact u4, hsv⟩, by rw [eI 40 (by omega)]; exact u6⟩, r5.mono (fun a k q => by unfold FCx at q ⊢; omega), Ch.sI (by unfold FMx; omega) ((p2.mono (fun a k q => by unfold FMx; omega)).tr (r6.mono (fun a k q => by unfold FMx at q ⊢; omega)))⟩
    · rw [cs, r2]
      show f_X1_goThrough_s_b260 rec N nu K (f_X1_goThrough_s_b10 rec N nu K g) (nn pc) (nn x) (some (nb + i)) C' = _
      unfold f_X1_goThrough_s_b260
      rw [bS, if_pos k7, u1.1.r (by unfold FC; omega)]
    · rw [show g + (k + 2) = (g + 1 + k) + 1 by omega, fl_st (by omega) h40, ft, bS]
      show f_X12_flow_b71 N (g + 1 + k) (dI M0 227 (26 * h + y)) Mp = _
      rw [r3, fl_bk (show x < 300 by omega) u6 u3, fb, bS]
  · right
    refine ⟨C', M', q, k + 1, by omega, r2, fun g => by rw [cs, r3]; rfl, r4, fun g => ?_, r6, (p2.mono (fun a k q => by unfold FM; omega)).tr r7⟩
    rw [show g + (k + 1) = (g + k) + 1 by omega, fl_st (by omega) h40, ft, bS]
    exact r5 g
