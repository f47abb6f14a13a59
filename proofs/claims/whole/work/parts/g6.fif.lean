/-! flows: if -/
/-- the model enters a block: labels kept, the condition joined to the path's label -/
theorem fl_enter {N nu P nb h cnt bz ez : Nat} {W K V : Nat → Nat} {D0 C0 M0 C M : Dat} (hN : 1000 ≤ N) (hE : FE nu P nb h cnt bz ez W K D0 C0 M0) {x sv pc i e : Nat} (hP : FP nu D0 C0 M0 x sv pc V C M) (hi : i < cnt) (hx : x ≤ 47) (hk : dI M0 216 (64 * h + i) = 3 ∨ dI M0 216 (64 * h + i) = 4) (he : dI M0 220 (64 * h + i) = nn e) (hex : FsE P h bz ez C0 M0 (nb + i) e) : ∃ s M', f_X1_shadeOf N nu K (some (nb + i)) C = some (nn s, C) ∧ s < 64 ∧ f_X12_flowThrough N (nn (64 * h + i)) M = some (dI M0 222 (64 * h + i), M') ∧ FP nu D0 C0 M0 (x + 1) (sv + 1) (pc ||| s) V C M' ∧ Ch (FMx x sv) M M' ∧ (dI M' 238 x = dI M0 216 (64 * h + i) ∧ dI M' 239 x = nn (64 * h + i) ∧ lb nu D0 (dI M' 240 x) pc) ∧ ∀ t, t < 26 → dI M' 241 (52 * sv + t) = dI M 237 t := by
  obtain ⟨hS, hR2, h10, ⟨h61, hPP⟩, hG, hRo, hK7, ⟨hh1, hh2⟩, hNS⟩ := id hE
  obtain ⟨hFs, -, hPr, ⟨hcnt, hbz, hez⟩, hP5⟩ := hG
  obtain ⟨hV, hpc, ⟨h55, h56, hsv⟩, h40⟩ := id hP
  have hC := hV.1
  have hM := hV.2.1
  have in128 := nn_in (k := 64 * h + i) (n := 128) (by omega) (by omega)
  obtain ⟨Mp, p1, p2, p3, p4, p5, p6⟩ := fl_push (k := dI M0 216 (64 * h + i)) (m := nn (64 * h + i)) (show x < 300 by omega) h55
  have pI : ∀ a k, a < 238 → ¬ (a = 207 ∧ k = 55) → dI Mp a k = dI M a k := fun a k g1 g2 => p2.i (by omega)
  obtain ⟨Ms, s1, s2, s3⟩ := ms_save (N := N) (m := nn (64 * h + i)) (show sv ≤ 47 by omega) 26 0 (N - 27 + 1) Mp (by omega) (by rw [pI 207 56 (by omega) (by omega)]; exact h56)
  have sI' : ∀ a k, ¬ a = 241 → dI Ms a k = dI Mp a k := fun a k g1 => s2.i (fun q => g1 q.1)
  have i56 : dI Ms 207 56 = nn sv := by rw [sI' _ _ (by omega), pI 207 56 (by omega) (by omega)]; exact h56
  have cM : Ch (FMx x sv) M (sI Ms 207 56 (nn (sv + 1))) := Ch.sI (by unfold FMx; omega) ((p2.mono (fun a k q => by unfold FMx; omega)).tr (s2.mono (fun a k q => by unfold FMx; omega)))
  have m7 : ∀ t, dI (sI Ms 207 56 (nn (sv + 1))) 237 t = dI M 237 t := fun t => by
    show dI Ms 237 t = _
    rw [sI' _ _ (by omega), pI 237 t (by omega) (by omega)]
  have fv : FV nu D0 C0 M0 C (sI Ms 207 56 (nn (sv + 1))) V := ⟨hC, hM.tr (cM.mono (fun a k q => fmx_FM q)), fun t ht => by rw [m7]; exact hV.2.2 t ht⟩
  have m54 : dI (sI Ms 207 56 (nn (sv + 1))) 207 54 = dI M 207 54 := by
    show dI Ms 207 54 = _
    rw [sI' _ _ (by omega), pI 207 54 (by omega) (by omega)]
  obtain ⟨s, z, ish, il, hzs⟩ := fl_ex (N := N) hN hE fv hi hex
  obtain ⟨z2, j1, j2⟩ := fl_join hE fv.2.1 (by rw [m54]; exact hpc : lb nu D0 (dI (sI Ms 207 56 (nn (sv + 1))) 207 54) pc) hzs
  have mF : ∀ a, 216 ≤ a → a ≤ 224 → dI (sI Ms 207 56 (nn (sv + 1))) a (64 * h + i) = dI M0 a (64 * h + i) := fun a g1 g2 => fv.2.1.i (by unfold FM; omega)
  refine ⟨s, sI (sI Ms 207 56 (nn (sv + 1))) 207 54 z2, ish, lb_lt hS hzs, ?_, ⟨⟨hC, Ch.sI (by unfold FM; omega) fv.2.1, fun t ht => fv.2.2 t ht⟩, j2, ⟨?_, rfl, by omega⟩, ?_⟩, Ch.sI (by unfold FMx; omega) cM, ⟨?_, ?_, ?_⟩, fun t ht => ?_⟩
  · have e0 : dI M 216 (64 * h + i) = dI M0 216 (64 * h + i) := hM.i (by unfold FM; omega)
    have n1 : ¬ dI M0 216 (64 * h + i) = 1 := fun q => by rw [q] at hk; exact absurd hk (by decide)
    have n2 : ¬ dI M0 216 (64 * h + i) = 2 := fun q => by rw [q] at hk; exact absurd hk (by decide)
    have n5 : ¬ dI M0 216 (64 * h + i) = 5 := fun q => by rw [q] at hk; exact absurd hk (by decide)
    have n6 : ¬ dI M0 216 (64 * h + i) = 6 := fun q => by rw [q] at hk; exact absurd hk (by decide)
    have n7 : ¬ dI M0 216 (64 * h + i) = 7 := fun q => by rw [q] at hk; exact absurd hk (by decide)
    unfold f_X12_flowThrough f_X12_flowThrough_b234
    simp only [if_neg in128]
    rw [nn_nat (by omega), e0, if_neg n1, if_neg n2, if_neg n5, if_neg n6, if_neg n7, p1, bS]
    rw [show N - 27 + 1 + 26 = N by omega] at s1
    refine (show f_X12_flowThrough_b247 N N (nn (64 * h + i)) 0 Mp = _ from s1).trans ?_
    rw [f_X12_flowThrough_b247, if_pos (by decide)]
    simp only [if_neg in128]
    rw [nn_nat (by omega), i56, nn_1, mF 220 (by omega) (by omega), he, il, bS]
    show (f_X12_join (dI (sI Ms 207 56 (nn (sv + 1))) 207 54) z (sI Ms 207 56 (nn (sv + 1)))).bind _ = _
    rw [j1, bS]
    show some (dI (sI Ms 207 56 (nn (sv + 1))) 222 (64 * h + i), _) = _
    rw [mF 222 (by omega) (by omega)]
  · show dI Ms 207 55 = _
    rw [sI' _ _ (by omega)]
    exact p3
  · show dI Ms 207 40 = _
    rw [sI' _ _ (by omega), pI 207 40 (by omega) (by omega)]
    exact h40
  · show dI Ms 238 x = _
    rw [sI' _ _ (by omega)]
    exact p4
  · show dI Ms 239 x = _
    rw [sI' _ _ (by omega)]
    exact p5
  · show lb nu D0 (dI Ms 240 x) pc
    rw [sI' _ _ (by omega), p6]
    exact hpc
  · show dI Ms 241 (52 * sv + t) = _
    rw [s3 t (by omega) ht, pI 237 t (by omega) (by omega)]
/-- the model leaves a block: labels joined with kept ones -/
theorem fl_bjoin {N nu P nb h cnt bz ez : Nat} {W K V : Nat → Nat} {D0 C0 M0 C M : Dat} (hN : 1000 ≤ N) (hE : FE nu P nb h cnt bz ez W K D0 C0 M0) {x sv pc pc' m o : Nat} {kn : Int32} {A : Nat → Nat} (hP : FP nu D0 C0 M0 (x + 1) (sv + 1) pc' V C M) (hm : m < 128) (hx : x ≤ 47) (ho : (kn = 8 ∧ o = 52 * sv + 26) ∨ (kn = 3 ∧ o = 52 * sv ∧ ¬ dI M0 219 m = 1)) (k8 : dI M 238 x = kn) (k9 : dI M 239 x = nn m) (k0 : lb nu D0 (dI M 240 x) pc) (hA : ∀ t, t < 26 → lb nu D0 (dI M 241 (o + t)) (A t)) : ∃ M', f_X12_flowBack N M = some (dI M0 224 m, M') ∧ Ch (FMx x sv) M M' ∧ (∀ t, t < 26 → lb nu D0 (dI M' 237 t) (A t ||| V t)) ∧ lb nu D0 (dI M' 207 54) pc ∧ (dI M' 207 55 = nn x ∧ dI M' 207 56 = nn sv) ∧ dI M' 207 40 = -1 := by
  obtain ⟨hV, hpc, ⟨h55, h56, hsv⟩, h40⟩ := id hP
  have hM := hV.2.1
  have in128 := nn_in (k := m) (n := 128) (by omega) hm
  have e1 : nn (x + 1) - (1 : Int32) = nn x := by rw [show (1 : Int32) = nn 1 from rfl, nn_sub (by omega) (by omega)]; rfl
  have e2 : (52 : Int32) * nn (sv + 1) - (52 : Int32) = nn (52 * sv) := by
    rw [show (52 : Int32) = nn 52 from rfl, nn_mul, nn_sub (by omega) (by omega), show 52 * (sv + 1) - 52 = 52 * sv by omega]
  have ho' : (kn = 8 ∧ o = 52 * sv + 26) ∨ (¬ kn = 8 ∧ o = 52 * sv) := by
    rcases ho with q | ⟨q1, q2, -⟩
    · exact Or.inl q
    · exact Or.inr ⟨by rw [q1]; decide, q2⟩
  obtain ⟨Mj, f, j1, j2, j3, -⟩ := ms_join (N := N) (m := nn m) hE (show 52 * sv ≤ 2444 by omega) ho' (A := A) (B := V) 26 0 (N - 27 + 1) false M (by omega) hM hA (fun t ht => by rw [if_neg (by omega)]; exact (hV.2.2 t ht).2)
  have jI : ∀ a k, ¬ a = 237 → dI Mj a k = dI M a k := fun a k g1 => j2.i g1
  have lv := fl_leave (M := Mj) (show x < 300 by omega) hm (by rw [jI _ _ (by omega)]; exact h55) (by rw [jI _ _ (by omega)]; exact h56) (show sv ≤ 47 by omega)
  have fb : f_X12_flowBack N M = f_X12_flowBack_b144 N kn (nn m) (nn (52 * sv)) M := by
    unfold f_X12_flowBack
    rw [h55, e1]
    simp only [if_neg (nn_in (k := x) (n := 300) (by omega) (by omega))]
    rw [nn_nat (by omega), k8, k9, h56, e2]
    rcases ho with ⟨q, -⟩ | ⟨q, -, q3⟩
    · rw [q, if_neg (show ¬ (8 : Int32) = 7 by decide), if_neg (show ¬ (8 : Int32) = 3 by decide)]
    · rw [q, if_neg (show ¬ (3 : Int32) = 7 by decide), if_pos rfl, if_neg in128, nn_nat (by omega), if_neg (by rw [hM.i (by unfold FM; omega)]; exact q3)]
  have n4 : ¬ kn = 4 := by
    rcases ho with ⟨q, -⟩ | ⟨q, -⟩ <;> rw [q] <;> decide
  refine ⟨sI (sI (sI Mj 207 55 (nn x)) 207 56 (nn sv)) 207 54 (dI Mj 240 x), ?_, Ch.sI (by unfold FMx; omega) (Ch.sI (by unfold FMx; omega) (Ch.sI (by unfold FMx; omega) (j2.mono (fun a k q => Or.inr (Or.inl q))))), fun t ht => j3 t ht, ?_, ⟨rfl, rfl⟩, ?_⟩
  · rw [fb]
    unfold f_X12_flowBack_b144
    rw [show N - 27 + 1 + 26 = N by omega] at j1
    refine (show f_X12_flowBack_b150 N N kn (nn m) (nn (52 * sv)) 0 0 M = _ from j1).trans ?_
    rw [f_X12_flowBack_b150, if_pos (by decide), if_neg n4]
    unfold f_X12_flowBack_b240
    rw [lv, bS, jI _ _ (by omega), hM.i (by unfold FM; omega)]
  · show lb nu D0 (dI Mj 240 x) pc
    rw [jI _ _ (by omega)]
    exact k0
  · show dI Mj 207 40 = -1
    rw [jI _ _ (by omega)]
    exact h40
/-- the model goes from the first block to the second -/
theorem fl_bswap {N nu P nb h cnt bz ez : Nat} {W K V : Nat → Nat} {D0 C0 M0 C M : Dat} (hN : 1000 ≤ N) (hE : FE nu P nb h cnt bz ez W K D0 C0 M0) {x sv pc' m : Nat} (hP : FP nu D0 C0 M0 (x + 1) (sv + 1) pc' V C M) (hm : m < 128) (hx : x ≤ 47) (h19 : dI M0 219 m = 1) (k8 : dI M 238 x = 3) (k9 : dI M 239 x = nn m) : ∃ M', f_X12_flowBack N M = some (dI M0 223 m, M') ∧ Ch (FMx x sv) M M' ∧ (∀ t, t < 26 → dI M' 241 (52 * sv + 26 + t) = dI M 237 t ∧ dI M' 237 t = dI M 241 (52 * sv + t)) ∧ dI M' 238 x = 8 ∧ (dI M' 239 x = nn m ∧ dI M' 240 x = dI M 240 x) ∧ ∀ k, dI M' 207 k = dI M 207 k := by
  obtain ⟨hV, hpc, ⟨h55, h56, hsv⟩, h40⟩ := id hP
  have hM := hV.2.1
  have in128 := nn_in (k := m) (n := 128) (by omega) hm
  have e1 : nn (x + 1) - (1 : Int32) = nn x := by rw [show (1 : Int32) = nn 1 from rfl, nn_sub (by omega) (by omega)]; rfl
  have e2 : (52 : Int32) * nn (sv + 1) - (52 : Int32) = nn (52 * sv) := by
    rw [show (52 : Int32) = nn 52 from rfl, nn_mul, nn_sub (by omega) (by omega), show 52 * (sv + 1) - 52 = 52 * sv by omega]
  obtain ⟨Mj, j1, j2, j3⟩ := ms_swap (N := N) (m := nn m) (show 52 * sv ≤ 2444 by omega) 26 0 (N - 27 + 1) M (by omega)
  have jI : ∀ a k, ¬ a = 237 → ¬ a = 241 → dI Mj a k = dI M a k := fun a k g1 g2 => j2.i (by omega)
  refine ⟨sI Mj 238 x 8, ?_, Ch.sI (by unfold FMx; omega) (j2.mono (fun a k q => by unfold FMx; omega)), fun t ht => j3 t (by omega) ht, ?_, ⟨?_, ?_⟩, fun k => ?_⟩
  · unfold f_X12_flowBack
    rw [h55, e1]
    simp only [if_neg (nn_in (k := x) (n := 300) (by omega) (by omega))]
    rw [nn_nat (by omega), k8, k9, h56, e2, if_neg (show ¬ (3 : Int32) = 7 by decide), if_pos rfl, if_neg in128, nn_nat (by omega), hM.i (by unfold FM; omega), h19, if_pos rfl]
    rw [show N - 27 + 1 + 26 = N by omega] at j1
    refine (show f_X12_flowBack_b76 N N (nn m) (nn (52 * sv)) 0 M = _ from j1).trans ?_
    rw [f_X12_flowBack_b76, if_pos (by decide), jI 207 55 (by omega) (by omega), h55, e1, if_neg (nn_in (k := x) (n := 300) (by omega) (by omega)), if_neg in128, nn_nat (k := x) (by omega), nn_nat (k := m) (by omega)]
    show some (dI Mj 223 m, _) = _
    rw [jI 223 _ (by omega) (by omega), hM.i (by unfold FM; omega)]
  · rw [dI_s, if_pos (show 238 = 238 ∧ x = x from ⟨rfl, rfl⟩)]
  · show dI Mj 239 x = _
    rw [jI _ _ (by omega) (by omega)]
    exact k9
  · show dI Mj 240 x = _
    exact jI _ _ (by omega) (by omega)
  · show dI Mj 207 k = _
    exact jI _ _ (by omega) (by omega)
