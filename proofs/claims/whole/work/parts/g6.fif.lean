/-! flows: if -/
/-- the model enters a block: labels kept, the condition joined to the path's label -/
theorem fl_enter {N nu P nb h cnt bz ez : Nat} {W K V : Nat → Nat} {D0 C0 M0 C M : Dat} (hN : 1000 ≤ N) (hE : FE nu P nb h cnt bz ez W K D0 C0 M0) {x sv pc i e s : Nat} {z : Int32} (hP : FP nu D0 C0 M0 x sv pc V C M) (hi : i < cnt) (hx : x ≤ 47) (hk : dI M0 216 (64 * h + i) = 3 ∨ dI M0 216 (64 * h + i) = 4) (he : dI M0 220 (64 * h + i) = nn e) (hz : ∀ C' M' V', FV nu D0 C0 M0 C' M' V' → (∀ t, t < 26 → dI C' 7 t = dI C 7 t) → (∀ t, t < 26 → dI M' 237 t = dI M 237 t) → f_X12_itemsLabel N (nn e) M' = some (z, M')) (hzs : lb nu D0 z s) : ∃ M', f_X12_flowThrough N (nn (64 * h + i)) M = some (dI M0 222 (64 * h + i), M') ∧ FP nu D0 C0 M0 (x + 1) (sv + 1) (pc ||| s) V C M' ∧ Ch (FMx x sv) M M' ∧ (dI M' 238 x = dI M0 216 (64 * h + i) ∧ dI M' 239 x = nn (64 * h + i) ∧ lb nu D0 (dI M' 240 x) pc) ∧ ∀ t, t < 26 → dI M' 241 (52 * sv + t) = dI M 237 t := by
  obtain ⟨hS, hR2, h10, ⟨h61, hPP⟩, hG, hRo, hK7, ⟨hh1, hh2⟩, hNS⟩ := id hE
  obtain ⟨hFs, -, hPr, ⟨hcnt, hbz, hez⟩, hP5⟩ := hG
  obtain ⟨hV, hpc, ⟨h55, h56, hsv⟩, h40⟩ := id hP
  have hC := hV.1
  have hM := hV.2.1
  have in128 := nn_in (k := 64 * h + i) (n := 128) (by omega) (by omega)
  obtain ⟨Mp, p1, p2, p3, p4, p5, p6⟩ := fl_push (k := dI M0 216 (64 * h + i)) (m := nn (64 * h + i)) (show x < 300 by omega) h55
  have pI : ∀ a k, a < 238 → ¬ (a = 207 ∧ k = 55) → dI Mp a k = dI M a k := fun a k g1 g2 => p2.i (by omega)
  obtain ⟨Ms, s1, s2, s3⟩ := ms_save (N := N) (m := nn (64 * h + i)) (show sv ≤ 47 by omega) 26 0 (N - 27 + 1) Mp (by omega) (by rw [pI 207 56 (by omega) (by omega)]; exact h56)
  have sI' : ∀ a k, ¬ a = 241 → dI Ms a k = dI Mp a k := fun a k g1 => s2.i (fun q => g1 q.1)
  have i56 : dI Ms 207 56 = nn sv := by rw [sI' _ _ (by omega), pI 207 56 (by omega) (by omega)]; exact h56
  have cM : Ch (FMx x sv) M (sI Ms 207 56 (nn (sv + 1))) := Ch.sI (by unfold FMx; omega) ((p2.mono (fun a k q => by unfold FMx; omega)).tr (s2.mono (fun a k q => by unfold FMx; omega)))
  have m7 : ∀ t, dI (sI Ms 207 56 (nn (sv + 1))) 237 t = dI M 237 t := fun t => by
    show dI Ms 237 t = _
    rw [sI' _ _ (by omega), pI 237 t (by omega) (by omega)]
  have fv : FV nu D0 C0 M0 C (sI Ms 207 56 (nn (sv + 1))) V := ⟨hC, hM.tr (cM.mono (fun a k q => fmx_FM q)), fun t ht => by rw [m7]; exact hV.2.2 t ht⟩
  have m54 : dI (sI Ms 207 56 (nn (sv + 1))) 207 54 = dI M 207 54 := by
    show dI Ms 207 54 = _
    rw [sI' _ _ (by omega), pI 207 54 (by omega) (by omega)]
  have il := hz C _ V fv (fun t _ => rfl) (fun t _ => m7 t)
  obtain ⟨z2, j1, j2⟩ := fl_join hE fv.2.1 (by rw [m54]; exact hpc : lb nu D0 (dI (sI Ms 207 56 (nn (sv + 1))) 207 54) pc) hzs
  have mF : ∀ a, 216 ≤ a → a ≤ 224 → dI (sI Ms 207 56 (nn (sv + 1))) a (64 * h + i) = dI M0 a (64 * h + i) := fun a g1 g2 => fv.2.1.i (by unfold FM; omega)
  refine ⟨sI (sI Ms 207 56 (nn (sv + 1))) 207 54 z2, ?_, ⟨⟨hC, Ch.sI (by unfold FM; omega) fv.2.1, fun t ht => fv.2.2 t ht⟩, j2, ⟨?_, rfl, by omega⟩, ?_⟩, Ch.sI (by unfold FMx; omega) cM, ⟨?_, ?_, ?_⟩, fun t ht => ?_⟩
  · have e0 : dI M 216 (64 * h + i) = dI M0 216 (64 * h + i) := hM.i (by unfold FM; omega)
    have n1 : ¬ dI M0 216 (64 * h + i) = 1 := fun q => by rw [q] at hk; exact absurd hk (by decide)
    have n2 : ¬ dI M0 216 (64 * h + i) = 2 := fun q => by rw [q] at hk; exact absurd hk (by decide)
    have n5 : ¬ dI M0 216 (64 * h + i) = 5 := fun q => by rw [q] at hk; exact absurd hk (by decide)
    have n6 : ¬ dI M0 216 (64 * h + i) = 6 := fun q => by rw [q] at hk; exact absurd hk (by decide)
    have n7 : ¬ dI M0 216 (64 * h + i) = 7 := fun q => by rw [q] at hk; exact absurd hk (by decide)
    unfold f_X12_flowThrough f_X12_flowThrough_b234
    simp only [if_neg in128]
    rw [nn_nat (by omega), e0, if_neg n1, if_neg n2, if_neg n5, if_neg n6, if_neg n7, p1, bS]
    rw [show N - 27 + 1 + 26 = N by omega] at s1
    refine (show f_X12_flowThrough_b247 N N (nn (64 * h + i)) 0 Mp = _ from s1).trans ?_
    rw [f_X12_flowThrough_b247, if_pos (by decide)]
    simp only [if_neg in128]
    rw [nn_nat (by omega), i56, nn_1, mF 220 (by omega) (by omega), he, il, bS]
    show (f_X12_join (dI (sI Ms 207 56 (nn (sv + 1))) 207 54) z (sI Ms 207 56 (nn (sv + 1)))).bind _ = _
    rw [j1, bS]
    show some (dI (sI Ms 207 56 (nn (sv + 1))) 222 (64 * h + i), _) = _
    rw [mF 222 (by omega) (by omega)]
  · show dI Ms 207 55 = _
    rw [sI' _ _ (by omega)]
    exact p3
  · show dI Ms 207 40 = _
    rw [sI' _ _ (by omega), pI 207 40 (by omega) (by omega)]
    exact h40
  · show dI Ms 238 x = _
    rw [sI' _ _ (by omega)]
    exact p4
  · show dI Ms 239 x = _
    rw [sI' _ _ (by omega)]
    exact p5
  · show lb nu D0 (dI Ms 240 x) pc
    rw [sI' _ _ (by omega), p6]
    exact hpc
  · show dI Ms 241 (52 * sv + t) = _
    rw [s3 t (by omega) ht, pI 237 t (by omega) (by omega)]
