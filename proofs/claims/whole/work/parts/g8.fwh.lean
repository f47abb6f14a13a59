/-! flows: the model at the end of a loop's block -/
theorem fl_bwhile {N nu P nb h cnt bz ez : Nat} {W K V : Nat → Nat} {D0 C0 M0 C C2 M : Dat} (hN : 1000 ≤ N) (hE : FE nu P nb h cnt bz ez W K D0 C0 M0) {x sv pc pc' i e : Nat} {A : Nat → Nat} (hP : FP nu D0 C0 M0 (x + 1) (sv + 1) pc' V C M) (hi : i < cnt) (hx : x ≤ 47) (he : dI M0 220 (64 * h + i) = nn e) (hex : FsE P h bz ez C0 M0 (nb + i) e) (k8 : dI M 238 x = 4) (k9 : dI M 239 x = nn (64 * h + i)) (k0 : lb nu D0 (dI M 240 x) pc) (hA : ∀ t, t < 26 → lb nu D0 (dI M 241 (52 * sv + t)) (A t)) (hC2 : Ch FC C0 C2) (hC7 : ∀ t, t < 26 → dI C2 7 t = nn (A t ||| V t)) : ((∀ t, t < 26 → A t ||| V t = A t) ∧ ∃ M', f_X12_flowBack N M = some (dI M0 224 (64 * h + i), M') ∧ Ch (FMx x sv) M M' ∧ FP nu D0 C0 M0 x sv pc (fun t => A t ||| V t) C2 M') ∨ ((∃ t, t < 26 ∧ ¬ A t ||| V t = A t) ∧ ∃ s M', f_X1_shadeOf N nu K (some (nb + i)) C2 = some (nn s, C2) ∧ s < 64 ∧ f_X12_flowBack N M = some (dI M0 222 (64 * h + i), M') ∧ FP nu D0 C0 M0 (x + 1) (sv + 1) (pc ||| s) (fun t => A t ||| V t) C2 M' ∧ Ch (FMx x sv) M M' ∧ (dI M' 238 x = 4 ∧ dI M' 239 x = nn (64 * h + i) ∧ lb nu D0 (dI M' 240 x) pc) ∧ ∀ t, t < 26 → lb nu D0 (dI M' 241 (52 * sv + t)) (A t ||| V t)) := by
  obtain ⟨hS, hR2, h10, ⟨h61, hPP⟩, hG, hRo, hK7, ⟨hh1, hh2⟩, hNS⟩ := id hE
  obtain ⟨hFs, -, hPr, ⟨hcnt, hbz, hez⟩, hP5⟩ := hG
  obtain ⟨hV, hpc, ⟨h55, h56, hsv⟩, h40⟩ := id hP
  have hM := hV.2.1
  have in128 := nn_in (k := 64 * h + i) (n := 128) (by omega) (by omega)
  have e1 : nn (x + 1) - (1 : Int32) = nn x := by rw [show (1 : Int32) = nn 1 from rfl, nn_sub (by omega) (by omega)]; rfl
  have e2 : (52 : Int32) * nn (sv + 1) - (52 : Int32) = nn (52 * sv) := by
    rw [show (52 : Int32) = nn 52 from rfl, nn_mul, nn_sub (by omega) (by omega), show 52 * (sv + 1) - 52 = 52 * sv by omega]
  obtain ⟨Mj, f, j1, j2, j3, j4⟩ := ms_join (N := N) (kn := 4) (m := nn (64 * h + i)) hE (show 52 * sv ≤ 2444 by omega) (Or.inr ⟨by decide, rfl⟩) (A := A) (B := V) 26 0 (N - 27 + 1) false M (by omega) hM hA (fun t ht => by rw [if_neg (by omega)]; exact (hV.2.2 t ht).2)
  have jI : ∀ a k, ¬ a = 237 → dI Mj a k = dI M a k := fun a k g1 => j2.i g1
  have hMj : Ch FM M0 Mj := hM.tr (j2.mono (fun a k q => by unfold FM; omega))
  have fb : f_X12_flowBack N M = f_X12_flowBack_b150 N (N - 27 + 1) 4 (nn (64 * h + i)) (nn (52 * sv)) (wi f) 26 Mj := by
    rw [show N - 27 + 1 + 26 = N by omega] at j1
    refine Eq.trans ?_ j1
    unfold f_X12_flowBack
    rw [h55, e1]
    simp only [if_neg (nn_in (k := x) (n := 300) (by omega) (by omega))]
    rw [nn_nat (by omega), k8, k9, h56, e2, if_neg (show ¬ (4 : Int32) = 7 by decide), if_neg (show ¬ (4 : Int32) = 3 by decide)]
    rfl
  rw [fb, f_X12_flowBack_b150, if_pos (by decide), if_pos rfl]
  cases f with
  | false =>
    left
    have hs : ∀ t, t < 26 → A t ||| V t = A t := fun t ht => Classical.not_not.mp (fun c => absurd (j4.mpr (Or.inr ⟨t, Nat.zero_le _, ht, c⟩)) (by decide))
    have lv := fl_leave (M := Mj) (m := 64 * h + i) (show x < 300 by omega) (by omega) (by rw [jI _ _ (by omega)]; exact h55) (by rw [jI _ _ (by omega)]; exact h56) (show sv ≤ 47 by omega)
    have cF : Ch (FMx x sv) M (sI (sI (sI Mj 207 55 (nn x)) 207 56 (nn sv)) 207 54 (dI Mj 240 x)) := Ch.sI (by unfold FMx; omega) (Ch.sI (by unfold FMx; omega) (Ch.sI (by unfold FMx; omega) (j2.mono (fun a k q => Or.inr (Or.inl q)))))
    refine ⟨hs, sI (sI (sI Mj 207 55 (nn x)) 207 56 (nn sv)) 207 54 (dI Mj 240 x), ?_, cF, ⟨hC2, hM.tr (cF.mono (fun a k q => fmx_FM q)), fun t ht => ⟨hC7 t ht, j3 t ht⟩⟩, ?_, ⟨rfl, rfl, by omega⟩, ?_⟩
    · rw [if_pos (show wi false = 0 by decide)]
      unfold f_X12_flowBack_b240
      rw [lv, bS, jI _ _ (by omega), hM.i (by unfold FM; omega)]
    · show lb nu D0 (dI Mj 240 x) pc
      rw [jI _ _ (by omega)]
      exact k0
    · show dI Mj 207 40 = -1
      rw [jI _ _ (by omega)]
      exact h40
  | true =>
    right
    have hs : ∃ t, t < 26 ∧ ¬ A t ||| V t = A t := by
      rcases j4.mp rfl with q | ⟨t, -, t2, t3⟩
      · exact absurd q (by decide)
      · exact ⟨t, t2, t3⟩
    obtain ⟨Ms, s1, s2, s3⟩ := ms_again (N := N) (m := nn (64 * h + i)) (show 52 * sv ≤ 2444 by omega) 26 0 (N - 27 + 1) Mj (by omega)
    have sJ : ∀ a k, ¬ a = 241 → dI Ms a k = dI Mj a k := fun a k g1 => s2.i (fun q => g1 q.1)
    have cMs : Ch (FMx x sv) M Ms := Ch.tr (j2.mono (fun a k q => Or.inr (Or.inl q))) (s2.mono (fun a k q => by unfold FMx; omega))
    have fv : FV nu D0 C0 M0 C2 Ms (fun t => A t ||| V t) := ⟨hC2, hM.tr (cMs.mono (fun a k q => fmx_FM q)), fun t ht => ⟨hC7 t ht, by rw [sJ _ _ (by omega)]; exact j3 t ht⟩⟩
    obtain ⟨s, z, ish, il, hzs⟩ := fl_ex (N := N) hN hE fv hi hex
    have m40 : lb nu D0 (dI Ms 240 x) pc := by rw [sJ _ _ (by omega), jI _ _ (by omega)]; exact k0
    obtain ⟨z2, y1, y2⟩ := fl_join hE fv.2.1 m40 hzs
    have i7 : ∀ k, dI Ms 207 k = dI M 207 k := fun k => by rw [sJ _ _ (by omega), jI _ _ (by omega)]
    refine ⟨hs, s, sI Ms 207 54 z2, ish, lb_lt hS hzs, ?_, ⟨⟨hC2, Ch.sI (by unfold FM; omega) fv.2.1, fun t ht => fv.2.2 t ht⟩, y2, ⟨?_, ?_, hsv⟩, ?_⟩, Ch.sI (by unfold FMx; omega) cMs, ⟨?_, ?_, m40⟩, fun t ht => ?_⟩
    · rw [if_neg (show ¬ wi true = 0 by decide)]
      rw [show N - 27 + 1 + 26 = N by omega] at s1
      refine (show f_X12_flowBack_b249 N N (nn (64 * h + i)) (nn (52 * sv)) 0 Mj = _ from s1).trans ?_
      rw [f_X12_flowBack_b249, if_pos (by decide), i7, h55, e1, if_neg (nn_in (k := x) (n := 300) (by omega) (by omega))]
      simp only [if_neg in128]
      rw [nn_nat (k := 64 * h + i) (by omega), fv.2.1.i (show ¬ FM 220 (64 * h + i) by unfold FM; omega), he, il, bS, nn_nat (k := x) (by omega)]
      show (f_X12_join (dI Ms 240 x) z Ms).bind _ = _
      rw [y1, bS]
      show some (dI Ms 222 (64 * h + i), _) = _
      rw [fv.2.1.i (show ¬ FM 222 (64 * h + i) by unfold FM; omega)]
    · show dI Ms 207 55 = _
      rw [i7]; exact h55
    · show dI Ms 207 56 = _
      rw [i7]; exact h56
    · show dI Ms 207 40 = _
      rw [i7]; exact h40
    · show dI Ms 238 x = _
      rw [sJ _ _ (by omega), jI _ _ (by omega)]; exact k8
    · show dI Ms 239 x = _
      rw [sJ _ _ (by omega), jI _ _ (by omega)]; exact k9
    · show lb nu D0 (dI Ms 241 (52 * sv + t)) _
      rw [s3 t (by omega) ht]; exact j3 t ht
