/-! the walk: lists, the whole program -/
theorem wk_stmt {N nu F P nb h cnt bz ez : Nat} {W K : Nat → Nat} {C0 M0 Mg C M : Dat} (hN : 1000 ≤ N) (hE : WE nu P nb h cnt bz ez W K C0 M0 Mg) {x u i w : Nat} {rec : RtT} (hP : WP F C0 M0 x u C M) (hi : i < cnt) (hx : x ≤ 47) (hW : W i ≤ 5 * w + 4) (hrec : RecW N F nb h cnt W C0 M0 rec x w) : WSG N nu F nb h K C0 M0 Mg rec x u i C M ∨ WSB N nu F nb h K C0 M0 rec x u i C M := by
  rcases (hE.2.1.1 i hi).1.2 with ⟨q, -⟩ | ⟨q, -⟩ | ⟨q, -⟩ | ⟨q, -⟩ | ⟨q, -⟩ | ⟨q, -⟩ | ⟨q, -⟩
  · exact wk_plain hN hE hP hi (Or.inl q)
  · exact wk_plain hN hE hP hi (Or.inr (Or.inl q))
  · exact wk_plain hN hE hP hi (Or.inr (Or.inr (Or.inl q)))
  · exact wk_plain hN hE hP hi (Or.inr (Or.inr (Or.inr q)))
  · exact wk_if hN hE hP hi hx hW hrec q
  · exact wk_while hN hE hP hi hx hW hrec q
  · exact wk_do hE hP hi hx hW hrec q
theorem wk_nil {N nu F g x u : Nat} {K : Nat → Nat} {C0 M0 C M : Dat} {rec : RtT} (hP : WP F C0 M0 x u C M) : WLG N F C0 M0 x u (-1) M (f_X10_goThrough_s_b9 rec N nu K (g + 1) (nn x) none C) := by
  rw [f_X10_goThrough_s_b9]
  exact ⟨C, M, u, 0, by omega, rfl, fun g => rfl, hP, Ch.rf⟩
theorem wk_list {N nu F P nb h cnt bz ez : Nat} {W K : Nat → Nat} {C0 M0 Mg : Dat} (hN : 1000 ≤ N) (hE : WE nu P nb h cnt bz ez W K C0 M0 Mg) {x w : Nat} {rec : RtT} (hx : x ≤ 47) (hrec : RecW N F nb h cnt W C0 M0 rec x w) : ∀ (n g : Nat) (r : Option Nat) (s : Int32) (u : Nat) (C M : Dat), Lk nb h cnt r s → (∀ i, r = some (nb + i) → cnt ≤ n + i ∧ W i ≤ 5 * w + 4) → n + 1 < g → WP F C0 M0 x u C M → WLG N F C0 M0 x u s M (f_X10_goThrough_s_b9 rec N nu K g (nn x) r C) ∨ WLB N F C0 M0 u s M (f_X10_goThrough_s_b9 rec N nu K g (nn x) r C) := by
  intro n
  induction n with
  | zero =>
    intro g r s u C M hL hr hg hP
    obtain ⟨g, rfl⟩ : ∃ g', g = g' + 1 := ⟨g - 1, by omega⟩
    rcases hL with ⟨rfl, rfl⟩ | ⟨i, i1, i2, i3⟩
    · exact Or.inl (wk_nil hP)
    · have := (hr i i2).1
      omega
  | succ n ih =>
    intro g r s u C M hL hr hg hP
    obtain ⟨g, rfl⟩ : ∃ g', g = g' + 2 := ⟨g - 2, by omega⟩
    rcases hL with ⟨rfl, rfl⟩ | ⟨i, i1, rfl, rfl⟩
    · exact Or.inl (wk_nil (g := g + 1) hP)
    · obtain ⟨r1, r2⟩ := hr i rfl
      obtain ⟨-, hNx, hWc⟩ := hE.2.1.1 i i1
      rcases wk_stmt hN hE hP i1 hx r2 hrec with ⟨C1, M1, u1, k, a1, a2, a3, a4, a5⟩ | ⟨C1, M1, k, a1, a2, a3, a4⟩
      · rw [a2 (g + 1)]
        rcases ih (g + 1) (dR C0 (nb + i) 9) (dI Mg 224 (64 * h + i)) u1 C1 M1 hNx (fun i' q => by have := hWc.2 i' q; omega) (by omega) a4 with ⟨C2, M2, u2, k2, b1, b2, b3, b4, b5⟩ | ⟨C2, M2, k2, b1, b2, b3, b4⟩
        · exact Or.inl ⟨C2, M2, u2, k2 + k, by omega, b2, fun g' => by rw [← Nat.add_assoc, a3]; exact b3 g', b4, a5.tr b5⟩
        · exact Or.inr ⟨C2, M2, k2 + k, by omega, b2, fun g' => by rw [← Nat.add_assoc, a3]; exact b3 g', b4⟩
      · exact Or.inr ⟨C1, M1, k, a1, a2 g, a3, a4⟩
theorem wk_go {N nu F P nb h cnt bz ez : Nat} {W K : Nat → Nat} {C0 M0 Mg : Dat} (hN : 1000 ≤ N) (hE : WE nu P nb h cnt bz ez W K C0 M0 Mg) : ∀ (w x d : Nat), x + w ≤ 47 → w + 2 ≤ d → ∀ r s u C M, Lk nb h cnt r s → (∀ i, r = some (nb + i) → W i ≤ 5 * w + 4) → WP F C0 M0 x u C M → WLG N F C0 M0 x u s M (f_X10_goThrough N nu K d r (nn x) C) ∨ WLB N F C0 M0 u s M (f_X10_goThrough N nu K d r (nn x) C) := by
  have hc60 : cnt ≤ 60 := hE.2.1.2.2.2.1.1
  have step : ∀ (w x d : Nat), x + w ≤ 47 → 2 ≤ d → RecW N F nb h cnt W C0 M0 (f_X10_goThrough N nu K (d - 1)) x w → ∀ r s u C M, Lk nb h cnt r s → (∀ i, r = some (nb + i) → W i ≤ 5 * w + 4) → WP F C0 M0 x u C M → WLG N F C0 M0 x u s M (f_X10_goThrough N nu K d r (nn x) C) ∨ WLB N F C0 M0 u s M (f_X10_goThrough N nu K d r (nn x) C) := by
    intro w x d hx hd hrec r s u C M hL hr hP
    rw [show d = (d - 1) + 1 by omega, f_X10_goThrough]
    unfold f_X10_goThrough_s
    rw [if_pos (show nn x < (48 : Int32) from (nn_lt (b := 48) (by omega) (by omega)).mpr (by omega))]
    exact wk_list hN hE (by omega) hrec 60 N r s u C M hL (fun i q => ⟨by omega, hr i q⟩) (by omega) hP
  intro w
  induction w with
  | zero =>
    intro x d hx hd
    refine step 0 x d hx (by omega) (fun r s u C M hL hr hP => ?_)
    rcases hL with ⟨rfl, rfl⟩ | ⟨i, i1, i2, i3⟩
    · left
      rw [show d - 1 = (d - 2) + 1 by omega, f_X10_goThrough]
      unfold f_X10_goThrough_s
      by_cases c : nn (x + 1) < 48
      · rw [if_pos c, show N = (N - 1) + 1 by omega]
        exact wk_nil hP
      · rw [if_neg c]
        exact ⟨C, M, u, 0, by omega, rfl, fun g => rfl, hP, Ch.rf⟩
    · have := hr i i2
      omega
  | succ w ih =>
    intro x d hx hd
    exact step (w + 1) x d hx (by omega) (fun r s u C M hL hr hP => ih (x + 1) (d - 1) (by omega) (by omega) r s u C M hL (fun i q => by have := hr i q; omega) hP)
/-- a walk over the whole program -/
theorem wk_all {N nu F P nb h cnt bz ez : Nat} {W K : Nat → Nat} {C0 M0 Mg : Dat} (hN : 2000 ≤ N) (hE : WE nu P nb h cnt bz ez W K C0 M0 Mg) (hP : WP F C0 M0 0 0 C0 M0) : ∃ C' M', (f_X10_goThrough N nu K 50 (dR C0 P 0) 0 C0).bind (fun p4 => f_X3_finish p4) = some C' ∧ f_X12_walk_b55 N N (nn F) (dI Mg 228 h) M0 = some (dI M' 207 84, M') ∧ WD C0 M0 C' M' := by
  obtain ⟨hL, hW0⟩ := hE.2.1.2.1
  have hF : F ≤ 600 := hP.2.1.2.2.2
  have go := wk_go (N := N) (by omega) hE 47 0 50 (by omega) (by omega) (dR C0 P 0) (dI Mg 228 h) 0 C0 M0 hL (fun i q => by have := hW0 i q; omega) hP
  have fz : ∀ o : Option Dat, f_X10_goThrough N nu K 50 (dR C0 P 0) (nn 0) C0 = o → (f_X10_goThrough N nu K 50 (dR C0 P 0) 0 C0).bind (fun p4 => f_X3_finish p4) = o.bind (fun p4 => f_X3_finish p4) := fun o q => by rw [← q]; rfl
  rcases go with ⟨C1, M1, u1, k, a1, a2, a3, a4, a5⟩ | ⟨C1, M1, k, a1, a2, a3, a4⟩
  · have u1F : u1 ≤ F := a4.2.1.2.2.1
    have hR := a4.2.2.1.2.2.1
    refine ⟨sI C1 181 10 0, sI M1 207 84 0, ?_, ?_, ⟨Ch.sI (by unfold PmB PmC; omega) a4.1.1, Ch.sI (by unfold WM; omega) a4.1.2⟩, hR.set cor_n (fun q => absurd q (by decide)), by rw [dI_s, if_pos ⟨rfl, rfl⟩]; decide, by rw [dI_s, if_pos ⟨rfl, rfl⟩]; decide⟩
    · rw [fz _ a2, bS]
      unfold f_X3_finish f_X3_finish_b12
      rw [goes1 a4.2.2.2.1, bS, if_neg (show ¬ (1 : Int32) = 0 by decide)]
    · have := a3 (N - k - 2 + 1 + 1)
      rw [show N - k - 2 + 1 + 1 + k = N by omega] at this
      have e84 : dI (sI M1 207 84 0) 207 84 = 0 := by rw [dI_s, if_pos ⟨rfl, rfl⟩]
      rw [this, f_X12_walk_b55, if_neg (mgo a4.2.2.2.1 hR), if_neg m1_lt, if_pos (show dI M1 207 55 = 0 from a4.2.2.2.2), f_X12_walk_b55, if_pos (show 0 ≤ dI (sI M1 207 84 0) 207 84 by rw [e84]; decide)]
  · refine ⟨C1, M1, ?_, ?_, a4⟩
    · rw [fz _ a2, bS]
      unfold f_X3_finish f_X3_finish_b12
      rw [goes0 a4.2.2, bS, if_pos rfl]
    · have := a3 (N - k)
      rw [show N - k + k = N by omega] at this
      exact this
