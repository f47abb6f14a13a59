/-! translation: lists, the whole text -/
theorem TSt.mono {N nu CO nb h B B' x i : Nat} {K : Nat → Nat} {C0 M0 C M : Dat} {rec : RtT} (hb : B ≤ B') (q : TSt N nu CO nb h K C0 M0 rec B x i C M) : TSt N nu CO nb h K C0 M0 rec B' x i C M := by
  obtain ⟨C', M', c', k, h1, h2⟩ := q
  exact ⟨C', M', c', k, Nat.le_trans h1 hb, h2⟩
def sT (B : Nat) : Nat := 2 * B + 6
theorem tr_stmt {N nu P CO nb h cnt bz ez B : Nat} {W K : Nat → Nat} {C0 M0 C M : Dat} (hN : 1000 ≤ N) (hE : TE nu P CO nb h cnt bz ez W K C0 M0) {x c i w : Nat} (hV : TV CO C0 M0 C M c) (hc : c ≤ 64) (h55 : dI M 207 55 = nn x) (hi : i < cnt) {rec : RtT} (hx : x ≤ 47) (hW : W i ≤ 5 * w + 4) (hrec : RecT N CO nb h cnt W C0 M0 rec B x w) : TSt N nu CO nb h K C0 M0 rec (sT B) x i C M := by
  rcases (hE.2.2.1.1 i hi).1.2 with ⟨q, -⟩ | ⟨q, -⟩ | ⟨q, -⟩ | ⟨q, -⟩ | ⟨q, -⟩ | ⟨q, -⟩ | ⟨q, -⟩
  · exact TSt.mono (by unfold sT; omega) (tr_plain hN hE hV hc h55 hi (Or.inl q))
  · exact TSt.mono (by unfold sT; omega) (tr_plain hN hE hV hc h55 hi (Or.inr (Or.inl q)))
  · exact TSt.mono (by unfold sT; omega) (tr_plain hN hE hV hc h55 hi (Or.inr (Or.inr (Or.inl q))))
  · exact TSt.mono (by unfold sT; omega) (tr_plain hN hE hV hc h55 hi (Or.inr (Or.inr (Or.inr q))))
  · exact tr_if hN hE hV hc h55 hi hx hW hrec q
  · exact TSt.mono (by unfold sT; omega) (tr_while hN hE hV hc h55 hi hx hW hrec q)
  · exact TSt.mono (by unfold sT; omega) (tr_do hE hV hc h55 hi hx hW hrec q)
theorem b9_over {N nu g : Nat} {K : Nat → Nat} {rec : RtT} (y : Int32) (r : Option Nat) {C : Dat} (h : dI C 106 2 = 1) : f_X8_goThrough_s_b9 rec N nu K (g + 1) y r C = some C := by
  rw [f_X8_goThrough_s_b9]
  cases r with
  | none => rfl
  | some a =>
    rw [oelS, h, if_neg (show ¬ (1 : Int32) = 0 by decide)]
    rfl
theorem tr_list {N nu P CO nb h cnt bz ez B : Nat} {W K : Nat → Nat} {C0 M0 : Dat} (hN : 1000 ≤ N) (hE : TE nu P CO nb h cnt bz ez W K C0 M0) {x w : Nat} {rec : RtT} (hx : x ≤ 47) (hrec : RecT N CO nb h cnt W C0 M0 rec B x w) : ∀ (n g : Nat) (r : Option Nat) (s : Int32) (c : Nat) (C M : Dat), Lk nb h cnt r s → (∀ i, r = some (nb + i) → cnt ≤ n + i ∧ W i ≤ 5 * w + 4) → n < g → TV CO C0 M0 C M c → c ≤ 64 → dI M 207 55 = nn x → TL N CO C0 M0 (n * sT B) x s M (f_X8_goThrough_s_b9 rec N nu K g (nn x) r C) := by
  have nil : ∀ (n g : Nat) (c : Nat) (C M : Dat), n < g → TV CO C0 M0 C M c → c ≤ 64 → dI M 207 55 = nn x → TL N CO C0 M0 (n * sT B) x (-1) M (f_X8_goThrough_s_b9 rec N nu K g (nn x) none C) := by
    intro n g c C M hg hV hc h55
    rw [show g = (g - 1) + 1 by omega, f_X8_goThrough_s_b9]
    exact ⟨C, M, c, 0, Nat.zero_le _, rfl, hV, Or.inl ⟨hc, fun g => rfl, h55, Ch.rf⟩⟩
  intro n
  induction n with
  | zero =>
    intro g r s c C M hL hr hg hV hc h55
    rcases hL with ⟨rfl, rfl⟩ | ⟨i, i1, i2, i3⟩
    · exact nil 0 g c C M hg hV hc h55
    · have := (hr i i2).1
      omega
  | succ n ih =>
    intro g r s c C M hL hr hg hV hc h55
    rcases hL with ⟨rfl, rfl⟩ | ⟨i, i1, rfl, rfl⟩
    · exact nil (n + 1) g c C M hg hV hc h55
    · obtain ⟨r1, r2⟩ := hr i rfl
      obtain ⟨-, hNx, hWc⟩ := hE.2.2.1.1 i i1
      rw [show g = (g - 1) + 1 by omega]
      obtain ⟨C1, M1, c1, k, a1, a2, a3, a4⟩ := tr_stmt hN hE hV hc h55 i1 hx r2 hrec
      rw [a2]
      rcases a4 with ⟨u1, u2, u3, u4⟩ | ⟨u1, u2⟩
      · obtain ⟨C2, M2, c2, k2, b1, b2, b3, b4⟩ := ih (g - 1) (dR C0 (nb + i) 9) (dI M0 224 (64 * h + i)) c1 C1 M1 hNx (fun i' q => by have := hWc.2 i' q; omega) (by omega) a3 u1 u3
        refine ⟨C2, M2, c2, k2 + k, by rw [Nat.succ_mul]; omega, b2, b3, ?_⟩
        rcases b4 with ⟨v1, v2, v3, v4⟩ | ⟨v1, v2⟩
        · exact Or.inl ⟨v1, fun g' => by rw [← Nat.add_assoc, u2]; exact v2 g', v3, u4.tr v4⟩
        · exact Or.inr ⟨v1, fun g' => by rw [← Nat.add_assoc, u2]; exact v2 g'⟩
      · rw [u1] at a3
        refine ⟨C1, M1, 65, k, by rw [Nat.succ_mul]; omega, ?_, a3, Or.inr ⟨rfl, u2⟩⟩
        rw [show g - 1 = (g - 2) + 1 by omega]
        exact b9_over _ _ (tr_flag a3)
def tW : Nat → Nat
  | 0 => 60 * sT 0
  | w + 1 => 60 * sT (tW w)
theorem tr_over {N nu d : Nat} {K : Nat → Nat} (hN : 1000 ≤ N) (r : Option Nat) (y : Int32) (C : Dat) (h : dI C 106 2 = 1) : f_X8_goThrough N nu K (d + 1) r y C = some C := by
  rw [f_X8_goThrough]
  unfold f_X8_goThrough_s
  by_cases c : y < 48
  · rw [if_pos c, show N = (N - 1) + 1 by omega]
    exact b9_over _ _ h
  · rw [if_neg c]
theorem tr_nil {N nu d : Nat} {K : Nat → Nat} (hN : 1000 ≤ N) (y : Int32) (D : Dat) : f_X8_goThrough N nu K (d + 1) none y D = some D := by
  rw [f_X8_goThrough]
  unfold f_X8_goThrough_s
  by_cases c : y < 48
  · rw [if_pos c, show N = (N - 1) + 1 by omega, f_X8_goThrough_s_b9]
    rfl
  · rw [if_neg c]
theorem tr_go {N nu P CO nb h cnt bz ez : Nat} {W K : Nat → Nat} {C0 M0 : Dat} (hN : 1000 ≤ N) (hE : TE nu P CO nb h cnt bz ez W K C0 M0) : ∀ (w x d : Nat), x + w ≤ 47 → w + 2 ≤ d → ∀ r s c C M, Lk nb h cnt r s → (∀ i, r = some (nb + i) → W i ≤ 5 * w + 4) → TV CO C0 M0 C M c → c ≤ 64 → dI M 207 55 = nn x → TL N CO C0 M0 (tW w) x s M (f_X8_goThrough N nu K d r (nn x) C) := by
  have hc60 : cnt ≤ 60 := hE.2.2.1.2.2.2.1.1
  have step : ∀ (B w x d : Nat), x + w ≤ 47 → 2 ≤ d → RecT N CO nb h cnt W C0 M0 (f_X8_goThrough N nu K (d - 1)) B x w → ∀ r s c C M, Lk nb h cnt r s → (∀ i, r = some (nb + i) → W i ≤ 5 * w + 4) → TV CO C0 M0 C M c → c ≤ 64 → dI M 207 55 = nn x → TL N CO C0 M0 (60 * sT B) x s M (f_X8_goThrough N nu K d r (nn x) C) := by
    intro B w x d hx hd hrec r s c C M hL hr hV hc h55
    rw [show d = (d - 1) + 1 by omega, f_X8_goThrough]
    unfold f_X8_goThrough_s
    rw [if_pos (show nn x < (48 : Int32) from (nn_lt (b := 48) (by omega) (by omega)).mpr (by omega))]
    exact tr_list hN hE (by omega) hrec 60 N r s c C M hL (fun i q => ⟨by omega, hr i q⟩) (by omega) hV hc h55
  intro w
  induction w with
  | zero =>
    intro x d hx hd
    refine step 0 0 x d hx (by omega) ⟨fun r s c C M hL hr hV hc h55 => ?_, fun r y C hf => ?_⟩
    · rcases hL with ⟨rfl, rfl⟩ | ⟨i, i1, i2, i3⟩
      · rw [show d - 1 = (d - 2) + 1 by omega, tr_nil hN]
        exact ⟨C, M, c, 0, Nat.le_refl _, rfl, hV, Or.inl ⟨hc, fun g => rfl, h55, Ch.rf⟩⟩
      · have := hr i i2
        omega
    · rw [show d - 1 = (d - 2) + 1 by omega]
      exact tr_over hN r y C hf
  | succ w ih =>
    intro x d hx hd
    refine step (tW w) (w + 1) x d hx (by omega) ⟨fun r s c C M hL hr hV hc h55 => ih (x + 1) (d - 1) (by omega) (by omega) r s c C M hL (fun i q => by have := hr i q; omega) hV hc h55, fun r y C hf => ?_⟩
    rw [show d - 1 = (d - 2) + 1 by omega]
    exact tr_over hN r y C hf
/-- a program's code, in both; c operations, 65: too many -/
theorem tr_all {N nu P CO nb h cnt bz ez : Nat} {W K : Nat → Nat} {C0 M0 : Dat} (hN : 1000 ≤ N) (hNb : tW 47 + 2 ≤ N) (hE : TE nu P CO nb h cnt bz ez W K C0 M0) (hC2 : dI C0 CO 2 = 0) (hCf : dI C0 106 2 = 0) (hM1 : dI M0 207 61 = 0) (hM5 : dI M0 207 55 = 0) : ∃ C' M' c, (f_X8_goThrough N nu K 50 (dR C0 P 0) 0 C0).bind (fun p => f_X8_emit 15 0 p) = some C' ∧ f_X12_translate_b20 N N (dI M0 228 h) M0 = some M' ∧ TV CO C0 M0 C' M' c := by
  obtain ⟨hL, hW0⟩ := hE.2.2.1.2.1
  have hV0 : TV CO C0 M0 C0 M0 0 := ⟨Ch.rf, Ch.rf, Or.inl ⟨by omega, hC2, hCf, hM1, fun k hk => by omega⟩⟩
  obtain ⟨C1, M1, c1, k, a1, a2, a3, a4⟩ := tr_go hN hE 47 0 50 (by omega) (by omega) (dR C0 P 0) (dI M0 228 h) 0 C0 M0 hL (fun i q => by have := hW0 i q; omega) hV0 (by omega) hM5
  rcases a4 with ⟨u1, u2, u3, u4⟩ | ⟨u1, u2⟩
  · obtain ⟨C2, M2, b1, b2, b3, b4⟩ := tr_put hE a3 15 0 (by decide)
    refine ⟨C2, M2, cN1 c1, ?_, ?_, b3⟩
    · refine (congrArg (fun z => Option.bind z _) (show f_X8_goThrough N nu K 50 (dR C0 P 0) 0 C0 = some C1 from a2)).trans ?_
      exact b1
    · have := u2 (N - k - 1 + 1)
      rw [show N - k - 1 + 1 + k = N by omega] at this
      rw [this, f_X12_translate_b20, a3.2.2.c61, if_neg (show ¬ (65 : Int32) ≤ nn c1 from fun q => by have := (nn_le (a := 65) (by omega) (by omega)).mp q; omega), if_neg m1_lt, u3, if_pos (by decide)]
      unfold f_X12_translate_b60
      rw [b2, bS]
  · rw [u1] at a3
    obtain ⟨C2, b1, b2⟩ := tr_em65 hE a3 15 0 (by decide)
    refine ⟨C2, M1, 65, ?_, ?_, b2⟩
    · refine (congrArg (fun z => Option.bind z _) (show f_X8_goThrough N nu K 50 (dR C0 P 0) 0 C0 = some C1 from a2)).trans ?_
      exact b1
    · have := u2 (N - k)
      rw [show N - k + k = N by omega] at this
      exact this
