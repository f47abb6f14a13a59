/-! flows: lists, the whole text -/
theorem StG.mono {N nu nb h B B' x sv pc i : Nat} {K : Nat → Nat} {D0 C0 M0 C M : Dat} {rec : RcT} (hb : B ≤ B') (q : StG N nu nb h K D0 C0 M0 rec B x sv pc i C M) : StG N nu nb h K D0 C0 M0 rec B' x sv pc i C M := by
  obtain ⟨C', M', V', k, h1, h2⟩ := q
  exact ⟨C', M', V', k, Nat.le_trans h1 hb, h2⟩
theorem StB.mono {N nu nb h B B' x pc i : Nat} {K : Nat → Nat} {C M : Dat} {rec : RcT} (hb : B ≤ B') (q : StB N nu nb h K rec B x pc i C M) : StB N nu nb h K rec B' x pc i C M := by
  obtain ⟨C', M', V', k, h1, h2⟩ := q
  exact ⟨C', M', V', k, Nat.le_trans h1 hb, h2⟩
def sB (B : Nat) : Nat := 131 * (B + 1) + 1
theorem fl_stmt {N nu P nb h cnt bz ez B : Nat} {W K V : Nat → Nat} {D0 C0 M0 C M : Dat} (hN : 1000 ≤ N) (hE : FE nu P nb h cnt bz ez W K D0 C0 M0) {x sv pc i w : Nat} (hP : FP nu D0 C0 M0 x sv pc V C M) (hi : i < cnt) {rec : RcT} (hx : x ≤ 47) (hW : W i ≤ 5 * w + 4) (hrec : RecP N nu nb h cnt W D0 C0 M0 rec B x w) (hnil : ∀ p D, rec none p (nn (x + 1)) D = some (.inr (), D)) : StG N nu nb h K D0 C0 M0 rec (sB B) x sv pc i C M ∨ StB N nu nb h K rec (sB B) x pc i C M := by
  have go : ∀ B', B' ≤ sB B → StG N nu nb h K D0 C0 M0 rec B' x sv pc i C M ∨ StB N nu nb h K rec B' x pc i C M → StG N nu nb h K D0 C0 M0 rec (sB B) x sv pc i C M ∨ StB N nu nb h K rec (sB B) x pc i C M := fun B' hb q => q.elim (fun u => Or.inl (u.mono hb)) (fun u => Or.inr (u.mono hb))
  rcases (hE.2.2.2.2.1.1 i hi).1.2 with ⟨q, -⟩ | ⟨q, -⟩ | ⟨q, -⟩ | ⟨q, -⟩ | ⟨q, -⟩ | ⟨q, -⟩ | ⟨q, -⟩
  · exact go 2 (by unfold sB; omega) (fl_sim hN hE hP hi (Or.inl q))
  · exact go 2 (by unfold sB; omega) (fl_sim hN hE hP hi (Or.inr (Or.inl q)))
  · exact go 2 (by unfold sB; omega) (fl_sim hN hE hP hi (Or.inr (Or.inr (Or.inl q))))
  · exact go 2 (by unfold sB; omega) (fl_sim hN hE hP hi (Or.inr (Or.inr (Or.inr q))))
  · exact go _ (by unfold sB; omega) (fl_if hN hE hP hi hx hW hrec hnil q)
  · exact go _ (by unfold sB; omega) (fl_while hN hE hP hi hx hW hrec q)
  · exact go _ (by unfold sB; omega) (fl_do hE hP hi hx hW hrec q)
theorem fl_list {N nu P nb h cnt bz ez B : Nat} {W K : Nat → Nat} {D0 C0 M0 : Dat} (hN : 1000 ≤ N) (hE : FE nu P nb h cnt bz ez W K D0 C0 M0) {x sv pc w : Nat} {rec : RcT} (hx : x ≤ 47) (hrec : RecP N nu nb h cnt W D0 C0 M0 rec B x w) (hnil : ∀ p D, rec none p (nn (x + 1)) D = some (.inr (), D)) : ∀ (n g : Nat) (r : Option Nat) (s : Int32) (V : Nat → Nat) (C M : Dat), Lk nb h cnt r s → (∀ i, r = some (nb + i) → cnt ≤ n + i ∧ W i ≤ 5 * w + 4) → n < g → FP nu D0 C0 M0 x sv pc V C M → FlG N nu D0 C0 M0 (n * sB B) x sv pc s C M (f_X1_goThrough_s_b10 rec N nu K g (nn pc) (nn x) r C) ∨ FlB N (n * sB B) s C M (f_X1_goThrough_s_b10 rec N nu K g (nn pc) (nn x) r C) := by
  intro n
  induction n with
  | zero =>
    intro g r s V C M hL hr hg hP
    rcases hL with ⟨rfl, rfl⟩ | ⟨i, i1, i2, i3⟩
    · left
      rw [show g = (g - 1) + 1 by omega, f_X1_goThrough_s_b10]
      exact fl_nil hP
    · have := (hr i i2).1
      omega
  | succ n ih =>
    intro g r s V C M hL hr hg hP
    rcases hL with ⟨rfl, rfl⟩ | ⟨i, i1, rfl, rfl⟩
    · left
      rw [show g = (g - 1) + 1 by omega, f_X1_goThrough_s_b10]
      exact fl_nil hP
    · obtain ⟨r1, r2⟩ := hr i rfl
      obtain ⟨-, hNx, hWc⟩ := hE.2.2.2.2.1.1 i i1
      rw [show g = (g - 1) + 1 by omega]
      rcases fl_stmt hN hE hP i1 hx r2 hrec hnil with ⟨C1, M1, V1, k, a1, a2, a3, a4, a5, a6⟩ | ⟨C1, M1, q, k, a1, a2, a3, a4, a5, a6, a7⟩
      · rw [a2]
        rcases ih (g - 1) (dR C0 (nb + i) 9) (dI M0 224 (64 * h + i)) V1 C1 M1 hNx (fun i' q => by have := hWc.2 i' q; omega) (by omega) a4 with ⟨C2, M2, V2, k2, b1, b2, b3, b4, b5, b6⟩ | ⟨C2, M2, q, k2, b1, b2, b3, b4, b5, b6, b7⟩
        · left
          exact ⟨C2, M2, V2, k2 + k, by rw [Nat.succ_mul]; omega, b2, fun g' => by rw [← Nat.add_assoc, a3]; exact b3 g', b4, a5.tr b5, a6.tr b6⟩
        · right
          exact ⟨C2, M2, q, k2 + k, by rw [Nat.succ_mul]; omega, b2, b3, b4, fun g' => by rw [← Nat.add_assoc, a3]; exact b5 g', (a5.mono (fun a k q => fcx_FC q)).tr b6, (a6.mono (fun a k q => fmx_FM q)).tr b7⟩
      · right
        exact ⟨C1, M1, q, k, by rw [Nat.succ_mul]; omega, a2, a3 _, a4, a5, a6, a7⟩
/-- a bound of the steps that the model needs, by the width -/
def bW : Nat → Nat
  | 0 => 60 * sB 0
  | w + 1 => 60 * sB (bW w)
theorem go_nil {N nu d : Nat} {K : Nat → Nat} (hN : 1000 ≤ N) (y p : Int32) (D : Dat) : f_X1_goThrough N nu K (d + 1) none p y D = some (.inr (), D) := by
  rw [f_X1_goThrough]
  unfold f_X1_goThrough_s
  by_cases c : y < 48
  · rw [if_pos c, show N = (N - 1) + 1 by omega, f_X1_goThrough_s_b10]
    rfl
  · rw [if_neg c]
theorem fl_go {N nu P nb h cnt bz ez : Nat} {W K : Nat → Nat} {D0 C0 M0 : Dat} (hN : 1000 ≤ N) (hE : FE nu P nb h cnt bz ez W K D0 C0 M0) : ∀ (w x d : Nat), x + w ≤ 47 → w + 2 ≤ d → ∀ r s sv pc V C M, Lk nb h cnt r s → (∀ i, r = some (nb + i) → W i ≤ 5 * w + 4) → FP nu D0 C0 M0 x sv pc V C M → FlG N nu D0 C0 M0 (bW w) x sv pc s C M (f_X1_goThrough N nu K d r (nn pc) (nn x) C) ∨ FlB N (bW w) s C M (f_X1_goThrough N nu K d r (nn pc) (nn x) C) := by
  have hc60 : cnt ≤ 60 := hE.2.2.2.2.1.2.2.2.1.1
  have step : ∀ (B w x d : Nat), x + w ≤ 47 → 2 ≤ d → RecP N nu nb h cnt W D0 C0 M0 (f_X1_goThrough N nu K (d - 1)) B x w → ∀ r s sv pc V C M, Lk nb h cnt r s → (∀ i, r = some (nb + i) → W i ≤ 5 * w + 4) → FP nu D0 C0 M0 x sv pc V C M → FlG N nu D0 C0 M0 (60 * sB B) x sv pc s C M (f_X1_goThrough N nu K d r (nn pc) (nn x) C) ∨ FlB N (60 * sB B) s C M (f_X1_goThrough N nu K d r (nn pc) (nn x) C) := by
    intro B w x d hx hd hrec r s sv pc V C M hL hr hP
    have hnil : ∀ p D, f_X1_goThrough N nu K (d - 1) none p (nn (x + 1)) D = some (.inr (), D) := fun p D => by
      rw [show d - 1 = (d - 2) + 1 by omega]
      exact go_nil hN _ _ _
    rw [show d = (d - 1) + 1 by omega, f_X1_goThrough]
    unfold f_X1_goThrough_s
    rw [if_pos (show nn x < (48 : Int32) from (nn_lt (b := 48) (by omega) (by omega)).mpr (by omega))]
    exact fl_list hN hE (by omega) hrec hnil 60 N r s V C M hL (fun i q => ⟨by omega, hr i q⟩) (by omega) hP
  intro w
  induction w with
  | zero =>
    intro x d hx hd
    refine step 0 0 x d hx (by omega) (fun r s sv pc V C M hL hr hP => ?_)
    rcases hL with ⟨rfl, rfl⟩ | ⟨i, i1, i2, i3⟩
    · left
      rw [show d - 1 = (d - 2) + 1 by omega, go_nil hN]
      exact fl_nil hP
    · have := hr i i2
      omega
  | succ w ih =>
    intro x d hx hd
    exact step (bW w) (w + 1) x d hx (by omega) (fun r s sv pc V C M hL hr hP => ih (x + 1) (d - 1) (by omega) (by omega) r s sv pc V C M hL (fun i q => by have := hr i q; omega) hP)
