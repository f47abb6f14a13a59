/-! flows: rows that are kept and joined -/
theorem kst_sh : ∀ q, q < 99 → ¬ q = 1 → ¬ q = 50 → kst (7 + q) = 14 ∧ nst (7 + q) = 26 := by decide +kernel
theorem kd_sh {K : Nat → Nat} {a : Nat} (h1 : 7 ≤ a) (h2 : a ≤ 105) (h3 : ¬ a = 8) (h4 : ¬ a = 57) : kd K a = 14 := by
  have := (kst_sh (a - 7) (by omega) (by omega) (by omega)).1
  rw [show 7 + (a - 7) = a by omega] at this
  exact kd_lt (by show a < 266; omega) this
theorem nl_sh {nu a : Nat} (h1 : 7 ≤ a) (h2 : a ≤ 105) (h3 : ¬ a = 8) (h4 : ¬ a = 57) : nl nu a = 26 := by
  have := (kst_sh (a - 7) (by omega) (by omega) (by omega)).2
  rw [show 7 + (a - 7) = a by omega] at this
  unfold nl
  rw [if_neg (by omega)]
  exact this
/-- the class joins a row into another -/
theorem cj_l {N nu x0 x1 : Nat} {K : Nat → Nat} (k0 : kd K x0 = 14) (k1 : kd K x1 = 14) (l0 : nl nu x0 = 26) (l1 : nl nu x1 = 26) (h01 : ¬ x1 = x0) {A B : Nat → Nat} (hA : ∀ t, t < 26 → A t < 64) (hB : ∀ t, t < 26 → B t < 64) : ∀ (j k g : Nat) (f : Bool) (D : Dat), k + j = 26 → j < g → (∀ t, t < 26 → dI D x0 t = nn (if t < k then A t ||| B t else A t)) → (∀ t, t < 26 → dI D x1 t = nn (B t)) → ∃ D' f', f_X1_joinInto_b4 N nu K g x0 x1 (wi f) (nn k) D = some (wi f', D') ∧ Ch (fun a _ => a = x0) D D' ∧ (∀ t, t < 26 → dI D' x0 t = nn (A t ||| B t)) ∧ (f' = true ↔ (f = true ∨ ∃ t, k ≤ t ∧ t < 26 ∧ ¬ A t ||| B t = A t)) := by
  intro j
  induction j with
  | zero =>
    intro k g f D hk hg h0 h1
    obtain rfl : k = 26 := by omega
    refine ⟨D, f, ?_, Ch.rf, fun t ht => by rw [h0 t ht, if_pos ht], ⟨fun q => Or.inl q, fun q => ?_⟩⟩
    · rw [show g = (g - 1) + 1 by omega, f_X1_joinInto_b4, if_pos (show (26 : Int32) ≤ nn 26 by decide), if_pos (wi_and f)]
    · rcases q with q | ⟨t, t1, t2, -⟩
      · exact q
      · omega
  | succ j ih =>
    intro k g f D hk hg h0 h1
    have hk26 : k < 26 := by omega
    have in26 := nn_in (k := k) (n := 26) (by omega) hk26
    have v0 : dI D x0 k = nn (A k) := by rw [h0 k hk26, if_neg (by omega)]
    have v1 := h1 k hk26
    have st : f_X1_joinInto_b4 N nu K g x0 x1 (wi f) (nn k) D = f_X1_joinInto_b4 N nu K (g - 1) x0 x1 (wi (f || !(decide (A k ||| B k = A k)))) (nn (k + 1)) (sI D x0 k (nn (A k ||| B k))) := by
      have b36 : ∀ G s, f_X1_joinInto_b36 N nu K G x0 x1 (nn k) (nn (A k ||| B k)) s D = G x0 x1 s (nn (k + 1)) (sI D x0 k (nn (A k ||| B k))) := by
        intro G s
        unfold f_X1_joinInto_b36
        rw [if_pos k0, l0, if_neg in26, nn_nat (by omega), nn_1]
      rw [show g = (g - 1) + 1 by omega, f_X1_joinInto_b4, if_neg (show ¬ (26 : Int32) ≤ nn k from fun q => by have := (nn_le (a := 26) (by omega) (by omega)).mp q; omega), if_pos k0, l0, l1, if_pos k1]
      simp only [if_neg in26]
      rw [nn_nat (by omega), v0, v1, bt_or _ (hA k hk26) _ (hB k hk26)]
      unfold f_X1_joinInto_b31
      rw [b36, b36, show g - 1 + 1 - 1 = g - 1 by omega]
      cases f with
      | true =>
        rw [if_neg (show ¬ wi true = 0 by decide)]
        rfl
      | false =>
        rw [if_pos (show wi false = 0 by decide)]
        by_cases c : A k ||| B k = A k
        · rw [if_pos (by rw [c]), show (false || !(decide (A k ||| B k = A k))) = false by rw [decide_eq_true c]; rfl]
          rfl
        · rw [if_neg (ne_op (by have := lor64 _ (hA k hk26) _ (hB k hk26); omega) (by have := hA k hk26; omega) c), show (false || !(decide (A k ||| B k = A k))) = true by rw [decide_eq_false c]; rfl]
          rfl
    obtain ⟨D', f', r1, r2, r3, r4⟩ := ih (k + 1) (g - 1) (f || !(decide (A k ||| B k = A k))) (sI D x0 k (nn (A k ||| B k))) (by omega) (by omega) (fun t ht => by
      rw [dI_s]
      by_cases c : t = k
      · rw [if_pos ⟨rfl, c⟩, if_pos (by omega), c]
      · rw [if_neg (fun q => c q.2), h0 t ht]
        by_cases c2 : t < k
        · rw [if_pos c2, if_pos (by omega)]
        · rw [if_neg c2, if_neg (by omega)]) (fun t ht => by rw [dI_s, if_neg (fun q => h01 q.1)]; exact h1 t ht)
    refine ⟨D', f', by rw [st]; exact r1, Ch.tr (show Ch (fun a _ => a = x0) D (sI D x0 k (nn (A k ||| B k))) from Ch.sI rfl Ch.rf) r2, r3, r4.trans ⟨fun q => ?_, fun q => ?_⟩⟩
    · rcases q with q | ⟨t, t1, t2, t3⟩
      · cases f with
        | true => exact Or.inl rfl
        | false =>
          right
          by_cases c : A k ||| B k = A k
          · rw [decide_eq_true c] at q
            exact absurd q (by decide)
          · exact ⟨k, Nat.le_refl _, hk26, c⟩
      · exact Or.inr ⟨t, by omega, t2, t3⟩
    · rcases q with q | ⟨t, t1, t2, t3⟩
      · left
        rw [q]
        rfl
      · by_cases c : t = k
        · left
          rw [c] at t3
          rw [decide_eq_false t3]
          cases f <;> rfl
        · exact Or.inr ⟨t, by omega, t2, t3⟩
theorem cj_ok {N nu x0 x1 : Nat} {K : Nat → Nat} (hN : 1000 ≤ N) (k0 : kd K x0 = 14) (k1 : kd K x1 = 14) (l0 : nl nu x0 = 26) (l1 : nl nu x1 = 26) (h01 : ¬ x1 = x0) {A B : Nat → Nat} {D : Dat} (hA : ∀ t, t < 26 → A t < 64 ∧ dI D x0 t = nn (A t)) (hB : ∀ t, t < 26 → B t < 64 ∧ dI D x1 t = nn (B t)) : ∃ D' f, f_X1_joinInto N nu K x0 x1 D = some (wi f, D') ∧ Ch (fun a _ => a = x0) D D' ∧ (∀ t, t < 26 → dI D' x0 t = nn (A t ||| B t)) ∧ (f = true ↔ ∃ t, t < 26 ∧ ¬ A t ||| B t = A t) := by
  obtain ⟨D', f, r1, r2, r3, r4⟩ := cj_l (N := N) k0 k1 l0 l1 h01 (fun t ht => (hA t ht).1) (fun t ht => (hB t ht).1) 26 0 N false D (by omega) (by omega) (fun t ht => by rw [if_neg (by omega)]; exact (hA t ht).2) (fun t ht => (hB t ht).2)
  refine ⟨D', f, r1, r2, r3, r4.trans ⟨fun q => ?_, fun ⟨t, t1, t2⟩ => Or.inr ⟨t, Nat.zero_le _, t1, t2⟩⟩⟩
  rcases q with q | ⟨t, -, t1, t2⟩
  · exact absurd q (by decide)
  · exact ⟨t, t1, t2⟩
/-- the model keeps its labels, first -/
theorem ms_save {N sv : Nat} {m : Int32} (hs : sv ≤ 47) : ∀ (j k g : Nat) (D : Dat), k + j = 26 → dI D 207 56 = nn sv → ∃ D', f_X12_flowThrough_b247 N (g + j) m (nn k) D = f_X12_flowThrough_b247 N g m 26 D' ∧ Ch (fun a t => a = 241 ∧ 52 * sv + k ≤ t ∧ t < 52 * sv + 26) D D' ∧ ∀ t, k ≤ t → t < 26 → dI D' 241 (52 * sv + t) = dI D 237 t := by
  intro j
  induction j with
  | zero =>
    intro k g D hk h56
    obtain rfl : k = 26 := by omega
    exact ⟨D, rfl, Ch.rf, fun t t1 t2 => by omega⟩
  | succ j ih =>
    intro k g D hk h56
    have e1 : (52 : Int32) * nn sv + nn k = nn (52 * sv + k) := by rw [nn_l, nn_mul, nn_add]
    obtain ⟨D', r1, r2, r3⟩ := ih (k + 1) g (sI D 241 (52 * sv + k) (dI D 237 k)) (by omega) h56
    refine ⟨D', ?_, (Ch.sI (by omega) Ch.rf).tr (r2.mono (fun a t q => by omega)), fun t t1 t2 => ?_⟩
    · rw [show g + (j + 1) = g + j + 1 by omega, f_X12_flowThrough_b247, if_neg (show ¬ (26 : Int32) ≤ nn k from fun q => by have := (nn_le (a := 26) (by omega) (by omega)).mp q; omega), if_neg (nn_in (by omega) (by omega)), h56, e1, if_neg (nn_in (by omega) (by omega)), nn_nat (by omega), nn_nat (by omega), nn_1]
      exact r1
    · by_cases c : t = k
      · rw [r2.i (by omega), c, dI_s, if_pos ⟨rfl, rfl⟩]
      · rw [r3 t (by omega) t2]
        rfl
/-- the model keeps its labels, again -/
theorem ms_again {N b : Nat} {m : Int32} (hb : b ≤ 2444) : ∀ (j k g : Nat) (D : Dat), k + j = 26 → ∃ D', f_X12_flowBack_b249 N (g + j) m (nn b) (nn k) D = f_X12_flowBack_b249 N g m (nn b) 26 D' ∧ Ch (fun a t => a = 241 ∧ b + k ≤ t ∧ t < b + 26) D D' ∧ ∀ t, k ≤ t → t < 26 → dI D' 241 (b + t) = dI D 237 t := by
  intro j
  induction j with
  | zero =>
    intro k g D hk
    obtain rfl : k = 26 := by omega
    exact ⟨D, rfl, Ch.rf, fun t t1 t2 => by omega⟩
  | succ j ih =>
    intro k g D hk
    obtain ⟨D', r1, r2, r3⟩ := ih (k + 1) g (sI D 241 (b + k) (dI D 237 k)) (by omega)
    refine ⟨D', ?_, (Ch.sI (by omega) Ch.rf).tr (r2.mono (fun a t q => by omega)), fun t t1 t2 => ?_⟩
    · rw [show g + (j + 1) = g + j + 1 by omega, f_X12_flowBack_b249, if_neg (show ¬ (26 : Int32) ≤ nn k from fun q => by have := (nn_le (a := 26) (by omega) (by omega)).mp q; omega), if_neg (nn_in (by omega) (by omega)), nn_add, if_neg (nn_in (by omega) (by omega)), nn_nat (by omega), nn_nat (by omega), nn_1]
      exact r1
    · by_cases c : t = k
      · rw [r2.i (by omega), c, dI_s, if_pos ⟨rfl, rfl⟩]
      · rw [r3 t (by omega) t2]
        rfl
/-- the model keeps the labels behind the first block, and takes those before it -/
theorem ms_swap {N b : Nat} {m : Int32} (hb : b ≤ 2444) : ∀ (j k g : Nat) (D : Dat), k + j = 26 → ∃ D', f_X12_flowBack_b76 N (g + j) m (nn b) (nn k) D = f_X12_flowBack_b76 N g m (nn b) 26 D' ∧ Ch (fun a t => (a = 241 ∧ b + 26 + k ≤ t ∧ t < b + 52) ∨ (a = 237 ∧ k ≤ t ∧ t < 26)) D D' ∧ ∀ t, k ≤ t → t < 26 → dI D' 241 (b + 26 + t) = dI D 237 t ∧ dI D' 237 t = dI D 241 (b + t) := by
  intro j
  induction j with
  | zero =>
    intro k g D hk
    obtain rfl : k = 26 := by omega
    exact ⟨D, rfl, Ch.rf, fun t t1 t2 => by omega⟩
  | succ j ih =>
    intro k g D hk
    have e1 : nn b + (26 : Int32) + nn k = nn (b + 26 + k) := by rw [nn_l, nn_add, nn_add]
    have e2 : dI (sI D 241 (b + 26 + k) (dI D 237 k)) 241 (b + k) = dI D 241 (b + k) := by rw [dI_s, if_neg (show ¬ (241 = 241 ∧ b + k = b + 26 + k) by omega)]
    obtain ⟨D', r1, r2, r3⟩ := ih (k + 1) g (sI (sI D 241 (b + 26 + k) (dI D 237 k)) 237 k (dI D 241 (b + k))) (by omega)
    have c0 : Ch (fun a t => (a = 241 ∧ t = b + 26 + k) ∨ (a = 237 ∧ t = k)) D (sI (sI D 241 (b + 26 + k) (dI D 237 k)) 237 k (dI D 241 (b + k))) := Ch.sI (by omega) (Ch.sI (by omega) Ch.rf)
    refine ⟨D', ?_, (c0.mono (fun a t q => by omega)).tr (r2.mono (fun a t q => by omega)), fun t t1 t2 => ?_⟩
    · rw [show g + (j + 1) = g + j + 1 by omega, f_X12_flowBack_b76, if_neg (show ¬ (26 : Int32) ≤ nn k from fun q => by have := (nn_le (a := 26) (by omega) (by omega)).mp q; omega)]
      simp only [if_neg (nn_in (k := k) (n := 26) (by omega) (by omega))]
      rw [e1, if_neg (nn_in (by omega) (by omega)), nn_add, if_neg (nn_in (by omega) (by omega)), nn_nat (by omega), nn_nat (by omega), nn_nat (by omega), nn_1, e2]
      exact r1
    · by_cases c : t = k
      · rw [c, r2.i (by omega), r2.i (by omega)]
        refine ⟨?_, ?_⟩
        · rw [dI_s, if_neg (show ¬ (241 = 237 ∧ b + 26 + k = k) by omega), dI_s, if_pos (show 241 = 241 ∧ b + 26 + k = b + 26 + k from ⟨rfl, rfl⟩)]
        · rw [dI_s, if_pos (show 237 = 237 ∧ k = k from ⟨rfl, rfl⟩)]
      · obtain ⟨w1, w2⟩ := r3 t (by omega) t2
        rw [w1, w2, c0.i (by omega), c0.i (by omega)]
        exact ⟨rfl, rfl⟩
