/-! flows: the model joins its labels with kept ones -/
theorem ms_join {N nu P nb h cnt bz ez b o : Nat} {W K : Nat → Nat} {D0 C0 M0 : Dat} {kn m : Int32} (hE : FE nu P nb h cnt bz ez W K D0 C0 M0) (hb : b ≤ 2444) (ho : (kn = 8 ∧ o = b + 26) ∨ (¬ kn = 8 ∧ o = b)) {A B : Nat → Nat} : ∀ (j k g : Nat) (f : Bool) (D : Dat), k + j = 26 → Ch FM M0 D → (∀ t, t < 26 → lb nu D0 (dI D 241 (o + t)) (A t)) → (∀ t, t < 26 → lb nu D0 (dI D 237 t) (if t < k then A t ||| B t else B t)) → ∃ D' f', f_X12_flowBack_b150 N (g + j) kn m (nn b) (wi f) (nn k) D = f_X12_flowBack_b150 N g kn m (nn b) (wi f') 26 D' ∧ Ch (fun a _ => a = 237) D D' ∧ (∀ t, t < 26 → lb nu D0 (dI D' 237 t) (A t ||| B t)) ∧ (f' = true ↔ (f = true ∨ ∃ t, k ≤ t ∧ t < 26 ∧ ¬ A t ||| B t = A t)) := by
  intro j
  induction j with
  | zero =>
    intro k g f D hk hM hA hB
    obtain rfl : k = 26 := by omega
    refine ⟨D, f, rfl, Ch.rf, fun t ht => by have := hB t ht; rw [if_pos ht] at this; exact this, ⟨fun q => Or.inl q, fun q => ?_⟩⟩
    rcases q with q | ⟨t, t1, t2, -⟩
    · exact q
    · omega
  | succ j ih =>
    intro k g f D hk hM hA hB
    have hk26 : k < 26 := by omega
    have in26 := nn_in (k := k) (n := 26) (by omega) hk26
    have hBk : lb nu D0 (dI D 237 k) (B k) := by have := hB k hk26; rw [if_neg (by omega)] at this; exact this
    obtain ⟨z, z1, z2⟩ := fl_join hE hM (hA k hk26) hBk
    have zq := lb_uniq hE.1 z2 (hA k hk26)
    have st : f_X12_flowBack_b150 N (g + (j + 1)) kn m (nn b) (wi f) (nn k) D = f_X12_flowBack_b150 N (g + j) kn m (nn b) (wi (f || !(decide (A k ||| B k = A k)))) (nn (k + 1)) (sI D 237 k z) := by
      have b187 : ∀ G, f_X12_flowBack_b187 N G kn m (nn b) (wi f) (nn k) (dI D 241 (o + k)) D = G kn m (nn b) (wi (f || !(decide (A k ||| B k = A k)))) (nn (k + 1)) (sI D 237 k z) := by
        intro G
        unfold f_X12_flowBack_b187 f_X12_flowBack_b224
        simp only [if_neg in26]
        rw [nn_nat (by omega), z1, bS]
        show (if (dI (sI D 237 k z) 237 k) = (dI D 241 (o + k)) then _ else _) = _
        rw [dI_s, if_pos (show 237 = 237 ∧ k = k from ⟨rfl, rfl⟩), nn_1]
        by_cases c : A k ||| B k = A k
        · rw [if_pos (zq.mpr c), decide_eq_true c]
          cases f <;> rfl
        · rw [if_neg (fun q => c (zq.mp q)), decide_eq_false c]
          cases f <;> rfl
      rw [show g + (j + 1) = g + j + 1 by omega, f_X12_flowBack_b150, if_neg (show ¬ (26 : Int32) ≤ nn k from fun q => by have := (nn_le (a := 26) (by omega) (by omega)).mp q; omega)]
      rcases ho with ⟨o1, o2⟩ | ⟨o1, o2⟩
      · rw [if_pos o1, show nn b + (26 : Int32) + nn k = nn (o + k) by rw [nn_l, nn_add, nn_add, o2], if_neg (nn_in (by omega) (by omega)), nn_nat (by omega)]
        exact b187 _
      · rw [if_neg o1, show nn b + nn k = nn (o + k) by rw [nn_add, o2], if_neg (nn_in (by omega) (by omega)), nn_nat (by omega)]
        exact b187 _
    obtain ⟨D', f', r1, r2, r3, r4⟩ := ih (k + 1) g (f || !(decide (A k ||| B k = A k))) (sI D 237 k z) (by omega) (Ch.sI (by unfold FM; omega) hM) (fun t ht => hA t ht) (fun t ht => by
      rw [dI_s]
      by_cases c : t = k
      · rw [if_pos (show 237 = 237 ∧ t = k from ⟨rfl, c⟩), if_pos (by omega), c]
        exact z2
      · rw [if_neg (show ¬ (237 = 237 ∧ t = k) from fun q => c q.2)]
        have := hB t ht
        by_cases c2 : t < k
        · rw [if_pos c2] at this
          rw [if_pos (by omega)]
          exact this
        · rw [if_neg c2] at this
          rw [if_neg (by omega)]
          exact this)
    refine ⟨D', f', by rw [st]; exact r1, Ch.tr (show Ch (fun a _ => a = 237) D (sI D 237 k z) from Ch.sI rfl Ch.rf) r2, r3, r4.trans ⟨fun q => ?_, fun q => ?_⟩⟩
    · rcases q with q | ⟨t, t1, t2, t3⟩
      · cases f with
        | true => exact Or.inl rfl
        | false =>
          right
          by_cases c : A k ||| B k = A k
          · rw [decide_eq_true c] at q
            exact absurd q (by decide)
          · exact ⟨k, Nat.le_refl _, hk26, c⟩
      · exact Or.inr ⟨t, by omega, t2, t3⟩
    · rcases q with q | ⟨t, t1, t2, t3⟩
      · left
        rw [q]
        rfl
      · by_cases c : t = k
        · left
          rw [c] at t3
          rw [decide_eq_false t3]
          cases f <;> rfl
        · exact Or.inr ⟨t, by omega, t2, t3⟩
/-- a block is left -/
theorem fl_leave {x sv m : Nat} {M : Dat} (hx : x < 300) (hm : m < 128) (h55 : dI M 207 55 = nn (x + 1)) (h56 : dI M 207 56 = nn (sv + 1)) (hsv : sv ≤ 47) : f_X12_leave (nn m) M = some (dI M 224 m, sI (sI (sI M 207 55 (nn x)) 207 56 (nn sv)) 207 54 (dI M 240 x)) := by
  have e1 : nn (x + 1) - (1 : Int32) = nn x := by rw [show (1 : Int32) = nn 1 from rfl, nn_sub (by omega) (by omega)]; rfl
  have e2 : nn (sv + 1) - (1 : Int32) = nn sv := by rw [show (1 : Int32) = nn 1 from rfl, nn_sub (by omega) (by omega)]; rfl
  have e3 : dI (sI M 207 55 (nn x)) 207 56 = nn (sv + 1) := h56
  have e4 : dI (sI (sI M 207 55 (nn x)) 207 56 (nn sv)) 207 55 = nn x := rfl
  unfold f_X12_leave f_X12_leave_b33
  rw [h55, e1, e3, e2, e4, if_neg (nn_in (by omega) hx), if_neg (nn_in (k := m) (by omega) hm), nn_nat (k := m) (by omega), nn_nat (k := x) (by omega)]
  rfl
