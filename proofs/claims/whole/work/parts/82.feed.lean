/-! calls that do little: feed, drain, output, value -/
theorem toI64 (x : Int32) : x.toInt64 = x.toInt64 := rfl
theorem fin_b {D : Dat} {v : Int64} : dL (sL D 262 (0 : Int32).toNatClampNeg v) 262 (0 : Int32).toNatClampNeg = v := by
  rw [dL_s, if_pos ⟨rfl, rfl⟩]
/-- what may have changed behind a call that only reads -/
def Pr (a k : Nat) : Prop := a = 262 ∨ (a = 207 ∧ k = 0)
/-- and behind a call that feeds -/
def Pf (a k : Nat) : Prop := Pr a k ∨ a = 184 ∨ a = 185 ∨ a = 254 ∨ a = 255
theorem stp_feed {N nu n : Nat} {K : Nat → Nat} {D : Dat} (a1 a2 a3 : Int32) (hS : IS nu D) (hA : IA D) : ∃ D', stp_11 N nu n K D a1 a2 a3 = some (K, D') ∧ Ch Pf D D' ∧ IA D' := by
  obtain ⟨⟨n1, n2⟩, ⟨d1, d2⟩, -⟩ := hS
  unfold stp_11
  rcases lab n2 a1 with ⟨k, hk, rfl⟩ | hb
  · obtain ⟨⟨m1, m2⟩, ⟨m3, m4⟩, m5, m6⟩ := id hA
    obtain ⟨⟨e1, e2, e3⟩, -⟩ := m5 k (by omega)
    obtain ⟨f, hf, ef⟩ := nn_of e2
    rw [ef, nn_int hf] at e3
    have hM : ∀ (D1 : Dat), dI D1 207 1 = nn nu → dI D1 255 k = nn f → f < 20 → f_X12_feed (nn k) a2 D1 = some (nn (f + 1), sI (sI (sI D1 207 0 0) 254 (20 * k + f) a2) 255 k (nn (f + 1))) := by
      intro D1 q1 q2 q3
      unfold f_X12_feed
      rw [dI_s, if_neg (by omega), q1, out_no (by omega) hk, bS]
      have i1 := nn_in (k := k) (n := 6) (by omega) (by omega)
      have q2' : dI (sI D1 207 0 0) 255 (nn k).toNatClampNeg = nn f := by rw [nn_nat (by omega), dI_s, if_neg (by omega)]; exact q2
      have c1 : ¬ nn f = 20 := by rw [nn_l, nn_eq (by omega) (by omega)]; omega
      have e9 : (20 : Int32) * nn k + nn f = nn (20 * k + f) := by rw [nn_l, nn_mul, nn_add]
      have i2 := nn_in (k := 20 * k + f) (n := 120) (by omega) (by omega)
      simp only [i1, q2', c1, e9, i2, reduceIte]
      rw [nn_nat (k := k) (by omega), nn_nat (k := 20 * k + f) (by omega)]
      have q4 : dI (sI (sI D1 207 0 0) 254 (20 * k + f) a2) 255 k = nn f := by rw [dI_s, if_neg (by omega), dI_s, if_neg (by omega)]; exact q2
      rw [q4, nn_1, dI_s, if_pos ⟨rfl, rfl⟩]
    have hMf : ∀ (D1 : Dat), dI D1 207 1 = nn nu → dI D1 255 k = nn f → f = 20 → f_X12_feed (nn k) a2 D1 = some (0, mf D1 2) := by
      intro D1 q1 q2 q3
      unfold f_X12_feed
      rw [dI_s, if_neg (by omega), q1, out_no (by omega) hk, bS]
      have i1 := nn_in (k := k) (n := 6) (by omega) (by omega)
      have q2' : dI (sI D1 207 0 0) 255 (nn k).toNatClampNeg = nn f := by rw [nn_nat (by omega), dI_s, if_neg (by omega)]; exact q2
      have c1 : nn f = 20 := by rw [q3]; rfl
      simp only [i1, q2', c1, reduceIte, e_X12_fail, bS]
      rfl
    by_cases hlt : f < 20
    · have e0 : f_X11_feed (nn k) a2 D = some (.inr (nn (f + 1)), sI (sI D 184 (20 * k + f) a2) 185 k (nn (f + 1))) := by
        unfold f_X11_feed
        have c1 : nn f < 20 := by rw [nn_l, nn_lt (by omega) (by omega)]; omega
        have c2 : ¬ 20 ≤ nn f := by rw [nn_l, nn_le (by omega) (by omega)]; omega
        have i1 := nn_in (k := k) (n := 6) (by omega) (by omega)
        have q2' : dI D 185 (nn k).toNatClampNeg = nn f := by rw [nn_nat (by omega), e1]; exact ef
        have q2 : dI D 185 k = nn f := by rw [e1]; exact ef
        have e9 : nn k * (20 : Int32) + nn f = nn (20 * k + f) := by rw [nn_l, nn_mul, nn_add, Nat.mul_comm]
        have i2 := nn_in (k := 20 * k + f) (n := 120) (by omega) (by omega)
        simp only [has_yes n2 hk d1, bS, n10, reduceIte, e_X3_fed (show k < 6 by omega), q2, c1]
        unfold f_X3_addInput f_X3_addInput_b45
        simp only [isMark_yes (show k < 6 by omega), bS, n10, reduceIte, i1, q2', c2, e9, i2, e_X3_fed (show k < 6 by omega)]
        rw [nn_nat (k := k) (by omega), nn_nat (k := 20 * k + f) (by omega)]
        have q4 : dI (sI D 184 (20 * k + f) a2) 185 k = nn f := by rw [dI_s, if_neg (by omega), e1]; exact ef
        rw [q4, nn_1, dI_s, if_pos ⟨rfl, rfl⟩]
      have eL : f_L_feed N nu K (nn k) a2 D = some (0, sL (sI (sI D 184 (20 * k + f) a2) 185 k (nn (f + 1))) 262 (0 : Int32).toNatClampNeg (nn (f + 1)).toInt64) := by
        unfold f_L_feed
        rw [e0, bS]
      have eM := hM (sL (sI (sI D 184 (20 * k + f) a2) 185 k (nn (f + 1))) 262 (0 : Int32).toNatClampNeg (nn (f + 1)).toInt64) (by rw [dI_sL, dI_s, if_neg (by omega), dI_s, if_neg (by omega)]; exact d2) (by rw [dI_sL, dI_s, if_neg (by omega), dI_s, if_neg (by omega)]; exact ef) hlt
      refine ⟨_, stp_ok eL eM (by rw [dI_s, if_neg (by omega), dI_s, if_neg (by omega), dI_s, if_pos ⟨rfl, rfl⟩]) (fun _ => by rw [dL_sI, dL_sI, dL_sI]; exact fin_b), ?_, ?_⟩
      · exact Ch.sI (by unfold Pf; omega) (Ch.sI (by unfold Pf; omega) (Ch.sI (by unfold Pf Pr; omega) (Ch.sL (by unfold Pf Pr; omega) (Ch.sI (by unfold Pf; omega) (Ch.sI (by unfold Pf; omega) Ch.rf)))))
      · refine ⟨⟨fun j hj => ?_, fun j hj => ?_⟩, ⟨fun j hj => ?_, fun j hj => ?_⟩, fun j hj => ?_, ?_⟩
        · simp [dI_s, dI_sL]; exact m1 j hj
        · simp [dI_s, dI_sL]; exact m2 j hj
        · simp only [dI_s, dI_sL]
          simp
          split
          · rfl
          · exact m3 j hj
        · simp [dI_s, dI_sL]; exact m4 j hj
        · simp only [dI_s, dI_sL]
          simp
          by_cases hjk : j = k
          · rw [if_pos hjk, if_pos hjk, nn_int (by omega)]
            exact ⟨⟨rfl, by omega, by omega⟩, (m5 j hj).2⟩
          · rw [if_neg hjk, if_neg hjk]
            exact m5 j hj
        · simp [dI_s, dI_sL]; exact m6
    · have e0 : f_X11_feed (nn k) a2 D = some (.inl 1, D) := by
        unfold f_X11_feed
        have q2 : dI D 185 k = nn f := by rw [e1]; exact ef
        have c1 : ¬ nn f < 20 := by rw [nn_l, nn_lt (by omega) (by omega)]; omega
        simp only [has_yes n2 hk d1, bS, n10, reduceIte, e_X3_fed (show k < 6 by omega), q2, c1]
      have eL : f_L_feed N nu K (nn k) a2 D = some (2, D) := by
        unfold f_L_feed
        rw [e0, bS]
        rfl
      have eM := hMf D d2 ef (by omega)
      refine ⟨_, stp_ok eL eM (by rw [dI_mf, if_pos ⟨rfl, rfl⟩]) (fun h => absurd h (by decide)), Ch.mf (by unfold Pf Pr; omega) Ch.rf, ?_⟩
      exact IA.kept (P := Pr) (Ch.mf (by unfold Pr; omega) Ch.rf) (fun a k h => by unfold Pr at h; unfold RIA; omega) hA
  · have e0 : f_X11_feed a1 a2 D = some (.inl 0, D) := by
      unfold f_X11_feed
      simp only [has_no n2 hb d1, bS, reduceIte]
    have eL : f_L_feed N nu K a1 a2 D = some (1, D) := by
      unfold f_L_feed
      rw [e0, bS]
      rfl
    have eM : f_X12_feed a1 a2 D = some (0, mf D 1) := by
      unfold f_X12_feed
      rw [dI_s, if_neg (by omega), d2, out_yes (by omega) hb]
      simp only [bS, n10, reduceIte, e_X12_fail]
      rfl
    refine ⟨_, stp_ok eL eM (by rw [dI_mf, if_pos ⟨rfl, rfl⟩]) (fun h => absurd h (by decide)), Ch.mf (by unfold Pf Pr; omega) Ch.rf, ?_⟩
    exact IA.kept (P := Pr) (Ch.mf (by unfold Pr; omega) Ch.rf) (fun a k h => by unfold Pr at h; unfold RIA; omega) hA
