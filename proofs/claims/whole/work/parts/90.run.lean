/-! run -/
/-- code that the verifier takes: ht says how high the stack is before an instruction that is reached -/
def VNx (ht : Nat → Option Nat) (sz : Nat) (D : Dat) (i h o : Nat) : Prop := (o ≠ 12 ∧ o ≠ 15 → ht (i + 1) = some (h - tk o + pu o)) ∧ (o = 11 ∨ o = 12 → ∃ t, t < sz ∧ dI D 213 i = nn t ∧ ht t = some (h - tk o + pu o))
def VOK (ht : Nat → Option Nat) (sz : Nat) (D : Dat) : Prop := ht 0 = some 0 ∧ ∀ i h, ht i = some h → i < sz ∧ ∃ o, dI D 212 i = nn o ∧ o ≤ 15 ∧ tk o ≤ h ∧ h - tk o + pu o ≤ 30 ∧ fitx o (dI D 213 i) ∧ VNx ht sz D i h o
theorem e_goesOn (D : Dat) : f_X3_goesOn D = some (if dI D 181 10 = -1 then 1 else 0, D) := by
  unfold f_X3_goesOn f_X3_goesOn_b13
  split <;> rfl
theorem ne_op {o b : Nat} (ho : o < 2147483648) (hb : b < 2147483648) (h : o ≠ b) : ¬ nn o = nn b := by rw [nn_eq ho hb]; exact h
/-- and with the fuel -/
def PmB (a k : Nat) : Prop := PmC a k ∨ (a = 181 ∧ (k = 8 ∨ k = 9))
theorem Cm.b {D D' : Dat} (h : Cm D D') : Ch PmB D D' := h.1.mono (fun a k q => Or.inl q)
/-- the loops of both, side by side -/
theorem run_l {N c sz F : Nat} {ht : Nat → Option Nat} (hc : c = 201 ∨ c = 204) (hsz : sz ≤ 64) (hF : F ≤ 600) : ∀ (r g1 g2 u i h : Nat) (D E : Dat), F - u = r → u ≤ F → r + 2 < g1 → r + 2 < g2 → Sm h D E → (dI D 181 10 = -1 → ht i = some h) → dI D 181 10 = -1 ∨ 0 ≤ (dI D 181 10).toInt → dI D 181 9 = nn u → dI D 181 8 = nn F → i < sz ∨ ¬ dI D 181 10 = -1 → i ≤ 64 → VOK ht sz E → dI D c 2 = nn sz → (∀ j, j < sz → dI D (c + 1) j = dI E 212 j ∧ dI D (c + 2) j = dI E 213 j) →
    ∃ D' E', f_X3_goOver_b4 N g1 (some c) (nn i) (nn u) D = some D' ∧ f_X12_run_b42 N g2 (nn F) (nn i) E = some (dI E' 207 84, E') ∧ (∃ h', Sm h' D' E') ∧ Ch PmB D D' ∧ Ch PmM E E' := by
  intro r
  induction r with
  | zero =>
    intro g1 g2 u i h D E hr hu hg1 hg2 hs hh he hd9 hd8 hi hi64 hV hsd hcode
    obtain ⟨g1, rfl⟩ : ∃ g, g1 = g + 1 := ⟨g1 - 1, by omega⟩
    obtain ⟨g2, rfl⟩ : ∃ g, g2 = g + 1 := ⟨g2 - 1, by omega⟩
    have huF : u = F := by omega
    have h84 : dI E 207 84 = dI D 181 10 := (hs.2.2.1 181 10 207 84 cor_n).symm
    have h83 : dI E 207 83 = nn u := ((hs.2.2.1 181 9 207 83 cor_u).symm).trans hd9
    rw [f_X3_goOver_b4, f_X12_run_b42, if_neg (by rw [nn_l, nn_lt (by omega) (by omega)]; omega), e_goesOn, bS]
    by_cases hgo : dI D 181 10 = -1
    · have q1 : ¬ 0 ≤ dI E 207 84 := by rw [h84, hgo]; decide
      have q2 : dI E 207 83 = nn F := by rw [h83, huF]
      refine ⟨sI D 181 10 3, sI E 207 84 3, ?_, ?_, ⟨h, sim_end hs 3⟩, (chE1 Cm.rf (by decide)).b, Ch.sI (by unfold PmM; omega) Ch.rf⟩
      · have q3 : ¬ dI D 181 9 < dI D 181 8 := by rw [hd9, hd8, nn_lt (by omega) (by omega)]; omega
        simp only [hgo, reduceIte, n10, f_X3_burns, q3, bS, f_X3_goOver_b47]
      · simp only [q1, q2, reduceIte, f_X12_run_b148]
    · have q1 : 0 ≤ dI E 207 84 := by rw [h84, le0]; exact he.resolve_left hgo
      exact ⟨D, E, by simp only [hgo, reduceIte, f_X3_goOver_b47], by simp only [q1, reduceIte, f_X12_run_b148], ⟨h, hs⟩, Ch.rf, Ch.rf⟩
  | succ r ih =>
    intro g1 g2 u i h D E hr hu hg1 hg2 hs hh he hd9 hd8 hi hi64 hV hsd hcode
    obtain ⟨g1, rfl⟩ : ∃ g, g1 = g + 1 := ⟨g1 - 1, by omega⟩
    obtain ⟨g2, rfl⟩ : ∃ g, g2 = g + 1 := ⟨g2 - 1, by omega⟩
    have h84 : dI E 207 84 = dI D 181 10 := (hs.2.2.1 181 10 207 84 cor_n).symm
    have h83 : dI E 207 83 = nn u := ((hs.2.2.1 181 9 207 83 cor_u).symm).trans hd9
    rw [f_X3_goOver_b4, f_X12_run_b42, if_neg (by rw [nn_l, nn_lt (by omega) (by omega)]; omega), e_goesOn, bS]
    by_cases hgo : dI D 181 10 = -1
    · have q1 : ¬ 0 ≤ dI E 207 84 := by rw [h84, hgo]; decide
      have q2 : ¬ dI E 207 83 = nn F := by rw [h83, nn_eq (by omega) (by omega)]; omega
      have q3 : dI D 181 9 < dI D 181 8 := by rw [hd9, hd8, nn_lt (by omega) (by omega)]; omega
      have q3' : nn u < dI D 181 8 := by rw [hd8, nn_lt (by omega) (by omega)]; omega
      have hti := hh hgo
      obtain ⟨hisz, o, ho1, ho2, ht1, hp1, hf1, hnj⟩ := hV.2 i h hti
      have i1 := nn_in (k := i) (n := 64) (by omega) (by omega)
      -- one more is burnt on both
      have hs1 : Sm h (sI D 181 9 (nn (u + 1))) (sI E 207 83 (nn (u + 1))) := hs.set cor_u (fun q => absurd q (by decide))
      generalize hD1 : sI D 181 9 (nn (u + 1)) = D1 at hs1
      generalize hE1 : sI E 207 83 (nn (u + 1)) = E1 at hs1
      have gD : Ch (fun a k => a = 181 ∧ k = 9) D D1 := by rw [← hD1]; exact Ch.sI ⟨rfl, rfl⟩ Ch.rf
      have gE : Ch (fun a k => a = 207 ∧ k = 83) E E1 := by rw [← hE1]; exact Ch.sI ⟨rfl, rfl⟩ Ch.rf
      have gDm : Ch PmB D D1 := gD.mono (fun a k q => by unfold PmB; omega)
      have gEm : Ch PmM E E1 := gE.mono (fun a k q => by unfold PmM; omega)
      have hgo1 : dI D1 181 10 = -1 := (gD.i (by omega)).trans hgo
      have hop : f_X0_operation c (nn i) D1 = some (nn o, D1) := by
        rw [code_op hsz ((gD.i (by omega)).trans hsd) hisz, gD.i (by omega), (hcode i hisz).1, ho1]
      have har : f_X0_argument c (nn i) D1 = some (dI E 213 i, D1) := by
        rw [code_arg hsz ((gD.i (by omega)).trans hsd) hisz, gD.i (by omega), (hcode i hisz).2]
      have eC : ∀ z, (f_X3_step (nn o) (dI E 213 i) (nn i) D1).bind (fun p15 => f_X3_goOver_b4 N g1 (some c) p15.1 (nn (u + 1)) p15.2) = some z → (if (if dI D 181 10 = -1 then (1 : Int32) else 0) = 0 then f_X3_goOver_b47 N D else (f_X3_burns D).bind (fun p5 => if p5.1 = 0 then f_X3_goOver_b47 N p5.2 else (some c).bind (fun a8 => if a8 = 201 ∨ a8 = 204 then (f_X0_operation a8 (nn i) p5.2).bind (fun p11 => (f_X0_argument a8 (nn i) p11.2).bind (fun p13 => (f_X3_step p11.1 p13.1 (nn i) p13.2).bind (fun p15 => f_X3_goOver_b4 N g1 (some a8) p15.1 (nn (u + 1)) p15.2))) else none))) = some z := by
        intro z hz
        simp only [hgo, reduceIte, n10, f_X3_burns, q3', bS, hc, hd9, nn_1, hD1, hop, har]
        exact hz
      have r212 : dI E1 212 (nn i).toNatClampNeg = nn o := by rw [nn_nat (by omega), gE.i (by omega)]; exact ho1
      have r213 : dI E1 213 (nn i).toNatClampNeg = dI E 213 i := by rw [nn_nat (by omega), gE.i (by omega)]
      -- what follows, from a state of both
      have go : ∀ (i' h' : Nat) (D2 E2 : Dat), (∃ h9, Sm h9 D2 E2) → (dI D2 181 10 = -1 → Sm h' D2 E2 ∧ ht i' = some h' ∧ i' < sz) → Cm D1 D2 → Ch PmM E1 E2 → i' ≤ 64 → ∃ D' E', f_X3_goOver_b4 N g1 (some c) (nn i') (nn (u + 1)) D2 = some D' ∧ f_X12_run_b42 N g2 (nn F) (nn i') E2 = some (dI E' 207 84, E') ∧ (∃ h', Sm h' D' E') ∧ Ch PmB D D' ∧ Ch PmM E E' := by
        intro i' h' D2 E2 ⟨h9, hs9⟩ hgo2 gC gM hi'
        have h29 : dI D2 181 9 = dI D1 181 9 := gC.1.i (by unfold PmC; omega)
        have h28 : dI D2 181 8 = dI D1 181 8 := gC.1.i (by unfold PmC; omega)
        have hd9' : dI D2 181 9 = nn (u + 1) := by rw [h29, ← hD1, dI_s, if_pos ⟨rfl, rfl⟩]
        have hd8' : dI D2 181 8 = nn F := by rw [h28, gD.i (by omega)]; exact hd8
        have hV2 : VOK ht sz E2 := by
          have e2 : ∀ a j, (a = 212 ∨ a = 213) → dI E2 a j = dI E a j := fun a j ha => by rw [gM.i (by unfold PmM; omega), gE.i (by omega)]
          refine ⟨hV.1, fun j hj hjt => ?_⟩
          unfold VNx
          rw [e2 212 j (Or.inl rfl), e2 213 j (Or.inr rfl)]
          exact hV.2 j hj hjt
        have hsd2 : dI D2 c 2 = nn sz := by rw [gC.1.i (by unfold PmC; omega), gD.i (by omega)]; exact hsd
        have hcode2 : ∀ j, j < sz → dI D2 (c + 1) j = dI E2 212 j ∧ dI D2 (c + 2) j = dI E2 213 j := fun j hj => by
          have e1 : ∀ a j, 201 ≤ a → dI D2 a j = dI D a j := fun a j ha => by rw [gC.1.i (by unfold PmC; omega), gD.i (by omega)]
          have e2 : ∀ a j, (a = 212 ∨ a = 213) → dI E2 a j = dI E a j := fun a j ha => by rw [gM.i (by unfold PmM; omega), gE.i (by omega)]
          rw [e1 (c + 1) j (by omega), e1 (c + 2) j (by omega), e2 212 j (Or.inl rfl), e2 213 j (Or.inr rfl)]
          exact hcode j hj
        have hend2 : dI D2 181 10 = -1 ∨ 0 ≤ (dI D2 181 10).toInt := by
          rcases gC.2 with q | q
          · exact Or.inl (q.trans hgo1)
          · exact Or.inr q
        by_cases hg2' : dI D2 181 10 = -1
        · obtain ⟨k1, k2, k3⟩ := hgo2 hg2'
          obtain ⟨D', E', a1, a2, a3, a4, a5⟩ := ih g1 g2 (u + 1) i' h' D2 E2 (by omega) (by omega) (by omega) (by omega) k1 (fun _ => k2) hend2 hd9' hd8' (Or.inl k3) hi' hV2 hsd2 hcode2
          exact ⟨D', E', a1, a2, a3, gDm.tr (gC.b.tr a4), gEm.tr (gM.tr a5)⟩
        · obtain ⟨D', E', a1, a2, a3, a4, a5⟩ := ih g1 g2 (u + 1) i' h9 D2 E2 (by omega) (by omega) (by omega) (by omega) hs9 (fun q => absurd q hg2') hend2 hd9' hd8' (Or.inr hg2') hi' hV2 hsd2 hcode2
          exact ⟨D', E', a1, a2, a3, gDm.tr (gC.b.tr a4), gEm.tr (gM.tr a5)⟩
      have e84 : dI D 181 10 = -1 := hgo
      rw [if_neg q1, if_neg q2, if_neg i1, if_neg i1, h83, nn_1, hE1, r212, r213]
      by_cases o15 : o = 15
      · subst o15
        -- HALT
        obtain ⟨D', E', a1, a2, a3, a4, a5⟩ := ih g1 g2 (u + 1) i h (sI D1 181 10 0) (sI E1 207 84 0) (by omega) (by omega) (by omega) (by omega) (sim_end hs1 0) (fun q => absurd q (by rw [dI_s, if_pos ⟨rfl, rfl⟩]; decide)) (Or.inr (by rw [dI_s, if_pos ⟨rfl, rfl⟩]; decide)) (by rw [dI_s, if_neg (by omega), ← hD1, dI_s, if_pos ⟨rfl, rfl⟩]) (by rw [dI_s, if_neg (by omega), gD.i (by omega)]; exact hd8) (Or.inr (by rw [dI_s, if_pos ⟨rfl, rfl⟩]; decide)) hi64 (by
          refine ⟨hV.1, fun j hj hjt => ?_⟩
          unfold VNx
          have e2 : ∀ a j, (a = 212 ∨ a = 213) → dI (sI E1 207 84 0) a j = dI E a j := fun a j ha => by rw [dI_s, if_neg (by omega), gE.i (by omega)]
          rw [e2 212 j (Or.inl rfl), e2 213 j (Or.inr rfl)]
          exact hV.2 j hj hjt) (by rw [dI_s, if_neg (by omega), gD.i (by omega)]; exact hsd) (fun j hj => by
          have e1 : ∀ a j, 201 ≤ a → dI (sI D1 181 10 0) a j = dI D a j := fun a j ha => by rw [dI_s, if_neg (by omega), gD.i (by omega)]
          have e2 : ∀ a j, (a = 212 ∨ a = 213) → dI (sI E1 207 84 0) a j = dI E a j := fun a j ha => by rw [dI_s, if_neg (by omega), gE.i (by omega)]
          rw [e1 (c + 1) j (by omega), e1 (c + 2) j (by omega), e2 212 j (Or.inl rfl), e2 213 j (Or.inr rfl)]
          exact hcode j hj)
        have stC : f_X3_step (nn 15) (dI E 213 i) (nn i) D1 = some (nn i, sI D1 181 10 0) := by
          unfold f_X3_step f_X3_finish
          rw [if_neg (show ¬ nn 15 = (11 : Int32) by decide), if_neg (show ¬ nn 15 = (12 : Int32) by decide), if_pos (show nn 15 = (15 : Int32) from rfl), e_goesOn]
          simp only [hgo1, bS, reduceIte, n10, f_X3_finish_b12]
        have a2' : f_X12_run_b42 N g2 (nn F) (nn (i + 1)) (sI E1 207 84 0) = some (dI E' 207 84, E') := by
          cases g2 with
          | zero => exact absurd a2 (by rw [f_X12_run_b42]; simp)
          | succ g2 =>
            rw [f_X12_run_b42] at a2 ⊢
            have q9 : 0 ≤ dI (sI E1 207 84 0) 207 84 := by rw [dI_s, if_pos ⟨rfl, rfl⟩]; decide
            rw [if_pos q9] at a2 ⊢
            exact a2
        refine ⟨D', E', eC D' (by rw [stC, bS]; exact a1), ?_, a3, (gDm.tr (chE1 Cm.rf (by decide)).b).tr a4, (gEm.tr (Ch.sI (by unfold PmM; omega) Ch.rf)).tr a5⟩
        rw [if_pos (show nn 15 = (15 : Int32) from rfl), nn_1]
        exact a2'
      · by_cases o12 : o = 12
        · subst o12
          obtain ⟨t, t1, t2, t3⟩ := hnj.2 (Or.inr rfl)
          obtain ⟨D', E', a1, a2, a3, a4, a5⟩ := go t (h - tk 12 + pu 12) D1 E1 ⟨h, hs1⟩ (fun _ => ⟨by simpa [tk, pu] using hs1, t3, t1⟩) Cm.rf Ch.rf (by omega)
          refine ⟨D', E', eC D' (by
            unfold f_X3_step
            rw [if_neg (show ¬ nn 12 = (11 : Int32) by decide), if_pos (show nn 12 = (12 : Int32) from rfl), bS, t2]
            exact a1), ?_, a3, a4, a5⟩
          rw [if_neg (show ¬ nn 12 = (15 : Int32) by decide), if_pos (show nn 12 = (12 : Int32) from rfl), t2]
          exact a2
        · by_cases o11 : o = 11
          · subst o11
            obtain ⟨t, t1, t2, t3⟩ := hnj.2 (Or.inl rfl)
            have n1 := hnj.1 ⟨by omega, by omega⟩
            obtain ⟨h', rfl⟩ : ∃ h', h = h' + 1 := ⟨h - 1, by simp [tk] at ht1; omega⟩
            obtain ⟨v, D2, E2, p1, p2, s2, c1, c2⟩ := sim_pop hs1
            have hh' : h' + 1 - tk 11 + pu 11 = h' := by simp [tk, pu]
            rw [hh'] at t3 n1
            by_cases v0 : v = 0
            · obtain ⟨D', E', a1, a2, a3, a4, a5⟩ := go t h' D2 E2 ⟨h', s2⟩ (fun _ => ⟨s2, t3, t1⟩) c1 c2 (by omega)
              refine ⟨D', E', eC D' (by
                unfold f_X3_step
                rw [if_pos (show nn 11 = (11 : Int32) from rfl), p1, bS]
                simp only [v0, reduceIte, f_X3_step_b50, bS]
                rw [t2]
                exact a1), ?_, a3, a4, a5⟩
              rw [if_neg (show ¬ nn 11 = (15 : Int32) by decide), if_neg (show ¬ nn 11 = (12 : Int32) by decide), if_pos (show nn 11 = (11 : Int32) from rfl), p2, bS]
              simp only [v0, reduceIte, f_X12_run_b145]
              rw [t2]
              exact a2
            · have hi1 : i + 1 < sz := (hV.2 (i + 1) _ n1).1
              obtain ⟨D', E', a1, a2, a3, a4, a5⟩ := go (i + 1) h' D2 E2 ⟨h', s2⟩ (fun _ => ⟨s2, n1, hi1⟩) c1 c2 (by omega)
              refine ⟨D', E', eC D' (by
                unfold f_X3_step
                rw [if_pos (show nn 11 = (11 : Int32) from rfl), p1, bS]
                simp only [v0, reduceIte, f_X3_step_b50, bS]
                rw [nn_1]
                exact a1), ?_, a3, a4, a5⟩
              rw [if_neg (show ¬ nn 11 = (15 : Int32) by decide), if_neg (show ¬ nn 11 = (12 : Int32) by decide), if_pos (show nn 11 = (11 : Int32) from rfl), p2, bS]
              simp only [v0, reduceIte, f_X12_run_b145]
              rw [nn_1]
              exact a2
          · have n1 := hnj.1 ⟨o12, o15⟩
            have hi1 : i + 1 < sz := (hV.2 (i + 1) _ n1).1
            obtain ⟨D2, E2, p1, p2, s2, c1, c2⟩ := sim_perform hs1 (show o ≤ 10 ∨ o = 13 ∨ o = 14 by omega) hf1 ht1 hp1
            obtain ⟨D', E', a1, a2, a3, a4, a5⟩ := go (i + 1) (h - tk o + pu o) D2 E2 (by
              rcases s2 with s2 | s2
              · exact ⟨_, s2⟩
              · exact s2.1) (fun q => by
              rcases s2 with s2 | s2
              · exact ⟨s2, n1, hi1⟩
              · exact absurd q s2.2) c1 c2 (by omega)
            refine ⟨D', E', eC D' (by
              unfold f_X3_step f_X3_step_b59
              rw [if_neg (show ¬ nn o = (11 : Int32) from ne_op (b := 11) (by omega) (by omega) o11), if_neg (show ¬ nn o = (12 : Int32) from ne_op (b := 12) (by omega) (by omega) o12), if_neg (show ¬ nn o = (15 : Int32) from ne_op (b := 15) (by omega) (by omega) o15), p1, bS, bS, nn_1]
              exact a1), ?_, a3, a4, a5⟩
            rw [if_neg (show ¬ nn o = (15 : Int32) from ne_op (b := 15) (by omega) (by omega) o15), if_neg (show ¬ nn o = (12 : Int32) from ne_op (b := 12) (by omega) (by omega) o12), if_neg (show ¬ nn o = (11 : Int32) from ne_op (b := 11) (by omega) (by omega) o11), p2, bS, nn_1]
            exact a2
    · have q1 : 0 ≤ dI E 207 84 := by rw [h84, le0]; exact he.resolve_left hgo
      exact ⟨D, E, by simp only [hgo, reduceIte, f_X3_goOver_b47], by simp only [q1, reduceIte, f_X12_run_b148], ⟨h, hs⟩, Ch.rf, Ch.rf⟩
