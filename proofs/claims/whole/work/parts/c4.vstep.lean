/-! verify: the step -/
theorem stp_verify {N nu n c sz : Nat} {K : Nat → Nat} {D : Dat} (hN : 100000 ≤ N) (a1 a2 a3 : Int32) (hS : IS nu D) (hL : Lat nu D) (hC : IC c sz D) (hMk : IM nu D) : ∃ D', stp_8 N nu n K D a1 a2 a3 = some (K, D') ∧ (Ch Pr D D' ∨ (Ch Pv D D' ∧ IS nu D' ∧ (dI D' 207 17 = 1 → IVm nu sz D') ∧ (dI D' 207 16 = 1 → ∃ ht, VOK ht sz D'))) := by
  obtain ⟨⟨n1, n2⟩, ⟨d1, d2⟩, -, -, -, -, ⟨s1, s2⟩⟩ := id hS
  obtain ⟨hc, ⟨h10, -⟩, hz, ⟨hcs, hms⟩, hcode⟩ := id hC
  by_cases hgo : dI D 207 5 = 0 ∨ sz = 0
  · -- an IllegalStateException
    obtain ⟨D', e1, e2⟩ := stp_not (K := K) (fL := f_L_verify N nu K D) (fM := fun D => f_X12_verify N D) (D := D) (r := 1) (by decide) (by
      unfold f_L_verify f_X11_verify f_X11_verify_b20 f_X0_size
      rcases s2 with w | w
      · have eS : f_X2_isSealed D = some (0, D) := by rw [sealed_e (by rw [s1]; exact Or.inl w), s1, w]
        simp only [eS, bS, reduceIte]
      · have eS : f_X2_isSealed D = some (1, D) := by rw [sealed_e (by rw [s1]; exact Or.inr w), s1, w]
        have e0 : sz = 0 := hgo.resolve_left (by rw [w]; decide)
        have ec : dI D c 2 = 0 := by rw [hcs, e0]; rfl
        simp only [eS, bS, n10, reduceIte, h10, hc, ec]) (by
      show f_X12_verify N D = _
      unfold f_X12_verify f_X12_verify_b19
      have q5 : dI (sI D 207 0 0) 207 5 = dI D 207 5 := by rw [dI_s, if_neg (by omega)]
      have q13 : dI (sI D 207 0 0) 207 13 = nn sz := by rw [dI_s, if_neg (by omega)]; exact hms
      rw [q5, q13]
      by_cases w : dI D 207 5 = 0
      · rw [if_pos w]; rfl
      · rw [if_neg w, if_pos (by rw [hgo.resolve_left w]; rfl)]; rfl)
    exact ⟨D', e1, Or.inl e2⟩
  · have hsl : dI D 207 5 = 1 := s2.resolve_left (fun w => hgo (Or.inl w))
    have hs1 : dI D 1 2 = 1 := s1.trans hsl
    have hsz : 1 ≤ sz := by omega
    have hcz : ¬ dI D c 2 = 0 := by rw [hcs]; exact ne_op (b := 0) (by omega) (by omega) (by omega)
    have hLS : LatS nu D := ⟨⟨n1, n2⟩, hL, hsl⟩
    have hmk : ∀ v, v < 52 → mkOk nu (dI D 190 v) := fun v hv => by
      have key : ∀ w : Int32, -1 ≤ w.toInt → w.toInt < nu → mkOk nu w := fun w h1 h2 => by
        by_cases e : w.toInt = -1
        · refine Or.inl (Int32.toInt_inj.mp (by rw [e]; decide))
        · obtain ⟨k, hk, ek⟩ := nn_of (show 0 ≤ w.toInt by omega)
          rw [ek, nn_int hk] at h2
          exact Or.inr ⟨k, by omega, ek⟩
      by_cases e : v < 26
      · have := hMk v e
        rw [this.1.1]; exact key _ this.2.1.1 this.2.1.2
      · have := hMk (v - 26) (by omega)
        rw [show 26 + (v - 26) = v by omega] at this
        rw [this.1.2]; exact key _ this.2.2.1 this.2.2.2
    -- the code as numbers
    obtain ⟨o, ho, hoD⟩ : ∃ o : Nat → Nat, (∀ i, o i ≤ 15) ∧ ∀ i, i < sz → dI D 212 i = nn (o i) := by
      refine ⟨fun i => if i < sz then tg (dI D 212 i) else 0, fun i => ?_, fun i hi => ?_⟩
      · show (if i < sz then tg (dI D 212 i) else 0) ≤ 15
        by_cases e : i < sz
        · rw [if_pos e]
          obtain ⟨-, -, g1, g2⟩ := hcode i e
          obtain ⟨k, hk, ek⟩ := nn_of g1
          unfold tg
          rw [ek, nn_nat hk]
          rw [ek, nn_int hk] at g2
          omega
        · rw [if_neg e]; omega
      · show dI D 212 i = nn (if i < sz then tg (dI D 212 i) else 0)
        obtain ⟨-, -, g1, g2⟩ := hcode i hi
        obtain ⟨k, hk, ek⟩ := nn_of g1
        rw [if_pos hi]
        unfold tg
        rw [ek, nn_nat hk]
    generalize hx : dI D 213 = x
    have hxD : ∀ i, dI D 213 i = x i := fun i => by rw [← hx]
    -- the class's memory at the start
    have cA : Ch PvC D (sI (sR (sR D 107 2 (some c)) 107 3 (some 190)) 107 10 0) := Ch.sI (by unfold PvC; omega) (Ch.sR (by unfold PvC; omega) (Ch.sR (by unfold PvC; omega) Ch.rf))
    have hKA : Kc c sz o x (sI (sR (sR D 107 2 (some c)) 107 3 (some 190)) 107 10 0) := by
      refine ⟨hc, hz, ?_, ?_, ?_, fun i hi => ⟨?_, ?_⟩⟩
      · rw [dR_sI, dR_s, if_neg (by omega), dR_s, if_pos ⟨rfl, rfl⟩]
      · rw [dR_sI, dR_s, if_pos ⟨rfl, rfl⟩]
      · rw [cA.i (by unfold PvC; omega)]; exact hcs
      · rw [cA.i (by unfold PvC; omega), (hcode i hi).1]; exact hoD i hi
      · rw [cA.i (by unfold PvC; omega), (hcode i hi).2.1]; exact hxD i
    have dA : dI (sI (sR (sR D 107 2 (some c)) 107 3 (some 190)) 107 10 0) 1 0 = nn nu := by rw [cA.i (by unfold PvC; omega)]; exact d1
    have mA : dI (sI (sR (sR D 107 2 (some c)) 107 3 (some 190)) 107 10 0) 107 10 = 0 := by rw [dI_s, if_pos ⟨rfl, rfl⟩]
    have acc : f_X9_accepts N nu K (some c) 190 D = (f_X9_argumentsFit N (sI (sR (sR D 107 2 (some c)) 107 3 (some 190)) 107 10 0)).bind (fun p1 => if p1.1 = 0 then (f_X9_accepts_b36 N nu K p1.2) else ((f_X9_endFits p1.2).bind (fun p4 => if p4.1 = 0 then (f_X9_accepts_b36 N nu K p4.2) else ((f_X9_heightsFit N nu K p4.2).bind (fun p7 => if p7.1 = 0 then (f_X9_accepts_b36 N nu K p7.2) else ((f_X6_find N (dR p7.2 107 2) (dL p7.2 107 5) p7.2).bind (fun p10 => (f_X9_findLabels N nu K p10).bind (fun p12 => (f_X9_flowsFit N nu K (sI p12 107 10 1)).bind (fun p14 => if p14.1 &&& 1 = p14.1 then some (p14.1, p14.2) else none))))))))) := rfl
    generalize hA : sI (sR (sR D 107 2 (some c)) 107 3 (some 190)) 107 10 0 = A at cA hKA dA mA acc
    have hVB : VB nu c sz o x D := ⟨hS, hL, hMk, hc, h10, ⟨hsz, hz⟩, hms, hsl, hs1, hcz, ho, hoD, hxD, hmk⟩
    rcases first_bad (fun j => fb nu sz (o j) (x j) = true) sz with hfa | ⟨b, hb, hbx, hbj⟩
    · by_cases hend : o (sz - 1) = 12 ∨ o (sz - 1) = 15
      · -- good code
        have hG : GC nu sz o x := ⟨⟨hsz, hz⟩, ho, hfa, hend⟩
        have front : f_X9_accepts N nu K (some c) 190 D = (f_X9_heightsFit N nu K A).bind (fun p7 => if p7.1 = 0 then (f_X9_accepts_b36 N nu K p7.2) else ((f_X6_find N (dR p7.2 107 2) (dL p7.2 107 5) p7.2).bind (fun p10 => (f_X9_findLabels N nu K p10).bind (fun p12 => (f_X9_flowsFit N nu K (sI p12 107 10 1)).bind (fun p14 => if p14.1 &&& 1 = p14.1 then some (p14.1, p14.2) else none))))) := by
          rw [acc, show f_X9_argumentsFit N A = some (1, A) from args_ok (N := N) n2 ho dA hKA hfa sz N 0 (by omega) (by omega), bS]
          simp only [n10, reduceIte]
          rw [end_ok hKA hsz hend, bS]
          simp only [n10, reduceIte]
        obtain ⟨D2, b1, b2⟩ := hts_C (N := N) (K := K) (by omega) hG hKA
        have cD2 : Ch PvC D D2 := cA.tr (b1.mono (fun a j w => by unfold PhC at w; unfold PvC; omega))
        rcases b2 with ⟨hv, r1, r2, r3⟩ | ⟨i, w, r1, r2, r3, r4⟩
        · -- heights are found
          have hK2 : Kc c sz o x D2 := hKA.kept b1 (fun a j w => by unfold PhC at w; unfold RKc; omega)
          have f2 : f_X9_accepts N nu K (some c) 190 D = (f_X6_find N (some c) (dL D2 107 5) D2).bind (fun p10 => (f_X9_findLabels N nu K p10).bind (fun p12 => (f_X9_flowsFit N nu K (sI p12 107 10 1)).bind (fun p14 => if p14.1 &&& 1 = p14.1 then some (p14.1, p14.2) else none))) := by
            rw [front, r2, bS]
            simp only [n10, reduceIte]
            rw [hK2.2.2.1]
          exact v_good hN a1 a2 a3 hVB hG r1 hK2 cD2 r3 f2
        · -- heights fail
          have ha : f_X9_accepts N nu K (some c) 190 D = some (0, D2) := by
            rw [front, r2, bS]
            rfl
          have m2 : dI D2 107 10 = 0 := by rw [b1.i (by unfold PhC; omega)]; exact mA
          refine v_refuse a1 a2 a3 hVB D2 (nn i) (nn w) 0 ha cD2 r3 r4 m2 (Or.inl rfl) (fun E0 x1 x2 x3 x4 x5 x6 x7 => ?_)
          obtain ⟨E1, g⟩ := hts_M (N := N) (by omega) hG x1
          rcases g with ⟨hv', g1, -⟩ | ⟨i', w', g1, g2, g3, g4, g5, g6⟩
          · rw [g1] at r1; exact absurd r1 (by simp)
          · rw [g1] at r1
            have e : (i', w') = (i, w) := Sum.inl.inj r1
            have ei : i' = i := congrArg Prod.fst e
            have ew : w' = w := congrArg Prod.snd e
            rw [ei] at g3
            rw [ew] at g4
            refine ⟨E1, ?_, g6.mono (fun a j v => by unfold Pmh at v; unfold PvM; omega), g3, g4, g5, ?_, ?_, ?_⟩
            · rw [v_mfront (N := N) (by omega) hG n2 E0 x1 x2]
              unfold f_X12_verify_b112
              rw [g2, bS]
              dsimp only
              rw [if_neg (by rw [g5]; decide)]
            · rw [g6.i (by unfold Pmh; omega)]; exact x4
            · rw [g6.i (by unfold Pmh; omega)]; exact x5
            · intro v
              rw [g6.i (by unfold Pmh; omega), x5] at v
              exact absurd v (by decide)
      · -- the end fails
        have e1 := end_no ho hKA hsz hend
        have ha : f_X9_accepts N nu K (some c) 190 D = some (0, sI (sI A 107 11 (nn (sz - 1))) 107 12 2) := by
          rw [acc, show f_X9_argumentsFit N A = some (1, A) from args_ok (N := N) n2 ho dA hKA hfa sz N 0 (by omega) (by omega), bS]
          simp only [n10, reduceIte]
          rw [e1, bS]
          rfl
        have c6 : Ch (fun a j => a = 107 ∧ (j = 11 ∨ j = 12)) A (sI (sI A 107 11 (nn (sz - 1))) 107 12 2) := Ch.sI (by omega) (Ch.sI (by omega) Ch.rf)
        refine v_refuse a1 a2 a3 hVB _ (nn (sz - 1)) 2 0 ha (cA.tr (c6.mono (fun a j w => by unfold PvC; omega))) (by rw [dI_s, if_neg (by omega), dI_s, if_pos ⟨rfl, rfl⟩]) (by rw [dI_s, if_pos ⟨rfl, rfl⟩]) (by rw [c6.i (by omega)]; exact mA) (Or.inl rfl) (fun E0 x1 x2 x3 x4 x5 x6 x7 => ?_)
        have := (mg_ok (N := N) n2 hsz ho x2 x1 sz N 0 sz (by omega) (by omega) (Nat.le_refl _) hfa).1 rfl
        rw [if_neg hend] at this
        have c7 : Ch (fun a j => a = 207 ∧ (j = 0 ∨ j = 7 ∨ j = 8)) E0 (sI (sI (sI E0 207 7 (nn (sz - 1))) 207 8 2) 207 0 2) := Ch.sI (by omega) (Ch.sI (by omega) (Ch.sI (by omega) Ch.rf))
        refine ⟨_, this, c7.mono (fun a j w => by unfold PvM; omega), by rw [dI_s, if_neg (by omega), dI_s, if_neg (by omega), dI_s, if_pos ⟨rfl, rfl⟩], by rw [dI_s, if_neg (by omega), dI_s, if_pos ⟨rfl, rfl⟩], by rw [dI_s, if_pos ⟨rfl, rfl⟩], by rw [c7.i (by omega)]; exact x4, by rw [c7.i (by omega)]; exact x5, fun v => ?_⟩
        rw [c7.i (by omega), x5] at v
        exact absurd v (by decide)
    · -- an argument fails
      have e1 := args_no (N := N) n2 ho dA hKA hb hbj hbx b N 0 (by omega) (by omega)
      have ha : f_X9_accepts N nu K (some c) 190 D = some (0, sI (sI A 107 11 (nn b)) 107 12 1) := by
        rw [acc, show f_X9_argumentsFit N A = _ from e1, bS]
        rfl
      have c6 : Ch (fun a j => a = 107 ∧ (j = 11 ∨ j = 12)) A (sI (sI A 107 11 (nn b)) 107 12 1) := Ch.sI (by omega) (Ch.sI (by omega) Ch.rf)
      refine v_refuse a1 a2 a3 hVB _ (nn b) 1 0 ha (cA.tr (c6.mono (fun a j w => by unfold PvC; omega))) (by rw [dI_s, if_neg (by omega), dI_s, if_pos ⟨rfl, rfl⟩]) (by rw [dI_s, if_pos ⟨rfl, rfl⟩]) (by rw [c6.i (by omega)]; exact mA) (Or.inl rfl) (fun E0 x1 x2 x3 x4 x5 x6 x7 => ?_)
      have := (mg_ok (N := N) n2 hsz ho x2 x1 b N 0 b (by omega) (by omega) (by omega) hbj).2 hb hbx
      have c7 : Ch (fun a j => a = 207 ∧ (j = 0 ∨ j = 7 ∨ j = 8)) E0 (sI (sI (sI E0 207 7 (nn b)) 207 8 1) 207 0 2) := Ch.sI (by omega) (Ch.sI (by omega) (Ch.sI (by omega) Ch.rf))
      refine ⟨_, this, c7.mono (fun a j w => by unfold PvM; omega), by rw [dI_s, if_neg (by omega), dI_s, if_neg (by omega), dI_s, if_pos ⟨rfl, rfl⟩], by rw [dI_s, if_neg (by omega), dI_s, if_pos ⟨rfl, rfl⟩], by rw [dI_s, if_pos ⟨rfl, rfl⟩], by rw [c7.i (by omega)]; exact x4, by rw [c7.i (by omega)]; exact x5, fun v => ?_⟩
      rw [c7.i (by omega), x5] at v
      exact absurd v (by decide)
