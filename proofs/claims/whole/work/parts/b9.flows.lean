/-! 6: flows -/
def FF (nu : Nat) (o : Nat → Nat) (x : Nat → Int32) (D0 : Dat) (d i : Nat) : Prop := (o i = 2 → ¬ dI D0 190 (tg (x i)) = -1 → U D0 d (tg (dI D0 190 (tg (x i))))) ∧ (o i = 4 → (dI D0 190 (26 + tg (x i)) = -1 → ∀ a, a < nu → U D0 d a) ∧ (¬ dI D0 190 (26 + tg (x i)) = -1 → U D0 d (tg (dI D0 190 (26 + tg (x i)))))) ∧ (o i = 13 ∨ o i = 14 → U D0 d (tg (x i)))
theorem mk_nn {nu : Nat} (hn : nu ≤ 6) {v : Int32} (h : mkOk nu v) (h1 : ¬ v = -1) : tg v < nu ∧ v = nn (tg v) := by
  rcases h with w | ⟨d, d1, d2⟩
  · exact absurd w h1
  · unfold tg
    rw [d2, nn_nat (by omega)]
    exact ⟨d1, rfl⟩
theorem wi_and (b : Bool) : wi b &&& 1 = wi b := by cases b <;> decide
theorem e_flowFits {N nu c sz : Nat} {K : Nat → Nat} {o : Nat → Nat} {x : Nat → Int32} {hv : Nat → Option Nat} {rg : Nat → Nat → Prop} {D0 D : Dat} {L : Nat → Nat} {M : Nat → Nat → Nat} (hN : 1000 ≤ N) (hG : GC nu sz o x) (hS : LatS nu D0) (hmk : ∀ v, v < 52 → mkOk nu (dI D0 190 v)) (hV : HV o x sz hv) (hE : CEn nu c sz o x hv rg D0 D) (hLD : ∀ a k, RIL a k → dI D a k = dI D0 a k) (hSC : SC sz L M D) {i h d : Nat} (hh : hv i = some h) (hd : d < nu) (hds : dS o hv L M i = sh nu D0 d) : ∃ b : Bool, f_X9_flowFits N nu K (nn i) D = some (wi b, D) ∧ (b = true ↔ FF nu o x D0 d i) := by
  have hz := hG.1.2
  have hn := hS.1.2
  obtain ⟨hi, hb, ht, hnb, -⟩ := hV.all i h hh
  obtain ⟨hK, h113, ⟨hd1, h2⟩, -, h190⟩ := id hE
  obtain ⟨k1, k2, k3, k4, k5, k6⟩ := id hK
  have ho := hG.2.1 i
  have i1 := nn_in (k := i) (n := 64) (by omega) (by omega)
  have n1 : (nn i).toNatClampNeg = i := nn_nat (by omega)
  have eg : (hv i).getD 0 = h := by rw [hh]; rfl
  have hL : Lat nu D := hS.2.1.eqs hLD
  have es : sh nu D = sh nu D0 := sh_same h2
  have uD : ∀ a b, U D a b ↔ U D0 a b := fun a b => by unfold U; rw [hLD 208 _ (by unfold RIL; omega)]
  have sT := e_sTaken (N := N) hN hG hE hSC hi hh hb ht
  have e114 : dI D 114 (nn i).toNatClampNeg = nn (L i) := by rw [n1]; exact ((hSC i hi).1).2
  have eor : nn (L i) ||| nn (tS M i h (tk (o i))) = nn (sh nu D d) := by
    rw [bt_or _ ((hSC i hi).1).1 _ (tS_lt (fun k hk => ((hSC i hi).2 k hk).1) hb _ ht), es, ← hds]
    unfold dS
    rw [eg]
  have eop : f_X0_operation c (nn i) D = some (nn (o i), D) := by rw [code_op k2 k5 hi, (k6 i hi).1]
  have ear : f_X0_argument c (nn i) D = some (x i, D) := by rw [code_arg k2 k5 hi, (k6 i hi).2]
  have hk190 : kd K 190 = 14 := kd_lt (by decide) rfl
  have hl190 : nl nu 190 = 52 := rfl
  unfold f_X9_flowFits
  simp only [k3, bS, k1, reduceIte, ear, i1, sT, eop, e114, eor]
  unfold f_X9_flowFits_b109 f_X9_flowFits_b114 f_X9_flowFits_b129
  by_cases c2 : o i = 2
  · have t := hG.x26 hi (by omega)
    have x1 : ¬ x i < 0 := by rw [t.2]; exact nn_nlt0 (by omega)
    have x2 : ¬ 26 ≤ x i := by rw [t.2, nn_l, nn_le (by omega) (by omega)]; omega
    have x3 : ¬ (x i < 0 ∨ nl nu 190 ≤ (x i).toNatClampNeg) := by rw [hl190, t.2]; exact nn_in (by omega) (by omega)
    have x5 : (x i).toNatClampNeg = tg (x i) := rfl
    have fin : FF nu o x D0 d i ↔ (¬ dI D0 190 (tg (x i)) = -1 → U D0 d (tg (dI D0 190 (tg (x i))))) := by
      unfold FF
      exact ⟨fun w => w.1 c2, fun w => ⟨fun _ => w, fun v => by omega, fun v => by omega⟩⟩
    rw [if_pos (show nn (o i) = (2 : Int32) by rw [c2]; rfl), if_neg x1, if_neg x2, k4, bS, if_pos hk190, if_neg x3, x5, h190, bS, if_pos hk190]
    have x3' : ¬ (x i < 0 ∨ nl nu 190 ≤ tg (x i)) := x3
    by_cases c : dI D0 190 (tg (x i)) = -1
    · rw [if_pos c, if_pos b1_1]
      exact ⟨true, rfl, fun _ => fin.mpr (fun w => absurd c w), fun _ => rfl⟩
    · rw [if_neg c, if_neg x3', h190]
      have m := mk_nn hn (hmk (tg (x i)) (by omega)) c
      obtain ⟨b, b1, b2⟩ := e_fits hn hd1 hL hd m.1
      rw [← m.2] at b1
      rw [b1, bS]
      refine ⟨b, ?_, ?_⟩
      · cases b <;> rfl
      · rw [fin, b2, uD]
        exact ⟨fun w _ => w, fun w => w c⟩
  · rw [if_neg (show ¬ nn (o i) = (2 : Int32) from ne_op (b := 2) (by omega) (by omega) c2)]
    by_cases c4 : o i = 4
    · have t := hG.x26 hi (by omega)
      rw [if_pos (show nn (o i) = (4 : Int32) by rw [c4]; rfl)]
      have er := e_rowMark (nu := nu) (K := K) (D := D) t.1 k4
      rw [← t.2] at er
      rw [er, bS]
      dsimp only
      rw [h190]
      have fin : FF nu o x D0 d i ↔ ((dI D0 190 (26 + tg (x i)) = -1 → ∀ a, a < nu → U D0 d a) ∧ (¬ dI D0 190 (26 + tg (x i)) = -1 → U D0 d (tg (dI D0 190 (26 + tg (x i)))))) := by
        unfold FF
        exact ⟨fun w => w.2.1 c4, fun w => ⟨fun v => by omega, fun _ => w, fun v => by omega⟩⟩
      by_cases c : dI D0 190 (26 + tg (x i)) = -1
      · obtain ⟨b, b1, b2⟩ := e_fits1 hn hd1 hL hd
        rw [c, b1, bS, if_pos (wi_and b)]
        refine ⟨b, rfl, ?_⟩
        rw [fin, b2]
        exact ⟨fun w => ⟨fun _ a ha => (uD d a).mp (w a ha), fun v => absurd c v⟩, fun w a ha => (uD d a).mpr (w.1 c a ha)⟩
      · have m := mk_nn hn (hmk (26 + tg (x i)) (by omega)) c
        obtain ⟨b, b1, b2⟩ := e_fits hn hd1 hL hd m.1
        rw [← m.2] at b1
        rw [b1, bS, if_pos (wi_and b)]
        refine ⟨b, rfl, ?_⟩
        rw [fin, b2, uD]
        exact ⟨fun w => ⟨fun v => absurd v c, fun _ => w⟩, fun w => w.2 c⟩
    · rw [if_neg (show ¬ nn (o i) = (4 : Int32) from ne_op (b := 4) (by omega) (by omega) c4)]
      by_cases c13 : o i = 13 ∨ o i = 14
      · have t := hG.xnu hi c13
        obtain ⟨b, b1, b2⟩ := e_fits hn hd1 hL hd t.1
        rw [← t.2] at b1
        have fin : FF nu o x D0 d i ↔ U D0 d (tg (x i)) := by
          unfold FF
          exact ⟨fun w => w.2.2 c13, fun w => ⟨fun v => by omega, fun v => by omega, fun _ => w⟩⟩
        refine ⟨b, ?_, by rw [fin, b2, uD]⟩
        by_cases e : o i = 13
        · rw [if_pos (show nn (o i) = (13 : Int32) by rw [e]; rfl), b1, bS, if_pos (wi_and b)]
        · rw [if_neg (show ¬ nn (o i) = (13 : Int32) from ne_op (b := 13) (by omega) (by omega) e), if_pos (show nn (o i) = (14 : Int32) by rw [c13.resolve_left e]; rfl), b1, bS, if_pos (wi_and b)]
      · rw [if_neg (show ¬ nn (o i) = (13 : Int32) from ne_op (b := 13) (by omega) (by omega) (by omega)), if_neg (show ¬ nn (o i) = (14 : Int32) from ne_op (b := 14) (by omega) (by omega) (by omega))]
        exact ⟨true, rfl, fun _ => ⟨fun v => absurd v c2, fun v => absurd v c4, fun v => absurd v c13⟩, fun _ => rfl⟩
theorem e_leaks {N nu sz : Nat} {o : Nat → Nat} {x : Nat → Int32} {hv : Nat → Option Nat} {rg : Nat → Nat → Prop} {D0 D : Dat} {L : Nat → Nat} {M : Nat → Nat → Nat} (hN : 1000 ≤ N) (hG : GC nu sz o x) (hS : LatS nu D0) (hmk : ∀ v, v < 52 → mkOk nu (dI D0 190 v)) (hV : HV o x sz hv) (hE : MEn nu sz o x hv rg D0 D) (hM : SM nu sz D0 L M D) {i h d : Nat} (hh : hv i = some h) (hd : d < nu) (hds : dS o hv L M i = sh nu D0 d) : ∃ b : Bool, f_X12_leaks N (nn i) D = some (wi b, D) ∧ (b = true ↔ ¬ FF nu o x D0 d i) := by
  have hz := hG.1.2
  have hn := hS.1.2
  obtain ⟨hi, hb, ht, hnb, -⟩ := hV.all i h hh
  have ho := hG.2.1 i
  have i1 := nn_in (k := i) (n := 64) (by omega) (by omega)
  have n1 : (nn i).toNatClampNeg = i := nn_nat (by omega)
  have i2 : ¬ (nn i < 0 ∨ 64 ≤ i) := by rw [n1] at i1; exact i1
  have eg : (hv i).getD 0 = h := by rw [hh]; rfl
  have e212 : dI D 212 i = nn (o i) := (hE.1.2.2 i hi).1
  have e213 : dI D 213 i = x i := (hE.1.2.2 i hi).2
  obtain ⟨zt, a1, a2⟩ := e_mtaken (N := N) hN hG hS hE hM hi hh hb ht
  obtain ⟨zd, b1, b2⟩ := lb_join hS hE (hM i hi).1 a2
  have ezd : zd = nn d := by
    refine (lb_uniq hS b2 (w := nn d) (b := sh nu D0 d) ⟨d, hd, rfl, rfl⟩).mpr ?_
    rw [← hds]
    unfold dS
    rw [eg]
  rw [ezd] at b1
  have u8 : ∀ a b, dI D 208 (6 * a + b) = dI D0 208 (6 * a + b) := fun a b => hE.2.2.1 208 _ (by unfold RIL; omega)
  have tst : ∀ a, a < nu → (dI D 208 (6 * d + a) = 0 ↔ ¬ U D0 d a) := fun a ha => by
    rw [u8]
    unfold U
    rcases hS.2.1.1 (6 * d + a) (by omega) with w | w <;> rw [w] <;> decide
  have idx : ∀ a, a < nu → ¬ (nn (6 * d + a) < 0 ∨ 36 ≤ (nn (6 * d + a)).toNatClampNeg) := fun a ha => nn_in (by omega) (by omega)
  have n6 : ∀ a, a < nu → (nn (6 * d + a)).toNatClampNeg = 6 * d + a := fun a ha => nn_nat (by omega)
  unfold f_X12_leaks
  rw [if_neg i1, a1, bS]
  dsimp only
  rw [n1, b1, bS]
  dsimp only
  rw [if_neg i2, if_neg i2, e212, e213]
  unfold f_X12_leaks_b104 f_X12_leaks_b105 f_X12_leaks_b129 f_X12_leaks_b130 f_X12_leaks_b149
  by_cases c2 : o i = 2
  · have t := hG.x26 hi (by omega)
    have x3 : ¬ (x i < 0 ∨ 26 ≤ (x i).toNatClampNeg) := by rw [t.2]; exact nn_in (by omega) (by omega)
    have x5 : (x i).toNatClampNeg = tg (x i) := rfl
    have fin : FF nu o x D0 d i ↔ (¬ dI D0 190 (tg (x i)) = -1 → U D0 d (tg (dI D0 190 (tg (x i))))) := by
      unfold FF
      exact ⟨fun w => w.1 c2, fun w => ⟨fun _ => w, fun v => by omega, fun v => by omega⟩⟩
    rw [if_pos (show nn (o i) = (2 : Int32) by rw [c2]; rfl)]
    simp only [x3, reduceIte]
    rw [x5, (hE.2.2.2.2 (tg (x i)) t.1).1]
    by_cases c : dI D0 190 (tg (x i)) = -1
    · rw [if_pos (by rw [c]; decide), if_pos b0_1]
      exact ⟨false, rfl, fun w => absurd w (by decide), fun w => absurd (fin.mpr (fun v => absurd c v)) w⟩
    · have m := mk_nn hn (hmk (tg (x i)) (by omega)) c
      rw [if_neg (show ¬ dI D0 190 (tg (x i)) < 0 by rw [m.2]; exact nn_nlt0 (by omega)), m.2, six, if_neg (idx _ m.1), n6 _ m.1, if_pos b1_1, if_pos b0_1]
      by_cases cu : U D0 d (tg (dI D0 190 (tg (x i))))
      · rw [if_neg (fun w => (tst _ m.1).mp w cu)]
        exact ⟨false, rfl, fun w => absurd w (by decide), fun w => absurd (fin.mpr (fun _ => cu)) w⟩
      · rw [if_pos ((tst _ m.1).mpr cu)]
        exact ⟨true, rfl, fun _ w => cu (fin.mp w c), fun _ => rfl⟩
  · rw [if_neg (show ¬ nn (o i) = (2 : Int32) from ne_op (b := 2) (by omega) (by omega) c2)]
    by_cases c4 : o i = 4
    · have t := hG.x26 hi (by omega)
      rw [if_pos (show nn (o i) = (4 : Int32) by rw [c4]; rfl)]
      have fin : FF nu o x D0 d i ↔ ((dI D0 190 (26 + tg (x i)) = -1 → ∀ a, a < nu → U D0 d a) ∧ (¬ dI D0 190 (26 + tg (x i)) = -1 → U D0 d (tg (dI D0 190 (26 + tg (x i)))))) := by
        unfold FF
        exact ⟨fun w => w.2.1 c4, fun w => ⟨fun v => by omega, fun _ => w, fun v => by omega⟩⟩
      have go : ∀ a, a < nu → (FF nu o x D0 d i ↔ U D0 d a) → ∃ b : Bool, (if nn (6 * d + a) < 0 ∨ 36 ≤ (nn (6 * d + a)).toNatClampNeg then none else (if dI D 208 (nn (6 * d + a)).toNatClampNeg = 0 then (if (1 : Int32) &&& 1 = 1 then some ((1 : Int32), D) else none) else (if (0 : Int32) &&& 1 = 0 then some ((0 : Int32), D) else none))) = some (wi b, D) ∧ (b = true ↔ ¬ FF nu o x D0 d i) := fun a ha hf => by
        rw [if_neg (idx a ha), n6 a ha, if_pos b1_1, if_pos b0_1]
        by_cases cu : U D0 d a
        · rw [if_neg (fun w => (tst a ha).mp w cu)]
          exact ⟨false, rfl, fun w => absurd w (by decide), fun w => absurd (hf.mpr cu) w⟩
        · rw [if_pos ((tst a ha).mpr cu)]
          exact ⟨true, rfl, fun _ w => cu (hf.mp w), fun _ => rfl⟩
      have e5 := (hE.2.2.2.2 (tg (x i)) t.1).2
      have i26 : ¬ (x i < 0 ∨ 26 ≤ (x i).toNatClampNeg) := by rw [t.2]; exact nn_in (by omega) (by omega)
      have ml := mk_lt hn (hmk (26 + tg (x i)) (by omega))
      unfold f_X12_rowOf f_X12_rowOf_b22
      rw [if_neg i26, if_neg i26, show (x i).toNatClampNeg = tg (x i) from rfl, e5]
      by_cases c : dI D0 190 (26 + tg (x i)) = -1
      · obtain ⟨B, B1, B2, -, -, B5⟩ := sh_bot hn hS.2.1 hS.2.2
        have eB : dI D 207 6 = nn B := (hE.2.2.1 207 6 (by unfold RIL; omega)).trans B2
        rw [if_neg (fun w => ml.mp w c), bS]
        dsimp only
        rw [eB, six]
        refine go B B1 ?_
        rw [fin]
        constructor
        · intro w; exact w.1 c B B1
        · intro w
          exact ⟨fun _ a ha => hS.2.1.2.2.1.2 d B a hd B1 ha w (B5 a ha), fun v => absurd c v⟩
      · have m := mk_nn hn (hmk (26 + tg (x i)) (by omega)) c
        rw [if_pos (ml.mpr c), bS]
        dsimp only
        rw [m.2, six]
        refine go _ m.1 ?_
        rw [fin]
        exact ⟨fun w => w.2 c, fun w => ⟨fun v => absurd v c, fun _ => w⟩⟩
    · rw [if_neg (show ¬ nn (o i) = (4 : Int32) from ne_op (b := 4) (by omega) (by omega) c4)]
      by_cases c13 : o i = 13 ∨ o i = 14
      · have t := hG.xnu hi c13
        have fin : FF nu o x D0 d i ↔ U D0 d (tg (x i)) := by
          unfold FF
          exact ⟨fun w => w.2.2 c13, fun w => ⟨fun v => by omega, fun v => by omega, fun _ => w⟩⟩
        have hx6 : (6 : Int32) * nn d + x i = nn (6 * d + tg (x i)) := by rw [← six, ← t.2]
        rw [hx6, if_neg (idx _ t.1), n6 _ t.1, if_pos b1_1, if_pos b0_1]
        have key : ∃ b : Bool, (if dI D 208 (6 * d + tg (x i)) = 0 then some ((1 : Int32), D) else some ((0 : Int32), D)) = some (wi b, D) ∧ (b = true ↔ ¬ FF nu o x D0 d i) := by
          by_cases cu : U D0 d (tg (x i))
          · rw [if_neg (fun w => (tst _ t.1).mp w cu)]
            exact ⟨false, rfl, fun w => absurd w (by decide), fun w => absurd (fin.mpr cu) w⟩
          · rw [if_pos ((tst _ t.1).mpr cu)]
            exact ⟨true, rfl, fun _ w => cu (fin.mp w), fun _ => rfl⟩
        by_cases e : o i = 13
        · rw [if_pos (show nn (o i) = (13 : Int32) by rw [e]; rfl)]; exact key
        · rw [if_neg (show ¬ nn (o i) = (13 : Int32) from ne_op (b := 13) (by omega) (by omega) e), if_pos (show nn (o i) = (14 : Int32) by rw [c13.resolve_left e]; rfl)]; exact key
      · rw [if_neg (show ¬ nn (o i) = (13 : Int32) from ne_op (b := 13) (by omega) (by omega) (by omega)), if_neg (show ¬ nn (o i) = (14 : Int32) from ne_op (b := 14) (by omega) (by omega) (by omega))]
        exact ⟨false, rfl, fun w => absurd w (by decide), fun w => absurd ⟨fun v => absurd v c2, fun v => absurd v c4, fun v => absurd v c13⟩ w⟩
/-! the loops of 6 -/
theorem ff_ok {N nu c sz : Nat} {K : Nat → Nat} {o : Nat → Nat} {x : Nat → Int32} {hv : Nat → Option Nat} {D : Dat} (hz : sz ≤ 64) (hK : Kc c sz o x D) (h5 : ∀ i, i < 64 → (mm (dL D 107 5) i = true ↔ ¬ hv i = none)) {P : Nat → Prop} (hP : ∀ i, i < sz → ¬ hv i = none → ∃ b : Bool, f_X9_flowFits N nu K (nn i) D = some (wi b, D) ∧ (b = true ↔ P i)) : ∀ (k g i n : Nat), i + k = n → k < g → n ≤ sz → (∀ j, j < n → hv j = none ∨ P j) → (n = sz → f_X9_flowsFit_b2 N nu K g (nn i) D = some (1, D)) ∧ (n < sz → ¬ hv n = none → ¬ P n → f_X9_flowsFit_b2 N nu K g (nn i) D = some (0, sI (sI D 107 11 (nn n)) 107 12 6)) := by
  obtain ⟨k1, k2, k3, k4, k5, k6⟩ := hK
  intro k
  induction k with
  | zero =>
    intro g i n hi hg hn hall
    obtain ⟨g, rfl⟩ : ∃ g', g = g' + 1 := ⟨g - 1, by omega⟩
    obtain rfl : i = n := by omega
    refine ⟨fun e => ?_, fun h1 h2 h3 => ?_⟩
    · have h1 : nn sz ≤ nn i := (nn_le (by omega) (by omega)).mpr (by omega)
      rw [f_X9_flowsFit_b2]
      simp only [k3, bS, k1, reduceIte, f_X0_size, k5, h1]
    · have h1' : ¬ nn sz ≤ nn i := by rw [nn_le (by omega) (by omega)]; omega
      obtain ⟨b, b1, b2⟩ := hP i h1 h2
      have m := (h5 i (by omega)).mpr h2
      have bf : b = false := Bool.eq_false_iff.mpr (fun w => h3 (b2.mp w))
      rw [bf] at b1
      rw [f_X9_flowsFit_b2]
      unfold f_X9_hasHeight
      simp only [k3, bS, k1, reduceIte, f_X0_size, k5, h1', e_holds _ (show i < 64 by omega), m, b1_1, n10, b1, f_X9_refuse, b0_1, show wi false = (0 : Int32) from rfl]
  | succ k ih =>
    intro g i n hi hg hn hall
    obtain ⟨g, rfl⟩ : ∃ g', g = g' + 1 := ⟨g - 1, by omega⟩
    have h1 : ¬ nn sz ≤ nn i := by rw [nn_le (by omega) (by omega)]; omega
    have st : f_X9_flowsFit_b2 N nu K (g + 1) (nn i) D = f_X9_flowsFit_b2 N nu K g (nn (i + 1)) D := by
      rw [f_X9_flowsFit_b2]
      unfold f_X9_hasHeight f_X9_flowsFit_b37
      by_cases hn' : hv i = none
      · have m : mm (dL D 107 5) i = false := Bool.eq_false_iff.mpr (fun w => (h5 i (by omega)).mp w hn')
        simp only [k3, bS, k1, reduceIte, f_X0_size, k5, h1, e_holds _ (show i < 64 by omega), m, Bool.false_eq_true, b0_1, nn_1]
      · have m := (h5 i (by omega)).mpr hn'
        obtain ⟨b, b1, b2⟩ := hP i (by omega) hn'
        have bt' : b = true := b2.mpr ((hall i (by omega)).resolve_left hn')
        rw [bt'] at b1
        simp only [k3, bS, k1, reduceIte, f_X0_size, k5, h1, e_holds _ (show i < 64 by omega), m, b1_1, n10, b1, nn_1, show wi true = (1 : Int32) from rfl]
    rw [st]
    exact ih g (i + 1) n (by omega) (by omega) hn hall
/-- how many are reached -/
def cR (hv : Nat → Option Nat) (i : Nat) : Nat := if hv i = none then 0 else 1
theorem fm_ok {N sz : Nat} {o : Nat → Nat} {x : Nat → Int32} {hv : Nat → Option Nat} {D : Dat} (hz : sz ≤ 64) (hK : Km sz o x D) (h245 : ∀ i, i < 64 → dI D 245 i = hI (hv i)) (hB : Bd hv) {P : Nat → Prop} (hP : ∀ i, i < sz → ¬ hv i = none → ∃ b : Bool, f_X12_leaks N (nn i) D = some (wi b, D) ∧ (b = true ↔ ¬ P i)) : ∀ (k g i n cn : Nat), i + k = n → k < g → n ≤ sz → (∀ j, j < n → hv j = none ∨ P j) → (n = sz → f_X12_verify_b143 N g (nn cn) (nn i) D = some (nn (cn + sm (cR hv) k i), sI (sI (sI D 207 7 (-1)) 207 8 (-1)) 207 16 1)) ∧ (n < sz → ¬ hv n = none → ¬ P n → f_X12_verify_b143 N g (nn cn) (nn i) D = some (0, sI (sI (sI D 207 7 (nn n)) 207 8 6) 207 0 2)) := by
  intro k
  induction k with
  | zero =>
    intro g i n cn hi hg hn hall
    obtain ⟨g, rfl⟩ : ∃ g', g = g' + 1 := ⟨g - 1, by omega⟩
    obtain rfl : i = n := by omega
    refine ⟨fun e => ?_, fun h1 h2 h3 => ?_⟩
    · rw [f_X12_verify_b143, hK.2.1, if_pos ((nn_le (by omega) (by omega)).mpr (by omega))]
      rfl
    · have i1 := nn_in (k := i) (n := 64) (by omega) (by omega)
      obtain ⟨b, b1, b2⟩ := hP i h1 h2
      have bt' : b = true := b2.mpr h3
      rw [bt'] at b1
      have hp : 0 ≤ hI (hv i) := by rw [← Int32.not_lt, hI_neg (fun k hk => hB i k hk)]; exact h2
      rw [f_X12_verify_b143, hK.2.1, if_neg (by rw [nn_le (by omega) (by omega)]; omega), if_neg i1, nn_nat (by omega), h245 i (by omega), if_pos hp, b1, bS]
      rw [show wi true = (1 : Int32) from rfl]
      simp only [n10, reduceIte]
      rfl
  | succ k ih =>
    intro g i n cn hi hg hn hall
    obtain ⟨g, rfl⟩ : ∃ g', g = g' + 1 := ⟨g - 1, by omega⟩
    have i1 := nn_in (k := i) (n := 64) (by omega) (by omega)
    have st : f_X12_verify_b143 N (g + 1) (nn cn) (nn i) D = f_X12_verify_b143 N g (nn (cn + cR hv i)) (nn (i + 1)) D := by
      rw [f_X12_verify_b143, hK.2.1, if_neg (by rw [nn_le (by omega) (by omega)]; omega), if_neg i1, nn_nat (by omega), h245 i (by omega)]
      unfold f_X12_verify_b183 cR
      by_cases hn' : hv i = none
      · rw [if_neg (show ¬ 0 ≤ hI (hv i) by rw [← Int32.not_lt, hI_neg (fun k hk => hB i k hk)]; exact fun w => w hn'), if_pos hn', nn_1]
        rfl
      · obtain ⟨b, b1, b2⟩ := hP i (by omega) hn'
        have bf : b = false := Bool.eq_false_iff.mpr (fun w => b2.mp w ((hall i (by omega)).resolve_left hn'))
        rw [bf] at b1
        rw [if_pos (show 0 ≤ hI (hv i) by rw [← Int32.not_lt, hI_neg (fun k hk => hB i k hk)]; exact hn'), if_neg hn', b1, bS, show wi false = (0 : Int32) from rfl, if_pos rfl, nn_1, nn_1]
    rw [st]
    have := ih g (i + 1) n (cn + cR hv i) (by omega) (by omega) hn hall
    refine ⟨fun e => ?_, this.2⟩
    rw [this.1 e]
    show _ = some (nn (cn + (cR hv i + sm (cR hv) k (i + 1))), _)
    rw [Nat.add_assoc]
