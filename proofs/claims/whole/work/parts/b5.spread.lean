/-! labels of the model: spreading -/
def MEn (nu sz : Nat) (o : Nat → Nat) (x : Nat → Int32) (hv : Nat → Option Nat) (rg : Nat → Nat → Prop) (D0 D : Dat) : Prop := Km sz o x D ∧ (∀ i, i < 64 → dI D 245 i = hI (hv i)) ∧ (∀ a k, RIL a k → dI D a k = dI D0 a k) ∧ (∀ i, i < sz → o i = 11 → ¬ hv i = none → ∀ q, q < sz → (dI D 248 (64 * i + q) = 0 ↔ ¬ rg i q)) ∧ ∀ v, v < 26 → dI D 214 v = dI D0 190 v ∧ dI D 215 v = dI D0 190 (26 + v)
def PlM (a _j : Nat) : Prop := a = 249 ∨ a = 250 ∨ a = 251
theorem MEn.kept {nu sz : Nat} {o : Nat → Nat} {x : Nat → Int32} {hv : Nat → Option Nat} {rg : Nat → Nat → Prop} {D0 D D' : Dat} (h : MEn nu sz o x hv rg D0 D) (hc : Ch PlM D D') : MEn nu sz o x hv rg D0 D' := by
  obtain ⟨h1, h2, h3, h4, h5⟩ := h
  refine ⟨h1.kept hc (fun a j w => by unfold PlM at w; unfold RKm; omega), fun i hi => ?_, fun a k r => ?_, fun i hi a b q hq => ?_, fun v hv' => ?_⟩
  · rw [hc.i (by unfold PlM; omega)]; exact h2 i hi
  · rw [hc.i (by unfold PlM; unfold RIL at r; omega)]; exact h3 a k r
  · rw [hc.i (by unfold PlM; omega)]; exact h4 i hi a b q hq
  · rw [hc.i (by unfold PlM; omega), hc.i (by unfold PlM; omega)]; exact h5 v hv'
/-- a label with a shade -/
def lb (nu : Nat) (D : Dat) (v : Int32) (s : Nat) : Prop := ∃ d, d < nu ∧ v = nn d ∧ s = sh nu D d
theorem lb_join {nu sz : Nat} {o : Nat → Nat} {x : Nat → Int32} {hv : Nat → Option Nat} {rg : Nat → Nat → Prop} {D0 D : Dat} (hS : LatS nu D0) (hE : MEn nu sz o x hv rg D0 D) {v w : Int32} {a b : Nat} (hv' : lb nu D0 v a) (hw : lb nu D0 w b) : ∃ z, f_X12_join v w D = some (z, D) ∧ lb nu D0 z (a ||| b) := by
  obtain ⟨d, d1, d2, d3⟩ := hv'
  obtain ⟨e, e1, e2, e3⟩ := hw
  have hL : Lat nu D := hS.2.1.eqs hE.2.2.1
  have es : sh nu D = sh nu D0 := sh_same (fun a => hE.2.2.1 2 a (by unfold RIL; omega))
  have h5 : dI D 207 5 = 1 := (hE.2.2.1 207 5 (by unfold RIL; omega)).trans hS.2.2
  obtain ⟨j, j1, j2, j3⟩ := sh_join hS.1.2 hL h5 d1 e1
  rw [es] at j3
  exact ⟨nn j, by rw [d2, e2]; exact j2, j, j1, rfl, by rw [d3, e3, j3]⟩
theorem lb_bot {nu sz : Nat} {o : Nat → Nat} {x : Nat → Int32} {hv : Nat → Option Nat} {rg : Nat → Nat → Prop} {D0 D : Dat} (hS : LatS nu D0) (hE : MEn nu sz o x hv rg D0 D) : lb nu D0 (dI D 207 6) 0 := by
  obtain ⟨B, b1, b2, -, b4, -⟩ := sh_bot hS.1.2 hS.2.1 hS.2.2
  exact ⟨B, b1, (hE.2.2.1 207 6 (by unfold RIL; omega)).trans b2, b4.symm⟩
theorem lb_uniq {nu : Nat} {D : Dat} (hS : LatS nu D) {v w : Int32} {a b : Nat} (hv : lb nu D v a) (hw : lb nu D w b) : v = w ↔ a = b := by
  obtain ⟨d, d1, d2, d3⟩ := hv
  obtain ⟨e, e1, e2, e3⟩ := hw
  have := hS.1.2
  rw [d2, e2, d3, e3, nn_eq (by omega) (by omega)]
  exact ⟨fun h => by rw [h], fun h => sh_inj hS.1.2 hS.2.1 hS.2.2 d1 e1 h⟩
/-- the model's labels as shades -/
def SM (nu sz : Nat) (D0 : Dat) (L : Nat → Nat) (M : Nat → Nat → Nat) (D : Dat) : Prop := ∀ i, i < sz → lb nu D0 (dI D 249 i) (L i) ∧ ∀ k, k < 56 → lb nu D0 (dI D 250 (56 * i + k)) (M i k)
theorem m56 (i k : Nat) : (56 : Int32) * nn i + nn k = nn (56 * i + k) := by rw [nn_l, nn_mul, nn_add]
theorem e_mtaken {N nu sz : Nat} {o : Nat → Nat} {x : Nat → Int32} {hv : Nat → Option Nat} {rg : Nat → Nat → Prop} {D0 D : Dat} {L : Nat → Nat} {M : Nat → Nat → Nat} (hN : 1000 ≤ N) (hG : GC nu sz o x) (hS : LatS nu D0) (hE : MEn nu sz o x hv rg D0 D) (hM : SM nu sz D0 L M D) {i h : Nat} (hi : i < sz) (hh : hv i = some h) (hb : h ≤ 30) (ht : tk (o i) ≤ h) : ∃ z, f_X12_taken N (nn i) D = some (z, D) ∧ lb nu D0 z (tS M i h (tk (o i))) := by
  have hz := hG.1.2
  have ho := hG.2.1 i
  obtain ⟨hK, h245, -⟩ := id hE
  have i1 := nn_in (k := i) (n := 64) (by omega) (by omega)
  have n1 : (nn i).toNatClampNeg = i := nn_nat (by omega)
  have i2 : ¬ (nn i < 0 ∨ 64 ≤ i) := by rw [n1] at i1; exact i1
  have t2 := tk_le (o i)
  have e212 : dI D 212 i = nn (o i) := (hK.2.2 i hi).1
  have e245 : dI D 245 i = nn h := by rw [h245 i (by omega), hh]; rfl
  have key : ∀ (j g k : Nat) (z : Int32), k + j = tk (o i) → j < g → lb nu D0 z (tS M i h k) → ∃ z', f_X12_taken_b7 N g (nn i) z (nn k) D = some (z', D) ∧ lb nu D0 z' (tS M i h (tk (o i))) := by
    intro j
    induction j with
    | zero =>
      intro g k z hk hg hl
      obtain ⟨g, rfl⟩ : ∃ g', g = g' + 1 := ⟨g - 1, by omega⟩
      have q : nn (tk (o i)) ≤ nn k := (nn_le (by omega) (by omega)).mpr (by omega)
      refine ⟨z, ?_, by rw [← show k = tk (o i) by omega]; exact hl⟩
      rw [f_X12_taken_b7, if_neg i1, n1, e212, e_takes ho, bS, if_pos q]
    | succ j ih =>
      intro g k z hk hg hl
      obtain ⟨g, rfl⟩ : ∃ g', g = g' + 1 := ⟨g - 1, by omega⟩
      have q : ¬ nn (tk (o i)) ≤ nn k := by rw [nn_le (by omega) (by omega)]; omega
      have e1 : (56 : Int32) * nn i + (26 : Int32) + nn h - (1 : Int32) - nn k = nn (56 * i + (26 + h - (k + 1))) := by
        rw [nn_l 56, nn_l 26, nn_mul, nn_add, nn_add]
        rw [show nn (56 * i + 26 + h) - (1 : Int32) = nn (56 * i + 26 + h - 1) from nn_sub (a := 56 * i + 26 + h) (b := 1) (by omega) (by omega), nn_sub (a := 56 * i + 26 + h - 1) (b := k) (by omega) (by omega)]
        congr 1
        omega
      have i3 := nn_in (k := 56 * i + (26 + h - (k + 1))) (n := 3584) (by omega) (by omega)
      obtain ⟨z1, a1, a2⟩ := lb_join hS hE hl ((hM i hi).2 (26 + h - (k + 1)) (by omega))
      obtain ⟨z2, b1, b2⟩ := ih g (k + 1) z1 (by omega) (by omega) a2
      refine ⟨z2, ?_, b2⟩
      rw [f_X12_taken_b7, if_neg i1, n1, e212, e_takes ho, bS, if_neg q]
      dsimp only
      rw [if_neg i2, e245, e1, if_neg i3, nn_nat (by omega), a1, bS, nn_1]
      exact b1
  exact key (tk (o i)) N 0 _ (by omega) (by omega) (lb_bot hS hE)
/-- the copy of a row -/
theorem bh_copy {N i : Nat} (hi : i < 64) {E : Dat} {Q : Dat → Prop} (hfin : ∀ D', Ch (fun a _ => a = 251) E D' → (∀ k, k < 56 → dI D' 251 k = dI E 250 (56 * i + k)) → Tt (f_X12_behindOf_b2 N 1 (nn i) 56 D') Q) : ∀ (k g t : Nat) (D : Dat), t + k = 56 → k < g → Ch (fun a _ => a = 251) E D → (∀ j, j < t → dI D 251 j = dI E 250 (56 * i + j)) → Tt (f_X12_behindOf_b2 N g (nn i) (nn t) D) Q := by
  intro k
  induction k with
  | zero =>
    intro g t D ht hg hch hv
    obtain ⟨g, rfl⟩ : ∃ g', g = g' + 1 := ⟨g - 1, by omega⟩
    have f := hfin D hch (fun k hk => hv k (by omega))
    rw [f_X12_behindOf_b2, if_pos (by decide)] at f
    rw [f_X12_behindOf_b2, if_pos (show 56 ≤ nn t by rw [nn_l, nn_le (by omega) (by omega)]; omega)]
    exact f
  | succ k ih =>
    intro g t D ht hg hch hv
    obtain ⟨g, rfl⟩ : ∃ g', g = g' + 1 := ⟨g - 1, by omega⟩
    have i1 := nn_in (k := t) (n := 56) (by omega) (by omega)
    have i2 := nn_in (k := 56 * i + t) (n := 3584) (by omega) (by omega)
    rw [f_X12_behindOf_b2, if_neg (show ¬ 56 ≤ nn t by rw [nn_l, nn_le (by omega) (by omega)]; omega), m56, if_neg i2, if_neg i1, nn_nat (k := 56 * i + t) (by omega), nn_nat (k := t) (by omega), nn_1]
    refine ih g (t + 1) _ (by omega) (by omega) (Ch.sI rfl hch) (fun j hj => ?_)
    rw [dI_s]
    by_cases e : j = t
    · rw [if_pos ⟨rfl, e⟩, e]; exact hch.i (by omega)
    · rw [if_neg (fun w => e w.2)]; exact hv j (by omega)
/-- the model's row behind an instruction -/
def AF (nu : Nat) (D0 : Dat) (A : Nat → Nat) (D : Dat) : Prop := ∀ k, k < 56 → lb nu D0 (dI D 251 k) (A k)
theorem mk_lt {nu : Nat} (hn : nu ≤ 6) {v : Int32} (h : mkOk nu v) : (0 ≤ v ↔ ¬ v = -1) := by
  rcases h with w | ⟨d, d1, d2⟩
  · rw [w]; decide
  · rw [d2]
    exact ⟨fun _ => nn_nm1 (by omega), fun _ => by rw [nn_l, nn_le (by omega) (by omega)]; exact Nat.zero_le _⟩
theorem lb_shv {nu : Nat} {D : Dat} (hn : nu ≤ 6) {v : Int32} (h : mkOk nu v) (h1 : ¬ v = -1) : lb nu D v (shv nu D v) := by
  rcases h with w | ⟨d, d1, d2⟩
  · exact absurd w h1
  · refine ⟨d, d1, d2, ?_⟩
    unfold shv tg
    rw [if_neg h1, d2, nn_nat (by omega)]
theorem e_mrow {nu sz : Nat} {o : Nat → Nat} {x : Nat → Int32} {hv : Nat → Option Nat} {rg : Nat → Nat → Prop} {D0 D : Dat} (hS : LatS nu D0) (hmk : ∀ v, v < 52 → mkOk nu (dI D0 190 v)) (hE : MEn nu sz o x hv rg D0 D) {t : Nat} (ht : t < 26) : ∃ z, f_X12_rowOf (nn t) D = some (z, D) ∧ lb nu D0 z ((evD nu D0).1 t) := by
  have i1 := nn_in (k := t) (n := 26) (by omega) (by omega)
  have n1 : (nn t).toNatClampNeg = t := nn_nat (by omega)
  have ok := hmk (26 + t) (by omega)
  have ml := mk_lt hS.1.2 ok
  unfold f_X12_rowOf f_X12_rowOf_b22
  rw [if_neg i1, if_neg i1, n1, (hE.2.2.2.2 t ht).2]
  by_cases c : dI D0 190 (26 + t) = -1
  · rw [if_neg (fun w => ml.mp w c)]
    refine ⟨_, rfl, ?_⟩
    show lb nu D0 _ (shv nu D0 (dI D0 190 (26 + t)))
    unfold shv
    rw [if_pos c]
    exact lb_bot hS hE
  · rw [if_pos (ml.mpr c)]
    exact ⟨_, rfl, lb_shv hS.1.2 ok c⟩
theorem e_behindOf {N nu sz : Nat} {o : Nat → Nat} {x : Nat → Int32} {hv : Nat → Option Nat} {rg : Nat → Nat → Prop} {D0 D : Dat} {L : Nat → Nat} {M : Nat → Nat → Nat} (hN : 1000 ≤ N) (hG : GC nu sz o x) (hS : LatS nu D0) (hmk : ∀ v, v < 52 → mkOk nu (dI D0 190 v)) (hE : MEn nu sz o x hv rg D0 D) (hM : SM nu sz D0 L M D) {i h : Nat} (hi : i < sz) (hh : hv i = some h) (hb : h ≤ 30) (ht : tk (o i) ≤ h) (hn : h - tk (o i) + pu (o i) ≤ 30) : Tt (f_X12_behindOf N (nn i) D) (fun D' => Ch (fun a _ => a = 251) D D' ∧ AF nu D0 (afS o x hv (evD nu D0) L M i) D') := by
  have hz := hG.1.2
  have ho := hG.2.1 i
  have tk2 := tk_le (o i)
  have pu2 := pu_le (o i)
  have i1 := nn_in (k := i) (n := 64) (by omega) (by omega)
  have n1 : (nn i).toNatClampNeg = i := nn_nat (by omega)
  have i2 : ¬ (nn i < 0 ∨ 64 ≤ i) := by rw [n1] at i1; exact i1
  have eg : (hv i).getD 0 = h := by rw [hh]; rfl
  have edS : dS o hv L M i = L i ||| tS M i h (tk (o i)) := by unfold dS; rw [eg]
  refine bh_copy (E := D) (by omega) (fun D1 c1 v1 => ?_) 56 N 0 D (by omega) (by omega) Ch.rf (fun j hj => absurd hj (by omega))
  have hE1 : MEn nu sz o x hv rg D0 D1 := hE.kept (c1.mono (fun a j w => by unfold PlM; omega))
  have hM1 : SM nu sz D0 L M D1 := fun t ht => ⟨by rw [c1.i (by omega)]; exact (hM t ht).1, fun k hk => by rw [c1.i (by omega)]; exact (hM t ht).2 k hk⟩
  obtain ⟨zt, a1, a2⟩ := e_mtaken (N := N) hN hG hS hE1 hM1 hi hh hb ht
  obtain ⟨zd, b1, b2⟩ := lb_join hS hE1 (hM1 i hi).1 a2
  rw [← edS] at b2
  have e212 : dI D1 212 i = nn (o i) := (hE1.1.2.2 i hi).1
  have e213 : dI D1 213 i = x i := (hE1.1.2.2 i hi).2
  -- the end: what is put
  have fin : ∀ (z : Int32) (E : Dat), Ch (fun a _ => a = 251) D E → (pu (o i) = 1 → lb nu D0 z (dS o hv L M i ||| srS o x (evD nu D0) M i)) → (∀ k, k < 56 → ¬ (pu (o i) = 1 ∧ k = 26 + (h - tk (o i))) → lb nu D0 (dI E 251 k) (afS o x hv (evD nu D0) L M i k)) → Tt (f_X12_behindOf_b151 N (nn i) z (nn (o i)) E) (fun D' => Ch (fun a _ => a = 251) D D' ∧ AF nu D0 (afS o x hv (evD nu D0) L M i) D') := by
    intro z E cE hz' hrow
    have hEE : MEn nu sz o x hv rg D0 E := hE.kept (cE.mono (fun a j w => by unfold PlM; omega))
    unfold f_X12_behindOf_b151 f_X12_behindOf_b181
    rw [e_puts ho, bS]
    by_cases cp : pu (o i) = 1
    · rw [if_pos (show nn (pu (o i)) = (1 : Int32) by rw [cp]; rfl)]
      dsimp only
      have e245 : dI E 245 (nn i).toNatClampNeg = nn h := by rw [n1, hEE.2.1 i (by omega), hh]; rfl
      have e26 : (26 : Int32) + nn h - nn (tk (o i)) = nn (26 + (h - tk (o i))) := by
        rw [nn_l, nn_add, nn_sub (a := 26 + h) (b := tk (o i)) (by omega) (by omega)]
        congr 1
        omega
      have i3 := nn_in (k := 26 + (h - tk (o i))) (n := 56) (by omega) (by omega)
      rw [if_neg i1, e_takes ho, bS]
      dsimp only
      rw [e245, e26, if_neg i3, nn_nat (by omega)]
      refine ⟨_, rfl, Ch.sI rfl cE, fun k hk => ?_⟩
      rw [dI_s]
      by_cases e : k = 26 + (h - tk (o i))
      · rw [if_pos ⟨rfl, e⟩]
        unfold afS
        rw [eg, if_pos ⟨cp, e⟩]; exact hz' cp
      · rw [if_neg (fun w => e w.2)]; exact hrow k hk (fun w => e w.2)
    · rw [if_neg (show ¬ nn (pu (o i)) = (1 : Int32) from ne_op (b := 1) (by omega) (by omega) cp)]
      exact ⟨_, rfl, cE, fun k hk => hrow k hk (fun w => cp w.1)⟩
  -- sources
  have src : ∀ (E : Dat), Ch (fun a _ => a = 251) D E → (∀ k, k < 56 → ¬ (pu (o i) = 1 ∧ k = 26 + (h - tk (o i))) → lb nu D0 (dI E 251 k) (afS o x hv (evD nu D0) L M i k)) → Tt (f_X12_behindOf_b85 N (nn i) zd (nn (o i)) E) (fun D' => Ch (fun a _ => a = 251) D D' ∧ AF nu D0 (afS o x hv (evD nu D0) L M i) D') := by
    intro E cE hrow
    have hEE : MEn nu sz o x hv rg D0 E := hE.kept (cE.mono (fun a j w => by unfold PlM; omega))
    have hME : SM nu sz D0 L M E := fun t ht => ⟨by rw [cE.i (by omega)]; exact (hM t ht).1, fun k hk => by rw [cE.i (by omega)]; exact (hM t ht).2 k hk⟩
    have e213E : dI E 213 (nn i).toNatClampNeg = x i := by rw [n1]; exact (hEE.1.2.2 i hi).2
    unfold f_X12_behindOf_b85
    by_cases c1' : o i = 1
    · have t := hG.x26 hi (by omega)
      rw [if_pos (show nn (o i) = (1 : Int32) by rw [c1']; rfl), if_neg i1, e213E, t.2, m56]
      have i3 := nn_in (k := 56 * i + tg (x i)) (n := 3584) (by omega) (by omega)
      obtain ⟨z, d1, d2⟩ := lb_join hS hEE b2 ((hME i hi).2 (tg (x i)) (by omega))
      rw [if_neg i3, nn_nat (by omega), d1, bS]
      unfold f_X12_behindOf_b112 f_X12_behindOf_b133
      dsimp only
      rw [if_neg (show ¬ nn (o i) = (3 : Int32) from ne_op (b := 3) (by omega) (by omega) (by omega)), if_neg (show ¬ nn (o i) = (13 : Int32) from ne_op (b := 13) (by omega) (by omega) (by omega))]
      refine fin z E cE (fun _ => ?_) hrow
      unfold srS
      rw [if_pos c1']; exact d2
    · rw [if_neg (show ¬ nn (o i) = (1 : Int32) from ne_op (b := 1) (by omega) (by omega) c1')]
      unfold f_X12_behindOf_b112
      by_cases c3 : o i = 3
      · have t := hG.x26 hi (by omega)
        rw [if_pos (show nn (o i) = (3 : Int32) by rw [c3]; rfl), if_neg i1, e213E]
        obtain ⟨zr, r1, r2⟩ := e_mrow hS hmk hEE t.1
        rw [← t.2] at r1
        obtain ⟨z, d1, d2⟩ := lb_join hS hEE b2 r2
        rw [r1, bS]
        dsimp only
        rw [d1, bS]
        unfold f_X12_behindOf_b133
        dsimp only
        rw [if_neg (show ¬ nn (o i) = (13 : Int32) from ne_op (b := 13) (by omega) (by omega) (by omega))]
        refine fin z E cE (fun _ => ?_) hrow
        unfold srS
        rw [if_neg c1', if_pos c3]; exact d2
      · rw [if_neg (show ¬ nn (o i) = (3 : Int32) from ne_op (b := 3) (by omega) (by omega) c3)]
        unfold f_X12_behindOf_b133
        by_cases c13 : o i = 13
        · have t := hG.xnu hi (by omega)
          rw [if_pos (show nn (o i) = (13 : Int32) by rw [c13]; rfl), if_neg i1, e213E]
          obtain ⟨z, d1, d2⟩ := lb_join hS hEE b2 (w := x i) (b := sh nu D0 (tg (x i))) ⟨_, t.1, t.2, rfl⟩
          rw [d1, bS]
          dsimp only
          refine fin z E cE (fun _ => ?_) hrow
          unfold srS
          rw [if_neg c1', if_neg c3, if_pos c13]; exact d2
        · rw [if_neg (show ¬ nn (o i) = (13 : Int32) from ne_op (b := 13) (by omega) (by omega) c13)]
          refine fin zd E cE (fun _ => ?_) hrow
          unfold srS
          rw [if_neg c1', if_neg c3, if_neg c13, Nat.or_zero]; exact b2
  rw [f_X12_behindOf_b2, if_pos (by decide), if_neg i1, a1, bS]
  dsimp only
  rw [n1, b1, bS]
  dsimp only
  simp only [i2, reduceIte]
  rw [e212, e213]
  have row0 : ∀ k, k < 56 → ¬ (o i = 2 ∧ k = tg (x i) ∧ (evD nu D0).2.2 (tg (x i)) = false) → ¬ (pu (o i) = 1 ∧ k = 26 + (h - tk (o i))) → lb nu D0 (dI D1 251 k) (afS o x hv (evD nu D0) L M i k) := fun k hk w1 w2 => by
    rw [v1 k hk]
    unfold afS
    rw [eg, if_neg w2, if_neg w1]
    exact (hM i hi).2 k hk
  by_cases c2 : o i = 2
  · have t := hG.x26 hi (by omega)
    have x5 : (x i).toNatClampNeg = tg (x i) := rfl
    have i4 : ¬ (x i < 0 ∨ 26 ≤ (x i).toNatClampNeg) := by rw [t.2]; exact nn_in (by omega) (by omega)
    have i5 : ¬ (x i < 0 ∨ 56 ≤ (x i).toNatClampNeg) := by rw [t.2]; exact nn_in (by omega) (by omega)
    rw [if_pos (show nn (o i) = (2 : Int32) by rw [c2]; rfl), if_neg i4, if_neg i5, x5, (hE1.2.2.2.2 (tg (x i)) t.1).1]
    have ml := mk_lt hS.1.2 (hmk (tg (x i)) (by omega))
    by_cases c : dI D0 190 (tg (x i)) = -1
    · rw [if_neg (fun w => ml.mp w c)]
      have ef : (evD nu D0).2.2 (tg (x i)) = false := decide_eq_false (fun w => w c)
      refine src _ (Ch.sI rfl c1) (fun k hk w => ?_)
      rw [dI_s]
      by_cases e : k = tg (x i)
      · rw [if_pos ⟨rfl, e⟩]
        unfold afS
        rw [eg, if_neg w, if_pos ⟨c2, e, ef⟩]; exact b2
      · rw [if_neg (fun w => e w.2)]; exact row0 k hk (fun w => e w.2.1) w
    · rw [if_pos (ml.mpr c)]
      refine src D1 c1 (fun k hk w => row0 k hk (fun v => ?_) w)
      have : (evD nu D0).2.2 (tg (x i)) = true := decide_eq_true c
      rw [this] at v
      exact absurd v.2.2 (by decide)
  · rw [if_neg (show ¬ nn (o i) = (2 : Int32) from ne_op (b := 2) (by omega) (by omega) c2)]
    exact src D1 c1 (fun k hk w => row0 k hk (fun v => c2 v.1) w)
