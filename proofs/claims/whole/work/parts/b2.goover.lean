/-! labels of the class: going over one instruction -/
def shv (nu : Nat) (D : Dat) (v : Int32) : Nat := if v = -1 then 0 else sh nu D (tg v)
/-- a mark: none, or a label -/
def mkOk (nu : Nat) (v : Int32) : Prop := v = -1 ∨ ∃ d, d < nu ∧ v = nn d
def evD (nu : Nat) (D : Dat) : Ev := (fun v => shv nu D (dI D 190 (26 + v)), sh nu D, fun v => decide (¬ dI D 190 v = -1))
def Rw2 (nu : Nat) (D : Dat) : Prop := ∀ a, a < nu → ∃ m, m < 64 ∧ dI D 2 a = nn m
def CEn (nu c sz : Nat) (o : Nat → Nat) (x : Nat → Int32) (hv : Nat → Option Nat) (rg : Nat → Nat → Prop) (D0 D : Dat) : Prop := Kc c sz o x D ∧ (∀ i, i < 64 → dI D 113 i = hI (hv i)) ∧ (dI D 1 0 = nn nu ∧ ∀ a, dI D 2 a = dI D0 2 a) ∧ (dI D 108 4 = nn sz ∧ ∀ i, i < sz → o i = 11 → ¬ hv i = none → ∀ q, q < sz → (mm (dL D 112 i) q = true ↔ rg i q)) ∧ ∀ v, dI D 190 v = dI D0 190 v
def PlC (a j : Nat) : Prop := a = 114 ∨ (116 ≤ a ∧ a ≤ 180) ∨ (a = 107 ∧ j = 9)
theorem CEn.kept {nu c sz : Nat} {o : Nat → Nat} {x : Nat → Int32} {hv : Nat → Option Nat} {rg : Nat → Nat → Prop} {D0 D D' : Dat} (h : CEn nu c sz o x hv rg D0 D) (hc : Ch PlC D D') : CEn nu c sz o x hv rg D0 D' := by
  obtain ⟨h1, h2, ⟨h3, h4⟩, ⟨h5, h6⟩, h7⟩ := h
  refine ⟨h1.kept hc (fun a j w => by unfold PlC at w; unfold RKc; omega), fun i hi => ?_, ⟨?_, fun a => ?_⟩, ⟨?_, fun i hi a b q hq => ?_⟩, fun v => ?_⟩
  · rw [hc.i (by unfold PlC; omega)]; exact h2 i hi
  · rw [hc.i (by unfold PlC; omega)]; exact h3
  · rw [hc.i (by unfold PlC; omega)]; exact h4 a
  · rw [hc.i (by unfold PlC; omega)]; exact h5
  · rw [hc.l (by unfold PlC; omega)]; exact h6 i hi a b q hq
  · rw [hc.i (by unfold PlC; omega)]; exact h7 v
theorem sh_same {nu : Nat} {D D0 : Dat} (h : ∀ a, dI D 2 a = dI D0 2 a) : sh nu D = sh nu D0 := by
  funext a; unfold sh; rw [h]
theorem sh_lt {nu : Nat} {D : Dat} (hn : nu ≤ 6) (h : Rw2 nu D) {a : Nat} (ha : a < nu) : sh nu D a < 64 := by
  obtain ⟨m, m1, m2⟩ := h a ha
  unfold sh
  rw [m2, nn_nat (by omega)]
  exact shn_lt nu (by omega) m m1
theorem shv_lt {nu : Nat} {D : Dat} (hn : nu ≤ 6) (h : Rw2 nu D) {v : Int32} (hv : mkOk nu v) : shv nu D v < 64 := by
  unfold shv
  rcases hv with w | ⟨d, d1, d2⟩
  · rw [if_pos w]; omega
  · rw [d2, if_neg (nn_nm1 (by omega))]
    unfold tg
    rw [nn_nat (by omega)]
    exact sh_lt hn h d1
theorem e_shv {nu : Nat} {K : Nat → Nat} {D D0 : Dat} (hn : nu ≤ 6) (hd : dI D 1 0 = nn nu) (h2 : ∀ a, dI D 2 a = dI D0 2 a) (hr : Rw2 nu D0) {v : Int32} (hv : mkOk nu v) : f_X2_shade nu K v D = some (nn (shv nu D0 v), D) := by
  unfold shv
  rcases hv with w | ⟨d, d1, d2⟩
  · rw [if_pos w, w]; exact e_shade1 hn hd
  · obtain ⟨m, m1, m2⟩ := hr d d1
    have i1 := nn_in (k := d) (n := nu) (by omega) d1
    rw [d2, if_neg (nn_nm1 (by omega))]
    unfold tg f_X2_shade f_X2_shade_b29 sh
    simp only [has_yes hn d1 hd, bS, n10, i1, reduceIte]
    rw [nn_nat (by omega), h2, m2, hd, shn_v nu (by omega) m m1, nn_nat (by omega)]
/-- the class's labels as numbers -/
def SC (sz : Nat) (L : Nat → Nat) (M : Nat → Nat → Nat) (D : Dat) : Prop := ∀ i, i < sz → (L i < 64 ∧ dI D 114 i = nn (L i)) ∧ ∀ k, k < 56 → M i k < 64 ∧ dI D (116 + i) k = nn (M i k)
theorem tS_lt {M : Nat → Nat → Nat} {i h : Nat} (hM : ∀ k, k < 56 → M i k < 64) (hh : h ≤ 30) : ∀ j, j ≤ h → tS M i h j < 64 := by
  intro j
  induction j with
  | zero => intro _; show 0 < 64; omega
  | succ j ih => intro hj; exact lor64 _ (ih (by omega)) _ (hM _ (by omega))
theorem e_sTaken {N nu c sz : Nat} {o : Nat → Nat} {x : Nat → Int32} {hv : Nat → Option Nat} {rg : Nat → Nat → Prop} {D0 D : Dat} {L : Nat → Nat} {M : Nat → Nat → Nat} (hN : 1000 ≤ N) (hG : GC nu sz o x) (hE : CEn nu c sz o x hv rg D0 D) (hS : SC sz L M D) {i h : Nat} (hi : i < sz) (hh : hv i = some h) (hb : h ≤ 30) (ht : tk (o i) ≤ h) : f_X9_shadeTaken N (nn i) D = some (nn (tS M i h (tk (o i))), D) := by
  have hz := hG.1.2
  obtain ⟨hK, h113, -⟩ := hE
  obtain ⟨k1, k2, k3, k4, k5, k6⟩ := id hK
  have i1 := nn_in (k := i) (n := 64) (by omega) (by omega)
  have t2 := tk_le (o i)
  have eh : dI D 113 (nn i).toNatClampNeg = nn h := by rw [nn_nat (by omega), h113 i (by omega), hh]; rfl
  have key : ∀ (j g k : Nat), k + j = tk (o i) → j < g → f_X9_shadeTaken_b4 N g (nn i) (nn (tS M i h k)) (nn (k + 1)) D = some (nn (tS M i h (tk (o i))), D) := by
    intro j
    induction j with
    | zero =>
      intro g k hk hg
      obtain ⟨g, rfl⟩ : ∃ g', g = g' + 1 := ⟨g - 1, by omega⟩
      have q : nn (tk (o i)) < nn (k + 1) := (nn_lt (by omega) (by omega)).mpr (by omega)
      rw [f_X9_shadeTaken_b4]
      simp only [k3, bS, k1, reduceIte, e_taken hG hK hi, q]
      rw [show k = tk (o i) by omega]
    | succ j ih =>
      intro g k hk hg
      obtain ⟨g, rfl⟩ : ∃ g', g = g' + 1 := ⟨g - 1, by omega⟩
      have q : ¬ nn (tk (o i)) < nn (k + 1) := by rw [nn_lt (by omega) (by omega)]; omega
      have e1 : (26 : Int32) + nn h - nn (k + 1) = nn (26 + h - (k + 1)) := by
        rw [nn_l, nn_add]; exact nn_sub (a := 26 + h) (b := k + 1) (by omega) (by omega)
      rw [f_X9_shadeTaken_b4]
      simp only [k3, bS, k1, reduceIte, e_taken hG hK hi, q, i1, eh, e1, e_heldAt (show i < 64 by omega) (show 26 + h - (k + 1) < 56 by omega)]
      obtain ⟨s1, s2⟩ := (hS i hi).2 (26 + h - (k + 1)) (by omega)
      rw [s2, bt_or _ (tS_lt (fun k hk => ((hS i hi).2 k hk).1) hb k (by omega)) _ s1, nn_1]
      exact ih g (k + 1) (by omega) (by omega)
  exact key (tk (o i)) N 0 (by omega) (by omega)
theorem GC.x26 {nu sz : Nat} {o : Nat → Nat} {x : Nat → Int32} (h : GC nu sz o x) {i : Nat} (hi : i < sz) (ho : 1 ≤ o i ∧ o i ≤ 4) : tg (x i) < 26 ∧ x i = nn (tg (x i)) := by
  have f := h.2.2.1 i hi
  have e : bd nu sz (o i) = some 26 := by unfold bd; rw [if_pos ho]
  unfold fb at f
  rw [e] at f
  have t := of_decide_eq_true f
  obtain ⟨k, hk, ek⟩ := nn_of t.1
  unfold tg
  rw [ek, nn_nat hk]
  rw [ek, nn_int hk] at t
  exact ⟨by omega, rfl⟩
theorem GC.xnu {nu sz : Nat} {o : Nat → Nat} {x : Nat → Int32} (h : GC nu sz o x) {i : Nat} (hi : i < sz) (ho : o i = 13 ∨ o i = 14) : tg (x i) < nu ∧ x i = nn (tg (x i)) := by
  have f := h.2.2.1 i hi
  have e : bd nu sz (o i) = some nu := by unfold bd; rw [if_neg (by omega), if_pos ho]
  unfold fb at f
  rw [e] at f
  have t := of_decide_eq_true f
  obtain ⟨k, hk, ek⟩ := nn_of t.1
  unfold tg
  rw [ek, nn_nat hk]
  rw [ek, nn_int hk] at t
  exact ⟨by omega, rfl⟩
theorem e_rowMark {nu : Nat} {K : Nat → Nat} {D : Dat} {t : Nat} (ht : t < 26) (h3 : dR D 107 3 = some 190) : f_X9_rowMark nu K (nn t) D = some (dI D 190 (26 + t), D) := by
  have hk : kd K 190 = 14 := kd_lt (by decide) rfl
  have hl : nl nu 190 = 52 := rfl
  have e1 : (26 : Int32) + nn t = nn (26 + t) := by rw [nn_l, nn_add]
  have i1 := nn_in (k := 26 + t) (n := 52) (by omega) (by omega)
  unfold f_X9_rowMark f_X9_rowMark_b23
  rw [if_neg (nn_nlt0 (by omega)), if_neg (show ¬ 26 ≤ nn t by rw [nn_l, nn_le (by omega) (by omega)]; omega), h3, bS, if_pos hk, e1, hl, if_neg i1, nn_nat (by omega)]
theorem e_source {nu c sz : Nat} {K : Nat → Nat} {o : Nat → Nat} {x : Nat → Int32} {hv : Nat → Option Nat} {rg : Nat → Nat → Prop} {D0 D : Dat} {L : Nat → Nat} {M : Nat → Nat → Nat} (hn : nu ≤ 6) (hG : GC nu sz o x) (hr : Rw2 nu D0) (hmk : ∀ v, v < 52 → mkOk nu (dI D0 190 v)) (hE : CEn nu c sz o x hv rg D0 D) (hS : SC sz L M D) {i : Nat} (hi : i < sz) : f_X9_shadeOfSource nu K (nn (o i)) (nn i) D = some (nn (srS o x (evD nu D0) M i), D) ∧ srS o x (evD nu D0) M i < 64 := by
  have hz := hG.1.2
  obtain ⟨hK, h113, ⟨hd, h2⟩, -, h190⟩ := hE
  obtain ⟨k1, k2, k3, k4, k5, k6⟩ := id hK
  have ho := hG.2.1 i
  unfold f_X9_shadeOfSource srS
  rw [k3, bS, if_pos k1, code_arg k2 k5 hi, bS, (k6 i hi).2]
  by_cases c1 : o i = 1
  · have t := hG.x26 hi (by omega)
    rw [if_pos (show nn (o i) = (1 : Int32) by rw [c1]; rfl), if_pos c1]
    obtain ⟨s1, s2⟩ := (hS i hi).2 (tg (x i)) (by omega)
    refine ⟨?_, s1⟩
    have e := e_heldAt (show i < 64 by omega) (show tg (x i) < 56 by omega) D
    rw [← t.2] at e
    rw [e, bS, s2]
  · rw [if_neg (show ¬ nn (o i) = (1 : Int32) from ne_op (b := 1) (by omega) (by omega) c1), if_neg c1]
    by_cases c3 : o i = 3
    · have t := hG.x26 hi (by omega)
      rw [if_pos (show nn (o i) = (3 : Int32) by rw [c3]; rfl), if_pos c3]
      have e := e_rowMark (nu := nu) (K := K) (D := D) t.1 k4
      rw [← t.2] at e
      rw [e, bS]
      dsimp only
      rw [h190]
      have ok := hmk (26 + tg (x i)) (by omega)
      rw [e_shv hn hd h2 hr ok, bS]
      exact ⟨rfl, shv_lt hn hr ok⟩
    · rw [if_neg (show ¬ nn (o i) = (3 : Int32) from ne_op (b := 3) (by omega) (by omega) c3), if_neg c3]
      by_cases c13 : o i = 13
      · have t := hG.xnu hi (by omega)
        rw [if_pos (show nn (o i) = (13 : Int32) by rw [c13]; rfl), if_pos c13]
        have ok : mkOk nu (x i) := Or.inr ⟨_, t⟩
        rw [e_shv hn hd h2 hr ok, bS]
        have es : shv nu D0 (x i) = sh nu D0 (tg (x i)) := by
          unfold shv
          rw [if_neg (by rw [t.2]; exact nn_nm1 (by omega))]
        rw [es]
        exact ⟨rfl, sh_lt hn hr t.1⟩
      · rw [if_neg (show ¬ nn (o i) = (13 : Int32) from ne_op (b := 13) (by omega) (by omega) c13), if_neg c13]
        exact ⟨rfl, by omega⟩
/-- what going over i makes of levels and maps -/
def goL (o : Nat → Nat) (hv : Nat → Option Nat) (R : Int64) (L : Nat → Nat) (M : Nat → Nat → Nat) (i : Nat) : Nat → Nat := fun t => if o i = 11 ∧ mm R t = true then L t ||| dS o hv L M i else L t
def goM (o : Nat → Nat) (x : Nat → Int32) (hv : Nat → Option Nat) (e : Ev) (L : Nat → Nat) (M : Nat → Nat → Nat) (i : Nat) : Nat → Nat → Nat := fun q k => if mm (nSs o x i) q = true ∧ k < 26 + nh o hv i then M q k ||| afS o x hv e L M i k else M q k
theorem e_goOver {N nu c sz : Nat} {K : Nat → Nat} {o : Nat → Nat} {x : Nat → Int32} {hv : Nat → Option Nat} {rg : Nat → Nat → Prop} {D0 D : Dat} {L : Nat → Nat} {M : Nat → Nat → Nat} (hN : 1000 ≤ N) (hn : nu ≤ 6) (hG : GC nu sz o x) (hr : Rw2 nu D0) (hmk : ∀ v, v < 52 → mkOk nu (dI D0 190 v)) (hV : HV o x sz hv) (hE : CEn nu c sz o x hv rg D0 D) (hS : SC sz L M D) {i h : Nat} (hh : hv i = some h) :
    ∃ D', f_X9_goOver N nu K (nn i) D = some D' ∧ Ch PlC D D' ∧ SC sz (goL o hv (dL D 112 i) L M i) (goM o x hv (evD nu D0) L M i) D' ∧ ∀ t, t < 64 → (mm (dL D' 107 9) t = true ↔ (mm (dL D 107 9) t = true ∨ (t < sz ∧ (¬ goL o hv (dL D 112 i) L M i t = L t ∨ ∃ k, k < 56 ∧ ¬ goM o x hv (evD nu D0) L M i t k = M t k)))) := by
  have hz := hG.1.2
  obtain ⟨hi, hb, -, h', l1, l2, l3, l4, l5⟩ := hV.2 i h hh
  have eh' : h' = h := by rw [hh] at l1; exact (Option.some.inj l1).symm
  subst eh'
  obtain ⟨hK, h113, ⟨hd, h2⟩, ⟨h4, h5⟩, h190⟩ := id hE
  obtain ⟨k1, k2, k3, k4, k5, k6⟩ := id hK
  have ho := hG.2.1 i
  have tk2 := tk_le (o i)
  have pu2 := pu_le (o i)
  have i1 := nn_in (k := i) (n := 64) (by omega) (by omega)
  have n1 : (nn i).toNatClampNeg = i := nn_nat (by omega)
  have i2 : ¬ (nn i < 0 ∨ 64 ≤ i) := by rw [n1] at i1; exact i1
  have eg : (hv i).getD 0 = h' := by rw [hh]; rfl
  have en : nh o hv i = h' - tk (o i) + pu (o i) := by unfold nh; rw [eg]
  -- the copy
  have c0 : Ch PlC D (sC D (115 + 1 + i) 180 0 0 56) := Ch.sC (fun k => by unfold PlC; omega) Ch.rf
  have v180 : ∀ k, k < 56 → dI (sC D (115 + 1 + i) 180 0 0 56) 180 k = nn (M i k) := fun k hk => by
    rw [dI_C, if_pos ⟨rfl, by omega, by omega⟩, show 0 + (k - 0) = k by omega]
    exact ((hS i hi).2 k hk).2
  have v180' : ∀ a k, a ≠ 180 → dI (sC D (115 + 1 + i) 180 0 0 56) a k = dI D a k := fun a k ha => by rw [dI_C, if_neg (fun w => ha w.1)]
  have vL : ∀ a k, dL (sC D (115 + 1 + i) 180 0 0 56) a k = dL D a k := fun a k => rfl
  generalize hD1 : sC D (115 + 1 + i) 180 0 0 56 = D1 at c0 v180 v180' vL
  have hE1 := hE.kept c0
  have hS1 : SC sz L M D1 := fun t ht => ⟨⟨((hS t ht).1).1, by rw [v180' 114 t (by omega)]; exact ((hS t ht).1).2⟩, fun k hk => ⟨((hS t ht).2 k hk).1, by rw [v180' (116 + t) k (by omega)]; exact ((hS t ht).2 k hk).2⟩⟩
  obtain ⟨hK1, h1131, ⟨hd1, h21⟩, ⟨h41, h51⟩, h1901⟩ := id hE1
  obtain ⟨m1, m2, m3, m4, m5, m6⟩ := id hK1
  have e113 : dI D1 113 i = nn h' := by rw [h1131 i (by omega), hh]; rfl
  have e114 : dI D1 114 i = nn (L i) := ((hS1 i hi).1).2
  have sT := e_sTaken (N := N) hN hG hE1 hS1 hi hh hb l2
  have sT64 := tS_lt (M := M) (i := i) (fun k hk => ((hS i hi).2 k hk).1) hb (tk (o i)) l2
  have lL := ((hS i hi).1).1
  have edS : dS o hv L M i = L i ||| tS M i h' (tk (o i)) := by unfold dS; rw [eg]
  have dS64 : dS o hv L M i < 64 := by rw [edS]; exact lor64 _ lL _ sT64
  have eor : nn (L i) ||| nn (tS M i h' (tk (o i))) = nn (dS o hv L M i) := by rw [edS, bt_or _ lL _ sT64]
  have eleft : nn h' - nn (tk (o i)) = nn (h' - tk (o i)) := nn_sub l2 (by omega)
  obtain ⟨sS, sS64⟩ := e_source (K := K) hn hG hr hmk hE1 hS1 hi
  have ear : f_X0_argument c (nn i) D1 = some (x i, D1) := by rw [code_arg m2 m5 hi, (m6 i hi).2]
  have eop : ∀ E, Ch PlC D1 E → f_X0_operation c (nn i) E = some (nn (o i), E) := fun E hc => by
    have kE := hK1.kept hc (fun a j w => by unfold PlC at w; unfold RKc; omega)
    rw [code_op kE.2.1 kE.2.2.2.2.1 hi, (kE.2.2.2.2.2 i hi).1]
  -- the row behind
  have afl : ∀ k, k < 56 → afS o x hv (evD nu D0) L M i k < 64 := fun k hk => by
    unfold afS
    split
    · exact lor64 _ dS64 _ sS64
    · split
      · exact dS64
      · exact ((hS i hi).2 k hk).1
  -- the rest, from the row behind on
  have rest : ∀ E : Dat, Ch (fun a _ => a = 180) D1 E → (∀ k, k < 56 → dI E 180 k = nn (afS o x hv (evD nu D0) L M i k)) → ∃ D', f_X9_goOver_b143 N nu K (nn i) (nn (h' - tk (o i))) (nn (dS o hv L M i)) E = some D' ∧ Ch PlC D D' ∧ SC sz (goL o hv (dL D 112 i) L M i) (goM o x hv (evD nu D0) L M i) D' ∧ ∀ t, t < 64 → (mm (dL D' 107 9) t = true ↔ (mm (dL D 107 9) t = true ∨ (t < sz ∧ (¬ goL o hv (dL D 112 i) L M i t = L t ∨ ∃ k, k < 56 ∧ ¬ goM o x hv (evD nu D0) L M i t k = M t k)))) := by
    intro E hcE hB
    have cE : Ch PlC D1 E := hcE.mono (fun a j w => by unfold PlC; omega)
    have hEE := hE1.kept cE
    obtain ⟨hKE, -, -, ⟨h4E, -⟩, -⟩ := id hEE
    obtain ⟨p1, p2, p3, p4, p5, p6⟩ := id hKE
    have hSE : SC sz L M E := fun t ht => ⟨⟨((hS1 t ht).1).1, by rw [hcE.i (by omega)]; exact ((hS1 t ht).1).2⟩, fun k hk => ⟨((hS1 t ht).2 k hk).1, by rw [hcE.i (by omega)]; exact ((hS1 t ht).2 k hk).2⟩⟩
    have e112 : dL E 112 i = dL D 112 i := by rw [hcE.l (by omega), vL]
    have e9 : dL E 107 9 = dL D 107 9 := by rw [hcE.l (by omega), vL]
    -- nexts, from any state with levels done
    have nexts : ∀ (F : Dat) (Lf : Nat → Nat), Ch PlC E F → (∀ t, t < sz → Lf t < 64 ∧ dI F 114 t = nn (Lf t)) → (∀ t k, t < sz → k < 56 → dI F (116 + t) k = nn (M t k)) → (∀ k, k < 56 → dI F 180 k = nn (afS o x hv (evD nu D0) L M i k)) → ∃ D', f_X9_goOver_b163 N nu K (nn i) (nn (h' - tk (o i))) F = some D' ∧ Ch PlC F D' ∧ SC sz Lf (goM o x hv (evD nu D0) L M i) D' ∧ ∀ t, t < 64 → (mm (dL D' 107 9) t = true ↔ (mm (dL F 107 9) t = true ∨ (t < sz ∧ ∃ k, k < 56 ∧ ¬ goM o x hv (evD nu D0) L M i t k = M t k))) := by
      intro F Lf cF hLf hMF hBF
      have hKF := hKE.kept cF (fun a j w => by unfold PlC at w; unfold RKc; omega)
      obtain ⟨r1, r2, r3, r4, r5, r6⟩ := id hKF
      have eu : (26 : Int32) + nn (h' - tk (o i)) + nn (pu (o i)) = nn (26 + nh o hv i) := by rw [nn_l, nn_add, nn_add, en, Nat.add_assoc]
      obtain ⟨D', a1, a2, a3, a4⟩ := rh_set (N := N) (nu := nu) (sz := sz) (K := K) hN (u := 26 + nh o hv i) (by omega) (afS o x hv (evD nu D0) L M i) afl 2 0 N (nSs o x i) M F (by omega) (by omega) (cn_nS hG hi) (fun q hq hm => hG.nxs hi ((mm_nS hG hi hq).mp hm)) hz (fun t k ht hk => ⟨((hS t ht).2 k hk).1, hMF t k ht hk⟩) hBF
      have gM : ∀ t k, (if mm (nSs o x i) t = true ∧ k < 26 + nh o hv i then M t k ||| afS o x hv (evD nu D0) L M i k else M t k) = goM o x hv (evD nu D0) L M i t k := fun t k => rfl
      refine ⟨D', ?_, a2.mono (fun a j w => by unfold PlC; omega), fun t ht => ⟨⟨(hLf t ht).1, by rw [a2.i (by omega)]; exact (hLf t ht).2⟩, fun k hk => ⟨?_, a3 t k ht hk⟩⟩, fun t ht => ?_⟩
      · unfold f_X9_goOver_b163
        simp only [r3, bS, r1, reduceIte, e_put hG hKF hi, e_nexts hG hKF hi, eu]
        exact a1
      · unfold goM
        split
        · exact lor64 _ ((hS t ht).2 k hk).1 _ (afl k hk)
        · exact ((hS t ht).2 k hk).1
      · rw [a4 t ht]
        refine or_congr_right ?_
        constructor
        · intro ⟨w1, s, s1, s2⟩
          have hts := hG.nxs hi ((mm_nS hG hi ht).mp w1)
          refine ⟨hts, s, by omega, ?_⟩
          unfold goM
          rw [if_pos ⟨w1, s1⟩]; exact s2
        · intro ⟨w1, s, s1, s2⟩
          unfold goM at s2
          by_cases c : mm (nSs o x i) t = true ∧ s < 26 + nh o hv i
          · rw [if_pos c] at s2; exact ⟨c.1, s, c.2, s2⟩
          · rw [if_neg c] at s2; exact absurd rfl s2
    unfold f_X9_goOver_b143
    rw [p3, bS, if_pos p1, eop E cE, bS]
    by_cases c11 : o i = 11
    · rw [if_pos (show nn (o i) = (11 : Int32) by rw [c11]; rfl)]
      dsimp only
      obtain ⟨F, a1, a2, a3, a4⟩ := rl_l (N := N) (c := c) (o := o) (x := x) dS64 hi L sz N 0 E (by omega) (by omega) hKE h4E (fun t ht => ⟨((hS t ht).1).1, by rw [if_neg (fun w => by omega)]; exact ((hSE t ht).1).2⟩)
      have cF : Ch PlC E F := a2.mono (fun a j w => by unfold PlC; omega)
      have gL : ∀ t, (if mm (dL E 112 i) t = true then L t ||| dS o hv L M i else L t) = goL o hv (dL D 112 i) L M i t := fun t => by
        unfold goL
        rw [e112]
        by_cases w : mm (dL D 112 i) t = true
        · rw [if_pos w, if_pos ⟨c11, w⟩]
        · rw [if_neg w, if_neg (fun v => w v.2)]
      obtain ⟨D', b1, b2, b3, b4⟩ := nexts F (goL o hv (dL D 112 i) L M i) cF (fun t ht => ⟨by
        unfold goL
        split
        · exact lor64 _ ((hS t ht).1).1 _ dS64
        · exact ((hS t ht).1).1, by rw [a3 t ht, gL]⟩) (fun t k ht hk => by rw [a2.i (by omega)]; exact ((hSE t ht).2 k hk).2) (fun k hk => by rw [a2.i (by omega)]; exact hB k hk)
      refine ⟨D', ?_, c0.tr (cE.tr (cF.tr b2)), b3, fun t ht => ?_⟩
      · have : f_X9_raiseLevels N (nn i) (nn (dS o hv L M i)) E = some F := a1
        rw [this, bS]
        exact b1
      · rw [b4 t ht, a4 t ht, e9]
        constructor
        · intro w
          rcases w with (w | ⟨-, w1, w2, w3⟩) | ⟨w1, w2⟩
          · exact Or.inl w
          · refine Or.inr ⟨w1, Or.inl ?_⟩
            rw [← gL, if_pos w2]; exact w3
          · exact Or.inr ⟨w1, Or.inr w2⟩
        · intro w
          rcases w with w | ⟨w1, w2 | w2⟩
          · exact Or.inl (Or.inl w)
          · rw [← gL] at w2
            by_cases c : mm (dL E 112 i) t = true
            · rw [if_pos c] at w2; exact Or.inl (Or.inr ⟨Nat.zero_le _, w1, c, w2⟩)
            · rw [if_neg c] at w2; exact absurd rfl w2
          · exact Or.inr ⟨w1, w2⟩
    · rw [if_neg (show ¬ nn (o i) = (11 : Int32) from ne_op (b := 11) (by omega) (by omega) c11)]
      dsimp only
      have gL : goL o hv (dL D 112 i) L M i = L := by
        funext t
        unfold goL
        rw [if_neg (fun w => c11 w.1)]
      obtain ⟨D', b1, b2, b3, b4⟩ := nexts E L Ch.rf (fun t ht => (hSE t ht).1) (fun t k ht hk => ((hSE t ht).2 k hk).2) hB
      refine ⟨D', b1, c0.tr (cE.tr b2), by rw [gL]; exact b3, fun t ht => ?_⟩
      rw [b4 t ht, e9, gL]
      refine or_congr_right (and_congr_right (fun _ => ⟨fun w => Or.inr w, fun w => ?_⟩))
      rcases w with w | w
      · exact absurd rfl w
      · exact w
  -- a store
  have store : ∀ E : Dat, Ch (fun a _ => a = 180) D1 E → (∀ k, k < 56 → dI E 180 k = nn (if pu (o i) = 1 ∧ k = 26 + (h' - tk (o i)) then dS o hv L M i ||| srS o x (evD nu D0) M i else M i k)) → ∃ D', f_X9_goOver_b103 N nu K (nn i) (x i) (nn (h' - tk (o i))) (nn (dS o hv L M i)) E = some D' ∧ Ch PlC D D' ∧ SC sz (goL o hv (dL D 112 i) L M i) (goM o x hv (evD nu D0) L M i) D' ∧ ∀ t, t < 64 → (mm (dL D' 107 9) t = true ↔ (mm (dL D 107 9) t = true ∨ (t < sz ∧ (¬ goL o hv (dL D 112 i) L M i t = L t ∨ ∃ k, k < 56 ∧ ¬ goM o x hv (evD nu D0) L M i t k = M t k)))) := by
    intro E hcE hB
    have cE : Ch PlC D1 E := hcE.mono (fun a j w => by unfold PlC; omega)
    have hEE := hE1.kept cE
    obtain ⟨hKE, -, -, -, h190E⟩ := id hEE
    obtain ⟨p1, p2, p3, p4, p5, p6⟩ := id hKE
    have af : ∀ k, ¬ (o i = 2 ∧ k = tg (x i) ∧ (evD nu D0).2.2 (tg (x i)) = false) → (if pu (o i) = 1 ∧ k = 26 + (h' - tk (o i)) then dS o hv L M i ||| srS o x (evD nu D0) M i else M i k) = afS o x hv (evD nu D0) L M i k := fun k c => by
      unfold afS
      rw [eg, if_neg (c := o i = 2 ∧ k = tg (x i) ∧ (evD nu D0).2.2 (tg (x i)) = false) c]
    unfold f_X9_goOver_b103
    rw [p3, bS, if_pos p1, eop E cE, bS]
    dsimp only
    by_cases c2 : o i = 2
    · have t := hG.x26 hi (by omega)
      have hk190 : kd K 190 = 14 := kd_lt (by decide) rfl
      have hl190 : nl nu 190 = 52 := rfl
      have x1 : ¬ x i < 0 := by rw [t.2]; exact nn_nlt0 (by omega)
      have x2 : ¬ 26 ≤ x i := by rw [t.2, nn_l, nn_le (by omega) (by omega)]; omega
      have x3 : ¬ (x i < 0 ∨ nl nu 190 ≤ (x i).toNatClampNeg) := by rw [hl190, t.2]; exact nn_in (by omega) (by omega)
      have x4 : ¬ (x i < 0 ∨ 56 ≤ (x i).toNatClampNeg) := by rw [t.2]; exact nn_in (by omega) (by omega)
      have x5 : (x i).toNatClampNeg = tg (x i) := rfl
      rw [if_pos (show nn (o i) = (2 : Int32) by rw [c2]; rfl), if_neg x1, if_neg x2, p4, bS, if_pos hk190, if_neg x3, if_neg x4, x5, h190E]
      by_cases c : dI D0 190 (tg (x i)) = -1
      · rw [if_pos c]
        have ef : (evD nu D0).2.2 (tg (x i)) = false := decide_eq_false (fun w => w c)
        refine rest _ (Ch.sI rfl hcE) (fun k hk => ?_)
        rw [dI_s]
        by_cases ek : k = tg (x i)
        · rw [if_pos ⟨rfl, ek⟩]
          unfold afS
          rw [if_neg (fun w => by have : pu 2 = 0 := rfl; rw [c2] at w; omega), if_pos ⟨c2, ek, ef⟩]
        · rw [if_neg (fun w => ek w.2), hB k hk, af k (fun w => ek w.2.1)]
      · rw [if_neg c]
        refine rest E hcE (fun k hk => ?_)
        rw [hB k hk, af k]
        intro w
        have : (evD nu D0).2.2 (tg (x i)) = true := decide_eq_true c
        rw [this] at w
        exact absurd w.2.2 (by decide)
    · rw [if_neg (show ¬ nn (o i) = (2 : Int32) from ne_op (b := 2) (by omega) (by omega) c2)]
      exact rest E hcE (fun k hk => by rw [hB k hk, af k (fun w => c2 w.1)])
  -- the first part
  have base : f_X9_goOver N nu K (nn i) D = if nn (pu (o i)) = 1 then f_X9_goOver_b103 N nu K (nn i) (x i) (nn (h' - tk (o i))) (nn (dS o hv L M i)) (sI D1 180 (26 + (h' - tk (o i))) (nn (dS o hv L M i ||| srS o x (evD nu D0) M i))) else f_X9_goOver_b103 N nu K (nn i) (x i) (nn (h' - tk (o i))) (nn (dS o hv L M i)) D1 := by
    unfold f_X9_goOver
    rw [if_neg i1, n1]
    rw [show (0 : Int32).toNatClampNeg = 0 from rfl, show (56 : Int32).toNatClampNeg = 56 from rfl, hD1]
    simp only [m3, bS, m1, reduceIte, ear, i2, e_taken hG hK1 hi, sT, e_put hG hK1 hi, e113, e114, eleft, eor, eop D1 Ch.rf, sS]
    by_cases c : nn (pu (o i)) = 1
    · rw [if_pos c, if_pos c]
      have cp : pu (o i) = 1 := by
        rw [show (1 : Int32) = nn 1 from rfl, nn_eq (by omega) (by omega)] at c; exact c
      have q1 : ¬ nn (h' - tk (o i)) < 0 := nn_nlt0 (by omega)
      have q2 : ¬ 30 ≤ nn (h' - tk (o i)) := by rw [nn_l, nn_le (by omega) (by omega)]; omega
      have e26 : (26 : Int32) + nn (h' - tk (o i)) = nn (26 + (h' - tk (o i))) := by rw [nn_l, nn_add]
      have i3 := nn_in (k := 26 + (h' - tk (o i))) (n := 56) (by omega) (by omega)
      rw [if_neg q1, if_neg q2, e26, if_neg i3, nn_nat (by omega), bt_or _ dS64 _ sS64]
    · rw [if_neg c, if_neg c]
  rw [base]
  by_cases c : nn (pu (o i)) = 1
  · have cp : pu (o i) = 1 := by
      rw [show (1 : Int32) = nn 1 from rfl, nn_eq (by omega) (by omega)] at c; exact c
    rw [if_pos c]
    refine store _ (Ch.sI rfl Ch.rf) (fun k hk => ?_)
    rw [dI_s]
    by_cases ek : k = 26 + (h' - tk (o i))
    · rw [if_pos ⟨rfl, ek⟩, if_pos ⟨cp, ek⟩]
    · rw [if_neg (fun w => ek w.2), if_neg (fun w => ek w.2)]; exact v180 k hk
  · have cp : ¬ pu (o i) = 1 := fun w => c (by rw [w]; rfl)
    rw [if_neg c]
    exact store D1 Ch.rf (fun k hk => by rw [if_neg (fun w => cp w.1)]; exact v180 k hk)
