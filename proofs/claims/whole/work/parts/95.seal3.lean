/-! seal and label -/
theorem tv_eq {D E : Dat} (h : ∀ k, dI D 208 k = dI E 208 k) : tv D = tv E := by
  funext a b; unfold tv; rw [h]
theorem jb_eq {D E : Dat} (h : ∀ k, dI D 208 k = dI E 208 k) (w : Bool) (nu a b : Nat) : jb w D nu a b = jb w E nu a b := by
  have e := tv_eq h
  have e2 : ub D = ub E := by funext x y; unfold ub; rw [e]
  have e3 : vb w D = vb w E := by funext x y; unfold vb; rw [e2]
  have e4 : jp w D a b = jp w E a b := by funext x y; unfold jp; rw [e3]
  funext c
  unfold jb
  rw [e3, e4]
theorem div6 : ∀ k, k < 36 → nn k / (6 : Int32) = nn (k / 6) ∧ nn k - nn k / (6 : Int32) * (6 : Int32) = nn (k % 6) := by decide +kernel
theorem seal_fill {N nu : Nat} (hN : 1000 ≤ N) (hn : nu ≤ 6) {E : Dat} (hd : dI E 207 1 = nn nu) {Q : Int32 × Dat → Prop} (hfin : ∀ D', Ch (fun x _ => x = 209 ∨ x = 210) E D' → (∀ k, k < 36 → dI D' 209 k = fs (jb true E nu (k / 6) (k % 6)) nu 0 ∧ dI D' 210 k = fs (jb false E nu (k / 6) (k % 6)) nu 0) → Tt (f_X12_seal_b210 N N 0 (sI D' 207 6 0)) Q) : ∀ (j g i : Nat) (D : Dat), i + j = 36 → j < g → Ch (fun x _ => x = 209 ∨ x = 210) E D → (∀ k, k < i → dI D 209 k = fs (jb true E nu (k / 6) (k % 6)) nu 0 ∧ dI D 210 k = fs (jb false E nu (k / 6) (k % 6)) nu 0) → Tt (f_X12_seal_b153 N g (nn i) D) Q := by
  intro j
  induction j with
  | zero =>
    intro g i D hi hg hch hv
    obtain ⟨g, rfl⟩ : ∃ g', g = g' + 1 := ⟨g - 1, by omega⟩
    rw [f_X12_seal_b153, if_pos (by rw [nn_l, nn_le (by omega) (by omega)]; omega)]
    exact hfin D hch (fun k hk => hv k (by omega))
  | succ j ih =>
    intro g i D hi hg hch hv
    obtain ⟨g, rfl⟩ : ∃ g', g = g' + 1 := ⟨g - 1, by omega⟩
    have i1 := nn_in (k := i) (n := 36) (by omega) (by omega)
    obtain ⟨v1, v2⟩ := div6 i (by omega)
    have hd1 : dI D 207 1 = nn nu := (hch.i (by omega)).trans hd
    have h8 : ∀ k, dI D 208 k = dI E 208 k := fun k => hch.i (by omega)
    have en1 : f_X12_nearest N (nn (i / 6)) (nn (i % 6)) 1 D = some (fs (jb true E nu (i / 6) (i % 6)) nu 0, D) := by
      rw [← jb_eq h8]
      exact e_near (N := N) true hN hn hd1 (show i / 6 < 6 by omega) (show i % 6 < 6 by omega)
    have en0 : f_X12_nearest N (nn (i / 6)) (nn (i % 6)) 0 (sI D 209 i (fs (jb true E nu (i / 6) (i % 6)) nu 0)) = some (fs (jb false E nu (i / 6) (i % 6)) nu 0, sI D 209 i (fs (jb true E nu (i / 6) (i % 6)) nu 0)) := by
      have h9 : ∀ k, dI (sI D 209 i (fs (jb true E nu (i / 6) (i % 6)) nu 0)) 208 k = dI E 208 k := fun k => by rw [dI_s, if_neg (by omega)]; exact h8 k
      rw [← jb_eq h9 false]
      exact e_near (N := N) false hN hn (by rw [dI_s, if_neg (by omega)]; exact hd1) (show i / 6 < 6 by omega) (show i % 6 < 6 by omega)
    rw [f_X12_seal_b153, if_neg (by rw [nn_l, nn_le (by omega) (by omega)]; omega), v2, v1, en1, bS]
    simp only [i1, reduceIte]
    rw [nn_nat (by omega), en0, bS, nn_1]
    refine ih g (i + 1) _ (by omega) (by omega) (Ch.sI (Or.inr rfl) (Ch.sI (Or.inl rfl) hch)) (fun k hk => ?_)
    have x1 : dI (sI (sI D 209 i (fs (jb true E nu (i / 6) (i % 6)) nu 0)) 210 i (fs (jb false E nu (i / 6) (i % 6)) nu 0)) 209 k = if k = i then fs (jb true E nu (i / 6) (i % 6)) nu 0 else dI D 209 k := by
      rw [dI_s, if_neg (by omega), dI_s]
      by_cases q : k = i
      · rw [if_pos ⟨rfl, q⟩, if_pos q]
      · rw [if_neg (fun z => q z.2), if_neg q]
    have x2 : dI (sI (sI D 209 i (fs (jb true E nu (i / 6) (i % 6)) nu 0)) 210 i (fs (jb false E nu (i / 6) (i % 6)) nu 0)) 210 k = if k = i then fs (jb false E nu (i / 6) (i % 6)) nu 0 else dI D 210 k := by
      rw [dI_s]
      by_cases q : k = i
      · rw [if_pos ⟨rfl, q⟩, if_pos q]
      · rw [if_neg (fun z => q z.2), if_neg q, dI_s, if_neg (by omega)]
    rw [x1, x2]
    by_cases q : k = i
    · rw [if_pos q, if_pos q, q]; exact ⟨rfl, rfl⟩
    · rw [if_neg q, if_neg q]; exact hv k (by omega)
/-- the model's bottom -/
theorem seal_bot {N nu : Nat} (hn : nu ≤ 6) {E : Dat} (hd : dI E 207 1 = nn nu) (ho : ILo nu E) (hM : ∀ x y, x < nu → y < nu → ∃ j, j < nu ∧ dI E 210 (6 * x + y) = nn j ∧ isM E nu x y j) : ∀ (k g i B : Nat) (D : Dat), i + k = nu → k < g → Ch (fun x j => x = 207 ∧ j = 6) E D → B < nu → dI D 207 6 = nn B → (∀ a, a < i → U E B a) → ∃ B' D', f_X12_seal_b210 N g (nn i) D = some (nn B', D') ∧ B' < nu ∧ (∀ a, a < nu → U E B' a) ∧ Ch (fun x j => x = 207 ∧ (j = 5 ∨ j = 6 ∨ j = 7 ∨ j = 8)) E D' ∧ dI D' 207 6 = nn B' ∧ dI D' 207 5 = 1 ∧ dI D' 207 7 = -1 ∧ dI D' 207 8 = -1 := by
  intro k
  induction k with
  | zero =>
    intro g i B D hi hg hch hB hd6 hU
    obtain ⟨g, rfl⟩ : ∃ g', g = g' + 1 := ⟨g - 1, by omega⟩
    have hd1 : dI D 207 1 = nn nu := (hch.i (by omega)).trans hd
    rw [f_X12_seal_b210, hd1, if_pos ((nn_le (by omega) (by omega)).mpr (by omega))]
    have e6 : dI (sI (sI (sI D 207 5 1) 207 7 (-1)) 207 8 (-1)) 207 6 = nn B := by
      rw [dI_s, if_neg (by omega), dI_s, if_neg (by omega), dI_s, if_neg (by omega)]; exact hd6
    refine ⟨B, _, by rw [e6], hB, fun a ha => hU a (by omega), ?_, e6, ?_, ?_, ?_⟩
    · exact Ch.sI (by omega) (Ch.sI (by omega) (Ch.sI (by omega) (hch.mono (fun x j h => by omega))))
    · rw [dI_s, if_neg (by omega), dI_s, if_neg (by omega), dI_s, if_pos ⟨rfl, rfl⟩]
    · rw [dI_s, if_neg (by omega), dI_s, if_pos ⟨rfl, rfl⟩]
    · rw [dI_s, if_pos ⟨rfl, rfl⟩]
  | succ k ih =>
    intro g i B D hi hg hch hB hd6 hU
    obtain ⟨g, rfl⟩ : ∃ g', g = g' + 1 := ⟨g - 1, by omega⟩
    have hd1 : dI D 207 1 = nn nu := (hch.i (by omega)).trans hd
    obtain ⟨j, j1, j2, j3, j4, j5⟩ := hM B i hB (by omega)
    have i1 := nn_in (k := 6 * B + i) (n := 36) (by omega) (by omega)
    have j2' : dI D 210 (6 * B + i) = nn j := (hch.i (by omega)).trans j2
    rw [f_X12_seal_b210, hd1, if_neg (by rw [nn_le (by omega) (by omega)]; omega), hd6, six, if_neg i1, nn_nat (by omega), j2', nn_1]
    refine ih g (i + 1) j _ (by omega) (by omega) (Ch.sI ⟨rfl, rfl⟩ hch) j1 (by rw [dI_s, if_pos ⟨rfl, rfl⟩]) (fun a ha => ?_)
    by_cases q : a = i
    · rw [q]; exact j4
    · exact ho.2 j B a j1 hB (by omega) j3 (hU a (by omega))
theorem sm_full {f : Nat → Nat} (h : ∀ b, f b = 0 ∨ f b = 1) : ∀ (k i : Nat), sm f k i ≤ k ∧ (sm f k i = k ↔ ∀ b, i ≤ b → b < i + k → f b = 1) := by
  intro k
  induction k with
  | zero => intro i; exact ⟨Nat.le_refl _, fun _ b h1 h2 => absurd h2 (by omega), fun _ => rfl⟩
  | succ k ih =>
    intro i
    have e : sm f (k + 1) i = f i + sm f k (i + 1) := rfl
    obtain ⟨a1, a2⟩ := ih (i + 1)
    rw [e]
    refine ⟨by rcases h i with q | q <;> omega, fun q b h1 h2 => ?_, fun q => ?_⟩
    · rcases h i with z | z
      · omega
      · by_cases c : b = i
        · rw [c]; exact z
        · exact a2.mp (by omega) b (by omega) (by omega)
    · rw [q i (Nat.le_refl _) (by omega), a2.mpr (fun b h1 h2 => q b (by omega) (by omega))]; omega
/-- the class's bottom -/
theorem close_l {N nu B : Nat} {K : Nat → Nat} (hn : nu ≤ 6) {E : Dat} (hd : dI E 1 0 = nn nu) (hu : ILu E) (hm : ILm nu E) (hB : B < nu) (hb1 : ∀ a, a < nu → U E B a) (hb2 : ∀ x, x < nu → (∀ a, a < nu → U E x a) → x = B) : ∀ (k g i : Nat) (D : Dat), i + k = nu → k < g → Ch (fun x j => x = 1 ∧ (j = 2 ∨ j = 3)) E D → ∃ D', f_X2_close_b7 N nu K g (nn i) D = some D' ∧ Ch (fun x j => x = 1 ∧ j = 3) D D' ∧ dI D' 1 3 = if i ≤ B then nn B else dI D 1 3 := by
  intro k
  induction k with
  | zero =>
    intro g i D hi hg hch
    obtain ⟨g, rfl⟩ : ∃ g', g = g' + 1 := ⟨g - 1, by omega⟩
    have hd1 : dI D 1 0 = nn nu := (hch.i (by omega)).trans hd
    rw [f_X2_close_b7, hd1, if_pos ((nn_le (by omega) (by omega)).mpr (by omega))]
    exact ⟨D, rfl, Ch.rf, by rw [if_neg (by omega)]⟩
  | succ k ih =>
    intro g i D hi hg hch
    obtain ⟨g, rfl⟩ : ∃ g', g = g' + 1 := ⟨g - 1, by omega⟩
    have hd1 : dI D 1 0 = nn nu := (hch.i (by omega)).trans hd
    have i1 := nn_in (k := i) (n := nu) (by omega) (by omega)
    obtain ⟨m, m1, m2, m3⟩ := hm i (by omega)
    have m2' : dI D 2 i = nn m := (hch.i (by omega)).trans m2
    have es : sm (bt m) 6 0 = sm (tv E i) nu 0 := by
      rw [sm_cut hn (fun b h1 h2 => by rw [m3 b h2, if_neg (by omega)])]
      exact sm_eq nu 0 (fun b _ h2 => by rw [m3 b (by omega), if_pos (by omega)])
    obtain ⟨f1, f2⟩ := sm_full (f := tv E i) (tv_01 E i) nu 0
    rw [f_X2_close_b7, hd1, if_neg (by rw [nn_le (by omega) (by omega)]; omega), if_neg i1, e_bc, bS, nn_nat (by omega), m2', bc_v m m1, es]
    unfold f_X2_close_b36
    rw [nn_1]
    show ∃ D', (if nn (sm (tv E i) nu 0) = dI D 1 0 then _ else _) = some D' ∧ _
    rw [hd1]
    by_cases q : sm (tv E i) nu 0 = nu
    · have hiB : i = B := hb2 i (by omega) (fun a ha => (tv_1 hu (by omega)).mp (f2.mp q a (Nat.zero_le _) (by omega)))
      rw [if_pos (by rw [q])]
      obtain ⟨D', e1, e2, e3⟩ := ih g (i + 1) (sI D 1 3 (nn i)) (by omega) (by omega) (Ch.sI (by omega) hch)
      refine ⟨D', e1, Ch.tr (P := fun x j => x = 1 ∧ j = 3) (Ch.sI ⟨rfl, rfl⟩ Ch.rf) e2, ?_⟩
      rw [e3, if_neg (by omega), dI_s, if_pos ⟨rfl, rfl⟩, if_pos (by omega), hiB]
    · have hiB : i ≠ B := fun h => q (f2.mpr (fun a _ ha => by rw [h]; exact (tv_1 hu (by omega)).mpr (hb1 a (by omega))))
      rw [if_neg (by rw [nn_eq (by omega) (by omega)]; exact q)]
      obtain ⟨D', e1, e2, e3⟩ := ih g (i + 1) D (by omega) (by omega) hch
      refine ⟨D', e1, e2, ?_⟩
      rw [e3]
      by_cases c : i + 1 ≤ B
      · rw [if_pos c, if_pos (by omega)]
      · rw [if_neg c, if_neg (by omega)]
/-- a lattice has a bottom -/
theorem has_bot {nu : Nat} {E : Dat} (h1 : 1 ≤ nu) (ho : ILo nu E) (hM : ∀ x y, x < nu → y < nu → ∃ j, j < nu ∧ isM E nu x y j) : ∃ B, B < nu ∧ ∀ a, a < nu → U E B a := by
  have : ∀ i, i ≤ nu → ∃ B, B < nu ∧ ∀ a, a < i → U E B a := by
    intro i
    induction i with
    | zero => intro _; exact ⟨0, by omega, fun a ha => absurd ha (by omega)⟩
    | succ i ih =>
      intro hi
      obtain ⟨B, b1, b2⟩ := ih (by omega)
      obtain ⟨j, j1, j2, j3, -⟩ := hM B i b1 (by omega)
      refine ⟨j, j1, fun a ha => ?_⟩
      by_cases q : a = i
      · rw [q]; exact j3
      · exact ho.2 j B a j1 b1 (by omega) j2 (b2 a (by omega))
  exact this nu (Nat.le_refl _)
/-- what may change at seal -/
def Ps (a k : Nat) : Prop := Pr a k ∨ (a = 0 ∧ (k = 14 ∨ k = 15)) ∨ (a = 1 ∧ (k = 2 ∨ k = 3)) ∨ (a = 207 ∧ (k = 5 ∨ k = 6 ∨ k = 7 ∨ k = 8)) ∨ a = 209 ∨ a = 210
theorem stp_seal {N nu n : Nat} {K : Nat → Nat} {D : Dat} (hN : 1000 ≤ N) (a1 a2 a3 : Int32) (hS : IS nu D) (hL : Lat nu D) : ∃ D', stp_1 N nu n K D a1 a2 a3 = some (K, D') ∧ Ch Ps D D' ∧ Lat nu D' ∧ IS nu D' := by
  obtain ⟨⟨n1, n2⟩, ⟨d1, d2⟩, ⟨t1, t2⟩, t3, t4, t5, ⟨s1, s2⟩⟩ := id hS
  obtain ⟨hu, hm, ho, hs⟩ := id hL
  unfold stp_1
  rcases s2 with s2 | s2
  · have e5 : dI D 1 2 = 0 := s1.trans s2
    have eS : f_X2_isSealed D = some (0, D) := by rw [sealed_e (by rw [s1]; exact Or.inl s2), e5]
    by_cases hz : zz D nu = -1
    · -- it fits
      have cM : fo (qM D) nu nu 0 (-1) = -1 := by
        unfold zz at hz
        by_cases c : fo (qM D) nu nu 0 (-1) = -1
        · exact c
        · rw [if_neg c] at hz; exact absurd hz c
      have cU : fo (qU D nu) nu nu 0 (-1) = -1 := by
        unfold zz at hz
        rw [if_pos cM] at hz; exact hz
      have fM := fo_none n2 nu 0 (by omega) cM
      have fU := fo_none n2 nu 0 (by omega) cU
      have anti : ∀ a b, a < nu → b < nu → U D a b → U D b a → a = b := by
        have key : ∀ a b, a < b → b < nu → U D a b → U D b a → False := fun a b h1 h2 h3 h4 => by
          have := fM a b (Nat.zero_le _) h1 h2
          unfold qM at this
          rw [(ub_iff hu (by omega) (by omega)).mpr h3, (ub_iff hu (by omega) (by omega)).mpr h4] at this
          exact absurd this (by decide)
        intro a b ha hb h1 h2
        rcases Nat.lt_trichotomy a b with q | q | q
        · exact (key a b q hb h1 h2).elim
        · exact q
        · exact (key b a q ha h2 h1).elim
      have ex : ∀ a b, a < nu → b < nu → (∃ c, c < nu ∧ isJ D nu a b c) ∧ ∃ c, c < nu ∧ isM D nu a b c := by
        have key : ∀ a b, a < b → b < nu → (∃ c, c < nu ∧ isJ D nu a b c) ∧ ∃ c, c < nu ∧ isM D nu a b c := fun a b h1 h2 => by
          have := fU a b (Nat.zero_le _) h1 h2
          unfold qU at this
          rw [Bool.or_eq_false_iff, decide_eq_false_iff_not, decide_eq_false_iff_not] at this
          refine ⟨?_, ?_⟩
          · rcases fs_sp (p := jb true D nu a b) nu 0 with ⟨h, -⟩ | ⟨c, -, g2, g3, -⟩
            · exact absurd h this.1
            · exact ⟨c, by omega, (jb_J hu n2 (by omega) (by omega) (by omega)).mp g3⟩
          · rcases fs_sp (p := jb false D nu a b) nu 0 with ⟨h, -⟩ | ⟨c, -, g2, g3, -⟩
            · exact absurd h this.2
            · exact ⟨c, by omega, (jb_M hu n2 (by omega) (by omega) (by omega)).mp g3⟩
        intro a b ha hb
        rcases Nat.lt_trichotomy a b with q | q | q
        · exact key a b q hb
        · subst q
          exact ⟨⟨a, ha, ho.1 a ha, ho.1 a ha, fun d _ h _ => h⟩, ⟨a, ha, ho.1 a ha, ho.1 a ha, fun d _ h _ => h⟩⟩
        · obtain ⟨⟨c, c1, c2, c3, c4⟩, ⟨e, x1, x2, x3, x4⟩⟩ := key b a q ha
          exact ⟨⟨c, c1, c3, c2, fun d hd h1 h2 => c4 d hd h2 h1⟩, ⟨e, x1, x3, x2, fun d hd h1 h2 => x4 d hd h2 h1⟩⟩
      obtain ⟨B, hB, hB1⟩ := has_bot n1 ho (fun x y hx hy => (ex x y hx hy).2)
      have hB2 : ∀ x, x < nu → (∀ a, a < nu → U D x a) → x = B := fun x hx h => anti x B hx hB (h B hB) (hB1 x hx)
      -- the class
      have c0 : Ch (fun x j => x = 0 ∧ (j = 14 ∨ j = 15)) D (sI (sI D 0 14 (-1)) 0 15 (-1)) := Ch.sI (by omega) (Ch.sI (by omega) Ch.rf)
      have u8 : ∀ a b, U (sI (sI D 0 14 (-1)) 0 15 (-1)) a b ↔ U D a b := fun a b => by unfold U; rw [c0.i (by omega)]
      have hL1 : Lat nu (sI (sI D 0 14 (-1)) 0 15 (-1)) := hL.kept c0 (fun a k h => by unfold RIL; omega)
      obtain ⟨D1, k1, k2, k3⟩ := close_l (N := N) (K := K) n2 (E := sI (sI D 0 14 (-1)) 0 15 (-1)) ((c0.i (by omega)).trans d1) hL1.1 hL1.2.1 hB (fun a ha => (u8 B a).mpr (hB1 a ha)) (fun x hx h => hB2 x hx (fun a ha => (u8 x a).mp (h a ha))) nu N 0 (sI (sI (sI D 0 14 (-1)) 0 15 (-1)) 1 2 1) (by omega) (by omega) (Ch.sI (by omega) Ch.rf)
      rw [if_pos (Nat.zero_le _)] at k3
      have eL : f_L_seal N nu K D = some (0, sL D1 262 (0 : Int32).toNatClampNeg (nn B).toInt64) := by
        unfold f_L_seal f_X11_seal f_X11_tell f_X2_close f_X2_bottom
        rw [eS, bS]
        simp only [reduceIte]
        rw [e_unfit hN n2 d1 hm, bS]
        simp only [hz, reduceIte, bS]
        rw [show (0 : Int32) = nn 0 from rfl, k1, bS, bS, k3]
      have cD : Ch (fun x j => (x = 0 ∧ (j = 14 ∨ j = 15)) ∨ (x = 1 ∧ (j = 2 ∨ j = 3)) ∨ x = 262) D (sL D1 262 (0 : Int32).toNatClampNeg (nn B).toInt64) := Ch.sL (Or.inr (Or.inr rfl)) ((c0.mono (fun x j h => Or.inl h)).tr ((Ch.sI (P := fun x j => (x = 0 ∧ (j = 14 ∨ j = 15)) ∨ (x = 1 ∧ (j = 2 ∨ j = 3)) ∨ x = 262) (by omega) Ch.rf).tr (k2.mono (fun x j h => by omega))))
      generalize hD2 : sL D1 262 (0 : Int32).toNatClampNeg (nn B).toInt64 = D2 at eL cD
      -- the model
      have g0 : Ch (fun x j => x = 207 ∧ j = 0) D2 (sI D2 207 0 0) := Ch.sI ⟨rfl, rfl⟩ Ch.rf
      have q8 : ∀ j, dI (sI D2 207 0 0) 208 j = dI D 208 j := fun j => by rw [g0.i (by omega), cD.i (by omega)]
      have q1 : dI (sI D2 207 0 0) 207 1 = nn nu := by rw [g0.i (by omega), cD.i (by omega)]; exact d2
      have q5 : dI (sI D2 207 0 0) 207 5 = 0 := by rw [g0.i (by omega), cD.i (by omega)]; exact s2
      generalize hE : sI D2 207 0 0 = E at g0 q8 q1 q5
      have uE : ∀ a b, U E a b ↔ U D a b := fun a b => by unfold U; rw [q8]
      have huE : ILu E := fun k hk => by rw [q8]; exact hu k hk
      have hoE : ILo nu E := ⟨fun a ha => (uE a a).mpr (ho.1 a ha), fun a b c ha hb hc p q => (uE a c).mpr (ho.2 a b c ha hb hc ((uE a b).mp p) ((uE b c).mp q))⟩
      have jE : ∀ a b c, isJ E nu a b c ↔ isJ D nu a b c := fun a b c => by unfold isJ; simp only [uE]
      have mE : ∀ a b c, isM E nu a b c ↔ isM D nu a b c := fun a b c => by unfold isM; simp only [uE]
      have hzE : zz E nu = -1 := by
        have x1 : tv E = tv D := tv_eq q8
        have x2 : ub E = ub D := by funext x y; unfold ub; rw [x1]
        have x3 : qM E = qM D := by funext x y; unfold qM; rw [x2]
        have x4 : qU E nu = qU D nu := by funext x y; unfold qU; rw [jb_eq q8, jb_eq q8]
        unfold zz at hz ⊢
        rw [x3, x4]; exact hz
      have tabs : ∀ (T : Dat), (∀ k, k < 36 → dI T 209 k = fs (jb true E nu (k / 6) (k % 6)) nu 0 ∧ dI T 210 k = fs (jb false E nu (k / 6) (k % 6)) nu 0) → ∀ a b, a < nu → b < nu → (∃ j, j < nu ∧ dI T 209 (6 * a + b) = nn j ∧ isJ D nu a b j) ∧ (∃ j, j < nu ∧ dI T 210 (6 * a + b) = nn j ∧ isM D nu a b j) := by
        intro T hT a b ha hb
        obtain ⟨x1, x2⟩ := hT (6 * a + b) (by omega)
        rw [show (6 * a + b) / 6 = a by omega, show (6 * a + b) % 6 = b by omega] at x1 x2
        obtain ⟨⟨c, c1, c2⟩, ⟨m, m1, m2⟩⟩ := ex a b ha hb
        refine ⟨?_, ?_⟩
        · rcases fs_sp (p := jb true E nu a b) nu 0 with ⟨-, h⟩ | ⟨j, -, g2, g3, g4⟩
          · exact absurd ((jb_J huE n2 (by omega) (by omega) (by omega)).mpr ((jE a b c).mpr c2)) (by rw [h c (Nat.zero_le _) (by omega)]; decide)
          · exact ⟨j, by omega, x1.trans g4, (jE a b j).mp ((jb_J huE n2 (by omega) (by omega) (by omega)).mp g3)⟩
        · rcases fs_sp (p := jb false E nu a b) nu 0 with ⟨-, h⟩ | ⟨j, -, g2, g3, g4⟩
          · exact absurd ((jb_M huE n2 (by omega) (by omega) (by omega)).mpr ((mE a b m).mpr m2)) (by rw [h m (Nat.zero_le _) (by omega)]; decide)
          · exact ⟨j, by omega, x2.trans g4, (mE a b j).mp ((jb_M huE n2 (by omega) (by omega) (by omega)).mp g3)⟩
      have eM : Tt (f_X12_seal N D2) (fun z => z.1 = nn B ∧ Ch (fun x j => x = 209 ∨ x = 210 ∨ (x = 207 ∧ (j = 5 ∨ j = 6 ∨ j = 7 ∨ j = 8))) E z.2 ∧ dI z.2 207 6 = nn B ∧ dI z.2 207 5 = 1 ∧ dI z.2 207 7 = -1 ∧ dI z.2 207 8 = -1 ∧ ∀ k, k < 36 → dI z.2 209 k = fs (jb true E nu (k / 6) (k % 6)) nu 0 ∧ dI z.2 210 k = fs (jb false E nu (k / 6) (k % 6)) nu 0) := by
        unfold f_X12_seal
        rw [hE, if_pos q5, seal_way hN n2 q1, if_pos hzE]
        refine seal_fill hN n2 q1 (fun T h1 h2 => ?_) 36 N 0 E (by omega) (by omega) Ch.rf (fun k hk => absurd hk (by omega))
        have c6 : Ch (fun x j => x = 207 ∧ j = 6) T (sI T 207 6 0) := Ch.sI ⟨rfl, rfl⟩ Ch.rf
        have uT : ∀ a b, U T a b ↔ U D a b := fun a b => by unfold U; rw [h1.i (by omega), q8]
        have hoT : ILo nu T := ⟨fun a ha => (uT a a).mpr (ho.1 a ha), fun a b c ha hb hc p q => (uT a c).mpr (ho.2 a b c ha hb hc ((uT a b).mp p) ((uT b c).mp q))⟩
        obtain ⟨B', T', z1, z2, z3, z4, z5, z6, z7, z8⟩ := seal_bot (N := N) n2 (E := T) ((h1.i (by omega)).trans q1) hoT (fun x y hx hy => by
          obtain ⟨j, j1, j2, j3⟩ := (tabs T h2 x y hx hy).2
          exact ⟨j, j1, j2, by unfold isM at j3 ⊢; simp only [uT]; exact j3⟩) nu N 0 0 (sI T 207 6 0) (by omega) (by omega) c6 (by omega) (by rw [dI_s, if_pos ⟨rfl, rfl⟩]; rfl) (fun a ha => absurd ha (by omega))
        have hBB : B' = B := hB2 B' z2 (fun a ha => (uT B' a).mp (z3 a ha))
        subst hBB
        refine ⟨_, z1, rfl, ?_, z5, z6, z7, z8, fun k hk => ?_⟩
        · exact (h1.mono (fun x j h => by omega)).tr (z4.mono (fun x j h => by omega))
        · show dI T' 209 k = _ ∧ dI T' 210 k = _
          rw [z4.i (by omega), z4.i (by omega)]; exact h2 k hk
      obtain ⟨⟨zb, F⟩, m1, m2, m3, m4, m5, m6, m7, m8⟩ := eM
      have m2' : zb = nn B := m2
      subst m2'
      have cF : Ch Ps D F := by
        refine (cD.mono (fun x j h => ?_)).tr ((g0.mono (fun x j h => ?_)).tr (m3.mono (fun x j h => ?_))) <;> (unfold Ps Pr; omega)
      have cDF : ∀ x j, ¬ (x = 209 ∨ x = 210 ∨ (x = 207 ∧ (j = 0 ∨ j = 5 ∨ j = 6 ∨ j = 7 ∨ j = 8))) → dI F x j = dI D2 x j := fun x j h => by
        rw [m3.i (by omega), g0.i (by omega)]
      have kD1 : dI D2 1 3 = nn B ∧ dI D2 1 2 = 1 ∧ dI D2 0 14 = -1 ∧ dI D2 0 15 = -1 := by
        rw [← hD2, dI_sL, dI_sL, dI_sL, dI_sL]
        refine ⟨k3, ?_, ?_, ?_⟩
        · rw [k2.i (by omega), dI_s, if_pos ⟨rfl, rfl⟩]
        · rw [k2.i (by omega), dI_s, if_neg (by omega), dI_s, if_neg (by omega), dI_s, if_pos ⟨rfl, rfl⟩]
        · rw [k2.i (by omega), dI_s, if_neg (by omega), dI_s, if_pos ⟨rfl, rfl⟩]
      have uF : ∀ a b, U F a b ↔ U D a b := fun a b => by unfold U; rw [m3.i (by omega), q8]
      have f8 : ∀ k, dI F 208 k = dI D 208 k := fun k => by rw [m3.i (by omega), q8]
      refine ⟨F, stp_ok eL m1 ?_ (fun _ => ?_), cF, ⟨?_, ?_, ?_, fun _ => ⟨?_, ?_, B, hB, m4, ?_, ?_⟩⟩, ?_⟩
      · rw [m3.i (by omega), ← hE, dI_s, if_pos ⟨rfl, rfl⟩]
      · rw [m3.l (by omega), g0.l (by omega), ← hD2]; exact fin_b
      · intro k hk; rw [f8]; exact hu k hk
      · intro a ha
        obtain ⟨m, w1, w2, w3⟩ := hm a ha
        refine ⟨m, w1, ?_, fun b hb => ?_⟩
        · rw [cF.i (by unfold Ps Pr; omega)]; exact w2
        · rw [tv_eq f8]; exact w3 b hb
      · exact ⟨fun a ha => (uF a a).mpr (ho.1 a ha), fun a b c ha hb hc p q => (uF a c).mpr (ho.2 a b c ha hb hc ((uF a b).mp p) ((uF b c).mp q))⟩
      · exact fun a b ha hb p q => anti a b ha hb ((uF a b).mp p) ((uF b a).mp q)
      · intro a b ha hb
        obtain ⟨⟨j, j1, j2, j3⟩, ⟨i, i1, i2, i3⟩⟩ := tabs F m8 a b ha hb
        exact ⟨⟨j, j1, j2, by unfold isJ at j3 ⊢; simp only [uF]; exact j3⟩, ⟨i, i1, i2, by unfold isM at i3 ⊢; simp only [uF]; exact i3⟩⟩
      · rw [cDF 1 3 (by omega)]; exact kD1.1
      · exact fun a ha => (uF B a).mpr (hB1 a ha)
      · have w : ∀ x j, ¬ Ps x j → dI F x j = dI D x j := fun x j h => cF.i h
        refine ⟨⟨n1, n2⟩, ⟨?_, ?_⟩, ⟨?_, ?_⟩, ?_, ?_, ?_, ⟨?_, ?_⟩⟩
        · rw [w 1 0 (by unfold Ps Pr; omega)]; exact d1
        · rw [w 207 1 (by unfold Ps Pr; omega)]; exact d2
        · rw [cDF 0 14 (by omega), m6]; exact kD1.2.2.1
        · rw [cDF 0 15 (by omega), m7]; exact kD1.2.2.2
        · rw [w 0 13 (by unfold Ps Pr; omega), w 207 16 (by unfold Ps Pr; omega)]; exact t3
        · rw [w 0 12 (by unfold Ps Pr; omega), w 207 18 (by unfold Ps Pr; omega)]; exact t4
        · rw [w 107 10 (by unfold Ps Pr; omega), w 207 17 (by unfold Ps Pr; omega)]; exact t5
        · rw [cDF 1 2 (by omega), m5]; exact kD1.2.1
        · rw [m5]; exact Or.inr rfl
    · -- it doesn't
      have eL : f_L_seal N nu K D = some (2, sI (sI D 0 14 (zz D nu)) 0 15 7) := by
        unfold f_L_seal f_X11_seal f_X11_tell
        rw [eS, bS]
        simp only [reduceIte]
        rw [e_unfit hN n2 d1 hm, bS]
        simp only [hz, reduceIte, bS]
        rfl
      have c0 : Ch (fun x j => x = 0 ∧ (j = 14 ∨ j = 15)) D (sI (sI D 0 14 (zz D nu)) 0 15 7) := Ch.sI (by omega) (Ch.sI (by omega) Ch.rf)
      have v1 : dI (sI (sI D 0 14 (zz D nu)) 0 15 7) 0 14 = zz D nu := by rw [dI_s, if_neg (by omega), dI_s, if_pos ⟨rfl, rfl⟩]
      have v2 : dI (sI (sI D 0 14 (zz D nu)) 0 15 7) 0 15 = 7 := by rw [dI_s, if_pos ⟨rfl, rfl⟩]
      generalize sI (sI D 0 14 (zz D nu)) 0 15 7 = D2 at eL c0 v1 v2
      have g0 : Ch (fun x j => x = 207 ∧ j = 0) D2 (sI D2 207 0 0) := Ch.sI ⟨rfl, rfl⟩ Ch.rf
      have q8 : ∀ j, dI (sI D2 207 0 0) 208 j = dI D 208 j := fun j => by rw [g0.i (by omega), c0.i (by omega)]
      have q1 : dI (sI D2 207 0 0) 207 1 = nn nu := by rw [g0.i (by omega), c0.i (by omega)]; exact d2
      have q5 : dI (sI D2 207 0 0) 207 5 = 0 := by rw [g0.i (by omega), c0.i (by omega)]; exact s2
      have hzE : zz (sI D2 207 0 0) nu = zz D nu := by
        have x1 : tv (sI D2 207 0 0) = tv D := tv_eq q8
        have x2 : ub (sI D2 207 0 0) = ub D := by funext x y; unfold ub; rw [x1]
        have x3 : qM (sI D2 207 0 0) = qM D := by funext x y; unfold qM; rw [x2]
        have x4 : qU (sI D2 207 0 0) nu = qU D nu := by funext x y; unfold qU; rw [jb_eq q8, jb_eq q8]
        unfold zz
        rw [x3, x4]
      have eM : f_X12_seal N D2 = some (0, sI (sI (sI (sI D2 207 0 0) 207 7 (zz D nu)) 207 8 7) 207 0 2) := by
        unfold f_X12_seal
        rw [if_pos q5, seal_way hN n2 q1, hzE, if_neg hz, e_refuse]
      have cF : Ch Ps D (sI (sI (sI (sI D2 207 0 0) 207 7 (zz D nu)) 207 8 7) 207 0 2) := by
        refine (c0.mono (fun x j h => ?_)).tr (Ch.sI ?_ (Ch.sI ?_ (Ch.sI ?_ (Ch.sI ?_ Ch.rf)))) <;> (unfold Ps Pr; omega)
      have cF2 : ∀ x j, ¬ (x = 207 ∧ (j = 0 ∨ j = 7 ∨ j = 8)) → dI (sI (sI (sI (sI D2 207 0 0) 207 7 (zz D nu)) 207 8 7) 207 0 2) x j = dI D2 x j := fun x j h => by
        rw [dI_s, if_neg (by omega), dI_s, if_neg (by omega), dI_s, if_neg (by omega), dI_s, if_neg (by omega)]
      refine ⟨_, stp_ok eL eM (by rw [dI_s, if_pos ⟨rfl, rfl⟩]) (fun h => absurd h (by decide)), cF, ?_, ?_⟩
      · exact hL.eqs (fun a k r => by
          unfold RIL at r
          rw [cF2 a k (by omega), c0.i (by omega)])
      · have w : ∀ x j, ¬ (x = 207 ∧ (j = 0 ∨ j = 7 ∨ j = 8)) → ¬ (x = 0 ∧ (j = 14 ∨ j = 15)) → dI (sI (sI (sI (sI D2 207 0 0) 207 7 (zz D nu)) 207 8 7) 207 0 2) x j = dI D x j := fun x j h h' => by rw [cF2 x j h, c0.i h']
        refine ⟨⟨n1, n2⟩, ⟨?_, ?_⟩, ⟨?_, ?_⟩, ?_, ?_, ?_, ⟨?_, ?_⟩⟩
        · rw [w 1 0 (by omega) (by omega)]; exact d1
        · rw [w 207 1 (by omega) (by omega)]; exact d2
        · rw [cF2 0 14 (by omega), v1, dI_s, if_neg (by omega), dI_s, if_neg (by omega), dI_s, if_pos ⟨rfl, rfl⟩]
        · rw [cF2 0 15 (by omega), v2, dI_s, if_neg (by omega), dI_s, if_pos ⟨rfl, rfl⟩]
        · rw [w 0 13 (by omega) (by omega), w 207 16 (by omega) (by omega)]; exact t3
        · rw [w 0 12 (by omega) (by omega), w 207 18 (by omega) (by omega)]; exact t4
        · rw [w 107 10 (by omega) (by omega), w 207 17 (by omega) (by omega)]; exact t5
        · rw [w 1 2 (by omega) (by omega), w 207 5 (by omega) (by omega)]; exact s1
        · rw [w 207 5 (by omega) (by omega)]; exact Or.inl s2
  · have e5 : dI D 1 2 = 1 := s1.trans s2
    have eS : f_X2_isSealed D = some (1, D) := by rw [sealed_e (by rw [s1]; exact Or.inr s2), e5]
    obtain ⟨D', x1, x2⟩ := stp_not (K := K) (fL := f_L_seal N nu K D) (fM := fun D => f_X12_seal N D) (D := D) (r := 1) (by decide) (by
      unfold f_L_seal f_X11_seal
      simp only [eS, bS, n10, reduceIte]) (by
      show f_X12_seal N D = _
      unfold f_X12_seal
      have q5 : ¬ dI (sI D 207 0 0) 207 5 = 0 := by rw [dI_s, if_neg (by omega), s2]; decide
      simp only [q5, reduceIte, e_X12_fail, bS]
      rfl)
    exact ⟨D', x1, x2.mono (fun a k h => Or.inl h), hL.kept x2 (fun a k h => by unfold Pr at h; unfold RIL; omega), hS.kept x2 (fun a k h => by unfold Pr at h; unfold RIS; omega)⟩
theorem stp_label {N nu n : Nat} {K : Nat → Nat} {D : Dat} (hN : 1000 ≤ N) (a1 a2 a3 : Int32) (hS : IS nu D) (hL : Lat nu D) : ∃ D', stp_2 N nu n K D a1 a2 a3 = some (K, D') ∧ Ch Pr D D' := by
  obtain ⟨⟨n1, n2⟩, ⟨d1, d2⟩, -, -, -, -, ⟨s1, s2⟩⟩ := hS
  obtain ⟨hu, hm, ho, hs⟩ := hL
  have q1 : dI (sI D 207 0 0) 207 1 = nn nu := by rw [dI_s, if_neg (by omega)]; exact d2
  have qr : ∀ v : Int64, dI (sI (sL D 262 (0 : Int32).toNatClampNeg v) 207 0 0) 207 1 = nn nu := fun v => by rw [dI_s, if_neg (by omega), dI_sL]; exact d2
  unfold stp_2
  rcases num 3 a1 with ⟨w, hw, -, rfl⟩ | hb
  · have c0 : ¬ nn w < 0 := nn_nlt0 (by omega)
    have c2 : ¬ 2 < nn w := by rw [nn_l, nn_lt (by omega) (by omega)]; omega
    have ow : ∀ D, f_X12_out (nn w) 3 D = some (0, D) := fun D => out_no (m := 3) (by omega) hw D
    rcases lab n2 a2 with ⟨a, ha, rfl⟩ | hb
    · rcases lab n2 a3 with ⟨b, hb, rfl⟩ | hb
      · have i1 := nn_in (k := 6 * a + b) (n := 36) (by omega) (by omega)
        by_cases w0 : w = 0
        · subst w0
          refine stp_read (r := nn (tv D a b)) ?_ ?_
          · unfold f_L_label f_X11_label
            have z0 : nn 0 = (0 : Int32) := rfl
            have bb : b01 (nn (tv D a b)) := by rcases tv_01 D a b with q | q <;> rw [q]; exact Or.inl rfl; exact Or.inr rfl
            simp only [c0, c2, has_yes n2 ha d1, has_yes n2 hb d1, bS, n10, z0, leads_t n2 d1 hm ha hb, asN bb, reduceIte]
            rw [if_neg (show ¬ (0 : Int32) < 0 by decide), if_neg (show ¬ (2 : Int32) < 0 by decide)]
            rfl
          · unfold f_X12_label f_X12_label_b67
            rw [ow, bS]
            simp only [reduceIte]
            rw [qr, out_no (by omega) ha, bS]
            simp only [reduceIte]
            rw [qr, out_no (by omega) hb, bS, six]
            have z0 : nn 0 = (0 : Int32) := rfl
            simp only [z0, i1, reduceIte]
            have e8 : ∀ v : Int64, dI (sI (sL D 262 (0 : Int32).toNatClampNeg v) 207 0 0) 208 (6 * a + b) = dI D 208 (6 * a + b) := fun v => by rw [dI_s, if_neg (by omega), dI_sL]
            rw [nn_nat (k := 6 * a + b) (by omega), e8]
            unfold tv
            by_cases q : dI D 208 (6 * a + b) = 0
            · rw [if_pos q, if_pos q]; rfl
            · rw [if_neg q, if_neg q]; rfl
        · have w0' : ¬ nn w = 0 := by rw [nn_l, nn_eq (by omega) (by omega)]; exact w0
          rcases s2 with s2 | s2
          · have e5 : dI D 1 2 = 0 := s1.trans s2
            have eS : f_X2_isSealed D = some (0, D) := by rw [sealed_e (by rw [s1]; exact Or.inl s2), e5]
            refine stp_not (r := 2) (by decide) ?_ ?_
            · unfold f_L_label f_X11_label
              simp only [c0, c2, has_yes n2 ha d1, has_yes n2 hb d1, bS, n10, w0', eS, reduceIte]
              rfl
            · unfold f_X12_label
              rw [ow, bS]
              simp only [reduceIte]
              rw [q1, out_no (by omega) ha, bS]
              simp only [reduceIte]
              rw [q1, out_no (by omega) hb, bS]
              have q5 : dI (sI D 207 0 0) 207 5 = 0 := by rw [dI_s, if_neg (by omega)]; exact s2
              simp only [w0', q5, reduceIte, e_X12_fail, bS]
              rfl
          · have e5 : dI D 1 2 = 1 := s1.trans s2
            have eS : f_X2_isSealed D = some (1, D) := by rw [sealed_e (by rw [s1]; exact Or.inr s2), e5]
            obtain ⟨anti, tabs, -⟩ := hs s2
            obtain ⟨⟨j, j1, j2, j3⟩, ⟨i, x1, x2, x3⟩⟩ := tabs a b ha hb
            have eJ : fs (jb true D nu a b) nu 0 = nn j := by
              rcases fs_sp (p := jb true D nu a b) nu 0 with ⟨-, h⟩ | ⟨c, -, g2, g3, g4⟩
              · exact absurd ((jb_J hu n2 (by omega) (by omega) (by omega)).mpr j3) (by rw [h j (Nat.zero_le _) (by omega)]; decide)
              · have g5 := (jb_J hu n2 (by omega) (by omega) (by omega)).mp g3
                rw [g4, anti c j (by omega) j1 (g5.2.2 j j1 j3.1 j3.2.1) (j3.2.2 c (by omega) g5.1 g5.2.1)]
            have eM : fs (jb false D nu a b) nu 0 = nn i := by
              rcases fs_sp (p := jb false D nu a b) nu 0 with ⟨-, h⟩ | ⟨c, -, g2, g3, g4⟩
              · exact absurd ((jb_M hu n2 (by omega) (by omega) (by omega)).mpr x3) (by rw [h i (Nat.zero_le _) (by omega)]; decide)
              · have g5 := (jb_M hu n2 (by omega) (by omega) (by omega)).mp g3
                rw [g4, anti c i (by omega) x1 (x3.2.2 c (by omega) g5.1 g5.2.1) (g5.2.2 i x1 x3.1 x3.2.1)]
            have q5 : ∀ v : Int64, ¬ dI (sI (sL D 262 (0 : Int32).toNatClampNeg v) 207 0 0) 207 5 = 0 := fun v => by rw [dI_s, if_neg (by omega), dI_sL, s2]; decide
            by_cases w1 : w = 1
            · subst w1
              have z1 : nn 1 = (1 : Int32) := rfl
              refine stp_read (r := nn j) ?_ ?_
              · unfold f_L_label f_X11_label f_X11_label_b100
                simp only [c0, c2, has_yes n2 ha d1, has_yes n2 hb d1, bS, n10, w0', eS, e_join hN n2 d1 hm ha hb, eJ, reduceIte]
                rw [if_pos z1]
                rfl
              · unfold f_X12_label f_X12_label_b111
                rw [ow, bS]
                simp only [reduceIte]
                rw [qr, out_no (by omega) ha, bS]
                simp only [reduceIte]
                rw [qr, out_no (by omega) hb, bS, six]
                simp only [w0', q5, i1, reduceIte]
                rw [if_pos z1, nn_nat (by omega), dI_s, if_neg (by omega), dI_sL, j2]
            · have w1' : ¬ nn w = 1 := by rw [nn_l, nn_eq (by omega) (by omega)]; exact w1
              refine stp_read (r := nn i) ?_ ?_
              · unfold f_L_label f_X11_label f_X11_label_b100
                simp only [c0, c2, has_yes n2 ha d1, has_yes n2 hb d1, bS, n10, w0', w1', eS, e_meet hN n2 d1 hm ha hb, eM, reduceIte]
              · unfold f_X12_label f_X12_label_b111
                rw [ow, bS]
                simp only [reduceIte]
                rw [qr, out_no (by omega) ha, bS]
                simp only [reduceIte]
                rw [qr, out_no (by omega) hb, bS, six]
                simp only [w0', w1', q5, i1, reduceIte]
                rw [nn_nat (by omega), dI_s, if_neg (by omega), dI_sL, x2]
      · refine stp_not (r := 1) (by decide) ?_ ?_
        · unfold f_L_label f_X11_label f_X11_label_b31
          simp only [c0, c2, has_yes n2 ha d1, has_no n2 hb d1, bS, n10, reduceIte]
        · unfold f_X12_label f_X12_label_b38
          rw [ow, bS]
          simp only [reduceIte]
          rw [q1, out_no (by omega) ha, bS]
          simp only [reduceIte]
          rw [q1, out_yes (by omega) hb, bS]
          simp only [n10, reduceIte, e_X12_fail, bS]
          rfl
    · refine stp_not (r := 1) (by decide) ?_ ?_
      · unfold f_L_label f_X11_label f_X11_label_b31
        simp only [c0, c2, has_no n2 hb d1, bS, reduceIte]
      · unfold f_X12_label f_X12_label_b38
        rw [ow, bS]
        simp only [reduceIte]
        rw [q1, out_yes (by omega) hb, bS]
        simp only [n10, reduceIte, e_X12_fail, bS]
        rfl
  · have hn3 : a1 < 0 ∨ 2 < a1 := by
      rw [Int32.lt_iff_toInt_lt, Int32.lt_iff_toInt_lt]
      show _ < (0 : Int) ∨ (2 : Int) < _
      omega
    refine stp_not (r := 1) (by decide) ?_ ?_
    · unfold f_L_label f_X11_label f_X11_label_b31
      by_cases q : a1 < 0
      · simp only [q, bS, reduceIte]
      · have : 2 < a1 := hn3.resolve_left q
        simp only [q, this, bS, reduceIte]
    · unfold f_X12_label f_X12_label_b38
      rw [show (3 : Int32) = nn 3 from rfl, out_yes (by omega) hb, bS]
      simp only [n10, reduceIte, e_X12_fail, bS]
      rfl
