/-! labels of the model: until nothing changes -/
def minM (nu sz : Nat) (o : Nat → Nat) (x : Nat → Int32) (hv : Nat → Option Nat) (rg : Nat → Nat → Prop) (D0 : Dat) (L : Nat → Nat) (M : Nat → Nat → Nat) : Prop := ∀ T U', Sol o x sz hv (evD nu D0) rg T U' → (∀ i h v, hv i = some h → v < 26 → le (fxD nu D0 v) (U' i v)) → leS hv L M T U'
def MI (nu sz : Nat) (o : Nat → Nat) (x : Nat → Int32) (hv : Nat → Option Nat) (rg : Nat → Nat → Prop) (D0 : Dat) (L : Nat → Nat) (M : Nat → Nat → Nat) : Prop := VSt nu sz D0 L M ∧ minM nu sz o x hv rg D0 L M ∧ ∀ i h v, hv i = some h → v < 26 → le (fxD nu D0 v) (M i v)
theorem HV.all {o : Nat → Nat} {x : Nat → Int32} {sz : Nat} {hv : Nat → Option Nat} (hV : HV o x sz hv) : ∀ j h, hv j = some h → j < sz ∧ h ≤ 30 ∧ tk (o j) ≤ h ∧ h - tk (o j) + pu (o j) ≤ 30 ∧ ∀ q, nx o x j q → hv q = some (h - tk (o j) + pu (o j)) := fun j h hj => by
  obtain ⟨a, b, -, h', l1, l2, l3, l4, l5⟩ := hV.2 j h hj
  have e : h' = h := by rw [hj] at l1; exact (Option.some.inj l1).symm
  subst e
  exact ⟨a, b, l2, l3, l5⟩
theorem Con_congr {nu sz : Nat} {o : Nat → Nat} {x : Nat → Int32} (hG : GC nu sz o x) {hv : Nat → Option Nat} (hV : HV o x sz hv) {e : Ev} {rg : Nat → Nat → Prop} {L L' : Nat → Nat} {M M' : Nat → Nat → Nat} (hs : ∀ t, t < sz → L' t = L t ∧ ∀ k, k < 56 → M' t k = M t k) {j h : Nat} (hj : hv j = some h) (hc : Con o x sz hv e rg L M j) : Con o x sz hv e rg L' M' j := by
  obtain ⟨js, jb, jt, jn, -⟩ := hV.all j h hj
  have enj : nh o hv j = h - tk (o j) + pu (o j) := by unfold nh; rw [hj]; rfl
  unfold Con
  rw [dS_same hj jb jt (hs j js).1 (hs j js).2]
  refine ⟨fun h11 q hq hr => by rw [(hs q hq).1]; exact hc.1 h11 q hq hr, fun q hq k hk => ?_⟩
  rw [afS_same hG js hj jb jt (hs j js).1 (hs j js).2 (by omega), (hs q (hG.nxs js hq)).2 k (by omega)]
  exact hc.2 q hq k hk
theorem MI.step {nu sz : Nat} {o : Nat → Nat} {x : Nat → Int32} {hv : Nat → Option Nat} {rg : Nat → Nat → Prop} {D0 : Dat} (hG : GC nu sz o x) (hS : LatS nu D0) (hmk : ∀ v, v < 52 → mkOk nu (dI D0 190 v)) (hV : HV o x sz hv) {L L' : Nat → Nat} {M : Nat → Nat → Nat} (hI : MI nu sz o x hv rg D0 L M) {i h : Nat} (hh : hv i = some h) (hL : ∀ t, t < sz → ((o i = 11 ∧ rg i t) → L' t = L t ||| dS o hv L (goM o x hv (evD nu D0) L M i) i) ∧ (¬ (o i = 11 ∧ rg i t) → L' t = L t)) :
    MI nu sz o x hv rg D0 L' (goM o x hv (evD nu D0) L M i) ∧ phi sz L M ≤ phi sz L' (goM o x hv (evD nu D0) L M i) ∧ ((∃ t, t < sz ∧ (¬ L' t = L t ∨ ∃ k, k < 56 ∧ ¬ goM o x hv (evD nu D0) L M i t k = M t k)) → phi sz L M < phi sz L' (goM o x hv (evD nu D0) L M i)) ∧ ((¬ ∃ t, t < sz ∧ (¬ L' t = L t ∨ ∃ k, k < 56 ∧ ¬ goM o x hv (evD nu D0) L M i t k = M t k)) → Con o x sz hv (evD nu D0) rg L M i) := by
  have hz := hG.1.2
  obtain ⟨i1, i2, i3⟩ := hI
  obtain ⟨his, hib, hit, hin, hiq⟩ := hV.all i h hh
  have eg : (hv i).getD 0 = h := by rw [hh]; rfl
  have en : nh o hv i = h - tk (o i) + pu (o i) := by unfold nh; rw [eg]
  have av' := fun k (hk : k < 56) => afS_vs hG hS hmk i1 his hh hib hit hk
  have leM : ∀ t k, le (M t k) (goM o x hv (evD nu D0) L M i t k) := fun t k => by
    unfold goM
    split
    · exact le_l _ _
    · exact le_rf _
  have hV1 : VSt nu sz D0 L (goM o x hv (evD nu D0) L M i) := fun t ht => ⟨(i1 t ht).1, fun k hk => by
    unfold goM
    split
    · exact vs_or hS ((i1 t ht).2 k hk) (av' k hk)
    · exact (i1 t ht).2 k hk⟩
  have dv := dS_vs (o := o) hS hV1 his hh hib hit
  have leL : ∀ t, t < sz → le (L t) (L' t) := fun t ht => by
    by_cases c : o i = 11 ∧ rg i t
    · rw [(hL t ht).1 c]; exact le_l _ _
    · rw [(hL t ht).2 c]; exact le_rf _
  have hVn : VSt nu sz D0 L' (goM o x hv (evD nu D0) L M i) := fun t ht => ⟨by
    by_cases c : o i = 11 ∧ rg i t
    · rw [(hL t ht).1 c]; exact vs_or hS (i1 t ht).1 dv
    · rw [(hL t ht).2 c]; exact (i1 t ht).1, (hV1 t ht).2⟩
  have pu' := phi_up hS i1 hVn leL (fun t k _ _ => leM t k)
  refine ⟨⟨hVn, ?_, fun j h v hj hv' => le_tr (i3 j h v hj hv') (leM j v)⟩, pu'.1, pu'.2, fun no => ?_⟩
  · intro T U' hT hU
    have le0 := i2 T U' hT hU
    have cT := hT i h hh
    have le1 : leS hv L (goM o x hv (evD nu D0) L M i) T U' := by
      intro j hj' hj
      obtain ⟨js, -⟩ := hV.all j hj' hj
      refine ⟨(le0 j hj' hj).1, fun k hk => ?_⟩
      unfold goM
      by_cases c : mm (nSs o x i) j = true ∧ k < 26 + nh o hv i
      · rw [if_pos c]
        have nxj := (mm_nS hG his (by omega)).mp c.1
        exact or_le ((le0 j hj' hj).2 k hk) (le_tr (afS_mono hG his hh hit (le0 i h hh).1 (le0 i h hh).2 c.2) (cT.2 j nxj k c.2))
      · rw [if_neg c]; exact (le0 j hj' hj).2 k hk
    have dm := dS_mono (o := o) hh hit (le1 i h hh).1 (le1 i h hh).2
    intro j hj' hj
    obtain ⟨js, -⟩ := hV.all j hj' hj
    refine ⟨?_, (le1 j hj' hj).2⟩
    by_cases c : o i = 11 ∧ rg i j
    · rw [(hL j js).1 c]
      exact or_le (le1 j hj' hj).1 (le_tr dm (cT.1 c.1 j js c.2))
    · rw [(hL j js).2 c]; exact (le1 j hj' hj).1
  · have same : ∀ t, t < sz → L' t = L t ∧ ∀ k, k < 56 → goM o x hv (evD nu D0) L M i t k = M t k := fun t ht => ⟨Classical.not_not.mp (fun w => no ⟨t, ht, Or.inl w⟩), fun k hk => Classical.not_not.mp (fun w => no ⟨t, ht, Or.inr ⟨k, hk, w⟩⟩)⟩
    have ed : dS o hv L (goM o x hv (evD nu D0) L M i) i = dS o hv L M i := dS_same hh hib hit rfl (same i his).2
    refine ⟨fun h11 q hq hr => ?_, fun q hq k hk => ?_⟩
    · have e := (hL q hq).1 ⟨h11, hr⟩
      rw [(same q hq).1, ed] at e
      show dS o hv L M i ||| L q = L q
      rw [Nat.or_comm]; exact e.symm
    · have hqs := hG.nxs his hq
      have e := (same q hqs).2 k (by omega)
      unfold goM at e
      rw [if_pos ⟨(mm_nS hG his (by omega)).mpr hq, hk⟩] at e
      show afS o x hv (evD nu D0) L M i k ||| M q k = M q k
      rw [Nat.or_comm]; exact e
theorem mr_in {N nu sz : Nat} {o : Nat → Nat} {x : Nat → Int32} {hv : Nat → Option Nat} {rg : Nat → Nat → Prop} {D0 : Dat} (hN : 1000 ≤ N) (hG : GC nu sz o x) (hS : LatS nu D0) (hmk : ∀ v, v < 52 → mkOk nu (dI D0 190 v)) (hV : HV o x sz hv) {E : Dat} {ph : Nat} {Q : Dat → Prop} (rec : Int32 → Dat → Option Dat)
    (hfin : ∀ (fl : Bool) (L : Nat → Nat) (M : Nat → Nat → Nat) (D' : Dat), MEn nu sz o x hv rg D0 D' → Ch PlM E D' → SM nu sz D0 L M D' → MI nu sz o x hv rg D0 L M → ph ≤ phi sz L M → (fl = true → ph < phi sz L M) → (fl = false → Sol o x sz hv (evD nu D0) rg L M) → Tt (rec (wi fl) D') Q) :
    ∀ (k g i : Nat) (fl : Bool) (L : Nat → Nat) (M : Nat → Nat → Nat) (D : Dat), i + k = sz → k < g → MEn nu sz o x hv rg D0 D → Ch PlM E D → SM nu sz D0 L M D → MI nu sz o x hv rg D0 L M → ph ≤ phi sz L M → (fl = true → ph < phi sz L M) → (fl = false → ∀ j h, j < i → hv j = some h → Con o x sz hv (evD nu D0) rg L M j) → Tt (f_X12_rounds_b89 N rec g (wi fl) (nn i) D) Q := by
  have hz := hG.1.2
  intro k
  induction k with
  | zero =>
    intro g i fl L M D hi hg hE hch hM hI hp ht hf
    obtain ⟨g, rfl⟩ : ∃ g', g = g' + 1 := ⟨g - 1, by omega⟩
    rw [f_X12_rounds_b89, hE.1.2.1, if_pos ((nn_le (by omega) (by omega)).mpr (by omega))]
    exact hfin fl L M D hE hch hM hI hp ht (fun e j h hj => hf e j h (by have := (hV.all j h hj).1; omega) hj)
  | succ k ih =>
    intro g i fl L M D hi hg hE hch hM hI hp ht hf
    obtain ⟨g, rfl⟩ : ∃ g', g = g' + 1 := ⟨g - 1, by omega⟩
    have i1 := nn_in (k := i) (n := 64) (by omega) (by omega)
    have bd30 : ∀ k, hv i = some k → k ≤ 30 := fun k hk => (hV.all i k hk).2.1
    rw [f_X12_rounds_b89, hE.1.2.1, if_neg (by rw [nn_le (by omega) (by omega)]; omega), if_neg i1, nn_nat (by omega), hE.2.1 i (by omega)]
    unfold f_X12_rounds_b116
    rw [nn_1]
    by_cases hn : hv i = none
    · rw [if_pos ((hI_neg bd30).mpr hn)]
      refine ih g (i + 1) fl L M D (by omega) (by omega) hE hch hM hI hp ht (fun e j h hj hj' => ?_)
      by_cases c : j = i
      · rw [c, hn] at hj'; simp at hj'
      · exact hf e j h (by omega) hj'
    · rw [if_neg (fun w => hn ((hI_neg bd30).mp w))]
      obtain ⟨h, hh⟩ : ∃ h, hv i = some h := by
        cases e : hv i with
        | none => exact absurd e hn
        | some h => exact ⟨h, rfl⟩
      refine Tt_call (e_spread hN hG hS hmk hV hE hM hh) (fun r ⟨fl', L', r1, r2, r3, r4, r5, r6⟩ => ?_)
      obtain ⟨s1, s2, s3, s4⟩ := MI.step hG hS hmk hV hI hh r5
      rw [r1]
      cases fl' with
      | false =>
        rw [show wi false = (0 : Int32) from rfl, if_pos rfl]
        have no : ¬ ∃ t, t < sz ∧ (¬ L' t = L t ∨ ∃ k, k < 56 ∧ ¬ goM o x hv (evD nu D0) L M i t k = M t k) := fun w => absurd (r6.mpr w) (by decide)
        have same : ∀ t, t < sz → L' t = L t ∧ ∀ k, k < 56 → goM o x hv (evD nu D0) L M i t k = M t k := fun t ht => ⟨Classical.not_not.mp (fun w => no ⟨t, ht, Or.inl w⟩), fun k hk => Classical.not_not.mp (fun w => no ⟨t, ht, Or.inr ⟨k, hk, w⟩⟩)⟩
        refine ih g (i + 1) fl L' _ r.2 (by omega) (by omega) r2 (hch.tr r3) r4 s1 (by omega) (fun e => by have := ht e; omega) (fun e j h' hj hj' => ?_)
        refine Con_congr hG hV same hj' ?_
        by_cases c : j = i
        · rw [c]; exact s4 no
        · exact hf e j h' (by omega) hj'
      | true =>
        rw [show wi true = (1 : Int32) from rfl, if_neg (by decide)]
        have := s3 (r6.mp rfl)
        exact ih g (i + 1) true L' _ r.2 (by omega) (by omega) r2 (hch.tr r3) r4 s1 (by omega) (fun _ => by omega) (fun e => absurd e (by decide))
theorem mr_out {N nu sz : Nat} {o : Nat → Nat} {x : Nat → Int32} {hv : Nat → Option Nat} {rg : Nat → Nat → Prop} {D0 : Dat} (hN : 100000 ≤ N) (hG : GC nu sz o x) (hS : LatS nu D0) (hmk : ∀ v, v < 52 → mkOk nu (dI D0 190 v)) (hV : HV o x sz hv) {E : Dat} : ∀ (r g : Nat) (L : Nat → Nat) (M : Nat → Nat → Nat) (D : Dat), 18241 ≤ phi sz L M + r → r + 1 < g → MEn nu sz o x hv rg D0 D → Ch PlM E D → SM nu sz D0 L M D → MI nu sz o x hv rg D0 L M → Tt (f_X12_rounds_b81 N g 1 D) (fun D' => MEn nu sz o x hv rg D0 D' ∧ Ch PlM E D' ∧ ∃ L M, SM nu sz D0 L M D' ∧ MI nu sz o x hv rg D0 L M ∧ Sol o x sz hv (evD nu D0) rg L M) := by
  have hz := hG.1.2
  intro r
  induction r with
  | zero =>
    intro g L M D hr hg hE hch hM hI
    have := phi_bd hS hz hI.1
    omega
  | succ r ih =>
    intro g L M D hr hg hE hch hM hI
    obtain ⟨g, rfl⟩ : ∃ g', g = g' + 1 := ⟨g - 1, by omega⟩
    rw [f_X12_rounds_b81, if_neg (by decide)]
    refine mr_in (E := D) (ph := phi sz L M) (by omega) hG hS hmk hV _ (fun fl L' M' D' b1 b2 b3 b4 b5 b6 b7 => ?_) sz N 0 false L M D (by omega) (by omega) hE Ch.rf hM hI (Nat.le_refl _) (fun w => absurd w (by decide)) (fun _ j h hj => absurd hj (by omega))
    cases fl with
    | false =>
      obtain ⟨g, rfl⟩ : ∃ g', g = g' + 1 := ⟨g - 1, by omega⟩
      rw [show wi false = (0 : Int32) from rfl, f_X12_rounds_b81, if_pos rfl]
      exact ⟨D', rfl, b1, hch.tr b2, L', M', b3, b4, b7 rfl⟩
    | true =>
      have := b6 rfl
      exact ih g L' M' D' (by omega) (by omega) b1 (hch.tr b2) b3 b4
/-- the rows at the start -/
def sm0 (nu : Nat) (D0 : Dat) (_i k : Nat) : Nat := if k < 26 then fxD nu D0 k else 0
theorem mi_row {N nu sz : Nat} {o : Nat → Nat} {x : Nat → Int32} {hv : Nat → Option Nat} {rg : Nat → Nat → Prop} {D0 : Dat} (hS : LatS nu D0) (hmk : ∀ v, v < 52 → mkOk nu (dI D0 190 v)) {i : Nat} (hi : i < 64) {E : Dat} {Q : Dat → Prop} (rec : Int32 → Dat → Option Dat) (hfin : ∀ D', MEn nu sz o x hv rg D0 D' → Ch (fun a j => a = 250 ∧ 56 * i ≤ j ∧ j < 56 * i + 56) E D' → (∀ k, k < 56 → lb nu D0 (dI D' 250 (56 * i + k)) (sm0 nu D0 i k)) → Tt (rec (nn (i + 1)) D') Q) : ∀ (j g k : Nat) (D : Dat), k + j = 56 → j < g → MEn nu sz o x hv rg D0 D → Ch (fun a j => a = 250 ∧ 56 * i ≤ j ∧ j < 56 * i + 56) E D → (∀ t, t < k → lb nu D0 (dI D 250 (56 * i + t)) (sm0 nu D0 i t)) → Tt (f_X12_rounds_b22 N rec g (nn i) (nn k) D) Q := by
  intro j
  induction j with
  | zero =>
    intro g k D hk hg hE hch hv'
    obtain ⟨g, rfl⟩ : ∃ g', g = g' + 1 := ⟨g - 1, by omega⟩
    rw [f_X12_rounds_b22, if_pos (show 56 ≤ nn k by rw [nn_l, nn_le (by omega) (by omega)]; omega), nn_1]
    exact hfin D hE hch (fun t ht => hv' t (by omega))
  | succ j ih =>
    intro g k D hk hg hE hch hv'
    obtain ⟨g, rfl⟩ : ∃ g', g = g' + 1 := ⟨g - 1, by omega⟩
    have i2 := nn_in (k := 56 * i + k) (n := 3584) (by omega) (by omega)
    have n2 : (nn (56 * i + k)).toNatClampNeg = 56 * i + k := nn_nat (by omega)
    rw [f_X12_rounds_b22, if_neg (show ¬ 56 ≤ nn k by rw [nn_l, nn_le (by omega) (by omega)]; omega), m56]
    have put : ∀ z : Int32, lb nu D0 z (sm0 nu D0 i k) → Tt (f_X12_rounds_b66 N rec (f_X12_rounds_b22 N rec g) (nn i) (nn k) z (nn (56 * i + k)) D) Q := fun z hz => by
      unfold f_X12_rounds_b66
      rw [if_neg i2, n2, nn_1]
      refine ih g (k + 1) _ (by omega) (by omega) (hE.kept (Ch.sI (by unfold PlM; omega) Ch.rf)) (Ch.sI (by omega) hch) (fun t ht => ?_)
      rw [dI_s]
      by_cases e : t = k
      · rw [if_pos ⟨rfl, by omega⟩, e]; exact hz
      · rw [if_neg (fun w => e (by omega))]; exact hv' t (by omega)
    unfold f_X12_rounds_b62
    by_cases c : 26 ≤ k
    · rw [if_pos (show 26 ≤ nn k by rw [nn_l, nn_le (by omega) (by omega)]; exact c)]
      refine put _ ?_
      unfold sm0
      rw [if_neg (by omega)]; exact lb_bot hS hE
    · have i1 := nn_in (k := k) (n := 26) (by omega) (by omega)
      rw [if_neg (show ¬ 26 ≤ nn k by rw [nn_l, nn_le (by omega) (by omega)]; exact c), if_neg i1, if_neg i1, nn_nat (k := k) (by omega), (hE.2.2.2.2 k (by omega)).1]
      have ok := hmk k (by omega)
      have ml := mk_lt hS.1.2 ok
      have ms : sm0 nu D0 i k = shv nu D0 (dI D0 190 k) := by unfold sm0 fxD; rw [if_pos (by omega)]
      by_cases c2 : dI D0 190 k = -1
      · rw [if_pos (by rw [c2]; decide)]
        refine put _ ?_
        rw [ms]
        unfold shv
        rw [if_pos c2]; exact lb_bot hS hE
      · rw [if_neg (fun w => by have := ml.mpr c2; rw [← Int32.not_lt] at this; exact this w)]
        refine put _ ?_
        rw [ms]; exact lb_shv hS.1.2 ok c2
theorem mi_rows {N nu sz : Nat} {o : Nat → Nat} {x : Nat → Int32} {hv : Nat → Option Nat} {rg : Nat → Nat → Prop} {D0 : Dat} (hN : 1000 ≤ N) (hG : GC nu sz o x) (hS : LatS nu D0) (hmk : ∀ v, v < 52 → mkOk nu (dI D0 190 v)) {E : Dat} {Q : Dat → Prop} (hfin : ∀ D', MEn nu sz o x hv rg D0 D' → Ch PlM E D' → SM nu sz D0 (fun _ => 0) (sm0 nu D0) D' → Tt (f_X12_rounds_b81 N N 1 D') Q) : ∀ (k g i : Nat) (D : Dat), i + k = sz → k < g → MEn nu sz o x hv rg D0 D → Ch PlM E D → (∀ t, t < i → lb nu D0 (dI D 249 t) 0 ∧ ∀ k, k < 56 → lb nu D0 (dI D 250 (56 * t + k)) (sm0 nu D0 t k)) → Tt (f_X12_rounds_b2 N g (nn i) D) Q := by
  have hz := hG.1.2
  intro k
  induction k with
  | zero =>
    intro g i D hi hg hE hch hv'
    obtain ⟨g, rfl⟩ : ∃ g', g = g' + 1 := ⟨g - 1, by omega⟩
    rw [f_X12_rounds_b2, hE.1.2.1, if_pos ((nn_le (by omega) (by omega)).mpr (by omega))]
    exact hfin D hE hch (fun t ht => hv' t (by omega))
  | succ k ih =>
    intro g i D hi hg hE hch hv'
    obtain ⟨g, rfl⟩ : ∃ g', g = g' + 1 := ⟨g - 1, by omega⟩
    have i1 := nn_in (k := i) (n := 64) (by omega) (by omega)
    rw [f_X12_rounds_b2, hE.1.2.1, if_neg (by rw [nn_le (by omega) (by omega)]; omega), if_neg i1, nn_nat (by omega)]
    have c1 : Ch PlM D (sI D 249 i (dI D 207 6)) := Ch.sI (by unfold PlM; omega) Ch.rf
    refine mi_row (E := sI D 249 i (dI D 207 6)) hS hmk (show i < 64 by omega) _ (fun D' a1 a2 a3 => ?_) 56 N 0 _ (by omega) (by omega) (hE.kept c1) Ch.rf (fun t ht => absurd ht (by omega))
    refine ih g (i + 1) D' (by omega) (by omega) a1 (hch.tr (c1.tr (a2.mono (fun a j w => by unfold PlM; omega)))) (fun t ht => ?_)
    by_cases e : t = i
    · subst e
      refine ⟨?_, a3⟩
      rw [a2.i (by omega), dI_s, if_pos ⟨rfl, rfl⟩]; exact lb_bot hS hE
    · have old := hv' t (by omega)
      refine ⟨by rw [a2.i (by omega), dI_s, if_neg (by omega)]; exact old.1, fun k hk => ?_⟩
      rw [a2.i (by omega), dI_s, if_neg (by omega)]; exact old.2 k hk
theorem e_rounds {N nu sz : Nat} {o : Nat → Nat} {x : Nat → Int32} {hv : Nat → Option Nat} {rg : Nat → Nat → Prop} {D0 D : Dat} (hN : 100000 ≤ N) (hG : GC nu sz o x) (hS : LatS nu D0) (hmk : ∀ v, v < 52 → mkOk nu (dI D0 190 v)) (hV : HV o x sz hv) (hE : MEn nu sz o x hv rg D0 D) : Tt (f_X12_rounds N D) (fun D' => MEn nu sz o x hv rg D0 D' ∧ Ch PlM D D' ∧ ∃ L M, SM nu sz D0 L M D' ∧ MI nu sz o x hv rg D0 L M ∧ Sol o x sz hv (evD nu D0) rg L M) := by
  have hz := hG.1.2
  refine mi_rows (E := D) (by omega) hG hS hmk (fun D1 a1 a2 a3 => ?_) sz N 0 D (by omega) (by omega) hE Ch.rf (fun t ht => absurd ht (by omega))
  refine mr_out (E := D) hN hG hS hmk hV 18241 N _ _ D1 (by omega) (by omega) a1 a2 a3 ⟨fun i hi => ⟨vs_0 hS, fun k hk => ?_⟩, fun T U' hT hU i h hi => ⟨le_0 _, fun k hk => ?_⟩, fun i h v hi hv' => ?_⟩
  · unfold sm0
    split
    · exact vs_shv hS (hmk k (by omega))
    · exact vs_0 hS
  · unfold sm0
    by_cases c : k < 26
    · rw [if_pos c]; exact hU i h k hi c
    · rw [if_neg c]; exact le_0 _
  · unfold sm0
    rw [if_pos hv']; exact le_rf _
