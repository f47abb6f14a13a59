/-! labels of the class: the rounds -/
/-- a shade of a label -/
def vs (nu : Nat) (D : Dat) (s : Nat) : Prop := ∃ d, d < nu ∧ s = sh nu D d
/-- what is used of a sealed lattice -/
def LatS (nu : Nat) (D : Dat) : Prop := (1 ≤ nu ∧ nu ≤ 6) ∧ Lat nu D ∧ dI D 207 5 = 1
theorem LatS.rw2 {nu : Nat} {D : Dat} (h : LatS nu D) : Rw2 nu D := fun a ha => by
  obtain ⟨m, m1, m2, -⟩ := h.2.1.2.1 a ha
  exact ⟨m, m1, m2⟩
theorem vs_0 {nu : Nat} {D : Dat} (h : LatS nu D) : vs nu D 0 := by
  obtain ⟨B, b1, -, -, b4, -⟩ := sh_bot h.1.2 h.2.1 h.2.2
  exact ⟨B, b1, b4.symm⟩
theorem vs_or {nu : Nat} {D : Dat} (h : LatS nu D) {a b : Nat} (ha : vs nu D a) (hb : vs nu D b) : vs nu D (a ||| b) := by
  obtain ⟨d, d1, d2⟩ := ha
  obtain ⟨e, e1, e2⟩ := hb
  obtain ⟨j, j1, -, j3⟩ := sh_join h.1.2 h.2.1 h.2.2 d1 e1
  exact ⟨j, j1, by rw [d2, e2, j3]⟩
theorem vs_shv {nu : Nat} {D : Dat} (h : LatS nu D) {v : Int32} (hv : mkOk nu v) : vs nu D (shv nu D v) := by
  unfold shv
  rcases hv with w | ⟨d, d1, d2⟩
  · rw [if_pos w]; exact vs_0 h
  · rw [d2, if_neg (nn_nm1 (by have := h.1.2; omega))]
    unfold tg
    rw [nn_nat (by have := h.1.2; omega)]
    exact ⟨d, d1, rfl⟩
def pcn (m : Nat) : Nat := sm (bt m) 6 0
theorem pcn_le : ∀ a, a < 64 → ∀ b, b < 64 → a ||| b = b → (pcn a ≤ pcn b ∧ (a ≠ b → pcn a < pcn b)) := by decide +kernel
theorem pcn_5 : ∀ m, m < 64 → ∀ b, b < 6 → bt m b = 0 → pcn m ≤ 5 := by decide +kernel
theorem vs_pc {nu : Nat} {D : Dat} (h : LatS nu D) {s : Nat} (hs : vs nu D s) : s < 64 ∧ pcn s ≤ 5 := by
  obtain ⟨d, d1, d2⟩ := hs
  have x1 := sh_bits h.1.2 h.2.1.1 h.2.1.2.1 d1
  rw [d2]
  refine ⟨x1.1, pcn_5 _ x1.1 d (by have := h.1.2; omega) ((bt_dec _ _).mp (fun w => ?_))⟩
  exact ((x1.2 d (by have := h.1.2; omega)).mp w).2 (h.2.1.2.2.1.1 d d1)
theorem sm_bd {f : Nat → Nat} {c : Nat} : ∀ (k i : Nat), (∀ b, i ≤ b → b < i + k → f b ≤ c) → sm f k i ≤ c * k := by
  intro k
  induction k with
  | zero => intro i _; exact Nat.le_refl _
  | succ k ih =>
    intro i h
    have h1 := h i (Nat.le_refl _) (by omega)
    have h2 := ih (i + 1) (fun b g1 g2 => h b (by omega) (by omega))
    show f i + sm f k (i + 1) ≤ c * (k + 1)
    rw [Nat.mul_succ]
    omega
/-- how much is raised -/
def phi (sz : Nat) (L : Nat → Nat) (M : Nat → Nat → Nat) : Nat := sm (fun i => pcn (L i) + sm (fun k => pcn (M i k)) 56 0) sz 0
/-- numbers below 64, shades of labels -/
def VSt (nu sz : Nat) (D : Dat) (L : Nat → Nat) (M : Nat → Nat → Nat) : Prop := ∀ i, i < sz → vs nu D (L i) ∧ ∀ k, k < 56 → vs nu D (M i k)
theorem phi_bd {nu sz : Nat} {D : Dat} (h : LatS nu D) (hz : sz ≤ 64) {L : Nat → Nat} {M : Nat → Nat → Nat} (hv : VSt nu sz D L M) : phi sz L M ≤ 18240 := by
  have : phi sz L M ≤ 285 * sz := sm_bd sz 0 (fun i _ hi => by
    have a := (vs_pc h (hv i (by omega)).1).2
    have b : sm (fun k => pcn (M i k)) 56 0 ≤ 5 * 56 := sm_bd 56 0 (fun k _ hk => (vs_pc h ((hv i (by omega)).2 k (by omega))).2)
    show pcn (L i) + sm (fun k => pcn (M i k)) 56 0 ≤ 285
    omega)
  omega
theorem phi_up {nu sz : Nat} {D : Dat} (h : LatS nu D) {L L' : Nat → Nat} {M M' : Nat → Nat → Nat} (hv : VSt nu sz D L M) (hv' : VSt nu sz D L' M') (h1 : ∀ i, i < sz → le (L i) (L' i)) (h2 : ∀ i k, i < sz → k < 56 → le (M i k) (M' i k)) : phi sz L M ≤ phi sz L' M' ∧ ((∃ i, i < sz ∧ (¬ L' i = L i ∨ ∃ k, k < 56 ∧ ¬ M' i k = M i k)) → phi sz L M < phi sz L' M') := by
  have row : ∀ i, i < sz → sm (fun k => pcn (M i k)) 56 0 ≤ sm (fun k => pcn (M' i k)) 56 0 ∧ ((∃ k, 0 ≤ k ∧ k < 0 + 56 ∧ pcn (M i k) < pcn (M' i k)) → sm (fun k => pcn (M i k)) 56 0 < sm (fun k => pcn (M' i k)) 56 0) := fun i hi => sm_lt 56 0 (fun k _ hk => (pcn_le _ (vs_pc h ((hv i hi).2 k (by omega))).1 _ (vs_pc h ((hv' i hi).2 k (by omega))).1 (h2 i k hi (by omega))).1)
  have lev : ∀ i, i < sz → pcn (L i) ≤ pcn (L' i) ∧ (L i ≠ L' i → pcn (L i) < pcn (L' i)) := fun i hi => pcn_le _ (vs_pc h (hv i hi).1).1 _ (vs_pc h (hv' i hi).1).1 (h1 i hi)
  have key := sm_lt (f := fun i => pcn (L i) + sm (fun k => pcn (M i k)) 56 0) (f' := fun i => pcn (L' i) + sm (fun k => pcn (M' i k)) 56 0) sz 0 (fun i _ hi => by
    have a := (lev i (by omega)).1
    have b := (row i (by omega)).1
    show pcn (L i) + sm (fun k => pcn (M i k)) 56 0 ≤ pcn (L' i) + sm (fun k => pcn (M' i k)) 56 0
    omega)
  refine ⟨key.1, fun ⟨i, hi, c⟩ => key.2 ⟨i, Nat.zero_le _, by omega, ?_⟩⟩
  show pcn (L i) + sm (fun k => pcn (M i k)) 56 0 < pcn (L' i) + sm (fun k => pcn (M' i k)) 56 0
  have a := lev i hi
  have b := row i hi
  rcases c with c | ⟨k, k1, k2⟩
  · have := a.2 (fun w => c w.symm); omega
  · have := b.2 ⟨k, Nat.zero_le _, by omega, (pcn_le _ (vs_pc h ((hv i hi).2 k k1)).1 _ (vs_pc h ((hv' i hi).2 k k1)).1 (h2 i k hi k1)).2 (fun w => k2 w.symm)⟩
    omega
/-- fixed variables at the start -/
def fxD (nu : Nat) (D : Dat) (v : Nat) : Nat := shv nu D (dI D 190 v)
def mini (nu sz : Nat) (o : Nat → Nat) (x : Nat → Int32) (hv : Nat → Option Nat) (rg : Nat → Nat → Prop) (D0 : Dat) (L : Nat → Nat) (M : Nat → Nat → Nat) : Prop := ∀ T U', Sol o x sz hv (evD nu D0) rg T U' → (∀ v, v < 26 → le (fxD nu D0 v) (U' 0 v)) → leS hv L M T U'
theorem dS_same {o : Nat → Nat} {hv : Nat → Option Nat} {L L' : Nat → Nat} {M M' : Nat → Nat → Nat} {j h : Nat} (hj : hv j = some h) (hb : h ≤ 30) (ht : tk (o j) ≤ h) (h1 : L' j = L j) (h2 : ∀ k, k < 56 → M' j k = M j k) : dS o hv L' M' j = dS o hv L M j := by
  have : ∀ n, n ≤ h → tS M' j h n = tS M j h n := by
    intro n
    induction n with
    | zero => intro _; rfl
    | succ n ih =>
      intro hn
      show tS M' j h n ||| M' j (26 + h - (n + 1)) = tS M j h n ||| M j (26 + h - (n + 1))
      rw [ih (by omega), h2 _ (by omega)]
  unfold dS
  rw [hj, h1]
  show L j ||| tS M' j h (tk (o j)) = L j ||| tS M j h (tk (o j))
  rw [this _ ht]
theorem afS_same {nu sz : Nat} {o : Nat → Nat} {x : Nat → Int32} (hG : GC nu sz o x) {hv : Nat → Option Nat} {e : Ev} {L L' : Nat → Nat} {M M' : Nat → Nat → Nat} {j h : Nat} (hjs : j < sz) (hj : hv j = some h) (hb : h ≤ 30) (ht : tk (o j) ≤ h) (h1 : L' j = L j) (h2 : ∀ k, k < 56 → M' j k = M j k) {k : Nat} (hk : k < 56) : afS o x hv e L' M' j k = afS o x hv e L M j k := by
  have s : srS o x e M' j = srS o x e M j := by
    unfold srS
    by_cases c : o j = 1
    · rw [if_pos c, if_pos c, h2 _ (by have := hG.x26 hjs (by omega); omega)]
    · rw [if_neg c, if_neg c]
  unfold afS
  rw [dS_same hj hb ht h1 h2, s, h2 k hk]
theorem dS_vs {nu sz : Nat} {o : Nat → Nat} {hv : Nat → Option Nat} {D : Dat} (hS : LatS nu D) {L : Nat → Nat} {M : Nat → Nat → Nat} (hv' : VSt nu sz D L M) {j h : Nat} (hjs : j < sz) (hj : hv j = some h) (hb : h ≤ 30) (ht : tk (o j) ≤ h) : vs nu D (dS o hv L M j) := by
  have : ∀ n, n ≤ h → vs nu D (tS M j h n) := by
    intro n
    induction n with
    | zero => intro _; exact vs_0 hS
    | succ n ih => intro hn; exact vs_or hS (ih (by omega)) ((hv' j hjs).2 _ (by omega))
  unfold dS
  rw [hj]
  exact vs_or hS (hv' j hjs).1 (this _ ht)
theorem afS_vs {nu sz : Nat} {o : Nat → Nat} {x : Nat → Int32} (hG : GC nu sz o x) {hv : Nat → Option Nat} {D : Dat} (hS : LatS nu D) (hmk : ∀ v, v < 52 → mkOk nu (dI D 190 v)) {L : Nat → Nat} {M : Nat → Nat → Nat} (hv' : VSt nu sz D L M) {j h : Nat} (hjs : j < sz) (hj : hv j = some h) (hb : h ≤ 30) (ht : tk (o j) ≤ h) {k : Nat} (hk : k < 56) : vs nu D (afS o x hv (evD nu D) L M j k) := by
  have d := dS_vs (o := o) hS hv' hjs hj hb ht
  unfold afS
  split
  · refine vs_or hS d ?_
    unfold srS
    by_cases c1 : o j = 1
    · rw [if_pos c1]; exact (hv' j hjs).2 _ (by have := hG.x26 hjs (by omega); omega)
    · rw [if_neg c1]
      by_cases c3 : o j = 3
      · rw [if_pos c3]; exact vs_shv hS (hmk _ (by have := hG.x26 hjs (by omega); omega))
      · rw [if_neg c3]
        by_cases c13 : o j = 13
        · rw [if_pos c13]; exact ⟨_, (hG.xnu hjs (by omega)).1, rfl⟩
        · rw [if_neg c13]; exact vs_0 hS
  · split
    · exact d
    · exact (hv' j hjs).2 k hk
/-- all that holds between the steps -/
def LI (nu sz : Nat) (o : Nat → Nat) (x : Nat → Int32) (hv : Nat → Option Nat) (rg : Nat → Nat → Prop) (D0 : Dat) (L : Nat → Nat) (M : Nat → Nat → Nat) (O : Int64) : Prop := VSt nu sz D0 L M ∧ mini nu sz o x hv rg D0 L M ∧ (∀ v, v < 26 → le (fxD nu D0 v) (M 0 v)) ∧ (∀ j h, hv j = some h → mm O j = false → Con o x sz hv (evD nu D0) rg L M j) ∧ ∀ j, j < 64 → mm O j = true → ¬ hv j = none
theorem LI.step {nu c sz : Nat} {o : Nat → Nat} {x : Nat → Int32} {hv : Nat → Option Nat} {rg : Nat → Nat → Prop} {D0 D : Dat} (hG : GC nu sz o x) (hS : LatS nu D0) (hmk : ∀ v, v < 52 → mkOk nu (dI D0 190 v)) (hV : HV o x sz hv) (hRg : ∀ i t, ¬ hv i = none → rg i t → ¬ hv t = none) (hE : CEn nu c sz o x hv rg D0 D) {L : Nat → Nat} {M : Nat → Nat → Nat} {O O' : Int64} (hI : LI nu sz o x hv rg D0 L M O) {i h : Nat} (hh : hv i = some h)
    (hO : ∀ t, t < 64 → (mm O' t = true ↔ ((mm O t = true ∧ t ≠ i) ∨ (t < sz ∧ (¬ goL o hv (dL D 112 i) L M i t = L t ∨ ∃ k, k < 56 ∧ ¬ goM o x hv (evD nu D0) L M i t k = M t k))))) :
    LI nu sz o x hv rg D0 (goL o hv (dL D 112 i) L M i) (goM o x hv (evD nu D0) L M i) O' ∧ phi sz L M ≤ phi sz (goL o hv (dL D 112 i) L M i) (goM o x hv (evD nu D0) L M i) ∧ (phi sz (goL o hv (dL D 112 i) L M i) (goM o x hv (evD nu D0) L M i) = phi sz L M → ∀ t, t < 64 → mm O' t = true → mm O t = true ∧ t ≠ i) := by
  have hz := hG.1.2
  obtain ⟨i1, i2, i3, i4, i5⟩ := hI
  have hts : ∀ j h, hv j = some h → j < sz ∧ h ≤ 30 ∧ tk (o j) ≤ h ∧ h - tk (o j) + pu (o j) ≤ 30 ∧ ∀ q, nx o x j q → hv q = some (h - tk (o j) + pu (o j)) := fun j h hj => by
    obtain ⟨a, b, -, h', l1, l2, l3, l4, l5⟩ := hV.2 j h hj
    have e : h' = h := by rw [hj] at l1; exact (Option.some.inj l1).symm
    subst e
    exact ⟨a, b, l2, l3, l5⟩
  obtain ⟨his, hib, hit, hin, hiq⟩ := hts i h hh
  have eg : (hv i).getD 0 = h := by rw [hh]; rfl
  have en : nh o hv i = h - tk (o i) + pu (o i) := by unfold nh; rw [eg]
  have hrg : ∀ t, t < sz → o i = 11 → (mm (dL D 112 i) t = true ↔ rg i t) := fun t ht h11 => hE.2.2.2.1.2 i his h11 (by rw [hh]; simp) t ht
  have dv := dS_vs (o := o) hS i1 his hh hib hit
  have av' := fun k (hk : k < 56) => afS_vs hG hS hmk i1 his hh hib hit hk
  have hVn : VSt nu sz D0 (goL o hv (dL D 112 i) L M i) (goM o x hv (evD nu D0) L M i) := fun t ht => ⟨by
    unfold goL
    split
    · exact vs_or hS (i1 t ht).1 dv
    · exact (i1 t ht).1, fun k hk => by
    unfold goM
    split
    · exact vs_or hS ((i1 t ht).2 k hk) (av' k hk)
    · exact (i1 t ht).2 k hk⟩
  have leL : ∀ t, le (L t) (goL o hv (dL D 112 i) L M i t) := fun t => by
    unfold goL
    split
    · exact le_l _ _
    · exact le_rf _
  have leM : ∀ t k, le (M t k) (goM o x hv (evD nu D0) L M i t k) := fun t k => by
    unfold goM
    split
    · exact le_l _ _
    · exact le_rf _
  have pu' := phi_up hS i1 hVn (fun t _ => leL t) (fun t k _ _ => leM t k)
  refine ⟨⟨hVn, ?_, ?_, ?_, ?_⟩, pu'.1, fun e t ht w => ?_⟩
  · intro T U' hT hU
    have le0 := i2 T U' hT hU
    have cT := hT i h hh
    have dm := dS_mono (o := o) hh hit (le0 i h hh).1 (le0 i h hh).2
    intro j hj' hj
    obtain ⟨js, jb, -⟩ := hts j hj' hj
    refine ⟨?_, fun k hk => ?_⟩
    · unfold goL
      by_cases c : o i = 11 ∧ mm (dL D 112 i) j = true
      · rw [if_pos c]
        exact or_le (le0 j hj' hj).1 (le_tr dm (cT.1 c.1 j js ((hrg j js c.1).mp c.2)))
      · rw [if_neg c]; exact (le0 j hj' hj).1
    · unfold goM
      by_cases c : mm (nSs o x i) j = true ∧ k < 26 + nh o hv i
      · rw [if_pos c]
        have nxj := (mm_nS hG his (by omega)).mp c.1
        exact or_le ((le0 j hj' hj).2 k hk) (le_tr (afS_mono hG his hh hit (le0 i h hh).1 (le0 i h hh).2 c.2) (cT.2 j nxj k c.2))
      · rw [if_neg c]; exact (le0 j hj' hj).2 k hk
  · exact fun v hv' => le_tr (i3 v hv') (leM 0 v)
  · intro j hj' hj hOj
    obtain ⟨js, jb, jt, jn, jq⟩ := hts j hj' hj
    have no : ((mm O j = true ∧ j ≠ i) ∨ (j < sz ∧ (¬ goL o hv (dL D 112 i) L M i j = L j ∨ ∃ k, k < 56 ∧ ¬ goM o x hv (evD nu D0) L M i j k = M j k))) → False := fun w => by rw [(hO j (by omega)).mpr w] at hOj; exact absurd hOj (by decide)
    have uL : goL o hv (dL D 112 i) L M i j = L j := Classical.not_not.mp (fun w => no (Or.inr ⟨js, Or.inl w⟩))
    have uM : ∀ k, k < 56 → goM o x hv (evD nu D0) L M i j k = M j k := fun k hk => Classical.not_not.mp (fun w => no (Or.inr ⟨js, Or.inr ⟨k, hk, w⟩⟩))
    have enj : nh o hv j = hj' - tk (o j) + pu (o j) := by unfold nh; rw [hj]; rfl
    unfold Con
    rw [dS_same hj jb jt uL uM]
    by_cases c : j = i
    · subst c
      have hh' : hj' = h := by rw [hj] at hh; exact Option.some.inj hh
      subst hh'
      refine ⟨fun h11 q hq hr => ?_, fun q hq k hk => ?_⟩
      · unfold goL
        rw [if_pos ⟨h11, (hrg q hq h11).mpr hr⟩]; exact le_r _ _
      · rw [afS_same hG js hj jb jt uL uM (by omega)]
        have hqs := hG.nxs js hq
        unfold goM
        rw [if_pos ⟨(mm_nS hG js (by omega)).mpr hq, hk⟩]; exact le_r _ _
    · have hOo : mm O j = false := Bool.eq_false_iff.mpr (fun w => no (Or.inl ⟨w, c⟩))
      have old := i4 j hj' hj hOo
      refine ⟨fun h11 q hq hr => le_tr (old.1 h11 q hq hr) (leL q), fun q hq k hk => ?_⟩
      rw [afS_same hG js hj jb jt uL uM (by omega)]
      exact le_tr (old.2 q hq k hk) (leM q k)
  · intro t ht hm
    rcases (hO t ht).mp hm with w | ⟨w1, w2⟩
    · exact i5 t ht w.1
    · rcases w2 with w2 | ⟨k, k1, k2⟩
      · unfold goL at w2
        by_cases c : o i = 11 ∧ mm (dL D 112 i) t = true
        · exact hRg i t (by rw [hh]; simp) ((hrg t w1 c.1).mp c.2)
        · rw [if_neg c] at w2; exact absurd rfl w2
      · unfold goM at k2
        by_cases c : mm (nSs o x i) t = true ∧ k < 26 + nh o hv i
        · have nxt := (mm_nS hG his ht).mp c.1
          rw [hiq t nxt]; simp
        · rw [if_neg c] at k2; exact absurd rfl k2
  · rcases (hO t ht).mp w with v | ⟨v1, v2⟩
    · exact v
    · have := pu'.2 ⟨t, v1, v2⟩; omega
