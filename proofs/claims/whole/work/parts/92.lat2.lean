/-! the lattice: below -/
def U (D : Dat) (a b : Nat) : Prop := dI D 208 (6 * a + b) = 1
def ILu (D : Dat) : Prop := ∀ k, k < 36 → b01 (dI D 208 k)
def ILm (nu : Nat) (D : Dat) : Prop := ∀ a, a < nu → ∃ m, m < 64 ∧ dI D 2 a = nn m ∧ ∀ b, b < 6 → bt m b = if b < nu then tv D a b else 0
def ILo (nu : Nat) (D : Dat) : Prop := (∀ a, a < nu → U D a a) ∧ ∀ a b c, a < nu → b < nu → c < nu → U D a b → U D b c → U D a c
def isJ (D : Dat) (nu a b c : Nat) : Prop := U D a c ∧ U D b c ∧ ∀ d, d < nu → U D a d → U D b d → U D c d
def isM (D : Dat) (nu a b c : Nat) : Prop := U D c a ∧ U D c b ∧ ∀ d, d < nu → U D d a → U D d b → U D d c
def ILs (nu : Nat) (D : Dat) : Prop := (∀ a b, a < nu → b < nu → U D a b → U D b a → a = b) ∧ (∀ a b, a < nu → b < nu → (∃ j, j < nu ∧ dI D 209 (6 * a + b) = nn j ∧ isJ D nu a b j) ∧ (∃ j, j < nu ∧ dI D 210 (6 * a + b) = nn j ∧ isM D nu a b j)) ∧ ∃ B, B < nu ∧ dI D 207 6 = nn B ∧ dI D 1 3 = nn B ∧ ∀ a, a < nu → U D B a
def Lat (nu : Nat) (D : Dat) : Prop := ILu D ∧ ILm nu D ∧ ILo nu D ∧ (dI D 207 5 = 1 → ILs nu D)
def RIL (a k : Nat) : Prop := a = 2 ∨ a = 208 ∨ a = 209 ∨ a = 210 ∨ (a = 207 ∧ (k = 5 ∨ k = 6)) ∨ (a = 1 ∧ k = 3)
theorem Lat.eqs {nu : Nat} {D D' : Dat} (e : ∀ a k, RIL a k → dI D' a k = dI D a k) (h : Lat nu D) : Lat nu D' := by
  have eU : ∀ a b, U D' a b ↔ U D a b := fun a b => by unfold U; rw [e 208 _ (by unfold RIL; omega)]
  have eT : ∀ a b, tv D' a b = tv D a b := fun a b => by unfold tv; rw [e 208 _ (by unfold RIL; omega)]
  obtain ⟨h1, h2, h3, h4⟩ := h
  refine ⟨fun k hk => ?_, fun a ha => ?_, ⟨fun a ha => (eU a a).mpr (h3.1 a ha), fun a b c ha hb hc p q => (eU a c).mpr (h3.2 a b c ha hb hc ((eU a b).mp p) ((eU b c).mp q))⟩, fun hs => ?_⟩
  · rw [e 208 _ (by unfold RIL; omega)]; exact h1 k hk
  · obtain ⟨m, m1, m2, m3⟩ := h2 a ha
    refine ⟨m, m1, ?_, fun b hb => ?_⟩
    · rw [e 2 _ (by unfold RIL; omega)]; exact m2
    · rw [eT]; exact m3 b hb
  · rw [e 207 5 (by unfold RIL; omega)] at hs
    obtain ⟨s1, s2, B, b1, b2, b3, b4⟩ := h4 hs
    refine ⟨fun a b ha hb p q => s1 a b ha hb ((eU a b).mp p) ((eU b a).mp q), fun a b ha hb => ?_, B, b1, ?_, ?_, fun a ha => (eU B a).mpr (b4 a ha)⟩
    · obtain ⟨⟨j, j1, j2, j3, j4, j5⟩, ⟨i, i1, i2, i3, i4, i5⟩⟩ := s2 a b ha hb
      refine ⟨⟨j, j1, ?_, (eU _ _).mpr j3, (eU _ _).mpr j4, fun d hd p q => (eU _ _).mpr (j5 d hd ((eU _ _).mp p) ((eU _ _).mp q))⟩, ⟨i, i1, ?_, (eU _ _).mpr i3, (eU _ _).mpr i4, fun d hd p q => (eU _ _).mpr (i5 d hd ((eU _ _).mp p) ((eU _ _).mp q))⟩⟩
      · rw [e 209 _ (by unfold RIL; omega)]; exact j2
      · rw [e 210 _ (by unfold RIL; omega)]; exact i2
    · rw [e 207 6 (by unfold RIL; omega)]; exact b2
    · rw [e 1 3 (by unfold RIL; omega)]; exact b3
theorem Lat.kept {nu : Nat} {P : Nat → Nat → Prop} {D D' : Dat} (h : Ch P D D') (hp : ∀ a k, P a k → ¬ RIL a k) (hI : Lat nu D) : Lat nu D' := hI.eqs (fun a k r => h.i (fun q => hp a k q r))
theorem tv_1 {D : Dat} {a b : Nat} (hu : ILu D) (hk : 6 * a + b < 36) : tv D a b = 1 ↔ U D a b := by
  unfold tv U
  rcases hu _ hk with q | q <;> rw [q] <;> decide
theorem tv_01 (D : Dat) (a b : Nat) : tv D a b = 0 ∨ tv D a b = 1 := by
  unfold tv
  split <;> simp
theorem leads_t {nu a b : Nat} {K : Nat → Nat} {D : Dat} (hn : nu ≤ 6) (hd : dI D 1 0 = nn nu) (hm : ILm nu D) (ha : a < nu) (hb : b < nu) : f_X2_leads nu K (nn a) (nn b) D = some (nn (tv D a b), D) := by
  obtain ⟨m, m1, m2, m3⟩ := hm a ha
  have e := m3 b (by omega)
  rw [if_pos hb] at e
  rw [leads_m hn hd ha hb m1 m2, e]
theorem sm_cut {f : Nat → Nat} {nu : Nat} (hn : nu ≤ 6) (h : ∀ b, nu ≤ b → b < 6 → f b = 0) : sm f 6 0 = sm f nu 0 := by
  have h' : ∀ b, b < 6 → nu ≤ b → f b = 0 := fun b h1 h2 => h b h2 h1
  rcases (show nu = 0 ∨ nu = 1 ∨ nu = 2 ∨ nu = 3 ∨ nu = 4 ∨ nu = 5 ∨ nu = 6 by omega) with rfl | rfl | rfl | rfl | rfl | rfl | rfl <;> simp [sm, h']
theorem sm_eq {f g : Nat → Nat} : ∀ (k i : Nat), (∀ b, i ≤ b → b < i + k → f b = g b) → sm f k i = sm g k i := by
  intro k
  induction k with
  | zero => intro i _; rfl
  | succ k ih =>
    intro i h
    show f i + sm f k (i + 1) = g i + sm g k (i + 1)
    rw [h i (Nat.le_refl _) (by omega), ih (i + 1) (fun b h1 h2 => h b (by omega) (by omega))]
/-- what may change at a pair -/
def Pb (a k : Nat) : Prop := Pr a k ∨ a = 2 ∨ a = 208
theorem stp_below {N nu n : Nat} {K : Nat → Nat} {D : Dat} (hN : 1000 ≤ N) (a1 a2 a3 : Int32) (hS : IS nu D) (hL : Lat nu D) : ∃ D', stp_0 N nu n K D a1 a2 a3 = some (K, D') ∧ Ch Pb D D' ∧ Lat nu D' := by
  obtain ⟨⟨n1, n2⟩, ⟨d1, d2⟩, -, -, -, -, ⟨s1, s2⟩⟩ := hS
  have rd : (∃ D', stp_0 N nu n K D a1 a2 a3 = some (K, D') ∧ Ch Pr D D') → ∃ D', stp_0 N nu n K D a1 a2 a3 = some (K, D') ∧ Ch Pb D D' ∧ Lat nu D' := fun ⟨D', e1, e2⟩ => ⟨D', e1, e2.mono (fun a k h => Or.inl h), hL.kept e2 (fun a k h => by unfold Pr at h; unfold RIL; omega)⟩
  have q1 : dI (sI D 207 0 0) 207 1 = nn nu := by rw [dI_s, if_neg (by omega)]; exact d2
  unfold stp_0 at rd ⊢
  rcases lab n2 a1 with ⟨a, ha, rfl⟩ | hb
  · rcases lab n2 a2 with ⟨b, hb, rfl⟩ | hb
    · rcases s2 with s2 | s2
      · have e5 : dI D 1 2 = 0 := s1.trans s2
        have eS : f_X2_isSealed D = some (0, D) := by rw [sealed_e (by rw [s1]; exact Or.inl s2), e5]
        obtain ⟨hu, hm, ⟨ho1, ho2⟩, -⟩ := hL
        -- the rows as numbers
        have hr : ∃ r : Nat → Nat, (∀ p, r p < 64) ∧ ∀ p, p < nu → dI D 2 p = nn (r p) ∧ ∀ c, c < 6 → bt (r p) c = if c < nu then tv D p c else 0 := by
          have := fun p : Nat => Classical.em (p < nu)
          refine ⟨fun p => if h : p < nu then Classical.choose (hm p h) else 0, fun p => ?_, fun p hp => ?_⟩
          · by_cases h : p < nu
            · simp only [h, dite_true]; exact (Classical.choose_spec (hm p h)).1
            · simp only [h, dite_false]; omega
          · simp only [hp, dite_true]; exact (Classical.choose_spec (hm p hp)).2
        obtain ⟨r, r1, r2⟩ := hr
        obtain ⟨D1, p1, p2, p3⟩ := put_l (N := N) (K := K) n2 ha (r1 b) r r1 nu N 0 D (by omega) (by omega) d1 (fun p _ hp => (r2 p hp).1)
        have hr' : ∀ p, (fun p => if bt (r p) a = 1 then r p ||| r b else r p) p < 64 := fun p => by
          show (if bt (r p) a = 1 then r p ||| r b else r p) < 64
          split
          · exact lor64 _ (r1 p) _ (r1 b)
          · exact r1 p
        have hrow : ∀ p, p < nu → dI D1 2 p = nn (if bt (r p) a = 1 then r p ||| r b else r p) := fun p hp => by rw [p3 p hp, if_pos (Nat.zero_le _)]
        have d1' : dI D1 1 0 = nn nu := (p2.i (by omega)).trans d1
        have eP := pairs_l (N := N) (K := K) n2 (fun p => if bt (r p) a = 1 then r p ||| r b else r p) hr' D1 d1' hrow nu N 0 0 (by omega) (by omega)
        rw [Nat.zero_add] at eP
        generalize hs : sm (fun p => sm (bt ((fun p => if bt (r p) a = 1 then r p ||| r b else r p) p)) 6 0) nu 0 = s at eP
        have i1 := nn_in (k := b) (n := nu) (by omega) hb
        have eL : f_L_below N nu K (nn a) (nn b) D = some (0, sL D1 262 (0 : Int32).toNatClampNeg (nn s).toInt64) := by
          unfold f_L_below f_X11_below f_X2_put f_X2_pairs
          simp only [has_yes n2 ha d1, has_yes n2 hb d1, eS, bS, n10, i1, reduceIte]
          rw [nn_nat (by omega), (r2 b hb).1, show (0 : Int32) = nn 0 from rfl, p1, bS, eP]
          rfl
        generalize hD2 : sL D1 262 (0 : Int32).toNatClampNeg (nn s).toInt64 = D2 at eL
        have hq : ∀ x j, x ≠ 2 → dI D2 x j = dI D x j := fun x j h => by rw [← hD2, dI_sL]; exact p2.i h
        -- the model
        have q2 : dI (sI D2 207 0 0) 207 1 = nn nu := by rw [dI_s, if_neg (by omega), hq _ _ (by omega)]; exact d2
        have q5 : dI (sI D2 207 0 0) 207 5 = 0 := by rw [dI_s, if_neg (by omega), hq _ _ (by omega)]; exact s2
        have q8 : ∀ j, dI (sI D2 207 0 0) 208 j = dI D 208 j := fun j => by rw [dI_s, if_neg (by omega), hq _ _ (by omega)]
        have hmid0 : mid (fun x y => U D x y) nu a b 0 0 (sI D2 207 0 0) := ⟨fun k hk => by rw [q8]; exact hu k hk, fun x y hx hy => ⟨fun h => by rw [q8]; exact h, fun h => Or.inl (by rw [q8] at h; exact h)⟩, fun x y hx hy h => absurd h (by omega)⟩
        have eM : Tt (f_X12_below N (nn a) (nn b) D2) (fun z => ∃ E, Ch (fun x _ => x = 208) (sI D2 207 0 0) E ∧ mid (fun x y => U D x y) nu a b nu 0 E ∧ z = (nn (sm (fun c => sm (tv E c) nu 0) nu 0), E)) := by
          unfold f_X12_below
          rw [q2, out_no (by omega) ha, bS]
          simp only [reduceIte]
          rw [q2, out_no (by omega) hb, bS]
          simp only [reduceIte]
          rw [if_pos q5]
          refine bel_out (u0 := fun x y => U D x y) hN n2 ha hb q2 (fun E h1 h2 => ?_) nu N 0 _ (by omega) (by omega) hmid0 Ch.rf
          have := cnt_out (N := N) hN n2 E ((h2.i (by omega)).trans q2) nu N 0 0 (by omega) (by omega)
          rw [Nat.zero_add] at this
          exact ⟨_, this, E, h2, h1, rfl⟩
        obtain ⟨z, eM1, E, eM2, eM3, rfl⟩ := eM
        have hE : ∀ x j, x ≠ 208 → ¬ (x = 207 ∧ j = 0) → dI E x j = dI D2 x j := fun x j h1 h2 => by rw [eM2.i h1, dI_s, if_neg h2]
        have hUE : ∀ x y, x < nu → y < nu → (U E x y ↔ (U D x y ∨ (U D x a ∧ U D b y))) := fun x y hx hy => ⟨fun h => (eM3.2.1 x y hx hy).2 h, fun h => eM3.2.2 x y hx hy (Or.inl hx) h⟩
        have huE : ILu E := eM3.1
        have hbt : ∀ p, p < nu → ∀ c, c < 6 → bt (if bt (r p) a = 1 then r p ||| r b else r p) c = if c < nu then tv E p c else 0 := fun p hp c hc => by
          have t1 : bt (r p) a = tv D p a := by have := (r2 p hp).2 a (by omega); rw [if_pos ha] at this; exact this
          have g1 := (r2 p hp).2 c hc
          have g2 := (r2 b hb).2 c hc
          by_cases hcn : c < nu
          · rw [if_pos hcn] at g1 g2 ⊢
            have u1 := tv_1 hu (show 6 * p + c < 36 by omega)
            have u2 := tv_1 hu (show 6 * b + c < 36 by omega)
            have u3 := tv_1 hu (show 6 * p + a < 36 by omega)
            have u4 := tv_1 huE (show 6 * p + c < 36 by omega)
            have key := hUE p c hp hcn
            rw [← u1, ← u2, ← u3, ← u4] at key
            rw [t1]
            by_cases qa : tv D p a = 1
            · rw [if_pos qa, bt_lor _ (r1 p) _ (r1 b) c hc, g1, g2]
              by_cases qb : tv D p c = 1 ∨ tv D b c = 1
              · rw [if_pos qb, (key.mpr (by rcases qb with w | w; exact Or.inl w; exact Or.inr ⟨qa, w⟩))]
              · rw [if_neg qb]
                rcases tv_01 E p c with w | w
                · rw [w]
                · exact absurd (key.mp w) (by intro v; rcases v with v | v; exact qb (Or.inl v); exact qb (Or.inr v.2))
            · rw [if_neg qa, g1]
              rcases tv_01 E p c with w | w
              · rcases tv_01 D p c with v | v
                · rw [w, v]
                · rw [key.mpr (Or.inl v)] at w
                  exact absurd w (by decide)
              · rcases key.mp w with v | v
                · rw [w, v]
                · exact absurd v.1 qa
          · rw [if_neg hcn] at g1 g2 ⊢
            split
            · rw [bt_lor _ (r1 p) _ (r1 b) c hc, g1, g2]; rfl
            · exact g1
        have hsum : sm (fun c => sm (tv E c) nu 0) nu 0 = s := by
          rw [← hs]
          refine sm_eq nu 0 (fun p _ hp => ?_)
          show sm (tv E p) nu 0 = sm (bt (if bt (r p) a = 1 then r p ||| r b else r p)) 6 0
          rw [sm_cut n2 (fun c h1 h2 => by rw [hbt p (by omega) c h2, if_neg (by omega)])]
          exact sm_eq nu 0 (fun c _ hc => by rw [hbt p (by omega) c (by omega), if_pos (by omega)])
        rw [hsum] at eM1
        refine ⟨_, stp_ok eL eM1 ?_ (fun _ => ?_), ?_, ?_⟩
        · show dI E 207 0 = 0
          rw [eM2.i (by omega), dI_s, if_pos ⟨rfl, rfl⟩]
        · show dL E 262 (0 : Int32).toNatClampNeg = _
          rw [eM2.l (by omega), dL_sI, ← hD2]
          exact fin_b
        · refine Ch.tr ?_ (eM2.mono (fun x j h => Or.inr (Or.inr h)))
          rw [← hD2]
          exact Ch.sI (by unfold Pb Pr; omega) (Ch.sL (by unfold Pb Pr; omega) (p2.mono (fun x j h => Or.inr (Or.inl h))))
        · refine ⟨huE, fun p hp => ⟨_, hr' p, ?_, hbt p hp⟩, ⟨fun x hx => (hUE x x hx hx).mpr (Or.inl (ho1 x hx)), fun x y z hx hy hz h1 h2 => ?_⟩, fun h => ?_⟩
          · rw [hE 2 p (by omega) (by omega), ← hD2, dI_sL]; exact hrow p hp
          · rw [hUE x y hx hy] at h1
            rw [hUE y z hy hz] at h2
            rw [hUE x z hx hz]
            rcases h1 with h1 | h1 <;> rcases h2 with h2 | h2
            · exact Or.inl (ho2 x y z hx hy hz h1 h2)
            · exact Or.inr ⟨ho2 x y a hx hy ha h1 h2.1, h2.2⟩
            · exact Or.inr ⟨h1.1, ho2 b y z hb hy hz h1.2 h2⟩
            · exact Or.inr ⟨h1.1, h2.2⟩
          · rw [hE 207 5 (by omega) (by omega), hq _ _ (by omega), s2] at h
            exact absurd h (by decide)
      · have e5 : dI D 1 2 = 1 := s1.trans s2
        have eS : f_X2_isSealed D = some (1, D) := by rw [sealed_e (by rw [s1]; exact Or.inr s2), e5]
        refine rd (stp_not (r := 2) (by decide) ?_ ?_)
        · unfold f_L_below f_X11_below
          simp only [has_yes n2 ha d1, has_yes n2 hb d1, eS, bS, n10, reduceIte]
          rfl
        · unfold f_X12_below
          rw [q1, out_no (by omega) ha, bS]
          simp only [reduceIte]
          rw [q1, out_no (by omega) hb, bS]
          have q5 : ¬ dI (sI D 207 0 0) 207 5 = 0 := by rw [dI_s, if_neg (by omega), s2]; decide
          simp only [q5, reduceIte, e_X12_fail, bS]
          rfl
    · refine rd (stp_not (r := 1) (by decide) ?_ ?_)
      · unfold f_L_below f_X11_below f_X11_below_b22
        simp only [has_yes n2 ha d1, has_no n2 hb d1, bS, n10, reduceIte]
      · unfold f_X12_below f_X12_below_b29
        rw [q1, out_no (by omega) ha, bS]
        simp only [reduceIte]
        rw [q1, out_yes (by omega) hb, bS]
        simp only [n10, reduceIte, e_X12_fail, bS]
        rfl
  · refine rd (stp_not (r := 1) (by decide) ?_ ?_)
    · unfold f_L_below f_X11_below f_X11_below_b22
      simp only [has_no n2 hb d1, bS, reduceIte]
    · unfold f_X12_below f_X12_below_b29
      rw [q1, out_yes (by omega) hb, bS]
      simp only [n10, reduceIte, e_X12_fail, bS]
      rfl
