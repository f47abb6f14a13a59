/-! labels of the model: the rounds -/
def rM (M : Nat → Nat → Nat) (q u : Nat) (A : Nat → Nat) : Nat → Nat → Nat := fun a t => if a = q ∧ t < u then M a t ||| A t else M a t
theorem sp_row {N nu sz : Nat} {o : Nat → Nat} {x : Nat → Int32} {hv : Nat → Option Nat} {rg : Nat → Nat → Prop} {D0 : Dat} (hG : GC nu sz o x) (hS : LatS nu D0) {L : Nat → Nat} {M : Nat → Nat → Nat} {A : Nat → Nat} {i q u : Nat} {w : Int32} {m0 : Bool} {E : Dat} {Q : Int32 × Dat → Prop} (hqs : q < sz) (hu : hv q = some u) (hu30 : u ≤ 30) (rec : Int32 → Int32 → Int32 → Dat → Option (Int32 × Dat))
    (hrec : ∀ (m : Bool) (D' : Dat), MEn nu sz o x hv rg D0 D' → Ch (fun a _ => a = 250) E D' → SM nu sz D0 L (rM M q (26 + u) A) D' → AF nu D0 A D' → (m = true ↔ (m0 = true ∨ ∃ t, t < 26 + u ∧ ¬ M q t ||| A t = M q t)) → Tt (rec (nn i) (wi m) (w + 1) D') Q) :
    ∀ (j g k : Nat) (m : Bool) (D : Dat), k + j = 26 + u → j < g → MEn nu sz o x hv rg D0 D → Ch (fun a _ => a = 250) E D → SM nu sz D0 L (rM M q k A) D → AF nu D0 A D → (m = true ↔ (m0 = true ∨ ∃ t, t < k ∧ ¬ M q t ||| A t = M q t)) → Tt (f_X12_spread_b33 N rec g (nn i) (wi m) w (nn q) (nn k) D) Q := by
  have hz := hG.1.2
  intro j
  induction j with
  | zero =>
    intro g k m D hk hg hE hch hM hA hm
    obtain ⟨g, rfl⟩ : ∃ g', g = g' + 1 := ⟨g - 1, by omega⟩
    have i1 := nn_in (k := q) (n := 64) (by omega) (by omega)
    have e245 : dI D 245 (nn q).toNatClampNeg = nn u := by rw [nn_nat (by omega), hE.2.1 q (by omega), hu]; rfl
    have e26 : (26 : Int32) + nn u = nn (26 + u) := by rw [nn_l, nn_add]
    rw [f_X12_spread_b33, if_neg i1, e245, e26, if_pos ((nn_le (by omega) (by omega)).mpr (by omega))]
    unfold f_X12_spread_b115
    obtain rfl : k = 26 + u := by omega
    exact hrec m D hE hch hM hA hm
  | succ j ih =>
    intro g k m D hk hg hE hch hM hA hm
    obtain ⟨g, rfl⟩ : ∃ g', g = g' + 1 := ⟨g - 1, by omega⟩
    have i1 := nn_in (k := q) (n := 64) (by omega) (by omega)
    have e245 : dI D 245 (nn q).toNatClampNeg = nn u := by rw [nn_nat (by omega), hE.2.1 q (by omega), hu]; rfl
    have e26 : (26 : Int32) + nn u = nn (26 + u) := by rw [nn_l, nn_add]
    have i2 := nn_in (k := 56 * q + k) (n := 3584) (by omega) (by omega)
    have i3 := nn_in (k := k) (n := 56) (by omega) (by omega)
    have n2 : (nn (56 * q + k)).toNatClampNeg = 56 * q + k := nn_nat (by omega)
    have lq : lb nu D0 (dI D 250 (56 * q + k)) (M q k) := by
      have := (hM q hqs).2 k (by omega)
      unfold rM at this
      rw [if_neg (fun w => by omega)] at this
      exact this
    obtain ⟨z, z1, z2⟩ := lb_join hS hE lq (hA k (by omega))
    have same := lb_uniq hS z2 lq
    rw [f_X12_spread_b33, if_neg i1, e245, e26, if_neg (by rw [nn_le (by omega) (by omega)]; omega), m56, if_neg i2, if_neg i3, nn_nat (k := k) (by omega), n2, z1, bS]
    unfold f_X12_spread_b94
    dsimp only
    rw [m56, n2, nn_1]
    have i4 : ¬ (nn (56 * q + k) < 0 ∨ 3584 ≤ 56 * q + k) := by rw [n2] at i2; exact i2
    simp only [i4, reduceIte]
    have c1 : Ch (fun a _ => a = 250) D (sI D 250 (56 * q + k) z) := Ch.sI rfl Ch.rf
    have hE1 := hE.kept (c1.mono (fun a j w => by unfold PlM; omega))
    have hM1 : SM nu sz D0 L (rM M q (k + 1) A) (sI D 250 (56 * q + k) z) := fun t ht => ⟨by rw [c1.i (by omega)]; exact (hM t ht).1, fun y hy => by
      rw [dI_s]
      by_cases e : t = q ∧ y = k
      · rw [if_pos ⟨rfl, by omega⟩, e.1, e.2]
        unfold rM
        rw [if_pos ⟨rfl, by omega⟩]
        exact z2
      · rw [if_neg (fun w => e (by omega))]
        have := (hM t ht).2 y hy
        have er : rM M q (k + 1) A t y = rM M q k A t y := by
          unfold rM
          by_cases e2 : t = q ∧ y < k
          · rw [if_pos e2, if_pos ⟨e2.1, by omega⟩]
          · rw [if_neg e2, if_neg (fun w => e2 ⟨w.1, by have := w.2; by_cases y = k; exact absurd ⟨w.1, ‹y = k›⟩ e; omega⟩)]
        rw [er]; exact this⟩
    have hA1 : AF nu D0 A (sI D 250 (56 * q + k) z) := fun y hy => by rw [c1.i (by omega)]; exact hA y hy
    have go : ∀ m' : Bool, (m' = true ↔ (m = true ∨ ¬ M q k ||| A k = M q k)) → Tt (f_X12_spread_b33 N rec g (nn i) (wi m') w (nn q) (nn (k + 1)) (sI D 250 (56 * q + k) z)) Q := fun m' hm' => by
      refine ih g (k + 1) m' _ (by omega) (by omega) hE1 (hch.tr c1) hM1 hA1 ?_
      rw [hm', hm]
      constructor
      · intro v
        rcases v with (v | ⟨t, t1, t2⟩) | v
        · exact Or.inl v
        · exact Or.inr ⟨t, by omega, t2⟩
        · exact Or.inr ⟨k, by omega, v⟩
      · intro v
        rcases v with v | ⟨t, t1, t2⟩
        · exact Or.inl (Or.inl v)
        · by_cases e : t = k
          · rw [e] at t2; exact Or.inr t2
          · exact Or.inl (Or.inr ⟨t, by omega, t2⟩)
    by_cases c : z = dI D 250 (56 * q + k)
    · rw [if_pos c]
      have e := same.mp c
      exact go m ⟨fun v => Or.inl v, fun v => by rcases v with v | v; exact v; exact absurd e v⟩
    · rw [if_neg c]
      exact go true ⟨fun _ => Or.inr (fun v => c (same.mpr v)), fun _ => rfl⟩
/-- levels -/
def lvQ (R : Nat → Bool) (s : Nat) (L : Nat → Nat) (q t : Nat) : Nat := if t < q ∧ R t = true then L t ||| s else L t
def lvA (R : Nat → Bool) (s : Nat) (L : Nat → Nat) (t : Nat) : Nat := if R t = true then L t ||| s else L t
theorem sp_lev {N nu sz : Nat} {o : Nat → Nat} {x : Nat → Int32} {hv : Nat → Option Nat} {rg : Nat → Nat → Prop} {D0 : Dat} (hG : GC nu sz o x) (hS : LatS nu D0) {L : Nat → Nat} {M : Nat → Nat → Nat} {i s : Nat} {up : Int32} {m0 : Bool} (hi : i < sz) (hup : lb nu D0 up s) (R : Nat → Bool) {E : Dat} (hR : ∀ t, t < sz → (dI E 248 (64 * i + t) = 0 ↔ R t = false)) : ∀ (j g q : Nat) (m : Bool) (D : Dat), q + j = sz → j < g → MEn nu sz o x hv rg D0 D → Ch (fun a _ => a = 249) E D → SM nu sz D0 (lvQ R s L q) M D → (m = true ↔ (m0 = true ∨ ∃ t, t < q ∧ R t = true ∧ ¬ L t ||| s = L t)) → Tt (f_X12_spread_b153 N g (nn i) (wi m) up (nn q) D) (fun r => ∃ m' : Bool, r.1 = wi m' ∧ MEn nu sz o x hv rg D0 r.2 ∧ Ch (fun a _ => a = 249) E r.2 ∧ SM nu sz D0 (lvA R s L) M r.2 ∧ (m' = true ↔ (m0 = true ∨ ∃ t, t < sz ∧ R t = true ∧ ¬ L t ||| s = L t))) := by
  have hz := hG.1.2
  intro j
  induction j with
  | zero =>
    intro g q m D hq hg hE hch hM hm
    obtain ⟨g, rfl⟩ : ∃ g', g = g' + 1 := ⟨g - 1, by omega⟩
    rw [f_X12_spread_b153, hE.1.2.1, if_pos ((nn_le (by omega) (by omega)).mpr (by omega)), if_pos (by cases m <;> decide)]
    refine ⟨_, rfl, m, rfl, hE, hch, fun t ht => ⟨?_, (hM t ht).2⟩, by rw [show sz = q by omega]; exact hm⟩
    have := (hM t ht).1
    unfold lvQ at this
    unfold lvA
    by_cases c : R t = true
    · rw [if_pos ⟨by omega, c⟩] at this
      rw [if_pos c]; exact this
    · rw [if_neg (fun w => c w.2)] at this
      rw [if_neg c]; exact this
  | succ j ih =>
    intro g q m D hq hg hE hch hM hm
    obtain ⟨g, rfl⟩ : ∃ g', g = g' + 1 := ⟨g - 1, by omega⟩
    have hq' : q < sz := by omega
    have i1 := nn_in (k := q) (n := 64) (by omega) (by omega)
    have n1 : (nn q).toNatClampNeg = q := nn_nat (by omega)
    have i3 : ¬ (nn q < 0 ∨ 64 ≤ q) := by rw [n1] at i1; exact i1
    have i2 := nn_in (k := 64 * i + q) (n := 4096) (by omega) (by omega)
    have e64 : (64 : Int32) * nn i + nn q = nn (64 * i + q) := by rw [nn_l, nn_mul, nn_add]
    have e248 : dI D 248 (64 * i + q) = dI E 248 (64 * i + q) := hch.i (by omega)
    have lq : lb nu D0 (dI D 249 q) (L q) := by
      have := (hM q hq').1
      unfold lvQ at this
      rw [if_neg (fun w => by omega)] at this
      exact this
    obtain ⟨z, z1, z2⟩ := lb_join hS hE lq hup
    have same := lb_uniq hS z2 lq
    rw [f_X12_spread_b153, hE.1.2.1, if_neg (by rw [nn_le (by omega) (by omega)]; omega), e64, if_neg i2, nn_nat (k := 64 * i + q) (by omega), e248]
    unfold f_X12_spread_b223
    simp only [n1, i3, reduceIte, z1, bS, nn_1]
    have skip : ¬ (R q = true ∧ ¬ L q ||| s = L q) → Tt (f_X12_spread_b153 N g (nn i) (wi m) up (nn (q + 1)) D) (fun r => ∃ m' : Bool, r.1 = wi m' ∧ MEn nu sz o x hv rg D0 r.2 ∧ Ch (fun a _ => a = 249) E r.2 ∧ SM nu sz D0 (lvA R s L) M r.2 ∧ (m' = true ↔ (m0 = true ∨ ∃ t, t < sz ∧ R t = true ∧ ¬ L t ||| s = L t))) := fun c => by
      refine ih g (q + 1) m D (by omega) (by omega) hE hch (fun t ht => ⟨?_, (hM t ht).2⟩) ?_
      · have := (hM t ht).1
        unfold lvQ at this ⊢
        by_cases e : t = q
        · rw [if_neg (fun w => by omega)] at this
          by_cases r : R t = true
          · rw [if_pos ⟨by omega, r⟩]
            rw [e] at r this ⊢
            rw [Classical.not_not.mp (fun w => c ⟨r, w⟩)]; exact this
          · rw [if_neg (fun w => r w.2)]; exact this
        · by_cases e2 : t < q ∧ R t = true
          · rw [if_pos e2] at this
            rw [if_pos ⟨by omega, e2.2⟩]; exact this
          · rw [if_neg e2] at this
            rw [if_neg (fun w => e2 ⟨by omega, w.2⟩)]; exact this
      · rw [hm]
        constructor
        · intro v
          rcases v with v | ⟨t, t1, t2⟩
          · exact Or.inl v
          · exact Or.inr ⟨t, by omega, t2⟩
        · intro v
          rcases v with v | ⟨t, t1, t2⟩
          · exact Or.inl v
          · by_cases e : t = q
            · rw [e] at t2; exact absurd t2 c
            · exact Or.inr ⟨t, by omega, t2⟩
    by_cases r0 : dI E 248 (64 * i + q) = 0
    · rw [if_pos r0]
      exact skip (fun w => by rw [(hR q hq').mp r0] at w; exact absurd w.1 (by decide))
    · rw [if_neg r0]
      have rq : R q = true := by
        cases e : R q with
        | true => rfl
        | false => exact absurd ((hR q hq').mpr e) r0
      by_cases c : z = dI D 249 q
      · rw [if_pos c]
        exact skip (fun w => w.2 (same.mp c))
      · rw [if_neg c]
        have c1 : Ch (fun a _ => a = 249) D (sI D 249 q z) := Ch.sI rfl Ch.rf
        refine ih g (q + 1) true _ (by omega) (by omega) (hE.kept (c1.mono (fun a j w => by unfold PlM; omega))) (hch.tr c1) (fun t ht => ⟨?_, fun k hk => by rw [c1.i (by omega)]; exact (hM t ht).2 k hk⟩) ⟨fun _ => Or.inr ⟨q, by omega, rq, fun w => c (same.mpr w)⟩, fun _ => rfl⟩
        rw [dI_s]
        have := (hM t ht).1
        unfold lvQ at this ⊢
        by_cases e : t = q
        · rw [if_pos ⟨rfl, e⟩, if_pos ⟨by omega, by rw [e]; exact rq⟩, e]; exact z2
        · rw [if_neg (fun w => e w.2)]
          by_cases e2 : t < q ∧ R t = true
          · rw [if_pos e2] at this
            rw [if_pos ⟨by omega, e2.2⟩]; exact this
          · rw [if_neg e2] at this
            rw [if_neg (fun w => e2 ⟨by omega, w.2⟩)]; exact this
/-- one instruction of the model -/
theorem e_spread {N nu sz : Nat} {o : Nat → Nat} {x : Nat → Int32} {hv : Nat → Option Nat} {rg : Nat → Nat → Prop} {D0 D : Dat} {L : Nat → Nat} {M : Nat → Nat → Nat} (hN : 1000 ≤ N) (hG : GC nu sz o x) (hS : LatS nu D0) (hmk : ∀ v, v < 52 → mkOk nu (dI D0 190 v)) (hV : HV o x sz hv) (hE : MEn nu sz o x hv rg D0 D) (hM : SM nu sz D0 L M D) {i h : Nat} (hh : hv i = some h) :
    Tt (f_X12_spread N (nn i) D) (fun r => ∃ (fl : Bool) (L' : Nat → Nat), r.1 = wi fl ∧ MEn nu sz o x hv rg D0 r.2 ∧ Ch PlM D r.2 ∧ SM nu sz D0 L' (goM o x hv (evD nu D0) L M i) r.2 ∧ (∀ t, t < sz → ((o i = 11 ∧ rg i t) → L' t = L t ||| dS o hv L (goM o x hv (evD nu D0) L M i) i) ∧ (¬ (o i = 11 ∧ rg i t) → L' t = L t)) ∧ (fl = true ↔ ∃ t, t < sz ∧ (¬ L' t = L t ∨ ∃ k, k < 56 ∧ ¬ goM o x hv (evD nu D0) L M i t k = M t k))) := by
  have hz := hG.1.2
  obtain ⟨hi, hb, -, h', l1, l2, l3, l4, l5⟩ := hV.2 i h hh
  have eh' : h' = h := by rw [hh] at l1; exact (Option.some.inj l1).symm
  subst eh'
  have eg : (hv i).getD 0 = h' := by rw [hh]; rfl
  have en : nh o hv i = h' - tk (o i) + pu (o i) := by unfold nh; rw [eg]
  have ho := hG.2.1 i
  have i1 := nn_in (k := i) (n := 64) (by omega) (by omega)
  have n1 : (nn i).toNatClampNeg = i := nn_nat (by omega)
  have i2 : ¬ (nn i < 0 ∨ 64 ≤ i) := by rw [n1] at i1; exact i1
  unfold f_X12_spread
  refine Tt_call (e_behindOf hN hG hS hmk hE hM hi hh hb l2 l3) (fun D1 ⟨c1, hA⟩ => ?_)
  have hE1 : MEn nu sz o x hv rg D0 D1 := hE.kept (c1.mono (fun a j w => by unfold PlM; omega))
  have hM1 : SM nu sz D0 L M D1 := fun t ht => ⟨by rw [c1.i (by omega)]; exact (hM t ht).1, fun k hk => by rw [c1.i (by omega)]; exact (hM t ht).2 k hk⟩
  generalize hAf : afS o x hv (evD nu D0) L M i = A at hA
  obtain ⟨g, rfl⟩ : ∃ g', N = g' + 3 := ⟨N - 3, by omega⟩
  -- behind both ways
  have s2 : ∀ (m : Bool) (E : Dat), MEn nu sz o x hv rg D0 E → Ch PlM D E → SM nu sz D0 L (goM o x hv (evD nu D0) L M i) E → (m = true ↔ ∃ t, t < sz ∧ ∃ k, k < 56 ∧ ¬ goM o x hv (evD nu D0) L M i t k = M t k) → Tt (f_X12_spread_b9 (g + 3) (g + 1) (nn i) (wi m) 2 E) (fun r => ∃ (fl : Bool) (L' : Nat → Nat), r.1 = wi fl ∧ MEn nu sz o x hv rg D0 r.2 ∧ Ch PlM D r.2 ∧ SM nu sz D0 L' (goM o x hv (evD nu D0) L M i) r.2 ∧ (∀ t, t < sz → ((o i = 11 ∧ rg i t) → L' t = L t ||| dS o hv L (goM o x hv (evD nu D0) L M i) i) ∧ (¬ (o i = 11 ∧ rg i t) → L' t = L t)) ∧ (fl = true ↔ ∃ t, t < sz ∧ (¬ L' t = L t ∨ ∃ k, k < 56 ∧ ¬ goM o x hv (evD nu D0) L M i t k = M t k))) := by
    intro m E hEE cE hME hm
    have e212 : dI E 212 i = nn (o i) := (hEE.1.2.2 i hi).1
    rw [f_X12_spread_b9, if_pos (by decide)]
    simp only [n1, i2, reduceIte]
    rw [e212]
    by_cases c11 : o i = 11
    · rw [if_pos (show nn (o i) = (11 : Int32) by rw [c11]; rfl)]
      obtain ⟨zt, a1, a2⟩ := e_mtaken (N := g + 3) hN hG hS hEE hME hi hh hb l2
      obtain ⟨zd, b1, b2⟩ := lb_join hS hEE (hME i hi).1 a2
      have edS : dS o hv L (goM o x hv (evD nu D0) L M i) i = L i ||| tS (goM o x hv (evD nu D0) L M i) i h' (tk (o i)) := by unfold dS; rw [eg]
      rw [← edS] at b2
      rw [a1, bS]
      dsimp only
      rw [b1, bS]
      have hrg : ∀ t, t < sz → (dI E 248 (64 * i + t) = 0 ↔ ¬ rg i t) := fun t ht => hEE.2.2.2.1 i hi c11 (by rw [hh]; simp) t ht
      refine Tt_mono (sp_lev (N := g + 3) (m0 := m) (L := L) (M := goM o x hv (evD nu D0) L M i) hG hS hi b2 (fun t => decide (¬ dI E 248 (64 * i + t) = 0)) (E := E) (fun t ht => by
        by_cases e : dI E 248 (64 * i + t) = 0
        · exact ⟨fun _ => decide_eq_false (fun w => w e), fun _ => e⟩
        · exact ⟨fun w => absurd w e, fun w => absurd (of_decide_eq_false w) (fun v => v e)⟩) sz (g + 3) 0 m E (by omega) (by omega) hEE Ch.rf (fun t ht => ⟨by unfold lvQ; rw [if_neg (fun w => by omega)]; exact (hME t ht).1, (hME t ht).2⟩) ⟨fun v => Or.inl v, fun v => by rcases v with v | ⟨t, t1, -⟩; exact v; omega⟩) (fun r ⟨fl, f1, f2, f3, f4, f5⟩ => ?_)
      have dec : ∀ t, t < sz → (decide (¬ dI E 248 (64 * i + t) = 0) = true ↔ rg i t) := fun t ht => by
        rw [decide_eq_true_iff, hrg t ht, Classical.not_not]
      refine ⟨fl, _, f1, f2, cE.tr (f3.mono (fun a j w => by unfold PlM; omega)), f4, fun t ht => ⟨fun v => by unfold lvA; rw [if_pos ((dec t ht).mpr v.2)], fun v => by unfold lvA; rw [if_neg (fun w => v ⟨c11, (dec t ht).mp w⟩)]⟩, ?_⟩
      rw [f5, hm]
      constructor
      · intro v
        rcases v with ⟨t, t1, t2⟩ | ⟨t, t1, t2, t3⟩
        · exact ⟨t, t1, Or.inr t2⟩
        · exact ⟨t, t1, Or.inl (by unfold lvA; rw [if_pos t2]; exact t3)⟩
      · intro ⟨t, t1, v⟩
        rcases v with v | v
        · unfold lvA at v
          by_cases e : decide (¬ dI E 248 (64 * i + t) = 0) = true
          · rw [if_pos e] at v; exact Or.inr ⟨t, t1, e, v⟩
          · rw [if_neg e] at v; exact absurd rfl v
        · exact Or.inl ⟨t, t1, v⟩
    · rw [if_neg (show ¬ nn (o i) = (11 : Int32) from ne_op (b := 11) (by omega) (by omega) c11), if_pos (by cases m <;> decide)]
      refine ⟨_, rfl, m, L, rfl, hEE, cE, hME, fun t ht => ⟨fun v => absurd v.1 c11, fun _ => rfl⟩, ?_⟩
      rw [hm]
      exact ⟨fun ⟨t, t1, t2⟩ => ⟨t, t1, Or.inr t2⟩, fun ⟨t, t1, t2⟩ => ⟨t, t1, by rcases t2 with t2 | t2; exact absurd rfl t2; exact t2⟩⟩
  -- the second way
  have s1 : ∀ (m : Bool) (M1 : Nat → Nat → Nat) (E : Dat), MEn nu sz o x hv rg D0 E → Ch PlM D E → SM nu sz D0 L M1 E → AF nu D0 A E → (∀ t k, M1 t k = if (o i ≠ 12 ∧ o i ≠ 15 ∧ t = i + 1) ∧ k < 26 + nh o hv i then M t k ||| A k else M t k) → (m = true ↔ ∃ t, t < sz ∧ ∃ k, k < 56 ∧ ¬ M1 t k = M t k) → Tt (f_X12_spread_b9 (g + 3) (g + 2) (nn i) (wi m) 1 E) (fun r => ∃ (fl : Bool) (L' : Nat → Nat), r.1 = wi fl ∧ MEn nu sz o x hv rg D0 r.2 ∧ Ch PlM D r.2 ∧ SM nu sz D0 L' (goM o x hv (evD nu D0) L M i) r.2 ∧ (∀ t, t < sz → ((o i = 11 ∧ rg i t) → L' t = L t ||| dS o hv L (goM o x hv (evD nu D0) L M i) i) ∧ (¬ (o i = 11 ∧ rg i t) → L' t = L t)) ∧ (fl = true ↔ ∃ t, t < sz ∧ (¬ L' t = L t ∨ ∃ k, k < 56 ∧ ¬ goM o x hv (evD nu D0) L M i t k = M t k))) := by
    intro m M1 E hEE cE hME hAE hM1' hm
    have gS : ∀ t, t < 64 → ∀ k, goM o x hv (evD nu D0) L M i t k = if isn o x i t = true ∧ k < 26 + nh o hv i then M t k ||| A k else M t k := fun t ht k => by
      unfold goM
      rw [hAf]
      by_cases c : mm (nSs o x i) t = true ∧ k < 26 + nh o hv i
      · rw [if_pos c, if_pos ⟨isn_iff.mpr ((mm_nS hG hi ht).mp c.1), c.2⟩]
      · rw [if_neg c, if_neg (fun w => c ⟨(mm_nS hG hi ht).mpr (isn_iff.mp w.1), w.2⟩)]
    rw [f_X12_spread_b9, if_neg (by decide), e_next1 hG hEE.1 hi, bS]
    by_cases c : o i = 11 ∨ o i = 12
    · have t := hG.tgt hi c
      simp only [c, reduceIte]
      rw [if_pos (show (0 : Int32) ≤ nn (tg (x i)) by rw [nn_l, nn_le (by omega) (by omega)]; exact Nat.zero_le _)]
      have hq := l5 (tg (x i)) (Or.inr ⟨c, rfl⟩)
      rw [← en] at hq
      refine sp_row (N := g + 3) (m0 := m) (L := L) (M := M1) (A := A) (E := E) (w := 1) hG hS t.1 hq (by omega) _ (fun m' D' a1 a2 a3 a4 a5 => ?_) (26 + nh o hv i) (g + 3) 0 m E (by omega) (by omega) hEE Ch.rf (fun y hy => ⟨(hME y hy).1, fun k hk => by unfold rM; rw [if_neg (fun w => by omega)]; exact (hME y hy).2 k hk⟩) hAE ⟨fun v => Or.inl v, fun v => by rcases v with v | ⟨y, y1, -⟩; exact v; omega⟩
      rw [show (1 : Int32) + 1 = 2 by decide]
      have eM : ∀ y, y < 64 → ∀ k, rM M1 (tg (x i)) (26 + nh o hv i) A y k = goM o x hv (evD nu D0) L M i y k := fun y hy k => by
        rw [gS y hy k]
        unfold rM
        rw [hM1' y k]
        by_cases e0 : k < 26 + nh o hv i
        · by_cases e1 : y = tg (x i)
          · rw [if_pos ⟨e1, e0⟩, if_pos (c := isn o x i y = true ∧ k < 26 + nh o hv i) ⟨isn_iff.mpr (Or.inr ⟨c, e1⟩), e0⟩]
            by_cases e2 : (o i ≠ 12 ∧ o i ≠ 15 ∧ y = i + 1) ∧ k < 26 + nh o hv i
            · rw [if_pos e2, Nat.or_assoc, Nat.or_self]
            · rw [if_neg e2]
          · rw [if_neg (c := y = tg (x i) ∧ k < 26 + nh o hv i) (fun w => e1 w.1)]
            by_cases e2 : (o i ≠ 12 ∧ o i ≠ 15 ∧ y = i + 1) ∧ k < 26 + nh o hv i
            · rw [if_pos e2, if_pos ⟨isn_iff.mpr (Or.inl e2.1), e0⟩]
            · rw [if_neg e2, if_neg (fun w => by rcases isn_iff.mp w.1 with v | v; exact e2 ⟨v, e0⟩; exact e1 v.2)]
        · rw [if_neg (c := y = tg (x i) ∧ k < 26 + nh o hv i) (fun w => e0 w.2), if_neg (fun w => e0 w.2), if_neg (fun w => e0 w.2)]
      refine s2 m' D' a1 (cE.tr (a2.mono (fun a j w => by unfold PlM; omega))) (fun y hy => ⟨(a3 y hy).1, fun k hk => by rw [← eM y (by omega) k]; exact (a3 y hy).2 k hk⟩) ?_
      rw [a5, hm]
      constructor
      · intro v
        rcases v with ⟨y, y1, k, k1, k2⟩ | ⟨k, k1, k2⟩
        · refine ⟨y, y1, k, k1, fun w => k2 ?_⟩
          rw [gS y (by omega) k] at w
          rw [hM1' y k] at k2 ⊢
          by_cases e2 : (o i ≠ 12 ∧ o i ≠ 15 ∧ y = i + 1) ∧ k < 26 + nh o hv i
          · rw [if_pos ⟨isn_iff.mpr (Or.inl e2.1), e2.2⟩] at w
            rw [if_pos e2]; exact w
          · rw [if_neg e2]
        · refine ⟨tg (x i), t.1, k, by omega, fun w => k2 ?_⟩
          have e := eM (tg (x i)) (by omega) k
          unfold rM at e
          rw [if_pos ⟨rfl, k1⟩] at e
          rw [e, w, hM1' (tg (x i)) k]
          by_cases e2 : (o i ≠ 12 ∧ o i ≠ 15 ∧ tg (x i) = i + 1) ∧ k < 26 + nh o hv i
          · rw [if_pos e2]
            rw [gS (tg (x i)) (by omega) k, if_pos ⟨isn_iff.mpr (Or.inr ⟨c, rfl⟩), k1⟩] at w
            exact w.symm
          · rw [if_neg e2]
      · intro ⟨y, y1, k, k1, k2⟩
        by_cases e : M1 y k = M y k
        · refine Or.inr ?_
          have eq := eM y (by omega) k
          rw [← eq] at k2
          unfold rM at k2
          by_cases e1 : y = tg (x i) ∧ k < 26 + nh o hv i
          · rw [if_pos e1, e1.1] at k2
            refine ⟨k, e1.2, fun w => k2 ?_⟩
            rw [w, ← e1.1]; exact e
          · rw [if_neg e1] at k2; exact absurd e k2
        · exact Or.inl ⟨y, y1, k, k1, e⟩
    · simp only [c, reduceIte]
      rw [if_neg (by decide)]
      unfold f_X12_spread_b115
      rw [show (1 : Int32) + 1 = 2 by decide]
      have eM : ∀ y, y < 64 → ∀ k, M1 y k = goM o x hv (evD nu D0) L M i y k := fun y hy k => by
        rw [gS y hy k, hM1' y k]
        by_cases e2 : (o i ≠ 12 ∧ o i ≠ 15 ∧ y = i + 1) ∧ k < 26 + nh o hv i
        · rw [if_pos e2, if_pos ⟨isn_iff.mpr (Or.inl e2.1), e2.2⟩]
        · rw [if_neg e2, if_neg (fun w => by rcases isn_iff.mp w.1 with v | v; exact e2 ⟨v, w.2⟩; exact c v.1)]
      refine s2 m E hEE cE (fun y hy => ⟨(hME y hy).1, fun k hk => by rw [← eM y (by omega) k]; exact (hME y hy).2 k hk⟩) ?_
      rw [hm]
      exact ⟨fun ⟨y, y1, k, k1, k2⟩ => ⟨y, y1, k, k1, by rw [← eM y (by omega) k]; exact k2⟩, fun ⟨y, y1, k, k1, k2⟩ => ⟨y, y1, k, k1, by rw [eM y (by omega) k]; exact k2⟩⟩
  -- the first way
  rw [f_X12_spread_b9, if_neg (by decide), e_next0 hG hE1.1 hi, bS]
  have cD1 : Ch PlM D D1 := c1.mono (fun a j w => by unfold PlM; omega)
  by_cases c : o i ≠ 12 ∧ o i ≠ 15
  · have t := hG.nxt hi c
    rw [if_pos c]
    dsimp only
    rw [if_pos (show (0 : Int32) ≤ nn (i + 1) by rw [nn_l, nn_le (by omega) (by omega)]; exact Nat.zero_le _)]
    have hq := l5 (i + 1) (Or.inl ⟨c.1, c.2, rfl⟩)
    rw [← en] at hq
    refine sp_row (N := g + 3) (m0 := false) (L := L) (M := M) (A := A) (E := D1) (w := 0) hG hS t hq (by omega) _ (fun m' D' a1 a2 a3 a4 a5 => ?_) (26 + nh o hv i) (g + 3) 0 false D1 (by omega) (by omega) hE1 Ch.rf (fun y hy => ⟨(hM1 y hy).1, fun k hk => by unfold rM; rw [if_neg (fun w => by omega)]; exact (hM1 y hy).2 k hk⟩) hA ⟨fun v => Or.inl v, fun v => by rcases v with v | ⟨y, y1, -⟩; exact v; omega⟩
    rw [show (0 : Int32) + 1 = 1 by decide]
    refine s1 m' _ D' a1 (cD1.tr (a2.mono (fun a j w => by unfold PlM; omega))) a3 a4 (fun y k => ?_) ?_
    · unfold rM
      by_cases e : y = i + 1 ∧ k < 26 + nh o hv i
      · rw [if_pos e, if_pos ⟨⟨c.1, c.2, e.1⟩, e.2⟩]
      · rw [if_neg e, if_neg (fun w => e ⟨w.1.2.2, w.2⟩)]
    · rw [a5]
      constructor
      · intro v
        rcases v with v | ⟨k, k1, k2⟩
        · exact absurd v (by decide)
        · exact ⟨i + 1, t, k, by omega, by unfold rM; rw [if_pos ⟨rfl, k1⟩]; exact k2⟩
      · intro ⟨y, y1, k, k1, k2⟩
        unfold rM at k2
        by_cases e : y = i + 1 ∧ k < 26 + nh o hv i
        · rw [if_pos e, e.1] at k2; exact Or.inr ⟨k, e.2, k2⟩
        · rw [if_neg e] at k2; exact absurd rfl k2
  · rw [if_neg c]
    dsimp only
    rw [if_neg (by decide)]
    unfold f_X12_spread_b115
    rw [show (0 : Int32) + 1 = 1 by decide]
    refine s1 false M D1 hE1 cD1 hM1 hA (fun y k => ?_) ⟨fun v => absurd v (by decide), fun ⟨y, y1, k, k1, k2⟩ => absurd rfl k2⟩
    rw [if_neg (fun w => c ⟨w.1.1, w.1.2.1⟩)]
