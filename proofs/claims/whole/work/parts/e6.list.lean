/-! lists of statements -/
/-- what a finished statement rests on, unchanged -/
def Kp (P nb h j bz ez : Nat) (C M C' M' : Dat) : Prop := (∀ i k, i < j → k ≠ 9 → dI C' (nb + i) k = dI C (nb + i) k) ∧ (∀ i k, i < j → k ≠ 9 → dR C' (nb + i) k = dR C (nb + i) k) ∧ (∀ x, dR C' (P + 1) x = dR C (P + 1) x) ∧ (∀ i, i < bz → dI C' (P + 3) i = dI C (P + 3) i ∧ dI C' (P + 4) i = dI C (P + 4) i) ∧ (∀ k, 260 * h ≤ k → k < ez → dI M' 225 k = dI M 225 k ∧ dI M' 226 k = dI M 226 k) ∧ ∀ x, x < 26 → (dI M 229 x = 1 → dI M' 229 x = 1) ∧ (dI M 229 x = 2 → dI M' 229 x = 2) ∧ (dI M 229 x = 3 → dI M' 229 x = 3) ∧ (dI M 229 x = 5 → dI M' 229 x = 5)
theorem Ex.kp {P nb h j bz ez fr n e : Nat} {C M C' M' : Dat} (hk : Kp P nb h j bz ez C M C' M') (hx : Ex P C M fr n e) (h1 : fr + n ≤ bz) (h2 : 260 * h ≤ e) (h3 : e + n < ez) : Ex P C' M' fr n e := hx.kept (fun i _ hi => hk.2.2.2.1 i (by omega)) (fun k h1 h2 => hk.2.2.2.2.1 k (by omega) (by omega)) (fun x hx hx3 => (hk.2.2.2.2.2 x hx).2.2.1 hx3)
theorem FsV.kp {P nb h j bz ez i m : Nat} {C M C' M' : Dat} (hk : Kp P nb h j bz ez C M C' M') (hi : i < j) (hm : dI M' 218 m = dI M 218 m) (hx : FsV C M (nb + i) m) : FsV C' M' (nb + i) m := by
  obtain ⟨x, x1, x2, x3, x4⟩ := hx
  refine ⟨x, x1, by rw [hk.1 i 2 hi (by omega)]; exact x2, by rw [hm]; exact x3, ?_⟩
  rcases x4 with q | q
  · exact Or.inl ((hk.2.2.2.2.2 x x1).1 q)
  · exact Or.inr ((hk.2.2.2.2.2 x x1).2.1 q)
theorem FsE.kp {P nb h j bz ez bz' ez' i es : Nat} {C M C' M' : Dat} (hk : Kp P nb h j bz ez C M C' M') (hi : i < j) (hb : bz ≤ bz' ∧ ez ≤ ez') (hx : FsE P h bz ez C M (nb + i) es) : FsE P h bz' ez' C' M' (nb + i) es := by
  obtain ⟨fr, n, h1, h2, h3, h4, h5, h6, h7⟩ := hx
  refine ⟨fr, n, by rw [hk.1 i 4 hi (by omega)]; exact h1, by rw [hk.1 i 5 hi (by omega)]; exact h2, by omega, h4, by omega, h6.kp hk h3 h4 h5, ?_⟩
  rw [zx_h_eq (C := C) _ _ _ (fun q _ hq => (hk.2.2.2.1 q (by omega)).1)]
  exact h7
theorem Fs.kp {nu P nb h j cnt cnt' bz ez bz' ez' i : Nat} {C M C' M' : Dat} (hk : Kp P nb h j bz ez C M C' M') (hi : i < j) (hc : cnt ≤ cnt') (hb : bz ≤ bz' ∧ ez ≤ ez') (hm : ∀ a, 216 ≤ a → a ≤ 223 → dI M' a (64 * h + i) = dI M a (64 * h + i)) (hx : Fs nu P nb h cnt bz ez C M i) : Fs nu P nb h cnt' bz' ez' C' M' i := by
  obtain ⟨⟨pl, p1, p2, p3⟩, hB⟩ := hx
  refine ⟨⟨pl, p1, by rw [hk.1 i 1 hi (by omega)]; exact p2, by rw [hm 217 (by omega) (by omega)]; exact p3⟩, ?_⟩
  have ci : ∀ k, k ≠ 9 → dI C' (nb + i) k = dI C (nb + i) k := fun k h9 => hk.1 i k hi h9
  have cr : ∀ k, k ≠ 9 → dR C' (nb + i) k = dR C (nb + i) k := fun k hk' => hk.2.1 i k hi hk'
  unfold FsB at hB ⊢
  rw [ci 0 (by omega), ci 2 (by omega), ci 3 (by omega), ci 4 (by omega), ci 5 (by omega), ci 8 (by omega), cr 6 (by omega), cr 7 (by omega), hm 216 (by omega) (by omega), hm 218 (by omega) (by omega), hm 219 (by omega) (by omega), hm 220 (by omega) (by omega), hm 221 (by omega) (by omega), hm 222 (by omega) (by omega), hm 223 (by omega) (by omega)]
  rcases hB with ⟨a1, a2, a3, e, a4, a5⟩ | ⟨a1, a2, ⟨x, x1, x2, x3, x4⟩, fr, n1, n2, e1, e2, ⟨b1, b2, b3⟩, ⟨b4, b5, b6, b7, b8, b9⟩, b10, b11, b12, b13⟩ | ⟨a1, a2, a3, a4, fr, a5, a6, a7⟩ | ⟨a1, a2, a3, e, a4, a5⟩ | ⟨a1, a2, ⟨e, a3, a4⟩, a5, a6⟩ | ⟨a1, a2, ⟨e, a3, a4⟩, a5⟩ | ⟨a1, a2, x, x1, x2, x3, x4⟩
  · exact Or.inl ⟨a1, a2, a3.kp hk hi (hm 218 (by omega) (by omega)), e, a4, a5.kp hk hi hb⟩
  · refine Or.inr (Or.inl ⟨a1, a2, ⟨x, x1, x2, x3, (hk.2.2.2.2.2 x x1).2.2.1 x4⟩, fr, n1, n2, e1, e2, ⟨b1, b2, by omega⟩, ⟨b4, b5, b6, by omega, b8, by omega⟩, b10.kp hk (by omega) b6 b7, b11.kp hk (by omega) b8 b9, ?_, ?_⟩)
    · rw [zx_h_eq (C := C) _ _ _ (fun q _ hq => (hk.2.2.2.1 q (by omega)).1)]; exact b12
    · exact ⟨by rw [zx_h_eq (C := C) _ _ _ (fun q _ hq => (hk.2.2.2.1 q (by omega)).1)]; exact b13.1, by rw [zx_h_eq (C := C) _ _ _ (fun q _ hq => (hk.2.2.2.1 q (by omega)).1)]; exact b13.2⟩
  · exact Or.inr (Or.inr (Or.inl ⟨a1, a2, a3.kp hk hi (hm 218 (by omega) (by omega)), a4, fr, by omega, a6, a7⟩))
  · exact Or.inr (Or.inr (Or.inr (Or.inl ⟨a1, a2, a3, e, a4, a5.kp hk hi hb⟩)))
  · refine Or.inr (Or.inr (Or.inr (Or.inr (Or.inl ⟨a1, a2, ⟨e, a3, a4.kp hk hi hb⟩, a5.mono hc, ?_⟩))))
    rcases a6 with q | ⟨q1, q2, q3⟩
    · exact Or.inl q
    · exact Or.inr ⟨q1, q2, q3.mono hc⟩
  · exact Or.inr (Or.inr (Or.inr (Or.inr (Or.inr (Or.inl ⟨a1, a2, ⟨e, a3, a4.kp hk hi hb⟩, a5.mono hc⟩)))))
  · exact Or.inr (Or.inr (Or.inr (Or.inr (Or.inr (Or.inr ⟨a1, a2, x, x1, x2, x3, (hk.2.2.2.2.2 x x1).2.2.2 x4⟩)))))
theorem Wq.kp {P nb h j bz ez jE i X X' : Nat} {W W' : Nat → Nat} {C M C' M' : Dat} (hk : Kp P nb h j bz ez C M C' M') (hi : i < j) (hX : X ≤ X') (hW1 : ∀ i', i < i' → (dR C (nb + i) 6 = some (nb + i') ∨ dR C (nb + i) 7 = some (nb + i')) → W' i' = W i') (hW2 : ∀ i', i' < jE → W' i' = W i') (hx : Wq P nb jE W C i X) : Wq P nb jE W' C' i X' := by
  obtain ⟨h1, h2⟩ := hx
  refine ⟨fun i' q => ?_, fun q x hx q2 i' q3 => ?_⟩
  · rw [hk.2.1 i 6 hi (by omega), hk.2.1 i 7 hi (by omega)] at q
    have := h1 i' q
    rw [hW1 i' this.1 q]
    omega
  · rw [hk.1 i 0 hi (by omega)] at q
    rw [hk.1 i 2 hi (by omega)] at q2
    rw [hk.2.2.1] at q3
    have := h2 q x hx q2 i' q3
    rw [hW2 i' this.1]
    omega
def LBad (N P nb h o p j b e0 sa si : Nat) (K0 : Nat → Nat) (x1 : Int32) (C M : Dat) (r : Option (Sum Nat (Option Nat) × Sr × Dat)) (pl : Nat) : Prop := ∃ S' C' M' q k, r = some (.inl 4, S', C') ∧ (∀ a, a < nb → S'.2.1 a = K0 a) ∧ (dI C' 3 7 = nn q ∧ dI M' 207 40 = nn q ∧ p ≤ q ∧ q ≤ 240) ∧ Ch (fun a k => YC P nb j b a k ∨ (a = pl ∧ k = 9)) C C' ∧ Ch (YM h j e0 o sa si) M M' ∧ k + p ≤ q + 3 ∧ ∀ g, f_X12_parse_b118 N (g + k) x1 M = some M'
def LGood (N nu len P : Nat) (tx : Nat → Nat) (nb h o p j b w la li E jE cl : Nat) (K0 : Nat → Nat) (W : Nat → Nat) (x1 : Int32) (C M : Dat) (r : Option (Sum Nat (Option Nat) × Sr × Dat)) (pl : Nat) (lnk : Option Nat → Dat → Dat → Option Nat × Int32) (Q : Option Nat → Prop) : Prop := ∃ fr S' C' M' p' e' v' j' b' w' k W' x1', r = some (.inr fr, S', C') ∧ Si nu len P tx nb h o p' e' cl v' j' b' w' K0 S' C' M' ∧ (j ≤ j' ∧ p ≤ p' ∧ k + p ≤ p' ∧ b ≤ b' ∧ b + w ≤ b' + w' ∧ p' ≤ 240) ∧ (o ≠ 0 → x1' = x1) ∧ Ch (fun a k => YC P nb j b a k ∨ (a = pl ∧ k = 9)) C C' ∧ Ch (YM h j (260 * h + b + w) o la li) M M' ∧ RP M M' ∧ (∀ g, f_X12_parse_b118 N (g + k) x1 M = f_X12_parse_b118 N g x1' M') ∧ (∀ i, j ≤ i → i < j' → Fs nu P nb h j' b' (260 * h + b' + w') C' M' i ∧ Nx nb h j' C' M' i ∧ Wc P nb jE W' C' i) ∧ Lk nb h j' (lnk fr C' M').1 (lnk fr C' M').2 ∧ (∀ i', (lnk fr C' M').1 = some (nb + i') → j ≤ i' ∧ W' i' + 1 + p ≤ p' + E) ∧ (∀ i, i < j → W' i = W i) ∧ Q fr ∧ (∀ i k i', j ≤ i → i < j' → (k = 6 ∨ k = 7 ∨ k = 9) → dR C' (nb + i) k = some (nb + i') → i' < j')
theorem zl_ps {N nu len P : Nat} {tx : Nat → Nat} {o p e t v cl g : Nat} {x1 : Int32} {C M : Dat} (hR : Rd nu len P tx o p e t v C M) (h44 : dI M 207 44 = nn (o + 1)) (hcl : (o = 0 ∧ cl = 0) ∨ (1 ≤ o ∧ cl = 125)) (ht : t ≠ cl) (hd : o = 0 → x1 = 0 → ¬ (t = 4 ∧ 1 ≤ v ∧ v ≤ 3)) : f_X12_parse_b118 N (g + 1) x1 M = (f_X12_statement N M).bind (fun M1 => f_X12_parse_b118 N g (if o = 0 then 1 else x1) M1) := by
  obtain ⟨hB, hkC, hkM, hTk⟩ := hR
  have ho := hB.2.2.2.1.1
  have htl := zx_tok_lt hTk
  have hmt := zx_mt_lt htl
  rw [f_X12_parse_b118, hB.2.2.1, if_neg m1_lt, h44]
  rcases hcl with ⟨o0, c0⟩ | ⟨o1, c1⟩
  · subst o0 c0
    have t0 : ¬ nn (zl_mt t) = 0 := fun q => by
      have q := (nn_eq (b := 0) (by omega) (by omega)).mp q
      unfold zl_mt at q
      repeat' split at q
      all_goals omega
    rw [if_neg (show ¬ (1 : Int32) < nn (0 + 1) by decide), hkM.2.2.1, if_neg t0, if_pos rfl]
    unfold f_X12_parse_b140 f_X12_parse_b164 f_X12_parse_b208 f_X12_parse_b218
    rw [h44, if_pos (show nn (0 + 1) ≤ 1 by decide), if_pos (show nn (0 + 1) = 1 from rfl), if_pos (show nn (0 + 1) = 1 from rfl)]
    by_cases x0 : x1 = 0
    · rw [if_pos x0, hkM.2.2.1]
      by_cases k : nn (zl_mt t) = 107
      · rw [if_pos k]
        have t4 : t = 4 := by
          have q := (nn_eq (b := 107) (by omega) (by omega)).mp k
          rcases hTk.2.2.2.2.2.1 with a | a
          · unfold zl_mt at q
            repeat' split at q
            all_goals omega
          · have := zl_Si.mp a
            rw [zx_mt (by omega)] at q
            omega
        subst t4
        have v9 := (hTk.2.2.2.2.2.2 rfl).1
        rw [hkM.2.2.2 (Or.inr (Or.inr rfl))]
        by_cases l1 : v < 1
        · rw [if_pos (show nn v < 1 from (nn_lt (b := 1) (by omega) (by omega)).mpr l1)]
        · rw [if_neg (show ¬ nn v < 1 from fun q => l1 ((nn_lt (b := 1) (by omega) (by omega)).mp q)), if_pos (show (3 : Int32) < nn v from (nn_lt (a := 3) (by omega) (by omega)).mpr (by have := hd rfl x0; omega))]
      · rw [if_neg k]
    · rw [if_neg x0]
  · subst c1
    have t125 : ¬ nn (zl_mt t) = 125 := fun q => ht ((zx_tkM (s := 125) htl rfl).mp q)
    have g1 : (1 : Int32) < nn (o + 1) := (nn_lt (a := 1) (by omega) (by omega)).mpr (by omega)
    have g2 : ¬ nn (o + 1) ≤ 1 := fun q => by have := (nn_le (b := 1) (by omega) (by omega)).mp q; omega
    have g3 : ¬ nn (o + 1) = 1 := fun q => by have := (nn_eq (b := 1) (by omega) (by omega)).mp q; omega
    rw [if_pos g1, if_neg (show ¬ o = 0 by omega)]
    unfold f_X12_parse_b140 f_X12_parse_b164 f_X12_parse_b208 f_X12_parse_b218
    rw [h44, if_neg g2, hkM.2.2.1, if_neg t125, if_neg g3, if_neg g3]
/-- what is known of each statement that begins here -/
def ZSt (N nu len P : Nat) (tx : Nat → Nat) (nb h o E jE : Nat) (K0 : Nat → Nat) (fn : Sr → Dat → Option (Sum Nat (Option Nat) × Sr × Dat)) : Prop := ∀ (p e t v j b w sa si la li : Nat) (W : Nat → Nat) (x1 : Int32) (S : Sr) (C M : Dat), SPre nu len P tx nb h o p e t v j b w E jE sa si la li K0 W S C M → SBad N P nb h o p j b (260 * h + b + w) la li K0 x1 C M (fn S C) (fun f => (f_X12_statement N M).bind f) ∨ SGood N nu len P tx nb h o p j b (260 * h + b + w) la li E jE K0 W x1 C M (fn S C) (fun f => (f_X12_statement N M).bind f)
/-- the statement ahead, or none -/
def Pd (nb h o j sa si la li pl : Nat) (x2 x3 : Option Nat) (C M : Dat) : Prop := (x3 = none ∧ x2 = none ∧ la = sa ∧ li = si ∧ dI M 233 o = -1 ∧ dI M sa si = -1 ∧ pl = nb + j) ∨ ∃ y, y < j ∧ x3 = some (nb + y) ∧ la = 224 ∧ li = 64 * h + y ∧ dI M 233 o = nn (64 * h + y) ∧ dR C (nb + y) 9 = none ∧ dI M 224 (64 * h + y) = -1 ∧ pl = nb + y
def lkO (sa si la li pl : Nat) (x3 : Option Nat) (fr : Option Nat) (C M : Dat) : Option Nat × Int32 := match x3 with
  | none => (fr, dI M sa si)
  | some _ => (dR C pl 9, dI M la li)
theorem zl_kp {P nb h j b e0 o la li : Nat} {C M C' M' : Dat} (hnb : 266 ≤ nb) (hP : P = 191 ∨ P = 196) (hla : (la = 222 ∨ la = 223 ∨ la = 224) ∨ la = 227 ∨ la = 228) (c : Ch (fun a k => YC P nb j b a k ∨ (nb ≤ a ∧ k = 9)) C C') (m : Ch (YM h j e0 o la li) M M') (hr : RP M M') : Kp P nb h j b e0 C M C' M' := by
  refine ⟨fun i k hi hk => ?_, fun i k hi hk => ?_, fun x => ?_, fun i hi => ⟨?_, ?_⟩, fun k h1 h2 => ⟨?_, ?_⟩, fun x hx => ⟨fun q => hr.keep hx (by decide) q, fun q => hr.keep hx (by decide) q, fun q => hr.keep hx (by decide) q, fun q => hr.keep hx (by decide) q⟩⟩
  · exact c.i (by unfold YC Ec; omega)
  · exact c.r (by unfold YC Ec; omega)
  · exact c.r (by unfold YC Ec; omega)
  · exact c.i (by unfold YC Ec; omega)
  · exact c.i (by unfold YC Ec; omega)
  · exact m.i (by unfold YM; omega)
  · exact m.i (by unfold YM; omega)
