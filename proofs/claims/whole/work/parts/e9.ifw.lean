/-! if and while -/
theorem zs_pack {N nu len P : Nat} {tx : Nat → Nat} {nb h o p j b w la li E jE p' e' t' v' j' b' w' k : Nat} {K0 W W' : Nat → Nat} {x1 : Int32} {S' : Sr} {C M C' M' : Dat} {r : Option (Sum Nat (Option Nat) × Sr × Dat)} {F : (Dat → Option Dat) → Option Dat} (hr : r = some (.inr (some (nb + j)), S', C')) (hSi : Si nu len P tx nb h o p' e' t' v' j' b' w' K0 S' C' M') (hb : j < j' ∧ p + 4 ≤ p' ∧ k + p + 1 ≤ p' ∧ b ≤ b' ∧ b + w ≤ b' + w') (cC : Ch (YC P nb j b) C C') (cM : Ch (YM h j (260 * h + b + w) o la li) M M') (hRP : RP M M') (hF : ∀ g, F (f_X12_parse_b118 N (g + k) x1) = f_X12_parse_b118 N g x1 M') (hFs : Fs nu P nb h j' b' (260 * h + b' + w') C' M' j) (hin : ∀ i, j < i → i < j' → Fs nu P nb h j' b' (260 * h + b' + w') C' M' i ∧ Nx nb h j' C' M' i ∧ Wc P nb jE W' C' i) (h9 : dR C' (nb + j) 9 = none ∧ dI M' 224 (64 * h + j) = -1) (hla : dI M' la li = nn (64 * h + j) ∧ dI M' 233 o = nn (64 * h + j)) (hk : ¬ dI C' (nb + j) 0 = 18) (h67 : ∀ i', dR C' (nb + j) 6 = some (nb + i') ∨ dR C' (nb + j) 7 = some (nb + i') → j < i' ∧ i' < j' ∧ W' i' + 6 + p ≤ p' + E) (hW : ∀ i, i < j → W' i = W i) (h1 : dI C' (nb + j) 1 = nn p) (hlb : ∀ i k i', j < i → i < j' → (k = 6 ∨ k = 7 ∨ k = 9) → dR C' (nb + i) k = some (nb + i') → i' < j') : SGood N nu len P tx nb h o p j b (260 * h + b + w) la li E jE K0 W x1 C M r F := by
  have hp240 : p' ≤ 240 := by have := hSi.1.2.2.2.1; have := hSi.1.1.1.1.1; omega
  refine ⟨S', C', M', p', e', t', v', j', b', w', k, W', hr, hSi, by omega, cC, cM, hRP, hF, fun i g1 g2 => ?_, fun i g1 g2 => (hin i g1 g2).2, h9, hla, fun X hX => ⟨fun i' q => ?_, fun q => absurd q hk⟩, hW, h1, by omega, fun i k i' g1 g2 g3 q => ?_⟩
  · by_cases e : i = j
    · rw [e]; exact hFs
    · exact (hin i (by omega) g2).1
  · have := h67 i' q
    omega
  · by_cases e : i = j
    · subst e
      rcases g3 with rfl | rfl | rfl
      · exact (h67 i' (Or.inl q)).2.1
      · exact (h67 i' (Or.inr q)).2.1
      · rw [h9.1] at q; exact absurd q (by simp)
    · exact hlb i k i' (by omega) g2 g3 q
/-- the keyword and its E, up to the block -/
theorem zs_head {N nu len P : Nat} {tx : Nat → Nat} {nb h o p e v j b w E jE sa si la li kM : Nat} {K0 W : Nat → Nat} {x1 : Int32} (hN : 1000 ≤ N) {S : Sr} {C M : Dat} (kC : Int32) (hv : (v = 4 ∧ kM = 3) ∨ (v = 6 ∧ kM = 4)) (hp : SPre nu len P tx nb h o p e 4 v j b w E jE sa si la li K0 W S C M) : ∃ S0 C0 C1, f_X5_start nu kC S C = some (.inr (some (nb + j)), S0, C0) ∧ f_X5_goTo (dI C0 3 8 + 1) C0 = some C1 ∧ kd S0.2.1 (nb + j) = 7 ∧ ((∃ S' C', f_X5_readExpression N nu 12 S0 C1 = some (.inl 4, S', C') ∧ ∀ r, r = some (.inl 4, S', C') → SBad N P nb h o p j b (260 * h + b + w) la li K0 x1 C M r (fun f => (f_X12_statement N M).bind f)) ∨ (∃ C3 M3 p3 e3 t3 v3 n, f_X5_readExpression N nu 12 S0 C1 = some (.inr (nn (b + n)), S0, C3) ∧ f_X12_statement N M = f_X12_block N (nn 2) (nn (64 * h + j)) M3 ∧ BPre nu len P tx nb h o p3 e3 t3 v3 (j + 1) (b + n) (w + 1) E jE j 222 K0 W S0 (sI C3 (nb + j) 5 (nn (b + n))) M3 ∧ (p + 3 ≤ p3 ∧ 266 ≤ nb ∧ j ≤ 60 ∧ h ≤ 1 ∧ p ≤ 240 ∧ p3 ≤ 240 ∧ (P = 191 ∨ P = 196)) ∧ Ch (YC P nb j b) C (sI C3 (nb + j) 5 (nn (b + n))) ∧ Ch (YM h j (260 * h + b + w) o la li) M M3 ∧ RP M M3 ∧ (dI (sI C3 (nb + j) 5 (nn (b + n))) (nb + j) 0 = kC ∧ dI (sI C3 (nb + j) 5 (nn (b + n))) (nb + j) 1 = nn p ∧ dI (sI C3 (nb + j) 5 (nn (b + n))) (nb + j) 8 = 0 ∧ dR C3 (nb + j) 7 = none ∧ dR C3 (nb + j) 9 = none) ∧ FsE P h (b + n) (260 * h + (b + n) + (w + 1)) (sI C3 (nb + j) 5 (nn (b + n))) M3 (nb + j) (260 * h + b + w) ∧ (dI M3 216 (64 * h + j) = nn kM ∧ dI M3 217 (64 * h + j) = nn p ∧ dI M3 219 (64 * h + j) = 0 ∧ dI M3 220 (64 * h + j) = nn (260 * h + b + w) ∧ dI M3 223 (64 * h + j) = -1 ∧ dI M3 224 (64 * h + j) = -1 ∧ dI M3 la li = nn (64 * h + j) ∧ dI M3 233 o = nn (64 * h + j)) ∧ (((la = 222 ∨ la = 223 ∨ la = 224) ∧ 64 * h ≤ li ∧ li < 64 * h + j) ∨ (la = 227 ∧ 26 * h ≤ li ∧ li < 26 * h + 26) ∨ (la = 228 ∧ li = h)))) := by
  obtain ⟨S0, C0, M0, p1, e1, t1, v1, C1, M1, a1, a2, a3, a4, a5, hz, ht, hpe, l6, l7, ⟨y1, y2, y3, y4, y5, y6, y7, y8⟩, ⟨z1, z2, z3, z4, z5, z6, z7, z8⟩⟩ := zs_kw hN kC hp
  obtain ⟨c0, m0, hS0, hkd, ⟨g1, g2, g3, hPP, hh, ho, hbw⟩, hla⟩ := id hz
  obtain ⟨hjE, hWp⟩ := hp.2.2.2
  have hs := hp.1
  have hlen : p + 2 ≤ e := by
    rcases hv with ⟨h1, _⟩ | ⟨h1, _⟩
    · subst h1
      have := zs_kwlen (j := 3) hs.1.2.2.2 (by decide) rfl
      have : zl_sl 3 = 2 := by decide
      omega
    · subst h1
      have := zs_kwlen (j := 4) hs.1.2.2.2 (by decide) rfl
      have : zl_sl 4 = 5 := by decide
      omega
  have hSb := hS0.sb (by omega)
  have i128 : ¬ (nn (64 * h + j) < 0 ∨ 128 ≤ (nn (64 * h + j)).toNatClampNeg) := nn_in (k := 64 * h + j) (n := 128) (by omega) (by omega)
  have nm : (nn (64 * h + j)).toNatClampNeg = 64 * h + j := nn_nat (by omega)
  have i128' : ¬ (nn (64 * h + j) < 0 ∨ 128 ≤ 64 * h + j) := by have := i128; rw [nm] at this; exact this
  have ht5 : Zt nu len P tx nb h o p j b w C0 M0 p1 e1 t1 v1 b w C1 (sI M1 216 (64 * h + j) (nn kM)) := ht.setM (by omega)
  have st : f_X12_statement N M = (f_X12_expression N (sI M1 216 (64 * h + j) (nn kM))).bind (fun p6 => if 0 ≤ (dI (sI p6.2 220 (64 * h + j) p6.1) 207 40) then some (sI p6.2 220 (64 * h + j) p6.1) else f_X12_block N (nn 2) (nn (64 * h + j)) (sI p6.2 220 (64 * h + j) p6.1)) := by
    rw [a5]
    unfold f_X12_statement_b41
    rcases hv with ⟨h1, h2⟩ | ⟨h1, h2⟩
    · subst h1 h2
      rw [if_neg (show ¬ nn 4 < 4 by decide), if_neg (show ¬ nn 4 = 5 by decide), a2, bS, a4, bS, if_pos (show nn 4 = 4 from rfl)]
      unfold f_X12_statement_b78 f_X12_statement_b93 f_X12_statement_b192
      rw [if_pos (show nn 4 = 4 from rfl)]
      simp only [nm, i128', if_false, bI]
      rfl
    · subst h1 h2
      rw [if_neg (show ¬ nn 6 < 4 by decide), if_neg (show ¬ nn 6 = 5 by decide), a2, bS, a4, bS, if_neg (show ¬ nn 6 = 4 by decide), if_pos (show nn 6 = 6 from rfl)]
      unfold f_X12_statement_b78 f_X12_statement_b93 f_X12_statement_b192
      rw [if_neg (show ¬ nn 6 = 4 by decide)]
      simp only [nm, i128', if_false, bI]
      rfl
  refine ⟨S0, C0, C1, a1, a3, hkd, ?_⟩
  rcases zt_expr hN hSb hh ht5 (by omega) with ⟨S', C', M', q, f1, f2, f3, f4, f5, f6⟩ | ⟨C3, M3, p3, e3, t3, v3, n, f1, f2, f3, f4, f5, f6, f7, f8, f9⟩
  · left
    have b40 : ∀ y, dI (sI M' 220 (64 * h + j) y) 207 40 = nn q := fun y => by rw [dI_s, if_neg (by omega)]; exact f4.2.1
    refine ⟨S', C', f1, fun r hr => hz.bad (q := q) hr f2 f4.1 (b40 (nn (260 * h + b + w))) f4.2.2 f5 (Ch.sI (by unfold ZM; omega) f6) (fun f => ?_)⟩
    show (f_X12_statement N M).bind f = _
    rw [st, f3, bS, b40, if_pos (show (0 : Int32) ≤ nn q from (nn_le (a := 0) (by omega) (by omega)).mpr (by omega)), bS]
  · right
    have hz3 : Zt nu len P tx nb h o p j b w C0 M0 p3 e3 t3 v3 (b + n) (w + 1) (sI C3 (nb + j) 5 (nn (b + n))) (sI M3 220 (64 * h + j) (nn (260 * h + b + w))) := (f3.setC g3 (by omega)).setM (by omega)
    have j64 : j < 64 := by omega
    have x0 : ∀ k, k ≠ 5 → dI (sI C3 (nb + j) 5 (nn (b + n))) (nb + j) k = dI C0 (nb + j) k := fun k hk => by rw [dI_s, if_neg (by omega), f7.i (by unfold XC Ec; omega), l6.i (by unfold QlC; omega)]
    have xr : ∀ k, dR C3 (nb + j) k = dR C0 (nb + j) k := fun k => by rw [f7.r (by unfold XC Ec; omega), l6.r (by unfold QlC; omega)]
    have x5 : dI (sI C3 (nb + j) 5 (nn (b + n))) (nb + j) 5 = nn (b + n) := by rw [dI_s, if_pos ⟨rfl, rfl⟩]
    obtain ⟨w1, w2, w3, w4, w5, w6⟩ := id hz3
    have m3 : ∀ a k, a ≠ 216 → a ≠ 220 → a ≠ 225 → a ≠ 226 → a ≠ 229 → ¬ (234 ≤ a ∧ a ≤ 236) → ¬ (a = 207 ∧ (k = 34 ∨ (36 ≤ k ∧ k ≤ 41) ∨ k = 48 ∨ k = 51)) → dI (sI M3 220 (64 * h + j) (nn (260 * h + b + w))) a k = dI M0 a k := fun a k h1 h2 h3 h4 h5 h6 h7 => by
      clear hla hPP
      rw [dI_s, if_neg (by omega), f8.i (by unfold XM; omega), dI_s, if_neg (by omega), l7.i (by unfold QlM; omega)]
    have v220 : dI (sI M3 220 (64 * h + j) (nn (260 * h + b + w))) 220 (64 * h + j) = nn (260 * h + b + w) := by rw [dI_s, if_pos ⟨rfl, rfl⟩]
    have v216 : dI (sI M3 220 (64 * h + j) (nn (260 * h + b + w))) 216 (64 * h + j) = nn kM := by rw [dI_s, if_neg (by omega), f8.i (by unfold XM; omega), dI_s, if_pos ⟨rfl, rfl⟩]
    have hx : Ex P (sI C3 (nb + j) 5 (nn (b + n))) (sI M3 220 (64 * h + j) (nn (260 * h + b + w))) b n (260 * h + b + w) := f5.kept (fun i _ _ => ⟨by rw [dI_s, if_neg (by omega)], by rw [dI_s, if_neg (by omega)]⟩) (fun k _ _ => ⟨by rw [dI_s, if_neg (by omega)], by rw [dI_s, if_neg (by omega)]⟩) (fun x _ hx => by rw [dI_s, if_neg (by omega)]; exact hx)
    have hg : Hg 1 o P (sI C3 (nb + j) 5 (nn (b + n))) b (b + n) := f6.eq (by omega) (fun i _ => by rw [dI_s, if_neg (by omega)])
    have e229 : ∀ x, x < 26 → dI (sI M3 220 (64 * h + j) (nn (260 * h + b + w))) 229 x = 5 → dI M 229 x = 5 := fun x hx q => by
      rcases w4 x hx with ⟨_, b'⟩ | b'
      · rw [b'] at q; exact absurd q (by decide)
      · rw [b', m0.i (by clear hPP; unfold Ma; omega)] at q; exact q
    refine ⟨C3, sI M3 220 (64 * h + j) (nn (260 * h + b + w)), p3, e3, t3, v3, n, f1, ?_, ⟨w1, hS0, ⟨?_, ?_, hh, ?_⟩, ⟨w5.1, w5.2, by omega⟩, ?_, ⟨by omega, ?_, by omega⟩, fun x hx q i' q' => ?_⟩, ?_, ?_, ?_, ?_, ⟨?_, ?_, ?_, ?_, ?_⟩, FsE.mk (fr := b) (n := n) ?_ x5 (by omega) (by omega) hx hg.zero, ⟨v216, ?_, ?_, v220, ?_, ?_, ?_, ?_⟩, hla⟩
    · rw [st, f2, bS]
      have : dI (sI M3 220 (64 * h + j) (nn (260 * h + b + w))) 207 40 = -1 := w1.1.2.2.1
      rw [this, if_neg m1_lt]
    · rw [m3 _ _ (by omega) (by omega) (by omega) (by omega) (by omega) (by omega) (by omega)]; exact z1
    · rw [m3 _ _ (by omega) (by omega) (by omega) (by omega) (by omega) (by omega) (by omega), m0.i (by clear hPP; unfold Ma; omega)]; exact hs.2.2.1.2.1
    · have := hs.2.2.1.2.2.2
      clear hla hPP
      omega
    · rw [m3 _ _ (by omega) (by omega) (by omega) (by omega) (by omega) (by omega) (by omega), m0.i (by clear hPP; unfold Ma; omega)]; exact hs.2.2.2.2
    · rw [m3 _ _ (by omega) (by omega) (by omega) (by omega) (by omega) (by omega) (by omega)]; exact z4
    · have q2 : dR C (P + 1) x = some (nb + i') := by
        have : dR (sI C3 (nb + j) 5 (nn (b + n))) (P + 1) x = dR C (P + 1) x := by
          rw [w2.r (by clear hla; unfold ZC Ec; omega), c0.r (by clear hla; omega)]
        rw [← this]; exact q'
      exact hWp x hx (e229 x hx q) i' q2
    · clear hla
      omega
    · exact (c0.mono (fun a k q => ya_YC q)).tr (w2.mono (fun a k q => yz_YC q))
    · exact (m0.mono (fun a k q => ym_YM j64 q)).tr (w3.mono (fun a k q => yz_YM j64 q))
    · exact (RP.rf (fun x => m0.i (by clear hPP; unfold Ma; omega))).tr w4
    · rw [x0 0 (by omega)]; exact y1
    · rw [x0 1 (by omega)]; exact y2
    · rw [x0 8 (by omega)]; exact y5
    · rw [xr]; exact y7
    · rw [xr]; exact y8
    · rw [x0 4 (by omega)]; exact y3
    · rw [m3 _ _ (by omega) (by omega) (by omega) (by omega) (by omega) (by omega) (by omega)]; exact z2
    · rw [m3 _ _ (by omega) (by omega) (by omega) (by omega) (by omega) (by omega) (by omega)]; exact z3
    · rw [m3 _ _ (by omega) (by omega) (by omega) (by omega) (by omega) (by omega) (by omega)]; exact z5
    · rw [m3 _ _ (by omega) (by omega) (by omega) (by omega) (by omega) (by omega) (by omega)]; exact z6
    · rw [m3 _ _ (by omega) (by omega) (by omega) (by omega) (by omega) (by omega) (by omega)]; exact z7
    · rw [m3 _ _ (by omega) (by omega) (by omega) (by omega) (by omega) (by omega) (by omega)]; exact z8
