/-! declarations: tokens while a role waits for its label -/
def RqC (nu len P : Nat) (tx : Nat → Nat) (o e : Nat) (C M : Dat) : Prop := (TxC len tx C ∧ TxM len tx M) ∧ (e ≤ len ∧ AtE len tx C e ∧ dI M 207 36 = nn e) ∧ dI M 207 40 = -1 ∧ (o ≤ 8 ∧ dI C 3 5 = nn o ∧ dI M 207 41 = nn o) ∧ ((P = 191 ∨ P = 196) ∧ dR C 3 4 = some P) ∧ (nu ≤ 6 ∧ dI C 1 0 = nn nu ∧ dI M 207 1 = nn nu)
def RqN (nu len P : Nat) (tx : Nat → Nat) (o p e t v : Nat) (C M : Dat) : Prop := RqC nu len P tx o e C M ∧ TkC p e t v C ∧ TkM p e t v M ∧ Tok len tx p e t v
theorem Rb.c {nu len P : Nat} {tx : Nat → Nat} {o e : Nat} {C M : Dat} (h : Rb nu len P tx o e C M) : RqC nu len P tx o e C M := ⟨h.1, h.2.1, h.2.2.1, h.2.2.2.1, h.2.2.2.2.1, h.2.2.2.2.2.1⟩
theorem Rd.n {nu len P : Nat} {tx : Nat → Nat} {o p e t v : Nat} {C M : Dat} (h : Rd nu len P tx o p e t v C M) : RqN nu len P tx o p e t v C M := ⟨h.1.c, h.2⟩
theorem RqN.d {nu len P : Nat} {tx : Nat → Nat} {o p e t v : Nat} {C M : Dat} (h : RqN nu len P tx o p e t v C M) (hr : Ro nu P C M) : Rd nu len P tx o p e t v C M := ⟨⟨h.1.1, h.1.2.1, h.1.2.2.1, h.1.2.2.2.1, h.1.2.2.2.2.1, h.1.2.2.2.2.2, hr⟩, h.2⟩
def RCc (a k : Nat) : Prop := (a = 3 ∧ (k = 2 ∨ k = 4 ∨ k = 5 ∨ k = 8 ∨ k = 13)) ∨ a = 4 ∨ (263 ≤ a ∧ a ≤ 265) ∨ (a = 1 ∧ k = 0)
def RCm (a k : Nat) : Prop := (a = 207 ∧ (k = 1 ∨ k = 10 ∨ k = 36 ∨ k = 40 ∨ k = 41)) ∨ a = 211
theorem RqC.kept {nu len P : Nat} {tx : Nat → Nat} {o e : Nat} {C M C' M' : Dat} {X Y : Nat → Nat → Prop} (h : RqC nu len P tx o e C M) (c : Ch X C C') (m : Ch Y M M') (hx : ∀ a k, X a k → ¬ RCc a k) (hy : ∀ a k, Y a k → ¬ RCm a k) : RqC nu len P tx o e C' M' := by
  obtain ⟨⟨h1, h2⟩, ⟨h3, h4, h5⟩, h6, ⟨h7, h8, h9⟩, ⟨h10, h11⟩, ⟨h12, h13, h14⟩⟩ := h
  have ei : ∀ a k, RCc a k → dI C' a k = dI C a k := fun a k r => c.i (fun q => hx a k q r)
  have em : ∀ a k, RCm a k → dI M' a k = dI M a k := fun a k r => m.i (fun q => hy a k q r)
  exact ⟨⟨h1.kept c (fun a k w q => hx a k w (by unfold RCc; omega)), h2.kept m (fun a k w q => hy a k w (by unfold RCm; omega))⟩, ⟨h3, h4.kept c (fun a k w q => hx a k w (by unfold RTb at q; unfold RCc; omega)), by rw [em _ _ (by unfold RCm; omega)]; exact h5⟩, by rw [em _ _ (by unfold RCm; omega)]; exact h6, ⟨h7, by rw [ei _ _ (by unfold RCc; omega)]; exact h8, by rw [em _ _ (by unfold RCm; omega)]; exact h9⟩, ⟨h10, by rw [c.r (fun q => hx _ _ q (by unfold RCc; omega))]; exact h11⟩, ⟨h12, by rw [ei _ _ (by unfold RCc; omega)]; exact h13, by rw [em _ _ (by unfold RCm; omega)]; exact h14⟩⟩
theorem RqN.kept {nu len P : Nat} {tx : Nat → Nat} {o p e t v : Nat} {C M C' M' : Dat} {X Y : Nat → Nat → Prop} (h : RqN nu len P tx o p e t v C M) (c : Ch X C C') (m : Ch Y M M') (hx : ∀ a k, X a k → ¬ (RCc a k ∨ (a = 3 ∧ 6 ≤ k ∧ k ≤ 9))) (hy : ∀ a k, Y a k → ¬ (RCm a k ∨ (a = 207 ∧ 36 ≤ k ∧ k ≤ 39))) : RqN nu len P tx o p e t v C' M' :=
  ⟨h.1.kept c m (fun a k w q => hx a k w (Or.inl q)) (fun a k w q => hy a k w (Or.inl q)), h.2.1.kept c (fun a k w q => hx a k w (Or.inr q)), h.2.2.1.kept m (fun a k w q => hy a k w (Or.inr q)), h.2.2.2⟩
theorem zn_adv {N nu len P : Nat} {tx : Nat → Nat} {o e : Nat} (hN : 1000 ≤ N) {C M : Dat} (h : RqC nu len P tx o e C M) : ∃ p' e' t' v' C' M', f_X5_goTo (dI C 3 8 + 1) C = some C' ∧ f_X12_next N M = some M' ∧ e ≤ p' ∧ p' ≤ 240 ∧ RqN nu len P tx o p' e' t' v' C' M' ∧ Ch QlC C C' ∧ Ch QlM M M' := by
  obtain ⟨⟨h1, h2⟩, ⟨h3, h4, h5⟩, h6, ⟨h7, h8, h9⟩, ⟨h10, h11⟩, ⟨h12, h13, h14⟩⟩ := h
  obtain ⟨p', e', t', v', C', M', a1, a2, a3, a4, a5, a6⟩ := zl_lex hN h1 h2 h3 h4 h5
  obtain ⟨⟨b1, b2⟩, ⟨b3, b3'⟩, b4, b5⟩ := a4
  have := h1.1
  have z5 := b5.1
  exact ⟨p', e', t', v', C', M', a1, a2, a3, by omega, ⟨⟨⟨b1, b2⟩, ⟨b5.1.2, b3', b4.2.1⟩, by rw [a6.i (by unfold QlM; omega)]; exact h6, ⟨h7, by rw [a5.i (by unfold QlC; omega)]; exact h8, by rw [a6.i (by unfold QlM; omega)]; exact h9⟩, ⟨h10, by rw [a5.r (by unfold QlC; omega)]; exact h11⟩, ⟨h12, by rw [a5.i (by unfold QlC; omega)]; exact h13, by rw [a6.i (by unfold QlM; omega)]; exact h14⟩⟩, b3, b4, b5⟩, a5, a6⟩
theorem zn_take {N nu len P : Nat} {tx : Nat → Nat} {o p e t v c : Nat} (hN : 1000 ≤ N) {S : Sr} {C M : Dat} (hR : RqN nu len P tx o p e t v C M) (hS : Sb S) (hc : zl_S c = true) : (∃ p' e' t' v' C' M', f_X5_take nu (nn c) S C = some (.inr (), S, C') ∧ f_X12_expect N (nn c) M = some M' ∧ p + 1 ≤ p' ∧ p' ≤ 240 ∧ RqN nu len P tx o p' e' t' v' C' M' ∧ Ch QlC C C' ∧ Ch QlM M M') ∨ (f_X5_take nu (nn c) S C = some (.inl 4, Sx S, C) ∧ f_X12_expect N (nn c) M = some (sI M 207 40 (nn p))) := by
  obtain ⟨hB, hkC, hkM, hTk⟩ := id hR
  have ht := zx_tok_lt hTk
  have hc' := zl_Si.mp hc
  unfold f_X5_take f_X12_expect f_X12_expect_b27
  rw [hkC.2.2.1, hkM.2.2.1, hB.2.2.1, if_pos (show (-1 : Int32) < 0 by decide)]
  by_cases q : t = c
  · left
    rw [if_pos ((zx_tkC ht hc).mpr q), if_pos ((zx_tkM ht hc).mpr q)]
    obtain ⟨p', e', t', v', C', M', a1, a2, a3, a4, a5, a6, a7⟩ := zn_adv hN hB
    have := hTk.2.1 (by omega)
    refine ⟨p', e', t', v', C', M', by rw [a1, bS], by rw [a2, bS], by omega, a4, a5, a6, a7⟩
  · right
    rw [if_neg (fun w => q ((zx_tkC ht hc).mp w)), if_neg (fun w => q ((zx_tkM ht hc).mp w)), if_pos (show 1 ≤ S.2.2.1 ∧ 6 ≤ S.2.2.2 from hS), zx_wrong hB.2.2.1 hkM.1]
    exact ⟨rfl, rfl⟩
theorem zn_label {N nu len P : Nat} {tx : Nat → Nat} {o p e t v : Nat} (hN : 1000 ≤ N) {S : Sr} {C M : Dat} (hR : RqN nu len P tx o p e t v C M) (hS : Sb S) : (v < nu ∧ ∃ p' e' t' v' C' M', f_X5_takeLabel nu S C = some (.inr (nn v), S, C') ∧ f_X12_labelToken N M = some (nn v, M') ∧ p + 1 ≤ p' ∧ p' ≤ 240 ∧ RqN nu len P tx o p' e' t' v' C' M' ∧ Ch QlC C C' ∧ Ch QlM M M') ∨ (f_X5_takeLabel nu S C = some (.inl 4, Sx S, C) ∧ f_X12_labelToken N M = some (0, sI M 207 40 (nn p))) := by
  obtain ⟨hB, hkC, hkM, hTk⟩ := id hR
  have ht := zx_tok_lt hTk
  have hmt := zx_mt_lt ht
  have hp240 : p ≤ 240 := by have := hTk.1; have := hB.1.1.1; omega
  obtain ⟨n6, d1, d2⟩ := hB.2.2.2.2.2
  unfold f_X5_takeLabel f_X5_takeLabel_b22 f_X12_labelToken f_X12_labelToken_b31 f_X12_labelToken_b42 f_X12_labelToken_b54
  rw [hkC.2.2.1, hkM.2.2.1, hB.2.2.1, if_pos (show (-1 : Int32) < 0 by decide)]
  have bad : ∀ x : Int32, ((f_X12_wrong M).bind (fun p2 => if 0 ≤ (dI p2 207 40) then some ((0 : Int32), p2) else some (x, p2))) = some (0, sI M 207 40 (nn p)) := fun x => by
    have d40 : dI (sI M 207 40 (nn p)) 207 40 = nn p := by rw [dI_s, if_pos ⟨rfl, rfl⟩]
    rw [zx_wrong hB.2.2.1 hkM.1, bS, d40, if_pos (show (0 : Int32) ≤ nn p from (nn_le (a := 0) (by omega) (by omega)).mpr (by omega))]
  by_cases q : t = 2
  · subst q
    have v9 : v < 1000000000 := hTk.2.2.2.2.1 rfl
    have k9 : dI C 3 9 = nn v := by rw [hkC.2.2.2, if_pos (Or.inr rfl)]
    have k38 : dI M 207 38 = nn v := hkM.2.2.2 (Or.inr (Or.inl rfl))
    rw [if_pos (show nn (zl_ck 2 v) = 2 from rfl), if_pos (show nn (zl_mt 2) = 35 from rfl), k9, k38, d2]
    by_cases l : v < nu
    · left
      rw [has_yes n6 l d1, bS, if_neg (show ¬ (1 : Int32) = 0 by decide), if_pos ((nn_lt (by omega) (by omega)).mpr l)]
      obtain ⟨p', e', t', v', C', M', a1, a2, a3, a4, a5, a6, a7⟩ := zn_adv hN hB
      have := hTk.2.1 (by omega)
      refine ⟨l, p', e', t', v', C', M', by rw [a1, bS, k9], ?_, by omega, a4, a5, a6, a7⟩
      rw [a2, bS, a5.1.2.2.1, if_neg m1_lt]
    · right
      rw [has_no n6 (show (nn v).toInt < 0 ∨ (nu : Int) ≤ (nn v).toInt by rw [nn_int (by omega)]; omega) d1, bS, if_pos rfl, if_pos (show 1 ≤ S.2.2.1 ∧ 6 ≤ S.2.2.2 from hS), if_neg (fun w => l ((nn_lt (by omega) (by omega)).mp w))]
      exact ⟨rfl, bad _⟩
  · right
    rw [if_neg (show ¬ nn (zl_ck t v) = 2 from fun w => q ((zx_tk012 (s := 2) ht (by decide)).mp w)), if_pos (show 1 ≤ S.2.2.1 ∧ 6 ≤ S.2.2.2 from hS), if_neg (show ¬ nn (zl_mt t) = 35 from fun w => by
      have w := (nn_eq (b := 35) (by omega) (by omega)).mp w
      rcases hTk.2.2.2.2.2.1 with a | a
      · unfold zl_mt at w
        repeat' split at w
        all_goals omega
      · have := zl_Si.mp a
        rw [zx_mt (by omega)] at w
        omega)]
    exact ⟨rfl, bad _⟩
/-! coarse frames of a reading -/
def DC (P nb a k : Nat) : Prop := (a = 3 ∧ 4 ≤ k ∧ k ≤ 9) ∨ a = 5 ∨ (P ≤ a ∧ a ≤ P + 4) ∨ nb ≤ a
def DM (h a k : Nat) : Prop := (a = 207 ∧ 33 ≤ k ∧ k ≤ 51) ∨ ((216 ≤ a ∧ a ≤ 224) ∧ 64 * h ≤ k ∧ k < 64 * h + 64) ∨ ((a = 225 ∨ a = 226) ∧ 260 * h ≤ k ∧ k < 260 * h + 260) ∨ (a = 227 ∧ 26 * h ≤ k ∧ k < 26 * h + 26) ∨ (a = 228 ∧ k = h) ∨ (229 ≤ a ∧ a ≤ 236)
theorem yc_DC {P nb j b a k : Nat} (q : YC P nb j b a k) : DC P nb a k := by
  unfold YC Ec at q
  unfold DC
  omega
theorem ym_DM {h j e0 o la li a k : Nat} (he : 260 * h ≤ e0) (hl : ((la = 222 ∨ la = 223 ∨ la = 224) ∧ 64 * h ≤ li ∧ li < 64 * h + 64) ∨ (la = 227 ∧ 26 * h ≤ li ∧ li < 26 * h + 26) ∨ (la = 228 ∧ li = h)) (q : YM h j e0 o la li a k) : DM h a k := by
  unfold YM at q
  unfold DM
  omega
theorem bm_DM {h j e0 o la li a k : Nat} (he : 260 * h ≤ e0) (hl : la = 227 ∧ 26 * h ≤ li ∧ li < 26 * h + 26) (q : BM h j e0 o la li a k) : DM h a k := by
  unfold BM at q
  unfold DM
  omega
/-- between declarations -/
def Ds (nu len P : Nat) (tx : Nat → Nat) (nb h p e t v j b w : Nat) (K0 W : Nat → Nat) (S : Sr) (C M : Dat) : Prop := Si nu len P tx nb h 0 p e t v j b w K0 S C M ∧ (dI M 231 0 = 0 ∧ dI M 233 0 = -1 ∧ dI M 228 h = -1) ∧ (∀ i, i < j → Fs nu P nb h j b (260 * h + b + w) C M i ∧ Nx nb h j C M i ∧ Wc P nb j W C i) ∧ (∀ x, x < 26 → dI M 229 x = 5 → Lk nb h j (dR C (P + 1) x) (dI M 227 (26 * h + x)) ∧ ∀ i', dR C (P + 1) x = some (nb + i') → i' < j ∧ W i' + 5 ≤ p) ∧ ∀ i k i', i < j → (k = 6 ∨ k = 7 ∨ k = 9) → dR C (nb + i) k = some (nb + i') → i' < j
def DBad (N P nb h p : Nat) (K0 : Nat → Nat) (C M : Dat) (r : Option (Sum Nat Unit × Sr × Dat)) : Prop := ∃ S' C' M' q k, r = some (.inl 4, S', C') ∧ (∀ a, a < nb → S'.2.1 a = K0 a) ∧ (dI C' 3 7 = nn q ∧ dI M' 207 40 = nn q ∧ p ≤ q ∧ q ≤ 240) ∧ Ch (DC P nb) C C' ∧ Ch (DM h) M M' ∧ k + p ≤ q + 3 ∧ ∀ g, f_X12_parse_b118 N (g + k) 0 M = some M'
def DGood (N nu len P : Nat) (tx : Nat → Nat) (nb h p : Nat) (K0 : Nat → Nat) (C M : Dat) (r : Option (Sum Nat Unit × Sr × Dat)) : Prop := ∃ S' C' M' p' e' t' v' j' b' w' k W', r = some (.inr (), S', C') ∧ Ds nu len P tx nb h p' e' t' v' j' b' w' K0 W' S' C' M' ∧ (p + 4 ≤ p' ∧ k + p ≤ p' ∧ p' ≤ 240) ∧ Ch (DC P nb) C C' ∧ Ch (DM h) M M' ∧ ∀ g, f_X12_parse_b118 N (g + k) 0 M = f_X12_parse_b118 N g 0 M'
/-- the model declares -/
theorem zd_ps {N nu len P : Nat} {tx : Nat → Nat} {p e v g : Nat} {C M : Dat} (hR : Rd nu len P tx 0 p e 4 v C M) (h44 : dI M 207 44 = nn (0 + 1)) (hv : 1 ≤ v ∧ v ≤ 3) : f_X12_parse_b118 N (g + 1) 0 M = (f_X12_declare N M).bind (fun M1 => f_X12_parse_b118 N g 0 M1) := by
  obtain ⟨hB, hkC, hkM, hTk⟩ := hR
  rw [f_X12_parse_b118, hB.2.2.1, if_neg m1_lt, h44, if_neg (show ¬ (1 : Int32) < nn (0 + 1) by decide), hkM.2.2.1, if_neg (show ¬ nn (zl_mt 4) = 0 by decide)]
  unfold f_X12_parse_b140 f_X12_parse_b164
  rw [h44, if_pos (show nn (0 + 1) ≤ 1 by decide), if_pos (show nn (0 + 1) = 1 from rfl), if_pos rfl, hkM.2.2.1, if_pos (show nn (zl_mt 4) = 107 from rfl), hkM.2.2.2 (Or.inr (Or.inr rfl)), if_neg (show ¬ nn v < 1 from fun q => by have := (nn_lt (b := 1) (by omega) (by omega)).mp q; omega), if_neg (show ¬ (3 : Int32) < nn v from fun q => by have := (nn_lt (a := 3) (by omega) (by omega)).mp q; omega)]
