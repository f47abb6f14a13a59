/-! the list of statements up to its closing sign -/
def Wu (W : Nat → Nat) (j x : Nat) : Nat → Nat := fun i => if i = j then x else W i
theorem Wu_s {W : Nat → Nat} {j x : Nat} : Wu W j x j = x := if_pos rfl
theorem Wu_n {W : Nat → Nat} {j x i : Nat} (h : i ≠ j) : Wu W j x i = W i := if_neg h
theorem yc_mono {P nb j j1 b b1 a k : Nat} (h1 : j ≤ j1) (h2 : b ≤ b1) (q : YC P nb j1 b1 a k ∨ (a = nb + j ∧ k = 9)) : YC P nb j b a k := by
  unfold YC Ec at q ⊢
  omega
theorem ym_mono {h j j1 e0 e1 o la li a k : Nat} (h1 : j ≤ j1) (h2 : e0 ≤ e1) (h3 : j < 64) (q : YM h j1 e1 o 224 (64 * h + j) a k) : YM h j e0 o la li a k := by
  unfold YM at q ⊢
  omega
set_option maxHeartbeats 8000000 in
theorem zl_loop {N nu len P : Nat} {tx : Nat → Nat} {nb h o E jE cl sa si : Nat} {K0 : Nat → Nat} {rec : Int32 → Sr → Dat → Option (Sum Nat (Option Nat) × Sr × Dat)} (hN : 1000 ≤ N) (hcl : (o = 0 ∧ cl = 0) ∨ (1 ≤ o ∧ cl = 125)) (hst : ZSt N nu len P tx nb h o E jE K0 (f_X5_readStatement rec N nu)) : ∀ (g kk p e t v j b w la li pl : Nat) (x2 x3 : Option Nat) (W : Nat → Nat) (x1 : Int32) (S : Sr) (C M : Dat), 240 - p < g → 4 * kk ≤ p → SPre nu len P tx nb h o p e t v j b w E jE sa si la li K0 W S C M → Pd nb h o j sa si la li pl x2 x3 C M → (o = 0 → x1 = 0 → ¬ (t = 4 ∧ 1 ≤ v ∧ v ≤ 3)) → LBad N P nb h o p j b (260 * h + b + w) la li K0 x1 C M (f_X5_readStatements_s_b7 rec N nu g (nn cl) x2 x3 (nn kk) S C) pl ∨ (LGood N nu len P tx nb h o p j b w la li E jE cl K0 W x1 C M (f_X5_readStatements_s_b7 rec N nu g (nn cl) x2 x3 (nn kk) S C) pl (lkO sa si la li pl x3) (fun fr => x3 ≠ none → fr = x2)) := by
  intro g
  induction g with
  | zero => intro kk p e t v j b w la li pl x2 x3 W x1 S C M h; omega
  | succ g ih =>
    intro kk p e t v j b w la li pl x2 x3 W x1 S C M hg hkk hp hPd hd
    obtain ⟨⟨hR, hS, ⟨s1, s2, s3, s4⟩, ⟨s5, s6, s7⟩, s8⟩, hB, hL, hjE, hWp⟩ := id hp
    have hp240 : p ≤ 240 := by have := hR.2.2.2.1; have := hR.1.1.1.1; omega
    have hnb : 266 ≤ nb := hS.2.2.2.1
    have htl := zx_tok_lt hR.2.2.2
    rw [f_X5_readStatements_s_b7, if_neg (show ¬ (240 : Int32) ≤ nn kk from fun q => by have := (nn_le (a := 240) (by omega) (by omega)).mp q; omega), hR.2.1.2.2.1]
    have ecl : nn (zl_ck t v) = nn cl ↔ t = cl := by
      rcases hcl with ⟨_, c⟩ | ⟨_, c⟩
      · rw [c]
        exact zx_tk012 (s := 0) htl (by decide)
      · rw [c]; exact zx_tkC htl rfl
    by_cases htc : t = cl
    · rw [if_pos (ecl.mpr htc)]
      subst htc
      right
      refine ⟨x2, S, C, M, p, e, v, j, b, w, 0, W, x1, rfl, hp.1, by omega, fun _ => rfl, Ch.rf, Ch.rf, RP.rf (fun _ => rfl), fun g => rfl, fun i g1 g2 => absurd g2 (by omega), ?_, ?_, fun _ _ => rfl, fun _ => rfl, fun i k i' g1 g2 => absurd g2 (by omega)⟩
      · rcases hPd with ⟨a1, a2, a3, a4, a5, a6, a7⟩ | ⟨y, a1, a2, a3, a4, a5, a6, a7, a8⟩
        · rw [a1]
          exact Or.inl ⟨a2, a6⟩
        · rw [a2]
          refine Or.inl ⟨?_, ?_⟩
          · show dR C pl 9 = none
            rw [a8]; exact a6
          · show dI M la li = -1
            rw [a3, a4]; exact a7
      · intro i' q
        exfalso
        rcases hPd with ⟨a1, a2, a3, a4, a5, a6, a7⟩ | ⟨y, a1, a2, a3, a4, a5, a6, a7, a8⟩
        · rw [a1] at q
          have q' : x2 = some (nb + i') := q
          rw [a2] at q'
          exact absurd q' (by simp)
        · rw [a2] at q
          have q' : dR C pl 9 = some (nb + i') := q
          rw [a8, a6] at q'
          exact absurd q' (by simp)
    · rw [if_neg (fun q => htc (ecl.mp q))]
      have hla := hL.la hB
      have hla' : (la = 222 ∨ la = 223 ∨ la = 224) ∨ la = 227 ∨ la = 228 := by omega
      have hPP := hR.1.2.2.2.2.1.1
      have hpl : nb ≤ pl := by
        rcases hPd with ⟨a1, a2, a3, a4, a5, a6, a7⟩ | ⟨y, a1, a2, a3, a4, a5, a6, a7, a8⟩ <;> omega
      have hps := fun gg => zl_ps (N := N) (g := gg) (x1 := x1) hR s8 hcl htc hd
      rcases hst p e t v j b w sa si la li W (if o = 0 then 1 else x1) S C M hp with ⟨S', C', M', q, k, r1, r2, r3, r4, r5, r6, r7⟩ | ⟨S1, C1, M1, p1, e1, t1, v1, j1, b1, w1, k, W1, r1, r2, r3, r4, r5, r6, r7, r8, r9, r10, r11, r12, r13, r14, r15⟩
      · left
        refine ⟨S', C', M', q, k + 1, by rw [r1, sb2_l], r2, r3, r4.mono (fun a k q => Or.inl q), r5, ?_, fun gg => ?_⟩
        · -- the statement's own failing takes at most one round more
          have := r6
          omega
        · rw [show gg + (k + 1) = (gg + k) + 1 by omega, hps]
          exact r7 gg
      · rw [r1, sb2_r]
        obtain ⟨q1, q2, ⟨q3, q4, q5, q6⟩, ⟨q7, q8, q9⟩, q10⟩ := id r2
        have ho8 : o ≤ 8 := q1.1.2.2.2.1.1
        have hj1 : j1 ≤ 60 := by have := q1.2.2.2.1; have := q1.1.1.1.1; omega
        have sR5 : ∀ x, x < 26 → dI M1 229 x = 5 → dI M 229 x = 5 := fun x hx q => by
          rcases r6 x hx with ⟨_, b⟩ | b
          · rw [b] at q; exact absurd q (by decide)
          · rw [← b]; exact q
        -- the class's memory with the link from the statement ahead
        have key : ∀ (C1' : Dat) (x2' : Option Nat), Ch (fun a k => a = pl ∧ k = 9 ∧ pl < nb + j) C1 C1' → (x3 = none → x2' = some (nb + j)) → (x3 ≠ none → x2' = x2 ∧ dR C1' pl 9 = some (nb + j)) → LBad N P nb h o p j b (260 * h + b + w) la li K0 x1 C M (f_X5_readStatements_s_b7 rec N nu g (nn cl) x2' (some (nb + j)) (nn kk + 1) S1 C1') pl ∨ (LGood N nu len P tx nb h o p j b w la li E jE cl K0 W x1 C M (f_X5_readStatements_s_b7 rec N nu g (nn cl) x2' (some (nb + j)) (nn kk + 1) S1 C1') pl (lkO sa si la li pl x3) (fun fr => x3 ≠ none → fr = x2)) := by
          intro C1' x2' cx hx1 hx2
          have hSi : Si nu len P tx nb h o p1 e1 t1 v1 j1 b1 w1 K0 S1 C1' M1 := ⟨q1.kept cx (Ch.rf (P := fun _ _ => False)) (fun a k q => by unfold RRc; omega) (fun a k q => q.elim), q2, ⟨q3, q4, q5, q6⟩, ⟨by rw [cx.i (by omega)]; exact q7, q8, q9⟩, q10⟩
          have hB1 : Bk h o j1 sa si M1 := by
            have e231 : dI M1 231 o = dI M 231 o := r5.i (by unfold YM; omega)
            have e232 : dI M1 232 o = dI M 232 o := r5.i (by unfold YM; omega)
            unfold Bk at hB ⊢
            rw [e231, e232]
            rcases hB with u | ⟨u1, u2, y, u3, u4, u5⟩ | ⟨u1, u2, y, u3, u4, u5⟩ | ⟨u1, u2, y, u3, u4, u5⟩
            · exact Or.inl u
            · exact Or.inr (Or.inl ⟨u1, u2, y, u3, u4, u5⟩)
            · exact Or.inr (Or.inr (Or.inl ⟨u1, u2, y, by omega, u4, u5⟩))
            · exact Or.inr (Or.inr (Or.inr ⟨u1, u2, y, by omega, u4, u5⟩))
          have hSP : SPre nu len P tx nb h o p1 e1 t1 v1 j1 b1 w1 E jE sa si 224 (64 * h + j) K0 W1 S1 C1' M1 := ⟨hSi, hB1, Or.inr ⟨j, r3.1, r11.2, rfl, rfl⟩, by omega, fun x hx q i' q' => by
            have q' : dR C (P + 1) x = some (nb + i') := by
              rw [cx.r (by omega), r4.r (by unfold YC Ec; omega)] at q'
              exact q'
            have := hWp x hx (sR5 x hx q) i' q'
            rw [r13 i' (by omega)]
            exact this⟩
          have hPd1 : Pd nb h o j1 sa si 224 (64 * h + j) (nb + j) x2' (some (nb + j)) C1' M1 := Or.inr ⟨j, r3.1, rfl, rfl, rfl, r11.2, by rw [cx.r (by omega)]; exact r10.1, r10.2, rfl⟩
          have cC1 : Ch (fun a k => YC P nb j b a k ∨ (a = pl ∧ k = 9)) C C1' := (r4.mono (fun a k q => Or.inl q)).tr (cx.mono (fun a k q => Or.inr ⟨q.1, q.2.1⟩))
          have fC : ∀ a k, (YC P nb j1 b1 a k ∨ (a = nb + j ∧ k = 9)) → (YC P nb j b a k ∨ (a = pl ∧ k = 9)) := fun a k q => Or.inl (yc_mono (by omega) (by omega) q)
          have fM : ∀ a k, YM h j1 (260 * h + b1 + w1) o 224 (64 * h + j) a k → YM h j (260 * h + b + w) o la li a k := fun a k q => ym_mono (by omega) (by omega) (by omega) q
          rw [nn_1]
          rcases ih (kk + 1) p1 e1 t1 v1 j1 b1 w1 224 (64 * h + j) (nb + j) x2' (some (nb + j)) W1 (if o = 0 then 1 else x1) S1 C1' M1 (by omega) (by omega) hSP hPd1 (fun a b => by rw [if_pos a] at b; exact absurd b (by decide)) with ⟨S', C', M', q, k2, u1, u2, u3, u4, u5, u6, u7⟩ | ⟨fr, S', C', M', p', e', v', j', b', w', k2, W2, x1', u1, u2, u3, u4, u5, u6, u7, u8, u9, u10, u11, u12, u13, u14⟩
          · left
            refine ⟨S', C', M', q, k2 + (k + 1), u1, u2, ⟨u3.1, u3.2.1, by omega, u3.2.2.2⟩, cC1.tr (u4.mono fC), r5.tr (u5.mono fM), by omega, fun gg => ?_⟩
            rw [show gg + (k2 + (k + 1)) = ((gg + k2) + k) + 1 by omega, hps]
            exact (r7 (gg + k2)).trans (u7 gg)
          · right
            have hj' : j' ≤ 60 := by have := u2.1.2.2.2.1; have := u2.1.1.1.1.1; have := u2.2.2.1.2.2.2; omega
            have hKp : Kp P nb h j1 b1 (260 * h + b1 + w1) C1 M1 C' M' := zl_kp (o := o) (la := 224) (li := 64 * h + j) hnb hPP (by omega) ((cx.mono (Q := fun a k => YC P nb j1 b1 a k ∨ (nb ≤ a ∧ k = 9)) (fun a k q => Or.inr ⟨q.1 ▸ hpl, q.2.1⟩)).tr (u5.mono (fun a k q => q.elim Or.inl (fun z => Or.inr ⟨z.1 ▸ Nat.le_add_right _ _, z.2⟩)))) u6 u7
            have mK : ∀ a i, 216 ≤ a → a ≤ 223 → i < j1 → dI M' a (64 * h + i) = dI M1 a (64 * h + i) := fun a i g1 g2 g3 => u6.i (by unfold YM; omega)
            have mN : ∀ i, i < j1 → i ≠ j → dI M' 224 (64 * h + i) = dI M1 224 (64 * h + i) := fun i g1 g2 => u6.i (by unfold YM; omega)
            have cN : ∀ i, i < j1 → i ≠ j → (x3 = none ∨ pl ≠ nb + i) → dR C' (nb + i) 9 = dR C1 (nb + i) 9 := fun i g1 g2 g3 => by
              rw [u5.r (by unfold YC Ec; omega)]
              by_cases z : pl = nb + i
              · rcases g3 with q | q
                · rw [cx.r (by
                    rcases hPd with ⟨a1, a2, a3, a4, a5, a6, a7⟩ | ⟨y, a1, a2, a3, a4, a5, a6, a7, a8⟩
                    · omega
                    · rw [q] at a2; exact absurd a2 (by simp))]
                · exact absurd z q
              · rw [cx.r (by omega)]
            have plj : pl ≤ nb + j := by rcases hPd with ⟨a1, a2, a3, a4, a5, a6, a7⟩ | ⟨y, a1, a2, a3, a4, a5, a6, a7, a8⟩ <;> omega
            have w2 : ∀ i, i < j1 → W2 i = W1 i := u12
            refine ⟨fr, S', C', M', p', e', v', j', b', w', k2 + (k + 1), Wu W2 j (p' + E - p - 1), x1', u1, u2, by omega, fun q => by rw [u4 q, if_neg q], cC1.tr (u5.mono fC), r5.tr (u6.mono fM), r6.tr u7, fun gg => ?_, fun i g1 g2 => ?_, ?_, ?_, fun i hi => ?_, ?_, fun i k' i' g1 g2 g3 q => ?_⟩
            · rw [show gg + (k2 + (k + 1)) = ((gg + k2) + k) + 1 by omega, hps]
              exact (r7 (gg + k2)).trans (u8 gg)
            · by_cases g3 : i < j1
              · have hFs : Fs nu P nb h j' b' (260 * h + b' + w') C' M' i := (r8 i g1 g3).kp hKp g3 (by omega) (by omega) (fun a h1 h2 => mK a i h1 h2 g3)
                by_cases ij : i = j
                · subst ij
                  refine ⟨hFs, u10, ?_, fun i' q => ?_⟩
                  · refine (r12 (p' + E - p - 1) (by omega)).kp hKp g3 (by rw [Wu_s]; exact Nat.le_refl _) (fun i' h1 h2 => ?_) (fun i' h1 => ?_)
                    · rw [Wu_n (by omega)]
                      refine w2 i' ?_
                      rcases h2 with h2 | h2
                      · exact r15.2 i 6 i' (Nat.le_refl _) g3 (by omega) h2
                      · exact r15.2 i 7 i' (Nat.le_refl _) g3 (by omega) h2
                    · rw [Wu_n (by omega)]
                      exact w2 i' (by omega)
                  · have := u11 i' q
                    rw [Wu_n (by omega), Wu_s]
                    omega
                · obtain ⟨n1, n2, n3⟩ := r9 i (by omega) g3
                  have cn := cN i g3 ij (Or.inr (by omega))
                  refine ⟨hFs, ?_, ?_, fun i' q => ?_⟩
                  · unfold Nx
                    rw [cn, mN i g3 ij]
                    exact n1.mono (by omega)
                  · refine n2.kp hKp g3 (by rw [Wu_n ij, w2 i g3]; exact Nat.le_refl _) (fun i' h1 h2 => ?_) (fun i' h1 => ?_)
                    · rw [Wu_n (by omega)]
                      refine w2 i' ?_
                      rcases h2 with h2 | h2
                      · exact r15.2 i 6 i' g1 g3 (by omega) h2
                      · exact r15.2 i 7 i' g1 g3 (by omega) h2
                    · rw [Wu_n (by omega)]
                      exact w2 i' (by omega)
                  · rw [cn] at q
                    have q1 := n3 i' q
                    have q2 := r15.2 i 9 i' g1 g3 (by omega) q
                    rw [Wu_n (by omega), Wu_n ij, w2 i' q2, w2 i g3]
                    exact q1
              · obtain ⟨n1, n2, n3, n4⟩ := u9 i (by omega) g2
                refine ⟨n1, n2, ⟨fun i' q => ?_, fun q x hx q2 i' q3 => ?_⟩, fun i' q => ?_⟩
                · have := n3.1 i' q
                  rw [Wu_n (by omega), Wu_n (by omega)]
                  exact this
                · have := n3.2 q x hx q2 i' q3
                  rw [Wu_n (by omega), Wu_n (by omega)]
                  exact this
                · have := n4 i' q
                  rw [Wu_n (by omega), Wu_n (by omega)]
                  exact this
            · rcases hPd with ⟨a1, a2, a3, a4, a5, a6, a7⟩ | ⟨y, a1, a2, a3, a4, a5, a6, a7, a8⟩
              · rw [a1]
                refine Or.inr ⟨j, by omega, ?_, ?_⟩
                · show fr = some (nb + j)
                  rw [u13 (by simp), hx1 a1]
                · show dI M' sa si = nn (64 * h + j)
                  rw [← a3, ← a4, u6.i (by unfold YM; omega)]
                  exact r11.1
              · rw [a2]
                refine Or.inr ⟨j, by omega, ?_, ?_⟩
                · show dR C' pl 9 = some (nb + j)
                  rw [u5.r (by unfold YC Ec; omega)]
                  exact (hx2 (by rw [a2]; simp)).2
                · show dI M' la li = nn (64 * h + j)
                  rw [u6.i (by unfold YM; omega)]
                  exact r11.1
            · intro i' q
              have q' : i' = j := by
                rcases hPd with ⟨a1, a2, a3, a4, a5, a6, a7⟩ | ⟨y, a1, a2, a3, a4, a5, a6, a7, a8⟩
                · rw [a1] at q
                  have q' : fr = some (nb + i') := q
                  rw [u13 (by simp), hx1 a1] at q'
                  have := Option.some.inj q'
                  omega
                · rw [a2] at q
                  have q' : dR C' pl 9 = some (nb + i') := q
                  rw [u5.r (by unfold YC Ec; omega), (hx2 (by rw [a2]; simp)).2] at q'
                  have := Option.some.inj q'
                  omega
              rw [q', Wu_s]
              omega
            · rw [Wu_n (by omega), w2 i (by omega)]
              exact r13 i hi
            · intro q
              rw [u13 (by simp)]
              exact (hx2 q).1
            · by_cases g4 : i < j1
              · by_cases ij : k' = 9 ∧ i = j
                · obtain ⟨rfl, rfl⟩ := ij
                  rcases u10 with z | ⟨y, y1, y2, y3⟩
                  · have z1 : dR C' (nb + i) 9 = none := z.1
                    rw [z1] at q; exact absurd q (by simp)
                  · have y2' : dR C' (nb + i) 9 = some (nb + y) := y2
                    rw [y2'] at q
                    have := Option.some.inj q
                    omega
                · have q2 : dR C1 (nb + i) k' = some (nb + i') := by
                    by_cases e9 : k' = 9
                    · rw [e9] at q
                      rw [e9, ← cN i g4 (by omega) (Or.inr (by omega))]
                      exact q
                    · rw [← hKp.2.1 i k' g4 e9]
                      exact q
                  have := r15.2 i k' i' g1 g4 g3 q2
                  omega
              · exact u14 i k' i' (by omega) g2 g3 q
        unfold f_X5_readStatements_s_b45
        rcases hPd with ⟨a1, a2, a3, a4, a5, a6, a7⟩ | ⟨y, a1, a2, a3, a4, a5, a6, a7, a8⟩
        · subst a1
          exact key C1 (some (nb + j)) Ch.rf (fun _ => rfl) (fun q => absurd rfl q)
        · subst a2
          show LBad N P nb h o p j b (260 * h + b + w) la li K0 x1 C M (if kd S1.2.1 (nb + y) = 7 then _ else _) pl ∨ LGood N nu len P tx nb h o p j b w la li E jE cl K0 W x1 C M (if kd S1.2.1 (nb + y) = 7 then _ else _) pl _ _
          have kd7 : kd S1.2.1 (nb + y) = 7 := by
            rw [kd, if_neg (by unfold NS; omega)]
            exact q2.2.2.2.2.1 (nb + y) (by omega) (by omega)
          rw [if_pos kd7]
          subst a8
          exact key _ x2 (Ch.sR (by omega) Ch.rf) (fun q => absurd q (by simp)) (fun _ => ⟨rfl, by rw [dR_s, if_pos ⟨rfl, rfl⟩]⟩)
