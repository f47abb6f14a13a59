/-! the block of a proc -/
def BPre1 (nu len P : Nat) (tx : Nat → Nat) (nb h o p e t v jj b w E jE y : Nat) (K0 : Nat → Nat) (W : Nat → Nat) (S : Sr) (C M : Dat) : Prop := Rd nu len P tx o p e t v C M ∧ Sk nb jj K0 S ∧ (dI M 207 33 = nn (64 * h + jj) ∧ dI M 207 35 = nn h ∧ h ≤ 1 ∧ 4 * jj ≤ p + 1) ∧ (dI C P 5 = nn b ∧ dI M 207 34 = nn (260 * h + b + w) ∧ b + w ≤ p + 1) ∧ dI M 207 44 = nn (o + 1) ∧ (dI M 227 (26 * h + y) = -1 ∧ jE ≤ jj) ∧ ∀ x, x < 26 → dI M 229 x = 5 → ∀ i', dR C (P + 1) x = some (nb + i') → i' < jE ∧ W i' + 5 ≤ E
set_option maxHeartbeats 4000000 in
theorem zs_blk1 {N nu len P : Nat} {tx : Nat → Nat} {nb h o p e t v jj b w E jE y : Nat} {K0 W : Nat → Nat} {x1 : Int32} {rec : Int32 → Sr → Dat → Option (Sum Nat (Option Nat) × Sr × Dat)} (hN : 1000 ≤ N) (hrec : o < 8 → ZL N nu len P tx nb h (o + 1) E jE K0 125 (rec 125)) (hy : y < 26) {S : Sr} {C M : Dat} (hp : BPre1 nu len P tx nb h o p e t v jj b w E jE y K0 W S C M) : (∃ S' C' M' q k, f_X5_readBlock rec nu S C = some (.inl 4, S', C') ∧ (∀ a, a < nb → S'.2.1 a = K0 a) ∧ (dI C' 3 7 = nn q ∧ dI M' 207 40 = nn q ∧ p ≤ q ∧ q ≤ 240) ∧ Ch (YC P nb jj b) C C' ∧ Ch (BM h jj (260 * h + b + w) o 227 (26 * h + y)) M M' ∧ k + p ≤ q + 2 ∧ ∀ g, (f_X12_block N (nn 1) (nn y) M).bind (fun M1 => f_X12_parse_b118 N (g + k) x1 M1) = some M') ∨ (∃ fr S' C' M' p' e' t' v' j' b' w' k W', f_X5_readBlock rec nu S C = some (.inr fr, S', C') ∧ Si nu len P tx nb h o p' e' t' v' j' b' w' K0 S' C' M' ∧ (jj ≤ j' ∧ p + 2 ≤ p' ∧ k + p + 1 ≤ p' ∧ b ≤ b' ∧ b + w ≤ b' + w' ∧ p' ≤ 240) ∧ Ch (YC P nb jj b) C C' ∧ Ch (BM h jj (260 * h + b + w) o 227 (26 * h + y)) M M' ∧ RP M M' ∧ (∀ g, (f_X12_block N (nn 1) (nn y) M).bind (fun M1 => f_X12_parse_b118 N (g + k) x1 M1) = f_X12_parse_b118 N g x1 (sI M' 229 y 5)) ∧ dI M' 231 (o + 1) = nn 1 ∧ (∀ i, jj ≤ i → i < j' → Fs nu P nb h j' b' (260 * h + b' + w') C' M' i ∧ Nx nb h j' C' M' i ∧ Wc P nb jE W' C' i) ∧ Lk nb h j' fr (dI M' 227 (26 * h + y)) ∧ (∀ i', fr = some (nb + i') → jj ≤ i' ∧ W' i' + 3 + p ≤ p' + E) ∧ (∀ i, i < jj → W' i = W i) ∧ (∀ i k i', jj ≤ i → i < j' → (k = 6 ∨ k = 7 ∨ k = 9) → dR C' (nb + i) k = some (nb + i') → i' < j')) := by
  obtain ⟨hR, hS, ⟨s1, s2, s3, s4⟩, ⟨s5, s6, s7⟩, s8, ⟨m2, hjE⟩, hWp⟩ := hp
  have hp240 : p ≤ 240 := by have := hR.2.2.2.1; have := hR.1.1.1.1; omega
  have ho := hR.1.2.2.2.1.1
  have hnb : 266 ≤ nb := hS.2.2.2.1
  have hjj : jj ≤ 60 := by omega
  have hSb := hS.sb (by omega)
  unfold f_X5_readBlock f_X12_block
  rcases zs_open (c := 123) hN hR hSb rfl with ⟨p1, e1, t1, v1, C1, M1, d1, d2, d3, d4, d5, d6, d7, d8⟩ | ⟨d1, d2⟩
  · have d1' : f_X5_openWith nu 123 S C = some (.inr (), S, C1) := d1
    have d2' : f_X12_opening N 123 M = some M1 := d2
    have hPP := hR.1.2.2.2.2.1.1
    have e44 : dI M1 207 44 = nn (o + 1) := by rw [d8.i (by omega)]; exact s8
    have io := nn_in (k := o + 1) (n := 10) (by omega) (by omega)
    -- the model's block
    have c2 : Ch (fun a k => ((a = 231 ∨ a = 232 ∨ a = 233) ∧ k = o + 1) ∨ (a = 207 ∧ k = 44)) M1 (sI (sI (sI (sI M1 231 (o + 1) (nn 1)) 232 (o + 1) (nn y)) 233 (o + 1) (-1)) 207 44 (nn (o + 1 + 1))) := Ch.sI (by omega) (Ch.sI (by omega) (Ch.sI (by omega) (Ch.sI (by omega) Ch.rf)))
    have blk : (if (dI M1 207 40) < 0 then (if (dI M1 207 44) < 0 ∨ 10 ≤ ((dI M1 207 44)).toNatClampNeg then none else (if (dI (sI M1 231 (dI M1 207 44).toNatClampNeg (nn 1)) 207 44) < 0 ∨ 10 ≤ ((dI (sI M1 231 (dI M1 207 44).toNatClampNeg (nn 1)) 207 44)).toNatClampNeg then none else (if (dI (sI (sI M1 231 (dI M1 207 44).toNatClampNeg (nn 1)) 232 (dI (sI M1 231 (dI M1 207 44).toNatClampNeg (nn 1)) 207 44).toNatClampNeg (nn y)) 207 44) < 0 ∨ 10 ≤ ((dI (sI (sI M1 231 (dI M1 207 44).toNatClampNeg (nn 1)) 232 (dI (sI M1 231 (dI M1 207 44).toNatClampNeg (nn 1)) 207 44).toNatClampNeg (nn y)) 207 44)).toNatClampNeg then none else (f_X12_block_b44 N (sI (sI (sI M1 231 (dI M1 207 44).toNatClampNeg (nn 1)) 232 (dI (sI M1 231 (dI M1 207 44).toNatClampNeg (nn 1)) 207 44).toNatClampNeg (nn y)) 233 (dI (sI (sI M1 231 (dI M1 207 44).toNatClampNeg (nn 1)) 232 (dI (sI M1 231 (dI M1 207 44).toNatClampNeg (nn 1)) 207 44).toNatClampNeg (nn y)) 207 44).toNatClampNeg (-1)))))) else (some M1)) = some (sI (sI (sI (sI M1 231 (o + 1) (nn 1)) 232 (o + 1) (nn y)) 233 (o + 1) (-1)) 207 44 (nn (o + 1 + 1))) := by
      have g1 : ∀ y, dI (sI M1 231 (o + 1) y) 207 44 = nn (o + 1) := fun y => by rw [dI_s, if_neg (by omega)]; exact e44
      have g2 : ∀ y z, dI (sI (sI M1 231 (o + 1) y) 232 (o + 1) z) 207 44 = nn (o + 1) := fun y z => by rw [dI_s, if_neg (by omega)]; exact g1 y
      have g3 : ∀ y z x, dI (sI (sI (sI M1 231 (o + 1) y) 232 (o + 1) z) 233 (o + 1) x) 207 44 = nn (o + 1) := fun y z x => by rw [dI_s, if_neg (by omega)]; exact g2 y z
      have no : (nn (o + 1)).toNatClampNeg = o + 1 := nn_nat (by omega)
      have io' : ¬ (nn (o + 1) < 0 ∨ 10 ≤ o + 1) := by have := io; rw [no] at this; exact this
      unfold f_X12_block_b44
      simp only [d6.1.2.2.1, if_pos (show (-1 : Int32) < 0 by decide), e44, no, io', if_false, g1, g2, g3, nn_1]
    rw [d1', sb2_r, d2']
    show (∃ S' C' M' q k, _ ∧ _ ∧ _ ∧ _ ∧ _ ∧ _ ∧ ∀ g, (((some M1).bind _).bind _) = some M') ∨ _
    have hbl : ∀ (f : Dat → Option Dat), ((some M1).bind (fun p1 => if (dI p1 207 40) < 0 then (if (dI p1 207 44) < 0 ∨ 10 ≤ ((dI p1 207 44)).toNatClampNeg then none else (if (dI (sI p1 231 (dI p1 207 44).toNatClampNeg (nn 1)) 207 44) < 0 ∨ 10 ≤ ((dI (sI p1 231 (dI p1 207 44).toNatClampNeg (nn 1)) 207 44)).toNatClampNeg then none else (if (dI (sI (sI p1 231 (dI p1 207 44).toNatClampNeg (nn 1)) 232 (dI (sI p1 231 (dI p1 207 44).toNatClampNeg (nn 1)) 207 44).toNatClampNeg (nn y)) 207 44) < 0 ∨ 10 ≤ ((dI (sI (sI p1 231 (dI p1 207 44).toNatClampNeg (nn 1)) 232 (dI (sI p1 231 (dI p1 207 44).toNatClampNeg (nn 1)) 207 44).toNatClampNeg (nn y)) 207 44)).toNatClampNeg then none else (f_X12_block_b44 N (sI (sI (sI p1 231 (dI p1 207 44).toNatClampNeg (nn 1)) 232 (dI (sI p1 231 (dI p1 207 44).toNatClampNeg (nn 1)) 207 44).toNatClampNeg (nn y)) 233 (dI (sI (sI p1 231 (dI p1 207 44).toNatClampNeg (nn 1)) 232 (dI (sI p1 231 (dI p1 207 44).toNatClampNeg (nn 1)) 207 44).toNatClampNeg (nn y)) 207 44).toNatClampNeg (-1)))))) else (some p1))).bind f = f (sI (sI (sI (sI M1 231 (o + 1) (nn 1)) 232 (o + 1) (nn y)) 233 (o + 1) (-1)) 207 44 (nn (o + 1 + 1))) := fun f => by
      rw [bS, blk, bS]
    have w231 : dI (sI (sI (sI (sI M1 231 (o + 1) (nn 1)) 232 (o + 1) (nn y)) 233 (o + 1) (-1)) 207 44 (nn (o + 1 + 1))) 231 (o + 1) = nn 1 := by rw [dI_s, if_neg (by omega), dI_s, if_neg (by omega), dI_s, if_neg (by omega), dI_s, if_pos ⟨rfl, rfl⟩]
    have w232 : dI (sI (sI (sI (sI M1 231 (o + 1) (nn 1)) 232 (o + 1) (nn y)) 233 (o + 1) (-1)) 207 44 (nn (o + 1 + 1))) 232 (o + 1) = nn y := by rw [dI_s, if_neg (by omega), dI_s, if_neg (by omega), dI_s, if_pos ⟨rfl, rfl⟩]
    have w233 : dI (sI (sI (sI (sI M1 231 (o + 1) (nn 1)) 232 (o + 1) (nn y)) 233 (o + 1) (-1)) 207 44 (nn (o + 1 + 1))) 233 (o + 1) = -1 := by rw [dI_s, if_neg (by omega), dI_s, if_pos ⟨rfl, rfl⟩]
    have w44 : dI (sI (sI (sI (sI M1 231 (o + 1) (nn 1)) 232 (o + 1) (nn y)) 233 (o + 1) (-1)) 207 44 (nn (o + 1 + 1))) 207 44 = nn (o + 1 + 1) := by rw [dI_s, if_pos ⟨rfl, rfl⟩]
    generalize sI (sI (sI (sI M1 231 (o + 1) (nn 1)) 232 (o + 1) (nn y)) 233 (o + 1) (-1)) 207 44 (nn (o + 1 + 1)) = M2 at *
    have cMM2 : Ch (fun a k => (a = 207 ∧ ((36 ≤ k ∧ k ≤ 41) ∨ k = 44)) ∨ ((a = 231 ∨ a = 232 ∨ a = 233) ∧ k = o + 1)) M M2 := (d8.mono (fun a k q => by omega)).tr (c2.mono (fun a k q => by omega))
    have fC1 : Ch (YC P nb jj b) C C1 := d7.mono (fun a k q => Or.inl q)
    have fM2 : Ch (BM h jj (260 * h + b + w) o 227 (26 * h + y)) M M2 := cMM2.mono (fun a k q => by clear hPP; unfold BM; omega)
    have hSP : SPre nu len P tx nb h (o + 1) p1 e1 t1 v1 jj b w E jE 227 (26 * h + y) 227 (26 * h + y) K0 W S C1 M2 := by
      refine ⟨⟨d6.kept (Ch.rf (P := fun _ _ => False)) c2 (fun a k q => q.elim) (fun a k q => by unfold RRm; omega), hS, ⟨by rw [cMM2.i (by omega)]; exact s1, by rw [cMM2.i (by omega)]; exact s2, s3, by omega⟩, ⟨by rw [d7.i (by omega)]; exact s5, by rw [cMM2.i (by omega)]; exact s6, by omega⟩, w44⟩, ?_, Or.inl ⟨w233, rfl, rfl⟩, hjE, fun x hx q i' q' => ?_⟩
      · exact Or.inr (Or.inl ⟨w231, rfl, y, hy, w232, rfl⟩)
      · rw [cMM2.i (by omega)] at q
        rw [d7.r (by omega)] at q'
        exact hWp x hx q i' q'
    rcases hrec d5 p1 e1 t1 v1 jj b w 227 (26 * h + y) W x1 S C1 M2 hSP w233 (by rw [cMM2.i (by omega)]; exact m2) (fun q => absurd q (by omega)) with ⟨S', C', M', q, k, r1, r2, r3, r4, r5, r6, r7⟩ | ⟨fr, S2, C2, M3, p2, e2, v2, j2, b2, w2, k, W2, x1', r1, r2, r3, r4, r5, r6, r7, r8, r9, r10, r11, r12, -, r14⟩
    · left
      refine ⟨S', C', M', q, k, by rw [r1, sb2_l], r2, ⟨r3.1, r3.2.1, by omega, r3.2.2.2⟩, fC1.tr (r4.mono (fun a k q => yc_mono (Nat.le_refl _) (Nat.le_refl _) q)), fM2.tr (r5.mono (fun a k q => ym_BM q)), by omega, fun g => ?_⟩
      rw [hbl]
      exact r7 g
    · right
      obtain rfl := r4 (by omega)
      obtain ⟨q1, q2, ⟨q3, q4, q5, q6⟩, ⟨q7, q8, q9⟩, q10⟩ := id r2
      rw [r1, sb2_r]
      -- the closing sign
      obtain ⟨gB, gkC, gkM, gTk⟩ := id q1
      have c6 : dI C2 3 6 = nn 125 := by rw [gkC.2.2.1]; rfl
      have s5' : nn (o + 1) - (1 : Int32) = nn o := zs_n1 (by omega)
      have s5'' : nn (o + 1 + 1) - (1 : Int32) = nn (o + 1) := zs_n1 (by omega)
      have cc2 : Ch (fun a k => a = 3 ∧ k = 5) C2 (sI C2 3 5 (nn o)) := Ch.sI (by omega) Ch.rf
      have cm2 : Ch (fun a k => a = 207 ∧ (k = 44 ∨ k = 41)) M3 (sI (sI M3 207 44 (nn (o + 1))) 207 41 (nn o)) := Ch.sI (by omega) (Ch.sI (by omega) Ch.rf)
      have w41' : dI (sI M3 207 44 (nn (o + 1))) 207 41 = nn (o + 1) := by rw [dI_s, if_neg (by omega)]; exact gB.2.2.2.1.2.2
      have x44 : dI (sI (sI M3 207 44 (nn (o + 1))) 207 41 (nn o)) 207 44 = nn (o + 1) := by rw [dI_s, if_neg (by omega), dI_s, if_pos ⟨rfl, rfl⟩]
      have hB1 : Rb nu len P tx o e2 (sI C2 3 5 (nn o)) (sI (sI M3 207 44 (nn (o + 1))) 207 41 (nn o)) := by
        obtain ⟨⟨h1, h2⟩, ⟨h3, h4, h5⟩, h6, ⟨h7, h8, h9⟩, ⟨h10, h11⟩, ⟨h12, h13, h14⟩, h15⟩ := gB
        refine ⟨⟨h1.kept cc2 (fun a k w => by omega), h2.kept cm2 (fun a k w => by omega)⟩, ⟨h3, h4.kept cc2 (fun a k w => by unfold RTb; omega), by rw [cm2.i (by omega)]; exact h5⟩, by rw [cm2.i (by omega)]; exact h6, ⟨by omega, by rw [dI_s, if_pos ⟨rfl, rfl⟩], by rw [dI_s, if_pos ⟨rfl, rfl⟩]⟩, ⟨h10, h11⟩, ⟨h12, by rw [cc2.i (by omega)]; exact h13, by rw [cm2.i (by omega)]; exact h14⟩, fun y hy => ?_⟩
        rw [cc2.i (by omega), cc2.i (by omega), cc2.i (by omega), cm2.i (by omega), cm2.i (by omega)]
        exact h15 y hy
      obtain ⟨p3, e3, t3, v3, C3, M4, a1, a2, a3, a4, a5, a6, a7⟩ := zx_adv hN hB1
      have pe : p2 < e2 := gTk.2.1 (by omega)
      have cC3 : Ch (fun a k => a = 3 ∧ 5 ≤ k ∧ k ≤ 9) C2 C3 := (cc2.mono (fun a k q => by omega)).tr (a6.mono (fun a k q => by unfold QlC at q; omega))
      have cM4 : Ch (fun a k => a = 207 ∧ ((36 ≤ k ∧ k ≤ 41) ∨ k = 44)) M3 M4 := (cm2.mono (fun a k q => by omega)).tr (a7.mono (fun a k q => by unfold QlM at q; omega))
      have y44 : dI M4 207 44 = nn (o + 1) := by rw [a7.i (by unfold QlM; omega)]; exact x44
      have y231 : dI M4 231 (o + 1) = nn 1 := by rw [cM4.i (by omega), r6.i (by unfold YM; omega)]; exact w231
      have y232 : dI M4 232 (o + 1) = nn y := by rw [cM4.i (by omega), r6.i (by unfold YM; omega)]; exact w232
      have clo : f_X12_close N M3 = some (sI M4 229 y 5) := by
        unfold f_X12_close
        rw [q10, s5'', w41', s5', a2, bS, y44, if_neg io, if_neg io, nn_nat (by omega), y231, if_pos (show nn 1 = 1 from rfl), y232, if_neg (nn_in (k := y) (n := 26) (by omega) hy), nn_nat (by omega)]
        unfold f_X12_close_b54 f_X12_close_b111
        have z44 : dI (sI M4 229 y 5) 207 44 = nn (o + 1) := by rw [dI_s, if_neg (by omega)]; exact y44
        have z231 : dI (sI M4 229 y 5) 231 (o + 1) = nn 1 := by rw [dI_s, if_neg (by omega)]; exact y231
        rw [z44, if_neg io, nn_nat (by omega), z231, if_neg (show ¬ nn 1 = 2 by decide)]
      have hKp : Kp P nb h j2 b2 (260 * h + b2 + w2) C2 M3 C3 M4 := ⟨fun i k _ _ => cC3.i (by omega), fun i k _ _ => cC3.r (by omega), fun x => cC3.r (by omega), fun i _ => ⟨cC3.i (by omega), cC3.i (by omega)⟩, fun k _ _ => ⟨cM4.i (by omega), cM4.i (by omega)⟩, fun x _ => ⟨fun q => by rw [cM4.i (by omega)]; exact q, fun q => by rw [cM4.i (by omega)]; exact q, fun q => by rw [cM4.i (by omega)]; exact q, fun q => by rw [cM4.i (by omega)]; exact q⟩⟩
      refine ⟨fr, S2, C3, M4, p3, e3, t3, v3, j2, b2, w2, k + 1, W2, ?_, ⟨a5, q2, ⟨by rw [cM4.i (by omega)]; exact q3, by rw [cM4.i (by omega)]; exact q4, q5, by omega⟩, ⟨by rw [cC3.i (by omega)]; exact q7, by rw [cM4.i (by omega)]; exact q8, by omega⟩, y44⟩, by omega, ?_, ?_, ?_, fun g => ?_, y231, fun i g1 g2 => ?_, ?_, fun i' q => ?_, r12, fun i k' i' g1 g2 g3 q => ?_⟩
      · unfold f_X5_closeWith
        show sb2 (if dI C2 3 6 = nn 125 then _ else _) _ = _
        rw [if_pos c6, gB.2.2.2.1.2.1, s5', a1, bS, sb2_r]
      · exact fC1.tr ((r5.mono (fun a k q => yc_mono (Nat.le_refl _) (Nat.le_refl _) q)).tr (cC3.mono (fun a k q => Or.inl q)))
      · exact fM2.tr ((r6.mono (fun a k q => ym_BM q)).tr (cM4.mono (fun a k q => Or.inl (by omega))))
      · exact (RP.rf (fun x => cMM2.i (by omega))).tr (r7.tr (RP.rf (fun x => cM4.i (by omega))))
      · rw [hbl, show g + (k + 1) = (g + 1) + k by omega, r8]
        rw [f_X12_parse_b118, gB.2.2.1, if_neg m1_lt, q10, if_pos (show (1 : Int32) < nn (o + 1 + 1) from (nn_lt (a := 1) (by omega) (by omega)).mpr (by omega))]
        unfold f_X12_parse_b140
        rw [q10, if_neg (show ¬ nn (o + 1 + 1) ≤ 1 from fun q => by have := (nn_le (b := 1) (by omega) (by omega)).mp q; omega), gkM.2.2.1, if_pos (show nn (zl_mt 125) = 125 from rfl), clo, bS]
      · obtain ⟨n1, n2, n3, n4⟩ := r9 i g1 g2
        refine ⟨n1.kp hKp g2 (Nat.le_refl _) ⟨Nat.le_refl _, Nat.le_refl _⟩ (fun a _ _ => cM4.i (by omega)), ?_, n3.kp hKp g2 (Nat.le_refl _) (fun _ _ _ => rfl) (fun _ _ => rfl), fun i' q => n4 i' (by rw [← cC3.r (by omega)]; exact q)⟩
        unfold Nx
        rw [cC3.r (by omega), cM4.i (by omega)]
        exact n2
      · have e1 : dI M4 227 (26 * h + y) = dI M3 227 (26 * h + y) := cM4.i (by omega)
        rw [e1]
        exact r10
      · have := r11 i' q
        omega
      · rw [cC3.r (by omega)] at q
        exact r14 i k' i' g1 g2 g3 q
  · left
    have d1' : f_X5_openWith nu 123 S C = some (.inl 4, Sx S, C) := d1
    have d2' : f_X12_opening N 123 M = some (sI M 207 40 (nn p)) := d2
    have b40 : dI (sI M 207 40 (nn p)) 207 40 = nn p := by rw [dI_s, if_pos ⟨rfl, rfl⟩]
    refine ⟨Sx S, C, sI M 207 40 (nn p), p, 1, by rw [d1', sb2_l], hS.2.2.2.2.2, ⟨hR.2.1.1, b40, Nat.le_refl _, hp240⟩, Ch.rf, Ch.sI (Or.inl (by omega)) Ch.rf, by omega, fun g => ?_⟩
    rw [d2', bS, b40, if_neg (nn_nlt0 (by omega)), bS]
    exact zs_psB (q := p) (by omega) b40
