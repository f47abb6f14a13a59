/-! if -/
set_option maxHeartbeats 8000000 in
theorem zs_if {N nu len P : Nat} {tx : Nat → Nat} {nb h o p e j b w E jE sa si la li : Nat} {K0 W : Nat → Nat} {x1 : Int32} {rec : Int32 → Sr → Dat → Option (Sum Nat (Option Nat) × Sr × Dat)} (hN : 1000 ≤ N) (hrec : o < 8 → ZL N nu len P tx nb h (o + 1) E jE K0 125 (rec 125)) {S : Sr} {C M : Dat} (hp : SPre nu len P tx nb h o p e 4 4 j b w E jE sa si la li K0 W S C M) : SBad N P nb h o p j b (260 * h + b + w) la li K0 x1 C M (f_X5_readIf rec N nu S C) (fun f => (f_X12_statement N M).bind f) ∨ SGood N nu len P tx nb h o p j b (260 * h + b + w) la li E jE K0 W x1 C M (f_X5_readIf rec N nu S C) (fun f => (f_X12_statement N M).bind f) := by
  obtain ⟨S0, C0, C1, a1, a2, hkd, hh⟩ := zs_head (x1 := x1) (kM := 3) hN 16 (Or.inl ⟨rfl, rfl⟩) hp
  rcases hh with ⟨S', C', f1, f2⟩ | ⟨C3, M3, p3, e3, t3, v3, n, f1, f2, f3, ⟨g0, g1, g2, g3, g4, g5, g6⟩, f5, f6, f7, ⟨k1, k2, k3, k4, k5⟩, f9, ⟨n1, n2, n3, n4, n5, n6, n7, n8⟩, hla⟩
  · left
    refine f2 _ ?_
    unfold f_X5_readIf
    rw [a1, sb2_r, g_b64, a2, bS, f1, sb2_l]
  · have ho := hp.1.1.1.2.2.2.1.1
    obtain ⟨hjE, hWp⟩ := hp.2.2.2
    have cls : f_X5_readIf rec N nu S C = sb2 (f_X5_readBlock rec nu S0 (sI C3 (nb + j) 5 (nn (b + n)))) (fun p12 S14 D14 => if kd S14.2.1 (nb + j) = 7 then (if dI (sR D14 (nb + j) 6 p12) (nb + j) 0 = 16 then f_X5_else rec N nu (nb + j) S14 (sR D14 (nb + j) 6 p12) else f_X5_readIf_b53 rec N nu (some (nb + j)) S14 (sR D14 (nb + j) 6 p12)) else none) := by
      unfold f_X5_readIf
      rw [a1, sb2_r, g_b64, a2, bS, f1, sb2_r, if_pos hkd]
    have r9' : dR (sI C3 (nb + j) 5 (nn (b + n))) (nb + j) 9 = none := k5
    have r7' : dR (sI C3 (nb + j) 5 (nn (b + n))) (nb + j) 7 = none := k4
    generalize sI C3 (nb + j) 5 (nn (b + n)) = C3' at *
    rw [cls]
    rcases zs_blk (x1 := x1) hN hrec (Or.inl ⟨rfl, rfl⟩) f3 with ⟨S', C', M', q, k, r1, r2, r3, r4, r5, r6, r7⟩ | ⟨fr, S2, C2, M4, p4, e4, t4, v4, j4, b4, w4, k, W4, r1, r2, r3, r4, r5, r6, r7, r8, r9, r10, r11, r12, r13⟩
    · left
      refine ⟨S', C', M', q, k, by rw [r1, sb2_l], r2, ⟨r3.1, r3.2.1, by omega, r3.2.2.2⟩, f5.tr (r4.mono (fun a k q => yc_mono (by omega) (by omega) (Or.inl q))), f6.tr (r5.mono (fun a k q => bm_YM (by omega) (by omega) (by omega) q)), by omega, fun g => ?_⟩
      show (f_X12_statement N M).bind _ = _
      rw [f2]
      exact r7 g
    · obtain ⟨o1, o2, o3⟩ := zb_own (by omega) g1 g6 (Or.inl rfl) (by omega) r4 r5 r6
      have kd2 := zb_kd r2.2.1 (show j < j4 by omega)
      have cR : Ch (fun a k => a = nb + j ∧ k = 6) C2 (sR C2 (nb + j) 6 fr) := Ch.sR ⟨rfl, rfl⟩ Ch.rf
      have hl := zb_la (by omega) (Or.inl rfl) hla r5
      have e216 : dI M4 216 (64 * h + j) = nn 3 := by rw [o3 216 (by omega) (by omega) (by omega)]; exact n1
      obtain ⟨q1, q2, q3, q4, q5⟩ := id r2
      have k0 : Kp P nb h 0 b4 (260 * h + b4 + w4) C2 M4 (sR C2 (nb + j) 6 fr) M4 := ⟨fun i _ hi => absurd hi (by omega), fun i _ hi => absurd hi (by omega), fun x => cR.r (by omega), fun _ _ => ⟨rfl, rfl⟩, fun _ _ _ => ⟨rfl, rfl⟩, fun _ _ => ⟨id, id, id, id⟩⟩
      have ci : ∀ k, dI (sR C2 (nb + j) 6 fr) (nb + j) k = dI C2 (nb + j) k := fun k => rfl
      have ca : ∀ a k, dI (sR C2 (nb + j) 6 fr) a k = dI C2 a k := fun a k => rfl
      have cN : ∀ i k, i ≠ j → dR (sR C2 (nb + j) 6 fr) (nb + i) k = dR C2 (nb + i) k := fun i k hi => cR.r (by omega)
      have c6 : dR (sR C2 (nb + j) 6 fr) (nb + j) 6 = fr := by rw [dR_s, if_pos ⟨rfl, rfl⟩]
      have c7 : dR (sR C2 (nb + j) 6 fr) (nb + j) 7 = none := by rw [dR_s, if_neg (by omega), o2]; exact r7'
      have c9 : dR (sR C2 (nb + j) 6 fr) (nb + j) 9 = none := by rw [dR_s, if_neg (by omega), o2]; exact r9'
      have d0 : ∀ k, k ≠ 9 → dI C2 (nb + j) k = dI C3' (nb + j) k := fun k hk => o1.1 j k (by omega) hk
      have lkf : ∀ i', fr = some (nb + i') → i' < j4 := fun i' q => by
        rcases r10 with ⟨z, _⟩ | ⟨y, y1, y2, _⟩
        · rw [z] at q; exact absurd q (by simp)
        · rw [y2] at q
          have := Option.some.inj q
          omega
      have hR2 : Rd nu len P tx o p4 e4 t4 v4 (sR C2 (nb + j) 6 fr) M4 := q1.kept cR (Ch.rf (P := fun _ _ => False)) (fun a k q => by unfold RRc; omega) (fun a k q => q.elim)
      have fsE : FsE P h b4 (260 * h + b4 + w4) (sR C2 (nb + j) 6 fr) M4 (nb + j) (260 * h + b + w) := (f9.kp1 (o1.zero (Nat.le_refl _) (Nat.le_refl _)) (d0 4 (by omega)) (d0 5 (by omega)) (by omega)).kp1 k0 rfl rfl ⟨Nat.le_refl _, Nat.le_refl _⟩
      have fY : Ch (YC P nb j b) C (sR C2 (nb + j) 6 fr) := f5.tr ((r4.mono (fun a k q => yc_mono (by omega) (by omega) (Or.inl q))).tr (cR.mono (fun a k q => ya_YC q.1)))
      have fM : Ch (YM h j (260 * h + b + w) o la li) M M4 := f6.tr (r5.mono (fun a k q => bm_YM (by omega) (by omega) (by omega) q))
      have iw := zl_isW (j := 8) (by decide) hR2.2.1 hR2.2.2.2
      have k16 : dI (sR C2 (nb + j) 6 fr) (nb + j) 0 = 16 := by rw [ci 0, d0 0 (by omega)]; exact k1
      rw [r1, sb2_r, if_pos kd2, if_pos k16]
      unfold f_X5_else
      rw [iw, bS]
      by_cases el : t4 = 4 ∧ v4 = 5
      · -- else
        rw [if_pos (show t4 = 4 ∧ v4 = zl_kc 8 from el), if_neg (show ¬ (1 : Int32) = 0 by decide)]
        obtain ⟨el1, el2⟩ := el
        subst el1 el2
        obtain ⟨p5, e5, t5, v5, C5, M5, l1, l2, l3, l4, l5, l6, l7⟩ := zx_adv hN hR2.1
        have pe4 : p4 < e4 := hR2.2.2.2.2.1 (by decide)
        rw [l1, bS]
        have c5 : Ch (fun a k => a = nb + j ∧ k = 8) C5 (sI C5 (nb + j) 8 1) := Ch.sI ⟨rfl, rfl⟩ Ch.rf
        have m5 : Ch (fun a k => a = 219 ∧ k = 64 * h + j) M5 (sI M5 219 (64 * h + j) 1) := Ch.sI ⟨rfl, rfl⟩ Ch.rf
        have v219 : dI (sI M5 219 (64 * h + j) 1) 219 (64 * h + j) = 1 := by rw [dI_s, if_pos ⟨rfl, rfl⟩]
        have v8 : dI (sI C5 (nb + j) 8 1) (nb + j) 8 = 1 := by rw [dI_s, if_pos ⟨rfl, rfl⟩]
        have c54 : f_X12_close_b54 N (nn (64 * h + j)) M4 = f_X12_block N (nn 3) (nn (64 * h + j)) (sI M5 219 (64 * h + j) 1) := by
          have i128 : ¬ (nn (64 * h + j) < 0 ∨ 128 ≤ (nn (64 * h + j)).toNatClampNeg) := nn_in (k := 64 * h + j) (n := 128) (by omega) (by omega)
          have nm : (nn (64 * h + j)).toNatClampNeg = 64 * h + j := nn_nat (by omega)
          have i128' : ¬ (nn (64 * h + j) < 0 ∨ 128 ≤ 64 * h + j) := by have := i128; rw [nm] at this; exact this
          have e216' : dI M4 216 (64 * h + j) = 3 := e216
          have r8' : dI M4 231 (o + 1) = 2 := r8
          have k37 : dI M4 207 37 = 107 := hR2.2.2.1.2.2.1
          have k38 : dI M4 207 38 = 5 := hR2.2.2.1.2.2.2 (Or.inr (Or.inr rfl))
          unfold f_X12_close_b54 f_X12_close_b111
          rw [q5, if_neg (nn_in (k := o + 1) (n := 10) (by omega) (by omega)), nn_nat (by omega), r8', if_pos rfl, if_neg i128, nm, e216', if_pos rfl, k37, if_pos rfl, k38, if_pos rfl, l2, bS, if_neg i128', bI]
          rfl
        have cC : Ch (fun a k => QlC a k ∨ (a = nb + j ∧ k = 8)) (sR C2 (nb + j) 6 fr) (sI C5 (nb + j) 8 1) := (l6.mono (fun a k q => Or.inl q)).tr (c5.mono (fun a k q => Or.inr q))
        have cM : Ch (fun a k => QlM a k ∨ (a = 219 ∧ k = 64 * h + j)) M4 (sI M5 219 (64 * h + j) 1) := (l7.mono (fun a k q => Or.inl q)).tr (m5.mono (fun a k q => Or.inr q))
        have bp : BPre nu len P tx nb h o p5 e5 t5 v5 j4 b4 w4 E jE j 223 K0 W4 S2 (sI C5 (nb + j) 8 1) (sI M5 219 (64 * h + j) 1) := by
          refine ⟨l5.kept c5 m5 (fun a k q => by unfold RRc; omega) (fun a k q => by unfold RRm; omega), q2, ⟨by rw [cM.i (by unfold QlM; omega)]; exact q3.1, by rw [cM.i (by unfold QlM; omega)]; exact q3.2.1, g3, by omega⟩, ⟨by rw [cC.i (by unfold QlC; omega)]; exact q4.1, by rw [cM.i (by unfold QlM; omega)]; exact q4.2.1, by omega⟩, by rw [cM.i (by unfold QlM; omega)]; exact q5, ⟨by omega, ?_, by omega⟩, fun x hx q i' q' => ?_⟩
          · rw [cM.i (by unfold QlM; omega), o3 223 (by omega) (by omega) (by omega)]; exact n5
          · have q2' : dR C (P + 1) x = some (nb + i') := by
              rw [cC.r (by unfold QlC; omega), cR.r (by omega), o1.2.2.1 x, f5.r (by unfold YC Ec; omega)] at q'
              exact q'
            have q3' : dI M 229 x = 5 := by
              rw [cM.i (by unfold QlM; omega)] at q
              rcases (f7.tr r6) x hx with ⟨_, b'⟩ | b'
              · rw [b'] at q; exact absurd q (by decide)
              · rw [← b']; exact q
            have := hWp x hx q3' i' q2'
            rw [r12 i' (by omega)]
            exact this
        have x6 : dR (sI C5 (nb + j) 8 1) (nb + j) 6 = fr := by rw [cC.r (by unfold QlC; omega)]; exact c6
        have x9 : dR (sI C5 (nb + j) 8 1) (nb + j) 9 = none := by rw [cC.r (by unfold QlC; omega)]; exact c9
        have xi : ∀ k, k ≠ 8 → dI (sI C5 (nb + j) 8 1) (nb + j) k = dI C2 (nb + j) k := fun k hk => by rw [cC.i (by unfold QlC; omega)]; rfl
        have fY5 : Ch (YC P nb j b) C (sI C5 (nb + j) 8 1) := fY.tr (cC.mono (fun a k q => by rcases q with q | q; exact Or.inl (by unfold QlC at q; omega); exact ya_YC q.1))
        have fM5 : Ch (YM h j (260 * h + b + w) o la li) M (sI M5 219 (64 * h + j) 1) := fM.tr (cM.mono (fun a k q => by rcases q with q | q; exact Or.inl (by unfold QlM at q; omega); exact Or.inr (Or.inl (by omega))))
        have kp5 : Kp P nb h 0 b4 (260 * h + b4 + w4) (sR C2 (nb + j) 6 fr) M4 (sI C5 (nb + j) 8 1) (sI M5 219 (64 * h + j) 1) := ⟨fun i _ hi => absurd hi (by omega), fun i _ hi => absurd hi (by omega), fun x => cC.r (by unfold QlC; omega), fun i _ => ⟨cC.i (by unfold QlC; omega), cC.i (by unfold QlC; omega)⟩, fun k _ _ => ⟨cM.i (by unfold QlM; omega), cM.i (by unfold QlM; omega)⟩, fun x _ => ⟨fun q => by rw [cM.i (by unfold QlM; omega)]; exact q, fun q => by rw [cM.i (by unfold QlM; omega)]; exact q, fun q => by rw [cM.i (by unfold QlM; omega)]; exact q, fun q => by rw [cM.i (by unfold QlM; omega)]; exact q⟩⟩
        have cN5 : ∀ i k, i ≠ j → i < j4 → dR (sI C5 (nb + j) 8 1) (nb + i) k = dR C2 (nb + i) k := fun i k hi _ => by rw [cC.r (by unfold QlC; omega)]; exact cN i k hi
        have cI5 : ∀ i k, i ≠ j → i < j4 → dI (sI C5 (nb + j) 8 1) (nb + i) k = dI C2 (nb + i) k := fun i k hi _ => by rw [cC.i (by unfold QlC; omega)]; rfl
        have mI5 : ∀ a i, a ≠ 219 ∨ i ≠ j → 216 ≤ a → a ≤ 224 → dI (sI M5 219 (64 * h + j) 1) a (64 * h + i) = dI M4 a (64 * h + i) := fun a i h1 h2 h3 => cM.i (by unfold QlM; omega)
        generalize sI C5 (nb + j) 8 1 = C5' at *
        generalize sI M5 219 (64 * h + j) 1 = M5' at *
        rcases zs_blk (x1 := x1) hN hrec (Or.inr ⟨rfl, rfl⟩) bp with ⟨S', C', M', q, kk, s1, s2, s3, s4, s5, s6, s7⟩ | ⟨fr2, S6, C6, M6, p6, e6, t6, v6, j6, b6, w6, kk, W6, s1, s2, s3, s4, s5, s6, s7, s8, s9, s10, s11, s12, s13⟩
        · left
          refine ⟨S', C', M', q, kk + k, by rw [s1, sb2_l], s2, ⟨s3.1, s3.2.1, by omega, s3.2.2.2⟩, fY5.tr (s4.mono (fun a k q => yc_mono (by omega) (by omega) (Or.inl q))), fM5.tr (s5.mono (fun a k q => bm_YM (by omega) (by omega) (by omega) q)), by omega, fun g => ?_⟩
          show (f_X12_statement N M).bind _ = _
          have e1 := r7 (g + kk)
          rw [f2, show g + (kk + k) = g + kk + k by omega]
          rw [c54] at e1
          exact e1.trans (s7 g)
        · right
          obtain ⟨u1, u2, u3⟩ := zb_own (by omega) g1 g6 (Or.inr rfl) (by omega) s4 s5 s6
          have kd6 := zb_kd s2.2.1 (show j < j6 by omega)
          have cR6 : Ch (fun a k => a = nb + j ∧ k = 7) C6 (sR C6 (nb + j) 7 fr2) := Ch.sR ⟨rfl, rfl⟩ Ch.rf
          have hl6 := zb_la (by omega) (Or.inr rfl) hla s5
          have k6 : Kp P nb h 0 b6 (260 * h + b6 + w6) C6 M6 (sR C6 (nb + j) 7 fr2) M6 := ⟨fun i _ hi => absurd hi (by omega), fun i _ hi => absurd hi (by omega), fun x => cR6.r (by omega), fun _ _ => ⟨rfl, rfl⟩, fun _ _ _ => ⟨rfl, rfl⟩, fun _ _ => ⟨id, id, id, id⟩⟩
          have kp6 : Kp P nb h 0 b4 (260 * h + b4 + w4) C2 M4 (sR C6 (nb + j) 7 fr2) M6 := k0.tr (kp5.tr ((u1.zero (Nat.le_refl _) (Nat.le_refl _)).tr (k6.zero (by omega) (by omega))))
          have kpS : Kp P nb h 0 b4 (260 * h + b4 + w4) (sR C2 (nb + j) 6 fr) M4 (sR C6 (nb + j) 7 fr2) M6 := kp5.tr ((u1.zero (Nat.le_refl _) (Nat.le_refl _)).tr (k6.zero (by omega) (by omega)))
          have cN6 : ∀ i k, i ≠ j → dR (sR C6 (nb + j) 7 fr2) (nb + i) k = dR C6 (nb + i) k := fun i k hi => cR6.r (by omega)
          have x66 : dR (sR C6 (nb + j) 7 fr2) (nb + j) 6 = fr := by rw [dR_s, if_neg (by omega), u2]; exact x6
          have x67 : dR (sR C6 (nb + j) 7 fr2) (nb + j) 7 = fr2 := by rw [dR_s, if_pos ⟨rfl, rfl⟩]
          have x69 : dR (sR C6 (nb + j) 7 fr2) (nb + j) 9 = none := by rw [dR_s, if_neg (by omega), u2]; exact x9
          have xI : ∀ k, k ≠ 9 → k ≠ 8 → dI (sR C6 (nb + j) 7 fr2) (nb + j) k = dI C2 (nb + j) k := fun k h9 h8 => by
            show dI C6 (nb + j) k = _
            rw [u1.1 j k (by omega) h9]
            exact xi k h8
          have x8 : dI (sR C6 (nb + j) 7 fr2) (nb + j) 8 = 1 := by
            show dI C6 (nb + j) 8 = _
            rw [u1.1 j 8 (by omega) (by omega)]
            exact v8
          have e216' : dI M6 216 (64 * h + j) = nn 3 := by rw [u3 216 (by omega) (by omega) (by omega), mI5 216 j (by omega) (by omega) (by omega)]; exact e216
          have c546 : f_X12_close_b54 N (nn (64 * h + j)) M6 = some M6 := zb_54 (t := 0) (v := 0) s2.2.2.2.2 ho (by omega) e216' (Or.inr s8) (fun q => by rw [s8] at q; exact absurd q (by decide))
          obtain ⟨y1, y2, y3, y4, y5⟩ := id s2
          have lkf2 : ∀ i', fr2 = some (nb + i') → i' < j6 := fun i' q => by
            rcases s10 with ⟨z, _⟩ | ⟨y, z1, z2, _⟩
            · rw [z] at q; exact absurd q (by simp)
            · rw [z2] at q
              have := Option.some.inj q
              omega
          have e222 : dI M6 222 (64 * h + j) = dI M4 222 (64 * h + j) := by rw [u3 222 (by omega) (by omega) (by omega), mI5 222 j (by omega) (by omega) (by omega)]
          have w64 : ∀ i, i < j4 → W6 i = W4 i := s12
          refine zs_pack (p' := p6) (W' := W6) (k := kk + k) (by rw [s1, sb2_r, if_pos kd6]; rfl) ⟨y1.kept cR6 (Ch.rf (P := fun _ _ => False)) (fun a k q => by unfold RRc; omega) (fun a k q => q.elim), y2, y3, y4, y5⟩ (by omega) (fY5.tr ((s4.mono (fun a k q => yc_mono (by omega) (by omega) (Or.inl q))).tr (cR6.mono (fun a k q => ya_YC q.1)))) (fM5.tr (s5.mono (fun a k q => bm_YM (by omega) (by omega) (by omega) q))) (f7.tr (r6.tr ((RP.rf (fun x => cM.i (by unfold QlM; omega))).tr s6))) (fun g => ?_) ?_ (fun i h1 h2 => ?_) ⟨x69, ?_⟩ ⟨?_, ?_⟩ (by rw [xI 0 (by omega) (by omega), d0 0 (by omega), k1]; decide) (fun i' q => ?_) (fun i hi => ?_) (by rw [xI 1 (by omega) (by omega), d0 1 (by omega)]; exact k2) (fun i k' i' h1 h2 h3 q => ?_)
          · show (f_X12_statement N M).bind _ = _
            have e1 := r7 (g + kk)
            rw [f2, show g + (kk + k) = g + kk + k by omega]
            rw [c54] at e1
            have e2 := s7 g
            rw [c546, bS] at e2
            exact e1.trans e2
          · refine ⟨⟨p, g4, by rw [xI 1 (by omega) (by omega), d0 1 (by omega)]; exact k2, ?_⟩, ?_⟩
            · rw [u3 217 (by omega) (by omega) (by omega), mI5 217 j (by omega) (by omega) (by omega), o3 217 (by omega) (by omega) (by omega)]; exact n2
            · right; right; right; right; left
              refine ⟨by rw [xI 0 (by omega) (by omega), d0 0 (by omega)]; exact k1, e216', ⟨260 * h + b + w, ?_, fsE.kp1 kpS ?_ ?_ (by omega)⟩, ?_, Or.inr ⟨x8, ?_, ?_⟩⟩
              · rw [u3 220 (by omega) (by omega) (by omega), mI5 220 j (by omega) (by omega) (by omega), o3 220 (by omega) (by omega) (by omega)]; exact n4
              · rw [xI 4 (by omega) (by omega)]; rfl
              · rw [xI 5 (by omega) (by omega)]; rfl
              · rw [x66, e222]; exact r10.mono (by omega)
              · rw [u3 219 (by omega) (by omega) (by omega)]; exact v219
              · rw [x67]; exact s10
          · by_cases h4 : i < j4
            · obtain ⟨t1, t2, t3'⟩ := r9 i (by omega) h4
              have cr : ∀ k, dR (sR C6 (nb + j) 7 fr2) (nb + i) k = dR C2 (nb + i) k ∨ k = 9 := fun k => by
                by_cases hk : k = 9
                · exact Or.inr hk
                · left
                  rw [cN6 i k (by omega), u1.2.1 i k h4 hk]
                  exact cN5 i k (by omega) h4
              have cr9 : dR (sR C6 (nb + j) 7 fr2) (nb + i) 9 = dR C2 (nb + i) 9 := by
                rw [cN6 i 9 (by omega), s4.r (by unfold YC Ec; omega)]
                exact cN5 i 9 (by omega) h4
              have crr : ∀ k, k = 6 ∨ k = 7 ∨ k = 9 → dR (sR C6 (nb + j) 7 fr2) (nb + i) k = dR C2 (nb + i) k := fun k hk => by
                rcases hk with rfl | rfl | rfl
                · rcases cr 6 with q | q
                  · exact q
                  · omega
                · rcases cr 7 with q | q
                  · exact q
                  · omega
                · exact cr9
              have cii : ∀ k, k ≠ 9 → dI (sR C6 (nb + j) 7 fr2) (nb + i) k = dI C2 (nb + i) k := fun k hk => by
                show dI C6 (nb + i) k = _
                rw [u1.1 i k h4 hk]
                exact cI5 i k (by omega) h4
              have mi : ∀ a, 216 ≤ a → a ≤ 224 → dI M6 a (64 * h + i) = dI M4 a (64 * h + i) := fun a h1 h2 => by
                rw [s5.i (by unfold BM; omega)]
                exact mI5 a i (by omega) h1 h2
              refine ⟨t1.kp1 kp6 cii (fun k hk => crr k (by omega)) (by omega) (by omega) (fun a h1 h2 => mi a h1 (by omega)), ?_, Wc.kp1 (C := C2) (W := W4) (fun k hk => cii k (by omega)) crr kp6.2.2.1 (fun i' h1 h2 => w64 i' ?_) (fun i' h1 => w64 i' (by omega)) (w64 i h4) t3'⟩
              · unfold Nx
                rw [cr9, mi 224 (by omega) (by omega)]
                exact t2.mono (by omega)
              · rcases h2 with h2 | h2 | h2
                · exact r13 i 6 i' (by omega) h4 (by omega) h2
                · exact r13 i 7 i' (by omega) h4 (by omega) h2
                · exact r13 i 9 i' (by omega) h4 (by omega) h2
            · obtain ⟨t1, t2, t3'⟩ := s9 i (by omega) h2
              refine ⟨t1.kp1 k6 (fun k _ => rfl) (fun k _ => cN6 i k (by omega)) (Nat.le_refl _) ⟨Nat.le_refl _, Nat.le_refl _⟩ (fun _ _ _ => rfl), ?_, Wc.kp1 (C := C6) (C' := sR C6 (nb + j) 7 fr2) (W := W6) (W' := W6) (fun k _ => rfl) (fun k _ => cN6 i k (by omega)) (fun x => cR6.r (by omega)) (fun _ _ _ => rfl) (fun _ _ => rfl) rfl t3'⟩
              unfold Nx
              rw [cN6 i 9 (by omega)]
              exact t2
          · rw [u3 224 (by omega) (by omega) (by omega), mI5 224 j (by omega) (by omega) (by omega), o3 224 (by omega) (by omega) (by omega)]; exact n6
          · rw [hl6.1, cM.i (by unfold QlM; omega), hl.1]; exact n7
          · rw [hl6.2, cM.i (by unfold QlM; omega), hl.2]; exact n8
          · rw [x66, x67] at q
            rcases q with q | q
            · have := r11 i' q
              have := lkf i' q
              rw [w64 i' (by omega)]
              omega
            · have := s11 i' q
              have := lkf2 i' q
              omega
          · rw [w64 i (by omega)]
            exact r12 i (by omega)
          · rw [cN6 i k' (by omega)] at q
            by_cases h4 : i < j4
            · have q' : dR C2 (nb + i) k' = some (nb + i') := by
                rw [s4.r (by unfold YC Ec; omega)] at q
                rw [← cN5 i k' (by omega) h4]
                exact q
              have := r13 i k' i' (by omega) h4 h3 q'
              omega
            · exact s13 i k' i' (by omega) h2 h3 q
      · -- no else
        right
        rw [if_neg (show ¬ (t4 = 4 ∧ v4 = zl_kc 8) from el), if_pos rfl]
        have c54 : f_X12_close_b54 N (nn (64 * h + j)) M4 = some M4 := zb_54 (t := 0) (v := 0) r2.2.2.2.2 ho (by omega) e216 (Or.inl r8) (fun _ _ q => el ?_)
        · refine zs_pack (p' := p4) (W' := W4) (k := k) rfl ⟨hR2, q2, q3, q4, q5⟩ (by omega) fY fM (f7.tr r6) (fun g => ?_) ?_ (fun i h1 h2 => ?_) ⟨c9, by rw [o3 224 (by omega) (by omega) (by omega)]; exact n6⟩ ⟨by rw [hl.1]; exact n7, by rw [hl.2]; exact n8⟩ (by rw [ci, d0 0 (by omega), k1]; decide) (fun i' q => ?_) (fun i hi => r12 i (by omega)) (by rw [ci, d0 1 (by omega)]; exact k2) (fun i k' i' h1 h2 h3 q => ?_)
          · show (f_X12_statement N M).bind _ = _
            rw [f2, r7 g, c54, bS]
          · refine ⟨⟨p, g4, by rw [ci, d0 1 (by omega)]; exact k2, by rw [o3 217 (by omega) (by omega) (by omega)]; exact n2⟩, ?_⟩
            right; right; right; right; left
            refine ⟨by rw [ci, d0 0 (by omega)]; exact k1, e216, ⟨260 * h + b + w, by rw [o3 220 (by omega) (by omega) (by omega)]; exact n4, fsE⟩, by rw [c6]; exact r10, Or.inl ⟨by rw [ci, d0 8 (by omega)]; exact k3, by rw [o3 219 (by omega) (by omega) (by omega)]; exact n3, c7, by rw [o3 223 (by omega) (by omega) (by omega)]; exact n5⟩⟩
          · obtain ⟨u1, u2, u3⟩ := r9 i (by omega) h2
            refine ⟨u1.kp1 k0 (fun k _ => rfl) (fun k _ => cN i k (by omega)) (Nat.le_refl _) ⟨Nat.le_refl _, Nat.le_refl _⟩ (fun _ _ _ => rfl), ?_, Wc.kp1 (C := C2) (C' := sR C2 (nb + j) 6 fr) (W := W4) (W' := W4) (fun k _ => rfl) (fun k _ => cN i k (by omega)) (fun x => cR.r (by omega)) (fun _ _ _ => rfl) (fun _ _ => rfl) rfl u3⟩
            unfold Nx
            rw [cN i 9 (by omega)]
            exact u2
          · rw [c6, c7] at q
            rcases q with q | q
            · have := r11 i' q
              have := lkf i' q
              omega
            · exact absurd q (by simp)
          · rw [cN i k' (by omega)] at q
            exact r13 i k' i' (by omega) h2 h3 q
        · have tl := zx_tok_lt hR2.2.2.2
          have q37 := hR2.2.2.1.2.2.1
          have t44 : t4 = 4 := by
            have z := q.1
            rw [q37] at z
            have z := (nn_eq (b := 107) (by have := zx_mt_lt tl; omega) (by omega)).mp z
            rcases hR2.2.2.2.2.2.2.2.2.1 with a | a
            · unfold zl_mt at z
              repeat' split at z
              all_goals omega
            · have := zl_Si.mp a
              rw [zx_mt (by omega)] at z
              omega
          subst t44
          have k38 := hR2.2.2.1.2.2.2 (Or.inr (Or.inr rfl))
          have z := q.2
          rw [k38] at z
          have v9 := (hR2.2.2.2.2.2.2.2.2.2 rfl).1
          exact ⟨rfl, (nn_eq (b := 5) (by omega) (by omega)).mp z⟩
