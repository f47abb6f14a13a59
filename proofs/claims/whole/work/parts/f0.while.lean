/-! one statement that stays as it is -/
theorem FsV.kp1 {P nb h bz ez a m : Nat} {C M C' M' : Dat} (hk : Kp P nb h 0 bz ez C M C' M') (h2 : dI C' a 2 = dI C a 2) (hm : dI M' 218 m = dI M 218 m) (hx : FsV C M a m) : FsV C' M' a m := by
  obtain ⟨x, x1, x2, x3, x4⟩ := hx
  refine ⟨x, x1, by rw [h2]; exact x2, by rw [hm]; exact x3, ?_⟩
  rcases x4 with q | q
  · exact Or.inl ((hk.2.2.2.2.2 x x1).1 q)
  · exact Or.inr ((hk.2.2.2.2.2 x x1).2.1 q)
theorem FsE.kp1 {P nb h bz ez bz' ez' a es : Nat} {C M C' M' : Dat} (hk : Kp P nb h 0 bz ez C M C' M') (h4 : dI C' a 4 = dI C a 4) (h5 : dI C' a 5 = dI C a 5) (hb : bz ≤ bz' ∧ ez ≤ ez') (hx : FsE P h bz ez C M a es) : FsE P h bz' ez' C' M' a es := by
  obtain ⟨fr, n, h1, h2, h3, h4', h5', h6, h7⟩ := hx
  refine ⟨fr, n, by rw [h4]; exact h1, by rw [h5]; exact h2, by omega, h4', by omega, h6.kp hk h3 h4' h5', ?_⟩
  rw [zx_h_eq (C := C) _ _ _ (fun q _ hq => (hk.2.2.2.1 q (by omega)).1)]
  exact h7
theorem Fs.kp1 {nu P nb h cnt cnt' bz ez bz' ez' i : Nat} {C M C' M' : Dat} (hk : Kp P nb h 0 bz ez C M C' M') (ci : ∀ k, k ≠ 9 → dI C' (nb + i) k = dI C (nb + i) k) (cr : ∀ k, k = 6 ∨ k = 7 → dR C' (nb + i) k = dR C (nb + i) k) (hc : cnt ≤ cnt') (hb : bz ≤ bz' ∧ ez ≤ ez') (hm : ∀ a, 216 ≤ a → a ≤ 223 → dI M' a (64 * h + i) = dI M a (64 * h + i)) (hx : Fs nu P nb h cnt bz ez C M i) : Fs nu P nb h cnt' bz' ez' C' M' i := by
  obtain ⟨⟨pl, p1, p2, p3⟩, hB⟩ := hx
  refine ⟨⟨pl, p1, by rw [ci 1 (by omega)]; exact p2, by rw [hm 217 (by omega) (by omega)]; exact p3⟩, ?_⟩
  unfold FsB at hB ⊢
  rw [ci 0 (by omega), ci 2 (by omega), ci 3 (by omega), ci 4 (by omega), ci 5 (by omega), ci 8 (by omega), cr 6 (by omega), cr 7 (by omega), hm 216 (by omega) (by omega), hm 218 (by omega) (by omega), hm 219 (by omega) (by omega), hm 220 (by omega) (by omega), hm 221 (by omega) (by omega), hm 222 (by omega) (by omega), hm 223 (by omega) (by omega)]
  rcases hB with ⟨a1, a2, a3, e, a4, a5⟩ | ⟨a1, a2, ⟨x, x1, x2, x3, x4⟩, fr, n1, n2, e1, e2, ⟨b1, b2, b3⟩, ⟨b4, b5, b6, b7, b8, b9⟩, b10, b11, b12, b13⟩ | ⟨a1, a2, a3, a4, fr, a5, a6, a7⟩ | ⟨a1, a2, a3, e, a4, a5⟩ | ⟨a1, a2, ⟨e, a3, a4⟩, a5, a6⟩ | ⟨a1, a2, ⟨e, a3, a4⟩, a5⟩ | ⟨a1, a2, x, x1, x2, x3, x4⟩
  · exact Or.inl ⟨a1, a2, a3.kp1 hk (ci 2 (by omega)) (hm 218 (by omega) (by omega)), e, a4, a5.kp1 hk (ci 4 (by omega)) (ci 5 (by omega)) hb⟩
  · refine Or.inr (Or.inl ⟨a1, a2, ⟨x, x1, x2, x3, (hk.2.2.2.2.2 x x1).2.2.1 x4⟩, fr, n1, n2, e1, e2, ⟨b1, b2, by omega⟩, ⟨b4, b5, b6, by omega, b8, by omega⟩, b10.kp hk (by omega) b6 b7, b11.kp hk (by omega) b8 b9, ?_, ?_⟩)
    · rw [zx_h_eq (C := C) _ _ _ (fun q _ hq => (hk.2.2.2.1 q (by omega)).1)]; exact b12
    · exact ⟨by rw [zx_h_eq (C := C) _ _ _ (fun q _ hq => (hk.2.2.2.1 q (by omega)).1)]; exact b13.1, by rw [zx_h_eq (C := C) _ _ _ (fun q _ hq => (hk.2.2.2.1 q (by omega)).1)]; exact b13.2⟩
  · exact Or.inr (Or.inr (Or.inl ⟨a1, a2, a3.kp1 hk (ci 2 (by omega)) (hm 218 (by omega) (by omega)), a4, fr, by omega, a6, a7⟩))
  · exact Or.inr (Or.inr (Or.inr (Or.inl ⟨a1, a2, a3, e, a4, a5.kp1 hk (ci 4 (by omega)) (ci 5 (by omega)) hb⟩)))
  · refine Or.inr (Or.inr (Or.inr (Or.inr (Or.inl ⟨a1, a2, ⟨e, a3, a4.kp1 hk (ci 4 (by omega)) (ci 5 (by omega)) hb⟩, a5.mono hc, ?_⟩))))
    rcases a6 with q | ⟨q1, q2, q3⟩
    · exact Or.inl q
    · exact Or.inr ⟨q1, q2, q3.mono hc⟩
  · exact Or.inr (Or.inr (Or.inr (Or.inr (Or.inr (Or.inl ⟨a1, a2, ⟨e, a3, a4.kp1 hk (ci 4 (by omega)) (ci 5 (by omega)) hb⟩, a5.mono hc⟩)))))
  · exact Or.inr (Or.inr (Or.inr (Or.inr (Or.inr (Or.inr ⟨a1, a2, x, x1, x2, x3, (hk.2.2.2.2.2 x x1).2.2.2 x4⟩)))))
theorem Wc.kp1 {P nb jE i : Nat} {W W' : Nat → Nat} {C C' : Dat} (ci : ∀ k, k = 0 ∨ k = 2 → dI C' (nb + i) k = dI C (nb + i) k) (cr : ∀ k, k = 6 ∨ k = 7 ∨ k = 9 → dR C' (nb + i) k = dR C (nb + i) k) (cp : ∀ x, dR C' (P + 1) x = dR C (P + 1) x) (hW1 : ∀ i', i < i' → (dR C (nb + i) 6 = some (nb + i') ∨ dR C (nb + i) 7 = some (nb + i') ∨ dR C (nb + i) 9 = some (nb + i')) → W' i' = W i') (hW2 : ∀ i', i' < jE → W' i' = W i') (hW3 : W' i = W i) (hx : Wc P nb jE W C i) : Wc P nb jE W' C' i := by
  obtain ⟨⟨h1, h2⟩, h3⟩ := hx
  refine ⟨⟨fun i' q => ?_, fun q x hx q2 i' q3 => ?_⟩, fun i' q => ?_⟩
  · rw [cr 6 (by omega), cr 7 (by omega)] at q
    have := h1 i' q
    rw [hW1 i' this.1 (by rcases q with q | q; exact Or.inl q; exact Or.inr (Or.inl q)), hW3]
    exact this
  · rw [ci 0 (by omega)] at q
    rw [ci 2 (by omega)] at q2
    rw [cp] at q3
    have := h2 q x hx q2 i' q3
    rw [hW2 i' this.1, hW3]
    exact this
  · rw [cr 9 (by omega)] at q
    have := h3 i' q
    rw [hW1 i' this.1 (Or.inr (Or.inr q)), hW3]
    exact this
theorem Kp.zero {P nb h j bz ez bz' ez' : Nat} {C M C' M' : Dat} (hk : Kp P nb h j bz ez C M C' M') (h1 : bz' ≤ bz) (h2 : ez' ≤ ez) : Kp P nb h 0 bz' ez' C M C' M' := ⟨fun i _ hi => absurd hi (by omega), fun i _ hi => absurd hi (by omega), hk.2.2.1, fun i hi => hk.2.2.2.1 i (by omega), fun k g1 g2 => hk.2.2.2.2.1 k g1 (by omega), hk.2.2.2.2.2⟩
theorem Kp.tr {P nb h bz ez : Nat} {C M C' M' C'' M'' : Dat} (h1 : Kp P nb h 0 bz ez C M C' M') (h2 : Kp P nb h 0 bz ez C' M' C'' M'') : Kp P nb h 0 bz ez C M C'' M'' := ⟨fun i _ hi => absurd hi (by omega), fun i _ hi => absurd hi (by omega), fun x => (h2.2.2.1 x).trans (h1.2.2.1 x), fun i hi => ⟨(h2.2.2.2.1 i hi).1.trans (h1.2.2.2.1 i hi).1, (h2.2.2.2.1 i hi).2.trans (h1.2.2.2.1 i hi).2⟩, fun k g1 g2 => ⟨(h2.2.2.2.2.1 k g1 g2).1.trans (h1.2.2.2.2.1 k g1 g2).1, (h2.2.2.2.2.1 k g1 g2).2.trans (h1.2.2.2.2.1 k g1 g2).2⟩, fun x hx => ⟨fun q => (h2.2.2.2.2.2 x hx).1 ((h1.2.2.2.2.2 x hx).1 q), fun q => (h2.2.2.2.2.2 x hx).2.1 ((h1.2.2.2.2.2 x hx).2.1 q), fun q => (h2.2.2.2.2.2 x hx).2.2.1 ((h1.2.2.2.2.2 x hx).2.2.1 q), fun q => (h2.2.2.2.2.2 x hx).2.2.2 ((h1.2.2.2.2.2 x hx).2.2.2 q)⟩⟩
/-! while, if; each statement -/
theorem zb_kd {nb jj i : Nat} {K0 : Nat → Nat} {S : Sr} (h : Sk nb jj K0 S) (hi : i < jj) : kd S.2.1 (nb + i) = 7 := by
  have := h.2.2.2.1
  rw [kd, if_neg (by omega)]
  exact h.2.2.2.2.1 (nb + i) (by omega) (by omega)
theorem zb_54 {N o m kM t v : Nat} {M : Dat} (h44 : dI M 207 44 = nn (o + 1)) (ho : o ≤ 8) (hm : m < 128) (h216 : dI M 216 m = nn kM) (h231 : dI M 231 (o + 1) = nn 2 ∨ dI M 231 (o + 1) = nn 3) (hn : dI M 231 (o + 1) = nn 2 → dI M 216 m = 3 → ¬ (dI M 207 37 = 107 ∧ dI M 207 38 = 5)) : f_X12_close_b54 N (nn m) M = some M := by
  unfold f_X12_close_b54 f_X12_close_b111
  rw [h44, if_neg (nn_in (k := o + 1) (n := 10) (by omega) (by omega)), nn_nat (by omega)]
  rcases h231 with q | q
  · rw [q, if_pos (show nn 2 = 2 from rfl), if_neg (nn_in (k := m) (n := 128) (by omega) hm), nn_nat (by omega)]
    by_cases c1 : dI M 216 m = 3
    · rw [if_pos c1]
      have := hn q c1
      by_cases c2 : dI M 207 37 = 107
      · rw [if_pos c2, if_neg (fun c3 => this ⟨c2, c3⟩)]
      · rw [if_neg c2]
    · rw [if_neg c1]
  · rw [q, if_neg (show ¬ nn 3 = 2 by decide)]
/-- what a block leaves of the statement that owns it -/
theorem zb_own {P nb h o jj b e0 m sa : Nat} {C M C' M' : Dat} (hm : m < jj) (hnb : 266 ≤ nb) (hP : P = 191 ∨ P = 196) (hsa : sa = 222 ∨ sa = 223) (hj : jj ≤ 64) (c : Ch (YC P nb jj b) C C') (mm : Ch (BM h jj e0 o sa (64 * h + m)) M M') (hr : RP M M') : Kp P nb h jj b e0 C M C' M' ∧ (∀ k, dR C' (nb + m) k = dR C (nb + m) k) ∧ (∀ a, 216 ≤ a → a ≤ 224 → a ≠ sa → dI M' a (64 * h + m) = dI M a (64 * h + m)) := by
  refine ⟨⟨fun i k hi hk => ?_, fun i k hi hk => ?_, fun x => ?_, fun i hi => ⟨?_, ?_⟩, fun k h1 h2 => ⟨?_, ?_⟩, fun x hx => ⟨fun q => hr.keep hx (by decide) q, fun q => hr.keep hx (by decide) q, fun q => hr.keep hx (by decide) q, fun q => hr.keep hx (by decide) q⟩⟩, fun k => ?_, fun a h1 h2 h3 => ?_⟩
  · exact c.i (by unfold YC Ec; omega)
  · exact c.r (by unfold YC Ec; omega)
  · exact c.r (by unfold YC Ec; omega)
  · exact c.i (by unfold YC Ec; omega)
  · exact c.i (by unfold YC Ec; omega)
  · exact mm.i (by unfold BM; omega)
  · exact mm.i (by unfold BM; omega)
  · exact c.r (by unfold YC Ec; omega)
  · exact mm.i (by unfold BM; omega)
theorem zb_la {h o j jj e0 sa la li : Nat} {M M' : Dat} (hj : j < jj) (hsa : sa = 222 ∨ sa = 223) (hla : ((la = 222 ∨ la = 223 ∨ la = 224) ∧ 64 * h ≤ li ∧ li < 64 * h + j) ∨ (la = 227 ∧ 26 * h ≤ li ∧ li < 26 * h + 26) ∨ (la = 228 ∧ li = h)) (mm : Ch (BM h jj e0 o sa (64 * h + j)) M M') : dI M' la li = dI M la li ∧ dI M' 233 o = dI M 233 o := ⟨mm.i (by unfold BM; omega), mm.i (by unfold BM; omega)⟩
set_option maxHeartbeats 4000000 in
theorem zs_while {N nu len P : Nat} {tx : Nat → Nat} {nb h o p e j b w E jE sa si la li : Nat} {K0 W : Nat → Nat} {x1 : Int32} {rec : Int32 → Sr → Dat → Option (Sum Nat (Option Nat) × Sr × Dat)} (hN : 1000 ≤ N) (hrec : o < 8 → ZL N nu len P tx nb h (o + 1) E jE K0 125 (rec 125)) {S : Sr} {C M : Dat} (hp : SPre nu len P tx nb h o p e 4 6 j b w E jE sa si la li K0 W S C M) : SBad N P nb h o p j b (260 * h + b + w) la li K0 x1 C M (f_X5_readWhile rec N nu S C) (fun f => (f_X12_statement N M).bind f) ∨ SGood N nu len P tx nb h o p j b (260 * h + b + w) la li E jE K0 W x1 C M (f_X5_readWhile rec N nu S C) (fun f => (f_X12_statement N M).bind f) := by
  obtain ⟨S0, C0, C1, a1, a2, hkd, hh⟩ := zs_head (x1 := x1) (kM := 4) hN 17 (Or.inr ⟨rfl, rfl⟩) hp
  rcases hh with ⟨S', C', f1, f2⟩ | ⟨C3, M3, p3, e3, t3, v3, n, f1, f2, f3, ⟨g0, g1, g2, g3, g4, g5, g6⟩, f5, f6, f7, ⟨k1, k2, k3, k4, k5⟩, f9, ⟨n1, n2, n3, n4, n5, n6, n7, n8⟩, hla⟩
  · left
    refine f2 _ ?_
    unfold f_X5_readWhile
    rw [a1, sb2_r, g_b64, a2, bS, f1, sb2_l]
  · have ho := hp.1.1.1.2.2.2.1.1
    have cls : f_X5_readWhile rec N nu S C = sb2 (f_X5_readBlock rec nu S0 (sI C3 (nb + j) 5 (nn (b + n)))) (fun p12 S14 D14 => if kd S14.2.1 (nb + j) = 7 then (if dI (sR D14 (nb + j) 6 p12) (nb + j) 0 = 16 then f_X5_else rec N nu (nb + j) S14 (sR D14 (nb + j) 6 p12) else f_X5_readIf_b53 rec N nu (some (nb + j)) S14 (sR D14 (nb + j) 6 p12)) else none) := by
      unfold f_X5_readWhile
      rw [a1, sb2_r, g_b64, a2, bS, f1, sb2_r, if_pos hkd]
    have r9' : dR (sI C3 (nb + j) 5 (nn (b + n))) (nb + j) 9 = none := k5
    have r7' : dR (sI C3 (nb + j) 5 (nn (b + n))) (nb + j) 7 = none := k4
    generalize sI C3 (nb + j) 5 (nn (b + n)) = C3' at *
    rw [cls]
    rcases zs_blk (x1 := x1) hN hrec (Or.inl ⟨rfl, rfl⟩) f3 with ⟨S', C', M', q, k, r1, r2, r3, r4, r5, r6, r7⟩ | ⟨fr, S2, C2, M4, p4, e4, t4, v4, j4, b4, w4, k, W4, r1, r2, r3, r4, r5, r6, r7, r8, r9, r10, r11, r12, r13⟩
    · left
      refine ⟨S', C', M', q, k, by rw [r1, sb2_l], r2, ⟨r3.1, r3.2.1, by omega, r3.2.2.2⟩, f5.tr (r4.mono (fun a k q => yc_mono (by omega) (by omega) (Or.inl q))), f6.tr (r5.mono (fun a k q => bm_YM (by omega) (by omega) (by omega) q)), by omega, fun g => ?_⟩
      show (f_X12_statement N M).bind _ = _
      rw [f2]
      exact r7 g
    · right
      obtain ⟨o1, o2, o3⟩ := zb_own (by omega) g1 g6 (Or.inl rfl) (by omega) r4 r5 r6
      have kd2 := zb_kd r2.2.1 (show j < j4 by omega)
      have cR : Ch (fun a k => a = nb + j ∧ k = 6) C2 (sR C2 (nb + j) 6 fr) := Ch.sR ⟨rfl, rfl⟩ Ch.rf
      have hl := zb_la (by omega) (Or.inl rfl) hla r5
      have e216 : dI M4 216 (64 * h + j) = nn 4 := by rw [o3 216 (by omega) (by omega) (by omega)]; exact n1
      have c54 : f_X12_close_b54 N (nn (64 * h + j)) M4 = some M4 := zb_54 (t := 0) (v := 0) r2.2.2.2.2 ho (by omega) e216 (Or.inl r8) (fun _ q => by rw [e216] at q; exact absurd q (by decide))
      obtain ⟨q1, q2, q3, q4, q5⟩ := id r2
      have k0 : Kp P nb h 0 b4 (260 * h + b4 + w4) C2 M4 (sR C2 (nb + j) 6 fr) M4 := ⟨fun i _ hi => absurd hi (by omega), fun i _ hi => absurd hi (by omega), fun x => cR.r (by omega), fun _ _ => ⟨rfl, rfl⟩, fun _ _ _ => ⟨rfl, rfl⟩, fun _ _ => ⟨id, id, id, id⟩⟩
      have ci : ∀ k, dI (sR C2 (nb + j) 6 fr) (nb + j) k = dI C2 (nb + j) k := fun k => rfl
      have cN : ∀ i k, i ≠ j → dR (sR C2 (nb + j) 6 fr) (nb + i) k = dR C2 (nb + i) k := fun i k hi => cR.r (by omega)
      have c6 : dR (sR C2 (nb + j) 6 fr) (nb + j) 6 = fr := by rw [dR_s, if_pos ⟨rfl, rfl⟩]
      have c7 : dR (sR C2 (nb + j) 6 fr) (nb + j) 7 = none := by rw [dR_s, if_neg (by omega), o2]; exact r7'
      have c9 : dR (sR C2 (nb + j) 6 fr) (nb + j) 9 = none := by rw [dR_s, if_neg (by omega), o2]; exact r9'
      have d0 : ∀ k, k ≠ 9 → dI C2 (nb + j) k = dI C3' (nb + j) k := fun k hk => o1.1 j k (by omega) hk
      have lkf : ∀ i', fr = some (nb + i') → i' < j4 := fun i' q => by
        rcases r10 with ⟨z, _⟩ | ⟨y, y1, y2, _⟩
        · rw [z] at q; exact absurd q (by simp)
        · rw [y2] at q
          have := Option.some.inj q
          omega
      refine zs_pack (p' := p4) (W' := W4) (k := k) (by rw [r1, sb2_r, if_pos kd2, ci 0, d0 0 (by omega), k1, if_neg (by decide)]; rfl) ⟨q1.kept cR (Ch.rf (P := fun _ _ => False)) (fun a k q => by unfold RRc; omega) (fun a k q => q.elim), q2, q3, q4, q5⟩ (by omega) (f5.tr ((r4.mono (fun a k q => yc_mono (by omega) (by omega) (Or.inl q))).tr (cR.mono (fun a k q => ya_YC q.1)))) (f6.tr (r5.mono (fun a k q => bm_YM (by omega) (by omega) (by omega) q))) (f7.tr r6) (fun g => ?_) ?_ (fun i h1 h2 => ?_) ⟨c9, by rw [o3 224 (by omega) (by omega) (by omega)]; exact n6⟩ ⟨by rw [hl.1]; exact n7, by rw [hl.2]; exact n8⟩ (by rw [ci, d0 0 (by omega), k1]; decide) (fun i' q => ?_) (fun i hi => r12 i (by omega)) (by rw [ci, d0 1 (by omega)]; exact k2) (fun i k' i' h1 h2 h3 q => ?_)
      · show (f_X12_statement N M).bind _ = _
        rw [f2, r7 g, c54, bS]
      · refine ⟨⟨p, g4, by rw [ci, d0 1 (by omega)]; exact k2, by rw [o3 217 (by omega) (by omega) (by omega)]; exact n2⟩, ?_⟩
        right; right; right; right; right; left
        refine ⟨by rw [ci, d0 0 (by omega)]; exact k1, e216, ⟨260 * h + b + w, by rw [o3 220 (by omega) (by omega) (by omega)]; exact n4, (f9.kp1 (o1.zero (Nat.le_refl _) (Nat.le_refl _)) (d0 4 (by omega)) (d0 5 (by omega)) (by omega)).kp1 k0 rfl rfl ⟨Nat.le_refl _, Nat.le_refl _⟩⟩, by rw [c6]; exact r10⟩
      · obtain ⟨u1, u2, u3⟩ := r9 i (by omega) h2
        refine ⟨u1.kp1 k0 (fun k _ => rfl) (fun k _ => cN i k (by omega)) (Nat.le_refl _) ⟨Nat.le_refl _, Nat.le_refl _⟩ (fun _ _ _ => rfl), ?_, Wc.kp1 (C := C2) (C' := sR C2 (nb + j) 6 fr) (W := W4) (W' := W4) (fun k _ => rfl) (fun k _ => cN i k (by omega)) (fun x => cR.r (by omega)) (fun _ _ _ => rfl) (fun _ _ => rfl) rfl u3⟩
        unfold Nx
        rw [cN i 9 (by omega)]
        exact u2
      · rw [c6, c7] at q
        rcases q with q | q
        · have := r11 i' q
          have := lkf i' q
          omega
        · exact absurd q (by simp)
      · rw [cN i k' (by omega)] at q
        exact r13 i k' i' (by omega) h2 h3 q
