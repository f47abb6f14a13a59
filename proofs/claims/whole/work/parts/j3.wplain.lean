/-! the walk: assign, row, in, out -/
theorem wk_res {F x u : Nat} {C0 M0 C M C' M' : Dat} (hP : WP F C0 M0 x u C M) (cC : Cm C C') (cM : Ch PmM M M') (hs : Smx 0 zb 0 C' M') : WP F C0 M0 x u C' M' ∨ WD C0 M0 C' M' := by
  by_cases q : dI C' 181 10 = -1
  · exact Or.inl (hP.to cC cM hs q)
  · exact Or.inr (hP.ed cC cM hs.2.2.1 q)
theorem smx_drop {w : Int32} {C M : Dat} (hs : Smx 1 (fun _ => w) 0 C M) : f_X3_pop C = some (w, sI C 181 2 (nn 0)) ∧ Smx 0 zb 0 (sI C 181 2 (nn 0)) M ∧ Cm C (sI C 181 2 (nn 0)) := by
  obtain ⟨⟨h1, h2, h3⟩, h4, h5, h6⟩ := hs
  have cD : Ch (fun a k => a = 181 ∧ k = 2) C (sI C 181 2 (nn 0)) := Ch.sI ⟨rfl, rfl⟩ Ch.rf
  refine ⟨?_, ⟨⟨by omega, ?_, h3⟩, fun i hi => absurd hi (by omega), ?_, fun i hi => absurd hi (by omega)⟩, ⟨cD.mono (fun a k q => by unfold PmC; omega), Or.inl (cD.i (by omega))⟩⟩
  · unfold f_X3_pop
    have r1 : dI (sI C 181 2 (nn 0)) 181 2 = nn 0 := by rw [dI_s, if_pos ⟨rfl, rfl⟩]
    have e0 : nn (0 + 1) - (1 : Int32) = nn 0 := by decide
    rw [h2, if_pos (show (0 : Int32) < nn (0 + 1) by decide), e0, r1, if_neg (nn_in (k := 0) (n := 30) (by omega) (by omega)), nn_nat (by omega), dI_s, if_neg (by omega), h6 0 (by omega)]
  · rw [dI_s, if_pos ⟨rfl, rfl⟩]
  · exact h5.kept (Q := fun _ _ => False) cD Ch.rf (fun a k b j hc => ⟨by unfold Cor at hc; omega, fun q => q⟩)
theorem mpop1 {s : Nat} {bs : Nat → Int32} {v : Int32} {C M M2 : Dat} (hs : Smx s bs 1 C M) (h : f_X12_pop M = some (v, M2)) : v = dI M 261 0 ∧ M2 = sI M 207 82 (nn 0) := by
  obtain ⟨⟨h1, h2, h3⟩, -⟩ := hs
  have r1 : dI (sI M 207 82 (nn 0)) 207 82 = nn 0 := by rw [dI_s, if_pos ⟨rfl, rfl⟩]
  have e0 : nn 1 - (1 : Int32) = nn 0 := by decide
  unfold f_X12_pop at h
  rw [h3, e0, r1, if_neg (nn_in (k := 0) (n := 260) (by omega) (by omega)), nn_nat (by omega), dI_s, if_neg (by omega)] at h
  have h := Option.some.inj h
  exact ⟨(congrArg Prod.fst h).symm, (congrArg Prod.snd h).symm⟩
theorem smx_lift {v : Int32} {C M M2 : Dat} (hs : Smx 0 zb 1 C M) (h : f_X12_pop M = some (v, M2)) : Smx 1 (fun _ => v) 0 C M2 ∧ Ch PmM M M2 := by
  obtain ⟨rfl, rfl⟩ := mpop1 hs h
  obtain ⟨⟨h1, h2, h3⟩, h4, h5, h6⟩ := hs
  have cE : Ch (fun a k => a = 207 ∧ k = 82) M (sI M 207 82 (nn 0)) := Ch.sI ⟨rfl, rfl⟩ Ch.rf
  refine ⟨⟨⟨by omega, h2, ?_⟩, fun i hi => absurd hi (by omega), ?_, fun i hi => ?_⟩, cE.mono (fun a k q => by unfold PmM; omega)⟩
  · rw [dI_s, if_pos ⟨rfl, rfl⟩]
  · exact h5.kept (P := fun _ _ => False) Ch.rf cE (fun a k b j hc => ⟨fun q => q, by unfold Cor at hc; omega⟩)
  · obtain rfl : i = 0 := by omega
    exact h4 0 (by omega)
theorem smx_give {v : Int32} {C M M2 : Dat} (hs : Smx 0 zb 1 C M) (h : f_X12_pop M = some (v, M2)) : ∃ M3, f_X12_give v M2 = some M3 ∧ Smx 0 zb 1 C M3 ∧ Ch PmM M M3 := by
  obtain ⟨rfl, rfl⟩ := mpop1 hs h
  obtain ⟨⟨h1, h2, h3⟩, h4, h5, h6⟩ := hs
  have r1 : dI (sI M 207 82 (nn 0)) 207 82 = nn 0 := by rw [dI_s, if_pos ⟨rfl, rfl⟩]
  have cE : Ch (fun a k => a = 261 ∨ (a = 207 ∧ k = 82)) M (sI (sI (sI M 207 82 (nn 0)) 261 0 (dI M 261 0)) 207 82 (nn (0 + 1))) := Ch.sI (Or.inr ⟨rfl, rfl⟩) (Ch.sI (Or.inl rfl) (Ch.sI (Or.inr ⟨rfl, rfl⟩) Ch.rf))
  refine ⟨sI (sI (sI M 207 82 (nn 0)) 261 0 (dI M 261 0)) 207 82 (nn (0 + 1)), ?_, ⟨⟨h1, h2, ?_⟩, fun i hi => ?_, ?_, h6⟩, cE.mono (fun a k q => by unfold PmM; omega)⟩
  · unfold f_X12_give
    have r2 : ∀ w, dI (sI (sI M 207 82 (nn 0)) 261 0 w) 207 82 = nn 0 := fun w => by rw [dI_s, if_neg (by omega)]; exact r1
    rw [r1, if_neg (nn_in (k := 0) (n := 260) (by omega) (by omega)), nn_nat (by omega), r2, nn_1]
  · rw [dI_s, if_pos ⟨rfl, rfl⟩]
  · obtain rfl : i = 0 := by omega
    have e : dI (sI (sI (sI M 207 82 (nn 0)) 261 0 (dI M 261 0)) 207 82 (nn (0 + 1))) 261 0 = dI M 261 0 := by rw [dI_s, if_neg (by omega), dI_s, if_pos ⟨rfl, rfl⟩]
    rw [e]
    exact h4 0 (by omega)
  · exact h5.kept (P := fun _ _ => False) Ch.rf cE (fun a k b j hc => ⟨fun q => q, by unfold Cor at hc; omega⟩)
/-- ended: the model's number more doesn't matter -/
theorem smx_giveE {h' : Nat} {v : Int32} {C M : Dat} (hs : Smx 0 zb h' C M) : ∃ M3, f_X12_give v M = some M3 ∧ SmR C M3 ∧ Ch PmM M M3 ∧ dI M3 207 84 = dI M 207 84 := by
  obtain ⟨⟨h1, h2, h3⟩, h4, h5, h6⟩ := hs
  have cE : Ch (fun a k => a = 261 ∨ (a = 207 ∧ k = 82)) M (sI (sI M 261 h' v) 207 82 (nn (h' + 1))) := Ch.sI (Or.inr ⟨rfl, rfl⟩) (Ch.sI (Or.inl rfl) Ch.rf)
  refine ⟨sI (sI M 261 h' v) 207 82 (nn (h' + 1)), ?_, ?_, cE.mono (fun a k q => by unfold PmM; omega), cE.i (by omega)⟩
  · unfold f_X12_give
    have r2 : dI (sI M 261 h' v) 207 82 = nn h' := by rw [dI_s, if_neg (by omega)]; exact h3
    rw [h3, if_neg (nn_in (k := h') (n := 260) (by omega) (by omega)), nn_nat (by omega), r2, nn_1]
  · exact h5.kept (P := fun _ _ => False) Ch.rf cE (fun a k b j hc => ⟨fun q => q, by unfold Cor at hc; omega⟩)
theorem smx_pp {v : Int32} {D E : Dat} (hs : Smx 0 zb 0 D E) : ∃ D2 D3, f_X3_push v D = some D2 ∧ f_X3_pop D2 = some (v, D3) ∧ Smx 0 zb 0 D3 E ∧ Cm D D2 ∧ Cm D D3 := by
  obtain ⟨⟨h1, h2, h3⟩, h4, h5, h6⟩ := hs
  have c2 : Ch (fun a k => a = 183 ∨ (a = 181 ∧ k = 2)) D (sI (sI D 183 0 v) 181 2 (nn (0 + 1))) := Ch.sI (Or.inr ⟨rfl, rfl⟩) (Ch.sI (Or.inl rfl) Ch.rf)
  have c3 : Ch (fun a k => a = 183 ∨ (a = 181 ∧ k = 2)) D (sI (sI (sI D 183 0 v) 181 2 (nn (0 + 1))) 181 2 (nn 0)) := Ch.sI (Or.inr ⟨rfl, rfl⟩) c2
  refine ⟨sI (sI D 183 0 v) 181 2 (nn (0 + 1)), sI (sI (sI D 183 0 v) 181 2 (nn (0 + 1))) 181 2 (nn 0), ?_, ?_, ⟨⟨by omega, ?_, h3⟩, fun i hi => absurd hi (by omega), ?_, fun i hi => absurd hi (by omega)⟩, ⟨c2.mono (fun a k q => by unfold PmC; omega), Or.inl (c2.i (by omega))⟩, ⟨c3.mono (fun a k q => by unfold PmC; omega), Or.inl (c3.i (by omega))⟩⟩
  · unfold f_X3_push f_X3_push_b29
    have h2' : dI D 181 2 = nn 0 := h2
    have r2 : dI (sI D 183 0 v) 181 2 = nn 0 := by rw [dI_s, if_neg (by omega)]; exact h2
    rw [h2', if_neg (show ¬ (30 : Int32) ≤ nn 0 by decide), if_neg (nn_in (k := 0) (n := 30) (by omega) (by omega)), nn_nat (by omega), r2, nn_1]
  · unfold f_X3_pop
    have r1 : dI (sI (sI D 183 0 v) 181 2 (nn (0 + 1))) 181 2 = nn (0 + 1) := by rw [dI_s, if_pos ⟨rfl, rfl⟩]
    have e0 : nn (0 + 1) - (1 : Int32) = nn 0 := by decide
    have r3 : dI (sI (sI (sI D 183 0 v) 181 2 (nn (0 + 1))) 181 2 (nn 0)) 181 2 = nn 0 := by rw [dI_s, if_pos ⟨rfl, rfl⟩]
    rw [r1, if_pos (show (0 : Int32) < nn (0 + 1) by decide), e0, r3, if_neg (nn_in (k := 0) (n := 30) (by omega) (by omega)), nn_nat (by omega), dI_s, if_neg (by omega), dI_s, if_neg (by omega), dI_s, if_pos ⟨rfl, rfl⟩]
  · rw [dI_s, if_pos ⟨rfl, rfl⟩]
  · exact h5.kept (Q := fun _ _ => False) c3 Ch.rf (fun a k b j hc => ⟨by unfold Cor at hc; omega, fun q => q⟩)
theorem wc_pl {N nu a : Nat} {K : Nat → Nat} {C Cr : Dat} (hr : f_X10_reckon N nu K (some a) C = some Cr) (hgo : dI Cr 181 10 = -1) (k7 : kd K a = 7) : f_X10_goOverPlain N nu K (some a) C = (if (dI Cr a 0) = 13 then ((f_X3_perform 13 (dI Cr a 3) Cr).bind (fun p13 => (f_X3_perform 2 (dI p13 a 2) p13).bind (fun p15 => some p15))) else (if (dI Cr a 0) = 14 then (f_X3_perform (dI Cr a 0) (dI Cr a 3) Cr).bind (fun p1 => some p1) else (f_X3_perform (dI Cr a 0) (dI Cr a 2) Cr).bind (fun p1 => some p1))) := by
  unfold f_X10_goOverPlain f_X10_goOverPlain_b84 f_X10_goOverPlain_b81 f_X10_goOverPlain_b84
  rw [hr, bS, goes1 hgo, bS, if_neg (show ¬ (1 : Int32) = 0 by decide), bS]
  exact if_pos k7
theorem wc_ple {N nu a : Nat} {K : Nat → Nat} {C Cr : Dat} (hr : f_X10_reckon N nu K (some a) C = some Cr) (he : Edd Cr) : f_X10_goOverPlain N nu K (some a) C = some Cr := by
  unfold f_X10_goOverPlain
  rw [hr, bS, goes0 he, bS]
  exact if_pos rfl
theorem wk_plain {N nu F P nb h cnt bz ez : Nat} {W K : Nat → Nat} {C0 M0 Mg C M : Dat} (hN : 1000 ≤ N) (hE : WE nu P nb h cnt bz ez W K C0 M0 Mg) {x u i : Nat} {rec : RtT} (hP : WP F C0 M0 x u C M) (hi : i < cnt) (hk : dI C0 (nb + i) 0 = 2 ∨ dI C0 (nb + i) 0 = 4 ∨ dI C0 (nb + i) 0 = 13 ∨ dI C0 (nb + i) 0 = 14) : WSG N nu F nb h K C0 M0 Mg rec x u i C M ∨ WSB N nu F nb h K C0 M0 rec x u i C M := by
  rcases wk_burn hP with ⟨hu, b1, b2, hP1⟩ | ⟨hu, b1, b2, b3⟩
  rotate_left
  · exact Or.inr (wk_out hE hP hi hu b1 b2 b3)
  obtain ⟨-, hG, hK7, ⟨hh1, hh2⟩, hNS, hnu, -⟩ := id hE
  obtain ⟨hFs, -, -, ⟨hcnt, hbz, hez⟩, -⟩ := hG
  have hNSv : 266 ≤ nb := hNS
  have k7 := hK7 i hi
  have in128 := nn_in (k := 64 * h + i) (n := 128) (by omega) (by omega)
  generalize hC1 : sI C 181 9 (nn (u + 1)) = C1 at *
  generalize hM1 : sI M 207 83 (nn (u + 1)) = M1 at *
  have cM1 : Ch (WMx x) M M1 := by rw [← hM1]; exact Ch.sI (by unfold WMx; omega) Ch.rf
  obtain ⟨⟨q1, q2⟩, -, hs1, hgo1, -⟩ := id hP1
  have cI : ∀ {C' : Dat} (k : Nat), Ch PmB C0 C' → dI C' (nb + i) k = dI C0 (nb + i) k := fun k q => hE.ci q (by omega)
  have mI : ∀ {M' : Dat} (a : Nat), Ch WM M0 M' → 216 ≤ a → a ≤ 224 → dI M' a (64 * h + i) = dI Mg a (64 * h + i) := fun a q g1 g2 => hE.mg q (by unfold HC; omega)
  have pw : ∀ {M' M'' : Dat}, Ch WM M0 M' → Ch PmM M' M'' → Ch WM M0 M'' := fun q r => q.tr (r.mono (fun a k w => wmx_WM (x := 0) (pmm_WMx w)))
  have b294 : ∀ {M' : Dat}, Ch WM M0 M' → f_X12_step_b294 N (nn (64 * h + i)) M' = some (dI Mg 224 (64 * h + i), M') := fun q => by
    unfold f_X12_step_b294
    rw [if_neg in128, nn_nat (by omega), mI 224 q (by omega) (by omega)]
  have go : ∀ C' M', f_X10_goOverPlain N nu K (some (nb + i)) C1 = some C' → f_X12_step N (nn (64 * h + i)) M1 = some (dI Mg 224 (64 * h + i), M') → (¬ dI C0 (nb + i) 0 = 16 ∧ ¬ dI C0 (nb + i) 0 = 17 ∧ ¬ dI C0 (nb + i) 0 = 18) → Ch PmM M1 M' → (WP F C0 M0 x (u + 1) C' M' ∨ WD C0 M0 C' M') → WSG N nu F nb h K C0 M0 Mg rec x u i C M ∨ WSB N nu F nb h K C0 M0 rec x u i C M := fun C' M' e1 e2 e3 e4 e5 => by
    refine wk_fin (C' := C') hE hP hi hu b2 (fun g => ?_) e2 ?_
    · rw [wc_b9 hP.2.2.2.1 b1 k7, cI 0 q1, if_neg e3.1, if_neg e3.2.1, if_neg e3.2.2, e1, bS]
    · rcases e5 with e5 | e5
      · exact Or.inl ⟨e5, rfl, cM1.tr (e4.mono (fun a k w => pmm_WMx w))⟩
      · exact Or.inr e5
  rcases (hFs i hi).1.2 with ⟨r1, r2, ⟨y, y1, y2, y3, y4⟩, e, e1, e2⟩ | ⟨r1, r2, ⟨y, y1, y2, y3, y4⟩, fr, n1, n2, e1, e2, ⟨f1, f2, f3⟩, ⟨f4, f5, f6, f7, f8, f9⟩, x1, x2, x3, x4, x5⟩ | ⟨r1, r2, ⟨y, y1, y2, y3, y4⟩, ⟨l, l1, l2, l3⟩, fr, z1, z2, z3⟩ | ⟨r1, r2, ⟨l, l1, l2, l3⟩, e, e1, e2⟩ | ⟨r1, -⟩ | ⟨r1, -⟩ | ⟨r1, -⟩
  · have nk : ¬ dI C0 (nb + i) 0 = 16 ∧ ¬ dI C0 (nb + i) 0 = 17 ∧ ¬ dI C0 (nb + i) 0 = 18 := by rw [r1]; decide
    rcases wk_ex (N := N) hN hE hi e2 hs1 hgo1 q1 q2 with ⟨v, C2, M2, C3, M3, a1, a2, ⟨a3, a4⟩, ⟨a5, a6⟩, ⟨a7, a8⟩, ⟨a9, a10⟩, a11, a12⟩ | ⟨C2, M2, h', a1, a2, a3, a4, a5, a6⟩
    · refine go (sI C3 182 y v) (sI M3 259 y v) ?_ ?_ nk (Ch.sI (by unfold PmM; omega) a12) (Or.inl (hP1.to (Cm.sI (by unfold PmC; omega) (by omega) a10) (Ch.sI (by unfold PmM; omega) a12) (a6.set (cor_v y1) (fun w => absurd w (by decide))) (by rw [dI_s, if_neg (by omega)]; exact a8)))
      · rw [wc_pl a1 a7 k7, cI 0 (q1.tr a9.b), cI 2 (q1.tr a9.b), r1, if_neg (show ¬ (2 : Int32) = 13 by decide), if_neg (show ¬ (2 : Int32) = 14 by decide), y2, pC_2, a3, bS]
        show (f_X3_setCell (nn y) v C3).bind _ = _
        rw [e_X3_setCell (by omega), bS]
      · have i1 := nn_in (k := y) (n := 26) (by omega) y1
        unfold f_X12_step
        simp only [if_neg in128]
        rw [nn_nat (by omega), mI 216 q2 (by omega) (by omega), r2, if_pos rfl, mI 221 q2 (by omega) (by omega), e1, a2, bS]
        show (if 0 ≤ dI M3 207 84 then _ else (if (dI M3 218 (64 * h + i)) < 0 ∨ 26 ≤ (dI M3 218 (64 * h + i)).toNatClampNeg then none else f_X12_step_b294 N (nn (64 * h + i)) (sI M3 259 (dI M3 218 (64 * h + i)).toNatClampNeg v))) = _
        rw [if_neg (mgo a8 a6.2.2.1), mI 218 (pw q2 a12) (by omega) (by omega), y3, if_neg i1, nn_nat (by omega), b294 (Ch.sI (by unfold WM; omega) (pw q2 a12))]
    · refine go C2 M2 (wc_ple a1 a4) ?_ nk a6 (Or.inr (hP1.ed a5 a6 a3.2.2.1 a4.1))
      unfold f_X12_step
      simp only [if_neg in128]
      rw [nn_nat (by omega), mI 216 q2 (by omega) (by omega), r2, if_pos rfl, mI 221 q2 (by omega) (by omega), e1, a2, bS]
      refine (if_pos (a4.m a3.2.2.1)).trans ?_
      exact b294 (pw q2 a6)
  · have nk : ¬ dI C0 (nb + i) 0 = 16 ∧ ¬ dI C0 (nb + i) 0 = 17 ∧ ¬ dI C0 (nb + i) 0 = 18 := by rw [r1]; decide
    have k4 : dI C1 (nb + i) 4 = nn fr := by rw [cI 4 q1]; exact f1
    have rk : f_X10_reckon N nu K (some (nb + i)) C1 = f_X10_reckon_b5 N nu K N (some (nb + i)) (nn fr) C1 := by
      unfold f_X10_reckon
      rw [bS, if_pos k7, k4]
    -- a step of the model that ended within an expression
    have bE : ∀ {M' : Dat} (v w : Int32), Ch WM M0 M' → 0 ≤ dI M' 207 84 → f_X12_step_b113 N (nn (64 * h + i)) v w M' = some (dI Mg 224 (64 * h + i), M') := fun v w c p => by
      unfold f_X12_step_b113
      rw [if_pos p]
      unfold f_X12_step_b140
      rw [if_pos p]
      exact b294 c
    have st : ∀ {v : Int32} {M' : Dat}, f_X12_worth N (nn e1) M1 = some (v, M') → f_X12_step N (nn (64 * h + i)) M1 = (if 0 ≤ (dI M' 207 84) then (f_X12_step_b113 N (nn (64 * h + i)) v 0 M') else ((f_X12_worth N (dI M' 221 (64 * h + i)) M').bind (fun p25 => f_X12_step_b113 N (nn (64 * h + i)) v p25.1 p25.2))) := fun w => by
      unfold f_X12_step
      simp only [if_neg in128]
      rw [nn_nat (by omega), mI 216 q2 (by omega) (by omega), r2, if_neg (show ¬ (2 : Int32) = 1 by decide), if_pos rfl, mI 220 q2 (by omega) (by omega), f4, w, bS]
    rcases wk_it (N := N) (s := 0) (bs := zb) hE (show 266 ≤ nb + i by omega) k7 f2 (by omega) n1 fr e1 0 1 C1 M1 x1 (by omega) (by omega) f6 f7 x3 x3 hs1 hgo1 q1 q2 with ⟨C2, M2, a1, a2, a3, a4, a5, a6⟩ | ⟨C2, M2, h', a1, a2, a3, a4, a5, a6⟩
    · obtain ⟨v, -, M3, -, p2, -, -, -⟩ := smx_pop a3
      obtain ⟨s3, c3⟩ := smx_lift a3 p2
      have w1 : f_X12_worth N (nn e1) M1 = some (v, M3) := by
        unfold f_X12_worth
        rw [a2 N (by omega)]
        unfold f_X12_worth_b40 f_X12_worth_b55
        rw [if_neg (mgo a4 a3.2.2.1), p2, bS]
      have q3 : Ch PmB C0 C2 := q1.tr a5.b
      have q4 : Ch WM M0 M3 := pw (pw q2 a6) c3
      rcases wk_it (N := N) (s := 1) (bs := fun _ => v) hE (show 266 ≤ nb + i by omega) k7 f2 (by omega) n2 (fr + n1) e2 0 1 C2 M3 x2 (by omega) (by omega) f8 f9 x4 x5 s3 a4 q3 q4 with ⟨C4, M4, d1, d2, d3, d4, d5, d6⟩ | ⟨C4, M4, h', d1, d2, d3, d4, d5, d6⟩
      · obtain ⟨w, C5, M5, p3, p4, p5, p6, p7⟩ := smx_pop d3
        obtain ⟨t1, t2, t3⟩ := smx_drop p5
        have w2 : f_X12_worth N (nn e2) M3 = some (w, M5) := by
          unfold f_X12_worth
          rw [d2 N (by omega)]
          unfold f_X12_worth_b40 f_X12_worth_b55
          rw [if_neg (mgo d4 d3.2.2.1), p4, bS]
        have cC4 : Cm C1 C4 := a5.tr d5
        have cM5 : Ch PmM M1 M5 := (a6.tr c3).tr (d6.tr p7)
        have rr : f_X10_reckon N nu K (some (nb + i)) C1 = some C4 := by
          have u1 := a1 (N - n1 - n2 - 1 + 1 + n2)
          have u2 := d1 (N - n1 - n2 - 1 + 1)
          rw [show N - n1 - n2 - 1 + 1 + n2 + n1 = N by omega] at u1
          have k5 : dI C4 (nb + i) 5 = nn (fr + n1 + n2) := by rw [cI 5 (q1.tr cC4.b)]; exact f2
          rw [rk, u1, u2, f_X10_reckon_b5, bS, if_pos k7, k5, if_pos ((nn_le (by omega) (by omega)).mpr (Nat.le_refl _))]
          rfl
        have g5 : dI (sI C5 181 2 (nn 0)) 181 10 = -1 := by rw [dI_s, if_neg (by omega), pop_e p3]; exact d4
        have cC6 : Cm C1 (sI C5 181 2 (nn 0)) := cC4.tr (p6.tr t3)
        have cls : f_X10_goOverPlain N nu K (some (nb + i)) C1 = f_X3_setInRow (nn y) w v (sI C5 181 2 (nn 0)) := by
          rw [wc_pl rr d4 k7, cI 0 (q1.tr cC4.b), cI 2 (q1.tr cC4.b), r1, if_neg (show ¬ (4 : Int32) = 13 by decide), if_neg (show ¬ (4 : Int32) = 14 by decide), y2, pC_4, p3, bS]
          show ((f_X3_pop C5).bind _).bind _ = _
          rw [t1, bS, bI]
        have mdl : f_X12_step N (nn (64 * h + i)) M1 = f_X12_step_b113 N (nn (64 * h + i)) v w M5 := by
          rw [st w1, if_neg (mgo a4 s3.2.2.1), mI 221 q4 (by omega) (by omega), f5, w2, bS]
        generalize sI C5 181 2 (nn 0) = C6 at *
        have m5 := mgo g5 t2.2.2.1
        by_cases hv : 0 ≤ v.toInt ∧ v.toInt < 8
        · obtain ⟨m, hm, rfl⟩ := nn_of hv.1
          rw [nn_int hm] at hv
          have g1 : (26 : Int32) + nn y * (8 : Int32) + nn m = nn (26 + (8 * y + m)) := by rw [nn_l 26, nn_l 8, nn_mul, nn_add, nn_add, Nat.mul_comm y, Nat.add_assoc]
          have g2 : (8 : Int32) * nn y + nn m = nn (8 * y + m) := by rw [nn_l, nn_mul, nn_add]
          have g3 : nn m < 8 := by rw [nn_l, nn_lt (by omega) (by omega)]; omega
          have i2 := nn_in (k := 8 * y + m) (n := 208) (by omega) (by omega)
          refine go (sI C6 182 (26 + (8 * y + m)) w) (sI M5 260 (8 * y + m) w) ?_ ?_ nk (Ch.sI (by unfold PmM; omega) cM5) (wk_res hP1 (Cm.sI (by unfold PmC; omega) (by omega) cC6) (Ch.sI (by unfold PmM; omega) cM5) (t2.set (cor_r (j := 8 * y + m) (by omega)) (fun q => absurd q (by decide))))
          · rw [cls]
            unfold f_X3_setInRow
            rw [if_neg (nn_nlt0 hm), if_pos g3, g1, e_X3_setCell (by omega), bS]
            rfl
          · rw [mdl]
            unfold f_X12_step_b113
            rw [if_neg m5, row_yes (show m < 8 by omega), bS]
            refine (if_pos rfl).trans ?_
            unfold f_X12_step_b140
            refine (if_neg m5).trans ?_
            rw [if_neg in128]
            show (if ((8 : Int32) * (dI M5 218 (nn (64 * h + i)).toNatClampNeg) + nn m) < 0 ∨ 208 ≤ ((8 : Int32) * (dI M5 218 (nn (64 * h + i)).toNatClampNeg) + nn m).toNatClampNeg then none else f_X12_step_b294 N (nn (64 * h + i)) (sI M5 260 ((8 : Int32) * (dI M5 218 (nn (64 * h + i)).toNatClampNeg) + nn m).toNatClampNeg w)) = _
            rw [nn_nat (by omega), mI 218 (pw q2 cM5) (by omega) (by omega), y3, g2, if_neg i2, nn_nat (by omega)]
            exact b294 (Ch.sI (by unfold WM; omega) (pw q2 cM5))
        · refine go (sI C6 181 10 2) (sI M5 207 84 2) ?_ ?_ nk (chE2 cM5) (wk_res hP1 (chE1 cC6 (by decide)) (chE2 cM5) (smx_end t2 2))
          · rw [cls]
            unfold f_X3_setInRow
            simp only [f_X3_setInRow_b10, f_X3_setInRow_b32]
            by_cases q : v < 0
            · rw [if_pos q]
            · have q2 : ¬ v < 8 := by
                rw [Int32.lt_iff_toInt_lt]
                have := not_lt0.mp q
                show ¬ _ < (8 : Int)
                omega
              rw [if_neg q, if_neg q2]
          · rw [mdl]
            unfold f_X12_step_b113
            rw [if_neg m5, row_no hv, bS]
            refine (if_neg (show ¬ (1 : Int32) = 0 by decide)).trans ?_
            exact b294 (Ch.sI (by unfold WM; omega) (pw q2 cM5))
      · have w2 : f_X12_worth N (nn e2) M3 = some (0, M4) := by
          unfold f_X12_worth
          rw [d2 N (by omega)]
          unfold f_X12_worth_b40 f_X12_worth_b55
          rw [if_pos (d4.m d3.2.2.1)]
        have rr : f_X10_reckon N nu K (some (nb + i)) C1 = some C4 := by
          have u1 := a1 (N - n1 - n2 - 1 + n2 + 1)
          have u2 := d1 (N - n1 - n2 - 1)
          rw [show N - n1 - n2 - 1 + n2 + 1 + n1 = N by omega] at u1
          rw [rk, u1, u2]
        have cM4 : Ch PmM M1 M4 := (a6.tr c3).tr d6
        refine go C4 M4 (wc_ple rr d4) ?_ nk cM4 (Or.inr (hP1.ed (a5.tr d5) cM4 d3.2.2.1 d4.1))
        rw [st w1, if_neg (mgo a4 s3.2.2.1), mI 221 q4 (by omega) (by omega), f5, w2, bS]
        exact bE v 0 (pw q2 cM4) (d4.m d3.2.2.1)
    · have w1 : f_X12_worth N (nn e1) M1 = some (0, M2) := by
        unfold f_X12_worth
        rw [a2 N (by omega)]
        unfold f_X12_worth_b40 f_X12_worth_b55
        rw [if_pos (a4.m a3.2.2.1)]
      have rr : f_X10_reckon N nu K (some (nb + i)) C1 = some C2 := by
        have u1 := a1 (N - n1 - 1)
        rw [show N - n1 - 1 + n1 + 1 = N by omega] at u1
        rw [rk, u1]
      refine go C2 M2 (wc_ple rr a4) ?_ nk a6 (Or.inr (hP1.ed a5 a6 a3.2.2.1 a4.1))
      rw [st w1, if_pos (a4.m a3.2.2.1)]
      exact bE 0 0 (pw q2 a6) (a4.m a3.2.2.1)
  · have nk : ¬ dI C0 (nb + i) 0 = 16 ∧ ¬ dI C0 (nb + i) 0 = 17 ∧ ¬ dI C0 (nb + i) 0 = 18 := by rw [r1]; decide
    obtain ⟨v, C2, M2, a1, a2, a3, a4, a5⟩ := smx_input (k := l) hs1 (by omega)
    obtain ⟨C3, C4, d1, d2, d3, d4, d5⟩ := smx_pp (v := v) a3
    have rr : f_X10_reckon N nu K (some (nb + i)) C1 = some C1 := by
      unfold f_X10_reckon
      rw [bS, if_pos k7, show N = (N - 1) + 1 by omega, f_X10_reckon_b5, bS, if_pos k7, cI 4 q1, cI 5 q1, z2, z3, if_pos ((nn_le (by omega) (by omega)).mpr (Nat.le_refl _))]
      rfl
    have i1 := nn_in (k := y) (n := 26) (by omega) y1
    refine go (sI C4 182 y v) (sI M2 259 y v) ?_ ?_ nk (Ch.sI (by unfold PmM; omega) a5) (wk_res hP1 (Cm.sI (by unfold PmC; omega) (by omega) (a4.tr d5)) (Ch.sI (by unfold PmM; omega) a5) (d3.set (cor_v y1) (fun w => absurd w (by decide))))
    · rw [wc_pl rr hgo1 k7, cI 0 q1, cI 3 q1, r1, if_pos rfl, l2, pC_13, a1, bS]
      show ((f_X3_push v C2).bind _) = _
      rw [d1, bS, cI 2 (q1.tr (a4.tr d4).b), y2, pC_2, d2, bS]
      show ((f_X3_setCell (nn y) v C4).bind _) = _
      rw [e_X3_setCell (by omega), bS]
    · unfold f_X12_step
      simp only [if_neg in128]
      rw [nn_nat (by omega), mI 216 q2 (by omega) (by omega), r2, if_neg (show ¬ (5 : Int32) = 1 by decide), if_neg (show ¬ (5 : Int32) = 2 by decide), if_neg (show ¬ (5 : Int32) = 3 by decide), if_pos rfl, mI 219 q2 (by omega) (by omega), l3, a2, bS, mI 218 q2 (by omega) (by omega), y3, if_neg i1, nn_nat (by omega)]
      exact b294 (Ch.sI (by unfold WM; omega) (pw q2 a5))
  · have nk : ¬ dI C0 (nb + i) 0 = 16 ∧ ¬ dI C0 (nb + i) 0 = 17 ∧ ¬ dI C0 (nb + i) 0 = 18 := by rw [r1]; decide
    have st : ∀ {v : Int32} {M' M'' : Dat}, f_X12_worth N (nn e) M1 = some (v, M') → f_X12_give v M' = some M'' → f_X12_step N (nn (64 * h + i)) M1 = (if 0 ≤ (dI M'' 207 84) then (f_X12_step_b294 N (nn (64 * h + i)) M'') else ((f_X12_write (dI M'' 219 (64 * h + i)) M'').bind (fun p50 => f_X12_step_b294 N (nn (64 * h + i)) p50))) := fun w1 w2 => by
      unfold f_X12_step
      simp only [if_neg in128]
      rw [nn_nat (by omega), mI 216 q2 (by omega) (by omega), r2, if_neg (show ¬ (6 : Int32) = 1 by decide), if_neg (show ¬ (6 : Int32) = 2 by decide), if_neg (show ¬ (6 : Int32) = 3 by decide), if_neg (show ¬ (6 : Int32) = 5 by decide), if_pos rfl, mI 220 q2 (by omega) (by omega), e1, w1, bS]
      show ((f_X12_give _ _).bind _) = _
      rw [w2, bS]
    rcases wk_ex (N := N) hN hE hi e2 hs1 hgo1 q1 q2 with ⟨v, C2, M2, C3, M3, a1, a2, ⟨a3, a4⟩, ⟨a5, a6⟩, ⟨a7, a8⟩, ⟨a9, a10⟩, a11, a12⟩ | ⟨C2, M2, h', a1, a2, a3, a4, a5, a6⟩
    · obtain ⟨M4, d1, d2, d3⟩ := smx_give a5 a4
      obtain ⟨C5, M5, t1, t2, t3, t4, t5⟩ := smx_write (k := l) d2 (by omega)
      have cM5 : Ch PmM M1 M5 := a11.tr (d3.tr t5)
      refine go C5 M5 ?_ ?_ nk cM5 (wk_res hP1 (a9.tr t4) cM5 t3)
      · rw [wc_pl a1 a7 k7, cI 0 (q1.tr a9.b), cI 3 (q1.tr a9.b), r1, if_neg (show ¬ (14 : Int32) = 13 by decide), if_pos rfl, l2, pC_14, t1, bS]
      · rw [st a2 d1, if_neg (mgo a7 d2.2.2.1), mI 219 (pw q2 (a11.tr d3)) (by omega) (by omega), l3, t2, bS]
        exact b294 (pw q2 cM5)
    · obtain ⟨M4, d1, d2, d3, d4⟩ := smx_giveE (v := 0) a3
      refine go C2 M4 (wc_ple a1 a4) ?_ nk (a6.tr d3) (Or.inr (hP1.ed a5 (a6.tr d3) d2 a4.1))
      rw [st a2 d1, if_pos (a4.m d2)]
      exact b294 (pw q2 (a6.tr d3))
  · rw [r1] at hk; exact absurd hk (by decide)
  · rw [r1] at hk; exact absurd hk (by decide)
  · rw [r1] at hk; exact absurd hk (by decide)
