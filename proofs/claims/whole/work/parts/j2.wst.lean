/-! the walk: states, fuel, steps -/
def zb : Nat → Int32 := fun _ => 0
def WP (F : Nat) (C0 M0 : Dat) (x u : Nat) (C M : Dat) : Prop := (Ch PmB C0 C ∧ Ch WM M0 M) ∧ (dI C 181 8 = nn F ∧ dI C 181 9 = nn u ∧ u ≤ F ∧ F ≤ 600) ∧ Smx 0 zb 0 C M ∧ dI C 181 10 = -1 ∧ dI M 207 55 = nn x
def WD (C0 M0 C M : Dat) : Prop := (Ch PmB C0 C ∧ Ch WM M0 M) ∧ SmR C M ∧ Edd C
theorem WP.to {F x u : Nat} {C0 M0 C M C' M' : Dat} (hP : WP F C0 M0 x u C M) (cC : Cm C C') (cM : Ch PmM M M') (hs : Smx 0 zb 0 C' M') (hgo : dI C' 181 10 = -1) : WP F C0 M0 x u C' M' := by
  obtain ⟨⟨a1, a2⟩, ⟨b1, b2, b3⟩, -, -, b4⟩ := hP
  refine ⟨⟨a1.tr cC.b, a2.tr (cM.mono (fun a k q => wmx_WM (x := 0) (pmm_WMx q)))⟩, ⟨?_, ?_, b3⟩, hs, hgo, ?_⟩
  · rw [cC.1.i (by unfold PmC; omega)]; exact b1
  · rw [cC.1.i (by unfold PmC; omega)]; exact b2
  · rw [cM.i (by unfold PmM; omega)]; exact b4
theorem WP.ed {F x u : Nat} {C0 M0 C M C' M' : Dat} (hP : WP F C0 M0 x u C M) (cC : Cm C C') (cM : Ch PmM M M') (hs : SmR C' M') (hgo : ¬ dI C' 181 10 = -1) : WD C0 M0 C' M' := by
  obtain ⟨⟨a1, a2⟩, -, -, b3, -⟩ := hP
  refine ⟨⟨a1.tr cC.b, a2.tr (cM.mono (fun a k q => wmx_WM (x := 0) (pmm_WMx q)))⟩, hs, hgo, ?_⟩
  rcases cC.2 with q | q
  · exact absurd (q.trans b3) hgo
  · exact q
theorem wk_burn {F x u : Nat} {C0 M0 C M : Dat} (hP : WP F C0 M0 x u C M) : (u < F ∧ f_X3_burns C = some (1, sI C 181 9 (nn (u + 1))) ∧ f_X12_fuelled (nn F) M = some (1, sI M 207 83 (nn (u + 1))) ∧ WP F C0 M0 x (u + 1) (sI C 181 9 (nn (u + 1))) (sI M 207 83 (nn (u + 1)))) ∨ (u = F ∧ f_X3_burns C = some (0, sI C 181 10 3) ∧ f_X12_fuelled (nn F) M = some (0, sI M 207 84 3) ∧ WD C0 M0 (sI C 181 10 3) (sI M 207 84 3)) := by
  obtain ⟨⟨a1, a2⟩, ⟨b1, b2, b3, b4⟩, hs, hgo, h55⟩ := hP
  have hR := hs.2.2.1
  have m83 : dI M 207 83 = nn u := (hR.1 181 9 207 83 cor_u).symm.trans b2
  have m84 : dI M 207 84 = -1 := (hR.1 181 10 207 84 cor_n).symm.trans hgo
  by_cases q : u < F
  · left
    refine ⟨q, ?_, ?_, ⟨Ch.sI (by unfold PmB; omega) a1, Ch.sI (by unfold WM; omega) a2⟩, ⟨?_, ?_, by omega, b4⟩, hs.set cor_u (fun w => absurd w (by decide)), ?_, ?_⟩
    · unfold f_X3_burns
      rw [b1, b2, if_pos ((nn_lt (by omega) (by omega)).mpr q), nn_1]
    · unfold f_X12_fuelled f_X12_fuelled_b26 f_X12_fuelled_b38
      rw [m83, if_neg (fun w => by have := (nn_eq (by omega) (by omega)).mp w; omega), nn_1]
      have e : dI (sI M 207 83 (nn (u + 1))) 207 84 = -1 := by rw [dI_s, if_neg (by omega)]; exact m84
      rw [e, if_neg (by decide), if_pos (by decide)]
    · rw [dI_s, if_neg (by omega)]; exact b1
    · rw [dI_s, if_pos ⟨rfl, rfl⟩]
    · rw [dI_s, if_neg (by omega)]; exact hgo
    · rw [dI_s, if_neg (by omega)]; exact h55
  · right
    obtain rfl : u = F := by omega
    refine ⟨rfl, ?_, ?_, ⟨Ch.sI (by unfold PmB PmC; omega) a1, Ch.sI (by unfold WM; omega) a2⟩, (smx_end hs 3).2.2.1, ?_, ?_⟩
    · unfold f_X3_burns
      rw [b1, b2, if_neg (fun w => by have := (nn_lt (by omega) (by omega)).mp w; omega)]
    · unfold f_X12_fuelled f_X12_fuelled_b26 f_X12_fuelled_b38
      rw [m83, if_pos rfl]
      have e : dI (sI M 207 84 3) 207 84 = 3 := by rw [dI_s, if_pos ⟨rfl, rfl⟩]
      rw [e, if_pos (by decide), if_pos (by decide)]
    · rw [dI_s, if_pos ⟨rfl, rfl⟩]; decide
    · rw [dI_s, if_pos ⟨rfl, rfl⟩]; decide
theorem wk_e {N g : Nat} {F s : Int32} {M : Dat} (h : 0 ≤ dI M 207 84) : f_X12_walk_b55 N (g + 1) F s M = some (dI M 207 84, M) := by
  rw [f_X12_walk_b55, if_pos h]
theorem wk_st {N g m : Nat} {F : Int32} {M M1 : Dat} (hm : m < 2147483648) (h : ¬ 0 ≤ dI M 207 84) (hf : f_X12_fuelled F M = some (1, M1)) : f_X12_walk_b55 N (g + 1) F (nn m) M = (f_X12_step N (nn m) M1).bind (fun p => f_X12_walk_b55 N g F p.1 p.2) := by
  rw [f_X12_walk_b55, if_neg h, if_pos (show (0 : Int32) ≤ nn m from (nn_le (a := 0) (by omega) (by omega)).mpr (by omega))]
  unfold f_X12_walk_b81
  rw [if_neg (nn_nlt0 (by omega)), hf, bS]
  exact if_neg (show ¬ (1 : Int32) = 0 by decide)
theorem wk_st0 {N g m : Nat} {F : Int32} {M M1 : Dat} (hm : m < 2147483648) (h : ¬ 0 ≤ dI M 207 84) (hf : f_X12_fuelled F M = some (0, M1)) : f_X12_walk_b55 N (g + 1) F (nn m) M = f_X12_walk_b55 N g F (nn m) M1 := by
  rw [f_X12_walk_b55, if_neg h, if_pos (show (0 : Int32) ≤ nn m from (nn_le (a := 0) (by omega) (by omega)).mpr (by omega))]
  unfold f_X12_walk_b81
  rw [if_neg (nn_nlt0 (by omega)), hf, bS]
  exact if_pos rfl
theorem wc_b9 {N nu g : Nat} {K : Nat → Nat} {rec : RtT} {x : Int32} {a : Nat} {C C1 : Dat} (hgo : dI C 181 10 = -1) (hb : f_X3_burns C = some (1, C1)) (k7 : kd K a = 7) : f_X10_goThrough_s_b9 rec N nu K (g + 1) x (some a) C = (if (dI C1 a 0) = (16 : Int32) then ((f_X10_goOverIf rec N nu K (some a) x C1).bind (fun p14 => f_X10_goThrough_s_b108 rec N nu K (f_X10_goThrough_s_b9 rec N nu K g) x (some a) p14)) else (if (dI C1 a 0) = (17 : Int32) then ((f_X10_goOverWhile rec N nu K (some a) x C1).bind (fun p17 => f_X10_goThrough_s_b108 rec N nu K (f_X10_goThrough_s_b9 rec N nu K g) x (some a) p17)) else (if (dI C1 a 0) = (18 : Int32) then (((dR C1 189 1)).bind (fun a20 => if a20 = 191 ∨ a20 = 196 then ((f_X4_proc a20 (dI C1 a 2) C1).bind (fun p23 => (rec p23.1 (x + (1 : Int32)) p23.2).bind (fun p25 => f_X10_goThrough_s_b108 rec N nu K (f_X10_goThrough_s_b9 rec N nu K g) x (some a) p25))) else none)) else ((f_X10_goOverPlain N nu K (some a) C1).bind (fun p27 => f_X10_goThrough_s_b108 rec N nu K (f_X10_goThrough_s_b9 rec N nu K g) x (some a) p27))))) := by
  rw [f_X10_goThrough_s_b9, oelS, goes1 hgo, bS, if_neg (show ¬ (1 : Int32) = 0 by decide)]
  show (f_X3_burns C).bind _ = _
  rw [hb, bS, if_neg (show ¬ (1 : Int32) = 0 by decide)]
  exact if_pos k7
theorem wc_out {N nu g : Nat} {K : Nat → Nat} {rec : RtT} {x : Int32} {a : Nat} {C C1 : Dat} (hgo : dI C 181 10 = -1) (hb : f_X3_burns C = some (0, C1)) : f_X10_goThrough_s_b9 rec N nu K (g + 1) x (some a) C = some C1 := by
  rw [f_X10_goThrough_s_b9, oelS, goes1 hgo, bS, if_neg (show ¬ (1 : Int32) = 0 by decide)]
  show (f_X3_burns C).bind _ = _
  rw [hb, bS]
  exact if_pos rfl
theorem wc_e {N nu g : Nat} {K : Nat → Nat} {rec : RtT} {x : Int32} {r : Option Nat} {C : Dat} (he : Edd C) : f_X10_goThrough_s_b9 rec N nu K (g + 1) x r C = some C := by
  rw [f_X10_goThrough_s_b9]
  cases r with
  | none => rfl
  | some a =>
    rw [oelS, goes0 he, bS]
    exact if_pos rfl
/-- a statement was done, or began a block that is done, in both -/
def WSG (N nu F nb h : Nat) (K : Nat → Nat) (C0 M0 Mg : Dat) (rec : RtT) (x u i : Nat) (C M : Dat) : Prop := ∃ C' M' u' k, k + 2 * u ≤ 2 * u' ∧ (∀ g, f_X10_goThrough_s_b9 rec N nu K (g + 1) (nn x) (some (nb + i)) C = f_X10_goThrough_s_b9 rec N nu K g (nn x) (dR C0 (nb + i) 9) C') ∧ (∀ g, f_X12_walk_b55 N (g + k) (nn F) (nn (64 * h + i)) M = f_X12_walk_b55 N g (nn F) (dI Mg 224 (64 * h + i)) M') ∧ WP F C0 M0 x u' C' M' ∧ Ch (WMx x) M M'
/-- it ended in both -/
def WSB (N nu F nb h : Nat) (K : Nat → Nat) (C0 M0 : Dat) (rec : RtT) (x u i : Nat) (C M : Dat) : Prop := ∃ C' M' k, k + 2 * u ≤ 2 * F + 2 ∧ (∀ g, f_X10_goThrough_s_b9 rec N nu K (g + 2) (nn x) (some (nb + i)) C = some C') ∧ (∀ g, f_X12_walk_b55 N (g + k) (nn F) (nn (64 * h + i)) M = some (dI M' 207 84, M')) ∧ WD C0 M0 C' M'
theorem wk_out {N nu F P nb h cnt bz ez : Nat} {W K : Nat → Nat} {C0 M0 Mg C M : Dat} (hE : WE nu P nb h cnt bz ez W K C0 M0 Mg) {x u i : Nat} {rec : RtT} (hP : WP F C0 M0 x u C M) (hi : i < cnt) (hu : u = F) (b1 : f_X3_burns C = some (0, sI C 181 10 3)) (b2 : f_X12_fuelled (nn F) M = some (0, sI M 207 84 3)) (b3 : WD C0 M0 (sI C 181 10 3) (sI M 207 84 3)) : WSB N nu F nb h K C0 M0 rec x u i C M := by
  obtain ⟨-, hG, -, ⟨hh1, hh2⟩, -⟩ := id hE
  have hcnt : cnt ≤ 60 := hG.2.2.2.1.1
  have m0 := mgo hP.2.2.2.1 hP.2.2.1.2.2.1
  refine ⟨_, _, 2, by omega, fun g => wc_out hP.2.2.2.1 b1, fun g => ?_, b3⟩
  rw [show g + 2 = (g + 1) + 1 by omega, wk_st0 (by omega) m0 b2, wk_e (b3.2.2.m b3.2.1)]
theorem wk_fin {N nu F P nb h cnt bz ez : Nat} {W K : Nat → Nat} {C0 M0 Mg C M C' M1 M' : Dat} (hE : WE nu P nb h cnt bz ez W K C0 M0 Mg) {x u i : Nat} {s' : Int32} {rec : RtT} (hP : WP F C0 M0 x u C M) (hi : i < cnt) (hu : u < F) (hf : f_X12_fuelled (nn F) M = some (1, M1)) (Hc : ∀ g, f_X10_goThrough_s_b9 rec N nu K (g + 1) (nn x) (some (nb + i)) C = f_X10_goThrough_s_b108 rec N nu K (f_X10_goThrough_s_b9 rec N nu K g) (nn x) (some (nb + i)) C') (Hm : f_X12_step N (nn (64 * h + i)) M1 = some (s', M')) (hr : (WP F C0 M0 x (u + 1) C' M' ∧ s' = dI Mg 224 (64 * h + i) ∧ Ch (WMx x) M M') ∨ WD C0 M0 C' M') : WSG N nu F nb h K C0 M0 Mg rec x u i C M ∨ WSB N nu F nb h K C0 M0 rec x u i C M := by
  obtain ⟨-, hG, hK7, ⟨hh1, hh2⟩, hNS, -⟩ := id hE
  have hcnt : cnt ≤ 60 := hG.2.2.2.1.1
  have hNSv : 266 ≤ nb := hNS
  have k7 := hK7 i hi
  have m0 := mgo hP.2.2.2.1 hP.2.2.1.2.2.1
  have cC : ∀ g, Ch PmB C0 C' → f_X10_goThrough_s_b9 rec N nu K (g + 1) (nn x) (some (nb + i)) C = f_X10_goThrough_s_b9 rec N nu K g (nn x) (dR C0 (nb + i) 9) C' := fun g hc => by
    rw [Hc]
    unfold f_X10_goThrough_s_b108
    rw [bS, if_pos k7, hE.cr hc (by omega)]
  have cM : ∀ g, f_X12_walk_b55 N (g + 1) (nn F) (nn (64 * h + i)) M = f_X12_walk_b55 N g (nn F) s' M' := fun g => by
    rw [wk_st (by omega) m0 hf, Hm, bS]
  rcases hr with ⟨r1, r2, r3⟩ | r
  · left
    exact ⟨C', M', u + 1, 1, by omega, fun g => cC g r1.1.1, fun g => by rw [cM, r2], r1, r3⟩
  · right
    refine ⟨C', M', 2, by omega, fun g => ?_, fun g => ?_, r⟩
    · rw [show g + 2 = (g + 1) + 1 by omega, cC (g + 1) r.1.1, wc_e r.2.2]
    · rw [show g + 2 = (g + 1) + 1 by omega, cM, wk_e (r.2.2.m r.2.1)]
theorem pop_e {v : Int32} {C C' : Dat} (h : f_X3_pop C = some (v, C')) : dI C' 181 10 = dI C 181 10 := by
  unfold f_X3_pop at h
  by_cases q : 0 < dI C 181 2
  · rw [if_pos q] at h
    obtain ⟨-, h⟩ := or_none h
    have e : sI C 181 2 ((dI C 181 2) - (1 : Int32)) = C' := congrArg Prod.snd (Option.some.inj h)
    rw [← e, dI_s, if_neg (by omega)]
  · rw [if_neg q] at h
    have e : C = C' := congrArg Prod.snd (Option.some.inj h)
    rw [e]
/-- an expression of a statement -/
theorem wk_ex {N nu P nb h cnt bz ez : Nat} {W K : Nat → Nat} {C0 M0 Mg C M : Dat} (hN : 1000 ≤ N) (hE : WE nu P nb h cnt bz ez W K C0 M0 Mg) {i es : Nat} (hi : i < cnt) (hx : FsE P h bz ez C0 Mg (nb + i) es) (hs : Smx 0 zb 0 C M) (hgo : dI C 181 10 = -1) (hC : Ch PmB C0 C) (hM : Ch WM M0 M) : (∃ v C1 M1 C2 M2, f_X10_reckon N nu K (some (nb + i)) C = some C1 ∧ f_X12_worth N (nn es) M = some (v, M2) ∧ (f_X3_pop C1 = some (v, C2) ∧ f_X12_pop M1 = some (v, M2)) ∧ (Smx 0 zb 1 C1 M1 ∧ Smx 0 zb 0 C2 M2) ∧ (dI C1 181 10 = -1 ∧ dI C2 181 10 = -1) ∧ (Cm C C1 ∧ Cm C C2) ∧ Ch PmM M M1 ∧ Ch PmM M M2) ∨ (∃ C1 M1 h', f_X10_reckon N nu K (some (nb + i)) C = some C1 ∧ f_X12_worth N (nn es) M = some (0, M1) ∧ Smx 0 zb h' C1 M1 ∧ Edd C1 ∧ Cm C C1 ∧ Ch PmM M M1) := by
  obtain ⟨fr, n, x1, x2, x3, x4, x5, x6, x7⟩ := hx
  obtain ⟨-, hG, hK7, ⟨hh1, hh2⟩, hNS, -⟩ := id hE
  obtain ⟨-, -, -, ⟨hcnt, hbz, hez⟩, -⟩ := hG
  have hNSv : 266 ≤ nb := hNS
  have k7 := hK7 i hi
  have k4 : dI C (nb + i) 4 = nn fr := by rw [hE.ci hC (by omega)]; exact x1
  have rk : f_X10_reckon N nu K (some (nb + i)) C = f_X10_reckon_b5 N nu K N (some (nb + i)) (nn fr) C := by
    unfold f_X10_reckon
    rw [bS, if_pos k7, k4]
  rcases wk_it (N := N) (s := 0) (bs := zb) hE (show 266 ≤ nb + i by omega) k7 x2 (by omega) n fr es 0 1 C M x6 x3 (Nat.le_refl _) x4 x5 x7 x7 hs hgo hC hM with ⟨C1, M1, a1, a2, a3, a4, a5, a6⟩ | ⟨C1, M1, h', a1, a2, a3, a4, a5, a6⟩
  · left
    obtain ⟨v, C2, M2, p1, p2, p3, p4, p5⟩ := smx_pop a3
    refine ⟨v, C1, M1, C2, M2, ?_, ?_, ⟨p1, p2⟩, ⟨a3, p3⟩, ⟨a4, (pop_e p1).trans a4⟩, ⟨a5, a5.tr p4⟩, a6, a6.tr p5⟩
    · have := a1 (N - n - 1 + 1)
      rw [show N - n - 1 + 1 + n = N by omega] at this
      have k5 : dI C1 (nb + i) 5 = nn (fr + n) := by rw [hE.ci (hC.tr a5.b) (by omega)]; exact x2
      rw [rk, this, f_X10_reckon_b5, bS, if_pos k7, k5, if_pos ((nn_le (by omega) (by omega)).mpr (Nat.le_refl _))]
      rfl
    · unfold f_X12_worth
      rw [a2 N (by omega)]
      unfold f_X12_worth_b40 f_X12_worth_b55
      rw [if_neg (mgo a4 a3.2.2.1), p2, bS]
  · right
    refine ⟨C1, M1, h', ?_, ?_, a3, a4, a5, a6⟩
    · have := a1 (N - n - 1)
      rw [show N - n - 1 + n + 1 = N by omega] at this
      rw [rk, this]
    · unfold f_X12_worth
      rw [a2 N (by omega)]
      unfold f_X12_worth_b40 f_X12_worth_b55
      rw [if_pos (a4.m a3.2.2.1)]
