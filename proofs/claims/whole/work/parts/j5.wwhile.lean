/-! the walk: while -/
/-- the rounds of a loop, from before one on -/
theorem wk_rounds {N nu F P nb h cnt bz ez : Nat} {W K : Nat → Nat} {C0 M0 Mg : Dat} (hN : 1000 ≤ N) (hE : WE nu P nb h cnt bz ez W K C0 M0 Mg) {x i w e : Nat} {rec : RtT} (hi : i < cnt) (hx : x ≤ 47) (hrec : RecW N F nb h cnt W C0 M0 rec x w) (hL : Lk nb h cnt (dR C0 (nb + i) 6) (dI Mg 222 (64 * h + i))) (hw : ∀ i', dR C0 (nb + i) 6 = some (nb + i') → W i' + 5 ≤ 5 * w + 4) (e1 : dI Mg 220 (64 * h + i) = nn e) (e2 : FsE P h bz ez C0 Mg (nb + i) e) : ∀ (n g j u : Nat) (C M : Dat), F - u ≤ n → n < g → j < u → WP F C0 M0 x u C M → (∃ C' M' u' k, k + 2 * u ≤ 2 * u' ∧ f_X10_goOverWhile_b2 rec N nu K g (some (nb + i)) (nn x) (nn j) C = some C' ∧ (∀ g', (f_X12_round N (nn (64 * h + i)) M).bind (fun p => f_X12_walk_b55 N (g' + k) (nn F) p.1 p.2) = f_X12_walk_b55 N g' (nn F) (dI Mg 224 (64 * h + i)) M') ∧ WP F C0 M0 x u' C' M' ∧ Ch (WMx x) M M') ∨ (∃ C' M' k, k + 2 * u ≤ 2 * F + 2 ∧ f_X10_goOverWhile_b2 rec N nu K g (some (nb + i)) (nn x) (nn j) C = some C' ∧ (∀ g', (f_X12_round N (nn (64 * h + i)) M).bind (fun p => f_X12_walk_b55 N (g' + k) (nn F) p.1 p.2) = some (dI M' 207 84, M')) ∧ WD C0 M0 C' M') := by
  obtain ⟨-, hG, hK7, ⟨hh1, hh2⟩, hNS, -⟩ := id hE
  have hcnt : cnt ≤ 60 := hG.2.2.2.1.1
  have hNSv : 266 ≤ nb := hNS
  have k7 := hK7 i hi
  have in128 := nn_in (k := 64 * h + i) (n := 128) (by omega) (by omega)
  have in129 : ¬ (nn (64 * h + i) < 0 ∨ 128 ≤ 64 * h + i) := fun q => q.elim (nn_nlt0 (by omega)) (fun q => by omega)
  intro n
  induction n with
  | zero =>
    intro g j u C M hn hg hj hP
    obtain ⟨⟨q1, q2⟩, ⟨-, -, u1, u2⟩, hs, hgo, h55⟩ := id hP
    obtain ⟨g, rfl⟩ : ∃ g', g = g' + 1 := ⟨g - 1, by omega⟩
    have m20 : dI M 220 (64 * h + i) = nn e := by rw [hE.mg q2 (by unfold HC; omega)]; exact e1
    have j6 : ¬ (600 : Int32) < nn j := fun q => by have := (nn_lt (a := 600) (by omega) (by omega)).mp q; omega
    rcases wk_ex (N := N) hN hE hi e2 hs hgo q1 q2 with ⟨v, C2, M2, C3, M3, a1, a2, ⟨a3, a4⟩, ⟨a5, a6⟩, ⟨a7, a8⟩, ⟨a9, a10⟩, a11, a12⟩ | ⟨C2, M2, h', a1, a2, a3, a4, a5, a6⟩
    · have hP3 := hP.to a10 a12 a6 a8
      by_cases v0 : v = 0
      · left
        refine ⟨C3, M3, u, 0, by omega, ?_, fun g' => ?_, hP3, a12.mono (fun a k q => pmm_WMx q)⟩
        · rw [f_X10_goOverWhile_b2, if_neg j6]
          unfold f_X10_isTrue f_X10_isTrue_b29 f_X10_isTrue_b30 f_X10_goOverWhile_b55
          rw [a1, bS, goes1 a7, bS, if_neg (show ¬ (1 : Int32) = 0 by decide)]
          show ((f_X3_pop C2).bind _).bind _ = _
          rw [a3, bS, if_pos v0, if_pos (show (0 : Int32) &&& 1 = 0 by decide), bS, if_pos rfl]
        · unfold f_X12_round
          rw [if_neg in128, nn_nat (by omega), m20, a2, bS, if_pos v0, if_neg in129, bS]
          show f_X12_walk_b55 N (g' + 0) (nn F) (dI M3 224 (64 * h + i)) M3 = _
          rw [hE.mg hP3.1.2 (by unfold HC; omega)]
          rfl
      · right
        obtain ⟨Mp, p1, p2, p3, p4, p5, -⟩ := fl_push (k := 4) (m := nn (64 * h + i)) (show x < 300 by omega) hP3.2.2.2.2
        have hPp := hP3.pu p2 p3
        have rd : f_X12_round N (nn (64 * h + i)) M = some (dI Mg 222 (64 * h + i), Mp) := by
          unfold f_X12_round
          rw [if_neg in128, nn_nat (by omega), m20, a2, bS, if_neg v0]
          show (f_X12_push 4 (nn (64 * h + i)) M3).bind _ = _
          rw [p1, bS, if_neg in129, hE.mg hPp.1.2 (by unfold HC; omega)]
        have cl : f_X10_goOverWhile_b2 rec N nu K (g + 1) (some (nb + i)) (nn x) (nn j) C = (rec (dR C0 (nb + i) 6) (nn (x + 1)) C3).bind (fun p8 => (f_X3_goesOn p8).bind (fun p10 => if p10.1 = 0 then (f_X10_goOverWhile_b48 rec N nu K p10.2) else ((f_X3_burns p10.2).bind (fun p13 => if p13.1 = 0 then (f_X10_goOverWhile_b48 rec N nu K p13.2) else ((f_X10_goOverWhile_b2 rec N nu K g) (some (nb + i)) (nn x) (nn j + 1) p13.2))))) := by
          rw [f_X10_goOverWhile_b2, if_neg j6]
          unfold f_X10_isTrue f_X10_isTrue_b30
          rw [a1, bS, goes1 a7, bS, if_neg (show ¬ (1 : Int32) = 0 by decide)]
          show ((f_X3_pop C2).bind _).bind _ = _
          rw [a3, bS, if_neg v0, if_pos (show (1 : Int32) &&& 1 = 1 by decide), bS, if_neg (show ¬ (1 : Int32) = 0 by decide), bS, if_pos k7]
          show (rec (dR C3 (nb + i) 6) (nn x + 1) C3).bind _ = _
          rw [hE.cr hP3.1.1 (by omega), nn_1]
        rcases hrec _ _ u C3 Mp hL hw hPp with ⟨C4, M4, u4, k, r1, r2, r3, r4, r5⟩ | ⟨C4, M4, k, r1, r2, r3, r4⟩
        · have u5 := r4.2.1.2.2.1
          rcases wk_burn r4.bk with ⟨hu, b1, b2, hP5⟩ | ⟨hu, b1, b2, b3⟩
          · omega
          · refine ⟨_, _, k + 2, by omega, ?_, fun g' => ?_, b3⟩
            · rw [cl, r2, bS, goes1 r4.2.2.2.1, bS, if_neg (show ¬ (1 : Int32) = 0 by decide)]
              show (f_X3_burns C4).bind _ = _
              rw [b1, bS]
              exact if_pos rfl
            · have s8 : dI M4 238 x = 4 := by rw [r5.i (by unfold WMx; omega)]; exact p4
              have s9 : dI M4 239 x = nn (64 * h + i) := by rw [r5.i (by unfold WMx; omega)]; exact p5
              rw [rd, bS]
              show f_X12_walk_b55 N (g' + (k + 2)) (nn F) (dI Mg 222 (64 * h + i)) Mp = _
              rw [show g' + (k + 2) = (g' + 1 + 1) + k by omega, r3, wk_bk4 (mgo r4.2.2.2.1 r4.2.2.1.2.2.1) (by omega) r4.2.2.2.2 s8 s9, b2, bS]
              refine (if_pos rfl).trans ?_
              exact wk_e (b3.2.2.m b3.2.1)
        · refine ⟨C4, M4, k, r1, ?_, fun g' => ?_, r4⟩
          · rw [cl, r2, bS, goes0 r4.2.2, bS]
            exact if_pos rfl
          · rw [rd, bS]
            exact r3 g'
    · right
      have hD := hP.ed a5 a6 a3.2.2.1 a4.1
      refine ⟨C2, M2, 1, by omega, ?_, fun g' => ?_, hD⟩
      · rw [f_X10_goOverWhile_b2, if_neg j6]
        unfold f_X10_isTrue f_X10_isTrue_b29 f_X10_isTrue_b30 f_X10_goOverWhile_b55
        rw [a1, bS, goes0 a4, bS, if_pos rfl, if_pos (show (0 : Int32) &&& 1 = 0 by decide), bS, if_pos rfl]
      · unfold f_X12_round
        rw [if_neg in128, nn_nat (by omega), m20, a2, bS, if_pos rfl, if_neg in129, bS]
        exact wk_e (hD.2.2.m hD.2.1)
  | succ n ih =>
    intro g j u C M hn hg hj hP
    obtain ⟨⟨q1, q2⟩, ⟨-, -, u1, u2⟩, hs, hgo, h55⟩ := id hP
    obtain ⟨g, rfl⟩ : ∃ g', g = g' + 1 := ⟨g - 1, by omega⟩
    have m20 : dI M 220 (64 * h + i) = nn e := by rw [hE.mg q2 (by unfold HC; omega)]; exact e1
    have j6 : ¬ (600 : Int32) < nn j := fun q => by have := (nn_lt (a := 600) (by omega) (by omega)).mp q; omega
    rcases wk_ex (N := N) hN hE hi e2 hs hgo q1 q2 with ⟨v, C2, M2, C3, M3, a1, a2, ⟨a3, a4⟩, ⟨a5, a6⟩, ⟨a7, a8⟩, ⟨a9, a10⟩, a11, a12⟩ | ⟨C2, M2, h', a1, a2, a3, a4, a5, a6⟩
    · have hP3 := hP.to a10 a12 a6 a8
      by_cases v0 : v = 0
      · left
        refine ⟨C3, M3, u, 0, by omega, ?_, fun g' => ?_, hP3, a12.mono (fun a k q => pmm_WMx q)⟩
        · rw [f_X10_goOverWhile_b2, if_neg j6]
          unfold f_X10_isTrue f_X10_isTrue_b29 f_X10_isTrue_b30 f_X10_goOverWhile_b55
          rw [a1, bS, goes1 a7, bS, if_neg (show ¬ (1 : Int32) = 0 by decide)]
          show ((f_X3_pop C2).bind _).bind _ = _
          rw [a3, bS, if_pos v0, if_pos (show (0 : Int32) &&& 1 = 0 by decide), bS, if_pos rfl]
        · unfold f_X12_round
          rw [if_neg in128, nn_nat (by omega), m20, a2, bS, if_pos v0, if_neg in129, bS]
          show f_X12_walk_b55 N (g' + 0) (nn F) (dI M3 224 (64 * h + i)) M3 = _
          rw [hE.mg hP3.1.2 (by unfold HC; omega)]
          rfl
      · obtain ⟨Mp, p1, p2, p3, p4, p5, -⟩ := fl_push (k := 4) (m := nn (64 * h + i)) (show x < 300 by omega) hP3.2.2.2.2
        have hPp := hP3.pu p2 p3
        have rd : f_X12_round N (nn (64 * h + i)) M = some (dI Mg 222 (64 * h + i), Mp) := by
          unfold f_X12_round
          rw [if_neg in128, nn_nat (by omega), m20, a2, bS, if_neg v0]
          show (f_X12_push 4 (nn (64 * h + i)) M3).bind _ = _
          rw [p1, bS, if_neg in129, hE.mg hPp.1.2 (by unfold HC; omega)]
        have cl : f_X10_goOverWhile_b2 rec N nu K (g + 1) (some (nb + i)) (nn x) (nn j) C = (rec (dR C0 (nb + i) 6) (nn (x + 1)) C3).bind (fun p8 => (f_X3_goesOn p8).bind (fun p10 => if p10.1 = 0 then (f_X10_goOverWhile_b48 rec N nu K p10.2) else ((f_X3_burns p10.2).bind (fun p13 => if p13.1 = 0 then (f_X10_goOverWhile_b48 rec N nu K p13.2) else ((f_X10_goOverWhile_b2 rec N nu K g) (some (nb + i)) (nn x) (nn j + 1) p13.2))))) := by
          rw [f_X10_goOverWhile_b2, if_neg j6]
          unfold f_X10_isTrue f_X10_isTrue_b30
          rw [a1, bS, goes1 a7, bS, if_neg (show ¬ (1 : Int32) = 0 by decide)]
          show ((f_X3_pop C2).bind _).bind _ = _
          rw [a3, bS, if_neg v0, if_pos (show (1 : Int32) &&& 1 = 1 by decide), bS, if_neg (show ¬ (1 : Int32) = 0 by decide), bS, if_pos k7]
          show (rec (dR C3 (nb + i) 6) (nn x + 1) C3).bind _ = _
          rw [hE.cr hP3.1.1 (by omega), nn_1]
        have c0 : Ch (WMx x) M Mp := Ch.tr (a12.mono (fun a k q => pmm_WMx q)) (p2.mono (fun a k q => by unfold WMx; omega))
        rcases hrec _ _ u C3 Mp hL hw hPp with ⟨C4, M4, u4, k, r1, r2, r3, r4, r5⟩ | ⟨C4, M4, k, r1, r2, r3, r4⟩
        · have s8 : dI M4 238 x = 4 := by rw [r5.i (by unfold WMx; omega)]; exact p4
          have s9 : dI M4 239 x = nn (64 * h + i) := by rw [r5.i (by unfold WMx; omega)]; exact p5
          have bk : ∀ g', f_X12_walk_b55 N (g' + 1 + k) (nn F) (dI Mg 222 (64 * h + i)) Mp = (f_X12_fuelled (nn F) (sI M4 207 55 (nn x))).bind (fun p7 => if p7.1 = 0 then (f_X12_walk_b55 N g' (nn F) (nn (64 * h + i)) p7.2) else ((f_X12_round N (nn (64 * h + i)) p7.2).bind (fun p10 => f_X12_walk_b55 N g' (nn F) p10.1 p10.2))) := fun g' => by
            rw [r3, wk_bk4 (mgo r4.2.2.2.1 r4.2.2.1.2.2.1) (by omega) r4.2.2.2.2 s8 s9]
          have cM4 : Ch (WMx x) M (sI M4 207 55 (nn x)) := Ch.sI (by unfold WMx; omega) (c0.tr (r5.mono (fun a k q => wmx_mono q)))
          rcases wk_burn r4.bk with ⟨hu, b1, b2, hP5⟩ | ⟨hu, b1, b2, b3⟩
          · have cM5 : Ch (WMx x) M (sI (sI M4 207 55 (nn x)) 207 83 (nn (u4 + 1))) := Ch.sI (by unfold WMx; omega) cM4
            generalize sI C4 181 9 (nn (u4 + 1)) = C5 at *
            generalize sI (sI M4 207 55 (nn x)) 207 83 (nn (u4 + 1)) = M5 at *
            have cl2 : f_X10_goOverWhile_b2 rec N nu K (g + 1) (some (nb + i)) (nn x) (nn j) C = f_X10_goOverWhile_b2 rec N nu K g (some (nb + i)) (nn x) (nn (j + 1)) C5 := by
              rw [cl, r2, bS, goes1 r4.2.2.2.1, bS, if_neg (show ¬ (1 : Int32) = 0 by decide)]
              show (f_X3_burns C4).bind _ = _
              rw [b1, bS, nn_1]
              exact if_neg (show ¬ (1 : Int32) = 0 by decide)
            have md : ∀ g' k', (f_X12_round N (nn (64 * h + i)) M).bind (fun p => f_X12_walk_b55 N (g' + (k' + 1 + k)) (nn F) p.1 p.2) = (f_X12_round N (nn (64 * h + i)) M5).bind (fun p => f_X12_walk_b55 N (g' + k') (nn F) p.1 p.2) := fun g' k' => by
              rw [rd, bS]
              show f_X12_walk_b55 N (g' + (k' + 1 + k)) (nn F) (dI Mg 222 (64 * h + i)) Mp = _
              rw [show g' + (k' + 1 + k) = (g' + k') + 1 + k by omega, bk, b2, bS]
              exact if_neg (show ¬ (1 : Int32) = 0 by decide)
            rcases ih g (j + 1) (u4 + 1) C5 M5 (by omega) (by omega) (by omega) hP5 with ⟨C6, M6, u6, k6, t1, t2, t3, t4, t5⟩ | ⟨C6, M6, k6, t1, t2, t3, t4⟩
            · left
              exact ⟨C6, M6, u6, k6 + 1 + k, by omega, by rw [cl2, t2], fun g' => by rw [md, t3], t4, cM5.tr t5⟩
            · right
              exact ⟨C6, M6, k6 + 1 + k, by omega, by rw [cl2, t2], fun g' => by rw [md, t3], t4⟩
          · right
            refine ⟨_, _, k + 2, by omega, ?_, fun g' => ?_, b3⟩
            · rw [cl, r2, bS, goes1 r4.2.2.2.1, bS, if_neg (show ¬ (1 : Int32) = 0 by decide)]
              show (f_X3_burns C4).bind _ = _
              rw [b1, bS]
              exact if_pos rfl
            · rw [rd, bS]
              show f_X12_walk_b55 N (g' + (k + 2)) (nn F) (dI Mg 222 (64 * h + i)) Mp = _
              rw [show g' + (k + 2) = (g' + 1) + 1 + k by omega, bk, b2, bS]
              refine (if_pos rfl).trans ?_
              exact wk_e (b3.2.2.m b3.2.1)
        · right
          refine ⟨C4, M4, k, r1, ?_, fun g' => ?_, r4⟩
          · rw [cl, r2, bS, goes0 r4.2.2, bS]
            exact if_pos rfl
          · rw [rd, bS]
            exact r3 g'
    · right
      have hD := hP.ed a5 a6 a3.2.2.1 a4.1
      refine ⟨C2, M2, 1, by omega, ?_, fun g' => ?_, hD⟩
      · rw [f_X10_goOverWhile_b2, if_neg j6]
        unfold f_X10_isTrue f_X10_isTrue_b29 f_X10_isTrue_b30 f_X10_goOverWhile_b55
        rw [a1, bS, goes0 a4, bS, if_pos rfl, if_pos (show (0 : Int32) &&& 1 = 0 by decide), bS, if_pos rfl]
      · unfold f_X12_round
        rw [if_neg in128, nn_nat (by omega), m20, a2, bS, if_pos rfl, if_neg in129, bS]
        exact wk_e (hD.2.2.m hD.2.1)
theorem wk_while {N nu F P nb h cnt bz ez : Nat} {W K : Nat → Nat} {C0 M0 Mg C M : Dat} (hN : 1000 ≤ N) (hE : WE nu P nb h cnt bz ez W K C0 M0 Mg) {x u i w : Nat} {rec : RtT} (hP : WP F C0 M0 x u C M) (hi : i < cnt) (hx : x ≤ 47) (hW : W i ≤ 5 * w + 4) (hrec : RecW N F nb h cnt W C0 M0 rec x w) (hk : dI C0 (nb + i) 0 = 17) : WSG N nu F nb h K C0 M0 Mg rec x u i C M ∨ WSB N nu F nb h K C0 M0 rec x u i C M := by
  rcases wk_burn hP with ⟨hu, b1, b2, hP1⟩ | ⟨hu, b1, b2, b3⟩
  rotate_left
  · exact Or.inr (wk_out hE hP hi hu b1 b2 b3)
  obtain ⟨-, hG, hK7, ⟨hh1, hh2⟩, hNS, hnu, -⟩ := id hE
  obtain ⟨hFs, -, hPr, ⟨hcnt, hbz, hez⟩, -⟩ := hG
  have hNSv : 266 ≤ nb := hNS
  have k7 := hK7 i hi
  have in128 := nn_in (k := 64 * h + i) (n := 128) (by omega) (by omega)
  have m0 := mgo hP.2.2.2.1 hP.2.2.1.2.2.1
  have cM1 : Ch (WMx x) M (sI M 207 83 (nn (u + 1))) := Ch.sI (by unfold WMx; omega) Ch.rf
  generalize sI C 181 9 (nn (u + 1)) = C1 at *
  generalize sI M 207 83 (nn (u + 1)) = M1 at *
  obtain ⟨⟨q1, q2⟩, ⟨-, -, u1, u2⟩, -⟩ := id hP1
  have hq : dI Mg 216 (64 * h + i) = 4 ∧ (∃ e, dI Mg 220 (64 * h + i) = nn e ∧ FsE P h bz ez C0 Mg (nb + i) e) ∧ Lk nb h cnt (dR C0 (nb + i) 6) (dI Mg 222 (64 * h + i)) := by
    rcases (hFs i hi).1.2 with ⟨q, -⟩ | ⟨q, -⟩ | ⟨q, -⟩ | ⟨q, -⟩ | ⟨q, -⟩ | ⟨q, q2⟩ | ⟨q, -⟩
    · rw [q] at hk; exact absurd hk (by decide)
    · rw [q] at hk; exact absurd hk (by decide)
    · rw [q] at hk; exact absurd hk (by decide)
    · rw [q] at hk; exact absurd hk (by decide)
    · rw [q] at hk; exact absurd hk (by decide)
    · exact q2
    · rw [q] at hk; exact absurd hk (by decide)
  obtain ⟨g2, ⟨e, e1, e2⟩, hL6⟩ := hq
  have hw : ∀ i', dR C0 (nb + i) 6 = some (nb + i') → W i' + 5 ≤ 5 * w + 4 := fun i' q => by
    have := ((hFs i hi).2.2.1.1 i' (Or.inl q)).2
    omega
  have cls : ∀ g, f_X10_goThrough_s_b9 rec N nu K (g + 1) (nn x) (some (nb + i)) C = (f_X10_goOverWhile_b2 rec N nu K N (some (nb + i)) (nn x) (nn 0) C1).bind (fun p14 => f_X10_goThrough_s_b108 rec N nu K (f_X10_goThrough_s_b9 rec N nu K g) (nn x) (some (nb + i)) p14) := fun g => by
    rw [wc_b9 hP.2.2.2.1 b1 k7, hE.ci q1 (by omega), hk, if_neg (show ¬ (17 : Int32) = 16 by decide), if_pos rfl]
    rfl
  have md : ∀ g, f_X12_walk_b55 N (g + 1) (nn F) (nn (64 * h + i)) M = (f_X12_round N (nn (64 * h + i)) M1).bind (fun p => f_X12_walk_b55 N g (nn F) p.1 p.2) := fun g => by
    have e16 : dI M1 216 (64 * h + i) = 4 := by rw [hE.mg q2 (by unfold HC; omega)]; exact g2
    have e0 : f_X12_step N (nn (64 * h + i)) M1 = f_X12_step_b288 N (nn (64 * h + i)) M1 := by
      unfold f_X12_step
      simp only [if_neg in128]
      rw [nn_nat (by omega), e16, if_neg (show ¬ (4 : Int32) = 1 by decide), if_neg (show ¬ (4 : Int32) = 2 by decide), if_neg (show ¬ (4 : Int32) = 3 by decide), if_neg (show ¬ (4 : Int32) = 5 by decide), if_neg (show ¬ (4 : Int32) = 6 by decide), if_neg (show ¬ (4 : Int32) = 7 by decide)]
    rw [wk_st (by omega) m0 b2, e0]
    unfold f_X12_step_b288
    cases f_X12_round N (nn (64 * h + i)) M1 <;> rfl
  rcases wk_rounds hN hE hi hx hrec hL6 hw e1 e2 F N 0 (u + 1) C1 M1 (by omega) (by omega) (by omega) hP1 with ⟨C', M', u', k, r1, r2, r3, r4, r5⟩ | ⟨C', M', k, r1, r2, r3, r4⟩
  · left
    exact ⟨C', M', u', k + 1, by omega, fun g => by rw [cls, r2, bS, hE.cs hi r4.1.1], fun g => by rw [show g + (k + 1) = (g + k) + 1 by omega, md, r3], r4, cM1.tr r5⟩
  · right
    exact ⟨C', M', k + 1, by omega, fun g => by rw [show g + 2 = (g + 1) + 1 by omega, cls, r2, bS, hE.cs hi r4.1.1, wc_e r4.2.2], fun g => by rw [show g + (k + 1) = (g + k) + 1 by omega, md, r3], r4⟩
