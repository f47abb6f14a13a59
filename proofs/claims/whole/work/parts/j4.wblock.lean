/-! the walk: blocks: do, if -/
theorem Smx.mM {s h : Nat} {bs : Nat → Int32} {D E E' : Dat} {Q : Nat → Nat → Prop} (hs : Smx s bs h D E) (cE : Ch Q E E') (hq : ∀ a k, Q a k → (a = 207 ∧ k < 82) ∨ (207 < a ∧ a < 254)) : Smx s bs h D E' := by
  obtain ⟨⟨h1, h2, h3⟩, h4, h5, h6⟩ := hs
  refine ⟨⟨h1, h2, ?_⟩, fun i hi => ?_, ?_, h6⟩
  · rw [cE.i (fun q => by have := hq _ _ q; omega)]; exact h3
  · rw [cE.i (fun q => by have := hq _ _ q; omega)]; exact h4 i hi
  · exact h5.kept (P := fun _ _ => False) Ch.rf cE (fun a k b j hc => ⟨fun q => q, fun q => by have := hq _ _ q; unfold Cor at hc; omega⟩)
theorem WP.bk {F x u : Nat} {C0 M0 C M : Dat} (h : WP F C0 M0 (x + 1) u C M) : WP F C0 M0 x u C (sI M 207 55 (nn x)) := by
  obtain ⟨⟨a1, a2⟩, b, hs, hgo, h55⟩ := h
  have c : Ch (fun a k => a = 207 ∧ k = 55) M (sI M 207 55 (nn x)) := Ch.sI ⟨rfl, rfl⟩ Ch.rf
  exact ⟨⟨a1, Ch.sI (by unfold WM; omega) a2⟩, b, hs.mM c (fun a k q => by omega), hgo, by rw [dI_s, if_pos ⟨rfl, rfl⟩]⟩
theorem WP.pu {F x u : Nat} {C0 M0 C M M' : Dat} (h : WP F C0 M0 x u C M) (c : Ch (fun a j => (a = 207 ∧ j = 55) ∨ ((238 ≤ a ∧ a ≤ 240) ∧ j = x)) M M') (e : dI M' 207 55 = nn (x + 1)) : WP F C0 M0 (x + 1) u C M' := by
  obtain ⟨⟨a1, a2⟩, b, hs, hgo, h55⟩ := h
  exact ⟨⟨a1, a2.tr (c.mono (fun a k q => by unfold WM; omega))⟩, b, hs.mM c (fun a k q => by omega), hgo, e⟩
theorem WE.cs {N nu P nb h cnt bz ez : Nat} {W K : Nat → Nat} {C0 M0 Mg C' : Dat} (hE : WE nu P nb h cnt bz ez W K C0 M0 Mg) {i : Nat} (hi : i < cnt) {rec : RtT} (hC : Ch PmB C0 C') (g : Nat) (y : Int32) : f_X10_goThrough_s_b108 rec N nu K (f_X10_goThrough_s_b9 rec N nu K g) y (some (nb + i)) C' = f_X10_goThrough_s_b9 rec N nu K g y (dR C0 (nb + i) 9) C' := by
  obtain ⟨-, -, hK7, -, hNS, -⟩ := id hE
  have hNSv : 266 ≤ nb := hNS
  unfold f_X10_goThrough_s_b108
  rw [bS, if_pos (hK7 i hi), hE.cr hC (by omega)]
theorem wk_bk {N g x m : Nat} {F : Int32} {M : Dat} (h84 : ¬ 0 ≤ dI M 207 84) (hx : x < 300) (hm : m < 128) (h55 : dI M 207 55 = nn (x + 1)) (k8 : ¬ dI M 238 x = 4) (k9 : dI M 239 x = nn m) : f_X12_walk_b55 N (g + 1) F (-1) M = f_X12_walk_b55 N g F (dI M 224 m) (sI M 207 55 (nn x)) := by
  have e1 : nn (x + 1) - (1 : Int32) = nn x := by rw [show (1 : Int32) = nn 1 from rfl, nn_sub (by omega) (by omega)]; rfl
  have in300 := nn_in (k := x) (n := 300) (by omega) hx
  have in128 := nn_in (k := m) (n := 128) (by omega) hm
  have r1 : dI (sI M 207 55 (nn x)) 207 55 = nn x := by rw [dI_s, if_pos ⟨rfl, rfl⟩]
  have r8 : dI (sI M 207 55 (nn x)) 238 x = dI M 238 x := by rw [dI_s, if_neg (by omega)]
  have r9 : dI (sI M 207 55 (nn x)) 239 x = nn m := by rw [dI_s, if_neg (by omega)]; exact k9
  have r4 : dI (sI M 207 55 (nn x)) 224 m = dI M 224 m := by rw [dI_s, if_neg (by omega)]
  rw [f_X12_walk_b55, if_neg h84, if_neg m1_lt, h55, if_neg (show ¬ nn (x + 1) = 0 from fun q => by have := (nn_eq (b := 0) (by omega) (by omega)).mp q; omega)]
  unfold f_X12_walk_b81 f_X12_walk_b142
  rw [if_pos (show (-1 : Int32) < 0 by decide), h55, e1]
  simp only [r1, if_neg in300]
  rw [nn_nat (k := x) (by omega), r8, if_neg k8, r9, if_neg in128, nn_nat (k := m) (by omega), r4]
theorem wk_bk4 {N g x m : Nat} {F : Int32} {M : Dat} (h84 : ¬ 0 ≤ dI M 207 84) (hx : x < 300) (h55 : dI M 207 55 = nn (x + 1)) (k8 : dI M 238 x = 4) (k9 : dI M 239 x = nn m) : f_X12_walk_b55 N (g + 1) F (-1) M = (f_X12_fuelled F (sI M 207 55 (nn x))).bind (fun p7 => if p7.1 = 0 then (f_X12_walk_b55 N g F (nn m) p7.2) else ((f_X12_round N (nn m) p7.2).bind (fun p10 => f_X12_walk_b55 N g F p10.1 p10.2))) := by
  have e1 : nn (x + 1) - (1 : Int32) = nn x := by rw [show (1 : Int32) = nn 1 from rfl, nn_sub (by omega) (by omega)]; rfl
  have in300 := nn_in (k := x) (n := 300) (by omega) hx
  have r1 : dI (sI M 207 55 (nn x)) 207 55 = nn x := by rw [dI_s, if_pos ⟨rfl, rfl⟩]
  have r8 : dI (sI M 207 55 (nn x)) 238 x = 4 := by rw [dI_s, if_neg (by omega)]; exact k8
  have r9 : dI (sI M 207 55 (nn x)) 239 x = nn m := by rw [dI_s, if_neg (by omega)]; exact k9
  rw [f_X12_walk_b55, if_neg h84, if_neg m1_lt, h55, if_neg (show ¬ nn (x + 1) = 0 from fun q => by have := (nn_eq (b := 0) (by omega) (by omega)).mp q; omega)]
  unfold f_X12_walk_b81
  rw [if_pos (show (-1 : Int32) < 0 by decide), h55, e1]
  simp only [r1, if_neg in300]
  rw [nn_nat (k := x) (by omega), r8, if_pos rfl, r9]
/-- a list was done in both; it ended in both -/
def WLG (N F : Nat) (C0 M0 : Dat) (x u : Nat) (s : Int32) (M : Dat) (r : Option Dat) : Prop := ∃ C' M' u' k, k + 2 * u ≤ 2 * u' ∧ r = some C' ∧ (∀ g, f_X12_walk_b55 N (g + k) (nn F) s M = f_X12_walk_b55 N g (nn F) (-1) M') ∧ WP F C0 M0 x u' C' M' ∧ Ch (WMx x) M M'
def WLB (N F : Nat) (C0 M0 : Dat) (u : Nat) (s : Int32) (M : Dat) (r : Option Dat) : Prop := ∃ C' M' k, k + 2 * u ≤ 2 * F + 2 ∧ r = some C' ∧ (∀ g, f_X12_walk_b55 N (g + k) (nn F) s M = some (dI M' 207 84, M')) ∧ WD C0 M0 C' M'
def RecW (N F nb h cnt : Nat) (W : Nat → Nat) (C0 M0 : Dat) (rec : RtT) (x w : Nat) : Prop := ∀ r s u C M, Lk nb h cnt r s → (∀ i, r = some (nb + i) → W i + 5 ≤ 5 * w + 4) → WP F C0 M0 (x + 1) u C M → WLG N F C0 M0 (x + 1) u s M (rec r (nn (x + 1)) C) ∨ WLB N F C0 M0 u s M (rec r (nn (x + 1)) C)
/-- a block that isn't a loop's: in, its list, and out -/
theorem wk_in {N nu F P nb h cnt bz ez : Nat} {W K : Nat → Nat} {C0 M0 Mg C M Cq Mq : Dat} (hE : WE nu P nb h cnt bz ez W K C0 M0 Mg) {x u i w : Nat} {rec : RtT} {r : Option Nat} {s kn : Int32} (hi : i < cnt) (hx : x ≤ 47) (hrec : RecW N F nb h cnt W C0 M0 rec x w) (hL : Lk nb h cnt r s) (hw : ∀ i', r = some (nb + i') → W i' + 5 ≤ 5 * w + 4) (hc : ∀ g, f_X10_goThrough_s_b9 rec N nu K (g + 1) (nn x) (some (nb + i)) C = (rec r (nn (x + 1)) Cq).bind (fun p => f_X10_goThrough_s_b108 rec N nu K (f_X10_goThrough_s_b9 rec N nu K g) (nn x) (some (nb + i)) p)) (hm : ∀ g, f_X12_walk_b55 N (g + 1) (nn F) (nn (64 * h + i)) M = f_X12_walk_b55 N g (nn F) s Mq) (hP : WP F C0 M0 (x + 1) (u + 1) Cq Mq) (cM : Ch (WMx x) M Mq) (hkn : ¬ kn = 4) (k8 : dI Mq 238 x = kn) (k9 : dI Mq 239 x = nn (64 * h + i)) : WSG N nu F nb h K C0 M0 Mg rec x u i C M ∨ WSB N nu F nb h K C0 M0 rec x u i C M := by
  obtain ⟨-, hG, -, ⟨hh1, -⟩, -⟩ := id hE
  have hcnt : cnt ≤ 60 := hG.2.2.2.1.1
  rcases hrec r s (u + 1) Cq Mq hL hw hP with ⟨C', M', u', k, r1, r2, r3, r4, r5⟩ | ⟨C', M', k, r1, r2, r3, r4⟩
  · left
    have s8 : ¬ dI M' 238 x = 4 := by rw [r5.i (by unfold WMx; omega), k8]; exact hkn
    have s9 : dI M' 239 x = nn (64 * h + i) := by rw [r5.i (by unfold WMx; omega)]; exact k9
    refine ⟨C', sI M' 207 55 (nn x), u', k + 2, by omega, fun g => by rw [hc, r2, bS, hE.cs hi r4.1.1], fun g => ?_, r4.bk, Ch.sI (by unfold WMx; omega) (cM.tr (r5.mono (fun a k q => wmx_mono q)))⟩
    rw [show g + (k + 2) = (g + 1 + k) + 1 by omega, hm, r3, wk_bk (mgo r4.2.2.2.1 r4.2.2.1.2.2.1) (by omega) (by omega) r4.2.2.2.2 s8 s9, hE.mg r4.1.2 (by unfold HC; omega)]
  · right
    refine ⟨C', M', k + 1, by omega, fun g => ?_, fun g => ?_, r4⟩
    · rw [show g + 2 = (g + 1) + 1 by omega, hc, r2, bS, hE.cs hi r4.1.1, wc_e r4.2.2]
    · rw [show g + (k + 1) = (g + k) + 1 by omega, hm, r3]
theorem wk_do {N nu F P nb h cnt bz ez : Nat} {W K : Nat → Nat} {C0 M0 Mg C M : Dat} (hE : WE nu P nb h cnt bz ez W K C0 M0 Mg) {x u i w : Nat} {rec : RtT} (hP : WP F C0 M0 x u C M) (hi : i < cnt) (hx : x ≤ 47) (hW : W i ≤ 5 * w + 4) (hrec : RecW N F nb h cnt W C0 M0 rec x w) (hk : dI C0 (nb + i) 0 = 18) : WSG N nu F nb h K C0 M0 Mg rec x u i C M ∨ WSB N nu F nb h K C0 M0 rec x u i C M := by
  rcases wk_burn hP with ⟨hu, b1, b2, hP1⟩ | ⟨hu, b1, b2, b3⟩
  rotate_left
  · exact Or.inr (wk_out hE hP hi hu b1 b2 b3)
  obtain ⟨⟨h89, hPP⟩, hG, hK7, ⟨hh1, hh2⟩, hNS, hnu, -⟩ := id hE
  obtain ⟨hFs, -, hPr, ⟨hcnt, hbz, hez⟩, -⟩ := hG
  have hNSv : 266 ≤ nb := hNS
  have k7 := hK7 i hi
  have in128 := nn_in (k := 64 * h + i) (n := 128) (by omega) (by omega)
  have m0 := mgo hP.2.2.2.1 hP.2.2.1.2.2.1
  have cM1 : Ch (WMx x) M (sI M 207 83 (nn (u + 1))) := Ch.sI (by unfold WMx; omega) Ch.rf
  generalize sI C 181 9 (nn (u + 1)) = C1 at *
  generalize sI M 207 83 (nn (u + 1)) = M1 at *
  obtain ⟨⟨q1, q2⟩, -, -, -, h55⟩ := id hP1
  have hq : dI Mg 216 (64 * h + i) = 7 ∧ ∃ y, y < 26 ∧ dI C0 (nb + i) 2 = nn y ∧ dI Mg 218 (64 * h + i) = nn y ∧ dI Mg 229 y = 5 := by
    rcases (hFs i hi).1.2 with ⟨q, -⟩ | ⟨q, -⟩ | ⟨q, -⟩ | ⟨q, -⟩ | ⟨q, -⟩ | ⟨q, -⟩ | ⟨q, q2, q3⟩
    · rw [q] at hk; exact absurd hk (by decide)
    · rw [q] at hk; exact absurd hk (by decide)
    · rw [q] at hk; exact absurd hk (by decide)
    · rw [q] at hk; exact absurd hk (by decide)
    · rw [q] at hk; exact absurd hk (by decide)
    · rw [q] at hk; exact absurd hk (by decide)
    · exact ⟨q2, q3⟩
  obtain ⟨g2, y, y1, y2, y3, y4⟩ := hq
  obtain ⟨Mp, p1, p2, p3, p4, p5, -⟩ := fl_push (k := 7) (m := nn (64 * h + i)) (show x < 300 by omega) h55
  have hPp := hP1.pu p2 p3
  have pM : Ch WM M0 Mp := hPp.1.2
  have ft : f_X12_step N (nn (64 * h + i)) M1 = some (dI Mg 227 (26 * h + y), Mp) := by
    have e19 : dI Mp 207 19 = nn h := by rw [pM.i (by unfold WM; omega)]; exact hh2
    have e18 : dI Mp 218 (64 * h + i) = nn y := by rw [hE.mg pM (by unfold HC; omega)]; exact y3
    have e16 : dI M1 216 (64 * h + i) = 7 := by rw [hE.mg q2 (by unfold HC; omega)]; exact g2
    unfold f_X12_step
    simp only [if_neg in128]
    rw [nn_nat (by omega), e16, if_neg (show ¬ (7 : Int32) = 1 by decide), if_neg (show ¬ (7 : Int32) = 2 by decide), if_neg (show ¬ (7 : Int32) = 3 by decide), if_neg (show ¬ (7 : Int32) = 5 by decide), if_neg (show ¬ (7 : Int32) = 6 by decide), if_pos rfl, p1, bS, e19, e18, show (26 : Int32) * nn h + nn y = nn (26 * h + y) by rw [nn_l, nn_mul, nn_add], if_neg (nn_in (by omega) (by omega)), nn_nat (by omega), hE.mg pM (by unfold HC; omega)]
  refine wk_in (r := dR C0 (P + 1) y) (s := dI Mg 227 (26 * h + y)) (kn := 7) hE hi hx hrec (hPr y y1 y4) (fun i' q => ?_) (fun g => ?_) (fun g => ?_) hPp (cM1.tr (p2.mono (fun a k q => by unfold WMx; omega))) (by decide) p4 p5
  · have := ((hFs i hi).2.2.1.2 hk y y1 y2 i' q).2
    omega
  · rw [wc_b9 hP.2.2.2.1 b1 k7, hE.ci q1 (by omega), hk, if_neg (show ¬ (18 : Int32) = 16 by decide), if_neg (show ¬ (18 : Int32) = 17 by decide), if_pos rfl, hE.cr q1 (by omega), h89, bS, if_pos hPP, hE.ci q1 (by omega), y2, e4_proc y1, bS, hE.cr q1 (by omega), nn_1]
  · rw [wk_st (by omega) m0 b2, ft, bS]
theorem wk_if {N nu F P nb h cnt bz ez : Nat} {W K : Nat → Nat} {C0 M0 Mg C M : Dat} (hN : 1000 ≤ N) (hE : WE nu P nb h cnt bz ez W K C0 M0 Mg) {x u i w : Nat} {rec : RtT} (hP : WP F C0 M0 x u C M) (hi : i < cnt) (hx : x ≤ 47) (hW : W i ≤ 5 * w + 4) (hrec : RecW N F nb h cnt W C0 M0 rec x w) (hk : dI C0 (nb + i) 0 = 16) : WSG N nu F nb h K C0 M0 Mg rec x u i C M ∨ WSB N nu F nb h K C0 M0 rec x u i C M := by
  rcases wk_burn hP with ⟨hu, b1, b2, hP1⟩ | ⟨hu, b1, b2, b3⟩
  rotate_left
  · exact Or.inr (wk_out hE hP hi hu b1 b2 b3)
  obtain ⟨-, hG, hK7, ⟨hh1, hh2⟩, hNS, hnu, -⟩ := id hE
  obtain ⟨hFs, -, hPr, ⟨hcnt, hbz, hez⟩, -⟩ := hG
  have hNSv : 266 ≤ nb := hNS
  have k7 := hK7 i hi
  have in128 := nn_in (k := 64 * h + i) (n := 128) (by omega) (by omega)
  have m0 := mgo hP.2.2.2.1 hP.2.2.1.2.2.1
  have cM1 : Ch (WMx x) M (sI M 207 83 (nn (u + 1))) := Ch.sI (by unfold WMx; omega) Ch.rf
  generalize sI C 181 9 (nn (u + 1)) = C1 at *
  generalize sI M 207 83 (nn (u + 1)) = M1 at *
  obtain ⟨⟨q1, q2⟩, -, -, -, h55⟩ := id hP1
  have hq : dI Mg 216 (64 * h + i) = 3 ∧ (∃ e, dI Mg 220 (64 * h + i) = nn e ∧ FsE P h bz ez C0 Mg (nb + i) e) ∧ Lk nb h cnt (dR C0 (nb + i) 6) (dI Mg 222 (64 * h + i)) ∧ Lk nb h cnt (dR C0 (nb + i) 7) (dI Mg 223 (64 * h + i)) := by
    rcases (hFs i hi).1.2 with ⟨q, -⟩ | ⟨q, -⟩ | ⟨q, -⟩ | ⟨q, -⟩ | ⟨q, a, b, c, d⟩ | ⟨q, -⟩ | ⟨q, -⟩
    · rw [q] at hk; exact absurd hk (by decide)
    · rw [q] at hk; exact absurd hk (by decide)
    · rw [q] at hk; exact absurd hk (by decide)
    · rw [q] at hk; exact absurd hk (by decide)
    · refine ⟨a, b, c, ?_⟩
      rcases d with ⟨-, -, d1, d2⟩ | ⟨-, -, d3⟩
      · exact Or.inl ⟨d1, d2⟩
      · exact d3
    · rw [q] at hk; exact absurd hk (by decide)
    · rw [q] at hk; exact absurd hk (by decide)
  obtain ⟨g2, ⟨e, e1, e2⟩, hL6, hL7⟩ := hq
  obtain ⟨Mp, p1, p2, p3, p4, p5, -⟩ := fl_push (k := 3) (m := nn (64 * h + i)) (show x < 300 by omega) h55
  have hPp := hP1.pu p2 p3
  have pM : Ch WM M0 Mp := hPp.1.2
  have cMp : Ch (WMx x) M Mp := cM1.tr (p2.mono (fun a k q => by unfold WMx; omega))
  have st : ∀ {v : Int32} {M' : Dat}, Ch WM M0 M' → f_X12_worth N (nn e) Mp = some (v, M') → f_X12_step N (nn (64 * h + i)) M1 = some (if v = 0 then dI Mg 223 (64 * h + i) else dI Mg 222 (64 * h + i), M') := fun {v M'} c w => by
    have e16 : dI M1 216 (64 * h + i) = 3 := by rw [hE.mg q2 (by unfold HC; omega)]; exact g2
    have e20 : dI Mp 220 (64 * h + i) = nn e := by rw [hE.mg pM (by unfold HC; omega)]; exact e1
    unfold f_X12_step f_X12_step_b287
    simp only [if_neg in128]
    rw [nn_nat (by omega), e16, if_neg (show ¬ (3 : Int32) = 1 by decide), if_neg (show ¬ (3 : Int32) = 2 by decide), if_pos rfl, p1, bS, e20, w, bS]
    show (if v = 0 then some (dI M' 223 (64 * h + i), M') else some (dI M' 222 (64 * h + i), M')) = _
    rw [hE.mg c (by unfold HC; omega), hE.mg c (by unfold HC; omega)]
    by_cases q : v = 0
    · rw [if_pos q, if_pos q]
    · rw [if_neg q, if_neg q]
  have cls : ∀ g, f_X10_goThrough_s_b9 rec N nu K (g + 1) (nn x) (some (nb + i)) C = (f_X10_goOverIf rec N nu K (some (nb + i)) (nn x) C1).bind (fun p14 => f_X10_goThrough_s_b108 rec N nu K (f_X10_goThrough_s_b9 rec N nu K g) (nn x) (some (nb + i)) p14) := fun g => by
    rw [wc_b9 hP.2.2.2.1 b1 k7, hE.ci q1 (by omega), hk, if_pos rfl]
  have hw : ∀ i', dR C0 (nb + i) 6 = some (nb + i') ∨ dR C0 (nb + i) 7 = some (nb + i') → W i' + 5 ≤ 5 * w + 4 := fun i' q => by
    have := ((hFs i hi).2.2.1.1 i' q).2
    omega
  rcases wk_ex (N := N) hN hE hi e2 hPp.2.2.1 hPp.2.2.2.1 q1 pM with ⟨v, C2, M2, C3, M3, a1, a2, ⟨a3, a4⟩, ⟨a5, a6⟩, ⟨a7, a8⟩, ⟨a9, a10⟩, a11, a12⟩ | ⟨C2, M2, h', a1, a2, a3, a4, a5, a6⟩
  · have hP3 := hPp.to a10 a12 a6 a8
    have gI : f_X10_goOverIf rec N nu K (some (nb + i)) (nn x) C1 = rec (if v = 0 then dR C0 (nb + i) 7 else dR C0 (nb + i) 6) (nn (x + 1)) C3 := by
      unfold f_X10_goOverIf f_X10_goOverIf_b37 f_X10_goOverIf_b43
      rw [a1, bS, goes1 a7, bS, if_neg (show ¬ (1 : Int32) = 0 by decide)]
      show (f_X3_pop C2).bind _ = _
      rw [a3, bS]
      by_cases q : v = 0
      · rw [if_pos q, if_pos q, bS, if_pos k7, bI]
        show rec (dR C3 (nb + i) 7) (nn x + 1) C3 = _
        rw [hE.cr hP3.1.1 (by omega), nn_1]
      · rw [if_neg q, if_neg q, bS, if_pos k7, bI]
        show rec (dR C3 (nb + i) 6) (nn x + 1) C3 = _
        rw [hE.cr hP3.1.1 (by omega), nn_1]
    refine wk_in (r := if v = 0 then dR C0 (nb + i) 7 else dR C0 (nb + i) 6) (s := if v = 0 then dI Mg 223 (64 * h + i) else dI Mg 222 (64 * h + i)) (kn := 3) hE hi hx hrec ?_ (fun i' q => ?_) (fun g => by rw [cls, gI]) (fun g => by rw [wk_st (by omega) m0 b2, st hP3.1.2 a2, bS]) hP3 (cMp.tr (a12.mono (fun a k q => pmm_WMx q))) (by decide) (by rw [a12.i (by unfold PmM; omega)]; exact p4) (by rw [a12.i (by unfold PmM; omega)]; exact p5)
    · by_cases q : v = 0
      · rw [if_pos q, if_pos q]; exact hL7
      · rw [if_neg q, if_neg q]; exact hL6
    · by_cases z : v = 0
      · rw [if_pos z] at q; exact hw i' (Or.inr q)
      · rw [if_neg z] at q; exact hw i' (Or.inl q)
  · have hD := hPp.ed a5 a6 a3.2.2.1 a4.1
    refine wk_fin hE hP hi hu b2 (fun g => ?_) (st hD.1.2 a2) (Or.inr hD)
    rw [cls]
    unfold f_X10_goOverIf f_X10_goOverIf_b43
    rw [a1, bS, goes0 a4, bS, if_pos rfl, bS]
