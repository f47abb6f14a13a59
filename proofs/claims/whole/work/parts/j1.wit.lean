/-! the walk: what stands still, one operation after another -/
/-- the cells of a half that hold a program -/
def HC (h a k : Nat) : Prop := ((216 ≤ a ∧ a ≤ 224) ∧ 64 * h ≤ k ∧ k < 64 * h + 64) ∨ ((a = 225 ∨ a = 226) ∧ 260 * h ≤ k ∧ k < 260 * h + 260) ∨ (a = 227 ∧ 26 * h ≤ k ∧ k < 26 * h + 26) ∨ (a = 228 ∧ k = h)
def WE (nu P nb h cnt bz ez : Nat) (W K : Nat → Nat) (C0 M0 Mg : Dat) : Prop := (dR C0 189 1 = some P ∧ (P = 191 ∨ P = 196)) ∧ PG nu P nb h cnt bz ez W C0 Mg ∧ (∀ i, i < cnt → kd K (nb + i) = 7) ∧ (h ≤ 1 ∧ dI M0 207 19 = nn h) ∧ NS ≤ nb ∧ nu ≤ 6 ∧ ∀ a k, HC h a k → dI M0 a k = dI Mg a k
def WM (a k : Nat) : Prop := (a = 207 ∧ (k = 55 ∨ (82 ≤ k ∧ k ≤ 84))) ∨ (238 ≤ a ∧ a ≤ 240) ∨ (256 ≤ a ∧ a ≤ 261)
def WMx (x a k : Nat) : Prop := (a = 207 ∧ (k = 55 ∨ (82 ≤ k ∧ k ≤ 84))) ∨ ((238 ≤ a ∧ a ≤ 240) ∧ x ≤ k) ∨ (256 ≤ a ∧ a ≤ 261)
theorem wmx_WM {x a k : Nat} (h : WMx x a k) : WM a k := by unfold WMx at h; unfold WM; omega
theorem pmm_WMx {x a k : Nat} (h : PmM a k) : WMx x a k := by unfold PmM at h; unfold WMx; omega
theorem wmx_mono {x a k : Nat} (h : WMx (x + 1) a k) : WMx x a k := by unfold WMx at h ⊢; omega
theorem WE.mg {nu P nb h cnt bz ez : Nat} {W K : Nat → Nat} {C0 M0 Mg M : Dat} (hE : WE nu P nb h cnt bz ez W K C0 M0 Mg) (hM : Ch WM M0 M) {a k : Nat} (hc : HC h a k) : dI M a k = dI Mg a k := by
  rw [hM.i (by unfold WM; unfold HC at hc; omega)]
  exact hE.2.2.2.2.2.2 a k hc
theorem WE.ci {nu P nb h cnt bz ez : Nat} {W K : Nat → Nat} {C0 M0 Mg C : Dat} (hE : WE nu P nb h cnt bz ez W K C0 M0 Mg) (hC : Ch PmB C0 C) {a k : Nat} (ha : 189 ≤ a) : dI C a k = dI C0 a k := hC.i (by unfold PmB PmC; omega)
theorem WE.cr {nu P nb h cnt bz ez : Nat} {W K : Nat → Nat} {C0 M0 Mg C : Dat} (hE : WE nu P nb h cnt bz ez W K C0 M0 Mg) (hC : Ch PmB C0 C) {a k : Nat} (ha : 189 ≤ a) : dR C a k = dR C0 a k := hC.r (by unfold PmB PmC; omega)
theorem zx_step {C : Dat} {P n fr h h2 op : Nat} (ho : dI C (P + 3) fr = nn op) (hop : op < 11) (hz : zx_h C P (n + 1) fr h = some h2) : tk op ≤ h ∧ h - tk op + pu op ≤ 30 ∧ zx_h C P n (fr + 1) (h - tk op + pu op) = some h2 := by
  rw [zx_h_s, ho, nn_nat (by omega)] at hz
  by_cases q : tk op ≤ h ∧ h - tk op + pu op ≤ 30
  · rw [if_pos q] at hz
    exact ⟨q.1, q.2, hz⟩
  · rw [if_neg q] at hz
    exact absurd hz (by simp)
/-- ended -/
def Edd (C : Dat) : Prop := ¬ dI C 181 10 = -1 ∧ 0 ≤ (dI C 181 10).toInt
theorem Edd.m {C M : Dat} (he : Edd C) (hs : SmR C M) : 0 ≤ dI M 207 84 := by
  rw [← hs.1 181 10 207 84 cor_n, le0]
  exact he.2
theorem goes1 {C : Dat} (h : dI C 181 10 = -1) : f_X3_goesOn C = some (1, C) := by rw [e_goesOn, if_pos h]
theorem goes0 {C : Dat} (h : Edd C) : f_X3_goesOn C = some (0, C) := by rw [e_goesOn, if_neg h.1]
theorem mgo {C M : Dat} (h : dI C 181 10 = -1) (hs : SmR C M) : ¬ 0 ≤ dI M 207 84 := by
  rw [← hs.1 181 10 207 84 cor_n, h]
  decide
theorem wk_it {N nu P nb h cnt bz ez : Nat} {W K : Nat → Nat} {C0 M0 Mg : Dat} (hE : WE nu P nb h cnt bz ez W K C0 M0 Mg) {s : Nat} {bs : Nat → Int32} {a to : Nat} (ha : 266 ≤ a) (ka : kd K a = 7) (k5 : dI C0 a 5 = nn to) (k240 : to ≤ 240) : ∀ (n fr e hh h2 : Nat) (C M : Dat), Ex P C0 Mg fr n e → fr + n ≤ bz → fr + n ≤ to → 260 * h ≤ e → e + n < ez → zx_h C0 P n fr hh = some h2 → zx_h C0 P n fr (hh + s) = some (h2 + s) → Smx s bs hh C M → dI C 181 10 = -1 → Ch PmB C0 C → Ch WM M0 M → (∃ C' M', (∀ g, f_X10_reckon_b5 N nu K (g + n) (some a) (nn fr) C = f_X10_reckon_b5 N nu K g (some a) (nn (fr + n)) C') ∧ (∀ g, n < g → f_X12_worth_b2 N g (nn e) M = f_X12_worth_b40 N M') ∧ Smx s bs h2 C' M' ∧ dI C' 181 10 = -1 ∧ Cm C C' ∧ Ch PmM M M') ∨ (∃ C' M' h', (∀ g, f_X10_reckon_b5 N nu K (g + n + 1) (some a) (nn fr) C = some C') ∧ (∀ g, n < g → f_X12_worth_b2 N g (nn e) M = f_X12_worth_b40 N M') ∧ Smx s bs h' C' M' ∧ Edd C' ∧ Cm C C' ∧ Ch PmM M M') := by
  obtain ⟨⟨h89, hP⟩, hG, -, ⟨hh1, hh2⟩, -⟩ := id hE
  obtain ⟨-, -, -, ⟨-, hbz, hez⟩, hP5⟩ := hG
  intro n
  induction n with
  | zero =>
    intro fr e hh h2 C M hx hfr hto he hez' hz1 hz2 hs hgo hC hM
    left
    obtain rfl : hh = h2 := Option.some.inj hz1
    refine ⟨C, M, fun g => rfl, fun g hg => ?_, hs, hgo, Cm.rf, Ch.rf⟩
    have mO : dI M 225 e = -1 := by rw [hE.mg hM (by unfold HC; omega)]; exact hx.2
    rw [show g = (g - 1) + 1 by omega, f_X12_worth_b2, if_neg (nn_in (by omega) (by omega)), nn_nat (by omega), mO, if_pos (by decide)]
  | succ n ih =>
    intro fr e hh h2 C M hx hfr hto he hez' hz1 hz2 hs hgo hC hM
    have hx' : Ex P C0 Mg (fr + 1) n (e + 1) := ⟨fun i hi => by rw [show fr + 1 + i = fr + (i + 1) by omega, show e + 1 + i = e + (i + 1) by omega]; exact hx.1 (i + 1) (by omega), by rw [show e + 1 + n = e + (n + 1) by omega]; exact hx.2⟩
    obtain ⟨op, o1, o2, o3, o4, o5⟩ := hx.1 0 (by omega)
    have hop : op < 11 := by omega
    obtain ⟨z1, z2, z3⟩ := zx_step o1 hop hz1
    obtain ⟨y1, y2, y3⟩ := zx_step o1 hop hz2
    have cP5 : dI C P 5 = nn bz := by rw [hE.ci hC (by omega)]; exact hP5
    have d0 : dR C 189 1 = some P := by rw [hE.cr hC (by omega)]; exact h89
    have fop := e4_op (t := P) cP5 (show fr < bz by omega) hbz
    have far := e4_arg (t := P) cP5 (show fr < bz by omega) hbz
    rw [hE.ci hC (by omega), show dI C0 (P + 3) fr = nn op from o1] at fop
    rw [hE.ci hC (by omega), show dI C0 (P + 4) fr = dI Mg 226 e from o3] at far
    have fx : fitx op (dI Mg 226 e) := by
      have h13 : 1 ≤ op ∧ op ≤ 4 → op = 1 ∨ op = 3 := by
        clear o5
        omega
      refine ⟨fun q => ?_, fun q => ?_⟩
      · obtain ⟨x, x1, x2, -⟩ := o5 (h13 q)
        clear o5
        rw [show dI Mg 226 e = nn x from x2, nn_int (by omega)]
        omega
      · clear o5
        omega
    clear o5
    obtain ⟨C1, M1, p1, p2, p3, p4, p5⟩ := smx_perform hs (show op ≤ 10 ∨ op = 13 ∨ op = 14 by omega) fx z1 (by omega)
    have cC1 : Ch PmB C0 C1 := hC.tr p4.b
    have cM1 : Ch WM M0 M1 := hM.tr (p5.mono (fun a k q => wmx_WM (x := 0) (pmm_WMx q)))
    have k5' : dI C a 5 = nn to := by rw [hE.ci hC (by omega)]; exact k5
    have k51 : dI C1 a 5 = nn to := by rw [hE.ci cC1 (by omega)]; exact k5
    have cstep : ∀ g, f_X10_reckon_b5 N nu K (g + 1) (some a) (nn fr) C = f_X10_reckon_b5 N nu K g (some a) (nn (fr + 1)) C1 := fun g => by
      rw [f_X10_reckon_b5, bS, if_pos ka, k5', if_neg (show ¬ nn to ≤ nn fr from fun q => by have := (nn_le (by omega) (by omega)).mp q; omega), goes1 hgo, bS, if_neg (show ¬ (1 : Int32) = 0 by decide)]
      show ((dR C 189 1)).bind _ = _
      rw [d0, bS, if_pos hP, fop, bS]
      show ((dR C 189 1)).bind _ = _
      rw [d0, bS, if_pos hP, far, bS]
      show (f_X3_perform (nn op) (dI Mg 226 e) C).bind _ = _
      rw [p1, bS, nn_1]
    have mO : dI M 225 e = nn op := by rw [hE.mg hM (by unfold HC; omega)]; exact o2
    have mA : dI M 226 e = dI Mg 226 e := hE.mg hM (by unfold HC; omega)
    have mstep : ∀ g, f_X12_worth_b2 N (g + 1) (nn e) M = f_X12_worth_b2 N g (nn (e + 1)) M1 := fun g => by
      rw [f_X12_worth_b2]
      simp only [if_neg (nn_in (k := e) (n := 520) (by omega) (by omega))]
      rw [nn_nat (by omega), mO, mA, if_neg (nn_nlt0 (by omega)), if_neg (mgo hgo hs.2.2.1), p2, bS, nn_1]
    by_cases g1 : dI C1 181 10 = -1
    · have s1 : Smx s bs (hh - tk op + pu op) C1 M1 := by
        rcases p3 with q | q
        · exact q
        · exact absurd g1 q.2
      rw [show hh + s - tk op + pu op = hh - tk op + pu op + s by omega] at y3
      rcases ih (fr + 1) (e + 1) (hh - tk op + pu op) h2 C1 M1 hx' (by omega) (by omega) (by omega) (by omega) z3 y3 s1 g1 cC1 cM1 with ⟨C2, M2, q1, q2, q3, q4, q5, q6⟩ | ⟨C2, M2, h', q1, q2, q3, q4, q5, q6⟩
      · left
        refine ⟨C2, M2, fun g => ?_, fun g hg => ?_, q3, q4, p4.tr q5, p5.tr q6⟩
        · rw [show g + (n + 1) = g + n + 1 by omega, cstep, q1, show fr + 1 + n = fr + (n + 1) by omega]
        · rw [show g = (g - 1) + 1 by omega, mstep]
          exact q2 (g - 1) (by omega)
      · right
        refine ⟨C2, M2, h', fun g => ?_, fun g hg => ?_, q3, q4, p4.tr q5, p5.tr q6⟩
        · rw [show g + (n + 1) + 1 = g + n + 1 + 1 by omega, cstep, q1]
        · rw [show g = (g - 1) + 1 by omega, mstep]
          exact q2 (g - 1) (by omega)
    · right
      have e1 : Edd C1 := ⟨g1, by
        rcases p4.2 with q | q
        · exact absurd (q.trans hgo) g1
        · exact q⟩
      obtain ⟨h', s1⟩ : ∃ h', Smx s bs h' C1 M1 := by
        rcases p3 with q | q
        · exact ⟨_, q⟩
        · exact q.1
      refine ⟨C1, M1, h', fun g => ?_, fun g hg => ?_, s1, e1, p4, p5⟩
      · rw [show g + (n + 1) + 1 = g + n + 1 + 1 by omega, cstep, f_X10_reckon_b5, bS, if_pos ka]
        by_cases q : dI C1 a 5 ≤ nn (fr + 1)
        · rw [if_pos q]
          rfl
        · rw [if_neg q, goes0 e1, bS, if_pos rfl]
          rfl
      · rw [show g = (g - 2) + 1 + 1 by omega, mstep, f_X12_worth_b2]
        simp only [if_neg (nn_in (k := e + 1) (n := 520) (by omega) (by omega))]
        by_cases q : dI M1 225 (nn (e + 1)).toNatClampNeg < 0
        · rw [if_pos q]
        · rw [if_neg q, if_pos (e1.m s1.2.2.1)]
