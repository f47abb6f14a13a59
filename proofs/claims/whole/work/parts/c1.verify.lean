/-! verify -/
/-- what is known where there are maps -/
def IVm (nu sz : Nat) (D : Dat) : Prop := ∃ hv : Nat → Option Nat, Bd hv ∧ (∀ i, i < 64 → dI D 113 i = hI (hv i) ∧ dI D 245 i = hI (hv i) ∧ (mm (dL D 107 5) i = true ↔ ¬ hv i = none)) ∧ dI D 108 4 = nn sz ∧ ∀ i h, hv i = some h → i < sz ∧ (∃ d, d < nu ∧ dI D 114 i = nn (sh nu D d) ∧ dI D 249 i = nn d) ∧ (∀ k, k < 26 + h → ∃ d, d < nu ∧ dI D (116 + i) k = nn (sh nu D d) ∧ dI D 250 (56 * i + k) = nn d) ∧ (dI D 212 i = 11 → dI D 111 i = dI D 247 i ∧ ∀ q, q < sz → (mm (dL D 112 i) q = true ↔ ¬ dI D 248 (64 * i + q) = 0))
theorem dS_eq {o : Nat → Nat} {hv : Nat → Option Nat} {L L' : Nat → Nat} {M M' : Nat → Nat → Nat} {j h : Nat} (hj : hv j = some h) (ht : tk (o j) ≤ h) (h1 : L' j = L j) (h2 : ∀ k, k < 26 + h → M' j k = M j k) : dS o hv L' M' j = dS o hv L M j := by
  have : ∀ n, n ≤ h → tS M' j h n = tS M j h n := by
    intro n
    induction n with
    | zero => intro _; rfl
    | succ n ih =>
      intro hn
      show tS M' j h n ||| M' j (26 + h - (n + 1)) = tS M j h n ||| M j (26 + h - (n + 1))
      rw [ih (by omega), h2 _ (by omega)]
  unfold dS
  rw [hj, h1]
  show L j ||| tS M' j h (tk (o j)) = L j ||| tS M j h (tk (o j))
  rw [this _ ht]
theorem fe_rg {o : Nat → Nat} {x : Nat → Int32} {sz : Nat} {hv : Nat → Option Nat} (hV : HV o x sz hv) {p i t : Nat} (hi : ¬ hv i = none) (h : Rc o x p i t) : ¬ hv t = none := by
  have key : ∀ j q, ¬ hv j = none → nx o x j q → ¬ hv q = none := fun j q hj hq => by
    cases e : hv j with
    | none => exact absurd e hj
    | some h => rw [(hV.all j h e).2.2.2.2 q hq]; simp
  exact Rc.ind (P := fun q => ¬ hv q = none) (fun q h1 _ => key i q hi h1) (fun r q hr h1 _ => key r q hr h1) h
theorem HV.bd {o : Nat → Nat} {x : Nat → Int32} {sz : Nat} {hv : Nat → Option Nat} (hV : HV o x sz hv) : Bd hv := fun i h hi => (hV.2 i h hi).2.1
/-- that there is a VERIFIED code, in the machine's words -/
theorem HV.vok {nu sz : Nat} {o : Nat → Nat} {x : Nat → Int32} (hG : GC nu sz o x) (hn : nu ≤ 6) {hv : Nat → Option Nat} (hV : HV o x sz hv) {D : Dat} (hK : Km sz o x D) : VOK hv sz D := by
  have hz := hG.1.2
  refine ⟨hV.1, fun i h hi => ?_⟩
  obtain ⟨his, hb, ht, hp, hq⟩ := hV.all i h hi
  refine ⟨his, o i, (hK.2.2 i his).1, hG.2.1 i, ht, hp, ⟨fun w => ?_, fun w => ?_⟩, fun w => ?_, fun w => ?_⟩
  · have t := hG.x26 his w
    rw [(hK.2.2 i his).2, t.2, nn_int (by omega)]
    omega
  · have t := hG.xnu his w
    rw [(hK.2.2 i his).2, t.2, nn_int (by omega)]
    omega
  · exact hq (i + 1) (Or.inl ⟨w.1, w.2, rfl⟩)
  · have t := hG.tgt his w
    exact ⟨tg (x i), t.1, by rw [(hK.2.2 i his).2]; exact t.2, hq _ (Or.inr ⟨w, rfl⟩)⟩
theorem stp_verify {N nu n c sz : Nat} {K : Nat → Nat} {D : Dat} (hN : 100000 ≤ N) (a1 a2 a3 : Int32) (hS : IS nu D) (hL : Lat nu D) (hC : IC c sz D) (hMk : IM nu D) : ∃ D', stp_8 N nu n K D a1 a2 a3 = some (K, D') ∧ (Ch Pr D D' ∨ (Ch Pv D D' ∧ IS nu D' ∧ (dI D' 207 17 = 1 → IVm nu sz D') ∧ (dI D' 207 16 = 1 → ∃ ht, VOK ht sz D'))) := by
  obtain ⟨⟨n1, n2⟩, ⟨d1, d2⟩, -, -, -, -, ⟨s1, s2⟩⟩ := id hS
  obtain ⟨hc, ⟨h10, -⟩, hz, ⟨hcs, hms⟩, hcode⟩ := id hC
  by_cases hgo : dI D 207 5 = 0 ∨ sz = 0
  · -- an IllegalStateException
    obtain ⟨D', e1, e2⟩ := stp_not (K := K) (fL := f_L_verify N nu K D) (fM := fun D => f_X12_verify N D) (D := D) (r := 1) (by decide) (by
      unfold f_L_verify f_X11_verify f_X11_verify_b20 f_X0_size
      rcases s2 with w | w
      · have eS : f_X2_isSealed D = some (0, D) := by rw [sealed_e (by rw [s1]; exact Or.inl w), s1, w]
        simp only [eS, bS, reduceIte]
      · have eS : f_X2_isSealed D = some (1, D) := by rw [sealed_e (by rw [s1]; exact Or.inr w), s1, w]
        have e0 : sz = 0 := hgo.resolve_left (by rw [w]; decide)
        have ec : dI D c 2 = 0 := by rw [hcs, e0]; rfl
        simp only [eS, bS, n10, reduceIte, h10, hc, ec]) (by
      show f_X12_verify N D = _
      unfold f_X12_verify f_X12_verify_b19
      have q5 : dI (sI D 207 0 0) 207 5 = dI D 207 5 := by rw [dI_s, if_neg (by omega)]
      have q13 : dI (sI D 207 0 0) 207 13 = nn sz := by rw [dI_s, if_neg (by omega)]; exact hms
      rw [q5, q13]
      by_cases w : dI D 207 5 = 0
      · rw [if_pos w]; rfl
      · rw [if_neg w, if_pos (by rw [hgo.resolve_left w]; rfl)]; rfl)
    exact ⟨D', e1, Or.inl e2⟩
  · have hsl : dI D 207 5 = 1 := s2.resolve_left (fun w => hgo (Or.inl w))
    have hs1 : dI D 1 2 = 1 := s1.trans hsl
    have hsz : 1 ≤ sz := by omega
    have hcz : ¬ dI D c 2 = 0 := by rw [hcs]; exact ne_op (b := 0) (by omega) (by omega) (by omega)
    have hLS : LatS nu D := ⟨⟨n1, n2⟩, hL, hsl⟩
    have hmk : ∀ v, v < 52 → mkOk nu (dI D 190 v) := fun v hv => by
      have key : ∀ w : Int32, -1 ≤ w.toInt → w.toInt < nu → mkOk nu w := fun w h1 h2 => by
        by_cases e : w.toInt = -1
        · refine Or.inl (Int32.toInt_inj.mp (by rw [e]; decide))
        · obtain ⟨k, hk, ek⟩ := nn_of (show 0 ≤ w.toInt by omega)
          rw [ek, nn_int hk] at h2
          exact Or.inr ⟨k, by omega, ek⟩
      by_cases e : v < 26
      · have := hMk v e
        rw [this.1.1]; exact key _ this.2.1.1 this.2.1.2
      · have := hMk (v - 26) (by omega)
        rw [show 26 + (v - 26) = v by omega] at this
        rw [this.1.2]; exact key _ this.2.2.1 this.2.2.2
    -- the code as numbers
    obtain ⟨o, ho, hoD⟩ : ∃ o : Nat → Nat, (∀ i, o i ≤ 15) ∧ ∀ i, i < sz → dI D 212 i = nn (o i) := by
      refine ⟨fun i => if i < sz then tg (dI D 212 i) else 0, fun i => ?_, fun i hi => ?_⟩
      · show (if i < sz then tg (dI D 212 i) else 0) ≤ 15
        by_cases e : i < sz
        · rw [if_pos e]
          obtain ⟨-, -, g1, g2⟩ := hcode i e
          obtain ⟨k, hk, ek⟩ := nn_of g1
          unfold tg
          rw [ek, nn_nat hk]
          rw [ek, nn_int hk] at g2
          omega
        · rw [if_neg e]; omega
      · show dI D 212 i = nn (if i < sz then tg (dI D 212 i) else 0)
        obtain ⟨-, -, g1, g2⟩ := hcode i hi
        obtain ⟨k, hk, ek⟩ := nn_of g1
        rw [if_pos hi]
        unfold tg
        rw [ek, nn_nat hk]
    generalize hx : dI D 213 = x
    have hxD : ∀ i, dI D 213 i = x i := fun i => by rw [← hx]
    -- the class's memory at the start
    have cA : Ch PvC D (sI (sR (sR D 107 2 (some c)) 107 3 (some 190)) 107 10 0) := Ch.sI (by unfold PvC; omega) (Ch.sR (by unfold PvC; omega) (Ch.sR (by unfold PvC; omega) Ch.rf))
    have hKA : Kc c sz o x (sI (sR (sR D 107 2 (some c)) 107 3 (some 190)) 107 10 0) := by
      refine ⟨hc, hz, ?_, ?_, ?_, fun i hi => ⟨?_, ?_⟩⟩
      · rw [dR_sI, dR_s, if_neg (by omega), dR_s, if_pos ⟨rfl, rfl⟩]
      · rw [dR_sI, dR_s, if_pos ⟨rfl, rfl⟩]
      · rw [cA.i (by unfold PvC; omega)]; exact hcs
      · rw [cA.i (by unfold PvC; omega), (hcode i hi).1]; exact hoD i hi
      · rw [cA.i (by unfold PvC; omega), (hcode i hi).2.1]; exact hxD i
    have dA : dI (sI (sR (sR D 107 2 (some c)) 107 3 (some 190)) 107 10 0) 1 0 = nn nu := by rw [cA.i (by unfold PvC; omega)]; exact d1
    have mA : dI (sI (sR (sR D 107 2 (some c)) 107 3 (some 190)) 107 10 0) 107 10 = 0 := by rw [dI_s, if_pos ⟨rfl, rfl⟩]
    have acc : f_X9_accepts N nu K (some c) 190 D = (f_X9_argumentsFit N (sI (sR (sR D 107 2 (some c)) 107 3 (some 190)) 107 10 0)).bind (fun p1 => if p1.1 = 0 then (f_X9_accepts_b36 N nu K p1.2) else ((f_X9_endFits p1.2).bind (fun p4 => if p4.1 = 0 then (f_X9_accepts_b36 N nu K p4.2) else ((f_X9_heightsFit N nu K p4.2).bind (fun p7 => if p7.1 = 0 then (f_X9_accepts_b36 N nu K p7.2) else ((f_X6_find N (dR p7.2 107 2) (dL p7.2 107 5) p7.2).bind (fun p10 => (f_X9_findLabels N nu K p10).bind (fun p12 => (f_X9_flowsFit N nu K (sI p12 107 10 1)).bind (fun p14 => if p14.1 &&& 1 = p14.1 then some (p14.1, p14.2) else none)))))))) := rfl
    generalize hA : sI (sR (sR D 107 2 (some c)) 107 3 (some 190)) 107 10 0 = A at cA hKA dA mA acc
    -- the model's memory at the start
    have mstart : ∀ D2 : Dat, Ch Pv D D2 → (∀ a j, 207 ≤ a → a ≠ 262 → dI D2 a j = dI D a j) → f_X12_verify N D2 = f_X12_verify_b37 N N 0 (sI (sI (sI D2 207 0 0) 207 16 0) 207 17 0) ∧ Km sz o x (sI (sI (sI D2 207 0 0) 207 16 0) 207 17 0) ∧ dI (sI (sI (sI D2 207 0 0) 207 16 0) 207 17 0) 207 1 = nn nu ∧ Ch PvM D2 (sI (sI (sI D2 207 0 0) 207 16 0) 207 17 0) ∧ dI (sI (sI (sI D2 207 0 0) 207 16 0) 207 17 0) 207 0 = 0 ∧ dI (sI (sI (sI D2 207 0 0) 207 16 0) 207 17 0) 207 16 = 0 ∧ dI (sI (sI (sI D2 207 0 0) 207 16 0) 207 17 0) 207 17 = 0 := by
      intro D2 hch hsame
      have c0 : Ch PvM D2 (sI (sI (sI D2 207 0 0) 207 16 0) 207 17 0) := Ch.sI (by unfold PvM; omega) (Ch.sI (by unfold PvM; omega) (Ch.sI (by unfold PvM; omega) Ch.rf))
      refine ⟨?_, ⟨hz, ?_, fun i hi => ⟨?_, ?_⟩⟩, ?_, c0, ?_, ?_, ?_⟩
      · have q5 : ¬ dI (sI D2 207 0 0) 207 5 = 0 := by rw [dI_s, if_neg (by omega), hsame 207 5 (by omega) (by omega), hsl]; decide
        have q13 : ¬ dI (sI D2 207 0 0) 207 13 = 0 := by rw [dI_s, if_neg (by omega), hsame 207 13 (by omega) (by omega), hms]; exact ne_op (b := 0) (by omega) (by omega) (by omega)
        unfold f_X12_verify
        rw [if_neg q5, if_neg q13]
      · rw [c0.i (by unfold PvM; omega), hsame 207 13 (by omega) (by omega)]; exact hms
      · rw [c0.i (by unfold PvM; omega), hsame 212 i (by omega) (by omega)]; exact hoD i hi
      · rw [c0.i (by unfold PvM; omega), hsame 213 i (by omega) (by omega)]; exact hxD i
      · rw [c0.i (by unfold PvM; omega), hsame 207 1 (by omega) (by omega)]; exact d2
      · rw [dI_s, if_neg (by omega), dI_s, if_neg (by omega), dI_s, if_pos ⟨rfl, rfl⟩]
      · rw [dI_s, if_neg (by omega), dI_s, if_pos ⟨rfl, rfl⟩]
      · rw [dI_s, if_pos ⟨rfl, rfl⟩]
    -- what follows on the model's side, where the class refused
    have refuse : ∀ (D1 : Dat) (p k mp : Int32), f_X9_accepts N nu K (some c) 190 D = some (0, D1) → Ch PvC D D1 → dI D1 107 11 = p → dI D1 107 12 = k → dI D1 107 10 = mp → b01 mp → (∀ E0 : Dat, Km sz o x E0 → dI E0 207 1 = nn nu → dI E0 207 0 = 0 → dI E0 207 16 = 0 → dI E0 207 17 = 0 → (∀ a j, ¬ PvM a j → dI E0 a j = dI (sI (sI (sI D1 0 13 0) 0 14 p) 0 15 k) a j) → (∀ a j, dL E0 a j = dL D1 a j) → ∃ E, f_X12_verify_b37 N N 0 E0 = some (0, E) ∧ Ch PvM E0 E ∧ dI E 207 7 = p ∧ dI E 207 8 = k ∧ dI E 207 0 = 2 ∧ dI E 207 16 = 0 ∧ dI E 207 17 = mp ∧ (dI E 207 17 = 1 → IVm nu sz E)) → ∃ D', stp_8 N nu n K D a1 a2 a3 = some (K, D') ∧ (Ch Pr D D' ∨ (Ch Pv D D' ∧ IS nu D' ∧ (dI D' 207 17 = 1 → IVm nu sz D') ∧ (dI D' 207 16 = 1 → ∃ ht, VOK ht sz D'))) := by
      intro D1 p k mp ha hc1 hp hk hm hmp hmod
      have c2 : Ch (fun a j => a = 0 ∧ (j = 13 ∨ j = 14 ∨ j = 15)) D1 (sI (sI (sI D1 0 13 0) 0 14 p) 0 15 k) := Ch.sI (by omega) (Ch.sI (by omega) (Ch.sI (by omega) Ch.rf))
      have cD2 : Ch Pv D (sI (sI (sI D1 0 13 0) 0 14 p) 0 15 k) := (hc1.mono (Q := Pv) (fun a j w => Or.inr (Or.inl w))).tr (c2.mono (Q := Pv) (fun a j w => Or.inr (Or.inr (Or.inr w))))
      obtain ⟨m1, m2, m3, m4, m5, m6, m7⟩ := mstart _ cD2 (fun a j h1 h2 => by rw [c2.i (by omega), hc1.i (by unfold PvC; omega)])
      obtain ⟨E, e1, e2, e3, e4, e5, e6, e7, e8⟩ := hmod _ m2 m3 m5 m6 m7 (fun a j h => m4.i h) (fun a j => by rfl)
      obtain ⟨f1, f2, f3⟩ := vf_fail (n := n) a1 a2 a3 hS hc h10 hs1 hcz ha hc1 hp hk hm hmp (m1.trans e1) (m4.tr e2) e3 e4 e5 e6 e7
      exact ⟨E, f1, Or.inr ⟨f2, f3, e8, fun w => by rw [e6] at w; exact absurd w (by decide)⟩⟩
    rcases first_bad (fun j => fb nu sz (o j) (x j) = true) sz with hfa | ⟨b, hb, hbx, hbj⟩
    · by_cases hend : o (sz - 1) = 12 ∨ o (sz - 1) = 15
      · -- good code
        have hG : GC nu sz o x := ⟨⟨hsz, hz⟩, ho, hfa, hend⟩
        have front : f_X9_accepts N nu K (some c) 190 D = (f_X9_heightsFit N nu K A).bind (fun p7 => if p7.1 = 0 then (f_X9_accepts_b36 N nu K p7.2) else ((f_X6_find N (dR p7.2 107 2) (dL p7.2 107 5) p7.2).bind (fun p10 => (f_X9_findLabels N nu K p10).bind (fun p12 => (f_X9_flowsFit N nu K (sI p12 107 10 1)).bind (fun p14 => if p14.1 &&& 1 = p14.1 then some (p14.1, p14.2) else none))))) := by
          rw [acc, show f_X9_argumentsFit N A = some (1, A) from args_ok (N := N) n2 ho dA hKA hfa sz N 0 (by omega) (by omega), bS]
          simp only [n10, reduceIte]
          rw [end_ok hKA hsz hend, bS]
          simp only [n10, reduceIte]
        have mfront : ∀ E0 : Dat, Km sz o x E0 → dI E0 207 1 = nn nu → f_X12_verify_b37 N N 0 E0 = f_X12_verify_b112 N E0 := fun E0 hK0 hd0 => by
          have := (mg_ok (N := N) n2 hsz ho hd0 hK0 sz N 0 sz (by omega) (by omega) (Nat.le_refl _) hfa).1 rfl
          rw [if_pos hend] at this
          exact this
        obtain ⟨D2, b1, b2⟩ := hts_C (N := N) (K := K) (by omega) hG hKA
        have cD2 : Ch PvC D D2 := cA.tr (b1.mono (fun a j w => by unfold PhC at w; unfold PvC; omega))
        rcases b2 with ⟨hv, r1, r2, r3⟩ | ⟨i, w, r1, r2, r3, r4⟩
        · -- heights are found
          have hV : HV o x sz hv := hrun_J hG sz hv0 lk0 (JH0 hG) (by rw [cnt0]; omega) hv r1
          have hK2 : Kc c sz o x D2 := hKA.kept b1 (fun a j w => by unfold PhC at w; unfold RKc; omega)
          have f2 : f_X9_accepts N nu K (some c) 190 D = (f_X6_find N (some c) (dL D2 107 5) D2).bind (fun p10 => (f_X9_findLabels N nu K p10).bind (fun p12 => (f_X9_flowsFit N nu K (sI p12 107 10 1)).bind (fun p14 => if p14.1 &&& 1 = p14.1 then some (p14.1, p14.2) else none))) := by
            rw [front, r2, bS]
            simp only [n10, reduceIte]
            rw [hK2.2.2.1]
          obtain ⟨D3, q1, q2, q3, q4⟩ := e_find (N := N) (by omega) hG (dL D2 107 5) hK2
          have cD3 : Ch PvC D D3 := cD2.tr (q2.mono (fun a j w => by unfold PrC at w; unfold PvC; omega))
          have hK3 : Kc c sz o x D3 := hK2.kept q2 (fun a j w => by unfold PrC at w; unfold RKc; omega)
          have hRg : ∀ i t, ¬ hv i = none → Rc o x (av (dI D3 111 i)) i t → ¬ hv t = none := fun i t hi h => fe_rg hV hi h
          have hE3 : CEn nu c sz o x hv (fun i q => Rc o x (av (dI D3 111 i)) i q) D D3 := by
            refine ⟨hK3, fun i hi => ?_, ⟨?_, fun a => ?_⟩, ⟨q3, fun i hi h11 hn q hq => ?_⟩, fun v => ?_⟩
            · rw [q2.i (by unfold PrC; omega)]; exact (r3 i hi).1
            · rw [cD3.i (by unfold PvC; omega)]; exact d1
            · exact cD3.i (by unfold PvC; omega)
            · have := ((q4 i hi).1 ⟨h11, ((r3 i (by omega)).2).mpr hn⟩).2 q (by omega)
              exact this
            · exact cD3.i (by unfold PvC; omega)
          have h53 : ∀ i, i < 64 → (mm (dL D3 107 5) i = true ↔ ¬ hv i = none) := fun i hi => by rw [q2.l (by unfold PrC; omega)]; exact (r3 i hi).2
          obtain ⟨D4, u1, u2, u3, L, M, u4, u5⟩ := e_labels (N := N) (K := K) hN hG hLS hmk hV hRg hE3 h53
          have c5 : Ch (fun a j => a = 107 ∧ j = 10) D4 (sI D4 107 10 1) := Ch.sI ⟨rfl, rfl⟩ Ch.rf
          have cD5 : Ch PvC D (sI D4 107 10 1) := (cD3.tr (u3.mono (fun a j w => by unfold PlC at w; unfold PvC; omega))).tr (c5.mono (fun a j w => by unfold PvC; omega))
          have v510 : dI (sI D4 107 10 1) 107 10 = 1 := by rw [dI_s, if_pos ⟨rfl, rfl⟩]
          have d545 : ∀ a j, ¬ (a = 107 ∧ j = 10) → dI (sI D4 107 10 1) a j = dI D4 a j := fun a j h => c5.i h
          have dL5 : ∀ a j, dL (sI D4 107 10 1) a j = dL D4 a j := fun a j => rfl
          have f3 : f_X9_accepts N nu K (some c) 190 D = (f_X9_flowsFit N nu K (sI D4 107 10 1)).bind (fun p14 => if p14.1 &&& 1 = p14.1 then some (p14.1, p14.2) else none) := by
            rw [f2, q1, bS, u1, bS]
          generalize sI D4 107 10 1 = D5 at f3 c5 cD5 v510 d545 dL5
          have hK5 : Kc c sz o x D5 := u2.1.kept c5 (fun a j w => by unfold RKc; omega)
          have hE5 : CEn nu c sz o x hv (fun i q => Rc o x (av (dI D3 111 i)) i q) D D5 := by
            refine ⟨hK5, fun i hi => ?_, ⟨?_, fun a => ?_⟩, ⟨?_, fun i hi h11 hn q hq => ?_⟩, fun v => ?_⟩
            · rw [d545 _ _ (by omega)]; exact u2.2.1 i hi
            · rw [d545 _ _ (by omega)]; exact u2.2.2.1.1
            · rw [d545 _ _ (by omega)]; exact u2.2.2.1.2 a
            · rw [d545 _ _ (by omega)]; exact u2.2.2.2.1.1
            · rw [dL5]; exact u2.2.2.2.1.2 i hi h11 hn q hq
            · rw [d545 _ _ (by omega)]; exact u2.2.2.2.2 v
          have hSC5 : SC sz L M D5 := fun i hi => ⟨⟨((u4 i hi).1).1, by rw [d545 _ _ (by omega)]; exact ((u4 i hi).1).2⟩, fun k hk => ⟨((u4 i hi).2 k hk).1, by rw [d545 _ _ (by omega)]; exact ((u4 i hi).2 k hk).2⟩⟩
          have h55 : ∀ i, i < 64 → (mm (dL D5 107 5) i = true ↔ ¬ hv i = none) := fun i hi => by rw [dL5, u3.l (by unfold PlC; omega)]; exact h53 i hi
          have hLD5 : ∀ a k, RIL a k → dI D5 a k = dI D a k := fun a k r => cD5.i (by unfold RIL at r; unfold PvC; omega)
          -- labels of what is taken
          have hdl : ∀ i h, hv i = some h → ∃ d, d < nu ∧ dS o hv L M i = sh nu D d := fun i h hi => by
            obtain ⟨his, hb, ht, -⟩ := hV.all i h hi
            exact dS_vs (o := o) hLS u5.1 his hi hb ht
          have hPc : ∀ i, i < sz → ¬ hv i = none → ∃ b : Bool, f_X9_flowFits N nu K (nn i) D5 = some (wi b, D5) ∧ (b = true ↔ ∀ d, d < nu → dS o hv L M i = sh nu D d → FF nu o x D d i) := fun i hi hn => by
            obtain ⟨h, hh⟩ : ∃ h, hv i = some h := by
              cases e : hv i with
              | none => exact absurd e hn
              | some h => exact ⟨h, rfl⟩
            obtain ⟨d, e1, e2⟩ := hdl i h hh
            obtain ⟨b, g1, g2⟩ := e_flowFits (N := N) (K := K) (by omega) hG hLS hmk hV hE5 hLD5 hSC5 hh e1 e2
            refine ⟨b, g1, ?_⟩
            rw [g2]
            constructor
            · intro w d' e1' e2'
              rw [← sh_inj n2 hL hsl e1 e1' (by rw [← e2, ← e2'])]
              exact w
            · intro w; exact w d e1 e2
          -- the model, from any start with the class's end
          have mod : ∀ E0 : Dat, Km sz o x E0 → dI E0 207 1 = nn nu → dI E0 207 0 = 0 → dI E0 207 16 = 0 → (∀ a j, ¬ PvM a j → a ≠ 0 → a ≠ 262 → dI E0 a j = dI D5 a j) → (∀ a j, a ≠ 262 → dL E0 a j = dL D5 a j) → ∃ E1, f_X12_verify_b37 N N 0 E0 = f_X12_verify_b143 N N 0 0 E1 ∧ Ch PvM E0 E1 ∧ dI E1 207 0 = 0 ∧ dI E1 207 16 = 0 ∧ dI E1 207 17 = 1 ∧ IVm nu sz E1 ∧ Km sz o x E1 ∧ (∀ i, i < 64 → dI E1 245 i = hI (hv i)) ∧ ∀ i, i < sz → ¬ hv i = none → ∃ b : Bool, f_X12_leaks N (nn i) E1 = some (wi b, E1) ∧ (b = true ↔ ¬ ∀ d, d < nu → dS o hv L M i = sh nu D d → FF nu o x D d i) := by
            intro E0 hK0 hd0 h00 h016 hsame hsameL
            rw [mfront E0 hK0 hd0]
            unfold f_X12_verify_b112
            obtain ⟨E1, g⟩ := hts_M (N := N) (by omega) hG hK0
            rcases g with ⟨hv', g1, g2, g3, g4⟩ | ⟨i, w, g1, -⟩
            · have ev : hv' = hv := by rw [g1] at r1; exact Sum.inr.inj r1
              subst ev
              have z0 : dI E1 207 0 = 0 := by rw [g4.i (by unfold Pmh; omega)]; exact h00
              have hK1 : Km sz o x E1 := hK0.kept g4 (fun a j w => by unfold Pmh at w; unfold RKm; omega)
              rw [g2, bS]
              dsimp only
              rw [if_pos (by rw [z0]; decide)]
              obtain ⟨E2, k1, k2, k3⟩ := e_regions (N := N) (by omega) hG (hv := hv') hK1 g3 hV.bd
              rw [k1, bS]
              have hK2' : Km sz o x E2 := hK1.kept k2 (fun a j w => by unfold Prm at w; unfold RKm; omega)
              have back : ∀ a j, ¬ PvM a j → a ≠ 0 → a ≠ 262 → dI E2 a j = dI D5 a j := fun a j h h' h'' => by
                rw [k2.i (by unfold Prm; unfold PvM at h; omega), g4.i (by unfold Pmh; unfold PvM at h; omega)]; exact hsame a j h h' h''
              have hNX : ∀ i, i < sz → o i = 11 → ¬ hv' i = none → dI E2 247 i = dI D3 111 i := fun i hi h11 hn => (k3 i hi ⟨h11, hn⟩).1.uniq ((q4 i hi).1 ⟨h11, ((r3 i (by omega)).2).mpr hn⟩).1
              have hE2' : MEn nu sz o x hv' (fun i q => Rc o x (av (dI D3 111 i)) i q) D E2 := by
                refine ⟨hK2', fun i hi => ?_, fun a k r => ?_, fun i hi h11 hn q hq => ?_, fun v hv'' => ⟨?_, ?_⟩⟩
                · rw [k2.i (by unfold Prm; omega)]; exact g3 i hi
                · rw [back a k (by unfold RIL at r; unfold PvM; omega) (by unfold RIL at r; omega) (by unfold RIL at r; omega)]; exact hLD5 a k r
                · have := (k3 i hi ⟨h11, hn⟩).2 q (by omega)
                  rw [hNX i hi h11 hn] at this
                  exact this
                · rw [back 214 v (by unfold PvM; omega) (by omega) (by omega), cD5.i (by unfold PvC; omega)]; exact ((hMk v hv'').1.1).symm
                · rw [back 215 v (by unfold PvM; omega) (by omega) (by omega), cD5.i (by unfold PvC; omega)]; exact ((hMk v hv'').1.2).symm
              obtain ⟨E3, l1, l2, l3, L', M', l4, l5, l6⟩ := e_rounds (N := N) hN hG hLS hmk hV hE2'
              rw [l1, bS]
              have same := fix_eq hG hV (e := evD nu D) (rg := fun i q => Rc o x (av (dI D3 111 i)) i q) (fx := fxD nu D) (fun v hv'' => by
                have : dI D 190 v = -1 := Classical.not_not.mp (of_decide_eq_false hv'')
                unfold fxD shv
                rw [if_pos this]) u5.2.2.2 u5.2.2.1 u5.2.1 l6 l5.2.2 l5.2.1
              have c4 : Ch (fun a j => a = 207 ∧ j = 17) E3 (sI E3 207 17 1) := Ch.sI ⟨rfl, rfl⟩ Ch.rf
              have hE4 : MEn nu sz o x hv' (fun i q => Rc o x (av (dI D3 111 i)) i q) D (sI E3 207 17 1) := by
                refine ⟨l2.1.kept c4 (fun a j w => by unfold RKm; omega), fun i hi => ?_, fun a k r => ?_, fun i hi h11 hn q hq => ?_, fun v hv'' => ?_⟩
                · rw [c4.i (by omega)]; exact l2.2.1 i hi
                · rw [c4.i (by unfold RIL at r; omega)]; exact l2.2.2.1 a k r
                · rw [c4.i (by omega)]; exact l2.2.2.2.1 i hi h11 hn q hq
                · rw [c4.i (by omega), c4.i (by omega)]; exact l2.2.2.2.2 v hv''
              have hM4 : SM nu sz D L' M' (sI E3 207 17 1) := fun i hi => ⟨by rw [c4.i (by omega)]; exact (l4 i hi).1, fun k hk => by rw [c4.i (by omega)]; exact (l4 i hi).2 k hk⟩
              have call : Ch PvM E0 (sI E3 207 17 1) := (g4.mono (fun a j w => by unfold Pmh at w; unfold PvM; omega)).tr ((k2.mono (fun a j w => by unfold Prm at w; unfold PvM; omega)).tr ((l3.mono (fun a j w => by unfold PlM at w; unfold PvM; omega)).tr (c4.mono (fun a j w => by unfold PvM; omega))))
              have cls : ∀ a j, ¬ PvM a j → a ≠ 0 → a ≠ 262 → dI (sI E3 207 17 1) a j = dI D5 a j := fun a j h h' h'' => by rw [call.i h]; exact hsame a j h h' h''
              have clsL : ∀ a j, ¬ PvM a j → a ≠ 262 → dL (sI E3 207 17 1) a j = dL D5 a j := fun a j h h'' => by rw [call.l h]; exact hsameL a j h''
              refine ⟨sI E3 207 17 1, rfl, call, ?_, ?_, ?_, ?_, hE4.1, hE4.2.1, fun i hi hn => ?_⟩
              · rw [dI_s, if_neg (by omega), l3.i (by unfold PlM; omega), k2.i (by unfold Prm; omega)]; exact z0
              · rw [dI_s, if_neg (by omega), l3.i (by unfold PlM; omega), k2.i (by unfold Prm; omega), g4.i (by unfold Pmh; omega)]; exact h016
              · rw [dI_s, if_pos ⟨rfl, rfl⟩]
              · have eS : sh nu (sI E3 207 17 1) = sh nu D := sh_same (fun a => hE4.2.2.1 2 a (by unfold RIL; omega))
                refine ⟨hv', hV.bd, fun i hi => ⟨?_, hE4.2.1 i hi, ?_⟩, ?_, fun i h hi => ?_⟩
                · rw [cls 113 i (by unfold PvM; omega) (by omega) (by omega)]; exact hE5.2.1 i hi
                · rw [clsL 107 5 (by unfold PvM; omega) (by omega)]; exact h55 i hi
                · rw [cls 108 4 (by unfold PvM; omega) (by omega) (by omega)]; exact hE5.2.2.2.1.1
                · obtain ⟨his, hb, -⟩ := hV.all i h hi
                  obtain ⟨sL', sM'⟩ := same i h hi
                  rw [eS]
                  refine ⟨his, ?_, fun k hk => ?_, fun h11 => ⟨?_, fun q hq => ?_⟩⟩
                  · obtain ⟨d, d1', d2', d3'⟩ := (hM4 i his).1
                    refine ⟨d, d1', ?_, d2'⟩
                    rw [cls 114 i (by unfold PvM; omega) (by omega) (by omega), ((hSC5 i his).1).2, sL', d3']
                  · obtain ⟨d, d1', d2', d3'⟩ := (hM4 i his).2 k (by omega)
                    refine ⟨d, d1', ?_, d2'⟩
                    rw [cls (116 + i) k (by unfold PvM; omega) (by omega) (by omega), ((hSC5 i his).2 k (by omega)).2, sM' k hk, d3']
                  · have o11 : o i = 11 := by
                      have := (hE4.1.2.2 i his).1
                      rw [h11] at this
                      exact ((nn_eq (a := 11) (b := o i) (by omega) (by have := ho i; omega)).mp this).symm
                    rw [cls 111 i (by unfold PvM; omega) (by omega) (by omega), d545 _ _ (by omega), u3.i (by unfold PlC; omega), c4.i (by omega), l3.i (by unfold PlM; omega)]
                    exact (hNX i his o11 (by rw [hi]; simp)).symm
                  · have o11 : o i = 11 := by
                      have := (hE4.1.2.2 i his).1
                      rw [h11] at this
                      exact ((nn_eq (a := 11) (b := o i) (by omega) (by have := ho i; omega)).mp this).symm
                    rw [clsL 112 i (by unfold PvM; omega) (by omega), hE5.2.2.2.1.2 i his o11 (by rw [hi]; simp) q hq, hE4.2.2.2.1 i his o11 (by rw [hi]; simp) q hq, Classical.not_not]
              · obtain ⟨h, hh⟩ : ∃ h, hv' i = some h := by
                  cases e : hv' i with
                  | none => exact absurd e hn
                  | some h => exact ⟨h, rfl⟩
                obtain ⟨d, e1, e2⟩ := hdl i h hh
                obtain ⟨-, -, ht, -⟩ := hV.all i h hh
                have e3 : dS o hv' L' M' i = sh nu D d := by
                  rw [← e2]
                  exact dS_eq hh ht (same i h hh).1.symm (fun k hk => ((same i h hh).2 k hk).symm)
                obtain ⟨b, b1', b2'⟩ := e_leaks (N := N) (by omega) hG hLS hmk hV hE4 hM4 hh e1 e3
                refine ⟨b, b1', ?_⟩
                rw [b2']
                refine not_congr ⟨fun w d' e1' e2' => ?_, fun w => w d e1 e2⟩
                rw [← sh_inj n2 hL hsl e1 e1' (by rw [← e2, ← e2'])]
                exact w
            · rw [g1] at r1; exact absurd r1 (by simp)
          rcases first_bad (fun j => hv j = none ∨ ∀ d, d < nu → dS o hv L M j = sh nu D d → FF nu o x D d j) sz with hok | ⟨b, b1', b2', b3'⟩
          · -- accepted
            have e1 := ((ff_ok (N := N) hz hK5 h55 hPc sz N 0 sz (by omega) (by omega) (Nat.le_refl _) hok).1 rfl)
            have ha : f_X9_accepts N nu K (some c) 190 D = some (1, D5) := by
              rw [f3, show f_X9_flowsFit N nu K D5 = some (1, D5) from e1, bS]
              rfl
            have hcn : bcl (dL D5 107 5) = nn (sm (cR hv) sz 0) := by
              rw [bcl_sm]
              congr 1
              have e2 : sm (cn1 (mm (dL D5 107 5))) (sz + (64 - sz)) 0 = sm (cR hv) sz 0 := by
                rw [sm_add]
                have z1 : sm (cn1 (mm (dL D5 107 5))) sz 0 = sm (cR hv) sz 0 := sm_eq sz 0 (fun j _ hj => by
                  unfold cn1 cR
                  by_cases e : hv j = none
                  · rw [if_pos e, if_neg (fun w => (h55 j (by omega)).mp w e)]
                  · rw [if_neg e, if_pos ((h55 j (by omega)).mpr e)])
                have z2 : sm (cn1 (mm (dL D5 107 5))) (64 - sz) (0 + sz) = sm (fun _ => 0) (64 - sz) (0 + sz) := sm_eq _ _ (fun j h1 h2 => by
                  unfold cn1
                  rw [if_neg]
                  intro w
                  have hj64 : j < 64 := by omega
                  have := (h55 j hj64).mp w
                  cases e : hv j with
                  | none => exact this e
                  | some h => have := (hV.all j h e).1; omega)
                have z3 : ∀ k i, sm (fun _ => 0) k i = 0 := by
                  intro k
                  induction k with
                  | zero => intro i; rfl
                  | succ k ih => intro i; show 0 + sm (fun _ => 0) k (i + 1) = 0; rw [ih]
                rw [z1, z2, z3, Nat.add_zero]
              rw [show sz + (64 - sz) = 64 by omega] at e2
              exact e2
            have c2 : Ch (fun a j => a = 262 ∨ (a = 0 ∧ (j = 13 ∨ j = 14 ∨ j = 15))) D5 (sL (sI (sI (sI D5 0 13 1) 0 14 (-1)) 0 15 (-1)) 262 (0 : Int32).toNatClampNeg (nn (sm (cR hv) sz 0)).toInt64) := Ch.sL (by omega) (Ch.sI (by omega) (Ch.sI (by omega) (Ch.sI (by omega) Ch.rf)))
            have cD6 : Ch Pv D (sL (sI (sI (sI D5 0 13 1) 0 14 (-1)) 0 15 (-1)) 262 (0 : Int32).toNatClampNeg (nn (sm (cR hv) sz 0)).toInt64) := (cD5.mono (Q := Pv) (fun a j w => Or.inr (Or.inl w))).tr (c2.mono (Q := Pv) (fun a j w => w.elim (fun v => Or.inl (Or.inl v)) (fun v => Or.inr (Or.inr (Or.inr v)))))
            obtain ⟨m1, m2, m3, m4, m5, m6, m7⟩ := mstart _ cD6 (fun a j h1 h2 => by rw [c2.i (by omega), cD5.i (by unfold PvC; omega)])
            obtain ⟨E1, k1, k2, k3, k4, k5, k6, k7, k8, k9⟩ := mod _ m2 m3 m5 m6 (fun a j h h' h'' => by rw [m4.i h, c2.i (by omega)]) (fun a j h'' => by rw [show dL (sI (sI (sI (sL (sI (sI (sI D5 0 13 1) 0 14 (-1)) 0 15 (-1)) 262 (0 : Int32).toNatClampNeg (nn (sm (cR hv) sz 0)).toInt64) 207 0 0) 207 16 0) 207 17 0) a j = dL (sL (sI (sI (sI D5 0 13 1) 0 14 (-1)) 0 15 (-1)) 262 (0 : Int32).toNatClampNeg (nn (sm (cR hv) sz 0)).toInt64) a j from rfl, dL_s, if_neg (fun w => h'' w.1)]; rfl)
            have e2 := (fm_ok (N := N) hz k7 k8 hV.bd k9 sz N 0 sz 0 (by omega) (by omega) (Nat.le_refl _) hok).1 rfl
            rw [Nat.zero_add] at e2
            have c7 : Ch PvM E1 (sI (sI (sI E1 207 7 (-1)) 207 8 (-1)) 207 16 1) := Ch.sI (by unfold PvM; omega) (Ch.sI (by unfold PvM; omega) (Ch.sI (by unfold PvM; omega) Ch.rf))
            have c7' : Ch (fun a j => a = 207 ∧ (j = 7 ∨ j = 8 ∨ j = 16)) E1 (sI (sI (sI E1 207 7 (-1)) 207 8 (-1)) 207 16 1) := Ch.sI (by omega) (Ch.sI (by omega) (Ch.sI (by omega) Ch.rf))
            obtain ⟨g1, g2, g3⟩ := vf_fine (n := n) a1 a2 a3 hS hc h10 hs1 hcz ha cD5 v510 hcn (m1.trans (k1.trans e2)) (m4.tr (k2.tr c7)) (by rw [dI_s, if_neg (by omega), dI_s, if_neg (by omega), dI_s, if_pos ⟨rfl, rfl⟩]) (by rw [dI_s, if_neg (by omega), dI_s, if_pos ⟨rfl, rfl⟩]) (by rw [c7'.i (by omega)]; exact k3) (by rw [dI_s, if_pos ⟨rfl, rfl⟩]) (by rw [c7'.i (by omega)]; exact k5)
            refine ⟨_, g1, Or.inr ⟨g2, g3, fun _ => ?_, fun _ => ⟨hv, hV.vok hG n2 (k7.kept c7' (fun a j w => by unfold RKm; omega))⟩⟩⟩
            obtain ⟨w1, w2, w3, w4, w5⟩ := k6
            have eS : sh nu (sI (sI (sI E1 207 7 (-1)) 207 8 (-1)) 207 16 1) = sh nu E1 := sh_same (fun a => c7'.i (by omega))
            refine ⟨w1, w2, fun i hi => ?_, ?_, fun i h hi => ?_⟩
            · rw [c7'.i (by omega), c7'.i (by omega), c7'.l (by omega)]; exact w3 i hi
            · rw [c7'.i (by omega)]; exact w4
            · obtain ⟨y1, y2, y3, y4⟩ := w5 i h hi
              rw [eS, c7'.i (a := 114) (by omega), c7'.i (a := 249) (by omega), c7'.i (a := 212) (by omega), c7'.i (a := 111) (by omega), c7'.i (a := 247) (by omega), c7'.l (a := 112) (by omega)]
              refine ⟨y1, y2, fun k hk => ?_, fun h11 => ⟨(y4 h11).1, fun q hq => ?_⟩⟩
              · rw [c7'.i (by omega), c7'.i (by omega)]; exact y3 k hk
              · rw [c7'.i (by omega)]; exact (y4 h11).2 q hq
          · -- 6 fails
            have hbn : ¬ hv b = none := fun w => b2' (Or.inl w)
            have hbP : ¬ ∀ d, d < nu → dS o hv L M b = sh nu D d → FF nu o x D d b := fun w => b2' (Or.inr w)
            have e1 := (ff_ok (N := N) hz hK5 h55 hPc b N 0 b (by omega) (by omega) (by omega) b3').2 b1' hbn hbP
            have c6 : Ch (fun a j => a = 107 ∧ (j = 11 ∨ j = 12)) D5 (sI (sI D5 107 11 (nn b)) 107 12 6) := Ch.sI (by omega) (Ch.sI (by omega) Ch.rf)
            have ha : f_X9_accepts N nu K (some c) 190 D = some (0, sI (sI D5 107 11 (nn b)) 107 12 6) := by
              rw [f3, show f_X9_flowsFit N nu K D5 = _ from e1, bS]
              rfl
            refine refuse _ (nn b) 6 1 ha (cD5.tr (c6.mono (fun a j w => by unfold PvC; omega))) (by rw [dI_s, if_neg (by omega), dI_s, if_pos ⟨rfl, rfl⟩]) (by rw [dI_s, if_pos ⟨rfl, rfl⟩]) (by rw [c6.i (by omega)]; exact v510) (Or.inr rfl) (fun E0 x1 x2 x3 x4 x5 x6 x7 => ?_)
            sorry
        · -- heights fail
          have ha : f_X9_accepts N nu K (some c) 190 D = some (0, D2) := by
            rw [front, r2, bS]
            rfl
          have m2 : dI D2 107 10 = 0 := by rw [b1.i (by unfold PhC; omega)]; exact mA
          refine refuse D2 (nn i) (nn w) 0 ha cD2 r3 r4 m2 (Or.inl rfl) (fun E0 x1 x2 x3 x4 x5 x6 x7 => ?_)
          obtain ⟨E1, g⟩ := hts_M (N := N) (by omega) hG x1
          rcases g with ⟨hv', g1, -⟩ | ⟨i', w', g1, g2, g3, g4, g5, g6⟩
          · rw [g1] at r1; exact absurd r1 (by simp)
          · rw [g1] at r1
            have e : (i', w') = (i, w) := Sum.inl.inj r1
            have ei : i' = i := congrArg Prod.fst e
            have ew : w' = w := congrArg Prod.snd e
            rw [ei] at g3
            rw [ew] at g4
            refine ⟨E1, ?_, g6.mono (fun a j v => by unfold Pmh at v; unfold PvM; omega), g3, g4, g5, ?_, ?_, ?_⟩
            · rw [mfront E0 x1 x2]
              unfold f_X12_verify_b112
              rw [g2, bS]
              dsimp only
              rw [if_neg (by rw [g5]; decide)]
            · rw [g6.i (by unfold Pmh; omega)]; exact x4
            · rw [g6.i (by unfold Pmh; omega)]; exact x5
            · intro v
              rw [g6.i (by unfold Pmh; omega), x5] at v
              exact absurd v (by decide)
      · -- the end fails
        have e1 := end_no ho hKA hsz hend
        have ha : f_X9_accepts N nu K (some c) 190 D = some (0, sI (sI A 107 11 (nn (sz - 1))) 107 12 2) := by
          rw [acc, show f_X9_argumentsFit N A = some (1, A) from args_ok (N := N) n2 ho dA hKA hfa sz N 0 (by omega) (by omega), bS]
          simp only [n10, reduceIte]
          rw [e1, bS]
          rfl
        have c6 : Ch (fun a j => a = 107 ∧ (j = 11 ∨ j = 12)) A (sI (sI A 107 11 (nn (sz - 1))) 107 12 2) := Ch.sI (by omega) (Ch.sI (by omega) Ch.rf)
        refine refuse _ (nn (sz - 1)) 2 0 ha (cA.tr (c6.mono (fun a j w => by unfold PvC; omega))) (by rw [dI_s, if_neg (by omega), dI_s, if_pos ⟨rfl, rfl⟩]) (by rw [dI_s, if_pos ⟨rfl, rfl⟩]) (by rw [c6.i (by omega)]; exact mA) (Or.inl rfl) (fun E0 x1 x2 x3 x4 x5 x6 x7 => ?_)
        have := (mg_ok (N := N) n2 hsz ho x2 x1 sz N 0 sz (by omega) (by omega) (Nat.le_refl _) hfa).1 rfl
        rw [if_neg hend] at this
        have c7 : Ch (fun a j => a = 207 ∧ (j = 0 ∨ j = 7 ∨ j = 8)) E0 (sI (sI (sI E0 207 7 (nn (sz - 1))) 207 8 2) 207 0 2) := Ch.sI (by omega) (Ch.sI (by omega) (Ch.sI (by omega) Ch.rf))
        refine ⟨_, this, c7.mono (fun a j w => by unfold PvM; omega), by rw [dI_s, if_neg (by omega), dI_s, if_neg (by omega), dI_s, if_pos ⟨rfl, rfl⟩], by rw [dI_s, if_neg (by omega), dI_s, if_pos ⟨rfl, rfl⟩], by rw [dI_s, if_pos ⟨rfl, rfl⟩], by rw [c7.i (by omega)]; exact x4, by rw [c7.i (by omega)]; exact x5, fun v => ?_⟩
        rw [c7.i (by omega), x5] at v
        exact absurd v (by decide)
    · -- an argument fails
      have e1 := args_no (N := N) n2 ho dA hKA hb hbj hbx b N 0 (by omega) (by omega)
      have ha : f_X9_accepts N nu K (some c) 190 D = some (0, sI (sI A 107 11 (nn b)) 107 12 1) := by
        rw [acc, show f_X9_argumentsFit N A = _ from e1, bS]
        rfl
      have c6 : Ch (fun a j => a = 107 ∧ (j = 11 ∨ j = 12)) A (sI (sI A 107 11 (nn b)) 107 12 1) := Ch.sI (by omega) (Ch.sI (by omega) Ch.rf)
      refine refuse _ (nn b) 1 0 ha (cA.tr (c6.mono (fun a j w => by unfold PvC; omega))) (by rw [dI_s, if_neg (by omega), dI_s, if_pos ⟨rfl, rfl⟩]) (by rw [dI_s, if_pos ⟨rfl, rfl⟩]) (by rw [c6.i (by omega)]; exact mA) (Or.inl rfl) (fun E0 x1 x2 x3 x4 x5 x6 x7 => ?_)
      have := (mg_ok (N := N) n2 hsz ho x2 x1 b N 0 b (by omega) (by omega) (by omega) hbj).2 hb hbx
      have c7 : Ch (fun a j => a = 207 ∧ (j = 0 ∨ j = 7 ∨ j = 8)) E0 (sI (sI (sI E0 207 7 (nn b)) 207 8 1) 207 0 2) := Ch.sI (by omega) (Ch.sI (by omega) (Ch.sI (by omega) Ch.rf))
      refine ⟨_, this, c7.mono (fun a j w => by unfold PvM; omega), by rw [dI_s, if_neg (by omega), dI_s, if_neg (by omega), dI_s, if_pos ⟨rfl, rfl⟩], by rw [dI_s, if_neg (by omega), dI_s, if_pos ⟨rfl, rfl⟩], by rw [dI_s, if_pos ⟨rfl, rfl⟩], by rw [c7.i (by omega)]; exact x4, by rw [c7.i (by omega)]; exact x5, fun v => ?_⟩
      rw [c7.i (by omega), x5] at v
      exact absurd v (by decide)
