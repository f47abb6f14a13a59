/-! verify: heights are found -/
theorem v_acc {N nu n c sz : Nat} {K : Nat → Nat} {o : Nat → Nat} {x : Nat → Int32} {hv : Nat → Option Nat} {D D5 : Dat} {y : Nat → Int32} {L : Nat → Nat} {M : Nat → Nat → Nat} (hN : 100000 ≤ N) (a1 a2 a3 : Int32) (hVB : VB nu c sz o x D) (hG : GC nu sz o x) (hV : HV o x sz hv) (r1 : hrun o x sz sz hv0 lk0 = .inr hv) (cD5 : Ch PvC D D5) (hy : ∀ i, i < sz → o i = 11 → ¬ hv i = none → NX o x sz i (y i)) (hy5 : ∀ i, dI D5 111 i = y i) (hE5 : CEn nu c sz o x hv (fun i q => Rc o x (av (y i)) i q) D D5) (hSC5 : SC sz L M D5) (h55 : ∀ i, i < 64 → (mm (dL D5 107 5) i = true ↔ ¬ hv i = none)) (hLD5 : ∀ a k, RIL a k → dI D5 a k = dI D a k) (hdl : ∀ i h, hv i = some h → ∃ d, d < nu ∧ dS o hv L M i = sh nu D d) (u5 : FoundC nu sz o x hv (fun i q => Rc o x (av (y i)) i q) D L M) (hK5 : Kc c sz o x D5) (hPc : ∀ i, i < sz → ¬ hv i = none → ∃ b : Bool, f_X9_flowFits N nu K (nn i) D5 = some (wi b, D5) ∧ (b = true ↔ ∀ d, d < nu → dS o hv L M i = sh nu D d → FF nu o x D d i)) (v510 : dI D5 107 10 = 1) (f3 : f_X9_accepts N nu K (some c) 190 D = (f_X9_flowsFit N nu K D5).bind (fun p14 => if p14.1 &&& 1 = p14.1 then some (p14.1, p14.2) else none)) (hok : ∀ j, j < sz → hv j = none ∨ ∀ d, d < nu → dS o hv L M j = sh nu D d → FF nu o x D d j) : VG N nu n K D a1 a2 a3 sz := by
  obtain ⟨hS, hL, hMk, hc, h10, ⟨hsz, hz⟩, hms, hsl, hs1, hcz, ho, hoD, hxD, hmk⟩ := id hVB
  obtain ⟨⟨n1, n2⟩, ⟨d1, d2⟩, -⟩ := id hS
  have hLS : LatS nu D := ⟨⟨n1, n2⟩, hL, hsl⟩
  have e1 := ((ff_ok (N := N) hz hK5 h55 hPc sz N 0 sz (by omega) (by omega) (Nat.le_refl _) hok).1 rfl)
  have ha : f_X9_accepts N nu K (some c) 190 D = some (1, D5) := by
    rw [f3, show f_X9_flowsFit N nu K D5 = some (1, D5) from e1, bS]
    exact if_pos b1_1
  have hcn : bcl (dL D5 107 5) = nn (sm (cR hv) sz 0) := by
    rw [bcl_sm]
    refine congrArg nn ?_
    have e2 : sm (cn1 (mm (dL D5 107 5))) (sz + (64 - sz)) 0 = sm (cR hv) sz 0 := by
      rw [sm_add]
      have z1 : sm (cn1 (mm (dL D5 107 5))) sz 0 = sm (cR hv) sz 0 := sm_eq sz 0 (fun j _ hj => by
        unfold cn1 cR
        by_cases e : hv j = none
        · rw [if_pos e, if_neg (fun w => (h55 j (by omega)).mp w e)]
        · rw [if_neg e, if_pos ((h55 j (by omega)).mpr e)])
      have z2 : sm (cn1 (mm (dL D5 107 5))) (64 - sz) (0 + sz) = sm (fun _ => 0) (64 - sz) (0 + sz) := sm_eq _ _ (fun j h1 h2 => by
        unfold cn1
        rw [if_neg]
        intro w
        have hj64 : j < 64 := by omega
        have := (h55 j hj64).mp w
        cases e : hv j with
        | none => exact this e
        | some h => have := (hV.all j h e).1; omega)
      have z3 : ∀ k i, sm (fun _ => 0) k i = 0 := by
        intro k
        induction k with
        | zero => intro i; rfl
        | succ k ih => intro i; show 0 + sm (fun _ => 0) k (i + 1) = 0; rw [ih]
      rw [z1, z2, z3, Nat.add_zero]
    rw [show sz + (64 - sz) = 64 by omega] at e2
    exact e2
  have c2 : Ch (fun a j => a = 262 ∨ (a = 0 ∧ (j = 13 ∨ j = 14 ∨ j = 15))) D5 (sL (sI (sI (sI D5 0 13 1) 0 14 (-1)) 0 15 (-1)) 262 (0 : Int32).toNatClampNeg (nn (sm (cR hv) sz 0)).toInt64) := Ch.sL (by omega) (Ch.sI (by omega) (Ch.sI (by omega) (Ch.sI (by omega) Ch.rf)))
  have cD6 : Ch Pv D (sL (sI (sI (sI D5 0 13 1) 0 14 (-1)) 0 15 (-1)) 262 (0 : Int32).toNatClampNeg (nn (sm (cR hv) sz 0)).toInt64) := (cD5.mono (Q := Pv) (fun a j w => Or.inr (Or.inl w))).tr (c2.mono (Q := Pv) (fun a j w => w.elim (fun v => Or.inl (Or.inl v)) (fun v => Or.inr (Or.inr (Or.inr v)))))
  obtain ⟨m1, m2, m3, m4, m5, m6, m7⟩ := vm_start (N := N) hVB _ (fun a j h1 h2 => by rw [c2.i (by omega), cD5.i (by unfold PvC; omega)])
  obtain ⟨E1, k1, k2, k3, k4, k5, k6, k7, k8, k9⟩ := v_mod (N := N) hN hVB hG hV r1 cD5 hy hy5 hE5 hSC5 h55 hLD5 hdl u5 _ m2 m3 m5 m6 (fun a j h h' h'' _ => by rw [m4.i h, c2.i (by omega)]) (fun a j h'' => by rw [show dL (sI (sI (sI (sL (sI (sI (sI D5 0 13 1) 0 14 (-1)) 0 15 (-1)) 262 (0 : Int32).toNatClampNeg (nn (sm (cR hv) sz 0)).toInt64) 207 0 0) 207 16 0) 207 17 0) a j = dL (sL (sI (sI (sI D5 0 13 1) 0 14 (-1)) 0 15 (-1)) 262 (0 : Int32).toNatClampNeg (nn (sm (cR hv) sz 0)).toInt64) a j from rfl, dL_s, if_neg (fun w => h'' w.1)]; rfl)
  have e2 := (fm_ok (N := N) hz k7 k8 hV.bd k9 sz N 0 sz 0 (by omega) (by omega) (Nat.le_refl _) hok).1 rfl
  rw [Nat.zero_add] at e2
  have c7 : Ch PvM E1 (sI (sI (sI E1 207 7 (-1)) 207 8 (-1)) 207 16 1) := Ch.sI (by unfold PvM; omega) (Ch.sI (by unfold PvM; omega) (Ch.sI (by unfold PvM; omega) Ch.rf))
  have c7' : Ch (fun a j => a = 207 ∧ (j = 7 ∨ j = 8 ∨ j = 16)) E1 (sI (sI (sI E1 207 7 (-1)) 207 8 (-1)) 207 16 1) := Ch.sI (by omega) (Ch.sI (by omega) (Ch.sI (by omega) Ch.rf))
  obtain ⟨g1, g2, g3⟩ := vf_fine (n := n) a1 a2 a3 hS hc h10 hs1 hcz ha cD5 v510 hcn (m1.trans (k1.trans e2)) (m4.tr (k2.tr c7)) (by rw [dI_s, if_neg (by omega), dI_s, if_neg (by omega), dI_s, if_pos ⟨rfl, rfl⟩]) (by rw [dI_s, if_neg (by omega), dI_s, if_pos ⟨rfl, rfl⟩]) (by rw [c7'.i (by omega)]; exact k3) (by rw [dI_s, if_pos ⟨rfl, rfl⟩]) (by rw [c7'.i (by omega)]; exact k5)
  refine ⟨_, g1, Or.inr ⟨g2, g3, fun _ => ?_, fun _ => ⟨hv, hV.vok hG n2 (k7.kept c7' (fun a j w => by unfold RKm; omega))⟩⟩⟩
  exact IVm.kept hz k6 c7' (fun a j w => Or.inl w.1)
theorem v_six {N nu n c sz : Nat} {K : Nat → Nat} {o : Nat → Nat} {x : Nat → Int32} {hv : Nat → Option Nat} {D D5 : Dat} {y : Nat → Int32} {L : Nat → Nat} {M : Nat → Nat → Nat} (hN : 100000 ≤ N) (a1 a2 a3 : Int32) (hVB : VB nu c sz o x D) (hG : GC nu sz o x) (hV : HV o x sz hv) (r1 : hrun o x sz sz hv0 lk0 = .inr hv) (cD5 : Ch PvC D D5) (hy : ∀ i, i < sz → o i = 11 → ¬ hv i = none → NX o x sz i (y i)) (hy5 : ∀ i, dI D5 111 i = y i) (hE5 : CEn nu c sz o x hv (fun i q => Rc o x (av (y i)) i q) D D5) (hSC5 : SC sz L M D5) (h55 : ∀ i, i < 64 → (mm (dL D5 107 5) i = true ↔ ¬ hv i = none)) (hLD5 : ∀ a k, RIL a k → dI D5 a k = dI D a k) (hdl : ∀ i h, hv i = some h → ∃ d, d < nu ∧ dS o hv L M i = sh nu D d) (u5 : FoundC nu sz o x hv (fun i q => Rc o x (av (y i)) i q) D L M) (hK5 : Kc c sz o x D5) (hPc : ∀ i, i < sz → ¬ hv i = none → ∃ b : Bool, f_X9_flowFits N nu K (nn i) D5 = some (wi b, D5) ∧ (b = true ↔ ∀ d, d < nu → dS o hv L M i = sh nu D d → FF nu o x D d i)) (v510 : dI D5 107 10 = 1) (f3 : f_X9_accepts N nu K (some c) 190 D = (f_X9_flowsFit N nu K D5).bind (fun p14 => if p14.1 &&& 1 = p14.1 then some (p14.1, p14.2) else none)) {b : Nat} (b1' : b < sz) (b2' : ¬ (hv b = none ∨ ∀ d, d < nu → dS o hv L M b = sh nu D d → FF nu o x D d b)) (b3' : ∀ j, j < b → hv j = none ∨ ∀ d, d < nu → dS o hv L M j = sh nu D d → FF nu o x D d j) : VG N nu n K D a1 a2 a3 sz := by
  obtain ⟨hS, hL, hMk, hc, h10, ⟨hsz, hz⟩, hms, hsl, hs1, hcz, ho, hoD, hxD, hmk⟩ := id hVB
  obtain ⟨⟨n1, n2⟩, ⟨d1, d2⟩, -⟩ := id hS
  have hLS : LatS nu D := ⟨⟨n1, n2⟩, hL, hsl⟩
  have hbn : ¬ hv b = none := fun w => b2' (Or.inl w)
  have hbP : ¬ ∀ d, d < nu → dS o hv L M b = sh nu D d → FF nu o x D d b := fun w => b2' (Or.inr w)
  have e1 := (ff_ok (N := N) hz hK5 h55 hPc b N 0 b (by omega) (by omega) (by omega) b3').2 b1' hbn hbP
  have c6 : Ch (fun a j => a = 107 ∧ (j = 11 ∨ j = 12)) D5 (sI (sI D5 107 11 (nn b)) 107 12 6) := Ch.sI (by omega) (Ch.sI (by omega) Ch.rf)
  have ha : f_X9_accepts N nu K (some c) 190 D = some (0, sI (sI D5 107 11 (nn b)) 107 12 6) := by
    rw [f3, show f_X9_flowsFit N nu K D5 = _ from e1, bS]
    exact if_pos b0_1
  refine v_refuse a1 a2 a3 hVB _ (nn b) 6 1 ha (cD5.tr (c6.mono (fun a j w => by unfold PvC; omega))) (by rw [dI_s, if_neg (by omega), dI_s, if_pos ⟨rfl, rfl⟩]) (by rw [dI_s, if_pos ⟨rfl, rfl⟩]) (by rw [c6.i (by omega)]; exact v510) (Or.inr rfl) (fun E0 x1 x2 x3 x4 x5 x6 x7 => ?_)
  obtain ⟨E1, k1, k2, k3, k4, k5, k6, k7, k8, k9⟩ := v_mod (N := N) hN hVB hG hV r1 cD5 hy hy5 hE5 hSC5 h55 hLD5 hdl u5 E0 x1 x2 x3 x4 (fun a j h h' h'' h3 => by rw [x6 a j h, dI_s, if_neg (fun v => h' v.1), dI_s, if_neg (fun v => h' v.1), dI_s, if_neg (fun v => h' v.1), c6.i h3]) (fun a j h'' => by rw [x7]; rfl)
  have e2 := (fm_ok (N := N) hz k7 k8 hV.bd k9 b N 0 b 0 (by omega) (by omega) (by omega) b3').2 b1' hbn hbP
  have c7 : Ch (fun a j => a = 207 ∧ (j = 0 ∨ j = 7 ∨ j = 8)) E1 (sI (sI (sI E1 207 7 (nn b)) 207 8 6) 207 0 2) := Ch.sI (by omega) (Ch.sI (by omega) (Ch.sI (by omega) Ch.rf))
  refine ⟨_, k1.trans e2, k2.tr (c7.mono (fun a j w => by unfold PvM; omega)), by rw [dI_s, if_neg (by omega), dI_s, if_neg (by omega), dI_s, if_pos ⟨rfl, rfl⟩], by rw [dI_s, if_neg (by omega), dI_s, if_pos ⟨rfl, rfl⟩], by rw [dI_s, if_pos ⟨rfl, rfl⟩], by rw [c7.i (by omega)]; exact k4, by rw [c7.i (by omega)]; exact k5, fun _ => IVm.kept hz k6 c7 (fun a j w => Or.inl w.1)⟩
theorem v_good {N nu n c sz : Nat} {K : Nat → Nat} {o : Nat → Nat} {x : Nat → Int32} {D D2 : Dat} {hv : Nat → Option Nat} (hN : 100000 ≤ N) (a1 a2 a3 : Int32) (hVB : VB nu c sz o x D) (hG : GC nu sz o x) (r1 : hrun o x sz sz hv0 lk0 = .inr hv) (hK2 : Kc c sz o x D2) (cD2 : Ch PvC D D2) (r3 : Hc hv D2) (f2 : f_X9_accepts N nu K (some c) 190 D = (f_X6_find N (some c) (dL D2 107 5) D2).bind (fun p10 => (f_X9_findLabels N nu K p10).bind (fun p12 => (f_X9_flowsFit N nu K (sI p12 107 10 1)).bind (fun p14 => if p14.1 &&& 1 = p14.1 then some (p14.1, p14.2) else none)))) : VG N nu n K D a1 a2 a3 sz := by
  obtain ⟨hS, hL, hMk, hc, h10, ⟨hsz, hz⟩, hms, hsl, hs1, hcz, ho, hoD, hxD, hmk⟩ := id hVB
  obtain ⟨⟨n1, n2⟩, ⟨d1, d2⟩, -⟩ := id hS
  have hLS : LatS nu D := ⟨⟨n1, n2⟩, hL, hsl⟩
  have hV : HV o x sz hv := hrun_J hG sz hv0 lk0 (JH0 hG) (by rw [cnt0]; omega) hv r1
  obtain ⟨D3, q1, q2, q3, q4⟩ := e_find (N := N) (by omega) hG (dL D2 107 5) hK2
  have cD3 : Ch PvC D D3 := cD2.tr (q2.mono (fun a j w => by unfold PrC at w; unfold PvC; omega))
  have hK3 : Kc c sz o x D3 := hK2.kept q2 (fun a j w => by unfold PrC at w; unfold RKc; omega)
  have hRg : ∀ i t, ¬ hv i = none → Rc o x (av (dI D3 111 i)) i t → ¬ hv t = none := fun i t hi h => fe_rg hV hi h
  have hE3 : CEn nu c sz o x hv (fun i q => Rc o x (av (dI D3 111 i)) i q) D D3 := by
    refine ⟨hK3, fun i hi => ?_, ⟨?_, fun a => ?_⟩, ⟨q3, fun i hi h11 hn q hq => ?_⟩, fun v => ?_⟩
    · rw [q2.i (by unfold PrC; omega)]; exact (r3 i hi).1
    · rw [cD3.i (by unfold PvC; omega)]; exact d1
    · exact cD3.i (by unfold PvC; omega)
    · have := ((q4 i hi).1 ⟨h11, ((r3 i (by omega)).2).mpr hn⟩).2 q (by omega)
      exact this
    · exact cD3.i (by unfold PvC; omega)
  have h53 : ∀ i, i < 64 → (mm (dL D3 107 5) i = true ↔ ¬ hv i = none) := fun i hi => by rw [q2.l (by unfold PrC; omega)]; exact (r3 i hi).2
  obtain ⟨D4, u1, u2, u3, L, M, u4, u5⟩ := e_labels (N := N) (K := K) hN hG hLS hmk hV hRg hE3 h53
  have c5 : Ch (fun a j => a = 107 ∧ j = 10) D4 (sI D4 107 10 1) := Ch.sI ⟨rfl, rfl⟩ Ch.rf
  have cD5 : Ch PvC D (sI D4 107 10 1) := (cD3.tr (u3.mono (fun a j w => by unfold PlC at w; unfold PvC; omega))).tr (c5.mono (fun a j w => by unfold PvC; omega))
  have v510 : dI (sI D4 107 10 1) 107 10 = 1 := by rw [dI_s, if_pos ⟨rfl, rfl⟩]
  have d545 : ∀ a j, ¬ (a = 107 ∧ j = 10) → dI (sI D4 107 10 1) a j = dI D4 a j := fun a j h => c5.i h
  have dL5 : ∀ a j, dL (sI D4 107 10 1) a j = dL D4 a j := fun a j => rfl
  have f3 : f_X9_accepts N nu K (some c) 190 D = (f_X9_flowsFit N nu K (sI D4 107 10 1)).bind (fun p14 => if p14.1 &&& 1 = p14.1 then some (p14.1, p14.2) else none) := by
    rw [f2, q1, bS, u1, bS]
  generalize sI D4 107 10 1 = D5 at f3 c5 cD5 v510 d545 dL5
  have hK5 : Kc c sz o x D5 := u2.1.kept c5 (fun a j w => by unfold RKc; omega)
  have hE5 : CEn nu c sz o x hv (fun i q => Rc o x (av (dI D3 111 i)) i q) D D5 := by
    refine ⟨hK5, fun i hi => ?_, ⟨?_, fun a => ?_⟩, ⟨?_, fun i hi h11 hn q hq => ?_⟩, fun v => ?_⟩
    · rw [d545 _ _ (by omega)]; exact u2.2.1 i hi
    · rw [d545 _ _ (by omega)]; exact u2.2.2.1.1
    · rw [d545 _ _ (by omega)]; exact u2.2.2.1.2 a
    · rw [d545 _ _ (by omega)]; exact u2.2.2.2.1.1
    · rw [dL5]; exact u2.2.2.2.1.2 i hi h11 hn q hq
    · rw [d545 _ _ (by omega)]; exact u2.2.2.2.2 v
  have hSC5 : SC sz L M D5 := fun i hi => ⟨⟨((u4 i hi).1).1, by rw [d545 _ _ (by omega)]; exact ((u4 i hi).1).2⟩, fun k hk => ⟨((u4 i hi).2 k hk).1, by rw [d545 _ _ (by omega)]; exact ((u4 i hi).2 k hk).2⟩⟩
  have h55 : ∀ i, i < 64 → (mm (dL D5 107 5) i = true ↔ ¬ hv i = none) := fun i hi => by rw [dL5, u3.l (by unfold PlC; omega)]; exact h53 i hi
  have hLD5 : ∀ a k, RIL a k → dI D5 a k = dI D a k := fun a k r => cD5.i (by unfold RIL at r; unfold PvC; omega)
  -- labels of what is taken
  have hdl : ∀ i h, hv i = some h → ∃ d, d < nu ∧ dS o hv L M i = sh nu D d := fun i h hi => by
    obtain ⟨his, hb, ht, -⟩ := hV.all i h hi
    exact dS_vs (o := o) hLS u5.1 his hi hb ht
  have hPc : ∀ i, i < sz → ¬ hv i = none → ∃ b : Bool, f_X9_flowFits N nu K (nn i) D5 = some (wi b, D5) ∧ (b = true ↔ ∀ d, d < nu → dS o hv L M i = sh nu D d → FF nu o x D d i) := fun i hi hn => by
    obtain ⟨h, hh⟩ : ∃ h, hv i = some h := by
      cases e : hv i with
      | none => exact absurd e hn
      | some h => exact ⟨h, rfl⟩
    obtain ⟨d, e1, e2⟩ := hdl i h hh
    obtain ⟨b, g1, g2⟩ := e_flowFits (N := N) (K := K) (by omega) hG hLS hmk hV hE5 hLD5 hSC5 hh e1 e2
    refine ⟨b, g1, ?_⟩
    rw [g2]
    constructor
    · intro w d' e1' e2'
      rw [← sh_inj n2 hL hsl e1 e1' (by rw [← e2, ← e2'])]
      exact w
    · intro w; exact w d e1 e2
  have hy : ∀ i, i < sz → o i = 11 → ¬ hv i = none → NX o x sz i (dI D3 111 i) := fun i hi h11 hn => ((q4 i hi).1 ⟨h11, ((r3 i (by omega)).2).mpr hn⟩).1
  have hy5 : ∀ i, dI D5 111 i = dI D3 111 i := fun i => by rw [d545 _ _ (by omega), u3.i (by unfold PlC; omega)]
  rcases first_bad (fun j => hv j = none ∨ ∀ d, d < nu → dS o hv L M j = sh nu D d → FF nu o x D d j) sz with hok | ⟨b, b1', b2', b3'⟩
  · exact v_acc hN a1 a2 a3 hVB hG hV r1 cD5 hy hy5 hE5 hSC5 h55 hLD5 hdl u5 hK5 hPc v510 f3 hok
  · exact v_six hN a1 a2 a3 hVB hG hV r1 cD5 hy hy5 hE5 hSC5 h55 hLD5 hdl u5 hK5 hPc v510 f3 b1' b2' b3'
