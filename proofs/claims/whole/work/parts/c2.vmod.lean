/-! verify: the model's way -/
theorem v_mfront {N nu sz : Nat} {o : Nat → Nat} {x : Nat → Int32} (hN : 1000 ≤ N) (hG : GC nu sz o x) (hn : nu ≤ 6) (E0 : Dat) (hK0 : Km sz o x E0) (hd0 : dI E0 207 1 = nn nu) : f_X12_verify_b37 N N 0 E0 = f_X12_verify_b112 N E0 := by
  obtain ⟨⟨h1, hz⟩, ho, hfa, hend⟩ := hG
  have := (mg_ok (N := N) hn h1 ho hd0 hK0 sz N 0 sz (by omega) (by omega) (Nat.le_refl _) hfa).1 rfl
  rw [if_pos hend] at this
  exact this
theorem v_mod {N nu c sz : Nat} {o : Nat → Nat} {x : Nat → Int32} {hv : Nat → Option Nat} {D D5 : Dat} {y : Nat → Int32} {L : Nat → Nat} {M : Nat → Nat → Nat} (hN : 100000 ≤ N) (hVB : VB nu c sz o x D) (hG : GC nu sz o x) (hV : HV o x sz hv) (r1 : hrun o x sz sz hv0 lk0 = .inr hv) (cD5 : Ch PvC D D5) (hy : ∀ i, i < sz → o i = 11 → ¬ hv i = none → NX o x sz i (y i)) (hy5 : ∀ i, dI D5 111 i = y i) (hE5 : CEn nu c sz o x hv (fun i q => Rc o x (av (y i)) i q) D D5) (hSC5 : SC sz L M D5) (h55 : ∀ i, i < 64 → (mm (dL D5 107 5) i = true ↔ ¬ hv i = none)) (hLD5 : ∀ a k, RIL a k → dI D5 a k = dI D a k) (hdl : ∀ i h, hv i = some h → ∃ d, d < nu ∧ dS o hv L M i = sh nu D d) (u5 : FoundC nu sz o x hv (fun i q => Rc o x (av (y i)) i q) D L M) : ∀ E0 : Dat, Km sz o x E0 → dI E0 207 1 = nn nu → dI E0 207 0 = 0 → dI E0 207 16 = 0 → (∀ a j, ¬ PvM a j → a ≠ 0 → a ≠ 262 → ¬ (a = 107 ∧ (j = 11 ∨ j = 12)) → dI E0 a j = dI D5 a j) → (∀ a j, a ≠ 262 → dL E0 a j = dL D5 a j) → ∃ E1, f_X12_verify_b37 N N 0 E0 = f_X12_verify_b143 N N 0 0 E1 ∧ Ch PvM E0 E1 ∧ dI E1 207 0 = 0 ∧ dI E1 207 16 = 0 ∧ dI E1 207 17 = 1 ∧ IVm nu sz E1 ∧ Km sz o x E1 ∧ (∀ i, i < 64 → dI E1 245 i = hI (hv i)) ∧ ∀ i, i < sz → ¬ hv i = none → ∃ b : Bool, f_X12_leaks N (nn i) E1 = some (wi b, E1) ∧ (b = true ↔ ¬ ∀ d, d < nu → dS o hv L M i = sh nu D d → FF nu o x D d i) := by
  obtain ⟨hS, hL, hMk, hc, h10, ⟨hsz, hz⟩, hms, hsl, hs1, hcz, ho, hoD, hxD, hmk⟩ := id hVB
  obtain ⟨⟨n1, n2⟩, ⟨d1, d2⟩, -⟩ := id hS
  have hLS : LatS nu D := ⟨⟨n1, n2⟩, hL, hsl⟩
  intro E0 hK0 hd0 h00 h016 hsame hsameL
  rw [v_mfront (N := N) (by omega) hG n2 E0 hK0 hd0]
  unfold f_X12_verify_b112
  obtain ⟨E1, g⟩ := hts_M (N := N) (by omega) hG hK0
  rcases g with ⟨hv', g1, g2, g3, g4⟩ | ⟨i, w, g1, -⟩
  · have ev : hv' = hv := by rw [g1] at r1; exact Sum.inr.inj r1
    subst ev
    have z0 : dI E1 207 0 = 0 := by rw [g4.i (by unfold Pmh; omega)]; exact h00
    have hK1 : Km sz o x E1 := hK0.kept g4 (fun a j w => by unfold Pmh at w; unfold RKm; omega)
    rw [g2, bS]
    dsimp only
    rw [if_pos (by rw [z0]; decide)]
    obtain ⟨E2, k1, k2, k3⟩ := e_regions (N := N) (by omega) hG (hv := hv') hK1 g3 hV.bd
    rw [k1, bS]
    have hK2' : Km sz o x E2 := hK1.kept k2 (fun a j w => by unfold Prm at w; unfold RKm; omega)
    have back : ∀ a j, ¬ PvM a j → a ≠ 0 → a ≠ 262 → a ≠ 107 → dI E2 a j = dI D5 a j := fun a j h h' h'' h3 => by
      rw [k2.i (by unfold Prm; unfold PvM at h; omega), g4.i (by unfold Pmh; unfold PvM at h; omega)]; exact hsame a j h h' h'' (fun v => h3 v.1)
    have hNX : ∀ i, i < sz → o i = 11 → ¬ hv' i = none → dI E2 247 i = y i := fun i hi h11 hn => (k3 i hi ⟨h11, hn⟩).1.uniq (hy i hi h11 hn)
    have hE2' : MEn nu sz o x hv' (fun i q => Rc o x (av (y i)) i q) D E2 := by
      refine ⟨hK2', fun i hi => ?_, fun a k r => ?_, fun i hi h11 hn q hq => ?_, fun v hv'' => ⟨?_, ?_⟩⟩
      · rw [k2.i (by unfold Prm; omega)]; exact g3 i hi
      · rw [back a k (by unfold RIL at r; unfold PvM; omega) (by unfold RIL at r; omega) (by unfold RIL at r; omega) (by unfold RIL at r; omega)]; exact hLD5 a k r
      · have := (k3 i hi ⟨h11, hn⟩).2 q (by omega)
        rw [hNX i hi h11 hn] at this
        exact this
      · rw [back 214 v (by unfold PvM; omega) (by omega) (by omega) (by omega), cD5.i (by unfold PvC; omega)]; exact ((hMk v hv'').1.1).symm
      · rw [back 215 v (by unfold PvM; omega) (by omega) (by omega) (by omega), cD5.i (by unfold PvC; omega)]; exact ((hMk v hv'').1.2).symm
    obtain ⟨E3, l1, l2, l3, L', M', l4, l5, l6⟩ := e_rounds (N := N) hN hG hLS hmk hV hE2'
    rw [l1, bS]
    have same := fix_eq hG hV (e := evD nu D) (rg := fun i q => Rc o x (av (y i)) i q) (fx := fxD nu D) (fun v hv'' => by
      have : dI D 190 v = -1 := Classical.not_not.mp (of_decide_eq_false hv'')
      unfold fxD shv
      rw [if_pos this]) u5.2.2.2 u5.2.2.1 u5.2.1 l6 l5.2.2 l5.2.1
    have c4 : Ch (fun a j => a = 207 ∧ j = 17) E3 (sI E3 207 17 1) := Ch.sI ⟨rfl, rfl⟩ Ch.rf
    have hE4 : MEn nu sz o x hv' (fun i q => Rc o x (av (y i)) i q) D (sI E3 207 17 1) := by
      refine ⟨l2.1.kept c4 (fun a j w => by unfold RKm; omega), fun i hi => ?_, fun a k r => ?_, fun i hi h11 hn q hq => ?_, fun v hv'' => ?_⟩
      · rw [c4.i (by omega)]; exact l2.2.1 i hi
      · rw [c4.i (by unfold RIL at r; omega)]; exact l2.2.2.1 a k r
      · rw [c4.i (by omega)]; exact l2.2.2.2.1 i hi h11 hn q hq
      · rw [c4.i (by omega), c4.i (by omega)]; exact l2.2.2.2.2 v hv''
    have hM4 : SM nu sz D L' M' (sI E3 207 17 1) := fun i hi => ⟨by rw [c4.i (by omega)]; exact (l4 i hi).1, fun k hk => by rw [c4.i (by omega)]; exact (l4 i hi).2 k hk⟩
    have call : Ch PvM E0 (sI E3 207 17 1) := (g4.mono (fun a j w => by unfold Pmh at w; unfold PvM; omega)).tr ((k2.mono (fun a j w => by unfold Prm at w; unfold PvM; omega)).tr ((l3.mono (fun a j w => by unfold PlM at w; unfold PvM; omega)).tr (c4.mono (fun a j w => by unfold PvM; omega))))
    have cls : ∀ a j, ¬ PvM a j → a ≠ 0 → a ≠ 262 → a ≠ 107 → dI (sI E3 207 17 1) a j = dI D5 a j := fun a j h h' h'' h3 => by rw [call.i h]; exact hsame a j h h' h'' (fun v => h3 v.1)
    have clsL : ∀ a j, ¬ PvM a j → a ≠ 262 → dL (sI E3 207 17 1) a j = dL D5 a j := fun a j h h'' => by rw [call.l h]; exact hsameL a j h''
    refine ⟨sI E3 207 17 1, rfl, call, ?_, ?_, ?_, ?_, hE4.1, hE4.2.1, fun i hi hn => ?_⟩
    · rw [dI_s, if_neg (by omega), l3.i (by unfold PlM; omega), k2.i (by unfold Prm; omega)]; exact z0
    · rw [dI_s, if_neg (by omega), l3.i (by unfold PlM; omega), k2.i (by unfold Prm; omega), g4.i (by unfold Pmh; omega)]; exact h016
    · rw [dI_s, if_pos ⟨rfl, rfl⟩]
    · have eS : sh nu (sI E3 207 17 1) = sh nu D := sh_same (fun a => hE4.2.2.1 2 a (by unfold RIL; omega))
      refine ⟨hv', hV.bd, fun i hi => ⟨?_, hE4.2.1 i hi, ?_⟩, ?_, fun i h hi => ?_⟩
      · rw [cls 113 i (by unfold PvM; omega) (by omega) (by omega) (by omega)]; exact hE5.2.1 i hi
      · rw [clsL 107 5 (by unfold PvM; omega) (by omega)]; exact h55 i hi
      · rw [cls 108 4 (by unfold PvM; omega) (by omega) (by omega) (by omega)]; exact hE5.2.2.2.1.1
      · obtain ⟨his, hb, -⟩ := hV.all i h hi
        obtain ⟨sL', sM'⟩ := same i h hi
        rw [eS]
        refine ⟨his, ?_, fun k hk => ?_, fun h11 => ⟨?_, fun q hq => ?_⟩⟩
        · obtain ⟨d, d1', d2', d3'⟩ := (hM4 i his).1
          refine ⟨d, d1', ?_, d2'⟩
          rw [cls 114 i (by unfold PvM; omega) (by omega) (by omega) (by omega), ((hSC5 i his).1).2, sL', d3']
        · obtain ⟨d, d1', d2', d3'⟩ := (hM4 i his).2 k (by omega)
          refine ⟨d, d1', ?_, d2'⟩
          rw [cls (116 + i) k (by unfold PvM; omega) (by omega) (by omega) (by omega), ((hSC5 i his).2 k (by omega)).2, sM' k hk, d3']
        · have o11 : o i = 11 := by
            have := (hE4.1.2.2 i his).1
            rw [h11] at this
            exact ((nn_eq (a := 11) (b := o i) (by omega) (by have := ho i; omega)).mp this).symm
          rw [cls 111 i (by unfold PvM; omega) (by omega) (by omega) (by omega), hy5, c4.i (by omega), l3.i (by unfold PlM; omega)]
          exact (hNX i his o11 (by rw [hi]; simp)).symm
        · have o11 : o i = 11 := by
            have := (hE4.1.2.2 i his).1
            rw [h11] at this
            exact ((nn_eq (a := 11) (b := o i) (by omega) (by have := ho i; omega)).mp this).symm
          rw [clsL 112 i (by unfold PvM; omega) (by omega), hE5.2.2.2.1.2 i his o11 (by rw [hi]; simp) q hq, hE4.2.2.2.1 i his o11 (by rw [hi]; simp) q hq, Classical.not_not]
    · obtain ⟨h, hh⟩ : ∃ h, hv' i = some h := by
        cases e : hv' i with
        | none => exact absurd e hn
        | some h => exact ⟨h, rfl⟩
      obtain ⟨d, e1, e2⟩ := hdl i h hh
      obtain ⟨-, -, ht, -⟩ := hV.all i h hh
      have e3 : dS o hv' L' M' i = sh nu D d := by
        rw [← e2]
        exact dS_eq hh ht (same i h hh).1.symm (fun k hk => ((same i h hh).2 k hk).symm)
      obtain ⟨b, b1', b2'⟩ := e_leaks (N := N) (by omega) hG hLS hmk hV hE4 hM4 hh e1 e3
      refine ⟨b, b1', ?_⟩
      rw [b2']
      refine not_congr ⟨fun w d' e1' e2' => ?_, fun w => w d e1 e2⟩
      rw [← sh_inj n2 hL hsl e1 e1' (by rw [← e2, ← e2'])]
      exact w
  · rw [g1] at r1; exact absurd r1 (by simp)
