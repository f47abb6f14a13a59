/-! verify -/
/-- what is known where there are maps -/
def IVm (nu sz : Nat) (D : Dat) : Prop := ∃ hv : Nat → Option Nat, Bd hv ∧ (∀ i, i < 64 → dI D 113 i = hI (hv i) ∧ dI D 245 i = hI (hv i) ∧ (mm (dL D 107 5) i = true ↔ ¬ hv i = none)) ∧ dI D 108 4 = nn sz ∧ ∀ i h, hv i = some h → i < sz ∧ (∃ d, d < nu ∧ dI D 114 i = nn (sh nu D d) ∧ dI D 249 i = nn d) ∧ (∀ k, k < 26 + h → ∃ d, d < nu ∧ dI D (116 + i) k = nn (sh nu D d) ∧ dI D 250 (56 * i + k) = nn d) ∧ (dI D 212 i = 11 → dI D 111 i = dI D 247 i ∧ ∀ q, q < sz → (mm (dL D 112 i) q = true ↔ ¬ dI D 248 (64 * i + q) = 0))
theorem IVm.kept {nu sz : Nat} {P : Nat → Nat → Prop} {D D' : Dat} (hz : sz ≤ 64) (h : IVm nu sz D) (c : Ch P D D') (hP : ∀ a j, P a j → a = 207 ∨ Pr a j) : IVm nu sz D' := by
  obtain ⟨w1, w2, w3, w4, w5⟩ := h
  have q : ∀ a j, a ≠ 207 → ¬ Pr a j → ¬ P a j := fun a j h1 h2 v => (hP a j v).elim h1 h2
  have eS : sh nu D' = sh nu D := sh_same (fun a => c.i (q _ _ (by omega) (by unfold Pr; omega)))
  refine ⟨w1, w2, fun i hi => ?_, ?_, fun i h hi => ?_⟩
  · rw [c.i (q _ _ (by omega) (by unfold Pr; omega)), c.i (q _ _ (by omega) (by unfold Pr; omega)), c.l (q _ _ (by omega) (by unfold Pr; omega))]; exact w3 i hi
  · rw [c.i (q _ _ (by omega) (by unfold Pr; omega))]; exact w4
  · obtain ⟨y1, y2, y3, y4⟩ := w5 i h hi
    rw [eS, c.i (a := 114) (q _ _ (by omega) (by unfold Pr; omega)), c.i (a := 249) (q _ _ (by omega) (by unfold Pr; omega)), c.i (a := 212) (q _ _ (by omega) (by unfold Pr; omega)), c.i (a := 111) (q _ _ (by omega) (by unfold Pr; omega)), c.i (a := 247) (q _ _ (by omega) (by unfold Pr; omega)), c.l (a := 112) (q _ _ (by omega) (by unfold Pr; omega))]
    refine ⟨y1, y2, fun k hk => ?_, fun h11 => ⟨(y4 h11).1, fun q' hq => ?_⟩⟩
    · rw [c.i (q _ _ (by omega) (by unfold Pr; omega)), c.i (q _ _ (by omega) (by unfold Pr; omega))]; exact y3 k hk
    · rw [c.i (q _ _ (by omega) (by unfold Pr; omega))]; exact (y4 h11).2 q' hq
theorem dS_eq {o : Nat → Nat} {hv : Nat → Option Nat} {L L' : Nat → Nat} {M M' : Nat → Nat → Nat} {j h : Nat} (hj : hv j = some h) (ht : tk (o j) ≤ h) (h1 : L' j = L j) (h2 : ∀ k, k < 26 + h → M' j k = M j k) : dS o hv L' M' j = dS o hv L M j := by
  have : ∀ n, n ≤ h → tS M' j h n = tS M j h n := by
    intro n
    induction n with
    | zero => intro _; rfl
    | succ n ih =>
      intro hn
      show tS M' j h n ||| M' j (26 + h - (n + 1)) = tS M j h n ||| M j (26 + h - (n + 1))
      rw [ih (by omega), h2 _ (by omega)]
  unfold dS
  rw [hj, h1]
  show L j ||| tS M' j h (tk (o j)) = L j ||| tS M j h (tk (o j))
  rw [this _ ht]
theorem fe_rg {o : Nat → Nat} {x : Nat → Int32} {sz : Nat} {hv : Nat → Option Nat} (hV : HV o x sz hv) {p i t : Nat} (hi : ¬ hv i = none) (h : Rc o x p i t) : ¬ hv t = none := by
  have key : ∀ j q, ¬ hv j = none → nx o x j q → ¬ hv q = none := fun j q hj hq => by
    cases e : hv j with
    | none => exact absurd e hj
    | some h => rw [(hV.all j h e).2.2.2.2 q hq]; simp
  exact Rc.ind (P := fun q => ¬ hv q = none) (fun q h1 _ => key i q hi h1) (fun r q hr h1 _ => key r q hr h1) h
theorem HV.bd {o : Nat → Nat} {x : Nat → Int32} {sz : Nat} {hv : Nat → Option Nat} (hV : HV o x sz hv) : Bd hv := fun i h hi => (hV.2 i h hi).2.1
/-- that there is a VERIFIED code, in the machine's words -/
theorem HV.vok {nu sz : Nat} {o : Nat → Nat} {x : Nat → Int32} (hG : GC nu sz o x) (hn : nu ≤ 6) {hv : Nat → Option Nat} (hV : HV o x sz hv) {D : Dat} (hK : Km sz o x D) : VOK hv sz D := by
  have hz := hG.1.2
  refine ⟨hV.1, fun i h hi => ?_⟩
  obtain ⟨his, hb, ht, hp, hq⟩ := hV.all i h hi
  refine ⟨his, o i, (hK.2.2 i his).1, hG.2.1 i, ht, hp, ⟨fun w => ?_, fun w => ?_⟩, fun w => ?_, fun w => ?_⟩
  · have t := hG.x26 his w
    rw [(hK.2.2 i his).2, t.2, nn_int (by omega)]
    omega
  · have t := hG.xnu his w
    rw [(hK.2.2 i his).2, t.2, nn_int (by omega)]
    omega
  · exact hq (i + 1) (Or.inl ⟨w.1, w.2, rfl⟩)
  · have t := hG.tgt his w
    exact ⟨tg (x i), t.1, by rw [(hK.2.2 i his).2]; exact t.2, hq _ (Or.inr ⟨w, rfl⟩)⟩
def VG (N nu n : Nat) (K : Nat → Nat) (D : Dat) (a1 a2 a3 : Int32) (sz : Nat) : Prop := ∃ D', stp_8 N nu n K D a1 a2 a3 = some (K, D') ∧ (Ch Pr D D' ∨ (Ch Pv D D' ∧ IS nu D' ∧ (dI D' 207 17 = 1 → IVm nu sz D') ∧ (dI D' 207 16 = 1 → ∃ ht, VOK ht sz D')))
/-- what is given at the start -/
def VB (nu c sz : Nat) (o : Nat → Nat) (x : Nat → Int32) (D : Dat) : Prop := IS nu D ∧ Lat nu D ∧ IM nu D ∧ (c = 201 ∨ c = 204) ∧ dR D 0 10 = some c ∧ (1 ≤ sz ∧ sz ≤ 64) ∧ dI D 207 13 = nn sz ∧ dI D 207 5 = 1 ∧ dI D 1 2 = 1 ∧ (¬ dI D c 2 = 0) ∧ (∀ i, o i ≤ 15) ∧ (∀ i, i < sz → dI D 212 i = nn (o i)) ∧ (∀ i, dI D 213 i = x i) ∧ ∀ v, v < 52 → mkOk nu (dI D 190 v)
theorem vm_start {N nu c sz : Nat} {o : Nat → Nat} {x : Nat → Int32} {D : Dat} (hVB : VB nu c sz o x D) (D2 : Dat) (hsame : ∀ a j, 207 ≤ a → a ≠ 262 → dI D2 a j = dI D a j) : f_X12_verify N D2 = f_X12_verify_b37 N N 0 (sI (sI (sI D2 207 0 0) 207 16 0) 207 17 0) ∧ Km sz o x (sI (sI (sI D2 207 0 0) 207 16 0) 207 17 0) ∧ dI (sI (sI (sI D2 207 0 0) 207 16 0) 207 17 0) 207 1 = nn nu ∧ Ch PvM D2 (sI (sI (sI D2 207 0 0) 207 16 0) 207 17 0) ∧ dI (sI (sI (sI D2 207 0 0) 207 16 0) 207 17 0) 207 0 = 0 ∧ dI (sI (sI (sI D2 207 0 0) 207 16 0) 207 17 0) 207 16 = 0 ∧ dI (sI (sI (sI D2 207 0 0) 207 16 0) 207 17 0) 207 17 = 0 := by
  obtain ⟨hS, hL, hMk, hc, h10, ⟨hsz, hz⟩, hms, hsl, hs1, hcz, ho, hoD, hxD, hmk⟩ := id hVB
  obtain ⟨⟨n1, n2⟩, ⟨d1, d2⟩, -⟩ := id hS
  have hLS : LatS nu D := ⟨⟨n1, n2⟩, hL, hsl⟩
  have c0 : Ch PvM D2 (sI (sI (sI D2 207 0 0) 207 16 0) 207 17 0) := Ch.sI (by unfold PvM; omega) (Ch.sI (by unfold PvM; omega) (Ch.sI (by unfold PvM; omega) Ch.rf))
  refine ⟨?_, ⟨hz, ?_, fun i hi => ⟨?_, ?_⟩⟩, ?_, c0, ?_, ?_, ?_⟩
  · have q5 : ¬ dI (sI D2 207 0 0) 207 5 = 0 := by rw [dI_s, if_neg (by omega), hsame 207 5 (by omega) (by omega), hsl]; decide
    have q13 : ¬ dI (sI D2 207 0 0) 207 13 = 0 := by rw [dI_s, if_neg (by omega), hsame 207 13 (by omega) (by omega), hms]; exact ne_op (b := 0) (by omega) (by omega) (by omega)
    unfold f_X12_verify
    rw [if_neg q5, if_neg q13]
  · rw [c0.i (by unfold PvM; omega), hsame 207 13 (by omega) (by omega)]; exact hms
  · rw [c0.i (by unfold PvM; omega), hsame 212 i (by omega) (by omega)]; exact hoD i hi
  · rw [c0.i (by unfold PvM; omega), hsame 213 i (by omega) (by omega)]; exact hxD i
  · rw [c0.i (by unfold PvM; omega), hsame 207 1 (by omega) (by omega)]; exact d2
  · rw [dI_s, if_neg (by omega), dI_s, if_neg (by omega), dI_s, if_pos ⟨rfl, rfl⟩]
  · rw [dI_s, if_neg (by omega), dI_s, if_pos ⟨rfl, rfl⟩]
  · rw [dI_s, if_pos ⟨rfl, rfl⟩]
theorem v_refuse {N nu n c sz : Nat} {K : Nat → Nat} {o : Nat → Nat} {x : Nat → Int32} {D : Dat} (a1 a2 a3 : Int32) (hVB : VB nu c sz o x D) : ∀ (D1 : Dat) (p k mp : Int32), f_X9_accepts N nu K (some c) 190 D = some (0, D1) → Ch PvC D D1 → dI D1 107 11 = p → dI D1 107 12 = k → dI D1 107 10 = mp → b01 mp → (∀ E0 : Dat, Km sz o x E0 → dI E0 207 1 = nn nu → dI E0 207 0 = 0 → dI E0 207 16 = 0 → dI E0 207 17 = 0 → (∀ a j, ¬ PvM a j → dI E0 a j = dI (sI (sI (sI D1 0 13 0) 0 14 p) 0 15 k) a j) → (∀ a j, dL E0 a j = dL D1 a j) → ∃ E, f_X12_verify_b37 N N 0 E0 = some (0, E) ∧ Ch PvM E0 E ∧ dI E 207 7 = p ∧ dI E 207 8 = k ∧ dI E 207 0 = 2 ∧ dI E 207 16 = 0 ∧ dI E 207 17 = mp ∧ (dI E 207 17 = 1 → IVm nu sz E)) → VG N nu n K D a1 a2 a3 sz := by
  obtain ⟨hS, hL, hMk, hc, h10, ⟨hsz, hz⟩, hms, hsl, hs1, hcz, ho, hoD, hxD, hmk⟩ := id hVB
  obtain ⟨⟨n1, n2⟩, ⟨d1, d2⟩, -⟩ := id hS
  have hLS : LatS nu D := ⟨⟨n1, n2⟩, hL, hsl⟩
  intro D1 p k mp ha hc1 hp hk hm hmp hmod
  have c2 : Ch (fun a j => a = 0 ∧ (j = 13 ∨ j = 14 ∨ j = 15)) D1 (sI (sI (sI D1 0 13 0) 0 14 p) 0 15 k) := Ch.sI (by omega) (Ch.sI (by omega) (Ch.sI (by omega) Ch.rf))
  have cD2 : Ch Pv D (sI (sI (sI D1 0 13 0) 0 14 p) 0 15 k) := (hc1.mono (Q := Pv) (fun a j w => Or.inr (Or.inl w))).tr (c2.mono (Q := Pv) (fun a j w => Or.inr (Or.inr (Or.inr w))))
  obtain ⟨m1, m2, m3, m4, m5, m6, m7⟩ := vm_start (N := N) hVB _ (fun a j h1 h2 => by rw [c2.i (by omega), hc1.i (by unfold PvC; omega)])
  obtain ⟨E, e1, e2, e3, e4, e5, e6, e7, e8⟩ := hmod _ m2 m3 m5 m6 m7 (fun a j h => m4.i h) (fun a j => by rfl)
  obtain ⟨f1, f2, f3⟩ := vf_fail (n := n) a1 a2 a3 hS hc h10 hs1 hcz ha hc1 hp hk hm hmp (m1.trans e1) (m4.tr e2) e3 e4 e5 e6 e7
  exact ⟨E, f1, Or.inr ⟨f2, f3, e8, fun w => by rw [e6] at w; exact absurd w (by decide)⟩⟩
