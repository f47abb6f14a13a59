/-! the whole invariant -/
def IP (nu : Nat) (K : Nat → Nat) (D : Dat) : Prop := ∃ P h, (P = 191 ∨ P = 196) ∧ h ≤ 1 ∧ (dR D 0 8 = some P ∧ dR D 0 9 = some (387 - P)) ∧ dI D 207 19 = nn h ∧ (dI D 207 18 = 1 → ∃ nb cnt bz ez W Mg, PG nu P nb h cnt bz ez W D Mg ∧ (∀ i, i < cnt → kd K (nb + i) = 7) ∧ NS ≤ nb ∧ ∀ a k, HC h a k → dI D a k = dI Mg a k)
def RIP (a k : Nat) : Prop := (a = 0 ∧ (k = 8 ∨ k = 9)) ∨ (191 ≤ a ∧ a ≤ 200) ∨ 266 ≤ a ∨ (216 ≤ a ∧ a ≤ 228) ∨ (a = 207 ∧ (k = 18 ∨ k = 19))
theorem IP.kept {nu : Nat} {K : Nat → Nat} {Q : Nat → Nat → Prop} {D D' : Dat} (h : Ch Q D D') (hq : ∀ a k, Q a k → ¬ RIP a k) (hI : IP nu K D) : IP nu K D' := by
  have e : ∀ a k, RIP a k → dI D' a k = dI D a k := fun a k r => h.i (fun q => hq a k q r)
  have er : ∀ a k, RIP a k → dR D' a k = dR D a k := fun a k r => h.r (fun q => hq a k q r)
  obtain ⟨P, hf, p1, p2, ⟨p3, p4⟩, p5, p6⟩ := hI
  refine ⟨P, hf, p1, p2, ⟨by rw [er 0 8 (by unfold RIP; omega)]; exact p3, by rw [er 0 9 (by unfold RIP; omega)]; exact p4⟩, by rw [e 207 19 (by unfold RIP; omega)]; exact p5, fun q => ?_⟩
  rw [e 207 18 (by unfold RIP; omega)] at q
  obtain ⟨nb, cnt, bz, ez, W, Mg, g1, g2, g3, g4⟩ := p6 q
  have g3v : 266 ≤ nb := g3
  exact ⟨nb, cnt, bz, ez, W, Mg, g1.mv (fun a k q => ⟨e a k (by unfold RIP; omega), er a k (by unfold RIP; omega)⟩) (fun a k q => rfl), g2, g3, fun a k q => by rw [e a k (by unfold RIP; unfold HC at q; omega)]; exact g4 a k q⟩
theorem IP.clr {nu : Nat} {K : Nat → Nat} {Q : Nat → Nat → Prop} {D D' : Dat} (h : Ch Q D D') (hq : ∀ a k, Q a k → ¬ (a = 0 ∧ (k = 8 ∨ k = 9)) ∧ ¬ (a = 207 ∧ k = 19)) (h18 : dI D' 207 18 = 0) (hI : IP nu K D) : IP nu K D' := by
  obtain ⟨P, hf, p1, p2, ⟨p3, p4⟩, p5, -⟩ := hI
  refine ⟨P, hf, p1, p2, ⟨by rw [h.r (fun q => (hq _ _ q).1 (by omega))]; exact p3, by rw [h.r (fun q => (hq _ _ q).1 (by omega))]; exact p4⟩, by rw [h.i (fun q => (hq _ _ q).2 (by omega))]; exact p5, fun q => ?_⟩
  rw [h18] at q
  exact absurd q (by decide)
def RVm (a k : Nat) : Prop := a = 2 ∨ (a = 107 ∧ k = 5) ∨ (a = 108 ∧ k = 4) ∨ (111 ≤ a ∧ a ≤ 114) ∨ (116 ≤ a ∧ a ≤ 179) ∨ a = 212 ∨ a = 213 ∨ a = 245 ∨ (247 ≤ a ∧ a ≤ 250)
theorem IVm.kp2 {nu sz : Nat} {Q : Nat → Nat → Prop} {D D' : Dat} (hz : sz ≤ 64) (h : Ch Q D D') (hq : ∀ a k, Q a k → ¬ RVm a k) (hI : IVm nu sz D) : IVm nu sz D' := by
  have e : ∀ a k, RVm a k → dI D' a k = dI D a k := fun a k r => h.i (fun q => hq a k q r)
  have el : ∀ a k, RVm a k → dL D' a k = dL D a k := fun a k r => h.l (fun q => hq a k q r)
  have es : sh nu D' = sh nu D := sh_same (fun a => e 2 a (by unfold RVm; omega))
  obtain ⟨hv, h1, h2, h3, h4⟩ := hI
  refine ⟨hv, h1, fun i hi => ?_, ?_, fun i x q => ?_⟩
  · rw [e 113 i (by unfold RVm; omega), e 245 i (by unfold RVm; omega), el 107 5 (by unfold RVm; omega)]; exact h2 i hi
  · rw [e 108 4 (by unfold RVm; omega)]; exact h3
  · obtain ⟨a1, a2, a3, a4⟩ := h4 i x q
    have i64 : i < 64 := by omega
    rw [es, e 114 i (by unfold RVm; omega), e 249 i (by unfold RVm; omega), e 212 i (by unfold RVm; omega), e 111 i (by unfold RVm; omega), e 247 i (by unfold RVm; omega), el 112 i (by unfold RVm; omega)]
    refine ⟨a1, a2, fun k hk => ?_, fun q1 => ⟨(a4 q1).1, fun q2 hq2 => ?_⟩⟩
    · rw [e (116 + i) k (by unfold RVm; omega), e 250 (56 * i + k) (by unfold RVm; omega)]; exact a3 k hk
    · rw [e 248 (64 * i + q2) (by unfold RVm; omega)]; exact (a4 q1).2 q2 hq2
theorem VOK.kept {sz : Nat} {ht : Nat → Option Nat} {Q : Nat → Nat → Prop} {D D' : Dat} (h : Ch Q D D') (hq : ∀ a k, Q a k → ¬ (a = 212 ∨ a = 213)) (hI : VOK ht sz D) : VOK ht sz D' := by
  have e : ∀ a k, a = 212 ∨ a = 213 → dI D' a k = dI D a k := fun a k r => h.i (fun q => hq a k q r)
  refine ⟨hI.1, fun i x q => ?_⟩
  obtain ⟨v1, o, v2, v3, v4, v5, v6, v7⟩ := hI.2 i x q
  unfold VNx at v7 ⊢
  rw [e 212 i (Or.inl rfl), e 213 i (Or.inr rfl)]
  exact ⟨v1, o, v2, v3, v4, v5, v6, v7⟩
theorem IC.kept2 {c sz : Nat} {Q : Nat → Nat → Prop} {D D' : Dat} (h : Ch Q D D') (hq : ∀ a k, Q a k → ¬ ((a = 0 ∧ (k = 10 ∨ k = 11)) ∨ (a = 207 ∧ k = 13) ∨ a = 212 ∨ a = 213 ∨ (c ≤ a ∧ a ≤ c + 2))) (hI : IC c sz D) : IC c sz D' := by
  have e : ∀ a k, (a = 0 ∧ (k = 10 ∨ k = 11)) ∨ (a = 207 ∧ k = 13) ∨ a = 212 ∨ a = 213 ∨ (c ≤ a ∧ a ≤ c + 2) → dI D' a k = dI D a k ∧ dR D' a k = dR D a k := fun a k r => ⟨h.i (fun q => hq a k q r), h.r (fun q => hq a k q r)⟩
  obtain ⟨h1, h2, h3, h4, h5⟩ := hI
  refine ⟨h1, ?_, h3, ?_, fun i hi => ?_⟩
  · rw [(e 0 10 (by omega)).2, (e 0 11 (by omega)).2]; exact h2
  · rw [(e c 2 (by omega)).1, (e 207 13 (by omega)).1]; exact h4
  · rw [(e (c + 1) i (by omega)).1, (e (c + 2) i (by omega)).1, (e 212 i (by omega)).1, (e 213 i (by omega)).1]; exact h5 i hi
theorem IS.tell {nu : Nat} {Q : Nat → Nat → Prop} {D D' : Dat} (h : Ch Q D D') (hq : ∀ a k, Q a k → ¬ RIS a k ∨ (a = 0 ∧ (k = 14 ∨ k = 15)) ∨ (a = 207 ∧ (k = 7 ∨ k = 8))) (e1 : dI D' 0 14 = dI D' 207 7) (e2 : dI D' 0 15 = dI D' 207 8) (hI : IS nu D) : IS nu D' := by
  have e : ∀ a k, RIS a k → ¬ ((a = 0 ∧ (k = 14 ∨ k = 15)) ∨ (a = 207 ∧ (k = 7 ∨ k = 8))) → dI D' a k = dI D a k := fun a k r s => h.i (fun q => by
    rcases hq a k q with u | u
    · exact u r
    · exact s u)
  obtain ⟨h1, h2, -, h4, h5, h6, h7⟩ := hI
  refine ⟨h1, ?_, ⟨e1, e2⟩, ?_, ?_, ?_, ?_⟩
  · rw [e 1 0 (by unfold RIS; omega) (by omega), e 207 1 (by unfold RIS; omega) (by omega)]; exact h2
  · rw [e 0 13 (by unfold RIS; omega) (by omega), e 207 16 (by unfold RIS; omega) (by omega)]; exact h4
  · rw [e 0 12 (by unfold RIS; omega) (by omega), e 207 18 (by unfold RIS; omega) (by omega)]; exact h5
  · rw [e 107 10 (by unfold RIS; omega) (by omega), e 207 17 (by unfold RIS; omega) (by omega)]; exact h6
  · rw [e 1 2 (by unfold RIS; omega) (by omega), e 207 5 (by unfold RIS; omega) (by omega)]; exact h7
def ICV (nu : Nat) (D : Dat) : Prop := ∃ c sz, IC c sz D ∧ (dI D 207 16 = 1 → ∃ ht, VOK ht sz D) ∧ (dI D 207 17 = 1 → IVm nu sz D ∧ dI D 207 5 = 1)
def Inv (nu : Nat) (K : Nat → Nat) (D : Dat) : Prop := IS nu D ∧ Lat nu D ∧ ICV nu D ∧ IM nu D ∧ (∃ len, IT len D) ∧ IA D ∧ IP nu K D
theorem ICV.kept {nu : Nat} {Q : Nat → Nat → Prop} {D D' : Dat} (h : Ch Q D D') (hq : ∀ a k, Q a k → ¬ RIC a k ∧ ¬ RVm a k ∧ ¬ (a = 207 ∧ (k = 5 ∨ k = 16 ∨ k = 17))) (hI : ICV nu D) : ICV nu D' := by
  obtain ⟨c, sz, h1, h2, h3⟩ := hI
  refine ⟨c, sz, h1.kept h (fun a k q => (hq a k q).1), fun q => ?_, fun q => ?_⟩
  · rw [h.i (fun w => (hq _ _ w).2.2 (by omega))] at q
    obtain ⟨ht, h4⟩ := h2 q
    exact ⟨ht, h4.kept h (fun a k w r => (hq a k w).2.1 (by unfold RVm; omega))⟩
  · rw [h.i (fun w => (hq _ _ w).2.2 (by omega))] at q
    exact ⟨(h3 q).1.kp2 h1.2.2.1 h (fun a k w => (hq a k w).2.1), by rw [h.i (fun w => (hq _ _ w).2.2 (by omega))]; exact (h3 q).2⟩
/-- only the answer and the model's 'failed' have changed -/
theorem Inv.pr {nu : Nat} {K : Nat → Nat} {D D' : Dat} (h : Ch Pr D D') (hI : Inv nu K D) : Inv nu K D' := by
  obtain ⟨i1, i2, i3, i4, ⟨len, i5⟩, i6, i7⟩ := hI
  exact ⟨i1.kept h (fun a k q => by unfold Pr at q; unfold RIS; omega), i2.kept h (fun a k q => by unfold Pr at q; unfold RIL; omega), i3.kept h (fun a k q => by unfold Pr at q; unfold RIC RVm; omega), i4.kept h (fun a k q => by unfold Pr at q; unfold RIM; omega), ⟨len, i5.kept h (fun a k q => by unfold Pr at q; unfold RIT; omega)⟩, i6.kept h (fun a k q => by unfold Pr at q; unfold RIA; omega), i7.kept h (fun a k q => by unfold Pr at q; unfold RIP; omega)⟩
