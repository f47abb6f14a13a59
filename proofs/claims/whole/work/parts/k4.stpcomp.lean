/-! compile: the step -/
theorem stp_ok4 {fL : Option (Int32 × (Nat → Nat) × Dat)} {fM : Dat → Option (Int32 × Dat)} {k b : Int32} {K' : Nat → Nat} {D1 D2 : Dat} (h1 : fL = some (k, K', D1)) (h2 : fM D1 = some (b, D2)) (h3 : dI D2 207 0 = k) (h4 : k = 0 → dL D2 262 (0 : Int32).toNatClampNeg = b.toInt64) :
    (fL.bind (fun p => (fM p.2.2).bind (fun q => (f_X12_thrown q.2).bind (fun r => if r.1 = p.1 ∧ (p.1 = 0 → dL r.2 262 (0 : Int32).toNatClampNeg = q.1.toInt64) then some (p.2.1, r.2) else none)))) = some (K', D2) := by
  subst h1
  rw [bS, h2, bS, e_X12_thrown, bS, if_pos ⟨h3, h4⟩]
theorem tx_of {len : Nat} {D : Dat} (hT : IT len D) : TxC len (fun i => (dI D 211 i).toInt.toNat) D ∧ TxM len (fun i => (dI D 211 i).toInt.toNat) D := by
  obtain ⟨h1, ⟨h2, h3⟩, h4⟩ := hT
  have key : ∀ i, i < len → dI D 211 i = nn (dI D 211 i).toInt.toNat ∧ 32 ≤ (dI D 211 i).toInt.toNat ∧ (dI D 211 i).toInt.toNat ≤ 126 := fun i hi => by
    obtain ⟨-, a2, a3⟩ := h4 i hi
    obtain ⟨k, hk, e⟩ := nn_of (show 0 ≤ (dI D 211 i).toInt by omega)
    have : (dI D 211 i).toInt = (k : Int) := by rw [e, nn_int hk]
    refine ⟨?_, by omega, by omega⟩
    rw [this, Int.toNat_natCast]
    exact e
  exact ⟨⟨h1, h2, fun i hi => ⟨(h4 i hi).1.trans (key i hi).1, (key i hi).2⟩⟩, ⟨h1, h3, fun i hi => key i hi⟩⟩
theorem tx_mv {len : Nat} {tx : Nat → Nat} {D X : Dat} (h1 : dI X 207 10 = dI D 207 10) (h2 : ∀ i, dI X 211 i = dI D 211 i) (hT : TxM len tx D) : TxM len tx X := ⟨hT.1, by rw [h1]; exact hT.2.1, fun i hi => by rw [h2]; exact hT.2.2 i hi⟩
theorem kd_old {n : Nat} {K K' : Nat → Nat} (h : ∀ a, a < n → K' a = K a) {a : Nat} (ha : a < n) : kd K' a = kd K a := by
  unfold kd
  by_cases q : a < NS
  · rw [if_pos q, if_pos q]
  · rw [if_neg q, if_neg q, h a ha]
/-- both refused: what held still holds -/
theorem inv_bad {nu n P CO h : Nat} {K K' : Nat → Nat} {D C' X : Dat} (hI : Inv nu K D) (hn : NS ≤ n) (hlt : ∀ a, kd K a < 19 → a < n) (hP : P = 191 ∨ P = 196) (hCO : CO = 201 ∨ CO = 204) (hh : h ≤ 1) (r8 : dR D 0 8 = some (387 - P)) (r10 : dR D 0 10 = some (405 - CO)) (hp : (dI D 207 18 = 0 ∧ dI D 207 19 = nn h) ∨ (dI D 207 18 = 1 ∧ dI D 207 19 = nn (1 - h))) (hK : ∀ a, a < n → K' a = K a) (hC : Ch (CFc P CO n) D C') (hX : Ch (CFm h) C' X) (e32 : dI C' 3 2 = 0) (e10 : dI X 207 10 = 0) (e14 : dI C' 0 14 = dI X 207 7) (e15 : dI C' 0 15 = dI X 207 8) : Inv nu K' X := by
  have hnv : 266 ≤ n := hn
  have hA : Ch (fun a k => CFc P CO n a k ∨ CFm h a k) D X := Ch.tr (hC.mono (fun a k q => Or.inl q)) (hX.mono (fun a k q => Or.inr q))
  have iX : ∀ a k, a ≤ 206 → dI X a k = dI C' a k := fun a k ha => hX.i (by unfold CFm HC; omega)
  obtain ⟨i1, i2, ⟨c, sz, j1, j2, j3⟩, i4, -, i6, P0, h0, p1, p2, ⟨p3, p4⟩, p5, p6⟩ := hI
  obtain ⟨c1, ⟨c2, -⟩, csz, -⟩ := id j1
  have ec : c = 405 - CO := Option.some.inj (c2.symm.trans r10)
  have eP : P0 = 387 - P := Option.some.inj (p3.symm.trans r8)
  have q1 : ∀ a k, CFc P CO n a k ∨ CFm h a k → ¬ RIS a k ∨ (a = 0 ∧ (k = 14 ∨ k = 15)) ∨ (a = 207 ∧ (k = 7 ∨ k = 8)) := fun a k q => by
    unfold CFc CFm HC at q
    unfold RIS
    omega
  have q2 : ∀ a k, CFc P CO n a k ∨ CFm h a k → ¬ RIL a k := fun a k q => by
    unfold CFc CFm HC at q
    unfold RIL
    omega
  have q3 : ∀ a k, CFc P CO n a k ∨ CFm h a k → ¬ ((a = 0 ∧ (k = 10 ∨ k = 11)) ∨ (a = 207 ∧ k = 13) ∨ a = 212 ∨ a = 213 ∨ (c ≤ a ∧ a ≤ c + 2)) := fun a k q => by
    unfold CFc CFm HC at q
    omega
  have q4 : ∀ a k, CFc P CO n a k ∨ CFm h a k → ¬ RVm a k := fun a k q => by
    unfold CFc CFm HC at q
    unfold RVm
    omega
  have q5 : ∀ a k, CFc P CO n a k ∨ CFm h a k → ¬ RIM a k := fun a k q => by
    unfold CFc CFm HC at q
    unfold RIM
    omega
  have q6 : ∀ a k, CFc P CO n a k ∨ CFm h a k → ¬ RIA a k := fun a k q => by
    unfold CFc CFm HC at q
    unfold RIA
    omega
  have q7 : ∀ k, k = 5 ∨ (16 ≤ k ∧ k ≤ 19) → dI X 207 k = dI D 207 k := fun k hk => hA.i (by unfold CFc CFm HC; omega)
  refine ⟨i1.tell hA q1 (by rw [iX 0 14 (by omega)]; exact e14) (by rw [iX 0 15 (by omega)]; exact e15), i2.kept hA q2, ⟨c, sz, j1.kept2 hA q3, fun q => ?_, fun q => ?_⟩, i4.kept hA q5, ⟨0, by omega, ⟨by rw [iX 3 2 (by omega)]; exact e32, e10⟩, fun i hi => absurd hi (by omega)⟩, i6.kept hA q6, P0, h0, p1, p2, ⟨?_, ?_⟩, ?_, fun q => ?_⟩
  · rw [q7 16 (by omega)] at q
    obtain ⟨ht, h4⟩ := j2 q
    exact ⟨ht, h4.kept hA (fun a k w r => q4 a k w (by unfold RVm; omega))⟩
  · rw [q7 17 (by omega)] at q
    exact ⟨(j3 q).1.kp2 csz hA q4, by rw [q7 5 (by omega)]; exact (j3 q).2⟩
  · rw [hA.r (by unfold CFc CFm HC; omega)]; exact p3
  · rw [hA.r (by unfold CFc CFm HC; omega)]; exact p4
  · rw [q7 19 (by omega)]; exact p5
  · rw [q7 18 (by omega)] at q
    obtain ⟨nb, cnt, bz, ez, W, Mg, g1, g2, g3, g4⟩ := p6 q
    have g3v : 266 ≤ nb := g3
    have hsum : h0 + h = 1 := by
      rcases hp with ⟨w, -⟩ | ⟨-, w⟩
      · rw [w] at q; exact absurd q (by decide)
      · have := (nn_eq (by omega) (by omega)).mp (p5.symm.trans w)
        omega
    have hnc : ∀ i, i < cnt → nb + i < n := fun i hi => hlt _ (by rw [g2 i hi]; omega)
    refine ⟨nb, cnt, bz, ez, W, Mg, g1.mv (fun a k q => ?_) (fun a k q => rfl), fun i hi => by rw [kd_old hK (hnc i hi)]; exact g2 i hi, g3, fun a k q => ?_⟩
    · have ha : (P0 ≤ a ∧ a ≤ P0 + 4) ∨ (266 ≤ a ∧ a < n) := by
        rcases q with w | w
        · exact Or.inl w
        · have := hnc (a - nb) (by omega)
          exact Or.inr (by omega)
      have hno : ¬ (CFc P CO n a k ∨ CFm h a k) := by
        unfold CFc CFm HC
        omega
      exact ⟨hA.i hno, hA.r hno⟩
    · have hno : ¬ (CFc P CO n a k ∨ CFm h a k) := by
        unfold HC at q
        unfold CFc CFm HC
        omega
      rw [hA.i hno]
      exact g4 a k q
theorem inv_good {nu n P CO h : Nat} {K K' : Nat → Nat} {D C' D1 X : Dat} {v : Sum Nat Int32} {b : Int32} (hI : Inv nu K D) (hn : NS ≤ n) (hP : P = 191 ∨ P = 196) (hCO : CO = 201 ∨ CO = 204) (hh : h ≤ 1) (h1 : ∀ a k, dI D1 a k = dI C' a k) (h2 : ∀ a k, dR D1 a k = dR C' a k) (e32 : dI C' 3 2 = 0) (e10 : dI X 207 10 = 0) (e14 : dI C' 0 14 = dI X 207 7) (e15 : dI C' 0 15 = dI X 207 8) (hG : CGood nu n P CO h D D1 v b K' C' X) : Inv nu K' X := by
  have hnv : 266 ≤ n := hn
  obtain ⟨⟨-, -, hC, hX⟩, ⟨r8, r9, r10, r11⟩, ⟨f12, f13, f10⟩, ⟨m18, m16, m17, m19⟩, ⟨sz, z1, ⟨z2, z3⟩, z4⟩, hM, cnt, bz, ez, W, g1, g2⟩ := hG
  have iX : ∀ a k, a ≤ 206 ∨ 263 ≤ a → dI X a k = dI C' a k := fun a k ha => by rw [hX.i (by unfold CGm CFm HC; omega)]; exact h1 a k
  have rX : ∀ a k, a ≤ 206 ∨ 263 ≤ a → dR X a k = dR C' a k := fun a k ha => by rw [hX.r (by unfold CGm CFm HC; omega)]; exact h2 a k
  obtain ⟨⟨s1, ⟨s2, s3⟩, -, -, -, -, ⟨s4, s5⟩⟩, i2, -, -, -, i6, -⟩ := hI
  -- from the beginning to the end
  have eA : ∀ a k, ¬ (CGc P CO n a k ∨ CGm h a k) → dI X a k = dI D a k := fun a k q => by
    rw [hX.i (fun w => q (Or.inr w)), h1, hC.i (fun w => q (Or.inl w))]
  have e1 : ∀ k, k ≤ 2 → dI X 1 k = dI D 1 k := fun k hk => eA 1 k (by unfold CGc CGm CFc CFm HC; omega)
  have e7 : ∀ k, k = 1 ∨ k = 5 ∨ k = 6 → dI X 207 k = dI D 207 k := fun k hk => eA 207 k (by unfold CGc CGm CFc CFm HC; omega)
  refine ⟨⟨s1, ⟨by rw [e1 0 (by omega)]; exact s2, by rw [e7 1 (by omega)]; exact s3⟩, ⟨?_, ?_⟩, ⟨?_, ?_⟩, ⟨?_, ?_⟩, ⟨?_, ?_⟩, ⟨?_, ?_⟩⟩, i2.eqs (fun a k r => eA a k ?_), ⟨CO, sz, ⟨hCO, ⟨?_, ?_⟩, z1, ⟨?_, z3⟩, fun i hi => ?_⟩, fun q => ?_, fun q => ?_⟩, fun x hx => ?_, ⟨0, by omega, ⟨?_, e10⟩, fun i hi => absurd hi (by omega)⟩, ?_, P, h, hP, hh, ⟨?_, ?_⟩, m19, fun _ => ⟨n, cnt, bz, ez, W, X, ?_, fun i hi => ?_, hn, fun a k q => rfl⟩⟩
  · rw [iX 0 14 (by omega)]; exact e14
  · rw [iX 0 15 (by omega)]; exact e15
  · rw [iX 0 13 (by omega), f13, m16]
  · exact Or.inl m16
  · rw [iX 0 12 (by omega), f12, m18]
  · exact Or.inr m18
  · rw [iX 107 10 (by omega), f10, m17]
  · exact Or.inl m17
  · rw [e1 2 (by omega), e7 5 (by omega)]; exact s4
  · rw [e7 5 (by omega)]; exact s5
  · unfold RIL at r
    unfold CGc CGm CFc CFm HC
    omega
  · rw [rX 0 10 (by omega)]; exact r10
  · rw [rX 0 11 (by omega)]; exact r11
  · rw [iX CO 2 (by omega)]; exact z2
  · rw [iX (CO + 1) i (by omega), iX (CO + 2) i (by omega)]; exact z4 i hi
  · rw [m16] at q; exact absurd q (by decide)
  · rw [m17] at q; exact absurd q (by decide)
  · rw [iX 190 x (by omega), iX 190 (26 + x) (by omega)]; exact hM x hx
  · rw [iX 3 2 (by omega)]; exact e32
  · have hq : ∀ a k, RIA a k → ¬ (CGc P CO n a k ∨ CGm h a k) := fun a k r => by
      unfold RIA at r
      unfold CGc CGm CFc CFm HC
      omega
    obtain ⟨⟨y1, y2⟩, ⟨y3, y4⟩, y5, y6⟩ := i6
    have e : ∀ a k, RIA a k → dI X a k = dI D a k := fun a k r => eA a k (hq a k r)
    refine ⟨⟨fun k hk => ?_, fun k hk => ?_⟩, ⟨fun k hk => ?_, fun k hk => ?_⟩, fun k hk => ?_, ?_⟩
    · rw [e 182 k (by unfold RIA; omega), e 259 k (by unfold RIA; omega)]; exact y1 k hk
    · rw [e 182 (26 + k) (by unfold RIA; omega), e 260 k (by unfold RIA; omega)]; exact y2 k hk
    · rw [e 184 k (by unfold RIA; omega), e 254 k (by unfold RIA; omega)]; exact y3 k hk
    · rw [e 187 k (by unfold RIA; omega), e 257 k (by unfold RIA; omega)]; exact y4 k hk
    · rw [e 185 k (by unfold RIA; omega), e 255 k (by unfold RIA; omega), e 188 k (by unfold RIA; omega), e 258 k (by unfold RIA; omega)]; exact y5 k hk
    · rw [e 181 9 (by unfold RIA; omega), e 207 83 (by unfold RIA; omega)]; exact y6
  · rw [rX 0 8 (by omega)]; exact r8
  · rw [rX 0 9 (by omega)]; exact r9
  · exact g1.mv (fun a k q => ⟨iX a k (by omega), rX a k (by omega)⟩) (fun a k q => rfl)
  · unfold kd
    rw [if_neg (by omega)]
    exact g2 i hi
theorem stp_compile {N nu n : Nat} {K : Nat → Nat} {D : Dat} (hN : 1000 ≤ N) (hNb : bW 47 + 2 ≤ N) (hNt : tW 47 + 2 ≤ N) (a1 a2 a3 : Int32) (hI : Inv nu K D) (hn : NS ≤ n) (hlt : ∀ a, kd K a < 19 → a < n) : ∃ K' D', stp_4 N nu n K D a1 a2 a3 = some (K', D') ∧ Inv nu K' D' := by
  obtain ⟨⟨hnu, ⟨d1, d2⟩, -, -, ⟨-, b18⟩, -, ⟨s1, s2⟩⟩, i2, ⟨c, sz, j1, -⟩, -, ⟨len, i5⟩, -, P0, h0, p1, p2, ⟨p3, p4⟩, p5, -⟩ := id hI
  obtain ⟨c1, ⟨c2, c3⟩, -⟩ := id j1
  have hnv : 266 ≤ n := hn
  unfold stp_4
  rcases s2 with s2 | s2
  · refine ⟨K, mf D 1, stp_ok4 (k := 1) (b := 0) (D1 := D) ?_ (mcp_0 s2) (by rw [dI_mf, if_pos ⟨rfl, rfl⟩]) (fun q => absurd q (by decide)), hI.pr (Ch.mf (by unfold Pr; omega) Ch.rf)⟩
    unfold f_L_compile
    rw [cpC_0 (s1.trans s2)]
    rfl
  · obtain ⟨P, hP, eP⟩ : ∃ P, (P = 191 ∨ P = 196) ∧ P0 = 387 - P := ⟨387 - P0, by omega, by omega⟩
    obtain ⟨CO, hCO, eC⟩ : ∃ CO, (CO = 201 ∨ CO = 204) ∧ c = 405 - CO := ⟨405 - c, by omega, by omega⟩
    obtain ⟨h, hh, hp⟩ : ∃ h, h ≤ 1 ∧ ((dI D 207 18 = 0 ∧ dI D 207 19 = nn h) ∨ (dI D 207 18 = 1 ∧ dI D 207 19 = nn (1 - h))) := by
      rcases b18 with w | w
      · exact ⟨h0, p2, Or.inl ⟨w, p5⟩⟩
      · exact ⟨1 - h0, by omega, Or.inr ⟨w, by rw [show 1 - (1 - h0) = h0 by omega]; exact p5⟩⟩
    obtain ⟨tC, tM⟩ := tx_of i5
    have r8 : dR D 0 8 = some (387 - P) := by rw [← eP]; exact p3
    have r9 : dR D 0 9 = some P := by rw [p4, eP, show 387 - (387 - P) = P by omega]
    have r10 : dR D 0 10 = some (405 - CO) := by rw [← eC]; exact c2
    have r11 : dR D 0 11 = some CO := by rw [c3, eC, show 405 - (405 - CO) = CO by omega]
    have mk : ∀ X : Dat, (∀ a k, a ≤ 2 ∨ (207 ≤ a ∧ a ≤ 261) → dI X a k = dI D a k) → CH nu n P CO h len (fun i => (dI D 211 i).toInt.toNat) D X := fun X hX => ⟨⟨hP, hCO, hh, hn⟩, ⟨r8, r9, r10, r11⟩, ⟨⟨hnu, i2, s2⟩, fun a k r => hX a k (by unfold RIL at r; omega)⟩, ⟨s1.trans s2, d1, by rw [hX 207 1 (by omega)]; exact d2⟩, ⟨tC, tx_mv (hX 207 10 (by omega)) (fun i => hX 211 i (by omega)) tM⟩, by rw [hX 207 18 (by omega), hX 207 19 (by omega)]; exact hp⟩
    obtain ⟨v, K', C', b0, X0, e1, -, -, -, -, e5⟩ := cp_all (K := K) hN hNb hNt (mk D (fun a k _ => rfl))
    have hC' : ∀ a k, a ≤ 2 ∧ a ≠ 0 ∨ (207 ≤ a ∧ a ≤ 261) → dI C' a k = dI D a k := fun a k ha => by
      rcases e5 with ⟨-, -, -, -, -, w, -⟩ | ⟨⟨-, -, w, -⟩, -⟩
      · exact w.i (by unfold CFc; omega)
      · exact w.i (by unfold CGc CFc; omega)
    -- the model, over what the class has left
    have go : ∀ D1 : Dat, (∀ a k, dI D1 a k = dI C' a k) → ∃ b X, f_X12_compile N D1 = some (b, X) ∧ CRes nu n P CO h K D D1 v b K' C' X := fun D1 h1 => by
      have hE : CH nu n P CO h len (fun i => (dI D 211 i).toInt.toNat) D D1 := by
        have := mk D (fun a k _ => rfl)
        exact ⟨this.1, this.2.1, ⟨this.2.2.1.1, fun a k r => by rw [h1]; exact hC' a k (by unfold RIL at r; omega)⟩, ⟨s1.trans s2, d1, by rw [h1, hC' 207 1 (by omega)]; exact d2⟩, ⟨tC, tx_mv (by rw [h1]; exact hC' 207 10 (by omega)) (fun i => by rw [h1]; exact hC' 211 i (by omega)) tM⟩, by rw [h1, h1, hC' 207 18 (by omega), hC' 207 19 (by omega)]; exact hp⟩
      obtain ⟨v', K'', C'', b, X, f1, f2, f3⟩ := cp_all (K := K) hN hNb hNt hE
      have e := Option.some.inj (e1.symm.trans f1)
      obtain ⟨rfl, e6⟩ := Prod.mk.inj e
      obtain ⟨rfl, rfl⟩ := Prod.mk.inj e6
      exact ⟨b, X, f2, f3⟩
    cases v with
    | inl e =>
      obtain ⟨b, X, f2, f3, ⟨g1, g2⟩, ⟨g3, g4⟩, f5⟩ := go C' (fun a k => rfl)
      rcases f5 with ⟨e', j, w1, w2, w3, w4, w5⟩ | ⟨⟨w, -⟩, -⟩
      · obtain rfl : e = e' := Sum.inl.inj w1
        refine ⟨K', X, stp_ok4 (k := j) (b := b) (D1 := C') ?_ f2 w3 (fun q => ?_), inv_bad hI hn hlt hP hCO hh r8 r10 hp f3 w4 w5 g1 g2 g3 g4⟩
        · unfold f_L_compile
          rw [e1]
          rcases w2 with ⟨rfl, rfl⟩ | ⟨rfl, rfl⟩ | ⟨rfl, rfl⟩
          · rfl
          · rfl
          · rfl
        · rcases w2 with ⟨-, rfl⟩ | ⟨-, rfl⟩ | ⟨-, rfl⟩
          · exact absurd q (by decide)
          · exact absurd q (by decide)
          · exact absurd q (by decide)
      · exact absurd w (by simp)
    | inr r =>
      obtain ⟨b, X, f2, f3, ⟨g1, g2⟩, ⟨g3, g4⟩, f5⟩ := go (sL C' 262 (0 : Int32).toNatClampNeg r.toInt64) (fun a k => rfl)
      rcases f5 with ⟨e', j, w1, -⟩ | hG
      · exact absurd w1 (by simp)
      · obtain rfl : r = b := Sum.inr.inj hG.1.1
        refine ⟨K', X, stp_ok4 (k := 0) (b := r) (D1 := sL C' 262 (0 : Int32).toNatClampNeg r.toInt64) ?_ f2 hG.1.2.1 (fun _ => ?_), inv_good (C' := C') (D1 := sL C' 262 (0 : Int32).toNatClampNeg r.toInt64) hI hn hP hCO hh (fun a k => rfl) (fun a k => rfl) g1 g2 g3 g4 hG⟩
        · unfold f_L_compile
          rw [e1]
          rfl
        · rw [hG.1.2.2.2.l (by unfold CGm CFm HC; omega), dL_s, if_pos ⟨rfl, rfl⟩]
