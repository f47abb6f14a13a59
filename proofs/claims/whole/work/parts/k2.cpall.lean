/-! compile over two memories -/
def CH (nu n P CO h len : Nat) (tx : Nat → Nat) (C X : Dat) : Prop := ((P = 191 ∨ P = 196) ∧ (CO = 201 ∨ CO = 204) ∧ h ≤ 1 ∧ NS ≤ n) ∧ (dR C 0 8 = some (387 - P) ∧ dR C 0 9 = some P ∧ dR C 0 10 = some (405 - CO) ∧ dR C 0 11 = some CO) ∧ (LatS nu C ∧ ∀ a k, RIL a k → dI X a k = dI C a k) ∧ (dI C 1 2 = 1 ∧ dI C 1 0 = nn nu ∧ dI X 207 1 = nn nu) ∧ (TxC len tx C ∧ TxM len tx X) ∧ ((dI X 207 18 = 0 ∧ dI X 207 19 = nn h) ∨ (dI X 207 18 = 1 ∧ dI X 207 19 = nn (1 - h)))
def CFc (P CO n a k : Nat) : Prop := ((a = 3 ∧ 2 ≤ k ∧ (k ≤ 9 ∨ k = 13) ∧ k ≠ 3) ∨ (263 ≤ a ∧ a ≤ 265) ∨ a = 5 ∨ (P ≤ a ∧ a ≤ P + 4) ∨ n ≤ a) ∨ ((a = 6 ∧ (k = 1 ∨ k = 5)) ∨ (7 ≤ a ∧ a ≤ 105)) ∨ ((a = 106 ∧ k ≤ 2) ∨ (a = CO ∧ k = 2) ∨ a = CO + 1 ∨ a = CO + 2) ∨ (a = 0 ∧ (k = 14 ∨ k = 15))
def CFm (h a k : Nat) : Prop := (a = 207 ∧ (k = 0 ∨ k = 7 ∨ k = 8 ∨ k = 10 ∨ (33 ≤ k ∧ k ≤ 61))) ∨ HC h a k ∨ (229 ≤ a ∧ a ≤ 244)
theorem dc_CF {P CO n a k : Nat} (q : DCt P n a k) : CFc P CO n a k := by unfold DCt DC at q; unfold CFc; omega
theorem fc_CF {P CO n a k : Nat} (q : FC a k) : CFc P CO n a k := by unfold FC at q; unfold CFc; omega
theorem tc_CF {P CO n a k : Nat} (q : TC CO a k) : CFc P CO n a k := by unfold TC at q; unfold CFc; omega
theorem dm_CF {h a k : Nat} (q : DM h a k) : CFm h a k := by unfold DM at q; unfold CFm HC; omega
theorem fm_CF {h a k : Nat} (q : FM a k) : CFm h a k := by unfold FM at q; unfold CFm; omega
theorem tm_CF {h a k : Nat} (q : TM a k) : CFm h a k := by unfold TM at q; unfold CFm; omega
def CGc (P CO n a k : Nat) : Prop := CFc P CO n a k ∨ (a = 0 ∧ 8 ≤ k ∧ k ≤ 13) ∨ a = 190 ∨ (a = 107 ∧ k = 10)
def CGm (h a k : Nat) : Prop := CFm h a k ∨ (a = 207 ∧ (k = 13 ∨ (16 ≤ k ∧ k ≤ 19))) ∨ (212 ≤ a ∧ a ≤ 215)
/-- both refused, for the same reason, at the same place -/
def CBad (P CO n h : Nat) (C X : Dat) (v : Sum Nat Int32) (C' X' : Dat) : Prop := ∃ (e : Nat) (j : Int32), v = .inl e ∧ ((e = 4 ∧ j = 2) ∨ (e = 2 ∧ j = 3) ∨ (e = 3 ∧ j = 4)) ∧ dI X' 207 0 = j ∧ Ch (CFc P CO n) C C' ∧ Ch (CFm h) X X'
def CCode (CO : Nat) (C' X' : Dat) : Prop := ∃ sz, sz ≤ 64 ∧ (dI C' CO 2 = nn sz ∧ dI X' 207 13 = nn sz) ∧ ∀ i, i < sz → dI C' (CO + 1) i = dI X' 212 i ∧ dI C' (CO + 2) i = dI X' 213 i ∧ 0 ≤ (dI X' 212 i).toInt ∧ (dI X' 212 i).toInt ≤ 15
def CMark (nu : Nat) (C' X' : Dat) : Prop := ∀ x, x < 26 → (dI C' 190 x = dI X' 214 x ∧ dI C' 190 (26 + x) = dI X' 215 x) ∧ (-1 ≤ (dI X' 214 x).toInt ∧ (dI X' 214 x).toInt < nu) ∧ (-1 ≤ (dI X' 215 x).toInt ∧ (dI X' 215 x).toInt < nu)
def CGood (nu n P CO h : Nat) (C X : Dat) (v : Sum Nat Int32) (b : Int32) (K' : Nat → Nat) (C' X' : Dat) : Prop := (v = .inr b ∧ dI X' 207 0 = 0 ∧ Ch (CGc P CO n) C C' ∧ Ch (CGm h) X X') ∧ (dR C' 0 8 = some P ∧ dR C' 0 9 = some (387 - P) ∧ dR C' 0 10 = some CO ∧ dR C' 0 11 = some (405 - CO)) ∧ (dI C' 0 12 = 1 ∧ dI C' 0 13 = 0 ∧ dI C' 107 10 = 0) ∧ (dI X' 207 18 = 1 ∧ dI X' 207 16 = 0 ∧ dI X' 207 17 = 0 ∧ dI X' 207 19 = nn h) ∧ CCode CO C' X' ∧ CMark nu C' X' ∧ ∃ cnt bz ez W, PG nu P n h cnt bz ez W C' X' ∧ ∀ i, i < cnt → K' (n + i) = 7
def CRes (nu n P CO h : Nat) (K : Nat → Nat) (C X : Dat) (v : Sum Nat Int32) (b : Int32) (K' : Nat → Nat) (C' X' : Dat) : Prop := (∀ a, a < n → K' a = K a) ∧ (dI C' 3 2 = 0 ∧ dI X' 207 10 = 0) ∧ (dI C' 0 14 = dI X' 207 7 ∧ dI C' 0 15 = dI X' 207 8) ∧ (CBad P CO n h C X v C' X' ∨ CGood nu n P CO h C X v b K' C' X')
/-- the last stage: the translation, and what is taken over -/
theorem cp_tr {N nu n P CO h len cnt bz ez : Nat} {tx W K K' : Nat → Nat} {C X C4 M1 M3 : Dat} (hN : 1000 ≤ N) (hNt : tW 47 + 2 ≤ N) (hH : CH nu n P CO h len tx C X) (h5 : dI X 207 5 = 1) (hK : ∀ a, a < n → K' a = K a) (hK7 : ∀ i, i < cnt → K' (n + i) = 7) (hp : f_X12_parse N (sI X 207 0 0) = some M1) (h40 : dI M1 207 40 = -1) (hf : f_X12_flow N (sI M1 207 10 0) = some M3) (h4 : dI M3 207 40 = -1) (hG : PG nu P n h cnt bz ez W C4 M3) (hR : Ro nu P C4 M3) (h35 : dI M3 207 35 = nn h) (cC : Ch (CFc P CO n) C C4) (cM : Ch (CFm h) X M3) (h32 : dI C4 3 2 = 0) (h10 : dI M3 207 10 = 0) (h0 : dI M3 207 0 = 0) : ∃ v C' b X', cpU N nu K' C4 = some (v, K', C') ∧ f_X12_compile N X = some (b, X') ∧ CRes nu n P CO h K C X v b K' C' X' := by
  obtain ⟨⟨hP, hCO, hh, hn⟩, ⟨r8, r9, r10, r11⟩, ⟨hL, -⟩, -⟩ := id hH
  have hnv : 266 ≤ n := hn
  have d0 : ∀ k, k < 14 → dR C4 0 k = dR C 0 k := fun k hk => cC.r (by unfold CFc; omega)
  -- the translation
  have ceB : Ch (fun a k => (a = 106 ∧ k ≤ 2) ∨ (a = CO ∧ k = 2)) C4 (trB P CO C4) := Ch.sI (by omega) (Ch.sI (by omega) (Ch.sR (by omega) (Ch.sR (by omega) Ch.rf)))
  have cmB : Ch (fun a k => a = 207 ∧ (k = 61 ∨ k = 55)) M3 (sI (sI M3 207 61 0) 207 55 0) := Ch.sI (by omega) (Ch.sI (by omega) Ch.rf)
  have hTE : TE nu P CO n h cnt bz ez W K' (trB P CO C4) (sI (sI M3 207 61 0) 207 55 0) := by
    refine ⟨⟨?_, hP⟩, ⟨?_, hCO⟩, hG.mv (fun a k q => ⟨ceB.i (by omega), ceB.r (by omega)⟩) (fun a k q => cmB.i (by unfold HC at q; omega)), fun i hi => ?_, ⟨hh, ?_⟩, hn⟩
    · unfold trB
      rw [dR_sI, dR_sI, dR_s, if_neg (by omega), dR_s, if_pos ⟨rfl, rfl⟩]
    · unfold trB
      rw [dR_sI, dR_sI, dR_s, if_pos ⟨rfl, rfl⟩]
    · unfold kd
      rw [if_neg (by omega)]
      exact hK7 i hi
    · rw [cmB.i (by omega)]; exact h35
  have z1 : dI (trB P CO C4) CO 2 = 0 := by
    unfold trB
    rw [dI_s, if_neg (by omega), dI_s, if_pos ⟨rfl, rfl⟩]
  have z2 : dI (trB P CO C4) 106 2 = 0 := by
    unfold trB
    rw [dI_s, if_pos ⟨rfl, rfl⟩]
  have z3 : dI (sI (sI M3 207 61 0) 207 55 0) 207 61 = 0 := by rw [dI_s, if_neg (by omega), dI_s, if_pos ⟨rfl, rfl⟩]
  have z4 : dI (sI (sI M3 207 61 0) 207 55 0) 207 55 = 0 := by rw [dI_s, if_pos ⟨rfl, rfl⟩]
  obtain ⟨C6, M5, c, t1, t2, t3⟩ := tr_all (N := N) hN hNt hTE z1 z2 z3 z4
  have ht : f_X12_translate N M3 = some M5 := by
    have e35 : dI (sI (sI M3 207 61 0) 207 55 0) 207 35 = nn h := by rw [cmB.i (by omega)]; exact h35
    unfold f_X12_translate
    rw [e35, if_neg (nn_in (by omega) (by omega)), nn_nat (by omega)]
    exact t2
  have cC6 : Ch (CFc P CO n) C C6 := cC.tr (Ch.tr (ceB.mono (fun a k q => by unfold CFc; omega)) (t3.1.mono (fun a k q => tc_CF q)))
  have cM5 : Ch (CFm h) X M5 := cM.tr (Ch.tr (cmB.mono (fun a k q => by unfold CFm; omega)) (t3.2.1.mono (fun a k q => tm_CF q)))
  have c46 : Ch (fun a k => (a = 106 ∧ k ≤ 2) ∨ (CO ≤ a ∧ a ≤ CO + 2)) C4 C6 := Ch.tr (ceB.mono (fun a k q => by omega)) (t3.1.mono (fun a k q => by unfold TC at q; omega))
  have m35 : Ch (fun a k => (a = 207 ∧ (k = 55 ∨ k = 61)) ∨ (238 ≤ a ∧ a ≤ 244)) M3 M5 := Ch.tr (cmB.mono (fun a k q => by omega)) (t3.2.1.mono (fun a k q => by unfold TM at q; omega))
  have q32 : dI C6 3 2 = 0 := by rw [c46.i (by omega)]; exact h32
  have q10 : dI M5 207 10 = 0 := by rw [m35.i (by omega)]; exact h10
  have q0 : dI M5 207 0 = 0 := by rw [m35.i (by omega)]; exact h0
  rcases t3.2.2 with ⟨s1, s2, s3, s4, s5⟩ | ⟨s1, s2, s3, s4⟩
  · have hfit := cp_fits (v := 0) hP hCO t1 s3 (Or.inl rfl)
    rw [if_pos rfl] at hfit
    have c67 : Ch (fun a k => a = 0 ∧ (k = 14 ∨ k = 15)) C6 (sI (sI C6 0 14 (-1)) 0 15 (-1)) := Ch.sI (by omega) (Ch.sI (by omega) Ch.rf)
    have r67 : ∀ k, k < 14 → dR (sI (sI C6 0 14 (-1)) 0 15 (-1)) 0 k = dR C 0 k := fun k hk => by rw [c67.r (by omega), c46.r (by omega)]; exact d0 k hk
    obtain ⟨C8, u1, u2, ⟨u3, u4, u5, u6⟩, u7, u8, u9, u10⟩ := cp_take (nu := nu) (K := K') hP ((r67 8 (by omega)).trans r8) ((r67 9 (by omega)).trans r9) ((r67 10 (by omega)).trans r10) ((r67 11 (by omega)).trans r11)
    have hcU := cpU_ok ((d0 9 (by omega)).trans r9) ((d0 11 (by omega)).trans r11) hfit u1 u5 hCO
    have c78 : Ch (fun a k => (a = 0 ∧ 8 ≤ k ∧ k ≤ 15) ∨ a = 190 ∨ (a = 107 ∧ k = 10)) C6 C8 := Ch.tr (c67.mono (fun a k q => by omega)) (u2.mono (fun a k q => by omega))
    have e8 : dI C8 CO 2 = nn c := by rw [c78.i (by omega)]; exact s2
    rw [e8] at hcU
    -- the model
    have cA : Ch (fun a k => a = 207 ∧ (k = 7 ∨ k = 8 ∨ k = 13)) M5 (sI (sI (sI M5 207 7 (-1)) 207 8 (-1)) 207 13 (nn c)) := Ch.sI (by omega) (Ch.sI (by omega) (Ch.sI (by omega) Ch.rf))
    have mo := mcp_ok h5 hp h40 hf h4 ht s4 s1
    have a13 : dI (sI (sI (sI M5 207 7 (-1)) 207 8 (-1)) 207 13 (nn c)) 207 13 = nn c := by rw [dI_s, if_pos ⟨rfl, rfl⟩]
    have a7 : dI (sI (sI (sI M5 207 7 (-1)) 207 8 (-1)) 207 13 (nn c)) 207 7 = -1 := by rw [dI_s, if_neg (by omega), dI_s, if_neg (by omega), dI_s, if_pos ⟨rfl, rfl⟩]
    have a8 : dI (sI (sI (sI M5 207 7 (-1)) 207 8 (-1)) 207 13 (nn c)) 207 8 = -1 := by rw [dI_s, if_neg (by omega), dI_s, if_pos ⟨rfl, rfl⟩]
    have a61 : dI (sI (sI (sI M5 207 7 (-1)) 207 8 (-1)) 207 13 (nn c)) 207 61 = nn c := by rw [cA.i (by omega)]; exact s4
    generalize sI (sI (sI M5 207 7 (-1)) 207 8 (-1)) 207 13 (nn c) = M6 at *
    obtain ⟨M7, v1, v2, v3⟩ := mc_code (N := N) s1 (X := M6) c N 0 M6 (by omega) (by omega) a61 Ch.rf (fun k hk => absurd hk (by omega))
    have hR7 : Ro nu P C4 M7 := hR.mv (fun a k q => rfl) (fun a k q => by rw [v2.i (by unfold Pco; omega), cA.i (by omega), m35.i (by omega)])
    obtain ⟨M8, w1, w2, w3⟩ := mc_marks (N := N) hR7 26 N 0 M7 (by omega) (by omega) Ch.rf (fun k hk => absurd hk (by omega))
    have m7 : ∀ k, dI M7 207 k = dI M6 207 k := fun k => v2.i (by unfold Pco; omega)
    have e35 : dI M7 207 35 = nn h := by rw [m7, cA.i (by omega), m35.i (by omega)]; exact h35
    rw [m7, a13, e35] at w1
    have cB : Ch (fun a k => a = 207 ∧ 16 ≤ k ∧ k ≤ 19) M8 (sI (sI (sI (sI M8 207 18 1) 207 19 (nn h)) 207 16 0) 207 17 0) := Ch.sI (by omega) (Ch.sI (by omega) (Ch.sI (by omega) (Ch.sI (by omega) Ch.rf)))
    have b18 : dI (sI (sI (sI (sI M8 207 18 1) 207 19 (nn h)) 207 16 0) 207 17 0) 207 18 = 1 := by rw [dI_s, if_neg (by omega), dI_s, if_neg (by omega), dI_s, if_neg (by omega), dI_s, if_pos ⟨rfl, rfl⟩]
    have b19 : dI (sI (sI (sI (sI M8 207 18 1) 207 19 (nn h)) 207 16 0) 207 17 0) 207 19 = nn h := by rw [dI_s, if_neg (by omega), dI_s, if_neg (by omega), dI_s, if_pos ⟨rfl, rfl⟩]
    have b16 : dI (sI (sI (sI (sI M8 207 18 1) 207 19 (nn h)) 207 16 0) 207 17 0) 207 16 = 0 := by rw [dI_s, if_neg (by omega), dI_s, if_pos ⟨rfl, rfl⟩]
    have b17 : dI (sI (sI (sI (sI M8 207 18 1) 207 19 (nn h)) 207 16 0) 207 17 0) 207 17 = 0 := by rw [dI_s, if_pos ⟨rfl, rfl⟩]
    generalize sI (sI (sI (sI M8 207 18 1) 207 19 (nn h)) 207 16 0) 207 17 0 = M9 at *
    have m9 : Ch (fun a k => (a = 207 ∧ (k = 7 ∨ k = 8 ∨ k = 13 ∨ (16 ≤ k ∧ k ≤ 19))) ∨ (212 ≤ a ∧ a ≤ 215)) M5 M9 := Ch.tr (cA.mono (fun a k q => by omega)) (Ch.tr (v2.mono (fun a k q => by unfold Pco at q; omega)) (Ch.tr (w2.mono (fun a k q => by unfold Pmk at q; omega)) (cB.mono (fun a k q => by omega))))
    have m79 : ∀ k, k < 16 → dI M9 207 k = dI M6 207 k := fun k hk => by rw [cB.i (by omega), w2.i (by unfold Pmk; omega), m7]
    have hm : f_X12_compile N X = some (nn c, M9) := by
      rw [mo]
      exact v1.trans w1
    have k14 : dI C8 0 14 = -1 := by rw [u2.i (by omega), dI_s, if_neg (by omega), dI_s, if_pos ⟨rfl, rfl⟩]
    have k15 : dI C8 0 15 = -1 := by rw [u2.i (by omega), dI_s, if_pos ⟨rfl, rfl⟩]
    refine ⟨.inr (nn c), C8, nn c, M9, hcU, hm, hK, ⟨?_, ?_⟩, ⟨?_, ?_⟩, Or.inr ⟨⟨rfl, ?_, ?_, ?_⟩, ⟨u3, u4, u5, u6⟩, ⟨u8, u9, u10⟩, ⟨b18, b16, b17, b19⟩, ⟨c, s1, ⟨e8, ?_⟩, fun i hi => ?_⟩, fun x hx => ?_, cnt, bz, ez, W, ?_, hK7⟩⟩
    · rw [c78.i (by omega)]; exact q32
    · rw [m9.i (by omega)]; exact q10
    · rw [k14, m79 7 (by omega), a7]
    · rw [k15, m79 8 (by omega), a8]
    · rw [m9.i (by omega)]; exact q0
    · exact Ch.tr (cC6.mono (fun a k q => Or.inl q)) (c78.mono (fun a k q => by unfold CGc CFc; omega))
    · exact Ch.tr (cM5.mono (fun a k q => Or.inl q)) (m9.mono (fun a k q => by unfold CGm CFm; omega))
    · rw [m79 13 (by omega), a13]
    · have f2 : dI M9 212 i = dI M5 242 i := by rw [cB.i (by omega), w2.i (by unfold Pmk; omega), (v3 i hi).1, cA.i (by omega)]
      have f3 : dI M9 213 i = dI M5 243 i := by rw [cB.i (by omega), w2.i (by unfold Pmk; omega), (v3 i hi).2, cA.i (by omega)]
      rw [f2, f3, c78.i (by omega), c78.i (by omega)]
      exact s5 i hi
    · have f1 : dI M9 214 x = dI C4 (P + 2) x := by rw [cB.i (by omega)]; exact (w3 x hx).1
      have f2 : dI M9 215 x = dI C4 (P + 2) (26 + x) := by rw [cB.i (by omega)]; exact (w3 x hx).2
      have g1 : ∀ k, k < 52 → dI C8 190 k = dI C4 (P + 2) k := fun k hk => by rw [u7 k hk, c67.i (by omega), c46.i (by omega)]
      rw [f1, f2, g1 x (by omega), g1 (26 + x) (by omega)]
      exact ⟨⟨rfl, rfl⟩, ro_rng hL.1.2 hR hx⟩
    · refine hG.mv (fun a k q => ⟨?_, ?_⟩) (fun a k q => ?_)
      · rw [c78.i (by omega), c46.i (by omega)]
      · rw [c78.r (by omega), c46.r (by omega)]
      · rw [m9.i (by unfold HC at q; omega), m35.i (by unfold HC at q; omega)]
  · have hfit := cp_fits (v := 1) hP hCO t1 s3 (Or.inr rfl)
    rw [if_neg (show ¬ (1 : Int32) = 0 by decide)] at hfit
    have hcU := cpU_long ((d0 9 (by omega)).trans r9) ((d0 11 (by omega)).trans r11) hfit
    have hm := mcp_long h5 hp h40 hf h4 ht s4
    refine ⟨_, _, _, _, hcU, hm, hK, ⟨?_, ?_⟩, ⟨?_, ?_⟩, Or.inl ⟨3, 4, rfl, Or.inr (Or.inr ⟨rfl, rfl⟩), ?_, ?_, ?_⟩⟩
    · rw [dI_s, if_neg (by omega), dI_s, if_neg (by omega)]; exact q32
    · rw [dI_s, if_neg (by omega), dI_s, if_neg (by omega), dI_s, if_neg (by omega)]; exact q10
    · rw [dI_s, if_neg (by omega), dI_s, if_pos ⟨rfl, rfl⟩, dI_s, if_neg (by omega), dI_s, if_neg (by omega), dI_s, if_pos ⟨rfl, rfl⟩]
    · rw [dI_s, if_pos ⟨rfl, rfl⟩, dI_s, if_neg (by omega), dI_s, if_pos ⟨rfl, rfl⟩]
    · rw [dI_s, if_pos ⟨rfl, rfl⟩]
    · exact Ch.sI (by unfold CFc; omega) (Ch.sI (by unfold CFc; omega) cC6)
    · exact Ch.sI (by unfold CFm; omega) (Ch.sI (by unfold CFm; omega) (Ch.sI (by unfold CFm; omega) cM5))
theorem cp_all {N nu n P CO h len : Nat} {tx K : Nat → Nat} {C X : Dat} (hN : 1000 ≤ N) (hNb : bW 47 + 2 ≤ N) (hNt : tW 47 + 2 ≤ N) (hH : CH nu n P CO h len tx C X) : ∃ v K' C' b X', f_X11_compile N nu n K C = some (v, K', C') ∧ f_X12_compile N X = some (b, X') ∧ CRes nu n P CO h K C X v b K' C' X' := by
  obtain ⟨⟨hP, hCO, hh, hn⟩, ⟨r8, r9, r10, r11⟩, ⟨hL, hRL⟩, ⟨h12, hn1, hn2⟩, ⟨tC, tM⟩, hp⟩ := id hH
  have hnv : 266 ≤ n := hn
  have h5 : dI X 207 5 = 1 := (hRL 207 5 (by unfold RIL; omega)).trans hL.2.2
  have cX : Ch (fun a k => a = 207 ∧ k = 0) X (sI X 207 0 0) := Ch.sI ⟨rfl, rfl⟩ Ch.rf
  have tM0 : TxM len tx (sI X 207 0 0) := ⟨tM.1, by rw [cX.i (by omega)]; exact tM.2.1, fun i hi => by rw [cX.i (by omega)]; exact tM.2.2 i hi⟩
  rcases zr_read (K := K) hN hP hn hh hL.1.2 tC tM0 hn1 (by rw [cX.i (by omega)]; exact hn2) (by rw [cX.i (by omega), cX.i (by omega)]; exact hp) with ⟨S, C1, M1, q, a1, a2, a3, ⟨a4, a5, a6⟩, a7, a8⟩ | ⟨S, C1, M1, cnt, bz, ez, W, a1, a2, a3, a4, a5, a6, a7, a8, a9, a10⟩
  · have cM1 : Ch (CFm h) X M1 := Ch.tr (cX.mono (fun a k q => by unfold CFm; omega)) (a8.mono (fun a k q => dm_CF q))
    refine ⟨_, _, _, _, _, cpC_bad h12 r9 a1, mcp_bad h5 a2 a5 a6, a3, ⟨?_, ?_⟩, ⟨?_, ?_⟩, Or.inl ⟨4, 2, rfl, Or.inl ⟨rfl, rfl⟩, ?_, ?_, ?_⟩⟩
    · rw [dI_s, if_neg (by omega), dI_s, if_neg (by omega), dI_s, if_pos ⟨rfl, rfl⟩]
    · rw [dI_s, if_neg (by omega), dI_s, if_neg (by omega), dI_s, if_neg (by omega), dI_s, if_pos ⟨rfl, rfl⟩]
    · rw [dI_s, if_neg (by omega), dI_s, if_pos ⟨rfl, rfl⟩, dI_s, if_neg (by omega), dI_s, if_neg (by omega), dI_s, if_pos ⟨rfl, rfl⟩]
      exact a4
    · rw [dI_s, if_pos ⟨rfl, rfl⟩, dI_s, if_neg (by omega), dI_s, if_pos ⟨rfl, rfl⟩]
    · rw [dI_s, if_pos ⟨rfl, rfl⟩]
    · exact Ch.sI (by unfold CFc; omega) (Ch.sI (by unfold CFc; omega) (Ch.sI (by unfold CFc; omega) (a7.mono (fun a k q => dc_CF q))))
    · exact Ch.sI (by unfold CFm; omega) (Ch.sI (by unfold CFm; omega) (Ch.sI (by unfold CFm; omega) (Ch.sI (by unfold CFm; omega) cM1)))
  · have cC1 : Ch (CFc P CO n) C C1 := a7.mono (fun a k q => dc_CF q)
    have cM1 : Ch (CFm h) X M1 := Ch.tr (cX.mono (fun a k q => by unfold CFm; omega)) (a8.mono (fun a k q => dm_CF q))
    have c2 : Ch (fun a k => (a = 3 ∧ k = 2) ∨ (a = 6 ∧ k = 1)) C1 (sR (sI C1 3 2 0) 6 1 (some P)) := Ch.sR (by omega) (Ch.sI (by omega) Ch.rf)
    have m2 : Ch (fun a k => a = 207 ∧ k = 10) M1 (sI M1 207 10 0) := Ch.sI ⟨rfl, rfl⟩ Ch.rf
    have e9 : dR (sI C1 3 2 0) 0 9 = some P := by
      show dR C1 0 9 = some P
      rw [cC1.r (by unfold CFc; omega)]; exact r9
    have cC2 : Ch (CFc P CO n) C (sR (sI C1 3 2 0) 6 1 (some P)) := cC1.tr (c2.mono (fun a k q => by unfold CFc; omega))
    have cM2 : Ch (CFm h) X (sI M1 207 10 0) := cM1.tr (m2.mono (fun a k q => by unfold CFm; omega))
    have hFE : FE nu P n h cnt bz ez W S.2.1 C (sR (sI C1 3 2 0) 6 1 (some P)) (sI M1 207 10 0) := by
      refine ⟨hL, ⟨fun a k r => ?_, fun a k r => ?_⟩, ?_, ⟨?_, hP⟩, a9.mv (fun a k q => ⟨c2.i (by omega), c2.r (by omega)⟩) (fun a k q => m2.i (by unfold HC at q; omega)), a10.mv (fun a k q => c2.i (by omega)) (fun a k q => m2.i (by omega)), fun i hi => ?_, ⟨hh, ?_⟩, hn⟩
      · exact cC2.i (by unfold CFc; unfold RIL at r; omega)
      · rw [cM2.i (by unfold CFm HC; unfold RIL at r; omega)]; exact hRL a k r
      · rw [cC2.i (by unfold CFc; omega)]; exact hn1
      · rw [dR_s, if_pos ⟨rfl, rfl⟩]
      · unfold kd
        rw [if_neg (by omega)]
        exact a4 i hi
      · rw [m2.i (by omega)]; exact a6
    have b40 : dI (sI M1 207 10 0) 207 40 = -1 := by rw [m2.i (by omega)]; exact a5
    have b32 : dI (sR (sI C1 3 2 0) 6 1 (some P)) 3 2 = 0 := by rw [dI_sR, dI_s, if_pos ⟨rfl, rfl⟩]
    have b10 : dI (sI M1 207 10 0) 207 10 = 0 := by rw [dI_s, if_pos ⟨rfl, rfl⟩]
    have b0 : dI (sI M1 207 10 0) 207 0 = 0 := by rw [m2.i (by omega), a8.i (by unfold DM; omega), dI_s, if_pos ⟨rfl, rfl⟩]
    rcases fl_check (N := N) hN hNb hFE b40 with ⟨C4, M3, f1, f2, f3, f4, f5⟩ | ⟨C4, M3, q, q1, f1, f2, ⟨f3, f3'⟩, f4, f5⟩
    · have hk : f_X1_check_b7 N nu S.2.1 N 0 (sR (sI C1 3 2 0) 6 1 (dR (sI C1 3 2 0) 0 9)) = some (.inr (), C4) := by rw [e9]; exact f1
      have h32 : dI C4 3 2 = 0 := by rw [f4.i (by unfold FC; omega)]; exact b32
      have h10 : dI M3 207 10 = 0 := by rw [f5.i (by unfold FM; omega)]; exact b10
      have h0 : dI M3 207 0 = 0 := by rw [f5.i (by unfold FM; omega)]; exact b0
      have h35 : dI M3 207 35 = nn h := by rw [f5.i (by unfold FM; omega)]; exact hFE.2.2.2.2.2.2.2.1.2
      have hG4 : PG nu P n h cnt bz ez W C4 M3 := hFE.2.2.2.2.1.mv (fun a k q => ⟨f4.i (by unfold FC; omega), f4.r (by unfold FC; omega)⟩) (fun a k q => f5.i (by unfold FM; unfold HC at q; omega))
      have hR4 : Ro nu P C4 M3 := hFE.2.2.2.2.2.1.mv (fun a k q => f4.i (by unfold FC; omega)) (fun a k q => f5.i (by unfold FM; omega))
      obtain ⟨v, C', b, X', g1, g2, g3⟩ := cp_tr (K := K) hN hNt hH h5 a3 a4 a2 a5 f2 f3 hG4 hR4 h35 (cC2.tr (f4.mono (fun a k q => fc_CF q))) (cM2.tr (f5.mono (fun a k q => fm_CF q))) h32 h10 h0
      exact ⟨v, S.2.1, C', b, X', by rw [cpC_ok h12 r9 a1, cpT_ok hk]; exact g1, g2, g3⟩
    · have hk : f_X1_check_b7 N nu S.2.1 N 0 (sR (sI C1 3 2 0) 6 1 (dR (sI C1 3 2 0) 0 9)) = some (.inl 2, C4) := by rw [e9]; exact f1
      refine ⟨_, _, _, _, _, (cpC_ok h12 r9 a1).trans (cpT_bad hk), mcp_flow h5 a2 a5 f2 f3' q1, a3, ⟨?_, ?_⟩, ⟨?_, ?_⟩, Or.inl ⟨2, 3, rfl, Or.inr (Or.inl ⟨rfl, rfl⟩), ?_, ?_, ?_⟩⟩
      · rw [dI_s, if_neg (by omega), dI_s, if_neg (by omega), f4.i (by unfold FC; omega)]; exact b32
      · rw [dI_s, if_neg (by omega), dI_s, if_neg (by omega), dI_s, if_neg (by omega), f5.i (by unfold FM; omega)]; exact b10
      · rw [dI_s, if_neg (by omega), dI_s, if_pos ⟨rfl, rfl⟩, dI_s, if_neg (by omega), dI_s, if_neg (by omega), dI_s, if_pos ⟨rfl, rfl⟩]
        exact f3
      · rw [dI_s, if_pos ⟨rfl, rfl⟩, dI_s, if_neg (by omega), dI_s, if_pos ⟨rfl, rfl⟩]
      · rw [dI_s, if_pos ⟨rfl, rfl⟩]
      · exact Ch.sI (by unfold CFc; omega) (Ch.sI (by unfold CFc; omega) (cC2.tr (f4.mono (fun a k q => fc_CF q))))
      · exact Ch.sI (by unfold CFm; omega) (Ch.sI (by unfold CFm; omega) (Ch.sI (by unfold CFm; omega) (cM2.tr (f5.mono (fun a k q => fm_CF q)))))
