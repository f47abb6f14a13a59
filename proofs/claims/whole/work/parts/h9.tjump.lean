/-! translation: jumps -/
theorem TS.sz {CO c : Nat} {C M : Dat} (h : TS CO c C M) : dI C CO 2 = nn (cPl c) := by
  rcases h with h | h
  · have := h.1
    rw [h.2.1]; unfold cPl; rw [if_pos (by omega)]
  · have := h.1
    rw [h.2.1]; unfold cPl; rw [if_neg (by omega)]
theorem cPl_le (c : Nat) : cPl c ≤ 64 := by unfold cPl; split <;> omega
theorem cN1_le (c : Nat) : cN1 c ≤ 65 := by unfold cN1; split <;> omega
theorem TS.mv {CO c : Nat} {C M M' : Dat} (h : TS CO c C M) (e : ∀ a k, TPm a k → dI M' a k = dI M a k) : TS CO c C M' := by
  unfold TS
  rw [e 207 61 (by unfold TPm; omega)]
  rcases h with ⟨t1, t2, t3, t4, t5⟩ | h
  · exact Or.inl ⟨t1, t2, t3, t4, fun k hk => by rw [e 242 k (by unfold TPm; omega), e 243 k (by unfold TPm; omega)]; exact t5 k hk⟩
  · exact Or.inr h
theorem TE.r1 {nu P CO nb h cnt bz ez : Nat} {W K : Nat → Nat} {C0 M0 C : Dat} (hE : TE nu P CO nb h cnt bz ez W K C0 M0) (hC : Ch (TC CO) C0 C) : dR C 106 1 = some CO := by
  obtain ⟨-, ⟨h61, hCO⟩, -⟩ := hE
  rw [hC.r (by unfold TC; omega)]; exact h61
theorem tr_aim {nu P CO nb h cnt bz ez : Nat} {W K : Nat → Nat} {C0 M0 C M : Dat} (hE : TE nu P CO nb h cnt bz ez W K C0 M0) {c z : Nat} (hV : TV CO C0 M0 C M c) (hz : z ≤ 64) : ∃ C', f_X0_aim CO (nn z) (dI C CO 2) C = some C' ∧ TV CO C0 M0 C' (sI M 243 z (nn c)) c ∧ (c = 65 → TV CO C0 M0 C' M c) := by
  obtain ⟨-, ⟨h61, hCO⟩, -⟩ := hE
  obtain ⟨hC, hM, hT⟩ := hV
  have sz := hT.sz
  have le := cPl_le c
  have cM : Ch TM M0 (sI M 243 z (nn c)) := Ch.sI (by unfold TM; omega) hM
  have z3 : ∀ k, dI (sI M 243 z (nn c)) 242 k = dI M 242 k := fun k => by rw [dI_s, if_neg (by omega)]
  have z4 : ∀ k, dI (sI M 243 z (nn c)) 243 k = if k = z then nn c else dI M 243 k := fun k => by
    rw [dI_s]
    by_cases q : k = z
    · rw [if_pos ⟨rfl, q⟩, if_pos q]
    · rw [if_neg (fun u => q u.2), if_neg q]
  unfold f_X0_aim f_X0_has f_X0_aim_b15
  rw [if_neg (nn_nlt0 (by omega)), sz]
  by_cases q : z < cPl c
  · rw [if_neg (show ¬ nn (cPl c) ≤ nn z from fun u => by have := (nn_le (by omega) (by omega)).mp u; omega)]
    unfold f_X0_has_b17
    rw [if_pos (show (1 : Int32) &&& 1 = 1 by decide), bS, if_neg (show ¬ (1 : Int32) = 0 by decide), if_neg (nn_in (by omega) (by omega)), nn_nat (by omega)]
    have cC : Ch (TC CO) C0 (sI C (CO + 2) z (nn (cPl c))) := Ch.sI (by unfold TC; omega) hC
    have z1 : ∀ k, dI (sI C (CO + 2) z (nn (cPl c))) (CO + 1) k = dI C (CO + 1) k := fun k => by rw [dI_s, if_neg (by omega)]
    have z2 : ∀ k, dI (sI C (CO + 2) z (nn (cPl c))) (CO + 2) k = if k = z then nn (cPl c) else dI C (CO + 2) k := fun k => by
      rw [dI_s]
      by_cases q : k = z
      · rw [if_pos ⟨rfl, q⟩, if_pos q]
      · rw [if_neg (fun u => q u.2), if_neg q]
    have y1 : dI (sI C (CO + 2) z (nn (cPl c))) CO 2 = dI C CO 2 := by rw [dI_s, if_neg (by omega)]
    have y2 : dI (sI C (CO + 2) z (nn (cPl c))) 106 2 = dI C 106 2 := by rw [dI_s, if_neg (by omega)]
    refine ⟨_, rfl, ⟨cC, cM, ?_⟩, fun c65 => ⟨cC, hM, ?_⟩⟩
    · rcases hT with ⟨t1, t2, t3, t4, t5⟩ | ⟨t1, t2, t3, t4⟩
      · have cc : cPl c = c := by unfold cPl; rw [if_pos (by omega)]
        refine Or.inl ⟨t1, y1.trans t2, y2.trans t3, t4, fun k hk => ?_⟩
        rw [z1, z2, z3, z4, cc]
        refine ⟨(t5 k hk).1, ?_, (t5 k hk).2.2⟩
        by_cases q : k = z
        · rw [if_pos q, if_pos q]
        · rw [if_neg q, if_neg q]; exact (t5 k hk).2.1
      · exact Or.inr ⟨t1, y1.trans t2, y2.trans t3, t4⟩
    · rcases hT with ⟨t1, -⟩ | ⟨t1, t2, t3, t4⟩
      · omega
      · exact Or.inr ⟨t1, y1.trans t2, y2.trans t3, t4⟩
  · rw [if_pos ((nn_le (by omega) (by omega)).mpr (by omega))]
    unfold f_X0_has_b16 f_X0_has_b17
    rw [if_pos (show (0 : Int32) &&& 1 = 0 by decide), bS, if_pos rfl]
    refine ⟨C, rfl, ⟨hC, cM, ?_⟩, fun _ => ⟨hC, hM, hT⟩⟩
    rcases hT with ⟨t1, t2, t3, t4, t5⟩ | ⟨t1, t2, t3, t4⟩
    · have cc : cPl c = c := by unfold cPl; rw [if_pos (by omega)]
      refine Or.inl ⟨t1, t2, t3, t4, fun k hk => ?_⟩
      rw [z3, z4, if_neg (by omega)]
      exact t5 k hk
    · exact Or.inr ⟨t1, t2, t3, t4⟩
/-- too many: the class goes on, the model stands still -/
theorem tr_em65 {nu P CO nb h cnt bz ez : Nat} {W K : Nat → Nat} {C0 M0 C M : Dat} (hE : TE nu P CO nb h cnt bz ez W K C0 M0) (hV : TV CO C0 M0 C M 65) (op ar : Int32) (ho : 0 ≤ op.toInt ∧ op.toInt ≤ 15) : ∃ C', f_X8_emit op ar C = some C' ∧ TV CO C0 M0 C' M 65 := by
  obtain ⟨C', M', a1, a2, a3, -⟩ := tr_put hE hV op ar ho
  have e : f_X12_put op ar M = some (nn 65 - 1, M) := by
    unfold f_X12_put f_X12_put_b39
    rw [hV.2.2.c61, if_pos (by decide)]
  rw [e] at a2
  have e2 : M = M' := congrArg Prod.snd (Option.some.inj a2)
  rw [← e2] at a3
  exact ⟨C', a1, a3⟩
theorem tr_flag {CO : Nat} {C0 M0 C M : Dat} (hV : TV CO C0 M0 C M 65) : dI C 106 2 = 1 := by
  rcases hV.2.2 with ⟨t1, -⟩ | ⟨t1, t2, t3, t4⟩
  · omega
  · exact t3
/-! the model goes into a block, and back -/
theorem tr_enter {N nu P CO nb h cnt bz ez : Nat} {W K : Nat → Nat} {C0 M0 C M : Dat} (hN : 1000 ≤ N) (hE : TE nu P CO nb h cnt bz ez W K C0 M0) {x c i e : Nat} (hV : TV CO C0 M0 C M c) (h55 : dI M 207 55 = nn x) (hi : i < cnt) (hx : x ≤ 47) (hk : dI M0 216 (64 * h + i) = 3 ∨ dI M0 216 (64 * h + i) = 4) (he : dI M0 220 (64 * h + i) = nn e) (hex : FsE P h bz ez C0 M0 (nb + i) e) : ∃ C1 C2 M4 c1, f_X8_emitExpressions N nu K (some (nb + i)) C = some C1 ∧ Ch (TC CO) C0 C1 ∧ dI C1 CO 2 = nn (cPl c1) ∧ f_X8_emit 11 0 C1 = some C2 ∧ f_X12_codeThrough N (nn (64 * h + i)) M = some (dI M0 222 (64 * h + i), M4) ∧ TV CO C0 M0 C2 M4 (cN1 c1) ∧ Ch (TMx x) M M4 ∧ dI M4 207 55 = nn (x + 1) ∧ (dI M4 238 x = dI M0 216 (64 * h + i) ∧ dI M4 239 x = nn (64 * h + i) ∧ dI M4 240 x = nn c ∧ dI M4 244 x = nn (cPl c1)) := by
  obtain ⟨⟨h60, hPP⟩, ⟨h61, hCO⟩, hG, hK7, ⟨hh1, hh2⟩, hNS⟩ := id hE
  obtain ⟨hFs, -, -, ⟨hcnt, hbz, hez⟩, hP5⟩ := hG
  have in128 := nn_in (k := 64 * h + i) (n := 128) (by omega) (by omega)
  have in300 := nn_in (k := x) (n := 300) (by omega) (by omega)
  have e1 : nn (x + 1) - (1 : Int32) = nn x := by rw [show (1 : Int32) = nn 1 from rfl, nn_sub (by omega) (by omega)]; rfl
  obtain ⟨Mp, p1, p2, p3, p4, p5, -⟩ := fl_push (k := dI M0 216 (64 * h + i)) (m := nn (64 * h + i)) (show x < 300 by omega) h55
  have hM := hV.2.1
  have m61 : dI Mp 207 61 = nn c := by rw [p2.i (by omega)]; exact hV.2.2.c61
  have c2 : Ch (TMx x) M (sI Mp 240 x (nn c)) := Ch.sI (by unfold TMx; omega) (p2.mono (fun a k q => by unfold TMx; omega))
  have hV2 : TV CO C0 M0 C (sI Mp 240 x (nn c)) c := ⟨hV.1, hM.tr (c2.mono (fun a k q => tmx_TM q)), hV.2.2.mv (fun a k q => by
    unfold TPm at q
    rw [dI_s, if_neg (by omega), p2.i (by omega)])⟩
  obtain ⟨C1, M2, c1, a1, a2, a3, a4⟩ := tr_ex (N := N) hN hE hV2 hi hex
  obtain ⟨C2, M3, b1, b2, b3, b4⟩ := tr_put hE a3 11 0 (by decide)
  have c3 : Ch TPm (sI Mp 240 x (nn c)) M3 := a4.tr b4
  have c4 : Ch (TMx x) M (sI M3 244 x (nn (cPl c1))) := Ch.sI (by unfold TMx; omega) (c2.tr (c3.mono (fun a k q => tpm_TMx q)))
  have m4 : ∀ a k, ¬ TPm a k → ¬ (a = 244 ∧ k = x) → dI (sI M3 244 x (nn (cPl c1))) a k = dI (sI Mp 240 x (nn c)) a k := fun a k g1 g2 => by rw [dI_s, if_neg g2, c3.i g1]
  have hV4 : TV CO C0 M0 C2 (sI M3 244 x (nn (cPl c1))) (cN1 c1) := ⟨b3.1, Ch.sI (by unfold TM; omega) b3.2.1, b3.2.2.mv (fun a k q => by
    unfold TPm at q
    rw [dI_s, if_neg (by omega)])⟩
  refine ⟨C1, C2, sI M3 244 x (nn (cPl c1)), c1, a1, a3.1, a3.2.2.sz, b1, ?_, hV4, c4, ?_, ?_, ?_, ?_, ?_⟩
  · have e0 : dI M 216 (64 * h + i) = dI M0 216 (64 * h + i) := hM.i (by unfold TM; omega)
    have n1 : ¬ dI M0 216 (64 * h + i) = 1 := fun q => by rw [q] at hk; exact absurd hk (by decide)
    have n2 : ¬ dI M0 216 (64 * h + i) = 2 := fun q => by rw [q] at hk; exact absurd hk (by decide)
    have n5 : ¬ dI M0 216 (64 * h + i) = 5 := fun q => by rw [q] at hk; exact absurd hk (by decide)
    have n6 : ¬ dI M0 216 (64 * h + i) = 6 := fun q => by rw [q] at hk; exact absurd hk (by decide)
    have n7 : ¬ dI M0 216 (64 * h + i) = 7 := fun q => by rw [q] at hk; exact absurd hk (by decide)
    have e20 : dI (sI Mp 240 x (nn c)) 220 (64 * h + i) = nn e := by rw [hV2.2.1.i (by unfold TM; omega)]; exact he
    have e55 : dI M2 207 55 = nn (x + 1) := by
      rw [a4.i (by unfold TPm; omega)]
      exact p3
    unfold f_X12_codeThrough f_X12_codeThrough_b193
    simp only [if_neg in128]
    rw [nn_nat (by omega), e0, if_neg n1, if_neg n2, if_neg n5, if_neg n6, if_neg n7, p1, bS, p3, e1, if_neg in300, nn_nat (k := x) (by omega), m61, e20, a2, bS, b2, bS, e55, e1, if_neg in300, nn_nat (k := x) (by omega)]
    show some (dI (sI M3 244 x (nn (cPl c1))) 222 (64 * h + i), sI M3 244 x (nn (cPl c1))) = _
    rw [hV4.2.1.i (by unfold TM; omega)]
  · rw [m4 _ _ (by unfold TPm; omega) (by omega)]
    exact p3
  · rw [m4 _ _ (by unfold TPm; omega) (by omega), dI_s, if_neg (by omega)]
    exact p4
  · rw [m4 _ _ (by unfold TPm; omega) (by omega), dI_s, if_neg (by omega)]
    exact p5
  · rw [m4 _ _ (by unfold TPm; omega) (by omega), dI_s, if_pos ⟨rfl, rfl⟩]
  · rw [dI_s, if_pos ⟨rfl, rfl⟩]
theorem tr_bk7 {x m : Nat} {M : Dat} (hx : x < 300) (hm : m < 128) (h55 : dI M 207 55 = nn (x + 1)) (k8 : dI M 238 x = 7) (k9 : dI M 239 x = nn m) : f_X12_codeBack M = some (dI M 224 m, sI M 207 55 (nn x)) := by
  have e1 : nn (x + 1) - (1 : Int32) = nn x := by rw [show (1 : Int32) = nn 1 from rfl, nn_sub (by omega) (by omega)]; rfl
  unfold f_X12_codeBack f_X12_codeBack_b99 f_X12_codeBack_b123 f_X12_codeBack_b139
  rw [h55, e1]
  simp only [if_neg (nn_in (k := x) (n := 300) (by omega) hx)]
  rw [nn_nat (by omega), k8, if_neg (show ¬ (7 : Int32) = 3 by decide), if_neg (show ¬ (7 : Int32) = 4 by decide), if_pos rfl, k9, if_neg (nn_in (k := m) (n := 128) (by omega) hm), nn_nat (by omega)]
  rfl
theorem tr_bkA {x m z : Nat} {kn : Int32} {M : Dat} (hx : x < 300) (hm : m < 128) (hz : z ≤ 64) (h55 : dI M 207 55 = nn (x + 1)) (hkn : kn = 8 ∨ (kn = 3 ∧ dI M 219 m = 0)) (k8 : dI M 238 x = kn) (k9 : dI M 239 x = nn m) (k4 : dI M 244 x = nn z) : f_X12_codeBack M = some (dI M 224 m, sI (sI M 243 z (dI M 207 61)) 207 55 (nn x)) := by
  have e1 : nn (x + 1) - (1 : Int32) = nn x := by rw [show (1 : Int32) = nn 1 from rfl, nn_sub (by omega) (by omega)]; rfl
  have in128 := nn_in (k := m) (n := 128) (by omega) hm
  have e5 : ∀ v, dI (sI M 243 z v) 207 55 = nn (x + 1) := fun v => h55
  have b : f_X12_codeBack M = f_X12_codeBack_b99 kn (nn m) (nn z) M := by
    unfold f_X12_codeBack
    rw [h55, e1]
    simp only [if_neg (nn_in (k := x) (n := 300) (by omega) hx)]
    rw [nn_nat (by omega), k8, k9, k4]
    rcases hkn with rfl | ⟨rfl, q⟩
    · rw [if_neg (show ¬ (8 : Int32) = 3 by decide)]
    · rw [if_pos rfl, if_neg in128, nn_nat (by omega), q, if_neg (show ¬ (0 : Int32) = 1 by decide)]
  have n4 : ¬ kn = 4 := by rcases hkn with rfl | ⟨rfl, -⟩ <;> decide
  have n7 : ¬ kn = 7 := by rcases hkn with rfl | ⟨rfl, -⟩ <;> decide
  rw [b]
  unfold f_X12_codeBack_b99 f_X12_codeBack_b123 f_X12_codeBack_b139
  rw [if_neg n4, if_neg n7, if_neg (nn_in (k := z) (n := 65) (by omega) (by omega)), if_neg in128, nn_nat (k := z) (by omega), nn_nat (k := m) (by omega), e5, e1]
  rfl
theorem tr_bkW {x m z : Nat} {v : Int32} {M M' : Dat} (hx : x < 300) (hm : m < 128) (hz : z ≤ 64) (h55 : dI M 207 55 = nn (x + 1)) (k8 : dI M 238 x = 4) (k9 : dI M 239 x = nn m) (k4 : dI M 244 x = nn z) (hp : f_X12_put 12 (dI M 240 x) M = some (v, M')) (h55' : dI M' 207 55 = nn (x + 1)) : f_X12_codeBack M = some (dI M' 224 m, sI (sI M' 243 z (dI M' 207 61)) 207 55 (nn x)) := by
  have e1 : nn (x + 1) - (1 : Int32) = nn x := by rw [show (1 : Int32) = nn 1 from rfl, nn_sub (by omega) (by omega)]; rfl
  have in128 := nn_in (k := m) (n := 128) (by omega) hm
  have in300 := nn_in (k := x) (n := 300) (by omega) hx
  have e5 : ∀ v, dI (sI M' 243 z v) 207 55 = nn (x + 1) := fun v => h55'
  have b : f_X12_codeBack M = f_X12_codeBack_b99 4 (nn m) (nn z) M := by
    unfold f_X12_codeBack
    rw [h55, e1]
    simp only [if_neg in300]
    rw [nn_nat (by omega), k8, k9, k4, if_neg (show ¬ (4 : Int32) = 3 by decide)]
  rw [b]
  unfold f_X12_codeBack_b99 f_X12_codeBack_b123 f_X12_codeBack_b139
  rw [if_pos rfl, h55, e1, if_neg in300, nn_nat (k := x) (by omega), hp, bS, if_neg (show ¬ (4 : Int32) = 7 by decide), if_neg (nn_in (k := z) (n := 65) (by omega) (by omega)), if_neg in128, nn_nat (k := z) (by omega), nn_nat (k := m) (by omega), e5, e1]
  rfl
theorem tr_bkE {x m z : Nat} {v : Int32} {M M' : Dat} (hx : x < 300) (hm : m < 128) (hz : z ≤ 64) (h55 : dI M 207 55 = nn (x + 1)) (k8 : dI M 238 x = 3) (k9 : dI M 239 x = nn m) (k4 : dI M 244 x = nn z) (h19 : dI M 219 m = 1) (hp : f_X12_put 12 0 M = some (v, M')) (h55' : dI M' 207 55 = nn (x + 1)) : f_X12_codeBack M = some (dI M' 223 m, sI (sI (sI M' 244 x v) 243 z (dI M' 207 61)) 238 x 8) := by
  have e1 : nn (x + 1) - (1 : Int32) = nn x := by rw [show (1 : Int32) = nn 1 from rfl, nn_sub (by omega) (by omega)]; rfl
  have in128 := nn_in (k := m) (n := 128) (by omega) hm
  have in300 := nn_in (k := x) (n := 300) (by omega) hx
  have e5 : ∀ u, dI (sI (sI M' 244 x v) 243 z u) 207 55 = nn (x + 1) := fun u => h55'
  have e6 : dI (sI M' 244 x v) 207 61 = dI M' 207 61 := rfl
  unfold f_X12_codeBack f_X12_codeBack_b92
  rw [h55, e1]
  simp only [if_neg in300]
  rw [nn_nat (k := x) (by omega), k8, k9, k4, if_pos rfl, if_neg in128, nn_nat (k := m) (by omega), h19, if_pos rfl, hp, bS, if_neg (nn_in (k := z) (n := 65) (by omega) (by omega)), nn_nat (k := z) (by omega)]
  show (if (dI (sI (sI M' 244 x v) 243 z (dI (sI M' 244 x v) 207 61)) 207 55) - (1 : Int32) < 0 ∨ 300 ≤ ((dI (sI (sI M' 244 x v) 243 z (dI (sI M' 244 x v) 207 61)) 207 55) - (1 : Int32)).toNatClampNeg then none else _) = _
  rw [e5, e1, if_neg in300, if_neg (show ¬ (nn m < 0 ∨ 128 ≤ m) from fun q => q.elim (nn_nlt0 (by omega)) (fun q => by omega))]
  show some (dI (sI (sI (sI M' 244 x v) 243 z (dI M' 207 61)) 238 (nn x).toNatClampNeg 8) 223 (m), sI (sI (sI M' 244 x v) 243 z (dI M' 207 61)) 238 (nn x).toNatClampNeg 8) = _
  rw [nn_nat (k := x) (by omega)]
  rfl
