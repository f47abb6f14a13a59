/-! walk: the step -/
def Pwk (a k : Nat) : Prop := Pr a k ∨ PmB a k ∨ (a = 189 ∧ k = 1) ∨ WM a k
theorem stp_walk {N nu n : Nat} {K : Nat → Nat} {D : Dat} (hN : 2000 ≤ N) (a1 a2 a3 : Int32) (hS : IS nu D) (hA : IA D) (hp : IP nu K D) : ∃ D', stp_14 N nu n K D a1 a2 a3 = some (K, D') ∧ (Ch Pr D D' ∨ (Ch Pwk D D' ∧ IA D')) := by
  obtain ⟨hnu, -, -, -, ⟨m1, m2⟩, -⟩ := id hS
  have lt1 : ∀ x : Int32, (x < 1) ↔ x.toInt < 1 := fun x => Int32.lt_iff_toInt_lt
  have le6 : ∀ x : Int32, (x ≤ 600) ↔ x.toInt ≤ 600 := fun x => Int32.le_iff_toInt_le
  unfold stp_14
  by_cases hr : 1 ≤ a1.toInt ∧ a1.toInt ≤ 600
  · obtain ⟨F, hF, rfl⟩ := nn_of (show 0 ≤ a1.toInt by omega)
    rw [nn_int hF] at hr
    have g1 : ¬ nn F < 1 := by rw [lt1, nn_int hF]; omega
    have g2 : nn F ≤ 600 := by rw [le6, nn_int hF]; omega
    rcases m2 with w | w
    · obtain ⟨D', e1, e2⟩ := stp_not (K := K) (fL := f_L_walk N nu K (nn F) D) (fM := fun D => f_X12_walk N (nn F) D) (D := D) (r := 2) (by decide) (by
        unfold f_L_walk f_X11_walk
        rw [if_neg g1, if_pos g2, if_pos (m1.trans w)]
        rfl) (by
        show f_X12_walk N (nn F) D = _
        unfold f_X12_walk
        rw [if_neg g1, if_pos g2, if_pos (by rw [dI_s, if_neg (by omega)]; exact w)]
        rfl)
      exact ⟨D', e1, Or.inl e2⟩
    · obtain ⟨P, h, p1, p2, ⟨p3, -⟩, p5, p6⟩ := hp
      obtain ⟨nb, cnt, bz, ez, W, Mg, t1, t2, t3, t4⟩ := p6 w
      have t3v : 266 ≤ nb := t3
      obtain ⟨D1, s1, s2, s3⟩ := e_cstart (N := N) (nu := nu) (F := F) (K := K) (by omega) D
      have c0 : Ch (fun a k => Pcs a k ∨ (a = 189 ∧ k = 1)) D (sR D1 189 1 (some P)) := Ch.sR (Or.inr ⟨rfl, rfl⟩) (s2.mono (fun a k q => Or.inl q))
      have c1 : Ch (fun a k => a = 189 ∧ k = 1) D1 (sR D1 189 1 (some P)) := Ch.sR ⟨rfl, rfl⟩ Ch.rf
      have go : ∀ X : Dat, (∀ a k, 207 ≤ a → a ≤ 261 → ¬ (a = 207 ∧ k = 0) → dI X a k = dI D a k) → ∃ E C' M', f_X12_begin N X = some E ∧ Ch Pbg X E ∧ f_X10_goOver N nu K (some P) D1 = some C' ∧ f_X12_walk_b55 N N (nn F) (dI (sI E 207 55 0) 228 h) (sI E 207 55 0) = some (dI M' 207 84, M') ∧ dI (sI E 207 55 0) 207 19 = nn h ∧ WD (sR D1 189 1 (some P)) (sI E 207 55 0) C' M' := by
        intro X hX
        obtain ⟨E, u1, u2, u3⟩ := e_begin (N := N) (by omega) X
        have cE : Ch (fun a k => a = 207 ∧ k = 55) E (sI E 207 55 0) := Ch.sI ⟨rfl, rfl⟩ Ch.rf
        have eM : ∀ a k, 216 ≤ a → a ≤ 228 → dI (sI E 207 55 0) a k = dI D a k := fun a k h1 h2 => by rw [cE.i (by omega), u2.i (by unfold Pbg; omega), hX a k (by omega) (by omega) (by omega)]
        have e19 : dI (sI E 207 55 0) 207 19 = nn h := by rw [cE.i (by omega), u2.i (by unfold Pbg; omega), hX 207 19 (by omega) (by omega) (by omega)]; exact p5
        have hE : WE nu P nb h cnt bz ez W K (sR D1 189 1 (some P)) (sI E 207 55 0) Mg := by
          refine ⟨⟨by rw [dR_s, if_pos ⟨rfl, rfl⟩], p1⟩, t1.mv (fun a k q => ⟨c0.i (by unfold Pcs; omega), c0.r (by unfold Pcs; omega)⟩) (fun a k q => rfl), t2, ⟨p2, e19⟩, t3, hnu.2, fun a k q => ?_⟩
          rw [eM a k (by unfold HC at q; omega) (by unfold HC at q; omega)]
          exact t4 a k q
        have sm := start_Sm hA s2 s3 (fun a k h1 h2 => hX a k (by omega) (by omega) (by omega)) u2 u3
        obtain ⟨⟨-, y1, y2⟩, -, y3⟩ := sm
        have hW : WP F (sR D1 189 1 (some P)) (sI E 207 55 0) 0 0 (sR D1 189 1 (some P)) (sI E 207 55 0) := by
          refine ⟨⟨Ch.rf, Ch.rf⟩, ⟨by rw [c1.i (by omega)]; exact s3.2.2.2.1, by rw [c1.i (by omega)]; exact s3.2.2.2.2.1, Nat.zero_le _, by omega⟩, ⟨⟨by omega, by rw [c1.i (by omega)]; exact y1, by rw [cE.i (by omega)]; exact y2⟩, fun i hi => absurd hi (by omega), y3.kept c1 cE (fun a k b j hc => by unfold Cor at hc; omega), fun i hi => absurd hi (by omega)⟩, by rw [c1.i (by omega)]; exact s3.2.2.2.2.2, by rw [dI_s, if_pos ⟨rfl, rfl⟩]; rfl⟩
        obtain ⟨C', M', v1, v2, v3⟩ := wk_all hN hE hW
        refine ⟨E, C', M', u1, u2, ?_, ?_, e19, v3⟩
        · have e0 : dR (sR D1 189 1 (some P)) 189 1 = some P := by rw [dR_s, if_pos ⟨rfl, rfl⟩]
          obtain ⟨C1, x1, x2⟩ := bind_some v1
          unfold f_X10_goOver
          rw [e0, bS, if_pos p1, x1, bS, x2, bS]
        · rw [hE.2.2.2.2.2.2 228 h (by unfold HC; omega)]
          exact v2
      obtain ⟨-, C', -, -, -, q1, -, -, ⟨q2, -⟩, -⟩ := go D (fun a k _ _ _ => rfl)
      have cDC : Ch (fun a k => PmB a k ∨ (a = 189 ∧ k = 1)) D C' := Ch.tr (c0.mono (fun a k v => by unfold Pcs at v; unfold PmB PmC; omega)) (q2.mono (fun a k v => Or.inl v))
      obtain ⟨E, C'', M', x1, x2, x3, x4, x5, ⟨x6, x7⟩, x8, x9⟩ := go (sI (sL C' 262 (0 : Int32).toNatClampNeg (dI C' 181 10).toInt64) 207 0 0) (fun a k h1 h2 h3 => by rw [dI_s, if_neg h3, dI_sL, cDC.i (by unfold PmB PmC; omega)])
      obtain rfl : C' = C'' := Option.some.inj (q1.symm.trans x3)
      have cE : Ch (fun a k => Pbg a k ∨ (a = 207 ∧ k = 55)) (sI (sL C' 262 (0 : Int32).toNatClampNeg (dI C' 181 10).toInt64) 207 0 0) (sI E 207 55 0) := Ch.sI (Or.inr ⟨rfl, rfl⟩) (x2.mono (fun a k q => Or.inl q))
      have cM : Ch WM (sI (sL C' 262 (0 : Int32).toNatClampNeg (dI C' 181 10).toInt64) 207 0 0) M' := Ch.tr (cE.mono (fun a k v => by unfold Pbg at v; unfold WM; omega)) x7
      have hcls : ∀ a k, a < 207 → dI M' a k = dI C' a k := fun a k h => by rw [cM.i (by unfold WM; omega), dI_s, if_neg (by omega), dI_sL]
      have h84 : dI C' 181 10 = dI M' 207 84 := x8.1 181 10 207 84 cor_n
      refine ⟨M', stp_ok (k := 0) (b := dI M' 207 84) (D1 := sL C' 262 (0 : Int32).toNatClampNeg (dI C' 181 10).toInt64) ?_ ?_ ?_ (fun _ => ?_), Or.inr ⟨?_, ?_⟩⟩
      · unfold f_L_walk f_X11_walk f_X3_ending
        have d8 : dR D1 0 8 = some P := by rw [s2.r (by unfold Pcs; omega)]; exact p3
        rw [if_neg g1, if_pos g2, if_neg (by rw [m1, w]; decide), s1, bS, d8, q1, bS, bS]
        rfl
      · show f_X12_walk N (nn F) _ = _
        unfold f_X12_walk
        have v18 : dI (sI (sL C' 262 (0 : Int32).toNatClampNeg (dI C' 181 10).toInt64) 207 0 0) 207 18 = 1 := by rw [dI_s, if_neg (by omega), dI_sL, cDC.i (by unfold PmB PmC; omega)]; exact w
        rw [if_neg g1, if_pos g2, if_neg (by rw [v18]; decide), x1, bS, x5, if_neg (nn_in (by omega) (by omega)), nn_nat (by omega)]
        exact x4
      · rw [cM.i (by unfold WM; omega), dI_s, if_pos ⟨rfl, rfl⟩]
      · rw [cM.l (by unfold WM; omega), ← h84]
        exact fin_b
      · have cx : Ch Pr C' (sI (sL C' 262 (0 : Int32).toNatClampNeg (dI C' 181 10).toInt64) 207 0 0) := Ch.sI (by unfold Pr; omega) (Ch.sL (by unfold Pr; omega) Ch.rf)
        exact (cDC.mono (Q := Pwk) (fun a k v => v.elim (fun v => Or.inr (Or.inl v)) (fun v => Or.inr (Or.inr (Or.inl v))))).tr ((cx.mono (Q := Pwk) (fun a k v => Or.inl v)).tr (cM.mono (Q := Pwk) (fun a k v => Or.inr (Or.inr (Or.inr v)))))
      · obtain ⟨y1, y2⟩ := x8
        refine ⟨⟨fun k hk => ?_, fun k hk => ?_⟩, ⟨fun k hk => ?_, fun k hk => ?_⟩, fun k hk => ⟨⟨?_, (y2 k hk).1⟩, ⟨?_, (y2 k hk).2.2⟩⟩, ?_⟩
        · rw [hcls _ _ (by omega)]; exact y1 _ _ _ _ (cor_v hk)
        · rw [hcls _ _ (by omega)]; exact y1 _ _ _ _ (cor_r hk)
        · rw [hcls _ _ (by omega)]; exact y1 _ _ _ _ (cor_i hk)
        · rw [hcls _ _ (by omega)]; exact y1 _ _ _ _ (cor_o hk)
        · rw [hcls _ _ (by omega)]; exact y1 _ _ _ _ (cor_f hk)
        · rw [hcls _ _ (by omega)]; exact y1 _ _ _ _ (cor_w hk)
        · rw [hcls _ _ (by omega)]; exact y1 _ _ _ _ (cor_u)
  · obtain ⟨D', e1, e2⟩ := stp_not (K := K) (fL := f_L_walk N nu K a1 D) (fM := fun D => f_X12_walk N a1 D) (D := D) (r := 1) (by decide) (by
      unfold f_L_walk f_X11_walk f_X11_walk_b12
      by_cases w : a1 < 1
      · rw [if_pos w]; rfl
      · rw [if_neg w, if_neg (by rw [le6]; rw [lt1] at w; omega)]; rfl) (by
      show f_X12_walk N a1 D = _
      unfold f_X12_walk f_X12_walk_b17
      by_cases w : a1 < 1
      · rw [if_pos w]; rfl
      · rw [if_neg w, if_neg (by rw [le6]; rw [lt1] at w; omega)]; rfl)
    exact ⟨D', e1, Or.inl e2⟩
