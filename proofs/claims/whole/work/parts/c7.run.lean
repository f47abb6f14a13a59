/-! run -/
def Pbg (a k : Nat) : Prop := a = 259 ∨ a = 260 ∨ a = 256 ∨ a = 258 ∨ (a = 207 ∧ (k = 82 ∨ k = 83 ∨ k = 84))
def Bg (E : Dat) : Prop := (∀ k, k < 26 → dI E 259 k = 0) ∧ (∀ k, k < 208 → dI E 260 k = 0) ∧ (∀ k, k < 6 → dI E 256 k = 0 ∧ dI E 258 k = 0) ∧ dI E 207 82 = 0 ∧ dI E 207 83 = 0 ∧ dI E 207 84 = -1
theorem bg3 {N : Nat} {X : Dat} : ∀ (r g i : Nat) (E : Dat), i + r = 6 → r < g → Ch Pbg X E → (∀ k, k < 26 → dI E 259 k = 0) → (∀ k, k < 208 → dI E 260 k = 0) → (∀ k, k < i → dI E 256 k = 0 ∧ dI E 258 k = 0) → ∃ E', f_X12_begin_b45 N g (nn i) E = some E' ∧ Ch Pbg X E' ∧ Bg E' := by
  intro r
  induction r with
  | zero =>
    intro g i E hi hg hc h1 h2 h3
    obtain ⟨g, rfl⟩ : ∃ g', g = g' + 1 := ⟨g - 1, by omega⟩
    obtain rfl : i = 6 := by omega
    refine ⟨_, by rw [f_X12_begin_b45, if_pos (show (6 : Int32) ≤ nn 6 by decide)], Ch.sI (by unfold Pbg; omega) (Ch.sI (by unfold Pbg; omega) (Ch.sI (by unfold Pbg; omega) hc)), ?_⟩
    have c : Ch (fun a k => a = 207) E (sI (sI (sI E 207 82 0) 207 83 0) 207 84 (-1)) := Ch.sI rfl (Ch.sI rfl (Ch.sI rfl Ch.rf))
    refine ⟨fun k hk => by rw [c.i (by omega)]; exact h1 k hk, fun k hk => by rw [c.i (by omega)]; exact h2 k hk, fun k hk => by rw [c.i (by omega), c.i (by omega)]; exact h3 k hk, ?_, ?_, ?_⟩
    · rw [dI_s, if_neg (by omega), dI_s, if_neg (by omega), dI_s, if_pos ⟨rfl, rfl⟩]
    · rw [dI_s, if_neg (by omega), dI_s, if_pos ⟨rfl, rfl⟩]
    · rw [dI_s, if_pos ⟨rfl, rfl⟩]
  | succ r ih =>
    intro g i E hi hg hc h1 h2 h3
    obtain ⟨g, rfl⟩ : ∃ g', g = g' + 1 := ⟨g - 1, by omega⟩
    have i1 := nn_in (k := i) (n := 6) (by omega) (by omega)
    rw [f_X12_begin_b45, if_neg (show ¬ (6 : Int32) ≤ nn i from fun w => by have := (nn_le (a := 6) (by omega) (by omega)).mp w; omega), if_neg i1, if_neg i1, nn_1, nn_nat (by omega)]
    have c : Ch (fun a k => (a = 256 ∨ a = 258) ∧ k = i) E (sI (sI E 256 i 0) 258 i 0) := Ch.sI (by omega) (Ch.sI (by omega) Ch.rf)
    refine ih g (i + 1) _ (by omega) (by omega) (hc.tr (c.mono (fun a k w => by unfold Pbg; omega))) (fun k hk => by rw [c.i (by omega)]; exact h1 k hk) (fun k hk => by rw [c.i (by omega)]; exact h2 k hk) (fun k hk => ?_)
    by_cases e : k = i
    · subst e
      exact ⟨by rw [dI_s, if_neg (by omega), dI_s, if_pos ⟨rfl, rfl⟩], by rw [dI_s, if_pos ⟨rfl, rfl⟩]⟩
    · rw [c.i (by omega), c.i (by omega)]; exact h3 k (by omega)
theorem bg2 {N : Nat} (hN : 1000 ≤ N) {X : Dat} : ∀ (r g i : Nat) (E : Dat), i + r = 208 → r < g → Ch Pbg X E → (∀ k, k < 26 → dI E 259 k = 0) → (∀ k, k < i → dI E 260 k = 0) → ∃ E', f_X12_begin_b23 N g (nn i) E = some E' ∧ Ch Pbg X E' ∧ Bg E' := by
  intro r
  induction r with
  | zero =>
    intro g i E hi hg hc h1 h2
    obtain ⟨g, rfl⟩ : ∃ g', g = g' + 1 := ⟨g - 1, by omega⟩
    obtain rfl : i = 208 := by omega
    rw [f_X12_begin_b23, if_pos (show (208 : Int32) ≤ nn 208 by decide)]
    exact bg3 (N := N) 6 N 0 E (by omega) (by omega) hc h1 h2 (fun k hk => absurd hk (by omega))
  | succ r ih =>
    intro g i E hi hg hc h1 h2
    obtain ⟨g, rfl⟩ : ∃ g', g = g' + 1 := ⟨g - 1, by omega⟩
    have i1 := nn_in (k := i) (n := 208) (by omega) (by omega)
    rw [f_X12_begin_b23, if_neg (show ¬ (208 : Int32) ≤ nn i from fun w => by have := (nn_le (a := 208) (by omega) (by omega)).mp w; omega), if_neg i1, nn_1, nn_nat (by omega)]
    refine ih g (i + 1) _ (by omega) (by omega) (Ch.sI (by unfold Pbg; omega) hc) (fun k hk => by rw [dI_s, if_neg (by omega)]; exact h1 k hk) (fun k hk => ?_)
    rw [dI_s]
    by_cases e : k = i
    · rw [if_pos ⟨rfl, e⟩]
    · rw [if_neg (fun w => e w.2)]; exact h2 k (by omega)
theorem bg1 {N : Nat} (hN : 1000 ≤ N) {X : Dat} : ∀ (r g i : Nat) (E : Dat), i + r = 26 → r < g → Ch Pbg X E → (∀ k, k < i → dI E 259 k = 0) → ∃ E', f_X12_begin_b2 N g (nn i) E = some E' ∧ Ch Pbg X E' ∧ Bg E' := by
  intro r
  induction r with
  | zero =>
    intro g i E hi hg hc h1
    obtain ⟨g, rfl⟩ : ∃ g', g = g' + 1 := ⟨g - 1, by omega⟩
    obtain rfl : i = 26 := by omega
    rw [f_X12_begin_b2, if_pos (show (26 : Int32) ≤ nn 26 by decide)]
    exact bg2 hN 208 N 0 E (by omega) (by omega) hc h1 (fun k hk => absurd hk (by omega))
  | succ r ih =>
    intro g i E hi hg hc h1
    obtain ⟨g, rfl⟩ : ∃ g', g = g' + 1 := ⟨g - 1, by omega⟩
    have i1 := nn_in (k := i) (n := 26) (by omega) (by omega)
    rw [f_X12_begin_b2, if_neg (show ¬ (26 : Int32) ≤ nn i from fun w => by have := (nn_le (a := 26) (by omega) (by omega)).mp w; omega), if_neg i1, nn_1, nn_nat (by omega)]
    refine ih g (i + 1) _ (by omega) (by omega) (Ch.sI (by unfold Pbg; omega) hc) (fun k hk => ?_)
    rw [dI_s]
    by_cases e : k = i
    · rw [if_pos ⟨rfl, e⟩]
    · rw [if_neg (fun w => e w.2)]; exact h1 k (by omega)
theorem e_begin {N : Nat} (hN : 1000 ≤ N) (X : Dat) : ∃ E, f_X12_begin N X = some E ∧ Ch Pbg X E ∧ Bg E := bg1 hN 26 N 0 X (by omega) (by omega) Ch.rf (fun k hk => absurd hk (by omega))
/-- the class's start -/
def Cs (F : Nat) (E : Dat) : Prop := (∀ k, k < 234 → dI E 182 k = 0) ∧ (∀ k, k < 6 → dI E 186 k = 0 ∧ dI E 188 k = 0) ∧ dI E 181 2 = 0 ∧ dI E 181 8 = nn F ∧ dI E 181 9 = 0 ∧ dI E 181 10 = -1
def Pcs (a k : Nat) : Prop := a = 182 ∨ a = 186 ∨ a = 188 ∨ (a = 181 ∧ (k = 2 ∨ k = 8 ∨ k = 9 ∨ k = 10))
theorem e_cstart {N nu F : Nat} {K : Nat → Nat} (hN : 1000 ≤ N) (D : Dat) : ∃ E, f_X3_start N nu K (nn F) D = some E ∧ Ch Pcs D E ∧ Cs F E := by
  unfold f_X3_start
  rw [fill_e (a := 182) (n := 234) (kd_lt (by decide) rfl) rfl (by omega) (by omega), bS, fill_e (a := 186) (n := 6) (kd_lt (by decide) rfl) rfl (by omega) (by omega), bS, fill_e (a := 188) (n := 6) (kd_lt (by decide) rfl) rfl (by omega) (by omega), bS]
  refine ⟨_, rfl, Ch.sI (by unfold Pcs; omega) (Ch.sI (by unfold Pcs; omega) (Ch.sI (by unfold Pcs; omega) (Ch.sI (by unfold Pcs; omega) (Ch.sF (fun k => by unfold Pcs; omega) (Ch.sF (fun k => by unfold Pcs; omega) (Ch.sF (fun k => by unfold Pcs; omega) Ch.rf)))))), ?_⟩
  refine ⟨fun k hk => ?_, fun k hk => ⟨?_, ?_⟩, ?_, ?_, ?_, ?_⟩
  · rw [dI_s, if_neg (by omega), dI_s, if_neg (by omega), dI_s, if_neg (by omega), dI_s, if_neg (by omega), dI_F, if_neg (by omega), dI_F, if_neg (by omega), dI_F, if_pos (by omega)]
  · rw [dI_s, if_neg (by omega), dI_s, if_neg (by omega), dI_s, if_neg (by omega), dI_s, if_neg (by omega), dI_F, if_neg (by omega), dI_F, if_pos (by omega)]
  · rw [dI_s, if_neg (by omega), dI_s, if_neg (by omega), dI_s, if_neg (by omega), dI_s, if_neg (by omega), dI_F, if_pos (by omega)]
  · rw [dI_s, if_neg (by omega), dI_s, if_neg (by omega), dI_s, if_neg (by omega), dI_s, if_pos ⟨rfl, rfl⟩]
  · rw [dI_s, if_neg (by omega), dI_s, if_neg (by omega), dI_s, if_pos ⟨rfl, rfl⟩]
  · rw [dI_s, if_neg (by omega), dI_s, if_pos ⟨rfl, rfl⟩]
  · rw [dI_s, if_pos ⟨rfl, rfl⟩]
theorem start_Sm {F : Nat} {D D1 X E : Dat} (hA : IA D) (c1 : Ch Pcs D D1) (s1 : Cs F D1) (hX : ∀ a k, 254 ≤ a → a ≤ 257 → dI X a k = dI D a k) (c2 : Ch Pbg X E) (s2 : Bg E) : Sm 0 D1 E := by
  obtain ⟨-, ⟨i1, i2⟩, i3, -⟩ := hA
  obtain ⟨a1, a2, a3, a4, a5, a6⟩ := s1
  obtain ⟨b1, b2, b3, b4, b5, b6⟩ := s2
  refine ⟨⟨by omega, a3, b4⟩, fun i hi => absurd hi (by omega), fun a k b j h => ?_, fun l hl => ?_⟩
  · rcases h with ⟨rfl, h1, rfl, rfl⟩ | ⟨rfl, h1, h2, rfl, h3⟩ | ⟨rfl, h1, rfl, rfl⟩ | ⟨rfl, h1, rfl, rfl⟩ | ⟨rfl, h1, rfl, rfl⟩ | ⟨rfl, h1, rfl, rfl⟩ | ⟨rfl, h1, rfl, rfl⟩ | ⟨rfl, rfl, rfl, rfl⟩ | ⟨rfl, rfl, rfl, rfl⟩
    · rw [a1 _ (by omega), b1 _ h1]
    · rw [a1 _ h2, b2 _ (by omega)]
    · rw [c1.i (by unfold Pcs; omega), c2.i (by unfold Pbg; omega), hX _ _ (by omega) (by omega)]; exact i1 _ h1
    · rw [c1.i (by unfold Pcs; omega), c2.i (by unfold Pbg; omega), hX _ _ (by omega) (by omega)]; exact (i3 _ h1).1.1
    · rw [(a2 _ h1).1, (b3 _ h1).1]
    · rw [c1.i (by unfold Pcs; omega), c2.i (by unfold Pbg; omega), hX _ _ (by omega) (by omega)]; exact i2 _ h1
    · rw [(a2 _ h1).2, (b3 _ h1).2]
    · rw [a5, b5]
    · rw [a6, b6]
  · rw [(b3 l hl).1, (b3 l hl).2, c2.i (by unfold Pbg; omega), hX _ _ (by omega) (by omega)]
    exact ⟨(i3 l hl).1.2, by decide, by decide⟩
def Prun (a k : Nat) : Prop := Pr a k ∨ PmB a k ∨ PmM a k
theorem stp_run {N nu n c sz : Nat} {K : Nat → Nat} {D : Dat} (hN : 1000 ≤ N) (a1 a2 a3 : Int32) (hS : IS nu D) (hC : IC c sz D) (hA : IA D) (hV : dI D 207 16 = 1 → ∃ ht, VOK ht sz D) : ∃ D', stp_13 N nu n K D a1 a2 a3 = some (K, D') ∧ (Ch Pr D D' ∨ (Ch Prun D D' ∧ IA D')) := by
  obtain ⟨-, -, -, ⟨m1, m2⟩, -⟩ := id hS
  obtain ⟨c1, ⟨c2, -⟩, hz, ⟨c5, c6⟩, hcode⟩ := id hC
  have lt1 : ∀ x : Int32, (x < 1) ↔ x.toInt < 1 := fun x => Int32.lt_iff_toInt_lt
  have le6 : ∀ x : Int32, (x ≤ 600) ↔ x.toInt ≤ 600 := fun x => Int32.le_iff_toInt_le
  unfold stp_13
  by_cases hr : 1 ≤ a1.toInt ∧ a1.toInt ≤ 600
  · obtain ⟨F, hF, rfl⟩ := nn_of (show 0 ≤ a1.toInt by omega)
    rw [nn_int hF] at hr
    have g1 : ¬ nn F < 1 := by rw [lt1, nn_int hF]; omega
    have g2 : nn F ≤ 600 := by rw [le6, nn_int hF]; omega
    rcases m2 with w | w
    · obtain ⟨D', e1, e2⟩ := stp_not (K := K) (fL := f_L_run N nu K (nn F) D) (fM := fun D => f_X12_run N (nn F) D) (D := D) (r := 2) (by decide) (by
        unfold f_L_run f_X11_run
        rw [if_neg g1, if_pos g2, if_pos (m1.trans w)]
        rfl) (by
        show f_X12_run N (nn F) D = _
        unfold f_X12_run
        rw [if_neg g1, if_pos g2, if_pos (by rw [dI_s, if_neg (by omega)]; exact w)]
        rfl)
      exact ⟨D', e1, Or.inl e2⟩
    · obtain ⟨ht, hVk⟩ := hV w
      obtain ⟨D1, s1, s2, s3⟩ := e_cstart (N := N) (nu := nu) (F := F) (K := K) hN D
      have go : ∀ X : Dat, (∀ a k, 207 ≤ a → a ≠ 262 → ¬ (a = 207 ∧ k = 0) → dI X a k = dI D a k) → ∃ E D' E', f_X12_begin N X = some E ∧ Ch Pbg X E ∧ f_X3_goOver N (some c) D1 = some D' ∧ f_X12_run_b42 N N (nn F) 0 E = some (dI E' 207 84, E') ∧ (∃ h', Sm h' D' E') ∧ Ch PmB D1 D' ∧ Ch PmM E E' := by
        intro X hX
        obtain ⟨E, t1, t2, t3⟩ := e_begin hN X
        have hE : ∀ a k, a = 212 ∨ a = 213 → dI E a k = dI D a k := fun a k h => by rw [t2.i (by unfold Pbg; omega), hX _ _ (by omega) (by omega) (by omega)]
        have hD1 : ∀ a k, 190 ≤ a → dI D1 a k = dI D a k := fun a k h => s2.i (by unfold Pcs; omega)
        have hVE : VOK ht sz E := by
          refine ⟨hVk.1, fun i h hi => ?_⟩
          obtain ⟨v1, o, v2, v3, v4, v5, v6, v7⟩ := hVk.2 i h hi
          unfold VNx at v7 ⊢
          rw [hE 212 i (Or.inl rfl), hE 213 i (Or.inr rfl)]
          exact ⟨v1, o, v2, v3, v4, v5, v6, v7⟩
        have sz0 : 0 < sz := (hVk.2 0 0 hVk.1).1
        obtain ⟨D', E', r1, r2, r3, r4, r5⟩ := run_l (N := N) (ht := ht) c1 hz (by omega) F N N 0 0 0 D1 E (by omega) (by omega) (by omega) (by omega) (start_Sm hA s2 s3 (fun a k h1 h2 => hX a k (by omega) (by omega) (by omega)) t2 t3) (fun _ => hVk.1) (Or.inl s3.2.2.2.2.2) s3.2.2.2.2.1 s3.2.2.2.1 (Or.inl sz0) (by omega) hVE (by rw [hD1 _ _ (by omega)]; exact c5) (fun j hj => by rw [hD1 _ _ (by omega), hD1 _ _ (by omega), hE 212 j (Or.inl rfl), hE 213 j (Or.inr rfl)]; exact ⟨(hcode j hj).1, (hcode j hj).2.1⟩)
        exact ⟨E, D', E', t1, t2, r1, r2, r3, r4, r5⟩
      obtain ⟨-, D', -, -, -, p1, -, -, p2, -⟩ := go D (fun a k _ _ _ => rfl)
      have cDD' : Ch PmB D D' := (s2.mono (fun a k v => by unfold Pcs at v; unfold PmB PmC; omega)).tr p2
      obtain ⟨E, D'', E', q1, q2, q3, q4, ⟨h', q5⟩, q6, q7⟩ := go (sI (sL D' 262 (0 : Int32).toNatClampNeg (dI D' 181 10).toInt64) 207 0 0) (fun a k h1 h2 h3 => by rw [dI_s, if_neg h3, dI_sL, cDD'.i (by unfold PmB PmC; omega)])
      have e : D'' = D' := Option.some.inj (q3.symm.trans p1)
      subst e
      have cE : Ch PmM (sI (sL D'' 262 (0 : Int32).toNatClampNeg (dI D'' 181 10).toInt64) 207 0 0) E' := (q2.mono (fun a k v => by unfold Pbg at v; unfold PmM; omega)).tr q7
      have hcls : ∀ a k, a < 207 → dI E' a k = dI D'' a k := fun a k h => by rw [cE.i (by unfold PmM; omega), dI_s, if_neg (by omega), dI_sL]
      have h84 : dI D'' 181 10 = dI E' 207 84 := q5.2.2.1 181 10 207 84 cor_n
      refine ⟨E', stp_ok (k := 0) (b := dI E' 207 84) (D1 := sL D'' 262 (0 : Int32).toNatClampNeg (dI D'' 181 10).toInt64) ?_ ?_ ?_ (fun _ => ?_), Or.inr ⟨?_, ?_⟩⟩
      · unfold f_L_run f_X11_run f_X3_ending
        have d10 : dR D1 0 10 = some c := by rw [s2.r (by unfold Pcs; omega)]; exact c2
        rw [if_neg g1, if_pos g2, if_neg (by rw [m1, w]; decide), s1, bS, d10, q3, bS, bS]
        rfl
      · show f_X12_run N (nn F) _ = _
        unfold f_X12_run
        have v16 : dI (sI (sL D'' 262 (0 : Int32).toNatClampNeg (dI D'' 181 10).toInt64) 207 0 0) 207 16 = 1 := by rw [dI_s, if_neg (by omega), dI_sL, cDD'.i (by unfold PmB PmC; omega)]; exact w
        rw [if_neg g1, if_pos g2, if_neg (by rw [v16]; decide), q1, bS]
        exact q4
      · rw [cE.i (by unfold PmM; omega), dI_s, if_pos ⟨rfl, rfl⟩]
      · rw [cE.l (by unfold PmM; omega), ← h84]
        exact fin_b
      · have cx : Ch Pr D'' (sI (sL D'' 262 (0 : Int32).toNatClampNeg (dI D'' 181 10).toInt64) 207 0 0) := Ch.sI (by unfold Pr; omega) (Ch.sL (by unfold Pr; omega) Ch.rf)
        exact (cDD'.mono (Q := Prun) (fun a k v => Or.inr (Or.inl v))).tr ((cx.mono (Q := Prun) (fun a k v => Or.inl v)).tr (cE.mono (Q := Prun) (fun a k v => Or.inr (Or.inr v))))
      · obtain ⟨-, -, y1, y2⟩ := q5
        refine ⟨⟨fun k hk => ?_, fun k hk => ?_⟩, ⟨fun k hk => ?_, fun k hk => ?_⟩, fun k hk => ⟨⟨?_, (y2 k hk).1⟩, ⟨?_, (y2 k hk).2.2⟩⟩, ?_⟩
        · rw [hcls _ _ (by omega)]; exact y1 _ _ _ _ (cor_v hk)
        · rw [hcls _ _ (by omega)]; exact y1 _ _ _ _ (cor_r hk)
        · rw [hcls _ _ (by omega)]; exact y1 _ _ _ _ (cor_i hk)
        · rw [hcls _ _ (by omega)]; exact y1 _ _ _ _ (cor_o hk)
        · rw [hcls _ _ (by omega)]; exact y1 _ _ _ _ (cor_f hk)
        · rw [hcls _ _ (by omega)]; exact y1 _ _ _ _ (cor_w hk)
        · rw [hcls _ _ (by omega)]; exact y1 _ _ _ _ (cor_u)
  · obtain ⟨D', e1, e2⟩ := stp_not (K := K) (fL := f_L_run N nu K a1 D) (fM := fun D => f_X12_run N a1 D) (D := D) (r := 1) (by decide) (by
      unfold f_L_run f_X11_run f_X11_run_b12
      by_cases w : a1 < 1
      · rw [if_pos w]; rfl
      · rw [if_neg w, if_neg (by rw [le6]; rw [lt1] at w; omega)]; rfl) (by
      show f_X12_run N a1 D = _
      unfold f_X12_run f_X12_run_b17
      by_cases w : a1 < 1
      · rw [if_pos w]; rfl
      · rw [if_neg w, if_neg (by rw [le6]; rw [lt1] at w; omega)]; rfl)
    exact ⟨D', e1, Or.inl e2⟩
