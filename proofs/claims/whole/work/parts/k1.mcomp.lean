/-! the model's compile -/
theorem mcp_0 {N : Nat} {X : Dat} (h5 : dI X 207 5 = 0) : f_X12_compile N X = some (0, mf X 1) := by
  have e5 : dI (sI X 207 0 0) 207 5 = 0 := by rw [dI_s, if_neg (by omega)]; exact h5
  unfold f_X12_compile
  rw [e5, if_pos rfl]
  rfl
theorem mcp_p {N : Nat} {X M1 : Dat} (h5 : dI X 207 5 = 1) (hp : f_X12_parse N (sI X 207 0 0) = some M1) : f_X12_compile N X = (if (dI (sI M1 207 10 0) 207 40) < 0 then ((f_X12_flow N (sI M1 207 10 0)).bind (fun p19 => if (dI p19 207 40) < 0 then ((f_X12_translate N p19).bind (fun p22 => if (dI p22 207 61) ≤ 64 then (f_X12_compile_b112 N N 0 (sI (sI (sI p22 207 7 (-1)) 207 8 (-1)) 207 13 (dI (sI (sI p22 207 7 (-1)) 207 8 (-1)) 207 61))) else ((f_X12_refuse 64 10 4 p22).bind (fun p25 => some (p25.1, p25.2))))) else ((f_X12_refuse (dI p19 207 40) 9 3 p19).bind (fun p27 => some (p27.1, p27.2))))) else ((f_X12_refuse (dI (sI M1 207 10 0) 207 40) 8 2 (sI M1 207 10 0)).bind (fun p29 => some (p29.1, p29.2)))) := by
  have e5 : dI (sI X 207 0 0) 207 5 = 1 := by rw [dI_s, if_neg (by omega)]; exact h5
  unfold f_X12_compile
  rw [e5, if_neg (show ¬ (1 : Int32) = 0 by decide), hp, bS]
theorem mcp_bad {N q : Nat} {X M1 : Dat} (h5 : dI X 207 5 = 1) (hp : f_X12_parse N (sI X 207 0 0) = some M1) (h40 : dI M1 207 40 = nn q) (hq : q ≤ 240) : f_X12_compile N X = some (0, sI (sI (sI (sI M1 207 10 0) 207 7 (nn q)) 207 8 8) 207 0 2) := by
  have e40 : dI (sI M1 207 10 0) 207 40 = nn q := by rw [dI_s, if_neg (by omega)]; exact h40
  rw [mcp_p h5 hp, e40, if_neg (nn_nlt0 (by omega))]
  rfl
theorem mcp_f {N : Nat} {X M1 M3 : Dat} (h5 : dI X 207 5 = 1) (hp : f_X12_parse N (sI X 207 0 0) = some M1) (h40 : dI M1 207 40 = -1) (hf : f_X12_flow N (sI M1 207 10 0) = some M3) : f_X12_compile N X = (if (dI M3 207 40) < 0 then ((f_X12_translate N M3).bind (fun p22 => if (dI p22 207 61) ≤ 64 then (f_X12_compile_b112 N N 0 (sI (sI (sI p22 207 7 (-1)) 207 8 (-1)) 207 13 (dI (sI (sI p22 207 7 (-1)) 207 8 (-1)) 207 61))) else ((f_X12_refuse 64 10 4 p22).bind (fun p25 => some (p25.1, p25.2))))) else ((f_X12_refuse (dI M3 207 40) 9 3 M3).bind (fun p27 => some (p27.1, p27.2)))) := by
  have e40 : dI (sI M1 207 10 0) 207 40 = -1 := by rw [dI_s, if_neg (by omega)]; exact h40
  rw [mcp_p h5 hp, e40, if_pos (by decide), hf, bS]
theorem mcp_flow {N q : Nat} {X M1 M3 : Dat} (h5 : dI X 207 5 = 1) (hp : f_X12_parse N (sI X 207 0 0) = some M1) (h40 : dI M1 207 40 = -1) (hf : f_X12_flow N (sI M1 207 10 0) = some M3) (h4 : dI M3 207 40 = nn q) (hq : q ≤ 240) : f_X12_compile N X = some (0, sI (sI (sI M3 207 7 (nn q)) 207 8 9) 207 0 3) := by
  rw [mcp_f h5 hp h40 hf, h4, if_neg (nn_nlt0 (by omega))]
  rfl
theorem mcp_t {N : Nat} {X M1 M3 M5 : Dat} (h5 : dI X 207 5 = 1) (hp : f_X12_parse N (sI X 207 0 0) = some M1) (h40 : dI M1 207 40 = -1) (hf : f_X12_flow N (sI M1 207 10 0) = some M3) (h4 : dI M3 207 40 = -1) (ht : f_X12_translate N M3 = some M5) : f_X12_compile N X = (if (dI M5 207 61) ≤ 64 then (f_X12_compile_b112 N N 0 (sI (sI (sI M5 207 7 (-1)) 207 8 (-1)) 207 13 (dI M5 207 61))) else ((f_X12_refuse 64 10 4 M5).bind (fun p25 => some (p25.1, p25.2)))) := by
  rw [mcp_f h5 hp h40 hf, h4, if_pos (by decide), ht, bS]
  rfl
theorem mcp_long {N : Nat} {X M1 M3 M5 : Dat} (h5 : dI X 207 5 = 1) (hp : f_X12_parse N (sI X 207 0 0) = some M1) (h40 : dI M1 207 40 = -1) (hf : f_X12_flow N (sI M1 207 10 0) = some M3) (h4 : dI M3 207 40 = -1) (ht : f_X12_translate N M3 = some M5) (h61 : dI M5 207 61 = nn 65) : f_X12_compile N X = some (0, sI (sI (sI M5 207 7 64) 207 8 10) 207 0 4) := by
  rw [mcp_t h5 hp h40 hf h4 ht, h61, if_neg (by decide)]
  rfl
theorem mcp_ok {N c : Nat} {X M1 M3 M5 : Dat} (h5 : dI X 207 5 = 1) (hp : f_X12_parse N (sI X 207 0 0) = some M1) (h40 : dI M1 207 40 = -1) (hf : f_X12_flow N (sI M1 207 10 0) = some M3) (h4 : dI M3 207 40 = -1) (ht : f_X12_translate N M3 = some M5) (h61 : dI M5 207 61 = nn c) (hc : c ≤ 64) : f_X12_compile N X = f_X12_compile_b112 N N 0 (sI (sI (sI M5 207 7 (-1)) 207 8 (-1)) 207 13 (nn c)) := by
  rw [mcp_t h5 hp h40 hf h4 ht, h61, if_pos (show nn c ≤ (64 : Int32) from (nn_le (b := 64) (by omega) (by omega)).mpr hc)]
def Pco (a _k : Nat) : Prop := a = 212 ∨ a = 213
theorem mc_code {N c : Nat} (hc : c ≤ 64) {X : Dat} : ∀ (r g i : Nat) (M : Dat), i + r = c → r < g → dI M 207 61 = nn c → Ch Pco X M → (∀ k, k < i → dI M 212 k = dI X 242 k ∧ dI M 213 k = dI X 243 k) → ∃ M', f_X12_compile_b112 N g (nn i) M = f_X12_compile_b152 N N 0 M' ∧ Ch Pco X M' ∧ ∀ k, k < c → dI M' 212 k = dI X 242 k ∧ dI M' 213 k = dI X 243 k := by
  intro r
  induction r with
  | zero =>
    intro g i M hi hg h61 cM hk
    obtain ⟨g, rfl⟩ : ∃ g', g = g' + 1 := ⟨g - 1, by omega⟩
    obtain rfl : i = c := by omega
    exact ⟨M, by rw [f_X12_compile_b112, h61, if_pos ((nn_le (by omega) (by omega)).mpr (Nat.le_refl _))], cM, hk⟩
  | succ r ih =>
    intro g i M hi hg h61 cM hk
    obtain ⟨g, rfl⟩ : ∃ g', g = g' + 1 := ⟨g - 1, by omega⟩
    have i65 := nn_in (k := i) (n := 65) (by omega) (by omega)
    have i64 := nn_in (k := i) (n := 64) (by omega) (by omega)
    rw [f_X12_compile_b112, h61, if_neg (show ¬ nn c ≤ nn i from fun q => by have := (nn_le (by omega) (by omega)).mp q; omega)]
    simp only [if_neg i65, if_neg i64]
    rw [nn_1, nn_nat (by omega)]
    have e3 : dI (sI M 212 i (dI M 242 i)) 243 i = dI X 243 i := by rw [dI_s, if_neg (by omega), cM.i (by unfold Pco; omega)]
    have e2 : dI M 242 i = dI X 242 i := cM.i (by unfold Pco; omega)
    rw [e3, e2]
    refine ih g (i + 1) (sI (sI M 212 i (dI X 242 i)) 213 i (dI X 243 i)) (by omega) (by omega) h61 (Ch.sI (by unfold Pco; omega) (Ch.sI (by unfold Pco; omega) cM)) (fun k hk' => ?_)
    have z1 : dI (sI (sI M 212 i (dI X 242 i)) 213 i (dI X 243 i)) 212 k = if k = i then dI X 242 i else dI M 212 k := by
      rw [dI_s, if_neg (by omega), dI_s]
      by_cases q : k = i
      · rw [if_pos ⟨rfl, q⟩, if_pos q]
      · rw [if_neg (fun u => q u.2), if_neg q]
    have z2 : dI (sI (sI M 212 i (dI X 242 i)) 213 i (dI X 243 i)) 213 k = if k = i then dI X 243 i else dI M 213 k := by
      rw [dI_s]
      by_cases q : k = i
      · rw [if_pos ⟨rfl, q⟩, if_pos q]
      · rw [if_neg (fun u => q u.2), if_neg q, dI_s, if_neg (by omega)]
    rw [z1, z2]
    by_cases q : k = i
    · rw [if_pos q, if_pos q, q]
      exact ⟨rfl, rfl⟩
    · rw [if_neg q, if_neg q]
      exact hk k (by omega)
def Pmk (a _k : Nat) : Prop := a = 214 ∨ a = 215
theorem mc_marks {N nu P : Nat} {C X : Dat} (hR : Ro nu P C X) : ∀ (r g i : Nat) (M : Dat), i + r = 26 → r < g → Ch Pmk X M → (∀ k, k < i → dI M 214 k = dI C (P + 2) k ∧ dI M 215 k = dI C (P + 2) (26 + k)) → ∃ M', f_X12_compile_b152 N g (nn i) M = some (dI X 207 13, sI (sI (sI (sI M' 207 18 1) 207 19 (dI X 207 35)) 207 16 0) 207 17 0) ∧ Ch Pmk X M' ∧ ∀ k, k < 26 → dI M' 214 k = dI C (P + 2) k ∧ dI M' 215 k = dI C (P + 2) (26 + k) := by
  intro r
  induction r with
  | zero =>
    intro g i M hi hg cM hk
    obtain ⟨g, rfl⟩ : ∃ g', g = g' + 1 := ⟨g - 1, by omega⟩
    obtain rfl : i = 26 := by omega
    refine ⟨M, ?_, cM, hk⟩
    have e1 : dI (sI M 207 18 1) 207 35 = dI X 207 35 := by rw [dI_s, if_neg (by omega), cM.i (by unfold Pmk; omega)]
    rw [f_X12_compile_b152, if_pos (show (26 : Int32) ≤ nn 26 by decide), e1]
    have e2 : dI (sI (sI (sI (sI M 207 18 1) 207 19 (dI X 207 35)) 207 16 0) 207 17 0) 207 13 = dI X 207 13 := by
      rw [dI_s, if_neg (by omega), dI_s, if_neg (by omega), dI_s, if_neg (by omega), dI_s, if_neg (by omega), cM.i (by unfold Pmk; omega)]
    rw [e2]
  | succ r ih =>
    intro g i M hi hg cM hk
    obtain ⟨g, rfl⟩ : ∃ g', g = g' + 1 := ⟨g - 1, by omega⟩
    have i26 := nn_in (k := i) (n := 26) (by omega) (by omega)
    have r1 : (if dI X 229 i = 2 then dI X 230 i else -1) = dI C (P + 2) i := by
      rcases hR i (by omega) with ⟨-, h2, h3, -⟩ | ⟨-, h2, h3, -⟩ | ⟨-, h2, h3, -⟩ | ⟨-, h2, h3, -⟩ | ⟨-, h2, h3, -⟩ | ⟨-, h2, h3, -⟩
      · rw [h2, h3, if_neg (by decide)]
      · rw [h2, h3, if_neg (by decide)]
      · rw [h2, h3, if_pos rfl]
      · rw [h2, h3, if_neg (by decide)]
      · rw [h2, h3, if_neg (by decide)]
      · rw [h2, h3, if_neg (by decide)]
    have r2 : (if dI X 229 i = 3 then dI X 230 i else -1) = dI C (P + 2) (26 + i) := by
      rcases hR i (by omega) with ⟨-, h2, -, h3⟩ | ⟨-, h2, -, h3⟩ | ⟨-, h2, -, h3, -⟩ | ⟨-, h2, -, h3, -⟩ | ⟨-, h2, -, h3⟩ | ⟨-, h2, -, h3⟩
      · rw [h2, h3, if_neg (by decide)]
      · rw [h2, h3, if_neg (by decide)]
      · rw [h2, h3, if_neg (by decide)]
      · rw [h2, h3, if_pos rfl]
      · rw [h2, h3, if_neg (by decide)]
      · rw [h2, h3, if_neg (by decide)]
    have m9 : dI M 229 i = dI X 229 i := cM.i (by unfold Pmk; omega)
    have m0 : dI M 230 i = dI X 230 i := cM.i (by unfold Pmk; omega)
    have st : ∀ v, f_X12_compile_b183 N (f_X12_compile_b152 N g) (nn i) v (nn i) M = f_X12_compile_b152 N g (nn (i + 1)) (sI (sI M 214 i v) 215 i (dI C (P + 2) (26 + i))) := fun v => by
      have e9 : dI (sI M 214 i v) 229 i = dI X 229 i := by rw [dI_s, if_neg (by omega)]; exact m9
      have e0 : dI (sI M 214 i v) 230 i = dI X 230 i := by rw [dI_s, if_neg (by omega)]; exact m0
      unfold f_X12_compile_b183 f_X12_compile_b209
      simp only [if_neg i26]
      rw [nn_nat (by omega), e9, e0, nn_1, ← r2]
      by_cases q : dI X 229 i = 3
      · rw [if_pos q, if_pos q]
      · rw [if_neg q, if_neg q]
    have go : f_X12_compile_b152 N (g + 1) (nn i) M = f_X12_compile_b152 N g (nn (i + 1)) (sI (sI M 214 i (dI C (P + 2) i)) 215 i (dI C (P + 2) (26 + i))) := by
      rw [f_X12_compile_b152, if_neg (show ¬ (26 : Int32) ≤ nn i from fun w => by have := (nn_le (a := 26) (by omega) (by omega)).mp w; omega)]
      simp only [if_neg i26]
      rw [nn_nat (by omega), m9, m0, ← r1]
      by_cases q : dI X 229 i = 2
      · rw [if_pos q, if_pos q, st]
      · rw [if_neg q, if_neg q, st]
    rw [go]
    refine ih g (i + 1) (sI (sI M 214 i (dI C (P + 2) i)) 215 i (dI C (P + 2) (26 + i))) (by omega) (by omega) (Ch.sI (by unfold Pmk; omega) (Ch.sI (by unfold Pmk; omega) cM)) (fun k hk' => ?_)
    by_cases q : k = i
    · subst q
      refine ⟨?_, ?_⟩
      · rw [dI_s, if_neg (by omega), dI_s, if_pos ⟨rfl, rfl⟩]
      · rw [dI_s, if_pos ⟨rfl, rfl⟩]
    · rw [dI_s, if_neg (by omega), dI_s, if_neg (by omega), dI_s, if_neg (by omega), dI_s, if_neg (by omega)]
      exact hk k (by omega)
theorem ro_rng {nu P : Nat} {C X : Dat} (hn : nu ≤ 6) (hR : Ro nu P C X) {x : Nat} (hx : x < 26) : (-1 ≤ (dI C (P + 2) x).toInt ∧ (dI C (P + 2) x).toInt < nu) ∧ (-1 ≤ (dI C (P + 2) (26 + x)).toInt ∧ (dI C (P + 2) (26 + x)).toInt < nu) := by
  have m1 : (-1 : Int32).toInt = -1 := by decide
  rcases hR x hx with ⟨-, -, h3, h4⟩ | ⟨-, -, h3, h4⟩ | ⟨-, -, h3, h4, l, hl, e⟩ | ⟨-, -, h3, h4, l, hl, e⟩ | ⟨-, -, h3, h4⟩ | ⟨-, -, h3, h4⟩
  · rw [h3, h4, m1]; omega
  · rw [h3, h4, m1]; omega
  · rw [h3, h4, e, m1, nn_int (by omega)]; omega
  · rw [h3, h4, e, m1, nn_int (by omega)]; omega
  · rw [h3, h4, m1]; omega
  · rw [h3, h4, m1]; omega
