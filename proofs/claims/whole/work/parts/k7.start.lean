/-! the beginning -/
theorem st_li {nu : Nat} (hnu : nu ≤ 6) {X : Dat} : ∀ (r g i : Nat) (D : Dat), i + r = nu → r < g → Ch (fun a _ => a = 2) X D → (∀ k, k < i → dI D 2 k = nn (2 ^ k)) → ∃ z, f_li nu g (nn nu) (nn i) D = some z ∧ Ch (fun a _ => a = 2) X z ∧ ∀ k, k < nu → dI z 2 k = nn (2 ^ k) := by
  intro r
  induction r with
  | zero =>
    intro g i D hi hg hc hk
    obtain ⟨g, rfl⟩ : ∃ g', g = g' + 1 := ⟨g - 1, by omega⟩
    obtain rfl : i = nu := by omega
    exact ⟨D, by rw [f_li, if_pos ((nn_le (by omega) (by omega)).mpr (Nat.le_refl _))], hc, hk⟩
  | succ r ih =>
    intro g i D hi hg hc hk
    obtain ⟨g, rfl⟩ : ∃ g', g = g' + 1 := ⟨g - 1, by omega⟩
    have e : (1 : Int32) <<< (nn i &&& 31) = nn (2 ^ i) := by
      rcases (show i = 0 ∨ i = 1 ∨ i = 2 ∨ i = 3 ∨ i = 4 ∨ i = 5 by omega) with rfl | rfl | rfl | rfl | rfl | rfl <;> decide
    rw [f_li, if_neg (show ¬ nn nu ≤ nn i from fun q => by have := (nn_le (by omega) (by omega)).mp q; omega), if_neg (nn_in (by omega) (by omega)), e, nn_1, nn_nat (by omega)]
    refine ih g (i + 1) _ (by omega) (by omega) (Ch.sI rfl hc) (fun k hk' => ?_)
    rw [dI_s]
    by_cases q : k = i
    · rw [if_pos ⟨rfl, q⟩, q]
    · rw [if_neg (fun u => q u.2)]; exact hk k (by omega)
theorem st_fl {X : Dat} : ∀ (r g i : Nat) (D : Dat), i + r = 52 → r < g → Ch (fun a _ => a = 190) X D → (∀ k, k < i → dI D 190 k = -1) → ∃ z, f_fl 52 g 190 (-1) (nn i) (nn 52) D = some z ∧ Ch (fun a _ => a = 190) X z ∧ ∀ k, k < 52 → dI z 190 k = -1 := by
  intro r
  induction r with
  | zero =>
    intro g i D hi hg hc hk
    obtain ⟨g, rfl⟩ : ∃ g', g = g' + 1 := ⟨g - 1, by omega⟩
    obtain rfl : i = 52 := by omega
    exact ⟨D, by rw [f_fl, if_pos ((nn_le (by omega) (by omega)).mpr (Nat.le_refl _))], hc, hk⟩
  | succ r ih =>
    intro g i D hi hg hc hk
    obtain ⟨g, rfl⟩ : ∃ g', g = g' + 1 := ⟨g - 1, by omega⟩
    rw [f_fl, if_neg (show ¬ nn 52 ≤ nn i from fun q => by have := (nn_le (by omega) (by omega)).mp q; omega), if_neg (nn_in (by omega) (by omega)), nn_1, nn_nat (by omega)]
    refine ih g (i + 1) _ (by omega) (by omega) (Ch.sI rfl hc) (fun k hk' => ?_)
    rw [dI_s]
    by_cases q : k = i
    · rw [if_pos ⟨rfl, q⟩]
    · rw [if_neg (fun u => q u.2)]; exact hk k (by omega)
theorem st_mu {X : Dat} (hX : ∀ k, dI X 208 k = 0) : ∀ (r g i : Nat) (D : Dat), i + r = 6 → r < g → Ch (fun a _ => a = 208) X D → (∀ k, dI D 208 k = if k % 7 = 0 ∧ k < 7 * i then 1 else 0) → ∃ z, f_mu g (nn i) D = some z ∧ Ch (fun a _ => a = 208) X z ∧ ∀ k, dI z 208 k = if k % 7 = 0 ∧ k < 42 then 1 else 0 := by
  intro r
  induction r with
  | zero =>
    intro g i D hi hg hc hk
    obtain ⟨g, rfl⟩ : ∃ g', g = g' + 1 := ⟨g - 1, by omega⟩
    obtain rfl : i = 6 := by omega
    exact ⟨D, by rw [f_mu, if_pos (show (6 : Int32) ≤ nn 6 by decide)], hc, hk⟩
  | succ r ih =>
    intro g i D hi hg hc hk
    obtain ⟨g, rfl⟩ : ∃ g', g = g' + 1 := ⟨g - 1, by omega⟩
    have e : (7 : Int32) * nn i = nn (7 * i) := by rw [nn_l, nn_mul]
    rw [f_mu, if_neg (show ¬ (6 : Int32) ≤ nn i from fun q => by have := (nn_le (a := 6) (by omega) (by omega)).mp q; omega), e, if_neg (nn_in (by omega) (by omega)), nn_1, nn_nat (by omega), show (1 : Int32) &&& 1 = 1 by decide]
    refine ih g (i + 1) _ (by omega) (by omega) (Ch.sI rfl hc) (fun k => ?_)
    rw [dI_s]
    by_cases q : k = 7 * i
    · rw [if_pos ⟨rfl, q⟩, if_pos (by omega)]
    · rw [if_neg (fun u => q u.2), hk k]
      by_cases p : k % 7 = 0 ∧ k < 7 * i
      · rw [if_pos p, if_pos (by omega)]
      · rw [if_neg p, if_neg (by omega)]
theorem st_mf {X : Dat} : ∀ (r g i : Nat) (D : Dat), i + r = 26 → r < g → Ch (fun a _ => a = 214 ∨ a = 215) X D → (∀ k, k < i → dI D 214 k = -1 ∧ dI D 215 k = -1) → ∃ z, f_mf g (nn i) D = some z ∧ Ch (fun a _ => a = 214 ∨ a = 215) X z ∧ ∀ k, k < 26 → dI z 214 k = -1 ∧ dI z 215 k = -1 := by
  intro r
  induction r with
  | zero =>
    intro g i D hi hg hc hk
    obtain ⟨g, rfl⟩ : ∃ g', g = g' + 1 := ⟨g - 1, by omega⟩
    obtain rfl : i = 26 := by omega
    exact ⟨D, by rw [f_mf, if_pos (show (26 : Int32) ≤ nn 26 by decide)], hc, hk⟩
  | succ r ih =>
    intro g i D hi hg hc hk
    obtain ⟨g, rfl⟩ : ∃ g', g = g' + 1 := ⟨g - 1, by omega⟩
    rw [f_mf, if_neg (show ¬ (26 : Int32) ≤ nn i from fun q => by have := (nn_le (a := 26) (by omega) (by omega)).mp q; omega), if_neg (nn_in (by omega) (by omega)), nn_1, nn_nat (by omega)]
    refine ih g (i + 1) _ (by omega) (by omega) (Ch.sI (by omega) (Ch.sI (by omega) hc)) (fun k hk' => ?_)
    by_cases q : k = i
    · subst q
      exact ⟨by rw [dI_s, if_neg (by omega), dI_s, if_pos ⟨rfl, rfl⟩], by rw [dI_s, if_pos ⟨rfl, rfl⟩]⟩
    · rw [dI_s, if_neg (by omega), dI_s, if_neg (by omega), dI_s, if_neg (by omega), dI_s, if_neg (by omega)]
      exact hk k (by omega)
theorem cl_nn (x : Int32) : ∃ nu, (1 ≤ nu ∧ nu ≤ 6) ∧ cl6 x = nn nu ∧ cm6 x = nn nu := by
  have l6 : ((6 : Int32) < x) ↔ 6 < x.toInt := Int32.lt_iff_toInt_lt
  have l1 : ((1 : Int32) < x) ↔ 1 < x.toInt := Int32.lt_iff_toInt_lt
  have m1 : ((1 : Int32) ≤ x) ↔ 1 ≤ x.toInt := Int32.le_iff_toInt_le
  have m6 : (x ≤ (6 : Int32)) ↔ x.toInt ≤ 6 := Int32.le_iff_toInt_le
  unfold cl6 cm6
  by_cases a : 6 < x.toInt
  · refine ⟨6, by omega, ?_, ?_⟩
    · rw [if_pos (l6.mpr a)]; decide
    · rw [if_pos (m1.mpr (by omega)), if_neg (fun q => by have := m6.mp q; omega)]; rfl
  · rw [if_neg (fun q => a (l6.mp q))]
    by_cases b : 1 < x.toInt
    · obtain ⟨k, hk, e⟩ := nn_of (show 0 ≤ x.toInt by omega)
      rw [if_pos (l1.mpr b), if_pos (m1.mpr (by omega)), if_pos (m6.mpr (by omega))]
      have : x.toInt = (k : Int) := by rw [e, nn_int hk]
      exact ⟨k, by omega, e, e⟩
    · rw [if_neg (fun q => b (l1.mp q))]
      refine ⟨1, by omega, rfl, ?_⟩
      by_cases c : 1 ≤ x.toInt
      · rw [if_pos (m1.mpr c), if_pos (m6.mpr (by omega))]
        refine Int32.toInt_inj.mp ?_
        rw [nn_int (by omega)]
        omega
      · rw [if_neg (fun q => c (m1.mp q))]
        rfl
set_option maxRecDepth 20000 in
theorem hI0 {N : Nat} (hN : 1000 ≤ N) (x1 : Int32) : ∃ z1 z2 : Dat, f_X11_init N (cl6 x1).toNatClampNeg x1 (sN D0 0) = some z1 ∧ f_X12_init N x1 (sN z1 207) = some z2 ∧ Inv (cl6 x1).toNatClampNeg (fun _ => 99) (sN z2 262) := by
  obtain ⟨nu, ⟨u1, u2⟩, e1, e2⟩ := cl_nn x1
  rw [show (cl6 x1).toNatClampNeg = nu by rw [e1, nn_nat (by omega)]]
  -- the class
  obtain ⟨y1, a1, a2, a3⟩ := st_li u2 (X := sR (sN (sI (sN (sN D0 0) 1) 1 0 (nn nu)) 2) 1 1 (some 2)) nu N 0 (sR (sN (sI (sN (sN D0 0) 1) 1 0 (nn nu)) 2) 1 1 (some 2)) (by omega) (by omega) Ch.rf (fun k hk => absurd hk (by omega))
  obtain ⟨y2, b1, b2, b3⟩ := st_fl (X := i_X11a y1) 52 N 0 (i_X11a y1) (by omega) (by omega) Ch.rf (fun k hk => absurd hk (by omega))
  have k1 : f_X11_init N nu x1 (sN D0 0) = some (i_X11b y2) := by
    unfold f_X11_init f_X2_init
    rw [e1, if_pos ⟨nn_nlt0 (by omega), nn_nat (by omega), u2⟩]
    show (f_li nu N (nn nu) (nn 0) _).bind _ = _
    rw [a1, bS]
    show (f_fl 52 N 190 (-1) (nn 0) (nn 52) (i_X11a y1)).bind _ = _
    rw [b1, bS]
  -- the model
  obtain ⟨y3, c1, c2, c3⟩ := st_mu (X := sI (i_X12a (sN (i_X11b y2) 207)) 207 1 (nn nu)) (fun k => rfl) 6 N 0 (sI (i_X12a (sN (i_X11b y2) 207)) 207 1 (nn nu)) (by omega) (by omega) Ch.rf (fun k => by rw [if_neg (by omega)]; rfl)
  obtain ⟨y4, d1, d2, d3⟩ := st_mf (X := y3) 26 N 0 y3 (by omega) (by omega) Ch.rf (fun k hk => absurd hk (by omega))
  have k2 : f_X12_init N x1 (sN (i_X11b y2) 207) = some y4 := by
    unfold f_X12_init
    rw [e2]
    show (f_mu N (nn 0) _).bind _ = _
    rw [c1, bS]
    exact d1
  refine ⟨i_X11b y2, y4, k1, k2, ?_⟩
  have cZ : Ch (fun a _ => a = 262) y4 (sN y4 262) := fun a k q => ⟨by rw [dI_N, if_neg q], by rw [dL_N, if_neg q], by rw [dR_N, if_neg q]⟩
  generalize sN y4 262 = Z at *
  have z4 : ∀ a k, a ≠ 262 → a ≠ 208 → a ≠ 214 → a ≠ 215 → dI Z a k = dI (sI (i_X12a (sN (i_X11b y2) 207)) 207 1 (nn nu)) a k ∧ dR Z a k = dR (sI (i_X12a (sN (i_X11b y2) 207)) 207 1 (nn nu)) a k := fun a k h1 h2 h3 h4 => ⟨by rw [cZ.i h1, d2.i (by omega), c2.i h2], by rw [cZ.r h1, d2.r (by omega), c2.r h2]⟩
  have z7 : ∀ k, dI Z 207 k = dI (sI (i_X12a (sN (i_X11b y2) 207)) 207 1 (nn nu)) 207 k := fun k => (z4 207 k (by omega) (by omega) (by omega) (by omega)).1
  have y0 : ∀ k, k < 14 → dI Z 0 k = 0 := fun k hk => by
    rw [(z4 0 k (by omega) (by omega) (by omega) (by omega)).1]
    have e : dI (i_X11b y2) 0 k = dI y2 0 k := by
      show (if 0 = 0 ∧ k = 15 then (-1 : Int32) else if 0 = 0 ∧ k = 14 then -1 else dI y2 0 k) = dI y2 0 k
      rw [if_neg (by omega), if_neg (by omega)]
    refine Eq.trans (show _ = dI (i_X11b y2) 0 k from rfl) ?_
    rw [e, b2.i (by omega)]
    refine Eq.trans (show _ = dI y1 0 k from rfl) ?_
    rw [a2.i (by omega)]
    rfl
  have y14 : dI Z 0 14 = -1 := by
    rw [(z4 0 14 (by omega) (by omega) (by omega) (by omega)).1]
    rfl
  have y15 : dI Z 0 15 = -1 := by
    rw [(z4 0 15 (by omega) (by omega) (by omega) (by omega)).1]
    rfl
  have y10 : dI Z 1 0 = nn nu := by
    rw [(z4 1 0 (by omega) (by omega) (by omega) (by omega)).1]
    refine Eq.trans (show _ = dI y2 1 0 from rfl) ?_
    rw [b2.i (by omega)]
    refine Eq.trans (show _ = dI y1 1 0 from rfl) ?_
    rw [a2.i (by omega)]
    rfl
  have y12 : dI Z 1 2 = 0 := by
    rw [(z4 1 2 (by omega) (by omega) (by omega) (by omega)).1]
    refine Eq.trans (show _ = dI y2 1 2 from rfl) ?_
    rw [b2.i (by omega)]
    refine Eq.trans (show _ = dI y1 1 2 from rfl) ?_
    rw [a2.i (by omega)]
    rfl
  have y2k : ∀ k, k < nu → dI Z 2 k = nn (2 ^ k) := fun k hk => by
    rw [(z4 2 k (by omega) (by omega) (by omega) (by omega)).1]
    refine Eq.trans (show _ = dI y2 2 k from rfl) ?_
    rw [b2.i (by omega)]
    refine Eq.trans (show _ = dI y1 2 k from rfl) ?_
    exact a3 k hk
  have mid : ∀ a k, a = 3 ∨ a = 107 ∨ a = 182 ∨ a = 184 ∨ a = 185 ∨ a = 187 ∨ a = 188 → dI (sI (i_X12a (sN (i_X11b y2) 207)) 207 1 (nn nu)) a k = 0 := fun a k h => by
    rcases h with rfl | rfl | rfl | rfl | rfl | rfl | rfl
    · refine Eq.trans (show _ = dI y2 3 k from rfl) ?_
      rw [b2.i (by omega)]; rfl
    · refine Eq.trans (show _ = dI y2 107 k from rfl) ?_
      rw [b2.i (by omega)]; rfl
    · refine Eq.trans (show _ = dI y2 182 k from rfl) ?_
      rw [b2.i (by omega)]; rfl
    · refine Eq.trans (show _ = dI y2 184 k from rfl) ?_
      rw [b2.i (by omega)]; rfl
    · refine Eq.trans (show _ = dI y2 185 k from rfl) ?_
      rw [b2.i (by omega)]; rfl
    · refine Eq.trans (show _ = dI y2 187 k from rfl) ?_
      rw [b2.i (by omega)]; rfl
    · refine Eq.trans (show _ = dI y2 188 k from rfl) ?_
      rw [b2.i (by omega)]; rfl
  have midZ : ∀ a k, a = 3 ∨ a = 107 ∨ a = 182 ∨ a = 184 ∨ a = 185 ∨ a = 187 ∨ a = 188 → dI Z a k = 0 := fun a k h => by rw [(z4 a k (by omega) (by omega) (by omega) (by omega)).1]; exact mid a k h
  have y181 : dI Z 181 9 = 0 := by
    rw [(z4 181 9 (by omega) (by omega) (by omega) (by omega)).1]
    refine Eq.trans (show _ = dI y2 181 9 from rfl) ?_
    rw [b2.i (by omega)]; rfl
  have y190 : ∀ k, k < 52 → dI Z 190 k = -1 := fun k hk => by
    rw [(z4 190 k (by omega) (by omega) (by omega) (by omega)).1]
    refine Eq.trans (show _ = dI y2 190 k from rfl) ?_
    exact b3 k hk
  have m0 : ∀ a k, a = 211 ∨ a = 212 ∨ a = 254 ∨ a = 255 ∨ a = 257 ∨ a = 258 ∨ a = 259 ∨ a = 260 → dI Z a k = 0 := fun a k h => by
    rw [(z4 a k (by omega) (by omega) (by omega) (by omega)).1]
    rcases h with rfl | rfl | rfl | rfl | rfl | rfl | rfl | rfl <;> rfl
  have z208 : ∀ k, dI Z 208 k = if k % 7 = 0 ∧ k < 42 then 1 else 0 := fun k => by rw [cZ.i (by omega), d2.i (by omega)]; exact c3 k
  have zmk : ∀ k, k < 26 → dI Z 214 k = -1 ∧ dI Z 215 k = -1 := fun k hk => by rw [cZ.i (by omega), cZ.i (by omega)]; exact d3 k hk
  have hU : ∀ a b, a < 6 → b < 6 → (dI Z 208 (6 * a + b) = if a = b then 1 else 0) := fun a b ha hb => by
    rw [z208]
    by_cases q : a = b
    · rw [if_pos q, if_pos (by omega)]
    · rw [if_neg q, if_neg (by omega)]
  have one : ((1 : Int32) = 0) = False := by decide
  have UU : ∀ a b, a < nu → b < nu → U Z a b → a = b := fun a b ha hb h => by
    unfold U at h
    rw [hU a b (by omega) (by omega)] at h
    by_cases q : a = b
    · exact q
    · rw [if_neg q] at h; exact absurd h (by decide)
  refine ⟨⟨⟨u1, u2⟩, ⟨y10, by rw [z7]; rfl⟩, ⟨by rw [y14, z7]; rfl, by rw [y15, z7]; rfl⟩, ⟨by rw [y0 13 (by omega), z7]; rfl, by rw [z7]; exact Or.inl rfl⟩, ⟨by rw [y0 12 (by omega), z7]; rfl, by rw [z7]; exact Or.inl rfl⟩, ⟨by rw [midZ 107 10 (by omega), z7]; rfl, by rw [z7]; exact Or.inl rfl⟩, ⟨by rw [y12, z7]; rfl, by rw [z7]; exact Or.inl rfl⟩⟩, ⟨fun k hk => ?_, fun a ha => ?_, ⟨fun a ha => ?_, fun a b c ha hb hc h1 h2 => ?_⟩, fun h => ?_⟩, ⟨201, 0, ⟨Or.inl rfl, ⟨?_, ?_⟩, by omega, ⟨?_, by rw [z7]; rfl⟩, fun i hi => absurd hi (by omega)⟩, fun h => ?_, fun h => ?_⟩, fun x hx => ?_, ⟨0, by omega, ⟨midZ 3 2 (by omega), by rw [z7]; rfl⟩, fun i hi => absurd hi (by omega)⟩, ⟨⟨fun k hk => ?_, fun k hk => ?_⟩, ⟨fun k hk => ?_, fun k hk => ?_⟩, fun k hk => ?_, by rw [y181, z7]; rfl⟩, 191, 0, Or.inl rfl, by omega, ⟨?_, ?_⟩, by rw [z7]; rfl, fun h => ?_⟩
  · rw [z208]
    by_cases q : k % 7 = 0 ∧ k < 42
    · rw [if_pos q]; exact Or.inr rfl
    · rw [if_neg q]; exact Or.inl rfl
  · refine ⟨2 ^ a, ?_, y2k a ha, fun b hb => ?_⟩
    · rcases (show a = 0 ∨ a = 1 ∨ a = 2 ∨ a = 3 ∨ a = 4 ∨ a = 5 by omega) with rfl | rfl | rfl | rfl | rfl | rfl <;> decide
    · have e : bt (2 ^ a) b = if a = b then 1 else 0 := by
        rcases (show a = 0 ∨ a = 1 ∨ a = 2 ∨ a = 3 ∨ a = 4 ∨ a = 5 by omega) with rfl | rfl | rfl | rfl | rfl | rfl <;> rcases (show b = 0 ∨ b = 1 ∨ b = 2 ∨ b = 3 ∨ b = 4 ∨ b = 5 by omega) with rfl | rfl | rfl | rfl | rfl | rfl <;> decide
      rw [e]
      unfold tv
      rw [hU a b (by omega) hb]
      by_cases q : a = b
      · rw [if_pos q, if_pos q, if_pos (by omega), if_neg (by decide)]
      · rw [if_neg q, if_neg q, if_pos rfl]
        by_cases p : b < nu
        · rw [if_pos p]
        · rw [if_neg p]
  · show dI Z 208 (6 * a + a) = 1
    rw [hU a a (by omega) (by omega), if_pos rfl]
  · rw [UU a b ha hb h1]; exact h2
  · rw [z7] at h
    exact absurd (show (0 : Int32) = 1 from h) (by decide)
  · rw [(z4 0 10 (by omega) (by omega) (by omega) (by omega)).2]
    rfl
  · rw [(z4 0 11 (by omega) (by omega) (by omega) (by omega)).2]
    rfl
  · rw [(z4 201 2 (by omega) (by omega) (by omega) (by omega)).1]
    rfl
  · rw [z7] at h
    exact absurd (show (0 : Int32) = 1 from h) (by decide)
  · rw [z7] at h
    exact absurd (show (0 : Int32) = 1 from h) (by decide)
  · have m1 : (-1 : Int32).toInt = -1 := by decide
    rw [y190 x (by omega), y190 (26 + x) (by omega), (zmk x hx).1, (zmk x hx).2, m1]
    exact ⟨⟨rfl, rfl⟩, by omega, by omega⟩
  · rw [midZ 182 k (by omega), m0 259 k (by omega)]
  · rw [midZ 182 (26 + k) (by omega), m0 260 k (by omega)]
  · rw [midZ 184 k (by omega), m0 254 k (by omega)]
  · rw [midZ 187 k (by omega), m0 257 k (by omega)]
  · rw [midZ 185 k (by omega), m0 255 k (by omega), midZ 188 k (by omega), m0 258 k (by omega)]
    exact ⟨⟨rfl, by decide, by decide⟩, rfl, by decide, by decide⟩
  · rw [(z4 0 8 (by omega) (by omega) (by omega) (by omega)).2]
    refine Eq.trans (show _ = dR (i_X11b y2) 0 8 from rfl) ?_
    rfl
  · rw [(z4 0 9 (by omega) (by omega) (by omega) (by omega)).2]
    refine Eq.trans (show _ = dR (i_X11b y2) 0 9 from rfl) ?_
    rfl
  · rw [z7] at h
    exact absurd (show (0 : Int32) = 1 from h) (by decide)
