/-! heights -/
def tg (x : Int32) : Nat := x.toNatClampNeg
def GC (nu sz : Nat) (o : Nat → Nat) (x : Nat → Int32) : Prop := (1 ≤ sz ∧ sz ≤ 64) ∧ (∀ i, o i ≤ 15) ∧ (∀ i, i < sz → fb nu sz (o i) (x i) = true) ∧ (o (sz - 1) = 12 ∨ o (sz - 1) = 15)
/-- those that can be next -/
def nx (o : Nat → Nat) (x : Nat → Int32) (i q : Nat) : Prop := (o i ≠ 12 ∧ o i ≠ 15 ∧ q = i + 1) ∨ ((o i = 11 ∨ o i = 12) ∧ q = tg (x i))
theorem GC.tgt {nu sz : Nat} {o : Nat → Nat} {x : Nat → Int32} (h : GC nu sz o x) {i : Nat} (hi : i < sz) (ho : o i = 11 ∨ o i = 12) : tg (x i) < sz ∧ x i = nn (tg (x i)) := by
  have := h.2.2.1 i hi
  have e : bd nu sz (o i) = some sz := by
    unfold bd
    rw [if_neg (by omega), if_neg (by omega), if_pos ho]
  unfold fb at this
  rw [e] at this
  have t := of_decide_eq_true this
  obtain ⟨k, hk, ek⟩ := nn_of t.1
  unfold tg
  rw [ek, nn_nat hk]
  rw [ek, nn_int hk] at t
  exact ⟨by omega, rfl⟩
theorem GC.nxt {nu sz : Nat} {o : Nat → Nat} {x : Nat → Int32} (h : GC nu sz o x) {i : Nat} (hi : i < sz) (ho : o i ≠ 12 ∧ o i ≠ 15) : i + 1 < sz := by
  rcases h.2.2.2 with q | q
  · by_cases z : i = sz - 1
    · rw [← z] at q; omega
    · omega
  · by_cases z : i = sz - 1
    · rw [← z] at q; omega
    · omega
theorem GC.nxs {nu sz : Nat} {o : Nat → Nat} {x : Nat → Int32} (h : GC nu sz o x) {i q : Nat} (hi : i < sz) (hq : nx o x i q) : q < sz := by
  rcases hq with ⟨h1, h2, h3⟩ | ⟨h1, h2⟩
  · rw [h3]; exact h.nxt hi ⟨h1, h2⟩
  · rw [h2]; exact (h.tgt hi h1).1
def nSs (o : Nat → Nat) (x : Nat → Int32) (i : Nat) : Int64 := if o i = 12 then 0 ||| bit1 (tg (x i)) else if o i = 15 then 0 else if o i = 11 then (0 ||| bit1 (i + 1)) ||| bit1 (tg (x i)) else 0 ||| bit1 (i + 1)
theorem mm_bt {k i : Nat} (hk : k < 64) (hi : i < 64) : mm (bit1 k) i = true ↔ i = k := by
  rw [mm_bit k hk i hi, decide_eq_true_iff]
  exact ⟨fun h => h.symm, fun h => h.symm⟩
theorem mm_nS {nu sz : Nat} {o : Nat → Nat} {x : Nat → Int32} (h : GC nu sz o x) {i q : Nat} (hi : i < sz) (hq : q < 64) : mm (nSs o x i) q = true ↔ nx o x i q := by
  have hz := h.1.2
  unfold nSs nx
  by_cases c12 : o i = 12
  · have t := h.tgt hi (Or.inr c12)
    rw [if_pos c12, mm_or, mm_0, Bool.false_or, mm_bt (by omega) hq]
    omega
  · by_cases c15 : o i = 15
    · rw [if_neg c12, if_pos c15, mm_0]
      constructor
      · intro q; exact absurd q (by decide)
      · intro q; omega
    · have n1 := h.nxt hi ⟨c12, c15⟩
      by_cases c11 : o i = 11
      · have t := h.tgt hi (Or.inl c11)
        rw [if_neg c12, if_neg c15, if_pos c11, mm_or, mm_or, mm_0, Bool.false_or, Bool.or_eq_true, mm_bt (by omega) hq, mm_bt (by omega) hq]
        omega
      · rw [if_neg c12, if_neg c15, if_neg c11, mm_or, mm_0, Bool.false_or, mm_bt (by omega) hq]
        omega
theorem e_nexts {nu c sz : Nat} {o : Nat → Nat} {x : Nat → Int32} {D : Dat} (h : GC nu sz o x) (hK : Kc c sz o x D) {i : Nat} (hi : i < sz) : f_X0_nexts c (nn i) D = some (nSs o x i, D) := by
  obtain ⟨k1, k2, k3, k4, k5, k6⟩ := hK
  have ho := h.2.1 i
  unfold f_X0_nexts f_X0_nexts_b48 f_X0_nexts_b60 f_X0_nexts_b77 nSs
  simp only [code_op k2 k5 hi, code_arg k2 k5 hi, (k6 i hi).1, (k6 i hi).2, bS, nn_1, code_has k2 k5, e_bit]
  by_cases c12 : o i = 12
  · have t := h.tgt hi (Or.inr c12)
    have q1 : 0 ≤ (x i).toInt ∧ (x i).toInt < sz := by rw [t.2, nn_int (by omega)]; omega
    rw [c12, if_pos (show nn 12 = (12 : Int32) from rfl), if_neg (show ¬ nn 12 = (11 : Int32) by decide), if_pos (show nn 12 = (12 : Int32) from rfl), if_pos rfl, if_pos q1, if_neg (show ¬ (1 : Int32) = 0 by decide)]
    rw [show f_X11_bit (x i) D = some (bit1 (tg (x i)), D) by
      have := e_bit (tg (x i)) D
      rw [← t.2] at this
      exact this, bS]
  · have q12 : ¬ nn (o i) = (12 : Int32) := ne_op (b := 12) (by omega) (by omega) c12
    by_cases c15 : o i = 15
    · rw [if_neg q12, c15, if_pos (show nn 15 = (15 : Int32) from rfl), if_neg (show ¬ nn 15 = (11 : Int32) by decide), if_neg (show ¬ nn 15 = (12 : Int32) by decide)]
      rfl
    · have q15 : ¬ nn (o i) = (15 : Int32) := ne_op (b := 15) (by omega) (by omega) c15
      have n1 := h.nxt hi ⟨c12, c15⟩
      have q1 : 0 ≤ (nn (i + 1)).toInt ∧ (nn (i + 1)).toInt < sz := by rw [nn_int (by omega)]; omega
      rw [if_neg q12, if_neg q15, if_pos q1, if_neg (show ¬ (1 : Int32) = 0 by decide), if_neg c12, if_neg c15]
      by_cases c11 : o i = 11
      · have t := h.tgt hi (Or.inl c11)
        have q2 : 0 ≤ (x i).toInt ∧ (x i).toInt < sz := by rw [t.2, nn_int (by omega)]; omega
        rw [c11, if_pos (show nn 11 = (11 : Int32) from rfl), if_pos rfl, if_pos q2, if_neg (show ¬ (1 : Int32) = 0 by decide)]
        rw [show f_X11_bit (x i) D = some (bit1 (tg (x i)), D) by
          have := e_bit (tg (x i)) D
          rw [← t.2] at this
          exact this, bS]
      · have q11 : ¬ nn (o i) = (11 : Int32) := ne_op (b := 11) (by omega) (by omega) c11
        rw [if_neg q11, if_neg q12, if_neg c11]
/-- at most m are left -/
def Cn : Nat → Int64 → Prop
  | 0, S => S = 0
  | m + 1, S => S = 0 ∨ ∀ q, lst S q → Cn m (S &&& (S - 1))
theorem cn_two {S : Int64} {a b : Nat} (h : ∀ q, q < 64 → mm S q = true → q = a ∨ q = b) : Cn 2 S := by
  refine Or.inr (fun q hq => Or.inr (fun r hr => ?_))
  show (S &&& (S - 1)) &&& ((S &&& (S - 1)) - 1) = 0
  refine (mm_zero _).mpr (fun j hj => ?_)
  rw [mm_rest hr hj, mm_rest hq hj]
  have r1 := hr.2.1
  rw [mm_rest hq hr.1, Bool.and_eq_true, decide_eq_true_iff] at r1
  have a1 := h q hq.1 hq.2.1
  have a2 := h r hr.1 r1.1
  by_cases z : mm S j = true
  · have a3 := h j hj z
    by_cases z1 : j = q
    · rw [decide_eq_false (show ¬ j ≠ q from fun w => w z1), Bool.and_false, Bool.false_and]
    · have : j = r := by have := r1.2; omega
      rw [decide_eq_false (show ¬ j ≠ r from fun w => w this), Bool.and_false]
  · rw [Bool.eq_false_iff.mpr z, Bool.false_and, Bool.false_and]
theorem cn_nS {nu sz : Nat} {o : Nat → Nat} {x : Nat → Int32} (h : GC nu sz o x) {i : Nat} (hi : i < sz) : Cn 2 (nSs o x i) := cn_two (a := i + 1) (b := tg (x i)) (fun q hq hm => by
  rcases (mm_nS h hi hq).mp hm with z | z
  · exact Or.inl z.2.2
  · exact Or.inr z.2)
/-! what looking at an instruction does -/
def hI : Option Nat → Int32
  | none => -1
  | some h => nn h
def Hc (hv : Nat → Option Nat) (D : Dat) : Prop := ∀ i, i < 64 → dI D 113 i = hI (hv i) ∧ (mm (dL D 107 5) i = true ↔ ¬ hv i = none)
def Bd (hv : Nat → Option Nat) : Prop := ∀ i h, hv i = some h → h ≤ 30
def cf (hv : Nat → Option Nat) (h q : Nat) : Bool := match hv q with
  | none => false
  | some k => k != h
def up (hv : Nat → Option Nat) (q h : Nat) : Nat → Option Nat := fun j => if j = q then some h else hv j
theorem hI_n1 {v : Option Nat} {h : Nat} (hb : ∀ k, v = some k → k ≤ 30) : (hI v = -1 ↔ v = none) ∧ (h ≤ 30 → (hI v = nn h ↔ v = some h)) := by
  cases v with
  | none => exact ⟨⟨fun _ => rfl, fun _ => rfl⟩, fun hh => ⟨fun q => absurd q.symm (nn_nm1 (by omega)), fun q => by simp at q⟩⟩
  | some k =>
    have := hb k rfl
    refine ⟨⟨fun q => absurd q (nn_nm1 (by omega)), fun q => by simp at q⟩, fun hh => ?_⟩
    show nn k = nn h ↔ _
    rw [nn_eq (by omega) (by omega)]
    exact ⟨fun q => by rw [q], fun q => by simpa using q⟩
theorem Hc.upd {hv : Nat → Option Nat} {D : Dat} {q h : Nat} (H : Hc hv D) (hq : q < 64) : Hc (up hv q h) (sL (sI D 113 q (nn h)) 107 5 (dL D 107 5 ||| bit1 q)) := by
  intro i hi
  obtain ⟨a, b⟩ := H i hi
  have e1 : dI (sL (sI D 113 q (nn h)) 107 5 (dL D 107 5 ||| bit1 q)) 113 i = if i = q then nn h else dI D 113 i := by
    rw [dI_sL, dI_s]
    by_cases z : i = q
    · rw [if_pos ⟨rfl, z⟩, if_pos z]
    · rw [if_neg (fun w => z w.2), if_neg z]
  have e2 : dL (sL (sI D 113 q (nn h)) 107 5 (dL D 107 5 ||| bit1 q)) 107 5 = dL D 107 5 ||| bit1 q := by rw [dL_s, if_pos ⟨rfl, rfl⟩]
  rw [e1, e2, mm_or, Bool.or_eq_true, mm_bt hq hi]
  unfold up
  by_cases z : i = q
  · rw [if_pos z, if_pos z]
    exact ⟨rfl, fun _ => by simp, fun _ => Or.inr z⟩
  · rw [if_neg z, if_neg z]
    exact ⟨a, fun w => by rcases w with w | w; exact b.mp w; exact absurd w z, fun w => Or.inl (b.mpr w)⟩
theorem hf_l {N i h : Nat} (hi : i < 64) (hh : h ≤ 30) : ∀ (m k g : Nat) (S : Int64) (hv : Nat → Option Nat) (D : Dat), k + m = 2 → m < g → Cn m S → Hc hv D → Bd hv →
    ((∀ q, q < 64 → mm S q = true → cf hv h q = false) ∧ ∃ D', f_X9_heightFits_b79 N g (nn i) (nn h) S (nn k) D = some (1, D') ∧ Hc (fun j => if mm S j then some h else hv j) D' ∧ Ch (fun a j => a = 113 ∨ (a = 107 ∧ j = 5)) D D')
    ∨ ((∃ q, q < 64 ∧ mm S q = true ∧ cf hv h q = true) ∧ ∃ D', f_X9_heightFits_b79 N g (nn i) (nn h) S (nn k) D = some (0, D') ∧ dI D' 107 11 = nn i ∧ dI D' 107 12 = 5 ∧ Ch (fun a j => a = 113 ∨ (a = 107 ∧ (j = 5 ∨ j = 11 ∨ j = 12))) D D') := by
  intro m
  induction m with
  | zero =>
    intro k g S hv D hk hg hS hH hB
    obtain ⟨g, rfl⟩ : ∃ g', g = g' + 1 := ⟨g - 1, by omega⟩
    obtain rfl : S = 0 := hS
    refine Or.inl ⟨fun q _ z => absurd z (by rw [mm_0]; decide), D, ?_, ?_, Ch.rf⟩
    · rw [f_X9_heightFits_b79, if_pos (by rw [nn_l, nn_le (by omega) (by omega)]; omega)]
      rfl
    · simp only [mm_0]; exact hH
  | succ m ih =>
    intro k g S hv D hk hg hS hH hB
    obtain ⟨g, rfl⟩ : ∃ g', g = g' + 1 := ⟨g - 1, by omega⟩
    have hk2 : ¬ 2 ≤ nn k := by rw [nn_l, nn_le (by omega) (by omega)]; omega
    by_cases h0 : S = 0
    · subst h0
      refine Or.inl ⟨fun q _ z => absurd z (by rw [mm_0]; decide), D, ?_, ?_, Ch.rf⟩
      · rw [f_X9_heightFits_b79, if_neg hk2, if_pos ((cmp0 0).mpr rfl)]
        rfl
      · simp only [mm_0]; exact hH
    · obtain ⟨q, hq⟩ := has_lst h0
      have hS' : Cn m (S &&& (S - 1)) := (hS.resolve_left h0) q hq
      have hq64 := hq.1
      have i1 := nn_in (k := q) (n := 64) (by omega) (by omega)
      obtain ⟨a1, a2⟩ := hH q hq64
      obtain ⟨b1, b2⟩ := hI_n1 (v := hv q) (h := h) (fun k hk => hB q k hk)
      have st : f_X9_heightFits_b79 N (g + 1) (nn i) (nn h) S (nn k) D = if hv q = none ∨ hv q = some h then f_X9_heightFits_b79 N g (nn i) (nn h) (S &&& (S - 1)) (nn (k + 1)) (sL (sI D 113 q (nn h)) 107 5 (dL D 107 5 ||| bit1 q)) else some (0, sI (sI D 107 11 (nn i)) 107 12 5) := by
        rw [f_X9_heightFits_b79, if_neg hk2, if_neg (fun w => h0 ((cmp0 S).mp w)), e_least hq, bS]
        unfold f_X9_heightFits_b137
        simp only [i1, reduceIte, e_bit, bS, f_X9_refuse, b0_1]
        rw [nn_nat (by omega), a1, nn_1, dL_sI]
        by_cases z : hv q = none
        · rw [if_pos (b1.mpr z), if_pos (Or.inl z)]
        · rw [if_neg (fun w => z (b1.mp w))]
          by_cases z2 : hv q = some h
          · rw [if_pos ((b2 hh).mpr z2), if_pos (Or.inr z2)]
          · rw [if_neg (fun w => z2 ((b2 hh).mp w)), if_neg (by intro w; rcases w with w | w; exact z w; exact z2 w)]
      by_cases z : hv q = none ∨ hv q = some h
      · rw [if_pos z] at st
        have cq : cf hv h q = false := by
          unfold cf
          rcases z with z | z <;> rw [z] <;> simp
        have cne : ∀ j, j ≠ q → cf (up hv q h) h j = cf hv h j := fun j hj => by unfold cf up; rw [if_neg hj]
        have hB' : Bd (up hv q h) := fun j k hjk => by
          unfold up at hjk
          by_cases w : j = q
          · rw [if_pos w] at hjk
            have : h = k := by simpa using hjk
            omega
          · rw [if_neg w] at hjk; exact hB j k hjk
        have chn : Ch (fun a j => a = 113 ∨ (a = 107 ∧ j = 5)) D (sL (sI D 113 q (nn h)) 107 5 (dL D 107 5 ||| bit1 q)) := Ch.sL (Or.inr ⟨rfl, rfl⟩) (Ch.sI (Or.inl rfl) Ch.rf)
        rcases ih (k + 1) g (S &&& (S - 1)) (up hv q h) _ (by omega) (by omega) hS' (hH.upd hq64) hB' with ⟨c1, D', c2, c3, c4⟩ | ⟨⟨r, c1, c2, c3⟩, D', c4, c5, c6, c7⟩
        · refine Or.inl ⟨fun r hr hm => ?_, D', st.trans c2, ?_, chn.tr c4⟩
          · by_cases w : r = q
            · rw [w]; exact cq
            · rw [← cne r w]
              exact c1 r hr (by rw [mm_rest hq hr, hm, decide_eq_true w]; rfl)
          · have e : (fun j => if mm (S &&& (S - 1)) j = true then some h else up hv q h j) = fun j => if mm S j = true then some h else hv j := by
              funext j
              by_cases w : j = q
              · have : mm (S &&& (S - 1)) j = false := by rw [w, mm_rest hq hq64, decide_eq_false (fun z => z rfl), Bool.and_false]
                rw [this, w, hq.2.1]
                unfold up
                simp
              · by_cases w2 : j < 64
                · rw [mm_rest hq w2, decide_eq_true w, Bool.and_true]
                  unfold up
                  rw [if_neg w]
                · rw [mm_ge _ (by omega), mm_ge _ (by omega)]
                  unfold up
                  rw [if_neg w]
            rw [e] at c3
            exact c3
        · have hr := c2
          rw [mm_rest hq c1, Bool.and_eq_true, decide_eq_true_iff] at hr
          exact Or.inr ⟨⟨r, c1, hr.1, by rw [← cne r hr.2]; exact c3⟩, D', st.trans c4, c5, c6, (chn.mono (fun a j w => by omega)).tr c7⟩
      · rw [if_neg z] at st
        refine Or.inr ⟨⟨q, hq64, hq.2.1, ?_⟩, _, st, ?_, ?_, ?_⟩
        · unfold cf
          cases w : hv q with
          | none => exact absurd (Or.inl w) z
          | some k =>
            show (k != h) = true
            rw [bne_iff_ne]
            intro e
            exact z (Or.inr (by rw [w, e]))
        · rw [dI_s, if_neg (by omega), dI_s, if_pos ⟨rfl, rfl⟩]
        · rw [dI_s, if_pos ⟨rfl, rfl⟩]
        · exact Ch.sI (by omega) (Ch.sI (by omega) Ch.rf)
