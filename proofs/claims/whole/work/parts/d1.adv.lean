/-! advance and next -/
def zl_bk (tx : Nat → Nat) (i : Nat) : Bool := decide (tx i = 32)
def zl_lt (tx : Nat → Nat) (i : Nat) : Bool := zl_L (tx i)
def zl_dt (tx : Nat → Nat) (i : Nat) : Bool := zl_D (tx i)
def zl_nv (tx : Nat → Nat) : Nat → Nat → Nat → Nat
  | 0, _, a => a
  | k + 1, i, a => zl_nv tx k (i + 1) (10 * a + (tx i - 48))
def zl_cv (tx : Nat → Nat) : Nat → Nat → Nat → Nat
  | 0, _, a => a
  | k + 1, i, a => zl_cv tx k (i + 1) (32 * a + (tx i - 96))
def zl_kw (c : Nat) : Nat := if c = 143 then 9 else if c = 294 then 4 else if c = 302 then 7 else if c = 16052 then 8 else if c = 18935 then 2 else if c = 22578 then 1 else if c = 176741 then 5 else if c = 543203 then 3 else if c = 24388997 then 6 else 0
/-- where the token ends, its kind (0 end, 1 name, 2 number, 3 unknown, 4 another word, else the sign), its value -/
def zl_e (len : Nat) (tx : Nat → Nat) (p : Nat) : Nat := if p < len then (if zl_L (tx p) = true then zl_run (zl_lt tx) (len - (p + 1)) (p + 1) else if zl_D (tx p) = true then zl_run (zl_dt tx) (len - (p + 1)) (p + 1) else p + 1) else len
def zl_t (len : Nat) (tx : Nat → Nat) (p : Nat) : Nat := if p < len then (if zl_L (tx p) = true then (if zl_e len tx p - p = 1 then 1 else 4) else if zl_D (tx p) = true then (if zl_e len tx p - p ≤ 9 then 2 else 3) else if zl_S (tx p) = true then tx p else 3) else 0
def zl_v (len : Nat) (tx : Nat → Nat) (p : Nat) : Nat := if zl_L (tx p) = true then (if zl_e len tx p - p = 1 then tx p - 97 else if zl_e len tx p - p ≤ 5 then zl_kw (zl_cv tx (zl_e len tx p - p) p 0) else 0) else zl_nv tx (zl_e len tx p - p) p 0
def TkC (p e t v : Nat) (C : Dat) : Prop := dI C 3 7 = nn p ∧ dI C 3 8 = nn e ∧ dI C 3 6 = nn (if t = 4 then 1 else t) ∧ dI C 3 9 = (if t = 1 ∨ t = 2 then nn v else -1)
def zl_mt (t : Nat) : Nat := if t = 1 then 110 else if t = 2 then 35 else if t = 3 then 1 else if t = 4 then 107 else t
def TkM (p e t v : Nat) (M : Dat) : Prop := dI M 207 39 = nn p ∧ dI M 207 36 = nn e ∧ dI M 207 37 = nn (zl_mt t) ∧ (t = 1 ∨ t = 2 ∨ t = 4 → dI M 207 38 = nn v)
def QlC (a k : Nat) : Prop := a = 3 ∧ 6 ≤ k ∧ k ≤ 9
def QlM (a k : Nat) : Prop := a = 207 ∧ 36 ≤ k ∧ k ≤ 39
theorem zl_k1 {c : Nat} (h : 32 ≤ c) : (zl_k c = 1 ↔ zl_L c = true) ∧ (zl_k c = 2 ↔ (¬ zl_L c = true ∧ zl_D c = true)) := by
  unfold zl_k
  by_cases a : zl_L c = true
  · rw [if_pos a]; exact ⟨⟨fun _ => a, fun _ => rfl⟩, ⟨fun w => absurd w (by decide), fun w => absurd a w.1⟩⟩
  · rw [if_neg a]
    by_cases b : zl_D c = true
    · rw [if_pos b]; exact ⟨⟨fun w => absurd w (by decide), fun w => absurd w a⟩, ⟨fun _ => ⟨a, b⟩, fun _ => rfl⟩⟩
    · rw [if_neg b]
      split
      · exact ⟨⟨fun w => by omega, fun w => absurd w a⟩, ⟨fun w => by omega, fun w => absurd w.2 b⟩⟩
      · exact ⟨⟨fun w => by omega, fun w => absurd w a⟩, ⟨fun w => by omega, fun w => absurd w.2 b⟩⟩
theorem zl_LD {c : Nat} (h : zl_L c = true) : ¬ zl_D c = true := fun w => by have := zl_Li.mp h; have := zl_Di.mp w; omega
/-- the class: behind the word or number -/
theorem zl_longC {N len q : Nat} {tx : Nat → Nat} (hN : 1000 ≤ N) (hq : q = 1 ∨ q = 2) {X : Dat} : ∀ (r g i : Nat) (C : Dat), i + r = len → r < g → TxC len tx C → dI C 3 8 = nn i → dI C 3 6 = nn q → Ch (fun a k => a = 3 ∧ k = 8) X C → ∃ C', f_X5_advance_b97 N g 1 C = f_X5_advance_b140 N C' ∧ Ch (fun a k => a = 3 ∧ k = 8) X C' ∧ dI C' 3 8 = nn (zl_run (fun j => decide (zl_k (tx j) = q)) r i) := by
  intro r
  induction r with
  | zero =>
    intro g i C hi hg hT h8 h6 hc
    obtain ⟨g, rfl⟩ : ∃ g', g = g' + 1 := ⟨g - 1, by omega⟩
    have := hT.1
    refine ⟨C, ?_, hc, h8⟩
    rw [f_X5_advance_b97, if_neg (by decide), hT.2.1, h8, if_pos ((nn_le (by omega) (by omega)).mpr (by omega))]
  | succ r ih =>
    intro g i C hi hg hT h8 h6 hc
    obtain ⟨g, rfl⟩ : ∃ g', g = g' + 1 := ⟨g - 1, by omega⟩
    have hl := hT.1
    have hx := hT.2.2 i (by omega)
    have zk : zl_k (tx i) < 1000 := by unfold zl_k; split; omega; split; omega; split <;> omega
    rw [f_X5_advance_b97, if_neg (by decide), hT.2.1, h8, if_neg (fun w => by have := (nn_le (by omega) (by omega)).mp w; omega), zl_kind hN hT (by omega), bS, if_pos (show i < len by omega), h6]
    unfold zl_run
    by_cases e : zl_k (tx i) = q
    · rw [if_pos (by rw [e]), if_pos (decide_eq_true e), h8, nn_1]
      exact ih g (i + 1) _ (by omega) (by omega) (hT.kept (P := fun a k => a = 3 ∧ k = 8) (Ch.sI (by omega) Ch.rf) (fun a k w => by omega)) (by rw [dI_s, if_pos ⟨rfl, rfl⟩]) (by rw [dI_s, if_neg (by omega)]; exact h6) (Ch.sI (by omega) hc)
    · rw [if_neg (fun w => e ((nn_eq (by omega) (by omega)).mp w)), if_neg (fun w => e (of_decide_eq_true w))]
      exact ⟨C, rfl, hc, h8⟩
theorem zl_numC {N len e : Nat} {tx : Nat → Nat} {C : Dat} (hT : TxC len tx C) (he : e ≤ len) (h8 : dI C 3 8 = nn e) (hd : ∀ j, j < e → tx j < 48 → False ∨ True) : ∀ (k g i a : Nat), i + k = e → k < g → (∀ j, i ≤ j → j < e → 48 ≤ tx j) → f_X5_numberHere_b7 N g (nn a) (nn i) C = some (nn (zl_nv tx k i a), C) := by
  intro k
  have hl := hT.1
  induction k with
  | zero =>
    intro g i a hi hg _
    obtain ⟨g, rfl⟩ : ∃ g', g = g' + 1 := ⟨g - 1, by omega⟩
    rw [f_X5_numberHere_b7, h8, if_pos ((nn_le (by omega) (by omega)).mpr (by omega))]
    rfl
  | succ k ih =>
    intro g i a hi hg hx
    obtain ⟨g, rfl⟩ : ∃ g', g = g' + 1 := ⟨g - 1, by omega⟩
    have q := hT.2.2 i (by omega)
    have q4 := hx i (by omega) (by omega)
    have e1 : (10 : Int32) * nn a + (nn (tx i) - 48) = nn (10 * a + (tx i - 48)) := by
      have s : nn (tx i) - (48 : Int32) = nn (tx i - 48) := nn_sub (b := 48) q4 (by omega)
      rw [s, nn_l, nn_mul, nn_add]
    rw [f_X5_numberHere_b7, h8, if_neg (fun w => by have := (nn_le (by omega) (by omega)).mp w; omega), hT.2.1, if_neg (fun w => by have := (nn_le (by omega) (by omega)).mp w; omega), if_neg (nn_in (k := i) (n := 240) (by omega) (by omega)), nn_nat (by omega), q.1, e1, nn_1]
    exact ih g (i + 1) _ (by omega) (by omega) (fun j h1 h2 => hx j (by omega) h2)
/-- what comes behind the sign that was found: the class -/
theorem zl_finC {N len p : Nat} {tx : Nat → Nat} (hN : 1000 ≤ N) {C : Dat} (hT : TxC len tx C) (hp : p ≤ len) (h7 : dI C 3 7 = nn p) : ∃ C', f_X5_advance_b46 N C = some C' ∧ Ch QlC C C' ∧ TkC p (zl_e len tx p) (zl_t len tx p) (zl_v len tx p) C' := by
  have hl := hT.1
  have c1 : ∀ (x y : Int32), Ch QlC C (sI (sI C 3 6 x) 3 8 y) := fun x y => Ch.sI (by unfold QlC; omega) (Ch.sI (by unfold QlC; omega) Ch.rf)
  unfold f_X5_advance_b46
  rw [h7, zl_kind hN hT (by omega), bS]
  have d7 : ∀ (x : Int32), dI (sI C 3 6 x) 3 7 = nn p := fun x => by rw [dI_s, if_neg (by omega)]; exact h7
  have d2 : ∀ (x : Int32), dI (sI C 3 6 x) 3 2 = nn len := fun x => by rw [dI_s, if_neg (by omega)]; exact hT.2.1
  have d6 : ∀ (x y : Int32), dI (sI (sI C 3 6 x) 3 8 y) 3 6 = x := fun x y => by rw [dI_s, if_neg (by omega), dI_s, if_pos ⟨rfl, rfl⟩]
  simp only [d6, d7, d2]
  rw [nn_1]
  by_cases hpl : p < len
  · rw [if_pos hpl]
    rw [if_neg (show ¬ nn len < nn (p + 1) from fun w => by have := (nn_lt (by omega) (by omega)).mp w; omega)]
    have hx := hT.2.2 p hpl
    have T1 : ∀ x, TxC len tx (sI (sI C 3 6 x) 3 8 (nn (p + 1))) := fun x => hT.kept (c1 x (nn (p + 1))) (fun a k w => by unfold QlC at w; omega)
    have long : ∀ q, q = 1 ∨ q = 2 → ∃ C', f_X5_advance_b97 N N 1 (sI (sI C 3 6 (nn q)) 3 8 (nn (p + 1))) = f_X5_advance_b140 N C' ∧ Ch (fun a k => a = 3 ∧ k = 8) (sI (sI C 3 6 (nn q)) 3 8 (nn (p + 1))) C' ∧ dI C' 3 8 = nn (zl_run (fun j => decide (zl_k (tx j) = q)) (len - (p + 1)) (p + 1)) := fun q hq => zl_longC hN hq (len - (p + 1)) N (p + 1) _ (by omega) (by omega) (T1 _) (by rw [dI_s, if_pos ⟨rfl, rfl⟩]) (d6 _ _) Ch.rf
    by_cases hL : zl_L (tx p) = true
    · have k1 : zl_k (tx p) = 1 := (zl_k1 hx.2.1).1.mpr hL
      rw [k1, if_pos (show nn 1 = 1 from rfl)]
      unfold f_X5_advance_b91 f_X5_advance_b96
      obtain ⟨C', r1, r2, r3⟩ := long 1 (Or.inl rfl)
      have er : zl_run (fun j => decide (zl_k (tx j) = 1)) (len - (p + 1)) (p + 1) = zl_run (zl_lt tx) (len - (p + 1)) (p + 1) := zl_run_eq _ _ (fun j g1 g2 => by
        have := hT.2.2 j (by omega)
        unfold zl_lt
        by_cases w : zl_L (tx j) = true
        · rw [w]; exact decide_eq_true ((zl_k1 this.2.1).1.mpr w)
        · have w' : zl_L (tx j) = false := by cases e : zl_L (tx j) with
            | true => exact absurd e w
            | false => rfl
          rw [w']
          exact decide_eq_false (fun z => w ((zl_k1 this.2.1).1.mp z)))
      have ee : zl_e len tx p = zl_run (zl_lt tx) (len - (p + 1)) (p + 1) := by unfold zl_e; rw [if_pos hpl, if_pos hL]
      rw [er, ← ee] at r3
      have be := zl_run_b (f := zl_lt tx) (len - (p + 1)) (p + 1)
      rw [← ee] at be
      have hT' : TxC len tx C' := (T1 _).kept r2 (fun a k w => by omega)
      have e6 : dI C' 3 6 = 1 := by rw [r2.i (by omega), d6]; rfl
      have e7 : dI C' 3 7 = nn p := by rw [r2.i (by omega), dI_s, if_neg (by omega), d7]
      rw [r1]
      unfold f_X5_advance_b140 f_X5_advance_b167 f_X5_nameHere f_X5_nameHere_b39 f_X5_nameHere_b40 f_X5_advance_b199
      rw [e6, if_neg (by decide), if_neg (by decide), if_pos rfl, r3, e7, nn_sub (by omega) (by omega)]
      have cc : ∀ x, Ch QlC C (sI C' 3 9 x) := fun x => Ch.sI (by unfold QlC; omega) ((c1 _ _).tr (r2.mono (fun a k w => by unfold QlC; omega)))
      have tt : zl_t len tx p = if zl_e len tx p - p = 1 then 1 else 4 := by unfold zl_t; rw [if_pos hpl, if_pos hL]
      have fin : ∀ x : Int32, x = (if zl_t len tx p = 1 ∨ zl_t len tx p = 2 then nn (zl_v len tx p) else -1) → TkC p (zl_e len tx p) (zl_t len tx p) (zl_v len tx p) (sI C' 3 9 x) := fun x hxx => by
        refine ⟨by rw [dI_s, if_neg (by omega)]; exact e7, by rw [dI_s, if_neg (by omega)]; exact r3, ?_, by rw [dI_s, if_pos ⟨rfl, rfl⟩]; exact hxx⟩
        rw [dI_s, if_neg (by omega), e6, tt]
        split <;> rfl
      by_cases w1 : zl_e len tx p - p = 1
      · rw [w1, if_pos (show nn 1 = 1 from rfl), hT'.2.1, if_neg (fun w => by have := (nn_le (by omega) (by omega)).mp w; omega), if_neg (nn_in (k := p) (n := 240) (by omega) (by omega)), nn_nat (by omega), (hT'.2.2 p hpl).1, bS]
        have := zl_Li.mp hL
        have s : nn (tx p) - (97 : Int32) = nn (tx p - 97) := nn_sub (b := 97) (by omega) (by omega)
        refine ⟨_, rfl, cc _, fin _ ?_⟩
        rw [tt, if_pos w1, if_pos (Or.inl rfl)]
        unfold zl_v
        rw [if_pos hL, if_pos w1]
        exact s
      · rw [if_neg (show ¬ nn (zl_e len tx p - p) = 1 from fun w => w1 ((nn_eq (b := 1) (by omega) (by omega)).mp w)), bS]
        refine ⟨_, rfl, cc _, fin _ ?_⟩
        rw [tt, if_neg w1, if_neg (by decide)]
    · by_cases hD : zl_D (tx p) = true
      · have k1 : zl_k (tx p) = 2 := (zl_k1 hx.2.1).2.mpr ⟨hL, hD⟩
        rw [k1, if_neg (show ¬ nn 2 = 1 by decide), if_pos (show nn 2 = 2 from rfl)]
        unfold f_X5_advance_b91 f_X5_advance_b96
        obtain ⟨C', r1, r2, r3⟩ := long 2 (Or.inr rfl)
        have er : zl_run (fun j => decide (zl_k (tx j) = 2)) (len - (p + 1)) (p + 1) = zl_run (zl_dt tx) (len - (p + 1)) (p + 1) := zl_run_eq _ _ (fun j g1 g2 => by
          have := hT.2.2 j (by omega)
          unfold zl_dt
          by_cases w : zl_D (tx j) = true
          · rw [w]; exact decide_eq_true ((zl_k1 this.2.1).2.mpr ⟨fun z => zl_LD z w, w⟩)
          · have w' : zl_D (tx j) = false := by cases e : zl_D (tx j) with
              | true => exact absurd e w
              | false => rfl
            rw [w']
            exact decide_eq_false (fun z => w ((zl_k1 this.2.1).2.mp z).2))
        have ee : zl_e len tx p = zl_run (zl_dt tx) (len - (p + 1)) (p + 1) := by unfold zl_e; rw [if_pos hpl, if_neg hL, if_pos hD]
        rw [er, ← ee] at r3
        have be := zl_run_b (f := zl_dt tx) (len - (p + 1)) (p + 1)
        rw [← ee] at be
        have hT' : TxC len tx C' := (T1 _).kept r2 (fun a k w => by omega)
        have e6 : dI C' 3 6 = 2 := by rw [r2.i (by omega), d6]; rfl
        have e7 : dI C' 3 7 = nn p := by rw [r2.i (by omega), dI_s, if_neg (by omega), d7]
        have tt : zl_t len tx p = if zl_e len tx p - p ≤ 9 then 2 else 3 := by unfold zl_t; rw [if_pos hpl, if_neg hL, if_pos hD]
        have cC' : Ch QlC C C' := (c1 _ _).tr (r2.mono (fun a k w => by unfold QlC; omega))
        rw [r1]
        unfold f_X5_advance_b140
        rw [e6, if_pos rfl, r3, e7, nn_sub (by omega) (by omega)]
        by_cases w1 : zl_e len tx p - p ≤ 9
        · rw [if_pos (show nn _ ≤ (9 : Int32) from (nn_le (b := 9) (by omega) (by omega)).mpr w1)]
          unfold f_X5_advance_b167 f_X5_numberHere f_X5_advance_b199
          have dig : ∀ j, p ≤ j → j < zl_e len tx p → 48 ≤ tx j := fun j g1 g2 => by
            by_cases e : j = p
            · rw [e]; exact (zl_Di.mp hD).1
            · have := zl_run_in (f := zl_dt tx) (len - (p + 1)) (p + 1) j (by omega) (by rw [← ee]; exact g2)
              exact (zl_Di.mp this).1
          have nm := zl_numC (N := N) hT' (show zl_e len tx p ≤ len by omega) r3 (fun _ _ _ => Or.inr trivial) (zl_e len tx p - p) N p 0 (by omega) (by omega) dig
          rw [e6, if_pos rfl, e7]
          have nm' : f_X5_numberHere_b7 N N 0 (nn p) C' = some (nn (zl_nv tx (zl_e len tx p - p) p 0), C') := nm
          rw [nm', bS]
          refine ⟨_, rfl, Ch.sI (by unfold QlC; omega) cC', ?_⟩
          refine ⟨by rw [dI_s, if_neg (by omega)]; exact e7, by rw [dI_s, if_neg (by omega)]; exact r3, ?_, ?_⟩
          · rw [dI_s, if_neg (by omega), e6, tt, if_pos w1]; rfl
          · rw [dI_s, if_pos ⟨rfl, rfl⟩, tt, if_pos w1, if_pos (Or.inr rfl)]
            unfold zl_v
            rw [if_neg hL]
        · rw [if_neg (show ¬ nn _ ≤ (9 : Int32) from fun w => w1 ((nn_le (b := 9) (by omega) (by omega)).mp w))]
          unfold f_X5_advance_b167 f_X5_advance_b199
          have g6 : dI (sI C' 3 6 3) 3 6 = 3 := by rw [dI_s, if_pos ⟨rfl, rfl⟩]
          rw [g6, if_neg (show ¬ (3 : Int32) = 2 by decide), if_neg (show ¬ (3 : Int32) = 1 by decide)]
          refine ⟨_, rfl, Ch.sI (by unfold QlC; omega) (Ch.sI (by unfold QlC; omega) cC'), ?_⟩
          refine ⟨by rw [dI_s, if_neg (by omega), dI_s, if_neg (by omega)]; exact e7, by rw [dI_s, if_neg (by omega), dI_s, if_neg (by omega)]; exact r3, ?_, ?_⟩
          · rw [dI_s, if_neg (by omega), dI_s, if_pos ⟨rfl, rfl⟩, tt, if_neg w1]; rfl
          · rw [dI_s, if_pos ⟨rfl, rfl⟩, tt, if_neg w1, if_neg (by decide)]
      · have k1 : zl_k (tx p) = if zl_S (tx p) = true then tx p else 3 := by unfold zl_k; rw [if_neg hL, if_neg hD]
        have k2 : 3 ≤ zl_k (tx p) ∧ zl_k (tx p) < 127 := by rw [k1]; split <;> omega
        rw [if_neg (show ¬ nn _ = 1 from fun w => by have := (nn_eq (b := 1) (by omega) (by omega)).mp w; omega), if_neg (show ¬ nn _ = 2 from fun w => by have := (nn_eq (b := 2) (by omega) (by omega)).mp w; omega)]
        unfold f_X5_advance_b96
        obtain ⟨g, hg⟩ : ∃ g', N = g' + 1 := ⟨N - 1, by omega⟩
        have ee : zl_e len tx p = p + 1 := by unfold zl_e; rw [if_pos hpl, if_neg hL, if_neg hD]
        have tt : zl_t len tx p = zl_k (tx p) := by rw [k1]; unfold zl_t; rw [if_pos hpl, if_neg hL, if_neg hD]
        have b97 : ∀ E, f_X5_advance_b97 N N 0 E = f_X5_advance_b140 N E := fun E => by
          have : ∀ g, f_X5_advance_b97 N (g + 1) 0 E = f_X5_advance_b140 N E := fun g => by rw [f_X5_advance_b97, if_pos rfl]
          have h := this g
          rw [← hg] at h
          exact h
        rw [b97]
        unfold f_X5_advance_b140 f_X5_advance_b167 f_X5_advance_b199
        rw [d6, if_neg (show ¬ nn _ = 2 from fun w => by have := (nn_eq (b := 2) (by omega) (by omega)).mp w; omega), if_neg (show ¬ nn _ = 2 from fun w => by have := (nn_eq (b := 2) (by omega) (by omega)).mp w; omega), if_neg (show ¬ nn _ = 1 from fun w => by have := (nn_eq (b := 1) (by omega) (by omega)).mp w; omega)]
        refine ⟨_, rfl, Ch.sI (by unfold QlC; omega) (c1 _ _), ?_⟩
        have n4 : ¬ zl_k (tx p) = 4 := by rw [k1]; split <;> omega
        refine ⟨by rw [dI_s, if_neg (by omega), dI_s, if_neg (by omega), d7], by rw [dI_s, if_neg (by omega), dI_s, if_pos ⟨rfl, rfl⟩, ee], ?_, ?_⟩
        · rw [dI_s, if_neg (by omega), d6, tt, if_neg n4]
        · rw [dI_s, if_pos ⟨rfl, rfl⟩, tt, if_neg (by omega)]
  · rw [if_neg hpl]
    have hpe : p = len := by omega
    subst hpe
    rw [if_pos (show nn p < nn (p + 1) from (nn_lt (by omega) (by omega)).mpr (by omega)), if_neg (show ¬ nn 0 = 1 by decide), if_neg (show ¬ nn 0 = 2 by decide)]
    unfold f_X5_advance_b96
    obtain ⟨g, hg⟩ : ∃ g', N = g' + 1 := ⟨N - 1, by omega⟩
    have b97 : ∀ E, f_X5_advance_b97 N N 0 E = f_X5_advance_b140 N E := fun E => by
      have : ∀ g, f_X5_advance_b97 N (g + 1) 0 E = f_X5_advance_b140 N E := fun g => by rw [f_X5_advance_b97, if_pos rfl]
      have h := this g
      rw [← hg] at h
      exact h
    rw [b97]
    unfold f_X5_advance_b140 f_X5_advance_b167 f_X5_advance_b199
    rw [d6, if_neg (show ¬ nn 0 = 2 by decide), if_neg (show ¬ nn 0 = 2 by decide), if_neg (show ¬ nn 0 = 1 by decide)]
    have tt : zl_t p tx p = 0 := by unfold zl_t; rw [if_neg hpl]
    have ee : zl_e p tx p = p := by unfold zl_e; rw [if_neg hpl]
    refine ⟨_, rfl, Ch.sI (by unfold QlC; omega) (c1 _ _), ?_⟩
    refine ⟨by rw [dI_s, if_neg (by omega), dI_s, if_neg (by omega), d7], by rw [dI_s, if_neg (by omega), dI_s, if_pos ⟨rfl, rfl⟩, ee], ?_, ?_⟩
    · rw [dI_s, if_neg (by omega), d6, tt]; rfl
    · rw [dI_s, if_pos ⟨rfl, rfl⟩, tt, if_neg (by decide)]
theorem zl_skipC {N len : Nat} {tx : Nat → Nat} {X : Dat} : ∀ (r g i : Nat) (C : Dat), i + r = len → r < g → TxC len tx C → dI C 3 7 = nn i → Ch (fun a k => a = 3 ∧ k = 7) X C → ∃ C', f_X5_advance_b8 N g C = f_X5_advance_b46 N C' ∧ Ch (fun a k => a = 3 ∧ k = 7) X C' ∧ dI C' 3 7 = nn (zl_run (zl_bk tx) r i) := by
  intro r
  induction r with
  | zero =>
    intro g i C hi hg hT h7 hc
    obtain ⟨g, rfl⟩ : ∃ g', g = g' + 1 := ⟨g - 1, by omega⟩
    have := hT.1
    refine ⟨C, ?_, hc, h7⟩
    rw [f_X5_advance_b8, hT.2.1, h7, if_pos ((nn_le (by omega) (by omega)).mpr (by omega))]
  | succ r ih =>
    intro g i C hi hg hT h7 hc
    obtain ⟨g, rfl⟩ : ∃ g', g = g' + 1 := ⟨g - 1, by omega⟩
    have hl := hT.1
    have hx := hT.2.2 i (by omega)
    rw [f_X5_advance_b8, hT.2.1, h7, if_neg (fun w => by have := (nn_le (by omega) (by omega)).mp w; omega), if_neg (nn_in (k := i) (n := 240) (by omega) (by omega)), nn_nat (by omega), hx.1]
    unfold zl_run
    by_cases e : tx i = 32
    · rw [if_pos (by rw [e]; rfl), if_pos (show zl_bk tx i = true from decide_eq_true e), nn_1]
      exact ih g (i + 1) _ (by omega) (by omega) (hT.kept (P := fun a k => a = 3 ∧ k = 7) (Ch.sI (by omega) Ch.rf) (fun a k w => by omega)) (by rw [dI_s, if_pos ⟨rfl, rfl⟩]) (Ch.sI (by omega) hc)
    · rw [if_neg (show ¬ nn (tx i) = 32 from fun w => e ((nn_eq (b := 32) (by omega) (by omega)).mp w)), if_neg (show ¬ zl_bk tx i = true from fun w => e (of_decide_eq_true w))]
      exact ⟨C, rfl, hc, h7⟩
def zl_p (len : Nat) (tx : Nat → Nat) (b : Nat) : Nat := zl_run (zl_bk tx) (len - b) b
theorem zl_advC {N len b : Nat} {tx : Nat → Nat} (hN : 1000 ≤ N) {C : Dat} (hT : TxC len tx C) (hb : b ≤ len) (h8 : dI C 3 8 = nn b) : ∃ C', f_X5_advance N C = some C' ∧ Ch QlC C C' ∧ TkC (zl_p len tx b) (zl_e len tx (zl_p len tx b)) (zl_t len tx (zl_p len tx b)) (zl_v len tx (zl_p len tx b)) C' := by
  have hl := hT.1
  unfold f_X5_advance
  rw [h8]
  have c0 : Ch (fun a k => a = 3 ∧ k = 7) C (sI C 3 7 (nn b)) := Ch.sI (by omega) Ch.rf
  obtain ⟨C1, r1, r2, r3⟩ := zl_skipC (N := N) (X := C) (len - b) N b (sI C 3 7 (nn b)) (by omega) (by omega) (hT.kept c0 (fun a k w => by omega)) (by rw [dI_s, if_pos ⟨rfl, rfl⟩]) c0
  have be := zl_run_b (f := zl_bk tx) (len - b) b
  obtain ⟨C2, s1, s2, s3⟩ := zl_finC hN (hT.kept r2 (fun a k w => by omega)) (p := zl_p len tx b) (by unfold zl_p; omega) r3
  exact ⟨C2, r1.trans s1, (r2.mono (fun a k w => by unfold QlC; omega)).tr s2, s3⟩
