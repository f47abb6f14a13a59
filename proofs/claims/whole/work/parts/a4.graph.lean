/-! ways to the end -/
def Awn (o : Nat → Nat) (x : Nat → Int32) (p : Nat) : Nat → Nat → Prop
  | 0, i => i ≠ p ∧ o i = 15
  | n + 1, i => i ≠ p ∧ ∃ s, nx o x i s ∧ Awn o x p n s
/-- a way from i to a HALT that avoids p -/
def Aw (o : Nat → Nat) (x : Nat → Int32) (p i : Nat) : Prop := ∃ n, Awn o x p n i
theorem Aw.ne {o : Nat → Nat} {x : Nat → Int32} {p i : Nat} (h : Aw o x p i) : i ≠ p := by
  obtain ⟨n, h⟩ := h
  cases n <;> exact h.1
theorem Aw.step {o : Nat → Nat} {x : Nat → Int32} {p i s : Nat} (hi : i ≠ p) (hs : nx o x i s) (h : Aw o x p s) : Aw o x p i := by
  obtain ⟨n, h⟩ := h
  exact ⟨n + 1, hi, s, hs, h⟩
theorem Aw.cases {o : Nat → Nat} {x : Nat → Int32} {p i : Nat} (h : Aw o x p i) : o i = 15 ∨ ∃ s, nx o x i s ∧ Aw o x p s := by
  obtain ⟨n, h⟩ := h
  cases n with
  | zero => exact Or.inl h.2
  | succ n => obtain ⟨-, s, h1, h2⟩ := h; exact Or.inr ⟨s, h1, n, h2⟩
theorem Rn_cons {o : Nat → Nat} {x : Nat → Int32} {p : Nat} : ∀ (n z q : Nat), Rn o x p (n + 1) z q ↔ ∃ s, nx o x z s ∧ s ≠ p ∧ Rn o x p n s q := by
  intro n
  induction n with
  | zero =>
    intro z q
    constructor
    · intro ⟨r, ⟨h1, h2⟩, h3, h4⟩; exact ⟨r, h1, h2, h3, h4⟩
    · intro ⟨s, h1, h2, h3, h4⟩; exact ⟨s, ⟨h1, h2⟩, h3, h4⟩
  | succ n ih =>
    intro z q
    constructor
    · intro ⟨r, h1, h2, h3⟩
      obtain ⟨s, g1, g2, g3⟩ := (ih z r).mp h1
      exact ⟨s, g1, g2, r, g3, h2, h3⟩
    · intro ⟨s, g1, g2, r, g3, h2, h3⟩
      exact ⟨r, (ih z r).mpr ⟨s, g1, g2, g3⟩, h2, h3⟩
theorem Rc.snoc {o : Nat → Nat} {x : Nat → Int32} {p z r q : Nat} (h : Rc o x p z r) (h1 : nx o x r q) (h2 : q ≠ p) : Rc o x p z q := by
  obtain ⟨n, h⟩ := h
  exact ⟨n + 1, r, h, h1, h2⟩
theorem Rc.one {o : Nat → Nat} {x : Nat → Int32} {p z q : Nat} (h1 : nx o x z q) (h2 : q ≠ p) : Rc o x p z q := ⟨0, h1, h2⟩
/-- whatever holds the first and is closed holds all that is reached -/
theorem Rc.ind {o : Nat → Nat} {x : Nat → Int32} {p z : Nat} {P : Nat → Prop} (h0 : ∀ q, nx o x z q → q ≠ p → P q) (hs : ∀ r q, P r → nx o x r q → q ≠ p → P q) {q : Nat} (h : Rc o x p z q) : P q := by
  obtain ⟨n, h⟩ := h
  induction n generalizing q with
  | zero => exact h0 q h.1 h.2
  | succ n ih => obtain ⟨r, h1, h2, h3⟩ := h; exact hs r q (ih h1) h2 h3
/-- a HALT is reached without p: a next one has a way without p -/
theorem Rc.halt {o : Nat → Nat} {x : Nat → Int32} {p z : Nat} : (∃ h, o h = 15 ∧ Rc o x p z h) ↔ ∃ s, nx o x z s ∧ Aw o x p s := by
  constructor
  · intro ⟨h, h1, n, h2⟩
    induction n generalizing z with
    | zero => exact ⟨h, h2.1, 0, h2.2, h1⟩
    | succ n ih =>
      obtain ⟨s, g1, g2, g3⟩ := (Rn_cons n z h).mp h2
      obtain ⟨t, t1, t2⟩ := ih g3
      exact ⟨s, g1, t2.step g2 t1⟩
  · intro ⟨s, h1, n, h2⟩
    induction n generalizing z s with
    | zero => exact ⟨s, h2.2, 0, h1, h2.1⟩
    | succ n ih =>
      obtain ⟨h3, t, h4, h5⟩ := h2
      obtain ⟨h, g1, m, g2⟩ := ih t h4 h5
      exact ⟨h, g1, m + 1, (Rn_cons m z h).mpr ⟨s, h1, h3, g2⟩⟩
/-- those that are on each way -/
def Cw (o : Nat → Nat) (x : Nat → Int32) (z p : Nat) : Prop := p ≠ z ∧ ¬ ∃ s, nx o x z s ∧ Aw o x p s
theorem way_or {o : Nat → Nat} {x : Nat → Int32} (q : Nat) {w y : Nat} (h : Aw o x w y) : Aw o x q y ∨ Aw o x w q := by
  obtain ⟨n, h⟩ := h
  induction n generalizing y with
  | zero =>
    by_cases z : y = q
    · rw [← z]; exact Or.inr ⟨0, h⟩
    · exact Or.inl ⟨0, z, h.2⟩
  | succ n ih =>
    obtain ⟨h1, s, h2, h3⟩ := h
    by_cases z : y = q
    · rw [← z]; exact Or.inr ⟨n + 1, h1, s, h2, h3⟩
    · rcases ih h3 with g | g
      · exact Or.inl (g.step z h2)
      · exact Or.inr g
theorem two_ways {o : Nat → Nat} {x : Nat → Int32} {p q w y : Nat} (hpq : p ≠ q) (h : Aw o x w y) : (∃ n, (∃ m, m = n ∧ Awn o x p m y) ∧ Awn o x q n y) ∨ (y = p ∧ Aw o x q p) ∨ (y = q ∧ Aw o x p q) ∨ Aw o x q p ∨ Aw o x p q := by
  obtain ⟨n, h⟩ := h
  induction n generalizing y with
  | zero =>
    by_cases z1 : y = p
    · exact Or.inr (Or.inr (Or.inr (Or.inl ⟨0, hpq, by rw [← z1]; exact h.2⟩)))
    · by_cases z2 : y = q
      · exact Or.inr (Or.inr (Or.inr (Or.inr ⟨0, fun e => hpq e.symm, by rw [← z2]; exact h.2⟩)))
      · exact Or.inl ⟨0, ⟨0, rfl, z1, h.2⟩, z2, h.2⟩
  | succ n ih =>
    obtain ⟨h1, s, h2, h3⟩ := h
    rcases ih h3 with ⟨m, ⟨m', e, g1⟩, g2⟩ | g | g | g | g
    · subst e
      by_cases z1 : y = p
      · exact Or.inr (Or.inr (Or.inr (Or.inl ⟨m' + 1, hpq, s, by rw [← z1]; exact h2, g2⟩)))
      · by_cases z2 : y = q
        · exact Or.inr (Or.inr (Or.inr (Or.inr ⟨m' + 1, fun e => hpq e.symm, s, by rw [← z2]; exact h2, g1⟩)))
        · exact Or.inl ⟨m' + 1, ⟨m' + 1, rfl, z1, s, h2, g1⟩, z2, s, h2, g2⟩
    · exact Or.inr (Or.inr (Or.inr (Or.inl g.2)))
    · exact Or.inr (Or.inr (Or.inr (Or.inr g.2)))
    · exact Or.inr (Or.inr (Or.inr (Or.inl g)))
    · exact Or.inr (Or.inr (Or.inr (Or.inr g)))
/-- first on the ways: two words for it -/
theorem first_on {o : Nat → Nat} {x : Nat → Int32} {z p w : Nat} (hz : ∃ s, nx o x z s ∧ Aw o x w s) (hzw : z ≠ w) (hp : Cw o x z p) : (∀ q, Cw o x z q → q ≠ p → ¬ Rc o x p z q) ↔ ∀ q, Cw o x z q → ¬ Aw o x q p := by
  constructor
  · intro h q hq hA
    have hpq : p ≠ q := hA.ne
    have nq := h q hq (fun e => hpq e.symm)
    -- p is reached
    have hA' : ∀ y, Rc o x p z y → Rc o x q z y ∧ y ≠ q := by
      intro y hy
      refine Rc.ind (P := fun y => Rc o x p z y ∧ Rc o x q z y ∧ y ≠ q) (fun r h1 h2 => ?_) (fun r t hr h1 h2 => ?_) hy |>.2
      · have rr : Rc o x p z r := Rc.one h1 h2
        have ne : r ≠ q := fun e => nq (by rw [← e]; exact rr)
        exact ⟨rr, Rc.one h1 ne, ne⟩
      · have rr : Rc o x p z t := hr.1.snoc h1 h2
        have ne : t ≠ q := fun e => nq (by rw [← e]; exact rr)
        exact ⟨rr, hr.2.1.snoc h1 ne, ne⟩
    -- from z on, either p comes, or a way without p
    have key : ∀ (n y : Nat), (y = z ∨ Rc o x p z y) → Awn o x w n y → (∃ s, nx o x y s ∧ s = p) ∨ (y = z ∨ Rc o x p z y) ∧ (o y = 15 ∨ ∃ r, (Rc o x p z r ∧ o r = 15) ∨ ((r = z ∨ Rc o x p z r) ∧ nx o x r p)) := by
      intro n
      induction n with
      | zero => intro y hy hA; exact Or.inr ⟨hy, Or.inl hA.2⟩
      | succ n ih =>
        intro y hy hA
        obtain ⟨-, s, h2, h3⟩ := hA
        by_cases e : s = p
        · exact Or.inl ⟨s, h2, e⟩
        · have hs : Rc o x p z s := by
            rcases hy with hy | hy
            · rw [hy] at h2; exact Rc.one h2 e
            · exact hy.snoc h2 e
          rcases ih s (Or.inr hs) h3 with ⟨t, t1, t2⟩ | ⟨-, g⟩
          · exact Or.inr ⟨hy, Or.inr ⟨s, Or.inr ⟨Or.inr hs, by rw [← t2]; exact t1⟩⟩⟩
          · rcases g with g | ⟨r, g⟩
            · exact Or.inr ⟨hy, Or.inr ⟨s, Or.inl ⟨hs, g⟩⟩⟩
            · exact Or.inr ⟨hy, Or.inr ⟨r, g⟩⟩
    obtain ⟨s, s1, n, s2⟩ := hz
    have fin : ∀ r, (r = z ∨ Rc o x p z r) → nx o x r p → False := fun r hr hrp => by
      have rp : Rc o x q z p := by
        rcases hr with hr | hr
        · rw [hr] at hrp; exact Rc.one hrp hpq
        · exact (hA' r hr).1.snoc hrp hpq
      apply hq.2
      apply Rc.halt.mp
      -- p has a way without q
      have : ∀ (n y : Nat), Rc o x q z y → Awn o x q n y → ∃ h, o h = 15 ∧ Rc o x q z h := by
        intro n
        induction n with
        | zero => intro y hy hA; exact ⟨y, hA.2, hy⟩
        | succ n ih =>
          intro y hy hA
          obtain ⟨-, t, t1, t2⟩ := hA
          exact ih t (hy.snoc t1 (Aw.ne ⟨n, t2⟩)) t2
      obtain ⟨m, hm⟩ := hA
      exact this m p rp hm
    have noh : ∀ r, Rc o x p z r → o r = 15 → False := fun r hr h15 => hp.2 (Rc.halt.mp ⟨r, h15, hr⟩)
    rcases key (n + 1) z (Or.inl rfl) ⟨hzw, s, s1, s2⟩ with ⟨t, t1, t2⟩ | ⟨-, g⟩
    · exact fin z (Or.inl rfl) (by rw [← t2]; exact t1)
    · rcases g with g | ⟨r, ⟨g1, g2⟩ | ⟨g1, g2⟩⟩
      · rcases s1 with ⟨-, e, -⟩ | ⟨e, -⟩
        · exact e g
        · omega
      · exact noh r g1 g2
      · exact fin r g1 g2
  · intro h q hq hqp hR
    have nqp := h q hq
    -- q has a way
    have hW : Aw o x w q := by
      obtain ⟨s, s1, s2⟩ := hz
      rcases way_or q s2 with g | g
      · exact absurd ⟨s, s1, g⟩ hq.2
      · exact g
    have nA : ¬ Aw o x p q := fun hA => by
      apply hp.2
      apply Rc.halt.mp
      have : ∀ (n y : Nat), Rc o x p z y → Awn o x p n y → ∃ h, o h = 15 ∧ Rc o x p z h := by
        intro n
        induction n with
        | zero => intro y hy hA; exact ⟨y, hA.2, hy⟩
        | succ n ih =>
          intro y hy hA
          obtain ⟨-, t, t1, t2⟩ := hA
          exact ih t (hy.snoc t1 (Aw.ne ⟨n, t2⟩)) t2
      obtain ⟨m, hm⟩ := hA
      exact this m q hR hm
    rcases two_ways (p := p) (q := q) (fun e => hqp e.symm) hW with ⟨m, ⟨m', e, g1⟩, g2⟩ | g | g | g | g
    · exact nA ⟨m', g1⟩
    · exact nqp g.2
    · exact nA g.2
    · exact nqp g
    · exact nA g
