/-! each statement; blocks within blocks -/
theorem sb2_id {α : Type} (x : Option (Sum Nat α × Sr × Dat)) : sb2 x (fun p S D => some (.inr p, S, D)) = x := by
  cases x with
  | none => rfl
  | some y =>
    obtain ⟨a, S, D⟩ := y
    cases a with
    | inl e => rfl
    | inr r => rfl
/-- a token with which no statement begins -/
theorem zs_none {N nu len P : Nat} {tx : Nat → Nat} {nb h o p e t v j b w E jE sa si la li : Nat} {K0 W : Nat → Nat} {x1 : Int32} (hN : 1000 ≤ N) {S : Sr} {C M : Dat} (hp : SPre nu len P tx nb h o p e t v j b w E jE sa si la li K0 W S C M) (h1 : t = 1 → dI M 229 v = 4 ∨ dI M 229 v = 5) (h4 : t = 4 → v < 4 ∨ v = 5) : SBad N P nb h o p j b (260 * h + b + w) la li K0 x1 C M (f_X5_readSetting N nu S C) (fun f => (f_X12_statement N M).bind f) := by
  obtain ⟨S0, C0, M0, a1, a2, hz, ht, -, -⟩ := zs_zb 2 hp
  obtain ⟨c0, m0, hS0, hkd, ⟨g1, g2, g3, hPP, hh, ho, hbw⟩, hla⟩ := id hz
  have hSb := hS0.sb (by omega)
  have hR := hp.1.1
  obtain ⟨hB, hkC, hkM, hTk⟩ := id hR
  have j64 : j < 64 := by omega
  have tl := zx_tok_lt hTk
  have r0 : ∀ y, dI M0 229 y = dI M 229 y := fun y => m0.i (by clear hPP; unfold Ma; omega)
  have nC : f_X5_takeName nu 1 S0 C0 = some (.inl 4, Sx S0, C0) := zs_nonameC ht.1 hSb (fun q w => by
    have := h1 q
    rw [r0] at w
    rcases this with z | z <;> rw [z] at w <;> exact absurd w (by decide))
  have cls : f_X5_readSetting N nu S C = some (.inl 4, Sx S0, C0) := by
    unfold f_X5_readSetting f_X5_named
    rw [a1, sb2_r, nC, sb2_l]
  have fin : ∀ X, Ch (YM h j (260 * h + b + w) o la li) M X → dI X 207 40 = nn p → f_X12_statement N M = some X → SBad N P nb h o p j b (260 * h + b + w) la li K0 x1 C M (f_X5_readSetting N nu S C) (fun f => (f_X12_statement N M).bind f) := fun X cX bX sX => SBad.one (q := p) cls hS0.2.2.2.2.2 ht.1.2.1.1 bX ⟨Nat.le_refl _, g1⟩ (c0.mono (fun a k q => ya_YC q)) cX (fun f => by show (f_X12_statement N M).bind f = _; rw [sX, bS])
  by_cases q1 : t = 1
  · subst q1
    have hv26 : v < 26 := (hTk.2.2.2.1 rfl).1
    have i26 : ¬ (nn v < 0 ∨ 26 ≤ (nn v).toNatClampNeg) := nn_in (k := v) (n := 26) (by omega) hv26
    have nv : (nn v).toNatClampNeg = v := nn_nat (by omega)
    have k38 : dI M0 207 38 = nn v := ht.1.2.2.1.2.2.2 (Or.inl rfl)
    refine fin (sI M0 207 40 (nn p)) (Ch.sI (Or.inl (by omega)) (m0.mono (fun a k q => ym_YM j64 q))) (by rw [dI_s, if_pos ⟨rfl, rfl⟩]) ?_
    unfold f_X12_statement
    rw [hkM.2.2.1, if_pos (show nn (zl_mt 1) = 110 from rfl), hkM.1, a2, bS]
    unfold f_X12_named
    have n3 : ¬ dI M0 229 v ≤ 3 := by rw [r0]; rcases h1 rfl with z | z <;> rw [z] <;> decide
    rw [k38, if_neg i26, nv, if_neg n3, zx_wrong ht.1.1.2.2.1 ht.1.2.2.1.1, bS, bS]
  · have w52 : f_X12_statement_b52 N M = some (sI M 207 40 (nn p)) := by
      unfold f_X12_statement_b52
      rw [zx_wrong hB.2.2.1 hkM.1, bS]
    refine fin (sI M 207 40 (nn p)) (Ch.sI (Or.inl (by omega)) Ch.rf) (by rw [dI_s, if_pos ⟨rfl, rfl⟩]) ?_
    have n110 : ¬ nn (zl_mt t) = 110 := fun q => by
      have q := (nn_eq (b := 110) (by have := zx_mt_lt tl; omega) (by omega)).mp q
      rcases hTk.2.2.2.2.2.1 with a | a
      · unfold zl_mt at q
        repeat' split at q
        all_goals omega
      · have := zl_Si.mp a
        rw [zx_mt (by omega)] at q
        omega
    unfold f_X12_statement
    rw [hkM.2.2.1, if_neg n110]
    unfold f_X12_statement_b41
    by_cases q4 : t = 4
    · subst q4
      rw [if_pos (show nn (zl_mt 4) = 107 from rfl), hkM.2.2.2 (Or.inr (Or.inr rfl))]
      rcases h4 rfl with z | z
      · rw [if_pos (show nn v < 4 from (nn_lt (b := 4) (by omega) (by omega)).mpr z), w52]
      · subst z
        rw [if_neg (show ¬ nn 5 < 4 by decide), if_pos (show nn 5 = 5 from rfl), w52]
    · have n107 : ¬ nn (zl_mt t) = 107 := fun q => by
        have q := (nn_eq (b := 107) (by have := zx_mt_lt tl; omega) (by omega)).mp q
        rcases hTk.2.2.2.2.2.1 with a | a
        · unfold zl_mt at q
          repeat' split at q
          all_goals omega
        · have := zl_Si.mp a
          rw [zx_mt (by omega)] at q
          omega
      rw [if_neg n107, if_pos (show (0 : Int32) < 4 by decide), w52]
theorem zs_stmt {N nu len P : Nat} {tx : Nat → Nat} {nb h o E jE : Nat} {K0 : Nat → Nat} {rec : Int32 → Sr → Dat → Option (Sum Nat (Option Nat) × Sr × Dat)} (hN : 1000 ≤ N) (hrec : o < 8 → ZL N nu len P tx nb h (o + 1) E jE K0 125 (rec 125)) : ZSt N nu len P tx nb h o E jE K0 (f_X5_readStatement rec N nu) := by
  intro p e t v j b w sa si la li W x1 S C M hp
  have hR := hp.1.1
  obtain ⟨hB, hkC, hkM, hTk⟩ := id hR
  have iw : ∀ i, i < 9 → f_X5_isW i C = some (if t = 4 ∧ v = zl_kc i then 1 else 0, C) := fun i hi => zl_isW hi hkC hTk
  have k3 : zl_kc 3 = 4 := rfl
  have k4 : zl_kc 4 = 6 := rfl
  have k5 : zl_kc 5 = 7 := rfl
  have k6 : zl_kc 6 = 8 := rfl
  have k7 : zl_kc 7 = 9 := rfl
  rw [show f_X5_readStatement rec N nu S C = f_X5_oldStatement rec N nu S C from g_stmt]
  unfold f_X5_oldStatement
  rw [iw 3 (by decide), bS, k3]
  by_cases c3 : t = 4 ∧ v = 4
  · obtain ⟨rfl, rfl⟩ := c3
    rw [if_pos (show (4 : Nat) = 4 ∧ (4 : Nat) = 4 from ⟨rfl, rfl⟩), if_neg (show ¬ (1 : Int32) = 0 by decide)]
    exact zs_if hN hrec hp
  rw [if_neg c3, if_pos rfl, iw 4 (by decide), bS, k4]
  by_cases c4 : t = 4 ∧ v = 6
  · obtain ⟨rfl, rfl⟩ := c4
    rw [if_pos (show (4 : Nat) = 4 ∧ (6 : Nat) = 6 from ⟨rfl, rfl⟩), if_neg (show ¬ (1 : Int32) = 0 by decide)]
    exact zs_while hN hrec hp
  rw [if_neg c4, if_pos rfl, iw 5 (by decide), bS, k5]
  by_cases c5 : t = 4 ∧ v = 7
  · obtain ⟨rfl, rfl⟩ := c5
    rw [if_pos (show (4 : Nat) = 4 ∧ (7 : Nat) = 7 from ⟨rfl, rfl⟩), if_neg (show ¬ (1 : Int32) = 0 by decide)]
    exact zs_in hN hp
  rw [if_neg c5, if_pos rfl, iw 6 (by decide), bS, k6]
  by_cases c6 : t = 4 ∧ v = 8
  · obtain ⟨rfl, rfl⟩ := c6
    rw [if_pos (show (4 : Nat) = 4 ∧ (8 : Nat) = 8 from ⟨rfl, rfl⟩), if_neg (show ¬ (1 : Int32) = 0 by decide)]
    exact zs_out hN hp
  rw [if_neg c6, if_pos rfl, iw 7 (by decide), bS, k7]
  by_cases c7 : t = 4 ∧ v = 9
  · obtain ⟨rfl, rfl⟩ := c7
    rw [if_pos (show (4 : Nat) = 4 ∧ (9 : Nat) = 9 from ⟨rfl, rfl⟩), if_neg (show ¬ (1 : Int32) = 0 by decide)]
    exact zs_do hN hp
  rw [if_neg c7, if_pos rfl]
  have tl := zx_tok_lt hTk
  by_cases q1 : t = 1
  · subst q1
    have hv26 : v < 26 := (hTk.2.2.2.1 rfl).1
    rw [zx_role1 hkC hv26, bS]
    rcases zs_roles hB.2.2.2.2.2.2 hv26 with q | q | q | q | q
    · rw [q.1, if_neg (show ¬ (0 : Int32) = 2 by decide)]
      exact zs_assign hN hp (Or.inl q.2.1)
    · rw [q.1, if_neg (show ¬ (1 : Int32) = 2 by decide)]
      exact zs_assign hN hp (Or.inr q.2)
    · rw [q.1, if_pos (show (2 : Int32) = 2 from rfl)]
      exact zs_row hN hp q.2
    · rw [q.1, if_neg (show ¬ (3 : Int32) = 2 by decide)]
      exact Or.inl (zs_none hN hp (fun _ => Or.inl q.2) (fun z => absurd z (by decide)))
    · rw [q.1, if_neg (show ¬ (4 : Int32) = 2 by decide)]
      exact Or.inl (zs_none hN hp (fun _ => Or.inr q.2) (fun z => absurd z (by decide)))
  · rw [zx_role0 hkC tl q1, bS, if_neg (show ¬ (-1 : Int32) = 2 by decide)]
    refine Or.inl (zs_none hN hp (fun z => absurd z q1) (fun z => ?_))
    subst z
    have := (hTk.2.2.2.2.2.2 rfl).1
    omega
theorem zl_all {N nu len P : Nat} {tx : Nat → Nat} {nb h E jE : Nat} {K0 : Nat → Nat} (hN : 1000 ≤ N) : ∀ (d o cl : Nat), 9 ≤ d + o → o ≤ 8 → ((o = 0 ∧ cl = 0) ∨ (1 ≤ o ∧ cl = 125)) → ZL N nu len P tx nb h o E jE K0 cl (f_X5_readStatements N nu d (nn cl)) := by
  intro d
  induction d with
  | zero => intro o cl h1 h2; omega
  | succ d ih =>
    intro o cl h1 h2 hcl p e t v j b w sa si W x1 S C M hp h233 hsl hd
    have hst : ZSt N nu len P tx nb h o E jE K0 (f_X5_readStatement (f_X5_readStatements N nu d) N nu) := zs_stmt hN (fun h8 => ih (o + 1) 125 (by omega) (by omega) (Or.inr ⟨by omega, rfl⟩))
    have hp240 : p ≤ 240 := by have := hp.1.1.2.2.2.1; have := hp.1.1.1.1.1.1; omega
    have key := zl_loop (sa := sa) (si := si) hN hcl hst N 0 p e t v j b w sa si (nb + j) none none W x1 S C M (by omega) (by omega) hp (Or.inl ⟨rfl, rfl, rfl, rfl, h233, hsl, rfl⟩) hd
    rcases key with q | q
    · exact Or.inl q
    · right
      obtain ⟨fr, S', C', M', p', e', v', j', b', w', k, W', x1', u1, u2, u3, u4, u5, u6, u7, u8, u9, u10, u11, u12, u13, u14⟩ := q
      exact ⟨fr, S', C', M', p', e', v', j', b', w', k, W', x1', u1, u2, u3, u4, u5, u6, u7, u8, u9, u10, u11, u12, trivial, u14⟩
