/-! the reader's parts, by kinds of statements and of declarations -/
def f_X5_start (nu : Nat) (x1 : Int32) (S : Sr) (D : Dat) : Option (Sum Nat (Option Nat) × Sr × Dat) :=
  if 1 ≤ S.2.2.1 ∧ 10 ≤ S.2.2.2 ∧ NS ≤ S.1 then
    (dR (sN D S.1) 3 4).bind (fun a => if a = 191 ∨ a = 196 then (f_X4_size a (sN D S.1)).bind (fun p => some (.inr (some S.1), (S.1 + 1, va_up S.2.1 S.1 7, S.2.2.1 - 1, S.2.2.2 - 10), f_X7_init S.1 x1 (dI (sN D S.1) 3 7) p.1 p.2)) else none)
  else none
def f_X5_mark (N : Nat) (nu : Nat) (x1 : Int32) (x2 : Int32) (S : Sr) (D : Dat) : Option (Sum Nat Unit × Sr × Dat) :=
  sb2 (f_X5_takeNewName nu x1 S D) (fun p3 S5 D5 => sb2 (f_X5_take nu 58 S5 D5) (fun p6 S8 D8 => sb2 (f_X5_takeLabel nu S8 D8) (fun p9 S11 D11 => ((dR D8 3 4)).bind (fun a12 => if a12 = 191 ∨ a12 = 196 then ((f_X4_setMark a12 (x2 + p3) p9 D11).bind (fun p15 => sb2 (f_X5_take nu 59 S11 p15) (fun p17 S19 D19 => some (.inr (), S19, D19)))) else none))))
def f_X5_readMark (N : Nat) (nu : Nat) (x1 : Int32) (x2 : Int32) (S : Sr) (D : Dat) : Option (Sum Nat Unit × Sr × Dat) :=
  (f_X5_goTo (dI D 3 8 + 1) D).bind (fun p1 => f_X5_mark N nu x1 x2 S p1)
def f_X5_readIn (N : Nat) (nu : Nat) (S : Sr) (D : Dat) : Option (Sum Nat (Option Nat) × Sr × Dat) :=
  sb2 (f_X5_start nu 13 S D) (fun p1 S3 D3 => (f_X5_goTo (dI D3 3 8 + 1) D3).bind (fun p4 => sb2 (f_X5_takeName nu 1 S3 p4) (fun p6 S8 D8 => (p1).bind (fun a9 => if kd S8.2.1 a9 = 7 then (sb2 (f_X5_take nu 58 S8 (sI D8 a9 2 p6)) (fun p12 S14 D14 => sb2 (f_X5_takeLabel nu S14 D14) (fun p15 S17 D17 => if kd S17.2.1 a9 = 7 then (sb2 (f_X5_take nu 59 S17 (sI D17 a9 3 p15)) (fun p19 S21 D21 => some (.inr (some a9), S21, D21))) else none))) else none))))
def f_X5_readOut (N : Nat) (nu : Nat) (S : Sr) (D : Dat) : Option (Sum Nat (Option Nat) × Sr × Dat) :=
  sb2 (f_X5_start nu 14 S D) (fun p1 S3 D3 => (f_X5_goTo (dI D3 3 8 + 1) D3).bind (fun p4 => sb2 (f_X5_readExpression N nu 12 S3 p4) (fun p6 S8 D8 => (p1).bind (fun a9 => if kd S8.2.1 a9 = 7 then (sb2 (f_X5_take nu 58 S8 (sI D8 a9 5 p6)) (fun p12 S14 D14 => sb2 (f_X5_takeLabel nu S14 D14) (fun p15 S17 D17 => if kd S17.2.1 a9 = 7 then (sb2 (f_X5_take nu 59 S17 (sI D17 a9 3 p15)) (fun p19 S21 D21 => some (.inr (some a9), S21, D21))) else none))) else none))))
def f_X5_readDo (N : Nat) (nu : Nat) (S : Sr) (D : Dat) : Option (Sum Nat (Option Nat) × Sr × Dat) :=
  sb2 (f_X5_start nu 18 S D) (fun p1 S3 D3 => (f_X5_goTo (dI D3 3 8 + 1) D3).bind (fun p4 => sb2 (f_X5_takeName nu 4 S3 p4) (fun p6 S8 D8 => (p1).bind (fun a9 => if kd S8.2.1 a9 = 7 then (sb2 (f_X5_take nu 59 S8 (sI D8 a9 2 p6)) (fun p12 S14 D14 => some (.inr (some a9), S14, D14))) else none))))
def f_X5_tail (N : Nat) (nu a : Nat) (S : Sr) (D : Dat) : Option (Sum Nat (Option Nat) × Sr × Dat) :=
  sb2 (f_X5_take nu 61 S D) (fun p10 S12 D12 => sb2 (f_X5_readExpression N nu 12 S12 D12) (fun p13 S15 D15 => if kd S15.2.1 a = 7 then (sb2 (f_X5_take nu 59 S15 (sI D15 a 5 p13)) (fun p17 S19 D19 => some (.inr (some a), S19, D19))) else none))
def f_X5_named (N : Nat) (nu : Nat) (x : Int32) (p1 : Option Nat) (S3 : Sr) (D3 : Dat) : Option (Sum Nat (Option Nat) × Sr × Dat) :=
  sb2 (f_X5_takeName nu x S3 D3) (fun p4 S6 D6 => (p1).bind (fun a7 => if kd S6.2.1 a7 = 7 then (if kd S6.2.1 a7 = 7 then (if dI (sI D6 a7 2 p4) a7 0 = 4 then (sb2 (f_X5_readIndex (f_X5_readExpression N nu 12) nu S6 (sI D6 a7 2 p4)) (fun _ S12 D12 => f_X5_tail N nu a7 S12 D12)) else f_X5_tail N nu a7 S6 (sI D6 a7 2 p4)) else none) else none))
def f_X5_readSetting (N : Nat) (nu : Nat) (S : Sr) (D : Dat) : Option (Sum Nat (Option Nat) × Sr × Dat) :=
  sb2 (f_X5_start nu 2 S D) (fun p1 S3 D3 => f_X5_named N nu 1 p1 S3 D3)
def f_X5_readRowSetting (N : Nat) (nu : Nat) (S : Sr) (D : Dat) : Option (Sum Nat (Option Nat) × Sr × Dat) :=
  sb2 (f_X5_start nu 4 S D) (fun p1 S3 D3 => f_X5_named N nu 2 p1 S3 D3)
def f_X5_readIf (rec : Int32 → Sr → Dat → Option (Sum Nat (Option Nat) × Sr × Dat)) (N : Nat) (nu : Nat) (S : Sr) (D : Dat) : Option (Sum Nat (Option Nat) × Sr × Dat) :=
  sb2 (f_X5_start nu 16 S D) (fun p1 S3 D3 => f_X5_readStatement_b64 rec N nu p1 S3 D3)
def f_X5_readWhile (rec : Int32 → Sr → Dat → Option (Sum Nat (Option Nat) × Sr × Dat)) (N : Nat) (nu : Nat) (S : Sr) (D : Dat) : Option (Sum Nat (Option Nat) × Sr × Dat) :=
  sb2 (f_X5_start nu 17 S D) (fun p1 S3 D3 => f_X5_readStatement_b64 rec N nu p1 S3 D3)
def f_X5_oldStatement (rec : Int32 → Sr → Dat → Option (Sum Nat (Option Nat) × Sr × Dat)) (N : Nat) (nu : Nat) (S : Sr) (D : Dat) : Option (Sum Nat (Option Nat) × Sr × Dat) :=
  (f_X5_isW 3 D).bind (fun p1 => if p1.1 = 0 then ((f_X5_isW 4 p1.2).bind (fun p4 => if p4.1 = 0 then ((f_X5_isW 5 p4.2).bind (fun p7 => if p7.1 = 0 then ((f_X5_isW 6 p7.2).bind (fun p10 => if p10.1 = 0 then ((f_X5_isW 7 p10.2).bind (fun p13 => if p13.1 = 0 then ((f_X5_roleHere p13.2).bind (fun p16 => if p16.1 = 2 then (f_X5_readRowSetting N nu S p16.2) else (f_X5_readSetting N nu S p16.2))) else (f_X5_readDo N nu S p13.2))) else (f_X5_readOut N nu S p10.2))) else (f_X5_readIn N nu S p7.2))) else (f_X5_readWhile rec N nu S p4.2))) else (f_X5_readIf rec N nu S p1.2))
def f_X5_proc (N : Nat) (nu : Nat) (S : Sr) (D : Dat) : Option (Sum Nat Unit × Sr × Dat) :=
  sb2 (f_X5_takeNewName nu 3 S D) (fun p3 S5 D5 => sb2 (f_X5_readBlock (f_X5_readStatements N nu 12) nu S5 D5) (fun p6 S8 D8 => ((dR D5 3 4)).bind (fun a9 => if a9 = 191 ∨ a9 = 196 then ((f_X4_setProc nu S8.2.1 a9 p3 p6 D8).bind (fun p12 => (f_X5_setRole p3 4 p12).bind (fun p14 => some (.inr (), S8, p14)))) else none)))
def f_X5_readProc (N : Nat) (nu : Nat) (S : Sr) (D : Dat) : Option (Sum Nat Unit × Sr × Dat) :=
  (f_X5_goTo (dI D 3 8 + 1) D).bind (fun p1 => f_X5_proc N nu S p1)
/-! a statement is read by its kind -/
theorem g_role (D : Dat) : ∃ r, f_X5_roleHere D = some (r, D) ∧ ∀ n, 266 ≤ n → f_X5_roleHere (sN D n) = some (r, sN D n) := by
  unfold f_X5_roleHere f_X5_roleHere_b36 f_X5_roleHere_b37
  have d3 : ∀ n k, 266 ≤ n → dI (sN D n) 3 k = dI D 3 k := fun n k hn => by rw [dI_N, if_neg (by omega)]
  have d5 : ∀ n k, 266 ≤ n → dI (sN D n) 5 k = dI D 5 k := fun n k hn => by rw [dI_N, if_neg (by omega)]
  by_cases h1 : dI D 3 6 = 1
  · by_cases h2 : dI D 3 9 < 0
    · exact ⟨-1, by rw [if_pos h1, if_pos h2], fun n hn => by rw [d3 n 6 hn, d3 n 9 hn, if_pos h1, if_pos h2]⟩
    · by_cases h3 : (26 : Int32) ≤ dI D 3 9
      · exact ⟨-1, by rw [if_pos h1, if_neg h2, if_pos h3], fun n hn => by rw [d3 n 6 hn, d3 n 9 hn, if_pos h1, if_neg h2, if_pos h3]⟩
      · have h4 : ¬ (dI D 3 9 < 0 ∨ 26 ≤ (dI D 3 9).toNatClampNeg) := by
          rcases num 26 (dI D 3 9) with ⟨k, hk, hk2, e⟩ | hb
          · rw [e]
            exact nn_in (k := k) (n := 26) (by omega) (by omega)
          · exfalso
            have := not_lt0.mp h2
            have h5 : ¬ (26 : Int) ≤ (dI D 3 9).toInt := fun q => h3 (Int32.le_iff_toInt_le.mpr q)
            omega
        exact ⟨dI D 5 (dI D 3 9).toNatClampNeg, by rw [if_pos h1, if_neg h2, if_neg h3, if_neg h4], fun n hn => by rw [d3 n 6 hn, d3 n 9 hn, if_pos h1, if_neg h2, if_neg h3, if_neg h4, d5 n _ hn]⟩
  · exact ⟨-1, by rw [if_neg h1], fun n hn => by rw [d3 n 6 hn, if_neg h1]⟩
theorem g_st {rec : Int32 → Sr → Dat → Option (Sum Nat (Option Nat) × Sr × Dat)} {N nu : Nat} {S : Sr} {D : Dat} {k : Int32} (hk : 266 ≤ S.1 → f_X5_kindHere (sN D S.1) = some (k, sN D S.1)) {G : Option Nat → Sr → Dat → Option (Sum Nat (Option Nat) × Sr × Dat)} (hG : ∀ D', 266 ≤ S.1 → dI D' S.1 0 = k → f_X5_readStatement_b23 rec N nu (some S.1) (nS S) D' = G (some S.1) (nS S) D') : f_X5_readStatement rec N nu S D = sb2 (f_X5_start nu k S D) G := by
  unfold f_X5_readStatement f_X5_start
  by_cases c : 1 ≤ S.2.2.1 ∧ 10 ≤ S.2.2.2 ∧ NS ≤ S.1
  · rw [if_pos c, if_pos c, hk c.2.2, bS]
    show (dR (sN D S.1) 3 4).bind _ = sb2 ((dR (sN D S.1) 3 4).bind _) G
    cases e : dR (sN D S.1) 3 4 with
    | none => rfl
    | some a =>
      show (if a = 191 ∨ a = 196 then _ else none) = sb2 (if a = 191 ∨ a = 196 then _ else none) G
      by_cases ha : a = 191 ∨ a = 196
      · rw [if_pos ha, if_pos ha]
        cases e2 : f_X4_size a (sN D S.1) with
        | none => rfl
        | some p =>
          show f_X5_readStatement_b23 rec N nu (some S.1) (nS S) (f_X7_init S.1 k (dI (sN D S.1) 3 7) p.1 p.2) = G (some S.1) (nS S) (f_X7_init S.1 k (dI (sN D S.1) 3 7) p.1 p.2)
          refine hG _ c.2.2 ?_
          unfold f_X7_init
          rw [dI_s, if_neg (by omega), dI_s, if_neg (by omega), dI_s, if_neg (by omega), dI_s, if_pos ⟨rfl, rfl⟩]
      · rw [if_neg ha, if_neg ha]
        rfl
  · rw [if_neg c, if_neg c]
    rfl
theorem g_kd {S : Sr} (h : 266 ≤ S.1) : kd (nS S).2.1 S.1 = 7 := by
  show kd (va_up S.2.1 S.1 7) S.1 = 7
  rw [kd, if_neg (show ¬ S.1 < NS from Nat.not_lt.mpr h), va_up_self]
theorem g_stmt {rec : Int32 → Sr → Dat → Option (Sum Nat (Option Nat) × Sr × Dat)} {N nu : Nat} {S : Sr} {D : Dat} : f_X5_readStatement rec N nu S D = f_X5_oldStatement rec N nu S D := by
  obtain ⟨r, r1, r2⟩ := g_role D
  have d6 : 266 ≤ S.1 → dI (sN D S.1) 3 6 = dI D 3 6 := fun h => by rw [dI_N, if_neg (by omega)]
  unfold f_X5_oldStatement f_X5_isW
  simp only [bS]
  have s3 : nn (zl_ck 4 (zl_kc 3)) = 16 := rfl
  have s4 : nn (zl_ck 4 (zl_kc 4)) = 17 := rfl
  have s5 : nn (zl_ck 4 (zl_kc 5)) = 13 := rfl
  have s6 : nn (zl_ck 4 (zl_kc 6)) = 14 := rfl
  have s7 : nn (zl_ck 4 (zl_kc 7)) = 18 := rfl
  rw [s3, s4, s5, s6, s7]
  have n10 : ¬ (1 : Int32) = 0 := by decide
  by_cases t3 : dI D 3 6 = 16
  · rw [if_pos t3, if_neg n10]
    refine g_st (fun h => by unfold f_X5_kindHere f_X5_kindHere_b44; rw [d6 h, t3]; rfl) (fun D' h e => ?_)
    unfold f_X5_readStatement_b23
    show (if kd (nS S).2.1 S.1 = 7 then _ else _) = _
    rw [if_pos (g_kd h), e]
    rfl
  rw [if_neg t3, if_pos rfl]
  by_cases t4 : dI D 3 6 = 17
  · rw [if_pos t4, if_neg n10]
    refine g_st (fun h => by unfold f_X5_kindHere f_X5_kindHere_b44; rw [d6 h, t4]; rfl) (fun D' h e => ?_)
    unfold f_X5_readStatement_b23
    show (if kd (nS S).2.1 S.1 = 7 then _ else _) = _
    rw [if_pos (g_kd h), e]
    rfl
  rw [if_neg t4, if_pos rfl]
  by_cases t5 : dI D 3 6 = 13
  · rw [if_pos t5, if_neg n10]
    refine g_st (fun h => by unfold f_X5_kindHere f_X5_kindHere_b44; rw [d6 h, t5]; rfl) (fun D' h e => ?_)
    unfold f_X5_readStatement_b23
    show (if kd (nS S).2.1 S.1 = 7 then _ else _) = _
    rw [if_pos (g_kd h), e]
    rfl
  rw [if_neg t5, if_pos rfl]
  by_cases t6 : dI D 3 6 = 14
  · rw [if_pos t6, if_neg n10]
    refine g_st (fun h => by unfold f_X5_kindHere f_X5_kindHere_b44; rw [d6 h, t6]; rfl) (fun D' h e => ?_)
    unfold f_X5_readStatement_b23
    show (if kd (nS S).2.1 S.1 = 7 then _ else _) = _
    rw [if_pos (g_kd h), e]
    rfl
  rw [if_neg t6, if_pos rfl]
  by_cases t7 : dI D 3 6 = 18
  · rw [if_pos t7, if_neg n10]
    refine g_st (fun h => by unfold f_X5_kindHere f_X5_kindHere_b44; rw [d6 h, t7]; rfl) (fun D' h e => ?_)
    unfold f_X5_readStatement_b23
    show (if kd (nS S).2.1 S.1 = 7 then _ else _) = _
    rw [if_pos (g_kd h), e]
    rfl
  rw [if_neg t7, if_pos rfl, r1, bS]
  have kh : ∀ k : Int32, (if r = 2 then (4 : Int32) else 2) = k → 266 ≤ S.1 → f_X5_kindHere (sN D S.1) = some (k, sN D S.1) := fun k hk h => by
    unfold f_X5_kindHere f_X5_kindHere_b49 f_X5_kindHere_b62
    rw [d6 h, if_neg t5, if_neg t6, if_neg t3, if_neg t4, if_neg t7, r2 _ h, bS, ← hk]
    split <;> rfl
  by_cases hr : r = 2
  · rw [if_pos hr]
    refine g_st (kh 4 (if_pos hr)) (fun D' h e => ?_)
    unfold f_X5_readStatement_b23
    show (if kd (nS S).2.1 S.1 = 7 then _ else _) = _
    rw [if_pos (g_kd h), e]
    show f_X5_readStatement_b164 rec N nu (some S.1) (nS S) D' = _
    unfold f_X5_readStatement_b164
    show (if kd (nS S).2.1 S.1 = 7 then _ else _) = _
    rw [if_pos (g_kd h), e]
    rfl
  · rw [if_neg hr]
    refine g_st (kh 2 (if_neg hr)) (fun D' h e => ?_)
    unfold f_X5_readStatement_b23
    show (if kd (nS S).2.1 S.1 = 7 then _ else _) = _
    rw [if_pos (g_kd h), e]
    show f_X5_readStatement_b164 rec N nu (some S.1) (nS S) D' = _
    unfold f_X5_readStatement_b164
    show (if kd (nS S).2.1 S.1 = 7 then _ else _) = _
    rw [if_pos (g_kd h), e]
    rfl
