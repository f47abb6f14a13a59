/-! the loop of the declarations, by their words -/
def f_X5_readDeclarations_b63 (N : Nat) (nu : Nat) (rec_2 : Int32 → Sr → Dat → Option (Sum Nat Unit × Sr × Dat)) (x1 : Int32) (S : Sr) (D : Dat) : Option (Sum Nat Unit × Sr × Dat) :=
  rec_2 (x1 + 1) S D
def f_X5_readDeclarations_b2 (N : Nat) (nu : Nat) : Nat → Int32 → Sr → Dat → Option (Sum Nat Unit × Sr × Dat)
  | 0, _, _, _ => none
  | g + 1, x1, S, D => if 240 ≤ x1 then (some (.inr (), S, D)) else ((f_X5_isW 0 D).bind (fun p2 => if p2.1 = 0 then ((f_X5_isW 1 p2.2).bind (fun p5 => if p5.1 = 0 then ((f_X5_isW 2 p5.2).bind (fun p8 => if p8.1 = 0 then (some (.inr (), S, p8.2)) else (sb2 (f_X5_readProc N nu S p8.2) (fun p11 S13 D13 => f_X5_readDeclarations_b63 N nu (f_X5_readDeclarations_b2 N nu g) x1 S13 D13)))) else (sb2 (f_X5_readMark N nu 2 26 S p5.2) (fun p14 S16 D16 => f_X5_readDeclarations_b63 N nu (f_X5_readDeclarations_b2 N nu g) x1 S16 D16)))) else (sb2 (f_X5_readMark N nu 1 0 S p2.2) (fun p17 S19 D19 => f_X5_readDeclarations_b63 N nu (f_X5_readDeclarations_b2 N nu g) x1 S19 D19))))
def f_X5_readDeclarations (N : Nat) (nu : Nat) (S : Sr) (D : Dat) : Option (Sum Nat Unit × Sr × Dat) :=
  f_X5_readDeclarations_b2 N nu N 0 S D
theorem sb2_assoc {α β γ : Type} (x : Option (Sum Nat α × Sr × Dat)) (F : α → Sr → Dat → Option (Sum Nat β × Sr × Dat)) (G : β → Sr → Dat → Option (Sum Nat γ × Sr × Dat)) : sb2 (sb2 x F) G = sb2 x (fun p S D => sb2 (F p S D) G) := by
  cases x with
  | none => rfl
  | some z =>
    obtain ⟨r, S, D⟩ := z
    cases r with
    | inl e => rfl
    | inr p => rfl
theorem g_m0 {N nu : Nat} {S : Sr} {D : Dat} : f_X5_readDeclaration_b57 N nu 0 S D = f_X5_mark N nu 1 0 S D := by
  unfold f_X5_readDeclaration_b57 f_X5_readDeclaration_b68 f_X5_readDeclaration_b94 f_X5_mark
  rw [if_pos rfl]
  simp only [if_true, Int32.zero_add]
theorem g_m1 {N nu : Nat} {S : Sr} {D : Dat} : f_X5_readDeclaration_b57 N nu 1 S D = f_X5_mark N nu 2 26 S D := by
  unfold f_X5_readDeclaration_b57 f_X5_readDeclaration_b68 f_X5_readDeclaration_b94 f_X5_mark
  have n10 : ((1 : Int32) = 0) = False := eq_false (by decide)
  simp only [n10, if_false]
theorem g_decl {N nu : Nat} {S : Sr} {D : Dat} : (dI D 3 6 = 20 → f_X5_readDeclaration N nu S D = f_X5_readMark N nu 1 0 S D) ∧ (dI D 3 6 = 21 → f_X5_readDeclaration N nu S D = f_X5_readMark N nu 2 26 S D) ∧ (dI D 3 6 = 22 → f_X5_readDeclaration N nu S D = f_X5_readProc N nu S D) := by
  unfold f_X5_readDeclaration f_X5_readMark f_X5_readProc f_X5_proc
  refine ⟨fun h => ?_, fun h => ?_, fun h => ?_⟩
  · rw [h]
    congr 1
    funext p
    rw [if_neg (by decide), if_neg (by decide), g_m0]
  · rw [h]
    congr 1
  · simp only [h, if_true]
theorem g_dloop {N nu : Nat} : ∀ (g : Nat) (x : Int32) (S : Sr) (D : Dat), f_X5_read_b36 N nu g x S D = sb2 (f_X5_readDeclarations_b2 N nu g x S D) (fun _ S' D' => f_X5_read_b71 N nu S' D') := by
  intro g
  induction g with
  | zero => intro x S D; rfl
  | succ g ih =>
    intro x S D
    rw [f_X5_read_b36, f_X5_readDeclarations_b2]
    by_cases h1 : (240 : Int32) ≤ x
    · rw [if_pos h1, if_pos h1, sb2_r]
    rw [if_neg h1, if_neg h1]
    unfold f_X5_isW f_X5_readDeclarations_b63
    simp only [bS]
    have s0 : nn (zl_ck 4 (zl_kc 0)) = 20 := rfl
    have s1 : nn (zl_ck 4 (zl_kc 1)) = 21 := rfl
    have s2 : nn (zl_ck 4 (zl_kc 2)) = 22 := rfl
    rw [s0, s1, s2]
    have n10 : ¬ (1 : Int32) = 0 := by decide
    obtain ⟨d0, d1, d2⟩ := g_decl (N := N) (nu := nu) (S := S) (D := D)
    have fin : ∀ r : Option (Sum Nat Unit × Sr × Dat), sb2 r (fun p10 S12 D12 => f_X5_read_b36 N nu g (x + 1) S12 D12) = sb2 (sb2 r (fun p11 S13 D13 => f_X5_readDeclarations_b2 N nu g (x + 1) S13 D13)) (fun _ S' D' => f_X5_read_b71 N nu S' D') := fun r => by
      rw [sb2_assoc]
      congr 1
      funext p S' D'
      exact ih _ _ _
    by_cases t0 : dI D 3 6 = 20
    · rw [if_pos t0, if_neg n10, ← d0 t0, t0, if_neg (by decide), if_neg (by decide)]
      exact fin _
    rw [if_neg t0, if_pos rfl]
    by_cases t1 : dI D 3 6 = 21
    · rw [if_pos t1, if_neg n10, ← d1 t1, t1, if_neg (by decide), if_neg (by decide)]
      exact fin _
    rw [if_neg t1, if_pos rfl]
    by_cases t2 : dI D 3 6 = 22
    · rw [if_pos t2, if_neg n10, ← d2 t2, t2, if_neg (by decide), if_neg (by decide)]
      exact fin _
    rw [if_neg t2, if_pos rfl, sb2_r]
    by_cases l : dI D 3 6 < 20
    · rw [if_pos l]
    · rw [if_neg l]
      by_cases m : (22 : Int32) < dI D 3 6
      · rw [if_pos m]
      · exfalso
        have a0 : ¬ (dI D 3 6).toInt < 20 := fun q => l (Int32.lt_iff_toInt_lt.mpr q)
        have a1 : ¬ 22 < (dI D 3 6).toInt := fun q => m (Int32.lt_iff_toInt_lt.mpr q)
        have e0 : ¬ (dI D 3 6).toInt = 20 := fun q => t0 (Int32.toInt_inj.mp q)
        have e1 : ¬ (dI D 3 6).toInt = 21 := fun q => t1 (Int32.toInt_inj.mp q)
        have e2 : ¬ (dI D 3 6).toInt = 22 := fun q => t2 (Int32.toInt_inj.mp q)
        omega
