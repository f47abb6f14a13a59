def f_X5_readIf_b53 (rec : Int32 → Sr → Dat → Option (Sum Nat (Option Nat) × Sr × Dat)) (N : Nat) (nu : Nat) (x1 : Option Nat) (S : Sr) (D : Dat) : Option (Sum Nat (Option Nat) × Sr × Dat) :=
  some (.inr x1, S, D)
def f_X5_else (rec : Int32 → Sr → Dat → Option (Sum Nat (Option Nat) × Sr × Dat)) (N : Nat) (nu a : Nat) (S : Sr) (D : Dat) : Option (Sum Nat (Option Nat) × Sr × Dat) :=
  (f_X5_isW 8 D).bind (fun p16 => if p16.1 = 0 then (f_X5_readIf_b53 rec N nu (some a) S p16.2) else ((f_X5_goTo (dI p16.2 3 8 + 1) p16.2).bind (fun p19 => sb2 (f_X5_readBlock rec nu S (sI p19 a 8 1)) (fun p21 S23 D23 => if kd S23.2.1 a = 7 then (f_X5_readIf_b53 rec N nu (some a) S23 (sR D23 a 7 p21)) else none))))
theorem g_b64 {rec : Int32 → Sr → Dat → Option (Sum Nat (Option Nat) × Sr × Dat)} {N nu a : Nat} {S : Sr} {D : Dat} : f_X5_readStatement_b64 rec N nu (some a) S D = (f_X5_goTo (dI D 3 8 + 1) D).bind (fun p1 => sb2 (f_X5_readExpression N nu 12 S p1) (fun p3 S5 D5 => if kd S5.2.1 a = 7 then (sb2 (f_X5_readBlock rec nu S5 (sI D5 a 5 p3)) (fun p9 S11 D11 => if kd S11.2.1 a = 7 then (if dI (sR D11 a 6 p9) a 0 = 16 then f_X5_else rec N nu a S11 (sR D11 a 6 p9) else f_X5_readIf_b53 rec N nu (some a) S11 (sR D11 a 6 p9)) else none)) else none)) := by
  unfold f_X5_readStatement_b64 f_X5_readBranches f_X5_readBranches_b67
  cases e1 : f_X5_goTo (dI D 3 8 + 1) D with
  | none => rfl
  | some p1 =>
    rw [bS, bS]
    cases e2 : f_X5_readExpression N nu 12 S p1 with
    | none => rfl
    | some z =>
      obtain ⟨r, S5, D5⟩ := z
      cases r with
      | inl e => rfl
      | inr p3 =>
        rw [sb2_r, sb2_r]
        show sb2 (if kd S5.2.1 a = 7 then _ else none) _ = _
        by_cases k5 : kd S5.2.1 a = 7
        · rw [if_pos k5, if_pos k5]
          cases e3 : f_X5_readBlock rec nu S5 (sI D5 a 5 p3) with
          | none => rfl
          | some z =>
            obtain ⟨r, S11, D11⟩ := z
            cases r with
            | inl e => rfl
            | inr p9 =>
              rw [sb2_r, sb2_r]
              by_cases k11 : kd S11.2.1 a = 7
              · rw [if_pos k11, if_pos k11]
                by_cases k16 : dI (sR D11 a 6 p9) a 0 = 16
                · rw [if_pos k16, if_pos k16]
                  unfold f_X5_else f_X5_isW
                  rw [bS]
                  have s8 : nn (zl_ck 4 (zl_kc 8)) = 23 := rfl
                  rw [s8]
                  by_cases t : dI (sR D11 a 6 p9) 3 6 = 23
                  · rw [if_pos t, if_pos t, if_neg (show ¬ (1 : Int32) = 0 by decide)]
                    cases e4 : f_X5_goTo (dI (sR D11 a 6 p9) 3 8 + 1) (sR D11 a 6 p9) with
                    | none => rfl
                    | some p15 =>
                      rw [bS, bS]
                      cases e5 : f_X5_readBlock rec nu S11 (sI p15 a 8 1) with
                      | none => rfl
                      | some z =>
                        obtain ⟨r, S19, D19⟩ := z
                        cases r with
                        | inl e => rfl
                        | inr p17 =>
                          rw [sb2_r, sb2_r]
                          by_cases k19 : kd S19.2.1 a = 7
                          · rw [if_pos k19, if_pos k19]
                            rfl
                          · rw [if_neg k19, if_neg k19]
                            rfl
                  · rw [if_neg t, if_neg t, if_pos (show (0 : Int32) = 0 from rfl)]
                    rfl
                · rw [if_neg k16, if_neg k16]
                  rfl
              · rw [if_neg k11, if_neg k11]
                rfl
        · rw [if_neg k5, if_neg k5]
          rfl
