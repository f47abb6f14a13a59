theorem lw_li {j L : Nat} (hL : L ≤ 257) (hj : 4 * j + 1 ≤ 257) : ((Int32.ofNat L - 4 < Int32.ofNat (4 * j + 1)) ↔ L < 4 * j + 5) ∧ (∀ k : Nat, k ≤ 4 → (Int32.ofNat (4 * j + 1) + Int32.ofNat k).toNatClampNeg = 4 * j + 1 + k ∧ ¬ Int32.ofNat (4 * j + 1) + Int32.ofNat k < 0) := by
  have e1 : (Int32.ofNat L).toInt = L := Int32.toInt_ofNat_of_lt (by omega)
  have e2 : (Int32.ofNat (4 * j + 1)).toInt = ((4 * j + 1 : Nat) : Int) := Int32.toInt_ofNat_of_lt (by omega)
  refine ⟨?_, fun k hk => ?_⟩
  · rw [Int32.lt_iff_toInt_lt, Int32.toInt_sub, e1, e2, show (4 : Int32).toInt = 4 from rfl, Int.bmod_eq_of_le (by omega) (by omega)]
    omega
  · have e3 : (Int32.ofNat k).toInt = (k : Int) := Int32.toInt_ofNat_of_lt (by omega)
    have e4 : (Int32.ofNat (4 * j + 1) + Int32.ofNat k).toInt = ((4 * j + 1 + k : Nat) : Int) := by
      rw [Int32.toInt_add, e2, e3, Int.bmod_eq_of_le (by omega) (by omega)]
      omega
    refine ⟨?_, ?_⟩
    · show (Int32.ofNat (4 * j + 1) + Int32.ofNat k).toInt.toNat = _
      rw [e4]
      omega
    · rw [Int32.lt_iff_toInt_lt, e4]
      show ¬ _ < (0 : Int)
      omega
theorem v_lawret {X : Cx} {n : Nat} {A : Al} {D : Dat} {pc b : Nat} {lv : List (Nat × Value)} (O : Ok X cL_law RL (some .boolean) 2048 84000) (hR : xR X = room_1) (ha : xa X = #[Value.ref b]) (hC : xC X = 600128) (hU : xU X = 7301064) (hbo : bo X = (xs X).heap.size) (dd : decode cL_law pc = .ok (.ireturn, 1)) : V X (lw_Z (xb X) #[Value.ref b] (xs X)) n A D pc lv [.int 1] := by
  intro H locs cells slots ls h1 h2 h3 h4 h5
  rw [hC] at h3
  rw [hU] at h4
  have hw := lw_ret (p := xp X) (l := xl X) (e := xe X) (s := xs X) (m := xm X) (below := xb X) (meth := xh X) (c := xc X) (b := b) (H := H) (ls := ls) O.1 O.2.1 O.2.2.2.2.2.2.2.2.2.1 O.2.2.2.2.2.2.2.2.1 dd
  rw [← hR, ← ha] at hw
  refine va_forget (fun q hq => by rw [← hbo]; exact h2.2.2 q hq) (W.widen (k := 600128) (n := 7301064) (by omega) (by omega) ?_)
  rw [← ha]
  exact hw
/-- the loop of the law: the invariant is kept by every call -/
theorem lw_loop {X : Cx} {b L N nu : Nat} {ss : Nat → Int32} (Inv : Nat → (Nat → Nat) → Dat → Prop) (hS : ∀ (n : Nat) (K : Nat → Nat) (D : Dat) (o a1 a2 a3 : Int32), Inv nu K D → NS ≤ n → (∀ a, kd K a < 19 → a < n) → ∃ (K' : Nat → Nat) (D' : Dat), stp N nu n K D o a1 a2 a3 = some (K', D') ∧ Inv nu K' D') (O : Ok X cL_law RL (some .boolean) 2048 84000) (hm : wlm (xw X) = true) (hn : xn X = 7) (hl : (xl X).stackTraces = false) (hT : xC X ≤ (xR X).cells ∧ xU X ≤ (xR X).slots) (hX : va_X b L ss (xs X) (xs X).heap) (hbl : b < (xs X).heap.size) (hbo : ¬ bo X ≤ b) (hR : xR X = room_1) (ha : xa X = #[Value.ref b]) (hC : xC X = 600128) (hU : xU X = 7301064) (hbs : bo X = (xs X).heap.size) (hL : L ≤ 257) : ∀ (r j n c u : Nat) (K : Nat → Nat) (D : Dat), j + r = 64 → Inv nu K D → NS ≤ n → r * 9200 ≤ c → r * 112000 ≤ u → V X (lw_Z (xb X) #[Value.ref b] (xs X)) n (Ax nu K c u) D 33 [(0, .ref b), (1, .ref (bo X + pp 0)), (2, .ref (bo X + pp 207)), (3, .ref (bo X + pp 262)), (4, .int (Int32.ofNat (4 * j + 1)))] [] := by
  intro r
  induction r with
  | zero =>
    intro j n c u K D hj hI hn0 hc hu
    obtain ⟨q1, q2⟩ := lw_li (j := j) hL (by omega)
    refine v_iload (pc := 33) O dL_law_33 4 rfl ?_
    refine v_aload_n (pc := 35) O dL_law_35 0 rfl ?_
    refine v_slen (pc := 36) O hX hbl hbo dL_law_36 ?_
    refine v_iconst (pc := 37) O dL_law_37 ic_4 ?_
    refine v_isub (pc := 38) O dL_law_38 ?_
    refine v_icmpgt (pc := 39) 1339 O dL_law_39 (by decide) (fun _ => ?_) (fun c1 => absurd (q1.mpr (by omega)) c1)
    refine v_iconst (pc := 1339) O dL_law_1339 ic_1 ?_
    exact v_lawret O hR ha hC hU hbs dL_law_1340
  | succ r ih =>
    intro j n c u K D hj hI hn0 hc hu
    obtain ⟨q1, q2⟩ := lw_li (j := j) hL (by omega)
    refine v_iload (pc := 33) O dL_law_33 4 rfl ?_
    refine v_aload_n (pc := 35) O dL_law_35 0 rfl ?_
    refine v_slen (pc := 36) O hX hbl hbo dL_law_36 ?_
    refine v_iconst (pc := 37) O dL_law_37 ic_4 ?_
    refine v_isub (pc := 38) O dL_law_38 ?_
    refine v_icmpgt (pc := 39) 1339 O dL_law_39 (by decide) (fun _ => ?_) (fun c1 => ?_)
    · refine v_iconst (pc := 1339) O dL_law_1339 ic_1 ?_
      exact v_lawret O hR ha hC hU hbs dL_law_1340
    · have hlt : 4 * j + 5 ≤ L := Nat.not_lt.mp fun q => c1 (q1.mpr q)
      have ix : ∀ k : Nat, k ≤ 4 → k < 4 → ¬ (Int32.ofNat (4 * j + 1) + Int32.ofNat k < 0 ∨ L ≤ (Int32.ofNat (4 * j + 1) + Int32.ofNat k).toNatClampNeg) := fun k hk hk4 q => by
        obtain ⟨a1, a2⟩ := q2 k hk
        rcases q with q | q
        · exact a2 q
        · rw [a1] at q
          omega
      have i0 := ix 0 (by decide) (by decide)
      have i1 := ix 1 (by decide) (by decide)
      have i2 := ix 2 (by decide) (by decide)
      have i3 := ix 3 (by decide) (by decide)
      rw [show Int32.ofNat (4 * j + 1) + Int32.ofNat 0 = Int32.ofNat (4 * j + 1) from Int32.add_zero _] at i0
      have nxt : Int32.ofNat (4 * j + 1) + 4 = Int32.ofNat (4 * (j + 1) + 1) := by
        rw [show 4 * (j + 1) + 1 = (4 * j + 1) + 4 by omega]
        exact (Int32.ofNat_add _ _).symm
      refine v_aload_n (pc := 42) O dL_law_42 0 rfl ?_
      refine v_iload (pc := 43) O dL_law_43 4 rfl ?_
      refine v_sld (pc := 45) O hX hbl hbo i0 dL_law_45 ?_
      refine v_bipush (pc := 46) O dL_law_46 bp_31 ?_
      refine v_iand (pc := 48) O dL_law_48 ?_
      intro H locs cells slots ls hp1 hp2 hp3 hp4 hp5
      obtain ⟨K', D', hs, hI'⟩ := hS n K D (ss (Int32.ofNat (4 * j + 1)).toNatClampNeg &&& 31) (ss (Int32.ofNat (4 * j + 1) + 1).toNatClampNeg) (ss (Int32.ofNat (4 * j + 1) + 2).toNatClampNeg) (ss (Int32.ofNat (4 * j + 1) + 3).toNatClampNeg) hI hn0 (fun a h9 => (pp_lt hn0).mp (pic_lt hp1 h9))
      have fin : ∀ n' c' u', n ≤ n' → c - 9200 ≤ c' → u - 112000 ≤ u' → V X (lw_Z (xb X) #[Value.ref b] (xs X)) n' (Ax nu K' c' u') D' 1333 [(0, .ref b), (1, .ref (bo X + pp 0)), (2, .ref (bo X + pp 207)), (3, .ref (bo X + pp 262)), (4, .int (Int32.ofNat (4 * j + 1)))] [] := by
        intro n' c' u' k1 k2 k3
        refine v_iinc (pc := 1333) (lv' := [(4, .int (Int32.ofNat (4 * (j + 1) + 1))), (0, .ref b), (1, .ref (bo X + pp 0)), (2, .ref (bo X + pp 207)), (3, .ref (bo X + pp 262))]) O dL_law_1333 4 rfl nxt (by rw [hn]; decide) rfl ?_
        refine v_goto (pc := 1336) 33 O dL_law_1336 (by decide) ?_
        refine v_sub [1, 2, 3, 4, 0] rfl ?_
        exact ih (j + 1) n' c' u' K' D' (by omega) hI' (by omega) (Nat.le_trans (Nat.le_sub_of_add_le (by rw [← Nat.succ_mul]; exact hc)) k2) (Nat.le_trans (Nat.le_sub_of_add_le (by rw [← Nat.succ_mul]; exact hu)) k3)
      revert hp5
      revert hp4
      revert hp3
      revert hp2
      revert hp1
      revert ls
      revert slots
      revert cells
      revert locs
      revert H
      show V X _ n (Ax nu K c u) D 49 [(0, .ref b), (1, .ref (bo X + pp 0)), (2, .ref (bo X + pp 207)), (3, .ref (bo X + pp 262)), (4, .int (Int32.ofNat (4 * j + 1)))] [.int (ss (Int32.ofNat (4 * j + 1)).toNatClampNeg &&& 31)]
      generalize ss (Int32.ofNat (4 * j + 1)).toNatClampNeg &&& 31 = o at hs ⊢
      unfold stp at hs
      by_cases o0 : o = (0 : Int32)
      · rw [if_pos o0] at hs
        refine v_tableIn (pc := 49) 140 O dL_law_49 (by rw [o0]; decide) (by rw [o0]; decide) (by rw [o0]; rfl) (by decide) ?_
        exact lw_case0 O hm hn hl hT hX hbl hbo i1 rfl i2 rfl i3 rfl hs ⟨by omega, by omega⟩ fin
      rw [if_neg o0] at hs
      by_cases o1 : o = (1 : Int32)
      · rw [if_pos o1] at hs
        refine v_tableIn (pc := 49) 208 O dL_law_49 (by rw [o1]; decide) (by rw [o1]; decide) (by rw [o1]; rfl) (by decide) ?_
        exact lw_case1 O hm hn hl hT hX hbl hbo i1 rfl i2 rfl i3 rfl hs ⟨by omega, by omega⟩ fin
      rw [if_neg o1] at hs
      by_cases o2 : o = (2 : Int32)
      · rw [if_pos o2] at hs
        refine v_tableIn (pc := 49) 252 O dL_law_49 (by rw [o2]; decide) (by rw [o2]; decide) (by rw [o2]; rfl) (by decide) ?_
        exact lw_case2 O hm hn hl hT hX hbl hbo i1 rfl i2 rfl i3 rfl hs ⟨by omega, by omega⟩ fin
      rw [if_neg o2] at hs
      by_cases o3 : o = (3 : Int32)
      · rw [if_pos o3] at hs
        refine v_tableIn (pc := 49) 332 O dL_law_49 (by rw [o3]; decide) (by rw [o3]; decide) (by rw [o3]; rfl) (by decide) ?_
        exact lw_case3 O hm hn hl hT hX hbl hbo i1 rfl i2 rfl i3 rfl hs ⟨by omega, by omega⟩ fin
      rw [if_neg o3] at hs
      by_cases o4 : o = (4 : Int32)
      · rw [if_pos o4] at hs
        refine v_tableIn (pc := 49) 432 O dL_law_49 (by rw [o4]; decide) (by rw [o4]; decide) (by rw [o4]; rfl) (by decide) ?_
        exact lw_case4 O hm hn hl hT hX hbl hbo i1 rfl i2 rfl i3 rfl hs ⟨by omega, by omega⟩ fin
      rw [if_neg o4] at hs
      by_cases o5 : o = (5 : Int32)
      · rw [if_pos o5] at hs
        refine v_tableIn (pc := 49) 476 O dL_law_49 (by rw [o5]; decide) (by rw [o5]; decide) (by rw [o5]; rfl) (by decide) ?_
        exact lw_case5 O hm hn hl hT hX hbl hbo i1 rfl i2 rfl i3 rfl hs ⟨by omega, by omega⟩ fin
      rw [if_neg o5] at hs
      by_cases o6 : o = (6 : Int32)
      · rw [if_pos o6] at hs
        refine v_tableIn (pc := 49) 544 O dL_law_49 (by rw [o6]; decide) (by rw [o6]; decide) (by rw [o6]; rfl) (by decide) ?_
        exact lw_case6 O hm hn hl hT hX hbl hbo i1 rfl i2 rfl i3 rfl hs ⟨by omega, by omega⟩ fin
      rw [if_neg o6] at hs
      by_cases o7 : o = (7 : Int32)
      · rw [if_pos o7] at hs
        refine v_tableIn (pc := 49) 640 O dL_law_49 (by rw [o7]; decide) (by rw [o7]; decide) (by rw [o7]; rfl) (by decide) ?_
        exact lw_case7 O hm hn hl hT hX hbl hbo i1 rfl i2 rfl i3 rfl hs ⟨by omega, by omega⟩ fin
      rw [if_neg o7] at hs
      by_cases o8 : o = (8 : Int32)
      · rw [if_pos o8] at hs
        refine v_tableIn (pc := 49) 653 O dL_law_49 (by rw [o8]; decide) (by rw [o8]; decide) (by rw [o8]; rfl) (by decide) ?_
        exact lw_case8 O hm hn hl hT hX hbl hbo i1 rfl i2 rfl i3 rfl hs ⟨by omega, by omega⟩ fin
      rw [if_neg o8] at hs
      by_cases o9 : o = (9 : Int32)
      · rw [if_pos o9] at hs
        refine v_tableIn (pc := 49) 697 O dL_law_49 (by rw [o9]; decide) (by rw [o9]; decide) (by rw [o9]; rfl) (by decide) ?_
        exact lw_case9 O hm hn hl hT hX hbl hbo i1 rfl i2 rfl i3 rfl hs ⟨by omega, by omega⟩ fin
      rw [if_neg o9] at hs
      by_cases o10 : o = (10 : Int32)
      · rw [if_pos o10] at hs
        refine v_tableIn (pc := 49) 765 O dL_law_49 (by rw [o10]; decide) (by rw [o10]; decide) (by rw [o10]; rfl) (by decide) ?_
        exact lw_case10 O hm hn hl hT hX hbl hbo i1 rfl i2 rfl i3 rfl hs ⟨by omega, by omega⟩ fin
      rw [if_neg o10] at hs
      by_cases o11 : o = (11 : Int32)
      · rw [if_pos o11] at hs
        refine v_tableIn (pc := 49) 833 O dL_law_49 (by rw [o11]; decide) (by rw [o11]; decide) (by rw [o11]; rfl) (by decide) ?_
        exact lw_case11 O hm hn hl hT hX hbl hbo i1 rfl i2 rfl i3 rfl hs ⟨by omega, by omega⟩ fin
      rw [if_neg o11] at hs
      by_cases o12 : o = (12 : Int32)
      · rw [if_pos o12] at hs
        refine v_tableIn (pc := 49) 901 O dL_law_49 (by rw [o12]; decide) (by rw [o12]; decide) (by rw [o12]; rfl) (by decide) ?_
        exact lw_case12 O hm hn hl hT hX hbl hbo i1 rfl i2 rfl i3 rfl hs ⟨by omega, by omega⟩ fin
      rw [if_neg o12] at hs
      by_cases o13 : o = (13 : Int32)
      · rw [if_pos o13] at hs
        refine v_tableIn (pc := 49) 957 O dL_law_49 (by rw [o13]; decide) (by rw [o13]; decide) (by rw [o13]; rfl) (by decide) ?_
        exact lw_case13 O hm hn hl hT hX hbl hbo i1 rfl i2 rfl i3 rfl hs ⟨by omega, by omega⟩ fin
      rw [if_neg o13] at hs
      by_cases o14 : o = (14 : Int32)
      · rw [if_pos o14] at hs
        refine v_tableIn (pc := 49) 1013 O dL_law_49 (by rw [o14]; decide) (by rw [o14]; decide) (by rw [o14]; rfl) (by decide) ?_
        exact lw_case14 O hm hn hl hT hX hbl hbo i1 rfl i2 rfl i3 rfl hs ⟨by omega, by omega⟩ fin
      rw [if_neg o14] at hs
      by_cases o15 : o = (15 : Int32)
      · rw [if_pos o15] at hs
        refine v_tableIn (pc := 49) 1069 O dL_law_49 (by rw [o15]; decide) (by rw [o15]; decide) (by rw [o15]; rfl) (by decide) ?_
        exact lw_case15 O hm hn hl hT hX hbl hbo i1 rfl i2 rfl i3 rfl hs ⟨by omega, by omega⟩ fin
      rw [if_neg o15] at hs
      by_cases o16 : o = (16 : Int32)
      · rw [if_pos o16] at hs
        refine v_tableIn (pc := 49) 1137 O dL_law_49 (by rw [o16]; decide) (by rw [o16]; decide) (by rw [o16]; rfl) (by decide) ?_
        exact lw_case16 O hm hn hl hT hX hbl hbo i1 rfl i2 rfl i3 rfl hs ⟨by omega, by omega⟩ fin
      rw [if_neg o16] at hs
      by_cases o17 : o = (17 : Int32)
      · rw [if_pos o17] at hs
        refine v_tableIn (pc := 49) 1193 O dL_law_49 (by rw [o17]; decide) (by rw [o17]; decide) (by rw [o17]; rfl) (by decide) ?_
        exact lw_case17 O hm hn hl hT hX hbl hbo i1 rfl i2 rfl i3 rfl hs ⟨by omega, by omega⟩ fin
      rw [if_neg o17] at hs
      by_cases o18 : o = (18 : Int32)
      · rw [if_pos o18] at hs
        refine v_tableIn (pc := 49) 1277 O dL_law_49 (by rw [o18]; decide) (by rw [o18]; decide) (by rw [o18]; rfl) (by decide) ?_
        exact lw_case18 O hm hn hl hT hX hbl hbo i1 rfl i2 rfl i3 rfl hs ⟨by omega, by omega⟩ fin
      rw [if_neg o18] at hs
      cases hs
      exact v_tableOut (pc := 49) 1333 O dL_law_49 (by have o0i := ne_i (0) rfl o0; have o1i := ne_i (1) rfl o1; have o2i := ne_i (2) rfl o2; have o3i := ne_i (3) rfl o3; have o4i := ne_i (4) rfl o4; have o5i := ne_i (5) rfl o5; have o6i := ne_i (6) rfl o6; have o7i := ne_i (7) rfl o7; have o8i := ne_i (8) rfl o8; have o9i := ne_i (9) rfl o9; have o10i := ne_i (10) rfl o10; have o11i := ne_i (11) rfl o11; have o12i := ne_i (12) rfl o12; have o13i := ne_i (13) rfl o13; have o14i := ne_i (14) rfl o14; have o15i := ne_i (15) rfl o15; have o16i := ne_i (16) rfl o16; have o17i := ne_i (17) rfl o17; have o18i := ne_i (18) rfl o18; omega) (by decide) (fin n c u (Nat.le_refl _) (Nat.sub_le _ _) (Nat.sub_le _ _))
