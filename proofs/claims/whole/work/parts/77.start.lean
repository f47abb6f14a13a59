theorem cw_X11_init : Cond.code yX11_init cX11_init 2 none ∈ tb := tb_of 195 (by decide +kernel) (by decide +kernel)
theorem mw_X11_init : MW yX11_init cX11_init 2 none 1 := ⟨cw_X11_init, ini_X11, by decide +kernel⟩
theorem im_X11_init : Cond.instanceMethod yX11_init ∈ tb := tb_of 194 (by decide +kernel) (by decide +kernel)
theorem cw_X12_init : Cond.code yX12_init cX12_init 3 none ∈ tb := tb_of 1718 (by decide +kernel) (by decide +kernel)
theorem mw_X12_init : MW yX12_init cX12_init 3 none 1 := ⟨cw_X12_init, ini_X12, by decide +kernel⟩
theorem im_X12_init : Cond.instanceMethod yX12_init ∈ tb := tb_of 1717 (by decide +kernel) (by decide +kernel)
theorem ins_X11 : Cond.instantiable RX11 16 ∈ tb := tb_of 192 (by decide +kernel) (by decide +kernel)
theorem pn_X11 : PN 11 RX11 TX11 16 tyX11 := ⟨rfl, inb_X11, tyX11_ok, by decide, rfl, by decide +kernel, ins_X11, ini_X11⟩
theorem ins_X12 : Cond.instantiable RX12 85 ∈ tb := tb_of 1715 (by decide +kernel) (by decide +kernel)
theorem pn_X12 : PN 12 RX12 TX12 85 tyX12 := ⟨rfl, inb_X12, tyX12_ok, by decide, rfl, by decide +kernel, ins_X12, ini_X12⟩
theorem cn_L_8 : Cond.classLink RL 8 RX11 ∈ tb := tb_of 191 (by decide +kernel) (by decide +kernel)
theorem cn_L_89 : Cond.classLink RL 89 RX12 ∈ tb := tb_of 1714 (by decide +kernel) (by decide +kernel)
theorem ml_L_86 : Cond.methodLink RL 86 yX11_init ∈ tb := tb_of 193 (by decide +kernel) (by decide +kernel)
theorem ml_L_91 : Cond.methodLink RL 91 yX12_init ∈ tb := tb_of 1716 (by decide +kernel) (by decide +kernel)
theorem old_start {s : State} {b : Nat} (hts : ∀ w ∈ lw_tbl, w.before #[Value.ref b] s = true) (hnv : ∀ w ∈ nrw, w.before #[Value.ref b] s = true) : ∃ oK oV : Nat → Nat, ∀ (G : va_G) (y : Nat → ClassId) (lm : Bool), OldP (s.heap.size, G, y, lm, oK, oV) s s.heap := by
  have hA : ∀ a : Nat, a < s.heap.size → ¬ (fun q : Nat => s.heap.size ≤ q) a := fun a h => Nat.not_le.mpr h
  obtain ⟨tk, tk1, tk2⟩ := va_Tof (tm := .static "FlowChain$Code" "TAKEN" "[I") (ty := .int) (N := 16) (f := fun j => .int (takenl.getD j 0)) (by decide) (hnv _ (by decide +kernel)) (va_eqt (hnv _ (by decide +kernel))) (fun j hj => va_eqt (hnv _ (nr_tk j hj))) hA
  obtain ⟨pt, pt1, pt2⟩ := va_Tof (tm := .static "FlowChain$Code" "PUT" "[I") (ty := .int) (N := 16) (f := fun j => .int (putl.getD j 0)) (by decide) (hnv _ (by decide +kernel)) (va_eqt (hnv _ (by decide +kernel))) (fun j hj => va_eqt (hnv _ (nr_pt j hj))) hA
  obtain ⟨adK, adV, tx1, tx2⟩ := vk_Sof (N := 10) (tm := tmS) (len := slen) (byt := sbyt) (by decide +kernel) (fun i hi => hnv _ (nr_ex i hi)) (fun i hi => hnv _ (nr_co i hi)) (fun i hi => hnv _ (nr_ar i hi)) (fun i hi => hnv _ (nr_le i hi)) (fun i hi j hj => hnv _ (nr_el i hi j hj)) (fun i j hi hj hij => (nr_ne i hi j hj hij).elim (fun h => Or.inl (hnv _ h)) (fun h => Or.inr (hnv _ h))) hA
  have hf := va_Zqof (A := fun q : Nat => s.heap.size ≤ q) (C := "jdk/internal/util/Preconditions") (n := "SIOOBE_FORMATTER") (d := "Ljava/util/function/BiFunction;") (hts _ (List.mem_of_getElem? (i := 868) (by decide +kernel))) (hts _ (List.mem_of_getElem? (i := 184) (by decide +kernel))) (hnv _ (by decide +kernel)) hA
  obtain ⟨fK, fV, hf⟩ : ∃ fK fV : Nat, va_Z "jdk/internal/util/Preconditions" "SIOOBE_FORMATTER" "Ljava/util/function/BiFunction;" (if fV = 0 then .null else .ref fK) (fun q : Nat => s.heap.size ≤ q) s s.heap := by
    rcases hf with h | ⟨t, h⟩
    · exact ⟨0, 0, h⟩
    · exact ⟨t, 1, h⟩
  refine ⟨fun i => if i < 10 then adK i else if i = 100 then tk else if i = 101 then pt else fK, fun i => if i < 10 then adV i else fV, fun G y lm => ?_⟩
  refine ⟨vx_Zqof (hts _ (List.mem_of_getElem? (i := 606) (by decide +kernel))) (hts _ (List.mem_of_getElem? (i := 174) (by decide +kernel))) (hnv _ (by decide +kernel)) hA, vx_Zqof (hts _ (List.mem_of_getElem? (i := 608) (by decide +kernel))) (hts _ (List.mem_of_getElem? (i := 174) (by decide +kernel))) (hnv _ (by decide +kernel)) hA, va_Zof (hts _ (List.mem_of_getElem? (i := 1355) (by decide +kernel))) (hts _ (List.mem_of_getElem? (i := 172) (by decide +kernel))) tk1 hA, tk2, va_Zof (hts _ (List.mem_of_getElem? (i := 1361) (by decide +kernel))) (hts _ (List.mem_of_getElem? (i := 172) (by decide +kernel))) pt1 hA, pt2, va_Zof (hts _ (List.mem_of_getElem? (i := 852) (by decide +kernel))) (hts _ (List.mem_of_getElem? (i := 182) (by decide +kernel))) (va_eqt (hnv _ (by decide +kernel))) hA, ?_, ?_, ?_, ?_, ?_, ?_, hf⟩
  · have e1 : ∀ i, i < 10 → (if i < 10 then adK i else if i = 100 then tk else if i = 101 then pt else fK) = adK i := fun i hi => if_pos hi
    have e2 : ∀ i, i < 10 → (if i < 10 then adV i else fV) = adV i := fun i hi => if_pos hi
    refine ⟨fun i hi => ?_, fun i j hi hj e => tx1.2 i j hi hj ?_⟩
    · have := tx1.1 i hi
      show _ ∧ _ ∧ _ ∧ _
      simp only [woK, woV, e1 i hi, e2 i hi]
      exact this
    · simp only [woK, e1 i hi, e1 j hj] at e
      exact e
  · intro i hi
    have e1 : (if i < 10 then adK i else if i = 100 then tk else if i = 101 then pt else fK) = adK i := if_pos hi
    show vk_R _ _ _ (if i < 10 then adK i else if i = 100 then tk else if i = 101 then pt else fK) s
    rw [e1]
    exact vk_R.of (hts _ (tb_text i hi)) (tx2 i hi)
  · exact fun q hq => va_Nw.of rfl (hts _ (tb_nest q hq))
  · exact fun E hE => va_Nw.of rfl (hts _ (tb_cast E hE))
  · exact fun E hE F hF hn => va_Nc.of (hnv _ (nr_nc E hE F hF hn))
  · exact fun x hx => va_Nw.of rfl (hts _ (tb_decl x hx))
theorem cls_start {s : State} {b : Nat} (hts : ∀ w ∈ tb, w.before #[Value.ref b] s = true) : ∃ G : va_G, ∀ (k : Nat) (q : vw_C), vwCl[k]? = some q → u_Kn s q.1 q.2.1 q.2.2 (G.1 k) (G.2 k) := by
  obtain ⟨c0, i0, h0⟩ := u_known (C := RX0) (T := TX0) (N := 3) (n := 3) hts inb_X0 (hts _ ins_X0)
  obtain ⟨c1, i1, h1⟩ := u_known (C := RX1) (T := TX1) (N := 6) (n := 6) hts inb_X1 (hts _ ins_X1)
  obtain ⟨c2, i2, h2⟩ := u_known (C := RX2) (T := TX2) (N := 4) (n := 4) hts inb_X2 (hts _ ins_X2)
  obtain ⟨c3, i3, h3⟩ := u_known (C := RX3) (T := TX3) (N := 11) (n := 11) hts inb_X3 (hts _ ins_X3)
  obtain ⟨c4, i4, h4⟩ := u_known (C := RX4) (T := TX4) (N := 6) (n := 6) hts inb_X4 (hts _ ins_X4)
  obtain ⟨c5, i5, h5⟩ := u_known (C := RX5) (T := TX5) (N := 14) (n := 14) hts inb_X5 (hts _ ins_X5)
  obtain ⟨c6, i6, h6⟩ := u_known (C := RX6) (T := TX6) (N := 6) (n := 6) hts inb_X6 (hts _ ins_X6)
  obtain ⟨c7, i7, h7⟩ := u_known (C := RX7) (T := TX7) (N := 10) (n := 10) hts inb_X7 (hts _ ins_X7)
  obtain ⟨c8, i8, h8⟩ := u_known (C := RX8) (T := TX8) (N := 3) (n := 3) hts inb_X8 (hts _ ins_X8)
  obtain ⟨c9, i9, h9⟩ := u_known (C := RX9) (T := TX9) (N := 13) (n := 13) hts inb_X9 (hts _ ins_X9)
  obtain ⟨c10, i10, h10⟩ := u_known (C := RX10) (T := TX10) (N := 2) (n := 2) hts inb_X10 (hts _ ins_X10)
  obtain ⟨c11, i11, h11⟩ := u_known (C := RX11) (T := TX11) (N := 16) (n := 16) hts inb_X11 (hts _ ins_X11)
  obtain ⟨c12, i12, h12⟩ := u_known (C := RX12) (T := TX12) (N := 85) (n := 85) hts inb_X12 (hts _ ins_X12)
  refine ⟨(fun k => if k = 0 then c0 else if k = 1 then c1 else if k = 2 then c2 else if k = 3 then c3 else if k = 4 then c4 else if k = 5 then c5 else if k = 6 then c6 else if k = 7 then c7 else if k = 8 then c8 else if k = 9 then c9 else if k = 10 then c10 else if k = 11 then c11 else c12, fun k => if k = 0 then i0 else if k = 1 then i1 else if k = 2 then i2 else if k = 3 then i3 else if k = 4 then i4 else if k = 5 then i5 else if k = 6 then i6 else if k = 7 then i7 else if k = 8 then i8 else if k = 9 then i9 else if k = 10 then i10 else if k = 11 then i11 else i12), fun k q hq => ?_⟩
  match k, hq with
  | 0, hq => cases hq; exact h0
  | 1, hq => cases hq; exact h1
  | 2, hq => cases hq; exact h2
  | 3, hq => cases hq; exact h3
  | 4, hq => cases hq; exact h4
  | 5, hq => cases hq; exact h5
  | 6, hq => cases hq; exact h6
  | 7, hq => cases hq; exact h7
  | 8, hq => cases hq; exact h8
  | 9, hq => cases hq; exact h9
  | 10, hq => cases hq; exact h10
  | 11, hq => cases hq; exact h11
  | 12, hq => cases hq; exact h12
  | k + 13, hq => simp [vwCl] at hq
theorem arr_start {s : State} {b : Nat} (hts : ∀ w ∈ tb, w.before #[Value.ref b] s = true) (hA : AO s) : ∃ y : Nat → ClassId, ∀ (k : Nat) (q : ClassId × FieldType), ([(y 13, .char), (y 14, .int), (y 15, .long), (y 16, .boolean), (y 17, .object "FlowChain$Statement"), (y 18, .array .int)] : List (ClassId × FieldType))[k]? = some q → ArrOfT s q.1 q.2 ∧ va_RA s q.1 q.2 := by
  obtain ⟨c1, k1, p1, a1, a2, a3⟩ := Cond.arrayClass_spec (hts _ ac_char)
  obtain ⟨c2, k2, p2, b1, b2, b3⟩ := Cond.arrayClass_spec (hts _ ac_int)
  obtain ⟨c3, k3, p3, d1, d2, d3⟩ := Cond.arrayClass_spec (hts _ ac_long)
  obtain ⟨c4, k4, p4, e1, e2, e3⟩ := Cond.arrayClass_spec (hts _ ac_boolean)
  obtain ⟨p5, c5, k5, f1, -, f3, f4, f5⟩ := Cond.arrayOver_spec hA.1
  obtain ⟨p6, c6, k6, g1, -, g3, g4, g5⟩ := arrayOverA_spec hA.2
  refine ⟨fun k => if k = 13 then c1 else if k = 14 then c2 else if k = 15 then c3 else if k = 16 then c4 else if k = 17 then c5 else c6, fun k q hq => ?_⟩
  match k, hq with
  | 0, hq => cases hq; exact ⟨fun n z => ⟨fun k h => (by cases h), k1, a2, p1, a3⟩, a1⟩
  | 1, hq => cases hq; exact ⟨fun n z => ⟨fun k h => (by cases h), k2, b2, p2, b3⟩, b1⟩
  | 2, hq => cases hq; exact ⟨fun n z => ⟨fun k h => (by cases h), k3, d2, p3, d3⟩, d1⟩
  | 3, hq => cases hq; exact ⟨fun n z => ⟨fun k h => (by cases h), k4, e2, p4, e3⟩, e1⟩
  | 4, hq => cases hq; exact ⟨fun n z => ⟨fun k h => (by cases h), k5, f3, p5, f4⟩, k5, p5, f3, f4, f1, f5⟩
  | 5, hq => cases hq; exact ⟨fun n z => ⟨fun k h => (by cases h), k6, g3, p6, g4⟩, g5⟩
  | k + 6, hq => simp at hq
/-! what the constructors leave of references -/
theorem dR_fl {L : Nat} : ∀ (g x0 : Nat) (x1 x2 x3 : Int32) (D z : Dat), f_fl L g x0 x1 x2 x3 D = some z → ∀ a k, dR z a k = dR D a k := by
  intro g
  induction g with
  | zero => intro x0 x1 x2 x3 D z h; exact absurd h (by simp [f_fl])
  | succ g ih =>
    intro x0 x1 x2 x3 D z h a k
    rw [f_fl] at h
    by_cases c1 : x3 ≤ x2
    · rw [if_pos c1] at h; cases h; rfl
    · rw [if_neg c1] at h
      obtain ⟨-, h⟩ := or_none h
      rw [ih _ _ _ _ _ _ h a k]
      rfl
theorem dR_li {nu : Nat} : ∀ (g : Nat) (x1 x2 : Int32) (D z : Dat), f_li nu g x1 x2 D = some z → ∀ a k, dR z a k = dR D a k := by
  intro g
  induction g with
  | zero => intro x1 x2 D z h; exact absurd h (by simp [f_li])
  | succ g ih =>
    intro x1 x2 D z h a k
    rw [f_li] at h
    by_cases c1 : x1 ≤ x2
    · rw [if_pos c1] at h; cases h; rfl
    · rw [if_neg c1] at h
      obtain ⟨-, h⟩ := or_none h
      rw [ih _ _ _ _ h a k]
      rfl
theorem dR_mu : ∀ (g : Nat) (x2 : Int32) (D z : Dat), f_mu g x2 D = some z → ∀ a k, dR z a k = dR D a k := by
  intro g
  induction g with
  | zero => intro x2 D z h; exact absurd h (by simp [f_mu])
  | succ g ih =>
    intro x2 D z h a k
    rw [f_mu] at h
    by_cases c1 : (6 : Int32) ≤ x2
    · rw [if_pos c1] at h; cases h; rfl
    · rw [if_neg c1] at h
      obtain ⟨-, h⟩ := or_none h
      rw [ih _ _ _ h a k]
      rfl
theorem dR_mf : ∀ (g : Nat) (x2 : Int32) (D z : Dat), f_mf g x2 D = some z → ∀ a k, dR z a k = dR D a k := by
  intro g
  induction g with
  | zero => intro x2 D z h; exact absurd h (by simp [f_mf])
  | succ g ih =>
    intro x2 D z h a k
    rw [f_mf] at h
    by_cases c1 : (26 : Int32) ≤ x2
    · rw [if_pos c1] at h; cases h; rfl
    · rw [if_neg c1] at h
      obtain ⟨-, h⟩ := or_none h
      rw [ih _ _ _ h a k]
      rfl
/-- the references that stand when all is made, as numbers -/
def Rfin : Dat := sN (i_X12a (sN (i_X11b (i_X11a (sR (sN (sN (sN D0 0) 1) 2) 1 1 (some 2)))) 207)) 262
theorem dR_cong {f : Dat → Dat} : f = f := rfl
theorem lk_all : ∀ q ∈ lksl, dR Rfin q.1 q.2.1 = some q.2.2 := by decide +kernel
theorem lk_has0 : ∀ a, a < 266 → kst a < 13 → ∀ k, k < fN (kst a) → fty (kst a) k = 3 → lksl.any (fun q => q.1 == a && (q.2.1 == k && lks a k == some q.2.2)) = true := by decide +kernel
theorem lk_has (a : Nat) (h1 : a < 266) (h2 : kst a < 13) (k : Nat) (h3 : k < fN (kst a)) (h4 : fty (kst a) k = 3) : ∃ q ∈ lksl, q.1 = a ∧ q.2.1 = k ∧ lks a k = some q.2.2 := by
  obtain ⟨q, m1, m2⟩ := List.any_eq_true.mp (lk_has0 a h1 h2 k h3 h4)
  simp only [Bool.and_eq_true, beq_iff_eq] at m2
  exact ⟨q, m1, m2.1, m2.2.1, m2.2.2⟩
theorem dR_a {D D' : Dat} (h : ∀ a k, dR D' a k = dR D a k) : D'.2.2 = D.2.2 := by
  funext a k
  exact h a k
theorem lk_start {N nu : Nat} {x1 : Int32} {z1 z2 : Dat} (h1 : f_X11_init N nu x1 (sN D0 0) = some z1) (h2 : f_X12_init N x1 (sN z1 207) = some z2) : ∀ a k, kn 266 a < 13 → k < fN (kn 266 a) → fty (kn 266 a) k = 3 → dR (sN z2 262) a k = lks a k := by
  have e : (sN z2 262).2.2 = Rfin.2.2 := by
    unfold f_X11_init at h1
    obtain ⟨y1, q1, h1⟩ := bind_some h1
    obtain ⟨y2, q2, h1⟩ := bind_some h1
    cases h1
    unfold f_X2_init at q1
    obtain ⟨-, q1⟩ := if_none q1
    have r1 := dR_a (dR_li _ _ _ _ _ q1)
    have r2 := dR_a (dR_fl _ _ _ _ _ _ _ q2)
    unfold f_X12_init at h2
    obtain ⟨y3, q3, h2⟩ := bind_some h2
    have r3 := dR_a (dR_mu _ _ _ _ q3)
    have r4 := dR_a (dR_mf _ _ _ _ h2)
    have c1 : ∀ D D' : Dat, D.2.2 = D'.2.2 → (i_X11a D).2.2 = (i_X11a D').2.2 := fun D D' h => by
      obtain ⟨d1, d2, d3⟩ := D
      obtain ⟨f1, f2, f3⟩ := D'
      cases h
      rfl
    have c2 : ∀ D D' : Dat, D.2.2 = D'.2.2 → (i_X11b D).2.2 = (i_X11b D').2.2 := fun D D' h => by
      obtain ⟨d1, d2, d3⟩ := D
      obtain ⟨f1, f2, f3⟩ := D'
      cases h
      rfl
    have c3 : ∀ D D' : Dat, D.2.2 = D'.2.2 → (i_X12a D).2.2 = (i_X12a D').2.2 := fun D D' h => by
      obtain ⟨d1, d2, d3⟩ := D
      obtain ⟨f1, f2, f3⟩ := D'
      cases h
      rfl
    have c4 : ∀ (D D' : Dat) (n : Nat), D.2.2 = D'.2.2 → (sN D n).2.2 = (sN D' n).2.2 := fun D D' n h => by
      obtain ⟨d1, d2, d3⟩ := D
      obtain ⟨f1, f2, f3⟩ := D'
      cases h
      rfl
    unfold Rfin
    refine c4 _ _ _ ?_
    rw [r4, r3]
    show (i_X12a _).2.2 = _
    refine c3 _ _ (c4 _ _ _ (c2 _ _ ?_))
    rw [r2]
    refine c1 _ _ ?_
    rw [r1]
    rfl
  intro a k g1 g2 g3
  have ha0 := kn_big (n := 266) (a := a) (by omega)
  have ha : a < 266 := (pp_lt (Nat.le_refl _)).mp ha0
  have hk : kn 266 a = kst a := kn_lt ha0 rfl
  rw [hk] at g1 g2 g3
  obtain ⟨q, m1, m2, m3, m4⟩ := lk_has a ha g1 k g2 g3
  rw [m4]
  show (sN z2 262).2.2 a k = _
  rw [e]
  have := lk_all q m1
  rw [m2, m3] at this
  exact this
theorem kn_fin : kn 266 = kd (fun _ => 99) := by
  funext a
  unfold kn kd
  by_cases h : a < 266
  · rw [if_pos ((pp_lt (Nat.le_refl _)).mpr h), if_pos (show a < NS from h)]
  · rw [if_neg (fun w => h ((pp_lt (Nat.le_refl _)).mp w)), if_neg (show ¬ a < NS from h)]
theorem pic_zero {w : Wx} {nu c u : Nat} {D : Dat} {H : Heap} (h : H.size = wb w) : Pic w 0 (An nu 0 c u) D H := ⟨by rw [h]; rfl, [], fun k q hk => by simp [va_pl] at hk, ⟨fun i j x y hi => by simp [va_pl] at hi, fun k x hx => by simp [va_pl] at hx⟩, fun a ha => absurd (kn_big (n := 0) (a := a) ha) (Nat.not_lt_zero _)⟩
set_option maxHeartbeats 4000000 in
theorem whole_walk (N : Nat) (Inv : Nat → (Nat → Nat) → Dat → Prop) (hI0 : ∀ x1 : Int32, ∃ z1 z2 : Dat, f_X11_init N (cl6 x1).toNatClampNeg x1 (sN D0 0) = some z1 ∧ f_X12_init N x1 (sN z1 207) = some z2 ∧ Inv (cl6 x1).toNatClampNeg (fun _ => 99) (sN z2 262))
    (hS : ∀ (nu n : Nat) (K : Nat → Nat) (D : Dat) (o a1 a2 a3 : Int32), Inv nu K D → NS ≤ n → (∀ a, kd K a < 19 → a < n) → ∃ (K' : Nat → Nat) (D' : Dat), stp N nu n K D o a1 a2 a3 = some (K', D') ∧ Inv nu K' D')
    {p : Program} {e : Env} {s : State} {m : MethodId} {below : List Frame} {meth : Method} {c : Code} (l : Launch) (hflags : l.flags = flags0) {b L : Nat} {ss : Nat → Int32} (hL : L ≤ 257) (C0 : lw_At p s m meth c b L ss) : W p l e room_1 s m #[Value.ref b] below meth c s.heap [] 0 0 (lw_Z below #[Value.ref b] s) (entryFrame m ([Value.ref b] : List Value).toArray 7) := by
  obtain ⟨hx, hb, hr, hml, hown, hts, hXs, hbl, hlocks, hgv⟩ := id C0
  have hst : l.stackTraces = false := by
    unfold Launch.stackTraces
    rw [hflags]
    decide
  have hnv : ∀ w ∈ nrw, w.before #[Value.ref b] s = true := flat_of_before _ hgv
  have htb : ∀ w ∈ tb, w.before #[Value.ref b] s = true := fun w hw => hts w (List.mem_filter.mp hw).1
  obtain ⟨oK, oV, hold⟩ := old_start hts hnv
  obtain ⟨G, hG⟩ := cls_start htb
  have hAO : AO s := ⟨va_AO.of (hts _ (List.mem_of_getElem? (i := 454) (by decide +kernel))), over_moved (Vm.Alike.refl _) (hts _ (List.mem_of_getElem? (i := 282) (by decide +kernel)))⟩
  obtain ⟨y, hy⟩ := arr_start htb hAO
  have hbo : ¬ s.heap.size ≤ b := Nat.not_le.mpr hbl
  obtain ⟨z1, z2, f1, f2, hI⟩ := hI0 (s0 L ss)
  generalize hnu : (cl6 (s0 L ss)).toNatClampNeg = nu at f1 f2 hI
  let w : Wx := (s.heap.size, G, y, false, oK, oV)
  let X : Cx := (p, l, e, room_1, s, m, #[Value.ref b], below, meth, c, w, 7, 600128, 7301064)
  have hKK : ∀ lm, KK (s.heap.size, G, y, lm, oK, oV) s := fun lm => ⟨⟨hG, hy⟩, hold G y lm⟩
  have O : Ok X cL_law RL (some .boolean) 2048 84000 := ⟨hx, hb, hml, hown, htb, hKK false, Nat.le_refl _, Nat.le_refl _, hlocks, hr, Nat.le_refl _⟩
  have hT : T5 X := ⟨Nat.le_refl _, Nat.le_refl _, hAO⟩
  have hlm : wlm (xw X) = false := rfl
  have hn : xn X = 7 := rfl
  have hBB : ∀ {A : Al}, BB X A := ⟨Nat.le_add_right _ _, Nat.le_add_right _ _⟩
  have O2 : Ok (Xlm X) cL_law RL (some .boolean) 2048 84000 := ⟨hx, hb, hml, hown, htb, hKK true, Nat.le_refl _, Nat.le_refl _, hlocks, hr, Nat.le_refl _⟩
  have main : V X (lw_Z below #[Value.ref b] s) 0 (An nu 0 600128 7301064) D0 0 [(0, .ref b)] [] := by
    refine v_new5 (pc := 0) (a := 0) (n := 0) (c := 600128) (u := 7301064) (by decide) O hT pn_X11 cn_L_8 hlm rfl (Nat.le_of_ble_eq_true rfl) (Nat.le_of_ble_eq_true rfl) dL_law_0 ?_
    show V X _ 1 (An nu 1 600127 7301048) _ 3 _ _
    refine v_dup (pc := 3) O dL_law_3 rfl ?_
    refine v_aload_n (pc := 4) O dL_law_4 0 rfl ?_
    refine v_iconst (pc := 5) O dL_law_5 ic_0 ?_
    refine v_cell (pc := 6) O hBB hXs hbl hbo hL (Nat.le_of_ble_eq_true rfl) (Nat.le_of_ble_eq_true rfl) (Nat.le_of_ble_eq_true rfl) dL_law_6 ?_
    refine v_call5 (pc := 9) (a := 0) (As := [.int (s0 L ss)]) (rest := [.ref (bo X + pp 0)]) O hT ⟨(Nat.le_of_ble_eq_true rfl), (Nat.le_of_ble_eq_true rfl)⟩ (c_X11_init hlm f1) mw_X11_init rfl im_X11_init ml_L_86 rfl (Nat.le_of_ble_eq_true rfl) (Nat.le_of_ble_eq_true rfl) (Nat.le_of_ble_eq_true rfl) dL_law_9 rfl ?_
    show V X _ 210 (An nu 210 599918 7291324) _ 12 _ _
    refine v_astore_n (pc := 12) (lv' := [(1, .ref (bo X + pp 0)), (0, .ref b)]) O dL_law_12 rfl (by rw [hn]; decide) rfl ?_
    refine v_new5 (pc := 13) (a := 207) (by decide) O hT pn_X12 cn_L_89 hlm rfl (Nat.le_of_ble_eq_true rfl) (Nat.le_of_ble_eq_true rfl) dL_law_13 ?_
    show V X _ 211 (An nu 211 599917 7291239) _ 16 _ _
    refine v_dup (pc := 16) O dL_law_16 rfl ?_
    refine v_aload_n (pc := 17) O dL_law_17 1 rfl ?_
    refine v_iconst (pc := 18) O dL_law_18 ic_0 ?_
    refine v_cell (pc := 19) O hBB hXs hbl hbo hL (Nat.le_of_ble_eq_true rfl) (Nat.le_of_ble_eq_true rfl) (Nat.le_of_ble_eq_true rfl) dL_law_19 ?_
    refine v_call5 (pc := 22) (a := 207) (As := [.int (s0 L ss)]) (rest := [.ref (bo X + pp 207)]) O hT ⟨(Nat.le_of_ble_eq_true rfl), (Nat.le_of_ble_eq_true rfl)⟩ (c_X12_init hlm f2) mw_X12_init rfl im_X12_init ml_L_91 rfl (Nat.le_of_ble_eq_true rfl) (Nat.le_of_ble_eq_true rfl) (Nat.le_of_ble_eq_true rfl) dL_law_22 rfl ?_
    show V X _ 265 (An nu 265 599863 7275417) _ 25 _ _
    refine v_astore_n (pc := 25) (lv' := [(2, .ref (bo X + pp 207)), (1, .ref (bo X + pp 0)), (0, .ref b)]) O dL_law_25 rfl (by rw [hn]; decide) rfl ?_
    refine v_iconst (pc := 26) O dL_law_26 ic_1 ?_
    refine v_newaL (pc := 27) (a := 262) (N := 1) (by decide) O hT ac_long (by decide) rfl (Nat.le_of_ble_eq_true rfl) rfl rfl (Nat.le_of_ble_eq_true rfl) (Nat.le_of_ble_eq_true rfl) dL_law_27 ?_
    show V X _ 266 (An nu 266 599862 7275416) _ 29 _ _
    refine v_astore_n (pc := 29) (i := 3) (lv' := [(3, .ref (bo X + pp 262)), (2, .ref (bo X + pp 207)), (1, .ref (bo X + pp 0)), (0, .ref b)]) O dL_law_29 rfl (by rw [hn]; decide) rfl ?_
    refine v_iconst (pc := 30) O dL_law_30 ic_1 ?_
    refine v_istore (pc := 31) (lv' := [(4, .int 1), (3, .ref (bo X + pp 262)), (2, .ref (bo X + pp 207)), (1, .ref (bo X + pp 0)), (0, .ref b)]) O dL_law_31 (by rw [hn]; decide) rfl ?_
    refine v_sub [4, 3, 2, 1, 0] rfl ?_
    refine v_lm hlm (lk_start f1 f2) ?_
    rw [show An nu 266 599862 7275416 = Ax nu (fun _ => 99) 599862 7275416 by show ((kn 266, nl nu, 599862, 7275416) : Al) = (kd (fun _ => 99), nl nu, 599862, 7275416); rw [kn_fin]]
    exact lw_loop (X := Xlm X) Inv (hS nu) O2 rfl rfl hst ⟨Nat.le_refl _, Nat.le_refl _⟩ hXs hbl hbo rfl rfl rfl rfl rfl hL 64 0 266 599862 7275416 (fun _ => 99) _ rfl hI (Nat.le_refl _) (Nat.le_of_ble_eq_true rfl) (Nat.le_of_ble_eq_true rfl)
  rw [lg_entry_eq]
  exact main s.heap [] 0 0 _ (pic_zero rfl) va_S.rf (Nat.zero_add _) (Nat.zero_add _) (lv_entry [.ref b] (Nat.le_of_ble_eq_true rfl))

