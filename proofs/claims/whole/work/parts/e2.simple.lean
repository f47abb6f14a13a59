/-! simple statements -/
theorem sI_comm {D : Dat} {a k b l : Nat} {x y : Int32} (h : ¬ (a = b ∧ k = l)) : sI (sI D a k x) b l y = sI (sI D b l y) a k x := by
  unfold sI
  simp only [Prod.mk.injEq, and_true]
  funext a' k'
  by_cases q1 : a' = b ∧ k' = l
  · rw [if_pos q1, if_neg (fun q => h ⟨q.1.symm.trans q1.1, q.2.symm.trans q1.2⟩), if_pos q1]
  · rw [if_neg q1]
    by_cases q2 : a' = a ∧ k' = k
    · rw [if_pos q2, if_pos q2]
    · rw [if_neg q2, if_neg q2, if_neg q1]
theorem Ex.kept {P fr n e : Nat} {C M C' M' : Dat} (h : Ex P C M fr n e) (h1 : ∀ i, fr ≤ i → i < fr + n → dI C' (P + 3) i = dI C (P + 3) i ∧ dI C' (P + 4) i = dI C (P + 4) i) (h2 : ∀ k, e ≤ k → k ≤ e + n → dI M' 225 k = dI M 225 k ∧ dI M' 226 k = dI M 226 k) (h3 : ∀ x, x < 26 → dI M 229 x = 3 → dI M' 229 x = 3) : Ex P C' M' fr n e := by
  obtain ⟨a1, a2⟩ := h
  refine ⟨fun i hi => (a1 i hi).kept (h1 _ (by omega) (by omega)).1 (h1 _ (by omega) (by omega)).2 (h2 _ (by omega) (by omega)).1 (h2 _ (by omega) (by omega)).2 h3, ?_⟩
  rw [(h2 _ (by omega) (by omega)).1]; exact a2
def SPre (nu len P : Nat) (tx : Nat → Nat) (nb h o p e t v j b w E jE sa si la li : Nat) (K0 : Nat → Nat) (W : Nat → Nat) (S : Sr) (C M : Dat) : Prop := Si nu len P tx nb h o p e t v j b w K0 S C M ∧ Bk h o j sa si M ∧ Lq h o j sa si la li M ∧ jE ≤ j ∧ ∀ x, x < 26 → dI M 229 x = 5 → ∀ i', dR C (P + 1) x = some (nb + i') → i' < jE ∧ W i' + 5 ≤ E
theorem Lq.la {h o j sa si la li : Nat} {M : Dat} (hB : Bk h o j sa si M) (hL : Lq h o j sa si la li M) : ((la = 222 ∨ la = 223 ∨ la = 224) ∧ 64 * h ≤ li ∧ li < 64 * h + j) ∨ (la = 227 ∧ 26 * h ≤ li ∧ li < 26 * h + 26) ∨ (la = 228 ∧ li = h) := by
  rcases hL with ⟨q1, q2, q3⟩ | ⟨y, q1, q2, q3, q4⟩
  · rcases hB with ⟨u1, u2, u3⟩ | ⟨u1, u2, y, u3, u4, u5⟩ | ⟨u1, u2, y, u3, u4, u5⟩ | ⟨u1, u2, y, u3, u4, u5⟩ <;> omega
  · omega
theorem zs_begin {nu len P : Nat} {tx : Nat → Nat} {nb h o p e t v j b w E jE sa si la li : Nat} {K0 W : Nat → Nat} {S : Sr} {C M : Dat} (kind : Int32) (hp : SPre nu len P tx nb h o p e t v j b w E jE sa si la li K0 W S C M) : ∃ S0 C0 M0, f_X5_start nu kind S C = some (.inr (some (nb + j)), S0, C0) ∧ f_X12_statementAt (nn p) M = some (nn (64 * h + j), M0) ∧ Rd nu len P tx o p e t v C0 M0 ∧ Sk nb (j + 1) K0 S0 ∧ kd S0.2.1 (nb + j) = 7 ∧ Ch (fun a _ => a = nb + j) C C0 ∧ Ch (Ma h j o la li) M M0 ∧ (dI C0 (nb + j) 0 = kind ∧ dI C0 (nb + j) 1 = nn p ∧ dI C0 (nb + j) 4 = nn b ∧ dI C0 (nb + j) 5 = nn b ∧ dI C0 (nb + j) 8 = 0 ∧ dR C0 (nb + j) 6 = none ∧ dR C0 (nb + j) 7 = none ∧ dR C0 (nb + j) 9 = none) ∧ (dI M0 207 33 = nn (64 * h + (j + 1)) ∧ dI M0 217 (64 * h + j) = nn p ∧ dI M0 219 (64 * h + j) = 0 ∧ dI M0 222 (64 * h + j) = -1 ∧ dI M0 223 (64 * h + j) = -1 ∧ dI M0 224 (64 * h + j) = -1 ∧ dI M0 la li = nn (64 * h + j) ∧ dI M0 233 o = nn (64 * h + j)) ∧ (p ≤ 240 ∧ j ≤ 60 ∧ 266 ≤ nb ∧ (P = 191 ∨ P = 196)) ∧ (dI C0 P 5 = nn b ∧ dI M0 207 34 = nn (260 * h + b + w)) ∧ (((la = 222 ∨ la = 223 ∨ la = 224) ∧ 64 * h ≤ li ∧ li < 64 * h + j) ∨ (la = 227 ∧ 26 * h ≤ li ∧ li < 26 * h + 26) ∨ (la = 228 ∧ li = h)) := by
  obtain ⟨⟨hR, hS, ⟨s1, s2, s3, s4⟩, ⟨s5, s6, s7⟩, s8⟩, hB, hL, -⟩ := hp
  have hp240 : p ≤ 240 := by have := hR.2.2.2.1; have := hR.1.1.1.1; omega
  have ho := hR.1.2.2.2.1.1
  have hPP := hR.1.2.2.2.2.1
  have hnb : 266 ≤ nb := hS.2.2.2.1
  have hla := hL.la hB
  obtain ⟨S0, C0, a1, a2, a3, a4, a5, a6, a7, a8, a9, a10, a11, a12⟩ := zs_start (nu := nu) (kind := kind) hS (by omega) hPP.1 hPP.2 s5 hR.2.1.1
  obtain ⟨M0, b1, b2, b3, b4, b5, b6, b7, b8, b9, b10⟩ := zs_at (p := p) s3 (by omega) ho s1 s2 s8 hB hL
  refine ⟨S0, C0, M0, a1, b1, hR.kept a4 b2 (fun a k q => by unfold RRc; omega) (fun a k q => by unfold Ma at q; unfold RRm; omega), a2, a3, a4, b2, ⟨a5, a6, a7, a8, a9, a10, a11, a12⟩, ⟨b3, b4, b5, b6, b7, b8, b9, b10⟩, ⟨hp240, by omega, hnb, hPP.1⟩, ⟨by rw [a4.i (by omega)]; exact s5, by rw [b2.i (by unfold Ma; omega)]; exact s6⟩, hla⟩
/-- what the class and the model change behind the beginning of a simple statement -/
def ZC (P nb j b a k : Nat) : Prop := (a = 3 ∧ 5 ≤ k ∧ k ≤ 9) ∨ a = 5 ∨ Ec P b a k ∨ (a = nb + j ∧ (k = 2 ∨ k = 3 ∨ k = 5))
def ZM (h j e0 a k : Nat) : Prop := (a = 207 ∧ (k = 34 ∨ (36 ≤ k ∧ k ≤ 41) ∨ k = 48 ∨ k = 51)) ∨ ((a = 216 ∨ a = 218 ∨ a = 219 ∨ a = 220 ∨ a = 221) ∧ k = 64 * h + j) ∨ ((a = 225 ∨ a = 226) ∧ e0 ≤ k ∧ k < 260 * h + 260) ∨ a = 229 ∨ (234 ≤ a ∧ a ≤ 236)
theorem ya_YC {P nb j b a k : Nat} (q : a = nb + j) : YC P nb j b a k := Or.inr (Or.inr (Or.inr (by omega)))
theorem yz_YC {P nb j b a k : Nat} (q : ZC P nb j b a k) : YC P nb j b a k := by
  rcases q with q | q | q | q
  · exact Or.inl q
  · exact Or.inr (Or.inl q)
  · exact Or.inr (Or.inr (Or.inl q))
  · exact Or.inr (Or.inr (Or.inr (by omega)))
theorem ym_YM {h j o la li e0 a k : Nat} (hj : j < 64) (q : Ma h j o la li a k) : YM h j e0 o la li a k := by
  rcases q with q | q | q | q
  · exact Or.inl (by omega)
  · exact Or.inr (Or.inl (by omega))
  · exact Or.inr (Or.inr (Or.inr (Or.inr (Or.inr (Or.inr (Or.inr q))))))
  · exact Or.inr (Or.inr (Or.inr (Or.inr (Or.inr (Or.inl (by omega))))))
theorem yz_YM {h j o la li e0 a k : Nat} (hj : j < 64) (q : ZM h j e0 a k) : YM h j e0 o la li a k := by
  rcases q with q | q | q | q | q
  · exact Or.inl (by omega)
  · exact Or.inr (Or.inl (by omega))
  · exact Or.inr (Or.inr (Or.inl q))
  · exact Or.inr (Or.inr (Or.inr (Or.inl q)))
  · exact Or.inr (Or.inr (Or.inr (Or.inr (Or.inr (Or.inr (Or.inl q))))))
theorem zs_done {N nu len P : Nat} {tx : Nat → Nat} {nb h o p e t v j b w E jE sa si la li p' e' t' v' b' w' : Nat} {K0 W : Nat → Nat} {x1 : Int32} {S : Sr} {C M : Dat} {r : Option (Sum Nat (Option Nat) × Sr × Dat)} {F : (Dat → Option Dat) → Option Dat} (hp : SPre nu len P tx nb h o p e t v j b w E jE sa si la li K0 W S C M) {S0 : Sr} {C0 M0 C' M' : Dat} (hS0 : Sk nb (j + 1) K0 S0) (c0 : Ch (fun a _ => a = nb + j) C C0) (m0 : Ch (Ma h j o la li) M M0) (k0 : dI C0 (nb + j) 0 = dI C' (nb + j) 0 ∧ dI C0 (nb + j) 1 = nn p ∧ dR C0 (nb + j) 6 = none ∧ dR C0 (nb + j) 7 = none ∧ dR C0 (nb + j) 9 = none) (n0 : dI M0 207 33 = nn (64 * h + (j + 1)) ∧ dI M0 217 (64 * h + j) = nn p ∧ dI M0 224 (64 * h + j) = -1 ∧ dI M0 la li = nn (64 * h + j) ∧ dI M0 233 o = nn (64 * h + j)) (c1 : Ch (ZC P nb j b) C0 C') (m1 : Ch (ZM h j (260 * h + b + w)) M0 M') (hr : r = some (.inr (some (nb + j)), S0, C')) (hR : Rd nu len P tx o p' e' t' v' C' M') (h5 : dI C' P 5 = nn b') (h34 : dI M' 207 34 = nn (260 * h + b' + w')) (hb : b' + w' ≤ p' ∧ b ≤ b' ∧ b + w ≤ b' + w') (hpp : p + 4 ≤ p') (hRP : RP M0 M') (hF : ∀ f, F f = f M') (hFs : FsB nu P nb h (j + 1) b' (260 * h + b' + w') C' M' (nb + j) (64 * h + j)) (hW : dI C' (nb + j) 0 = 18 → ∀ x, x < 26 → dI C' (nb + j) 2 = nn x → ∀ i', dR C' (P + 1) x = some (nb + i') → i' < jE ∧ W i' + 5 ≤ E) : SGood N nu len P tx nb h o p j b (260 * h + b + w) la li E jE K0 W x1 C M r F := by
  obtain ⟨⟨hR0, hS, ⟨s1, s2, s3, s4⟩, ⟨s5, s6, s7⟩, s8⟩, hB, hL, hWp⟩ := hp
  have hnb : 266 ≤ nb := hS.2.2.2.1
  have hp240 : p' ≤ 240 := by have := hR.2.2.2.1; have := hR.1.1.1.1; omega
  have ho := hR.1.2.2.2.1.1
  have hp0 : p ≤ 240 := by have := hR0.2.2.2.1; have := hR0.1.1.1.1; omega
  have hj64 : j < 64 := by omega
  have la207 : ¬ la = 207 ∧ ¬ la = 229 := by have hla := hL.la hB; omega
  have e35 : dI M' 207 35 = nn h := by rw [m1.i (by unfold ZM; omega), m0.i (by unfold Ma; omega)]; exact s2
  have e44 : dI M' 207 44 = nn (o + 1) := by rw [m1.i (by unfold ZM; omega), m0.i (by unfold Ma; omega)]; exact s8
  have e33 : dI M' 207 33 = nn (64 * h + (j + 1)) := by rw [m1.i (by unfold ZM; omega)]; exact n0.1
  have nPP : ¬ nb + j = P ∧ ¬ nb + j = P + 3 ∧ ¬ nb + j = P + 4 := by have hPP := hR0.1.2.2.2.2.1.1; omega
  refine ⟨S0, C', M', p', e', t', v', j + 1, b', w', 0, W, hr, ⟨hR, hS0, ⟨e33, e35, s3, by omega⟩, ⟨h5, h34, hb.1⟩, e44⟩, by omega, ?_, ?_, ?_, fun g => hF _, fun i g1 g2 => ?_, fun i g1 g2 => absurd g2 (by omega), ⟨?_, ?_⟩, ⟨?_, ?_⟩, fun X hX => ⟨fun i' q => ?_, fun q x hx q2 i' q3 => ?_⟩, fun i _ => rfl, ?_, by omega, fun i k i' g1 g2 g3 q => ?_⟩
  · exact (c0.mono (fun a k q => ya_YC q)).tr (c1.mono (fun a k q => yz_YC q))
  · exact (m0.mono (fun a k q => ym_YM hj64 q)).tr (m1.mono (fun a k q => yz_YM hj64 q))
  · exact (RP.rf (fun x => m0.i (by unfold Ma; omega))).tr hRP
  · obtain rfl : i = j := by omega
    refine ⟨⟨p, by omega, by rw [c1.i (by unfold ZC Ec; omega)]; exact k0.2.1, by rw [m1.i (by unfold ZM; omega)]; exact n0.2.1⟩, hFs⟩
  · rw [c1.r (by unfold ZC Ec; omega)]; exact k0.2.2.2.2
  · rw [m1.i (by unfold ZM; omega)]; exact n0.2.2.1
  · have hla := hL.la hB
    rw [m1.i (by unfold ZM; omega)]; exact n0.2.2.2.1
  · rw [m1.i (by unfold ZM; omega)]; exact n0.2.2.2.2
  · rw [c1.r (by unfold ZC Ec; omega), c1.r (by unfold ZC Ec; omega), k0.2.2.1, k0.2.2.2.1] at q
    rcases q with q | q <;> exact absurd q (by simp)
  · have := hW q x hx q2 i' q3
    omega
  · rw [c1.i (by unfold ZC Ec; omega)]; exact k0.2.1
  · obtain rfl : i = j := by omega
    exfalso
    rcases g3 with rfl | rfl | rfl
    · rw [c1.r (by unfold ZC Ec; omega), k0.2.2.1] at q; exact absurd q (by simp)
    · rw [c1.r (by unfold ZC Ec; omega), k0.2.2.2.1] at q; exact absurd q (by simp)
    · rw [c1.r (by unfold ZC Ec; omega), k0.2.2.2.2] at q; exact absurd q (by simp)
def Zb (P nb h o p j b w la li : Nat) (K0 : Nat → Nat) (S0 : Sr) (C M C0 M0 : Dat) : Prop := Ch (fun a _ => a = nb + j) C C0 ∧ Ch (Ma h j o la li) M M0 ∧ Sk nb (j + 1) K0 S0 ∧ kd S0.2.1 (nb + j) = 7 ∧ (p ≤ 240 ∧ j ≤ 60 ∧ 266 ≤ nb ∧ (P = 191 ∨ P = 196) ∧ h ≤ 1 ∧ o ≤ 8 ∧ b + w ≤ p) ∧ (((la = 222 ∨ la = 223 ∨ la = 224) ∧ 64 * h ≤ li ∧ li < 64 * h + j) ∨ (la = 227 ∧ 26 * h ≤ li ∧ li < 26 * h + 26) ∨ (la = 228 ∧ li = h))
theorem Zb.bad {N P nb h o p j b w la li q : Nat} {K0 : Nat → Nat} {x1 : Int32} {S0 S' : Sr} {C M C0 M0 C' M' : Dat} {r : Option (Sum Nat (Option Nat) × Sr × Dat)} {F : (Dat → Option Dat) → Option Dat} (hz : Zb P nb h o p j b w la li K0 S0 C M C0 M0) (hr : r = some (.inl 4, S', C')) (hK : S'.2.1 = S0.2.1) (h7 : dI C' 3 7 = nn q) (h40 : dI M' 207 40 = nn q) (hq : p ≤ q ∧ q ≤ 240) (cC : Ch (ZC P nb j b) C0 C') (cM : Ch (ZM h j (260 * h + b + w)) M0 M') (hF : ∀ f, F f = f M') : SBad N P nb h o p j b (260 * h + b + w) la li K0 x1 C M r F := by
  obtain ⟨z1, z2, z3, z4, z5, z6⟩ := hz
  have hj64 : j < 64 := by omega
  exact SBad.one hr (fun a ha => by rw [hK]; exact z3.2.2.2.2.2 a ha) h7 h40 hq ((z1.mono (fun a k q => ya_YC q)).tr (cC.mono (fun a k q => yz_YC q))) ((z2.mono (fun a k q => ym_YM hj64 q)).tr (cM.mono (fun a k q => yz_YM hj64 q))) hF
/-- in the middle of a statement -/
def Zt (nu len P : Nat) (tx : Nat → Nat) (nb h o p0 j b w : Nat) (C0 M0 : Dat) (p e t v bc wc : Nat) (C M : Dat) : Prop := Rd nu len P tx o p e t v C M ∧ Ch (ZC P nb j b) C0 C ∧ Ch (ZM h j (260 * h + b + w)) M0 M ∧ RP M0 M ∧ (dI C P 5 = nn bc ∧ dI M 207 34 = nn (260 * h + bc + wc)) ∧ (p0 ≤ p ∧ p ≤ 240 ∧ b ≤ bc ∧ b + w ≤ bc + wc)
theorem Zt.setC {nu len P : Nat} {tx : Nat → Nat} {nb h o p0 j b w : Nat} {C0 M0 : Dat} {p e t v bc wc k : Nat} {C M : Dat} {x : Int32} (hz : Zt nu len P tx nb h o p0 j b w C0 M0 p e t v bc wc C M) (hnb : 266 ≤ nb) (hk : k = 2 ∨ k = 3 ∨ k = 5) : Zt nu len P tx nb h o p0 j b w C0 M0 p e t v bc wc (sI C (nb + j) k x) M := by
  obtain ⟨z1, z2, z3, z4, z5, z6⟩ := hz
  have hPP := z1.1.2.2.2.2.1.1
  exact ⟨z1.kept (X := fun a _ => a = nb + j) (Ch.sI rfl Ch.rf) (Ch.rf (P := fun _ _ => False)) (fun a k q => by unfold RRc; omega) (fun a k q => q.elim), Ch.sI (by unfold ZC; omega) z2, z3, z4, ⟨by rw [dI_s, if_neg (by omega)]; exact z5.1, z5.2⟩, z6⟩
theorem Zt.setM {nu len P : Nat} {tx : Nat → Nat} {nb h o p0 j b w : Nat} {C0 M0 : Dat} {p e t v bc wc a : Nat} {C M : Dat} {x : Int32} (hz : Zt nu len P tx nb h o p0 j b w C0 M0 p e t v bc wc C M) (ha : a = 216 ∨ a = 218 ∨ a = 219 ∨ a = 220 ∨ a = 221) : Zt nu len P tx nb h o p0 j b w C0 M0 p e t v bc wc C (sI M a (64 * h + j) x) := by
  obtain ⟨z1, z2, z3, z4, z5, z6⟩ := hz
  exact ⟨z1.kept (Y := fun b k => b = a ∧ k = 64 * h + j) (Ch.rf (P := fun _ _ => False)) (Ch.sI ⟨rfl, rfl⟩ Ch.rf) (fun a k q => q.elim) (fun a k q => by unfold RRm; omega), z2, Ch.sI (by unfold ZM; omega) z3, z4.tr (RP.rf (fun y => by rw [dI_s, if_neg (by omega)])), ⟨z5.1, by rw [dI_s, if_neg (by omega)]; exact z5.2⟩, z6⟩
theorem Zt.go {nu len P : Nat} {tx : Nat → Nat} {nb h o o' p0 j b w : Nat} {C0 M0 : Dat} {p e t v bc wc p' e' t' v' : Nat} {C M C' M' : Dat} (hz : Zt nu len P tx nb h o p0 j b w C0 M0 p e t v bc wc C M) (hR : Rd nu len P tx o' p' e' t' v' C' M') (c : Ch (fun a k => (a = 3 ∧ 5 ≤ k ∧ k ≤ 9) ∨ a = 5) C C') (m : Ch (fun a k => (a = 207 ∧ 36 ≤ k ∧ k ≤ 41) ∨ a = 229) M M') (hr : RP M M') (hp : p ≤ p') : Zt nu len P tx nb h o' p0 j b w C0 M0 p' e' t' v' bc wc C' M' := by
  obtain ⟨z1, z2, z3, z4, z5, z6⟩ := hz
  have hPP := z1.1.2.2.2.2.1.1
  have hp240 : p' ≤ 240 := by have := hR.2.2.2.1; have := hR.1.1.1.1; omega
  exact ⟨hR, z2.tr (c.mono (fun a k q => by unfold ZC; omega)), z3.tr (m.mono (fun a k q => by unfold ZM; omega)), z4.tr hr, ⟨by rw [c.i (by omega)]; exact z5.1, by rw [m.i (by omega)]; exact z5.2⟩, by omega⟩
theorem zt_take {N nu len P : Nat} {tx : Nat → Nat} {nb h o p0 j b w : Nat} {C0 M0 : Dat} {p e t v bc wc c : Nat} {S : Sr} {C M : Dat} (hN : 1000 ≤ N) (hS : Sb S) (hz : Zt nu len P tx nb h o p0 j b w C0 M0 p e t v bc wc C M) (hc : zl_S c = true) : (∃ p' e' t' v' C' M', f_X5_take nu (nn c) S C = some (.inr (), S, C') ∧ f_X12_expect N (nn c) M = some M' ∧ Zt nu len P tx nb h o p0 j b w C0 M0 p' e' t' v' bc wc C' M' ∧ p + 1 ≤ p' ∧ Ch QlC C C' ∧ Ch QlM M M') ∨ (f_X5_take nu (nn c) S C = some (.inl 4, Sx S, C) ∧ f_X12_expect N (nn c) M = some (sI M 207 40 (nn p))) := by
  rcases zs_take hN hz.1 hS hc with ⟨p2, e2, t2, v2, C2, M2, d1, d2, d3, d4, d5, d6, d7⟩ | q
  · left
    exact ⟨p2, e2, t2, v2, C2, M2, d1, d2, hz.go d5 (d6.mono (fun a k q => by unfold QlC at q; omega)) (d7.mono (fun a k q => by unfold QlM at q; omega)) (RP.rf (fun x => d7.i (by unfold QlM; omega))) (by omega), d3, d6, d7⟩
  · exact Or.inr q
theorem zt_expr {N nu len P : Nat} {tx : Nat → Nat} {nb h o p0 j b w : Nat} {C0 M0 : Dat} {p e t v bc wc : Nat} {S : Sr} {C M : Dat} (hN : 1000 ≤ N) (hS : Sb S) (hh : h ≤ 1) (hz : Zt nu len P tx nb h o p0 j b w C0 M0 p e t v bc wc C M) (hb : bc + wc ≤ p) : (∃ S' C' M' q, f_X5_readExpression N nu 12 S C = some (.inl 4, S', C') ∧ S'.2.1 = S.2.1 ∧ f_X12_expression N M = some (nn (260 * h + bc + wc), M') ∧ (dI C' 3 7 = nn q ∧ dI M' 207 40 = nn q ∧ p0 ≤ q ∧ q ≤ 240) ∧ Ch (ZC P nb j b) C0 C' ∧ Ch (ZM h j (260 * h + b + w)) M0 M') ∨ (∃ C' M' p' e' t' v' n, f_X5_readExpression N nu 12 S C = some (.inr (nn (bc + n)), S, C') ∧ f_X12_expression N M = some (nn (260 * h + bc + wc), M') ∧ Zt nu len P tx nb h o p0 j b w C0 M0 p' e' t' v' (bc + n) (wc + 1) C' M' ∧ (p < p' ∧ bc + n + wc ≤ p') ∧ Ex P C' M' bc n (260 * h + bc + wc) ∧ Hg 1 o P C' bc (bc + n) ∧ Ch (XC P bc) C C' ∧ Ch (XM (260 * h + bc + wc) (260 * h + 260) 0 0) M M' ∧ RP M M') := by
  obtain ⟨z1, z2, z3, z4, z5, z6⟩ := hz
  rcases zx_top (eu := 260 * h + 260) (w := wc) hN z1 z5.1 z5.2 ⟨by omega, by omega, hb⟩ hS with ⟨S', C', M', q, f1, f2, f3, f4, f5, f6⟩ | ⟨C3, M3, p3, e3, t3, v3, n, f1, f2, f3, f4, f5, f6, f7, f8, f9, f10, f11⟩
  · left
    exact ⟨S', C', M', q, f1, f2.2, f3, ⟨f4.1, f4.2.1, by omega, f4.2.2.2⟩, z2.tr (f5.mono (fun a k q => by unfold XC Ec at q; unfold ZC Ec; omega)), z3.tr (f6.mono (fun a k q => by unfold XM at q; unfold ZM; omega))⟩
  · right
    exact ⟨C3, M3, p3, e3, t3, v3, n, f1, f2, ⟨f3, z2.tr (f7.mono (fun a k q => by unfold XC Ec at q; unfold ZC Ec; omega)), z3.tr (f8.mono (fun a k q => by unfold XM at q; unfold ZM; omega)), z4.tr f11, ⟨f4, by rw [f5]; congr 1; omega⟩, by omega⟩, by omega, f6, f10, f7, f8, f11⟩
/-- E ';' behind, and the end of an assignment: what both do from the '=' on -/
theorem FsE.mk {P h bz ez fr n e a : Nat} {C M : Dat} (h4 : dI C a 4 = nn fr) (h5 : dI C a 5 = nn (fr + n)) (h1 : fr + n ≤ bz ∧ 260 * h ≤ e) (h2 : e + n < ez) (hx : Ex P C M fr n e) (hh : zx_h C P n fr 0 = some 1) : FsE P h bz ez C M a e := ⟨fr, n, h4, h5, h1.1, h1.2, h2, hx, hh⟩
theorem Hg.zero {o P z n : Nat} {C : Dat} (h : Hg 1 o P C z (z + n)) : zx_h C P n z 0 = some 1 := by
  have := h 0 (by omega)
  rw [show z + n - z = n by omega] at this
  exact this
theorem Hg.oneh {o P z n : Nat} {C : Dat} (h : Hg 1 o P C z (z + n)) : zx_h C P n z 1 = some 2 := by
  have := h 1 (by omega)
  rw [show z + n - z = n by omega] at this
  exact this
