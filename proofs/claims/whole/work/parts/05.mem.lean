/-! THE MEMORY: cells by numbers from the law's entry on (number a is the address b0 + pp a); ints, longs and references of a cell by places -/
def tb : List Cond := lw_tbl.filter goodWord
theorem tb_of {w : Cond} (i : Nat) (h : lw_tbl[i]? = some w) (g : goodWord w = true) : w ∈ tb := List.mem_filter.mpr ⟨List.mem_of_getElem? h, g⟩
theorem goodIn_tb (w0 : Cond) {w : Cond} (h : w ∈ tb) : GoodIn (w0 :: tb) (w :: tb) := fun v hv => by
  have hm : v ∈ tb := by
    rcases List.mem_cons.mp hv with e | e
    · rw [e]; exact h
    · exact e
  exact ⟨List.mem_cons_of_mem _ hm, good_of_word (List.mem_filter.mp hm).2⟩
abbrev Dat : Type := (Nat → Nat → Int32) × (Nat → Nat → Int64) × (Nat → Nat → Option Nat)
def dI (D : Dat) (a k : Nat) : Int32 := D.1 a k
def dL (D : Dat) (a k : Nat) : Int64 := D.2.1 a k
def dR (D : Dat) (a k : Nat) : Option Nat := D.2.2 a k
def sI (D : Dat) (a k : Nat) (v : Int32) : Dat := (fun a' k' => if a' = a ∧ k' = k then v else D.1 a' k', D.2.1, D.2.2)
def sL (D : Dat) (a k : Nat) (v : Int64) : Dat := (D.1, fun a' k' => if a' = a ∧ k' = k then v else D.2.1 a' k', D.2.2)
def sR (D : Dat) (a k : Nat) (v : Option Nat) : Dat := (D.1, D.2.1, fun a' k' => if a' = a ∧ k' = k then v else D.2.2 a' k')
/-- kinds and lengths of cells, cells and slots that may still be made -/
abbrev Al : Type := (Nat → Nat) × (Nat → Nat) × Nat × Nat
/-- the world's own numbers: b0, the classes' numbers, the array classes by kind, whether links are fixed, the old arrays and texts by addresses -/
abbrev Wx : Type := Nat × va_G × (Nat → ClassId) × Bool × (Nat → Nat) × (Nat → Nat)
abbrev wb (w : Wx) : Nat := w.1
abbrev wG (w : Wx) : va_G := w.2.1
abbrev wy (w : Wx) : Nat → ClassId := w.2.2.1
abbrev wlm (w : Wx) : Bool := w.2.2.2.1
abbrev woK (w : Wx) : Nat → Nat := w.2.2.2.2.1
abbrev woV (w : Wx) : Nat → Nat := w.2.2.2.2.2
/-- the numbers of the cells are our own; pp: in which turn a cell is made -/
def pp (a : Nat) : Nat := if a < 5 then a else if a < 263 then a + 3 else if a < 266 then a - 258 else a
def qq (b : Nat) : Nat := if b < 5 then b else if b < 8 then b + 258 else if b < 266 then b - 3 else b
theorem qp (a : Nat) : qq (pp a) = a := by
  unfold pp qq
  by_cases h1 : a < 5
  · simp only [h1, if_true]
  · by_cases h2 : a < 263
    · rw [if_neg h1, if_pos h2, if_neg (by omega), if_neg (by omega), if_pos (by omega)]
      omega
    · by_cases h3 : a < 266
      · rw [if_neg h1, if_neg h2, if_pos h3, if_neg (by omega), if_pos (by omega)]
        omega
      · rw [if_neg h1, if_neg h2, if_neg h3, if_neg (by omega), if_neg (by omega), if_neg (by omega)]
theorem pq (b : Nat) : pp (qq b) = b := by
  unfold pp qq
  by_cases h1 : b < 5
  · simp only [h1, if_true]
  · by_cases h2 : b < 8
    · rw [if_neg h1, if_pos h2, if_neg (by omega), if_neg (by omega), if_pos (by omega)]
      omega
    · by_cases h3 : b < 266
      · rw [if_neg h1, if_neg h2, if_pos h3, if_neg (by omega), if_pos (by omega)]
        omega
      · rw [if_neg h1, if_neg h2, if_neg h3, if_neg (by omega), if_neg (by omega), if_neg (by omega)]
theorem pp_inj {a b : Nat} (h : pp a = pp b) : a = b := by rw [← qp a, ← qp b, h]
theorem pp_big {a : Nat} (h : 266 ≤ a) : pp a = a := by
  unfold pp
  rw [if_neg (by omega), if_neg (by omega), if_neg (by omega)]
theorem pp_lt {a n : Nat} (hn : 266 ≤ n) : pp a < n ↔ a < n := by
  unfold pp
  by_cases h1 : a < 5
  · simp only [h1, if_true]
  · by_cases h2 : a < 263
    · rw [if_neg h1, if_pos h2]; omega
    · by_cases h3 : a < 266
      · rw [if_neg h1, if_neg h2, if_pos h3]; omega
      · rw [if_neg h1, if_neg h2, if_neg h3]
def rv (b0 : Nat) (r : Option Nat) : Value := va_rf (r.map (fun a => b0 + pp a))
theorem rv_none (b0 : Nat) : rv b0 none = .null := rfl
theorem rv_some (b0 a : Nat) : rv b0 (some a) = .ref (b0 + pp a) := rfl
theorem rv_cat (b0 : Nat) (r : Option Nat) : (rv b0 r).category = 1 := by cases r <;> rfl
abbrev NS : Nat := 266
def kstl : List Nat := [11, 2, 14, 5, 13, 14, 1, 14, 18, 14, 14, 14, 14, 14, 14, 14, 14, 14, 14, 14, 14, 14, 14, 14, 14, 14, 14, 14, 14, 14, 14, 14, 14, 14, 14, 14, 14, 14, 14, 14, 14, 14, 14, 14, 14, 14, 14, 14, 14, 14, 14, 14, 14, 14, 14, 14, 14, 18, 14, 14, 14, 14, 14, 14, 14, 14, 14, 14, 14, 14, 14, 14, 14, 14, 14, 14, 14, 14, 14, 14, 14, 14, 14, 14, 14, 14, 14, 14, 14, 14, 14, 14, 14, 14, 14, 14, 14, 14, 14, 14, 14, 14, 14, 14, 14, 14, 8, 9, 6, 15, 15, 14, 15, 14, 14, 18, 14, 14, 14, 14, 14, 14, 14, 14, 14, 14, 14, 14, 14, 14, 14, 14, 14, 14, 14, 14, 14, 14, 14, 14, 14, 14, 14, 14, 14, 14, 14, 14, 14, 14, 14, 14, 14, 14, 14, 14, 14, 14, 14, 14, 14, 14, 14, 14, 14, 14, 14, 14, 14, 14, 14, 14, 14, 14, 14, 14, 14, 14, 14, 14, 14, 3, 14, 14, 14, 14, 14, 14, 14, 10, 14, 4, 17, 14, 14, 14, 4, 17, 14, 14, 14, 0, 14, 14, 0, 14, 14, 12, 16, 14, 14, 14, 14, 14, 14, 14, 14, 14, 14, 14, 14, 14, 14, 14, 14, 14, 14, 14, 14, 14, 14, 14, 14, 14, 14, 14, 16, 14, 14, 14, 14, 14, 14, 14, 14, 14, 16, 14, 16, 14, 14, 14, 16, 16, 14, 14, 14, 14, 14, 14, 14, 14, 15, 14, 14, 14]
def nstl : List Nat := [0, 0, 0, 0, 240, 26, 0, 26, 48, 26, 26, 26, 26, 26, 26, 26, 26, 26, 26, 26, 26, 26, 26, 26, 26, 26, 26, 26, 26, 26, 26, 26, 26, 26, 26, 26, 26, 26, 26, 26, 26, 26, 26, 26, 26, 26, 26, 26, 26, 26, 26, 26, 26, 26, 26, 26, 26, 48, 26, 26, 26, 26, 26, 26, 26, 26, 26, 26, 26, 26, 26, 26, 26, 26, 26, 26, 26, 26, 26, 26, 26, 26, 26, 26, 26, 26, 26, 26, 26, 26, 26, 26, 26, 26, 26, 26, 26, 26, 26, 26, 26, 26, 26, 26, 26, 26, 0, 0, 0, 64, 64, 64, 64, 64, 64, 64, 56, 56, 56, 56, 56, 56, 56, 56, 56, 56, 56, 56, 56, 56, 56, 56, 56, 56, 56, 56, 56, 56, 56, 56, 56, 56, 56, 56, 56, 56, 56, 56, 56, 56, 56, 56, 56, 56, 56, 56, 56, 56, 56, 56, 56, 56, 56, 56, 56, 56, 56, 56, 56, 56, 56, 56, 56, 56, 56, 56, 56, 56, 56, 56, 56, 0, 234, 30, 120, 6, 6, 120, 6, 0, 52, 0, 26, 52, 240, 240, 0, 26, 52, 240, 240, 0, 64, 64, 0, 64, 64, 0, 36, 36, 36, 240, 64, 64, 26, 26, 128, 128, 128, 128, 128, 128, 128, 128, 128, 520, 520, 52, 2, 26, 26, 10, 10, 10, 64, 64, 10, 26, 300, 300, 300, 2600, 65, 65, 300, 64, 64, 64, 4096, 64, 3584, 56, 64, 64, 120, 6, 6, 120, 6, 26, 208, 260, 1, 241, 241, 241]
def kst (a : Nat) : Nat := kstl.getD a 99
def nst (a : Nat) : Nat := nstl.getD a 0
/-- the kind of a cell: the fixed ones, then those that come later -/
def kd (K : Nat → Nat) (a : Nat) : Nat := if a < NS then kst a else K a
/-- the length of a row; row 2 has as many places as there are labels -/
def nl (nu a : Nat) : Nat := if a = 2 then nu else nst a
abbrev Ax (nu : Nat) (K : Nat → Nat) (c u : Nat) : Al := (kd K, nl nu, c, u)
def ftl : List (List Nat) := [[3, 3, 0], [3, 2, 3, 3, 3, 0], [0, 3, 0, 0], [3, 3, 0, 3, 3, 3, 3, 3, 0, 0, 0], [2, 3, 3, 3, 3, 0], [3, 3, 0, 3, 2, 0, 0, 0, 0, 0, 3, 3, 3, 0], [3, 3, 3, 3, 0, 1], [0, 0, 0, 0, 0, 0, 2, 2, 0, 2], [2, 2, 0], [3, 3, 2, 2, 3, 1, 3, 3, 3, 1, 0, 0, 0], [3, 2], [3, 3, 3, 3, 3, 3, 3, 3, 2, 2, 2, 2, 0, 0, 0, 0], [0, 0, 3, 3, 3, 0, 0, 0, 0, 3, 0, 3, 3, 0, 3, 3, 0, 0, 0, 0, 3, 3, 3, 3, 3, 3, 3, 3, 3, 3, 3, 3, 3, 0, 0, 0, 0, 0, 0, 0, 0, 0, 3, 3, 0, 3, 3, 3, 0, 3, 3, 0, 3, 3, 0, 0, 0, 3, 3, 3, 3, 0, 3, 3, 3, 3, 3, 3, 3, 3, 3, 3, 3, 3, 3, 3, 3, 3, 3, 3, 3, 3, 0, 0, 0]]
def fty (ci k : Nat) : Nat := (ftl.getD ci []).getD k 9
def fN (ci : Nat) : Nat := (ftl.getD ci []).length
def lksl : List (Nat × Nat × Nat) := [(0, 0, 1), (0, 1, 3), (0, 2, 6), (0, 3, 106), (0, 4, 107), (0, 5, 181), (0, 6, 189), (0, 7, 190), (1, 1, 2), (3, 0, 1), (3, 1, 4), (3, 3, 5), (3, 10, 263), (3, 11, 264), (3, 12, 265), (6, 0, 1), (6, 2, 7), (6, 3, 8), (6, 4, 57), (107, 0, 1), (107, 1, 108), (107, 4, 113), (107, 6, 114), (107, 7, 115), (107, 8, 180), (108, 0, 109), (108, 1, 110), (108, 2, 111), (108, 3, 112), (181, 0, 182), (181, 1, 183), (181, 3, 184), (181, 4, 185), (181, 5, 186), (181, 6, 187), (181, 7, 188), (189, 0, 181), (191, 1, 192), (191, 2, 193), (191, 3, 194), (191, 4, 195), (196, 1, 197), (196, 2, 198), (196, 3, 199), (196, 4, 200), (201, 0, 202), (201, 1, 203), (204, 0, 205), (204, 1, 206), (207, 2, 208), (207, 3, 209), (207, 4, 210), (207, 9, 211), (207, 11, 212), (207, 12, 213), (207, 14, 214), (207, 15, 215), (207, 20, 216), (207, 21, 217), (207, 22, 218), (207, 23, 219), (207, 24, 220), (207, 25, 221), (207, 26, 222), (207, 27, 223), (207, 28, 224), (207, 29, 225), (207, 30, 226), (207, 31, 227), (207, 32, 228), (207, 42, 229), (207, 43, 230), (207, 45, 231), (207, 46, 232), (207, 47, 233), (207, 49, 234), (207, 50, 235), (207, 52, 236), (207, 53, 237), (207, 57, 238), (207, 58, 239), (207, 59, 240), (207, 60, 241), (207, 62, 242), (207, 63, 243), (207, 64, 244), (207, 65, 245), (207, 66, 246), (207, 67, 247), (207, 68, 248), (207, 69, 249), (207, 70, 250), (207, 71, 251), (207, 72, 252), (207, 73, 253), (207, 74, 254), (207, 75, 255), (207, 76, 256), (207, 77, 257), (207, 78, 258), (207, 79, 259), (207, 80, 260), (207, 81, 261)]
def lks (a k : Nat) : Option Nat := (lksl.find? (fun q => q.1 == a && q.2.1 == k)).map (fun q => q.2.2)
def slen : List Nat := [3, 3, 4, 2, 5, 2, 3, 2, 4, 14]
def sbyt : List (List Int32) := [[118, 97, 114], [114, 111, 119], [112, 114, 111, 99], [105, 102], [119, 104, 105, 108, 101], [105, 110], [111, 117, 116], [100, 111], [101, 108, 115, 101], [59, 61, 91, 93, 123, 125, 40, 41, 43, 45, 42, 47, 60, 58]]
def stxt : List (Nat × String) := [(119, "var"), (125, "row"), (127, "proc"), (129, "if"), (133, "while"), (135, "in"), (137, "out"), (139, "do"), (131, "else"), (112, ";=[]{}()+-*/<:")]
def takenl : List Int32 := [0, 0, 1, 1, 2, 2, 2, 2, 2, 2, 2, 1, 0, 0, 1, 0]
def putl : List Int32 := [1, 1, 0, 1, 0, 1, 1, 1, 1, 1, 1, 0, 0, 1, 0, 0]
def nestl : List (String × Nat × MethodName) := [("FlowChain", 45, ⟨"FlowChain$Translator", "<init>", "()V"⟩), ("FlowChain", 59, ⟨"FlowChain$Machine", "<init>", "()V"⟩), ("FlowChain", 85, ⟨"FlowChain$Program", "<init>", "()V"⟩), ("FlowChain", 95, ⟨"FlowChain$Code", "<init>", "()V"⟩), ("FlowChain$Code", 39, ⟨"FlowChain", "bit", "(I)J"⟩), ("FlowChain$Machine", 115, ⟨"FlowChain", "asNumber", "(Z)I"⟩), ("FlowChain$Regions", 29, ⟨"FlowChain", "holds", "(JI)Z"⟩), ("FlowChain$Regions", 55, ⟨"FlowChain", "bit", "(I)J"⟩), ("FlowChain$Regions", 76, ⟨"FlowChain", "least", "(J)I"⟩), ("FlowChain$Verifier", 13, ⟨"FlowChain$Regions", "<init>", "()V"⟩), ("FlowChain$Verifier", 138, ⟨"FlowChain", "bit", "(I)J"⟩), ("FlowChain$Verifier", 144, ⟨"FlowChain", "least", "(J)I"⟩), ("FlowChain$Verifier", 58, ⟨"FlowChain", "holds", "(JI)Z"⟩)]
def exl : List String := ["java/lang/IllegalArgumentException", "java/lang/IllegalStateException", "java/lang/UnsupportedOperationException", "java/lang/IndexOutOfBoundsException", "java/util/NoSuchElementException"]
def decll : List MethodName := [⟨"java/lang/RuntimeException", "<init>", "()V"⟩, ⟨"java/lang/RuntimeException", "<init>", "(Ljava/lang/String;)V"⟩, ⟨"java/lang/Exception", "<init>", "()V"⟩, ⟨"java/lang/Exception", "<init>", "(Ljava/lang/String;)V"⟩, ⟨"java/lang/Throwable", "<init>", "()V"⟩, ⟨"java/lang/Throwable", "<init>", "(Ljava/lang/String;)V"⟩]
/-- the JDK's own formatter: null or some reference -/
def fmt (w : Wx) : Value := if woV w 200 = 0 then .null else .ref (woK w 200)
abbrev gb (w : Wx) : Nat → Prop := fun q => wb w ≤ q
/-- the old cells that the class and the machine read: texts, the two tables, two statics of Throwable, one of String -/
def OldP (w : Wx) (U : State) (H : Heap) : Prop :=
  vx_Zq Bundle.tN "UNASSIGNED_STACK" Bundle.steD (gb w) U H ∧ vx_Zq Bundle.tN "SUPPRESSED_SENTINEL" Bundle.listD (gb w) U H
  ∧ va_Z "FlowChain$Code" "TAKEN" "[I" (.ref (woK w 100)) (gb w) U H ∧ va_T .int (woK w 100) 16 (fun j => .int (takenl.getD j 0)) (gb w) U H
  ∧ va_Z "FlowChain$Code" "PUT" "[I" (.ref (woK w 101)) (gb w) U H ∧ va_T .int (woK w 101) 16 (fun j => .int (putl.getD j 0)) (gb w) U H
  ∧ va_Z "java/lang/String" "COMPACT_STRINGS" "Z" (.int 1) (gb w) U H
  ∧ vk_S 10 slen sbyt (woK w) (woV w) (gb w) U H ∧ (∀ i, i < 10 → vk_R "FlowChain$Reader" (stxt.getD i (0, "")).1 (stxt.getD i (0, "")).2 (woK w i) U)
  ∧ (∀ q ∈ nestl, va_Nw (.methodLinkNest q.1 q.2.1 q.2.2 "FlowChain") U) ∧ (∀ E ∈ exl, va_Nw (.castable E E) U) ∧ (∀ E ∈ exl, ∀ F ∈ exl, E ≠ F → va_Nc E F U) ∧ (∀ x ∈ decll, va_Nw (.declares x) U) ∧ va_Z "jdk/internal/util/Preconditions" "SIOOBE_FORMATTER" "Ljava/util/function/BiFunction;" (fmt w) (gb w) U H
theorem OldP.moved {w : Wx} {u U : State} {H : Heap} (hW : u.WarmedH U.vm) (h : OldP w u H) : OldP w U H := by
  obtain ⟨h1, h2, h3, h4, h5, h6, h7, h8, h9, h10, h11, h12, h13, h14⟩ := h
  exact ⟨h1.moved hW.alike, h2.moved hW.alike, h3.moved hW.alike, h4.moved hW.alike, h5.moved hW.alike, h6.moved hW.alike, h7.moved hW.alike, h8.moved hW.alike, fun i hi => (h9 i hi).warm hW, fun q hq => va_Nw.warmM hW (h10 q hq), fun E hE => va_Nw.warmC hW (h11 E hE), fun E hE F hF hn => (h12 E hE F hF hn).moved hW.alike, fun x hx => va_Nw.warmD hW (h13 x hx), h14.moved hW.alike⟩
theorem OldP.kept {w : Wx} {U : State} {H H1 : Heap} (h : OldP w U H) (hq : ∀ a : Nat, a < H.size → ¬ gb w a → H1[a]? = H[a]?) : OldP w U H1 := by
  obtain ⟨h1, h2, h3, h4, h5, h6, h7, h8, h9, h10, h11, h12, h13, h14⟩ := h
  exact ⟨h1.kept hq, h2.kept hq, h3.kept hq, h4.kept hq, h5.kept hq, h6.kept hq, h7.kept hq, h8.kept hq, h9, h10, h11, h12, h13, h14.kept hq⟩
def fv (w : Wx) (D : Dat) (a ty k : Nat) : Value := if ty = 0 then .int (dI D a k) else if ty = 1 then .long (dL D a k) else if ty = 2 then rv (wb w) (dR D a k) else rv (wb w) (if wlm w = true then lks a k else dR D a k)
def flds (w : Wx) (D : Dat) (a ci : Nat) : List Value := (List.range (fN ci)).map (fun k => fv w D a (fty ci k) k)
theorem flds_get (w : Wx) (D : Dat) (a ci k : Nat) (h : k < fN ci) : (flds w D a ci)[k]? = some (fv w D a (fty ci k) k) := by
  simp [flds, h]
theorem flds_len (w : Wx) (D : Dat) (a ci : Nat) : (flds w D a ci).length = fN ci := by simp [flds]
/-- what a cell of numbers is, in the kit's words; a row of rows: its rows lie behind it -/
def cE (w : Wx) (A : Al) (D : Dat) (a : Nat) : va_E :=
  if A.1 a < 13 then .inr (A.1 a, flds w D a (A.1 a))
  else if A.1 a = 15 then .inl (wy w 15, A.2.1 a, .inr (.inl (fun k => dL D a k)))
  else if A.1 a = 17 then .inl (wy w 17, A.2.1 a, .inr (.inr (.inr (.inr (fun k => (dR D a k).map (fun q => wb w + pp q))))))
  else if A.1 a = 18 then .inl (wy w 18, A.2.1 a, .inr (.inr (.inr (.inr (fun k => some (wb w + pp (a + 1 + k)))))))
  else .inl (wy w (A.1 a), A.2.1 a, .inl (fun k => dI D a k))
def fA (w : Wx) (A : Al) (D : Dat) (q : Nat) : va_E := cE w A D (qq (q - wb w))
def Pic (w : Wx) (n : Nat) (A : Al) (D : Dat) (H : Heap) : Prop := H.size = wb w + n ∧ ∃ L : List Nat, va_P (wG w) vwCl (va_pl L (fA w A D)) H ∧ va_D (fun q => wb w ≤ q) (va_pl L (fA w A D)) ∧ ∀ a, A.1 a < 19 → wb w + pp a ∈ L
abbrev tyl (w : Wx) : List (ClassId × FieldType) := [(wy w 13, .char), (wy w 14, .int), (wy w 15, .long), (wy w 16, .boolean), (wy w 17, .object "FlowChain$Statement"), (wy w 18, .array .int)]
theorem cE_obj {w : Wx} {A : Al} {D : Dat} {a ci : Nat} (h : A.1 a = ci) (hc : ci < 13) : cE w A D a = .inr (ci, flds w D a ci) := by
  subst h; simp [cE, hc]
theorem cE_int {w : Wx} {A : Al} {D : Dat} {a : Nat} (h : A.1 a = 14) : cE w A D a = .inl (wy w 14, A.2.1 a, .inl (fun k => dI D a k)) := by
  simp [cE, h]
theorem cE_chr {w : Wx} {A : Al} {D : Dat} {a : Nat} (h : A.1 a = 13) : cE w A D a = .inl (wy w 13, A.2.1 a, .inl (fun k => dI D a k)) := by
  simp [cE, h]
theorem cE_boo {w : Wx} {A : Al} {D : Dat} {a : Nat} (h : A.1 a = 16) : cE w A D a = .inl (wy w 16, A.2.1 a, .inl (fun k => dI D a k)) := by
  simp [cE, h]
theorem cE_lng {w : Wx} {A : Al} {D : Dat} {a : Nat} (h : A.1 a = 15) : cE w A D a = .inl (wy w 15, A.2.1 a, .inr (.inl (fun k => dL D a k))) := by
  simp [cE, h]
theorem cE_sts {w : Wx} {A : Al} {D : Dat} {a : Nat} (h : A.1 a = 17) : cE w A D a = .inl (wy w 17, A.2.1 a, .inr (.inr (.inr (.inr (fun k => (dR D a k).map (fun q => wb w + pp q)))))) := by
  simp [cE, h]
theorem cE_two {w : Wx} {A : Al} {D : Dat} {a : Nat} (h : A.1 a = 18) : cE w A D a = .inl (wy w 18, A.2.1 a, .inr (.inr (.inr (.inr (fun k => some (wb w + pp (a + 1 + k))))))) := by
  simp [cE, h]
theorem fA_b (w : Wx) (A : Al) (D : Dat) (a : Nat) : fA w A D (wb w + pp a) = cE w A D a := by
  show cE w A D (qq (wb w + pp a - wb w)) = _
  rw [Nat.add_sub_cancel_left, qp]
/-- a cell whose numbers didn't change -/
theorem cE_same {w : Wx} {A : Al} {D D' : Dat} {a : Nat} (hI : ∀ k, dI D' a k = dI D a k) (hL : ∀ k, dL D' a k = dL D a k) (hR : ∀ k, dR D' a k = dR D a k) : cE w A D' a = cE w A D a := by
  have e : ∀ ci, flds w D' a ci = flds w D a ci := fun ci => by
    unfold flds
    apply List.map_congr_left
    intro k _
    simp only [fv, hI, hL, hR]
  simp only [cE, e, hI, hL, hR]
/-- the pool behind a store at one cell -/
theorem pl_store {w : Wx} {A : Al} {D D' : Dat} {a : Nat} {L : List Nat} (h0 : ∀ b, b ≠ a → cE w A D' b = cE w A D b) (hb : ∀ q ∈ L, wb w ≤ q) : va_pl L (va_up (fA w A D) (wb w + pp a) (cE w A D' a)) = va_pl L (fA w A D') := by
  unfold va_pl
  apply List.map_congr_left
  intro q hq
  have hq := hb q hq
  by_cases e : q = wb w + pp a
  · subst e
    rw [va_up_self, fA_b]
  · rw [va_up_ne _ _ e]
    show (q, cE w A D (qq (q - wb w))) = (q, cE w A D' (qq (q - wb w)))
    rw [h0 _ (fun e9 => e (by rw [← e9, pq]; omega))]
theorem pic_ge {w : Wx} {A : Al} {D : Dat} {L : List Nat} (hD : va_D (fun q => wb w ≤ q) (va_pl L (fA w A D))) : ∀ q ∈ L, wb w ≤ q := fun q hq => by
  obtain ⟨k, hk⟩ := va_pl_get (X := []) (f := fA w A D) hq
  exact hD.2 k _ hk
/-- the picture behind a store at one cell: the new heap has the new cell there, the others as they were -/
theorem pic_store {w : Wx} {n : Nat} {A : Al} {D D' : Dat} {a : Nat} {H H1 : Heap} (h : Pic w n A D H) (ha : A.1 a < 19) (h0 : ∀ b, b ≠ a → cE w A D' b = cE w A D b) (hz : H1.size = H.size) (he : va_at (wG w) vwCl (wb w + pp a, cE w A D' a) H1) (hq : ∀ q : Nat, q ≠ wb w + pp a → H1[q]? = H[q]?) : Pic w n A D' H1 := by
  obtain ⟨h1, L, hP, hD, hL⟩ := h
  have hm := hL a ha
  obtain ⟨k, hk⟩ := va_pl_get (X := []) (f := fA w A D) hm
  have hk : (va_pl L (fA w A D))[k]? = some (wb w + pp a, fA w A D (wb w + pp a)) := hk
  have hs : (va_pl L (fA w A D)).set k (wb w + pp a, cE w A D' a) = va_pl L (fA w A D') := by
    have q := va_pl_set (X := []) (e := cE w A D' a) hD hm hk
    exact q.trans (pl_store h0 (pic_ge hD))
  refine ⟨hz.trans h1, L, ?_, ?_, hL⟩
  · rw [← hs]
    exact hP.set hD hk he hq
  · rw [← hs]
    exact hD.set hk
theorem pic_at {w : Wx} {n : Nat} {A : Al} {D : Dat} {H : Heap} (h : Pic w n A D H) {a : Nat} (ha : A.1 a < 19) : va_P (wG w) vwCl [(wb w + pp a, cE w A D a)] H := by
  obtain ⟨h1, L, hP, hD, hL⟩ := h
  obtain ⟨k, hk⟩ := va_pl_get (X := []) (f := fA w A D) (hL a ha)
  intro j q hj
  have hk' := hP k _ hk
  rw [fA_b] at hk'
  have : j = 0 := by
    have := (List.getElem?_eq_some_iff.mp hj).1
    simp at this
    exact this
  subst this
  cases hj
  exact hk'
