/-! ===== THE MEMORY: cells by numbers (0 null, 1 .. 34 tokens, 35 EACH, 36 .. 67 texts of tokens, from 100 on what the run makes) ===== -/
/-- how many, kinds, lengths, references -/
abbrev LT : Type := Nat × (Nat → Nat) × (Nat → Nat) × (Nat → Nat → Nat)
/-- ints, longs, tokens -/
abbrev MT : Type := (Nat → Nat → Int32) × (Nat → Nat → Int64) × (Nat → Nat → Nat)
/-- n0, tokens, EACH, texts, their bytes, numbers of kinds, places of fields, array kinds -/
abbrev GT : Type := Nat × (Nat → Nat) × Nat × (Nat → Nat) × (Nat → Nat) × (Nat → ClassId) × (Nat → Nat → Nat) × (Nat → ClassId)
def gn (g : GT) : Nat := g.1
def gad (g : GT) : Nat → Nat := g.2.1
def gea (g : GT) : Nat := g.2.2.1
def gk (g : GT) : Nat → Nat := g.2.2.2.1
def gv (g : GT) : Nat → Nat := g.2.2.2.2.1
def gC (g : GT) : Nat → ClassId := g.2.2.2.2.2.1
def gD (g : GT) : Nat → Nat → Nat := g.2.2.2.2.2.2.1
def gA (g : GT) : Nat → ClassId := g.2.2.2.2.2.2.2
abbrev lt_n (w : LT) : Nat := w.1
abbrev lt_t (w : LT) (a : Nat) : Nat := w.2.1 a
abbrev lt_l (w : LT) (a : Nat) : Nat := w.2.2.1 a
abbrev lt_p (w : LT) (a k : Nat) : Nat := w.2.2.2 a k
def up2 {α : Type} (f : Nat → Nat → α) (a k : Nat) (v : α) : Nat → Nat → α := fun b => if b = a then (fun j => if j = k then v else f a j) else f b
theorem up2_eq {α : Type} (f : Nat → Nat → α) (a k : Nat) (v : α) : up2 f a k v a k = v := by simp [up2]
theorem up2_at {α : Type} (f : Nat → Nat → α) (a k j : Nat) (v : α) : up2 f a k v a j = if j = k then v else f a j := by simp [up2]
theorem up2_ne {α : Type} (f : Nat → Nat → α) {a b : Nat} (k : Nat) (v : α) (h : b ≠ a) : up2 f a k v b = f b := by simp [up2, h]
def gI (u : MT) (a k : Nat) : Int32 := u.1 a k
def gL (u : MT) (a k : Nat) : Int64 := u.2.1 a k
def gK (u : MT) (a k : Nat) : Nat := u.2.2 a k
def sI (u : MT) (a k : Nat) (v : Int32) : MT := (up2 u.1 a k v, u.2)
def sL (u : MT) (a k : Nat) (v : Int64) : MT := (u.1, up2 u.2.1 a k v, u.2.2)
def sK (u : MT) (a k : Nat) (v : Nat) : MT := (u.1, u.2.1, up2 u.2.2 a k v)
def sP (w : LT) (a k b : Nat) : LT := (w.1, w.2.1, w.2.2.1, up2 w.2.2.2 a k b)
def adr (g : GT) (x : Nat) : Nat := if x ≤ 34 then gad g (x - 1) else if x = 35 then gea g else if x < 68 then gk g (x - 36) else if x < 100 then gv g (x - 68) else gn g + (x - 100)
def tr (g : GT) (x : Nat) : Value := if x = 0 then .null else .ref (adr g x)
def trv (g : GT) (v : Value) : Value := match v with
  | .ref a => tr g a
  | v => v
theorem trv_cat (g : GT) (v : Value) : (trv g v).category = v.category := by
  cases v with
  | ref a => simp only [trv, tr]; split <;> rfl
  | _ => rfl
theorem tr_or (g : GT) (x : Nat) : tr g x = .null ∨ ∃ a, tr g x = .ref a := by
  unfold tr
  split
  · exact Or.inl rfl
  · exact Or.inr ⟨_, rfl⟩
theorem adr_dyn (g : GT) {a : Nat} (h : 100 ≤ a) : adr g a = gn g + (a - 100) := by
  simp [adr, show ¬ a ≤ 34 by omega, show ¬ a = 35 by omega, show ¬ a < 68 by omega, show ¬ a < 100 by omega]
theorem tr_dyn (g : GT) {a : Nat} (h : 100 ≤ a) : tr g a = .ref (adr g a) := by
  simp [tr, show ¬ a = 0 by omega]
/-! the kinds of cells: 0 .. 12 by the tables of fields; 20 int, 21 long, 22 boolean, 23 char, 24 tokens, 25 rules, 26 texts -/
def cS : Nat → String
  | 0 => RX0 | 1 => RX1 | 2 => RX2 | 3 => RX3 | 4 => RX4 | 5 => RX5 | 6 => RX6 | 7 => RX7 | 8 => RX8 | 9 => RX9 | 10 => RX10 | 11 => RX11 | _ => RX12
def cT : Nat → u_T
  | 0 => TX0 | 1 => TX1 | 2 => TX2 | 3 => TX3 | 4 => TX4 | 5 => TX5 | 6 => TX6 | 7 => TX7 | 8 => TX8 | 9 => TX9 | 10 => TX10 | 11 => TX11 | _ => TX12
def cN : Nat → Nat
  | 0 => 2 | 1 => 11 | 2 => 3 | 3 => 8 | 4 => 6 | 5 => 10 | 6 => 2 | 7 => 7 | 8 => 2 | 9 => 0 | 10 => 20 | 11 => 13 | _ => 75
def cY : Nat → Nat → FieldType
  | 0 => tyX0 | 1 => tyX1 | 2 => tyX2 | 3 => tyX3 | 4 => tyX4 | 5 => tyX5 | 6 => tyX6 | 7 => tyX7 | 8 => tyX8 | 9 => tyX9 | 10 => tyX10 | 11 => tyX11 | _ => tyX12
abbrev clL : List vw_C := [(RX0, TX0, 2), (RX1, TX1, 11), (RX2, TX2, 3), (RX3, TX3, 8), (RX4, TX4, 6), (RX5, TX5, 10), (RX6, TX6, 2), (RX7, TX7, 7), (RX8, TX8, 2), (RX9, TX9, 0), (RX10, TX10, 20), (RX11, TX11, 13), (RX12, TX12, 75)]
/-- a field's kind: 0 an int, 1 a reference, 2 a token -/
def fkT : List (List Nat) := [[1, 0], [1, 1, 1, 1, 0, 0, 1, 1, 1, 1, 1], [1, 1, 0], [1, 1, 1, 0, 0, 0, 0, 1], [1, 1, 1, 1, 1, 0], [2, 0, 0, 0, 0, 2, 2, 2, 0, 0], [1, 0], [1, 0, 2, 1, 0, 0, 0], [1, 0], [], [1, 0, 0, 0, 0, 0, 1, 1, 1, 1, 1, 1, 0, 1, 1, 1, 0, 0, 1, 1], [1, 1, 1, 1, 1, 1, 1, 1, 1, 1, 1, 0, 0], [0, 1, 0, 0, 1, 1, 1, 0, 0, 1, 1, 1, 1, 1, 1, 1, 1, 1, 1, 1, 1, 1, 0, 1, 1, 0, 0, 1, 1, 0, 0, 0, 1, 1, 0, 1, 1, 1, 1, 1, 0, 0, 0, 0, 0, 0, 0, 1, 1, 1, 1, 1, 1, 1, 1, 1, 1, 1, 1, 1, 0, 0, 0, 0, 0, 0, 0, 1, 1, 1, 1, 1, 1, 0, 1]]
def fk (t k : Nat) : Nat := (fkT.getD t []).getD k 0
def fkOk (t k : Nat) : Bool := match cY t k with
  | .int => fk t k == 0
  | .boolean => fk t k == 0
  | .object C => if C = "SunVillage$Token" then fk t k == 2 else fk t k == 1
  | .array _ => fk t k == 1
  | _ => false
theorem fk_ok : ∀ t, t < 13 → ∀ k, k < cN t → fkOk t k = true := by decide +kernel
def aTy : Nat → FieldType
  | 20 => .int | 21 => .long | 22 => .boolean | 23 => .char | 24 => .object "SunVillage$Token" | 25 => .object "SunVillage$Rule" | _ => .object "SunVillage$Text"
abbrev tyL (g : GT) : List (ClassId × FieldType) := [(gA g 20, .int), (gA g 21, .long), (gA g 22, .boolean), (gA g 23, .char), (gA g 24, .object "SunVillage$Token"), (gA g 25, .object "SunVillage$Rule"), (gA g 26, .object "SunVillage$Text")]
def fv (g : GT) (w : LT) (u : MT) (t a k : Nat) : Value := if fk t k = 0 then .int (gI u a k) else if fk t k = 1 then tr g (lt_p w a k) else tr g (gK u a k)
def av (g : GT) (w : LT) (u : MT) (t a j : Nat) : Value := if t = 21 then .long (gL u a j) else if t = 24 then tr g (gK u a j) else if t = 25 ∨ t = 26 then tr g (lt_p w a j) else .int (gI u a j)
def cellOk (g : GT) (w : LT) (u : MT) (a : Nat) (H : Heap) : Prop :=
  (lt_t w a < 13 → t_OB (adr g a) (gC g (lt_t w a)) (cN (lt_t w a)) (gD g (lt_t w a)) H (fv g w u (lt_t w a) a)) ∧
  (20 ≤ lt_t w a → lt_t w a < 27 → H[adr g a]? = some (arrV (gA g (lt_t w a)) (lt_l w a) (av g w u (lt_t w a) a)))
def Rep (g : GT) (w : LT) (u : MT) (H : Heap) : Prop :=
  H.size = gn g + (lt_n w - 100) ∧ 100 ≤ lt_n w ∧ (∀ a, a < 100 ∨ lt_n w ≤ a → lt_t w a = 99) ∧ ∀ a, 100 ≤ a → a < lt_n w → cellOk g w u a H
/-! the tokens -/
def tkN : List String := ["NOTHING", "END", "NUMBER", "OPEN", "CLOSE", "SEMICOLON", "HOUR", "DAY", "POOL", "STORE", "WANT", "PLUS", "MINUS", "LESS", "EQUAL", "WHEN", "GIVE", "FILL", "PRICE", "REST", "FROM", "TO", "BY", "ALL", "HOUSE", "LEAST", "HEADS", "WANTS", "SHARES", "BUY", "SELL", "FIRST", "MOST", "TURN"]
def tkC : List Int32 := [0, 0, 0, 0, 0, 0, -1, -2, -3, -4, -5, -6, -7, -8, -9, 0, 0, 0, 0, 0, 0, 0, 0, 0, 0, 0, 0, 0, 0, 0, 0, 0, 0, 0]
/-- which text a token is spelled by -/
def tkX (i : Nat) : Nat := i - 2
def tkL : List Nat := [0, 1, 1, 1, 4, 3, 4, 5, 4, 1, 1, 1, 1, 4, 4, 4, 5, 4, 4, 2, 2, 3, 5, 5, 5, 5, 6, 3, 4, 5, 4, 4]
def tkB : List (List Int32) := [[], [40], [41], [59], [104, 111, 117, 114], [100, 97, 121], [112, 111, 111, 108], [115, 116, 111, 114, 101], [119, 97, 110, 116], [43], [45], [60], [61], [119, 104, 101, 110], [103, 105, 118, 101], [102, 105, 108, 108], [112, 114, 105, 99, 101], [114, 101, 115, 116], [102, 114, 111, 109], [116, 111], [98, 121], [97, 108, 108], [104, 111, 117, 115, 101], [108, 101, 97, 115, 116], [104, 101, 97, 100, 115], [119, 97, 110, 116, 115], [115, 104, 97, 114, 101, 115], [98, 117, 121], [115, 101, 108, 108], [102, 105, 114, 115, 116], [109, 111, 115, 116], [116, 117, 114, 110]]
abbrev fr (g : GT) : Nat → Prop := fun q => gn g ≤ q
abbrev Stk (g : GT) (U : State) : Prop := va_En "SunVillage$Token" "LSunVillage$Token;" tkN [("SunVillage$Token", "code", "I", tkC)] (gad g) (fr g) U U.heap
def Stx (g : GT) (U : State) : Prop :=
  va_Z "SunVillage$Token" "EACH" "[LSunVillage$Token;" (.ref (gea g)) (fr g) U U.heap ∧ va_T (.object "SunVillage$Token") (gea g) 34 (fun i => .ref (gad g i)) (fr g) U U.heap ∧
  va_Ef 34 "SunVillage$Token" "spelling" "Ljava/lang/String;" (fun i => .ref (gk g (tkX i))) (gad g) (fr g) U U.heap ∧ vk_S 32 tkL tkB (gk g) (gv g) (fr g) U U.heap
/-- the words of nest mates -/
def isNest : Cond → Bool
  | .fieldLinkNest .. => true
  | .methodLinkNest .. => true
  | _ => false
def NWs : List Cond := tables_1.filter isNest
theorem NW_at {w : Cond} (i : Nat) (h : tables_1[i]? = some w) (hg : isNest w = true) : w ∈ NWs := List.mem_filter.mpr ⟨List.mem_of_getElem? h, hg⟩
theorem NW_warm {w : Cond} {s U : State} (hw : w ∈ NWs) (hW : s.WarmedH U.vm) (h : va_Nw w s) : va_Nw w U := by
  have h1 := (List.mem_filter.mp hw).2
  cases w <;> first | (simp [isNest] at h1; done) | exact va_Nw.warmF hW h | exact va_Nw.warmM hW h
theorem NW_use {w : Cond} {s : State} (hw : w ∈ NWs) (h : va_Nw w s) (args : Array Value) : w.before args s = true := by
  have h1 := (List.mem_filter.mp hw).2
  cases w <;> first | (simp [isNest] at h1; done) | exact va_Nw.use rfl h
/-- of the JDK: texts are compact, two statics of Throwable -/
def Stz (g : GT) (U : State) : Prop := va_Z "java/lang/String" "COMPACT_STRINGS" "Z" (.int 1) (fr g) U U.heap ∧ vx_Zq Bundle.tN "UNASSIGNED_STACK" Bundle.steD (fr g) U U.heap ∧ vx_Zq Bundle.tN "SUPPRESSED_SENTINEL" Bundle.listD (fr g) U U.heap ∧ va_Zq "jdk/internal/util/Preconditions" "SIOOBE_FORMATTER" "Ljava/util/function/BiFunction;" (fr g) U U.heap
/-- what is there from the start, and stays -/
def Stc (g : GT) (U : State) : Prop := va_K (gC g, gD g) clL (tyL g) U ∧ Stk g U ∧ Stx g U ∧ gn g ≤ U.heap.size ∧ (∀ w ∈ NWs, va_Nw w U) ∧ va_AO "SunVillage$Token" U ∧ va_AO "SunVillage$Rule" U ∧ va_AO "SunVillage$Text" U ∧ Stz g U
theorem Stc.go {g : GT} {s U : State} (h : Stc g s) (hW : s.WarmedH U.vm) (hz : s.heap.size ≤ U.heap.size) (hq : ∀ a : Nat, a < s.heap.size → ¬ fr g a → U.heap[a]? = s.heap[a]?) : Stc g U := by
  have hvm := hW.alike
  obtain ⟨h1, h2, ⟨h3, h4, h5, h6⟩, h7, h8, h9, h10, h11, h12, h13, h14, h15⟩ := h
  exact ⟨va_K.moved hvm h1, va_En.moved hvm (va_En.kept h2 hq), ⟨va_Z.moved hvm (h3.kept hq), va_T.moved hvm (h4.kept hq), va_Ef.moved hvm (h5.kept hq), vk_S.moved hvm (h6.kept hq)⟩, Nat.le_trans h7 hz, fun w hw => NW_warm hw hW (h8 w hw), va_AO.moved hvm h9, va_AO.moved hvm h10, va_AO.moved hvm h11, va_Z.moved hvm (h12.kept hq), vx_Zq.moved hvm (h13.kept hq), vx_Zq.moved hvm (h14.kept hq), va_Zq.moved hvm (va_Zq.kept h15 hq)⟩
theorem Stc.nest {g : GT} {s : State} (h : Stc g s) {w : Cond} (hw : w ∈ NWs) (args : Array Value) : w.before args s = true := NW_use hw (h.2.2.2.2.1 w hw) args
theorem va_RA_name {U : State} {cA : ClassId} {ty : FieldType} (h : va_RA U cA ty) : U.vm.findClass ("[" ++ ty.toString) = some cA := by
  cases ty with
  | object C =>
    obtain ⟨kA, comp, h1, h2, h3, h4⟩ := h
    exact h4
  | _ => exact h
/-! the words -/
def WT : List Cond := lw_tbl.filter goodWord
theorem WT_in {w : Cond} (h : w ∈ WT) : w ∈ lw_tbl := (List.mem_filter.mp h).1
theorem WT_good : GoodIn WT WT := fun w h => ⟨h, good_of_word (List.mem_filter.mp h).2⟩
/-- the word at a place of the tables -/
theorem WT_at {w : Cond} (i : Nat) (h : tables_1[i]? = some w) (hg : goodWord w = true) : w ∈ WT := List.mem_filter.mpr ⟨List.mem_append_right _ (List.mem_of_getElem? h), hg⟩
theorem WT_sel {w : Cond} (i : Nat) (h : (k2_sels lw_privs)[i]? = some w) (hg : goodWord w = true) : w ∈ WT := List.mem_filter.mpr ⟨List.mem_append_left _ (List.mem_of_getElem? h), hg⟩
theorem cl_at : ∀ t, t < 13 → clL[t]? = some (cS t, cT t, cN t) := fun t h => by
  match t, h with
  | 0, _ => rfl | 1, _ => rfl | 2, _ => rfl | 3, _ => rfl | 4, _ => rfl | 5, _ => rfl | 6, _ => rfl | 7, _ => rfl | 8, _ => rfl | 9, _ => rfl | 10, _ => rfl | 11, _ => rfl | 12, _ => rfl
  | n + 13, h => omega
set_option maxRecDepth 20000 in
theorem cl_ws : ∀ t, t < 13 → ∀ w ∈ u_ws (cS t) (cT t) (cN t), w ∈ WT := by decide +kernel
theorem cl_ty : ∀ t, t < 13 → ∀ k, k < cN t → parseFieldDescriptor (cT t k).2.2.1 = some (cY t k) := by decide +kernel
theorem cl_nm : ∀ t, t < 13 → ∀ a, a < cN t → ∀ b, b < cN t → a ≠ b → (cT t a).2.1 ≠ (cT t b).2.1 := fun t h => by
  match t, h with
  | 0, _ => exact nmX0 | 1, _ => exact nmX1 | 2, _ => exact nmX2 | 3, _ => exact nmX3 | 4, _ => exact nmX4 | 5, _ => exact nmX5 | 6, _ => exact nmX6 | 7, _ => exact nmX7 | 8, _ => exact nmX8 | 9, _ => exact nmX9 | 10, _ => exact nmX10 | 11, _ => exact nmX11 | 12, _ => exact nmX12
  | n + 13, h => omega
/-! a word at a place of a part of the tables -/
theorem WT_c1 {w : Cond} (i : Nat) (h0 : tables_1_1[i]? = some w) (hg : goodWord w = true) : w ∈ WT := by
  have h : w ∈ tables_1_1 := List.mem_of_getElem? h0
  exact List.mem_filter.mpr ⟨List.mem_append_right _ (show w ∈ tables_1 from List.mem_append_left _ (h)), hg⟩
theorem NW_c1 {w : Cond} (i : Nat) (h0 : tables_1_1[i]? = some w) (hg : isNest w = true) : w ∈ NWs := by
  have h : w ∈ tables_1_1 := List.mem_of_getElem? h0
  exact List.mem_filter.mpr ⟨(show w ∈ tables_1 from List.mem_append_left _ (h)), hg⟩
theorem WT_c2 {w : Cond} (i : Nat) (h0 : tables_1_2[i]? = some w) (hg : goodWord w = true) : w ∈ WT := by
  have h : w ∈ tables_1_2 := List.mem_of_getElem? h0
  exact List.mem_filter.mpr ⟨List.mem_append_right _ (show w ∈ tables_1 from List.mem_append_right _ (List.mem_append_left _ (h))), hg⟩
theorem NW_c2 {w : Cond} (i : Nat) (h0 : tables_1_2[i]? = some w) (hg : isNest w = true) : w ∈ NWs := by
  have h : w ∈ tables_1_2 := List.mem_of_getElem? h0
  exact List.mem_filter.mpr ⟨(show w ∈ tables_1 from List.mem_append_right _ (List.mem_append_left _ (h))), hg⟩
theorem WT_c3 {w : Cond} (i : Nat) (h0 : tables_1_3[i]? = some w) (hg : goodWord w = true) : w ∈ WT := by
  have h : w ∈ tables_1_3 := List.mem_of_getElem? h0
  exact List.mem_filter.mpr ⟨List.mem_append_right _ (show w ∈ tables_1 from List.mem_append_right _ (List.mem_append_right _ (List.mem_append_left _ (h)))), hg⟩
theorem NW_c3 {w : Cond} (i : Nat) (h0 : tables_1_3[i]? = some w) (hg : isNest w = true) : w ∈ NWs := by
  have h : w ∈ tables_1_3 := List.mem_of_getElem? h0
  exact List.mem_filter.mpr ⟨(show w ∈ tables_1 from List.mem_append_right _ (List.mem_append_right _ (List.mem_append_left _ (h)))), hg⟩
theorem WT_c4 {w : Cond} (i : Nat) (h0 : tables_1_4[i]? = some w) (hg : goodWord w = true) : w ∈ WT := by
  have h : w ∈ tables_1_4 := List.mem_of_getElem? h0
  exact List.mem_filter.mpr ⟨List.mem_append_right _ (show w ∈ tables_1 from List.mem_append_right _ (List.mem_append_right _ (List.mem_append_right _ (List.mem_append_left _ (h))))), hg⟩
theorem NW_c4 {w : Cond} (i : Nat) (h0 : tables_1_4[i]? = some w) (hg : isNest w = true) : w ∈ NWs := by
  have h : w ∈ tables_1_4 := List.mem_of_getElem? h0
  exact List.mem_filter.mpr ⟨(show w ∈ tables_1 from List.mem_append_right _ (List.mem_append_right _ (List.mem_append_right _ (List.mem_append_left _ (h))))), hg⟩
theorem WT_c5 {w : Cond} (i : Nat) (h0 : tables_1_5[i]? = some w) (hg : goodWord w = true) : w ∈ WT := by
  have h : w ∈ tables_1_5 := List.mem_of_getElem? h0
  exact List.mem_filter.mpr ⟨List.mem_append_right _ (show w ∈ tables_1 from List.mem_append_right _ (List.mem_append_right _ (List.mem_append_right _ (List.mem_append_right _ (List.mem_append_left _ (h)))))), hg⟩
theorem NW_c5 {w : Cond} (i : Nat) (h0 : tables_1_5[i]? = some w) (hg : isNest w = true) : w ∈ NWs := by
  have h : w ∈ tables_1_5 := List.mem_of_getElem? h0
  exact List.mem_filter.mpr ⟨(show w ∈ tables_1 from List.mem_append_right _ (List.mem_append_right _ (List.mem_append_right _ (List.mem_append_right _ (List.mem_append_left _ (h)))))), hg⟩
theorem WT_c6 {w : Cond} (i : Nat) (h0 : tables_1_6[i]? = some w) (hg : goodWord w = true) : w ∈ WT := by
  have h : w ∈ tables_1_6 := List.mem_of_getElem? h0
  exact List.mem_filter.mpr ⟨List.mem_append_right _ (show w ∈ tables_1 from List.mem_append_right _ (List.mem_append_right _ (List.mem_append_right _ (List.mem_append_right _ (List.mem_append_right _ (List.mem_append_left _ (h))))))), hg⟩
theorem NW_c6 {w : Cond} (i : Nat) (h0 : tables_1_6[i]? = some w) (hg : isNest w = true) : w ∈ NWs := by
  have h : w ∈ tables_1_6 := List.mem_of_getElem? h0
  exact List.mem_filter.mpr ⟨(show w ∈ tables_1 from List.mem_append_right _ (List.mem_append_right _ (List.mem_append_right _ (List.mem_append_right _ (List.mem_append_right _ (List.mem_append_left _ (h))))))), hg⟩
theorem WT_c7 {w : Cond} (i : Nat) (h0 : tables_1_7[i]? = some w) (hg : goodWord w = true) : w ∈ WT := by
  have h : w ∈ tables_1_7 := List.mem_of_getElem? h0
  exact List.mem_filter.mpr ⟨List.mem_append_right _ (show w ∈ tables_1 from List.mem_append_right _ (List.mem_append_right _ (List.mem_append_right _ (List.mem_append_right _ (List.mem_append_right _ (List.mem_append_right _ (h))))))), hg⟩
theorem NW_c7 {w : Cond} (i : Nat) (h0 : tables_1_7[i]? = some w) (hg : isNest w = true) : w ∈ NWs := by
  have h : w ∈ tables_1_7 := List.mem_of_getElem? h0
  exact List.mem_filter.mpr ⟨(show w ∈ tables_1 from List.mem_append_right _ (List.mem_append_right _ (List.mem_append_right _ (List.mem_append_right _ (List.mem_append_right _ (List.mem_append_right _ (h))))))), hg⟩
