/-! ===== THE JUDGEMENT V: a method's body over the memory ===== -/
abbrev ZT : Type := Program × Launch × Env × Room × State × MethodId × Array Value × List Frame × Method × Code
def QQ (g : GT) (Q : Option Value → LT → MT → Prop) : Array Value → State → Outcome → State → Prop := fun _ st o t => (∃ (v : Option Value) (w : LT) (u : MT), o = .returned (v.map (trv g)) ∧ Q v w u ∧ Rep g w u t.heap) ∧ va_F (fr g) st t
abbrev rmD (D mc ms : Nat) : Room := { frames := D, cells := mc, slots := ms, locals := 64 * D }
def Cx (z : ZT) (g : GT) (cc : ByteArray) (nL : Nat) (own : String) (ret : Option FieldType) (D mc ms : Nat) : Prop := match z with
  | (p, _, _, R, s, m, args, _, meth, c) => p.tables.exec = Jvm.exec ∧ c.code = cc ∧ c.maxLocals = nL ∧ s.vm.findClass own = some m.cls ∧ (∀ w ∈ WT, w.before args s = true) ∧ meth.sig.returnType = ret ∧ meth.locks = false ∧ Stc g s ∧ R = rmD D mc ms
def Cn (z : ZT) : Prop := match z with
  | (_, _, _, _, _, _, _, _, meth, _) => meth.name = "<init>"
def V (z : ZT) (g : GT) (nL : Nat) (pc : Nat) (lv : List (Nat × Value)) (st : List Value) (w : LT) (u : MT) (kc ks : Nat) (Q : Option Value → LT → MT → Prop) : Prop := match z with
  | (p, l, e, R, s, m, args, below, meth, c) => ∀ (H : Heap) (locs : List Loc) (ls : Array Slot), Rep g w u H → va_S (fr g) s.heap H locs → lv_has ls nL (lv.map fun q => (q.1, trv g q.2)) → W p l e R s m args below meth c H locs kc ks (MQ below (QQ g Q) args s R.cells R.slots (fr g)) (F0 m pc ls (st.map (trv g)))
theorem lvm_at {g : GT} {lv : List (Nat × Value)} {ls : Array Slot} {nL j i : Nat} {v : Value} (hl : lv_has ls nL (lv.map fun q => (q.1, trv g q.2))) (h : lv[j]? = some (i, v)) : ls[i]? = some (.val (trv g v)) := lv_at hl j (by rw [List.getElem?_map, h]; rfl)
def lst1 (i : Nat) (v : Value) (lv : List (Nat × Value)) : List (Nat × Value) := (i, v) :: lv.filter (fun q => !(q.1 == i) && !(q.1 + 1 == i && q.2.category == 2))
def lst2 (i : Nat) (v : Value) (lv : List (Nat × Value)) : List (Nat × Value) := (i, v) :: lv.filter (fun q => !(q.1 == i) && (!(q.1 == i + 1) && !(q.1 + 1 == i && q.2.category == 2)))
theorem lst1_map (g : GT) (i : Nat) (v : Value) (lv : List (Nat × Value)) : lst1 i (trv g v) (lv.map fun q => (q.1, trv g q.2)) = (lst1 i v lv).map fun q => (q.1, trv g q.2) := by
  unfold lst1
  rw [List.map_cons, List.filter_map]
  congr 2
  apply List.filter_congr
  intro q _
  simp only [Function.comp, trv_cat]
theorem lst2_map (g : GT) (i : Nat) (v : Value) (lv : List (Nat × Value)) : lst2 i (trv g v) (lv.map fun q => (q.1, trv g q.2)) = (lst2 i v lv).map fun q => (q.1, trv g q.2) := by
  unfold lst2
  rw [List.map_cons, List.filter_map]
  congr 2
  apply List.filter_congr
  intro q _
  simp only [Function.comp, trv_cat]
theorem trm_sum (g : GT) (st : List Value) : ((st.map (trv g)).map fun v => v.category).sum = (st.map fun v => v.category).sum := by
  rw [List.map_map]
  congr 1
  apply List.map_congr_left
  intro v _
  exact trv_cat g v
section VPURE
variable {z : ZT} {g : GT} {cc : ByteArray} {nL : Nat} {own : String} {ret : Option FieldType} {D mc ms : Nat} {pc : Nat} {lv lv' : List (Nat × Value)} {st : List Value} {w : LT} {u : MT} {kc ks : Nat} {Q : Option Value → LT → MT → Prop}
theorem Viconst {n : Int} {x : Int32} (C : Cx z g cc nL own ret D mc ms) (d : decode cc pc = .ok (.iconst n, 1)) (hv : Int32.ofInt n = x) (k : V z g nL (pc + 1) lv (.int x :: st) w u kc ks Q) : V z g nL pc lv (st) w u kc ks Q := by
  obtain ⟨p, l, e, R, s, m, args, below, meth, c⟩ := z
  intro H locs ls hR hS hl
  exact lv_iconst C.1 C.2.1 d hv (k H locs ls hR hS hl)
theorem Vbipush {n : Int} {x : Int32} (C : Cx z g cc nL own ret D mc ms) (d : decode cc pc = .ok (.bipush n, 2)) (hv : (Int8.ofInt n).toInt32 = x) (k : V z g nL (pc + 2) lv (.int x :: st) w u kc ks Q) : V z g nL pc lv (st) w u kc ks Q := by
  obtain ⟨p, l, e, R, s, m, args, below, meth, c⟩ := z
  intro H locs ls hR hS hl
  exact lv_bipush C.1 C.2.1 d hv (k H locs ls hR hS hl)
theorem Vsipush {n : Int} {x : Int32} (C : Cx z g cc nL own ret D mc ms) (d : decode cc pc = .ok (.sipush n, 3)) (hv : (Int16.ofInt n).toInt32 = x) (k : V z g nL (pc + 3) lv (.int x :: st) w u kc ks Q) : V z g nL pc lv (st) w u kc ks Q := by
  obtain ⟨p, l, e, R, s, m, args, below, meth, c⟩ := z
  intro H locs ls hR hS hl
  exact lv_sipush C.1 C.2.1 d hv (k H locs ls hR hS hl)
theorem Vlconst {n : Fin 2} {x : Int64} (C : Cx z g cc nL own ret D mc ms) (d : decode cc pc = .ok (.lconst n, 1)) (hv : Int64.ofNat (n : Nat) = x) (k : V z g nL (pc + 1) lv (.long x :: st) w u kc ks Q) : V z g nL pc lv (st) w u kc ks Q := by
  obtain ⟨p, l, e, R, s, m, args, below, meth, c⟩ := z
  intro H locs ls hR hS hl
  exact lv_lconst C.1 C.2.1 d hv (k H locs ls hR hS hl)
theorem Vnull  (C : Cx z g cc nL own ret D mc ms) (d : decode cc pc = .ok (.aconst_null, 1)) (k : V z g nL (pc + 1) lv (.ref 0 :: st) w u kc ks Q) : V z g nL pc lv (st) w u kc ks Q := by
  obtain ⟨p, l, e, R, s, m, args, below, meth, c⟩ := z
  intro H locs ls hR hS hl
  exact lv_null C.1 C.2.1 d (k H locs ls hR hS hl)
theorem Vldc {i : Nat} {x : Int32} (C : Cx z g cc nL own ret D mc ms) (hw : Cond.constant own i x ∈ WT) (d : decode cc pc = .ok (.ldc i, 2)) (k : V z g nL (pc + 2) lv (.int x :: st) w u kc ks Q) : V z g nL pc lv (st) w u kc ks Q := by
  obtain ⟨p, l, e, R, s, m, args, below, meth, c⟩ := z
  intro H locs ls hR hS hl
  exact lv_ldc C.1 C.2.1 C.2.2.2.1 (C.2.2.2.2.1 _ hw) d (k H locs ls hR hS hl)
theorem Vldc2 {i : Nat} {x : Int64} (C : Cx z g cc nL own ret D mc ms) (hw : Cond.constantLong own i x ∈ WT) (d : decode cc pc = .ok (.ldc2_w i, 3)) (k : V z g nL (pc + 3) lv (.long x :: st) w u kc ks Q) : V z g nL pc lv (st) w u kc ks Q := by
  obtain ⟨p, l, e, R, s, m, args, below, meth, c⟩ := z
  intro H locs ls hR hS hl
  exact lv_ldc2 C.1 C.2.1 C.2.2.2.1 (C.2.2.2.2.1 _ hw) d (k H locs ls hR hS hl)
theorem Viload_n {k4 : Fin 4} {i : Nat} {x : Int32} (C : Cx z g cc nL own ret D mc ms) (j : Nat) (d : decode cc pc = .ok (.iload_n k4, 1)) (hi : (k4 : Nat) = i) (h : lv[j]? = some (i, .int x)) (k : V z g nL (pc + 1) lv (.int x :: st) w u kc ks Q) : V z g nL pc lv (st) w u kc ks Q := by
  obtain ⟨p, l, e, R, s, m, args, below, meth, c⟩ := z
  intro H locs ls hR hS hl
  exact lv_iload_n C.1 C.2.1 d hi (lvm_at (v := .int x) hl h) (k H locs ls hR hS hl)
theorem Viload {i : Nat} {x : Int32} (C : Cx z g cc nL own ret D mc ms) (j : Nat) (d : decode cc pc = .ok (.iload i, 2)) (h : lv[j]? = some (i, .int x)) (k : V z g nL (pc + 2) lv (.int x :: st) w u kc ks Q) : V z g nL pc lv (st) w u kc ks Q := by
  obtain ⟨p, l, e, R, s, m, args, below, meth, c⟩ := z
  intro H locs ls hR hS hl
  exact lv_iload C.1 C.2.1 d (lvm_at (v := .int x) hl h) (k H locs ls hR hS hl)
theorem Vlload_n {k4 : Fin 4} {i : Nat} {x : Int64} (C : Cx z g cc nL own ret D mc ms) (j : Nat) (d : decode cc pc = .ok (.lload_n k4, 1)) (hi : (k4 : Nat) = i) (h : lv[j]? = some (i, .long x)) (k : V z g nL (pc + 1) lv (.long x :: st) w u kc ks Q) : V z g nL pc lv (st) w u kc ks Q := by
  obtain ⟨p, l, e, R, s, m, args, below, meth, c⟩ := z
  intro H locs ls hR hS hl
  exact lv_lload_n C.1 C.2.1 d hi (lvm_at (v := .long x) hl h) (k H locs ls hR hS hl)
theorem Vlload {i : Nat} {x : Int64} (C : Cx z g cc nL own ret D mc ms) (j : Nat) (d : decode cc pc = .ok (.lload i, 2)) (h : lv[j]? = some (i, .long x)) (k : V z g nL (pc + 2) lv (.long x :: st) w u kc ks Q) : V z g nL pc lv (st) w u kc ks Q := by
  obtain ⟨p, l, e, R, s, m, args, below, meth, c⟩ := z
  intro H locs ls hR hS hl
  exact lv_lload C.1 C.2.1 d (lvm_at (v := .long x) hl h) (k H locs ls hR hS hl)
theorem Vaload_n {k4 : Fin 4} {i : Nat} {x : Nat} (C : Cx z g cc nL own ret D mc ms) (j : Nat) (d : decode cc pc = .ok (.aload_n k4, 1)) (hi : (k4 : Nat) = i) (h : lv[j]? = some (i, .ref x)) (k : V z g nL (pc + 1) lv (.ref x :: st) w u kc ks Q) : V z g nL pc lv st w u kc ks Q := by
  obtain ⟨p, l, e, R, s, m, args, below, meth, c⟩ := z
  intro H locs ls hR hS hl
  have h1 := lvm_at hl h
  have h2 := k H locs ls hR hS hl
  by_cases hx : x = 0
  · subst hx
    exact lv_aload_nN C.1 C.2.1 d hi h1 h2
  · simp only [trv, tr, hx, if_false, List.map_cons] at h1 h2
    exact lv_aload_n C.1 C.2.1 d hi h1 h2
theorem Vaload {i : Nat} {x : Nat} (C : Cx z g cc nL own ret D mc ms) (j : Nat) (d : decode cc pc = .ok (.aload i, 2)) (h : lv[j]? = some (i, .ref x)) (k : V z g nL (pc + 2) lv (.ref x :: st) w u kc ks Q) : V z g nL pc lv st w u kc ks Q := by
  obtain ⟨p, l, e, R, s, m, args, below, meth, c⟩ := z
  intro H locs ls hR hS hl
  have h1 := lvm_at hl h
  have h2 := k H locs ls hR hS hl
  by_cases hx : x = 0
  · subst hx
    exact lv_aloadN C.1 C.2.1 d h1 h2
  · simp only [trv, tr, hx, if_false, List.map_cons] at h1 h2
    exact lv_aload C.1 C.2.1 d h1 h2
theorem Vistore_n {k4 : Fin 4} {i : Nat} {x : Int32} (C : Cx z g cc nL own ret D mc ms) (d : decode cc pc = .ok (.istore_n k4, 1)) (hi : (k4 : Nat) = i) (hn : i < nL) (h : lst1 i (.int x) lv = lv') (k : V z g nL (pc + 1) lv' st w u kc ks Q) : V z g nL pc lv (.int x :: st) w u kc ks Q := by
  obtain ⟨p, l, e, R, s, m, args, below, meth, c⟩ := z
  intro H locs ls hR hS hl
  subst h
  exact lv_istore_n C.1 C.2.1 d hi hl hn (lst1_map g i (.int x) lv) (fun ls' hl' => k H locs ls' hR hS hl')
theorem Vistore {i : Nat} {x : Int32} (C : Cx z g cc nL own ret D mc ms) (d : decode cc pc = .ok (.istore i, 2)) (hn : i < nL) (h : lst1 i (.int x) lv = lv') (k : V z g nL (pc + 2) lv' st w u kc ks Q) : V z g nL pc lv (.int x :: st) w u kc ks Q := by
  obtain ⟨p, l, e, R, s, m, args, below, meth, c⟩ := z
  intro H locs ls hR hS hl
  subst h
  exact lv_istore C.1 C.2.1 d hl hn (lst1_map g i (.int x) lv) (fun ls' hl' => k H locs ls' hR hS hl')
theorem Vlstore_n {k4 : Fin 4} {i : Nat} {x : Int64} (C : Cx z g cc nL own ret D mc ms) (d : decode cc pc = .ok (.lstore_n k4, 1)) (hi : (k4 : Nat) = i) (hn : i + 1 < nL) (h : lst2 i (.long x) lv = lv') (k : V z g nL (pc + 1) lv' st w u kc ks Q) : V z g nL pc lv (.long x :: st) w u kc ks Q := by
  obtain ⟨p, l, e, R, s, m, args, below, meth, c⟩ := z
  intro H locs ls hR hS hl
  subst h
  exact lv_lstore_n C.1 C.2.1 d hi hl hn (lst2_map g i (.long x) lv) (fun ls' hl' => k H locs ls' hR hS hl')
theorem Vlstore {i : Nat} {x : Int64} (C : Cx z g cc nL own ret D mc ms) (d : decode cc pc = .ok (.lstore i, 2)) (hn : i + 1 < nL) (h : lst2 i (.long x) lv = lv') (k : V z g nL (pc + 2) lv' st w u kc ks Q) : V z g nL pc lv (.long x :: st) w u kc ks Q := by
  obtain ⟨p, l, e, R, s, m, args, below, meth, c⟩ := z
  intro H locs ls hR hS hl
  subst h
  exact lv_lstore C.1 C.2.1 d hl hn (lst2_map g i (.long x) lv) (fun ls' hl' => k H locs ls' hR hS hl')
theorem Vastore_n {k4 : Fin 4} {i : Nat} {x : Nat} (C : Cx z g cc nL own ret D mc ms) (d : decode cc pc = .ok (.astore_n k4, 1)) (hi : (k4 : Nat) = i) (hn : i < nL) (h : lst1 i (.ref x) lv = lv') (k : V z g nL (pc + 1) lv' st w u kc ks Q) : V z g nL pc lv (.ref x :: st) w u kc ks Q := by
  obtain ⟨p, l, e, R, s, m, args, below, meth, c⟩ := z
  intro H locs ls hR hS hl
  subst h
  have h1 := lst1_map g i (.ref x) lv
  by_cases hx : x = 0
  · subst hx
    exact lv_astore_nN C.1 C.2.1 d hi hl hn h1 (fun ls' hl' => k H locs ls' hR hS hl')
  · have h2 : trv g (.ref x) = .ref (adr g x) := by simp [trv, tr, hx]
    rw [h2] at h1
    show W p l e R s m args below meth c H locs kc ks _ (F0 m pc ls (trv g (.ref x) :: st.map (trv g)))
    rw [h2]
    exact lv_astore_n C.1 C.2.1 d hi hl hn h1 (fun ls' hl' => k H locs ls' hR hS hl')
theorem Vastore {i : Nat} {x : Nat} (C : Cx z g cc nL own ret D mc ms) (d : decode cc pc = .ok (.astore i, 2)) (hn : i < nL) (h : lst1 i (.ref x) lv = lv') (k : V z g nL (pc + 2) lv' st w u kc ks Q) : V z g nL pc lv (.ref x :: st) w u kc ks Q := by
  obtain ⟨p, l, e, R, s, m, args, below, meth, c⟩ := z
  intro H locs ls hR hS hl
  subst h
  have h1 := lst1_map g i (.ref x) lv
  by_cases hx : x = 0
  · subst hx
    exact lv_astoreN C.1 C.2.1 d hl hn h1 (fun ls' hl' => k H locs ls' hR hS hl')
  · have h2 : trv g (.ref x) = .ref (adr g x) := by simp [trv, tr, hx]
    rw [h2] at h1
    show W p l e R s m args below meth c H locs kc ks _ (F0 m pc ls (trv g (.ref x) :: st.map (trv g)))
    rw [h2]
    exact lv_astore C.1 C.2.1 d hl hn h1 (fun ls' hl' => k H locs ls' hR hS hl')
theorem Viinc {i j : Nat} {n : Int} {x v : Int32} (C : Cx z g cc nL own ret D mc ms) (d : decode cc pc = .ok (.iinc i n, 3)) (h : lv[j]? = some (i, .int x)) (hv : x + Int32.ofInt n = v) (hn : i < nL) (hl' : lst1 i (.int v) lv = lv') (k : V z g nL (pc + 3) lv' st w u kc ks Q) : V z g nL pc lv st w u kc ks Q := by
  obtain ⟨p, l, e, R, s, m, args, below, meth, c⟩ := z
  intro H locs ls hR hS hl
  subst hl'
  exact lv_iinc C.1 C.2.1 d hl (k := j) (by rw [List.getElem?_map, h]; rfl) hv hn (lst1_map g i (.int v) lv) (fun ls' hl' => k H locs ls' hR hS hl')
theorem Viadd {x y : Int32} (C : Cx z g cc nL own ret D mc ms) (d : decode cc pc = .ok (.iadd, 1)) (k : V z g nL (pc + 1) lv (.int (x + y) :: st) w u kc ks Q) : V z g nL pc lv (.int y :: .int x :: st) w u kc ks Q := by
  obtain ⟨p, l, e, R, s, m, args, below, meth, c⟩ := z
  intro H locs ls hR hS hl
  exact lv_iadd C.1 C.2.1 d (k H locs ls hR hS hl)
theorem Visub {x y : Int32} (C : Cx z g cc nL own ret D mc ms) (d : decode cc pc = .ok (.isub, 1)) (k : V z g nL (pc + 1) lv (.int (x - y) :: st) w u kc ks Q) : V z g nL pc lv (.int y :: .int x :: st) w u kc ks Q := by
  obtain ⟨p, l, e, R, s, m, args, below, meth, c⟩ := z
  intro H locs ls hR hS hl
  exact lv_isub C.1 C.2.1 d (k H locs ls hR hS hl)
theorem Vimul {x y : Int32} (C : Cx z g cc nL own ret D mc ms) (d : decode cc pc = .ok (.imul, 1)) (k : V z g nL (pc + 1) lv (.int (x * y) :: st) w u kc ks Q) : V z g nL pc lv (.int y :: .int x :: st) w u kc ks Q := by
  obtain ⟨p, l, e, R, s, m, args, below, meth, c⟩ := z
  intro H locs ls hR hS hl
  exact lv_imul C.1 C.2.1 d (k H locs ls hR hS hl)
theorem Viand {x y : Int32} (C : Cx z g cc nL own ret D mc ms) (d : decode cc pc = .ok (.iand, 1)) (k : V z g nL (pc + 1) lv (.int (x &&& y) :: st) w u kc ks Q) : V z g nL pc lv (.int y :: .int x :: st) w u kc ks Q := by
  obtain ⟨p, l, e, R, s, m, args, below, meth, c⟩ := z
  intro H locs ls hR hS hl
  exact lv_iand C.1 C.2.1 d (k H locs ls hR hS hl)
theorem Vidiv {x y : Int32} (C : Cx z g cc nL own ret D mc ms) (d : decode cc pc = .ok (.idiv, 1)) (hne : ¬ y = 0) (k : V z g nL (pc + 1) lv (.int (x / y) :: st) w u kc ks Q) : V z g nL pc lv (.int y :: .int x :: st) w u kc ks Q := by
  obtain ⟨p, l, e, R, s, m, args, below, meth, c⟩ := z
  intro H locs ls hR hS hl
  exact lv_idiv C.1 C.2.1 d hne (k H locs ls hR hS hl)
theorem Virem {x y : Int32} (C : Cx z g cc nL own ret D mc ms) (d : decode cc pc = .ok (.irem, 1)) (hne : ¬ y = 0) (k : V z g nL (pc + 1) lv (.int (x - x / y * y) :: st) w u kc ks Q) : V z g nL pc lv (.int y :: .int x :: st) w u kc ks Q := by
  obtain ⟨p, l, e, R, s, m, args, below, meth, c⟩ := z
  intro H locs ls hR hS hl
  exact lv_irem C.1 C.2.1 d hne (k H locs ls hR hS hl)
theorem Vineg {x : Int32} (C : Cx z g cc nL own ret D mc ms) (d : decode cc pc = .ok (.ineg, 1)) (k : V z g nL (pc + 1) lv (.int (-x) :: st) w u kc ks Q) : V z g nL pc lv (.int x :: st) w u kc ks Q := by
  obtain ⟨p, l, e, R, s, m, args, below, meth, c⟩ := z
  intro H locs ls hR hS hl
  exact lv_ineg C.1 C.2.1 d (k H locs ls hR hS hl)
theorem Vladd {x y : Int64} (C : Cx z g cc nL own ret D mc ms) (d : decode cc pc = .ok (.ladd, 1)) (k : V z g nL (pc + 1) lv (.long (x + y) :: st) w u kc ks Q) : V z g nL pc lv (.long y :: .long x :: st) w u kc ks Q := by
  obtain ⟨p, l, e, R, s, m, args, below, meth, c⟩ := z
  intro H locs ls hR hS hl
  exact lv_ladd C.1 C.2.1 d (k H locs ls hR hS hl)
theorem Vlsub {x y : Int64} (C : Cx z g cc nL own ret D mc ms) (d : decode cc pc = .ok (.lsub, 1)) (k : V z g nL (pc + 1) lv (.long (x - y) :: st) w u kc ks Q) : V z g nL pc lv (.long y :: .long x :: st) w u kc ks Q := by
  obtain ⟨p, l, e, R, s, m, args, below, meth, c⟩ := z
  intro H locs ls hR hS hl
  exact lv_lsub C.1 C.2.1 d (k H locs ls hR hS hl)
theorem Vlmul {x y : Int64} (C : Cx z g cc nL own ret D mc ms) (d : decode cc pc = .ok (.lmul, 1)) (k : V z g nL (pc + 1) lv (.long (x * y) :: st) w u kc ks Q) : V z g nL pc lv (.long y :: .long x :: st) w u kc ks Q := by
  obtain ⟨p, l, e, R, s, m, args, below, meth, c⟩ := z
  intro H locs ls hR hS hl
  exact lv_lmul C.1 C.2.1 d (k H locs ls hR hS hl)
theorem Vland {x y : Int64} (C : Cx z g cc nL own ret D mc ms) (d : decode cc pc = .ok (.land, 1)) (k : V z g nL (pc + 1) lv (.long (x &&& y) :: st) w u kc ks Q) : V z g nL pc lv (.long y :: .long x :: st) w u kc ks Q := by
  obtain ⟨p, l, e, R, s, m, args, below, meth, c⟩ := z
  intro H locs ls hR hS hl
  exact lv_land C.1 C.2.1 d (k H locs ls hR hS hl)
theorem Vlor {x y : Int64} (C : Cx z g cc nL own ret D mc ms) (d : decode cc pc = .ok (.lor, 1)) (k : V z g nL (pc + 1) lv (.long (x ||| y) :: st) w u kc ks Q) : V z g nL pc lv (.long y :: .long x :: st) w u kc ks Q := by
  obtain ⟨p, l, e, R, s, m, args, below, meth, c⟩ := z
  intro H locs ls hR hS hl
  exact lv_lor C.1 C.2.1 d (k H locs ls hR hS hl)
theorem Vldiv {x y : Int64} (C : Cx z g cc nL own ret D mc ms) (d : decode cc pc = .ok (.ldiv, 1)) (hne : ¬ y = 0) (k : V z g nL (pc + 1) lv (.long (x / y) :: st) w u kc ks Q) : V z g nL pc lv (.long y :: .long x :: st) w u kc ks Q := by
  obtain ⟨p, l, e, R, s, m, args, below, meth, c⟩ := z
  intro H locs ls hR hS hl
  exact lv_ldiv C.1 C.2.1 d hne (k H locs ls hR hS hl)
theorem Vlshl {x : Int64} {y : Int32} (C : Cx z g cc nL own ret D mc ms) (d : decode cc pc = .ok (.lshl, 1)) (k : V z g nL (pc + 1) lv (.long (x <<< (y.toInt64 &&& 63)) :: st) w u kc ks Q) : V z g nL pc lv (.int y :: .long x :: st) w u kc ks Q := by
  obtain ⟨p, l, e, R, s, m, args, below, meth, c⟩ := z
  intro H locs ls hR hS hl
  exact lv_lshl C.1 C.2.1 d rfl (k H locs ls hR hS hl)
theorem Vlushr {x : Int64} {y : Int32} (C : Cx z g cc nL own ret D mc ms) (d : decode cc pc = .ok (.lushr, 1)) (k : V z g nL (pc + 1) lv (.long (x.toUInt64 >>> (y.toInt64.toUInt64 &&& Int64.toUInt64 63)).toInt64 :: st) w u kc ks Q) : V z g nL pc lv (.int y :: .long x :: st) w u kc ks Q := by
  obtain ⟨p, l, e, R, s, m, args, below, meth, c⟩ := z
  intro H locs ls hR hS hl
  exact lv_lushr C.1 C.2.1 d rfl (k H locs ls hR hS hl)
theorem Vlshr {x : Int64} {y : Int32} (C : Cx z g cc nL own ret D mc ms) (d : decode cc pc = .ok (.lshr, 1)) (k : V z g nL (pc + 1) lv (.long (x >>> (y.toInt64 &&& 63)) :: st) w u kc ks Q) : V z g nL pc lv (.int y :: .long x :: st) w u kc ks Q := by
  obtain ⟨p, l, e, R, s, m, args, below, meth, c⟩ := z
  intro H locs ls hR hS hl
  exact lv_lshr C.1 C.2.1 d rfl (k H locs ls hR hS hl)
theorem Vi2l {x : Int32} (C : Cx z g cc nL own ret D mc ms) (d : decode cc pc = .ok (.i2l, 1)) (k : V z g nL (pc + 1) lv (.long x.toInt64 :: st) w u kc ks Q) : V z g nL pc lv (.int x :: st) w u kc ks Q := by
  obtain ⟨p, l, e, R, s, m, args, below, meth, c⟩ := z
  intro H locs ls hR hS hl
  exact lv_i2l C.1 C.2.1 d rfl (k H locs ls hR hS hl)
theorem Vl2i {x : Int64} (C : Cx z g cc nL own ret D mc ms) (d : decode cc pc = .ok (.l2i, 1)) (k : V z g nL (pc + 1) lv (.int x.toInt32 :: st) w u kc ks Q) : V z g nL pc lv (.long x :: st) w u kc ks Q := by
  obtain ⟨p, l, e, R, s, m, args, below, meth, c⟩ := z
  intro H locs ls hR hS hl
  exact lv_l2i C.1 C.2.1 d rfl (k H locs ls hR hS hl)
theorem Vi2c {x : Int32} (C : Cx z g cc nL own ret D mc ms) (d : decode cc pc = .ok (.i2c, 1)) (k : V z g nL (pc + 1) lv (.int (x.toUInt32 % 65536).toInt32 :: st) w u kc ks Q) : V z g nL pc lv (.int x :: st) w u kc ks Q := by
  obtain ⟨p, l, e, R, s, m, args, below, meth, c⟩ := z
  intro H locs ls hR hS hl
  exact lv_i2c C.1 C.2.1 d rfl (k H locs ls hR hS hl)
theorem Vlcmp {x y : Int64} (C : Cx z g cc nL own ret D mc ms) (d : decode cc pc = .ok (.lcmp, 1)) (k : V z g nL (pc + 1) lv (.int (lg_cmp x y) :: st) w u kc ks Q) : V z g nL pc lv (.long y :: .long x :: st) w u kc ks Q := by
  obtain ⟨p, l, e, R, s, m, args, below, meth, c⟩ := z
  intro H locs ls hR hS hl
  exact W.lcmp C.1 C.2.1 d (k H locs ls hR hS hl)
theorem Vdup {a : Value} (C : Cx z g cc nL own ret D mc ms) (d : decode cc pc = .ok (.dup, 1)) (ha : a.category = 1) (k : V z g nL (pc + 1) lv (a :: a :: st) w u kc ks Q) : V z g nL pc lv (a :: st) w u kc ks Q := by
  obtain ⟨p, l, e, R, s, m, args, below, meth, c⟩ := z
  intro H locs ls hR hS hl
  exact lv_dup C.1 C.2.1 d ((trv_cat g a).trans ha) (k H locs ls hR hS hl)
theorem Vpop {a : Value} (C : Cx z g cc nL own ret D mc ms) (d : decode cc pc = .ok (.pop, 1)) (ha : a.category = 1) (k : V z g nL (pc + 1) lv (st) w u kc ks Q) : V z g nL pc lv (a :: st) w u kc ks Q := by
  obtain ⟨p, l, e, R, s, m, args, below, meth, c⟩ := z
  intro H locs ls hR hS hl
  exact lv_pop C.1 C.2.1 d ((trv_cat g a).trans ha) (k H locs ls hR hS hl)
theorem Vdup2 {a b : Value} (C : Cx z g cc nL own ret D mc ms) (d : decode cc pc = .ok (.dup2, 1)) (ha : a.category = 1) (hb : b.category = 1) (k : V z g nL (pc + 1) lv (a :: b :: a :: b :: st) w u kc ks Q) : V z g nL pc lv (a :: b :: st) w u kc ks Q := by
  obtain ⟨p, l, e, R, s, m, args, below, meth, c⟩ := z
  intro H locs ls hR hS hl
  exact lv_dup2_11 C.1 C.2.1 d ((trv_cat g a).trans ha) ((trv_cat g b).trans hb) (k H locs ls hR hS hl)
theorem Vdup2L {a : Value} (C : Cx z g cc nL own ret D mc ms) (d : decode cc pc = .ok (.dup2, 1)) (ha : a.category = 2) (k : V z g nL (pc + 1) lv (a :: a :: st) w u kc ks Q) : V z g nL pc lv (a :: st) w u kc ks Q := by
  obtain ⟨p, l, e, R, s, m, args, below, meth, c⟩ := z
  intro H locs ls hR hS hl
  exact lv_dup2_2 C.1 C.2.1 d ((trv_cat g a).trans ha) (k H locs ls hR hS hl)
theorem Vif_eq {x : Int32} {off : Int} {tgt : Nat} (C : Cx z g cc nL own ret D mc ms) (d : decode cc pc = .ok (.ifCond .eq off, 3)) (ht : (pc : Int) + off = (tgt : Int)) (kt : x = 0 → V z g nL tgt lv st w u kc ks Q) (kf : ¬ x = 0 → V z g nL (pc + 3) lv st w u kc ks Q) : V z g nL pc lv (.int x :: st) w u kc ks Q := by
  obtain ⟨p, l, e, R, s, m, args, below, meth, c⟩ := z
  intro H locs ls hR hS hl
  exact lv_if_eq C.1 C.2.1 d ht (fun q => kt q H locs ls hR hS hl) (fun q => kf q H locs ls hR hS hl)
theorem Vicmp_eq {x y : Int32} {off : Int} {tgt : Nat} (C : Cx z g cc nL own ret D mc ms) (d : decode cc pc = .ok (.if_icmp .eq off, 3)) (ht : (pc : Int) + off = (tgt : Int)) (kt : x = y → V z g nL tgt lv st w u kc ks Q) (kf : ¬ x = y → V z g nL (pc + 3) lv st w u kc ks Q) : V z g nL pc lv (.int y :: .int x :: st) w u kc ks Q := by
  obtain ⟨p, l, e, R, s, m, args, below, meth, c⟩ := z
  intro H locs ls hR hS hl
  exact lv_icmp_eq C.1 C.2.1 d ht (fun q => kt q H locs ls hR hS hl) (fun q => kf q H locs ls hR hS hl)
theorem Vif_ne {x : Int32} {off : Int} {tgt : Nat} (C : Cx z g cc nL own ret D mc ms) (d : decode cc pc = .ok (.ifCond .ne off, 3)) (ht : (pc : Int) + off = (tgt : Int)) (kt : ¬ x = 0 → V z g nL tgt lv st w u kc ks Q) (kf : x = 0 → V z g nL (pc + 3) lv st w u kc ks Q) : V z g nL pc lv (.int x :: st) w u kc ks Q := by
  obtain ⟨p, l, e, R, s, m, args, below, meth, c⟩ := z
  intro H locs ls hR hS hl
  exact lv_if_ne C.1 C.2.1 d ht (fun q => kt q H locs ls hR hS hl) (fun q => kf q H locs ls hR hS hl)
theorem Vicmp_ne {x y : Int32} {off : Int} {tgt : Nat} (C : Cx z g cc nL own ret D mc ms) (d : decode cc pc = .ok (.if_icmp .ne off, 3)) (ht : (pc : Int) + off = (tgt : Int)) (kt : ¬ x = y → V z g nL tgt lv st w u kc ks Q) (kf : x = y → V z g nL (pc + 3) lv st w u kc ks Q) : V z g nL pc lv (.int y :: .int x :: st) w u kc ks Q := by
  obtain ⟨p, l, e, R, s, m, args, below, meth, c⟩ := z
  intro H locs ls hR hS hl
  exact lv_icmp_ne C.1 C.2.1 d ht (fun q => kt q H locs ls hR hS hl) (fun q => kf q H locs ls hR hS hl)
theorem Vif_lt {x : Int32} {off : Int} {tgt : Nat} (C : Cx z g cc nL own ret D mc ms) (d : decode cc pc = .ok (.ifCond .lt off, 3)) (ht : (pc : Int) + off = (tgt : Int)) (kt : x < 0 → V z g nL tgt lv st w u kc ks Q) (kf : ¬ x < 0 → V z g nL (pc + 3) lv st w u kc ks Q) : V z g nL pc lv (.int x :: st) w u kc ks Q := by
  obtain ⟨p, l, e, R, s, m, args, below, meth, c⟩ := z
  intro H locs ls hR hS hl
  exact lv_if_lt C.1 C.2.1 d ht (fun q => kt q H locs ls hR hS hl) (fun q => kf q H locs ls hR hS hl)
theorem Vicmp_lt {x y : Int32} {off : Int} {tgt : Nat} (C : Cx z g cc nL own ret D mc ms) (d : decode cc pc = .ok (.if_icmp .lt off, 3)) (ht : (pc : Int) + off = (tgt : Int)) (kt : x < y → V z g nL tgt lv st w u kc ks Q) (kf : ¬ x < y → V z g nL (pc + 3) lv st w u kc ks Q) : V z g nL pc lv (.int y :: .int x :: st) w u kc ks Q := by
  obtain ⟨p, l, e, R, s, m, args, below, meth, c⟩ := z
  intro H locs ls hR hS hl
  exact lv_icmp_lt C.1 C.2.1 d ht (fun q => kt q H locs ls hR hS hl) (fun q => kf q H locs ls hR hS hl)
theorem Vif_ge {x : Int32} {off : Int} {tgt : Nat} (C : Cx z g cc nL own ret D mc ms) (d : decode cc pc = .ok (.ifCond .ge off, 3)) (ht : (pc : Int) + off = (tgt : Int)) (kt : 0 ≤ x → V z g nL tgt lv st w u kc ks Q) (kf : ¬ 0 ≤ x → V z g nL (pc + 3) lv st w u kc ks Q) : V z g nL pc lv (.int x :: st) w u kc ks Q := by
  obtain ⟨p, l, e, R, s, m, args, below, meth, c⟩ := z
  intro H locs ls hR hS hl
  exact lv_if_ge C.1 C.2.1 d ht (fun q => kt q H locs ls hR hS hl) (fun q => kf q H locs ls hR hS hl)
theorem Vicmp_ge {x y : Int32} {off : Int} {tgt : Nat} (C : Cx z g cc nL own ret D mc ms) (d : decode cc pc = .ok (.if_icmp .ge off, 3)) (ht : (pc : Int) + off = (tgt : Int)) (kt : y ≤ x → V z g nL tgt lv st w u kc ks Q) (kf : ¬ y ≤ x → V z g nL (pc + 3) lv st w u kc ks Q) : V z g nL pc lv (.int y :: .int x :: st) w u kc ks Q := by
  obtain ⟨p, l, e, R, s, m, args, below, meth, c⟩ := z
  intro H locs ls hR hS hl
  exact lv_icmp_ge C.1 C.2.1 d ht (fun q => kt q H locs ls hR hS hl) (fun q => kf q H locs ls hR hS hl)
theorem Vif_gt {x : Int32} {off : Int} {tgt : Nat} (C : Cx z g cc nL own ret D mc ms) (d : decode cc pc = .ok (.ifCond .gt off, 3)) (ht : (pc : Int) + off = (tgt : Int)) (kt : 0 < x → V z g nL tgt lv st w u kc ks Q) (kf : ¬ 0 < x → V z g nL (pc + 3) lv st w u kc ks Q) : V z g nL pc lv (.int x :: st) w u kc ks Q := by
  obtain ⟨p, l, e, R, s, m, args, below, meth, c⟩ := z
  intro H locs ls hR hS hl
  exact lv_if_gt C.1 C.2.1 d ht (fun q => kt q H locs ls hR hS hl) (fun q => kf q H locs ls hR hS hl)
theorem Vicmp_gt {x y : Int32} {off : Int} {tgt : Nat} (C : Cx z g cc nL own ret D mc ms) (d : decode cc pc = .ok (.if_icmp .gt off, 3)) (ht : (pc : Int) + off = (tgt : Int)) (kt : y < x → V z g nL tgt lv st w u kc ks Q) (kf : ¬ y < x → V z g nL (pc + 3) lv st w u kc ks Q) : V z g nL pc lv (.int y :: .int x :: st) w u kc ks Q := by
  obtain ⟨p, l, e, R, s, m, args, below, meth, c⟩ := z
  intro H locs ls hR hS hl
  exact lv_icmp_gt C.1 C.2.1 d ht (fun q => kt q H locs ls hR hS hl) (fun q => kf q H locs ls hR hS hl)
theorem Vif_le {x : Int32} {off : Int} {tgt : Nat} (C : Cx z g cc nL own ret D mc ms) (d : decode cc pc = .ok (.ifCond .le off, 3)) (ht : (pc : Int) + off = (tgt : Int)) (kt : x ≤ 0 → V z g nL tgt lv st w u kc ks Q) (kf : ¬ x ≤ 0 → V z g nL (pc + 3) lv st w u kc ks Q) : V z g nL pc lv (.int x :: st) w u kc ks Q := by
  obtain ⟨p, l, e, R, s, m, args, below, meth, c⟩ := z
  intro H locs ls hR hS hl
  exact lv_if_le C.1 C.2.1 d ht (fun q => kt q H locs ls hR hS hl) (fun q => kf q H locs ls hR hS hl)
theorem Vicmp_le {x y : Int32} {off : Int} {tgt : Nat} (C : Cx z g cc nL own ret D mc ms) (d : decode cc pc = .ok (.if_icmp .le off, 3)) (ht : (pc : Int) + off = (tgt : Int)) (kt : x ≤ y → V z g nL tgt lv st w u kc ks Q) (kf : ¬ x ≤ y → V z g nL (pc + 3) lv st w u kc ks Q) : V z g nL pc lv (.int y :: .int x :: st) w u kc ks Q := by
  obtain ⟨p, l, e, R, s, m, args, below, meth, c⟩ := z
  intro H locs ls hR hS hl
  exact lv_icmp_le C.1 C.2.1 d ht (fun q => kt q H locs ls hR hS hl) (fun q => kf q H locs ls hR hS hl)
theorem Vgoto {off : Int} {tgt : Nat} (C : Cx z g cc nL own ret D mc ms) (d : decode cc pc = .ok (.goto off, 3)) (ht : (pc : Int) + off = (tgt : Int)) (k : V z g nL tgt lv st w u kc ks Q) : V z g nL pc lv st w u kc ks Q := by
  obtain ⟨p, l, e, R, s, m, args, below, meth, c⟩ := z
  intro H locs ls hR hS hl
  exact lv_goto C.1 C.2.1 d ht (k H locs ls hR hS hl)
theorem Vifnull {x : Nat} {off : Int} {tgt : Nat} (C : Cx z g cc nL own ret D mc ms) (d : decode cc pc = .ok (.ifnull off, 3)) (ht : (pc : Int) + off = (tgt : Int)) (kt : x = 0 → V z g nL tgt lv st w u kc ks Q) (kf : ¬ x = 0 → V z g nL (pc + 3) lv st w u kc ks Q) : V z g nL pc lv (.ref x :: st) w u kc ks Q := by
  obtain ⟨p, l, e, R, s, m, args, below, meth, c⟩ := z
  intro H locs ls hR hS hl
  by_cases hx : x = 0
  · subst hx
    exact lv_ifnullN C.1 C.2.1 d ht (kt rfl H locs ls hR hS hl)
  · show W p l e R s m args below meth c H locs kc ks _ (F0 m pc ls (trv g (.ref x) :: st.map (trv g)))
    rw [show trv g (.ref x) = .ref (adr g x) by simp [trv, tr, hx]]
    exact lv_ifnull C.1 C.2.1 d (kf hx H locs ls hR hS hl)
theorem Vifnonnull {x : Nat} {off : Int} {tgt : Nat} (C : Cx z g cc nL own ret D mc ms) (d : decode cc pc = .ok (.ifnonnull off, 3)) (ht : (pc : Int) + off = (tgt : Int)) (kt : ¬ x = 0 → V z g nL tgt lv st w u kc ks Q) (kf : x = 0 → V z g nL (pc + 3) lv st w u kc ks Q) : V z g nL pc lv (.ref x :: st) w u kc ks Q := by
  obtain ⟨p, l, e, R, s, m, args, below, meth, c⟩ := z
  intro H locs ls hR hS hl
  by_cases hx : x = 0
  · subst hx
    exact lv_ifnonnullN C.1 C.2.1 d (kf rfl H locs ls hR hS hl)
  · show W p l e R s m args below meth c H locs kc ks _ (F0 m pc ls (trv g (.ref x) :: st.map (trv g)))
    rw [show trv g (.ref x) = .ref (adr g x) by simp [trv, tr, hx]]
    exact lv_ifnonnull C.1 C.2.1 d ht (kt hx H locs ls hR hS hl)
/-- two tokens, or null, are one if their numbers are -/
theorem tok_inj {g : GT} {U : State} (h : Stk g U) {x y : Nat} (hx : x ≤ 34) (hy : y ≤ 34) : (if x = 0 then none else some (adr g x)) = (if y = 0 then none else some (adr g y)) ↔ x = y := by
  constructor
  · intro e
    by_cases h1 : x = 0
    · by_cases h2 : y = 0
      · omega
      · simp [h1, h2] at e
    · by_cases h2 : y = 0
      · simp [h1, h2] at e
      · simp only [h1, h2, if_false, Option.some.injEq, adr, hx, hy, if_true] at e
        have := h.2 (x - 1) (y - 1) (by show x - 1 < 34; omega) (by show y - 1 < 34; omega) e
        omega
  · intro e
    rw [e]
theorem tr_rf (g : GT) (x : Nat) : trv g (.ref x) = va_rf (if x = 0 then none else some (adr g x)) := by
  simp only [trv, tr]
  by_cases h : x = 0 <;> simp [h, va_rf]
theorem Vacmp_eq {x y : Nat} {off : Int} {tgt : Nat} (C : Cx z g cc nL own ret D mc ms) (d : decode cc pc = .ok (.if_acmp .eq off, 3)) (ht : (pc : Int) + off = (tgt : Int)) (hx : x ≤ 34) (hy : y ≤ 34) (kt : x = y → V z g nL tgt lv st w u kc ks Q) (kf : ¬ x = y → V z g nL (pc + 3) lv st w u kc ks Q) : V z g nL pc lv (.ref y :: .ref x :: st) w u kc ks Q := by
  obtain ⟨p, l, e, R, s, m, args, below, meth, c⟩ := z
  intro H locs ls hR hS hl
  have hi := tok_inj C.2.2.2.2.2.2.2.1.2.1 hx hy
  show W p l e R s m args below meth c H locs kc ks _ (F0 m pc ls (trv g (.ref y) :: trv g (.ref x) :: st.map (trv g)))
  rw [tr_rf, tr_rf]
  exact lv_acmp_eq C.1 C.2.1 d ht (fun q => kt (hi.mp q) H locs ls hR hS hl) (fun q => kf (fun r => q (hi.mpr r)) H locs ls hR hS hl)
theorem Vacmp_ne {x y : Nat} {off : Int} {tgt : Nat} (C : Cx z g cc nL own ret D mc ms) (d : decode cc pc = .ok (.if_acmp .ne off, 3)) (ht : (pc : Int) + off = (tgt : Int)) (hx : x ≤ 34) (hy : y ≤ 34) (kt : ¬ x = y → V z g nL tgt lv st w u kc ks Q) (kf : x = y → V z g nL (pc + 3) lv st w u kc ks Q) : V z g nL pc lv (.ref y :: .ref x :: st) w u kc ks Q := by
  obtain ⟨p, l, e, R, s, m, args, below, meth, c⟩ := z
  intro H locs ls hR hS hl
  have hi := tok_inj C.2.2.2.2.2.2.2.1.2.1 hx hy
  show W p l e R s m args below meth c H locs kc ks _ (F0 m pc ls (trv g (.ref y) :: trv g (.ref x) :: st.map (trv g)))
  rw [tr_rf, tr_rf]
  exact lv_acmp_ne C.1 C.2.1 d ht (fun q => kt (fun r => q (hi.mpr r)) H locs ls hR hS hl) (fun q => kf (hi.mp q) H locs ls hR hS hl)
theorem VtableIn {dflt lo hi : Int} {offs : Array Int} {len : Nat} {x : Int32} {off : Int} {tgt : Nat} (C : Cx z g cc nL own ret D mc ms) (d : decode cc pc = .ok (.tableswitch dflt lo hi offs, len)) (h1 : ¬ x.toInt < lo) (h2 : ¬ hi < x.toInt) (ho : offs[(x.toInt - lo).toNat]? = some off) (ht : (pc : Int) + off = (tgt : Int)) (k : V z g nL tgt lv st w u kc ks Q) : V z g nL pc lv (.int x :: st) w u kc ks Q := by
  obtain ⟨p, l, e, R, s, m, args, below, meth, c⟩ := z
  intro H locs ls hR hS hl
  exact lv_tableIn C.1 C.2.1 d h1 h2 ho ht (k H locs ls hR hS hl)
theorem VtableOut {dflt lo hi : Int} {offs : Array Int} {len : Nat} {x : Int32} {tgt : Nat} (C : Cx z g cc nL own ret D mc ms) (d : decode cc pc = .ok (.tableswitch dflt lo hi offs, len)) (h : x.toInt < lo ∨ hi < x.toInt) (ht : (pc : Int) + dflt = (tgt : Int)) (k : V z g nL tgt lv st w u kc ks Q) : V z g nL pc lv (.int x :: st) w u kc ks Q := by
  obtain ⟨p, l, e, R, s, m, args, below, meth, c⟩ := z
  intro H locs ls hR hS hl
  exact lv_tableOut C.1 C.2.1 d h ht (k H locs ls hR hS hl)
end VPURE
