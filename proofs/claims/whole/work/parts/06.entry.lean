/-! ===== STATIC CALLS, CONSTRUCTORS, Math, A METHOD'S CONTRACT OUT OF ITS BODY ===== -/
theorem lv_args_map (g : GT) : ∀ (as : List Value) (i : Nat), lv_args i (as.map (trv g)) = (lv_args i as).map fun q => (q.1, trv g q.2)
  | [], _ => rfl
  | v :: as, i => by
    show (i, trv g v) :: lv_args (if (trv g v).category = 2 then i + 2 else i + 1) (as.map (trv g)) = (i, trv g v) :: (lv_args (if v.category = 2 then i + 2 else i + 1) as).map _
    rw [trv_cat, lv_args_map g as]
theorem lg_sl_map (g : GT) (as : List Value) : (lg_sl (as.map (trv g))).length = (lg_sl as).length := by
  induction as with
  | nil => rfl
  | cons v as ih =>
    have h1 : ∀ (x : Value) (xs : List Value), (lg_sl (x :: xs)).length = (if x.category = 2 then 2 else 1) + (lg_sl xs).length := by
      intro x xs
      simp only [lg_sl, List.flatMap_cons, List.length_append]
      split <;> rfl
    rw [List.map_cons, h1, h1, trv_cat, ih]
theorem Mt_of {g : GT} {y : MethodName} {mb : ByteArray} {ml : Nat} {mr : Option FieldType} {D mc ms : Nat} {as : List Value} {w : LT} {u : MT} {Q : Option Value → LT → MT → Prop} {own : String} (hy : plainName y.cls = true) (hown : y.cls = own) (hlen : (lg_sl as).length ≤ ml)
    (body : ∀ z : ZT, Cx z g mb ml own mr D mc ms → (y.name = "<init>" → Cn z) → V z g ml 0 (lv_args 0 as) [] w u 0 0 Q) : Mt g y mb ml mr D mc ms as w u Q := by
  intro l
  refine Met.ofW (cc := mb) (maxL := ml) (ret := mr) hy rfl ?_
  intro p e s m args below meth c s₁ B hml hv
  obtain ⟨rfl, hst, hR⟩ := hv
  have hts := atoms_spec (ws := .code y mb ml mr :: WT) B.pre
  have ho : s.vm.findClass own = some m.cls := by rw [← hown]; exact findClass_of_methodNamed B.named
  have hl := lv_entry (as.map (trv g)) (n := ml) (by rw [lg_sl_map]; exact hlen)
  rw [lg_entry_eq]
  rw [lv_args_map] at hl
  exact body (p, l, e, rmD D mc ms, s, m, _, below, meth, c) ⟨B.exec, B.bytes, hml, ho, fun w hw => hts w (List.mem_cons_of_mem _ hw), B.returns, B.notSynchronized, hst, rfl⟩ (fun h => (name_of_methodNamed B.named B.method).1.trans h) s.heap [] _ hR va_S.rf hl
section VCALL2
variable {z : ZT} {g : GT} {cc : ByteArray} {nL : Nat} {own : String} {ret : Option FieldType} {D mc ms : Nat} {pc : Nat} {lv lv' : List (Nat × Value)} {st : List Value} {w w' : LT} {u u' : MT} {kc ks : Nat} {Q : Option Value → LT → MT → Prop}
theorem VcallS {idx n c2 s2 dp ml : Nat} {y : MethodName} {mb : ByteArray} {mr : Option FieldType} {as rest : List Value} {Qa : Option Value → LT → MT → Prop} (C : Cx z g cc nL own ret D mc ms) (d : decode cc pc = .ok (.invokestatic idx, 3)) (hM : Mt g y mb ml mr dp c2 s2 as w u Qa) (hy : YB own idx y mb ml mr n) (hsta : Cond.static y ∈ WT) (hst : st = as.reverse ++ rest) (hn : as.length = n) (hrm : (rest.map fun v => v.category).sum ≤ 8) (hml : ml ≤ 45) (hdp : dp + 1 ≤ D) (hc : kc + c2 ≤ mc) (hs : ks + s2 ≤ ms)
    (kk : ∀ v w1 u1, Qa v w1 u1 → V z g nL (pc + 3) lv (v.toList ++ rest) w1 u1 (kc + c2) (ks + s2) Q) : V z g nL pc lv st w u kc ks Q := by
  obtain ⟨p, l, e, R, s, m, args, below, meth, c⟩ := z
  intro H locs ls hR hS hl
  obtain ⟨hx, hb, hmL, hown, hts, -, -, hsc, hRm⟩ := C
  obtain ⟨hlk, hcd, hin, hd1, hd2, hd3⟩ := hy
  subst hst
  have hstk : (as.reverse ++ rest).map (trv g) = (as.map (trv g)).reverse ++ rest.map (trv g) := map_rev g as rest
  have hpre : PreS s H (va_Pc (as.map (trv g)) (fun U => Stc g U ∧ Rep g w u U.heap)) (as.map (trv g)) :=
    ⟨Pc_blind g _ w u, fun U hU hW => ⟨rfl, hsc.now hS hU hW, by rw [hU]; exact hR⟩⟩
  have hR1 : (rmD dp c2 s2).frames + 1 ≤ R.frames ∧ 8 + (ml + 11) + (rmD dp c2 s2).locals ≤ R.locals := by
    rw [hRm]
    show dp + 1 ≤ D ∧ 8 + (ml + 11) + 64 * dp ≤ 64 * D
    omega
  have hlen : (as.map (trv g)).length = n := by rw [List.length_map]; exact hn
  have hfit : kc + c2 ≤ R.cells ∧ ks + s2 ≤ R.slots := by rw [hRm]; exact ⟨hc, hs⟩
  rw [hstk]
  have fin : ∀ (v : Option Value) (w1 : LT) (u1 : MT) (H1 : Heap) (locs1 : List Loc), Qa v w1 u1 → Rep g w1 u1 H1 → va_S (fr g) s.heap H1 locs1 → W p l e R s m args below meth c H1 locs1 (kc + c2) (ks + s2) (MQ below (QQ g Q) args s R.cells R.slots (fr g)) (F0 m (pc + 3) ls ((v.map (trv g)).toList ++ rest.map (trv g))) := by
    intro v w1 u1 H1 locs1 q1 q2 q3
    have h9 := kk v w1 u1 q1 H1 locs1 ls q2 q3 hl
    cases v <;> exact h9
  rcases hlk with h | ⟨host, h⟩
  · exact Vrun_go (va_runS ⟨hx, hb, hmL, hown, hts⟩ (hM l) ⟨callB_of n hts (good_cons hcd) rfl rfl rfl (hts _ hin) (hts _ h) ⟨hd1, hd2, hd3⟩ hR1, hts _ hsta⟩ hpre rfl hlen hl.1 rfl (lv_roomT hrm) d hfit) hS fin
  · exact Vrun_go (va_runSN ⟨hx, hb, hmL, hown, hts⟩ (hM l) ⟨va_cnB n hts (good_cons hcd) rfl rfl rfl (hsc.2.2.2.2.1 _ h) (hts _ hin) ⟨hd1, hd2, hd3⟩ hR1, hts _ hsta, trivial⟩ hpre rfl hlen hl.1 rfl (lv_roomT hrm) d hfit) hS fin
theorem VcallI {idx t n a c2 s2 dp ml : Nat} {y : MethodName} {mb : ByteArray} {as rest : List Value} {Qa : Option Value → LT → MT → Prop} (C : Cx z g cc nL own ret D mc ms) (d : decode cc pc = .ok (.invokespecial idx, 3)) (hM : Mt g y mb ml none dp c2 s2 (.ref a :: as) w u Qa) (hy : YB own idx y mb ml none n) (hi1 : Cond.instanceMethod y ∈ WT) (hin1 : y.name = "<init>") (hta : lt_t w a = t) (ht13 : t < 13) (hst : st = as.reverse ++ .ref a :: rest) (hn : as.length = n) (hrm : (rest.map fun v => v.category).sum ≤ 8) (hml : ml ≤ 45) (hdp : dp + 1 ≤ D) (hc : kc + c2 ≤ mc) (hs : ks + s2 ≤ ms)
    (kk : ∀ v w1 u1, Qa v w1 u1 → V z g nL (pc + 3) lv (v.toList ++ rest) w1 u1 (kc + c2) (ks + s2) Q) : V z g nL pc lv st w u kc ks Q := by
  obtain ⟨p, l, e, R, s, m, args, below, meth, c⟩ := z
  intro H locs ls hR hS hl
  obtain ⟨hx, hb, hmL, hown, hts, -, -, hsc, hRm⟩ := C
  obtain ⟨hlk, hcd, hin, hd1, hd2, hd3⟩ := hy
  have hva := hR.val (a := a) (by omega)
  subst hst
  have hstk : (as.reverse ++ .ref a :: rest).map (trv g) = (as.map (trv g)).reverse ++ .ref (adr g a) :: rest.map (trv g) := by
    rw [map_rev, List.map_cons, hva]
  have hpre : PreS s H (va_Pc ((Value.ref a :: as).map (trv g)) (fun U => Stc g U ∧ Rep g w u U.heap)) (.ref (adr g a) :: as.map (trv g)) :=
    ⟨Pc_blind g _ w u, fun U hU hW => ⟨by rw [List.map_cons, hva], hsc.now hS hU hW, by rw [hU]; exact hR⟩⟩
  have hR1 : (rmD dp c2 s2).frames + 1 ≤ R.frames ∧ 8 + (ml + 11) + (rmD dp c2 s2).locals ≤ R.locals := by
    rw [hRm]
    show dp + 1 ≤ D ∧ 8 + (ml + 11) + 64 * dp ≤ 64 * D
    omega
  have hlen : (as.map (trv g)).length = n := by rw [List.length_map]; exact hn
  have hfit : kc + c2 ≤ R.cells ∧ ks + s2 ≤ R.slots := by rw [hRm]; exact ⟨hc, hs⟩
  rw [hstk]
  have fin : ∀ (v : Option Value) (w1 : LT) (u1 : MT) (H1 : Heap) (locs1 : List Loc), Qa v w1 u1 → Rep g w1 u1 H1 → va_S (fr g) s.heap H1 locs1 → W p l e R s m args below meth c H1 locs1 (kc + c2) (ks + s2) (MQ below (QQ g Q) args s R.cells R.slots (fr g)) (F0 m (pc + 3) ls ((v.map (trv g)).toList ++ rest.map (trv g))) := by
    intro v w1 u1 H1 locs1 q1 q2 q3
    have h9 := kk v w1 u1 q1 H1 locs1 ls q2 q3 hl
    cases v <;> exact h9
  rcases hlk with h | ⟨host, h⟩
  · exact Vrun_go (va_runI ⟨hx, hb, hmL, hown, hts⟩ (hM l) ⟨callB_of n hts (good_cons hcd) rfl rfl rfl (hts _ hin) (hts _ h) ⟨hd1, hd2, hd3⟩ hR1, hin1, hts _ hi1⟩ hpre rfl hlen hl.1 rfl (lv_roomT hrm) d hfit) hS fin
  · exact Vrun_go (va_runIN ⟨hx, hb, hmL, hown, hts⟩ (hM l) ⟨va_cnB n hts (good_cons hcd) rfl rfl rfl (hsc.2.2.2.2.1 _ h) (hts _ hin) ⟨hd1, hd2, hd3⟩ hR1, hin1, hts _ hi1⟩ hpre rfl hlen hl.1 rfl (lv_roomT hrm) d hfit) hS fin
/-! calls of methods whose answer is known -/
abbrev Qi (x : Int32) (w : LT) (u : MT) : Option Value → LT → MT → Prop := fun v w1 u1 => v = some (.int x) ∧ w1 = w ∧ u1 = u
abbrev Ql (x : Int64) (w : LT) (u : MT) : Option Value → LT → MT → Prop := fun v w1 u1 => v = some (.long x) ∧ w1 = w ∧ u1 = u
abbrev Qr (x : Nat) (w : LT) (u : MT) : Option Value → LT → MT → Prop := fun v w1 u1 => v = some (.ref x) ∧ w1 = w ∧ u1 = u
abbrev Qv (w : LT) (u : MT) : Option Value → LT → MT → Prop := fun v w1 u1 => v = none ∧ w1 = w ∧ u1 = u
theorem Kint {x : Int32} {w1 : LT} {u1 : MT} {k2 s2 : Nat} {rest : List Value} (k : V z g nL pc lv (.int x :: rest) w1 u1 k2 s2 Q) : ∀ v w2 u2, Qi x w1 u1 v w2 u2 → V z g nL pc lv (v.toList ++ rest) w2 u2 k2 s2 Q := by
  rintro v w2 u2 ⟨rfl, rfl, rfl⟩
  exact k
theorem Klong {x : Int64} {w1 : LT} {u1 : MT} {k2 s2 : Nat} {rest : List Value} (k : V z g nL pc lv (.long x :: rest) w1 u1 k2 s2 Q) : ∀ v w2 u2, Ql x w1 u1 v w2 u2 → V z g nL pc lv (v.toList ++ rest) w2 u2 k2 s2 Q := by
  rintro v w2 u2 ⟨rfl, rfl, rfl⟩
  exact k
theorem Kref {x : Nat} {w1 : LT} {u1 : MT} {k2 s2 : Nat} {rest : List Value} (k : V z g nL pc lv (.ref x :: rest) w1 u1 k2 s2 Q) : ∀ v w2 u2, Qr x w1 u1 v w2 u2 → V z g nL pc lv (v.toList ++ rest) w2 u2 k2 s2 Q := by
  rintro v w2 u2 ⟨rfl, rfl, rfl⟩
  exact k
theorem Kvoid {w1 : LT} {u1 : MT} {k2 s2 : Nat} {rest : List Value} (k : V z g nL pc lv rest w1 u1 k2 s2 Q) : ∀ v w2 u2, Qv w1 u1 v w2 u2 → V z g nL pc lv (v.toList ++ rest) w2 u2 k2 s2 Q := by
  rintro v w2 u2 ⟨rfl, rfl, rfl⟩
  exact k
theorem Vmin {idx : Nat} {x y : Int32} (C : Cx z g cc nL own ret D mc ms) (d : decode cc pc = .ok (.invokestatic idx, 3)) (h1 : Cond.methodLink own idx Lib.Math.min.name ∈ WT) (h2 : Cond.static Lib.Math.min.name ∈ WT) (h3 : Cond.initialized "java/lang/Math" ∈ WT) (h4 : Cond.code Lib.Math.min.name Lib.Math.min.code 2 (some .int) ∈ WT) (hrm : (st.map fun v => v.category).sum ≤ 8) (hD : 1 ≤ D) (hc : kc ≤ mc) (hs : ks ≤ ms) (k : V z g nL (pc + 3) lv (.int (if y < x then y else x) :: st) w u kc ks Q) : V z g nL pc lv (.int y :: .int x :: st) w u kc ks Q := by
  obtain ⟨p, l, e, R, s, m, args, below, meth, c⟩ := z
  intro H locs ls hR hS hl
  obtain ⟨hx, hb, hmL, hown, hts, -, -, hsc, hRm⟩ := C
  refine va_mmin hx hb (by rw [hmL]; exact hl.1.symm) hown (hts _ h1) (hts _ h2) (hts _ h3) (hts _ h4) (by rw [hRm]; exact hD) ?_ (by rw [hRm]; exact hc) (by rw [hRm]; exact hs) d (k H locs ls hR hS hl)
  rw [trm_sum, hRm]
  show _ ≤ 64 * D
  omega
theorem Vmax {idx : Nat} {x y : Int32} (C : Cx z g cc nL own ret D mc ms) (d : decode cc pc = .ok (.invokestatic idx, 3)) (h1 : Cond.methodLink own idx Lib.Math.max.name ∈ WT) (h2 : Cond.static Lib.Math.max.name ∈ WT) (h3 : Cond.initialized "java/lang/Math" ∈ WT) (h4 : Cond.code Lib.Math.max.name Lib.Math.max.code 2 (some .int) ∈ WT) (hrm : (st.map fun v => v.category).sum ≤ 8) (hD : 1 ≤ D) (hc : kc ≤ mc) (hs : ks ≤ ms) (k : V z g nL (pc + 3) lv (.int (if x < y then y else x) :: st) w u kc ks Q) : V z g nL pc lv (.int y :: .int x :: st) w u kc ks Q := by
  obtain ⟨p, l, e, R, s, m, args, below, meth, c⟩ := z
  intro H locs ls hR hS hl
  obtain ⟨hx, hb, hmL, hown, hts, -, -, hsc, hRm⟩ := C
  refine va_mmax hx hb (by rw [hmL]; exact hl.1.symm) hown (hts _ h1) (hts _ h2) (hts _ h3) (hts _ h4) (by rw [hRm]; exact hD) ?_ (by rw [hRm]; exact hc) (by rw [hRm]; exact hs) d (k H locs ls hR hS hl)
  rw [trm_sum, hRm]
  show _ ≤ 64 * D
  omega
theorem VminL {idx : Nat} {x y : Int64} (C : Cx z g cc nL own ret D mc ms) (d : decode cc pc = .ok (.invokestatic idx, 3)) (h1 : Cond.methodLink own idx Lib.MathLoose.min_long.x ∈ WT) (h2 : Cond.static Lib.MathLoose.min_long.x ∈ WT) (h3 : Cond.initialized "java/lang/Math" ∈ WT) (h4 : Cond.code Lib.MathLoose.min_long.x Lib.MathLoose.min_long.code 4 (some .long) ∈ WT) (hrm : (st.map fun v => v.category).sum ≤ 8) (hD : 1 ≤ D) (hc : kc ≤ mc) (hs : ks ≤ ms) (k : V z g nL (pc + 3) lv (.long (if y < x then y else x) :: st) w u kc ks Q) : V z g nL pc lv (.long y :: .long x :: st) w u kc ks Q := by
  obtain ⟨p, l, e, R, s, m, args, below, meth, c⟩ := z
  intro H locs ls hR hS hl
  obtain ⟨hx, hb, hmL, hown, hts, -, -, hsc, hRm⟩ := C
  refine va_mmin_long hx hb (by rw [hmL]; exact hl.1.symm) hown (hts _ h1) (hts _ h2) (hts _ h3) (hts _ h4) (by rw [hRm]; exact hD) ?_ (by rw [hRm]; exact hc) (by rw [hRm]; exact hs) d (k H locs ls hR hS hl)
  rw [trm_sum, hRm]
  show _ ≤ 64 * D
  omega
theorem Vobj {idx a : Nat} (C : Cx z g cc nL own ret D mc ms) (d : decode cc pc = .ok (.invokespecial idx, 3)) (h1 : Cond.methodLink own idx Lib.objectInit ∈ WT) (h2 : Cond.instanceMethod Lib.objectInit ∈ WT) (h3 : Cond.code Lib.objectInit ⟨#[0xb1]⟩ 1 none ∈ WT) (ha : lt_t w a ≠ 99) (hrm : (st.map fun v => v.category).sum ≤ 8) (hD : 1 ≤ D) (k : V z g nL (pc + 3) lv st w u kc ks Q) : V z g nL pc lv (.ref a :: st) w u kc ks Q := by
  obtain ⟨p, l, e, R, s, m, args, below, meth, c⟩ := z
  intro H locs ls hR hS hl
  obtain ⟨hx, hb, hmL, hown, hts, -, -, hsc, hRm⟩ := C
  rw [List.map_cons, hR.val ha]
  refine W.objInit hx hb hown (hts _ h1) (hts _ h2) (hts _ h3) rfl (by rw [hmL]; exact hl.1) rfl d (by rw [hRm]; exact hD) ?_ (k H locs ls hR hS hl)
  have h5 := lv_roomT (g := g) (pc := pc) (m := m) (ls := ls) (st0 := .ref (adr g a) :: st.map (trv g)) hrm
  rw [hRm]
  show _ ≤ 64 * D
  omega
end VCALL2
/-! reading a method's decoded rows -/
theorem dAt {b : ByteArray} {L : List (Nat × Instr × Nat)} (h : ∀ q ∈ L, decode b q.1 = .ok q.2) (i : Nat) {pc : Nat} {r : Instr × Nat} (hi : L[i]? = some (pc, r)) : decode b pc = .ok r := h (pc, r) (List.mem_of_getElem? hi)
/-! checks of the functions -/
theorem ok_if {α : Type} {c : Prop} [Decidable c] {x : Option α} {r : α} (h : (if c then x else none) = some r) : c ∧ x = some r := by
  by_cases hc : c
  · rw [if_pos hc] at h; exact ⟨hc, h⟩
  · rw [if_neg hc] at h; cases h
theorem ok_t {α : Type} {c : Prop} [Decidable c] {x y : Option α} {r : α} (hc : c) (h : (if c then x else y) = some r) : x = some r := by rw [if_pos hc] at h; exact h
theorem ok_f {α : Type} {c : Prop} [Decidable c] {x y : Option α} {r : α} (hc : ¬ c) (h : (if c then x else y) = some r) : y = some r := by rw [if_neg hc] at h; exact h
theorem ok_b {α β : Type} {x : Option α} {f : α → Option β} {r : β} (h : x.bind f = some r) : ∃ a, x = some a ∧ f a = some r := by
  cases x with
  | none => cases h
  | some a => exact ⟨a, rfl, h⟩
