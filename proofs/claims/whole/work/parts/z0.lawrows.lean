/-! ===== the law's own rows, printed by wip/gen/lawrows.py out of the V rows ===== -/
def lw_Q (_ : Array Value) (s : State) (o : Outcome) (t : State) : Prop := o = .returned (some (.int 1)) ∧ Framed s o t [] 601024 7293000
def lw_Z (below : List Frame) (a : Array Value) (s : State) : State → Prop := fun t => ∃ o, t.status = .running ∧ Ended t below o ∧ lw_Q a s o t
def LwC (z : ZT) (g : GT) (b L : Nat) (xs : Nat → Int32) : Prop := match z with
  | (p, l, _, R, s, m, args, _, meth, c) => p.tables.exec = Jvm.exec ∧ c.code = cL_law ∧ c.maxLocals = 7 ∧ s.vm.findClass RL = some m.cls ∧ (∀ w ∈ WT, w.before args s = true) ∧ meth.sig.returnType = ret ∧ meth.locks = false ∧ Stc g s ∧ R = room_1 ∧ Xw s ∧ l.stackTraces = false ∧ va_X b L xs s s.heap ∧ b < s.heap.size ∧ gn g = s.heap.size ∧ args = #[Value.ref b]
def VL (z : ZT) (g : GT) (b : Nat) (pc : Nat) (lv : List (Nat × Value)) (st : List Value) (w : LT) (u : MT) (kc ks : Nat) : Prop := match z with
  | (p, l, e, R, s, m, args, below, meth, c) => ∀ (H : Heap) (locs : List Loc) (ls : Array Slot), Rep g w u H → va_S (fr g) s.heap H locs → lv_has ls 7 (lv.map fun q => (q.1, trv g q.2)) → ls[0]? = some (.val (.ref b)) → W p l e R s m args below meth c H locs kc ks (lw_Z below args s) (F0 m pc ls (st.map (trv g)))
section VLAW
variable {z : ZT} {g : GT} {b L : Nat} {xs : Nat → Int32} {pc : Nat} {lv lv' : List (Nat × Value)} {st : List Value} {w w' : LT} {u u' : MT} {kc ks : Nat}
theorem Liconst {n : Int} {x : Int32} (C : LwC z g b L xs) (d : decode cL_law pc = .ok (.iconst n, 1)) (hv : Int32.ofInt n = x) (k : VL z g b (pc + 1) lv (.int x :: st) w u kc ks) : VL z g b pc lv (st) w u kc ks := by
  obtain ⟨p, l, e, R, s, m, args, below, meth, c⟩ := z
  intro H locs ls hR hS hl h0
  exact lv_iconst C.1 C.2.1 d hv (k H locs ls hR hS hl h0)
theorem Lbipush {n : Int} {x : Int32} (C : LwC z g b L xs) (d : decode cL_law pc = .ok (.bipush n, 2)) (hv : (Int8.ofInt n).toInt32 = x) (k : VL z g b (pc + 2) lv (.int x :: st) w u kc ks) : VL z g b pc lv (st) w u kc ks := by
  obtain ⟨p, l, e, R, s, m, args, below, meth, c⟩ := z
  intro H locs ls hR hS hl h0
  exact lv_bipush C.1 C.2.1 d hv (k H locs ls hR hS hl h0)
theorem Liload {i : Nat} {x : Int32} (C : LwC z g b L xs) (j : Nat) (d : decode cL_law pc = .ok (.iload i, 2)) (h : lv[j]? = some (i, .int x)) (k : VL z g b (pc + 2) lv (.int x :: st) w u kc ks) : VL z g b pc lv (st) w u kc ks := by
  obtain ⟨p, l, e, R, s, m, args, below, meth, c⟩ := z
  intro H locs ls hR hS hl h0
  exact lv_iload C.1 C.2.1 d (lvm_at (v := .int x) hl h) (k H locs ls hR hS hl h0)
theorem Laload_n {k4 : Fin 4} {i : Nat} {x : Nat} (C : LwC z g b L xs) (j : Nat) (d : decode cL_law pc = .ok (.aload_n k4, 1)) (hi : (k4 : Nat) = i) (h : lv[j]? = some (i, .ref x)) (k : VL z g b (pc + 1) lv (.ref x :: st) w u kc ks) : VL z g b pc lv st w u kc ks := by
  obtain ⟨p, l, e, R, s, m, args, below, meth, c⟩ := z
  intro H locs ls hR hS hl h0
  have h1 := lvm_at hl h
  have h2 := k H locs ls hR hS hl h0
  by_cases hx : x = 0
  · subst hx
    exact lv_aload_nN C.1 C.2.1 d hi h1 h2
  · simp only [trv, tr, hx, if_false, List.map_cons] at h1 h2
    exact lv_aload_n C.1 C.2.1 d hi h1 h2
theorem Li2l {x : Int32} (C : LwC z g b L xs) (d : decode cL_law pc = .ok (.i2l, 1)) (k : VL z g b (pc + 1) lv (.long x.toInt64 :: st) w u kc ks) : VL z g b pc lv (.int x :: st) w u kc ks := by
  obtain ⟨p, l, e, R, s, m, args, below, meth, c⟩ := z
  intro H locs ls hR hS hl h0
  exact lv_i2l C.1 C.2.1 d rfl (k H locs ls hR hS hl h0)
theorem Llshl {x : Int64} {y : Int32} (C : LwC z g b L xs) (d : decode cL_law pc = .ok (.lshl, 1)) (k : VL z g b (pc + 1) lv (.long (x <<< (y.toInt64 &&& 63)) :: st) w u kc ks) : VL z g b pc lv (.int y :: .long x :: st) w u kc ks := by
  obtain ⟨p, l, e, R, s, m, args, below, meth, c⟩ := z
  intro H locs ls hR hS hl h0
  exact lv_lshl C.1 C.2.1 d rfl (k H locs ls hR hS hl h0)
theorem Lland {x y : Int64} (C : LwC z g b L xs) (d : decode cL_law pc = .ok (.land, 1)) (k : VL z g b (pc + 1) lv (.long (x &&& y) :: st) w u kc ks) : VL z g b pc lv (.long y :: .long x :: st) w u kc ks := by
  obtain ⟨p, l, e, R, s, m, args, below, meth, c⟩ := z
  intro H locs ls hR hS hl h0
  exact lv_land C.1 C.2.1 d (k H locs ls hR hS hl h0)
theorem Llor {x y : Int64} (C : LwC z g b L xs) (d : decode cL_law pc = .ok (.lor, 1)) (k : VL z g b (pc + 1) lv (.long (x ||| y) :: st) w u kc ks) : VL z g b pc lv (.long y :: .long x :: st) w u kc ks := by
  obtain ⟨p, l, e, R, s, m, args, below, meth, c⟩ := z
  intro H locs ls hR hS hl h0
  exact lv_lor C.1 C.2.1 d (k H locs ls hR hS hl h0)
theorem Llcmp {x y : Int64} (C : LwC z g b L xs) (d : decode cL_law pc = .ok (.lcmp, 1)) (k : VL z g b (pc + 1) lv (.int (lg_cmp x y) :: st) w u kc ks) : VL z g b pc lv (.long y :: .long x :: st) w u kc ks := by
  obtain ⟨p, l, e, R, s, m, args, below, meth, c⟩ := z
  intro H locs ls hR hS hl h0
  exact W.lcmp C.1 C.2.1 d (k H locs ls hR hS hl h0)
theorem Lif_eq {x : Int32} {off : Int} {tgt : Nat} (C : LwC z g b L xs) (d : decode cL_law pc = .ok (.ifCond .eq off, 3)) (ht : (pc : Int) + off = (tgt : Int)) (kt : x = 0 → VL z g b tgt lv st w u kc ks) (kf : ¬ x = 0 → VL z g b (pc + 3) lv st w u kc ks) : VL z g b pc lv (.int x :: st) w u kc ks := by
  obtain ⟨p, l, e, R, s, m, args, below, meth, c⟩ := z
  intro H locs ls hR hS hl h0
  exact lv_if_eq C.1 C.2.1 d ht (fun q => kt q H locs ls hR hS hl h0) (fun q => kf q H locs ls hR hS hl h0)
theorem Lif_ne {x : Int32} {off : Int} {tgt : Nat} (C : LwC z g b L xs) (d : decode cL_law pc = .ok (.ifCond .ne off, 3)) (ht : (pc : Int) + off = (tgt : Int)) (kt : ¬ x = 0 → VL z g b tgt lv st w u kc ks) (kf : x = 0 → VL z g b (pc + 3) lv st w u kc ks) : VL z g b pc lv (.int x :: st) w u kc ks := by
  obtain ⟨p, l, e, R, s, m, args, below, meth, c⟩ := z
  intro H locs ls hR hS hl h0
  exact lv_if_ne C.1 C.2.1 d ht (fun q => kt q H locs ls hR hS hl h0) (fun q => kf q H locs ls hR hS hl h0)
theorem Licmp_eq {x y : Int32} {off : Int} {tgt : Nat} (C : LwC z g b L xs) (d : decode cL_law pc = .ok (.if_icmp .eq off, 3)) (ht : (pc : Int) + off = (tgt : Int)) (kt : x = y → VL z g b tgt lv st w u kc ks) (kf : ¬ x = y → VL z g b (pc + 3) lv st w u kc ks) : VL z g b pc lv (.int y :: .int x :: st) w u kc ks := by
  obtain ⟨p, l, e, R, s, m, args, below, meth, c⟩ := z
  intro H locs ls hR hS hl h0
  exact lv_icmp_eq C.1 C.2.1 d ht (fun q => kt q H locs ls hR hS hl h0) (fun q => kf q H locs ls hR hS hl h0)
theorem Licmp_gt {x y : Int32} {off : Int} {tgt : Nat} (C : LwC z g b L xs) (d : decode cL_law pc = .ok (.if_icmp .gt off, 3)) (ht : (pc : Int) + off = (tgt : Int)) (kt : y < x → VL z g b tgt lv st w u kc ks) (kf : ¬ y < x → VL z g b (pc + 3) lv st w u kc ks) : VL z g b pc lv (.int y :: .int x :: st) w u kc ks := by
  obtain ⟨p, l, e, R, s, m, args, below, meth, c⟩ := z
  intro H locs ls hR hS hl h0
  exact lv_icmp_gt C.1 C.2.1 d ht (fun q => kt q H locs ls hR hS hl h0) (fun q => kf q H locs ls hR hS hl h0)
theorem Lisub {x y : Int32} (C : LwC z g b L xs) (d : decode cL_law pc = .ok (.isub, 1)) (k : VL z g b (pc + 1) lv (.int (x - y) :: st) w u kc ks) : VL z g b pc lv (.int y :: .int x :: st) w u kc ks := by
  obtain ⟨p, l, e, R, s, m, args, below, meth, c⟩ := z
  intro H locs ls hR hS hl h0
  exact lv_isub C.1 C.2.1 d (k H locs ls hR hS hl h0)
theorem Liand {x y : Int32} (C : LwC z g b L xs) (d : decode cL_law pc = .ok (.iand, 1)) (k : VL z g b (pc + 1) lv (.int (x &&& y) :: st) w u kc ks) : VL z g b pc lv (.int y :: .int x :: st) w u kc ks := by
  obtain ⟨p, l, e, R, s, m, args, below, meth, c⟩ := z
  intro H locs ls hR hS hl h0
  exact lv_iand C.1 C.2.1 d (k H locs ls hR hS hl h0)
theorem Ldup {a : Value} (C : LwC z g b L xs) (d : decode cL_law pc = .ok (.dup, 1)) (ha : a.category = 1) (k : VL z g b (pc + 1) lv (a :: a :: st) w u kc ks) : VL z g b pc lv (a :: st) w u kc ks := by
  obtain ⟨p, l, e, R, s, m, args, below, meth, c⟩ := z
  intro H locs ls hR hS hl h0
  exact lv_dup C.1 C.2.1 d ((trv_cat g a).trans ha) (k H locs ls hR hS hl h0)
theorem Lldc2 {i : Nat} {x : Int64} (C : LwC z g b L xs) (hw : Cond.constantLong RL i x ∈ WT) (d : decode cL_law pc = .ok (.ldc2_w i, 3)) (k : VL z g b (pc + 3) lv (.long x :: st) w u kc ks) : VL z g b pc lv (st) w u kc ks := by
  obtain ⟨p, l, e, R, s, m, args, below, meth, c⟩ := z
  intro H locs ls hR hS hl h0
  exact lv_ldc2 C.1 C.2.1 C.2.2.2.1 (C.2.2.2.2.1 _ hw) d (k H locs ls hR hS hl h0)
theorem LtableIn {dflt lo hi : Int} {offs : Array Int} {len : Nat} {x : Int32} {off : Int} {tgt : Nat} (C : LwC z g b L xs) (d : decode cL_law pc = .ok (.tableswitch dflt lo hi offs, len)) (h1 : ¬ x.toInt < lo) (h2 : ¬ hi < x.toInt) (ho : offs[(x.toInt - lo).toNat]? = some off) (ht : (pc : Int) + off = (tgt : Int)) (k : VL z g b tgt lv st w u kc ks) : VL z g b pc lv (.int x :: st) w u kc ks := by
  obtain ⟨p, l, e, R, s, m, args, below, meth, c⟩ := z
  intro H locs ls hR hS hl h0
  exact lv_tableIn C.1 C.2.1 d h1 h2 ho ht (k H locs ls hR hS hl h0)
theorem LtableOut {dflt lo hi : Int} {offs : Array Int} {len : Nat} {x : Int32} {tgt : Nat} (C : LwC z g b L xs) (d : decode cL_law pc = .ok (.tableswitch dflt lo hi offs, len)) (h : x.toInt < lo ∨ hi < x.toInt) (ht : (pc : Int) + dflt = (tgt : Int)) (k : VL z g b tgt lv st w u kc ks) : VL z g b pc lv (.int x :: st) w u kc ks := by
  obtain ⟨p, l, e, R, s, m, args, below, meth, c⟩ := z
  intro H locs ls hR hS hl h0
  exact lv_tableOut C.1 C.2.1 d h ht (k H locs ls hR hS hl h0)
theorem Lgoto {off : Int} {tgt : Nat} (C : LwC z g b L xs) (d : decode cL_law pc = .ok (.goto off, 3)) (ht : (pc : Int) + off = (tgt : Int)) (k : VL z g b tgt lv st w u kc ks) : VL z g b pc lv st w u kc ks := by
  obtain ⟨p, l, e, R, s, m, args, below, meth, c⟩ := z
  intro H locs ls hR hS hl h0
  exact lv_goto C.1 C.2.1 d ht (k H locs ls hR hS hl h0)
theorem Llald {a n : Nat} {i : Int32} (C : LwC z g b L xs) (d : decode cL_law pc = .ok (.laload, 1)) (ht : lt_t w a = 21) (hn : lt_l w a = n) (hin : vp_in i n) (kk : VL z g b (pc + 1) lv (.long (gL u a i.toNatClampNeg) :: st) w u kc ks) : VL z g b pc lv (.int i :: .ref a :: st) w u kc ks := by
  obtain ⟨p, l, e, R, s, m, args, below, meth, c⟩ := z
  intro H locs ls hR hS hl h0
  have hlt : i.toNatClampNeg < lt_l w a := by rw [hn]; exact Nat.not_le.mp fun q => hin (Or.inr q)
  show W p l e R s m args below meth c H locs kc ks _ (F0 m pc ls (.int i :: trv g (.ref a) :: st.map (trv g)))
  rw [hR.val (a := a) (by omega)]
  exact W.lald (v := .long (gL u a i.toNatClampNeg)) C.1 C.2.1 (hR.arr ht (by omega) (by omega)) ((C.2.2.2.2.2.2.2.1.arr (t := 21) (by omega) (by omega)).1 _ _) (fun q => by cases q) (by rw [arrV_size, hn]; exact hin) (by rw [arrV_read _ _ hlt]; rfl) rfl rfl d (kk H locs ls hR hS hl h0)
theorem Lnew {idx t : Nat} (C : LwC z g b L xs) (d : decode cL_law pc = .ok (.new idx, 3)) (ht : t < 13) (h1 : Cond.classLink RL idx (cS t) ∈ WT) (h2 : Cond.instantiable (cS t) (cN t) ∈ WT) (h3 : Cond.initialized (cS t) ∈ WT) (hc : kc + 1 ≤ 601024) (hs : ks + cN t ≤ 7293000) (k : VL z g b (pc + 3) lv (.ref w.1 :: st) (nwL w t 0) (nwM w u) (kc + 1) (ks + cN t)) : VL z g b pc lv st w u kc ks := by
  obtain ⟨p, l, e, R, s, m, args, below, meth, c⟩ := z
  intro H locs ls hR hS hl h0
  obtain ⟨hx, hb, -, hown, hts, -, -, hsc, hRm, _⟩ := C
  have hK := hsc.1
  have hKn := hK.1 t _ (cl_at t ht)
  refine W.newcK hx hb hown (hts _ h1) (hts _ h2) (hts _ h3) rfl d (by rw [hRm]; exact hc) (by rw [hRm]; exact hs) hKn.2.1 rfl fun H1 kC hkC e1 z1 o1 => ?_
  have h5 := k H1 locs ls (hR.new z1 o1 ?_) (va_S_new hS z1 o1) hl h0
  · rw [← nw_adr hR]
    rw [← tr_dyn g (show 100 ≤ w.1 from hR.2.1)]
    exact h5
  · have ht2 : lt_t (nwL w t 0) w.1 = t := if_pos rfl
    refine ⟨fun _ => ?_, fun q => absurd q (by rw [ht2]; omega)⟩
    rw [ht2, nw_adr hR]
    refine (u_born (cY t) hts (cl_ws t ht) hKn hkC e1 (cl_ty t ht)).to (fun j hj => ?_)
    have hok := fk_ok t ht j hj
    unfold fkOk at hok
    have g1 : gI (nwM w u) w.1 j = 0 := by simp [gI, nwM]
    have g2 : gK (nwM w u) w.1 j = 0 := by simp [gK, nwM]
    have g3 : lt_p (nwL w t 0) w.1 j = 0 := by simp [lt_p, nwL]
    unfold fv
    rw [g1, g2, g3]
    split at hok
    · rename_i h9; rw [h9]; simp at hok; simp [hok]; rfl
    · rename_i h9; rw [h9]; simp at hok; simp [hok]; rfl
    · rename_i h9
      rw [h9]
      split at hok
      · simp at hok; simp [hok, tr]; rfl
      · simp at hok; simp [hok, tr]; rfl
    · rename_i h9; rw [h9]; simp at hok; simp [hok, tr]; rfl
    · simp at hok
set_option maxRecDepth 100000 in
theorem Lnewa {at_ : ArrayType} {t n : Nat} {x : Int32} (C : LwC z g b L xs) (d : decode cL_law pc = .ok (.newarray at_, 2)) (ht1 : 20 ≤ t) (ht2 : t < 24) (hty : newarray.typeOf at_ = aTy t) (hw : Cond.arrayClass (newarray.typeOf at_) ∈ WT) (hx0 : ¬ x < 0) (hxn : x.toNatClampNeg = n) (hn : n * 8 ≤ 536870912) (hc : kc + 1 ≤ 601024) (hs : ks + n ≤ 7293000) (k : VL z g b (pc + 2) lv (.ref w.1 :: st) (nwL w t n) (nwM w u) (kc + 1) (ks + n)) : VL z g b pc lv (.int x :: st) w u kc ks := by
  obtain ⟨p, l, e, R, s, m, args, below, meth, c⟩ := z
  intro H locs ls hR hS hl h0
  obtain ⟨hx, hb, -, hown, hts, -, -, hst, hRm, _⟩ := C
  have hby : n * componentBytes (newarray.typeOf at_) ≤ 536870912 := by
    rw [hty]
    have h4 : t = 20 ∨ t = 21 ∨ t = 22 ∨ t = 23 := by omega
    rcases h4 with h | h | h | h <;> rw [h] <;> exact Nat.le_trans (Nat.mul_le_mul_left n (by decide)) hn
  refine va_newaK hx hb (hts _ hw) rfl d rfl hx0 hxn hby (by rw [hRm]; exact hc) (by rw [hRm]; exact hs) rfl fun H1 cA e1 z1 o1 hAr hNm => ?_
  have hcA : cA = gA g t := by
    have h2 := va_RA_name (hst.arr (t := t) (by omega) (by omega)).2
    rw [hty] at hNm
    exact Option.some.inj (hNm.symm.trans h2)
  subst hcA
  have h5 := k H1 locs ls (hR.new z1 o1 ?_) (va_S_new hS z1 o1) hl h0
  · rw [← nw_adr hR]
    rw [← tr_dyn g (show 100 ≤ w.1 from hR.2.1)]
    exact h5
  · have h6 : lt_t (nwL w t n) w.1 = t := if_pos rfl
    have h7 : lt_l (nwL w t n) w.1 = n := if_pos rfl
    refine ⟨fun q => absurd q (by rw [h6]; omega), fun _ _ => ?_⟩
    rw [h6, h7, nw_adr hR, e1, hty]
    have h4 : t = 20 ∨ t = 21 ∨ t = 22 ∨ t = 23 := by omega
    congr 2
    funext j
    rcases h4 with h | h | h | h <;> rw [h]
    · simp [av, gI, nwM]; rfl
    · simp [av, gL, nwM]; rfl
    · simp [av, gI, nwM]; rfl
    · simp [av, gI, nwM]; rfl
theorem LcallV {idx t n a c2 s2 dp ml : Nat} {y : MethodName} {mb : ByteArray} {mr : Option FieldType} {as rest : List Value} {Qa : Option Value → LT → MT → Prop} (C : LwC z g b L xs) (d : decode cL_law pc = .ok (.invokevirtual idx, 3)) (hM : Mt g y mb ml mr dp c2 s2 (.ref a :: as) w u Qa) (hy : YV RL idx y mb ml mr n t) (hrv : Rcv w a t) (hst : st = as.reverse ++ .ref a :: rest) (hn : as.length = n) (hrm : (rest.map fun v => v.category).sum ≤ 8) (hml : ml ≤ 45) (hdp : dp ≤ 1000) (hc : kc + c2 ≤ 601024) (hs : ks + s2 ≤ 7293000)
    (kk : ∀ v w1 u1, Qa v w1 u1 → VL z g b (pc + 3) lv (v.toList ++ rest) w1 u1 (kc + c2) (ks + s2)) : VL z g b pc lv st w u kc ks := by
  obtain ⟨p, l, e, R, s, m, args, below, meth, c⟩ := z
  intro H locs ls hR hS hl h0
  obtain ⟨hx, hb, hmL, hown, hts, -, -, hsc, hRm, _⟩ := C
  obtain ⟨⟨hlk, hcd, hin, hd1, hd2, hd3⟩, hi1, hi2, ht13⟩ := hy
  obtain ⟨hva, hcell⟩ := hrv.get hsc hR hS
  subst hst
  have hstk : (as.reverse ++ .ref a :: rest).map (trv g) = (as.map (trv g)).reverse ++ .ref (adr g a) :: rest.map (trv g) := by
    rw [map_rev, List.map_cons, hva]
  have hpre : PreV s H (cS t) (adr g a) (va_Pc ((Value.ref a :: as).map (trv g)) (fun U => Stc g U ∧ Rep g w u U.heap)) (as.map (trv g)) :=
    ⟨Pc_blind g _ w u, hcell, fun U hU hW => ⟨by rw [List.map_cons, hva], hsc.now hS hU hW, by rw [hU]; exact hR⟩⟩
  have hR1 : (rmD dp c2 s2).frames + 1 ≤ R.frames ∧ 8 + (ml + 11) + (rmD dp c2 s2).locals ≤ R.locals := by
    rw [hRm]
    show dp + 1 ≤ 2048 ∧ 8 + (ml + 11) + 64 * dp ≤ 84000
    omega
  have hlen : (as.map (trv g)).length = n := by rw [List.length_map]; exact hn
  have hfit : kc + c2 ≤ R.cells ∧ ks + s2 ≤ R.slots := by rw [hRm]; exact ⟨hc, hs⟩
  rw [hstk]
  have fin : ∀ (v : Option Value) (w1 : LT) (u1 : MT) (H1 : Heap) (locs1 : List Loc), Qa v w1 u1 → Rep g w1 u1 H1 → va_S (fr g) s.heap H1 locs1 → W p l e R s m args below meth c H1 locs1 (kc + c2) (ks + s2) (lw_Z below args s) (F0 m (pc + 3) ls ((v.map (trv g)).toList ++ rest.map (trv g))) := by
    intro v w1 u1 H1 locs1 q1 q2 q3
    have h9 := kk v w1 u1 q1 H1 locs1 ls q2 q3 hl h0
    cases v <;> exact h9
  rcases hlk with h | ⟨host, h⟩
  · exact Vrun_go (va_runV ⟨hx, hb, hmL, hown, hts⟩ (hM l) ⟨callB_of n hts (good_cons hcd) rfl rfl rfl (hts _ hin) (hts _ h) ⟨hd1, hd2, hd3⟩ hR1, hts _ hi1, hts _ hi2⟩ hpre rfl hlen hl.1 rfl (lv_roomT hrm) d hfit) hS fin
  · exact Vrun_go (va_runVN ⟨hx, hb, hmL, hown, hts⟩ (hM l) ⟨va_cnB n hts (good_cons hcd) rfl rfl rfl (hsc.2.2.2.2.1 _ h) (hts _ hin) ⟨hd1, hd2, hd3⟩ hR1, hts _ hi1, hts _ hi2⟩ hpre rfl hlen hl.1 rfl (lv_roomT hrm) d hfit) hS fin
theorem LcallI {idx t n a c2 s2 dp ml : Nat} {y : MethodName} {mb : ByteArray} {as rest : List Value} {Qa : Option Value → LT → MT → Prop} (C : LwC z g b L xs) (d : decode cL_law pc = .ok (.invokespecial idx, 3)) (hM : Mt g y mb ml none dp c2 s2 (.ref a :: as) w u Qa) (hy : YB RL idx y mb ml none n) (hi1 : Cond.instanceMethod y ∈ WT) (hin1 : y.name = "<init>") (hta : lt_t w a = t) (ht13 : t < 13) (hst : st = as.reverse ++ .ref a :: rest) (hn : as.length = n) (hrm : (rest.map fun v => v.category).sum ≤ 8) (hml : ml ≤ 45) (hdp : dp ≤ 1000) (hc : kc + c2 ≤ 601024) (hs : ks + s2 ≤ 7293000)
    (kk : ∀ v w1 u1, Qa v w1 u1 → VL z g b (pc + 3) lv (v.toList ++ rest) w1 u1 (kc + c2) (ks + s2)) : VL z g b pc lv st w u kc ks := by
  obtain ⟨p, l, e, R, s, m, args, below, meth, c⟩ := z
  intro H locs ls hR hS hl h0
  obtain ⟨hx, hb, hmL, hown, hts, -, -, hsc, hRm, _⟩ := C
  obtain ⟨hlk, hcd, hin, hd1, hd2, hd3⟩ := hy
  have hva := hR.val (a := a) (by omega)
  subst hst
  have hstk : (as.reverse ++ .ref a :: rest).map (trv g) = (as.map (trv g)).reverse ++ .ref (adr g a) :: rest.map (trv g) := by
    rw [map_rev, List.map_cons, hva]
  have hpre : PreS s H (va_Pc ((Value.ref a :: as).map (trv g)) (fun U => Stc g U ∧ Rep g w u U.heap)) (.ref (adr g a) :: as.map (trv g)) :=
    ⟨Pc_blind g _ w u, fun U hU hW => ⟨by rw [List.map_cons, hva], hsc.now hS hU hW, by rw [hU]; exact hR⟩⟩
  have hR1 : (rmD dp c2 s2).frames + 1 ≤ R.frames ∧ 8 + (ml + 11) + (rmD dp c2 s2).locals ≤ R.locals := by
    rw [hRm]
    show dp + 1 ≤ 2048 ∧ 8 + (ml + 11) + 64 * dp ≤ 84000
    omega
  have hlen : (as.map (trv g)).length = n := by rw [List.length_map]; exact hn
  have hfit : kc + c2 ≤ R.cells ∧ ks + s2 ≤ R.slots := by rw [hRm]; exact ⟨hc, hs⟩
  rw [hstk]
  have fin : ∀ (v : Option Value) (w1 : LT) (u1 : MT) (H1 : Heap) (locs1 : List Loc), Qa v w1 u1 → Rep g w1 u1 H1 → va_S (fr g) s.heap H1 locs1 → W p l e R s m args below meth c H1 locs1 (kc + c2) (ks + s2) (lw_Z below args s) (F0 m (pc + 3) ls ((v.map (trv g)).toList ++ rest.map (trv g))) := by
    intro v w1 u1 H1 locs1 q1 q2 q3
    have h9 := kk v w1 u1 q1 H1 locs1 ls q2 q3 hl h0
    cases v <;> exact h9
  rcases hlk with h | ⟨host, h⟩
  · exact Vrun_go (va_runI ⟨hx, hb, hmL, hown, hts⟩ (hM l) ⟨callB_of n hts (good_cons hcd) rfl rfl rfl (hts _ hin) (hts _ h) ⟨hd1, hd2, hd3⟩ hR1, hin1, hts _ hi1⟩ hpre rfl hlen hl.1 rfl (lv_roomT hrm) d hfit) hS fin
  · exact Vrun_go (va_runIN ⟨hx, hb, hmL, hown, hts⟩ (hM l) ⟨va_cnB n hts (good_cons hcd) rfl rfl rfl (hsc.2.2.2.2.1 _ h) (hts _ hin) ⟨hd1, hd2, hd3⟩ hR1, hin1, hts _ hi1⟩ hpre rfl hlen hl.1 rfl (lv_roomT hrm) d hfit) hS fin
theorem LKint {x : Int32} {w1 : LT} {u1 : MT} {k2 s2 : Nat} {rest : List Value} (k : VL z g b pc lv (.int x :: rest) w1 u1 k2 s2) : ∀ v w2 u2, Qi x w1 u1 v w2 u2 → VL z g b pc lv (v.toList ++ rest) w2 u2 k2 s2 := by
  rintro v w2 u2 ⟨rfl, rfl, rfl⟩
  exact k
theorem LKvoid {w1 : LT} {u1 : MT} {k2 s2 : Nat} {rest : List Value} (k : VL z g b pc lv rest w1 u1 k2 s2) : ∀ v w2 u2, Qv w1 u1 v w2 u2 → VL z g b pc lv (v.toList ++ rest) w2 u2 k2 s2 := by
  rintro v w2 u2 ⟨rfl, rfl, rfl⟩
  exact k
end VLAW
