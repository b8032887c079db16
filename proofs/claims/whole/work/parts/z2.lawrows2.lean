/-! ===== the law's rows by hand: the script, stores, its own methods, its end ===== -/
/-- the law's own end -/
theorem lw_ret {p : Program} {l : Launch} {e : Env} {s : State} {m : MethodId} {below : List Frame} {meth : Method} {c : Code} {b : Nat} (hx : p.tables.exec = Jvm.exec) (hb : c.code = code) (hr : meth.sig.returnType = ret) (hlocks : meth.locks = false) {pc : Nat} {H : Heap} {ls : Array Slot} (hdg : decode code pc = .ok (.ireturn, 1)) : W p l e room_1 s m #[Value.ref b] below meth c H [] 601024 7293000 (lw_Z below #[Value.ref b] s) (F0 m pc ls [.int 1]) := by
  intro T hT X
  obtain ⟨fs, hret, hrun, hended, hW, hframe⟩ := X.leave (v := some (.int 1)) (hlocks := hlocks) (fun h => by rw [hr] at h; cases h)
  have hmeth' : T.vm.method? m = some meth := X.method'
  refine ⟨T.setFrames fs, ?_, .returned (some (.int 1)), hrun, hended, rfl, ⟨_, rfl⟩, hW, hframe⟩
  jvm_step X.here [X.here.top, hx, hb, hdg, hmeth', hr, ret, narrow_b1]
  (try refine ⟨rfl, ?_⟩); (try refine ⟨rfl, ?_⟩)
  first | (intro acts; rw [hret _ acts rfl rfl rfl]) | rw [hret _ _ rfl rfl rfl]
  exact Steps.refl _
section VLAW2
variable {z : ZT} {g : GT} {b L : Nat} {xs : Nat → Int32} {pc : Nat} {lv lv' : List (Nat × Value)} {st : List Value} {w w' : LT} {u u' : MT} {kc ks : Nat}
theorem Lret (C : LwC z g b L xs) (d : decode cL_law pc = .ok (.ireturn, 1)) (hc : kc ≤ 601024) (hs : ks ≤ 7293000) : VL z g b pc lv [.int 1] w u kc ks := by
  obtain ⟨p, l, e, R, s, m, args, below, meth, c⟩ := z
  intro H locs ls hR hS hl h0
  obtain ⟨hx, hb, -, hown, hts, hr, hlk, hsc, hRm, _, _, _, _, hgn, hargs⟩ := C
  subst hRm; subst hargs
  refine va_forget (fun q hq => ?_) (W.widen hc hs (lw_ret hx hb hr hlk d))
  have := hS.2.2 q hq
  have : gn g ≤ q.base := this
  omega
theorem Lscr {kk : Int} {k x : Int32} {j : Nat} (C : LwC z g b L xs) (dA : decode cL_law pc = .ok (.aload_n 0, 1)) (dB : decode cL_law (pc + 1) = .ok (.iload 4, 2)) (dC : decode cL_law (pc + 1 + 2) = .ok (.iconst kk, 1)) (hk : Int32.ofInt kk = k) (dD : decode cL_law (pc + 1 + 2 + 1) = .ok (.iadd, 1)) (dE : decode cL_law (pc + 1 + 2 + 1 + 1) = .ok (.iaload, 1)) (h4 : lv[j]? = some (4, .int x)) (hin : vp_in (x + k) L) (hg : VL z g b (pc + 6) lv (.int (xs (x + k).toNatClampNeg) :: st) w u kc ks) : VL z g b pc lv st w u kc ks := by
  obtain ⟨p, l, e, R, s, m, args, below, meth, c⟩ := z
  intro H locs ls hR hS hl h0
  obtain ⟨hx, hb, -, hown, hts, hr, hlk, hsc, hRm, _, _, hX, hbl, hgn, hargs⟩ := C
  exact lv_aload_n hx hb dA rfl h0 (lv_iload hx hb dB (lvm_at (v := .int x) hl h4) (lv_iconst hx hb dC hk (lv_iadd hx hb dD (va_sld hx hb hX hbl (fun h => by have h : gn g ≤ b := h; omega) hS hin dE (hg H locs ls hR hS hl h0)))))
theorem LscrB {kk : Int} {k x : Int32} {j : Nat} (C : LwC z g b L xs) (dA : decode cL_law pc = .ok (.aload_n 0, 1)) (dB : decode cL_law (pc + 1) = .ok (.iload 4, 2)) (dC : decode cL_law (pc + 1 + 2) = .ok (.bipush kk, 2)) (hk : (Int8.ofInt kk).toInt32 = k) (dD : decode cL_law (pc + 1 + 2 + 2) = .ok (.iadd, 1)) (dE : decode cL_law (pc + 1 + 2 + 2 + 1) = .ok (.iaload, 1)) (h4 : lv[j]? = some (4, .int x)) (hin : vp_in (x + k) L) (hg : VL z g b (pc + 7) lv (.int (xs (x + k).toNatClampNeg) :: st) w u kc ks) : VL z g b pc lv st w u kc ks := by
  obtain ⟨p, l, e, R, s, m, args, below, meth, c⟩ := z
  intro H locs ls hR hS hl h0
  obtain ⟨hx, hb, -, hown, hts, hr, hlk, hsc, hRm, _, _, hX, hbl, hgn, hargs⟩ := C
  exact lv_aload_n hx hb dA rfl h0 (lv_iload hx hb dB (lvm_at (v := .int x) hl h4) (lv_bipush hx hb dC hk (lv_iadd hx hb dD (va_sld hx hb hX hbl (fun h => by have h : gn g ≤ b := h; omega) hS hin dE (hg H locs ls hR hS hl h0)))))
theorem Lscr0 {x : Int32} {j : Nat} (C : LwC z g b L xs) (dA : decode cL_law pc = .ok (.aload_n 0, 1)) (dB : decode cL_law (pc + 1) = .ok (.iload 4, 2)) (dE : decode cL_law (pc + 1 + 2) = .ok (.iaload, 1)) (h4 : lv[j]? = some (4, .int x)) (hin : vp_in x L) (hg : VL z g b (pc + 4) lv (.int (xs x.toNatClampNeg) :: st) w u kc ks) : VL z g b pc lv st w u kc ks := by
  obtain ⟨p, l, e, R, s, m, args, below, meth, c⟩ := z
  intro H locs ls hR hS hl h0
  obtain ⟨hx, hb, -, hown, hts, hr, hlk, hsc, hRm, _, _, hX, hbl, hgn, hargs⟩ := C
  exact lv_aload_n hx hb dA rfl h0 (lv_iload hx hb dB (lvm_at (v := .int x) hl h4) (va_sld hx hb hX hbl (fun h => by have h : gn g ≤ b := h; omega) hS hin dE (hg H locs ls hR hS hl h0)))
theorem Llen (C : LwC z g b L xs) (dA : decode cL_law pc = .ok (.aload_n 0, 1)) (dB : decode cL_law (pc + 1) = .ok (.arraylength, 1)) (hg : VL z g b (pc + 2) lv (.int (Int32.ofNat L) :: st) w u kc ks) : VL z g b pc lv st w u kc ks := by
  obtain ⟨p, l, e, R, s, m, args, below, meth, c⟩ := z
  intro H locs ls hR hS hl h0
  obtain ⟨hx, hb, -, hown, hts, hr, hlk, hsc, hRm, _, _, hX, hbl, hgn, hargs⟩ := C
  exact lv_aload_n hx hb dA rfl h0 (va_slen hx hb hX hbl (fun h => by have h : gn g ≤ b := h; omega) hS dB (hg H locs ls hR hS hl h0))
theorem st_full {ls : Array Slot} (hl : lv_has ls 7 (lv.map fun q => (q.1, trv g q.2))) (h0 : ls[0]? = some (.val (.ref b))) : lv_has ls 7 ((0, .ref b) :: lv.map fun q => (q.1, trv g q.2)) := ⟨hl.1, hl.2.1, fun q hq => by
  rcases List.mem_cons.mp hq with e | e
  · rw [e]; exact h0
  · exact hl.2.2 q e⟩
theorem st_back {ls : Array Slot} {i : Nat} {v : Value} (hi : 0 < i) (hl : lv_has ls 7 ((i, trv g v) :: ((0, Value.ref b) :: lv.map fun q => (q.1, trv g q.2)).filter (fun q => !(q.1 == i) && !(q.1 + 1 == i && q.2.category == 2)))) (h : lst1 i v lv = lv') : lv_has ls 7 (lv'.map fun q => (q.1, trv g q.2)) ∧ ls[0]? = some (.val (.ref b)) := by
  subst h
  rw [← lst1_map]
  refine ⟨⟨hl.1, hl.2.1, fun q hq => hl.2.2 q ?_⟩, hl.2.2 (0, .ref b) ?_⟩
  · rcases List.mem_cons.mp hq with e | e
    · exact List.mem_cons.mpr (Or.inl e)
    · obtain ⟨e1, e2⟩ := List.mem_filter.mp e
      exact List.mem_cons_of_mem _ (List.mem_filter.mpr ⟨List.mem_cons_of_mem _ e1, e2⟩)
  · refine List.mem_cons_of_mem _ (List.mem_filter.mpr ⟨List.mem_cons_self, ?_⟩)
    have : (0 == i) = false := by simp; omega
    simp [this, Value.category]
theorem Listore {i : Nat} {x : Int32} (C : LwC z g b L xs) (d : decode cL_law pc = .ok (.istore i, 2)) (hi : 0 < i) (hn : i < 7) (h : lst1 i (.int x) lv = lv') (k : VL z g b (pc + 2) lv' st w u kc ks) : VL z g b pc lv (.int x :: st) w u kc ks := by
  obtain ⟨p, l, e, R, s, m, args, below, meth, c⟩ := z
  intro H locs ls hR hS hl h0
  refine lv_istore C.1 C.2.1 d (st_full hl h0) hn rfl (fun ls' hl' => ?_)
  obtain ⟨e1, e2⟩ := st_back (v := .int x) hi hl' h
  exact k H locs ls' hR hS e1 e2
theorem Lastore_n {k4 : Fin 4} {i x : Nat} (C : LwC z g b L xs) (d : decode cL_law pc = .ok (.astore_n k4, 1)) (hk : (k4 : Nat) = i) (hi : 0 < i) (hn : i < 7) (hx : x ≠ 0) (h : lst1 i (.ref x) lv = lv') (k : VL z g b (pc + 1) lv' st w u kc ks) : VL z g b pc lv (.ref x :: st) w u kc ks := by
  obtain ⟨p, l, e, R, s, m, args, below, meth, c⟩ := z
  intro H locs ls hR hS hl h0
  have h2 : trv g (.ref x) = .ref (adr g x) := by simp [trv, tr, hx]
  show W p l e R s m args below meth c H locs kc ks _ (F0 m pc ls (trv g (.ref x) :: st.map (trv g)))
  rw [h2]
  refine lv_astore_n C.1 C.2.1 d hk (st_full hl h0) hn rfl (fun ls' hl' => ?_)
  rw [← h2] at hl'
  obtain ⟨e1, e2⟩ := st_back (v := .ref x) hi hl' h
  exact k H locs ls' hR hS e1 e2
theorem Liinc {i j : Nat} {n : Int} {x v : Int32} (C : LwC z g b L xs) (d : decode cL_law pc = .ok (.iinc i n, 3)) (hj : lv[j]? = some (i, .int x)) (hv : x + Int32.ofInt n = v) (hi : 0 < i) (hn : i < 7) (h : lst1 i (.int v) lv = lv') (k : VL z g b (pc + 3) lv' st w u kc ks) : VL z g b pc lv st w u kc ks := by
  obtain ⟨p, l, e, R, s, m, args, below, meth, c⟩ := z
  intro H locs ls hR hS hl h0
  refine lv_iinc C.1 C.2.1 d (st_full hl h0) (k := j + 1) (by rw [List.getElem?_cons_succ, List.getElem?_map, hj]; rfl) hv hn rfl (fun ls' hl' => ?_)
  obtain ⟨e1, e2⟩ := st_back (v := .int v) hi hl' h
  exact k H locs ls' hR hS e1 e2
theorem Lsub (h : ∀ q ∈ lv', q ∈ lv) (k : VL z g b pc lv' st w u kc ks) : VL z g b pc lv st w u kc ks := by
  obtain ⟨p, l, e, R, s, m, args, below, meth, c⟩ := z
  intro H locs ls hR hS hl h0
  exact k H locs ls hR hS ⟨hl.1, hl.2.1, fun q hq => by
    obtain ⟨q', e1, e2⟩ := List.mem_map.mp hq
    exact hl.2.2 q (List.mem_map.mpr ⟨q', h q' e1, e2⟩)⟩ h0
/-- a call of one of the law's methods that catch -/
theorem LcallW {idx n c2 s2 dp ml : Nat} {y : MethodName} {mb : ByteArray} {mr : Option FieldType} {hh : List (Nat × Nat × Nat × Nat)} {as rest : List Value} {Qa : Option Value → LT → MT → Prop} (C : LwC z g b L xs) (d : decode cL_law pc = .ok (.invokestatic idx, 3)) (hM : MtW g y mb ml mr hh dp c2 s2 as w u Qa) (hlk : Cond.methodLink RL idx y ∈ WT) (hsta : Cond.static y ∈ WT) (hin : Cond.initialized y.cls ∈ WT) (hcd : Cond.codeWith y mb ml mr hh ∈ WT) (hd : y.cls ≠ "java/lang/invoke/MethodHandle" ∧ y.cls ≠ "java/lang/invoke/VarHandle" ∧ (parseMethodDescriptor y.desc).map (fun d => d.parameters.length) = some n) (hst : st = as.reverse ++ rest) (hn : as.length = n) (hrm : (rest.map fun v => v.category).sum ≤ 8) (hml : ml ≤ 45) (hdp : dp ≤ 1000) (hc : kc + c2 ≤ 601024) (hs : ks + s2 ≤ 7293000)
    (kk : ∀ v w1 u1, Qa v w1 u1 → VL z g b (pc + 3) lv (v.toList ++ rest) w1 u1 (kc + c2) (ks + s2)) : VL z g b pc lv st w u kc ks := by
  obtain ⟨p, l, e, R, s, m, args, below, meth, c⟩ := z
  intro H locs ls hR hS hl h0
  obtain ⟨hx, hb, hmL, hown, hts, -, -, hsc, hRm, hXw, hst0, _⟩ := C
  subst hst
  have hpre : PreS s H (PcX g as w u) (as.map (trv g)) :=
    ⟨PcX_blind g _ w u, fun U hU hW => ⟨rfl, ⟨hsc.now hS hU hW, by rw [hU]; exact hR⟩, hXw.warm hW⟩⟩
  have hR1 : (rmD dp c2 s2).frames + 1 ≤ R.frames ∧ 8 + (ml + 11) + (rmD dp c2 s2).locals ≤ R.locals := by
    rw [hRm]
    show dp + 1 ≤ 2048 ∧ 8 + (ml + 11) + 64 * dp ≤ 84000
    omega
  have hlen : (as.map (trv g)).length = n := by rw [List.length_map]; exact hn
  have hfit : kc + c2 ≤ R.cells ∧ ks + s2 ≤ R.slots := by rw [hRm]; exact ⟨hc, hs⟩
  rw [map_rev]
  have fin : ∀ (v : Option Value) (w1 : LT) (u1 : MT) (H1 : Heap) (locs1 : List Loc), Qa v w1 u1 → Rep g w1 u1 H1 → va_S (fr g) s.heap H1 locs1 → W p l e R s m args below meth c H1 locs1 (kc + c2) (ks + s2) (lw_Z below args s) (F0 m (pc + 3) ls ((v.map (trv g)).toList ++ rest.map (trv g))) := by
    intro v w1 u1 H1 locs1 q1 q2 q3
    have h9 := kk v w1 u1 q1 H1 locs1 ls q2 q3 hl h0
    cases v <;> exact h9
  have hG : GoodIn WT (va_wsS RL idx y (.codeWith y mb ml mr hh :: WT)) := by
    intro w hw
    refine WT_good w ?_
    simp only [va_wsS, List.cons_append, List.nil_append, List.mem_cons] at hw
    rcases hw with e | e | e | e | e
    · rw [e]; exact hlk
    · rw [e]; exact hsta
    · rw [e]; exact hin
    · rw [e]; exact hcd
    · exact e
  exact Vrun_go (vx_runSW ⟨hx, hb, hmL, hown, hts⟩ (hM l hst0) (vx_cwSW n hts hG rfl rfl rfl hd hR1) hpre rfl hlen hl.1 rfl (lv_roomT hrm) d hfit) hS fin
end VLAW2
