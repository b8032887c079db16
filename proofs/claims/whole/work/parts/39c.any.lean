/-! ===== THE SAME ROWS WITH ANY END (for methods that throw) ===== -/
def VG (z : ZT) (g : GT) (nL : Nat) (pc : Nat) (lv : List (Nat × Value)) (st : List Value) (w : LT) (u : MT) (kc ks : Nat) (Pf : State → Prop) : Prop := match z with
  | (p, l, e, R, s, m, args, below, meth, c) => ∀ (H : Heap) (locs : List Loc) (ls : Array Slot), Rep g w u H → va_S (fr g) s.heap H locs → lv_has ls nL (lv.map fun q => (q.1, trv g q.2)) → W p l e R s m args below meth c H locs kc ks Pf (F0 m pc ls (st.map (trv g)))
section VANY
variable {z : ZT} {g : GT} {cc : ByteArray} {nL : Nat} {own : String} {ret : Option FieldType} {D mc ms : Nat} {pc : Nat} {lv lv' : List (Nat × Value)} {st : List Value} {w w' : LT} {u u' : MT} {kc ks : Nat} {Pf : State → Prop}
theorem Giconst {n : Int} {x : Int32} (C : Cx z g cc nL own ret D mc ms) (d : decode cc pc = .ok (.iconst n, 1)) (hv : Int32.ofInt n = x) (k : VG z g nL (pc + 1) lv (.int x :: st) w u kc ks Pf) : VG z g nL pc lv (st) w u kc ks Pf := by
  obtain ⟨p, l, e, R, s, m, args, below, meth, c⟩ := z
  intro H locs ls hR hS hl
  exact lv_iconst C.1 C.2.1 d hv (k H locs ls hR hS hl)
theorem Gbipush {n : Int} {x : Int32} (C : Cx z g cc nL own ret D mc ms) (d : decode cc pc = .ok (.bipush n, 2)) (hv : (Int8.ofInt n).toInt32 = x) (k : VG z g nL (pc + 2) lv (.int x :: st) w u kc ks Pf) : VG z g nL pc lv (st) w u kc ks Pf := by
  obtain ⟨p, l, e, R, s, m, args, below, meth, c⟩ := z
  intro H locs ls hR hS hl
  exact lv_bipush C.1 C.2.1 d hv (k H locs ls hR hS hl)
theorem Gsipush {n : Int} {x : Int32} (C : Cx z g cc nL own ret D mc ms) (d : decode cc pc = .ok (.sipush n, 3)) (hv : (Int16.ofInt n).toInt32 = x) (k : VG z g nL (pc + 3) lv (.int x :: st) w u kc ks Pf) : VG z g nL pc lv (st) w u kc ks Pf := by
  obtain ⟨p, l, e, R, s, m, args, below, meth, c⟩ := z
  intro H locs ls hR hS hl
  exact lv_sipush C.1 C.2.1 d hv (k H locs ls hR hS hl)
theorem Giload_n {k4 : Fin 4} {i : Nat} {x : Int32} (C : Cx z g cc nL own ret D mc ms) (j : Nat) (d : decode cc pc = .ok (.iload_n k4, 1)) (hi : (k4 : Nat) = i) (h : lv[j]? = some (i, .int x)) (k : VG z g nL (pc + 1) lv (.int x :: st) w u kc ks Pf) : VG z g nL pc lv (st) w u kc ks Pf := by
  obtain ⟨p, l, e, R, s, m, args, below, meth, c⟩ := z
  intro H locs ls hR hS hl
  exact lv_iload_n C.1 C.2.1 d hi (lvm_at (v := .int x) hl h) (k H locs ls hR hS hl)
theorem Gaload_n {k4 : Fin 4} {i : Nat} {x : Nat} (C : Cx z g cc nL own ret D mc ms) (j : Nat) (d : decode cc pc = .ok (.aload_n k4, 1)) (hi : (k4 : Nat) = i) (h : lv[j]? = some (i, .ref x)) (k : VG z g nL (pc + 1) lv (.ref x :: st) w u kc ks Pf) : VG z g nL pc lv st w u kc ks Pf := by
  obtain ⟨p, l, e, R, s, m, args, below, meth, c⟩ := z
  intro H locs ls hR hS hl
  have h1 := lvm_at hl h
  have h2 := k H locs ls hR hS hl
  by_cases hx : x = 0
  · subst hx
    exact lv_aload_nN C.1 C.2.1 d hi h1 h2
  · simp only [trv, tr, hx, if_false, List.map_cons] at h1 h2
    exact lv_aload_n C.1 C.2.1 d hi h1 h2
theorem Gaload {i : Nat} {x : Nat} (C : Cx z g cc nL own ret D mc ms) (j : Nat) (d : decode cc pc = .ok (.aload i, 2)) (h : lv[j]? = some (i, .ref x)) (k : VG z g nL (pc + 2) lv (.ref x :: st) w u kc ks Pf) : VG z g nL pc lv st w u kc ks Pf := by
  obtain ⟨p, l, e, R, s, m, args, below, meth, c⟩ := z
  intro H locs ls hR hS hl
  have h1 := lvm_at hl h
  have h2 := k H locs ls hR hS hl
  by_cases hx : x = 0
  · subst hx
    exact lv_aloadN C.1 C.2.1 d h1 h2
  · simp only [trv, tr, hx, if_false, List.map_cons] at h1 h2
    exact lv_aload C.1 C.2.1 d h1 h2
theorem Giload {i : Nat} {x : Int32} (C : Cx z g cc nL own ret D mc ms) (j : Nat) (d : decode cc pc = .ok (.iload i, 2)) (h : lv[j]? = some (i, .int x)) (k : VG z g nL (pc + 2) lv (.int x :: st) w u kc ks Pf) : VG z g nL pc lv (st) w u kc ks Pf := by
  obtain ⟨p, l, e, R, s, m, args, below, meth, c⟩ := z
  intro H locs ls hR hS hl
  exact lv_iload C.1 C.2.1 d (lvm_at (v := .int x) hl h) (k H locs ls hR hS hl)
theorem Gistore_n {k4 : Fin 4} {i : Nat} {x : Int32} (C : Cx z g cc nL own ret D mc ms) (d : decode cc pc = .ok (.istore_n k4, 1)) (hi : (k4 : Nat) = i) (hn : i < nL) (h : lst1 i (.int x) lv = lv') (k : VG z g nL (pc + 1) lv' st w u kc ks Pf) : VG z g nL pc lv (.int x :: st) w u kc ks Pf := by
  obtain ⟨p, l, e, R, s, m, args, below, meth, c⟩ := z
  intro H locs ls hR hS hl
  subst h
  exact lv_istore_n C.1 C.2.1 d hi hl hn (lst1_map g i (.int x) lv) (fun ls' hl' => k H locs ls' hR hS hl')
theorem Giadd {x y : Int32} (C : Cx z g cc nL own ret D mc ms) (d : decode cc pc = .ok (.iadd, 1)) (k : VG z g nL (pc + 1) lv (.int (x + y) :: st) w u kc ks Pf) : VG z g nL pc lv (.int y :: .int x :: st) w u kc ks Pf := by
  obtain ⟨p, l, e, R, s, m, args, below, meth, c⟩ := z
  intro H locs ls hR hS hl
  exact lv_iadd C.1 C.2.1 d (k H locs ls hR hS hl)
theorem Gisub {x y : Int32} (C : Cx z g cc nL own ret D mc ms) (d : decode cc pc = .ok (.isub, 1)) (k : VG z g nL (pc + 1) lv (.int (x - y) :: st) w u kc ks Pf) : VG z g nL pc lv (.int y :: .int x :: st) w u kc ks Pf := by
  obtain ⟨p, l, e, R, s, m, args, below, meth, c⟩ := z
  intro H locs ls hR hS hl
  exact lv_isub C.1 C.2.1 d (k H locs ls hR hS hl)
theorem Gif_eq {x : Int32} {off : Int} {tgt : Nat} (C : Cx z g cc nL own ret D mc ms) (d : decode cc pc = .ok (.ifCond .eq off, 3)) (ht : (pc : Int) + off = (tgt : Int)) (kt : x = 0 → VG z g nL tgt lv st w u kc ks Pf) (kf : ¬ x = 0 → VG z g nL (pc + 3) lv st w u kc ks Pf) : VG z g nL pc lv (.int x :: st) w u kc ks Pf := by
  obtain ⟨p, l, e, R, s, m, args, below, meth, c⟩ := z
  intro H locs ls hR hS hl
  exact lv_if_eq C.1 C.2.1 d ht (fun q => kt q H locs ls hR hS hl) (fun q => kf q H locs ls hR hS hl)
theorem Gif_ne {x : Int32} {off : Int} {tgt : Nat} (C : Cx z g cc nL own ret D mc ms) (d : decode cc pc = .ok (.ifCond .ne off, 3)) (ht : (pc : Int) + off = (tgt : Int)) (kt : ¬ x = 0 → VG z g nL tgt lv st w u kc ks Pf) (kf : x = 0 → VG z g nL (pc + 3) lv st w u kc ks Pf) : VG z g nL pc lv (.int x :: st) w u kc ks Pf := by
  obtain ⟨p, l, e, R, s, m, args, below, meth, c⟩ := z
  intro H locs ls hR hS hl
  exact lv_if_ne C.1 C.2.1 d ht (fun q => kt q H locs ls hR hS hl) (fun q => kf q H locs ls hR hS hl)
theorem Gicmp_eq {x y : Int32} {off : Int} {tgt : Nat} (C : Cx z g cc nL own ret D mc ms) (d : decode cc pc = .ok (.if_icmp .eq off, 3)) (ht : (pc : Int) + off = (tgt : Int)) (kt : x = y → VG z g nL tgt lv st w u kc ks Pf) (kf : ¬ x = y → VG z g nL (pc + 3) lv st w u kc ks Pf) : VG z g nL pc lv (.int y :: .int x :: st) w u kc ks Pf := by
  obtain ⟨p, l, e, R, s, m, args, below, meth, c⟩ := z
  intro H locs ls hR hS hl
  exact lv_icmp_eq C.1 C.2.1 d ht (fun q => kt q H locs ls hR hS hl) (fun q => kf q H locs ls hR hS hl)
theorem Gicmp_ne {x y : Int32} {off : Int} {tgt : Nat} (C : Cx z g cc nL own ret D mc ms) (d : decode cc pc = .ok (.if_icmp .ne off, 3)) (ht : (pc : Int) + off = (tgt : Int)) (kt : ¬ x = y → VG z g nL tgt lv st w u kc ks Pf) (kf : x = y → VG z g nL (pc + 3) lv st w u kc ks Pf) : VG z g nL pc lv (.int y :: .int x :: st) w u kc ks Pf := by
  obtain ⟨p, l, e, R, s, m, args, below, meth, c⟩ := z
  intro H locs ls hR hS hl
  exact lv_icmp_ne C.1 C.2.1 d ht (fun q => kt q H locs ls hR hS hl) (fun q => kf q H locs ls hR hS hl)
theorem Gicmp_ge {x y : Int32} {off : Int} {tgt : Nat} (C : Cx z g cc nL own ret D mc ms) (d : decode cc pc = .ok (.if_icmp .ge off, 3)) (ht : (pc : Int) + off = (tgt : Int)) (kt : y ≤ x → VG z g nL tgt lv st w u kc ks Pf) (kf : ¬ y ≤ x → VG z g nL (pc + 3) lv st w u kc ks Pf) : VG z g nL pc lv (.int y :: .int x :: st) w u kc ks Pf := by
  obtain ⟨p, l, e, R, s, m, args, below, meth, c⟩ := z
  intro H locs ls hR hS hl
  exact lv_icmp_ge C.1 C.2.1 d ht (fun q => kt q H locs ls hR hS hl) (fun q => kf q H locs ls hR hS hl)
theorem Gicmp_lt {x y : Int32} {off : Int} {tgt : Nat} (C : Cx z g cc nL own ret D mc ms) (d : decode cc pc = .ok (.if_icmp .lt off, 3)) (ht : (pc : Int) + off = (tgt : Int)) (kt : x < y → VG z g nL tgt lv st w u kc ks Pf) (kf : ¬ x < y → VG z g nL (pc + 3) lv st w u kc ks Pf) : VG z g nL pc lv (.int y :: .int x :: st) w u kc ks Pf := by
  obtain ⟨p, l, e, R, s, m, args, below, meth, c⟩ := z
  intro H locs ls hR hS hl
  exact lv_icmp_lt C.1 C.2.1 d ht (fun q => kt q H locs ls hR hS hl) (fun q => kf q H locs ls hR hS hl)
theorem Ggoto {off : Int} {tgt : Nat} (C : Cx z g cc nL own ret D mc ms) (d : decode cc pc = .ok (.goto off, 3)) (ht : (pc : Int) + off = (tgt : Int)) (k : VG z g nL tgt lv st w u kc ks Pf) : VG z g nL pc lv st w u kc ks Pf := by
  obtain ⟨p, l, e, R, s, m, args, below, meth, c⟩ := z
  intro H locs ls hR hS hl
  exact lv_goto C.1 C.2.1 d ht (k H locs ls hR hS hl)
theorem Gget {idx t k a : Nat} {v : Value} (C : Cx z g cc nL own ret D mc ms) (d : decode cc pc = .ok (.getfield idx, 3)) (hf : GF own idx t k) (ht : lt_t w a = t) (hv : fv g w u t a k = trv g v) (kk : VG z g nL (pc + 3) lv (v :: st) w u kc ks Pf) : VG z g nL pc lv (.ref a :: st) w u kc ks Pf := by
  obtain ⟨p, l, e, R, s, m, args, below, meth, c⟩ := z
  intro H locs ls hR hS hl
  obtain ⟨hx, hb, -, hown, hts, -, -, hsc, -⟩ := C
  have hK := hsc.1
  obtain ⟨ht13, hk, hlk⟩ := hf
  obtain ⟨cell, q1, q2, q3, q4⟩ := hR.obj ht ht13
  obtain ⟨hSl, hfc, kC, hkC, hkind⟩ := hK.1 t _ (cl_at t ht13)
  obtain ⟨cf, kf, fi, f, hi, hsl⟩ := hSl k hk
  have hst := (u_facts hfc hkC (u_lays hts (cl_ws t ht13) hk) hi).1
  have h5 : cell.slots[f.slot]? = some (trv g v) := by rw [hsl]; rw [← hv]; exact q4 k hk
  have h6 := kk H locs ls hR hS hl
  show W p l e R s m args below meth c H locs kc ks _ (F0 m pc ls (trv g (.ref a) :: st.map (trv g)))
  rw [hR.val (a := a) (by omega)]
  rcases hlk with h | ⟨host, h⟩
  · exact W.getf hx hb hown (hts _ h) hi hst q1 (by rw [q3]; exact fun h => by cases h) h5 rfl rfl d h6
  · exact va_Wgetf hx hb hown (hsc.nest h args) hi hst q1 (by rw [q3]; exact fun h => by cases h) h5 rfl rfl d h6
theorem GgetI {idx t k a : Nat} (C : Cx z g cc nL own ret D mc ms) (d : decode cc pc = .ok (.getfield idx, 3)) (hf : GF own idx t k) (ht : lt_t w a = t) (hk : fk t k = 0) (kk : VG z g nL (pc + 3) lv (.int (gI u a k) :: st) w u kc ks Pf) : VG z g nL pc lv (.ref a :: st) w u kc ks Pf :=
  Gget C d hf ht (by simp [fv, hk, trv]) kk
theorem GgetP {idx t k a b : Nat} (C : Cx z g cc nL own ret D mc ms) (d : decode cc pc = .ok (.getfield idx, 3)) (hf : GF own idx t k) (ht : lt_t w a = t) (hk : fk t k = 1) (hp : lt_p w a k = b) (kk : VG z g nL (pc + 3) lv (.ref b :: st) w u kc ks Pf) : VG z g nL pc lv (.ref a :: st) w u kc ks Pf :=
  Gget C d hf ht (by simp [fv, hk, trv, hp]) kk
theorem GcallV {idx t n a c2 s2 dp ml : Nat} {y : MethodName} {mb : ByteArray} {mr : Option FieldType} {as rest : List Value} {Qa : Option Value → LT → MT → Prop} (C : Cx z g cc nL own ret D mc ms) (d : decode cc pc = .ok (.invokevirtual idx, 3)) (hM : Mt g y mb ml mr dp c2 s2 (.ref a :: as) w u Qa) (hy : YV own idx y mb ml mr n t) (hrv : Rcv w a t) (hst : st = as.reverse ++ .ref a :: rest) (hn : as.length = n) (hrm : (rest.map fun v => v.category).sum ≤ 8) (hml : ml ≤ 45) (hdp : dp + 1 ≤ D) (hc : kc + c2 ≤ mc) (hs : ks + s2 ≤ ms)
    (kk : ∀ v w1 u1, Qa v w1 u1 → VG z g nL (pc + 3) lv (v.toList ++ rest) w1 u1 (kc + c2) (ks + s2) Pf) : VG z g nL pc lv st w u kc ks Pf := by
  obtain ⟨p, l, e, R, s, m, args, below, meth, c⟩ := z
  intro H locs ls hR hS hl
  obtain ⟨hx, hb, hmL, hown, hts, -, -, hsc, hRm⟩ := C
  obtain ⟨⟨hlk, hcd, hin, hd1, hd2, hd3⟩, hi1, hi2, ht13⟩ := hy
  obtain ⟨hva, hcell⟩ := hrv.get hsc hR hS
  subst hst
  have hstk : (as.reverse ++ .ref a :: rest).map (trv g) = (as.map (trv g)).reverse ++ .ref (adr g a) :: rest.map (trv g) := by
    rw [map_rev, List.map_cons, hva]
  have hpre : PreV s H (cS t) (adr g a) (va_Pc ((Value.ref a :: as).map (trv g)) (fun U => Stc g U ∧ Rep g w u U.heap)) (as.map (trv g)) :=
    ⟨Pc_blind g _ w u, hcell, fun U hU hW => ⟨by rw [List.map_cons, hva], hsc.now hS hU hW, by rw [hU]; exact hR⟩⟩
  have hR1 : (rmD dp c2 s2).frames + 1 ≤ R.frames ∧ 8 + (ml + 11) + (rmD dp c2 s2).locals ≤ R.locals := by
    rw [hRm]
    show dp + 1 ≤ D ∧ 8 + (ml + 11) + 64 * dp ≤ 64 * D
    omega
  have hlen : (as.map (trv g)).length = n := by rw [List.length_map]; exact hn
  have hfit : kc + c2 ≤ R.cells ∧ ks + s2 ≤ R.slots := by rw [hRm]; exact ⟨hc, hs⟩
  rw [hstk]
  have fin : ∀ (v : Option Value) (w1 : LT) (u1 : MT) (H1 : Heap) (locs1 : List Loc), Qa v w1 u1 → Rep g w1 u1 H1 → va_S (fr g) s.heap H1 locs1 → W p l e R s m args below meth c H1 locs1 (kc + c2) (ks + s2) Pf (F0 m (pc + 3) ls ((v.map (trv g)).toList ++ rest.map (trv g))) := by
    intro v w1 u1 H1 locs1 q1 q2 q3
    have h9 := kk v w1 u1 q1 H1 locs1 ls q2 q3 hl
    cases v <;> exact h9
  rcases hlk with h | ⟨host, h⟩
  · exact Vrun_go (va_runV ⟨hx, hb, hmL, hown, hts⟩ (hM l) ⟨callB_of n hts (good_cons hcd) rfl rfl rfl (hts _ hin) (hts _ h) ⟨hd1, hd2, hd3⟩ hR1, hts _ hi1, hts _ hi2⟩ hpre rfl hlen hl.1 rfl (lv_roomT hrm) d hfit) hS fin
  · exact Vrun_go (va_runVN ⟨hx, hb, hmL, hown, hts⟩ (hM l) ⟨va_cnB n hts (good_cons hcd) rfl rfl rfl (hsc.2.2.2.2.1 _ h) (hts _ hin) ⟨hd1, hd2, hd3⟩ hR1, hts _ hi1, hts _ hi2⟩ hpre rfl hlen hl.1 rfl (lv_roomT hrm) d hfit) hS fin
theorem GcallS {idx n c2 s2 dp ml : Nat} {y : MethodName} {mb : ByteArray} {mr : Option FieldType} {as rest : List Value} {Qa : Option Value → LT → MT → Prop} (C : Cx z g cc nL own ret D mc ms) (d : decode cc pc = .ok (.invokestatic idx, 3)) (hM : Mt g y mb ml mr dp c2 s2 as w u Qa) (hy : YB own idx y mb ml mr n) (hsta : Cond.static y ∈ WT) (hst : st = as.reverse ++ rest) (hn : as.length = n) (hrm : (rest.map fun v => v.category).sum ≤ 8) (hml : ml ≤ 45) (hdp : dp + 1 ≤ D) (hc : kc + c2 ≤ mc) (hs : ks + s2 ≤ ms)
    (kk : ∀ v w1 u1, Qa v w1 u1 → VG z g nL (pc + 3) lv (v.toList ++ rest) w1 u1 (kc + c2) (ks + s2) Pf) : VG z g nL pc lv st w u kc ks Pf := by
  obtain ⟨p, l, e, R, s, m, args, below, meth, c⟩ := z
  intro H locs ls hR hS hl
  obtain ⟨hx, hb, hmL, hown, hts, -, -, hsc, hRm⟩ := C
  obtain ⟨hlk, hcd, hin, hd1, hd2, hd3⟩ := hy
  subst hst
  have hstk : (as.reverse ++ rest).map (trv g) = (as.map (trv g)).reverse ++ rest.map (trv g) := map_rev g as rest
  have hpre : PreS s H (va_Pc (as.map (trv g)) (fun U => Stc g U ∧ Rep g w u U.heap)) (as.map (trv g)) :=
    ⟨Pc_blind g _ w u, fun U hU hW => ⟨rfl, hsc.now hS hU hW, by rw [hU]; exact hR⟩⟩
  have hR1 : (rmD dp c2 s2).frames + 1 ≤ R.frames ∧ 8 + (ml + 11) + (rmD dp c2 s2).locals ≤ R.locals := by
    rw [hRm]
    show dp + 1 ≤ D ∧ 8 + (ml + 11) + 64 * dp ≤ 64 * D
    omega
  have hlen : (as.map (trv g)).length = n := by rw [List.length_map]; exact hn
  have hfit : kc + c2 ≤ R.cells ∧ ks + s2 ≤ R.slots := by rw [hRm]; exact ⟨hc, hs⟩
  rw [hstk]
  have fin : ∀ (v : Option Value) (w1 : LT) (u1 : MT) (H1 : Heap) (locs1 : List Loc), Qa v w1 u1 → Rep g w1 u1 H1 → va_S (fr g) s.heap H1 locs1 → W p l e R s m args below meth c H1 locs1 (kc + c2) (ks + s2) Pf (F0 m (pc + 3) ls ((v.map (trv g)).toList ++ rest.map (trv g))) := by
    intro v w1 u1 H1 locs1 q1 q2 q3
    have h9 := kk v w1 u1 q1 H1 locs1 ls q2 q3 hl
    cases v <;> exact h9
  rcases hlk with h | ⟨host, h⟩
  · exact Vrun_go (va_runS ⟨hx, hb, hmL, hown, hts⟩ (hM l) ⟨callB_of n hts (good_cons hcd) rfl rfl rfl (hts _ hin) (hts _ h) ⟨hd1, hd2, hd3⟩ hR1, hts _ hsta⟩ hpre rfl hlen hl.1 rfl (lv_roomT hrm) d hfit) hS fin
  · exact Vrun_go (va_runSN ⟨hx, hb, hmL, hown, hts⟩ (hM l) ⟨va_cnB n hts (good_cons hcd) rfl rfl rfl (hsc.2.2.2.2.1 _ h) (hts _ hin) ⟨hd1, hd2, hd3⟩ hR1, hts _ hsta, trivial⟩ hpre rfl hlen hl.1 rfl (lv_roomT hrm) d hfit) hS fin
theorem GKint {x : Int32} {w1 : LT} {u1 : MT} {k2 s2 : Nat} {rest : List Value} (k : VG z g nL pc lv (.int x :: rest) w1 u1 k2 s2 Pf) : ∀ v w2 u2, Qi x w1 u1 v w2 u2 → VG z g nL pc lv (v.toList ++ rest) w2 u2 k2 s2 Pf := by
  rintro v w2 u2 ⟨rfl, rfl, rfl⟩
  exact k
theorem GKvoid {w1 : LT} {u1 : MT} {k2 s2 : Nat} {rest : List Value} (k : VG z g nL pc lv rest w1 u1 k2 s2 Pf) : ∀ v w2 u2, Qv w1 u1 v w2 u2 → VG z g nL pc lv (v.toList ++ rest) w2 u2 k2 s2 Pf := by
  rintro v w2 u2 ⟨rfl, rfl, rfl⟩
  exact k
end VANY
