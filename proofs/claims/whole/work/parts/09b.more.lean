/-! ===== EACH, texts of tokens, arraycopy, books ===== -/
theorem ix_lt {i : Int32} {n : Nat} (h : ixo i n) : i.toNatClampNeg < n := by
  have h1 : ((i.toInt.toNat : Nat) : Int) < n := by rw [Int.toNat_of_nonneg h.1]; exact h.2
  show i.toInt.toNat < n
  omega
theorem each_le {i : Int32} (h : ixo i 34) : i.toNatClampNeg + 1 ≤ 34 := ix_lt h
theorem bk_130 {w : LT} (h : Lay w) : isBk w 130 128 := ⟨kt_130 h, kp_130_0 h, kp_130_1 h, kp_130_2 h, kp_130_3 h, ⟨kp_130_6 h, kt_131 h, kl_131 h⟩, ⟨kp_130_7 h, kt_132 h, kl_132 h⟩, ⟨kp_130_8 h, kt_133 h, kl_133 h⟩, ⟨kp_130_9 h, kt_134 h, kl_134 h⟩, ⟨kp_130_10 h, kt_135 h, kl_135 h⟩, ⟨kt_128 h, kp_128_0 h, kt_129 h, kl_129 h⟩⟩
theorem ts_128 {w : LT} (h : Lay w) : isTs w 128 := ⟨kt_128 h, kp_128_0 h, kt_129 h, kl_129 h⟩
theorem ts_138 {w : LT} (h : Lay w) : isTs w 138 := ⟨kt_138 h, kp_138_0 h, kt_139 h, kl_139 h⟩
def cpI (u : MT) (a0 a s d n : Nat) : MT := ((fun b => if b = a then va_cpy (u.1 a0) (u.1 a) s d n else u.1 b), u.2)
/-- the text that a token is spelled by -/
def tkS (x : Nat) : Nat := 36 + tkX (x - 1)
section VSTR
variable {z : ZT} {g : GT} {cc : ByteArray} {nL : Nat} {own : String} {ret : Option FieldType} {D mc ms : Nat} {pc : Nat} {lv lv' : List (Nat × Value)} {st : List Value} {w w' : LT} {u u' : MT} {kc ks : Nat} {Q : Option Value → LT → MT → Prop}
theorem Veach {idx : Nat} (C : Cx z g cc nL own ret D mc ms) (d : decode cc pc = .ok (.getstatic idx, 3)) (hw : Cond.fieldLink own idx "SunVillage$Token" "EACH" "[LSunVillage$Token;" ∈ WT) (kk : V z g nL (pc + 3) lv (.ref 35 :: st) w u kc ks Q) : V z g nL pc lv st w u kc ks Q := by
  obtain ⟨p, l, e, R, s, m, args, below, meth, c⟩ := z
  intro H locs ls hR hS hl
  have hst := C.2.2.2.2.2.2.2.1
  exact va_gets C.1 C.2.1 hst.2.2.1.1 hS C.2.2.2.1 (C.2.2.2.2.1 _ hw) (fun _ h => h) d (kk H locs ls hR hS hl)
theorem Veachl (C : Cx z g cc nL own ret D mc ms) (d : decode cc pc = .ok (.arraylength, 1)) (kk : V z g nL (pc + 1) lv (.int 34 :: st) w u kc ks Q) : V z g nL pc lv (.ref 35 :: st) w u kc ks Q := by
  obtain ⟨p, l, e, R, s, m, args, below, meth, c⟩ := z
  intro H locs ls hR hS hl
  exact va_tlen C.1 C.2.1 C.2.2.2.2.2.2.2.1.2.2.1.2.1 hS (by decide) d (kk H locs ls hR hS hl)
theorem Veachi {i : Int32} (C : Cx z g cc nL own ret D mc ms) (d : decode cc pc = .ok (.aaload, 1)) (hin : ixo i 34) (kk : V z g nL (pc + 1) lv (.ref (i.toNatClampNeg + 1) :: st) w u kc ks Q) : V z g nL pc lv (.int i :: .ref 35 :: st) w u kc ks Q := by
  obtain ⟨p, l, e, R, s, m, args, below, meth, c⟩ := z
  intro H locs ls hR hS hl
  obtain ⟨cell, h1, h2, h3, h4, h5, h6, h7⟩ := C.2.2.2.2.2.2.2.1.2.2.1.2.1
  have hlt := ix_lt hin
  have hv : trv g (.ref (i.toNatClampNeg + 1)) = .ref (gad g i.toNatClampNeg) := by simp [trv, tr, adr, show i.toNatClampNeg + 1 ≤ 34 by omega]
  have h8 := kk H locs ls hR hS hl
  rw [List.map_cons, hv] at h8
  exact W.aald (v := .ref (gad g i.toNatClampNeg)) C.1 C.2.1 (by show H[gea g]? = some cell; rw [hS.2.1 _ (Array.getElem?_eq_some_iff.mp h1).1 h7]; exact h1) h2 rfl h3 (fun q => by rcases q with q | q; exact vp_in_iff.mpr hin (Or.inl q); omega) (h6 _ hlt) rfl rfl d h8
theorem tkS_adr (g : GT) {x : Nat} (h1 : 1 ≤ x) (h2 : x ≤ 34) : trv g (.ref (tkS x)) = .ref (gk g (tkX (x - 1))) := by
  have h3 : tkX (x - 1) < 32 := by unfold tkX; omega
  simp [trv, tr, adr, tkS, show ¬ 36 + tkX (x - 1) ≤ 34 by omega, show ¬ 36 + tkX (x - 1) = 35 by omega, show 36 + tkX (x - 1) < 68 by omega]
theorem Vtoks {idx x : Nat} (C : Cx z g cc nL own ret D mc ms) (d : decode cc pc = .ok (.getfield idx, 3)) (hw : Cond.fieldLink own idx "SunVillage$Token" "spelling" "Ljava/lang/String;" ∈ WT ∨ ∃ host, Cond.fieldLinkNest own idx "SunVillage$Token" "spelling" "Ljava/lang/String;" host ∈ NWs) (hx1 : 1 ≤ x) (hx2 : x ≤ 34) (kk : V z g nL (pc + 3) lv (.ref (tkS x) :: st) w u kc ks Q) : V z g nL pc lv (.ref x :: st) w u kc ks Q := by
  obtain ⟨p, l, e, R, s, m, args, below, meth, c⟩ := z
  intro H locs ls hR hS hl
  have hst := C.2.2.2.2.2.2.2.1
  have hv : trv g (.ref x) = .ref (gad g (x - 1)) := by simp [trv, tr, adr, hx2, show ¬ x = 0 by omega]
  have h2 := kk H locs ls hR hS hl
  rw [List.map_cons, tkS_adr g hx1 hx2] at h2
  rw [List.map_cons, hv]
  obtain ⟨cf, k, fi, f, cell, h1, h3, h4, h5, h6, h7⟩ := (hst.2.2.1.2.2.1 (x - 1) (by omega)).kept hS.2.1
  rcases hw with hw | ⟨host, hw⟩
  · exact W.getf C.1 C.2.1 C.2.2.2.1 (C.2.2.2.2.1 _ hw) h1 h3 h4 h5 h6 rfl rfl d h2
  · exact va_Wgetf C.1 C.2.1 C.2.2.2.1 (hst.nest hw args) h1 h3 h4 h5 h6 rfl rfl d h2
/-! texts: 36 + k, their bytes: 68 + k -/
theorem str_adr (g : GT) {k : Nat} (h : k < 32) : trv g (.ref (36 + k)) = .ref (gk g k) ∧ adr g (36 + k) = gk g k := by
  have h1 : adr g (36 + k) = gk g k := by simp [adr, show ¬ 36 + k ≤ 34 by omega, show ¬ 36 + k = 35 by omega, show 36 + k < 68 by omega]
  exact ⟨by simp [trv, tr, h1], h1⟩
theorem byt_adr (g : GT) {k : Nat} (h : k < 32) : trv g (.ref (68 + k)) = .ref (gv g k) := by
  have h1 : adr g (68 + k) = gv g k := by simp [adr, show ¬ 68 + k ≤ 34 by omega, show ¬ 68 + k = 35 by omega, show ¬ 68 + k < 68 by omega, show 68 + k < 100 by omega]
  simp [trv, tr, h1]
theorem VstrV {idx k : Nat} (C : Cx z g cc nL own ret D mc ms) (d : decode cc pc = .ok (.getfield idx, 3)) (hw : Cond.fieldLink own idx "java/lang/String" "value" "[B" ∈ WT) (hk : k < 32) (kk : V z g nL (pc + 3) lv (.ref (68 + k) :: st) w u kc ks Q) : V z g nL pc lv (.ref (36 + k) :: st) w u kc ks Q := by
  obtain ⟨p, l, e, R, s, m, args, below, meth, c⟩ := z
  intro H locs ls hR hS hl
  have h2 := kk H locs ls hR hS hl
  rw [List.map_cons, byt_adr g hk] at h2
  rw [List.map_cons, (str_adr g hk).1]
  obtain ⟨cf, k1, fi, f, cell, h1, h3, h4, h5, h6, h7⟩ := ((C.2.2.2.2.2.2.2.1.2.2.1.2.2.2.1 k hk).2.2.1).kept hS.2.1
  exact W.getf C.1 C.2.1 C.2.2.2.1 (C.2.2.2.2.1 _ hw) h1 h3 h4 h5 h6 rfl rfl d h2
theorem VstrC {idx k : Nat} (C : Cx z g cc nL own ret D mc ms) (d : decode cc pc = .ok (.getfield idx, 3)) (hw : Cond.fieldLink own idx "java/lang/String" "coder" "B" ∈ WT) (hk : k < 32) (kk : V z g nL (pc + 3) lv (.int 0 :: st) w u kc ks Q) : V z g nL pc lv (.ref (36 + k) :: st) w u kc ks Q := by
  obtain ⟨p, l, e, R, s, m, args, below, meth, c⟩ := z
  intro H locs ls hR hS hl
  have h2 := kk H locs ls hR hS hl
  rw [List.map_cons, (str_adr g hk).1]
  obtain ⟨cf, k1, fi, f, cell, h1, h3, h4, h5, h6, h7⟩ := ((C.2.2.2.2.2.2.2.1.2.2.1.2.2.2.1 k hk).2.1).kept hS.2.1
  exact W.getf C.1 C.2.1 C.2.2.2.1 (C.2.2.2.2.1 _ hw) h1 h3 h4 h5 h6 rfl rfl d h2
theorem VgetZ {idx : Nat} (C : Cx z g cc nL own ret D mc ms) (d : decode cc pc = .ok (.getstatic idx, 3)) (hw : Cond.fieldLink own idx "java/lang/String" "COMPACT_STRINGS" "Z" ∈ WT) (kk : V z g nL (pc + 3) lv (.int 1 :: st) w u kc ks Q) : V z g nL pc lv st w u kc ks Q := by
  obtain ⟨p, l, e, R, s, m, args, below, meth, c⟩ := z
  intro H locs ls hR hS hl
  exact va_gets C.1 C.2.1 C.2.2.2.2.2.2.2.1.2.2.2.2.2.2.2.2.1 hS C.2.2.2.1 (C.2.2.2.2.1 _ hw) (fun _ h => h) d (kk H locs ls hR hS hl)
theorem VbytL {k : Nat} (C : Cx z g cc nL own ret D mc ms) (d : decode cc pc = .ok (.arraylength, 1)) (hk : k < 32) (kk : V z g nL (pc + 1) lv (.int (Int32.ofNat (tkL.getD k 0)) :: st) w u kc ks Q) : V z g nL pc lv (.ref (68 + k) :: st) w u kc ks Q := by
  obtain ⟨p, l, e, R, s, m, args, below, meth, c⟩ := z
  intro H locs ls hR hS hl
  rw [List.map_cons, byt_adr g hk]
  exact va_tlen C.1 C.2.1 (C.2.2.2.2.2.2.2.1.2.2.1.2.2.2.1 k hk).2.2.2 hS rfl d (kk H locs ls hR hS hl)
theorem VbytI {k : Nat} {i : Int32} (C : Cx z g cc nL own ret D mc ms) (d : decode cc pc = .ok (.baload, 1)) (hk : k < 32) (hin : ixo i (tkL.getD k 0)) (kk : V z g nL (pc + 1) lv (.int ((tkB.getD k []).getD i.toNatClampNeg 0) :: st) w u kc ks Q) : V z g nL pc lv (.int i :: .ref (68 + k) :: st) w u kc ks Q := by
  obtain ⟨p, l, e, R, s, m, args, below, meth, c⟩ := z
  intro H locs ls hR hS hl
  show W p l e R s m args below meth c H locs kc ks _ (F0 m pc ls (.int i :: trv g (.ref (68 + k)) :: st.map (trv g)))
  rw [byt_adr g hk]
  exact va_tb C.1 C.2.1 (C.2.2.2.2.2.2.2.1.2.2.1.2.2.2.1 k hk).2.2.2 hS (vp_in_iff.mpr hin) rfl d (kk H locs ls hR hS hl)
theorem Vnret {x : Int32} {ty : FieldType} (C : Cx z g cc nL own (some ty) D mc ms) (d : decode cc pc = .ok (.ireturn, 1)) (hn : narrow ty (.int x) = .int x) (h1 : kc ≤ mc) (h2 : ks ≤ ms) (hq : Q (some (.int x)) w u) : V z g nL pc lv [.int x] w u kc ks Q := by
  obtain ⟨p, l, e, R, s, m, args, below, meth, c⟩ := z
  intro H locs ls hR hS hl
  obtain ⟨hx, hb, -, hown, hts, hr, hlk, -, hRm⟩ := C
  subst hRm
  exact W.widen h1 h2 (W.zret hx hb hr hn (fun t ht _ => Vret_end (v := some (.int x)) hR hS hq ht args) hS.2.2 d)
theorem Vishr {x y : Int32} (C : Cx z g cc nL own ret D mc ms) (d : decode cc pc = .ok (.ishr, 1)) (k : V z g nL (pc + 1) lv (.int (x >>> (y &&& 31)) :: st) w u kc ks Q) : V z g nL pc lv (.int y :: .int x :: st) w u kc ks Q := by
  obtain ⟨p, l, e, R, s, m, args, below, meth, c⟩ := z
  intro H locs ls hR hS hl
  exact lv_ishr C.1 C.2.1 d (k H locs ls hR hS hl)
/-- a call on a constant text -/
theorem VcallT {idx n k c2 s2 dp ml : Nat} {y : MethodName} {mb : ByteArray} {mr : Option FieldType} {as rest : List Value} {Qa : Option Value → LT → MT → Prop} (C : Cx z g cc nL own ret D mc ms) (d : decode cc pc = .ok (.invokevirtual idx, 3)) (hM : Mt g y mb ml mr dp c2 s2 (.ref (36 + k) :: as) w u Qa) (hy : YB own idx y mb ml mr n) (hi1 : Cond.instanceMethod y ∈ WT) (hi2 : Cond.selects "java/lang/String" y y ∈ WT) (hk : k < 32) (hst : st = as.reverse ++ .ref (36 + k) :: rest) (hn : as.length = n) (hrm : (rest.map fun v => v.category).sum ≤ 8) (hml : ml ≤ 45) (hdp : dp + 1 ≤ D) (hc : kc + c2 ≤ mc) (hs : ks + s2 ≤ ms)
    (kk : ∀ v w1 u1, Qa v w1 u1 → V z g nL (pc + 3) lv (v.toList ++ rest) w1 u1 (kc + c2) (ks + s2) Q) : V z g nL pc lv st w u kc ks Q := by
  obtain ⟨p, l, e, R, s, m, args, below, meth, c⟩ := z
  intro H locs ls hR hS hl
  obtain ⟨hx, hb, hmL, hown, hts, -, -, hsc, hRm⟩ := C
  obtain ⟨hlk, hcd, hin, hd1, hd2, hd3⟩ := hy
  obtain ⟨hva, hadr⟩ := str_adr g hk
  obtain ⟨cell, g1, g2, g3⟩ := vk_recv hsc.2.2.1.2.2.2 hk hS
  subst hst
  have hstk : (as.reverse ++ .ref (36 + k) :: rest).map (trv g) = (as.map (trv g)).reverse ++ .ref (gk g k) :: rest.map (trv g) := by
    rw [map_rev, List.map_cons, hva]
  have hpre : PreV s H "java/lang/String" (gk g k) (va_Pc ((Value.ref (36 + k) :: as).map (trv g)) (fun U => Stc g U ∧ Rep g w u U.heap)) (as.map (trv g)) :=
    ⟨Pc_blind g _ w u, ⟨cell, g1, g2, g3⟩, fun U hU hW => ⟨by rw [List.map_cons, hva], hsc.now hS hU hW, by rw [hU]; exact hR⟩⟩
  have hR1 : (rmD dp c2 s2).frames + 1 ≤ R.frames ∧ 8 + (ml + 11) + (rmD dp c2 s2).locals ≤ R.locals := by
    rw [hRm]
    show dp + 1 ≤ D ∧ 8 + (ml + 11) + 64 * dp ≤ 64 * D
    omega
  have hlen : (as.map (trv g)).length = n := by rw [List.length_map]; exact hn
  have hfit : kc + c2 ≤ R.cells ∧ ks + s2 ≤ R.slots := by rw [hRm]; exact ⟨hc, hs⟩
  rw [hstk]
  have fin : ∀ (v : Option Value) (w1 : LT) (u1 : MT) (H1 : Heap) (locs1 : List Loc), Qa v w1 u1 → Rep g w1 u1 H1 → va_S (fr g) s.heap H1 locs1 → W p l e R s m args below meth c H1 locs1 (kc + c2) (ks + s2) (MQ below (QQ g Q) args s R.cells R.slots (fr g)) (F0 m (pc + 3) ls ((v.map (trv g)).toList ++ rest.map (trv g))) := by
    intro v w1 u1 H1 locs1 q1 q2 q3
    have h9 := kk v w1 u1 q1 H1 locs1 ls q2 q3 hl
    cases v <;> exact h9
  rcases hlk with h | ⟨host, h⟩
  · exact Vrun_go (va_runV ⟨hx, hb, hmL, hown, hts⟩ (hM l) ⟨callB_of n hts (good_cons hcd) rfl rfl rfl (hts _ hin) (hts _ h) ⟨hd1, hd2, hd3⟩ hR1, hts _ hi1, hts _ hi2⟩ hpre rfl hlen hl.1 rfl (lv_roomT hrm) d hfit) hS fin
  · exact Vrun_go (va_runVN ⟨hx, hb, hmL, hown, hts⟩ (hM l) ⟨va_cnB n hts (good_cons hcd) rfl rfl rfl (hsc.2.2.2.2.1 _ h) (hts _ hin) ⟨hd1, hd2, hd3⟩ hR1, hts _ hi1, hts _ hi2⟩ hpre rfl hlen hl.1 rfl (lv_roomT hrm) d hfit) hS fin
theorem Vcopy {idx a0 a n0 n1 : Nat} {sp dp n : Int32} (C : Cx z g cc nL own ret D mc ms) (d : decode cc pc = .ok (.invokestatic idx, 3)) (w1 : Cond.methodLink own idx arraycopyName ∈ WT) (w2 : Cond.native arraycopyName ∈ WT) (w3 : Cond.static arraycopyName ∈ WT) (w4 : Cond.initialized "java/lang/System" ∈ WT)
    (ht0 : lt_t w a0 = 20) (hn0 : lt_l w a0 = n0) (ht : lt_t w a = 20) (hn : lt_l w a = n1) (h0 : 0 ≤ sp.toInt ∧ 0 ≤ dp.toInt ∧ 0 ≤ n.toInt ∧ sp.toInt + n.toInt ≤ n0 ∧ dp.toInt + n.toInt ≤ n1) (hrm : (st.map fun v => v.category).sum ≤ 8) (hD : 1 ≤ D)
    (kk : V z g nL (pc + 3) lv st w (cpI u a0 a sp.toNatClampNeg dp.toNatClampNeg n.toNatClampNeg) kc ks Q) : V z g nL pc lv (.int n :: .int dp :: .ref a :: .int sp :: .ref a0 :: st) w u kc ks Q := by
  obtain ⟨p, l, e, R, s, m, args, below, meth, c⟩ := z
  intro H locs ls hR hS hl
  obtain ⟨hx, hb, hmL, hown, hts, -, -, hsc, hRm⟩ := C
  obtain ⟨p1, p2, p3, p4, p5⟩ := h0
  have ng : ∀ x : Int32, 0 ≤ x.toInt → ¬ x < 0 := fun x h q => by have := Int32.lt_iff_toInt_lt.mp q; simp at this; omega
  have e0 : av g w u 20 a0 = fun j => .int (u.1 a0 j) := by funext j; simp [av, gI]
  have e1 : av g w u 20 a = fun j => .int (u.1 a j) := by funext j; simp [av, gI]
  have hc0 := hR.arr ht0 (by omega) (by omega)
  have hc1 := hR.arr ht (by omega) (by omega)
  rw [e0, hn0] at hc0
  rw [e1, hn] at hc1
  obtain ⟨-, k0, hk0, cm0, hkk0⟩ := (hsc.arr (t := 20) (by omega) (by omega)).1 n0 (fun j => .int (u.1 a0 j))
  have hty : ((refKind FieldType.int != refKind FieldType.int) || (!refKind FieldType.int && FieldType.int != FieldType.int)) = false := by decide
  have hcp : copied (arrV (gA g 20) n0 (fun j => .int (u.1 a0 j))) (arrV (gA g 20) n1 (fun j => .int (u.1 a j))) sp dp n = arrV (gA g 20) n1 (fun j => .int (va_cpy (u.1 a0) (u.1 a) sp.toNatClampNeg dp.toNatClampNeg n.toNatClampNeg j)) := by
    refine va_copied (fun x => .int x) _ _ _ _ ?_
    show sp.toInt.toNat + n.toInt.toNat ≤ n0
    omega
  show W p l e R s m args below meth c H locs kc ks _ (F0 m pc ls (.int n :: .int dp :: trv g (.ref a) :: .int sp :: trv g (.ref a0) :: st.map (trv g)))
  rw [hR.val (a := a) (by omega), hR.val (a := a0) (by omega)]
  intro T hT X
  subst hT
  obtain ⟨vm', X', step⟩ := X.arraycopy hx hown (hts _ w1) (hts _ w2) (hts _ w3) (hts _ w4) (srcPos := sp) (destPos := dp) (n := n) hc0 hc1 (fun k h => by cases h) (fun k h => by cases h) (fun h => by cases h) (fun h => by cases h) hk0 hk0 hkk0 hkk0 hty (ng sp p1) (ng dp p2) (ng n p3)
    (by rw [arrV_size]; omega) (by rw [arrV_size]; omega)
    (fun vm2 _ i hi => by
      have hlt : sp.toNatClampNeg + i < n0 := by
        have : i < n.toInt.toNat := hi
        show sp.toInt.toNat + i < n0
        omega
      have e9 : (arrV (gA g 20) n0 (fun j => Value.int (u.1 a0 j))).slots.getD (sp.toNatClampNeg + i) .null = .int (u.1 a0 (sp.toNatClampNeg + i)) := by
        rw [Array.getD_eq_getD_getElem?, arrV_read _ _ hlt]
        rfl
      rw [e9]
      exact ⟨rfl, trivial⟩)
    (g := F0 m pc ls (.int n :: .int dp :: .ref (adr g a) :: .int sp :: .ref (adr g a0) :: st.map (trv g))) rfl (by rw [hmL]; exact hl.1) (rest := st.map (trv g)) rfl (by rw [hb]; exact d) (by rw [hRm]; exact hD)
    (by
      rw [hRm, trm_sum]
      have h7 : nativeFrameWords "java/lang/System" "arraycopy" 5 ≤ 40 := by decide +kernel
      show 2 * 0 + _ + _ ≤ 64 * D
      omega)
  rw [hcp] at X' step
  have hl1 : adr g a < T.heap.size := (Array.getElem?_eq_some_iff.mp hc1).1
  have oq : ∀ q : Nat, q ≠ adr g a → (T.heap.setIfInBounds (adr g a) (arrV (gA g 20) n1 (fun j => .int (va_cpy (u.1 a0) (u.1 a) sp.toNatClampNeg dp.toNatClampNeg n.toNatClampNeg j))))[q]? = T.heap[q]? := fun q hq => by simp [Array.getElem?_setIfInBounds, Ne.symm hq]
  have hU : Upd w u w (cpI u a0 a sp.toNatClampNeg dp.toNatClampNeg n.toNatClampNeg) a := ⟨rfl, fun _ => rfl, fun _ => rfl, fun b hb => ⟨rfl, by simp [cpI, hb], rfl, rfl⟩⟩
  have hR' : Rep g w (cpI u a0 a sp.toNatClampNeg dp.toNatClampNeg n.toNatClampNeg) (T.heap.setIfInBounds (adr g a) (arrV (gA g 20) n1 (fun j => .int (va_cpy (u.1 a0) (u.1 a) sp.toNatClampNeg dp.toNatClampNeg n.toNatClampNeg j)))) := by
    refine hR.put hU (by omega) (by simp) oq ⟨fun q => absurd q (by omega), fun _ _ => ?_⟩
    rw [ht, hn]
    rw [show av g w (cpI u a0 a sp.toNatClampNeg dp.toNatClampNeg n.toNatClampNeg) 20 a = fun j => .int (va_cpy (u.1 a0) (u.1 a) sp.toNatClampNeg dp.toNatClampNeg n.toNatClampNeg j) by funext j; simp [av, gI, cpI]]
    simp [Array.getElem?_setIfInBounds, hl1]
  obtain ⟨t, a1, b1⟩ := kk _ _ ls hR' ⟨by simp; exact hS.1, fun q g1 g2 => by
      rw [oq q (fun e => g2 (by rw [e]; exact hR.fr (by omega)))]
      exact hS.2.1 q g1 g2, fun q hq => by
      rcases List.mem_append.mp hq with h | h
      · exact hS.2.2 q h
      · obtain ⟨x, -, hx⟩ := List.mem_map.mp h
        rw [← hx]
        exact hR.fr (by omega)⟩ hl _ rfl X'
  exact ⟨t, step t a1, b1⟩
end VSTR
