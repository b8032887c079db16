/-! ===== NEW CELLS, STATICS, CALLS, RETURNS ===== -/
/-- a new cell of a kind and a length, all of it 0 -/
def nwL (w : LT) (t n : Nat) : LT := (w.1 + 1, (fun b => if b = w.1 then t else w.2.1 b), (fun b => if b = w.1 then n else w.2.2.1 b), fun b => if b = w.1 then (fun _ => 0) else w.2.2.2 b)
def nwM (w : LT) (u : MT) : MT := ((fun b => if b = w.1 then (fun _ => 0) else u.1 b), (fun b => if b = w.1 then (fun _ => 0) else u.2.1 b), fun b => if b = w.1 then (fun _ => 0) else u.2.2 b)
theorem Rep.new {g : GT} {w : LT} {u : MT} {H H' : Heap} {t n : Nat} (hR : Rep g w u H) (z : H'.size = H.size + 1) (oq : ∀ q : Nat, q < H.size → H'[q]? = H[q]?) (hc : cellOk g (nwL w t n) (nwM w u) w.1 H') : Rep g (nwL w t n) (nwM w u) H' := by
  obtain ⟨h1, h2, h3, h4⟩ := hR
  have e1 : lt_n (nwL w t n) = lt_n w + 1 := rfl
  refine ⟨by rw [z, h1, e1]; omega, by rw [e1]; omega, fun b hb => ?_, fun b hb1 hb2 => ?_⟩
  · rw [e1] at hb
    have hne : b ≠ w.1 := by have : lt_n w = w.1 := rfl; omega
    show (if b = w.1 then t else w.2.1 b) = 99
    rw [if_neg hne]
    exact h3 b (by omega)
  · by_cases hba : b = w.1
    · rw [hba]; exact hc
    · have hlt : b < lt_n w := by have : lt_n w = w.1 := rfl; rw [e1] at hb2; omega
      refine (h4 b hb1 hlt).go (if_neg hba) (if_neg hba) (if_neg hba) (if_neg hba) (if_neg hba) (if_neg hba) (oq _ ?_)
      rw [adr_dyn g hb1, h1]
      have : lt_n w = w.1 := rfl
      omega
theorem nw_adr {g : GT} {w : LT} {u : MT} {H : Heap} (hR : Rep g w u H) : adr g w.1 = H.size := by
  have h2 : 100 ≤ w.1 := hR.2.1
  rw [adr_dyn g h2, hR.1]
theorem va_S_new {g : GT} {H0 H H' : Heap} {locs : List Loc} (hS : va_S (fr g) H0 H locs) (z : H'.size = H.size + 1) (oq : ∀ q : Nat, q < H.size → H'[q]? = H[q]?) : va_S (fr g) H0 H' locs :=
  ⟨Nat.le_trans hS.1 (by omega), fun x h1 h2 => (oq x (Nat.lt_of_lt_of_le h1 hS.1)).trans (hS.2.1 x h1 h2), hS.2.2⟩
/-- a method's contract over the memory -/
def Mt (g : GT) (y : MethodName) (mb : ByteArray) (ml : Nat) (mr : Option FieldType) (dp mc ms : Nat) (as : List Value) (w : LT) (u : MT) (Q : Option Value → LT → MT → Prop) : Prop :=
  ∀ l : Launch, Met l y (.code y mb ml mr :: WT) (rmD dp mc ms) (va_Pc (as.map (trv g)) (fun U => Stc g U ∧ Rep g w u U.heap)) (QQ g Q) mc ms (fr g)
/-- what a call's constant says -/
def YB (own : String) (idx : Nat) (y : MethodName) (mb : ByteArray) (ml : Nat) (mr : Option FieldType) (n : Nat) : Prop :=
  (Cond.methodLink own idx y ∈ WT ∨ ∃ host, Cond.methodLinkNest own idx y host ∈ NWs) ∧ Cond.code y mb ml mr ∈ WT ∧ Cond.initialized y.cls ∈ WT ∧ (y.cls ≠ "java/lang/invoke/MethodHandle" ∧ y.cls ≠ "java/lang/invoke/VarHandle" ∧ (parseMethodDescriptor y.desc).map (fun d => d.parameters.length) = some n)
def YV (own : String) (idx : Nat) (y : MethodName) (mb : ByteArray) (ml : Nat) (mr : Option FieldType) (n t : Nat) : Prop := YB own idx y mb ml mr n ∧ Cond.instanceMethod y ∈ WT ∧ Cond.selects (cS t) y y ∈ WT ∧ t < 13
theorem good_cons {y : MethodName} {mb : ByteArray} {ml : Nat} {mr : Option FieldType} (h : Cond.code y mb ml mr ∈ WT) : GoodIn WT (.code y mb ml mr :: WT) := fun w hw => (List.mem_cons.mp hw).elim (fun e => by rw [e]; exact WT_good _ h) (fun h2 => WT_good w h2)
section VCALL
variable {z : ZT} {g : GT} {cc : ByteArray} {nL : Nat} {own : String} {ret : Option FieldType} {D mc ms : Nat} {pc : Nat} {lv lv' : List (Nat × Value)} {st : List Value} {w w' : LT} {u u' : MT} {kc ks : Nat} {Q : Option Value → LT → MT → Prop}
theorem Vwiden {k2 s2 : Nat} (h1 : kc ≤ k2) (h2 : ks ≤ s2) (k : V z g nL pc lv st w u k2 s2 Q) : V z g nL pc lv st w u kc ks Q := by
  obtain ⟨p, l, e, R, s, m, args, below, meth, c⟩ := z
  intro H locs ls hR hS hl
  exact W.widen h1 h2 (k H locs ls hR hS hl)
theorem Vnew {idx t : Nat} (C : Cx z g cc nL own ret D mc ms) (d : decode cc pc = .ok (.new idx, 3)) (ht : t < 13) (h1 : Cond.classLink own idx (cS t) ∈ WT) (h2 : Cond.instantiable (cS t) (cN t) ∈ WT) (h3 : Cond.initialized (cS t) ∈ WT) (hc : kc + 1 ≤ mc) (hs : ks + cN t ≤ ms) (k : V z g nL (pc + 3) lv (.ref w.1 :: st) (nwL w t 0) (nwM w u) (kc + 1) (ks + cN t) Q) : V z g nL pc lv st w u kc ks Q := by
  obtain ⟨p, l, e, R, s, m, args, below, meth, c⟩ := z
  intro H locs ls hR hS hl
  obtain ⟨hx, hb, -, hown, hts, -, -, hsc, hRm⟩ := C
  have hK := hsc.1
  have hKn := hK.1 t _ (cl_at t ht)
  refine W.newcK hx hb hown (hts _ h1) (hts _ h2) (hts _ h3) rfl d (by rw [hRm]; exact hc) (by rw [hRm]; exact hs) hKn.2.1 rfl fun H1 kC hkC e1 z1 o1 => ?_
  have h5 := k H1 locs ls (hR.new z1 o1 ?_) (va_S_new hS z1 o1) hl
  · rw [← nw_adr hR]
    rw [← tr_dyn g (show 100 ≤ w.1 from hR.2.1)]
    exact h5
  · have ht2 : lt_t (nwL w t 0) w.1 = t := if_pos rfl
    refine ⟨fun _ => ?_, fun q => absurd q (by rw [ht2]; omega)⟩
    rw [ht2, nw_adr hR]
    refine (u_born (cY t) hts (cl_ws t ht) hKn hkC e1 (cl_ty t ht)).to (fun j hj => ?_)
    have hok := fk_ok t ht j hj
    unfold fkOk at hok
    have g1 : gI (nwM w u) w.1 j = 0 := by simp [gI, nwM]
    have g2 : gK (nwM w u) w.1 j = 0 := by simp [gK, nwM]
    have g3 : lt_p (nwL w t 0) w.1 j = 0 := by simp [lt_p, nwL]
    unfold fv
    rw [g1, g2, g3]
    split at hok
    · rename_i h9; rw [h9]; simp at hok; simp [hok]; rfl
    · rename_i h9; rw [h9]; simp at hok; simp [hok]; rfl
    · rename_i h9
      rw [h9]
      split at hok
      · simp at hok; simp [hok, tr]; rfl
      · simp at hok; simp [hok, tr]; rfl
    · rename_i h9; rw [h9]; simp at hok; simp [hok, tr]; rfl
    · simp at hok
theorem Vnewa {at_ : ArrayType} {t n : Nat} {x : Int32} (C : Cx z g cc nL own ret D mc ms) (d : decode cc pc = .ok (.newarray at_, 2)) (ht1 : 20 ≤ t) (ht2 : t < 24) (hty : newarray.typeOf at_ = aTy t) (hw : Cond.arrayClass (newarray.typeOf at_) ∈ WT) (hx0 : ¬ x < 0) (hxn : x.toNatClampNeg = n) (hn : n * 8 ≤ 536870912) (hc : kc + 1 ≤ mc) (hs : ks + n ≤ ms) (k : V z g nL (pc + 2) lv (.ref w.1 :: st) (nwL w t n) (nwM w u) (kc + 1) (ks + n) Q) : V z g nL pc lv (.int x :: st) w u kc ks Q := by
  obtain ⟨p, l, e, R, s, m, args, below, meth, c⟩ := z
  intro H locs ls hR hS hl
  obtain ⟨hx, hb, -, hown, hts, -, -, hst, hRm⟩ := C
  have hby : n * componentBytes (newarray.typeOf at_) ≤ 536870912 := by
    rw [hty]
    have h4 : t = 20 ∨ t = 21 ∨ t = 22 ∨ t = 23 := by omega
    rcases h4 with h | h | h | h <;> rw [h] <;> exact Nat.le_trans (Nat.mul_le_mul_left n (by decide)) hn
  refine va_newaK hx hb (hts _ hw) rfl d rfl hx0 hxn hby (by rw [hRm]; exact hc) (by rw [hRm]; exact hs) rfl fun H1 cA e1 z1 o1 hAr hNm => ?_
  have hcA : cA = gA g t := by
    have h2 := va_RA_name (hst.arr (t := t) (by omega) (by omega)).2
    rw [hty] at hNm
    exact Option.some.inj (hNm.symm.trans h2)
  subst hcA
  have h5 := k H1 locs ls (hR.new z1 o1 ?_) (va_S_new hS z1 o1) hl
  · rw [← nw_adr hR]
    rw [← tr_dyn g (show 100 ≤ w.1 from hR.2.1)]
    exact h5
  · have h6 : lt_t (nwL w t n) w.1 = t := if_pos rfl
    have h7 : lt_l (nwL w t n) w.1 = n := if_pos rfl
    refine ⟨fun q => absurd q (by rw [h6]; omega), fun _ _ => ?_⟩
    rw [h6, h7, nw_adr hR, e1, hty]
    have h4 : t = 20 ∨ t = 21 ∨ t = 22 ∨ t = 23 := by omega
    congr 2
    funext j
    rcases h4 with h | h | h | h <;> rw [h]
    · simp [av, gI, nwM]; rfl
    · simp [av, gL, nwM]; rfl
    · simp [av, gI, nwM]; rfl
    · simp [av, gI, nwM]; rfl
theorem Vanew {idx t n : Nat} {x : Int32} (C : Cx z g cc nL own ret D mc ms) (d : decode cc pc = .ok (.anewarray idx, 3)) (ht1 : 24 ≤ t) (ht2 : t < 27) {E : String} (hE : aTy t = .object E) (h1 : Cond.classLink own idx E ∈ WT) (hx0 : ¬ x < 0) (hxn : x.toNatClampNeg = n) (hn : n * 8 ≤ 536870912) (hc : kc + 1 ≤ mc) (hs : ks + n ≤ ms) (k : V z g nL (pc + 3) lv (.ref w.1 :: st) (nwL w t n) (nwM w u) (kc + 1) (ks + n) Q) : V z g nL pc lv (.int x :: st) w u kc ks Q := by
  obtain ⟨p, l, e, R, s, m, args, below, meth, c⟩ := z
  intro H locs ls hR hS hl
  obtain ⟨hx, hb, -, hown, hts, -, -, hst, hRm⟩ := C
  subst hxn
  have hov : va_AO E s := by
    have h4 : t = 24 ∨ t = 25 ∨ t = 26 := by omega
    rcases h4 with h | h | h <;> subst h <;> cases hE
    · exact hst.2.2.2.2.2.1
    · exact hst.2.2.2.2.2.2.1
    · exact hst.2.2.2.2.2.2.2.1
  refine W.anew hx hb hown (hts _ h1) (va_AO.use hov) rfl d rfl hx0 (by omega) (by rw [hRm]; exact hc) (by rw [hRm]; exact hs) fun cA kA comp f1 f2 f3 f4 => ?_
  generalize hH1 : H.push ({ cls := cA, slots := Array.replicate x.toNatClampNeg .null, vm := .none } : Cell) = H1
  have z1 : H1.size = H.size + 1 := by rw [← hH1, Array.size_push]
  have e1 : H1[H.size]? = some (arrV cA x.toNatClampNeg (fun _ => .null)) := by rw [← hH1, Array.getElem?_push_size, ← arrV_new]
  have o1 : ∀ q : Nat, q < H.size → H1[q]? = H[q]? := fun q hq => by rw [← hH1, Array.getElem?_push, if_neg (Nat.ne_of_lt hq)]
  have hcA : cA = gA g t := by
    have h2 := (hst.arr (t := t) (by omega) (by omega)).2
    rw [hE] at h2
    obtain ⟨kA', comp', _, _, _, h9⟩ := h2
    exact Option.some.inj (f1.symm.trans h9)
  subst hcA
  have h5 := k H1 locs ls (hR.new z1 o1 ?_) (va_S_new hS z1 o1) hl
  · rw [← nw_adr hR]
    rw [← tr_dyn g (show 100 ≤ w.1 from hR.2.1)]
    exact h5
  · have h6 : lt_t (nwL w t x.toNatClampNeg) w.1 = t := if_pos rfl
    have h7 : lt_l (nwL w t x.toNatClampNeg) w.1 = x.toNatClampNeg := if_pos rfl
    refine ⟨fun q => absurd q (by rw [h6]; omega), fun _ _ => ?_⟩
    rw [h6, h7, nw_adr hR, e1]
    have h4 : t = 24 ∨ t = 25 ∨ t = 26 := by omega
    congr 2
    funext j
    rcases h4 with h | h | h <;> rw [h]
    · simp [av, gK, nwM, tr]
    · simp [av, lt_p, nwL, tr]
    · simp [av, lt_p, nwL, tr]
/-- a reference to a cell that is there goes into an array of its kind -/
theorem VaastP {a n t b tb : Nat} {i : Int32} (C : Cx z g cc nL own ret D mc ms) (d : decode cc pc = .ok (.aastore, 1)) (h25 : (t = 25 ∧ tb = 5) ∨ (t = 26 ∧ tb = 7)) (ht : lt_t w a = t) (hn : lt_l w a = n) (htb : lt_t w b = tb) (hin : vp_in i n) (kk : V z g nL (pc + 1) lv st (sP w a i.toNatClampNeg b) u kc ks Q) : V z g nL pc lv (.ref b :: .int i :: .ref a :: st) w u kc ks Q := by
  obtain ⟨p, l, e, R, s, m, args, below, meth, c⟩ := z
  intro H locs ls hR hS hl
  have hb13 : tb < 13 := by omega
  show W p l e R s m args below meth c H locs kc ks _ (F0 m pc ls (trv g (.ref b) :: .int i :: trv g (.ref a) :: st.map (trv g)))
  rw [hR.val (a := a) (by omega), hR.val (a := b) (by omega)]
  obtain ⟨cellV, g1, g2, g3, -⟩ := hR.obj htb hb13
  have hst := C.2.2.2.2.2.2.2.1
  have hcls := (hst.1.1 tb _ (cl_at tb hb13)).2
  have hra := (hst.arr (t := t) (by omega) (by omega)).2
  have hE : aTy t = .object (cS tb) := by rcases h25 with ⟨rfl, rfl⟩ | ⟨rfl, rfl⟩ <;> rfl
  rw [hE] at hra
  obtain ⟨kA, comp, k1, k2, k3, -⟩ := hra
  have hcomp : comp = gC g tb := Option.some.inj (k3.symm.trans hcls.1)
  subst hcomp
  obtain ⟨kC, hkC, -⟩ := hcls.2
  have hlt : i.toNatClampNeg < lt_l w a := by rw [hn]; exact Nat.not_le.mp fun q => hin (Or.inr q)
  refine W.aast C.1 C.2.1 (hR.arr ht (by omega) (by omega)) (fun q h => by cases h) (fun h => by cases h) k1 k2 rfl hkC ⟨fun q => hin (Or.inl q), by rw [arrV_size]; exact hlt⟩ g1 (fun q h => by rw [g3] at h; cases h) (by rw [g2]; exact hkC) (by rw [g2]; exact va_assign hcls) rfl rfl d fun H1 e1 z1 oq => ?_
  refine kk H1 _ ls (hR.ast (Upd.p w u a _ b) ht (by omega) (by omega) z1 oq e1 (fun j => ?_)) (hS.put z1 oq (hR.fr (by omega))) hl
  have hvb : tr g b = .ref (adr g b) := tr_dyn g (hR.dyn (a := b) (by omega)).1
  by_cases hj : j = i.toNatClampNeg
  · rcases h25 with ⟨rfl, -⟩ | ⟨rfl, -⟩ <;> simp [av, updV, lt_p, sP, up2, hj, hvb]
  · rcases h25 with ⟨rfl, -⟩ | ⟨rfl, -⟩ <;> simp [av, updV, lt_p, sP, up2, hj]
/-- a token goes into an array of tokens -/
theorem VaastK {a n x : Nat} {i : Int32} (C : Cx z g cc nL own ret D mc ms) (d : decode cc pc = .ok (.aastore, 1)) (ht : lt_t w a = 24) (hn : lt_l w a = n) (hx1 : 1 ≤ x) (hx2 : x ≤ 34) (hin : vp_in i n) (kk : V z g nL (pc + 1) lv st w (sK u a i.toNatClampNeg x) kc ks Q) : V z g nL pc lv (.ref x :: .int i :: .ref a :: st) w u kc ks Q := by
  obtain ⟨p, l, e, R, s, m, args, below, meth, c⟩ := z
  intro H locs ls hR hS hl
  have hst := C.2.2.2.2.2.2.2.1
  have hvb : tr g x = .ref (gad g (x - 1)) := by simp [tr, adr, show ¬ x = 0 by omega, hx2]
  show W p l e R s m args below meth c H locs kc ks _ (F0 m pc ls (tr g x :: .int i :: trv g (.ref a) :: st.map (trv g)))
  rw [hR.val (a := a) (by omega), hvb]
  obtain ⟨cellV, g1, g2, g3⟩ := va_recvE hst.2.1 (i := x - 1) (by show x - 1 < 34; omega) hS
  have hcls := (hst.1.1 9 _ (cl_at 9 (by omega))).2
  obtain ⟨kA, comp, k1, k2, k3, -⟩ := (hst.arr (t := 24) (by omega) (by omega)).2
  have hcomp : comp = gC g 9 := Option.some.inj (k3.symm.trans hcls.1)
  subst hcomp
  have hcv : cellV.cls = gC g 9 := Option.some.inj (g3.symm.trans hcls.1)
  obtain ⟨kC, hkC, -⟩ := hcls.2
  have hlt : i.toNatClampNeg < lt_l w a := by rw [hn]; exact Nat.not_le.mp fun q => hin (Or.inr q)
  refine W.aast C.1 C.2.1 (hR.arr ht (by omega) (by omega)) (fun q h => by cases h) (fun h => by cases h) k1 k2 rfl hkC ⟨fun q => hin (Or.inl q), by rw [arrV_size]; exact hlt⟩ g1 (fun q h => by rw [h] at g2; cases g2) (by rw [hcv]; exact hkC) (by rw [hcv]; exact va_assign hcls) rfl rfl d fun H1 e1 z1 oq => ?_
  refine kk H1 _ ls (hR.ast (Upd.k w u a _ x) ht (by omega) (by omega) z1 oq e1 (fun j => ?_)) (hS.put z1 oq (hR.fr (by omega))) hl
  by_cases hj : j = i.toNatClampNeg
  · simp [av, updV, gK, sK, up2, hj, hvb]
  · simp [av, updV, gK, sK, up2, hj]
/-- a token's name -/
theorem Vtok {idx i x : Nat} {n : String} (C : Cx z g cc nL own ret D mc ms) (d : decode cc pc = .ok (.getstatic idx, 3)) (hw : Cond.fieldLink own idx "SunVillage$Token" n "LSunVillage$Token;" ∈ WT) (hi : i < 34) (hn : tkN.getD i "" = n) (hx : x = i + 1) (kk : V z g nL (pc + 3) lv (.ref x :: st) w u kc ks Q) : V z g nL pc lv st w u kc ks Q := by
  obtain ⟨p, l, e, R, s, m, args, below, meth, c⟩ := z
  intro H locs ls hR hS hl
  have hst := C.2.2.2.2.2.2.2.1
  have h1 := (hst.2.1.1 i hi).1
  rw [hn] at h1
  subst hx
  have h2 := kk H locs ls hR hS hl
  have hv : trv g (.ref (i + 1)) = .ref (gad g i) := by simp [trv, tr, adr, show i + 1 ≤ 34 by omega]
  rw [List.map_cons, hv] at h2
  exact va_gets C.1 C.2.1 h1 hS C.2.2.2.1 (C.2.2.2.2.1 _ hw) (fun _ h => h) d h2
/-- a token's code -/
theorem Vtokc {idx x : Nat} (C : Cx z g cc nL own ret D mc ms) (d : decode cc pc = .ok (.getfield idx, 3)) (hw : Cond.fieldLink own idx "SunVillage$Token" "code" "I" ∈ WT ∨ ∃ host, Cond.fieldLinkNest own idx "SunVillage$Token" "code" "I" host ∈ NWs) (hx1 : 1 ≤ x) (hx2 : x ≤ 34) (kk : V z g nL (pc + 3) lv (.int (tkC.getD (x - 1) 0) :: st) w u kc ks Q) : V z g nL pc lv (.ref x :: st) w u kc ks Q := by
  obtain ⟨p, l, e, R, s, m, args, below, meth, c⟩ := z
  intro H locs ls hR hS hl
  have hst := C.2.2.2.2.2.2.2.1
  have hv : trv g (.ref x) = .ref (gad g (x - 1)) := by simp [trv, tr, adr, hx2, show ¬ x = 0 by omega]
  have h2 := kk H locs ls hR hS hl
  rw [List.map_cons, hv]
  obtain ⟨cf, k, fi, f, cell, h1, h3, h4, h5, h6, h7⟩ := ((hst.2.1.1 (x - 1) (by show x - 1 < 34; omega)).2.2 _ (List.mem_cons_self)).kept hS.2.1
  rcases hw with hw | ⟨host, hw⟩
  · exact W.getf C.1 C.2.1 C.2.2.2.1 (C.2.2.2.2.1 _ hw) h1 h3 h4 h5 h6 rfl rfl d h2
  · exact va_Wgetf C.1 C.2.1 C.2.2.2.1 (hst.nest hw args) h1 h3 h4 h5 h6 rfl rfl d h2
/-! returns -/
theorem Vret_end {v : Option Value} {H : Heap} {s t : State} {locs : List Loc} (hR : Rep g w u H) (hS : va_S (fr g) s.heap H locs) (hq : Q v w u) (ht : t.heap = H) (args : Array Value) : QQ g Q args s (.returned (v.map (trv g))) t :=
  ⟨⟨v, w, u, rfl, hq, by rw [ht]; exact hR⟩, hS.F ht⟩
theorem Viret {x : Int32} (C : Cx z g cc nL own (some .int) D mc ms) (d : decode cc pc = .ok (.ireturn, 1)) (h1 : kc ≤ mc) (h2 : ks ≤ ms) (hq : Q (some (.int x)) w u) : V z g nL pc lv [.int x] w u kc ks Q := by
  obtain ⟨p, l, e, R, s, m, args, below, meth, c⟩ := z
  intro H locs ls hR hS hl
  obtain ⟨hx, hb, -, hown, hts, hr, hlk, -, hRm⟩ := C
  subst hRm
  exact W.widen h1 h2 (W.iret hx hb hr (fun t ht _ => Vret_end (v := some (.int x)) hR hS hq ht args) hS.2.2 d)
theorem Vzret {x : Int32} (C : Cx z g cc nL own (some .boolean) D mc ms) (d : decode cc pc = .ok (.ireturn, 1)) (hn : narrow .boolean (.int x) = .int x) (h1 : kc ≤ mc) (h2 : ks ≤ ms) (hq : Q (some (.int x)) w u) : V z g nL pc lv [.int x] w u kc ks Q := by
  obtain ⟨p, l, e, R, s, m, args, below, meth, c⟩ := z
  intro H locs ls hR hS hl
  obtain ⟨hx, hb, -, hown, hts, hr, hlk, -, hRm⟩ := C
  subst hRm
  exact W.widen h1 h2 (W.zret hx hb hr hn (fun t ht _ => Vret_end (v := some (.int x)) hR hS hq ht args) hS.2.2 d)
theorem Vlret {x : Int64} (C : Cx z g cc nL own (some .long) D mc ms) (d : decode cc pc = .ok (.lreturn, 1)) (h1 : kc ≤ mc) (h2 : ks ≤ ms) (hq : Q (some (.long x)) w u) : V z g nL pc lv [.long x] w u kc ks Q := by
  obtain ⟨p, l, e, R, s, m, args, below, meth, c⟩ := z
  intro H locs ls hR hS hl
  obtain ⟨hx, hb, -, hown, hts, hr, hlk, -, hRm⟩ := C
  subst hRm
  exact W.widen h1 h2 (W.lret hx hb hr (fun t ht _ => Vret_end (v := some (.long x)) hR hS hq ht args) hS.2.2 d)
theorem Vvret (C : Cx z g cc nL own none D mc ms) (d : decode cc pc = .ok (.return_, 1)) (h1 : kc ≤ mc) (h2 : ks ≤ ms) (hq : Q none w u) : V z g nL pc lv [] w u kc ks Q := by
  obtain ⟨p, l, e, R, s, m, args, below, meth, c⟩ := z
  intro H locs ls hR hS hl
  obtain ⟨hx, hb, -, hown, hts, hr, hlk, -, hRm⟩ := C
  subst hRm
  exact W.widen h1 h2 (W.vret hx hb hr (fun t ht _ => Vret_end (v := none) hR hS hq ht args) hS.2.2 d)
theorem Varet {x : Nat} {E : String} (C : Cx z g cc nL own (some (.object E)) D mc ms) (d : decode cc pc = .ok (.areturn, 1)) (h1 : kc ≤ mc) (h2 : ks ≤ ms) (hq : Q (some (.ref x)) w u) : V z g nL pc lv [.ref x] w u kc ks Q := by
  obtain ⟨p, l, e, R, s, m, args, below, meth, c⟩ := z
  intro H locs ls hR hS hl
  obtain ⟨hx, hb, -, hown, hts, hr, hlk, -, hRm⟩ := C
  subst hRm
  exact W.widen h1 h2 (W.aret hx hb hr (Or.inl ⟨_, rfl⟩) (tr_or g x) (fun t ht _ => Vret_end (v := some (.ref x)) hR hS hq ht args) hS.2.2 d)
/-! calls -/
theorem Pc_blind (g : GT) (as : List Value) (w : LT) (u : MT) : FrameBlind (va_Pc (as.map (trv g)) (fun U => Stc g U ∧ Rep g w u U.heap)) := by
  intro a U f mk ⟨h1, h2, h3⟩
  exact ⟨h1, h2.go (s := U) (U := U.calling f mk a) (State.WarmedH.refl U) (Nat.le_refl _) (fun _ _ _ => rfl), h3⟩
theorem Stc.now {s U : State} {H : Heap} {locs : List Loc} (h : Stc g s) (hS : va_S (fr g) s.heap H locs) (hU : U.heap = H) (hW : s.WarmedH U.vm) : Stc g U :=
  h.go hW (by rw [hU]; exact hS.1) (fun a h1 h2 => by rw [hU]; exact hS.2.1 a h1 h2)
/-- the callee's cells: what a receiver must be -/
def Rcv (w : LT) (a t : Nat) : Prop := (lt_t w a = t ∧ t < 13) ∨ (t = 9 ∧ 1 ≤ a ∧ a ≤ 34)
theorem Rcv.get {a t : Nat} {s : State} {H : Heap} {locs : List Loc} (h : Rcv w a t) (hst : Stc g s) (hR : Rep g w u H) (hS : va_S (fr g) s.heap H locs) : trv g (.ref a) = .ref (adr g a) ∧ ∃ cell : Cell, H[adr g a]? = some cell ∧ cell.vm.isStatics = false ∧ s.vm.findClass (cS t) = some cell.cls := by
  rcases h with ⟨h1, h2⟩ | ⟨rfl, h1, h2⟩
  · obtain ⟨cell, q1, q2, q3, q4⟩ := hR.obj h1 h2
    exact ⟨hR.val (by omega), cell, q1, by rw [q3]; rfl, by rw [q2]; exact (hst.1.1 t _ (cl_at t h2)).2.1⟩
  · obtain ⟨cell, g1, g2, g3⟩ := va_recvE hst.2.1 (i := a - 1) (by show a - 1 < 34; omega) hS
    have he : adr g a = gad g (a - 1) := by simp [adr, h2]
    exact ⟨by simp [trv, tr, show ¬ a = 0 by omega], cell, by rw [he]; exact g1, g2, g3⟩
theorem Vrun_go {Qa : Option Value → LT → MT → Prop} {p : Program} {l : Launch} {e : Env} {R : Room} {s : State} {m : MethodId} {args a : Array Value} {below : List Frame} {meth : Method} {c : Code} {H : Heap} {locs : List Loc} {c2 s2 : Nat} {ls : Array Slot} {st0 rest : List Value} {P : State → Prop}
    (hr : va_Run p l e R s m args below meth c H locs kc ks c2 s2 (F0 m pc ls st0) rest (QQ g Qa a) (fr g)) (hS : va_S (fr g) s.heap H locs)
    (kk : ∀ (v : Option Value) (w1 : LT) (u1 : MT) (H1 : Heap) (locs1 : List Loc), Qa v w1 u1 → Rep g w1 u1 H1 → va_S (fr g) s.heap H1 locs1 → W p l e R s m args below meth c H1 locs1 (kc + c2) (ks + s2) P (F0 m (pc + 3) ls ((v.map (trv g)).toList ++ rest))) : W p l e R s m args below meth c H locs kc ks P (F0 m pc ls st0) := by
  intro T hT X
  obtain ⟨v, st₀, t, T', L, h0, X', hL, e1, e2, ⟨⟨v1, w1, u1, hv, hp, hb⟩, hz, hk⟩, sto⟩ := hr T hT X
  cases hv
  rw [h0] at hz hk
  obtain ⟨t2, a1, b1⟩ := kk v1 w1 u1 T'.heap (locs ++ L) hp (by rw [e1]; exact hb)
    ⟨Nat.le_trans hS.1 (by rw [e1]; exact hz), fun q h1 h2 => by rw [e1, hk q (Nat.lt_of_lt_of_le h1 hS.1) h2]; exact hS.2.1 q h1 h2, fun q hq => by
      rcases List.mem_append.mp hq with h | h
      · exact hS.2.2 q h
      · exact hL q h⟩ T' rfl X'
  exact ⟨t2, sto t2 a1, b1⟩
theorem map_rev (g : GT) (as rest : List Value) : (as.reverse ++ rest).map (trv g) = (as.map (trv g)).reverse ++ rest.map (trv g) := by simp
theorem lv_roomT {m : MethodId} {ls : Array Slot} {st0 rest : List Value} (h : (rest.map fun v => v.category).sum ≤ 8) : 2 * (F0 m pc ls st0).monitorRoom + (((rest.map (trv g))).map fun v => v.category).sum ≤ 8 := by
  rw [trm_sum]
  exact lv_room h
theorem VcallV {idx t n a c2 s2 dp ml : Nat} {y : MethodName} {mb : ByteArray} {mr : Option FieldType} {as rest : List Value} {Qa : Option Value → LT → MT → Prop} (C : Cx z g cc nL own ret D mc ms) (d : decode cc pc = .ok (.invokevirtual idx, 3)) (hM : Mt g y mb ml mr dp c2 s2 (.ref a :: as) w u Qa) (hy : YV own idx y mb ml mr n t) (hrv : Rcv w a t) (hst : st = as.reverse ++ .ref a :: rest) (hn : as.length = n) (hrm : (rest.map fun v => v.category).sum ≤ 8) (hml : ml ≤ 45) (hdp : dp + 1 ≤ D) (hc : kc + c2 ≤ mc) (hs : ks + s2 ≤ ms)
    (kk : ∀ v w1 u1, Qa v w1 u1 → V z g nL (pc + 3) lv (v.toList ++ rest) w1 u1 (kc + c2) (ks + s2) Q) : V z g nL pc lv st w u kc ks Q := by
  obtain ⟨p, l, e, R, s, m, args, below, meth, c⟩ := z
  intro H locs ls hR hS hl
  obtain ⟨hx, hb, hmL, hown, hts, -, -, hsc, hRm⟩ := C
  obtain ⟨⟨hlk, hcd, hin, hd1, hd2, hd3⟩, hi1, hi2, ht13⟩ := hy
  obtain ⟨hva, hcell⟩ := hrv.get hsc hR hS
  subst hst
  have hstk : (as.reverse ++ .ref a :: rest).map (trv g) = (as.map (trv g)).reverse ++ .ref (adr g a) :: rest.map (trv g) := by
    rw [map_rev, List.map_cons, hva]
  have hpre : PreV s H (cS t) (adr g a) (va_Pc ((Value.ref a :: as).map (trv g)) (fun U => Stc g U ∧ Rep g w u U.heap)) (as.map (trv g)) :=
    ⟨Pc_blind g _ w u, hcell, fun U hU hW => ⟨by rw [List.map_cons, hva], hsc.now hS hU hW, by rw [hU]; exact hR⟩⟩
  have hR1 : (rmD dp c2 s2).frames + 1 ≤ R.frames ∧ 8 + (ml + 11) + (rmD dp c2 s2).locals ≤ R.locals := by
    rw [hRm]
    show dp + 1 ≤ D ∧ 8 + (ml + 11) + 64 * dp ≤ 64 * D
    omega
  have hlen : (as.map (trv g)).length = n := by rw [List.length_map]; exact hn
  have hfit : kc + c2 ≤ R.cells ∧ ks + s2 ≤ R.slots := by rw [hRm]; exact ⟨hc, hs⟩
  rw [hstk]
  have fin : ∀ (v : Option Value) (w1 : LT) (u1 : MT) (H1 : Heap) (locs1 : List Loc), Qa v w1 u1 → Rep g w1 u1 H1 → va_S (fr g) s.heap H1 locs1 → W p l e R s m args below meth c H1 locs1 (kc + c2) (ks + s2) (MQ below (QQ g Q) args s R.cells R.slots (fr g)) (F0 m (pc + 3) ls ((v.map (trv g)).toList ++ rest.map (trv g))) := by
    intro v w1 u1 H1 locs1 q1 q2 q3
    have h9 := kk v w1 u1 q1 H1 locs1 ls q2 q3 hl
    cases v <;> exact h9
  rcases hlk with h | ⟨host, h⟩
  · exact Vrun_go (va_runV ⟨hx, hb, hmL, hown, hts⟩ (hM l) ⟨callB_of n hts (good_cons hcd) rfl rfl rfl (hts _ hin) (hts _ h) ⟨hd1, hd2, hd3⟩ hR1, hts _ hi1, hts _ hi2⟩ hpre rfl hlen hl.1 rfl (lv_roomT hrm) d hfit) hS fin
  · exact Vrun_go (va_runVN ⟨hx, hb, hmL, hown, hts⟩ (hM l) ⟨va_cnB n hts (good_cons hcd) rfl rfl rfl (hsc.2.2.2.2.1 _ h) (hts _ hin) ⟨hd1, hd2, hd3⟩ hR1, hts _ hi1, hts _ hi2⟩ hpre rfl hlen hl.1 rfl (lv_roomT hrm) d hfit) hS fin
end VCALL
