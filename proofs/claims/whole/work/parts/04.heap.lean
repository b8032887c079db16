/-! ===== ROWS OVER THE HEAP ===== -/
theorem Rep.dyn {g : GT} {w : LT} {u : MT} {H : Heap} (hR : Rep g w u H) {a : Nat} (h : lt_t w a ≠ 99) : 100 ≤ a ∧ a < lt_n w := by
  refine ⟨?_, ?_⟩
  · rcases Nat.lt_or_ge a 100 with q | q
    · exact absurd (hR.2.2.1 a (Or.inl q)) h
    · exact q
  · rcases Nat.lt_or_ge a (lt_n w) with q | q
    · exact q
    · exact absurd (hR.2.2.1 a (Or.inr q)) h
theorem adr_inj {g : GT} {a b : Nat} (ha : 100 ≤ a) (hb : 100 ≤ b) (h : adr g a = adr g b) : a = b := by
  rw [adr_dyn g ha, adr_dyn g hb] at h
  omega
theorem Rep.obj {g : GT} {w : LT} {u : MT} {H : Heap} (hR : Rep g w u H) {a t : Nat} (h : lt_t w a = t) (ht : t < 13) : t_OB (adr g a) (gC g t) (cN t) (gD g t) H (fv g w u t a) := by
  have h1 := hR.dyn (a := a) (by omega)
  have h2 := (hR.2.2.2 a h1.1 h1.2).1 (by omega)
  rw [h] at h2
  exact h2
theorem Rep.arr {g : GT} {w : LT} {u : MT} {H : Heap} (hR : Rep g w u H) {a t : Nat} (h : lt_t w a = t) (h1 : 20 ≤ t) (h2 : t < 27) : H[adr g a]? = some (arrV (gA g t) (lt_l w a) (av g w u t a)) := by
  have h3 := hR.dyn (a := a) (by omega)
  have h4 := (hR.2.2.2 a h3.1 h3.2).2 (by omega) (by omega)
  rw [h] at h4
  exact h4
theorem Rep.fr {g : GT} {w : LT} {u : MT} {H : Heap} (hR : Rep g w u H) {a : Nat} (h : lt_t w a ≠ 99) : fr g (adr g a) := by
  have h1 := hR.dyn h
  show gn g ≤ adr g a
  rw [adr_dyn g h1.1]
  omega
theorem Rep.val {g : GT} {w : LT} {u : MT} {H : Heap} (hR : Rep g w u H) {a : Nat} (h : lt_t w a ≠ 99) : trv g (.ref a) = .ref (adr g a) := tr_dyn g (hR.dyn h).1
/-- one cell is another now -/
def Upd (w : LT) (u : MT) (w' : LT) (u' : MT) (a : Nat) : Prop := lt_n w' = lt_n w ∧ (∀ b, lt_t w' b = lt_t w b) ∧ (∀ b, lt_l w' b = lt_l w b) ∧ ∀ b, b ≠ a → w'.2.2.2 b = w.2.2.2 b ∧ u'.1 b = u.1 b ∧ u'.2.1 b = u.2.1 b ∧ u'.2.2 b = u.2.2 b
theorem Upd.i (w : LT) (u : MT) (a k : Nat) (v : Int32) : Upd w u w (sI u a k v) a := ⟨rfl, fun _ => rfl, fun _ => rfl, fun _ h => ⟨rfl, up2_ne _ _ _ h, rfl, rfl⟩⟩
theorem Upd.l (w : LT) (u : MT) (a k : Nat) (v : Int64) : Upd w u w (sL u a k v) a := ⟨rfl, fun _ => rfl, fun _ => rfl, fun _ h => ⟨rfl, rfl, up2_ne _ _ _ h, rfl⟩⟩
theorem Upd.k (w : LT) (u : MT) (a k v : Nat) : Upd w u w (sK u a k v) a := ⟨rfl, fun _ => rfl, fun _ => rfl, fun _ h => ⟨rfl, rfl, rfl, up2_ne _ _ _ h⟩⟩
theorem Upd.p (w : LT) (u : MT) (a k v : Nat) : Upd w u (sP w a k v) u a := ⟨rfl, fun _ => rfl, fun _ => rfl, fun _ h => ⟨up2_ne _ _ _ h, rfl, rfl, rfl⟩⟩
theorem fv_eq {g : GT} {w w' : LT} {u u' : MT} {t b k : Nat} (h1 : w'.2.2.2 b = w.2.2.2 b) (h2 : u'.1 b = u.1 b) (h3 : u'.2.2 b = u.2.2 b) : fv g w' u' t b k = fv g w u t b k := by
  unfold fv lt_p gI gK
  rw [h1, h2, h3]
theorem av_eq {g : GT} {w w' : LT} {u u' : MT} {t b k : Nat} (h1 : w'.2.2.2 b = w.2.2.2 b) (h2 : u'.1 b = u.1 b) (h3 : u'.2.1 b = u.2.1 b) (h4 : u'.2.2 b = u.2.2 b) : av g w' u' t b k = av g w u t b k := by
  unfold av lt_p gI gK gL
  rw [h1, h2, h3, h4]
theorem cellOk.go {g : GT} {w w' : LT} {u u' : MT} {b : Nat} {H H' : Heap} (h : cellOk g w u b H) (ht : lt_t w' b = lt_t w b) (hl : lt_l w' b = lt_l w b) (h1 : w'.2.2.2 b = w.2.2.2 b) (h2 : u'.1 b = u.1 b) (h3 : u'.2.1 b = u.2.1 b) (h4 : u'.2.2 b = u.2.2 b) (hq : H'[adr g b]? = H[adr g b]?) : cellOk g w' u' b H' := by
  unfold cellOk
  rw [ht, hl]
  refine ⟨fun q => ?_, fun q1 q2 => ?_⟩
  · exact ((h.1 q).kept hq).to (fun k _ => (fv_eq h1 h2 h4).symm)
  · rw [hq, h.2 q1 q2]
    congr 2
    funext j
    exact (av_eq h1 h2 h3 h4).symm
theorem Rep.put {g : GT} {w w' : LT} {u u' : MT} {H H' : Heap} {a : Nat} (hR : Rep g w u H) (hU : Upd w u w' u' a) (ha : lt_t w a ≠ 99) (z : H'.size = H.size) (oq : ∀ q : Nat, q ≠ adr g a → H'[q]? = H[q]?) (hc : cellOk g w' u' a H') : Rep g w' u' H' := by
  obtain ⟨h1, h2, h3, h4⟩ := hR
  have hd := Rep.dyn ⟨h1, h2, h3, h4⟩ ha
  obtain ⟨e1, e2, e3, e4⟩ := hU
  refine ⟨by rw [z, h1, e1], by rw [e1]; exact h2, fun b hb => by rw [e2]; exact h3 b (by rw [e1] at hb; exact hb), fun b hb1 hb2 => ?_⟩
  by_cases hba : b = a
  · rw [hba]; exact hc
  · obtain ⟨f1, f2, f3, f4⟩ := e4 b hba
    exact (h4 b hb1 (by rw [e1] at hb2; exact hb2)).go (e2 b) (e3 b) f1 f2 f3 f4 (oq _ (fun q => hba (adr_inj hb1 hd.1 q)))
/-- a constant's link to a field -/
def GF (own : String) (idx t k : Nat) : Prop := t < 13 ∧ k < cN t ∧ (Cond.fieldLink own idx (cT t k).1 (cT t k).2.1 (cT t k).2.2.1 ∈ WT ∨ ∃ host, Cond.fieldLinkNest own idx (cT t k).1 (cT t k).2.1 (cT t k).2.2.1 host ∈ NWs)
section VHEAP
variable {z : ZT} {g : GT} {cc : ByteArray} {nL : Nat} {own : String} {ret : Option FieldType} {D mc ms : Nat} {pc : Nat} {lv lv' : List (Nat × Value)} {st : List Value} {w w' : LT} {u u' : MT} {kc ks : Nat} {Q : Option Value → LT → MT → Prop}
theorem Vget {idx t k a : Nat} {v : Value} (C : Cx z g cc nL own ret D mc ms) (d : decode cc pc = .ok (.getfield idx, 3)) (hf : GF own idx t k) (ht : lt_t w a = t) (hv : fv g w u t a k = trv g v) (kk : V z g nL (pc + 3) lv (v :: st) w u kc ks Q) : V z g nL pc lv (.ref a :: st) w u kc ks Q := by
  obtain ⟨p, l, e, R, s, m, args, below, meth, c⟩ := z
  intro H locs ls hR hS hl
  obtain ⟨hx, hb, -, hown, hts, -, -, hsc, -⟩ := C
  have hK := hsc.1
  obtain ⟨ht13, hk, hlk⟩ := hf
  obtain ⟨cell, q1, q2, q3, q4⟩ := hR.obj ht ht13
  obtain ⟨hSl, hfc, kC, hkC, hkind⟩ := hK.1 t _ (cl_at t ht13)
  obtain ⟨cf, kf, fi, f, hi, hsl⟩ := hSl k hk
  have hst := (u_facts hfc hkC (u_lays hts (cl_ws t ht13) hk) hi).1
  have h5 : cell.slots[f.slot]? = some (trv g v) := by rw [hsl]; rw [← hv]; exact q4 k hk
  have h6 := kk H locs ls hR hS hl
  show W p l e R s m args below meth c H locs kc ks _ (F0 m pc ls (trv g (.ref a) :: st.map (trv g)))
  rw [hR.val (a := a) (by omega)]
  rcases hlk with h | ⟨host, h⟩
  · exact W.getf hx hb hown (hts _ h) hi hst q1 (by rw [q3]; exact fun h => by cases h) h5 rfl rfl d h6
  · exact va_Wgetf hx hb hown (hsc.nest h args) hi hst q1 (by rw [q3]; exact fun h => by cases h) h5 rfl rfl d h6
theorem VgetI {idx t k a : Nat} (C : Cx z g cc nL own ret D mc ms) (d : decode cc pc = .ok (.getfield idx, 3)) (hf : GF own idx t k) (ht : lt_t w a = t) (hk : fk t k = 0) (kk : V z g nL (pc + 3) lv (.int (gI u a k) :: st) w u kc ks Q) : V z g nL pc lv (.ref a :: st) w u kc ks Q :=
  Vget C d hf ht (by simp [fv, hk, trv]) kk
theorem VgetP {idx t k a b : Nat} (C : Cx z g cc nL own ret D mc ms) (d : decode cc pc = .ok (.getfield idx, 3)) (hf : GF own idx t k) (ht : lt_t w a = t) (hk : fk t k = 1) (hp : lt_p w a k = b) (kk : V z g nL (pc + 3) lv (.ref b :: st) w u kc ks Q) : V z g nL pc lv (.ref a :: st) w u kc ks Q :=
  Vget C d hf ht (by simp [fv, hk, trv, hp]) kk
theorem VgetK {idx t k a : Nat} (C : Cx z g cc nL own ret D mc ms) (d : decode cc pc = .ok (.getfield idx, 3)) (hf : GF own idx t k) (ht : lt_t w a = t) (hk : fk t k = 2) (kk : V z g nL (pc + 3) lv (.ref (gK u a k) :: st) w u kc ks Q) : V z g nL pc lv (.ref a :: st) w u kc ks Q :=
  Vget C d hf ht (by simp [fv, hk, trv]) kk
theorem Vput {idx t k a : Nat} {v : Value} (C : Cx z g cc nL own ret D mc ms) (d : decode cc pc = .ok (.putfield idx, 3)) (hf : GF own idx t k) (ht : lt_t w a = t) (hfin : (cT t k).2.2.2 = false) (hn : narrow (cY t k) (trv g v) = trv g v) (hfit : fits (cY t k) (trv g v) = true) (hU : Upd w u w' u' a) (hv : ∀ j, j < cN t → fv g w' u' t a j = updV (fv g w u t a) k (trv g v) j) (kk : V z g nL (pc + 3) lv st w' u' kc ks Q) : V z g nL pc lv (v :: .ref a :: st) w u kc ks Q := by
  obtain ⟨p, l, e, R, s, m, args, below, meth, c⟩ := z
  intro H locs ls hR hS hl
  obtain ⟨hx, hb, -, hown, hts, -, -, hsc, -⟩ := C
  have hK := hsc.1
  obtain ⟨ht13, hk, hlk⟩ := hf
  have hap := va_apart (own := own) hts (cl_ws t ht13) (cY t) (cl_ty t ht13) (cl_nm t ht13) hK (cl_at t ht13)
  obtain ⟨cell, q1, q2, q3, q4⟩ := hR.obj ht ht13
  obtain ⟨hSl, hfc, kC, hkC, hkind⟩ := hK.1 t _ (cl_at t ht13)
  obtain ⟨cf, kf, fi, f, hi, hsl⟩ := hSl k hk
  have hlay := hts _ (cl_ws t ht13 _ (u_in_lay hk))
  unfold u_lay at hlay
  rw [if_neg (by rw [hfin]; decide)] at hlay
  have hst := (u_facts hfc hkC (u_lays hts (cl_ws t ht13) hk) hi).1
  have h6 := u_store hfc hkC hkind hlay hi (cl_ty t ht13 k hk) hn hfit
  show W p l e R s m args below meth c H locs kc ks _ (F0 m pc ls (trv g v :: trv g (.ref a) :: st.map (trv g)))
  rw [hR.val (a := a) (by omega)]
  have fin : ∀ H' : Heap, H'[adr g a]? = some (cell.setSlot f.slot (trv g v)) → H'.size = H.size → (∀ q, q ≠ adr g a → H'[q]? = H[q]?) → W p l e R s m args below meth c H' (locs ++ [⟨adr g a, f.slot⟩]) kc ks (MQ below (QQ g Q) args s R.cells R.slots (fr g)) (F0 m (pc + 3) ls (st.map (trv g))) := by
    intro H' e1 e2 e3
    rw [hsl] at e1 ⊢
    refine kk H' _ ls (hR.put hU (by omega) e2 e3 ?_) (hS.put e2 e3 (hR.fr (by omega))) hl
    have ht' : lt_t w' a = t := (hU.2.1 a).trans ht
    refine ⟨fun _ => ?_, fun q => absurd q (by omega)⟩
    rw [ht']
    exact t_OB.to (V := updV (fv g w u t a) k (trv g v)) ⟨_, e1, q2, q3, t_set q4 hap hk (trv g v)⟩ (fun j hj => (hv j hj).symm)
  rcases hlk with h | ⟨host, h⟩
  · exact W.putK hx hb (f := f) ⟨hown, hts _ h, ⟨_, _, _, hi⟩, hst⟩ (by rw [q2]; exact h6) q1 q3 (by rw [hsl]; exact k2_hasslot (q4 k hk)) rfl rfl d fin
  · exact va_WputK hx hb (f := f) hown (hsc.nest h args) hi hst (by rw [q2]; exact h6) q1 q3 (by rw [hsl]; exact k2_hasslot (q4 k hk)) rfl rfl d fin
theorem VputF {idx t k a : Nat} {v : Value} (C : Cx z g cc nL own ret D mc ms) (hcn : Cn z) (d : decode cc pc = .ok (.putfield idx, 3)) (hf : t < 13 ∧ k < cN t ∧ Cond.fieldLink own idx (cT t k).1 (cT t k).2.1 (cT t k).2.2.1 ∈ WT) (ht : lt_t w a = t) (hfin : (cT t k).2.2.2 = true) (hdecl : (cT t k).1 = own) (hn : narrow (cY t k) (trv g v) = trv g v) (hfit : fits (cY t k) (trv g v) = true) (hU : Upd w u w' u' a) (hv : ∀ j, j < cN t → fv g w' u' t a j = updV (fv g w u t a) k (trv g v) j) (kk : V z g nL (pc + 3) lv st w' u' kc ks Q) : V z g nL pc lv (v :: .ref a :: st) w u kc ks Q := by
  obtain ⟨p, l, e, R, s, m, args, below, meth, c⟩ := z
  intro H locs ls hR hS hl
  obtain ⟨hx, hb, -, hown, hts, -, -, hsc, -⟩ := C
  have hK := hsc.1
  obtain ⟨ht13, hk, hlk⟩ := hf
  have hap := va_apart (own := own) hts (cl_ws t ht13) (cY t) (cl_ty t ht13) (cl_nm t ht13) hK (cl_at t ht13)
  obtain ⟨cell, q1, q2, q3, q4⟩ := hR.obj ht ht13
  obtain ⟨hSl, hfc, kC, hkC, hkind⟩ := hK.1 t _ (cl_at t ht13)
  obtain ⟨cf, kf, fi, f, hi, hsl⟩ := hSl k hk
  have hlay := hts _ (cl_ws t ht13 _ (u_in_lay hk))
  unfold u_lay at hlay
  rw [if_pos hfin] at hlay
  have hst := (u_facts hfc hkC (u_lays hts (cl_ws t ht13) hk) hi).1
  have hcf : m.cls = cf := by
    obtain ⟨_, _, c', _, _, _, -, -, hf', -, -, -, hown2, -⟩ := Cond.laysFinal_spec hlay
    have e1 : c' = cf := by have := hi.symm.trans hf'; simp at this; exact this.1.symm
    rw [hdecl] at hown2
    rw [← e1]; exact Option.some.inj (hown.symm.trans hown2)
  have h6 := u_fits hfc hkC hkind (Or.inr hlay) hi (cl_ty t ht13 k hk) hn hfit
  show W p l e R s m args below meth c H locs kc ks _ (F0 m pc ls (trv g v :: trv g (.ref a) :: st.map (trv g)))
  rw [hR.val (a := a) (by omega)]
  refine W.putFinK hx hb hown (hts _ hlk) hi hst hcf hcn (by rw [q2]; exact h6) q1 q3 (by rw [hsl]; exact k2_hasslot (q4 k hk)) rfl rfl d fun H' e1 e2 e3 => ?_
  rw [hsl] at e1 ⊢
  refine kk H' _ ls (hR.put hU (by omega) e2 e3 ?_) (hS.put e2 e3 (hR.fr (by omega))) hl
  have ht' : lt_t w' a = t := (hU.2.1 a).trans ht
  refine ⟨fun _ => ?_, fun q => absurd q (by omega)⟩
  rw [ht']
  exact t_OB.to (V := updV (fv g w u t a) k (trv g v)) ⟨_, e1, q2, q3, t_set q4 hap hk (trv g v)⟩ (fun j hj => (hv j hj).symm)
theorem fv_sI (g : GT) (w : LT) (u : MT) {t a k : Nat} (x : Int32) (hk : fk t k = 0) (j : Nat) : fv g w (sI u a k x) t a j = updV (fv g w u t a) k (trv g (.int x)) j := by
  by_cases hj : j = k
  · subst hj
    simp [fv, hk, updV, trv, gI, sI, up2]
  · simp [fv, updV, hj, gI, gK, sI, up2]
theorem fv_sK (g : GT) (w : LT) (u : MT) {t a k : Nat} (x : Nat) (hk : fk t k = 2) (j : Nat) : fv g w (sK u a k x) t a j = updV (fv g w u t a) k (trv g (.ref x)) j := by
  by_cases hj : j = k
  · subst hj
    simp [fv, hk, updV, trv, gK, sK, up2]
  · simp [fv, updV, hj, gI, gK, sK, up2]
theorem fv_sP (g : GT) (w : LT) (u : MT) {t a k : Nat} (x : Nat) (hk : fk t k = 1) (j : Nat) : fv g (sP w a k x) u t a j = updV (fv g w u t a) k (trv g (.ref x)) j := by
  by_cases hj : j = k
  · subst hj
    simp [fv, hk, updV, trv, lt_p, sP, up2]
  · simp [fv, updV, hj, gI, gK, lt_p, sP, up2]
theorem fit_ref (g : GT) (x : Nat) {ty : FieldType} (h : ty.isReference = true) : narrow ty (trv g (.ref x)) = trv g (.ref x) ∧ fits ty (trv g (.ref x)) = true := by
  rw [tr_rf]
  cases ty <;> first | (simp [FieldType.isReference] at h; done) | (split <;> exact ⟨rfl, rfl⟩)
theorem VputI {idx t k a : Nat} {x : Int32} (C : Cx z g cc nL own ret D mc ms) (d : decode cc pc = .ok (.putfield idx, 3)) (hf : GF own idx t k) (ht : lt_t w a = t) (hfin : (cT t k).2.2.2 = false) (hk : fk t k = 0) (hn : narrow (cY t k) (.int x) = .int x) (hfit : fits (cY t k) (.int x) = true) (kk : V z g nL (pc + 3) lv st w (sI u a k x) kc ks Q) : V z g nL pc lv (.int x :: .ref a :: st) w u kc ks Q :=
  Vput C d hf ht hfin hn hfit (Upd.i w u a k x) (fun j _ => fv_sI g w u x hk j) kk
theorem VputK {idx t k a x : Nat} (C : Cx z g cc nL own ret D mc ms) (d : decode cc pc = .ok (.putfield idx, 3)) (hf : GF own idx t k) (ht : lt_t w a = t) (hfin : (cT t k).2.2.2 = false) (hk : fk t k = 2) (hy : (cY t k).isReference = true) (kk : V z g nL (pc + 3) lv st w (sK u a k x) kc ks Q) : V z g nL pc lv (.ref x :: .ref a :: st) w u kc ks Q :=
  Vput C d hf ht hfin (fit_ref g x hy).1 (fit_ref g x hy).2 (Upd.k w u a k x) (fun j _ => fv_sK g w u x hk j) kk
theorem VputP {idx t k a x : Nat} (C : Cx z g cc nL own ret D mc ms) (d : decode cc pc = .ok (.putfield idx, 3)) (hf : GF own idx t k) (ht : lt_t w a = t) (hfin : (cT t k).2.2.2 = false) (hk : fk t k = 1) (hy : (cY t k).isReference = true) (kk : V z g nL (pc + 3) lv st (sP w a k x) u kc ks Q) : V z g nL pc lv (.ref x :: .ref a :: st) w u kc ks Q :=
  Vput C d hf ht hfin (fit_ref g x hy).1 (fit_ref g x hy).2 (Upd.p w u a k x) (fun j _ => fv_sP g w u x hk j) kk
theorem VputIF {idx t k a : Nat} {x : Int32} (C : Cx z g cc nL own ret D mc ms) (hcn : Cn z) (d : decode cc pc = .ok (.putfield idx, 3)) (hf : t < 13 ∧ k < cN t ∧ Cond.fieldLink own idx (cT t k).1 (cT t k).2.1 (cT t k).2.2.1 ∈ WT) (ht : lt_t w a = t) (hfin : (cT t k).2.2.2 = true) (hdecl : (cT t k).1 = own) (hk : fk t k = 0) (hn : narrow (cY t k) (.int x) = .int x) (hfit : fits (cY t k) (.int x) = true) (kk : V z g nL (pc + 3) lv st w (sI u a k x) kc ks Q) : V z g nL pc lv (.int x :: .ref a :: st) w u kc ks Q :=
  VputF C hcn d hf ht hfin hdecl hn hfit (Upd.i w u a k x) (fun j _ => fv_sI g w u x hk j) kk
theorem VputPF {idx t k a x : Nat} (C : Cx z g cc nL own ret D mc ms) (hcn : Cn z) (d : decode cc pc = .ok (.putfield idx, 3)) (hf : t < 13 ∧ k < cN t ∧ Cond.fieldLink own idx (cT t k).1 (cT t k).2.1 (cT t k).2.2.1 ∈ WT) (ht : lt_t w a = t) (hfin : (cT t k).2.2.2 = true) (hdecl : (cT t k).1 = own) (hk : fk t k = 1) (hy : (cY t k).isReference = true) (kk : V z g nL (pc + 3) lv st (sP w a k x) u kc ks Q) : V z g nL pc lv (.ref x :: .ref a :: st) w u kc ks Q :=
  VputF C hcn d hf ht hfin hdecl (fit_ref g x hy).1 (fit_ref g x hy).2 (Upd.p w u a k x) (fun j _ => fv_sP g w u x hk j) kk
/-! arrays -/
theorem Stc.arr {g : GT} {s : State} (h : Stc g s) {t : Nat} (h1 : 20 ≤ t) (h2 : t < 27) : ArrOfT s (gA g t) (aTy t) ∧ va_RA s (gA g t) (aTy t) := by
  have h3 := h.1.2
  match t, h1, h2 with
  | 20, _, _ => exact h3 0 _ rfl
  | 21, _, _ => exact h3 1 _ rfl
  | 22, _, _ => exact h3 2 _ rfl
  | 23, _, _ => exact h3 3 _ rfl
  | 24, _, _ => exact h3 4 _ rfl
  | 25, _, _ => exact h3 5 _ rfl
  | 26, _, _ => exact h3 6 _ rfl
  | n + 27, _, h => omega
theorem Viald {a n : Nat} {i : Int32} (C : Cx z g cc nL own ret D mc ms) (d : decode cc pc = .ok (.iaload, 1)) (ht : lt_t w a = 20) (hn : lt_l w a = n) (hin : vp_in i n) (kk : V z g nL (pc + 1) lv (.int (gI u a i.toNatClampNeg) :: st) w u kc ks Q) : V z g nL pc lv (.int i :: .ref a :: st) w u kc ks Q := by
  obtain ⟨p, l, e, R, s, m, args, below, meth, c⟩ := z
  intro H locs ls hR hS hl
  have hlt : i.toNatClampNeg < lt_l w a := by rw [hn]; exact Nat.not_le.mp fun q => hin (Or.inr q)
  show W p l e R s m args below meth c H locs kc ks _ (F0 m pc ls (.int i :: trv g (.ref a) :: st.map (trv g)))
  rw [hR.val (a := a) (by omega)]
  exact W.iald (v := .int (gI u a i.toNatClampNeg)) C.1 C.2.1 (hR.arr ht (by omega) (by omega)) ((C.2.2.2.2.2.2.2.1.arr (t := 20) (by omega) (by omega)).1 _ _) (fun q => by cases q) (by rw [arrV_size, hn]; exact hin) (by rw [arrV_read _ _ hlt]; rfl) rfl rfl d (kk H locs ls hR hS hl)
theorem Vlald {a n : Nat} {i : Int32} (C : Cx z g cc nL own ret D mc ms) (d : decode cc pc = .ok (.laload, 1)) (ht : lt_t w a = 21) (hn : lt_l w a = n) (hin : vp_in i n) (kk : V z g nL (pc + 1) lv (.long (gL u a i.toNatClampNeg) :: st) w u kc ks Q) : V z g nL pc lv (.int i :: .ref a :: st) w u kc ks Q := by
  obtain ⟨p, l, e, R, s, m, args, below, meth, c⟩ := z
  intro H locs ls hR hS hl
  have hlt : i.toNatClampNeg < lt_l w a := by rw [hn]; exact Nat.not_le.mp fun q => hin (Or.inr q)
  show W p l e R s m args below meth c H locs kc ks _ (F0 m pc ls (.int i :: trv g (.ref a) :: st.map (trv g)))
  rw [hR.val (a := a) (by omega)]
  exact W.lald (v := .long (gL u a i.toNatClampNeg)) C.1 C.2.1 (hR.arr ht (by omega) (by omega)) ((C.2.2.2.2.2.2.2.1.arr (t := 21) (by omega) (by omega)).1 _ _) (fun q => by cases q) (by rw [arrV_size, hn]; exact hin) (by rw [arrV_read _ _ hlt]; rfl) rfl rfl d (kk H locs ls hR hS hl)
theorem Vcald {a n : Nat} {i : Int32} (C : Cx z g cc nL own ret D mc ms) (d : decode cc pc = .ok (.caload, 1)) (ht : lt_t w a = 23) (hn : lt_l w a = n) (hin : vp_in i n) (kk : V z g nL (pc + 1) lv (.int (gI u a i.toNatClampNeg) :: st) w u kc ks Q) : V z g nL pc lv (.int i :: .ref a :: st) w u kc ks Q := by
  obtain ⟨p, l, e, R, s, m, args, below, meth, c⟩ := z
  intro H locs ls hR hS hl
  have hlt : i.toNatClampNeg < lt_l w a := by rw [hn]; exact Nat.not_le.mp fun q => hin (Or.inr q)
  show W p l e R s m args below meth c H locs kc ks _ (F0 m pc ls (.int i :: trv g (.ref a) :: st.map (trv g)))
  rw [hR.val (a := a) (by omega)]
  exact W.cald (v := .int (gI u a i.toNatClampNeg)) C.1 C.2.1 (hR.arr ht (by omega) (by omega)) ((C.2.2.2.2.2.2.2.1.arr (t := 23) (by omega) (by omega)).1 _ _) (fun q => by cases q) (by rw [arrV_size, hn]; exact hin) (by rw [arrV_read _ _ hlt]; rfl) rfl rfl d (kk H locs ls hR hS hl)
theorem Vzald {a n : Nat} {i : Int32} (C : Cx z g cc nL own ret D mc ms) (d : decode cc pc = .ok (.baload, 1)) (ht : lt_t w a = 22) (hn : lt_l w a = n) (hin : vp_in i n) (kk : V z g nL (pc + 1) lv (.int (gI u a i.toNatClampNeg) :: st) w u kc ks Q) : V z g nL pc lv (.int i :: .ref a :: st) w u kc ks Q := by
  obtain ⟨p, l, e, R, s, m, args, below, meth, c⟩ := z
  intro H locs ls hR hS hl
  have hlt : i.toNatClampNeg < lt_l w a := by rw [hn]; exact Nat.not_le.mp fun q => hin (Or.inr q)
  show W p l e R s m args below meth c H locs kc ks _ (F0 m pc ls (.int i :: trv g (.ref a) :: st.map (trv g)))
  rw [hR.val (a := a) (by omega)]
  exact W.zald (v := .int (gI u a i.toNatClampNeg)) C.1 C.2.1 (hR.arr ht (by omega) (by omega)) ((C.2.2.2.2.2.2.2.1.arr (t := 22) (by omega) (by omega)).1 _ _) (fun q => by cases q) (by rw [arrV_size, hn]; exact hin) (by rw [arrV_read _ _ hlt]; rfl) rfl rfl d (kk H locs ls hR hS hl)
theorem Vaald {a n t b : Nat} {i : Int32} (C : Cx z g cc nL own ret D mc ms) (d : decode cc pc = .ok (.aaload, 1)) (h24 : 24 ≤ t) (h27 : t < 27) (ht : lt_t w a = t) (hn : lt_l w a = n) (hin : vp_in i n) (hv : av g w u t a i.toNatClampNeg = trv g (.ref b)) (kk : V z g nL (pc + 1) lv (.ref b :: st) w u kc ks Q) : V z g nL pc lv (.int i :: .ref a :: st) w u kc ks Q := by
  obtain ⟨p, l, e, R, s, m, args, below, meth, c⟩ := z
  intro H locs ls hR hS hl
  have hlt : i.toNatClampNeg < lt_l w a := by rw [hn]; exact Nat.not_le.mp fun q => hin (Or.inr q)
  show W p l e R s m args below meth c H locs kc ks _ (F0 m pc ls (.int i :: trv g (.ref a) :: st.map (trv g)))
  rw [hR.val (a := a) (by omega)]
  refine W.aald (v := trv g (.ref b)) (ty := aTy t) C.1 C.2.1 (hR.arr ht (by omega) (by omega)) ((C.2.2.2.2.2.2.2.1.arr (t := t) (by omega) (by omega)).1 _ _) ?_ (fun q => by cases q) (by rw [arrV_size, hn]; exact hin) (by rw [arrV_read _ _ hlt, hv]) rfl rfl d (kk H locs ls hR hS hl)
  match t, h24, h27 with
  | 24, _, _ => rfl
  | 25, _, _ => rfl
  | 26, _, _ => rfl
  | n + 27, _, h => omega
theorem VaaldK {a n : Nat} {i : Int32} (C : Cx z g cc nL own ret D mc ms) (d : decode cc pc = .ok (.aaload, 1)) (ht : lt_t w a = 24) (hn : lt_l w a = n) (hin : vp_in i n) (kk : V z g nL (pc + 1) lv (.ref (gK u a i.toNatClampNeg) :: st) w u kc ks Q) : V z g nL pc lv (.int i :: .ref a :: st) w u kc ks Q :=
  Vaald C d (by omega) (by omega) ht hn hin rfl kk
theorem VaaldP {a n t b : Nat} {i : Int32} (C : Cx z g cc nL own ret D mc ms) (d : decode cc pc = .ok (.aaload, 1)) (h25 : t = 25 ∨ t = 26) (ht : lt_t w a = t) (hn : lt_l w a = n) (hin : vp_in i n) (hb : lt_p w a i.toNatClampNeg = b) (kk : V z g nL (pc + 1) lv (.ref b :: st) w u kc ks Q) : V z g nL pc lv (.int i :: .ref a :: st) w u kc ks Q :=
  Vaald C d (by omega) (by omega) ht hn hin (by rcases h25 with rfl | rfl <;> simp [av, trv, hb]) kk
theorem Valen {a n t : Nat} (C : Cx z g cc nL own ret D mc ms) (d : decode cc pc = .ok (.arraylength, 1)) (h20 : 20 ≤ t) (h27 : t < 27) (ht : lt_t w a = t) (hn : lt_l w a = n) (kk : V z g nL (pc + 1) lv (.int (Int32.ofNat n) :: st) w u kc ks Q) : V z g nL pc lv (.ref a :: st) w u kc ks Q := by
  obtain ⟨p, l, e, R, s, m, args, below, meth, c⟩ := z
  intro H locs ls hR hS hl
  show W p l e R s m args below meth c H locs kc ks _ (F0 m pc ls (trv g (.ref a) :: st.map (trv g)))
  rw [hR.val (a := a) (by omega)]
  exact W.alen (n := Int32.ofNat n) C.1 C.2.1 (hR.arr ht (by omega) (by omega)) ((C.2.2.2.2.2.2.2.1.arr (t := t) (by omega) (by omega)).1 _ _) (by rw [arrV_size, hn]; done) rfl rfl d (kk H locs ls hR hS hl)
theorem Rep.ast {H H' : Heap} {a t i : Nat} {v : Value} (hR : Rep g w u H) (hU : Upd w u w' u' a) (ht : lt_t w a = t) (h1 : 20 ≤ t) (h2 : t < 27) (z0 : H'.size = H.size) (oq : ∀ q : Nat, q ≠ adr g a → H'[q]? = H[q]?) (hc : H'[adr g a]? = some ((arrV (gA g t) (lt_l w a) (av g w u t a)).setSlot i v)) (hv : ∀ j, av g w' u' t a j = updV (av g w u t a) i v j) : Rep g w' u' H' := by
  refine hR.put hU (by omega) z0 oq ⟨fun q => absurd q (by rw [hU.2.1 a, ht]; omega), fun _ _ => ?_⟩
  rw [hU.2.1 a, hU.2.2.1 a, ht, hc, arrV_store]
  congr 2
  funext j
  exact (hv j).symm
theorem Viast {a n : Nat} {i x : Int32} (C : Cx z g cc nL own ret D mc ms) (d : decode cc pc = .ok (.iastore, 1)) (ht : lt_t w a = 20) (hn : lt_l w a = n) (hin : vp_in i n) (kk : V z g nL (pc + 1) lv st w (sI u a i.toNatClampNeg x) kc ks Q) : V z g nL pc lv (.int x :: .int i :: .ref a :: st) w u kc ks Q := by
  obtain ⟨p, l, e, R, s, m, args, below, meth, c⟩ := z
  intro H locs ls hR hS hl
  show W p l e R s m args below meth c H locs kc ks _ (F0 m pc ls (.int x :: .int i :: trv g (.ref a) :: st.map (trv g)))
  rw [hR.val (a := a) (by omega)]
  refine W.iast C.1 C.2.1 (hR.arr ht (by omega) (by omega)) ((C.2.2.2.2.2.2.2.1.arr (t := 20) (by omega) (by omega)).1 _ _) (fun q => by cases q) (by rw [arrV_size, hn]; exact hin) rfl rfl d fun H1 e1 z1 oq => ?_
  refine kk H1 _ ls (hR.ast (Upd.i w u a _ x) ht (by omega) (by omega) z1 oq e1 (fun j => ?_)) (hS.put z1 oq (hR.fr (by omega))) hl
  by_cases hj : j = i.toNatClampNeg <;> simp [av, updV, gI, sI, up2, hj]
theorem Vlast {a n : Nat} {i : Int32} {x : Int64} (C : Cx z g cc nL own ret D mc ms) (d : decode cc pc = .ok (.lastore, 1)) (ht : lt_t w a = 21) (hn : lt_l w a = n) (hin : vp_in i n) (kk : V z g nL (pc + 1) lv st w (sL u a i.toNatClampNeg x) kc ks Q) : V z g nL pc lv (.long x :: .int i :: .ref a :: st) w u kc ks Q := by
  obtain ⟨p, l, e, R, s, m, args, below, meth, c⟩ := z
  intro H locs ls hR hS hl
  show W p l e R s m args below meth c H locs kc ks _ (F0 m pc ls (.long x :: .int i :: trv g (.ref a) :: st.map (trv g)))
  rw [hR.val (a := a) (by omega)]
  refine W.last C.1 C.2.1 (hR.arr ht (by omega) (by omega)) ((C.2.2.2.2.2.2.2.1.arr (t := 21) (by omega) (by omega)).1 _ _) (fun q => by cases q) (by rw [arrV_size, hn]; exact hin) rfl rfl d fun H1 e1 z1 oq => ?_
  refine kk H1 _ ls (hR.ast (Upd.l w u a _ x) ht (by omega) (by omega) z1 oq e1 (fun j => ?_)) (hS.put z1 oq (hR.fr (by omega))) hl
  by_cases hj : j = i.toNatClampNeg <;> simp [av, updV, gL, sL, up2, hj]
theorem Vzast {a n : Nat} {i x : Int32} (C : Cx z g cc nL own ret D mc ms) (d : decode cc pc = .ok (.bastore, 1)) (ht : lt_t w a = 22) (hn : lt_l w a = n) (hin : vp_in i n) (kk : V z g nL (pc + 1) lv st w (sI u a i.toNatClampNeg (vp_nar .boolean x)) kc ks Q) : V z g nL pc lv (.int x :: .int i :: .ref a :: st) w u kc ks Q := by
  obtain ⟨p, l, e, R, s, m, args, below, meth, c⟩ := z
  intro H locs ls hR hS hl
  show W p l e R s m args below meth c H locs kc ks _ (F0 m pc ls (.int x :: .int i :: trv g (.ref a) :: st.map (trv g)))
  rw [hR.val (a := a) (by omega)]
  refine W.zast C.1 C.2.1 (hR.arr ht (by omega) (by omega)) ((C.2.2.2.2.2.2.2.1.arr (t := 22) (by omega) (by omega)).1 _ _) (fun q => by cases q) (by rw [arrV_size, hn]; exact hin) rfl rfl d fun H1 e1 z1 oq => ?_
  refine kk H1 _ ls (hR.ast (Upd.i w u a _ _) ht (by omega) (by omega) z1 oq e1 (fun j => ?_)) (hS.put z1 oq (hR.fr (by omega))) hl
  by_cases hj : j = i.toNatClampNeg
  · simp [av, updV, gI, sI, up2, hj]
    rfl
  · simp [av, updV, gI, sI, up2, hj]
theorem Vcast {a n : Nat} {i x : Int32} (C : Cx z g cc nL own ret D mc ms) (d : decode cc pc = .ok (.castore, 1)) (ht : lt_t w a = 23) (hn : lt_l w a = n) (hin : vp_in i n) (kk : V z g nL (pc + 1) lv st w (sI u a i.toNatClampNeg (vp_nar .char x)) kc ks Q) : V z g nL pc lv (.int x :: .int i :: .ref a :: st) w u kc ks Q := by
  obtain ⟨p, l, e, R, s, m, args, below, meth, c⟩ := z
  intro H locs ls hR hS hl
  show W p l e R s m args below meth c H locs kc ks _ (F0 m pc ls (.int x :: .int i :: trv g (.ref a) :: st.map (trv g)))
  rw [hR.val (a := a) (by omega)]
  refine W.cast C.1 C.2.1 (hR.arr ht (by omega) (by omega)) ((C.2.2.2.2.2.2.2.1.arr (t := 23) (by omega) (by omega)).1 _ _) (fun q => by cases q) (by rw [arrV_size, hn]; exact hin) rfl rfl d fun H1 e1 z1 oq => ?_
  refine kk H1 _ ls (hR.ast (Upd.i w u a _ _) ht (by omega) (by omega) z1 oq e1 (fun j => ?_)) (hS.put z1 oq (hR.fr (by omega))) hl
  by_cases hj : j = i.toNatClampNeg
  · simp [av, updV, gI, sI, up2, hj]
    rfl
  · simp [av, updV, gI, sI, up2, hj]
end VHEAP
