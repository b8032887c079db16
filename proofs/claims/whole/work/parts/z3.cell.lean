/-! ===== the law's cell ===== -/
def celV (L : Nat) (xs : Nat → Int32) (k : Nat) : Int32 := if k < L then xs k else 0
theorem m_cell {g : GT} {w : LT} {u : MT} {b L kn : Nat} {xs : Nat → Int32} {k : Int32} (hk : Nm k kn) (hL : L ≤ 3586) (hb0 : ¬ fr g b) (l : Launch) : Met l yL_cell (.code yL_cell cL_cell 2 (some .int) :: WT) (rmD 1 0 0) (va_Pc [.ref b, .int k] (fun U => (Stc g U ∧ Rep g w u U.heap) ∧ va_X b L xs U U.heap)) (QQ g (Qi (celV L xs kn) w u)) 0 0 (fr g) := by
  refine Met.ofW (cc := cL_cell) (maxL := 2) (ret := some .int) (by decide +kernel) rfl ?_
  intro p e s m args below meth c s₁ B hml hv
  obtain ⟨rfl, ⟨hst, hR⟩, hX⟩ := hv
  have hx := B.exec
  have hb := B.bytes
  have hr := B.returns
  have hlk := B.notSynchronized
  have hl := lv_entry ([.ref b, .int k]) (n := 2) (Nat.le_of_ble_eq_true rfl)
  rw [lg_entry_eq]
  generalize (lg_sl ([.ref b, .int k]) ++ List.replicate (2 - (lg_sl ([.ref b, .int k])).length) Slot.unset).toArray = ls at hl ⊢
  have hl : lv_has ls 2 [(0, .ref b), (1, .int k)] := hl
  have hbl : b < s.heap.size := by
    obtain ⟨scr, h1, _⟩ := hX
    exact (Array.getElem?_eq_some_iff.mp h1).1
  have hS : va_S (fr g) s.heap s.heap [] := va_S.rf
  have nL : Nm (Int32.ofNat L) L := Nm.of (by omega)
  refine lv_iload_n hx hb (dAt D_L_cell 0 rfl) rfl (lv_at hl 1 rfl) ?_
  refine lv_aload_n hx hb (dAt D_L_cell 1 rfl) rfl (lv_at hl 0 rfl) ?_
  refine va_slen hx hb hX hbl hb0 hS (dAt D_L_cell 2 rfl) ?_
  refine lv_icmp_ge (tgt := 12) hx hb (dAt D_L_cell 3 rfl) (by decide) (fun q => ?_) (fun q => ?_)
  · have hkl := (nL.le hk).mp q
    refine lv_iconst (v := 0) hx hb (dAt D_L_cell 8 rfl) (by decide) ?_
    refine W.iret hx hb hr (fun t ht _ => Vret_end (v := some (.int 0)) hR hS ⟨?_, rfl, rfl⟩ ht _) hS.2.2 (dAt D_L_cell 9 rfl)
    show some (Value.int 0) = some (.int (celV L xs kn))
    unfold celV; rw [if_neg (by omega)]
  · have hkl : kn < L := by have := mt (nL.le hk).mpr q; omega
    refine lv_aload_n hx hb (dAt D_L_cell 4 rfl) rfl (lv_at hl 0 rfl) ?_
    refine lv_iload_n hx hb (dAt D_L_cell 5 rfl) rfl (lv_at hl 1 rfl) ?_
    refine va_sld hx hb hX hbl hb0 hS (vp_in_iff.mpr (hk.ix hkl)) (dAt D_L_cell 6 rfl) ?_
    refine lv_goto (tgt := 13) hx hb (dAt D_L_cell 7 rfl) (by decide) ?_
    refine W.iret hx hb hr (fun t ht _ => Vret_end (v := some (.int (xs k.toNatClampNeg))) hR hS ⟨?_, rfl, rfl⟩ ht _) hS.2.2 (dAt D_L_cell 9 rfl)
    show some (Value.int (xs k.toNatClampNeg)) = some (.int (celV L xs kn))
    unfold celV; rw [if_pos hkl, hk.nat]
section
variable {z : ZT} {g : GT} {b L : Nat} {xs : Nat → Int32} {pc : Nat} {lv : List (Nat × Value)} {st : List Value} {w : LT} {u : MT} {kc ks : Nat}
theorem Lcell {kk : Int} {k : Int32} {kn : Nat} (C : LwC z g b L xs) (hL : L ≤ 3586) (dA : decode cL_law pc = .ok (.aload_n 0, 1)) (dB : decode cL_law (pc + 1) = .ok (.iconst kk, 1)) (hkk : Int32.ofInt kk = k) (hk : Nm k kn) (dC : decode cL_law (pc + 1 + 1) = .ok (.invokestatic 22, 3)) (hrm : (st.map fun v => v.category).sum ≤ 8) (hc : kc ≤ 601024) (hs : ks ≤ 7293000) (hg : VL z g b (pc + 5) lv (.int (celV L xs kn) :: st) w u kc ks) : VL z g b pc lv st w u kc ks := by
  obtain ⟨p, l, e, R, s, m, args, below, meth, c⟩ := z
  intro H locs ls hR hS hl h0
  obtain ⟨hx, hb, hmL, hown, hts, hr, hlk, hsc, hRm, _, _, hX, hbl, hgn, hargs⟩ := C
  have hbA : ¬ fr g b := fun h => by have h : gn g ≤ b := h; omega
  refine lv_aload_n hx hb dA rfl h0 (lv_iconst hx hb dB hkk ?_)
  obtain ⟨hyl, hcd, hin, hd1, hd2, hd3⟩ := yb_L_22
  have hyl : Cond.methodLink RL 22 yL_cell ∈ WT := by
    rcases hyl with h | ⟨host, h⟩
    · exact h
    · exact WT_c4 217 rfl rfl
  have hpre : PreS s H (va_Pc [.ref b, .int k] (fun U => (Stc g U ∧ Rep g w u U.heap) ∧ va_X b L xs U U.heap)) [.ref b, .int k] := by
    refine ⟨fun a U f mk ⟨h1, ⟨h2, h3⟩, h4⟩ => ⟨h1, ⟨h2.go (s := U) (U := U.calling f mk a) (State.WarmedH.refl U) (Nat.le_refl _) (fun _ _ _ => rfl), h3⟩, h4⟩, fun U hU hW => ⟨rfl, ⟨hsc.now hS hU hW, by rw [hU]; exact hR⟩, ?_⟩⟩
    rw [hU]
    exact (hX.kept (hS.2.1 b hbl hbA)).moved hW.alike
  have hR1 : (rmD 1 0 0).frames + 1 ≤ R.frames ∧ 8 + (2 + 11) + (rmD 1 0 0).locals ≤ R.locals := by
    rw [hRm]
    exact ⟨by decide, by decide⟩
  have hfit : kc + 0 ≤ R.cells ∧ ks + 0 ≤ R.slots := by rw [hRm]; exact ⟨hc, hs⟩
  exact Vrun_go (va_runS (As := [.ref b, .int k]) (rest := st.map (trv g)) ⟨hx, hb, hmL, hown, hts⟩ (m_cell hk hL hbA l) ⟨callB_of 2 hts (good_cons hcd) rfl rfl rfl (hts _ hin) (hts _ hyl) ⟨hd1, hd2, hd3⟩ hR1, hts _ ys_L_22⟩ hpre rfl rfl hl.1 rfl (lv_roomT hrm) dC hfit) hS (fun v w1 u1 H1 locs1 q1 q2 q3 => by
    obtain ⟨rfl, rfl, rfl⟩ := q1
    exact hg H1 locs1 ls q2 q3 hl h0)
end
