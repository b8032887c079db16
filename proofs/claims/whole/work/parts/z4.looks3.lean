/-! ===== had, quarter, bill once more: the law writes the answer down between the two calls ===== -/
section
variable {f : Nat}
theorem P_had2 {A : AS} {c : Nat} {w : LT} {u : MT} {x1 x2 x3 : Int32} (hf : 3000 < f) (hLay : Lay w) (h : Inv A c w u) (hg : gHad A x1 x2 x3) : ∃ a u1, F_X11_had w f x1 x2 x3 u = some (a, u1) ∧ Inv A c w u1 ∧ ∀ v, (∀ a j, gI v a j = gI u1 a j) → (∀ a j, gK v a j = gK u1 a j) → (∀ j, gL v 172 j = gL u1 172 j) → ∃ u2, F_X12_had f x1 x2 x3 v = some (a, u2) ∧ gI u2 167 0 = 0 ∧ (∀ a j, gL u2 a j = gL v a j) ∧ Inv A (c + 1) w u2 := by
  obtain ⟨hA, hL, hC, hR⟩ := h
  obtain ⟨g1, g2, g3⟩ := hg
  have h12 := hA.1.1
  have z0 : (0 : Int32).toInt = 0 := rfl
  have z8 : (8 : Int32).toInt = 8 := rfl
  have z239 : (239 : Int32).toInt = 239 := rfl
  have n1 : Nm x1 x1.toNatClampNeg := Nm.of_nn g1.1
  have n2 : Nm x2 x2.toNatClampNeg := Nm.of_nn g2.1
  generalize x1.toNatClampNeg = hh at n1
  generalize x2.toNatClampNeg = q at n2
  have n1' : x1.toInt = (hh : Int) := n1
  have n2' : x2.toInt = (q : Int) := n2
  obtain ⟨u1, e1, C1, F1, T1⟩ := I_main (f := f) (x := x2) (d := aD A) hf hLay hA hL hC n2 (by omega)
  obtain ⟨⟨W, t1, t2, t3, t4⟩, t5, t6, t7, _⟩ := T1
  refine ⟨hadV (aV A) (aX A) (aD A) q hh x3, u1, ?_, ⟨hA, hL, C1, hR.fr F1⟩, fun v v1 v2 v3 => ?_⟩
  · rw [F_X11_had, c_has hC.1.1 h12, b2i_t g1]
    show (F_X11_isQuarter f x2 u).bind _ = _
    rw [c_isQ, b2i_t g2]
    show (F_X11_isIn f x3 0 8 u).bind _ = _
    rw [c_isIn, b2i_t (by rw [z0, z8]; exact g3)]
    show (F_X11_dayOfLooks f u).bind _ = _
    rw [c_day hC]
    show (F_X1_workTo w f 130 128 x2 (aD A) u).bind _ = _
    rw [e1]
    show (F_X1_ofHouse f 130 128 x1 x2 x3 u1).bind _ = _
    rw [c_ofHouse hA.1 t6 (t4.1 q t1) n1 (by omega) n2 (by omega)]
    rfl
  have Rv : IRf A v := (hR.fr F1).fr ⟨fun a j _ _ => v1 a j, v3⟩
  have hR1 : IRf A (sI v 167 0 0) := Rv.thr
  obtain ⟨u2, e2, R2, F2, W2, W3⟩ := R_main (f := f) (x := x2) (d := aD A) (by omega) hA hR1 n2 (by omega)
  have Cv : ICl A w v := C1.fr hA hL ⟨fun a j _ => v1 a j, v2, v3⟩
  refine ⟨u2, ?_, ?_, fun a j => W3.2.1 a j (by simp [nin]), hA.mono, hL, (Cv.fr hA hL (FrR.put (a := 167) (by decide))).fr hA hL F2, R2⟩
  · have e31 : (gI v 167 31).toInt = (vlN (aV A) : Int) := Rv.1.1
    rw [F_X12_had, if_neg (fun e => by have := i_lt.mp e; omega), if_neg (fun e => by have := i_le.mp e; omega), if_neg (fun e => by have := i_lt.mp e; omega), if_neg (fun e => by have := i_lt.mp e; omega), if_neg (fun e => by have := i_lt.mp e; omega), if_neg (fun e => by have := i_lt.mp e; omega), B_X12_had_39]
    show (if gI (sI v 167 0 0) 167 0 ≤ 0 then (F_X12_lookDay f (sI v 167 0 0)).bind _ else _) = _
    rw [g_same, if_pos (by decide), r_day hA hR1]
    show (F_X12_works f x2 (aD A) 0 (sI v 167 0 0)).bind _ = _
    rw [e2]
    obtain ⟨k1, _⟩ := W2
    obtain ⟨k1, k2, k3, k4, k5, k6, k7, k8, k9⟩ := k1 hh (by omega)
    have nx := n1.ix (show hh < 12 by omega)
    show (if x3 = 0 then ck (ixo x1 12) (some (gI u2 197 x1.toNatClampNeg, u2)) else if x3 = 1 then ck (ixo x1 12) (some (gI u2 198 x1.toNatClampNeg, u2)) else if x3 = 2 then ck (ixo x1 12) (some (gI u2 200 x1.toNatClampNeg, u2)) else if x3 = 3 then ck (ixo x1 12) (some (gI u2 204 x1.toNatClampNeg, u2)) else if x3 = 4 then ck (ixo x1 12) (some (gI u2 205 x1.toNatClampNeg, u2)) else if x3 = 5 then ck (ixo x1 12) (some (gI u2 206 x1.toNatClampNeg, u2)) else if x3 = 6 then ck (ixo x1 12) (some (gI u2 201 x1.toNatClampNeg, u2)) else if x3 = 7 then ck (ixo x1 12) (some (gI u2 199 x1.toNatClampNeg, u2)) else ck (ixo x1 12) (some (gI u2 208 x1.toNatClampNeg, u2))) = _
    rw [ck_p nx, ck_p nx, ck_p nx, ck_p nx, ck_p nx, ck_p nx, ck_p nx, ck_p nx, ck_p nx, n1.nat, k1, k2, k3, k4, k5, k6, k7, k8, k9]
    unfold hadV
    by_cases c0 : x3 = 0
    · rw [if_pos c0, if_pos c0]
    rw [if_neg c0, if_neg c0]
    by_cases c1 : x3 = 1
    · rw [if_pos c1, if_pos c1]
    rw [if_neg c1, if_neg c1]
    by_cases c2 : x3 = 2
    · rw [if_pos c2, if_pos c2]
    rw [if_neg c2, if_neg c2]
    by_cases c3 : x3 = 3
    · rw [if_pos c3, if_pos c3]
    rw [if_neg c3, if_neg c3]
    by_cases c4 : x3 = 4
    · rw [if_pos c4, if_pos c4]
    rw [if_neg c4, if_neg c4]
    by_cases c5 : x3 = 5
    · rw [if_pos c5, if_pos c5]
    rw [if_neg c5, if_neg c5]
    by_cases c6 : x3 = 6
    · rw [if_pos c6, if_pos c6]
    rw [if_neg c6, if_neg c6]
    by_cases c7 : x3 = 7
    · rw [if_pos c7, if_pos c7]; rfl
    rw [if_neg c7, if_neg c7]
  · rw [W3.1 _ _ (by simp [nin, wI_X12_works])]; exact g_same _ _ _ _
theorem P_quarter2 {A : AS} {c : Nat} {w : LT} {u : MT} {x1 x2 : Int32} (hf : 3000 < f) (hLay : Lay w) (h : Inv A c w u) (hg : gQua x1 x2) : ∃ a u1, F_X11_quarter w f x1 x2 u = some (a, u1) ∧ Inv A c w u1 ∧ ∀ v, (∀ a j, gI v a j = gI u1 a j) → (∀ a j, gK v a j = gK u1 a j) → (∀ j, gL v 172 j = gL u1 172 j) → ∃ u2, F_X12_quarter f x1 x2 v = some (a, u2) ∧ gI u2 167 0 = 0 ∧ (∀ a j, gL u2 a j = gL v a j) ∧ Inv A (c + 1) w u2 := by
  obtain ⟨hA, hL, hC, hR⟩ := h
  obtain ⟨g1, g2⟩ := hg
  have h12 := hA.1.1
  have z0 : (0 : Int32).toInt = 0 := rfl
  have z13 : (13 : Int32).toInt = 13 := rfl
  have z239 : (239 : Int32).toInt = 239 := rfl
  have n1 : Nm x1 x1.toNatClampNeg := Nm.of_nn g1.1
  have n2 : Nm x2 x2.toNatClampNeg := Nm.of_nn g2.1
  generalize x1.toNatClampNeg = q at n1
  generalize x2.toNatClampNeg = k at n2
  have n1' : x1.toInt = (q : Int) := n1
  have n2' : x2.toInt = (k : Int) := n2
  obtain ⟨u1, e1, C1, F1, T1⟩ := I_main (f := f) (x := x1) (d := aD A) hf hLay hA hL hC n1 (by omega)
  obtain ⟨⟨W, t1, t2, t3, t4⟩, t5, t6, t7, _⟩ := T1
  refine ⟨tes (aV A) (aX A) (aD A) k q, u1, ?_, ⟨hA, hL, C1, hR.fr F1⟩, fun v v1 v2 v3 => ?_⟩
  · rw [F_X11_quarter, c_isQ, b2i_t g1]
    show (F_X11_isIn f x2 0 13 u).bind _ = _
    rw [c_isIn, b2i_t (by rw [z0, z13]; exact g2)]
    show (F_X11_dayOfLooks f u).bind _ = _
    rw [c_day hC]
    show (F_X1_workTo w f 130 128 x1 (aD A) u).bind _ = _
    rw [e1]
    show (F_X1_sum f 130 128 x1 x2 u1).bind _ = _
    rw [c_bsum n1 (by omega) n2 (by omega), (t4.1 q t1).2 k (by omega)]
    rfl
  have Rv : IRf A v := (hR.fr F1).fr ⟨fun a j _ _ => v1 a j, v3⟩
  have hR1 : IRf A (sI v 167 0 0) := Rv.thr
  obtain ⟨u2, e2, R2, F2, W2, W3⟩ := R_main (f := f) (x := x1) (d := aD A) (by omega) hA hR1 n1 (by omega)
  have Cv : ICl A w v := C1.fr hA hL ⟨fun a j _ => v1 a j, v2, v3⟩
  refine ⟨u2, ?_, ?_, fun a j => W3.2.1 a j (by simp [nin]), hA.mono, hL, (Cv.fr hA hL (FrR.put (a := 167) (by decide))).fr hA hL F2, R2⟩
  · rw [F_X12_quarter, if_neg (fun e => by have := i_lt.mp e; omega), if_neg (fun e => by have := i_lt.mp e; omega), if_neg (fun e => by have := i_lt.mp e; omega), if_neg (fun e => by have := i_lt.mp e; omega), B_X12_quarter_27]
    show (if gI (sI v 167 0 0) 167 0 ≤ 0 then (F_X12_lookDay f (sI v 167 0 0)).bind _ else _) = _
    rw [g_same, if_pos (by decide), r_day hA hR1]
    show (F_X12_works f x1 (aD A) 0 (sI v 167 0 0)).bind _ = _
    rw [e2]
    exact r_q57 (by omega) hA.1 R2.1.1 W2 n2 (by omega)
  · rw [W3.1 _ _ (by simp [nin, wI_X12_works])]; exact g_same _ _ _ _
theorem P_bill2 {A : AS} {c : Nat} {w : LT} {u : MT} {x1 x2 : Int32} (h : Inv A c w u) (hg : gBil A x1 x2) : ∃ a, F_X11_bill f x1 x2 u = some (a, u) ∧ ∀ v, (∀ a j, gI v a j = gI u a j) → (∀ a j, gK v a j = gK u a j) → (∀ j, gL v 172 j = gL u 172 j) → ∃ u2, F_X12_bill f x1 x2 v = some (a, u2) ∧ gI u2 167 0 = 0 ∧ (∀ a j, gL u2 a j = gL v a j) ∧ Inv A (c + 1) w u2 := by
  have h' := h
  obtain ⟨a, _, e1, _⟩ := P_bill (f := f) h hg
  refine ⟨a, e1, fun v v1 v2 v3 => ?_⟩
  obtain ⟨hA, hL, hC, hR⟩ := h'
  have hv : Inv A c w v := ⟨hA, hL, hC.fr hA hL ⟨fun a j _ => v1 a j, v2, v3⟩, hR.fr ⟨fun a j _ _ => v1 a j, v3⟩⟩
  obtain ⟨a', u2, f1, f2, f3, f4⟩ := P_bill (f := f) hv hg
  have ea : a' = a := by
    have e3 : F_X11_bill f x1 x2 v = (F_X11_bill f x1 x2 u).map (fun r => (r.1, v)) := by
      rw [F_X11_bill, F_X11_bill, c_isIn, c_isIn, v1 136 1]
      by_cases g1 : (0 : Int32).toInt ≤ x1.toInt ∧ x1.toInt ≤ (gI u 136 1 - 1).toInt
      · rw [b2i_t g1]
        show (F_X11_isIn f x2 (-2) (gI v 101 2 - 1) v).bind _ = ((F_X11_isIn f x2 (-2) (gI u 101 2 - 1) u).bind _).map _
        rw [c_isIn, c_isIn, v1 101 2]
        by_cases g2 : (-2 : Int32).toInt ≤ x2.toInt ∧ x2.toInt ≤ (gI u 101 2 - 1).toInt
        · rw [b2i_t g2]
          show ck (ixo (x1 * 14 + x2 - (-2)) 140) (some (gI v 137 (x1 * 14 + x2 - (-2)).toNatClampNeg, v)) = (ck (ixo (x1 * 14 + x2 - (-2)) 140) (some (gI u 137 (x1 * 14 + x2 - (-2)).toNatClampNeg, u))).map _
          rw [v1]
          unfold ck
          by_cases g3 : ixo (x1 * 14 + x2 - (-2)) 140
          · rw [if_pos g3, if_pos g3]; rfl
          · rw [if_neg g3, if_neg g3]; rfl
        · rw [b2i_f g2]; rfl
      · rw [b2i_f g1]; rfl
    rw [e1, f1] at e3
    exact (Prod.mk.inj (Option.some.inj e3)).1
  subst ea
  exact ⟨u2, f2, f3, fun b j => (fr_F_X12_bill f2).2.1 b j (by simp [nin]), f4⟩
end
theorem Inv.grw {A : AS} {c : Nat} {w : LT} {u : MT} (h : Inv A c w u) (k : Nat) : Inv A c (grw w k) u := by
  obtain ⟨hA, ⟨l1, l2⟩, hC, hR⟩ := h
  exact ⟨hA, ⟨Nat.lt_of_lt_of_le l1 (Nat.le_add_right _ _), l2⟩, hC, hR⟩
theorem Lay.grw {w : LT} (h : Lay w) (k : Nat) : Lay (grw w k) := h
theorem Lfresh {z : ZT} {g : GT} {b pc : Nat} {lv : List (Nat × Value)} {st : List Value} {w : LT} {u : MT} {kc ks : Nat} (k : Fre w → VL z g b pc lv st w u kc ks) : VL z g b pc lv st w u kc ks := by
  obtain ⟨p, l, e, R, s, m, args, below, meth, c⟩ := z
  intro H locs ls hR hS hl h0
  exact k (fun a h => hR.2.2.1 a (Or.inr h)) H locs ls hR hS hl h0
theorem lg_self (x : Int64) : lg_cmp x x = 0 := by
  unfold lg_cmp
  simp
