/-! ===== quarter, would: both alike ===== -/
theorem ring_h {p f s t : Int32} (h : p + f + s = t) : s = t - f - p := by grind
section
variable {f : Nat}
def gQua (x1 x2 : Int32) : Prop := (0 ≤ x1.toInt ∧ x1.toInt ≤ 239) ∧ 0 ≤ x2.toInt ∧ x2.toInt ≤ 13
theorem r_q57 {V : VD} {X : XD} {d : Int32} {sl : Nat → Nat} {q k : Nat} {t : MT} {x2 : Int32} (hf : 1300 < f) (hV : VOk V) (hn : Nm (gI t 167 31) (vlN V)) (hW : Rw V X d sl q t) (hk : Nm x2 k) (hk14 : k < 14) : B_X12_quarter_57 f f x2 0 0 0 t = some (tes V X d k q, t) := by
  have h12 := hV.1
  obtain ⟨w1, w2, w3, w4, w5, w6, w7, w8, w9, w10, w11, w12, w13⟩ := hW
  obtain ⟨ok1, ok2⟩ := tS_ok (X := X) (d := d) hV q
  have hi := ok2.2
  have loop : ∀ (e j : Nat) (y a b : Int32) (m : Nat), j + e = vlN V → Nm y j → e < m → a = sm (qA (tS V X d q)) j → b = sm (fun h => qW (tS V X d q) h - room (tS V X d q) h) j → B_X12_quarter_57 f m x2 a b y t = some (tes V X d k q, t) := by
    intro e
    induction e with
    | zero =>
      intro j y a b m hj hy hm ha hb
      obtain ⟨m, rfl⟩ : ∃ m', m = m' + 1 := ⟨m - 1, by omega⟩
      have hj : j = vlN V := by omega
      subst hj
      rw [B_X12_quarter_57, if_pos ((hn.le hy).mpr (Nat.le_refl _)), w2, w3, w5, w9, w8, w4, w6, w7]
      have hk' : x2.toInt = (k : Int) := hk
      have cs : ∀ j : Nat, j < 14 → (x2 = Int32.ofNat j ↔ k = j) := fun j hj => hk.eq (Nm.of (by omega))
      by_cases c0 : k = 0
      · rw [if_pos ((hk.eq nm0).mpr c0)]; subst c0; rfl
      rw [if_neg (fun c => c0 ((hk.eq nm0).mp c))]
      by_cases c1 : k = 1
      · rw [if_pos ((hk.eq (show Nm (1 : Int32) 1 from rfl)).mpr c1), ha, ring_h hi]; subst c1; rfl
      rw [if_neg (fun c => c1 ((hk.eq (show Nm (1 : Int32) 1 from rfl)).mp c))]
      by_cases c2 : k = 2
      · rw [if_pos ((hk.eq (show Nm (2 : Int32) 2 from rfl)).mpr c2)]; subst c2; rfl
      rw [if_neg (fun c => c2 ((hk.eq (show Nm (2 : Int32) 2 from rfl)).mp c))]
      by_cases c3 : k = 3
      · rw [if_pos ((hk.eq (show Nm (3 : Int32) 3 from rfl)).mpr c3)]; subst c3; rfl
      rw [if_neg (fun c => c3 ((hk.eq (show Nm (3 : Int32) 3 from rfl)).mp c))]
      by_cases c4 : k = 4
      · rw [if_pos ((hk.eq (show Nm (4 : Int32) 4 from rfl)).mpr c4)]; subst c4; rfl
      rw [if_neg (fun c => c4 ((hk.eq (show Nm (4 : Int32) 4 from rfl)).mp c))]
      by_cases c5 : k = 5
      · rw [if_pos ((hk.eq (show Nm (5 : Int32) 5 from rfl)).mpr c5)]; subst c5; rfl
      rw [if_neg (fun c => c5 ((hk.eq (show Nm (5 : Int32) 5 from rfl)).mp c))]
      by_cases c6 : k = 6
      · rw [if_pos ((hk.eq (show Nm (6 : Int32) 6 from rfl)).mpr c6)]; subst c6; rfl
      rw [if_neg (fun c => c6 ((hk.eq (show Nm (6 : Int32) 6 from rfl)).mp c))]
      by_cases c7 : k = 7
      · rw [if_pos ((hk.eq (show Nm (7 : Int32) 7 from rfl)).mpr c7), hb]; subst c7; rfl
      rw [if_neg (fun c => c7 ((hk.eq (show Nm (7 : Int32) 7 from rfl)).mp c))]
      by_cases c8 : k = 8
      · rw [if_pos ((hk.eq (show Nm (8 : Int32) 8 from rfl)).mpr c8)]; subst c8; rfl
      rw [if_neg (fun c => c8 ((hk.eq (show Nm (8 : Int32) 8 from rfl)).mp c))]
      by_cases c9 : k = 9
      · rw [if_pos ((hk.eq (show Nm (9 : Int32) 9 from rfl)).mpr c9)]; subst c9; rfl
      rw [if_neg (fun c => c9 ((hk.eq (show Nm (9 : Int32) 9 from rfl)).mp c))]
      have n10 : Nm (x2 - 10) (k - 10) := hk.sub (show Nm (10 : Int32) 10 from rfl) (by omega)
      rw [ck_p (n10.ix (by omega)), n10.nat, w10 _ (by omega)]
      have : k = 10 ∨ k = 11 ∨ k = 12 ∨ k = 13 := by omega
      rcases this with e | e | e | e <;> subst e <;> rfl
    | succ e ih =>
      intro j y a b m hj hy hm ha hb
      obtain ⟨m, rfl⟩ : ∃ m', m = m' + 1 := ⟨m - 1, by omega⟩
      obtain ⟨k1, k2, k3, k4, k5, k6, k7, k8, k9⟩ := w1 j (by omega)
      rw [B_X12_quarter_57, if_neg (fun c => by have := (hn.le hy).mp c; omega), ck_p (hy.ix (by omega)), hy.nat, k5, k6]
      exact ih (j + 1) (y + 1) _ _ m (by omega) (hy.succ (by omega)) (by omega) (by rw [ha]; rfl) (by rw [hb]; rfl)
  exact loop (vlN V) 0 0 0 0 f (by omega) nm0 (by omega) rfl rfl
theorem P_quarter {A : AS} {c : Nat} {w : LT} {u : MT} {x1 x2 : Int32} (hf : 3000 < f) (hLay : Lay w) (h : Inv A c w u) (hg : gQua x1 x2) : ∃ a u1 u2, F_X11_quarter w f x1 x2 u = some (a, u1) ∧ F_X12_quarter f x1 x2 u1 = some (a, u2) ∧ gI u2 167 0 = 0 ∧ Inv A (c + 1) w u2 := by
  obtain ⟨hA, hL, hC, hR⟩ := h
  obtain ⟨g1, g2⟩ := hg
  have h12 := hA.1.1
  have z0 : (0 : Int32).toInt = 0 := rfl
  have z13 : (13 : Int32).toInt = 13 := rfl
  have z239 : (239 : Int32).toInt = 239 := rfl
  have n1 : Nm x1 x1.toNatClampNeg := Nm.of_nn g1.1
  have n2 : Nm x2 x2.toNatClampNeg := Nm.of_nn g2.1
  generalize x1.toNatClampNeg = q at n1
  generalize x2.toNatClampNeg = k at n2
  have n1' : x1.toInt = (q : Int) := n1
  have n2' : x2.toInt = (k : Int) := n2
  obtain ⟨u1, e1, C1, F1, T1⟩ := I_main (f := f) (x := x1) (d := aD A) hf hLay hA hL hC n1 (by omega)
  obtain ⟨⟨W, t1, t2, t3, t4⟩, t5, t6, t7, _⟩ := T1
  have hR1 : IRf A (sI u1 167 0 0) := (hR.fr F1).thr
  obtain ⟨u2, e2, R2, F2, W2, W3⟩ := R_main (f := f) (x := x1) (d := aD A) (by omega) hA hR1 n1 (by omega)
  refine ⟨tes (aV A) (aX A) (aD A) k q, u1, u2, ?_, ?_, ?_, hA.mono, hL, (C1.fr hA hL (FrR.put (a := 167) (by decide))).fr hA hL F2, R2⟩
  · rw [F_X11_quarter, c_isQ, b2i_t g1]
    show (F_X11_isIn f x2 0 13 u).bind _ = _
    rw [c_isIn, b2i_t (by rw [z0, z13]; exact g2)]
    show (F_X11_dayOfLooks f u).bind _ = _
    rw [c_day hC]
    show (F_X1_workTo w f 130 128 x1 (aD A) u).bind _ = _
    rw [e1]
    show (F_X1_sum f 130 128 x1 x2 u1).bind _ = _
    rw [c_bsum n1 (by omega) n2 (by omega), (t4.1 q t1).2 k (by omega)]
    rfl
  · rw [F_X12_quarter, if_neg (fun e => by have := i_lt.mp e; omega), if_neg (fun e => by have := i_lt.mp e; omega), if_neg (fun e => by have := i_lt.mp e; omega), if_neg (fun e => by have := i_lt.mp e; omega), B_X12_quarter_27]
    show (if gI (sI u1 167 0 0) 167 0 ≤ 0 then (F_X12_lookDay f (sI u1 167 0 0)).bind _ else _) = _
    rw [g_same, if_pos (by decide), r_day hA hR1]
    show (F_X12_works f x1 (aD A) 0 (sI u1 167 0 0)).bind _ = _
    rw [e2]
    exact r_q57 (by omega) hA.1 R2.1.1 W2 n2 (by omega)
  · rw [W3.1 _ _ (by simp [nin, wI_X12_works])]; exact g_same _ _ _ _
theorem P_quarterT {A : AS} {c : Nat} {w : LT} {u : MT} {x1 x2 : Int32} (h : Inv A c w u) (hg : ¬ gQua x1 x2) : F_X12_quarter f x1 x2 u = some (0, sI u 167 0 1) ∧ Inv A (c + 1) w (sI u 167 0 1) := by
  refine ⟨?_, h.thr⟩
  have z0 : (0 : Int32).toInt = 0 := rfl
  have z13 : (13 : Int32).toInt = 13 := rfl
  have z239 : (239 : Int32).toInt = 239 := rfl
  have k : B_X12_quarter_26 f x1 x2 u = some (0, sI u 167 0 1) := by
    rw [B_X12_quarter_26, B_X12_quarter_27]
    show (if gI (sI u 167 0 1) 167 0 ≤ 0 then _ else _) = _
    rw [g_same, if_neg (by decide)]
  rw [F_X12_quarter]
  by_cases c3 : x1 < 0
  · rw [if_pos c3, k]
  rw [if_neg c3]
  by_cases c4 : 239 < x1
  · rw [if_pos c4, k]
  rw [if_neg c4]
  by_cases c5 : x2 < 0
  · rw [if_pos c5, k]
  rw [if_neg c5]
  by_cases c6 : 13 < x2
  · rw [if_pos c6, k]
  refine absurd ⟨⟨?_, ?_⟩, ?_, ?_⟩ hg
  · have := mt i_lt.mpr c3; omega
  · have := mt i_lt.mpr c4; omega
  · have := mt i_lt.mpr c5; omega
  · have := mt i_lt.mpr c6; omega
theorem P_would {A : AS} {c : Nat} {w : LT} {u : MT} {x1 x2 : Int32} (hf : 3000 < f) (hLay : Lay w) (h : Inv A c w u) : ∃ a u1 u2 A', F_X11_would w f x1 x2 u = some (a, u1) ∧ F_X12_would f x1 x2 u1 = some (a, u2) ∧ Inv A' (c + 1) w u2 := by
  have hI := h.thr (x := 0)
  obtain ⟨hA, hL, hC, hR⟩ := h
  have h12 := hA.1.1
  have z0 : (0 : Int32).toInt = 0 := rfl
  have z239 : (239 : Int32).toInt = 239 := rfl
  have hY := hA.2.2.2.1
  have e31 : (gI u 167 31).toInt = (vlN (aV A) : Int) := hR.1.1
  have n31 : gI (sI u 167 0 0) 167 31 = gI u 167 31 := g_nk _ _ _ (by decide)
  by_cases g : (0 ≤ x1.toInt ∧ x1.toInt < (vlN (aV A) : Int)) ∧ (0 ≤ x2.toInt ∧ x2.toInt ≤ 239) ∧ xtT (aY A) = 1
  · obtain ⟨g1, g2, g3⟩ := g
    have n1 : Nm x1 x1.toNatClampNeg := Nm.of_nn g1.1
    have n2 : Nm x2 x2.toNatClampNeg := Nm.of_nn g2.1
    generalize x1.toNatClampNeg = hh at n1
    generalize x2.toNatClampNeg = q at n2
    have n1' : x1.toInt = (hh : Int) := n1
    have n2' : x2.toInt = (q : Int) := n2
    obtain ⟨_, _, o1, o3, o2⟩ := hL.2.2.2.1 g3
    obtain ⟨u1, e1, C1, F1, T1⟩ := I_oth (f := f) (x := x2) (d := aD A) hf hLay hA hL hC g3 n2 (by omega)
    obtain ⟨⟨W, t1, t2, t3, t4⟩, t5, t6, t7, _⟩ := T1
    have hR1 : IRf A (sI u1 167 0 0) := (hR.fr F1).thr
    obtain ⟨u2, e2, R2, F2, W2, W3⟩ := R_oth (f := f) (x := x2) (d := aD A) (by omega) hA hR1 g3 (aD_nn hA) n2 (by omega)
    refine ⟨qA (tS (aV A) (aY A) (aD A) q) hh + qB (tS (aV A) (aY A) (aD A) q) hh, u1, u2, A, ?_, ?_, hA.mono, hL, (C1.fr hA hL (FrR.put (a := 167) (by decide))).fr hA hL F2, R2⟩
    · rw [F_X11_would, if_neg (by omega), c_has hC.1.1 h12, b2i_t g1]
      show (F_X11_isQuarter f x2 u).bind _ = _
      rw [c_isQ, b2i_t g2]
      show (F_X11_dayOfLooks f u).bind _ = _
      rw [c_day hC]
      show ck (lt_t w (lt_p w 100 9) = 1) ((F_X1_workTo w f (lt_p w 100 9) (lt_p w (lt_p w 100 9) 2) x2 (aD A) u).bind _) = _
      rw [ck_p o1, e1]
      show (F_X1_byRules f (lt_p w 100 9) (lt_p w (lt_p w 100 9) 2) x1 x2 u1).bind _ = _
      rw [F_X1_byRules, F_X1_cell]
      have nc : Nm (x2 * 12 + x1) (q * 12 + hh) := (n2.mul (show Nm (12 : Int32) 12 from rfl) (by omega)).add n1 (by omega)
      show (ck (ixo (x2 * 12 + x1) 2880) (some (gI u1 (lt_p w 100 9 + 2) (x2 * 12 + x1).toNatClampNeg + gI u1 (lt_p w 100 9 + 3) (x2 * 12 + x1).toNatClampNeg, u1))).bind _ = _
      obtain ⟨k1, k2, k3, k4⟩ := (t4.1 q t1).1 hh (by omega)
      rw [ck_p (nc.ix (by omega)), nc.nat, k2, k3]; rfl
    · have f31 : (gI (sI u1 167 0 0) 167 31).toInt = (vlN (aV A) : Int) := hR1.1.1
      have f25 := hR1.2.2.2.2.1
      rw [F_X12_would]
      show (if x1 < 0 then _ else if gI (sI u1 167 0 0) 167 31 ≤ x1 then _ else if x2 < 0 then _ else if 239 < x2 then _ else if gI (sI u1 167 0 0) 167 25 = 0 then _ else (F_X12_lookDay f (sI u1 167 0 0)).bind _) = _
      rw [if_neg (fun e => by have := i_lt.mp e; omega), if_neg (fun e => by have := i_le.mp e; omega), if_neg (fun e => by have := i_lt.mp e; omega), if_neg (fun e => by have := i_lt.mp e; omega), if_neg (fun e => by have := (f25.eq nm0).mp e; omega), r_day hA hR1]
      show (F_X12_works f x2 (aD A) 1 (sI u1 167 0 0)).bind _ = _
      rw [e2]
      obtain ⟨k1, k2, k3, k4, k5, k6, k7, k8, k9⟩ := W2.1 hh (by omega)
      show ck (ixo x1 12) (some (gI u2 204 x1.toNatClampNeg + gI u2 205 x1.toNatClampNeg, u2)) = _
      rw [ck_p (n1.ix (by omega)), n1.nat, k6, k7]
  · refine ⟨-1, u, sI u 167 0 0, A, ?_, ?_, hI⟩
    · rw [F_X11_would]
      by_cases c1 : lt_p w 100 9 = 0
      · rw [if_pos c1]
      rw [if_neg c1, c_has hC.1.1 h12]
      have y1 : xtT (aY A) = 1 := by
        rcases Nat.lt_or_ge 0 (xtT (aY A)) with e | e
        · omega
        · exact absurd (hL.2.2.2.2 (by omega)).2 c1
      by_cases c2 : 0 ≤ x1.toInt ∧ x1.toInt < (vlN (aV A) : Int)
      · rw [b2i_t c2]
        show (F_X11_isQuarter f x2 u).bind _ = _
        rw [c_isQ, b2i_f (fun c3 => g ⟨c2, c3, y1⟩)]; rfl
      · rw [b2i_f c2]; rfl
    · rw [F_X12_would]
      show (if x1 < 0 then some (-1, sI u 167 0 0) else if gI (sI u 167 0 0) 167 31 ≤ x1 then some (-1, sI u 167 0 0) else if x2 < 0 then some (-1, sI u 167 0 0) else if 239 < x2 then some (-1, sI u 167 0 0) else if gI (sI u 167 0 0) 167 25 = 0 then some (-1, sI u 167 0 0) else _) = _
      by_cases c1 : x1 < 0
      · rw [if_pos c1]
      rw [if_neg c1, n31]
      by_cases c2 : gI u 167 31 ≤ x1
      · rw [if_pos c2]
      rw [if_neg c2]
      by_cases c3 : x2 < 0
      · rw [if_pos c3]
      rw [if_neg c3]
      by_cases c4 : 239 < x2
      · rw [if_pos c4]
      rw [if_neg c4, if_pos]
      rw [g_nk _ _ _ (by decide)]
      refine (hR.2.2.2.2.1.eq nm0).mpr ?_
      rcases Nat.lt_or_ge 0 (xtT (aY A)) with e | e
      · refine absurd ⟨⟨?_, ?_⟩, ⟨?_, ?_⟩, ?_⟩ g
        · have := mt i_lt.mpr c1; omega
        · have := mt i_le.mpr c2; omega
        · have := mt i_lt.mpr c3; omega
        · have := mt i_lt.mpr c4; omega
        · omega
      · omega
end
