/-! ===== had, quarter, would: both alike ===== -/
def aD (A : AS) : Int32 := if aK A = -1 then aN A else aK A
theorem aD_nn {A : AS} {c : Nat} (h : AOk A c) : 0 ≤ (aD A).toInt := by
  obtain ⟨_, _, _, _, _, h6, _, h8, _⟩ := h
  unfold aD
  by_cases e : aK A = -1
  · rw [if_pos e]; exact h6
  · rw [if_neg e]; exact h8.resolve_left e
theorem ICl.wk {A : AS} {c b : Nat} {w : LT} {u v : MT} (h : ICl A w u) (hLay : Lay w) (hA : AOk A c) (hL : LOk A w) (hI : ∀ a j, (a < 116 ∨ 127 < a) → (a < b ∨ b + 5 < a) → gI v a j = gI u a j) (h1 : gI v 116 1 = gI u 116 1) (h2 : gI v 116 2 = gI u 116 2) (hK : ∀ a j, gK v a j = gK u a j) (hb : lt_t w b = 1) (hb' : b = 130 ∨ 216 ≤ b) (B1 : Bkk (aV A) (aX A) 130 v) (B2 : xtT (aY A) = 1 → Bkk (aV A) (aY A) (lt_p w 100 9) v) : ICl A w v := by
  obtain ⟨a1, a2, a3, a4, a5, a6, a7, a8, a9, a10, a11⟩ := h
  have tx : ∀ {t : Nat}, lt_t w t = 7 → pOk t → ∀ a j, t ≤ a → a ≤ t + 26 → gI v a j = gI u a j ∧ gK v a j = gK u a j := fun {t} h7 hp a j e1 e2 => by
    have := lay_tb hLay h7 hb
    refine ⟨hI _ _ (by rcases hp with e | e <;> omega) (by omega), hK _ _⟩
  refine ⟨a1.fr (fun a j h => hI _ _ (by omega) (by omega)) h1 h2, a2.fr3 hA.2.1 (hI _ _ (by omega) (by omega)) (fun t ht => tx (a2.2 t ht).1 (hL.2.1 t ht).1), a3.fr3 hA.2.2.1 (hI _ _ (by omega) (by omega)) (fun t ht => tx (a3.2 t ht).1 ?_), by rw [hI _ _ (by omega) (by omega)]; exact a4, by rw [hI _ _ (by omega) (by omega)]; exact a5, ⟨a6.1, by rw [hI _ _ (by omega) (by omega)]; exact a6.2.1, fun k hk => by rw [hI _ _ (by omega) (by omega)]; exact a6.2.2 k hk⟩, by rw [hI _ _ (by omega) (by omega)]; exact a7, fun d hd => ⟨fun h hh => by rw [hI _ _ (by omega) (by omega)]; exact (a8 d hd).1 h hh, by rw [hI _ _ (by omega) (by omega)]; exact (a8 d hd).2.1, by rw [hI _ _ (by omega) (by omega)]; exact (a8 d hd).2.2⟩, fun j h1 h2 => by rw [hI _ _ (by omega) (by omega)]; exact a9 j h1 h2, B1, B2⟩
  have hy := hA.2.2.2.1
  have e1 : xtT (aY A) = 1 := by omega
  have e2 : t = 0 := by omega
  subst e2
  exact (hL.2.2.2.1 e1).1
theorem IRf.wk {A : AS} {u v : MT} (h : IRf A u) (hF : Fr wI_X12_works [] [] u v) : IRf A v := by
  obtain ⟨a1, a2, a3, a4, a5, a6, a7, a8, a9, a10, a11⟩ := h
  have s := Sfr.works hF
  have k : ∀ j, (j = 25 ∨ j = 40 ∨ j = 41 ∨ j = 2 ∨ j = 73) → gI v 167 j = gI u 167 j := fun j hj => hF.1 _ _ (by simp [nin, wI_X12_works] <;> omega)
  exact ⟨a1.fr s, a2.fr s, a3.fr s, a4.fr s, by rw [k _ (by decide)]; exact a5, by rw [k _ (by decide)]; exact a6, by rw [k _ (by decide)]; exact a7, ⟨a8.1, by rw [k _ (by decide)]; exact a8.2.1, fun j hj => by rw [hF.1 _ _ (by simp [nin, wI_X12_works])]; exact a8.2.2 j hj⟩, fun j hj => by rw [hF.2.1 _ _ (by simp [nin])]; exact a9 j hj, by rw [k _ (by decide)]; exact a10, fun j hj => by rw [hF.1 _ _ (by simp [nin, wI_X12_works])]; exact a11 j hj⟩
theorem FrR.wk {u v : MT} (hF : Fr wI_X12_works [] [] u v) : FrR u v := ⟨fun a j h => hF.1 _ _ (by simp [nin, wI_X12_works] <;> omega), fun a j => hF.2.2 _ _ (by simp [nin]), fun j => hF.2.1 _ _ (by simp [nin])⟩
section
variable {f : Nat}
theorem I_main {A : AS} {c Q : Nat} {w : LT} {u : MT} {x d : Int32} (hf : 3000 < f) (hLay : Lay w) (hA : AOk A c) (hL : LOk A w) (hC : ICl A w u) (hx : Nm x Q) (hQ : Q < 240) : Ok (F_X1_workTo w f 130 128 x d u) (fun r => ICl A w r ∧ FrC u r ∧ Wto w (aV A) (aX A) d 130 128 Q u r) := by
  have hC' := hC
  obtain ⟨a1, a2, a3, a4, a5, a6, a7, a8, a9, ⟨W, b1, b2, b3⟩, a11⟩ := hC'
  obtain ⟨r, er, hr⟩ := c_workTo (f := f) (d := d) hf hA.1 hA.2.1 a1 a2 (Dj_of hLay a2 (kt_130 hLay) (by decide)) (by decide) (by decide) b1 b2 rfl b3 hx hQ
  refine ⟨r, er, ?_, ⟨fun a j h1 h2 => hr.2.2.2.2.1 a j (by omega) (by omega), fun j => (fr_F_X1_workTo er).2.1 _ _ (by simp [nin])⟩, hr⟩
  obtain ⟨⟨W', g1, g2, g3, g4⟩, g5, g6, g7, g8, g9, g10, g11⟩ := hr
  refine hC.wk hLay hA hL g8 g9 g10 g11 (kt_130 hLay) (Or.inl rfl) ⟨W', g3, g2, by rw [g5]; exact g4⟩ (fun hy => (a11 hy).fr (fun a j h1 h2 => ?_))
  obtain ⟨_, _, o1, _, o2⟩ := hL.2.2.2.1 hy
  exact g8 _ _ (by omega) (by omega)
theorem I_oth {A : AS} {c Q : Nat} {w : LT} {u : MT} {x d : Int32} (hf : 3000 < f) (hLay : Lay w) (hA : AOk A c) (hL : LOk A w) (hC : ICl A w u) (hy : xtT (aY A) = 1) (hx : Nm x Q) (hQ : Q < 240) : Ok (F_X1_workTo w f (lt_p w 100 9) (lt_p w (lt_p w 100 9) 2) x d u) (fun r => ICl A w r ∧ FrC u r ∧ Wto w (aV A) (aY A) d (lt_p w 100 9) 138 Q u r) := by
  have hC' := hC
  obtain ⟨a1, a2, a3, a4, a5, a6, a7, a8, a9, a10, a11⟩ := hC'
  obtain ⟨W, b1, b2, b3⟩ := a11 hy
  obtain ⟨_, _, o1, o3, o2⟩ := hL.2.2.2.1 hy
  rw [o3]
  obtain ⟨r, er, hr⟩ := c_workTo (f := f) (d := d) hf hA.1 hA.2.2.1 a1 a3 (Dj_of hLay a3 o1 (by omega)) (by decide) (by omega) b1 b2 rfl b3 hx hQ
  have frs := fr_F_X1_workTo er
  refine ⟨r, er, ?_, ⟨fun a j h1 h2 => hr.2.2.2.2.1 a j (by omega) (by omega), fun j => frs.2.1 _ _ (by simp [nin])⟩, hr⟩
  obtain ⟨⟨W', g1, g2, g3, g4⟩, g5, g6, g7, g8, g9, g10, g11⟩ := hr
  exact hC.wk hLay hA hL g8 g9 g10 g11 o1 (Or.inr o2) (a10.fr (fun a j h1 h2 => g8 _ _ (by omega) (by omega))) (fun _ => ⟨W', g3, g2, by rw [g5]; exact g4⟩)
theorem R_main {A : AS} {c Q : Nat} {u : MT} {x d : Int32} (hf : 1300 < f) (hA : AOk A c) (hR : IRf A u) (hx : Nm x Q) (hQ : Q < 240) : Ok (F_X12_works f x d 0 u) (fun r => IRf A r ∧ FrR u r ∧ Rw (aV A) (aX A) d id Q r ∧ Fr wI_X12_works [] [] u r) := by
  obtain ⟨r, er, hr⟩ := r_works (f := f) (x := x) (x3 := 0) (d := d) hf hA.1 hA.2.1.1 hA.2.1 hR.1 hR.2.1 hR.2.2.1 (fun q hq => by
    rw [if_pos rfl]
    show _ = txC (Option.map id _)
    rw [Option.map_id]; rfl) hx hQ
  have hF := fr_F_X12_works er
  exact ⟨r, er, hR.wk hF, FrR.wk hF, hr, hF⟩
theorem tx_oth {A : AS} {c q : Nat} {d : Int32} (hA : AOk A c) (hy : xtT (aY A) = 1) (hd : 0 ≤ d.toInt) (hq : q < 240) : txO (aY A) d q = some 0 := by
  obtain ⟨e1, e2⟩ := hA.2.2.2.2.1 hy
  have z0 : (0 : Int32).toInt = 0 := rfl
  have m1 : (Int32.ofNat q).toInt = (q : Int) := Nm.of (by omega)
  unfold txO
  rw [hy]
  show (if xtQ (aY A) 0 ≤ Int32.ofNat q ∧ xtD (aY A) 0 ≤ d then some 0 else txF _ _ _ _ 0) = _
  rw [e1, e2, if_pos ⟨i_le.mpr (by omega), i_le.mpr (by omega)⟩]
theorem R_oth {A : AS} {c Q : Nat} {u : MT} {x d : Int32} (hf : 1300 < f) (hA : AOk A c) (hR : IRf A u) (hy : xtT (aY A) = 1) (hd : 0 ≤ d.toInt) (hx : Nm x Q) (hQ : Q < 240) : Ok (F_X12_works f x d 1 u) (fun r => IRf A r ∧ FrR u r ∧ Rw (aV A) (aY A) d (fun _ => 6) Q r ∧ Fr wI_X12_works [] [] u r) := by
  obtain ⟨r, er, hr⟩ := r_works (f := f) (x := x) (x3 := 1) (d := d) hf hA.1 hA.2.1.1 hA.2.2.1 hR.1 hR.2.1 hR.2.2.2.1 (fun q hq => by
    rw [if_neg (by decide), tx_oth hA hy hd hq]; rfl) hx hQ
  have hF := fr_F_X12_works er
  exact ⟨r, er, hR.wk hF, FrR.wk hF, hr, hF⟩
theorem c_day {A : AS} {w : LT} {u : MT} (hC : ICl A w u) : F_X11_dayOfLooks f u = some (aD A, u) := by
  rw [F_X11_dayOfLooks, hC.2.2.2.1, hC.2.2.2.2.1]
  unfold aD
  by_cases e : aK A = -1
  · rw [if_pos e, if_pos e]
  · rw [if_neg e, if_neg e]
theorem r_day {A : AS} {c : Nat} {u : MT} (hA : AOk A c) (hR : IRf A u) : F_X12_lookDay f u = some (aD A, u) := by
  have z0 : (0 : Int32).toInt = 0 := rfl
  rw [F_X12_lookDay, hR.2.2.2.2.2.1, hR.2.2.2.2.2.2.1]
  unfold aD
  by_cases e : aK A = -1
  · rw [if_pos e, e, if_neg (by decide)]
  · have := hA.2.2.2.2.2.2.2.1.resolve_left e
    rw [if_neg e, if_pos (i_le.mpr (by omega))]
def gHad (A : AS) (x1 x2 x3 : Int32) : Prop := (0 ≤ x1.toInt ∧ x1.toInt < (vlN (aV A) : Int)) ∧ (0 ≤ x2.toInt ∧ x2.toInt ≤ 239) ∧ 0 ≤ x3.toInt ∧ x3.toInt ≤ 8
theorem P_had {A : AS} {c : Nat} {w : LT} {u : MT} {x1 x2 x3 : Int32} (hf : 3000 < f) (hLay : Lay w) (h : Inv A c w u) (hg : gHad A x1 x2 x3) : ∃ a u1 u2, F_X11_had w f x1 x2 x3 u = some (a, u1) ∧ F_X12_had f x1 x2 x3 u1 = some (a, u2) ∧ gI u2 167 0 = 0 ∧ Inv A (c + 1) w u2 := by
  obtain ⟨hA, hL, hC, hR⟩ := h
  obtain ⟨g1, g2, g3⟩ := hg
  have h12 := hA.1.1
  have z0 : (0 : Int32).toInt = 0 := rfl
  have z8 : (8 : Int32).toInt = 8 := rfl
  have z239 : (239 : Int32).toInt = 239 := rfl
  have n1 : Nm x1 x1.toNatClampNeg := Nm.of_nn g1.1
  have n2 : Nm x2 x2.toNatClampNeg := Nm.of_nn g2.1
  generalize x1.toNatClampNeg = hh at n1
  generalize x2.toNatClampNeg = q at n2
  have n1' : x1.toInt = (hh : Int) := n1
  have n2' : x2.toInt = (q : Int) := n2
  obtain ⟨u1, e1, C1, F1, T1⟩ := I_main (f := f) (x := x2) (d := aD A) hf hLay hA hL hC n2 (by omega)
  obtain ⟨⟨W, t1, t2, t3, t4⟩, t5, t6, t7, _⟩ := T1
  have hR1 : IRf A (sI u1 167 0 0) := (hR.fr F1).thr
  obtain ⟨u2, e2, R2, F2, W2, W3⟩ := R_main (f := f) (x := x2) (d := aD A) (by omega) hA hR1 n2 (by omega)
  refine ⟨hadV (aV A) (aX A) (aD A) q hh x3, u1, u2, ?_, ?_, ?_, hA.mono, hL, (C1.fr hA hL (FrR.put (a := 167) (by decide))).fr hA hL F2, R2⟩
  · rw [F_X11_had, c_has hC.1.1 h12, b2i_t g1]
    show (F_X11_isQuarter f x2 u).bind _ = _
    rw [c_isQ, b2i_t g2]
    show (F_X11_isIn f x3 0 8 u).bind _ = _
    rw [c_isIn, b2i_t (by rw [z0, z8]; exact g3)]
    show (F_X11_dayOfLooks f u).bind _ = _
    rw [c_day hC]
    show (F_X1_workTo w f 130 128 x2 (aD A) u).bind _ = _
    rw [e1]
    show (F_X1_ofHouse f 130 128 x1 x2 x3 u1).bind _ = _
    rw [c_ofHouse hA.1 t6 (t4.1 q t1) n1 (by omega) n2 (by omega)]
    rfl
  · have e31 : (gI u1 167 31).toInt = (vlN (aV A) : Int) := (hR.fr F1).1.1
    rw [F_X12_had, if_neg (fun e => by have := i_lt.mp e; omega), if_neg (fun e => by have := i_le.mp e; omega), if_neg (fun e => by have := i_lt.mp e; omega), if_neg (fun e => by have := i_lt.mp e; omega), if_neg (fun e => by have := i_lt.mp e; omega), if_neg (fun e => by have := i_lt.mp e; omega), B_X12_had_39]
    show (if gI (sI u1 167 0 0) 167 0 ≤ 0 then (F_X12_lookDay f (sI u1 167 0 0)).bind _ else _) = _
    rw [g_same, if_pos (by decide), r_day hA hR1]
    show (F_X12_works f x2 (aD A) 0 (sI u1 167 0 0)).bind _ = _
    rw [e2]
    obtain ⟨k1, _⟩ := W2
    obtain ⟨k1, k2, k3, k4, k5, k6, k7, k8, k9⟩ := k1 hh (by omega)
    have nx := n1.ix (show hh < 12 by omega)
    show (if x3 = 0 then ck (ixo x1 12) (some (gI u2 197 x1.toNatClampNeg, u2)) else if x3 = 1 then ck (ixo x1 12) (some (gI u2 198 x1.toNatClampNeg, u2)) else if x3 = 2 then ck (ixo x1 12) (some (gI u2 200 x1.toNatClampNeg, u2)) else if x3 = 3 then ck (ixo x1 12) (some (gI u2 204 x1.toNatClampNeg, u2)) else if x3 = 4 then ck (ixo x1 12) (some (gI u2 205 x1.toNatClampNeg, u2)) else if x3 = 5 then ck (ixo x1 12) (some (gI u2 206 x1.toNatClampNeg, u2)) else if x3 = 6 then ck (ixo x1 12) (some (gI u2 201 x1.toNatClampNeg, u2)) else if x3 = 7 then ck (ixo x1 12) (some (gI u2 199 x1.toNatClampNeg, u2)) else ck (ixo x1 12) (some (gI u2 208 x1.toNatClampNeg, u2))) = _
    rw [ck_p nx, ck_p nx, ck_p nx, ck_p nx, ck_p nx, ck_p nx, ck_p nx, ck_p nx, ck_p nx, n1.nat, k1, k2, k3, k4, k5, k6, k7, k8, k9]
    unfold hadV
    by_cases c0 : x3 = 0
    · rw [if_pos c0, if_pos c0]
    rw [if_neg c0, if_neg c0]
    by_cases c1 : x3 = 1
    · rw [if_pos c1, if_pos c1]
    rw [if_neg c1, if_neg c1]
    by_cases c2 : x3 = 2
    · rw [if_pos c2, if_pos c2]
    rw [if_neg c2, if_neg c2]
    by_cases c3 : x3 = 3
    · rw [if_pos c3, if_pos c3]
    rw [if_neg c3, if_neg c3]
    by_cases c4 : x3 = 4
    · rw [if_pos c4, if_pos c4]
    rw [if_neg c4, if_neg c4]
    by_cases c5 : x3 = 5
    · rw [if_pos c5, if_pos c5]
    rw [if_neg c5, if_neg c5]
    by_cases c6 : x3 = 6
    · rw [if_pos c6, if_pos c6]
    rw [if_neg c6, if_neg c6]
    by_cases c7 : x3 = 7
    · rw [if_pos c7, if_pos c7]; rfl
    rw [if_neg c7, if_neg c7]
  · rw [W3.1 _ _ (by simp [nin, wI_X12_works])]; exact g_same _ _ _ _
theorem P_hadT {A : AS} {c : Nat} {w : LT} {u : MT} {x1 x2 x3 : Int32} (h : Inv A c w u) (hg : ¬ gHad A x1 x2 x3) : F_X12_had f x1 x2 x3 u = some (0, sI u 167 0 1) ∧ Inv A (c + 1) w (sI u 167 0 1) := by
  refine ⟨?_, h.thr⟩
  have z0 : (0 : Int32).toInt = 0 := rfl
  have z8 : (8 : Int32).toInt = 8 := rfl
  have z239 : (239 : Int32).toInt = 239 := rfl
  have e31 : (gI u 167 31).toInt = (vlN (aV A) : Int) := h.2.2.2.1.1
  have k : B_X12_had_38 f x1 x2 x3 u = some (0, sI u 167 0 1) := by
    rw [B_X12_had_38, B_X12_had_39]
    show (if gI (sI u 167 0 1) 167 0 ≤ 0 then _ else _) = _
    rw [g_same, if_neg (by decide)]
  rw [F_X12_had]
  by_cases c1 : x1 < 0
  · rw [if_pos c1, k]
  rw [if_neg c1]
  by_cases c2 : gI u 167 31 ≤ x1
  · rw [if_pos c2, k]
  rw [if_neg c2]
  by_cases c3 : x2 < 0
  · rw [if_pos c3, k]
  rw [if_neg c3]
  by_cases c4 : 239 < x2
  · rw [if_pos c4, k]
  rw [if_neg c4]
  by_cases c5 : x3 < 0
  · rw [if_pos c5, k]
  rw [if_neg c5]
  by_cases c6 : 8 < x3
  · rw [if_pos c6, k]
  refine absurd ⟨⟨?_, ?_⟩, ⟨?_, ?_⟩, ?_, ?_⟩ hg
  · have := mt i_lt.mpr c1; omega
  · have := mt i_le.mpr c2; omega
  · have := mt i_lt.mpr c3; omega
  · have := mt i_lt.mpr c4; omega
  · have := mt i_lt.mpr c5; omega
  · have := mt i_lt.mpr c6; omega
end
