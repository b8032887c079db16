def B_X10_handOnes_64 (f : Nat) (j6 : Nat → Int32 → Int32 → Int32 → Int32 → Int32 → MT → Option (Int32 × MT)) (a1 : Nat) (x2 : Int32) (x4 : Int32) (x5 : Int32) (x6 : Int32) (x7 : Int32) (u : MT) : Option (Int32 × MT) :=
  let v13 := x7 + 1
  j6 a1 x2 x4 x5 x6 v13 u
theorem w_X10_handOnes_64 {z : ZT} {g : GT} {w : LT} (hL : Lay w) (C : Cx z g cX10_handOnes 9 RX10 (some .int) 1 0 0) {f : Nat} {r : (Int32 × MT)} {j6 : Nat → Int32 → Int32 → Int32 → Int32 → Int32 → MT → Option (Int32 × MT)} (q6 : ∀ (a1 : Nat) (x2 : Int32) (x4 : Int32) (x5 : Int32) (x6 : Int32) (x7 : Int32) (u : MT), lt_t w a1 = 5 → j6 a1 x2 x4 x5 x6 x7 u = some r → V z g 9 6 [(0, .ref 116), (1, .ref a1), (2, .int x2), (4, .int x4), (5, .int x5), (6, .int x6), (7, .int x7)] [] w u 0 0 (Qi r.1 w r.2)) {a1 : Nat} {x2 : Int32} {x4 : Int32} {x5 : Int32} {x6 : Int32} {x7 : Int32} {u : MT} (k1 : lt_t w a1 = 5) (h : B_X10_handOnes_64 f j6 a1 x2 x4 x5 x6 x7 u = some r) : V z g 9 64 [(0, .ref 116), (1, .ref a1), (2, .int x2), (4, .int x4), (5, .int x5), (6, .int x6), (7, .int x7)] [] w u 0 0 (Qi r.1 w r.2) := by
  rw [B_X10_handOnes_64] at h
  refine Viinc (j := 6) (v := _ + 1) (lv' := [(7, _), (0, _), (1, _), (2, _), (4, _), (5, _), (6, _)]) C (dAt D_X10_handOnes 32 rfl) rfl rfl (by decide) rfl ?_
  refine Vgoto (tgt := 6) C (dAt D_X10_handOnes 33 rfl) (by decide) ?_
  exact Vsub [1, 2, 3, 4, 5, 6, 0] rfl (q6 _ _ _ _ _ _ _ k1 h)
def B_X10_handOnes_6 (f : Nat) : Nat → Nat → Int32 → Int32 → Int32 → Int32 → Int32 → MT → Option (Int32 × MT)
  | 0, _, _, _, _, _, _, _ => none
  | n + 1, a1, x2, x4, x5, x6, x7, u =>
    if (gI u 116 12) ≤ x7 then
      some (x6, u)
    else
      ck (ixo x7 12) <|
      let v3 := (gI u 122 (x7).toNatClampNeg)
      if x6 ≤ 0 then
        B_X10_handOnes_64 f (fun a1' x2' x4' x5' x6' x7' u' => B_X10_handOnes_6 f n a1' x2' x4' x5' x6' x7' u') a1 x2 x4 x5 x6 x7 u
      else
        if v3 < x4 then
          B_X10_handOnes_64 f (fun a1' x2' x4' x5' x6' x7' u' => B_X10_handOnes_6 f n a1' x2' x4' x5' x6' x7' u') a1 x2 x4 x5 x6 x7 u
        else
          if x5 ≤ v3 then
            B_X10_handOnes_64 f (fun a1' x2' x4' x5' x6' x7' u' => B_X10_handOnes_6 f n a1' x2' x4' x5' x6' x7' u') a1 x2 x4 x5 x6 x7 u
          else
            (F_X10_room f v3 u).bind fun r7 =>
            if r7.1 ≤ 0 then
              B_X10_handOnes_64 f (fun a1' x2' x4' x5' x6' x7' u' => B_X10_handOnes_6 f n a1' x2' x4' x5' x6' x7' u') a1 x2 x4 x5 x6 x7 r7.2
            else
              (F_X10_hand f a1 x2 v3 (1 : Int32) r7.2).bind fun r10 =>
              let v12 := x6 + (-1)
              B_X10_handOnes_64 f (fun a1' x2' x4' x5' x6' x7' u' => B_X10_handOnes_6 f n a1' x2' x4' x5' x6' x7' u') a1 x2 x4 x5 v12 x7 r10
theorem w_X10_handOnes_6 {z : ZT} {g : GT} {w : LT} (hL : Lay w) (C : Cx z g cX10_handOnes 9 RX10 (some .int) 1 0 0) {f : Nat} {r : (Int32 × MT)} : ∀ (n : Nat) (a1 : Nat) (x2 : Int32) (x4 : Int32) (x5 : Int32) (x6 : Int32) (x7 : Int32) (u : MT), lt_t w a1 = 5 → B_X10_handOnes_6 f n a1 x2 x4 x5 x6 x7 u = some r → V z g 9 6 [(0, .ref 116), (1, .ref a1), (2, .int x2), (4, .int x4), (5, .int x5), (6, .int x6), (7, .int x7)] [] w u 0 0 (Qi r.1 w r.2) := by
  intro n
  induction n with
  | zero =>
    intro a1 x2 x4 x5 x6 x7 u k1 h
    rw [B_X10_handOnes_6] at h
    cases h
  | succ n ih =>
    intro a1 x2 x4 x5 x6 x7 u k1 h
    rw [B_X10_handOnes_6] at h
    refine Viload C 6 (dAt D_X10_handOnes 4 rfl) rfl ?_
    refine Vaload_n C 0 (dAt D_X10_handOnes 5 rfl) rfl rfl ?_
    refine VgetI C (dAt D_X10_handOnes 6 rfl) gf_X10_198 (kt_116 hL) rfl ?_
    refine Vicmp_ge (tgt := 70) C (dAt D_X10_handOnes 7 rfl) (by decide) (fun c1 => ?_) (fun c1 => ?_)
    · have h := ok_t c1 h
      refine Viload C 5 (dAt D_X10_handOnes 34 rfl) rfl ?_
      cases h
      exact Viret C (dAt D_X10_handOnes 35 rfl) (by decide) (by decide) ⟨rfl, rfl, rfl⟩
    · have h := ok_f c1 h
      refine Vaload_n C 0 (dAt D_X10_handOnes 8 rfl) rfl rfl ?_
      refine VgetP C (dAt D_X10_handOnes 9 rfl) gf_X10_27 (kt_116 hL) rfl (kp_116_11 hL) ?_
      refine Viload C 6 (dAt D_X10_handOnes 10 rfl) rfl ?_
      obtain ⟨c2, h⟩ := ok_ck h
      refine Viald C (dAt D_X10_handOnes 11 rfl) (kt_122 hL) (kl_122 hL) (vp_in_iff.mpr c2) ?_
      refine Vistore (lv' := [(8, _), (0, _), (1, _), (2, _), (4, _), (5, _), (6, _), (7, _)]) C (dAt D_X10_handOnes 12 rfl) (by decide) rfl ?_
      refine Viload C 6 (dAt D_X10_handOnes 13 rfl) rfl ?_
      refine Vif_le (tgt := 64) C (dAt D_X10_handOnes 14 rfl) (by decide) (fun c4 => ?_) (fun c4 => ?_)
      · have h := ok_t c4 h
        exact Vsub [1, 2, 3, 4, 5, 6, 7] rfl (w_X10_handOnes_64 hL C ih k1 h)
      · have h := ok_f c4 h
        refine Viload C 0 (dAt D_X10_handOnes 15 rfl) rfl ?_
        refine Viload C 4 (dAt D_X10_handOnes 16 rfl) rfl ?_
        refine Vicmp_lt (tgt := 64) C (dAt D_X10_handOnes 17 rfl) (by decide) (fun c5 => ?_) (fun c5 => ?_)
        · have h := ok_t c5 h
          exact Vsub [1, 2, 3, 4, 5, 6, 7] rfl (w_X10_handOnes_64 hL C ih k1 h)
        · have h := ok_f c5 h
          refine Viload C 0 (dAt D_X10_handOnes 18 rfl) rfl ?_
          refine Viload C 5 (dAt D_X10_handOnes 19 rfl) rfl ?_
          refine Vicmp_ge (tgt := 64) C (dAt D_X10_handOnes 20 rfl) (by decide) (fun c6 => ?_) (fun c6 => ?_)
          · have h := ok_t c6 h
            exact Vsub [1, 2, 3, 4, 5, 6, 7] rfl (w_X10_handOnes_64 hL C ih k1 h)
          · have h := ok_f c6 h
            refine Vaload_n C 1 (dAt D_X10_handOnes 21 rfl) rfl rfl ?_
            refine Viload C 0 (dAt D_X10_handOnes 22 rfl) rfl ?_
            obtain ⟨r7, e8, h⟩ := ok_b h
            refine VcallV (as := [_]) C (dAt D_X10_handOnes 23 rfl) (m_X10_room hL e8) yv_X10_140 (Or.inl ⟨(kt_116 hL), by decide⟩) rfl rfl (Nat.le_of_ble_eq_true rfl) (by decide) (by decide) (by decide) (by decide) (Kint ?_)
            refine Vif_le (tgt := 64) C (dAt D_X10_handOnes 24 rfl) (by decide) (fun c9 => ?_) (fun c9 => ?_)
            · have h := ok_t c9 h
              exact Vsub [1, 2, 3, 4, 5, 6, 7] rfl (w_X10_handOnes_64 hL C ih k1 h)
            · have h := ok_f c9 h
              refine Vaload_n C 1 (dAt D_X10_handOnes 25 rfl) rfl rfl ?_
              refine Vaload_n C 2 (dAt D_X10_handOnes 26 rfl) rfl rfl ?_
              refine Viload_n C 3 (dAt D_X10_handOnes 27 rfl) rfl rfl ?_
              refine Viload C 0 (dAt D_X10_handOnes 28 rfl) rfl ?_
              refine Viconst (x := 1) C (dAt D_X10_handOnes 29 rfl) (by decide) ?_
              obtain ⟨r10, e11, h⟩ := ok_b h
              refine VcallV (as := [_, _, _, _]) C (dAt D_X10_handOnes 30 rfl) (m_X10_hand hL k1 e11) yv_X10_204 (Or.inl ⟨(kt_116 hL), by decide⟩) rfl rfl (Nat.le_of_ble_eq_true rfl) (by decide) (by decide) (by decide) (by decide) (Kvoid ?_)
              refine Viinc (j := 6) (v := _ + (-1)) (lv' := [(6, _), (8, _), (0, _), (1, _), (2, _), (4, _), (5, _), (7, _)]) C (dAt D_X10_handOnes 31 rfl) rfl rfl (by decide) rfl ?_
              exact Vsub [2, 3, 4, 5, 6, 0, 7] rfl (w_X10_handOnes_64 hL C ih k1 h)
def F_X10_handOnes (f : Nat) (a1 : Nat) (x2 : Int32) (x3 : Int32) (x4 : Int32) (x5 : Int32) (u : MT) : Option (Int32 × MT) :=
  B_X10_handOnes_6 f f a1 x2 x4 x5 x3 (0 : Int32) u
theorem m_X10_handOnes {g : GT} {w : LT} (hL : Lay w) {a1 : Nat} {x2 : Int32} {x3 : Int32} {x4 : Int32} {x5 : Int32} {f : Nat} {u : MT} {r : (Int32 × MT)} (k1 : lt_t w a1 = 5) (h : F_X10_handOnes f a1 x2 x3 x4 x5 u = some r) : Mt g yX10_handOnes cX10_handOnes 9 (some .int) 1 0 0 [.ref 116, .ref a1, .int x2, .int x3, .int x4, .int x5] w u (Qi r.1 w r.2) := by
  refine Mt_of (own := RX10) (by decide +kernel) rfl (Nat.le_of_ble_eq_true rfl) (fun z C _ => ?_)
  show V z g 9 0 [(0, .ref 116), (1, .ref a1), (2, .int x2), (3, .int x3), (4, .int x4), (5, .int x5)] [] w u 0 0 (Qi r.1 w r.2)
  rw [F_X10_handOnes] at h
  refine Viload_n C 3 (dAt D_X10_handOnes 0 rfl) rfl rfl ?_
  refine Vistore (lv' := [(6, _), (0, _), (1, _), (2, _), (3, _), (4, _), (5, _)]) C (dAt D_X10_handOnes 1 rfl) (by decide) rfl ?_
  refine Viconst (x := 0) C (dAt D_X10_handOnes 2 rfl) (by decide) ?_
  refine Vistore (lv' := [(7, _), (6, _), (0, _), (1, _), (2, _), (3, _), (4, _), (5, _)]) C (dAt D_X10_handOnes 3 rfl) (by decide) rfl ?_
  exact Vsub [2, 3, 4, 6, 7, 1, 0] rfl (w_X10_handOnes_6 hL C  f _ _ _ _ _ _ _ k1 h)
def B_X10_handRest_54 (f : Nat) (a1 : Nat) (x2 : Int32) (x3 : Int32) (x4 : Int32) (u : MT) : Option MT :=
  ck (ixo x2 24) <|
  (F_X10_handOnes f (a1 + 3 + (x2).toNatClampNeg) x2 x3 x4 (12 : Int32) u).bind fun r10 =>
  (F_X10_handOnes f (a1 + 3 + (x2).toNatClampNeg) x2 r10.1 (0 : Int32) x4 r10.2).bind fun r12 =>
  some r12.2
theorem w_X10_handRest_54 {z : ZT} {g : GT} {w : LT} (hL : Lay w) (C : Cx z g cX10_handRest 6 RX10 none 2 0 0) {f : Nat} {r : MT} {a1 : Nat} {x2 : Int32} {x3 : Int32} {x4 : Int32} {u : MT} (k1 : isTx w a1) (h : B_X10_handRest_54 f a1 x2 x3 x4 u = some r) : V z g 6 54 [(0, .ref 116), (1, .ref a1), (2, .int x2), (3, .int x3), (4, .int x4)] [] w u 0 0 (Qv w r) := by
  rw [B_X10_handRest_54] at h
  refine Vaload_n C 0 (dAt D_X10_handRest 24 rfl) rfl rfl ?_
  refine Vaload_n C 1 (dAt D_X10_handRest 25 rfl) rfl rfl ?_
  refine VgetP C (dAt D_X10_handRest 26 rfl) gf_X10_83 (k1).1 rfl (k1).2.1 ?_
  refine Viload_n C 2 (dAt D_X10_handRest 27 rfl) rfl rfl ?_
  obtain ⟨c9, h⟩ := ok_ck h
  refine VaaldP C (dAt D_X10_handRest 28 rfl) (Or.inl rfl) (k1).2.2.1 (k1).2.2.2.1 (vp_in_iff.mpr c9) ((k1).2.2.2.2.2.2.2 _ (ix_lt c9)).1 ?_
  refine Viload_n C 2 (dAt D_X10_handRest 29 rfl) rfl rfl ?_
  refine Viload_n C 3 (dAt D_X10_handRest 30 rfl) rfl rfl ?_
  refine Viload C 4 (dAt D_X10_handRest 31 rfl) rfl ?_
  refine Vbipush (x := 12) C (dAt D_X10_handRest 32 rfl) (by decide) ?_
  obtain ⟨r10, e11, h⟩ := ok_b h
  refine VcallV (as := [_, _, _, _, _]) C (dAt D_X10_handRest 33 rfl) (m_X10_handOnes hL (((k1).2.2.2.2.2.2.2 _ (ix_lt c9)).2) e11) yv_X10_248 (Or.inl ⟨(kt_116 hL), by decide⟩) rfl rfl (Nat.le_of_ble_eq_true rfl) (by decide) (by decide) (by decide) (by decide) (Kint ?_)
  refine Vistore (lv' := [(5, _), (0, _), (1, _), (2, _), (3, _), (4, _)]) C (dAt D_X10_handRest 34 rfl) (by decide) rfl ?_
  refine Vaload_n C 1 (dAt D_X10_handRest 35 rfl) rfl rfl ?_
  refine Vaload_n C 2 (dAt D_X10_handRest 36 rfl) rfl rfl ?_
  refine VgetP C (dAt D_X10_handRest 37 rfl) gf_X10_83 (k1).1 rfl (k1).2.1 ?_
  refine Viload_n C 3 (dAt D_X10_handRest 38 rfl) rfl rfl ?_
  refine VaaldP C (dAt D_X10_handRest 39 rfl) (Or.inl rfl) (k1).2.2.1 (k1).2.2.2.1 (vp_in_iff.mpr c9) ((k1).2.2.2.2.2.2.2 _ (ix_lt c9)).1 ?_
  refine Viload_n C 3 (dAt D_X10_handRest 40 rfl) rfl rfl ?_
  refine Viload C 0 (dAt D_X10_handRest 41 rfl) rfl ?_
  refine Viconst (x := 0) C (dAt D_X10_handRest 42 rfl) (by decide) ?_
  refine Viload C 5 (dAt D_X10_handRest 43 rfl) rfl ?_
  obtain ⟨r12, e13, h⟩ := ok_b h
  refine VcallV (as := [_, _, _, _, _]) C (dAt D_X10_handRest 44 rfl) (m_X10_handOnes hL (((k1).2.2.2.2.2.2.2 _ (ix_lt c9)).2) e13) yv_X10_248 (Or.inl ⟨(kt_116 hL), by decide⟩) rfl rfl (Nat.le_of_ble_eq_true rfl) (by decide) (by decide) (by decide) (by decide) (Kint ?_)
  refine Vpop C (dAt D_X10_handRest 45 rfl) rfl ?_
  cases h
  exact Vvret C (dAt D_X10_handRest 46 rfl) (by decide) (by decide) ⟨rfl, rfl, rfl⟩
def F_X10_handRest (f : Nat) (a1 : Nat) (x2 : Int32) (x3 : Int32) (u : MT) : Option MT :=
  ck ((gK u a1 2) ≤ 34) <|
  if (gK u a1 2) = 33 then
    (F_X10_sortByWant f u).bind fun r3 =>
    B_X10_handRest_54 f a1 x2 x3 (0 : Int32) r3
  else
    if (gK u a1 2) = 34 then
      if (gI u 101 2) ≤ 0 then
        B_X10_handRest_54 f a1 x2 x3 (0 : Int32) u
      else
        ck (¬ (gI u 101 2) = 0) <|
        let v8 := ((gI u 116 3) - (gI u 116 3) / (gI u 101 2) * (gI u 101 2))
        B_X10_handRest_54 f a1 x2 x3 v8 u
    else
      B_X10_handRest_54 f a1 x2 x3 (0 : Int32) u
theorem m_X10_handRest {g : GT} {w : LT} (hL : Lay w) {a1 : Nat} {x2 : Int32} {x3 : Int32} {f : Nat} {u : MT} {r : MT} (k1 : isTx w a1) (h : F_X10_handRest f a1 x2 x3 u = some r) : Mt g yX10_handRest cX10_handRest 6 none 2 0 0 [.ref 116, .ref a1, .int x2, .int x3] w u (Qv w r) := by
  refine Mt_of (own := RX10) (by decide +kernel) rfl (Nat.le_of_ble_eq_true rfl) (fun z C _ => ?_)
  show V z g 6 0 [(0, .ref 116), (1, .ref a1), (2, .int x2), (3, .int x3)] [] w u 0 0 (Qv w r)
  rw [F_X10_handRest] at h
  refine Viconst (x := 0) C (dAt D_X10_handRest 0 rfl) (by decide) ?_
  refine Vistore (lv' := [(4, _), (0, _), (1, _), (2, _), (3, _)]) C (dAt D_X10_handRest 1 rfl) (by decide) rfl ?_
  refine Vaload_n C 2 (dAt D_X10_handRest 2 rfl) rfl rfl ?_
  refine VgetK C (dAt D_X10_handRest 3 rfl) gf_X10_236 (k1).1 rfl ?_
  refine Vtok (i := 32) (x := 33) C (dAt D_X10_handRest 4 rfl) gs_X10_239 (by decide) rfl rfl ?_
  obtain ⟨c1, h⟩ := ok_ck h
  refine Vacmp_ne (tgt := 20) C (dAt D_X10_handRest 5 rfl) (by decide) c1 (by decide) (fun c2 => ?_) (fun c2 => ?_)
  · have h := ok_f c2 h
    refine Vaload_n C 2 (dAt D_X10_handRest 9 rfl) rfl rfl ?_
    refine VgetK C (dAt D_X10_handRest 10 rfl) gf_X10_236 (k1).1 rfl ?_
    refine Vtok (i := 33) (x := 34) C (dAt D_X10_handRest 11 rfl) gs_X10_245 (by decide) rfl rfl ?_
    refine Vacmp_ne (tgt := 54) C (dAt D_X10_handRest 12 rfl) (by decide) c1 (by decide) (fun c5 => ?_) (fun c5 => ?_)
    · have h := ok_f c5 h
      exact Vsub [1, 2, 3, 4, 0] rfl (w_X10_handRest_54 hL C k1 h)
    · have h := ok_t c5 h
      refine Vaload_n C 1 (dAt D_X10_handRest 13 rfl) rfl rfl ?_
      refine VgetP C (dAt D_X10_handRest 14 rfl) gf_X10_46 (kt_116 hL) rfl (kp_116_0 hL) ?_
      refine VgetI C (dAt D_X10_handRest 15 rfl) gf_X10_137 (kt_101 hL) rfl ?_
      refine Vif_le (tgt := 54) C (dAt D_X10_handRest 16 rfl) (by decide) (fun c6 => ?_) (fun c6 => ?_)
      · have h := ok_t c6 h
        exact Vsub [1, 2, 3, 4, 0] rfl (w_X10_handRest_54 hL C k1 h)
      · have h := ok_f c6 h
        refine Vaload_n C 1 (dAt D_X10_handRest 17 rfl) rfl rfl ?_
        refine VgetI C (dAt D_X10_handRest 18 rfl) gf_X10_57 (kt_116 hL) rfl ?_
        refine Vaload_n C 1 (dAt D_X10_handRest 19 rfl) rfl rfl ?_
        refine VgetP C (dAt D_X10_handRest 20 rfl) gf_X10_46 (kt_116 hL) rfl (kp_116_0 hL) ?_
        refine VgetI C (dAt D_X10_handRest 21 rfl) gf_X10_137 (kt_101 hL) rfl ?_
        obtain ⟨c7, h⟩ := ok_ck h
        refine Virem C (dAt D_X10_handRest 22 rfl) c7 ?_
        refine Vistore (lv' := [(4, _), (0, _), (1, _), (2, _), (3, _)]) C (dAt D_X10_handRest 23 rfl) (by decide) rfl ?_
        exact Vsub [1, 2, 3, 4, 0] rfl (w_X10_handRest_54 hL C k1 h)
  · have h := ok_t c2 h
    refine Vaload_n C 1 (dAt D_X10_handRest 6 rfl) rfl rfl ?_
    obtain ⟨r3, e4, h⟩ := ok_b h
    refine VcallV (as := []) C (dAt D_X10_handRest 7 rfl) (m_X10_sortByWant hL e4) yv_X10_242 (Or.inl ⟨(kt_116 hL), by decide⟩) rfl rfl (Nat.le_of_ble_eq_true rfl) (by decide) (by decide) (by decide) (by decide) (Kvoid ?_)
    refine Vgoto (tgt := 54) C (dAt D_X10_handRest 8 rfl) (by decide) ?_
    exact Vsub [1, 2, 3, 4, 0] rfl (w_X10_handRest_54 hL C k1 h)
def B_X10_give_44 (f : Nat) : Nat → Nat → Int32 → Int32 → Nat → Int64 → Int32 → Int32 → MT → Option MT
  | 0, _, _, _, _, _, _, _, _ => none
  | n + 1, a1, x2, x3, a4, x5, x7, x8, u =>
    if (gI u 116 12) ≤ x8 then
      if (gI u 116 12) ≤ x7 then
        some u
      else
        (F_X10_handRest f a1 x2 x7 u).bind fun r10 =>
        some r10
    else
      ck (ixo x8 12) <|
      let v13 := (gI u 122 (x8).toNatClampNeg)
      ck (ixo v13 12) <|
      ck (¬ x5 = 0) <|
      (F_X10_room f v13 u).bind fun r16 =>
      let v18 := (if (r16.1).toInt64 < (((x3).toInt64 * ((gI u 124 (v13).toNatClampNeg)).toInt64) / x5) then (r16.1).toInt64 else (((x3).toInt64 * ((gI u 124 (v13).toNatClampNeg)).toInt64) / x5))
      (F_X10_hand f a4 x2 v13 ((v18).toInt32) r16.2).bind fun r19 =>
      let v21 := (x7 - (v18).toInt32)
      let v22 := x8 + 1
      B_X10_give_44 f n a1 x2 x3 a4 x5 v21 v22 r19
theorem w_X10_give_44 {z : ZT} {g : GT} {w : LT} (hL : Lay w) (C : Cx z g cX10_give 12 RX10 none 3 0 0) {f : Nat} {r : MT} : ∀ (n : Nat) (a1 : Nat) (x2 : Int32) (x3 : Int32) (a4 : Nat) (x5 : Int64) (x7 : Int32) (x8 : Int32) (u : MT), isTx w a1 → lt_t w a4 = 5 → B_X10_give_44 f n a1 x2 x3 a4 x5 x7 x8 u = some r → V z g 12 44 [(0, .ref 116), (1, .ref a1), (2, .int x2), (3, .int x3), (4, .ref a4), (5, .long x5), (7, .int x7), (8, .int x8)] [] w u 0 0 (Qv w r) := by
  intro n
  induction n with
  | zero =>
    intro a1 x2 x3 a4 x5 x7 x8 u k1 k4 h
    rw [B_X10_give_44] at h
    cases h
  | succ n ih =>
    intro a1 x2 x3 a4 x5 x7 x8 u k1 k4 h
    rw [B_X10_give_44] at h
    refine Viload C 7 (dAt D_X10_give 25 rfl) rfl ?_
    refine Vaload_n C 0 (dAt D_X10_give 26 rfl) rfl rfl ?_
    refine VgetI C (dAt D_X10_give 27 rfl) gf_X10_198 (kt_116 hL) rfl ?_
    refine Vicmp_ge (tgt := 114) C (dAt D_X10_give 28 rfl) (by decide) (fun c8 => ?_) (fun c8 => ?_)
    · have h := ok_t c8 h
      refine Viload C 6 (dAt D_X10_give 64 rfl) rfl ?_
      refine Vaload_n C 0 (dAt D_X10_give 65 rfl) rfl rfl ?_
      refine VgetI C (dAt D_X10_give 66 rfl) gf_X10_198 (kt_116 hL) rfl ?_
      refine Vicmp_ge (tgt := 131) C (dAt D_X10_give 67 rfl) (by decide) (fun c9 => ?_) (fun c9 => ?_)
      · have h := ok_t c9 h
        cases h
        exact Vvret C (dAt D_X10_give 73 rfl) (by decide) (by decide) ⟨rfl, rfl, rfl⟩
      · have h := ok_f c9 h
        refine Vaload_n C 0 (dAt D_X10_give 68 rfl) rfl rfl ?_
        refine Vaload_n C 1 (dAt D_X10_give 69 rfl) rfl rfl ?_
        refine Viload_n C 2 (dAt D_X10_give 70 rfl) rfl rfl ?_
        refine Viload C 6 (dAt D_X10_give 71 rfl) rfl ?_
        obtain ⟨r10, e11, h⟩ := ok_b h
        refine VcallV (as := [_, _, _]) C (dAt D_X10_give 72 rfl) (m_X10_handRest hL k1 e11) yv_X10_208 (Or.inl ⟨(kt_116 hL), by decide⟩) rfl rfl (Nat.le_of_ble_eq_true rfl) (by decide) (by decide) (by decide) (by decide) (Kvoid ?_)
        cases h
        exact Vvret C (dAt D_X10_give 73 rfl) (by decide) (by decide) ⟨rfl, rfl, rfl⟩
    · have h := ok_f c8 h
      refine Vaload_n C 0 (dAt D_X10_give 29 rfl) rfl rfl ?_
      refine VgetP C (dAt D_X10_give 30 rfl) gf_X10_27 (kt_116 hL) rfl (kp_116_11 hL) ?_
      refine Viload C 7 (dAt D_X10_give 31 rfl) rfl ?_
      obtain ⟨c12, h⟩ := ok_ck h
      refine Viald C (dAt D_X10_give 32 rfl) (kt_122 hL) (kl_122 hL) (vp_in_iff.mpr c12) ?_
      refine Vistore (lv' := [(9, _), (0, _), (1, _), (2, _), (3, _), (4, _), (5, _), (7, _), (8, _)]) C (dAt D_X10_give 33 rfl) (by decide) rfl ?_
      refine Viload_n C 4 (dAt D_X10_give 34 rfl) rfl rfl ?_
      refine Vi2l C (dAt D_X10_give 35 rfl) ?_
      refine Vaload_n C 1 (dAt D_X10_give 36 rfl) rfl rfl ?_
      refine VgetP C (dAt D_X10_give 37 rfl) gf_X10_34 (kt_116 hL) rfl (kp_116_14 hL) ?_
      refine Viload C 0 (dAt D_X10_give 38 rfl) rfl ?_
      obtain ⟨c14, h⟩ := ok_ck h
      refine Viald C (dAt D_X10_give 39 rfl) (kt_124 hL) (kl_124 hL) (vp_in_iff.mpr c14) ?_
      refine Vi2l C (dAt D_X10_give 40 rfl) ?_
      refine Vlmul C (dAt D_X10_give 41 rfl) ?_
      refine Vlload C 6 (dAt D_X10_give 42 rfl) rfl ?_
      obtain ⟨c15, h⟩ := ok_ck h
      refine Vldiv C (dAt D_X10_give 43 rfl) c15 ?_
      refine Vaload_n C 1 (dAt D_X10_give 44 rfl) rfl rfl ?_
      refine Viload C 0 (dAt D_X10_give 45 rfl) rfl ?_
      obtain ⟨r16, e17, h⟩ := ok_b h
      refine VcallV (as := [_]) C (dAt D_X10_give 46 rfl) (m_X10_room hL e17) yv_X10_140 (Or.inl ⟨(kt_116 hL), by decide⟩) rfl rfl (Nat.le_of_ble_eq_true rfl) (by decide) (by decide) (by decide) (by decide) (Kint ?_)
      refine Vi2l C (dAt D_X10_give 47 rfl) ?_
      refine VminL C (dAt D_X10_give 48 rfl) gm_X10_201 mS_minL mI mC_minL (Nat.le_of_ble_eq_true rfl) (by decide) (by decide) (by decide) ?_
      refine Vlstore (lv' := [(10, _), (9, _), (0, _), (1, _), (2, _), (3, _), (4, _), (5, _), (7, _), (8, _)]) C (dAt D_X10_give 49 rfl) (by decide) rfl ?_
      refine Vaload_n C 2 (dAt D_X10_give 50 rfl) rfl rfl ?_
      refine Vaload C 6 (dAt D_X10_give 51 rfl) rfl ?_
      refine Viload_n C 4 (dAt D_X10_give 52 rfl) rfl rfl ?_
      refine Viload C 1 (dAt D_X10_give 53 rfl) rfl ?_
      refine Vlload C 0 (dAt D_X10_give 54 rfl) rfl ?_
      refine Vl2i C (dAt D_X10_give 55 rfl) ?_
      obtain ⟨r19, e20, h⟩ := ok_b h
      refine VcallV (as := [_, _, _, _]) C (dAt D_X10_give 56 rfl) (m_X10_hand hL k4 e20) yv_X10_204 (Or.inl ⟨(kt_116 hL), by decide⟩) rfl rfl (Nat.le_of_ble_eq_true rfl) (by decide) (by decide) (by decide) (by decide) (Kvoid ?_)
      refine Viload C 8 (dAt D_X10_give 57 rfl) rfl ?_
      refine Vlload C 0 (dAt D_X10_give 58 rfl) rfl ?_
      refine Vl2i C (dAt D_X10_give 59 rfl) ?_
      refine Visub C (dAt D_X10_give 60 rfl) ?_
      refine Vistore (lv' := [(7, _), (10, _), (9, _), (0, _), (1, _), (2, _), (3, _), (4, _), (5, _), (8, _)]) C (dAt D_X10_give 61 rfl) (by decide) rfl ?_
      refine Viinc (j := 9) (v := _ + 1) (lv' := [(8, _), (7, _), (10, _), (9, _), (0, _), (1, _), (2, _), (3, _), (4, _), (5, _)]) C (dAt D_X10_give 62 rfl) rfl rfl (by decide) rfl ?_
      refine Vgoto (tgt := 44) C (dAt D_X10_give 63 rfl) (by decide) ?_
      exact Vsub [4, 5, 6, 7, 8, 9, 1, 0] rfl (ih _ _ _ _ _ _ _ _ k1 k4 h)
def F_X10_give (f : Nat) (a1 : Nat) (x2 : Int32) (x3 : Int32) (u : MT) : Option MT :=
  ck (ixo x2 24) <|
  if x3 = 0 then
    some u
  else
    (F_X10_choose f (a1 + 3 + (x2).toNatClampNeg) u).bind fun r3 =>
    (F_X10_weigh f (gK r3 (a1 + 3 + (x2).toNatClampNeg) 7) r3).bind fun r5 =>
    if 0 < (lg_cmp r5.1 (0 : Int64)) then
      B_X10_give_44 f f a1 x2 x3 (a1 + 3 + (x2).toNatClampNeg) r5.1 x3 (0 : Int32) r5.2
    else
      some r5.2
theorem m_X10_give {g : GT} {w : LT} (hL : Lay w) {a1 : Nat} {x2 : Int32} {x3 : Int32} {f : Nat} {u : MT} {r : MT} (k1 : isTx w a1) (h : F_X10_give f a1 x2 x3 u = some r) : Mt g yX10_give cX10_give 12 none 3 0 0 [.ref 116, .ref a1, .int x2, .int x3] w u (Qv w r) := by
  refine Mt_of (own := RX10) (by decide +kernel) rfl (Nat.le_of_ble_eq_true rfl) (fun z C _ => ?_)
  show V z g 12 0 [(0, .ref 116), (1, .ref a1), (2, .int x2), (3, .int x3)] [] w u 0 0 (Qv w r)
  rw [F_X10_give] at h
  refine Vaload_n C 1 (dAt D_X10_give 0 rfl) rfl rfl ?_
  refine VgetP C (dAt D_X10_give 1 rfl) gf_X10_83 (k1).1 rfl (k1).2.1 ?_
  refine Viload_n C 2 (dAt D_X10_give 2 rfl) rfl rfl ?_
  obtain ⟨c1, h⟩ := ok_ck h
  refine VaaldP C (dAt D_X10_give 3 rfl) (Or.inl rfl) (k1).2.2.1 (k1).2.2.2.1 (vp_in_iff.mpr c1) ((k1).2.2.2.2.2.2.2 _ (ix_lt c1)).1 ?_
  refine Vastore (lv' := [(4, _), (0, _), (1, _), (2, _), (3, _)]) C (dAt D_X10_give 4 rfl) (by decide) rfl ?_
  refine Viload_n C 4 (dAt D_X10_give 5 rfl) rfl rfl ?_
  refine Vif_ne (tgt := 13) C (dAt D_X10_give 6 rfl) (by decide) (fun c2 => ?_) (fun c2 => ?_)
  · have h := ok_f c2 h
    refine Vaload_n C 1 (dAt D_X10_give 8 rfl) rfl rfl ?_
    refine Vaload C 0 (dAt D_X10_give 9 rfl) rfl ?_
    obtain ⟨r3, e4, h⟩ := ok_b h
    refine VcallV (as := [_]) C (dAt D_X10_give 10 rfl) (m_X10_choose hL (((k1).2.2.2.2.2.2.2 _ (ix_lt c1)).2) e4) yv_X10_187 (Or.inl ⟨(kt_116 hL), by decide⟩) rfl rfl (Nat.le_of_ble_eq_true rfl) (by decide) (by decide) (by decide) (by decide) (Kvoid ?_)
    refine Vaload_n C 1 (dAt D_X10_give 11 rfl) rfl rfl ?_
    refine Vaload C 0 (dAt D_X10_give 12 rfl) rfl ?_
    refine VgetK C (dAt D_X10_give 13 rfl) gf_X10_191 ((k1).2.2.2.2.2.2.2 _ (ix_lt c1)).2 rfl ?_
    obtain ⟨r5, e6, h⟩ := ok_b h
    refine VcallV (as := [_]) C (dAt D_X10_give 14 rfl) (m_X10_weigh hL e6) yv_X10_194 (Or.inl ⟨(kt_116 hL), by decide⟩) rfl rfl (Nat.le_of_ble_eq_true rfl) (by decide) (by decide) (by decide) (by decide) (Klong ?_)
    refine Vlstore (lv' := [(5, _), (4, _), (0, _), (1, _), (2, _), (3, _)]) C (dAt D_X10_give 15 rfl) (by decide) rfl ?_
    refine Vlload C 0 (dAt D_X10_give 16 rfl) rfl ?_
    refine Vlconst (x := 0) C (dAt D_X10_give 17 rfl) (by decide) ?_
    refine Vlcmp C (dAt D_X10_give 18 rfl) ?_
    refine Vif_gt (tgt := 38) C (dAt D_X10_give 19 rfl) (by decide) (fun c7 => ?_) (fun c7 => ?_)
    · have h := ok_t c7 h
      refine Viload_n C 5 (dAt D_X10_give 21 rfl) rfl rfl ?_
      refine Vistore (lv' := [(7, _), (5, _), (4, _), (0, _), (1, _), (2, _), (3, _)]) C (dAt D_X10_give 22 rfl) (by decide) rfl ?_
      refine Viconst (x := 0) C (dAt D_X10_give 23 rfl) (by decide) ?_
      refine Vistore (lv' := [(8, _), (7, _), (5, _), (4, _), (0, _), (1, _), (2, _), (3, _)]) C (dAt D_X10_give 24 rfl) (by decide) rfl ?_
      exact Vsub [4, 5, 6, 7, 3, 2, 1, 0] rfl (w_X10_give_44 hL C  f _ _ _ _ _ _ _ _ k1 (((k1).2.2.2.2.2.2.2 _ (ix_lt c1)).2) h)
    · have h := ok_f c7 h
      cases h
      exact Vvret C (dAt D_X10_give 20 rfl) (by decide) (by decide) ⟨rfl, rfl, rfl⟩
  · have h := ok_t c2 h
    cases h
    exact Vvret C (dAt D_X10_give 7 rfl) (by decide) (by decide) ⟨rfl, rfl, rfl⟩
def B_X10_apply_116 (f : Nat) (s0 : Int32) (s1 : Nat) (s2 : Nat) (s4 : Int32) (s5 : Nat) (u : MT) : Option MT :=
  (F_X10_amount f s2 s1 s0 u).bind fun r17 =>
  (F_X10_give f s5 s4 r17.1 r17.2).bind fun r19 =>
  some r19
theorem w_X10_apply_116 {z : ZT} {g : GT} {w : LT} (hL : Lay w) (C : Cx z g cX10_apply 4 RX10 none 4 0 0) {f : Nat} {r : MT} {s0 : Int32} {s1 : Nat} {s2 : Nat} {s4 : Int32} {s5 : Nat} {u : MT} (ks1 : lt_t w s1 = 5) (ks2 : isTx w s2) (ks5 : isTx w s5) (h : B_X10_apply_116 f s0 s1 s2 s4 s5 u = some r) : V z g 4 116 [] [.int s0, .ref s1, .ref s2, .ref 116, .int s4, .ref s5, .ref 116] w u 0 0 (Qv w r) := by
  rw [B_X10_apply_116] at h
  obtain ⟨r17, e18, h⟩ := ok_b h
  refine VcallV (as := [_, _, _]) C (dAt D_X10_apply 60 rfl) (m_X10_amount hL ks2 ks1 e18) yv_X10_119 (Or.inl ⟨(kt_116 hL), by decide⟩) rfl rfl (Nat.le_of_ble_eq_true rfl) (by decide) (by decide) (by decide) (by decide) (Kint ?_)
  obtain ⟨r19, e20, h⟩ := ok_b h
  refine VcallV (as := [_, _, _]) C (dAt D_X10_apply 61 rfl) (m_X10_give hL ks5 e20) yv_X10_133 (Or.inl ⟨(kt_116 hL), by decide⟩) rfl rfl (Nat.le_of_ble_eq_true rfl) (by decide) (by decide) (by decide) (by decide) (Kvoid ?_)
  cases h
  exact Vvret C (dAt D_X10_apply 62 rfl) (by decide) (by decide) ⟨rfl, rfl, rfl⟩
def B_X10_apply_35 (f : Nat) (a1 : Nat) (x2 : Int32) (a3 : Nat) (u : MT) : Option MT :=
  ck ((gK u a3 0) ≤ 34) <|
  if (gK u a3 0) = 19 then
    ck (ixo (gI u a3 8) 14) <|
    let u9 := sI u 127 ((gI u a3 8)).toNatClampNeg (gI u a3 9)
    some u9
  else
    if (gK u a3 0) = 18 then
      (F_X10_amount f a1 a3 (gI u 116 4) u).bind fun r11 =>
      (F_X10_fill f r11.1 x2 r11.2).bind fun r13 =>
      some r13
    else
      ck ((gK u a3 5) ≤ 34) <|
      if (gK u a3 5) = 9 then
        B_X10_apply_116 f (gI u 116 4) a3 a1 x2 a1 u
      else
        B_X10_apply_116 f (gI u 116 5) a3 a1 x2 a1 u
theorem w_X10_apply_35 {z : ZT} {g : GT} {w : LT} (hL : Lay w) (C : Cx z g cX10_apply 4 RX10 none 4 0 0) {f : Nat} {r : MT} {a1 : Nat} {x2 : Int32} {a3 : Nat} {u : MT} (k1 : isTx w a1) (k3 : lt_t w a3 = 5) (h : B_X10_apply_35 f a1 x2 a3 u = some r) : V z g 4 35 [(0, .ref 116), (1, .ref a1), (2, .int x2), (3, .ref a3)] [] w u 0 0 (Qv w r) := by
  rw [B_X10_apply_35] at h
  refine Vaload_n C 3 (dAt D_X10_apply 19 rfl) rfl rfl ?_
  refine VgetK C (dAt D_X10_apply 20 rfl) gf_X10_101 k3 rfl ?_
  refine Vtok (i := 18) (x := 19) C (dAt D_X10_apply 21 rfl) gs_X10_105 (by decide) rfl rfl ?_
  obtain ⟨c6, h⟩ := ok_ck h
  refine Vacmp_ne (tgt := 61) C (dAt D_X10_apply 22 rfl) (by decide) c6 (by decide) (fun c7 => ?_) (fun c7 => ?_)
  · have h := ok_f c7 h
    refine Vaload_n C 3 (dAt D_X10_apply 31 rfl) rfl rfl ?_
    refine VgetK C (dAt D_X10_apply 32 rfl) gf_X10_101 k3 rfl ?_
    refine Vtok (i := 17) (x := 18) C (dAt D_X10_apply 33 rfl) gs_X10_116 (by decide) rfl rfl ?_
    refine Vacmp_ne (tgt := 89) C (dAt D_X10_apply 34 rfl) (by decide) c6 (by decide) (fun c10 => ?_) (fun c10 => ?_)
    · have h := ok_f c10 h
      refine Vaload_n C 0 (dAt D_X10_apply 45 rfl) rfl rfl ?_
      refine Vaload_n C 1 (dAt D_X10_apply 46 rfl) rfl rfl ?_
      refine Viload_n C 2 (dAt D_X10_apply 47 rfl) rfl rfl ?_
      refine Vaload_n C 0 (dAt D_X10_apply 48 rfl) rfl rfl ?_
      refine Vaload_n C 1 (dAt D_X10_apply 49 rfl) rfl rfl ?_
      refine Vaload_n C 3 (dAt D_X10_apply 50 rfl) rfl rfl ?_
      refine Vaload_n C 3 (dAt D_X10_apply 51 rfl) rfl rfl ?_
      refine VgetK C (dAt D_X10_apply 52 rfl) gf_X10_127 k3 rfl ?_
      refine Vtok (i := 8) (x := 9) C (dAt D_X10_apply 53 rfl) gs_X10_130 (by decide) rfl rfl ?_
      obtain ⟨c15, h⟩ := ok_ck h
      refine Vacmp_ne (tgt := 112) C (dAt D_X10_apply 54 rfl) (by decide) c15 (by decide) (fun c16 => ?_) (fun c16 => ?_)
      · have h := ok_f c16 h
        refine Vaload_n C 0 (dAt D_X10_apply 58 rfl) rfl rfl ?_
        refine VgetI C (dAt D_X10_apply 59 rfl) gf_X10_69 (kt_116 hL) rfl ?_
        exact Vsub [] rfl (w_X10_apply_116 hL C k3 k1 k1 h)
      · have h := ok_t c16 h
        refine Vaload_n C 0 (dAt D_X10_apply 55 rfl) rfl rfl ?_
        refine VgetI C (dAt D_X10_apply 56 rfl) gf_X10_66 (kt_116 hL) rfl ?_
        refine Vgoto (tgt := 116) C (dAt D_X10_apply 57 rfl) (by decide) ?_
        exact Vsub [] rfl (w_X10_apply_116 hL C k3 k1 k1 h)
    · have h := ok_t c10 h
      refine Vaload_n C 0 (dAt D_X10_apply 35 rfl) rfl rfl ?_
      refine Vaload_n C 0 (dAt D_X10_apply 36 rfl) rfl rfl ?_
      refine Vaload_n C 1 (dAt D_X10_apply 37 rfl) rfl rfl ?_
      refine Vaload_n C 3 (dAt D_X10_apply 38 rfl) rfl rfl ?_
      refine Vaload_n C 0 (dAt D_X10_apply 39 rfl) rfl rfl ?_
      refine VgetI C (dAt D_X10_apply 40 rfl) gf_X10_66 (kt_116 hL) rfl ?_
      obtain ⟨r11, e12, h⟩ := ok_b h
      refine VcallV (as := [_, _, _]) C (dAt D_X10_apply 41 rfl) (m_X10_amount hL k1 k3 e12) yv_X10_119 (Or.inl ⟨(kt_116 hL), by decide⟩) rfl rfl (Nat.le_of_ble_eq_true rfl) (by decide) (by decide) (by decide) (by decide) (Kint ?_)
      refine Viload_n C 2 (dAt D_X10_apply 42 rfl) rfl rfl ?_
      obtain ⟨r13, e14, h⟩ := ok_b h
      refine VcallV (as := [_, _]) C (dAt D_X10_apply 43 rfl) (m_X10_fill hL e14) yv_X10_123 (Or.inl ⟨(kt_116 hL), by decide⟩) rfl rfl (Nat.le_of_ble_eq_true rfl) (by decide) (by decide) (by decide) (by decide) (Kvoid ?_)
      refine Vgoto (tgt := 122) C (dAt D_X10_apply 44 rfl) (by decide) ?_
      cases h
      exact Vvret C (dAt D_X10_apply 62 rfl) (by decide) (by decide) ⟨rfl, rfl, rfl⟩
  · have h := ok_t c7 h
    refine Vaload_n C 0 (dAt D_X10_apply 23 rfl) rfl rfl ?_
    refine VgetP C (dAt D_X10_apply 24 rfl) gf_X10_43 (kt_116 hL) rfl (kp_116_19 hL) ?_
    refine Vaload_n C 3 (dAt D_X10_apply 25 rfl) rfl rfl ?_
    refine VgetI C (dAt D_X10_apply 26 rfl) gf_X10_110 k3 rfl ?_
    refine Vaload_n C 3 (dAt D_X10_apply 27 rfl) rfl rfl ?_
    refine VgetI C (dAt D_X10_apply 28 rfl) gf_X10_113 k3 rfl ?_
    obtain ⟨c8, h⟩ := ok_ck h
    refine Viast C (dAt D_X10_apply 29 rfl) (kt_127 hL) (kl_127 hL) (vp_in_iff.mpr c8) ?_
    refine Vgoto (tgt := 122) C (dAt D_X10_apply 30 rfl) (by decide) ?_
    cases h
    exact Vvret C (dAt D_X10_apply 62 rfl) (by decide) (by decide) ⟨rfl, rfl, rfl⟩
def F_X10_apply (f : Nat) (a1 : Nat) (x2 : Int32) (u : MT) : Option MT :=
  ck (ixo x2 24) <|
  if (gI u (a1 + 3 + (x2).toNatClampNeg) 2) ≤ (gI u (a1 + 3 + (x2).toNatClampNeg) 1) then
    B_X10_apply_35 f a1 x2 (a1 + 3 + (x2).toNatClampNeg) u
  else
    (F_X10_value f a1 (gI u (a1 + 3 + (x2).toNatClampNeg) 1) (gI u (a1 + 3 + (x2).toNatClampNeg) 2) u).bind fun r3 =>
    if r3.1 = 0 then
      some r3.2
    else
      B_X10_apply_35 f a1 x2 (a1 + 3 + (x2).toNatClampNeg) r3.2
theorem m_X10_apply {g : GT} {w : LT} (hL : Lay w) {a1 : Nat} {x2 : Int32} {f : Nat} {u : MT} {r : MT} (k1 : isTx w a1) (h : F_X10_apply f a1 x2 u = some r) : Mt g yX10_apply cX10_apply 4 none 4 0 0 [.ref 116, .ref a1, .int x2] w u (Qv w r) := by
  refine Mt_of (own := RX10) (by decide +kernel) rfl (Nat.le_of_ble_eq_true rfl) (fun z C _ => ?_)
  show V z g 4 0 [(0, .ref 116), (1, .ref a1), (2, .int x2)] [] w u 0 0 (Qv w r)
  rw [F_X10_apply] at h
  refine Vaload_n C 1 (dAt D_X10_apply 0 rfl) rfl rfl ?_
  refine VgetP C (dAt D_X10_apply 1 rfl) gf_X10_83 (k1).1 rfl (k1).2.1 ?_
  refine Viload_n C 2 (dAt D_X10_apply 2 rfl) rfl rfl ?_
  obtain ⟨c1, h⟩ := ok_ck h
  refine VaaldP C (dAt D_X10_apply 3 rfl) (Or.inl rfl) (k1).2.2.1 (k1).2.2.2.1 (vp_in_iff.mpr c1) ((k1).2.2.2.2.2.2.2 _ (ix_lt c1)).1 ?_
  refine Vastore_n (lv' := [(3, _), (0, _), (1, _), (2, _)]) C (dAt D_X10_apply 4 rfl) rfl (by decide) rfl ?_
  refine Vaload_n C 0 (dAt D_X10_apply 5 rfl) rfl rfl ?_
  refine VgetI C (dAt D_X10_apply 6 rfl) gf_X10_89 ((k1).2.2.2.2.2.2.2 _ (ix_lt c1)).2 rfl ?_
  refine Vaload_n C 0 (dAt D_X10_apply 7 rfl) rfl rfl ?_
  refine VgetI C (dAt D_X10_apply 8 rfl) gf_X10_94 ((k1).2.2.2.2.2.2.2 _ (ix_lt c1)).2 rfl ?_
  refine Vicmp_le (tgt := 35) C (dAt D_X10_apply 9 rfl) (by decide) (fun c2 => ?_) (fun c2 => ?_)
  · have h := ok_t c2 h
    exact Vsub [1, 2, 3, 0] rfl (w_X10_apply_35 hL C k1 (((k1).2.2.2.2.2.2.2 _ (ix_lt c1)).2) h)
  · have h := ok_f c2 h
    refine Vaload_n C 1 (dAt D_X10_apply 10 rfl) rfl rfl ?_
    refine Vaload_n C 2 (dAt D_X10_apply 11 rfl) rfl rfl ?_
    refine Vaload_n C 0 (dAt D_X10_apply 12 rfl) rfl rfl ?_
    refine VgetI C (dAt D_X10_apply 13 rfl) gf_X10_94 ((k1).2.2.2.2.2.2.2 _ (ix_lt c1)).2 rfl ?_
    refine Vaload_n C 0 (dAt D_X10_apply 14 rfl) rfl rfl ?_
    refine VgetI C (dAt D_X10_apply 15 rfl) gf_X10_89 ((k1).2.2.2.2.2.2.2 _ (ix_lt c1)).2 rfl ?_
    obtain ⟨r3, e4, h⟩ := ok_b h
    refine VcallV (as := [_, _, _]) C (dAt D_X10_apply 16 rfl) (m_X10_value hL k1 e4) yv_X10_97 (Or.inl ⟨(kt_116 hL), by decide⟩) rfl rfl (Nat.le_of_ble_eq_true rfl) (by decide) (by decide) (by decide) (by decide) (Kint ?_)
    refine Vif_ne (tgt := 35) C (dAt D_X10_apply 17 rfl) (by decide) (fun c5 => ?_) (fun c5 => ?_)
    · have h := ok_f c5 h
      exact Vsub [1, 2, 3, 0] rfl (w_X10_apply_35 hL C k1 (((k1).2.2.2.2.2.2.2 _ (ix_lt c1)).2) h)
    · have h := ok_t c5 h
      cases h
      exact Vvret C (dAt D_X10_apply 18 rfl) (by decide) (by decide) ⟨rfl, rfl, rfl⟩
def B_X10_end_4 (f : Nat) : Nat → Int32 → Int32 → MT → Option MT
  | 0, _, _, _ => none
  | n + 1, x1, x2, u =>
    if (gI u 101 2) ≤ x2 then
      let u2 := sI u 127 3 (gI u 116 4)
      let u3 := sI u2 127 1 (((gI u2 127 0) - (gI u2 127 2)) - (gI u2 116 4))
      let u4 := sI u3 127 5 (((gI u3 116 5) * (gI u3 116 2)) / (1000 : Int32))
      let u5 := sI u4 127 4 ((gI u4 116 5) - (gI u4 127 5))
      let v6 := ((gI u5 127 6) * (gI u5 127 12))
      let v7 := (((((gI u5 127 1) - (gI u5 127 0)) * (gI u5 127 10)) + (x1 * (gI u5 127 11))) + v6)
      let u8 := sI u5 127 8 (((gI u5 116 4) * (gI u5 127 13)) - v6)
      let u9 := sI u8 127 9 ((-v7) - (gI u8 127 8))
      some u9
    else
      ck (ixo x2 12) <|
      let v11 := (x1 + (gI u 121 (x2).toNatClampNeg))
      (F_X10_room f x2 u).bind fun r12 =>
      let u14 := sI r12.2 127 6 ((gI u 127 6) + r12.1)
      (F_X10_room f x2 u14).bind fun r15 =>
      let u17 := sI r15.2 127 7 ((gI u14 127 7) + ((gI u14 117 (x2).toNatClampNeg) - r15.1))
      let v18 := x2 + 1
      B_X10_end_4 f n v11 v18 u17
theorem w_X10_end_4 {z : ZT} {g : GT} {w : LT} (hL : Lay w) (C : Cx z g cX10_end 4 RX10 none 1 0 0) {f : Nat} {r : MT} : ∀ (n : Nat) (x1 : Int32) (x2 : Int32) (u : MT), B_X10_end_4 f n x1 x2 u = some r → V z g 4 4 [(0, .ref 116), (1, .int x1), (2, .int x2)] [] w u 0 0 (Qv w r) := by
  intro n
  induction n with
  | zero =>
    intro x1 x2 u h
    rw [B_X10_end_4] at h
    cases h
  | succ n ih =>
    intro x1 x2 u h
    rw [B_X10_end_4] at h
    refine Viload_n C 2 (dAt D_X10_end 4 rfl) rfl rfl ?_
    refine Vaload_n C 0 (dAt D_X10_end 5 rfl) rfl rfl ?_
    refine VgetP C (dAt D_X10_end 6 rfl) gf_X10_46 (kt_116 hL) rfl (kp_116_0 hL) ?_
    refine VgetI C (dAt D_X10_end 7 rfl) gf_X10_137 (kt_101 hL) rfl ?_
    refine Vicmp_ge (tgt := 67) C (dAt D_X10_end 8 rfl) (by decide) (fun c1 => ?_) (fun c1 => ?_)
    · have h := ok_t c1 h
      refine Vaload_n C 0 (dAt D_X10_end 43 rfl) rfl rfl ?_
      refine VgetP C (dAt D_X10_end 44 rfl) gf_X10_43 (kt_116 hL) rfl (kp_116_19 hL) ?_
      refine Viconst (x := 3) C (dAt D_X10_end 45 rfl) (by decide) ?_
      refine Vaload_n C 0 (dAt D_X10_end 46 rfl) rfl rfl ?_
      refine VgetI C (dAt D_X10_end 47 rfl) gf_X10_66 (kt_116 hL) rfl ?_
      refine ViastC 3 C (dAt D_X10_end 48 rfl) (kt_127 hL) (kl_127 hL) (by decide) rfl ?_
      refine Vaload_n C 0 (dAt D_X10_end 49 rfl) rfl rfl ?_
      refine VgetP C (dAt D_X10_end 50 rfl) gf_X10_43 (kt_116 hL) rfl (kp_116_19 hL) ?_
      refine Viconst (x := 1) C (dAt D_X10_end 51 rfl) (by decide) ?_
      refine Vaload_n C 0 (dAt D_X10_end 52 rfl) rfl rfl ?_
      refine VgetP C (dAt D_X10_end 53 rfl) gf_X10_43 (kt_116 hL) rfl (kp_116_19 hL) ?_
      refine Viconst (x := 0) C (dAt D_X10_end 54 rfl) (by decide) ?_
      refine VialdC 0 C (dAt D_X10_end 55 rfl) (kt_127 hL) (kl_127 hL) (by decide) rfl ?_
      refine Vaload_n C 0 (dAt D_X10_end 56 rfl) rfl rfl ?_
      refine VgetP C (dAt D_X10_end 57 rfl) gf_X10_43 (kt_116 hL) rfl (kp_116_19 hL) ?_
      refine Viconst (x := 2) C (dAt D_X10_end 58 rfl) (by decide) ?_
      refine VialdC 2 C (dAt D_X10_end 59 rfl) (kt_127 hL) (kl_127 hL) (by decide) rfl ?_
      refine Visub C (dAt D_X10_end 60 rfl) ?_
      refine Vaload_n C 0 (dAt D_X10_end 61 rfl) rfl rfl ?_
      refine VgetI C (dAt D_X10_end 62 rfl) gf_X10_66 (kt_116 hL) rfl ?_
      refine Visub C (dAt D_X10_end 63 rfl) ?_
      refine ViastC 1 C (dAt D_X10_end 64 rfl) (kt_127 hL) (kl_127 hL) (by decide) rfl ?_
      refine Vaload_n C 0 (dAt D_X10_end 65 rfl) rfl rfl ?_
      refine VgetP C (dAt D_X10_end 66 rfl) gf_X10_43 (kt_116 hL) rfl (kp_116_19 hL) ?_
      refine Viconst (x := 5) C (dAt D_X10_end 67 rfl) (by decide) ?_
      refine Vaload_n C 0 (dAt D_X10_end 68 rfl) rfl rfl ?_
      refine VgetI C (dAt D_X10_end 69 rfl) gf_X10_69 (kt_116 hL) rfl ?_
      refine Vaload_n C 0 (dAt D_X10_end 70 rfl) rfl rfl ?_
      refine VgetI C (dAt D_X10_end 71 rfl) gf_X10_54 (kt_116 hL) rfl ?_
      refine Vimul C (dAt D_X10_end 72 rfl) ?_
      refine Vsipush (x := 1000) C (dAt D_X10_end 73 rfl) (by decide) ?_
      refine Vidiv C (dAt D_X10_end 74 rfl) (by decide) ?_
      refine ViastC 5 C (dAt D_X10_end 75 rfl) (kt_127 hL) (kl_127 hL) (by decide) rfl ?_
      refine Vaload_n C 0 (dAt D_X10_end 76 rfl) rfl rfl ?_
      refine VgetP C (dAt D_X10_end 77 rfl) gf_X10_43 (kt_116 hL) rfl (kp_116_19 hL) ?_
      refine Viconst (x := 4) C (dAt D_X10_end 78 rfl) (by decide) ?_
      refine Vaload_n C 0 (dAt D_X10_end 79 rfl) rfl rfl ?_
      refine VgetI C (dAt D_X10_end 80 rfl) gf_X10_69 (kt_116 hL) rfl ?_
      refine Vaload_n C 0 (dAt D_X10_end 81 rfl) rfl rfl ?_
      refine VgetP C (dAt D_X10_end 82 rfl) gf_X10_43 (kt_116 hL) rfl (kp_116_19 hL) ?_
      refine Viconst (x := 5) C (dAt D_X10_end 83 rfl) (by decide) ?_
      refine VialdC 5 C (dAt D_X10_end 84 rfl) (kt_127 hL) (kl_127 hL) (by decide) rfl ?_
      refine Visub C (dAt D_X10_end 85 rfl) ?_
      refine ViastC 4 C (dAt D_X10_end 86 rfl) (kt_127 hL) (kl_127 hL) (by decide) rfl ?_
      refine Vaload_n C 0 (dAt D_X10_end 87 rfl) rfl rfl ?_
      refine VgetP C (dAt D_X10_end 88 rfl) gf_X10_43 (kt_116 hL) rfl (kp_116_19 hL) ?_
      refine Vbipush (x := 6) C (dAt D_X10_end 89 rfl) (by decide) ?_
      refine VialdC 6 C (dAt D_X10_end 90 rfl) (kt_127 hL) (kl_127 hL) (by decide) rfl ?_
      refine Vaload_n C 0 (dAt D_X10_end 91 rfl) rfl rfl ?_
      refine VgetP C (dAt D_X10_end 92 rfl) gf_X10_43 (kt_116 hL) rfl (kp_116_19 hL) ?_
      refine Vbipush (x := 12) C (dAt D_X10_end 93 rfl) (by decide) ?_
      refine VialdC 12 C (dAt D_X10_end 94 rfl) (kt_127 hL) (kl_127 hL) (by decide) rfl ?_
      refine Vimul C (dAt D_X10_end 95 rfl) ?_
      refine Vistore_n (lv' := [(2, _), (0, _), (1, _)]) C (dAt D_X10_end 96 rfl) rfl (by decide) rfl ?_
      refine Vaload_n C 1 (dAt D_X10_end 97 rfl) rfl rfl ?_
      refine VgetP C (dAt D_X10_end 98 rfl) gf_X10_43 (kt_116 hL) rfl (kp_116_19 hL) ?_
      refine Viconst (x := 1) C (dAt D_X10_end 99 rfl) (by decide) ?_
      refine VialdC 1 C (dAt D_X10_end 100 rfl) (kt_127 hL) (kl_127 hL) (by decide) rfl ?_
      refine Vaload_n C 1 (dAt D_X10_end 101 rfl) rfl rfl ?_
      refine VgetP C (dAt D_X10_end 102 rfl) gf_X10_43 (kt_116 hL) rfl (kp_116_19 hL) ?_
      refine Viconst (x := 0) C (dAt D_X10_end 103 rfl) (by decide) ?_
      refine VialdC 0 C (dAt D_X10_end 104 rfl) (kt_127 hL) (kl_127 hL) (by decide) rfl ?_
      refine Visub C (dAt D_X10_end 105 rfl) ?_
      refine Vaload_n C 1 (dAt D_X10_end 106 rfl) rfl rfl ?_
      refine VgetP C (dAt D_X10_end 107 rfl) gf_X10_43 (kt_116 hL) rfl (kp_116_19 hL) ?_
      refine Vbipush (x := 10) C (dAt D_X10_end 108 rfl) (by decide) ?_
      refine VialdC 10 C (dAt D_X10_end 109 rfl) (kt_127 hL) (kl_127 hL) (by decide) rfl ?_
      refine Vimul C (dAt D_X10_end 110 rfl) ?_
      refine Viload_n C 2 (dAt D_X10_end 111 rfl) rfl rfl ?_
      refine Vaload_n C 1 (dAt D_X10_end 112 rfl) rfl rfl ?_
      refine VgetP C (dAt D_X10_end 113 rfl) gf_X10_43 (kt_116 hL) rfl (kp_116_19 hL) ?_
      refine Vbipush (x := 11) C (dAt D_X10_end 114 rfl) (by decide) ?_
      refine VialdC 11 C (dAt D_X10_end 115 rfl) (kt_127 hL) (kl_127 hL) (by decide) rfl ?_
      refine Vimul C (dAt D_X10_end 116 rfl) ?_
      refine Viadd C (dAt D_X10_end 117 rfl) ?_
      refine Viload_n C 0 (dAt D_X10_end 118 rfl) rfl rfl ?_
      refine Viadd C (dAt D_X10_end 119 rfl) ?_
      refine Vistore_n (lv' := [(3, _), (2, _), (0, _), (1, _)]) C (dAt D_X10_end 120 rfl) rfl (by decide) rfl ?_
      refine Vaload_n C 2 (dAt D_X10_end 121 rfl) rfl rfl ?_
      refine VgetP C (dAt D_X10_end 122 rfl) gf_X10_43 (kt_116 hL) rfl (kp_116_19 hL) ?_
      refine Vbipush (x := 8) C (dAt D_X10_end 123 rfl) (by decide) ?_
      refine Vaload_n C 2 (dAt D_X10_end 124 rfl) rfl rfl ?_
      refine VgetI C (dAt D_X10_end 125 rfl) gf_X10_66 (kt_116 hL) rfl ?_
      refine Vaload_n C 2 (dAt D_X10_end 126 rfl) rfl rfl ?_
      refine VgetP C (dAt D_X10_end 127 rfl) gf_X10_43 (kt_116 hL) rfl (kp_116_19 hL) ?_
      refine Vbipush (x := 13) C (dAt D_X10_end 128 rfl) (by decide) ?_
      refine VialdC 13 C (dAt D_X10_end 129 rfl) (kt_127 hL) (kl_127 hL) (by decide) rfl ?_
      refine Vimul C (dAt D_X10_end 130 rfl) ?_
      refine Viload_n C 1 (dAt D_X10_end 131 rfl) rfl rfl ?_
      refine Visub C (dAt D_X10_end 132 rfl) ?_
      refine ViastC 8 C (dAt D_X10_end 133 rfl) (kt_127 hL) (kl_127 hL) (by decide) rfl ?_
      refine Vaload_n C 2 (dAt D_X10_end 134 rfl) rfl rfl ?_
      refine VgetP C (dAt D_X10_end 135 rfl) gf_X10_43 (kt_116 hL) rfl (kp_116_19 hL) ?_
      refine Vbipush (x := 9) C (dAt D_X10_end 136 rfl) (by decide) ?_
      refine Viload_n C 0 (dAt D_X10_end 137 rfl) rfl rfl ?_
      refine Vineg C (dAt D_X10_end 138 rfl) ?_
      refine Vaload_n C 2 (dAt D_X10_end 139 rfl) rfl rfl ?_
      refine VgetP C (dAt D_X10_end 140 rfl) gf_X10_43 (kt_116 hL) rfl (kp_116_19 hL) ?_
      refine Vbipush (x := 8) C (dAt D_X10_end 141 rfl) (by decide) ?_
      refine VialdC 8 C (dAt D_X10_end 142 rfl) (kt_127 hL) (kl_127 hL) (by decide) rfl ?_
      refine Visub C (dAt D_X10_end 143 rfl) ?_
      refine ViastC 9 C (dAt D_X10_end 144 rfl) (kt_127 hL) (kl_127 hL) (by decide) rfl ?_
      cases h
      exact Vvret C (dAt D_X10_end 145 rfl) (by decide) (by decide) ⟨rfl, rfl, rfl⟩
    · have h := ok_f c1 h
      refine Viload_n C 1 (dAt D_X10_end 9 rfl) rfl rfl ?_
      refine Vaload_n C 0 (dAt D_X10_end 10 rfl) rfl rfl ?_
      refine VgetP C (dAt D_X10_end 11 rfl) gf_X10_24 (kt_116 hL) rfl (kp_116_10 hL) ?_
      refine Viload_n C 2 (dAt D_X10_end 12 rfl) rfl rfl ?_
      obtain ⟨c10, h⟩ := ok_ck h
      refine Viald C (dAt D_X10_end 13 rfl) (kt_121 hL) (kl_121 hL) (vp_in_iff.mpr c10) ?_
      refine Viadd C (dAt D_X10_end 14 rfl) ?_
      refine Vistore_n (lv' := [(1, _), (0, _), (2, _)]) C (dAt D_X10_end 15 rfl) rfl (by decide) rfl ?_
      refine Vaload_n C 1 (dAt D_X10_end 16 rfl) rfl rfl ?_
      refine VgetP C (dAt D_X10_end 17 rfl) gf_X10_43 (kt_116 hL) rfl (kp_116_19 hL) ?_
      refine Vbipush (x := 6) C (dAt D_X10_end 18 rfl) (by decide) ?_
      refine Vdup2 C (dAt D_X10_end 19 rfl) rfl rfl ?_
      refine VialdC 6 C (dAt D_X10_end 20 rfl) (kt_127 hL) (kl_127 hL) (by decide) rfl ?_
      refine Vaload_n C 1 (dAt D_X10_end 21 rfl) rfl rfl ?_
      refine Viload_n C 2 (dAt D_X10_end 22 rfl) rfl rfl ?_
      obtain ⟨r12, e13, h⟩ := ok_b h
      refine VcallV (as := [_]) C (dAt D_X10_end 23 rfl) (m_X10_room hL e13) yv_X10_140 (Or.inl ⟨(kt_116 hL), by decide⟩) rfl rfl (Nat.le_of_ble_eq_true rfl) (by decide) (by decide) (by decide) (by decide) (Kint ?_)
      refine Viadd C (dAt D_X10_end 24 rfl) ?_
      refine ViastC 6 C (dAt D_X10_end 25 rfl) (kt_127 hL) (kl_127 hL) (by decide) rfl ?_
      refine Vaload_n C 1 (dAt D_X10_end 26 rfl) rfl rfl ?_
      refine VgetP C (dAt D_X10_end 27 rfl) gf_X10_43 (kt_116 hL) rfl (kp_116_19 hL) ?_
      refine Vbipush (x := 7) C (dAt D_X10_end 28 rfl) (by decide) ?_
      refine Vdup2 C (dAt D_X10_end 29 rfl) rfl rfl ?_
      refine VialdC 7 C (dAt D_X10_end 30 rfl) (kt_127 hL) (kl_127 hL) (by decide) rfl ?_
      refine Vaload_n C 1 (dAt D_X10_end 31 rfl) rfl rfl ?_
      refine VgetP C (dAt D_X10_end 32 rfl) gf_X10_9 (kt_116 hL) rfl (kp_116_6 hL) ?_
      refine Viload_n C 2 (dAt D_X10_end 33 rfl) rfl rfl ?_
      refine Viald C (dAt D_X10_end 34 rfl) (kt_117 hL) (kl_117 hL) (vp_in_iff.mpr c10) ?_
      refine Vaload_n C 1 (dAt D_X10_end 35 rfl) rfl rfl ?_
      refine Viload_n C 2 (dAt D_X10_end 36 rfl) rfl rfl ?_
      obtain ⟨r15, e16, h⟩ := ok_b h
      refine VcallV (as := [_]) C (dAt D_X10_end 37 rfl) (m_X10_room hL e16) yv_X10_140 (Or.inl ⟨(kt_116 hL), by decide⟩) rfl rfl (Nat.le_of_ble_eq_true rfl) (by decide) (by decide) (by decide) (by decide) (Kint ?_)
      refine Visub C (dAt D_X10_end 38 rfl) ?_
      refine Viadd C (dAt D_X10_end 39 rfl) ?_
      refine ViastC 7 C (dAt D_X10_end 40 rfl) (kt_127 hL) (kl_127 hL) (by decide) rfl ?_
      refine Viinc (j := 2) (v := _ + 1) (lv' := [(2, _), (1, _), (0, _)]) C (dAt D_X10_end 41 rfl) rfl rfl (by decide) rfl ?_
      refine Vgoto (tgt := 4) C (dAt D_X10_end 42 rfl) (by decide) ?_
      exact Vsub [2, 1, 0] rfl (ih _ _ _  h)
def F_X10_end (f : Nat) (u : MT) : Option MT :=
  B_X10_end_4 f f (0 : Int32) (0 : Int32) u
theorem m_X10_end {g : GT} {w : LT} (hL : Lay w) {f : Nat} {u : MT} {r : MT} (h : F_X10_end f  u = some r) : Mt g yX10_end cX10_end 4 none 1 0 0 [.ref 116] w u (Qv w r) := by
  refine Mt_of (own := RX10) (by decide +kernel) rfl (Nat.le_of_ble_eq_true rfl) (fun z C _ => ?_)
  show V z g 4 0 [(0, .ref 116)] [] w u 0 0 (Qv w r)
  rw [F_X10_end] at h
  refine Viconst (x := 0) C (dAt D_X10_end 0 rfl) (by decide) ?_
  refine Vistore_n (lv' := [(1, _), (0, _)]) C (dAt D_X10_end 1 rfl) rfl (by decide) rfl ?_
  refine Viconst (x := 0) C (dAt D_X10_end 2 rfl) (by decide) ?_
  refine Vistore_n (lv' := [(2, _), (1, _), (0, _)]) C (dAt D_X10_end 3 rfl) rfl (by decide) rfl ?_
  exact Vsub [2, 1, 0] rfl (w_X10_end_4 hL C  f _ _ _  h)
def B_X1_write_2 (f : Nat) (b : Nat) (ts : Nat) : Nat → Int32 → Int32 → MT → Option MT
  | 0, _, _, _ => none
  | n + 1, x1, x2, u =>
    if (gI u 101 2) ≤ x2 then
      ck (0 ≤ (0 : Int32).toInt ∧ 0 ≤ (x1 * (14 : Int32)).toInt ∧ 0 ≤ (14 : Int32).toInt ∧ (0 : Int32).toInt + (14 : Int32).toInt ≤ (14 : Nat) ∧ (x1 * (14 : Int32)).toInt + (14 : Int32).toInt ≤ (3360 : Nat)) <|
      let u3 := cpI u 127 (b + 5) (0 : Int32).toNatClampNeg (x1 * (14 : Int32)).toNatClampNeg (14 : Int32).toNatClampNeg
      some u3
    else
      (F_X1_cell f x2 x1 u).bind fun r4 =>
      ck (ixo x2 12) <|
      ck (ixo r4.1 2880) <|
      let u8 := sI r4.2 (b + 2) (r4.1).toNatClampNeg (gI r4.2 120 (x2).toNatClampNeg)
      let u9 := sI u8 (b + 3) (r4.1).toNatClampNeg (gI u8 121 (x2).toNatClampNeg)
      let u10 := sI u9 (b + 4) (r4.1).toNatClampNeg (gI u9 119 (x2).toNatClampNeg)
      let v11 := x2 + 1
      B_X1_write_2 f b ts n x1 v11 u10
theorem w_X1_write_2 {z : ZT} {g : GT} {w : LT} (hL : Lay w) {b : Nat} {ts : Nat} (hb : isBk w b ts) (C : Cx z g cX1_write 4 RX1 none 1 0 0) {f : Nat} {r : MT} : ∀ (n : Nat) (x1 : Int32) (x2 : Int32) (u : MT), B_X1_write_2 f b ts n x1 x2 u = some r → V z g 4 2 [(0, .ref b), (1, .int x1), (2, .int x2)] [] w u 0 0 (Qv w r) := by
  intro n
  induction n with
  | zero =>
    intro x1 x2 u h
    rw [B_X1_write_2] at h
    cases h
  | succ n ih =>
    intro x1 x2 u h
    rw [B_X1_write_2] at h
    refine Viload_n C 2 (dAt D_X1_write 2 rfl) rfl rfl ?_
    refine Vaload_n C 0 (dAt D_X1_write 3 rfl) rfl rfl ?_
    refine VgetP C (dAt D_X1_write 4 rfl) gf_X1_27 (hb).1 rfl (hb).2.1 ?_
    refine VgetI C (dAt D_X1_write 5 rfl) gf_X1_110 (kt_101 hL) rfl ?_
    refine Vicmp_ge (tgt := 70) C (dAt D_X1_write 6 rfl) (by decide) (fun c1 => ?_) (fun c1 => ?_)
    · have h := ok_t c1 h
      refine Vaload_n C 0 (dAt D_X1_write 40 rfl) rfl rfl ?_
      refine VgetP C (dAt D_X1_write 41 rfl) gf_X1_39 (hb).1 rfl (hb).2.2.2.2.1 ?_
      refine VgetP C (dAt D_X1_write 42 rfl) gf_X1_109 (kt_116 hL) rfl (kp_116_19 hL) ?_
      refine Viconst (x := 0) C (dAt D_X1_write 43 rfl) (by decide) ?_
      refine Vaload_n C 0 (dAt D_X1_write 44 rfl) rfl rfl ?_
      refine VgetP C (dAt D_X1_write 45 rfl) gf_X1_24 (hb).1 rfl (hb).2.2.2.2.2.2.2.2.2.1.1 ?_
      refine Viload_n C 1 (dAt D_X1_write 46 rfl) rfl rfl ?_
      refine Vbipush (x := 14) C (dAt D_X1_write 47 rfl) (by decide) ?_
      refine Vimul C (dAt D_X1_write 48 rfl) ?_
      refine Vbipush (x := 14) C (dAt D_X1_write 49 rfl) (by decide) ?_
      obtain ⟨c2, h⟩ := ok_ck h
      refine Vcopy C (dAt D_X1_write 50 rfl) ac_1 ac_2 ac_3 ac_4 (kt_127 hL) (kl_127 hL) (hb).2.2.2.2.2.2.2.2.2.1.2.1 (hb).2.2.2.2.2.2.2.2.2.1.2.2 c2 (Nat.le_of_ble_eq_true rfl) (by decide) ?_
      cases h
      exact Vvret C (dAt D_X1_write 51 rfl) (by decide) (by decide) ⟨rfl, rfl, rfl⟩
    · have h := ok_f c1 h
      refine Viload_n C 2 (dAt D_X1_write 7 rfl) rfl rfl ?_
      refine Viload_n C 1 (dAt D_X1_write 8 rfl) rfl rfl ?_
      obtain ⟨r4, e5, h⟩ := ok_b h
      refine VcallS (as := [_, _]) C (dAt D_X1_write 9 rfl) (m_X1_cell hL e5) yb_X1_81 ys_X1_81 rfl rfl (Nat.le_of_ble_eq_true rfl) (by decide) (by decide) (by decide) (by decide) (Kint ?_)
      refine Vistore_n (lv' := [(3, _), (0, _), (1, _), (2, _)]) C (dAt D_X1_write 10 rfl) rfl (by decide) rfl ?_
      refine Vaload_n C 1 (dAt D_X1_write 11 rfl) rfl rfl ?_
      refine VgetP C (dAt D_X1_write 12 rfl) gf_X1_15 (hb).1 rfl (hb).2.2.2.2.2.2.1.1 ?_
      refine Viload_n C 0 (dAt D_X1_write 13 rfl) rfl rfl ?_
      refine Vaload_n C 1 (dAt D_X1_write 14 rfl) rfl rfl ?_
      refine VgetP C (dAt D_X1_write 15 rfl) gf_X1_39 (hb).1 rfl (hb).2.2.2.2.1 ?_
      refine VgetP C (dAt D_X1_write 16 rfl) gf_X1_143 (kt_116 hL) rfl (kp_116_9 hL) ?_
      refine Viload_n C 3 (dAt D_X1_write 17 rfl) rfl rfl ?_
      obtain ⟨c6, h⟩ := ok_ck h
      refine Viald C (dAt D_X1_write 18 rfl) (kt_120 hL) (kl_120 hL) (vp_in_iff.mpr c6) ?_
      obtain ⟨c7, h⟩ := ok_ck h
      refine Viast C (dAt D_X1_write 19 rfl) (hb).2.2.2.2.2.2.1.2.1 (hb).2.2.2.2.2.2.1.2.2 (vp_in_iff.mpr c7) ?_
      refine Vaload_n C 1 (dAt D_X1_write 20 rfl) rfl rfl ?_
      refine VgetP C (dAt D_X1_write 21 rfl) gf_X1_18 (hb).1 rfl (hb).2.2.2.2.2.2.2.1.1 ?_
      refine Viload_n C 0 (dAt D_X1_write 22 rfl) rfl rfl ?_
      refine Vaload_n C 1 (dAt D_X1_write 23 rfl) rfl rfl ?_
      refine VgetP C (dAt D_X1_write 24 rfl) gf_X1_39 (hb).1 rfl (hb).2.2.2.2.1 ?_
      refine VgetP C (dAt D_X1_write 25 rfl) gf_X1_144 (kt_116 hL) rfl (kp_116_10 hL) ?_
      refine Viload_n C 3 (dAt D_X1_write 26 rfl) rfl rfl ?_
      refine Viald C (dAt D_X1_write 27 rfl) (kt_121 hL) (kl_121 hL) (vp_in_iff.mpr c6) ?_
      refine Viast C (dAt D_X1_write 28 rfl) (hb).2.2.2.2.2.2.2.1.2.1 (hb).2.2.2.2.2.2.2.1.2.2 (vp_in_iff.mpr c7) ?_
      refine Vaload_n C 1 (dAt D_X1_write 29 rfl) rfl rfl ?_
      refine VgetP C (dAt D_X1_write 30 rfl) gf_X1_21 (hb).1 rfl (hb).2.2.2.2.2.2.2.2.1.1 ?_
      refine Viload_n C 0 (dAt D_X1_write 31 rfl) rfl rfl ?_
      refine Vaload_n C 1 (dAt D_X1_write 32 rfl) rfl rfl ?_
      refine VgetP C (dAt D_X1_write 33 rfl) gf_X1_39 (hb).1 rfl (hb).2.2.2.2.1 ?_
      refine VgetP C (dAt D_X1_write 34 rfl) gf_X1_145 (kt_116 hL) rfl (kp_116_8 hL) ?_
      refine Viload_n C 3 (dAt D_X1_write 35 rfl) rfl rfl ?_
      refine Viald C (dAt D_X1_write 36 rfl) (kt_119 hL) (kl_119 hL) (vp_in_iff.mpr c6) ?_
      refine Viast C (dAt D_X1_write 37 rfl) (hb).2.2.2.2.2.2.2.2.1.2.1 (hb).2.2.2.2.2.2.2.2.1.2.2 (vp_in_iff.mpr c7) ?_
      refine Viinc (j := 3) (v := _ + 1) (lv' := [(2, _), (3, _), (0, _), (1, _)]) C (dAt D_X1_write 38 rfl) rfl rfl (by decide) rfl ?_
      refine Vgoto (tgt := 2) C (dAt D_X1_write 39 rfl) (by decide) ?_
      exact Vsub [2, 3, 0] rfl (ih _ _ _  h)
def F_X1_write (f : Nat) (b : Nat) (ts : Nat) (x1 : Int32) (u : MT) : Option MT :=
  B_X1_write_2 f b ts f x1 (0 : Int32) u
theorem m_X1_write {g : GT} {w : LT} (hL : Lay w) {b : Nat} {ts : Nat} {x1 : Int32} {f : Nat} {u : MT} {r : MT} (hb : isBk w b ts) (h : F_X1_write f b ts x1 u = some r) : Mt g yX1_write cX1_write 4 none 1 0 0 [.ref b, .int x1] w u (Qv w r) := by
  refine Mt_of (own := RX1) (by decide +kernel) rfl (Nat.le_of_ble_eq_true rfl) (fun z C _ => ?_)
  show V z g 4 0 [(0, .ref b), (1, .int x1)] [] w u 0 0 (Qv w r)
  rw [F_X1_write] at h
  refine Viconst (x := 0) C (dAt D_X1_write 0 rfl) (by decide) ?_
  refine Vistore_n (lv' := [(2, _), (0, _), (1, _)]) C (dAt D_X1_write 1 rfl) rfl (by decide) rfl ?_
  exact Vsub [1, 2, 0] rfl (w_X1_write_2 hL hb C  f _ _ _  h)
def B_X1_workAgain_58 (w : LT) (f : Nat) (b : Nat) (ts : Nat) (j28 : Int32 → Int32 → MT → Option MT) (x1 : Int32) (x3 : Int32) (s0 : Int32) (s1 : Int32) (u : MT) : Option MT :=
  ck (ixo s1 14) <|
  let u19 := sI u 127 (s1).toNatClampNeg s0
  let v20 := x3 + 1
  j28 x1 v20 u19
theorem w_X1_workAgain_58 {z : ZT} {g : GT} {w : LT} (hL : Lay w) {b : Nat} {ts : Nat} (hb : isBk w b ts) (C : Cx z g cX1_workAgain 6 RX1 none 5 0 0) {f : Nat} {r : MT} {j28 : Int32 → Int32 → MT → Option MT} (q28 : ∀ (x1 : Int32) (x3 : Int32) (u : MT), j28 x1 x3 u = some r → V z g 6 28 [(0, .ref b), (1, .int x1), (3, .int x3)] [] w u 0 0 (Qv w r)) {x1 : Int32} {x3 : Int32} {s0 : Int32} {s1 : Int32} {u : MT} (h : B_X1_workAgain_58 w f b ts j28 x1 x3 s0 s1 u = some r) : V z g 6 58 [(0, .ref b), (1, .int x1), (3, .int x3)] [.int s0, .int s1, .ref 127] w u 0 0 (Qv w r) := by
  rw [B_X1_workAgain_58] at h
  obtain ⟨c18, h⟩ := ok_ck h
  refine Viast C (dAt D_X1_workAgain 34 rfl) (kt_127 hL) (kl_127 hL) (vp_in_iff.mpr c18) ?_
  refine Viinc (j := 2) (v := _ + 1) (lv' := [(3, _), (0, _), (1, _)]) C (dAt D_X1_workAgain 35 rfl) rfl rfl (by decide) rfl ?_
  refine Vgoto (tgt := 28) C (dAt D_X1_workAgain 36 rfl) (by decide) ?_
  exact Vsub [1, 2, 0] rfl (q28 _ _ _  h)
def B_X1_workAgain_120 (w : LT) (f : Nat) (b : Nat) (ts : Nat) : Nat → Int32 → Nat → Int32 → Int32 → MT → Option MT
  | 0, _, _, _, _, _ => none
  | n + 1, x1, a3, x4, x5, u =>
    if x4 ≤ x5 then
      (F_X10_end f u).bind fun r22 =>
      (F_X1_write f b ts x1 r22).bind fun r24 =>
      some r24
    else
      ck (lt_t w a3 = 7) <|
      (F_X10_apply f a3 x5 u).bind fun r27 =>
      let v29 := x5 + 1
      B_X1_workAgain_120 w f b ts n x1 a3 x4 v29 r27
theorem w_X1_workAgain_120 {z : ZT} {g : GT} {w : LT} (hL : Lay w) {b : Nat} {ts : Nat} (hb : isBk w b ts) (C : Cx z g cX1_workAgain 6 RX1 none 5 0 0) {f : Nat} {r : MT} : ∀ (n : Nat) (x1 : Int32) (a3 : Nat) (x4 : Int32) (x5 : Int32) (u : MT), B_X1_workAgain_120 w f b ts n x1 a3 x4 x5 u = some r → V z g 6 120 [(0, .ref b), (1, .int x1), (3, .ref a3), (4, .int x4), (5, .int x5)] [] w u 0 0 (Qv w r) := by
  intro n
  induction n with
  | zero =>
    intro x1 a3 x4 x5 u h
    rw [B_X1_workAgain_120] at h
    cases h
  | succ n ih =>
    intro x1 a3 x4 x5 u h
    rw [B_X1_workAgain_120] at h
    refine Viload C 4 (dAt D_X1_workAgain 66 rfl) rfl ?_
    refine Viload C 3 (dAt D_X1_workAgain 67 rfl) rfl ?_
    refine Vicmp_ge (tgt := 143) C (dAt D_X1_workAgain 68 rfl) (by decide) (fun c21 => ?_) (fun c21 => ?_)
    · have h := ok_t c21 h
      refine Vaload_n C 0 (dAt D_X1_workAgain 76 rfl) rfl rfl ?_
      refine VgetP C (dAt D_X1_workAgain 77 rfl) gf_X1_39 (hb).1 rfl (hb).2.2.2.2.1 ?_
      obtain ⟨r22, e23, h⟩ := ok_b h
      refine VcallV (as := []) C (dAt D_X1_workAgain 78 rfl) (m_X10_end hL e23) yv_X1_127 (Or.inl ⟨(kt_116 hL), by decide⟩) rfl rfl (Nat.le_of_ble_eq_true rfl) (by decide) (by decide) (by decide) (by decide) (Kvoid ?_)
      refine Vaload_n C 0 (dAt D_X1_workAgain 79 rfl) rfl rfl ?_
      refine Viload_n C 1 (dAt D_X1_workAgain 80 rfl) rfl rfl ?_
      obtain ⟨r24, e25, h⟩ := ok_b h
      refine VcallV (as := [_]) C (dAt D_X1_workAgain 81 rfl) (m_X1_write hL hb e25) yv_X1_130 (Or.inl ⟨(hb).1, by decide⟩) rfl rfl (Nat.le_of_ble_eq_true rfl) (by decide) (by decide) (by decide) (by decide) (Kvoid ?_)
      cases h
      exact Vvret C (dAt D_X1_workAgain 82 rfl) (by decide) (by decide) ⟨rfl, rfl, rfl⟩
    · have h := ok_f c21 h
      refine Vaload_n C 0 (dAt D_X1_workAgain 69 rfl) rfl rfl ?_
      refine VgetP C (dAt D_X1_workAgain 70 rfl) gf_X1_39 (hb).1 rfl (hb).2.2.2.2.1 ?_
      refine Vaload_n C 2 (dAt D_X1_workAgain 71 rfl) rfl rfl ?_
      refine Viload C 4 (dAt D_X1_workAgain 72 rfl) rfl ?_
      obtain ⟨c26, h⟩ := ok_ck h
      obtain ⟨r27, e28, h⟩ := ok_b h
      refine VcallV (as := [_, _]) C (dAt D_X1_workAgain 73 rfl) (m_X10_apply hL (hL.2.2.1 _ c26) e28) yv_X1_123 (Or.inl ⟨(kt_116 hL), by decide⟩) rfl rfl (Nat.le_of_ble_eq_true rfl) (by decide) (by decide) (by decide) (by decide) (Kvoid ?_)
      refine Viinc (j := 4) (v := _ + 1) (lv' := [(5, _), (0, _), (1, _), (3, _), (4, _)]) C (dAt D_X1_workAgain 74 rfl) rfl rfl (by decide) rfl ?_
      refine Vgoto (tgt := 120) C (dAt D_X1_workAgain 75 rfl) (by decide) ?_
      exact Vsub [1, 2, 3, 4, 0] rfl (ih _ _ _ _ _  h)
def B_X1_workAgain_115 (w : LT) (f : Nat) (b : Nat) (ts : Nat) (x1 : Int32) (a3 : Nat) (s0 : Int32) (u : MT) : Option MT :=
  B_X1_workAgain_120 w f b ts f x1 a3 s0 (0 : Int32) u
theorem w_X1_workAgain_115 {z : ZT} {g : GT} {w : LT} (hL : Lay w) {b : Nat} {ts : Nat} (hb : isBk w b ts) (C : Cx z g cX1_workAgain 6 RX1 none 5 0 0) {f : Nat} {r : MT} {x1 : Int32} {a3 : Nat} {s0 : Int32} {u : MT} (h : B_X1_workAgain_115 w f b ts x1 a3 s0 u = some r) : V z g 6 115 [(0, .ref b), (1, .int x1), (3, .ref a3)] [.int s0] w u 0 0 (Qv w r) := by
  rw [B_X1_workAgain_115] at h
  refine Vistore (lv' := [(4, _), (0, _), (1, _), (3, _)]) C (dAt D_X1_workAgain 63 rfl) (by decide) rfl ?_
  refine Viconst (x := 0) C (dAt D_X1_workAgain 64 rfl) (by decide) ?_
  refine Vistore (lv' := [(5, _), (4, _), (0, _), (1, _), (3, _)]) C (dAt D_X1_workAgain 65 rfl) (by decide) rfl ?_
  exact Vsub [2, 3, 4, 1, 0] rfl (w_X1_workAgain_120 hL hb C  f _ _ _ _ _  h)
def B_X1_workAgain_67 (w : LT) (f : Nat) (b : Nat) (ts : Nat) : Nat → Int32 → Int32 → MT → Option MT
  | 0, _, _, _ => none
  | n + 1, x1, x3, u =>
    if (gI u 101 2) ≤ x3 then
      (F_X8_inForce w f ts x1 (gI u b 4) u).bind fun r11 =>
      if r11.1 = 0 then
        B_X1_workAgain_115 w f b ts x1 r11.1 (0 : Int32) r11.2
      else
        ck (lt_t w r11.1 = 7) <|
        B_X1_workAgain_115 w f b ts x1 r11.1 (gI r11.2 r11.1 1) r11.2
    else
      (F_X1_bringIn f b ts x3 x1 u).bind fun r15 =>
      let v17 := x3 + 1
      B_X1_workAgain_67 w f b ts n x1 v17 r15
theorem w_X1_workAgain_67 {z : ZT} {g : GT} {w : LT} (hL : Lay w) {b : Nat} {ts : Nat} (hb : isBk w b ts) (C : Cx z g cX1_workAgain 6 RX1 none 5 0 0) {f : Nat} {r : MT} : ∀ (n : Nat) (x1 : Int32) (x3 : Int32) (u : MT), B_X1_workAgain_67 w f b ts n x1 x3 u = some r → V z g 6 67 [(0, .ref b), (1, .int x1), (3, .int x3)] [] w u 0 0 (Qv w r) := by
  intro n
  induction n with
  | zero =>
    intro x1 x3 u h
    rw [B_X1_workAgain_67] at h
    cases h
  | succ n ih =>
    intro x1 x3 u h
    rw [B_X1_workAgain_67] at h
    refine Viload_n C 2 (dAt D_X1_workAgain 39 rfl) rfl rfl ?_
    refine Vaload_n C 0 (dAt D_X1_workAgain 40 rfl) rfl rfl ?_
    refine VgetP C (dAt D_X1_workAgain 41 rfl) gf_X1_27 (hb).1 rfl (hb).2.1 ?_
    refine VgetI C (dAt D_X1_workAgain 42 rfl) gf_X1_110 (kt_101 hL) rfl ?_
    refine Vicmp_ge (tgt := 90) C (dAt D_X1_workAgain 43 rfl) (by decide) (fun c10 => ?_) (fun c10 => ?_)
    · have h := ok_t c10 h
      refine Vaload_n C 0 (dAt D_X1_workAgain 50 rfl) rfl rfl ?_
      refine VgetP C (dAt D_X1_workAgain 51 rfl) gf_X1_35 (hb).1 rfl (hb).2.2.2.1 ?_
      refine Viload_n C 1 (dAt D_X1_workAgain 52 rfl) rfl rfl ?_
      refine Vaload_n C 0 (dAt D_X1_workAgain 53 rfl) rfl rfl ?_
      refine VgetI C (dAt D_X1_workAgain 54 rfl) gf_X1_64 (hb).1 rfl ?_
      obtain ⟨r11, e12, h⟩ := ok_b h
      refine VcallV (as := [_, _]) C (dAt D_X1_workAgain 55 rfl) (m_X8_inForce hL ((hb).2.2.2.2.2.2.2.2.2.2) e12) yv_X1_116 (Or.inl ⟨((hb).2.2.2.2.2.2.2.2.2.2).1, by decide⟩) rfl rfl (Nat.le_of_ble_eq_true rfl) (by decide) (by decide) (by decide) (by decide) (Kref ?_)
      refine Vastore_n (lv' := [(3, _), (0, _), (1, _)]) C (dAt D_X1_workAgain 56 rfl) rfl (by decide) rfl ?_
      refine Vaload_n C 0 (dAt D_X1_workAgain 57 rfl) rfl rfl ?_
      refine Vifnonnull (tgt := 111) C (dAt D_X1_workAgain 58 rfl) (by decide) (fun c13 => ?_) (fun c13 => ?_)
      · have h := ok_f c13 h
        refine Vaload_n C 0 (dAt D_X1_workAgain 61 rfl) rfl rfl ?_
        obtain ⟨c14, h⟩ := ok_ck h
        refine VgetI C (dAt D_X1_workAgain 62 rfl) gf_X1_120 ((hL.2.2.1 _ c14)).1 rfl ?_
        exact Vsub [1, 2, 0] rfl (w_X1_workAgain_115 hL hb C  h)
      · have h := ok_t c13 h
        refine Viconst (x := 0) C (dAt D_X1_workAgain 59 rfl) (by decide) ?_
        refine Vgoto (tgt := 115) C (dAt D_X1_workAgain 60 rfl) (by decide) ?_
        exact Vsub [1, 2, 0] rfl (w_X1_workAgain_115 hL hb C  h)
    · have h := ok_f c10 h
      refine Vaload_n C 0 (dAt D_X1_workAgain 44 rfl) rfl rfl ?_
      refine Viload_n C 2 (dAt D_X1_workAgain 45 rfl) rfl rfl ?_
      refine Viload_n C 1 (dAt D_X1_workAgain 46 rfl) rfl rfl ?_
      obtain ⟨r15, e16, h⟩ := ok_b h
      refine VcallV (as := [_, _]) C (dAt D_X1_workAgain 47 rfl) (m_X1_bringIn hL hb e16) yv_X1_113 (Or.inl ⟨(hb).1, by decide⟩) rfl rfl (Nat.le_of_ble_eq_true rfl) (by decide) (by decide) (by decide) (by decide) (Kvoid ?_)
      refine Viinc (j := 2) (v := _ + 1) (lv' := [(3, _), (0, _), (1, _)]) C (dAt D_X1_workAgain 48 rfl) rfl rfl (by decide) rfl ?_
      refine Vgoto (tgt := 67) C (dAt D_X1_workAgain 49 rfl) (by decide) ?_
      exact Vsub [1, 2, 0] rfl (ih _ _ _  h)
def B_X1_workAgain_28 (w : LT) (f : Nat) (b : Nat) (ts : Nat) : Nat → Int32 → Int32 → MT → Option MT
  | 0, _, _, _ => none
  | n + 1, x1, x3, u =>
    if (13 : Int32) < x3 then
      B_X1_workAgain_67 w f b ts f x1 (0 : Int32) u
    else
      if x1 = 0 then
        B_X1_workAgain_58 w f b ts (fun x1' x3' u' => B_X1_workAgain_28 w f b ts n x1' x3' u') x1 x3 (0 : Int32) x3 u
      else
        (F_X1_sum f b ts (x1 - (1 : Int32)) x3 u).bind fun r8 =>
        B_X1_workAgain_58 w f b ts (fun x1' x3' u' => B_X1_workAgain_28 w f b ts n x1' x3' u') x1 x3 r8.1 x3 r8.2
theorem w_X1_workAgain_28 {z : ZT} {g : GT} {w : LT} (hL : Lay w) {b : Nat} {ts : Nat} (hb : isBk w b ts) (C : Cx z g cX1_workAgain 6 RX1 none 5 0 0) {f : Nat} {r : MT} : ∀ (n : Nat) (x1 : Int32) (x3 : Int32) (u : MT), B_X1_workAgain_28 w f b ts n x1 x3 u = some r → V z g 6 28 [(0, .ref b), (1, .int x1), (3, .int x3)] [] w u 0 0 (Qv w r) := by
  intro n
  induction n with
  | zero =>
    intro x1 x3 u h
    rw [B_X1_workAgain_28] at h
    cases h
  | succ n ih =>
    intro x1 x3 u h
    rw [B_X1_workAgain_28] at h
    refine Viload_n C 2 (dAt D_X1_workAgain 17 rfl) rfl rfl ?_
    refine Vbipush (x := 13) C (dAt D_X1_workAgain 18 rfl) (by decide) ?_
    refine Vicmp_gt (tgt := 65) C (dAt D_X1_workAgain 19 rfl) (by decide) (fun c6 => ?_) (fun c6 => ?_)
    · have h := ok_t c6 h
      refine Viconst (x := 0) C (dAt D_X1_workAgain 37 rfl) (by decide) ?_
      refine Vistore_n (lv' := [(3, _), (0, _), (1, _)]) C (dAt D_X1_workAgain 38 rfl) rfl (by decide) rfl ?_
      exact Vsub [1, 2, 0] rfl (w_X1_workAgain_67 hL hb C  f _ _ _  h)
    · have h := ok_f c6 h
      refine Vaload_n C 0 (dAt D_X1_workAgain 20 rfl) rfl rfl ?_
      refine VgetP C (dAt D_X1_workAgain 21 rfl) gf_X1_39 (hb).1 rfl (hb).2.2.2.2.1 ?_
      refine VgetP C (dAt D_X1_workAgain 22 rfl) gf_X1_109 (kt_116 hL) rfl (kp_116_19 hL) ?_
      refine Viload_n C 2 (dAt D_X1_workAgain 23 rfl) rfl rfl ?_
      refine Viload_n C 1 (dAt D_X1_workAgain 24 rfl) rfl rfl ?_
      refine Vif_ne (tgt := 50) C (dAt D_X1_workAgain 25 rfl) (by decide) (fun c7 => ?_) (fun c7 => ?_)
      · have h := ok_f c7 h
        refine Vaload_n C 0 (dAt D_X1_workAgain 28 rfl) rfl rfl ?_
        refine Viload_n C 1 (dAt D_X1_workAgain 29 rfl) rfl rfl ?_
        refine Viconst (x := 1) C (dAt D_X1_workAgain 30 rfl) (by decide) ?_
        refine Visub C (dAt D_X1_workAgain 31 rfl) ?_
        refine Viload_n C 2 (dAt D_X1_workAgain 32 rfl) rfl rfl ?_
        obtain ⟨r8, e9, h⟩ := ok_b h
        refine VcallV (as := [_, _]) C (dAt D_X1_workAgain 33 rfl) (m_X1_sum hL hb e9) yv_X1_100 (Or.inl ⟨(hb).1, by decide⟩) rfl rfl (Nat.le_of_ble_eq_true rfl) (by decide) (by decide) (by decide) (by decide) (Kint ?_)
        exact Vsub [0, 1, 2] rfl (w_X1_workAgain_58 hL hb C ih  h)
      · have h := ok_t c7 h
        refine Viconst (x := 0) C (dAt D_X1_workAgain 26 rfl) (by decide) ?_
        refine Vgoto (tgt := 58) C (dAt D_X1_workAgain 27 rfl) (by decide) ?_
        exact Vsub [0, 1, 2] rfl (w_X1_workAgain_58 hL hb C ih  h)
def B_X1_workAgain_21 (w : LT) (f : Nat) (b : Nat) (ts : Nat) (x1 : Int32) (x2 : Int32) (s0 : Int32) (s1 : Int32) (u : MT) : Option MT :=
  (F_X10_begin f s1 s0 x2 u).bind fun r4 =>
  B_X1_workAgain_28 w f b ts f x1 (10 : Int32) r4
theorem w_X1_workAgain_21 {z : ZT} {g : GT} {w : LT} (hL : Lay w) {b : Nat} {ts : Nat} (hb : isBk w b ts) (C : Cx z g cX1_workAgain 6 RX1 none 5 0 0) {f : Nat} {r : MT} {x1 : Int32} {x2 : Int32} {s0 : Int32} {s1 : Int32} {u : MT} (h : B_X1_workAgain_21 w f b ts x1 x2 s0 s1 u = some r) : V z g 6 21 [(0, .ref b), (1, .int x1), (2, .int x2)] [.int s0, .int s1, .ref 116] w u 0 0 (Qv w r) := by
  rw [B_X1_workAgain_21] at h
  refine Viload_n C 2 (dAt D_X1_workAgain 13 rfl) rfl rfl ?_
  obtain ⟨r4, e5, h⟩ := ok_b h
  refine VcallV (as := [_, _, _]) C (dAt D_X1_workAgain 14 rfl) (m_X10_begin hL e5) yv_X1_103 (Or.inl ⟨(kt_116 hL), by decide⟩) rfl rfl (Nat.le_of_ble_eq_true rfl) (by decide) (by decide) (by decide) (by decide) (Kvoid ?_)
  refine Vbipush (x := 10) C (dAt D_X1_workAgain 15 rfl) (by decide) ?_
  refine Vistore_n (lv' := [(3, _), (0, _), (1, _), (2, _)]) C (dAt D_X1_workAgain 16 rfl) rfl (by decide) rfl ?_
  exact Vsub [1, 2, 0] rfl (w_X1_workAgain_28 hL hb C  f _ _ _  h)
def F_X1_workAgain (w : LT) (f : Nat) (b : Nat) (ts : Nat) (x1 : Int32) (x2 : Int32) (u : MT) : Option MT :=
  if x1 = 0 then
    B_X1_workAgain_21 w f b ts x1 x2 (0 : Int32) x1 u
  else
    (F_X1_sum f b ts (x1 - (1 : Int32)) (4 : Int32) u).bind fun r2 =>
    B_X1_workAgain_21 w f b ts x1 x2 r2.1 x1 r2.2
theorem m_X1_workAgain {g : GT} {w : LT} (hL : Lay w) {b : Nat} {ts : Nat} {x1 : Int32} {x2 : Int32} {f : Nat} {u : MT} {r : MT} (hb : isBk w b ts) (h : F_X1_workAgain w f b ts x1 x2 u = some r) : Mt g yX1_workAgain cX1_workAgain 6 none 5 0 0 [.ref b, .int x1, .int x2] w u (Qv w r) := by
  refine Mt_of (own := RX1) (by decide +kernel) rfl (Nat.le_of_ble_eq_true rfl) (fun z C _ => ?_)
  show V z g 6 0 [(0, .ref b), (1, .int x1), (2, .int x2)] [] w u 0 0 (Qv w r)
  rw [F_X1_workAgain] at h
  refine Vaload_n C 0 (dAt D_X1_workAgain 0 rfl) rfl rfl ?_
  refine VgetP C (dAt D_X1_workAgain 1 rfl) gf_X1_39 (hb).1 rfl (hb).2.2.2.2.1 ?_
  refine Viload_n C 1 (dAt D_X1_workAgain 2 rfl) rfl rfl ?_
  refine Viload_n C 1 (dAt D_X1_workAgain 3 rfl) rfl rfl ?_
  refine Vif_ne (tgt := 13) C (dAt D_X1_workAgain 4 rfl) (by decide) (fun c1 => ?_) (fun c1 => ?_)
  · have h := ok_f c1 h
    refine Vaload_n C 0 (dAt D_X1_workAgain 7 rfl) rfl rfl ?_
    refine Viload_n C 1 (dAt D_X1_workAgain 8 rfl) rfl rfl ?_
    refine Viconst (x := 1) C (dAt D_X1_workAgain 9 rfl) (by decide) ?_
    refine Visub C (dAt D_X1_workAgain 10 rfl) ?_
    refine Viconst (x := 4) C (dAt D_X1_workAgain 11 rfl) (by decide) ?_
    obtain ⟨r2, e3, h⟩ := ok_b h
    refine VcallV (as := [_, _]) C (dAt D_X1_workAgain 12 rfl) (m_X1_sum hL hb e3) yv_X1_100 (Or.inl ⟨(hb).1, by decide⟩) rfl rfl (Nat.le_of_ble_eq_true rfl) (by decide) (by decide) (by decide) (by decide) (Kint ?_)
    exact Vsub [0, 1, 2] rfl (w_X1_workAgain_21 hL hb C  h)
  · have h := ok_t c1 h
    refine Viconst (x := 0) C (dAt D_X1_workAgain 5 rfl) (by decide) ?_
    refine Vgoto (tgt := 21) C (dAt D_X1_workAgain 6 rfl) (by decide) ?_
    exact Vsub [0, 1, 2] rfl (w_X1_workAgain_21 hL hb C  h)
def B_X1_workTo_24 (w : LT) (f : Nat) (b : Nat) (ts : Nat) : Nat → Int32 → Int32 → MT → Option MT
  | 0, _, _, _ => none
  | n + 1, x1, x3, u =>
    if x1 < x3 then
      let u8 := sI u b 5 (x1 + (1 : Int32))
      some u8
    else
      (F_X1_workAgain w f b ts x3 (-1 : Int32) u).bind fun r9 =>
      let v11 := x3 + 1
      B_X1_workTo_24 w f b ts n x1 v11 r9
theorem w_X1_workTo_24 {z : ZT} {g : GT} {w : LT} (hL : Lay w) {b : Nat} {ts : Nat} (hb : isBk w b ts) (C : Cx z g cX1_workTo 4 RX1 none 6 0 0) {f : Nat} {r : MT} : ∀ (n : Nat) (x1 : Int32) (x3 : Int32) (u : MT), B_X1_workTo_24 w f b ts n x1 x3 u = some r → V z g 4 24 [(0, .ref b), (1, .int x1), (3, .int x3)] [] w u 0 0 (Qv w r) := by
  intro n
  induction n with
  | zero =>
    intro x1 x3 u h
    rw [B_X1_workTo_24] at h
    cases h
  | succ n ih =>
    intro x1 x3 u h
    rw [B_X1_workTo_24] at h
    refine Viload_n C 2 (dAt D_X1_workTo 14 rfl) rfl rfl ?_
    refine Viload_n C 1 (dAt D_X1_workTo 15 rfl) rfl rfl ?_
    refine Vicmp_gt (tgt := 41) C (dAt D_X1_workTo 16 rfl) (by decide) (fun c7 => ?_) (fun c7 => ?_)
    · have h := ok_t c7 h
      refine Vaload_n C 0 (dAt D_X1_workTo 23 rfl) rfl rfl ?_
      refine Viload_n C 1 (dAt D_X1_workTo 24 rfl) rfl rfl ?_
      refine Viconst (x := 1) C (dAt D_X1_workTo 25 rfl) (by decide) ?_
      refine Viadd C (dAt D_X1_workTo 26 rfl) ?_
      refine VputI C (dAt D_X1_workTo 27 rfl) gf_X1_43 (hb).1 rfl rfl rfl rfl ?_
      cases h
      exact Vvret C (dAt D_X1_workTo 28 rfl) (by decide) (by decide) ⟨rfl, rfl, rfl⟩
    · have h := ok_f c7 h
      refine Vaload_n C 0 (dAt D_X1_workTo 17 rfl) rfl rfl ?_
      refine Viload_n C 2 (dAt D_X1_workTo 18 rfl) rfl rfl ?_
      refine Viconst (x := (-1)) C (dAt D_X1_workTo 19 rfl) (by decide) ?_
      obtain ⟨r9, e10, h⟩ := ok_b h
      refine VcallV (as := [_, _]) C (dAt D_X1_workTo 20 rfl) (m_X1_workAgain hL hb e10) yv_X1_60 (Or.inl ⟨(hb).1, by decide⟩) rfl rfl (Nat.le_of_ble_eq_true rfl) (by decide) (by decide) (by decide) (by decide) (Kvoid ?_)
      refine Viinc (j := 2) (v := _ + 1) (lv' := [(3, _), (0, _), (1, _)]) C (dAt D_X1_workTo 21 rfl) rfl rfl (by decide) rfl ?_
      refine Vgoto (tgt := 24) C (dAt D_X1_workTo 22 rfl) (by decide) ?_
      exact Vsub [1, 2, 0] rfl (ih _ _ _  h)
def F_X1_workTo (w : LT) (f : Nat) (b : Nat) (ts : Nat) (x1 : Int32) (x2 : Int32) (u : MT) : Option MT :=
  (F_X1_turnTo w f b ts x2 u).bind fun r1 =>
  if (gI r1 b 5) ≤ x1 then
    (F_X1_placeReadings f b ts x1 r1).bind fun r4 =>
    let v6 := (gI r4 b 5)
    B_X1_workTo_24 w f b ts f x1 v6 r4
  else
    some r1
theorem m_X1_workTo {g : GT} {w : LT} (hL : Lay w) {b : Nat} {ts : Nat} {x1 : Int32} {x2 : Int32} {f : Nat} {u : MT} {r : MT} (hb : isBk w b ts) (h : F_X1_workTo w f b ts x1 x2 u = some r) : Mt g yX1_workTo cX1_workTo 4 none 6 0 0 [.ref b, .int x1, .int x2] w u (Qv w r) := by
  refine Mt_of (own := RX1) (by decide +kernel) rfl (Nat.le_of_ble_eq_true rfl) (fun z C _ => ?_)
  show V z g 4 0 [(0, .ref b), (1, .int x1), (2, .int x2)] [] w u 0 0 (Qv w r)
  rw [F_X1_workTo] at h
  refine Vaload_n C 0 (dAt D_X1_workTo 0 rfl) rfl rfl ?_
  refine Viload_n C 2 (dAt D_X1_workTo 1 rfl) rfl rfl ?_
  obtain ⟨r1, e2, h⟩ := ok_b h
  refine VcallV (as := [_]) C (dAt D_X1_workTo 2 rfl) (m_X1_turnTo hL hb e2) yv_X1_53 (Or.inl ⟨(hb).1, by decide⟩) rfl rfl (Nat.le_of_ble_eq_true rfl) (by decide) (by decide) (by decide) (by decide) (Kvoid ?_)
  refine Viload_n C 1 (dAt D_X1_workTo 3 rfl) rfl rfl ?_
  refine Vaload_n C 0 (dAt D_X1_workTo 4 rfl) rfl rfl ?_
  refine VgetI C (dAt D_X1_workTo 5 rfl) gf_X1_43 (hb).1 rfl ?_
  refine Vicmp_ge (tgt := 14) C (dAt D_X1_workTo 6 rfl) (by decide) (fun c3 => ?_) (fun c3 => ?_)
  · have h := ok_t c3 h
    refine Vaload_n C 0 (dAt D_X1_workTo 8 rfl) rfl rfl ?_
    refine Viload_n C 1 (dAt D_X1_workTo 9 rfl) rfl rfl ?_
    obtain ⟨r4, e5, h⟩ := ok_b h
    refine VcallV (as := [_]) C (dAt D_X1_workTo 10 rfl) (m_X1_placeReadings hL hb e5) yv_X1_57 (Or.inl ⟨(hb).1, by decide⟩) rfl rfl (Nat.le_of_ble_eq_true rfl) (by decide) (by decide) (by decide) (by decide) (Kvoid ?_)
    refine Vaload_n C 0 (dAt D_X1_workTo 11 rfl) rfl rfl ?_
    refine VgetI C (dAt D_X1_workTo 12 rfl) gf_X1_43 (hb).1 rfl ?_
    refine Vistore_n (lv' := [(3, _), (0, _), (1, _), (2, _)]) C (dAt D_X1_workTo 13 rfl) rfl (by decide) rfl ?_
    exact Vsub [1, 2, 0] rfl (w_X1_workTo_24 hL hb C  f _ _ _  h)
  · have h := ok_f c3 h
    cases h
    exact Vvret C (dAt D_X1_workTo 7 rfl) (by decide) (by decide) ⟨rfl, rfl, rfl⟩
def F_X1_own (f : Nat) (b : Nat) (ts : Nat) (x1 : Int32) (u : MT) : Option (Int32 × MT) :=
  (F_X1_wants f b ts x1 u).bind fun r1 =>
  (F_X1_gives f b ts x1 r1.2).bind fun r3 =>
  some ((if r3.1 < r1.1 then r3.1 else r1.1), r3.2)
theorem m_X1_own {g : GT} {w : LT} (hL : Lay w) {b : Nat} {ts : Nat} {x1 : Int32} {f : Nat} {u : MT} {r : (Int32 × MT)} (hb : isBk w b ts) (h : F_X1_own f b ts x1 u = some r) : Mt g yX1_own cX1_own 2 (some .int) 1 0 0 [.ref b, .int x1] w u (Qi r.1 w r.2) := by
  refine Mt_of (own := RX1) (by decide +kernel) rfl (Nat.le_of_ble_eq_true rfl) (fun z C _ => ?_)
  show V z g 2 0 [(0, .ref b), (1, .int x1)] [] w u 0 0 (Qi r.1 w r.2)
  rw [F_X1_own] at h
  refine Vaload_n C 0 (dAt D_X1_own 0 rfl) rfl rfl ?_
  refine Viload_n C 1 (dAt D_X1_own 1 rfl) rfl rfl ?_
  obtain ⟨r1, e2, h⟩ := ok_b h
  refine VcallV (as := [_]) C (dAt D_X1_own 2 rfl) (m_X1_wants hL hb e2) yv_X1_133 (Or.inl ⟨(hb).1, by decide⟩) rfl rfl (Nat.le_of_ble_eq_true rfl) (by decide) (by decide) (by decide) (by decide) (Kint ?_)
  refine Vaload_n C 0 (dAt D_X1_own 3 rfl) rfl rfl ?_
  refine Viload_n C 1 (dAt D_X1_own 4 rfl) rfl rfl ?_
  obtain ⟨r3, e4, h⟩ := ok_b h
  refine VcallV (as := [_]) C (dAt D_X1_own 5 rfl) (m_X1_gives hL hb e4) yv_X1_137 (Or.inl ⟨(hb).1, by decide⟩) rfl rfl (Nat.le_of_ble_eq_true rfl) (by decide) (by decide) (by decide) (by decide) (Kint ?_)
  refine Vmin C (dAt D_X1_own 6 rfl) gm_X1_47 mS_min mI mC_min (Nat.le_of_ble_eq_true rfl) (by decide) (by decide) (by decide) ?_
  cases h
  exact Viret C (dAt D_X1_own 7 rfl) (by decide) (by decide) ⟨rfl, rfl, rfl⟩
def F_X1_lacked (f : Nat) (b : Nat) (ts : Nat) (x1 : Int32) (u : MT) : Option (Int32 × MT) :=
  (F_X1_wants f b ts x1 u).bind fun r1 =>
  (F_X1_own f b ts x1 r1.2).bind fun r3 =>
  ck (ixo x1 2880) <|
  some ((((r1.1 - r3.1) - (gI r3.2 (b + 2) (x1).toNatClampNeg)) - (gI r3.2 (b + 3) (x1).toNatClampNeg)), r3.2)
theorem m_X1_lacked {g : GT} {w : LT} (hL : Lay w) {b : Nat} {ts : Nat} {x1 : Int32} {f : Nat} {u : MT} {r : (Int32 × MT)} (hb : isBk w b ts) (h : F_X1_lacked f b ts x1 u = some r) : Mt g yX1_lacked cX1_lacked 2 (some .int) 2 0 0 [.ref b, .int x1] w u (Qi r.1 w r.2) := by
  refine Mt_of (own := RX1) (by decide +kernel) rfl (Nat.le_of_ble_eq_true rfl) (fun z C _ => ?_)
  show V z g 2 0 [(0, .ref b), (1, .int x1)] [] w u 0 0 (Qi r.1 w r.2)
  rw [F_X1_lacked] at h
  refine Vaload_n C 0 (dAt D_X1_lacked 0 rfl) rfl rfl ?_
  refine Viload_n C 1 (dAt D_X1_lacked 1 rfl) rfl rfl ?_
  obtain ⟨r1, e2, h⟩ := ok_b h
  refine VcallV (as := [_]) C (dAt D_X1_lacked 2 rfl) (m_X1_wants hL hb e2) yv_X1_133 (Or.inl ⟨(hb).1, by decide⟩) rfl rfl (Nat.le_of_ble_eq_true rfl) (by decide) (by decide) (by decide) (by decide) (Kint ?_)
  refine Vaload_n C 0 (dAt D_X1_lacked 3 rfl) rfl rfl ?_
  refine Viload_n C 1 (dAt D_X1_lacked 4 rfl) rfl rfl ?_
  obtain ⟨r3, e4, h⟩ := ok_b h
  refine VcallV (as := [_]) C (dAt D_X1_lacked 5 rfl) (m_X1_own hL hb e4) yv_X1_152 (Or.inl ⟨(hb).1, by decide⟩) rfl rfl (Nat.le_of_ble_eq_true rfl) (by decide) (by decide) (by decide) (by decide) (Kint ?_)
  refine Visub C (dAt D_X1_lacked 6 rfl) ?_
  refine Vaload_n C 0 (dAt D_X1_lacked 7 rfl) rfl rfl ?_
  refine VgetP C (dAt D_X1_lacked 8 rfl) gf_X1_15 (hb).1 rfl (hb).2.2.2.2.2.2.1.1 ?_
  refine Viload_n C 1 (dAt D_X1_lacked 9 rfl) rfl rfl ?_
  obtain ⟨c5, h⟩ := ok_ck h
  refine Viald C (dAt D_X1_lacked 10 rfl) (hb).2.2.2.2.2.2.1.2.1 (hb).2.2.2.2.2.2.1.2.2 (vp_in_iff.mpr c5) ?_
  refine Visub C (dAt D_X1_lacked 11 rfl) ?_
  refine Vaload_n C 0 (dAt D_X1_lacked 12 rfl) rfl rfl ?_
  refine VgetP C (dAt D_X1_lacked 13 rfl) gf_X1_18 (hb).1 rfl (hb).2.2.2.2.2.2.2.1.1 ?_
  refine Viload_n C 1 (dAt D_X1_lacked 14 rfl) rfl rfl ?_
  refine Viald C (dAt D_X1_lacked 15 rfl) (hb).2.2.2.2.2.2.2.1.2.1 (hb).2.2.2.2.2.2.2.1.2.2 (vp_in_iff.mpr c5) ?_
  refine Visub C (dAt D_X1_lacked 16 rfl) ?_
  cases h
  exact Viret C (dAt D_X1_lacked 17 rfl) (by decide) (by decide) ⟨rfl, rfl, rfl⟩
def F_X1_bought (f : Nat) (b : Nat) (ts : Nat) (x1 : Int32) (x2 : Int32) (u : MT) : Option (Int32 × MT) :=
  (F_X1_lacked f b ts x2 u).bind fun r1 =>
  ck (ixo x1 12) <|
  ck (ixo x2 2880) <|
  some ((if (((gI r1.2 103 (x1).toNatClampNeg) - (gI r1.2 (b + 2) (x2).toNatClampNeg)) - (gI r1.2 (b + 3) (x2).toNatClampNeg)) < r1.1 then (((gI r1.2 103 (x1).toNatClampNeg) - (gI r1.2 (b + 2) (x2).toNatClampNeg)) - (gI r1.2 (b + 3) (x2).toNatClampNeg)) else r1.1), r1.2)
theorem m_X1_bought {g : GT} {w : LT} (hL : Lay w) {b : Nat} {ts : Nat} {x1 : Int32} {x2 : Int32} {f : Nat} {u : MT} {r : (Int32 × MT)} (hb : isBk w b ts) (h : F_X1_bought f b ts x1 x2 u = some r) : Mt g yX1_bought cX1_bought 3 (some .int) 3 0 0 [.ref b, .int x1, .int x2] w u (Qi r.1 w r.2) := by
  refine Mt_of (own := RX1) (by decide +kernel) rfl (Nat.le_of_ble_eq_true rfl) (fun z C _ => ?_)
  show V z g 3 0 [(0, .ref b), (1, .int x1), (2, .int x2)] [] w u 0 0 (Qi r.1 w r.2)
  rw [F_X1_bought] at h
  refine Vaload_n C 0 (dAt D_X1_bought 0 rfl) rfl rfl ?_
  refine Viload_n C 2 (dAt D_X1_bought 1 rfl) rfl rfl ?_
  obtain ⟨r1, e2, h⟩ := ok_b h
  refine VcallV (as := [_]) C (dAt D_X1_bought 2 rfl) (m_X1_lacked hL hb e2) yv_X1_158 (Or.inl ⟨(hb).1, by decide⟩) rfl rfl (Nat.le_of_ble_eq_true rfl) (by decide) (by decide) (by decide) (by decide) (Kint ?_)
  refine Vaload_n C 0 (dAt D_X1_bought 3 rfl) rfl rfl ?_
  refine VgetP C (dAt D_X1_bought 4 rfl) gf_X1_27 (hb).1 rfl (hb).2.1 ?_
  refine VgetP C (dAt D_X1_bought 5 rfl) gf_X1_172 (kt_101 hL) rfl (kp_101_1 hL) ?_
  refine Viload_n C 1 (dAt D_X1_bought 6 rfl) rfl rfl ?_
  obtain ⟨c3, h⟩ := ok_ck h
  refine Viald C (dAt D_X1_bought 7 rfl) (kt_103 hL) (kl_103 hL) (vp_in_iff.mpr c3) ?_
  refine Vaload_n C 0 (dAt D_X1_bought 8 rfl) rfl rfl ?_
  refine VgetP C (dAt D_X1_bought 9 rfl) gf_X1_15 (hb).1 rfl (hb).2.2.2.2.2.2.1.1 ?_
  refine Viload_n C 2 (dAt D_X1_bought 10 rfl) rfl rfl ?_
  obtain ⟨c4, h⟩ := ok_ck h
  refine Viald C (dAt D_X1_bought 11 rfl) (hb).2.2.2.2.2.2.1.2.1 (hb).2.2.2.2.2.2.1.2.2 (vp_in_iff.mpr c4) ?_
  refine Visub C (dAt D_X1_bought 12 rfl) ?_
  refine Vaload_n C 0 (dAt D_X1_bought 13 rfl) rfl rfl ?_
  refine VgetP C (dAt D_X1_bought 14 rfl) gf_X1_18 (hb).1 rfl (hb).2.2.2.2.2.2.2.1.1 ?_
  refine Viload_n C 2 (dAt D_X1_bought 15 rfl) rfl rfl ?_
  refine Viald C (dAt D_X1_bought 16 rfl) (hb).2.2.2.2.2.2.2.1.2.1 (hb).2.2.2.2.2.2.2.1.2.2 (vp_in_iff.mpr c4) ?_
  refine Visub C (dAt D_X1_bought 17 rfl) ?_
  refine Vmin C (dAt D_X1_bought 18 rfl) gm_X1_47 mS_min mI mC_min (Nat.le_of_ble_eq_true rfl) (by decide) (by decide) (by decide) ?_
  cases h
  exact Viret C (dAt D_X1_bought 19 rfl) (by decide) (by decide) ⟨rfl, rfl, rfl⟩
def B_X1_isInDoubt_28 (f : Nat) (b : Nat) (ts : Nat) (u : MT) : Option (Int32 × MT) :=
  some ((1 : Int32), u)
theorem w_X1_isInDoubt_28 {z : ZT} {g : GT} {w : LT} (hL : Lay w) {b : Nat} {ts : Nat} (hb : isBk w b ts) (C : Cx z g cX1_isInDoubt 3 RX1 (some .boolean) 0 0 0) {f : Nat} {r : (Int32 × MT)} {u : MT} (h : B_X1_isInDoubt_28 f b ts  u = some r) : V z g 3 28 [] [] w u 0 0 (Qi r.1 w r.2) := by
  rw [B_X1_isInDoubt_28] at h
  refine Viconst (x := 1) C (dAt D_X1_isInDoubt 16 rfl) (by decide) ?_
  refine Vgoto (tgt := 33) C (dAt D_X1_isInDoubt 17 rfl) (by decide) ?_
  cases h
  exact Vzret C (dAt D_X1_isInDoubt 19 rfl) rfl (by decide) (by decide) ⟨rfl, rfl, rfl⟩
def F_X1_isInDoubt (f : Nat) (b : Nat) (ts : Nat) (x1 : Int32) (x2 : Int32) (u : MT) : Option (Int32 × MT) :=
  ck (ixo x1 2880) <|
  if (gI u (b + 1) (x1).toNatClampNeg) = (-1 : Int32) then
    B_X1_isInDoubt_28 f b ts u
  else
    ck (ixo (gI u (b + 1) (x1).toNatClampNeg) 400) <|
    if (gI u 106 ((gI u (b + 1) (x1).toNatClampNeg)).toNatClampNeg) = x2 then
      some ((0 : Int32), u)
    else
      B_X1_isInDoubt_28 f b ts u
theorem m_X1_isInDoubt {g : GT} {w : LT} (hL : Lay w) {b : Nat} {ts : Nat} {x1 : Int32} {x2 : Int32} {f : Nat} {u : MT} {r : (Int32 × MT)} (hb : isBk w b ts) (h : F_X1_isInDoubt f b ts x1 x2 u = some r) : Mt g yX1_isInDoubt cX1_isInDoubt 3 (some .boolean) 0 0 0 [.ref b, .int x1, .int x2] w u (Qi r.1 w r.2) := by
  refine Mt_of (own := RX1) (by decide +kernel) rfl (Nat.le_of_ble_eq_true rfl) (fun z C _ => ?_)
  show V z g 3 0 [(0, .ref b), (1, .int x1), (2, .int x2)] [] w u 0 0 (Qi r.1 w r.2)
  rw [F_X1_isInDoubt] at h
  refine Vaload_n C 0 (dAt D_X1_isInDoubt 0 rfl) rfl rfl ?_
  refine VgetP C (dAt D_X1_isInDoubt 1 rfl) gf_X1_9 (hb).1 rfl (hb).2.2.2.2.2.1.1 ?_
  refine Viload_n C 1 (dAt D_X1_isInDoubt 2 rfl) rfl rfl ?_
  obtain ⟨c1, h⟩ := ok_ck h
  refine Viald C (dAt D_X1_isInDoubt 3 rfl) (hb).2.2.2.2.2.1.2.1 (hb).2.2.2.2.2.1.2.2 (vp_in_iff.mpr c1) ?_
  refine Viconst (x := (-1)) C (dAt D_X1_isInDoubt 4 rfl) (by decide) ?_
  refine Vicmp_eq (tgt := 28) C (dAt D_X1_isInDoubt 5 rfl) (by decide) (fun c2 => ?_) (fun c2 => ?_)
  · have h := ok_t c2 h
    exact Vsub [] rfl (w_X1_isInDoubt_28 hL hb C  h)
  · have h := ok_f c2 h
    refine Vaload_n C 0 (dAt D_X1_isInDoubt 6 rfl) rfl rfl ?_
    refine VgetP C (dAt D_X1_isInDoubt 7 rfl) gf_X1_31 (hb).1 rfl (hb).2.2.1 ?_
    refine VgetP C (dAt D_X1_isInDoubt 8 rfl) gf_X1_90 (kt_104 hL) rfl (kp_104_1 hL) ?_
    refine Vaload_n C 0 (dAt D_X1_isInDoubt 9 rfl) rfl rfl ?_
    refine VgetP C (dAt D_X1_isInDoubt 10 rfl) gf_X1_9 (hb).1 rfl (hb).2.2.2.2.2.1.1 ?_
    refine Viload_n C 1 (dAt D_X1_isInDoubt 11 rfl) rfl rfl ?_
    refine Viald C (dAt D_X1_isInDoubt 12 rfl) (hb).2.2.2.2.2.1.2.1 (hb).2.2.2.2.2.1.2.2 (vp_in_iff.mpr c1) ?_
    obtain ⟨c3, h⟩ := ok_ck h
    refine Viald C (dAt D_X1_isInDoubt 13 rfl) (kt_106 hL) (kl_106 hL) (vp_in_iff.mpr c3) ?_
    refine Viload_n C 2 (dAt D_X1_isInDoubt 14 rfl) rfl rfl ?_
    refine Vicmp_eq (tgt := 32) C (dAt D_X1_isInDoubt 15 rfl) (by decide) (fun c4 => ?_) (fun c4 => ?_)
    · have h := ok_t c4 h
      refine Viconst (x := 0) C (dAt D_X1_isInDoubt 18 rfl) (by decide) ?_
      cases h
      exact Vzret C (dAt D_X1_isInDoubt 19 rfl) rfl (by decide) (by decide) ⟨rfl, rfl, rfl⟩
    · have h := ok_f c4 h
      exact Vsub [] rfl (w_X1_isInDoubt_28 hL hb C  h)
def F_X1_coins (f : Nat) (b : Nat) (ts : Nat) (x1 : Int32) (x2 : Int32) (u : MT) : Option (Int32 × MT) :=
  (F_X1_cell f x1 x2 u).bind fun r1 =>
  (F_X1_gives f b ts r1.1 r1.2).bind fun r3 =>
  (F_X1_own f b ts r1.1 r3.2).bind fun r5 =>
  let v7 := (r3.1 - r5.1)
  ck (ixo r1.1 2880) <|
  (F_X1_sum f b ts x2 (10 : Int32) r5.2).bind fun r9 =>
  (F_X1_sum f b ts x2 (11 : Int32) r9.2).bind fun r11 =>
  (F_X1_bought f b ts x1 r1.1 r11.2).bind fun r13 =>
  (F_X1_sum f b ts x2 (12 : Int32) r13.2).bind fun r15 =>
  some ((((((gI r5.2 (b + 2) (r1.1).toNatClampNeg) - v7) * r9.1) + ((gI r9.2 (b + 3) (r1.1).toNatClampNeg) * r11.1)) + (r13.1 * r15.1)), r15.2)
theorem m_X1_coins {g : GT} {w : LT} (hL : Lay w) {b : Nat} {ts : Nat} {x1 : Int32} {x2 : Int32} {f : Nat} {u : MT} {r : (Int32 × MT)} (hb : isBk w b ts) (h : F_X1_coins f b ts x1 x2 u = some r) : Mt g yX1_coins cX1_coins 5 (some .int) 4 0 0 [.ref b, .int x1, .int x2] w u (Qi r.1 w r.2) := by
  refine Mt_of (own := RX1) (by decide +kernel) rfl (Nat.le_of_ble_eq_true rfl) (fun z C _ => ?_)
  show V z g 5 0 [(0, .ref b), (1, .int x1), (2, .int x2)] [] w u 0 0 (Qi r.1 w r.2)
  rw [F_X1_coins] at h
  refine Viload_n C 1 (dAt D_X1_coins 0 rfl) rfl rfl ?_
  refine Viload_n C 2 (dAt D_X1_coins 1 rfl) rfl rfl ?_
  obtain ⟨r1, e2, h⟩ := ok_b h
  refine VcallS (as := [_, _]) C (dAt D_X1_coins 2 rfl) (m_X1_cell hL e2) yb_X1_81 ys_X1_81 rfl rfl (Nat.le_of_ble_eq_true rfl) (by decide) (by decide) (by decide) (by decide) (Kint ?_)
  refine Vistore_n (lv' := [(3, _), (0, _), (1, _), (2, _)]) C (dAt D_X1_coins 3 rfl) rfl (by decide) rfl ?_
  refine Vaload_n C 1 (dAt D_X1_coins 4 rfl) rfl rfl ?_
  refine Viload_n C 0 (dAt D_X1_coins 5 rfl) rfl rfl ?_
  obtain ⟨r3, e4, h⟩ := ok_b h
  refine VcallV (as := [_]) C (dAt D_X1_coins 6 rfl) (m_X1_gives hL hb e4) yv_X1_137 (Or.inl ⟨(hb).1, by decide⟩) rfl rfl (Nat.le_of_ble_eq_true rfl) (by decide) (by decide) (by decide) (by decide) (Kint ?_)
  refine Vaload_n C 1 (dAt D_X1_coins 7 rfl) rfl rfl ?_
  refine Viload_n C 0 (dAt D_X1_coins 8 rfl) rfl rfl ?_
  obtain ⟨r5, e6, h⟩ := ok_b h
  refine VcallV (as := [_]) C (dAt D_X1_coins 9 rfl) (m_X1_own hL hb e6) yv_X1_152 (Or.inl ⟨(hb).1, by decide⟩) rfl rfl (Nat.le_of_ble_eq_true rfl) (by decide) (by decide) (by decide) (by decide) (Kint ?_)
  refine Visub C (dAt D_X1_coins 10 rfl) ?_
  refine Vistore (lv' := [(4, _), (3, _), (0, _), (1, _), (2, _)]) C (dAt D_X1_coins 11 rfl) (by decide) rfl ?_
  refine Vaload_n C 2 (dAt D_X1_coins 12 rfl) rfl rfl ?_
  refine VgetP C (dAt D_X1_coins 13 rfl) gf_X1_15 (hb).1 rfl (hb).2.2.2.2.2.2.1.1 ?_
  refine Viload_n C 1 (dAt D_X1_coins 14 rfl) rfl rfl ?_
  obtain ⟨c8, h⟩ := ok_ck h
  refine Viald C (dAt D_X1_coins 15 rfl) (hb).2.2.2.2.2.2.1.2.1 (hb).2.2.2.2.2.2.1.2.2 (vp_in_iff.mpr c8) ?_
  refine Viload C 0 (dAt D_X1_coins 16 rfl) rfl ?_
  refine Visub C (dAt D_X1_coins 17 rfl) ?_
  refine Vaload_n C 2 (dAt D_X1_coins 18 rfl) rfl rfl ?_
  refine Viload_n C 4 (dAt D_X1_coins 19 rfl) rfl rfl ?_
  refine Vbipush (x := 10) C (dAt D_X1_coins 20 rfl) (by decide) ?_
  obtain ⟨r9, e10, h⟩ := ok_b h
  refine VcallV (as := [_, _]) C (dAt D_X1_coins 21 rfl) (m_X1_sum hL hb e10) yv_X1_100 (Or.inl ⟨(hb).1, by decide⟩) rfl rfl (Nat.le_of_ble_eq_true rfl) (by decide) (by decide) (by decide) (by decide) (Kint ?_)
  refine Vimul C (dAt D_X1_coins 22 rfl) ?_
  refine Vaload_n C 2 (dAt D_X1_coins 23 rfl) rfl rfl ?_
  refine VgetP C (dAt D_X1_coins 24 rfl) gf_X1_18 (hb).1 rfl (hb).2.2.2.2.2.2.2.1.1 ?_
  refine Viload_n C 1 (dAt D_X1_coins 25 rfl) rfl rfl ?_
  refine Viald C (dAt D_X1_coins 26 rfl) (hb).2.2.2.2.2.2.2.1.2.1 (hb).2.2.2.2.2.2.2.1.2.2 (vp_in_iff.mpr c8) ?_
  refine Vaload_n C 2 (dAt D_X1_coins 27 rfl) rfl rfl ?_
  refine Viload_n C 4 (dAt D_X1_coins 28 rfl) rfl rfl ?_
  refine Vbipush (x := 11) C (dAt D_X1_coins 29 rfl) (by decide) ?_
  obtain ⟨r11, e12, h⟩ := ok_b h
  refine VcallV (as := [_, _]) C (dAt D_X1_coins 30 rfl) (m_X1_sum hL hb e12) yv_X1_100 (Or.inl ⟨(hb).1, by decide⟩) rfl rfl (Nat.le_of_ble_eq_true rfl) (by decide) (by decide) (by decide) (by decide) (Kint ?_)
  refine Vimul C (dAt D_X1_coins 31 rfl) ?_
  refine Viadd C (dAt D_X1_coins 32 rfl) ?_
  refine Vaload_n C 2 (dAt D_X1_coins 33 rfl) rfl rfl ?_
  refine Viload_n C 3 (dAt D_X1_coins 34 rfl) rfl rfl ?_
  refine Viload_n C 1 (dAt D_X1_coins 35 rfl) rfl rfl ?_
  obtain ⟨r13, e14, h⟩ := ok_b h
  refine VcallV (as := [_, _]) C (dAt D_X1_coins 36 rfl) (m_X1_bought hL hb e14) yv_X1_155 (Or.inl ⟨(hb).1, by decide⟩) rfl rfl (Nat.le_of_ble_eq_true rfl) (by decide) (by decide) (by decide) (by decide) (Kint ?_)
  refine Vaload_n C 2 (dAt D_X1_coins 37 rfl) rfl rfl ?_
  refine Viload_n C 4 (dAt D_X1_coins 38 rfl) rfl rfl ?_
  refine Vbipush (x := 12) C (dAt D_X1_coins 39 rfl) (by decide) ?_
  obtain ⟨r15, e16, h⟩ := ok_b h
  refine VcallV (as := [_, _]) C (dAt D_X1_coins 40 rfl) (m_X1_sum hL hb e16) yv_X1_100 (Or.inl ⟨(hb).1, by decide⟩) rfl rfl (Nat.le_of_ble_eq_true rfl) (by decide) (by decide) (by decide) (by decide) (Kint ?_)
  refine Vimul C (dAt D_X1_coins 41 rfl) ?_
  refine Viadd C (dAt D_X1_coins 42 rfl) ?_
  cases h
  exact Viret C (dAt D_X1_coins 43 rfl) (by decide) (by decide) ⟨rfl, rfl, rfl⟩
def F_X1_ofHouse (f : Nat) (b : Nat) (ts : Nat) (x1 : Int32) (x2 : Int32) (x3 : Int32) (u : MT) : Option (Int32 × MT) :=
  (F_X1_cell f x1 x2 u).bind fun r1 =>
  if x3 = 0 then
    (F_X1_wants f b ts r1.1 r1.2).bind fun r4 =>
    some (r4.1, r4.2)
  else
  if x3 = 1 then
    (F_X1_gives f b ts r1.1 r1.2).bind fun r7 =>
    some (r7.1, r7.2)
  else
  if x3 = 2 then
    (F_X1_own f b ts r1.1 r1.2).bind fun r10 =>
    some (r10.1, r10.2)
  else
  if x3 = 3 then
    ck (ixo r1.1 2880) <|
    some ((gI r1.2 (b + 2) (r1.1).toNatClampNeg), r1.2)
  else
  if x3 = 4 then
    ck (ixo r1.1 2880) <|
    some ((gI r1.2 (b + 3) (r1.1).toNatClampNeg), r1.2)
  else
  if x3 = 5 then
    (F_X1_bought f b ts x1 r1.1 r1.2).bind fun r17 =>
    some (r17.1, r17.2)
  else
  if x3 = 6 then
    (F_X1_lacked f b ts r1.1 r1.2).bind fun r20 =>
    (F_X1_bought f b ts x1 r1.1 r20.2).bind fun r22 =>
    some ((r20.1 - r22.1), r22.2)
  else
  if x3 = 7 then
    (F_X1_isInDoubt f b ts r1.1 x2 r1.2).bind fun r25 =>
    if r25.1 = 0 then
      some ((0 : Int32), r25.2)
    else
      some ((1 : Int32), r25.2)
  else
  (F_X1_coins f b ts x1 x2 r1.2).bind fun r28 =>
  some (r28.1, r28.2)
theorem m_X1_ofHouse {g : GT} {w : LT} (hL : Lay w) {b : Nat} {ts : Nat} {x1 : Int32} {x2 : Int32} {x3 : Int32} {f : Nat} {u : MT} {r : (Int32 × MT)} (hb : isBk w b ts) (h : F_X1_ofHouse f b ts x1 x2 x3 u = some r) : Mt g yX1_ofHouse cX1_ofHouse 5 (some .int) 5 0 0 [.ref b, .int x1, .int x2, .int x3] w u (Qi r.1 w r.2) := by
  refine Mt_of (own := RX1) (by decide +kernel) rfl (Nat.le_of_ble_eq_true rfl) (fun z C _ => ?_)
  show V z g 5 0 [(0, .ref b), (1, .int x1), (2, .int x2), (3, .int x3)] [] w u 0 0 (Qi r.1 w r.2)
  rw [F_X1_ofHouse] at h
  refine Viload_n C 1 (dAt D_X1_ofHouse 0 rfl) rfl rfl ?_
  refine Viload_n C 2 (dAt D_X1_ofHouse 1 rfl) rfl rfl ?_
  obtain ⟨r1, e2, h⟩ := ok_b h
  refine VcallS (as := [_, _]) C (dAt D_X1_ofHouse 2 rfl) (m_X1_cell hL e2) yb_X1_81 ys_X1_81 rfl rfl (Nat.le_of_ble_eq_true rfl) (by decide) (by decide) (by decide) (by decide) (Kint ?_)
  refine Vistore (lv' := [(4, _), (0, _), (1, _), (2, _), (3, _)]) C (dAt D_X1_ofHouse 3 rfl) (by decide) rfl ?_
  refine Viload_n C 4 (dAt D_X1_ofHouse 4 rfl) rfl rfl ?_
  by_cases c3 : x3 = 0
  · have h := ok_t c3 h
    refine VtableIn (off := 48) (tgt := 56) C (dAt D_X1_ofHouse 5 rfl) (by rw [c3]; decide) (by rw [c3]; decide) (by rw [c3]; rfl) (by decide) ?_
    refine Vaload_n C 1 (dAt D_X1_ofHouse 6 rfl) rfl rfl ?_
    refine Viload C 0 (dAt D_X1_ofHouse 7 rfl) rfl ?_
    obtain ⟨r4, e5, h⟩ := ok_b h
    refine VcallV (as := [_]) C (dAt D_X1_ofHouse 8 rfl) (m_X1_wants hL hb e5) yv_X1_133 (Or.inl ⟨(hb).1, by decide⟩) rfl rfl (Nat.le_of_ble_eq_true rfl) (by decide) (by decide) (by decide) (by decide) (Kint ?_)
    cases h
    exact Viret C (dAt D_X1_ofHouse 9 rfl) (by decide) (by decide) ⟨rfl, rfl, rfl⟩
  have h := ok_f c3 h
  by_cases c6 : x3 = 1
  · have h := ok_t c6 h
    refine VtableIn (off := 55) (tgt := 63) C (dAt D_X1_ofHouse 5 rfl) (by rw [c6]; decide) (by rw [c6]; decide) (by rw [c6]; rfl) (by decide) ?_
    refine Vaload_n C 1 (dAt D_X1_ofHouse 10 rfl) rfl rfl ?_
    refine Viload C 0 (dAt D_X1_ofHouse 11 rfl) rfl ?_
    obtain ⟨r7, e8, h⟩ := ok_b h
    refine VcallV (as := [_]) C (dAt D_X1_ofHouse 12 rfl) (m_X1_gives hL hb e8) yv_X1_137 (Or.inl ⟨(hb).1, by decide⟩) rfl rfl (Nat.le_of_ble_eq_true rfl) (by decide) (by decide) (by decide) (by decide) (Kint ?_)
    cases h
    exact Viret C (dAt D_X1_ofHouse 13 rfl) (by decide) (by decide) ⟨rfl, rfl, rfl⟩
  have h := ok_f c6 h
  by_cases c9 : x3 = 2
  · have h := ok_t c9 h
    refine VtableIn (off := 62) (tgt := 70) C (dAt D_X1_ofHouse 5 rfl) (by rw [c9]; decide) (by rw [c9]; decide) (by rw [c9]; rfl) (by decide) ?_
    refine Vaload_n C 1 (dAt D_X1_ofHouse 14 rfl) rfl rfl ?_
    refine Viload C 0 (dAt D_X1_ofHouse 15 rfl) rfl ?_
    obtain ⟨r10, e11, h⟩ := ok_b h
    refine VcallV (as := [_]) C (dAt D_X1_ofHouse 16 rfl) (m_X1_own hL hb e11) yv_X1_152 (Or.inl ⟨(hb).1, by decide⟩) rfl rfl (Nat.le_of_ble_eq_true rfl) (by decide) (by decide) (by decide) (by decide) (Kint ?_)
    cases h
    exact Viret C (dAt D_X1_ofHouse 17 rfl) (by decide) (by decide) ⟨rfl, rfl, rfl⟩
  have h := ok_f c9 h
  by_cases c12 : x3 = 3
  · have h := ok_t c12 h
    refine VtableIn (off := 69) (tgt := 77) C (dAt D_X1_ofHouse 5 rfl) (by rw [c12]; decide) (by rw [c12]; decide) (by rw [c12]; rfl) (by decide) ?_
    refine Vaload_n C 1 (dAt D_X1_ofHouse 18 rfl) rfl rfl ?_
    refine VgetP C (dAt D_X1_ofHouse 19 rfl) gf_X1_15 (hb).1 rfl (hb).2.2.2.2.2.2.1.1 ?_
    refine Viload C 0 (dAt D_X1_ofHouse 20 rfl) rfl ?_
    obtain ⟨c13, h⟩ := ok_ck h
    refine Viald C (dAt D_X1_ofHouse 21 rfl) (hb).2.2.2.2.2.2.1.2.1 (hb).2.2.2.2.2.2.1.2.2 (vp_in_iff.mpr c13) ?_
    cases h
    exact Viret C (dAt D_X1_ofHouse 22 rfl) (by decide) (by decide) ⟨rfl, rfl, rfl⟩
  have h := ok_f c12 h
  by_cases c14 : x3 = 4
  · have h := ok_t c14 h
    refine VtableIn (off := 77) (tgt := 85) C (dAt D_X1_ofHouse 5 rfl) (by rw [c14]; decide) (by rw [c14]; decide) (by rw [c14]; rfl) (by decide) ?_
    refine Vaload_n C 1 (dAt D_X1_ofHouse 23 rfl) rfl rfl ?_
    refine VgetP C (dAt D_X1_ofHouse 24 rfl) gf_X1_18 (hb).1 rfl (hb).2.2.2.2.2.2.2.1.1 ?_
    refine Viload C 0 (dAt D_X1_ofHouse 25 rfl) rfl ?_
    obtain ⟨c15, h⟩ := ok_ck h
    refine Viald C (dAt D_X1_ofHouse 26 rfl) (hb).2.2.2.2.2.2.2.1.2.1 (hb).2.2.2.2.2.2.2.1.2.2 (vp_in_iff.mpr c15) ?_
    cases h
    exact Viret C (dAt D_X1_ofHouse 27 rfl) (by decide) (by decide) ⟨rfl, rfl, rfl⟩
  have h := ok_f c14 h
  by_cases c16 : x3 = 5
  · have h := ok_t c16 h
    refine VtableIn (off := 85) (tgt := 93) C (dAt D_X1_ofHouse 5 rfl) (by rw [c16]; decide) (by rw [c16]; decide) (by rw [c16]; rfl) (by decide) ?_
    refine Vaload_n C 1 (dAt D_X1_ofHouse 28 rfl) rfl rfl ?_
    refine Viload_n C 2 (dAt D_X1_ofHouse 29 rfl) rfl rfl ?_
    refine Viload C 0 (dAt D_X1_ofHouse 30 rfl) rfl ?_
    obtain ⟨r17, e18, h⟩ := ok_b h
    refine VcallV (as := [_, _]) C (dAt D_X1_ofHouse 31 rfl) (m_X1_bought hL hb e18) yv_X1_155 (Or.inl ⟨(hb).1, by decide⟩) rfl rfl (Nat.le_of_ble_eq_true rfl) (by decide) (by decide) (by decide) (by decide) (Kint ?_)
    cases h
    exact Viret C (dAt D_X1_ofHouse 32 rfl) (by decide) (by decide) ⟨rfl, rfl, rfl⟩
  have h := ok_f c16 h
  by_cases c19 : x3 = 6
  · have h := ok_t c19 h
    refine VtableIn (off := 93) (tgt := 101) C (dAt D_X1_ofHouse 5 rfl) (by rw [c19]; decide) (by rw [c19]; decide) (by rw [c19]; rfl) (by decide) ?_
    refine Vaload_n C 1 (dAt D_X1_ofHouse 33 rfl) rfl rfl ?_
    refine Viload C 0 (dAt D_X1_ofHouse 34 rfl) rfl ?_
    obtain ⟨r20, e21, h⟩ := ok_b h
    refine VcallV (as := [_]) C (dAt D_X1_ofHouse 35 rfl) (m_X1_lacked hL hb e21) yv_X1_158 (Or.inl ⟨(hb).1, by decide⟩) rfl rfl (Nat.le_of_ble_eq_true rfl) (by decide) (by decide) (by decide) (by decide) (Kint ?_)
    refine Vaload_n C 1 (dAt D_X1_ofHouse 36 rfl) rfl rfl ?_
    refine Viload_n C 2 (dAt D_X1_ofHouse 37 rfl) rfl rfl ?_
    refine Viload C 0 (dAt D_X1_ofHouse 38 rfl) rfl ?_
    obtain ⟨r22, e23, h⟩ := ok_b h
    refine VcallV (as := [_, _]) C (dAt D_X1_ofHouse 39 rfl) (m_X1_bought hL hb e23) yv_X1_155 (Or.inl ⟨(hb).1, by decide⟩) rfl rfl (Nat.le_of_ble_eq_true rfl) (by decide) (by decide) (by decide) (by decide) (Kint ?_)
    refine Visub C (dAt D_X1_ofHouse 40 rfl) ?_
    cases h
    exact Viret C (dAt D_X1_ofHouse 41 rfl) (by decide) (by decide) ⟨rfl, rfl, rfl⟩
  have h := ok_f c19 h
  by_cases c24 : x3 = 7
  · have h := ok_t c24 h
    refine VtableIn (off := 108) (tgt := 116) C (dAt D_X1_ofHouse 5 rfl) (by rw [c24]; decide) (by rw [c24]; decide) (by rw [c24]; rfl) (by decide) ?_
    refine Vaload_n C 1 (dAt D_X1_ofHouse 42 rfl) rfl rfl ?_
    refine Viload C 0 (dAt D_X1_ofHouse 43 rfl) rfl ?_
    refine Viload_n C 3 (dAt D_X1_ofHouse 44 rfl) rfl rfl ?_
    obtain ⟨r25, e26, h⟩ := ok_b h
    refine VcallV (as := [_, _]) C (dAt D_X1_ofHouse 45 rfl) (m_X1_isInDoubt hL hb e26) yv_X1_161 (Or.inl ⟨(hb).1, by decide⟩) rfl rfl (Nat.le_of_ble_eq_true rfl) (by decide) (by decide) (by decide) (by decide) (Kint ?_)
    refine Vif_eq (tgt := 130) C (dAt D_X1_ofHouse 46 rfl) (by decide) (fun c27 => ?_) (fun c27 => ?_)
    · have h := ok_t c27 h
      refine Viconst (x := 0) C (dAt D_X1_ofHouse 49 rfl) (by decide) ?_
      cases h
      exact Viret C (dAt D_X1_ofHouse 50 rfl) (by decide) (by decide) ⟨rfl, rfl, rfl⟩
    · have h := ok_f c27 h
      refine Viconst (x := 1) C (dAt D_X1_ofHouse 47 rfl) (by decide) ?_
      refine Vgoto (tgt := 131) C (dAt D_X1_ofHouse 48 rfl) (by decide) ?_
      cases h
      exact Viret C (dAt D_X1_ofHouse 50 rfl) (by decide) (by decide) ⟨rfl, rfl, rfl⟩
  have h := ok_f c24 h
  have qc3 : (x3).toInt ≠ 0 := fun q => c3 (Int32.toInt_inj.mp (q.trans (by decide)))
  have qc6 : (x3).toInt ≠ 1 := fun q => c6 (Int32.toInt_inj.mp (q.trans (by decide)))
  have qc9 : (x3).toInt ≠ 2 := fun q => c9 (Int32.toInt_inj.mp (q.trans (by decide)))
  have qc12 : (x3).toInt ≠ 3 := fun q => c12 (Int32.toInt_inj.mp (q.trans (by decide)))
  have qc14 : (x3).toInt ≠ 4 := fun q => c14 (Int32.toInt_inj.mp (q.trans (by decide)))
  have qc16 : (x3).toInt ≠ 5 := fun q => c16 (Int32.toInt_inj.mp (q.trans (by decide)))
  have qc19 : (x3).toInt ≠ 6 := fun q => c19 (Int32.toInt_inj.mp (q.trans (by decide)))
  have qc24 : (x3).toInt ≠ 7 := fun q => c24 (Int32.toInt_inj.mp (q.trans (by decide)))
  refine VtableOut (tgt := 132) C (dAt D_X1_ofHouse 5 rfl) (by omega) (by decide) ?_
  refine Vaload_n C 1 (dAt D_X1_ofHouse 51 rfl) rfl rfl ?_
  refine Viload_n C 2 (dAt D_X1_ofHouse 52 rfl) rfl rfl ?_
  refine Viload_n C 3 (dAt D_X1_ofHouse 53 rfl) rfl rfl ?_
  obtain ⟨r28, e29, h⟩ := ok_b h
  refine VcallV (as := [_, _]) C (dAt D_X1_ofHouse 54 rfl) (m_X1_coins hL hb e29) yv_X1_165 (Or.inl ⟨(hb).1, by decide⟩) rfl rfl (Nat.le_of_ble_eq_true rfl) (by decide) (by decide) (by decide) (by decide) (Kint ?_)
  cases h
  exact Viret C (dAt D_X1_ofHouse 55 rfl) (by decide) (by decide) ⟨rfl, rfl, rfl⟩
def F_X1_byRules (f : Nat) (b : Nat) (ts : Nat) (x1 : Int32) (x2 : Int32) (u : MT) : Option (Int32 × MT) :=
  (F_X1_cell f x1 x2 u).bind fun r1 =>
  ck (ixo r1.1 2880) <|
  some (((gI r1.2 (b + 2) (r1.1).toNatClampNeg) + (gI r1.2 (b + 3) (r1.1).toNatClampNeg)), r1.2)
theorem m_X1_byRules {g : GT} {w : LT} (hL : Lay w) {b : Nat} {ts : Nat} {x1 : Int32} {x2 : Int32} {f : Nat} {u : MT} {r : (Int32 × MT)} (hb : isBk w b ts) (h : F_X1_byRules f b ts x1 x2 u = some r) : Mt g yX1_byRules cX1_byRules 4 (some .int) 1 0 0 [.ref b, .int x1, .int x2] w u (Qi r.1 w r.2) := by
  refine Mt_of (own := RX1) (by decide +kernel) rfl (Nat.le_of_ble_eq_true rfl) (fun z C _ => ?_)
  show V z g 4 0 [(0, .ref b), (1, .int x1), (2, .int x2)] [] w u 0 0 (Qi r.1 w r.2)
  rw [F_X1_byRules] at h
  refine Viload_n C 1 (dAt D_X1_byRules 0 rfl) rfl rfl ?_
  refine Viload_n C 2 (dAt D_X1_byRules 1 rfl) rfl rfl ?_
  obtain ⟨r1, e2, h⟩ := ok_b h
  refine VcallS (as := [_, _]) C (dAt D_X1_byRules 2 rfl) (m_X1_cell hL e2) yb_X1_81 ys_X1_81 rfl rfl (Nat.le_of_ble_eq_true rfl) (by decide) (by decide) (by decide) (by decide) (Kint ?_)
  refine Vistore_n (lv' := [(3, _), (0, _), (1, _), (2, _)]) C (dAt D_X1_byRules 3 rfl) rfl (by decide) rfl ?_
  refine Vaload_n C 1 (dAt D_X1_byRules 4 rfl) rfl rfl ?_
  refine VgetP C (dAt D_X1_byRules 5 rfl) gf_X1_15 (hb).1 rfl (hb).2.2.2.2.2.2.1.1 ?_
  refine Viload_n C 0 (dAt D_X1_byRules 6 rfl) rfl rfl ?_
  obtain ⟨c3, h⟩ := ok_ck h
  refine Viald C (dAt D_X1_byRules 7 rfl) (hb).2.2.2.2.2.2.1.2.1 (hb).2.2.2.2.2.2.1.2.2 (vp_in_iff.mpr c3) ?_
  refine Vaload_n C 1 (dAt D_X1_byRules 8 rfl) rfl rfl ?_
  refine VgetP C (dAt D_X1_byRules 9 rfl) gf_X1_18 (hb).1 rfl (hb).2.2.2.2.2.2.2.1.1 ?_
  refine Viload_n C 0 (dAt D_X1_byRules 10 rfl) rfl rfl ?_
  refine Viald C (dAt D_X1_byRules 11 rfl) (hb).2.2.2.2.2.2.2.1.2.1 (hb).2.2.2.2.2.2.2.1.2.2 (vp_in_iff.mpr c3) ?_
  refine Viadd C (dAt D_X1_byRules 12 rfl) ?_
  cases h
  exact Viret C (dAt D_X1_byRules 13 rfl) (by decide) (by decide) ⟨rfl, rfl, rfl⟩
def B_X1_coinsUpTo_57 (f : Nat) (b : Nat) (ts : Nat) (j5 : Int32 → Int32 → Int32 → Int32 → MT → Option (Int32 × MT)) (x1 : Int32) (x2 : Int32) (x3 : Int32) (x4 : Int32) (u : MT) : Option (Int32 × MT) :=
  let v11 := x4 + 1
  j5 x1 x2 x3 v11 u
theorem w_X1_coinsUpTo_57 {z : ZT} {g : GT} {w : LT} (hL : Lay w) {b : Nat} {ts : Nat} (hb : isBk w b ts) (C : Cx z g cX1_coinsUpTo 5 RX1 (some .int) 5 0 0) {f : Nat} {r : (Int32 × MT)} {j5 : Int32 → Int32 → Int32 → Int32 → MT → Option (Int32 × MT)} (q5 : ∀ (x1 : Int32) (x2 : Int32) (x3 : Int32) (x4 : Int32) (u : MT), j5 x1 x2 x3 x4 u = some r → V z g 5 5 [(0, .ref b), (1, .int x1), (2, .int x2), (3, .int x3), (4, .int x4)] [] w u 0 0 (Qi r.1 w r.2)) {x1 : Int32} {x2 : Int32} {x3 : Int32} {x4 : Int32} {u : MT} (h : B_X1_coinsUpTo_57 f b ts j5 x1 x2 x3 x4 u = some r) : V z g 5 57 [(0, .ref b), (1, .int x1), (2, .int x2), (3, .int x3), (4, .int x4)] [] w u 0 0 (Qi r.1 w r.2) := by
  rw [B_X1_coinsUpTo_57] at h
  refine Viinc (j := 4) (v := _ + 1) (lv' := [(4, _), (0, _), (1, _), (2, _), (3, _)]) C (dAt D_X1_coinsUpTo 33 rfl) rfl rfl (by decide) rfl ?_
  refine Vgoto (tgt := 5) C (dAt D_X1_coinsUpTo 34 rfl) (by decide) ?_
  exact Vsub [1, 2, 3, 4, 0] rfl (q5 _ _ _ _ _  h)
def B_X1_coinsUpTo_55 (f : Nat) (b : Nat) (ts : Nat) (j5 : Int32 → Int32 → Int32 → Int32 → MT → Option (Int32 × MT)) (x1 : Int32) (x2 : Int32) (x4 : Int32) (s0 : Int32) (s1 : Int32) (u : MT) : Option (Int32 × MT) :=
  let v12 := (s1 + s0)
  B_X1_coinsUpTo_57 f b ts j5 x1 x2 v12 x4 u
theorem w_X1_coinsUpTo_55 {z : ZT} {g : GT} {w : LT} (hL : Lay w) {b : Nat} {ts : Nat} (hb : isBk w b ts) (C : Cx z g cX1_coinsUpTo 5 RX1 (some .int) 5 0 0) {f : Nat} {r : (Int32 × MT)} {j5 : Int32 → Int32 → Int32 → Int32 → MT → Option (Int32 × MT)} (q5 : ∀ (x1 : Int32) (x2 : Int32) (x3 : Int32) (x4 : Int32) (u : MT), j5 x1 x2 x3 x4 u = some r → V z g 5 5 [(0, .ref b), (1, .int x1), (2, .int x2), (3, .int x3), (4, .int x4)] [] w u 0 0 (Qi r.1 w r.2)) {x1 : Int32} {x2 : Int32} {x4 : Int32} {s0 : Int32} {s1 : Int32} {u : MT} (h : B_X1_coinsUpTo_55 f b ts j5 x1 x2 x4 s0 s1 u = some r) : V z g 5 55 [(0, .ref b), (1, .int x1), (2, .int x2), (4, .int x4)] [.int s0, .int s1] w u 0 0 (Qi r.1 w r.2) := by
  rw [B_X1_coinsUpTo_55] at h
  refine Viadd C (dAt D_X1_coinsUpTo 31 rfl) ?_
  refine Vistore_n (lv' := [(3, _), (0, _), (1, _), (2, _), (4, _)]) C (dAt D_X1_coinsUpTo 32 rfl) rfl (by decide) rfl ?_
  exact Vsub [1, 2, 3, 0, 4] rfl (w_X1_coinsUpTo_57 hL hb C q5  h)
def B_X1_coinsUpTo_5 (f : Nat) (b : Nat) (ts : Nat) : Nat → Int32 → Int32 → Int32 → Int32 → MT → Option (Int32 × MT)
  | 0, _, _, _, _, _ => none
  | n + 1, x1, x2, x3, x4, u =>
    if x2 ≤ x4 then
      some (x3, u)
    else
      if x1 = (-2 : Int32) then
        (F_X1_sum f b ts x4 (9 : Int32) u).bind fun r3 =>
        let v5 := (x3 + r3.1)
        B_X1_coinsUpTo_57 f b ts (fun x1' x2' x3' x4' u' => B_X1_coinsUpTo_5 f b ts n x1' x2' x3' x4' u') x1 x2 v5 x4 r3.2
      else
        if x1 = (-1 : Int32) then
          (F_X1_sum f b ts x4 (8 : Int32) u).bind fun r7 =>
          B_X1_coinsUpTo_55 f b ts (fun x1' x2' x3' x4' u' => B_X1_coinsUpTo_5 f b ts n x1' x2' x3' x4' u') x1 x2 x4 r7.1 x3 r7.2
        else
          (F_X1_coins f b ts x1 x4 u).bind fun r9 =>
          B_X1_coinsUpTo_55 f b ts (fun x1' x2' x3' x4' u' => B_X1_coinsUpTo_5 f b ts n x1' x2' x3' x4' u') x1 x2 x4 r9.1 x3 r9.2
theorem w_X1_coinsUpTo_5 {z : ZT} {g : GT} {w : LT} (hL : Lay w) {b : Nat} {ts : Nat} (hb : isBk w b ts) (C : Cx z g cX1_coinsUpTo 5 RX1 (some .int) 5 0 0) {f : Nat} {r : (Int32 × MT)} : ∀ (n : Nat) (x1 : Int32) (x2 : Int32) (x3 : Int32) (x4 : Int32) (u : MT), B_X1_coinsUpTo_5 f b ts n x1 x2 x3 x4 u = some r → V z g 5 5 [(0, .ref b), (1, .int x1), (2, .int x2), (3, .int x3), (4, .int x4)] [] w u 0 0 (Qi r.1 w r.2) := by
  intro n
  induction n with
  | zero =>
    intro x1 x2 x3 x4 u h
    rw [B_X1_coinsUpTo_5] at h
    cases h
  | succ n ih =>
    intro x1 x2 x3 x4 u h
    rw [B_X1_coinsUpTo_5] at h
    refine Viload C 4 (dAt D_X1_coinsUpTo 4 rfl) rfl ?_
    refine Viload_n C 2 (dAt D_X1_coinsUpTo 5 rfl) rfl rfl ?_
    refine Vicmp_ge (tgt := 63) C (dAt D_X1_coinsUpTo 6 rfl) (by decide) (fun c1 => ?_) (fun c1 => ?_)
    · have h := ok_t c1 h
      refine Viload_n C 3 (dAt D_X1_coinsUpTo 35 rfl) rfl rfl ?_
      cases h
      exact Viret C (dAt D_X1_coinsUpTo 36 rfl) (by decide) (by decide) ⟨rfl, rfl, rfl⟩
    · have h := ok_f c1 h
      refine Viload_n C 1 (dAt D_X1_coinsUpTo 7 rfl) rfl rfl ?_
      refine Vbipush (x := (-2)) C (dAt D_X1_coinsUpTo 8 rfl) (by decide) ?_
      refine Vicmp_ne (tgt := 31) C (dAt D_X1_coinsUpTo 9 rfl) (by decide) (fun c2 => ?_) (fun c2 => ?_)
      · have h := ok_f c2 h
        refine Viload_n C 3 (dAt D_X1_coinsUpTo 18 rfl) rfl rfl ?_
        refine Viload_n C 1 (dAt D_X1_coinsUpTo 19 rfl) rfl rfl ?_
        refine Viconst (x := (-1)) C (dAt D_X1_coinsUpTo 20 rfl) (by decide) ?_
        refine Vicmp_ne (tgt := 48) C (dAt D_X1_coinsUpTo 21 rfl) (by decide) (fun c6 => ?_) (fun c6 => ?_)
        · have h := ok_f c6 h
          refine Vaload_n C 0 (dAt D_X1_coinsUpTo 27 rfl) rfl rfl ?_
          refine Viload_n C 1 (dAt D_X1_coinsUpTo 28 rfl) rfl rfl ?_
          refine Viload C 4 (dAt D_X1_coinsUpTo 29 rfl) rfl ?_
          obtain ⟨r9, e10, h⟩ := ok_b h
          refine VcallV (as := [_, _]) C (dAt D_X1_coinsUpTo 30 rfl) (m_X1_coins hL hb e10) yv_X1_165 (Or.inl ⟨(hb).1, by decide⟩) rfl rfl (Nat.le_of_ble_eq_true rfl) (by decide) (by decide) (by decide) (by decide) (Kint ?_)
          exact Vsub [0, 1, 2, 4] rfl (w_X1_coinsUpTo_55 hL hb C ih  h)
        · have h := ok_t c6 h
          refine Vaload_n C 0 (dAt D_X1_coinsUpTo 22 rfl) rfl rfl ?_
          refine Viload C 4 (dAt D_X1_coinsUpTo 23 rfl) rfl ?_
          refine Vbipush (x := 8) C (dAt D_X1_coinsUpTo 24 rfl) (by decide) ?_
          obtain ⟨r7, e8, h⟩ := ok_b h
          refine VcallV (as := [_, _]) C (dAt D_X1_coinsUpTo 25 rfl) (m_X1_sum hL hb e8) yv_X1_100 (Or.inl ⟨(hb).1, by decide⟩) rfl rfl (Nat.le_of_ble_eq_true rfl) (by decide) (by decide) (by decide) (by decide) (Kint ?_)
          refine Vgoto (tgt := 55) C (dAt D_X1_coinsUpTo 26 rfl) (by decide) ?_
          exact Vsub [0, 1, 2, 4] rfl (w_X1_coinsUpTo_55 hL hb C ih  h)
      · have h := ok_t c2 h
        refine Viload_n C 3 (dAt D_X1_coinsUpTo 10 rfl) rfl rfl ?_
        refine Vaload_n C 0 (dAt D_X1_coinsUpTo 11 rfl) rfl rfl ?_
        refine Viload C 4 (dAt D_X1_coinsUpTo 12 rfl) rfl ?_
        refine Vbipush (x := 9) C (dAt D_X1_coinsUpTo 13 rfl) (by decide) ?_
        obtain ⟨r3, e4, h⟩ := ok_b h
        refine VcallV (as := [_, _]) C (dAt D_X1_coinsUpTo 14 rfl) (m_X1_sum hL hb e4) yv_X1_100 (Or.inl ⟨(hb).1, by decide⟩) rfl rfl (Nat.le_of_ble_eq_true rfl) (by decide) (by decide) (by decide) (by decide) (Kint ?_)
        refine Viadd C (dAt D_X1_coinsUpTo 15 rfl) ?_
        refine Vistore_n (lv' := [(3, _), (0, _), (1, _), (2, _), (4, _)]) C (dAt D_X1_coinsUpTo 16 rfl) rfl (by decide) rfl ?_
        refine Vgoto (tgt := 57) C (dAt D_X1_coinsUpTo 17 rfl) (by decide) ?_
        exact Vsub [1, 2, 3, 0, 4] rfl (w_X1_coinsUpTo_57 hL hb C ih  h)
def F_X1_coinsUpTo (f : Nat) (b : Nat) (ts : Nat) (x1 : Int32) (x2 : Int32) (u : MT) : Option (Int32 × MT) :=
  B_X1_coinsUpTo_5 f b ts f x1 x2 (0 : Int32) (0 : Int32) u
theorem m_X1_coinsUpTo {g : GT} {w : LT} (hL : Lay w) {b : Nat} {ts : Nat} {x1 : Int32} {x2 : Int32} {f : Nat} {u : MT} {r : (Int32 × MT)} (hb : isBk w b ts) (h : F_X1_coinsUpTo f b ts x1 x2 u = some r) : Mt g yX1_coinsUpTo cX1_coinsUpTo 5 (some .int) 5 0 0 [.ref b, .int x1, .int x2] w u (Qi r.1 w r.2) := by
  refine Mt_of (own := RX1) (by decide +kernel) rfl (Nat.le_of_ble_eq_true rfl) (fun z C _ => ?_)
  show V z g 5 0 [(0, .ref b), (1, .int x1), (2, .int x2)] [] w u 0 0 (Qi r.1 w r.2)
  rw [F_X1_coinsUpTo] at h
  refine Viconst (x := 0) C (dAt D_X1_coinsUpTo 0 rfl) (by decide) ?_
  refine Vistore_n (lv' := [(3, _), (0, _), (1, _), (2, _)]) C (dAt D_X1_coinsUpTo 1 rfl) rfl (by decide) rfl ?_
  refine Viconst (x := 0) C (dAt D_X1_coinsUpTo 2 rfl) (by decide) ?_
  refine Vistore (lv' := [(4, _), (3, _), (0, _), (1, _), (2, _)]) C (dAt D_X1_coinsUpTo 3 rfl) (by decide) rfl ?_
  exact Vsub [2, 3, 4, 1, 0] rfl (w_X1_coinsUpTo_5 hL hb C  f _ _ _ _ _  h)
def F_X2_has (f : Nat) (x1 : Int32) (u : MT) : Option (Int32 × MT) :=
  (F_X11_isIn f x1 (0 : Int32) ((gI u 101 2) - (1 : Int32)) u).bind fun r1 =>
  ck (r1.1 = 0 ∨ r1.1 = 1) <|
  some (r1.1, r1.2)
theorem m_X2_has {g : GT} {w : LT} (hL : Lay w) {x1 : Int32} {f : Nat} {u : MT} {r : (Int32 × MT)} (h : F_X2_has f x1 u = some r) : Mt g yX2_has cX2_has 2 (some .boolean) 1 0 0 [.ref 101, .int x1] w u (Qi r.1 w r.2) := by
  refine Mt_of (own := RX2) (by decide +kernel) rfl (Nat.le_of_ble_eq_true rfl) (fun z C _ => ?_)
  show V z g 2 0 [(0, .ref 101), (1, .int x1)] [] w u 0 0 (Qi r.1 w r.2)
  rw [F_X2_has] at h
  refine Viload_n C 1 (dAt D_X2_has 0 rfl) rfl rfl ?_
  refine Viconst (x := 0) C (dAt D_X2_has 1 rfl) (by decide) ?_
  refine Vaload_n C 0 (dAt D_X2_has 2 rfl) rfl rfl ?_
  refine VgetI C (dAt D_X2_has 3 rfl) gf_X2_18 (kt_101 hL) rfl ?_
  refine Viconst (x := 1) C (dAt D_X2_has 4 rfl) (by decide) ?_
  refine Visub C (dAt D_X2_has 5 rfl) ?_
  obtain ⟨r1, e2, h⟩ := ok_b h
  refine VcallS (as := [_, _, _]) C (dAt D_X2_has 6 rfl) (m_X11_isIn hL e2) yb_X2_22 ys_X2_22 rfl rfl (Nat.le_of_ble_eq_true rfl) (by decide) (by decide) (by decide) (by decide) (Kint ?_)
  obtain ⟨c3, h⟩ := ok_ck h
  cases h
  exact Vzret C (dAt D_X2_has 7 rfl) (nz01 c3) (by decide) (by decide) ⟨rfl, rfl, rfl⟩
def F_X2_add (f : Nat) (x1 : Int32) (x2 : Int32) (u : MT) : Option (Int32 × MT) :=
  ck (ixo (gI u 101 2) 12) <|
  let u2 := sI u 102 ((gI u 101 2)).toNatClampNeg x1
  ck (ixo (gI u2 101 2) 12) <|
  let u4 := sI u2 103 ((gI u2 101 2)).toNatClampNeg x2
  let u5 := sI u4 101 2 ((gI u4 101 2) + (1 : Int32))
  some (((gI u5 101 2) - (1 : Int32)), u5)
theorem m_X2_add {g : GT} {w : LT} (hL : Lay w) {x1 : Int32} {x2 : Int32} {f : Nat} {u : MT} {r : (Int32 × MT)} (h : F_X2_add f x1 x2 u = some r) : Mt g yX2_add cX2_add 3 (some .int) 0 0 0 [.ref 101, .int x1, .int x2] w u (Qi r.1 w r.2) := by
  refine Mt_of (own := RX2) (by decide +kernel) rfl (Nat.le_of_ble_eq_true rfl) (fun z C _ => ?_)
  show V z g 3 0 [(0, .ref 101), (1, .int x1), (2, .int x2)] [] w u 0 0 (Qi r.1 w r.2)
  rw [F_X2_add] at h
  refine Vaload_n C 0 (dAt D_X2_add 0 rfl) rfl rfl ?_
  refine VgetP C (dAt D_X2_add 1 rfl) gf_X2_9 (kt_101 hL) rfl (kp_101_0 hL) ?_
  refine Vaload_n C 0 (dAt D_X2_add 2 rfl) rfl rfl ?_
  refine VgetI C (dAt D_X2_add 3 rfl) gf_X2_18 (kt_101 hL) rfl ?_
  refine Viload_n C 1 (dAt D_X2_add 4 rfl) rfl rfl ?_
  obtain ⟨c1, h⟩ := ok_ck h
  refine Viast C (dAt D_X2_add 5 rfl) (kt_102 hL) (kl_102 hL) (vp_in_iff.mpr c1) ?_
  refine Vaload_n C 0 (dAt D_X2_add 6 rfl) rfl rfl ?_
  refine VgetP C (dAt D_X2_add 7 rfl) gf_X2_15 (kt_101 hL) rfl (kp_101_1 hL) ?_
  refine Vaload_n C 0 (dAt D_X2_add 8 rfl) rfl rfl ?_
  refine VgetI C (dAt D_X2_add 9 rfl) gf_X2_18 (kt_101 hL) rfl ?_
  refine Viload_n C 2 (dAt D_X2_add 10 rfl) rfl rfl ?_
  obtain ⟨c3, h⟩ := ok_ck h
  refine Viast C (dAt D_X2_add 11 rfl) (kt_103 hL) (kl_103 hL) (vp_in_iff.mpr c3) ?_
  refine Vaload_n C 0 (dAt D_X2_add 12 rfl) rfl rfl ?_
  refine Vdup C (dAt D_X2_add 13 rfl) rfl ?_
  refine VgetI C (dAt D_X2_add 14 rfl) gf_X2_18 (kt_101 hL) rfl ?_
  refine Viconst (x := 1) C (dAt D_X2_add 15 rfl) (by decide) ?_
  refine Viadd C (dAt D_X2_add 16 rfl) ?_
  refine VputI C (dAt D_X2_add 17 rfl) gf_X2_18 (kt_101 hL) rfl rfl rfl rfl ?_
  refine Vaload_n C 0 (dAt D_X2_add 18 rfl) rfl rfl ?_
  refine VgetI C (dAt D_X2_add 19 rfl) gf_X2_18 (kt_101 hL) rfl ?_
  refine Viconst (x := 1) C (dAt D_X2_add 20 rfl) (by decide) ?_
  refine Visub C (dAt D_X2_add 21 rfl) ?_
  cases h
  exact Viret C (dAt D_X2_add 22 rfl) (by decide) (by decide) ⟨rfl, rfl, rfl⟩
def B_X6_sort_35 (f : Nat) (x2 : Int32) (u : MT) : Option (Int32 × MT) :=
  if x2 < (48 : Int32) then
    some ((3 : Int32), u)
  else
    if (57 : Int32) < x2 then
      some ((3 : Int32), u)
    else
      some ((2 : Int32), u)
theorem w_X6_sort_35 {z : ZT} {g : GT} {w : LT} (hL : Lay w) (C : Cx z g cX6_sort 3 RX6 (some .int) 0 0 0) {f : Nat} {r : (Int32 × MT)} {x2 : Int32} {u : MT} (h : B_X6_sort_35 f x2 u = some r) : V z g 3 35 [(2, .int x2)] [] w u 0 0 (Qi r.1 w r.2) := by
  rw [B_X6_sort_35] at h
  refine Viload_n C 0 (dAt D_X6_sort 21 rfl) rfl rfl ?_
  refine Vbipush (x := 48) C (dAt D_X6_sort 22 rfl) (by decide) ?_
  refine Vicmp_lt (tgt := 51) C (dAt D_X6_sort 23 rfl) (by decide) (fun c7 => ?_) (fun c7 => ?_)
  · have h := ok_t c7 h
    refine Viconst (x := 3) C (dAt D_X6_sort 29 rfl) (by decide) ?_
    cases h
    exact Viret C (dAt D_X6_sort 30 rfl) (by decide) (by decide) ⟨rfl, rfl, rfl⟩
  · have h := ok_f c7 h
    refine Viload_n C 0 (dAt D_X6_sort 24 rfl) rfl rfl ?_
    refine Vbipush (x := 57) C (dAt D_X6_sort 25 rfl) (by decide) ?_
    refine Vicmp_gt (tgt := 51) C (dAt D_X6_sort 26 rfl) (by decide) (fun c8 => ?_) (fun c8 => ?_)
    · have h := ok_t c8 h
      refine Viconst (x := 3) C (dAt D_X6_sort 29 rfl) (by decide) ?_
      cases h
      exact Viret C (dAt D_X6_sort 30 rfl) (by decide) (by decide) ⟨rfl, rfl, rfl⟩
    · have h := ok_f c8 h
      refine Viconst (x := 2) C (dAt D_X6_sort 27 rfl) (by decide) ?_
      refine Vgoto (tgt := 52) C (dAt D_X6_sort 28 rfl) (by decide) ?_
      cases h
      exact Viret C (dAt D_X6_sort 30 rfl) (by decide) (by decide) ⟨rfl, rfl, rfl⟩
def F_X6_sort (f : Nat) (x1 : Int32) (u : MT) : Option (Int32 × MT) :=
  ck (ixo x1 1200) <|
  let v2 := (gI u 111 (x1).toNatClampNeg)
  if v2 = (10 : Int32) then
    some ((0 : Int32), u)
  else
    if v2 = (32 : Int32) then
      some ((0 : Int32), u)
    else
      if v2 < (97 : Int32) then
        B_X6_sort_35 f v2 u
      else
        if (122 : Int32) < v2 then
          B_X6_sort_35 f v2 u
        else
          some ((1 : Int32), u)
theorem m_X6_sort {g : GT} {w : LT} (hL : Lay w) {x1 : Int32} {f : Nat} {u : MT} {r : (Int32 × MT)} (h : F_X6_sort f x1 u = some r) : Mt g yX6_sort cX6_sort 3 (some .int) 0 0 0 [.ref 110, .int x1] w u (Qi r.1 w r.2) := by
  refine Mt_of (own := RX6) (by decide +kernel) rfl (Nat.le_of_ble_eq_true rfl) (fun z C _ => ?_)
  show V z g 3 0 [(0, .ref 110), (1, .int x1)] [] w u 0 0 (Qi r.1 w r.2)
  rw [F_X6_sort] at h
  refine Vaload_n C 0 (dAt D_X6_sort 0 rfl) rfl rfl ?_
  refine VgetP C (dAt D_X6_sort 1 rfl) gf_X6_9 (kt_110 hL) rfl (kp_110_0 hL) ?_
  refine Viload_n C 1 (dAt D_X6_sort 2 rfl) rfl rfl ?_
  obtain ⟨c1, h⟩ := ok_ck h
  refine Vcald C (dAt D_X6_sort 3 rfl) (kt_111 hL) (kl_111 hL) (vp_in_iff.mpr c1) ?_
  refine Vistore_n (lv' := [(2, _), (0, _), (1, _)]) C (dAt D_X6_sort 4 rfl) rfl (by decide) rfl ?_
  refine Viload_n C 0 (dAt D_X6_sort 5 rfl) rfl rfl ?_
  refine Vbipush (x := 10) C (dAt D_X6_sort 6 rfl) (by decide) ?_
  refine Vicmp_eq (tgt := 19) C (dAt D_X6_sort 7 rfl) (by decide) (fun c3 => ?_) (fun c3 => ?_)
  · have h := ok_t c3 h
    refine Viconst (x := 0) C (dAt D_X6_sort 11 rfl) (by decide) ?_
    cases h
    exact Viret C (dAt D_X6_sort 12 rfl) (by decide) (by decide) ⟨rfl, rfl, rfl⟩
  · have h := ok_f c3 h
    refine Viload_n C 0 (dAt D_X6_sort 8 rfl) rfl rfl ?_
    refine Vbipush (x := 32) C (dAt D_X6_sort 9 rfl) (by decide) ?_
    refine Vicmp_ne (tgt := 21) C (dAt D_X6_sort 10 rfl) (by decide) (fun c4 => ?_) (fun c4 => ?_)
    · have h := ok_f c4 h
      refine Viload_n C 0 (dAt D_X6_sort 13 rfl) rfl rfl ?_
      refine Vbipush (x := 97) C (dAt D_X6_sort 14 rfl) (by decide) ?_
      refine Vicmp_lt (tgt := 35) C (dAt D_X6_sort 15 rfl) (by decide) (fun c5 => ?_) (fun c5 => ?_)
      · have h := ok_t c5 h
        exact Vsub [0] rfl (w_X6_sort_35 hL C  h)
      · have h := ok_f c5 h
        refine Viload_n C 0 (dAt D_X6_sort 16 rfl) rfl rfl ?_
        refine Vbipush (x := 122) C (dAt D_X6_sort 17 rfl) (by decide) ?_
        refine Vicmp_gt (tgt := 35) C (dAt D_X6_sort 18 rfl) (by decide) (fun c6 => ?_) (fun c6 => ?_)
        · have h := ok_t c6 h
          exact Vsub [0] rfl (w_X6_sort_35 hL C  h)
        · have h := ok_f c6 h
          refine Viconst (x := 1) C (dAt D_X6_sort 19 rfl) (by decide) ?_
          cases h
          exact Viret C (dAt D_X6_sort 20 rfl) (by decide) (by decide) ⟨rfl, rfl, rfl⟩
    · have h := ok_t c4 h
      refine Viconst (x := 0) C (dAt D_X6_sort 11 rfl) (by decide) ?_
      cases h
      exact Viret C (dAt D_X6_sort 12 rfl) (by decide) (by decide) ⟨rfl, rfl, rfl⟩
def B_X6_tokenBegins_32 (f : Nat) (u : MT) : Option (Int32 × MT) :=
  some ((1 : Int32), u)
theorem w_X6_tokenBegins_32 {z : ZT} {g : GT} {w : LT} (hL : Lay w) (C : Cx z g cX6_tokenBegins 3 RX6 (some .boolean) 1 0 0) {f : Nat} {r : (Int32 × MT)} {u : MT} (h : B_X6_tokenBegins_32 f  u = some r) : V z g 3 32 [] [] w u 0 0 (Qi r.1 w r.2) := by
  rw [B_X6_tokenBegins_32] at h
  refine Viconst (x := 1) C (dAt D_X6_tokenBegins 20 rfl) (by decide) ?_
  refine Vgoto (tgt := 37) C (dAt D_X6_tokenBegins 21 rfl) (by decide) ?_
  cases h
  exact Vzret C (dAt D_X6_tokenBegins 23 rfl) rfl (by decide) (by decide) ⟨rfl, rfl, rfl⟩
def F_X6_tokenBegins (f : Nat) (x1 : Int32) (u : MT) : Option (Int32 × MT) :=
  (F_X6_sort f x1 u).bind fun r1 =>
  if r1.1 = 0 then
    some ((0 : Int32), r1.2)
  else
    if r1.1 = (3 : Int32) then
      B_X6_tokenBegins_32 f r1.2
    else
      if x1 = 0 then
        B_X6_tokenBegins_32 f r1.2
      else
        (F_X6_sort f (x1 - (1 : Int32)) r1.2).bind fun r6 =>
        if r6.1 = r1.1 then
          some ((0 : Int32), r6.2)
        else
          B_X6_tokenBegins_32 f r6.2
theorem m_X6_tokenBegins {g : GT} {w : LT} (hL : Lay w) {x1 : Int32} {f : Nat} {u : MT} {r : (Int32 × MT)} (h : F_X6_tokenBegins f x1 u = some r) : Mt g yX6_tokenBegins cX6_tokenBegins 3 (some .boolean) 1 0 0 [.ref 110, .int x1] w u (Qi r.1 w r.2) := by
  refine Mt_of (own := RX6) (by decide +kernel) rfl (Nat.le_of_ble_eq_true rfl) (fun z C _ => ?_)
  show V z g 3 0 [(0, .ref 110), (1, .int x1)] [] w u 0 0 (Qi r.1 w r.2)
  rw [F_X6_tokenBegins] at h
  refine Vaload_n C 0 (dAt D_X6_tokenBegins 0 rfl) rfl rfl ?_
  refine Viload_n C 1 (dAt D_X6_tokenBegins 1 rfl) rfl rfl ?_
  obtain ⟨r1, e2, h⟩ := ok_b h
  refine VcallV (as := [_]) C (dAt D_X6_tokenBegins 2 rfl) (m_X6_sort hL e2) yv_X6_23 (Or.inl ⟨(kt_110 hL), by decide⟩) rfl rfl (Nat.le_of_ble_eq_true rfl) (by decide) (by decide) (by decide) (by decide) (Kint ?_)
  refine Vistore_n (lv' := [(2, _), (0, _), (1, _)]) C (dAt D_X6_tokenBegins 3 rfl) rfl (by decide) rfl ?_
  refine Viload_n C 0 (dAt D_X6_tokenBegins 4 rfl) rfl rfl ?_
  refine Vif_ne (tgt := 12) C (dAt D_X6_tokenBegins 5 rfl) (by decide) (fun c3 => ?_) (fun c3 => ?_)
  · have h := ok_f c3 h
    refine Viload_n C 0 (dAt D_X6_tokenBegins 8 rfl) rfl rfl ?_
    refine Viconst (x := 3) C (dAt D_X6_tokenBegins 9 rfl) (by decide) ?_
    refine Vicmp_eq (tgt := 32) C (dAt D_X6_tokenBegins 10 rfl) (by decide) (fun c4 => ?_) (fun c4 => ?_)
    · have h := ok_t c4 h
      exact Vsub [] rfl (w_X6_tokenBegins_32 hL C  h)
    · have h := ok_f c4 h
      refine Viload_n C 2 (dAt D_X6_tokenBegins 11 rfl) rfl rfl ?_
      refine Vif_eq (tgt := 32) C (dAt D_X6_tokenBegins 12 rfl) (by decide) (fun c5 => ?_) (fun c5 => ?_)
      · have h := ok_t c5 h
        exact Vsub [] rfl (w_X6_tokenBegins_32 hL C  h)
      · have h := ok_f c5 h
        refine Vaload_n C 1 (dAt D_X6_tokenBegins 13 rfl) rfl rfl ?_
        refine Viload_n C 2 (dAt D_X6_tokenBegins 14 rfl) rfl rfl ?_
        refine Viconst (x := 1) C (dAt D_X6_tokenBegins 15 rfl) (by decide) ?_
        refine Visub C (dAt D_X6_tokenBegins 16 rfl) ?_
        obtain ⟨r6, e7, h⟩ := ok_b h
        refine VcallV (as := [_]) C (dAt D_X6_tokenBegins 17 rfl) (m_X6_sort hL e7) yv_X6_23 (Or.inl ⟨(kt_110 hL), by decide⟩) rfl rfl (Nat.le_of_ble_eq_true rfl) (by decide) (by decide) (by decide) (by decide) (Kint ?_)
        refine Viload_n C 0 (dAt D_X6_tokenBegins 18 rfl) rfl rfl ?_
        refine Vicmp_eq (tgt := 36) C (dAt D_X6_tokenBegins 19 rfl) (by decide) (fun c8 => ?_) (fun c8 => ?_)
        · have h := ok_t c8 h
          refine Viconst (x := 0) C (dAt D_X6_tokenBegins 22 rfl) (by decide) ?_
          cases h
          exact Vzret C (dAt D_X6_tokenBegins 23 rfl) rfl (by decide) (by decide) ⟨rfl, rfl, rfl⟩
        · have h := ok_f c8 h
          exact Vsub [] rfl (w_X6_tokenBegins_32 hL C  h)
  · have h := ok_t c3 h
    refine Viconst (x := 0) C (dAt D_X6_tokenBegins 6 rfl) (by decide) ?_
    cases h
    exact Vzret C (dAt D_X6_tokenBegins 7 rfl) rfl (by decide) (by decide) ⟨rfl, rfl, rfl⟩
def B_X6_tokenEnd_10 (f : Nat) : Nat → Int32 → Int32 → MT → Option (Int32 × MT)
  | 0, _, _, _ => none
  | n + 1, x2, x3, u =>
    if x2 = (3 : Int32) then
      some (x3, u)
    else
      if (gI u 110 1) ≤ x3 then
        some (x3, u)
      else
        (F_X6_sort f x3 u).bind fun r6 =>
        if r6.1 = x2 then
          let v9 := x3 + 1
          B_X6_tokenEnd_10 f n x2 v9 r6.2
        else
          some (x3, r6.2)
theorem w_X6_tokenEnd_10 {z : ZT} {g : GT} {w : LT} (hL : Lay w) (C : Cx z g cX6_tokenEnd 4 RX6 (some .int) 1 0 0) {f : Nat} {r : (Int32 × MT)} : ∀ (n : Nat) (x2 : Int32) (x3 : Int32) (u : MT), B_X6_tokenEnd_10 f n x2 x3 u = some r → V z g 4 10 [(0, .ref 110), (2, .int x2), (3, .int x3)] [] w u 0 0 (Qi r.1 w r.2) := by
  intro n
  induction n with
  | zero =>
    intro x2 x3 u h
    rw [B_X6_tokenEnd_10] at h
    cases h
  | succ n ih =>
    intro x2 x3 u h
    rw [B_X6_tokenEnd_10] at h
    refine Viload_n C 1 (dAt D_X6_tokenEnd 8 rfl) rfl rfl ?_
    refine Viconst (x := 3) C (dAt D_X6_tokenEnd 9 rfl) (by decide) ?_
    refine Vicmp_eq (tgt := 38) C (dAt D_X6_tokenEnd 10 rfl) (by decide) (fun c4 => ?_) (fun c4 => ?_)
    · have h := ok_t c4 h
      refine Viload_n C 2 (dAt D_X6_tokenEnd 22 rfl) rfl rfl ?_
      cases h
      exact Viret C (dAt D_X6_tokenEnd 23 rfl) (by decide) (by decide) ⟨rfl, rfl, rfl⟩
    · have h := ok_f c4 h
      refine Viload_n C 2 (dAt D_X6_tokenEnd 11 rfl) rfl rfl ?_
      refine Vaload_n C 0 (dAt D_X6_tokenEnd 12 rfl) rfl rfl ?_
      refine VgetI C (dAt D_X6_tokenEnd 13 rfl) gf_X6_19 (kt_110 hL) rfl ?_
      refine Vicmp_ge (tgt := 38) C (dAt D_X6_tokenEnd 14 rfl) (by decide) (fun c5 => ?_) (fun c5 => ?_)
      · have h := ok_t c5 h
        refine Viload_n C 2 (dAt D_X6_tokenEnd 22 rfl) rfl rfl ?_
        cases h
        exact Viret C (dAt D_X6_tokenEnd 23 rfl) (by decide) (by decide) ⟨rfl, rfl, rfl⟩
      · have h := ok_f c5 h
        refine Vaload_n C 0 (dAt D_X6_tokenEnd 15 rfl) rfl rfl ?_
        refine Viload_n C 2 (dAt D_X6_tokenEnd 16 rfl) rfl rfl ?_
        obtain ⟨r6, e7, h⟩ := ok_b h
        refine VcallV (as := [_]) C (dAt D_X6_tokenEnd 17 rfl) (m_X6_sort hL e7) yv_X6_23 (Or.inl ⟨(kt_110 hL), by decide⟩) rfl rfl (Nat.le_of_ble_eq_true rfl) (by decide) (by decide) (by decide) (by decide) (Kint ?_)
        refine Viload_n C 1 (dAt D_X6_tokenEnd 18 rfl) rfl rfl ?_
        refine Vicmp_ne (tgt := 38) C (dAt D_X6_tokenEnd 19 rfl) (by decide) (fun c8 => ?_) (fun c8 => ?_)
        · have h := ok_f c8 h
          refine Viload_n C 2 (dAt D_X6_tokenEnd 22 rfl) rfl rfl ?_
          cases h
          exact Viret C (dAt D_X6_tokenEnd 23 rfl) (by decide) (by decide) ⟨rfl, rfl, rfl⟩
        · have h := ok_t c8 h
          refine Viinc (j := 2) (v := _ + 1) (lv' := [(3, _), (0, _), (2, _)]) C (dAt D_X6_tokenEnd 20 rfl) rfl rfl (by decide) rfl ?_
          refine Vgoto (tgt := 10) C (dAt D_X6_tokenEnd 21 rfl) (by decide) ?_
          exact Vsub [1, 2, 0] rfl (ih _ _ _  h)
def F_X6_tokenEnd (f : Nat) (x1 : Int32) (u : MT) : Option (Int32 × MT) :=
  (F_X6_sort f x1 u).bind fun r1 =>
  let v3 := (x1 + (1 : Int32))
  B_X6_tokenEnd_10 f f r1.1 v3 r1.2
theorem m_X6_tokenEnd {g : GT} {w : LT} (hL : Lay w) {x1 : Int32} {f : Nat} {u : MT} {r : (Int32 × MT)} (h : F_X6_tokenEnd f x1 u = some r) : Mt g yX6_tokenEnd cX6_tokenEnd 4 (some .int) 1 0 0 [.ref 110, .int x1] w u (Qi r.1 w r.2) := by
  refine Mt_of (own := RX6) (by decide +kernel) rfl (Nat.le_of_ble_eq_true rfl) (fun z C _ => ?_)
  show V z g 4 0 [(0, .ref 110), (1, .int x1)] [] w u 0 0 (Qi r.1 w r.2)
  rw [F_X6_tokenEnd] at h
  refine Vaload_n C 0 (dAt D_X6_tokenEnd 0 rfl) rfl rfl ?_
  refine Viload_n C 1 (dAt D_X6_tokenEnd 1 rfl) rfl rfl ?_
  obtain ⟨r1, e2, h⟩ := ok_b h
  refine VcallV (as := [_]) C (dAt D_X6_tokenEnd 2 rfl) (m_X6_sort hL e2) yv_X6_23 (Or.inl ⟨(kt_110 hL), by decide⟩) rfl rfl (Nat.le_of_ble_eq_true rfl) (by decide) (by decide) (by decide) (by decide) (Kint ?_)
  refine Vistore_n (lv' := [(2, _), (0, _), (1, _)]) C (dAt D_X6_tokenEnd 3 rfl) rfl (by decide) rfl ?_
  refine Viload_n C 2 (dAt D_X6_tokenEnd 4 rfl) rfl rfl ?_
  refine Viconst (x := 1) C (dAt D_X6_tokenEnd 5 rfl) (by decide) ?_
  refine Viadd C (dAt D_X6_tokenEnd 6 rfl) ?_
  refine Vistore_n (lv' := [(3, _), (2, _), (0, _), (1, _)]) C (dAt D_X6_tokenEnd 7 rfl) rfl (by decide) rfl ?_
  exact Vsub [2, 1, 0] rfl (w_X6_tokenEnd_10 hL C  f _ _ _  h)
def B_X9_isSpelled_18 (f : Nat) (a0 : Nat) : Nat → Int32 → Int32 → MT → Option (Int32 × MT)
  | 0, _, _, _ => none
  | n + 1, x2, x4, u =>
    if (Int32.ofNat (tkL.getD (tkX (a0 - 1)) 0)) ≤ x4 then
      some ((1 : Int32), u)
    else
      ck (ixo x4 (tkL.getD (tkX (a0 - 1)) 0)) <|
      ck (ixo (x2 + x4) 1200) <|
      if (tkCh (tkX (a0 - 1)) (x4).toNatClampNeg) = (gI u 111 ((x2 + x4)).toNatClampNeg) then
        let v6 := x4 + 1
        B_X9_isSpelled_18 f a0 n x2 v6 u
      else
        some ((0 : Int32), u)
theorem w_X9_isSpelled_18 {z : ZT} {g : GT} {w : LT} (hL : Lay w) {a0 : Nat} (k0 : 1 ≤ a0) (k0b : a0 ≤ 34) (C : Cx z g cX9_isSpelled 5 RX9 (some .boolean) 4 0 0) {f : Nat} {r : (Int32 × MT)} : ∀ (n : Nat) (x2 : Int32) (x4 : Int32) (u : MT), B_X9_isSpelled_18 f a0 n x2 x4 u = some r → V z g 5 18 [(0, .ref a0), (1, .ref 110), (2, .int x2), (4, .int x4)] [] w u 0 0 (Qi r.1 w r.2) := by
  intro n
  induction n with
  | zero =>
    intro x2 x4 u h
    rw [B_X9_isSpelled_18] at h
    cases h
  | succ n ih =>
    intro x2 x4 u h
    rw [B_X9_isSpelled_18] at h
    refine Viload C 3 (dAt D_X9_isSpelled 11 rfl) rfl ?_
    refine Vaload_n C 0 (dAt D_X9_isSpelled 12 rfl) rfl rfl ?_
    refine Vtoks C (dAt D_X9_isSpelled 13 rfl) gt_X9_127 k0 k0b ?_
    refine VcallT (as := []) C (dAt D_X9_isSpelled 14 rfl) (m_len (tkX_lt k0b)) jb_len ji_len jv_len (tkX_lt k0b) rfl rfl (Nat.le_of_ble_eq_true rfl) (by decide) (by decide) (by decide) (by decide) (Kint ?_)
    refine Vicmp_ge (tgt := 59) C (dAt D_X9_isSpelled 15 rfl) (by decide) (fun c2 => ?_) (fun c2 => ?_)
    · have h := ok_t c2 h
      refine Viconst (x := 1) C (dAt D_X9_isSpelled 31 rfl) (by decide) ?_
      cases h
      exact Vzret C (dAt D_X9_isSpelled 32 rfl) rfl (by decide) (by decide) ⟨rfl, rfl, rfl⟩
    · have h := ok_f c2 h
      refine Vaload_n C 0 (dAt D_X9_isSpelled 16 rfl) rfl rfl ?_
      refine Vtoks C (dAt D_X9_isSpelled 17 rfl) gt_X9_127 k0 k0b ?_
      refine Viload C 3 (dAt D_X9_isSpelled 18 rfl) rfl ?_
      obtain ⟨c3, h⟩ := ok_ck h
      refine VcallT (as := [_]) C (dAt D_X9_isSpelled 19 rfl) (m_chr (tkX_lt k0b) c3) jb_chr ji_chr jv_chr (tkX_lt k0b) rfl rfl (Nat.le_of_ble_eq_true rfl) (by decide) (by decide) (by decide) (by decide) (Kint ?_)
      refine Vaload_n C 1 (dAt D_X9_isSpelled 20 rfl) rfl rfl ?_
      refine VgetP C (dAt D_X9_isSpelled 21 rfl) gf_X9_152 (kt_110 hL) rfl (kp_110_0 hL) ?_
      refine Viload_n C 2 (dAt D_X9_isSpelled 22 rfl) rfl rfl ?_
      refine Viload C 3 (dAt D_X9_isSpelled 23 rfl) rfl ?_
      refine Viadd C (dAt D_X9_isSpelled 24 rfl) ?_
      obtain ⟨c4, h⟩ := ok_ck h
      refine Vcald C (dAt D_X9_isSpelled 25 rfl) (kt_111 hL) (kl_111 hL) (vp_in_iff.mpr c4) ?_
      refine Vicmp_eq (tgt := 53) C (dAt D_X9_isSpelled 26 rfl) (by decide) (fun c5 => ?_) (fun c5 => ?_)
      · have h := ok_t c5 h
        refine Viinc (j := 3) (v := _ + 1) (lv' := [(4, _), (0, _), (1, _), (2, _)]) C (dAt D_X9_isSpelled 29 rfl) rfl rfl (by decide) rfl ?_
        refine Vgoto (tgt := 18) C (dAt D_X9_isSpelled 30 rfl) (by decide) ?_
        exact Vsub [1, 2, 3, 0] rfl (ih _ _ _  h)
      · have h := ok_f c5 h
        refine Viconst (x := 0) C (dAt D_X9_isSpelled 27 rfl) (by decide) ?_
        cases h
        exact Vzret C (dAt D_X9_isSpelled 28 rfl) rfl (by decide) (by decide) ⟨rfl, rfl, rfl⟩
def F_X9_isSpelled (f : Nat) (a0 : Nat) (x2 : Int32) (x3 : Int32) (u : MT) : Option (Int32 × MT) :=
  if (Int32.ofNat (tkL.getD (tkX (a0 - 1)) 0)) = (x3 - x2) then
    B_X9_isSpelled_18 f a0 f x2 (0 : Int32) u
  else
    some ((0 : Int32), u)
theorem m_X9_isSpelled {g : GT} {w : LT} (hL : Lay w) {a0 : Nat} {x2 : Int32} {x3 : Int32} {f : Nat} {u : MT} {r : (Int32 × MT)} (k0 : 1 ≤ a0) (k0b : a0 ≤ 34) (h : F_X9_isSpelled f a0 x2 x3 u = some r) : Mt g yX9_isSpelled cX9_isSpelled 5 (some .boolean) 4 0 0 [.ref a0, .ref 110, .int x2, .int x3] w u (Qi r.1 w r.2) := by
  refine Mt_of (own := RX9) (by decide +kernel) rfl (Nat.le_of_ble_eq_true rfl) (fun z C _ => ?_)
  show V z g 5 0 [(0, .ref a0), (1, .ref 110), (2, .int x2), (3, .int x3)] [] w u 0 0 (Qi r.1 w r.2)
  rw [F_X9_isSpelled] at h
  refine Vaload_n C 0 (dAt D_X9_isSpelled 0 rfl) rfl rfl ?_
  refine Vtoks C (dAt D_X9_isSpelled 1 rfl) gt_X9_127 k0 k0b ?_
  refine VcallT (as := []) C (dAt D_X9_isSpelled 2 rfl) (m_len (tkX_lt k0b)) jb_len ji_len jv_len (tkX_lt k0b) rfl rfl (Nat.le_of_ble_eq_true rfl) (by decide) (by decide) (by decide) (by decide) (Kint ?_)
  refine Viload_n C 3 (dAt D_X9_isSpelled 3 rfl) rfl rfl ?_
  refine Viload_n C 2 (dAt D_X9_isSpelled 4 rfl) rfl rfl ?_
  refine Visub C (dAt D_X9_isSpelled 5 rfl) ?_
  refine Vicmp_eq (tgt := 15) C (dAt D_X9_isSpelled 6 rfl) (by decide) (fun c1 => ?_) (fun c1 => ?_)
  · have h := ok_t c1 h
    refine Viconst (x := 0) C (dAt D_X9_isSpelled 9 rfl) (by decide) ?_
    refine Vistore (lv' := [(4, _), (0, _), (1, _), (2, _), (3, _)]) C (dAt D_X9_isSpelled 10 rfl) (by decide) rfl ?_
    exact Vsub [1, 2, 3, 0] rfl (w_X9_isSpelled_18 hL k0 k0b C  f _ _ _  h)
  · have h := ok_f c1 h
    refine Viconst (x := 0) C (dAt D_X9_isSpelled 7 rfl) (by decide) ?_
    cases h
    exact Vzret C (dAt D_X9_isSpelled 8 rfl) rfl (by decide) (by decide) ⟨rfl, rfl, rfl⟩
def B_X9_spelled_2 (f : Nat) : Nat → Int32 → Int32 → Int32 → MT → Option (Nat × MT)
  | 0, _, _, _, _ => none
  | n + 1, x1, x2, x3, u =>
    if (34 : Int32) ≤ x3 then
      some (1, u)
    else
      ck (ixo x3 34) <|
      (F_X9_isSpelled f ((x3).toNatClampNeg + 1) x1 x2 u).bind fun r3 =>
      if r3.1 = 0 then
        let v6 := x3 + 1
        B_X9_spelled_2 f n x1 x2 v6 r3.2
      else
        some (((x3).toNatClampNeg + 1), r3.2)
theorem w_X9_spelled_2 {z : ZT} {g : GT} {w : LT} (hL : Lay w) (C : Cx z g cX9_spelled 4 RX9 (some (.object "SunVillage$Token")) 5 0 0) {f : Nat} {r : (Nat × MT)} : ∀ (n : Nat) (x1 : Int32) (x2 : Int32) (x3 : Int32) (u : MT), B_X9_spelled_2 f n x1 x2 x3 u = some r → V z g 4 2 [(0, .ref 110), (1, .int x1), (2, .int x2), (3, .int x3)] [] w u 0 0 (Qr r.1 w r.2) := by
  intro n
  induction n with
  | zero =>
    intro x1 x2 x3 u h
    rw [B_X9_spelled_2] at h
    cases h
  | succ n ih =>
    intro x1 x2 x3 u h
    rw [B_X9_spelled_2] at h
    refine Viload_n C 3 (dAt D_X9_spelled 2 rfl) rfl rfl ?_
    refine Veach C (dAt D_X9_spelled 3 rfl) gs_X9_135 ?_
    refine Veachl C (dAt D_X9_spelled 4 rfl) ?_
    refine Vicmp_ge (tgt := 36) C (dAt D_X9_spelled 5 rfl) (by decide) (fun c1 => ?_) (fun c1 => ?_)
    · have h := ok_t c1 h
      refine Vtok (i := 0) (x := 1) C (dAt D_X9_spelled 20 rfl) gs_X9_5 (by decide) rfl rfl ?_
      cases h
      exact Varet C (dAt D_X9_spelled 21 rfl) (by decide) (by decide) ⟨rfl, rfl, rfl⟩
    · have h := ok_f c1 h
      refine Veach C (dAt D_X9_spelled 6 rfl) gs_X9_135 ?_
      refine Viload_n C 3 (dAt D_X9_spelled 7 rfl) rfl rfl ?_
      obtain ⟨c2, h⟩ := ok_ck h
      refine Veachi C (dAt D_X9_spelled 8 rfl) c2 ?_
      refine Vaload_n C 0 (dAt D_X9_spelled 9 rfl) rfl rfl ?_
      refine Viload_n C 1 (dAt D_X9_spelled 10 rfl) rfl rfl ?_
      refine Viload_n C 2 (dAt D_X9_spelled 11 rfl) rfl rfl ?_
      obtain ⟨r3, e4, h⟩ := ok_b h
      refine VcallV (as := [_, _, _]) C (dAt D_X9_spelled 12 rfl) (m_X9_isSpelled hL (Nat.le_add_left 1 _) (each_le c2) e4) yv_X9_138 (Or.inr ⟨rfl, (Nat.le_add_left 1 _), (each_le c2)⟩) rfl rfl (Nat.le_of_ble_eq_true rfl) (by decide) (by decide) (by decide) (by decide) (Kint ?_)
      refine Vif_eq (tgt := 30) C (dAt D_X9_spelled 13 rfl) (by decide) (fun c5 => ?_) (fun c5 => ?_)
      · have h := ok_t c5 h
        refine Viinc (j := 3) (v := _ + 1) (lv' := [(3, _), (0, _), (1, _), (2, _)]) C (dAt D_X9_spelled 18 rfl) rfl rfl (by decide) rfl ?_
        refine Vgoto (tgt := 2) C (dAt D_X9_spelled 19 rfl) (by decide) ?_
        exact Vsub [1, 2, 3, 0] rfl (ih _ _ _ _  h)
      · have h := ok_f c5 h
        refine Veach C (dAt D_X9_spelled 14 rfl) gs_X9_135 ?_
        refine Viload_n C 3 (dAt D_X9_spelled 15 rfl) rfl rfl ?_
        refine Veachi C (dAt D_X9_spelled 16 rfl) c2 ?_
        cases h
        exact Varet C (dAt D_X9_spelled 17 rfl) (by decide) (by decide) ⟨rfl, rfl, rfl⟩
def F_X9_spelled (f : Nat) (x1 : Int32) (x2 : Int32) (u : MT) : Option (Nat × MT) :=
  B_X9_spelled_2 f f x1 x2 (0 : Int32) u
theorem m_X9_spelled {g : GT} {w : LT} (hL : Lay w) {x1 : Int32} {x2 : Int32} {f : Nat} {u : MT} {r : (Nat × MT)} (h : F_X9_spelled f x1 x2 u = some r) : Mt g yX9_spelled cX9_spelled 4 (some (.object "SunVillage$Token")) 5 0 0 [.ref 110, .int x1, .int x2] w u (Qr r.1 w r.2) := by
  refine Mt_of (own := RX9) (by decide +kernel) rfl (Nat.le_of_ble_eq_true rfl) (fun z C _ => ?_)
  show V z g 4 0 [(0, .ref 110), (1, .int x1), (2, .int x2)] [] w u 0 0 (Qr r.1 w r.2)
  rw [F_X9_spelled] at h
  refine Viconst (x := 0) C (dAt D_X9_spelled 0 rfl) (by decide) ?_
  refine Vistore_n (lv' := [(3, _), (0, _), (1, _), (2, _)]) C (dAt D_X9_spelled 1 rfl) rfl (by decide) rfl ?_
  exact Vsub [1, 2, 3, 0] rfl (w_X9_spelled_2 hL C  f _ _ _ _  h)
def B_X6_numberAt_5 (f : Nat) : Nat → Int32 → Int32 → Int32 → MT → Option (Int32 × MT)
  | 0, _, _, _, _ => none
  | n + 1, x2, x3, x4, u =>
    if x2 ≤ x4 then
      some (x3, u)
    else
      ck (ixo x4 1200) <|
      let v3 := ((x3 * (10 : Int32)) + ((gI u 111 (x4).toNatClampNeg) - (48 : Int32)))
      let v4 := x4 + 1
      B_X6_numberAt_5 f n x2 v3 v4 u
theorem w_X6_numberAt_5 {z : ZT} {g : GT} {w : LT} (hL : Lay w) (C : Cx z g cX6_numberAt 5 RX6 (some .int) 0 0 0) {f : Nat} {r : (Int32 × MT)} : ∀ (n : Nat) (x2 : Int32) (x3 : Int32) (x4 : Int32) (u : MT), B_X6_numberAt_5 f n x2 x3 x4 u = some r → V z g 5 5 [(0, .ref 110), (2, .int x2), (3, .int x3), (4, .int x4)] [] w u 0 0 (Qi r.1 w r.2) := by
  intro n
  induction n with
  | zero =>
    intro x2 x3 x4 u h
    rw [B_X6_numberAt_5] at h
    cases h
  | succ n ih =>
    intro x2 x3 x4 u h
    rw [B_X6_numberAt_5] at h
    refine Viload C 3 (dAt D_X6_numberAt 4 rfl) rfl ?_
    refine Viload_n C 1 (dAt D_X6_numberAt 5 rfl) rfl rfl ?_
    refine Vicmp_ge (tgt := 33) C (dAt D_X6_numberAt 6 rfl) (by decide) (fun c1 => ?_) (fun c1 => ?_)
    · have h := ok_t c1 h
      refine Viload_n C 2 (dAt D_X6_numberAt 20 rfl) rfl rfl ?_
      cases h
      exact Viret C (dAt D_X6_numberAt 21 rfl) (by decide) (by decide) ⟨rfl, rfl, rfl⟩
    · have h := ok_f c1 h
      refine Viload_n C 2 (dAt D_X6_numberAt 7 rfl) rfl rfl ?_
      refine Vbipush (x := 10) C (dAt D_X6_numberAt 8 rfl) (by decide) ?_
      refine Vimul C (dAt D_X6_numberAt 9 rfl) ?_
      refine Vaload_n C 0 (dAt D_X6_numberAt 10 rfl) rfl rfl ?_
      refine VgetP C (dAt D_X6_numberAt 11 rfl) gf_X6_9 (kt_110 hL) rfl (kp_110_0 hL) ?_
      refine Viload C 3 (dAt D_X6_numberAt 12 rfl) rfl ?_
      obtain ⟨c2, h⟩ := ok_ck h
      refine Vcald C (dAt D_X6_numberAt 13 rfl) (kt_111 hL) (kl_111 hL) (vp_in_iff.mpr c2) ?_
      refine Vbipush (x := 48) C (dAt D_X6_numberAt 14 rfl) (by decide) ?_
      refine Visub C (dAt D_X6_numberAt 15 rfl) ?_
      refine Viadd C (dAt D_X6_numberAt 16 rfl) ?_
      refine Vistore_n (lv' := [(3, _), (0, _), (2, _), (4, _)]) C (dAt D_X6_numberAt 17 rfl) rfl (by decide) rfl ?_
      refine Viinc (j := 3) (v := _ + 1) (lv' := [(4, _), (3, _), (0, _), (2, _)]) C (dAt D_X6_numberAt 18 rfl) rfl rfl (by decide) rfl ?_
      refine Vgoto (tgt := 5) C (dAt D_X6_numberAt 19 rfl) (by decide) ?_
      exact Vsub [2, 3, 1, 0] rfl (ih _ _ _ _  h)
def F_X6_numberAt (f : Nat) (x1 : Int32) (x2 : Int32) (u : MT) : Option (Int32 × MT) :=
  B_X6_numberAt_5 f f x2 (0 : Int32) x1 u
theorem m_X6_numberAt {g : GT} {w : LT} (hL : Lay w) {x1 : Int32} {x2 : Int32} {f : Nat} {u : MT} {r : (Int32 × MT)} (h : F_X6_numberAt f x1 x2 u = some r) : Mt g yX6_numberAt cX6_numberAt 5 (some .int) 0 0 0 [.ref 110, .int x1, .int x2] w u (Qi r.1 w r.2) := by
  refine Mt_of (own := RX6) (by decide +kernel) rfl (Nat.le_of_ble_eq_true rfl) (fun z C _ => ?_)
  show V z g 5 0 [(0, .ref 110), (1, .int x1), (2, .int x2)] [] w u 0 0 (Qi r.1 w r.2)
  rw [F_X6_numberAt] at h
  refine Viconst (x := 0) C (dAt D_X6_numberAt 0 rfl) (by decide) ?_
  refine Vistore_n (lv' := [(3, _), (0, _), (1, _), (2, _)]) C (dAt D_X6_numberAt 1 rfl) rfl (by decide) rfl ?_
  refine Viload_n C 2 (dAt D_X6_numberAt 2 rfl) rfl rfl ?_
  refine Vistore (lv' := [(4, _), (3, _), (0, _), (1, _), (2, _)]) C (dAt D_X6_numberAt 3 rfl) (by decide) rfl ?_
  exact Vsub [2, 4, 1, 0] rfl (w_X6_numberAt_5 hL C  f _ _ _ _  h)
def B_X3_scanToken_87 (f : Nat) (u : MT) : Option MT :=
  let u20 := sI u 112 3 ((gI u 112 3) + (1 : Int32))
  some u20
theorem w_X3_scanToken_87 {z : ZT} {g : GT} {w : LT} (hL : Lay w) (C : Cx z g cX3_scanToken 4 RX3 none 6 0 0) {f : Nat} {r : MT} {u : MT} (h : B_X3_scanToken_87 f  u = some r) : V z g 4 87 [(0, .ref 112)] [] w u 0 0 (Qv w r) := by
  rw [B_X3_scanToken_87] at h
  refine Vaload_n C 0 (dAt D_X3_scanToken 48 rfl) rfl rfl ?_
  refine Vdup C (dAt D_X3_scanToken 49 rfl) rfl ?_
  refine VgetI C (dAt D_X3_scanToken 50 rfl) gf_X3_64 (kt_112 hL) rfl ?_
  refine Viconst (x := 1) C (dAt D_X3_scanToken 51 rfl) (by decide) ?_
  refine Viadd C (dAt D_X3_scanToken 52 rfl) ?_
  refine VputI C (dAt D_X3_scanToken 53 rfl) gf_X3_64 (kt_112 hL) rfl rfl rfl rfl ?_
  cases h
  exact Vvret C (dAt D_X3_scanToken 54 rfl) (by decide) (by decide) ⟨rfl, rfl, rfl⟩
def F_X3_scanToken (f : Nat) (x2 : Int32) (x3 : Int32) (u : MT) : Option MT :=
  ck (ixo (gI u 112 3) 1201) <|
  let u2 := sI u 114 ((gI u 112 3)).toNatClampNeg x2
  (F_X6_sort f x2 u2).bind fun r3 =>
  if r3.1 = (2 : Int32) then
    if (x3 - x2) ≤ (6 : Int32) then
      ck (ixo (gI r3.2 112 3) 1201) <|
      let u8 := sK r3.2 113 ((gI r3.2 112 3)).toNatClampNeg 3
      (F_X6_numberAt f x2 x3 u8).bind fun r9 =>
      ck (ixo (gI u8 112 3) 1201) <|
      let u12 := sI r9.2 115 ((gI u8 112 3)).toNatClampNeg r9.1
      B_X3_scanToken_87 f u12
    else
      ck (ixo (gI r3.2 112 3) 1201) <|
      let u14 := sK r3.2 113 ((gI r3.2 112 3)).toNatClampNeg 1
      B_X3_scanToken_87 f u14
  else
    (F_X9_spelled f x2 x3 r3.2).bind fun r15 =>
    ck (ixo (gI r3.2 112 3) 1201) <|
    ck (1 ≤ r15.1 ∧ r15.1 ≤ 34) <|
    let u19 := sK r15.2 113 ((gI r3.2 112 3)).toNatClampNeg r15.1
    B_X3_scanToken_87 f u19
theorem m_X3_scanToken {g : GT} {w : LT} (hL : Lay w) {x2 : Int32} {x3 : Int32} {f : Nat} {u : MT} {r : MT} (h : F_X3_scanToken f x2 x3 u = some r) : Mt g yX3_scanToken cX3_scanToken 4 none 6 0 0 [.ref 112, .ref 110, .int x2, .int x3] w u (Qv w r) := by
  refine Mt_of (own := RX3) (by decide +kernel) rfl (Nat.le_of_ble_eq_true rfl) (fun z C _ => ?_)
  show V z g 4 0 [(0, .ref 112), (1, .ref 110), (2, .int x2), (3, .int x3)] [] w u 0 0 (Qv w r)
  rw [F_X3_scanToken] at h
  refine Vaload_n C 0 (dAt D_X3_scanToken 0 rfl) rfl rfl ?_
  refine VgetP C (dAt D_X3_scanToken 1 rfl) gf_X3_17 (kt_112 hL) rfl (kp_112_1 hL) ?_
  refine Vaload_n C 0 (dAt D_X3_scanToken 2 rfl) rfl rfl ?_
  refine VgetI C (dAt D_X3_scanToken 3 rfl) gf_X3_64 (kt_112 hL) rfl ?_
  refine Viload_n C 2 (dAt D_X3_scanToken 4 rfl) rfl rfl ?_
  obtain ⟨c1, h⟩ := ok_ck h
  refine Viast C (dAt D_X3_scanToken 5 rfl) (kt_114 hL) (kl_114 hL) (vp_in_iff.mpr c1) ?_
  refine Vaload_n C 1 (dAt D_X3_scanToken 6 rfl) rfl rfl ?_
  refine Viload_n C 2 (dAt D_X3_scanToken 7 rfl) rfl rfl ?_
  obtain ⟨r3, e4, h⟩ := ok_b h
  refine VcallV (as := [_]) C (dAt D_X3_scanToken 8 rfl) (m_X6_sort hL e4) yv_X3_82 (Or.inl ⟨(kt_110 hL), by decide⟩) rfl rfl (Nat.le_of_ble_eq_true rfl) (by decide) (by decide) (by decide) (by decide) (Kint ?_)
  refine Viconst (x := 2) C (dAt D_X3_scanToken 9 rfl) (by decide) ?_
  refine Vicmp_eq (tgt := 37) C (dAt D_X3_scanToken 10 rfl) (by decide) (fun c5 => ?_) (fun c5 => ?_)
  · have h := ok_t c5 h
    refine Viload_n C 3 (dAt D_X3_scanToken 21 rfl) rfl rfl ?_
    refine Viload_n C 2 (dAt D_X3_scanToken 22 rfl) rfl rfl ?_
    refine Visub C (dAt D_X3_scanToken 23 rfl) ?_
    refine Vbipush (x := 6) C (dAt D_X3_scanToken 24 rfl) (by decide) ?_
    refine Vicmp_le (tgt := 60) C (dAt D_X3_scanToken 25 rfl) (by decide) (fun c6 => ?_) (fun c6 => ?_)
    · have h := ok_t c6 h
      refine Vaload_n C 0 (dAt D_X3_scanToken 33 rfl) rfl rfl ?_
      refine VgetP C (dAt D_X3_scanToken 34 rfl) gf_X3_11 (kt_112 hL) rfl (kp_112_0 hL) ?_
      refine Vaload_n C 0 (dAt D_X3_scanToken 35 rfl) rfl rfl ?_
      refine VgetI C (dAt D_X3_scanToken 36 rfl) gf_X3_64 (kt_112 hL) rfl ?_
      refine Vtok (i := 2) (x := 3) C (dAt D_X3_scanToken 37 rfl) gs_X3_92 (by decide) rfl rfl ?_
      obtain ⟨c7, h⟩ := ok_ck h
      refine VaastK C (dAt D_X3_scanToken 38 rfl) (kt_113 hL) (kl_113 hL) (by decide) (by decide) (vp_in_iff.mpr c7) ?_
      refine Vaload_n C 0 (dAt D_X3_scanToken 39 rfl) rfl rfl ?_
      refine VgetP C (dAt D_X3_scanToken 40 rfl) gf_X3_21 (kt_112 hL) rfl (kp_112_2 hL) ?_
      refine Vaload_n C 0 (dAt D_X3_scanToken 41 rfl) rfl rfl ?_
      refine VgetI C (dAt D_X3_scanToken 42 rfl) gf_X3_64 (kt_112 hL) rfl ?_
      refine Vaload_n C 1 (dAt D_X3_scanToken 43 rfl) rfl rfl ?_
      refine Viload_n C 2 (dAt D_X3_scanToken 44 rfl) rfl rfl ?_
      refine Viload_n C 3 (dAt D_X3_scanToken 45 rfl) rfl rfl ?_
      obtain ⟨r9, e10, h⟩ := ok_b h
      refine VcallV (as := [_, _]) C (dAt D_X3_scanToken 46 rfl) (m_X6_numberAt hL e10) yv_X3_95 (Or.inl ⟨(kt_110 hL), by decide⟩) rfl rfl (Nat.le_of_ble_eq_true rfl) (by decide) (by decide) (by decide) (by decide) (Kint ?_)
      obtain ⟨c11, h⟩ := ok_ck h
      refine Viast C (dAt D_X3_scanToken 47 rfl) (kt_115 hL) (kl_115 hL) (vp_in_iff.mpr c11) ?_
      exact Vsub [0] rfl (w_X3_scanToken_87 hL C  h)
    · have h := ok_f c6 h
      refine Vaload_n C 0 (dAt D_X3_scanToken 26 rfl) rfl rfl ?_
      refine VgetP C (dAt D_X3_scanToken 27 rfl) gf_X3_11 (kt_112 hL) rfl (kp_112_0 hL) ?_
      refine Vaload_n C 0 (dAt D_X3_scanToken 28 rfl) rfl rfl ?_
      refine VgetI C (dAt D_X3_scanToken 29 rfl) gf_X3_64 (kt_112 hL) rfl ?_
      refine Vtok (i := 0) (x := 1) C (dAt D_X3_scanToken 30 rfl) gs_X3_89 (by decide) rfl rfl ?_
      obtain ⟨c13, h⟩ := ok_ck h
      refine VaastK C (dAt D_X3_scanToken 31 rfl) (kt_113 hL) (kl_113 hL) (by decide) (by decide) (vp_in_iff.mpr c13) ?_
      refine Vgoto (tgt := 87) C (dAt D_X3_scanToken 32 rfl) (by decide) ?_
      exact Vsub [0] rfl (w_X3_scanToken_87 hL C  h)
  · have h := ok_f c5 h
    refine Vaload_n C 0 (dAt D_X3_scanToken 11 rfl) rfl rfl ?_
    refine VgetP C (dAt D_X3_scanToken 12 rfl) gf_X3_11 (kt_112 hL) rfl (kp_112_0 hL) ?_
    refine Vaload_n C 0 (dAt D_X3_scanToken 13 rfl) rfl rfl ?_
    refine VgetI C (dAt D_X3_scanToken 14 rfl) gf_X3_64 (kt_112 hL) rfl ?_
    refine Vaload_n C 1 (dAt D_X3_scanToken 15 rfl) rfl rfl ?_
    refine Viload_n C 2 (dAt D_X3_scanToken 16 rfl) rfl rfl ?_
    refine Viload_n C 3 (dAt D_X3_scanToken 17 rfl) rfl rfl ?_
    obtain ⟨r15, e16, h⟩ := ok_b h
    refine VcallS (as := [_, _, _]) C (dAt D_X3_scanToken 18 rfl) (m_X9_spelled hL e16) yb_X3_85 ys_X3_85 rfl rfl (Nat.le_of_ble_eq_true rfl) (by decide) (by decide) (by decide) (by decide) (Kref ?_)
    obtain ⟨c17, h⟩ := ok_ck h
    obtain ⟨c18, h⟩ := ok_ck h
    refine VaastK C (dAt D_X3_scanToken 19 rfl) (kt_113 hL) (kl_113 hL) c18.1 c18.2 (vp_in_iff.mpr c17) ?_
    refine Vgoto (tgt := 87) C (dAt D_X3_scanToken 20 rfl) (by decide) ?_
    exact Vsub [0] rfl (w_X3_scanToken_87 hL C  h)
def B_X3_scan_34 (f : Nat) (j7 : Int32 → MT → Option MT) (x2 : Int32) (u : MT) : Option MT :=
  let v14 := x2 + 1
  j7 v14 u
theorem w_X3_scan_34 {z : ZT} {g : GT} {w : LT} (hL : Lay w) (C : Cx z g cX3_scan 3 RX3 none 7 0 0) {f : Nat} {r : MT} {j7 : Int32 → MT → Option MT} (q7 : ∀ (x2 : Int32) (u : MT), j7 x2 u = some r → V z g 3 7 [(0, .ref 112), (1, .ref 110), (2, .int x2)] [] w u 0 0 (Qv w r)) {x2 : Int32} {u : MT} (h : B_X3_scan_34 f j7 x2 u = some r) : V z g 3 34 [(0, .ref 112), (1, .ref 110), (2, .int x2)] [] w u 0 0 (Qv w r) := by
  rw [B_X3_scan_34] at h
  refine Viinc (j := 2) (v := _ + 1) (lv' := [(2, _), (0, _), (1, _)]) C (dAt D_X3_scan 20 rfl) rfl rfl (by decide) rfl ?_
  refine Vgoto (tgt := 7) C (dAt D_X3_scan 21 rfl) (by decide) ?_
  exact Vsub [1, 2, 0] rfl (q7 _ _  h)
def B_X3_scan_7 (f : Nat) : Nat → Int32 → MT → Option MT
  | 0, _, _ => none
  | n + 1, x2, u =>
    if (gI u 110 1) ≤ x2 then
      ck (ixo (gI u 112 3) 1201) <|
      let u4 := sK u 113 ((gI u 112 3)).toNatClampNeg 2
      ck (ixo (gI u4 112 3) 1201) <|
      let u6 := sI u4 114 ((gI u4 112 3)).toNatClampNeg (gI u4 110 1)
      some u6
    else
      (F_X6_tokenBegins f x2 u).bind fun r7 =>
      if r7.1 = 0 then
        B_X3_scan_34 f (fun x2' u' => B_X3_scan_7 f n x2' u') x2 r7.2
      else
        (F_X6_tokenEnd f x2 r7.2).bind fun r10 =>
        (F_X3_scanToken f x2 r10.1 r10.2).bind fun r12 =>
        B_X3_scan_34 f (fun x2' u' => B_X3_scan_7 f n x2' u') x2 r12
theorem w_X3_scan_7 {z : ZT} {g : GT} {w : LT} (hL : Lay w) (C : Cx z g cX3_scan 3 RX3 none 7 0 0) {f : Nat} {r : MT} : ∀ (n : Nat) (x2 : Int32) (u : MT), B_X3_scan_7 f n x2 u = some r → V z g 3 7 [(0, .ref 112), (1, .ref 110), (2, .int x2)] [] w u 0 0 (Qv w r) := by
  intro n
  induction n with
  | zero =>
    intro x2 u h
    rw [B_X3_scan_7] at h
    cases h
  | succ n ih =>
    intro x2 u h
    rw [B_X3_scan_7] at h
    refine Viload_n C 2 (dAt D_X3_scan 5 rfl) rfl rfl ?_
    refine Vaload_n C 1 (dAt D_X3_scan 6 rfl) rfl rfl ?_
    refine VgetI C (dAt D_X3_scan 7 rfl) gf_X3_28 (kt_110 hL) rfl ?_
    refine Vicmp_ge (tgt := 40) C (dAt D_X3_scan 8 rfl) (by decide) (fun c2 => ?_) (fun c2 => ?_)
    · have h := ok_t c2 h
      refine Vaload_n C 0 (dAt D_X3_scan 22 rfl) rfl rfl ?_
      refine VgetP C (dAt D_X3_scan 23 rfl) gf_X3_11 (kt_112 hL) rfl (kp_112_0 hL) ?_
      refine Vaload_n C 0 (dAt D_X3_scan 24 rfl) rfl rfl ?_
      refine VgetI C (dAt D_X3_scan 25 rfl) gf_X3_64 (kt_112 hL) rfl ?_
      refine Vtok (i := 1) (x := 2) C (dAt D_X3_scan 26 rfl) gs_X3_79 (by decide) rfl rfl ?_
      obtain ⟨c3, h⟩ := ok_ck h
      refine VaastK C (dAt D_X3_scan 27 rfl) (kt_113 hL) (kl_113 hL) (by decide) (by decide) (vp_in_iff.mpr c3) ?_
      refine Vaload_n C 0 (dAt D_X3_scan 28 rfl) rfl rfl ?_
      refine VgetP C (dAt D_X3_scan 29 rfl) gf_X3_17 (kt_112 hL) rfl (kp_112_1 hL) ?_
      refine Vaload_n C 0 (dAt D_X3_scan 30 rfl) rfl rfl ?_
      refine VgetI C (dAt D_X3_scan 31 rfl) gf_X3_64 (kt_112 hL) rfl ?_
      refine Vaload_n C 1 (dAt D_X3_scan 32 rfl) rfl rfl ?_
      refine VgetI C (dAt D_X3_scan 33 rfl) gf_X3_28 (kt_110 hL) rfl ?_
      obtain ⟨c5, h⟩ := ok_ck h
      refine Viast C (dAt D_X3_scan 34 rfl) (kt_114 hL) (kl_114 hL) (vp_in_iff.mpr c5) ?_
      cases h
      exact Vvret C (dAt D_X3_scan 35 rfl) (by decide) (by decide) ⟨rfl, rfl, rfl⟩
    · have h := ok_f c2 h
      refine Vaload_n C 1 (dAt D_X3_scan 9 rfl) rfl rfl ?_
      refine Viload_n C 2 (dAt D_X3_scan 10 rfl) rfl rfl ?_
      obtain ⟨r7, e8, h⟩ := ok_b h
      refine VcallV (as := [_]) C (dAt D_X3_scan 11 rfl) (m_X6_tokenBegins hL e8) yv_X3_67 (Or.inl ⟨(kt_110 hL), by decide⟩) rfl rfl (Nat.le_of_ble_eq_true rfl) (by decide) (by decide) (by decide) (by decide) (Kint ?_)
      refine Vif_eq (tgt := 34) C (dAt D_X3_scan 12 rfl) (by decide) (fun c9 => ?_) (fun c9 => ?_)
      · have h := ok_t c9 h
        exact Vsub [0, 1, 2] rfl (w_X3_scan_34 hL C ih  h)
      · have h := ok_f c9 h
        refine Vaload_n C 0 (dAt D_X3_scan 13 rfl) rfl rfl ?_
        refine Vaload_n C 1 (dAt D_X3_scan 14 rfl) rfl rfl ?_
        refine Viload_n C 2 (dAt D_X3_scan 15 rfl) rfl rfl ?_
        refine Vaload_n C 1 (dAt D_X3_scan 16 rfl) rfl rfl ?_
        refine Viload_n C 2 (dAt D_X3_scan 17 rfl) rfl rfl ?_
        obtain ⟨r10, e11, h⟩ := ok_b h
        refine VcallV (as := [_]) C (dAt D_X3_scan 18 rfl) (m_X6_tokenEnd hL e11) yv_X3_71 (Or.inl ⟨(kt_110 hL), by decide⟩) rfl rfl (Nat.le_of_ble_eq_true rfl) (by decide) (by decide) (by decide) (by decide) (Kint ?_)
        obtain ⟨r12, e13, h⟩ := ok_b h
        refine VcallV (as := [_, _, _]) C (dAt D_X3_scan 19 rfl) (m_X3_scanToken hL e13) yv_X3_75 (Or.inl ⟨(kt_112 hL), by decide⟩) rfl rfl (Nat.le_of_ble_eq_true rfl) (by decide) (by decide) (by decide) (by decide) (Kvoid ?_)
        exact Vsub [0, 1, 2] rfl (w_X3_scan_34 hL C ih  h)
def F_X3_scan (f : Nat) (u : MT) : Option MT :=
  let u1 := sI u 112 3 (0 : Int32)
  B_X3_scan_7 f f (0 : Int32) u1
theorem m_X3_scan {g : GT} {w : LT} (hL : Lay w) {f : Nat} {u : MT} {r : MT} (h : F_X3_scan f  u = some r) : Mt g yX3_scan cX3_scan 3 none 7 0 0 [.ref 112, .ref 110] w u (Qv w r) := by
  refine Mt_of (own := RX3) (by decide +kernel) rfl (Nat.le_of_ble_eq_true rfl) (fun z C _ => ?_)
  show V z g 3 0 [(0, .ref 112), (1, .ref 110)] [] w u 0 0 (Qv w r)
  rw [F_X3_scan] at h
  refine Vaload_n C 0 (dAt D_X3_scan 0 rfl) rfl rfl ?_
  refine Viconst (x := 0) C (dAt D_X3_scan 1 rfl) (by decide) ?_
  refine VputI C (dAt D_X3_scan 2 rfl) gf_X3_64 (kt_112 hL) rfl rfl rfl rfl ?_
  refine Viconst (x := 0) C (dAt D_X3_scan 3 rfl) (by decide) ?_
  refine Vistore_n (lv' := [(2, _), (0, _), (1, _)]) C (dAt D_X3_scan 4 rfl) rfl (by decide) rfl ?_
  exact Vsub [1, 2, 0] rfl (w_X3_scan_7 hL C  f _ _  h)
def F_X3_refuse (f : Nat) (tx : Nat) (x1 : Int32) (u : MT) : Option (Int32 × MT) :=
  ck (ixo (gI u 112 4) 1201) <|
  let u2 := sI u 112 5 (x1 + ((16 : Int32) * (gI u 114 ((gI u 112 4)).toNatClampNeg)))
  some ((0 : Int32), u2)
theorem m_X3_refuse {g : GT} {w : LT} (hL : Lay w) {tx : Nat} {x1 : Int32} {f : Nat} {u : MT} {r : (Int32 × MT)} (htx : isTx w tx) (hrt : lt_p w 112 7 = tx) (h : F_X3_refuse f tx x1 u = some r) : Mt g yX3_refuse cX3_refuse 2 (some .boolean) 0 0 0 [.ref 112, .int x1] w u (Qi r.1 w r.2) := by
  refine Mt_of (own := RX3) (by decide +kernel) rfl (Nat.le_of_ble_eq_true rfl) (fun z C _ => ?_)
  show V z g 2 0 [(0, .ref 112), (1, .int x1)] [] w u 0 0 (Qi r.1 w r.2)
  rw [F_X3_refuse] at h
  refine Vaload_n C 0 (dAt D_X3_refuse 0 rfl) rfl rfl ?_
  refine Viload_n C 1 (dAt D_X3_refuse 1 rfl) rfl rfl ?_
  refine Vbipush (x := 16) C (dAt D_X3_refuse 2 rfl) (by decide) ?_
  refine Vaload_n C 0 (dAt D_X3_refuse 3 rfl) rfl rfl ?_
  refine VgetP C (dAt D_X3_refuse 4 rfl) gf_X3_17 (kt_112 hL) rfl (kp_112_1 hL) ?_
  refine Vaload_n C 0 (dAt D_X3_refuse 5 rfl) rfl rfl ?_
  refine VgetI C (dAt D_X3_refuse 6 rfl) gf_X3_34 (kt_112 hL) rfl ?_
  obtain ⟨c1, h⟩ := ok_ck h
  refine Viald C (dAt D_X3_refuse 7 rfl) (kt_114 hL) (kl_114 hL) (vp_in_iff.mpr c1) ?_
  refine Vimul C (dAt D_X3_refuse 8 rfl) ?_
  refine Viadd C (dAt D_X3_refuse 9 rfl) ?_
  refine VputI C (dAt D_X3_refuse 10 rfl) gf_X3_37 (kt_112 hL) rfl rfl rfl rfl ?_
  refine Viconst (x := 0) C (dAt D_X3_refuse 11 rfl) (by decide) ?_
  cases h
  exact Vzret C (dAt D_X3_refuse 12 rfl) rfl (by decide) (by decide) ⟨rfl, rfl, rfl⟩
def F_X3_step (f : Nat) (tx : Nat) (u : MT) : Option MT :=
  if (gI u 112 3) ≤ (gI u 112 4) then
    some u
  else
    let u2 := sI u 112 4 ((gI u 112 4) + (1 : Int32))
    some u2
theorem m_X3_step {g : GT} {w : LT} (hL : Lay w) {tx : Nat} {f : Nat} {u : MT} {r : MT} (htx : isTx w tx) (hrt : lt_p w 112 7 = tx) (h : F_X3_step f tx u = some r) : Mt g yX3_step cX3_step 1 none 0 0 0 [.ref 112] w u (Qv w r) := by
  refine Mt_of (own := RX3) (by decide +kernel) rfl (Nat.le_of_ble_eq_true rfl) (fun z C _ => ?_)
  show V z g 1 0 [(0, .ref 112)] [] w u 0 0 (Qv w r)
  rw [F_X3_step] at h
  refine Vaload_n C 0 (dAt D_X3_step 0 rfl) rfl rfl ?_
  refine VgetI C (dAt D_X3_step 1 rfl) gf_X3_34 (kt_112 hL) rfl ?_
  refine Vaload_n C 0 (dAt D_X3_step 2 rfl) rfl rfl ?_
  refine VgetI C (dAt D_X3_step 3 rfl) gf_X3_64 (kt_112 hL) rfl ?_
  refine Vicmp_ge (tgt := 21) C (dAt D_X3_step 4 rfl) (by decide) (fun c1 => ?_) (fun c1 => ?_)
  · have h := ok_t c1 h
    cases h
    exact Vvret C (dAt D_X3_step 11 rfl) (by decide) (by decide) ⟨rfl, rfl, rfl⟩
  · have h := ok_f c1 h
    refine Vaload_n C 0 (dAt D_X3_step 5 rfl) rfl rfl ?_
    refine Vdup C (dAt D_X3_step 6 rfl) rfl ?_
    refine VgetI C (dAt D_X3_step 7 rfl) gf_X3_34 (kt_112 hL) rfl ?_
    refine Viconst (x := 1) C (dAt D_X3_step 8 rfl) (by decide) ?_
    refine Viadd C (dAt D_X3_step 9 rfl) ?_
    refine VputI C (dAt D_X3_step 10 rfl) gf_X3_34 (kt_112 hL) rfl rfl rfl rfl ?_
    cases h
    exact Vvret C (dAt D_X3_step 11 rfl) (by decide) (by decide) ⟨rfl, rfl, rfl⟩
def F_X3_take (f : Nat) (tx : Nat) (a1 : Nat) (u : MT) : Option (Int32 × MT) :=
  ck (ixo (gI u 112 4) 1201) <|
  ck ((gK u 113 ((gI u 112 4)).toNatClampNeg) ≤ 34) <|
  ck (a1 ≤ 34) <|
  if (gK u 113 ((gI u 112 4)).toNatClampNeg) = a1 then
    (F_X3_step f tx u).bind fun r5 =>
    some ((1 : Int32), r5)
  else
    (F_X3_refuse f tx (1 : Int32) u).bind fun r7 =>
    ck (r7.1 = 0 ∨ r7.1 = 1) <|
    some (r7.1, r7.2)
theorem m_X3_take {g : GT} {w : LT} (hL : Lay w) {tx : Nat} {a1 : Nat} {f : Nat} {u : MT} {r : (Int32 × MT)} (htx : isTx w tx) (hrt : lt_p w 112 7 = tx) (h : F_X3_take f tx a1 u = some r) : Mt g yX3_take cX3_take 2 (some .boolean) 1 0 0 [.ref 112, .ref a1] w u (Qi r.1 w r.2) := by
  refine Mt_of (own := RX3) (by decide +kernel) rfl (Nat.le_of_ble_eq_true rfl) (fun z C _ => ?_)
  show V z g 2 0 [(0, .ref 112), (1, .ref a1)] [] w u 0 0 (Qi r.1 w r.2)
  rw [F_X3_take] at h
  refine Vaload_n C 0 (dAt D_X3_take 0 rfl) rfl rfl ?_
  refine VgetP C (dAt D_X3_take 1 rfl) gf_X3_11 (kt_112 hL) rfl (kp_112_0 hL) ?_
  refine Vaload_n C 0 (dAt D_X3_take 2 rfl) rfl rfl ?_
  refine VgetI C (dAt D_X3_take 3 rfl) gf_X3_34 (kt_112 hL) rfl ?_
  obtain ⟨c1, h⟩ := ok_ck h
  refine VaaldK C (dAt D_X3_take 4 rfl) (kt_113 hL) (kl_113 hL) (vp_in_iff.mpr c1) ?_
  refine Vaload_n C 1 (dAt D_X3_take 5 rfl) rfl rfl ?_
  obtain ⟨c2, h⟩ := ok_ck h
  obtain ⟨c3, h⟩ := ok_ck h
  refine Vacmp_eq (tgt := 19) C (dAt D_X3_take 6 rfl) (by decide) c2 c3 (fun c4 => ?_) (fun c4 => ?_)
  · have h := ok_t c4 h
    refine Vaload_n C 0 (dAt D_X3_take 11 rfl) rfl rfl ?_
    obtain ⟨r5, e6, h⟩ := ok_b h
    refine VcallV (as := []) C (dAt D_X3_take 12 rfl) (m_X3_step hL htx hrt e6) yv_X3_102 (Or.inl ⟨(kt_112 hL), by decide⟩) rfl rfl (Nat.le_of_ble_eq_true rfl) (by decide) (by decide) (by decide) (by decide) (Kvoid ?_)
    refine Viconst (x := 1) C (dAt D_X3_take 13 rfl) (by decide) ?_
    cases h
    exact Vzret C (dAt D_X3_take 14 rfl) rfl (by decide) (by decide) ⟨rfl, rfl, rfl⟩
  · have h := ok_f c4 h
    refine Vaload_n C 0 (dAt D_X3_take 7 rfl) rfl rfl ?_
    refine Viconst (x := 1) C (dAt D_X3_take 8 rfl) (by decide) ?_
    obtain ⟨r7, e8, h⟩ := ok_b h
    refine VcallV (as := [_]) C (dAt D_X3_take 9 rfl) (m_X3_refuse hL htx hrt e8) yv_X3_99 (Or.inl ⟨(kt_112 hL), by decide⟩) rfl rfl (Nat.le_of_ble_eq_true rfl) (by decide) (by decide) (by decide) (by decide) (Kint ?_)
    obtain ⟨c9, h⟩ := ok_ck h
    cases h
    exact Vzret C (dAt D_X3_take 10 rfl) (nz01 c9) (by decide) (by decide) ⟨rfl, rfl, rfl⟩
