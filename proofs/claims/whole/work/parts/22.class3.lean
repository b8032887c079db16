def B_X3_takeOneOf_37 (f : Nat) (tx : Nat) (a4 : Nat) (u : MT) : Option (Nat × MT) :=
  (F_X3_step f tx u).bind fun r11 =>
  some (a4, r11)
theorem w_X3_takeOneOf_37 {z : ZT} {g : GT} {w : LT} (hL : Lay w) {tx : Nat} (htx : isTx w tx) (hrt : lt_p w 112 7 = tx) (C : Cx z g cX3_takeOneOf 5 RX3 (some (.object "SunVillage$Token")) 1 0 0) {f : Nat} {r : (Nat × MT)} {a4 : Nat} {u : MT} (h : B_X3_takeOneOf_37 f tx a4 u = some r) : V z g 5 37 [(0, .ref 112), (4, .ref a4)] [] w u 0 0 (Qr r.1 w r.2) := by
  rw [B_X3_takeOneOf_37] at h
  refine Vaload_n C 0 (dAt D_X3_takeOneOf 21 rfl) rfl rfl ?_
  obtain ⟨r11, e12, h⟩ := ok_b h
  refine VcallV (as := []) C (dAt D_X3_takeOneOf 22 rfl) (m_X3_step hL htx hrt e12) yv_X3_102 (Or.inl ⟨(kt_112 hL), by decide⟩) rfl rfl (Nat.le_of_ble_eq_true rfl) (by decide) (by decide) (by decide) (by decide) (Kvoid ?_)
  refine Vaload C 1 (dAt D_X3_takeOneOf 23 rfl) rfl ?_
  cases h
  exact Varet C (dAt D_X3_takeOneOf 24 rfl) (by decide) (by decide) ⟨rfl, rfl, rfl⟩
def F_X3_takeOneOf (f : Nat) (tx : Nat) (a1 : Nat) (a2 : Nat) (a3 : Nat) (u : MT) : Option (Nat × MT) :=
  ck (ixo (gI u 112 4) 1201) <|
  ck ((gK u 113 ((gI u 112 4)).toNatClampNeg) ≤ 34) <|
  ck (a1 ≤ 34) <|
  if (gK u 113 ((gI u 112 4)).toNatClampNeg) = a1 then
    B_X3_takeOneOf_37 f tx (gK u 113 ((gI u 112 4)).toNatClampNeg) u
  else
    ck (a2 ≤ 34) <|
    if (gK u 113 ((gI u 112 4)).toNatClampNeg) = a2 then
      B_X3_takeOneOf_37 f tx (gK u 113 ((gI u 112 4)).toNatClampNeg) u
    else
      ck (a3 ≤ 34) <|
      if (gK u 113 ((gI u 112 4)).toNatClampNeg) = a3 then
        B_X3_takeOneOf_37 f tx (gK u 113 ((gI u 112 4)).toNatClampNeg) u
      else
        (F_X3_refuse f tx (1 : Int32) u).bind fun r9 =>
        some (0, r9.2)
theorem m_X3_takeOneOf {g : GT} {w : LT} (hL : Lay w) {tx : Nat} {a1 : Nat} {a2 : Nat} {a3 : Nat} {f : Nat} {u : MT} {r : (Nat × MT)} (htx : isTx w tx) (hrt : lt_p w 112 7 = tx) (h : F_X3_takeOneOf f tx a1 a2 a3 u = some r) : Mt g yX3_takeOneOf cX3_takeOneOf 5 (some (.object "SunVillage$Token")) 1 0 0 [.ref 112, .ref a1, .ref a2, .ref a3] w u (Qr r.1 w r.2) := by
  refine Mt_of (own := RX3) (by decide +kernel) rfl (Nat.le_of_ble_eq_true rfl) (fun z C _ => ?_)
  show V z g 5 0 [(0, .ref 112), (1, .ref a1), (2, .ref a2), (3, .ref a3)] [] w u 0 0 (Qr r.1 w r.2)
  rw [F_X3_takeOneOf] at h
  refine Vaload_n C 0 (dAt D_X3_takeOneOf 0 rfl) rfl rfl ?_
  refine VgetP C (dAt D_X3_takeOneOf 1 rfl) gf_X3_11 (kt_112 hL) rfl (kp_112_0 hL) ?_
  refine Vaload_n C 0 (dAt D_X3_takeOneOf 2 rfl) rfl rfl ?_
  refine VgetI C (dAt D_X3_takeOneOf 3 rfl) gf_X3_34 (kt_112 hL) rfl ?_
  obtain ⟨c1, h⟩ := ok_ck h
  refine VaaldK C (dAt D_X3_takeOneOf 4 rfl) (kt_113 hL) (kl_113 hL) (vp_in_iff.mpr c1) ?_
  refine Vastore (lv' := [(4, _), (0, _), (1, _), (2, _), (3, _)]) C (dAt D_X3_takeOneOf 5 rfl) (by decide) rfl ?_
  refine Vaload C 0 (dAt D_X3_takeOneOf 6 rfl) rfl ?_
  refine Vaload_n C 2 (dAt D_X3_takeOneOf 7 rfl) rfl rfl ?_
  obtain ⟨c2, h⟩ := ok_ck h
  obtain ⟨c3, h⟩ := ok_ck h
  refine Vacmp_eq (tgt := 37) C (dAt D_X3_takeOneOf 8 rfl) (by decide) c2 c3 (fun c4 => ?_) (fun c4 => ?_)
  · have h := ok_t c4 h
    exact Vsub [1, 0] rfl (w_X3_takeOneOf_37 hL htx hrt C  h)
  · have h := ok_f c4 h
    refine Vaload C 0 (dAt D_X3_takeOneOf 9 rfl) rfl ?_
    refine Vaload_n C 3 (dAt D_X3_takeOneOf 10 rfl) rfl rfl ?_
    obtain ⟨c5, h⟩ := ok_ck h
    refine Vacmp_eq (tgt := 37) C (dAt D_X3_takeOneOf 11 rfl) (by decide) c2 c5 (fun c6 => ?_) (fun c6 => ?_)
    · have h := ok_t c6 h
      exact Vsub [1, 0] rfl (w_X3_takeOneOf_37 hL htx hrt C  h)
    · have h := ok_f c6 h
      refine Vaload C 0 (dAt D_X3_takeOneOf 12 rfl) rfl ?_
      refine Vaload_n C 4 (dAt D_X3_takeOneOf 13 rfl) rfl rfl ?_
      obtain ⟨c7, h⟩ := ok_ck h
      refine Vacmp_eq (tgt := 37) C (dAt D_X3_takeOneOf 14 rfl) (by decide) c2 c7 (fun c8 => ?_) (fun c8 => ?_)
      · have h := ok_t c8 h
        exact Vsub [1, 0] rfl (w_X3_takeOneOf_37 hL htx hrt C  h)
      · have h := ok_f c8 h
        refine Vaload_n C 1 (dAt D_X3_takeOneOf 15 rfl) rfl rfl ?_
        refine Viconst (x := 1) C (dAt D_X3_takeOneOf 16 rfl) (by decide) ?_
        obtain ⟨r9, e10, h⟩ := ok_b h
        refine VcallV (as := [_]) C (dAt D_X3_takeOneOf 17 rfl) (m_X3_refuse hL htx hrt e10) yv_X3_99 (Or.inl ⟨(kt_112 hL), by decide⟩) rfl rfl (Nat.le_of_ble_eq_true rfl) (by decide) (by decide) (by decide) (by decide) (Kint ?_)
        refine Vpop C (dAt D_X3_takeOneOf 18 rfl) rfl ?_
        refine Vnull C (dAt D_X3_takeOneOf 19 rfl) ?_
        cases h
        exact Varet C (dAt D_X3_takeOneOf 20 rfl) (by decide) (by decide) ⟨rfl, rfl, rfl⟩
def F_X3_takeRest (f : Nat) (tx : Nat) (u : MT) : Option (Int32 × MT) :=
  (F_X3_take f tx 20 u).bind fun r1 =>
  if r1.1 = 0 then
    some ((0 : Int32), r1.2)
  else
    (F_X3_takeOneOf f tx 32 33 34 r1.2).bind fun r4 =>
    let u6 := sK r4.2 tx 2 r4.1
    if (gK u6 tx 2) = 0 then
      some ((0 : Int32), u6)
    else
      (F_X3_take f tx 6 u6).bind fun r8 =>
      if r8.1 = 0 then
        some ((0 : Int32), r8.2)
      else
        (F_X3_take f tx 2 r8.2).bind fun r11 =>
        if r11.1 = 0 then
          some ((0 : Int32), r11.2)
        else
          some ((1 : Int32), r11.2)
theorem m_X3_takeRest {g : GT} {w : LT} (hL : Lay w) {tx : Nat} {f : Nat} {u : MT} {r : (Int32 × MT)} (htx : isTx w tx) (hrt : lt_p w 112 7 = tx) (h : F_X3_takeRest f tx u = some r) : Mt g yX3_takeRest cX3_takeRest 1 (some .boolean) 2 0 0 [.ref 112] w u (Qi r.1 w r.2) := by
  refine Mt_of (own := RX3) (by decide +kernel) rfl (Nat.le_of_ble_eq_true rfl) (fun z C _ => ?_)
  show V z g 1 0 [(0, .ref 112)] [] w u 0 0 (Qi r.1 w r.2)
  rw [F_X3_takeRest] at h
  refine Vaload_n C 0 (dAt D_X3_takeRest 0 rfl) rfl rfl ?_
  refine Vtok (i := 19) (x := 20) C (dAt D_X3_takeRest 1 rfl) gs_X3_53 (by decide) rfl rfl ?_
  obtain ⟨r1, e2, h⟩ := ok_b h
  refine VcallV (as := [_]) C (dAt D_X3_takeRest 2 rfl) (m_X3_take hL htx hrt e2) yv_X3_105 (Or.inl ⟨(kt_112 hL), by decide⟩) rfl rfl (Nat.le_of_ble_eq_true rfl) (by decide) (by decide) (by decide) (by decide) (Kint ?_)
  refine Vif_ne (tgt := 12) C (dAt D_X3_takeRest 3 rfl) (by decide) (fun c3 => ?_) (fun c3 => ?_)
  · have h := ok_f c3 h
    refine Vaload_n C 0 (dAt D_X3_takeRest 6 rfl) rfl rfl ?_
    refine VgetP C (dAt D_X3_takeRest 7 rfl) gf_X3_43 (kt_112 hL) rfl hrt ?_
    refine Vaload_n C 0 (dAt D_X3_takeRest 8 rfl) rfl rfl ?_
    refine Vtok (i := 31) (x := 32) C (dAt D_X3_takeRest 9 rfl) gs_X3_109 (by decide) rfl rfl ?_
    refine Vtok (i := 32) (x := 33) C (dAt D_X3_takeRest 10 rfl) gs_X3_112 (by decide) rfl rfl ?_
    refine Vtok (i := 33) (x := 34) C (dAt D_X3_takeRest 11 rfl) gs_X3_115 (by decide) rfl rfl ?_
    obtain ⟨r4, e5, h⟩ := ok_b h
    refine VcallV (as := [_, _, _]) C (dAt D_X3_takeRest 12 rfl) (m_X3_takeOneOf hL htx hrt e5) yv_X3_118 (Or.inl ⟨(kt_112 hL), by decide⟩) rfl rfl (Nat.le_of_ble_eq_true rfl) (by decide) (by decide) (by decide) (by decide) (Kref ?_)
    refine VputK C (dAt D_X3_takeRest 13 rfl) gf_X3_122 (htx).1 rfl rfl rfl ?_
    refine Vaload_n C 0 (dAt D_X3_takeRest 14 rfl) rfl rfl ?_
    refine VgetP C (dAt D_X3_takeRest 15 rfl) gf_X3_43 (kt_112 hL) rfl hrt ?_
    refine VgetK C (dAt D_X3_takeRest 16 rfl) gf_X3_122 (htx).1 rfl ?_
    refine Vifnull (tgt := 66) C (dAt D_X3_takeRest 17 rfl) (by decide) (fun c7 => ?_) (fun c7 => ?_)
    · have h := ok_t c7 h
      refine Viconst (x := 0) C (dAt D_X3_takeRest 28 rfl) (by decide) ?_
      cases h
      exact Vzret C (dAt D_X3_takeRest 29 rfl) rfl (by decide) (by decide) ⟨rfl, rfl, rfl⟩
    · have h := ok_f c7 h
      refine Vaload_n C 0 (dAt D_X3_takeRest 18 rfl) rfl rfl ?_
      refine Vtok (i := 5) (x := 6) C (dAt D_X3_takeRest 19 rfl) gs_X3_125 (by decide) rfl rfl ?_
      obtain ⟨r8, e9, h⟩ := ok_b h
      refine VcallV (as := [_]) C (dAt D_X3_takeRest 20 rfl) (m_X3_take hL htx hrt e9) yv_X3_105 (Or.inl ⟨(kt_112 hL), by decide⟩) rfl rfl (Nat.le_of_ble_eq_true rfl) (by decide) (by decide) (by decide) (by decide) (Kint ?_)
      refine Vif_eq (tgt := 66) C (dAt D_X3_takeRest 21 rfl) (by decide) (fun c10 => ?_) (fun c10 => ?_)
      · have h := ok_t c10 h
        refine Viconst (x := 0) C (dAt D_X3_takeRest 28 rfl) (by decide) ?_
        cases h
        exact Vzret C (dAt D_X3_takeRest 29 rfl) rfl (by decide) (by decide) ⟨rfl, rfl, rfl⟩
      · have h := ok_f c10 h
        refine Vaload_n C 0 (dAt D_X3_takeRest 22 rfl) rfl rfl ?_
        refine Vtok (i := 1) (x := 2) C (dAt D_X3_takeRest 23 rfl) gs_X3_79 (by decide) rfl rfl ?_
        obtain ⟨r11, e12, h⟩ := ok_b h
        refine VcallV (as := [_]) C (dAt D_X3_takeRest 24 rfl) (m_X3_take hL htx hrt e12) yv_X3_105 (Or.inl ⟨(kt_112 hL), by decide⟩) rfl rfl (Nat.le_of_ble_eq_true rfl) (by decide) (by decide) (by decide) (by decide) (Kint ?_)
        refine Vif_eq (tgt := 66) C (dAt D_X3_takeRest 25 rfl) (by decide) (fun c13 => ?_) (fun c13 => ?_)
        · have h := ok_t c13 h
          refine Viconst (x := 0) C (dAt D_X3_takeRest 28 rfl) (by decide) ?_
          cases h
          exact Vzret C (dAt D_X3_takeRest 29 rfl) rfl (by decide) (by decide) ⟨rfl, rfl, rfl⟩
        · have h := ok_f c13 h
          refine Viconst (x := 1) C (dAt D_X3_takeRest 26 rfl) (by decide) ?_
          refine Vgoto (tgt := 67) C (dAt D_X3_takeRest 27 rfl) (by decide) ?_
          cases h
          exact Vzret C (dAt D_X3_takeRest 29 rfl) rfl (by decide) (by decide) ⟨rfl, rfl, rfl⟩
  · have h := ok_t c3 h
    refine Viconst (x := 0) C (dAt D_X3_takeRest 4 rfl) (by decide) ?_
    cases h
    exact Vzret C (dAt D_X3_takeRest 5 rfl) rfl (by decide) (by decide) ⟨rfl, rfl, rfl⟩
def F_X9_price (f : Nat) (a0 : Nat) (u : MT) : Option (Int32 × MT) :=
  if a0 = 9 then
    some ((10 : Int32), u)
  else
    if a0 = 10 then
      some ((11 : Int32), u)
    else
      if a0 = 30 then
        some ((12 : Int32), u)
      else
        if a0 = 31 then
          some ((13 : Int32), u)
        else
          some ((-1 : Int32), u)
theorem m_X9_price {g : GT} {w : LT} (hL : Lay w) {a0 : Nat} {f : Nat} {u : MT} {r : (Int32 × MT)} (k0 : 1 ≤ a0) (k0b : a0 ≤ 34) (h : F_X9_price f a0 u = some r) : Mt g yX9_price cX9_price 1 (some .int) 0 0 0 [.ref a0] w u (Qi r.1 w r.2) := by
  refine Mt_of (own := RX9) (by decide +kernel) rfl (Nat.le_of_ble_eq_true rfl) (fun z C _ => ?_)
  show V z g 1 0 [(0, .ref a0)] [] w u 0 0 (Qi r.1 w r.2)
  rw [F_X9_price] at h
  refine Vaload_n C 0 (dAt D_X9_price 0 rfl) rfl rfl ?_
  refine Vtok (i := 8) (x := 9) C (dAt D_X9_price 1 rfl) gs_X9_30 (by decide) rfl rfl ?_
  refine Vacmp_ne (tgt := 10) C (dAt D_X9_price 2 rfl) (by decide) k0b (by decide) (fun c1 => ?_) (fun c1 => ?_)
  · have h := ok_f c1 h
    refine Vaload_n C 0 (dAt D_X9_price 5 rfl) rfl rfl ?_
    refine Vtok (i := 9) (x := 10) C (dAt D_X9_price 6 rfl) gs_X9_33 (by decide) rfl rfl ?_
    refine Vacmp_ne (tgt := 20) C (dAt D_X9_price 7 rfl) (by decide) k0b (by decide) (fun c2 => ?_) (fun c2 => ?_)
    · have h := ok_f c2 h
      refine Vaload_n C 0 (dAt D_X9_price 10 rfl) rfl rfl ?_
      refine Vtok (i := 29) (x := 30) C (dAt D_X9_price 11 rfl) gs_X9_93 (by decide) rfl rfl ?_
      refine Vacmp_ne (tgt := 30) C (dAt D_X9_price 12 rfl) (by decide) k0b (by decide) (fun c3 => ?_) (fun c3 => ?_)
      · have h := ok_f c3 h
        refine Vaload_n C 0 (dAt D_X9_price 15 rfl) rfl rfl ?_
        refine Vtok (i := 30) (x := 31) C (dAt D_X9_price 16 rfl) gs_X9_96 (by decide) rfl rfl ?_
        refine Vacmp_ne (tgt := 42) C (dAt D_X9_price 17 rfl) (by decide) k0b (by decide) (fun c4 => ?_) (fun c4 => ?_)
        · have h := ok_f c4 h
          refine Viconst (x := (-1)) C (dAt D_X9_price 20 rfl) (by decide) ?_
          cases h
          exact Viret C (dAt D_X9_price 21 rfl) (by decide) (by decide) ⟨rfl, rfl, rfl⟩
        · have h := ok_t c4 h
          refine Vbipush (x := 13) C (dAt D_X9_price 18 rfl) (by decide) ?_
          refine Vgoto (tgt := 43) C (dAt D_X9_price 19 rfl) (by decide) ?_
          cases h
          exact Viret C (dAt D_X9_price 21 rfl) (by decide) (by decide) ⟨rfl, rfl, rfl⟩
      · have h := ok_t c3 h
        refine Vbipush (x := 12) C (dAt D_X9_price 13 rfl) (by decide) ?_
        cases h
        exact Viret C (dAt D_X9_price 14 rfl) (by decide) (by decide) ⟨rfl, rfl, rfl⟩
    · have h := ok_t c2 h
      refine Vbipush (x := 11) C (dAt D_X9_price 8 rfl) (by decide) ?_
      cases h
      exact Viret C (dAt D_X9_price 9 rfl) (by decide) (by decide) ⟨rfl, rfl, rfl⟩
  · have h := ok_t c1 h
    refine Vbipush (x := 10) C (dAt D_X9_price 3 rfl) (by decide) ?_
    cases h
    exact Viret C (dAt D_X9_price 4 rfl) (by decide) (by decide) ⟨rfl, rfl, rfl⟩
def F_X3_takeNumber (f : Nat) (tx : Nat) (a1 : Nat) (x2 : Int32) (x3 : Int32) (u : MT) : Option (Int32 × MT) :=
  ck (ixo (gI u 112 4) 1201) <|
  ck ((gK u 113 ((gI u 112 4)).toNatClampNeg) ≤ 34) <|
  if (gK u 113 ((gI u 112 4)).toNatClampNeg) = 3 then
    (F_X11_isIn f (gI u 115 ((gI u 112 4)).toNatClampNeg) x2 x3 u).bind fun r4 =>
    if r4.1 = 0 then
      (F_X3_refuse f tx (4 : Int32) r4.2).bind fun r7 =>
      ck (r7.1 = 0 ∨ r7.1 = 1) <|
      some (r7.1, r7.2)
    else
      ck (ixo (gI r4.2 112 4) 1201) <|
      let u11 := sI r4.2 a1 9 (gI r4.2 115 ((gI r4.2 112 4)).toNatClampNeg)
      (F_X3_step f tx u11).bind fun r12 =>
      some ((1 : Int32), r12)
  else
    (F_X3_refuse f tx (1 : Int32) u).bind fun r14 =>
    ck (r14.1 = 0 ∨ r14.1 = 1) <|
    some (r14.1, r14.2)
theorem m_X3_takeNumber {g : GT} {w : LT} (hL : Lay w) {tx : Nat} {a1 : Nat} {x2 : Int32} {x3 : Int32} {f : Nat} {u : MT} {r : (Int32 × MT)} (htx : isTx w tx) (hrt : lt_p w 112 7 = tx) (k1 : lt_t w a1 = 5) (h : F_X3_takeNumber f tx a1 x2 x3 u = some r) : Mt g yX3_takeNumber cX3_takeNumber 4 (some .boolean) 1 0 0 [.ref 112, .ref a1, .int x2, .int x3] w u (Qi r.1 w r.2) := by
  refine Mt_of (own := RX3) (by decide +kernel) rfl (Nat.le_of_ble_eq_true rfl) (fun z C _ => ?_)
  show V z g 4 0 [(0, .ref 112), (1, .ref a1), (2, .int x2), (3, .int x3)] [] w u 0 0 (Qi r.1 w r.2)
  rw [F_X3_takeNumber] at h
  refine Vaload_n C 0 (dAt D_X3_takeNumber 0 rfl) rfl rfl ?_
  refine VgetP C (dAt D_X3_takeNumber 1 rfl) gf_X3_11 (kt_112 hL) rfl (kp_112_0 hL) ?_
  refine Vaload_n C 0 (dAt D_X3_takeNumber 2 rfl) rfl rfl ?_
  refine VgetI C (dAt D_X3_takeNumber 3 rfl) gf_X3_34 (kt_112 hL) rfl ?_
  obtain ⟨c1, h⟩ := ok_ck h
  refine VaaldK C (dAt D_X3_takeNumber 4 rfl) (kt_113 hL) (kl_113 hL) (vp_in_iff.mpr c1) ?_
  refine Vtok (i := 2) (x := 3) C (dAt D_X3_takeNumber 5 rfl) gs_X3_92 (by decide) rfl rfl ?_
  obtain ⟨c2, h⟩ := ok_ck h
  refine Vacmp_eq (tgt := 21) C (dAt D_X3_takeNumber 6 rfl) (by decide) c2 (by decide) (fun c3 => ?_) (fun c3 => ?_)
  · have h := ok_t c3 h
    refine Vaload_n C 0 (dAt D_X3_takeNumber 11 rfl) rfl rfl ?_
    refine VgetP C (dAt D_X3_takeNumber 12 rfl) gf_X3_21 (kt_112 hL) rfl (kp_112_2 hL) ?_
    refine Vaload_n C 0 (dAt D_X3_takeNumber 13 rfl) rfl rfl ?_
    refine VgetI C (dAt D_X3_takeNumber 14 rfl) gf_X3_34 (kt_112 hL) rfl ?_
    refine Viald C (dAt D_X3_takeNumber 15 rfl) (kt_115 hL) (kl_115 hL) (vp_in_iff.mpr c1) ?_
    refine Viload_n C 2 (dAt D_X3_takeNumber 16 rfl) rfl rfl ?_
    refine Viload_n C 3 (dAt D_X3_takeNumber 17 rfl) rfl rfl ?_
    obtain ⟨r4, e5, h⟩ := ok_b h
    refine VcallS (as := [_, _, _]) C (dAt D_X3_takeNumber 18 rfl) (m_X11_isIn hL e5) yb_X3_190 ys_X3_190 rfl rfl (Nat.le_of_ble_eq_true rfl) (by decide) (by decide) (by decide) (by decide) (Kint ?_)
    refine Vif_ne (tgt := 44) C (dAt D_X3_takeNumber 19 rfl) (by decide) (fun c6 => ?_) (fun c6 => ?_)
    · have h := ok_f c6 h
      refine Vaload_n C 1 (dAt D_X3_takeNumber 24 rfl) rfl rfl ?_
      refine Vaload_n C 0 (dAt D_X3_takeNumber 25 rfl) rfl rfl ?_
      refine VgetP C (dAt D_X3_takeNumber 26 rfl) gf_X3_21 (kt_112 hL) rfl (kp_112_2 hL) ?_
      refine Vaload_n C 0 (dAt D_X3_takeNumber 27 rfl) rfl rfl ?_
      refine VgetI C (dAt D_X3_takeNumber 28 rfl) gf_X3_34 (kt_112 hL) rfl ?_
      obtain ⟨c10, h⟩ := ok_ck h
      refine Viald C (dAt D_X3_takeNumber 29 rfl) (kt_115 hL) (kl_115 hL) (vp_in_iff.mpr c10) ?_
      refine VputI C (dAt D_X3_takeNumber 30 rfl) gf_X3_194 k1 rfl rfl rfl rfl ?_
      refine Vaload_n C 0 (dAt D_X3_takeNumber 31 rfl) rfl rfl ?_
      obtain ⟨r12, e13, h⟩ := ok_b h
      refine VcallV (as := []) C (dAt D_X3_takeNumber 32 rfl) (m_X3_step hL htx hrt e13) yv_X3_102 (Or.inl ⟨(kt_112 hL), by decide⟩) rfl rfl (Nat.le_of_ble_eq_true rfl) (by decide) (by decide) (by decide) (by decide) (Kvoid ?_)
      refine Viconst (x := 1) C (dAt D_X3_takeNumber 33 rfl) (by decide) ?_
      cases h
      exact Vzret C (dAt D_X3_takeNumber 34 rfl) rfl (by decide) (by decide) ⟨rfl, rfl, rfl⟩
    · have h := ok_t c6 h
      refine Vaload_n C 0 (dAt D_X3_takeNumber 20 rfl) rfl rfl ?_
      refine Viconst (x := 4) C (dAt D_X3_takeNumber 21 rfl) (by decide) ?_
      obtain ⟨r7, e8, h⟩ := ok_b h
      refine VcallV (as := [_]) C (dAt D_X3_takeNumber 22 rfl) (m_X3_refuse hL htx hrt e8) yv_X3_99 (Or.inl ⟨(kt_112 hL), by decide⟩) rfl rfl (Nat.le_of_ble_eq_true rfl) (by decide) (by decide) (by decide) (by decide) (Kint ?_)
      obtain ⟨c9, h⟩ := ok_ck h
      cases h
      exact Vzret C (dAt D_X3_takeNumber 23 rfl) (nz01 c9) (by decide) (by decide) ⟨rfl, rfl, rfl⟩
  · have h := ok_f c3 h
    refine Vaload_n C 0 (dAt D_X3_takeNumber 7 rfl) rfl rfl ?_
    refine Viconst (x := 1) C (dAt D_X3_takeNumber 8 rfl) (by decide) ?_
    obtain ⟨r14, e15, h⟩ := ok_b h
    refine VcallV (as := [_]) C (dAt D_X3_takeNumber 9 rfl) (m_X3_refuse hL htx hrt e15) yv_X3_99 (Or.inl ⟨(kt_112 hL), by decide⟩) rfl rfl (Nat.le_of_ble_eq_true rfl) (by decide) (by decide) (by decide) (by decide) (Kint ?_)
    obtain ⟨c16, h⟩ := ok_ck h
    cases h
    exact Vzret C (dAt D_X3_takeNumber 10 rfl) (nz01 c16) (by decide) (by decide) ⟨rfl, rfl, rfl⟩
def F_X3_takePrice (f : Nat) (tx : Nat) (a1 : Nat) (u : MT) : Option (Int32 × MT) :=
  ck (ixo (gI u 112 4) 1201) <|
  ck (1 ≤ (gK u 113 ((gI u 112 4)).toNatClampNeg) ∧ (gK u 113 ((gI u 112 4)).toNatClampNeg) ≤ 34) <|
  (F_X9_price f (gK u 113 ((gI u 112 4)).toNatClampNeg) u).bind fun r3 =>
  let u5 := sI r3.2 a1 8 r3.1
  if (gI u5 a1 8) = (-1 : Int32) then
    (F_X3_refuse f tx (1 : Int32) u5).bind fun r7 =>
    ck (r7.1 = 0 ∨ r7.1 = 1) <|
    some (r7.1, r7.2)
  else
    (F_X3_step f tx u5).bind fun r10 =>
    (F_X3_takeNumber f tx a1 (0 : Int32) (100 : Int32) r10).bind fun r12 =>
    ck (r12.1 = 0 ∨ r12.1 = 1) <|
    some (r12.1, r12.2)
theorem m_X3_takePrice {g : GT} {w : LT} (hL : Lay w) {tx : Nat} {a1 : Nat} {f : Nat} {u : MT} {r : (Int32 × MT)} (htx : isTx w tx) (hrt : lt_p w 112 7 = tx) (k1 : lt_t w a1 = 5) (h : F_X3_takePrice f tx a1 u = some r) : Mt g yX3_takePrice cX3_takePrice 2 (some .boolean) 2 0 0 [.ref 112, .ref a1] w u (Qi r.1 w r.2) := by
  refine Mt_of (own := RX3) (by decide +kernel) rfl (Nat.le_of_ble_eq_true rfl) (fun z C _ => ?_)
  show V z g 2 0 [(0, .ref 112), (1, .ref a1)] [] w u 0 0 (Qi r.1 w r.2)
  rw [F_X3_takePrice] at h
  refine Vaload_n C 1 (dAt D_X3_takePrice 0 rfl) rfl rfl ?_
  refine Vaload_n C 0 (dAt D_X3_takePrice 1 rfl) rfl rfl ?_
  refine VgetP C (dAt D_X3_takePrice 2 rfl) gf_X3_11 (kt_112 hL) rfl (kp_112_0 hL) ?_
  refine Vaload_n C 0 (dAt D_X3_takePrice 3 rfl) rfl rfl ?_
  refine VgetI C (dAt D_X3_takePrice 4 rfl) gf_X3_34 (kt_112 hL) rfl ?_
  obtain ⟨c1, h⟩ := ok_ck h
  refine VaaldK C (dAt D_X3_takePrice 5 rfl) (kt_113 hL) (kl_113 hL) (vp_in_iff.mpr c1) ?_
  obtain ⟨c2, h⟩ := ok_ck h
  obtain ⟨r3, e4, h⟩ := ok_b h
  refine VcallV (as := []) C (dAt D_X3_takePrice 6 rfl) (m_X9_price hL c2.1 c2.2 e4) yv_X3_180 (Or.inr ⟨rfl, c2.1, c2.2⟩) rfl rfl (Nat.le_of_ble_eq_true rfl) (by decide) (by decide) (by decide) (by decide) (Kint ?_)
  refine VputI C (dAt D_X3_takePrice 7 rfl) gf_X3_184 k1 rfl rfl rfl rfl ?_
  refine Vaload_n C 1 (dAt D_X3_takePrice 8 rfl) rfl rfl ?_
  refine VgetI C (dAt D_X3_takePrice 9 rfl) gf_X3_184 k1 rfl ?_
  refine Viconst (x := (-1)) C (dAt D_X3_takePrice 10 rfl) (by decide) ?_
  refine Vicmp_ne (tgt := 30) C (dAt D_X3_takePrice 11 rfl) (by decide) (fun c6 => ?_) (fun c6 => ?_)
  · have h := ok_f c6 h
    refine Vaload_n C 0 (dAt D_X3_takePrice 16 rfl) rfl rfl ?_
    obtain ⟨r10, e11, h⟩ := ok_b h
    refine VcallV (as := []) C (dAt D_X3_takePrice 17 rfl) (m_X3_step hL htx hrt e11) yv_X3_102 (Or.inl ⟨(kt_112 hL), by decide⟩) rfl rfl (Nat.le_of_ble_eq_true rfl) (by decide) (by decide) (by decide) (by decide) (Kvoid ?_)
    refine Vaload_n C 0 (dAt D_X3_takePrice 18 rfl) rfl rfl ?_
    refine Vaload_n C 1 (dAt D_X3_takePrice 19 rfl) rfl rfl ?_
    refine Viconst (x := 0) C (dAt D_X3_takePrice 20 rfl) (by decide) ?_
    refine Vbipush (x := 100) C (dAt D_X3_takePrice 21 rfl) (by decide) ?_
    obtain ⟨r12, e13, h⟩ := ok_b h
    refine VcallV (as := [_, _, _]) C (dAt D_X3_takePrice 22 rfl) (m_X3_takeNumber hL htx hrt k1 e13) yv_X3_186 (Or.inl ⟨(kt_112 hL), by decide⟩) rfl rfl (Nat.le_of_ble_eq_true rfl) (by decide) (by decide) (by decide) (by decide) (Kint ?_)
    obtain ⟨c14, h⟩ := ok_ck h
    cases h
    exact Vzret C (dAt D_X3_takePrice 23 rfl) (nz01 c14) (by decide) (by decide) ⟨rfl, rfl, rfl⟩
  · have h := ok_t c6 h
    refine Vaload_n C 0 (dAt D_X3_takePrice 12 rfl) rfl rfl ?_
    refine Viconst (x := 1) C (dAt D_X3_takePrice 13 rfl) (by decide) ?_
    obtain ⟨r7, e8, h⟩ := ok_b h
    refine VcallV (as := [_]) C (dAt D_X3_takePrice 14 rfl) (m_X3_refuse hL htx hrt e8) yv_X3_99 (Or.inl ⟨(kt_112 hL), by decide⟩) rfl rfl (Nat.le_of_ble_eq_true rfl) (by decide) (by decide) (by decide) (by decide) (Kint ?_)
    obtain ⟨c9, h⟩ := ok_ck h
    cases h
    exact Vzret C (dAt D_X3_takePrice 15 rfl) (nz01 c9) (by decide) (by decide) ⟨rfl, rfl, rfl⟩
def B_X3_takeWhom_70 (f : Nat) (tx : Nat) (u : MT) : Option (Int32 × MT) :=
  some ((1 : Int32), u)
theorem w_X3_takeWhom_70 {z : ZT} {g : GT} {w : LT} (hL : Lay w) {tx : Nat} (htx : isTx w tx) (hrt : lt_p w 112 7 = tx) (C : Cx z g cX3_takeWhom 2 RX3 (some .boolean) 2 0 0) {f : Nat} {r : (Int32 × MT)} {u : MT} (h : B_X3_takeWhom_70 f tx  u = some r) : V z g 2 70 [] [] w u 0 0 (Qi r.1 w r.2) := by
  rw [B_X3_takeWhom_70] at h
  refine Viconst (x := 1) C (dAt D_X3_takeWhom 35 rfl) (by decide) ?_
  refine Vgoto (tgt := 75) C (dAt D_X3_takeWhom 36 rfl) (by decide) ?_
  cases h
  exact Vzret C (dAt D_X3_takeWhom 38 rfl) rfl (by decide) (by decide) ⟨rfl, rfl, rfl⟩
def F_X3_takeWhom (f : Nat) (tx : Nat) (a1 : Nat) (u : MT) : Option (Int32 × MT) :=
  (F_X3_takeOneOf f tx 24 25 26 u).bind fun r1 =>
  let u3 := sK r1.2 a1 6 r1.1
  if (gK u3 a1 6) = 0 then
    some ((0 : Int32), u3)
  else
    ck ((gK u3 a1 6) ≤ 34) <|
    if (gK u3 a1 6) = 25 then
      (F_X3_takeNumber f tx a1 (0 : Int32) ((gI u3 112 6) - (1 : Int32)) u3).bind fun r7 =>
      ck (r7.1 = 0 ∨ r7.1 = 1) <|
      some (r7.1, r7.2)
    else
      if (gK u3 a1 6) = 24 then
        B_X3_takeWhom_70 f tx u3
      else
        (F_X3_takeNumber f tx a1 (1 : Int32) (12 : Int32) u3).bind fun r11 =>
        if r11.1 = 0 then
          some ((0 : Int32), r11.2)
        else
          B_X3_takeWhom_70 f tx r11.2
theorem m_X3_takeWhom {g : GT} {w : LT} (hL : Lay w) {tx : Nat} {a1 : Nat} {f : Nat} {u : MT} {r : (Int32 × MT)} (htx : isTx w tx) (hrt : lt_p w 112 7 = tx) (k1 : lt_t w a1 = 5) (h : F_X3_takeWhom f tx a1 u = some r) : Mt g yX3_takeWhom cX3_takeWhom 2 (some .boolean) 2 0 0 [.ref 112, .ref a1] w u (Qi r.1 w r.2) := by
  refine Mt_of (own := RX3) (by decide +kernel) rfl (Nat.le_of_ble_eq_true rfl) (fun z C _ => ?_)
  show V z g 2 0 [(0, .ref 112), (1, .ref a1)] [] w u 0 0 (Qi r.1 w r.2)
  rw [F_X3_takeWhom] at h
  refine Vaload_n C 1 (dAt D_X3_takeWhom 0 rfl) rfl rfl ?_
  refine Vaload_n C 0 (dAt D_X3_takeWhom 1 rfl) rfl rfl ?_
  refine Vtok (i := 23) (x := 24) C (dAt D_X3_takeWhom 2 rfl) gs_X3_171 (by decide) rfl rfl ?_
  refine Vtok (i := 24) (x := 25) C (dAt D_X3_takeWhom 3 rfl) gs_X3_230 (by decide) rfl rfl ?_
  refine Vtok (i := 25) (x := 26) C (dAt D_X3_takeWhom 4 rfl) gs_X3_233 (by decide) rfl rfl ?_
  obtain ⟨r1, e2, h⟩ := ok_b h
  refine VcallV (as := [_, _, _]) C (dAt D_X3_takeWhom 5 rfl) (m_X3_takeOneOf hL htx hrt e2) yv_X3_118 (Or.inl ⟨(kt_112 hL), by decide⟩) rfl rfl (Nat.le_of_ble_eq_true rfl) (by decide) (by decide) (by decide) (by decide) (Kref ?_)
  refine VputK C (dAt D_X3_takeWhom 6 rfl) gf_X3_236 k1 rfl rfl rfl ?_
  refine Vaload_n C 1 (dAt D_X3_takeWhom 7 rfl) rfl rfl ?_
  refine VgetK C (dAt D_X3_takeWhom 8 rfl) gf_X3_236 k1 rfl ?_
  refine Vifnonnull (tgt := 26) C (dAt D_X3_takeWhom 9 rfl) (by decide) (fun c4 => ?_) (fun c4 => ?_)
  · have h := ok_f c4 h
    refine Vaload_n C 1 (dAt D_X3_takeWhom 12 rfl) rfl rfl ?_
    refine VgetK C (dAt D_X3_takeWhom 13 rfl) gf_X3_236 k1 rfl ?_
    refine Vtok (i := 24) (x := 25) C (dAt D_X3_takeWhom 14 rfl) gs_X3_230 (by decide) rfl rfl ?_
    obtain ⟨c5, h⟩ := ok_ck h
    refine Vacmp_ne (tgt := 49) C (dAt D_X3_takeWhom 15 rfl) (by decide) c5 (by decide) (fun c6 => ?_) (fun c6 => ?_)
    · have h := ok_f c6 h
      refine Vaload_n C 1 (dAt D_X3_takeWhom 25 rfl) rfl rfl ?_
      refine VgetK C (dAt D_X3_takeWhom 26 rfl) gf_X3_236 k1 rfl ?_
      refine Vtok (i := 23) (x := 24) C (dAt D_X3_takeWhom 27 rfl) gs_X3_171 (by decide) rfl rfl ?_
      refine Vacmp_eq (tgt := 70) C (dAt D_X3_takeWhom 28 rfl) (by decide) c5 (by decide) (fun c10 => ?_) (fun c10 => ?_)
      · have h := ok_t c10 h
        exact Vsub [] rfl (w_X3_takeWhom_70 hL htx hrt C  h)
      · have h := ok_f c10 h
        refine Vaload_n C 0 (dAt D_X3_takeWhom 29 rfl) rfl rfl ?_
        refine Vaload_n C 1 (dAt D_X3_takeWhom 30 rfl) rfl rfl ?_
        refine Viconst (x := 1) C (dAt D_X3_takeWhom 31 rfl) (by decide) ?_
        refine Vbipush (x := 12) C (dAt D_X3_takeWhom 32 rfl) (by decide) ?_
        obtain ⟨r11, e12, h⟩ := ok_b h
        refine VcallV (as := [_, _, _]) C (dAt D_X3_takeWhom 33 rfl) (m_X3_takeNumber hL htx hrt k1 e12) yv_X3_186 (Or.inl ⟨(kt_112 hL), by decide⟩) rfl rfl (Nat.le_of_ble_eq_true rfl) (by decide) (by decide) (by decide) (by decide) (Kint ?_)
        refine Vif_eq (tgt := 74) C (dAt D_X3_takeWhom 34 rfl) (by decide) (fun c13 => ?_) (fun c13 => ?_)
        · have h := ok_t c13 h
          refine Viconst (x := 0) C (dAt D_X3_takeWhom 37 rfl) (by decide) ?_
          cases h
          exact Vzret C (dAt D_X3_takeWhom 38 rfl) rfl (by decide) (by decide) ⟨rfl, rfl, rfl⟩
        · have h := ok_f c13 h
          exact Vsub [] rfl (w_X3_takeWhom_70 hL htx hrt C  h)
    · have h := ok_t c6 h
      refine Vaload_n C 0 (dAt D_X3_takeWhom 16 rfl) rfl rfl ?_
      refine Vaload_n C 1 (dAt D_X3_takeWhom 17 rfl) rfl rfl ?_
      refine Viconst (x := 0) C (dAt D_X3_takeWhom 18 rfl) (by decide) ?_
      refine Vaload_n C 0 (dAt D_X3_takeWhom 19 rfl) rfl rfl ?_
      refine VgetI C (dAt D_X3_takeWhom 20 rfl) gf_X3_40 (kt_112 hL) rfl ?_
      refine Viconst (x := 1) C (dAt D_X3_takeWhom 21 rfl) (by decide) ?_
      refine Visub C (dAt D_X3_takeWhom 22 rfl) ?_
      obtain ⟨r7, e8, h⟩ := ok_b h
      refine VcallV (as := [_, _, _]) C (dAt D_X3_takeWhom 23 rfl) (m_X3_takeNumber hL htx hrt k1 e8) yv_X3_186 (Or.inl ⟨(kt_112 hL), by decide⟩) rfl rfl (Nat.le_of_ble_eq_true rfl) (by decide) (by decide) (by decide) (by decide) (Kint ?_)
      obtain ⟨c9, h⟩ := ok_ck h
      cases h
      exact Vzret C (dAt D_X3_takeWhom 24 rfl) (nz01 c9) (by decide) (by decide) ⟨rfl, rfl, rfl⟩
  · have h := ok_t c4 h
    refine Viconst (x := 0) C (dAt D_X3_takeWhom 10 rfl) (by decide) ?_
    cases h
    exact Vzret C (dAt D_X3_takeWhom 11 rfl) rfl (by decide) (by decide) ⟨rfl, rfl, rfl⟩
def F_X3_takeWays (f : Nat) (tx : Nat) (a1 : Nat) (u : MT) : Option (Int32 × MT) :=
  (F_X3_take f tx 21 u).bind fun r1 =>
  if r1.1 = 0 then
    some ((0 : Int32), r1.2)
  else
    (F_X3_takeOneOf f tx 9 10 10 r1.2).bind fun r4 =>
    let u6 := sK r4.2 a1 5 r4.1
    if (gK u6 a1 5) = 0 then
      some ((0 : Int32), u6)
    else
      (F_X3_take f tx 22 u6).bind fun r8 =>
      if r8.1 = 0 then
        some ((0 : Int32), r8.2)
      else
        (F_X3_takeWhom f tx a1 r8.2).bind fun r11 =>
        if r11.1 = 0 then
          some ((0 : Int32), r11.2)
        else
          (F_X3_take f tx 23 r11.2).bind fun r14 =>
          if r14.1 = 0 then
            some ((0 : Int32), r14.2)
          else
            (F_X3_takeOneOf f tx 27 28 29 r14.2).bind fun r17 =>
            let u19 := sK r17.2 a1 7 r17.1
            if (gK u19 a1 7) = 0 then
              some ((0 : Int32), u19)
            else
              some ((1 : Int32), u19)
theorem m_X3_takeWays {g : GT} {w : LT} (hL : Lay w) {tx : Nat} {a1 : Nat} {f : Nat} {u : MT} {r : (Int32 × MT)} (htx : isTx w tx) (hrt : lt_p w 112 7 = tx) (k1 : lt_t w a1 = 5) (h : F_X3_takeWays f tx a1 u = some r) : Mt g yX3_takeWays cX3_takeWays 2 (some .boolean) 3 0 0 [.ref 112, .ref a1] w u (Qi r.1 w r.2) := by
  refine Mt_of (own := RX3) (by decide +kernel) rfl (Nat.le_of_ble_eq_true rfl) (fun z C _ => ?_)
  show V z g 2 0 [(0, .ref 112), (1, .ref a1)] [] w u 0 0 (Qi r.1 w r.2)
  rw [F_X3_takeWays] at h
  refine Vaload_n C 0 (dAt D_X3_takeWays 0 rfl) rfl rfl ?_
  refine Vtok (i := 20) (x := 21) C (dAt D_X3_takeWays 1 rfl) gs_X3_197 (by decide) rfl rfl ?_
  obtain ⟨r1, e2, h⟩ := ok_b h
  refine VcallV (as := [_]) C (dAt D_X3_takeWays 2 rfl) (m_X3_take hL htx hrt e2) yv_X3_105 (Or.inl ⟨(kt_112 hL), by decide⟩) rfl rfl (Nat.le_of_ble_eq_true rfl) (by decide) (by decide) (by decide) (by decide) (Kint ?_)
  refine Vif_ne (tgt := 12) C (dAt D_X3_takeWays 3 rfl) (by decide) (fun c3 => ?_) (fun c3 => ?_)
  · have h := ok_f c3 h
    refine Vaload_n C 1 (dAt D_X3_takeWays 6 rfl) rfl rfl ?_
    refine Vaload_n C 0 (dAt D_X3_takeWays 7 rfl) rfl rfl ?_
    refine Vtok (i := 8) (x := 9) C (dAt D_X3_takeWays 8 rfl) gs_X3_200 (by decide) rfl rfl ?_
    refine Vtok (i := 9) (x := 10) C (dAt D_X3_takeWays 9 rfl) gs_X3_203 (by decide) rfl rfl ?_
    refine Vtok (i := 9) (x := 10) C (dAt D_X3_takeWays 10 rfl) gs_X3_203 (by decide) rfl rfl ?_
    obtain ⟨r4, e5, h⟩ := ok_b h
    refine VcallV (as := [_, _, _]) C (dAt D_X3_takeWays 11 rfl) (m_X3_takeOneOf hL htx hrt e5) yv_X3_118 (Or.inl ⟨(kt_112 hL), by decide⟩) rfl rfl (Nat.le_of_ble_eq_true rfl) (by decide) (by decide) (by decide) (by decide) (Kref ?_)
    refine VputK C (dAt D_X3_takeWays 12 rfl) gf_X3_206 k1 rfl rfl rfl ?_
    refine Vaload_n C 1 (dAt D_X3_takeWays 13 rfl) rfl rfl ?_
    refine VgetK C (dAt D_X3_takeWays 14 rfl) gf_X3_206 k1 rfl ?_
    refine Vifnull (tgt := 64) C (dAt D_X3_takeWays 15 rfl) (by decide) (fun c7 => ?_) (fun c7 => ?_)
    · have h := ok_t c7 h
      refine Viconst (x := 0) C (dAt D_X3_takeWays 28 rfl) (by decide) ?_
      cases h
      exact Vzret C (dAt D_X3_takeWays 29 rfl) rfl (by decide) (by decide) ⟨rfl, rfl, rfl⟩
    · have h := ok_f c7 h
      refine Vaload_n C 0 (dAt D_X3_takeWays 16 rfl) rfl rfl ?_
      refine Vtok (i := 21) (x := 22) C (dAt D_X3_takeWays 17 rfl) gs_X3_209 (by decide) rfl rfl ?_
      obtain ⟨r8, e9, h⟩ := ok_b h
      refine VcallV (as := [_]) C (dAt D_X3_takeWays 18 rfl) (m_X3_take hL htx hrt e9) yv_X3_105 (Or.inl ⟨(kt_112 hL), by decide⟩) rfl rfl (Nat.le_of_ble_eq_true rfl) (by decide) (by decide) (by decide) (by decide) (Kint ?_)
      refine Vif_eq (tgt := 64) C (dAt D_X3_takeWays 19 rfl) (by decide) (fun c10 => ?_) (fun c10 => ?_)
      · have h := ok_t c10 h
        refine Viconst (x := 0) C (dAt D_X3_takeWays 28 rfl) (by decide) ?_
        cases h
        exact Vzret C (dAt D_X3_takeWays 29 rfl) rfl (by decide) (by decide) ⟨rfl, rfl, rfl⟩
      · have h := ok_f c10 h
        refine Vaload_n C 0 (dAt D_X3_takeWays 20 rfl) rfl rfl ?_
        refine Vaload_n C 1 (dAt D_X3_takeWays 21 rfl) rfl rfl ?_
        obtain ⟨r11, e12, h⟩ := ok_b h
        refine VcallV (as := [_]) C (dAt D_X3_takeWays 22 rfl) (m_X3_takeWhom hL htx hrt k1 e12) yv_X3_212 (Or.inl ⟨(kt_112 hL), by decide⟩) rfl rfl (Nat.le_of_ble_eq_true rfl) (by decide) (by decide) (by decide) (by decide) (Kint ?_)
        refine Vif_eq (tgt := 64) C (dAt D_X3_takeWays 23 rfl) (by decide) (fun c13 => ?_) (fun c13 => ?_)
        · have h := ok_t c13 h
          refine Viconst (x := 0) C (dAt D_X3_takeWays 28 rfl) (by decide) ?_
          cases h
          exact Vzret C (dAt D_X3_takeWays 29 rfl) rfl (by decide) (by decide) ⟨rfl, rfl, rfl⟩
        · have h := ok_f c13 h
          refine Vaload_n C 0 (dAt D_X3_takeWays 24 rfl) rfl rfl ?_
          refine Vtok (i := 22) (x := 23) C (dAt D_X3_takeWays 25 rfl) gs_X3_215 (by decide) rfl rfl ?_
          obtain ⟨r14, e15, h⟩ := ok_b h
          refine VcallV (as := [_]) C (dAt D_X3_takeWays 26 rfl) (m_X3_take hL htx hrt e15) yv_X3_105 (Or.inl ⟨(kt_112 hL), by decide⟩) rfl rfl (Nat.le_of_ble_eq_true rfl) (by decide) (by decide) (by decide) (by decide) (Kint ?_)
          refine Vif_ne (tgt := 66) C (dAt D_X3_takeWays 27 rfl) (by decide) (fun c16 => ?_) (fun c16 => ?_)
          · have h := ok_f c16 h
            refine Vaload_n C 1 (dAt D_X3_takeWays 30 rfl) rfl rfl ?_
            refine Vaload_n C 0 (dAt D_X3_takeWays 31 rfl) rfl rfl ?_
            refine Vtok (i := 26) (x := 27) C (dAt D_X3_takeWays 32 rfl) gs_X3_218 (by decide) rfl rfl ?_
            refine Vtok (i := 27) (x := 28) C (dAt D_X3_takeWays 33 rfl) gs_X3_221 (by decide) rfl rfl ?_
            refine Vtok (i := 28) (x := 29) C (dAt D_X3_takeWays 34 rfl) gs_X3_224 (by decide) rfl rfl ?_
            obtain ⟨r17, e18, h⟩ := ok_b h
            refine VcallV (as := [_, _, _]) C (dAt D_X3_takeWays 35 rfl) (m_X3_takeOneOf hL htx hrt e18) yv_X3_118 (Or.inl ⟨(kt_112 hL), by decide⟩) rfl rfl (Nat.le_of_ble_eq_true rfl) (by decide) (by decide) (by decide) (by decide) (Kref ?_)
            refine VputK C (dAt D_X3_takeWays 36 rfl) gf_X3_227 k1 rfl rfl rfl ?_
            refine Vaload_n C 1 (dAt D_X3_takeWays 37 rfl) rfl rfl ?_
            refine VgetK C (dAt D_X3_takeWays 38 rfl) gf_X3_227 k1 rfl ?_
            refine Vifnull (tgt := 94) C (dAt D_X3_takeWays 39 rfl) (by decide) (fun c20 => ?_) (fun c20 => ?_)
            · have h := ok_t c20 h
              refine Viconst (x := 0) C (dAt D_X3_takeWays 42 rfl) (by decide) ?_
              cases h
              exact Vzret C (dAt D_X3_takeWays 43 rfl) rfl (by decide) (by decide) ⟨rfl, rfl, rfl⟩
            · have h := ok_f c20 h
              refine Viconst (x := 1) C (dAt D_X3_takeWays 40 rfl) (by decide) ?_
              refine Vgoto (tgt := 95) C (dAt D_X3_takeWays 41 rfl) (by decide) ?_
              cases h
              exact Vzret C (dAt D_X3_takeWays 43 rfl) rfl (by decide) (by decide) ⟨rfl, rfl, rfl⟩
          · have h := ok_t c16 h
            refine Viconst (x := 0) C (dAt D_X3_takeWays 28 rfl) (by decide) ?_
            cases h
            exact Vzret C (dAt D_X3_takeWays 29 rfl) rfl (by decide) (by decide) ⟨rfl, rfl, rfl⟩
  · have h := ok_t c3 h
    refine Viconst (x := 0) C (dAt D_X3_takeWays 4 rfl) (by decide) ?_
    cases h
    exact Vzret C (dAt D_X3_takeWays 5 rfl) rfl (by decide) (by decide) ⟨rfl, rfl, rfl⟩
def F_X4_add (f : Nat) (x1 : Int32) (x2 : Int32) (x3 : Int32) (x4 : Int32) (x5 : Int32) (u : MT) : Option MT :=
  ck (ixo (gI u 104 5) 400) <|
  let u2 := sI u 105 ((gI u 104 5)).toNatClampNeg x1
  ck (ixo (gI u2 104 5) 400) <|
  let u4 := sI u2 106 ((gI u2 104 5)).toNatClampNeg x2
  ck (ixo (gI u4 104 5) 400) <|
  let u6 := sI u4 107 ((gI u4 104 5)).toNatClampNeg x3
  ck (ixo (gI u6 104 5) 400) <|
  let u8 := sI u6 108 ((gI u6 104 5)).toNatClampNeg x4
  ck (ixo (gI u8 104 5) 400) <|
  let u10 := sI u8 109 ((gI u8 104 5)).toNatClampNeg x5
  let u11 := sI u10 104 5 ((gI u10 104 5) + (1 : Int32))
  some u11
theorem m_X4_add {g : GT} {w : LT} (hL : Lay w) {x1 : Int32} {x2 : Int32} {x3 : Int32} {x4 : Int32} {x5 : Int32} {f : Nat} {u : MT} {r : MT} (h : F_X4_add f x1 x2 x3 x4 x5 u = some r) : Mt g yX4_add cX4_add 6 none 0 0 0 [.ref 104, .int x1, .int x2, .int x3, .int x4, .int x5] w u (Qv w r) := by
  refine Mt_of (own := RX4) (by decide +kernel) rfl (Nat.le_of_ble_eq_true rfl) (fun z C _ => ?_)
  show V z g 6 0 [(0, .ref 104), (1, .int x1), (2, .int x2), (3, .int x3), (4, .int x4), (5, .int x5)] [] w u 0 0 (Qv w r)
  rw [F_X4_add] at h
  refine Vaload_n C 0 (dAt D_X4_add 0 rfl) rfl rfl ?_
  refine VgetP C (dAt D_X4_add 1 rfl) gf_X4_9 (kt_104 hL) rfl (kp_104_0 hL) ?_
  refine Vaload_n C 0 (dAt D_X4_add 2 rfl) rfl rfl ?_
  refine VgetI C (dAt D_X4_add 3 rfl) gf_X4_27 (kt_104 hL) rfl ?_
  refine Viload_n C 1 (dAt D_X4_add 4 rfl) rfl rfl ?_
  obtain ⟨c1, h⟩ := ok_ck h
  refine Viast C (dAt D_X4_add 5 rfl) (kt_105 hL) (kl_105 hL) (vp_in_iff.mpr c1) ?_
  refine Vaload_n C 0 (dAt D_X4_add 6 rfl) rfl rfl ?_
  refine VgetP C (dAt D_X4_add 7 rfl) gf_X4_15 (kt_104 hL) rfl (kp_104_1 hL) ?_
  refine Vaload_n C 0 (dAt D_X4_add 8 rfl) rfl rfl ?_
  refine VgetI C (dAt D_X4_add 9 rfl) gf_X4_27 (kt_104 hL) rfl ?_
  refine Viload_n C 2 (dAt D_X4_add 10 rfl) rfl rfl ?_
  obtain ⟨c3, h⟩ := ok_ck h
  refine Viast C (dAt D_X4_add 11 rfl) (kt_106 hL) (kl_106 hL) (vp_in_iff.mpr c3) ?_
  refine Vaload_n C 0 (dAt D_X4_add 12 rfl) rfl rfl ?_
  refine VgetP C (dAt D_X4_add 13 rfl) gf_X4_18 (kt_104 hL) rfl (kp_104_2 hL) ?_
  refine Vaload_n C 0 (dAt D_X4_add 14 rfl) rfl rfl ?_
  refine VgetI C (dAt D_X4_add 15 rfl) gf_X4_27 (kt_104 hL) rfl ?_
  refine Viload_n C 3 (dAt D_X4_add 16 rfl) rfl rfl ?_
  obtain ⟨c5, h⟩ := ok_ck h
  refine Viast C (dAt D_X4_add 17 rfl) (kt_107 hL) (kl_107 hL) (vp_in_iff.mpr c5) ?_
  refine Vaload_n C 0 (dAt D_X4_add 18 rfl) rfl rfl ?_
  refine VgetP C (dAt D_X4_add 19 rfl) gf_X4_21 (kt_104 hL) rfl (kp_104_3 hL) ?_
  refine Vaload_n C 0 (dAt D_X4_add 20 rfl) rfl rfl ?_
  refine VgetI C (dAt D_X4_add 21 rfl) gf_X4_27 (kt_104 hL) rfl ?_
  refine Viload C 4 (dAt D_X4_add 22 rfl) rfl ?_
  obtain ⟨c7, h⟩ := ok_ck h
  refine Viast C (dAt D_X4_add 23 rfl) (kt_108 hL) (kl_108 hL) (vp_in_iff.mpr c7) ?_
  refine Vaload_n C 0 (dAt D_X4_add 24 rfl) rfl rfl ?_
  refine VgetP C (dAt D_X4_add 25 rfl) gf_X4_24 (kt_104 hL) rfl (kp_104_4 hL) ?_
  refine Vaload_n C 0 (dAt D_X4_add 26 rfl) rfl rfl ?_
  refine VgetI C (dAt D_X4_add 27 rfl) gf_X4_27 (kt_104 hL) rfl ?_
  refine Viload C 5 (dAt D_X4_add 28 rfl) rfl ?_
  obtain ⟨c9, h⟩ := ok_ck h
  refine Viast C (dAt D_X4_add 29 rfl) (kt_109 hL) (kl_109 hL) (vp_in_iff.mpr c9) ?_
  refine Vaload_n C 0 (dAt D_X4_add 30 rfl) rfl rfl ?_
  refine Vdup C (dAt D_X4_add 31 rfl) rfl ?_
  refine VgetI C (dAt D_X4_add 32 rfl) gf_X4_27 (kt_104 hL) rfl ?_
  refine Viconst (x := 1) C (dAt D_X4_add 33 rfl) (by decide) ?_
  refine Viadd C (dAt D_X4_add 34 rfl) ?_
  refine VputI C (dAt D_X4_add 35 rfl) gf_X4_27 (kt_104 hL) rfl rfl rfl rfl ?_
  cases h
  exact Vvret C (dAt D_X4_add 36 rfl) (by decide) (by decide) ⟨rfl, rfl, rfl⟩
def B_X6_addBytes_68 (f : Nat) (j3 : Int64 → Int32 → MT → Option MT) (x1 : Int64) (x3 : Int32) (u : MT) : Option MT :=
  let v11 := x3 + (-8)
  j3 x1 v11 u
theorem w_X6_addBytes_68 {z : ZT} {g : GT} {w : LT} (hL : Lay w) (C : Cx z g cX6_addBytes 5 RX6 none 1 0 0) {f : Nat} {r : MT} {j3 : Int64 → Int32 → MT → Option MT} (q3 : ∀ (x1 : Int64) (x3 : Int32) (u : MT), j3 x1 x3 u = some r → V z g 5 3 [(0, .ref 110), (1, .long x1), (3, .int x3)] [] w u 0 0 (Qv w r)) {x1 : Int64} {x3 : Int32} {u : MT} (h : B_X6_addBytes_68 f j3 x1 x3 u = some r) : V z g 5 68 [(0, .ref 110), (1, .long x1), (3, .int x3)] [] w u 0 0 (Qv w r) := by
  rw [B_X6_addBytes_68] at h
  refine Viinc (j := 2) (v := _ + (-8)) (lv' := [(3, _), (0, _), (1, _)]) C (dAt D_X6_addBytes 36 rfl) rfl rfl (by decide) rfl ?_
  refine Vgoto (tgt := 3) C (dAt D_X6_addBytes 37 rfl) (by decide) ?_
  exact Vsub [1, 2, 0] rfl (q3 _ _ _  h)
def B_X6_addBytes_36 (f : Nat) (j3 : Int64 → Int32 → MT → Option MT) (x1 : Int64) (x3 : Int32) (x4 : Int32) (u : MT) : Option MT :=
  if (1200 : Int32) ≤ (gI u 110 1) then
    B_X6_addBytes_68 f j3 x1 x3 u
  else
    ck (ixo (gI u 110 1) 1200) <|
    let u9 := sI u 111 ((gI u 110 1)).toNatClampNeg (vp_nar .char (((x4).toUInt32 % 65536).toInt32))
    let u10 := sI u9 110 1 ((gI u9 110 1) + (1 : Int32))
    B_X6_addBytes_68 f j3 x1 x3 u10
theorem w_X6_addBytes_36 {z : ZT} {g : GT} {w : LT} (hL : Lay w) (C : Cx z g cX6_addBytes 5 RX6 none 1 0 0) {f : Nat} {r : MT} {j3 : Int64 → Int32 → MT → Option MT} (q3 : ∀ (x1 : Int64) (x3 : Int32) (u : MT), j3 x1 x3 u = some r → V z g 5 3 [(0, .ref 110), (1, .long x1), (3, .int x3)] [] w u 0 0 (Qv w r)) {x1 : Int64} {x3 : Int32} {x4 : Int32} {u : MT} (h : B_X6_addBytes_36 f j3 x1 x3 x4 u = some r) : V z g 5 36 [(0, .ref 110), (1, .long x1), (3, .int x3), (4, .int x4)] [] w u 0 0 (Qv w r) := by
  rw [B_X6_addBytes_36] at h
  refine Vaload_n C 0 (dAt D_X6_addBytes 19 rfl) rfl rfl ?_
  refine VgetI C (dAt D_X6_addBytes 20 rfl) gf_X6_19 (kt_110 hL) rfl ?_
  refine Vsipush (x := 1200) C (dAt D_X6_addBytes 21 rfl) (by decide) ?_
  refine Vicmp_ge (tgt := 68) C (dAt D_X6_addBytes 22 rfl) (by decide) (fun c7 => ?_) (fun c7 => ?_)
  · have h := ok_t c7 h
    exact Vsub [0, 1, 2] rfl (w_X6_addBytes_68 hL C q3  h)
  · have h := ok_f c7 h
    refine Vaload_n C 0 (dAt D_X6_addBytes 23 rfl) rfl rfl ?_
    refine VgetP C (dAt D_X6_addBytes 24 rfl) gf_X6_9 (kt_110 hL) rfl (kp_110_0 hL) ?_
    refine Vaload_n C 0 (dAt D_X6_addBytes 25 rfl) rfl rfl ?_
    refine VgetI C (dAt D_X6_addBytes 26 rfl) gf_X6_19 (kt_110 hL) rfl ?_
    refine Viload C 3 (dAt D_X6_addBytes 27 rfl) rfl ?_
    refine Vi2c C (dAt D_X6_addBytes 28 rfl) ?_
    obtain ⟨c8, h⟩ := ok_ck h
    refine Vcast C (dAt D_X6_addBytes 29 rfl) (kt_111 hL) (kl_111 hL) (vp_in_iff.mpr c8) ?_
    refine Vaload_n C 0 (dAt D_X6_addBytes 30 rfl) rfl rfl ?_
    refine Vdup C (dAt D_X6_addBytes 31 rfl) rfl ?_
    refine VgetI C (dAt D_X6_addBytes 32 rfl) gf_X6_19 (kt_110 hL) rfl ?_
    refine Viconst (x := 1) C (dAt D_X6_addBytes 33 rfl) (by decide) ?_
    refine Viadd C (dAt D_X6_addBytes 34 rfl) ?_
    refine VputI C (dAt D_X6_addBytes 35 rfl) gf_X6_19 (kt_110 hL) rfl rfl rfl rfl ?_
    exact Vsub [0, 1, 2] rfl (w_X6_addBytes_68 hL C q3  h)
def B_X6_addBytes_3 (f : Nat) : Nat → Int64 → Int32 → MT → Option MT
  | 0, _, _, _ => none
  | n + 1, x1, x3, u =>
    if x3 < 0 then
      some u
    else
      let v2 := ((((x1.toUInt64 >>> (x3.toInt64.toUInt64 &&& Int64.toUInt64 63)).toInt64)).toInt32 &&& (255 : Int32))
      if v2 = (10 : Int32) then
        B_X6_addBytes_36 f (fun x1' x3' u' => B_X6_addBytes_3 f n x1' x3' u') x1 x3 v2 u
      else
        (F_X11_isIn f v2 (32 : Int32) (126 : Int32) u).bind fun r4 =>
        if r4.1 = 0 then
          B_X6_addBytes_68 f (fun x1' x3' u' => B_X6_addBytes_3 f n x1' x3' u') x1 x3 r4.2
        else
          B_X6_addBytes_36 f (fun x1' x3' u' => B_X6_addBytes_3 f n x1' x3' u') x1 x3 v2 r4.2
theorem w_X6_addBytes_3 {z : ZT} {g : GT} {w : LT} (hL : Lay w) (C : Cx z g cX6_addBytes 5 RX6 none 1 0 0) {f : Nat} {r : MT} : ∀ (n : Nat) (x1 : Int64) (x3 : Int32) (u : MT), B_X6_addBytes_3 f n x1 x3 u = some r → V z g 5 3 [(0, .ref 110), (1, .long x1), (3, .int x3)] [] w u 0 0 (Qv w r) := by
  intro n
  induction n with
  | zero =>
    intro x1 x3 u h
    rw [B_X6_addBytes_3] at h
    cases h
  | succ n ih =>
    intro x1 x3 u h
    rw [B_X6_addBytes_3] at h
    refine Viload_n C 2 (dAt D_X6_addBytes 2 rfl) rfl rfl ?_
    refine Vif_lt (tgt := 74) C (dAt D_X6_addBytes 3 rfl) (by decide) (fun c1 => ?_) (fun c1 => ?_)
    · have h := ok_t c1 h
      cases h
      exact Vvret C (dAt D_X6_addBytes 38 rfl) (by decide) (by decide) ⟨rfl, rfl, rfl⟩
    · have h := ok_f c1 h
      refine Vlload_n C 1 (dAt D_X6_addBytes 4 rfl) rfl rfl ?_
      refine Viload_n C 2 (dAt D_X6_addBytes 5 rfl) rfl rfl ?_
      refine Vlushr C (dAt D_X6_addBytes 6 rfl) ?_
      refine Vl2i C (dAt D_X6_addBytes 7 rfl) ?_
      refine Vsipush (x := 255) C (dAt D_X6_addBytes 8 rfl) (by decide) ?_
      refine Viand C (dAt D_X6_addBytes 9 rfl) ?_
      refine Vistore (lv' := [(4, _), (0, _), (1, _), (3, _)]) C (dAt D_X6_addBytes 10 rfl) (by decide) rfl ?_
      refine Viload C 0 (dAt D_X6_addBytes 11 rfl) rfl ?_
      refine Vbipush (x := 10) C (dAt D_X6_addBytes 12 rfl) (by decide) ?_
      refine Vicmp_eq (tgt := 36) C (dAt D_X6_addBytes 13 rfl) (by decide) (fun c3 => ?_) (fun c3 => ?_)
      · have h := ok_t c3 h
        exact Vsub [1, 2, 3, 0] rfl (w_X6_addBytes_36 hL C ih  h)
      · have h := ok_f c3 h
        refine Viload C 0 (dAt D_X6_addBytes 14 rfl) rfl ?_
        refine Vbipush (x := 32) C (dAt D_X6_addBytes 15 rfl) (by decide) ?_
        refine Vbipush (x := 126) C (dAt D_X6_addBytes 16 rfl) (by decide) ?_
        obtain ⟨r4, e5, h⟩ := ok_b h
        refine VcallS (as := [_, _, _]) C (dAt D_X6_addBytes 17 rfl) (m_X11_isIn hL e5) yb_X6_15 ys_X6_15 rfl rfl (Nat.le_of_ble_eq_true rfl) (by decide) (by decide) (by decide) (by decide) (Kint ?_)
        refine Vif_eq (tgt := 68) C (dAt D_X6_addBytes 18 rfl) (by decide) (fun c6 => ?_) (fun c6 => ?_)
        · have h := ok_t c6 h
          exact Vsub [1, 2, 3] rfl (w_X6_addBytes_68 hL C ih  h)
        · have h := ok_f c6 h
          exact Vsub [1, 2, 3, 0] rfl (w_X6_addBytes_36 hL C ih  h)
def F_X6_addBytes (f : Nat) (x1 : Int64) (u : MT) : Option MT :=
  B_X6_addBytes_3 f f x1 (56 : Int32) u
theorem m_X6_addBytes {g : GT} {w : LT} (hL : Lay w) {x1 : Int64} {f : Nat} {u : MT} {r : MT} (h : F_X6_addBytes f x1 u = some r) : Mt g yX6_addBytes cX6_addBytes 5 none 1 0 0 [.ref 110, .long x1] w u (Qv w r) := by
  refine Mt_of (own := RX6) (by decide +kernel) rfl (Nat.le_of_ble_eq_true rfl) (fun z C _ => ?_)
  show V z g 5 0 [(0, .ref 110), (1, .long x1)] [] w u 0 0 (Qv w r)
  rw [F_X6_addBytes] at h
  refine Vbipush (x := 56) C (dAt D_X6_addBytes 0 rfl) (by decide) ?_
  refine Vistore_n (lv' := [(3, _), (0, _), (1, _)]) C (dAt D_X6_addBytes 1 rfl) rfl (by decide) rfl ?_
  exact Vsub [1, 2, 0] rfl (w_X6_addBytes_3 hL C  f _ _ _  h)
def F_X7_emit (f : Nat) (t0 : Nat) (x1 : Int32) (u : MT) : Option MT :=
  if (1200 : Int32) ≤ (gI u t0 4) then
    some u
  else
    ck (ixo (gI u t0 4) 1200) <|
    let u3 := sI u (t0 + 2) ((gI u t0 4)).toNatClampNeg x1
    let u4 := sI u3 t0 4 ((gI u3 t0 4) + (1 : Int32))
    some u4
theorem m_X7_emit {g : GT} {w : LT} (hL : Lay w) {t0 : Nat} {x1 : Int32} {f : Nat} {u : MT} {r : MT} (k0 : isTx w t0) (h : F_X7_emit f t0 x1 u = some r) : Mt g yX7_emit cX7_emit 2 none 0 0 0 [.ref t0, .int x1] w u (Qv w r) := by
  refine Mt_of (own := RX7) (by decide +kernel) rfl (Nat.le_of_ble_eq_true rfl) (fun z C _ => ?_)
  show V z g 2 0 [(0, .ref t0), (1, .int x1)] [] w u 0 0 (Qv w r)
  rw [F_X7_emit] at h
  refine Vaload_n C 0 (dAt D_X7_emit 0 rfl) rfl rfl ?_
  refine VgetI C (dAt D_X7_emit 1 rfl) gf_X7_22 (k0).1 rfl ?_
  refine Vsipush (x := 1200) C (dAt D_X7_emit 2 rfl) (by decide) ?_
  refine Vicmp_ge (tgt := 30) C (dAt D_X7_emit 3 rfl) (by decide) (fun c1 => ?_) (fun c1 => ?_)
  · have h := ok_t c1 h
    cases h
    exact Vvret C (dAt D_X7_emit 16 rfl) (by decide) (by decide) ⟨rfl, rfl, rfl⟩
  · have h := ok_f c1 h
    refine Vaload_n C 0 (dAt D_X7_emit 4 rfl) rfl rfl ?_
    refine VgetP C (dAt D_X7_emit 5 rfl) gf_X7_17 (k0).1 rfl (k0).2.2.2.2.1 ?_
    refine Vaload_n C 0 (dAt D_X7_emit 6 rfl) rfl rfl ?_
    refine VgetI C (dAt D_X7_emit 7 rfl) gf_X7_22 (k0).1 rfl ?_
    refine Viload_n C 1 (dAt D_X7_emit 8 rfl) rfl rfl ?_
    obtain ⟨c2, h⟩ := ok_ck h
    refine Viast C (dAt D_X7_emit 9 rfl) (k0).2.2.2.2.2.1 (k0).2.2.2.2.2.2.1 (vp_in_iff.mpr c2) ?_
    refine Vaload_n C 0 (dAt D_X7_emit 10 rfl) rfl rfl ?_
    refine Vdup C (dAt D_X7_emit 11 rfl) rfl ?_
    refine VgetI C (dAt D_X7_emit 12 rfl) gf_X7_22 (k0).1 rfl ?_
    refine Viconst (x := 1) C (dAt D_X7_emit 13 rfl) (by decide) ?_
    refine Viadd C (dAt D_X7_emit 14 rfl) ?_
    refine VputI C (dAt D_X7_emit 15 rfl) gf_X7_22 (k0).1 rfl rfl rfl rfl ?_
    cases h
    exact Vvret C (dAt D_X7_emit 16 rfl) (by decide) (by decide) ⟨rfl, rfl, rfl⟩
def B_X8_canTake_34 (w : LT) (f : Nat) (ts : Nat) (u : MT) : Option (Int32 × MT) :=
  some ((1 : Int32), u)
theorem w_X8_canTake_34 {z : ZT} {g : GT} {w : LT} (hL : Lay w) {ts : Nat} (hts : isTs w ts) (C : Cx z g cX8_canTake 2 RX8 (some .boolean) 0 0 0) {f : Nat} {r : (Int32 × MT)} {u : MT} (h : B_X8_canTake_34 w f ts  u = some r) : V z g 2 34 [] [] w u 0 0 (Qi r.1 w r.2) := by
  rw [B_X8_canTake_34] at h
  refine Viconst (x := 1) C (dAt D_X8_canTake 17 rfl) (by decide) ?_
  refine Vgoto (tgt := 39) C (dAt D_X8_canTake 18 rfl) (by decide) ?_
  cases h
  exact Vzret C (dAt D_X8_canTake 20 rfl) rfl (by decide) (by decide) ⟨rfl, rfl, rfl⟩
def F_X8_canTake (w : LT) (f : Nat) (ts : Nat) (x1 : Int32) (u : MT) : Option (Int32 × MT) :=
  if (6 : Int32) ≤ (gI u ts 1) then
    some ((0 : Int32), u)
  else
    if (gI u ts 1) = 0 then
      B_X8_canTake_34 w f ts u
    else
      ck (ixo ((gI u ts 1) - (1 : Int32)) 6) <|
      ck (lt_t w (lt_p w (ts + 1) (((gI u ts 1) - (1 : Int32))).toNatClampNeg) = 7) <|
      if x1 ≤ (gI u (lt_p w (ts + 1) (((gI u ts 1) - (1 : Int32))).toNatClampNeg) 5) then
        some ((0 : Int32), u)
      else
        B_X8_canTake_34 w f ts u
theorem m_X8_canTake {g : GT} {w : LT} (hL : Lay w) {ts : Nat} {x1 : Int32} {f : Nat} {u : MT} {r : (Int32 × MT)} (hts : isTs w ts) (h : F_X8_canTake w f ts x1 u = some r) : Mt g yX8_canTake cX8_canTake 2 (some .boolean) 0 0 0 [.ref ts, .int x1] w u (Qi r.1 w r.2) := by
  refine Mt_of (own := RX8) (by decide +kernel) rfl (Nat.le_of_ble_eq_true rfl) (fun z C _ => ?_)
  show V z g 2 0 [(0, .ref ts), (1, .int x1)] [] w u 0 0 (Qi r.1 w r.2)
  rw [F_X8_canTake] at h
  refine Vaload_n C 0 (dAt D_X8_canTake 0 rfl) rfl rfl ?_
  refine VgetI C (dAt D_X8_canTake 1 rfl) gf_X8_17 (hts).1 rfl ?_
  refine Vbipush (x := 6) C (dAt D_X8_canTake 2 rfl) (by decide) ?_
  refine Vicmp_ge (tgt := 38) C (dAt D_X8_canTake 3 rfl) (by decide) (fun c1 => ?_) (fun c1 => ?_)
  · have h := ok_t c1 h
    refine Viconst (x := 0) C (dAt D_X8_canTake 19 rfl) (by decide) ?_
    cases h
    exact Vzret C (dAt D_X8_canTake 20 rfl) rfl (by decide) (by decide) ⟨rfl, rfl, rfl⟩
  · have h := ok_f c1 h
    refine Vaload_n C 0 (dAt D_X8_canTake 4 rfl) rfl rfl ?_
    refine VgetI C (dAt D_X8_canTake 5 rfl) gf_X8_17 (hts).1 rfl ?_
    refine Vif_eq (tgt := 34) C (dAt D_X8_canTake 6 rfl) (by decide) (fun c2 => ?_) (fun c2 => ?_)
    · have h := ok_t c2 h
      exact Vsub [] rfl (w_X8_canTake_34 hL hts C  h)
    · have h := ok_f c2 h
      refine Viload_n C 1 (dAt D_X8_canTake 7 rfl) rfl rfl ?_
      refine Vaload_n C 0 (dAt D_X8_canTake 8 rfl) rfl rfl ?_
      refine VgetP C (dAt D_X8_canTake 9 rfl) gf_X8_11 (hts).1 rfl (hts).2.1 ?_
      refine Vaload_n C 0 (dAt D_X8_canTake 10 rfl) rfl rfl ?_
      refine VgetI C (dAt D_X8_canTake 11 rfl) gf_X8_17 (hts).1 rfl ?_
      refine Viconst (x := 1) C (dAt D_X8_canTake 12 rfl) (by decide) ?_
      refine Visub C (dAt D_X8_canTake 13 rfl) ?_
      obtain ⟨c3, h⟩ := ok_ck h
      refine VaaldP C (dAt D_X8_canTake 14 rfl) (Or.inr rfl) (hts).2.2.1 (hts).2.2.2 (vp_in_iff.mpr c3) rfl ?_
      obtain ⟨c4, h⟩ := ok_ck h
      refine VgetI C (dAt D_X8_canTake 15 rfl) gf_X8_21 ((hL.2.2.1 _ c4)).1 rfl ?_
      refine Vicmp_le (tgt := 38) C (dAt D_X8_canTake 16 rfl) (by decide) (fun c5 => ?_) (fun c5 => ?_)
      · have h := ok_t c5 h
        refine Viconst (x := 0) C (dAt D_X8_canTake 19 rfl) (by decide) ?_
        cases h
        exact Vzret C (dAt D_X8_canTake 20 rfl) rfl (by decide) (by decide) ⟨rfl, rfl, rfl⟩
      · have h := ok_f c5 h
        exact Vsub [] rfl (w_X8_canTake_34 hL hts C  h)
def F_X8_rulesOfLatest (w : LT) (f : Nat) (ts : Nat) (u : MT) : Option (Int32 × MT) :=
  if (gI u ts 1) = 0 then
    some ((0 : Int32), u)
  else
    ck (ixo ((gI u ts 1) - (1 : Int32)) 6) <|
    ck (lt_t w (lt_p w (ts + 1) (((gI u ts 1) - (1 : Int32))).toNatClampNeg) = 7) <|
    some ((gI u (lt_p w (ts + 1) (((gI u ts 1) - (1 : Int32))).toNatClampNeg) 1), u)
theorem m_X8_rulesOfLatest {g : GT} {w : LT} (hL : Lay w) {ts : Nat} {f : Nat} {u : MT} {r : (Int32 × MT)} (hts : isTs w ts) (h : F_X8_rulesOfLatest w f ts u = some r) : Mt g yX8_rulesOfLatest cX8_rulesOfLatest 1 (some .int) 0 0 0 [.ref ts] w u (Qi r.1 w r.2) := by
  refine Mt_of (own := RX8) (by decide +kernel) rfl (Nat.le_of_ble_eq_true rfl) (fun z C _ => ?_)
  show V z g 1 0 [(0, .ref ts)] [] w u 0 0 (Qi r.1 w r.2)
  rw [F_X8_rulesOfLatest] at h
  refine Vaload_n C 0 (dAt D_X8_rulesOfLatest 0 rfl) rfl rfl ?_
  refine VgetI C (dAt D_X8_rulesOfLatest 1 rfl) gf_X8_17 (hts).1 rfl ?_
  refine Vif_ne (tgt := 11) C (dAt D_X8_rulesOfLatest 2 rfl) (by decide) (fun c1 => ?_) (fun c1 => ?_)
  · have h := ok_f c1 h
    refine Vaload_n C 0 (dAt D_X8_rulesOfLatest 5 rfl) rfl rfl ?_
    refine VgetP C (dAt D_X8_rulesOfLatest 6 rfl) gf_X8_11 (hts).1 rfl (hts).2.1 ?_
    refine Vaload_n C 0 (dAt D_X8_rulesOfLatest 7 rfl) rfl rfl ?_
    refine VgetI C (dAt D_X8_rulesOfLatest 8 rfl) gf_X8_17 (hts).1 rfl ?_
    refine Viconst (x := 1) C (dAt D_X8_rulesOfLatest 9 rfl) (by decide) ?_
    refine Visub C (dAt D_X8_rulesOfLatest 10 rfl) ?_
    obtain ⟨c2, h⟩ := ok_ck h
    refine VaaldP C (dAt D_X8_rulesOfLatest 11 rfl) (Or.inr rfl) (hts).2.2.1 (hts).2.2.2 (vp_in_iff.mpr c2) rfl ?_
    obtain ⟨c3, h⟩ := ok_ck h
    refine VgetI C (dAt D_X8_rulesOfLatest 12 rfl) gf_X8_31 ((hL.2.2.1 _ c3)).1 rfl ?_
    cases h
    exact Viret C (dAt D_X8_rulesOfLatest 13 rfl) (by decide) (by decide) ⟨rfl, rfl, rfl⟩
  · have h := ok_t c1 h
    refine Viconst (x := 0) C (dAt D_X8_rulesOfLatest 3 rfl) (by decide) ?_
    refine Vgoto (tgt := 25) C (dAt D_X8_rulesOfLatest 4 rfl) (by decide) ?_
    cases h
    exact Viret C (dAt D_X8_rulesOfLatest 13 rfl) (by decide) (by decide) ⟨rfl, rfl, rfl⟩
def F_X9_isOperator (f : Nat) (a0 : Nat) (u : MT) : Option (Int32 × MT) :=
  if (tkC.getD (12 - 1) 0) < (tkC.getD (a0 - 1) 0) then
    some ((0 : Int32), u)
  else
    some ((1 : Int32), u)
theorem m_X9_isOperator {g : GT} {w : LT} (hL : Lay w) {a0 : Nat} {f : Nat} {u : MT} {r : (Int32 × MT)} (k0 : 1 ≤ a0) (k0b : a0 ≤ 34) (h : F_X9_isOperator f a0 u = some r) : Mt g yX9_isOperator cX9_isOperator 1 (some .boolean) 0 0 0 [.ref a0] w u (Qi r.1 w r.2) := by
  refine Mt_of (own := RX9) (by decide +kernel) rfl (Nat.le_of_ble_eq_true rfl) (fun z C _ => ?_)
  show V z g 1 0 [(0, .ref a0)] [] w u 0 0 (Qi r.1 w r.2)
  rw [F_X9_isOperator] at h
  refine Vaload_n C 0 (dAt D_X9_isOperator 0 rfl) rfl rfl ?_
  refine Vtokc C (dAt D_X9_isOperator 1 rfl) gt_X9_131 k0 k0b ?_
  refine Vtok (i := 11) (x := 12) C (dAt D_X9_isOperator 2 rfl) gs_X9_39 (by decide) rfl rfl ?_
  refine Vtokc C (dAt D_X9_isOperator 3 rfl) gt_X9_131 (by decide) (by decide) ?_
  refine Vicmp_gt (tgt := 17) C (dAt D_X9_isOperator 4 rfl) (by decide) (fun c1 => ?_) (fun c1 => ?_)
  · have h := ok_t c1 h
    refine Viconst (x := 0) C (dAt D_X9_isOperator 7 rfl) (by decide) ?_
    cases h
    exact Vzret C (dAt D_X9_isOperator 8 rfl) rfl (by decide) (by decide) ⟨rfl, rfl, rfl⟩
  · have h := ok_f c1 h
    refine Viconst (x := 1) C (dAt D_X9_isOperator 5 rfl) (by decide) ?_
    refine Vgoto (tgt := 18) C (dAt D_X9_isOperator 6 rfl) (by decide) ?_
    cases h
    exact Vzret C (dAt D_X9_isOperator 8 rfl) rfl (by decide) (by decide) ⟨rfl, rfl, rfl⟩
def B_X9_isCompare_14 (f : Nat) (a0 : Nat) (u : MT) : Option (Int32 × MT) :=
  some ((1 : Int32), u)
theorem w_X9_isCompare_14 {z : ZT} {g : GT} {w : LT} (hL : Lay w) {a0 : Nat} (k0 : 1 ≤ a0) (k0b : a0 ≤ 34) (C : Cx z g cX9_isCompare 1 RX9 (some .boolean) 0 0 0) {f : Nat} {r : (Int32 × MT)} {u : MT} (h : B_X9_isCompare_14 f a0  u = some r) : V z g 1 14 [] [] w u 0 0 (Qi r.1 w r.2) := by
  rw [B_X9_isCompare_14] at h
  refine Viconst (x := 1) C (dAt D_X9_isCompare 6 rfl) (by decide) ?_
  refine Vgoto (tgt := 19) C (dAt D_X9_isCompare 7 rfl) (by decide) ?_
  cases h
  exact Vzret C (dAt D_X9_isCompare 9 rfl) rfl (by decide) (by decide) ⟨rfl, rfl, rfl⟩
def F_X9_isCompare (f : Nat) (a0 : Nat) (u : MT) : Option (Int32 × MT) :=
  if a0 = 14 then
    B_X9_isCompare_14 f a0 u
  else
    if a0 = 15 then
      B_X9_isCompare_14 f a0 u
    else
      some ((0 : Int32), u)
theorem m_X9_isCompare {g : GT} {w : LT} (hL : Lay w) {a0 : Nat} {f : Nat} {u : MT} {r : (Int32 × MT)} (k0 : 1 ≤ a0) (k0b : a0 ≤ 34) (h : F_X9_isCompare f a0 u = some r) : Mt g yX9_isCompare cX9_isCompare 1 (some .boolean) 0 0 0 [.ref a0] w u (Qi r.1 w r.2) := by
  refine Mt_of (own := RX9) (by decide +kernel) rfl (Nat.le_of_ble_eq_true rfl) (fun z C _ => ?_)
  show V z g 1 0 [(0, .ref a0)] [] w u 0 0 (Qi r.1 w r.2)
  rw [F_X9_isCompare] at h
  refine Vaload_n C 0 (dAt D_X9_isCompare 0 rfl) rfl rfl ?_
  refine Vtok (i := 13) (x := 14) C (dAt D_X9_isCompare 1 rfl) gs_X9_45 (by decide) rfl rfl ?_
  refine Vacmp_eq (tgt := 14) C (dAt D_X9_isCompare 2 rfl) (by decide) k0b (by decide) (fun c1 => ?_) (fun c1 => ?_)
  · have h := ok_t c1 h
    exact Vsub [] rfl (w_X9_isCompare_14 hL k0 k0b C  h)
  · have h := ok_f c1 h
    refine Vaload_n C 0 (dAt D_X9_isCompare 3 rfl) rfl rfl ?_
    refine Vtok (i := 14) (x := 15) C (dAt D_X9_isCompare 4 rfl) gs_X9_48 (by decide) rfl rfl ?_
    refine Vacmp_ne (tgt := 18) C (dAt D_X9_isCompare 5 rfl) (by decide) k0b (by decide) (fun c2 => ?_) (fun c2 => ?_)
    · have h := ok_f c2 h
      refine Viconst (x := 0) C (dAt D_X9_isCompare 8 rfl) (by decide) ?_
      cases h
      exact Vzret C (dAt D_X9_isCompare 9 rfl) rfl (by decide) (by decide) ⟨rfl, rfl, rfl⟩
    · have h := ok_t c2 h
      exact Vsub [] rfl (w_X9_isCompare_14 hL k0 k0b C  h)
def B_X9_beginsPart_28 (f : Nat) (a0 : Nat) (u : MT) : Option (Int32 × MT) :=
  some ((1 : Int32), u)
theorem w_X9_beginsPart_28 {z : ZT} {g : GT} {w : LT} (hL : Lay w) {a0 : Nat} (k0 : 1 ≤ a0) (k0b : a0 ≤ 34) (C : Cx z g cX9_beginsPart 1 RX9 (some .boolean) 1 0 0) {f : Nat} {r : (Int32 × MT)} {u : MT} (h : B_X9_beginsPart_28 f a0  u = some r) : V z g 1 28 [] [] w u 0 0 (Qi r.1 w r.2) := by
  rw [B_X9_beginsPart_28] at h
  refine Viconst (x := 1) C (dAt D_X9_beginsPart 12 rfl) (by decide) ?_
  refine Vgoto (tgt := 33) C (dAt D_X9_beginsPart 13 rfl) (by decide) ?_
  cases h
  exact Vzret C (dAt D_X9_beginsPart 15 rfl) rfl (by decide) (by decide) ⟨rfl, rfl, rfl⟩
def F_X9_beginsPart (f : Nat) (a0 : Nat) (u : MT) : Option (Int32 × MT) :=
  if a0 = 3 then
    B_X9_beginsPart_28 f a0 u
  else
    if a0 = 4 then
      B_X9_beginsPart_28 f a0 u
    else
      if 0 ≤ (tkC.getD (a0 - 1) 0) then
        some ((0 : Int32), u)
      else
        (F_X9_isOperator f a0 u).bind fun r4 =>
        if r4.1 = 0 then
          B_X9_beginsPart_28 f a0 r4.2
        else
          some ((0 : Int32), r4.2)
theorem m_X9_beginsPart {g : GT} {w : LT} (hL : Lay w) {a0 : Nat} {f : Nat} {u : MT} {r : (Int32 × MT)} (k0 : 1 ≤ a0) (k0b : a0 ≤ 34) (h : F_X9_beginsPart f a0 u = some r) : Mt g yX9_beginsPart cX9_beginsPart 1 (some .boolean) 1 0 0 [.ref a0] w u (Qi r.1 w r.2) := by
  refine Mt_of (own := RX9) (by decide +kernel) rfl (Nat.le_of_ble_eq_true rfl) (fun z C _ => ?_)
  show V z g 1 0 [(0, .ref a0)] [] w u 0 0 (Qi r.1 w r.2)
  rw [F_X9_beginsPart] at h
  refine Vaload_n C 0 (dAt D_X9_beginsPart 0 rfl) rfl rfl ?_
  refine Vtok (i := 2) (x := 3) C (dAt D_X9_beginsPart 1 rfl) gs_X9_12 (by decide) rfl rfl ?_
  refine Vacmp_eq (tgt := 28) C (dAt D_X9_beginsPart 2 rfl) (by decide) k0b (by decide) (fun c1 => ?_) (fun c1 => ?_)
  · have h := ok_t c1 h
    exact Vsub [] rfl (w_X9_beginsPart_28 hL k0 k0b C  h)
  · have h := ok_f c1 h
    refine Vaload_n C 0 (dAt D_X9_beginsPart 3 rfl) rfl rfl ?_
    refine Vtok (i := 3) (x := 4) C (dAt D_X9_beginsPart 4 rfl) gs_X9_15 (by decide) rfl rfl ?_
    refine Vacmp_eq (tgt := 28) C (dAt D_X9_beginsPart 5 rfl) (by decide) k0b (by decide) (fun c2 => ?_) (fun c2 => ?_)
    · have h := ok_t c2 h
      exact Vsub [] rfl (w_X9_beginsPart_28 hL k0 k0b C  h)
    · have h := ok_f c2 h
      refine Vaload_n C 0 (dAt D_X9_beginsPart 6 rfl) rfl rfl ?_
      refine Vtokc C (dAt D_X9_beginsPart 7 rfl) gt_X9_131 k0 k0b ?_
      refine Vif_ge (tgt := 32) C (dAt D_X9_beginsPart 8 rfl) (by decide) (fun c3 => ?_) (fun c3 => ?_)
      · have h := ok_t c3 h
        refine Viconst (x := 0) C (dAt D_X9_beginsPart 14 rfl) (by decide) ?_
        cases h
        exact Vzret C (dAt D_X9_beginsPart 15 rfl) rfl (by decide) (by decide) ⟨rfl, rfl, rfl⟩
      · have h := ok_f c3 h
        refine Vaload_n C 0 (dAt D_X9_beginsPart 9 rfl) rfl rfl ?_
        obtain ⟨r4, e5, h⟩ := ok_b h
        refine VcallV (as := []) C (dAt D_X9_beginsPart 10 rfl) (m_X9_isOperator hL k0 k0b e5) yv_X9_158 (Or.inr ⟨rfl, k0, k0b⟩) rfl rfl (Nat.le_of_ble_eq_true rfl) (by decide) (by decide) (by decide) (by decide) (Kint ?_)
        refine Vif_ne (tgt := 32) C (dAt D_X9_beginsPart 11 rfl) (by decide) (fun c6 => ?_) (fun c6 => ?_)
        · have h := ok_f c6 h
          refine Viconst (x := 0) C (dAt D_X9_beginsPart 14 rfl) (by decide) ?_
          cases h
          exact Vzret C (dAt D_X9_beginsPart 15 rfl) rfl (by decide) (by decide) ⟨rfl, rfl, rfl⟩
        · have h := ok_t c6 h
          exact Vsub [] rfl (w_X9_beginsPart_28 hL k0 k0b C  h)
def B_X9_beginsRule_28 (f : Nat) (a0 : Nat) (u : MT) : Option (Int32 × MT) :=
  some ((1 : Int32), u)
theorem w_X9_beginsRule_28 {z : ZT} {g : GT} {w : LT} (hL : Lay w) {a0 : Nat} (k0 : 1 ≤ a0) (k0b : a0 ≤ 34) (C : Cx z g cX9_beginsRule 1 RX9 (some .boolean) 0 0 0) {f : Nat} {r : (Int32 × MT)} {u : MT} (h : B_X9_beginsRule_28 f a0  u = some r) : V z g 1 28 [] [] w u 0 0 (Qi r.1 w r.2) := by
  rw [B_X9_beginsRule_28] at h
  refine Viconst (x := 1) C (dAt D_X9_beginsRule 12 rfl) (by decide) ?_
  refine Vgoto (tgt := 33) C (dAt D_X9_beginsRule 13 rfl) (by decide) ?_
  cases h
  exact Vzret C (dAt D_X9_beginsRule 15 rfl) rfl (by decide) (by decide) ⟨rfl, rfl, rfl⟩
def F_X9_beginsRule (f : Nat) (a0 : Nat) (u : MT) : Option (Int32 × MT) :=
  if a0 = 16 then
    B_X9_beginsRule_28 f a0 u
  else
    if a0 = 17 then
      B_X9_beginsRule_28 f a0 u
    else
      if a0 = 18 then
        B_X9_beginsRule_28 f a0 u
      else
        if a0 = 19 then
          B_X9_beginsRule_28 f a0 u
        else
          some ((0 : Int32), u)
theorem m_X9_beginsRule {g : GT} {w : LT} (hL : Lay w) {a0 : Nat} {f : Nat} {u : MT} {r : (Int32 × MT)} (k0 : 1 ≤ a0) (k0b : a0 ≤ 34) (h : F_X9_beginsRule f a0 u = some r) : Mt g yX9_beginsRule cX9_beginsRule 1 (some .boolean) 0 0 0 [.ref a0] w u (Qi r.1 w r.2) := by
  refine Mt_of (own := RX9) (by decide +kernel) rfl (Nat.le_of_ble_eq_true rfl) (fun z C _ => ?_)
  show V z g 1 0 [(0, .ref a0)] [] w u 0 0 (Qi r.1 w r.2)
  rw [F_X9_beginsRule] at h
  refine Vaload_n C 0 (dAt D_X9_beginsRule 0 rfl) rfl rfl ?_
  refine Vtok (i := 15) (x := 16) C (dAt D_X9_beginsRule 1 rfl) gs_X9_51 (by decide) rfl rfl ?_
  refine Vacmp_eq (tgt := 28) C (dAt D_X9_beginsRule 2 rfl) (by decide) k0b (by decide) (fun c1 => ?_) (fun c1 => ?_)
  · have h := ok_t c1 h
    exact Vsub [] rfl (w_X9_beginsRule_28 hL k0 k0b C  h)
  · have h := ok_f c1 h
    refine Vaload_n C 0 (dAt D_X9_beginsRule 3 rfl) rfl rfl ?_
    refine Vtok (i := 16) (x := 17) C (dAt D_X9_beginsRule 4 rfl) gs_X9_54 (by decide) rfl rfl ?_
    refine Vacmp_eq (tgt := 28) C (dAt D_X9_beginsRule 5 rfl) (by decide) k0b (by decide) (fun c2 => ?_) (fun c2 => ?_)
    · have h := ok_t c2 h
      exact Vsub [] rfl (w_X9_beginsRule_28 hL k0 k0b C  h)
    · have h := ok_f c2 h
      refine Vaload_n C 0 (dAt D_X9_beginsRule 6 rfl) rfl rfl ?_
      refine Vtok (i := 17) (x := 18) C (dAt D_X9_beginsRule 7 rfl) gs_X9_57 (by decide) rfl rfl ?_
      refine Vacmp_eq (tgt := 28) C (dAt D_X9_beginsRule 8 rfl) (by decide) k0b (by decide) (fun c3 => ?_) (fun c3 => ?_)
      · have h := ok_t c3 h
        exact Vsub [] rfl (w_X9_beginsRule_28 hL k0 k0b C  h)
      · have h := ok_f c3 h
        refine Vaload_n C 0 (dAt D_X9_beginsRule 9 rfl) rfl rfl ?_
        refine Vtok (i := 18) (x := 19) C (dAt D_X9_beginsRule 10 rfl) gs_X9_60 (by decide) rfl rfl ?_
        refine Vacmp_ne (tgt := 32) C (dAt D_X9_beginsRule 11 rfl) (by decide) k0b (by decide) (fun c4 => ?_) (fun c4 => ?_)
        · have h := ok_f c4 h
          refine Viconst (x := 0) C (dAt D_X9_beginsRule 14 rfl) (by decide) ?_
          cases h
          exact Vzret C (dAt D_X9_beginsRule 15 rfl) rfl (by decide) (by decide) ⟨rfl, rfl, rfl⟩
        · have h := ok_t c4 h
          exact Vsub [] rfl (w_X9_beginsRule_28 hL k0 k0b C  h)
def B_X11_house_63 (f : Nat) (x1 : Int32) (x2 : Int32) (x3 : Int32) (s0 : Int32) (u : MT) : Option (Int32 × MT) :=
  if x3 = 0 then
    if s0 = 0 then
      some ((-1 : Int32), u)
    else
      if (gI u 101 2) < (12 : Int32) then
        (F_X2_add f x1 x2 u).bind fun r13 =>
        some (r13.1, r13.2)
      else
        some ((-1 : Int32), u)
  else
    some ((-1 : Int32), u)
theorem w_X11_house_63 {z : ZT} {g : GT} {w : LT} (hL : Lay w) (C : Cx z g cX11_house 5 RX11 (some .int) 1 0 0) {f : Nat} {r : (Int32 × MT)} {x1 : Int32} {x2 : Int32} {x3 : Int32} {s0 : Int32} {u : MT} (h : B_X11_house_63 f x1 x2 x3 s0 u = some r) : V z g 5 63 [(0, .ref 100), (1, .int x1), (2, .int x2), (3, .int x3)] [.int s0] w u 0 0 (Qi r.1 w r.2) := by
  rw [B_X11_house_63] at h
  refine Vistore (lv' := [(4, _), (0, _), (1, _), (2, _), (3, _)]) C (dAt D_X11_house 29 rfl) (by decide) rfl ?_
  refine Viload_n C 4 (dAt D_X11_house 30 rfl) rfl rfl ?_
  refine Vif_ne (tgt := 86) C (dAt D_X11_house 31 rfl) (by decide) (fun c10 => ?_) (fun c10 => ?_)
  · have h := ok_f c10 h
    refine Viconst (x := (-1)) C (dAt D_X11_house 39 rfl) (by decide) ?_
    cases h
    exact Viret C (dAt D_X11_house 40 rfl) (by decide) (by decide) ⟨rfl, rfl, rfl⟩
  · have h := ok_t c10 h
    refine Viload C 0 (dAt D_X11_house 32 rfl) rfl ?_
    refine Vif_eq (tgt := 86) C (dAt D_X11_house 33 rfl) (by decide) (fun c11 => ?_) (fun c11 => ?_)
    · have h := ok_t c11 h
      refine Viconst (x := (-1)) C (dAt D_X11_house 39 rfl) (by decide) ?_
      cases h
      exact Viret C (dAt D_X11_house 40 rfl) (by decide) (by decide) ⟨rfl, rfl, rfl⟩
    · have h := ok_f c11 h
      refine Vaload_n C 1 (dAt D_X11_house 34 rfl) rfl rfl ?_
      refine VgetP C (dAt D_X11_house 35 rfl) gf_X11_10 (kt_100 hL) rfl (kp_100_0 hL) ?_
      refine VgetI C (dAt D_X11_house 36 rfl) gf_X11_92 (kt_101 hL) rfl ?_
      refine Vbipush (x := 12) C (dAt D_X11_house 37 rfl) (by decide) ?_
      refine Vicmp_lt (tgt := 88) C (dAt D_X11_house 38 rfl) (by decide) (fun c12 => ?_) (fun c12 => ?_)
      · have h := ok_t c12 h
        refine Vaload_n C 1 (dAt D_X11_house 41 rfl) rfl rfl ?_
        refine VgetP C (dAt D_X11_house 42 rfl) gf_X11_10 (kt_100 hL) rfl (kp_100_0 hL) ?_
        refine Viload_n C 2 (dAt D_X11_house 43 rfl) rfl rfl ?_
        refine Viload_n C 3 (dAt D_X11_house 44 rfl) rfl rfl ?_
        obtain ⟨r13, e14, h⟩ := ok_b h
        refine VcallV (as := [_, _]) C (dAt D_X11_house 45 rfl) (m_X2_add hL e14) yv_X11_93 (Or.inl ⟨(kt_101 hL), by decide⟩) rfl rfl (Nat.le_of_ble_eq_true rfl) (by decide) (by decide) (by decide) (by decide) (Kint ?_)
        cases h
        exact Viret C (dAt D_X11_house 46 rfl) (by decide) (by decide) ⟨rfl, rfl, rfl⟩
      · have h := ok_f c12 h
        refine Viconst (x := (-1)) C (dAt D_X11_house 39 rfl) (by decide) ?_
        cases h
        exact Viret C (dAt D_X11_house 40 rfl) (by decide) (by decide) ⟨rfl, rfl, rfl⟩
def B_X11_house_62 (f : Nat) (x1 : Int32) (x2 : Int32) (x3 : Int32) (u : MT) : Option (Int32 × MT) :=
  B_X11_house_63 f x1 x2 x3 (0 : Int32) u
theorem w_X11_house_62 {z : ZT} {g : GT} {w : LT} (hL : Lay w) (C : Cx z g cX11_house 5 RX11 (some .int) 1 0 0) {f : Nat} {r : (Int32 × MT)} {x1 : Int32} {x2 : Int32} {x3 : Int32} {u : MT} (h : B_X11_house_62 f x1 x2 x3 u = some r) : V z g 5 62 [(0, .ref 100), (1, .int x1), (2, .int x2), (3, .int x3)] [] w u 0 0 (Qi r.1 w r.2) := by
  rw [B_X11_house_62] at h
  refine Viconst (x := 0) C (dAt D_X11_house 28 rfl) (by decide) ?_
  exact Vsub [0, 1, 2, 3] rfl (w_X11_house_63 hL C  h)
def B_X11_house_35 (f : Nat) (x1 : Int32) (x2 : Int32) (s0 : Int32) (u : MT) : Option (Int32 × MT) :=
  (F_X11_isIn f x1 (1 : Int32) (1000 : Int32) u).bind fun r4 =>
  if r4.1 = 0 then
    B_X11_house_62 f x1 x2 s0 r4.2
  else
    (F_X11_isIn f x2 (0 : Int32) (5000 : Int32) r4.2).bind fun r7 =>
    if r7.1 = 0 then
      B_X11_house_62 f x1 x2 s0 r7.2
    else
      B_X11_house_63 f x1 x2 s0 (1 : Int32) r7.2
theorem w_X11_house_35 {z : ZT} {g : GT} {w : LT} (hL : Lay w) (C : Cx z g cX11_house 5 RX11 (some .int) 1 0 0) {f : Nat} {r : (Int32 × MT)} {x1 : Int32} {x2 : Int32} {s0 : Int32} {u : MT} (h : B_X11_house_35 f x1 x2 s0 u = some r) : V z g 5 35 [(0, .ref 100), (1, .int x1), (2, .int x2)] [.int s0] w u 0 0 (Qi r.1 w r.2) := by
  rw [B_X11_house_35] at h
  refine Vistore_n (lv' := [(3, _), (0, _), (1, _), (2, _)]) C (dAt D_X11_house 15 rfl) rfl (by decide) rfl ?_
  refine Viload_n C 2 (dAt D_X11_house 16 rfl) rfl rfl ?_
  refine Viconst (x := 1) C (dAt D_X11_house 17 rfl) (by decide) ?_
  refine Vsipush (x := 1000) C (dAt D_X11_house 18 rfl) (by decide) ?_
  obtain ⟨r4, e5, h⟩ := ok_b h
  refine VcallS (as := [_, _, _]) C (dAt D_X11_house 19 rfl) (m_X11_isIn hL e5) yb_X11_40 ys_X11_40 rfl rfl (Nat.le_of_ble_eq_true rfl) (by decide) (by decide) (by decide) (by decide) (Kint ?_)
  refine Vif_eq (tgt := 62) C (dAt D_X11_house 20 rfl) (by decide) (fun c6 => ?_) (fun c6 => ?_)
  · have h := ok_t c6 h
    exact Vsub [1, 2, 3, 0] rfl (w_X11_house_62 hL C  h)
  · have h := ok_f c6 h
    refine Viload_n C 3 (dAt D_X11_house 21 rfl) rfl rfl ?_
    refine Viconst (x := 0) C (dAt D_X11_house 22 rfl) (by decide) ?_
    refine Vsipush (x := 5000) C (dAt D_X11_house 23 rfl) (by decide) ?_
    obtain ⟨r7, e8, h⟩ := ok_b h
    refine VcallS (as := [_, _, _]) C (dAt D_X11_house 24 rfl) (m_X11_isIn hL e8) yb_X11_40 ys_X11_40 rfl rfl (Nat.le_of_ble_eq_true rfl) (by decide) (by decide) (by decide) (by decide) (Kint ?_)
    refine Vif_eq (tgt := 62) C (dAt D_X11_house 25 rfl) (by decide) (fun c9 => ?_) (fun c9 => ?_)
    · have h := ok_t c9 h
      exact Vsub [1, 2, 3, 0] rfl (w_X11_house_62 hL C  h)
    · have h := ok_f c9 h
      refine Viconst (x := 1) C (dAt D_X11_house 26 rfl) (by decide) ?_
      refine Vgoto (tgt := 63) C (dAt D_X11_house 27 rfl) (by decide) ?_
      exact Vsub [1, 2, 3, 0] rfl (w_X11_house_63 hL C  h)
def B_X11_house_30 (f : Nat) (x1 : Int32) (x2 : Int32) (u : MT) : Option (Int32 × MT) :=
  B_X11_house_35 f x1 x2 (1 : Int32) u
theorem w_X11_house_30 {z : ZT} {g : GT} {w : LT} (hL : Lay w) (C : Cx z g cX11_house 5 RX11 (some .int) 1 0 0) {f : Nat} {r : (Int32 × MT)} {x1 : Int32} {x2 : Int32} {u : MT} (h : B_X11_house_30 f x1 x2 u = some r) : V z g 5 30 [(0, .ref 100), (1, .int x1), (2, .int x2)] [] w u 0 0 (Qi r.1 w r.2) := by
  rw [B_X11_house_30] at h
  refine Viconst (x := 1) C (dAt D_X11_house 12 rfl) (by decide) ?_
  refine Vgoto (tgt := 35) C (dAt D_X11_house 13 rfl) (by decide) ?_
  exact Vsub [0, 1, 2] rfl (w_X11_house_35 hL C  h)
def F_X11_house (f : Nat) (x1 : Int32) (x2 : Int32) (u : MT) : Option (Int32 × MT) :=
  if 0 < (gI u 104 5) then
    B_X11_house_30 f x1 x2 u
  else
    if 0 < (gI u 128 1) then
      B_X11_house_30 f x1 x2 u
    else
      if (gI u 138 1) ≤ 0 then
        B_X11_house_35 f x1 x2 (0 : Int32) u
      else
        B_X11_house_30 f x1 x2 u
theorem m_X11_house {g : GT} {w : LT} (hL : Lay w) {x1 : Int32} {x2 : Int32} {f : Nat} {u : MT} {r : (Int32 × MT)} (h : F_X11_house f x1 x2 u = some r) : Mt g yX11_house cX11_house 5 (some .int) 1 0 0 [.ref 100, .int x1, .int x2] w u (Qi r.1 w r.2) := by
  refine Mt_of (own := RX11) (by decide +kernel) rfl (Nat.le_of_ble_eq_true rfl) (fun z C _ => ?_)
  show V z g 5 0 [(0, .ref 100), (1, .int x1), (2, .int x2)] [] w u 0 0 (Qi r.1 w r.2)
  rw [F_X11_house] at h
  refine Vaload_n C 0 (dAt D_X11_house 0 rfl) rfl rfl ?_
  refine VgetP C (dAt D_X11_house 1 rfl) gf_X11_19 (kt_100 hL) rfl (kp_100_1 hL) ?_
  refine VgetI C (dAt D_X11_house 2 rfl) gf_X11_88 (kt_104 hL) rfl ?_
  refine Vif_gt (tgt := 30) C (dAt D_X11_house 3 rfl) (by decide) (fun c1 => ?_) (fun c1 => ?_)
  · have h := ok_t c1 h
    exact Vsub [0, 1, 2] rfl (w_X11_house_30 hL C  h)
  · have h := ok_f c1 h
    refine Vaload_n C 0 (dAt D_X11_house 4 rfl) rfl rfl ?_
    refine VgetP C (dAt D_X11_house 5 rfl) gf_X11_54 (kt_100 hL) rfl (kp_100_5 hL) ?_
    refine VgetI C (dAt D_X11_house 6 rfl) gf_X11_91 (kt_128 hL) rfl ?_
    refine Vif_gt (tgt := 30) C (dAt D_X11_house 7 rfl) (by decide) (fun c2 => ?_) (fun c2 => ?_)
    · have h := ok_t c2 h
      exact Vsub [0, 1, 2] rfl (w_X11_house_30 hL C  h)
    · have h := ok_f c2 h
      refine Vaload_n C 0 (dAt D_X11_house 8 rfl) rfl rfl ?_
      refine VgetP C (dAt D_X11_house 9 rfl) gf_X11_74 (kt_100 hL) rfl (kp_100_8 hL) ?_
      refine VgetI C (dAt D_X11_house 10 rfl) gf_X11_91 (kt_138 hL) rfl ?_
      refine Vif_le (tgt := 34) C (dAt D_X11_house 11 rfl) (by decide) (fun c3 => ?_) (fun c3 => ?_)
      · have h := ok_t c3 h
        refine Viconst (x := 0) C (dAt D_X11_house 14 rfl) (by decide) ?_
        exact Vsub [0, 1, 2] rfl (w_X11_house_35 hL C  h)
      · have h := ok_f c3 h
        exact Vsub [0, 1, 2] rfl (w_X11_house_30 hL C  h)
def F_X11_isQuarter (f : Nat) (x0 : Int32) (u : MT) : Option (Int32 × MT) :=
  (F_X11_isIn f x0 (0 : Int32) (239 : Int32) u).bind fun r1 =>
  ck (r1.1 = 0 ∨ r1.1 = 1) <|
  some (r1.1, r1.2)
theorem m_X11_isQuarter {g : GT} {w : LT} (hL : Lay w) {x0 : Int32} {f : Nat} {u : MT} {r : (Int32 × MT)} (h : F_X11_isQuarter f x0 u = some r) : Mt g yX11_isQuarter cX11_isQuarter 1 (some .boolean) 1 0 0 [.int x0] w u (Qi r.1 w r.2) := by
  refine Mt_of (own := RX11) (by decide +kernel) rfl (Nat.le_of_ble_eq_true rfl) (fun z C _ => ?_)
  show V z g 1 0 [(0, .int x0)] [] w u 0 0 (Qi r.1 w r.2)
  rw [F_X11_isQuarter] at h
  refine Viload_n C 0 (dAt D_X11_isQuarter 0 rfl) rfl rfl ?_
  refine Viconst (x := 0) C (dAt D_X11_isQuarter 1 rfl) (by decide) ?_
  refine Vsipush (x := 239) C (dAt D_X11_isQuarter 2 rfl) (by decide) ?_
  obtain ⟨r1, e2, h⟩ := ok_b h
  refine VcallS (as := [_, _, _]) C (dAt D_X11_isQuarter 3 rfl) (m_X11_isIn hL e2) yb_X11_40 ys_X11_40 rfl rfl (Nat.le_of_ble_eq_true rfl) (by decide) (by decide) (by decide) (by decide) (Kint ?_)
  obtain ⟨c3, h⟩ := ok_ck h
  cases h
  exact Vzret C (dAt D_X11_isQuarter 4 rfl) (nz01 c3) (by decide) (by decide) ⟨rfl, rfl, rfl⟩
def B_X11_read_53 (w : LT) (f : Nat) (x1 : Int32) (x2 : Int32) (x3 : Int32) (x4 : Int32) (x5 : Int32) (s0 : Int32) (u : MT) : Option (Int32 × MT) :=
  if x5 = 0 then
    some ((0 : Int32), u)
  else
    if s0 = 0 then
      some ((0 : Int32), u)
    else
      if (gI u 104 5) < (400 : Int32) then
        (F_X4_add f x1 x2 x3 x4 (gI u 100 11) u).bind fun r16 =>
        (F_X1_forgetFrom f 130 128 x2 r16).bind fun r18 =>
        if (lt_p w 100 9) = 0 then
          some ((1 : Int32), r18)
        else
          ck (lt_t w (lt_p w 100 9) = 1) <|
          (F_X1_forgetFrom f (lt_p w 100 9) (lt_p w (lt_p w 100 9) 2) x2 r18).bind fun r22 =>
          some ((1 : Int32), r22)
      else
        some ((0 : Int32), u)
theorem w_X11_read_53 {z : ZT} {g : GT} {w : LT} (hL : Lay w) (C : Cx z g cX11_read 7 RX11 (some .boolean) 2 0 0) {f : Nat} {r : (Int32 × MT)} {x1 : Int32} {x2 : Int32} {x3 : Int32} {x4 : Int32} {x5 : Int32} {s0 : Int32} {u : MT} (h : B_X11_read_53 w f x1 x2 x3 x4 x5 s0 u = some r) : V z g 7 53 [(0, .ref 100), (1, .int x1), (2, .int x2), (3, .int x3), (4, .int x4), (5, .int x5)] [.int s0] w u 0 0 (Qi r.1 w r.2) := by
  rw [B_X11_read_53] at h
  refine Vistore (lv' := [(6, _), (0, _), (1, _), (2, _), (3, _), (4, _), (5, _)]) C (dAt D_X11_read 25 rfl) (by decide) rfl ?_
  refine Viload C 6 (dAt D_X11_read 26 rfl) rfl ?_
  refine Vif_eq (tgt := 78) C (dAt D_X11_read 27 rfl) (by decide) (fun c13 => ?_) (fun c13 => ?_)
  · have h := ok_t c13 h
    refine Viconst (x := 0) C (dAt D_X11_read 35 rfl) (by decide) ?_
    cases h
    exact Vzret C (dAt D_X11_read 36 rfl) rfl (by decide) (by decide) ⟨rfl, rfl, rfl⟩
  · have h := ok_f c13 h
    refine Viload C 0 (dAt D_X11_read 28 rfl) rfl ?_
    refine Vif_eq (tgt := 78) C (dAt D_X11_read 29 rfl) (by decide) (fun c14 => ?_) (fun c14 => ?_)
    · have h := ok_t c14 h
      refine Viconst (x := 0) C (dAt D_X11_read 35 rfl) (by decide) ?_
      cases h
      exact Vzret C (dAt D_X11_read 36 rfl) rfl (by decide) (by decide) ⟨rfl, rfl, rfl⟩
    · have h := ok_f c14 h
      refine Vaload_n C 1 (dAt D_X11_read 30 rfl) rfl rfl ?_
      refine VgetP C (dAt D_X11_read 31 rfl) gf_X11_19 (kt_100 hL) rfl (kp_100_1 hL) ?_
      refine VgetI C (dAt D_X11_read 32 rfl) gf_X11_88 (kt_104 hL) rfl ?_
      refine Vsipush (x := 400) C (dAt D_X11_read 33 rfl) (by decide) ?_
      refine Vicmp_lt (tgt := 80) C (dAt D_X11_read 34 rfl) (by decide) (fun c15 => ?_) (fun c15 => ?_)
      · have h := ok_t c15 h
        refine Vaload_n C 1 (dAt D_X11_read 37 rfl) rfl rfl ?_
        refine VgetP C (dAt D_X11_read 38 rfl) gf_X11_19 (kt_100 hL) rfl (kp_100_1 hL) ?_
        refine Viload_n C 2 (dAt D_X11_read 39 rfl) rfl rfl ?_
        refine Viload_n C 3 (dAt D_X11_read 40 rfl) rfl rfl ?_
        refine Viload_n C 4 (dAt D_X11_read 41 rfl) rfl rfl ?_
        refine Viload C 5 (dAt D_X11_read 42 rfl) rfl ?_
        refine Vaload_n C 1 (dAt D_X11_read 43 rfl) rfl rfl ?_
        refine VgetI C (dAt D_X11_read 44 rfl) gf_X11_104 (kt_100 hL) rfl ?_
        obtain ⟨r16, e17, h⟩ := ok_b h
        refine VcallV (as := [_, _, _, _, _]) C (dAt D_X11_read 45 rfl) (m_X4_add hL e17) yv_X11_107 (Or.inl ⟨(kt_104 hL), by decide⟩) rfl rfl (Nat.le_of_ble_eq_true rfl) (by decide) (by decide) (by decide) (by decide) (Kvoid ?_)
        refine Vaload_n C 1 (dAt D_X11_read 46 rfl) rfl rfl ?_
        refine VgetP C (dAt D_X11_read 47 rfl) gf_X11_63 (kt_100 hL) rfl (kp_100_6 hL) ?_
        refine Viload_n C 3 (dAt D_X11_read 48 rfl) rfl rfl ?_
        obtain ⟨r18, e19, h⟩ := ok_b h
        refine VcallV (as := [_]) C (dAt D_X11_read 49 rfl) (m_X1_forgetFrom hL (bk_130 hL) e19) yv_X11_110 (Or.inl ⟨((bk_130 hL)).1, by decide⟩) rfl rfl (Nat.le_of_ble_eq_true rfl) (by decide) (by decide) (by decide) (by decide) (Kvoid ?_)
        refine Vaload_n C 1 (dAt D_X11_read 50 rfl) rfl rfl ?_
        refine VgetP C (dAt D_X11_read 51 rfl) gf_X11_114 (kt_100 hL) rfl rfl ?_
        refine Vifnull (tgt := 119) C (dAt D_X11_read 52 rfl) (by decide) (fun c20 => ?_) (fun c20 => ?_)
        · have h := ok_t c20 h
          refine Viconst (x := 1) C (dAt D_X11_read 57 rfl) (by decide) ?_
          cases h
          exact Vzret C (dAt D_X11_read 58 rfl) rfl (by decide) (by decide) ⟨rfl, rfl, rfl⟩
        · have h := ok_f c20 h
          refine Vaload_n C 1 (dAt D_X11_read 53 rfl) rfl rfl ?_
          refine VgetP C (dAt D_X11_read 54 rfl) gf_X11_114 (kt_100 hL) rfl rfl ?_
          refine Viload_n C 3 (dAt D_X11_read 55 rfl) rfl rfl ?_
          obtain ⟨c21, h⟩ := ok_ck h
          obtain ⟨r22, e23, h⟩ := ok_b h
          refine VcallV (as := [_]) C (dAt D_X11_read 56 rfl) (m_X1_forgetFrom hL (hL.2.2.2 _ c21) e23) yv_X11_110 (Or.inl ⟨((hL.2.2.2 _ c21)).1, by decide⟩) rfl rfl (Nat.le_of_ble_eq_true rfl) (by decide) (by decide) (by decide) (by decide) (Kvoid ?_)
          refine Viconst (x := 1) C (dAt D_X11_read 57 rfl) (by decide) ?_
          cases h
          exact Vzret C (dAt D_X11_read 58 rfl) rfl (by decide) (by decide) ⟨rfl, rfl, rfl⟩
      · have h := ok_f c15 h
        refine Viconst (x := 0) C (dAt D_X11_read 35 rfl) (by decide) ?_
        cases h
        exact Vzret C (dAt D_X11_read 36 rfl) rfl (by decide) (by decide) ⟨rfl, rfl, rfl⟩
def B_X11_read_52 (w : LT) (f : Nat) (x1 : Int32) (x2 : Int32) (x3 : Int32) (x4 : Int32) (x5 : Int32) (u : MT) : Option (Int32 × MT) :=
  B_X11_read_53 w f x1 x2 x3 x4 x5 (0 : Int32) u
theorem w_X11_read_52 {z : ZT} {g : GT} {w : LT} (hL : Lay w) (C : Cx z g cX11_read 7 RX11 (some .boolean) 2 0 0) {f : Nat} {r : (Int32 × MT)} {x1 : Int32} {x2 : Int32} {x3 : Int32} {x4 : Int32} {x5 : Int32} {u : MT} (h : B_X11_read_52 w f x1 x2 x3 x4 x5 u = some r) : V z g 7 52 [(0, .ref 100), (1, .int x1), (2, .int x2), (3, .int x3), (4, .int x4), (5, .int x5)] [] w u 0 0 (Qi r.1 w r.2) := by
  rw [B_X11_read_52] at h
  refine Viconst (x := 0) C (dAt D_X11_read 24 rfl) (by decide) ?_
  exact Vsub [0, 1, 2, 3, 4, 5] rfl (w_X11_read_53 hL C  h)
def B_X11_read_23 (w : LT) (f : Nat) (x1 : Int32) (x2 : Int32) (x3 : Int32) (x4 : Int32) (s0 : Int32) (u : MT) : Option (Int32 × MT) :=
  (F_X11_isIn f x3 (0 : Int32) (5000 : Int32) u).bind fun r7 =>
  if r7.1 = 0 then
    B_X11_read_52 w f x1 x2 x3 x4 s0 r7.2
  else
    (F_X11_isIn f x4 (0 : Int32) (5000 : Int32) r7.2).bind fun r10 =>
    if r10.1 = 0 then
      B_X11_read_52 w f x1 x2 x3 x4 s0 r10.2
    else
      B_X11_read_53 w f x1 x2 x3 x4 s0 (1 : Int32) r10.2
theorem w_X11_read_23 {z : ZT} {g : GT} {w : LT} (hL : Lay w) (C : Cx z g cX11_read 7 RX11 (some .boolean) 2 0 0) {f : Nat} {r : (Int32 × MT)} {x1 : Int32} {x2 : Int32} {x3 : Int32} {x4 : Int32} {s0 : Int32} {u : MT} (h : B_X11_read_23 w f x1 x2 x3 x4 s0 u = some r) : V z g 7 23 [(0, .ref 100), (1, .int x1), (2, .int x2), (3, .int x3), (4, .int x4)] [.int s0] w u 0 0 (Qi r.1 w r.2) := by
  rw [B_X11_read_23] at h
  refine Vistore (lv' := [(5, _), (0, _), (1, _), (2, _), (3, _), (4, _)]) C (dAt D_X11_read 11 rfl) (by decide) rfl ?_
  refine Viload_n C 4 (dAt D_X11_read 12 rfl) rfl rfl ?_
  refine Viconst (x := 0) C (dAt D_X11_read 13 rfl) (by decide) ?_
  refine Vsipush (x := 5000) C (dAt D_X11_read 14 rfl) (by decide) ?_
  obtain ⟨r7, e8, h⟩ := ok_b h
  refine VcallS (as := [_, _, _]) C (dAt D_X11_read 15 rfl) (m_X11_isIn hL e8) yb_X11_40 ys_X11_40 rfl rfl (Nat.le_of_ble_eq_true rfl) (by decide) (by decide) (by decide) (by decide) (Kint ?_)
  refine Vif_eq (tgt := 52) C (dAt D_X11_read 16 rfl) (by decide) (fun c9 => ?_) (fun c9 => ?_)
  · have h := ok_t c9 h
    exact Vsub [1, 2, 3, 4, 5, 0] rfl (w_X11_read_52 hL C  h)
  · have h := ok_f c9 h
    refine Viload C 5 (dAt D_X11_read 17 rfl) rfl ?_
    refine Viconst (x := 0) C (dAt D_X11_read 18 rfl) (by decide) ?_
    refine Vsipush (x := 5000) C (dAt D_X11_read 19 rfl) (by decide) ?_
    obtain ⟨r10, e11, h⟩ := ok_b h
    refine VcallS (as := [_, _, _]) C (dAt D_X11_read 20 rfl) (m_X11_isIn hL e11) yb_X11_40 ys_X11_40 rfl rfl (Nat.le_of_ble_eq_true rfl) (by decide) (by decide) (by decide) (by decide) (Kint ?_)
    refine Vif_eq (tgt := 52) C (dAt D_X11_read 21 rfl) (by decide) (fun c12 => ?_) (fun c12 => ?_)
    · have h := ok_t c12 h
      exact Vsub [1, 2, 3, 4, 5, 0] rfl (w_X11_read_52 hL C  h)
    · have h := ok_f c12 h
      refine Viconst (x := 1) C (dAt D_X11_read 22 rfl) (by decide) ?_
      refine Vgoto (tgt := 53) C (dAt D_X11_read 23 rfl) (by decide) ?_
      exact Vsub [1, 2, 3, 4, 5, 0] rfl (w_X11_read_53 hL C  h)
def B_X11_read_22 (w : LT) (f : Nat) (x1 : Int32) (x2 : Int32) (x3 : Int32) (x4 : Int32) (u : MT) : Option (Int32 × MT) :=
  B_X11_read_23 w f x1 x2 x3 x4 (0 : Int32) u
theorem w_X11_read_22 {z : ZT} {g : GT} {w : LT} (hL : Lay w) (C : Cx z g cX11_read 7 RX11 (some .boolean) 2 0 0) {f : Nat} {r : (Int32 × MT)} {x1 : Int32} {x2 : Int32} {x3 : Int32} {x4 : Int32} {u : MT} (h : B_X11_read_22 w f x1 x2 x3 x4 u = some r) : V z g 7 22 [(0, .ref 100), (1, .int x1), (2, .int x2), (3, .int x3), (4, .int x4)] [] w u 0 0 (Qi r.1 w r.2) := by
  rw [B_X11_read_22] at h
  refine Viconst (x := 0) C (dAt D_X11_read 10 rfl) (by decide) ?_
  exact Vsub [0, 1, 2, 3, 4] rfl (w_X11_read_23 hL C  h)
def F_X11_read (w : LT) (f : Nat) (x1 : Int32) (x2 : Int32) (x3 : Int32) (x4 : Int32) (u : MT) : Option (Int32 × MT) :=
  (F_X2_has f x1 u).bind fun r1 =>
  if r1.1 = 0 then
    B_X11_read_22 w f x1 x2 x3 x4 r1.2
  else
    (F_X11_isQuarter f x2 r1.2).bind fun r4 =>
    if r4.1 = 0 then
      B_X11_read_22 w f x1 x2 x3 x4 r4.2
    else
      B_X11_read_23 w f x1 x2 x3 x4 (1 : Int32) r4.2
theorem m_X11_read {g : GT} {w : LT} (hL : Lay w) {x1 : Int32} {x2 : Int32} {x3 : Int32} {x4 : Int32} {f : Nat} {u : MT} {r : (Int32 × MT)} (h : F_X11_read w f x1 x2 x3 x4 u = some r) : Mt g yX11_read cX11_read 7 (some .boolean) 2 0 0 [.ref 100, .int x1, .int x2, .int x3, .int x4] w u (Qi r.1 w r.2) := by
  refine Mt_of (own := RX11) (by decide +kernel) rfl (Nat.le_of_ble_eq_true rfl) (fun z C _ => ?_)
  show V z g 7 0 [(0, .ref 100), (1, .int x1), (2, .int x2), (3, .int x3), (4, .int x4)] [] w u 0 0 (Qi r.1 w r.2)
  rw [F_X11_read] at h
  refine Vaload_n C 0 (dAt D_X11_read 0 rfl) rfl rfl ?_
  refine VgetP C (dAt D_X11_read 1 rfl) gf_X11_10 (kt_100 hL) rfl (kp_100_0 hL) ?_
  refine Viload_n C 1 (dAt D_X11_read 2 rfl) rfl rfl ?_
  obtain ⟨r1, e2, h⟩ := ok_b h
  refine VcallV (as := [_]) C (dAt D_X11_read 3 rfl) (m_X2_has hL e2) yv_X11_97 (Or.inl ⟨(kt_101 hL), by decide⟩) rfl rfl (Nat.le_of_ble_eq_true rfl) (by decide) (by decide) (by decide) (by decide) (Kint ?_)
  refine Vif_eq (tgt := 22) C (dAt D_X11_read 4 rfl) (by decide) (fun c3 => ?_) (fun c3 => ?_)
  · have h := ok_t c3 h
    exact Vsub [0, 1, 2, 3, 4] rfl (w_X11_read_22 hL C  h)
  · have h := ok_f c3 h
    refine Viload_n C 2 (dAt D_X11_read 5 rfl) rfl rfl ?_
    obtain ⟨r4, e5, h⟩ := ok_b h
    refine VcallS (as := [_]) C (dAt D_X11_read 6 rfl) (m_X11_isQuarter hL e5) yb_X11_101 ys_X11_101 rfl rfl (Nat.le_of_ble_eq_true rfl) (by decide) (by decide) (by decide) (by decide) (Kint ?_)
    refine Vif_eq (tgt := 22) C (dAt D_X11_read 7 rfl) (by decide) (fun c6 => ?_) (fun c6 => ?_)
    · have h := ok_t c6 h
      exact Vsub [0, 1, 2, 3, 4] rfl (w_X11_read_22 hL C  h)
    · have h := ok_f c6 h
      refine Viconst (x := 1) C (dAt D_X11_read 8 rfl) (by decide) ?_
      refine Vgoto (tgt := 23) C (dAt D_X11_read 9 rfl) (by decide) ?_
      exact Vsub [0, 1, 2, 3, 4] rfl (w_X11_read_23 hL C  h)
def F_X11_days (f : Nat) (x1 : Int32) (u : MT) : Option (Int32 × MT) :=
  (F_X11_isIn f x1 (0 : Int32) (100 : Int32) u).bind fun r1 =>
  if r1.1 = 0 then
    some ((-1 : Int32), r1.2)
  else
    let u4 := sI r1.2 100 11 ((gI r1.2 100 11) + x1)
    some ((gI u4 100 11), u4)
theorem m_X11_days {g : GT} {w : LT} (hL : Lay w) {x1 : Int32} {f : Nat} {u : MT} {r : (Int32 × MT)} (h : F_X11_days f x1 u = some r) : Mt g yX11_days cX11_days 2 (some .int) 1 0 0 [.ref 100, .int x1] w u (Qi r.1 w r.2) := by
  refine Mt_of (own := RX11) (by decide +kernel) rfl (Nat.le_of_ble_eq_true rfl) (fun z C _ => ?_)
  show V z g 2 0 [(0, .ref 100), (1, .int x1)] [] w u 0 0 (Qi r.1 w r.2)
  rw [F_X11_days] at h
  refine Viload_n C 1 (dAt D_X11_days 0 rfl) rfl rfl ?_
  refine Viconst (x := 0) C (dAt D_X11_days 1 rfl) (by decide) ?_
  refine Vbipush (x := 100) C (dAt D_X11_days 2 rfl) (by decide) ?_
  obtain ⟨r1, e2, h⟩ := ok_b h
  refine VcallS (as := [_, _, _]) C (dAt D_X11_days 3 rfl) (m_X11_isIn hL e2) yb_X11_40 ys_X11_40 rfl rfl (Nat.le_of_ble_eq_true rfl) (by decide) (by decide) (by decide) (by decide) (Kint ?_)
  refine Vif_ne (tgt := 12) C (dAt D_X11_days 4 rfl) (by decide) (fun c3 => ?_) (fun c3 => ?_)
  · have h := ok_f c3 h
    refine Vaload_n C 0 (dAt D_X11_days 7 rfl) rfl rfl ?_
    refine Vdup C (dAt D_X11_days 8 rfl) rfl ?_
    refine VgetI C (dAt D_X11_days 9 rfl) gf_X11_104 (kt_100 hL) rfl ?_
    refine Viload_n C 1 (dAt D_X11_days 10 rfl) rfl rfl ?_
    refine Viadd C (dAt D_X11_days 11 rfl) ?_
    refine VputI C (dAt D_X11_days 12 rfl) gf_X11_104 (kt_100 hL) rfl rfl rfl rfl ?_
    refine Vaload_n C 0 (dAt D_X11_days 13 rfl) rfl rfl ?_
    refine VgetI C (dAt D_X11_days 14 rfl) gf_X11_104 (kt_100 hL) rfl ?_
    cases h
    exact Viret C (dAt D_X11_days 15 rfl) (by decide) (by decide) ⟨rfl, rfl, rfl⟩
  · have h := ok_t c3 h
    refine Viconst (x := (-1)) C (dAt D_X11_days 5 rfl) (by decide) ?_
    cases h
    exact Viret C (dAt D_X11_days 6 rfl) (by decide) (by decide) ⟨rfl, rfl, rfl⟩
def F_X11_feed (f : Nat) (x1 : Int64) (x3 : Int64) (x5 : Int64) (u : MT) : Option (Int32 × MT) :=
  (F_X6_addBytes f x1 u).bind fun r1 =>
  (F_X6_addBytes f x3 r1).bind fun r3 =>
  (F_X6_addBytes f x5 r3).bind fun r5 =>
  some ((gI r5 110 1), r5)
theorem m_X11_feed {g : GT} {w : LT} (hL : Lay w) {x1 : Int64} {x3 : Int64} {x5 : Int64} {f : Nat} {u : MT} {r : (Int32 × MT)} (h : F_X11_feed f x1 x3 x5 u = some r) : Mt g yX11_feed cX11_feed 7 (some .int) 2 0 0 [.ref 100, .long x1, .long x3, .long x5] w u (Qi r.1 w r.2) := by
  refine Mt_of (own := RX11) (by decide +kernel) rfl (Nat.le_of_ble_eq_true rfl) (fun z C _ => ?_)
  show V z g 7 0 [(0, .ref 100), (1, .long x1), (3, .long x3), (5, .long x5)] [] w u 0 0 (Qi r.1 w r.2)
  rw [F_X11_feed] at h
  refine Vaload_n C 0 (dAt D_X11_feed 0 rfl) rfl rfl ?_
  refine VgetP C (dAt D_X11_feed 1 rfl) gf_X11_26 (kt_100 hL) rfl (kp_100_2 hL) ?_
  refine Vlload_n C 1 (dAt D_X11_feed 2 rfl) rfl rfl ?_
  obtain ⟨r1, e2, h⟩ := ok_b h
  refine VcallV (as := [_]) C (dAt D_X11_feed 3 rfl) (m_X6_addBytes hL e2) yv_X11_117 (Or.inl ⟨(kt_110 hL), by decide⟩) rfl rfl (Nat.le_of_ble_eq_true rfl) (by decide) (by decide) (by decide) (by decide) (Kvoid ?_)
  refine Vaload_n C 0 (dAt D_X11_feed 4 rfl) rfl rfl ?_
  refine VgetP C (dAt D_X11_feed 5 rfl) gf_X11_26 (kt_100 hL) rfl (kp_100_2 hL) ?_
  refine Vlload_n C 2 (dAt D_X11_feed 6 rfl) rfl rfl ?_
  obtain ⟨r3, e4, h⟩ := ok_b h
  refine VcallV (as := [_]) C (dAt D_X11_feed 7 rfl) (m_X6_addBytes hL e4) yv_X11_117 (Or.inl ⟨(kt_110 hL), by decide⟩) rfl rfl (Nat.le_of_ble_eq_true rfl) (by decide) (by decide) (by decide) (by decide) (Kvoid ?_)
  refine Vaload_n C 0 (dAt D_X11_feed 8 rfl) rfl rfl ?_
  refine VgetP C (dAt D_X11_feed 9 rfl) gf_X11_26 (kt_100 hL) rfl (kp_100_2 hL) ?_
  refine Vlload C 3 (dAt D_X11_feed 10 rfl) rfl ?_
  obtain ⟨r5, e6, h⟩ := ok_b h
  refine VcallV (as := [_]) C (dAt D_X11_feed 11 rfl) (m_X6_addBytes hL e6) yv_X11_117 (Or.inl ⟨(kt_110 hL), by decide⟩) rfl rfl (Nat.le_of_ble_eq_true rfl) (by decide) (by decide) (by decide) (by decide) (Kvoid ?_)
  refine Vaload_n C 0 (dAt D_X11_feed 12 rfl) rfl rfl ?_
  refine VgetP C (dAt D_X11_feed 13 rfl) gf_X11_26 (kt_100 hL) rfl (kp_100_2 hL) ?_
  refine VgetI C (dAt D_X11_feed 14 rfl) gf_X11_121 (kt_110 hL) rfl ?_
  cases h
  exact Viret C (dAt D_X11_feed 15 rfl) (by decide) (by decide) ⟨rfl, rfl, rfl⟩
def B_X11_known_19 (f : Nat) (x1 : Int32) (u : MT) : Option (Int32 × MT) :=
  let u5 := sI u 100 12 x1
  some ((1 : Int32), u5)
theorem w_X11_known_19 {z : ZT} {g : GT} {w : LT} (hL : Lay w) (C : Cx z g cX11_known 2 RX11 (some .boolean) 1 0 0) {f : Nat} {r : (Int32 × MT)} {x1 : Int32} {u : MT} (h : B_X11_known_19 f x1 u = some r) : V z g 2 19 [(0, .ref 100), (1, .int x1)] [] w u 0 0 (Qi r.1 w r.2) := by
  rw [B_X11_known_19] at h
  refine Vaload_n C 0 (dAt D_X11_known 11 rfl) rfl rfl ?_
  refine Viload_n C 1 (dAt D_X11_known 12 rfl) rfl rfl ?_
  refine VputI C (dAt D_X11_known 13 rfl) gf_X11_84 (kt_100 hL) rfl rfl rfl rfl ?_
  refine Viconst (x := 1) C (dAt D_X11_known 14 rfl) (by decide) ?_
  cases h
  exact Vzret C (dAt D_X11_known 15 rfl) rfl (by decide) (by decide) ⟨rfl, rfl, rfl⟩
def F_X11_known (f : Nat) (x1 : Int32) (u : MT) : Option (Int32 × MT) :=
  if x1 = (-1 : Int32) then
    B_X11_known_19 f x1 u
  else
    (F_X11_isIn f x1 (0 : Int32) (gI u 100 11) u).bind fun r2 =>
    if r2.1 = 0 then
      some ((0 : Int32), r2.2)
    else
      B_X11_known_19 f x1 r2.2
theorem m_X11_known {g : GT} {w : LT} (hL : Lay w) {x1 : Int32} {f : Nat} {u : MT} {r : (Int32 × MT)} (h : F_X11_known f x1 u = some r) : Mt g yX11_known cX11_known 2 (some .boolean) 1 0 0 [.ref 100, .int x1] w u (Qi r.1 w r.2) := by
  refine Mt_of (own := RX11) (by decide +kernel) rfl (Nat.le_of_ble_eq_true rfl) (fun z C _ => ?_)
  show V z g 2 0 [(0, .ref 100), (1, .int x1)] [] w u 0 0 (Qi r.1 w r.2)
  rw [F_X11_known] at h
  refine Viload_n C 1 (dAt D_X11_known 0 rfl) rfl rfl ?_
  refine Viconst (x := (-1)) C (dAt D_X11_known 1 rfl) (by decide) ?_
  refine Vicmp_eq (tgt := 19) C (dAt D_X11_known 2 rfl) (by decide) (fun c1 => ?_) (fun c1 => ?_)
  · have h := ok_t c1 h
    exact Vsub [0, 1] rfl (w_X11_known_19 hL C  h)
  · have h := ok_f c1 h
    refine Viload_n C 1 (dAt D_X11_known 3 rfl) rfl rfl ?_
    refine Viconst (x := 0) C (dAt D_X11_known 4 rfl) (by decide) ?_
    refine Vaload_n C 0 (dAt D_X11_known 5 rfl) rfl rfl ?_
    refine VgetI C (dAt D_X11_known 6 rfl) gf_X11_104 (kt_100 hL) rfl ?_
    obtain ⟨r2, e3, h⟩ := ok_b h
    refine VcallS (as := [_, _, _]) C (dAt D_X11_known 7 rfl) (m_X11_isIn hL e3) yb_X11_40 ys_X11_40 rfl rfl (Nat.le_of_ble_eq_true rfl) (by decide) (by decide) (by decide) (by decide) (Kint ?_)
    refine Vif_ne (tgt := 19) C (dAt D_X11_known 8 rfl) (by decide) (fun c4 => ?_) (fun c4 => ?_)
    · have h := ok_f c4 h
      exact Vsub [0, 1] rfl (w_X11_known_19 hL C  h)
    · have h := ok_t c4 h
      refine Viconst (x := 0) C (dAt D_X11_known 9 rfl) (by decide) ?_
      cases h
      exact Vzret C (dAt D_X11_known 10 rfl) rfl (by decide) (by decide) ⟨rfl, rfl, rfl⟩
def F_X11_dayOfLooks (f : Nat) (u : MT) : Option (Int32 × MT) :=
  if (gI u 100 12) = (-1 : Int32) then
    some ((gI u 100 11), u)
  else
    some ((gI u 100 12), u)
theorem m_X11_dayOfLooks {g : GT} {w : LT} (hL : Lay w) {f : Nat} {u : MT} {r : (Int32 × MT)} (h : F_X11_dayOfLooks f  u = some r) : Mt g yX11_dayOfLooks cX11_dayOfLooks 1 (some .int) 0 0 0 [.ref 100] w u (Qi r.1 w r.2) := by
  refine Mt_of (own := RX11) (by decide +kernel) rfl (Nat.le_of_ble_eq_true rfl) (fun z C _ => ?_)
  show V z g 1 0 [(0, .ref 100)] [] w u 0 0 (Qi r.1 w r.2)
  rw [F_X11_dayOfLooks] at h
  refine Vaload_n C 0 (dAt D_X11_dayOfLooks 0 rfl) rfl rfl ?_
  refine VgetI C (dAt D_X11_dayOfLooks 1 rfl) gf_X11_84 (kt_100 hL) rfl ?_
  refine Viconst (x := (-1)) C (dAt D_X11_dayOfLooks 2 rfl) (by decide) ?_
  refine Vicmp_ne (tgt := 15) C (dAt D_X11_dayOfLooks 3 rfl) (by decide) (fun c1 => ?_) (fun c1 => ?_)
  · have h := ok_f c1 h
    refine Vaload_n C 0 (dAt D_X11_dayOfLooks 7 rfl) rfl rfl ?_
    refine VgetI C (dAt D_X11_dayOfLooks 8 rfl) gf_X11_84 (kt_100 hL) rfl ?_
    cases h
    exact Viret C (dAt D_X11_dayOfLooks 9 rfl) (by decide) (by decide) ⟨rfl, rfl, rfl⟩
  · have h := ok_t c1 h
    refine Vaload_n C 0 (dAt D_X11_dayOfLooks 4 rfl) rfl rfl ?_
    refine VgetI C (dAt D_X11_dayOfLooks 5 rfl) gf_X11_104 (kt_100 hL) rfl ?_
    refine Vgoto (tgt := 19) C (dAt D_X11_dayOfLooks 6 rfl) (by decide) ?_
    cases h
    exact Viret C (dAt D_X11_dayOfLooks 9 rfl) (by decide) (by decide) ⟨rfl, rfl, rfl⟩
def B_X11_had_28 (w : LT) (f : Nat) (u : MT) : Option (Int32 × MT) :=
  none
theorem w_X11_had_28 {z : ZT} {g : GT} {w : LT} (hL : Lay w) (C : Cx z g cX11_had 4 RX11 (some .int) 7 0 0) {f : Nat} {r : (Int32 × MT)} {u : MT} (h : B_X11_had_28 w f  u = some r) : V z g 4 28 [] [] w u 0 0 (Qi r.1 w r.2) := by
  rw [B_X11_had_28] at h
  cases h
def F_X11_had (w : LT) (f : Nat) (x1 : Int32) (x2 : Int32) (x3 : Int32) (u : MT) : Option (Int32 × MT) :=
  (F_X2_has f x1 u).bind fun r1 =>
  if r1.1 = 0 then
    B_X11_had_28 w f r1.2
  else
    (F_X11_isQuarter f x2 r1.2).bind fun r4 =>
    if r4.1 = 0 then
      B_X11_had_28 w f r4.2
    else
      (F_X11_isIn f x3 (0 : Int32) (8 : Int32) r4.2).bind fun r7 =>
      if r7.1 = 0 then
        B_X11_had_28 w f r7.2
      else
        (F_X11_dayOfLooks f r7.2).bind fun r10 =>
        (F_X1_workTo w f 130 128 x2 r10.1 r10.2).bind fun r12 =>
        (F_X1_ofHouse f 130 128 x1 x2 x3 r12).bind fun r14 =>
        some (r14.1, r14.2)
theorem m_X11_had {g : GT} {w : LT} (hL : Lay w) {x1 : Int32} {x2 : Int32} {x3 : Int32} {f : Nat} {u : MT} {r : (Int32 × MT)} (h : F_X11_had w f x1 x2 x3 u = some r) : Mt g yX11_had cX11_had 4 (some .int) 7 0 0 [.ref 100, .int x1, .int x2, .int x3] w u (Qi r.1 w r.2) := by
  refine Mt_of (own := RX11) (by decide +kernel) rfl (Nat.le_of_ble_eq_true rfl) (fun z C _ => ?_)
  show V z g 4 0 [(0, .ref 100), (1, .int x1), (2, .int x2), (3, .int x3)] [] w u 0 0 (Qi r.1 w r.2)
  rw [F_X11_had] at h
  refine Vaload_n C 0 (dAt D_X11_had 0 rfl) rfl rfl ?_
  refine VgetP C (dAt D_X11_had 1 rfl) gf_X11_10 (kt_100 hL) rfl (kp_100_0 hL) ?_
  refine Viload_n C 1 (dAt D_X11_had 2 rfl) rfl rfl ?_
  obtain ⟨r1, e2, h⟩ := ok_b h
  refine VcallV (as := [_]) C (dAt D_X11_had 3 rfl) (m_X2_has hL e2) yv_X11_97 (Or.inl ⟨(kt_101 hL), by decide⟩) rfl rfl (Nat.le_of_ble_eq_true rfl) (by decide) (by decide) (by decide) (by decide) (Kint ?_)
  refine Vif_eq (tgt := 28) C (dAt D_X11_had 4 rfl) (by decide) (fun c3 => ?_) (fun c3 => ?_)
  · have h := ok_t c3 h
    exact Vsub [] rfl (w_X11_had_28 hL C  h)
  · have h := ok_f c3 h
    refine Viload_n C 2 (dAt D_X11_had 5 rfl) rfl rfl ?_
    obtain ⟨r4, e5, h⟩ := ok_b h
    refine VcallS (as := [_]) C (dAt D_X11_had 6 rfl) (m_X11_isQuarter hL e5) yb_X11_101 ys_X11_101 rfl rfl (Nat.le_of_ble_eq_true rfl) (by decide) (by decide) (by decide) (by decide) (Kint ?_)
    refine Vif_eq (tgt := 28) C (dAt D_X11_had 7 rfl) (by decide) (fun c6 => ?_) (fun c6 => ?_)
    · have h := ok_t c6 h
      exact Vsub [] rfl (w_X11_had_28 hL C  h)
    · have h := ok_f c6 h
      refine Viload_n C 3 (dAt D_X11_had 8 rfl) rfl rfl ?_
      refine Viconst (x := 0) C (dAt D_X11_had 9 rfl) (by decide) ?_
      refine Vbipush (x := 8) C (dAt D_X11_had 10 rfl) (by decide) ?_
      obtain ⟨r7, e8, h⟩ := ok_b h
      refine VcallS (as := [_, _, _]) C (dAt D_X11_had 11 rfl) (m_X11_isIn hL e8) yb_X11_40 ys_X11_40 rfl rfl (Nat.le_of_ble_eq_true rfl) (by decide) (by decide) (by decide) (by decide) (Kint ?_)
      refine Vif_ne (tgt := 36) C (dAt D_X11_had 12 rfl) (by decide) (fun c9 => ?_) (fun c9 => ?_)
      · have h := ok_f c9 h
        refine Vaload_n C 0 (dAt D_X11_had 17 rfl) rfl rfl ?_
        refine VgetP C (dAt D_X11_had 18 rfl) gf_X11_63 (kt_100 hL) rfl (kp_100_6 hL) ?_
        refine Viload_n C 2 (dAt D_X11_had 19 rfl) rfl rfl ?_
        refine Vaload_n C 0 (dAt D_X11_had 20 rfl) rfl rfl ?_
        obtain ⟨r10, e11, h⟩ := ok_b h
        refine VcallV (as := []) C (dAt D_X11_had 21 rfl) (m_X11_dayOfLooks hL e11) yv_X11_139 (Or.inl ⟨(kt_100 hL), by decide⟩) rfl rfl (Nat.le_of_ble_eq_true rfl) (by decide) (by decide) (by decide) (by decide) (Kint ?_)
        obtain ⟨r12, e13, h⟩ := ok_b h
        refine VcallV (as := [_, _]) C (dAt D_X11_had 22 rfl) (m_X1_workTo hL (bk_130 hL) e13) yv_X11_143 (Or.inl ⟨((bk_130 hL)).1, by decide⟩) rfl rfl (Nat.le_of_ble_eq_true rfl) (by decide) (by decide) (by decide) (by decide) (Kvoid ?_)
        refine Vaload_n C 0 (dAt D_X11_had 23 rfl) rfl rfl ?_
        refine VgetP C (dAt D_X11_had 24 rfl) gf_X11_63 (kt_100 hL) rfl (kp_100_6 hL) ?_
        refine Viload_n C 1 (dAt D_X11_had 25 rfl) rfl rfl ?_
        refine Viload_n C 2 (dAt D_X11_had 26 rfl) rfl rfl ?_
        refine Viload_n C 3 (dAt D_X11_had 27 rfl) rfl rfl ?_
        obtain ⟨r14, e15, h⟩ := ok_b h
        refine VcallV (as := [_, _, _]) C (dAt D_X11_had 28 rfl) (m_X1_ofHouse hL (bk_130 hL) e15) yv_X11_147 (Or.inl ⟨((bk_130 hL)).1, by decide⟩) rfl rfl (Nat.le_of_ble_eq_true rfl) (by decide) (by decide) (by decide) (by decide) (Kint ?_)
        cases h
        exact Viret C (dAt D_X11_had 29 rfl) (by decide) (by decide) ⟨rfl, rfl, rfl⟩
      · have h := ok_t c9 h
        exact Vsub [] rfl (w_X11_had_28 hL C  h)
def B_X11_quarter_17 (w : LT) (f : Nat) (u : MT) : Option (Int32 × MT) :=
  none
theorem w_X11_quarter_17 {z : ZT} {g : GT} {w : LT} (hL : Lay w) (C : Cx z g cX11_quarter 3 RX11 (some .int) 7 0 0) {f : Nat} {r : (Int32 × MT)} {u : MT} (h : B_X11_quarter_17 w f  u = some r) : V z g 3 17 [] [] w u 0 0 (Qi r.1 w r.2) := by
  rw [B_X11_quarter_17] at h
  cases h
def F_X11_quarter (w : LT) (f : Nat) (x1 : Int32) (x2 : Int32) (u : MT) : Option (Int32 × MT) :=
  (F_X11_isQuarter f x1 u).bind fun r1 =>
  if r1.1 = 0 then
    B_X11_quarter_17 w f r1.2
  else
    (F_X11_isIn f x2 (0 : Int32) (13 : Int32) r1.2).bind fun r4 =>
    if r4.1 = 0 then
      B_X11_quarter_17 w f r4.2
    else
      (F_X11_dayOfLooks f r4.2).bind fun r7 =>
      (F_X1_workTo w f 130 128 x1 r7.1 r7.2).bind fun r9 =>
      (F_X1_sum f 130 128 x1 x2 r9).bind fun r11 =>
      some (r11.1, r11.2)
theorem m_X11_quarter {g : GT} {w : LT} (hL : Lay w) {x1 : Int32} {x2 : Int32} {f : Nat} {u : MT} {r : (Int32 × MT)} (h : F_X11_quarter w f x1 x2 u = some r) : Mt g yX11_quarter cX11_quarter 3 (some .int) 7 0 0 [.ref 100, .int x1, .int x2] w u (Qi r.1 w r.2) := by
  refine Mt_of (own := RX11) (by decide +kernel) rfl (Nat.le_of_ble_eq_true rfl) (fun z C _ => ?_)
  show V z g 3 0 [(0, .ref 100), (1, .int x1), (2, .int x2)] [] w u 0 0 (Qi r.1 w r.2)
  rw [F_X11_quarter] at h
  refine Viload_n C 1 (dAt D_X11_quarter 0 rfl) rfl rfl ?_
  obtain ⟨r1, e2, h⟩ := ok_b h
  refine VcallS (as := [_]) C (dAt D_X11_quarter 1 rfl) (m_X11_isQuarter hL e2) yb_X11_101 ys_X11_101 rfl rfl (Nat.le_of_ble_eq_true rfl) (by decide) (by decide) (by decide) (by decide) (Kint ?_)
  refine Vif_eq (tgt := 17) C (dAt D_X11_quarter 2 rfl) (by decide) (fun c3 => ?_) (fun c3 => ?_)
  · have h := ok_t c3 h
    exact Vsub [] rfl (w_X11_quarter_17 hL C  h)
  · have h := ok_f c3 h
    refine Viload_n C 2 (dAt D_X11_quarter 3 rfl) rfl rfl ?_
    refine Viconst (x := 0) C (dAt D_X11_quarter 4 rfl) (by decide) ?_
    refine Vbipush (x := 13) C (dAt D_X11_quarter 5 rfl) (by decide) ?_
    obtain ⟨r4, e5, h⟩ := ok_b h
    refine VcallS (as := [_, _, _]) C (dAt D_X11_quarter 6 rfl) (m_X11_isIn hL e5) yb_X11_40 ys_X11_40 rfl rfl (Nat.le_of_ble_eq_true rfl) (by decide) (by decide) (by decide) (by decide) (Kint ?_)
    refine Vif_ne (tgt := 25) C (dAt D_X11_quarter 7 rfl) (by decide) (fun c6 => ?_) (fun c6 => ?_)
    · have h := ok_f c6 h
      refine Vaload_n C 0 (dAt D_X11_quarter 12 rfl) rfl rfl ?_
      refine VgetP C (dAt D_X11_quarter 13 rfl) gf_X11_63 (kt_100 hL) rfl (kp_100_6 hL) ?_
      refine Viload_n C 1 (dAt D_X11_quarter 14 rfl) rfl rfl ?_
      refine Vaload_n C 0 (dAt D_X11_quarter 15 rfl) rfl rfl ?_
      obtain ⟨r7, e8, h⟩ := ok_b h
      refine VcallV (as := []) C (dAt D_X11_quarter 16 rfl) (m_X11_dayOfLooks hL e8) yv_X11_139 (Or.inl ⟨(kt_100 hL), by decide⟩) rfl rfl (Nat.le_of_ble_eq_true rfl) (by decide) (by decide) (by decide) (by decide) (Kint ?_)
      obtain ⟨r9, e10, h⟩ := ok_b h
      refine VcallV (as := [_, _]) C (dAt D_X11_quarter 17 rfl) (m_X1_workTo hL (bk_130 hL) e10) yv_X11_143 (Or.inl ⟨((bk_130 hL)).1, by decide⟩) rfl rfl (Nat.le_of_ble_eq_true rfl) (by decide) (by decide) (by decide) (by decide) (Kvoid ?_)
      refine Vaload_n C 0 (dAt D_X11_quarter 18 rfl) rfl rfl ?_
      refine VgetP C (dAt D_X11_quarter 19 rfl) gf_X11_63 (kt_100 hL) rfl (kp_100_6 hL) ?_
      refine Viload_n C 1 (dAt D_X11_quarter 20 rfl) rfl rfl ?_
      refine Viload_n C 2 (dAt D_X11_quarter 21 rfl) rfl rfl ?_
      obtain ⟨r11, e12, h⟩ := ok_b h
      refine VcallV (as := [_, _]) C (dAt D_X11_quarter 22 rfl) (m_X1_sum hL (bk_130 hL) e12) yv_X11_151 (Or.inl ⟨((bk_130 hL)).1, by decide⟩) rfl rfl (Nat.le_of_ble_eq_true rfl) (by decide) (by decide) (by decide) (by decide) (Kint ?_)
      cases h
      exact Viret C (dAt D_X11_quarter 23 rfl) (by decide) (by decide) ⟨rfl, rfl, rfl⟩
    · have h := ok_t c6 h
      exact Vsub [] rfl (w_X11_quarter_17 hL C  h)
def B_X11_by_84 (w : LT) (f : Nat) (x1 : Int32) (x2 : Int32) (x3 : Int32) (u : MT) : Option (Int32 × MT) :=
  (F_X11_dayOfLooks f u).bind fun r21 =>
  (F_X1_workTo w f 130 128 x1 r21.1 r21.2).bind fun r23 =>
  (F_X1_workAgain w f 130 128 x1 x2 r23).bind fun r25 =>
  if x3 = (-1 : Int32) then
    some ((gI r25 116 17), r25)
  else
    ck (ixo x3 12) <|
    some ((gI r25 126 (x3).toNatClampNeg), r25)
theorem w_X11_by_84 {z : ZT} {g : GT} {w : LT} (hL : Lay w) (C : Cx z g cX11_by 5 RX11 (some .int) 7 0 0) {f : Nat} {r : (Int32 × MT)} {x1 : Int32} {x2 : Int32} {x3 : Int32} {u : MT} (h : B_X11_by_84 w f x1 x2 x3 u = some r) : V z g 5 84 [(0, .ref 100), (1, .int x1), (2, .int x2), (3, .int x3)] [] w u 0 0 (Qi r.1 w r.2) := by
  rw [B_X11_by_84] at h
  refine Vaload_n C 0 (dAt D_X11_by 44 rfl) rfl rfl ?_
  refine VgetP C (dAt D_X11_by 45 rfl) gf_X11_63 (kt_100 hL) rfl (kp_100_6 hL) ?_
  refine Viload_n C 1 (dAt D_X11_by 46 rfl) rfl rfl ?_
  refine Vaload_n C 0 (dAt D_X11_by 47 rfl) rfl rfl ?_
  obtain ⟨r21, e22, h⟩ := ok_b h
  refine VcallV (as := []) C (dAt D_X11_by 48 rfl) (m_X11_dayOfLooks hL e22) yv_X11_139 (Or.inl ⟨(kt_100 hL), by decide⟩) rfl rfl (Nat.le_of_ble_eq_true rfl) (by decide) (by decide) (by decide) (by decide) (Kint ?_)
  obtain ⟨r23, e24, h⟩ := ok_b h
  refine VcallV (as := [_, _]) C (dAt D_X11_by 49 rfl) (m_X1_workTo hL (bk_130 hL) e24) yv_X11_143 (Or.inl ⟨((bk_130 hL)).1, by decide⟩) rfl rfl (Nat.le_of_ble_eq_true rfl) (by decide) (by decide) (by decide) (by decide) (Kvoid ?_)
  refine Vaload_n C 0 (dAt D_X11_by 50 rfl) rfl rfl ?_
  refine VgetP C (dAt D_X11_by 51 rfl) gf_X11_63 (kt_100 hL) rfl (kp_100_6 hL) ?_
  refine Viload_n C 1 (dAt D_X11_by 52 rfl) rfl rfl ?_
  refine Viload_n C 2 (dAt D_X11_by 53 rfl) rfl rfl ?_
  obtain ⟨r25, e26, h⟩ := ok_b h
  refine VcallV (as := [_, _]) C (dAt D_X11_by 54 rfl) (m_X1_workAgain hL (bk_130 hL) e26) yv_X11_174 (Or.inl ⟨((bk_130 hL)).1, by decide⟩) rfl rfl (Nat.le_of_ble_eq_true rfl) (by decide) (by decide) (by decide) (by decide) (Kvoid ?_)
  refine Viload_n C 3 (dAt D_X11_by 55 rfl) rfl rfl ?_
  refine Viconst (x := (-1)) C (dAt D_X11_by 56 rfl) (by decide) ?_
  refine Vicmp_ne (tgt := 120) C (dAt D_X11_by 57 rfl) (by decide) (fun c27 => ?_) (fun c27 => ?_)
  · have h := ok_f c27 h
    refine Vaload_n C 0 (dAt D_X11_by 62 rfl) rfl rfl ?_
    refine VgetP C (dAt D_X11_by 63 rfl) gf_X11_47 (kt_100 hL) rfl (kp_100_4 hL) ?_
    refine VgetP C (dAt D_X11_by 64 rfl) gf_X11_180 (kt_116 hL) rfl (kp_116_18 hL) ?_
    refine Viload_n C 3 (dAt D_X11_by 65 rfl) rfl rfl ?_
    obtain ⟨c28, h⟩ := ok_ck h
    refine Viald C (dAt D_X11_by 66 rfl) (kt_126 hL) (kl_126 hL) (vp_in_iff.mpr c28) ?_
    cases h
    exact Viret C (dAt D_X11_by 67 rfl) (by decide) (by decide) ⟨rfl, rfl, rfl⟩
  · have h := ok_t c27 h
    refine Vaload_n C 0 (dAt D_X11_by 58 rfl) rfl rfl ?_
    refine VgetP C (dAt D_X11_by 59 rfl) gf_X11_47 (kt_100 hL) rfl (kp_100_4 hL) ?_
    refine VgetI C (dAt D_X11_by 60 rfl) gf_X11_177 (kt_116 hL) rfl ?_
    refine Vgoto (tgt := 129) C (dAt D_X11_by 61 rfl) (by decide) ?_
    cases h
    exact Viret C (dAt D_X11_by 67 rfl) (by decide) (by decide) ⟨rfl, rfl, rfl⟩
def B_X11_by_25 (w : LT) (f : Nat) (x1 : Int32) (x2 : Int32) (x3 : Int32) (u : MT) : Option (Int32 × MT) :=
  (F_X11_dayOfLooks f u).bind fun r8 =>
  (F_X8_inForce w f 128 x1 r8.1 r8.2).bind fun r10 =>
  if r10.1 = 0 then
    some ((-1 : Int32), r10.2)
  else
    ck (lt_t w r10.1 = 7) <|
    (F_X11_isIn f x2 (0 : Int32) ((gI r10.2 r10.1 1) - (1 : Int32)) r10.2).bind fun r14 =>
    if r14.1 = 0 then
      some ((-1 : Int32), r14.2)
    else
      if x3 = (-1 : Int32) then
        ck (ixo x2 24) <|
        ck ((gK r14.2 (r10.1 + 3 + (x2).toNatClampNeg) 0) ≤ 34) <|
        if (gK r14.2 (r10.1 + 3 + (x2).toNatClampNeg) 0) = 18 then
          B_X11_by_84 w f x1 x2 x3 r14.2
        else
          some ((-1 : Int32), r14.2)
      else
        B_X11_by_84 w f x1 x2 x3 r14.2
theorem w_X11_by_25 {z : ZT} {g : GT} {w : LT} (hL : Lay w) (C : Cx z g cX11_by 5 RX11 (some .int) 7 0 0) {f : Nat} {r : (Int32 × MT)} {x1 : Int32} {x2 : Int32} {x3 : Int32} {u : MT} (h : B_X11_by_25 w f x1 x2 x3 u = some r) : V z g 5 25 [(0, .ref 100), (1, .int x1), (2, .int x2), (3, .int x3)] [] w u 0 0 (Qi r.1 w r.2) := by
  rw [B_X11_by_25] at h
  refine Vaload_n C 0 (dAt D_X11_by 13 rfl) rfl rfl ?_
  refine VgetP C (dAt D_X11_by 14 rfl) gf_X11_54 (kt_100 hL) rfl (kp_100_5 hL) ?_
  refine Viload_n C 1 (dAt D_X11_by 15 rfl) rfl rfl ?_
  refine Vaload_n C 0 (dAt D_X11_by 16 rfl) rfl rfl ?_
  obtain ⟨r8, e9, h⟩ := ok_b h
  refine VcallV (as := []) C (dAt D_X11_by 17 rfl) (m_X11_dayOfLooks hL e9) yv_X11_139 (Or.inl ⟨(kt_100 hL), by decide⟩) rfl rfl (Nat.le_of_ble_eq_true rfl) (by decide) (by decide) (by decide) (by decide) (Kint ?_)
  obtain ⟨r10, e11, h⟩ := ok_b h
  refine VcallV (as := [_, _]) C (dAt D_X11_by 18 rfl) (m_X8_inForce hL (ts_128 hL) e11) yv_X11_154 (Or.inl ⟨((ts_128 hL)).1, by decide⟩) rfl rfl (Nat.le_of_ble_eq_true rfl) (by decide) (by decide) (by decide) (by decide) (Kref ?_)
  refine Vastore (lv' := [(4, _), (0, _), (1, _), (2, _), (3, _)]) C (dAt D_X11_by 19 rfl) (by decide) rfl ?_
  refine Vaload C 0 (dAt D_X11_by 20 rfl) rfl ?_
  refine Vifnull (tgt := 59) C (dAt D_X11_by 21 rfl) (by decide) (fun c12 => ?_) (fun c12 => ?_)
  · have h := ok_t c12 h
    refine Viconst (x := (-1)) C (dAt D_X11_by 30 rfl) (by decide) ?_
    cases h
    exact Viret C (dAt D_X11_by 31 rfl) (by decide) (by decide) ⟨rfl, rfl, rfl⟩
  · have h := ok_f c12 h
    refine Viload_n C 3 (dAt D_X11_by 22 rfl) rfl rfl ?_
    refine Viconst (x := 0) C (dAt D_X11_by 23 rfl) (by decide) ?_
    refine Vaload C 0 (dAt D_X11_by 24 rfl) rfl ?_
    obtain ⟨c13, h⟩ := ok_ck h
    refine VgetI C (dAt D_X11_by 25 rfl) gf_X11_158 ((hL.2.2.1 _ c13)).1 rfl ?_
    refine Viconst (x := 1) C (dAt D_X11_by 26 rfl) (by decide) ?_
    refine Visub C (dAt D_X11_by 27 rfl) ?_
    obtain ⟨r14, e15, h⟩ := ok_b h
    refine VcallS (as := [_, _, _]) C (dAt D_X11_by 28 rfl) (m_X11_isIn hL e15) yb_X11_40 ys_X11_40 rfl rfl (Nat.le_of_ble_eq_true rfl) (by decide) (by decide) (by decide) (by decide) (Kint ?_)
    refine Vif_ne (tgt := 61) C (dAt D_X11_by 29 rfl) (by decide) (fun c16 => ?_) (fun c16 => ?_)
    · have h := ok_f c16 h
      refine Viload_n C 4 (dAt D_X11_by 32 rfl) rfl rfl ?_
      refine Viconst (x := (-1)) C (dAt D_X11_by 33 rfl) (by decide) ?_
      refine Vicmp_ne (tgt := 84) C (dAt D_X11_by 34 rfl) (by decide) (fun c17 => ?_) (fun c17 => ?_)
      · have h := ok_f c17 h
        exact Vsub [1, 2, 3, 4] rfl (w_X11_by_84 hL C  h)
      · have h := ok_t c17 h
        refine Vaload C 0 (dAt D_X11_by 35 rfl) rfl ?_
        refine VgetP C (dAt D_X11_by 36 rfl) gf_X11_159 ((hL.2.2.1 _ c13)).1 rfl ((hL.2.2.1 _ c13)).2.1 ?_
        refine Viload_n C 3 (dAt D_X11_by 37 rfl) rfl rfl ?_
        obtain ⟨c18, h⟩ := ok_ck h
        refine VaaldP C (dAt D_X11_by 38 rfl) (Or.inl rfl) ((hL.2.2.1 _ c13)).2.2.1 ((hL.2.2.1 _ c13)).2.2.2.1 (vp_in_iff.mpr c18) (((hL.2.2.1 _ c13)).2.2.2.2.2.2.2 _ (ix_lt c18)).1 ?_
        refine VgetK C (dAt D_X11_by 39 rfl) gf_X11_163 (((hL.2.2.1 _ c13)).2.2.2.2.2.2.2 _ (ix_lt c18)).2 rfl ?_
        refine Vtok (i := 17) (x := 18) C (dAt D_X11_by 40 rfl) gs_X11_169 (by decide) rfl rfl ?_
        obtain ⟨c19, h⟩ := ok_ck h
        refine Vacmp_eq (tgt := 84) C (dAt D_X11_by 41 rfl) (by decide) c19 (by decide) (fun c20 => ?_) (fun c20 => ?_)
        · have h := ok_t c20 h
          exact Vsub [1, 2, 3, 4] rfl (w_X11_by_84 hL C  h)
        · have h := ok_f c20 h
          refine Viconst (x := (-1)) C (dAt D_X11_by 42 rfl) (by decide) ?_
          cases h
          exact Viret C (dAt D_X11_by 43 rfl) (by decide) (by decide) ⟨rfl, rfl, rfl⟩
    · have h := ok_t c16 h
      refine Viconst (x := (-1)) C (dAt D_X11_by 30 rfl) (by decide) ?_
      cases h
      exact Viret C (dAt D_X11_by 31 rfl) (by decide) (by decide) ⟨rfl, rfl, rfl⟩
def F_X11_by (w : LT) (f : Nat) (x1 : Int32) (x2 : Int32) (x3 : Int32) (u : MT) : Option (Int32 × MT) :=
  (F_X11_isQuarter f x1 u).bind fun r1 =>
  if r1.1 = 0 then
    some ((-1 : Int32), r1.2)
  else
    if x3 = (-1 : Int32) then
      B_X11_by_25 w f x1 x2 x3 r1.2
    else
      (F_X2_has f x3 r1.2).bind fun r5 =>
      if r5.1 = 0 then
        some ((-1 : Int32), r5.2)
      else
        B_X11_by_25 w f x1 x2 x3 r5.2
theorem m_X11_by {g : GT} {w : LT} (hL : Lay w) {x1 : Int32} {x2 : Int32} {x3 : Int32} {f : Nat} {u : MT} {r : (Int32 × MT)} (h : F_X11_by w f x1 x2 x3 u = some r) : Mt g yX11_by cX11_by 5 (some .int) 7 0 0 [.ref 100, .int x1, .int x2, .int x3] w u (Qi r.1 w r.2) := by
  refine Mt_of (own := RX11) (by decide +kernel) rfl (Nat.le_of_ble_eq_true rfl) (fun z C _ => ?_)
  show V z g 5 0 [(0, .ref 100), (1, .int x1), (2, .int x2), (3, .int x3)] [] w u 0 0 (Qi r.1 w r.2)
  rw [F_X11_by] at h
  refine Viload_n C 1 (dAt D_X11_by 0 rfl) rfl rfl ?_
  obtain ⟨r1, e2, h⟩ := ok_b h
  refine VcallS (as := [_]) C (dAt D_X11_by 1 rfl) (m_X11_isQuarter hL e2) yb_X11_101 ys_X11_101 rfl rfl (Nat.le_of_ble_eq_true rfl) (by decide) (by decide) (by decide) (by decide) (Kint ?_)
  refine Vif_eq (tgt := 23) C (dAt D_X11_by 2 rfl) (by decide) (fun c3 => ?_) (fun c3 => ?_)
  · have h := ok_t c3 h
    refine Viconst (x := (-1)) C (dAt D_X11_by 11 rfl) (by decide) ?_
    cases h
    exact Viret C (dAt D_X11_by 12 rfl) (by decide) (by decide) ⟨rfl, rfl, rfl⟩
  · have h := ok_f c3 h
    refine Viload_n C 3 (dAt D_X11_by 3 rfl) rfl rfl ?_
    refine Viconst (x := (-1)) C (dAt D_X11_by 4 rfl) (by decide) ?_
    refine Vicmp_eq (tgt := 25) C (dAt D_X11_by 5 rfl) (by decide) (fun c4 => ?_) (fun c4 => ?_)
    · have h := ok_t c4 h
      exact Vsub [0, 1, 2, 3] rfl (w_X11_by_25 hL C  h)
    · have h := ok_f c4 h
      refine Vaload_n C 0 (dAt D_X11_by 6 rfl) rfl rfl ?_
      refine VgetP C (dAt D_X11_by 7 rfl) gf_X11_10 (kt_100 hL) rfl (kp_100_0 hL) ?_
      refine Viload_n C 3 (dAt D_X11_by 8 rfl) rfl rfl ?_
      obtain ⟨r5, e6, h⟩ := ok_b h
      refine VcallV (as := [_]) C (dAt D_X11_by 9 rfl) (m_X2_has hL e6) yv_X11_97 (Or.inl ⟨(kt_101 hL), by decide⟩) rfl rfl (Nat.le_of_ble_eq_true rfl) (by decide) (by decide) (by decide) (by decide) (Kint ?_)
      refine Vif_ne (tgt := 25) C (dAt D_X11_by 10 rfl) (by decide) (fun c7 => ?_) (fun c7 => ?_)
      · have h := ok_f c7 h
        exact Vsub [0, 1, 2, 3] rfl (w_X11_by_25 hL C  h)
      · have h := ok_t c7 h
        refine Viconst (x := (-1)) C (dAt D_X11_by 11 rfl) (by decide) ?_
        cases h
        exact Viret C (dAt D_X11_by 12 rfl) (by decide) (by decide) ⟨rfl, rfl, rfl⟩
def F_X11_would (w : LT) (f : Nat) (x1 : Int32) (x2 : Int32) (u : MT) : Option (Int32 × MT) :=
  if (lt_p w 100 9) = 0 then
    some ((-1 : Int32), u)
  else
    (F_X2_has f x1 u).bind fun r2 =>
    if r2.1 = 0 then
      some ((-1 : Int32), r2.2)
    else
      (F_X11_isQuarter f x2 r2.2).bind fun r5 =>
      if r5.1 = 0 then
        some ((-1 : Int32), r5.2)
      else
        (F_X11_dayOfLooks f r5.2).bind fun r8 =>
        ck (lt_t w (lt_p w 100 9) = 1) <|
        (F_X1_workTo w f (lt_p w 100 9) (lt_p w (lt_p w 100 9) 2) x2 r8.1 r8.2).bind fun r11 =>
        (F_X1_byRules f (lt_p w 100 9) (lt_p w (lt_p w 100 9) 2) x1 x2 r11).bind fun r13 =>
        some (r13.1, r13.2)
theorem m_X11_would {g : GT} {w : LT} (hL : Lay w) {x1 : Int32} {x2 : Int32} {f : Nat} {u : MT} {r : (Int32 × MT)} (h : F_X11_would w f x1 x2 u = some r) : Mt g yX11_would cX11_would 3 (some .int) 7 0 0 [.ref 100, .int x1, .int x2] w u (Qi r.1 w r.2) := by
  refine Mt_of (own := RX11) (by decide +kernel) rfl (Nat.le_of_ble_eq_true rfl) (fun z C _ => ?_)
  show V z g 3 0 [(0, .ref 100), (1, .int x1), (2, .int x2)] [] w u 0 0 (Qi r.1 w r.2)
  rw [F_X11_would] at h
  refine Vaload_n C 0 (dAt D_X11_would 0 rfl) rfl rfl ?_
  refine VgetP C (dAt D_X11_would 1 rfl) gf_X11_114 (kt_100 hL) rfl rfl ?_
  refine Vifnull (tgt := 25) C (dAt D_X11_would 2 rfl) (by decide) (fun c1 => ?_) (fun c1 => ?_)
  · have h := ok_t c1 h
    refine Viconst (x := (-1)) C (dAt D_X11_would 11 rfl) (by decide) ?_
    cases h
    exact Viret C (dAt D_X11_would 12 rfl) (by decide) (by decide) ⟨rfl, rfl, rfl⟩
  · have h := ok_f c1 h
    refine Vaload_n C 0 (dAt D_X11_would 3 rfl) rfl rfl ?_
    refine VgetP C (dAt D_X11_would 4 rfl) gf_X11_10 (kt_100 hL) rfl (kp_100_0 hL) ?_
    refine Viload_n C 1 (dAt D_X11_would 5 rfl) rfl rfl ?_
    obtain ⟨r2, e3, h⟩ := ok_b h
    refine VcallV (as := [_]) C (dAt D_X11_would 6 rfl) (m_X2_has hL e3) yv_X11_97 (Or.inl ⟨(kt_101 hL), by decide⟩) rfl rfl (Nat.le_of_ble_eq_true rfl) (by decide) (by decide) (by decide) (by decide) (Kint ?_)
    refine Vif_eq (tgt := 25) C (dAt D_X11_would 7 rfl) (by decide) (fun c4 => ?_) (fun c4 => ?_)
    · have h := ok_t c4 h
      refine Viconst (x := (-1)) C (dAt D_X11_would 11 rfl) (by decide) ?_
      cases h
      exact Viret C (dAt D_X11_would 12 rfl) (by decide) (by decide) ⟨rfl, rfl, rfl⟩
    · have h := ok_f c4 h
      refine Viload_n C 2 (dAt D_X11_would 8 rfl) rfl rfl ?_
      obtain ⟨r5, e6, h⟩ := ok_b h
      refine VcallS (as := [_]) C (dAt D_X11_would 9 rfl) (m_X11_isQuarter hL e6) yb_X11_101 ys_X11_101 rfl rfl (Nat.le_of_ble_eq_true rfl) (by decide) (by decide) (by decide) (by decide) (Kint ?_)
      refine Vif_ne (tgt := 27) C (dAt D_X11_would 10 rfl) (by decide) (fun c7 => ?_) (fun c7 => ?_)
      · have h := ok_f c7 h
        refine Vaload_n C 0 (dAt D_X11_would 13 rfl) rfl rfl ?_
        refine VgetP C (dAt D_X11_would 14 rfl) gf_X11_114 (kt_100 hL) rfl rfl ?_
        refine Viload_n C 2 (dAt D_X11_would 15 rfl) rfl rfl ?_
        refine Vaload_n C 0 (dAt D_X11_would 16 rfl) rfl rfl ?_
        obtain ⟨r8, e9, h⟩ := ok_b h
        refine VcallV (as := []) C (dAt D_X11_would 17 rfl) (m_X11_dayOfLooks hL e9) yv_X11_139 (Or.inl ⟨(kt_100 hL), by decide⟩) rfl rfl (Nat.le_of_ble_eq_true rfl) (by decide) (by decide) (by decide) (by decide) (Kint ?_)
        obtain ⟨c10, h⟩ := ok_ck h
        obtain ⟨r11, e12, h⟩ := ok_b h
        refine VcallV (as := [_, _]) C (dAt D_X11_would 18 rfl) (m_X1_workTo hL (hL.2.2.2 _ c10) e12) yv_X11_143 (Or.inl ⟨((hL.2.2.2 _ c10)).1, by decide⟩) rfl rfl (Nat.le_of_ble_eq_true rfl) (by decide) (by decide) (by decide) (by decide) (Kvoid ?_)
        refine Vaload_n C 0 (dAt D_X11_would 19 rfl) rfl rfl ?_
        refine VgetP C (dAt D_X11_would 20 rfl) gf_X11_114 (kt_100 hL) rfl rfl ?_
        refine Viload_n C 1 (dAt D_X11_would 21 rfl) rfl rfl ?_
        refine Viload_n C 2 (dAt D_X11_would 22 rfl) rfl rfl ?_
        obtain ⟨r13, e14, h⟩ := ok_b h
        refine VcallV (as := [_, _]) C (dAt D_X11_would 23 rfl) (m_X1_byRules hL (hL.2.2.2 _ c10) e14) yv_X11_184 (Or.inl ⟨((hL.2.2.2 _ c10)).1, by decide⟩) rfl rfl (Nat.le_of_ble_eq_true rfl) (by decide) (by decide) (by decide) (by decide) (Kint ?_)
        cases h
        exact Viret C (dAt D_X11_would 24 rfl) (by decide) (by decide) ⟨rfl, rfl, rfl⟩
      · have h := ok_t c7 h
        refine Viconst (x := (-1)) C (dAt D_X11_would 11 rfl) (by decide) ?_
        cases h
        exact Viret C (dAt D_X11_would 12 rfl) (by decide) (by decide) ⟨rfl, rfl, rfl⟩
def B_X11_bills_40 (w : LT) (f : Nat) : Nat → Int32 → Int32 → Int32 → MT → Option (Int32 × MT)
  | 0, _, _, _, _ => none
  | n + 1, x1, x2, x3, u =>
    if (gI u 101 2) ≤ x3 then
      let u7 := sI u 136 1 ((gI u 136 1) + (1 : Int32))
      some (x1, u7)
    else
      (F_X1_coinsUpTo f 130 128 x3 x2 u).bind fun r8 =>
      (F_X0_write f x3 r8.1 r8.2).bind fun r10 =>
      let v12 := x3 + 1
      B_X11_bills_40 w f n x1 x2 v12 r10
theorem w_X11_bills_40 {z : ZT} {g : GT} {w : LT} (hL : Lay w) (C : Cx z g cX11_bills 4 RX11 (some .int) 7 0 0) {f : Nat} {r : (Int32 × MT)} : ∀ (n : Nat) (x1 : Int32) (x2 : Int32) (x3 : Int32) (u : MT), B_X11_bills_40 w f n x1 x2 x3 u = some r → V z g 4 40 [(0, .ref 100), (1, .int x1), (2, .int x2), (3, .int x3)] [] w u 0 0 (Qi r.1 w r.2) := by
  intro n
  induction n with
  | zero =>
    intro x1 x2 x3 u h
    rw [B_X11_bills_40] at h
    cases h
  | succ n ih =>
    intro x1 x2 x3 u h
    rw [B_X11_bills_40] at h
    refine Viload_n C 3 (dAt D_X11_bills 25 rfl) rfl rfl ?_
    refine Vaload_n C 0 (dAt D_X11_bills 26 rfl) rfl rfl ?_
    refine VgetP C (dAt D_X11_bills 27 rfl) gf_X11_10 (kt_100 hL) rfl (kp_100_0 hL) ?_
    refine VgetI C (dAt D_X11_bills 28 rfl) gf_X11_92 (kt_101 hL) rfl ?_
    refine Vicmp_ge (tgt := 74) C (dAt D_X11_bills 29 rfl) (by decide) (fun c6 => ?_) (fun c6 => ?_)
    · have h := ok_t c6 h
      refine Vaload_n C 0 (dAt D_X11_bills 41 rfl) rfl rfl ?_
      refine VgetP C (dAt D_X11_bills 42 rfl) gf_X11_70 (kt_100 hL) rfl (kp_100_7 hL) ?_
      refine Vdup C (dAt D_X11_bills 43 rfl) rfl ?_
      refine VgetI C (dAt D_X11_bills 44 rfl) gf_X11_187 (kt_136 hL) rfl ?_
      refine Viconst (x := 1) C (dAt D_X11_bills 45 rfl) (by decide) ?_
      refine Viadd C (dAt D_X11_bills 46 rfl) ?_
      refine VputI C (dAt D_X11_bills 47 rfl) gf_X11_187 (kt_136 hL) rfl rfl rfl rfl ?_
      refine Viload_n C 1 (dAt D_X11_bills 48 rfl) rfl rfl ?_
      cases h
      exact Viret C (dAt D_X11_bills 49 rfl) (by decide) (by decide) ⟨rfl, rfl, rfl⟩
    · have h := ok_f c6 h
      refine Vaload_n C 0 (dAt D_X11_bills 30 rfl) rfl rfl ?_
      refine VgetP C (dAt D_X11_bills 31 rfl) gf_X11_70 (kt_100 hL) rfl (kp_100_7 hL) ?_
      refine Viload_n C 3 (dAt D_X11_bills 32 rfl) rfl rfl ?_
      refine Vaload_n C 0 (dAt D_X11_bills 33 rfl) rfl rfl ?_
      refine VgetP C (dAt D_X11_bills 34 rfl) gf_X11_63 (kt_100 hL) rfl (kp_100_6 hL) ?_
      refine Viload_n C 3 (dAt D_X11_bills 35 rfl) rfl rfl ?_
      refine Viload_n C 2 (dAt D_X11_bills 36 rfl) rfl rfl ?_
      obtain ⟨r8, e9, h⟩ := ok_b h
      refine VcallV (as := [_, _]) C (dAt D_X11_bills 37 rfl) (m_X1_coinsUpTo hL (bk_130 hL) e9) yv_X11_190 (Or.inl ⟨((bk_130 hL)).1, by decide⟩) rfl rfl (Nat.le_of_ble_eq_true rfl) (by decide) (by decide) (by decide) (by decide) (Kint ?_)
      obtain ⟨r10, e11, h⟩ := ok_b h
      refine VcallV (as := [_, _]) C (dAt D_X11_bills 38 rfl) (m_X0_write hL e11) yv_X11_193 (Or.inl ⟨(kt_136 hL), by decide⟩) rfl rfl (Nat.le_of_ble_eq_true rfl) (by decide) (by decide) (by decide) (by decide) (Kvoid ?_)
      refine Viinc (j := 3) (v := _ + 1) (lv' := [(3, _), (0, _), (1, _), (2, _)]) C (dAt D_X11_bills 39 rfl) rfl rfl (by decide) rfl ?_
      refine Vgoto (tgt := 40) C (dAt D_X11_bills 40 rfl) (by decide) ?_
      exact Vsub [1, 2, 3, 0] rfl (ih _ _ _ _  h)
def F_X11_bills (w : LT) (f : Nat) (u : MT) : Option (Int32 × MT) :=
  let v1 := (gI u 136 1)
  if v1 < (10 : Int32) then
    let v3 := ((v1 + (1 : Int32)) * (24 : Int32))
    (F_X1_workTo w f 130 128 (v3 - (1 : Int32)) (gI u 100 11) u).bind fun r4 =>
    B_X11_bills_40 w f f v1 v3 (-2 : Int32) r4
  else
    some ((-1 : Int32), u)
theorem m_X11_bills {g : GT} {w : LT} (hL : Lay w) {f : Nat} {u : MT} {r : (Int32 × MT)} (h : F_X11_bills w f  u = some r) : Mt g yX11_bills cX11_bills 4 (some .int) 7 0 0 [.ref 100] w u (Qi r.1 w r.2) := by
  refine Mt_of (own := RX11) (by decide +kernel) rfl (Nat.le_of_ble_eq_true rfl) (fun z C _ => ?_)
  show V z g 4 0 [(0, .ref 100)] [] w u 0 0 (Qi r.1 w r.2)
  rw [F_X11_bills] at h
  refine Vaload_n C 0 (dAt D_X11_bills 0 rfl) rfl rfl ?_
  refine VgetP C (dAt D_X11_bills 1 rfl) gf_X11_70 (kt_100 hL) rfl (kp_100_7 hL) ?_
  refine VgetI C (dAt D_X11_bills 2 rfl) gf_X11_187 (kt_136 hL) rfl ?_
  refine Vistore_n (lv' := [(1, _), (0, _)]) C (dAt D_X11_bills 3 rfl) rfl (by decide) rfl ?_
  refine Viload_n C 0 (dAt D_X11_bills 4 rfl) rfl rfl ?_
  refine Vbipush (x := 10) C (dAt D_X11_bills 5 rfl) (by decide) ?_
  refine Vicmp_lt (tgt := 16) C (dAt D_X11_bills 6 rfl) (by decide) (fun c2 => ?_) (fun c2 => ?_)
  · have h := ok_t c2 h
    refine Viload_n C 0 (dAt D_X11_bills 9 rfl) rfl rfl ?_
    refine Viconst (x := 1) C (dAt D_X11_bills 10 rfl) (by decide) ?_
    refine Viadd C (dAt D_X11_bills 11 rfl) ?_
    refine Vbipush (x := 24) C (dAt D_X11_bills 12 rfl) (by decide) ?_
    refine Vimul C (dAt D_X11_bills 13 rfl) ?_
    refine Vistore_n (lv' := [(2, _), (1, _), (0, _)]) C (dAt D_X11_bills 14 rfl) rfl (by decide) rfl ?_
    refine Vaload_n C 2 (dAt D_X11_bills 15 rfl) rfl rfl ?_
    refine VgetP C (dAt D_X11_bills 16 rfl) gf_X11_63 (kt_100 hL) rfl (kp_100_6 hL) ?_
    refine Viload_n C 0 (dAt D_X11_bills 17 rfl) rfl rfl ?_
    refine Viconst (x := 1) C (dAt D_X11_bills 18 rfl) (by decide) ?_
    refine Visub C (dAt D_X11_bills 19 rfl) ?_
    refine Vaload_n C 2 (dAt D_X11_bills 20 rfl) rfl rfl ?_
    refine VgetI C (dAt D_X11_bills 21 rfl) gf_X11_104 (kt_100 hL) rfl ?_
    obtain ⟨r4, e5, h⟩ := ok_b h
    refine VcallV (as := [_, _]) C (dAt D_X11_bills 22 rfl) (m_X1_workTo hL (bk_130 hL) e5) yv_X11_143 (Or.inl ⟨((bk_130 hL)).1, by decide⟩) rfl rfl (Nat.le_of_ble_eq_true rfl) (by decide) (by decide) (by decide) (by decide) (Kvoid ?_)
    refine Vbipush (x := (-2)) C (dAt D_X11_bills 23 rfl) (by decide) ?_
    refine Vistore_n (lv' := [(3, _), (2, _), (1, _), (0, _)]) C (dAt D_X11_bills 24 rfl) rfl (by decide) rfl ?_
    exact Vsub [3, 2, 1, 0] rfl (w_X11_bills_40 hL C  f _ _ _ _  h)
  · have h := ok_f c2 h
    refine Viconst (x := (-1)) C (dAt D_X11_bills 7 rfl) (by decide) ?_
    cases h
    exact Viret C (dAt D_X11_bills 8 rfl) (by decide) (by decide) ⟨rfl, rfl, rfl⟩
def B_X11_bill_35 (f : Nat) (u : MT) : Option (Int32 × MT) :=
  none
theorem w_X11_bill_35 {z : ZT} {g : GT} {w : LT} (hL : Lay w) (C : Cx z g cX11_bill 3 RX11 (some .int) 1 0 0) {f : Nat} {r : (Int32 × MT)} {u : MT} (h : B_X11_bill_35 f  u = some r) : V z g 3 35 [] [] w u 0 0 (Qi r.1 w r.2) := by
  rw [B_X11_bill_35] at h
  cases h
def F_X11_bill (f : Nat) (x1 : Int32) (x2 : Int32) (u : MT) : Option (Int32 × MT) :=
  (F_X11_isIn f x1 (0 : Int32) ((gI u 136 1) - (1 : Int32)) u).bind fun r1 =>
  if r1.1 = 0 then
    B_X11_bill_35 f r1.2
  else
    (F_X11_isIn f x2 (-2 : Int32) ((gI r1.2 101 2) - (1 : Int32)) r1.2).bind fun r4 =>
    if r4.1 = 0 then
      B_X11_bill_35 f r4.2
    else
      (F_X0_slot f x1 x2 r4.2).bind fun r7 =>
      ck (ixo r7.1 140) <|
      some ((gI r7.2 137 (r7.1).toNatClampNeg), r7.2)
theorem m_X11_bill {g : GT} {w : LT} (hL : Lay w) {x1 : Int32} {x2 : Int32} {f : Nat} {u : MT} {r : (Int32 × MT)} (h : F_X11_bill f x1 x2 u = some r) : Mt g yX11_bill cX11_bill 3 (some .int) 1 0 0 [.ref 100, .int x1, .int x2] w u (Qi r.1 w r.2) := by
  refine Mt_of (own := RX11) (by decide +kernel) rfl (Nat.le_of_ble_eq_true rfl) (fun z C _ => ?_)
  show V z g 3 0 [(0, .ref 100), (1, .int x1), (2, .int x2)] [] w u 0 0 (Qi r.1 w r.2)
  rw [F_X11_bill] at h
  refine Viload_n C 1 (dAt D_X11_bill 0 rfl) rfl rfl ?_
  refine Viconst (x := 0) C (dAt D_X11_bill 1 rfl) (by decide) ?_
  refine Vaload_n C 0 (dAt D_X11_bill 2 rfl) rfl rfl ?_
  refine VgetP C (dAt D_X11_bill 3 rfl) gf_X11_70 (kt_100 hL) rfl (kp_100_7 hL) ?_
  refine VgetI C (dAt D_X11_bill 4 rfl) gf_X11_187 (kt_136 hL) rfl ?_
  refine Viconst (x := 1) C (dAt D_X11_bill 5 rfl) (by decide) ?_
  refine Visub C (dAt D_X11_bill 6 rfl) ?_
  obtain ⟨r1, e2, h⟩ := ok_b h
  refine VcallS (as := [_, _, _]) C (dAt D_X11_bill 7 rfl) (m_X11_isIn hL e2) yb_X11_40 ys_X11_40 rfl rfl (Nat.le_of_ble_eq_true rfl) (by decide) (by decide) (by decide) (by decide) (Kint ?_)
  refine Vif_eq (tgt := 35) C (dAt D_X11_bill 8 rfl) (by decide) (fun c3 => ?_) (fun c3 => ?_)
  · have h := ok_t c3 h
    exact Vsub [] rfl (w_X11_bill_35 hL C  h)
  · have h := ok_f c3 h
    refine Viload_n C 2 (dAt D_X11_bill 9 rfl) rfl rfl ?_
    refine Vbipush (x := (-2)) C (dAt D_X11_bill 10 rfl) (by decide) ?_
    refine Vaload_n C 0 (dAt D_X11_bill 11 rfl) rfl rfl ?_
    refine VgetP C (dAt D_X11_bill 12 rfl) gf_X11_10 (kt_100 hL) rfl (kp_100_0 hL) ?_
    refine VgetI C (dAt D_X11_bill 13 rfl) gf_X11_92 (kt_101 hL) rfl ?_
    refine Viconst (x := 1) C (dAt D_X11_bill 14 rfl) (by decide) ?_
    refine Visub C (dAt D_X11_bill 15 rfl) ?_
    obtain ⟨r4, e5, h⟩ := ok_b h
    refine VcallS (as := [_, _, _]) C (dAt D_X11_bill 16 rfl) (m_X11_isIn hL e5) yb_X11_40 ys_X11_40 rfl rfl (Nat.le_of_ble_eq_true rfl) (by decide) (by decide) (by decide) (by decide) (Kint ?_)
    refine Vif_ne (tgt := 43) C (dAt D_X11_bill 17 rfl) (by decide) (fun c6 => ?_) (fun c6 => ?_)
    · have h := ok_f c6 h
      refine Vaload_n C 0 (dAt D_X11_bill 22 rfl) rfl rfl ?_
      refine VgetP C (dAt D_X11_bill 23 rfl) gf_X11_70 (kt_100 hL) rfl (kp_100_7 hL) ?_
      refine VgetP C (dAt D_X11_bill 24 rfl) gf_X11_196 (kt_136 hL) rfl (kp_136_0 hL) ?_
      refine Viload_n C 1 (dAt D_X11_bill 25 rfl) rfl rfl ?_
      refine Viload_n C 2 (dAt D_X11_bill 26 rfl) rfl rfl ?_
      obtain ⟨r7, e8, h⟩ := ok_b h
      refine VcallS (as := [_, _]) C (dAt D_X11_bill 27 rfl) (m_X0_slot hL e8) yb_X11_199 ys_X11_199 rfl rfl (Nat.le_of_ble_eq_true rfl) (by decide) (by decide) (by decide) (by decide) (Kint ?_)
      obtain ⟨c9, h⟩ := ok_ck h
      refine Viald C (dAt D_X11_bill 28 rfl) (kt_137 hL) (kl_137 hL) (vp_in_iff.mpr c9) ?_
      cases h
      exact Viret C (dAt D_X11_bill 29 rfl) (by decide) (by decide) ⟨rfl, rfl, rfl⟩
    · have h := ok_t c6 h
      exact Vsub [] rfl (w_X11_bill_35 hL C  h)
def F_X11_count (w : LT) (f : Nat) (x1 : Int32) (u : MT) : Option (Int32 × MT) :=
  if x1 = 0 then
    some ((gI u 101 2), u)
  else
  if x1 = 1 then
    some ((gI u 104 5), u)
  else
  if x1 = 2 then
    some ((gI u 100 11), u)
  else
  if x1 = 3 then
    some ((gI u 128 1), u)
  else
  if x1 = 4 then
    some ((gI u 136 1), u)
  else
  if x1 = 5 then
    some ((gI u 110 1), u)
  else
  if x1 = 6 then
    (F_X8_rulesOfLatest w f 128 u).bind fun r8 =>
    some (r8.1, r8.2)
  else
  if x1 = 7 then
    some ((gI u 138 1), u)
  else
  if x1 = 8 then
    some ((gI u 100 12), u)
  else
  some ((-1 : Int32), u)
theorem m_X11_count {g : GT} {w : LT} (hL : Lay w) {x1 : Int32} {f : Nat} {u : MT} {r : (Int32 × MT)} (h : F_X11_count w f x1 u = some r) : Mt g yX11_count cX11_count 2 (some .int) 1 0 0 [.ref 100, .int x1] w u (Qi r.1 w r.2) := by
  refine Mt_of (own := RX11) (by decide +kernel) rfl (Nat.le_of_ble_eq_true rfl) (fun z C _ => ?_)
  show V z g 2 0 [(0, .ref 100), (1, .int x1)] [] w u 0 0 (Qi r.1 w r.2)
  rw [F_X11_count] at h
  refine Viload_n C 1 (dAt D_X11_count 0 rfl) rfl rfl ?_
  by_cases c1 : x1 = 0
  · have h := ok_t c1 h
    refine VtableIn (off := 51) (tgt := 52) C (dAt D_X11_count 1 rfl) (by rw [c1]; decide) (by rw [c1]; decide) (by rw [c1]; rfl) (by decide) ?_
    refine Vaload_n C 0 (dAt D_X11_count 2 rfl) rfl rfl ?_
    refine VgetP C (dAt D_X11_count 3 rfl) gf_X11_10 (kt_100 hL) rfl (kp_100_0 hL) ?_
    refine VgetI C (dAt D_X11_count 4 rfl) gf_X11_92 (kt_101 hL) rfl ?_
    cases h
    exact Viret C (dAt D_X11_count 5 rfl) (by decide) (by decide) ⟨rfl, rfl, rfl⟩
  have h := ok_f c1 h
  by_cases c2 : x1 = 1
  · have h := ok_t c2 h
    refine VtableIn (off := 59) (tgt := 60) C (dAt D_X11_count 1 rfl) (by rw [c2]; decide) (by rw [c2]; decide) (by rw [c2]; rfl) (by decide) ?_
    refine Vaload_n C 0 (dAt D_X11_count 6 rfl) rfl rfl ?_
    refine VgetP C (dAt D_X11_count 7 rfl) gf_X11_19 (kt_100 hL) rfl (kp_100_1 hL) ?_
    refine VgetI C (dAt D_X11_count 8 rfl) gf_X11_88 (kt_104 hL) rfl ?_
    cases h
    exact Viret C (dAt D_X11_count 9 rfl) (by decide) (by decide) ⟨rfl, rfl, rfl⟩
  have h := ok_f c2 h
  by_cases c3 : x1 = 2
  · have h := ok_t c3 h
    refine VtableIn (off := 67) (tgt := 68) C (dAt D_X11_count 1 rfl) (by rw [c3]; decide) (by rw [c3]; decide) (by rw [c3]; rfl) (by decide) ?_
    refine Vaload_n C 0 (dAt D_X11_count 10 rfl) rfl rfl ?_
    refine VgetI C (dAt D_X11_count 11 rfl) gf_X11_104 (kt_100 hL) rfl ?_
    cases h
    exact Viret C (dAt D_X11_count 12 rfl) (by decide) (by decide) ⟨rfl, rfl, rfl⟩
  have h := ok_f c3 h
  by_cases c4 : x1 = 3
  · have h := ok_t c4 h
    refine VtableIn (off := 72) (tgt := 73) C (dAt D_X11_count 1 rfl) (by rw [c4]; decide) (by rw [c4]; decide) (by rw [c4]; rfl) (by decide) ?_
    refine Vaload_n C 0 (dAt D_X11_count 13 rfl) rfl rfl ?_
    refine VgetP C (dAt D_X11_count 14 rfl) gf_X11_54 (kt_100 hL) rfl (kp_100_5 hL) ?_
    refine VgetI C (dAt D_X11_count 15 rfl) gf_X11_91 (kt_128 hL) rfl ?_
    cases h
    exact Viret C (dAt D_X11_count 16 rfl) (by decide) (by decide) ⟨rfl, rfl, rfl⟩
  have h := ok_f c4 h
  by_cases c5 : x1 = 4
  · have h := ok_t c5 h
    refine VtableIn (off := 80) (tgt := 81) C (dAt D_X11_count 1 rfl) (by rw [c5]; decide) (by rw [c5]; decide) (by rw [c5]; rfl) (by decide) ?_
    refine Vaload_n C 0 (dAt D_X11_count 17 rfl) rfl rfl ?_
    refine VgetP C (dAt D_X11_count 18 rfl) gf_X11_70 (kt_100 hL) rfl (kp_100_7 hL) ?_
    refine VgetI C (dAt D_X11_count 19 rfl) gf_X11_187 (kt_136 hL) rfl ?_
    cases h
    exact Viret C (dAt D_X11_count 20 rfl) (by decide) (by decide) ⟨rfl, rfl, rfl⟩
  have h := ok_f c5 h
  by_cases c6 : x1 = 5
  · have h := ok_t c6 h
    refine VtableIn (off := 88) (tgt := 89) C (dAt D_X11_count 1 rfl) (by rw [c6]; decide) (by rw [c6]; decide) (by rw [c6]; rfl) (by decide) ?_
    refine Vaload_n C 0 (dAt D_X11_count 21 rfl) rfl rfl ?_
    refine VgetP C (dAt D_X11_count 22 rfl) gf_X11_26 (kt_100 hL) rfl (kp_100_2 hL) ?_
    refine VgetI C (dAt D_X11_count 23 rfl) gf_X11_121 (kt_110 hL) rfl ?_
    cases h
    exact Viret C (dAt D_X11_count 24 rfl) (by decide) (by decide) ⟨rfl, rfl, rfl⟩
  have h := ok_f c6 h
  by_cases c7 : x1 = 6
  · have h := ok_t c7 h
    refine VtableIn (off := 96) (tgt := 97) C (dAt D_X11_count 1 rfl) (by rw [c7]; decide) (by rw [c7]; decide) (by rw [c7]; rfl) (by decide) ?_
    refine Vaload_n C 0 (dAt D_X11_count 25 rfl) rfl rfl ?_
    refine VgetP C (dAt D_X11_count 26 rfl) gf_X11_54 (kt_100 hL) rfl (kp_100_5 hL) ?_
    obtain ⟨r8, e9, h⟩ := ok_b h
    refine VcallV (as := []) C (dAt D_X11_count 27 rfl) (m_X8_rulesOfLatest hL (ts_128 hL) e9) yv_X11_202 (Or.inl ⟨((ts_128 hL)).1, by decide⟩) rfl rfl (Nat.le_of_ble_eq_true rfl) (by decide) (by decide) (by decide) (by decide) (Kint ?_)
    cases h
    exact Viret C (dAt D_X11_count 28 rfl) (by decide) (by decide) ⟨rfl, rfl, rfl⟩
  have h := ok_f c7 h
  by_cases c10 : x1 = 7
  · have h := ok_t c10 h
    refine VtableIn (off := 104) (tgt := 105) C (dAt D_X11_count 1 rfl) (by rw [c10]; decide) (by rw [c10]; decide) (by rw [c10]; rfl) (by decide) ?_
    refine Vaload_n C 0 (dAt D_X11_count 29 rfl) rfl rfl ?_
    refine VgetP C (dAt D_X11_count 30 rfl) gf_X11_74 (kt_100 hL) rfl (kp_100_8 hL) ?_
    refine VgetI C (dAt D_X11_count 31 rfl) gf_X11_91 (kt_138 hL) rfl ?_
    cases h
    exact Viret C (dAt D_X11_count 32 rfl) (by decide) (by decide) ⟨rfl, rfl, rfl⟩
  have h := ok_f c10 h
  by_cases c11 : x1 = 8
  · have h := ok_t c11 h
    refine VtableIn (off := 112) (tgt := 113) C (dAt D_X11_count 1 rfl) (by rw [c11]; decide) (by rw [c11]; decide) (by rw [c11]; rfl) (by decide) ?_
    refine Vaload_n C 0 (dAt D_X11_count 33 rfl) rfl rfl ?_
    refine VgetI C (dAt D_X11_count 34 rfl) gf_X11_84 (kt_100 hL) rfl ?_
    cases h
    exact Viret C (dAt D_X11_count 35 rfl) (by decide) (by decide) ⟨rfl, rfl, rfl⟩
  have h := ok_f c11 h
  have qc1 : (x1).toInt ≠ 0 := fun q => c1 (Int32.toInt_inj.mp (q.trans (by decide)))
  have qc2 : (x1).toInt ≠ 1 := fun q => c2 (Int32.toInt_inj.mp (q.trans (by decide)))
  have qc3 : (x1).toInt ≠ 2 := fun q => c3 (Int32.toInt_inj.mp (q.trans (by decide)))
  have qc4 : (x1).toInt ≠ 3 := fun q => c4 (Int32.toInt_inj.mp (q.trans (by decide)))
  have qc5 : (x1).toInt ≠ 4 := fun q => c5 (Int32.toInt_inj.mp (q.trans (by decide)))
  have qc6 : (x1).toInt ≠ 5 := fun q => c6 (Int32.toInt_inj.mp (q.trans (by decide)))
  have qc7 : (x1).toInt ≠ 6 := fun q => c7 (Int32.toInt_inj.mp (q.trans (by decide)))
  have qc10 : (x1).toInt ≠ 7 := fun q => c10 (Int32.toInt_inj.mp (q.trans (by decide)))
  have qc11 : (x1).toInt ≠ 8 := fun q => c11 (Int32.toInt_inj.mp (q.trans (by decide)))
  refine VtableOut (tgt := 118) C (dAt D_X11_count 1 rfl) (by omega) (by decide) ?_
  refine Viconst (x := (-1)) C (dAt D_X11_count 36 rfl) (by decide) ?_
  cases h
  exact Viret C (dAt D_X11_count 37 rfl) (by decide) (by decide) ⟨rfl, rfl, rfl⟩
