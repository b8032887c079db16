def B_X3_takePart_98 (f : Nat) (tx : Nat) (E : Int32 → MT → Option (Int32 × MT)) (s0 : Int32) (u : MT) : Option (Int32 × MT) :=
  (F_X7_emit f tx s0 u).bind fun r24 =>
  (F_X3_step f tx r24).bind fun r26 =>
  some ((1 : Int32), r26)
theorem w_X3_takePart_98 {z : ZT} {g : GT} {w : LT} (hL : Lay w) {D : Nat} {tx : Nat} {E : Int32 → MT → Option (Int32 × MT)} (htx : isTx w tx) (hrt : lt_p w 112 7 = tx) (hD : 12 ≤ D) (hE : ∀ (x' : Int32) (u' : MT) (r' : Int32 × MT), E x' u' = some r' → Mt g yX3_takeExpression cX3_takeExpression 5 (some .boolean) (D - 1) 0 0 [.ref 112, .int x'] w u' (Qi r'.1 w r'.2)) (C : Cx z g cX3_takePart 3 RX3 (some .boolean) D 0 0) {f : Nat} {r : (Int32 × MT)} {s0 : Int32} {u : MT} (h : B_X3_takePart_98 f tx E s0 u = some r) : V z g 3 98 [(0, .ref 112)] [.int s0, .ref tx] w u 0 0 (Qi r.1 w r.2) := by
  rw [B_X3_takePart_98] at h
  obtain ⟨r24, e25, h⟩ := ok_b h
  refine VcallV (as := [_]) C (dAt D_X3_takePart 52 rfl) (m_X7_emit hL htx e25) yv_X3_248 (Or.inl ⟨(htx).1, by decide⟩) rfl rfl (Nat.le_of_ble_eq_true rfl) (by decide) (by omega) (by decide) (by decide) (Kvoid ?_)
  refine Vaload_n C 0 (dAt D_X3_takePart 53 rfl) rfl rfl ?_
  obtain ⟨r26, e27, h⟩ := ok_b h
  refine VcallV (as := []) C (dAt D_X3_takePart 54 rfl) (m_X3_step hL htx hrt e27) yv_X3_102 (Or.inl ⟨(kt_112 hL), by decide⟩) rfl rfl (Nat.le_of_ble_eq_true rfl) (by decide) (by omega) (by decide) (by decide) (Kvoid ?_)
  refine Viconst (x := 1) C (dAt D_X3_takePart 55 rfl) (by decide) ?_
  cases h
  exact Vzret C (dAt D_X3_takePart 56 rfl) rfl (by decide) (by decide) ⟨rfl, rfl, rfl⟩
def F_X3_takePart (f : Nat) (tx : Nat) (E : Int32 → MT → Option (Int32 × MT)) (x1 : Int32) (u : MT) : Option (Int32 × MT) :=
  ck (ixo (gI u 112 4) 1201) <|
  ck (1 ≤ (gK u 113 ((gI u 112 4)).toNatClampNeg) ∧ (gK u 113 ((gI u 112 4)).toNatClampNeg) ≤ 34) <|
  (F_X9_beginsPart f (gK u 113 ((gI u 112 4)).toNatClampNeg) u).bind fun r3 =>
  if r3.1 = 0 then
    (F_X3_refuse f tx (1 : Int32) r3.2).bind fun r6 =>
    ck (r6.1 = 0 ∨ r6.1 = 1) <|
    some (r6.1, r6.2)
  else
    if x1 ≤ (5 : Int32) then
      if (gK u 113 ((gI u 112 4)).toNatClampNeg) = 4 then
        (F_X3_step f tx r3.2).bind fun r11 =>
        (E (x1 + (1 : Int32)) r11).bind fun r13 =>
        if r13.1 = 0 then
          some ((0 : Int32), r13.2)
        else
          (F_X3_take f tx 5 r13.2).bind fun r16 =>
          if r16.1 = 0 then
            some ((0 : Int32), r16.2)
          else
            some ((1 : Int32), r16.2)
      else
        if (gK u 113 ((gI u 112 4)).toNatClampNeg) = 3 then
          ck (ixo (gI r3.2 112 4) 1201) <|
          B_X3_takePart_98 f tx E (gI r3.2 115 ((gI r3.2 112 4)).toNatClampNeg) r3.2
        else
          B_X3_takePart_98 f tx E (tkC.getD ((gK u 113 ((gI u 112 4)).toNatClampNeg) - 1) 0) r3.2
    else
      (F_X3_refuse f tx (5 : Int32) r3.2).bind fun r21 =>
      ck (r21.1 = 0 ∨ r21.1 = 1) <|
      some (r21.1, r21.2)
theorem m_X3_takePart {g : GT} {w : LT} (hL : Lay w) {D : Nat} {tx : Nat} {E : Int32 → MT → Option (Int32 × MT)} {x1 : Int32} {f : Nat} {u : MT} {r : (Int32 × MT)} (htx : isTx w tx) (hrt : lt_p w 112 7 = tx) (hD : 12 ≤ D) (hE : ∀ (x' : Int32) (u' : MT) (r' : Int32 × MT), E x' u' = some r' → Mt g yX3_takeExpression cX3_takeExpression 5 (some .boolean) (D - 1) 0 0 [.ref 112, .int x'] w u' (Qi r'.1 w r'.2)) (h : F_X3_takePart f tx E x1 u = some r) : Mt g yX3_takePart cX3_takePart 3 (some .boolean) D 0 0 [.ref 112, .int x1] w u (Qi r.1 w r.2) := by
  refine Mt_of (own := RX3) (by decide +kernel) rfl (Nat.le_of_ble_eq_true rfl) (fun z C _ => ?_)
  show V z g 3 0 [(0, .ref 112), (1, .int x1)] [] w u 0 0 (Qi r.1 w r.2)
  rw [F_X3_takePart] at h
  refine Vaload_n C 0 (dAt D_X3_takePart 0 rfl) rfl rfl ?_
  refine VgetP C (dAt D_X3_takePart 1 rfl) gf_X3_11 (kt_112 hL) rfl (kp_112_0 hL) ?_
  refine Vaload_n C 0 (dAt D_X3_takePart 2 rfl) rfl rfl ?_
  refine VgetI C (dAt D_X3_takePart 3 rfl) gf_X3_34 (kt_112 hL) rfl ?_
  obtain ⟨c1, h⟩ := ok_ck h
  refine VaaldK C (dAt D_X3_takePart 4 rfl) (kt_113 hL) (kl_113 hL) (vp_in_iff.mpr c1) ?_
  refine Vastore_n (lv' := [(2, _), (0, _), (1, _)]) C (dAt D_X3_takePart 5 rfl) rfl (by decide) rfl ?_
  refine Vaload_n C 0 (dAt D_X3_takePart 6 rfl) rfl rfl ?_
  obtain ⟨c2, h⟩ := ok_ck h
  obtain ⟨r3, e4, h⟩ := ok_b h
  refine VcallV (as := []) C (dAt D_X3_takePart 7 rfl) (m_X9_beginsPart hL c2.1 c2.2 e4) yv_X3_255 (Or.inr ⟨rfl, c2.1, c2.2⟩) rfl rfl (Nat.le_of_ble_eq_true rfl) (by decide) (by omega) (by decide) (by decide) (Kint ?_)
  refine Vif_ne (tgt := 23) C (dAt D_X3_takePart 8 rfl) (by decide) (fun c5 => ?_) (fun c5 => ?_)
  · have h := ok_f c5 h
    refine Viload_n C 2 (dAt D_X3_takePart 13 rfl) rfl rfl ?_
    refine Viconst (x := 5) C (dAt D_X3_takePart 14 rfl) (by decide) ?_
    refine Vicmp_le (tgt := 34) C (dAt D_X3_takePart 15 rfl) (by decide) (fun c9 => ?_) (fun c9 => ?_)
    · have h := ok_t c9 h
      refine Vaload_n C 0 (dAt D_X3_takePart 20 rfl) rfl rfl ?_
      refine Vtok (i := 3) (x := 4) C (dAt D_X3_takePart 21 rfl) gs_X3_258 (by decide) rfl rfl ?_
      refine Vacmp_ne (tgt := 71) C (dAt D_X3_takePart 22 rfl) (by decide) c2.2 (by decide) (fun c10 => ?_) (fun c10 => ?_)
      · have h := ok_f c10 h
        refine Vaload_n C 1 (dAt D_X3_takePart 39 rfl) rfl rfl ?_
        refine VgetP C (dAt D_X3_takePart 40 rfl) gf_X3_43 (kt_112 hL) rfl hrt ?_
        refine Vaload_n C 0 (dAt D_X3_takePart 41 rfl) rfl rfl ?_
        refine Vtok (i := 2) (x := 3) C (dAt D_X3_takePart 42 rfl) gs_X3_92 (by decide) rfl rfl ?_
        refine Vacmp_ne (tgt := 94) C (dAt D_X3_takePart 43 rfl) (by decide) c2.2 (by decide) (fun c19 => ?_) (fun c19 => ?_)
        · have h := ok_f c19 h
          refine Vaload_n C 0 (dAt D_X3_takePart 50 rfl) rfl rfl ?_
          refine Vtokc C (dAt D_X3_takePart 51 rfl) gt_X3_245 c2.1 c2.2 ?_
          exact Vsub [1] rfl (w_X3_takePart_98 hL htx hrt hD hE C  h)
        · have h := ok_t c19 h
          refine Vaload_n C 1 (dAt D_X3_takePart 44 rfl) rfl rfl ?_
          refine VgetP C (dAt D_X3_takePart 45 rfl) gf_X3_21 (kt_112 hL) rfl (kp_112_2 hL) ?_
          refine Vaload_n C 1 (dAt D_X3_takePart 46 rfl) rfl rfl ?_
          refine VgetI C (dAt D_X3_takePart 47 rfl) gf_X3_34 (kt_112 hL) rfl ?_
          obtain ⟨c20, h⟩ := ok_ck h
          refine Viald C (dAt D_X3_takePart 48 rfl) (kt_115 hL) (kl_115 hL) (vp_in_iff.mpr c20) ?_
          refine Vgoto (tgt := 98) C (dAt D_X3_takePart 49 rfl) (by decide) ?_
          exact Vsub [1] rfl (w_X3_takePart_98 hL htx hrt hD hE C  h)
      · have h := ok_t c10 h
        refine Vaload_n C 1 (dAt D_X3_takePart 23 rfl) rfl rfl ?_
        obtain ⟨r11, e12, h⟩ := ok_b h
        refine VcallV (as := []) C (dAt D_X3_takePart 24 rfl) (m_X3_step hL htx hrt e12) yv_X3_102 (Or.inl ⟨(kt_112 hL), by decide⟩) rfl rfl (Nat.le_of_ble_eq_true rfl) (by decide) (by omega) (by decide) (by decide) (Kvoid ?_)
        refine Vaload_n C 1 (dAt D_X3_takePart 25 rfl) rfl rfl ?_
        refine Viload_n C 2 (dAt D_X3_takePart 26 rfl) rfl rfl ?_
        refine Viconst (x := 1) C (dAt D_X3_takePart 27 rfl) (by decide) ?_
        refine Viadd C (dAt D_X3_takePart 28 rfl) ?_
        obtain ⟨r13, e14, h⟩ := ok_b h
        refine VcallV (as := [_]) C (dAt D_X3_takePart 29 rfl) (hE _ _ _ e14) yv_X3_143 (Or.inl ⟨(kt_112 hL), by decide⟩) rfl rfl (Nat.le_of_ble_eq_true rfl) (by decide) (by omega) (by decide) (by decide) (Kint ?_)
        refine Vif_eq (tgt := 69) C (dAt D_X3_takePart 30 rfl) (by decide) (fun c15 => ?_) (fun c15 => ?_)
        · have h := ok_t c15 h
          refine Viconst (x := 0) C (dAt D_X3_takePart 37 rfl) (by decide) ?_
          cases h
          exact Vzret C (dAt D_X3_takePart 38 rfl) rfl (by decide) (by decide) ⟨rfl, rfl, rfl⟩
        · have h := ok_f c15 h
          refine Vaload_n C 1 (dAt D_X3_takePart 31 rfl) rfl rfl ?_
          refine Vtok (i := 4) (x := 5) C (dAt D_X3_takePart 32 rfl) gs_X3_261 (by decide) rfl rfl ?_
          obtain ⟨r16, e17, h⟩ := ok_b h
          refine VcallV (as := [_]) C (dAt D_X3_takePart 33 rfl) (m_X3_take hL htx hrt e17) yv_X3_105 (Or.inl ⟨(kt_112 hL), by decide⟩) rfl rfl (Nat.le_of_ble_eq_true rfl) (by decide) (by omega) (by decide) (by decide) (Kint ?_)
          refine Vif_eq (tgt := 69) C (dAt D_X3_takePart 34 rfl) (by decide) (fun c18 => ?_) (fun c18 => ?_)
          · have h := ok_t c18 h
            refine Viconst (x := 0) C (dAt D_X3_takePart 37 rfl) (by decide) ?_
            cases h
            exact Vzret C (dAt D_X3_takePart 38 rfl) rfl (by decide) (by decide) ⟨rfl, rfl, rfl⟩
          · have h := ok_f c18 h
            refine Viconst (x := 1) C (dAt D_X3_takePart 35 rfl) (by decide) ?_
            refine Vgoto (tgt := 70) C (dAt D_X3_takePart 36 rfl) (by decide) ?_
            cases h
            exact Vzret C (dAt D_X3_takePart 38 rfl) rfl (by decide) (by decide) ⟨rfl, rfl, rfl⟩
    · have h := ok_f c9 h
      refine Vaload_n C 1 (dAt D_X3_takePart 16 rfl) rfl rfl ?_
      refine Viconst (x := 5) C (dAt D_X3_takePart 17 rfl) (by decide) ?_
      obtain ⟨r21, e22, h⟩ := ok_b h
      refine VcallV (as := [_]) C (dAt D_X3_takePart 18 rfl) (m_X3_refuse hL htx hrt e22) yv_X3_99 (Or.inl ⟨(kt_112 hL), by decide⟩) rfl rfl (Nat.le_of_ble_eq_true rfl) (by decide) (by omega) (by decide) (by decide) (Kint ?_)
      obtain ⟨c23, h⟩ := ok_ck h
      cases h
      exact Vzret C (dAt D_X3_takePart 19 rfl) (nz01 c23) (by decide) (by decide) ⟨rfl, rfl, rfl⟩
  · have h := ok_t c5 h
    refine Vaload_n C 1 (dAt D_X3_takePart 9 rfl) rfl rfl ?_
    refine Viconst (x := 1) C (dAt D_X3_takePart 10 rfl) (by decide) ?_
    obtain ⟨r6, e7, h⟩ := ok_b h
    refine VcallV (as := [_]) C (dAt D_X3_takePart 11 rfl) (m_X3_refuse hL htx hrt e7) yv_X3_99 (Or.inl ⟨(kt_112 hL), by decide⟩) rfl rfl (Nat.le_of_ble_eq_true rfl) (by decide) (by omega) (by decide) (by decide) (Kint ?_)
    obtain ⟨c8, h⟩ := ok_ck h
    cases h
    exact Vzret C (dAt D_X3_takePart 12 rfl) (nz01 c8) (by decide) (by decide) ⟨rfl, rfl, rfl⟩
def B_X3_takeExpression_97 (f : Nat) (tx : Nat) (E : Int32 → MT → Option (Int32 × MT)) (a2 : Nat) (u : MT) : Option (Int32 × MT) :=
  if a2 = 0 then
    some ((1 : Int32), u)
  else
    ck (1 ≤ a2 ∧ a2 ≤ 34) <|
    (F_X7_emit f tx (tkC.getD (a2 - 1) 0) u).bind fun r14 =>
    some ((1 : Int32), r14)
theorem w_X3_takeExpression_97 {z : ZT} {g : GT} {w : LT} (hL : Lay w) {D : Nat} {tx : Nat} {E : Int32 → MT → Option (Int32 × MT)} (htx : isTx w tx) (hrt : lt_p w 112 7 = tx) (hD : 12 ≤ D) (hE : ∀ (x' : Int32) (u' : MT) (r' : Int32 × MT), E x' u' = some r' → Mt g yX3_takePart cX3_takePart 3 (some .boolean) (D - 1) 0 0 [.ref 112, .int x'] w u' (Qi r'.1 w r'.2)) (C : Cx z g cX3_takeExpression 5 RX3 (some .boolean) D 0 0) {f : Nat} {r : (Int32 × MT)} {a2 : Nat} {u : MT} (h : B_X3_takeExpression_97 f tx E a2 u = some r) : V z g 5 97 [(0, .ref 112), (2, .ref a2)] [] w u 0 0 (Qi r.1 w r.2) := by
  rw [B_X3_takeExpression_97] at h
  refine Vaload_n C 1 (dAt D_X3_takeExpression 49 rfl) rfl rfl ?_
  refine Vifnull (tgt := 112) C (dAt D_X3_takeExpression 50 rfl) (by decide) (fun c12 => ?_) (fun c12 => ?_)
  · have h := ok_t c12 h
    refine Viconst (x := 1) C (dAt D_X3_takeExpression 56 rfl) (by decide) ?_
    cases h
    exact Vzret C (dAt D_X3_takeExpression 57 rfl) rfl (by decide) (by decide) ⟨rfl, rfl, rfl⟩
  · have h := ok_f c12 h
    refine Vaload_n C 0 (dAt D_X3_takeExpression 51 rfl) rfl rfl ?_
    refine VgetP C (dAt D_X3_takeExpression 52 rfl) gf_X3_43 (kt_112 hL) rfl hrt ?_
    refine Vaload_n C 1 (dAt D_X3_takeExpression 53 rfl) rfl rfl ?_
    obtain ⟨c13, h⟩ := ok_ck h
    refine Vtokc C (dAt D_X3_takeExpression 54 rfl) gt_X3_245 c13.1 c13.2 ?_
    obtain ⟨r14, e15, h⟩ := ok_b h
    refine VcallV (as := [_]) C (dAt D_X3_takeExpression 55 rfl) (m_X7_emit hL htx e15) yv_X3_248 (Or.inl ⟨(htx).1, by decide⟩) rfl rfl (Nat.le_of_ble_eq_true rfl) (by decide) (by omega) (by decide) (by decide) (Kvoid ?_)
    refine Viconst (x := 1) C (dAt D_X3_takeExpression 56 rfl) (by decide) ?_
    cases h
    exact Vzret C (dAt D_X3_takeExpression 57 rfl) rfl (by decide) (by decide) ⟨rfl, rfl, rfl⟩
def B_X3_takeExpression_87 (f : Nat) (tx : Nat) (E : Int32 → MT → Option (Int32 × MT)) (j7 : Int32 → Nat → Nat → Int32 → MT → Option (Int32 × MT)) (x1 : Int32) (a2 : Nat) (a3 : Nat) (x4 : Int32) (u : MT) : Option (Int32 × MT) :=
  (F_X3_step f tx u).bind fun r29 =>
  let v31 := x4 + 1
  j7 x1 a2 a3 v31 r29
theorem w_X3_takeExpression_87 {z : ZT} {g : GT} {w : LT} (hL : Lay w) {D : Nat} {tx : Nat} {E : Int32 → MT → Option (Int32 × MT)} (htx : isTx w tx) (hrt : lt_p w 112 7 = tx) (hD : 12 ≤ D) (hE : ∀ (x' : Int32) (u' : MT) (r' : Int32 × MT), E x' u' = some r' → Mt g yX3_takePart cX3_takePart 3 (some .boolean) (D - 1) 0 0 [.ref 112, .int x'] w u' (Qi r'.1 w r'.2)) (C : Cx z g cX3_takeExpression 5 RX3 (some .boolean) D 0 0) {f : Nat} {r : (Int32 × MT)} {j7 : Int32 → Nat → Nat → Int32 → MT → Option (Int32 × MT)} (q7 : ∀ (x1 : Int32) (a2 : Nat) (a3 : Nat) (x4 : Int32) (u : MT), j7 x1 a2 a3 x4 u = some r → V z g 5 7 [(0, .ref 112), (1, .int x1), (2, .ref a2), (3, .ref a3), (4, .int x4)] [] w u 0 0 (Qi r.1 w r.2)) {x1 : Int32} {a2 : Nat} {a3 : Nat} {x4 : Int32} {u : MT} (h : B_X3_takeExpression_87 f tx E j7 x1 a2 a3 x4 u = some r) : V z g 5 87 [(0, .ref 112), (1, .int x1), (2, .ref a2), (3, .ref a3), (4, .int x4)] [] w u 0 0 (Qi r.1 w r.2) := by
  rw [B_X3_takeExpression_87] at h
  refine Vaload_n C 0 (dAt D_X3_takeExpression 45 rfl) rfl rfl ?_
  obtain ⟨r29, e30, h⟩ := ok_b h
  refine VcallV (as := []) C (dAt D_X3_takeExpression 46 rfl) (m_X3_step hL htx hrt e30) yv_X3_102 (Or.inl ⟨(kt_112 hL), by decide⟩) rfl rfl (Nat.le_of_ble_eq_true rfl) (by decide) (by omega) (by decide) (by decide) (Kvoid ?_)
  refine Viinc (j := 4) (v := _ + 1) (lv' := [(4, _), (0, _), (1, _), (2, _), (3, _)]) C (dAt D_X3_takeExpression 47 rfl) rfl rfl (by decide) rfl ?_
  refine Vgoto (tgt := 7) C (dAt D_X3_takeExpression 48 rfl) (by decide) ?_
  exact Vsub [1, 2, 3, 4, 0] rfl (q7 _ _ _ _ _  h)
def B_X3_takeExpression_78 (f : Nat) (tx : Nat) (E : Int32 → MT → Option (Int32 × MT)) (j7 : Int32 → Nat → Nat → Int32 → MT → Option (Int32 × MT)) (x1 : Int32) (a2 : Nat) (a3 : Nat) (x4 : Int32) (u : MT) : Option (Int32 × MT) :=
  ck (1 ≤ a3 ∧ a3 ≤ 34) <|
  (F_X9_isCompare f a3 u).bind fun r26 =>
  if r26.1 = 0 then
    B_X3_takeExpression_87 f tx E j7 x1 a2 a3 x4 r26.2
  else
    B_X3_takeExpression_87 f tx E j7 x1 a3 a3 x4 r26.2
theorem w_X3_takeExpression_78 {z : ZT} {g : GT} {w : LT} (hL : Lay w) {D : Nat} {tx : Nat} {E : Int32 → MT → Option (Int32 × MT)} (htx : isTx w tx) (hrt : lt_p w 112 7 = tx) (hD : 12 ≤ D) (hE : ∀ (x' : Int32) (u' : MT) (r' : Int32 × MT), E x' u' = some r' → Mt g yX3_takePart cX3_takePart 3 (some .boolean) (D - 1) 0 0 [.ref 112, .int x'] w u' (Qi r'.1 w r'.2)) (C : Cx z g cX3_takeExpression 5 RX3 (some .boolean) D 0 0) {f : Nat} {r : (Int32 × MT)} {j7 : Int32 → Nat → Nat → Int32 → MT → Option (Int32 × MT)} (q7 : ∀ (x1 : Int32) (a2 : Nat) (a3 : Nat) (x4 : Int32) (u : MT), j7 x1 a2 a3 x4 u = some r → V z g 5 7 [(0, .ref 112), (1, .int x1), (2, .ref a2), (3, .ref a3), (4, .int x4)] [] w u 0 0 (Qi r.1 w r.2)) {x1 : Int32} {a2 : Nat} {a3 : Nat} {x4 : Int32} {u : MT} (h : B_X3_takeExpression_78 f tx E j7 x1 a2 a3 x4 u = some r) : V z g 5 78 [(0, .ref 112), (1, .int x1), (2, .ref a2), (3, .ref a3), (4, .int x4)] [] w u 0 0 (Qi r.1 w r.2) := by
  rw [B_X3_takeExpression_78] at h
  refine Vaload_n C 3 (dAt D_X3_takeExpression 40 rfl) rfl rfl ?_
  obtain ⟨c25, h⟩ := ok_ck h
  obtain ⟨r26, e27, h⟩ := ok_b h
  refine VcallV (as := []) C (dAt D_X3_takeExpression 41 rfl) (m_X9_isCompare hL c25.1 c25.2 e27) yv_X3_242 (Or.inr ⟨rfl, c25.1, c25.2⟩) rfl rfl (Nat.le_of_ble_eq_true rfl) (by decide) (by omega) (by decide) (by decide) (Kint ?_)
  refine Vif_eq (tgt := 87) C (dAt D_X3_takeExpression 42 rfl) (by decide) (fun c28 => ?_) (fun c28 => ?_)
  · have h := ok_t c28 h
    exact Vsub [0, 1, 2, 3, 4] rfl (w_X3_takeExpression_87 hL htx hrt hD hE C q7  h)
  · have h := ok_f c28 h
    refine Vaload_n C 3 (dAt D_X3_takeExpression 43 rfl) rfl rfl ?_
    refine Vastore_n (lv' := [(2, _), (0, _), (1, _), (3, _), (4, _)]) C (dAt D_X3_takeExpression 44 rfl) rfl (by decide) rfl ?_
    exact Vsub [1, 2, 0, 3, 4] rfl (w_X3_takeExpression_87 hL htx hrt hD hE C q7  h)
def B_X3_takeExpression_47 (f : Nat) (tx : Nat) (E : Int32 → MT → Option (Int32 × MT)) (j7 : Int32 → Nat → Nat → Int32 → MT → Option (Int32 × MT)) (x1 : Int32) (a2 : Nat) (x4 : Int32) (u : MT) : Option (Int32 × MT) :=
  ck (ixo (gI u 112 4) 1201) <|
  ck (1 ≤ (gK u 113 ((gI u 112 4)).toNatClampNeg) ∧ (gK u 113 ((gI u 112 4)).toNatClampNeg) ≤ 34) <|
  (F_X9_isOperator f (gK u 113 ((gI u 112 4)).toNatClampNeg) u).bind fun r18 =>
  if r18.1 = 0 then
    B_X3_takeExpression_97 f tx E a2 r18.2
  else
    (F_X9_isCompare f (gK u 113 ((gI u 112 4)).toNatClampNeg) r18.2).bind fun r21 =>
    if r21.1 = 0 then
      B_X3_takeExpression_78 f tx E j7 x1 a2 (gK u 113 ((gI u 112 4)).toNatClampNeg) x4 r21.2
    else
      if a2 = 0 then
        B_X3_takeExpression_78 f tx E j7 x1 a2 (gK u 113 ((gI u 112 4)).toNatClampNeg) x4 r21.2
      else
        B_X3_takeExpression_97 f tx E a2 r21.2
theorem w_X3_takeExpression_47 {z : ZT} {g : GT} {w : LT} (hL : Lay w) {D : Nat} {tx : Nat} {E : Int32 → MT → Option (Int32 × MT)} (htx : isTx w tx) (hrt : lt_p w 112 7 = tx) (hD : 12 ≤ D) (hE : ∀ (x' : Int32) (u' : MT) (r' : Int32 × MT), E x' u' = some r' → Mt g yX3_takePart cX3_takePart 3 (some .boolean) (D - 1) 0 0 [.ref 112, .int x'] w u' (Qi r'.1 w r'.2)) (C : Cx z g cX3_takeExpression 5 RX3 (some .boolean) D 0 0) {f : Nat} {r : (Int32 × MT)} {j7 : Int32 → Nat → Nat → Int32 → MT → Option (Int32 × MT)} (q7 : ∀ (x1 : Int32) (a2 : Nat) (a3 : Nat) (x4 : Int32) (u : MT), j7 x1 a2 a3 x4 u = some r → V z g 5 7 [(0, .ref 112), (1, .int x1), (2, .ref a2), (3, .ref a3), (4, .int x4)] [] w u 0 0 (Qi r.1 w r.2)) {x1 : Int32} {a2 : Nat} {x4 : Int32} {u : MT} (h : B_X3_takeExpression_47 f tx E j7 x1 a2 x4 u = some r) : V z g 5 47 [(0, .ref 112), (1, .int x1), (2, .ref a2), (4, .int x4)] [] w u 0 0 (Qi r.1 w r.2) := by
  rw [B_X3_takeExpression_47] at h
  refine Vaload_n C 0 (dAt D_X3_takeExpression 25 rfl) rfl rfl ?_
  refine VgetP C (dAt D_X3_takeExpression 26 rfl) gf_X3_11 (kt_112 hL) rfl (kp_112_0 hL) ?_
  refine Vaload_n C 0 (dAt D_X3_takeExpression 27 rfl) rfl rfl ?_
  refine VgetI C (dAt D_X3_takeExpression 28 rfl) gf_X3_34 (kt_112 hL) rfl ?_
  obtain ⟨c16, h⟩ := ok_ck h
  refine VaaldK C (dAt D_X3_takeExpression 29 rfl) (kt_113 hL) (kl_113 hL) (vp_in_iff.mpr c16) ?_
  refine Vastore_n (lv' := [(3, _), (0, _), (1, _), (2, _), (4, _)]) C (dAt D_X3_takeExpression 30 rfl) rfl (by decide) rfl ?_
  refine Vaload_n C 0 (dAt D_X3_takeExpression 31 rfl) rfl rfl ?_
  obtain ⟨c17, h⟩ := ok_ck h
  obtain ⟨r18, e19, h⟩ := ok_b h
  refine VcallV (as := []) C (dAt D_X3_takeExpression 32 rfl) (m_X9_isOperator hL c17.1 c17.2 e19) yv_X3_252 (Or.inr ⟨rfl, c17.1, c17.2⟩) rfl rfl (Nat.le_of_ble_eq_true rfl) (by decide) (by omega) (by decide) (by decide) (Kint ?_)
  refine Vif_eq (tgt := 97) C (dAt D_X3_takeExpression 33 rfl) (by decide) (fun c20 => ?_) (fun c20 => ?_)
  · have h := ok_t c20 h
    exact Vsub [1, 3] rfl (w_X3_takeExpression_97 hL htx hrt hD hE C  h)
  · have h := ok_f c20 h
    refine Vaload_n C 0 (dAt D_X3_takeExpression 34 rfl) rfl rfl ?_
    obtain ⟨r21, e22, h⟩ := ok_b h
    refine VcallV (as := []) C (dAt D_X3_takeExpression 35 rfl) (m_X9_isCompare hL c17.1 c17.2 e22) yv_X3_242 (Or.inr ⟨rfl, c17.1, c17.2⟩) rfl rfl (Nat.le_of_ble_eq_true rfl) (by decide) (by omega) (by decide) (by decide) (Kint ?_)
    refine Vif_eq (tgt := 78) C (dAt D_X3_takeExpression 36 rfl) (by decide) (fun c23 => ?_) (fun c23 => ?_)
    · have h := ok_t c23 h
      exact Vsub [1, 2, 3, 0, 4] rfl (w_X3_takeExpression_78 hL htx hrt hD hE C q7  h)
    · have h := ok_f c23 h
      refine Vaload_n C 3 (dAt D_X3_takeExpression 37 rfl) rfl rfl ?_
      refine Vifnull (tgt := 78) C (dAt D_X3_takeExpression 38 rfl) (by decide) (fun c24 => ?_) (fun c24 => ?_)
      · have h := ok_t c24 h
        exact Vsub [1, 2, 3, 0, 4] rfl (w_X3_takeExpression_78 hL htx hrt hD hE C q7  h)
      · have h := ok_f c24 h
        refine Vgoto (tgt := 97) C (dAt D_X3_takeExpression 39 rfl) (by decide) ?_
        exact Vsub [1, 3] rfl (w_X3_takeExpression_97 hL htx hrt hD hE C  h)
def B_X3_takeExpression_7 (f : Nat) (tx : Nat) (E : Int32 → MT → Option (Int32 × MT)) : Nat → Int32 → Nat → Nat → Int32 → MT → Option (Int32 × MT)
  | 0, _, _, _, _, _ => none
  | n + 1, x1, a2, a3, x4, u =>
    if (1200 : Int32) ≤ x4 then
      B_X3_takeExpression_97 f tx E a2 u
    else
      (E x1 u).bind fun r2 =>
      if r2.1 = 0 then
        some ((0 : Int32), r2.2)
      else
        if a3 = 0 then
          B_X3_takeExpression_47 f tx E (fun x1' a2' a3' x4' u' => B_X3_takeExpression_7 f tx E n x1' a2' a3' x4' u') x1 a2 x4 r2.2
        else
          ck (1 ≤ a3 ∧ a3 ≤ 34) <|
          (F_X9_isCompare f a3 r2.2).bind fun r7 =>
          if r7.1 = 0 then
            (F_X7_emit f tx (tkC.getD (a3 - 1) 0) r7.2).bind fun r10 =>
            B_X3_takeExpression_47 f tx E (fun x1' a2' a3' x4' u' => B_X3_takeExpression_7 f tx E n x1' a2' a3' x4' u') x1 a2 x4 r10
          else
            B_X3_takeExpression_47 f tx E (fun x1' a2' a3' x4' u' => B_X3_takeExpression_7 f tx E n x1' a2' a3' x4' u') x1 a2 x4 r7.2
theorem w_X3_takeExpression_7 {z : ZT} {g : GT} {w : LT} (hL : Lay w) {D : Nat} {tx : Nat} {E : Int32 → MT → Option (Int32 × MT)} (htx : isTx w tx) (hrt : lt_p w 112 7 = tx) (hD : 12 ≤ D) (hE : ∀ (x' : Int32) (u' : MT) (r' : Int32 × MT), E x' u' = some r' → Mt g yX3_takePart cX3_takePart 3 (some .boolean) (D - 1) 0 0 [.ref 112, .int x'] w u' (Qi r'.1 w r'.2)) (C : Cx z g cX3_takeExpression 5 RX3 (some .boolean) D 0 0) {f : Nat} {r : (Int32 × MT)} : ∀ (n : Nat) (x1 : Int32) (a2 : Nat) (a3 : Nat) (x4 : Int32) (u : MT), B_X3_takeExpression_7 f tx E n x1 a2 a3 x4 u = some r → V z g 5 7 [(0, .ref 112), (1, .int x1), (2, .ref a2), (3, .ref a3), (4, .int x4)] [] w u 0 0 (Qi r.1 w r.2) := by
  intro n
  induction n with
  | zero =>
    intro x1 a2 a3 x4 u h
    rw [B_X3_takeExpression_7] at h
    cases h
  | succ n ih =>
    intro x1 a2 a3 x4 u h
    rw [B_X3_takeExpression_7] at h
    refine Viload C 4 (dAt D_X3_takeExpression 6 rfl) rfl ?_
    refine Vsipush (x := 1200) C (dAt D_X3_takeExpression 7 rfl) (by decide) ?_
    refine Vicmp_ge (tgt := 97) C (dAt D_X3_takeExpression 8 rfl) (by decide) (fun c1 => ?_) (fun c1 => ?_)
    · have h := ok_t c1 h
      exact Vsub [0, 2] rfl (w_X3_takeExpression_97 hL htx hrt hD hE C  h)
    · have h := ok_f c1 h
      refine Vaload_n C 0 (dAt D_X3_takeExpression 9 rfl) rfl rfl ?_
      refine Viload_n C 1 (dAt D_X3_takeExpression 10 rfl) rfl rfl ?_
      obtain ⟨r2, e3, h⟩ := ok_b h
      refine VcallV (as := [_]) C (dAt D_X3_takeExpression 11 rfl) (hE _ _ _ e3) yv_X3_239 (Or.inl ⟨(kt_112 hL), by decide⟩) rfl rfl (Nat.le_of_ble_eq_true rfl) (by decide) (by omega) (by decide) (by decide) (Kint ?_)
      refine Vif_ne (tgt := 25) C (dAt D_X3_takeExpression 12 rfl) (by decide) (fun c4 => ?_) (fun c4 => ?_)
      · have h := ok_f c4 h
        refine Vaload_n C 3 (dAt D_X3_takeExpression 15 rfl) rfl rfl ?_
        refine Vifnull (tgt := 47) C (dAt D_X3_takeExpression 16 rfl) (by decide) (fun c5 => ?_) (fun c5 => ?_)
        · have h := ok_t c5 h
          exact Vsub [0, 1, 2, 4] rfl (w_X3_takeExpression_47 hL htx hrt hD hE C ih  h)
        · have h := ok_f c5 h
          refine Vaload_n C 3 (dAt D_X3_takeExpression 17 rfl) rfl rfl ?_
          obtain ⟨c6, h⟩ := ok_ck h
          obtain ⟨r7, e8, h⟩ := ok_b h
          refine VcallV (as := []) C (dAt D_X3_takeExpression 18 rfl) (m_X9_isCompare hL c6.1 c6.2 e8) yv_X3_242 (Or.inr ⟨rfl, c6.1, c6.2⟩) rfl rfl (Nat.le_of_ble_eq_true rfl) (by decide) (by omega) (by decide) (by decide) (Kint ?_)
          refine Vif_ne (tgt := 47) C (dAt D_X3_takeExpression 19 rfl) (by decide) (fun c9 => ?_) (fun c9 => ?_)
          · have h := ok_f c9 h
            exact Vsub [0, 1, 2, 4] rfl (w_X3_takeExpression_47 hL htx hrt hD hE C ih  h)
          · have h := ok_t c9 h
            refine Vaload_n C 0 (dAt D_X3_takeExpression 20 rfl) rfl rfl ?_
            refine VgetP C (dAt D_X3_takeExpression 21 rfl) gf_X3_43 (kt_112 hL) rfl hrt ?_
            refine Vaload_n C 3 (dAt D_X3_takeExpression 22 rfl) rfl rfl ?_
            refine Vtokc C (dAt D_X3_takeExpression 23 rfl) gt_X3_245 c6.1 c6.2 ?_
            obtain ⟨r10, e11, h⟩ := ok_b h
            refine VcallV (as := [_]) C (dAt D_X3_takeExpression 24 rfl) (m_X7_emit hL htx e11) yv_X3_248 (Or.inl ⟨(htx).1, by decide⟩) rfl rfl (Nat.le_of_ble_eq_true rfl) (by decide) (by omega) (by decide) (by decide) (Kvoid ?_)
            exact Vsub [0, 1, 2, 4] rfl (w_X3_takeExpression_47 hL htx hrt hD hE C ih  h)
      · have h := ok_t c4 h
        refine Viconst (x := 0) C (dAt D_X3_takeExpression 13 rfl) (by decide) ?_
        cases h
        exact Vzret C (dAt D_X3_takeExpression 14 rfl) rfl (by decide) (by decide) ⟨rfl, rfl, rfl⟩
def F_X3_takeExpression (f : Nat) (tx : Nat) (E : Int32 → MT → Option (Int32 × MT)) (x1 : Int32) (u : MT) : Option (Int32 × MT) :=
  B_X3_takeExpression_7 f tx E f x1 0 0 (0 : Int32) u
theorem m_X3_takeExpression {g : GT} {w : LT} (hL : Lay w) {D : Nat} {tx : Nat} {E : Int32 → MT → Option (Int32 × MT)} {x1 : Int32} {f : Nat} {u : MT} {r : (Int32 × MT)} (htx : isTx w tx) (hrt : lt_p w 112 7 = tx) (hD : 12 ≤ D) (hE : ∀ (x' : Int32) (u' : MT) (r' : Int32 × MT), E x' u' = some r' → Mt g yX3_takePart cX3_takePart 3 (some .boolean) (D - 1) 0 0 [.ref 112, .int x'] w u' (Qi r'.1 w r'.2)) (h : F_X3_takeExpression f tx E x1 u = some r) : Mt g yX3_takeExpression cX3_takeExpression 5 (some .boolean) D 0 0 [.ref 112, .int x1] w u (Qi r.1 w r.2) := by
  refine Mt_of (own := RX3) (by decide +kernel) rfl (Nat.le_of_ble_eq_true rfl) (fun z C _ => ?_)
  show V z g 5 0 [(0, .ref 112), (1, .int x1)] [] w u 0 0 (Qi r.1 w r.2)
  rw [F_X3_takeExpression] at h
  refine Vnull C (dAt D_X3_takeExpression 0 rfl) ?_
  refine Vastore_n (lv' := [(2, _), (0, _), (1, _)]) C (dAt D_X3_takeExpression 1 rfl) rfl (by decide) rfl ?_
  refine Vnull C (dAt D_X3_takeExpression 2 rfl) ?_
  refine Vastore_n (lv' := [(3, _), (2, _), (0, _), (1, _)]) C (dAt D_X3_takeExpression 3 rfl) rfl (by decide) rfl ?_
  refine Viconst (x := 0) C (dAt D_X3_takeExpression 4 rfl) (by decide) ?_
  refine Vistore (lv' := [(4, _), (3, _), (2, _), (0, _), (1, _)]) C (dAt D_X3_takeExpression 5 rfl) (by decide) rfl ?_
  exact Vsub [3, 4, 2, 1, 0] rfl (w_X3_takeExpression_7 hL htx hrt hD hE C  f _ _ _ _ _  h)
/-! the recursion tied: so many levels -/
def RE (f tx : Nat) : Nat → Int32 → MT → Option (Int32 × MT)
  | 0, _, _ => none
  | d + 1, x, u => F_X3_takeExpression f tx (fun x1 u1 => F_X3_takePart f tx (fun x2 u2 => RE f tx d x2 u2) x1 u1) x u
theorem m_RE {g : GT} {w : LT} (hL : Lay w) {tx f : Nat} (htx : isTx w tx) (hrt : lt_p w 112 7 = tx) : ∀ (d : Nat) (x : Int32) (u : MT) (r : Int32 × MT), RE f tx d x u = some r → Mt g yX3_takeExpression cX3_takeExpression 5 (some .boolean) (14 + 2 * d) 0 0 [.ref 112, .int x] w u (Qi r.1 w r.2) := by
  intro d
  induction d with
  | zero => intro x u r h; rw [RE] at h; cases h
  | succ d ih =>
    intro x u r h
    rw [RE] at h
    exact m_X3_takeExpression (D := 14 + 2 * (d + 1)) hL htx hrt (by omega) (fun x1 u1 r1 h1 => m_X3_takePart (D := 14 + 2 * (d + 1) - 1) hL htx hrt (by omega) (fun x2 u2 r2 h2 => by
      have h3 := ih x2 u2 r2 h2
      rw [show 14 + 2 * d = 14 + 2 * (d + 1) - 1 - 1 by omega] at h3
      exact h3) h1) h
def B_X3_takeAct_114 (f : Nat) (tx : Nat) (u : MT) : Option (Int32 × MT) :=
  some ((1 : Int32), u)
theorem w_X3_takeAct_114 {z : ZT} {g : GT} {w : LT} (hL : Lay w) {tx : Nat} (htx : isTx w tx) (hrt : lt_p w 112 7 = tx) (C : Cx z g cX3_takeAct 2 RX3 (some .boolean) 31 0 0) {f : Nat} {r : (Int32 × MT)} {u : MT} (h : B_X3_takeAct_114 f tx  u = some r) : V z g 2 114 [] [] w u 0 0 (Qi r.1 w r.2) := by
  rw [B_X3_takeAct_114] at h
  refine Viconst (x := 1) C (dAt D_X3_takeAct 54 rfl) (by decide) ?_
  refine Vgoto (tgt := 119) C (dAt D_X3_takeAct 55 rfl) (by decide) ?_
  cases h
  exact Vzret C (dAt D_X3_takeAct 57 rfl) rfl (by decide) (by decide) ⟨rfl, rfl, rfl⟩
def B_X3_takeAct_85 (f : Nat) (tx : Nat) (a1 : Nat) (u : MT) : Option (Int32 × MT) :=
  let u19 := sI u a1 4 (gI u tx 4)
  ck ((gK u19 a1 0) ≤ 34) <|
  if (gK u19 a1 0) = 18 then
    B_X3_takeAct_114 f tx u19
  else
    (F_X3_takeWays f tx a1 u19).bind fun r22 =>
    if r22.1 = 0 then
      some ((0 : Int32), r22.2)
    else
      B_X3_takeAct_114 f tx r22.2
theorem w_X3_takeAct_85 {z : ZT} {g : GT} {w : LT} (hL : Lay w) {tx : Nat} (htx : isTx w tx) (hrt : lt_p w 112 7 = tx) (C : Cx z g cX3_takeAct 2 RX3 (some .boolean) 31 0 0) {f : Nat} {r : (Int32 × MT)} {a1 : Nat} {u : MT} (k1 : lt_t w a1 = 5) (h : B_X3_takeAct_85 f tx a1 u = some r) : V z g 2 85 [(0, .ref 112), (1, .ref a1)] [] w u 0 0 (Qi r.1 w r.2) := by
  rw [B_X3_takeAct_85] at h
  refine Vaload_n C 1 (dAt D_X3_takeAct 41 rfl) rfl rfl ?_
  refine Vaload_n C 0 (dAt D_X3_takeAct 42 rfl) rfl rfl ?_
  refine VgetP C (dAt D_X3_takeAct 43 rfl) gf_X3_43 (kt_112 hL) rfl hrt ?_
  refine VgetI C (dAt D_X3_takeAct 44 rfl) gf_X3_50 (htx).1 rfl ?_
  refine VputI C (dAt D_X3_takeAct 45 rfl) gf_X3_174 k1 rfl rfl rfl rfl ?_
  refine Vaload_n C 1 (dAt D_X3_takeAct 46 rfl) rfl rfl ?_
  refine VgetK C (dAt D_X3_takeAct 47 rfl) gf_X3_162 k1 rfl ?_
  refine Vtok (i := 17) (x := 18) C (dAt D_X3_takeAct 48 rfl) gs_X3_156 (by decide) rfl rfl ?_
  obtain ⟨c20, h⟩ := ok_ck h
  refine Vacmp_eq (tgt := 114) C (dAt D_X3_takeAct 49 rfl) (by decide) c20 (by decide) (fun c21 => ?_) (fun c21 => ?_)
  · have h := ok_t c21 h
    exact Vsub [] rfl (w_X3_takeAct_114 hL htx hrt C  h)
  · have h := ok_f c21 h
    refine Vaload_n C 0 (dAt D_X3_takeAct 50 rfl) rfl rfl ?_
    refine Vaload_n C 1 (dAt D_X3_takeAct 51 rfl) rfl rfl ?_
    obtain ⟨r22, e23, h⟩ := ok_b h
    refine VcallV (as := [_]) C (dAt D_X3_takeAct 52 rfl) (m_X3_takeWays hL htx hrt k1 e23) yv_X3_177 (Or.inl ⟨(kt_112 hL), by decide⟩) rfl rfl (Nat.le_of_ble_eq_true rfl) (by decide) (by decide) (by decide) (by decide) (Kint ?_)
    refine Vif_eq (tgt := 118) C (dAt D_X3_takeAct 53 rfl) (by decide) (fun c24 => ?_) (fun c24 => ?_)
    · have h := ok_t c24 h
      refine Viconst (x := 0) C (dAt D_X3_takeAct 56 rfl) (by decide) ?_
      cases h
      exact Vzret C (dAt D_X3_takeAct 57 rfl) rfl (by decide) (by decide) ⟨rfl, rfl, rfl⟩
    · have h := ok_f c24 h
      exact Vsub [] rfl (w_X3_takeAct_114 hL htx hrt C  h)
def F_X3_takeAct (f : Nat) (tx : Nat) (a1 : Nat) (u : MT) : Option (Int32 × MT) :=
  (F_X3_takeOneOf f tx 17 18 19 u).bind fun r1 =>
  let u3 := sK r1.2 a1 0 r1.1
  if (gK u3 a1 0) = 0 then
    some ((0 : Int32), u3)
  else
    ck ((gK u3 a1 0) ≤ 34) <|
    if (gK u3 a1 0) = 19 then
      (F_X3_takePrice f tx a1 u3).bind fun r7 =>
      ck (r7.1 = 0 ∨ r7.1 = 1) <|
      some (r7.1, r7.2)
    else
      let u10 := sI u3 a1 3 (gI u3 tx 4)
      ck (ixo (gI u10 112 4) 1201) <|
      ck ((gK u10 113 ((gI u10 112 4)).toNatClampNeg) ≤ 34) <|
      if (gK u10 113 ((gI u10 112 4)).toNatClampNeg) = 24 then
        (F_X3_step f tx u10).bind fun r14 =>
        B_X3_takeAct_85 f tx a1 r14
      else
        (RE f tx 8 (0 : Int32) u10).bind fun r16 =>
        if r16.1 = 0 then
          some ((0 : Int32), r16.2)
        else
          B_X3_takeAct_85 f tx a1 r16.2
theorem m_X3_takeAct {g : GT} {w : LT} (hL : Lay w) {tx : Nat} {a1 : Nat} {f : Nat} {u : MT} {r : (Int32 × MT)} (htx : isTx w tx) (hrt : lt_p w 112 7 = tx) (k1 : lt_t w a1 = 5) (h : F_X3_takeAct f tx a1 u = some r) : Mt g yX3_takeAct cX3_takeAct 2 (some .boolean) 31 0 0 [.ref 112, .ref a1] w u (Qi r.1 w r.2) := by
  refine Mt_of (own := RX3) (by decide +kernel) rfl (Nat.le_of_ble_eq_true rfl) (fun z C _ => ?_)
  show V z g 2 0 [(0, .ref 112), (1, .ref a1)] [] w u 0 0 (Qi r.1 w r.2)
  rw [F_X3_takeAct] at h
  refine Vaload_n C 1 (dAt D_X3_takeAct 0 rfl) rfl rfl ?_
  refine Vaload_n C 0 (dAt D_X3_takeAct 1 rfl) rfl rfl ?_
  refine Vtok (i := 16) (x := 17) C (dAt D_X3_takeAct 2 rfl) gs_X3_153 (by decide) rfl rfl ?_
  refine Vtok (i := 17) (x := 18) C (dAt D_X3_takeAct 3 rfl) gs_X3_156 (by decide) rfl rfl ?_
  refine Vtok (i := 18) (x := 19) C (dAt D_X3_takeAct 4 rfl) gs_X3_159 (by decide) rfl rfl ?_
  obtain ⟨r1, e2, h⟩ := ok_b h
  refine VcallV (as := [_, _, _]) C (dAt D_X3_takeAct 5 rfl) (m_X3_takeOneOf hL htx hrt e2) yv_X3_118 (Or.inl ⟨(kt_112 hL), by decide⟩) rfl rfl (Nat.le_of_ble_eq_true rfl) (by decide) (by decide) (by decide) (by decide) (Kref ?_)
  refine VputK C (dAt D_X3_takeAct 6 rfl) gf_X3_162 k1 rfl rfl rfl ?_
  refine Vaload_n C 1 (dAt D_X3_takeAct 7 rfl) rfl rfl ?_
  refine VgetK C (dAt D_X3_takeAct 8 rfl) gf_X3_162 k1 rfl ?_
  refine Vifnonnull (tgt := 26) C (dAt D_X3_takeAct 9 rfl) (by decide) (fun c4 => ?_) (fun c4 => ?_)
  · have h := ok_f c4 h
    refine Vaload_n C 1 (dAt D_X3_takeAct 12 rfl) rfl rfl ?_
    refine VgetK C (dAt D_X3_takeAct 13 rfl) gf_X3_162 k1 rfl ?_
    refine Vtok (i := 18) (x := 19) C (dAt D_X3_takeAct 14 rfl) gs_X3_159 (by decide) rfl rfl ?_
    obtain ⟨c5, h⟩ := ok_ck h
    refine Vacmp_ne (tgt := 42) C (dAt D_X3_takeAct 15 rfl) (by decide) c5 (by decide) (fun c6 => ?_) (fun c6 => ?_)
    · have h := ok_f c6 h
      refine Vaload_n C 1 (dAt D_X3_takeAct 20 rfl) rfl rfl ?_
      refine Vaload_n C 0 (dAt D_X3_takeAct 21 rfl) rfl rfl ?_
      refine VgetP C (dAt D_X3_takeAct 22 rfl) gf_X3_43 (kt_112 hL) rfl hrt ?_
      refine VgetI C (dAt D_X3_takeAct 23 rfl) gf_X3_50 (htx).1 rfl ?_
      refine VputI C (dAt D_X3_takeAct 24 rfl) gf_X3_168 k1 rfl rfl rfl rfl ?_
      refine Vaload_n C 0 (dAt D_X3_takeAct 25 rfl) rfl rfl ?_
      refine VgetP C (dAt D_X3_takeAct 26 rfl) gf_X3_11 (kt_112 hL) rfl (kp_112_0 hL) ?_
      refine Vaload_n C 0 (dAt D_X3_takeAct 27 rfl) rfl rfl ?_
      refine VgetI C (dAt D_X3_takeAct 28 rfl) gf_X3_34 (kt_112 hL) rfl ?_
      obtain ⟨c11, h⟩ := ok_ck h
      refine VaaldK C (dAt D_X3_takeAct 29 rfl) (kt_113 hL) (kl_113 hL) (vp_in_iff.mpr c11) ?_
      refine Vtok (i := 23) (x := 24) C (dAt D_X3_takeAct 30 rfl) gs_X3_171 (by decide) rfl rfl ?_
      obtain ⟨c12, h⟩ := ok_ck h
      refine Vacmp_ne (tgt := 75) C (dAt D_X3_takeAct 31 rfl) (by decide) c12 (by decide) (fun c13 => ?_) (fun c13 => ?_)
      · have h := ok_f c13 h
        refine Vaload_n C 0 (dAt D_X3_takeAct 35 rfl) rfl rfl ?_
        refine Viconst (x := 0) C (dAt D_X3_takeAct 36 rfl) (by decide) ?_
        obtain ⟨r16, e17, h⟩ := ok_b h
        refine VcallV (as := [_]) C (dAt D_X3_takeAct 37 rfl) (m_RE hL htx hrt 8 _ _ _ e17) yv_X3_143 (Or.inl ⟨(kt_112 hL), by decide⟩) rfl rfl (Nat.le_of_ble_eq_true rfl) (by decide) (by decide) (by decide) (by decide) (Kint ?_)
        refine Vif_ne (tgt := 85) C (dAt D_X3_takeAct 38 rfl) (by decide) (fun c18 => ?_) (fun c18 => ?_)
        · have h := ok_f c18 h
          exact Vsub [0, 1] rfl (w_X3_takeAct_85 hL htx hrt C k1 h)
        · have h := ok_t c18 h
          refine Viconst (x := 0) C (dAt D_X3_takeAct 39 rfl) (by decide) ?_
          cases h
          exact Vzret C (dAt D_X3_takeAct 40 rfl) rfl (by decide) (by decide) ⟨rfl, rfl, rfl⟩
      · have h := ok_t c13 h
        refine Vaload_n C 0 (dAt D_X3_takeAct 32 rfl) rfl rfl ?_
        obtain ⟨r14, e15, h⟩ := ok_b h
        refine VcallV (as := []) C (dAt D_X3_takeAct 33 rfl) (m_X3_step hL htx hrt e15) yv_X3_102 (Or.inl ⟨(kt_112 hL), by decide⟩) rfl rfl (Nat.le_of_ble_eq_true rfl) (by decide) (by decide) (by decide) (by decide) (Kvoid ?_)
        refine Vgoto (tgt := 85) C (dAt D_X3_takeAct 34 rfl) (by decide) ?_
        exact Vsub [0, 1] rfl (w_X3_takeAct_85 hL htx hrt C k1 h)
    · have h := ok_t c6 h
      refine Vaload_n C 0 (dAt D_X3_takeAct 16 rfl) rfl rfl ?_
      refine Vaload_n C 1 (dAt D_X3_takeAct 17 rfl) rfl rfl ?_
      obtain ⟨r7, e8, h⟩ := ok_b h
      refine VcallV (as := [_]) C (dAt D_X3_takeAct 18 rfl) (m_X3_takePrice hL htx hrt k1 e8) yv_X3_165 (Or.inl ⟨(kt_112 hL), by decide⟩) rfl rfl (Nat.le_of_ble_eq_true rfl) (by decide) (by decide) (by decide) (by decide) (Kint ?_)
      obtain ⟨c9, h⟩ := ok_ck h
      cases h
      exact Vzret C (dAt D_X3_takeAct 19 rfl) (nz01 c9) (by decide) (by decide) ⟨rfl, rfl, rfl⟩
  · have h := ok_t c4 h
    refine Viconst (x := 0) C (dAt D_X3_takeAct 10 rfl) (by decide) ?_
    cases h
    exact Vzret C (dAt D_X3_takeAct 11 rfl) rfl (by decide) (by decide) ⟨rfl, rfl, rfl⟩
def B_X3_takeRule_95 (f : Nat) (tx : Nat) (a1 : Nat) (u : MT) : Option (Int32 × MT) :=
  let u23 := sI u a1 2 (gI u tx 4)
  (F_X3_takeAct f tx a1 u23).bind fun r24 =>
  if r24.1 = 0 then
    some ((0 : Int32), r24.2)
  else
    (F_X3_take f tx 6 r24.2).bind fun r27 =>
    if r27.1 = 0 then
      some ((0 : Int32), r27.2)
    else
      let u30 := sI r27.2 tx 1 ((gI r27.2 tx 1) + (1 : Int32))
      some ((1 : Int32), u30)
theorem w_X3_takeRule_95 {z : ZT} {g : GT} {w : LT} (hL : Lay w) {tx : Nat} (htx : isTx w tx) (hrt : lt_p w 112 7 = tx) (C : Cx z g cX3_takeRule 2 RX3 (some .boolean) 32 0 0) {f : Nat} {r : (Int32 × MT)} {a1 : Nat} {u : MT} (k1 : lt_t w a1 = 5) (h : B_X3_takeRule_95 f tx a1 u = some r) : V z g 2 95 [(0, .ref 112), (1, .ref a1)] [] w u 0 0 (Qi r.1 w r.2) := by
  rw [B_X3_takeRule_95] at h
  refine Vaload_n C 1 (dAt D_X3_takeRule 48 rfl) rfl rfl ?_
  refine Vaload_n C 0 (dAt D_X3_takeRule 49 rfl) rfl rfl ?_
  refine VgetP C (dAt D_X3_takeRule 50 rfl) gf_X3_43 (kt_112 hL) rfl hrt ?_
  refine VgetI C (dAt D_X3_takeRule 51 rfl) gf_X3_50 (htx).1 rfl ?_
  refine VputI C (dAt D_X3_takeRule 52 rfl) gf_X3_146 k1 rfl rfl rfl rfl ?_
  refine Vaload_n C 0 (dAt D_X3_takeRule 53 rfl) rfl rfl ?_
  refine Vaload_n C 1 (dAt D_X3_takeRule 54 rfl) rfl rfl ?_
  obtain ⟨r24, e25, h⟩ := ok_b h
  refine VcallV (as := [_]) C (dAt D_X3_takeRule 55 rfl) (m_X3_takeAct hL htx hrt k1 e25) yv_X3_149 (Or.inl ⟨(kt_112 hL), by decide⟩) rfl rfl (Nat.le_of_ble_eq_true rfl) (by decide) (by decide) (by decide) (by decide) (Kint ?_)
  refine Vif_eq (tgt := 124) C (dAt D_X3_takeRule 56 rfl) (by decide) (fun c26 => ?_) (fun c26 => ?_)
  · have h := ok_t c26 h
    refine Viconst (x := 0) C (dAt D_X3_takeRule 61 rfl) (by decide) ?_
    cases h
    exact Vzret C (dAt D_X3_takeRule 62 rfl) rfl (by decide) (by decide) ⟨rfl, rfl, rfl⟩
  · have h := ok_f c26 h
    refine Vaload_n C 0 (dAt D_X3_takeRule 57 rfl) rfl rfl ?_
    refine Vtok (i := 5) (x := 6) C (dAt D_X3_takeRule 58 rfl) gs_X3_125 (by decide) rfl rfl ?_
    obtain ⟨r27, e28, h⟩ := ok_b h
    refine VcallV (as := [_]) C (dAt D_X3_takeRule 59 rfl) (m_X3_take hL htx hrt e28) yv_X3_105 (Or.inl ⟨(kt_112 hL), by decide⟩) rfl rfl (Nat.le_of_ble_eq_true rfl) (by decide) (by decide) (by decide) (by decide) (Kint ?_)
    refine Vif_ne (tgt := 126) C (dAt D_X3_takeRule 60 rfl) (by decide) (fun c29 => ?_) (fun c29 => ?_)
    · have h := ok_f c29 h
      refine Vaload_n C 0 (dAt D_X3_takeRule 63 rfl) rfl rfl ?_
      refine VgetP C (dAt D_X3_takeRule 64 rfl) gf_X3_43 (kt_112 hL) rfl hrt ?_
      refine Vdup C (dAt D_X3_takeRule 65 rfl) rfl ?_
      refine VgetI C (dAt D_X3_takeRule 66 rfl) gf_X3_47 (htx).1 rfl ?_
      refine Viconst (x := 1) C (dAt D_X3_takeRule 67 rfl) (by decide) ?_
      refine Viadd C (dAt D_X3_takeRule 68 rfl) ?_
      refine VputI C (dAt D_X3_takeRule 69 rfl) gf_X3_47 (htx).1 rfl rfl rfl rfl ?_
      refine Viconst (x := 1) C (dAt D_X3_takeRule 70 rfl) (by decide) ?_
      cases h
      exact Vzret C (dAt D_X3_takeRule 71 rfl) rfl (by decide) (by decide) ⟨rfl, rfl, rfl⟩
    · have h := ok_t c29 h
      refine Viconst (x := 0) C (dAt D_X3_takeRule 61 rfl) (by decide) ?_
      cases h
      exact Vzret C (dAt D_X3_takeRule 62 rfl) rfl (by decide) (by decide) ⟨rfl, rfl, rfl⟩
def F_X3_takeRule (f : Nat) (tx : Nat) (u : MT) : Option (Int32 × MT) :=
  ck (ixo (gI u 112 4) 1201) <|
  ck (1 ≤ (gK u 113 ((gI u 112 4)).toNatClampNeg) ∧ (gK u 113 ((gI u 112 4)).toNatClampNeg) ≤ 34) <|
  (F_X9_beginsRule f (gK u 113 ((gI u 112 4)).toNatClampNeg) u).bind fun r3 =>
  if r3.1 = 0 then
    (F_X3_refuse f tx (1 : Int32) r3.2).bind fun r6 =>
    ck (r6.1 = 0 ∨ r6.1 = 1) <|
    some (r6.1, r6.2)
  else
    if (gI r3.2 tx 1) < (24 : Int32) then
      ck (ixo (gI r3.2 tx 1) 24) <|
      let u11 := sI r3.2 (tx + 3 + ((gI r3.2 tx 1)).toNatClampNeg) 1 (gI r3.2 tx 4)
      ck (ixo (gI u11 112 4) 1201) <|
      ck ((gK u11 113 ((gI u11 112 4)).toNatClampNeg) ≤ 34) <|
      if (gK u11 113 ((gI u11 112 4)).toNatClampNeg) = 16 then
        (F_X3_step f tx u11).bind fun r15 =>
        (RE f tx 8 (0 : Int32) r15).bind fun r17 =>
        if r17.1 = 0 then
          some ((0 : Int32), r17.2)
        else
          B_X3_takeRule_95 f tx (tx + 3 + ((gI r3.2 tx 1)).toNatClampNeg) r17.2
      else
        B_X3_takeRule_95 f tx (tx + 3 + ((gI r3.2 tx 1)).toNatClampNeg) u11
    else
      (F_X3_refuse f tx (5 : Int32) r3.2).bind fun r20 =>
      ck (r20.1 = 0 ∨ r20.1 = 1) <|
      some (r20.1, r20.2)
theorem m_X3_takeRule {g : GT} {w : LT} (hL : Lay w) {tx : Nat} {f : Nat} {u : MT} {r : (Int32 × MT)} (htx : isTx w tx) (hrt : lt_p w 112 7 = tx) (h : F_X3_takeRule f tx u = some r) : Mt g yX3_takeRule cX3_takeRule 2 (some .boolean) 32 0 0 [.ref 112] w u (Qi r.1 w r.2) := by
  refine Mt_of (own := RX3) (by decide +kernel) rfl (Nat.le_of_ble_eq_true rfl) (fun z C _ => ?_)
  show V z g 2 0 [(0, .ref 112)] [] w u 0 0 (Qi r.1 w r.2)
  rw [F_X3_takeRule] at h
  refine Vaload_n C 0 (dAt D_X3_takeRule 0 rfl) rfl rfl ?_
  refine VgetP C (dAt D_X3_takeRule 1 rfl) gf_X3_11 (kt_112 hL) rfl (kp_112_0 hL) ?_
  refine Vaload_n C 0 (dAt D_X3_takeRule 2 rfl) rfl rfl ?_
  refine VgetI C (dAt D_X3_takeRule 3 rfl) gf_X3_34 (kt_112 hL) rfl ?_
  obtain ⟨c1, h⟩ := ok_ck h
  refine VaaldK C (dAt D_X3_takeRule 4 rfl) (kt_113 hL) (kl_113 hL) (vp_in_iff.mpr c1) ?_
  obtain ⟨c2, h⟩ := ok_ck h
  obtain ⟨r3, e4, h⟩ := ok_b h
  refine VcallV (as := []) C (dAt D_X3_takeRule 5 rfl) (m_X9_beginsRule hL c2.1 c2.2 e4) yv_X3_128 (Or.inr ⟨rfl, c2.1, c2.2⟩) rfl rfl (Nat.le_of_ble_eq_true rfl) (by decide) (by decide) (by decide) (by decide) (Kint ?_)
  refine Vif_ne (tgt := 21) C (dAt D_X3_takeRule 6 rfl) (by decide) (fun c5 => ?_) (fun c5 => ?_)
  · have h := ok_f c5 h
    refine Vaload_n C 0 (dAt D_X3_takeRule 11 rfl) rfl rfl ?_
    refine VgetP C (dAt D_X3_takeRule 12 rfl) gf_X3_43 (kt_112 hL) rfl hrt ?_
    refine VgetI C (dAt D_X3_takeRule 13 rfl) gf_X3_47 (htx).1 rfl ?_
    refine Vbipush (x := 24) C (dAt D_X3_takeRule 14 rfl) (by decide) ?_
    refine Vicmp_lt (tgt := 39) C (dAt D_X3_takeRule 15 rfl) (by decide) (fun c9 => ?_) (fun c9 => ?_)
    · have h := ok_t c9 h
      refine Vaload_n C 0 (dAt D_X3_takeRule 20 rfl) rfl rfl ?_
      refine VgetP C (dAt D_X3_takeRule 21 rfl) gf_X3_43 (kt_112 hL) rfl hrt ?_
      refine VgetP C (dAt D_X3_takeRule 22 rfl) gf_X3_131 (htx).1 rfl (htx).2.1 ?_
      refine Vaload_n C 0 (dAt D_X3_takeRule 23 rfl) rfl rfl ?_
      refine VgetP C (dAt D_X3_takeRule 24 rfl) gf_X3_43 (kt_112 hL) rfl hrt ?_
      refine VgetI C (dAt D_X3_takeRule 25 rfl) gf_X3_47 (htx).1 rfl ?_
      obtain ⟨c10, h⟩ := ok_ck h
      refine VaaldP C (dAt D_X3_takeRule 26 rfl) (Or.inl rfl) (htx).2.2.1 (htx).2.2.2.1 (vp_in_iff.mpr c10) ((htx).2.2.2.2.2.2.2 _ (ix_lt c10)).1 ?_
      refine Vastore_n (lv' := [(1, _), (0, _)]) C (dAt D_X3_takeRule 27 rfl) rfl (by decide) rfl ?_
      refine Vaload_n C 0 (dAt D_X3_takeRule 28 rfl) rfl rfl ?_
      refine Vaload_n C 1 (dAt D_X3_takeRule 29 rfl) rfl rfl ?_
      refine VgetP C (dAt D_X3_takeRule 30 rfl) gf_X3_43 (kt_112 hL) rfl hrt ?_
      refine VgetI C (dAt D_X3_takeRule 31 rfl) gf_X3_50 (htx).1 rfl ?_
      refine VputI C (dAt D_X3_takeRule 32 rfl) gf_X3_135 ((htx).2.2.2.2.2.2.2 _ (ix_lt c10)).2 rfl rfl rfl rfl ?_
      refine Vaload_n C 1 (dAt D_X3_takeRule 33 rfl) rfl rfl ?_
      refine VgetP C (dAt D_X3_takeRule 34 rfl) gf_X3_11 (kt_112 hL) rfl (kp_112_0 hL) ?_
      refine Vaload_n C 1 (dAt D_X3_takeRule 35 rfl) rfl rfl ?_
      refine VgetI C (dAt D_X3_takeRule 36 rfl) gf_X3_34 (kt_112 hL) rfl ?_
      obtain ⟨c12, h⟩ := ok_ck h
      refine VaaldK C (dAt D_X3_takeRule 37 rfl) (kt_113 hL) (kl_113 hL) (vp_in_iff.mpr c12) ?_
      refine Vtok (i := 15) (x := 16) C (dAt D_X3_takeRule 38 rfl) gs_X3_140 (by decide) rfl rfl ?_
      obtain ⟨c13, h⟩ := ok_ck h
      refine Vacmp_ne (tgt := 95) C (dAt D_X3_takeRule 39 rfl) (by decide) c13 (by decide) (fun c14 => ?_) (fun c14 => ?_)
      · have h := ok_f c14 h
        exact Vsub [1, 0] rfl (w_X3_takeRule_95 hL htx hrt C (((htx).2.2.2.2.2.2.2 _ (ix_lt c10)).2) h)
      · have h := ok_t c14 h
        refine Vaload_n C 1 (dAt D_X3_takeRule 40 rfl) rfl rfl ?_
        obtain ⟨r15, e16, h⟩ := ok_b h
        refine VcallV (as := []) C (dAt D_X3_takeRule 41 rfl) (m_X3_step hL htx hrt e16) yv_X3_102 (Or.inl ⟨(kt_112 hL), by decide⟩) rfl rfl (Nat.le_of_ble_eq_true rfl) (by decide) (by decide) (by decide) (by decide) (Kvoid ?_)
        refine Vaload_n C 1 (dAt D_X3_takeRule 42 rfl) rfl rfl ?_
        refine Viconst (x := 0) C (dAt D_X3_takeRule 43 rfl) (by decide) ?_
        obtain ⟨r17, e18, h⟩ := ok_b h
        refine VcallV (as := [_]) C (dAt D_X3_takeRule 44 rfl) (m_RE hL htx hrt 8 _ _ _ e18) yv_X3_143 (Or.inl ⟨(kt_112 hL), by decide⟩) rfl rfl (Nat.le_of_ble_eq_true rfl) (by decide) (by decide) (by decide) (by decide) (Kint ?_)
        refine Vif_ne (tgt := 95) C (dAt D_X3_takeRule 45 rfl) (by decide) (fun c19 => ?_) (fun c19 => ?_)
        · have h := ok_f c19 h
          exact Vsub [1, 0] rfl (w_X3_takeRule_95 hL htx hrt C (((htx).2.2.2.2.2.2.2 _ (ix_lt c10)).2) h)
        · have h := ok_t c19 h
          refine Viconst (x := 0) C (dAt D_X3_takeRule 46 rfl) (by decide) ?_
          cases h
          exact Vzret C (dAt D_X3_takeRule 47 rfl) rfl (by decide) (by decide) ⟨rfl, rfl, rfl⟩
    · have h := ok_f c9 h
      refine Vaload_n C 0 (dAt D_X3_takeRule 16 rfl) rfl rfl ?_
      refine Viconst (x := 5) C (dAt D_X3_takeRule 17 rfl) (by decide) ?_
      obtain ⟨r20, e21, h⟩ := ok_b h
      refine VcallV (as := [_]) C (dAt D_X3_takeRule 18 rfl) (m_X3_refuse hL htx hrt e21) yv_X3_99 (Or.inl ⟨(kt_112 hL), by decide⟩) rfl rfl (Nat.le_of_ble_eq_true rfl) (by decide) (by decide) (by decide) (by decide) (Kint ?_)
      obtain ⟨c22, h⟩ := ok_ck h
      cases h
      exact Vzret C (dAt D_X3_takeRule 19 rfl) (nz01 c22) (by decide) (by decide) ⟨rfl, rfl, rfl⟩
  · have h := ok_t c5 h
    refine Vaload_n C 0 (dAt D_X3_takeRule 7 rfl) rfl rfl ?_
    refine Viconst (x := 1) C (dAt D_X3_takeRule 8 rfl) (by decide) ?_
    obtain ⟨r6, e7, h⟩ := ok_b h
    refine VcallV (as := [_]) C (dAt D_X3_takeRule 9 rfl) (m_X3_refuse hL htx hrt e7) yv_X3_99 (Or.inl ⟨(kt_112 hL), by decide⟩) rfl rfl (Nat.le_of_ble_eq_true rfl) (by decide) (by decide) (by decide) (by decide) (Kint ?_)
    obtain ⟨c8, h⟩ := ok_ck h
    cases h
    exact Vzret C (dAt D_X3_takeRule 10 rfl) (nz01 c8) (by decide) (by decide) ⟨rfl, rfl, rfl⟩
def B_X3_parse_101 (f : Nat) (tx : Nat) (u : MT) : Option (Int32 × MT) :=
  some ((gI u 112 5), u)
theorem w_X3_parse_101 {z : ZT} {g : GT} {w : LT} (hL : Lay w) {tx : Nat} (htx : isTx w tx) (hrt : lt_p w 112 7 = tx) (C : Cx z g cX3_parse 5 RX3 (some .int) 33 0 0) {f : Nat} {r : (Int32 × MT)} {u : MT} (h : B_X3_parse_101 f tx  u = some r) : V z g 5 101 [(0, .ref 112)] [] w u 0 0 (Qi r.1 w r.2) := by
  rw [B_X3_parse_101] at h
  refine Vaload_n C 0 (dAt D_X3_parse 52 rfl) rfl rfl ?_
  refine VgetI C (dAt D_X3_parse 53 rfl) gf_X3_37 (kt_112 hL) rfl ?_
  cases h
  exact Viret C (dAt D_X3_parse 54 rfl) (by decide) (by decide) ⟨rfl, rfl, rfl⟩
def B_X3_parse_89 (f : Nat) (tx : Nat) (u : MT) : Option (Int32 × MT) :=
  if (gI u 112 5) = 0 then
    (F_X3_takeRest f tx u).bind fun r18 =>
    B_X3_parse_101 f tx r18.2
  else
    B_X3_parse_101 f tx u
theorem w_X3_parse_89 {z : ZT} {g : GT} {w : LT} (hL : Lay w) {tx : Nat} (htx : isTx w tx) (hrt : lt_p w 112 7 = tx) (C : Cx z g cX3_parse 5 RX3 (some .int) 33 0 0) {f : Nat} {r : (Int32 × MT)} {u : MT} (h : B_X3_parse_89 f tx  u = some r) : V z g 5 89 [(0, .ref 112)] [] w u 0 0 (Qi r.1 w r.2) := by
  rw [B_X3_parse_89] at h
  refine Vaload_n C 0 (dAt D_X3_parse 46 rfl) rfl rfl ?_
  refine VgetI C (dAt D_X3_parse 47 rfl) gf_X3_37 (kt_112 hL) rfl ?_
  refine Vif_ne (tgt := 101) C (dAt D_X3_parse 48 rfl) (by decide) (fun c17 => ?_) (fun c17 => ?_)
  · have h := ok_f c17 h
    exact Vsub [0] rfl (w_X3_parse_101 hL htx hrt C  h)
  · have h := ok_t c17 h
    refine Vaload_n C 0 (dAt D_X3_parse 49 rfl) rfl rfl ?_
    obtain ⟨r18, e19, h⟩ := ok_b h
    refine VcallV (as := []) C (dAt D_X3_parse 50 rfl) (m_X3_takeRest hL htx hrt e19) yv_X3_61 (Or.inl ⟨(kt_112 hL), by decide⟩) rfl rfl (Nat.le_of_ble_eq_true rfl) (by decide) (by decide) (by decide) (by decide) (Kint ?_)
    refine Vpop C (dAt D_X3_parse 51 rfl) rfl ?_
    exact Vsub [0] rfl (w_X3_parse_101 hL htx hrt C  h)
def B_X3_parse_49 (f : Nat) (tx : Nat) : Nat → Int32 → MT → Option (Int32 × MT)
  | 0, _, _ => none
  | n + 1, x4, u =>
    if (24 : Int32) < x4 then
      B_X3_parse_89 f tx u
    else
      if (gI u 112 5) = 0 then
        ck (ixo (gI u 112 4) 1201) <|
        ck ((gK u 113 ((gI u 112 4)).toNatClampNeg) ≤ 34) <|
        if (gK u 113 ((gI u 112 4)).toNatClampNeg) = 20 then
          B_X3_parse_89 f tx u
        else
          (F_X3_takeRule f tx u).bind fun r14 =>
          let v16 := x4 + 1
          B_X3_parse_49 f tx n v16 r14.2
      else
        B_X3_parse_89 f tx u
theorem w_X3_parse_49 {z : ZT} {g : GT} {w : LT} (hL : Lay w) {tx : Nat} (htx : isTx w tx) (hrt : lt_p w 112 7 = tx) (C : Cx z g cX3_parse 5 RX3 (some .int) 33 0 0) {f : Nat} {r : (Int32 × MT)} : ∀ (n : Nat) (x4 : Int32) (u : MT), B_X3_parse_49 f tx n x4 u = some r → V z g 5 49 [(0, .ref 112), (4, .int x4)] [] w u 0 0 (Qi r.1 w r.2) := by
  intro n
  induction n with
  | zero =>
    intro x4 u h
    rw [B_X3_parse_49] at h
    cases h
  | succ n ih =>
    intro x4 u h
    rw [B_X3_parse_49] at h
    refine Viload C 1 (dAt D_X3_parse 28 rfl) rfl ?_
    refine Vbipush (x := 24) C (dAt D_X3_parse 29 rfl) (by decide) ?_
    refine Vicmp_gt (tgt := 89) C (dAt D_X3_parse 30 rfl) (by decide) (fun c9 => ?_) (fun c9 => ?_)
    · have h := ok_t c9 h
      exact Vsub [0] rfl (w_X3_parse_89 hL htx hrt C  h)
    · have h := ok_f c9 h
      refine Vaload_n C 0 (dAt D_X3_parse 31 rfl) rfl rfl ?_
      refine VgetI C (dAt D_X3_parse 32 rfl) gf_X3_37 (kt_112 hL) rfl ?_
      refine Vif_ne (tgt := 89) C (dAt D_X3_parse 33 rfl) (by decide) (fun c10 => ?_) (fun c10 => ?_)
      · have h := ok_f c10 h
        exact Vsub [0] rfl (w_X3_parse_89 hL htx hrt C  h)
      · have h := ok_t c10 h
        refine Vaload_n C 0 (dAt D_X3_parse 34 rfl) rfl rfl ?_
        refine VgetP C (dAt D_X3_parse 35 rfl) gf_X3_11 (kt_112 hL) rfl (kp_112_0 hL) ?_
        refine Vaload_n C 0 (dAt D_X3_parse 36 rfl) rfl rfl ?_
        refine VgetI C (dAt D_X3_parse 37 rfl) gf_X3_34 (kt_112 hL) rfl ?_
        obtain ⟨c11, h⟩ := ok_ck h
        refine VaaldK C (dAt D_X3_parse 38 rfl) (kt_113 hL) (kl_113 hL) (vp_in_iff.mpr c11) ?_
        refine Vtok (i := 19) (x := 20) C (dAt D_X3_parse 39 rfl) gs_X3_53 (by decide) rfl rfl ?_
        obtain ⟨c12, h⟩ := ok_ck h
        refine Vacmp_eq (tgt := 89) C (dAt D_X3_parse 40 rfl) (by decide) c12 (by decide) (fun c13 => ?_) (fun c13 => ?_)
        · have h := ok_t c13 h
          exact Vsub [0] rfl (w_X3_parse_89 hL htx hrt C  h)
        · have h := ok_f c13 h
          refine Vaload_n C 0 (dAt D_X3_parse 41 rfl) rfl rfl ?_
          obtain ⟨r14, e15, h⟩ := ok_b h
          refine VcallV (as := []) C (dAt D_X3_parse 42 rfl) (m_X3_takeRule hL htx hrt e15) yv_X3_57 (Or.inl ⟨(kt_112 hL), by decide⟩) rfl rfl (Nat.le_of_ble_eq_true rfl) (by decide) (by decide) (by decide) (by decide) (Kint ?_)
          refine Vpop C (dAt D_X3_parse 43 rfl) rfl ?_
          refine Viinc (j := 1) (v := _ + 1) (lv' := [(4, _), (0, _)]) C (dAt D_X3_parse 44 rfl) rfl rfl (by decide) rfl ?_
          refine Vgoto (tgt := 49) C (dAt D_X3_parse 45 rfl) (by decide) ?_
          exact Vsub [1, 0] rfl (ih _ _  h)
def F_X3_parse (f : Nat) (x2 : Int32) (a3 : Nat) (u : MT) : Option (Int32 × MT) :=
  (F_X3_scan f u).bind fun r1 =>
  let u3 := sI r1 110 1 (0 : Int32)
  let u4 := sI u3 112 4 (0 : Int32)
  let u5 := sI u4 112 5 (0 : Int32)
  let u6 := sI u5 112 6 x2
  let tx := a3
  let u7 := sI u6 tx 1 (0 : Int32)
  let u8 := sI u7 tx 4 (0 : Int32)
  B_X3_parse_49 f tx f (0 : Int32) u8
theorem m_X3_parse {g : GT} {w : LT} (hL : Lay w) {x2 : Int32} {a3 : Nat} {f : Nat} {u : MT} {r : (Int32 × MT)} (k3 : isTx w a3) (h : F_X3_parse f x2 a3 u = some r) : Mt g yX3_parse cX3_parse 5 (some .int) 33 0 0 [.ref 112, .ref 110, .int x2, .ref a3] w u (Qi r.1 (sP w 112 7 a3) r.2) := by
  refine Mt_of (own := RX3) (by decide +kernel) rfl (Nat.le_of_ble_eq_true rfl) (fun z C _ => ?_)
  show V z g 5 0 [(0, .ref 112), (1, .ref 110), (2, .int x2), (3, .ref a3)] [] w u 0 0 (Qi r.1 (sP w 112 7 a3) r.2)
  rw [F_X3_parse] at h
  refine Vaload_n C 0 (dAt D_X3_parse 0 rfl) rfl rfl ?_
  refine Vaload_n C 1 (dAt D_X3_parse 1 rfl) rfl rfl ?_
  obtain ⟨r1, e2, h⟩ := ok_b h
  refine VcallV (as := [_]) C (dAt D_X3_parse 2 rfl) (m_X3_scan hL e2) yv_X3_24 (Or.inl ⟨(kt_112 hL), by decide⟩) rfl rfl (Nat.le_of_ble_eq_true rfl) (by decide) (by decide) (by decide) (by decide) (Kvoid ?_)
  refine Vaload_n C 1 (dAt D_X3_parse 3 rfl) rfl rfl ?_
  refine Viconst (x := 0) C (dAt D_X3_parse 4 rfl) (by decide) ?_
  refine VputI C (dAt D_X3_parse 5 rfl) gf_X3_28 (kt_110 hL) rfl rfl rfl rfl ?_
  refine Vaload_n C 0 (dAt D_X3_parse 6 rfl) rfl rfl ?_
  refine Viconst (x := 0) C (dAt D_X3_parse 7 rfl) (by decide) ?_
  refine VputI C (dAt D_X3_parse 8 rfl) gf_X3_34 (kt_112 hL) rfl rfl rfl rfl ?_
  refine Vaload_n C 0 (dAt D_X3_parse 9 rfl) rfl rfl ?_
  refine Viconst (x := 0) C (dAt D_X3_parse 10 rfl) (by decide) ?_
  refine VputI C (dAt D_X3_parse 11 rfl) gf_X3_37 (kt_112 hL) rfl rfl rfl rfl ?_
  refine Vaload_n C 0 (dAt D_X3_parse 12 rfl) rfl rfl ?_
  refine Viload_n C 2 (dAt D_X3_parse 13 rfl) rfl rfl ?_
  refine VputI C (dAt D_X3_parse 14 rfl) gf_X3_40 (kt_112 hL) rfl rfl rfl rfl ?_
  refine Vaload_n C 0 (dAt D_X3_parse 15 rfl) rfl rfl ?_
  refine Vaload_n C 3 (dAt D_X3_parse 16 rfl) rfl rfl ?_
  refine VputP C (dAt D_X3_parse 17 rfl) gf_X3_43 (kt_112 hL) rfl rfl rfl ?_
  have htx := isTx_rt hL k3 a3
  have hrt : lt_p (sP w 112 7 a3) 112 7 = a3 := sP_e
  have hL := Lay_rt hL a3
  refine Vaload_n C 0 (dAt D_X3_parse 18 rfl) rfl rfl ?_
  refine VgetP C (dAt D_X3_parse 19 rfl) gf_X3_43 (kt_112 hL) rfl hrt ?_
  refine Viconst (x := 0) C (dAt D_X3_parse 20 rfl) (by decide) ?_
  refine VputI C (dAt D_X3_parse 21 rfl) gf_X3_47 (htx).1 rfl rfl rfl rfl ?_
  refine Vaload_n C 0 (dAt D_X3_parse 22 rfl) rfl rfl ?_
  refine VgetP C (dAt D_X3_parse 23 rfl) gf_X3_43 (kt_112 hL) rfl hrt ?_
  refine Viconst (x := 0) C (dAt D_X3_parse 24 rfl) (by decide) ?_
  refine VputI C (dAt D_X3_parse 25 rfl) gf_X3_50 (htx).1 rfl rfl rfl rfl ?_
  refine Viconst (x := 0) C (dAt D_X3_parse 26 rfl) (by decide) ?_
  refine Vistore (lv' := [(4, _), (0, _), (1, _), (2, _), (3, _)]) C (dAt D_X3_parse 27 rfl) (by decide) rfl ?_
  exact Vsub [1, 0] rfl (w_X3_parse_49 hL htx hrt C  f _ _  h)
def F_X8_add (f : Nat) (ts : Nat) (a1 : Nat) (x2 : Int32) (x3 : Int32) (u : MT) : Option MT :=
  let u1 := sI u a1 5 x2
  let u2 := sI u1 a1 6 x3
  ck (ixo (gI u2 ts 1) 6) <|
  let u4 := sI u2 ts 1 ((gI u2 ts 1) + (1 : Int32))
  some u4
theorem m_X8_add {g : GT} {w : LT} (hL : Lay w) {ts : Nat} {a1 : Nat} {x2 : Int32} {x3 : Int32} {f : Nat} {u : MT} {r : MT} (hts : isTs w ts) (k1 : isTx w a1) (h : F_X8_add f ts a1 x2 x3 u = some r) : Mt g yX8_add cX8_add 4 none 0 0 0 [.ref ts, .ref a1, .int x2, .int x3] w u (Qv (sP w (ts + 1) (gI (sI (sI u a1 5 x2) a1 6 x3) ts 1).toNatClampNeg a1) r) := by
  refine Mt_of (own := RX8) (by decide +kernel) rfl (Nat.le_of_ble_eq_true rfl) (fun z C _ => ?_)
  show V z g 4 0 [(0, .ref ts), (1, .ref a1), (2, .int x2), (3, .int x3)] [] w u 0 0 (Qv (sP w (ts + 1) (gI (sI (sI u a1 5 x2) a1 6 x3) ts 1).toNatClampNeg a1) r)
  rw [F_X8_add] at h
  refine Vaload_n C 1 (dAt D_X8_add 0 rfl) rfl rfl ?_
  refine Viload_n C 2 (dAt D_X8_add 1 rfl) rfl rfl ?_
  refine VputI C (dAt D_X8_add 2 rfl) gf_X8_21 (k1).1 rfl rfl rfl rfl ?_
  refine Vaload_n C 1 (dAt D_X8_add 3 rfl) rfl rfl ?_
  refine Viload_n C 3 (dAt D_X8_add 4 rfl) rfl rfl ?_
  refine VputI C (dAt D_X8_add 5 rfl) gf_X8_24 (k1).1 rfl rfl rfl rfl ?_
  refine Vaload_n C 0 (dAt D_X8_add 6 rfl) rfl rfl ?_
  refine VgetP C (dAt D_X8_add 7 rfl) gf_X8_11 (hts).1 rfl (hts).2.1 ?_
  refine Vaload_n C 0 (dAt D_X8_add 8 rfl) rfl rfl ?_
  refine VgetI C (dAt D_X8_add 9 rfl) gf_X8_17 (hts).1 rfl ?_
  refine Vaload_n C 1 (dAt D_X8_add 10 rfl) rfl rfl ?_
  obtain ⟨c3, h⟩ := ok_ck h
  refine VaastP (t := 26) (tb := 7) C (dAt D_X8_add 11 rfl) (Or.inr ⟨rfl, rfl⟩) (hts).2.2.1 (hts).2.2.2 (k1).1 (vp_in_iff.mpr c3) ?_
  refine Vaload_n C 0 (dAt D_X8_add 12 rfl) rfl rfl ?_
  refine Vdup C (dAt D_X8_add 13 rfl) rfl ?_
  refine VgetI C (dAt D_X8_add 14 rfl) gf_X8_17 (hts).1 rfl ?_
  refine Viconst (x := 1) C (dAt D_X8_add 15 rfl) (by decide) ?_
  refine Viadd C (dAt D_X8_add 16 rfl) ?_
  refine VputI C (dAt D_X8_add 17 rfl) gf_X8_17 (hts).1 rfl rfl rfl rfl ?_
  cases h
  exact Vvret C (dAt D_X8_add 18 rfl) (by decide) (by decide) ⟨rfl, rfl, rfl⟩
def F_X8_putOnly (w : LT) (f : Nat) (ts : Nat) (a1 : Nat) (u : MT) : Option (Nat × MT) :=
  let u1 := sI u ts 1 (0 : Int32)
  (F_X8_add f ts a1 (0 : Int32) (0 : Int32) u1).bind fun r2 =>
  some ((lt_p w (ts + 1) ((0 : Int32)).toNatClampNeg), r2)
theorem m_X8_putOnly {g : GT} {w : LT} (hL : Lay w) {ts : Nat} {a1 : Nat} {f : Nat} {u : MT} {r : (Nat × MT)} (hts : isTs w ts) (k1 : isTx w a1) (h : F_X8_putOnly w f ts a1 u = some r) : Mt g yX8_putOnly cX8_putOnly 3 (some (.object "SunVillage$Text")) 1 0 0 [.ref ts, .ref a1] w u (Qr r.1 (sP w (ts + 1) (gI (sI (sI (sI u ts 1 0) a1 5 0) a1 6 0) ts 1).toNatClampNeg a1) r.2) := by
  refine Mt_of (own := RX8) (by decide +kernel) rfl (Nat.le_of_ble_eq_true rfl) (fun z C _ => ?_)
  show V z g 3 0 [(0, .ref ts), (1, .ref a1)] [] w u 0 0 (Qr r.1 (sP w (ts + 1) (gI (sI (sI (sI u ts 1 0) a1 5 0) a1 6 0) ts 1).toNatClampNeg a1) r.2)
  rw [F_X8_putOnly] at h
  refine Vaload_n C 0 (dAt D_X8_putOnly 0 rfl) rfl rfl ?_
  refine VgetP C (dAt D_X8_putOnly 1 rfl) gf_X8_11 (hts).1 rfl (hts).2.1 ?_
  refine Viconst (x := 0) C (dAt D_X8_putOnly 2 rfl) (by decide) ?_
  refine VaaldP C (dAt D_X8_putOnly 3 rfl) (Or.inr rfl) (hts).2.2.1 (hts).2.2.2 (vp_in_iff.mpr (by decide)) rfl ?_
  refine Vastore_n (lv' := [(2, _), (0, _), (1, _)]) C (dAt D_X8_putOnly 4 rfl) rfl (by decide) rfl ?_
  refine Vaload_n C 1 (dAt D_X8_putOnly 5 rfl) rfl rfl ?_
  refine Viconst (x := 0) C (dAt D_X8_putOnly 6 rfl) (by decide) ?_
  refine VputI C (dAt D_X8_putOnly 7 rfl) gf_X8_17 (hts).1 rfl rfl rfl rfl ?_
  refine Vaload_n C 1 (dAt D_X8_putOnly 8 rfl) rfl rfl ?_
  refine Vaload_n C 2 (dAt D_X8_putOnly 9 rfl) rfl rfl ?_
  refine Viconst (x := 0) C (dAt D_X8_putOnly 10 rfl) (by decide) ?_
  refine Viconst (x := 0) C (dAt D_X8_putOnly 11 rfl) (by decide) ?_
  obtain ⟨r2, e3, h⟩ := ok_b h
  refine VcallV (as := [_, _, _]) C (dAt D_X8_putOnly 12 rfl) (m_X8_add hL hts k1 e3) yv_X8_27 (Or.inl ⟨(hts).1, by decide⟩) rfl rfl (Nat.le_of_ble_eq_true rfl) (by decide) (by decide) (by decide) (by decide) (Kvoid ?_)
  refine Vaload_n C 0 (dAt D_X8_putOnly 13 rfl) rfl rfl ?_
  cases h
  exact Varet C (dAt D_X8_putOnly 14 rfl) (by decide) (by decide) ⟨rfl, rfl, rfl⟩
