def F_X12_thrown (f : Nat) (u : MT) : Option (Int32 × MT) :=
  some ((gI u 167 0), u)
theorem m_X12_thrown {g : GT} {w : LT} (hL : Lay w) {f : Nat} {u : MT} {r : (Int32 × MT)} (h : F_X12_thrown f  u = some r) : Mt g yX12_thrown cX12_thrown 1 (some .int) 0 0 0 [.ref 167] w u (Qi r.1 w r.2) := by
  refine Mt_of (own := RX12) (by decide +kernel) rfl (Nat.le_of_ble_eq_true rfl) (fun z C _ => ?_)
  show V z g 1 0 [(0, .ref 167)] [] w u 0 0 (Qi r.1 w r.2)
  rw [F_X12_thrown] at h
  refine Vaload_n C 0 (dAt D_X12_thrown 0 rfl) rfl rfl ?_
  refine VgetI C (dAt D_X12_thrown 1 rfl) gf_X12_1 (kt_167 hL) rfl ?_
  cases h
  exact Viret C (dAt D_X12_thrown 2 rfl) (by decide) (by decide) ⟨rfl, rfl, rfl⟩
def B_X12_lay_69 (f : Nat) (j3 : Int64 → Int32 → MT → Option MT) (x1 : Int64) (x3 : Int32) (u : MT) : Option MT :=
  let v10 := x3 + (-8)
  j3 x1 v10 u
theorem w_X12_lay_69 {z : ZT} {g : GT} {w : LT} (hL : Lay w) (C : Cx z g cX12_lay 5 RX12 none 0 0 0) {f : Nat} {r : MT} {j3 : Int64 → Int32 → MT → Option MT} (q3 : ∀ (x1 : Int64) (x3 : Int32) (u : MT), j3 x1 x3 u = some r → V z g 5 3 [(0, .ref 167), (1, .long x1), (3, .int x3)] [] w u 0 0 (Qv w r)) {x1 : Int64} {x3 : Int32} {u : MT} (h : B_X12_lay_69 f j3 x1 x3 u = some r) : V z g 5 69 [(0, .ref 167), (1, .long x1), (3, .int x3)] [] w u 0 0 (Qv w r) := by
  rw [B_X12_lay_69] at h
  refine Viinc (j := 2) (v := _ + (-8)) (lv' := [(3, _), (0, _), (1, _)]) C (dAt D_X12_lay 36 rfl) rfl rfl (by decide) rfl ?_
  refine Vgoto (tgt := 3) C (dAt D_X12_lay 37 rfl) (by decide) ?_
  exact Vsub [1, 2, 0] rfl (q3 _ _ _  h)
def B_X12_lay_38 (f : Nat) (j3 : Int64 → Int32 → MT → Option MT) (x1 : Int64) (x3 : Int32) (x4 : Int32) (u : MT) : Option MT :=
  if (1200 : Int32) ≤ (gI u 167 2) then
    B_X12_lay_69 f j3 x1 x3 u
  else
    ck (ixo (gI u 167 2) 1200) <|
    let u8 := sI u 168 ((gI u 167 2)).toNatClampNeg x4
    let u9 := sI u8 167 2 ((gI u8 167 2) + (1 : Int32))
    B_X12_lay_69 f j3 x1 x3 u9
theorem w_X12_lay_38 {z : ZT} {g : GT} {w : LT} (hL : Lay w) (C : Cx z g cX12_lay 5 RX12 none 0 0 0) {f : Nat} {r : MT} {j3 : Int64 → Int32 → MT → Option MT} (q3 : ∀ (x1 : Int64) (x3 : Int32) (u : MT), j3 x1 x3 u = some r → V z g 5 3 [(0, .ref 167), (1, .long x1), (3, .int x3)] [] w u 0 0 (Qv w r)) {x1 : Int64} {x3 : Int32} {x4 : Int32} {u : MT} (h : B_X12_lay_38 f j3 x1 x3 x4 u = some r) : V z g 5 38 [(0, .ref 167), (1, .long x1), (3, .int x3), (4, .int x4)] [] w u 0 0 (Qv w r) := by
  rw [B_X12_lay_38] at h
  refine Vaload_n C 0 (dAt D_X12_lay 20 rfl) rfl rfl ?_
  refine VgetI C (dAt D_X12_lay 21 rfl) gf_X12_11 (kt_167 hL) rfl ?_
  refine Vsipush (x := 1200) C (dAt D_X12_lay 22 rfl) (by decide) ?_
  refine Vicmp_ge (tgt := 69) C (dAt D_X12_lay 23 rfl) (by decide) (fun c6 => ?_) (fun c6 => ?_)
  · have h := ok_t c6 h
    exact Vsub [0, 1, 2] rfl (w_X12_lay_69 hL C q3  h)
  · have h := ok_f c6 h
    refine Vaload_n C 0 (dAt D_X12_lay 24 rfl) rfl rfl ?_
    refine VgetP C (dAt D_X12_lay 25 rfl) gf_X12_14 (kt_167 hL) rfl (kp_167_1 hL) ?_
    refine Vaload_n C 0 (dAt D_X12_lay 26 rfl) rfl rfl ?_
    refine VgetI C (dAt D_X12_lay 27 rfl) gf_X12_11 (kt_167 hL) rfl ?_
    refine Viload C 3 (dAt D_X12_lay 28 rfl) rfl ?_
    obtain ⟨c7, h⟩ := ok_ck h
    refine Viast C (dAt D_X12_lay 29 rfl) (kt_168 hL) (kl_168 hL) (vp_in_iff.mpr c7) ?_
    refine Vaload_n C 0 (dAt D_X12_lay 30 rfl) rfl rfl ?_
    refine Vdup C (dAt D_X12_lay 31 rfl) rfl ?_
    refine VgetI C (dAt D_X12_lay 32 rfl) gf_X12_11 (kt_167 hL) rfl ?_
    refine Viconst (x := 1) C (dAt D_X12_lay 33 rfl) (by decide) ?_
    refine Viadd C (dAt D_X12_lay 34 rfl) ?_
    refine VputI C (dAt D_X12_lay 35 rfl) gf_X12_11 (kt_167 hL) rfl rfl rfl rfl ?_
    exact Vsub [0, 1, 2] rfl (w_X12_lay_69 hL C q3  h)
def B_X12_lay_3 (f : Nat) : Nat → Int64 → Int32 → MT → Option MT
  | 0, _, _, _ => none
  | n + 1, x1, x3, u =>
    if x3 < 0 then
      some u
    else
      let v2 := (((x1 >>> (x3.toInt64 &&& 63))).toInt32 &&& (255 : Int32))
      if v2 = (10 : Int32) then
        B_X12_lay_38 f (fun x1' x3' u' => B_X12_lay_3 f n x1' x3' u') x1 x3 v2 u
      else
        if v2 < (32 : Int32) then
          B_X12_lay_69 f (fun x1' x3' u' => B_X12_lay_3 f n x1' x3' u') x1 x3 u
        else
          if (126 : Int32) < v2 then
            B_X12_lay_69 f (fun x1' x3' u' => B_X12_lay_3 f n x1' x3' u') x1 x3 u
          else
            B_X12_lay_38 f (fun x1' x3' u' => B_X12_lay_3 f n x1' x3' u') x1 x3 v2 u
theorem w_X12_lay_3 {z : ZT} {g : GT} {w : LT} (hL : Lay w) (C : Cx z g cX12_lay 5 RX12 none 0 0 0) {f : Nat} {r : MT} : ∀ (n : Nat) (x1 : Int64) (x3 : Int32) (u : MT), B_X12_lay_3 f n x1 x3 u = some r → V z g 5 3 [(0, .ref 167), (1, .long x1), (3, .int x3)] [] w u 0 0 (Qv w r) := by
  intro n
  induction n with
  | zero =>
    intro x1 x3 u h
    rw [B_X12_lay_3] at h
    cases h
  | succ n ih =>
    intro x1 x3 u h
    rw [B_X12_lay_3] at h
    refine Viload_n C 2 (dAt D_X12_lay 2 rfl) rfl rfl ?_
    refine Vif_lt (tgt := 75) C (dAt D_X12_lay 3 rfl) (by decide) (fun c1 => ?_) (fun c1 => ?_)
    · have h := ok_t c1 h
      cases h
      exact Vvret C (dAt D_X12_lay 38 rfl) (by decide) (by decide) ⟨rfl, rfl, rfl⟩
    · have h := ok_f c1 h
      refine Vlload_n C 1 (dAt D_X12_lay 4 rfl) rfl rfl ?_
      refine Viload_n C 2 (dAt D_X12_lay 5 rfl) rfl rfl ?_
      refine Vlshr C (dAt D_X12_lay 6 rfl) ?_
      refine Vl2i C (dAt D_X12_lay 7 rfl) ?_
      refine Vsipush (x := 255) C (dAt D_X12_lay 8 rfl) (by decide) ?_
      refine Viand C (dAt D_X12_lay 9 rfl) ?_
      refine Vistore (lv' := [(4, _), (0, _), (1, _), (3, _)]) C (dAt D_X12_lay 10 rfl) (by decide) rfl ?_
      refine Viload C 0 (dAt D_X12_lay 11 rfl) rfl ?_
      refine Vbipush (x := 10) C (dAt D_X12_lay 12 rfl) (by decide) ?_
      refine Vicmp_eq (tgt := 38) C (dAt D_X12_lay 13 rfl) (by decide) (fun c3 => ?_) (fun c3 => ?_)
      · have h := ok_t c3 h
        exact Vsub [1, 2, 3, 0] rfl (w_X12_lay_38 hL C ih  h)
      · have h := ok_f c3 h
        refine Viload C 0 (dAt D_X12_lay 14 rfl) rfl ?_
        refine Vbipush (x := 32) C (dAt D_X12_lay 15 rfl) (by decide) ?_
        refine Vicmp_lt (tgt := 69) C (dAt D_X12_lay 16 rfl) (by decide) (fun c4 => ?_) (fun c4 => ?_)
        · have h := ok_t c4 h
          exact Vsub [1, 2, 3] rfl (w_X12_lay_69 hL C ih  h)
        · have h := ok_f c4 h
          refine Viload C 0 (dAt D_X12_lay 17 rfl) rfl ?_
          refine Vbipush (x := 126) C (dAt D_X12_lay 18 rfl) (by decide) ?_
          refine Vicmp_gt (tgt := 69) C (dAt D_X12_lay 19 rfl) (by decide) (fun c5 => ?_) (fun c5 => ?_)
          · have h := ok_t c5 h
            exact Vsub [1, 2, 3] rfl (w_X12_lay_69 hL C ih  h)
          · have h := ok_f c5 h
            exact Vsub [1, 2, 3, 0] rfl (w_X12_lay_38 hL C ih  h)
def F_X12_lay (f : Nat) (x1 : Int64) (u : MT) : Option MT :=
  B_X12_lay_3 f f x1 (56 : Int32) u
theorem m_X12_lay {g : GT} {w : LT} (hL : Lay w) {x1 : Int64} {f : Nat} {u : MT} {r : MT} (h : F_X12_lay f x1 u = some r) : Mt g yX12_lay cX12_lay 5 none 0 0 0 [.ref 167, .long x1] w u (Qv w r) := by
  refine Mt_of (own := RX12) (by decide +kernel) rfl (Nat.le_of_ble_eq_true rfl) (fun z C _ => ?_)
  show V z g 5 0 [(0, .ref 167), (1, .long x1)] [] w u 0 0 (Qv w r)
  rw [F_X12_lay] at h
  refine Vbipush (x := 56) C (dAt D_X12_lay 0 rfl) (by decide) ?_
  refine Vistore_n (lv' := [(3, _), (0, _), (1, _)]) C (dAt D_X12_lay 1 rfl) rfl (by decide) rfl ?_
  exact Vsub [1, 2, 0] rfl (w_X12_lay_3 hL C  f _ _ _  h)
def F_X12_feed (f : Nat) (x1 : Int64) (x3 : Int64) (x5 : Int64) (u : MT) : Option (Int32 × MT) :=
  let u1 := sI u 167 0 (0 : Int32)
  (F_X12_lay f x1 u1).bind fun r2 =>
  (F_X12_lay f x3 r2).bind fun r4 =>
  (F_X12_lay f x5 r4).bind fun r6 =>
  some ((gI r6 167 2), r6)
theorem m_X12_feed {g : GT} {w : LT} (hL : Lay w) {x1 : Int64} {x3 : Int64} {x5 : Int64} {f : Nat} {u : MT} {r : (Int32 × MT)} (h : F_X12_feed f x1 x3 x5 u = some r) : Mt g yX12_feed cX12_feed 7 (some .int) 1 0 0 [.ref 167, .long x1, .long x3, .long x5] w u (Qi r.1 w r.2) := by
  refine Mt_of (own := RX12) (by decide +kernel) rfl (Nat.le_of_ble_eq_true rfl) (fun z C _ => ?_)
  show V z g 7 0 [(0, .ref 167), (1, .long x1), (3, .long x3), (5, .long x5)] [] w u 0 0 (Qi r.1 w r.2)
  rw [F_X12_feed] at h
  refine Vaload_n C 0 (dAt D_X12_feed 0 rfl) rfl rfl ?_
  refine Viconst (x := 0) C (dAt D_X12_feed 1 rfl) (by decide) ?_
  refine VputI C (dAt D_X12_feed 2 rfl) gf_X12_1 (kt_167 hL) rfl rfl rfl rfl ?_
  refine Vaload_n C 0 (dAt D_X12_feed 3 rfl) rfl rfl ?_
  refine Vlload_n C 1 (dAt D_X12_feed 4 rfl) rfl rfl ?_
  obtain ⟨r2, e3, h⟩ := ok_b h
  refine VcallV (as := [_]) C (dAt D_X12_feed 5 rfl) (m_X12_lay hL e3) yv_X12_7 (Or.inl ⟨(kt_167 hL), by decide⟩) rfl rfl (Nat.le_of_ble_eq_true rfl) (by decide) (by decide) (by decide) (by decide) (Kvoid ?_)
  refine Vaload_n C 0 (dAt D_X12_feed 6 rfl) rfl rfl ?_
  refine Vlload_n C 2 (dAt D_X12_feed 7 rfl) rfl rfl ?_
  obtain ⟨r4, e5, h⟩ := ok_b h
  refine VcallV (as := [_]) C (dAt D_X12_feed 8 rfl) (m_X12_lay hL e5) yv_X12_7 (Or.inl ⟨(kt_167 hL), by decide⟩) rfl rfl (Nat.le_of_ble_eq_true rfl) (by decide) (by decide) (by decide) (by decide) (Kvoid ?_)
  refine Vaload_n C 0 (dAt D_X12_feed 9 rfl) rfl rfl ?_
  refine Vlload C 3 (dAt D_X12_feed 10 rfl) rfl ?_
  obtain ⟨r6, e7, h⟩ := ok_b h
  refine VcallV (as := [_]) C (dAt D_X12_feed 11 rfl) (m_X12_lay hL e7) yv_X12_7 (Or.inl ⟨(kt_167 hL), by decide⟩) rfl rfl (Nat.le_of_ble_eq_true rfl) (by decide) (by decide) (by decide) (by decide) (Kvoid ?_)
  refine Vaload_n C 0 (dAt D_X12_feed 12 rfl) rfl rfl ?_
  refine VgetI C (dAt D_X12_feed 13 rfl) gf_X12_11 (kt_167 hL) rfl ?_
  cases h
  exact Viret C (dAt D_X12_feed 14 rfl) (by decide) (by decide) ⟨rfl, rfl, rfl⟩
def F_X12_isLetter (f : Nat) (x0 : Int32) (u : MT) : Option (Int32 × MT) :=
  if x0 < (97 : Int32) then
    some ((0 : Int32), u)
  else
    if (122 : Int32) < x0 then
      some ((0 : Int32), u)
    else
      some ((1 : Int32), u)
theorem m_X12_isLetter {g : GT} {w : LT} (hL : Lay w) {x0 : Int32} {f : Nat} {u : MT} {r : (Int32 × MT)} (h : F_X12_isLetter f x0 u = some r) : Mt g yX12_isLetter cX12_isLetter 1 (some .boolean) 0 0 0 [.int x0] w u (Qi r.1 w r.2) := by
  refine Mt_of (own := RX12) (by decide +kernel) rfl (Nat.le_of_ble_eq_true rfl) (fun z C _ => ?_)
  show V z g 1 0 [(0, .int x0)] [] w u 0 0 (Qi r.1 w r.2)
  rw [F_X12_isLetter] at h
  refine Viload_n C 0 (dAt D_X12_isLetter 0 rfl) rfl rfl ?_
  refine Vbipush (x := 97) C (dAt D_X12_isLetter 1 rfl) (by decide) ?_
  refine Vicmp_lt (tgt := 16) C (dAt D_X12_isLetter 2 rfl) (by decide) (fun c1 => ?_) (fun c1 => ?_)
  · have h := ok_t c1 h
    refine Viconst (x := 0) C (dAt D_X12_isLetter 8 rfl) (by decide) ?_
    cases h
    exact Vzret C (dAt D_X12_isLetter 9 rfl) rfl (by decide) (by decide) ⟨rfl, rfl, rfl⟩
  · have h := ok_f c1 h
    refine Viload_n C 0 (dAt D_X12_isLetter 3 rfl) rfl rfl ?_
    refine Vbipush (x := 122) C (dAt D_X12_isLetter 4 rfl) (by decide) ?_
    refine Vicmp_gt (tgt := 16) C (dAt D_X12_isLetter 5 rfl) (by decide) (fun c2 => ?_) (fun c2 => ?_)
    · have h := ok_t c2 h
      refine Viconst (x := 0) C (dAt D_X12_isLetter 8 rfl) (by decide) ?_
      cases h
      exact Vzret C (dAt D_X12_isLetter 9 rfl) rfl (by decide) (by decide) ⟨rfl, rfl, rfl⟩
    · have h := ok_f c2 h
      refine Viconst (x := 1) C (dAt D_X12_isLetter 6 rfl) (by decide) ?_
      refine Vgoto (tgt := 17) C (dAt D_X12_isLetter 7 rfl) (by decide) ?_
      cases h
      exact Vzret C (dAt D_X12_isLetter 9 rfl) rfl (by decide) (by decide) ⟨rfl, rfl, rfl⟩
def F_X12_isDigit (f : Nat) (x0 : Int32) (u : MT) : Option (Int32 × MT) :=
  if x0 < (48 : Int32) then
    some ((0 : Int32), u)
  else
    if (57 : Int32) < x0 then
      some ((0 : Int32), u)
    else
      some ((1 : Int32), u)
theorem m_X12_isDigit {g : GT} {w : LT} (hL : Lay w) {x0 : Int32} {f : Nat} {u : MT} {r : (Int32 × MT)} (h : F_X12_isDigit f x0 u = some r) : Mt g yX12_isDigit cX12_isDigit 1 (some .boolean) 0 0 0 [.int x0] w u (Qi r.1 w r.2) := by
  refine Mt_of (own := RX12) (by decide +kernel) rfl (Nat.le_of_ble_eq_true rfl) (fun z C _ => ?_)
  show V z g 1 0 [(0, .int x0)] [] w u 0 0 (Qi r.1 w r.2)
  rw [F_X12_isDigit] at h
  refine Viload_n C 0 (dAt D_X12_isDigit 0 rfl) rfl rfl ?_
  refine Vbipush (x := 48) C (dAt D_X12_isDigit 1 rfl) (by decide) ?_
  refine Vicmp_lt (tgt := 16) C (dAt D_X12_isDigit 2 rfl) (by decide) (fun c1 => ?_) (fun c1 => ?_)
  · have h := ok_t c1 h
    refine Viconst (x := 0) C (dAt D_X12_isDigit 8 rfl) (by decide) ?_
    cases h
    exact Vzret C (dAt D_X12_isDigit 9 rfl) rfl (by decide) (by decide) ⟨rfl, rfl, rfl⟩
  · have h := ok_f c1 h
    refine Viload_n C 0 (dAt D_X12_isDigit 3 rfl) rfl rfl ?_
    refine Vbipush (x := 57) C (dAt D_X12_isDigit 4 rfl) (by decide) ?_
    refine Vicmp_gt (tgt := 16) C (dAt D_X12_isDigit 5 rfl) (by decide) (fun c2 => ?_) (fun c2 => ?_)
    · have h := ok_t c2 h
      refine Viconst (x := 0) C (dAt D_X12_isDigit 8 rfl) (by decide) ?_
      cases h
      exact Vzret C (dAt D_X12_isDigit 9 rfl) rfl (by decide) (by decide) ⟨rfl, rfl, rfl⟩
    · have h := ok_f c2 h
      refine Viconst (x := 1) C (dAt D_X12_isDigit 6 rfl) (by decide) ?_
      refine Vgoto (tgt := 17) C (dAt D_X12_isDigit 7 rfl) (by decide) ?_
      cases h
      exact Vzret C (dAt D_X12_isDigit 9 rfl) rfl (by decide) (by decide) ⟨rfl, rfl, rfl⟩
def F_X12_rank (f : Nat) (x0 : Int32) (u : MT) : Option (Int32 × MT) :=
  (F_X12_isLetter f x0 u).bind fun r1 =>
  if r1.1 = 0 then
    some ((x0 - (21 : Int32)), r1.2)
  else
    some ((x0 - (96 : Int32)), r1.2)
theorem m_X12_rank {g : GT} {w : LT} (hL : Lay w) {x0 : Int32} {f : Nat} {u : MT} {r : (Int32 × MT)} (h : F_X12_rank f x0 u = some r) : Mt g yX12_rank cX12_rank 1 (some .int) 1 0 0 [.int x0] w u (Qi r.1 w r.2) := by
  refine Mt_of (own := RX12) (by decide +kernel) rfl (Nat.le_of_ble_eq_true rfl) (fun z C _ => ?_)
  show V z g 1 0 [(0, .int x0)] [] w u 0 0 (Qi r.1 w r.2)
  rw [F_X12_rank] at h
  refine Viload_n C 0 (dAt D_X12_rank 0 rfl) rfl rfl ?_
  obtain ⟨r1, e2, h⟩ := ok_b h
  refine VcallS (as := [_]) C (dAt D_X12_rank 1 rfl) (m_X12_isLetter hL e2) yb_X12_225 ys_X12_225 rfl rfl (Nat.le_of_ble_eq_true rfl) (by decide) (by decide) (by decide) (by decide) (Kint ?_)
  refine Vif_eq (tgt := 14) C (dAt D_X12_rank 2 rfl) (by decide) (fun c3 => ?_) (fun c3 => ?_)
  · have h := ok_t c3 h
    refine Viload_n C 0 (dAt D_X12_rank 7 rfl) rfl rfl ?_
    refine Vbipush (x := 21) C (dAt D_X12_rank 8 rfl) (by decide) ?_
    refine Visub C (dAt D_X12_rank 9 rfl) ?_
    cases h
    exact Viret C (dAt D_X12_rank 10 rfl) (by decide) (by decide) ⟨rfl, rfl, rfl⟩
  · have h := ok_f c3 h
    refine Viload_n C 0 (dAt D_X12_rank 3 rfl) rfl rfl ?_
    refine Vbipush (x := 96) C (dAt D_X12_rank 4 rfl) (by decide) ?_
    refine Visub C (dAt D_X12_rank 5 rfl) ?_
    refine Vgoto (tgt := 18) C (dAt D_X12_rank 6 rfl) (by decide) ?_
    cases h
    exact Viret C (dAt D_X12_rank 10 rfl) (by decide) (by decide) ⟨rfl, rfl, rfl⟩
def B_X12_isSignOf_42 (f : Nat) (u : MT) : Option (Int32 × MT) :=
  some ((1 : Int32), u)
theorem w_X12_isSignOf_42 {z : ZT} {g : GT} {w : LT} (hL : Lay w) (C : Cx z g cX12_isSignOf 1 RX12 (some .boolean) 0 0 0) {f : Nat} {r : (Int32 × MT)} {u : MT} (h : B_X12_isSignOf_42 f  u = some r) : V z g 1 42 [] [] w u 0 0 (Qi r.1 w r.2) := by
  rw [B_X12_isSignOf_42] at h
  refine Viconst (x := 1) C (dAt D_X12_isSignOf 21 rfl) (by decide) ?_
  refine Vgoto (tgt := 47) C (dAt D_X12_isSignOf 22 rfl) (by decide) ?_
  cases h
  exact Vzret C (dAt D_X12_isSignOf 24 rfl) rfl (by decide) (by decide) ⟨rfl, rfl, rfl⟩
def F_X12_isSignOf (f : Nat) (x0 : Int32) (u : MT) : Option (Int32 × MT) :=
  if x0 = (40 : Int32) then
    B_X12_isSignOf_42 f u
  else
    if x0 = (41 : Int32) then
      B_X12_isSignOf_42 f u
    else
      if x0 = (59 : Int32) then
        B_X12_isSignOf_42 f u
      else
        if x0 = (61 : Int32) then
          B_X12_isSignOf_42 f u
        else
          if x0 = (60 : Int32) then
            B_X12_isSignOf_42 f u
          else
            if x0 = (43 : Int32) then
              B_X12_isSignOf_42 f u
            else
              if x0 = (45 : Int32) then
                B_X12_isSignOf_42 f u
              else
                some ((0 : Int32), u)
theorem m_X12_isSignOf {g : GT} {w : LT} (hL : Lay w) {x0 : Int32} {f : Nat} {u : MT} {r : (Int32 × MT)} (h : F_X12_isSignOf f x0 u = some r) : Mt g yX12_isSignOf cX12_isSignOf 1 (some .boolean) 0 0 0 [.int x0] w u (Qi r.1 w r.2) := by
  refine Mt_of (own := RX12) (by decide +kernel) rfl (Nat.le_of_ble_eq_true rfl) (fun z C _ => ?_)
  show V z g 1 0 [(0, .int x0)] [] w u 0 0 (Qi r.1 w r.2)
  rw [F_X12_isSignOf] at h
  refine Viload_n C 0 (dAt D_X12_isSignOf 0 rfl) rfl rfl ?_
  refine Vbipush (x := 40) C (dAt D_X12_isSignOf 1 rfl) (by decide) ?_
  refine Vicmp_eq (tgt := 42) C (dAt D_X12_isSignOf 2 rfl) (by decide) (fun c1 => ?_) (fun c1 => ?_)
  · have h := ok_t c1 h
    exact Vsub [] rfl (w_X12_isSignOf_42 hL C  h)
  · have h := ok_f c1 h
    refine Viload_n C 0 (dAt D_X12_isSignOf 3 rfl) rfl rfl ?_
    refine Vbipush (x := 41) C (dAt D_X12_isSignOf 4 rfl) (by decide) ?_
    refine Vicmp_eq (tgt := 42) C (dAt D_X12_isSignOf 5 rfl) (by decide) (fun c2 => ?_) (fun c2 => ?_)
    · have h := ok_t c2 h
      exact Vsub [] rfl (w_X12_isSignOf_42 hL C  h)
    · have h := ok_f c2 h
      refine Viload_n C 0 (dAt D_X12_isSignOf 6 rfl) rfl rfl ?_
      refine Vbipush (x := 59) C (dAt D_X12_isSignOf 7 rfl) (by decide) ?_
      refine Vicmp_eq (tgt := 42) C (dAt D_X12_isSignOf 8 rfl) (by decide) (fun c3 => ?_) (fun c3 => ?_)
      · have h := ok_t c3 h
        exact Vsub [] rfl (w_X12_isSignOf_42 hL C  h)
      · have h := ok_f c3 h
        refine Viload_n C 0 (dAt D_X12_isSignOf 9 rfl) rfl rfl ?_
        refine Vbipush (x := 61) C (dAt D_X12_isSignOf 10 rfl) (by decide) ?_
        refine Vicmp_eq (tgt := 42) C (dAt D_X12_isSignOf 11 rfl) (by decide) (fun c4 => ?_) (fun c4 => ?_)
        · have h := ok_t c4 h
          exact Vsub [] rfl (w_X12_isSignOf_42 hL C  h)
        · have h := ok_f c4 h
          refine Viload_n C 0 (dAt D_X12_isSignOf 12 rfl) rfl rfl ?_
          refine Vbipush (x := 60) C (dAt D_X12_isSignOf 13 rfl) (by decide) ?_
          refine Vicmp_eq (tgt := 42) C (dAt D_X12_isSignOf 14 rfl) (by decide) (fun c5 => ?_) (fun c5 => ?_)
          · have h := ok_t c5 h
            exact Vsub [] rfl (w_X12_isSignOf_42 hL C  h)
          · have h := ok_f c5 h
            refine Viload_n C 0 (dAt D_X12_isSignOf 15 rfl) rfl rfl ?_
            refine Vbipush (x := 43) C (dAt D_X12_isSignOf 16 rfl) (by decide) ?_
            refine Vicmp_eq (tgt := 42) C (dAt D_X12_isSignOf 17 rfl) (by decide) (fun c6 => ?_) (fun c6 => ?_)
            · have h := ok_t c6 h
              exact Vsub [] rfl (w_X12_isSignOf_42 hL C  h)
            · have h := ok_f c6 h
              refine Viload_n C 0 (dAt D_X12_isSignOf 18 rfl) rfl rfl ?_
              refine Vbipush (x := 45) C (dAt D_X12_isSignOf 19 rfl) (by decide) ?_
              refine Vicmp_ne (tgt := 46) C (dAt D_X12_isSignOf 20 rfl) (by decide) (fun c7 => ?_) (fun c7 => ?_)
              · have h := ok_f c7 h
                refine Viconst (x := 0) C (dAt D_X12_isSignOf 23 rfl) (by decide) ?_
                cases h
                exact Vzret C (dAt D_X12_isSignOf 24 rfl) rfl (by decide) (by decide) ⟨rfl, rfl, rfl⟩
              · have h := ok_t c7 h
                exact Vsub [] rfl (w_X12_isSignOf_42 hL C  h)
def B_X12_cutAll_267 (f : Nat) (j17 : Int32 → Int32 → MT → Option MT) (x1 : Int32) (x2 : Int32) (x5 : Int64) (u : MT) : Option MT :=
  ck (ixo x1 1202) <|
  let u44 := sL u 171 (x1).toNatClampNeg x5
  let v45 := x1 + 1
  j17 v45 x2 u44
theorem w_X12_cutAll_267 {z : ZT} {g : GT} {w : LT} (hL : Lay w) (C : Cx z g cX12_cutAll 7 RX12 none 2 0 0) {f : Nat} {r : MT} {j17 : Int32 → Int32 → MT → Option MT} (q17 : ∀ (x1 : Int32) (x2 : Int32) (u : MT), j17 x1 x2 u = some r → V z g 7 17 [(0, .ref 167), (1, .int x1), (2, .int x2)] [] w u 0 0 (Qv w r)) {x1 : Int32} {x2 : Int32} {x5 : Int64} {u : MT} (h : B_X12_cutAll_267 f j17 x1 x2 x5 u = some r) : V z g 7 267 [(0, .ref 167), (1, .int x1), (2, .int x2), (5, .long x5)] [] w u 0 0 (Qv w r) := by
  rw [B_X12_cutAll_267] at h
  refine Vaload_n C 0 (dAt D_X12_cutAll 144 rfl) rfl rfl ?_
  refine VgetP C (dAt D_X12_cutAll 145 rfl) gf_X12_30 (kt_167 hL) rfl (kp_167_6 hL) ?_
  refine Viload_n C 1 (dAt D_X12_cutAll 146 rfl) rfl rfl ?_
  refine Vlload C 3 (dAt D_X12_cutAll 147 rfl) rfl ?_
  obtain ⟨c43, h⟩ := ok_ck h
  refine Vlast C (dAt D_X12_cutAll 148 rfl) (kt_171 hL) (kl_171 hL) (vp_in_iff.mpr c43) ?_
  refine Viinc (j := 1) (v := _ + 1) (lv' := [(1, _), (0, _), (2, _), (5, _)]) C (dAt D_X12_cutAll 149 rfl) rfl rfl (by decide) rfl ?_
  refine Vgoto (tgt := 17) C (dAt D_X12_cutAll 150 rfl) (by decide) ?_
  exact Vsub [1, 0, 2] rfl (q17 _ _ _  h)
def B_X12_cutAll_238 (f : Nat) (j17 : Int32 → Int32 → MT → Option MT) (x1 : Int32) (x2 : Int32) (x5 : Int64) (s0 : Int32) (s1 : Int32) (u : MT) : Option MT :=
  ck (ixo s1 1202) <|
  let u51 := sI u 169 (s1).toNatClampNeg s0
  B_X12_cutAll_267 f j17 x1 x2 x5 u51
theorem w_X12_cutAll_238 {z : ZT} {g : GT} {w : LT} (hL : Lay w) (C : Cx z g cX12_cutAll 7 RX12 none 2 0 0) {f : Nat} {r : MT} {j17 : Int32 → Int32 → MT → Option MT} (q17 : ∀ (x1 : Int32) (x2 : Int32) (u : MT), j17 x1 x2 u = some r → V z g 7 17 [(0, .ref 167), (1, .int x1), (2, .int x2)] [] w u 0 0 (Qv w r)) {x1 : Int32} {x2 : Int32} {x5 : Int64} {s0 : Int32} {s1 : Int32} {u : MT} (h : B_X12_cutAll_238 f j17 x1 x2 x5 s0 s1 u = some r) : V z g 7 238 [(0, .ref 167), (1, .int x1), (2, .int x2), (5, .long x5)] [.int s0, .int s1, .ref 169] w u 0 0 (Qv w r) := by
  rw [B_X12_cutAll_238] at h
  obtain ⟨c50, h⟩ := ok_ck h
  refine Viast C (dAt D_X12_cutAll 128 rfl) (kt_169 hL) (kl_169 hL) (vp_in_iff.mpr c50) ?_
  refine Vgoto (tgt := 267) C (dAt D_X12_cutAll 129 rfl) (by decide) ?_
  exact Vsub [0, 1, 2, 3] rfl (w_X12_cutAll_267 hL C q17  h)
def B_X12_cutAll_219 (f : Nat) (j17 : Int32 → Int32 → MT → Option MT) (x1 : Int32) (x2 : Int32) (x4 : Int32) (x5 : Int64) (u : MT) : Option MT :=
  if (x2 - x4) ≤ (6 : Int32) then
    B_X12_cutAll_238 f j17 x1 x2 x5 (2 : Int32) x1 u
  else
    B_X12_cutAll_238 f j17 x1 x2 x5 (4 : Int32) x1 u
theorem w_X12_cutAll_219 {z : ZT} {g : GT} {w : LT} (hL : Lay w) (C : Cx z g cX12_cutAll 7 RX12 none 2 0 0) {f : Nat} {r : MT} {j17 : Int32 → Int32 → MT → Option MT} (q17 : ∀ (x1 : Int32) (x2 : Int32) (u : MT), j17 x1 x2 u = some r → V z g 7 17 [(0, .ref 167), (1, .int x1), (2, .int x2)] [] w u 0 0 (Qv w r)) {x1 : Int32} {x2 : Int32} {x4 : Int32} {x5 : Int64} {u : MT} (h : B_X12_cutAll_219 f j17 x1 x2 x4 x5 u = some r) : V z g 7 219 [(0, .ref 167), (1, .int x1), (2, .int x2), (4, .int x4), (5, .long x5)] [] w u 0 0 (Qv w r) := by
  rw [B_X12_cutAll_219] at h
  refine Vaload_n C 0 (dAt D_X12_cutAll 117 rfl) rfl rfl ?_
  refine VgetP C (dAt D_X12_cutAll 118 rfl) gf_X12_24 (kt_167 hL) rfl (kp_167_4 hL) ?_
  refine Viload_n C 1 (dAt D_X12_cutAll 119 rfl) rfl rfl ?_
  refine Viload_n C 2 (dAt D_X12_cutAll 120 rfl) rfl rfl ?_
  refine Viload C 3 (dAt D_X12_cutAll 121 rfl) rfl ?_
  refine Visub C (dAt D_X12_cutAll 122 rfl) ?_
  refine Vbipush (x := 6) C (dAt D_X12_cutAll 123 rfl) (by decide) ?_
  refine Vicmp_le (tgt := 237) C (dAt D_X12_cutAll 124 rfl) (by decide) (fun c46 => ?_) (fun c46 => ?_)
  · have h := ok_t c46 h
    refine Viconst (x := 2) C (dAt D_X12_cutAll 127 rfl) (by decide) ?_
    exact Vsub [0, 1, 2, 4] rfl (w_X12_cutAll_238 hL C q17  h)
  · have h := ok_f c46 h
    refine Viconst (x := 4) C (dAt D_X12_cutAll 125 rfl) (by decide) ?_
    refine Vgoto (tgt := 238) C (dAt D_X12_cutAll 126 rfl) (by decide) ?_
    exact Vsub [0, 1, 2, 4] rfl (w_X12_cutAll_238 hL C q17  h)
def B_X12_cutAll_211 (f : Nat) (j17 : Int32 → Int32 → MT → Option MT) (j159 : Int32 → Int32 → Int32 → Int64 → MT → Option MT) (x1 : Int32) (x2 : Int32) (x4 : Int32) (s0 : Int64) (u : MT) : Option MT :=
  let v47 := x2 + 1
  j159 x1 v47 x4 s0 u
theorem w_X12_cutAll_211 {z : ZT} {g : GT} {w : LT} (hL : Lay w) (C : Cx z g cX12_cutAll 7 RX12 none 2 0 0) {f : Nat} {r : MT} {j17 : Int32 → Int32 → MT → Option MT} {j159 : Int32 → Int32 → Int32 → Int64 → MT → Option MT} (q17 : ∀ (x1 : Int32) (x2 : Int32) (u : MT), j17 x1 x2 u = some r → V z g 7 17 [(0, .ref 167), (1, .int x1), (2, .int x2)] [] w u 0 0 (Qv w r)) (q159 : ∀ (x1 : Int32) (x2 : Int32) (x4 : Int32) (x5 : Int64) (u : MT), j159 x1 x2 x4 x5 u = some r → V z g 7 159 [(0, .ref 167), (1, .int x1), (2, .int x2), (4, .int x4), (5, .long x5)] [] w u 0 0 (Qv w r)) {x1 : Int32} {x2 : Int32} {x4 : Int32} {s0 : Int64} {u : MT} (h : B_X12_cutAll_211 f j17 j159 x1 x2 x4 s0 u = some r) : V z g 7 211 [(0, .ref 167), (1, .int x1), (2, .int x2), (4, .int x4)] [.long s0] w u 0 0 (Qv w r) := by
  rw [B_X12_cutAll_211] at h
  refine Vlstore (lv' := [(5, _), (0, _), (1, _), (2, _), (4, _)]) C (dAt D_X12_cutAll 114 rfl) (by decide) rfl ?_
  refine Viinc (j := 3) (v := _ + 1) (lv' := [(2, _), (5, _), (0, _), (1, _), (4, _)]) C (dAt D_X12_cutAll 115 rfl) rfl rfl (by decide) rfl ?_
  refine Vgoto (tgt := 159) C (dAt D_X12_cutAll 116 rfl) (by decide) ?_
  exact Vsub [2, 3, 0, 4, 1] rfl (q159 _ _ _ _ _  h)
def B_X12_cutAll_159 (f : Nat) (j17 : Int32 → Int32 → MT → Option MT) : Nat → Int32 → Int32 → Int32 → Int64 → MT → Option MT
  | 0, _, _, _, _, _ => none
  | n + 1, x1, x2, x4, x5, u =>
    if (gI u 167 3) ≤ x2 then
      B_X12_cutAll_219 f j17 x1 x2 x4 x5 u
    else
      ck (ixo x2 1200) <|
      (F_X12_isDigit f (gI u 168 (x2).toNatClampNeg) u).bind fun r31 =>
      if r31.1 = 0 then
        B_X12_cutAll_219 f j17 x1 x2 x4 x5 r31.2
      else
        if (6 : Int32) ≤ (x2 - x4) then
          B_X12_cutAll_211 f j17 (fun x1' x2' x4' x5' u' => B_X12_cutAll_159 f j17 n x1' x2' x4' x5' u') x1 x2 x4 x5 r31.2
        else
          B_X12_cutAll_211 f j17 (fun x1' x2' x4' x5' u' => B_X12_cutAll_159 f j17 n x1' x2' x4' x5' u') x1 x2 x4 ((((10 : Int64) * x5) + ((gI r31.2 168 (x2).toNatClampNeg)).toInt64) - (48 : Int64)) r31.2
theorem w_X12_cutAll_159 {z : ZT} {g : GT} {w : LT} (hL : Lay w) (C : Cx z g cX12_cutAll 7 RX12 none 2 0 0) {f : Nat} {r : MT} {j17 : Int32 → Int32 → MT → Option MT} (q17 : ∀ (x1 : Int32) (x2 : Int32) (u : MT), j17 x1 x2 u = some r → V z g 7 17 [(0, .ref 167), (1, .int x1), (2, .int x2)] [] w u 0 0 (Qv w r)) : ∀ (n : Nat) (x1 : Int32) (x2 : Int32) (x4 : Int32) (x5 : Int64) (u : MT), B_X12_cutAll_159 f j17 n x1 x2 x4 x5 u = some r → V z g 7 159 [(0, .ref 167), (1, .int x1), (2, .int x2), (4, .int x4), (5, .long x5)] [] w u 0 0 (Qv w r) := by
  intro n
  induction n with
  | zero =>
    intro x1 x2 x4 x5 u h
    rw [B_X12_cutAll_159] at h
    cases h
  | succ n ih =>
    intro x1 x2 x4 x5 u h
    rw [B_X12_cutAll_159] at h
    refine Viload_n C 2 (dAt D_X12_cutAll 86 rfl) rfl rfl ?_
    refine Vaload_n C 0 (dAt D_X12_cutAll 87 rfl) rfl rfl ?_
    refine VgetI C (dAt D_X12_cutAll 88 rfl) gf_X12_229 (kt_167 hL) rfl ?_
    refine Vicmp_ge (tgt := 219) C (dAt D_X12_cutAll 89 rfl) (by decide) (fun c29 => ?_) (fun c29 => ?_)
    · have h := ok_t c29 h
      exact Vsub [0, 1, 2, 3, 4] rfl (w_X12_cutAll_219 hL C q17  h)
    · have h := ok_f c29 h
      refine Vaload_n C 0 (dAt D_X12_cutAll 90 rfl) rfl rfl ?_
      refine VgetP C (dAt D_X12_cutAll 91 rfl) gf_X12_14 (kt_167 hL) rfl (kp_167_1 hL) ?_
      refine Viload_n C 2 (dAt D_X12_cutAll 92 rfl) rfl rfl ?_
      obtain ⟨c30, h⟩ := ok_ck h
      refine Viald C (dAt D_X12_cutAll 93 rfl) (kt_168 hL) (kl_168 hL) (vp_in_iff.mpr c30) ?_
      obtain ⟨r31, e32, h⟩ := ok_b h
      refine VcallS (as := [_]) C (dAt D_X12_cutAll 94 rfl) (m_X12_isDigit hL e32) yb_X12_238 ys_X12_238 rfl rfl (Nat.le_of_ble_eq_true rfl) (by decide) (by decide) (by decide) (by decide) (Kint ?_)
      refine Vif_eq (tgt := 219) C (dAt D_X12_cutAll 95 rfl) (by decide) (fun c33 => ?_) (fun c33 => ?_)
      · have h := ok_t c33 h
        exact Vsub [0, 1, 2, 3, 4] rfl (w_X12_cutAll_219 hL C q17  h)
      · have h := ok_f c33 h
        refine Viload_n C 2 (dAt D_X12_cutAll 96 rfl) rfl rfl ?_
        refine Viload C 3 (dAt D_X12_cutAll 97 rfl) rfl ?_
        refine Visub C (dAt D_X12_cutAll 98 rfl) ?_
        refine Vbipush (x := 6) C (dAt D_X12_cutAll 99 rfl) (by decide) ?_
        refine Vicmp_ge (tgt := 209) C (dAt D_X12_cutAll 100 rfl) (by decide) (fun c34 => ?_) (fun c34 => ?_)
        · have h := ok_t c34 h
          refine Vlload C 4 (dAt D_X12_cutAll 113 rfl) rfl ?_
          exact Vsub [0, 1, 2, 3] rfl (w_X12_cutAll_211 hL C q17 ih  h)
        · have h := ok_f c34 h
          refine Vldc2 C gl_X12_241 (dAt D_X12_cutAll 101 rfl) ?_
          refine Vlload C 4 (dAt D_X12_cutAll 102 rfl) rfl ?_
          refine Vlmul C (dAt D_X12_cutAll 103 rfl) ?_
          refine Vaload_n C 0 (dAt D_X12_cutAll 104 rfl) rfl rfl ?_
          refine VgetP C (dAt D_X12_cutAll 105 rfl) gf_X12_14 (kt_167 hL) rfl (kp_167_1 hL) ?_
          refine Viload_n C 2 (dAt D_X12_cutAll 106 rfl) rfl rfl ?_
          refine Viald C (dAt D_X12_cutAll 107 rfl) (kt_168 hL) (kl_168 hL) (vp_in_iff.mpr c30) ?_
          refine Vi2l C (dAt D_X12_cutAll 108 rfl) ?_
          refine Vladd C (dAt D_X12_cutAll 109 rfl) ?_
          refine Vldc2 C gl_X12_243 (dAt D_X12_cutAll 110 rfl) ?_
          refine Vlsub C (dAt D_X12_cutAll 111 rfl) ?_
          refine Vgoto (tgt := 211) C (dAt D_X12_cutAll 112 rfl) (by decide) ?_
          exact Vsub [0, 1, 2, 3] rfl (w_X12_cutAll_211 hL C q17 ih  h)
def B_X12_cutAll_44 (f : Nat) (j17 : Int32 → Int32 → MT → Option MT) (x1 : Int32) (x2 : Int32) (u : MT) : Option MT :=
  let v25 := x2 + 1
  j17 x1 v25 u
theorem w_X12_cutAll_44 {z : ZT} {g : GT} {w : LT} (hL : Lay w) (C : Cx z g cX12_cutAll 7 RX12 none 2 0 0) {f : Nat} {r : MT} {j17 : Int32 → Int32 → MT → Option MT} (q17 : ∀ (x1 : Int32) (x2 : Int32) (u : MT), j17 x1 x2 u = some r → V z g 7 17 [(0, .ref 167), (1, .int x1), (2, .int x2)] [] w u 0 0 (Qv w r)) {x1 : Int32} {x2 : Int32} {u : MT} (h : B_X12_cutAll_44 f j17 x1 x2 u = some r) : V z g 7 44 [(0, .ref 167), (1, .int x1), (2, .int x2)] [] w u 0 0 (Qv w r) := by
  rw [B_X12_cutAll_44] at h
  refine Viinc (j := 2) (v := _ + 1) (lv' := [(2, _), (0, _), (1, _)]) C (dAt D_X12_cutAll 26 rfl) rfl rfl (by decide) rfl ?_
  refine Vgoto (tgt := 17) C (dAt D_X12_cutAll 27 rfl) (by decide) ?_
  exact Vsub [1, 2, 0] rfl (q17 _ _ _  h)
def B_X12_cutAll_148 (f : Nat) (j17 : Int32 → Int32 → MT → Option MT) (x1 : Int32) (x2 : Int32) (x5 : Int64) (s0 : Int32) (s1 : Int32) (u : MT) : Option MT :=
  ck (ixo s1 1202) <|
  let u53 := sI u 169 (s1).toNatClampNeg s0
  B_X12_cutAll_267 f j17 x1 x2 x5 u53
theorem w_X12_cutAll_148 {z : ZT} {g : GT} {w : LT} (hL : Lay w) (C : Cx z g cX12_cutAll 7 RX12 none 2 0 0) {f : Nat} {r : MT} {j17 : Int32 → Int32 → MT → Option MT} (q17 : ∀ (x1 : Int32) (x2 : Int32) (u : MT), j17 x1 x2 u = some r → V z g 7 17 [(0, .ref 167), (1, .int x1), (2, .int x2)] [] w u 0 0 (Qv w r)) {x1 : Int32} {x2 : Int32} {x5 : Int64} {s0 : Int32} {s1 : Int32} {u : MT} (h : B_X12_cutAll_148 f j17 x1 x2 x5 s0 s1 u = some r) : V z g 7 148 [(0, .ref 167), (1, .int x1), (2, .int x2), (5, .long x5)] [.int s0, .int s1, .ref 169] w u 0 0 (Qv w r) := by
  rw [B_X12_cutAll_148] at h
  obtain ⟨c52, h⟩ := ok_ck h
  refine Viast C (dAt D_X12_cutAll 81 rfl) (kt_169 hL) (kl_169 hL) (vp_in_iff.mpr c52) ?_
  refine Vgoto (tgt := 267) C (dAt D_X12_cutAll 82 rfl) (by decide) ?_
  exact Vsub [0, 1, 2, 3] rfl (w_X12_cutAll_267 hL C q17  h)
def B_X12_cutAll_129 (f : Nat) (j17 : Int32 → Int32 → MT → Option MT) (x1 : Int32) (x2 : Int32) (x4 : Int32) (x5 : Int64) (u : MT) : Option MT :=
  if (x2 - x4) ≤ (8 : Int32) then
    B_X12_cutAll_148 f j17 x1 x2 x5 (1 : Int32) x1 u
  else
    B_X12_cutAll_148 f j17 x1 x2 x5 (4 : Int32) x1 u
theorem w_X12_cutAll_129 {z : ZT} {g : GT} {w : LT} (hL : Lay w) (C : Cx z g cX12_cutAll 7 RX12 none 2 0 0) {f : Nat} {r : MT} {j17 : Int32 → Int32 → MT → Option MT} (q17 : ∀ (x1 : Int32) (x2 : Int32) (u : MT), j17 x1 x2 u = some r → V z g 7 17 [(0, .ref 167), (1, .int x1), (2, .int x2)] [] w u 0 0 (Qv w r)) {x1 : Int32} {x2 : Int32} {x4 : Int32} {x5 : Int64} {u : MT} (h : B_X12_cutAll_129 f j17 x1 x2 x4 x5 u = some r) : V z g 7 129 [(0, .ref 167), (1, .int x1), (2, .int x2), (4, .int x4), (5, .long x5)] [] w u 0 0 (Qv w r) := by
  rw [B_X12_cutAll_129] at h
  refine Vaload_n C 0 (dAt D_X12_cutAll 70 rfl) rfl rfl ?_
  refine VgetP C (dAt D_X12_cutAll 71 rfl) gf_X12_24 (kt_167 hL) rfl (kp_167_4 hL) ?_
  refine Viload_n C 1 (dAt D_X12_cutAll 72 rfl) rfl rfl ?_
  refine Viload_n C 2 (dAt D_X12_cutAll 73 rfl) rfl rfl ?_
  refine Viload C 3 (dAt D_X12_cutAll 74 rfl) rfl ?_
  refine Visub C (dAt D_X12_cutAll 75 rfl) ?_
  refine Vbipush (x := 8) C (dAt D_X12_cutAll 76 rfl) (by decide) ?_
  refine Vicmp_le (tgt := 147) C (dAt D_X12_cutAll 77 rfl) (by decide) (fun c48 => ?_) (fun c48 => ?_)
  · have h := ok_t c48 h
    refine Viconst (x := 1) C (dAt D_X12_cutAll 80 rfl) (by decide) ?_
    exact Vsub [0, 1, 2, 4] rfl (w_X12_cutAll_148 hL C q17  h)
  · have h := ok_f c48 h
    refine Viconst (x := 4) C (dAt D_X12_cutAll 78 rfl) (by decide) ?_
    refine Vgoto (tgt := 148) C (dAt D_X12_cutAll 79 rfl) (by decide) ?_
    exact Vsub [0, 1, 2, 4] rfl (w_X12_cutAll_148 hL C q17  h)
def B_X12_cutAll_121 (f : Nat) (j17 : Int32 → Int32 → MT → Option MT) (j70 : Int32 → Int32 → Int32 → Int64 → MT → Option MT) (x1 : Int32) (x2 : Int32) (x4 : Int32) (s0 : Int64) (u : MT) : Option MT :=
  let v49 := x2 + 1
  j70 x1 v49 x4 s0 u
theorem w_X12_cutAll_121 {z : ZT} {g : GT} {w : LT} (hL : Lay w) (C : Cx z g cX12_cutAll 7 RX12 none 2 0 0) {f : Nat} {r : MT} {j17 : Int32 → Int32 → MT → Option MT} {j70 : Int32 → Int32 → Int32 → Int64 → MT → Option MT} (q17 : ∀ (x1 : Int32) (x2 : Int32) (u : MT), j17 x1 x2 u = some r → V z g 7 17 [(0, .ref 167), (1, .int x1), (2, .int x2)] [] w u 0 0 (Qv w r)) (q70 : ∀ (x1 : Int32) (x2 : Int32) (x4 : Int32) (x5 : Int64) (u : MT), j70 x1 x2 x4 x5 u = some r → V z g 7 70 [(0, .ref 167), (1, .int x1), (2, .int x2), (4, .int x4), (5, .long x5)] [] w u 0 0 (Qv w r)) {x1 : Int32} {x2 : Int32} {x4 : Int32} {s0 : Int64} {u : MT} (h : B_X12_cutAll_121 f j17 j70 x1 x2 x4 s0 u = some r) : V z g 7 121 [(0, .ref 167), (1, .int x1), (2, .int x2), (4, .int x4)] [.long s0] w u 0 0 (Qv w r) := by
  rw [B_X12_cutAll_121] at h
  refine Vlstore (lv' := [(5, _), (0, _), (1, _), (2, _), (4, _)]) C (dAt D_X12_cutAll 67 rfl) (by decide) rfl ?_
  refine Viinc (j := 3) (v := _ + 1) (lv' := [(2, _), (5, _), (0, _), (1, _), (4, _)]) C (dAt D_X12_cutAll 68 rfl) rfl rfl (by decide) rfl ?_
  refine Vgoto (tgt := 70) C (dAt D_X12_cutAll 69 rfl) (by decide) ?_
  exact Vsub [2, 3, 0, 4, 1] rfl (q70 _ _ _ _ _  h)
def B_X12_cutAll_70 (f : Nat) (j17 : Int32 → Int32 → MT → Option MT) : Nat → Int32 → Int32 → Int32 → Int64 → MT → Option MT
  | 0, _, _, _, _, _ => none
  | n + 1, x1, x2, x4, x5, u =>
    if (gI u 167 3) ≤ x2 then
      B_X12_cutAll_129 f j17 x1 x2 x4 x5 u
    else
      ck (ixo x2 1200) <|
      (F_X12_isLetter f (gI u 168 (x2).toNatClampNeg) u).bind fun r37 =>
      if r37.1 = 0 then
        B_X12_cutAll_129 f j17 x1 x2 x4 x5 r37.2
      else
        if (8 : Int32) ≤ (x2 - x4) then
          B_X12_cutAll_121 f j17 (fun x1' x2' x4' x5' u' => B_X12_cutAll_70 f j17 n x1' x2' x4' x5' u') x1 x2 x4 x5 r37.2
        else
          (F_X12_rank f (gI r37.2 168 (x2).toNatClampNeg) r37.2).bind fun r41 =>
          B_X12_cutAll_121 f j17 (fun x1' x2' x4' x5' u' => B_X12_cutAll_70 f j17 n x1' x2' x4' x5' u') x1 x2 x4 (((37 : Int64) * x5) + (r41.1).toInt64) r41.2
theorem w_X12_cutAll_70 {z : ZT} {g : GT} {w : LT} (hL : Lay w) (C : Cx z g cX12_cutAll 7 RX12 none 2 0 0) {f : Nat} {r : MT} {j17 : Int32 → Int32 → MT → Option MT} (q17 : ∀ (x1 : Int32) (x2 : Int32) (u : MT), j17 x1 x2 u = some r → V z g 7 17 [(0, .ref 167), (1, .int x1), (2, .int x2)] [] w u 0 0 (Qv w r)) : ∀ (n : Nat) (x1 : Int32) (x2 : Int32) (x4 : Int32) (x5 : Int64) (u : MT), B_X12_cutAll_70 f j17 n x1 x2 x4 x5 u = some r → V z g 7 70 [(0, .ref 167), (1, .int x1), (2, .int x2), (4, .int x4), (5, .long x5)] [] w u 0 0 (Qv w r) := by
  intro n
  induction n with
  | zero =>
    intro x1 x2 x4 x5 u h
    rw [B_X12_cutAll_70] at h
    cases h
  | succ n ih =>
    intro x1 x2 x4 x5 u h
    rw [B_X12_cutAll_70] at h
    refine Viload_n C 2 (dAt D_X12_cutAll 40 rfl) rfl rfl ?_
    refine Vaload_n C 0 (dAt D_X12_cutAll 41 rfl) rfl rfl ?_
    refine VgetI C (dAt D_X12_cutAll 42 rfl) gf_X12_229 (kt_167 hL) rfl ?_
    refine Vicmp_ge (tgt := 129) C (dAt D_X12_cutAll 43 rfl) (by decide) (fun c35 => ?_) (fun c35 => ?_)
    · have h := ok_t c35 h
      exact Vsub [0, 1, 2, 3, 4] rfl (w_X12_cutAll_129 hL C q17  h)
    · have h := ok_f c35 h
      refine Vaload_n C 0 (dAt D_X12_cutAll 44 rfl) rfl rfl ?_
      refine VgetP C (dAt D_X12_cutAll 45 rfl) gf_X12_14 (kt_167 hL) rfl (kp_167_1 hL) ?_
      refine Viload_n C 2 (dAt D_X12_cutAll 46 rfl) rfl rfl ?_
      obtain ⟨c36, h⟩ := ok_ck h
      refine Viald C (dAt D_X12_cutAll 47 rfl) (kt_168 hL) (kl_168 hL) (vp_in_iff.mpr c36) ?_
      obtain ⟨r37, e38, h⟩ := ok_b h
      refine VcallS (as := [_]) C (dAt D_X12_cutAll 48 rfl) (m_X12_isLetter hL e38) yb_X12_225 ys_X12_225 rfl rfl (Nat.le_of_ble_eq_true rfl) (by decide) (by decide) (by decide) (by decide) (Kint ?_)
      refine Vif_eq (tgt := 129) C (dAt D_X12_cutAll 49 rfl) (by decide) (fun c39 => ?_) (fun c39 => ?_)
      · have h := ok_t c39 h
        exact Vsub [0, 1, 2, 3, 4] rfl (w_X12_cutAll_129 hL C q17  h)
      · have h := ok_f c39 h
        refine Viload_n C 2 (dAt D_X12_cutAll 50 rfl) rfl rfl ?_
        refine Viload C 3 (dAt D_X12_cutAll 51 rfl) rfl ?_
        refine Visub C (dAt D_X12_cutAll 52 rfl) ?_
        refine Vbipush (x := 8) C (dAt D_X12_cutAll 53 rfl) (by decide) ?_
        refine Vicmp_ge (tgt := 119) C (dAt D_X12_cutAll 54 rfl) (by decide) (fun c40 => ?_) (fun c40 => ?_)
        · have h := ok_t c40 h
          refine Vlload C 4 (dAt D_X12_cutAll 66 rfl) rfl ?_
          exact Vsub [0, 1, 2, 3] rfl (w_X12_cutAll_121 hL C q17 ih  h)
        · have h := ok_f c40 h
          refine Vldc2 C gl_X12_232 (dAt D_X12_cutAll 55 rfl) ?_
          refine Vlload C 4 (dAt D_X12_cutAll 56 rfl) rfl ?_
          refine Vlmul C (dAt D_X12_cutAll 57 rfl) ?_
          refine Vaload_n C 0 (dAt D_X12_cutAll 58 rfl) rfl rfl ?_
          refine VgetP C (dAt D_X12_cutAll 59 rfl) gf_X12_14 (kt_167 hL) rfl (kp_167_1 hL) ?_
          refine Viload_n C 2 (dAt D_X12_cutAll 60 rfl) rfl rfl ?_
          refine Viald C (dAt D_X12_cutAll 61 rfl) (kt_168 hL) (kl_168 hL) (vp_in_iff.mpr c36) ?_
          obtain ⟨r41, e42, h⟩ := ok_b h
          refine VcallS (as := [_]) C (dAt D_X12_cutAll 62 rfl) (m_X12_rank hL e42) yb_X12_234 ys_X12_234 rfl rfl (Nat.le_of_ble_eq_true rfl) (by decide) (by decide) (by decide) (by decide) (Kint ?_)
          refine Vi2l C (dAt D_X12_cutAll 63 rfl) ?_
          refine Vladd C (dAt D_X12_cutAll 64 rfl) ?_
          refine Vgoto (tgt := 121) C (dAt D_X12_cutAll 65 rfl) (by decide) ?_
          exact Vsub [0, 1, 2, 3] rfl (w_X12_cutAll_121 hL C q17 ih  h)
def B_X12_cutAll_263 (f : Nat) (j17 : Int32 → Int32 → MT → Option MT) (x1 : Int32) (x2 : Int32) (x5 : Int64) (s0 : Int32) (s1 : Int32) (u : MT) : Option MT :=
  ck (ixo s1 1202) <|
  let u27 := sI u 169 (s1).toNatClampNeg s0
  let v28 := x2 + 1
  B_X12_cutAll_267 f j17 x1 v28 x5 u27
theorem w_X12_cutAll_263 {z : ZT} {g : GT} {w : LT} (hL : Lay w) (C : Cx z g cX12_cutAll 7 RX12 none 2 0 0) {f : Nat} {r : MT} {j17 : Int32 → Int32 → MT → Option MT} (q17 : ∀ (x1 : Int32) (x2 : Int32) (u : MT), j17 x1 x2 u = some r → V z g 7 17 [(0, .ref 167), (1, .int x1), (2, .int x2)] [] w u 0 0 (Qv w r)) {x1 : Int32} {x2 : Int32} {x5 : Int64} {s0 : Int32} {s1 : Int32} {u : MT} (h : B_X12_cutAll_263 f j17 x1 x2 x5 s0 s1 u = some r) : V z g 7 263 [(0, .ref 167), (1, .int x1), (2, .int x2), (5, .long x5)] [.int s0, .int s1, .ref 169] w u 0 0 (Qv w r) := by
  rw [B_X12_cutAll_263] at h
  obtain ⟨c26, h⟩ := ok_ck h
  refine Viast C (dAt D_X12_cutAll 142 rfl) (kt_169 hL) (kl_169 hL) (vp_in_iff.mpr c26) ?_
  refine Viinc (j := 2) (v := _ + 1) (lv' := [(2, _), (0, _), (1, _), (5, _)]) C (dAt D_X12_cutAll 143 rfl) rfl rfl (by decide) rfl ?_
  exact Vsub [1, 2, 0, 3] rfl (w_X12_cutAll_267 hL C q17  h)
def B_X12_cutAll_17 (f : Nat) : Nat → Int32 → Int32 → MT → Option MT
  | 0, _, _, _ => none
  | n + 1, x1, x2, u =>
    if (gI u 167 3) ≤ x2 then
      ck (ixo x1 1202) <|
      let u5 := sI u 169 (x1).toNatClampNeg (0 : Int32)
      let u6 := sI u5 170 (x1).toNatClampNeg (gI u5 167 3)
      let u7 := sI u6 167 7 (0 : Int32)
      let u8 := sI u7 167 8 (0 : Int32)
      some u8
    else
      ck (ixo x2 1200) <|
      let v10 := (gI u 168 (x2).toNatClampNeg)
      if v10 = (10 : Int32) then
        B_X12_cutAll_44 f (fun x1' x2' u' => B_X12_cutAll_17 f n x1' x2' u') x1 x2 u
      else
        if v10 = (32 : Int32) then
          B_X12_cutAll_44 f (fun x1' x2' u' => B_X12_cutAll_17 f n x1' x2' u') x1 x2 u
        else
          ck (ixo x1 1202) <|
          let u14 := sI u 170 (x1).toNatClampNeg x2
          (F_X12_isLetter f v10 u14).bind fun r15 =>
          if r15.1 = 0 then
            (F_X12_isDigit f v10 r15.2).bind fun r18 =>
            if r18.1 = 0 then
              let v21 := (v10).toInt64
              (F_X12_isSignOf f v10 r18.2).bind fun r22 =>
              if r22.1 = 0 then
                B_X12_cutAll_263 f (fun x1' x2' u' => B_X12_cutAll_17 f n x1' x2' u') x1 x2 v21 (4 : Int32) x1 r22.2
              else
                B_X12_cutAll_263 f (fun x1' x2' u' => B_X12_cutAll_17 f n x1' x2' u') x1 x2 v21 (3 : Int32) x1 r22.2
            else
              B_X12_cutAll_159 f (fun x1' x2' u' => B_X12_cutAll_17 f n x1' x2' u') f x1 x2 x2 (0 : Int64) r18.2
          else
            B_X12_cutAll_70 f (fun x1' x2' u' => B_X12_cutAll_17 f n x1' x2' u') f x1 x2 x2 (0 : Int64) r15.2
theorem w_X12_cutAll_17 {z : ZT} {g : GT} {w : LT} (hL : Lay w) (C : Cx z g cX12_cutAll 7 RX12 none 2 0 0) {f : Nat} {r : MT} : ∀ (n : Nat) (x1 : Int32) (x2 : Int32) (u : MT), B_X12_cutAll_17 f n x1 x2 u = some r → V z g 7 17 [(0, .ref 167), (1, .int x1), (2, .int x2)] [] w u 0 0 (Qv w r) := by
  intro n
  induction n with
  | zero =>
    intro x1 x2 u h
    rw [B_X12_cutAll_17] at h
    cases h
  | succ n ih =>
    intro x1 x2 u h
    rw [B_X12_cutAll_17] at h
    refine Viload_n C 2 (dAt D_X12_cutAll 11 rfl) rfl rfl ?_
    refine Vaload_n C 0 (dAt D_X12_cutAll 12 rfl) rfl rfl ?_
    refine VgetI C (dAt D_X12_cutAll 13 rfl) gf_X12_229 (kt_167 hL) rfl ?_
    refine Vicmp_ge (tgt := 281) C (dAt D_X12_cutAll 14 rfl) (by decide) (fun c3 => ?_) (fun c3 => ?_)
    · have h := ok_t c3 h
      refine Vaload_n C 0 (dAt D_X12_cutAll 151 rfl) rfl rfl ?_
      refine VgetP C (dAt D_X12_cutAll 152 rfl) gf_X12_24 (kt_167 hL) rfl (kp_167_4 hL) ?_
      refine Viload_n C 1 (dAt D_X12_cutAll 153 rfl) rfl rfl ?_
      refine Viconst (x := 0) C (dAt D_X12_cutAll 154 rfl) (by decide) ?_
      obtain ⟨c4, h⟩ := ok_ck h
      refine Viast C (dAt D_X12_cutAll 155 rfl) (kt_169 hL) (kl_169 hL) (vp_in_iff.mpr c4) ?_
      refine Vaload_n C 0 (dAt D_X12_cutAll 156 rfl) rfl rfl ?_
      refine VgetP C (dAt D_X12_cutAll 157 rfl) gf_X12_27 (kt_167 hL) rfl (kp_167_5 hL) ?_
      refine Viload_n C 1 (dAt D_X12_cutAll 158 rfl) rfl rfl ?_
      refine Vaload_n C 0 (dAt D_X12_cutAll 159 rfl) rfl rfl ?_
      refine VgetI C (dAt D_X12_cutAll 160 rfl) gf_X12_229 (kt_167 hL) rfl ?_
      refine Viast C (dAt D_X12_cutAll 161 rfl) (kt_170 hL) (kl_170 hL) (vp_in_iff.mpr c4) ?_
      refine Vaload_n C 0 (dAt D_X12_cutAll 162 rfl) rfl rfl ?_
      refine Viconst (x := 0) C (dAt D_X12_cutAll 163 rfl) (by decide) ?_
      refine VputI C (dAt D_X12_cutAll 164 rfl) gf_X12_248 (kt_167 hL) rfl rfl rfl rfl ?_
      refine Vaload_n C 0 (dAt D_X12_cutAll 165 rfl) rfl rfl ?_
      refine Viconst (x := 0) C (dAt D_X12_cutAll 166 rfl) (by decide) ?_
      refine VputI C (dAt D_X12_cutAll 167 rfl) gf_X12_251 (kt_167 hL) rfl rfl rfl rfl ?_
      cases h
      exact Vvret C (dAt D_X12_cutAll 168 rfl) (by decide) (by decide) ⟨rfl, rfl, rfl⟩
    · have h := ok_f c3 h
      refine Vaload_n C 0 (dAt D_X12_cutAll 15 rfl) rfl rfl ?_
      refine VgetP C (dAt D_X12_cutAll 16 rfl) gf_X12_14 (kt_167 hL) rfl (kp_167_1 hL) ?_
      refine Viload_n C 2 (dAt D_X12_cutAll 17 rfl) rfl rfl ?_
      obtain ⟨c9, h⟩ := ok_ck h
      refine Viald C (dAt D_X12_cutAll 18 rfl) (kt_168 hL) (kl_168 hL) (vp_in_iff.mpr c9) ?_
      refine Vistore_n (lv' := [(3, _), (0, _), (1, _), (2, _)]) C (dAt D_X12_cutAll 19 rfl) rfl (by decide) rfl ?_
      refine Viload_n C 0 (dAt D_X12_cutAll 20 rfl) rfl rfl ?_
      refine Vbipush (x := 10) C (dAt D_X12_cutAll 21 rfl) (by decide) ?_
      refine Vicmp_eq (tgt := 44) C (dAt D_X12_cutAll 22 rfl) (by decide) (fun c11 => ?_) (fun c11 => ?_)
      · have h := ok_t c11 h
        exact Vsub [1, 2, 3] rfl (w_X12_cutAll_44 hL C ih  h)
      · have h := ok_f c11 h
        refine Viload_n C 0 (dAt D_X12_cutAll 23 rfl) rfl rfl ?_
        refine Vbipush (x := 32) C (dAt D_X12_cutAll 24 rfl) (by decide) ?_
        refine Vicmp_ne (tgt := 50) C (dAt D_X12_cutAll 25 rfl) (by decide) (fun c12 => ?_) (fun c12 => ?_)
        · have h := ok_f c12 h
          refine Viload_n C 3 (dAt D_X12_cutAll 28 rfl) rfl rfl ?_
          refine Vistore (lv' := [(4, _), (3, _), (0, _), (1, _), (2, _)]) C (dAt D_X12_cutAll 29 rfl) (by decide) rfl ?_
          refine Vlconst (x := 0) C (dAt D_X12_cutAll 30 rfl) (by decide) ?_
          refine Vlstore (lv' := [(5, _), (4, _), (3, _), (0, _), (1, _), (2, _)]) C (dAt D_X12_cutAll 31 rfl) (by decide) rfl ?_
          refine Vaload_n C 3 (dAt D_X12_cutAll 32 rfl) rfl rfl ?_
          refine VgetP C (dAt D_X12_cutAll 33 rfl) gf_X12_27 (kt_167 hL) rfl (kp_167_5 hL) ?_
          refine Viload_n C 4 (dAt D_X12_cutAll 34 rfl) rfl rfl ?_
          refine Viload_n C 5 (dAt D_X12_cutAll 35 rfl) rfl rfl ?_
          obtain ⟨c13, h⟩ := ok_ck h
          refine Viast C (dAt D_X12_cutAll 36 rfl) (kt_170 hL) (kl_170 hL) (vp_in_iff.mpr c13) ?_
          refine Viload_n C 2 (dAt D_X12_cutAll 37 rfl) rfl rfl ?_
          obtain ⟨r15, e16, h⟩ := ok_b h
          refine VcallS (as := [_]) C (dAt D_X12_cutAll 38 rfl) (m_X12_isLetter hL e16) yb_X12_225 ys_X12_225 rfl rfl (Nat.le_of_ble_eq_true rfl) (by decide) (by decide) (by decide) (by decide) (Kint ?_)
          refine Vif_eq (tgt := 152) C (dAt D_X12_cutAll 39 rfl) (by decide) (fun c17 => ?_) (fun c17 => ?_)
          · have h := ok_t c17 h
            refine Viload_n C 2 (dAt D_X12_cutAll 83 rfl) rfl rfl ?_
            obtain ⟨r18, e19, h⟩ := ok_b h
            refine VcallS (as := [_]) C (dAt D_X12_cutAll 84 rfl) (m_X12_isDigit hL e19) yb_X12_238 ys_X12_238 rfl rfl (Nat.le_of_ble_eq_true rfl) (by decide) (by decide) (by decide) (by decide) (Kint ?_)
            refine Vif_eq (tgt := 242) C (dAt D_X12_cutAll 85 rfl) (by decide) (fun c20 => ?_) (fun c20 => ?_)
            · have h := ok_t c20 h
              refine Viload_n C 2 (dAt D_X12_cutAll 130 rfl) rfl rfl ?_
              refine Vi2l C (dAt D_X12_cutAll 131 rfl) ?_
              refine Vlstore (lv' := [(5, _), (4, _), (3, _), (0, _), (1, _), (2, _)]) C (dAt D_X12_cutAll 132 rfl) (by decide) rfl ?_
              refine Vaload_n C 3 (dAt D_X12_cutAll 133 rfl) rfl rfl ?_
              refine VgetP C (dAt D_X12_cutAll 134 rfl) gf_X12_24 (kt_167 hL) rfl (kp_167_4 hL) ?_
              refine Viload_n C 4 (dAt D_X12_cutAll 135 rfl) rfl rfl ?_
              refine Viload_n C 2 (dAt D_X12_cutAll 136 rfl) rfl rfl ?_
              obtain ⟨r22, e23, h⟩ := ok_b h
              refine VcallS (as := [_]) C (dAt D_X12_cutAll 137 rfl) (m_X12_isSignOf hL e23) yb_X12_245 ys_X12_245 rfl rfl (Nat.le_of_ble_eq_true rfl) (by decide) (by decide) (by decide) (by decide) (Kint ?_)
              refine Vif_eq (tgt := 262) C (dAt D_X12_cutAll 138 rfl) (by decide) (fun c24 => ?_) (fun c24 => ?_)
              · have h := ok_t c24 h
                refine Viconst (x := 4) C (dAt D_X12_cutAll 141 rfl) (by decide) ?_
                exact Vsub [3, 4, 5, 0] rfl (w_X12_cutAll_263 hL C ih  h)
              · have h := ok_f c24 h
                refine Viconst (x := 3) C (dAt D_X12_cutAll 139 rfl) (by decide) ?_
                refine Vgoto (tgt := 263) C (dAt D_X12_cutAll 140 rfl) (by decide) ?_
                exact Vsub [3, 4, 5, 0] rfl (w_X12_cutAll_263 hL C ih  h)
            · have h := ok_f c20 h
              exact Vsub [3, 4, 5, 1, 0] rfl (w_X12_cutAll_159 hL C ih  f _ _ _ _ _  h)
          · have h := ok_f c17 h
            exact Vsub [3, 4, 5, 1, 0] rfl (w_X12_cutAll_70 hL C ih  f _ _ _ _ _  h)
        · have h := ok_t c12 h
          exact Vsub [1, 2, 3] rfl (w_X12_cutAll_44 hL C ih  h)
def F_X12_cutAll (f : Nat) (u : MT) : Option MT :=
  let u1 := sI u 167 3 (gI u 167 2)
  let u2 := sI u1 167 2 (0 : Int32)
  B_X12_cutAll_17 f f (0 : Int32) (0 : Int32) u2
theorem m_X12_cutAll {g : GT} {w : LT} (hL : Lay w) {f : Nat} {u : MT} {r : MT} (h : F_X12_cutAll f  u = some r) : Mt g yX12_cutAll cX12_cutAll 7 none 2 0 0 [.ref 167] w u (Qv w r) := by
  refine Mt_of (own := RX12) (by decide +kernel) rfl (Nat.le_of_ble_eq_true rfl) (fun z C _ => ?_)
  show V z g 7 0 [(0, .ref 167)] [] w u 0 0 (Qv w r)
  rw [F_X12_cutAll] at h
  refine Vaload_n C 0 (dAt D_X12_cutAll 0 rfl) rfl rfl ?_
  refine Vaload_n C 0 (dAt D_X12_cutAll 1 rfl) rfl rfl ?_
  refine VgetI C (dAt D_X12_cutAll 2 rfl) gf_X12_11 (kt_167 hL) rfl ?_
  refine VputI C (dAt D_X12_cutAll 3 rfl) gf_X12_229 (kt_167 hL) rfl rfl rfl rfl ?_
  refine Vaload_n C 0 (dAt D_X12_cutAll 4 rfl) rfl rfl ?_
  refine Viconst (x := 0) C (dAt D_X12_cutAll 5 rfl) (by decide) ?_
  refine VputI C (dAt D_X12_cutAll 6 rfl) gf_X12_11 (kt_167 hL) rfl rfl rfl rfl ?_
  refine Viconst (x := 0) C (dAt D_X12_cutAll 7 rfl) (by decide) ?_
  refine Vistore_n (lv' := [(1, _), (0, _)]) C (dAt D_X12_cutAll 8 rfl) rfl (by decide) rfl ?_
  refine Viconst (x := 0) C (dAt D_X12_cutAll 9 rfl) (by decide) ?_
  refine Vistore_n (lv' := [(2, _), (1, _), (0, _)]) C (dAt D_X12_cutAll 10 rfl) rfl (by decide) rfl ?_
  exact Vsub [2, 1, 0] rfl (w_X12_cutAll_17 hL C  f _ _ _  h)
def F_X12_wrong (f : Nat) (x1 : Int32) (u : MT) : Option MT :=
  if (gI u 167 8) = 0 then
    ck (ixo (gI u 167 7) 1202) <|
    let u3 := sI u 167 8 (x1 + ((16 : Int32) * (gI u 170 ((gI u 167 7)).toNatClampNeg)))
    some u3
  else
    some u
theorem m_X12_wrong {g : GT} {w : LT} (hL : Lay w) {x1 : Int32} {f : Nat} {u : MT} {r : MT} (h : F_X12_wrong f x1 u = some r) : Mt g yX12_wrong cX12_wrong 2 none 0 0 0 [.ref 167, .int x1] w u (Qv w r) := by
  refine Mt_of (own := RX12) (by decide +kernel) rfl (Nat.le_of_ble_eq_true rfl) (fun z C _ => ?_)
  show V z g 2 0 [(0, .ref 167), (1, .int x1)] [] w u 0 0 (Qv w r)
  rw [F_X12_wrong] at h
  refine Vaload_n C 0 (dAt D_X12_wrong 0 rfl) rfl rfl ?_
  refine VgetI C (dAt D_X12_wrong 1 rfl) gf_X12_251 (kt_167 hL) rfl ?_
  refine Vif_ne (tgt := 25) C (dAt D_X12_wrong 2 rfl) (by decide) (fun c1 => ?_) (fun c1 => ?_)
  · have h := ok_f c1 h
    cases h
    exact Vvret C (dAt D_X12_wrong 14 rfl) (by decide) (by decide) ⟨rfl, rfl, rfl⟩
  · have h := ok_t c1 h
    refine Vaload_n C 0 (dAt D_X12_wrong 3 rfl) rfl rfl ?_
    refine Viload_n C 1 (dAt D_X12_wrong 4 rfl) rfl rfl ?_
    refine Vbipush (x := 16) C (dAt D_X12_wrong 5 rfl) (by decide) ?_
    refine Vaload_n C 0 (dAt D_X12_wrong 6 rfl) rfl rfl ?_
    refine VgetP C (dAt D_X12_wrong 7 rfl) gf_X12_27 (kt_167 hL) rfl (kp_167_5 hL) ?_
    refine Vaload_n C 0 (dAt D_X12_wrong 8 rfl) rfl rfl ?_
    refine VgetI C (dAt D_X12_wrong 9 rfl) gf_X12_248 (kt_167 hL) rfl ?_
    obtain ⟨c2, h⟩ := ok_ck h
    refine Viald C (dAt D_X12_wrong 10 rfl) (kt_170 hL) (kl_170 hL) (vp_in_iff.mpr c2) ?_
    refine Vimul C (dAt D_X12_wrong 11 rfl) ?_
    refine Viadd C (dAt D_X12_wrong 12 rfl) ?_
    refine VputI C (dAt D_X12_wrong 13 rfl) gf_X12_251 (kt_167 hL) rfl rfl rfl rfl ?_
    cases h
    exact Vvret C (dAt D_X12_wrong 14 rfl) (by decide) (by decide) ⟨rfl, rfl, rfl⟩
def F_X12_isSign (f : Nat) (x1 : Int32) (u : MT) : Option (Int32 × MT) :=
  if (gI u 167 8) = 0 then
    ck (ixo (gI u 167 7) 1202) <|
    if (gI u 169 ((gI u 167 7)).toNatClampNeg) = (3 : Int32) then
      if (lg_cmp (gL u 171 ((gI u 167 7)).toNatClampNeg) ((x1).toInt64)) = 0 then
        some ((1 : Int32), u)
      else
        some ((0 : Int32), u)
    else
      some ((0 : Int32), u)
  else
    some ((0 : Int32), u)
theorem m_X12_isSign {g : GT} {w : LT} (hL : Lay w) {x1 : Int32} {f : Nat} {u : MT} {r : (Int32 × MT)} (h : F_X12_isSign f x1 u = some r) : Mt g yX12_isSign cX12_isSign 2 (some .boolean) 0 0 0 [.ref 167, .int x1] w u (Qi r.1 w r.2) := by
  refine Mt_of (own := RX12) (by decide +kernel) rfl (Nat.le_of_ble_eq_true rfl) (fun z C _ => ?_)
  show V z g 2 0 [(0, .ref 167), (1, .int x1)] [] w u 0 0 (Qi r.1 w r.2)
  rw [F_X12_isSign] at h
  refine Vaload_n C 0 (dAt D_X12_isSign 0 rfl) rfl rfl ?_
  refine VgetI C (dAt D_X12_isSign 1 rfl) gf_X12_251 (kt_167 hL) rfl ?_
  refine Vif_ne (tgt := 39) C (dAt D_X12_isSign 2 rfl) (by decide) (fun c1 => ?_) (fun c1 => ?_)
  · have h := ok_f c1 h
    refine Viconst (x := 0) C (dAt D_X12_isSign 21 rfl) (by decide) ?_
    cases h
    exact Vzret C (dAt D_X12_isSign 22 rfl) rfl (by decide) (by decide) ⟨rfl, rfl, rfl⟩
  · have h := ok_t c1 h
    refine Vaload_n C 0 (dAt D_X12_isSign 3 rfl) rfl rfl ?_
    refine VgetP C (dAt D_X12_isSign 4 rfl) gf_X12_24 (kt_167 hL) rfl (kp_167_4 hL) ?_
    refine Vaload_n C 0 (dAt D_X12_isSign 5 rfl) rfl rfl ?_
    refine VgetI C (dAt D_X12_isSign 6 rfl) gf_X12_248 (kt_167 hL) rfl ?_
    obtain ⟨c2, h⟩ := ok_ck h
    refine Viald C (dAt D_X12_isSign 7 rfl) (kt_169 hL) (kl_169 hL) (vp_in_iff.mpr c2) ?_
    refine Viconst (x := 3) C (dAt D_X12_isSign 8 rfl) (by decide) ?_
    refine Vicmp_ne (tgt := 39) C (dAt D_X12_isSign 9 rfl) (by decide) (fun c3 => ?_) (fun c3 => ?_)
    · have h := ok_f c3 h
      refine Viconst (x := 0) C (dAt D_X12_isSign 21 rfl) (by decide) ?_
      cases h
      exact Vzret C (dAt D_X12_isSign 22 rfl) rfl (by decide) (by decide) ⟨rfl, rfl, rfl⟩
    · have h := ok_t c3 h
      refine Vaload_n C 0 (dAt D_X12_isSign 10 rfl) rfl rfl ?_
      refine VgetP C (dAt D_X12_isSign 11 rfl) gf_X12_30 (kt_167 hL) rfl (kp_167_6 hL) ?_
      refine Vaload_n C 0 (dAt D_X12_isSign 12 rfl) rfl rfl ?_
      refine VgetI C (dAt D_X12_isSign 13 rfl) gf_X12_248 (kt_167 hL) rfl ?_
      refine Vlald C (dAt D_X12_isSign 14 rfl) (kt_171 hL) (kl_171 hL) (vp_in_iff.mpr c2) ?_
      refine Viload_n C 1 (dAt D_X12_isSign 15 rfl) rfl rfl ?_
      refine Vi2l C (dAt D_X12_isSign 16 rfl) ?_
      refine Vlcmp C (dAt D_X12_isSign 17 rfl) ?_
      refine Vif_ne (tgt := 39) C (dAt D_X12_isSign 18 rfl) (by decide) (fun c4 => ?_) (fun c4 => ?_)
      · have h := ok_f c4 h
        refine Viconst (x := 0) C (dAt D_X12_isSign 21 rfl) (by decide) ?_
        cases h
        exact Vzret C (dAt D_X12_isSign 22 rfl) rfl (by decide) (by decide) ⟨rfl, rfl, rfl⟩
      · have h := ok_t c4 h
        refine Viconst (x := 1) C (dAt D_X12_isSign 19 rfl) (by decide) ?_
        refine Vgoto (tgt := 40) C (dAt D_X12_isSign 20 rfl) (by decide) ?_
        cases h
        exact Vzret C (dAt D_X12_isSign 22 rfl) rfl (by decide) (by decide) ⟨rfl, rfl, rfl⟩
def F_X12_isWord (f : Nat) (x1 : Int32) (u : MT) : Option (Int32 × MT) :=
  if (gI u 167 8) = 0 then
    ck (ixo (gI u 167 7) 1202) <|
    if (gI u 169 ((gI u 167 7)).toNatClampNeg) = (1 : Int32) then
      ck (ixo x1 24) <|
      if (lg_cmp (gL u 171 ((gI u 167 7)).toNatClampNeg) (gL u 172 (x1).toNatClampNeg)) = 0 then
        some ((1 : Int32), u)
      else
        some ((0 : Int32), u)
    else
      some ((0 : Int32), u)
  else
    some ((0 : Int32), u)
theorem m_X12_isWord {g : GT} {w : LT} (hL : Lay w) {x1 : Int32} {f : Nat} {u : MT} {r : (Int32 × MT)} (h : F_X12_isWord f x1 u = some r) : Mt g yX12_isWord cX12_isWord 2 (some .boolean) 0 0 0 [.ref 167, .int x1] w u (Qi r.1 w r.2) := by
  refine Mt_of (own := RX12) (by decide +kernel) rfl (Nat.le_of_ble_eq_true rfl) (fun z C _ => ?_)
  show V z g 2 0 [(0, .ref 167), (1, .int x1)] [] w u 0 0 (Qi r.1 w r.2)
  rw [F_X12_isWord] at h
  refine Vaload_n C 0 (dAt D_X12_isWord 0 rfl) rfl rfl ?_
  refine VgetI C (dAt D_X12_isWord 1 rfl) gf_X12_251 (kt_167 hL) rfl ?_
  refine Vif_ne (tgt := 43) C (dAt D_X12_isWord 2 rfl) (by decide) (fun c1 => ?_) (fun c1 => ?_)
  · have h := ok_f c1 h
    refine Viconst (x := 0) C (dAt D_X12_isWord 23 rfl) (by decide) ?_
    cases h
    exact Vzret C (dAt D_X12_isWord 24 rfl) rfl (by decide) (by decide) ⟨rfl, rfl, rfl⟩
  · have h := ok_t c1 h
    refine Vaload_n C 0 (dAt D_X12_isWord 3 rfl) rfl rfl ?_
    refine VgetP C (dAt D_X12_isWord 4 rfl) gf_X12_24 (kt_167 hL) rfl (kp_167_4 hL) ?_
    refine Vaload_n C 0 (dAt D_X12_isWord 5 rfl) rfl rfl ?_
    refine VgetI C (dAt D_X12_isWord 6 rfl) gf_X12_248 (kt_167 hL) rfl ?_
    obtain ⟨c2, h⟩ := ok_ck h
    refine Viald C (dAt D_X12_isWord 7 rfl) (kt_169 hL) (kl_169 hL) (vp_in_iff.mpr c2) ?_
    refine Viconst (x := 1) C (dAt D_X12_isWord 8 rfl) (by decide) ?_
    refine Vicmp_ne (tgt := 43) C (dAt D_X12_isWord 9 rfl) (by decide) (fun c3 => ?_) (fun c3 => ?_)
    · have h := ok_f c3 h
      refine Viconst (x := 0) C (dAt D_X12_isWord 23 rfl) (by decide) ?_
      cases h
      exact Vzret C (dAt D_X12_isWord 24 rfl) rfl (by decide) (by decide) ⟨rfl, rfl, rfl⟩
    · have h := ok_t c3 h
      refine Vaload_n C 0 (dAt D_X12_isWord 10 rfl) rfl rfl ?_
      refine VgetP C (dAt D_X12_isWord 11 rfl) gf_X12_30 (kt_167 hL) rfl (kp_167_6 hL) ?_
      refine Vaload_n C 0 (dAt D_X12_isWord 12 rfl) rfl rfl ?_
      refine VgetI C (dAt D_X12_isWord 13 rfl) gf_X12_248 (kt_167 hL) rfl ?_
      refine Vlald C (dAt D_X12_isWord 14 rfl) (kt_171 hL) (kl_171 hL) (vp_in_iff.mpr c2) ?_
      refine Vaload_n C 0 (dAt D_X12_isWord 15 rfl) rfl rfl ?_
      refine VgetP C (dAt D_X12_isWord 16 rfl) gf_X12_82 (kt_167 hL) rfl (kp_167_9 hL) ?_
      refine Viload_n C 1 (dAt D_X12_isWord 17 rfl) rfl rfl ?_
      obtain ⟨c4, h⟩ := ok_ck h
      refine Vlald C (dAt D_X12_isWord 18 rfl) (kt_172 hL) (kl_172 hL) (vp_in_iff.mpr c4) ?_
      refine Vlcmp C (dAt D_X12_isWord 19 rfl) ?_
      refine Vif_ne (tgt := 43) C (dAt D_X12_isWord 20 rfl) (by decide) (fun c5 => ?_) (fun c5 => ?_)
      · have h := ok_f c5 h
        refine Viconst (x := 0) C (dAt D_X12_isWord 23 rfl) (by decide) ?_
        cases h
        exact Vzret C (dAt D_X12_isWord 24 rfl) rfl (by decide) (by decide) ⟨rfl, rfl, rfl⟩
      · have h := ok_t c5 h
        refine Viconst (x := 1) C (dAt D_X12_isWord 21 rfl) (by decide) ?_
        refine Vgoto (tgt := 44) C (dAt D_X12_isWord 22 rfl) (by decide) ?_
        cases h
        exact Vzret C (dAt D_X12_isWord 24 rfl) rfl (by decide) (by decide) ⟨rfl, rfl, rfl⟩
def F_X12_takeSign (f : Nat) (x1 : Int32) (u : MT) : Option MT :=
  (F_X12_isSign f x1 u).bind fun r1 =>
  if r1.1 = 0 then
    (F_X12_wrong f (1 : Int32) r1.2).bind fun r4 =>
    some r4
  else
    let u6 := sI r1.2 167 7 ((gI r1.2 167 7) + (1 : Int32))
    some u6
theorem m_X12_takeSign {g : GT} {w : LT} (hL : Lay w) {x1 : Int32} {f : Nat} {u : MT} {r : MT} (h : F_X12_takeSign f x1 u = some r) : Mt g yX12_takeSign cX12_takeSign 2 none 1 0 0 [.ref 167, .int x1] w u (Qv w r) := by
  refine Mt_of (own := RX12) (by decide +kernel) rfl (Nat.le_of_ble_eq_true rfl) (fun z C _ => ?_)
  show V z g 2 0 [(0, .ref 167), (1, .int x1)] [] w u 0 0 (Qv w r)
  rw [F_X12_takeSign] at h
  refine Vaload_n C 0 (dAt D_X12_takeSign 0 rfl) rfl rfl ?_
  refine Viload_n C 1 (dAt D_X12_takeSign 1 rfl) rfl rfl ?_
  obtain ⟨r1, e2, h⟩ := ok_b h
  refine VcallV (as := [_]) C (dAt D_X12_takeSign 2 rfl) (m_X12_isSign hL e2) yv_X12_254 (Or.inl ⟨(kt_167 hL), by decide⟩) rfl rfl (Nat.le_of_ble_eq_true rfl) (by decide) (by decide) (by decide) (by decide) (Kint ?_)
  refine Vif_eq (tgt := 21) C (dAt D_X12_takeSign 3 rfl) (by decide) (fun c3 => ?_) (fun c3 => ?_)
  · have h := ok_t c3 h
    refine Vaload_n C 0 (dAt D_X12_takeSign 11 rfl) rfl rfl ?_
    refine Viconst (x := 1) C (dAt D_X12_takeSign 12 rfl) (by decide) ?_
    obtain ⟨r4, e5, h⟩ := ok_b h
    refine VcallV (as := [_]) C (dAt D_X12_takeSign 13 rfl) (m_X12_wrong hL e5) yv_X12_257 (Or.inl ⟨(kt_167 hL), by decide⟩) rfl rfl (Nat.le_of_ble_eq_true rfl) (by decide) (by decide) (by decide) (by decide) (Kvoid ?_)
    cases h
    exact Vvret C (dAt D_X12_takeSign 14 rfl) (by decide) (by decide) ⟨rfl, rfl, rfl⟩
  · have h := ok_f c3 h
    refine Vaload_n C 0 (dAt D_X12_takeSign 4 rfl) rfl rfl ?_
    refine Vdup C (dAt D_X12_takeSign 5 rfl) rfl ?_
    refine VgetI C (dAt D_X12_takeSign 6 rfl) gf_X12_248 (kt_167 hL) rfl ?_
    refine Viconst (x := 1) C (dAt D_X12_takeSign 7 rfl) (by decide) ?_
    refine Viadd C (dAt D_X12_takeSign 8 rfl) ?_
    refine VputI C (dAt D_X12_takeSign 9 rfl) gf_X12_248 (kt_167 hL) rfl rfl rfl rfl ?_
    refine Vgoto (tgt := 26) C (dAt D_X12_takeSign 10 rfl) (by decide) ?_
    cases h
    exact Vvret C (dAt D_X12_takeSign 14 rfl) (by decide) (by decide) ⟨rfl, rfl, rfl⟩
def B_X12_hasSign_20 (f : Nat) (x2 : Int32) (s0 : Int32) (s1 : Int32) (u : MT) : Option (Int32 × MT) :=
  let u4 := sI u 167 7 (s1 + s0)
  ck (x2 = 0 ∨ x2 = 1) <|
  some (x2, u4)
theorem w_X12_hasSign_20 {z : ZT} {g : GT} {w : LT} (hL : Lay w) (C : Cx z g cX12_hasSign 3 RX12 (some .boolean) 1 0 0) {f : Nat} {r : (Int32 × MT)} {x2 : Int32} {s0 : Int32} {s1 : Int32} {u : MT} (h : B_X12_hasSign_20 f x2 s0 s1 u = some r) : V z g 3 20 [(2, .int x2)] [.int s0, .int s1, .ref 167] w u 0 0 (Qi r.1 w r.2) := by
  rw [B_X12_hasSign_20] at h
  refine Viadd C (dAt D_X12_hasSign 12 rfl) ?_
  refine VputI C (dAt D_X12_hasSign 13 rfl) gf_X12_248 (kt_167 hL) rfl rfl rfl rfl ?_
  refine Viload_n C 0 (dAt D_X12_hasSign 14 rfl) rfl rfl ?_
  obtain ⟨c5, h⟩ := ok_ck h
  cases h
  exact Vzret C (dAt D_X12_hasSign 15 rfl) (nz01 c5) (by decide) (by decide) ⟨rfl, rfl, rfl⟩
def F_X12_hasSign (f : Nat) (x1 : Int32) (u : MT) : Option (Int32 × MT) :=
  (F_X12_isSign f x1 u).bind fun r1 =>
  if r1.1 = 0 then
    B_X12_hasSign_20 f r1.1 (0 : Int32) (gI r1.2 167 7) r1.2
  else
    B_X12_hasSign_20 f r1.1 (1 : Int32) (gI r1.2 167 7) r1.2
theorem m_X12_hasSign {g : GT} {w : LT} (hL : Lay w) {x1 : Int32} {f : Nat} {u : MT} {r : (Int32 × MT)} (h : F_X12_hasSign f x1 u = some r) : Mt g yX12_hasSign cX12_hasSign 3 (some .boolean) 1 0 0 [.ref 167, .int x1] w u (Qi r.1 w r.2) := by
  refine Mt_of (own := RX12) (by decide +kernel) rfl (Nat.le_of_ble_eq_true rfl) (fun z C _ => ?_)
  show V z g 3 0 [(0, .ref 167), (1, .int x1)] [] w u 0 0 (Qi r.1 w r.2)
  rw [F_X12_hasSign] at h
  refine Vaload_n C 0 (dAt D_X12_hasSign 0 rfl) rfl rfl ?_
  refine Viload_n C 1 (dAt D_X12_hasSign 1 rfl) rfl rfl ?_
  obtain ⟨r1, e2, h⟩ := ok_b h
  refine VcallV (as := [_]) C (dAt D_X12_hasSign 2 rfl) (m_X12_isSign hL e2) yv_X12_254 (Or.inl ⟨(kt_167 hL), by decide⟩) rfl rfl (Nat.le_of_ble_eq_true rfl) (by decide) (by decide) (by decide) (by decide) (Kint ?_)
  refine Vistore_n (lv' := [(2, _), (0, _), (1, _)]) C (dAt D_X12_hasSign 3 rfl) rfl (by decide) rfl ?_
  refine Vaload_n C 1 (dAt D_X12_hasSign 4 rfl) rfl rfl ?_
  refine Vdup C (dAt D_X12_hasSign 5 rfl) rfl ?_
  refine VgetI C (dAt D_X12_hasSign 6 rfl) gf_X12_248 (kt_167 hL) rfl ?_
  refine Viload_n C 0 (dAt D_X12_hasSign 7 rfl) rfl rfl ?_
  refine Vif_eq (tgt := 19) C (dAt D_X12_hasSign 8 rfl) (by decide) (fun c3 => ?_) (fun c3 => ?_)
  · have h := ok_t c3 h
    refine Viconst (x := 0) C (dAt D_X12_hasSign 11 rfl) (by decide) ?_
    exact Vsub [0] rfl (w_X12_hasSign_20 hL C  h)
  · have h := ok_f c3 h
    refine Viconst (x := 1) C (dAt D_X12_hasSign 9 rfl) (by decide) ?_
    refine Vgoto (tgt := 20) C (dAt D_X12_hasSign 10 rfl) (by decide) ?_
    exact Vsub [0] rfl (w_X12_hasSign_20 hL C  h)
def B_X12_hasWord_20 (f : Nat) (x2 : Int32) (s0 : Int32) (s1 : Int32) (u : MT) : Option (Int32 × MT) :=
  let u4 := sI u 167 7 (s1 + s0)
  ck (x2 = 0 ∨ x2 = 1) <|
  some (x2, u4)
theorem w_X12_hasWord_20 {z : ZT} {g : GT} {w : LT} (hL : Lay w) (C : Cx z g cX12_hasWord 3 RX12 (some .boolean) 1 0 0) {f : Nat} {r : (Int32 × MT)} {x2 : Int32} {s0 : Int32} {s1 : Int32} {u : MT} (h : B_X12_hasWord_20 f x2 s0 s1 u = some r) : V z g 3 20 [(2, .int x2)] [.int s0, .int s1, .ref 167] w u 0 0 (Qi r.1 w r.2) := by
  rw [B_X12_hasWord_20] at h
  refine Viadd C (dAt D_X12_hasWord 12 rfl) ?_
  refine VputI C (dAt D_X12_hasWord 13 rfl) gf_X12_248 (kt_167 hL) rfl rfl rfl rfl ?_
  refine Viload_n C 0 (dAt D_X12_hasWord 14 rfl) rfl rfl ?_
  obtain ⟨c5, h⟩ := ok_ck h
  cases h
  exact Vzret C (dAt D_X12_hasWord 15 rfl) (nz01 c5) (by decide) (by decide) ⟨rfl, rfl, rfl⟩
def F_X12_hasWord (f : Nat) (x1 : Int32) (u : MT) : Option (Int32 × MT) :=
  (F_X12_isWord f x1 u).bind fun r1 =>
  if r1.1 = 0 then
    B_X12_hasWord_20 f r1.1 (0 : Int32) (gI r1.2 167 7) r1.2
  else
    B_X12_hasWord_20 f r1.1 (1 : Int32) (gI r1.2 167 7) r1.2
theorem m_X12_hasWord {g : GT} {w : LT} (hL : Lay w) {x1 : Int32} {f : Nat} {u : MT} {r : (Int32 × MT)} (h : F_X12_hasWord f x1 u = some r) : Mt g yX12_hasWord cX12_hasWord 3 (some .boolean) 1 0 0 [.ref 167, .int x1] w u (Qi r.1 w r.2) := by
  refine Mt_of (own := RX12) (by decide +kernel) rfl (Nat.le_of_ble_eq_true rfl) (fun z C _ => ?_)
  show V z g 3 0 [(0, .ref 167), (1, .int x1)] [] w u 0 0 (Qi r.1 w r.2)
  rw [F_X12_hasWord] at h
  refine Vaload_n C 0 (dAt D_X12_hasWord 0 rfl) rfl rfl ?_
  refine Viload_n C 1 (dAt D_X12_hasWord 1 rfl) rfl rfl ?_
  obtain ⟨r1, e2, h⟩ := ok_b h
  refine VcallV (as := [_]) C (dAt D_X12_hasWord 2 rfl) (m_X12_isWord hL e2) yv_X12_261 (Or.inl ⟨(kt_167 hL), by decide⟩) rfl rfl (Nat.le_of_ble_eq_true rfl) (by decide) (by decide) (by decide) (by decide) (Kint ?_)
  refine Vistore_n (lv' := [(2, _), (0, _), (1, _)]) C (dAt D_X12_hasWord 3 rfl) rfl (by decide) rfl ?_
  refine Vaload_n C 1 (dAt D_X12_hasWord 4 rfl) rfl rfl ?_
  refine Vdup C (dAt D_X12_hasWord 5 rfl) rfl ?_
  refine VgetI C (dAt D_X12_hasWord 6 rfl) gf_X12_248 (kt_167 hL) rfl ?_
  refine Viload_n C 0 (dAt D_X12_hasWord 7 rfl) rfl rfl ?_
  refine Vif_eq (tgt := 19) C (dAt D_X12_hasWord 8 rfl) (by decide) (fun c3 => ?_) (fun c3 => ?_)
  · have h := ok_t c3 h
    refine Viconst (x := 0) C (dAt D_X12_hasWord 11 rfl) (by decide) ?_
    exact Vsub [0] rfl (w_X12_hasWord_20 hL C  h)
  · have h := ok_f c3 h
    refine Viconst (x := 1) C (dAt D_X12_hasWord 9 rfl) (by decide) ?_
    refine Vgoto (tgt := 20) C (dAt D_X12_hasWord 10 rfl) (by decide) ?_
    exact Vsub [0] rfl (w_X12_hasWord_20 hL C  h)
def F_X12_takeWord (f : Nat) (x1 : Int32) (u : MT) : Option MT :=
  (F_X12_hasWord f x1 u).bind fun r1 =>
  if r1.1 = 0 then
    (F_X12_wrong f (1 : Int32) r1.2).bind fun r4 =>
    some r4
  else
    some r1.2
theorem m_X12_takeWord {g : GT} {w : LT} (hL : Lay w) {x1 : Int32} {f : Nat} {u : MT} {r : MT} (h : F_X12_takeWord f x1 u = some r) : Mt g yX12_takeWord cX12_takeWord 2 none 2 0 0 [.ref 167, .int x1] w u (Qv w r) := by
  refine Mt_of (own := RX12) (by decide +kernel) rfl (Nat.le_of_ble_eq_true rfl) (fun z C _ => ?_)
  show V z g 2 0 [(0, .ref 167), (1, .int x1)] [] w u 0 0 (Qv w r)
  rw [F_X12_takeWord] at h
  refine Vaload_n C 0 (dAt D_X12_takeWord 0 rfl) rfl rfl ?_
  refine Viload_n C 1 (dAt D_X12_takeWord 1 rfl) rfl rfl ?_
  obtain ⟨r1, e2, h⟩ := ok_b h
  refine VcallV (as := [_]) C (dAt D_X12_takeWord 2 rfl) (m_X12_hasWord hL e2) yv_X12_264 (Or.inl ⟨(kt_167 hL), by decide⟩) rfl rfl (Nat.le_of_ble_eq_true rfl) (by decide) (by decide) (by decide) (by decide) (Kint ?_)
  refine Vif_ne (tgt := 13) C (dAt D_X12_takeWord 3 rfl) (by decide) (fun c3 => ?_) (fun c3 => ?_)
  · have h := ok_f c3 h
    cases h
    exact Vvret C (dAt D_X12_takeWord 7 rfl) (by decide) (by decide) ⟨rfl, rfl, rfl⟩
  · have h := ok_t c3 h
    refine Vaload_n C 0 (dAt D_X12_takeWord 4 rfl) rfl rfl ?_
    refine Viconst (x := 1) C (dAt D_X12_takeWord 5 rfl) (by decide) ?_
    obtain ⟨r4, e5, h⟩ := ok_b h
    refine VcallV (as := [_]) C (dAt D_X12_takeWord 6 rfl) (m_X12_wrong hL e5) yv_X12_257 (Or.inl ⟨(kt_167 hL), by decide⟩) rfl rfl (Nat.le_of_ble_eq_true rfl) (by decide) (by decide) (by decide) (by decide) (Kvoid ?_)
    cases h
    exact Vvret C (dAt D_X12_takeWord 7 rfl) (by decide) (by decide) ⟨rfl, rfl, rfl⟩
def B_X12_takeNumber_70 (f : Nat) (u : MT) : Option (Int32 × MT) :=
  let u10 := sI u 167 7 ((gI u 167 7) + (1 : Int32))
  if (gI u10 167 8) ≤ 0 then
    ck (ixo ((gI u10 167 7) - (1 : Int32)) 1202) <|
    some (((gL u10 171 (((gI u10 167 7) - (1 : Int32))).toNatClampNeg)).toInt32, u10)
  else
    some ((0 : Int32), u10)
theorem w_X12_takeNumber_70 {z : ZT} {g : GT} {w : LT} (hL : Lay w) (C : Cx z g cX12_takeNumber 3 RX12 (some .int) 1 0 0) {f : Nat} {r : (Int32 × MT)} {u : MT} (h : B_X12_takeNumber_70 f  u = some r) : V z g 3 70 [(0, .ref 167)] [] w u 0 0 (Qi r.1 w r.2) := by
  rw [B_X12_takeNumber_70] at h
  refine Vaload_n C 0 (dAt D_X12_takeNumber 38 rfl) rfl rfl ?_
  refine Vdup C (dAt D_X12_takeNumber 39 rfl) rfl ?_
  refine VgetI C (dAt D_X12_takeNumber 40 rfl) gf_X12_248 (kt_167 hL) rfl ?_
  refine Viconst (x := 1) C (dAt D_X12_takeNumber 41 rfl) (by decide) ?_
  refine Viadd C (dAt D_X12_takeNumber 42 rfl) ?_
  refine VputI C (dAt D_X12_takeNumber 43 rfl) gf_X12_248 (kt_167 hL) rfl rfl rfl rfl ?_
  refine Vaload_n C 0 (dAt D_X12_takeNumber 44 rfl) rfl rfl ?_
  refine VgetI C (dAt D_X12_takeNumber 45 rfl) gf_X12_251 (kt_167 hL) rfl ?_
  refine Vif_le (tgt := 91) C (dAt D_X12_takeNumber 46 rfl) (by decide) (fun c11 => ?_) (fun c11 => ?_)
  · have h := ok_t c11 h
    refine Vaload_n C 0 (dAt D_X12_takeNumber 49 rfl) rfl rfl ?_
    refine VgetP C (dAt D_X12_takeNumber 50 rfl) gf_X12_30 (kt_167 hL) rfl (kp_167_6 hL) ?_
    refine Vaload_n C 0 (dAt D_X12_takeNumber 51 rfl) rfl rfl ?_
    refine VgetI C (dAt D_X12_takeNumber 52 rfl) gf_X12_248 (kt_167 hL) rfl ?_
    refine Viconst (x := 1) C (dAt D_X12_takeNumber 53 rfl) (by decide) ?_
    refine Visub C (dAt D_X12_takeNumber 54 rfl) ?_
    obtain ⟨c12, h⟩ := ok_ck h
    refine Vlald C (dAt D_X12_takeNumber 55 rfl) (kt_171 hL) (kl_171 hL) (vp_in_iff.mpr c12) ?_
    refine Vl2i C (dAt D_X12_takeNumber 56 rfl) ?_
    cases h
    exact Viret C (dAt D_X12_takeNumber 57 rfl) (by decide) (by decide) ⟨rfl, rfl, rfl⟩
  · have h := ok_f c11 h
    refine Viconst (x := 0) C (dAt D_X12_takeNumber 47 rfl) (by decide) ?_
    refine Vgoto (tgt := 103) C (dAt D_X12_takeNumber 48 rfl) (by decide) ?_
    cases h
    exact Viret C (dAt D_X12_takeNumber 57 rfl) (by decide) (by decide) ⟨rfl, rfl, rfl⟩
def B_X12_takeNumber_65 (f : Nat) (u : MT) : Option (Int32 × MT) :=
  (F_X12_wrong f (4 : Int32) u).bind fun r13 =>
  B_X12_takeNumber_70 f r13
theorem w_X12_takeNumber_65 {z : ZT} {g : GT} {w : LT} (hL : Lay w) (C : Cx z g cX12_takeNumber 3 RX12 (some .int) 1 0 0) {f : Nat} {r : (Int32 × MT)} {u : MT} (h : B_X12_takeNumber_65 f  u = some r) : V z g 3 65 [(0, .ref 167)] [] w u 0 0 (Qi r.1 w r.2) := by
  rw [B_X12_takeNumber_65] at h
  refine Vaload_n C 0 (dAt D_X12_takeNumber 35 rfl) rfl rfl ?_
  refine Viconst (x := 4) C (dAt D_X12_takeNumber 36 rfl) (by decide) ?_
  obtain ⟨r13, e14, h⟩ := ok_b h
  refine VcallV (as := [_]) C (dAt D_X12_takeNumber 37 rfl) (m_X12_wrong hL e14) yv_X12_257 (Or.inl ⟨(kt_167 hL), by decide⟩) rfl rfl (Nat.le_of_ble_eq_true rfl) (by decide) (by decide) (by decide) (by decide) (Kvoid ?_)
  exact Vsub [0] rfl (w_X12_takeNumber_70 hL C  h)
def B_X12_takeNumber_28 (f : Nat) (x1 : Int32) (x2 : Int32) (u : MT) : Option (Int32 × MT) :=
  if (gI u 167 8) = 0 then
    ck (ixo (gI u 167 7) 1202) <|
    if (lg_cmp (gL u 171 ((gI u 167 7)).toNatClampNeg) ((x1).toInt64)) < 0 then
      B_X12_takeNumber_65 f u
    else
      if (lg_cmp (gL u 171 ((gI u 167 7)).toNatClampNeg) ((x2).toInt64)) ≤ 0 then
        B_X12_takeNumber_70 f u
      else
        B_X12_takeNumber_65 f u
  else
    B_X12_takeNumber_70 f u
theorem w_X12_takeNumber_28 {z : ZT} {g : GT} {w : LT} (hL : Lay w) (C : Cx z g cX12_takeNumber 3 RX12 (some .int) 1 0 0) {f : Nat} {r : (Int32 × MT)} {x1 : Int32} {x2 : Int32} {u : MT} (h : B_X12_takeNumber_28 f x1 x2 u = some r) : V z g 3 28 [(0, .ref 167), (1, .int x1), (2, .int x2)] [] w u 0 0 (Qi r.1 w r.2) := by
  rw [B_X12_takeNumber_28] at h
  refine Vaload_n C 0 (dAt D_X12_takeNumber 14 rfl) rfl rfl ?_
  refine VgetI C (dAt D_X12_takeNumber 15 rfl) gf_X12_251 (kt_167 hL) rfl ?_
  refine Vif_ne (tgt := 70) C (dAt D_X12_takeNumber 16 rfl) (by decide) (fun c6 => ?_) (fun c6 => ?_)
  · have h := ok_f c6 h
    exact Vsub [0] rfl (w_X12_takeNumber_70 hL C  h)
  · have h := ok_t c6 h
    refine Vaload_n C 0 (dAt D_X12_takeNumber 17 rfl) rfl rfl ?_
    refine VgetP C (dAt D_X12_takeNumber 18 rfl) gf_X12_30 (kt_167 hL) rfl (kp_167_6 hL) ?_
    refine Vaload_n C 0 (dAt D_X12_takeNumber 19 rfl) rfl rfl ?_
    refine VgetI C (dAt D_X12_takeNumber 20 rfl) gf_X12_248 (kt_167 hL) rfl ?_
    obtain ⟨c7, h⟩ := ok_ck h
    refine Vlald C (dAt D_X12_takeNumber 21 rfl) (kt_171 hL) (kl_171 hL) (vp_in_iff.mpr c7) ?_
    refine Viload_n C 1 (dAt D_X12_takeNumber 22 rfl) rfl rfl ?_
    refine Vi2l C (dAt D_X12_takeNumber 23 rfl) ?_
    refine Vlcmp C (dAt D_X12_takeNumber 24 rfl) ?_
    refine Vif_lt (tgt := 65) C (dAt D_X12_takeNumber 25 rfl) (by decide) (fun c8 => ?_) (fun c8 => ?_)
    · have h := ok_t c8 h
      exact Vsub [0] rfl (w_X12_takeNumber_65 hL C  h)
    · have h := ok_f c8 h
      refine Vaload_n C 0 (dAt D_X12_takeNumber 26 rfl) rfl rfl ?_
      refine VgetP C (dAt D_X12_takeNumber 27 rfl) gf_X12_30 (kt_167 hL) rfl (kp_167_6 hL) ?_
      refine Vaload_n C 0 (dAt D_X12_takeNumber 28 rfl) rfl rfl ?_
      refine VgetI C (dAt D_X12_takeNumber 29 rfl) gf_X12_248 (kt_167 hL) rfl ?_
      refine Vlald C (dAt D_X12_takeNumber 30 rfl) (kt_171 hL) (kl_171 hL) (vp_in_iff.mpr c7) ?_
      refine Viload_n C 2 (dAt D_X12_takeNumber 31 rfl) rfl rfl ?_
      refine Vi2l C (dAt D_X12_takeNumber 32 rfl) ?_
      refine Vlcmp C (dAt D_X12_takeNumber 33 rfl) ?_
      refine Vif_le (tgt := 70) C (dAt D_X12_takeNumber 34 rfl) (by decide) (fun c9 => ?_) (fun c9 => ?_)
      · have h := ok_t c9 h
        exact Vsub [0] rfl (w_X12_takeNumber_70 hL C  h)
      · have h := ok_f c9 h
        exact Vsub [0] rfl (w_X12_takeNumber_65 hL C  h)
def F_X12_takeNumber (f : Nat) (x1 : Int32) (x2 : Int32) (u : MT) : Option (Int32 × MT) :=
  if (gI u 167 8) = 0 then
    ck (ixo (gI u 167 7) 1202) <|
    if (gI u 169 ((gI u 167 7)).toNatClampNeg) = (2 : Int32) then
      B_X12_takeNumber_28 f x1 x2 u
    else
      (F_X12_wrong f (1 : Int32) u).bind fun r4 =>
      B_X12_takeNumber_70 f r4
  else
    B_X12_takeNumber_28 f x1 x2 u
theorem m_X12_takeNumber {g : GT} {w : LT} (hL : Lay w) {x1 : Int32} {x2 : Int32} {f : Nat} {u : MT} {r : (Int32 × MT)} (h : F_X12_takeNumber f x1 x2 u = some r) : Mt g yX12_takeNumber cX12_takeNumber 3 (some .int) 1 0 0 [.ref 167, .int x1, .int x2] w u (Qi r.1 w r.2) := by
  refine Mt_of (own := RX12) (by decide +kernel) rfl (Nat.le_of_ble_eq_true rfl) (fun z C _ => ?_)
  show V z g 3 0 [(0, .ref 167), (1, .int x1), (2, .int x2)] [] w u 0 0 (Qi r.1 w r.2)
  rw [F_X12_takeNumber] at h
  refine Vaload_n C 0 (dAt D_X12_takeNumber 0 rfl) rfl rfl ?_
  refine VgetI C (dAt D_X12_takeNumber 1 rfl) gf_X12_251 (kt_167 hL) rfl ?_
  refine Vif_ne (tgt := 28) C (dAt D_X12_takeNumber 2 rfl) (by decide) (fun c1 => ?_) (fun c1 => ?_)
  · have h := ok_f c1 h
    exact Vsub [0, 1, 2] rfl (w_X12_takeNumber_28 hL C  h)
  · have h := ok_t c1 h
    refine Vaload_n C 0 (dAt D_X12_takeNumber 3 rfl) rfl rfl ?_
    refine VgetP C (dAt D_X12_takeNumber 4 rfl) gf_X12_24 (kt_167 hL) rfl (kp_167_4 hL) ?_
    refine Vaload_n C 0 (dAt D_X12_takeNumber 5 rfl) rfl rfl ?_
    refine VgetI C (dAt D_X12_takeNumber 6 rfl) gf_X12_248 (kt_167 hL) rfl ?_
    obtain ⟨c2, h⟩ := ok_ck h
    refine Viald C (dAt D_X12_takeNumber 7 rfl) (kt_169 hL) (kl_169 hL) (vp_in_iff.mpr c2) ?_
    refine Viconst (x := 2) C (dAt D_X12_takeNumber 8 rfl) (by decide) ?_
    refine Vicmp_eq (tgt := 28) C (dAt D_X12_takeNumber 9 rfl) (by decide) (fun c3 => ?_) (fun c3 => ?_)
    · have h := ok_t c3 h
      exact Vsub [0, 1, 2] rfl (w_X12_takeNumber_28 hL C  h)
    · have h := ok_f c3 h
      refine Vaload_n C 0 (dAt D_X12_takeNumber 10 rfl) rfl rfl ?_
      refine Viconst (x := 1) C (dAt D_X12_takeNumber 11 rfl) (by decide) ?_
      obtain ⟨r4, e5, h⟩ := ok_b h
      refine VcallV (as := [_]) C (dAt D_X12_takeNumber 12 rfl) (m_X12_wrong hL e5) yv_X12_257 (Or.inl ⟨(kt_167 hL), by decide⟩) rfl rfl (Nat.le_of_ble_eq_true rfl) (by decide) (by decide) (by decide) (by decide) (Kvoid ?_)
      refine Vgoto (tgt := 70) C (dAt D_X12_takeNumber 13 rfl) (by decide) ?_
      exact Vsub [0] rfl (w_X12_takeNumber_70 hL C  h)
def B_X12_oneOf_2 (f : Nat) : Nat → Int32 → Int32 → Int32 → MT → Option (Int32 × MT)
  | 0, _, _, _, _ => none
  | n + 1, x1, x2, x3, u =>
    if x2 ≤ x3 then
      (F_X12_wrong f (1 : Int32) u).bind fun r2 =>
      some ((0 : Int32), r2)
    else
      (F_X12_hasWord f (x1 + x3) u).bind fun r4 =>
      if r4.1 = 0 then
        let v7 := x3 + 1
        B_X12_oneOf_2 f n x1 x2 v7 r4.2
      else
        some (x3, r4.2)
theorem w_X12_oneOf_2 {z : ZT} {g : GT} {w : LT} (hL : Lay w) (C : Cx z g cX12_oneOf 4 RX12 (some .int) 2 0 0) {f : Nat} {r : (Int32 × MT)} : ∀ (n : Nat) (x1 : Int32) (x2 : Int32) (x3 : Int32) (u : MT), B_X12_oneOf_2 f n x1 x2 x3 u = some r → V z g 4 2 [(0, .ref 167), (1, .int x1), (2, .int x2), (3, .int x3)] [] w u 0 0 (Qi r.1 w r.2) := by
  intro n
  induction n with
  | zero =>
    intro x1 x2 x3 u h
    rw [B_X12_oneOf_2] at h
    cases h
  | succ n ih =>
    intro x1 x2 x3 u h
    rw [B_X12_oneOf_2] at h
    refine Viload_n C 3 (dAt D_X12_oneOf 2 rfl) rfl rfl ?_
    refine Viload_n C 2 (dAt D_X12_oneOf 3 rfl) rfl rfl ?_
    refine Vicmp_ge (tgt := 25) C (dAt D_X12_oneOf 4 rfl) (by decide) (fun c1 => ?_) (fun c1 => ?_)
    · have h := ok_t c1 h
      refine Vaload_n C 0 (dAt D_X12_oneOf 15 rfl) rfl rfl ?_
      refine Viconst (x := 1) C (dAt D_X12_oneOf 16 rfl) (by decide) ?_
      obtain ⟨r2, e3, h⟩ := ok_b h
      refine VcallV (as := [_]) C (dAt D_X12_oneOf 17 rfl) (m_X12_wrong hL e3) yv_X12_257 (Or.inl ⟨(kt_167 hL), by decide⟩) rfl rfl (Nat.le_of_ble_eq_true rfl) (by decide) (by decide) (by decide) (by decide) (Kvoid ?_)
      refine Viconst (x := 0) C (dAt D_X12_oneOf 18 rfl) (by decide) ?_
      cases h
      exact Viret C (dAt D_X12_oneOf 19 rfl) (by decide) (by decide) ⟨rfl, rfl, rfl⟩
    · have h := ok_f c1 h
      refine Vaload_n C 0 (dAt D_X12_oneOf 5 rfl) rfl rfl ?_
      refine Viload_n C 1 (dAt D_X12_oneOf 6 rfl) rfl rfl ?_
      refine Viload_n C 3 (dAt D_X12_oneOf 7 rfl) rfl rfl ?_
      refine Viadd C (dAt D_X12_oneOf 8 rfl) ?_
      obtain ⟨r4, e5, h⟩ := ok_b h
      refine VcallV (as := [_]) C (dAt D_X12_oneOf 9 rfl) (m_X12_hasWord hL e5) yv_X12_264 (Or.inl ⟨(kt_167 hL), by decide⟩) rfl rfl (Nat.le_of_ble_eq_true rfl) (by decide) (by decide) (by decide) (by decide) (Kint ?_)
      refine Vif_eq (tgt := 19) C (dAt D_X12_oneOf 10 rfl) (by decide) (fun c6 => ?_) (fun c6 => ?_)
      · have h := ok_t c6 h
        refine Viinc (j := 3) (v := _ + 1) (lv' := [(3, _), (0, _), (1, _), (2, _)]) C (dAt D_X12_oneOf 13 rfl) rfl rfl (by decide) rfl ?_
        refine Vgoto (tgt := 2) C (dAt D_X12_oneOf 14 rfl) (by decide) ?_
        exact Vsub [1, 2, 3, 0] rfl (ih _ _ _ _  h)
      · have h := ok_f c6 h
        refine Viload_n C 3 (dAt D_X12_oneOf 11 rfl) rfl rfl ?_
        cases h
        exact Viret C (dAt D_X12_oneOf 12 rfl) (by decide) (by decide) ⟨rfl, rfl, rfl⟩
def F_X12_oneOf (f : Nat) (x1 : Int32) (x2 : Int32) (u : MT) : Option (Int32 × MT) :=
  B_X12_oneOf_2 f f x1 x2 (0 : Int32) u
theorem m_X12_oneOf {g : GT} {w : LT} (hL : Lay w) {x1 : Int32} {x2 : Int32} {f : Nat} {u : MT} {r : (Int32 × MT)} (h : F_X12_oneOf f x1 x2 u = some r) : Mt g yX12_oneOf cX12_oneOf 4 (some .int) 2 0 0 [.ref 167, .int x1, .int x2] w u (Qi r.1 w r.2) := by
  refine Mt_of (own := RX12) (by decide +kernel) rfl (Nat.le_of_ble_eq_true rfl) (fun z C _ => ?_)
  show V z g 4 0 [(0, .ref 167), (1, .int x1), (2, .int x2)] [] w u 0 0 (Qi r.1 w r.2)
  rw [F_X12_oneOf] at h
  refine Viconst (x := 0) C (dAt D_X12_oneOf 0 rfl) (by decide) ?_
  refine Vistore_n (lv' := [(3, _), (0, _), (1, _), (2, _)]) C (dAt D_X12_oneOf 1 rfl) rfl (by decide) rfl ?_
  exact Vsub [1, 2, 3, 0] rfl (w_X12_oneOf_2 hL C  f _ _ _ _  h)
def F_X12_emit (f : Nat) (x1 : Int32) (x2 : Int32) (u : MT) : Option MT :=
  let v1 := ((9100 : Int32) + (gI u 184 7))
  ck (ixo v1 10400) <|
  let u3 := sI u 182 (v1).toNatClampNeg x1
  let u4 := sI u3 183 (v1).toNatClampNeg x2
  let u5 := sI u4 184 7 ((gI u4 184 7) + (1 : Int32))
  some u5
theorem m_X12_emit {g : GT} {w : LT} (hL : Lay w) {x1 : Int32} {x2 : Int32} {f : Nat} {u : MT} {r : MT} (h : F_X12_emit f x1 x2 u = some r) : Mt g yX12_emit cX12_emit 4 none 0 0 0 [.ref 167, .int x1, .int x2] w u (Qv w r) := by
  refine Mt_of (own := RX12) (by decide +kernel) rfl (Nat.le_of_ble_eq_true rfl) (fun z C _ => ?_)
  show V z g 4 0 [(0, .ref 167), (1, .int x1), (2, .int x2)] [] w u 0 0 (Qv w r)
  rw [F_X12_emit] at h
  refine Vsipush (x := 9100) C (dAt D_X12_emit 0 rfl) (by decide) ?_
  refine Vaload_n C 0 (dAt D_X12_emit 1 rfl) rfl rfl ?_
  refine VgetP C (dAt D_X12_emit 2 rfl) gf_X12_118 (kt_167 hL) rfl (kp_167_21 hL) ?_
  refine Vbipush (x := 7) C (dAt D_X12_emit 3 rfl) (by decide) ?_
  refine VialdC 7 C (dAt D_X12_emit 4 rfl) (kt_184 hL) (kl_184 hL) (by decide) rfl ?_
  refine Viadd C (dAt D_X12_emit 5 rfl) ?_
  refine Vistore_n (lv' := [(3, _), (0, _), (1, _), (2, _)]) C (dAt D_X12_emit 6 rfl) rfl (by decide) rfl ?_
  refine Vaload_n C 1 (dAt D_X12_emit 7 rfl) rfl rfl ?_
  refine VgetP C (dAt D_X12_emit 8 rfl) gf_X12_112 (kt_167 hL) rfl (kp_167_19 hL) ?_
  refine Viload_n C 0 (dAt D_X12_emit 9 rfl) rfl rfl ?_
  refine Viload_n C 2 (dAt D_X12_emit 10 rfl) rfl rfl ?_
  obtain ⟨c2, h⟩ := ok_ck h
  refine Viast C (dAt D_X12_emit 11 rfl) (kt_182 hL) (kl_182 hL) (vp_in_iff.mpr c2) ?_
  refine Vaload_n C 1 (dAt D_X12_emit 12 rfl) rfl rfl ?_
  refine VgetP C (dAt D_X12_emit 13 rfl) gf_X12_115 (kt_167 hL) rfl (kp_167_20 hL) ?_
  refine Viload_n C 0 (dAt D_X12_emit 14 rfl) rfl rfl ?_
  refine Viload_n C 3 (dAt D_X12_emit 15 rfl) rfl rfl ?_
  refine Viast C (dAt D_X12_emit 16 rfl) (kt_183 hL) (kl_183 hL) (vp_in_iff.mpr c2) ?_
  refine Vaload_n C 1 (dAt D_X12_emit 17 rfl) rfl rfl ?_
  refine VgetP C (dAt D_X12_emit 18 rfl) gf_X12_118 (kt_167 hL) rfl (kp_167_21 hL) ?_
  refine Vbipush (x := 7) C (dAt D_X12_emit 19 rfl) (by decide) ?_
  refine Vdup2 C (dAt D_X12_emit 20 rfl) rfl rfl ?_
  refine VialdC 7 C (dAt D_X12_emit 21 rfl) (kt_184 hL) (kl_184 hL) (by decide) rfl ?_
  refine Viconst (x := 1) C (dAt D_X12_emit 22 rfl) (by decide) ?_
  refine Viadd C (dAt D_X12_emit 23 rfl) ?_
  refine ViastC 7 C (dAt D_X12_emit 24 rfl) (kt_184 hL) (kl_184 hL) (by decide) rfl ?_
  cases h
  exact Vvret C (dAt D_X12_emit 25 rfl) (by decide) (by decide) ⟨rfl, rfl, rfl⟩
def B_X12_isRule_33 (f : Nat) (u : MT) : Option (Int32 × MT) :=
  some ((1 : Int32), u)
theorem w_X12_isRule_33 {z : ZT} {g : GT} {w : LT} (hL : Lay w) (C : Cx z g cX12_isRule 1 RX12 (some .boolean) 1 0 0) {f : Nat} {r : (Int32 × MT)} {u : MT} (h : B_X12_isRule_33 f  u = some r) : V z g 1 33 [] [] w u 0 0 (Qi r.1 w r.2) := by
  rw [B_X12_isRule_33] at h
  refine Viconst (x := 1) C (dAt D_X12_isRule 16 rfl) (by decide) ?_
  refine Vgoto (tgt := 38) C (dAt D_X12_isRule 17 rfl) (by decide) ?_
  cases h
  exact Vzret C (dAt D_X12_isRule 19 rfl) rfl (by decide) (by decide) ⟨rfl, rfl, rfl⟩
def F_X12_isRule (f : Nat) (u : MT) : Option (Int32 × MT) :=
  (F_X12_isWord f (0 : Int32) u).bind fun r1 =>
  if r1.1 = 0 then
    (F_X12_isWord f (1 : Int32) r1.2).bind fun r4 =>
    if r4.1 = 0 then
      (F_X12_isWord f (5 : Int32) r4.2).bind fun r7 =>
      if r7.1 = 0 then
        (F_X12_isWord f (6 : Int32) r7.2).bind fun r10 =>
        if r10.1 = 0 then
          some ((0 : Int32), r10.2)
        else
          B_X12_isRule_33 f r10.2
      else
        B_X12_isRule_33 f r7.2
    else
      B_X12_isRule_33 f r4.2
  else
    B_X12_isRule_33 f r1.2
theorem m_X12_isRule {g : GT} {w : LT} (hL : Lay w) {f : Nat} {u : MT} {r : (Int32 × MT)} (h : F_X12_isRule f  u = some r) : Mt g yX12_isRule cX12_isRule 1 (some .boolean) 1 0 0 [.ref 167] w u (Qi r.1 w r.2) := by
  refine Mt_of (own := RX12) (by decide +kernel) rfl (Nat.le_of_ble_eq_true rfl) (fun z C _ => ?_)
  show V z g 1 0 [(0, .ref 167)] [] w u 0 0 (Qi r.1 w r.2)
  rw [F_X12_isRule] at h
  refine Vaload_n C 0 (dAt D_X12_isRule 0 rfl) rfl rfl ?_
  refine Viconst (x := 0) C (dAt D_X12_isRule 1 rfl) (by decide) ?_
  obtain ⟨r1, e2, h⟩ := ok_b h
  refine VcallV (as := [_]) C (dAt D_X12_isRule 2 rfl) (m_X12_isWord hL e2) yv_X12_261 (Or.inl ⟨(kt_167 hL), by decide⟩) rfl rfl (Nat.le_of_ble_eq_true rfl) (by decide) (by decide) (by decide) (by decide) (Kint ?_)
  refine Vif_ne (tgt := 33) C (dAt D_X12_isRule 3 rfl) (by decide) (fun c3 => ?_) (fun c3 => ?_)
  · have h := ok_f c3 h
    exact Vsub [] rfl (w_X12_isRule_33 hL C  h)
  · have h := ok_t c3 h
    refine Vaload_n C 0 (dAt D_X12_isRule 4 rfl) rfl rfl ?_
    refine Viconst (x := 1) C (dAt D_X12_isRule 5 rfl) (by decide) ?_
    obtain ⟨r4, e5, h⟩ := ok_b h
    refine VcallV (as := [_]) C (dAt D_X12_isRule 6 rfl) (m_X12_isWord hL e5) yv_X12_261 (Or.inl ⟨(kt_167 hL), by decide⟩) rfl rfl (Nat.le_of_ble_eq_true rfl) (by decide) (by decide) (by decide) (by decide) (Kint ?_)
    refine Vif_ne (tgt := 33) C (dAt D_X12_isRule 7 rfl) (by decide) (fun c6 => ?_) (fun c6 => ?_)
    · have h := ok_f c6 h
      exact Vsub [] rfl (w_X12_isRule_33 hL C  h)
    · have h := ok_t c6 h
      refine Vaload_n C 0 (dAt D_X12_isRule 8 rfl) rfl rfl ?_
      refine Viconst (x := 5) C (dAt D_X12_isRule 9 rfl) (by decide) ?_
      obtain ⟨r7, e8, h⟩ := ok_b h
      refine VcallV (as := [_]) C (dAt D_X12_isRule 10 rfl) (m_X12_isWord hL e8) yv_X12_261 (Or.inl ⟨(kt_167 hL), by decide⟩) rfl rfl (Nat.le_of_ble_eq_true rfl) (by decide) (by decide) (by decide) (by decide) (Kint ?_)
      refine Vif_ne (tgt := 33) C (dAt D_X12_isRule 11 rfl) (by decide) (fun c9 => ?_) (fun c9 => ?_)
      · have h := ok_f c9 h
        exact Vsub [] rfl (w_X12_isRule_33 hL C  h)
      · have h := ok_t c9 h
        refine Vaload_n C 0 (dAt D_X12_isRule 12 rfl) rfl rfl ?_
        refine Vbipush (x := 6) C (dAt D_X12_isRule 13 rfl) (by decide) ?_
        obtain ⟨r10, e11, h⟩ := ok_b h
        refine VcallV (as := [_]) C (dAt D_X12_isRule 14 rfl) (m_X12_isWord hL e11) yv_X12_261 (Or.inl ⟨(kt_167 hL), by decide⟩) rfl rfl (Nat.le_of_ble_eq_true rfl) (by decide) (by decide) (by decide) (by decide) (Kint ?_)
        refine Vif_eq (tgt := 37) C (dAt D_X12_isRule 15 rfl) (by decide) (fun c12 => ?_) (fun c12 => ?_)
        · have h := ok_t c12 h
          refine Viconst (x := 0) C (dAt D_X12_isRule 18 rfl) (by decide) ?_
          cases h
          exact Vzret C (dAt D_X12_isRule 19 rfl) rfl (by decide) (by decide) ⟨rfl, rfl, rfl⟩
        · have h := ok_f c12 h
          exact Vsub [] rfl (w_X12_isRule_33 hL C  h)
def F_X12_opens (f : Nat) (u : MT) : Option MT :=
  ck (ixo (gI u 167 26) 8) <|
  let u2 := sI u 187 ((gI u 167 26)).toNatClampNeg (0 : Int32)
  ck (ixo (gI u2 167 26) 8) <|
  let u4 := sI u2 188 ((gI u2 167 26)).toNatClampNeg (0 : Int32)
  some u4
theorem m_X12_opens {g : GT} {w : LT} (hL : Lay w) {f : Nat} {u : MT} {r : MT} (h : F_X12_opens f  u = some r) : Mt g yX12_opens cX12_opens 1 none 0 0 0 [.ref 167] w u (Qv w r) := by
  refine Mt_of (own := RX12) (by decide +kernel) rfl (Nat.le_of_ble_eq_true rfl) (fun z C _ => ?_)
  show V z g 1 0 [(0, .ref 167)] [] w u 0 0 (Qv w r)
  rw [F_X12_opens] at h
  refine Vaload_n C 0 (dAt D_X12_opens 0 rfl) rfl rfl ?_
  refine VgetP C (dAt D_X12_opens 1 rfl) gf_X12_127 (kt_167 hL) rfl (kp_167_27 hL) ?_
  refine Vaload_n C 0 (dAt D_X12_opens 2 rfl) rfl rfl ?_
  refine VgetI C (dAt D_X12_opens 3 rfl) gf_X12_303 (kt_167 hL) rfl ?_
  refine Viconst (x := 0) C (dAt D_X12_opens 4 rfl) (by decide) ?_
  obtain ⟨c1, h⟩ := ok_ck h
  refine Viast C (dAt D_X12_opens 5 rfl) (kt_187 hL) (kl_187 hL) (vp_in_iff.mpr c1) ?_
  refine Vaload_n C 0 (dAt D_X12_opens 6 rfl) rfl rfl ?_
  refine VgetP C (dAt D_X12_opens 7 rfl) gf_X12_130 (kt_167 hL) rfl (kp_167_28 hL) ?_
  refine Vaload_n C 0 (dAt D_X12_opens 8 rfl) rfl rfl ?_
  refine VgetI C (dAt D_X12_opens 9 rfl) gf_X12_303 (kt_167 hL) rfl ?_
  refine Viconst (x := 0) C (dAt D_X12_opens 10 rfl) (by decide) ?_
  obtain ⟨c3, h⟩ := ok_ck h
  refine Viast C (dAt D_X12_opens 11 rfl) (kt_188 hL) (kl_188 hL) (vp_in_iff.mpr c3) ?_
  cases h
  exact Vvret C (dAt D_X12_opens 12 rfl) (by decide) (by decide) ⟨rfl, rfl, rfl⟩
def B_X12_isPart_74 (f : Nat) (u : MT) : Option (Int32 × MT) :=
  some ((1 : Int32), u)
theorem w_X12_isPart_74 {z : ZT} {g : GT} {w : LT} (hL : Lay w) (C : Cx z g cX12_isPart 1 RX12 (some .boolean) 1 0 0) {f : Nat} {r : (Int32 × MT)} {u : MT} (h : B_X12_isPart_74 f  u = some r) : V z g 1 74 [] [] w u 0 0 (Qi r.1 w r.2) := by
  rw [B_X12_isPart_74] at h
  refine Viconst (x := 1) C (dAt D_X12_isPart 34 rfl) (by decide) ?_
  refine Vgoto (tgt := 79) C (dAt D_X12_isPart 35 rfl) (by decide) ?_
  cases h
  exact Vzret C (dAt D_X12_isPart 37 rfl) rfl (by decide) (by decide) ⟨rfl, rfl, rfl⟩
def F_X12_isPart (f : Nat) (u : MT) : Option (Int32 × MT) :=
  if (gI u 167 8) = 0 then
    ck (ixo (gI u 167 7) 1202) <|
    if (gI u 169 ((gI u 167 7)).toNatClampNeg) = (2 : Int32) then
      B_X12_isPart_74 f u
    else
      (F_X12_isSign f (40 : Int32) u).bind fun r4 =>
      if r4.1 = 0 then
        (F_X12_isWord f (18 : Int32) r4.2).bind fun r7 =>
        if r7.1 = 0 then
          (F_X12_isWord f (19 : Int32) r7.2).bind fun r10 =>
          if r10.1 = 0 then
            (F_X12_isWord f (9 : Int32) r10.2).bind fun r13 =>
            if r13.1 = 0 then
              (F_X12_isWord f (10 : Int32) r13.2).bind fun r16 =>
              if r16.1 = 0 then
                (F_X12_isWord f (20 : Int32) r16.2).bind fun r19 =>
                if r19.1 = 0 then
                  some ((0 : Int32), r19.2)
                else
                  B_X12_isPart_74 f r19.2
              else
                B_X12_isPart_74 f r16.2
            else
              B_X12_isPart_74 f r13.2
          else
            B_X12_isPart_74 f r10.2
        else
          B_X12_isPart_74 f r7.2
      else
        B_X12_isPart_74 f r4.2
  else
    some ((0 : Int32), u)
theorem m_X12_isPart {g : GT} {w : LT} (hL : Lay w) {f : Nat} {u : MT} {r : (Int32 × MT)} (h : F_X12_isPart f  u = some r) : Mt g yX12_isPart cX12_isPart 1 (some .boolean) 1 0 0 [.ref 167] w u (Qi r.1 w r.2) := by
  refine Mt_of (own := RX12) (by decide +kernel) rfl (Nat.le_of_ble_eq_true rfl) (fun z C _ => ?_)
  show V z g 1 0 [(0, .ref 167)] [] w u 0 0 (Qi r.1 w r.2)
  rw [F_X12_isPart] at h
  refine Vaload_n C 0 (dAt D_X12_isPart 0 rfl) rfl rfl ?_
  refine VgetI C (dAt D_X12_isPart 1 rfl) gf_X12_251 (kt_167 hL) rfl ?_
  refine Vif_ne (tgt := 78) C (dAt D_X12_isPart 2 rfl) (by decide) (fun c1 => ?_) (fun c1 => ?_)
  · have h := ok_f c1 h
    refine Viconst (x := 0) C (dAt D_X12_isPart 36 rfl) (by decide) ?_
    cases h
    exact Vzret C (dAt D_X12_isPart 37 rfl) rfl (by decide) (by decide) ⟨rfl, rfl, rfl⟩
  · have h := ok_t c1 h
    refine Vaload_n C 0 (dAt D_X12_isPart 3 rfl) rfl rfl ?_
    refine VgetP C (dAt D_X12_isPart 4 rfl) gf_X12_24 (kt_167 hL) rfl (kp_167_4 hL) ?_
    refine Vaload_n C 0 (dAt D_X12_isPart 5 rfl) rfl rfl ?_
    refine VgetI C (dAt D_X12_isPart 6 rfl) gf_X12_248 (kt_167 hL) rfl ?_
    obtain ⟨c2, h⟩ := ok_ck h
    refine Viald C (dAt D_X12_isPart 7 rfl) (kt_169 hL) (kl_169 hL) (vp_in_iff.mpr c2) ?_
    refine Viconst (x := 2) C (dAt D_X12_isPart 8 rfl) (by decide) ?_
    refine Vicmp_eq (tgt := 74) C (dAt D_X12_isPart 9 rfl) (by decide) (fun c3 => ?_) (fun c3 => ?_)
    · have h := ok_t c3 h
      exact Vsub [] rfl (w_X12_isPart_74 hL C  h)
    · have h := ok_f c3 h
      refine Vaload_n C 0 (dAt D_X12_isPart 10 rfl) rfl rfl ?_
      refine Vbipush (x := 40) C (dAt D_X12_isPart 11 rfl) (by decide) ?_
      obtain ⟨r4, e5, h⟩ := ok_b h
      refine VcallV (as := [_]) C (dAt D_X12_isPart 12 rfl) (m_X12_isSign hL e5) yv_X12_254 (Or.inl ⟨(kt_167 hL), by decide⟩) rfl rfl (Nat.le_of_ble_eq_true rfl) (by decide) (by decide) (by decide) (by decide) (Kint ?_)
      refine Vif_ne (tgt := 74) C (dAt D_X12_isPart 13 rfl) (by decide) (fun c6 => ?_) (fun c6 => ?_)
      · have h := ok_f c6 h
        exact Vsub [] rfl (w_X12_isPart_74 hL C  h)
      · have h := ok_t c6 h
        refine Vaload_n C 0 (dAt D_X12_isPart 14 rfl) rfl rfl ?_
        refine Vbipush (x := 18) C (dAt D_X12_isPart 15 rfl) (by decide) ?_
        obtain ⟨r7, e8, h⟩ := ok_b h
        refine VcallV (as := [_]) C (dAt D_X12_isPart 16 rfl) (m_X12_isWord hL e8) yv_X12_261 (Or.inl ⟨(kt_167 hL), by decide⟩) rfl rfl (Nat.le_of_ble_eq_true rfl) (by decide) (by decide) (by decide) (by decide) (Kint ?_)
        refine Vif_ne (tgt := 74) C (dAt D_X12_isPart 17 rfl) (by decide) (fun c9 => ?_) (fun c9 => ?_)
        · have h := ok_f c9 h
          exact Vsub [] rfl (w_X12_isPart_74 hL C  h)
        · have h := ok_t c9 h
          refine Vaload_n C 0 (dAt D_X12_isPart 18 rfl) rfl rfl ?_
          refine Vbipush (x := 19) C (dAt D_X12_isPart 19 rfl) (by decide) ?_
          obtain ⟨r10, e11, h⟩ := ok_b h
          refine VcallV (as := [_]) C (dAt D_X12_isPart 20 rfl) (m_X12_isWord hL e11) yv_X12_261 (Or.inl ⟨(kt_167 hL), by decide⟩) rfl rfl (Nat.le_of_ble_eq_true rfl) (by decide) (by decide) (by decide) (by decide) (Kint ?_)
          refine Vif_ne (tgt := 74) C (dAt D_X12_isPart 21 rfl) (by decide) (fun c12 => ?_) (fun c12 => ?_)
          · have h := ok_f c12 h
            exact Vsub [] rfl (w_X12_isPart_74 hL C  h)
          · have h := ok_t c12 h
            refine Vaload_n C 0 (dAt D_X12_isPart 22 rfl) rfl rfl ?_
            refine Vbipush (x := 9) C (dAt D_X12_isPart 23 rfl) (by decide) ?_
            obtain ⟨r13, e14, h⟩ := ok_b h
            refine VcallV (as := [_]) C (dAt D_X12_isPart 24 rfl) (m_X12_isWord hL e14) yv_X12_261 (Or.inl ⟨(kt_167 hL), by decide⟩) rfl rfl (Nat.le_of_ble_eq_true rfl) (by decide) (by decide) (by decide) (by decide) (Kint ?_)
            refine Vif_ne (tgt := 74) C (dAt D_X12_isPart 25 rfl) (by decide) (fun c15 => ?_) (fun c15 => ?_)
            · have h := ok_f c15 h
              exact Vsub [] rfl (w_X12_isPart_74 hL C  h)
            · have h := ok_t c15 h
              refine Vaload_n C 0 (dAt D_X12_isPart 26 rfl) rfl rfl ?_
              refine Vbipush (x := 10) C (dAt D_X12_isPart 27 rfl) (by decide) ?_
              obtain ⟨r16, e17, h⟩ := ok_b h
              refine VcallV (as := [_]) C (dAt D_X12_isPart 28 rfl) (m_X12_isWord hL e17) yv_X12_261 (Or.inl ⟨(kt_167 hL), by decide⟩) rfl rfl (Nat.le_of_ble_eq_true rfl) (by decide) (by decide) (by decide) (by decide) (Kint ?_)
              refine Vif_ne (tgt := 74) C (dAt D_X12_isPart 29 rfl) (by decide) (fun c18 => ?_) (fun c18 => ?_)
              · have h := ok_f c18 h
                exact Vsub [] rfl (w_X12_isPart_74 hL C  h)
              · have h := ok_t c18 h
                refine Vaload_n C 0 (dAt D_X12_isPart 30 rfl) rfl rfl ?_
                refine Vbipush (x := 20) C (dAt D_X12_isPart 31 rfl) (by decide) ?_
                obtain ⟨r19, e20, h⟩ := ok_b h
                refine VcallV (as := [_]) C (dAt D_X12_isPart 32 rfl) (m_X12_isWord hL e20) yv_X12_261 (Or.inl ⟨(kt_167 hL), by decide⟩) rfl rfl (Nat.le_of_ble_eq_true rfl) (by decide) (by decide) (by decide) (by decide) (Kint ?_)
                refine Vif_eq (tgt := 78) C (dAt D_X12_isPart 33 rfl) (by decide) (fun c21 => ?_) (fun c21 => ?_)
                · have h := ok_t c21 h
                  refine Viconst (x := 0) C (dAt D_X12_isPart 36 rfl) (by decide) ?_
                  cases h
                  exact Vzret C (dAt D_X12_isPart 37 rfl) rfl (by decide) (by decide) ⟨rfl, rfl, rfl⟩
                · have h := ok_f c21 h
                  exact Vsub [] rfl (w_X12_isPart_74 hL C  h)
def B_X12_part_169 (f : Nat) (x1 : Int32) (u : MT) : Option (Int32 × MT) :=
  (F_X12_emit f (2 : Int32) x1 u).bind fun r36 =>
  some ((0 : Int32), r36)
theorem w_X12_part_169 {z : ZT} {g : GT} {w : LT} (hL : Lay w) (C : Cx z g cX12_part 2 RX12 (some .boolean) 3 0 0) {f : Nat} {r : (Int32 × MT)} {x1 : Int32} {u : MT} (h : B_X12_part_169 f x1 u = some r) : V z g 2 169 [(0, .ref 167), (1, .int x1)] [] w u 0 0 (Qi r.1 w r.2) := by
  rw [B_X12_part_169] at h
  refine Vaload_n C 0 (dAt D_X12_part 88 rfl) rfl rfl ?_
  refine Viconst (x := 2) C (dAt D_X12_part 89 rfl) (by decide) ?_
  refine Viload_n C 1 (dAt D_X12_part 90 rfl) rfl rfl ?_
  obtain ⟨r36, e37, h⟩ := ok_b h
  refine VcallV (as := [_, _]) C (dAt D_X12_part 91 rfl) (m_X12_emit hL e37) yv_X12_309 (Or.inl ⟨(kt_167 hL), by decide⟩) rfl rfl (Nat.le_of_ble_eq_true rfl) (by decide) (by decide) (by decide) (by decide) (Kvoid ?_)
  refine Viconst (x := 0) C (dAt D_X12_part 92 rfl) (by decide) ?_
  cases h
  exact Vzret C (dAt D_X12_part 93 rfl) rfl (by decide) (by decide) ⟨rfl, rfl, rfl⟩
def B_X12_part_157 (f : Nat) (s0 : Int32) (u : MT) : Option (Int32 × MT) :=
  if s0 = (4 : Int32) then
    (F_X12_takeWord f (20 : Int32) u).bind fun r34 =>
    B_X12_part_169 f s0 r34
  else
    B_X12_part_169 f s0 u
theorem w_X12_part_157 {z : ZT} {g : GT} {w : LT} (hL : Lay w) (C : Cx z g cX12_part 2 RX12 (some .boolean) 3 0 0) {f : Nat} {r : (Int32 × MT)} {s0 : Int32} {u : MT} (h : B_X12_part_157 f s0 u = some r) : V z g 2 157 [(0, .ref 167)] [.int s0] w u 0 0 (Qi r.1 w r.2) := by
  rw [B_X12_part_157] at h
  refine Vistore_n (lv' := [(1, _), (0, _)]) C (dAt D_X12_part 81 rfl) rfl (by decide) rfl ?_
  refine Viload_n C 0 (dAt D_X12_part 82 rfl) rfl rfl ?_
  refine Viconst (x := 4) C (dAt D_X12_part 83 rfl) (by decide) ?_
  refine Vicmp_ne (tgt := 169) C (dAt D_X12_part 84 rfl) (by decide) (fun c33 => ?_) (fun c33 => ?_)
  · have h := ok_f c33 h
    exact Vsub [1, 0] rfl (w_X12_part_169 hL C  h)
  · have h := ok_t c33 h
    refine Vaload_n C 1 (dAt D_X12_part 85 rfl) rfl rfl ?_
    refine Vbipush (x := 20) C (dAt D_X12_part 86 rfl) (by decide) ?_
    obtain ⟨r34, e35, h⟩ := ok_b h
    refine VcallV (as := [_]) C (dAt D_X12_part 87 rfl) (m_X12_takeWord hL e35) yv_X12_273 (Or.inl ⟨(kt_167 hL), by decide⟩) rfl rfl (Nat.le_of_ble_eq_true rfl) (by decide) (by decide) (by decide) (by decide) (Kvoid ?_)
    exact Vsub [1, 0] rfl (w_X12_part_169 hL C  h)
def B_X12_part_29 (f : Nat) (u : MT) : Option (Int32 × MT) :=
  if (gI u 167 8) ≤ 0 then
    ck (ixo (gI u 167 7) 1202) <|
    if (gI u 169 ((gI u 167 7)).toNatClampNeg) = (2 : Int32) then
      (F_X12_emit f (1 : Int32) (((gL u 171 ((gI u 167 7)).toNatClampNeg)).toInt32) u).bind fun r12 =>
      let u14 := sI r12 167 7 ((gI r12 167 7) + (1 : Int32))
      some ((0 : Int32), u14)
    else
      (F_X12_hasSign f (40 : Int32) u).bind fun r15 =>
      if r15.1 = 0 then
        (F_X12_hasWord f (18 : Int32) r15.2).bind fun r18 =>
        if r18.1 = 0 then
          (F_X12_hasWord f (19 : Int32) r18.2).bind fun r21 =>
          if r21.1 = 0 then
            (F_X12_hasWord f (9 : Int32) r21.2).bind fun r24 =>
            if r24.1 = 0 then
              (F_X12_hasWord f (10 : Int32) r24.2).bind fun r27 =>
              if r27.1 = 0 then
                B_X12_part_157 f (4 : Int32) r27.2
              else
                B_X12_part_157 f (3 : Int32) r27.2
            else
              B_X12_part_157 f (2 : Int32) r24.2
          else
            B_X12_part_157 f (1 : Int32) r21.2
        else
          B_X12_part_157 f (0 : Int32) r18.2
      else
        let u30 := sI r15.2 167 26 ((gI r15.2 167 26) + (1 : Int32))
        (F_X12_opens f u30).bind fun r31 =>
        some ((1 : Int32), r31)
  else
    some ((0 : Int32), u)
theorem w_X12_part_29 {z : ZT} {g : GT} {w : LT} (hL : Lay w) (C : Cx z g cX12_part 2 RX12 (some .boolean) 3 0 0) {f : Nat} {r : (Int32 × MT)} {u : MT} (h : B_X12_part_29 f  u = some r) : V z g 2 29 [(0, .ref 167)] [] w u 0 0 (Qi r.1 w r.2) := by
  rw [B_X12_part_29] at h
  refine Vaload_n C 0 (dAt D_X12_part 14 rfl) rfl rfl ?_
  refine VgetI C (dAt D_X12_part 15 rfl) gf_X12_251 (kt_167 hL) rfl ?_
  refine Vif_le (tgt := 38) C (dAt D_X12_part 16 rfl) (by decide) (fun c9 => ?_) (fun c9 => ?_)
  · have h := ok_t c9 h
    refine Vaload_n C 0 (dAt D_X12_part 19 rfl) rfl rfl ?_
    refine VgetP C (dAt D_X12_part 20 rfl) gf_X12_24 (kt_167 hL) rfl (kp_167_4 hL) ?_
    refine Vaload_n C 0 (dAt D_X12_part 21 rfl) rfl rfl ?_
    refine VgetI C (dAt D_X12_part 22 rfl) gf_X12_248 (kt_167 hL) rfl ?_
    obtain ⟨c10, h⟩ := ok_ck h
    refine Viald C (dAt D_X12_part 23 rfl) (kt_169 hL) (kl_169 hL) (vp_in_iff.mpr c10) ?_
    refine Viconst (x := 2) C (dAt D_X12_part 24 rfl) (by decide) ?_
    refine Vicmp_ne (tgt := 79) C (dAt D_X12_part 25 rfl) (by decide) (fun c11 => ?_) (fun c11 => ?_)
    · have h := ok_f c11 h
      refine Vaload_n C 0 (dAt D_X12_part 42 rfl) rfl rfl ?_
      refine Vbipush (x := 40) C (dAt D_X12_part 43 rfl) (by decide) ?_
      obtain ⟨r15, e16, h⟩ := ok_b h
      refine VcallV (as := [_]) C (dAt D_X12_part 44 rfl) (m_X12_hasSign hL e16) yv_X12_325 (Or.inl ⟨(kt_167 hL), by decide⟩) rfl rfl (Nat.le_of_ble_eq_true rfl) (by decide) (by decide) (by decide) (by decide) (Kint ?_)
      refine Vif_eq (tgt := 104) C (dAt D_X12_part 45 rfl) (by decide) (fun c17 => ?_) (fun c17 => ?_)
      · have h := ok_t c17 h
        refine Vaload_n C 0 (dAt D_X12_part 56 rfl) rfl rfl ?_
        refine Vbipush (x := 18) C (dAt D_X12_part 57 rfl) (by decide) ?_
        obtain ⟨r18, e19, h⟩ := ok_b h
        refine VcallV (as := [_]) C (dAt D_X12_part 58 rfl) (m_X12_hasWord hL e19) yv_X12_264 (Or.inl ⟨(kt_167 hL), by decide⟩) rfl rfl (Nat.le_of_ble_eq_true rfl) (by decide) (by decide) (by decide) (by decide) (Kint ?_)
        refine Vif_eq (tgt := 117) C (dAt D_X12_part 59 rfl) (by decide) (fun c20 => ?_) (fun c20 => ?_)
        · have h := ok_t c20 h
          refine Vaload_n C 0 (dAt D_X12_part 62 rfl) rfl rfl ?_
          refine Vbipush (x := 19) C (dAt D_X12_part 63 rfl) (by decide) ?_
          obtain ⟨r21, e22, h⟩ := ok_b h
          refine VcallV (as := [_]) C (dAt D_X12_part 64 rfl) (m_X12_hasWord hL e22) yv_X12_264 (Or.inl ⟨(kt_167 hL), by decide⟩) rfl rfl (Nat.le_of_ble_eq_true rfl) (by decide) (by decide) (by decide) (by decide) (Kint ?_)
          refine Vif_eq (tgt := 130) C (dAt D_X12_part 65 rfl) (by decide) (fun c23 => ?_) (fun c23 => ?_)
          · have h := ok_t c23 h
            refine Vaload_n C 0 (dAt D_X12_part 68 rfl) rfl rfl ?_
            refine Vbipush (x := 9) C (dAt D_X12_part 69 rfl) (by decide) ?_
            obtain ⟨r24, e25, h⟩ := ok_b h
            refine VcallV (as := [_]) C (dAt D_X12_part 70 rfl) (m_X12_hasWord hL e25) yv_X12_264 (Or.inl ⟨(kt_167 hL), by decide⟩) rfl rfl (Nat.le_of_ble_eq_true rfl) (by decide) (by decide) (by decide) (by decide) (Kint ?_)
            refine Vif_eq (tgt := 143) C (dAt D_X12_part 71 rfl) (by decide) (fun c26 => ?_) (fun c26 => ?_)
            · have h := ok_t c26 h
              refine Vaload_n C 0 (dAt D_X12_part 74 rfl) rfl rfl ?_
              refine Vbipush (x := 10) C (dAt D_X12_part 75 rfl) (by decide) ?_
              obtain ⟨r27, e28, h⟩ := ok_b h
              refine VcallV (as := [_]) C (dAt D_X12_part 76 rfl) (m_X12_hasWord hL e28) yv_X12_264 (Or.inl ⟨(kt_167 hL), by decide⟩) rfl rfl (Nat.le_of_ble_eq_true rfl) (by decide) (by decide) (by decide) (by decide) (Kint ?_)
              refine Vif_eq (tgt := 156) C (dAt D_X12_part 77 rfl) (by decide) (fun c29 => ?_) (fun c29 => ?_)
              · have h := ok_t c29 h
                refine Viconst (x := 4) C (dAt D_X12_part 80 rfl) (by decide) ?_
                exact Vsub [0] rfl (w_X12_part_157 hL C  h)
              · have h := ok_f c29 h
                refine Viconst (x := 3) C (dAt D_X12_part 78 rfl) (by decide) ?_
                refine Vgoto (tgt := 157) C (dAt D_X12_part 79 rfl) (by decide) ?_
                exact Vsub [0] rfl (w_X12_part_157 hL C  h)
            · have h := ok_f c26 h
              refine Viconst (x := 2) C (dAt D_X12_part 72 rfl) (by decide) ?_
              refine Vgoto (tgt := 157) C (dAt D_X12_part 73 rfl) (by decide) ?_
              exact Vsub [0] rfl (w_X12_part_157 hL C  h)
          · have h := ok_f c23 h
            refine Viconst (x := 1) C (dAt D_X12_part 66 rfl) (by decide) ?_
            refine Vgoto (tgt := 157) C (dAt D_X12_part 67 rfl) (by decide) ?_
            exact Vsub [0] rfl (w_X12_part_157 hL C  h)
        · have h := ok_f c20 h
          refine Viconst (x := 0) C (dAt D_X12_part 60 rfl) (by decide) ?_
          refine Vgoto (tgt := 157) C (dAt D_X12_part 61 rfl) (by decide) ?_
          exact Vsub [0] rfl (w_X12_part_157 hL C  h)
      · have h := ok_f c17 h
        refine Vaload_n C 0 (dAt D_X12_part 46 rfl) rfl rfl ?_
        refine Vdup C (dAt D_X12_part 47 rfl) rfl ?_
        refine VgetI C (dAt D_X12_part 48 rfl) gf_X12_303 (kt_167 hL) rfl ?_
        refine Viconst (x := 1) C (dAt D_X12_part 49 rfl) (by decide) ?_
        refine Viadd C (dAt D_X12_part 50 rfl) ?_
        refine VputI C (dAt D_X12_part 51 rfl) gf_X12_303 (kt_167 hL) rfl rfl rfl rfl ?_
        refine Vaload_n C 0 (dAt D_X12_part 52 rfl) rfl rfl ?_
        obtain ⟨r31, e32, h⟩ := ok_b h
        refine VcallV (as := []) C (dAt D_X12_part 53 rfl) (m_X12_opens hL e32) yv_X12_313 (Or.inl ⟨(kt_167 hL), by decide⟩) rfl rfl (Nat.le_of_ble_eq_true rfl) (by decide) (by decide) (by decide) (by decide) (Kvoid ?_)
        refine Viconst (x := 1) C (dAt D_X12_part 54 rfl) (by decide) ?_
        cases h
        exact Vzret C (dAt D_X12_part 55 rfl) rfl (by decide) (by decide) ⟨rfl, rfl, rfl⟩
    · have h := ok_t c11 h
      refine Vaload_n C 0 (dAt D_X12_part 26 rfl) rfl rfl ?_
      refine Viconst (x := 1) C (dAt D_X12_part 27 rfl) (by decide) ?_
      refine Vaload_n C 0 (dAt D_X12_part 28 rfl) rfl rfl ?_
      refine VgetP C (dAt D_X12_part 29 rfl) gf_X12_30 (kt_167 hL) rfl (kp_167_6 hL) ?_
      refine Vaload_n C 0 (dAt D_X12_part 30 rfl) rfl rfl ?_
      refine VgetI C (dAt D_X12_part 31 rfl) gf_X12_248 (kt_167 hL) rfl ?_
      refine Vlald C (dAt D_X12_part 32 rfl) (kt_171 hL) (kl_171 hL) (vp_in_iff.mpr c10) ?_
      refine Vl2i C (dAt D_X12_part 33 rfl) ?_
      obtain ⟨r12, e13, h⟩ := ok_b h
      refine VcallV (as := [_, _]) C (dAt D_X12_part 34 rfl) (m_X12_emit hL e13) yv_X12_309 (Or.inl ⟨(kt_167 hL), by decide⟩) rfl rfl (Nat.le_of_ble_eq_true rfl) (by decide) (by decide) (by decide) (by decide) (Kvoid ?_)
      refine Vaload_n C 0 (dAt D_X12_part 35 rfl) rfl rfl ?_
      refine Vdup C (dAt D_X12_part 36 rfl) rfl ?_
      refine VgetI C (dAt D_X12_part 37 rfl) gf_X12_248 (kt_167 hL) rfl ?_
      refine Viconst (x := 1) C (dAt D_X12_part 38 rfl) (by decide) ?_
      refine Viadd C (dAt D_X12_part 39 rfl) ?_
      refine VputI C (dAt D_X12_part 40 rfl) gf_X12_248 (kt_167 hL) rfl rfl rfl rfl ?_
      refine Vgoto (tgt := 175) C (dAt D_X12_part 41 rfl) (by decide) ?_
      refine Viconst (x := 0) C (dAt D_X12_part 92 rfl) (by decide) ?_
      cases h
      exact Vzret C (dAt D_X12_part 93 rfl) rfl (by decide) (by decide) ⟨rfl, rfl, rfl⟩
  · have h := ok_f c9 h
    refine Viconst (x := 0) C (dAt D_X12_part 17 rfl) (by decide) ?_
    cases h
    exact Vzret C (dAt D_X12_part 18 rfl) rfl (by decide) (by decide) ⟨rfl, rfl, rfl⟩
def F_X12_part (f : Nat) (u : MT) : Option (Int32 × MT) :=
  (F_X12_isPart f u).bind fun r1 =>
  if r1.1 = 0 then
    (F_X12_wrong f (1 : Int32) r1.2).bind fun r4 =>
    B_X12_part_29 f r4
  else
    if (gI r1.2 167 26) = (6 : Int32) then
      (F_X12_wrong f (5 : Int32) r1.2).bind fun r7 =>
      B_X12_part_29 f r7
    else
      B_X12_part_29 f r1.2
theorem m_X12_part {g : GT} {w : LT} (hL : Lay w) {f : Nat} {u : MT} {r : (Int32 × MT)} (h : F_X12_part f  u = some r) : Mt g yX12_part cX12_part 2 (some .boolean) 3 0 0 [.ref 167] w u (Qi r.1 w r.2) := by
  refine Mt_of (own := RX12) (by decide +kernel) rfl (Nat.le_of_ble_eq_true rfl) (fun z C _ => ?_)
  show V z g 2 0 [(0, .ref 167)] [] w u 0 0 (Qi r.1 w r.2)
  rw [F_X12_part] at h
  refine Vaload_n C 0 (dAt D_X12_part 0 rfl) rfl rfl ?_
  obtain ⟨r1, e2, h⟩ := ok_b h
  refine VcallV (as := []) C (dAt D_X12_part 1 rfl) (m_X12_isPart hL e2) yv_X12_322 (Or.inl ⟨(kt_167 hL), by decide⟩) rfl rfl (Nat.le_of_ble_eq_true rfl) (by decide) (by decide) (by decide) (by decide) (Kint ?_)
  refine Vif_ne (tgt := 15) C (dAt D_X12_part 2 rfl) (by decide) (fun c3 => ?_) (fun c3 => ?_)
  · have h := ok_f c3 h
    refine Vaload_n C 0 (dAt D_X12_part 7 rfl) rfl rfl ?_
    refine VgetI C (dAt D_X12_part 8 rfl) gf_X12_303 (kt_167 hL) rfl ?_
    refine Vbipush (x := 6) C (dAt D_X12_part 9 rfl) (by decide) ?_
    refine Vicmp_ne (tgt := 29) C (dAt D_X12_part 10 rfl) (by decide) (fun c6 => ?_) (fun c6 => ?_)
    · have h := ok_f c6 h
      exact Vsub [0] rfl (w_X12_part_29 hL C  h)
    · have h := ok_t c6 h
      refine Vaload_n C 0 (dAt D_X12_part 11 rfl) rfl rfl ?_
      refine Viconst (x := 5) C (dAt D_X12_part 12 rfl) (by decide) ?_
      obtain ⟨r7, e8, h⟩ := ok_b h
      refine VcallV (as := [_]) C (dAt D_X12_part 13 rfl) (m_X12_wrong hL e8) yv_X12_257 (Or.inl ⟨(kt_167 hL), by decide⟩) rfl rfl (Nat.le_of_ble_eq_true rfl) (by decide) (by decide) (by decide) (by decide) (Kvoid ?_)
      exact Vsub [0] rfl (w_X12_part_29 hL C  h)
  · have h := ok_t c3 h
    refine Vaload_n C 0 (dAt D_X12_part 3 rfl) rfl rfl ?_
    refine Viconst (x := 1) C (dAt D_X12_part 4 rfl) (by decide) ?_
    obtain ⟨r4, e5, h⟩ := ok_b h
    refine VcallV (as := [_]) C (dAt D_X12_part 5 rfl) (m_X12_wrong hL e5) yv_X12_257 (Or.inl ⟨(kt_167 hL), by decide⟩) rfl rfl (Nat.le_of_ble_eq_true rfl) (by decide) (by decide) (by decide) (by decide) (Kvoid ?_)
    refine Vgoto (tgt := 29) C (dAt D_X12_part 6 rfl) (by decide) ?_
    exact Vsub [0] rfl (w_X12_part_29 hL C  h)
def B_X12_goesOn_179 (f : Nat) (j0 : MT → Option (Int32 × MT)) (u : MT) : Option (Int32 × MT) :=
  if (gI u 167 26) = 0 then
    some ((0 : Int32), u)
  else
    (F_X12_takeSign f (41 : Int32) u).bind fun r25 =>
    let u27 := sI r25 167 26 ((gI r25 167 26) - (1 : Int32))
    j0 u27
theorem w_X12_goesOn_179 {z : ZT} {g : GT} {w : LT} (hL : Lay w) (C : Cx z g cX12_goesOn 1 RX12 (some .boolean) 2 0 0) {f : Nat} {r : (Int32 × MT)} {j0 : MT → Option (Int32 × MT)} (q0 : ∀ (u : MT), j0  u = some r → V z g 1 0 [(0, .ref 167)] [] w u 0 0 (Qi r.1 w r.2)) {u : MT} (h : B_X12_goesOn_179 f j0  u = some r) : V z g 1 179 [(0, .ref 167)] [] w u 0 0 (Qi r.1 w r.2) := by
  rw [B_X12_goesOn_179] at h
  refine Vaload_n C 0 (dAt D_X12_goesOn 94 rfl) rfl rfl ?_
  refine VgetI C (dAt D_X12_goesOn 95 rfl) gf_X12_303 (kt_167 hL) rfl ?_
  refine Vif_ne (tgt := 188) C (dAt D_X12_goesOn 96 rfl) (by decide) (fun c24 => ?_) (fun c24 => ?_)
  · have h := ok_f c24 h
    refine Vaload_n C 0 (dAt D_X12_goesOn 99 rfl) rfl rfl ?_
    refine Vbipush (x := 41) C (dAt D_X12_goesOn 100 rfl) (by decide) ?_
    obtain ⟨r25, e26, h⟩ := ok_b h
    refine VcallV (as := [_]) C (dAt D_X12_goesOn 101 rfl) (m_X12_takeSign hL e26) yv_X12_280 (Or.inl ⟨(kt_167 hL), by decide⟩) rfl rfl (Nat.le_of_ble_eq_true rfl) (by decide) (by decide) (by decide) (by decide) (Kvoid ?_)
    refine Vaload_n C 0 (dAt D_X12_goesOn 102 rfl) rfl rfl ?_
    refine Vdup C (dAt D_X12_goesOn 103 rfl) rfl ?_
    refine VgetI C (dAt D_X12_goesOn 104 rfl) gf_X12_303 (kt_167 hL) rfl ?_
    refine Viconst (x := 1) C (dAt D_X12_goesOn 105 rfl) (by decide) ?_
    refine Visub C (dAt D_X12_goesOn 106 rfl) ?_
    refine VputI C (dAt D_X12_goesOn 107 rfl) gf_X12_303 (kt_167 hL) rfl rfl rfl rfl ?_
    refine Vgoto (tgt := 0) C (dAt D_X12_goesOn 108 rfl) (by decide) ?_
    exact Vsub [0] rfl (q0 _  h)
  · have h := ok_t c24 h
    refine Viconst (x := 0) C (dAt D_X12_goesOn 97 rfl) (by decide) ?_
    cases h
    exact Vzret C (dAt D_X12_goesOn 98 rfl) rfl (by decide) (by decide) ⟨rfl, rfl, rfl⟩
def B_X12_goesOn_83 (f : Nat) (s0 : Int32) (s1 : Int32) (u : MT) : Option (Int32 × MT) :=
  ck (ixo s1 8) <|
  let u38 := sI u 187 (s1).toNatClampNeg s0
  let u39 := sI u38 167 7 ((gI u38 167 7) + (1 : Int32))
  some ((1 : Int32), u39)
theorem w_X12_goesOn_83 {z : ZT} {g : GT} {w : LT} (hL : Lay w) (C : Cx z g cX12_goesOn 1 RX12 (some .boolean) 2 0 0) {f : Nat} {r : (Int32 × MT)} {s0 : Int32} {s1 : Int32} {u : MT} (h : B_X12_goesOn_83 f s0 s1 u = some r) : V z g 1 83 [(0, .ref 167)] [.int s0, .int s1, .ref 187] w u 0 0 (Qi r.1 w r.2) := by
  rw [B_X12_goesOn_83] at h
  obtain ⟨c37, h⟩ := ok_ck h
  refine Viast C (dAt D_X12_goesOn 42 rfl) (kt_187 hL) (kl_187 hL) (vp_in_iff.mpr c37) ?_
  refine Vaload_n C 0 (dAt D_X12_goesOn 43 rfl) rfl rfl ?_
  refine Vdup C (dAt D_X12_goesOn 44 rfl) rfl ?_
  refine VgetI C (dAt D_X12_goesOn 45 rfl) gf_X12_248 (kt_167 hL) rfl ?_
  refine Viconst (x := 1) C (dAt D_X12_goesOn 46 rfl) (by decide) ?_
  refine Viadd C (dAt D_X12_goesOn 47 rfl) ?_
  refine VputI C (dAt D_X12_goesOn 48 rfl) gf_X12_248 (kt_167 hL) rfl rfl rfl rfl ?_
  refine Viconst (x := 1) C (dAt D_X12_goesOn 49 rfl) (by decide) ?_
  cases h
  exact Vzret C (dAt D_X12_goesOn 50 rfl) rfl (by decide) (by decide) ⟨rfl, rfl, rfl⟩
def B_X12_goesOn_61 (f : Nat) (u : MT) : Option (Int32 × MT) :=
  (F_X12_isSign f (43 : Int32) u).bind fun r31 =>
  if r31.1 = 0 then
    B_X12_goesOn_83 f (4 : Int32) (gI u 167 26) r31.2
  else
    B_X12_goesOn_83 f (3 : Int32) (gI u 167 26) r31.2
theorem w_X12_goesOn_61 {z : ZT} {g : GT} {w : LT} (hL : Lay w) (C : Cx z g cX12_goesOn 1 RX12 (some .boolean) 2 0 0) {f : Nat} {r : (Int32 × MT)} {u : MT} (h : B_X12_goesOn_61 f  u = some r) : V z g 1 61 [(0, .ref 167)] [] w u 0 0 (Qi r.1 w r.2) := by
  rw [B_X12_goesOn_61] at h
  refine Vaload_n C 0 (dAt D_X12_goesOn 31 rfl) rfl rfl ?_
  refine VgetP C (dAt D_X12_goesOn 32 rfl) gf_X12_127 (kt_167 hL) rfl (kp_167_27 hL) ?_
  refine Vaload_n C 0 (dAt D_X12_goesOn 33 rfl) rfl rfl ?_
  refine VgetI C (dAt D_X12_goesOn 34 rfl) gf_X12_303 (kt_167 hL) rfl ?_
  refine Vaload_n C 0 (dAt D_X12_goesOn 35 rfl) rfl rfl ?_
  refine Vbipush (x := 43) C (dAt D_X12_goesOn 36 rfl) (by decide) ?_
  obtain ⟨r31, e32, h⟩ := ok_b h
  refine VcallV (as := [_]) C (dAt D_X12_goesOn 37 rfl) (m_X12_isSign hL e32) yv_X12_254 (Or.inl ⟨(kt_167 hL), by decide⟩) rfl rfl (Nat.le_of_ble_eq_true rfl) (by decide) (by decide) (by decide) (by decide) (Kint ?_)
  refine Vif_eq (tgt := 82) C (dAt D_X12_goesOn 38 rfl) (by decide) (fun c33 => ?_) (fun c33 => ?_)
  · have h := ok_t c33 h
    refine Viconst (x := 4) C (dAt D_X12_goesOn 41 rfl) (by decide) ?_
    exact Vsub [0] rfl (w_X12_goesOn_83 hL C  h)
  · have h := ok_f c33 h
    refine Viconst (x := 3) C (dAt D_X12_goesOn 39 rfl) (by decide) ?_
    refine Vgoto (tgt := 83) C (dAt D_X12_goesOn 40 rfl) (by decide) ?_
    exact Vsub [0] rfl (w_X12_goesOn_83 hL C  h)
def B_X12_goesOn_166 (f : Nat) (s0 : Int32) (s1 : Int32) (u : MT) : Option (Int32 × MT) :=
  ck (ixo s1 8) <|
  let u35 := sI u 188 (s1).toNatClampNeg s0
  let u36 := sI u35 167 7 ((gI u35 167 7) + (1 : Int32))
  some ((1 : Int32), u36)
theorem w_X12_goesOn_166 {z : ZT} {g : GT} {w : LT} (hL : Lay w) (C : Cx z g cX12_goesOn 1 RX12 (some .boolean) 2 0 0) {f : Nat} {r : (Int32 × MT)} {s0 : Int32} {s1 : Int32} {u : MT} (h : B_X12_goesOn_166 f s0 s1 u = some r) : V z g 1 166 [(0, .ref 167)] [.int s0, .int s1, .ref 188] w u 0 0 (Qi r.1 w r.2) := by
  rw [B_X12_goesOn_166] at h
  obtain ⟨c34, h⟩ := ok_ck h
  refine Viast C (dAt D_X12_goesOn 85 rfl) (kt_188 hL) (kl_188 hL) (vp_in_iff.mpr c34) ?_
  refine Vaload_n C 0 (dAt D_X12_goesOn 86 rfl) rfl rfl ?_
  refine Vdup C (dAt D_X12_goesOn 87 rfl) rfl ?_
  refine VgetI C (dAt D_X12_goesOn 88 rfl) gf_X12_248 (kt_167 hL) rfl ?_
  refine Viconst (x := 1) C (dAt D_X12_goesOn 89 rfl) (by decide) ?_
  refine Viadd C (dAt D_X12_goesOn 90 rfl) ?_
  refine VputI C (dAt D_X12_goesOn 91 rfl) gf_X12_248 (kt_167 hL) rfl rfl rfl rfl ?_
  refine Viconst (x := 1) C (dAt D_X12_goesOn 92 rfl) (by decide) ?_
  cases h
  exact Vzret C (dAt D_X12_goesOn 93 rfl) rfl (by decide) (by decide) ⟨rfl, rfl, rfl⟩
def B_X12_goesOn_143 (f : Nat) (u : MT) : Option (Int32 × MT) :=
  (F_X12_isSign f (60 : Int32) u).bind fun r28 =>
  if r28.1 = 0 then
    B_X12_goesOn_166 f (6 : Int32) (gI u 167 26) r28.2
  else
    B_X12_goesOn_166 f (5 : Int32) (gI u 167 26) r28.2
theorem w_X12_goesOn_143 {z : ZT} {g : GT} {w : LT} (hL : Lay w) (C : Cx z g cX12_goesOn 1 RX12 (some .boolean) 2 0 0) {f : Nat} {r : (Int32 × MT)} {u : MT} (h : B_X12_goesOn_143 f  u = some r) : V z g 1 143 [(0, .ref 167)] [] w u 0 0 (Qi r.1 w r.2) := by
  rw [B_X12_goesOn_143] at h
  refine Vaload_n C 0 (dAt D_X12_goesOn 74 rfl) rfl rfl ?_
  refine VgetP C (dAt D_X12_goesOn 75 rfl) gf_X12_130 (kt_167 hL) rfl (kp_167_28 hL) ?_
  refine Vaload_n C 0 (dAt D_X12_goesOn 76 rfl) rfl rfl ?_
  refine VgetI C (dAt D_X12_goesOn 77 rfl) gf_X12_303 (kt_167 hL) rfl ?_
  refine Vaload_n C 0 (dAt D_X12_goesOn 78 rfl) rfl rfl ?_
  refine Vbipush (x := 60) C (dAt D_X12_goesOn 79 rfl) (by decide) ?_
  obtain ⟨r28, e29, h⟩ := ok_b h
  refine VcallV (as := [_]) C (dAt D_X12_goesOn 80 rfl) (m_X12_isSign hL e29) yv_X12_254 (Or.inl ⟨(kt_167 hL), by decide⟩) rfl rfl (Nat.le_of_ble_eq_true rfl) (by decide) (by decide) (by decide) (by decide) (Kint ?_)
  refine Vif_eq (tgt := 164) C (dAt D_X12_goesOn 81 rfl) (by decide) (fun c30 => ?_) (fun c30 => ?_)
  · have h := ok_t c30 h
    refine Vbipush (x := 6) C (dAt D_X12_goesOn 84 rfl) (by decide) ?_
    exact Vsub [0] rfl (w_X12_goesOn_166 hL C  h)
  · have h := ok_f c30 h
    refine Viconst (x := 5) C (dAt D_X12_goesOn 82 rfl) (by decide) ?_
    refine Vgoto (tgt := 166) C (dAt D_X12_goesOn 83 rfl) (by decide) ?_
    exact Vsub [0] rfl (w_X12_goesOn_166 hL C  h)
def B_X12_goesOn_43 (f : Nat) (j0 : MT → Option (Int32 × MT)) (u : MT) : Option (Int32 × MT) :=
  (F_X12_isSign f (43 : Int32) u).bind fun r8 =>
  if r8.1 = 0 then
    (F_X12_isSign f (45 : Int32) r8.2).bind fun r11 =>
    if r11.1 = 0 then
      ck (ixo (gI r11.2 167 26) 8) <|
      if (gI r11.2 188 ((gI r11.2 167 26)).toNatClampNeg) = 0 then
        (F_X12_isSign f (60 : Int32) r11.2).bind fun r16 =>
        if r16.1 = 0 then
          (F_X12_isSign f (61 : Int32) r16.2).bind fun r19 =>
          if r19.1 = 0 then
            B_X12_goesOn_179 f j0 r19.2
          else
            B_X12_goesOn_143 f r19.2
        else
          B_X12_goesOn_143 f r16.2
      else
        (F_X12_emit f (gI r11.2 188 ((gI r11.2 167 26)).toNatClampNeg) (0 : Int32) r11.2).bind fun r22 =>
        B_X12_goesOn_179 f j0 r22
    else
      B_X12_goesOn_61 f r11.2
  else
    B_X12_goesOn_61 f r8.2
theorem w_X12_goesOn_43 {z : ZT} {g : GT} {w : LT} (hL : Lay w) (C : Cx z g cX12_goesOn 1 RX12 (some .boolean) 2 0 0) {f : Nat} {r : (Int32 × MT)} {j0 : MT → Option (Int32 × MT)} (q0 : ∀ (u : MT), j0  u = some r → V z g 1 0 [(0, .ref 167)] [] w u 0 0 (Qi r.1 w r.2)) {u : MT} (h : B_X12_goesOn_43 f j0  u = some r) : V z g 1 43 [(0, .ref 167)] [] w u 0 0 (Qi r.1 w r.2) := by
  rw [B_X12_goesOn_43] at h
  refine Vaload_n C 0 (dAt D_X12_goesOn 23 rfl) rfl rfl ?_
  refine Vbipush (x := 43) C (dAt D_X12_goesOn 24 rfl) (by decide) ?_
  obtain ⟨r8, e9, h⟩ := ok_b h
  refine VcallV (as := [_]) C (dAt D_X12_goesOn 25 rfl) (m_X12_isSign hL e9) yv_X12_254 (Or.inl ⟨(kt_167 hL), by decide⟩) rfl rfl (Nat.le_of_ble_eq_true rfl) (by decide) (by decide) (by decide) (by decide) (Kint ?_)
  refine Vif_ne (tgt := 61) C (dAt D_X12_goesOn 26 rfl) (by decide) (fun c10 => ?_) (fun c10 => ?_)
  · have h := ok_f c10 h
    exact Vsub [0] rfl (w_X12_goesOn_61 hL C  h)
  · have h := ok_t c10 h
    refine Vaload_n C 0 (dAt D_X12_goesOn 27 rfl) rfl rfl ?_
    refine Vbipush (x := 45) C (dAt D_X12_goesOn 28 rfl) (by decide) ?_
    obtain ⟨r11, e12, h⟩ := ok_b h
    refine VcallV (as := [_]) C (dAt D_X12_goesOn 29 rfl) (m_X12_isSign hL e12) yv_X12_254 (Or.inl ⟨(kt_167 hL), by decide⟩) rfl rfl (Nat.le_of_ble_eq_true rfl) (by decide) (by decide) (by decide) (by decide) (Kint ?_)
    refine Vif_eq (tgt := 96) C (dAt D_X12_goesOn 30 rfl) (by decide) (fun c13 => ?_) (fun c13 => ?_)
    · have h := ok_t c13 h
      refine Vaload_n C 0 (dAt D_X12_goesOn 51 rfl) rfl rfl ?_
      refine VgetP C (dAt D_X12_goesOn 52 rfl) gf_X12_130 (kt_167 hL) rfl (kp_167_28 hL) ?_
      refine Vaload_n C 0 (dAt D_X12_goesOn 53 rfl) rfl rfl ?_
      refine VgetI C (dAt D_X12_goesOn 54 rfl) gf_X12_303 (kt_167 hL) rfl ?_
      obtain ⟨c14, h⟩ := ok_ck h
      refine Viald C (dAt D_X12_goesOn 55 rfl) (kt_188 hL) (kl_188 hL) (vp_in_iff.mpr c14) ?_
      refine Vif_eq (tgt := 125) C (dAt D_X12_goesOn 56 rfl) (by decide) (fun c15 => ?_) (fun c15 => ?_)
      · have h := ok_t c15 h
        refine Vaload_n C 0 (dAt D_X12_goesOn 66 rfl) rfl rfl ?_
        refine Vbipush (x := 60) C (dAt D_X12_goesOn 67 rfl) (by decide) ?_
        obtain ⟨r16, e17, h⟩ := ok_b h
        refine VcallV (as := [_]) C (dAt D_X12_goesOn 68 rfl) (m_X12_isSign hL e17) yv_X12_254 (Or.inl ⟨(kt_167 hL), by decide⟩) rfl rfl (Nat.le_of_ble_eq_true rfl) (by decide) (by decide) (by decide) (by decide) (Kint ?_)
        refine Vif_ne (tgt := 143) C (dAt D_X12_goesOn 69 rfl) (by decide) (fun c18 => ?_) (fun c18 => ?_)
        · have h := ok_f c18 h
          exact Vsub [0] rfl (w_X12_goesOn_143 hL C  h)
        · have h := ok_t c18 h
          refine Vaload_n C 0 (dAt D_X12_goesOn 70 rfl) rfl rfl ?_
          refine Vbipush (x := 61) C (dAt D_X12_goesOn 71 rfl) (by decide) ?_
          obtain ⟨r19, e20, h⟩ := ok_b h
          refine VcallV (as := [_]) C (dAt D_X12_goesOn 72 rfl) (m_X12_isSign hL e20) yv_X12_254 (Or.inl ⟨(kt_167 hL), by decide⟩) rfl rfl (Nat.le_of_ble_eq_true rfl) (by decide) (by decide) (by decide) (by decide) (Kint ?_)
          refine Vif_eq (tgt := 179) C (dAt D_X12_goesOn 73 rfl) (by decide) (fun c21 => ?_) (fun c21 => ?_)
          · have h := ok_t c21 h
            exact Vsub [0] rfl (w_X12_goesOn_179 hL C q0  h)
          · have h := ok_f c21 h
            exact Vsub [0] rfl (w_X12_goesOn_143 hL C  h)
      · have h := ok_f c15 h
        refine Vaload_n C 0 (dAt D_X12_goesOn 57 rfl) rfl rfl ?_
        refine Vaload_n C 0 (dAt D_X12_goesOn 58 rfl) rfl rfl ?_
        refine VgetP C (dAt D_X12_goesOn 59 rfl) gf_X12_130 (kt_167 hL) rfl (kp_167_28 hL) ?_
        refine Vaload_n C 0 (dAt D_X12_goesOn 60 rfl) rfl rfl ?_
        refine VgetI C (dAt D_X12_goesOn 61 rfl) gf_X12_303 (kt_167 hL) rfl ?_
        refine Viald C (dAt D_X12_goesOn 62 rfl) (kt_188 hL) (kl_188 hL) (vp_in_iff.mpr c14) ?_
        refine Viconst (x := 0) C (dAt D_X12_goesOn 63 rfl) (by decide) ?_
        obtain ⟨r22, e23, h⟩ := ok_b h
        refine VcallV (as := [_, _]) C (dAt D_X12_goesOn 64 rfl) (m_X12_emit hL e23) yv_X12_309 (Or.inl ⟨(kt_167 hL), by decide⟩) rfl rfl (Nat.le_of_ble_eq_true rfl) (by decide) (by decide) (by decide) (by decide) (Kvoid ?_)
        refine Vgoto (tgt := 179) C (dAt D_X12_goesOn 65 rfl) (by decide) ?_
        exact Vsub [0] rfl (w_X12_goesOn_179 hL C q0  h)
    · have h := ok_f c13 h
      exact Vsub [0] rfl (w_X12_goesOn_61 hL C  h)
def B_X12_goesOn_0 (f : Nat) : Nat → MT → Option (Int32 × MT)
  | 0, _ => none
  | n + 1, u =>
    if (gI u 167 8) = 0 then
      ck (ixo (gI u 167 26) 8) <|
      if (gI u 187 ((gI u 167 26)).toNatClampNeg) = 0 then
        B_X12_goesOn_43 f (fun  u' => B_X12_goesOn_0 f n  u') u
      else
        (F_X12_emit f (gI u 187 ((gI u 167 26)).toNatClampNeg) (0 : Int32) u).bind fun r4 =>
        ck (ixo (gI r4 167 26) 8) <|
        let u7 := sI r4 187 ((gI r4 167 26)).toNatClampNeg (0 : Int32)
        B_X12_goesOn_43 f (fun  u' => B_X12_goesOn_0 f n  u') u7
    else
      some ((0 : Int32), u)
theorem w_X12_goesOn_0 {z : ZT} {g : GT} {w : LT} (hL : Lay w) (C : Cx z g cX12_goesOn 1 RX12 (some .boolean) 2 0 0) {f : Nat} {r : (Int32 × MT)} : ∀ (n : Nat) (u : MT), B_X12_goesOn_0 f n  u = some r → V z g 1 0 [(0, .ref 167)] [] w u 0 0 (Qi r.1 w r.2) := by
  intro n
  induction n with
  | zero =>
    intro  u h
    rw [B_X12_goesOn_0] at h
    cases h
  | succ n ih =>
    intro  u h
    rw [B_X12_goesOn_0] at h
    refine Vaload_n C 0 (dAt D_X12_goesOn 0 rfl) rfl rfl ?_
    refine VgetI C (dAt D_X12_goesOn 1 rfl) gf_X12_251 (kt_167 hL) rfl ?_
    refine Vif_ne (tgt := 207) C (dAt D_X12_goesOn 2 rfl) (by decide) (fun c1 => ?_) (fun c1 => ?_)
    · have h := ok_f c1 h
      refine Viconst (x := 0) C (dAt D_X12_goesOn 109 rfl) (by decide) ?_
      cases h
      exact Vzret C (dAt D_X12_goesOn 110 rfl) rfl (by decide) (by decide) ⟨rfl, rfl, rfl⟩
    · have h := ok_t c1 h
      refine Vaload_n C 0 (dAt D_X12_goesOn 3 rfl) rfl rfl ?_
      refine VgetP C (dAt D_X12_goesOn 4 rfl) gf_X12_127 (kt_167 hL) rfl (kp_167_27 hL) ?_
      refine Vaload_n C 0 (dAt D_X12_goesOn 5 rfl) rfl rfl ?_
      refine VgetI C (dAt D_X12_goesOn 6 rfl) gf_X12_303 (kt_167 hL) rfl ?_
      obtain ⟨c2, h⟩ := ok_ck h
      refine Viald C (dAt D_X12_goesOn 7 rfl) (kt_187 hL) (kl_187 hL) (vp_in_iff.mpr c2) ?_
      refine Vif_eq (tgt := 43) C (dAt D_X12_goesOn 8 rfl) (by decide) (fun c3 => ?_) (fun c3 => ?_)
      · have h := ok_t c3 h
        exact Vsub [0] rfl (w_X12_goesOn_43 hL C ih  h)
      · have h := ok_f c3 h
        refine Vaload_n C 0 (dAt D_X12_goesOn 9 rfl) rfl rfl ?_
        refine Vaload_n C 0 (dAt D_X12_goesOn 10 rfl) rfl rfl ?_
        refine VgetP C (dAt D_X12_goesOn 11 rfl) gf_X12_127 (kt_167 hL) rfl (kp_167_27 hL) ?_
        refine Vaload_n C 0 (dAt D_X12_goesOn 12 rfl) rfl rfl ?_
        refine VgetI C (dAt D_X12_goesOn 13 rfl) gf_X12_303 (kt_167 hL) rfl ?_
        refine Viald C (dAt D_X12_goesOn 14 rfl) (kt_187 hL) (kl_187 hL) (vp_in_iff.mpr c2) ?_
        refine Viconst (x := 0) C (dAt D_X12_goesOn 15 rfl) (by decide) ?_
        obtain ⟨r4, e5, h⟩ := ok_b h
        refine VcallV (as := [_, _]) C (dAt D_X12_goesOn 16 rfl) (m_X12_emit hL e5) yv_X12_309 (Or.inl ⟨(kt_167 hL), by decide⟩) rfl rfl (Nat.le_of_ble_eq_true rfl) (by decide) (by decide) (by decide) (by decide) (Kvoid ?_)
        refine Vaload_n C 0 (dAt D_X12_goesOn 17 rfl) rfl rfl ?_
        refine VgetP C (dAt D_X12_goesOn 18 rfl) gf_X12_127 (kt_167 hL) rfl (kp_167_27 hL) ?_
        refine Vaload_n C 0 (dAt D_X12_goesOn 19 rfl) rfl rfl ?_
        refine VgetI C (dAt D_X12_goesOn 20 rfl) gf_X12_303 (kt_167 hL) rfl ?_
        refine Viconst (x := 0) C (dAt D_X12_goesOn 21 rfl) (by decide) ?_
        obtain ⟨c6, h⟩ := ok_ck h
        refine Viast C (dAt D_X12_goesOn 22 rfl) (kt_187 hL) (kl_187 hL) (vp_in_iff.mpr c6) ?_
        exact Vsub [0] rfl (w_X12_goesOn_43 hL C ih  h)
def F_X12_goesOn (f : Nat) (u : MT) : Option (Int32 × MT) :=
  B_X12_goesOn_0 f f u
theorem m_X12_goesOn {g : GT} {w : LT} (hL : Lay w) {f : Nat} {u : MT} {r : (Int32 × MT)} (h : F_X12_goesOn f  u = some r) : Mt g yX12_goesOn cX12_goesOn 1 (some .boolean) 2 0 0 [.ref 167] w u (Qi r.1 w r.2) := by
  refine Mt_of (own := RX12) (by decide +kernel) rfl (Nat.le_of_ble_eq_true rfl) (fun z C _ => ?_)
  show V z g 1 0 [(0, .ref 167)] [] w u 0 0 (Qi r.1 w r.2)
  rw [F_X12_goesOn] at h
  exact Vsub [0] rfl (w_X12_goesOn_0 hL C  f _  h)
def B_X12_expression_36 (f : Nat) (j6 : Int32 → MT → Option MT) (s0 : Int32) (u : MT) : Option MT :=
  j6 s0 u
theorem w_X12_expression_36 {z : ZT} {g : GT} {w : LT} (hL : Lay w) (C : Cx z g cX12_expression 2 RX12 none 4 0 0) {f : Nat} {r : MT} {j6 : Int32 → MT → Option MT} (q6 : ∀ (x1 : Int32) (u : MT), j6 x1 u = some r → V z g 2 6 [(0, .ref 167), (1, .int x1)] [] w u 0 0 (Qv w r)) {s0 : Int32} {u : MT} (h : B_X12_expression_36 f j6 s0 u = some r) : V z g 2 36 [(0, .ref 167)] [.int s0] w u 0 0 (Qv w r) := by
  rw [B_X12_expression_36] at h
  refine Vistore_n (lv' := [(1, _), (0, _)]) C (dAt D_X12_expression 18 rfl) rfl (by decide) rfl ?_
  refine Vgoto (tgt := 6) C (dAt D_X12_expression 19 rfl) (by decide) ?_
  exact Vsub [1, 0] rfl (q6 _ _  h)
def B_X12_expression_31 (f : Nat) (j6 : Int32 → MT → Option MT) (u : MT) : Option MT :=
  B_X12_expression_36 f j6 (1 : Int32) u
theorem w_X12_expression_31 {z : ZT} {g : GT} {w : LT} (hL : Lay w) (C : Cx z g cX12_expression 2 RX12 none 4 0 0) {f : Nat} {r : MT} {j6 : Int32 → MT → Option MT} (q6 : ∀ (x1 : Int32) (u : MT), j6 x1 u = some r → V z g 2 6 [(0, .ref 167), (1, .int x1)] [] w u 0 0 (Qv w r)) {u : MT} (h : B_X12_expression_31 f j6  u = some r) : V z g 2 31 [(0, .ref 167)] [] w u 0 0 (Qv w r) := by
  rw [B_X12_expression_31] at h
  refine Viconst (x := 1) C (dAt D_X12_expression 15 rfl) (by decide) ?_
  refine Vgoto (tgt := 36) C (dAt D_X12_expression 16 rfl) (by decide) ?_
  exact Vsub [0] rfl (w_X12_expression_36 hL C q6  h)
def B_X12_expression_6 (f : Nat) : Nat → Int32 → MT → Option MT
  | 0, _, _ => none
  | n + 1, x1, u =>
    if x1 = 0 then
      some u
    else
      if (gI u 167 8) = 0 then
        (F_X12_part f u).bind fun r5 =>
        if r5.1 = 0 then
          (F_X12_goesOn f r5.2).bind fun r8 =>
          if r8.1 = 0 then
            B_X12_expression_36 f (fun x1' u' => B_X12_expression_6 f n x1' u') (0 : Int32) r8.2
          else
            B_X12_expression_31 f (fun x1' u' => B_X12_expression_6 f n x1' u') r8.2
        else
          B_X12_expression_31 f (fun x1' u' => B_X12_expression_6 f n x1' u') r5.2
      else
        some u
theorem w_X12_expression_6 {z : ZT} {g : GT} {w : LT} (hL : Lay w) (C : Cx z g cX12_expression 2 RX12 none 4 0 0) {f : Nat} {r : MT} : ∀ (n : Nat) (x1 : Int32) (u : MT), B_X12_expression_6 f n x1 u = some r → V z g 2 6 [(0, .ref 167), (1, .int x1)] [] w u 0 0 (Qv w r) := by
  intro n
  induction n with
  | zero =>
    intro x1 u h
    rw [B_X12_expression_6] at h
    cases h
  | succ n ih =>
    intro x1 u h
    rw [B_X12_expression_6] at h
    refine Viload_n C 1 (dAt D_X12_expression 4 rfl) rfl rfl ?_
    refine Vif_eq (tgt := 40) C (dAt D_X12_expression 5 rfl) (by decide) (fun c3 => ?_) (fun c3 => ?_)
    · have h := ok_t c3 h
      cases h
      exact Vvret C (dAt D_X12_expression 20 rfl) (by decide) (by decide) ⟨rfl, rfl, rfl⟩
    · have h := ok_f c3 h
      refine Vaload_n C 0 (dAt D_X12_expression 6 rfl) rfl rfl ?_
      refine VgetI C (dAt D_X12_expression 7 rfl) gf_X12_251 (kt_167 hL) rfl ?_
      refine Vif_ne (tgt := 40) C (dAt D_X12_expression 8 rfl) (by decide) (fun c4 => ?_) (fun c4 => ?_)
      · have h := ok_f c4 h
        cases h
        exact Vvret C (dAt D_X12_expression 20 rfl) (by decide) (by decide) ⟨rfl, rfl, rfl⟩
      · have h := ok_t c4 h
        refine Vaload_n C 0 (dAt D_X12_expression 9 rfl) rfl rfl ?_
        obtain ⟨r5, e6, h⟩ := ok_b h
        refine VcallV (as := []) C (dAt D_X12_expression 10 rfl) (m_X12_part hL e6) yv_X12_316 (Or.inl ⟨(kt_167 hL), by decide⟩) rfl rfl (Nat.le_of_ble_eq_true rfl) (by decide) (by decide) (by decide) (by decide) (Kint ?_)
        refine Vif_ne (tgt := 31) C (dAt D_X12_expression 11 rfl) (by decide) (fun c7 => ?_) (fun c7 => ?_)
        · have h := ok_f c7 h
          exact Vsub [0] rfl (w_X12_expression_31 hL C ih  h)
        · have h := ok_t c7 h
          refine Vaload_n C 0 (dAt D_X12_expression 12 rfl) rfl rfl ?_
          obtain ⟨r8, e9, h⟩ := ok_b h
          refine VcallV (as := []) C (dAt D_X12_expression 13 rfl) (m_X12_goesOn hL e9) yv_X12_319 (Or.inl ⟨(kt_167 hL), by decide⟩) rfl rfl (Nat.le_of_ble_eq_true rfl) (by decide) (by decide) (by decide) (by decide) (Kint ?_)
          refine Vif_eq (tgt := 35) C (dAt D_X12_expression 14 rfl) (by decide) (fun c10 => ?_) (fun c10 => ?_)
          · have h := ok_t c10 h
            refine Viconst (x := 0) C (dAt D_X12_expression 17 rfl) (by decide) ?_
            exact Vsub [0] rfl (w_X12_expression_36 hL C ih  h)
          · have h := ok_f c10 h
            exact Vsub [0] rfl (w_X12_expression_31 hL C ih  h)
def F_X12_expression (f : Nat) (u : MT) : Option MT :=
  (F_X12_opens f u).bind fun r1 =>
  B_X12_expression_6 f f (1 : Int32) r1
theorem m_X12_expression {g : GT} {w : LT} (hL : Lay w) {f : Nat} {u : MT} {r : MT} (h : F_X12_expression f  u = some r) : Mt g yX12_expression cX12_expression 2 none 4 0 0 [.ref 167] w u (Qv w r) := by
  refine Mt_of (own := RX12) (by decide +kernel) rfl (Nat.le_of_ble_eq_true rfl) (fun z C _ => ?_)
  show V z g 2 0 [(0, .ref 167)] [] w u 0 0 (Qv w r)
  rw [F_X12_expression] at h
  refine Vaload_n C 0 (dAt D_X12_expression 0 rfl) rfl rfl ?_
  obtain ⟨r1, e2, h⟩ := ok_b h
  refine VcallV (as := []) C (dAt D_X12_expression 1 rfl) (m_X12_opens hL e2) yv_X12_313 (Or.inl ⟨(kt_167 hL), by decide⟩) rfl rfl (Nat.le_of_ble_eq_true rfl) (by decide) (by decide) (by decide) (by decide) (Kvoid ?_)
  refine Viconst (x := 1) C (dAt D_X12_expression 2 rfl) (by decide) ?_
  refine Vistore_n (lv' := [(1, _), (0, _)]) C (dAt D_X12_expression 3 rfl) rfl (by decide) rfl ?_
  exact Vsub [1, 0] rfl (w_X12_expression_6 hL C  f _ _  h)
def F_X12_code (f : Nat) (u : MT) : Option (Int32 × MT) :=
  let v1 := (gI u 184 7)
  let u2 := sI u 167 26 (0 : Int32)
  (F_X12_expression f u2).bind fun r3 =>
  (F_X12_emit f (0 : Int32) (0 : Int32) r3).bind fun r5 =>
  some (v1, r5)
theorem m_X12_code {g : GT} {w : LT} (hL : Lay w) {f : Nat} {u : MT} {r : (Int32 × MT)} (h : F_X12_code f  u = some r) : Mt g yX12_code cX12_code 2 (some .int) 5 0 0 [.ref 167] w u (Qi r.1 w r.2) := by
  refine Mt_of (own := RX12) (by decide +kernel) rfl (Nat.le_of_ble_eq_true rfl) (fun z C _ => ?_)
  show V z g 2 0 [(0, .ref 167)] [] w u 0 0 (Qi r.1 w r.2)
  rw [F_X12_code] at h
  refine Vaload_n C 0 (dAt D_X12_code 0 rfl) rfl rfl ?_
  refine VgetP C (dAt D_X12_code 1 rfl) gf_X12_118 (kt_167 hL) rfl (kp_167_21 hL) ?_
  refine Vbipush (x := 7) C (dAt D_X12_code 2 rfl) (by decide) ?_
  refine VialdC 7 C (dAt D_X12_code 3 rfl) (kt_184 hL) (kl_184 hL) (by decide) rfl ?_
  refine Vistore_n (lv' := [(1, _), (0, _)]) C (dAt D_X12_code 4 rfl) rfl (by decide) rfl ?_
  refine Vaload_n C 1 (dAt D_X12_code 5 rfl) rfl rfl ?_
  refine Viconst (x := 0) C (dAt D_X12_code 6 rfl) (by decide) ?_
  refine VputI C (dAt D_X12_code 7 rfl) gf_X12_303 (kt_167 hL) rfl rfl rfl rfl ?_
  refine Vaload_n C 1 (dAt D_X12_code 8 rfl) rfl rfl ?_
  obtain ⟨r3, e4, h⟩ := ok_b h
  refine VcallV (as := []) C (dAt D_X12_code 9 rfl) (m_X12_expression hL e4) yv_X12_306 (Or.inl ⟨(kt_167 hL), by decide⟩) rfl rfl (Nat.le_of_ble_eq_true rfl) (by decide) (by decide) (by decide) (by decide) (Kvoid ?_)
  refine Vaload_n C 1 (dAt D_X12_code 10 rfl) rfl rfl ?_
  refine Viconst (x := 0) C (dAt D_X12_code 11 rfl) (by decide) ?_
  refine Viconst (x := 0) C (dAt D_X12_code 12 rfl) (by decide) ?_
  obtain ⟨r5, e6, h⟩ := ok_b h
  refine VcallV (as := [_, _]) C (dAt D_X12_code 13 rfl) (m_X12_emit hL e6) yv_X12_309 (Or.inl ⟨(kt_167 hL), by decide⟩) rfl rfl (Nat.le_of_ble_eq_true rfl) (by decide) (by decide) (by decide) (by decide) (Kvoid ?_)
  refine Viload_n C 0 (dAt D_X12_code 14 rfl) rfl rfl ?_
  cases h
  exact Viret C (dAt D_X12_code 15 rfl) (by decide) (by decide) ⟨rfl, rfl, rfl⟩
def B_X12_readAmount_22 (f : Nat) (s0 : Int32) (s1 : Int32) (u : MT) : Option MT :=
  ck (ixo s1 192) <|
  let u7 := sI u 177 (s1).toNatClampNeg s0
  some u7
theorem w_X12_readAmount_22 {z : ZT} {g : GT} {w : LT} (hL : Lay w) (C : Cx z g cX12_readAmount 2 RX12 none 6 0 0) {f : Nat} {r : MT} {s0 : Int32} {s1 : Int32} {u : MT} (h : B_X12_readAmount_22 f s0 s1 u = some r) : V z g 2 22 [] [.int s0, .int s1, .ref 177] w u 0 0 (Qv w r) := by
  rw [B_X12_readAmount_22] at h
  obtain ⟨c6, h⟩ := ok_ck h
  refine Viast C (dAt D_X12_readAmount 11 rfl) (kt_177 hL) (kl_177 hL) (vp_in_iff.mpr c6) ?_
  cases h
  exact Vvret C (dAt D_X12_readAmount 12 rfl) (by decide) (by decide) ⟨rfl, rfl, rfl⟩
def F_X12_readAmount (f : Nat) (x1 : Int32) (u : MT) : Option MT :=
  (F_X12_hasWord f (8 : Int32) u).bind fun r1 =>
  if r1.1 = 0 then
    (F_X12_code f r1.2).bind fun r4 =>
    B_X12_readAmount_22 f r4.1 x1 r4.2
  else
    B_X12_readAmount_22 f (-1 : Int32) x1 r1.2
theorem m_X12_readAmount {g : GT} {w : LT} (hL : Lay w) {x1 : Int32} {f : Nat} {u : MT} {r : MT} (h : F_X12_readAmount f x1 u = some r) : Mt g yX12_readAmount cX12_readAmount 2 none 6 0 0 [.ref 167, .int x1] w u (Qv w r) := by
  refine Mt_of (own := RX12) (by decide +kernel) rfl (Nat.le_of_ble_eq_true rfl) (fun z C _ => ?_)
  show V z g 2 0 [(0, .ref 167), (1, .int x1)] [] w u 0 0 (Qv w r)
  rw [F_X12_readAmount] at h
  refine Vaload_n C 0 (dAt D_X12_readAmount 0 rfl) rfl rfl ?_
  refine VgetP C (dAt D_X12_readAmount 1 rfl) gf_X12_97 (kt_167 hL) rfl (kp_167_14 hL) ?_
  refine Viload_n C 1 (dAt D_X12_readAmount 2 rfl) rfl rfl ?_
  refine Vaload_n C 0 (dAt D_X12_readAmount 3 rfl) rfl rfl ?_
  refine Vbipush (x := 8) C (dAt D_X12_readAmount 4 rfl) (by decide) ?_
  obtain ⟨r1, e2, h⟩ := ok_b h
  refine VcallV (as := [_]) C (dAt D_X12_readAmount 5 rfl) (m_X12_hasWord hL e2) yv_X12_264 (Or.inl ⟨(kt_167 hL), by decide⟩) rfl rfl (Nat.le_of_ble_eq_true rfl) (by decide) (by decide) (by decide) (by decide) (Kint ?_)
  refine Vif_eq (tgt := 18) C (dAt D_X12_readAmount 6 rfl) (by decide) (fun c3 => ?_) (fun c3 => ?_)
  · have h := ok_t c3 h
    refine Vaload_n C 0 (dAt D_X12_readAmount 9 rfl) rfl rfl ?_
    obtain ⟨r4, e5, h⟩ := ok_b h
    refine VcallV (as := []) C (dAt D_X12_readAmount 10 rfl) (m_X12_code hL e5) yv_X12_287 (Or.inl ⟨(kt_167 hL), by decide⟩) rfl rfl (Nat.le_of_ble_eq_true rfl) (by decide) (by decide) (by decide) (by decide) (Kint ?_)
    exact Vsub [] rfl (w_X12_readAmount_22 hL C  h)
  · have h := ok_f c3 h
    refine Viconst (x := (-1)) C (dAt D_X12_readAmount 7 rfl) (by decide) ?_
    refine Vgoto (tgt := 22) C (dAt D_X12_readAmount 8 rfl) (by decide) ?_
    exact Vsub [] rfl (w_X12_readAmount_22 hL C  h)
def F_X12_readWhom (f : Nat) (x1 : Int32) (u : MT) : Option MT :=
  ck (ixo x1 192) <|
  let u2 := sI u 180 (x1).toNatClampNeg (0 : Int32)
  (F_X12_hasWord f (8 : Int32) u2).bind fun r3 =>
  if r3.1 = 0 then
    (F_X12_hasWord f (11 : Int32) r3.2).bind fun r6 =>
    if r6.1 = 0 then
      (F_X12_takeWord f (12 : Int32) r6.2).bind fun r9 =>
      let u11 := sI r9 179 (x1).toNatClampNeg (2 : Int32)
      (F_X12_takeNumber f (1 : Int32) (12 : Int32) u11).bind fun r12 =>
      let u14 := sI r12.2 180 (x1).toNatClampNeg r12.1
      some u14
    else
      let u15 := sI r6.2 179 (x1).toNatClampNeg (1 : Int32)
      (F_X12_takeNumber f (0 : Int32) ((gI u15 167 31) - (1 : Int32)) u15).bind fun r16 =>
      let u18 := sI r16.2 180 (x1).toNatClampNeg r16.1
      some u18
  else
    let u19 := sI r3.2 179 (x1).toNatClampNeg (0 : Int32)
    some u19
theorem m_X12_readWhom {g : GT} {w : LT} (hL : Lay w) {x1 : Int32} {f : Nat} {u : MT} {r : MT} (h : F_X12_readWhom f x1 u = some r) : Mt g yX12_readWhom cX12_readWhom 2 none 3 0 0 [.ref 167, .int x1] w u (Qv w r) := by
  refine Mt_of (own := RX12) (by decide +kernel) rfl (Nat.le_of_ble_eq_true rfl) (fun z C _ => ?_)
  show V z g 2 0 [(0, .ref 167), (1, .int x1)] [] w u 0 0 (Qv w r)
  rw [F_X12_readWhom] at h
  refine Vaload_n C 0 (dAt D_X12_readWhom 0 rfl) rfl rfl ?_
  refine VgetP C (dAt D_X12_readWhom 1 rfl) gf_X12_106 (kt_167 hL) rfl (kp_167_17 hL) ?_
  refine Viload_n C 1 (dAt D_X12_readWhom 2 rfl) rfl rfl ?_
  refine Viconst (x := 0) C (dAt D_X12_readWhom 3 rfl) (by decide) ?_
  obtain ⟨c1, h⟩ := ok_ck h
  refine Viast C (dAt D_X12_readWhom 4 rfl) (kt_180 hL) (kl_180 hL) (vp_in_iff.mpr c1) ?_
  refine Vaload_n C 0 (dAt D_X12_readWhom 5 rfl) rfl rfl ?_
  refine Vbipush (x := 8) C (dAt D_X12_readWhom 6 rfl) (by decide) ?_
  obtain ⟨r3, e4, h⟩ := ok_b h
  refine VcallV (as := [_]) C (dAt D_X12_readWhom 7 rfl) (m_X12_hasWord hL e4) yv_X12_264 (Or.inl ⟨(kt_167 hL), by decide⟩) rfl rfl (Nat.le_of_ble_eq_true rfl) (by decide) (by decide) (by decide) (by decide) (Kint ?_)
  refine Vif_eq (tgt := 26) C (dAt D_X12_readWhom 8 rfl) (by decide) (fun c5 => ?_) (fun c5 => ?_)
  · have h := ok_t c5 h
    refine Vaload_n C 0 (dAt D_X12_readWhom 15 rfl) rfl rfl ?_
    refine Vbipush (x := 11) C (dAt D_X12_readWhom 16 rfl) (by decide) ?_
    obtain ⟨r6, e7, h⟩ := ok_b h
    refine VcallV (as := [_]) C (dAt D_X12_readWhom 17 rfl) (m_X12_hasWord hL e7) yv_X12_264 (Or.inl ⟨(kt_167 hL), by decide⟩) rfl rfl (Nat.le_of_ble_eq_true rfl) (by decide) (by decide) (by decide) (by decide) (Kint ?_)
    refine Vif_eq (tgt := 62) C (dAt D_X12_readWhom 18 rfl) (by decide) (fun c8 => ?_) (fun c8 => ?_)
    · have h := ok_t c8 h
      refine Vaload_n C 0 (dAt D_X12_readWhom 36 rfl) rfl rfl ?_
      refine Vbipush (x := 12) C (dAt D_X12_readWhom 37 rfl) (by decide) ?_
      obtain ⟨r9, e10, h⟩ := ok_b h
      refine VcallV (as := [_]) C (dAt D_X12_readWhom 38 rfl) (m_X12_takeWord hL e10) yv_X12_273 (Or.inl ⟨(kt_167 hL), by decide⟩) rfl rfl (Nat.le_of_ble_eq_true rfl) (by decide) (by decide) (by decide) (by decide) (Kvoid ?_)
      refine Vaload_n C 0 (dAt D_X12_readWhom 39 rfl) rfl rfl ?_
      refine VgetP C (dAt D_X12_readWhom 40 rfl) gf_X12_103 (kt_167 hL) rfl (kp_167_16 hL) ?_
      refine Viload_n C 1 (dAt D_X12_readWhom 41 rfl) rfl rfl ?_
      refine Viconst (x := 2) C (dAt D_X12_readWhom 42 rfl) (by decide) ?_
      refine Viast C (dAt D_X12_readWhom 43 rfl) (kt_179 hL) (kl_179 hL) (vp_in_iff.mpr c1) ?_
      refine Vaload_n C 0 (dAt D_X12_readWhom 44 rfl) rfl rfl ?_
      refine VgetP C (dAt D_X12_readWhom 45 rfl) gf_X12_106 (kt_167 hL) rfl (kp_167_17 hL) ?_
      refine Viload_n C 1 (dAt D_X12_readWhom 46 rfl) rfl rfl ?_
      refine Vaload_n C 0 (dAt D_X12_readWhom 47 rfl) rfl rfl ?_
      refine Viconst (x := 1) C (dAt D_X12_readWhom 48 rfl) (by decide) ?_
      refine Vbipush (x := 12) C (dAt D_X12_readWhom 49 rfl) (by decide) ?_
      obtain ⟨r12, e13, h⟩ := ok_b h
      refine VcallV (as := [_, _]) C (dAt D_X12_readWhom 50 rfl) (m_X12_takeNumber hL e13) yv_X12_297 (Or.inl ⟨(kt_167 hL), by decide⟩) rfl rfl (Nat.le_of_ble_eq_true rfl) (by decide) (by decide) (by decide) (by decide) (Kint ?_)
      refine Viast C (dAt D_X12_readWhom 51 rfl) (kt_180 hL) (kl_180 hL) (vp_in_iff.mpr c1) ?_
      cases h
      exact Vvret C (dAt D_X12_readWhom 52 rfl) (by decide) (by decide) ⟨rfl, rfl, rfl⟩
    · have h := ok_f c8 h
      refine Vaload_n C 0 (dAt D_X12_readWhom 19 rfl) rfl rfl ?_
      refine VgetP C (dAt D_X12_readWhom 20 rfl) gf_X12_103 (kt_167 hL) rfl (kp_167_16 hL) ?_
      refine Viload_n C 1 (dAt D_X12_readWhom 21 rfl) rfl rfl ?_
      refine Viconst (x := 1) C (dAt D_X12_readWhom 22 rfl) (by decide) ?_
      refine Viast C (dAt D_X12_readWhom 23 rfl) (kt_179 hL) (kl_179 hL) (vp_in_iff.mpr c1) ?_
      refine Vaload_n C 0 (dAt D_X12_readWhom 24 rfl) rfl rfl ?_
      refine VgetP C (dAt D_X12_readWhom 25 rfl) gf_X12_106 (kt_167 hL) rfl (kp_167_17 hL) ?_
      refine Viload_n C 1 (dAt D_X12_readWhom 26 rfl) rfl rfl ?_
      refine Vaload_n C 0 (dAt D_X12_readWhom 27 rfl) rfl rfl ?_
      refine Viconst (x := 0) C (dAt D_X12_readWhom 28 rfl) (by decide) ?_
      refine Vaload_n C 0 (dAt D_X12_readWhom 29 rfl) rfl rfl ?_
      refine VgetI C (dAt D_X12_readWhom 30 rfl) gf_X12_300 (kt_167 hL) rfl ?_
      refine Viconst (x := 1) C (dAt D_X12_readWhom 31 rfl) (by decide) ?_
      refine Visub C (dAt D_X12_readWhom 32 rfl) ?_
      obtain ⟨r16, e17, h⟩ := ok_b h
      refine VcallV (as := [_, _]) C (dAt D_X12_readWhom 33 rfl) (m_X12_takeNumber hL e17) yv_X12_297 (Or.inl ⟨(kt_167 hL), by decide⟩) rfl rfl (Nat.le_of_ble_eq_true rfl) (by decide) (by decide) (by decide) (by decide) (Kint ?_)
      refine Viast C (dAt D_X12_readWhom 34 rfl) (kt_180 hL) (kl_180 hL) (vp_in_iff.mpr c1) ?_
      refine Vgoto (tgt := 88) C (dAt D_X12_readWhom 35 rfl) (by decide) ?_
      cases h
      exact Vvret C (dAt D_X12_readWhom 52 rfl) (by decide) (by decide) ⟨rfl, rfl, rfl⟩
  · have h := ok_f c5 h
    refine Vaload_n C 0 (dAt D_X12_readWhom 9 rfl) rfl rfl ?_
    refine VgetP C (dAt D_X12_readWhom 10 rfl) gf_X12_103 (kt_167 hL) rfl (kp_167_16 hL) ?_
    refine Viload_n C 1 (dAt D_X12_readWhom 11 rfl) rfl rfl ?_
    refine Viconst (x := 0) C (dAt D_X12_readWhom 12 rfl) (by decide) ?_
    refine Viast C (dAt D_X12_readWhom 13 rfl) (kt_179 hL) (kl_179 hL) (vp_in_iff.mpr c1) ?_
    refine Vgoto (tgt := 88) C (dAt D_X12_readWhom 14 rfl) (by decide) ?_
    cases h
    exact Vvret C (dAt D_X12_readWhom 52 rfl) (by decide) (by decide) ⟨rfl, rfl, rfl⟩
