def F_X12_thrown (f : Nat) (u : MT) : Option (Int32 × MT) :=
  some ((gI u 167 0), u)
theorem m_X12_thrown {g : GT} {w : LT} (hL : Lay w) {f : Nat} {u : MT} {r : (Int32 × MT)} (h : F_X12_thrown f  u = some r) : Mt g yX12_thrown cX12_thrown 1 (some .int) 0 0 0 [.ref 167] w u (Qi r.1 w r.2) := by
  refine Mt_of (own := RX12) (by decide +kernel) rfl (Nat.le_of_ble_eq_true rfl) (fun z C _ => ?_)
  show V z g 1 0 [(0, .ref 167)] [] w u 0 0 (Qi r.1 w r.2)
  rw [F_X12_thrown] at h
  refine Vaload_n C 0 (dAt D_X12_thrown 0 rfl) rfl rfl ?_
  refine VgetI C (dAt D_X12_thrown 1 rfl) gf_X12_1 (kt_167 hL) rfl ?_
  cases h
  exact Viret C (dAt D_X12_thrown 2 rfl) (by decide) (by decide) ⟨rfl, rfl, rfl⟩
def B_X12_lay_69 (f : Nat) (j3 : Int64 → Int32 → MT → Option MT) (x1 : Int64) (x3 : Int32) (u : MT) : Option MT :=
  let v10 := x3 + (-8)
  j3 x1 v10 u
theorem w_X12_lay_69 {z : ZT} {g : GT} {w : LT} (hL : Lay w) (C : Cx z g cX12_lay 5 RX12 none 0 0 0) {f : Nat} {r : MT} {j3 : Int64 → Int32 → MT → Option MT} (q3 : ∀ (x1 : Int64) (x3 : Int32) (u : MT), j3 x1 x3 u = some r → V z g 5 3 [(0, .ref 167), (1, .long x1), (3, .int x3)] [] w u 0 0 (Qv w r)) {x1 : Int64} {x3 : Int32} {u : MT} (h : B_X12_lay_69 f j3 x1 x3 u = some r) : V z g 5 69 [(0, .ref 167), (1, .long x1), (3, .int x3)] [] w u 0 0 (Qv w r) := by
  rw [B_X12_lay_69] at h
  refine Viinc (j := 2) (v := _ + (-8)) (lv' := [(3, _), (0, _), (1, _)]) C (dAt D_X12_lay 36 rfl) rfl rfl (by decide) rfl ?_
  refine Vgoto (tgt := 3) C (dAt D_X12_lay 37 rfl) (by decide) ?_
  exact Vsub [1, 2, 0] rfl (q3 _ _ _  h)
def B_X12_lay_38 (f : Nat) (j3 : Int64 → Int32 → MT → Option MT) (x1 : Int64) (x3 : Int32) (x4 : Int32) (u : MT) : Option MT :=
  if (1200 : Int32) ≤ (gI u 167 2) then
    B_X12_lay_69 f j3 x1 x3 u
  else
    ck (ixo (gI u 167 2) 1200) <|
    let u8 := sI u 168 ((gI u 167 2)).toNatClampNeg x4
    let u9 := sI u8 167 2 ((gI u8 167 2) + (1 : Int32))
    B_X12_lay_69 f j3 x1 x3 u9
theorem w_X12_lay_38 {z : ZT} {g : GT} {w : LT} (hL : Lay w) (C : Cx z g cX12_lay 5 RX12 none 0 0 0) {f : Nat} {r : MT} {j3 : Int64 → Int32 → MT → Option MT} (q3 : ∀ (x1 : Int64) (x3 : Int32) (u : MT), j3 x1 x3 u = some r → V z g 5 3 [(0, .ref 167), (1, .long x1), (3, .int x3)] [] w u 0 0 (Qv w r)) {x1 : Int64} {x3 : Int32} {x4 : Int32} {u : MT} (h : B_X12_lay_38 f j3 x1 x3 x4 u = some r) : V z g 5 38 [(0, .ref 167), (1, .long x1), (3, .int x3), (4, .int x4)] [] w u 0 0 (Qv w r) := by
  rw [B_X12_lay_38] at h
  refine Vaload_n C 0 (dAt D_X12_lay 20 rfl) rfl rfl ?_
  refine VgetI C (dAt D_X12_lay 21 rfl) gf_X12_11 (kt_167 hL) rfl ?_
  refine Vsipush (x := 1200) C (dAt D_X12_lay 22 rfl) (by decide) ?_
  refine Vicmp_ge (tgt := 69) C (dAt D_X12_lay 23 rfl) (by decide) (fun c6 => ?_) (fun c6 => ?_)
  · have h := ok_t c6 h
    exact Vsub [0, 1, 2] rfl (w_X12_lay_69 hL C q3  h)
  · have h := ok_f c6 h
    refine Vaload_n C 0 (dAt D_X12_lay 24 rfl) rfl rfl ?_
    refine VgetP C (dAt D_X12_lay 25 rfl) gf_X12_14 (kt_167 hL) rfl (kp_167_1 hL) ?_
    refine Vaload_n C 0 (dAt D_X12_lay 26 rfl) rfl rfl ?_
    refine VgetI C (dAt D_X12_lay 27 rfl) gf_X12_11 (kt_167 hL) rfl ?_
    refine Viload C 3 (dAt D_X12_lay 28 rfl) rfl ?_
    obtain ⟨c7, h⟩ := ok_ck h
    refine Viast C (dAt D_X12_lay 29 rfl) (kt_168 hL) (kl_168 hL) (vp_in_iff.mpr c7) ?_
    refine Vaload_n C 0 (dAt D_X12_lay 30 rfl) rfl rfl ?_
    refine Vdup C (dAt D_X12_lay 31 rfl) rfl ?_
    refine VgetI C (dAt D_X12_lay 32 rfl) gf_X12_11 (kt_167 hL) rfl ?_
    refine Viconst (x := 1) C (dAt D_X12_lay 33 rfl) (by decide) ?_
    refine Viadd C (dAt D_X12_lay 34 rfl) ?_
    refine VputI C (dAt D_X12_lay 35 rfl) gf_X12_11 (kt_167 hL) rfl rfl rfl rfl ?_
    exact Vsub [0, 1, 2] rfl (w_X12_lay_69 hL C q3  h)
def B_X12_lay_3 (f : Nat) : Nat → Int64 → Int32 → MT → Option MT
  | 0, _, _, _ => none
  | n + 1, x1, x3, u =>
    if x3 < 0 then
      some u
    else
      let v2 := (((x1 >>> (x3.toInt64 &&& 63))).toInt32 &&& (255 : Int32))
      if v2 = (10 : Int32) then
        B_X12_lay_38 f (fun x1' x3' u' => B_X12_lay_3 f n x1' x3' u') x1 x3 v2 u
      else
        if v2 < (32 : Int32) then
          B_X12_lay_69 f (fun x1' x3' u' => B_X12_lay_3 f n x1' x3' u') x1 x3 u
        else
          if (126 : Int32) < v2 then
            B_X12_lay_69 f (fun x1' x3' u' => B_X12_lay_3 f n x1' x3' u') x1 x3 u
          else
            B_X12_lay_38 f (fun x1' x3' u' => B_X12_lay_3 f n x1' x3' u') x1 x3 v2 u
theorem w_X12_lay_3 {z : ZT} {g : GT} {w : LT} (hL : Lay w) (C : Cx z g cX12_lay 5 RX12 none 0 0 0) {f : Nat} {r : MT} : ∀ (n : Nat) (x1 : Int64) (x3 : Int32) (u : MT), B_X12_lay_3 f n x1 x3 u = some r → V z g 5 3 [(0, .ref 167), (1, .long x1), (3, .int x3)] [] w u 0 0 (Qv w r) := by
  intro n
  induction n with
  | zero =>
    intro x1 x3 u h
    rw [B_X12_lay_3] at h
    cases h
  | succ n ih =>
    intro x1 x3 u h
    rw [B_X12_lay_3] at h
    refine Viload_n C 2 (dAt D_X12_lay 2 rfl) rfl rfl ?_
    refine Vif_lt (tgt := 75) C (dAt D_X12_lay 3 rfl) (by decide) (fun c1 => ?_) (fun c1 => ?_)
    · have h := ok_t c1 h
      cases h
      exact Vvret C (dAt D_X12_lay 38 rfl) (by decide) (by decide) ⟨rfl, rfl, rfl⟩
    · have h := ok_f c1 h
      refine Vlload_n C 1 (dAt D_X12_lay 4 rfl) rfl rfl ?_
      refine Viload_n C 2 (dAt D_X12_lay 5 rfl) rfl rfl ?_
      refine Vlshr C (dAt D_X12_lay 6 rfl) ?_
      refine Vl2i C (dAt D_X12_lay 7 rfl) ?_
      refine Vsipush (x := 255) C (dAt D_X12_lay 8 rfl) (by decide) ?_
      refine Viand C (dAt D_X12_lay 9 rfl) ?_
      refine Vistore (lv' := [(4, _), (0, _), (1, _), (3, _)]) C (dAt D_X12_lay 10 rfl) (by decide) rfl ?_
      refine Viload C 0 (dAt D_X12_lay 11 rfl) rfl ?_
      refine Vbipush (x := 10) C (dAt D_X12_lay 12 rfl) (by decide) ?_
      refine Vicmp_eq (tgt := 38) C (dAt D_X12_lay 13 rfl) (by decide) (fun c3 => ?_) (fun c3 => ?_)
      · have h := ok_t c3 h
        exact Vsub [1, 2, 3, 0] rfl (w_X12_lay_38 hL C ih  h)
      · have h := ok_f c3 h
        refine Viload C 0 (dAt D_X12_lay 14 rfl) rfl ?_
        refine Vbipush (x := 32) C (dAt D_X12_lay 15 rfl) (by decide) ?_
        refine Vicmp_lt (tgt := 69) C (dAt D_X12_lay 16 rfl) (by decide) (fun c4 => ?_) (fun c4 => ?_)
        · have h := ok_t c4 h
          exact Vsub [1, 2, 3] rfl (w_X12_lay_69 hL C ih  h)
        · have h := ok_f c4 h
          refine Viload C 0 (dAt D_X12_lay 17 rfl) rfl ?_
          refine Vbipush (x := 126) C (dAt D_X12_lay 18 rfl) (by decide) ?_
          refine Vicmp_gt (tgt := 69) C (dAt D_X12_lay 19 rfl) (by decide) (fun c5 => ?_) (fun c5 => ?_)
          · have h := ok_t c5 h
            exact Vsub [1, 2, 3] rfl (w_X12_lay_69 hL C ih  h)
          · have h := ok_f c5 h
            exact Vsub [1, 2, 3, 0] rfl (w_X12_lay_38 hL C ih  h)
def F_X12_lay (f : Nat) (x1 : Int64) (u : MT) : Option MT :=
  B_X12_lay_3 f f x1 (56 : Int32) u
theorem m_X12_lay {g : GT} {w : LT} (hL : Lay w) {x1 : Int64} {f : Nat} {u : MT} {r : MT} (h : F_X12_lay f x1 u = some r) : Mt g yX12_lay cX12_lay 5 none 0 0 0 [.ref 167, .long x1] w u (Qv w r) := by
  refine Mt_of (own := RX12) (by decide +kernel) rfl (Nat.le_of_ble_eq_true rfl) (fun z C _ => ?_)
  show V z g 5 0 [(0, .ref 167), (1, .long x1)] [] w u 0 0 (Qv w r)
  rw [F_X12_lay] at h
  refine Vbipush (x := 56) C (dAt D_X12_lay 0 rfl) (by decide) ?_
  refine Vistore_n (lv' := [(3, _), (0, _), (1, _)]) C (dAt D_X12_lay 1 rfl) rfl (by decide) rfl ?_
  exact Vsub [1, 2, 0] rfl (w_X12_lay_3 hL C  f _ _ _  h)
def F_X12_feed (f : Nat) (x1 : Int64) (x3 : Int64) (x5 : Int64) (u : MT) : Option (Int32 × MT) :=
  let u1 := sI u 167 0 (0 : Int32)
  (F_X12_lay f x1 u1).bind fun r2 =>
  (F_X12_lay f x3 r2).bind fun r4 =>
  (F_X12_lay f x5 r4).bind fun r6 =>
  some ((gI r6 167 2), r6)
theorem m_X12_feed {g : GT} {w : LT} (hL : Lay w) {x1 : Int64} {x3 : Int64} {x5 : Int64} {f : Nat} {u : MT} {r : (Int32 × MT)} (h : F_X12_feed f x1 x3 x5 u = some r) : Mt g yX12_feed cX12_feed 7 (some .int) 1 0 0 [.ref 167, .long x1, .long x3, .long x5] w u (Qi r.1 w r.2) := by
  refine Mt_of (own := RX12) (by decide +kernel) rfl (Nat.le_of_ble_eq_true rfl) (fun z C _ => ?_)
  show V z g 7 0 [(0, .ref 167), (1, .long x1), (3, .long x3), (5, .long x5)] [] w u 0 0 (Qi r.1 w r.2)
  rw [F_X12_feed] at h
  refine Vaload_n C 0 (dAt D_X12_feed 0 rfl) rfl rfl ?_
  refine Viconst (x := 0) C (dAt D_X12_feed 1 rfl) (by decide) ?_
  refine VputI C (dAt D_X12_feed 2 rfl) gf_X12_1 (kt_167 hL) rfl rfl rfl rfl ?_
  refine Vaload_n C 0 (dAt D_X12_feed 3 rfl) rfl rfl ?_
  refine Vlload_n C 1 (dAt D_X12_feed 4 rfl) rfl rfl ?_
  obtain ⟨r2, e3, h⟩ := ok_b h
  refine VcallV (as := [_]) C (dAt D_X12_feed 5 rfl) (m_X12_lay hL e3) yv_X12_7 (Or.inl ⟨(kt_167 hL), by decide⟩) rfl rfl (Nat.le_of_ble_eq_true rfl) (by decide) (by decide) (by decide) (by decide) (Kvoid ?_)
  refine Vaload_n C 0 (dAt D_X12_feed 6 rfl) rfl rfl ?_
  refine Vlload_n C 2 (dAt D_X12_feed 7 rfl) rfl rfl ?_
  obtain ⟨r4, e5, h⟩ := ok_b h
  refine VcallV (as := [_]) C (dAt D_X12_feed 8 rfl) (m_X12_lay hL e5) yv_X12_7 (Or.inl ⟨(kt_167 hL), by decide⟩) rfl rfl (Nat.le_of_ble_eq_true rfl) (by decide) (by decide) (by decide) (by decide) (Kvoid ?_)
  refine Vaload_n C 0 (dAt D_X12_feed 9 rfl) rfl rfl ?_
  refine Vlload C 3 (dAt D_X12_feed 10 rfl) rfl ?_
  obtain ⟨r6, e7, h⟩ := ok_b h
  refine VcallV (as := [_]) C (dAt D_X12_feed 11 rfl) (m_X12_lay hL e7) yv_X12_7 (Or.inl ⟨(kt_167 hL), by decide⟩) rfl rfl (Nat.le_of_ble_eq_true rfl) (by decide) (by decide) (by decide) (by decide) (Kvoid ?_)
  refine Vaload_n C 0 (dAt D_X12_feed 12 rfl) rfl rfl ?_
  refine VgetI C (dAt D_X12_feed 13 rfl) gf_X12_11 (kt_167 hL) rfl ?_
  cases h
  exact Viret C (dAt D_X12_feed 14 rfl) (by decide) (by decide) ⟨rfl, rfl, rfl⟩
def F_X12_isLetter (f : Nat) (x0 : Int32) (u : MT) : Option (Int32 × MT) :=
  if x0 < (97 : Int32) then
    some ((0 : Int32), u)
  else
    if (122 : Int32) < x0 then
      some ((0 : Int32), u)
    else
      some ((1 : Int32), u)
theorem m_X12_isLetter {g : GT} {w : LT} (hL : Lay w) {x0 : Int32} {f : Nat} {u : MT} {r : (Int32 × MT)} (h : F_X12_isLetter f x0 u = some r) : Mt g yX12_isLetter cX12_isLetter 1 (some .boolean) 0 0 0 [.int x0] w u (Qi r.1 w r.2) := by
  refine Mt_of (own := RX12) (by decide +kernel) rfl (Nat.le_of_ble_eq_true rfl) (fun z C _ => ?_)
  show V z g 1 0 [(0, .int x0)] [] w u 0 0 (Qi r.1 w r.2)
  rw [F_X12_isLetter] at h
  refine Viload_n C 0 (dAt D_X12_isLetter 0 rfl) rfl rfl ?_
  refine Vbipush (x := 97) C (dAt D_X12_isLetter 1 rfl) (by decide) ?_
  refine Vicmp_lt (tgt := 16) C (dAt D_X12_isLetter 2 rfl) (by decide) (fun c1 => ?_) (fun c1 => ?_)
  · have h := ok_t c1 h
    refine Viconst (x := 0) C (dAt D_X12_isLetter 8 rfl) (by decide) ?_
    cases h
    exact Vzret C (dAt D_X12_isLetter 9 rfl) rfl (by decide) (by decide) ⟨rfl, rfl, rfl⟩
  · have h := ok_f c1 h
    refine Viload_n C 0 (dAt D_X12_isLetter 3 rfl) rfl rfl ?_
    refine Vbipush (x := 122) C (dAt D_X12_isLetter 4 rfl) (by decide) ?_
    refine Vicmp_gt (tgt := 16) C (dAt D_X12_isLetter 5 rfl) (by decide) (fun c2 => ?_) (fun c2 => ?_)
    · have h := ok_t c2 h
      refine Viconst (x := 0) C (dAt D_X12_isLetter 8 rfl) (by decide) ?_
      cases h
      exact Vzret C (dAt D_X12_isLetter 9 rfl) rfl (by decide) (by decide) ⟨rfl, rfl, rfl⟩
    · have h := ok_f c2 h
      refine Viconst (x := 1) C (dAt D_X12_isLetter 6 rfl) (by decide) ?_
      refine Vgoto (tgt := 17) C (dAt D_X12_isLetter 7 rfl) (by decide) ?_
      cases h
      exact Vzret C (dAt D_X12_isLetter 9 rfl) rfl (by decide) (by decide) ⟨rfl, rfl, rfl⟩
def F_X12_isDigit (f : Nat) (x0 : Int32) (u : MT) : Option (Int32 × MT) :=
  if x0 < (48 : Int32) then
    some ((0 : Int32), u)
  else
    if (57 : Int32) < x0 then
      some ((0 : Int32), u)
    else
      some ((1 : Int32), u)
theorem m_X12_isDigit {g : GT} {w : LT} (hL : Lay w) {x0 : Int32} {f : Nat} {u : MT} {r : (Int32 × MT)} (h : F_X12_isDigit f x0 u = some r) : Mt g yX12_isDigit cX12_isDigit 1 (some .boolean) 0 0 0 [.int x0] w u (Qi r.1 w r.2) := by
  refine Mt_of (own := RX12) (by decide +kernel) rfl (Nat.le_of_ble_eq_true rfl) (fun z C _ => ?_)
  show V z g 1 0 [(0, .int x0)] [] w u 0 0 (Qi r.1 w r.2)
  rw [F_X12_isDigit] at h
  refine Viload_n C 0 (dAt D_X12_isDigit 0 rfl) rfl rfl ?_
  refine Vbipush (x := 48) C (dAt D_X12_isDigit 1 rfl) (by decide) ?_
  refine Vicmp_lt (tgt := 16) C (dAt D_X12_isDigit 2 rfl) (by decide) (fun c1 => ?_) (fun c1 => ?_)
  · have h := ok_t c1 h
    refine Viconst (x := 0) C (dAt D_X12_isDigit 8 rfl) (by decide) ?_
    cases h
    exact Vzret C (dAt D_X12_isDigit 9 rfl) rfl (by decide) (by decide) ⟨rfl, rfl, rfl⟩
  · have h := ok_f c1 h
    refine Viload_n C 0 (dAt D_X12_isDigit 3 rfl) rfl rfl ?_
    refine Vbipush (x := 57) C (dAt D_X12_isDigit 4 rfl) (by decide) ?_
    refine Vicmp_gt (tgt := 16) C (dAt D_X12_isDigit 5 rfl) (by decide) (fun c2 => ?_) (fun c2 => ?_)
    · have h := ok_t c2 h
      refine Viconst (x := 0) C (dAt D_X12_isDigit 8 rfl) (by decide) ?_
      cases h
      exact Vzret C (dAt D_X12_isDigit 9 rfl) rfl (by decide) (by decide) ⟨rfl, rfl, rfl⟩
    · have h := ok_f c2 h
      refine Viconst (x := 1) C (dAt D_X12_isDigit 6 rfl) (by decide) ?_
      refine Vgoto (tgt := 17) C (dAt D_X12_isDigit 7 rfl) (by decide) ?_
      cases h
      exact Vzret C (dAt D_X12_isDigit 9 rfl) rfl (by decide) (by decide) ⟨rfl, rfl, rfl⟩
def F_X12_rank (f : Nat) (x0 : Int32) (u : MT) : Option (Int32 × MT) :=
  (F_X12_isLetter f x0 u).bind fun r1 =>
  if r1.1 = 0 then
    some ((x0 - (21 : Int32)), r1.2)
  else
    some ((x0 - (96 : Int32)), r1.2)
theorem m_X12_rank {g : GT} {w : LT} (hL : Lay w) {x0 : Int32} {f : Nat} {u : MT} {r : (Int32 × MT)} (h : F_X12_rank f x0 u = some r) : Mt g yX12_rank cX12_rank 1 (some .int) 1 0 0 [.int x0] w u (Qi r.1 w r.2) := by
  refine Mt_of (own := RX12) (by decide +kernel) rfl (Nat.le_of_ble_eq_true rfl) (fun z C _ => ?_)
  show V z g 1 0 [(0, .int x0)] [] w u 0 0 (Qi r.1 w r.2)
  rw [F_X12_rank] at h
  refine Viload_n C 0 (dAt D_X12_rank 0 rfl) rfl rfl ?_
  obtain ⟨r1, e2, h⟩ := ok_b h
  refine VcallS (as := [_]) C (dAt D_X12_rank 1 rfl) (m_X12_isLetter hL e2) yb_X12_225 ys_X12_225 rfl rfl (Nat.le_of_ble_eq_true rfl) (by decide) (by decide) (by decide) (by decide) (Kint ?_)
  refine Vif_eq (tgt := 14) C (dAt D_X12_rank 2 rfl) (by decide) (fun c3 => ?_) (fun c3 => ?_)
  · have h := ok_t c3 h
    refine Viload_n C 0 (dAt D_X12_rank 7 rfl) rfl rfl ?_
    refine Vbipush (x := 21) C (dAt D_X12_rank 8 rfl) (by decide) ?_
    refine Visub C (dAt D_X12_rank 9 rfl) ?_
    cases h
    exact Viret C (dAt D_X12_rank 10 rfl) (by decide) (by decide) ⟨rfl, rfl, rfl⟩
  · have h := ok_f c3 h
    refine Viload_n C 0 (dAt D_X12_rank 3 rfl) rfl rfl ?_
    refine Vbipush (x := 96) C (dAt D_X12_rank 4 rfl) (by decide) ?_
    refine Visub C (dAt D_X12_rank 5 rfl) ?_
    refine Vgoto (tgt := 18) C (dAt D_X12_rank 6 rfl) (by decide) ?_
    cases h
    exact Viret C (dAt D_X12_rank 10 rfl) (by decide) (by decide) ⟨rfl, rfl, rfl⟩
def B_X12_isSignOf_42 (f : Nat) (u : MT) : Option (Int32 × MT) :=
  some ((1 : Int32), u)
theorem w_X12_isSignOf_42 {z : ZT} {g : GT} {w : LT} (hL : Lay w) (C : Cx z g cX12_isSignOf 1 RX12 (some .boolean) 0 0 0) {f : Nat} {r : (Int32 × MT)} {u : MT} (h : B_X12_isSignOf_42 f  u = some r) : V z g 1 42 [] [] w u 0 0 (Qi r.1 w r.2) := by
  rw [B_X12_isSignOf_42] at h
  refine Viconst (x := 1) C (dAt D_X12_isSignOf 21 rfl) (by decide) ?_
  refine Vgoto (tgt := 47) C (dAt D_X12_isSignOf 22 rfl) (by decide) ?_
  cases h
  exact Vzret C (dAt D_X12_isSignOf 24 rfl) rfl (by decide) (by decide) ⟨rfl, rfl, rfl⟩
def F_X12_isSignOf (f : Nat) (x0 : Int32) (u : MT) : Option (Int32 × MT) :=
  if x0 = (40 : Int32) then
    B_X12_isSignOf_42 f u
  else
    if x0 = (41 : Int32) then
      B_X12_isSignOf_42 f u
    else
      if x0 = (59 : Int32) then
        B_X12_isSignOf_42 f u
      else
        if x0 = (61 : Int32) then
          B_X12_isSignOf_42 f u
        else
          if x0 = (60 : Int32) then
            B_X12_isSignOf_42 f u
          else
            if x0 = (43 : Int32) then
              B_X12_isSignOf_42 f u
            else
              if x0 = (45 : Int32) then
                B_X12_isSignOf_42 f u
              else
                some ((0 : Int32), u)
theorem m_X12_isSignOf {g : GT} {w : LT} (hL : Lay w) {x0 : Int32} {f : Nat} {u : MT} {r : (Int32 × MT)} (h : F_X12_isSignOf f x0 u = some r) : Mt g yX12_isSignOf cX12_isSignOf 1 (some .boolean) 0 0 0 [.int x0] w u (Qi r.1 w r.2) := by
  refine Mt_of (own := RX12) (by decide +kernel) rfl (Nat.le_of_ble_eq_true rfl) (fun z C _ => ?_)
  show V z g 1 0 [(0, .int x0)] [] w u 0 0 (Qi r.1 w r.2)
  rw [F_X12_isSignOf] at h
  refine Viload_n C 0 (dAt D_X12_isSignOf 0 rfl) rfl rfl ?_
  refine Vbipush (x := 40) C (dAt D_X12_isSignOf 1 rfl) (by decide) ?_
  refine Vicmp_eq (tgt := 42) C (dAt D_X12_isSignOf 2 rfl) (by decide) (fun c1 => ?_) (fun c1 => ?_)
  · have h := ok_t c1 h
    exact Vsub [] rfl (w_X12_isSignOf_42 hL C  h)
  · have h := ok_f c1 h
    refine Viload_n C 0 (dAt D_X12_isSignOf 3 rfl) rfl rfl ?_
    refine Vbipush (x := 41) C (dAt D_X12_isSignOf 4 rfl) (by decide) ?_
    refine Vicmp_eq (tgt := 42) C (dAt D_X12_isSignOf 5 rfl) (by decide) (fun c2 => ?_) (fun c2 => ?_)
    · have h := ok_t c2 h
      exact Vsub [] rfl (w_X12_isSignOf_42 hL C  h)
    · have h := ok_f c2 h
      refine Viload_n C 0 (dAt D_X12_isSignOf 6 rfl) rfl rfl ?_
      refine Vbipush (x := 59) C (dAt D_X12_isSignOf 7 rfl) (by decide) ?_
      refine Vicmp_eq (tgt := 42) C (dAt D_X12_isSignOf 8 rfl) (by decide) (fun c3 => ?_) (fun c3 => ?_)
      · have h := ok_t c3 h
        exact Vsub [] rfl (w_X12_isSignOf_42 hL C  h)
      · have h := ok_f c3 h
        refine Viload_n C 0 (dAt D_X12_isSignOf 9 rfl) rfl rfl ?_
        refine Vbipush (x := 61) C (dAt D_X12_isSignOf 10 rfl) (by decide) ?_
        refine Vicmp_eq (tgt := 42) C (dAt D_X12_isSignOf 11 rfl) (by decide) (fun c4 => ?_) (fun c4 => ?_)
        · have h := ok_t c4 h
          exact Vsub [] rfl (w_X12_isSignOf_42 hL C  h)
        · have h := ok_f c4 h
          refine Viload_n C 0 (dAt D_X12_isSignOf 12 rfl) rfl rfl ?_
          refine Vbipush (x := 60) C (dAt D_X12_isSignOf 13 rfl) (by decide) ?_
          refine Vicmp_eq (tgt := 42) C (dAt D_X12_isSignOf 14 rfl) (by decide) (fun c5 => ?_) (fun c5 => ?_)
          · have h := ok_t c5 h
            exact Vsub [] rfl (w_X12_isSignOf_42 hL C  h)
          · have h := ok_f c5 h
            refine Viload_n C 0 (dAt D_X12_isSignOf 15 rfl) rfl rfl ?_
            refine Vbipush (x := 43) C (dAt D_X12_isSignOf 16 rfl) (by decide) ?_
            refine Vicmp_eq (tgt := 42) C (dAt D_X12_isSignOf 17 rfl) (by decide) (fun c6 => ?_) (fun c6 => ?_)
            · have h := ok_t c6 h
              exact Vsub [] rfl (w_X12_isSignOf_42 hL C  h)
            · have h := ok_f c6 h
              refine Viload_n C 0 (dAt D_X12_isSignOf 18 rfl) rfl rfl ?_
              refine Vbipush (x := 45) C (dAt D_X12_isSignOf 19 rfl) (by decide) ?_
              refine Vicmp_ne (tgt := 46) C (dAt D_X12_isSignOf 20 rfl) (by decide) (fun c7 => ?_) (fun c7 => ?_)
              · have h := ok_f c7 h
                refine Viconst (x := 0) C (dAt D_X12_isSignOf 23 rfl) (by decide) ?_
                cases h
                exact Vzret C (dAt D_X12_isSignOf 24 rfl) rfl (by decide) (by decide) ⟨rfl, rfl, rfl⟩
              · have h := ok_t c7 h
                exact Vsub [] rfl (w_X12_isSignOf_42 hL C  h)
def F_X12_can (f : Nat) (x1 : Int32) (u : MT) : Option (Int32 × MT) :=
  ck (ixo x1 12) <|
  if (gI u 201 (x1).toNatClampNeg) ≤ 0 then
    some ((0 : Int32), u)
  else
    if (gI u 202 (x1).toNatClampNeg) ≤ 0 then
      some ((0 : Int32), u)
    else
      some ((1 : Int32), u)
theorem m_X12_can {g : GT} {w : LT} (hL : Lay w) {x1 : Int32} {f : Nat} {u : MT} {r : (Int32 × MT)} (h : F_X12_can f x1 u = some r) : Mt g yX12_can cX12_can 2 (some .boolean) 0 0 0 [.ref 167, .int x1] w u (Qi r.1 w r.2) := by
  refine Mt_of (own := RX12) (by decide +kernel) rfl (Nat.le_of_ble_eq_true rfl) (fun z C _ => ?_)
  show V z g 2 0 [(0, .ref 167), (1, .int x1)] [] w u 0 0 (Qi r.1 w r.2)
  rw [F_X12_can] at h
  refine Vaload_n C 0 (dAt D_X12_can 0 rfl) rfl rfl ?_
  refine VgetP C (dAt D_X12_can 1 rfl) gf_X12_172 (kt_167 hL) rfl (kp_167_52 hL) ?_
  refine Viload_n C 1 (dAt D_X12_can 2 rfl) rfl rfl ?_
  obtain ⟨c1, h⟩ := ok_ck h
  refine Viald C (dAt D_X12_can 3 rfl) (kt_201 hL) (kl_201 hL) (vp_in_iff.mpr c1) ?_
  refine Vif_le (tgt := 22) C (dAt D_X12_can 4 rfl) (by decide) (fun c2 => ?_) (fun c2 => ?_)
  · have h := ok_t c2 h
    refine Viconst (x := 0) C (dAt D_X12_can 12 rfl) (by decide) ?_
    cases h
    exact Vzret C (dAt D_X12_can 13 rfl) rfl (by decide) (by decide) ⟨rfl, rfl, rfl⟩
  · have h := ok_f c2 h
    refine Vaload_n C 0 (dAt D_X12_can 5 rfl) rfl rfl ?_
    refine VgetP C (dAt D_X12_can 6 rfl) gf_X12_175 (kt_167 hL) rfl (kp_167_53 hL) ?_
    refine Viload_n C 1 (dAt D_X12_can 7 rfl) rfl rfl ?_
    refine Viald C (dAt D_X12_can 8 rfl) (kt_202 hL) (kl_202 hL) (vp_in_iff.mpr c1) ?_
    refine Vif_le (tgt := 22) C (dAt D_X12_can 9 rfl) (by decide) (fun c3 => ?_) (fun c3 => ?_)
    · have h := ok_t c3 h
      refine Viconst (x := 0) C (dAt D_X12_can 12 rfl) (by decide) ?_
      cases h
      exact Vzret C (dAt D_X12_can 13 rfl) rfl (by decide) (by decide) ⟨rfl, rfl, rfl⟩
    · have h := ok_f c3 h
      refine Viconst (x := 1) C (dAt D_X12_can 10 rfl) (by decide) ?_
      refine Vgoto (tgt := 23) C (dAt D_X12_can 11 rfl) (by decide) ?_
      cases h
      exact Vzret C (dAt D_X12_can 13 rfl) rfl (by decide) (by decide) ⟨rfl, rfl, rfl⟩
def F_X12_least (f : Nat) (x0 : Int32) (x1 : Int32) (u : MT) : Option (Int32 × MT) :=
  if x1 ≤ x0 then
    some (x1, u)
  else
    some (x0, u)
theorem m_X12_least {g : GT} {w : LT} (hL : Lay w) {x0 : Int32} {x1 : Int32} {f : Nat} {u : MT} {r : (Int32 × MT)} (h : F_X12_least f x0 x1 u = some r) : Mt g yX12_least cX12_least 2 (some .int) 0 0 0 [.int x0, .int x1] w u (Qi r.1 w r.2) := by
  refine Mt_of (own := RX12) (by decide +kernel) rfl (Nat.le_of_ble_eq_true rfl) (fun z C _ => ?_)
  show V z g 2 0 [(0, .int x0), (1, .int x1)] [] w u 0 0 (Qi r.1 w r.2)
  rw [F_X12_least] at h
  refine Viload_n C 0 (dAt D_X12_least 0 rfl) rfl rfl ?_
  refine Viload_n C 1 (dAt D_X12_least 1 rfl) rfl rfl ?_
  refine Vicmp_ge (tgt := 9) C (dAt D_X12_least 2 rfl) (by decide) (fun c1 => ?_) (fun c1 => ?_)
  · have h := ok_t c1 h
    refine Viload_n C 1 (dAt D_X12_least 5 rfl) rfl rfl ?_
    cases h
    exact Viret C (dAt D_X12_least 6 rfl) (by decide) (by decide) ⟨rfl, rfl, rfl⟩
  · have h := ok_f c1 h
    refine Viload_n C 0 (dAt D_X12_least 3 rfl) rfl rfl ?_
    refine Vgoto (tgt := 10) C (dAt D_X12_least 4 rfl) (by decide) ?_
    cases h
    exact Viret C (dAt D_X12_least 6 rfl) (by decide) (by decide) ⟨rfl, rfl, rfl⟩
def F_X12_hands (f : Nat) (x1 : Int32) (x2 : Int32) (x3 : Int32) (x4 : Int32) (u : MT) : Option MT :=
  ck (ixo x3 12) <|
  let u2 := sI u 201 (x3).toNatClampNeg ((gI u 201 (x3).toNatClampNeg) - x4)
  let u3 := sI u2 202 (x3).toNatClampNeg ((gI u2 202 (x3).toNatClampNeg) - x4)
  let u4 := sI u3 207 (x3).toNatClampNeg ((gI u3 207 (x3).toNatClampNeg) + x4)
  ck (ixo (((13 : Int32) * x1) + x3) 312) <|
  let u6 := sI u4 209 ((((13 : Int32) * x1) + x3)).toNatClampNeg ((gI u4 209 ((((13 : Int32) * x1) + x3)).toNatClampNeg) + x4)
  ck (ixo x2 192) <|
  if (gI u6 178 (x2).toNatClampNeg) = 0 then
    let u9 := sI u6 204 (x3).toNatClampNeg ((gI u6 204 (x3).toNatClampNeg) + x4)
    let u10 := sI u9 167 46 ((gI u9 167 46) - x4)
    some u10
  else
    let u11 := sI u6 205 (x3).toNatClampNeg ((gI u6 205 (x3).toNatClampNeg) + x4)
    let u12 := sI u11 167 45 ((gI u11 167 45) - x4)
    some u12
theorem m_X12_hands {g : GT} {w : LT} (hL : Lay w) {x1 : Int32} {x2 : Int32} {x3 : Int32} {x4 : Int32} {f : Nat} {u : MT} {r : MT} (h : F_X12_hands f x1 x2 x3 x4 u = some r) : Mt g yX12_hands cX12_hands 5 none 0 0 0 [.ref 167, .int x1, .int x2, .int x3, .int x4] w u (Qv w r) := by
  refine Mt_of (own := RX12) (by decide +kernel) rfl (Nat.le_of_ble_eq_true rfl) (fun z C _ => ?_)
  show V z g 5 0 [(0, .ref 167), (1, .int x1), (2, .int x2), (3, .int x3), (4, .int x4)] [] w u 0 0 (Qv w r)
  rw [F_X12_hands] at h
  refine Vaload_n C 0 (dAt D_X12_hands 0 rfl) rfl rfl ?_
  refine VgetP C (dAt D_X12_hands 1 rfl) gf_X12_172 (kt_167 hL) rfl (kp_167_52 hL) ?_
  refine Viload_n C 3 (dAt D_X12_hands 2 rfl) rfl rfl ?_
  refine Vdup2 C (dAt D_X12_hands 3 rfl) rfl rfl ?_
  obtain ⟨c1, h⟩ := ok_ck h
  refine Viald C (dAt D_X12_hands 4 rfl) (kt_201 hL) (kl_201 hL) (vp_in_iff.mpr c1) ?_
  refine Viload C 4 (dAt D_X12_hands 5 rfl) rfl ?_
  refine Visub C (dAt D_X12_hands 6 rfl) ?_
  refine Viast C (dAt D_X12_hands 7 rfl) (kt_201 hL) (kl_201 hL) (vp_in_iff.mpr c1) ?_
  refine Vaload_n C 0 (dAt D_X12_hands 8 rfl) rfl rfl ?_
  refine VgetP C (dAt D_X12_hands 9 rfl) gf_X12_175 (kt_167 hL) rfl (kp_167_53 hL) ?_
  refine Viload_n C 3 (dAt D_X12_hands 10 rfl) rfl rfl ?_
  refine Vdup2 C (dAt D_X12_hands 11 rfl) rfl rfl ?_
  refine Viald C (dAt D_X12_hands 12 rfl) (kt_202 hL) (kl_202 hL) (vp_in_iff.mpr c1) ?_
  refine Viload C 4 (dAt D_X12_hands 13 rfl) rfl ?_
  refine Visub C (dAt D_X12_hands 14 rfl) ?_
  refine Viast C (dAt D_X12_hands 15 rfl) (kt_202 hL) (kl_202 hL) (vp_in_iff.mpr c1) ?_
  refine Vaload_n C 0 (dAt D_X12_hands 16 rfl) rfl rfl ?_
  refine VgetP C (dAt D_X12_hands 17 rfl) gf_X12_190 (kt_167 hL) rfl (kp_167_58 hL) ?_
  refine Viload_n C 3 (dAt D_X12_hands 18 rfl) rfl rfl ?_
  refine Vdup2 C (dAt D_X12_hands 19 rfl) rfl rfl ?_
  refine Viald C (dAt D_X12_hands 20 rfl) (kt_207 hL) (kl_207 hL) (vp_in_iff.mpr c1) ?_
  refine Viload C 4 (dAt D_X12_hands 21 rfl) rfl ?_
  refine Viadd C (dAt D_X12_hands 22 rfl) ?_
  refine Viast C (dAt D_X12_hands 23 rfl) (kt_207 hL) (kl_207 hL) (vp_in_iff.mpr c1) ?_
  refine Vaload_n C 0 (dAt D_X12_hands 24 rfl) rfl rfl ?_
  refine VgetP C (dAt D_X12_hands 25 rfl) gf_X12_196 (kt_167 hL) rfl (kp_167_67 hL) ?_
  refine Vbipush (x := 13) C (dAt D_X12_hands 26 rfl) (by decide) ?_
  refine Viload_n C 1 (dAt D_X12_hands 27 rfl) rfl rfl ?_
  refine Vimul C (dAt D_X12_hands 28 rfl) ?_
  refine Viload_n C 3 (dAt D_X12_hands 29 rfl) rfl rfl ?_
  refine Viadd C (dAt D_X12_hands 30 rfl) ?_
  refine Vdup2 C (dAt D_X12_hands 31 rfl) rfl rfl ?_
  obtain ⟨c5, h⟩ := ok_ck h
  refine Viald C (dAt D_X12_hands 32 rfl) (kt_209 hL) (kl_209 hL) (vp_in_iff.mpr c5) ?_
  refine Viload C 4 (dAt D_X12_hands 33 rfl) rfl ?_
  refine Viadd C (dAt D_X12_hands 34 rfl) ?_
  refine Viast C (dAt D_X12_hands 35 rfl) (kt_209 hL) (kl_209 hL) (vp_in_iff.mpr c5) ?_
  refine Vaload_n C 0 (dAt D_X12_hands 36 rfl) rfl rfl ?_
  refine VgetP C (dAt D_X12_hands 37 rfl) gf_X12_100 (kt_167 hL) rfl (kp_167_15 hL) ?_
  refine Viload_n C 2 (dAt D_X12_hands 38 rfl) rfl rfl ?_
  obtain ⟨c7, h⟩ := ok_ck h
  refine Viald C (dAt D_X12_hands 39 rfl) (kt_178 hL) (kl_178 hL) (vp_in_iff.mpr c7) ?_
  refine Vif_ne (tgt := 83) C (dAt D_X12_hands 40 rfl) (by decide) (fun c8 => ?_) (fun c8 => ?_)
  · have h := ok_f c8 h
    refine Vaload_n C 0 (dAt D_X12_hands 56 rfl) rfl rfl ?_
    refine VgetP C (dAt D_X12_hands 57 rfl) gf_X12_184 (kt_167 hL) rfl (kp_167_56 hL) ?_
    refine Viload_n C 3 (dAt D_X12_hands 58 rfl) rfl rfl ?_
    refine Vdup2 C (dAt D_X12_hands 59 rfl) rfl rfl ?_
    refine Viald C (dAt D_X12_hands 60 rfl) (kt_205 hL) (kl_205 hL) (vp_in_iff.mpr c1) ?_
    refine Viload C 4 (dAt D_X12_hands 61 rfl) rfl ?_
    refine Viadd C (dAt D_X12_hands 62 rfl) ?_
    refine Viast C (dAt D_X12_hands 63 rfl) (kt_205 hL) (kl_205 hL) (vp_in_iff.mpr c1) ?_
    refine Vaload_n C 0 (dAt D_X12_hands 64 rfl) rfl rfl ?_
    refine Vdup C (dAt D_X12_hands 65 rfl) rfl ?_
    refine VgetI C (dAt D_X12_hands 66 rfl) gf_X12_350 (kt_167 hL) rfl ?_
    refine Viload C 4 (dAt D_X12_hands 67 rfl) rfl ?_
    refine Visub C (dAt D_X12_hands 68 rfl) ?_
    refine VputI C (dAt D_X12_hands 69 rfl) gf_X12_350 (kt_167 hL) rfl rfl rfl rfl ?_
    cases h
    exact Vvret C (dAt D_X12_hands 70 rfl) (by decide) (by decide) ⟨rfl, rfl, rfl⟩
  · have h := ok_t c8 h
    refine Vaload_n C 0 (dAt D_X12_hands 41 rfl) rfl rfl ?_
    refine VgetP C (dAt D_X12_hands 42 rfl) gf_X12_181 (kt_167 hL) rfl (kp_167_55 hL) ?_
    refine Viload_n C 3 (dAt D_X12_hands 43 rfl) rfl rfl ?_
    refine Vdup2 C (dAt D_X12_hands 44 rfl) rfl rfl ?_
    refine Viald C (dAt D_X12_hands 45 rfl) (kt_204 hL) (kl_204 hL) (vp_in_iff.mpr c1) ?_
    refine Viload C 4 (dAt D_X12_hands 46 rfl) rfl ?_
    refine Viadd C (dAt D_X12_hands 47 rfl) ?_
    refine Viast C (dAt D_X12_hands 48 rfl) (kt_204 hL) (kl_204 hL) (vp_in_iff.mpr c1) ?_
    refine Vaload_n C 0 (dAt D_X12_hands 49 rfl) rfl rfl ?_
    refine Vdup C (dAt D_X12_hands 50 rfl) rfl ?_
    refine VgetI C (dAt D_X12_hands 51 rfl) gf_X12_369 (kt_167 hL) rfl ?_
    refine Viload C 4 (dAt D_X12_hands 52 rfl) rfl ?_
    refine Visub C (dAt D_X12_hands 53 rfl) ?_
    refine VputI C (dAt D_X12_hands 54 rfl) gf_X12_369 (kt_167 hL) rfl rfl rfl rfl ?_
    refine Vgoto (tgt := 105) C (dAt D_X12_hands 55 rfl) (by decide) ?_
    cases h
    exact Vvret C (dAt D_X12_hands 70 rfl) (by decide) (by decide) ⟨rfl, rfl, rfl⟩
def B_X12_partOf_55 (f : Nat) : Nat → Int32 → Int32 → MT → Option (Int32 × MT)
  | 0, _, _, _ => none
  | n + 1, x2, x3, u =>
    if (gI u 167 31) ≤ x3 then
      some (x2, u)
    else
      ck (ixo x3 12) <|
      let v7 := (x2 + (gI u 201 (x3).toNatClampNeg))
      let v8 := x3 + 1
      B_X12_partOf_55 f n v7 v8 u
theorem w_X12_partOf_55 {z : ZT} {g : GT} {w : LT} (hL : Lay w) (C : Cx z g cX12_partOf 4 RX12 (some .int) 0 0 0) {f : Nat} {r : (Int32 × MT)} : ∀ (n : Nat) (x2 : Int32) (x3 : Int32) (u : MT), B_X12_partOf_55 f n x2 x3 u = some r → V z g 4 55 [(0, .ref 167), (2, .int x2), (3, .int x3)] [] w u 0 0 (Qi r.1 w r.2) := by
  intro n
  induction n with
  | zero =>
    intro x2 x3 u h
    rw [B_X12_partOf_55] at h
    cases h
  | succ n ih =>
    intro x2 x3 u h
    rw [B_X12_partOf_55] at h
    refine Viload_n C 2 (dAt D_X12_partOf 31 rfl) rfl rfl ?_
    refine Vaload_n C 0 (dAt D_X12_partOf 32 rfl) rfl rfl ?_
    refine VgetI C (dAt D_X12_partOf 33 rfl) gf_X12_300 (kt_167 hL) rfl ?_
    refine Vicmp_ge (tgt := 78) C (dAt D_X12_partOf 34 rfl) (by decide) (fun c5 => ?_) (fun c5 => ?_)
    · have h := ok_t c5 h
      refine Viload_n C 1 (dAt D_X12_partOf 44 rfl) rfl rfl ?_
      cases h
      exact Viret C (dAt D_X12_partOf 45 rfl) (by decide) (by decide) ⟨rfl, rfl, rfl⟩
    · have h := ok_f c5 h
      refine Viload_n C 1 (dAt D_X12_partOf 35 rfl) rfl rfl ?_
      refine Vaload_n C 0 (dAt D_X12_partOf 36 rfl) rfl rfl ?_
      refine VgetP C (dAt D_X12_partOf 37 rfl) gf_X12_172 (kt_167 hL) rfl (kp_167_52 hL) ?_
      refine Viload_n C 2 (dAt D_X12_partOf 38 rfl) rfl rfl ?_
      obtain ⟨c6, h⟩ := ok_ck h
      refine Viald C (dAt D_X12_partOf 39 rfl) (kt_201 hL) (kl_201 hL) (vp_in_iff.mpr c6) ?_
      refine Viadd C (dAt D_X12_partOf 40 rfl) ?_
      refine Vistore_n (lv' := [(2, _), (0, _), (3, _)]) C (dAt D_X12_partOf 41 rfl) rfl (by decide) rfl ?_
      refine Viinc (j := 2) (v := _ + 1) (lv' := [(3, _), (2, _), (0, _)]) C (dAt D_X12_partOf 42 rfl) rfl rfl (by decide) rfl ?_
      refine Vgoto (tgt := 55) C (dAt D_X12_partOf 43 rfl) (by decide) ?_
      exact Vsub [2, 1, 0] rfl (ih _ _ _  h)
def F_X12_partOf (f : Nat) (x1 : Int32) (u : MT) : Option (Int32 × MT) :=
  if (4 : Int32) ≤ x1 then
    B_X12_partOf_55 f f (0 : Int32) (0 : Int32) u
  else
    if x1 = 0 then
      some (((gI u 167 43) - (gI u 167 43) / (24 : Int32) * (24 : Int32)), u)
    else
      if x1 = (1 : Int32) then
        some (((gI u 167 43) / (24 : Int32)), u)
      else
        if x1 = (2 : Int32) then
          some ((gI u 167 46), u)
        else
          some ((gI u 167 45), u)
theorem m_X12_partOf {g : GT} {w : LT} (hL : Lay w) {x1 : Int32} {f : Nat} {u : MT} {r : (Int32 × MT)} (h : F_X12_partOf f x1 u = some r) : Mt g yX12_partOf cX12_partOf 4 (some .int) 0 0 0 [.ref 167, .int x1] w u (Qi r.1 w r.2) := by
  refine Mt_of (own := RX12) (by decide +kernel) rfl (Nat.le_of_ble_eq_true rfl) (fun z C _ => ?_)
  show V z g 4 0 [(0, .ref 167), (1, .int x1)] [] w u 0 0 (Qi r.1 w r.2)
  rw [F_X12_partOf] at h
  refine Viload_n C 1 (dAt D_X12_partOf 0 rfl) rfl rfl ?_
  refine Viconst (x := 4) C (dAt D_X12_partOf 1 rfl) (by decide) ?_
  refine Vicmp_ge (tgt := 51) C (dAt D_X12_partOf 2 rfl) (by decide) (fun c1 => ?_) (fun c1 => ?_)
  · have h := ok_t c1 h
    refine Viconst (x := 0) C (dAt D_X12_partOf 27 rfl) (by decide) ?_
    refine Vistore_n (lv' := [(2, _), (0, _), (1, _)]) C (dAt D_X12_partOf 28 rfl) rfl (by decide) rfl ?_
    refine Viconst (x := 0) C (dAt D_X12_partOf 29 rfl) (by decide) ?_
    refine Vistore_n (lv' := [(3, _), (2, _), (0, _), (1, _)]) C (dAt D_X12_partOf 30 rfl) rfl (by decide) rfl ?_
    exact Vsub [2, 1, 0] rfl (w_X12_partOf_55 hL C  f _ _ _  h)
  · have h := ok_f c1 h
    refine Viload_n C 1 (dAt D_X12_partOf 3 rfl) rfl rfl ?_
    refine Vif_ne (tgt := 19) C (dAt D_X12_partOf 4 rfl) (by decide) (fun c2 => ?_) (fun c2 => ?_)
    · have h := ok_f c2 h
      refine Viload_n C 1 (dAt D_X12_partOf 10 rfl) rfl rfl ?_
      refine Viconst (x := 1) C (dAt D_X12_partOf 11 rfl) (by decide) ?_
      refine Vicmp_ne (tgt := 34) C (dAt D_X12_partOf 12 rfl) (by decide) (fun c3 => ?_) (fun c3 => ?_)
      · have h := ok_f c3 h
        refine Viload_n C 1 (dAt D_X12_partOf 18 rfl) rfl rfl ?_
        refine Viconst (x := 2) C (dAt D_X12_partOf 19 rfl) (by decide) ?_
        refine Vicmp_ne (tgt := 46) C (dAt D_X12_partOf 20 rfl) (by decide) (fun c4 => ?_) (fun c4 => ?_)
        · have h := ok_f c4 h
          refine Vaload_n C 0 (dAt D_X12_partOf 24 rfl) rfl rfl ?_
          refine VgetI C (dAt D_X12_partOf 25 rfl) gf_X12_350 (kt_167 hL) rfl ?_
          cases h
          exact Viret C (dAt D_X12_partOf 26 rfl) (by decide) (by decide) ⟨rfl, rfl, rfl⟩
        · have h := ok_t c4 h
          refine Vaload_n C 0 (dAt D_X12_partOf 21 rfl) rfl rfl ?_
          refine VgetI C (dAt D_X12_partOf 22 rfl) gf_X12_369 (kt_167 hL) rfl ?_
          refine Vgoto (tgt := 50) C (dAt D_X12_partOf 23 rfl) (by decide) ?_
          cases h
          exact Viret C (dAt D_X12_partOf 26 rfl) (by decide) (by decide) ⟨rfl, rfl, rfl⟩
      · have h := ok_t c3 h
        refine Vaload_n C 0 (dAt D_X12_partOf 13 rfl) rfl rfl ?_
        refine VgetI C (dAt D_X12_partOf 14 rfl) gf_X12_353 (kt_167 hL) rfl ?_
        refine Vbipush (x := 24) C (dAt D_X12_partOf 15 rfl) (by decide) ?_
        refine Vidiv C (dAt D_X12_partOf 16 rfl) (by decide) ?_
        refine Vgoto (tgt := 50) C (dAt D_X12_partOf 17 rfl) (by decide) ?_
        cases h
        exact Viret C (dAt D_X12_partOf 26 rfl) (by decide) (by decide) ⟨rfl, rfl, rfl⟩
    · have h := ok_t c2 h
      refine Vaload_n C 0 (dAt D_X12_partOf 5 rfl) rfl rfl ?_
      refine VgetI C (dAt D_X12_partOf 6 rfl) gf_X12_353 (kt_167 hL) rfl ?_
      refine Vbipush (x := 24) C (dAt D_X12_partOf 7 rfl) (by decide) ?_
      refine Virem C (dAt D_X12_partOf 8 rfl) (by decide) ?_
      refine Vgoto (tgt := 50) C (dAt D_X12_partOf 9 rfl) (by decide) ?_
      cases h
      exact Viret C (dAt D_X12_partOf 26 rfl) (by decide) (by decide) ⟨rfl, rfl, rfl⟩
