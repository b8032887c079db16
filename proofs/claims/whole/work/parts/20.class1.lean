def F_X0_slot (f : Nat) (x0 : Int32) (x1 : Int32) (u : MT) : Option (Int32 × MT) :=
  some ((((x0 * (14 : Int32)) + x1) - (-2 : Int32)), u)
theorem m_X0_slot {g : GT} {w : LT} (hL : Lay w) {x0 : Int32} {x1 : Int32} {f : Nat} {u : MT} {r : (Int32 × MT)} (h : F_X0_slot f x0 x1 u = some r) : Mt g yX0_slot cX0_slot 2 (some .int) 0 0 0 [.int x0, .int x1] w u (Qi r.1 w r.2) := by
  refine Mt_of (own := RX0) (by decide +kernel) rfl (Nat.le_of_ble_eq_true rfl) (fun z C _ => ?_)
  show V z g 2 0 [(0, .int x0), (1, .int x1)] [] w u 0 0 (Qi r.1 w r.2)
  rw [F_X0_slot] at h
  refine Viload_n C 0 (dAt D_X0_slot 0 rfl) rfl rfl ?_
  refine Vbipush (x := 14) C (dAt D_X0_slot 1 rfl) (by decide) ?_
  refine Vimul C (dAt D_X0_slot 2 rfl) ?_
  refine Viload_n C 1 (dAt D_X0_slot 3 rfl) rfl rfl ?_
  refine Viadd C (dAt D_X0_slot 4 rfl) ?_
  refine Vbipush (x := (-2)) C (dAt D_X0_slot 5 rfl) (by decide) ?_
  refine Visub C (dAt D_X0_slot 6 rfl) ?_
  cases h
  exact Viret C (dAt D_X0_slot 7 rfl) (by decide) (by decide) ⟨rfl, rfl, rfl⟩
def B_X0_write_5 (f : Nat) : Nat → Int32 → Int32 → Int32 → Int32 → MT → Option MT
  | 0, _, _, _, _, _ => none
  | n + 1, x1, x2, x3, x4, u =>
    if (gI u 136 1) ≤ x4 then
      (F_X0_slot f (gI u 136 1) x1 u).bind fun r2 =>
      ck (ixo r2.1 140) <|
      let u5 := sI r2.2 137 (r2.1).toNatClampNeg (x2 - x3)
      some u5
    else
      (F_X0_slot f x4 x1 u).bind fun r6 =>
      ck (ixo r6.1 140) <|
      let v9 := (x3 + (gI r6.2 137 (r6.1).toNatClampNeg))
      let v10 := x4 + 1
      B_X0_write_5 f n x1 x2 v9 v10 r6.2
theorem w_X0_write_5 {z : ZT} {g : GT} {w : LT} (hL : Lay w) (C : Cx z g cX0_write 5 RX0 none 1 0 0) {f : Nat} {r : MT} : ∀ (n : Nat) (x1 : Int32) (x2 : Int32) (x3 : Int32) (x4 : Int32) (u : MT), B_X0_write_5 f n x1 x2 x3 x4 u = some r → V z g 5 5 [(0, .ref 136), (1, .int x1), (2, .int x2), (3, .int x3), (4, .int x4)] [] w u 0 0 (Qv w r) := by
  intro n
  induction n with
  | zero =>
    intro x1 x2 x3 x4 u h
    rw [B_X0_write_5] at h
    cases h
  | succ n ih =>
    intro x1 x2 x3 x4 u h
    rw [B_X0_write_5] at h
    refine Viload C 4 (dAt D_X0_write 4 rfl) rfl ?_
    refine Vaload_n C 0 (dAt D_X0_write 5 rfl) rfl rfl ?_
    refine VgetI C (dAt D_X0_write 6 rfl) gf_X0_15 (kt_136 hL) rfl ?_
    refine Vicmp_ge (tgt := 34) C (dAt D_X0_write 7 rfl) (by decide) (fun c1 => ?_) (fun c1 => ?_)
    · have h := ok_t c1 h
      refine Vaload_n C 0 (dAt D_X0_write 19 rfl) rfl rfl ?_
      refine VgetP C (dAt D_X0_write 20 rfl) gf_X0_11 (kt_136 hL) rfl (kp_136_0 hL) ?_
      refine Vaload_n C 0 (dAt D_X0_write 21 rfl) rfl rfl ?_
      refine VgetI C (dAt D_X0_write 22 rfl) gf_X0_15 (kt_136 hL) rfl ?_
      refine Viload_n C 1 (dAt D_X0_write 23 rfl) rfl rfl ?_
      obtain ⟨r2, e3, h⟩ := ok_b h
      refine VcallS (as := [_, _]) C (dAt D_X0_write 24 rfl) (m_X0_slot hL e3) yb_X0_19 ys_X0_19 rfl rfl (Nat.le_of_ble_eq_true rfl) (by decide) (by decide) (by decide) (by decide) (Kint ?_)
      refine Viload_n C 2 (dAt D_X0_write 25 rfl) rfl rfl ?_
      refine Viload_n C 3 (dAt D_X0_write 26 rfl) rfl rfl ?_
      refine Visub C (dAt D_X0_write 27 rfl) ?_
      obtain ⟨c4, h⟩ := ok_ck h
      refine Viast C (dAt D_X0_write 28 rfl) (kt_137 hL) (kl_137 hL) (vp_in_iff.mpr c4) ?_
      cases h
      exact Vvret C (dAt D_X0_write 29 rfl) (by decide) (by decide) ⟨rfl, rfl, rfl⟩
    · have h := ok_f c1 h
      refine Viload_n C 3 (dAt D_X0_write 8 rfl) rfl rfl ?_
      refine Vaload_n C 0 (dAt D_X0_write 9 rfl) rfl rfl ?_
      refine VgetP C (dAt D_X0_write 10 rfl) gf_X0_11 (kt_136 hL) rfl (kp_136_0 hL) ?_
      refine Viload C 4 (dAt D_X0_write 11 rfl) rfl ?_
      refine Viload_n C 1 (dAt D_X0_write 12 rfl) rfl rfl ?_
      obtain ⟨r6, e7, h⟩ := ok_b h
      refine VcallS (as := [_, _]) C (dAt D_X0_write 13 rfl) (m_X0_slot hL e7) yb_X0_19 ys_X0_19 rfl rfl (Nat.le_of_ble_eq_true rfl) (by decide) (by decide) (by decide) (by decide) (Kint ?_)
      obtain ⟨c8, h⟩ := ok_ck h
      refine Viald C (dAt D_X0_write 14 rfl) (kt_137 hL) (kl_137 hL) (vp_in_iff.mpr c8) ?_
      refine Viadd C (dAt D_X0_write 15 rfl) ?_
      refine Vistore_n (lv' := [(3, _), (0, _), (1, _), (2, _), (4, _)]) C (dAt D_X0_write 16 rfl) rfl (by decide) rfl ?_
      refine Viinc (j := 4) (v := _ + 1) (lv' := [(4, _), (3, _), (0, _), (1, _), (2, _)]) C (dAt D_X0_write 17 rfl) rfl rfl (by decide) rfl ?_
      refine Vgoto (tgt := 5) C (dAt D_X0_write 18 rfl) (by decide) ?_
      exact Vsub [2, 3, 4, 1, 0] rfl (ih _ _ _ _ _  h)
def F_X0_write (f : Nat) (x1 : Int32) (x2 : Int32) (u : MT) : Option MT :=
  B_X0_write_5 f f x1 x2 (0 : Int32) (0 : Int32) u
theorem m_X0_write {g : GT} {w : LT} (hL : Lay w) {x1 : Int32} {x2 : Int32} {f : Nat} {u : MT} {r : MT} (h : F_X0_write f x1 x2 u = some r) : Mt g yX0_write cX0_write 5 none 1 0 0 [.ref 136, .int x1, .int x2] w u (Qv w r) := by
  refine Mt_of (own := RX0) (by decide +kernel) rfl (Nat.le_of_ble_eq_true rfl) (fun z C _ => ?_)
  show V z g 5 0 [(0, .ref 136), (1, .int x1), (2, .int x2)] [] w u 0 0 (Qv w r)
  rw [F_X0_write] at h
  refine Viconst (x := 0) C (dAt D_X0_write 0 rfl) (by decide) ?_
  refine Vistore_n (lv' := [(3, _), (0, _), (1, _), (2, _)]) C (dAt D_X0_write 1 rfl) rfl (by decide) rfl ?_
  refine Viconst (x := 0) C (dAt D_X0_write 2 rfl) (by decide) ?_
  refine Vistore (lv' := [(4, _), (3, _), (0, _), (1, _), (2, _)]) C (dAt D_X0_write 3 rfl) (by decide) rfl ?_
  exact Vsub [2, 3, 4, 1, 0] rfl (w_X0_write_5 hL C  f _ _ _ _ _  h)
def F_X1_forgetFrom (f : Nat) (b : Nat) (ts : Nat) (x1 : Int32) (u : MT) : Option MT :=
  let u1 := sI u b 5 (if x1 < (gI u b 5) then x1 else (gI u b 5))
  some u1
theorem m_X1_forgetFrom {g : GT} {w : LT} (hL : Lay w) {b : Nat} {ts : Nat} {x1 : Int32} {f : Nat} {u : MT} {r : MT} (hb : isBk w b ts) (h : F_X1_forgetFrom f b ts x1 u = some r) : Mt g yX1_forgetFrom cX1_forgetFrom 2 none 1 0 0 [.ref b, .int x1] w u (Qv w r) := by
  refine Mt_of (own := RX1) (by decide +kernel) rfl (Nat.le_of_ble_eq_true rfl) (fun z C _ => ?_)
  show V z g 2 0 [(0, .ref b), (1, .int x1)] [] w u 0 0 (Qv w r)
  rw [F_X1_forgetFrom] at h
  refine Vaload_n C 0 (dAt D_X1_forgetFrom 0 rfl) rfl rfl ?_
  refine Vaload_n C 0 (dAt D_X1_forgetFrom 1 rfl) rfl rfl ?_
  refine VgetI C (dAt D_X1_forgetFrom 2 rfl) gf_X1_43 (hb).1 rfl ?_
  refine Viload_n C 1 (dAt D_X1_forgetFrom 3 rfl) rfl rfl ?_
  refine Vmin C (dAt D_X1_forgetFrom 4 rfl) gm_X1_47 mS_min mI mC_min (Nat.le_of_ble_eq_true rfl) (by decide) (by decide) (by decide) ?_
  refine VputI C (dAt D_X1_forgetFrom 5 rfl) gf_X1_43 (hb).1 rfl rfl rfl rfl ?_
  cases h
  exact Vvret C (dAt D_X1_forgetFrom 6 rfl) (by decide) (by decide) ⟨rfl, rfl, rfl⟩
def B_X4_firstTouched_50 (f : Nat) (j7 : Int32 → Int32 → Int32 → Int32 → MT → Option (Int32 × MT)) (x1 : Int32) (x2 : Int32) (x3 : Int32) (x4 : Int32) (u : MT) : Option (Int32 × MT) :=
  let v6 := x4 + 1
  j7 x1 x2 x3 v6 u
theorem w_X4_firstTouched_50 {z : ZT} {g : GT} {w : LT} (hL : Lay w) (C : Cx z g cX4_firstTouched 5 RX4 (some .int) 1 0 0) {f : Nat} {r : (Int32 × MT)} {j7 : Int32 → Int32 → Int32 → Int32 → MT → Option (Int32 × MT)} (q7 : ∀ (x1 : Int32) (x2 : Int32) (x3 : Int32) (x4 : Int32) (u : MT), j7 x1 x2 x3 x4 u = some r → V z g 5 7 [(0, .ref 104), (1, .int x1), (2, .int x2), (3, .int x3), (4, .int x4)] [] w u 0 0 (Qi r.1 w r.2)) {x1 : Int32} {x2 : Int32} {x3 : Int32} {x4 : Int32} {u : MT} (h : B_X4_firstTouched_50 f j7 x1 x2 x3 x4 u = some r) : V z g 5 50 [(0, .ref 104), (1, .int x1), (2, .int x2), (3, .int x3), (4, .int x4)] [] w u 0 0 (Qi r.1 w r.2) := by
  rw [B_X4_firstTouched_50] at h
  refine Viinc (j := 4) (v := _ + 1) (lv' := [(4, _), (0, _), (1, _), (2, _), (3, _)]) C (dAt D_X4_firstTouched 27 rfl) rfl rfl (by decide) rfl ?_
  refine Vgoto (tgt := 7) C (dAt D_X4_firstTouched 28 rfl) (by decide) ?_
  exact Vsub [1, 2, 3, 4, 0] rfl (q7 _ _ _ _ _  h)
def B_X4_firstTouched_7 (f : Nat) : Nat → Int32 → Int32 → Int32 → Int32 → MT → Option (Int32 × MT)
  | 0, _, _, _, _, _ => none
  | n + 1, x1, x2, x3, x4, u =>
    if (gI u 104 5) ≤ x4 then
      some (x3, u)
    else
      ck (ixo x4 400) <|
      if (gI u 109 (x4).toNatClampNeg) ≤ x1 then
        B_X4_firstTouched_50 f (fun x1' x2' x3' x4' u' => B_X4_firstTouched_7 f n x1' x2' x3' x4' u') x1 x2 x3 x4 u
      else
        if x2 < (gI u 109 (x4).toNatClampNeg) then
          B_X4_firstTouched_50 f (fun x1' x2' x3' x4' u' => B_X4_firstTouched_7 f n x1' x2' x3' x4' u') x1 x2 x3 x4 u
        else
          let v5 := (if (gI u 106 (x4).toNatClampNeg) < x3 then (gI u 106 (x4).toNatClampNeg) else x3)
          B_X4_firstTouched_50 f (fun x1' x2' x3' x4' u' => B_X4_firstTouched_7 f n x1' x2' x3' x4' u') x1 x2 v5 x4 u
theorem w_X4_firstTouched_7 {z : ZT} {g : GT} {w : LT} (hL : Lay w) (C : Cx z g cX4_firstTouched 5 RX4 (some .int) 1 0 0) {f : Nat} {r : (Int32 × MT)} : ∀ (n : Nat) (x1 : Int32) (x2 : Int32) (x3 : Int32) (x4 : Int32) (u : MT), B_X4_firstTouched_7 f n x1 x2 x3 x4 u = some r → V z g 5 7 [(0, .ref 104), (1, .int x1), (2, .int x2), (3, .int x3), (4, .int x4)] [] w u 0 0 (Qi r.1 w r.2) := by
  intro n
  induction n with
  | zero =>
    intro x1 x2 x3 x4 u h
    rw [B_X4_firstTouched_7] at h
    cases h
  | succ n ih =>
    intro x1 x2 x3 x4 u h
    rw [B_X4_firstTouched_7] at h
    refine Viload C 4 (dAt D_X4_firstTouched 4 rfl) rfl ?_
    refine Vaload_n C 0 (dAt D_X4_firstTouched 5 rfl) rfl rfl ?_
    refine VgetI C (dAt D_X4_firstTouched 6 rfl) gf_X4_27 (kt_104 hL) rfl ?_
    refine Vicmp_ge (tgt := 56) C (dAt D_X4_firstTouched 7 rfl) (by decide) (fun c1 => ?_) (fun c1 => ?_)
    · have h := ok_t c1 h
      refine Viload_n C 3 (dAt D_X4_firstTouched 29 rfl) rfl rfl ?_
      cases h
      exact Viret C (dAt D_X4_firstTouched 30 rfl) (by decide) (by decide) ⟨rfl, rfl, rfl⟩
    · have h := ok_f c1 h
      refine Vaload_n C 0 (dAt D_X4_firstTouched 8 rfl) rfl rfl ?_
      refine VgetP C (dAt D_X4_firstTouched 9 rfl) gf_X4_24 (kt_104 hL) rfl (kp_104_4 hL) ?_
      refine Viload C 4 (dAt D_X4_firstTouched 10 rfl) rfl ?_
      obtain ⟨c2, h⟩ := ok_ck h
      refine Viald C (dAt D_X4_firstTouched 11 rfl) (kt_109 hL) (kl_109 hL) (vp_in_iff.mpr c2) ?_
      refine Viload_n C 1 (dAt D_X4_firstTouched 12 rfl) rfl rfl ?_
      refine Vicmp_le (tgt := 50) C (dAt D_X4_firstTouched 13 rfl) (by decide) (fun c3 => ?_) (fun c3 => ?_)
      · have h := ok_t c3 h
        exact Vsub [0, 1, 2, 3, 4] rfl (w_X4_firstTouched_50 hL C ih  h)
      · have h := ok_f c3 h
        refine Vaload_n C 0 (dAt D_X4_firstTouched 14 rfl) rfl rfl ?_
        refine VgetP C (dAt D_X4_firstTouched 15 rfl) gf_X4_24 (kt_104 hL) rfl (kp_104_4 hL) ?_
        refine Viload C 4 (dAt D_X4_firstTouched 16 rfl) rfl ?_
        refine Viald C (dAt D_X4_firstTouched 17 rfl) (kt_109 hL) (kl_109 hL) (vp_in_iff.mpr c2) ?_
        refine Viload_n C 2 (dAt D_X4_firstTouched 18 rfl) rfl rfl ?_
        refine Vicmp_gt (tgt := 50) C (dAt D_X4_firstTouched 19 rfl) (by decide) (fun c4 => ?_) (fun c4 => ?_)
        · have h := ok_t c4 h
          exact Vsub [0, 1, 2, 3, 4] rfl (w_X4_firstTouched_50 hL C ih  h)
        · have h := ok_f c4 h
          refine Viload_n C 3 (dAt D_X4_firstTouched 20 rfl) rfl rfl ?_
          refine Vaload_n C 0 (dAt D_X4_firstTouched 21 rfl) rfl rfl ?_
          refine VgetP C (dAt D_X4_firstTouched 22 rfl) gf_X4_15 (kt_104 hL) rfl (kp_104_1 hL) ?_
          refine Viload C 4 (dAt D_X4_firstTouched 23 rfl) rfl ?_
          refine Viald C (dAt D_X4_firstTouched 24 rfl) (kt_106 hL) (kl_106 hL) (vp_in_iff.mpr c2) ?_
          refine Vmin C (dAt D_X4_firstTouched 25 rfl) gm_X4_31 mS_min mI mC_min (Nat.le_of_ble_eq_true rfl) (by decide) (by decide) (by decide) ?_
          refine Vistore_n (lv' := [(3, _), (0, _), (1, _), (2, _), (4, _)]) C (dAt D_X4_firstTouched 26 rfl) rfl (by decide) rfl ?_
          exact Vsub [1, 2, 3, 0, 4] rfl (w_X4_firstTouched_50 hL C ih  h)
def F_X4_firstTouched (f : Nat) (x1 : Int32) (x2 : Int32) (u : MT) : Option (Int32 × MT) :=
  B_X4_firstTouched_7 f f x1 x2 (240 : Int32) (0 : Int32) u
theorem m_X4_firstTouched {g : GT} {w : LT} (hL : Lay w) {x1 : Int32} {x2 : Int32} {f : Nat} {u : MT} {r : (Int32 × MT)} (h : F_X4_firstTouched f x1 x2 u = some r) : Mt g yX4_firstTouched cX4_firstTouched 5 (some .int) 1 0 0 [.ref 104, .int x1, .int x2] w u (Qi r.1 w r.2) := by
  refine Mt_of (own := RX4) (by decide +kernel) rfl (Nat.le_of_ble_eq_true rfl) (fun z C _ => ?_)
  show V z g 5 0 [(0, .ref 104), (1, .int x1), (2, .int x2)] [] w u 0 0 (Qi r.1 w r.2)
  rw [F_X4_firstTouched] at h
  refine Vsipush (x := 240) C (dAt D_X4_firstTouched 0 rfl) (by decide) ?_
  refine Vistore_n (lv' := [(3, _), (0, _), (1, _), (2, _)]) C (dAt D_X4_firstTouched 1 rfl) rfl (by decide) rfl ?_
  refine Viconst (x := 0) C (dAt D_X4_firstTouched 2 rfl) (by decide) ?_
  refine Vistore (lv' := [(4, _), (3, _), (0, _), (1, _), (2, _)]) C (dAt D_X4_firstTouched 3 rfl) (by decide) rfl ?_
  exact Vsub [2, 3, 4, 1, 0] rfl (w_X4_firstTouched_7 hL C  f _ _ _ _ _  h)
def B_X8_firstTouched_59 (w : LT) (f : Nat) (ts : Nat) (j7 : Int32 → Int32 → Int32 → Int32 → MT → Option (Int32 × MT)) (x1 : Int32) (x2 : Int32) (x3 : Int32) (x4 : Int32) (u : MT) : Option (Int32 × MT) :=
  let v7 := x4 + 1
  j7 x1 x2 x3 v7 u
theorem w_X8_firstTouched_59 {z : ZT} {g : GT} {w : LT} (hL : Lay w) {ts : Nat} (hts : isTs w ts) (C : Cx z g cX8_firstTouched 5 RX8 (some .int) 1 0 0) {f : Nat} {r : (Int32 × MT)} {j7 : Int32 → Int32 → Int32 → Int32 → MT → Option (Int32 × MT)} (q7 : ∀ (x1 : Int32) (x2 : Int32) (x3 : Int32) (x4 : Int32) (u : MT), j7 x1 x2 x3 x4 u = some r → V z g 5 7 [(0, .ref ts), (1, .int x1), (2, .int x2), (3, .int x3), (4, .int x4)] [] w u 0 0 (Qi r.1 w r.2)) {x1 : Int32} {x2 : Int32} {x3 : Int32} {x4 : Int32} {u : MT} (h : B_X8_firstTouched_59 w f ts j7 x1 x2 x3 x4 u = some r) : V z g 5 59 [(0, .ref ts), (1, .int x1), (2, .int x2), (3, .int x3), (4, .int x4)] [] w u 0 0 (Qi r.1 w r.2) := by
  rw [B_X8_firstTouched_59] at h
  refine Viinc (j := 4) (v := _ + 1) (lv' := [(4, _), (0, _), (1, _), (2, _), (3, _)]) C (dAt D_X8_firstTouched 30 rfl) rfl rfl (by decide) rfl ?_
  refine Vgoto (tgt := 7) C (dAt D_X8_firstTouched 31 rfl) (by decide) ?_
  exact Vsub [1, 2, 3, 4, 0] rfl (q7 _ _ _ _ _  h)
def B_X8_firstTouched_7 (w : LT) (f : Nat) (ts : Nat) : Nat → Int32 → Int32 → Int32 → Int32 → MT → Option (Int32 × MT)
  | 0, _, _, _, _, _ => none
  | n + 1, x1, x2, x3, x4, u =>
    if (gI u ts 1) ≤ x4 then
      some (x3, u)
    else
      ck (ixo x4 6) <|
      ck (lt_t w (lt_p w (ts + 1) (x4).toNatClampNeg) = 7) <|
      if (gI u (lt_p w (ts + 1) (x4).toNatClampNeg) 6) ≤ x1 then
        B_X8_firstTouched_59 w f ts (fun x1' x2' x3' x4' u' => B_X8_firstTouched_7 w f ts n x1' x2' x3' x4' u') x1 x2 x3 x4 u
      else
        if x2 < (gI u (lt_p w (ts + 1) (x4).toNatClampNeg) 6) then
          B_X8_firstTouched_59 w f ts (fun x1' x2' x3' x4' u' => B_X8_firstTouched_7 w f ts n x1' x2' x3' x4' u') x1 x2 x3 x4 u
        else
          let v6 := (if (gI u (lt_p w (ts + 1) (x4).toNatClampNeg) 5) < x3 then (gI u (lt_p w (ts + 1) (x4).toNatClampNeg) 5) else x3)
          B_X8_firstTouched_59 w f ts (fun x1' x2' x3' x4' u' => B_X8_firstTouched_7 w f ts n x1' x2' x3' x4' u') x1 x2 v6 x4 u
theorem w_X8_firstTouched_7 {z : ZT} {g : GT} {w : LT} (hL : Lay w) {ts : Nat} (hts : isTs w ts) (C : Cx z g cX8_firstTouched 5 RX8 (some .int) 1 0 0) {f : Nat} {r : (Int32 × MT)} : ∀ (n : Nat) (x1 : Int32) (x2 : Int32) (x3 : Int32) (x4 : Int32) (u : MT), B_X8_firstTouched_7 w f ts n x1 x2 x3 x4 u = some r → V z g 5 7 [(0, .ref ts), (1, .int x1), (2, .int x2), (3, .int x3), (4, .int x4)] [] w u 0 0 (Qi r.1 w r.2) := by
  intro n
  induction n with
  | zero =>
    intro x1 x2 x3 x4 u h
    rw [B_X8_firstTouched_7] at h
    cases h
  | succ n ih =>
    intro x1 x2 x3 x4 u h
    rw [B_X8_firstTouched_7] at h
    refine Viload C 4 (dAt D_X8_firstTouched 4 rfl) rfl ?_
    refine Vaload_n C 0 (dAt D_X8_firstTouched 5 rfl) rfl rfl ?_
    refine VgetI C (dAt D_X8_firstTouched 6 rfl) gf_X8_17 (hts).1 rfl ?_
    refine Vicmp_ge (tgt := 65) C (dAt D_X8_firstTouched 7 rfl) (by decide) (fun c1 => ?_) (fun c1 => ?_)
    · have h := ok_t c1 h
      refine Viload_n C 3 (dAt D_X8_firstTouched 32 rfl) rfl rfl ?_
      cases h
      exact Viret C (dAt D_X8_firstTouched 33 rfl) (by decide) (by decide) ⟨rfl, rfl, rfl⟩
    · have h := ok_f c1 h
      refine Vaload_n C 0 (dAt D_X8_firstTouched 8 rfl) rfl rfl ?_
      refine VgetP C (dAt D_X8_firstTouched 9 rfl) gf_X8_11 (hts).1 rfl (hts).2.1 ?_
      refine Viload C 4 (dAt D_X8_firstTouched 10 rfl) rfl ?_
      obtain ⟨c2, h⟩ := ok_ck h
      refine VaaldP C (dAt D_X8_firstTouched 11 rfl) (Or.inr rfl) (hts).2.2.1 (hts).2.2.2 (vp_in_iff.mpr c2) rfl ?_
      obtain ⟨c3, h⟩ := ok_ck h
      refine VgetI C (dAt D_X8_firstTouched 12 rfl) gf_X8_24 ((hL.2.2.1 _ c3)).1 rfl ?_
      refine Viload_n C 1 (dAt D_X8_firstTouched 13 rfl) rfl rfl ?_
      refine Vicmp_le (tgt := 59) C (dAt D_X8_firstTouched 14 rfl) (by decide) (fun c4 => ?_) (fun c4 => ?_)
      · have h := ok_t c4 h
        exact Vsub [0, 1, 2, 3, 4] rfl (w_X8_firstTouched_59 hL hts C ih  h)
      · have h := ok_f c4 h
        refine Vaload_n C 0 (dAt D_X8_firstTouched 15 rfl) rfl rfl ?_
        refine VgetP C (dAt D_X8_firstTouched 16 rfl) gf_X8_11 (hts).1 rfl (hts).2.1 ?_
        refine Viload C 4 (dAt D_X8_firstTouched 17 rfl) rfl ?_
        refine VaaldP C (dAt D_X8_firstTouched 18 rfl) (Or.inr rfl) (hts).2.2.1 (hts).2.2.2 (vp_in_iff.mpr c2) rfl ?_
        refine VgetI C (dAt D_X8_firstTouched 19 rfl) gf_X8_24 ((hL.2.2.1 _ c3)).1 rfl ?_
        refine Viload_n C 2 (dAt D_X8_firstTouched 20 rfl) rfl rfl ?_
        refine Vicmp_gt (tgt := 59) C (dAt D_X8_firstTouched 21 rfl) (by decide) (fun c5 => ?_) (fun c5 => ?_)
        · have h := ok_t c5 h
          exact Vsub [0, 1, 2, 3, 4] rfl (w_X8_firstTouched_59 hL hts C ih  h)
        · have h := ok_f c5 h
          refine Viload_n C 3 (dAt D_X8_firstTouched 22 rfl) rfl rfl ?_
          refine Vaload_n C 0 (dAt D_X8_firstTouched 23 rfl) rfl rfl ?_
          refine VgetP C (dAt D_X8_firstTouched 24 rfl) gf_X8_11 (hts).1 rfl (hts).2.1 ?_
          refine Viload C 4 (dAt D_X8_firstTouched 25 rfl) rfl ?_
          refine VaaldP C (dAt D_X8_firstTouched 26 rfl) (Or.inr rfl) (hts).2.2.1 (hts).2.2.2 (vp_in_iff.mpr c2) rfl ?_
          refine VgetI C (dAt D_X8_firstTouched 27 rfl) gf_X8_21 ((hL.2.2.1 _ c3)).1 rfl ?_
          refine Vmin C (dAt D_X8_firstTouched 28 rfl) gm_X8_32 mS_min mI mC_min (Nat.le_of_ble_eq_true rfl) (by decide) (by decide) (by decide) ?_
          refine Vistore_n (lv' := [(3, _), (0, _), (1, _), (2, _), (4, _)]) C (dAt D_X8_firstTouched 29 rfl) rfl (by decide) rfl ?_
          exact Vsub [1, 2, 3, 0, 4] rfl (w_X8_firstTouched_59 hL hts C ih  h)
def F_X8_firstTouched (w : LT) (f : Nat) (ts : Nat) (x1 : Int32) (x2 : Int32) (u : MT) : Option (Int32 × MT) :=
  B_X8_firstTouched_7 w f ts f x1 x2 (240 : Int32) (0 : Int32) u
theorem m_X8_firstTouched {g : GT} {w : LT} (hL : Lay w) {ts : Nat} {x1 : Int32} {x2 : Int32} {f : Nat} {u : MT} {r : (Int32 × MT)} (hts : isTs w ts) (h : F_X8_firstTouched w f ts x1 x2 u = some r) : Mt g yX8_firstTouched cX8_firstTouched 5 (some .int) 1 0 0 [.ref ts, .int x1, .int x2] w u (Qi r.1 w r.2) := by
  refine Mt_of (own := RX8) (by decide +kernel) rfl (Nat.le_of_ble_eq_true rfl) (fun z C _ => ?_)
  show V z g 5 0 [(0, .ref ts), (1, .int x1), (2, .int x2)] [] w u 0 0 (Qi r.1 w r.2)
  rw [F_X8_firstTouched] at h
  refine Vsipush (x := 240) C (dAt D_X8_firstTouched 0 rfl) (by decide) ?_
  refine Vistore_n (lv' := [(3, _), (0, _), (1, _), (2, _)]) C (dAt D_X8_firstTouched 1 rfl) rfl (by decide) rfl ?_
  refine Viconst (x := 0) C (dAt D_X8_firstTouched 2 rfl) (by decide) ?_
  refine Vistore (lv' := [(4, _), (3, _), (0, _), (1, _), (2, _)]) C (dAt D_X8_firstTouched 3 rfl) (by decide) rfl ?_
  exact Vsub [2, 3, 4, 1, 0] rfl (w_X8_firstTouched_7 hL hts C  f _ _ _ _ _  h)
def F_X1_turnTo (w : LT) (f : Nat) (b : Nat) (ts : Nat) (x1 : Int32) (u : MT) : Option MT :=
  let v1 := (if (gI u b 4) < x1 then (gI u b 4) else x1)
  let v2 := (if x1 < (gI u b 4) then (gI u b 4) else x1)
  if v2 ≤ v1 then
    some u
  else
    (F_X4_firstTouched f v1 v2 u).bind fun r4 =>
    (F_X1_forgetFrom f b ts r4.1 r4.2).bind fun r6 =>
    (F_X8_firstTouched w f ts v1 v2 r6).bind fun r8 =>
    (F_X1_forgetFrom f b ts r8.1 r8.2).bind fun r10 =>
    let u12 := sI r10 b 4 x1
    some u12
theorem m_X1_turnTo {g : GT} {w : LT} (hL : Lay w) {b : Nat} {ts : Nat} {x1 : Int32} {f : Nat} {u : MT} {r : MT} (hb : isBk w b ts) (h : F_X1_turnTo w f b ts x1 u = some r) : Mt g yX1_turnTo cX1_turnTo 4 none 2 0 0 [.ref b, .int x1] w u (Qv w r) := by
  refine Mt_of (own := RX1) (by decide +kernel) rfl (Nat.le_of_ble_eq_true rfl) (fun z C _ => ?_)
  show V z g 4 0 [(0, .ref b), (1, .int x1)] [] w u 0 0 (Qv w r)
  rw [F_X1_turnTo] at h
  refine Viload_n C 1 (dAt D_X1_turnTo 0 rfl) rfl rfl ?_
  refine Vaload_n C 0 (dAt D_X1_turnTo 1 rfl) rfl rfl ?_
  refine VgetI C (dAt D_X1_turnTo 2 rfl) gf_X1_64 (hb).1 rfl ?_
  refine Vmin C (dAt D_X1_turnTo 3 rfl) gm_X1_47 mS_min mI mC_min (Nat.le_of_ble_eq_true rfl) (by decide) (by decide) (by decide) ?_
  refine Vistore_n (lv' := [(2, _), (0, _), (1, _)]) C (dAt D_X1_turnTo 4 rfl) rfl (by decide) rfl ?_
  refine Viload_n C 2 (dAt D_X1_turnTo 5 rfl) rfl rfl ?_
  refine Vaload_n C 1 (dAt D_X1_turnTo 6 rfl) rfl rfl ?_
  refine VgetI C (dAt D_X1_turnTo 7 rfl) gf_X1_64 (hb).1 rfl ?_
  refine Vmax C (dAt D_X1_turnTo 8 rfl) gm_X1_67 mS_max mI mC_max (Nat.le_of_ble_eq_true rfl) (by decide) (by decide) (by decide) ?_
  refine Vistore_n (lv' := [(3, _), (2, _), (0, _), (1, _)]) C (dAt D_X1_turnTo 9 rfl) rfl (by decide) rfl ?_
  refine Viload_n C 1 (dAt D_X1_turnTo 10 rfl) rfl rfl ?_
  refine Viload_n C 0 (dAt D_X1_turnTo 11 rfl) rfl rfl ?_
  refine Vicmp_ge (tgt := 54) C (dAt D_X1_turnTo 12 rfl) (by decide) (fun c3 => ?_) (fun c3 => ?_)
  · have h := ok_t c3 h
    cases h
    exact Vvret C (dAt D_X1_turnTo 30 rfl) (by decide) (by decide) ⟨rfl, rfl, rfl⟩
  · have h := ok_f c3 h
    refine Vaload_n C 2 (dAt D_X1_turnTo 13 rfl) rfl rfl ?_
    refine Vaload_n C 2 (dAt D_X1_turnTo 14 rfl) rfl rfl ?_
    refine VgetP C (dAt D_X1_turnTo 15 rfl) gf_X1_31 (hb).1 rfl (hb).2.2.1 ?_
    refine Viload_n C 1 (dAt D_X1_turnTo 16 rfl) rfl rfl ?_
    refine Viload_n C 0 (dAt D_X1_turnTo 17 rfl) rfl rfl ?_
    obtain ⟨r4, e5, h⟩ := ok_b h
    refine VcallV (as := [_, _]) C (dAt D_X1_turnTo 18 rfl) (m_X4_firstTouched hL e5) yv_X1_70 (Or.inl ⟨(kt_104 hL), by decide⟩) rfl rfl (Nat.le_of_ble_eq_true rfl) (by decide) (by decide) (by decide) (by decide) (Kint ?_)
    obtain ⟨r6, e7, h⟩ := ok_b h
    refine VcallV (as := [_]) C (dAt D_X1_turnTo 19 rfl) (m_X1_forgetFrom hL hb e7) yv_X1_75 (Or.inl ⟨(hb).1, by decide⟩) rfl rfl (Nat.le_of_ble_eq_true rfl) (by decide) (by decide) (by decide) (by decide) (Kvoid ?_)
    refine Vaload_n C 2 (dAt D_X1_turnTo 20 rfl) rfl rfl ?_
    refine Vaload_n C 2 (dAt D_X1_turnTo 21 rfl) rfl rfl ?_
    refine VgetP C (dAt D_X1_turnTo 22 rfl) gf_X1_35 (hb).1 rfl (hb).2.2.2.1 ?_
    refine Viload_n C 1 (dAt D_X1_turnTo 23 rfl) rfl rfl ?_
    refine Viload_n C 0 (dAt D_X1_turnTo 24 rfl) rfl rfl ?_
    obtain ⟨r8, e9, h⟩ := ok_b h
    refine VcallV (as := [_, _]) C (dAt D_X1_turnTo 25 rfl) (m_X8_firstTouched hL ((hb).2.2.2.2.2.2.2.2.2.2) e9) yv_X1_78 (Or.inl ⟨((hb).2.2.2.2.2.2.2.2.2.2).1, by decide⟩) rfl rfl (Nat.le_of_ble_eq_true rfl) (by decide) (by decide) (by decide) (by decide) (Kint ?_)
    obtain ⟨r10, e11, h⟩ := ok_b h
    refine VcallV (as := [_]) C (dAt D_X1_turnTo 26 rfl) (m_X1_forgetFrom hL hb e11) yv_X1_75 (Or.inl ⟨(hb).1, by decide⟩) rfl rfl (Nat.le_of_ble_eq_true rfl) (by decide) (by decide) (by decide) (by decide) (Kvoid ?_)
    refine Vaload_n C 2 (dAt D_X1_turnTo 27 rfl) rfl rfl ?_
    refine Viload_n C 3 (dAt D_X1_turnTo 28 rfl) rfl rfl ?_
    refine VputI C (dAt D_X1_turnTo 29 rfl) gf_X1_64 (hb).1 rfl rfl rfl rfl ?_
    cases h
    exact Vvret C (dAt D_X1_turnTo 30 rfl) (by decide) (by decide) ⟨rfl, rfl, rfl⟩
def F_X1_cell (f : Nat) (x0 : Int32) (x1 : Int32) (u : MT) : Option (Int32 × MT) :=
  some (((x1 * (12 : Int32)) + x0), u)
theorem m_X1_cell {g : GT} {w : LT} (hL : Lay w) {x0 : Int32} {x1 : Int32} {f : Nat} {u : MT} {r : (Int32 × MT)} (h : F_X1_cell f x0 x1 u = some r) : Mt g yX1_cell cX1_cell 2 (some .int) 0 0 0 [.int x0, .int x1] w u (Qi r.1 w r.2) := by
  refine Mt_of (own := RX1) (by decide +kernel) rfl (Nat.le_of_ble_eq_true rfl) (fun z C _ => ?_)
  show V z g 2 0 [(0, .int x0), (1, .int x1)] [] w u 0 0 (Qi r.1 w r.2)
  rw [F_X1_cell] at h
  refine Viload_n C 1 (dAt D_X1_cell 0 rfl) rfl rfl ?_
  refine Vbipush (x := 12) C (dAt D_X1_cell 1 rfl) (by decide) ?_
  refine Vimul C (dAt D_X1_cell 2 rfl) ?_
  refine Viload_n C 0 (dAt D_X1_cell 3 rfl) rfl rfl ?_
  refine Viadd C (dAt D_X1_cell 4 rfl) ?_
  cases h
  exact Viret C (dAt D_X1_cell 5 rfl) (by decide) (by decide) ⟨rfl, rfl, rfl⟩
def F_X11_isIn (f : Nat) (x0 : Int32) (x1 : Int32) (x2 : Int32) (u : MT) : Option (Int32 × MT) :=
  if x0 < x1 then
    some ((0 : Int32), u)
  else
    if x2 < x0 then
      some ((0 : Int32), u)
    else
      some ((1 : Int32), u)
theorem m_X11_isIn {g : GT} {w : LT} (hL : Lay w) {x0 : Int32} {x1 : Int32} {x2 : Int32} {f : Nat} {u : MT} {r : (Int32 × MT)} (h : F_X11_isIn f x0 x1 x2 u = some r) : Mt g yX11_isIn cX11_isIn 3 (some .boolean) 0 0 0 [.int x0, .int x1, .int x2] w u (Qi r.1 w r.2) := by
  refine Mt_of (own := RX11) (by decide +kernel) rfl (Nat.le_of_ble_eq_true rfl) (fun z C _ => ?_)
  show V z g 3 0 [(0, .int x0), (1, .int x1), (2, .int x2)] [] w u 0 0 (Qi r.1 w r.2)
  rw [F_X11_isIn] at h
  refine Viload_n C 0 (dAt D_X11_isIn 0 rfl) rfl rfl ?_
  refine Viload_n C 1 (dAt D_X11_isIn 1 rfl) rfl rfl ?_
  refine Vicmp_lt (tgt := 14) C (dAt D_X11_isIn 2 rfl) (by decide) (fun c1 => ?_) (fun c1 => ?_)
  · have h := ok_t c1 h
    refine Viconst (x := 0) C (dAt D_X11_isIn 8 rfl) (by decide) ?_
    cases h
    exact Vzret C (dAt D_X11_isIn 9 rfl) rfl (by decide) (by decide) ⟨rfl, rfl, rfl⟩
  · have h := ok_f c1 h
    refine Viload_n C 0 (dAt D_X11_isIn 3 rfl) rfl rfl ?_
    refine Viload_n C 2 (dAt D_X11_isIn 4 rfl) rfl rfl ?_
    refine Vicmp_gt (tgt := 14) C (dAt D_X11_isIn 5 rfl) (by decide) (fun c2 => ?_) (fun c2 => ?_)
    · have h := ok_t c2 h
      refine Viconst (x := 0) C (dAt D_X11_isIn 8 rfl) (by decide) ?_
      cases h
      exact Vzret C (dAt D_X11_isIn 9 rfl) rfl (by decide) (by decide) ⟨rfl, rfl, rfl⟩
    · have h := ok_f c2 h
      refine Viconst (x := 1) C (dAt D_X11_isIn 6 rfl) (by decide) ?_
      refine Vgoto (tgt := 15) C (dAt D_X11_isIn 7 rfl) (by decide) ?_
      cases h
      exact Vzret C (dAt D_X11_isIn 9 rfl) rfl (by decide) (by decide) ⟨rfl, rfl, rfl⟩
def B_X1_placeReadings_109 (f : Nat) (b : Nat) (ts : Nat) (j35 : Int32 → Int32 → MT → Option MT) (x1 : Int32) (x2 : Int32) (u : MT) : Option MT :=
  let v19 := x2 + 1
  j35 x1 v19 u
theorem w_X1_placeReadings_109 {z : ZT} {g : GT} {w : LT} (hL : Lay w) {b : Nat} {ts : Nat} (hb : isBk w b ts) (C : Cx z g cX1_placeReadings 3 RX1 none 1 0 0) {f : Nat} {r : MT} {j35 : Int32 → Int32 → MT → Option MT} (q35 : ∀ (x1 : Int32) (x2 : Int32) (u : MT), j35 x1 x2 u = some r → V z g 3 35 [(0, .ref b), (1, .int x1), (2, .int x2)] [] w u 0 0 (Qv w r)) {x1 : Int32} {x2 : Int32} {u : MT} (h : B_X1_placeReadings_109 f b ts j35 x1 x2 u = some r) : V z g 3 109 [(0, .ref b), (1, .int x1), (2, .int x2)] [] w u 0 0 (Qv w r) := by
  rw [B_X1_placeReadings_109] at h
  refine Viinc (j := 2) (v := _ + 1) (lv' := [(2, _), (0, _), (1, _)]) C (dAt D_X1_placeReadings 59 rfl) rfl rfl (by decide) rfl ?_
  refine Vgoto (tgt := 35) C (dAt D_X1_placeReadings 60 rfl) (by decide) ?_
  exact Vsub [1, 2, 0] rfl (q35 _ _ _  h)
def B_X1_placeReadings_35 (f : Nat) (b : Nat) (ts : Nat) : Nat → Int32 → Int32 → MT → Option MT
  | 0, _, _, _ => none
  | n + 1, x1, x2, u =>
    if (gI u 104 5) ≤ x2 then
      some u
    else
      ck (ixo x2 400) <|
      if (gI u b 4) < (gI u 109 (x2).toNatClampNeg) then
        B_X1_placeReadings_109 f b ts (fun x1' x2' u' => B_X1_placeReadings_35 f b ts n x1' x2' u') x1 x2 u
      else
        (F_X11_isIn f (gI u 106 (x2).toNatClampNeg) (gI u b 5) x1 u).bind fun r12 =>
        if r12.1 = 0 then
          B_X1_placeReadings_109 f b ts (fun x1' x2' u' => B_X1_placeReadings_35 f b ts n x1' x2' u') x1 x2 r12.2
        else
          (F_X1_cell f (gI r12.2 105 (x2).toNatClampNeg) (gI r12.2 106 (x2).toNatClampNeg) r12.2).bind fun r15 =>
          ck (ixo r15.1 2880) <|
          let u18 := sI r15.2 (b + 1) (r15.1).toNatClampNeg x2
          B_X1_placeReadings_109 f b ts (fun x1' x2' u' => B_X1_placeReadings_35 f b ts n x1' x2' u') x1 x2 u18
theorem w_X1_placeReadings_35 {z : ZT} {g : GT} {w : LT} (hL : Lay w) {b : Nat} {ts : Nat} (hb : isBk w b ts) (C : Cx z g cX1_placeReadings 3 RX1 none 1 0 0) {f : Nat} {r : MT} : ∀ (n : Nat) (x1 : Int32) (x2 : Int32) (u : MT), B_X1_placeReadings_35 f b ts n x1 x2 u = some r → V z g 3 35 [(0, .ref b), (1, .int x1), (2, .int x2)] [] w u 0 0 (Qv w r) := by
  intro n
  induction n with
  | zero =>
    intro x1 x2 u h
    rw [B_X1_placeReadings_35] at h
    cases h
  | succ n ih =>
    intro x1 x2 u h
    rw [B_X1_placeReadings_35] at h
    refine Viload_n C 2 (dAt D_X1_placeReadings 21 rfl) rfl rfl ?_
    refine Vaload_n C 0 (dAt D_X1_placeReadings 22 rfl) rfl rfl ?_
    refine VgetP C (dAt D_X1_placeReadings 23 rfl) gf_X1_31 (hb).1 rfl (hb).2.2.1 ?_
    refine VgetI C (dAt D_X1_placeReadings 24 rfl) gf_X1_84 (kt_104 hL) rfl ?_
    refine Vicmp_ge (tgt := 115) C (dAt D_X1_placeReadings 25 rfl) (by decide) (fun c9 => ?_) (fun c9 => ?_)
    · have h := ok_t c9 h
      cases h
      exact Vvret C (dAt D_X1_placeReadings 61 rfl) (by decide) (by decide) ⟨rfl, rfl, rfl⟩
    · have h := ok_f c9 h
      refine Vaload_n C 0 (dAt D_X1_placeReadings 26 rfl) rfl rfl ?_
      refine VgetP C (dAt D_X1_placeReadings 27 rfl) gf_X1_31 (hb).1 rfl (hb).2.2.1 ?_
      refine VgetP C (dAt D_X1_placeReadings 28 rfl) gf_X1_87 (kt_104 hL) rfl (kp_104_4 hL) ?_
      refine Viload_n C 2 (dAt D_X1_placeReadings 29 rfl) rfl rfl ?_
      obtain ⟨c10, h⟩ := ok_ck h
      refine Viald C (dAt D_X1_placeReadings 30 rfl) (kt_109 hL) (kl_109 hL) (vp_in_iff.mpr c10) ?_
      refine Vaload_n C 0 (dAt D_X1_placeReadings 31 rfl) rfl rfl ?_
      refine VgetI C (dAt D_X1_placeReadings 32 rfl) gf_X1_64 (hb).1 rfl ?_
      refine Vicmp_gt (tgt := 109) C (dAt D_X1_placeReadings 33 rfl) (by decide) (fun c11 => ?_) (fun c11 => ?_)
      · have h := ok_t c11 h
        exact Vsub [0, 1, 2] rfl (w_X1_placeReadings_109 hL hb C ih  h)
      · have h := ok_f c11 h
        refine Vaload_n C 0 (dAt D_X1_placeReadings 34 rfl) rfl rfl ?_
        refine VgetP C (dAt D_X1_placeReadings 35 rfl) gf_X1_31 (hb).1 rfl (hb).2.2.1 ?_
        refine VgetP C (dAt D_X1_placeReadings 36 rfl) gf_X1_90 (kt_104 hL) rfl (kp_104_1 hL) ?_
        refine Viload_n C 2 (dAt D_X1_placeReadings 37 rfl) rfl rfl ?_
        refine Viald C (dAt D_X1_placeReadings 38 rfl) (kt_106 hL) (kl_106 hL) (vp_in_iff.mpr c10) ?_
        refine Vaload_n C 0 (dAt D_X1_placeReadings 39 rfl) rfl rfl ?_
        refine VgetI C (dAt D_X1_placeReadings 40 rfl) gf_X1_43 (hb).1 rfl ?_
        refine Viload_n C 1 (dAt D_X1_placeReadings 41 rfl) rfl rfl ?_
        obtain ⟨r12, e13, h⟩ := ok_b h
        refine VcallS (as := [_, _, _]) C (dAt D_X1_placeReadings 42 rfl) (m_X11_isIn hL e13) yb_X1_93 ys_X1_93 rfl rfl (Nat.le_of_ble_eq_true rfl) (by decide) (by decide) (by decide) (by decide) (Kint ?_)
        refine Vif_eq (tgt := 109) C (dAt D_X1_placeReadings 43 rfl) (by decide) (fun c14 => ?_) (fun c14 => ?_)
        · have h := ok_t c14 h
          exact Vsub [0, 1, 2] rfl (w_X1_placeReadings_109 hL hb C ih  h)
        · have h := ok_f c14 h
          refine Vaload_n C 0 (dAt D_X1_placeReadings 44 rfl) rfl rfl ?_
          refine VgetP C (dAt D_X1_placeReadings 45 rfl) gf_X1_9 (hb).1 rfl (hb).2.2.2.2.2.1.1 ?_
          refine Vaload_n C 0 (dAt D_X1_placeReadings 46 rfl) rfl rfl ?_
          refine VgetP C (dAt D_X1_placeReadings 47 rfl) gf_X1_31 (hb).1 rfl (hb).2.2.1 ?_
          refine VgetP C (dAt D_X1_placeReadings 48 rfl) gf_X1_97 (kt_104 hL) rfl (kp_104_0 hL) ?_
          refine Viload_n C 2 (dAt D_X1_placeReadings 49 rfl) rfl rfl ?_
          refine Viald C (dAt D_X1_placeReadings 50 rfl) (kt_105 hL) (kl_105 hL) (vp_in_iff.mpr c10) ?_
          refine Vaload_n C 0 (dAt D_X1_placeReadings 51 rfl) rfl rfl ?_
          refine VgetP C (dAt D_X1_placeReadings 52 rfl) gf_X1_31 (hb).1 rfl (hb).2.2.1 ?_
          refine VgetP C (dAt D_X1_placeReadings 53 rfl) gf_X1_90 (kt_104 hL) rfl (kp_104_1 hL) ?_
          refine Viload_n C 2 (dAt D_X1_placeReadings 54 rfl) rfl rfl ?_
          refine Viald C (dAt D_X1_placeReadings 55 rfl) (kt_106 hL) (kl_106 hL) (vp_in_iff.mpr c10) ?_
          obtain ⟨r15, e16, h⟩ := ok_b h
          refine VcallS (as := [_, _]) C (dAt D_X1_placeReadings 56 rfl) (m_X1_cell hL e16) yb_X1_81 ys_X1_81 rfl rfl (Nat.le_of_ble_eq_true rfl) (by decide) (by decide) (by decide) (by decide) (Kint ?_)
          refine Viload_n C 2 (dAt D_X1_placeReadings 57 rfl) rfl rfl ?_
          obtain ⟨c17, h⟩ := ok_ck h
          refine Viast C (dAt D_X1_placeReadings 58 rfl) (hb).2.2.2.2.2.1.2.1 (hb).2.2.2.2.2.1.2.2 (vp_in_iff.mpr c17) ?_
          exact Vsub [0, 1, 2] rfl (w_X1_placeReadings_109 hL hb C ih  h)
def B_X1_placeReadings_9 (f : Nat) (b : Nat) (ts : Nat) : Nat → Int32 → Int32 → MT → Option MT
  | 0, _, _, _ => none
  | n + 1, x1, x2, u =>
    (F_X1_cell f (0 : Int32) (x1 + (1 : Int32)) u).bind fun r3 =>
    if r3.1 ≤ x2 then
      B_X1_placeReadings_35 f b ts f x1 (0 : Int32) r3.2
    else
      ck (ixo x2 2880) <|
      let u7 := sI r3.2 (b + 1) (x2).toNatClampNeg (-1 : Int32)
      let v8 := x2 + 1
      B_X1_placeReadings_9 f b ts n x1 v8 u7
theorem w_X1_placeReadings_9 {z : ZT} {g : GT} {w : LT} (hL : Lay w) {b : Nat} {ts : Nat} (hb : isBk w b ts) (C : Cx z g cX1_placeReadings 3 RX1 none 1 0 0) {f : Nat} {r : MT} : ∀ (n : Nat) (x1 : Int32) (x2 : Int32) (u : MT), B_X1_placeReadings_9 f b ts n x1 x2 u = some r → V z g 3 9 [(0, .ref b), (1, .int x1), (2, .int x2)] [] w u 0 0 (Qv w r) := by
  intro n
  induction n with
  | zero =>
    intro x1 x2 u h
    rw [B_X1_placeReadings_9] at h
    cases h
  | succ n ih =>
    intro x1 x2 u h
    rw [B_X1_placeReadings_9] at h
    refine Viload_n C 2 (dAt D_X1_placeReadings 5 rfl) rfl rfl ?_
    refine Viconst (x := 0) C (dAt D_X1_placeReadings 6 rfl) (by decide) ?_
    refine Viload_n C 1 (dAt D_X1_placeReadings 7 rfl) rfl rfl ?_
    refine Viconst (x := 1) C (dAt D_X1_placeReadings 8 rfl) (by decide) ?_
    refine Viadd C (dAt D_X1_placeReadings 9 rfl) ?_
    obtain ⟨r3, e4, h⟩ := ok_b h
    refine VcallS (as := [_, _]) C (dAt D_X1_placeReadings 10 rfl) (m_X1_cell hL e4) yb_X1_81 ys_X1_81 rfl rfl (Nat.le_of_ble_eq_true rfl) (by decide) (by decide) (by decide) (by decide) (Kint ?_)
    refine Vicmp_ge (tgt := 33) C (dAt D_X1_placeReadings 11 rfl) (by decide) (fun c5 => ?_) (fun c5 => ?_)
    · have h := ok_t c5 h
      refine Viconst (x := 0) C (dAt D_X1_placeReadings 19 rfl) (by decide) ?_
      refine Vistore_n (lv' := [(2, _), (0, _), (1, _)]) C (dAt D_X1_placeReadings 20 rfl) rfl (by decide) rfl ?_
      exact Vsub [1, 2, 0] rfl (w_X1_placeReadings_35 hL hb C  f _ _ _  h)
    · have h := ok_f c5 h
      refine Vaload_n C 0 (dAt D_X1_placeReadings 12 rfl) rfl rfl ?_
      refine VgetP C (dAt D_X1_placeReadings 13 rfl) gf_X1_9 (hb).1 rfl (hb).2.2.2.2.2.1.1 ?_
      refine Viload_n C 2 (dAt D_X1_placeReadings 14 rfl) rfl rfl ?_
      refine Viconst (x := (-1)) C (dAt D_X1_placeReadings 15 rfl) (by decide) ?_
      obtain ⟨c6, h⟩ := ok_ck h
      refine Viast C (dAt D_X1_placeReadings 16 rfl) (hb).2.2.2.2.2.1.2.1 (hb).2.2.2.2.2.1.2.2 (vp_in_iff.mpr c6) ?_
      refine Viinc (j := 2) (v := _ + 1) (lv' := [(2, _), (0, _), (1, _)]) C (dAt D_X1_placeReadings 17 rfl) rfl rfl (by decide) rfl ?_
      refine Vgoto (tgt := 9) C (dAt D_X1_placeReadings 18 rfl) (by decide) ?_
      exact Vsub [1, 2, 0] rfl (ih _ _ _  h)
def F_X1_placeReadings (f : Nat) (b : Nat) (ts : Nat) (x1 : Int32) (u : MT) : Option MT :=
  (F_X1_cell f (0 : Int32) (gI u b 5) u).bind fun r1 =>
  B_X1_placeReadings_9 f b ts f x1 r1.1 r1.2
theorem m_X1_placeReadings {g : GT} {w : LT} (hL : Lay w) {b : Nat} {ts : Nat} {x1 : Int32} {f : Nat} {u : MT} {r : MT} (hb : isBk w b ts) (h : F_X1_placeReadings f b ts x1 u = some r) : Mt g yX1_placeReadings cX1_placeReadings 3 none 1 0 0 [.ref b, .int x1] w u (Qv w r) := by
  refine Mt_of (own := RX1) (by decide +kernel) rfl (Nat.le_of_ble_eq_true rfl) (fun z C _ => ?_)
  show V z g 3 0 [(0, .ref b), (1, .int x1)] [] w u 0 0 (Qv w r)
  rw [F_X1_placeReadings] at h
  refine Viconst (x := 0) C (dAt D_X1_placeReadings 0 rfl) (by decide) ?_
  refine Vaload_n C 0 (dAt D_X1_placeReadings 1 rfl) rfl rfl ?_
  refine VgetI C (dAt D_X1_placeReadings 2 rfl) gf_X1_43 (hb).1 rfl ?_
  obtain ⟨r1, e2, h⟩ := ok_b h
  refine VcallS (as := [_, _]) C (dAt D_X1_placeReadings 3 rfl) (m_X1_cell hL e2) yb_X1_81 ys_X1_81 rfl rfl (Nat.le_of_ble_eq_true rfl) (by decide) (by decide) (by decide) (by decide) (Kint ?_)
  refine Vistore_n (lv' := [(2, _), (0, _), (1, _)]) C (dAt D_X1_placeReadings 4 rfl) rfl (by decide) rfl ?_
  exact Vsub [1, 2, 0] rfl (w_X1_placeReadings_9 hL hb C  f _ _ _  h)
def F_X1_sum (f : Nat) (b : Nat) (ts : Nat) (x1 : Int32) (x2 : Int32) (u : MT) : Option (Int32 × MT) :=
  ck (ixo ((x1 * (14 : Int32)) + x2) 3360) <|
  some ((gI u (b + 5) (((x1 * (14 : Int32)) + x2)).toNatClampNeg), u)
theorem m_X1_sum {g : GT} {w : LT} (hL : Lay w) {b : Nat} {ts : Nat} {x1 : Int32} {x2 : Int32} {f : Nat} {u : MT} {r : (Int32 × MT)} (hb : isBk w b ts) (h : F_X1_sum f b ts x1 x2 u = some r) : Mt g yX1_sum cX1_sum 3 (some .int) 0 0 0 [.ref b, .int x1, .int x2] w u (Qi r.1 w r.2) := by
  refine Mt_of (own := RX1) (by decide +kernel) rfl (Nat.le_of_ble_eq_true rfl) (fun z C _ => ?_)
  show V z g 3 0 [(0, .ref b), (1, .int x1), (2, .int x2)] [] w u 0 0 (Qi r.1 w r.2)
  rw [F_X1_sum] at h
  refine Vaload_n C 0 (dAt D_X1_sum 0 rfl) rfl rfl ?_
  refine VgetP C (dAt D_X1_sum 1 rfl) gf_X1_24 (hb).1 rfl (hb).2.2.2.2.2.2.2.2.2.1.1 ?_
  refine Viload_n C 1 (dAt D_X1_sum 2 rfl) rfl rfl ?_
  refine Vbipush (x := 14) C (dAt D_X1_sum 3 rfl) (by decide) ?_
  refine Vimul C (dAt D_X1_sum 4 rfl) ?_
  refine Viload_n C 2 (dAt D_X1_sum 5 rfl) rfl rfl ?_
  refine Viadd C (dAt D_X1_sum 6 rfl) ?_
  obtain ⟨c1, h⟩ := ok_ck h
  refine Viald C (dAt D_X1_sum 7 rfl) (hb).2.2.2.2.2.2.2.2.2.1.2.1 (hb).2.2.2.2.2.2.2.2.2.1.2.2 (vp_in_iff.mpr c1) ?_
  cases h
  exact Viret C (dAt D_X1_sum 8 rfl) (by decide) (by decide) ⟨rfl, rfl, rfl⟩
def B_X10_begin_28 (f : Nat) : Nat → Int32 → MT → Option MT
  | 0, _, _ => none
  | n + 1, x4, u =>
    if (14 : Int32) ≤ x4 then
      some u
    else
      ck (ixo x4 14) <|
      let u8 := sI u 127 (x4).toNatClampNeg (0 : Int32)
      let v9 := x4 + 1
      B_X10_begin_28 f n v9 u8
theorem w_X10_begin_28 {z : ZT} {g : GT} {w : LT} (hL : Lay w) (C : Cx z g cX10_begin 5 RX10 none 0 0 0) {f : Nat} {r : MT} : ∀ (n : Nat) (x4 : Int32) (u : MT), B_X10_begin_28 f n x4 u = some r → V z g 5 28 [(0, .ref 116), (4, .int x4)] [] w u 0 0 (Qv w r) := by
  intro n
  induction n with
  | zero =>
    intro x4 u h
    rw [B_X10_begin_28] at h
    cases h
  | succ n ih =>
    intro x4 u h
    rw [B_X10_begin_28] at h
    refine Viload C 1 (dAt D_X10_begin 17 rfl) rfl ?_
    refine Vbipush (x := 14) C (dAt D_X10_begin 18 rfl) (by decide) ?_
    refine Vicmp_ge (tgt := 49) C (dAt D_X10_begin 19 rfl) (by decide) (fun c6 => ?_) (fun c6 => ?_)
    · have h := ok_t c6 h
      cases h
      exact Vvret C (dAt D_X10_begin 27 rfl) (by decide) (by decide) ⟨rfl, rfl, rfl⟩
    · have h := ok_f c6 h
      refine Vaload_n C 0 (dAt D_X10_begin 20 rfl) rfl rfl ?_
      refine VgetP C (dAt D_X10_begin 21 rfl) gf_X10_43 (kt_116 hL) rfl (kp_116_19 hL) ?_
      refine Viload C 1 (dAt D_X10_begin 22 rfl) rfl ?_
      refine Viconst (x := 0) C (dAt D_X10_begin 23 rfl) (by decide) ?_
      obtain ⟨c7, h⟩ := ok_ck h
      refine Viast C (dAt D_X10_begin 24 rfl) (kt_127 hL) (kl_127 hL) (vp_in_iff.mpr c7) ?_
      refine Viinc (j := 1) (v := _ + 1) (lv' := [(4, _), (0, _)]) C (dAt D_X10_begin 25 rfl) rfl rfl (by decide) rfl ?_
      refine Vgoto (tgt := 28) C (dAt D_X10_begin 26 rfl) (by decide) ?_
      exact Vsub [1, 0] rfl (ih _ _  h)
def F_X10_begin (f : Nat) (x1 : Int32) (x2 : Int32) (x3 : Int32) (u : MT) : Option MT :=
  let u1 := sI u 116 3 x1
  let u2 := sI u1 116 16 x3
  let u3 := sI u2 116 17 (0 : Int32)
  let u4 := sI u3 116 4 (0 : Int32)
  let u5 := sI u4 116 5 x2
  B_X10_begin_28 f f (0 : Int32) u5
theorem m_X10_begin {g : GT} {w : LT} (hL : Lay w) {x1 : Int32} {x2 : Int32} {x3 : Int32} {f : Nat} {u : MT} {r : MT} (h : F_X10_begin f x1 x2 x3 u = some r) : Mt g yX10_begin cX10_begin 5 none 0 0 0 [.ref 116, .int x1, .int x2, .int x3] w u (Qv w r) := by
  refine Mt_of (own := RX10) (by decide +kernel) rfl (Nat.le_of_ble_eq_true rfl) (fun z C _ => ?_)
  show V z g 5 0 [(0, .ref 116), (1, .int x1), (2, .int x2), (3, .int x3)] [] w u 0 0 (Qv w r)
  rw [F_X10_begin] at h
  refine Vaload_n C 0 (dAt D_X10_begin 0 rfl) rfl rfl ?_
  refine Viload_n C 1 (dAt D_X10_begin 1 rfl) rfl rfl ?_
  refine VputI C (dAt D_X10_begin 2 rfl) gf_X10_57 (kt_116 hL) rfl rfl rfl rfl ?_
  refine Vaload_n C 0 (dAt D_X10_begin 3 rfl) rfl rfl ?_
  refine Viload_n C 3 (dAt D_X10_begin 4 rfl) rfl rfl ?_
  refine VputI C (dAt D_X10_begin 5 rfl) gf_X10_60 (kt_116 hL) rfl rfl rfl rfl ?_
  refine Vaload_n C 0 (dAt D_X10_begin 6 rfl) rfl rfl ?_
  refine Viconst (x := 0) C (dAt D_X10_begin 7 rfl) (by decide) ?_
  refine VputI C (dAt D_X10_begin 8 rfl) gf_X10_63 (kt_116 hL) rfl rfl rfl rfl ?_
  refine Vaload_n C 0 (dAt D_X10_begin 9 rfl) rfl rfl ?_
  refine Viconst (x := 0) C (dAt D_X10_begin 10 rfl) (by decide) ?_
  refine VputI C (dAt D_X10_begin 11 rfl) gf_X10_66 (kt_116 hL) rfl rfl rfl rfl ?_
  refine Vaload_n C 0 (dAt D_X10_begin 12 rfl) rfl rfl ?_
  refine Viload_n C 2 (dAt D_X10_begin 13 rfl) rfl rfl ?_
  refine VputI C (dAt D_X10_begin 14 rfl) gf_X10_69 (kt_116 hL) rfl rfl rfl rfl ?_
  refine Viconst (x := 0) C (dAt D_X10_begin 15 rfl) (by decide) ?_
  refine Vistore (lv' := [(4, _), (0, _), (1, _), (2, _), (3, _)]) C (dAt D_X10_begin 16 rfl) (by decide) rfl ?_
  exact Vsub [1, 0] rfl (w_X10_begin_28 hL C  f _ _  h)
def F_X1_wants (f : Nat) (b : Nat) (ts : Nat) (x1 : Int32) (u : MT) : Option (Int32 × MT) :=
  ck (ixo x1 2880) <|
  if (gI u (b + 1) (x1).toNatClampNeg) = (-1 : Int32) then
    some ((0 : Int32), u)
  else
    ck (ixo (gI u (b + 1) (x1).toNatClampNeg) 400) <|
    some ((gI u 107 ((gI u (b + 1) (x1).toNatClampNeg)).toNatClampNeg), u)
theorem m_X1_wants {g : GT} {w : LT} (hL : Lay w) {b : Nat} {ts : Nat} {x1 : Int32} {f : Nat} {u : MT} {r : (Int32 × MT)} (hb : isBk w b ts) (h : F_X1_wants f b ts x1 u = some r) : Mt g yX1_wants cX1_wants 2 (some .int) 0 0 0 [.ref b, .int x1] w u (Qi r.1 w r.2) := by
  refine Mt_of (own := RX1) (by decide +kernel) rfl (Nat.le_of_ble_eq_true rfl) (fun z C _ => ?_)
  show V z g 2 0 [(0, .ref b), (1, .int x1)] [] w u 0 0 (Qi r.1 w r.2)
  rw [F_X1_wants] at h
  refine Vaload_n C 0 (dAt D_X1_wants 0 rfl) rfl rfl ?_
  refine VgetP C (dAt D_X1_wants 1 rfl) gf_X1_9 (hb).1 rfl (hb).2.2.2.2.2.1.1 ?_
  refine Viload_n C 1 (dAt D_X1_wants 2 rfl) rfl rfl ?_
  obtain ⟨c1, h⟩ := ok_ck h
  refine Viald C (dAt D_X1_wants 3 rfl) (hb).2.2.2.2.2.1.2.1 (hb).2.2.2.2.2.1.2.2 (vp_in_iff.mpr c1) ?_
  refine Viconst (x := (-1)) C (dAt D_X1_wants 4 rfl) (by decide) ?_
  refine Vicmp_ne (tgt := 14) C (dAt D_X1_wants 5 rfl) (by decide) (fun c2 => ?_) (fun c2 => ?_)
  · have h := ok_f c2 h
    refine Vaload_n C 0 (dAt D_X1_wants 8 rfl) rfl rfl ?_
    refine VgetP C (dAt D_X1_wants 9 rfl) gf_X1_31 (hb).1 rfl (hb).2.2.1 ?_
    refine VgetP C (dAt D_X1_wants 10 rfl) gf_X1_168 (kt_104 hL) rfl (kp_104_2 hL) ?_
    refine Vaload_n C 0 (dAt D_X1_wants 11 rfl) rfl rfl ?_
    refine VgetP C (dAt D_X1_wants 12 rfl) gf_X1_9 (hb).1 rfl (hb).2.2.2.2.2.1.1 ?_
    refine Viload_n C 1 (dAt D_X1_wants 13 rfl) rfl rfl ?_
    refine Viald C (dAt D_X1_wants 14 rfl) (hb).2.2.2.2.2.1.2.1 (hb).2.2.2.2.2.1.2.2 (vp_in_iff.mpr c1) ?_
    obtain ⟨c3, h⟩ := ok_ck h
    refine Viald C (dAt D_X1_wants 15 rfl) (kt_107 hL) (kl_107 hL) (vp_in_iff.mpr c3) ?_
    cases h
    exact Viret C (dAt D_X1_wants 16 rfl) (by decide) (by decide) ⟨rfl, rfl, rfl⟩
  · have h := ok_t c2 h
    refine Viconst (x := 0) C (dAt D_X1_wants 6 rfl) (by decide) ?_
    refine Vgoto (tgt := 28) C (dAt D_X1_wants 7 rfl) (by decide) ?_
    cases h
    exact Viret C (dAt D_X1_wants 16 rfl) (by decide) (by decide) ⟨rfl, rfl, rfl⟩
def F_X1_gives (f : Nat) (b : Nat) (ts : Nat) (x1 : Int32) (u : MT) : Option (Int32 × MT) :=
  ck (ixo x1 2880) <|
  if (gI u (b + 1) (x1).toNatClampNeg) = (-1 : Int32) then
    some ((0 : Int32), u)
  else
    ck (ixo (gI u (b + 1) (x1).toNatClampNeg) 400) <|
    some ((gI u 108 ((gI u (b + 1) (x1).toNatClampNeg)).toNatClampNeg), u)
theorem m_X1_gives {g : GT} {w : LT} (hL : Lay w) {b : Nat} {ts : Nat} {x1 : Int32} {f : Nat} {u : MT} {r : (Int32 × MT)} (hb : isBk w b ts) (h : F_X1_gives f b ts x1 u = some r) : Mt g yX1_gives cX1_gives 2 (some .int) 0 0 0 [.ref b, .int x1] w u (Qi r.1 w r.2) := by
  refine Mt_of (own := RX1) (by decide +kernel) rfl (Nat.le_of_ble_eq_true rfl) (fun z C _ => ?_)
  show V z g 2 0 [(0, .ref b), (1, .int x1)] [] w u 0 0 (Qi r.1 w r.2)
  rw [F_X1_gives] at h
  refine Vaload_n C 0 (dAt D_X1_gives 0 rfl) rfl rfl ?_
  refine VgetP C (dAt D_X1_gives 1 rfl) gf_X1_9 (hb).1 rfl (hb).2.2.2.2.2.1.1 ?_
  refine Viload_n C 1 (dAt D_X1_gives 2 rfl) rfl rfl ?_
  obtain ⟨c1, h⟩ := ok_ck h
  refine Viald C (dAt D_X1_gives 3 rfl) (hb).2.2.2.2.2.1.2.1 (hb).2.2.2.2.2.1.2.2 (vp_in_iff.mpr c1) ?_
  refine Viconst (x := (-1)) C (dAt D_X1_gives 4 rfl) (by decide) ?_
  refine Vicmp_ne (tgt := 14) C (dAt D_X1_gives 5 rfl) (by decide) (fun c2 => ?_) (fun c2 => ?_)
  · have h := ok_f c2 h
    refine Vaload_n C 0 (dAt D_X1_gives 8 rfl) rfl rfl ?_
    refine VgetP C (dAt D_X1_gives 9 rfl) gf_X1_31 (hb).1 rfl (hb).2.2.1 ?_
    refine VgetP C (dAt D_X1_gives 10 rfl) gf_X1_170 (kt_104 hL) rfl (kp_104_3 hL) ?_
    refine Vaload_n C 0 (dAt D_X1_gives 11 rfl) rfl rfl ?_
    refine VgetP C (dAt D_X1_gives 12 rfl) gf_X1_9 (hb).1 rfl (hb).2.2.2.2.2.1.1 ?_
    refine Viload_n C 1 (dAt D_X1_gives 13 rfl) rfl rfl ?_
    refine Viald C (dAt D_X1_gives 14 rfl) (hb).2.2.2.2.2.1.2.1 (hb).2.2.2.2.2.1.2.2 (vp_in_iff.mpr c1) ?_
    obtain ⟨c3, h⟩ := ok_ck h
    refine Viald C (dAt D_X1_gives 15 rfl) (kt_108 hL) (kl_108 hL) (vp_in_iff.mpr c3) ?_
    cases h
    exact Viret C (dAt D_X1_gives 16 rfl) (by decide) (by decide) ⟨rfl, rfl, rfl⟩
  · have h := ok_t c2 h
    refine Viconst (x := 0) C (dAt D_X1_gives 6 rfl) (by decide) ?_
    refine Vgoto (tgt := 28) C (dAt D_X1_gives 7 rfl) (by decide) ?_
    cases h
    exact Viret C (dAt D_X1_gives 16 rfl) (by decide) (by decide) ⟨rfl, rfl, rfl⟩
def F_X10_bringIn (f : Nat) (x1 : Int32) (x2 : Int32) (x3 : Int32) (x4 : Int32) (u : MT) : Option MT :=
  let v1 := (if x3 < x2 then x3 else x2)
  ck (ixo x1 12) <|
  let u3 := sI u 117 (x1).toNatClampNeg (x2 - v1)
  let u4 := sI u3 116 4 ((gI u3 116 4) + (x3 - v1))
  let u5 := sI u4 127 0 (gI u4 116 4)
  let u6 := sI u5 118 (x1).toNatClampNeg (gI u5 103 (x1).toNatClampNeg)
  let u7 := sI u6 119 (x1).toNatClampNeg x4
  let u8 := sI u7 120 (x1).toNatClampNeg (0 : Int32)
  let u9 := sI u8 121 (x1).toNatClampNeg (0 : Int32)
  let u10 := sI u9 126 (x1).toNatClampNeg (0 : Int32)
  some u10
theorem m_X10_bringIn {g : GT} {w : LT} (hL : Lay w) {x1 : Int32} {x2 : Int32} {x3 : Int32} {x4 : Int32} {f : Nat} {u : MT} {r : MT} (h : F_X10_bringIn f x1 x2 x3 x4 u = some r) : Mt g yX10_bringIn cX10_bringIn 6 none 1 0 0 [.ref 116, .int x1, .int x2, .int x3, .int x4] w u (Qv w r) := by
  refine Mt_of (own := RX10) (by decide +kernel) rfl (Nat.le_of_ble_eq_true rfl) (fun z C _ => ?_)
  show V z g 6 0 [(0, .ref 116), (1, .int x1), (2, .int x2), (3, .int x3), (4, .int x4)] [] w u 0 0 (Qv w r)
  rw [F_X10_bringIn] at h
  refine Viload_n C 2 (dAt D_X10_bringIn 0 rfl) rfl rfl ?_
  refine Viload_n C 3 (dAt D_X10_bringIn 1 rfl) rfl rfl ?_
  refine Vmin C (dAt D_X10_bringIn 2 rfl) gm_X10_72 mS_min mI mC_min (Nat.le_of_ble_eq_true rfl) (by decide) (by decide) (by decide) ?_
  refine Vistore (lv' := [(5, _), (0, _), (1, _), (2, _), (3, _), (4, _)]) C (dAt D_X10_bringIn 3 rfl) (by decide) rfl ?_
  refine Vaload_n C 1 (dAt D_X10_bringIn 4 rfl) rfl rfl ?_
  refine VgetP C (dAt D_X10_bringIn 5 rfl) gf_X10_9 (kt_116 hL) rfl (kp_116_6 hL) ?_
  refine Viload_n C 2 (dAt D_X10_bringIn 6 rfl) rfl rfl ?_
  refine Viload_n C 3 (dAt D_X10_bringIn 7 rfl) rfl rfl ?_
  refine Viload C 0 (dAt D_X10_bringIn 8 rfl) rfl ?_
  refine Visub C (dAt D_X10_bringIn 9 rfl) ?_
  obtain ⟨c2, h⟩ := ok_ck h
  refine Viast C (dAt D_X10_bringIn 10 rfl) (kt_117 hL) (kl_117 hL) (vp_in_iff.mpr c2) ?_
  refine Vaload_n C 1 (dAt D_X10_bringIn 11 rfl) rfl rfl ?_
  refine Vdup C (dAt D_X10_bringIn 12 rfl) rfl ?_
  refine VgetI C (dAt D_X10_bringIn 13 rfl) gf_X10_66 (kt_116 hL) rfl ?_
  refine Viload_n C 4 (dAt D_X10_bringIn 14 rfl) rfl rfl ?_
  refine Viload C 0 (dAt D_X10_bringIn 15 rfl) rfl ?_
  refine Visub C (dAt D_X10_bringIn 16 rfl) ?_
  refine Viadd C (dAt D_X10_bringIn 17 rfl) ?_
  refine VputI C (dAt D_X10_bringIn 18 rfl) gf_X10_66 (kt_116 hL) rfl rfl rfl rfl ?_
  refine Vaload_n C 1 (dAt D_X10_bringIn 19 rfl) rfl rfl ?_
  refine VgetP C (dAt D_X10_bringIn 20 rfl) gf_X10_43 (kt_116 hL) rfl (kp_116_19 hL) ?_
  refine Viconst (x := 0) C (dAt D_X10_bringIn 21 rfl) (by decide) ?_
  refine Vaload_n C 1 (dAt D_X10_bringIn 22 rfl) rfl rfl ?_
  refine VgetI C (dAt D_X10_bringIn 23 rfl) gf_X10_66 (kt_116 hL) rfl ?_
  refine ViastC 0 C (dAt D_X10_bringIn 24 rfl) (kt_127 hL) (kl_127 hL) (by decide) rfl ?_
  refine Vaload_n C 1 (dAt D_X10_bringIn 25 rfl) rfl rfl ?_
  refine VgetP C (dAt D_X10_bringIn 26 rfl) gf_X10_15 (kt_116 hL) rfl (kp_116_7 hL) ?_
  refine Viload_n C 2 (dAt D_X10_bringIn 27 rfl) rfl rfl ?_
  refine Vaload_n C 1 (dAt D_X10_bringIn 28 rfl) rfl rfl ?_
  refine VgetP C (dAt D_X10_bringIn 29 rfl) gf_X10_46 (kt_116 hL) rfl (kp_116_0 hL) ?_
  refine VgetP C (dAt D_X10_bringIn 30 rfl) gf_X10_78 (kt_101 hL) rfl (kp_101_1 hL) ?_
  refine Viload_n C 2 (dAt D_X10_bringIn 31 rfl) rfl rfl ?_
  refine Viald C (dAt D_X10_bringIn 32 rfl) (kt_103 hL) (kl_103 hL) (vp_in_iff.mpr c2) ?_
  refine Viast C (dAt D_X10_bringIn 33 rfl) (kt_118 hL) (kl_118 hL) (vp_in_iff.mpr c2) ?_
  refine Vaload_n C 1 (dAt D_X10_bringIn 34 rfl) rfl rfl ?_
  refine VgetP C (dAt D_X10_bringIn 35 rfl) gf_X10_18 (kt_116 hL) rfl (kp_116_8 hL) ?_
  refine Viload_n C 2 (dAt D_X10_bringIn 36 rfl) rfl rfl ?_
  refine Viload C 5 (dAt D_X10_bringIn 37 rfl) rfl ?_
  refine Viast C (dAt D_X10_bringIn 38 rfl) (kt_119 hL) (kl_119 hL) (vp_in_iff.mpr c2) ?_
  refine Vaload_n C 1 (dAt D_X10_bringIn 39 rfl) rfl rfl ?_
  refine VgetP C (dAt D_X10_bringIn 40 rfl) gf_X10_21 (kt_116 hL) rfl (kp_116_9 hL) ?_
  refine Viload_n C 2 (dAt D_X10_bringIn 41 rfl) rfl rfl ?_
  refine Viconst (x := 0) C (dAt D_X10_bringIn 42 rfl) (by decide) ?_
  refine Viast C (dAt D_X10_bringIn 43 rfl) (kt_120 hL) (kl_120 hL) (vp_in_iff.mpr c2) ?_
  refine Vaload_n C 1 (dAt D_X10_bringIn 44 rfl) rfl rfl ?_
  refine VgetP C (dAt D_X10_bringIn 45 rfl) gf_X10_24 (kt_116 hL) rfl (kp_116_10 hL) ?_
  refine Viload_n C 2 (dAt D_X10_bringIn 46 rfl) rfl rfl ?_
  refine Viconst (x := 0) C (dAt D_X10_bringIn 47 rfl) (by decide) ?_
  refine Viast C (dAt D_X10_bringIn 48 rfl) (kt_121 hL) (kl_121 hL) (vp_in_iff.mpr c2) ?_
  refine Vaload_n C 1 (dAt D_X10_bringIn 49 rfl) rfl rfl ?_
  refine VgetP C (dAt D_X10_bringIn 50 rfl) gf_X10_40 (kt_116 hL) rfl (kp_116_18 hL) ?_
  refine Viload_n C 2 (dAt D_X10_bringIn 51 rfl) rfl rfl ?_
  refine Viconst (x := 0) C (dAt D_X10_bringIn 52 rfl) (by decide) ?_
  refine Viast C (dAt D_X10_bringIn 53 rfl) (kt_126 hL) (kl_126 hL) (vp_in_iff.mpr c2) ?_
  cases h
  exact Vvret C (dAt D_X10_bringIn 54 rfl) (by decide) (by decide) ⟨rfl, rfl, rfl⟩
def B_X1_bringIn_55 (f : Nat) (b : Nat) (ts : Nat) (x1 : Int32) (x3 : Int32) (s0 : Int32) (u : MT) : Option MT :=
  (F_X1_wants f b ts x3 u).bind fun r10 =>
  (F_X1_gives f b ts x3 r10.2).bind fun r12 =>
  (F_X10_bringIn f x1 r10.1 r12.1 s0 r12.2).bind fun r14 =>
  some r14
theorem w_X1_bringIn_55 {z : ZT} {g : GT} {w : LT} (hL : Lay w) {b : Nat} {ts : Nat} (hb : isBk w b ts) (C : Cx z g cX1_bringIn 5 RX1 none 2 0 0) {f : Nat} {r : MT} {x1 : Int32} {x3 : Int32} {s0 : Int32} {u : MT} (h : B_X1_bringIn_55 f b ts x1 x3 s0 u = some r) : V z g 5 55 [(0, .ref b), (1, .int x1), (3, .int x3)] [.int s0] w u 0 0 (Qv w r) := by
  rw [B_X1_bringIn_55] at h
  refine Vistore (lv' := [(4, _), (0, _), (1, _), (3, _)]) C (dAt D_X1_bringIn 34 rfl) (by decide) rfl ?_
  refine Vaload_n C 1 (dAt D_X1_bringIn 35 rfl) rfl rfl ?_
  refine VgetP C (dAt D_X1_bringIn 36 rfl) gf_X1_39 (hb).1 rfl (hb).2.2.2.2.1 ?_
  refine Viload_n C 2 (dAt D_X1_bringIn 37 rfl) rfl rfl ?_
  refine Vaload_n C 1 (dAt D_X1_bringIn 38 rfl) rfl rfl ?_
  refine Viload_n C 3 (dAt D_X1_bringIn 39 rfl) rfl rfl ?_
  obtain ⟨r10, e11, h⟩ := ok_b h
  refine VcallV (as := [_]) C (dAt D_X1_bringIn 40 rfl) (m_X1_wants hL hb e11) yv_X1_133 (Or.inl ⟨(hb).1, by decide⟩) rfl rfl (Nat.le_of_ble_eq_true rfl) (by decide) (by decide) (by decide) (by decide) (Kint ?_)
  refine Vaload_n C 1 (dAt D_X1_bringIn 41 rfl) rfl rfl ?_
  refine Viload_n C 3 (dAt D_X1_bringIn 42 rfl) rfl rfl ?_
  obtain ⟨r12, e13, h⟩ := ok_b h
  refine VcallV (as := [_]) C (dAt D_X1_bringIn 43 rfl) (m_X1_gives hL hb e13) yv_X1_137 (Or.inl ⟨(hb).1, by decide⟩) rfl rfl (Nat.le_of_ble_eq_true rfl) (by decide) (by decide) (by decide) (by decide) (Kint ?_)
  refine Viload C 0 (dAt D_X1_bringIn 44 rfl) rfl ?_
  obtain ⟨r14, e15, h⟩ := ok_b h
  refine VcallV (as := [_, _, _, _]) C (dAt D_X1_bringIn 45 rfl) (m_X10_bringIn hL e15) yv_X1_140 (Or.inl ⟨(kt_116 hL), by decide⟩) rfl rfl (Nat.le_of_ble_eq_true rfl) (by decide) (by decide) (by decide) (by decide) (Kvoid ?_)
  cases h
  exact Vvret C (dAt D_X1_bringIn 46 rfl) (by decide) (by decide) ⟨rfl, rfl, rfl⟩
def B_X1_bringIn_35 (f : Nat) (b : Nat) (ts : Nat) (x1 : Int32) (x2 : Int32) (x3 : Int32) (u : MT) : Option MT :=
  if (x2 - x2 / (24 : Int32) * (24 : Int32)) = 0 then
    B_X1_bringIn_55 f b ts x1 x3 (0 : Int32) u
  else
    ck (ixo (x3 - (12 : Int32)) 2880) <|
    B_X1_bringIn_55 f b ts x1 x3 (gI u (b + 4) ((x3 - (12 : Int32))).toNatClampNeg) u
theorem w_X1_bringIn_35 {z : ZT} {g : GT} {w : LT} (hL : Lay w) {b : Nat} {ts : Nat} (hb : isBk w b ts) (C : Cx z g cX1_bringIn 5 RX1 none 2 0 0) {f : Nat} {r : MT} {x1 : Int32} {x2 : Int32} {x3 : Int32} {u : MT} (h : B_X1_bringIn_35 f b ts x1 x2 x3 u = some r) : V z g 5 35 [(0, .ref b), (1, .int x1), (2, .int x2), (3, .int x3)] [] w u 0 0 (Qv w r) := by
  rw [B_X1_bringIn_35] at h
  refine Viload_n C 2 (dAt D_X1_bringIn 22 rfl) rfl rfl ?_
  refine Vbipush (x := 24) C (dAt D_X1_bringIn 23 rfl) (by decide) ?_
  refine Virem C (dAt D_X1_bringIn 24 rfl) (by decide) ?_
  refine Vif_ne (tgt := 46) C (dAt D_X1_bringIn 25 rfl) (by decide) (fun c8 => ?_) (fun c8 => ?_)
  · have h := ok_f c8 h
    refine Vaload_n C 0 (dAt D_X1_bringIn 28 rfl) rfl rfl ?_
    refine VgetP C (dAt D_X1_bringIn 29 rfl) gf_X1_21 (hb).1 rfl (hb).2.2.2.2.2.2.2.2.1.1 ?_
    refine Viload_n C 3 (dAt D_X1_bringIn 30 rfl) rfl rfl ?_
    refine Vbipush (x := 12) C (dAt D_X1_bringIn 31 rfl) (by decide) ?_
    refine Visub C (dAt D_X1_bringIn 32 rfl) ?_
    obtain ⟨c9, h⟩ := ok_ck h
    refine Viald C (dAt D_X1_bringIn 33 rfl) (hb).2.2.2.2.2.2.2.2.1.2.1 (hb).2.2.2.2.2.2.2.2.1.2.2 (vp_in_iff.mpr c9) ?_
    exact Vsub [0, 1, 3] rfl (w_X1_bringIn_55 hL hb C  h)
  · have h := ok_t c8 h
    refine Viconst (x := 0) C (dAt D_X1_bringIn 26 rfl) (by decide) ?_
    refine Vgoto (tgt := 55) C (dAt D_X1_bringIn 27 rfl) (by decide) ?_
    exact Vsub [0, 1, 3] rfl (w_X1_bringIn_55 hL hb C  h)
def F_X1_bringIn (f : Nat) (b : Nat) (ts : Nat) (x1 : Int32) (x2 : Int32) (u : MT) : Option MT :=
  (F_X1_cell f x1 x2 u).bind fun r1 =>
  ck (ixo r1.1 2880) <|
  if (gI r1.2 (b + 1) (r1.1).toNatClampNeg) = (-1 : Int32) then
    if x2 ≤ 0 then
      B_X1_bringIn_35 f b ts x1 x2 r1.1 r1.2
    else
      ck (ixo (r1.1 - (12 : Int32)) 2880) <|
      let u7 := sI r1.2 (b + 1) (r1.1).toNatClampNeg (gI r1.2 (b + 1) ((r1.1 - (12 : Int32))).toNatClampNeg)
      B_X1_bringIn_35 f b ts x1 x2 r1.1 u7
  else
    B_X1_bringIn_35 f b ts x1 x2 r1.1 r1.2
theorem m_X1_bringIn {g : GT} {w : LT} (hL : Lay w) {b : Nat} {ts : Nat} {x1 : Int32} {x2 : Int32} {f : Nat} {u : MT} {r : MT} (hb : isBk w b ts) (h : F_X1_bringIn f b ts x1 x2 u = some r) : Mt g yX1_bringIn cX1_bringIn 5 none 2 0 0 [.ref b, .int x1, .int x2] w u (Qv w r) := by
  refine Mt_of (own := RX1) (by decide +kernel) rfl (Nat.le_of_ble_eq_true rfl) (fun z C _ => ?_)
  show V z g 5 0 [(0, .ref b), (1, .int x1), (2, .int x2)] [] w u 0 0 (Qv w r)
  rw [F_X1_bringIn] at h
  refine Viload_n C 1 (dAt D_X1_bringIn 0 rfl) rfl rfl ?_
  refine Viload_n C 2 (dAt D_X1_bringIn 1 rfl) rfl rfl ?_
  obtain ⟨r1, e2, h⟩ := ok_b h
  refine VcallS (as := [_, _]) C (dAt D_X1_bringIn 2 rfl) (m_X1_cell hL e2) yb_X1_81 ys_X1_81 rfl rfl (Nat.le_of_ble_eq_true rfl) (by decide) (by decide) (by decide) (by decide) (Kint ?_)
  refine Vistore_n (lv' := [(3, _), (0, _), (1, _), (2, _)]) C (dAt D_X1_bringIn 3 rfl) rfl (by decide) rfl ?_
  refine Vaload_n C 1 (dAt D_X1_bringIn 4 rfl) rfl rfl ?_
  refine VgetP C (dAt D_X1_bringIn 5 rfl) gf_X1_9 (hb).1 rfl (hb).2.2.2.2.2.1.1 ?_
  refine Viload_n C 0 (dAt D_X1_bringIn 6 rfl) rfl rfl ?_
  obtain ⟨c3, h⟩ := ok_ck h
  refine Viald C (dAt D_X1_bringIn 7 rfl) (hb).2.2.2.2.2.1.2.1 (hb).2.2.2.2.2.1.2.2 (vp_in_iff.mpr c3) ?_
  refine Viconst (x := (-1)) C (dAt D_X1_bringIn 8 rfl) (by decide) ?_
  refine Vicmp_ne (tgt := 35) C (dAt D_X1_bringIn 9 rfl) (by decide) (fun c4 => ?_) (fun c4 => ?_)
  · have h := ok_f c4 h
    exact Vsub [1, 2, 3, 0] rfl (w_X1_bringIn_35 hL hb C  h)
  · have h := ok_t c4 h
    refine Viload_n C 3 (dAt D_X1_bringIn 10 rfl) rfl rfl ?_
    refine Vif_le (tgt := 35) C (dAt D_X1_bringIn 11 rfl) (by decide) (fun c5 => ?_) (fun c5 => ?_)
    · have h := ok_t c5 h
      exact Vsub [1, 2, 3, 0] rfl (w_X1_bringIn_35 hL hb C  h)
    · have h := ok_f c5 h
      refine Vaload_n C 1 (dAt D_X1_bringIn 12 rfl) rfl rfl ?_
      refine VgetP C (dAt D_X1_bringIn 13 rfl) gf_X1_9 (hb).1 rfl (hb).2.2.2.2.2.1.1 ?_
      refine Viload_n C 0 (dAt D_X1_bringIn 14 rfl) rfl rfl ?_
      refine Vaload_n C 1 (dAt D_X1_bringIn 15 rfl) rfl rfl ?_
      refine VgetP C (dAt D_X1_bringIn 16 rfl) gf_X1_9 (hb).1 rfl (hb).2.2.2.2.2.1.1 ?_
      refine Viload_n C 0 (dAt D_X1_bringIn 17 rfl) rfl rfl ?_
      refine Vbipush (x := 12) C (dAt D_X1_bringIn 18 rfl) (by decide) ?_
      refine Visub C (dAt D_X1_bringIn 19 rfl) ?_
      obtain ⟨c6, h⟩ := ok_ck h
      refine Viald C (dAt D_X1_bringIn 20 rfl) (hb).2.2.2.2.2.1.2.1 (hb).2.2.2.2.2.1.2.2 (vp_in_iff.mpr c6) ?_
      refine Viast C (dAt D_X1_bringIn 21 rfl) (hb).2.2.2.2.2.1.2.1 (hb).2.2.2.2.2.1.2.2 (vp_in_iff.mpr c3) ?_
      exact Vsub [1, 2, 3, 0] rfl (w_X1_bringIn_35 hL hb C  h)
def B_X8_inForce_50 (w : LT) (f : Nat) (ts : Nat) (j5 : Int32 → Int32 → Nat → Int32 → MT → Option (Nat × MT)) (x1 : Int32) (x2 : Int32) (a3 : Nat) (x4 : Int32) (u : MT) : Option (Nat × MT) :=
  let v6 := x4 + 1
  j5 x1 x2 a3 v6 u
theorem w_X8_inForce_50 {z : ZT} {g : GT} {w : LT} (hL : Lay w) {ts : Nat} (hts : isTs w ts) (C : Cx z g cX8_inForce 5 RX8 (some (.object "SunVillage$Text")) 0 0 0) {f : Nat} {r : (Nat × MT)} {j5 : Int32 → Int32 → Nat → Int32 → MT → Option (Nat × MT)} (q5 : ∀ (x1 : Int32) (x2 : Int32) (a3 : Nat) (x4 : Int32) (u : MT), j5 x1 x2 a3 x4 u = some r → V z g 5 5 [(0, .ref ts), (1, .int x1), (2, .int x2), (3, .ref a3), (4, .int x4)] [] w u 0 0 (Qr r.1 w r.2)) {x1 : Int32} {x2 : Int32} {a3 : Nat} {x4 : Int32} {u : MT} (h : B_X8_inForce_50 w f ts j5 x1 x2 a3 x4 u = some r) : V z g 5 50 [(0, .ref ts), (1, .int x1), (2, .int x2), (3, .ref a3), (4, .int x4)] [] w u 0 0 (Qr r.1 w r.2) := by
  rw [B_X8_inForce_50] at h
  refine Viinc (j := 4) (v := _ + 1) (lv' := [(4, _), (0, _), (1, _), (2, _), (3, _)]) C (dAt D_X8_inForce 27 rfl) rfl rfl (by decide) rfl ?_
  refine Vgoto (tgt := 5) C (dAt D_X8_inForce 28 rfl) (by decide) ?_
  exact Vsub [1, 2, 3, 4, 0] rfl (q5 _ _ _ _ _  h)
def B_X8_inForce_5 (w : LT) (f : Nat) (ts : Nat) : Nat → Int32 → Int32 → Nat → Int32 → MT → Option (Nat × MT)
  | 0, _, _, _, _, _ => none
  | n + 1, x1, x2, a3, x4, u =>
    if (gI u ts 1) ≤ x4 then
      some (a3, u)
    else
      ck (ixo x4 6) <|
      ck (lt_t w (lt_p w (ts + 1) (x4).toNatClampNeg) = 7) <|
      if x1 < (gI u (lt_p w (ts + 1) (x4).toNatClampNeg) 5) then
        B_X8_inForce_50 w f ts (fun x1' x2' a3' x4' u' => B_X8_inForce_5 w f ts n x1' x2' a3' x4' u') x1 x2 a3 x4 u
      else
        if x2 < (gI u (lt_p w (ts + 1) (x4).toNatClampNeg) 6) then
          B_X8_inForce_50 w f ts (fun x1' x2' a3' x4' u' => B_X8_inForce_5 w f ts n x1' x2' a3' x4' u') x1 x2 a3 x4 u
        else
          B_X8_inForce_50 w f ts (fun x1' x2' a3' x4' u' => B_X8_inForce_5 w f ts n x1' x2' a3' x4' u') x1 x2 (lt_p w (ts + 1) (x4).toNatClampNeg) x4 u
theorem w_X8_inForce_5 {z : ZT} {g : GT} {w : LT} (hL : Lay w) {ts : Nat} (hts : isTs w ts) (C : Cx z g cX8_inForce 5 RX8 (some (.object "SunVillage$Text")) 0 0 0) {f : Nat} {r : (Nat × MT)} : ∀ (n : Nat) (x1 : Int32) (x2 : Int32) (a3 : Nat) (x4 : Int32) (u : MT), B_X8_inForce_5 w f ts n x1 x2 a3 x4 u = some r → V z g 5 5 [(0, .ref ts), (1, .int x1), (2, .int x2), (3, .ref a3), (4, .int x4)] [] w u 0 0 (Qr r.1 w r.2) := by
  intro n
  induction n with
  | zero =>
    intro x1 x2 a3 x4 u h
    rw [B_X8_inForce_5] at h
    cases h
  | succ n ih =>
    intro x1 x2 a3 x4 u h
    rw [B_X8_inForce_5] at h
    refine Viload C 4 (dAt D_X8_inForce 4 rfl) rfl ?_
    refine Vaload_n C 0 (dAt D_X8_inForce 5 rfl) rfl rfl ?_
    refine VgetI C (dAt D_X8_inForce 6 rfl) gf_X8_17 (hts).1 rfl ?_
    refine Vicmp_ge (tgt := 56) C (dAt D_X8_inForce 7 rfl) (by decide) (fun c1 => ?_) (fun c1 => ?_)
    · have h := ok_t c1 h
      refine Vaload_n C 3 (dAt D_X8_inForce 29 rfl) rfl rfl ?_
      cases h
      exact Varet C (dAt D_X8_inForce 30 rfl) (by decide) (by decide) ⟨rfl, rfl, rfl⟩
    · have h := ok_f c1 h
      refine Vaload_n C 0 (dAt D_X8_inForce 8 rfl) rfl rfl ?_
      refine VgetP C (dAt D_X8_inForce 9 rfl) gf_X8_11 (hts).1 rfl (hts).2.1 ?_
      refine Viload C 4 (dAt D_X8_inForce 10 rfl) rfl ?_
      obtain ⟨c2, h⟩ := ok_ck h
      refine VaaldP C (dAt D_X8_inForce 11 rfl) (Or.inr rfl) (hts).2.2.1 (hts).2.2.2 (vp_in_iff.mpr c2) rfl ?_
      obtain ⟨c3, h⟩ := ok_ck h
      refine VgetI C (dAt D_X8_inForce 12 rfl) gf_X8_21 ((hL.2.2.1 _ c3)).1 rfl ?_
      refine Viload_n C 1 (dAt D_X8_inForce 13 rfl) rfl rfl ?_
      refine Vicmp_gt (tgt := 50) C (dAt D_X8_inForce 14 rfl) (by decide) (fun c4 => ?_) (fun c4 => ?_)
      · have h := ok_t c4 h
        exact Vsub [0, 1, 2, 3, 4] rfl (w_X8_inForce_50 hL hts C ih  h)
      · have h := ok_f c4 h
        refine Vaload_n C 0 (dAt D_X8_inForce 15 rfl) rfl rfl ?_
        refine VgetP C (dAt D_X8_inForce 16 rfl) gf_X8_11 (hts).1 rfl (hts).2.1 ?_
        refine Viload C 4 (dAt D_X8_inForce 17 rfl) rfl ?_
        refine VaaldP C (dAt D_X8_inForce 18 rfl) (Or.inr rfl) (hts).2.2.1 (hts).2.2.2 (vp_in_iff.mpr c2) rfl ?_
        refine VgetI C (dAt D_X8_inForce 19 rfl) gf_X8_24 ((hL.2.2.1 _ c3)).1 rfl ?_
        refine Viload_n C 2 (dAt D_X8_inForce 20 rfl) rfl rfl ?_
        refine Vicmp_gt (tgt := 50) C (dAt D_X8_inForce 21 rfl) (by decide) (fun c5 => ?_) (fun c5 => ?_)
        · have h := ok_t c5 h
          exact Vsub [0, 1, 2, 3, 4] rfl (w_X8_inForce_50 hL hts C ih  h)
        · have h := ok_f c5 h
          refine Vaload_n C 0 (dAt D_X8_inForce 22 rfl) rfl rfl ?_
          refine VgetP C (dAt D_X8_inForce 23 rfl) gf_X8_11 (hts).1 rfl (hts).2.1 ?_
          refine Viload C 4 (dAt D_X8_inForce 24 rfl) rfl ?_
          refine VaaldP C (dAt D_X8_inForce 25 rfl) (Or.inr rfl) (hts).2.2.1 (hts).2.2.2 (vp_in_iff.mpr c2) rfl ?_
          refine Vastore_n (lv' := [(3, _), (0, _), (1, _), (2, _), (4, _)]) C (dAt D_X8_inForce 26 rfl) rfl (by decide) rfl ?_
          exact Vsub [1, 2, 3, 0, 4] rfl (w_X8_inForce_50 hL hts C ih  h)
def F_X8_inForce (w : LT) (f : Nat) (ts : Nat) (x1 : Int32) (x2 : Int32) (u : MT) : Option (Nat × MT) :=
  B_X8_inForce_5 w f ts f x1 x2 0 (0 : Int32) u
theorem m_X8_inForce {g : GT} {w : LT} (hL : Lay w) {ts : Nat} {x1 : Int32} {x2 : Int32} {f : Nat} {u : MT} {r : (Nat × MT)} (hts : isTs w ts) (h : F_X8_inForce w f ts x1 x2 u = some r) : Mt g yX8_inForce cX8_inForce 5 (some (.object "SunVillage$Text")) 0 0 0 [.ref ts, .int x1, .int x2] w u (Qr r.1 w r.2) := by
  refine Mt_of (own := RX8) (by decide +kernel) rfl (Nat.le_of_ble_eq_true rfl) (fun z C _ => ?_)
  show V z g 5 0 [(0, .ref ts), (1, .int x1), (2, .int x2)] [] w u 0 0 (Qr r.1 w r.2)
  rw [F_X8_inForce] at h
  refine Vnull C (dAt D_X8_inForce 0 rfl) ?_
  refine Vastore_n (lv' := [(3, _), (0, _), (1, _), (2, _)]) C (dAt D_X8_inForce 1 rfl) rfl (by decide) rfl ?_
  refine Viconst (x := 0) C (dAt D_X8_inForce 2 rfl) (by decide) ?_
  refine Vistore (lv' := [(4, _), (3, _), (0, _), (1, _), (2, _)]) C (dAt D_X8_inForce 3 rfl) (by decide) rfl ?_
  exact Vsub [2, 3, 4, 1, 0] rfl (w_X8_inForce_5 hL hts C  f _ _ _ _ _  h)
def B_X10_joined_61 (f : Nat) (s0 : Int32) (u : MT) : Option (Int32 × MT) :=
  if s0 = 0 then
    some ((0 : Int32), u)
  else
    some ((1 : Int32), u)
theorem w_X10_joined_61 {z : ZT} {g : GT} {w : LT} (hL : Lay w) (C : Cx z g cX10_joined 4 RX10 (some .int) 0 0 0) {f : Nat} {r : (Int32 × MT)} {s0 : Int32} {u : MT} (h : B_X10_joined_61 f s0 u = some r) : V z g 4 61 [] [.int s0] w u 0 0 (Qi r.1 w r.2) := by
  rw [B_X10_joined_61] at h
  refine Vistore_n (lv' := [(3, _)]) C (dAt D_X10_joined 33 rfl) rfl (by decide) rfl ?_
  refine Viload_n C 0 (dAt D_X10_joined 34 rfl) rfl rfl ?_
  refine Vif_eq (tgt := 70) C (dAt D_X10_joined 35 rfl) (by decide) (fun c6 => ?_) (fun c6 => ?_)
  · have h := ok_t c6 h
    refine Viconst (x := 0) C (dAt D_X10_joined 38 rfl) (by decide) ?_
    cases h
    exact Viret C (dAt D_X10_joined 39 rfl) (by decide) (by decide) ⟨rfl, rfl, rfl⟩
  · have h := ok_f c6 h
    refine Viconst (x := 1) C (dAt D_X10_joined 36 rfl) (by decide) ?_
    refine Vgoto (tgt := 71) C (dAt D_X10_joined 37 rfl) (by decide) ?_
    cases h
    exact Viret C (dAt D_X10_joined 39 rfl) (by decide) (by decide) ⟨rfl, rfl, rfl⟩
def F_X10_joined (f : Nat) (x0 : Int32) (x1 : Int32) (x2 : Int32) (u : MT) : Option (Int32 × MT) :=
  if x0 = (tkC.getD (12 - 1) 0) then
    some ((x1 + x2), u)
  else
    if x0 = (tkC.getD (13 - 1) 0) then
      some ((x1 - x2), u)
    else
      if x0 = (tkC.getD (14 - 1) 0) then
        if x2 ≤ x1 then
          B_X10_joined_61 f (0 : Int32) u
        else
          B_X10_joined_61 f (1 : Int32) u
      else
        if x1 = x2 then
          B_X10_joined_61 f (1 : Int32) u
        else
          B_X10_joined_61 f (0 : Int32) u
theorem m_X10_joined {g : GT} {w : LT} (hL : Lay w) {x0 : Int32} {x1 : Int32} {x2 : Int32} {f : Nat} {u : MT} {r : (Int32 × MT)} (h : F_X10_joined f x0 x1 x2 u = some r) : Mt g yX10_joined cX10_joined 4 (some .int) 0 0 0 [.int x0, .int x1, .int x2] w u (Qi r.1 w r.2) := by
  refine Mt_of (own := RX10) (by decide +kernel) rfl (Nat.le_of_ble_eq_true rfl) (fun z C _ => ?_)
  show V z g 4 0 [(0, .int x0), (1, .int x1), (2, .int x2)] [] w u 0 0 (Qi r.1 w r.2)
  rw [F_X10_joined] at h
  refine Viload_n C 0 (dAt D_X10_joined 0 rfl) rfl rfl ?_
  refine Vtok (i := 11) (x := 12) C (dAt D_X10_joined 1 rfl) gs_X10_156 (by decide) rfl rfl ?_
  refine Vtokc C (dAt D_X10_joined 2 rfl) gt_X10_159 (by decide) (by decide) ?_
  refine Vicmp_ne (tgt := 14) C (dAt D_X10_joined 3 rfl) (by decide) (fun c1 => ?_) (fun c1 => ?_)
  · have h := ok_f c1 h
    refine Viload_n C 0 (dAt D_X10_joined 8 rfl) rfl rfl ?_
    refine Vtok (i := 12) (x := 13) C (dAt D_X10_joined 9 rfl) gs_X10_168 (by decide) rfl rfl ?_
    refine Vtokc C (dAt D_X10_joined 10 rfl) gt_X10_159 (by decide) (by decide) ?_
    refine Vicmp_ne (tgt := 28) C (dAt D_X10_joined 11 rfl) (by decide) (fun c2 => ?_) (fun c2 => ?_)
    · have h := ok_f c2 h
      refine Viload_n C 0 (dAt D_X10_joined 16 rfl) rfl rfl ?_
      refine Vtok (i := 13) (x := 14) C (dAt D_X10_joined 17 rfl) gs_X10_171 (by decide) rfl rfl ?_
      refine Vtokc C (dAt D_X10_joined 18 rfl) gt_X10_159 (by decide) (by decide) ?_
      refine Vicmp_ne (tgt := 51) C (dAt D_X10_joined 19 rfl) (by decide) (fun c3 => ?_) (fun c3 => ?_)
      · have h := ok_f c3 h
        refine Viload_n C 1 (dAt D_X10_joined 27 rfl) rfl rfl ?_
        refine Viload_n C 2 (dAt D_X10_joined 28 rfl) rfl rfl ?_
        refine Vicmp_ne (tgt := 60) C (dAt D_X10_joined 29 rfl) (by decide) (fun c5 => ?_) (fun c5 => ?_)
        · have h := ok_f c5 h
          refine Viconst (x := 0) C (dAt D_X10_joined 32 rfl) (by decide) ?_
          exact Vsub [] rfl (w_X10_joined_61 hL C  h)
        · have h := ok_t c5 h
          refine Viconst (x := 1) C (dAt D_X10_joined 30 rfl) (by decide) ?_
          refine Vgoto (tgt := 61) C (dAt D_X10_joined 31 rfl) (by decide) ?_
          exact Vsub [] rfl (w_X10_joined_61 hL C  h)
      · have h := ok_t c3 h
        refine Viload_n C 1 (dAt D_X10_joined 20 rfl) rfl rfl ?_
        refine Viload_n C 2 (dAt D_X10_joined 21 rfl) rfl rfl ?_
        refine Vicmp_ge (tgt := 47) C (dAt D_X10_joined 22 rfl) (by decide) (fun c4 => ?_) (fun c4 => ?_)
        · have h := ok_t c4 h
          refine Viconst (x := 0) C (dAt D_X10_joined 25 rfl) (by decide) ?_
          refine Vgoto (tgt := 61) C (dAt D_X10_joined 26 rfl) (by decide) ?_
          exact Vsub [] rfl (w_X10_joined_61 hL C  h)
        · have h := ok_f c4 h
          refine Viconst (x := 1) C (dAt D_X10_joined 23 rfl) (by decide) ?_
          refine Vgoto (tgt := 61) C (dAt D_X10_joined 24 rfl) (by decide) ?_
          exact Vsub [] rfl (w_X10_joined_61 hL C  h)
    · have h := ok_t c2 h
      refine Viload_n C 1 (dAt D_X10_joined 12 rfl) rfl rfl ?_
      refine Viload_n C 2 (dAt D_X10_joined 13 rfl) rfl rfl ?_
      refine Visub C (dAt D_X10_joined 14 rfl) ?_
      cases h
      exact Viret C (dAt D_X10_joined 15 rfl) (by decide) (by decide) ⟨rfl, rfl, rfl⟩
  · have h := ok_t c1 h
    refine Viload_n C 1 (dAt D_X10_joined 4 rfl) rfl rfl ?_
    refine Viload_n C 2 (dAt D_X10_joined 5 rfl) rfl rfl ?_
    refine Viadd C (dAt D_X10_joined 6 rfl) ?_
    cases h
    exact Viret C (dAt D_X10_joined 7 rfl) (by decide) (by decide) ⟨rfl, rfl, rfl⟩
def B_X10_wantOfAll_4 (f : Nat) : Nat → Int32 → Int32 → MT → Option (Int32 × MT)
  | 0, _, _, _ => none
  | n + 1, x1, x2, u =>
    if (gI u 101 2) ≤ x2 then
      some (x1, u)
    else
      ck (ixo x2 12) <|
      let v3 := (x1 + (gI u 117 (x2).toNatClampNeg))
      let v4 := x2 + 1
      B_X10_wantOfAll_4 f n v3 v4 u
theorem w_X10_wantOfAll_4 {z : ZT} {g : GT} {w : LT} (hL : Lay w) (C : Cx z g cX10_wantOfAll 3 RX10 (some .int) 0 0 0) {f : Nat} {r : (Int32 × MT)} : ∀ (n : Nat) (x1 : Int32) (x2 : Int32) (u : MT), B_X10_wantOfAll_4 f n x1 x2 u = some r → V z g 3 4 [(0, .ref 116), (1, .int x1), (2, .int x2)] [] w u 0 0 (Qi r.1 w r.2) := by
  intro n
  induction n with
  | zero =>
    intro x1 x2 u h
    rw [B_X10_wantOfAll_4] at h
    cases h
  | succ n ih =>
    intro x1 x2 u h
    rw [B_X10_wantOfAll_4] at h
    refine Viload_n C 2 (dAt D_X10_wantOfAll 4 rfl) rfl rfl ?_
    refine Vaload_n C 0 (dAt D_X10_wantOfAll 5 rfl) rfl rfl ?_
    refine VgetP C (dAt D_X10_wantOfAll 6 rfl) gf_X10_46 (kt_116 hL) rfl (kp_116_0 hL) ?_
    refine VgetI C (dAt D_X10_wantOfAll 7 rfl) gf_X10_137 (kt_101 hL) rfl ?_
    refine Vicmp_ge (tgt := 30) C (dAt D_X10_wantOfAll 8 rfl) (by decide) (fun c1 => ?_) (fun c1 => ?_)
    · have h := ok_t c1 h
      refine Viload_n C 1 (dAt D_X10_wantOfAll 18 rfl) rfl rfl ?_
      cases h
      exact Viret C (dAt D_X10_wantOfAll 19 rfl) (by decide) (by decide) ⟨rfl, rfl, rfl⟩
    · have h := ok_f c1 h
      refine Viload_n C 1 (dAt D_X10_wantOfAll 9 rfl) rfl rfl ?_
      refine Vaload_n C 0 (dAt D_X10_wantOfAll 10 rfl) rfl rfl ?_
      refine VgetP C (dAt D_X10_wantOfAll 11 rfl) gf_X10_9 (kt_116 hL) rfl (kp_116_6 hL) ?_
      refine Viload_n C 2 (dAt D_X10_wantOfAll 12 rfl) rfl rfl ?_
      obtain ⟨c2, h⟩ := ok_ck h
      refine Viald C (dAt D_X10_wantOfAll 13 rfl) (kt_117 hL) (kl_117 hL) (vp_in_iff.mpr c2) ?_
      refine Viadd C (dAt D_X10_wantOfAll 14 rfl) ?_
      refine Vistore_n (lv' := [(1, _), (0, _), (2, _)]) C (dAt D_X10_wantOfAll 15 rfl) rfl (by decide) rfl ?_
      refine Viinc (j := 2) (v := _ + 1) (lv' := [(2, _), (1, _), (0, _)]) C (dAt D_X10_wantOfAll 16 rfl) rfl rfl (by decide) rfl ?_
      refine Vgoto (tgt := 4) C (dAt D_X10_wantOfAll 17 rfl) (by decide) ?_
      exact Vsub [2, 1, 0] rfl (ih _ _ _  h)
def F_X10_wantOfAll (f : Nat) (u : MT) : Option (Int32 × MT) :=
  B_X10_wantOfAll_4 f f (0 : Int32) (0 : Int32) u
theorem m_X10_wantOfAll {g : GT} {w : LT} (hL : Lay w) {f : Nat} {u : MT} {r : (Int32 × MT)} (h : F_X10_wantOfAll f  u = some r) : Mt g yX10_wantOfAll cX10_wantOfAll 3 (some .int) 0 0 0 [.ref 116] w u (Qi r.1 w r.2) := by
  refine Mt_of (own := RX10) (by decide +kernel) rfl (Nat.le_of_ble_eq_true rfl) (fun z C _ => ?_)
  show V z g 3 0 [(0, .ref 116)] [] w u 0 0 (Qi r.1 w r.2)
  rw [F_X10_wantOfAll] at h
  refine Viconst (x := 0) C (dAt D_X10_wantOfAll 0 rfl) (by decide) ?_
  refine Vistore_n (lv' := [(1, _), (0, _)]) C (dAt D_X10_wantOfAll 1 rfl) rfl (by decide) rfl ?_
  refine Viconst (x := 0) C (dAt D_X10_wantOfAll 2 rfl) (by decide) ?_
  refine Vistore_n (lv' := [(2, _), (1, _), (0, _)]) C (dAt D_X10_wantOfAll 3 rfl) rfl (by decide) rfl ?_
  exact Vsub [2, 1, 0] rfl (w_X10_wantOfAll_4 hL C  f _ _ _  h)
def F_X10_measured (f : Nat) (x1 : Int32) (u : MT) : Option (Int32 × MT) :=
  if x1 = (tkC.getD (7 - 1) 0) then
    some (((gI u 116 3) - (gI u 116 3) / (24 : Int32) * (24 : Int32)), u)
  else
    if x1 = (tkC.getD (8 - 1) 0) then
      some (((gI u 116 3) / (24 : Int32)), u)
    else
      if x1 = (tkC.getD (9 - 1) 0) then
        some ((gI u 116 4), u)
      else
        if x1 = (tkC.getD (10 - 1) 0) then
          some ((gI u 116 5), u)
        else
          (F_X10_wantOfAll f u).bind fun r5 =>
          some (r5.1, r5.2)
theorem m_X10_measured {g : GT} {w : LT} (hL : Lay w) {x1 : Int32} {f : Nat} {u : MT} {r : (Int32 × MT)} (h : F_X10_measured f x1 u = some r) : Mt g yX10_measured cX10_measured 2 (some .int) 1 0 0 [.ref 116, .int x1] w u (Qi r.1 w r.2) := by
  refine Mt_of (own := RX10) (by decide +kernel) rfl (Nat.le_of_ble_eq_true rfl) (fun z C _ => ?_)
  show V z g 2 0 [(0, .ref 116), (1, .int x1)] [] w u 0 0 (Qi r.1 w r.2)
  rw [F_X10_measured] at h
  refine Viload_n C 1 (dAt D_X10_measured 0 rfl) rfl rfl ?_
  refine Vtok (i := 6) (x := 7) C (dAt D_X10_measured 1 rfl) gs_X10_174 (by decide) rfl rfl ?_
  refine Vtokc C (dAt D_X10_measured 2 rfl) gt_X10_159 (by decide) (by decide) ?_
  refine Vicmp_ne (tgt := 18) C (dAt D_X10_measured 3 rfl) (by decide) (fun c1 => ?_) (fun c1 => ?_)
  · have h := ok_f c1 h
    refine Viload_n C 1 (dAt D_X10_measured 9 rfl) rfl rfl ?_
    refine Vtok (i := 7) (x := 8) C (dAt D_X10_measured 10 rfl) gs_X10_177 (by decide) rfl rfl ?_
    refine Vtokc C (dAt D_X10_measured 11 rfl) gt_X10_159 (by decide) (by decide) ?_
    refine Vicmp_ne (tgt := 36) C (dAt D_X10_measured 12 rfl) (by decide) (fun c2 => ?_) (fun c2 => ?_)
    · have h := ok_f c2 h
      refine Viload_n C 1 (dAt D_X10_measured 18 rfl) rfl rfl ?_
      refine Vtok (i := 8) (x := 9) C (dAt D_X10_measured 19 rfl) gs_X10_130 (by decide) rfl rfl ?_
      refine Vtokc C (dAt D_X10_measured 20 rfl) gt_X10_159 (by decide) (by decide) ?_
      refine Vicmp_ne (tgt := 51) C (dAt D_X10_measured 21 rfl) (by decide) (fun c3 => ?_) (fun c3 => ?_)
      · have h := ok_f c3 h
        refine Viload_n C 1 (dAt D_X10_measured 25 rfl) rfl rfl ?_
        refine Vtok (i := 9) (x := 10) C (dAt D_X10_measured 26 rfl) gs_X10_180 (by decide) rfl rfl ?_
        refine Vtokc C (dAt D_X10_measured 27 rfl) gt_X10_159 (by decide) (by decide) ?_
        refine Vicmp_ne (tgt := 68) C (dAt D_X10_measured 28 rfl) (by decide) (fun c4 => ?_) (fun c4 => ?_)
        · have h := ok_f c4 h
          refine Vaload_n C 0 (dAt D_X10_measured 32 rfl) rfl rfl ?_
          obtain ⟨r5, e6, h⟩ := ok_b h
          refine VcallV (as := []) C (dAt D_X10_measured 33 rfl) (m_X10_wantOfAll hL e6) yv_X10_183 (Or.inl ⟨(kt_116 hL), by decide⟩) rfl rfl (Nat.le_of_ble_eq_true rfl) (by decide) (by decide) (by decide) (by decide) (Kint ?_)
          cases h
          exact Viret C (dAt D_X10_measured 34 rfl) (by decide) (by decide) ⟨rfl, rfl, rfl⟩
        · have h := ok_t c4 h
          refine Vaload_n C 0 (dAt D_X10_measured 29 rfl) rfl rfl ?_
          refine VgetI C (dAt D_X10_measured 30 rfl) gf_X10_69 (kt_116 hL) rfl ?_
          refine Vgoto (tgt := 72) C (dAt D_X10_measured 31 rfl) (by decide) ?_
          cases h
          exact Viret C (dAt D_X10_measured 34 rfl) (by decide) (by decide) ⟨rfl, rfl, rfl⟩
      · have h := ok_t c3 h
        refine Vaload_n C 0 (dAt D_X10_measured 22 rfl) rfl rfl ?_
        refine VgetI C (dAt D_X10_measured 23 rfl) gf_X10_66 (kt_116 hL) rfl ?_
        cases h
        exact Viret C (dAt D_X10_measured 24 rfl) (by decide) (by decide) ⟨rfl, rfl, rfl⟩
    · have h := ok_t c2 h
      refine Vaload_n C 0 (dAt D_X10_measured 13 rfl) rfl rfl ?_
      refine VgetI C (dAt D_X10_measured 14 rfl) gf_X10_57 (kt_116 hL) rfl ?_
      refine Vbipush (x := 24) C (dAt D_X10_measured 15 rfl) (by decide) ?_
      refine Vidiv C (dAt D_X10_measured 16 rfl) (by decide) ?_
      cases h
      exact Viret C (dAt D_X10_measured 17 rfl) (by decide) (by decide) ⟨rfl, rfl, rfl⟩
  · have h := ok_t c1 h
    refine Vaload_n C 0 (dAt D_X10_measured 4 rfl) rfl rfl ?_
    refine VgetI C (dAt D_X10_measured 5 rfl) gf_X10_57 (kt_116 hL) rfl ?_
    refine Vbipush (x := 24) C (dAt D_X10_measured 6 rfl) (by decide) ?_
    refine Virem C (dAt D_X10_measured 7 rfl) (by decide) ?_
    cases h
    exact Viret C (dAt D_X10_measured 8 rfl) (by decide) (by decide) ⟨rfl, rfl, rfl⟩
def B_X10_value_107 (f : Nat) (j6 : Nat → Int32 → Int32 → Int32 → MT → Option (Int32 × MT)) (a1 : Nat) (x3 : Int32) (x4 : Int32) (x5 : Int32) (u : MT) : Option (Int32 × MT) :=
  let v16 := x5 + 1
  j6 a1 x3 x4 v16 u
theorem w_X10_value_107 {z : ZT} {g : GT} {w : LT} (hL : Lay w) (C : Cx z g cX10_value 7 RX10 (some .int) 2 0 0) {f : Nat} {r : (Int32 × MT)} {j6 : Nat → Int32 → Int32 → Int32 → MT → Option (Int32 × MT)} (q6 : ∀ (a1 : Nat) (x3 : Int32) (x4 : Int32) (x5 : Int32) (u : MT), isTx w a1 → j6 a1 x3 x4 x5 u = some r → V z g 7 6 [(0, .ref 116), (1, .ref a1), (3, .int x3), (4, .int x4), (5, .int x5)] [] w u 0 0 (Qi r.1 w r.2)) {a1 : Nat} {x3 : Int32} {x4 : Int32} {x5 : Int32} {u : MT} (k1 : isTx w a1) (h : B_X10_value_107 f j6 a1 x3 x4 x5 u = some r) : V z g 7 107 [(0, .ref 116), (1, .ref a1), (3, .int x3), (4, .int x4), (5, .int x5)] [] w u 0 0 (Qi r.1 w r.2) := by
  rw [B_X10_value_107] at h
  refine Viinc (j := 4) (v := _ + 1) (lv' := [(5, _), (0, _), (1, _), (3, _), (4, _)]) C (dAt D_X10_value 54 rfl) rfl rfl (by decide) rfl ?_
  refine Vgoto (tgt := 6) C (dAt D_X10_value 55 rfl) (by decide) ?_
  exact Vsub [1, 2, 3, 4, 0] rfl (q6 _ _ _ _ _ k1 h)
def B_X10_value_103 (f : Nat) (j6 : Nat → Int32 → Int32 → Int32 → MT → Option (Int32 × MT)) (a1 : Nat) (x3 : Int32) (x4 : Int32) (x5 : Int32) (s0 : Int32) (s1 : Int32) (u : MT) : Option (Int32 × MT) :=
  ck (ixo s1 14) <|
  let u18 := sI u 125 (s1).toNatClampNeg s0
  let v19 := x4 + 1
  B_X10_value_107 f j6 a1 x3 v19 x5 u18
theorem w_X10_value_103 {z : ZT} {g : GT} {w : LT} (hL : Lay w) (C : Cx z g cX10_value 7 RX10 (some .int) 2 0 0) {f : Nat} {r : (Int32 × MT)} {j6 : Nat → Int32 → Int32 → Int32 → MT → Option (Int32 × MT)} (q6 : ∀ (a1 : Nat) (x3 : Int32) (x4 : Int32) (x5 : Int32) (u : MT), isTx w a1 → j6 a1 x3 x4 x5 u = some r → V z g 7 6 [(0, .ref 116), (1, .ref a1), (3, .int x3), (4, .int x4), (5, .int x5)] [] w u 0 0 (Qi r.1 w r.2)) {a1 : Nat} {x3 : Int32} {x4 : Int32} {x5 : Int32} {s0 : Int32} {s1 : Int32} {u : MT} (k1 : isTx w a1) (h : B_X10_value_103 f j6 a1 x3 x4 x5 s0 s1 u = some r) : V z g 7 103 [(0, .ref 116), (1, .ref a1), (3, .int x3), (4, .int x4), (5, .int x5)] [.int s0, .int s1, .ref 125] w u 0 0 (Qi r.1 w r.2) := by
  rw [B_X10_value_103] at h
  obtain ⟨c17, h⟩ := ok_ck h
  refine Viast C (dAt D_X10_value 52 rfl) (kt_125 hL) (kl_125 hL) (vp_in_iff.mpr c17) ?_
  refine Viinc (j := 3) (v := _ + 1) (lv' := [(4, _), (0, _), (1, _), (3, _), (5, _)]) C (dAt D_X10_value 53 rfl) rfl rfl (by decide) rfl ?_
  exact Vsub [1, 2, 3, 0, 4] rfl (w_X10_value_107 hL C q6 k1 h)
def B_X10_value_6 (f : Nat) : Nat → Nat → Int32 → Int32 → Int32 → MT → Option (Int32 × MT)
  | 0, _, _, _, _, _ => none
  | n + 1, a1, x3, x4, x5, u =>
    if x3 ≤ x5 then
      some ((gI u 125 0), u)
    else
      ck (ixo x5 1200) <|
      let v3 := (gI u (a1 + 2) (x5).toNatClampNeg)
      if (tkC.getD (12 - 1) 0) < v3 then
        if (14 : Int32) ≤ x4 then
          B_X10_value_107 f (fun a1' x3' x4' x5' u' => B_X10_value_6 f n a1' x3' x4' x5' u') a1 x3 x4 x5 u
        else
          if v3 < 0 then
            (F_X10_measured f v3 u).bind fun r7 =>
            B_X10_value_103 f (fun a1' x3' x4' x5' u' => B_X10_value_6 f n a1' x3' x4' x5' u') a1 x3 x4 x5 r7.1 x4 r7.2
          else
            B_X10_value_103 f (fun a1' x3' x4' x5' u' => B_X10_value_6 f n a1' x3' x4' x5' u') a1 x3 x4 x5 v3 x4 u
      else
        if x4 < (2 : Int32) then
          B_X10_value_107 f (fun a1' x3' x4' x5' u' => B_X10_value_6 f n a1' x3' x4' x5' u') a1 x3 x4 x5 u
        else
          let v10 := x4 + (-1)
          ck (ixo (v10 - (1 : Int32)) 14) <|
          ck (ixo v10 14) <|
          (F_X10_joined f v3 (gI u 125 ((v10 - (1 : Int32))).toNatClampNeg) (gI u 125 (v10).toNatClampNeg) u).bind fun r13 =>
          let u15 := sI r13.2 125 ((v10 - (1 : Int32))).toNatClampNeg r13.1
          B_X10_value_107 f (fun a1' x3' x4' x5' u' => B_X10_value_6 f n a1' x3' x4' x5' u') a1 x3 v10 x5 u15
theorem w_X10_value_6 {z : ZT} {g : GT} {w : LT} (hL : Lay w) (C : Cx z g cX10_value 7 RX10 (some .int) 2 0 0) {f : Nat} {r : (Int32 × MT)} : ∀ (n : Nat) (a1 : Nat) (x3 : Int32) (x4 : Int32) (x5 : Int32) (u : MT), isTx w a1 → B_X10_value_6 f n a1 x3 x4 x5 u = some r → V z g 7 6 [(0, .ref 116), (1, .ref a1), (3, .int x3), (4, .int x4), (5, .int x5)] [] w u 0 0 (Qi r.1 w r.2) := by
  intro n
  induction n with
  | zero =>
    intro a1 x3 x4 x5 u k1 h
    rw [B_X10_value_6] at h
    cases h
  | succ n ih =>
    intro a1 x3 x4 x5 u k1 h
    rw [B_X10_value_6] at h
    refine Viload C 4 (dAt D_X10_value 4 rfl) rfl ?_
    refine Viload_n C 2 (dAt D_X10_value 5 rfl) rfl rfl ?_
    refine Vicmp_ge (tgt := 113) C (dAt D_X10_value 6 rfl) (by decide) (fun c1 => ?_) (fun c1 => ?_)
    · have h := ok_t c1 h
      refine Vaload_n C 0 (dAt D_X10_value 56 rfl) rfl rfl ?_
      refine VgetP C (dAt D_X10_value 57 rfl) gf_X10_37 (kt_116 hL) rfl (kp_116_15 hL) ?_
      refine Viconst (x := 0) C (dAt D_X10_value 58 rfl) (by decide) ?_
      refine VialdC 0 C (dAt D_X10_value 59 rfl) (kt_125 hL) (kl_125 hL) (by decide) rfl ?_
      cases h
      exact Viret C (dAt D_X10_value 60 rfl) (by decide) (by decide) ⟨rfl, rfl, rfl⟩
    · have h := ok_f c1 h
      refine Vaload_n C 1 (dAt D_X10_value 7 rfl) rfl rfl ?_
      refine VgetP C (dAt D_X10_value 8 rfl) gf_X10_153 (k1).1 rfl (k1).2.2.2.2.1 ?_
      refine Viload C 4 (dAt D_X10_value 9 rfl) rfl ?_
      obtain ⟨c2, h⟩ := ok_ck h
      refine Viald C (dAt D_X10_value 10 rfl) (k1).2.2.2.2.2.1 (k1).2.2.2.2.2.2.1 (vp_in_iff.mpr c2) ?_
      refine Vistore (lv' := [(6, _), (0, _), (1, _), (3, _), (4, _), (5, _)]) C (dAt D_X10_value 11 rfl) (by decide) rfl ?_
      refine Viload C 0 (dAt D_X10_value 12 rfl) rfl ?_
      refine Vtok (i := 11) (x := 12) C (dAt D_X10_value 13 rfl) gs_X10_156 (by decide) rfl rfl ?_
      refine Vtokc C (dAt D_X10_value 14 rfl) gt_X10_159 (by decide) (by decide) ?_
      refine Vicmp_gt (tgt := 74) C (dAt D_X10_value 15 rfl) (by decide) (fun c4 => ?_) (fun c4 => ?_)
      · have h := ok_t c4 h
        refine Viload C 4 (dAt D_X10_value 39 rfl) rfl ?_
        refine Vbipush (x := 14) C (dAt D_X10_value 40 rfl) (by decide) ?_
        refine Vicmp_ge (tgt := 107) C (dAt D_X10_value 41 rfl) (by decide) (fun c5 => ?_) (fun c5 => ?_)
        · have h := ok_t c5 h
          exact Vsub [1, 2, 3, 4, 5] rfl (w_X10_value_107 hL C ih k1 h)
        · have h := ok_f c5 h
          refine Vaload_n C 1 (dAt D_X10_value 42 rfl) rfl rfl ?_
          refine VgetP C (dAt D_X10_value 43 rfl) gf_X10_37 (kt_116 hL) rfl (kp_116_15 hL) ?_
          refine Viload C 4 (dAt D_X10_value 44 rfl) rfl ?_
          refine Viload C 0 (dAt D_X10_value 45 rfl) rfl ?_
          refine Vif_lt (tgt := 97) C (dAt D_X10_value 46 rfl) (by decide) (fun c6 => ?_) (fun c6 => ?_)
          · have h := ok_t c6 h
            refine Vaload_n C 1 (dAt D_X10_value 49 rfl) rfl rfl ?_
            refine Viload C 0 (dAt D_X10_value 50 rfl) rfl ?_
            obtain ⟨r7, e8, h⟩ := ok_b h
            refine VcallV (as := [_]) C (dAt D_X10_value 51 rfl) (m_X10_measured hL e8) yv_X10_165 (Or.inl ⟨(kt_116 hL), by decide⟩) rfl rfl (Nat.le_of_ble_eq_true rfl) (by decide) (by decide) (by decide) (by decide) (Kint ?_)
            exact Vsub [1, 2, 3, 4, 5] rfl (w_X10_value_103 hL C ih k1 h)
          · have h := ok_f c6 h
            refine Viload C 0 (dAt D_X10_value 47 rfl) rfl ?_
            refine Vgoto (tgt := 103) C (dAt D_X10_value 48 rfl) (by decide) ?_
            exact Vsub [1, 2, 3, 4, 5] rfl (w_X10_value_103 hL C ih k1 h)
      · have h := ok_f c4 h
        refine Viload C 4 (dAt D_X10_value 16 rfl) rfl ?_
        refine Viconst (x := 2) C (dAt D_X10_value 17 rfl) (by decide) ?_
        refine Vicmp_lt (tgt := 107) C (dAt D_X10_value 18 rfl) (by decide) (fun c9 => ?_) (fun c9 => ?_)
        · have h := ok_t c9 h
          exact Vsub [1, 2, 3, 4, 5] rfl (w_X10_value_107 hL C ih k1 h)
        · have h := ok_f c9 h
          refine Viinc (j := 4) (v := _ + (-1)) (lv' := [(4, _), (6, _), (0, _), (1, _), (3, _), (5, _)]) C (dAt D_X10_value 19 rfl) rfl rfl (by decide) rfl ?_
          refine Vaload_n C 2 (dAt D_X10_value 20 rfl) rfl rfl ?_
          refine VgetP C (dAt D_X10_value 21 rfl) gf_X10_37 (kt_116 hL) rfl (kp_116_15 hL) ?_
          refine Viload C 0 (dAt D_X10_value 22 rfl) rfl ?_
          refine Viconst (x := 1) C (dAt D_X10_value 23 rfl) (by decide) ?_
          refine Visub C (dAt D_X10_value 24 rfl) ?_
          refine Viload C 1 (dAt D_X10_value 25 rfl) rfl ?_
          refine Vaload_n C 2 (dAt D_X10_value 26 rfl) rfl rfl ?_
          refine VgetP C (dAt D_X10_value 27 rfl) gf_X10_37 (kt_116 hL) rfl (kp_116_15 hL) ?_
          refine Viload C 0 (dAt D_X10_value 28 rfl) rfl ?_
          refine Viconst (x := 1) C (dAt D_X10_value 29 rfl) (by decide) ?_
          refine Visub C (dAt D_X10_value 30 rfl) ?_
          obtain ⟨c11, h⟩ := ok_ck h
          refine Viald C (dAt D_X10_value 31 rfl) (kt_125 hL) (kl_125 hL) (vp_in_iff.mpr c11) ?_
          refine Vaload_n C 2 (dAt D_X10_value 32 rfl) rfl rfl ?_
          refine VgetP C (dAt D_X10_value 33 rfl) gf_X10_37 (kt_116 hL) rfl (kp_116_15 hL) ?_
          refine Viload C 0 (dAt D_X10_value 34 rfl) rfl ?_
          obtain ⟨c12, h⟩ := ok_ck h
          refine Viald C (dAt D_X10_value 35 rfl) (kt_125 hL) (kl_125 hL) (vp_in_iff.mpr c12) ?_
          obtain ⟨r13, e14, h⟩ := ok_b h
          refine VcallS (as := [_, _, _]) C (dAt D_X10_value 36 rfl) (m_X10_joined hL e14) yb_X10_161 ys_X10_161 rfl rfl (Nat.le_of_ble_eq_true rfl) (by decide) (by decide) (by decide) (by decide) (Kint ?_)
          refine Viast C (dAt D_X10_value 37 rfl) (kt_125 hL) (kl_125 hL) (vp_in_iff.mpr c11) ?_
          refine Vgoto (tgt := 107) C (dAt D_X10_value 38 rfl) (by decide) ?_
          exact Vsub [2, 3, 4, 0, 5] rfl (w_X10_value_107 hL C ih k1 h)
def F_X10_value (f : Nat) (a1 : Nat) (x2 : Int32) (x3 : Int32) (u : MT) : Option (Int32 × MT) :=
  B_X10_value_6 f f a1 x3 (0 : Int32) x2 u
theorem m_X10_value {g : GT} {w : LT} (hL : Lay w) {a1 : Nat} {x2 : Int32} {x3 : Int32} {f : Nat} {u : MT} {r : (Int32 × MT)} (k1 : isTx w a1) (h : F_X10_value f a1 x2 x3 u = some r) : Mt g yX10_value cX10_value 7 (some .int) 2 0 0 [.ref 116, .ref a1, .int x2, .int x3] w u (Qi r.1 w r.2) := by
  refine Mt_of (own := RX10) (by decide +kernel) rfl (Nat.le_of_ble_eq_true rfl) (fun z C _ => ?_)
  show V z g 7 0 [(0, .ref 116), (1, .ref a1), (2, .int x2), (3, .int x3)] [] w u 0 0 (Qi r.1 w r.2)
  rw [F_X10_value] at h
  refine Viconst (x := 0) C (dAt D_X10_value 0 rfl) (by decide) ?_
  refine Vistore (lv' := [(4, _), (0, _), (1, _), (2, _), (3, _)]) C (dAt D_X10_value 1 rfl) (by decide) rfl ?_
  refine Viload_n C 3 (dAt D_X10_value 2 rfl) rfl rfl ?_
  refine Vistore (lv' := [(5, _), (4, _), (0, _), (1, _), (2, _), (3, _)]) C (dAt D_X10_value 3 rfl) (by decide) rfl ?_
  exact Vsub [2, 3, 5, 1, 0] rfl (w_X10_value_6 hL C  f _ _ _ _ _ k1 h)
def F_X10_amount (f : Nat) (a1 : Nat) (a2 : Nat) (x3 : Int32) (u : MT) : Option (Int32 × MT) :=
  if (gI u a2 4) = (gI u a2 3) then
    some (x3, u)
  else
    (F_X10_value f a1 (gI u a2 3) (gI u a2 4) u).bind fun r2 =>
    some ((if (0 : Int32) < (if r2.1 < x3 then r2.1 else x3) then (if r2.1 < x3 then r2.1 else x3) else (0 : Int32)), r2.2)
theorem m_X10_amount {g : GT} {w : LT} (hL : Lay w) {a1 : Nat} {a2 : Nat} {x3 : Int32} {f : Nat} {u : MT} {r : (Int32 × MT)} (k1 : isTx w a1) (k2 : lt_t w a2 = 5) (h : F_X10_amount f a1 a2 x3 u = some r) : Mt g yX10_amount cX10_amount 4 (some .int) 3 0 0 [.ref 116, .ref a1, .ref a2, .int x3] w u (Qi r.1 w r.2) := by
  refine Mt_of (own := RX10) (by decide +kernel) rfl (Nat.le_of_ble_eq_true rfl) (fun z C _ => ?_)
  show V z g 4 0 [(0, .ref 116), (1, .ref a1), (2, .ref a2), (3, .int x3)] [] w u 0 0 (Qi r.1 w r.2)
  rw [F_X10_amount] at h
  refine Vaload_n C 2 (dAt D_X10_amount 0 rfl) rfl rfl ?_
  refine VgetI C (dAt D_X10_amount 1 rfl) gf_X10_144 k2 rfl ?_
  refine Vaload_n C 2 (dAt D_X10_amount 2 rfl) rfl rfl ?_
  refine VgetI C (dAt D_X10_amount 3 rfl) gf_X10_147 k2 rfl ?_
  refine Vicmp_ne (tgt := 13) C (dAt D_X10_amount 4 rfl) (by decide) (fun c1 => ?_) (fun c1 => ?_)
  · have h := ok_f c1 h
    refine Viconst (x := 0) C (dAt D_X10_amount 7 rfl) (by decide) ?_
    refine Viload_n C 3 (dAt D_X10_amount 8 rfl) rfl rfl ?_
    refine Vaload_n C 0 (dAt D_X10_amount 9 rfl) rfl rfl ?_
    refine Vaload_n C 1 (dAt D_X10_amount 10 rfl) rfl rfl ?_
    refine Vaload_n C 2 (dAt D_X10_amount 11 rfl) rfl rfl ?_
    refine VgetI C (dAt D_X10_amount 12 rfl) gf_X10_147 k2 rfl ?_
    refine Vaload_n C 2 (dAt D_X10_amount 13 rfl) rfl rfl ?_
    refine VgetI C (dAt D_X10_amount 14 rfl) gf_X10_144 k2 rfl ?_
    obtain ⟨r2, e3, h⟩ := ok_b h
    refine VcallV (as := [_, _, _]) C (dAt D_X10_amount 15 rfl) (m_X10_value hL k1 e3) yv_X10_97 (Or.inl ⟨(kt_116 hL), by decide⟩) rfl rfl (Nat.le_of_ble_eq_true rfl) (by decide) (by decide) (by decide) (by decide) (Kint ?_)
    refine Vmin C (dAt D_X10_amount 16 rfl) gm_X10_72 mS_min mI mC_min (Nat.le_of_ble_eq_true rfl) (by decide) (by decide) (by decide) ?_
    refine Vmax C (dAt D_X10_amount 17 rfl) gm_X10_150 mS_max mI mC_max (Nat.le_of_ble_eq_true rfl) (by decide) (by decide) (by decide) ?_
    cases h
    exact Viret C (dAt D_X10_amount 18 rfl) (by decide) (by decide) ⟨rfl, rfl, rfl⟩
  · have h := ok_t c1 h
    refine Viload_n C 3 (dAt D_X10_amount 5 rfl) rfl rfl ?_
    cases h
    exact Viret C (dAt D_X10_amount 6 rfl) (by decide) (by decide) ⟨rfl, rfl, rfl⟩
def F_X10_fill (f : Nat) (x1 : Int32) (x2 : Int32) (u : MT) : Option MT :=
  let v1 := (if ((gI u 116 1) - (gI u 116 5)) < x1 then ((gI u 116 1) - (gI u 116 5)) else x1)
  let u2 := sI u 116 4 ((gI u 116 4) - v1)
  let u3 := sI u2 116 5 ((gI u2 116 5) + v1)
  let u4 := sI u3 127 2 ((gI u3 127 2) + v1)
  if x2 = (gI u4 116 16) then
    let u6 := sI u4 116 17 v1
    some u6
  else
    some u4
theorem m_X10_fill {g : GT} {w : LT} (hL : Lay w) {x1 : Int32} {x2 : Int32} {f : Nat} {u : MT} {r : MT} (h : F_X10_fill f x1 x2 u = some r) : Mt g yX10_fill cX10_fill 4 none 1 0 0 [.ref 116, .int x1, .int x2] w u (Qv w r) := by
  refine Mt_of (own := RX10) (by decide +kernel) rfl (Nat.le_of_ble_eq_true rfl) (fun z C _ => ?_)
  show V z g 4 0 [(0, .ref 116), (1, .int x1), (2, .int x2)] [] w u 0 0 (Qv w r)
  rw [F_X10_fill] at h
  refine Viload_n C 1 (dAt D_X10_fill 0 rfl) rfl rfl ?_
  refine Vaload_n C 0 (dAt D_X10_fill 1 rfl) rfl rfl ?_
  refine VgetI C (dAt D_X10_fill 2 rfl) gf_X10_50 (kt_116 hL) rfl ?_
  refine Vaload_n C 0 (dAt D_X10_fill 3 rfl) rfl rfl ?_
  refine VgetI C (dAt D_X10_fill 4 rfl) gf_X10_69 (kt_116 hL) rfl ?_
  refine Visub C (dAt D_X10_fill 5 rfl) ?_
  refine Vmin C (dAt D_X10_fill 6 rfl) gm_X10_72 mS_min mI mC_min (Nat.le_of_ble_eq_true rfl) (by decide) (by decide) (by decide) ?_
  refine Vistore_n (lv' := [(3, _), (0, _), (1, _), (2, _)]) C (dAt D_X10_fill 7 rfl) rfl (by decide) rfl ?_
  refine Vaload_n C 1 (dAt D_X10_fill 8 rfl) rfl rfl ?_
  refine Vdup C (dAt D_X10_fill 9 rfl) rfl ?_
  refine VgetI C (dAt D_X10_fill 10 rfl) gf_X10_66 (kt_116 hL) rfl ?_
  refine Viload_n C 0 (dAt D_X10_fill 11 rfl) rfl rfl ?_
  refine Visub C (dAt D_X10_fill 12 rfl) ?_
  refine VputI C (dAt D_X10_fill 13 rfl) gf_X10_66 (kt_116 hL) rfl rfl rfl rfl ?_
  refine Vaload_n C 1 (dAt D_X10_fill 14 rfl) rfl rfl ?_
  refine Vdup C (dAt D_X10_fill 15 rfl) rfl ?_
  refine VgetI C (dAt D_X10_fill 16 rfl) gf_X10_69 (kt_116 hL) rfl ?_
  refine Viload_n C 0 (dAt D_X10_fill 17 rfl) rfl rfl ?_
  refine Viadd C (dAt D_X10_fill 18 rfl) ?_
  refine VputI C (dAt D_X10_fill 19 rfl) gf_X10_69 (kt_116 hL) rfl rfl rfl rfl ?_
  refine Vaload_n C 1 (dAt D_X10_fill 20 rfl) rfl rfl ?_
  refine VgetP C (dAt D_X10_fill 21 rfl) gf_X10_43 (kt_116 hL) rfl (kp_116_19 hL) ?_
  refine Viconst (x := 2) C (dAt D_X10_fill 22 rfl) (by decide) ?_
  refine Vdup2 C (dAt D_X10_fill 23 rfl) rfl rfl ?_
  refine VialdC 2 C (dAt D_X10_fill 24 rfl) (kt_127 hL) (kl_127 hL) (by decide) rfl ?_
  refine Viload_n C 0 (dAt D_X10_fill 25 rfl) rfl rfl ?_
  refine Viadd C (dAt D_X10_fill 26 rfl) ?_
  refine ViastC 2 C (dAt D_X10_fill 27 rfl) (kt_127 hL) (kl_127 hL) (by decide) rfl ?_
  refine Viload_n C 3 (dAt D_X10_fill 28 rfl) rfl rfl ?_
  refine Vaload_n C 1 (dAt D_X10_fill 29 rfl) rfl rfl ?_
  refine VgetI C (dAt D_X10_fill 30 rfl) gf_X10_60 (kt_116 hL) rfl ?_
  refine Vicmp_ne (tgt := 57) C (dAt D_X10_fill 31 rfl) (by decide) (fun c5 => ?_) (fun c5 => ?_)
  · have h := ok_f c5 h
    cases h
    exact Vvret C (dAt D_X10_fill 35 rfl) (by decide) (by decide) ⟨rfl, rfl, rfl⟩
  · have h := ok_t c5 h
    refine Vaload_n C 1 (dAt D_X10_fill 32 rfl) rfl rfl ?_
    refine Viload_n C 0 (dAt D_X10_fill 33 rfl) rfl rfl ?_
    refine VputI C (dAt D_X10_fill 34 rfl) gf_X10_63 (kt_116 hL) rfl rfl rfl rfl ?_
    cases h
    exact Vvret C (dAt D_X10_fill 35 rfl) (by decide) (by decide) ⟨rfl, rfl, rfl⟩
def F_X10_room (f : Nat) (x1 : Int32) (u : MT) : Option (Int32 × MT) :=
  ck (ixo x1 12) <|
  if (gI u 118 (x1).toNatClampNeg) ≤ (gI u 117 (x1).toNatClampNeg) then
    some ((gI u 118 (x1).toNatClampNeg), u)
  else
    some ((gI u 117 (x1).toNatClampNeg), u)
theorem m_X10_room {g : GT} {w : LT} (hL : Lay w) {x1 : Int32} {f : Nat} {u : MT} {r : (Int32 × MT)} (h : F_X10_room f x1 u = some r) : Mt g yX10_room cX10_room 2 (some .int) 0 0 0 [.ref 116, .int x1] w u (Qi r.1 w r.2) := by
  refine Mt_of (own := RX10) (by decide +kernel) rfl (Nat.le_of_ble_eq_true rfl) (fun z C _ => ?_)
  show V z g 2 0 [(0, .ref 116), (1, .int x1)] [] w u 0 0 (Qi r.1 w r.2)
  rw [F_X10_room] at h
  refine Vaload_n C 0 (dAt D_X10_room 0 rfl) rfl rfl ?_
  refine VgetP C (dAt D_X10_room 1 rfl) gf_X10_9 (kt_116 hL) rfl (kp_116_6 hL) ?_
  refine Viload_n C 1 (dAt D_X10_room 2 rfl) rfl rfl ?_
  obtain ⟨c1, h⟩ := ok_ck h
  refine Viald C (dAt D_X10_room 3 rfl) (kt_117 hL) (kl_117 hL) (vp_in_iff.mpr c1) ?_
  refine Vaload_n C 0 (dAt D_X10_room 4 rfl) rfl rfl ?_
  refine VgetP C (dAt D_X10_room 5 rfl) gf_X10_15 (kt_116 hL) rfl (kp_116_7 hL) ?_
  refine Viload_n C 1 (dAt D_X10_room 6 rfl) rfl rfl ?_
  refine Viald C (dAt D_X10_room 7 rfl) (kt_118 hL) (kl_118 hL) (vp_in_iff.mpr c1) ?_
  refine Vicmp_ge (tgt := 24) C (dAt D_X10_room 8 rfl) (by decide) (fun c2 => ?_) (fun c2 => ?_)
  · have h := ok_t c2 h
    refine Vaload_n C 0 (dAt D_X10_room 14 rfl) rfl rfl ?_
    refine VgetP C (dAt D_X10_room 15 rfl) gf_X10_15 (kt_116 hL) rfl (kp_116_7 hL) ?_
    refine Viload_n C 1 (dAt D_X10_room 16 rfl) rfl rfl ?_
    refine Viald C (dAt D_X10_room 17 rfl) (kt_118 hL) (kl_118 hL) (vp_in_iff.mpr c1) ?_
    cases h
    exact Viret C (dAt D_X10_room 18 rfl) (by decide) (by decide) ⟨rfl, rfl, rfl⟩
  · have h := ok_f c2 h
    refine Vaload_n C 0 (dAt D_X10_room 9 rfl) rfl rfl ?_
    refine VgetP C (dAt D_X10_room 10 rfl) gf_X10_9 (kt_116 hL) rfl (kp_116_6 hL) ?_
    refine Viload_n C 1 (dAt D_X10_room 11 rfl) rfl rfl ?_
    refine Viald C (dAt D_X10_room 12 rfl) (kt_117 hL) (kl_117 hL) (vp_in_iff.mpr c1) ?_
    refine Vgoto (tgt := 30) C (dAt D_X10_room 13 rfl) (by decide) ?_
    cases h
    exact Viret C (dAt D_X10_room 18 rfl) (by decide) (by decide) ⟨rfl, rfl, rfl⟩
def B_X10_chosenAhead_61 (f : Nat) (j17 : Int32 → Int32 → Int32 → Int32 → MT → Option (Int32 × MT)) (x1 : Int32) (x2 : Int32) (x3 : Int32) (x4 : Int32) (u : MT) : Option (Int32 × MT) :=
  let v12 := x4 + 1
  j17 x1 x2 x3 v12 u
theorem w_X10_chosenAhead_61 {z : ZT} {g : GT} {w : LT} (hL : Lay w) (C : Cx z g cX10_chosenAhead 6 RX10 (some .int) 0 0 0) {f : Nat} {r : (Int32 × MT)} {j17 : Int32 → Int32 → Int32 → Int32 → MT → Option (Int32 × MT)} (q17 : ∀ (x1 : Int32) (x2 : Int32) (x3 : Int32) (x4 : Int32) (u : MT), j17 x1 x2 x3 x4 u = some r → V z g 6 17 [(0, .ref 116), (1, .int x1), (2, .int x2), (3, .int x3), (4, .int x4)] [] w u 0 0 (Qi r.1 w r.2)) {x1 : Int32} {x2 : Int32} {x3 : Int32} {x4 : Int32} {u : MT} (h : B_X10_chosenAhead_61 f j17 x1 x2 x3 x4 u = some r) : V z g 6 61 [(0, .ref 116), (1, .int x1), (2, .int x2), (3, .int x3), (4, .int x4)] [] w u 0 0 (Qi r.1 w r.2) := by
  rw [B_X10_chosenAhead_61] at h
  refine Viinc (j := 4) (v := _ + 1) (lv' := [(4, _), (0, _), (1, _), (2, _), (3, _)]) C (dAt D_X10_chosenAhead 34 rfl) rfl rfl (by decide) rfl ?_
  refine Vgoto (tgt := 17) C (dAt D_X10_chosenAhead 35 rfl) (by decide) ?_
  exact Vsub [1, 2, 3, 4, 0] rfl (q17 _ _ _ _ _  h)
def B_X10_chosenAhead_58 (f : Nat) (j17 : Int32 → Int32 → Int32 → Int32 → MT → Option (Int32 × MT)) (x1 : Int32) (x2 : Int32) (x3 : Int32) (x4 : Int32) (u : MT) : Option (Int32 × MT) :=
  let v11 := x3 + 1
  B_X10_chosenAhead_61 f j17 x1 x2 v11 x4 u
theorem w_X10_chosenAhead_58 {z : ZT} {g : GT} {w : LT} (hL : Lay w) (C : Cx z g cX10_chosenAhead 6 RX10 (some .int) 0 0 0) {f : Nat} {r : (Int32 × MT)} {j17 : Int32 → Int32 → Int32 → Int32 → MT → Option (Int32 × MT)} (q17 : ∀ (x1 : Int32) (x2 : Int32) (x3 : Int32) (x4 : Int32) (u : MT), j17 x1 x2 x3 x4 u = some r → V z g 6 17 [(0, .ref 116), (1, .int x1), (2, .int x2), (3, .int x3), (4, .int x4)] [] w u 0 0 (Qi r.1 w r.2)) {x1 : Int32} {x2 : Int32} {x3 : Int32} {x4 : Int32} {u : MT} (h : B_X10_chosenAhead_58 f j17 x1 x2 x3 x4 u = some r) : V z g 6 58 [(0, .ref 116), (1, .int x1), (2, .int x2), (3, .int x3), (4, .int x4)] [] w u 0 0 (Qi r.1 w r.2) := by
  rw [B_X10_chosenAhead_58] at h
  refine Viinc (j := 3) (v := _ + 1) (lv' := [(3, _), (0, _), (1, _), (2, _), (4, _)]) C (dAt D_X10_chosenAhead 33 rfl) rfl rfl (by decide) rfl ?_
  exact Vsub [1, 2, 3, 0, 4] rfl (w_X10_chosenAhead_61 hL C q17  h)
def B_X10_chosenAhead_17 (f : Nat) : Nat → Int32 → Int32 → Int32 → Int32 → MT → Option (Int32 × MT)
  | 0, _, _, _, _, _ => none
  | n + 1, x1, x2, x3, x4, u =>
    if (gI u 116 12) ≤ x4 then
      some (x3, u)
    else
      ck (ixo x4 12) <|
      ck (ixo (gI u 122 (x4).toNatClampNeg) 12) <|
      let v7 := (gI u 119 ((gI u 122 (x4).toNatClampNeg)).toNatClampNeg)
      if v7 < x2 then
        B_X10_chosenAhead_58 f (fun x1' x2' x3' x4' u' => B_X10_chosenAhead_17 f n x1' x2' x3' x4' u') x1 x2 x3 x4 u
      else
        if v7 = x2 then
          if x1 ≤ x4 then
            B_X10_chosenAhead_61 f (fun x1' x2' x3' x4' u' => B_X10_chosenAhead_17 f n x1' x2' x3' x4' u') x1 x2 x3 x4 u
          else
            B_X10_chosenAhead_58 f (fun x1' x2' x3' x4' u' => B_X10_chosenAhead_17 f n x1' x2' x3' x4' u') x1 x2 x3 x4 u
        else
          B_X10_chosenAhead_61 f (fun x1' x2' x3' x4' u' => B_X10_chosenAhead_17 f n x1' x2' x3' x4' u') x1 x2 x3 x4 u
theorem w_X10_chosenAhead_17 {z : ZT} {g : GT} {w : LT} (hL : Lay w) (C : Cx z g cX10_chosenAhead 6 RX10 (some .int) 0 0 0) {f : Nat} {r : (Int32 × MT)} : ∀ (n : Nat) (x1 : Int32) (x2 : Int32) (x3 : Int32) (x4 : Int32) (u : MT), B_X10_chosenAhead_17 f n x1 x2 x3 x4 u = some r → V z g 6 17 [(0, .ref 116), (1, .int x1), (2, .int x2), (3, .int x3), (4, .int x4)] [] w u 0 0 (Qi r.1 w r.2) := by
  intro n
  induction n with
  | zero =>
    intro x1 x2 x3 x4 u h
    rw [B_X10_chosenAhead_17] at h
    cases h
  | succ n ih =>
    intro x1 x2 x3 x4 u h
    rw [B_X10_chosenAhead_17] at h
    refine Viload C 4 (dAt D_X10_chosenAhead 12 rfl) rfl ?_
    refine Vaload_n C 0 (dAt D_X10_chosenAhead 13 rfl) rfl rfl ?_
    refine VgetI C (dAt D_X10_chosenAhead 14 rfl) gf_X10_198 (kt_116 hL) rfl ?_
    refine Vicmp_ge (tgt := 67) C (dAt D_X10_chosenAhead 15 rfl) (by decide) (fun c4 => ?_) (fun c4 => ?_)
    · have h := ok_t c4 h
      refine Viload_n C 3 (dAt D_X10_chosenAhead 36 rfl) rfl rfl ?_
      cases h
      exact Viret C (dAt D_X10_chosenAhead 37 rfl) (by decide) (by decide) ⟨rfl, rfl, rfl⟩
    · have h := ok_f c4 h
      refine Vaload_n C 0 (dAt D_X10_chosenAhead 16 rfl) rfl rfl ?_
      refine VgetP C (dAt D_X10_chosenAhead 17 rfl) gf_X10_18 (kt_116 hL) rfl (kp_116_8 hL) ?_
      refine Vaload_n C 0 (dAt D_X10_chosenAhead 18 rfl) rfl rfl ?_
      refine VgetP C (dAt D_X10_chosenAhead 19 rfl) gf_X10_27 (kt_116 hL) rfl (kp_116_11 hL) ?_
      refine Viload C 4 (dAt D_X10_chosenAhead 20 rfl) rfl ?_
      obtain ⟨c5, h⟩ := ok_ck h
      refine Viald C (dAt D_X10_chosenAhead 21 rfl) (kt_122 hL) (kl_122 hL) (vp_in_iff.mpr c5) ?_
      obtain ⟨c6, h⟩ := ok_ck h
      refine Viald C (dAt D_X10_chosenAhead 22 rfl) (kt_119 hL) (kl_119 hL) (vp_in_iff.mpr c6) ?_
      refine Vistore (lv' := [(5, _), (0, _), (1, _), (2, _), (3, _), (4, _)]) C (dAt D_X10_chosenAhead 23 rfl) (by decide) rfl ?_
      refine Viload C 0 (dAt D_X10_chosenAhead 24 rfl) rfl ?_
      refine Viload_n C 3 (dAt D_X10_chosenAhead 25 rfl) rfl rfl ?_
      refine Vicmp_lt (tgt := 58) C (dAt D_X10_chosenAhead 26 rfl) (by decide) (fun c8 => ?_) (fun c8 => ?_)
      · have h := ok_t c8 h
        exact Vsub [1, 2, 3, 4, 5] rfl (w_X10_chosenAhead_58 hL C ih  h)
      · have h := ok_f c8 h
        refine Viload C 0 (dAt D_X10_chosenAhead 27 rfl) rfl ?_
        refine Viload_n C 3 (dAt D_X10_chosenAhead 28 rfl) rfl rfl ?_
        refine Vicmp_ne (tgt := 61) C (dAt D_X10_chosenAhead 29 rfl) (by decide) (fun c9 => ?_) (fun c9 => ?_)
        · have h := ok_f c9 h
          exact Vsub [1, 2, 3, 4, 5] rfl (w_X10_chosenAhead_61 hL C ih  h)
        · have h := ok_t c9 h
          refine Viload C 5 (dAt D_X10_chosenAhead 30 rfl) rfl ?_
          refine Viload_n C 2 (dAt D_X10_chosenAhead 31 rfl) rfl rfl ?_
          refine Vicmp_ge (tgt := 61) C (dAt D_X10_chosenAhead 32 rfl) (by decide) (fun c10 => ?_) (fun c10 => ?_)
          · have h := ok_t c10 h
            exact Vsub [1, 2, 3, 4, 5] rfl (w_X10_chosenAhead_61 hL C ih  h)
          · have h := ok_f c10 h
            exact Vsub [1, 2, 3, 4, 5] rfl (w_X10_chosenAhead_58 hL C ih  h)
def F_X10_chosenAhead (f : Nat) (x1 : Int32) (u : MT) : Option (Int32 × MT) :=
  ck (ixo x1 12) <|
  ck (ixo (gI u 122 (x1).toNatClampNeg) 12) <|
  let v3 := (gI u 119 ((gI u 122 (x1).toNatClampNeg)).toNatClampNeg)
  B_X10_chosenAhead_17 f f x1 v3 (0 : Int32) (0 : Int32) u
theorem m_X10_chosenAhead {g : GT} {w : LT} (hL : Lay w) {x1 : Int32} {f : Nat} {u : MT} {r : (Int32 × MT)} (h : F_X10_chosenAhead f x1 u = some r) : Mt g yX10_chosenAhead cX10_chosenAhead 6 (some .int) 0 0 0 [.ref 116, .int x1] w u (Qi r.1 w r.2) := by
  refine Mt_of (own := RX10) (by decide +kernel) rfl (Nat.le_of_ble_eq_true rfl) (fun z C _ => ?_)
  show V z g 6 0 [(0, .ref 116), (1, .int x1)] [] w u 0 0 (Qi r.1 w r.2)
  rw [F_X10_chosenAhead] at h
  refine Vaload_n C 0 (dAt D_X10_chosenAhead 0 rfl) rfl rfl ?_
  refine VgetP C (dAt D_X10_chosenAhead 1 rfl) gf_X10_18 (kt_116 hL) rfl (kp_116_8 hL) ?_
  refine Vaload_n C 0 (dAt D_X10_chosenAhead 2 rfl) rfl rfl ?_
  refine VgetP C (dAt D_X10_chosenAhead 3 rfl) gf_X10_27 (kt_116 hL) rfl (kp_116_11 hL) ?_
  refine Viload_n C 1 (dAt D_X10_chosenAhead 4 rfl) rfl rfl ?_
  obtain ⟨c1, h⟩ := ok_ck h
  refine Viald C (dAt D_X10_chosenAhead 5 rfl) (kt_122 hL) (kl_122 hL) (vp_in_iff.mpr c1) ?_
  obtain ⟨c2, h⟩ := ok_ck h
  refine Viald C (dAt D_X10_chosenAhead 6 rfl) (kt_119 hL) (kl_119 hL) (vp_in_iff.mpr c2) ?_
  refine Vistore_n (lv' := [(2, _), (0, _), (1, _)]) C (dAt D_X10_chosenAhead 7 rfl) rfl (by decide) rfl ?_
  refine Viconst (x := 0) C (dAt D_X10_chosenAhead 8 rfl) (by decide) ?_
  refine Vistore_n (lv' := [(3, _), (2, _), (0, _), (1, _)]) C (dAt D_X10_chosenAhead 9 rfl) rfl (by decide) rfl ?_
  refine Viconst (x := 0) C (dAt D_X10_chosenAhead 10 rfl) (by decide) ?_
  refine Vistore (lv' := [(4, _), (3, _), (2, _), (0, _), (1, _)]) C (dAt D_X10_chosenAhead 11 rfl) (by decide) rfl ?_
  exact Vsub [3, 4, 2, 1, 0] rfl (w_X10_chosenAhead_17 hL C  f _ _ _ _ _  h)
def B_X10_keepLeast_72 (f : Nat) (j40 : Int32 → Int32 → MT → Option MT) (x2 : Int32) (x3 : Int32) (u : MT) : Option MT :=
  let v15 := x3 + 1
  j40 x2 v15 u
theorem w_X10_keepLeast_72 {z : ZT} {g : GT} {w : LT} (hL : Lay w) (C : Cx z g cX10_keepLeast 4 RX10 none 1 0 0) {f : Nat} {r : MT} {j40 : Int32 → Int32 → MT → Option MT} (q40 : ∀ (x2 : Int32) (x3 : Int32) (u : MT), j40 x2 x3 u = some r → V z g 4 40 [(0, .ref 116), (2, .int x2), (3, .int x3)] [] w u 0 0 (Qv w r)) {x2 : Int32} {x3 : Int32} {u : MT} (h : B_X10_keepLeast_72 f j40 x2 x3 u = some r) : V z g 4 72 [(0, .ref 116), (2, .int x2), (3, .int x3)] [] w u 0 0 (Qv w r) := by
  rw [B_X10_keepLeast_72] at h
  refine Viinc (j := 2) (v := _ + 1) (lv' := [(3, _), (0, _), (2, _)]) C (dAt D_X10_keepLeast 42 rfl) rfl rfl (by decide) rfl ?_
  refine Vgoto (tgt := 40) C (dAt D_X10_keepLeast 43 rfl) (by decide) ?_
  exact Vsub [1, 2, 0] rfl (q40 _ _ _  h)
def B_X10_keepLeast_40 (f : Nat) : Nat → Int32 → Int32 → MT → Option MT
  | 0, _, _, _ => none
  | n + 1, x2, x3, u =>
    if (gI u 116 12) ≤ x3 then
      let u6 := sI u 116 12 x2
      some u6
    else
      ck (ixo x3 12) <|
      if (gI u 123 (x3).toNatClampNeg) = 0 then
        B_X10_keepLeast_72 f (fun x2' x3' u' => B_X10_keepLeast_40 f n x2' x3' u') x2 x3 u
      else
        ck (ixo x2 12) <|
        let u10 := sI u 122 (x2).toNatClampNeg (gI u 122 (x3).toNatClampNeg)
        let v11 := x2 + 1
        B_X10_keepLeast_72 f (fun x2' x3' u' => B_X10_keepLeast_40 f n x2' x3' u') v11 x3 u10
theorem w_X10_keepLeast_40 {z : ZT} {g : GT} {w : LT} (hL : Lay w) (C : Cx z g cX10_keepLeast 4 RX10 none 1 0 0) {f : Nat} {r : MT} : ∀ (n : Nat) (x2 : Int32) (x3 : Int32) (u : MT), B_X10_keepLeast_40 f n x2 x3 u = some r → V z g 4 40 [(0, .ref 116), (2, .int x2), (3, .int x3)] [] w u 0 0 (Qv w r) := by
  intro n
  induction n with
  | zero =>
    intro x2 x3 u h
    rw [B_X10_keepLeast_40] at h
    cases h
  | succ n ih =>
    intro x2 x3 u h
    rw [B_X10_keepLeast_40] at h
    refine Viload_n C 2 (dAt D_X10_keepLeast 24 rfl) rfl rfl ?_
    refine Vaload_n C 0 (dAt D_X10_keepLeast 25 rfl) rfl rfl ?_
    refine VgetI C (dAt D_X10_keepLeast 26 rfl) gf_X10_198 (kt_116 hL) rfl ?_
    refine Vicmp_ge (tgt := 78) C (dAt D_X10_keepLeast 27 rfl) (by decide) (fun c5 => ?_) (fun c5 => ?_)
    · have h := ok_t c5 h
      refine Vaload_n C 0 (dAt D_X10_keepLeast 44 rfl) rfl rfl ?_
      refine Viload_n C 1 (dAt D_X10_keepLeast 45 rfl) rfl rfl ?_
      refine VputI C (dAt D_X10_keepLeast 46 rfl) gf_X10_198 (kt_116 hL) rfl rfl rfl rfl ?_
      cases h
      exact Vvret C (dAt D_X10_keepLeast 47 rfl) (by decide) (by decide) ⟨rfl, rfl, rfl⟩
    · have h := ok_f c5 h
      refine Vaload_n C 0 (dAt D_X10_keepLeast 28 rfl) rfl rfl ?_
      refine VgetP C (dAt D_X10_keepLeast 29 rfl) gf_X10_30 (kt_116 hL) rfl (kp_116_13 hL) ?_
      refine Viload_n C 2 (dAt D_X10_keepLeast 30 rfl) rfl rfl ?_
      obtain ⟨c7, h⟩ := ok_ck h
      refine Vzald C (dAt D_X10_keepLeast 31 rfl) (kt_123 hL) (kl_123 hL) (vp_in_iff.mpr c7) ?_
      refine Vif_eq (tgt := 72) C (dAt D_X10_keepLeast 32 rfl) (by decide) (fun c8 => ?_) (fun c8 => ?_)
      · have h := ok_t c8 h
        exact Vsub [0, 1, 2] rfl (w_X10_keepLeast_72 hL C ih  h)
      · have h := ok_f c8 h
        refine Vaload_n C 0 (dAt D_X10_keepLeast 33 rfl) rfl rfl ?_
        refine VgetP C (dAt D_X10_keepLeast 34 rfl) gf_X10_27 (kt_116 hL) rfl (kp_116_11 hL) ?_
        refine Viload_n C 1 (dAt D_X10_keepLeast 35 rfl) rfl rfl ?_
        refine Vaload_n C 0 (dAt D_X10_keepLeast 36 rfl) rfl rfl ?_
        refine VgetP C (dAt D_X10_keepLeast 37 rfl) gf_X10_27 (kt_116 hL) rfl (kp_116_11 hL) ?_
        refine Viload_n C 2 (dAt D_X10_keepLeast 38 rfl) rfl rfl ?_
        refine Viald C (dAt D_X10_keepLeast 39 rfl) (kt_122 hL) (kl_122 hL) (vp_in_iff.mpr c7) ?_
        obtain ⟨c9, h⟩ := ok_ck h
        refine Viast C (dAt D_X10_keepLeast 40 rfl) (kt_122 hL) (kl_122 hL) (vp_in_iff.mpr c9) ?_
        refine Viinc (j := 1) (v := _ + 1) (lv' := [(2, _), (0, _), (3, _)]) C (dAt D_X10_keepLeast 41 rfl) rfl rfl (by decide) rfl ?_
        exact Vsub [1, 0, 2] rfl (w_X10_keepLeast_72 hL C ih  h)
def B_X10_keepLeast_29 (f : Nat) (j2 : Int32 → Int32 → MT → Option MT) (x1 : Int32) (x2 : Int32) (s0 : Int32) (s1 : Int32) (u : MT) : Option MT :=
  ck (ixo s1 12) <|
  let u13 := sI u 123 (s1).toNatClampNeg (vp_nar .boolean s0)
  let v14 := x2 + 1
  j2 x1 v14 u13
theorem w_X10_keepLeast_29 {z : ZT} {g : GT} {w : LT} (hL : Lay w) (C : Cx z g cX10_keepLeast 4 RX10 none 1 0 0) {f : Nat} {r : MT} {j2 : Int32 → Int32 → MT → Option MT} (q2 : ∀ (x1 : Int32) (x2 : Int32) (u : MT), j2 x1 x2 u = some r → V z g 4 2 [(0, .ref 116), (1, .int x1), (2, .int x2)] [] w u 0 0 (Qv w r)) {x1 : Int32} {x2 : Int32} {s0 : Int32} {s1 : Int32} {u : MT} (h : B_X10_keepLeast_29 f j2 x1 x2 s0 s1 u = some r) : V z g 4 29 [(0, .ref 116), (1, .int x1), (2, .int x2)] [.int s0, .int s1, .ref 123] w u 0 0 (Qv w r) := by
  rw [B_X10_keepLeast_29] at h
  obtain ⟨c12, h⟩ := ok_ck h
  refine Vzast C (dAt D_X10_keepLeast 17 rfl) (kt_123 hL) (kl_123 hL) (vp_in_iff.mpr c12) ?_
  refine Viinc (j := 2) (v := _ + 1) (lv' := [(2, _), (0, _), (1, _)]) C (dAt D_X10_keepLeast 18 rfl) rfl rfl (by decide) rfl ?_
  refine Vgoto (tgt := 2) C (dAt D_X10_keepLeast 19 rfl) (by decide) ?_
  exact Vsub [1, 2, 0] rfl (q2 _ _ _  h)
def B_X10_keepLeast_2 (f : Nat) : Nat → Int32 → Int32 → MT → Option MT
  | 0, _, _, _ => none
  | n + 1, x1, x2, u =>
    if (gI u 116 12) ≤ x2 then
      B_X10_keepLeast_40 f f (0 : Int32) (0 : Int32) u
    else
      (F_X10_chosenAhead f x2 u).bind fun r2 =>
      if x1 ≤ r2.1 then
        B_X10_keepLeast_29 f (fun x1' x2' u' => B_X10_keepLeast_2 f n x1' x2' u') x1 x2 (0 : Int32) x2 r2.2
      else
        B_X10_keepLeast_29 f (fun x1' x2' u' => B_X10_keepLeast_2 f n x1' x2' u') x1 x2 (1 : Int32) x2 r2.2
theorem w_X10_keepLeast_2 {z : ZT} {g : GT} {w : LT} (hL : Lay w) (C : Cx z g cX10_keepLeast 4 RX10 none 1 0 0) {f : Nat} {r : MT} : ∀ (n : Nat) (x1 : Int32) (x2 : Int32) (u : MT), B_X10_keepLeast_2 f n x1 x2 u = some r → V z g 4 2 [(0, .ref 116), (1, .int x1), (2, .int x2)] [] w u 0 0 (Qv w r) := by
  intro n
  induction n with
  | zero =>
    intro x1 x2 u h
    rw [B_X10_keepLeast_2] at h
    cases h
  | succ n ih =>
    intro x1 x2 u h
    rw [B_X10_keepLeast_2] at h
    refine Viload_n C 2 (dAt D_X10_keepLeast 2 rfl) rfl rfl ?_
    refine Vaload_n C 0 (dAt D_X10_keepLeast 3 rfl) rfl rfl ?_
    refine VgetI C (dAt D_X10_keepLeast 4 rfl) gf_X10_198 (kt_116 hL) rfl ?_
    refine Vicmp_ge (tgt := 36) C (dAt D_X10_keepLeast 5 rfl) (by decide) (fun c1 => ?_) (fun c1 => ?_)
    · have h := ok_t c1 h
      refine Viconst (x := 0) C (dAt D_X10_keepLeast 20 rfl) (by decide) ?_
      refine Vistore_n (lv' := [(2, _), (0, _), (1, _)]) C (dAt D_X10_keepLeast 21 rfl) rfl (by decide) rfl ?_
      refine Viconst (x := 0) C (dAt D_X10_keepLeast 22 rfl) (by decide) ?_
      refine Vistore_n (lv' := [(3, _), (2, _), (0, _), (1, _)]) C (dAt D_X10_keepLeast 23 rfl) rfl (by decide) rfl ?_
      exact Vsub [2, 1, 0] rfl (w_X10_keepLeast_40 hL C  f _ _ _  h)
    · have h := ok_f c1 h
      refine Vaload_n C 0 (dAt D_X10_keepLeast 6 rfl) rfl rfl ?_
      refine VgetP C (dAt D_X10_keepLeast 7 rfl) gf_X10_30 (kt_116 hL) rfl (kp_116_13 hL) ?_
      refine Viload_n C 2 (dAt D_X10_keepLeast 8 rfl) rfl rfl ?_
      refine Vaload_n C 0 (dAt D_X10_keepLeast 9 rfl) rfl rfl ?_
      refine Viload_n C 2 (dAt D_X10_keepLeast 10 rfl) rfl rfl ?_
      obtain ⟨r2, e3, h⟩ := ok_b h
      refine VcallV (as := [_]) C (dAt D_X10_keepLeast 11 rfl) (m_X10_chosenAhead hL e3) yv_X10_224 (Or.inl ⟨(kt_116 hL), by decide⟩) rfl rfl (Nat.le_of_ble_eq_true rfl) (by decide) (by decide) (by decide) (by decide) (Kint ?_)
      refine Viload_n C 1 (dAt D_X10_keepLeast 12 rfl) rfl rfl ?_
      refine Vicmp_ge (tgt := 28) C (dAt D_X10_keepLeast 13 rfl) (by decide) (fun c4 => ?_) (fun c4 => ?_)
      · have h := ok_t c4 h
        refine Viconst (x := 0) C (dAt D_X10_keepLeast 16 rfl) (by decide) ?_
        exact Vsub [0, 1, 2] rfl (w_X10_keepLeast_29 hL C ih  h)
      · have h := ok_f c4 h
        refine Viconst (x := 1) C (dAt D_X10_keepLeast 14 rfl) (by decide) ?_
        refine Vgoto (tgt := 29) C (dAt D_X10_keepLeast 15 rfl) (by decide) ?_
        exact Vsub [0, 1, 2] rfl (w_X10_keepLeast_29 hL C ih  h)
def F_X10_keepLeast (f : Nat) (x1 : Int32) (u : MT) : Option MT :=
  B_X10_keepLeast_2 f f x1 (0 : Int32) u
theorem m_X10_keepLeast {g : GT} {w : LT} (hL : Lay w) {x1 : Int32} {f : Nat} {u : MT} {r : MT} (h : F_X10_keepLeast f x1 u = some r) : Mt g yX10_keepLeast cX10_keepLeast 4 none 1 0 0 [.ref 116, .int x1] w u (Qv w r) := by
  refine Mt_of (own := RX10) (by decide +kernel) rfl (Nat.le_of_ble_eq_true rfl) (fun z C _ => ?_)
  show V z g 4 0 [(0, .ref 116), (1, .int x1)] [] w u 0 0 (Qv w r)
  rw [F_X10_keepLeast] at h
  refine Viconst (x := 0) C (dAt D_X10_keepLeast 0 rfl) (by decide) ?_
  refine Vistore_n (lv' := [(2, _), (0, _), (1, _)]) C (dAt D_X10_keepLeast 1 rfl) rfl (by decide) rfl ?_
  exact Vsub [1, 2, 0] rfl (w_X10_keepLeast_2 hL C  f _ _ _  h)
def B_X10_choose_64 (f : Nat) (j7 : Nat → Int32 → MT → Option MT) (a1 : Nat) (x2 : Int32) (u : MT) : Option MT :=
  let v14 := x2 + 1
  j7 a1 v14 u
theorem w_X10_choose_64 {z : ZT} {g : GT} {w : LT} (hL : Lay w) (C : Cx z g cX10_choose 3 RX10 none 2 0 0) {f : Nat} {r : MT} {j7 : Nat → Int32 → MT → Option MT} (q7 : ∀ (a1 : Nat) (x2 : Int32) (u : MT), lt_t w a1 = 5 → j7 a1 x2 u = some r → V z g 3 7 [(0, .ref 116), (1, .ref a1), (2, .int x2)] [] w u 0 0 (Qv w r)) {a1 : Nat} {x2 : Int32} {u : MT} (k1 : lt_t w a1 = 5) (h : B_X10_choose_64 f j7 a1 x2 u = some r) : V z g 3 64 [(0, .ref 116), (1, .ref a1), (2, .int x2)] [] w u 0 0 (Qv w r) := by
  rw [B_X10_choose_64] at h
  refine Viinc (j := 2) (v := _ + 1) (lv' := [(2, _), (0, _), (1, _)]) C (dAt D_X10_choose 34 rfl) rfl rfl (by decide) rfl ?_
  refine Vgoto (tgt := 7) C (dAt D_X10_choose 35 rfl) (by decide) ?_
  exact Vsub [1, 2, 0] rfl (q7 _ _ _ k1 h)
def B_X10_choose_44 (f : Nat) (j7 : Nat → Int32 → MT → Option MT) (a1 : Nat) (x2 : Int32) (u : MT) : Option MT :=
  ck (ixo (gI u 116 12) 12) <|
  let u16 := sI u 122 ((gI u 116 12)).toNatClampNeg x2
  let u17 := sI u16 116 12 ((gI u16 116 12) + (1 : Int32))
  B_X10_choose_64 f j7 a1 x2 u17
theorem w_X10_choose_44 {z : ZT} {g : GT} {w : LT} (hL : Lay w) (C : Cx z g cX10_choose 3 RX10 none 2 0 0) {f : Nat} {r : MT} {j7 : Nat → Int32 → MT → Option MT} (q7 : ∀ (a1 : Nat) (x2 : Int32) (u : MT), lt_t w a1 = 5 → j7 a1 x2 u = some r → V z g 3 7 [(0, .ref 116), (1, .ref a1), (2, .int x2)] [] w u 0 0 (Qv w r)) {a1 : Nat} {x2 : Int32} {u : MT} (k1 : lt_t w a1 = 5) (h : B_X10_choose_44 f j7 a1 x2 u = some r) : V z g 3 44 [(0, .ref 116), (1, .ref a1), (2, .int x2)] [] w u 0 0 (Qv w r) := by
  rw [B_X10_choose_44] at h
  refine Vaload_n C 0 (dAt D_X10_choose 22 rfl) rfl rfl ?_
  refine VgetP C (dAt D_X10_choose 23 rfl) gf_X10_27 (kt_116 hL) rfl (kp_116_11 hL) ?_
  refine Vaload_n C 0 (dAt D_X10_choose 24 rfl) rfl rfl ?_
  refine VgetI C (dAt D_X10_choose 25 rfl) gf_X10_198 (kt_116 hL) rfl ?_
  refine Viload_n C 2 (dAt D_X10_choose 26 rfl) rfl rfl ?_
  obtain ⟨c15, h⟩ := ok_ck h
  refine Viast C (dAt D_X10_choose 27 rfl) (kt_122 hL) (kl_122 hL) (vp_in_iff.mpr c15) ?_
  refine Vaload_n C 0 (dAt D_X10_choose 28 rfl) rfl rfl ?_
  refine Vdup C (dAt D_X10_choose 29 rfl) rfl ?_
  refine VgetI C (dAt D_X10_choose 30 rfl) gf_X10_198 (kt_116 hL) rfl ?_
  refine Viconst (x := 1) C (dAt D_X10_choose 31 rfl) (by decide) ?_
  refine Viadd C (dAt D_X10_choose 32 rfl) ?_
  refine VputI C (dAt D_X10_choose 33 rfl) gf_X10_198 (kt_116 hL) rfl rfl rfl rfl ?_
  exact Vsub [0, 1, 2] rfl (w_X10_choose_64 hL C q7 k1 h)
def B_X10_choose_7 (f : Nat) : Nat → Nat → Int32 → MT → Option MT
  | 0, _, _, _ => none
  | n + 1, a1, x2, u =>
    if (gI u 101 2) ≤ x2 then
      ck ((gK u a1 6) ≤ 34) <|
      if (gK u a1 6) = 26 then
        if (gI u 116 12) ≤ (gI u a1 9) then
          some u
        else
          (F_X10_keepLeast f (gI u a1 9) u).bind fun r6 =>
          some r6
      else
        some u
    else
      (F_X10_room f x2 u).bind fun r8 =>
      if r8.1 ≤ 0 then
        B_X10_choose_64 f (fun a1' x2' u' => B_X10_choose_7 f n a1' x2' u') a1 x2 r8.2
      else
        ck ((gK r8.2 a1 6) ≤ 34) <|
        if (gK r8.2 a1 6) = 25 then
          if (gI r8.2 a1 9) = x2 then
            B_X10_choose_44 f (fun a1' x2' u' => B_X10_choose_7 f n a1' x2' u') a1 x2 r8.2
          else
            B_X10_choose_64 f (fun a1' x2' u' => B_X10_choose_7 f n a1' x2' u') a1 x2 r8.2
        else
          B_X10_choose_44 f (fun a1' x2' u' => B_X10_choose_7 f n a1' x2' u') a1 x2 r8.2
theorem w_X10_choose_7 {z : ZT} {g : GT} {w : LT} (hL : Lay w) (C : Cx z g cX10_choose 3 RX10 none 2 0 0) {f : Nat} {r : MT} : ∀ (n : Nat) (a1 : Nat) (x2 : Int32) (u : MT), lt_t w a1 = 5 → B_X10_choose_7 f n a1 x2 u = some r → V z g 3 7 [(0, .ref 116), (1, .ref a1), (2, .int x2)] [] w u 0 0 (Qv w r) := by
  intro n
  induction n with
  | zero =>
    intro a1 x2 u k1 h
    rw [B_X10_choose_7] at h
    cases h
  | succ n ih =>
    intro a1 x2 u k1 h
    rw [B_X10_choose_7] at h
    refine Viload_n C 2 (dAt D_X10_choose 5 rfl) rfl rfl ?_
    refine Vaload_n C 0 (dAt D_X10_choose 6 rfl) rfl rfl ?_
    refine VgetP C (dAt D_X10_choose 7 rfl) gf_X10_46 (kt_116 hL) rfl (kp_116_0 hL) ?_
    refine VgetI C (dAt D_X10_choose 8 rfl) gf_X10_137 (kt_101 hL) rfl ?_
    refine Vicmp_ge (tgt := 70) C (dAt D_X10_choose 9 rfl) (by decide) (fun c2 => ?_) (fun c2 => ?_)
    · have h := ok_t c2 h
      refine Vaload_n C 1 (dAt D_X10_choose 36 rfl) rfl rfl ?_
      refine VgetK C (dAt D_X10_choose 37 rfl) gf_X10_211 k1 rfl ?_
      refine Vtok (i := 25) (x := 26) C (dAt D_X10_choose 38 rfl) gs_X10_217 (by decide) rfl rfl ?_
      obtain ⟨c3, h⟩ := ok_ck h
      refine Vacmp_ne (tgt := 99) C (dAt D_X10_choose 39 rfl) (by decide) c3 (by decide) (fun c4 => ?_) (fun c4 => ?_)
      · have h := ok_f c4 h
        cases h
        exact Vvret C (dAt D_X10_choose 49 rfl) (by decide) (by decide) ⟨rfl, rfl, rfl⟩
      · have h := ok_t c4 h
        refine Vaload_n C 1 (dAt D_X10_choose 40 rfl) rfl rfl ?_
        refine VgetI C (dAt D_X10_choose 41 rfl) gf_X10_113 k1 rfl ?_
        refine Vaload_n C 0 (dAt D_X10_choose 42 rfl) rfl rfl ?_
        refine VgetI C (dAt D_X10_choose 43 rfl) gf_X10_198 (kt_116 hL) rfl ?_
        refine Vicmp_ge (tgt := 99) C (dAt D_X10_choose 44 rfl) (by decide) (fun c5 => ?_) (fun c5 => ?_)
        · have h := ok_t c5 h
          cases h
          exact Vvret C (dAt D_X10_choose 49 rfl) (by decide) (by decide) ⟨rfl, rfl, rfl⟩
        · have h := ok_f c5 h
          refine Vaload_n C 0 (dAt D_X10_choose 45 rfl) rfl rfl ?_
          refine Vaload_n C 1 (dAt D_X10_choose 46 rfl) rfl rfl ?_
          refine VgetI C (dAt D_X10_choose 47 rfl) gf_X10_113 k1 rfl ?_
          obtain ⟨r6, e7, h⟩ := ok_b h
          refine VcallV (as := [_]) C (dAt D_X10_choose 48 rfl) (m_X10_keepLeast hL e7) yv_X10_220 (Or.inl ⟨(kt_116 hL), by decide⟩) rfl rfl (Nat.le_of_ble_eq_true rfl) (by decide) (by decide) (by decide) (by decide) (Kvoid ?_)
          cases h
          exact Vvret C (dAt D_X10_choose 49 rfl) (by decide) (by decide) ⟨rfl, rfl, rfl⟩
    · have h := ok_f c2 h
      refine Vaload_n C 0 (dAt D_X10_choose 10 rfl) rfl rfl ?_
      refine Viload_n C 2 (dAt D_X10_choose 11 rfl) rfl rfl ?_
      obtain ⟨r8, e9, h⟩ := ok_b h
      refine VcallV (as := [_]) C (dAt D_X10_choose 12 rfl) (m_X10_room hL e9) yv_X10_140 (Or.inl ⟨(kt_116 hL), by decide⟩) rfl rfl (Nat.le_of_ble_eq_true rfl) (by decide) (by decide) (by decide) (by decide) (Kint ?_)
      refine Vif_le (tgt := 64) C (dAt D_X10_choose 13 rfl) (by decide) (fun c10 => ?_) (fun c10 => ?_)
      · have h := ok_t c10 h
        exact Vsub [0, 1, 2] rfl (w_X10_choose_64 hL C ih k1 h)
      · have h := ok_f c10 h
        refine Vaload_n C 1 (dAt D_X10_choose 14 rfl) rfl rfl ?_
        refine VgetK C (dAt D_X10_choose 15 rfl) gf_X10_211 k1 rfl ?_
        refine Vtok (i := 24) (x := 25) C (dAt D_X10_choose 16 rfl) gs_X10_214 (by decide) rfl rfl ?_
        obtain ⟨c11, h⟩ := ok_ck h
        refine Vacmp_ne (tgt := 44) C (dAt D_X10_choose 17 rfl) (by decide) c11 (by decide) (fun c12 => ?_) (fun c12 => ?_)
        · have h := ok_f c12 h
          exact Vsub [0, 1, 2] rfl (w_X10_choose_44 hL C ih k1 h)
        · have h := ok_t c12 h
          refine Vaload_n C 1 (dAt D_X10_choose 18 rfl) rfl rfl ?_
          refine VgetI C (dAt D_X10_choose 19 rfl) gf_X10_113 k1 rfl ?_
          refine Viload_n C 2 (dAt D_X10_choose 20 rfl) rfl rfl ?_
          refine Vicmp_ne (tgt := 64) C (dAt D_X10_choose 21 rfl) (by decide) (fun c13 => ?_) (fun c13 => ?_)
          · have h := ok_f c13 h
            exact Vsub [0, 1, 2] rfl (w_X10_choose_64 hL C ih k1 h)
          · have h := ok_t c13 h
            exact Vsub [0, 1, 2] rfl (w_X10_choose_44 hL C ih k1 h)
def F_X10_choose (f : Nat) (a1 : Nat) (u : MT) : Option MT :=
  let u1 := sI u 116 12 (0 : Int32)
  B_X10_choose_7 f f a1 (0 : Int32) u1
theorem m_X10_choose {g : GT} {w : LT} (hL : Lay w) {a1 : Nat} {f : Nat} {u : MT} {r : MT} (k1 : lt_t w a1 = 5) (h : F_X10_choose f a1 u = some r) : Mt g yX10_choose cX10_choose 3 none 2 0 0 [.ref 116, .ref a1] w u (Qv w r) := by
  refine Mt_of (own := RX10) (by decide +kernel) rfl (Nat.le_of_ble_eq_true rfl) (fun z C _ => ?_)
  show V z g 3 0 [(0, .ref 116), (1, .ref a1)] [] w u 0 0 (Qv w r)
  rw [F_X10_choose] at h
  refine Vaload_n C 0 (dAt D_X10_choose 0 rfl) rfl rfl ?_
  refine Viconst (x := 0) C (dAt D_X10_choose 1 rfl) (by decide) ?_
  refine VputI C (dAt D_X10_choose 2 rfl) gf_X10_198 (kt_116 hL) rfl rfl rfl rfl ?_
  refine Viconst (x := 0) C (dAt D_X10_choose 3 rfl) (by decide) ?_
  refine Vistore_n (lv' := [(2, _), (0, _), (1, _)]) C (dAt D_X10_choose 4 rfl) rfl (by decide) rfl ?_
  exact Vsub [1, 2, 0] rfl (w_X10_choose_7 hL C  f _ _ _ k1 h)
def B_X10_weigh_74 (f : Nat) (j5 : Nat → Int64 → Int32 → MT → Option (Int64 × MT)) (a1 : Nat) (x2 : Int64) (x4 : Int32) (x5 : Int32) (u : MT) : Option (Int64 × MT) :=
  ck (ixo x5 12) <|
  let v13 := (x2 + ((gI u 124 (x5).toNatClampNeg)).toInt64)
  let v14 := x4 + 1
  j5 a1 v13 v14 u
theorem w_X10_weigh_74 {z : ZT} {g : GT} {w : LT} (hL : Lay w) (C : Cx z g cX10_weigh 6 RX10 (some .long) 1 0 0) {f : Nat} {r : (Int64 × MT)} {j5 : Nat → Int64 → Int32 → MT → Option (Int64 × MT)} (q5 : ∀ (a1 : Nat) (x2 : Int64) (x4 : Int32) (u : MT), j5 a1 x2 x4 u = some r → V z g 6 5 [(0, .ref 116), (1, .ref a1), (2, .long x2), (4, .int x4)] [] w u 0 0 (Ql r.1 w r.2)) {a1 : Nat} {x2 : Int64} {x4 : Int32} {x5 : Int32} {u : MT} (h : B_X10_weigh_74 f j5 a1 x2 x4 x5 u = some r) : V z g 6 74 [(0, .ref 116), (1, .ref a1), (2, .long x2), (4, .int x4), (5, .int x5)] [] w u 0 0 (Ql r.1 w r.2) := by
  rw [B_X10_weigh_74] at h
  refine Vlload_n C 2 (dAt D_X10_weigh 38 rfl) rfl rfl ?_
  refine Vaload_n C 0 (dAt D_X10_weigh 39 rfl) rfl rfl ?_
  refine VgetP C (dAt D_X10_weigh 40 rfl) gf_X10_34 (kt_116 hL) rfl (kp_116_14 hL) ?_
  refine Viload C 4 (dAt D_X10_weigh 41 rfl) rfl ?_
  obtain ⟨c12, h⟩ := ok_ck h
  refine Viald C (dAt D_X10_weigh 42 rfl) (kt_124 hL) (kl_124 hL) (vp_in_iff.mpr c12) ?_
  refine Vi2l C (dAt D_X10_weigh 43 rfl) ?_
  refine Vladd C (dAt D_X10_weigh 44 rfl) ?_
  refine Vlstore_n (lv' := [(2, _), (0, _), (1, _), (4, _), (5, _)]) C (dAt D_X10_weigh 45 rfl) rfl (by decide) rfl ?_
  refine Viinc (j := 3) (v := _ + 1) (lv' := [(4, _), (2, _), (0, _), (1, _), (5, _)]) C (dAt D_X10_weigh 46 rfl) rfl rfl (by decide) rfl ?_
  refine Vgoto (tgt := 5) C (dAt D_X10_weigh 47 rfl) (by decide) ?_
  exact Vsub [2, 3, 1, 0] rfl (q5 _ _ _ _  h)
def B_X10_weigh_73 (f : Nat) (j5 : Nat → Int64 → Int32 → MT → Option (Int64 × MT)) (a1 : Nat) (x2 : Int64) (x4 : Int32) (x5 : Int32) (s0 : Int32) (s1 : Int32) (u : MT) : Option (Int64 × MT) :=
  ck (ixo s1 12) <|
  let u16 := sI u 124 (s1).toNatClampNeg s0
  B_X10_weigh_74 f j5 a1 x2 x4 x5 u16
theorem w_X10_weigh_73 {z : ZT} {g : GT} {w : LT} (hL : Lay w) (C : Cx z g cX10_weigh 6 RX10 (some .long) 1 0 0) {f : Nat} {r : (Int64 × MT)} {j5 : Nat → Int64 → Int32 → MT → Option (Int64 × MT)} (q5 : ∀ (a1 : Nat) (x2 : Int64) (x4 : Int32) (u : MT), j5 a1 x2 x4 u = some r → V z g 6 5 [(0, .ref 116), (1, .ref a1), (2, .long x2), (4, .int x4)] [] w u 0 0 (Ql r.1 w r.2)) {a1 : Nat} {x2 : Int64} {x4 : Int32} {x5 : Int32} {s0 : Int32} {s1 : Int32} {u : MT} (h : B_X10_weigh_73 f j5 a1 x2 x4 x5 s0 s1 u = some r) : V z g 6 73 [(0, .ref 116), (1, .ref a1), (2, .long x2), (4, .int x4), (5, .int x5)] [.int s0, .int s1, .ref 124] w u 0 0 (Ql r.1 w r.2) := by
  rw [B_X10_weigh_73] at h
  obtain ⟨c15, h⟩ := ok_ck h
  refine Viast C (dAt D_X10_weigh 37 rfl) (kt_124 hL) (kl_124 hL) (vp_in_iff.mpr c15) ?_
  exact Vsub [0, 1, 2, 3, 4] rfl (w_X10_weigh_74 hL C q5  h)
def B_X10_weigh_5 (f : Nat) : Nat → Nat → Int64 → Int32 → MT → Option (Int64 × MT)
  | 0, _, _, _, _ => none
  | n + 1, a1, x2, x4, u =>
    if (gI u 116 12) ≤ x4 then
      some (x2, u)
    else
      ck (ixo x4 12) <|
      let v3 := (gI u 122 (x4).toNatClampNeg)
      ck (a1 ≤ 34) <|
      if a1 = 27 then
        ck (ixo v3 12) <|
        let u7 := sI u 124 (v3).toNatClampNeg (1 : Int32)
        B_X10_weigh_74 f (fun a1' x2' x4' u' => B_X10_weigh_5 f n a1' x2' x4' u') a1 x2 x4 v3 u7
      else
        if a1 = 28 then
          (F_X10_room f v3 u).bind fun r9 =>
          B_X10_weigh_73 f (fun a1' x2' x4' u' => B_X10_weigh_5 f n a1' x2' x4' u') a1 x2 x4 v3 r9.1 v3 r9.2
        else
          ck (ixo v3 12) <|
          B_X10_weigh_73 f (fun a1' x2' x4' u' => B_X10_weigh_5 f n a1' x2' x4' u') a1 x2 x4 v3 (gI u 102 (v3).toNatClampNeg) v3 u
theorem w_X10_weigh_5 {z : ZT} {g : GT} {w : LT} (hL : Lay w) (C : Cx z g cX10_weigh 6 RX10 (some .long) 1 0 0) {f : Nat} {r : (Int64 × MT)} : ∀ (n : Nat) (a1 : Nat) (x2 : Int64) (x4 : Int32) (u : MT), B_X10_weigh_5 f n a1 x2 x4 u = some r → V z g 6 5 [(0, .ref 116), (1, .ref a1), (2, .long x2), (4, .int x4)] [] w u 0 0 (Ql r.1 w r.2) := by
  intro n
  induction n with
  | zero =>
    intro a1 x2 x4 u h
    rw [B_X10_weigh_5] at h
    cases h
  | succ n ih =>
    intro a1 x2 x4 u h
    rw [B_X10_weigh_5] at h
    refine Viload C 3 (dAt D_X10_weigh 4 rfl) rfl ?_
    refine Vaload_n C 0 (dAt D_X10_weigh 5 rfl) rfl rfl ?_
    refine VgetI C (dAt D_X10_weigh 6 rfl) gf_X10_198 (kt_116 hL) rfl ?_
    refine Vicmp_ge (tgt := 91) C (dAt D_X10_weigh 7 rfl) (by decide) (fun c1 => ?_) (fun c1 => ?_)
    · have h := ok_t c1 h
      refine Vlload_n C 2 (dAt D_X10_weigh 48 rfl) rfl rfl ?_
      cases h
      exact Vlret C (dAt D_X10_weigh 49 rfl) (by decide) (by decide) ⟨rfl, rfl, rfl⟩
    · have h := ok_f c1 h
      refine Vaload_n C 0 (dAt D_X10_weigh 8 rfl) rfl rfl ?_
      refine VgetP C (dAt D_X10_weigh 9 rfl) gf_X10_27 (kt_116 hL) rfl (kp_116_11 hL) ?_
      refine Viload C 3 (dAt D_X10_weigh 10 rfl) rfl ?_
      obtain ⟨c2, h⟩ := ok_ck h
      refine Viald C (dAt D_X10_weigh 11 rfl) (kt_122 hL) (kl_122 hL) (vp_in_iff.mpr c2) ?_
      refine Vistore (lv' := [(5, _), (0, _), (1, _), (2, _), (4, _)]) C (dAt D_X10_weigh 12 rfl) (by decide) rfl ?_
      refine Vaload_n C 2 (dAt D_X10_weigh 13 rfl) rfl rfl ?_
      refine Vtok (i := 26) (x := 27) C (dAt D_X10_weigh 14 rfl) gs_X10_227 (by decide) rfl rfl ?_
      obtain ⟨c4, h⟩ := ok_ck h
      refine Vacmp_ne (tgt := 41) C (dAt D_X10_weigh 15 rfl) (by decide) c4 (by decide) (fun c5 => ?_) (fun c5 => ?_)
      · have h := ok_f c5 h
        refine Vaload_n C 1 (dAt D_X10_weigh 22 rfl) rfl rfl ?_
        refine VgetP C (dAt D_X10_weigh 23 rfl) gf_X10_34 (kt_116 hL) rfl (kp_116_14 hL) ?_
        refine Viload C 0 (dAt D_X10_weigh 24 rfl) rfl ?_
        refine Vaload_n C 2 (dAt D_X10_weigh 25 rfl) rfl rfl ?_
        refine Vtok (i := 27) (x := 28) C (dAt D_X10_weigh 26 rfl) gs_X10_230 (by decide) rfl rfl ?_
        refine Vacmp_ne (tgt := 63) C (dAt D_X10_weigh 27 rfl) (by decide) c4 (by decide) (fun c8 => ?_) (fun c8 => ?_)
        · have h := ok_f c8 h
          refine Vaload_n C 1 (dAt D_X10_weigh 32 rfl) rfl rfl ?_
          refine VgetP C (dAt D_X10_weigh 33 rfl) gf_X10_46 (kt_116 hL) rfl (kp_116_0 hL) ?_
          refine VgetP C (dAt D_X10_weigh 34 rfl) gf_X10_233 (kt_101 hL) rfl (kp_101_0 hL) ?_
          refine Viload C 0 (dAt D_X10_weigh 35 rfl) rfl ?_
          obtain ⟨c11, h⟩ := ok_ck h
          refine Viald C (dAt D_X10_weigh 36 rfl) (kt_102 hL) (kl_102 hL) (vp_in_iff.mpr c11) ?_
          exact Vsub [1, 2, 3, 4, 0] rfl (w_X10_weigh_73 hL C ih  h)
        · have h := ok_t c8 h
          refine Vaload_n C 1 (dAt D_X10_weigh 28 rfl) rfl rfl ?_
          refine Viload C 0 (dAt D_X10_weigh 29 rfl) rfl ?_
          obtain ⟨r9, e10, h⟩ := ok_b h
          refine VcallV (as := [_]) C (dAt D_X10_weigh 30 rfl) (m_X10_room hL e10) yv_X10_140 (Or.inl ⟨(kt_116 hL), by decide⟩) rfl rfl (Nat.le_of_ble_eq_true rfl) (by decide) (by decide) (by decide) (by decide) (Kint ?_)
          refine Vgoto (tgt := 73) C (dAt D_X10_weigh 31 rfl) (by decide) ?_
          exact Vsub [1, 2, 3, 4, 0] rfl (w_X10_weigh_73 hL C ih  h)
      · have h := ok_t c5 h
        refine Vaload_n C 1 (dAt D_X10_weigh 16 rfl) rfl rfl ?_
        refine VgetP C (dAt D_X10_weigh 17 rfl) gf_X10_34 (kt_116 hL) rfl (kp_116_14 hL) ?_
        refine Viload C 0 (dAt D_X10_weigh 18 rfl) rfl ?_
        refine Viconst (x := 1) C (dAt D_X10_weigh 19 rfl) (by decide) ?_
        obtain ⟨c6, h⟩ := ok_ck h
        refine Viast C (dAt D_X10_weigh 20 rfl) (kt_124 hL) (kl_124 hL) (vp_in_iff.mpr c6) ?_
        refine Vgoto (tgt := 74) C (dAt D_X10_weigh 21 rfl) (by decide) ?_
        exact Vsub [1, 2, 3, 4, 0] rfl (w_X10_weigh_74 hL C ih  h)
def F_X10_weigh (f : Nat) (a1 : Nat) (u : MT) : Option (Int64 × MT) :=
  B_X10_weigh_5 f f a1 (0 : Int64) (0 : Int32) u
theorem m_X10_weigh {g : GT} {w : LT} (hL : Lay w) {a1 : Nat} {f : Nat} {u : MT} {r : (Int64 × MT)} (h : F_X10_weigh f a1 u = some r) : Mt g yX10_weigh cX10_weigh 6 (some .long) 1 0 0 [.ref 116, .ref a1] w u (Ql r.1 w r.2) := by
  refine Mt_of (own := RX10) (by decide +kernel) rfl (Nat.le_of_ble_eq_true rfl) (fun z C _ => ?_)
  show V z g 6 0 [(0, .ref 116), (1, .ref a1)] [] w u 0 0 (Ql r.1 w r.2)
  rw [F_X10_weigh] at h
  refine Vlconst (x := 0) C (dAt D_X10_weigh 0 rfl) (by decide) ?_
  refine Vlstore_n (lv' := [(2, _), (0, _), (1, _)]) C (dAt D_X10_weigh 1 rfl) rfl (by decide) rfl ?_
  refine Viconst (x := 0) C (dAt D_X10_weigh 2 rfl) (by decide) ?_
  refine Vistore (lv' := [(4, _), (2, _), (0, _), (1, _)]) C (dAt D_X10_weigh 3 rfl) (by decide) rfl ?_
  exact Vsub [2, 3, 1, 0] rfl (w_X10_weigh_5 hL C  f _ _ _ _  h)
def B_X10_hand_52 (f : Nat) (a1 : Nat) (x3 : Int32) (x4 : Int32) (u : MT) : Option MT :=
  ck ((gK u a1 5) ≤ 34) <|
  if (gK u a1 5) = 9 then
    let u9 := sI u 116 4 ((gI u 116 4) - x4)
    ck (ixo x3 12) <|
    let u11 := sI u9 120 (x3).toNatClampNeg ((gI u9 120 (x3).toNatClampNeg) + x4)
    some u11
  else
    let u12 := sI u 116 5 ((gI u 116 5) - x4)
    ck (ixo x3 12) <|
    let u14 := sI u12 121 (x3).toNatClampNeg ((gI u12 121 (x3).toNatClampNeg) + x4)
    some u14
theorem w_X10_hand_52 {z : ZT} {g : GT} {w : LT} (hL : Lay w) (C : Cx z g cX10_hand 5 RX10 none 0 0 0) {f : Nat} {r : MT} {a1 : Nat} {x3 : Int32} {x4 : Int32} {u : MT} (k1 : lt_t w a1 = 5) (h : B_X10_hand_52 f a1 x3 x4 u = some r) : V z g 5 52 [(0, .ref 116), (1, .ref a1), (3, .int x3), (4, .int x4)] [] w u 0 0 (Qv w r) := by
  rw [B_X10_hand_52] at h
  refine Vaload_n C 1 (dAt D_X10_hand 36 rfl) rfl rfl ?_
  refine VgetK C (dAt D_X10_hand 37 rfl) gf_X10_127 k1 rfl ?_
  refine Vtok (i := 8) (x := 9) C (dAt D_X10_hand 38 rfl) gs_X10_130 (by decide) rfl rfl ?_
  obtain ⟨c7, h⟩ := ok_ck h
  refine Vacmp_ne (tgt := 87) C (dAt D_X10_hand 39 rfl) (by decide) c7 (by decide) (fun c8 => ?_) (fun c8 => ?_)
  · have h := ok_f c8 h
    refine Vaload_n C 0 (dAt D_X10_hand 55 rfl) rfl rfl ?_
    refine Vdup C (dAt D_X10_hand 56 rfl) rfl ?_
    refine VgetI C (dAt D_X10_hand 57 rfl) gf_X10_69 (kt_116 hL) rfl ?_
    refine Viload C 3 (dAt D_X10_hand 58 rfl) rfl ?_
    refine Visub C (dAt D_X10_hand 59 rfl) ?_
    refine VputI C (dAt D_X10_hand 60 rfl) gf_X10_69 (kt_116 hL) rfl rfl rfl rfl ?_
    refine Vaload_n C 0 (dAt D_X10_hand 61 rfl) rfl rfl ?_
    refine VgetP C (dAt D_X10_hand 62 rfl) gf_X10_24 (kt_116 hL) rfl (kp_116_10 hL) ?_
    refine Viload_n C 2 (dAt D_X10_hand 63 rfl) rfl rfl ?_
    refine Vdup2 C (dAt D_X10_hand 64 rfl) rfl rfl ?_
    obtain ⟨c13, h⟩ := ok_ck h
    refine Viald C (dAt D_X10_hand 65 rfl) (kt_121 hL) (kl_121 hL) (vp_in_iff.mpr c13) ?_
    refine Viload C 3 (dAt D_X10_hand 66 rfl) rfl ?_
    refine Viadd C (dAt D_X10_hand 67 rfl) ?_
    refine Viast C (dAt D_X10_hand 68 rfl) (kt_121 hL) (kl_121 hL) (vp_in_iff.mpr c13) ?_
    cases h
    exact Vvret C (dAt D_X10_hand 69 rfl) (by decide) (by decide) ⟨rfl, rfl, rfl⟩
  · have h := ok_t c8 h
    refine Vaload_n C 0 (dAt D_X10_hand 40 rfl) rfl rfl ?_
    refine Vdup C (dAt D_X10_hand 41 rfl) rfl ?_
    refine VgetI C (dAt D_X10_hand 42 rfl) gf_X10_66 (kt_116 hL) rfl ?_
    refine Viload C 3 (dAt D_X10_hand 43 rfl) rfl ?_
    refine Visub C (dAt D_X10_hand 44 rfl) ?_
    refine VputI C (dAt D_X10_hand 45 rfl) gf_X10_66 (kt_116 hL) rfl rfl rfl rfl ?_
    refine Vaload_n C 0 (dAt D_X10_hand 46 rfl) rfl rfl ?_
    refine VgetP C (dAt D_X10_hand 47 rfl) gf_X10_21 (kt_116 hL) rfl (kp_116_9 hL) ?_
    refine Viload_n C 2 (dAt D_X10_hand 48 rfl) rfl rfl ?_
    refine Vdup2 C (dAt D_X10_hand 49 rfl) rfl rfl ?_
    obtain ⟨c10, h⟩ := ok_ck h
    refine Viald C (dAt D_X10_hand 50 rfl) (kt_120 hL) (kl_120 hL) (vp_in_iff.mpr c10) ?_
    refine Viload C 3 (dAt D_X10_hand 51 rfl) rfl ?_
    refine Viadd C (dAt D_X10_hand 52 rfl) ?_
    refine Viast C (dAt D_X10_hand 53 rfl) (kt_120 hL) (kl_120 hL) (vp_in_iff.mpr c10) ?_
    refine Vgoto (tgt := 109) C (dAt D_X10_hand 54 rfl) (by decide) ?_
    cases h
    exact Vvret C (dAt D_X10_hand 69 rfl) (by decide) (by decide) ⟨rfl, rfl, rfl⟩
def F_X10_hand (f : Nat) (a1 : Nat) (x2 : Int32) (x3 : Int32) (x4 : Int32) (u : MT) : Option MT :=
  ck (ixo x3 12) <|
  let u2 := sI u 117 (x3).toNatClampNeg ((gI u 117 (x3).toNatClampNeg) - x4)
  let u3 := sI u2 118 (x3).toNatClampNeg ((gI u2 118 (x3).toNatClampNeg) - x4)
  let u4 := sI u3 119 (x3).toNatClampNeg ((gI u3 119 (x3).toNatClampNeg) + x4)
  if x2 = (gI u4 116 16) then
    let u6 := sI u4 126 (x3).toNatClampNeg ((gI u4 126 (x3).toNatClampNeg) + x4)
    B_X10_hand_52 f a1 x3 x4 u6
  else
    B_X10_hand_52 f a1 x3 x4 u4
theorem m_X10_hand {g : GT} {w : LT} (hL : Lay w) {a1 : Nat} {x2 : Int32} {x3 : Int32} {x4 : Int32} {f : Nat} {u : MT} {r : MT} (k1 : lt_t w a1 = 5) (h : F_X10_hand f a1 x2 x3 x4 u = some r) : Mt g yX10_hand cX10_hand 5 none 0 0 0 [.ref 116, .ref a1, .int x2, .int x3, .int x4] w u (Qv w r) := by
  refine Mt_of (own := RX10) (by decide +kernel) rfl (Nat.le_of_ble_eq_true rfl) (fun z C _ => ?_)
  show V z g 5 0 [(0, .ref 116), (1, .ref a1), (2, .int x2), (3, .int x3), (4, .int x4)] [] w u 0 0 (Qv w r)
  rw [F_X10_hand] at h
  refine Vaload_n C 0 (dAt D_X10_hand 0 rfl) rfl rfl ?_
  refine VgetP C (dAt D_X10_hand 1 rfl) gf_X10_9 (kt_116 hL) rfl (kp_116_6 hL) ?_
  refine Viload_n C 3 (dAt D_X10_hand 2 rfl) rfl rfl ?_
  refine Vdup2 C (dAt D_X10_hand 3 rfl) rfl rfl ?_
  obtain ⟨c1, h⟩ := ok_ck h
  refine Viald C (dAt D_X10_hand 4 rfl) (kt_117 hL) (kl_117 hL) (vp_in_iff.mpr c1) ?_
  refine Viload C 4 (dAt D_X10_hand 5 rfl) rfl ?_
  refine Visub C (dAt D_X10_hand 6 rfl) ?_
  refine Viast C (dAt D_X10_hand 7 rfl) (kt_117 hL) (kl_117 hL) (vp_in_iff.mpr c1) ?_
  refine Vaload_n C 0 (dAt D_X10_hand 8 rfl) rfl rfl ?_
  refine VgetP C (dAt D_X10_hand 9 rfl) gf_X10_15 (kt_116 hL) rfl (kp_116_7 hL) ?_
  refine Viload_n C 3 (dAt D_X10_hand 10 rfl) rfl rfl ?_
  refine Vdup2 C (dAt D_X10_hand 11 rfl) rfl rfl ?_
  refine Viald C (dAt D_X10_hand 12 rfl) (kt_118 hL) (kl_118 hL) (vp_in_iff.mpr c1) ?_
  refine Viload C 4 (dAt D_X10_hand 13 rfl) rfl ?_
  refine Visub C (dAt D_X10_hand 14 rfl) ?_
  refine Viast C (dAt D_X10_hand 15 rfl) (kt_118 hL) (kl_118 hL) (vp_in_iff.mpr c1) ?_
  refine Vaload_n C 0 (dAt D_X10_hand 16 rfl) rfl rfl ?_
  refine VgetP C (dAt D_X10_hand 17 rfl) gf_X10_18 (kt_116 hL) rfl (kp_116_8 hL) ?_
  refine Viload_n C 3 (dAt D_X10_hand 18 rfl) rfl rfl ?_
  refine Vdup2 C (dAt D_X10_hand 19 rfl) rfl rfl ?_
  refine Viald C (dAt D_X10_hand 20 rfl) (kt_119 hL) (kl_119 hL) (vp_in_iff.mpr c1) ?_
  refine Viload C 4 (dAt D_X10_hand 21 rfl) rfl ?_
  refine Viadd C (dAt D_X10_hand 22 rfl) ?_
  refine Viast C (dAt D_X10_hand 23 rfl) (kt_119 hL) (kl_119 hL) (vp_in_iff.mpr c1) ?_
  refine Viload_n C 2 (dAt D_X10_hand 24 rfl) rfl rfl ?_
  refine Vaload_n C 0 (dAt D_X10_hand 25 rfl) rfl rfl ?_
  refine VgetI C (dAt D_X10_hand 26 rfl) gf_X10_60 (kt_116 hL) rfl ?_
  refine Vicmp_ne (tgt := 52) C (dAt D_X10_hand 27 rfl) (by decide) (fun c5 => ?_) (fun c5 => ?_)
  · have h := ok_f c5 h
    exact Vsub [0, 1, 3, 4] rfl (w_X10_hand_52 hL C k1 h)
  · have h := ok_t c5 h
    refine Vaload_n C 0 (dAt D_X10_hand 28 rfl) rfl rfl ?_
    refine VgetP C (dAt D_X10_hand 29 rfl) gf_X10_40 (kt_116 hL) rfl (kp_116_18 hL) ?_
    refine Viload_n C 3 (dAt D_X10_hand 30 rfl) rfl rfl ?_
    refine Vdup2 C (dAt D_X10_hand 31 rfl) rfl rfl ?_
    refine Viald C (dAt D_X10_hand 32 rfl) (kt_126 hL) (kl_126 hL) (vp_in_iff.mpr c1) ?_
    refine Viload C 4 (dAt D_X10_hand 33 rfl) rfl ?_
    refine Viadd C (dAt D_X10_hand 34 rfl) ?_
    refine Viast C (dAt D_X10_hand 35 rfl) (kt_126 hL) (kl_126 hL) (vp_in_iff.mpr c1) ?_
    exact Vsub [0, 1, 3, 4] rfl (w_X10_hand_52 hL C k1 h)
def B_X10_sortByWant_65 (f : Nat) (j2 : Int32 → MT → Option MT) (x1 : Int32) (x2 : Int32) (x3 : Int32) (u : MT) : Option MT :=
  ck (ixo x3 12) <|
  let u13 := sI u 122 (x3).toNatClampNeg x2
  let v14 := x1 + 1
  j2 v14 u13
theorem w_X10_sortByWant_65 {z : ZT} {g : GT} {w : LT} (hL : Lay w) (C : Cx z g cX10_sortByWant 4 RX10 none 0 0 0) {f : Nat} {r : MT} {j2 : Int32 → MT → Option MT} (q2 : ∀ (x1 : Int32) (u : MT), j2 x1 u = some r → V z g 4 2 [(0, .ref 116), (1, .int x1)] [] w u 0 0 (Qv w r)) {x1 : Int32} {x2 : Int32} {x3 : Int32} {u : MT} (h : B_X10_sortByWant_65 f j2 x1 x2 x3 u = some r) : V z g 4 65 [(0, .ref 116), (1, .int x1), (2, .int x2), (3, .int x3)] [] w u 0 0 (Qv w r) := by
  rw [B_X10_sortByWant_65] at h
  refine Vaload_n C 0 (dAt D_X10_sortByWant 41 rfl) rfl rfl ?_
  refine VgetP C (dAt D_X10_sortByWant 42 rfl) gf_X10_27 (kt_116 hL) rfl (kp_116_11 hL) ?_
  refine Viload_n C 3 (dAt D_X10_sortByWant 43 rfl) rfl rfl ?_
  refine Viload_n C 2 (dAt D_X10_sortByWant 44 rfl) rfl rfl ?_
  obtain ⟨c12, h⟩ := ok_ck h
  refine Viast C (dAt D_X10_sortByWant 45 rfl) (kt_122 hL) (kl_122 hL) (vp_in_iff.mpr c12) ?_
  refine Viinc (j := 1) (v := _ + 1) (lv' := [(1, _), (0, _), (2, _), (3, _)]) C (dAt D_X10_sortByWant 46 rfl) rfl rfl (by decide) rfl ?_
  refine Vgoto (tgt := 2) C (dAt D_X10_sortByWant 47 rfl) (by decide) ?_
  exact Vsub [1, 0] rfl (q2 _ _  h)
def B_X10_sortByWant_19 (f : Nat) (j2 : Int32 → MT → Option MT) : Nat → Int32 → Int32 → Int32 → MT → Option MT
  | 0, _, _, _, _ => none
  | n + 1, x1, x2, x3, u =>
    if x3 ≤ 0 then
      B_X10_sortByWant_65 f j2 x1 x2 x3 u
    else
      ck (ixo (x3 - (1 : Int32)) 12) <|
      ck (ixo (gI u 122 ((x3 - (1 : Int32))).toNatClampNeg) 12) <|
      ck (ixo x2 12) <|
      if (gI u 117 (x2).toNatClampNeg) ≤ (gI u 117 ((gI u 122 ((x3 - (1 : Int32))).toNatClampNeg)).toNatClampNeg) then
        B_X10_sortByWant_65 f j2 x1 x2 x3 u
      else
        ck (ixo x3 12) <|
        let u10 := sI u 122 (x3).toNatClampNeg (gI u 122 ((x3 - (1 : Int32))).toNatClampNeg)
        let v11 := x3 + (-1)
        B_X10_sortByWant_19 f j2 n x1 x2 v11 u10
theorem w_X10_sortByWant_19 {z : ZT} {g : GT} {w : LT} (hL : Lay w) (C : Cx z g cX10_sortByWant 4 RX10 none 0 0 0) {f : Nat} {r : MT} {j2 : Int32 → MT → Option MT} (q2 : ∀ (x1 : Int32) (u : MT), j2 x1 u = some r → V z g 4 2 [(0, .ref 116), (1, .int x1)] [] w u 0 0 (Qv w r)) : ∀ (n : Nat) (x1 : Int32) (x2 : Int32) (x3 : Int32) (u : MT), B_X10_sortByWant_19 f j2 n x1 x2 x3 u = some r → V z g 4 19 [(0, .ref 116), (1, .int x1), (2, .int x2), (3, .int x3)] [] w u 0 0 (Qv w r) := by
  intro n
  induction n with
  | zero =>
    intro x1 x2 x3 u h
    rw [B_X10_sortByWant_19] at h
    cases h
  | succ n ih =>
    intro x1 x2 x3 u h
    rw [B_X10_sortByWant_19] at h
    refine Viload_n C 3 (dAt D_X10_sortByWant 13 rfl) rfl rfl ?_
    refine Vif_le (tgt := 65) C (dAt D_X10_sortByWant 14 rfl) (by decide) (fun c4 => ?_) (fun c4 => ?_)
    · have h := ok_t c4 h
      exact Vsub [0, 1, 2, 3] rfl (w_X10_sortByWant_65 hL C q2  h)
    · have h := ok_f c4 h
      refine Vaload_n C 0 (dAt D_X10_sortByWant 15 rfl) rfl rfl ?_
      refine VgetP C (dAt D_X10_sortByWant 16 rfl) gf_X10_9 (kt_116 hL) rfl (kp_116_6 hL) ?_
      refine Vaload_n C 0 (dAt D_X10_sortByWant 17 rfl) rfl rfl ?_
      refine VgetP C (dAt D_X10_sortByWant 18 rfl) gf_X10_27 (kt_116 hL) rfl (kp_116_11 hL) ?_
      refine Viload_n C 3 (dAt D_X10_sortByWant 19 rfl) rfl rfl ?_
      refine Viconst (x := 1) C (dAt D_X10_sortByWant 20 rfl) (by decide) ?_
      refine Visub C (dAt D_X10_sortByWant 21 rfl) ?_
      obtain ⟨c5, h⟩ := ok_ck h
      refine Viald C (dAt D_X10_sortByWant 22 rfl) (kt_122 hL) (kl_122 hL) (vp_in_iff.mpr c5) ?_
      obtain ⟨c6, h⟩ := ok_ck h
      refine Viald C (dAt D_X10_sortByWant 23 rfl) (kt_117 hL) (kl_117 hL) (vp_in_iff.mpr c6) ?_
      refine Vaload_n C 0 (dAt D_X10_sortByWant 24 rfl) rfl rfl ?_
      refine VgetP C (dAt D_X10_sortByWant 25 rfl) gf_X10_9 (kt_116 hL) rfl (kp_116_6 hL) ?_
      refine Viload_n C 2 (dAt D_X10_sortByWant 26 rfl) rfl rfl ?_
      obtain ⟨c7, h⟩ := ok_ck h
      refine Viald C (dAt D_X10_sortByWant 27 rfl) (kt_117 hL) (kl_117 hL) (vp_in_iff.mpr c7) ?_
      refine Vicmp_ge (tgt := 65) C (dAt D_X10_sortByWant 28 rfl) (by decide) (fun c8 => ?_) (fun c8 => ?_)
      · have h := ok_t c8 h
        exact Vsub [0, 1, 2, 3] rfl (w_X10_sortByWant_65 hL C q2  h)
      · have h := ok_f c8 h
        refine Vaload_n C 0 (dAt D_X10_sortByWant 29 rfl) rfl rfl ?_
        refine VgetP C (dAt D_X10_sortByWant 30 rfl) gf_X10_27 (kt_116 hL) rfl (kp_116_11 hL) ?_
        refine Viload_n C 3 (dAt D_X10_sortByWant 31 rfl) rfl rfl ?_
        refine Vaload_n C 0 (dAt D_X10_sortByWant 32 rfl) rfl rfl ?_
        refine VgetP C (dAt D_X10_sortByWant 33 rfl) gf_X10_27 (kt_116 hL) rfl (kp_116_11 hL) ?_
        refine Viload_n C 3 (dAt D_X10_sortByWant 34 rfl) rfl rfl ?_
        refine Viconst (x := 1) C (dAt D_X10_sortByWant 35 rfl) (by decide) ?_
        refine Visub C (dAt D_X10_sortByWant 36 rfl) ?_
        refine Viald C (dAt D_X10_sortByWant 37 rfl) (kt_122 hL) (kl_122 hL) (vp_in_iff.mpr c5) ?_
        obtain ⟨c9, h⟩ := ok_ck h
        refine Viast C (dAt D_X10_sortByWant 38 rfl) (kt_122 hL) (kl_122 hL) (vp_in_iff.mpr c9) ?_
        refine Viinc (j := 3) (v := _ + (-1)) (lv' := [(3, _), (0, _), (1, _), (2, _)]) C (dAt D_X10_sortByWant 39 rfl) rfl rfl (by decide) rfl ?_
        refine Vgoto (tgt := 19) C (dAt D_X10_sortByWant 40 rfl) (by decide) ?_
        exact Vsub [1, 2, 3, 0] rfl (ih _ _ _ _  h)
def B_X10_sortByWant_2 (f : Nat) : Nat → Int32 → MT → Option MT
  | 0, _, _ => none
  | n + 1, x1, u =>
    if (gI u 116 12) ≤ x1 then
      some u
    else
      ck (ixo x1 12) <|
      let v3 := (gI u 122 (x1).toNatClampNeg)
      B_X10_sortByWant_19 f (fun x1' u' => B_X10_sortByWant_2 f n x1' u') f x1 v3 x1 u
theorem w_X10_sortByWant_2 {z : ZT} {g : GT} {w : LT} (hL : Lay w) (C : Cx z g cX10_sortByWant 4 RX10 none 0 0 0) {f : Nat} {r : MT} : ∀ (n : Nat) (x1 : Int32) (u : MT), B_X10_sortByWant_2 f n x1 u = some r → V z g 4 2 [(0, .ref 116), (1, .int x1)] [] w u 0 0 (Qv w r) := by
  intro n
  induction n with
  | zero =>
    intro x1 u h
    rw [B_X10_sortByWant_2] at h
    cases h
  | succ n ih =>
    intro x1 u h
    rw [B_X10_sortByWant_2] at h
    refine Viload_n C 1 (dAt D_X10_sortByWant 2 rfl) rfl rfl ?_
    refine Vaload_n C 0 (dAt D_X10_sortByWant 3 rfl) rfl rfl ?_
    refine VgetI C (dAt D_X10_sortByWant 4 rfl) gf_X10_198 (kt_116 hL) rfl ?_
    refine Vicmp_ge (tgt := 78) C (dAt D_X10_sortByWant 5 rfl) (by decide) (fun c1 => ?_) (fun c1 => ?_)
    · have h := ok_t c1 h
      cases h
      exact Vvret C (dAt D_X10_sortByWant 48 rfl) (by decide) (by decide) ⟨rfl, rfl, rfl⟩
    · have h := ok_f c1 h
      refine Vaload_n C 0 (dAt D_X10_sortByWant 6 rfl) rfl rfl ?_
      refine VgetP C (dAt D_X10_sortByWant 7 rfl) gf_X10_27 (kt_116 hL) rfl (kp_116_11 hL) ?_
      refine Viload_n C 1 (dAt D_X10_sortByWant 8 rfl) rfl rfl ?_
      obtain ⟨c2, h⟩ := ok_ck h
      refine Viald C (dAt D_X10_sortByWant 9 rfl) (kt_122 hL) (kl_122 hL) (vp_in_iff.mpr c2) ?_
      refine Vistore_n (lv' := [(2, _), (0, _), (1, _)]) C (dAt D_X10_sortByWant 10 rfl) rfl (by decide) rfl ?_
      refine Viload_n C 2 (dAt D_X10_sortByWant 11 rfl) rfl rfl ?_
      refine Vistore_n (lv' := [(3, _), (2, _), (0, _), (1, _)]) C (dAt D_X10_sortByWant 12 rfl) rfl (by decide) rfl ?_
      exact Vsub [2, 3, 1, 0] rfl (w_X10_sortByWant_19 hL C ih  f _ _ _ _  h)
def F_X10_sortByWant (f : Nat) (u : MT) : Option MT :=
  B_X10_sortByWant_2 f f (1 : Int32) u
theorem m_X10_sortByWant {g : GT} {w : LT} (hL : Lay w) {f : Nat} {u : MT} {r : MT} (h : F_X10_sortByWant f  u = some r) : Mt g yX10_sortByWant cX10_sortByWant 4 none 0 0 0 [.ref 116] w u (Qv w r) := by
  refine Mt_of (own := RX10) (by decide +kernel) rfl (Nat.le_of_ble_eq_true rfl) (fun z C _ => ?_)
  show V z g 4 0 [(0, .ref 116)] [] w u 0 0 (Qv w r)
  rw [F_X10_sortByWant] at h
  refine Viconst (x := 1) C (dAt D_X10_sortByWant 0 rfl) (by decide) ?_
  refine Vistore_n (lv' := [(1, _), (0, _)]) C (dAt D_X10_sortByWant 1 rfl) rfl (by decide) rfl ?_
  exact Vsub [1, 0] rfl (w_X10_sortByWant_2 hL C  f _ _  h)
