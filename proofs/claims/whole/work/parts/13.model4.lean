def F_X12_would (f : Nat) (x1 : Int32) (x2 : Int32) (u : MT) : Option (Int32 × MT) :=
  let u1 := sI u 167 0 (0 : Int32)
  if x1 < 0 then
    some ((-1 : Int32), u1)
  else
    if (gI u1 167 31) ≤ x1 then
      some ((-1 : Int32), u1)
    else
      if x2 < 0 then
        some ((-1 : Int32), u1)
      else
        if (239 : Int32) < x2 then
          some ((-1 : Int32), u1)
        else
          if (gI u1 167 25) = 0 then
            some ((-1 : Int32), u1)
          else
            (F_X12_lookDay f u1).bind fun r7 =>
            (F_X12_works f x2 r7.1 (1 : Int32) r7.2).bind fun r9 =>
            ck (ixo x1 12) <|
            some (((gI r9 204 (x1).toNatClampNeg) + (gI r9 205 (x1).toNatClampNeg)), r9)
theorem m_X12_would {g : GT} {w : LT} (hL : Lay w) {x1 : Int32} {x2 : Int32} {f : Nat} {u : MT} {r : (Int32 × MT)} (h : F_X12_would f x1 x2 u = some r) : Mt g yX12_would cX12_would 3 (some .int) 6 0 0 [.ref 167, .int x1, .int x2] w u (Qi r.1 w r.2) := by
  refine Mt_of (own := RX12) (by decide +kernel) rfl (Nat.le_of_ble_eq_true rfl) (fun z C _ => ?_)
  show V z g 3 0 [(0, .ref 167), (1, .int x1), (2, .int x2)] [] w u 0 0 (Qi r.1 w r.2)
  rw [F_X12_would] at h
  refine Vaload_n C 0 (dAt D_X12_would 0 rfl) rfl rfl ?_
  refine Viconst (x := 0) C (dAt D_X12_would 1 rfl) (by decide) ?_
  refine VputI C (dAt D_X12_would 2 rfl) gf_X12_1 (kt_167 hL) rfl rfl rfl rfl ?_
  refine Viload_n C 1 (dAt D_X12_would 3 rfl) rfl rfl ?_
  refine Vif_lt (tgt := 35) C (dAt D_X12_would 4 rfl) (by decide) (fun c2 => ?_) (fun c2 => ?_)
  · have h := ok_t c2 h
    refine Viconst (x := (-1)) C (dAt D_X12_would 17 rfl) (by decide) ?_
    cases h
    exact Viret C (dAt D_X12_would 18 rfl) (by decide) (by decide) ⟨rfl, rfl, rfl⟩
  · have h := ok_f c2 h
    refine Viload_n C 1 (dAt D_X12_would 5 rfl) rfl rfl ?_
    refine Vaload_n C 0 (dAt D_X12_would 6 rfl) rfl rfl ?_
    refine VgetI C (dAt D_X12_would 7 rfl) gf_X12_300 (kt_167 hL) rfl ?_
    refine Vicmp_ge (tgt := 35) C (dAt D_X12_would 8 rfl) (by decide) (fun c3 => ?_) (fun c3 => ?_)
    · have h := ok_t c3 h
      refine Viconst (x := (-1)) C (dAt D_X12_would 17 rfl) (by decide) ?_
      cases h
      exact Viret C (dAt D_X12_would 18 rfl) (by decide) (by decide) ⟨rfl, rfl, rfl⟩
    · have h := ok_f c3 h
      refine Viload_n C 2 (dAt D_X12_would 9 rfl) rfl rfl ?_
      refine Vif_lt (tgt := 35) C (dAt D_X12_would 10 rfl) (by decide) (fun c4 => ?_) (fun c4 => ?_)
      · have h := ok_t c4 h
        refine Viconst (x := (-1)) C (dAt D_X12_would 17 rfl) (by decide) ?_
        cases h
        exact Viret C (dAt D_X12_would 18 rfl) (by decide) (by decide) ⟨rfl, rfl, rfl⟩
      · have h := ok_f c4 h
        refine Viload_n C 2 (dAt D_X12_would 11 rfl) rfl rfl ?_
        refine Vsipush (x := 239) C (dAt D_X12_would 12 rfl) (by decide) ?_
        refine Vicmp_gt (tgt := 35) C (dAt D_X12_would 13 rfl) (by decide) (fun c5 => ?_) (fun c5 => ?_)
        · have h := ok_t c5 h
          refine Viconst (x := (-1)) C (dAt D_X12_would 17 rfl) (by decide) ?_
          cases h
          exact Viret C (dAt D_X12_would 18 rfl) (by decide) (by decide) ⟨rfl, rfl, rfl⟩
        · have h := ok_f c5 h
          refine Vaload_n C 0 (dAt D_X12_would 14 rfl) rfl rfl ?_
          refine VgetI C (dAt D_X12_would 15 rfl) gf_X12_340 (kt_167 hL) rfl ?_
          refine Vif_ne (tgt := 37) C (dAt D_X12_would 16 rfl) (by decide) (fun c6 => ?_) (fun c6 => ?_)
          · have h := ok_f c6 h
            refine Vaload_n C 0 (dAt D_X12_would 19 rfl) rfl rfl ?_
            refine Viload_n C 2 (dAt D_X12_would 20 rfl) rfl rfl ?_
            refine Vaload_n C 0 (dAt D_X12_would 21 rfl) rfl rfl ?_
            obtain ⟨r7, e8, h⟩ := ok_b h
            refine VcallV (as := []) C (dAt D_X12_would 22 rfl) (m_X12_lookDay hL e8) yv_X12_424 (Or.inl ⟨(kt_167 hL), by decide⟩) rfl rfl (Nat.le_of_ble_eq_true rfl) (by decide) (by decide) (by decide) (by decide) (Kint ?_)
            refine Viconst (x := 1) C (dAt D_X12_would 23 rfl) (by decide) ?_
            obtain ⟨r9, e10, h⟩ := ok_b h
            refine VcallV (as := [_, _, _]) C (dAt D_X12_would 24 rfl) (m_X12_works hL e10) yv_X12_427 (Or.inl ⟨(kt_167 hL), by decide⟩) rfl rfl (Nat.le_of_ble_eq_true rfl) (by decide) (by decide) (by decide) (by decide) (Kvoid ?_)
            refine Vaload_n C 0 (dAt D_X12_would 25 rfl) rfl rfl ?_
            refine VgetP C (dAt D_X12_would 26 rfl) gf_X12_181 (kt_167 hL) rfl (kp_167_55 hL) ?_
            refine Viload_n C 1 (dAt D_X12_would 27 rfl) rfl rfl ?_
            obtain ⟨c11, h⟩ := ok_ck h
            refine Viald C (dAt D_X12_would 28 rfl) (kt_204 hL) (kl_204 hL) (vp_in_iff.mpr c11) ?_
            refine Vaload_n C 0 (dAt D_X12_would 29 rfl) rfl rfl ?_
            refine VgetP C (dAt D_X12_would 30 rfl) gf_X12_184 (kt_167 hL) rfl (kp_167_56 hL) ?_
            refine Viload_n C 1 (dAt D_X12_would 31 rfl) rfl rfl ?_
            refine Viald C (dAt D_X12_would 32 rfl) (kt_205 hL) (kl_205 hL) (vp_in_iff.mpr c11) ?_
            refine Viadd C (dAt D_X12_would 33 rfl) ?_
            cases h
            exact Viret C (dAt D_X12_would 34 rfl) (by decide) (by decide) ⟨rfl, rfl, rfl⟩
          · have h := ok_t c6 h
            refine Viconst (x := (-1)) C (dAt D_X12_would 17 rfl) (by decide) ?_
            cases h
            exact Viret C (dAt D_X12_would 18 rfl) (by decide) (by decide) ⟨rfl, rfl, rfl⟩
def B_X12_bills_47 (f : Nat) (j37 : Int32 → MT → Option (Int32 × MT)) : Nat → Int32 → Int32 → Int32 → MT → Option (Int32 × MT)
  | 0, _, _, _, _ => none
  | n + 1, x1, x2, x3, u =>
    if (gI u 167 73) ≤ x3 then
      ck (ixo x1 14) <|
      ck (ixo (((14 : Int32) * (gI u 167 73)) + x1) 140) <|
      let u10 := sI u 215 ((((14 : Int32) * (gI u 167 73)) + x1)).toNatClampNeg ((gI u 210 (x1).toNatClampNeg) - x2)
      let v11 := x1 + 1
      j37 v11 u10
    else
      ck (ixo (((14 : Int32) * x3) + x1) 140) <|
      let v13 := (x2 + (gI u 215 ((((14 : Int32) * x3) + x1)).toNatClampNeg))
      let v14 := x3 + 1
      B_X12_bills_47 f j37 n x1 v13 v14 u
theorem w_X12_bills_47 {z : ZT} {g : GT} {w : LT} (hL : Lay w) (C : Cx z g cX12_bills 4 RX12 (some .int) 6 0 0) {f : Nat} {r : (Int32 × MT)} {j37 : Int32 → MT → Option (Int32 × MT)} (q37 : ∀ (x1 : Int32) (u : MT), j37 x1 u = some r → V z g 4 37 [(0, .ref 167), (1, .int x1)] [] w u 0 0 (Qi r.1 w r.2)) : ∀ (n : Nat) (x1 : Int32) (x2 : Int32) (x3 : Int32) (u : MT), B_X12_bills_47 f j37 n x1 x2 x3 u = some r → V z g 4 47 [(0, .ref 167), (1, .int x1), (2, .int x2), (3, .int x3)] [] w u 0 0 (Qi r.1 w r.2) := by
  intro n
  induction n with
  | zero =>
    intro x1 x2 x3 u h
    rw [B_X12_bills_47] at h
    cases h
  | succ n ih =>
    intro x1 x2 x3 u h
    rw [B_X12_bills_47] at h
    refine Viload_n C 3 (dAt D_X12_bills 29 rfl) rfl rfl ?_
    refine Vaload_n C 0 (dAt D_X12_bills 30 rfl) rfl rfl ?_
    refine VgetI C (dAt D_X12_bills 31 rfl) gf_X12_431 (kt_167 hL) rfl ?_
    refine Vicmp_ge (tgt := 75) C (dAt D_X12_bills 32 rfl) (by decide) (fun c7 => ?_) (fun c7 => ?_)
    · have h := ok_t c7 h
      refine Vaload_n C 0 (dAt D_X12_bills 46 rfl) rfl rfl ?_
      refine VgetP C (dAt D_X12_bills 47 rfl) gf_X12_215 (kt_167 hL) rfl (kp_167_74 hL) ?_
      refine Vbipush (x := 14) C (dAt D_X12_bills 48 rfl) (by decide) ?_
      refine Vaload_n C 0 (dAt D_X12_bills 49 rfl) rfl rfl ?_
      refine VgetI C (dAt D_X12_bills 50 rfl) gf_X12_431 (kt_167 hL) rfl ?_
      refine Vimul C (dAt D_X12_bills 51 rfl) ?_
      refine Viload_n C 1 (dAt D_X12_bills 52 rfl) rfl rfl ?_
      refine Viadd C (dAt D_X12_bills 53 rfl) ?_
      refine Vaload_n C 0 (dAt D_X12_bills 54 rfl) rfl rfl ?_
      refine VgetP C (dAt D_X12_bills 55 rfl) gf_X12_199 (kt_167 hL) rfl (kp_167_68 hL) ?_
      refine Viload_n C 1 (dAt D_X12_bills 56 rfl) rfl rfl ?_
      obtain ⟨c8, h⟩ := ok_ck h
      refine Viald C (dAt D_X12_bills 57 rfl) (kt_210 hL) (kl_210 hL) (vp_in_iff.mpr c8) ?_
      refine Viload_n C 2 (dAt D_X12_bills 58 rfl) rfl rfl ?_
      refine Visub C (dAt D_X12_bills 59 rfl) ?_
      obtain ⟨c9, h⟩ := ok_ck h
      refine Viast C (dAt D_X12_bills 60 rfl) (kt_215 hL) (kl_215 hL) (vp_in_iff.mpr c9) ?_
      refine Viinc (j := 1) (v := _ + 1) (lv' := [(1, _), (0, _), (2, _), (3, _)]) C (dAt D_X12_bills 61 rfl) rfl rfl (by decide) rfl ?_
      refine Vgoto (tgt := 37) C (dAt D_X12_bills 62 rfl) (by decide) ?_
      exact Vsub [1, 0] rfl (q37 _ _  h)
    · have h := ok_f c7 h
      refine Viload_n C 2 (dAt D_X12_bills 33 rfl) rfl rfl ?_
      refine Vaload_n C 0 (dAt D_X12_bills 34 rfl) rfl rfl ?_
      refine VgetP C (dAt D_X12_bills 35 rfl) gf_X12_215 (kt_167 hL) rfl (kp_167_74 hL) ?_
      refine Vbipush (x := 14) C (dAt D_X12_bills 36 rfl) (by decide) ?_
      refine Viload_n C 3 (dAt D_X12_bills 37 rfl) rfl rfl ?_
      refine Vimul C (dAt D_X12_bills 38 rfl) ?_
      refine Viload_n C 1 (dAt D_X12_bills 39 rfl) rfl rfl ?_
      refine Viadd C (dAt D_X12_bills 40 rfl) ?_
      obtain ⟨c12, h⟩ := ok_ck h
      refine Viald C (dAt D_X12_bills 41 rfl) (kt_215 hL) (kl_215 hL) (vp_in_iff.mpr c12) ?_
      refine Viadd C (dAt D_X12_bills 42 rfl) ?_
      refine Vistore_n (lv' := [(2, _), (0, _), (1, _), (3, _)]) C (dAt D_X12_bills 43 rfl) rfl (by decide) rfl ?_
      refine Viinc (j := 3) (v := _ + 1) (lv' := [(3, _), (2, _), (0, _), (1, _)]) C (dAt D_X12_bills 44 rfl) rfl rfl (by decide) rfl ?_
      refine Vgoto (tgt := 47) C (dAt D_X12_bills 45 rfl) (by decide) ?_
      exact Vsub [2, 3, 1, 0] rfl (ih _ _ _ _  h)
def B_X12_bills_37 (f : Nat) : Nat → Int32 → MT → Option (Int32 × MT)
  | 0, _, _ => none
  | n + 1, x1, u =>
    if (14 : Int32) ≤ x1 then
      let u6 := sI u 167 73 ((gI u 167 73) + (1 : Int32))
      some (((gI u6 167 73) - (1 : Int32)), u6)
    else
      B_X12_bills_47 f (fun x1' u' => B_X12_bills_37 f n x1' u') f x1 (0 : Int32) (0 : Int32) u
theorem w_X12_bills_37 {z : ZT} {g : GT} {w : LT} (hL : Lay w) (C : Cx z g cX12_bills 4 RX12 (some .int) 6 0 0) {f : Nat} {r : (Int32 × MT)} : ∀ (n : Nat) (x1 : Int32) (u : MT), B_X12_bills_37 f n x1 u = some r → V z g 4 37 [(0, .ref 167), (1, .int x1)] [] w u 0 0 (Qi r.1 w r.2) := by
  intro n
  induction n with
  | zero =>
    intro x1 u h
    rw [B_X12_bills_37] at h
    cases h
  | succ n ih =>
    intro x1 u h
    rw [B_X12_bills_37] at h
    refine Viload_n C 1 (dAt D_X12_bills 22 rfl) rfl rfl ?_
    refine Vbipush (x := 14) C (dAt D_X12_bills 23 rfl) (by decide) ?_
    refine Vicmp_ge (tgt := 103) C (dAt D_X12_bills 24 rfl) (by decide) (fun c5 => ?_) (fun c5 => ?_)
    · have h := ok_t c5 h
      refine Vaload_n C 0 (dAt D_X12_bills 63 rfl) rfl rfl ?_
      refine Vdup C (dAt D_X12_bills 64 rfl) rfl ?_
      refine VgetI C (dAt D_X12_bills 65 rfl) gf_X12_431 (kt_167 hL) rfl ?_
      refine Viconst (x := 1) C (dAt D_X12_bills 66 rfl) (by decide) ?_
      refine Viadd C (dAt D_X12_bills 67 rfl) ?_
      refine VputI C (dAt D_X12_bills 68 rfl) gf_X12_431 (kt_167 hL) rfl rfl rfl rfl ?_
      refine Vaload_n C 0 (dAt D_X12_bills 69 rfl) rfl rfl ?_
      refine VgetI C (dAt D_X12_bills 70 rfl) gf_X12_431 (kt_167 hL) rfl ?_
      refine Viconst (x := 1) C (dAt D_X12_bills 71 rfl) (by decide) ?_
      refine Visub C (dAt D_X12_bills 72 rfl) ?_
      cases h
      exact Viret C (dAt D_X12_bills 73 rfl) (by decide) (by decide) ⟨rfl, rfl, rfl⟩
    · have h := ok_f c5 h
      refine Viconst (x := 0) C (dAt D_X12_bills 25 rfl) (by decide) ?_
      refine Vistore_n (lv' := [(2, _), (0, _), (1, _)]) C (dAt D_X12_bills 26 rfl) rfl (by decide) rfl ?_
      refine Viconst (x := 0) C (dAt D_X12_bills 27 rfl) (by decide) ?_
      refine Vistore_n (lv' := [(3, _), (2, _), (0, _), (1, _)]) C (dAt D_X12_bills 28 rfl) rfl (by decide) rfl ?_
      exact Vsub [2, 3, 1, 0] rfl (w_X12_bills_47 hL C ih  f _ _ _ _  h)
def F_X12_bills (f : Nat) (u : MT) : Option (Int32 × MT) :=
  let u1 := sI u 167 0 (0 : Int32)
  if (gI u1 167 73) = (10 : Int32) then
    some ((-1 : Int32), u1)
  else
    (F_X12_works f (((24 : Int32) * (gI u1 167 73)) + (23 : Int32)) (gI u1 167 40) (0 : Int32) u1).bind fun r3 =>
    B_X12_bills_37 f f (0 : Int32) r3
theorem m_X12_bills {g : GT} {w : LT} (hL : Lay w) {f : Nat} {u : MT} {r : (Int32 × MT)} (h : F_X12_bills f  u = some r) : Mt g yX12_bills cX12_bills 4 (some .int) 6 0 0 [.ref 167] w u (Qi r.1 w r.2) := by
  refine Mt_of (own := RX12) (by decide +kernel) rfl (Nat.le_of_ble_eq_true rfl) (fun z C _ => ?_)
  show V z g 4 0 [(0, .ref 167)] [] w u 0 0 (Qi r.1 w r.2)
  rw [F_X12_bills] at h
  refine Vaload_n C 0 (dAt D_X12_bills 0 rfl) rfl rfl ?_
  refine Viconst (x := 0) C (dAt D_X12_bills 1 rfl) (by decide) ?_
  refine VputI C (dAt D_X12_bills 2 rfl) gf_X12_1 (kt_167 hL) rfl rfl rfl rfl ?_
  refine Vaload_n C 0 (dAt D_X12_bills 3 rfl) rfl rfl ?_
  refine VgetI C (dAt D_X12_bills 4 rfl) gf_X12_431 (kt_167 hL) rfl ?_
  refine Vbipush (x := 10) C (dAt D_X12_bills 5 rfl) (by decide) ?_
  refine Vicmp_ne (tgt := 16) C (dAt D_X12_bills 6 rfl) (by decide) (fun c2 => ?_) (fun c2 => ?_)
  · have h := ok_f c2 h
    refine Vaload_n C 0 (dAt D_X12_bills 9 rfl) rfl rfl ?_
    refine Vbipush (x := 24) C (dAt D_X12_bills 10 rfl) (by decide) ?_
    refine Vaload_n C 0 (dAt D_X12_bills 11 rfl) rfl rfl ?_
    refine VgetI C (dAt D_X12_bills 12 rfl) gf_X12_431 (kt_167 hL) rfl ?_
    refine Vimul C (dAt D_X12_bills 13 rfl) ?_
    refine Vbipush (x := 23) C (dAt D_X12_bills 14 rfl) (by decide) ?_
    refine Viadd C (dAt D_X12_bills 15 rfl) ?_
    refine Vaload_n C 0 (dAt D_X12_bills 16 rfl) rfl rfl ?_
    refine VgetI C (dAt D_X12_bills 17 rfl) gf_X12_337 (kt_167 hL) rfl ?_
    refine Viconst (x := 0) C (dAt D_X12_bills 18 rfl) (by decide) ?_
    obtain ⟨r3, e4, h⟩ := ok_b h
    refine VcallV (as := [_, _, _]) C (dAt D_X12_bills 19 rfl) (m_X12_works hL e4) yv_X12_427 (Or.inl ⟨(kt_167 hL), by decide⟩) rfl rfl (Nat.le_of_ble_eq_true rfl) (by decide) (by decide) (by decide) (by decide) (Kvoid ?_)
    refine Viconst (x := 0) C (dAt D_X12_bills 20 rfl) (by decide) ?_
    refine Vistore_n (lv' := [(1, _), (0, _)]) C (dAt D_X12_bills 21 rfl) rfl (by decide) rfl ?_
    exact Vsub [1, 0] rfl (w_X12_bills_37 hL C  f _ _  h)
  · have h := ok_t c2 h
    refine Viconst (x := (-1)) C (dAt D_X12_bills 7 rfl) (by decide) ?_
    cases h
    exact Viret C (dAt D_X12_bills 8 rfl) (by decide) (by decide) ⟨rfl, rfl, rfl⟩
def B_X12_bill_76 (f : Nat) (s0 : Int32) (s1 : Int32) (u : MT) : Option (Int32 × MT) :=
  ck (ixo (s1 + s0) 140) <|
  some ((gI u 215 ((s1 + s0)).toNatClampNeg), u)
theorem w_X12_bill_76 {z : ZT} {g : GT} {w : LT} (hL : Lay w) (C : Cx z g cX12_bill 3 RX12 (some .int) 0 0 0) {f : Nat} {r : (Int32 × MT)} {s0 : Int32} {s1 : Int32} {u : MT} (h : B_X12_bill_76 f s0 s1 u = some r) : V z g 3 76 [] [.int s0, .int s1, .ref 215] w u 0 0 (Qi r.1 w r.2) := by
  rw [B_X12_bill_76] at h
  refine Viadd C (dAt D_X12_bill 39 rfl) ?_
  obtain ⟨c9, h⟩ := ok_ck h
  refine Viald C (dAt D_X12_bill 40 rfl) (kt_215 hL) (kl_215 hL) (vp_in_iff.mpr c9) ?_
  cases h
  exact Viret C (dAt D_X12_bill 41 rfl) (by decide) (by decide) ⟨rfl, rfl, rfl⟩
def B_X12_bill_32 (f : Nat) (x1 : Int32) (x2 : Int32) (s0 : Int32) (u : MT) : Option (Int32 × MT) :=
  let u5 := sI u 167 0 s0
  if (gI u5 167 0) ≤ 0 then
    if x2 = (-1 : Int32) then
      B_X12_bill_76 f (12 : Int32) ((14 : Int32) * x1) u5
    else
      if x2 = (-2 : Int32) then
        B_X12_bill_76 f (13 : Int32) ((14 : Int32) * x1) u5
      else
        B_X12_bill_76 f x2 ((14 : Int32) * x1) u5
  else
    some ((0 : Int32), u5)
theorem w_X12_bill_32 {z : ZT} {g : GT} {w : LT} (hL : Lay w) (C : Cx z g cX12_bill 3 RX12 (some .int) 0 0 0) {f : Nat} {r : (Int32 × MT)} {x1 : Int32} {x2 : Int32} {s0 : Int32} {u : MT} (h : B_X12_bill_32 f x1 x2 s0 u = some r) : V z g 3 32 [(0, .ref 167), (1, .int x1), (2, .int x2)] [.int s0, .ref 167] w u 0 0 (Qi r.1 w r.2) := by
  rw [B_X12_bill_32] at h
  refine VputI C (dAt D_X12_bill 17 rfl) gf_X12_1 (kt_167 hL) rfl rfl rfl rfl ?_
  refine Vaload_n C 0 (dAt D_X12_bill 18 rfl) rfl rfl ?_
  refine VgetI C (dAt D_X12_bill 19 rfl) gf_X12_1 (kt_167 hL) rfl ?_
  refine Vif_le (tgt := 46) C (dAt D_X12_bill 20 rfl) (by decide) (fun c6 => ?_) (fun c6 => ?_)
  · have h := ok_t c6 h
    refine Vaload_n C 0 (dAt D_X12_bill 23 rfl) rfl rfl ?_
    refine VgetP C (dAt D_X12_bill 24 rfl) gf_X12_215 (kt_167 hL) rfl (kp_167_74 hL) ?_
    refine Vbipush (x := 14) C (dAt D_X12_bill 25 rfl) (by decide) ?_
    refine Viload_n C 1 (dAt D_X12_bill 26 rfl) rfl rfl ?_
    refine Vimul C (dAt D_X12_bill 27 rfl) ?_
    refine Viload_n C 2 (dAt D_X12_bill 28 rfl) rfl rfl ?_
    refine Viconst (x := (-1)) C (dAt D_X12_bill 29 rfl) (by decide) ?_
    refine Vicmp_ne (tgt := 64) C (dAt D_X12_bill 30 rfl) (by decide) (fun c7 => ?_) (fun c7 => ?_)
    · have h := ok_f c7 h
      refine Viload_n C 2 (dAt D_X12_bill 33 rfl) rfl rfl ?_
      refine Vbipush (x := (-2)) C (dAt D_X12_bill 34 rfl) (by decide) ?_
      refine Vicmp_ne (tgt := 75) C (dAt D_X12_bill 35 rfl) (by decide) (fun c8 => ?_) (fun c8 => ?_)
      · have h := ok_f c8 h
        refine Viload_n C 2 (dAt D_X12_bill 38 rfl) rfl rfl ?_
        exact Vsub [] rfl (w_X12_bill_76 hL C  h)
      · have h := ok_t c8 h
        refine Vbipush (x := 13) C (dAt D_X12_bill 36 rfl) (by decide) ?_
        refine Vgoto (tgt := 76) C (dAt D_X12_bill 37 rfl) (by decide) ?_
        exact Vsub [] rfl (w_X12_bill_76 hL C  h)
    · have h := ok_t c7 h
      refine Vbipush (x := 12) C (dAt D_X12_bill 31 rfl) (by decide) ?_
      refine Vgoto (tgt := 76) C (dAt D_X12_bill 32 rfl) (by decide) ?_
      exact Vsub [] rfl (w_X12_bill_76 hL C  h)
  · have h := ok_f c6 h
    refine Viconst (x := 0) C (dAt D_X12_bill 21 rfl) (by decide) ?_
    refine Vgoto (tgt := 78) C (dAt D_X12_bill 22 rfl) (by decide) ?_
    cases h
    exact Viret C (dAt D_X12_bill 41 rfl) (by decide) (by decide) ⟨rfl, rfl, rfl⟩
def B_X12_bill_31 (f : Nat) (x1 : Int32) (x2 : Int32) (u : MT) : Option (Int32 × MT) :=
  B_X12_bill_32 f x1 x2 (1 : Int32) u
theorem w_X12_bill_31 {z : ZT} {g : GT} {w : LT} (hL : Lay w) (C : Cx z g cX12_bill 3 RX12 (some .int) 0 0 0) {f : Nat} {r : (Int32 × MT)} {x1 : Int32} {x2 : Int32} {u : MT} (h : B_X12_bill_31 f x1 x2 u = some r) : V z g 3 31 [(0, .ref 167), (1, .int x1), (2, .int x2)] [.ref 167] w u 0 0 (Qi r.1 w r.2) := by
  rw [B_X12_bill_31] at h
  refine Viconst (x := 1) C (dAt D_X12_bill 16 rfl) (by decide) ?_
  exact Vsub [0, 1, 2] rfl (w_X12_bill_32 hL C  h)
def F_X12_bill (f : Nat) (x1 : Int32) (x2 : Int32) (u : MT) : Option (Int32 × MT) :=
  if x1 < 0 then
    B_X12_bill_31 f x1 x2 u
  else
    if (gI u 167 73) ≤ x1 then
      B_X12_bill_31 f x1 x2 u
    else
      if x2 < (-2 : Int32) then
        B_X12_bill_31 f x1 x2 u
      else
        if (gI u 167 31) ≤ x2 then
          B_X12_bill_31 f x1 x2 u
        else
          B_X12_bill_32 f x1 x2 (0 : Int32) u
theorem m_X12_bill {g : GT} {w : LT} (hL : Lay w) {x1 : Int32} {x2 : Int32} {f : Nat} {u : MT} {r : (Int32 × MT)} (h : F_X12_bill f x1 x2 u = some r) : Mt g yX12_bill cX12_bill 3 (some .int) 0 0 0 [.ref 167, .int x1, .int x2] w u (Qi r.1 w r.2) := by
  refine Mt_of (own := RX12) (by decide +kernel) rfl (Nat.le_of_ble_eq_true rfl) (fun z C _ => ?_)
  show V z g 3 0 [(0, .ref 167), (1, .int x1), (2, .int x2)] [] w u 0 0 (Qi r.1 w r.2)
  rw [F_X12_bill] at h
  refine Vaload_n C 0 (dAt D_X12_bill 0 rfl) rfl rfl ?_
  refine Viload_n C 1 (dAt D_X12_bill 1 rfl) rfl rfl ?_
  refine Vif_lt (tgt := 31) C (dAt D_X12_bill 2 rfl) (by decide) (fun c1 => ?_) (fun c1 => ?_)
  · have h := ok_t c1 h
    exact Vsub [0, 1, 2] rfl (w_X12_bill_31 hL C  h)
  · have h := ok_f c1 h
    refine Viload_n C 1 (dAt D_X12_bill 3 rfl) rfl rfl ?_
    refine Vaload_n C 0 (dAt D_X12_bill 4 rfl) rfl rfl ?_
    refine VgetI C (dAt D_X12_bill 5 rfl) gf_X12_431 (kt_167 hL) rfl ?_
    refine Vicmp_ge (tgt := 31) C (dAt D_X12_bill 6 rfl) (by decide) (fun c2 => ?_) (fun c2 => ?_)
    · have h := ok_t c2 h
      exact Vsub [0, 1, 2] rfl (w_X12_bill_31 hL C  h)
    · have h := ok_f c2 h
      refine Viload_n C 2 (dAt D_X12_bill 7 rfl) rfl rfl ?_
      refine Vbipush (x := (-2)) C (dAt D_X12_bill 8 rfl) (by decide) ?_
      refine Vicmp_lt (tgt := 31) C (dAt D_X12_bill 9 rfl) (by decide) (fun c3 => ?_) (fun c3 => ?_)
      · have h := ok_t c3 h
        exact Vsub [0, 1, 2] rfl (w_X12_bill_31 hL C  h)
      · have h := ok_f c3 h
        refine Viload_n C 2 (dAt D_X12_bill 10 rfl) rfl rfl ?_
        refine Vaload_n C 0 (dAt D_X12_bill 11 rfl) rfl rfl ?_
        refine VgetI C (dAt D_X12_bill 12 rfl) gf_X12_300 (kt_167 hL) rfl ?_
        refine Vicmp_ge (tgt := 31) C (dAt D_X12_bill 13 rfl) (by decide) (fun c4 => ?_) (fun c4 => ?_)
        · have h := ok_t c4 h
          exact Vsub [0, 1, 2] rfl (w_X12_bill_31 hL C  h)
        · have h := ok_f c4 h
          refine Viconst (x := 0) C (dAt D_X12_bill 14 rfl) (by decide) ?_
          refine Vgoto (tgt := 32) C (dAt D_X12_bill 15 rfl) (by decide) ?_
          exact Vsub [0, 1, 2] rfl (w_X12_bill_32 hL C  h)
def F_X12_count (f : Nat) (x1 : Int32) (u : MT) : Option (Int32 × MT) :=
  let u1 := sI u 167 0 (0 : Int32)
  if x1 = 0 then
    some ((gI u1 167 31), u1)
  else
  if x1 = 1 then
    some ((gI u1 167 34), u1)
  else
  if x1 = 2 then
    some ((gI u1 167 40), u1)
  else
  if x1 = 3 then
    some ((gI u1 167 22), u1)
  else
  if x1 = 4 then
    some ((gI u1 167 73), u1)
  else
  if x1 = 5 then
    some ((gI u1 167 2), u1)
  else
  if x1 = 6 then
    if (gI u1 167 22) ≤ 0 then
      some ((0 : Int32), u1)
    else
      ck (ixo ((gI u1 167 22) - (1 : Int32)) 8) <|
      some ((gI u1 173 (((gI u1 167 22) - (1 : Int32))).toNatClampNeg), u1)
  else
  if x1 = 7 then
    if (gI u1 167 25) = 0 then
      some ((0 : Int32), u1)
    else
      some ((1 : Int32), u1)
  else
  if x1 = 8 then
    some ((gI u1 167 41), u1)
  else
  some ((-1 : Int32), u1)
theorem m_X12_count {g : GT} {w : LT} (hL : Lay w) {x1 : Int32} {f : Nat} {u : MT} {r : (Int32 × MT)} (h : F_X12_count f x1 u = some r) : Mt g yX12_count cX12_count 2 (some .int) 0 0 0 [.ref 167, .int x1] w u (Qi r.1 w r.2) := by
  refine Mt_of (own := RX12) (by decide +kernel) rfl (Nat.le_of_ble_eq_true rfl) (fun z C _ => ?_)
  show V z g 2 0 [(0, .ref 167), (1, .int x1)] [] w u 0 0 (Qi r.1 w r.2)
  rw [F_X12_count] at h
  refine Vaload_n C 0 (dAt D_X12_count 0 rfl) rfl rfl ?_
  refine Viconst (x := 0) C (dAt D_X12_count 1 rfl) (by decide) ?_
  refine VputI C (dAt D_X12_count 2 rfl) gf_X12_1 (kt_167 hL) rfl rfl rfl rfl ?_
  refine Viload_n C 1 (dAt D_X12_count 3 rfl) rfl rfl ?_
  by_cases c2 : x1 = 0
  · have h := ok_t c2 h
    refine VtableIn (off := 50) (tgt := 56) C (dAt D_X12_count 4 rfl) (by rw [c2]; decide) (by rw [c2]; decide) (by rw [c2]; rfl) (by decide) ?_
    refine Vaload_n C 0 (dAt D_X12_count 5 rfl) rfl rfl ?_
    refine VgetI C (dAt D_X12_count 6 rfl) gf_X12_300 (kt_167 hL) rfl ?_
    cases h
    exact Viret C (dAt D_X12_count 7 rfl) (by decide) (by decide) ⟨rfl, rfl, rfl⟩
  have h := ok_f c2 h
  by_cases c3 : x1 = 1
  · have h := ok_t c3 h
    refine VtableIn (off := 55) (tgt := 61) C (dAt D_X12_count 4 rfl) (by rw [c3]; decide) (by rw [c3]; decide) (by rw [c3]; rfl) (by decide) ?_
    refine Vaload_n C 0 (dAt D_X12_count 8 rfl) rfl rfl ?_
    refine VgetI C (dAt D_X12_count 9 rfl) gf_X12_344 (kt_167 hL) rfl ?_
    cases h
    exact Viret C (dAt D_X12_count 10 rfl) (by decide) (by decide) ⟨rfl, rfl, rfl⟩
  have h := ok_f c3 h
  by_cases c4 : x1 = 2
  · have h := ok_t c4 h
    refine VtableIn (off := 60) (tgt := 66) C (dAt D_X12_count 4 rfl) (by rw [c4]; decide) (by rw [c4]; decide) (by rw [c4]; rfl) (by decide) ?_
    refine Vaload_n C 0 (dAt D_X12_count 11 rfl) rfl rfl ?_
    refine VgetI C (dAt D_X12_count 12 rfl) gf_X12_337 (kt_167 hL) rfl ?_
    cases h
    exact Viret C (dAt D_X12_count 13 rfl) (by decide) (by decide) ⟨rfl, rfl, rfl⟩
  have h := ok_f c4 h
  by_cases c5 : x1 = 3
  · have h := ok_t c5 h
    refine VtableIn (off := 65) (tgt := 71) C (dAt D_X12_count 4 rfl) (by rw [c5]; decide) (by rw [c5]; decide) (by rw [c5]; rfl) (by decide) ?_
    refine Vaload_n C 0 (dAt D_X12_count 14 rfl) rfl rfl ?_
    refine VgetI C (dAt D_X12_count 15 rfl) gf_X12_328 (kt_167 hL) rfl ?_
    cases h
    exact Viret C (dAt D_X12_count 16 rfl) (by decide) (by decide) ⟨rfl, rfl, rfl⟩
  have h := ok_f c5 h
  by_cases c6 : x1 = 4
  · have h := ok_t c6 h
    refine VtableIn (off := 70) (tgt := 76) C (dAt D_X12_count 4 rfl) (by rw [c6]; decide) (by rw [c6]; decide) (by rw [c6]; rfl) (by decide) ?_
    refine Vaload_n C 0 (dAt D_X12_count 17 rfl) rfl rfl ?_
    refine VgetI C (dAt D_X12_count 18 rfl) gf_X12_431 (kt_167 hL) rfl ?_
    cases h
    exact Viret C (dAt D_X12_count 19 rfl) (by decide) (by decide) ⟨rfl, rfl, rfl⟩
  have h := ok_f c6 h
  by_cases c7 : x1 = 5
  · have h := ok_t c7 h
    refine VtableIn (off := 75) (tgt := 81) C (dAt D_X12_count 4 rfl) (by rw [c7]; decide) (by rw [c7]; decide) (by rw [c7]; rfl) (by decide) ?_
    refine Vaload_n C 0 (dAt D_X12_count 20 rfl) rfl rfl ?_
    refine VgetI C (dAt D_X12_count 21 rfl) gf_X12_11 (kt_167 hL) rfl ?_
    cases h
    exact Viret C (dAt D_X12_count 22 rfl) (by decide) (by decide) ⟨rfl, rfl, rfl⟩
  have h := ok_f c7 h
  by_cases c8 : x1 = 6
  · have h := ok_t c8 h
    refine VtableIn (off := 80) (tgt := 86) C (dAt D_X12_count 4 rfl) (by rw [c8]; decide) (by rw [c8]; decide) (by rw [c8]; rfl) (by decide) ?_
    refine Vaload_n C 0 (dAt D_X12_count 23 rfl) rfl rfl ?_
    refine VgetI C (dAt D_X12_count 24 rfl) gf_X12_328 (kt_167 hL) rfl ?_
    refine Vif_le (tgt := 107) C (dAt D_X12_count 25 rfl) (by decide) (fun c9 => ?_) (fun c9 => ?_)
    · have h := ok_t c9 h
      refine Viconst (x := 0) C (dAt D_X12_count 34 rfl) (by decide) ?_
      cases h
      exact Viret C (dAt D_X12_count 35 rfl) (by decide) (by decide) ⟨rfl, rfl, rfl⟩
    · have h := ok_f c9 h
      refine Vaload_n C 0 (dAt D_X12_count 26 rfl) rfl rfl ?_
      refine VgetP C (dAt D_X12_count 27 rfl) gf_X12_85 (kt_167 hL) rfl (kp_167_10 hL) ?_
      refine Vaload_n C 0 (dAt D_X12_count 28 rfl) rfl rfl ?_
      refine VgetI C (dAt D_X12_count 29 rfl) gf_X12_328 (kt_167 hL) rfl ?_
      refine Viconst (x := 1) C (dAt D_X12_count 30 rfl) (by decide) ?_
      refine Visub C (dAt D_X12_count 31 rfl) ?_
      obtain ⟨c10, h⟩ := ok_ck h
      refine Viald C (dAt D_X12_count 32 rfl) (kt_173 hL) (kl_173 hL) (vp_in_iff.mpr c10) ?_
      refine Vgoto (tgt := 108) C (dAt D_X12_count 33 rfl) (by decide) ?_
      cases h
      exact Viret C (dAt D_X12_count 35 rfl) (by decide) (by decide) ⟨rfl, rfl, rfl⟩
  have h := ok_f c8 h
  by_cases c11 : x1 = 7
  · have h := ok_t c11 h
    refine VtableIn (off := 103) (tgt := 109) C (dAt D_X12_count 4 rfl) (by rw [c11]; decide) (by rw [c11]; decide) (by rw [c11]; rfl) (by decide) ?_
    refine Vaload_n C 0 (dAt D_X12_count 36 rfl) rfl rfl ?_
    refine VgetI C (dAt D_X12_count 37 rfl) gf_X12_340 (kt_167 hL) rfl ?_
    refine Vif_eq (tgt := 120) C (dAt D_X12_count 38 rfl) (by decide) (fun c12 => ?_) (fun c12 => ?_)
    · have h := ok_t c12 h
      refine Viconst (x := 0) C (dAt D_X12_count 41 rfl) (by decide) ?_
      cases h
      exact Viret C (dAt D_X12_count 42 rfl) (by decide) (by decide) ⟨rfl, rfl, rfl⟩
    · have h := ok_f c12 h
      refine Viconst (x := 1) C (dAt D_X12_count 39 rfl) (by decide) ?_
      refine Vgoto (tgt := 121) C (dAt D_X12_count 40 rfl) (by decide) ?_
      cases h
      exact Viret C (dAt D_X12_count 42 rfl) (by decide) (by decide) ⟨rfl, rfl, rfl⟩
  have h := ok_f c11 h
  by_cases c13 : x1 = 8
  · have h := ok_t c13 h
    refine VtableIn (off := 116) (tgt := 122) C (dAt D_X12_count 4 rfl) (by rw [c13]; decide) (by rw [c13]; decide) (by rw [c13]; rfl) (by decide) ?_
    refine Vaload_n C 0 (dAt D_X12_count 43 rfl) rfl rfl ?_
    refine VgetI C (dAt D_X12_count 44 rfl) gf_X12_154 (kt_167 hL) rfl ?_
    cases h
    exact Viret C (dAt D_X12_count 45 rfl) (by decide) (by decide) ⟨rfl, rfl, rfl⟩
  have h := ok_f c13 h
  have qc2 : (x1).toInt ≠ 0 := fun q => c2 (Int32.toInt_inj.mp (q.trans (by decide)))
  have qc3 : (x1).toInt ≠ 1 := fun q => c3 (Int32.toInt_inj.mp (q.trans (by decide)))
  have qc4 : (x1).toInt ≠ 2 := fun q => c4 (Int32.toInt_inj.mp (q.trans (by decide)))
  have qc5 : (x1).toInt ≠ 3 := fun q => c5 (Int32.toInt_inj.mp (q.trans (by decide)))
  have qc6 : (x1).toInt ≠ 4 := fun q => c6 (Int32.toInt_inj.mp (q.trans (by decide)))
  have qc7 : (x1).toInt ≠ 5 := fun q => c7 (Int32.toInt_inj.mp (q.trans (by decide)))
  have qc8 : (x1).toInt ≠ 6 := fun q => c8 (Int32.toInt_inj.mp (q.trans (by decide)))
  have qc11 : (x1).toInt ≠ 7 := fun q => c11 (Int32.toInt_inj.mp (q.trans (by decide)))
  have qc13 : (x1).toInt ≠ 8 := fun q => c13 (Int32.toInt_inj.mp (q.trans (by decide)))
  refine VtableOut (tgt := 127) C (dAt D_X12_count 4 rfl) (by omega) (by decide) ?_
  refine Viconst (x := (-1)) C (dAt D_X12_count 46 rfl) (by decide) ?_
  cases h
  exact Viret C (dAt D_X12_count 47 rfl) (by decide) (by decide) ⟨rfl, rfl, rfl⟩
