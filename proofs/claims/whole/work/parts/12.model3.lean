def B_X12_chooses_66 (f : Nat) (j4 : Int32 → Int32 → Int32 → MT → Option (Int32 × MT)) (x1 : Int32) (x3 : Int32) (s0 : Int32) (s1 : Int32) (u : MT) : Option (Int32 × MT) :=
  let v24 := (s1 + s0)
  let v25 := x3 + 1
  j4 x1 v24 v25 u
theorem w_X12_chooses_66 {z : ZT} {g : GT} {w : LT} (hL : Lay w) (C : Cx z g cX12_chooses 5 RX12 (some .int) 1 0 0) {f : Nat} {r : (Int32 × MT)} {j4 : Int32 → Int32 → Int32 → MT → Option (Int32 × MT)} (q4 : ∀ (x1 : Int32) (x2 : Int32) (x3 : Int32) (u : MT), j4 x1 x2 x3 u = some r → V z g 5 4 [(0, .ref 167), (1, .int x1), (2, .int x2), (3, .int x3)] [] w u 0 0 (Qi r.1 w r.2)) {x1 : Int32} {x3 : Int32} {s0 : Int32} {s1 : Int32} {u : MT} (h : B_X12_chooses_66 f j4 x1 x3 s0 s1 u = some r) : V z g 5 66 [(0, .ref 167), (1, .int x1), (3, .int x3)] [.int s0, .int s1] w u 0 0 (Qi r.1 w r.2) := by
  rw [B_X12_chooses_66] at h
  refine Viadd C (dAt D_X12_chooses 40 rfl) ?_
  refine Vistore_n (lv' := [(2, _), (0, _), (1, _), (3, _)]) C (dAt D_X12_chooses 41 rfl) rfl (by decide) rfl ?_
  refine Viinc (j := 3) (v := _ + 1) (lv' := [(3, _), (2, _), (0, _), (1, _)]) C (dAt D_X12_chooses 42 rfl) rfl rfl (by decide) rfl ?_
  refine Vgoto (tgt := 4) C (dAt D_X12_chooses 43 rfl) (by decide) ?_
  exact Vsub [2, 3, 1, 0] rfl (q4 _ _ _ _  h)
def B_X12_chooses_50 (f : Nat) (j4 : Int32 → Int32 → Int32 → MT → Option (Int32 × MT)) (x1 : Int32) (x2 : Int32) (x3 : Int32) (s0 : Int32) (s1 : Int32) (u : MT) : Option (Int32 × MT) :=
  ck (ixo s1 12) <|
  let u21 := sI u 212 (s1).toNatClampNeg (vp_nar .boolean s0)
  ck (ixo x3 12) <|
  if (gI u21 212 (x3).toNatClampNeg) = 0 then
    B_X12_chooses_66 f j4 x1 x3 (0 : Int32) x2 u21
  else
    B_X12_chooses_66 f j4 x1 x3 (1 : Int32) x2 u21
theorem w_X12_chooses_50 {z : ZT} {g : GT} {w : LT} (hL : Lay w) (C : Cx z g cX12_chooses 5 RX12 (some .int) 1 0 0) {f : Nat} {r : (Int32 × MT)} {j4 : Int32 → Int32 → Int32 → MT → Option (Int32 × MT)} (q4 : ∀ (x1 : Int32) (x2 : Int32) (x3 : Int32) (u : MT), j4 x1 x2 x3 u = some r → V z g 5 4 [(0, .ref 167), (1, .int x1), (2, .int x2), (3, .int x3)] [] w u 0 0 (Qi r.1 w r.2)) {x1 : Int32} {x2 : Int32} {x3 : Int32} {s0 : Int32} {s1 : Int32} {u : MT} (h : B_X12_chooses_50 f j4 x1 x2 x3 s0 s1 u = some r) : V z g 5 50 [(0, .ref 167), (1, .int x1), (2, .int x2), (3, .int x3)] [.int s0, .int s1, .ref 212] w u 0 0 (Qi r.1 w r.2) := by
  rw [B_X12_chooses_50] at h
  obtain ⟨c20, h⟩ := ok_ck h
  refine Vzast C (dAt D_X12_chooses 30 rfl) (kt_212 hL) (kl_212 hL) (vp_in_iff.mpr c20) ?_
  refine Viload_n C 2 (dAt D_X12_chooses 31 rfl) rfl rfl ?_
  refine Vaload_n C 0 (dAt D_X12_chooses 32 rfl) rfl rfl ?_
  refine VgetP C (dAt D_X12_chooses 33 rfl) gf_X12_205 (kt_167 hL) rfl (kp_167_70 hL) ?_
  refine Viload_n C 3 (dAt D_X12_chooses 34 rfl) rfl rfl ?_
  obtain ⟨c22, h⟩ := ok_ck h
  refine Vzald C (dAt D_X12_chooses 35 rfl) (kt_212 hL) (kl_212 hL) (vp_in_iff.mpr c22) ?_
  refine Vif_eq (tgt := 65) C (dAt D_X12_chooses 36 rfl) (by decide) (fun c23 => ?_) (fun c23 => ?_)
  · have h := ok_t c23 h
    refine Viconst (x := 0) C (dAt D_X12_chooses 39 rfl) (by decide) ?_
    exact Vsub [0, 1, 3] rfl (w_X12_chooses_66 hL C q4  h)
  · have h := ok_f c23 h
    refine Viconst (x := 1) C (dAt D_X12_chooses 37 rfl) (by decide) ?_
    refine Vgoto (tgt := 66) C (dAt D_X12_chooses 38 rfl) (by decide) ?_
    exact Vsub [0, 1, 3] rfl (w_X12_chooses_66 hL C q4  h)
def B_X12_chooses_49 (f : Nat) (j4 : Int32 → Int32 → Int32 → MT → Option (Int32 × MT)) (x1 : Int32) (x2 : Int32) (x3 : Int32) (s0 : Int32) (u : MT) : Option (Int32 × MT) :=
  B_X12_chooses_50 f j4 x1 x2 x3 (0 : Int32) s0 u
theorem w_X12_chooses_49 {z : ZT} {g : GT} {w : LT} (hL : Lay w) (C : Cx z g cX12_chooses 5 RX12 (some .int) 1 0 0) {f : Nat} {r : (Int32 × MT)} {j4 : Int32 → Int32 → Int32 → MT → Option (Int32 × MT)} (q4 : ∀ (x1 : Int32) (x2 : Int32) (x3 : Int32) (u : MT), j4 x1 x2 x3 u = some r → V z g 5 4 [(0, .ref 167), (1, .int x1), (2, .int x2), (3, .int x3)] [] w u 0 0 (Qi r.1 w r.2)) {x1 : Int32} {x2 : Int32} {x3 : Int32} {s0 : Int32} {u : MT} (h : B_X12_chooses_49 f j4 x1 x2 x3 s0 u = some r) : V z g 5 49 [(0, .ref 167), (1, .int x1), (2, .int x2), (3, .int x3)] [.int s0, .ref 212] w u 0 0 (Qi r.1 w r.2) := by
  rw [B_X12_chooses_49] at h
  refine Viconst (x := 0) C (dAt D_X12_chooses 29 rfl) (by decide) ?_
  exact Vsub [0, 1, 2, 3] rfl (w_X12_chooses_50 hL C q4  h)
def B_X12_chooses_144 (f : Nat) (j74 : Int32 → Int32 → MT → Option (Int32 × MT)) (j99 : Int32 → Int32 → Int32 → Int32 → MT → Option (Int32 × MT)) (x1 : Int32) (x2 : Int32) (x4 : Int32) (s0 : Int32) (u : MT) : Option (Int32 × MT) :=
  let v26 := x4 + 1
  j99 x1 x2 s0 v26 u
theorem w_X12_chooses_144 {z : ZT} {g : GT} {w : LT} (hL : Lay w) (C : Cx z g cX12_chooses 5 RX12 (some .int) 1 0 0) {f : Nat} {r : (Int32 × MT)} {j74 : Int32 → Int32 → MT → Option (Int32 × MT)} {j99 : Int32 → Int32 → Int32 → Int32 → MT → Option (Int32 × MT)} (q74 : ∀ (x1 : Int32) (x2 : Int32) (u : MT), j74 x1 x2 u = some r → V z g 5 74 [(0, .ref 167), (1, .int x1), (2, .int x2)] [] w u 0 0 (Qi r.1 w r.2)) (q99 : ∀ (x1 : Int32) (x2 : Int32) (x3 : Int32) (x4 : Int32) (u : MT), j99 x1 x2 x3 x4 u = some r → V z g 5 99 [(0, .ref 167), (1, .int x1), (2, .int x2), (3, .int x3), (4, .int x4)] [] w u 0 0 (Qi r.1 w r.2)) {x1 : Int32} {x2 : Int32} {x4 : Int32} {s0 : Int32} {u : MT} (h : B_X12_chooses_144 f j74 j99 x1 x2 x4 s0 u = some r) : V z g 5 144 [(0, .ref 167), (1, .int x1), (2, .int x2), (4, .int x4)] [.int s0] w u 0 0 (Qi r.1 w r.2) := by
  rw [B_X12_chooses_144] at h
  refine Vistore_n (lv' := [(3, _), (0, _), (1, _), (2, _), (4, _)]) C (dAt D_X12_chooses 83 rfl) rfl (by decide) rfl ?_
  refine Viinc (j := 4) (v := _ + 1) (lv' := [(4, _), (3, _), (0, _), (1, _), (2, _)]) C (dAt D_X12_chooses 84 rfl) rfl rfl (by decide) rfl ?_
  refine Vgoto (tgt := 99) C (dAt D_X12_chooses 85 rfl) (by decide) ?_
  exact Vsub [2, 3, 4, 1, 0] rfl (q99 _ _ _ _ _  h)
def B_X12_chooses_138 (f : Nat) (j74 : Int32 → Int32 → MT → Option (Int32 × MT)) (j99 : Int32 → Int32 → Int32 → Int32 → MT → Option (Int32 × MT)) (x1 : Int32) (x2 : Int32) (x4 : Int32) (u : MT) : Option (Int32 × MT) :=
  B_X12_chooses_144 f j74 j99 x1 x2 x4 x4 u
theorem w_X12_chooses_138 {z : ZT} {g : GT} {w : LT} (hL : Lay w) (C : Cx z g cX12_chooses 5 RX12 (some .int) 1 0 0) {f : Nat} {r : (Int32 × MT)} {j74 : Int32 → Int32 → MT → Option (Int32 × MT)} {j99 : Int32 → Int32 → Int32 → Int32 → MT → Option (Int32 × MT)} (q74 : ∀ (x1 : Int32) (x2 : Int32) (u : MT), j74 x1 x2 u = some r → V z g 5 74 [(0, .ref 167), (1, .int x1), (2, .int x2)] [] w u 0 0 (Qi r.1 w r.2)) (q99 : ∀ (x1 : Int32) (x2 : Int32) (x3 : Int32) (x4 : Int32) (u : MT), j99 x1 x2 x3 x4 u = some r → V z g 5 99 [(0, .ref 167), (1, .int x1), (2, .int x2), (3, .int x3), (4, .int x4)] [] w u 0 0 (Qi r.1 w r.2)) {x1 : Int32} {x2 : Int32} {x4 : Int32} {u : MT} (h : B_X12_chooses_138 f j74 j99 x1 x2 x4 u = some r) : V z g 5 138 [(0, .ref 167), (1, .int x1), (2, .int x2), (4, .int x4)] [] w u 0 0 (Qi r.1 w r.2) := by
  rw [B_X12_chooses_138] at h
  refine Viload C 3 (dAt D_X12_chooses 80 rfl) rfl ?_
  refine Vgoto (tgt := 144) C (dAt D_X12_chooses 81 rfl) (by decide) ?_
  exact Vsub [0, 1, 2, 3] rfl (w_X12_chooses_144 hL C q74 q99  h)
def B_X12_chooses_143 (f : Nat) (j74 : Int32 → Int32 → MT → Option (Int32 × MT)) (j99 : Int32 → Int32 → Int32 → Int32 → MT → Option (Int32 × MT)) (x1 : Int32) (x2 : Int32) (x3 : Int32) (x4 : Int32) (u : MT) : Option (Int32 × MT) :=
  B_X12_chooses_144 f j74 j99 x1 x2 x4 x3 u
theorem w_X12_chooses_143 {z : ZT} {g : GT} {w : LT} (hL : Lay w) (C : Cx z g cX12_chooses 5 RX12 (some .int) 1 0 0) {f : Nat} {r : (Int32 × MT)} {j74 : Int32 → Int32 → MT → Option (Int32 × MT)} {j99 : Int32 → Int32 → Int32 → Int32 → MT → Option (Int32 × MT)} (q74 : ∀ (x1 : Int32) (x2 : Int32) (u : MT), j74 x1 x2 u = some r → V z g 5 74 [(0, .ref 167), (1, .int x1), (2, .int x2)] [] w u 0 0 (Qi r.1 w r.2)) (q99 : ∀ (x1 : Int32) (x2 : Int32) (x3 : Int32) (x4 : Int32) (u : MT), j99 x1 x2 x3 x4 u = some r → V z g 5 99 [(0, .ref 167), (1, .int x1), (2, .int x2), (3, .int x3), (4, .int x4)] [] w u 0 0 (Qi r.1 w r.2)) {x1 : Int32} {x2 : Int32} {x3 : Int32} {x4 : Int32} {u : MT} (h : B_X12_chooses_143 f j74 j99 x1 x2 x3 x4 u = some r) : V z g 5 143 [(0, .ref 167), (1, .int x1), (2, .int x2), (3, .int x3), (4, .int x4)] [] w u 0 0 (Qi r.1 w r.2) := by
  rw [B_X12_chooses_143] at h
  refine Viload_n C 3 (dAt D_X12_chooses 82 rfl) rfl rfl ?_
  exact Vsub [0, 1, 2, 4] rfl (w_X12_chooses_144 hL C q74 q99  h)
def B_X12_chooses_99 (f : Nat) (j74 : Int32 → Int32 → MT → Option (Int32 × MT)) : Nat → Int32 → Int32 → Int32 → Int32 → MT → Option (Int32 × MT)
  | 0, _, _, _, _, _ => none
  | n + 1, x1, x2, x3, x4, u =>
    if (gI u 167 31) ≤ x4 then
      ck (ixo x3 12) <|
      let u13 := sI u 212 (x3).toNatClampNeg (vp_nar .boolean (0 : Int32))
      let v14 := x2 + (-1)
      j74 x1 v14 u13
    else
      ck (ixo x4 12) <|
      if (gI u 212 (x4).toNatClampNeg) = 0 then
        B_X12_chooses_143 f j74 (fun x1' x2' x3' x4' u' => B_X12_chooses_99 f j74 n x1' x2' x3' x4' u') x1 x2 x3 x4 u
      else
        if x3 < 0 then
          B_X12_chooses_138 f j74 (fun x1' x2' x3' x4' u' => B_X12_chooses_99 f j74 n x1' x2' x3' x4' u') x1 x2 x4 u
        else
          ck (ixo x3 12) <|
          if (gI u 207 (x4).toNatClampNeg) < (gI u 207 (x3).toNatClampNeg) then
            B_X12_chooses_143 f j74 (fun x1' x2' x3' x4' u' => B_X12_chooses_99 f j74 n x1' x2' x3' x4' u') x1 x2 x3 x4 u
          else
            B_X12_chooses_138 f j74 (fun x1' x2' x3' x4' u' => B_X12_chooses_99 f j74 n x1' x2' x3' x4' u') x1 x2 x4 u
theorem w_X12_chooses_99 {z : ZT} {g : GT} {w : LT} (hL : Lay w) (C : Cx z g cX12_chooses 5 RX12 (some .int) 1 0 0) {f : Nat} {r : (Int32 × MT)} {j74 : Int32 → Int32 → MT → Option (Int32 × MT)} (q74 : ∀ (x1 : Int32) (x2 : Int32) (u : MT), j74 x1 x2 u = some r → V z g 5 74 [(0, .ref 167), (1, .int x1), (2, .int x2)] [] w u 0 0 (Qi r.1 w r.2)) : ∀ (n : Nat) (x1 : Int32) (x2 : Int32) (x3 : Int32) (x4 : Int32) (u : MT), B_X12_chooses_99 f j74 n x1 x2 x3 x4 u = some r → V z g 5 99 [(0, .ref 167), (1, .int x1), (2, .int x2), (3, .int x3), (4, .int x4)] [] w u 0 0 (Qi r.1 w r.2) := by
  intro n
  induction n with
  | zero =>
    intro x1 x2 x3 x4 u h
    rw [B_X12_chooses_99] at h
    cases h
  | succ n ih =>
    intro x1 x2 x3 x4 u h
    rw [B_X12_chooses_99] at h
    refine Viload C 4 (dAt D_X12_chooses 60 rfl) rfl ?_
    refine Vaload_n C 0 (dAt D_X12_chooses 61 rfl) rfl rfl ?_
    refine VgetI C (dAt D_X12_chooses 62 rfl) gf_X12_300 (kt_167 hL) rfl ?_
    refine Vicmp_ge (tgt := 151) C (dAt D_X12_chooses 63 rfl) (by decide) (fun c11 => ?_) (fun c11 => ?_)
    · have h := ok_t c11 h
      refine Vaload_n C 0 (dAt D_X12_chooses 86 rfl) rfl rfl ?_
      refine VgetP C (dAt D_X12_chooses 87 rfl) gf_X12_205 (kt_167 hL) rfl (kp_167_70 hL) ?_
      refine Viload_n C 3 (dAt D_X12_chooses 88 rfl) rfl rfl ?_
      refine Viconst (x := 0) C (dAt D_X12_chooses 89 rfl) (by decide) ?_
      obtain ⟨c12, h⟩ := ok_ck h
      refine Vzast C (dAt D_X12_chooses 90 rfl) (kt_212 hL) (kl_212 hL) (vp_in_iff.mpr c12) ?_
      refine Viinc (j := 2) (v := _ + (-1)) (lv' := [(2, _), (0, _), (1, _), (3, _), (4, _)]) C (dAt D_X12_chooses 91 rfl) rfl rfl (by decide) rfl ?_
      refine Vgoto (tgt := 74) C (dAt D_X12_chooses 92 rfl) (by decide) ?_
      exact Vsub [1, 2, 0] rfl (q74 _ _ _  h)
    · have h := ok_f c11 h
      refine Vaload_n C 0 (dAt D_X12_chooses 64 rfl) rfl rfl ?_
      refine VgetP C (dAt D_X12_chooses 65 rfl) gf_X12_205 (kt_167 hL) rfl (kp_167_70 hL) ?_
      refine Viload C 4 (dAt D_X12_chooses 66 rfl) rfl ?_
      obtain ⟨c15, h⟩ := ok_ck h
      refine Vzald C (dAt D_X12_chooses 67 rfl) (kt_212 hL) (kl_212 hL) (vp_in_iff.mpr c15) ?_
      refine Vif_eq (tgt := 143) C (dAt D_X12_chooses 68 rfl) (by decide) (fun c16 => ?_) (fun c16 => ?_)
      · have h := ok_t c16 h
        exact Vsub [0, 1, 2, 3, 4] rfl (w_X12_chooses_143 hL C q74 ih  h)
      · have h := ok_f c16 h
        refine Viload_n C 3 (dAt D_X12_chooses 69 rfl) rfl rfl ?_
        refine Vif_lt (tgt := 138) C (dAt D_X12_chooses 70 rfl) (by decide) (fun c17 => ?_) (fun c17 => ?_)
        · have h := ok_t c17 h
          exact Vsub [0, 1, 2, 4] rfl (w_X12_chooses_138 hL C q74 ih  h)
        · have h := ok_f c17 h
          refine Vaload_n C 0 (dAt D_X12_chooses 71 rfl) rfl rfl ?_
          refine VgetP C (dAt D_X12_chooses 72 rfl) gf_X12_190 (kt_167 hL) rfl (kp_167_58 hL) ?_
          refine Viload C 4 (dAt D_X12_chooses 73 rfl) rfl ?_
          refine Viald C (dAt D_X12_chooses 74 rfl) (kt_207 hL) (kl_207 hL) (vp_in_iff.mpr c15) ?_
          refine Vaload_n C 0 (dAt D_X12_chooses 75 rfl) rfl rfl ?_
          refine VgetP C (dAt D_X12_chooses 76 rfl) gf_X12_190 (kt_167 hL) rfl (kp_167_58 hL) ?_
          refine Viload_n C 3 (dAt D_X12_chooses 77 rfl) rfl rfl ?_
          obtain ⟨c18, h⟩ := ok_ck h
          refine Viald C (dAt D_X12_chooses 78 rfl) (kt_207 hL) (kl_207 hL) (vp_in_iff.mpr c18) ?_
          refine Vicmp_lt (tgt := 143) C (dAt D_X12_chooses 79 rfl) (by decide) (fun c19 => ?_) (fun c19 => ?_)
          · have h := ok_t c19 h
            exact Vsub [0, 1, 2, 3, 4] rfl (w_X12_chooses_143 hL C q74 ih  h)
          · have h := ok_f c19 h
            exact Vsub [0, 1, 2, 4] rfl (w_X12_chooses_138 hL C q74 ih  h)
def B_X12_chooses_74 (f : Nat) : Nat → Int32 → Int32 → MT → Option (Int32 × MT)
  | 0, _, _, _ => none
  | n + 1, x1, x2, u =>
    ck (ixo x1 192) <|
    if (gI u 179 (x1).toNatClampNeg) = (2 : Int32) then
      if x2 ≤ (gI u 180 (x1).toNatClampNeg) then
        some (x2, u)
      else
        B_X12_chooses_99 f (fun x1' x2' u' => B_X12_chooses_74 f n x1' x2' u') f x1 x2 (-1 : Int32) (0 : Int32) u
    else
      some (x2, u)
theorem w_X12_chooses_74 {z : ZT} {g : GT} {w : LT} (hL : Lay w) (C : Cx z g cX12_chooses 5 RX12 (some .int) 1 0 0) {f : Nat} {r : (Int32 × MT)} : ∀ (n : Nat) (x1 : Int32) (x2 : Int32) (u : MT), B_X12_chooses_74 f n x1 x2 u = some r → V z g 5 74 [(0, .ref 167), (1, .int x1), (2, .int x2)] [] w u 0 0 (Qi r.1 w r.2) := by
  intro n
  induction n with
  | zero =>
    intro x1 x2 u h
    rw [B_X12_chooses_74] at h
    cases h
  | succ n ih =>
    intro x1 x2 u h
    rw [B_X12_chooses_74] at h
    refine Vaload_n C 0 (dAt D_X12_chooses 44 rfl) rfl rfl ?_
    refine VgetP C (dAt D_X12_chooses 45 rfl) gf_X12_103 (kt_167 hL) rfl (kp_167_16 hL) ?_
    refine Viload_n C 1 (dAt D_X12_chooses 46 rfl) rfl rfl ?_
    obtain ⟨c8, h⟩ := ok_ck h
    refine Viald C (dAt D_X12_chooses 47 rfl) (kt_179 hL) (kl_179 hL) (vp_in_iff.mpr c8) ?_
    refine Viconst (x := 2) C (dAt D_X12_chooses 48 rfl) (by decide) ?_
    refine Vicmp_ne (tgt := 164) C (dAt D_X12_chooses 49 rfl) (by decide) (fun c9 => ?_) (fun c9 => ?_)
    · have h := ok_f c9 h
      refine Viload_n C 2 (dAt D_X12_chooses 93 rfl) rfl rfl ?_
      cases h
      exact Viret C (dAt D_X12_chooses 94 rfl) (by decide) (by decide) ⟨rfl, rfl, rfl⟩
    · have h := ok_t c9 h
      refine Viload_n C 2 (dAt D_X12_chooses 50 rfl) rfl rfl ?_
      refine Vaload_n C 0 (dAt D_X12_chooses 51 rfl) rfl rfl ?_
      refine VgetP C (dAt D_X12_chooses 52 rfl) gf_X12_106 (kt_167 hL) rfl (kp_167_17 hL) ?_
      refine Viload_n C 1 (dAt D_X12_chooses 53 rfl) rfl rfl ?_
      refine Viald C (dAt D_X12_chooses 54 rfl) (kt_180 hL) (kl_180 hL) (vp_in_iff.mpr c8) ?_
      refine Vicmp_le (tgt := 164) C (dAt D_X12_chooses 55 rfl) (by decide) (fun c10 => ?_) (fun c10 => ?_)
      · have h := ok_t c10 h
        refine Viload_n C 2 (dAt D_X12_chooses 93 rfl) rfl rfl ?_
        cases h
        exact Viret C (dAt D_X12_chooses 94 rfl) (by decide) (by decide) ⟨rfl, rfl, rfl⟩
      · have h := ok_f c10 h
        refine Viconst (x := (-1)) C (dAt D_X12_chooses 56 rfl) (by decide) ?_
        refine Vistore_n (lv' := [(3, _), (0, _), (1, _), (2, _)]) C (dAt D_X12_chooses 57 rfl) rfl (by decide) rfl ?_
        refine Viconst (x := 0) C (dAt D_X12_chooses 58 rfl) (by decide) ?_
        refine Vistore (lv' := [(4, _), (3, _), (0, _), (1, _), (2, _)]) C (dAt D_X12_chooses 59 rfl) (by decide) rfl ?_
        exact Vsub [2, 3, 4, 1, 0] rfl (w_X12_chooses_99 hL C ih  f _ _ _ _ _  h)
def B_X12_chooses_45 (f : Nat) (j4 : Int32 → Int32 → Int32 → MT → Option (Int32 × MT)) (x1 : Int32) (x2 : Int32) (x3 : Int32) (s0 : Int32) (u : MT) : Option (Int32 × MT) :=
  B_X12_chooses_50 f j4 x1 x2 x3 (1 : Int32) s0 u
theorem w_X12_chooses_45 {z : ZT} {g : GT} {w : LT} (hL : Lay w) (C : Cx z g cX12_chooses 5 RX12 (some .int) 1 0 0) {f : Nat} {r : (Int32 × MT)} {j4 : Int32 → Int32 → Int32 → MT → Option (Int32 × MT)} (q4 : ∀ (x1 : Int32) (x2 : Int32) (x3 : Int32) (u : MT), j4 x1 x2 x3 u = some r → V z g 5 4 [(0, .ref 167), (1, .int x1), (2, .int x2), (3, .int x3)] [] w u 0 0 (Qi r.1 w r.2)) {x1 : Int32} {x2 : Int32} {x3 : Int32} {s0 : Int32} {u : MT} (h : B_X12_chooses_45 f j4 x1 x2 x3 s0 u = some r) : V z g 5 45 [(0, .ref 167), (1, .int x1), (2, .int x2), (3, .int x3)] [.int s0, .ref 212] w u 0 0 (Qi r.1 w r.2) := by
  rw [B_X12_chooses_45] at h
  refine Viconst (x := 1) C (dAt D_X12_chooses 27 rfl) (by decide) ?_
  refine Vgoto (tgt := 50) C (dAt D_X12_chooses 28 rfl) (by decide) ?_
  exact Vsub [0, 1, 2, 3] rfl (w_X12_chooses_50 hL C q4  h)
def B_X12_chooses_4 (f : Nat) : Nat → Int32 → Int32 → Int32 → MT → Option (Int32 × MT)
  | 0, _, _, _, _ => none
  | n + 1, x1, x2, x3, u =>
    if (gI u 167 31) ≤ x3 then
      B_X12_chooses_74 f f x1 x2 u
    else
      (F_X12_can f x3 u).bind fun r2 =>
      if r2.1 = 0 then
        B_X12_chooses_49 f (fun x1' x2' x3' u' => B_X12_chooses_4 f n x1' x2' x3' u') x1 x2 x3 x3 r2.2
      else
        ck (ixo x1 192) <|
        if (gI r2.2 179 (x1).toNatClampNeg) = (1 : Int32) then
          if (gI r2.2 180 (x1).toNatClampNeg) = x3 then
            B_X12_chooses_45 f (fun x1' x2' x3' u' => B_X12_chooses_4 f n x1' x2' x3' u') x1 x2 x3 x3 r2.2
          else
            B_X12_chooses_49 f (fun x1' x2' x3' u' => B_X12_chooses_4 f n x1' x2' x3' u') x1 x2 x3 x3 r2.2
        else
          B_X12_chooses_45 f (fun x1' x2' x3' u' => B_X12_chooses_4 f n x1' x2' x3' u') x1 x2 x3 x3 r2.2
theorem w_X12_chooses_4 {z : ZT} {g : GT} {w : LT} (hL : Lay w) (C : Cx z g cX12_chooses 5 RX12 (some .int) 1 0 0) {f : Nat} {r : (Int32 × MT)} : ∀ (n : Nat) (x1 : Int32) (x2 : Int32) (x3 : Int32) (u : MT), B_X12_chooses_4 f n x1 x2 x3 u = some r → V z g 5 4 [(0, .ref 167), (1, .int x1), (2, .int x2), (3, .int x3)] [] w u 0 0 (Qi r.1 w r.2) := by
  intro n
  induction n with
  | zero =>
    intro x1 x2 x3 u h
    rw [B_X12_chooses_4] at h
    cases h
  | succ n ih =>
    intro x1 x2 x3 u h
    rw [B_X12_chooses_4] at h
    refine Viload_n C 3 (dAt D_X12_chooses 4 rfl) rfl rfl ?_
    refine Vaload_n C 0 (dAt D_X12_chooses 5 rfl) rfl rfl ?_
    refine VgetI C (dAt D_X12_chooses 6 rfl) gf_X12_300 (kt_167 hL) rfl ?_
    refine Vicmp_ge (tgt := 74) C (dAt D_X12_chooses 7 rfl) (by decide) (fun c1 => ?_) (fun c1 => ?_)
    · have h := ok_t c1 h
      exact Vsub [0, 1, 2] rfl (w_X12_chooses_74 hL C  f _ _ _  h)
    · have h := ok_f c1 h
      refine Vaload_n C 0 (dAt D_X12_chooses 8 rfl) rfl rfl ?_
      refine VgetP C (dAt D_X12_chooses 9 rfl) gf_X12_205 (kt_167 hL) rfl (kp_167_70 hL) ?_
      refine Viload_n C 3 (dAt D_X12_chooses 10 rfl) rfl rfl ?_
      refine Vaload_n C 0 (dAt D_X12_chooses 11 rfl) rfl rfl ?_
      refine Viload_n C 3 (dAt D_X12_chooses 12 rfl) rfl rfl ?_
      obtain ⟨r2, e3, h⟩ := ok_b h
      refine VcallV (as := [_]) C (dAt D_X12_chooses 13 rfl) (m_X12_can hL e3) yv_X12_404 (Or.inl ⟨(kt_167 hL), by decide⟩) rfl rfl (Nat.le_of_ble_eq_true rfl) (by decide) (by decide) (by decide) (by decide) (Kint ?_)
      refine Vif_eq (tgt := 49) C (dAt D_X12_chooses 14 rfl) (by decide) (fun c4 => ?_) (fun c4 => ?_)
      · have h := ok_t c4 h
        exact Vsub [0, 1, 2, 3] rfl (w_X12_chooses_49 hL C ih  h)
      · have h := ok_f c4 h
        refine Vaload_n C 0 (dAt D_X12_chooses 15 rfl) rfl rfl ?_
        refine VgetP C (dAt D_X12_chooses 16 rfl) gf_X12_103 (kt_167 hL) rfl (kp_167_16 hL) ?_
        refine Viload_n C 1 (dAt D_X12_chooses 17 rfl) rfl rfl ?_
        obtain ⟨c5, h⟩ := ok_ck h
        refine Viald C (dAt D_X12_chooses 18 rfl) (kt_179 hL) (kl_179 hL) (vp_in_iff.mpr c5) ?_
        refine Viconst (x := 1) C (dAt D_X12_chooses 19 rfl) (by decide) ?_
        refine Vicmp_ne (tgt := 45) C (dAt D_X12_chooses 20 rfl) (by decide) (fun c6 => ?_) (fun c6 => ?_)
        · have h := ok_f c6 h
          exact Vsub [0, 1, 2, 3] rfl (w_X12_chooses_45 hL C ih  h)
        · have h := ok_t c6 h
          refine Vaload_n C 0 (dAt D_X12_chooses 21 rfl) rfl rfl ?_
          refine VgetP C (dAt D_X12_chooses 22 rfl) gf_X12_106 (kt_167 hL) rfl (kp_167_17 hL) ?_
          refine Viload_n C 1 (dAt D_X12_chooses 23 rfl) rfl rfl ?_
          refine Viald C (dAt D_X12_chooses 24 rfl) (kt_180 hL) (kl_180 hL) (vp_in_iff.mpr c5) ?_
          refine Viload_n C 3 (dAt D_X12_chooses 25 rfl) rfl rfl ?_
          refine Vicmp_ne (tgt := 49) C (dAt D_X12_chooses 26 rfl) (by decide) (fun c7 => ?_) (fun c7 => ?_)
          · have h := ok_f c7 h
            exact Vsub [0, 1, 2, 3] rfl (w_X12_chooses_49 hL C ih  h)
          · have h := ok_t c7 h
            exact Vsub [0, 1, 2, 3] rfl (w_X12_chooses_45 hL C ih  h)
def F_X12_chooses (f : Nat) (x1 : Int32) (u : MT) : Option (Int32 × MT) :=
  B_X12_chooses_4 f f x1 (0 : Int32) (0 : Int32) u
theorem m_X12_chooses {g : GT} {w : LT} (hL : Lay w) {x1 : Int32} {f : Nat} {u : MT} {r : (Int32 × MT)} (h : F_X12_chooses f x1 u = some r) : Mt g yX12_chooses cX12_chooses 5 (some .int) 1 0 0 [.ref 167, .int x1] w u (Qi r.1 w r.2) := by
  refine Mt_of (own := RX12) (by decide +kernel) rfl (Nat.le_of_ble_eq_true rfl) (fun z C _ => ?_)
  show V z g 5 0 [(0, .ref 167), (1, .int x1)] [] w u 0 0 (Qi r.1 w r.2)
  rw [F_X12_chooses] at h
  refine Viconst (x := 0) C (dAt D_X12_chooses 0 rfl) (by decide) ?_
  refine Vistore_n (lv' := [(2, _), (0, _), (1, _)]) C (dAt D_X12_chooses 1 rfl) rfl (by decide) rfl ?_
  refine Viconst (x := 0) C (dAt D_X12_chooses 2 rfl) (by decide) ?_
  refine Vistore_n (lv' := [(3, _), (2, _), (0, _), (1, _)]) C (dAt D_X12_chooses 3 rfl) rfl (by decide) rfl ?_
  exact Vsub [2, 3, 1, 0] rfl (w_X12_chooses_4 hL C  f _ _ _ _  h)
def F_X12_least (f : Nat) (x0 : Int32) (x1 : Int32) (u : MT) : Option (Int32 × MT) :=
  if x1 ≤ x0 then
    some (x1, u)
  else
    some (x0, u)
theorem m_X12_least {g : GT} {w : LT} (hL : Lay w) {x0 : Int32} {x1 : Int32} {f : Nat} {u : MT} {r : (Int32 × MT)} (h : F_X12_least f x0 x1 u = some r) : Mt g yX12_least cX12_least 2 (some .int) 0 0 0 [.int x0, .int x1] w u (Qi r.1 w r.2) := by
  refine Mt_of (own := RX12) (by decide +kernel) rfl (Nat.le_of_ble_eq_true rfl) (fun z C _ => ?_)
  show V z g 2 0 [(0, .int x0), (1, .int x1)] [] w u 0 0 (Qi r.1 w r.2)
  rw [F_X12_least] at h
  refine Viload_n C 0 (dAt D_X12_least 0 rfl) rfl rfl ?_
  refine Viload_n C 1 (dAt D_X12_least 1 rfl) rfl rfl ?_
  refine Vicmp_ge (tgt := 9) C (dAt D_X12_least 2 rfl) (by decide) (fun c1 => ?_) (fun c1 => ?_)
  · have h := ok_t c1 h
    refine Viload_n C 1 (dAt D_X12_least 5 rfl) rfl rfl ?_
    cases h
    exact Viret C (dAt D_X12_least 6 rfl) (by decide) (by decide) ⟨rfl, rfl, rfl⟩
  · have h := ok_f c1 h
    refine Viload_n C 0 (dAt D_X12_least 3 rfl) rfl rfl ?_
    refine Vgoto (tgt := 10) C (dAt D_X12_least 4 rfl) (by decide) ?_
    cases h
    exact Viret C (dAt D_X12_least 6 rfl) (by decide) (by decide) ⟨rfl, rfl, rfl⟩
def F_X12_hands (f : Nat) (x1 : Int32) (x2 : Int32) (x3 : Int32) (x4 : Int32) (u : MT) : Option MT :=
  ck (ixo x3 12) <|
  let u2 := sI u 201 (x3).toNatClampNeg ((gI u 201 (x3).toNatClampNeg) - x4)
  let u3 := sI u2 202 (x3).toNatClampNeg ((gI u2 202 (x3).toNatClampNeg) - x4)
  let u4 := sI u3 207 (x3).toNatClampNeg ((gI u3 207 (x3).toNatClampNeg) + x4)
  ck (ixo (((13 : Int32) * x1) + x3) 312) <|
  let u6 := sI u4 209 ((((13 : Int32) * x1) + x3)).toNatClampNeg ((gI u4 209 ((((13 : Int32) * x1) + x3)).toNatClampNeg) + x4)
  ck (ixo x2 192) <|
  if (gI u6 178 (x2).toNatClampNeg) = 0 then
    let u9 := sI u6 204 (x3).toNatClampNeg ((gI u6 204 (x3).toNatClampNeg) + x4)
    let u10 := sI u9 167 46 ((gI u9 167 46) - x4)
    some u10
  else
    let u11 := sI u6 205 (x3).toNatClampNeg ((gI u6 205 (x3).toNatClampNeg) + x4)
    let u12 := sI u11 167 45 ((gI u11 167 45) - x4)
    some u12
theorem m_X12_hands {g : GT} {w : LT} (hL : Lay w) {x1 : Int32} {x2 : Int32} {x3 : Int32} {x4 : Int32} {f : Nat} {u : MT} {r : MT} (h : F_X12_hands f x1 x2 x3 x4 u = some r) : Mt g yX12_hands cX12_hands 5 none 0 0 0 [.ref 167, .int x1, .int x2, .int x3, .int x4] w u (Qv w r) := by
  refine Mt_of (own := RX12) (by decide +kernel) rfl (Nat.le_of_ble_eq_true rfl) (fun z C _ => ?_)
  show V z g 5 0 [(0, .ref 167), (1, .int x1), (2, .int x2), (3, .int x3), (4, .int x4)] [] w u 0 0 (Qv w r)
  rw [F_X12_hands] at h
  refine Vaload_n C 0 (dAt D_X12_hands 0 rfl) rfl rfl ?_
  refine VgetP C (dAt D_X12_hands 1 rfl) gf_X12_172 (kt_167 hL) rfl (kp_167_52 hL) ?_
  refine Viload_n C 3 (dAt D_X12_hands 2 rfl) rfl rfl ?_
  refine Vdup2 C (dAt D_X12_hands 3 rfl) rfl rfl ?_
  obtain ⟨c1, h⟩ := ok_ck h
  refine Viald C (dAt D_X12_hands 4 rfl) (kt_201 hL) (kl_201 hL) (vp_in_iff.mpr c1) ?_
  refine Viload C 4 (dAt D_X12_hands 5 rfl) rfl ?_
  refine Visub C (dAt D_X12_hands 6 rfl) ?_
  refine Viast C (dAt D_X12_hands 7 rfl) (kt_201 hL) (kl_201 hL) (vp_in_iff.mpr c1) ?_
  refine Vaload_n C 0 (dAt D_X12_hands 8 rfl) rfl rfl ?_
  refine VgetP C (dAt D_X12_hands 9 rfl) gf_X12_175 (kt_167 hL) rfl (kp_167_53 hL) ?_
  refine Viload_n C 3 (dAt D_X12_hands 10 rfl) rfl rfl ?_
  refine Vdup2 C (dAt D_X12_hands 11 rfl) rfl rfl ?_
  refine Viald C (dAt D_X12_hands 12 rfl) (kt_202 hL) (kl_202 hL) (vp_in_iff.mpr c1) ?_
  refine Viload C 4 (dAt D_X12_hands 13 rfl) rfl ?_
  refine Visub C (dAt D_X12_hands 14 rfl) ?_
  refine Viast C (dAt D_X12_hands 15 rfl) (kt_202 hL) (kl_202 hL) (vp_in_iff.mpr c1) ?_
  refine Vaload_n C 0 (dAt D_X12_hands 16 rfl) rfl rfl ?_
  refine VgetP C (dAt D_X12_hands 17 rfl) gf_X12_190 (kt_167 hL) rfl (kp_167_58 hL) ?_
  refine Viload_n C 3 (dAt D_X12_hands 18 rfl) rfl rfl ?_
  refine Vdup2 C (dAt D_X12_hands 19 rfl) rfl rfl ?_
  refine Viald C (dAt D_X12_hands 20 rfl) (kt_207 hL) (kl_207 hL) (vp_in_iff.mpr c1) ?_
  refine Viload C 4 (dAt D_X12_hands 21 rfl) rfl ?_
  refine Viadd C (dAt D_X12_hands 22 rfl) ?_
  refine Viast C (dAt D_X12_hands 23 rfl) (kt_207 hL) (kl_207 hL) (vp_in_iff.mpr c1) ?_
  refine Vaload_n C 0 (dAt D_X12_hands 24 rfl) rfl rfl ?_
  refine VgetP C (dAt D_X12_hands 25 rfl) gf_X12_196 (kt_167 hL) rfl (kp_167_67 hL) ?_
  refine Vbipush (x := 13) C (dAt D_X12_hands 26 rfl) (by decide) ?_
  refine Viload_n C 1 (dAt D_X12_hands 27 rfl) rfl rfl ?_
  refine Vimul C (dAt D_X12_hands 28 rfl) ?_
  refine Viload_n C 3 (dAt D_X12_hands 29 rfl) rfl rfl ?_
  refine Viadd C (dAt D_X12_hands 30 rfl) ?_
  refine Vdup2 C (dAt D_X12_hands 31 rfl) rfl rfl ?_
  obtain ⟨c5, h⟩ := ok_ck h
  refine Viald C (dAt D_X12_hands 32 rfl) (kt_209 hL) (kl_209 hL) (vp_in_iff.mpr c5) ?_
  refine Viload C 4 (dAt D_X12_hands 33 rfl) rfl ?_
  refine Viadd C (dAt D_X12_hands 34 rfl) ?_
  refine Viast C (dAt D_X12_hands 35 rfl) (kt_209 hL) (kl_209 hL) (vp_in_iff.mpr c5) ?_
  refine Vaload_n C 0 (dAt D_X12_hands 36 rfl) rfl rfl ?_
  refine VgetP C (dAt D_X12_hands 37 rfl) gf_X12_100 (kt_167 hL) rfl (kp_167_15 hL) ?_
  refine Viload_n C 2 (dAt D_X12_hands 38 rfl) rfl rfl ?_
  obtain ⟨c7, h⟩ := ok_ck h
  refine Viald C (dAt D_X12_hands 39 rfl) (kt_178 hL) (kl_178 hL) (vp_in_iff.mpr c7) ?_
  refine Vif_ne (tgt := 83) C (dAt D_X12_hands 40 rfl) (by decide) (fun c8 => ?_) (fun c8 => ?_)
  · have h := ok_f c8 h
    refine Vaload_n C 0 (dAt D_X12_hands 56 rfl) rfl rfl ?_
    refine VgetP C (dAt D_X12_hands 57 rfl) gf_X12_184 (kt_167 hL) rfl (kp_167_56 hL) ?_
    refine Viload_n C 3 (dAt D_X12_hands 58 rfl) rfl rfl ?_
    refine Vdup2 C (dAt D_X12_hands 59 rfl) rfl rfl ?_
    refine Viald C (dAt D_X12_hands 60 rfl) (kt_205 hL) (kl_205 hL) (vp_in_iff.mpr c1) ?_
    refine Viload C 4 (dAt D_X12_hands 61 rfl) rfl ?_
    refine Viadd C (dAt D_X12_hands 62 rfl) ?_
    refine Viast C (dAt D_X12_hands 63 rfl) (kt_205 hL) (kl_205 hL) (vp_in_iff.mpr c1) ?_
    refine Vaload_n C 0 (dAt D_X12_hands 64 rfl) rfl rfl ?_
    refine Vdup C (dAt D_X12_hands 65 rfl) rfl ?_
    refine VgetI C (dAt D_X12_hands 66 rfl) gf_X12_350 (kt_167 hL) rfl ?_
    refine Viload C 4 (dAt D_X12_hands 67 rfl) rfl ?_
    refine Visub C (dAt D_X12_hands 68 rfl) ?_
    refine VputI C (dAt D_X12_hands 69 rfl) gf_X12_350 (kt_167 hL) rfl rfl rfl rfl ?_
    cases h
    exact Vvret C (dAt D_X12_hands 70 rfl) (by decide) (by decide) ⟨rfl, rfl, rfl⟩
  · have h := ok_t c8 h
    refine Vaload_n C 0 (dAt D_X12_hands 41 rfl) rfl rfl ?_
    refine VgetP C (dAt D_X12_hands 42 rfl) gf_X12_181 (kt_167 hL) rfl (kp_167_55 hL) ?_
    refine Viload_n C 3 (dAt D_X12_hands 43 rfl) rfl rfl ?_
    refine Vdup2 C (dAt D_X12_hands 44 rfl) rfl rfl ?_
    refine Viald C (dAt D_X12_hands 45 rfl) (kt_204 hL) (kl_204 hL) (vp_in_iff.mpr c1) ?_
    refine Viload C 4 (dAt D_X12_hands 46 rfl) rfl ?_
    refine Viadd C (dAt D_X12_hands 47 rfl) ?_
    refine Viast C (dAt D_X12_hands 48 rfl) (kt_204 hL) (kl_204 hL) (vp_in_iff.mpr c1) ?_
    refine Vaload_n C 0 (dAt D_X12_hands 49 rfl) rfl rfl ?_
    refine Vdup C (dAt D_X12_hands 50 rfl) rfl ?_
    refine VgetI C (dAt D_X12_hands 51 rfl) gf_X12_369 (kt_167 hL) rfl ?_
    refine Viload C 4 (dAt D_X12_hands 52 rfl) rfl ?_
    refine Visub C (dAt D_X12_hands 53 rfl) ?_
    refine VputI C (dAt D_X12_hands 54 rfl) gf_X12_369 (kt_167 hL) rfl rfl rfl rfl ?_
    refine Vgoto (tgt := 105) C (dAt D_X12_hands 55 rfl) (by decide) ?_
    cases h
    exact Vvret C (dAt D_X12_hands 70 rfl) (by decide) (by decide) ⟨rfl, rfl, rfl⟩
def B_X12_nextOf_107 (f : Nat) (j31 : Int32 → Int32 → Int32 → MT → Option (Int32 × MT)) (x1 : Int32) (x2 : Int32) (x3 : Int32) (u : MT) : Option (Int32 × MT) :=
  let v17 := x3 + 1
  j31 x1 x2 v17 u
theorem w_X12_nextOf_107 {z : ZT} {g : GT} {w : LT} (hL : Lay w) (C : Cx z g cX12_nextOf 5 RX12 (some .int) 1 0 0) {f : Nat} {r : (Int32 × MT)} {j31 : Int32 → Int32 → Int32 → MT → Option (Int32 × MT)} (q31 : ∀ (x1 : Int32) (x2 : Int32) (x3 : Int32) (u : MT), j31 x1 x2 x3 u = some r → V z g 5 31 [(0, .ref 167), (1, .int x1), (2, .int x2), (3, .int x3)] [] w u 0 0 (Qi r.1 w r.2)) {x1 : Int32} {x2 : Int32} {x3 : Int32} {u : MT} (h : B_X12_nextOf_107 f j31 x1 x2 x3 u = some r) : V z g 5 107 [(0, .ref 167), (1, .int x1), (2, .int x2), (3, .int x3)] [] w u 0 0 (Qi r.1 w r.2) := by
  rw [B_X12_nextOf_107] at h
  refine Viinc (j := 3) (v := _ + 1) (lv' := [(3, _), (0, _), (1, _), (2, _)]) C (dAt D_X12_nextOf 60 rfl) rfl rfl (by decide) rfl ?_
  refine Vgoto (tgt := 31) C (dAt D_X12_nextOf 61 rfl) (by decide) ?_
  exact Vsub [1, 2, 3, 0] rfl (q31 _ _ _ _  h)
def B_X12_nextOf_104 (f : Nat) (j31 : Int32 → Int32 → Int32 → MT → Option (Int32 × MT)) (x2 : Int32) (x3 : Int32) (x4 : Int32) (u : MT) : Option (Int32 × MT) :=
  B_X12_nextOf_107 f j31 x4 x2 x3 u
theorem w_X12_nextOf_104 {z : ZT} {g : GT} {w : LT} (hL : Lay w) (C : Cx z g cX12_nextOf 5 RX12 (some .int) 1 0 0) {f : Nat} {r : (Int32 × MT)} {j31 : Int32 → Int32 → Int32 → MT → Option (Int32 × MT)} (q31 : ∀ (x1 : Int32) (x2 : Int32) (x3 : Int32) (u : MT), j31 x1 x2 x3 u = some r → V z g 5 31 [(0, .ref 167), (1, .int x1), (2, .int x2), (3, .int x3)] [] w u 0 0 (Qi r.1 w r.2)) {x2 : Int32} {x3 : Int32} {x4 : Int32} {u : MT} (h : B_X12_nextOf_104 f j31 x2 x3 x4 u = some r) : V z g 5 104 [(0, .ref 167), (2, .int x2), (3, .int x3), (4, .int x4)] [] w u 0 0 (Qi r.1 w r.2) := by
  rw [B_X12_nextOf_104] at h
  refine Viload C 3 (dAt D_X12_nextOf 58 rfl) rfl ?_
  refine Vistore_n (lv' := [(1, _), (0, _), (2, _), (3, _), (4, _)]) C (dAt D_X12_nextOf 59 rfl) rfl (by decide) rfl ?_
  exact Vsub [1, 0, 2, 3] rfl (w_X12_nextOf_107 hL C q31  h)
def B_X12_nextOf_31 (f : Nat) : Nat → Int32 → Int32 → Int32 → MT → Option (Int32 × MT)
  | 0, _, _, _, _ => none
  | n + 1, x1, x2, x3, u =>
    if (gI u 167 31) ≤ x3 then
      some (x1, u)
    else
      ck (¬ (gI u 167 31) = 0) <|
      let v6 := ((x2 + x3) - (x2 + x3) / (gI u 167 31) * (gI u 167 31))
      ck (ixo v6 12) <|
      if (gI u 212 (v6).toNatClampNeg) = 0 then
        B_X12_nextOf_107 f (fun x1' x2' x3' u' => B_X12_nextOf_31 f n x1' x2' x3' u') x1 x2 x3 u
      else
        (F_X12_can f v6 u).bind fun r9 =>
        if r9.1 = 0 then
          B_X12_nextOf_107 f (fun x1' x2' x3' u' => B_X12_nextOf_31 f n x1' x2' x3' u') x1 x2 x3 r9.2
        else
          if x1 < 0 then
            B_X12_nextOf_104 f (fun x1' x2' x3' u' => B_X12_nextOf_31 f n x1' x2' x3' u') x2 x3 v6 r9.2
          else
            ck (ixo (gI r9.2 167 44) 8) <|
            if (gI r9.2 174 ((gI r9.2 167 44)).toNatClampNeg) = (1 : Int32) then
              ck (ixo x1 12) <|
              if (gI r9.2 201 (v6).toNatClampNeg) ≤ (gI r9.2 201 (x1).toNatClampNeg) then
                B_X12_nextOf_107 f (fun x1' x2' x3' u' => B_X12_nextOf_31 f n x1' x2' x3' u') x1 x2 x3 r9.2
              else
                B_X12_nextOf_104 f (fun x1' x2' x3' u' => B_X12_nextOf_31 f n x1' x2' x3' u') x2 x3 v6 r9.2
            else
              B_X12_nextOf_107 f (fun x1' x2' x3' u' => B_X12_nextOf_31 f n x1' x2' x3' u') x1 x2 x3 r9.2
theorem w_X12_nextOf_31 {z : ZT} {g : GT} {w : LT} (hL : Lay w) (C : Cx z g cX12_nextOf 5 RX12 (some .int) 1 0 0) {f : Nat} {r : (Int32 × MT)} : ∀ (n : Nat) (x1 : Int32) (x2 : Int32) (x3 : Int32) (u : MT), B_X12_nextOf_31 f n x1 x2 x3 u = some r → V z g 5 31 [(0, .ref 167), (1, .int x1), (2, .int x2), (3, .int x3)] [] w u 0 0 (Qi r.1 w r.2) := by
  intro n
  induction n with
  | zero =>
    intro x1 x2 x3 u h
    rw [B_X12_nextOf_31] at h
    cases h
  | succ n ih =>
    intro x1 x2 x3 u h
    rw [B_X12_nextOf_31] at h
    refine Viload_n C 3 (dAt D_X12_nextOf 19 rfl) rfl rfl ?_
    refine Vaload_n C 0 (dAt D_X12_nextOf 20 rfl) rfl rfl ?_
    refine VgetI C (dAt D_X12_nextOf 21 rfl) gf_X12_300 (kt_167 hL) rfl ?_
    refine Vicmp_ge (tgt := 113) C (dAt D_X12_nextOf 22 rfl) (by decide) (fun c4 => ?_) (fun c4 => ?_)
    · have h := ok_t c4 h
      refine Viload_n C 1 (dAt D_X12_nextOf 62 rfl) rfl rfl ?_
      cases h
      exact Viret C (dAt D_X12_nextOf 63 rfl) (by decide) (by decide) ⟨rfl, rfl, rfl⟩
    · have h := ok_f c4 h
      refine Viload_n C 2 (dAt D_X12_nextOf 23 rfl) rfl rfl ?_
      refine Viload_n C 3 (dAt D_X12_nextOf 24 rfl) rfl rfl ?_
      refine Viadd C (dAt D_X12_nextOf 25 rfl) ?_
      refine Vaload_n C 0 (dAt D_X12_nextOf 26 rfl) rfl rfl ?_
      refine VgetI C (dAt D_X12_nextOf 27 rfl) gf_X12_300 (kt_167 hL) rfl ?_
      obtain ⟨c5, h⟩ := ok_ck h
      refine Virem C (dAt D_X12_nextOf 28 rfl) c5 ?_
      refine Vistore (lv' := [(4, _), (0, _), (1, _), (2, _), (3, _)]) C (dAt D_X12_nextOf 29 rfl) (by decide) rfl ?_
      refine Vaload_n C 1 (dAt D_X12_nextOf 30 rfl) rfl rfl ?_
      refine VgetP C (dAt D_X12_nextOf 31 rfl) gf_X12_205 (kt_167 hL) rfl (kp_167_70 hL) ?_
      refine Viload C 0 (dAt D_X12_nextOf 32 rfl) rfl ?_
      obtain ⟨c7, h⟩ := ok_ck h
      refine Vzald C (dAt D_X12_nextOf 33 rfl) (kt_212 hL) (kl_212 hL) (vp_in_iff.mpr c7) ?_
      refine Vif_eq (tgt := 107) C (dAt D_X12_nextOf 34 rfl) (by decide) (fun c8 => ?_) (fun c8 => ?_)
      · have h := ok_t c8 h
        exact Vsub [1, 2, 3, 4] rfl (w_X12_nextOf_107 hL C ih  h)
      · have h := ok_f c8 h
        refine Vaload_n C 1 (dAt D_X12_nextOf 35 rfl) rfl rfl ?_
        refine Viload C 0 (dAt D_X12_nextOf 36 rfl) rfl ?_
        obtain ⟨r9, e10, h⟩ := ok_b h
        refine VcallV (as := [_]) C (dAt D_X12_nextOf 37 rfl) (m_X12_can hL e10) yv_X12_404 (Or.inl ⟨(kt_167 hL), by decide⟩) rfl rfl (Nat.le_of_ble_eq_true rfl) (by decide) (by decide) (by decide) (by decide) (Kint ?_)
        refine Vif_ne (tgt := 71) C (dAt D_X12_nextOf 38 rfl) (by decide) (fun c11 => ?_) (fun c11 => ?_)
        · have h := ok_f c11 h
          refine Viload_n C 2 (dAt D_X12_nextOf 40 rfl) rfl rfl ?_
          refine Vif_lt (tgt := 104) C (dAt D_X12_nextOf 41 rfl) (by decide) (fun c12 => ?_) (fun c12 => ?_)
          · have h := ok_t c12 h
            exact Vsub [1, 3, 4, 0] rfl (w_X12_nextOf_104 hL C ih  h)
          · have h := ok_f c12 h
            refine Vaload_n C 1 (dAt D_X12_nextOf 42 rfl) rfl rfl ?_
            refine VgetP C (dAt D_X12_nextOf 43 rfl) gf_X12_88 (kt_167 hL) rfl (kp_167_11 hL) ?_
            refine Vaload_n C 1 (dAt D_X12_nextOf 44 rfl) rfl rfl ?_
            refine VgetI C (dAt D_X12_nextOf 45 rfl) gf_X12_360 (kt_167 hL) rfl ?_
            obtain ⟨c13, h⟩ := ok_ck h
            refine Viald C (dAt D_X12_nextOf 46 rfl) (kt_174 hL) (kl_174 hL) (vp_in_iff.mpr c13) ?_
            refine Viconst (x := 1) C (dAt D_X12_nextOf 47 rfl) (by decide) ?_
            refine Vicmp_ne (tgt := 107) C (dAt D_X12_nextOf 48 rfl) (by decide) (fun c14 => ?_) (fun c14 => ?_)
            · have h := ok_f c14 h
              exact Vsub [1, 2, 3, 4] rfl (w_X12_nextOf_107 hL C ih  h)
            · have h := ok_t c14 h
              refine Vaload_n C 1 (dAt D_X12_nextOf 49 rfl) rfl rfl ?_
              refine VgetP C (dAt D_X12_nextOf 50 rfl) gf_X12_172 (kt_167 hL) rfl (kp_167_52 hL) ?_
              refine Viload C 0 (dAt D_X12_nextOf 51 rfl) rfl ?_
              refine Viald C (dAt D_X12_nextOf 52 rfl) (kt_201 hL) (kl_201 hL) (vp_in_iff.mpr c7) ?_
              refine Vaload_n C 1 (dAt D_X12_nextOf 53 rfl) rfl rfl ?_
              refine VgetP C (dAt D_X12_nextOf 54 rfl) gf_X12_172 (kt_167 hL) rfl (kp_167_52 hL) ?_
              refine Viload_n C 2 (dAt D_X12_nextOf 55 rfl) rfl rfl ?_
              obtain ⟨c15, h⟩ := ok_ck h
              refine Viald C (dAt D_X12_nextOf 56 rfl) (kt_201 hL) (kl_201 hL) (vp_in_iff.mpr c15) ?_
              refine Vicmp_le (tgt := 107) C (dAt D_X12_nextOf 57 rfl) (by decide) (fun c16 => ?_) (fun c16 => ?_)
              · have h := ok_t c16 h
                exact Vsub [1, 2, 3, 4] rfl (w_X12_nextOf_107 hL C ih  h)
              · have h := ok_f c16 h
                exact Vsub [1, 3, 4, 0] rfl (w_X12_nextOf_104 hL C ih  h)
        · have h := ok_t c11 h
          refine Vgoto (tgt := 107) C (dAt D_X12_nextOf 39 rfl) (by decide) ?_
          exact Vsub [1, 2, 3, 4] rfl (w_X12_nextOf_107 hL C ih  h)
def B_X12_nextOf_28 (f : Nat) (x1 : Int32) (s0 : Int32) (u : MT) : Option (Int32 × MT) :=
  B_X12_nextOf_31 f f x1 s0 (0 : Int32) u
theorem w_X12_nextOf_28 {z : ZT} {g : GT} {w : LT} (hL : Lay w) (C : Cx z g cX12_nextOf 5 RX12 (some .int) 1 0 0) {f : Nat} {r : (Int32 × MT)} {x1 : Int32} {s0 : Int32} {u : MT} (h : B_X12_nextOf_28 f x1 s0 u = some r) : V z g 5 28 [(0, .ref 167), (1, .int x1)] [.int s0] w u 0 0 (Qi r.1 w r.2) := by
  rw [B_X12_nextOf_28] at h
  refine Vistore_n (lv' := [(2, _), (0, _), (1, _)]) C (dAt D_X12_nextOf 16 rfl) rfl (by decide) rfl ?_
  refine Viconst (x := 0) C (dAt D_X12_nextOf 17 rfl) (by decide) ?_
  refine Vistore_n (lv' := [(3, _), (2, _), (0, _), (1, _)]) C (dAt D_X12_nextOf 18 rfl) rfl (by decide) rfl ?_
  exact Vsub [2, 3, 1, 0] rfl (w_X12_nextOf_31 hL C  f _ _ _ _  h)
def F_X12_nextOf (f : Nat) (u : MT) : Option (Int32 × MT) :=
  ck (ixo (gI u 167 44) 8) <|
  if (gI u 174 ((gI u 167 44)).toNatClampNeg) = (2 : Int32) then
    ck (¬ (gI u 167 31) = 0) <|
    B_X12_nextOf_28 f (-1 : Int32) ((gI u 167 43) - (gI u 167 43) / (gI u 167 31) * (gI u 167 31)) u
  else
    B_X12_nextOf_28 f (-1 : Int32) (0 : Int32) u
theorem m_X12_nextOf {g : GT} {w : LT} (hL : Lay w) {f : Nat} {u : MT} {r : (Int32 × MT)} (h : F_X12_nextOf f  u = some r) : Mt g yX12_nextOf cX12_nextOf 5 (some .int) 1 0 0 [.ref 167] w u (Qi r.1 w r.2) := by
  refine Mt_of (own := RX12) (by decide +kernel) rfl (Nat.le_of_ble_eq_true rfl) (fun z C _ => ?_)
  show V z g 5 0 [(0, .ref 167)] [] w u 0 0 (Qi r.1 w r.2)
  rw [F_X12_nextOf] at h
  refine Viconst (x := (-1)) C (dAt D_X12_nextOf 0 rfl) (by decide) ?_
  refine Vistore_n (lv' := [(1, _), (0, _)]) C (dAt D_X12_nextOf 1 rfl) rfl (by decide) rfl ?_
  refine Vaload_n C 1 (dAt D_X12_nextOf 2 rfl) rfl rfl ?_
  refine VgetP C (dAt D_X12_nextOf 3 rfl) gf_X12_88 (kt_167 hL) rfl (kp_167_11 hL) ?_
  refine Vaload_n C 1 (dAt D_X12_nextOf 4 rfl) rfl rfl ?_
  refine VgetI C (dAt D_X12_nextOf 5 rfl) gf_X12_360 (kt_167 hL) rfl ?_
  obtain ⟨c1, h⟩ := ok_ck h
  refine Viald C (dAt D_X12_nextOf 6 rfl) (kt_174 hL) (kl_174 hL) (vp_in_iff.mpr c1) ?_
  refine Viconst (x := 2) C (dAt D_X12_nextOf 7 rfl) (by decide) ?_
  refine Vicmp_ne (tgt := 27) C (dAt D_X12_nextOf 8 rfl) (by decide) (fun c2 => ?_) (fun c2 => ?_)
  · have h := ok_f c2 h
    refine Viconst (x := 0) C (dAt D_X12_nextOf 15 rfl) (by decide) ?_
    exact Vsub [1, 0] rfl (w_X12_nextOf_28 hL C  h)
  · have h := ok_t c2 h
    refine Vaload_n C 1 (dAt D_X12_nextOf 9 rfl) rfl rfl ?_
    refine VgetI C (dAt D_X12_nextOf 10 rfl) gf_X12_353 (kt_167 hL) rfl ?_
    refine Vaload_n C 1 (dAt D_X12_nextOf 11 rfl) rfl rfl ?_
    refine VgetI C (dAt D_X12_nextOf 12 rfl) gf_X12_300 (kt_167 hL) rfl ?_
    obtain ⟨c3, h⟩ := ok_ck h
    refine Virem C (dAt D_X12_nextOf 13 rfl) c3 ?_
    refine Vgoto (tgt := 28) C (dAt D_X12_nextOf 14 rfl) (by decide) ?_
    exact Vsub [1, 0] rfl (w_X12_nextOf_28 hL C  h)
def B_X12_oneByOne_3 (f : Nat) : Nat → Int32 → Int32 → Int32 → MT → Option MT
  | 0, _, _, _, _ => none
  | n + 1, x1, x2, x4, u =>
    if x4 ≤ 0 then
      some u
    else
      (F_X12_nextOf f u).bind fun r2 =>
      if 0 ≤ r2.1 then
        ck (ixo r2.1 12) <|
        let u6 := sI r2.2 212 (r2.1).toNatClampNeg (vp_nar .boolean (0 : Int32))
        (F_X12_hands f x1 x2 r2.1 (1 : Int32) u6).bind fun r7 =>
        let v9 := x4 + (-1)
        B_X12_oneByOne_3 f n x1 x2 v9 r7
      else
        some r2.2
theorem w_X12_oneByOne_3 {z : ZT} {g : GT} {w : LT} (hL : Lay w) (C : Cx z g cX12_oneByOne 6 RX12 none 2 0 0) {f : Nat} {r : MT} : ∀ (n : Nat) (x1 : Int32) (x2 : Int32) (x4 : Int32) (u : MT), B_X12_oneByOne_3 f n x1 x2 x4 u = some r → V z g 6 3 [(0, .ref 167), (1, .int x1), (2, .int x2), (4, .int x4)] [] w u 0 0 (Qv w r) := by
  intro n
  induction n with
  | zero =>
    intro x1 x2 x4 u h
    rw [B_X12_oneByOne_3] at h
    cases h
  | succ n ih =>
    intro x1 x2 x4 u h
    rw [B_X12_oneByOne_3] at h
    refine Viload C 3 (dAt D_X12_oneByOne 2 rfl) rfl ?_
    refine Vif_le (tgt := 43) C (dAt D_X12_oneByOne 3 rfl) (by decide) (fun c1 => ?_) (fun c1 => ?_)
    · have h := ok_t c1 h
      cases h
      exact Vvret C (dAt D_X12_oneByOne 23 rfl) (by decide) (by decide) ⟨rfl, rfl, rfl⟩
    · have h := ok_f c1 h
      refine Vaload_n C 0 (dAt D_X12_oneByOne 4 rfl) rfl rfl ?_
      obtain ⟨r2, e3, h⟩ := ok_b h
      refine VcallV (as := []) C (dAt D_X12_oneByOne 5 rfl) (m_X12_nextOf hL e3) yv_X12_421 (Or.inl ⟨(kt_167 hL), by decide⟩) rfl rfl (Nat.le_of_ble_eq_true rfl) (by decide) (by decide) (by decide) (by decide) (Kint ?_)
      refine Vistore (lv' := [(5, _), (0, _), (1, _), (2, _), (4, _)]) C (dAt D_X12_oneByOne 6 rfl) (by decide) rfl ?_
      refine Viload C 0 (dAt D_X12_oneByOne 7 rfl) rfl ?_
      refine Vif_ge (tgt := 20) C (dAt D_X12_oneByOne 8 rfl) (by decide) (fun c4 => ?_) (fun c4 => ?_)
      · have h := ok_t c4 h
        refine Vaload_n C 1 (dAt D_X12_oneByOne 10 rfl) rfl rfl ?_
        refine VgetP C (dAt D_X12_oneByOne 11 rfl) gf_X12_205 (kt_167 hL) rfl (kp_167_70 hL) ?_
        refine Viload C 0 (dAt D_X12_oneByOne 12 rfl) rfl ?_
        refine Viconst (x := 0) C (dAt D_X12_oneByOne 13 rfl) (by decide) ?_
        obtain ⟨c5, h⟩ := ok_ck h
        refine Vzast C (dAt D_X12_oneByOne 14 rfl) (kt_212 hL) (kl_212 hL) (vp_in_iff.mpr c5) ?_
        refine Vaload_n C 1 (dAt D_X12_oneByOne 15 rfl) rfl rfl ?_
        refine Viload_n C 2 (dAt D_X12_oneByOne 16 rfl) rfl rfl ?_
        refine Viload_n C 3 (dAt D_X12_oneByOne 17 rfl) rfl rfl ?_
        refine Viload C 0 (dAt D_X12_oneByOne 18 rfl) rfl ?_
        refine Viconst (x := 1) C (dAt D_X12_oneByOne 19 rfl) (by decide) ?_
        obtain ⟨r7, e8, h⟩ := ok_b h
        refine VcallV (as := [_, _, _, _]) C (dAt D_X12_oneByOne 20 rfl) (m_X12_hands hL e8) yv_X12_413 (Or.inl ⟨(kt_167 hL), by decide⟩) rfl rfl (Nat.le_of_ble_eq_true rfl) (by decide) (by decide) (by decide) (by decide) (Kvoid ?_)
        refine Viinc (j := 4) (v := _ + (-1)) (lv' := [(4, _), (5, _), (0, _), (1, _), (2, _)]) C (dAt D_X12_oneByOne 21 rfl) rfl rfl (by decide) rfl ?_
        refine Vgoto (tgt := 3) C (dAt D_X12_oneByOne 22 rfl) (by decide) ?_
        exact Vsub [2, 3, 4, 0] rfl (ih _ _ _ _  h)
      · have h := ok_f c4 h
        cases h
        exact Vvret C (dAt D_X12_oneByOne 9 rfl) (by decide) (by decide) ⟨rfl, rfl, rfl⟩
def F_X12_oneByOne (f : Nat) (x1 : Int32) (x2 : Int32) (x3 : Int32) (u : MT) : Option MT :=
  B_X12_oneByOne_3 f f x1 x2 x3 u
theorem m_X12_oneByOne {g : GT} {w : LT} (hL : Lay w) {x1 : Int32} {x2 : Int32} {x3 : Int32} {f : Nat} {u : MT} {r : MT} (h : F_X12_oneByOne f x1 x2 x3 u = some r) : Mt g yX12_oneByOne cX12_oneByOne 6 none 2 0 0 [.ref 167, .int x1, .int x2, .int x3] w u (Qv w r) := by
  refine Mt_of (own := RX12) (by decide +kernel) rfl (Nat.le_of_ble_eq_true rfl) (fun z C _ => ?_)
  show V z g 6 0 [(0, .ref 167), (1, .int x1), (2, .int x2), (3, .int x3)] [] w u 0 0 (Qv w r)
  rw [F_X12_oneByOne] at h
  refine Viload_n C 3 (dAt D_X12_oneByOne 0 rfl) rfl rfl ?_
  refine Vistore (lv' := [(4, _), (0, _), (1, _), (2, _), (3, _)]) C (dAt D_X12_oneByOne 1 rfl) (by decide) rfl ?_
  exact Vsub [1, 2, 3, 0] rfl (w_X12_oneByOne_3 hL C  f _ _ _ _  h)
def B_X12_givesBy_161 (f : Nat) (j82 : Int32 → Int32 → Int32 → Int32 → Int64 → Int32 → MT → Option MT) (x1 : Int32) (x2 : Int32) (x4 : Int32) (x5 : Int32) (x6 : Int64) (x8 : Int32) (s0 : Int32) (s1 : Int32) (u : MT) : Option MT :=
  ck (ixo s1 12) <|
  let u24 := sI u 214 (s1).toNatClampNeg s0
  ck (ixo x8 12) <|
  let v26 := (x6 + ((gI u24 214 (x8).toNatClampNeg)).toInt64)
  let v27 := x8 + 1
  j82 x1 x2 x4 x5 v26 v27 u24
theorem w_X12_givesBy_161 {z : ZT} {g : GT} {w : LT} (hL : Lay w) (C : Cx z g cX12_givesBy 12 RX12 none 3 0 0) {f : Nat} {r : MT} {j82 : Int32 → Int32 → Int32 → Int32 → Int64 → Int32 → MT → Option MT} (q82 : ∀ (x1 : Int32) (x2 : Int32) (x4 : Int32) (x5 : Int32) (x6 : Int64) (x8 : Int32) (u : MT), j82 x1 x2 x4 x5 x6 x8 u = some r → V z g 12 82 [(0, .ref 167), (1, .int x1), (2, .int x2), (4, .int x4), (5, .int x5), (6, .long x6), (8, .int x8)] [] w u 0 0 (Qv w r)) {x1 : Int32} {x2 : Int32} {x4 : Int32} {x5 : Int32} {x6 : Int64} {x8 : Int32} {s0 : Int32} {s1 : Int32} {u : MT} (h : B_X12_givesBy_161 f j82 x1 x2 x4 x5 x6 x8 s0 s1 u = some r) : V z g 12 161 [(0, .ref 167), (1, .int x1), (2, .int x2), (4, .int x4), (5, .int x5), (6, .long x6), (8, .int x8)] [.int s0, .int s1, .ref 214] w u 0 0 (Qv w r) := by
  rw [B_X12_givesBy_161] at h
  obtain ⟨c23, h⟩ := ok_ck h
  refine Viast C (dAt D_X12_givesBy 85 rfl) (kt_214 hL) (kl_214 hL) (vp_in_iff.mpr c23) ?_
  refine Vlload C 5 (dAt D_X12_givesBy 86 rfl) rfl ?_
  refine Vaload_n C 0 (dAt D_X12_givesBy 87 rfl) rfl rfl ?_
  refine VgetP C (dAt D_X12_givesBy 88 rfl) gf_X12_212 (kt_167 hL) rfl (kp_167_72 hL) ?_
  refine Viload C 6 (dAt D_X12_givesBy 89 rfl) rfl ?_
  obtain ⟨c25, h⟩ := ok_ck h
  refine Viald C (dAt D_X12_givesBy 90 rfl) (kt_214 hL) (kl_214 hL) (vp_in_iff.mpr c25) ?_
  refine Vi2l C (dAt D_X12_givesBy 91 rfl) ?_
  refine Vladd C (dAt D_X12_givesBy 92 rfl) ?_
  refine Vlstore (lv' := [(6, _), (0, _), (1, _), (2, _), (4, _), (5, _), (8, _)]) C (dAt D_X12_givesBy 93 rfl) (by decide) rfl ?_
  refine Viinc (j := 6) (v := _ + 1) (lv' := [(8, _), (6, _), (0, _), (1, _), (2, _), (4, _), (5, _)]) C (dAt D_X12_givesBy 94 rfl) rfl rfl (by decide) rfl ?_
  refine Vgoto (tgt := 82) C (dAt D_X12_givesBy 95 rfl) (by decide) ?_
  exact Vsub [2, 3, 4, 5, 6, 1, 0] rfl (q82 _ _ _ _ _ _ _  h)
def B_X12_givesBy_281 (f : Nat) (j188 : Int32 → Int32 → Int32 → Int32 → Int64 → Int32 → Int32 → MT → Option MT) (x1 : Int32) (x2 : Int32) (x4 : Int32) (x5 : Int32) (x6 : Int64) (x8 : Int32) (x9 : Int32) (s0 : Int32) (s1 : Int32) (u : MT) : Option MT :=
  ck (ixo s1 12) <|
  let u44 := sI u 213 (s1).toNatClampNeg s0
  ck (ixo x9 12) <|
  let v46 := (x8 - (gI u44 213 (x9).toNatClampNeg))
  let v47 := x9 + 1
  j188 x1 x2 x4 x5 x6 v46 v47 u44
theorem w_X12_givesBy_281 {z : ZT} {g : GT} {w : LT} (hL : Lay w) (C : Cx z g cX12_givesBy 12 RX12 none 3 0 0) {f : Nat} {r : MT} {j188 : Int32 → Int32 → Int32 → Int32 → Int64 → Int32 → Int32 → MT → Option MT} (q188 : ∀ (x1 : Int32) (x2 : Int32) (x4 : Int32) (x5 : Int32) (x6 : Int64) (x8 : Int32) (x9 : Int32) (u : MT), j188 x1 x2 x4 x5 x6 x8 x9 u = some r → V z g 12 188 [(0, .ref 167), (1, .int x1), (2, .int x2), (4, .int x4), (5, .int x5), (6, .long x6), (8, .int x8), (9, .int x9)] [] w u 0 0 (Qv w r)) {x1 : Int32} {x2 : Int32} {x4 : Int32} {x5 : Int32} {x6 : Int64} {x8 : Int32} {x9 : Int32} {s0 : Int32} {s1 : Int32} {u : MT} (h : B_X12_givesBy_281 f j188 x1 x2 x4 x5 x6 x8 x9 s0 s1 u = some r) : V z g 12 281 [(0, .ref 167), (1, .int x1), (2, .int x2), (4, .int x4), (5, .int x5), (6, .long x6), (8, .int x8), (9, .int x9)] [.int s0, .int s1, .ref 213] w u 0 0 (Qv w r) := by
  rw [B_X12_givesBy_281] at h
  obtain ⟨c43, h⟩ := ok_ck h
  refine Viast C (dAt D_X12_givesBy 150 rfl) (kt_213 hL) (kl_213 hL) (vp_in_iff.mpr c43) ?_
  refine Viload C 6 (dAt D_X12_givesBy 151 rfl) rfl ?_
  refine Vaload_n C 0 (dAt D_X12_givesBy 152 rfl) rfl rfl ?_
  refine VgetP C (dAt D_X12_givesBy 153 rfl) gf_X12_209 (kt_167 hL) rfl (kp_167_71 hL) ?_
  refine Viload C 7 (dAt D_X12_givesBy 154 rfl) rfl ?_
  obtain ⟨c45, h⟩ := ok_ck h
  refine Viald C (dAt D_X12_givesBy 155 rfl) (kt_213 hL) (kl_213 hL) (vp_in_iff.mpr c45) ?_
  refine Visub C (dAt D_X12_givesBy 156 rfl) ?_
  refine Vistore (lv' := [(8, _), (0, _), (1, _), (2, _), (4, _), (5, _), (6, _), (9, _)]) C (dAt D_X12_givesBy 157 rfl) (by decide) rfl ?_
  refine Viinc (j := 7) (v := _ + 1) (lv' := [(9, _), (8, _), (0, _), (1, _), (2, _), (4, _), (5, _), (6, _)]) C (dAt D_X12_givesBy 158 rfl) rfl rfl (by decide) rfl ?_
  refine Vgoto (tgt := 188) C (dAt D_X12_givesBy 159 rfl) (by decide) ?_
  exact Vsub [2, 3, 4, 5, 6, 7, 1, 0] rfl (q188 _ _ _ _ _ _ _ _  h)
def B_X12_givesBy_226 (f : Nat) (j188 : Int32 → Int32 → Int32 → Int32 → Int64 → Int32 → Int32 → MT → Option MT) (x1 : Int32) (x2 : Int32) (x4 : Int32) (x5 : Int32) (x6 : Int64) (x8 : Int32) (x9 : Int32) (s0 : Int64) (u : MT) : Option MT :=
  ck (ixo x9 12) <|
  (F_X12_least f (gI u 201 (x9).toNatClampNeg) (gI u 202 (x9).toNatClampNeg) u).bind fun r38 =>
  if (lg_cmp s0 ((r38.1).toInt64)) ≤ 0 then
    B_X12_givesBy_281 f j188 x1 x2 x4 x5 x6 x8 x9 ((s0).toInt32) x9 r38.2
  else
    (F_X12_least f (gI r38.2 201 (x9).toNatClampNeg) (gI r38.2 202 (x9).toNatClampNeg) r38.2).bind fun r41 =>
    B_X12_givesBy_281 f j188 x1 x2 x4 x5 x6 x8 x9 r41.1 x9 r41.2
theorem w_X12_givesBy_226 {z : ZT} {g : GT} {w : LT} (hL : Lay w) (C : Cx z g cX12_givesBy 12 RX12 none 3 0 0) {f : Nat} {r : MT} {j188 : Int32 → Int32 → Int32 → Int32 → Int64 → Int32 → Int32 → MT → Option MT} (q188 : ∀ (x1 : Int32) (x2 : Int32) (x4 : Int32) (x5 : Int32) (x6 : Int64) (x8 : Int32) (x9 : Int32) (u : MT), j188 x1 x2 x4 x5 x6 x8 x9 u = some r → V z g 12 188 [(0, .ref 167), (1, .int x1), (2, .int x2), (4, .int x4), (5, .int x5), (6, .long x6), (8, .int x8), (9, .int x9)] [] w u 0 0 (Qv w r)) {x1 : Int32} {x2 : Int32} {x4 : Int32} {x5 : Int32} {x6 : Int64} {x8 : Int32} {x9 : Int32} {s0 : Int64} {u : MT} (h : B_X12_givesBy_226 f j188 x1 x2 x4 x5 x6 x8 x9 s0 u = some r) : V z g 12 226 [(0, .ref 167), (1, .int x1), (2, .int x2), (4, .int x4), (5, .int x5), (6, .long x6), (8, .int x8), (9, .int x9)] [.long s0] w u 0 0 (Qv w r) := by
  rw [B_X12_givesBy_226] at h
  refine Vlstore (lv' := [(10, _), (0, _), (1, _), (2, _), (4, _), (5, _), (6, _), (8, _), (9, _)]) C (dAt D_X12_givesBy 121 rfl) (by decide) rfl ?_
  refine Vaload_n C 1 (dAt D_X12_givesBy 122 rfl) rfl rfl ?_
  refine VgetP C (dAt D_X12_givesBy 123 rfl) gf_X12_209 (kt_167 hL) rfl (kp_167_71 hL) ?_
  refine Viload C 8 (dAt D_X12_givesBy 124 rfl) rfl ?_
  refine Vlload C 0 (dAt D_X12_givesBy 125 rfl) rfl ?_
  refine Vaload_n C 1 (dAt D_X12_givesBy 126 rfl) rfl rfl ?_
  refine VgetP C (dAt D_X12_givesBy 127 rfl) gf_X12_172 (kt_167 hL) rfl (kp_167_52 hL) ?_
  refine Viload C 8 (dAt D_X12_givesBy 128 rfl) rfl ?_
  obtain ⟨c37, h⟩ := ok_ck h
  refine Viald C (dAt D_X12_givesBy 129 rfl) (kt_201 hL) (kl_201 hL) (vp_in_iff.mpr c37) ?_
  refine Vaload_n C 1 (dAt D_X12_givesBy 130 rfl) rfl rfl ?_
  refine VgetP C (dAt D_X12_givesBy 131 rfl) gf_X12_175 (kt_167 hL) rfl (kp_167_53 hL) ?_
  refine Viload C 8 (dAt D_X12_givesBy 132 rfl) rfl ?_
  refine Viald C (dAt D_X12_givesBy 133 rfl) (kt_202 hL) (kl_202 hL) (vp_in_iff.mpr c37) ?_
  obtain ⟨r38, e39, h⟩ := ok_b h
  refine VcallS (as := [_, _]) C (dAt D_X12_givesBy 134 rfl) (m_X12_least hL e39) yb_X12_410 ys_X12_410 rfl rfl (Nat.le_of_ble_eq_true rfl) (by decide) (by decide) (by decide) (by decide) (Kint ?_)
  refine Vi2l C (dAt D_X12_givesBy 135 rfl) ?_
  refine Vlcmp C (dAt D_X12_givesBy 136 rfl) ?_
  refine Vif_le (tgt := 278) C (dAt D_X12_givesBy 137 rfl) (by decide) (fun c40 => ?_) (fun c40 => ?_)
  · have h := ok_t c40 h
    refine Vlload C 0 (dAt D_X12_givesBy 148 rfl) rfl ?_
    refine Vl2i C (dAt D_X12_givesBy 149 rfl) ?_
    exact Vsub [1, 2, 3, 4, 5, 6, 7, 8] rfl (w_X12_givesBy_281 hL C q188  h)
  · have h := ok_f c40 h
    refine Vaload_n C 1 (dAt D_X12_givesBy 138 rfl) rfl rfl ?_
    refine VgetP C (dAt D_X12_givesBy 139 rfl) gf_X12_172 (kt_167 hL) rfl (kp_167_52 hL) ?_
    refine Viload C 8 (dAt D_X12_givesBy 140 rfl) rfl ?_
    refine Viald C (dAt D_X12_givesBy 141 rfl) (kt_201 hL) (kl_201 hL) (vp_in_iff.mpr c37) ?_
    refine Vaload_n C 1 (dAt D_X12_givesBy 142 rfl) rfl rfl ?_
    refine VgetP C (dAt D_X12_givesBy 143 rfl) gf_X12_175 (kt_167 hL) rfl (kp_167_53 hL) ?_
    refine Viload C 8 (dAt D_X12_givesBy 144 rfl) rfl ?_
    refine Viald C (dAt D_X12_givesBy 145 rfl) (kt_202 hL) (kl_202 hL) (vp_in_iff.mpr c37) ?_
    obtain ⟨r41, e42, h⟩ := ok_b h
    refine VcallS (as := [_, _]) C (dAt D_X12_givesBy 146 rfl) (m_X12_least hL e42) yb_X12_410 ys_X12_410 rfl rfl (Nat.le_of_ble_eq_true rfl) (by decide) (by decide) (by decide) (by decide) (Kint ?_)
    refine Vgoto (tgt := 281) C (dAt D_X12_givesBy 147 rfl) (by decide) ?_
    exact Vsub [1, 2, 3, 4, 5, 6, 7, 8] rfl (w_X12_givesBy_281 hL C q188  h)
def B_X12_givesBy_303 (f : Nat) : Nat → Int32 → Int32 → Int32 → Int32 → Int32 → MT → Option MT
  | 0, _, _, _, _, _, _ => none
  | n + 1, x1, x2, x5, x8, x9, u =>
    if (gI u 167 31) ≤ x9 then
      if x8 ≤ 0 then
        some u
      else
        if x5 ≤ x8 then
          some u
        else
          (F_X12_oneByOne f x1 x2 x8 u).bind fun r31 =>
          some r31
    else
      ck (ixo x9 12) <|
      (F_X12_hands f x1 x2 x9 (gI u 213 (x9).toNatClampNeg) u).bind fun r34 =>
      let v36 := x9 + 1
      B_X12_givesBy_303 f n x1 x2 x5 x8 v36 r34
theorem w_X12_givesBy_303 {z : ZT} {g : GT} {w : LT} (hL : Lay w) (C : Cx z g cX12_givesBy 12 RX12 none 3 0 0) {f : Nat} {r : MT} : ∀ (n : Nat) (x1 : Int32) (x2 : Int32) (x5 : Int32) (x8 : Int32) (x9 : Int32) (u : MT), B_X12_givesBy_303 f n x1 x2 x5 x8 x9 u = some r → V z g 12 303 [(0, .ref 167), (1, .int x1), (2, .int x2), (5, .int x5), (8, .int x8), (9, .int x9)] [] w u 0 0 (Qv w r) := by
  intro n
  induction n with
  | zero =>
    intro x1 x2 x5 x8 x9 u h
    rw [B_X12_givesBy_303] at h
    cases h
  | succ n ih =>
    intro x1 x2 x5 x8 x9 u h
    rw [B_X12_givesBy_303] at h
    refine Viload C 5 (dAt D_X12_givesBy 162 rfl) rfl ?_
    refine Vaload_n C 0 (dAt D_X12_givesBy 163 rfl) rfl rfl ?_
    refine VgetI C (dAt D_X12_givesBy 164 rfl) gf_X12_300 (kt_167 hL) rfl ?_
    refine Vicmp_ge (tgt := 333) C (dAt D_X12_givesBy 165 rfl) (by decide) (fun c28 => ?_) (fun c28 => ?_)
    · have h := ok_t c28 h
      refine Viload C 4 (dAt D_X12_givesBy 177 rfl) rfl ?_
      refine Vif_le (tgt := 353) C (dAt D_X12_givesBy 178 rfl) (by decide) (fun c29 => ?_) (fun c29 => ?_)
      · have h := ok_t c29 h
        cases h
        exact Vvret C (dAt D_X12_givesBy 187 rfl) (by decide) (by decide) ⟨rfl, rfl, rfl⟩
      · have h := ok_f c29 h
        refine Viload C 4 (dAt D_X12_givesBy 179 rfl) rfl ?_
        refine Viload C 3 (dAt D_X12_givesBy 180 rfl) rfl ?_
        refine Vicmp_ge (tgt := 353) C (dAt D_X12_givesBy 181 rfl) (by decide) (fun c30 => ?_) (fun c30 => ?_)
        · have h := ok_t c30 h
          cases h
          exact Vvret C (dAt D_X12_givesBy 187 rfl) (by decide) (by decide) ⟨rfl, rfl, rfl⟩
        · have h := ok_f c30 h
          refine Vaload_n C 0 (dAt D_X12_givesBy 182 rfl) rfl rfl ?_
          refine Viload_n C 1 (dAt D_X12_givesBy 183 rfl) rfl rfl ?_
          refine Viload_n C 2 (dAt D_X12_givesBy 184 rfl) rfl rfl ?_
          refine Viload C 4 (dAt D_X12_givesBy 185 rfl) rfl ?_
          obtain ⟨r31, e32, h⟩ := ok_b h
          refine VcallV (as := [_, _, _]) C (dAt D_X12_givesBy 186 rfl) (m_X12_oneByOne hL e32) yv_X12_417 (Or.inl ⟨(kt_167 hL), by decide⟩) rfl rfl (Nat.le_of_ble_eq_true rfl) (by decide) (by decide) (by decide) (by decide) (Kvoid ?_)
          cases h
          exact Vvret C (dAt D_X12_givesBy 187 rfl) (by decide) (by decide) ⟨rfl, rfl, rfl⟩
    · have h := ok_f c28 h
      refine Vaload_n C 0 (dAt D_X12_givesBy 166 rfl) rfl rfl ?_
      refine Viload_n C 1 (dAt D_X12_givesBy 167 rfl) rfl rfl ?_
      refine Viload_n C 2 (dAt D_X12_givesBy 168 rfl) rfl rfl ?_
      refine Viload C 5 (dAt D_X12_givesBy 169 rfl) rfl ?_
      refine Vaload_n C 0 (dAt D_X12_givesBy 170 rfl) rfl rfl ?_
      refine VgetP C (dAt D_X12_givesBy 171 rfl) gf_X12_209 (kt_167 hL) rfl (kp_167_71 hL) ?_
      refine Viload C 5 (dAt D_X12_givesBy 172 rfl) rfl ?_
      obtain ⟨c33, h⟩ := ok_ck h
      refine Viald C (dAt D_X12_givesBy 173 rfl) (kt_213 hL) (kl_213 hL) (vp_in_iff.mpr c33) ?_
      obtain ⟨r34, e35, h⟩ := ok_b h
      refine VcallV (as := [_, _, _, _]) C (dAt D_X12_givesBy 174 rfl) (m_X12_hands hL e35) yv_X12_413 (Or.inl ⟨(kt_167 hL), by decide⟩) rfl rfl (Nat.le_of_ble_eq_true rfl) (by decide) (by decide) (by decide) (by decide) (Kvoid ?_)
      refine Viinc (j := 5) (v := _ + 1) (lv' := [(9, _), (0, _), (1, _), (2, _), (5, _), (8, _)]) C (dAt D_X12_givesBy 175 rfl) rfl rfl (by decide) rfl ?_
      refine Vgoto (tgt := 303) C (dAt D_X12_givesBy 176 rfl) (by decide) ?_
      exact Vsub [1, 2, 3, 4, 5, 0] rfl (ih _ _ _ _ _ _  h)
def B_X12_givesBy_188 (f : Nat) : Nat → Int32 → Int32 → Int32 → Int32 → Int64 → Int32 → Int32 → MT → Option MT
  | 0, _, _, _, _, _, _, _, _ => none
  | n + 1, x1, x2, x4, x5, x6, x8, x9, u =>
    if (gI u 167 31) ≤ x9 then
      B_X12_givesBy_303 f f x1 x2 x5 x8 (0 : Int32) u
    else
      ck (ixo x9 12) <|
      if (gI u 212 (x9).toNatClampNeg) = 0 then
        B_X12_givesBy_226 f (fun x1' x2' x4' x5' x6' x8' x9' u' => B_X12_givesBy_188 f n x1' x2' x4' x5' x6' x8' x9' u') x1 x2 x4 x5 x6 x8 x9 (0 : Int64) u
      else
        ck (¬ x6 = 0) <|
        B_X12_givesBy_226 f (fun x1' x2' x4' x5' x6' x8' x9' u' => B_X12_givesBy_188 f n x1' x2' x4' x5' x6' x8' x9' u') x1 x2 x4 x5 x6 x8 x9 (((x4).toInt64 * ((gI u 214 (x9).toNatClampNeg)).toInt64) / x6) u
theorem w_X12_givesBy_188 {z : ZT} {g : GT} {w : LT} (hL : Lay w) (C : Cx z g cX12_givesBy 12 RX12 none 3 0 0) {f : Nat} {r : MT} : ∀ (n : Nat) (x1 : Int32) (x2 : Int32) (x4 : Int32) (x5 : Int32) (x6 : Int64) (x8 : Int32) (x9 : Int32) (u : MT), B_X12_givesBy_188 f n x1 x2 x4 x5 x6 x8 x9 u = some r → V z g 12 188 [(0, .ref 167), (1, .int x1), (2, .int x2), (4, .int x4), (5, .int x5), (6, .long x6), (8, .int x8), (9, .int x9)] [] w u 0 0 (Qv w r) := by
  intro n
  induction n with
  | zero =>
    intro x1 x2 x4 x5 x6 x8 x9 u h
    rw [B_X12_givesBy_188] at h
    cases h
  | succ n ih =>
    intro x1 x2 x4 x5 x6 x8 x9 u h
    rw [B_X12_givesBy_188] at h
    refine Viload C 7 (dAt D_X12_givesBy 100 rfl) rfl ?_
    refine Vaload_n C 0 (dAt D_X12_givesBy 101 rfl) rfl rfl ?_
    refine VgetI C (dAt D_X12_givesBy 102 rfl) gf_X12_300 (kt_167 hL) rfl ?_
    refine Vicmp_ge (tgt := 300) C (dAt D_X12_givesBy 103 rfl) (by decide) (fun c19 => ?_) (fun c19 => ?_)
    · have h := ok_t c19 h
      refine Viconst (x := 0) C (dAt D_X12_givesBy 160 rfl) (by decide) ?_
      refine Vistore (lv' := [(9, _), (0, _), (1, _), (2, _), (4, _), (5, _), (6, _), (8, _)]) C (dAt D_X12_givesBy 161 rfl) (by decide) rfl ?_
      exact Vsub [1, 2, 3, 5, 7, 0] rfl (w_X12_givesBy_303 hL C  f _ _ _ _ _ _  h)
    · have h := ok_f c19 h
      refine Vaload_n C 0 (dAt D_X12_givesBy 104 rfl) rfl rfl ?_
      refine VgetP C (dAt D_X12_givesBy 105 rfl) gf_X12_205 (kt_167 hL) rfl (kp_167_70 hL) ?_
      refine Viload C 7 (dAt D_X12_givesBy 106 rfl) rfl ?_
      obtain ⟨c20, h⟩ := ok_ck h
      refine Vzald C (dAt D_X12_givesBy 107 rfl) (kt_212 hL) (kl_212 hL) (vp_in_iff.mpr c20) ?_
      refine Vif_eq (tgt := 225) C (dAt D_X12_givesBy 108 rfl) (by decide) (fun c21 => ?_) (fun c21 => ?_)
      · have h := ok_t c21 h
        refine Vlconst (x := 0) C (dAt D_X12_givesBy 120 rfl) (by decide) ?_
        exact Vsub [0, 1, 2, 3, 4, 5, 6, 7] rfl (w_X12_givesBy_226 hL C ih  h)
      · have h := ok_f c21 h
        refine Viload C 3 (dAt D_X12_givesBy 109 rfl) rfl ?_
        refine Vi2l C (dAt D_X12_givesBy 110 rfl) ?_
        refine Vaload_n C 0 (dAt D_X12_givesBy 111 rfl) rfl rfl ?_
        refine VgetP C (dAt D_X12_givesBy 112 rfl) gf_X12_212 (kt_167 hL) rfl (kp_167_72 hL) ?_
        refine Viload C 7 (dAt D_X12_givesBy 113 rfl) rfl ?_
        refine Viald C (dAt D_X12_givesBy 114 rfl) (kt_214 hL) (kl_214 hL) (vp_in_iff.mpr c20) ?_
        refine Vi2l C (dAt D_X12_givesBy 115 rfl) ?_
        refine Vlmul C (dAt D_X12_givesBy 116 rfl) ?_
        refine Vlload C 5 (dAt D_X12_givesBy 117 rfl) rfl ?_
        obtain ⟨c22, h⟩ := ok_ck h
        refine Vldiv C (dAt D_X12_givesBy 118 rfl) c22 ?_
        refine Vgoto (tgt := 226) C (dAt D_X12_givesBy 119 rfl) (by decide) ?_
        exact Vsub [0, 1, 2, 3, 4, 5, 6, 7] rfl (w_X12_givesBy_226 hL C ih  h)
def B_X12_givesBy_82 (f : Nat) : Nat → Int32 → Int32 → Int32 → Int32 → Int64 → Int32 → MT → Option MT
  | 0, _, _, _, _, _, _, _ => none
  | n + 1, x1, x2, x4, x5, x6, x8, u =>
    if (gI u 167 31) ≤ x8 then
      B_X12_givesBy_188 f f x1 x2 x4 x5 x6 x4 (0 : Int32) u
    else
      ck (ixo x8 12) <|
      if (gI u 212 (x8).toNatClampNeg) = 0 then
        B_X12_givesBy_161 f (fun x1' x2' x4' x5' x6' x8' u' => B_X12_givesBy_82 f n x1' x2' x4' x5' x6' x8' u') x1 x2 x4 x5 x6 x8 (0 : Int32) x8 u
      else
        ck (ixo x2 192) <|
        if (gI u 181 (x2).toNatClampNeg) = 0 then
          B_X12_givesBy_161 f (fun x1' x2' x4' x5' x6' x8' u' => B_X12_givesBy_82 f n x1' x2' x4' x5' x6' x8' u') x1 x2 x4 x5 x6 x8 (1 : Int32) x8 u
        else
          if (gI u 181 (x2).toNatClampNeg) = (1 : Int32) then
            (F_X12_least f (gI u 201 (x8).toNatClampNeg) (gI u 202 (x8).toNatClampNeg) u).bind fun r17 =>
            B_X12_givesBy_161 f (fun x1' x2' x4' x5' x6' x8' u' => B_X12_givesBy_82 f n x1' x2' x4' x5' x6' x8' u') x1 x2 x4 x5 x6 x8 r17.1 x8 r17.2
          else
            B_X12_givesBy_161 f (fun x1' x2' x4' x5' x6' x8' u' => B_X12_givesBy_82 f n x1' x2' x4' x5' x6' x8' u') x1 x2 x4 x5 x6 x8 (gI u 189 (x8).toNatClampNeg) x8 u
theorem w_X12_givesBy_82 {z : ZT} {g : GT} {w : LT} (hL : Lay w) (C : Cx z g cX12_givesBy 12 RX12 none 3 0 0) {f : Nat} {r : MT} : ∀ (n : Nat) (x1 : Int32) (x2 : Int32) (x4 : Int32) (x5 : Int32) (x6 : Int64) (x8 : Int32) (u : MT), B_X12_givesBy_82 f n x1 x2 x4 x5 x6 x8 u = some r → V z g 12 82 [(0, .ref 167), (1, .int x1), (2, .int x2), (4, .int x4), (5, .int x5), (6, .long x6), (8, .int x8)] [] w u 0 0 (Qv w r) := by
  intro n
  induction n with
  | zero =>
    intro x1 x2 x4 x5 x6 x8 u h
    rw [B_X12_givesBy_82] at h
    cases h
  | succ n ih =>
    intro x1 x2 x4 x5 x6 x8 u h
    rw [B_X12_givesBy_82] at h
    refine Viload C 6 (dAt D_X12_givesBy 44 rfl) rfl ?_
    refine Vaload_n C 0 (dAt D_X12_givesBy 45 rfl) rfl rfl ?_
    refine VgetI C (dAt D_X12_givesBy 46 rfl) gf_X12_300 (kt_167 hL) rfl ?_
    refine Vicmp_ge (tgt := 181) C (dAt D_X12_givesBy 47 rfl) (by decide) (fun c11 => ?_) (fun c11 => ?_)
    · have h := ok_t c11 h
      refine Viload C 3 (dAt D_X12_givesBy 96 rfl) rfl ?_
      refine Vistore (lv' := [(8, _), (0, _), (1, _), (2, _), (4, _), (5, _), (6, _)]) C (dAt D_X12_givesBy 97 rfl) (by decide) rfl ?_
      refine Viconst (x := 0) C (dAt D_X12_givesBy 98 rfl) (by decide) ?_
      refine Vistore (lv' := [(9, _), (8, _), (0, _), (1, _), (2, _), (4, _), (5, _), (6, _)]) C (dAt D_X12_givesBy 99 rfl) (by decide) rfl ?_
      exact Vsub [2, 3, 4, 5, 6, 7, 1, 0] rfl (w_X12_givesBy_188 hL C  f _ _ _ _ _ _ _ _  h)
    · have h := ok_f c11 h
      refine Vaload_n C 0 (dAt D_X12_givesBy 48 rfl) rfl rfl ?_
      refine VgetP C (dAt D_X12_givesBy 49 rfl) gf_X12_212 (kt_167 hL) rfl (kp_167_72 hL) ?_
      refine Viload C 6 (dAt D_X12_givesBy 50 rfl) rfl ?_
      refine Vaload_n C 0 (dAt D_X12_givesBy 51 rfl) rfl rfl ?_
      refine VgetP C (dAt D_X12_givesBy 52 rfl) gf_X12_205 (kt_167 hL) rfl (kp_167_70 hL) ?_
      refine Viload C 6 (dAt D_X12_givesBy 53 rfl) rfl ?_
      obtain ⟨c12, h⟩ := ok_ck h
      refine Vzald C (dAt D_X12_givesBy 54 rfl) (kt_212 hL) (kl_212 hL) (vp_in_iff.mpr c12) ?_
      refine Vif_ne (tgt := 111) C (dAt D_X12_givesBy 55 rfl) (by decide) (fun c13 => ?_) (fun c13 => ?_)
      · have h := ok_f c13 h
        refine Vaload_n C 0 (dAt D_X12_givesBy 58 rfl) rfl rfl ?_
        refine VgetP C (dAt D_X12_givesBy 59 rfl) gf_X12_109 (kt_167 hL) rfl (kp_167_18 hL) ?_
        refine Viload_n C 2 (dAt D_X12_givesBy 60 rfl) rfl rfl ?_
        obtain ⟨c14, h⟩ := ok_ck h
        refine Viald C (dAt D_X12_givesBy 61 rfl) (kt_181 hL) (kl_181 hL) (vp_in_iff.mpr c14) ?_
        refine Vif_ne (tgt := 124) C (dAt D_X12_givesBy 62 rfl) (by decide) (fun c15 => ?_) (fun c15 => ?_)
        · have h := ok_f c15 h
          refine Vaload_n C 0 (dAt D_X12_givesBy 65 rfl) rfl rfl ?_
          refine VgetP C (dAt D_X12_givesBy 66 rfl) gf_X12_109 (kt_167 hL) rfl (kp_167_18 hL) ?_
          refine Viload_n C 2 (dAt D_X12_givesBy 67 rfl) rfl rfl ?_
          refine Viald C (dAt D_X12_givesBy 68 rfl) (kt_181 hL) (kl_181 hL) (vp_in_iff.mpr c14) ?_
          refine Viconst (x := 1) C (dAt D_X12_givesBy 69 rfl) (by decide) ?_
          refine Vicmp_ne (tgt := 154) C (dAt D_X12_givesBy 70 rfl) (by decide) (fun c16 => ?_) (fun c16 => ?_)
          · have h := ok_f c16 h
            refine Vaload_n C 0 (dAt D_X12_givesBy 81 rfl) rfl rfl ?_
            refine VgetP C (dAt D_X12_givesBy 82 rfl) gf_X12_133 (kt_167 hL) rfl (kp_167_32 hL) ?_
            refine Viload C 6 (dAt D_X12_givesBy 83 rfl) rfl ?_
            refine Viald C (dAt D_X12_givesBy 84 rfl) (kt_189 hL) (kl_189 hL) (vp_in_iff.mpr c12) ?_
            exact Vsub [0, 1, 2, 3, 4, 5, 6] rfl (w_X12_givesBy_161 hL C ih  h)
          · have h := ok_t c16 h
            refine Vaload_n C 0 (dAt D_X12_givesBy 71 rfl) rfl rfl ?_
            refine VgetP C (dAt D_X12_givesBy 72 rfl) gf_X12_172 (kt_167 hL) rfl (kp_167_52 hL) ?_
            refine Viload C 6 (dAt D_X12_givesBy 73 rfl) rfl ?_
            refine Viald C (dAt D_X12_givesBy 74 rfl) (kt_201 hL) (kl_201 hL) (vp_in_iff.mpr c12) ?_
            refine Vaload_n C 0 (dAt D_X12_givesBy 75 rfl) rfl rfl ?_
            refine VgetP C (dAt D_X12_givesBy 76 rfl) gf_X12_175 (kt_167 hL) rfl (kp_167_53 hL) ?_
            refine Viload C 6 (dAt D_X12_givesBy 77 rfl) rfl ?_
            refine Viald C (dAt D_X12_givesBy 78 rfl) (kt_202 hL) (kl_202 hL) (vp_in_iff.mpr c12) ?_
            obtain ⟨r17, e18, h⟩ := ok_b h
            refine VcallS (as := [_, _]) C (dAt D_X12_givesBy 79 rfl) (m_X12_least hL e18) yb_X12_410 ys_X12_410 rfl rfl (Nat.le_of_ble_eq_true rfl) (by decide) (by decide) (by decide) (by decide) (Kint ?_)
            refine Vgoto (tgt := 161) C (dAt D_X12_givesBy 80 rfl) (by decide) ?_
            exact Vsub [0, 1, 2, 3, 4, 5, 6] rfl (w_X12_givesBy_161 hL C ih  h)
        · have h := ok_t c15 h
          refine Viconst (x := 1) C (dAt D_X12_givesBy 63 rfl) (by decide) ?_
          refine Vgoto (tgt := 161) C (dAt D_X12_givesBy 64 rfl) (by decide) ?_
          exact Vsub [0, 1, 2, 3, 4, 5, 6] rfl (w_X12_givesBy_161 hL C ih  h)
      · have h := ok_t c13 h
        refine Viconst (x := 0) C (dAt D_X12_givesBy 56 rfl) (by decide) ?_
        refine Vgoto (tgt := 161) C (dAt D_X12_givesBy 57 rfl) (by decide) ?_
        exact Vsub [0, 1, 2, 3, 4, 5, 6] rfl (w_X12_givesBy_161 hL C ih  h)
def B_X12_givesBy_67 (f : Nat) (x1 : Int32) (x2 : Int32) (s0 : Int32) (u : MT) : Option MT :=
  (F_X12_chooses f x2 u).bind fun r9 =>
  B_X12_givesBy_82 f f x1 x2 s0 r9.1 (0 : Int64) (0 : Int32) r9.2
theorem w_X12_givesBy_67 {z : ZT} {g : GT} {w : LT} (hL : Lay w) (C : Cx z g cX12_givesBy 12 RX12 none 3 0 0) {f : Nat} {r : MT} {x1 : Int32} {x2 : Int32} {s0 : Int32} {u : MT} (h : B_X12_givesBy_67 f x1 x2 s0 u = some r) : V z g 12 67 [(0, .ref 167), (1, .int x1), (2, .int x2)] [.int s0] w u 0 0 (Qv w r) := by
  rw [B_X12_givesBy_67] at h
  refine Vistore (lv' := [(4, _), (0, _), (1, _), (2, _)]) C (dAt D_X12_givesBy 35 rfl) (by decide) rfl ?_
  refine Vaload_n C 1 (dAt D_X12_givesBy 36 rfl) rfl rfl ?_
  refine Viload_n C 3 (dAt D_X12_givesBy 37 rfl) rfl rfl ?_
  obtain ⟨r9, e10, h⟩ := ok_b h
  refine VcallV (as := [_]) C (dAt D_X12_givesBy 38 rfl) (m_X12_chooses hL e10) yv_X12_407 (Or.inl ⟨(kt_167 hL), by decide⟩) rfl rfl (Nat.le_of_ble_eq_true rfl) (by decide) (by decide) (by decide) (by decide) (Kint ?_)
  refine Vistore (lv' := [(5, _), (4, _), (0, _), (1, _), (2, _)]) C (dAt D_X12_givesBy 39 rfl) (by decide) rfl ?_
  refine Vlconst (x := 0) C (dAt D_X12_givesBy 40 rfl) (by decide) ?_
  refine Vlstore (lv' := [(6, _), (5, _), (4, _), (0, _), (1, _), (2, _)]) C (dAt D_X12_givesBy 41 rfl) (by decide) rfl ?_
  refine Viconst (x := 0) C (dAt D_X12_givesBy 42 rfl) (by decide) ?_
  refine Vistore (lv' := [(8, _), (6, _), (5, _), (4, _), (0, _), (1, _), (2, _)]) C (dAt D_X12_givesBy 43 rfl) (by decide) rfl ?_
  exact Vsub [4, 5, 6, 3, 2, 1, 0] rfl (w_X12_givesBy_82 hL C  f _ _ _ _ _ _ _  h)
def B_X12_givesBy_44 (f : Nat) (x1 : Int32) (x2 : Int32) (x3 : Int32) (s0 : Int32) (u : MT) : Option MT :=
  if 0 ≤ s0 then
    if s0 ≤ x3 then
      B_X12_givesBy_67 f x1 x2 s0 u
    else
      B_X12_givesBy_67 f x1 x2 x3 u
  else
    B_X12_givesBy_67 f x1 x2 (0 : Int32) u
theorem w_X12_givesBy_44 {z : ZT} {g : GT} {w : LT} (hL : Lay w) (C : Cx z g cX12_givesBy 12 RX12 none 3 0 0) {f : Nat} {r : MT} {x1 : Int32} {x2 : Int32} {x3 : Int32} {s0 : Int32} {u : MT} (h : B_X12_givesBy_44 f x1 x2 x3 s0 u = some r) : V z g 12 44 [(0, .ref 167), (1, .int x1), (2, .int x2), (3, .int x3)] [.int s0] w u 0 0 (Qv w r) := by
  rw [B_X12_givesBy_44] at h
  refine Vistore (lv' := [(4, _), (0, _), (1, _), (2, _), (3, _)]) C (dAt D_X12_givesBy 24 rfl) (by decide) rfl ?_
  refine Viload C 0 (dAt D_X12_givesBy 25 rfl) rfl ?_
  refine Vif_ge (tgt := 55) C (dAt D_X12_givesBy 26 rfl) (by decide) (fun c7 => ?_) (fun c7 => ?_)
  · have h := ok_t c7 h
    refine Viload C 0 (dAt D_X12_givesBy 29 rfl) rfl ?_
    refine Viload_n C 4 (dAt D_X12_givesBy 30 rfl) rfl rfl ?_
    refine Vicmp_le (tgt := 65) C (dAt D_X12_givesBy 31 rfl) (by decide) (fun c8 => ?_) (fun c8 => ?_)
    · have h := ok_t c8 h
      refine Viload C 0 (dAt D_X12_givesBy 34 rfl) rfl ?_
      exact Vsub [1, 2, 3] rfl (w_X12_givesBy_67 hL C  h)
    · have h := ok_f c8 h
      refine Viload_n C 4 (dAt D_X12_givesBy 32 rfl) rfl rfl ?_
      refine Vgoto (tgt := 67) C (dAt D_X12_givesBy 33 rfl) (by decide) ?_
      exact Vsub [1, 2, 3] rfl (w_X12_givesBy_67 hL C  h)
  · have h := ok_f c7 h
    refine Viconst (x := 0) C (dAt D_X12_givesBy 27 rfl) (by decide) ?_
    refine Vgoto (tgt := 67) C (dAt D_X12_givesBy 28 rfl) (by decide) ?_
    exact Vsub [1, 2, 3] rfl (w_X12_givesBy_67 hL C  h)
def B_X12_givesBy_20 (f : Nat) (x1 : Int32) (x2 : Int32) (s0 : Int32) (u : MT) : Option MT :=
  ck (ixo x2 192) <|
  if 0 ≤ (gI u 177 (x2).toNatClampNeg) then
    (F_X12_worth f (gI u 177 (x2).toNatClampNeg) u).bind fun r5 =>
    B_X12_givesBy_44 f x1 x2 s0 r5.1 r5.2
  else
    B_X12_givesBy_44 f x1 x2 s0 s0 u
theorem w_X12_givesBy_20 {z : ZT} {g : GT} {w : LT} (hL : Lay w) (C : Cx z g cX12_givesBy 12 RX12 none 3 0 0) {f : Nat} {r : MT} {x1 : Int32} {x2 : Int32} {s0 : Int32} {u : MT} (h : B_X12_givesBy_20 f x1 x2 s0 u = some r) : V z g 12 20 [(0, .ref 167), (1, .int x1), (2, .int x2)] [.int s0] w u 0 0 (Qv w r) := by
  rw [B_X12_givesBy_20] at h
  refine Vistore_n (lv' := [(3, _), (0, _), (1, _), (2, _)]) C (dAt D_X12_givesBy 10 rfl) rfl (by decide) rfl ?_
  refine Vaload_n C 1 (dAt D_X12_givesBy 11 rfl) rfl rfl ?_
  refine VgetP C (dAt D_X12_givesBy 12 rfl) gf_X12_97 (kt_167 hL) rfl (kp_167_14 hL) ?_
  refine Viload_n C 3 (dAt D_X12_givesBy 13 rfl) rfl rfl ?_
  obtain ⟨c3, h⟩ := ok_ck h
  refine Viald C (dAt D_X12_givesBy 14 rfl) (kt_177 hL) (kl_177 hL) (vp_in_iff.mpr c3) ?_
  refine Vif_ge (tgt := 34) C (dAt D_X12_givesBy 15 rfl) (by decide) (fun c4 => ?_) (fun c4 => ?_)
  · have h := ok_t c4 h
    refine Vaload_n C 1 (dAt D_X12_givesBy 18 rfl) rfl rfl ?_
    refine Vaload_n C 1 (dAt D_X12_givesBy 19 rfl) rfl rfl ?_
    refine VgetP C (dAt D_X12_givesBy 20 rfl) gf_X12_97 (kt_167 hL) rfl (kp_167_14 hL) ?_
    refine Viload_n C 3 (dAt D_X12_givesBy 21 rfl) rfl rfl ?_
    refine Viald C (dAt D_X12_givesBy 22 rfl) (kt_177 hL) (kl_177 hL) (vp_in_iff.mpr c3) ?_
    obtain ⟨r5, e6, h⟩ := ok_b h
    refine VcallV (as := [_]) C (dAt D_X12_givesBy 23 rfl) (m_X12_worth hL e6) yv_X12_398 (Or.inl ⟨(kt_167 hL), by decide⟩) rfl rfl (Nat.le_of_ble_eq_true rfl) (by decide) (by decide) (by decide) (by decide) (Kint ?_)
    exact Vsub [1, 2, 3, 0] rfl (w_X12_givesBy_44 hL C  h)
  · have h := ok_f c4 h
    refine Viload_n C 0 (dAt D_X12_givesBy 16 rfl) rfl rfl ?_
    refine Vgoto (tgt := 44) C (dAt D_X12_givesBy 17 rfl) (by decide) ?_
    exact Vsub [1, 2, 3, 0] rfl (w_X12_givesBy_44 hL C  h)
def F_X12_givesBy (f : Nat) (x1 : Int32) (x2 : Int32) (u : MT) : Option MT :=
  ck (ixo x2 192) <|
  if (gI u 178 (x2).toNatClampNeg) = 0 then
    B_X12_givesBy_20 f x1 x2 (gI u 167 46) u
  else
    B_X12_givesBy_20 f x1 x2 (gI u 167 45) u
theorem m_X12_givesBy {g : GT} {w : LT} (hL : Lay w) {x1 : Int32} {x2 : Int32} {f : Nat} {u : MT} {r : MT} (h : F_X12_givesBy f x1 x2 u = some r) : Mt g yX12_givesBy cX12_givesBy 12 none 3 0 0 [.ref 167, .int x1, .int x2] w u (Qv w r) := by
  refine Mt_of (own := RX12) (by decide +kernel) rfl (Nat.le_of_ble_eq_true rfl) (fun z C _ => ?_)
  show V z g 12 0 [(0, .ref 167), (1, .int x1), (2, .int x2)] [] w u 0 0 (Qv w r)
  rw [F_X12_givesBy] at h
  refine Vaload_n C 0 (dAt D_X12_givesBy 0 rfl) rfl rfl ?_
  refine VgetP C (dAt D_X12_givesBy 1 rfl) gf_X12_100 (kt_167 hL) rfl (kp_167_15 hL) ?_
  refine Viload_n C 2 (dAt D_X12_givesBy 2 rfl) rfl rfl ?_
  obtain ⟨c1, h⟩ := ok_ck h
  refine Viald C (dAt D_X12_givesBy 3 rfl) (kt_178 hL) (kl_178 hL) (vp_in_iff.mpr c1) ?_
  refine Vif_ne (tgt := 16) C (dAt D_X12_givesBy 4 rfl) (by decide) (fun c2 => ?_) (fun c2 => ?_)
  · have h := ok_f c2 h
    refine Vaload_n C 0 (dAt D_X12_givesBy 8 rfl) rfl rfl ?_
    refine VgetI C (dAt D_X12_givesBy 9 rfl) gf_X12_350 (kt_167 hL) rfl ?_
    exact Vsub [0, 1, 2] rfl (w_X12_givesBy_20 hL C  h)
  · have h := ok_t c2 h
    refine Vaload_n C 0 (dAt D_X12_givesBy 5 rfl) rfl rfl ?_
    refine VgetI C (dAt D_X12_givesBy 6 rfl) gf_X12_369 (kt_167 hL) rfl ?_
    refine Vgoto (tgt := 20) C (dAt D_X12_givesBy 7 rfl) (by decide) ?_
    exact Vsub [0, 1, 2] rfl (w_X12_givesBy_20 hL C  h)
def B_X12_rule_154 (f : Nat) (x1 : Int32) (s0 : Int32) (u : MT) : Option MT :=
  let u20 := sI u 167 46 ((gI u 167 46) - s0)
  let u21 := sI u20 167 45 ((gI u20 167 45) + s0)
  let u22 := sI u21 167 61 ((gI u21 167 61) + s0)
  ck (ixo (((13 : Int32) * x1) + (12 : Int32)) 312) <|
  let u24 := sI u22 209 ((((13 : Int32) * x1) + (12 : Int32))).toNatClampNeg s0
  some u24
theorem w_X12_rule_154 {z : ZT} {g : GT} {w : LT} (hL : Lay w) (C : Cx z g cX12_rule 4 RX12 none 4 0 0) {f : Nat} {r : MT} {x1 : Int32} {s0 : Int32} {u : MT} (h : B_X12_rule_154 f x1 s0 u = some r) : V z g 4 154 [(0, .ref 167), (1, .int x1)] [.int s0] w u 0 0 (Qv w r) := by
  rw [B_X12_rule_154] at h
  refine Vistore_n (lv' := [(3, _), (0, _), (1, _)]) C (dAt D_X12_rule 88 rfl) rfl (by decide) rfl ?_
  refine Vaload_n C 1 (dAt D_X12_rule 89 rfl) rfl rfl ?_
  refine Vdup C (dAt D_X12_rule 90 rfl) rfl ?_
  refine VgetI C (dAt D_X12_rule 91 rfl) gf_X12_369 (kt_167 hL) rfl ?_
  refine Viload_n C 0 (dAt D_X12_rule 92 rfl) rfl rfl ?_
  refine Visub C (dAt D_X12_rule 93 rfl) ?_
  refine VputI C (dAt D_X12_rule 94 rfl) gf_X12_369 (kt_167 hL) rfl rfl rfl rfl ?_
  refine Vaload_n C 1 (dAt D_X12_rule 95 rfl) rfl rfl ?_
  refine Vdup C (dAt D_X12_rule 96 rfl) rfl ?_
  refine VgetI C (dAt D_X12_rule 97 rfl) gf_X12_350 (kt_167 hL) rfl ?_
  refine Viload_n C 0 (dAt D_X12_rule 98 rfl) rfl rfl ?_
  refine Viadd C (dAt D_X12_rule 99 rfl) ?_
  refine VputI C (dAt D_X12_rule 100 rfl) gf_X12_350 (kt_167 hL) rfl rfl rfl rfl ?_
  refine Vaload_n C 1 (dAt D_X12_rule 101 rfl) rfl rfl ?_
  refine Vdup C (dAt D_X12_rule 102 rfl) rfl ?_
  refine VgetI C (dAt D_X12_rule 103 rfl) gf_X12_372 (kt_167 hL) rfl ?_
  refine Viload_n C 0 (dAt D_X12_rule 104 rfl) rfl rfl ?_
  refine Viadd C (dAt D_X12_rule 105 rfl) ?_
  refine VputI C (dAt D_X12_rule 106 rfl) gf_X12_372 (kt_167 hL) rfl rfl rfl rfl ?_
  refine Vaload_n C 1 (dAt D_X12_rule 107 rfl) rfl rfl ?_
  refine VgetP C (dAt D_X12_rule 108 rfl) gf_X12_196 (kt_167 hL) rfl (kp_167_67 hL) ?_
  refine Vbipush (x := 13) C (dAt D_X12_rule 109 rfl) (by decide) ?_
  refine Viload_n C 2 (dAt D_X12_rule 110 rfl) rfl rfl ?_
  refine Vimul C (dAt D_X12_rule 111 rfl) ?_
  refine Vbipush (x := 12) C (dAt D_X12_rule 112 rfl) (by decide) ?_
  refine Viadd C (dAt D_X12_rule 113 rfl) ?_
  refine Viload_n C 0 (dAt D_X12_rule 114 rfl) rfl rfl ?_
  obtain ⟨c23, h⟩ := ok_ck h
  refine Viast C (dAt D_X12_rule 115 rfl) (kt_209 hL) (kl_209 hL) (vp_in_iff.mpr c23) ?_
  refine Vgoto (tgt := 207) C (dAt D_X12_rule 116 rfl) (by decide) ?_
  cases h
  exact Vvret C (dAt D_X12_rule 121 rfl) (by decide) (by decide) ⟨rfl, rfl, rfl⟩
def B_X12_rule_144 (f : Nat) (x1 : Int32) (s0 : Int32) (u : MT) : Option MT :=
  if 0 ≤ s0 then
    B_X12_rule_154 f x1 s0 u
  else
    B_X12_rule_154 f x1 (0 : Int32) u
theorem w_X12_rule_144 {z : ZT} {g : GT} {w : LT} (hL : Lay w) (C : Cx z g cX12_rule 4 RX12 none 4 0 0) {f : Nat} {r : MT} {x1 : Int32} {s0 : Int32} {u : MT} (h : B_X12_rule_144 f x1 s0 u = some r) : V z g 4 144 [(0, .ref 167), (1, .int x1)] [.int s0] w u 0 0 (Qv w r) := by
  rw [B_X12_rule_144] at h
  refine Vistore_n (lv' := [(3, _), (0, _), (1, _)]) C (dAt D_X12_rule 82 rfl) rfl (by decide) rfl ?_
  refine Viload_n C 0 (dAt D_X12_rule 83 rfl) rfl rfl ?_
  refine Vif_ge (tgt := 153) C (dAt D_X12_rule 84 rfl) (by decide) (fun c19 => ?_) (fun c19 => ?_)
  · have h := ok_t c19 h
    refine Viload_n C 0 (dAt D_X12_rule 87 rfl) rfl rfl ?_
    exact Vsub [1, 2] rfl (w_X12_rule_154 hL C  h)
  · have h := ok_f c19 h
    refine Viconst (x := 0) C (dAt D_X12_rule 85 rfl) (by decide) ?_
    refine Vgoto (tgt := 154) C (dAt D_X12_rule 86 rfl) (by decide) ?_
    exact Vsub [1, 2] rfl (w_X12_rule_154 hL C  h)
def B_X12_rule_117 (f : Nat) (x1 : Int32) (s0 : Int32) (u : MT) : Option MT :=
  if s0 ≤ ((gI u 167 29) - (gI u 167 45)) then
    B_X12_rule_144 f x1 s0 u
  else
    B_X12_rule_144 f x1 ((gI u 167 29) - (gI u 167 45)) u
theorem w_X12_rule_117 {z : ZT} {g : GT} {w : LT} (hL : Lay w) (C : Cx z g cX12_rule 4 RX12 none 4 0 0) {f : Nat} {r : MT} {x1 : Int32} {s0 : Int32} {u : MT} (h : B_X12_rule_117 f x1 s0 u = some r) : V z g 4 117 [(0, .ref 167), (1, .int x1)] [.int s0] w u 0 0 (Qv w r) := by
  rw [B_X12_rule_117] at h
  refine Vistore_n (lv' := [(3, _), (0, _), (1, _)]) C (dAt D_X12_rule 67 rfl) rfl (by decide) rfl ?_
  refine Viload_n C 0 (dAt D_X12_rule 68 rfl) rfl rfl ?_
  refine Vaload_n C 1 (dAt D_X12_rule 69 rfl) rfl rfl ?_
  refine VgetI C (dAt D_X12_rule 70 rfl) gf_X12_219 (kt_167 hL) rfl ?_
  refine Vaload_n C 1 (dAt D_X12_rule 71 rfl) rfl rfl ?_
  refine VgetI C (dAt D_X12_rule 72 rfl) gf_X12_350 (kt_167 hL) rfl ?_
  refine Visub C (dAt D_X12_rule 73 rfl) ?_
  refine Vicmp_le (tgt := 143) C (dAt D_X12_rule 74 rfl) (by decide) (fun c18 => ?_) (fun c18 => ?_)
  · have h := ok_t c18 h
    refine Viload_n C 0 (dAt D_X12_rule 81 rfl) rfl rfl ?_
    exact Vsub [1, 2] rfl (w_X12_rule_144 hL C  h)
  · have h := ok_f c18 h
    refine Vaload_n C 1 (dAt D_X12_rule 75 rfl) rfl rfl ?_
    refine VgetI C (dAt D_X12_rule 76 rfl) gf_X12_219 (kt_167 hL) rfl ?_
    refine Vaload_n C 1 (dAt D_X12_rule 77 rfl) rfl rfl ?_
    refine VgetI C (dAt D_X12_rule 78 rfl) gf_X12_350 (kt_167 hL) rfl ?_
    refine Visub C (dAt D_X12_rule 79 rfl) ?_
    refine Vgoto (tgt := 144) C (dAt D_X12_rule 80 rfl) (by decide) ?_
    exact Vsub [1, 2] rfl (w_X12_rule_144 hL C  h)
def B_X12_rule_100 (f : Nat) (x1 : Int32) (s0 : Int32) (u : MT) : Option MT :=
  if s0 ≤ (gI u 167 46) then
    B_X12_rule_117 f x1 s0 u
  else
    B_X12_rule_117 f x1 (gI u 167 46) u
theorem w_X12_rule_100 {z : ZT} {g : GT} {w : LT} (hL : Lay w) (C : Cx z g cX12_rule 4 RX12 none 4 0 0) {f : Nat} {r : MT} {x1 : Int32} {s0 : Int32} {u : MT} (h : B_X12_rule_100 f x1 s0 u = some r) : V z g 4 100 [(0, .ref 167), (1, .int x1)] [.int s0] w u 0 0 (Qv w r) := by
  rw [B_X12_rule_100] at h
  refine Vistore_n (lv' := [(3, _), (0, _), (1, _)]) C (dAt D_X12_rule 58 rfl) rfl (by decide) rfl ?_
  refine Viload_n C 0 (dAt D_X12_rule 59 rfl) rfl rfl ?_
  refine Vaload_n C 1 (dAt D_X12_rule 60 rfl) rfl rfl ?_
  refine VgetI C (dAt D_X12_rule 61 rfl) gf_X12_369 (kt_167 hL) rfl ?_
  refine Vicmp_le (tgt := 116) C (dAt D_X12_rule 62 rfl) (by decide) (fun c17 => ?_) (fun c17 => ?_)
  · have h := ok_t c17 h
    refine Viload_n C 0 (dAt D_X12_rule 66 rfl) rfl rfl ?_
    exact Vsub [1, 2] rfl (w_X12_rule_117 hL C  h)
  · have h := ok_f c17 h
    refine Vaload_n C 1 (dAt D_X12_rule 63 rfl) rfl rfl ?_
    refine VgetI C (dAt D_X12_rule 64 rfl) gf_X12_369 (kt_167 hL) rfl ?_
    refine Vgoto (tgt := 117) C (dAt D_X12_rule 65 rfl) (by decide) ?_
    exact Vsub [1, 2] rfl (w_X12_rule_117 hL C  h)
def B_X12_rule_33 (f : Nat) (x1 : Int32) (x2 : Int32) (u : MT) : Option MT :=
  ck (ixo x2 192) <|
  if (gI u 176 (x2).toNatClampNeg) = (6 : Int32) then
    ck (ixo (gI u 178 (x2).toNatClampNeg) 4) <|
    let u10 := sI u 196 ((gI u 178 (x2).toNatClampNeg)).toNatClampNeg (gI u 180 (x2).toNatClampNeg)
    some u10
  else
    if (gI u 176 (x2).toNatClampNeg) = (5 : Int32) then
      if 0 ≤ (gI u 177 (x2).toNatClampNeg) then
        (F_X12_worth f (gI u 177 (x2).toNatClampNeg) u).bind fun r13 =>
        B_X12_rule_100 f x1 r13.1 r13.2
      else
        B_X12_rule_100 f x1 (gI u 167 46) u
    else
      (F_X12_givesBy f x1 x2 u).bind fun r15 =>
      some r15
theorem w_X12_rule_33 {z : ZT} {g : GT} {w : LT} (hL : Lay w) (C : Cx z g cX12_rule 4 RX12 none 4 0 0) {f : Nat} {r : MT} {x1 : Int32} {x2 : Int32} {u : MT} (h : B_X12_rule_33 f x1 x2 u = some r) : V z g 4 33 [(0, .ref 167), (1, .int x1), (2, .int x2)] [] w u 0 0 (Qv w r) := by
  rw [B_X12_rule_33] at h
  refine Vaload_n C 0 (dAt D_X12_rule 20 rfl) rfl rfl ?_
  refine VgetP C (dAt D_X12_rule 21 rfl) gf_X12_94 (kt_167 hL) rfl (kp_167_13 hL) ?_
  refine Viload_n C 2 (dAt D_X12_rule 22 rfl) rfl rfl ?_
  obtain ⟨c7, h⟩ := ok_ck h
  refine Viald C (dAt D_X12_rule 23 rfl) (kt_176 hL) (kl_176 hL) (vp_in_iff.mpr c7) ?_
  refine Vbipush (x := 6) C (dAt D_X12_rule 24 rfl) (by decide) ?_
  refine Vicmp_ne (tgt := 64) C (dAt D_X12_rule 25 rfl) (by decide) (fun c8 => ?_) (fun c8 => ?_)
  · have h := ok_f c8 h
    refine Vaload_n C 0 (dAt D_X12_rule 38 rfl) rfl rfl ?_
    refine VgetP C (dAt D_X12_rule 39 rfl) gf_X12_94 (kt_167 hL) rfl (kp_167_13 hL) ?_
    refine Viload_n C 2 (dAt D_X12_rule 40 rfl) rfl rfl ?_
    refine Viald C (dAt D_X12_rule 41 rfl) (kt_176 hL) (kl_176 hL) (vp_in_iff.mpr c7) ?_
    refine Viconst (x := 5) C (dAt D_X12_rule 42 rfl) (by decide) ?_
    refine Vicmp_ne (tgt := 201) C (dAt D_X12_rule 43 rfl) (by decide) (fun c11 => ?_) (fun c11 => ?_)
    · have h := ok_f c11 h
      refine Vaload_n C 0 (dAt D_X12_rule 117 rfl) rfl rfl ?_
      refine Viload_n C 1 (dAt D_X12_rule 118 rfl) rfl rfl ?_
      refine Viload_n C 2 (dAt D_X12_rule 119 rfl) rfl rfl ?_
      obtain ⟨r15, e16, h⟩ := ok_b h
      refine VcallV (as := [_, _]) C (dAt D_X12_rule 120 rfl) (m_X12_givesBy hL e16) yv_X12_401 (Or.inl ⟨(kt_167 hL), by decide⟩) rfl rfl (Nat.le_of_ble_eq_true rfl) (by decide) (by decide) (by decide) (by decide) (Kvoid ?_)
      cases h
      exact Vvret C (dAt D_X12_rule 121 rfl) (by decide) (by decide) ⟨rfl, rfl, rfl⟩
    · have h := ok_t c11 h
      refine Vaload_n C 0 (dAt D_X12_rule 44 rfl) rfl rfl ?_
      refine VgetP C (dAt D_X12_rule 45 rfl) gf_X12_97 (kt_167 hL) rfl (kp_167_14 hL) ?_
      refine Viload_n C 2 (dAt D_X12_rule 46 rfl) rfl rfl ?_
      refine Viald C (dAt D_X12_rule 47 rfl) (kt_177 hL) (kl_177 hL) (vp_in_iff.mpr c7) ?_
      refine Vif_ge (tgt := 90) C (dAt D_X12_rule 48 rfl) (by decide) (fun c12 => ?_) (fun c12 => ?_)
      · have h := ok_t c12 h
        refine Vaload_n C 0 (dAt D_X12_rule 52 rfl) rfl rfl ?_
        refine Vaload_n C 0 (dAt D_X12_rule 53 rfl) rfl rfl ?_
        refine VgetP C (dAt D_X12_rule 54 rfl) gf_X12_97 (kt_167 hL) rfl (kp_167_14 hL) ?_
        refine Viload_n C 2 (dAt D_X12_rule 55 rfl) rfl rfl ?_
        refine Viald C (dAt D_X12_rule 56 rfl) (kt_177 hL) (kl_177 hL) (vp_in_iff.mpr c7) ?_
        obtain ⟨r13, e14, h⟩ := ok_b h
        refine VcallV (as := [_]) C (dAt D_X12_rule 57 rfl) (m_X12_worth hL e14) yv_X12_398 (Or.inl ⟨(kt_167 hL), by decide⟩) rfl rfl (Nat.le_of_ble_eq_true rfl) (by decide) (by decide) (by decide) (by decide) (Kint ?_)
        exact Vsub [0, 1] rfl (w_X12_rule_100 hL C  h)
      · have h := ok_f c12 h
        refine Vaload_n C 0 (dAt D_X12_rule 49 rfl) rfl rfl ?_
        refine VgetI C (dAt D_X12_rule 50 rfl) gf_X12_369 (kt_167 hL) rfl ?_
        refine Vgoto (tgt := 100) C (dAt D_X12_rule 51 rfl) (by decide) ?_
        exact Vsub [0, 1] rfl (w_X12_rule_100 hL C  h)
  · have h := ok_t c8 h
    refine Vaload_n C 0 (dAt D_X12_rule 26 rfl) rfl rfl ?_
    refine VgetP C (dAt D_X12_rule 27 rfl) gf_X12_157 (kt_167 hL) rfl (kp_167_47 hL) ?_
    refine Vaload_n C 0 (dAt D_X12_rule 28 rfl) rfl rfl ?_
    refine VgetP C (dAt D_X12_rule 29 rfl) gf_X12_100 (kt_167 hL) rfl (kp_167_15 hL) ?_
    refine Viload_n C 2 (dAt D_X12_rule 30 rfl) rfl rfl ?_
    refine Viald C (dAt D_X12_rule 31 rfl) (kt_178 hL) (kl_178 hL) (vp_in_iff.mpr c7) ?_
    refine Vaload_n C 0 (dAt D_X12_rule 32 rfl) rfl rfl ?_
    refine VgetP C (dAt D_X12_rule 33 rfl) gf_X12_106 (kt_167 hL) rfl (kp_167_17 hL) ?_
    refine Viload_n C 2 (dAt D_X12_rule 34 rfl) rfl rfl ?_
    refine Viald C (dAt D_X12_rule 35 rfl) (kt_180 hL) (kl_180 hL) (vp_in_iff.mpr c7) ?_
    obtain ⟨c9, h⟩ := ok_ck h
    refine Viast C (dAt D_X12_rule 36 rfl) (kt_196 hL) (kl_196 hL) (vp_in_iff.mpr c9) ?_
    refine Vgoto (tgt := 207) C (dAt D_X12_rule 37 rfl) (by decide) ?_
    cases h
    exact Vvret C (dAt D_X12_rule 121 rfl) (by decide) (by decide) ⟨rfl, rfl, rfl⟩
def F_X12_rule (f : Nat) (x1 : Int32) (u : MT) : Option MT :=
  let v1 := (((24 : Int32) * (gI u 167 44)) + x1)
  ck (ixo v1 192) <|
  if (gI u 175 (v1).toNatClampNeg) < 0 then
    B_X12_rule_33 f x1 v1 u
  else
    (F_X12_worth f (gI u 175 (v1).toNatClampNeg) u).bind fun r4 =>
    if r4.1 = 0 then
      some r4.2
    else
      B_X12_rule_33 f x1 v1 r4.2
theorem m_X12_rule {g : GT} {w : LT} (hL : Lay w) {x1 : Int32} {f : Nat} {u : MT} {r : MT} (h : F_X12_rule f x1 u = some r) : Mt g yX12_rule cX12_rule 4 none 4 0 0 [.ref 167, .int x1] w u (Qv w r) := by
  refine Mt_of (own := RX12) (by decide +kernel) rfl (Nat.le_of_ble_eq_true rfl) (fun z C _ => ?_)
  show V z g 4 0 [(0, .ref 167), (1, .int x1)] [] w u 0 0 (Qv w r)
  rw [F_X12_rule] at h
  refine Vbipush (x := 24) C (dAt D_X12_rule 0 rfl) (by decide) ?_
  refine Vaload_n C 0 (dAt D_X12_rule 1 rfl) rfl rfl ?_
  refine VgetI C (dAt D_X12_rule 2 rfl) gf_X12_360 (kt_167 hL) rfl ?_
  refine Vimul C (dAt D_X12_rule 3 rfl) ?_
  refine Viload_n C 1 (dAt D_X12_rule 4 rfl) rfl rfl ?_
  refine Viadd C (dAt D_X12_rule 5 rfl) ?_
  refine Vistore_n (lv' := [(2, _), (0, _), (1, _)]) C (dAt D_X12_rule 6 rfl) rfl (by decide) rfl ?_
  refine Vaload_n C 1 (dAt D_X12_rule 7 rfl) rfl rfl ?_
  refine VgetP C (dAt D_X12_rule 8 rfl) gf_X12_91 (kt_167 hL) rfl (kp_167_12 hL) ?_
  refine Viload_n C 0 (dAt D_X12_rule 9 rfl) rfl rfl ?_
  obtain ⟨c2, h⟩ := ok_ck h
  refine Viald C (dAt D_X12_rule 10 rfl) (kt_175 hL) (kl_175 hL) (vp_in_iff.mpr c2) ?_
  refine Vif_lt (tgt := 33) C (dAt D_X12_rule 11 rfl) (by decide) (fun c3 => ?_) (fun c3 => ?_)
  · have h := ok_t c3 h
    exact Vsub [1, 2, 0] rfl (w_X12_rule_33 hL C  h)
  · have h := ok_f c3 h
    refine Vaload_n C 1 (dAt D_X12_rule 12 rfl) rfl rfl ?_
    refine Vaload_n C 1 (dAt D_X12_rule 13 rfl) rfl rfl ?_
    refine VgetP C (dAt D_X12_rule 14 rfl) gf_X12_91 (kt_167 hL) rfl (kp_167_12 hL) ?_
    refine Viload_n C 0 (dAt D_X12_rule 15 rfl) rfl rfl ?_
    refine Viald C (dAt D_X12_rule 16 rfl) (kt_175 hL) (kl_175 hL) (vp_in_iff.mpr c2) ?_
    obtain ⟨r4, e5, h⟩ := ok_b h
    refine VcallV (as := [_]) C (dAt D_X12_rule 17 rfl) (m_X12_worth hL e5) yv_X12_398 (Or.inl ⟨(kt_167 hL), by decide⟩) rfl rfl (Nat.le_of_ble_eq_true rfl) (by decide) (by decide) (by decide) (by decide) (Kint ?_)
    refine Vif_ne (tgt := 33) C (dAt D_X12_rule 18 rfl) (by decide) (fun c6 => ?_) (fun c6 => ?_)
    · have h := ok_f c6 h
      exact Vsub [1, 2, 0] rfl (w_X12_rule_33 hL C  h)
    · have h := ok_t c6 h
      cases h
      exact Vvret C (dAt D_X12_rule 19 rfl) (by decide) (by decide) ⟨rfl, rfl, rfl⟩
def B_X12_quarterEnds_52 (f : Nat) (j9 : Int32 → Int32 → MT → Option MT) (x1 : Int32) (x2 : Int32) (s0 : Int32) (s1 : Int32) (u : MT) : Option MT :=
  ck (ixo s1 12) <|
  let u13 := sI u 206 (s1).toNatClampNeg s0
  ck (ixo x2 12) <|
  let u15 := sI u13 201 (x2).toNatClampNeg ((gI u13 201 (x2).toNatClampNeg) - (gI u13 206 (x2).toNatClampNeg))
  let u16 := sI u15 167 63 ((gI u15 167 63) + (gI u15 206 (x2).toNatClampNeg))
  let u17 := sI u16 208 (x2).toNatClampNeg (((((gI u16 204 (x2).toNatClampNeg) * (gI u16 196 0)) + ((gI u16 205 (x2).toNatClampNeg) * (gI u16 196 1))) + ((gI u16 206 (x2).toNatClampNeg) * (gI u16 196 2))) - ((gI u16 203 (x2).toNatClampNeg) * (gI u16 196 0)))
  let v18 := (x1 + (gI u17 208 (x2).toNatClampNeg))
  ck (ixo x2 14) <|
  let u20 := sI u17 210 (x2).toNatClampNeg ((gI u17 210 (x2).toNatClampNeg) + (gI u17 208 (x2).toNatClampNeg))
  let v21 := x2 + 1
  j9 v18 v21 u20
theorem w_X12_quarterEnds_52 {z : ZT} {g : GT} {w : LT} (hL : Lay w) (C : Cx z g cX12_quarterEnds 3 RX12 none 0 0 0) {f : Nat} {r : MT} {j9 : Int32 → Int32 → MT → Option MT} (q9 : ∀ (x1 : Int32) (x2 : Int32) (u : MT), j9 x1 x2 u = some r → V z g 3 9 [(0, .ref 167), (1, .int x1), (2, .int x2)] [] w u 0 0 (Qv w r)) {x1 : Int32} {x2 : Int32} {s0 : Int32} {s1 : Int32} {u : MT} (h : B_X12_quarterEnds_52 f j9 x1 x2 s0 s1 u = some r) : V z g 3 52 [(0, .ref 167), (1, .int x1), (2, .int x2)] [.int s0, .int s1, .ref 206] w u 0 0 (Qv w r) := by
  rw [B_X12_quarterEnds_52] at h
  obtain ⟨c12, h⟩ := ok_ck h
  refine Viast C (dAt D_X12_quarterEnds 32 rfl) (kt_206 hL) (kl_206 hL) (vp_in_iff.mpr c12) ?_
  refine Vaload_n C 0 (dAt D_X12_quarterEnds 33 rfl) rfl rfl ?_
  refine VgetP C (dAt D_X12_quarterEnds 34 rfl) gf_X12_172 (kt_167 hL) rfl (kp_167_52 hL) ?_
  refine Viload_n C 2 (dAt D_X12_quarterEnds 35 rfl) rfl rfl ?_
  refine Vdup2 C (dAt D_X12_quarterEnds 36 rfl) rfl rfl ?_
  obtain ⟨c14, h⟩ := ok_ck h
  refine Viald C (dAt D_X12_quarterEnds 37 rfl) (kt_201 hL) (kl_201 hL) (vp_in_iff.mpr c14) ?_
  refine Vaload_n C 0 (dAt D_X12_quarterEnds 38 rfl) rfl rfl ?_
  refine VgetP C (dAt D_X12_quarterEnds 39 rfl) gf_X12_187 (kt_167 hL) rfl (kp_167_57 hL) ?_
  refine Viload_n C 2 (dAt D_X12_quarterEnds 40 rfl) rfl rfl ?_
  refine Viald C (dAt D_X12_quarterEnds 41 rfl) (kt_206 hL) (kl_206 hL) (vp_in_iff.mpr c14) ?_
  refine Visub C (dAt D_X12_quarterEnds 42 rfl) ?_
  refine Viast C (dAt D_X12_quarterEnds 43 rfl) (kt_201 hL) (kl_201 hL) (vp_in_iff.mpr c14) ?_
  refine Vaload_n C 0 (dAt D_X12_quarterEnds 44 rfl) rfl rfl ?_
  refine Vdup C (dAt D_X12_quarterEnds 45 rfl) rfl ?_
  refine VgetI C (dAt D_X12_quarterEnds 46 rfl) gf_X12_378 (kt_167 hL) rfl ?_
  refine Vaload_n C 0 (dAt D_X12_quarterEnds 47 rfl) rfl rfl ?_
  refine VgetP C (dAt D_X12_quarterEnds 48 rfl) gf_X12_187 (kt_167 hL) rfl (kp_167_57 hL) ?_
  refine Viload_n C 2 (dAt D_X12_quarterEnds 49 rfl) rfl rfl ?_
  refine Viald C (dAt D_X12_quarterEnds 50 rfl) (kt_206 hL) (kl_206 hL) (vp_in_iff.mpr c14) ?_
  refine Viadd C (dAt D_X12_quarterEnds 51 rfl) ?_
  refine VputI C (dAt D_X12_quarterEnds 52 rfl) gf_X12_378 (kt_167 hL) rfl rfl rfl rfl ?_
  refine Vaload_n C 0 (dAt D_X12_quarterEnds 53 rfl) rfl rfl ?_
  refine VgetP C (dAt D_X12_quarterEnds 54 rfl) gf_X12_193 (kt_167 hL) rfl (kp_167_59 hL) ?_
  refine Viload_n C 2 (dAt D_X12_quarterEnds 55 rfl) rfl rfl ?_
  refine Vaload_n C 0 (dAt D_X12_quarterEnds 56 rfl) rfl rfl ?_
  refine VgetP C (dAt D_X12_quarterEnds 57 rfl) gf_X12_181 (kt_167 hL) rfl (kp_167_55 hL) ?_
  refine Viload_n C 2 (dAt D_X12_quarterEnds 58 rfl) rfl rfl ?_
  refine Viald C (dAt D_X12_quarterEnds 59 rfl) (kt_204 hL) (kl_204 hL) (vp_in_iff.mpr c14) ?_
  refine Vaload_n C 0 (dAt D_X12_quarterEnds 60 rfl) rfl rfl ?_
  refine VgetP C (dAt D_X12_quarterEnds 61 rfl) gf_X12_157 (kt_167 hL) rfl (kp_167_47 hL) ?_
  refine Viconst (x := 0) C (dAt D_X12_quarterEnds 62 rfl) (by decide) ?_
  refine VialdC 0 C (dAt D_X12_quarterEnds 63 rfl) (kt_196 hL) (kl_196 hL) (by decide) rfl ?_
  refine Vimul C (dAt D_X12_quarterEnds 64 rfl) ?_
  refine Vaload_n C 0 (dAt D_X12_quarterEnds 65 rfl) rfl rfl ?_
  refine VgetP C (dAt D_X12_quarterEnds 66 rfl) gf_X12_184 (kt_167 hL) rfl (kp_167_56 hL) ?_
  refine Viload_n C 2 (dAt D_X12_quarterEnds 67 rfl) rfl rfl ?_
  refine Viald C (dAt D_X12_quarterEnds 68 rfl) (kt_205 hL) (kl_205 hL) (vp_in_iff.mpr c14) ?_
  refine Vaload_n C 0 (dAt D_X12_quarterEnds 69 rfl) rfl rfl ?_
  refine VgetP C (dAt D_X12_quarterEnds 70 rfl) gf_X12_157 (kt_167 hL) rfl (kp_167_47 hL) ?_
  refine Viconst (x := 1) C (dAt D_X12_quarterEnds 71 rfl) (by decide) ?_
  refine VialdC 1 C (dAt D_X12_quarterEnds 72 rfl) (kt_196 hL) (kl_196 hL) (by decide) rfl ?_
  refine Vimul C (dAt D_X12_quarterEnds 73 rfl) ?_
  refine Viadd C (dAt D_X12_quarterEnds 74 rfl) ?_
  refine Vaload_n C 0 (dAt D_X12_quarterEnds 75 rfl) rfl rfl ?_
  refine VgetP C (dAt D_X12_quarterEnds 76 rfl) gf_X12_187 (kt_167 hL) rfl (kp_167_57 hL) ?_
  refine Viload_n C 2 (dAt D_X12_quarterEnds 77 rfl) rfl rfl ?_
  refine Viald C (dAt D_X12_quarterEnds 78 rfl) (kt_206 hL) (kl_206 hL) (vp_in_iff.mpr c14) ?_
  refine Vaload_n C 0 (dAt D_X12_quarterEnds 79 rfl) rfl rfl ?_
  refine VgetP C (dAt D_X12_quarterEnds 80 rfl) gf_X12_157 (kt_167 hL) rfl (kp_167_47 hL) ?_
  refine Viconst (x := 2) C (dAt D_X12_quarterEnds 81 rfl) (by decide) ?_
  refine VialdC 2 C (dAt D_X12_quarterEnds 82 rfl) (kt_196 hL) (kl_196 hL) (by decide) rfl ?_
  refine Vimul C (dAt D_X12_quarterEnds 83 rfl) ?_
  refine Viadd C (dAt D_X12_quarterEnds 84 rfl) ?_
  refine Vaload_n C 0 (dAt D_X12_quarterEnds 85 rfl) rfl rfl ?_
  refine VgetP C (dAt D_X12_quarterEnds 86 rfl) gf_X12_178 (kt_167 hL) rfl (kp_167_54 hL) ?_
  refine Viload_n C 2 (dAt D_X12_quarterEnds 87 rfl) rfl rfl ?_
  refine Viald C (dAt D_X12_quarterEnds 88 rfl) (kt_203 hL) (kl_203 hL) (vp_in_iff.mpr c14) ?_
  refine Vaload_n C 0 (dAt D_X12_quarterEnds 89 rfl) rfl rfl ?_
  refine VgetP C (dAt D_X12_quarterEnds 90 rfl) gf_X12_157 (kt_167 hL) rfl (kp_167_47 hL) ?_
  refine Viconst (x := 0) C (dAt D_X12_quarterEnds 91 rfl) (by decide) ?_
  refine VialdC 0 C (dAt D_X12_quarterEnds 92 rfl) (kt_196 hL) (kl_196 hL) (by decide) rfl ?_
  refine Vimul C (dAt D_X12_quarterEnds 93 rfl) ?_
  refine Visub C (dAt D_X12_quarterEnds 94 rfl) ?_
  refine Viast C (dAt D_X12_quarterEnds 95 rfl) (kt_208 hL) (kl_208 hL) (vp_in_iff.mpr c14) ?_
  refine Viload_n C 1 (dAt D_X12_quarterEnds 96 rfl) rfl rfl ?_
  refine Vaload_n C 0 (dAt D_X12_quarterEnds 97 rfl) rfl rfl ?_
  refine VgetP C (dAt D_X12_quarterEnds 98 rfl) gf_X12_193 (kt_167 hL) rfl (kp_167_59 hL) ?_
  refine Viload_n C 2 (dAt D_X12_quarterEnds 99 rfl) rfl rfl ?_
  refine Viald C (dAt D_X12_quarterEnds 100 rfl) (kt_208 hL) (kl_208 hL) (vp_in_iff.mpr c14) ?_
  refine Viadd C (dAt D_X12_quarterEnds 101 rfl) ?_
  refine Vistore_n (lv' := [(1, _), (0, _), (2, _)]) C (dAt D_X12_quarterEnds 102 rfl) rfl (by decide) rfl ?_
  refine Vaload_n C 1 (dAt D_X12_quarterEnds 103 rfl) rfl rfl ?_
  refine VgetP C (dAt D_X12_quarterEnds 104 rfl) gf_X12_199 (kt_167 hL) rfl (kp_167_68 hL) ?_
  refine Viload_n C 2 (dAt D_X12_quarterEnds 105 rfl) rfl rfl ?_
  refine Vdup2 C (dAt D_X12_quarterEnds 106 rfl) rfl rfl ?_
  obtain ⟨c19, h⟩ := ok_ck h
  refine Viald C (dAt D_X12_quarterEnds 107 rfl) (kt_210 hL) (kl_210 hL) (vp_in_iff.mpr c19) ?_
  refine Vaload_n C 1 (dAt D_X12_quarterEnds 108 rfl) rfl rfl ?_
  refine VgetP C (dAt D_X12_quarterEnds 109 rfl) gf_X12_193 (kt_167 hL) rfl (kp_167_59 hL) ?_
  refine Viload_n C 2 (dAt D_X12_quarterEnds 110 rfl) rfl rfl ?_
  refine Viald C (dAt D_X12_quarterEnds 111 rfl) (kt_208 hL) (kl_208 hL) (vp_in_iff.mpr c14) ?_
  refine Viadd C (dAt D_X12_quarterEnds 112 rfl) ?_
  refine Viast C (dAt D_X12_quarterEnds 113 rfl) (kt_210 hL) (kl_210 hL) (vp_in_iff.mpr c19) ?_
  refine Viinc (j := 2) (v := _ + 1) (lv' := [(2, _), (1, _), (0, _)]) C (dAt D_X12_quarterEnds 114 rfl) rfl rfl (by decide) rfl ?_
  refine Vgoto (tgt := 9) C (dAt D_X12_quarterEnds 115 rfl) (by decide) ?_
  exact Vsub [2, 1, 0] rfl (q9 _ _ _  h)
def B_X12_quarterEnds_9 (f : Nat) : Nat → Int32 → Int32 → MT → Option MT
  | 0, _, _, _ => none
  | n + 1, x1, x2, u =>
    if (gI u 167 31) ≤ x2 then
      let u3 := sI u 167 64 (gI u 167 46)
      let u4 := sI u3 167 65 (((gI u3 167 64) * (gI u3 196 3)) - ((gI u3 167 63) * (gI u3 196 2)))
      let u5 := sI u4 167 66 (-(x1 + (gI u4 167 65)))
      let u6 := sI u5 210 12 ((gI u5 210 12) + (gI u5 167 65))
      let u7 := sI u6 210 13 ((gI u6 210 13) + (gI u6 167 66))
      let u8 := sI u7 167 62 ((((((gI u7 167 45)).toInt64 * ((gI u7 167 30)).toInt64) / (1000 : Int64))).toInt32)
      let u9 := sI u8 167 45 ((gI u8 167 45) - (gI u8 167 62))
      some u9
    else
      ck (ixo x2 12) <|
      if (gI u 202 (x2).toNatClampNeg) ≤ (gI u 201 (x2).toNatClampNeg) then
        B_X12_quarterEnds_52 f (fun x1' x2' u' => B_X12_quarterEnds_9 f n x1' x2' u') x1 x2 (gI u 202 (x2).toNatClampNeg) x2 u
      else
        B_X12_quarterEnds_52 f (fun x1' x2' u' => B_X12_quarterEnds_9 f n x1' x2' u') x1 x2 (gI u 201 (x2).toNatClampNeg) x2 u
theorem w_X12_quarterEnds_9 {z : ZT} {g : GT} {w : LT} (hL : Lay w) (C : Cx z g cX12_quarterEnds 3 RX12 none 0 0 0) {f : Nat} {r : MT} : ∀ (n : Nat) (x1 : Int32) (x2 : Int32) (u : MT), B_X12_quarterEnds_9 f n x1 x2 u = some r → V z g 3 9 [(0, .ref 167), (1, .int x1), (2, .int x2)] [] w u 0 0 (Qv w r) := by
  intro n
  induction n with
  | zero =>
    intro x1 x2 u h
    rw [B_X12_quarterEnds_9] at h
    cases h
  | succ n ih =>
    intro x1 x2 u h
    rw [B_X12_quarterEnds_9] at h
    refine Viload_n C 2 (dAt D_X12_quarterEnds 7 rfl) rfl rfl ?_
    refine Vaload_n C 0 (dAt D_X12_quarterEnds 8 rfl) rfl rfl ?_
    refine VgetI C (dAt D_X12_quarterEnds 9 rfl) gf_X12_300 (kt_167 hL) rfl ?_
    refine Vicmp_ge (tgt := 174) C (dAt D_X12_quarterEnds 10 rfl) (by decide) (fun c2 => ?_) (fun c2 => ?_)
    · have h := ok_t c2 h
      refine Vaload_n C 0 (dAt D_X12_quarterEnds 116 rfl) rfl rfl ?_
      refine Vaload_n C 0 (dAt D_X12_quarterEnds 117 rfl) rfl rfl ?_
      refine VgetI C (dAt D_X12_quarterEnds 118 rfl) gf_X12_369 (kt_167 hL) rfl ?_
      refine VputI C (dAt D_X12_quarterEnds 119 rfl) gf_X12_381 (kt_167 hL) rfl rfl rfl rfl ?_
      refine Vaload_n C 0 (dAt D_X12_quarterEnds 120 rfl) rfl rfl ?_
      refine Vaload_n C 0 (dAt D_X12_quarterEnds 121 rfl) rfl rfl ?_
      refine VgetI C (dAt D_X12_quarterEnds 122 rfl) gf_X12_381 (kt_167 hL) rfl ?_
      refine Vaload_n C 0 (dAt D_X12_quarterEnds 123 rfl) rfl rfl ?_
      refine VgetP C (dAt D_X12_quarterEnds 124 rfl) gf_X12_157 (kt_167 hL) rfl (kp_167_47 hL) ?_
      refine Viconst (x := 3) C (dAt D_X12_quarterEnds 125 rfl) (by decide) ?_
      refine VialdC 3 C (dAt D_X12_quarterEnds 126 rfl) (kt_196 hL) (kl_196 hL) (by decide) rfl ?_
      refine Vimul C (dAt D_X12_quarterEnds 127 rfl) ?_
      refine Vaload_n C 0 (dAt D_X12_quarterEnds 128 rfl) rfl rfl ?_
      refine VgetI C (dAt D_X12_quarterEnds 129 rfl) gf_X12_378 (kt_167 hL) rfl ?_
      refine Vaload_n C 0 (dAt D_X12_quarterEnds 130 rfl) rfl rfl ?_
      refine VgetP C (dAt D_X12_quarterEnds 131 rfl) gf_X12_157 (kt_167 hL) rfl (kp_167_47 hL) ?_
      refine Viconst (x := 2) C (dAt D_X12_quarterEnds 132 rfl) (by decide) ?_
      refine VialdC 2 C (dAt D_X12_quarterEnds 133 rfl) (kt_196 hL) (kl_196 hL) (by decide) rfl ?_
      refine Vimul C (dAt D_X12_quarterEnds 134 rfl) ?_
      refine Visub C (dAt D_X12_quarterEnds 135 rfl) ?_
      refine VputI C (dAt D_X12_quarterEnds 136 rfl) gf_X12_384 (kt_167 hL) rfl rfl rfl rfl ?_
      refine Vaload_n C 0 (dAt D_X12_quarterEnds 137 rfl) rfl rfl ?_
      refine Viload_n C 1 (dAt D_X12_quarterEnds 138 rfl) rfl rfl ?_
      refine Vaload_n C 0 (dAt D_X12_quarterEnds 139 rfl) rfl rfl ?_
      refine VgetI C (dAt D_X12_quarterEnds 140 rfl) gf_X12_384 (kt_167 hL) rfl ?_
      refine Viadd C (dAt D_X12_quarterEnds 141 rfl) ?_
      refine Vineg C (dAt D_X12_quarterEnds 142 rfl) ?_
      refine VputI C (dAt D_X12_quarterEnds 143 rfl) gf_X12_387 (kt_167 hL) rfl rfl rfl rfl ?_
      refine Vaload_n C 0 (dAt D_X12_quarterEnds 144 rfl) rfl rfl ?_
      refine VgetP C (dAt D_X12_quarterEnds 145 rfl) gf_X12_199 (kt_167 hL) rfl (kp_167_68 hL) ?_
      refine Vbipush (x := 12) C (dAt D_X12_quarterEnds 146 rfl) (by decide) ?_
      refine Vdup2 C (dAt D_X12_quarterEnds 147 rfl) rfl rfl ?_
      refine VialdC 12 C (dAt D_X12_quarterEnds 148 rfl) (kt_210 hL) (kl_210 hL) (by decide) rfl ?_
      refine Vaload_n C 0 (dAt D_X12_quarterEnds 149 rfl) rfl rfl ?_
      refine VgetI C (dAt D_X12_quarterEnds 150 rfl) gf_X12_384 (kt_167 hL) rfl ?_
      refine Viadd C (dAt D_X12_quarterEnds 151 rfl) ?_
      refine ViastC 12 C (dAt D_X12_quarterEnds 152 rfl) (kt_210 hL) (kl_210 hL) (by decide) rfl ?_
      refine Vaload_n C 0 (dAt D_X12_quarterEnds 153 rfl) rfl rfl ?_
      refine VgetP C (dAt D_X12_quarterEnds 154 rfl) gf_X12_199 (kt_167 hL) rfl (kp_167_68 hL) ?_
      refine Vbipush (x := 13) C (dAt D_X12_quarterEnds 155 rfl) (by decide) ?_
      refine Vdup2 C (dAt D_X12_quarterEnds 156 rfl) rfl rfl ?_
      refine VialdC 13 C (dAt D_X12_quarterEnds 157 rfl) (kt_210 hL) (kl_210 hL) (by decide) rfl ?_
      refine Vaload_n C 0 (dAt D_X12_quarterEnds 158 rfl) rfl rfl ?_
      refine VgetI C (dAt D_X12_quarterEnds 159 rfl) gf_X12_387 (kt_167 hL) rfl ?_
      refine Viadd C (dAt D_X12_quarterEnds 160 rfl) ?_
      refine ViastC 13 C (dAt D_X12_quarterEnds 161 rfl) (kt_210 hL) (kl_210 hL) (by decide) rfl ?_
      refine Vaload_n C 0 (dAt D_X12_quarterEnds 162 rfl) rfl rfl ?_
      refine Vaload_n C 0 (dAt D_X12_quarterEnds 163 rfl) rfl rfl ?_
      refine VgetI C (dAt D_X12_quarterEnds 164 rfl) gf_X12_350 (kt_167 hL) rfl ?_
      refine Vi2l C (dAt D_X12_quarterEnds 165 rfl) ?_
      refine Vaload_n C 0 (dAt D_X12_quarterEnds 166 rfl) rfl rfl ?_
      refine VgetI C (dAt D_X12_quarterEnds 167 rfl) gf_X12_222 (kt_167 hL) rfl ?_
      refine Vi2l C (dAt D_X12_quarterEnds 168 rfl) ?_
      refine Vlmul C (dAt D_X12_quarterEnds 169 rfl) ?_
      refine Vldc2 C gl_X12_390 (dAt D_X12_quarterEnds 170 rfl) ?_
      refine Vldiv C (dAt D_X12_quarterEnds 171 rfl) (by decide) ?_
      refine Vl2i C (dAt D_X12_quarterEnds 172 rfl) ?_
      refine VputI C (dAt D_X12_quarterEnds 173 rfl) gf_X12_392 (kt_167 hL) rfl rfl rfl rfl ?_
      refine Vaload_n C 0 (dAt D_X12_quarterEnds 174 rfl) rfl rfl ?_
      refine Vdup C (dAt D_X12_quarterEnds 175 rfl) rfl ?_
      refine VgetI C (dAt D_X12_quarterEnds 176 rfl) gf_X12_350 (kt_167 hL) rfl ?_
      refine Vaload_n C 0 (dAt D_X12_quarterEnds 177 rfl) rfl rfl ?_
      refine VgetI C (dAt D_X12_quarterEnds 178 rfl) gf_X12_392 (kt_167 hL) rfl ?_
      refine Visub C (dAt D_X12_quarterEnds 179 rfl) ?_
      refine VputI C (dAt D_X12_quarterEnds 180 rfl) gf_X12_350 (kt_167 hL) rfl rfl rfl rfl ?_
      cases h
      exact Vvret C (dAt D_X12_quarterEnds 181 rfl) (by decide) (by decide) ⟨rfl, rfl, rfl⟩
    · have h := ok_f c2 h
      refine Vaload_n C 0 (dAt D_X12_quarterEnds 11 rfl) rfl rfl ?_
      refine VgetP C (dAt D_X12_quarterEnds 12 rfl) gf_X12_187 (kt_167 hL) rfl (kp_167_57 hL) ?_
      refine Viload_n C 2 (dAt D_X12_quarterEnds 13 rfl) rfl rfl ?_
      refine Vaload_n C 0 (dAt D_X12_quarterEnds 14 rfl) rfl rfl ?_
      refine VgetP C (dAt D_X12_quarterEnds 15 rfl) gf_X12_172 (kt_167 hL) rfl (kp_167_52 hL) ?_
      refine Viload_n C 2 (dAt D_X12_quarterEnds 16 rfl) rfl rfl ?_
      obtain ⟨c10, h⟩ := ok_ck h
      refine Viald C (dAt D_X12_quarterEnds 17 rfl) (kt_201 hL) (kl_201 hL) (vp_in_iff.mpr c10) ?_
      refine Vaload_n C 0 (dAt D_X12_quarterEnds 18 rfl) rfl rfl ?_
      refine VgetP C (dAt D_X12_quarterEnds 19 rfl) gf_X12_175 (kt_167 hL) rfl (kp_167_53 hL) ?_
      refine Viload_n C 2 (dAt D_X12_quarterEnds 20 rfl) rfl rfl ?_
      refine Viald C (dAt D_X12_quarterEnds 21 rfl) (kt_202 hL) (kl_202 hL) (vp_in_iff.mpr c10) ?_
      refine Vicmp_ge (tgt := 46) C (dAt D_X12_quarterEnds 22 rfl) (by decide) (fun c11 => ?_) (fun c11 => ?_)
      · have h := ok_t c11 h
        refine Vaload_n C 0 (dAt D_X12_quarterEnds 28 rfl) rfl rfl ?_
        refine VgetP C (dAt D_X12_quarterEnds 29 rfl) gf_X12_175 (kt_167 hL) rfl (kp_167_53 hL) ?_
        refine Viload_n C 2 (dAt D_X12_quarterEnds 30 rfl) rfl rfl ?_
        refine Viald C (dAt D_X12_quarterEnds 31 rfl) (kt_202 hL) (kl_202 hL) (vp_in_iff.mpr c10) ?_
        exact Vsub [0, 1, 2] rfl (w_X12_quarterEnds_52 hL C ih  h)
      · have h := ok_f c11 h
        refine Vaload_n C 0 (dAt D_X12_quarterEnds 23 rfl) rfl rfl ?_
        refine VgetP C (dAt D_X12_quarterEnds 24 rfl) gf_X12_172 (kt_167 hL) rfl (kp_167_52 hL) ?_
        refine Viload_n C 2 (dAt D_X12_quarterEnds 25 rfl) rfl rfl ?_
        refine Viald C (dAt D_X12_quarterEnds 26 rfl) (kt_201 hL) (kl_201 hL) (vp_in_iff.mpr c10) ?_
        refine Vgoto (tgt := 52) C (dAt D_X12_quarterEnds 27 rfl) (by decide) ?_
        exact Vsub [0, 1, 2] rfl (w_X12_quarterEnds_52 hL C ih  h)
def F_X12_quarterEnds (f : Nat) (u : MT) : Option MT :=
  let u1 := sI u 167 63 (0 : Int32)
  B_X12_quarterEnds_9 f f (0 : Int32) (0 : Int32) u1
theorem m_X12_quarterEnds {g : GT} {w : LT} (hL : Lay w) {f : Nat} {u : MT} {r : MT} (h : F_X12_quarterEnds f  u = some r) : Mt g yX12_quarterEnds cX12_quarterEnds 3 none 0 0 0 [.ref 167] w u (Qv w r) := by
  refine Mt_of (own := RX12) (by decide +kernel) rfl (Nat.le_of_ble_eq_true rfl) (fun z C _ => ?_)
  show V z g 3 0 [(0, .ref 167)] [] w u 0 0 (Qv w r)
  rw [F_X12_quarterEnds] at h
  refine Vaload_n C 0 (dAt D_X12_quarterEnds 0 rfl) rfl rfl ?_
  refine Viconst (x := 0) C (dAt D_X12_quarterEnds 1 rfl) (by decide) ?_
  refine VputI C (dAt D_X12_quarterEnds 2 rfl) gf_X12_378 (kt_167 hL) rfl rfl rfl rfl ?_
  refine Viconst (x := 0) C (dAt D_X12_quarterEnds 3 rfl) (by decide) ?_
  refine Vistore_n (lv' := [(1, _), (0, _)]) C (dAt D_X12_quarterEnds 4 rfl) rfl (by decide) rfl ?_
  refine Viconst (x := 0) C (dAt D_X12_quarterEnds 5 rfl) (by decide) ?_
  refine Vistore_n (lv' := [(2, _), (1, _), (0, _)]) C (dAt D_X12_quarterEnds 6 rfl) rfl (by decide) rfl ?_
  exact Vsub [2, 1, 0] rfl (w_X12_quarterEnds_9 hL C  f _ _ _  h)
def B_X12_works_151 (f : Nat) (j102 : Int32 → Int32 → MT → Option MT) (x1 : Int32) (x3 : Int32) (u : MT) : Option MT :=
  (F_X12_quarterEnds f u).bind fun r28 =>
  let u30 := sI r28 167 43 ((gI r28 167 43) + (1 : Int32))
  j102 x1 x3 u30
theorem w_X12_works_151 {z : ZT} {g : GT} {w : LT} (hL : Lay w) (C : Cx z g cX12_works 5 RX12 none 5 0 0) {f : Nat} {r : MT} {j102 : Int32 → Int32 → MT → Option MT} (q102 : ∀ (x1 : Int32) (x3 : Int32) (u : MT), j102 x1 x3 u = some r → V z g 5 102 [(0, .ref 167), (1, .int x1), (3, .int x3)] [] w u 0 0 (Qv w r)) {x1 : Int32} {x3 : Int32} {u : MT} (h : B_X12_works_151 f j102 x1 x3 u = some r) : V z g 5 151 [(0, .ref 167), (1, .int x1), (3, .int x3)] [] w u 0 0 (Qv w r) := by
  rw [B_X12_works_151] at h
  refine Vaload_n C 0 (dAt D_X12_works 79 rfl) rfl rfl ?_
  obtain ⟨r28, e29, h⟩ := ok_b h
  refine VcallV (as := []) C (dAt D_X12_works 80 rfl) (m_X12_quarterEnds hL e29) yv_X12_366 (Or.inl ⟨(kt_167 hL), by decide⟩) rfl rfl (Nat.le_of_ble_eq_true rfl) (by decide) (by decide) (by decide) (by decide) (Kvoid ?_)
  refine Vaload_n C 0 (dAt D_X12_works 81 rfl) rfl rfl ?_
  refine Vdup C (dAt D_X12_works 82 rfl) rfl ?_
  refine VgetI C (dAt D_X12_works 83 rfl) gf_X12_353 (kt_167 hL) rfl ?_
  refine Viconst (x := 1) C (dAt D_X12_works 84 rfl) (by decide) ?_
  refine Viadd C (dAt D_X12_works 85 rfl) ?_
  refine VputI C (dAt D_X12_works 86 rfl) gf_X12_353 (kt_167 hL) rfl rfl rfl rfl ?_
  refine Vgoto (tgt := 102) C (dAt D_X12_works 87 rfl) (by decide) ?_
  exact Vsub [0, 1, 2] rfl (q102 _ _ _  h)
def B_X12_works_118 (f : Nat) (j102 : Int32 → Int32 → MT → Option MT) : Nat → Int32 → Int32 → Int32 → MT → Option MT
  | 0, _, _, _, _ => none
  | n + 1, x1, x3, x4, u =>
    if (gI u 167 44) < 0 then
      B_X12_works_151 f j102 x1 x3 u
    else
      ck (ixo (gI u 167 44) 8) <|
      if (gI u 173 ((gI u 167 44)).toNatClampNeg) ≤ x4 then
        B_X12_works_151 f j102 x1 x3 u
      else
        (F_X12_rule f x4 u).bind fun r25 =>
        let v27 := x4 + 1
        B_X12_works_118 f j102 n x1 x3 v27 r25
theorem w_X12_works_118 {z : ZT} {g : GT} {w : LT} (hL : Lay w) (C : Cx z g cX12_works 5 RX12 none 5 0 0) {f : Nat} {r : MT} {j102 : Int32 → Int32 → MT → Option MT} (q102 : ∀ (x1 : Int32) (x3 : Int32) (u : MT), j102 x1 x3 u = some r → V z g 5 102 [(0, .ref 167), (1, .int x1), (3, .int x3)] [] w u 0 0 (Qv w r)) : ∀ (n : Nat) (x1 : Int32) (x3 : Int32) (x4 : Int32) (u : MT), B_X12_works_118 f j102 n x1 x3 x4 u = some r → V z g 5 118 [(0, .ref 167), (1, .int x1), (3, .int x3), (4, .int x4)] [] w u 0 0 (Qv w r) := by
  intro n
  induction n with
  | zero =>
    intro x1 x3 x4 u h
    rw [B_X12_works_118] at h
    cases h
  | succ n ih =>
    intro x1 x3 x4 u h
    rw [B_X12_works_118] at h
    refine Vaload_n C 0 (dAt D_X12_works 64 rfl) rfl rfl ?_
    refine VgetI C (dAt D_X12_works 65 rfl) gf_X12_360 (kt_167 hL) rfl ?_
    refine Vif_lt (tgt := 151) C (dAt D_X12_works 66 rfl) (by decide) (fun c22 => ?_) (fun c22 => ?_)
    · have h := ok_t c22 h
      exact Vsub [0, 1, 2] rfl (w_X12_works_151 hL C q102  h)
    · have h := ok_f c22 h
      refine Viload C 3 (dAt D_X12_works 67 rfl) rfl ?_
      refine Vaload_n C 0 (dAt D_X12_works 68 rfl) rfl rfl ?_
      refine VgetP C (dAt D_X12_works 69 rfl) gf_X12_85 (kt_167 hL) rfl (kp_167_10 hL) ?_
      refine Vaload_n C 0 (dAt D_X12_works 70 rfl) rfl rfl ?_
      refine VgetI C (dAt D_X12_works 71 rfl) gf_X12_360 (kt_167 hL) rfl ?_
      obtain ⟨c23, h⟩ := ok_ck h
      refine Viald C (dAt D_X12_works 72 rfl) (kt_173 hL) (kl_173 hL) (vp_in_iff.mpr c23) ?_
      refine Vicmp_ge (tgt := 151) C (dAt D_X12_works 73 rfl) (by decide) (fun c24 => ?_) (fun c24 => ?_)
      · have h := ok_t c24 h
        exact Vsub [0, 1, 2] rfl (w_X12_works_151 hL C q102  h)
      · have h := ok_f c24 h
        refine Vaload_n C 0 (dAt D_X12_works 74 rfl) rfl rfl ?_
        refine Viload C 3 (dAt D_X12_works 75 rfl) rfl ?_
        obtain ⟨r25, e26, h⟩ := ok_b h
        refine VcallV (as := [_]) C (dAt D_X12_works 76 rfl) (m_X12_rule hL e26) yv_X12_363 (Or.inl ⟨(kt_167 hL), by decide⟩) rfl rfl (Nat.le_of_ble_eq_true rfl) (by decide) (by decide) (by decide) (by decide) (Kvoid ?_)
        refine Viinc (j := 3) (v := _ + 1) (lv' := [(4, _), (0, _), (1, _), (3, _)]) C (dAt D_X12_works 77 rfl) rfl rfl (by decide) rfl ?_
        refine Vgoto (tgt := 118) C (dAt D_X12_works 78 rfl) (by decide) ?_
        exact Vsub [1, 2, 3, 0] rfl (ih _ _ _ _  h)
def B_X12_works_102 (f : Nat) : Nat → Int32 → Int32 → MT → Option MT
  | 0, _, _, _ => none
  | n + 1, x1, x3, u =>
    if x1 < (gI u 167 43) then
      let u19 := sI u 167 43 x1
      some u19
    else
      (F_X12_quarterBegins f x3 u).bind fun r20 =>
      B_X12_works_118 f (fun x1' x3' u' => B_X12_works_102 f n x1' x3' u') f x1 x3 (0 : Int32) r20
theorem w_X12_works_102 {z : ZT} {g : GT} {w : LT} (hL : Lay w) (C : Cx z g cX12_works 5 RX12 none 5 0 0) {f : Nat} {r : MT} : ∀ (n : Nat) (x1 : Int32) (x3 : Int32) (u : MT), B_X12_works_102 f n x1 x3 u = some r → V z g 5 102 [(0, .ref 167), (1, .int x1), (3, .int x3)] [] w u 0 0 (Qv w r) := by
  intro n
  induction n with
  | zero =>
    intro x1 x3 u h
    rw [B_X12_works_102] at h
    cases h
  | succ n ih =>
    intro x1 x3 u h
    rw [B_X12_works_102] at h
    refine Vaload_n C 0 (dAt D_X12_works 55 rfl) rfl rfl ?_
    refine VgetI C (dAt D_X12_works 56 rfl) gf_X12_353 (kt_167 hL) rfl ?_
    refine Viload_n C 1 (dAt D_X12_works 57 rfl) rfl rfl ?_
    refine Vicmp_gt (tgt := 168) C (dAt D_X12_works 58 rfl) (by decide) (fun c18 => ?_) (fun c18 => ?_)
    · have h := ok_t c18 h
      refine Vaload_n C 0 (dAt D_X12_works 88 rfl) rfl rfl ?_
      refine Viload_n C 1 (dAt D_X12_works 89 rfl) rfl rfl ?_
      refine VputI C (dAt D_X12_works 90 rfl) gf_X12_353 (kt_167 hL) rfl rfl rfl rfl ?_
      cases h
      exact Vvret C (dAt D_X12_works 91 rfl) (by decide) (by decide) ⟨rfl, rfl, rfl⟩
    · have h := ok_f c18 h
      refine Vaload_n C 0 (dAt D_X12_works 59 rfl) rfl rfl ?_
      refine Viload_n C 2 (dAt D_X12_works 60 rfl) rfl rfl ?_
      obtain ⟨r20, e21, h⟩ := ok_b h
      refine VcallV (as := [_]) C (dAt D_X12_works 61 rfl) (m_X12_quarterBegins hL e21) yv_X12_356 (Or.inl ⟨(kt_167 hL), by decide⟩) rfl rfl (Nat.le_of_ble_eq_true rfl) (by decide) (by decide) (by decide) (by decide) (Kvoid ?_)
      refine Viconst (x := 0) C (dAt D_X12_works 62 rfl) (by decide) ?_
      refine Vistore (lv' := [(4, _), (0, _), (1, _), (3, _)]) C (dAt D_X12_works 63 rfl) (by decide) rfl ?_
      exact Vsub [1, 2, 3, 0] rfl (w_X12_works_118 hL C ih  f _ _ _ _  h)
def B_X12_works_76 (f : Nat) : Nat → Int32 → Int32 → Int32 → MT → Option MT
  | 0, _, _, _, _ => none
  | n + 1, x1, x3, x4, u =>
    if (14 : Int32) ≤ x4 then
      let u14 := sI u 167 43 (0 : Int32)
      B_X12_works_102 f f x1 x3 u14
    else
      ck (ixo x4 14) <|
      let u16 := sI u 210 (x4).toNatClampNeg (0 : Int32)
      let v17 := x4 + 1
      B_X12_works_76 f n x1 x3 v17 u16
theorem w_X12_works_76 {z : ZT} {g : GT} {w : LT} (hL : Lay w) (C : Cx z g cX12_works 5 RX12 none 5 0 0) {f : Nat} {r : MT} : ∀ (n : Nat) (x1 : Int32) (x3 : Int32) (x4 : Int32) (u : MT), B_X12_works_76 f n x1 x3 x4 u = some r → V z g 5 76 [(0, .ref 167), (1, .int x1), (3, .int x3), (4, .int x4)] [] w u 0 0 (Qv w r) := by
  intro n
  induction n with
  | zero =>
    intro x1 x3 x4 u h
    rw [B_X12_works_76] at h
    cases h
  | succ n ih =>
    intro x1 x3 x4 u h
    rw [B_X12_works_76] at h
    refine Viload C 3 (dAt D_X12_works 42 rfl) rfl ?_
    refine Vbipush (x := 14) C (dAt D_X12_works 43 rfl) (by decide) ?_
    refine Vicmp_ge (tgt := 97) C (dAt D_X12_works 44 rfl) (by decide) (fun c13 => ?_) (fun c13 => ?_)
    · have h := ok_t c13 h
      refine Vaload_n C 0 (dAt D_X12_works 52 rfl) rfl rfl ?_
      refine Viconst (x := 0) C (dAt D_X12_works 53 rfl) (by decide) ?_
      refine VputI C (dAt D_X12_works 54 rfl) gf_X12_353 (kt_167 hL) rfl rfl rfl rfl ?_
      exact Vsub [0, 1, 2] rfl (w_X12_works_102 hL C  f _ _ _  h)
    · have h := ok_f c13 h
      refine Vaload_n C 0 (dAt D_X12_works 45 rfl) rfl rfl ?_
      refine VgetP C (dAt D_X12_works 46 rfl) gf_X12_199 (kt_167 hL) rfl (kp_167_68 hL) ?_
      refine Viload C 3 (dAt D_X12_works 47 rfl) rfl ?_
      refine Viconst (x := 0) C (dAt D_X12_works 48 rfl) (by decide) ?_
      obtain ⟨c15, h⟩ := ok_ck h
      refine Viast C (dAt D_X12_works 49 rfl) (kt_210 hL) (kl_210 hL) (vp_in_iff.mpr c15) ?_
      refine Viinc (j := 3) (v := _ + 1) (lv' := [(4, _), (0, _), (1, _), (3, _)]) C (dAt D_X12_works 50 rfl) rfl rfl (by decide) rfl ?_
      refine Vgoto (tgt := 76) C (dAt D_X12_works 51 rfl) (by decide) ?_
      exact Vsub [1, 2, 3, 0] rfl (ih _ _ _ _  h)
def B_X12_works_36 (f : Nat) : Nat → Int32 → Int32 → Int32 → MT → Option MT
  | 0, _, _, _, _ => none
  | n + 1, x1, x3, x4, u =>
    if (12 : Int32) ≤ x4 then
      B_X12_works_76 f f x1 x3 (0 : Int32) u
    else
      ck (ixo x4 12) <|
      let u9 := sI u 197 (x4).toNatClampNeg (0 : Int32)
      let u10 := sI u9 198 (x4).toNatClampNeg (0 : Int32)
      let u11 := sI u10 207 (x4).toNatClampNeg (0 : Int32)
      let v12 := x4 + 1
      B_X12_works_36 f n x1 x3 v12 u11
theorem w_X12_works_36 {z : ZT} {g : GT} {w : LT} (hL : Lay w) (C : Cx z g cX12_works 5 RX12 none 5 0 0) {f : Nat} {r : MT} : ∀ (n : Nat) (x1 : Int32) (x3 : Int32) (x4 : Int32) (u : MT), B_X12_works_36 f n x1 x3 x4 u = some r → V z g 5 36 [(0, .ref 167), (1, .int x1), (3, .int x3), (4, .int x4)] [] w u 0 0 (Qv w r) := by
  intro n
  induction n with
  | zero =>
    intro x1 x3 x4 u h
    rw [B_X12_works_36] at h
    cases h
  | succ n ih =>
    intro x1 x3 x4 u h
    rw [B_X12_works_36] at h
    refine Viload C 3 (dAt D_X12_works 20 rfl) rfl ?_
    refine Vbipush (x := 12) C (dAt D_X12_works 21 rfl) (by decide) ?_
    refine Vicmp_ge (tgt := 73) C (dAt D_X12_works 22 rfl) (by decide) (fun c7 => ?_) (fun c7 => ?_)
    · have h := ok_t c7 h
      refine Viconst (x := 0) C (dAt D_X12_works 40 rfl) (by decide) ?_
      refine Vistore (lv' := [(4, _), (0, _), (1, _), (3, _)]) C (dAt D_X12_works 41 rfl) (by decide) rfl ?_
      exact Vsub [1, 2, 3, 0] rfl (w_X12_works_76 hL C  f _ _ _ _  h)
    · have h := ok_f c7 h
      refine Vaload_n C 0 (dAt D_X12_works 23 rfl) rfl rfl ?_
      refine VgetP C (dAt D_X12_works 24 rfl) gf_X12_160 (kt_167 hL) rfl (kp_167_48 hL) ?_
      refine Viload C 3 (dAt D_X12_works 25 rfl) rfl ?_
      refine Viconst (x := 0) C (dAt D_X12_works 26 rfl) (by decide) ?_
      obtain ⟨c8, h⟩ := ok_ck h
      refine Viast C (dAt D_X12_works 27 rfl) (kt_197 hL) (kl_197 hL) (vp_in_iff.mpr c8) ?_
      refine Vaload_n C 0 (dAt D_X12_works 28 rfl) rfl rfl ?_
      refine VgetP C (dAt D_X12_works 29 rfl) gf_X12_163 (kt_167 hL) rfl (kp_167_49 hL) ?_
      refine Viload C 3 (dAt D_X12_works 30 rfl) rfl ?_
      refine Viconst (x := 0) C (dAt D_X12_works 31 rfl) (by decide) ?_
      refine Viast C (dAt D_X12_works 32 rfl) (kt_198 hL) (kl_198 hL) (vp_in_iff.mpr c8) ?_
      refine Vaload_n C 0 (dAt D_X12_works 33 rfl) rfl rfl ?_
      refine VgetP C (dAt D_X12_works 34 rfl) gf_X12_190 (kt_167 hL) rfl (kp_167_58 hL) ?_
      refine Viload C 3 (dAt D_X12_works 35 rfl) rfl ?_
      refine Viconst (x := 0) C (dAt D_X12_works 36 rfl) (by decide) ?_
      refine Viast C (dAt D_X12_works 37 rfl) (kt_207 hL) (kl_207 hL) (vp_in_iff.mpr c8) ?_
      refine Viinc (j := 3) (v := _ + 1) (lv' := [(4, _), (0, _), (1, _), (3, _)]) C (dAt D_X12_works 38 rfl) rfl rfl (by decide) rfl ?_
      refine Vgoto (tgt := 36) C (dAt D_X12_works 39 rfl) (by decide) ?_
      exact Vsub [1, 2, 3, 0] rfl (ih _ _ _ _  h)
def B_X12_works_13 (f : Nat) : Nat → Int32 → Int32 → Int32 → MT → Option MT
  | 0, _, _, _, _ => none
  | n + 1, x1, x3, x4, u =>
    if (4 : Int32) ≤ x4 then
      B_X12_works_36 f f x1 x3 (0 : Int32) u
    else
      ck (ixo x4 4) <|
      let u5 := sI u 196 (x4).toNatClampNeg (0 : Int32)
      let v6 := x4 + 1
      B_X12_works_13 f n x1 x3 v6 u5
theorem w_X12_works_13 {z : ZT} {g : GT} {w : LT} (hL : Lay w) (C : Cx z g cX12_works 5 RX12 none 5 0 0) {f : Nat} {r : MT} : ∀ (n : Nat) (x1 : Int32) (x3 : Int32) (x4 : Int32) (u : MT), B_X12_works_13 f n x1 x3 x4 u = some r → V z g 5 13 [(0, .ref 167), (1, .int x1), (3, .int x3), (4, .int x4)] [] w u 0 0 (Qv w r) := by
  intro n
  induction n with
  | zero =>
    intro x1 x3 x4 u h
    rw [B_X12_works_13] at h
    cases h
  | succ n ih =>
    intro x1 x3 x4 u h
    rw [B_X12_works_13] at h
    refine Viload C 3 (dAt D_X12_works 8 rfl) rfl ?_
    refine Viconst (x := 4) C (dAt D_X12_works 9 rfl) (by decide) ?_
    refine Vicmp_ge (tgt := 33) C (dAt D_X12_works 10 rfl) (by decide) (fun c3 => ?_) (fun c3 => ?_)
    · have h := ok_t c3 h
      refine Viconst (x := 0) C (dAt D_X12_works 18 rfl) (by decide) ?_
      refine Vistore (lv' := [(4, _), (0, _), (1, _), (3, _)]) C (dAt D_X12_works 19 rfl) (by decide) rfl ?_
      exact Vsub [1, 2, 3, 0] rfl (w_X12_works_36 hL C  f _ _ _ _  h)
    · have h := ok_f c3 h
      refine Vaload_n C 0 (dAt D_X12_works 11 rfl) rfl rfl ?_
      refine VgetP C (dAt D_X12_works 12 rfl) gf_X12_157 (kt_167 hL) rfl (kp_167_47 hL) ?_
      refine Viload C 3 (dAt D_X12_works 13 rfl) rfl ?_
      refine Viconst (x := 0) C (dAt D_X12_works 14 rfl) (by decide) ?_
      obtain ⟨c4, h⟩ := ok_ck h
      refine Viast C (dAt D_X12_works 15 rfl) (kt_196 hL) (kl_196 hL) (vp_in_iff.mpr c4) ?_
      refine Viinc (j := 3) (v := _ + 1) (lv' := [(4, _), (0, _), (1, _), (3, _)]) C (dAt D_X12_works 16 rfl) rfl rfl (by decide) rfl ?_
      refine Vgoto (tgt := 13) C (dAt D_X12_works 17 rfl) (by decide) ?_
      exact Vsub [1, 2, 3, 0] rfl (ih _ _ _ _  h)
def F_X12_works (f : Nat) (x1 : Int32) (x2 : Int32) (x3 : Int32) (u : MT) : Option MT :=
  let u1 := sI u 167 42 x2
  let u2 := sI u1 167 45 (0 : Int32)
  B_X12_works_13 f f x1 x3 (0 : Int32) u2
theorem m_X12_works {g : GT} {w : LT} (hL : Lay w) {x1 : Int32} {x2 : Int32} {x3 : Int32} {f : Nat} {u : MT} {r : MT} (h : F_X12_works f x1 x2 x3 u = some r) : Mt g yX12_works cX12_works 5 none 5 0 0 [.ref 167, .int x1, .int x2, .int x3] w u (Qv w r) := by
  refine Mt_of (own := RX12) (by decide +kernel) rfl (Nat.le_of_ble_eq_true rfl) (fun z C _ => ?_)
  show V z g 5 0 [(0, .ref 167), (1, .int x1), (2, .int x2), (3, .int x3)] [] w u 0 0 (Qv w r)
  rw [F_X12_works] at h
  refine Vaload_n C 0 (dAt D_X12_works 0 rfl) rfl rfl ?_
  refine Viload_n C 2 (dAt D_X12_works 1 rfl) rfl rfl ?_
  refine VputI C (dAt D_X12_works 2 rfl) gf_X12_347 (kt_167 hL) rfl rfl rfl rfl ?_
  refine Vaload_n C 0 (dAt D_X12_works 3 rfl) rfl rfl ?_
  refine Viconst (x := 0) C (dAt D_X12_works 4 rfl) (by decide) ?_
  refine VputI C (dAt D_X12_works 5 rfl) gf_X12_350 (kt_167 hL) rfl rfl rfl rfl ?_
  refine Viconst (x := 0) C (dAt D_X12_works 6 rfl) (by decide) ?_
  refine Vistore (lv' := [(4, _), (0, _), (1, _), (2, _), (3, _)]) C (dAt D_X12_works 7 rfl) (by decide) rfl ?_
  exact Vsub [1, 2, 4, 0] rfl (w_X12_works_13 hL C  f _ _ _ _  h)
def F_X12_lookDay (f : Nat) (u : MT) : Option (Int32 × MT) :=
  if 0 ≤ (gI u 167 41) then
    some ((gI u 167 41), u)
  else
    some ((gI u 167 40), u)
theorem m_X12_lookDay {g : GT} {w : LT} (hL : Lay w) {f : Nat} {u : MT} {r : (Int32 × MT)} (h : F_X12_lookDay f  u = some r) : Mt g yX12_lookDay cX12_lookDay 1 (some .int) 0 0 0 [.ref 167] w u (Qi r.1 w r.2) := by
  refine Mt_of (own := RX12) (by decide +kernel) rfl (Nat.le_of_ble_eq_true rfl) (fun z C _ => ?_)
  show V z g 1 0 [(0, .ref 167)] [] w u 0 0 (Qi r.1 w r.2)
  rw [F_X12_lookDay] at h
  refine Vaload_n C 0 (dAt D_X12_lookDay 0 rfl) rfl rfl ?_
  refine VgetI C (dAt D_X12_lookDay 1 rfl) gf_X12_154 (kt_167 hL) rfl ?_
  refine Vif_ge (tgt := 14) C (dAt D_X12_lookDay 2 rfl) (by decide) (fun c1 => ?_) (fun c1 => ?_)
  · have h := ok_t c1 h
    refine Vaload_n C 0 (dAt D_X12_lookDay 6 rfl) rfl rfl ?_
    refine VgetI C (dAt D_X12_lookDay 7 rfl) gf_X12_154 (kt_167 hL) rfl ?_
    cases h
    exact Viret C (dAt D_X12_lookDay 8 rfl) (by decide) (by decide) ⟨rfl, rfl, rfl⟩
  · have h := ok_f c1 h
    refine Vaload_n C 0 (dAt D_X12_lookDay 3 rfl) rfl rfl ?_
    refine VgetI C (dAt D_X12_lookDay 4 rfl) gf_X12_337 (kt_167 hL) rfl ?_
    refine Vgoto (tgt := 18) C (dAt D_X12_lookDay 5 rfl) (by decide) ?_
    cases h
    exact Viret C (dAt D_X12_lookDay 8 rfl) (by decide) (by decide) ⟨rfl, rfl, rfl⟩
def B_X12_had_39 (f : Nat) (x1 : Int32) (x2 : Int32) (x3 : Int32) (s0 : Int32) (u : MT) : Option (Int32 × MT) :=
  let u7 := sI u 167 0 s0
  if (gI u7 167 0) ≤ 0 then
    (F_X12_lookDay f u7).bind fun r9 =>
    (F_X12_works f x2 r9.1 (0 : Int32) r9.2).bind fun r11 =>
    if x3 = 0 then
      ck (ixo x1 12) <|
      some ((gI r11 197 (x1).toNatClampNeg), r11)
    else
    if x3 = 1 then
      ck (ixo x1 12) <|
      some ((gI r11 198 (x1).toNatClampNeg), r11)
    else
    if x3 = 2 then
      ck (ixo x1 12) <|
      some ((gI r11 200 (x1).toNatClampNeg), r11)
    else
    if x3 = 3 then
      ck (ixo x1 12) <|
      some ((gI r11 204 (x1).toNatClampNeg), r11)
    else
    if x3 = 4 then
      ck (ixo x1 12) <|
      some ((gI r11 205 (x1).toNatClampNeg), r11)
    else
    if x3 = 5 then
      ck (ixo x1 12) <|
      some ((gI r11 206 (x1).toNatClampNeg), r11)
    else
    if x3 = 6 then
      ck (ixo x1 12) <|
      some ((gI r11 201 (x1).toNatClampNeg), r11)
    else
    if x3 = 7 then
      ck (ixo x1 12) <|
      some ((gI r11 199 (x1).toNatClampNeg), r11)
    else
    ck (ixo x1 12) <|
    some ((gI r11 208 (x1).toNatClampNeg), r11)
  else
    some ((0 : Int32), u7)
theorem w_X12_had_39 {z : ZT} {g : GT} {w : LT} (hL : Lay w) (C : Cx z g cX12_had 4 RX12 (some .int) 6 0 0) {f : Nat} {r : (Int32 × MT)} {x1 : Int32} {x2 : Int32} {x3 : Int32} {s0 : Int32} {u : MT} (h : B_X12_had_39 f x1 x2 x3 s0 u = some r) : V z g 4 39 [(0, .ref 167), (1, .int x1), (2, .int x2), (3, .int x3)] [.int s0, .ref 167] w u 0 0 (Qi r.1 w r.2) := by
  rw [B_X12_had_39] at h
  refine VputI C (dAt D_X12_had 20 rfl) gf_X12_1 (kt_167 hL) rfl rfl rfl rfl ?_
  refine Vaload_n C 0 (dAt D_X12_had 21 rfl) rfl rfl ?_
  refine VgetI C (dAt D_X12_had 22 rfl) gf_X12_1 (kt_167 hL) rfl ?_
  refine Vif_le (tgt := 51) C (dAt D_X12_had 23 rfl) (by decide) (fun c8 => ?_) (fun c8 => ?_)
  · have h := ok_t c8 h
    refine Vaload_n C 0 (dAt D_X12_had 26 rfl) rfl rfl ?_
    refine Viload_n C 2 (dAt D_X12_had 27 rfl) rfl rfl ?_
    refine Vaload_n C 0 (dAt D_X12_had 28 rfl) rfl rfl ?_
    obtain ⟨r9, e10, h⟩ := ok_b h
    refine VcallV (as := []) C (dAt D_X12_had 29 rfl) (m_X12_lookDay hL e10) yv_X12_424 (Or.inl ⟨(kt_167 hL), by decide⟩) rfl rfl (Nat.le_of_ble_eq_true rfl) (by decide) (by decide) (by decide) (by decide) (Kint ?_)
    refine Viconst (x := 0) C (dAt D_X12_had 30 rfl) (by decide) ?_
    obtain ⟨r11, e12, h⟩ := ok_b h
    refine VcallV (as := [_, _, _]) C (dAt D_X12_had 31 rfl) (m_X12_works hL e12) yv_X12_427 (Or.inl ⟨(kt_167 hL), by decide⟩) rfl rfl (Nat.le_of_ble_eq_true rfl) (by decide) (by decide) (by decide) (by decide) (Kvoid ?_)
    refine Viload_n C 3 (dAt D_X12_had 32 rfl) rfl rfl ?_
    by_cases c13 : x3 = 0
    · have h := ok_t c13 h
      refine VtableIn (off := 46) (tgt := 108) C (dAt D_X12_had 33 rfl) (by rw [c13]; decide) (by rw [c13]; decide) (by rw [c13]; rfl) (by decide) ?_
      refine Vaload_n C 0 (dAt D_X12_had 34 rfl) rfl rfl ?_
      refine VgetP C (dAt D_X12_had 35 rfl) gf_X12_160 (kt_167 hL) rfl (kp_167_48 hL) ?_
      refine Viload_n C 1 (dAt D_X12_had 36 rfl) rfl rfl ?_
      obtain ⟨c14, h⟩ := ok_ck h
      refine Viald C (dAt D_X12_had 37 rfl) (kt_197 hL) (kl_197 hL) (vp_in_iff.mpr c14) ?_
      cases h
      exact Viret C (dAt D_X12_had 38 rfl) (by decide) (by decide) ⟨rfl, rfl, rfl⟩
    have h := ok_f c13 h
    by_cases c15 : x3 = 1
    · have h := ok_t c15 h
      refine VtableIn (off := 53) (tgt := 115) C (dAt D_X12_had 33 rfl) (by rw [c15]; decide) (by rw [c15]; decide) (by rw [c15]; rfl) (by decide) ?_
      refine Vaload_n C 0 (dAt D_X12_had 39 rfl) rfl rfl ?_
      refine VgetP C (dAt D_X12_had 40 rfl) gf_X12_163 (kt_167 hL) rfl (kp_167_49 hL) ?_
      refine Viload_n C 1 (dAt D_X12_had 41 rfl) rfl rfl ?_
      obtain ⟨c16, h⟩ := ok_ck h
      refine Viald C (dAt D_X12_had 42 rfl) (kt_198 hL) (kl_198 hL) (vp_in_iff.mpr c16) ?_
      cases h
      exact Viret C (dAt D_X12_had 43 rfl) (by decide) (by decide) ⟨rfl, rfl, rfl⟩
    have h := ok_f c15 h
    by_cases c17 : x3 = 2
    · have h := ok_t c17 h
      refine VtableIn (off := 60) (tgt := 122) C (dAt D_X12_had 33 rfl) (by rw [c17]; decide) (by rw [c17]; decide) (by rw [c17]; rfl) (by decide) ?_
      refine Vaload_n C 0 (dAt D_X12_had 44 rfl) rfl rfl ?_
      refine VgetP C (dAt D_X12_had 45 rfl) gf_X12_169 (kt_167 hL) rfl (kp_167_51 hL) ?_
      refine Viload_n C 1 (dAt D_X12_had 46 rfl) rfl rfl ?_
      obtain ⟨c18, h⟩ := ok_ck h
      refine Viald C (dAt D_X12_had 47 rfl) (kt_200 hL) (kl_200 hL) (vp_in_iff.mpr c18) ?_
      cases h
      exact Viret C (dAt D_X12_had 48 rfl) (by decide) (by decide) ⟨rfl, rfl, rfl⟩
    have h := ok_f c17 h
    by_cases c19 : x3 = 3
    · have h := ok_t c19 h
      refine VtableIn (off := 67) (tgt := 129) C (dAt D_X12_had 33 rfl) (by rw [c19]; decide) (by rw [c19]; decide) (by rw [c19]; rfl) (by decide) ?_
      refine Vaload_n C 0 (dAt D_X12_had 49 rfl) rfl rfl ?_
      refine VgetP C (dAt D_X12_had 50 rfl) gf_X12_181 (kt_167 hL) rfl (kp_167_55 hL) ?_
      refine Viload_n C 1 (dAt D_X12_had 51 rfl) rfl rfl ?_
      obtain ⟨c20, h⟩ := ok_ck h
      refine Viald C (dAt D_X12_had 52 rfl) (kt_204 hL) (kl_204 hL) (vp_in_iff.mpr c20) ?_
      cases h
      exact Viret C (dAt D_X12_had 53 rfl) (by decide) (by decide) ⟨rfl, rfl, rfl⟩
    have h := ok_f c19 h
    by_cases c21 : x3 = 4
    · have h := ok_t c21 h
      refine VtableIn (off := 74) (tgt := 136) C (dAt D_X12_had 33 rfl) (by rw [c21]; decide) (by rw [c21]; decide) (by rw [c21]; rfl) (by decide) ?_
      refine Vaload_n C 0 (dAt D_X12_had 54 rfl) rfl rfl ?_
      refine VgetP C (dAt D_X12_had 55 rfl) gf_X12_184 (kt_167 hL) rfl (kp_167_56 hL) ?_
      refine Viload_n C 1 (dAt D_X12_had 56 rfl) rfl rfl ?_
      obtain ⟨c22, h⟩ := ok_ck h
      refine Viald C (dAt D_X12_had 57 rfl) (kt_205 hL) (kl_205 hL) (vp_in_iff.mpr c22) ?_
      cases h
      exact Viret C (dAt D_X12_had 58 rfl) (by decide) (by decide) ⟨rfl, rfl, rfl⟩
    have h := ok_f c21 h
    by_cases c23 : x3 = 5
    · have h := ok_t c23 h
      refine VtableIn (off := 81) (tgt := 143) C (dAt D_X12_had 33 rfl) (by rw [c23]; decide) (by rw [c23]; decide) (by rw [c23]; rfl) (by decide) ?_
      refine Vaload_n C 0 (dAt D_X12_had 59 rfl) rfl rfl ?_
      refine VgetP C (dAt D_X12_had 60 rfl) gf_X12_187 (kt_167 hL) rfl (kp_167_57 hL) ?_
      refine Viload_n C 1 (dAt D_X12_had 61 rfl) rfl rfl ?_
      obtain ⟨c24, h⟩ := ok_ck h
      refine Viald C (dAt D_X12_had 62 rfl) (kt_206 hL) (kl_206 hL) (vp_in_iff.mpr c24) ?_
      cases h
      exact Viret C (dAt D_X12_had 63 rfl) (by decide) (by decide) ⟨rfl, rfl, rfl⟩
    have h := ok_f c23 h
    by_cases c25 : x3 = 6
    · have h := ok_t c25 h
      refine VtableIn (off := 88) (tgt := 150) C (dAt D_X12_had 33 rfl) (by rw [c25]; decide) (by rw [c25]; decide) (by rw [c25]; rfl) (by decide) ?_
      refine Vaload_n C 0 (dAt D_X12_had 64 rfl) rfl rfl ?_
      refine VgetP C (dAt D_X12_had 65 rfl) gf_X12_172 (kt_167 hL) rfl (kp_167_52 hL) ?_
      refine Viload_n C 1 (dAt D_X12_had 66 rfl) rfl rfl ?_
      obtain ⟨c26, h⟩ := ok_ck h
      refine Viald C (dAt D_X12_had 67 rfl) (kt_201 hL) (kl_201 hL) (vp_in_iff.mpr c26) ?_
      cases h
      exact Viret C (dAt D_X12_had 68 rfl) (by decide) (by decide) ⟨rfl, rfl, rfl⟩
    have h := ok_f c25 h
    by_cases c27 : x3 = 7
    · have h := ok_t c27 h
      refine VtableIn (off := 95) (tgt := 157) C (dAt D_X12_had 33 rfl) (by rw [c27]; decide) (by rw [c27]; decide) (by rw [c27]; rfl) (by decide) ?_
      refine Vaload_n C 0 (dAt D_X12_had 69 rfl) rfl rfl ?_
      refine VgetP C (dAt D_X12_had 70 rfl) gf_X12_166 (kt_167 hL) rfl (kp_167_50 hL) ?_
      refine Viload_n C 1 (dAt D_X12_had 71 rfl) rfl rfl ?_
      obtain ⟨c28, h⟩ := ok_ck h
      refine Viald C (dAt D_X12_had 72 rfl) (kt_199 hL) (kl_199 hL) (vp_in_iff.mpr c28) ?_
      cases h
      exact Viret C (dAt D_X12_had 73 rfl) (by decide) (by decide) ⟨rfl, rfl, rfl⟩
    have h := ok_f c27 h
    have qc13 : (x3).toInt ≠ 0 := fun q => c13 (Int32.toInt_inj.mp (q.trans (by decide)))
    have qc15 : (x3).toInt ≠ 1 := fun q => c15 (Int32.toInt_inj.mp (q.trans (by decide)))
    have qc17 : (x3).toInt ≠ 2 := fun q => c17 (Int32.toInt_inj.mp (q.trans (by decide)))
    have qc19 : (x3).toInt ≠ 3 := fun q => c19 (Int32.toInt_inj.mp (q.trans (by decide)))
    have qc21 : (x3).toInt ≠ 4 := fun q => c21 (Int32.toInt_inj.mp (q.trans (by decide)))
    have qc23 : (x3).toInt ≠ 5 := fun q => c23 (Int32.toInt_inj.mp (q.trans (by decide)))
    have qc25 : (x3).toInt ≠ 6 := fun q => c25 (Int32.toInt_inj.mp (q.trans (by decide)))
    have qc27 : (x3).toInt ≠ 7 := fun q => c27 (Int32.toInt_inj.mp (q.trans (by decide)))
    refine VtableOut (tgt := 164) C (dAt D_X12_had 33 rfl) (by omega) (by decide) ?_
    refine Vaload_n C 0 (dAt D_X12_had 74 rfl) rfl rfl ?_
    refine VgetP C (dAt D_X12_had 75 rfl) gf_X12_193 (kt_167 hL) rfl (kp_167_59 hL) ?_
    refine Viload_n C 1 (dAt D_X12_had 76 rfl) rfl rfl ?_
    obtain ⟨c29, h⟩ := ok_ck h
    refine Viald C (dAt D_X12_had 77 rfl) (kt_208 hL) (kl_208 hL) (vp_in_iff.mpr c29) ?_
    cases h
    exact Viret C (dAt D_X12_had 78 rfl) (by decide) (by decide) ⟨rfl, rfl, rfl⟩
  · have h := ok_f c8 h
    refine Viconst (x := 0) C (dAt D_X12_had 24 rfl) (by decide) ?_
    cases h
    exact Viret C (dAt D_X12_had 25 rfl) (by decide) (by decide) ⟨rfl, rfl, rfl⟩
def B_X12_had_38 (f : Nat) (x1 : Int32) (x2 : Int32) (x3 : Int32) (u : MT) : Option (Int32 × MT) :=
  B_X12_had_39 f x1 x2 x3 (1 : Int32) u
theorem w_X12_had_38 {z : ZT} {g : GT} {w : LT} (hL : Lay w) (C : Cx z g cX12_had 4 RX12 (some .int) 6 0 0) {f : Nat} {r : (Int32 × MT)} {x1 : Int32} {x2 : Int32} {x3 : Int32} {u : MT} (h : B_X12_had_38 f x1 x2 x3 u = some r) : V z g 4 38 [(0, .ref 167), (1, .int x1), (2, .int x2), (3, .int x3)] [.ref 167] w u 0 0 (Qi r.1 w r.2) := by
  rw [B_X12_had_38] at h
  refine Viconst (x := 1) C (dAt D_X12_had 19 rfl) (by decide) ?_
  exact Vsub [0, 1, 2, 3] rfl (w_X12_had_39 hL C  h)
def F_X12_had (f : Nat) (x1 : Int32) (x2 : Int32) (x3 : Int32) (u : MT) : Option (Int32 × MT) :=
  if x1 < 0 then
    B_X12_had_38 f x1 x2 x3 u
  else
    if (gI u 167 31) ≤ x1 then
      B_X12_had_38 f x1 x2 x3 u
    else
      if x2 < 0 then
        B_X12_had_38 f x1 x2 x3 u
      else
        if (239 : Int32) < x2 then
          B_X12_had_38 f x1 x2 x3 u
        else
          if x3 < 0 then
            B_X12_had_38 f x1 x2 x3 u
          else
            if (8 : Int32) < x3 then
              B_X12_had_38 f x1 x2 x3 u
            else
              B_X12_had_39 f x1 x2 x3 (0 : Int32) u
theorem m_X12_had {g : GT} {w : LT} (hL : Lay w) {x1 : Int32} {x2 : Int32} {x3 : Int32} {f : Nat} {u : MT} {r : (Int32 × MT)} (h : F_X12_had f x1 x2 x3 u = some r) : Mt g yX12_had cX12_had 4 (some .int) 6 0 0 [.ref 167, .int x1, .int x2, .int x3] w u (Qi r.1 w r.2) := by
  refine Mt_of (own := RX12) (by decide +kernel) rfl (Nat.le_of_ble_eq_true rfl) (fun z C _ => ?_)
  show V z g 4 0 [(0, .ref 167), (1, .int x1), (2, .int x2), (3, .int x3)] [] w u 0 0 (Qi r.1 w r.2)
  rw [F_X12_had] at h
  refine Vaload_n C 0 (dAt D_X12_had 0 rfl) rfl rfl ?_
  refine Viload_n C 1 (dAt D_X12_had 1 rfl) rfl rfl ?_
  refine Vif_lt (tgt := 38) C (dAt D_X12_had 2 rfl) (by decide) (fun c1 => ?_) (fun c1 => ?_)
  · have h := ok_t c1 h
    exact Vsub [0, 1, 2, 3] rfl (w_X12_had_38 hL C  h)
  · have h := ok_f c1 h
    refine Viload_n C 1 (dAt D_X12_had 3 rfl) rfl rfl ?_
    refine Vaload_n C 0 (dAt D_X12_had 4 rfl) rfl rfl ?_
    refine VgetI C (dAt D_X12_had 5 rfl) gf_X12_300 (kt_167 hL) rfl ?_
    refine Vicmp_ge (tgt := 38) C (dAt D_X12_had 6 rfl) (by decide) (fun c2 => ?_) (fun c2 => ?_)
    · have h := ok_t c2 h
      exact Vsub [0, 1, 2, 3] rfl (w_X12_had_38 hL C  h)
    · have h := ok_f c2 h
      refine Viload_n C 2 (dAt D_X12_had 7 rfl) rfl rfl ?_
      refine Vif_lt (tgt := 38) C (dAt D_X12_had 8 rfl) (by decide) (fun c3 => ?_) (fun c3 => ?_)
      · have h := ok_t c3 h
        exact Vsub [0, 1, 2, 3] rfl (w_X12_had_38 hL C  h)
      · have h := ok_f c3 h
        refine Viload_n C 2 (dAt D_X12_had 9 rfl) rfl rfl ?_
        refine Vsipush (x := 239) C (dAt D_X12_had 10 rfl) (by decide) ?_
        refine Vicmp_gt (tgt := 38) C (dAt D_X12_had 11 rfl) (by decide) (fun c4 => ?_) (fun c4 => ?_)
        · have h := ok_t c4 h
          exact Vsub [0, 1, 2, 3] rfl (w_X12_had_38 hL C  h)
        · have h := ok_f c4 h
          refine Viload_n C 3 (dAt D_X12_had 12 rfl) rfl rfl ?_
          refine Vif_lt (tgt := 38) C (dAt D_X12_had 13 rfl) (by decide) (fun c5 => ?_) (fun c5 => ?_)
          · have h := ok_t c5 h
            exact Vsub [0, 1, 2, 3] rfl (w_X12_had_38 hL C  h)
          · have h := ok_f c5 h
            refine Viload_n C 3 (dAt D_X12_had 14 rfl) rfl rfl ?_
            refine Vbipush (x := 8) C (dAt D_X12_had 15 rfl) (by decide) ?_
            refine Vicmp_gt (tgt := 38) C (dAt D_X12_had 16 rfl) (by decide) (fun c6 => ?_) (fun c6 => ?_)
            · have h := ok_t c6 h
              exact Vsub [0, 1, 2, 3] rfl (w_X12_had_38 hL C  h)
            · have h := ok_f c6 h
              refine Viconst (x := 0) C (dAt D_X12_had 17 rfl) (by decide) ?_
              refine Vgoto (tgt := 39) C (dAt D_X12_had 18 rfl) (by decide) ?_
              exact Vsub [0, 1, 2, 3] rfl (w_X12_had_39 hL C  h)
def B_X12_quarter_57 (f : Nat) : Nat → Int32 → Int32 → Int32 → Int32 → MT → Option (Int32 × MT)
  | 0, _, _, _, _, _ => none
  | n + 1, x2, x3, x4, x5, u =>
    if (gI u 167 31) ≤ x5 then
      if x2 = 0 then
        some ((gI u 167 60), u)
      else
      if x2 = 1 then
        some (x3, u)
      else
      if x2 = 2 then
        some ((gI u 167 61), u)
      else
      if x2 = 3 then
        some ((gI u 167 64), u)
      else
      if x2 = 4 then
        some ((gI u 167 45), u)
      else
      if x2 = 5 then
        some ((gI u 167 62), u)
      else
      if x2 = 6 then
        some ((gI u 167 63), u)
      else
      if x2 = 7 then
        some (x4, u)
      else
      if x2 = 8 then
        some ((gI u 167 65), u)
      else
      if x2 = 9 then
        some ((gI u 167 66), u)
      else
      ck (ixo (x2 - (10 : Int32)) 4) <|
      some ((gI u 196 ((x2 - (10 : Int32))).toNatClampNeg), u)
    else
      ck (ixo x5 12) <|
      let v24 := (x3 + (gI u 204 (x5).toNatClampNeg))
      let v25 := (x4 + (gI u 201 (x5).toNatClampNeg))
      let v26 := x5 + 1
      B_X12_quarter_57 f n x2 v24 v25 v26 u
theorem w_X12_quarter_57 {z : ZT} {g : GT} {w : LT} (hL : Lay w) (C : Cx z g cX12_quarter 6 RX12 (some .int) 6 0 0) {f : Nat} {r : (Int32 × MT)} : ∀ (n : Nat) (x2 : Int32) (x3 : Int32) (x4 : Int32) (x5 : Int32) (u : MT), B_X12_quarter_57 f n x2 x3 x4 x5 u = some r → V z g 6 57 [(0, .ref 167), (2, .int x2), (3, .int x3), (4, .int x4), (5, .int x5)] [] w u 0 0 (Qi r.1 w r.2) := by
  intro n
  induction n with
  | zero =>
    intro x2 x3 x4 x5 u h
    rw [B_X12_quarter_57] at h
    cases h
  | succ n ih =>
    intro x2 x3 x4 x5 u h
    rw [B_X12_quarter_57] at h
    refine Viload C 4 (dAt D_X12_quarter 32 rfl) rfl ?_
    refine Vaload_n C 0 (dAt D_X12_quarter 33 rfl) rfl rfl ?_
    refine VgetI C (dAt D_X12_quarter 34 rfl) gf_X12_300 (kt_167 hL) rfl ?_
    refine Vicmp_ge (tgt := 94) C (dAt D_X12_quarter 35 rfl) (by decide) (fun c11 => ?_) (fun c11 => ?_)
    · have h := ok_t c11 h
      refine Viload_n C 1 (dAt D_X12_quarter 52 rfl) rfl rfl ?_
      by_cases c12 : x2 = 0
      · have h := ok_t c12 h
        refine VtableIn (off := 53) (tgt := 148) C (dAt D_X12_quarter 53 rfl) (by rw [c12]; decide) (by rw [c12]; decide) (by rw [c12]; rfl) (by decide) ?_
        refine Vaload_n C 0 (dAt D_X12_quarter 54 rfl) rfl rfl ?_
        refine VgetI C (dAt D_X12_quarter 55 rfl) gf_X12_375 (kt_167 hL) rfl ?_
        cases h
        exact Viret C (dAt D_X12_quarter 56 rfl) (by decide) (by decide) ⟨rfl, rfl, rfl⟩
      have h := ok_f c12 h
      by_cases c13 : x2 = 1
      · have h := ok_t c13 h
        refine VtableIn (off := 58) (tgt := 153) C (dAt D_X12_quarter 53 rfl) (by rw [c13]; decide) (by rw [c13]; decide) (by rw [c13]; rfl) (by decide) ?_
        refine Viload_n C 2 (dAt D_X12_quarter 57 rfl) rfl rfl ?_
        cases h
        exact Viret C (dAt D_X12_quarter 58 rfl) (by decide) (by decide) ⟨rfl, rfl, rfl⟩
      have h := ok_f c13 h
      by_cases c14 : x2 = 2
      · have h := ok_t c14 h
        refine VtableIn (off := 60) (tgt := 155) C (dAt D_X12_quarter 53 rfl) (by rw [c14]; decide) (by rw [c14]; decide) (by rw [c14]; rfl) (by decide) ?_
        refine Vaload_n C 0 (dAt D_X12_quarter 59 rfl) rfl rfl ?_
        refine VgetI C (dAt D_X12_quarter 60 rfl) gf_X12_372 (kt_167 hL) rfl ?_
        cases h
        exact Viret C (dAt D_X12_quarter 61 rfl) (by decide) (by decide) ⟨rfl, rfl, rfl⟩
      have h := ok_f c14 h
      by_cases c15 : x2 = 3
      · have h := ok_t c15 h
        refine VtableIn (off := 65) (tgt := 160) C (dAt D_X12_quarter 53 rfl) (by rw [c15]; decide) (by rw [c15]; decide) (by rw [c15]; rfl) (by decide) ?_
        refine Vaload_n C 0 (dAt D_X12_quarter 62 rfl) rfl rfl ?_
        refine VgetI C (dAt D_X12_quarter 63 rfl) gf_X12_381 (kt_167 hL) rfl ?_
        cases h
        exact Viret C (dAt D_X12_quarter 64 rfl) (by decide) (by decide) ⟨rfl, rfl, rfl⟩
      have h := ok_f c15 h
      by_cases c16 : x2 = 4
      · have h := ok_t c16 h
        refine VtableIn (off := 70) (tgt := 165) C (dAt D_X12_quarter 53 rfl) (by rw [c16]; decide) (by rw [c16]; decide) (by rw [c16]; rfl) (by decide) ?_
        refine Vaload_n C 0 (dAt D_X12_quarter 65 rfl) rfl rfl ?_
        refine VgetI C (dAt D_X12_quarter 66 rfl) gf_X12_350 (kt_167 hL) rfl ?_
        cases h
        exact Viret C (dAt D_X12_quarter 67 rfl) (by decide) (by decide) ⟨rfl, rfl, rfl⟩
      have h := ok_f c16 h
      by_cases c17 : x2 = 5
      · have h := ok_t c17 h
        refine VtableIn (off := 75) (tgt := 170) C (dAt D_X12_quarter 53 rfl) (by rw [c17]; decide) (by rw [c17]; decide) (by rw [c17]; rfl) (by decide) ?_
        refine Vaload_n C 0 (dAt D_X12_quarter 68 rfl) rfl rfl ?_
        refine VgetI C (dAt D_X12_quarter 69 rfl) gf_X12_392 (kt_167 hL) rfl ?_
        cases h
        exact Viret C (dAt D_X12_quarter 70 rfl) (by decide) (by decide) ⟨rfl, rfl, rfl⟩
      have h := ok_f c17 h
      by_cases c18 : x2 = 6
      · have h := ok_t c18 h
        refine VtableIn (off := 80) (tgt := 175) C (dAt D_X12_quarter 53 rfl) (by rw [c18]; decide) (by rw [c18]; decide) (by rw [c18]; rfl) (by decide) ?_
        refine Vaload_n C 0 (dAt D_X12_quarter 71 rfl) rfl rfl ?_
        refine VgetI C (dAt D_X12_quarter 72 rfl) gf_X12_378 (kt_167 hL) rfl ?_
        cases h
        exact Viret C (dAt D_X12_quarter 73 rfl) (by decide) (by decide) ⟨rfl, rfl, rfl⟩
      have h := ok_f c18 h
      by_cases c19 : x2 = 7
      · have h := ok_t c19 h
        refine VtableIn (off := 85) (tgt := 180) C (dAt D_X12_quarter 53 rfl) (by rw [c19]; decide) (by rw [c19]; decide) (by rw [c19]; rfl) (by decide) ?_
        refine Viload C 3 (dAt D_X12_quarter 74 rfl) rfl ?_
        cases h
        exact Viret C (dAt D_X12_quarter 75 rfl) (by decide) (by decide) ⟨rfl, rfl, rfl⟩
      have h := ok_f c19 h
      by_cases c20 : x2 = 8
      · have h := ok_t c20 h
        refine VtableIn (off := 88) (tgt := 183) C (dAt D_X12_quarter 53 rfl) (by rw [c20]; decide) (by rw [c20]; decide) (by rw [c20]; rfl) (by decide) ?_
        refine Vaload_n C 0 (dAt D_X12_quarter 76 rfl) rfl rfl ?_
        refine VgetI C (dAt D_X12_quarter 77 rfl) gf_X12_384 (kt_167 hL) rfl ?_
        cases h
        exact Viret C (dAt D_X12_quarter 78 rfl) (by decide) (by decide) ⟨rfl, rfl, rfl⟩
      have h := ok_f c20 h
      by_cases c21 : x2 = 9
      · have h := ok_t c21 h
        refine VtableIn (off := 93) (tgt := 188) C (dAt D_X12_quarter 53 rfl) (by rw [c21]; decide) (by rw [c21]; decide) (by rw [c21]; rfl) (by decide) ?_
        refine Vaload_n C 0 (dAt D_X12_quarter 79 rfl) rfl rfl ?_
        refine VgetI C (dAt D_X12_quarter 80 rfl) gf_X12_387 (kt_167 hL) rfl ?_
        cases h
        exact Viret C (dAt D_X12_quarter 81 rfl) (by decide) (by decide) ⟨rfl, rfl, rfl⟩
      have h := ok_f c21 h
      have qc12 : (x2).toInt ≠ 0 := fun q => c12 (Int32.toInt_inj.mp (q.trans (by decide)))
      have qc13 : (x2).toInt ≠ 1 := fun q => c13 (Int32.toInt_inj.mp (q.trans (by decide)))
      have qc14 : (x2).toInt ≠ 2 := fun q => c14 (Int32.toInt_inj.mp (q.trans (by decide)))
      have qc15 : (x2).toInt ≠ 3 := fun q => c15 (Int32.toInt_inj.mp (q.trans (by decide)))
      have qc16 : (x2).toInt ≠ 4 := fun q => c16 (Int32.toInt_inj.mp (q.trans (by decide)))
      have qc17 : (x2).toInt ≠ 5 := fun q => c17 (Int32.toInt_inj.mp (q.trans (by decide)))
      have qc18 : (x2).toInt ≠ 6 := fun q => c18 (Int32.toInt_inj.mp (q.trans (by decide)))
      have qc19 : (x2).toInt ≠ 7 := fun q => c19 (Int32.toInt_inj.mp (q.trans (by decide)))
      have qc20 : (x2).toInt ≠ 8 := fun q => c20 (Int32.toInt_inj.mp (q.trans (by decide)))
      have qc21 : (x2).toInt ≠ 9 := fun q => c21 (Int32.toInt_inj.mp (q.trans (by decide)))
      refine VtableOut (tgt := 193) C (dAt D_X12_quarter 53 rfl) (by omega) (by decide) ?_
      refine Vaload_n C 0 (dAt D_X12_quarter 82 rfl) rfl rfl ?_
      refine VgetP C (dAt D_X12_quarter 83 rfl) gf_X12_157 (kt_167 hL) rfl (kp_167_47 hL) ?_
      refine Viload_n C 1 (dAt D_X12_quarter 84 rfl) rfl rfl ?_
      refine Vbipush (x := 10) C (dAt D_X12_quarter 85 rfl) (by decide) ?_
      refine Visub C (dAt D_X12_quarter 86 rfl) ?_
      obtain ⟨c22, h⟩ := ok_ck h
      refine Viald C (dAt D_X12_quarter 87 rfl) (kt_196 hL) (kl_196 hL) (vp_in_iff.mpr c22) ?_
      cases h
      exact Viret C (dAt D_X12_quarter 88 rfl) (by decide) (by decide) ⟨rfl, rfl, rfl⟩
    · have h := ok_f c11 h
      refine Viload_n C 2 (dAt D_X12_quarter 36 rfl) rfl rfl ?_
      refine Vaload_n C 0 (dAt D_X12_quarter 37 rfl) rfl rfl ?_
      refine VgetP C (dAt D_X12_quarter 38 rfl) gf_X12_181 (kt_167 hL) rfl (kp_167_55 hL) ?_
      refine Viload C 4 (dAt D_X12_quarter 39 rfl) rfl ?_
      obtain ⟨c23, h⟩ := ok_ck h
      refine Viald C (dAt D_X12_quarter 40 rfl) (kt_204 hL) (kl_204 hL) (vp_in_iff.mpr c23) ?_
      refine Viadd C (dAt D_X12_quarter 41 rfl) ?_
      refine Vistore_n (lv' := [(3, _), (0, _), (2, _), (4, _), (5, _)]) C (dAt D_X12_quarter 42 rfl) rfl (by decide) rfl ?_
      refine Viload C 3 (dAt D_X12_quarter 43 rfl) rfl ?_
      refine Vaload_n C 1 (dAt D_X12_quarter 44 rfl) rfl rfl ?_
      refine VgetP C (dAt D_X12_quarter 45 rfl) gf_X12_172 (kt_167 hL) rfl (kp_167_52 hL) ?_
      refine Viload C 4 (dAt D_X12_quarter 46 rfl) rfl ?_
      refine Viald C (dAt D_X12_quarter 47 rfl) (kt_201 hL) (kl_201 hL) (vp_in_iff.mpr c23) ?_
      refine Viadd C (dAt D_X12_quarter 48 rfl) ?_
      refine Vistore (lv' := [(4, _), (3, _), (0, _), (2, _), (5, _)]) C (dAt D_X12_quarter 49 rfl) (by decide) rfl ?_
      refine Viinc (j := 4) (v := _ + 1) (lv' := [(5, _), (4, _), (3, _), (0, _), (2, _)]) C (dAt D_X12_quarter 50 rfl) rfl rfl (by decide) rfl ?_
      refine Vgoto (tgt := 57) C (dAt D_X12_quarter 51 rfl) (by decide) ?_
      exact Vsub [3, 4, 2, 1, 0] rfl (ih _ _ _ _ _  h)
def B_X12_quarter_27 (f : Nat) (x1 : Int32) (x2 : Int32) (s0 : Int32) (u : MT) : Option (Int32 × MT) :=
  let u5 := sI u 167 0 s0
  if (gI u5 167 0) ≤ 0 then
    (F_X12_lookDay f u5).bind fun r7 =>
    (F_X12_works f x1 r7.1 (0 : Int32) r7.2).bind fun r9 =>
    B_X12_quarter_57 f f x2 (0 : Int32) (0 : Int32) (0 : Int32) r9
  else
    some ((0 : Int32), u5)
theorem w_X12_quarter_27 {z : ZT} {g : GT} {w : LT} (hL : Lay w) (C : Cx z g cX12_quarter 6 RX12 (some .int) 6 0 0) {f : Nat} {r : (Int32 × MT)} {x1 : Int32} {x2 : Int32} {s0 : Int32} {u : MT} (h : B_X12_quarter_27 f x1 x2 s0 u = some r) : V z g 6 27 [(0, .ref 167), (1, .int x1), (2, .int x2)] [.int s0, .ref 167] w u 0 0 (Qi r.1 w r.2) := by
  rw [B_X12_quarter_27] at h
  refine VputI C (dAt D_X12_quarter 14 rfl) gf_X12_1 (kt_167 hL) rfl rfl rfl rfl ?_
  refine Vaload_n C 0 (dAt D_X12_quarter 15 rfl) rfl rfl ?_
  refine VgetI C (dAt D_X12_quarter 16 rfl) gf_X12_1 (kt_167 hL) rfl ?_
  refine Vif_le (tgt := 39) C (dAt D_X12_quarter 17 rfl) (by decide) (fun c6 => ?_) (fun c6 => ?_)
  · have h := ok_t c6 h
    refine Vaload_n C 0 (dAt D_X12_quarter 20 rfl) rfl rfl ?_
    refine Viload_n C 1 (dAt D_X12_quarter 21 rfl) rfl rfl ?_
    refine Vaload_n C 0 (dAt D_X12_quarter 22 rfl) rfl rfl ?_
    obtain ⟨r7, e8, h⟩ := ok_b h
    refine VcallV (as := []) C (dAt D_X12_quarter 23 rfl) (m_X12_lookDay hL e8) yv_X12_424 (Or.inl ⟨(kt_167 hL), by decide⟩) rfl rfl (Nat.le_of_ble_eq_true rfl) (by decide) (by decide) (by decide) (by decide) (Kint ?_)
    refine Viconst (x := 0) C (dAt D_X12_quarter 24 rfl) (by decide) ?_
    obtain ⟨r9, e10, h⟩ := ok_b h
    refine VcallV (as := [_, _, _]) C (dAt D_X12_quarter 25 rfl) (m_X12_works hL e10) yv_X12_427 (Or.inl ⟨(kt_167 hL), by decide⟩) rfl rfl (Nat.le_of_ble_eq_true rfl) (by decide) (by decide) (by decide) (by decide) (Kvoid ?_)
    refine Viconst (x := 0) C (dAt D_X12_quarter 26 rfl) (by decide) ?_
    refine Vistore_n (lv' := [(3, _), (0, _), (1, _), (2, _)]) C (dAt D_X12_quarter 27 rfl) rfl (by decide) rfl ?_
    refine Viconst (x := 0) C (dAt D_X12_quarter 28 rfl) (by decide) ?_
    refine Vistore (lv' := [(4, _), (3, _), (0, _), (1, _), (2, _)]) C (dAt D_X12_quarter 29 rfl) (by decide) rfl ?_
    refine Viconst (x := 0) C (dAt D_X12_quarter 30 rfl) (by decide) ?_
    refine Vistore (lv' := [(5, _), (4, _), (3, _), (0, _), (1, _), (2, _)]) C (dAt D_X12_quarter 31 rfl) (by decide) rfl ?_
    exact Vsub [3, 5, 2, 1, 0] rfl (w_X12_quarter_57 hL C  f _ _ _ _ _  h)
  · have h := ok_f c6 h
    refine Viconst (x := 0) C (dAt D_X12_quarter 18 rfl) (by decide) ?_
    cases h
    exact Viret C (dAt D_X12_quarter 19 rfl) (by decide) (by decide) ⟨rfl, rfl, rfl⟩
def B_X12_quarter_26 (f : Nat) (x1 : Int32) (x2 : Int32) (u : MT) : Option (Int32 × MT) :=
  B_X12_quarter_27 f x1 x2 (1 : Int32) u
theorem w_X12_quarter_26 {z : ZT} {g : GT} {w : LT} (hL : Lay w) (C : Cx z g cX12_quarter 6 RX12 (some .int) 6 0 0) {f : Nat} {r : (Int32 × MT)} {x1 : Int32} {x2 : Int32} {u : MT} (h : B_X12_quarter_26 f x1 x2 u = some r) : V z g 6 26 [(0, .ref 167), (1, .int x1), (2, .int x2)] [.ref 167] w u 0 0 (Qi r.1 w r.2) := by
  rw [B_X12_quarter_26] at h
  refine Viconst (x := 1) C (dAt D_X12_quarter 13 rfl) (by decide) ?_
  exact Vsub [0, 1, 2] rfl (w_X12_quarter_27 hL C  h)
def F_X12_quarter (f : Nat) (x1 : Int32) (x2 : Int32) (u : MT) : Option (Int32 × MT) :=
  if x1 < 0 then
    B_X12_quarter_26 f x1 x2 u
  else
    if (239 : Int32) < x1 then
      B_X12_quarter_26 f x1 x2 u
    else
      if x2 < 0 then
        B_X12_quarter_26 f x1 x2 u
      else
        if (13 : Int32) < x2 then
          B_X12_quarter_26 f x1 x2 u
        else
          B_X12_quarter_27 f x1 x2 (0 : Int32) u
theorem m_X12_quarter {g : GT} {w : LT} (hL : Lay w) {x1 : Int32} {x2 : Int32} {f : Nat} {u : MT} {r : (Int32 × MT)} (h : F_X12_quarter f x1 x2 u = some r) : Mt g yX12_quarter cX12_quarter 6 (some .int) 6 0 0 [.ref 167, .int x1, .int x2] w u (Qi r.1 w r.2) := by
  refine Mt_of (own := RX12) (by decide +kernel) rfl (Nat.le_of_ble_eq_true rfl) (fun z C _ => ?_)
  show V z g 6 0 [(0, .ref 167), (1, .int x1), (2, .int x2)] [] w u 0 0 (Qi r.1 w r.2)
  rw [F_X12_quarter] at h
  refine Vaload_n C 0 (dAt D_X12_quarter 0 rfl) rfl rfl ?_
  refine Viload_n C 1 (dAt D_X12_quarter 1 rfl) rfl rfl ?_
  refine Vif_lt (tgt := 26) C (dAt D_X12_quarter 2 rfl) (by decide) (fun c1 => ?_) (fun c1 => ?_)
  · have h := ok_t c1 h
    exact Vsub [0, 1, 2] rfl (w_X12_quarter_26 hL C  h)
  · have h := ok_f c1 h
    refine Viload_n C 1 (dAt D_X12_quarter 3 rfl) rfl rfl ?_
    refine Vsipush (x := 239) C (dAt D_X12_quarter 4 rfl) (by decide) ?_
    refine Vicmp_gt (tgt := 26) C (dAt D_X12_quarter 5 rfl) (by decide) (fun c2 => ?_) (fun c2 => ?_)
    · have h := ok_t c2 h
      exact Vsub [0, 1, 2] rfl (w_X12_quarter_26 hL C  h)
    · have h := ok_f c2 h
      refine Viload_n C 2 (dAt D_X12_quarter 6 rfl) rfl rfl ?_
      refine Vif_lt (tgt := 26) C (dAt D_X12_quarter 7 rfl) (by decide) (fun c3 => ?_) (fun c3 => ?_)
      · have h := ok_t c3 h
        exact Vsub [0, 1, 2] rfl (w_X12_quarter_26 hL C  h)
      · have h := ok_f c3 h
        refine Viload_n C 2 (dAt D_X12_quarter 8 rfl) rfl rfl ?_
        refine Vbipush (x := 13) C (dAt D_X12_quarter 9 rfl) (by decide) ?_
        refine Vicmp_gt (tgt := 26) C (dAt D_X12_quarter 10 rfl) (by decide) (fun c4 => ?_) (fun c4 => ?_)
        · have h := ok_t c4 h
          exact Vsub [0, 1, 2] rfl (w_X12_quarter_26 hL C  h)
        · have h := ok_f c4 h
          refine Viconst (x := 0) C (dAt D_X12_quarter 11 rfl) (by decide) ?_
          refine Vgoto (tgt := 27) C (dAt D_X12_quarter 12 rfl) (by decide) ?_
          exact Vsub [0, 1, 2] rfl (w_X12_quarter_27 hL C  h)
def F_X12_by (f : Nat) (x1 : Int32) (x2 : Int32) (x3 : Int32) (u : MT) : Option (Int32 × MT) :=
  let u1 := sI u 167 0 (0 : Int32)
  if x1 < 0 then
    some ((-1 : Int32), u1)
  else
    if (239 : Int32) < x1 then
      some ((-1 : Int32), u1)
    else
      if x3 < (-1 : Int32) then
        some ((-1 : Int32), u1)
      else
        if (gI u1 167 31) ≤ x3 then
          some ((-1 : Int32), u1)
        else
          if 0 ≤ x2 then
            (F_X12_lookDay f u1).bind fun r7 =>
            (F_X12_works f x1 r7.1 (0 : Int32) r7.2).bind fun r9 =>
            if (gI r9 167 44) < 0 then
              some ((-1 : Int32), r9)
            else
              ck (ixo (gI r9 167 44) 8) <|
              if x2 < (gI r9 173 ((gI r9 167 44)).toNatClampNeg) then
                if 0 ≤ x3 then
                  ck (ixo (((13 : Int32) * x2) + x3) 312) <|
                  some ((gI r9 209 ((((13 : Int32) * x2) + x3)).toNatClampNeg), r9)
                else
                  ck (ixo (((24 : Int32) * (gI r9 167 44)) + x2) 192) <|
                  if (gI r9 176 ((((24 : Int32) * (gI r9 167 44)) + x2)).toNatClampNeg) = (5 : Int32) then
                    ck (ixo (((13 : Int32) * x2) + (12 : Int32)) 312) <|
                    some ((gI r9 209 ((((13 : Int32) * x2) + (12 : Int32))).toNatClampNeg), r9)
                  else
                    some ((-1 : Int32), r9)
              else
                some ((-1 : Int32), r9)
          else
            some ((-1 : Int32), u1)
theorem m_X12_by {g : GT} {w : LT} (hL : Lay w) {x1 : Int32} {x2 : Int32} {x3 : Int32} {f : Nat} {u : MT} {r : (Int32 × MT)} (h : F_X12_by f x1 x2 x3 u = some r) : Mt g yX12_by cX12_by 4 (some .int) 6 0 0 [.ref 167, .int x1, .int x2, .int x3] w u (Qi r.1 w r.2) := by
  refine Mt_of (own := RX12) (by decide +kernel) rfl (Nat.le_of_ble_eq_true rfl) (fun z C _ => ?_)
  show V z g 4 0 [(0, .ref 167), (1, .int x1), (2, .int x2), (3, .int x3)] [] w u 0 0 (Qi r.1 w r.2)
  rw [F_X12_by] at h
  refine Vaload_n C 0 (dAt D_X12_by 0 rfl) rfl rfl ?_
  refine Viconst (x := 0) C (dAt D_X12_by 1 rfl) (by decide) ?_
  refine VputI C (dAt D_X12_by 2 rfl) gf_X12_1 (kt_167 hL) rfl rfl rfl rfl ?_
  refine Viload_n C 1 (dAt D_X12_by 3 rfl) rfl rfl ?_
  refine Vif_lt (tgt := 33) C (dAt D_X12_by 4 rfl) (by decide) (fun c2 => ?_) (fun c2 => ?_)
  · have h := ok_t c2 h
    refine Viconst (x := (-1)) C (dAt D_X12_by 17 rfl) (by decide) ?_
    cases h
    exact Viret C (dAt D_X12_by 18 rfl) (by decide) (by decide) ⟨rfl, rfl, rfl⟩
  · have h := ok_f c2 h
    refine Viload_n C 1 (dAt D_X12_by 5 rfl) rfl rfl ?_
    refine Vsipush (x := 239) C (dAt D_X12_by 6 rfl) (by decide) ?_
    refine Vicmp_gt (tgt := 33) C (dAt D_X12_by 7 rfl) (by decide) (fun c3 => ?_) (fun c3 => ?_)
    · have h := ok_t c3 h
      refine Viconst (x := (-1)) C (dAt D_X12_by 17 rfl) (by decide) ?_
      cases h
      exact Viret C (dAt D_X12_by 18 rfl) (by decide) (by decide) ⟨rfl, rfl, rfl⟩
    · have h := ok_f c3 h
      refine Viload_n C 3 (dAt D_X12_by 8 rfl) rfl rfl ?_
      refine Viconst (x := (-1)) C (dAt D_X12_by 9 rfl) (by decide) ?_
      refine Vicmp_lt (tgt := 33) C (dAt D_X12_by 10 rfl) (by decide) (fun c4 => ?_) (fun c4 => ?_)
      · have h := ok_t c4 h
        refine Viconst (x := (-1)) C (dAt D_X12_by 17 rfl) (by decide) ?_
        cases h
        exact Viret C (dAt D_X12_by 18 rfl) (by decide) (by decide) ⟨rfl, rfl, rfl⟩
      · have h := ok_f c4 h
        refine Viload_n C 3 (dAt D_X12_by 11 rfl) rfl rfl ?_
        refine Vaload_n C 0 (dAt D_X12_by 12 rfl) rfl rfl ?_
        refine VgetI C (dAt D_X12_by 13 rfl) gf_X12_300 (kt_167 hL) rfl ?_
        refine Vicmp_ge (tgt := 33) C (dAt D_X12_by 14 rfl) (by decide) (fun c5 => ?_) (fun c5 => ?_)
        · have h := ok_t c5 h
          refine Viconst (x := (-1)) C (dAt D_X12_by 17 rfl) (by decide) ?_
          cases h
          exact Viret C (dAt D_X12_by 18 rfl) (by decide) (by decide) ⟨rfl, rfl, rfl⟩
        · have h := ok_f c5 h
          refine Viload_n C 2 (dAt D_X12_by 15 rfl) rfl rfl ?_
          refine Vif_ge (tgt := 35) C (dAt D_X12_by 16 rfl) (by decide) (fun c6 => ?_) (fun c6 => ?_)
          · have h := ok_t c6 h
            refine Vaload_n C 0 (dAt D_X12_by 19 rfl) rfl rfl ?_
            refine Viload_n C 1 (dAt D_X12_by 20 rfl) rfl rfl ?_
            refine Vaload_n C 0 (dAt D_X12_by 21 rfl) rfl rfl ?_
            obtain ⟨r7, e8, h⟩ := ok_b h
            refine VcallV (as := []) C (dAt D_X12_by 22 rfl) (m_X12_lookDay hL e8) yv_X12_424 (Or.inl ⟨(kt_167 hL), by decide⟩) rfl rfl (Nat.le_of_ble_eq_true rfl) (by decide) (by decide) (by decide) (by decide) (Kint ?_)
            refine Viconst (x := 0) C (dAt D_X12_by 23 rfl) (by decide) ?_
            obtain ⟨r9, e10, h⟩ := ok_b h
            refine VcallV (as := [_, _, _]) C (dAt D_X12_by 24 rfl) (m_X12_works hL e10) yv_X12_427 (Or.inl ⟨(kt_167 hL), by decide⟩) rfl rfl (Nat.le_of_ble_eq_true rfl) (by decide) (by decide) (by decide) (by decide) (Kvoid ?_)
            refine Vaload_n C 0 (dAt D_X12_by 25 rfl) rfl rfl ?_
            refine VgetI C (dAt D_X12_by 26 rfl) gf_X12_360 (kt_167 hL) rfl ?_
            refine Vif_lt (tgt := 65) C (dAt D_X12_by 27 rfl) (by decide) (fun c11 => ?_) (fun c11 => ?_)
            · have h := ok_t c11 h
              refine Viconst (x := (-1)) C (dAt D_X12_by 35 rfl) (by decide) ?_
              cases h
              exact Viret C (dAt D_X12_by 36 rfl) (by decide) (by decide) ⟨rfl, rfl, rfl⟩
            · have h := ok_f c11 h
              refine Viload_n C 2 (dAt D_X12_by 28 rfl) rfl rfl ?_
              refine Vaload_n C 0 (dAt D_X12_by 29 rfl) rfl rfl ?_
              refine VgetP C (dAt D_X12_by 30 rfl) gf_X12_85 (kt_167 hL) rfl (kp_167_10 hL) ?_
              refine Vaload_n C 0 (dAt D_X12_by 31 rfl) rfl rfl ?_
              refine VgetI C (dAt D_X12_by 32 rfl) gf_X12_360 (kt_167 hL) rfl ?_
              obtain ⟨c12, h⟩ := ok_ck h
              refine Viald C (dAt D_X12_by 33 rfl) (kt_173 hL) (kl_173 hL) (vp_in_iff.mpr c12) ?_
              refine Vicmp_lt (tgt := 67) C (dAt D_X12_by 34 rfl) (by decide) (fun c13 => ?_) (fun c13 => ?_)
              · have h := ok_t c13 h
                refine Viload_n C 3 (dAt D_X12_by 37 rfl) rfl rfl ?_
                refine Vif_ge (tgt := 106) C (dAt D_X12_by 38 rfl) (by decide) (fun c14 => ?_) (fun c14 => ?_)
                · have h := ok_t c14 h
                  refine Vaload_n C 0 (dAt D_X12_by 61 rfl) rfl rfl ?_
                  refine VgetP C (dAt D_X12_by 62 rfl) gf_X12_196 (kt_167 hL) rfl (kp_167_67 hL) ?_
                  refine Vbipush (x := 13) C (dAt D_X12_by 63 rfl) (by decide) ?_
                  refine Viload_n C 2 (dAt D_X12_by 64 rfl) rfl rfl ?_
                  refine Vimul C (dAt D_X12_by 65 rfl) ?_
                  refine Viload_n C 3 (dAt D_X12_by 66 rfl) rfl rfl ?_
                  refine Viadd C (dAt D_X12_by 67 rfl) ?_
                  obtain ⟨c15, h⟩ := ok_ck h
                  refine Viald C (dAt D_X12_by 68 rfl) (kt_209 hL) (kl_209 hL) (vp_in_iff.mpr c15) ?_
                  cases h
                  exact Viret C (dAt D_X12_by 69 rfl) (by decide) (by decide) ⟨rfl, rfl, rfl⟩
                · have h := ok_f c14 h
                  refine Vaload_n C 0 (dAt D_X12_by 39 rfl) rfl rfl ?_
                  refine VgetP C (dAt D_X12_by 40 rfl) gf_X12_94 (kt_167 hL) rfl (kp_167_13 hL) ?_
                  refine Vbipush (x := 24) C (dAt D_X12_by 41 rfl) (by decide) ?_
                  refine Vaload_n C 0 (dAt D_X12_by 42 rfl) rfl rfl ?_
                  refine VgetI C (dAt D_X12_by 43 rfl) gf_X12_360 (kt_167 hL) rfl ?_
                  refine Vimul C (dAt D_X12_by 44 rfl) ?_
                  refine Viload_n C 2 (dAt D_X12_by 45 rfl) rfl rfl ?_
                  refine Viadd C (dAt D_X12_by 46 rfl) ?_
                  obtain ⟨c16, h⟩ := ok_ck h
                  refine Viald C (dAt D_X12_by 47 rfl) (kt_176 hL) (kl_176 hL) (vp_in_iff.mpr c16) ?_
                  refine Viconst (x := 5) C (dAt D_X12_by 48 rfl) (by decide) ?_
                  refine Vicmp_ne (tgt := 104) C (dAt D_X12_by 49 rfl) (by decide) (fun c17 => ?_) (fun c17 => ?_)
                  · have h := ok_f c17 h
                    refine Viconst (x := (-1)) C (dAt D_X12_by 59 rfl) (by decide) ?_
                    cases h
                    exact Viret C (dAt D_X12_by 60 rfl) (by decide) (by decide) ⟨rfl, rfl, rfl⟩
                  · have h := ok_t c17 h
                    refine Vaload_n C 0 (dAt D_X12_by 50 rfl) rfl rfl ?_
                    refine VgetP C (dAt D_X12_by 51 rfl) gf_X12_196 (kt_167 hL) rfl (kp_167_67 hL) ?_
                    refine Vbipush (x := 13) C (dAt D_X12_by 52 rfl) (by decide) ?_
                    refine Viload_n C 2 (dAt D_X12_by 53 rfl) rfl rfl ?_
                    refine Vimul C (dAt D_X12_by 54 rfl) ?_
                    refine Vbipush (x := 12) C (dAt D_X12_by 55 rfl) (by decide) ?_
                    refine Viadd C (dAt D_X12_by 56 rfl) ?_
                    obtain ⟨c18, h⟩ := ok_ck h
                    refine Viald C (dAt D_X12_by 57 rfl) (kt_209 hL) (kl_209 hL) (vp_in_iff.mpr c18) ?_
                    refine Vgoto (tgt := 105) C (dAt D_X12_by 58 rfl) (by decide) ?_
                    cases h
                    exact Viret C (dAt D_X12_by 60 rfl) (by decide) (by decide) ⟨rfl, rfl, rfl⟩
              · have h := ok_f c13 h
                refine Viconst (x := (-1)) C (dAt D_X12_by 35 rfl) (by decide) ?_
                cases h
                exact Viret C (dAt D_X12_by 36 rfl) (by decide) (by decide) ⟨rfl, rfl, rfl⟩
          · have h := ok_f c6 h
            refine Viconst (x := (-1)) C (dAt D_X12_by 17 rfl) (by decide) ?_
            cases h
            exact Viret C (dAt D_X12_by 18 rfl) (by decide) (by decide) ⟨rfl, rfl, rfl⟩
