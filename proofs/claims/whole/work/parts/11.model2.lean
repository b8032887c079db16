def B_X12_readRule_236 (f : Nat) (u : MT) : Option MT :=
  (F_X12_takeSign f (59 : Int32) u).bind fun r66 =>
  let u68 := sI r66 173 7 ((gI r66 173 7) + (1 : Int32))
  some u68
theorem w_X12_readRule_236 {z : ZT} {g : GT} {w : LT} (hL : Lay w) (C : Cx z g cX12_readRule 2 RX12 none 7 0 0) {f : Nat} {r : MT} {u : MT} (h : B_X12_readRule_236 f  u = some r) : V z g 2 236 [(0, .ref 167)] [] w u 0 0 (Qv w r) := by
  rw [B_X12_readRule_236] at h
  refine Vaload_n C 0 (dAt D_X12_readRule 132 rfl) rfl rfl ?_
  refine Vbipush (x := 59) C (dAt D_X12_readRule 133 rfl) (by decide) ?_
  obtain ⟨r66, e67, h⟩ := ok_b h
  refine VcallV (as := [_]) C (dAt D_X12_readRule 134 rfl) (m_X12_takeSign hL e67) yv_X12_280 (Or.inl ⟨(kt_167 hL), by decide⟩) rfl rfl (Nat.le_of_ble_eq_true rfl) (by decide) (by decide) (by decide) (by decide) (Kvoid ?_)
  refine Vaload_n C 0 (dAt D_X12_readRule 135 rfl) rfl rfl ?_
  refine VgetP C (dAt D_X12_readRule 136 rfl) gf_X12_85 (kt_167 hL) rfl (kp_167_10 hL) ?_
  refine Vbipush (x := 7) C (dAt D_X12_readRule 137 rfl) (by decide) ?_
  refine Vdup2 C (dAt D_X12_readRule 138 rfl) rfl rfl ?_
  refine VialdC 7 C (dAt D_X12_readRule 139 rfl) (kt_173 hL) (kl_173 hL) (by decide) rfl ?_
  refine Viconst (x := 1) C (dAt D_X12_readRule 140 rfl) (by decide) ?_
  refine Viadd C (dAt D_X12_readRule 141 rfl) ?_
  refine ViastC 7 C (dAt D_X12_readRule 142 rfl) (kt_173 hL) (kl_173 hL) (by decide) rfl ?_
  cases h
  exact Vvret C (dAt D_X12_readRule 143 rfl) (by decide) (by decide) ⟨rfl, rfl, rfl⟩
def B_X12_readRule_222 (f : Nat) (x1 : Int32) (s0 : Int32) (s1 : Int32) (u : MT) : Option MT :=
  ck (ixo s1 192) <|
  let u59 := sI u 178 (s1).toNatClampNeg s0
  (F_X12_takeNumber f (0 : Int32) (100 : Int32) u59).bind fun r60 =>
  ck (ixo x1 192) <|
  let u63 := sI r60.2 180 (x1).toNatClampNeg r60.1
  B_X12_readRule_236 f u63
theorem w_X12_readRule_222 {z : ZT} {g : GT} {w : LT} (hL : Lay w) (C : Cx z g cX12_readRule 2 RX12 none 7 0 0) {f : Nat} {r : MT} {x1 : Int32} {s0 : Int32} {s1 : Int32} {u : MT} (h : B_X12_readRule_222 f x1 s0 s1 u = some r) : V z g 2 222 [(0, .ref 167), (1, .int x1)] [.int s0, .int s1, .ref 178] w u 0 0 (Qv w r) := by
  rw [B_X12_readRule_222] at h
  obtain ⟨c58, h⟩ := ok_ck h
  refine Viast C (dAt D_X12_readRule 123 rfl) (kt_178 hL) (kl_178 hL) (vp_in_iff.mpr c58) ?_
  refine Vaload_n C 0 (dAt D_X12_readRule 124 rfl) rfl rfl ?_
  refine VgetP C (dAt D_X12_readRule 125 rfl) gf_X12_106 (kt_167 hL) rfl (kp_167_17 hL) ?_
  refine Viload_n C 1 (dAt D_X12_readRule 126 rfl) rfl rfl ?_
  refine Vaload_n C 0 (dAt D_X12_readRule 127 rfl) rfl rfl ?_
  refine Viconst (x := 0) C (dAt D_X12_readRule 128 rfl) (by decide) ?_
  refine Vbipush (x := 100) C (dAt D_X12_readRule 129 rfl) (by decide) ?_
  obtain ⟨r60, e61, h⟩ := ok_b h
  refine VcallV (as := [_, _]) C (dAt D_X12_readRule 130 rfl) (m_X12_takeNumber hL e61) yv_X12_297 (Or.inl ⟨(kt_167 hL), by decide⟩) rfl rfl (Nat.le_of_ble_eq_true rfl) (by decide) (by decide) (by decide) (by decide) (Kint ?_)
  obtain ⟨c62, h⟩ := ok_ck h
  refine Viast C (dAt D_X12_readRule 131 rfl) (kt_180 hL) (kl_180 hL) (vp_in_iff.mpr c62) ?_
  exact Vsub [0] rfl (w_X12_readRule_236 hL C  h)
def B_X12_readRule_203 (f : Nat) (x1 : Int32) (s0 : Int32) (u : MT) : Option MT :=
  (F_X12_oneOf f (9 : Int32) (2 : Int32) u).bind fun r64 =>
  B_X12_readRule_222 f x1 r64.1 s0 r64.2
theorem w_X12_readRule_203 {z : ZT} {g : GT} {w : LT} (hL : Lay w) (C : Cx z g cX12_readRule 2 RX12 none 7 0 0) {f : Nat} {r : MT} {x1 : Int32} {s0 : Int32} {u : MT} (h : B_X12_readRule_203 f x1 s0 u = some r) : V z g 2 203 [(0, .ref 167), (1, .int x1)] [.int s0, .ref 178] w u 0 0 (Qv w r) := by
  rw [B_X12_readRule_203] at h
  refine Vaload_n C 0 (dAt D_X12_readRule 112 rfl) rfl rfl ?_
  refine Vbipush (x := 9) C (dAt D_X12_readRule 113 rfl) (by decide) ?_
  refine Viconst (x := 2) C (dAt D_X12_readRule 114 rfl) (by decide) ?_
  obtain ⟨r64, e65, h⟩ := ok_b h
  refine VcallV (as := [_, _]) C (dAt D_X12_readRule 115 rfl) (m_X12_oneOf hL e65) yv_X12_276 (Or.inl ⟨(kt_167 hL), by decide⟩) rfl rfl (Nat.le_of_ble_eq_true rfl) (by decide) (by decide) (by decide) (by decide) (Kint ?_)
  refine Vgoto (tgt := 222) C (dAt D_X12_readRule 116 rfl) (by decide) ?_
  exact Vsub [0, 1] rfl (w_X12_readRule_222 hL C  h)
def B_X12_readRule_73 (f : Nat) (x1 : Int32) (s0 : Int32) (s1 : Int32) (u : MT) : Option MT :=
  ck (ixo s1 192) <|
  let u17 := sI u 175 (s1).toNatClampNeg s0
  (F_X12_hasWord f (1 : Int32) u17).bind fun r18 =>
  if r18.1 = 0 then
    (F_X12_hasWord f (5 : Int32) r18.2).bind fun r21 =>
    if r21.1 = 0 then
      (F_X12_takeWord f (6 : Int32) r21.2).bind fun r24 =>
      ck (ixo x1 192) <|
      let u27 := sI r24 176 (x1).toNatClampNeg (6 : Int32)
      (F_X12_isWord f (9 : Int32) u27).bind fun r28 =>
      if r28.1 = 0 then
        (F_X12_isWord f (10 : Int32) r28.2).bind fun r31 =>
        if r31.1 = 0 then
          (F_X12_oneOf f (16 : Int32) (2 : Int32) r31.2).bind fun r34 =>
          B_X12_readRule_222 f x1 ((2 : Int32) + r34.1) x1 r34.2
        else
          B_X12_readRule_203 f x1 x1 r31.2
      else
        B_X12_readRule_203 f x1 x1 r28.2
    else
      ck (ixo x1 192) <|
      let u37 := sI r21.2 176 (x1).toNatClampNeg (5 : Int32)
      (F_X12_readAmount f x1 u37).bind fun r38 =>
      B_X12_readRule_236 f r38
  else
    ck (ixo x1 192) <|
    let u41 := sI r18.2 176 (x1).toNatClampNeg (1 : Int32)
    (F_X12_readAmount f x1 u41).bind fun r42 =>
    (F_X12_takeWord f (2 : Int32) r42).bind fun r44 =>
    (F_X12_oneOf f (9 : Int32) (2 : Int32) r44).bind fun r46 =>
    let u48 := sI r46.2 178 (x1).toNatClampNeg r46.1
    (F_X12_takeWord f (3 : Int32) u48).bind fun r49 =>
    (F_X12_readWhom f x1 r49).bind fun r51 =>
    (F_X12_takeWord f (4 : Int32) r51).bind fun r53 =>
    (F_X12_oneOf f (13 : Int32) (3 : Int32) r53).bind fun r55 =>
    let u57 := sI r55.2 181 (x1).toNatClampNeg r55.1
    B_X12_readRule_236 f u57
theorem w_X12_readRule_73 {z : ZT} {g : GT} {w : LT} (hL : Lay w) (C : Cx z g cX12_readRule 2 RX12 none 7 0 0) {f : Nat} {r : MT} {x1 : Int32} {s0 : Int32} {s1 : Int32} {u : MT} (h : B_X12_readRule_73 f x1 s0 s1 u = some r) : V z g 2 73 [(0, .ref 167), (1, .int x1)] [.int s0, .int s1, .ref 175] w u 0 0 (Qv w r) := by
  rw [B_X12_readRule_73] at h
  obtain ⟨c16, h⟩ := ok_ck h
  refine Viast C (dAt D_X12_readRule 38 rfl) (kt_175 hL) (kl_175 hL) (vp_in_iff.mpr c16) ?_
  refine Vaload_n C 0 (dAt D_X12_readRule 39 rfl) rfl rfl ?_
  refine Viconst (x := 1) C (dAt D_X12_readRule 40 rfl) (by decide) ?_
  obtain ⟨r18, e19, h⟩ := ok_b h
  refine VcallV (as := [_]) C (dAt D_X12_readRule 41 rfl) (m_X12_hasWord hL e19) yv_X12_264 (Or.inl ⟨(kt_167 hL), by decide⟩) rfl rfl (Nat.le_of_ble_eq_true rfl) (by decide) (by decide) (by decide) (by decide) (Kint ?_)
  refine Vif_eq (tgt := 143) C (dAt D_X12_readRule 42 rfl) (by decide) (fun c20 => ?_) (fun c20 => ?_)
  · have h := ok_t c20 h
    refine Vaload_n C 0 (dAt D_X12_readRule 80 rfl) rfl rfl ?_
    refine Viconst (x := 5) C (dAt D_X12_readRule 81 rfl) (by decide) ?_
    obtain ⟨r21, e22, h⟩ := ok_b h
    refine VcallV (as := [_]) C (dAt D_X12_readRule 82 rfl) (m_X12_hasWord hL e22) yv_X12_264 (Or.inl ⟨(kt_167 hL), by decide⟩) rfl rfl (Nat.le_of_ble_eq_true rfl) (by decide) (by decide) (by decide) (by decide) (Kint ?_)
    refine Vif_eq (tgt := 166) C (dAt D_X12_readRule 83 rfl) (by decide) (fun c23 => ?_) (fun c23 => ?_)
    · have h := ok_t c23 h
      refine Vaload_n C 0 (dAt D_X12_readRule 93 rfl) rfl rfl ?_
      refine Vbipush (x := 6) C (dAt D_X12_readRule 94 rfl) (by decide) ?_
      obtain ⟨r24, e25, h⟩ := ok_b h
      refine VcallV (as := [_]) C (dAt D_X12_readRule 95 rfl) (m_X12_takeWord hL e25) yv_X12_273 (Or.inl ⟨(kt_167 hL), by decide⟩) rfl rfl (Nat.le_of_ble_eq_true rfl) (by decide) (by decide) (by decide) (by decide) (Kvoid ?_)
      refine Vaload_n C 0 (dAt D_X12_readRule 96 rfl) rfl rfl ?_
      refine VgetP C (dAt D_X12_readRule 97 rfl) gf_X12_94 (kt_167 hL) rfl (kp_167_13 hL) ?_
      refine Viload_n C 1 (dAt D_X12_readRule 98 rfl) rfl rfl ?_
      refine Vbipush (x := 6) C (dAt D_X12_readRule 99 rfl) (by decide) ?_
      obtain ⟨c26, h⟩ := ok_ck h
      refine Viast C (dAt D_X12_readRule 100 rfl) (kt_176 hL) (kl_176 hL) (vp_in_iff.mpr c26) ?_
      refine Vaload_n C 0 (dAt D_X12_readRule 101 rfl) rfl rfl ?_
      refine VgetP C (dAt D_X12_readRule 102 rfl) gf_X12_100 (kt_167 hL) rfl (kp_167_15 hL) ?_
      refine Viload_n C 1 (dAt D_X12_readRule 103 rfl) rfl rfl ?_
      refine Vaload_n C 0 (dAt D_X12_readRule 104 rfl) rfl rfl ?_
      refine Vbipush (x := 9) C (dAt D_X12_readRule 105 rfl) (by decide) ?_
      obtain ⟨r28, e29, h⟩ := ok_b h
      refine VcallV (as := [_]) C (dAt D_X12_readRule 106 rfl) (m_X12_isWord hL e29) yv_X12_261 (Or.inl ⟨(kt_167 hL), by decide⟩) rfl rfl (Nat.le_of_ble_eq_true rfl) (by decide) (by decide) (by decide) (by decide) (Kint ?_)
      refine Vif_ne (tgt := 203) C (dAt D_X12_readRule 107 rfl) (by decide) (fun c30 => ?_) (fun c30 => ?_)
      · have h := ok_f c30 h
        exact Vsub [0, 1] rfl (w_X12_readRule_203 hL C  h)
      · have h := ok_t c30 h
        refine Vaload_n C 0 (dAt D_X12_readRule 108 rfl) rfl rfl ?_
        refine Vbipush (x := 10) C (dAt D_X12_readRule 109 rfl) (by decide) ?_
        obtain ⟨r31, e32, h⟩ := ok_b h
        refine VcallV (as := [_]) C (dAt D_X12_readRule 110 rfl) (m_X12_isWord hL e32) yv_X12_261 (Or.inl ⟨(kt_167 hL), by decide⟩) rfl rfl (Nat.le_of_ble_eq_true rfl) (by decide) (by decide) (by decide) (by decide) (Kint ?_)
        refine Vif_eq (tgt := 213) C (dAt D_X12_readRule 111 rfl) (by decide) (fun c33 => ?_) (fun c33 => ?_)
        · have h := ok_t c33 h
          refine Viconst (x := 2) C (dAt D_X12_readRule 117 rfl) (by decide) ?_
          refine Vaload_n C 0 (dAt D_X12_readRule 118 rfl) rfl rfl ?_
          refine Vbipush (x := 16) C (dAt D_X12_readRule 119 rfl) (by decide) ?_
          refine Viconst (x := 2) C (dAt D_X12_readRule 120 rfl) (by decide) ?_
          obtain ⟨r34, e35, h⟩ := ok_b h
          refine VcallV (as := [_, _]) C (dAt D_X12_readRule 121 rfl) (m_X12_oneOf hL e35) yv_X12_276 (Or.inl ⟨(kt_167 hL), by decide⟩) rfl rfl (Nat.le_of_ble_eq_true rfl) (by decide) (by decide) (by decide) (by decide) (Kint ?_)
          refine Viadd C (dAt D_X12_readRule 122 rfl) ?_
          exact Vsub [0, 1] rfl (w_X12_readRule_222 hL C  h)
        · have h := ok_f c33 h
          exact Vsub [0, 1] rfl (w_X12_readRule_203 hL C  h)
    · have h := ok_f c23 h
      refine Vaload_n C 0 (dAt D_X12_readRule 84 rfl) rfl rfl ?_
      refine VgetP C (dAt D_X12_readRule 85 rfl) gf_X12_94 (kt_167 hL) rfl (kp_167_13 hL) ?_
      refine Viload_n C 1 (dAt D_X12_readRule 86 rfl) rfl rfl ?_
      refine Viconst (x := 5) C (dAt D_X12_readRule 87 rfl) (by decide) ?_
      obtain ⟨c36, h⟩ := ok_ck h
      refine Viast C (dAt D_X12_readRule 88 rfl) (kt_176 hL) (kl_176 hL) (vp_in_iff.mpr c36) ?_
      refine Vaload_n C 0 (dAt D_X12_readRule 89 rfl) rfl rfl ?_
      refine Viload_n C 1 (dAt D_X12_readRule 90 rfl) rfl rfl ?_
      obtain ⟨r38, e39, h⟩ := ok_b h
      refine VcallV (as := [_]) C (dAt D_X12_readRule 91 rfl) (m_X12_readAmount hL e39) yv_X12_291 (Or.inl ⟨(kt_167 hL), by decide⟩) rfl rfl (Nat.le_of_ble_eq_true rfl) (by decide) (by decide) (by decide) (by decide) (Kvoid ?_)
      refine Vgoto (tgt := 236) C (dAt D_X12_readRule 92 rfl) (by decide) ?_
      exact Vsub [0] rfl (w_X12_readRule_236 hL C  h)
  · have h := ok_f c20 h
    refine Vaload_n C 0 (dAt D_X12_readRule 43 rfl) rfl rfl ?_
    refine VgetP C (dAt D_X12_readRule 44 rfl) gf_X12_94 (kt_167 hL) rfl (kp_167_13 hL) ?_
    refine Viload_n C 1 (dAt D_X12_readRule 45 rfl) rfl rfl ?_
    refine Viconst (x := 1) C (dAt D_X12_readRule 46 rfl) (by decide) ?_
    obtain ⟨c40, h⟩ := ok_ck h
    refine Viast C (dAt D_X12_readRule 47 rfl) (kt_176 hL) (kl_176 hL) (vp_in_iff.mpr c40) ?_
    refine Vaload_n C 0 (dAt D_X12_readRule 48 rfl) rfl rfl ?_
    refine Viload_n C 1 (dAt D_X12_readRule 49 rfl) rfl rfl ?_
    obtain ⟨r42, e43, h⟩ := ok_b h
    refine VcallV (as := [_]) C (dAt D_X12_readRule 50 rfl) (m_X12_readAmount hL e43) yv_X12_291 (Or.inl ⟨(kt_167 hL), by decide⟩) rfl rfl (Nat.le_of_ble_eq_true rfl) (by decide) (by decide) (by decide) (by decide) (Kvoid ?_)
    refine Vaload_n C 0 (dAt D_X12_readRule 51 rfl) rfl rfl ?_
    refine Viconst (x := 2) C (dAt D_X12_readRule 52 rfl) (by decide) ?_
    obtain ⟨r44, e45, h⟩ := ok_b h
    refine VcallV (as := [_]) C (dAt D_X12_readRule 53 rfl) (m_X12_takeWord hL e45) yv_X12_273 (Or.inl ⟨(kt_167 hL), by decide⟩) rfl rfl (Nat.le_of_ble_eq_true rfl) (by decide) (by decide) (by decide) (by decide) (Kvoid ?_)
    refine Vaload_n C 0 (dAt D_X12_readRule 54 rfl) rfl rfl ?_
    refine VgetP C (dAt D_X12_readRule 55 rfl) gf_X12_100 (kt_167 hL) rfl (kp_167_15 hL) ?_
    refine Viload_n C 1 (dAt D_X12_readRule 56 rfl) rfl rfl ?_
    refine Vaload_n C 0 (dAt D_X12_readRule 57 rfl) rfl rfl ?_
    refine Vbipush (x := 9) C (dAt D_X12_readRule 58 rfl) (by decide) ?_
    refine Viconst (x := 2) C (dAt D_X12_readRule 59 rfl) (by decide) ?_
    obtain ⟨r46, e47, h⟩ := ok_b h
    refine VcallV (as := [_, _]) C (dAt D_X12_readRule 60 rfl) (m_X12_oneOf hL e47) yv_X12_276 (Or.inl ⟨(kt_167 hL), by decide⟩) rfl rfl (Nat.le_of_ble_eq_true rfl) (by decide) (by decide) (by decide) (by decide) (Kint ?_)
    refine Viast C (dAt D_X12_readRule 61 rfl) (kt_178 hL) (kl_178 hL) (vp_in_iff.mpr c40) ?_
    refine Vaload_n C 0 (dAt D_X12_readRule 62 rfl) rfl rfl ?_
    refine Viconst (x := 3) C (dAt D_X12_readRule 63 rfl) (by decide) ?_
    obtain ⟨r49, e50, h⟩ := ok_b h
    refine VcallV (as := [_]) C (dAt D_X12_readRule 64 rfl) (m_X12_takeWord hL e50) yv_X12_273 (Or.inl ⟨(kt_167 hL), by decide⟩) rfl rfl (Nat.le_of_ble_eq_true rfl) (by decide) (by decide) (by decide) (by decide) (Kvoid ?_)
    refine Vaload_n C 0 (dAt D_X12_readRule 65 rfl) rfl rfl ?_
    refine Viload_n C 1 (dAt D_X12_readRule 66 rfl) rfl rfl ?_
    obtain ⟨r51, e52, h⟩ := ok_b h
    refine VcallV (as := [_]) C (dAt D_X12_readRule 67 rfl) (m_X12_readWhom hL e52) yv_X12_294 (Or.inl ⟨(kt_167 hL), by decide⟩) rfl rfl (Nat.le_of_ble_eq_true rfl) (by decide) (by decide) (by decide) (by decide) (Kvoid ?_)
    refine Vaload_n C 0 (dAt D_X12_readRule 68 rfl) rfl rfl ?_
    refine Viconst (x := 4) C (dAt D_X12_readRule 69 rfl) (by decide) ?_
    obtain ⟨r53, e54, h⟩ := ok_b h
    refine VcallV (as := [_]) C (dAt D_X12_readRule 70 rfl) (m_X12_takeWord hL e54) yv_X12_273 (Or.inl ⟨(kt_167 hL), by decide⟩) rfl rfl (Nat.le_of_ble_eq_true rfl) (by decide) (by decide) (by decide) (by decide) (Kvoid ?_)
    refine Vaload_n C 0 (dAt D_X12_readRule 71 rfl) rfl rfl ?_
    refine VgetP C (dAt D_X12_readRule 72 rfl) gf_X12_109 (kt_167 hL) rfl (kp_167_18 hL) ?_
    refine Viload_n C 1 (dAt D_X12_readRule 73 rfl) rfl rfl ?_
    refine Vaload_n C 0 (dAt D_X12_readRule 74 rfl) rfl rfl ?_
    refine Vbipush (x := 13) C (dAt D_X12_readRule 75 rfl) (by decide) ?_
    refine Viconst (x := 3) C (dAt D_X12_readRule 76 rfl) (by decide) ?_
    obtain ⟨r55, e56, h⟩ := ok_b h
    refine VcallV (as := [_, _]) C (dAt D_X12_readRule 77 rfl) (m_X12_oneOf hL e56) yv_X12_276 (Or.inl ⟨(kt_167 hL), by decide⟩) rfl rfl (Nat.le_of_ble_eq_true rfl) (by decide) (by decide) (by decide) (by decide) (Kint ?_)
    refine Viast C (dAt D_X12_readRule 78 rfl) (kt_181 hL) (kl_181 hL) (vp_in_iff.mpr c40) ?_
    refine Vgoto (tgt := 236) C (dAt D_X12_readRule 79 rfl) (by decide) ?_
    exact Vsub [0] rfl (w_X12_readRule_236 hL C  h)
def B_X12_readRule_32 (f : Nat) (u : MT) : Option MT :=
  if (gI u 167 8) ≤ 0 then
    let v10 := ((168 : Int32) + (gI u 173 7))
    (F_X12_hasWord f (0 : Int32) u).bind fun r11 =>
    if r11.1 = 0 then
      B_X12_readRule_73 f v10 (-1 : Int32) v10 r11.2
    else
      (F_X12_code f r11.2).bind fun r14 =>
      B_X12_readRule_73 f v10 r14.1 v10 r14.2
  else
    some u
theorem w_X12_readRule_32 {z : ZT} {g : GT} {w : LT} (hL : Lay w) (C : Cx z g cX12_readRule 2 RX12 none 7 0 0) {f : Nat} {r : MT} {u : MT} (h : B_X12_readRule_32 f  u = some r) : V z g 2 32 [(0, .ref 167)] [] w u 0 0 (Qv w r) := by
  rw [B_X12_readRule_32] at h
  refine Vaload_n C 0 (dAt D_X12_readRule 16 rfl) rfl rfl ?_
  refine VgetI C (dAt D_X12_readRule 17 rfl) gf_X12_251 (kt_167 hL) rfl ?_
  refine Vif_le (tgt := 40) C (dAt D_X12_readRule 18 rfl) (by decide) (fun c9 => ?_) (fun c9 => ?_)
  · have h := ok_t c9 h
    refine Vsipush (x := 168) C (dAt D_X12_readRule 20 rfl) (by decide) ?_
    refine Vaload_n C 0 (dAt D_X12_readRule 21 rfl) rfl rfl ?_
    refine VgetP C (dAt D_X12_readRule 22 rfl) gf_X12_85 (kt_167 hL) rfl (kp_167_10 hL) ?_
    refine Vbipush (x := 7) C (dAt D_X12_readRule 23 rfl) (by decide) ?_
    refine VialdC 7 C (dAt D_X12_readRule 24 rfl) (kt_173 hL) (kl_173 hL) (by decide) rfl ?_
    refine Viadd C (dAt D_X12_readRule 25 rfl) ?_
    refine Vistore_n (lv' := [(1, _), (0, _)]) C (dAt D_X12_readRule 26 rfl) rfl (by decide) rfl ?_
    refine Vaload_n C 1 (dAt D_X12_readRule 27 rfl) rfl rfl ?_
    refine VgetP C (dAt D_X12_readRule 28 rfl) gf_X12_91 (kt_167 hL) rfl (kp_167_12 hL) ?_
    refine Viload_n C 0 (dAt D_X12_readRule 29 rfl) rfl rfl ?_
    refine Vaload_n C 1 (dAt D_X12_readRule 30 rfl) rfl rfl ?_
    refine Viconst (x := 0) C (dAt D_X12_readRule 31 rfl) (by decide) ?_
    obtain ⟨r11, e12, h⟩ := ok_b h
    refine VcallV (as := [_]) C (dAt D_X12_readRule 32 rfl) (m_X12_hasWord hL e12) yv_X12_264 (Or.inl ⟨(kt_167 hL), by decide⟩) rfl rfl (Nat.le_of_ble_eq_true rfl) (by decide) (by decide) (by decide) (by decide) (Kint ?_)
    refine Vif_eq (tgt := 72) C (dAt D_X12_readRule 33 rfl) (by decide) (fun c13 => ?_) (fun c13 => ?_)
    · have h := ok_t c13 h
      refine Viconst (x := (-1)) C (dAt D_X12_readRule 37 rfl) (by decide) ?_
      exact Vsub [1, 0] rfl (w_X12_readRule_73 hL C  h)
    · have h := ok_f c13 h
      refine Vaload_n C 1 (dAt D_X12_readRule 34 rfl) rfl rfl ?_
      obtain ⟨r14, e15, h⟩ := ok_b h
      refine VcallV (as := []) C (dAt D_X12_readRule 35 rfl) (m_X12_code hL e15) yv_X12_287 (Or.inl ⟨(kt_167 hL), by decide⟩) rfl rfl (Nat.le_of_ble_eq_true rfl) (by decide) (by decide) (by decide) (by decide) (Kint ?_)
      refine Vgoto (tgt := 73) C (dAt D_X12_readRule 36 rfl) (by decide) ?_
      exact Vsub [1, 0] rfl (w_X12_readRule_73 hL C  h)
  · have h := ok_f c9 h
    cases h
    exact Vvret C (dAt D_X12_readRule 19 rfl) (by decide) (by decide) ⟨rfl, rfl, rfl⟩
def F_X12_readRule (f : Nat) (u : MT) : Option MT :=
  (F_X12_isRule f u).bind fun r1 =>
  if r1.1 = 0 then
    (F_X12_wrong f (1 : Int32) r1.2).bind fun r4 =>
    B_X12_readRule_32 f r4
  else
    if (gI r1.2 173 7) = (24 : Int32) then
      (F_X12_wrong f (5 : Int32) r1.2).bind fun r7 =>
      B_X12_readRule_32 f r7
    else
      B_X12_readRule_32 f r1.2
theorem m_X12_readRule {g : GT} {w : LT} (hL : Lay w) {f : Nat} {u : MT} {r : MT} (h : F_X12_readRule f  u = some r) : Mt g yX12_readRule cX12_readRule 2 none 7 0 0 [.ref 167] w u (Qv w r) := by
  refine Mt_of (own := RX12) (by decide +kernel) rfl (Nat.le_of_ble_eq_true rfl) (fun z C _ => ?_)
  show V z g 2 0 [(0, .ref 167)] [] w u 0 0 (Qv w r)
  rw [F_X12_readRule] at h
  refine Vaload_n C 0 (dAt D_X12_readRule 0 rfl) rfl rfl ?_
  obtain ⟨r1, e2, h⟩ := ok_b h
  refine VcallV (as := []) C (dAt D_X12_readRule 1 rfl) (m_X12_isRule hL e2) yv_X12_283 (Or.inl ⟨(kt_167 hL), by decide⟩) rfl rfl (Nat.le_of_ble_eq_true rfl) (by decide) (by decide) (by decide) (by decide) (Kint ?_)
  refine Vif_ne (tgt := 15) C (dAt D_X12_readRule 2 rfl) (by decide) (fun c3 => ?_) (fun c3 => ?_)
  · have h := ok_f c3 h
    refine Vaload_n C 0 (dAt D_X12_readRule 7 rfl) rfl rfl ?_
    refine VgetP C (dAt D_X12_readRule 8 rfl) gf_X12_85 (kt_167 hL) rfl (kp_167_10 hL) ?_
    refine Vbipush (x := 7) C (dAt D_X12_readRule 9 rfl) (by decide) ?_
    refine VialdC 7 C (dAt D_X12_readRule 10 rfl) (kt_173 hL) (kl_173 hL) (by decide) rfl ?_
    refine Vbipush (x := 24) C (dAt D_X12_readRule 11 rfl) (by decide) ?_
    refine Vicmp_ne (tgt := 32) C (dAt D_X12_readRule 12 rfl) (by decide) (fun c6 => ?_) (fun c6 => ?_)
    · have h := ok_f c6 h
      exact Vsub [0] rfl (w_X12_readRule_32 hL C  h)
    · have h := ok_t c6 h
      refine Vaload_n C 0 (dAt D_X12_readRule 13 rfl) rfl rfl ?_
      refine Viconst (x := 5) C (dAt D_X12_readRule 14 rfl) (by decide) ?_
      obtain ⟨r7, e8, h⟩ := ok_b h
      refine VcallV (as := [_]) C (dAt D_X12_readRule 15 rfl) (m_X12_wrong hL e8) yv_X12_257 (Or.inl ⟨(kt_167 hL), by decide⟩) rfl rfl (Nat.le_of_ble_eq_true rfl) (by decide) (by decide) (by decide) (by decide) (Kvoid ?_)
      exact Vsub [0] rfl (w_X12_readRule_32 hL C  h)
  · have h := ok_t c3 h
    refine Vaload_n C 0 (dAt D_X12_readRule 3 rfl) rfl rfl ?_
    refine Viconst (x := 1) C (dAt D_X12_readRule 4 rfl) (by decide) ?_
    obtain ⟨r4, e5, h⟩ := ok_b h
    refine VcallV (as := [_]) C (dAt D_X12_readRule 5 rfl) (m_X12_wrong hL e5) yv_X12_257 (Or.inl ⟨(kt_167 hL), by decide⟩) rfl rfl (Nat.le_of_ble_eq_true rfl) (by decide) (by decide) (by decide) (by decide) (Kvoid ?_)
    refine Vgoto (tgt := 32) C (dAt D_X12_readRule 6 rfl) (by decide) ?_
    exact Vsub [0] rfl (w_X12_readRule_32 hL C  h)
def B_X12_readText_43 (f : Nat) (u : MT) : Option MT :=
  (F_X12_takeWord f (7 : Int32) u).bind fun r11 =>
  (F_X12_oneOf f (21 : Int32) (3 : Int32) r11).bind fun r13 =>
  let u15 := sI r13.2 174 7 r13.1
  (F_X12_takeSign f (59 : Int32) u15).bind fun r16 =>
  if (gI r16 167 8) = 0 then
    ck (ixo (gI r16 167 7) 1202) <|
    if (gI r16 169 ((gI r16 167 7)).toNatClampNeg) = 0 then
      some r16
    else
      (F_X12_wrong f (1 : Int32) r16).bind fun r21 =>
      some r21
  else
    some r16
theorem w_X12_readText_43 {z : ZT} {g : GT} {w : LT} (hL : Lay w) (C : Cx z g cX12_readText 1 RX12 none 8 0 0) {f : Nat} {r : MT} {u : MT} (h : B_X12_readText_43 f  u = some r) : V z g 1 43 [(0, .ref 167)] [] w u 0 0 (Qv w r) := by
  rw [B_X12_readText_43] at h
  refine Vaload_n C 0 (dAt D_X12_readText 22 rfl) rfl rfl ?_
  refine Vbipush (x := 7) C (dAt D_X12_readText 23 rfl) (by decide) ?_
  obtain ⟨r11, e12, h⟩ := ok_b h
  refine VcallV (as := [_]) C (dAt D_X12_readText 24 rfl) (m_X12_takeWord hL e12) yv_X12_273 (Or.inl ⟨(kt_167 hL), by decide⟩) rfl rfl (Nat.le_of_ble_eq_true rfl) (by decide) (by decide) (by decide) (by decide) (Kvoid ?_)
  refine Vaload_n C 0 (dAt D_X12_readText 25 rfl) rfl rfl ?_
  refine VgetP C (dAt D_X12_readText 26 rfl) gf_X12_88 (kt_167 hL) rfl (kp_167_11 hL) ?_
  refine Vbipush (x := 7) C (dAt D_X12_readText 27 rfl) (by decide) ?_
  refine Vaload_n C 0 (dAt D_X12_readText 28 rfl) rfl rfl ?_
  refine Vbipush (x := 21) C (dAt D_X12_readText 29 rfl) (by decide) ?_
  refine Viconst (x := 3) C (dAt D_X12_readText 30 rfl) (by decide) ?_
  obtain ⟨r13, e14, h⟩ := ok_b h
  refine VcallV (as := [_, _]) C (dAt D_X12_readText 31 rfl) (m_X12_oneOf hL e14) yv_X12_276 (Or.inl ⟨(kt_167 hL), by decide⟩) rfl rfl (Nat.le_of_ble_eq_true rfl) (by decide) (by decide) (by decide) (by decide) (Kint ?_)
  refine ViastC 7 C (dAt D_X12_readText 32 rfl) (kt_174 hL) (kl_174 hL) (by decide) rfl ?_
  refine Vaload_n C 0 (dAt D_X12_readText 33 rfl) rfl rfl ?_
  refine Vbipush (x := 59) C (dAt D_X12_readText 34 rfl) (by decide) ?_
  obtain ⟨r16, e17, h⟩ := ok_b h
  refine VcallV (as := [_]) C (dAt D_X12_readText 35 rfl) (m_X12_takeSign hL e17) yv_X12_280 (Or.inl ⟨(kt_167 hL), by decide⟩) rfl rfl (Nat.le_of_ble_eq_true rfl) (by decide) (by decide) (by decide) (by decide) (Kvoid ?_)
  refine Vaload_n C 0 (dAt D_X12_readText 36 rfl) rfl rfl ?_
  refine VgetI C (dAt D_X12_readText 37 rfl) gf_X12_251 (kt_167 hL) rfl ?_
  refine Vif_ne (tgt := 93) C (dAt D_X12_readText 38 rfl) (by decide) (fun c18 => ?_) (fun c18 => ?_)
  · have h := ok_f c18 h
    cases h
    exact Vvret C (dAt D_X12_readText 48 rfl) (by decide) (by decide) ⟨rfl, rfl, rfl⟩
  · have h := ok_t c18 h
    refine Vaload_n C 0 (dAt D_X12_readText 39 rfl) rfl rfl ?_
    refine VgetP C (dAt D_X12_readText 40 rfl) gf_X12_24 (kt_167 hL) rfl (kp_167_4 hL) ?_
    refine Vaload_n C 0 (dAt D_X12_readText 41 rfl) rfl rfl ?_
    refine VgetI C (dAt D_X12_readText 42 rfl) gf_X12_248 (kt_167 hL) rfl ?_
    obtain ⟨c19, h⟩ := ok_ck h
    refine Viald C (dAt D_X12_readText 43 rfl) (kt_169 hL) (kl_169 hL) (vp_in_iff.mpr c19) ?_
    refine Vif_eq (tgt := 93) C (dAt D_X12_readText 44 rfl) (by decide) (fun c20 => ?_) (fun c20 => ?_)
    · have h := ok_t c20 h
      cases h
      exact Vvret C (dAt D_X12_readText 48 rfl) (by decide) (by decide) ⟨rfl, rfl, rfl⟩
    · have h := ok_f c20 h
      refine Vaload_n C 0 (dAt D_X12_readText 45 rfl) rfl rfl ?_
      refine Viconst (x := 1) C (dAt D_X12_readText 46 rfl) (by decide) ?_
      obtain ⟨r21, e22, h⟩ := ok_b h
      refine VcallV (as := [_]) C (dAt D_X12_readText 47 rfl) (m_X12_wrong hL e22) yv_X12_257 (Or.inl ⟨(kt_167 hL), by decide⟩) rfl rfl (Nat.le_of_ble_eq_true rfl) (by decide) (by decide) (by decide) (by decide) (Kvoid ?_)
      cases h
      exact Vvret C (dAt D_X12_readText 48 rfl) (by decide) (by decide) ⟨rfl, rfl, rfl⟩
def B_X12_readText_20 (f : Nat) : Nat → MT → Option MT
  | 0, _ => none
  | n + 1, u =>
    if (gI u 167 8) = 0 then
      (F_X12_isWord f (7 : Int32) u).bind fun r6 =>
      if r6.1 = 0 then
        (F_X12_readRule f r6.2).bind fun r9 =>
        B_X12_readText_20 f n r9
      else
        B_X12_readText_43 f r6.2
    else
      B_X12_readText_43 f u
theorem w_X12_readText_20 {z : ZT} {g : GT} {w : LT} (hL : Lay w) (C : Cx z g cX12_readText 1 RX12 none 8 0 0) {f : Nat} {r : MT} : ∀ (n : Nat) (u : MT), B_X12_readText_20 f n  u = some r → V z g 1 20 [(0, .ref 167)] [] w u 0 0 (Qv w r) := by
  intro n
  induction n with
  | zero =>
    intro  u h
    rw [B_X12_readText_20] at h
    cases h
  | succ n ih =>
    intro  u h
    rw [B_X12_readText_20] at h
    refine Vaload_n C 0 (dAt D_X12_readText 12 rfl) rfl rfl ?_
    refine VgetI C (dAt D_X12_readText 13 rfl) gf_X12_251 (kt_167 hL) rfl ?_
    refine Vif_ne (tgt := 43) C (dAt D_X12_readText 14 rfl) (by decide) (fun c5 => ?_) (fun c5 => ?_)
    · have h := ok_f c5 h
      exact Vsub [0] rfl (w_X12_readText_43 hL C  h)
    · have h := ok_t c5 h
      refine Vaload_n C 0 (dAt D_X12_readText 15 rfl) rfl rfl ?_
      refine Vbipush (x := 7) C (dAt D_X12_readText 16 rfl) (by decide) ?_
      obtain ⟨r6, e7, h⟩ := ok_b h
      refine VcallV (as := [_]) C (dAt D_X12_readText 17 rfl) (m_X12_isWord hL e7) yv_X12_261 (Or.inl ⟨(kt_167 hL), by decide⟩) rfl rfl (Nat.le_of_ble_eq_true rfl) (by decide) (by decide) (by decide) (by decide) (Kint ?_)
      refine Vif_ne (tgt := 43) C (dAt D_X12_readText 18 rfl) (by decide) (fun c8 => ?_) (fun c8 => ?_)
      · have h := ok_f c8 h
        exact Vsub [0] rfl (w_X12_readText_43 hL C  h)
      · have h := ok_t c8 h
        refine Vaload_n C 0 (dAt D_X12_readText 19 rfl) rfl rfl ?_
        obtain ⟨r9, e10, h⟩ := ok_b h
        refine VcallV (as := []) C (dAt D_X12_readText 20 rfl) (m_X12_readRule hL e10) yv_X12_270 (Or.inl ⟨(kt_167 hL), by decide⟩) rfl rfl (Nat.le_of_ble_eq_true rfl) (by decide) (by decide) (by decide) (by decide) (Kvoid ?_)
        refine Vgoto (tgt := 20) C (dAt D_X12_readText 21 rfl) (by decide) ?_
        exact Vsub [0] rfl (ih _  h)
def F_X12_readText (f : Nat) (u : MT) : Option MT :=
  (F_X12_cutAll f u).bind fun r1 =>
  let u3 := sI r1 173 7 (0 : Int32)
  let u4 := sI u3 184 7 (0 : Int32)
  B_X12_readText_20 f f u4
theorem m_X12_readText {g : GT} {w : LT} (hL : Lay w) {f : Nat} {u : MT} {r : MT} (h : F_X12_readText f  u = some r) : Mt g yX12_readText cX12_readText 1 none 8 0 0 [.ref 167] w u (Qv w r) := by
  refine Mt_of (own := RX12) (by decide +kernel) rfl (Nat.le_of_ble_eq_true rfl) (fun z C _ => ?_)
  show V z g 1 0 [(0, .ref 167)] [] w u 0 0 (Qv w r)
  rw [F_X12_readText] at h
  refine Vaload_n C 0 (dAt D_X12_readText 0 rfl) rfl rfl ?_
  obtain ⟨r1, e2, h⟩ := ok_b h
  refine VcallV (as := []) C (dAt D_X12_readText 1 rfl) (m_X12_cutAll hL e2) yv_X12_267 (Or.inl ⟨(kt_167 hL), by decide⟩) rfl rfl (Nat.le_of_ble_eq_true rfl) (by decide) (by decide) (by decide) (by decide) (Kvoid ?_)
  refine Vaload_n C 0 (dAt D_X12_readText 2 rfl) rfl rfl ?_
  refine VgetP C (dAt D_X12_readText 3 rfl) gf_X12_85 (kt_167 hL) rfl (kp_167_10 hL) ?_
  refine Vbipush (x := 7) C (dAt D_X12_readText 4 rfl) (by decide) ?_
  refine Viconst (x := 0) C (dAt D_X12_readText 5 rfl) (by decide) ?_
  refine ViastC 7 C (dAt D_X12_readText 6 rfl) (kt_173 hL) (kl_173 hL) (by decide) rfl ?_
  refine Vaload_n C 0 (dAt D_X12_readText 7 rfl) rfl rfl ?_
  refine VgetP C (dAt D_X12_readText 8 rfl) gf_X12_118 (kt_167 hL) rfl (kp_167_21 hL) ?_
  refine Vbipush (x := 7) C (dAt D_X12_readText 9 rfl) (by decide) ?_
  refine Viconst (x := 0) C (dAt D_X12_readText 10 rfl) (by decide) ?_
  refine ViastC 7 C (dAt D_X12_readText 11 rfl) (kt_184 hL) (kl_184 hL) (by decide) rfl ?_
  exact Vsub [0] rfl (w_X12_readText_20 hL C  f _  h)
def B_X12_keep_160 (f : Nat) : Nat → Int32 → Int32 → MT → Option MT
  | 0, _, _, _ => none
  | n + 1, x1, x2, u =>
    if (gI u 184 7) ≤ x2 then
      some u
    else
      ck (ixo ((9100 : Int32) + x2) 10400) <|
      ck (ixo (((1300 : Int32) * x1) + x2) 10400) <|
      let u21 := sI u 182 ((((1300 : Int32) * x1) + x2)).toNatClampNeg (gI u 182 (((9100 : Int32) + x2)).toNatClampNeg)
      let u22 := sI u21 183 ((((1300 : Int32) * x1) + x2)).toNatClampNeg (gI u21 183 (((9100 : Int32) + x2)).toNatClampNeg)
      let v23 := x2 + 1
      B_X12_keep_160 f n x1 v23 u22
theorem w_X12_keep_160 {z : ZT} {g : GT} {w : LT} (hL : Lay w) (C : Cx z g cX12_keep 5 RX12 none 0 0 0) {f : Nat} {r : MT} : ∀ (n : Nat) (x1 : Int32) (x2 : Int32) (u : MT), B_X12_keep_160 f n x1 x2 u = some r → V z g 5 160 [(0, .ref 167), (1, .int x1), (2, .int x2)] [] w u 0 0 (Qv w r) := by
  intro n
  induction n with
  | zero =>
    intro x1 x2 u h
    rw [B_X12_keep_160] at h
    cases h
  | succ n ih =>
    intro x1 x2 u h
    rw [B_X12_keep_160] at h
    refine Viload_n C 2 (dAt D_X12_keep 99 rfl) rfl rfl ?_
    refine Vaload_n C 0 (dAt D_X12_keep 100 rfl) rfl rfl ?_
    refine VgetP C (dAt D_X12_keep 101 rfl) gf_X12_118 (kt_167 hL) rfl (kp_167_21 hL) ?_
    refine Vbipush (x := 7) C (dAt D_X12_keep 102 rfl) (by decide) ?_
    refine VialdC 7 C (dAt D_X12_keep 103 rfl) (kt_184 hL) (kl_184 hL) (by decide) rfl ?_
    refine Vicmp_ge (tgt := 221) C (dAt D_X12_keep 104 rfl) (by decide) (fun c18 => ?_) (fun c18 => ?_)
    · have h := ok_t c18 h
      cases h
      exact Vvret C (dAt D_X12_keep 135 rfl) (by decide) (by decide) ⟨rfl, rfl, rfl⟩
    · have h := ok_f c18 h
      refine Vaload_n C 0 (dAt D_X12_keep 105 rfl) rfl rfl ?_
      refine VgetP C (dAt D_X12_keep 106 rfl) gf_X12_112 (kt_167 hL) rfl (kp_167_19 hL) ?_
      refine Vsipush (x := 1300) C (dAt D_X12_keep 107 rfl) (by decide) ?_
      refine Viload_n C 1 (dAt D_X12_keep 108 rfl) rfl rfl ?_
      refine Vimul C (dAt D_X12_keep 109 rfl) ?_
      refine Viload_n C 2 (dAt D_X12_keep 110 rfl) rfl rfl ?_
      refine Viadd C (dAt D_X12_keep 111 rfl) ?_
      refine Vaload_n C 0 (dAt D_X12_keep 112 rfl) rfl rfl ?_
      refine VgetP C (dAt D_X12_keep 113 rfl) gf_X12_112 (kt_167 hL) rfl (kp_167_19 hL) ?_
      refine Vsipush (x := 9100) C (dAt D_X12_keep 114 rfl) (by decide) ?_
      refine Viload_n C 2 (dAt D_X12_keep 115 rfl) rfl rfl ?_
      refine Viadd C (dAt D_X12_keep 116 rfl) ?_
      obtain ⟨c19, h⟩ := ok_ck h
      refine Viald C (dAt D_X12_keep 117 rfl) (kt_182 hL) (kl_182 hL) (vp_in_iff.mpr c19) ?_
      obtain ⟨c20, h⟩ := ok_ck h
      refine Viast C (dAt D_X12_keep 118 rfl) (kt_182 hL) (kl_182 hL) (vp_in_iff.mpr c20) ?_
      refine Vaload_n C 0 (dAt D_X12_keep 119 rfl) rfl rfl ?_
      refine VgetP C (dAt D_X12_keep 120 rfl) gf_X12_115 (kt_167 hL) rfl (kp_167_20 hL) ?_
      refine Vsipush (x := 1300) C (dAt D_X12_keep 121 rfl) (by decide) ?_
      refine Viload_n C 1 (dAt D_X12_keep 122 rfl) rfl rfl ?_
      refine Vimul C (dAt D_X12_keep 123 rfl) ?_
      refine Viload_n C 2 (dAt D_X12_keep 124 rfl) rfl rfl ?_
      refine Viadd C (dAt D_X12_keep 125 rfl) ?_
      refine Vaload_n C 0 (dAt D_X12_keep 126 rfl) rfl rfl ?_
      refine VgetP C (dAt D_X12_keep 127 rfl) gf_X12_115 (kt_167 hL) rfl (kp_167_20 hL) ?_
      refine Vsipush (x := 9100) C (dAt D_X12_keep 128 rfl) (by decide) ?_
      refine Viload_n C 2 (dAt D_X12_keep 129 rfl) rfl rfl ?_
      refine Viadd C (dAt D_X12_keep 130 rfl) ?_
      refine Viald C (dAt D_X12_keep 131 rfl) (kt_183 hL) (kl_183 hL) (vp_in_iff.mpr c19) ?_
      refine Viast C (dAt D_X12_keep 132 rfl) (kt_183 hL) (kl_183 hL) (vp_in_iff.mpr c20) ?_
      refine Viinc (j := 2) (v := _ + 1) (lv' := [(2, _), (0, _), (1, _)]) C (dAt D_X12_keep 133 rfl) rfl rfl (by decide) rfl ?_
      refine Vgoto (tgt := 160) C (dAt D_X12_keep 134 rfl) (by decide) ?_
      exact Vsub [1, 2, 0] rfl (ih _ _ _  h)
def B_X12_keep_41 (f : Nat) : Nat → Int32 → Int32 → MT → Option MT
  | 0, _, _, _ => none
  | n + 1, x1, x2, u =>
    if (24 : Int32) ≤ x2 then
      B_X12_keep_160 f f x1 (0 : Int32) u
    else
      let v6 := (((24 : Int32) * x1) + x2)
      let v7 := ((168 : Int32) + x2)
      ck (ixo v7 192) <|
      ck (ixo v6 192) <|
      let u10 := sI u 175 (v6).toNatClampNeg (gI u 175 (v7).toNatClampNeg)
      let u11 := sI u10 176 (v6).toNatClampNeg (gI u10 176 (v7).toNatClampNeg)
      let u12 := sI u11 177 (v6).toNatClampNeg (gI u11 177 (v7).toNatClampNeg)
      let u13 := sI u12 178 (v6).toNatClampNeg (gI u12 178 (v7).toNatClampNeg)
      let u14 := sI u13 179 (v6).toNatClampNeg (gI u13 179 (v7).toNatClampNeg)
      let u15 := sI u14 180 (v6).toNatClampNeg (gI u14 180 (v7).toNatClampNeg)
      let u16 := sI u15 181 (v6).toNatClampNeg (gI u15 181 (v7).toNatClampNeg)
      let v17 := x2 + 1
      B_X12_keep_41 f n x1 v17 u16
theorem w_X12_keep_41 {z : ZT} {g : GT} {w : LT} (hL : Lay w) (C : Cx z g cX12_keep 5 RX12 none 0 0 0) {f : Nat} {r : MT} : ∀ (n : Nat) (x1 : Int32) (x2 : Int32) (u : MT), B_X12_keep_41 f n x1 x2 u = some r → V z g 5 41 [(0, .ref 167), (1, .int x1), (2, .int x2)] [] w u 0 0 (Qv w r) := by
  intro n
  induction n with
  | zero =>
    intro x1 x2 u h
    rw [B_X12_keep_41] at h
    cases h
  | succ n ih =>
    intro x1 x2 u h
    rw [B_X12_keep_41] at h
    refine Viload_n C 2 (dAt D_X12_keep 26 rfl) rfl rfl ?_
    refine Vbipush (x := 24) C (dAt D_X12_keep 27 rfl) (by decide) ?_
    refine Vicmp_ge (tgt := 158) C (dAt D_X12_keep 28 rfl) (by decide) (fun c5 => ?_) (fun c5 => ?_)
    · have h := ok_t c5 h
      refine Viconst (x := 0) C (dAt D_X12_keep 97 rfl) (by decide) ?_
      refine Vistore_n (lv' := [(2, _), (0, _), (1, _)]) C (dAt D_X12_keep 98 rfl) rfl (by decide) rfl ?_
      exact Vsub [1, 2, 0] rfl (w_X12_keep_160 hL C  f _ _ _  h)
    · have h := ok_f c5 h
      refine Vbipush (x := 24) C (dAt D_X12_keep 29 rfl) (by decide) ?_
      refine Viload_n C 1 (dAt D_X12_keep 30 rfl) rfl rfl ?_
      refine Vimul C (dAt D_X12_keep 31 rfl) ?_
      refine Viload_n C 2 (dAt D_X12_keep 32 rfl) rfl rfl ?_
      refine Viadd C (dAt D_X12_keep 33 rfl) ?_
      refine Vistore_n (lv' := [(3, _), (0, _), (1, _), (2, _)]) C (dAt D_X12_keep 34 rfl) rfl (by decide) rfl ?_
      refine Vsipush (x := 168) C (dAt D_X12_keep 35 rfl) (by decide) ?_
      refine Viload_n C 3 (dAt D_X12_keep 36 rfl) rfl rfl ?_
      refine Viadd C (dAt D_X12_keep 37 rfl) ?_
      refine Vistore (lv' := [(4, _), (3, _), (0, _), (1, _), (2, _)]) C (dAt D_X12_keep 38 rfl) (by decide) rfl ?_
      refine Vaload_n C 2 (dAt D_X12_keep 39 rfl) rfl rfl ?_
      refine VgetP C (dAt D_X12_keep 40 rfl) gf_X12_91 (kt_167 hL) rfl (kp_167_12 hL) ?_
      refine Viload_n C 1 (dAt D_X12_keep 41 rfl) rfl rfl ?_
      refine Vaload_n C 2 (dAt D_X12_keep 42 rfl) rfl rfl ?_
      refine VgetP C (dAt D_X12_keep 43 rfl) gf_X12_91 (kt_167 hL) rfl (kp_167_12 hL) ?_
      refine Viload C 0 (dAt D_X12_keep 44 rfl) rfl ?_
      obtain ⟨c8, h⟩ := ok_ck h
      refine Viald C (dAt D_X12_keep 45 rfl) (kt_175 hL) (kl_175 hL) (vp_in_iff.mpr c8) ?_
      obtain ⟨c9, h⟩ := ok_ck h
      refine Viast C (dAt D_X12_keep 46 rfl) (kt_175 hL) (kl_175 hL) (vp_in_iff.mpr c9) ?_
      refine Vaload_n C 2 (dAt D_X12_keep 47 rfl) rfl rfl ?_
      refine VgetP C (dAt D_X12_keep 48 rfl) gf_X12_94 (kt_167 hL) rfl (kp_167_13 hL) ?_
      refine Viload_n C 1 (dAt D_X12_keep 49 rfl) rfl rfl ?_
      refine Vaload_n C 2 (dAt D_X12_keep 50 rfl) rfl rfl ?_
      refine VgetP C (dAt D_X12_keep 51 rfl) gf_X12_94 (kt_167 hL) rfl (kp_167_13 hL) ?_
      refine Viload C 0 (dAt D_X12_keep 52 rfl) rfl ?_
      refine Viald C (dAt D_X12_keep 53 rfl) (kt_176 hL) (kl_176 hL) (vp_in_iff.mpr c8) ?_
      refine Viast C (dAt D_X12_keep 54 rfl) (kt_176 hL) (kl_176 hL) (vp_in_iff.mpr c9) ?_
      refine Vaload_n C 2 (dAt D_X12_keep 55 rfl) rfl rfl ?_
      refine VgetP C (dAt D_X12_keep 56 rfl) gf_X12_97 (kt_167 hL) rfl (kp_167_14 hL) ?_
      refine Viload_n C 1 (dAt D_X12_keep 57 rfl) rfl rfl ?_
      refine Vaload_n C 2 (dAt D_X12_keep 58 rfl) rfl rfl ?_
      refine VgetP C (dAt D_X12_keep 59 rfl) gf_X12_97 (kt_167 hL) rfl (kp_167_14 hL) ?_
      refine Viload C 0 (dAt D_X12_keep 60 rfl) rfl ?_
      refine Viald C (dAt D_X12_keep 61 rfl) (kt_177 hL) (kl_177 hL) (vp_in_iff.mpr c8) ?_
      refine Viast C (dAt D_X12_keep 62 rfl) (kt_177 hL) (kl_177 hL) (vp_in_iff.mpr c9) ?_
      refine Vaload_n C 2 (dAt D_X12_keep 63 rfl) rfl rfl ?_
      refine VgetP C (dAt D_X12_keep 64 rfl) gf_X12_100 (kt_167 hL) rfl (kp_167_15 hL) ?_
      refine Viload_n C 1 (dAt D_X12_keep 65 rfl) rfl rfl ?_
      refine Vaload_n C 2 (dAt D_X12_keep 66 rfl) rfl rfl ?_
      refine VgetP C (dAt D_X12_keep 67 rfl) gf_X12_100 (kt_167 hL) rfl (kp_167_15 hL) ?_
      refine Viload C 0 (dAt D_X12_keep 68 rfl) rfl ?_
      refine Viald C (dAt D_X12_keep 69 rfl) (kt_178 hL) (kl_178 hL) (vp_in_iff.mpr c8) ?_
      refine Viast C (dAt D_X12_keep 70 rfl) (kt_178 hL) (kl_178 hL) (vp_in_iff.mpr c9) ?_
      refine Vaload_n C 2 (dAt D_X12_keep 71 rfl) rfl rfl ?_
      refine VgetP C (dAt D_X12_keep 72 rfl) gf_X12_103 (kt_167 hL) rfl (kp_167_16 hL) ?_
      refine Viload_n C 1 (dAt D_X12_keep 73 rfl) rfl rfl ?_
      refine Vaload_n C 2 (dAt D_X12_keep 74 rfl) rfl rfl ?_
      refine VgetP C (dAt D_X12_keep 75 rfl) gf_X12_103 (kt_167 hL) rfl (kp_167_16 hL) ?_
      refine Viload C 0 (dAt D_X12_keep 76 rfl) rfl ?_
      refine Viald C (dAt D_X12_keep 77 rfl) (kt_179 hL) (kl_179 hL) (vp_in_iff.mpr c8) ?_
      refine Viast C (dAt D_X12_keep 78 rfl) (kt_179 hL) (kl_179 hL) (vp_in_iff.mpr c9) ?_
      refine Vaload_n C 2 (dAt D_X12_keep 79 rfl) rfl rfl ?_
      refine VgetP C (dAt D_X12_keep 80 rfl) gf_X12_106 (kt_167 hL) rfl (kp_167_17 hL) ?_
      refine Viload_n C 1 (dAt D_X12_keep 81 rfl) rfl rfl ?_
      refine Vaload_n C 2 (dAt D_X12_keep 82 rfl) rfl rfl ?_
      refine VgetP C (dAt D_X12_keep 83 rfl) gf_X12_106 (kt_167 hL) rfl (kp_167_17 hL) ?_
      refine Viload C 0 (dAt D_X12_keep 84 rfl) rfl ?_
      refine Viald C (dAt D_X12_keep 85 rfl) (kt_180 hL) (kl_180 hL) (vp_in_iff.mpr c8) ?_
      refine Viast C (dAt D_X12_keep 86 rfl) (kt_180 hL) (kl_180 hL) (vp_in_iff.mpr c9) ?_
      refine Vaload_n C 2 (dAt D_X12_keep 87 rfl) rfl rfl ?_
      refine VgetP C (dAt D_X12_keep 88 rfl) gf_X12_109 (kt_167 hL) rfl (kp_167_18 hL) ?_
      refine Viload_n C 1 (dAt D_X12_keep 89 rfl) rfl rfl ?_
      refine Vaload_n C 2 (dAt D_X12_keep 90 rfl) rfl rfl ?_
      refine VgetP C (dAt D_X12_keep 91 rfl) gf_X12_109 (kt_167 hL) rfl (kp_167_18 hL) ?_
      refine Viload C 0 (dAt D_X12_keep 92 rfl) rfl ?_
      refine Viald C (dAt D_X12_keep 93 rfl) (kt_181 hL) (kl_181 hL) (vp_in_iff.mpr c8) ?_
      refine Viast C (dAt D_X12_keep 94 rfl) (kt_181 hL) (kl_181 hL) (vp_in_iff.mpr c9) ?_
      refine Viinc (j := 4) (v := _ + 1) (lv' := [(2, _), (4, _), (3, _), (0, _), (1, _)]) C (dAt D_X12_keep 95 rfl) rfl rfl (by decide) rfl ?_
      refine Vgoto (tgt := 41) C (dAt D_X12_keep 96 rfl) (by decide) ?_
      exact Vsub [3, 4, 0] rfl (ih _ _ _  h)
def F_X12_keep (f : Nat) (x1 : Int32) (u : MT) : Option MT :=
  ck (ixo x1 8) <|
  let u2 := sI u 173 (x1).toNatClampNeg (gI u 173 7)
  let u3 := sI u2 174 (x1).toNatClampNeg (gI u2 174 7)
  let u4 := sI u3 184 (x1).toNatClampNeg (gI u3 184 7)
  B_X12_keep_41 f f x1 (0 : Int32) u4
theorem m_X12_keep {g : GT} {w : LT} (hL : Lay w) {x1 : Int32} {f : Nat} {u : MT} {r : MT} (h : F_X12_keep f x1 u = some r) : Mt g yX12_keep cX12_keep 5 none 0 0 0 [.ref 167, .int x1] w u (Qv w r) := by
  refine Mt_of (own := RX12) (by decide +kernel) rfl (Nat.le_of_ble_eq_true rfl) (fun z C _ => ?_)
  show V z g 5 0 [(0, .ref 167), (1, .int x1)] [] w u 0 0 (Qv w r)
  rw [F_X12_keep] at h
  refine Vaload_n C 0 (dAt D_X12_keep 0 rfl) rfl rfl ?_
  refine VgetP C (dAt D_X12_keep 1 rfl) gf_X12_85 (kt_167 hL) rfl (kp_167_10 hL) ?_
  refine Viload_n C 1 (dAt D_X12_keep 2 rfl) rfl rfl ?_
  refine Vaload_n C 0 (dAt D_X12_keep 3 rfl) rfl rfl ?_
  refine VgetP C (dAt D_X12_keep 4 rfl) gf_X12_85 (kt_167 hL) rfl (kp_167_10 hL) ?_
  refine Vbipush (x := 7) C (dAt D_X12_keep 5 rfl) (by decide) ?_
  refine VialdC 7 C (dAt D_X12_keep 6 rfl) (kt_173 hL) (kl_173 hL) (by decide) rfl ?_
  obtain ⟨c1, h⟩ := ok_ck h
  refine Viast C (dAt D_X12_keep 7 rfl) (kt_173 hL) (kl_173 hL) (vp_in_iff.mpr c1) ?_
  refine Vaload_n C 0 (dAt D_X12_keep 8 rfl) rfl rfl ?_
  refine VgetP C (dAt D_X12_keep 9 rfl) gf_X12_88 (kt_167 hL) rfl (kp_167_11 hL) ?_
  refine Viload_n C 1 (dAt D_X12_keep 10 rfl) rfl rfl ?_
  refine Vaload_n C 0 (dAt D_X12_keep 11 rfl) rfl rfl ?_
  refine VgetP C (dAt D_X12_keep 12 rfl) gf_X12_88 (kt_167 hL) rfl (kp_167_11 hL) ?_
  refine Vbipush (x := 7) C (dAt D_X12_keep 13 rfl) (by decide) ?_
  refine VialdC 7 C (dAt D_X12_keep 14 rfl) (kt_174 hL) (kl_174 hL) (by decide) rfl ?_
  refine Viast C (dAt D_X12_keep 15 rfl) (kt_174 hL) (kl_174 hL) (vp_in_iff.mpr c1) ?_
  refine Vaload_n C 0 (dAt D_X12_keep 16 rfl) rfl rfl ?_
  refine VgetP C (dAt D_X12_keep 17 rfl) gf_X12_118 (kt_167 hL) rfl (kp_167_21 hL) ?_
  refine Viload_n C 1 (dAt D_X12_keep 18 rfl) rfl rfl ?_
  refine Vaload_n C 0 (dAt D_X12_keep 19 rfl) rfl rfl ?_
  refine VgetP C (dAt D_X12_keep 20 rfl) gf_X12_118 (kt_167 hL) rfl (kp_167_21 hL) ?_
  refine Vbipush (x := 7) C (dAt D_X12_keep 21 rfl) (by decide) ?_
  refine VialdC 7 C (dAt D_X12_keep 22 rfl) (kt_184 hL) (kl_184 hL) (by decide) rfl ?_
  refine Viast C (dAt D_X12_keep 23 rfl) (kt_184 hL) (kl_184 hL) (vp_in_iff.mpr c1) ?_
  refine Viconst (x := 0) C (dAt D_X12_keep 24 rfl) (by decide) ?_
  refine Vistore_n (lv' := [(2, _), (0, _), (1, _)]) C (dAt D_X12_keep 25 rfl) rfl (by decide) rfl ?_
  exact Vsub [1, 2, 0] rfl (w_X12_keep_41 hL C  f _ _ _  h)
def B_X12_text_47 (f : Nat) (u : MT) : Option (Int32 × MT) :=
  let u8 := sI u 167 2 (0 : Int32)
  some ((-1 : Int32), u8)
theorem w_X12_text_47 {z : ZT} {g : GT} {w : LT} (hL : Lay w) (C : Cx z g cX12_text 2 RX12 (some .int) 9 0 0) {f : Nat} {r : (Int32 × MT)} {u : MT} (h : B_X12_text_47 f  u = some r) : V z g 2 47 [(0, .ref 167)] [] w u 0 0 (Qi r.1 w r.2) := by
  rw [B_X12_text_47] at h
  refine Vaload_n C 0 (dAt D_X12_text 24 rfl) rfl rfl ?_
  refine Viconst (x := 0) C (dAt D_X12_text 25 rfl) (by decide) ?_
  refine VputI C (dAt D_X12_text 26 rfl) gf_X12_11 (kt_167 hL) rfl rfl rfl rfl ?_
  refine Viconst (x := (-1)) C (dAt D_X12_text 27 rfl) (by decide) ?_
  cases h
  exact Viret C (dAt D_X12_text 28 rfl) (by decide) (by decide) ⟨rfl, rfl, rfl⟩
def B_X12_text_54 (f : Nat) (x1 : Int32) (u : MT) : Option (Int32 × MT) :=
  (F_X12_readText f u).bind fun r9 =>
  if (gI r9 167 8) ≤ 0 then
    (F_X12_keep f (gI r9 167 22) r9).bind fun r12 =>
    ck (ixo (gI r12 167 22) 6) <|
    let u15 := sI r12 185 ((gI r12 167 22)).toNatClampNeg x1
    ck (ixo (gI u15 167 22) 6) <|
    let u17 := sI u15 186 ((gI u15 167 22)).toNatClampNeg (gI u15 167 40)
    let u18 := sI u17 167 22 ((gI u17 167 22) + (1 : Int32))
    some ((0 : Int32), u18)
  else
    some ((gI r9 167 8), r9)
theorem w_X12_text_54 {z : ZT} {g : GT} {w : LT} (hL : Lay w) (C : Cx z g cX12_text 2 RX12 (some .int) 9 0 0) {f : Nat} {r : (Int32 × MT)} {x1 : Int32} {u : MT} (h : B_X12_text_54 f x1 u = some r) : V z g 2 54 [(0, .ref 167), (1, .int x1)] [] w u 0 0 (Qi r.1 w r.2) := by
  rw [B_X12_text_54] at h
  refine Vaload_n C 0 (dAt D_X12_text 29 rfl) rfl rfl ?_
  obtain ⟨r9, e10, h⟩ := ok_b h
  refine VcallV (as := []) C (dAt D_X12_text 30 rfl) (m_X12_readText hL e10) yv_X12_331 (Or.inl ⟨(kt_167 hL), by decide⟩) rfl rfl (Nat.le_of_ble_eq_true rfl) (by decide) (by decide) (by decide) (by decide) (Kvoid ?_)
  refine Vaload_n C 0 (dAt D_X12_text 31 rfl) rfl rfl ?_
  refine VgetI C (dAt D_X12_text 32 rfl) gf_X12_251 (kt_167 hL) rfl ?_
  refine Vif_le (tgt := 70) C (dAt D_X12_text 33 rfl) (by decide) (fun c11 => ?_) (fun c11 => ?_)
  · have h := ok_t c11 h
    refine Vaload_n C 0 (dAt D_X12_text 37 rfl) rfl rfl ?_
    refine Vaload_n C 0 (dAt D_X12_text 38 rfl) rfl rfl ?_
    refine VgetI C (dAt D_X12_text 39 rfl) gf_X12_328 (kt_167 hL) rfl ?_
    obtain ⟨r12, e13, h⟩ := ok_b h
    refine VcallV (as := [_]) C (dAt D_X12_text 40 rfl) (m_X12_keep hL e13) yv_X12_334 (Or.inl ⟨(kt_167 hL), by decide⟩) rfl rfl (Nat.le_of_ble_eq_true rfl) (by decide) (by decide) (by decide) (by decide) (Kvoid ?_)
    refine Vaload_n C 0 (dAt D_X12_text 41 rfl) rfl rfl ?_
    refine VgetP C (dAt D_X12_text 42 rfl) gf_X12_121 (kt_167 hL) rfl (kp_167_23 hL) ?_
    refine Vaload_n C 0 (dAt D_X12_text 43 rfl) rfl rfl ?_
    refine VgetI C (dAt D_X12_text 44 rfl) gf_X12_328 (kt_167 hL) rfl ?_
    refine Viload_n C 1 (dAt D_X12_text 45 rfl) rfl rfl ?_
    obtain ⟨c14, h⟩ := ok_ck h
    refine Viast C (dAt D_X12_text 46 rfl) (kt_185 hL) (kl_185 hL) (vp_in_iff.mpr c14) ?_
    refine Vaload_n C 0 (dAt D_X12_text 47 rfl) rfl rfl ?_
    refine VgetP C (dAt D_X12_text 48 rfl) gf_X12_124 (kt_167 hL) rfl (kp_167_24 hL) ?_
    refine Vaload_n C 0 (dAt D_X12_text 49 rfl) rfl rfl ?_
    refine VgetI C (dAt D_X12_text 50 rfl) gf_X12_328 (kt_167 hL) rfl ?_
    refine Vaload_n C 0 (dAt D_X12_text 51 rfl) rfl rfl ?_
    refine VgetI C (dAt D_X12_text 52 rfl) gf_X12_337 (kt_167 hL) rfl ?_
    obtain ⟨c16, h⟩ := ok_ck h
    refine Viast C (dAt D_X12_text 53 rfl) (kt_186 hL) (kl_186 hL) (vp_in_iff.mpr c16) ?_
    refine Vaload_n C 0 (dAt D_X12_text 54 rfl) rfl rfl ?_
    refine Vdup C (dAt D_X12_text 55 rfl) rfl ?_
    refine VgetI C (dAt D_X12_text 56 rfl) gf_X12_328 (kt_167 hL) rfl ?_
    refine Viconst (x := 1) C (dAt D_X12_text 57 rfl) (by decide) ?_
    refine Viadd C (dAt D_X12_text 58 rfl) ?_
    refine VputI C (dAt D_X12_text 59 rfl) gf_X12_328 (kt_167 hL) rfl rfl rfl rfl ?_
    refine Viconst (x := 0) C (dAt D_X12_text 60 rfl) (by decide) ?_
    cases h
    exact Viret C (dAt D_X12_text 61 rfl) (by decide) (by decide) ⟨rfl, rfl, rfl⟩
  · have h := ok_f c11 h
    refine Vaload_n C 0 (dAt D_X12_text 34 rfl) rfl rfl ?_
    refine VgetI C (dAt D_X12_text 35 rfl) gf_X12_251 (kt_167 hL) rfl ?_
    cases h
    exact Viret C (dAt D_X12_text 36 rfl) (by decide) (by decide) ⟨rfl, rfl, rfl⟩
def F_X12_text (f : Nat) (x1 : Int32) (u : MT) : Option (Int32 × MT) :=
  let u1 := sI u 167 0 (0 : Int32)
  if x1 < 0 then
    B_X12_text_47 f u1
  else
    if (239 : Int32) < x1 then
      B_X12_text_47 f u1
    else
      if (gI u1 167 22) = (6 : Int32) then
        B_X12_text_47 f u1
      else
        if (gI u1 167 22) ≤ 0 then
          B_X12_text_54 f x1 u1
        else
          ck (ixo ((gI u1 167 22) - (1 : Int32)) 6) <|
          if (gI u1 185 (((gI u1 167 22) - (1 : Int32))).toNatClampNeg) < x1 then
            B_X12_text_54 f x1 u1
          else
            B_X12_text_47 f u1
theorem m_X12_text {g : GT} {w : LT} (hL : Lay w) {x1 : Int32} {f : Nat} {u : MT} {r : (Int32 × MT)} (h : F_X12_text f x1 u = some r) : Mt g yX12_text cX12_text 2 (some .int) 9 0 0 [.ref 167, .int x1] w u (Qi r.1 w r.2) := by
  refine Mt_of (own := RX12) (by decide +kernel) rfl (Nat.le_of_ble_eq_true rfl) (fun z C _ => ?_)
  show V z g 2 0 [(0, .ref 167), (1, .int x1)] [] w u 0 0 (Qi r.1 w r.2)
  rw [F_X12_text] at h
  refine Vaload_n C 0 (dAt D_X12_text 0 rfl) rfl rfl ?_
  refine Viconst (x := 0) C (dAt D_X12_text 1 rfl) (by decide) ?_
  refine VputI C (dAt D_X12_text 2 rfl) gf_X12_1 (kt_167 hL) rfl rfl rfl rfl ?_
  refine Viload_n C 1 (dAt D_X12_text 3 rfl) rfl rfl ?_
  refine Vif_lt (tgt := 47) C (dAt D_X12_text 4 rfl) (by decide) (fun c2 => ?_) (fun c2 => ?_)
  · have h := ok_t c2 h
    exact Vsub [0] rfl (w_X12_text_47 hL C  h)
  · have h := ok_f c2 h
    refine Viload_n C 1 (dAt D_X12_text 5 rfl) rfl rfl ?_
    refine Vsipush (x := 239) C (dAt D_X12_text 6 rfl) (by decide) ?_
    refine Vicmp_gt (tgt := 47) C (dAt D_X12_text 7 rfl) (by decide) (fun c3 => ?_) (fun c3 => ?_)
    · have h := ok_t c3 h
      exact Vsub [0] rfl (w_X12_text_47 hL C  h)
    · have h := ok_f c3 h
      refine Vaload_n C 0 (dAt D_X12_text 8 rfl) rfl rfl ?_
      refine VgetI C (dAt D_X12_text 9 rfl) gf_X12_328 (kt_167 hL) rfl ?_
      refine Vbipush (x := 6) C (dAt D_X12_text 10 rfl) (by decide) ?_
      refine Vicmp_eq (tgt := 47) C (dAt D_X12_text 11 rfl) (by decide) (fun c4 => ?_) (fun c4 => ?_)
      · have h := ok_t c4 h
        exact Vsub [0] rfl (w_X12_text_47 hL C  h)
      · have h := ok_f c4 h
        refine Vaload_n C 0 (dAt D_X12_text 12 rfl) rfl rfl ?_
        refine VgetI C (dAt D_X12_text 13 rfl) gf_X12_328 (kt_167 hL) rfl ?_
        refine Vif_le (tgt := 54) C (dAt D_X12_text 14 rfl) (by decide) (fun c5 => ?_) (fun c5 => ?_)
        · have h := ok_t c5 h
          exact Vsub [0, 1] rfl (w_X12_text_54 hL C  h)
        · have h := ok_f c5 h
          refine Viload_n C 1 (dAt D_X12_text 15 rfl) rfl rfl ?_
          refine Vaload_n C 0 (dAt D_X12_text 16 rfl) rfl rfl ?_
          refine VgetP C (dAt D_X12_text 17 rfl) gf_X12_121 (kt_167 hL) rfl (kp_167_23 hL) ?_
          refine Vaload_n C 0 (dAt D_X12_text 18 rfl) rfl rfl ?_
          refine VgetI C (dAt D_X12_text 19 rfl) gf_X12_328 (kt_167 hL) rfl ?_
          refine Viconst (x := 1) C (dAt D_X12_text 20 rfl) (by decide) ?_
          refine Visub C (dAt D_X12_text 21 rfl) ?_
          obtain ⟨c6, h⟩ := ok_ck h
          refine Viald C (dAt D_X12_text 22 rfl) (kt_185 hL) (kl_185 hL) (vp_in_iff.mpr c6) ?_
          refine Vicmp_gt (tgt := 54) C (dAt D_X12_text 23 rfl) (by decide) (fun c7 => ?_) (fun c7 => ?_)
          · have h := ok_t c7 h
            exact Vsub [0, 1] rfl (w_X12_text_54 hL C  h)
          · have h := ok_f c7 h
            exact Vsub [0] rfl (w_X12_text_47 hL C  h)
def B_X12_other_27 (f : Nat) (u : MT) : Option (Int32 × MT) :=
  some ((gI u 167 8), u)
theorem w_X12_other_27 {z : ZT} {g : GT} {w : LT} (hL : Lay w) (C : Cx z g cX12_other 1 RX12 (some .int) 9 0 0) {f : Nat} {r : (Int32 × MT)} {u : MT} (h : B_X12_other_27 f  u = some r) : V z g 1 27 [(0, .ref 167)] [] w u 0 0 (Qi r.1 w r.2) := by
  rw [B_X12_other_27] at h
  refine Vaload_n C 0 (dAt D_X12_other 14 rfl) rfl rfl ?_
  refine VgetI C (dAt D_X12_other 15 rfl) gf_X12_251 (kt_167 hL) rfl ?_
  cases h
  exact Viret C (dAt D_X12_other 16 rfl) (by decide) (by decide) ⟨rfl, rfl, rfl⟩
def F_X12_other (f : Nat) (u : MT) : Option (Int32 × MT) :=
  let u1 := sI u 167 0 (0 : Int32)
  (F_X12_readText f u1).bind fun r2 =>
  if (gI r2 167 8) = 0 then
    (F_X12_keep f (6 : Int32) r2).bind fun r5 =>
    let u7 := sI r5 167 25 (1 : Int32)
    B_X12_other_27 f u7
  else
    B_X12_other_27 f r2
theorem m_X12_other {g : GT} {w : LT} (hL : Lay w) {f : Nat} {u : MT} {r : (Int32 × MT)} (h : F_X12_other f  u = some r) : Mt g yX12_other cX12_other 1 (some .int) 9 0 0 [.ref 167] w u (Qi r.1 w r.2) := by
  refine Mt_of (own := RX12) (by decide +kernel) rfl (Nat.le_of_ble_eq_true rfl) (fun z C _ => ?_)
  show V z g 1 0 [(0, .ref 167)] [] w u 0 0 (Qi r.1 w r.2)
  rw [F_X12_other] at h
  refine Vaload_n C 0 (dAt D_X12_other 0 rfl) rfl rfl ?_
  refine Viconst (x := 0) C (dAt D_X12_other 1 rfl) (by decide) ?_
  refine VputI C (dAt D_X12_other 2 rfl) gf_X12_1 (kt_167 hL) rfl rfl rfl rfl ?_
  refine Vaload_n C 0 (dAt D_X12_other 3 rfl) rfl rfl ?_
  obtain ⟨r2, e3, h⟩ := ok_b h
  refine VcallV (as := []) C (dAt D_X12_other 4 rfl) (m_X12_readText hL e3) yv_X12_331 (Or.inl ⟨(kt_167 hL), by decide⟩) rfl rfl (Nat.le_of_ble_eq_true rfl) (by decide) (by decide) (by decide) (by decide) (Kvoid ?_)
  refine Vaload_n C 0 (dAt D_X12_other 5 rfl) rfl rfl ?_
  refine VgetI C (dAt D_X12_other 6 rfl) gf_X12_251 (kt_167 hL) rfl ?_
  refine Vif_ne (tgt := 27) C (dAt D_X12_other 7 rfl) (by decide) (fun c4 => ?_) (fun c4 => ?_)
  · have h := ok_f c4 h
    exact Vsub [0] rfl (w_X12_other_27 hL C  h)
  · have h := ok_t c4 h
    refine Vaload_n C 0 (dAt D_X12_other 8 rfl) rfl rfl ?_
    refine Vbipush (x := 6) C (dAt D_X12_other 9 rfl) (by decide) ?_
    obtain ⟨r5, e6, h⟩ := ok_b h
    refine VcallV (as := [_]) C (dAt D_X12_other 10 rfl) (m_X12_keep hL e6) yv_X12_334 (Or.inl ⟨(kt_167 hL), by decide⟩) rfl rfl (Nat.le_of_ble_eq_true rfl) (by decide) (by decide) (by decide) (by decide) (Kvoid ?_)
    refine Vaload_n C 0 (dAt D_X12_other 11 rfl) rfl rfl ?_
    refine Viconst (x := 1) C (dAt D_X12_other 12 rfl) (by decide) ?_
    refine VputI C (dAt D_X12_other 13 rfl) gf_X12_340 (kt_167 hL) rfl rfl rfl rfl ?_
    exact Vsub [0] rfl (w_X12_other_27 hL C  h)
def F_X12_house (f : Nat) (x1 : Int32) (x2 : Int32) (u : MT) : Option (Int32 × MT) :=
  let u1 := sI u 167 0 (0 : Int32)
  if x1 < (1 : Int32) then
    some ((-1 : Int32), u1)
  else
    if (1000 : Int32) < x1 then
      some ((-1 : Int32), u1)
    else
      if x2 < 0 then
        some ((-1 : Int32), u1)
      else
        if (5000 : Int32) < x2 then
          some ((-1 : Int32), u1)
        else
          if (gI u1 167 31) = (12 : Int32) then
            some ((-1 : Int32), u1)
          else
            if 0 < (gI u1 167 34) then
              some ((-1 : Int32), u1)
            else
              if 0 < (gI u1 167 22) then
                some ((-1 : Int32), u1)
              else
                if (gI u1 167 25) = 0 then
                  ck (ixo (gI u1 167 31) 12) <|
                  let u11 := sI u1 189 ((gI u1 167 31)).toNatClampNeg x1
                  ck (ixo (gI u11 167 31) 12) <|
                  let u13 := sI u11 190 ((gI u11 167 31)).toNatClampNeg x2
                  let u14 := sI u13 167 31 ((gI u13 167 31) + (1 : Int32))
                  some (((gI u14 167 31) - (1 : Int32)), u14)
                else
                  some ((-1 : Int32), u1)
theorem m_X12_house {g : GT} {w : LT} (hL : Lay w) {x1 : Int32} {x2 : Int32} {f : Nat} {u : MT} {r : (Int32 × MT)} (h : F_X12_house f x1 x2 u = some r) : Mt g yX12_house cX12_house 3 (some .int) 0 0 0 [.ref 167, .int x1, .int x2] w u (Qi r.1 w r.2) := by
  refine Mt_of (own := RX12) (by decide +kernel) rfl (Nat.le_of_ble_eq_true rfl) (fun z C _ => ?_)
  show V z g 3 0 [(0, .ref 167), (1, .int x1), (2, .int x2)] [] w u 0 0 (Qi r.1 w r.2)
  rw [F_X12_house] at h
  refine Vaload_n C 0 (dAt D_X12_house 0 rfl) rfl rfl ?_
  refine Viconst (x := 0) C (dAt D_X12_house 1 rfl) (by decide) ?_
  refine VputI C (dAt D_X12_house 2 rfl) gf_X12_1 (kt_167 hL) rfl rfl rfl rfl ?_
  refine Viload_n C 1 (dAt D_X12_house 3 rfl) rfl rfl ?_
  refine Viconst (x := 1) C (dAt D_X12_house 4 rfl) (by decide) ?_
  refine Vicmp_lt (tgt := 58) C (dAt D_X12_house 5 rfl) (by decide) (fun c2 => ?_) (fun c2 => ?_)
  · have h := ok_t c2 h
    refine Viconst (x := (-1)) C (dAt D_X12_house 27 rfl) (by decide) ?_
    cases h
    exact Viret C (dAt D_X12_house 28 rfl) (by decide) (by decide) ⟨rfl, rfl, rfl⟩
  · have h := ok_f c2 h
    refine Viload_n C 1 (dAt D_X12_house 6 rfl) rfl rfl ?_
    refine Vsipush (x := 1000) C (dAt D_X12_house 7 rfl) (by decide) ?_
    refine Vicmp_gt (tgt := 58) C (dAt D_X12_house 8 rfl) (by decide) (fun c3 => ?_) (fun c3 => ?_)
    · have h := ok_t c3 h
      refine Viconst (x := (-1)) C (dAt D_X12_house 27 rfl) (by decide) ?_
      cases h
      exact Viret C (dAt D_X12_house 28 rfl) (by decide) (by decide) ⟨rfl, rfl, rfl⟩
    · have h := ok_f c3 h
      refine Viload_n C 2 (dAt D_X12_house 9 rfl) rfl rfl ?_
      refine Vif_lt (tgt := 58) C (dAt D_X12_house 10 rfl) (by decide) (fun c4 => ?_) (fun c4 => ?_)
      · have h := ok_t c4 h
        refine Viconst (x := (-1)) C (dAt D_X12_house 27 rfl) (by decide) ?_
        cases h
        exact Viret C (dAt D_X12_house 28 rfl) (by decide) (by decide) ⟨rfl, rfl, rfl⟩
      · have h := ok_f c4 h
        refine Viload_n C 2 (dAt D_X12_house 11 rfl) rfl rfl ?_
        refine Vsipush (x := 5000) C (dAt D_X12_house 12 rfl) (by decide) ?_
        refine Vicmp_gt (tgt := 58) C (dAt D_X12_house 13 rfl) (by decide) (fun c5 => ?_) (fun c5 => ?_)
        · have h := ok_t c5 h
          refine Viconst (x := (-1)) C (dAt D_X12_house 27 rfl) (by decide) ?_
          cases h
          exact Viret C (dAt D_X12_house 28 rfl) (by decide) (by decide) ⟨rfl, rfl, rfl⟩
        · have h := ok_f c5 h
          refine Vaload_n C 0 (dAt D_X12_house 14 rfl) rfl rfl ?_
          refine VgetI C (dAt D_X12_house 15 rfl) gf_X12_300 (kt_167 hL) rfl ?_
          refine Vbipush (x := 12) C (dAt D_X12_house 16 rfl) (by decide) ?_
          refine Vicmp_eq (tgt := 58) C (dAt D_X12_house 17 rfl) (by decide) (fun c6 => ?_) (fun c6 => ?_)
          · have h := ok_t c6 h
            refine Viconst (x := (-1)) C (dAt D_X12_house 27 rfl) (by decide) ?_
            cases h
            exact Viret C (dAt D_X12_house 28 rfl) (by decide) (by decide) ⟨rfl, rfl, rfl⟩
          · have h := ok_f c6 h
            refine Vaload_n C 0 (dAt D_X12_house 18 rfl) rfl rfl ?_
            refine VgetI C (dAt D_X12_house 19 rfl) gf_X12_344 (kt_167 hL) rfl ?_
            refine Vif_gt (tgt := 58) C (dAt D_X12_house 20 rfl) (by decide) (fun c7 => ?_) (fun c7 => ?_)
            · have h := ok_t c7 h
              refine Viconst (x := (-1)) C (dAt D_X12_house 27 rfl) (by decide) ?_
              cases h
              exact Viret C (dAt D_X12_house 28 rfl) (by decide) (by decide) ⟨rfl, rfl, rfl⟩
            · have h := ok_f c7 h
              refine Vaload_n C 0 (dAt D_X12_house 21 rfl) rfl rfl ?_
              refine VgetI C (dAt D_X12_house 22 rfl) gf_X12_328 (kt_167 hL) rfl ?_
              refine Vif_gt (tgt := 58) C (dAt D_X12_house 23 rfl) (by decide) (fun c8 => ?_) (fun c8 => ?_)
              · have h := ok_t c8 h
                refine Viconst (x := (-1)) C (dAt D_X12_house 27 rfl) (by decide) ?_
                cases h
                exact Viret C (dAt D_X12_house 28 rfl) (by decide) (by decide) ⟨rfl, rfl, rfl⟩
              · have h := ok_f c8 h
                refine Vaload_n C 0 (dAt D_X12_house 24 rfl) rfl rfl ?_
                refine VgetI C (dAt D_X12_house 25 rfl) gf_X12_340 (kt_167 hL) rfl ?_
                refine Vif_eq (tgt := 60) C (dAt D_X12_house 26 rfl) (by decide) (fun c9 => ?_) (fun c9 => ?_)
                · have h := ok_t c9 h
                  refine Vaload_n C 0 (dAt D_X12_house 29 rfl) rfl rfl ?_
                  refine VgetP C (dAt D_X12_house 30 rfl) gf_X12_133 (kt_167 hL) rfl (kp_167_32 hL) ?_
                  refine Vaload_n C 0 (dAt D_X12_house 31 rfl) rfl rfl ?_
                  refine VgetI C (dAt D_X12_house 32 rfl) gf_X12_300 (kt_167 hL) rfl ?_
                  refine Viload_n C 1 (dAt D_X12_house 33 rfl) rfl rfl ?_
                  obtain ⟨c10, h⟩ := ok_ck h
                  refine Viast C (dAt D_X12_house 34 rfl) (kt_189 hL) (kl_189 hL) (vp_in_iff.mpr c10) ?_
                  refine Vaload_n C 0 (dAt D_X12_house 35 rfl) rfl rfl ?_
                  refine VgetP C (dAt D_X12_house 36 rfl) gf_X12_136 (kt_167 hL) rfl (kp_167_33 hL) ?_
                  refine Vaload_n C 0 (dAt D_X12_house 37 rfl) rfl rfl ?_
                  refine VgetI C (dAt D_X12_house 38 rfl) gf_X12_300 (kt_167 hL) rfl ?_
                  refine Viload_n C 2 (dAt D_X12_house 39 rfl) rfl rfl ?_
                  obtain ⟨c12, h⟩ := ok_ck h
                  refine Viast C (dAt D_X12_house 40 rfl) (kt_190 hL) (kl_190 hL) (vp_in_iff.mpr c12) ?_
                  refine Vaload_n C 0 (dAt D_X12_house 41 rfl) rfl rfl ?_
                  refine Vdup C (dAt D_X12_house 42 rfl) rfl ?_
                  refine VgetI C (dAt D_X12_house 43 rfl) gf_X12_300 (kt_167 hL) rfl ?_
                  refine Viconst (x := 1) C (dAt D_X12_house 44 rfl) (by decide) ?_
                  refine Viadd C (dAt D_X12_house 45 rfl) ?_
                  refine VputI C (dAt D_X12_house 46 rfl) gf_X12_300 (kt_167 hL) rfl rfl rfl rfl ?_
                  refine Vaload_n C 0 (dAt D_X12_house 47 rfl) rfl rfl ?_
                  refine VgetI C (dAt D_X12_house 48 rfl) gf_X12_300 (kt_167 hL) rfl ?_
                  refine Viconst (x := 1) C (dAt D_X12_house 49 rfl) (by decide) ?_
                  refine Visub C (dAt D_X12_house 50 rfl) ?_
                  cases h
                  exact Viret C (dAt D_X12_house 51 rfl) (by decide) (by decide) ⟨rfl, rfl, rfl⟩
                · have h := ok_f c9 h
                  refine Viconst (x := (-1)) C (dAt D_X12_house 27 rfl) (by decide) ?_
                  cases h
                  exact Viret C (dAt D_X12_house 28 rfl) (by decide) (by decide) ⟨rfl, rfl, rfl⟩
def F_X12_read (f : Nat) (x1 : Int32) (x2 : Int32) (x3 : Int32) (x4 : Int32) (u : MT) : Option (Int32 × MT) :=
  let u1 := sI u 167 0 (0 : Int32)
  if x1 < 0 then
    some ((0 : Int32), u1)
  else
    if (gI u1 167 31) ≤ x1 then
      some ((0 : Int32), u1)
    else
      if x2 < 0 then
        some ((0 : Int32), u1)
      else
        if (239 : Int32) < x2 then
          some ((0 : Int32), u1)
        else
          if x3 < 0 then
            some ((0 : Int32), u1)
          else
            if (5000 : Int32) < x3 then
              some ((0 : Int32), u1)
            else
              if x4 < 0 then
                some ((0 : Int32), u1)
              else
                if (5000 : Int32) < x4 then
                  some ((0 : Int32), u1)
                else
                  if (gI u1 167 34) = (400 : Int32) then
                    some ((0 : Int32), u1)
                  else
                    ck (ixo (gI u1 167 34) 400) <|
                    let u12 := sI u1 191 ((gI u1 167 34)).toNatClampNeg x1
                    ck (ixo (gI u12 167 34) 400) <|
                    let u14 := sI u12 192 ((gI u12 167 34)).toNatClampNeg x2
                    ck (ixo (gI u14 167 34) 400) <|
                    let u16 := sI u14 193 ((gI u14 167 34)).toNatClampNeg x3
                    ck (ixo (gI u16 167 34) 400) <|
                    let u18 := sI u16 194 ((gI u16 167 34)).toNatClampNeg x4
                    ck (ixo (gI u18 167 34) 400) <|
                    let u20 := sI u18 195 ((gI u18 167 34)).toNatClampNeg (gI u18 167 40)
                    let u21 := sI u20 167 34 ((gI u20 167 34) + (1 : Int32))
                    some ((1 : Int32), u21)
theorem m_X12_read {g : GT} {w : LT} (hL : Lay w) {x1 : Int32} {x2 : Int32} {x3 : Int32} {x4 : Int32} {f : Nat} {u : MT} {r : (Int32 × MT)} (h : F_X12_read f x1 x2 x3 x4 u = some r) : Mt g yX12_read cX12_read 5 (some .boolean) 0 0 0 [.ref 167, .int x1, .int x2, .int x3, .int x4] w u (Qi r.1 w r.2) := by
  refine Mt_of (own := RX12) (by decide +kernel) rfl (Nat.le_of_ble_eq_true rfl) (fun z C _ => ?_)
  show V z g 5 0 [(0, .ref 167), (1, .int x1), (2, .int x2), (3, .int x3), (4, .int x4)] [] w u 0 0 (Qi r.1 w r.2)
  rw [F_X12_read] at h
  refine Vaload_n C 0 (dAt D_X12_read 0 rfl) rfl rfl ?_
  refine Viconst (x := 0) C (dAt D_X12_read 1 rfl) (by decide) ?_
  refine VputI C (dAt D_X12_read 2 rfl) gf_X12_1 (kt_167 hL) rfl rfl rfl rfl ?_
  refine Viload_n C 1 (dAt D_X12_read 3 rfl) rfl rfl ?_
  refine Vif_lt (tgt := 62) C (dAt D_X12_read 4 rfl) (by decide) (fun c2 => ?_) (fun c2 => ?_)
  · have h := ok_t c2 h
    refine Viconst (x := 0) C (dAt D_X12_read 28 rfl) (by decide) ?_
    cases h
    exact Vzret C (dAt D_X12_read 29 rfl) rfl (by decide) (by decide) ⟨rfl, rfl, rfl⟩
  · have h := ok_f c2 h
    refine Viload_n C 1 (dAt D_X12_read 5 rfl) rfl rfl ?_
    refine Vaload_n C 0 (dAt D_X12_read 6 rfl) rfl rfl ?_
    refine VgetI C (dAt D_X12_read 7 rfl) gf_X12_300 (kt_167 hL) rfl ?_
    refine Vicmp_ge (tgt := 62) C (dAt D_X12_read 8 rfl) (by decide) (fun c3 => ?_) (fun c3 => ?_)
    · have h := ok_t c3 h
      refine Viconst (x := 0) C (dAt D_X12_read 28 rfl) (by decide) ?_
      cases h
      exact Vzret C (dAt D_X12_read 29 rfl) rfl (by decide) (by decide) ⟨rfl, rfl, rfl⟩
    · have h := ok_f c3 h
      refine Viload_n C 2 (dAt D_X12_read 9 rfl) rfl rfl ?_
      refine Vif_lt (tgt := 62) C (dAt D_X12_read 10 rfl) (by decide) (fun c4 => ?_) (fun c4 => ?_)
      · have h := ok_t c4 h
        refine Viconst (x := 0) C (dAt D_X12_read 28 rfl) (by decide) ?_
        cases h
        exact Vzret C (dAt D_X12_read 29 rfl) rfl (by decide) (by decide) ⟨rfl, rfl, rfl⟩
      · have h := ok_f c4 h
        refine Viload_n C 2 (dAt D_X12_read 11 rfl) rfl rfl ?_
        refine Vsipush (x := 239) C (dAt D_X12_read 12 rfl) (by decide) ?_
        refine Vicmp_gt (tgt := 62) C (dAt D_X12_read 13 rfl) (by decide) (fun c5 => ?_) (fun c5 => ?_)
        · have h := ok_t c5 h
          refine Viconst (x := 0) C (dAt D_X12_read 28 rfl) (by decide) ?_
          cases h
          exact Vzret C (dAt D_X12_read 29 rfl) rfl (by decide) (by decide) ⟨rfl, rfl, rfl⟩
        · have h := ok_f c5 h
          refine Viload_n C 3 (dAt D_X12_read 14 rfl) rfl rfl ?_
          refine Vif_lt (tgt := 62) C (dAt D_X12_read 15 rfl) (by decide) (fun c6 => ?_) (fun c6 => ?_)
          · have h := ok_t c6 h
            refine Viconst (x := 0) C (dAt D_X12_read 28 rfl) (by decide) ?_
            cases h
            exact Vzret C (dAt D_X12_read 29 rfl) rfl (by decide) (by decide) ⟨rfl, rfl, rfl⟩
          · have h := ok_f c6 h
            refine Viload_n C 3 (dAt D_X12_read 16 rfl) rfl rfl ?_
            refine Vsipush (x := 5000) C (dAt D_X12_read 17 rfl) (by decide) ?_
            refine Vicmp_gt (tgt := 62) C (dAt D_X12_read 18 rfl) (by decide) (fun c7 => ?_) (fun c7 => ?_)
            · have h := ok_t c7 h
              refine Viconst (x := 0) C (dAt D_X12_read 28 rfl) (by decide) ?_
              cases h
              exact Vzret C (dAt D_X12_read 29 rfl) rfl (by decide) (by decide) ⟨rfl, rfl, rfl⟩
            · have h := ok_f c7 h
              refine Viload C 4 (dAt D_X12_read 19 rfl) rfl ?_
              refine Vif_lt (tgt := 62) C (dAt D_X12_read 20 rfl) (by decide) (fun c8 => ?_) (fun c8 => ?_)
              · have h := ok_t c8 h
                refine Viconst (x := 0) C (dAt D_X12_read 28 rfl) (by decide) ?_
                cases h
                exact Vzret C (dAt D_X12_read 29 rfl) rfl (by decide) (by decide) ⟨rfl, rfl, rfl⟩
              · have h := ok_f c8 h
                refine Viload C 4 (dAt D_X12_read 21 rfl) rfl ?_
                refine Vsipush (x := 5000) C (dAt D_X12_read 22 rfl) (by decide) ?_
                refine Vicmp_gt (tgt := 62) C (dAt D_X12_read 23 rfl) (by decide) (fun c9 => ?_) (fun c9 => ?_)
                · have h := ok_t c9 h
                  refine Viconst (x := 0) C (dAt D_X12_read 28 rfl) (by decide) ?_
                  cases h
                  exact Vzret C (dAt D_X12_read 29 rfl) rfl (by decide) (by decide) ⟨rfl, rfl, rfl⟩
                · have h := ok_f c9 h
                  refine Vaload_n C 0 (dAt D_X12_read 24 rfl) rfl rfl ?_
                  refine VgetI C (dAt D_X12_read 25 rfl) gf_X12_344 (kt_167 hL) rfl ?_
                  refine Vsipush (x := 400) C (dAt D_X12_read 26 rfl) (by decide) ?_
                  refine Vicmp_ne (tgt := 64) C (dAt D_X12_read 27 rfl) (by decide) (fun c10 => ?_) (fun c10 => ?_)
                  · have h := ok_f c10 h
                    refine Vaload_n C 0 (dAt D_X12_read 30 rfl) rfl rfl ?_
                    refine VgetP C (dAt D_X12_read 31 rfl) gf_X12_139 (kt_167 hL) rfl (kp_167_35 hL) ?_
                    refine Vaload_n C 0 (dAt D_X12_read 32 rfl) rfl rfl ?_
                    refine VgetI C (dAt D_X12_read 33 rfl) gf_X12_344 (kt_167 hL) rfl ?_
                    refine Viload_n C 1 (dAt D_X12_read 34 rfl) rfl rfl ?_
                    obtain ⟨c11, h⟩ := ok_ck h
                    refine Viast C (dAt D_X12_read 35 rfl) (kt_191 hL) (kl_191 hL) (vp_in_iff.mpr c11) ?_
                    refine Vaload_n C 0 (dAt D_X12_read 36 rfl) rfl rfl ?_
                    refine VgetP C (dAt D_X12_read 37 rfl) gf_X12_142 (kt_167 hL) rfl (kp_167_36 hL) ?_
                    refine Vaload_n C 0 (dAt D_X12_read 38 rfl) rfl rfl ?_
                    refine VgetI C (dAt D_X12_read 39 rfl) gf_X12_344 (kt_167 hL) rfl ?_
                    refine Viload_n C 2 (dAt D_X12_read 40 rfl) rfl rfl ?_
                    obtain ⟨c13, h⟩ := ok_ck h
                    refine Viast C (dAt D_X12_read 41 rfl) (kt_192 hL) (kl_192 hL) (vp_in_iff.mpr c13) ?_
                    refine Vaload_n C 0 (dAt D_X12_read 42 rfl) rfl rfl ?_
                    refine VgetP C (dAt D_X12_read 43 rfl) gf_X12_145 (kt_167 hL) rfl (kp_167_37 hL) ?_
                    refine Vaload_n C 0 (dAt D_X12_read 44 rfl) rfl rfl ?_
                    refine VgetI C (dAt D_X12_read 45 rfl) gf_X12_344 (kt_167 hL) rfl ?_
                    refine Viload_n C 3 (dAt D_X12_read 46 rfl) rfl rfl ?_
                    obtain ⟨c15, h⟩ := ok_ck h
                    refine Viast C (dAt D_X12_read 47 rfl) (kt_193 hL) (kl_193 hL) (vp_in_iff.mpr c15) ?_
                    refine Vaload_n C 0 (dAt D_X12_read 48 rfl) rfl rfl ?_
                    refine VgetP C (dAt D_X12_read 49 rfl) gf_X12_148 (kt_167 hL) rfl (kp_167_38 hL) ?_
                    refine Vaload_n C 0 (dAt D_X12_read 50 rfl) rfl rfl ?_
                    refine VgetI C (dAt D_X12_read 51 rfl) gf_X12_344 (kt_167 hL) rfl ?_
                    refine Viload C 4 (dAt D_X12_read 52 rfl) rfl ?_
                    obtain ⟨c17, h⟩ := ok_ck h
                    refine Viast C (dAt D_X12_read 53 rfl) (kt_194 hL) (kl_194 hL) (vp_in_iff.mpr c17) ?_
                    refine Vaload_n C 0 (dAt D_X12_read 54 rfl) rfl rfl ?_
                    refine VgetP C (dAt D_X12_read 55 rfl) gf_X12_151 (kt_167 hL) rfl (kp_167_39 hL) ?_
                    refine Vaload_n C 0 (dAt D_X12_read 56 rfl) rfl rfl ?_
                    refine VgetI C (dAt D_X12_read 57 rfl) gf_X12_344 (kt_167 hL) rfl ?_
                    refine Vaload_n C 0 (dAt D_X12_read 58 rfl) rfl rfl ?_
                    refine VgetI C (dAt D_X12_read 59 rfl) gf_X12_337 (kt_167 hL) rfl ?_
                    obtain ⟨c19, h⟩ := ok_ck h
                    refine Viast C (dAt D_X12_read 60 rfl) (kt_195 hL) (kl_195 hL) (vp_in_iff.mpr c19) ?_
                    refine Vaload_n C 0 (dAt D_X12_read 61 rfl) rfl rfl ?_
                    refine Vdup C (dAt D_X12_read 62 rfl) rfl ?_
                    refine VgetI C (dAt D_X12_read 63 rfl) gf_X12_344 (kt_167 hL) rfl ?_
                    refine Viconst (x := 1) C (dAt D_X12_read 64 rfl) (by decide) ?_
                    refine Viadd C (dAt D_X12_read 65 rfl) ?_
                    refine VputI C (dAt D_X12_read 66 rfl) gf_X12_344 (kt_167 hL) rfl rfl rfl rfl ?_
                    refine Viconst (x := 1) C (dAt D_X12_read 67 rfl) (by decide) ?_
                    cases h
                    exact Vzret C (dAt D_X12_read 68 rfl) rfl (by decide) (by decide) ⟨rfl, rfl, rfl⟩
                  · have h := ok_t c10 h
                    refine Viconst (x := 0) C (dAt D_X12_read 28 rfl) (by decide) ?_
                    cases h
                    exact Vzret C (dAt D_X12_read 29 rfl) rfl (by decide) (by decide) ⟨rfl, rfl, rfl⟩
def F_X12_days (f : Nat) (x1 : Int32) (u : MT) : Option (Int32 × MT) :=
  let u1 := sI u 167 0 (0 : Int32)
  if x1 < 0 then
    some ((-1 : Int32), u1)
  else
    if x1 ≤ (100 : Int32) then
      let u4 := sI u1 167 40 ((gI u1 167 40) + x1)
      some ((gI u4 167 40), u4)
    else
      some ((-1 : Int32), u1)
theorem m_X12_days {g : GT} {w : LT} (hL : Lay w) {x1 : Int32} {f : Nat} {u : MT} {r : (Int32 × MT)} (h : F_X12_days f x1 u = some r) : Mt g yX12_days cX12_days 2 (some .int) 0 0 0 [.ref 167, .int x1] w u (Qi r.1 w r.2) := by
  refine Mt_of (own := RX12) (by decide +kernel) rfl (Nat.le_of_ble_eq_true rfl) (fun z C _ => ?_)
  show V z g 2 0 [(0, .ref 167), (1, .int x1)] [] w u 0 0 (Qi r.1 w r.2)
  rw [F_X12_days] at h
  refine Vaload_n C 0 (dAt D_X12_days 0 rfl) rfl rfl ?_
  refine Viconst (x := 0) C (dAt D_X12_days 1 rfl) (by decide) ?_
  refine VputI C (dAt D_X12_days 2 rfl) gf_X12_1 (kt_167 hL) rfl rfl rfl rfl ?_
  refine Viload_n C 1 (dAt D_X12_days 3 rfl) rfl rfl ?_
  refine Vif_lt (tgt := 15) C (dAt D_X12_days 4 rfl) (by decide) (fun c2 => ?_) (fun c2 => ?_)
  · have h := ok_t c2 h
    refine Viconst (x := (-1)) C (dAt D_X12_days 8 rfl) (by decide) ?_
    cases h
    exact Viret C (dAt D_X12_days 9 rfl) (by decide) (by decide) ⟨rfl, rfl, rfl⟩
  · have h := ok_f c2 h
    refine Viload_n C 1 (dAt D_X12_days 5 rfl) rfl rfl ?_
    refine Vbipush (x := 100) C (dAt D_X12_days 6 rfl) (by decide) ?_
    refine Vicmp_le (tgt := 17) C (dAt D_X12_days 7 rfl) (by decide) (fun c3 => ?_) (fun c3 => ?_)
    · have h := ok_t c3 h
      refine Vaload_n C 0 (dAt D_X12_days 10 rfl) rfl rfl ?_
      refine Vdup C (dAt D_X12_days 11 rfl) rfl ?_
      refine VgetI C (dAt D_X12_days 12 rfl) gf_X12_337 (kt_167 hL) rfl ?_
      refine Viload_n C 1 (dAt D_X12_days 13 rfl) rfl rfl ?_
      refine Viadd C (dAt D_X12_days 14 rfl) ?_
      refine VputI C (dAt D_X12_days 15 rfl) gf_X12_337 (kt_167 hL) rfl rfl rfl rfl ?_
      refine Vaload_n C 0 (dAt D_X12_days 16 rfl) rfl rfl ?_
      refine VgetI C (dAt D_X12_days 17 rfl) gf_X12_337 (kt_167 hL) rfl ?_
      cases h
      exact Viret C (dAt D_X12_days 18 rfl) (by decide) (by decide) ⟨rfl, rfl, rfl⟩
    · have h := ok_f c3 h
      refine Viconst (x := (-1)) C (dAt D_X12_days 8 rfl) (by decide) ?_
      cases h
      exact Viret C (dAt D_X12_days 9 rfl) (by decide) (by decide) ⟨rfl, rfl, rfl⟩
def F_X12_known (f : Nat) (x1 : Int32) (u : MT) : Option (Int32 × MT) :=
  let u1 := sI u 167 0 (0 : Int32)
  if x1 < (-1 : Int32) then
    some ((0 : Int32), u1)
  else
    if x1 ≤ (gI u1 167 40) then
      let u4 := sI u1 167 41 x1
      some ((1 : Int32), u4)
    else
      some ((0 : Int32), u1)
theorem m_X12_known {g : GT} {w : LT} (hL : Lay w) {x1 : Int32} {f : Nat} {u : MT} {r : (Int32 × MT)} (h : F_X12_known f x1 u = some r) : Mt g yX12_known cX12_known 2 (some .boolean) 0 0 0 [.ref 167, .int x1] w u (Qi r.1 w r.2) := by
  refine Mt_of (own := RX12) (by decide +kernel) rfl (Nat.le_of_ble_eq_true rfl) (fun z C _ => ?_)
  show V z g 2 0 [(0, .ref 167), (1, .int x1)] [] w u 0 0 (Qi r.1 w r.2)
  rw [F_X12_known] at h
  refine Vaload_n C 0 (dAt D_X12_known 0 rfl) rfl rfl ?_
  refine Viconst (x := 0) C (dAt D_X12_known 1 rfl) (by decide) ?_
  refine VputI C (dAt D_X12_known 2 rfl) gf_X12_1 (kt_167 hL) rfl rfl rfl rfl ?_
  refine Viload_n C 1 (dAt D_X12_known 3 rfl) rfl rfl ?_
  refine Viconst (x := (-1)) C (dAt D_X12_known 4 rfl) (by decide) ?_
  refine Vicmp_lt (tgt := 18) C (dAt D_X12_known 5 rfl) (by decide) (fun c2 => ?_) (fun c2 => ?_)
  · have h := ok_t c2 h
    refine Viconst (x := 0) C (dAt D_X12_known 10 rfl) (by decide) ?_
    cases h
    exact Vzret C (dAt D_X12_known 11 rfl) rfl (by decide) (by decide) ⟨rfl, rfl, rfl⟩
  · have h := ok_f c2 h
    refine Viload_n C 1 (dAt D_X12_known 6 rfl) rfl rfl ?_
    refine Vaload_n C 0 (dAt D_X12_known 7 rfl) rfl rfl ?_
    refine VgetI C (dAt D_X12_known 8 rfl) gf_X12_337 (kt_167 hL) rfl ?_
    refine Vicmp_le (tgt := 20) C (dAt D_X12_known 9 rfl) (by decide) (fun c3 => ?_) (fun c3 => ?_)
    · have h := ok_t c3 h
      refine Vaload_n C 0 (dAt D_X12_known 12 rfl) rfl rfl ?_
      refine Viload_n C 1 (dAt D_X12_known 13 rfl) rfl rfl ?_
      refine VputI C (dAt D_X12_known 14 rfl) gf_X12_154 (kt_167 hL) rfl rfl rfl rfl ?_
      refine Viconst (x := 1) C (dAt D_X12_known 15 rfl) (by decide) ?_
      cases h
      exact Vzret C (dAt D_X12_known 16 rfl) rfl (by decide) (by decide) ⟨rfl, rfl, rfl⟩
    · have h := ok_f c3 h
      refine Viconst (x := 0) C (dAt D_X12_known 10 rfl) (by decide) ?_
      cases h
      exact Vzret C (dAt D_X12_known 11 rfl) rfl (by decide) (by decide) ⟨rfl, rfl, rfl⟩
def B_X12_quarterBegins_114 (f : Nat) (j74 : Int32 → MT → Option MT) (x2 : Int32) (s0 : Int32) (s1 : Int32) (u : MT) : Option MT :=
  ck (ixo s1 12) <|
  let u27 := sI u 207 (s1).toNatClampNeg s0
  let v28 := x2 + 1
  j74 v28 u27
theorem w_X12_quarterBegins_114 {z : ZT} {g : GT} {w : LT} (hL : Lay w) (C : Cx z g cX12_quarterBegins 3 RX12 none 0 0 0) {f : Nat} {r : MT} {j74 : Int32 → MT → Option MT} (q74 : ∀ (x2 : Int32) (u : MT), j74 x2 u = some r → V z g 3 74 [(0, .ref 167), (2, .int x2)] [] w u 0 0 (Qv w r)) {x2 : Int32} {s0 : Int32} {s1 : Int32} {u : MT} (h : B_X12_quarterBegins_114 f j74 x2 s0 s1 u = some r) : V z g 3 114 [(0, .ref 167), (2, .int x2)] [.int s0, .int s1, .ref 207] w u 0 0 (Qv w r) := by
  rw [B_X12_quarterBegins_114] at h
  obtain ⟨c26, h⟩ := ok_ck h
  refine Viast C (dAt D_X12_quarterBegins 62 rfl) (kt_207 hL) (kl_207 hL) (vp_in_iff.mpr c26) ?_
  refine Viinc (j := 1) (v := _ + 1) (lv' := [(2, _), (0, _)]) C (dAt D_X12_quarterBegins 63 rfl) rfl rfl (by decide) rfl ?_
  refine Vgoto (tgt := 74) C (dAt D_X12_quarterBegins 64 rfl) (by decide) ?_
  exact Vsub [1, 0] rfl (q74 _ _  h)
def B_X12_quarterBegins_203 (f : Nat) (j123 : Int32 → MT → Option MT) (x2 : Int32) (u : MT) : Option MT :=
  let v33 := x2 + 1
  j123 v33 u
theorem w_X12_quarterBegins_203 {z : ZT} {g : GT} {w : LT} (hL : Lay w) (C : Cx z g cX12_quarterBegins 3 RX12 none 0 0 0) {f : Nat} {r : MT} {j123 : Int32 → MT → Option MT} (q123 : ∀ (x2 : Int32) (u : MT), j123 x2 u = some r → V z g 3 123 [(0, .ref 167), (2, .int x2)] [] w u 0 0 (Qv w r)) {x2 : Int32} {u : MT} (h : B_X12_quarterBegins_203 f j123 x2 u = some r) : V z g 3 203 [(0, .ref 167), (2, .int x2)] [] w u 0 0 (Qv w r) := by
  rw [B_X12_quarterBegins_203] at h
  refine Viinc (j := 1) (v := _ + 1) (lv' := [(2, _), (0, _)]) C (dAt D_X12_quarterBegins 115 rfl) rfl rfl (by decide) rfl ?_
  refine Vgoto (tgt := 123) C (dAt D_X12_quarterBegins 116 rfl) (by decide) ?_
  exact Vsub [1, 0] rfl (q123 _ _  h)
def B_X12_quarterBegins_360 (f : Nat) : Nat → Int32 → MT → Option MT
  | 0, _, _ => none
  | n + 1, x2, u =>
    if (312 : Int32) ≤ x2 then
      some u
    else
      ck (ixo x2 312) <|
      let u36 := sI u 209 (x2).toNatClampNeg (0 : Int32)
      let v37 := x2 + 1
      B_X12_quarterBegins_360 f n v37 u36
theorem w_X12_quarterBegins_360 {z : ZT} {g : GT} {w : LT} (hL : Lay w) (C : Cx z g cX12_quarterBegins 3 RX12 none 0 0 0) {f : Nat} {r : MT} : ∀ (n : Nat) (x2 : Int32) (u : MT), B_X12_quarterBegins_360 f n x2 u = some r → V z g 3 360 [(0, .ref 167), (2, .int x2)] [] w u 0 0 (Qv w r) := by
  intro n
  induction n with
  | zero =>
    intro x2 u h
    rw [B_X12_quarterBegins_360] at h
    cases h
  | succ n ih =>
    intro x2 u h
    rw [B_X12_quarterBegins_360] at h
    refine Viload_n C 1 (dAt D_X12_quarterBegins 212 rfl) rfl rfl ?_
    refine Vsipush (x := 312) C (dAt D_X12_quarterBegins 213 rfl) (by decide) ?_
    refine Vicmp_ge (tgt := 380) C (dAt D_X12_quarterBegins 214 rfl) (by decide) (fun c34 => ?_) (fun c34 => ?_)
    · have h := ok_t c34 h
      cases h
      exact Vvret C (dAt D_X12_quarterBegins 222 rfl) (by decide) (by decide) ⟨rfl, rfl, rfl⟩
    · have h := ok_f c34 h
      refine Vaload_n C 0 (dAt D_X12_quarterBegins 215 rfl) rfl rfl ?_
      refine VgetP C (dAt D_X12_quarterBegins 216 rfl) gf_X12_196 (kt_167 hL) rfl (kp_167_67 hL) ?_
      refine Viload_n C 1 (dAt D_X12_quarterBegins 217 rfl) rfl rfl ?_
      refine Viconst (x := 0) C (dAt D_X12_quarterBegins 218 rfl) (by decide) ?_
      obtain ⟨c35, h⟩ := ok_ck h
      refine Viast C (dAt D_X12_quarterBegins 219 rfl) (kt_209 hL) (kl_209 hL) (vp_in_iff.mpr c35) ?_
      refine Viinc (j := 1) (v := _ + 1) (lv' := [(2, _), (0, _)]) C (dAt D_X12_quarterBegins 220 rfl) rfl rfl (by decide) rfl ?_
      refine Vgoto (tgt := 360) C (dAt D_X12_quarterBegins 221 rfl) (by decide) ?_
      exact Vsub [1, 0] rfl (ih _ _  h)
def B_X12_quarterBegins_264 (f : Nat) (j221 : Int32 → MT → Option MT) (x2 : Int32) (s0 : Int32) (s1 : Int32) (u : MT) : Option MT :=
  ck (ixo s1 12) <|
  let u39 := sI u 200 (s1).toNatClampNeg s0
  ck (ixo x2 12) <|
  let u41 := sI u39 201 (x2).toNatClampNeg ((gI u39 197 (x2).toNatClampNeg) - (gI u39 200 (x2).toNatClampNeg))
  let u42 := sI u41 203 (x2).toNatClampNeg ((gI u41 198 (x2).toNatClampNeg) - (gI u41 200 (x2).toNatClampNeg))
  let u43 := sI u42 202 (x2).toNatClampNeg (gI u42 190 (x2).toNatClampNeg)
  let u44 := sI u43 204 (x2).toNatClampNeg (0 : Int32)
  let u45 := sI u44 205 (x2).toNatClampNeg (0 : Int32)
  let u46 := sI u45 167 46 ((gI u45 167 46) + (gI u45 203 (x2).toNatClampNeg))
  let v47 := x2 + 1
  j221 v47 u46
theorem w_X12_quarterBegins_264 {z : ZT} {g : GT} {w : LT} (hL : Lay w) (C : Cx z g cX12_quarterBegins 3 RX12 none 0 0 0) {f : Nat} {r : MT} {j221 : Int32 → MT → Option MT} (q221 : ∀ (x2 : Int32) (u : MT), j221 x2 u = some r → V z g 3 221 [(0, .ref 167), (2, .int x2)] [] w u 0 0 (Qv w r)) {x2 : Int32} {s0 : Int32} {s1 : Int32} {u : MT} (h : B_X12_quarterBegins_264 f j221 x2 s0 s1 u = some r) : V z g 3 264 [(0, .ref 167), (2, .int x2)] [.int s0, .int s1, .ref 200] w u 0 0 (Qv w r) := by
  rw [B_X12_quarterBegins_264] at h
  obtain ⟨c38, h⟩ := ok_ck h
  refine Viast C (dAt D_X12_quarterBegins 150 rfl) (kt_200 hL) (kl_200 hL) (vp_in_iff.mpr c38) ?_
  refine Vaload_n C 0 (dAt D_X12_quarterBegins 151 rfl) rfl rfl ?_
  refine VgetP C (dAt D_X12_quarterBegins 152 rfl) gf_X12_172 (kt_167 hL) rfl (kp_167_52 hL) ?_
  refine Viload_n C 1 (dAt D_X12_quarterBegins 153 rfl) rfl rfl ?_
  refine Vaload_n C 0 (dAt D_X12_quarterBegins 154 rfl) rfl rfl ?_
  refine VgetP C (dAt D_X12_quarterBegins 155 rfl) gf_X12_160 (kt_167 hL) rfl (kp_167_48 hL) ?_
  refine Viload_n C 1 (dAt D_X12_quarterBegins 156 rfl) rfl rfl ?_
  obtain ⟨c40, h⟩ := ok_ck h
  refine Viald C (dAt D_X12_quarterBegins 157 rfl) (kt_197 hL) (kl_197 hL) (vp_in_iff.mpr c40) ?_
  refine Vaload_n C 0 (dAt D_X12_quarterBegins 158 rfl) rfl rfl ?_
  refine VgetP C (dAt D_X12_quarterBegins 159 rfl) gf_X12_169 (kt_167 hL) rfl (kp_167_51 hL) ?_
  refine Viload_n C 1 (dAt D_X12_quarterBegins 160 rfl) rfl rfl ?_
  refine Viald C (dAt D_X12_quarterBegins 161 rfl) (kt_200 hL) (kl_200 hL) (vp_in_iff.mpr c40) ?_
  refine Visub C (dAt D_X12_quarterBegins 162 rfl) ?_
  refine Viast C (dAt D_X12_quarterBegins 163 rfl) (kt_201 hL) (kl_201 hL) (vp_in_iff.mpr c40) ?_
  refine Vaload_n C 0 (dAt D_X12_quarterBegins 164 rfl) rfl rfl ?_
  refine VgetP C (dAt D_X12_quarterBegins 165 rfl) gf_X12_178 (kt_167 hL) rfl (kp_167_54 hL) ?_
  refine Viload_n C 1 (dAt D_X12_quarterBegins 166 rfl) rfl rfl ?_
  refine Vaload_n C 0 (dAt D_X12_quarterBegins 167 rfl) rfl rfl ?_
  refine VgetP C (dAt D_X12_quarterBegins 168 rfl) gf_X12_163 (kt_167 hL) rfl (kp_167_49 hL) ?_
  refine Viload_n C 1 (dAt D_X12_quarterBegins 169 rfl) rfl rfl ?_
  refine Viald C (dAt D_X12_quarterBegins 170 rfl) (kt_198 hL) (kl_198 hL) (vp_in_iff.mpr c40) ?_
  refine Vaload_n C 0 (dAt D_X12_quarterBegins 171 rfl) rfl rfl ?_
  refine VgetP C (dAt D_X12_quarterBegins 172 rfl) gf_X12_169 (kt_167 hL) rfl (kp_167_51 hL) ?_
  refine Viload_n C 1 (dAt D_X12_quarterBegins 173 rfl) rfl rfl ?_
  refine Viald C (dAt D_X12_quarterBegins 174 rfl) (kt_200 hL) (kl_200 hL) (vp_in_iff.mpr c40) ?_
  refine Visub C (dAt D_X12_quarterBegins 175 rfl) ?_
  refine Viast C (dAt D_X12_quarterBegins 176 rfl) (kt_203 hL) (kl_203 hL) (vp_in_iff.mpr c40) ?_
  refine Vaload_n C 0 (dAt D_X12_quarterBegins 177 rfl) rfl rfl ?_
  refine VgetP C (dAt D_X12_quarterBegins 178 rfl) gf_X12_175 (kt_167 hL) rfl (kp_167_53 hL) ?_
  refine Viload_n C 1 (dAt D_X12_quarterBegins 179 rfl) rfl rfl ?_
  refine Vaload_n C 0 (dAt D_X12_quarterBegins 180 rfl) rfl rfl ?_
  refine VgetP C (dAt D_X12_quarterBegins 181 rfl) gf_X12_136 (kt_167 hL) rfl (kp_167_33 hL) ?_
  refine Viload_n C 1 (dAt D_X12_quarterBegins 182 rfl) rfl rfl ?_
  refine Viald C (dAt D_X12_quarterBegins 183 rfl) (kt_190 hL) (kl_190 hL) (vp_in_iff.mpr c40) ?_
  refine Viast C (dAt D_X12_quarterBegins 184 rfl) (kt_202 hL) (kl_202 hL) (vp_in_iff.mpr c40) ?_
  refine Vaload_n C 0 (dAt D_X12_quarterBegins 185 rfl) rfl rfl ?_
  refine VgetP C (dAt D_X12_quarterBegins 186 rfl) gf_X12_181 (kt_167 hL) rfl (kp_167_55 hL) ?_
  refine Viload_n C 1 (dAt D_X12_quarterBegins 187 rfl) rfl rfl ?_
  refine Viconst (x := 0) C (dAt D_X12_quarterBegins 188 rfl) (by decide) ?_
  refine Viast C (dAt D_X12_quarterBegins 189 rfl) (kt_204 hL) (kl_204 hL) (vp_in_iff.mpr c40) ?_
  refine Vaload_n C 0 (dAt D_X12_quarterBegins 190 rfl) rfl rfl ?_
  refine VgetP C (dAt D_X12_quarterBegins 191 rfl) gf_X12_184 (kt_167 hL) rfl (kp_167_56 hL) ?_
  refine Viload_n C 1 (dAt D_X12_quarterBegins 192 rfl) rfl rfl ?_
  refine Viconst (x := 0) C (dAt D_X12_quarterBegins 193 rfl) (by decide) ?_
  refine Viast C (dAt D_X12_quarterBegins 194 rfl) (kt_205 hL) (kl_205 hL) (vp_in_iff.mpr c40) ?_
  refine Vaload_n C 0 (dAt D_X12_quarterBegins 195 rfl) rfl rfl ?_
  refine Vdup C (dAt D_X12_quarterBegins 196 rfl) rfl ?_
  refine VgetI C (dAt D_X12_quarterBegins 197 rfl) gf_X12_369 (kt_167 hL) rfl ?_
  refine Vaload_n C 0 (dAt D_X12_quarterBegins 198 rfl) rfl rfl ?_
  refine VgetP C (dAt D_X12_quarterBegins 199 rfl) gf_X12_178 (kt_167 hL) rfl (kp_167_54 hL) ?_
  refine Viload_n C 1 (dAt D_X12_quarterBegins 200 rfl) rfl rfl ?_
  refine Viald C (dAt D_X12_quarterBegins 201 rfl) (kt_203 hL) (kl_203 hL) (vp_in_iff.mpr c40) ?_
  refine Viadd C (dAt D_X12_quarterBegins 202 rfl) ?_
  refine VputI C (dAt D_X12_quarterBegins 203 rfl) gf_X12_369 (kt_167 hL) rfl rfl rfl rfl ?_
  refine Viinc (j := 1) (v := _ + 1) (lv' := [(2, _), (0, _)]) C (dAt D_X12_quarterBegins 204 rfl) rfl rfl (by decide) rfl ?_
  refine Vgoto (tgt := 221) C (dAt D_X12_quarterBegins 205 rfl) (by decide) ?_
  exact Vsub [1, 0] rfl (q221 _ _  h)
def B_X12_quarterBegins_221 (f : Nat) : Nat → Int32 → MT → Option MT
  | 0, _, _ => none
  | n + 1, x2, u =>
    if (gI u 167 31) ≤ x2 then
      let u30 := sI u 167 60 (gI u 167 46)
      B_X12_quarterBegins_360 f f (0 : Int32) u30
    else
      ck (ixo x2 12) <|
      if (gI u 198 (x2).toNatClampNeg) ≤ (gI u 197 (x2).toNatClampNeg) then
        B_X12_quarterBegins_264 f (fun x2' u' => B_X12_quarterBegins_221 f n x2' u') x2 (gI u 198 (x2).toNatClampNeg) x2 u
      else
        B_X12_quarterBegins_264 f (fun x2' u' => B_X12_quarterBegins_221 f n x2' u') x2 (gI u 197 (x2).toNatClampNeg) x2 u
theorem w_X12_quarterBegins_221 {z : ZT} {g : GT} {w : LT} (hL : Lay w) (C : Cx z g cX12_quarterBegins 3 RX12 none 0 0 0) {f : Nat} {r : MT} : ∀ (n : Nat) (x2 : Int32) (u : MT), B_X12_quarterBegins_221 f n x2 u = some r → V z g 3 221 [(0, .ref 167), (2, .int x2)] [] w u 0 0 (Qv w r) := by
  intro n
  induction n with
  | zero =>
    intro x2 u h
    rw [B_X12_quarterBegins_221] at h
    cases h
  | succ n ih =>
    intro x2 u h
    rw [B_X12_quarterBegins_221] at h
    refine Viload_n C 1 (dAt D_X12_quarterBegins 125 rfl) rfl rfl ?_
    refine Vaload_n C 0 (dAt D_X12_quarterBegins 126 rfl) rfl rfl ?_
    refine VgetI C (dAt D_X12_quarterBegins 127 rfl) gf_X12_300 (kt_167 hL) rfl ?_
    refine Vicmp_ge (tgt := 350) C (dAt D_X12_quarterBegins 128 rfl) (by decide) (fun c29 => ?_) (fun c29 => ?_)
    · have h := ok_t c29 h
      refine Vaload_n C 0 (dAt D_X12_quarterBegins 206 rfl) rfl rfl ?_
      refine Vaload_n C 0 (dAt D_X12_quarterBegins 207 rfl) rfl rfl ?_
      refine VgetI C (dAt D_X12_quarterBegins 208 rfl) gf_X12_369 (kt_167 hL) rfl ?_
      refine VputI C (dAt D_X12_quarterBegins 209 rfl) gf_X12_375 (kt_167 hL) rfl rfl rfl rfl ?_
      refine Viconst (x := 0) C (dAt D_X12_quarterBegins 210 rfl) (by decide) ?_
      refine Vistore_n (lv' := [(2, _), (0, _)]) C (dAt D_X12_quarterBegins 211 rfl) rfl (by decide) rfl ?_
      exact Vsub [1, 0] rfl (w_X12_quarterBegins_360 hL C  f _ _  h)
    · have h := ok_f c29 h
      refine Vaload_n C 0 (dAt D_X12_quarterBegins 129 rfl) rfl rfl ?_
      refine VgetP C (dAt D_X12_quarterBegins 130 rfl) gf_X12_169 (kt_167 hL) rfl (kp_167_51 hL) ?_
      refine Viload_n C 1 (dAt D_X12_quarterBegins 131 rfl) rfl rfl ?_
      refine Vaload_n C 0 (dAt D_X12_quarterBegins 132 rfl) rfl rfl ?_
      refine VgetP C (dAt D_X12_quarterBegins 133 rfl) gf_X12_160 (kt_167 hL) rfl (kp_167_48 hL) ?_
      refine Viload_n C 1 (dAt D_X12_quarterBegins 134 rfl) rfl rfl ?_
      obtain ⟨c31, h⟩ := ok_ck h
      refine Viald C (dAt D_X12_quarterBegins 135 rfl) (kt_197 hL) (kl_197 hL) (vp_in_iff.mpr c31) ?_
      refine Vaload_n C 0 (dAt D_X12_quarterBegins 136 rfl) rfl rfl ?_
      refine VgetP C (dAt D_X12_quarterBegins 137 rfl) gf_X12_163 (kt_167 hL) rfl (kp_167_49 hL) ?_
      refine Viload_n C 1 (dAt D_X12_quarterBegins 138 rfl) rfl rfl ?_
      refine Viald C (dAt D_X12_quarterBegins 139 rfl) (kt_198 hL) (kl_198 hL) (vp_in_iff.mpr c31) ?_
      refine Vicmp_ge (tgt := 258) C (dAt D_X12_quarterBegins 140 rfl) (by decide) (fun c32 => ?_) (fun c32 => ?_)
      · have h := ok_t c32 h
        refine Vaload_n C 0 (dAt D_X12_quarterBegins 146 rfl) rfl rfl ?_
        refine VgetP C (dAt D_X12_quarterBegins 147 rfl) gf_X12_163 (kt_167 hL) rfl (kp_167_49 hL) ?_
        refine Viload_n C 1 (dAt D_X12_quarterBegins 148 rfl) rfl rfl ?_
        refine Viald C (dAt D_X12_quarterBegins 149 rfl) (kt_198 hL) (kl_198 hL) (vp_in_iff.mpr c31) ?_
        exact Vsub [0, 1] rfl (w_X12_quarterBegins_264 hL C ih  h)
      · have h := ok_f c32 h
        refine Vaload_n C 0 (dAt D_X12_quarterBegins 141 rfl) rfl rfl ?_
        refine VgetP C (dAt D_X12_quarterBegins 142 rfl) gf_X12_160 (kt_167 hL) rfl (kp_167_48 hL) ?_
        refine Viload_n C 1 (dAt D_X12_quarterBegins 143 rfl) rfl rfl ?_
        refine Viald C (dAt D_X12_quarterBegins 144 rfl) (kt_197 hL) (kl_197 hL) (vp_in_iff.mpr c31) ?_
        refine Vgoto (tgt := 264) C (dAt D_X12_quarterBegins 145 rfl) (by decide) ?_
        exact Vsub [0, 1] rfl (w_X12_quarterBegins_264 hL C ih  h)
def B_X12_quarterBegins_123 (f : Nat) : Nat → Int32 → MT → Option MT
  | 0, _, _ => none
  | n + 1, x2, u =>
    if (gI u 167 34) ≤ x2 then
      let u15 := sI u 167 46 (0 : Int32)
      let u16 := sI u15 167 61 (0 : Int32)
      B_X12_quarterBegins_221 f f (0 : Int32) u16
    else
      ck (ixo x2 400) <|
      if (gI u 192 (x2).toNatClampNeg) = (gI u 167 43) then
        if (gI u 167 42) < (gI u 195 (x2).toNatClampNeg) then
          B_X12_quarterBegins_203 f (fun x2' u' => B_X12_quarterBegins_123 f n x2' u') x2 u
        else
          ck (ixo (gI u 191 (x2).toNatClampNeg) 12) <|
          let u21 := sI u 197 ((gI u 191 (x2).toNatClampNeg)).toNatClampNeg (gI u 193 (x2).toNatClampNeg)
          ck (ixo (gI u21 191 (x2).toNatClampNeg) 12) <|
          let u23 := sI u21 198 ((gI u21 191 (x2).toNatClampNeg)).toNatClampNeg (gI u21 194 (x2).toNatClampNeg)
          ck (ixo (gI u23 191 (x2).toNatClampNeg) 12) <|
          let u25 := sI u23 199 ((gI u23 191 (x2).toNatClampNeg)).toNatClampNeg (0 : Int32)
          B_X12_quarterBegins_203 f (fun x2' u' => B_X12_quarterBegins_123 f n x2' u') x2 u25
      else
        B_X12_quarterBegins_203 f (fun x2' u' => B_X12_quarterBegins_123 f n x2' u') x2 u
theorem w_X12_quarterBegins_123 {z : ZT} {g : GT} {w : LT} (hL : Lay w) (C : Cx z g cX12_quarterBegins 3 RX12 none 0 0 0) {f : Nat} {r : MT} : ∀ (n : Nat) (x2 : Int32) (u : MT), B_X12_quarterBegins_123 f n x2 u = some r → V z g 3 123 [(0, .ref 167), (2, .int x2)] [] w u 0 0 (Qv w r) := by
  intro n
  induction n with
  | zero =>
    intro x2 u h
    rw [B_X12_quarterBegins_123] at h
    cases h
  | succ n ih =>
    intro x2 u h
    rw [B_X12_quarterBegins_123] at h
    refine Viload_n C 1 (dAt D_X12_quarterBegins 67 rfl) rfl rfl ?_
    refine Vaload_n C 0 (dAt D_X12_quarterBegins 68 rfl) rfl rfl ?_
    refine VgetI C (dAt D_X12_quarterBegins 69 rfl) gf_X12_344 (kt_167 hL) rfl ?_
    refine Vicmp_ge (tgt := 209) C (dAt D_X12_quarterBegins 70 rfl) (by decide) (fun c14 => ?_) (fun c14 => ?_)
    · have h := ok_t c14 h
      refine Vaload_n C 0 (dAt D_X12_quarterBegins 117 rfl) rfl rfl ?_
      refine Viconst (x := 0) C (dAt D_X12_quarterBegins 118 rfl) (by decide) ?_
      refine VputI C (dAt D_X12_quarterBegins 119 rfl) gf_X12_369 (kt_167 hL) rfl rfl rfl rfl ?_
      refine Vaload_n C 0 (dAt D_X12_quarterBegins 120 rfl) rfl rfl ?_
      refine Viconst (x := 0) C (dAt D_X12_quarterBegins 121 rfl) (by decide) ?_
      refine VputI C (dAt D_X12_quarterBegins 122 rfl) gf_X12_372 (kt_167 hL) rfl rfl rfl rfl ?_
      refine Viconst (x := 0) C (dAt D_X12_quarterBegins 123 rfl) (by decide) ?_
      refine Vistore_n (lv' := [(2, _), (0, _)]) C (dAt D_X12_quarterBegins 124 rfl) rfl (by decide) rfl ?_
      exact Vsub [1, 0] rfl (w_X12_quarterBegins_221 hL C  f _ _  h)
    · have h := ok_f c14 h
      refine Vaload_n C 0 (dAt D_X12_quarterBegins 71 rfl) rfl rfl ?_
      refine VgetP C (dAt D_X12_quarterBegins 72 rfl) gf_X12_142 (kt_167 hL) rfl (kp_167_36 hL) ?_
      refine Viload_n C 1 (dAt D_X12_quarterBegins 73 rfl) rfl rfl ?_
      obtain ⟨c17, h⟩ := ok_ck h
      refine Viald C (dAt D_X12_quarterBegins 74 rfl) (kt_192 hL) (kl_192 hL) (vp_in_iff.mpr c17) ?_
      refine Vaload_n C 0 (dAt D_X12_quarterBegins 75 rfl) rfl rfl ?_
      refine VgetI C (dAt D_X12_quarterBegins 76 rfl) gf_X12_353 (kt_167 hL) rfl ?_
      refine Vicmp_ne (tgt := 203) C (dAt D_X12_quarterBegins 77 rfl) (by decide) (fun c18 => ?_) (fun c18 => ?_)
      · have h := ok_f c18 h
        exact Vsub [0, 1] rfl (w_X12_quarterBegins_203 hL C ih  h)
      · have h := ok_t c18 h
        refine Vaload_n C 0 (dAt D_X12_quarterBegins 78 rfl) rfl rfl ?_
        refine VgetP C (dAt D_X12_quarterBegins 79 rfl) gf_X12_151 (kt_167 hL) rfl (kp_167_39 hL) ?_
        refine Viload_n C 1 (dAt D_X12_quarterBegins 80 rfl) rfl rfl ?_
        refine Viald C (dAt D_X12_quarterBegins 81 rfl) (kt_195 hL) (kl_195 hL) (vp_in_iff.mpr c17) ?_
        refine Vaload_n C 0 (dAt D_X12_quarterBegins 82 rfl) rfl rfl ?_
        refine VgetI C (dAt D_X12_quarterBegins 83 rfl) gf_X12_347 (kt_167 hL) rfl ?_
        refine Vicmp_gt (tgt := 203) C (dAt D_X12_quarterBegins 84 rfl) (by decide) (fun c19 => ?_) (fun c19 => ?_)
        · have h := ok_t c19 h
          exact Vsub [0, 1] rfl (w_X12_quarterBegins_203 hL C ih  h)
        · have h := ok_f c19 h
          refine Vaload_n C 0 (dAt D_X12_quarterBegins 85 rfl) rfl rfl ?_
          refine VgetP C (dAt D_X12_quarterBegins 86 rfl) gf_X12_160 (kt_167 hL) rfl (kp_167_48 hL) ?_
          refine Vaload_n C 0 (dAt D_X12_quarterBegins 87 rfl) rfl rfl ?_
          refine VgetP C (dAt D_X12_quarterBegins 88 rfl) gf_X12_139 (kt_167 hL) rfl (kp_167_35 hL) ?_
          refine Viload_n C 1 (dAt D_X12_quarterBegins 89 rfl) rfl rfl ?_
          refine Viald C (dAt D_X12_quarterBegins 90 rfl) (kt_191 hL) (kl_191 hL) (vp_in_iff.mpr c17) ?_
          refine Vaload_n C 0 (dAt D_X12_quarterBegins 91 rfl) rfl rfl ?_
          refine VgetP C (dAt D_X12_quarterBegins 92 rfl) gf_X12_145 (kt_167 hL) rfl (kp_167_37 hL) ?_
          refine Viload_n C 1 (dAt D_X12_quarterBegins 93 rfl) rfl rfl ?_
          refine Viald C (dAt D_X12_quarterBegins 94 rfl) (kt_193 hL) (kl_193 hL) (vp_in_iff.mpr c17) ?_
          obtain ⟨c20, h⟩ := ok_ck h
          refine Viast C (dAt D_X12_quarterBegins 95 rfl) (kt_197 hL) (kl_197 hL) (vp_in_iff.mpr c20) ?_
          refine Vaload_n C 0 (dAt D_X12_quarterBegins 96 rfl) rfl rfl ?_
          refine VgetP C (dAt D_X12_quarterBegins 97 rfl) gf_X12_163 (kt_167 hL) rfl (kp_167_49 hL) ?_
          refine Vaload_n C 0 (dAt D_X12_quarterBegins 98 rfl) rfl rfl ?_
          refine VgetP C (dAt D_X12_quarterBegins 99 rfl) gf_X12_139 (kt_167 hL) rfl (kp_167_35 hL) ?_
          refine Viload_n C 1 (dAt D_X12_quarterBegins 100 rfl) rfl rfl ?_
          refine Viald C (dAt D_X12_quarterBegins 101 rfl) (kt_191 hL) (kl_191 hL) (vp_in_iff.mpr c17) ?_
          refine Vaload_n C 0 (dAt D_X12_quarterBegins 102 rfl) rfl rfl ?_
          refine VgetP C (dAt D_X12_quarterBegins 103 rfl) gf_X12_148 (kt_167 hL) rfl (kp_167_38 hL) ?_
          refine Viload_n C 1 (dAt D_X12_quarterBegins 104 rfl) rfl rfl ?_
          refine Viald C (dAt D_X12_quarterBegins 105 rfl) (kt_194 hL) (kl_194 hL) (vp_in_iff.mpr c17) ?_
          obtain ⟨c22, h⟩ := ok_ck h
          refine Viast C (dAt D_X12_quarterBegins 106 rfl) (kt_198 hL) (kl_198 hL) (vp_in_iff.mpr c22) ?_
          refine Vaload_n C 0 (dAt D_X12_quarterBegins 107 rfl) rfl rfl ?_
          refine VgetP C (dAt D_X12_quarterBegins 108 rfl) gf_X12_166 (kt_167 hL) rfl (kp_167_50 hL) ?_
          refine Vaload_n C 0 (dAt D_X12_quarterBegins 109 rfl) rfl rfl ?_
          refine VgetP C (dAt D_X12_quarterBegins 110 rfl) gf_X12_139 (kt_167 hL) rfl (kp_167_35 hL) ?_
          refine Viload_n C 1 (dAt D_X12_quarterBegins 111 rfl) rfl rfl ?_
          refine Viald C (dAt D_X12_quarterBegins 112 rfl) (kt_191 hL) (kl_191 hL) (vp_in_iff.mpr c17) ?_
          refine Viconst (x := 0) C (dAt D_X12_quarterBegins 113 rfl) (by decide) ?_
          obtain ⟨c24, h⟩ := ok_ck h
          refine Viast C (dAt D_X12_quarterBegins 114 rfl) (kt_199 hL) (kl_199 hL) (vp_in_iff.mpr c24) ?_
          exact Vsub [0, 1] rfl (w_X12_quarterBegins_203 hL C ih  h)
def B_X12_quarterBegins_74 (f : Nat) : Nat → Int32 → MT → Option MT
  | 0, _, _ => none
  | n + 1, x2, u =>
    if (gI u 167 31) ≤ x2 then
      B_X12_quarterBegins_123 f f (0 : Int32) u
    else
      ck (ixo x2 12) <|
      let u12 := sI u 199 (x2).toNatClampNeg (1 : Int32)
      if ((gI u12 167 43) - (gI u12 167 43) / (24 : Int32) * (24 : Int32)) = 0 then
        B_X12_quarterBegins_114 f (fun x2' u' => B_X12_quarterBegins_74 f n x2' u') x2 (0 : Int32) x2 u12
      else
        B_X12_quarterBegins_114 f (fun x2' u' => B_X12_quarterBegins_74 f n x2' u') x2 (gI u12 207 (x2).toNatClampNeg) x2 u12
theorem w_X12_quarterBegins_74 {z : ZT} {g : GT} {w : LT} (hL : Lay w) (C : Cx z g cX12_quarterBegins 3 RX12 none 0 0 0) {f : Nat} {r : MT} : ∀ (n : Nat) (x2 : Int32) (u : MT), B_X12_quarterBegins_74 f n x2 u = some r → V z g 3 74 [(0, .ref 167), (2, .int x2)] [] w u 0 0 (Qv w r) := by
  intro n
  induction n with
  | zero =>
    intro x2 u h
    rw [B_X12_quarterBegins_74] at h
    cases h
  | succ n ih =>
    intro x2 u h
    rw [B_X12_quarterBegins_74] at h
    refine Viload_n C 1 (dAt D_X12_quarterBegins 39 rfl) rfl rfl ?_
    refine Vaload_n C 0 (dAt D_X12_quarterBegins 40 rfl) rfl rfl ?_
    refine VgetI C (dAt D_X12_quarterBegins 41 rfl) gf_X12_300 (kt_167 hL) rfl ?_
    refine Vicmp_ge (tgt := 121) C (dAt D_X12_quarterBegins 42 rfl) (by decide) (fun c10 => ?_) (fun c10 => ?_)
    · have h := ok_t c10 h
      refine Viconst (x := 0) C (dAt D_X12_quarterBegins 65 rfl) (by decide) ?_
      refine Vistore_n (lv' := [(2, _), (0, _)]) C (dAt D_X12_quarterBegins 66 rfl) rfl (by decide) rfl ?_
      exact Vsub [1, 0] rfl (w_X12_quarterBegins_123 hL C  f _ _  h)
    · have h := ok_f c10 h
      refine Vaload_n C 0 (dAt D_X12_quarterBegins 43 rfl) rfl rfl ?_
      refine VgetP C (dAt D_X12_quarterBegins 44 rfl) gf_X12_166 (kt_167 hL) rfl (kp_167_50 hL) ?_
      refine Viload_n C 1 (dAt D_X12_quarterBegins 45 rfl) rfl rfl ?_
      refine Viconst (x := 1) C (dAt D_X12_quarterBegins 46 rfl) (by decide) ?_
      obtain ⟨c11, h⟩ := ok_ck h
      refine Viast C (dAt D_X12_quarterBegins 47 rfl) (kt_199 hL) (kl_199 hL) (vp_in_iff.mpr c11) ?_
      refine Vaload_n C 0 (dAt D_X12_quarterBegins 48 rfl) rfl rfl ?_
      refine VgetP C (dAt D_X12_quarterBegins 49 rfl) gf_X12_190 (kt_167 hL) rfl (kp_167_58 hL) ?_
      refine Viload_n C 1 (dAt D_X12_quarterBegins 50 rfl) rfl rfl ?_
      refine Vaload_n C 0 (dAt D_X12_quarterBegins 51 rfl) rfl rfl ?_
      refine VgetI C (dAt D_X12_quarterBegins 52 rfl) gf_X12_353 (kt_167 hL) rfl ?_
      refine Vbipush (x := 24) C (dAt D_X12_quarterBegins 53 rfl) (by decide) ?_
      refine Virem C (dAt D_X12_quarterBegins 54 rfl) (by decide) ?_
      refine Vif_ne (tgt := 108) C (dAt D_X12_quarterBegins 55 rfl) (by decide) (fun c13 => ?_) (fun c13 => ?_)
      · have h := ok_f c13 h
        refine Vaload_n C 0 (dAt D_X12_quarterBegins 58 rfl) rfl rfl ?_
        refine VgetP C (dAt D_X12_quarterBegins 59 rfl) gf_X12_190 (kt_167 hL) rfl (kp_167_58 hL) ?_
        refine Viload_n C 1 (dAt D_X12_quarterBegins 60 rfl) rfl rfl ?_
        refine Viald C (dAt D_X12_quarterBegins 61 rfl) (kt_207 hL) (kl_207 hL) (vp_in_iff.mpr c11) ?_
        exact Vsub [0, 1] rfl (w_X12_quarterBegins_114 hL C ih  h)
      · have h := ok_t c13 h
        refine Viconst (x := 0) C (dAt D_X12_quarterBegins 56 rfl) (by decide) ?_
        refine Vgoto (tgt := 114) C (dAt D_X12_quarterBegins 57 rfl) (by decide) ?_
        exact Vsub [0, 1] rfl (w_X12_quarterBegins_114 hL C ih  h)
def B_X12_quarterBegins_72 (f : Nat) (u : MT) : Option MT :=
  B_X12_quarterBegins_74 f f (0 : Int32) u
theorem w_X12_quarterBegins_72 {z : ZT} {g : GT} {w : LT} (hL : Lay w) (C : Cx z g cX12_quarterBegins 3 RX12 none 0 0 0) {f : Nat} {r : MT} {u : MT} (h : B_X12_quarterBegins_72 f  u = some r) : V z g 3 72 [(0, .ref 167)] [] w u 0 0 (Qv w r) := by
  rw [B_X12_quarterBegins_72] at h
  refine Viconst (x := 0) C (dAt D_X12_quarterBegins 37 rfl) (by decide) ?_
  refine Vistore_n (lv' := [(2, _), (0, _)]) C (dAt D_X12_quarterBegins 38 rfl) rfl (by decide) rfl ?_
  exact Vsub [1, 0] rfl (w_X12_quarterBegins_74 hL C  f _ _  h)
def B_X12_quarterBegins_63 (f : Nat) (j16 : Int32 → Int32 → MT → Option MT) (x1 : Int32) (x2 : Int32) (s0 : Int32) (u : MT) : Option MT :=
  let u8 := sI u 167 44 s0
  let v9 := x2 + 1
  j16 x1 v9 u8
theorem w_X12_quarterBegins_63 {z : ZT} {g : GT} {w : LT} (hL : Lay w) (C : Cx z g cX12_quarterBegins 3 RX12 none 0 0 0) {f : Nat} {r : MT} {j16 : Int32 → Int32 → MT → Option MT} (q16 : ∀ (x1 : Int32) (x2 : Int32) (u : MT), j16 x1 x2 u = some r → V z g 3 16 [(0, .ref 167), (1, .int x1), (2, .int x2)] [] w u 0 0 (Qv w r)) {x1 : Int32} {x2 : Int32} {s0 : Int32} {u : MT} (h : B_X12_quarterBegins_63 f j16 x1 x2 s0 u = some r) : V z g 3 63 [(0, .ref 167), (1, .int x1), (2, .int x2)] [.int s0, .ref 167] w u 0 0 (Qv w r) := by
  rw [B_X12_quarterBegins_63] at h
  refine VputI C (dAt D_X12_quarterBegins 34 rfl) gf_X12_360 (kt_167 hL) rfl rfl rfl rfl ?_
  refine Viinc (j := 2) (v := _ + 1) (lv' := [(2, _), (0, _), (1, _)]) C (dAt D_X12_quarterBegins 35 rfl) rfl rfl (by decide) rfl ?_
  refine Vgoto (tgt := 16) C (dAt D_X12_quarterBegins 36 rfl) (by decide) ?_
  exact Vsub [1, 2, 0] rfl (q16 _ _ _  h)
def B_X12_quarterBegins_59 (f : Nat) (j16 : Int32 → Int32 → MT → Option MT) (x1 : Int32) (x2 : Int32) (u : MT) : Option MT :=
  B_X12_quarterBegins_63 f j16 x1 x2 (gI u 167 44) u
theorem w_X12_quarterBegins_59 {z : ZT} {g : GT} {w : LT} (hL : Lay w) (C : Cx z g cX12_quarterBegins 3 RX12 none 0 0 0) {f : Nat} {r : MT} {j16 : Int32 → Int32 → MT → Option MT} (q16 : ∀ (x1 : Int32) (x2 : Int32) (u : MT), j16 x1 x2 u = some r → V z g 3 16 [(0, .ref 167), (1, .int x1), (2, .int x2)] [] w u 0 0 (Qv w r)) {x1 : Int32} {x2 : Int32} {u : MT} (h : B_X12_quarterBegins_59 f j16 x1 x2 u = some r) : V z g 3 59 [(0, .ref 167), (1, .int x1), (2, .int x2)] [.ref 167] w u 0 0 (Qv w r) := by
  rw [B_X12_quarterBegins_59] at h
  refine Vaload_n C 0 (dAt D_X12_quarterBegins 32 rfl) rfl rfl ?_
  refine VgetI C (dAt D_X12_quarterBegins 33 rfl) gf_X12_360 (kt_167 hL) rfl ?_
  exact Vsub [0, 1, 2] rfl (w_X12_quarterBegins_63 hL C q16  h)
def B_X12_quarterBegins_16 (f : Nat) : Nat → Int32 → Int32 → MT → Option MT
  | 0, _, _, _ => none
  | n + 1, x1, x2, u =>
    if (gI u 167 22) ≤ x2 then
      B_X12_quarterBegins_72 f u
    else
      if x1 = 0 then
        ck (ixo x2 6) <|
        if (gI u 167 43) < (gI u 185 (x2).toNatClampNeg) then
          B_X12_quarterBegins_59 f (fun x1' x2' u' => B_X12_quarterBegins_16 f n x1' x2' u') x1 x2 u
        else
          if (gI u 167 42) < (gI u 186 (x2).toNatClampNeg) then
            B_X12_quarterBegins_59 f (fun x1' x2' u' => B_X12_quarterBegins_16 f n x1' x2' u') x1 x2 u
          else
            B_X12_quarterBegins_63 f (fun x1' x2' u' => B_X12_quarterBegins_16 f n x1' x2' u') x1 x2 x2 u
      else
        B_X12_quarterBegins_72 f u
theorem w_X12_quarterBegins_16 {z : ZT} {g : GT} {w : LT} (hL : Lay w) (C : Cx z g cX12_quarterBegins 3 RX12 none 0 0 0) {f : Nat} {r : MT} : ∀ (n : Nat) (x1 : Int32) (x2 : Int32) (u : MT), B_X12_quarterBegins_16 f n x1 x2 u = some r → V z g 3 16 [(0, .ref 167), (1, .int x1), (2, .int x2)] [] w u 0 0 (Qv w r) := by
  intro n
  induction n with
  | zero =>
    intro x1 x2 u h
    rw [B_X12_quarterBegins_16] at h
    cases h
  | succ n ih =>
    intro x1 x2 u h
    rw [B_X12_quarterBegins_16] at h
    refine Viload_n C 2 (dAt D_X12_quarterBegins 9 rfl) rfl rfl ?_
    refine Vaload_n C 0 (dAt D_X12_quarterBegins 10 rfl) rfl rfl ?_
    refine VgetI C (dAt D_X12_quarterBegins 11 rfl) gf_X12_328 (kt_167 hL) rfl ?_
    refine Vicmp_ge (tgt := 72) C (dAt D_X12_quarterBegins 12 rfl) (by decide) (fun c3 => ?_) (fun c3 => ?_)
    · have h := ok_t c3 h
      exact Vsub [0] rfl (w_X12_quarterBegins_72 hL C  h)
    · have h := ok_f c3 h
      refine Viload_n C 1 (dAt D_X12_quarterBegins 13 rfl) rfl rfl ?_
      refine Vif_ne (tgt := 72) C (dAt D_X12_quarterBegins 14 rfl) (by decide) (fun c4 => ?_) (fun c4 => ?_)
      · have h := ok_f c4 h
        exact Vsub [0] rfl (w_X12_quarterBegins_72 hL C  h)
      · have h := ok_t c4 h
        refine Vaload_n C 0 (dAt D_X12_quarterBegins 15 rfl) rfl rfl ?_
        refine Vaload_n C 0 (dAt D_X12_quarterBegins 16 rfl) rfl rfl ?_
        refine VgetP C (dAt D_X12_quarterBegins 17 rfl) gf_X12_121 (kt_167 hL) rfl (kp_167_23 hL) ?_
        refine Viload_n C 2 (dAt D_X12_quarterBegins 18 rfl) rfl rfl ?_
        obtain ⟨c5, h⟩ := ok_ck h
        refine Viald C (dAt D_X12_quarterBegins 19 rfl) (kt_185 hL) (kl_185 hL) (vp_in_iff.mpr c5) ?_
        refine Vaload_n C 0 (dAt D_X12_quarterBegins 20 rfl) rfl rfl ?_
        refine VgetI C (dAt D_X12_quarterBegins 21 rfl) gf_X12_353 (kt_167 hL) rfl ?_
        refine Vicmp_gt (tgt := 59) C (dAt D_X12_quarterBegins 22 rfl) (by decide) (fun c6 => ?_) (fun c6 => ?_)
        · have h := ok_t c6 h
          exact Vsub [0, 1, 2] rfl (w_X12_quarterBegins_59 hL C ih  h)
        · have h := ok_f c6 h
          refine Vaload_n C 0 (dAt D_X12_quarterBegins 23 rfl) rfl rfl ?_
          refine VgetP C (dAt D_X12_quarterBegins 24 rfl) gf_X12_124 (kt_167 hL) rfl (kp_167_24 hL) ?_
          refine Viload_n C 2 (dAt D_X12_quarterBegins 25 rfl) rfl rfl ?_
          refine Viald C (dAt D_X12_quarterBegins 26 rfl) (kt_186 hL) (kl_186 hL) (vp_in_iff.mpr c5) ?_
          refine Vaload_n C 0 (dAt D_X12_quarterBegins 27 rfl) rfl rfl ?_
          refine VgetI C (dAt D_X12_quarterBegins 28 rfl) gf_X12_347 (kt_167 hL) rfl ?_
          refine Vicmp_gt (tgt := 59) C (dAt D_X12_quarterBegins 29 rfl) (by decide) (fun c7 => ?_) (fun c7 => ?_)
          · have h := ok_t c7 h
            exact Vsub [0, 1, 2] rfl (w_X12_quarterBegins_59 hL C ih  h)
          · have h := ok_f c7 h
            refine Viload_n C 2 (dAt D_X12_quarterBegins 30 rfl) rfl rfl ?_
            refine Vgoto (tgt := 63) C (dAt D_X12_quarterBegins 31 rfl) (by decide) ?_
            exact Vsub [0, 1, 2] rfl (w_X12_quarterBegins_63 hL C ih  h)
def B_X12_quarterBegins_11 (f : Nat) (x1 : Int32) (s0 : Int32) (u : MT) : Option MT :=
  let u2 := sI u 167 44 s0
  B_X12_quarterBegins_16 f f x1 (0 : Int32) u2
theorem w_X12_quarterBegins_11 {z : ZT} {g : GT} {w : LT} (hL : Lay w) (C : Cx z g cX12_quarterBegins 3 RX12 none 0 0 0) {f : Nat} {r : MT} {x1 : Int32} {s0 : Int32} {u : MT} (h : B_X12_quarterBegins_11 f x1 s0 u = some r) : V z g 3 11 [(0, .ref 167), (1, .int x1)] [.int s0, .ref 167] w u 0 0 (Qv w r) := by
  rw [B_X12_quarterBegins_11] at h
  refine VputI C (dAt D_X12_quarterBegins 6 rfl) gf_X12_360 (kt_167 hL) rfl rfl rfl rfl ?_
  refine Viconst (x := 0) C (dAt D_X12_quarterBegins 7 rfl) (by decide) ?_
  refine Vistore_n (lv' := [(2, _), (0, _), (1, _)]) C (dAt D_X12_quarterBegins 8 rfl) rfl (by decide) rfl ?_
  exact Vsub [1, 2, 0] rfl (w_X12_quarterBegins_16 hL C  f _ _ _  h)
def F_X12_quarterBegins (f : Nat) (x1 : Int32) (u : MT) : Option MT :=
  if x1 = 0 then
    B_X12_quarterBegins_11 f x1 (-1 : Int32) u
  else
    B_X12_quarterBegins_11 f x1 (6 : Int32) u
theorem m_X12_quarterBegins {g : GT} {w : LT} (hL : Lay w) {x1 : Int32} {f : Nat} {u : MT} {r : MT} (h : F_X12_quarterBegins f x1 u = some r) : Mt g yX12_quarterBegins cX12_quarterBegins 3 none 0 0 0 [.ref 167, .int x1] w u (Qv w r) := by
  refine Mt_of (own := RX12) (by decide +kernel) rfl (Nat.le_of_ble_eq_true rfl) (fun z C _ => ?_)
  show V z g 3 0 [(0, .ref 167), (1, .int x1)] [] w u 0 0 (Qv w r)
  rw [F_X12_quarterBegins] at h
  refine Vaload_n C 0 (dAt D_X12_quarterBegins 0 rfl) rfl rfl ?_
  refine Viload_n C 1 (dAt D_X12_quarterBegins 1 rfl) rfl rfl ?_
  refine Vif_eq (tgt := 10) C (dAt D_X12_quarterBegins 2 rfl) (by decide) (fun c1 => ?_) (fun c1 => ?_)
  · have h := ok_t c1 h
    refine Viconst (x := (-1)) C (dAt D_X12_quarterBegins 5 rfl) (by decide) ?_
    exact Vsub [0, 1] rfl (w_X12_quarterBegins_11 hL C  h)
  · have h := ok_f c1 h
    refine Vbipush (x := 6) C (dAt D_X12_quarterBegins 3 rfl) (by decide) ?_
    refine Vgoto (tgt := 11) C (dAt D_X12_quarterBegins 4 rfl) (by decide) ?_
    exact Vsub [0, 1] rfl (w_X12_quarterBegins_11 hL C  h)
def B_X12_partOf_55 (f : Nat) : Nat → Int32 → Int32 → MT → Option (Int32 × MT)
  | 0, _, _, _ => none
  | n + 1, x2, x3, u =>
    if (gI u 167 31) ≤ x3 then
      some (x2, u)
    else
      ck (ixo x3 12) <|
      let v7 := (x2 + (gI u 201 (x3).toNatClampNeg))
      let v8 := x3 + 1
      B_X12_partOf_55 f n v7 v8 u
theorem w_X12_partOf_55 {z : ZT} {g : GT} {w : LT} (hL : Lay w) (C : Cx z g cX12_partOf 4 RX12 (some .int) 0 0 0) {f : Nat} {r : (Int32 × MT)} : ∀ (n : Nat) (x2 : Int32) (x3 : Int32) (u : MT), B_X12_partOf_55 f n x2 x3 u = some r → V z g 4 55 [(0, .ref 167), (2, .int x2), (3, .int x3)] [] w u 0 0 (Qi r.1 w r.2) := by
  intro n
  induction n with
  | zero =>
    intro x2 x3 u h
    rw [B_X12_partOf_55] at h
    cases h
  | succ n ih =>
    intro x2 x3 u h
    rw [B_X12_partOf_55] at h
    refine Viload_n C 2 (dAt D_X12_partOf 31 rfl) rfl rfl ?_
    refine Vaload_n C 0 (dAt D_X12_partOf 32 rfl) rfl rfl ?_
    refine VgetI C (dAt D_X12_partOf 33 rfl) gf_X12_300 (kt_167 hL) rfl ?_
    refine Vicmp_ge (tgt := 78) C (dAt D_X12_partOf 34 rfl) (by decide) (fun c5 => ?_) (fun c5 => ?_)
    · have h := ok_t c5 h
      refine Viload_n C 1 (dAt D_X12_partOf 44 rfl) rfl rfl ?_
      cases h
      exact Viret C (dAt D_X12_partOf 45 rfl) (by decide) (by decide) ⟨rfl, rfl, rfl⟩
    · have h := ok_f c5 h
      refine Viload_n C 1 (dAt D_X12_partOf 35 rfl) rfl rfl ?_
      refine Vaload_n C 0 (dAt D_X12_partOf 36 rfl) rfl rfl ?_
      refine VgetP C (dAt D_X12_partOf 37 rfl) gf_X12_172 (kt_167 hL) rfl (kp_167_52 hL) ?_
      refine Viload_n C 2 (dAt D_X12_partOf 38 rfl) rfl rfl ?_
      obtain ⟨c6, h⟩ := ok_ck h
      refine Viald C (dAt D_X12_partOf 39 rfl) (kt_201 hL) (kl_201 hL) (vp_in_iff.mpr c6) ?_
      refine Viadd C (dAt D_X12_partOf 40 rfl) ?_
      refine Vistore_n (lv' := [(2, _), (0, _), (3, _)]) C (dAt D_X12_partOf 41 rfl) rfl (by decide) rfl ?_
      refine Viinc (j := 2) (v := _ + 1) (lv' := [(3, _), (2, _), (0, _)]) C (dAt D_X12_partOf 42 rfl) rfl rfl (by decide) rfl ?_
      refine Vgoto (tgt := 55) C (dAt D_X12_partOf 43 rfl) (by decide) ?_
      exact Vsub [2, 1, 0] rfl (ih _ _ _  h)
def F_X12_partOf (f : Nat) (x1 : Int32) (u : MT) : Option (Int32 × MT) :=
  if (4 : Int32) ≤ x1 then
    B_X12_partOf_55 f f (0 : Int32) (0 : Int32) u
  else
    if x1 = 0 then
      some (((gI u 167 43) - (gI u 167 43) / (24 : Int32) * (24 : Int32)), u)
    else
      if x1 = (1 : Int32) then
        some (((gI u 167 43) / (24 : Int32)), u)
      else
        if x1 = (2 : Int32) then
          some ((gI u 167 46), u)
        else
          some ((gI u 167 45), u)
theorem m_X12_partOf {g : GT} {w : LT} (hL : Lay w) {x1 : Int32} {f : Nat} {u : MT} {r : (Int32 × MT)} (h : F_X12_partOf f x1 u = some r) : Mt g yX12_partOf cX12_partOf 4 (some .int) 0 0 0 [.ref 167, .int x1] w u (Qi r.1 w r.2) := by
  refine Mt_of (own := RX12) (by decide +kernel) rfl (Nat.le_of_ble_eq_true rfl) (fun z C _ => ?_)
  show V z g 4 0 [(0, .ref 167), (1, .int x1)] [] w u 0 0 (Qi r.1 w r.2)
  rw [F_X12_partOf] at h
  refine Viload_n C 1 (dAt D_X12_partOf 0 rfl) rfl rfl ?_
  refine Viconst (x := 4) C (dAt D_X12_partOf 1 rfl) (by decide) ?_
  refine Vicmp_ge (tgt := 51) C (dAt D_X12_partOf 2 rfl) (by decide) (fun c1 => ?_) (fun c1 => ?_)
  · have h := ok_t c1 h
    refine Viconst (x := 0) C (dAt D_X12_partOf 27 rfl) (by decide) ?_
    refine Vistore_n (lv' := [(2, _), (0, _), (1, _)]) C (dAt D_X12_partOf 28 rfl) rfl (by decide) rfl ?_
    refine Viconst (x := 0) C (dAt D_X12_partOf 29 rfl) (by decide) ?_
    refine Vistore_n (lv' := [(3, _), (2, _), (0, _), (1, _)]) C (dAt D_X12_partOf 30 rfl) rfl (by decide) rfl ?_
    exact Vsub [2, 1, 0] rfl (w_X12_partOf_55 hL C  f _ _ _  h)
  · have h := ok_f c1 h
    refine Viload_n C 1 (dAt D_X12_partOf 3 rfl) rfl rfl ?_
    refine Vif_ne (tgt := 19) C (dAt D_X12_partOf 4 rfl) (by decide) (fun c2 => ?_) (fun c2 => ?_)
    · have h := ok_f c2 h
      refine Viload_n C 1 (dAt D_X12_partOf 10 rfl) rfl rfl ?_
      refine Viconst (x := 1) C (dAt D_X12_partOf 11 rfl) (by decide) ?_
      refine Vicmp_ne (tgt := 34) C (dAt D_X12_partOf 12 rfl) (by decide) (fun c3 => ?_) (fun c3 => ?_)
      · have h := ok_f c3 h
        refine Viload_n C 1 (dAt D_X12_partOf 18 rfl) rfl rfl ?_
        refine Viconst (x := 2) C (dAt D_X12_partOf 19 rfl) (by decide) ?_
        refine Vicmp_ne (tgt := 46) C (dAt D_X12_partOf 20 rfl) (by decide) (fun c4 => ?_) (fun c4 => ?_)
        · have h := ok_f c4 h
          refine Vaload_n C 0 (dAt D_X12_partOf 24 rfl) rfl rfl ?_
          refine VgetI C (dAt D_X12_partOf 25 rfl) gf_X12_350 (kt_167 hL) rfl ?_
          cases h
          exact Viret C (dAt D_X12_partOf 26 rfl) (by decide) (by decide) ⟨rfl, rfl, rfl⟩
        · have h := ok_t c4 h
          refine Vaload_n C 0 (dAt D_X12_partOf 21 rfl) rfl rfl ?_
          refine VgetI C (dAt D_X12_partOf 22 rfl) gf_X12_369 (kt_167 hL) rfl ?_
          refine Vgoto (tgt := 50) C (dAt D_X12_partOf 23 rfl) (by decide) ?_
          cases h
          exact Viret C (dAt D_X12_partOf 26 rfl) (by decide) (by decide) ⟨rfl, rfl, rfl⟩
      · have h := ok_t c3 h
        refine Vaload_n C 0 (dAt D_X12_partOf 13 rfl) rfl rfl ?_
        refine VgetI C (dAt D_X12_partOf 14 rfl) gf_X12_353 (kt_167 hL) rfl ?_
        refine Vbipush (x := 24) C (dAt D_X12_partOf 15 rfl) (by decide) ?_
        refine Vidiv C (dAt D_X12_partOf 16 rfl) (by decide) ?_
        refine Vgoto (tgt := 50) C (dAt D_X12_partOf 17 rfl) (by decide) ?_
        cases h
        exact Viret C (dAt D_X12_partOf 26 rfl) (by decide) (by decide) ⟨rfl, rfl, rfl⟩
    · have h := ok_t c2 h
      refine Vaload_n C 0 (dAt D_X12_partOf 5 rfl) rfl rfl ?_
      refine VgetI C (dAt D_X12_partOf 6 rfl) gf_X12_353 (kt_167 hL) rfl ?_
      refine Vbipush (x := 24) C (dAt D_X12_partOf 7 rfl) (by decide) ?_
      refine Virem C (dAt D_X12_partOf 8 rfl) (by decide) ?_
      refine Vgoto (tgt := 50) C (dAt D_X12_partOf 9 rfl) (by decide) ?_
      cases h
      exact Viret C (dAt D_X12_partOf 26 rfl) (by decide) (by decide) ⟨rfl, rfl, rfl⟩
def B_X12_worth_169 (f : Nat) (j13 : Int32 → Int32 → MT → Option (Int32 × MT)) (x2 : Int32) (x3 : Int32) (u : MT) : Option (Int32 × MT) :=
  let v27 := x2 + 1
  j13 v27 x3 u
theorem w_X12_worth_169 {z : ZT} {g : GT} {w : LT} (hL : Lay w) (C : Cx z g cX12_worth 7 RX12 (some .int) 1 0 0) {f : Nat} {r : (Int32 × MT)} {j13 : Int32 → Int32 → MT → Option (Int32 × MT)} (q13 : ∀ (x2 : Int32) (x3 : Int32) (u : MT), j13 x2 x3 u = some r → V z g 7 13 [(0, .ref 167), (2, .int x2), (3, .int x3)] [] w u 0 0 (Qi r.1 w r.2)) {x2 : Int32} {x3 : Int32} {u : MT} (h : B_X12_worth_169 f j13 x2 x3 u = some r) : V z g 7 169 [(0, .ref 167), (2, .int x2), (3, .int x3)] [] w u 0 0 (Qi r.1 w r.2) := by
  rw [B_X12_worth_169] at h
  refine Viinc (j := 1) (v := _ + 1) (lv' := [(2, _), (0, _), (3, _)]) C (dAt D_X12_worth 94 rfl) rfl rfl (by decide) rfl ?_
  refine Vgoto (tgt := 13) C (dAt D_X12_worth 95 rfl) (by decide) ?_
  exact Vsub [1, 0, 2] rfl (q13 _ _ _  h)
def B_X12_worth_168 (f : Nat) (j13 : Int32 → Int32 → MT → Option (Int32 × MT)) (x2 : Int32) (x3 : Int32) (s0 : Int32) (s1 : Int32) (u : MT) : Option (Int32 × MT) :=
  ck (ixo s1 700) <|
  let u23 := sI u 211 (s1).toNatClampNeg s0
  B_X12_worth_169 f j13 x2 x3 u23
theorem w_X12_worth_168 {z : ZT} {g : GT} {w : LT} (hL : Lay w) (C : Cx z g cX12_worth 7 RX12 (some .int) 1 0 0) {f : Nat} {r : (Int32 × MT)} {j13 : Int32 → Int32 → MT → Option (Int32 × MT)} (q13 : ∀ (x2 : Int32) (x3 : Int32) (u : MT), j13 x2 x3 u = some r → V z g 7 13 [(0, .ref 167), (2, .int x2), (3, .int x3)] [] w u 0 0 (Qi r.1 w r.2)) {x2 : Int32} {x3 : Int32} {s0 : Int32} {s1 : Int32} {u : MT} (h : B_X12_worth_168 f j13 x2 x3 s0 s1 u = some r) : V z g 7 168 [(0, .ref 167), (2, .int x2), (3, .int x3)] [.int s0, .int s1, .ref 211] w u 0 0 (Qi r.1 w r.2) := by
  rw [B_X12_worth_168] at h
  obtain ⟨c22, h⟩ := ok_ck h
  refine Viast C (dAt D_X12_worth 93 rfl) (kt_211 hL) (kl_211 hL) (vp_in_iff.mpr c22) ?_
  exact Vsub [0, 1, 2] rfl (w_X12_worth_169 hL C q13  h)
def B_X12_worth_72 (f : Nat) (j13 : Int32 → Int32 → MT → Option (Int32 × MT)) (x2 : Int32) (x3 : Int32) (s0 : Int32) (s1 : Int32) (u : MT) : Option (Int32 × MT) :=
  ck (ixo s1 700) <|
  let u25 := sI u 211 (s1).toNatClampNeg s0
  let v26 := x3 + 1
  B_X12_worth_169 f j13 x2 v26 u25
theorem w_X12_worth_72 {z : ZT} {g : GT} {w : LT} (hL : Lay w) (C : Cx z g cX12_worth 7 RX12 (some .int) 1 0 0) {f : Nat} {r : (Int32 × MT)} {j13 : Int32 → Int32 → MT → Option (Int32 × MT)} (q13 : ∀ (x2 : Int32) (x3 : Int32) (u : MT), j13 x2 x3 u = some r → V z g 7 13 [(0, .ref 167), (2, .int x2), (3, .int x3)] [] w u 0 0 (Qi r.1 w r.2)) {x2 : Int32} {x3 : Int32} {s0 : Int32} {s1 : Int32} {u : MT} (h : B_X12_worth_72 f j13 x2 x3 s0 s1 u = some r) : V z g 7 72 [(0, .ref 167), (2, .int x2), (3, .int x3)] [.int s0, .int s1, .ref 211] w u 0 0 (Qi r.1 w r.2) := by
  rw [B_X12_worth_72] at h
  obtain ⟨c24, h⟩ := ok_ck h
  refine Viast C (dAt D_X12_worth 42 rfl) (kt_211 hL) (kl_211 hL) (vp_in_iff.mpr c24) ?_
  refine Viinc (j := 2) (v := _ + 1) (lv' := [(3, _), (0, _), (2, _)]) C (dAt D_X12_worth 43 rfl) rfl rfl (by decide) rfl ?_
  refine Vgoto (tgt := 169) C (dAt D_X12_worth 44 rfl) (by decide) ?_
  exact Vsub [1, 2, 0] rfl (w_X12_worth_169 hL C q13  h)
def B_X12_worth_42 (f : Nat) (j13 : Int32 → Int32 → MT → Option (Int32 × MT)) (x2 : Int32) (x3 : Int32) (x4 : Int32) (u : MT) : Option (Int32 × MT) :=
  if x4 = (1 : Int32) then
    ck (ixo x2 10400) <|
    B_X12_worth_72 f j13 x2 x3 (gI u 183 (x2).toNatClampNeg) x3 u
  else
    ck (ixo x2 10400) <|
    (F_X12_partOf f (gI u 183 (x2).toNatClampNeg) u).bind fun r20 =>
    B_X12_worth_72 f j13 x2 x3 r20.1 x3 r20.2
theorem w_X12_worth_42 {z : ZT} {g : GT} {w : LT} (hL : Lay w) (C : Cx z g cX12_worth 7 RX12 (some .int) 1 0 0) {f : Nat} {r : (Int32 × MT)} {j13 : Int32 → Int32 → MT → Option (Int32 × MT)} (q13 : ∀ (x2 : Int32) (x3 : Int32) (u : MT), j13 x2 x3 u = some r → V z g 7 13 [(0, .ref 167), (2, .int x2), (3, .int x3)] [] w u 0 0 (Qi r.1 w r.2)) {x2 : Int32} {x3 : Int32} {x4 : Int32} {u : MT} (h : B_X12_worth_42 f j13 x2 x3 x4 u = some r) : V z g 7 42 [(0, .ref 167), (2, .int x2), (3, .int x3), (4, .int x4)] [] w u 0 0 (Qi r.1 w r.2) := by
  rw [B_X12_worth_42] at h
  refine Vaload_n C 0 (dAt D_X12_worth 25 rfl) rfl rfl ?_
  refine VgetP C (dAt D_X12_worth 26 rfl) gf_X12_202 (kt_167 hL) rfl (kp_167_69 hL) ?_
  refine Viload_n C 2 (dAt D_X12_worth 27 rfl) rfl rfl ?_
  refine Viload C 3 (dAt D_X12_worth 28 rfl) rfl ?_
  refine Viconst (x := 1) C (dAt D_X12_worth 29 rfl) (by decide) ?_
  refine Vicmp_ne (tgt := 62) C (dAt D_X12_worth 30 rfl) (by decide) (fun c17 => ?_) (fun c17 => ?_)
  · have h := ok_f c17 h
    refine Vaload_n C 0 (dAt D_X12_worth 36 rfl) rfl rfl ?_
    refine Vaload_n C 0 (dAt D_X12_worth 37 rfl) rfl rfl ?_
    refine VgetP C (dAt D_X12_worth 38 rfl) gf_X12_115 (kt_167 hL) rfl (kp_167_20 hL) ?_
    refine Viload_n C 1 (dAt D_X12_worth 39 rfl) rfl rfl ?_
    obtain ⟨c19, h⟩ := ok_ck h
    refine Viald C (dAt D_X12_worth 40 rfl) (kt_183 hL) (kl_183 hL) (vp_in_iff.mpr c19) ?_
    obtain ⟨r20, e21, h⟩ := ok_b h
    refine VcallV (as := [_]) C (dAt D_X12_worth 41 rfl) (m_X12_partOf hL e21) yv_X12_395 (Or.inl ⟨(kt_167 hL), by decide⟩) rfl rfl (Nat.le_of_ble_eq_true rfl) (by decide) (by decide) (by decide) (by decide) (Kint ?_)
    exact Vsub [0, 1, 2] rfl (w_X12_worth_72 hL C q13  h)
  · have h := ok_t c17 h
    refine Vaload_n C 0 (dAt D_X12_worth 31 rfl) rfl rfl ?_
    refine VgetP C (dAt D_X12_worth 32 rfl) gf_X12_115 (kt_167 hL) rfl (kp_167_20 hL) ?_
    refine Viload_n C 1 (dAt D_X12_worth 33 rfl) rfl rfl ?_
    obtain ⟨c18, h⟩ := ok_ck h
    refine Viald C (dAt D_X12_worth 34 rfl) (kt_183 hL) (kl_183 hL) (vp_in_iff.mpr c18) ?_
    refine Vgoto (tgt := 72) C (dAt D_X12_worth 35 rfl) (by decide) ?_
    exact Vsub [0, 1, 2] rfl (w_X12_worth_72 hL C q13  h)
def B_X12_worth_13 (f : Nat) : Nat → Int32 → Int32 → MT → Option (Int32 × MT)
  | 0, _, _, _ => none
  | n + 1, x2, x3, u =>
    ck (ixo x2 10400) <|
    if (gI u 182 (x2).toNatClampNeg) = 0 then
      some ((gI u 211 0), u)
    else
      let v4 := (gI u 182 (x2).toNatClampNeg)
      if v4 = (1 : Int32) then
        B_X12_worth_42 f (fun x2' x3' u' => B_X12_worth_13 f n x2' x3' u') x2 x3 v4 u
      else
        if v4 = (2 : Int32) then
          B_X12_worth_42 f (fun x2' x3' u' => B_X12_worth_13 f n x2' x3' u') x2 x3 v4 u
        else
          let v7 := x3 + (-1)
          ck (ixo v7 700) <|
          let v9 := (gI u 211 (v7).toNatClampNeg)
          ck (ixo (v7 - (1 : Int32)) 700) <|
          let v11 := (gI u 211 ((v7 - (1 : Int32))).toNatClampNeg)
          if v4 = (3 : Int32) then
            B_X12_worth_168 f (fun x2' x3' u' => B_X12_worth_13 f n x2' x3' u') x2 v7 (v11 + v9) (v7 - (1 : Int32)) u
          else
            if v4 = (4 : Int32) then
              B_X12_worth_168 f (fun x2' x3' u' => B_X12_worth_13 f n x2' x3' u') x2 v7 (v11 - v9) (v7 - (1 : Int32)) u
            else
              if v4 = (5 : Int32) then
                if v9 ≤ v11 then
                  B_X12_worth_168 f (fun x2' x3' u' => B_X12_worth_13 f n x2' x3' u') x2 v7 (0 : Int32) (v7 - (1 : Int32)) u
                else
                  B_X12_worth_168 f (fun x2' x3' u' => B_X12_worth_13 f n x2' x3' u') x2 v7 (1 : Int32) (v7 - (1 : Int32)) u
              else
                if v11 = v9 then
                  B_X12_worth_168 f (fun x2' x3' u' => B_X12_worth_13 f n x2' x3' u') x2 v7 (1 : Int32) (v7 - (1 : Int32)) u
                else
                  B_X12_worth_168 f (fun x2' x3' u' => B_X12_worth_13 f n x2' x3' u') x2 v7 (0 : Int32) (v7 - (1 : Int32)) u
theorem w_X12_worth_13 {z : ZT} {g : GT} {w : LT} (hL : Lay w) (C : Cx z g cX12_worth 7 RX12 (some .int) 1 0 0) {f : Nat} {r : (Int32 × MT)} : ∀ (n : Nat) (x2 : Int32) (x3 : Int32) (u : MT), B_X12_worth_13 f n x2 x3 u = some r → V z g 7 13 [(0, .ref 167), (2, .int x2), (3, .int x3)] [] w u 0 0 (Qi r.1 w r.2) := by
  intro n
  induction n with
  | zero =>
    intro x2 x3 u h
    rw [B_X12_worth_13] at h
    cases h
  | succ n ih =>
    intro x2 x3 u h
    rw [B_X12_worth_13] at h
    refine Vaload_n C 0 (dAt D_X12_worth 9 rfl) rfl rfl ?_
    refine VgetP C (dAt D_X12_worth 10 rfl) gf_X12_112 (kt_167 hL) rfl (kp_167_19 hL) ?_
    refine Viload_n C 1 (dAt D_X12_worth 11 rfl) rfl rfl ?_
    obtain ⟨c2, h⟩ := ok_ck h
    refine Viald C (dAt D_X12_worth 12 rfl) (kt_182 hL) (kl_182 hL) (vp_in_iff.mpr c2) ?_
    refine Vif_eq (tgt := 175) C (dAt D_X12_worth 13 rfl) (by decide) (fun c3 => ?_) (fun c3 => ?_)
    · have h := ok_t c3 h
      refine Vaload_n C 0 (dAt D_X12_worth 96 rfl) rfl rfl ?_
      refine VgetP C (dAt D_X12_worth 97 rfl) gf_X12_202 (kt_167 hL) rfl (kp_167_69 hL) ?_
      refine Viconst (x := 0) C (dAt D_X12_worth 98 rfl) (by decide) ?_
      refine VialdC 0 C (dAt D_X12_worth 99 rfl) (kt_211 hL) (kl_211 hL) (by decide) rfl ?_
      cases h
      exact Viret C (dAt D_X12_worth 100 rfl) (by decide) (by decide) ⟨rfl, rfl, rfl⟩
    · have h := ok_f c3 h
      refine Vaload_n C 0 (dAt D_X12_worth 14 rfl) rfl rfl ?_
      refine VgetP C (dAt D_X12_worth 15 rfl) gf_X12_112 (kt_167 hL) rfl (kp_167_19 hL) ?_
      refine Viload_n C 1 (dAt D_X12_worth 16 rfl) rfl rfl ?_
      refine Viald C (dAt D_X12_worth 17 rfl) (kt_182 hL) (kl_182 hL) (vp_in_iff.mpr c2) ?_
      refine Vistore (lv' := [(4, _), (0, _), (2, _), (3, _)]) C (dAt D_X12_worth 18 rfl) (by decide) rfl ?_
      refine Viload C 0 (dAt D_X12_worth 19 rfl) rfl ?_
      refine Viconst (x := 1) C (dAt D_X12_worth 20 rfl) (by decide) ?_
      refine Vicmp_eq (tgt := 42) C (dAt D_X12_worth 21 rfl) (by decide) (fun c5 => ?_) (fun c5 => ?_)
      · have h := ok_t c5 h
        exact Vsub [1, 2, 3, 0] rfl (w_X12_worth_42 hL C ih  h)
      · have h := ok_f c5 h
        refine Viload C 0 (dAt D_X12_worth 22 rfl) rfl ?_
        refine Viconst (x := 2) C (dAt D_X12_worth 23 rfl) (by decide) ?_
        refine Vicmp_ne (tgt := 79) C (dAt D_X12_worth 24 rfl) (by decide) (fun c6 => ?_) (fun c6 => ?_)
        · have h := ok_f c6 h
          refine Viinc (j := 3) (v := _ + (-1)) (lv' := [(3, _), (4, _), (0, _), (2, _)]) C (dAt D_X12_worth 45 rfl) rfl rfl (by decide) rfl ?_
          refine Vaload_n C 2 (dAt D_X12_worth 46 rfl) rfl rfl ?_
          refine VgetP C (dAt D_X12_worth 47 rfl) gf_X12_202 (kt_167 hL) rfl (kp_167_69 hL) ?_
          refine Viload_n C 0 (dAt D_X12_worth 48 rfl) rfl rfl ?_
          obtain ⟨c8, h⟩ := ok_ck h
          refine Viald C (dAt D_X12_worth 49 rfl) (kt_211 hL) (kl_211 hL) (vp_in_iff.mpr c8) ?_
          refine Vistore (lv' := [(5, _), (3, _), (4, _), (0, _), (2, _)]) C (dAt D_X12_worth 50 rfl) (by decide) rfl ?_
          refine Vaload_n C 3 (dAt D_X12_worth 51 rfl) rfl rfl ?_
          refine VgetP C (dAt D_X12_worth 52 rfl) gf_X12_202 (kt_167 hL) rfl (kp_167_69 hL) ?_
          refine Viload_n C 1 (dAt D_X12_worth 53 rfl) rfl rfl ?_
          refine Viconst (x := 1) C (dAt D_X12_worth 54 rfl) (by decide) ?_
          refine Visub C (dAt D_X12_worth 55 rfl) ?_
          obtain ⟨c10, h⟩ := ok_ck h
          refine Viald C (dAt D_X12_worth 56 rfl) (kt_211 hL) (kl_211 hL) (vp_in_iff.mpr c10) ?_
          refine Vistore (lv' := [(6, _), (5, _), (3, _), (4, _), (0, _), (2, _)]) C (dAt D_X12_worth 57 rfl) (by decide) rfl ?_
          refine Vaload_n C 4 (dAt D_X12_worth 58 rfl) rfl rfl ?_
          refine VgetP C (dAt D_X12_worth 59 rfl) gf_X12_202 (kt_167 hL) rfl (kp_167_69 hL) ?_
          refine Viload_n C 2 (dAt D_X12_worth 60 rfl) rfl rfl ?_
          refine Viconst (x := 1) C (dAt D_X12_worth 61 rfl) (by decide) ?_
          refine Visub C (dAt D_X12_worth 62 rfl) ?_
          refine Viload C 3 (dAt D_X12_worth 63 rfl) rfl ?_
          refine Viconst (x := 3) C (dAt D_X12_worth 64 rfl) (by decide) ?_
          refine Vicmp_ne (tgt := 121) C (dAt D_X12_worth 65 rfl) (by decide) (fun c12 => ?_) (fun c12 => ?_)
          · have h := ok_f c12 h
            refine Viload C 3 (dAt D_X12_worth 70 rfl) rfl ?_
            refine Viconst (x := 4) C (dAt D_X12_worth 71 rfl) (by decide) ?_
            refine Vicmp_ne (tgt := 135) C (dAt D_X12_worth 72 rfl) (by decide) (fun c13 => ?_) (fun c13 => ?_)
            · have h := ok_f c13 h
              refine Viload C 3 (dAt D_X12_worth 77 rfl) rfl ?_
              refine Viconst (x := 5) C (dAt D_X12_worth 78 rfl) (by decide) ?_
              refine Vicmp_ne (tgt := 156) C (dAt D_X12_worth 79 rfl) (by decide) (fun c14 => ?_) (fun c14 => ?_)
              · have h := ok_f c14 h
                refine Viload C 0 (dAt D_X12_worth 87 rfl) rfl ?_
                refine Viload C 1 (dAt D_X12_worth 88 rfl) rfl ?_
                refine Vicmp_ne (tgt := 167) C (dAt D_X12_worth 89 rfl) (by decide) (fun c16 => ?_) (fun c16 => ?_)
                · have h := ok_f c16 h
                  refine Viconst (x := 0) C (dAt D_X12_worth 92 rfl) (by decide) ?_
                  exact Vsub [4, 5, 2] rfl (w_X12_worth_168 hL C ih  h)
                · have h := ok_t c16 h
                  refine Viconst (x := 1) C (dAt D_X12_worth 90 rfl) (by decide) ?_
                  refine Vgoto (tgt := 168) C (dAt D_X12_worth 91 rfl) (by decide) ?_
                  exact Vsub [4, 5, 2] rfl (w_X12_worth_168 hL C ih  h)
              · have h := ok_t c14 h
                refine Viload C 0 (dAt D_X12_worth 80 rfl) rfl ?_
                refine Viload C 1 (dAt D_X12_worth 81 rfl) rfl ?_
                refine Vicmp_ge (tgt := 152) C (dAt D_X12_worth 82 rfl) (by decide) (fun c15 => ?_) (fun c15 => ?_)
                · have h := ok_t c15 h
                  refine Viconst (x := 0) C (dAt D_X12_worth 85 rfl) (by decide) ?_
                  refine Vgoto (tgt := 168) C (dAt D_X12_worth 86 rfl) (by decide) ?_
                  exact Vsub [4, 5, 2] rfl (w_X12_worth_168 hL C ih  h)
                · have h := ok_f c15 h
                  refine Viconst (x := 1) C (dAt D_X12_worth 83 rfl) (by decide) ?_
                  refine Vgoto (tgt := 168) C (dAt D_X12_worth 84 rfl) (by decide) ?_
                  exact Vsub [4, 5, 2] rfl (w_X12_worth_168 hL C ih  h)
            · have h := ok_t c13 h
              refine Viload C 0 (dAt D_X12_worth 73 rfl) rfl ?_
              refine Viload C 1 (dAt D_X12_worth 74 rfl) rfl ?_
              refine Visub C (dAt D_X12_worth 75 rfl) ?_
              refine Vgoto (tgt := 168) C (dAt D_X12_worth 76 rfl) (by decide) ?_
              exact Vsub [4, 5, 2] rfl (w_X12_worth_168 hL C ih  h)
          · have h := ok_t c12 h
            refine Viload C 0 (dAt D_X12_worth 66 rfl) rfl ?_
            refine Viload C 1 (dAt D_X12_worth 67 rfl) rfl ?_
            refine Viadd C (dAt D_X12_worth 68 rfl) ?_
            refine Vgoto (tgt := 168) C (dAt D_X12_worth 69 rfl) (by decide) ?_
            exact Vsub [4, 5, 2] rfl (w_X12_worth_168 hL C ih  h)
        · have h := ok_t c6 h
          exact Vsub [1, 2, 3, 0] rfl (w_X12_worth_42 hL C ih  h)
def F_X12_worth (f : Nat) (x1 : Int32) (u : MT) : Option (Int32 × MT) :=
  let v1 := (((1300 : Int32) * (gI u 167 44)) + x1)
  B_X12_worth_13 f f v1 (0 : Int32) u
theorem m_X12_worth {g : GT} {w : LT} (hL : Lay w) {x1 : Int32} {f : Nat} {u : MT} {r : (Int32 × MT)} (h : F_X12_worth f x1 u = some r) : Mt g yX12_worth cX12_worth 7 (some .int) 1 0 0 [.ref 167, .int x1] w u (Qi r.1 w r.2) := by
  refine Mt_of (own := RX12) (by decide +kernel) rfl (Nat.le_of_ble_eq_true rfl) (fun z C _ => ?_)
  show V z g 7 0 [(0, .ref 167), (1, .int x1)] [] w u 0 0 (Qi r.1 w r.2)
  rw [F_X12_worth] at h
  refine Vsipush (x := 1300) C (dAt D_X12_worth 0 rfl) (by decide) ?_
  refine Vaload_n C 0 (dAt D_X12_worth 1 rfl) rfl rfl ?_
  refine VgetI C (dAt D_X12_worth 2 rfl) gf_X12_360 (kt_167 hL) rfl ?_
  refine Vimul C (dAt D_X12_worth 3 rfl) ?_
  refine Viload_n C 1 (dAt D_X12_worth 4 rfl) rfl rfl ?_
  refine Viadd C (dAt D_X12_worth 5 rfl) ?_
  refine Vistore_n (lv' := [(2, _), (0, _), (1, _)]) C (dAt D_X12_worth 6 rfl) rfl (by decide) rfl ?_
  refine Viconst (x := 0) C (dAt D_X12_worth 7 rfl) (by decide) ?_
  refine Vistore_n (lv' := [(3, _), (2, _), (0, _), (1, _)]) C (dAt D_X12_worth 8 rfl) rfl (by decide) rfl ?_
  exact Vsub [2, 1, 0] rfl (w_X12_worth_13 hL C  f _ _ _  h)
def F_X12_can (f : Nat) (x1 : Int32) (u : MT) : Option (Int32 × MT) :=
  ck (ixo x1 12) <|
  if (gI u 201 (x1).toNatClampNeg) ≤ 0 then
    some ((0 : Int32), u)
  else
    if (gI u 202 (x1).toNatClampNeg) ≤ 0 then
      some ((0 : Int32), u)
    else
      some ((1 : Int32), u)
theorem m_X12_can {g : GT} {w : LT} (hL : Lay w) {x1 : Int32} {f : Nat} {u : MT} {r : (Int32 × MT)} (h : F_X12_can f x1 u = some r) : Mt g yX12_can cX12_can 2 (some .boolean) 0 0 0 [.ref 167, .int x1] w u (Qi r.1 w r.2) := by
  refine Mt_of (own := RX12) (by decide +kernel) rfl (Nat.le_of_ble_eq_true rfl) (fun z C _ => ?_)
  show V z g 2 0 [(0, .ref 167), (1, .int x1)] [] w u 0 0 (Qi r.1 w r.2)
  rw [F_X12_can] at h
  refine Vaload_n C 0 (dAt D_X12_can 0 rfl) rfl rfl ?_
  refine VgetP C (dAt D_X12_can 1 rfl) gf_X12_172 (kt_167 hL) rfl (kp_167_52 hL) ?_
  refine Viload_n C 1 (dAt D_X12_can 2 rfl) rfl rfl ?_
  obtain ⟨c1, h⟩ := ok_ck h
  refine Viald C (dAt D_X12_can 3 rfl) (kt_201 hL) (kl_201 hL) (vp_in_iff.mpr c1) ?_
  refine Vif_le (tgt := 22) C (dAt D_X12_can 4 rfl) (by decide) (fun c2 => ?_) (fun c2 => ?_)
  · have h := ok_t c2 h
    refine Viconst (x := 0) C (dAt D_X12_can 12 rfl) (by decide) ?_
    cases h
    exact Vzret C (dAt D_X12_can 13 rfl) rfl (by decide) (by decide) ⟨rfl, rfl, rfl⟩
  · have h := ok_f c2 h
    refine Vaload_n C 0 (dAt D_X12_can 5 rfl) rfl rfl ?_
    refine VgetP C (dAt D_X12_can 6 rfl) gf_X12_175 (kt_167 hL) rfl (kp_167_53 hL) ?_
    refine Viload_n C 1 (dAt D_X12_can 7 rfl) rfl rfl ?_
    refine Viald C (dAt D_X12_can 8 rfl) (kt_202 hL) (kl_202 hL) (vp_in_iff.mpr c1) ?_
    refine Vif_le (tgt := 22) C (dAt D_X12_can 9 rfl) (by decide) (fun c3 => ?_) (fun c3 => ?_)
    · have h := ok_t c3 h
      refine Viconst (x := 0) C (dAt D_X12_can 12 rfl) (by decide) ?_
      cases h
      exact Vzret C (dAt D_X12_can 13 rfl) rfl (by decide) (by decide) ⟨rfl, rfl, rfl⟩
    · have h := ok_f c3 h
      refine Viconst (x := 1) C (dAt D_X12_can 10 rfl) (by decide) ?_
      refine Vgoto (tgt := 23) C (dAt D_X12_can 11 rfl) (by decide) ?_
      cases h
      exact Vzret C (dAt D_X12_can 13 rfl) rfl (by decide) (by decide) ⟨rfl, rfl, rfl⟩
