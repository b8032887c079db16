/-! ===== SunVillage.text ===== -/
theorem tabP_129 : ∀ q ∈ tabP, q.1 ≠ 129 := by decide
theorem tabP_139 : ∀ q ∈ tabP, q.1 ≠ 139 := by decide
theorem tabP_100 : ∀ q ∈ tabP, q.1 = 100 → q.2.1 ≠ 10 ∧ q.2.1 ≠ 9 := by decide
theorem Lay_it {w : LT} (h : Lay w) {a k v : Nat} (ha : a = 129 ∨ a = 139) : Lay (sP w a k v) := by
  rcases ha with rfl | rfl
  · have h3 := kt_129 h
    exact Lay_sP h (by omega) (by omega) (by omega) (by omega) (fun q hq e => absurd e (tabP_129 q hq))
  · have h3 := kt_139 h
    exact Lay_sP h (by omega) (by omega) (by omega) (by omega) (fun q hq e => absurd e (tabP_139 q hq))
theorem Lay_dr {w : LT} (h : Lay w) {v : Nat} : Lay (sP w 100 10 v) := by
  have h3 := kt_100 h
  exact Lay_sP h (by omega) (by omega) (by omega) (by omega) (fun q hq e => (tabP_100 q hq e).1)
theorem Lay_ob {w : LT} (h : Lay w) {v : Nat} : Lay (sP w 100 9 v) := by
  have h3 := kt_100 h
  exact Lay_sP h (by omega) (by omega) (by omega) (by omega) (fun q hq e => (tabP_100 q hq e).2)
def B_X11_text_28 (w : LT) (f : Nat) (x1 : Int32) (u : MT) : Option (Int32 × LT × MT) :=
  let d := lt_p w 100 10
  ck (lt_t w d = 7) <|
  (F_X3_parse f (gI u 101 2) d u).bind fun r =>
  if r.1 = 0 then
    (F_X8_add f 128 d x1 (gI r.2 100 11) r.2).bind fun u4 =>
    let w2 := sP (sP w 112 7 d) (128 + 1) (gI (sI (sI r.2 d 5 x1) d 6 (gI r.2 100 11)) 128 1).toNatClampNeg d
    (F_X1_forgetFrom f 130 128 x1 (WT' w2 u4).2).bind fun u5 =>
    some (r.1, sP (WT' w2 u4).1 100 10 w2.1, u5)
  else
    some (r.1, sP w 112 7 d, r.2)
def F_X11_text (w : LT) (f : Nat) (x1 : Int32) (u : MT) : Option (Int32 × LT × MT) :=
  (F_X11_isQuarter f x1 u).bind fun r1 =>
  if r1.1 = 0 then
    some (-1, w, sI r1.2 110 1 0)
  else
    (F_X8_canTake w f 128 x1 r1.2).bind fun r2 =>
    if r2.1 = 0 then
      some (-1, w, sI r2.2 110 1 0)
    else
      B_X11_text_28 w f x1 r2.2
theorem w_X11_text_28 {z : ZT} {g : GT} {w : LT} (hL : Lay w) {f : Nat} {x1 : Int32} {u : MT} {r : Int32 × LT × MT} (C : Cx z g cX11_text 3 RX11 (some .int) 34 27 1471) (h : B_X11_text_28 w f x1 u = some r) : V z g 3 28 [(0, .ref 100), (1, .int x1)] [] w u 0 0 (Qi r.1 r.2.1 r.2.2) := by
  rw [B_X11_text_28] at h
  refine Vaload_n C 0 (dAt D_X11_text 14 rfl) rfl rfl ?_
  refine VgetP C (dAt D_X11_text 15 rfl) gf_X11_33 (kt_100 hL) rfl (kp_100_3 hL) ?_
  refine Vaload_n C 0 (dAt D_X11_text 16 rfl) rfl rfl ?_
  refine VgetP C (dAt D_X11_text 17 rfl) gf_X11_26 (kt_100 hL) rfl (kp_100_2 hL) ?_
  refine Vaload_n C 0 (dAt D_X11_text 18 rfl) rfl rfl ?_
  refine VgetP C (dAt D_X11_text 19 rfl) gf_X11_10 (kt_100 hL) rfl (kp_100_0 hL) ?_
  refine VgetI C (dAt D_X11_text 20 rfl) gf_X11_92 (kt_101 hL) rfl ?_
  refine Vaload_n C 0 (dAt D_X11_text 21 rfl) rfl rfl ?_
  refine VgetP C (dAt D_X11_text 22 rfl) gf_X11_80 (kt_100 hL) rfl rfl ?_
  obtain ⟨cd, h⟩ := ok_ck h
  obtain ⟨r1, e1, h⟩ := ok_b h
  have htx := hL.2.2.1 _ cd
  refine VcallV (as := [_, _, _]) C (dAt D_X11_text 23 rfl) (m_X3_parse hL htx e1) yv_X11_125 (Or.inl ⟨kt_112 hL, by decide⟩) rfl rfl (Nat.le_of_ble_eq_true rfl) (by decide) (by decide) (by decide) (by decide) (Kint ?_)
  have hL1 := Lay_rt hL (lt_p w 100 10)
  have htx1 := isTx_rt hL htx (lt_p w 100 10)
  have hd1 : lt_p (sP w 112 7 (lt_p w 100 10)) 100 10 = lt_p w 100 10 := sP_p (by decide) 10
  refine Vistore_n (lv' := [(2, _), (0, _), (1, _)]) C (dAt D_X11_text 24 rfl) rfl (by decide) rfl ?_
  refine Viload_n C 0 (dAt D_X11_text 25 rfl) rfl rfl ?_
  refine Vif_ne (tgt := 90) C (dAt D_X11_text 26 rfl) (by decide) (fun c => ?_) (fun c => ?_)
  · have h := ok_f c h
    cases h
    refine Viload_n C 0 (dAt D_X11_text 44 rfl) rfl rfl ?_
    exact Viret C (dAt D_X11_text 45 rfl) (by decide) (by decide) ⟨rfl, rfl, rfl⟩
  · have h := ok_t c h
    refine Vaload_n C 1 (dAt D_X11_text 27 rfl) rfl rfl ?_
    refine VgetP C (dAt D_X11_text 28 rfl) gf_X11_54 (kt_100 hL1) rfl (kp_100_5 hL1) ?_
    refine Vaload_n C 1 (dAt D_X11_text 29 rfl) rfl rfl ?_
    refine VgetP C (dAt D_X11_text 30 rfl) gf_X11_80 (kt_100 hL1) rfl hd1 ?_
    refine Viload_n C 2 (dAt D_X11_text 31 rfl) rfl rfl ?_
    refine Vaload_n C 1 (dAt D_X11_text 32 rfl) rfl rfl ?_
    refine VgetI C (dAt D_X11_text 33 rfl) gf_X11_104 (kt_100 hL1) rfl ?_
    obtain ⟨u4, e4, h⟩ := ok_b h
    refine VcallV (as := [_, _, _]) C (dAt D_X11_text 34 rfl) (m_X8_add hL1 (ts_128 hL1) htx1 e4) yv_X11_129 (Or.inl ⟨kt_128 hL1, by decide⟩) rfl rfl (Nat.le_of_ble_eq_true rfl) (by decide) (by decide) (by decide) (by decide) (Kvoid ?_)
    have hL2 : Lay (sP (sP w 112 7 (lt_p w 100 10)) (128 + 1) (gI (sI (sI r1.2 (lt_p w 100 10) 5 x1) (lt_p w 100 10) 6 (gI r1.2 100 11)) 128 1).toNatClampNeg (lt_p w 100 10)) := Lay_it hL1 (Or.inl rfl)
    generalize sP (sP w 112 7 (lt_p w 100 10)) (128 + 1) (gI (sI (sI r1.2 (lt_p w 100 10) 5 x1) (lt_p w 100 10) 6 (gI r1.2 100 11)) 128 1).toNatClampNeg (lt_p w 100 10) = w2 at hL2 h ⊢
    refine Vfresh (fun hf => ?_)
    refine Vaload_n C 1 (dAt D_X11_text 35 rfl) rfl rfl ?_
    refine Vnew (t := 7) C (dAt D_X11_text 36 rfl) (by decide) gc_X11_77 gi_7 gz_7 (by decide) (by decide) ?_
    refine Vdup C (dAt D_X11_text 37 rfl) rfl ?_
    have hM : Mt g yX7_init cX7_init 2 none 2 26 1464 [.ref w2.1] (nwL w2 7 0) (nwM w2 u4) (Qv (WT' w2 u4).1 (WT' w2 u4).2) := m_X7_init (nw_n (t := 7) (n := 0)) (Nat.lt_succ_self _)
    refine VcallI (as := []) (t := 7) C (dAt D_X11_text 38 rfl) hM yb_X11_79 yi_X11_79 rfl (nw_n (t := 7) (n := 0)) (by decide) rfl rfl (Nat.le_of_ble_eq_true rfl) (by decide) (by decide) (by decide) (by decide) (Kvoid ?_)
    have hL3 := Lay_newtext u4 hf hL2
    refine VputP C (dAt D_X11_text 39 rfl) gf_X11_80 (kt_100 hL3) rfl rfl rfl ?_
    have hL4 : Lay (sP (WT' w2 u4).1 100 10 w2.1) := Lay_dr hL3
    refine Vaload_n C 1 (dAt D_X11_text 40 rfl) rfl rfl ?_
    refine VgetP C (dAt D_X11_text 41 rfl) gf_X11_63 (kt_100 hL4) rfl (kp_100_6 hL4) ?_
    refine Viload_n C 2 (dAt D_X11_text 42 rfl) rfl rfl ?_
    obtain ⟨u5, e5, h⟩ := ok_b h
    refine VcallV (as := [_]) C (dAt D_X11_text 43 rfl) (m_X1_forgetFrom hL4 (bk_130 hL4) e5) yv_X11_110 (Or.inl ⟨kt_130 hL4, by decide⟩) rfl rfl (Nat.le_of_ble_eq_true rfl) (by decide) (by decide) (by decide) (by decide) (Kvoid ?_)
    cases h
    refine Viload_n C 0 (dAt D_X11_text 44 rfl) rfl rfl ?_
    exact Viret C (dAt D_X11_text 45 rfl) (by decide) (by decide) ⟨rfl, rfl, rfl⟩
theorem m_X11_text {g : GT} {w : LT} (hL : Lay w) {f : Nat} {x1 : Int32} {u : MT} {r : Int32 × LT × MT} (h : F_X11_text w f x1 u = some r) : Mt g yX11_text cX11_text 3 (some .int) 34 27 1471 [.ref 100, .int x1] w u (Qi r.1 r.2.1 r.2.2) := by
  refine Mt_of (own := RX11) (by decide +kernel) rfl (Nat.le_of_ble_eq_true rfl) (fun z C _ => ?_)
  show V z g 3 0 [(0, .ref 100), (1, .int x1)] [] w u 0 0 _
  rw [F_X11_text] at h
  have k18 : ∀ (u1 : MT), some (-1, w, sI u1 110 1 0) = some r → V z g 3 18 [(0, .ref 100), (1, .int x1)] [] w u1 0 0 (Qi r.1 r.2.1 r.2.2) := by
    intro u1 h
    cases h
    refine Vaload_n C 0 (dAt D_X11_text 8 rfl) rfl rfl ?_
    refine VgetP C (dAt D_X11_text 9 rfl) gf_X11_26 (kt_100 hL) rfl (kp_100_2 hL) ?_
    refine Viconst (x := 0) C (dAt D_X11_text 10 rfl) (by decide) ?_
    refine VputI C (dAt D_X11_text 11 rfl) gf_X11_121 (kt_110 hL) rfl rfl rfl rfl ?_
    refine Viconst (x := -1) C (dAt D_X11_text 12 rfl) (by decide) ?_
    exact Viret C (dAt D_X11_text 13 rfl) (by decide) (by decide) ⟨rfl, rfl, rfl⟩
  refine Viload_n C 1 (dAt D_X11_text 0 rfl) rfl rfl ?_
  obtain ⟨r1, e1, h⟩ := ok_b h
  refine VcallS (as := [_]) C (dAt D_X11_text 1 rfl) (m_X11_isQuarter hL e1) yb_X11_101 ys_X11_101 rfl rfl (Nat.le_of_ble_eq_true rfl) (by decide) (by decide) (by decide) (by decide) (Kint ?_)
  refine Vif_eq (tgt := 18) C (dAt D_X11_text 2 rfl) (by decide) (fun c => k18 _ (ok_t c h)) (fun c => ?_)
  have h := ok_f c h
  refine Vaload_n C 0 (dAt D_X11_text 3 rfl) rfl rfl ?_
  refine VgetP C (dAt D_X11_text 4 rfl) gf_X11_54 (kt_100 hL) rfl (kp_100_5 hL) ?_
  refine Viload_n C 1 (dAt D_X11_text 5 rfl) rfl rfl ?_
  obtain ⟨r2, e2, h⟩ := ok_b h
  refine VcallV (as := [_]) C (dAt D_X11_text 6 rfl) (m_X8_canTake hL (ts_128 hL) e2) yv_X11_122 (Or.inl ⟨kt_128 hL, by decide⟩) rfl rfl (Nat.le_of_ble_eq_true rfl) (by decide) (by decide) (by decide) (by decide) (Kint ?_)
  refine Vif_ne (tgt := 28) C (dAt D_X11_text 7 rfl) (by decide) (fun c2 => ?_) (fun c2 => k18 _ (ok_t c2 h))
  exact w_X11_text_28 hL C (ok_f c2 h)
