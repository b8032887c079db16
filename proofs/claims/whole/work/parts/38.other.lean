/-! ===== SunVillage.other ===== -/
/-- what the other book costs, if it isn't there yet -/
def obc (w : LT) (n : Nat) : Nat := if lt_p w 100 9 = 0 then n else 0
def B_X11_other_58 (w : LT) (f : Nat) (x1 : Int32) (u : MT) : Option (Int32 × LT × MT) :=
  if lt_p w 100 9 = 0 then
    (F_X1_forgetFrom f w.1 138 0 (WB' w u).2).bind fun u5 =>
    some (x1, sP (WB' w u).1 100 9 w.1, u5)
  else
    ck (lt_t w (lt_p w 100 9) = 1) <|
    (F_X1_forgetFrom f (lt_p w 100 9) (lt_p w (lt_p w 100 9) 2) 0 u).bind fun u5 =>
    some (x1, w, u5)
def F_X11_other (w : LT) (f : Nat) (u : MT) : Option (Int32 × LT × MT) :=
  let d := lt_p w 100 10
  ck (lt_t w d = 7) <|
  (F_X3_parse f (gI u 101 2) d u).bind fun r =>
  if r.1 = 0 then
    (F_X8_putOnly (sP w 112 7 d) f 138 d r.2).bind fun p =>
    let w2 := sP (sP w 112 7 d) (138 + 1) (gI (sI (sI (sI r.2 138 1 0) d 5 0) d 6 0) 138 1).toNatClampNeg d
    if p.1 = 0 then
      B_X11_other_58 (sP (WT' w2 p.2).1 100 10 w2.1) f r.1 (WT' w2 p.2).2
    else
      B_X11_other_58 (sP w2 100 10 p.1) f r.1 p.2
  else
    some (r.1, sP w 112 7 d, r.2)
set_option maxRecDepth 100000 in
theorem w_X11_other_58 {z : ZT} {g : GT} {w : LT} (hL : Lay w) {f mc ms kc ks : Nat} {x1 : Int32} {u : MT} {r : Int32 × LT × MT} (C : Cx z g cX11_other 3 RX11 (some .int) 34 mc ms) (hc : kc + obc w 6 ≤ mc) (hs : ks + obc w 14891 ≤ ms) (h : B_X11_other_58 w f x1 u = some r) : V z g 3 58 [(0, .ref 100), (1, .int x1)] [] w u kc ks (Qi r.1 r.2.1 r.2.2) := by
  rw [B_X11_other_58] at h
  refine Vaload_n C 0 (dAt D_X11_other 28 rfl) rfl rfl ?_
  refine VgetP C (dAt D_X11_other 29 rfl) gf_X11_114 (kt_100 hL) rfl rfl ?_
  refine Vifnonnull (tgt := 92) C (dAt D_X11_other 30 rfl) (by decide) (fun c => ?_) (fun c => ?_)
  · have h := ok_f c h
    refine Vaload_n C 0 (dAt D_X11_other 44 rfl) rfl rfl ?_
    refine VgetP C (dAt D_X11_other 45 rfl) gf_X11_114 (kt_100 hL) rfl rfl ?_
    refine Viconst (x := 0) C (dAt D_X11_other 46 rfl) (by decide) ?_
    obtain ⟨c1, h⟩ := ok_ck h
    obtain ⟨u5, e5, h⟩ := ok_b h
    have hbk := hL.2.2.2 _ c1
    refine VcallV (as := [_]) C (dAt D_X11_other 47 rfl) (m_X1_forgetFrom hL hbk e5) yv_X11_110 (Or.inl ⟨hbk.1, by decide⟩) rfl rfl (Nat.le_of_ble_eq_true rfl) (by decide) (by decide) (by omega) (by omega) (Kvoid ?_)
    cases h
    refine Viload_n C 1 (dAt D_X11_other 48 rfl) rfl rfl ?_
    exact Viret C (dAt D_X11_other 49 rfl) (by omega) (by omega) ⟨rfl, rfl, rfl⟩
  · have h := ok_t c h
    have o6 : obc w 6 = 6 := if_pos c
    have o7 : obc w 14891 = 14891 := if_pos c
    rw [o6] at hc
    rw [o7] at hs
    refine Vfresh (fun hf => ?_)
    obtain ⟨b1, b2, b3, b4, b5, b6, b7⟩ := newbook u hf hL
    refine Vaload_n C 0 (dAt D_X11_other 31 rfl) rfl rfl ?_
    have hs1 : ks + cN 1 ≤ ms := by rw [show cN 1 = 11 from rfl]; omega
    refine Vnew (t := 1) C (dAt D_X11_other 32 rfl) (by decide) gc_X11_58 gi_1 gz_1 (by omega) hs1 ?_
    refine Vdup C (dAt D_X11_other 33 rfl) rfl ?_
    have hf1 : Fre (nwL w 1 0) := Fre_nw hf
    have t100 : lt_t (nwL w 1 0) 100 = 11 := (nw_t (t := 1) (n := 0) (fre_lt hf (by rw [kt_100 hL]; decide))).trans (kt_100 hL)
    have n100 : 100 < w.1 := fre_lt hf (by rw [kt_100 hL]; decide)
    refine Vaload_n C 0 (dAt D_X11_other 34 rfl) rfl rfl ?_
    refine VgetP C (dAt D_X11_other 35 rfl) gf_X11_10 t100 rfl ((nw_p (t := 1) (n := 0) n100 0).trans (kp_100_0 hL)) ?_
    refine Vaload_n C 0 (dAt D_X11_other 36 rfl) rfl rfl ?_
    refine VgetP C (dAt D_X11_other 37 rfl) gf_X11_19 t100 rfl ((nw_p (t := 1) (n := 0) n100 1).trans (kp_100_1 hL)) ?_
    refine Vaload_n C 0 (dAt D_X11_other 38 rfl) rfl rfl ?_
    refine VgetP C (dAt D_X11_other 39 rfl) gf_X11_74 t100 rfl ((nw_p (t := 1) (n := 0) n100 8).trans (kp_100_8 hL)) ?_
    refine Vaload_n C 0 (dAt D_X11_other 40 rfl) rfl rfl ?_
    refine VgetP C (dAt D_X11_other 41 rfl) gf_X11_47 t100 rfl ((nw_p (t := 1) (n := 0) n100 4).trans (kp_100_4 hL)) ?_
    have hM : Mt g yX1_init cX1_init 5 none 1 5 14880 [.ref w.1, .ref 101, .ref 104, .ref 138, .ref 116] (nwL w 1 0) (nwM w u) (Qv (WB' w u).1 (WB' w u).2) := m_X1_init (nw_n (t := 1) (n := 0)) (Nat.lt_succ_self _)
    have hs2 : ks + cN 1 + 14880 ≤ ms := by rw [show cN 1 = 11 from rfl]; omega
    have hs3 : ks + cN 1 + 14880 + 0 ≤ ms := by rw [show cN 1 = 11 from rfl]; omega
    refine VcallI (as := [_, _, _, _]) (t := 1) C (dAt D_X11_other 42 rfl) hM yb_X11_60 yi_X11_60 rfl (nw_n (t := 1) (n := 0)) (by decide) rfl rfl (Nat.le_of_ble_eq_true rfl) (by decide) (by decide) (by omega) hs2 (Kvoid ?_)
    refine VputP C (dAt D_X11_other 43 rfl) gf_X11_114 (kt_100 b7) rfl rfl rfl ?_
    have hL4 : Lay (sP (WB' w u).1 100 9 w.1) := Lay_ob b7
    have k100 := kt_100 b7
    have hb4 : isBk (sP (WB' w u).1 100 9 w.1) w.1 138 := isBk_sP b4 (by omega) (by omega)
    refine Vaload_n C 0 (dAt D_X11_other 44 rfl) rfl rfl ?_
    refine VgetP (b := w.1) C (dAt D_X11_other 45 rfl) gf_X11_114 (kt_100 hL4) rfl sP_e ?_
    refine Viconst (x := 0) C (dAt D_X11_other 46 rfl) (by decide) ?_
    obtain ⟨u5, e5, h⟩ := ok_b h
    refine VcallV (as := [_]) C (dAt D_X11_other 47 rfl) (m_X1_forgetFrom hL4 hb4 e5) yv_X11_110 (Or.inl ⟨hb4.1, by decide⟩) rfl rfl (Nat.le_of_ble_eq_true rfl) (by decide) (by decide) (by omega) hs3 (Kvoid ?_)
    cases h
    refine Viload_n C 1 (dAt D_X11_other 48 rfl) rfl rfl ?_
    exact Viret C (dAt D_X11_other 49 rfl) (by omega) hs3 ⟨rfl, rfl, rfl⟩
theorem m_X11_other {g : GT} {w : LT} (hL : Lay w) {f mc ms : Nat} {u : MT} {r : Int32 × LT × MT} (hc : 27 + obc w 6 ≤ mc) (hs : 1471 + obc w 14891 ≤ ms) (h : F_X11_other w f u = some r) : Mt g yX11_other cX11_other 3 (some .int) 34 mc ms [.ref 100] w u (Qi r.1 r.2.1 r.2.2) := by
  refine Mt_of (own := RX11) (by decide +kernel) rfl (Nat.le_of_ble_eq_true rfl) (fun z C _ => ?_)
  show V z g 3 0 [(0, .ref 100)] [] w u 0 0 _
  rw [F_X11_other] at h
  refine Vaload_n C 0 (dAt D_X11_other 0 rfl) rfl rfl ?_
  refine VgetP C (dAt D_X11_other 1 rfl) gf_X11_33 (kt_100 hL) rfl (kp_100_3 hL) ?_
  refine Vaload_n C 0 (dAt D_X11_other 2 rfl) rfl rfl ?_
  refine VgetP C (dAt D_X11_other 3 rfl) gf_X11_26 (kt_100 hL) rfl (kp_100_2 hL) ?_
  refine Vaload_n C 0 (dAt D_X11_other 4 rfl) rfl rfl ?_
  refine VgetP C (dAt D_X11_other 5 rfl) gf_X11_10 (kt_100 hL) rfl (kp_100_0 hL) ?_
  refine VgetI C (dAt D_X11_other 6 rfl) gf_X11_92 (kt_101 hL) rfl ?_
  refine Vaload_n C 0 (dAt D_X11_other 7 rfl) rfl rfl ?_
  refine VgetP C (dAt D_X11_other 8 rfl) gf_X11_80 (kt_100 hL) rfl rfl ?_
  obtain ⟨cd, h⟩ := ok_ck h
  obtain ⟨r1, e1, h⟩ := ok_b h
  have htx := hL.2.2.1 _ cd
  refine VcallV (as := [_, _, _]) C (dAt D_X11_other 9 rfl) (m_X3_parse hL htx e1) yv_X11_125 (Or.inl ⟨kt_112 hL, by decide⟩) rfl rfl (Nat.le_of_ble_eq_true rfl) (by decide) (by decide) (by omega) (by omega) (Kint ?_)
  have hL1 := Lay_rt hL (lt_p w 100 10)
  have htx1 := isTx_rt hL htx (lt_p w 100 10)
  have hd1 : lt_p (sP w 112 7 (lt_p w 100 10)) 100 10 = lt_p w 100 10 := sP_p (by decide) 10
  refine Vistore_n (lv' := [(1, _), (0, _)]) C (dAt D_X11_other 10 rfl) rfl (by decide) rfl ?_
  refine Viload_n C 0 (dAt D_X11_other 11 rfl) rfl rfl ?_
  refine Vif_ne (tgt := 100) C (dAt D_X11_other 12 rfl) (by decide) (fun c => ?_) (fun c => ?_)
  · have h := ok_f c h
    cases h
    refine Viload_n C 0 (dAt D_X11_other 48 rfl) rfl rfl ?_
    exact Viret C (dAt D_X11_other 49 rfl) (by omega) (by omega) ⟨rfl, rfl, rfl⟩
  · have h := ok_t c h
    refine Vaload_n C 1 (dAt D_X11_other 13 rfl) rfl rfl ?_
    refine VgetP C (dAt D_X11_other 14 rfl) gf_X11_74 (kt_100 hL1) rfl (kp_100_8 hL1) ?_
    refine Vaload_n C 1 (dAt D_X11_other 15 rfl) rfl rfl ?_
    refine VgetP C (dAt D_X11_other 16 rfl) gf_X11_80 (kt_100 hL1) rfl hd1 ?_
    obtain ⟨p, e4, h⟩ := ok_b h
    refine VcallV (as := [_]) C (dAt D_X11_other 17 rfl) (m_X8_putOnly hL1 (ts_138 hL1) htx1 e4) yv_X11_132 (Or.inl ⟨kt_138 hL1, by decide⟩) rfl rfl (Nat.le_of_ble_eq_true rfl) (by decide) (by decide) (by omega) (by omega) (Kref ?_)
    have hL2 : Lay (sP (sP w 112 7 (lt_p w 100 10)) (138 + 1) (gI (sI (sI (sI r1.2 138 1 0) (lt_p w 100 10) 5 0) (lt_p w 100 10) 6 0) 138 1).toNatClampNeg (lt_p w 100 10)) := Lay_it hL1 (Or.inr rfl)
    have ho2 : lt_p (sP (sP w 112 7 (lt_p w 100 10)) (138 + 1) (gI (sI (sI (sI r1.2 138 1 0) (lt_p w 100 10) 5 0) (lt_p w 100 10) 6 0) 138 1).toNatClampNeg (lt_p w 100 10)) 100 9 = lt_p w 100 9 := (sP_p (by decide) 9).trans (sP_p (by decide) 9)
    generalize sP (sP w 112 7 (lt_p w 100 10)) (138 + 1) (gI (sI (sI (sI r1.2 138 1 0) (lt_p w 100 10) 5 0) (lt_p w 100 10) 6 0) 138 1).toNatClampNeg (lt_p w 100 10) = w2 at hL2 ho2 h ⊢
    have oc2 : ∀ n, obc (sP w2 100 10 p.1) n = obc w n := fun n => by unfold obc; rw [sP_q (by decide), ho2]
    refine Vastore_n (lv' := [(2, _), (1, _), (0, _)]) C (dAt D_X11_other 18 rfl) rfl (by decide) rfl ?_
    refine Vaload_n C 2 (dAt D_X11_other 19 rfl) rfl rfl ?_
    refine Vaload_n C 0 (dAt D_X11_other 20 rfl) rfl rfl ?_
    refine Vifnonnull (tgt := 54) C (dAt D_X11_other 21 rfl) (by decide) (fun c2 => ?_) (fun c2 => ?_)
    · have h := ok_f c2 h
      refine Vaload_n C 0 (dAt D_X11_other 26 rfl) rfl rfl ?_
      refine VputP C (dAt D_X11_other 27 rfl) gf_X11_80 (kt_100 hL2) rfl rfl rfl ?_
      exact Vsub [2, 1] rfl (w_X11_other_58 (Lay_dr hL2) C (by rw [oc2]; omega) (by rw [oc2]; omega) h)
    · have h := ok_t c2 h
      refine Vfresh (fun hf => ?_)
      obtain ⟨q1, q2, q3, q4, q5, q6, q7, q8⟩ := newtext p.2 hf
      have n100 : 100 < w2.1 := fre_lt hf (by rw [kt_100 hL2]; decide)
      have hs1 : 0 + 0 + 0 + cN 7 ≤ ms := by rw [show cN 7 = 7 from rfl]; omega
      refine Vnew (t := 7) C (dAt D_X11_other 22 rfl) (by decide) gc_X11_77 gi_7 gz_7 (by omega) hs1 ?_
      refine Vdup C (dAt D_X11_other 23 rfl) rfl ?_
      have hM : Mt g yX7_init cX7_init 2 none 2 26 1464 [.ref w2.1] (nwL w2 7 0) (nwM w2 p.2) (Qv (WT' w2 p.2).1 (WT' w2 p.2).2) := m_X7_init (nw_n (t := 7) (n := 0)) (Nat.lt_succ_self _)
      have hs2 : 0 + 0 + 0 + cN 7 + 1464 ≤ ms := by rw [show cN 7 = 7 from rfl]; omega
      refine VcallI (as := []) (t := 7) C (dAt D_X11_other 24 rfl) hM yb_X11_79 yi_X11_79 rfl (nw_n (t := 7) (n := 0)) (by decide) rfl rfl (Nat.le_of_ble_eq_true rfl) (by decide) (by decide) (by omega) hs2 (Kvoid ?_)
      have hL3 := Lay_newtext p.2 hf hL2
      refine Vgoto (tgt := 55) C (dAt D_X11_other 25 rfl) (by decide) ?_
      refine VputP C (dAt D_X11_other 27 rfl) gf_X11_80 (kt_100 hL3) rfl rfl rfl ?_
      have oc3 : ∀ n, obc (sP (WT' w2 p.2).1 100 10 w2.1) n = obc w n := fun n => by unfold obc; rw [sP_q (by decide), q3 100 9 n100, ho2]
      refine Vsub [2, 1] rfl (w_X11_other_58 (Lay_dr hL3) C (by rw [oc3]; omega) ?_ h)
      rw [oc3]
      rw [show cN 7 = 7 from rfl]
      omega
