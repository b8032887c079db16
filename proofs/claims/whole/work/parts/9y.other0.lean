/-! ===== other, where it finds a FAULT: it makes nothing ===== -/
theorem B58_fst {w : LT} {f : Nat} {x : Int32} {u : MT} {r : Int32 × LT × MT} (h : B_X11_other_58 w f x u = some r) : r.1 = x := by
  rw [B_X11_other_58] at h
  by_cases c : lt_p w 100 9 = 0
  · have h := ok_t c h
    obtain ⟨_, _, h⟩ := ok_b h
    cases h; rfl
  · have h := ok_f c h
    obtain ⟨_, h⟩ := ok_ck h
    obtain ⟨_, _, h⟩ := ok_b h
    cases h; rfl
theorem m_X11_other0 {g : GT} {w : LT} (hL : Lay w) {f : Nat} {u : MT} {r : Int32 × LT × MT} (h : F_X11_other w f u = some r) (hr : r.1 ≠ 0) : Mt g yX11_other cX11_other 3 (some .int) 34 0 0 [.ref 100] w u (Qi r.1 r.2.1 r.2.2) := by
  refine Mt_of (own := RX11) (by decide +kernel) rfl (Nat.le_of_ble_eq_true rfl) (fun z C _ => ?_)
  show V z g 3 0 [(0, .ref 100)] [] w u 0 0 _
  rw [F_X11_other] at h
  refine Vaload_n C 0 (dAt D_X11_other 0 rfl) rfl rfl ?_
  refine VgetP C (dAt D_X11_other 1 rfl) gf_X11_33 (kt_100 hL) rfl (kp_100_3 hL) ?_
  refine Vaload_n C 0 (dAt D_X11_other 2 rfl) rfl rfl ?_
  refine VgetP C (dAt D_X11_other 3 rfl) gf_X11_26 (kt_100 hL) rfl (kp_100_2 hL) ?_
  refine Vaload_n C 0 (dAt D_X11_other 4 rfl) rfl rfl ?_
  refine VgetP C (dAt D_X11_other 5 rfl) gf_X11_10 (kt_100 hL) rfl (kp_100_0 hL) ?_
  refine VgetI C (dAt D_X11_other 6 rfl) gf_X11_92 (kt_101 hL) rfl ?_
  refine Vaload_n C 0 (dAt D_X11_other 7 rfl) rfl rfl ?_
  refine VgetP C (dAt D_X11_other 8 rfl) gf_X11_80 (kt_100 hL) rfl rfl ?_
  obtain ⟨cd, h⟩ := ok_ck h
  obtain ⟨r1, e1, h⟩ := ok_b h
  have htx := hL.2.2.1 _ cd
  refine VcallV (as := [_, _, _]) C (dAt D_X11_other 9 rfl) (m_X3_parse hL htx e1) yv_X11_125 (Or.inl ⟨kt_112 hL, by decide⟩) rfl rfl (Nat.le_of_ble_eq_true rfl) (by decide) (by decide) (by omega) (by omega) (Kint ?_)
  refine Vistore_n (lv' := [(1, _), (0, _)]) C (dAt D_X11_other 10 rfl) rfl (by decide) rfl ?_
  refine Viload_n C 0 (dAt D_X11_other 11 rfl) rfl rfl ?_
  refine Vif_ne (tgt := 100) C (dAt D_X11_other 12 rfl) (by decide) (fun c => ?_) (fun c => ?_)
  · have h := ok_f c h
    cases h
    refine Viload_n C 0 (dAt D_X11_other 48 rfl) rfl rfl ?_
    exact Viret C (dAt D_X11_other 49 rfl) (by omega) (by omega) ⟨rfl, rfl, rfl⟩
  · have h := ok_t c h
    obtain ⟨p, e4, h⟩ := ok_b h
    exfalso
    by_cases c2 : p.1 = 0
    · exact hr ((B58_fst (ok_t c2 h)).trans c)
    · exact hr ((B58_fst (ok_f c2 h)).trans c)
