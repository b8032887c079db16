/-! ===== by: both alike ===== -/
theorem Bok.again {V : VD} {X : XD} {d x2 : Int32} {b W q : Nat} {u r : MT} (h12 : vlN V ≤ 12) (h : Bok V X d b W u) (hq : q < W) (hW : Wag V X d b q x2 u r) : Bok V X d b W r := by
  obtain ⟨a1, a2, a3, a4, _⟩ := hW
  obtain ⟨b1, b2, b3⟩ := h
  refine ⟨fun q' hq' => ?_, fun q' k hq' hn hh => ?_, fun q' k hq' hn hh => ?_⟩
  · by_cases e : q' = q
    · subst e; exact a1
    · obtain ⟨o1, o2⟩ := b1 q' hq'
      refine ⟨fun h hh => ?_, fun k hk => by rw [a4 _ (by omega)]; exact o2 k hk⟩
      obtain ⟨z1, z2, z3, z4⟩ := a3 (q' * 12 + h) (by omega)
      rw [z1, z2, z3, z4]; exact o1 h hh
  · obtain ⟨z1, z2, z3, z4⟩ := a3 (q' * 12 + k) (by omega)
    rw [z2, z3, z4]; exact b2 q' k hq' hn hh
  · obtain ⟨z1, z2, z3, z4⟩ := a3 (q' * 12 + k) (by omega)
    rw [z1]; exact b3 q' k hq' hn hh
def byS (A : AS) (q t i : Nat) : QS := ruls (vlN (aV A)) q (vlS (aV A)) (vlC (aV A)) (xtH (aX A) t) ((xtR (aX A) t).take i) (tB (aV A) (aD A) q (tPr (aV A) (aX A) (aD A) q))
section
variable {f : Nat}
theorem c_by84 {A : AS} {c q t i : Nat} {w : LT} {u : MT} {x1 x2 x3 : Int32} (hf : 3000 < f) (hLay : Lay w) (hA : AOk A c) (hL : LOk A w) (hC : ICl A w u) (hx1 : Nm x1 q) (hq : q < 240) (hx2 : Nm x2 i) (ht : txO (aX A) (aD A) q = some t) (hi : i < (xtR (aX A) t).length) (h3 : x3 = -1 ∨ (0 ≤ x3.toInt ∧ x3.toInt < (vlN (aV A) : Int))) :
    Ok (B_X11_by_84 w f x1 x2 x3 u) (fun r => r.1 = (if x3 = -1 then qF (byS A q t (i + 1)) - qF (byS A q t i) else qH (byS A q t (i + 1)) x3.toNatClampNeg - qH (byS A q t i) x3.toNatClampNeg) ∧ ICl A w r.2 ∧ FrC u r.2) := by
  have h12 := hA.1.1
  obtain ⟨u1, e1, C1, F1, T1⟩ := I_main (f := f) (x := x1) (d := aD A) hf hLay hA hL hC hx1 hq
  obtain ⟨⟨W, t1, t2, t3, t4⟩, t5, t6, t7, _⟩ := T1
  have hC1' := C1
  obtain ⟨a1, a2, a3, a4, a5, a6, a7, a8, a9, _, a11⟩ := hC1'
  have rq := t4.1 q t1
  obtain ⟨u2, e2, hW⟩ := c_wagain (f := f) (x := x1) (x2 := x2) (o := tri (aV A) (aD A) q) (by omega) hA.1 hA.2.1 t6 t7 (Dj_of hLay a2 (kt_130 hLay) (by decide)) (by decide) (by decide) hx1 hq t5 (fun h hh => (rq.1 h hh).1) (fun h => rdx_tri q h) (fun h r e => (tri_lt q e).1) (fun _ => t4.1 (q - 1) (by omega))
  have B2 := Bok.again h12 t4 t1 hW
  obtain ⟨g1, g2, g3, g4, g5, g6, g7, g8⟩ := hW
  have F2 : FrC u1 u2 := ⟨fun a j c1 c2 => g2 _ _ (by omega) (by omega), fun j => (fr_F_X1_workAgain e2).2.1 _ _ (by simp [nin])⟩
  have C2 : ICl A w u2 := C1.wk hLay hA hL (b := 130) (fun a j c1 c2 => g2 _ _ c1 (by omega)) g5 g6 g8 (kt_130 hLay) (Or.inl rfl) ⟨W, by rw [g2 _ _ (by decide) (by decide)]; exact t3, t2, by rw [g2 _ _ (by decide) (by decide), t5]; exact B2⟩ (fun hy => (a11 hy).fr (fun a j c1 c2 => by
    obtain ⟨_, _, _, _, o2⟩ := hL.2.2.2.1 hy
    exact g2 _ _ (by omega) (by omega)))
  obtain ⟨_, y2⟩ := g7 i t hx2 ht
  obtain ⟨y2, y3⟩ := y2 hi
  rw [B_X11_by_84, c_day hC]
  refine Ok.bindE rfl ?_
  show Ok ((F_X1_workTo w f 130 128 x1 (aD A) u).bind _) _
  rw [e1]
  refine Ok.bindE rfl ?_
  rw [e2]
  refine Ok.bindE rfl ?_
  refine Ok.ite (fun c => Ok.some ⟨by rw [if_pos c]; exact y3, C2, F1.tr F2⟩) (fun c => ?_)
  have h3' := h3.resolve_left c
  have n3 : Nm x3 x3.toNatClampNeg := Nm.of_nn h3'.1
  have n3' : x3.toInt = (x3.toNatClampNeg : Int) := n3
  refine Ok.ck (n3.ix (by omega)) (Ok.some ⟨by rw [if_neg c]; exact y2 _ (by omega), C2, F1.tr F2⟩)
theorem P_by {A : AS} {c : Nat} {w : LT} {u : MT} {x1 x2 x3 : Int32} (hf : 3000 < f) (hLay : Lay w) (h : Inv A c w u) : ∃ a u1 u2 A', F_X11_by w f x1 x2 x3 u = some (a, u1) ∧ F_X12_by f x1 x2 x3 u1 = some (a, u2) ∧ Inv A' (c + 1) w u2 := by
  have hI := h.thr (x := 0)
  obtain ⟨hA, hL, hC, hR⟩ := h
  have h12 := hA.1.1
  have z0 : (0 : Int32).toInt = 0 := rfl
  have zm : (-1 : Int32).toInt = -1 := rfl
  have z239 : (239 : Int32).toInt = 239 := rfl
  by_cases g : (0 ≤ x1.toInt ∧ x1.toInt ≤ 239) ∧ (x3 = -1 ∨ (0 ≤ x3.toInt ∧ x3.toInt < (vlN (aV A) : Int)))
  · obtain ⟨g1, g2⟩ := g
    have n1 : Nm x1 x1.toNatClampNeg := Nm.of_nn g1.1
    generalize x1.toNatClampNeg = q at n1
    have n1' : x1.toInt = (q : Int) := n1
    have ex1 : x1 = Int32.ofNat q := n1.inj (Nm.of (by omega))
    have g3 : -1 ≤ x3.toInt ∧ x3.toInt < (vlN (aV A) : Int) := by
      rcases g2 with e | e
      · rw [e, zm]; omega
      · omega
    -- the class up to the text in force
    have hcl : F_X11_by w f x1 x2 x3 u = B_X11_by_25 w f x1 x2 x3 u := by
      rw [F_X11_by, c_isQ, b2i_t g1]
      show (if x3 = -1 then B_X11_by_25 w f x1 x2 x3 u else (F_X2_has f x3 u).bind _) = _
      by_cases c3 : x3 = -1
      · rw [if_pos c3]
      · rw [if_neg c3, c_has hC.1.1 h12, b2i_t (g2.resolve_left c3)]; rfl
    have hif : F_X8_inForce w f 128 x1 (aD A) u = some (ptF w 128 (txO (aX A) (aD A) q), u) := by
      rw [ex1]
      exact c_inForce (by omega) hC.2.1.1 hA.2.1.1 (fun t ht => (hC.2.1.2 t ht).1) (fun t ht => (hC.2.1.2 t ht).2.2.1) (fun t ht => (hC.2.1.2 t ht).2.2.2.1)
    -- the reference up to the works
    have hrf : ∀ v : MT, IRf A v → 0 ≤ x2.toInt → ∃ r9, F_X12_works f x1 (aD A) 0 (sI v 167 0 0) = some r9 ∧ (IRf A r9 ∧ FrR (sI v 167 0 0) r9 ∧ Rw (aV A) (aX A) (aD A) id q r9 ∧ Fr wI_X12_works [] [] (sI v 167 0 0) r9) ∧ F_X12_by f x1 x2 x3 v = (if gI r9 167 44 < 0 then some (-1, r9) else ck (ixo (gI r9 167 44) 8) (if x2 < gI r9 173 (gI r9 167 44).toNatClampNeg then (if 0 ≤ x3 then ck (ixo (13 * x2 + x3) 312) (some (gI r9 209 (13 * x2 + x3).toNatClampNeg, r9)) else ck (ixo (24 * gI r9 167 44 + x2) 192) (if gI r9 176 (24 * gI r9 167 44 + x2).toNatClampNeg = 5 then ck (ixo (13 * x2 + 12) 312) (some (gI r9 209 (13 * x2 + 12).toNatClampNeg, r9)) else some (-1, r9))) else some (-1, r9))) := by
      intro v hv hx2
      have hv1 : IRf A (sI v 167 0 0) := hv.thr
      obtain ⟨r9, e9, h9⟩ := R_main (f := f) (x := x1) (d := aD A) (by omega) hA hv1 n1 (by omega)
      refine ⟨r9, e9, h9, ?_⟩
      have f31 : (gI (sI v 167 0 0) 167 31).toInt = (vlN (aV A) : Int) := hv1.1.1
      rw [F_X12_by]
      show (if x1 < 0 then _ else if 239 < x1 then _ else if x3 < -1 then _ else if gI (sI v 167 0 0) 167 31 ≤ x3 then _ else if 0 ≤ x2 then (F_X12_lookDay f (sI v 167 0 0)).bind _ else _) = _
      rw [if_neg (fun e => by have := i_lt.mp e; omega), if_neg (fun e => by have := i_lt.mp e; omega), if_neg (fun e => by have := i_lt.mp e; omega), if_neg (fun e => by have := i_le.mp e; omega), if_pos (i_le.mpr (by omega)), r_day hA hv1]
      show (F_X12_works f x1 (aD A) 0 (sI v 167 0 0)).bind _ = _
      rw [e9]; rfl
    have hneg : ∀ v : MT, x2.toInt < 0 → F_X12_by f x1 x2 x3 v = some (-1, sI v 167 0 0) := by
      intro v hx2
      have s : ∀ (a b : Option (Int32 × MT)), a = b → a = b := fun _ _ h => h
      rw [F_X12_by]
      by_cases d1 : x1 < 0
      · rw [if_pos d1]
      rw [if_neg d1]
      by_cases d2 : 239 < x1
      · rw [if_pos d2]
      rw [if_neg d2]
      by_cases d3 : x3 < -1
      · rw [if_pos d3]
      rw [if_neg d3]
      by_cases d4 : gI (sI v 167 0 0) 167 31 ≤ x3
      · rw [if_pos d4]
      rw [if_neg d4, if_neg (fun e => by have := i_le.mp e; omega)]
    rw [hcl, B_X11_by_25, c_day hC]
    show ∃ a u1 u2 A', (F_X8_inForce w f 128 x1 (aD A) u).bind _ = _ ∧ _
    rw [hif]
    -- the class answers -1 and did nothing
    have nothing : (∀ v, IRf A v → 0 ≤ x2.toInt → ∃ r9, F_X12_by f x1 x2 x3 v = some (-1, r9) ∧ IRf A r9 ∧ FrR (sI v 167 0 0) r9) → ∃ a u1 u2 A', some ((-1 : Int32), u) = some (a, u1) ∧ F_X12_by f x1 x2 x3 u1 = some (a, u2) ∧ Inv A' (c + 1) w u2 := by
      intro hh
      by_cases cx : 0 ≤ x2.toInt
      · obtain ⟨r9, q1, q2, q3⟩ := hh u hR cx
        exact ⟨-1, u, r9, A, rfl, q1, hA.mono, hL, (hC.fr hA hL (FrR.put (a := 167) (by decide))).fr hA hL q3, q2⟩
      · exact ⟨-1, u, _, A, rfl, hneg u (by omega), hI⟩
    cases et : txO (aX A) (aD A) q with
    | none =>
      show ∃ a u1 u2 A', some ((-1 : Int32), u) = some (a, u1) ∧ F_X12_by f x1 x2 x3 u1 = some (a, u2) ∧ Inv A' (c + 1) w u2
      refine nothing (fun v hv cx => ?_)
      obtain ⟨r9, q1, ⟨q2, q3, q4, q5⟩, q6⟩ := hrf v hv cx
      obtain ⟨_, _, _, _, _, _, _, _, _, _, w11, _⟩ := q4
      rw [et] at w11
      exact ⟨r9, by rw [q6, w11, if_pos (by decide)], q2, q3⟩
    | some t =>
      have htl := txF_lt _ et
      obtain ⟨p1, p2, p3, p4, p5⟩ := hC.2.1.2 t htl
      obtain ⟨o1, o2, o3, o4, o5⟩ := hA.2.1.2 t htl
      have p1 : lt_t w (lt_p w 129 t) = 7 := p1
      have p2 : 128 ≤ lt_p w 129 t := p2
      have t6 := hA.2.1.1
      obtain ⟨⟨cc, k1, k2, k3, k4⟩, k5⟩ := p5
      have k2 : Nm (gI u (lt_p w 129 t) 1) (xtR (aX A) t).length := k2
      have k4 : ∀ s, s < (xtR (aX A) t).length → CR u (lt_p w 129 t) (lt_p w 129 t + 3 + s) cc ((xtR (aX A) t).getD s rNone) := k4
      show ∃ a u1 u2 A', (if lt_p w 129 t = 0 then some ((-1 : Int32), u) else ck (lt_t w (lt_p w 129 t) = 7) ((F_X11_isIn f x2 0 (gI u (lt_p w 129 t) 1 - 1) u).bind _)) = _ ∧ _
      rw [if_neg (by omega), ck_p p1, c_isIn]
      have k2' : (gI u (lt_p w 129 t) 1).toInt = ((xtR (aX A) t).length : Int) := k2
      have z1 : (1 : Int32).toInt = 1 := rfl
      have es : (gI u (lt_p w 129 t) 1 - 1).toInt = ((xtR (aX A) t).length : Int) - 1 := by rw [i_sub (by omega) (by omega)]; omega
      have n44 : Nm (txC ((some t).map id)) t := (show Nm (Int32.ofNat t) t from Nm.of (by omega))
      have n44' : (txC ((some t).map id)).toInt = (t : Int) := n44
      by_cases ci : 0 ≤ x2.toInt ∧ x2.toInt < ((xtR (aX A) t).length : Int)
      · rw [b2i_t (by rw [es, z0]; omega)]
        have n2 : Nm x2 x2.toNatClampNeg := Nm.of_nn ci.1
        generalize hi : x2.toNatClampNeg = i at n2
        have n2' : x2.toInt = (i : Int) := n2
        have il : i < (xtR (aX A) t).length := by omega
        have hCRi := k4 i il
        have hact := hCRi.2.1
        have eg : (xtR (aX A) t).getD i rNone = (xtR (aX A) t)[i] := by rw [List.getD_eq_getElem?_getD, List.getElem?_eq_getElem il]; rfl
        have hRVi := o5 _ (List.getElem_mem il)
        rw [← eg] at hRVi
        have hRVi := hRVi.1
        obtain ⟨ra, er, hr1, hr2, hr3⟩ := c_by84 (f := f) (x3 := x3) hf hLay hA hL hC n1 (by omega) n2 et il g2
        -- the reference behind the class's works
        have ref : ∀ v, IRf A v → ∃ r9, IRf A r9 ∧ FrR (sI v 167 0 0) r9 ∧ F_X12_by f x1 x2 x3 v = some ((if x3 = -1 then (if rAct ((xtR (aX A) t).getD i rNone) = 18 then qF (byS A q t (i + 1)) - qF (byS A q t i) else -1) else qH (byS A q t (i + 1)) x3.toNatClampNeg - qH (byS A q t i) x3.toNatClampNeg), r9) := by
          intro v hv
          obtain ⟨r9, q1, ⟨q2, q3, q4, q5⟩, q6⟩ := hrf v hv ci.1
          obtain ⟨_, _, _, _, _, _, _, _, _, _, w11, w12, _⟩ := q4
          rw [et] at w11
          obtain ⟨y1, y2⟩ := w12 t et i il
          obtain ⟨_, ⟨⟨c9, m1, m2, m3, m4⟩, m5⟩⟩ := q2.2.2.1 t htl
          have m2 : Nm (gI r9 173 t) (xtR (aX A) t).length := m2
          have m4 : RR r9 (1300 * t) (24 * t + i) c9 ((xtR (aX A) t).getD i rNone) := m4 i il
          refine ⟨r9, q2, q3, ?_⟩
          rw [q6, w11, if_neg (fun e => by have := i_lt.mp e; omega), ck_p (n44.ix (by omega)), n44.nat, if_pos ((n2.lt m2).mpr il)]
          by_cases c3 : x3 = -1
          · have n24 : Nm (24 * txC ((some t).map id) + x2) (24 * t + i) := ((show Nm (24 : Int32) 24 from rfl).mul n44 (by omega)).add n2 (by omega)
            have n13 : Nm (13 * x2 + 12) (13 * i + 12) := ((show Nm (13 : Int32) 13 from rfl).mul n2 (by omega)).add (show Nm (12 : Int32) 12 from rfl) (by omega)
            rw [if_neg (fun e => by have := i_le.mp e; rw [c3, zm] at this; omega), ck_p (n24.ix (by omega)), n24.nat, m4.2.1, if_pos c3]
            by_cases c18 : rAct ((xtR (aX A) t).getD i rNone) = 18
            · rw [c18, if_pos (show actR 18 = 5 from rfl), if_pos rfl, ck_p (n13.ix (by omega)), n13.nat, y2]; rfl
            · rw [if_neg c18, if_neg]
              rcases hRVi with e | e | e
              · rw [e]; decide
              · exact absurd e c18
              · rw [e]; decide
          · have g2' := g2.resolve_left c3
            have n3 : Nm x3 x3.toNatClampNeg := Nm.of_nn g2'.1
            have n3' : x3.toInt = (x3.toNatClampNeg : Int) := n3
            have n13 : Nm (13 * x2 + x3) (13 * i + x3.toNatClampNeg) := ((show Nm (13 : Int32) 13 from rfl).mul n2 (by omega)).add n3 (by omega)
            rw [if_pos (i_le.mpr (by omega)), ck_p (n13.ix (by omega)), n13.nat, y1 _ (by omega), if_neg c3]; rfl
        obtain ⟨ans, um⟩ := ra
        have hr1 : ans = _ := hr1
        have hr2 : ICl A w um := hr2
        have hr3 : FrC u um := hr3
        show ∃ a u1 u2 A', (if x3 = -1 then ck (ixo x2 24) (ck (gK u (lt_p w 129 t + 3 + i) 0 ≤ 34) (if gK u (lt_p w 129 t + 3 + i) 0 = 18 then B_X11_by_84 w f x1 x2 x3 u else some ((-1 : Int32), u))) else B_X11_by_84 w f x1 x2 x3 u) = _ ∧ _
        have full : (x3 = -1 → rAct ((xtR (aX A) t).getD i rNone) = 18) → ∃ a u1 u2 A', B_X11_by_84 w f x1 x2 x3 u = some (a, u1) ∧ F_X12_by f x1 x2 x3 u1 = some (a, u2) ∧ Inv A' (c + 1) w u2 := by
          intro h18
          obtain ⟨r9, q1, q2, q3⟩ := ref um (hR.fr hr3)
          refine ⟨ans, um, r9, A, er, ?_, hA.mono, hL, (hr2.fr hA hL (FrR.put (a := 167) (by decide))).fr hA hL q2, q1⟩
          rw [q3, hr1]
          by_cases c3 : x3 = -1
          · rw [if_pos c3, if_pos c3, if_pos (h18 c3)]
          · rw [if_neg c3, if_neg c3]
        by_cases c3 : x3 = -1
        · rw [if_pos c3, ck_p (n2.ix (by omega)), hact, ck_p (by rcases hRVi with e | e | e <;> omega)]
          by_cases c18 : rAct ((xtR (aX A) t).getD i rNone) = 18
          · rw [if_pos c18]; exact full (fun _ => c18)
          · rw [if_neg c18]
            refine nothing (fun v hv cx => ?_)
            obtain ⟨r9, q1, q2, q3⟩ := ref v hv
            exact ⟨r9, by rw [q3, if_pos c3, if_neg c18], q1, q2⟩
        · rw [if_neg c3]; exact full (fun e => absurd e c3)
      · rw [b2i_f (by rw [es, z0]; omega)]
        show ∃ a u1 u2 A', some ((-1 : Int32), u) = some (a, u1) ∧ F_X12_by f x1 x2 x3 u1 = some (a, u2) ∧ Inv A' (c + 1) w u2
        refine nothing (fun v hv cx => ?_)
        obtain ⟨r9, q1, ⟨q2, q3, q4, q5⟩, q6⟩ := hrf v hv cx
        obtain ⟨_, _, _, _, _, _, _, _, _, _, w11, _⟩ := q4
        rw [et] at w11
        obtain ⟨_, ⟨⟨c9, m1, m2, m3, m4⟩, m5⟩⟩ := q2.2.2.1 t htl
        have m2 : (gI r9 173 t).toInt = ((xtR (aX A) t).length : Int) := m2
        exact ⟨r9, by rw [q6, w11, if_neg (fun e => by have := i_lt.mp e; omega), ck_p (n44.ix (by omega)), n44.nat, if_neg (fun e => by have := i_lt.mp e; omega)], q2, q3⟩
  · refine ⟨-1, u, sI u 167 0 0, A, ?_, ?_, hI⟩
    · rw [F_X11_by, c_isQ]
      by_cases c1 : 0 ≤ x1.toInt ∧ x1.toInt ≤ 239
      · rw [b2i_t c1]
        show (if x3 = -1 then _ else (F_X2_has f x3 u).bind _) = _
        rw [if_neg (fun e => g ⟨c1, Or.inl e⟩), c_has hC.1.1 h12, b2i_f (fun e => g ⟨c1, Or.inr e⟩)]; rfl
      · rw [b2i_f c1]; rfl
    · have e31 : (gI u 167 31).toInt = (vlN (aV A) : Int) := hR.1.1
      have n31 : gI (sI u 167 0 0) 167 31 = gI u 167 31 := g_nk _ _ _ (by decide)
      rw [F_X12_by]
      by_cases d1 : x1 < 0
      · rw [if_pos d1]
      rw [if_neg d1]
      by_cases d2 : 239 < x1
      · rw [if_pos d2]
      rw [if_neg d2]
      by_cases d3 : x3 < -1
      · rw [if_pos d3]
      rw [if_neg d3, n31]
      by_cases d4 : gI u 167 31 ≤ x3
      · rw [if_pos d4]
      refine absurd ⟨⟨?_, ?_⟩, ?_⟩ g
      · have := mt i_lt.mpr d1; omega
      · have := mt i_lt.mpr d2; omega
      · have h3 := mt i_lt.mpr d3
        have h4 := mt i_le.mpr d4
        by_cases e : x3.toInt = -1
        · exact Or.inl (Int32.toInt_inj.mp e)
        · exact Or.inr ⟨by omega, by omega⟩
end
