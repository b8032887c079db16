/-! ===== text, all of it ===== -/
theorem ICl.lay {A : AS} {w w' : LT} {u : MT} (h : ICl A w u) (p129 : ∀ t, lt_p w' 129 t = lt_p w 129 t) (p139 : ∀ t, lt_p w' 139 t = lt_p w 139 t) (p100 : lt_p w' 100 9 = lt_p w 100 9) (kt : ∀ a, lt_t w' a = lt_t w a) : ICl A w' u := by
  obtain ⟨a1, a2, a3, a4, a5, a6, a7, a8, a9, a10, a11⟩ := h
  refine ⟨a1, ⟨a2.1, fun t ht => ?_⟩, ⟨a3.1, fun t ht => ?_⟩, a4, a5, a6, a7, a8, a9, a10, fun hy => by rw [p100]; exact a11 hy⟩
  · have := a2.2 t ht
    show lt_t w' (lt_p w' 129 t) = 7 ∧ 128 ≤ lt_p w' 129 t ∧ gI u (lt_p w' 129 t) 5 = _ ∧ gI u (lt_p w' 129 t) 6 = _ ∧ CT u (lt_p w' 129 t) _ _
    rw [p129, kt]; exact this
  · have := a3.2 t ht
    show lt_t w' (lt_p w' 139 t) = 7 ∧ 128 ≤ lt_p w' 139 t ∧ gI u (lt_p w' 139 t) 5 = _ ∧ gI u (lt_p w' 139 t) 6 = _ ∧ CT u (lt_p w' 139 t) _ _
    rw [p139, kt]; exact this
theorem LOk.rt {A : AS} {w : LT} (h : LOk A w) (d : Nat) : LOk A (sP w 112 7 d) := by
  obtain ⟨h1, h2, h3, h4, h5⟩ := h
  have e : ∀ a j, a ≠ 112 → lt_p (sP w 112 7 d) a j = lt_p w a j := fun a j ha => sP_p ha j
  have k : ∀ a, lt_t (sP w 112 7 d) a = lt_t w a := fun a => rfl
  refine ⟨h1, fun t ht => by rw [e _ _ (by decide), e _ _ (by decide), e _ _ (by decide)]; exact h2 t ht, by rw [e _ _ (by decide), k]; exact h3, fun hy => ?_, fun hy => by rw [e _ _ (by decide), e _ _ (by decide)]; exact h5 hy⟩
  have := h4 hy
  rw [e _ _ (show 139 ≠ 112 by decide), e 100 _ (by decide), e 100 _ (by decide), k, e (lt_p w 100 9) 2 (by omega)]; exact this
theorem IRf.addText {A : AS} {v r : MT} {x : Int32} {rs : List AR} {how : Nat} (h : IRf A r) (hI : ∀ a j, (a < 173 ∨ 184 < a) → a ≠ 185 → a ≠ 186 → (a ≠ 167 ∨ j ≠ 22) → gI v a j = gI r a j) (hL : ∀ j, gL v 172 j = gL r 172 j) (h22 : Nm (gI v 167 22) (xtT (aX A) + 1)) (h185 : ∀ j, gI v 185 j = upf (gI r 185) (xtT (aX A)) x j) (h186 : ∀ j, gI v 186 j = upf (gI r 186) (xtT (aX A)) (aN A) j) (hX : XR1 (xAdd (aX A) x (aN A) rs how) id v) (hY : XR1 (aY A) (fun _ => 6) v) : IRf (aTxt A x rs how) v := by
  obtain ⟨a1, a2, a3, a4, a5, a6, a7, a8, a9, a10, a11⟩ := h
  refine ⟨⟨by rw [hI _ _ (by omega) (by omega) (by omega) (by omega)]; exact a1.1, by rw [hI _ _ (by omega) (by omega) (by omega) (by omega)]; exact a1.2.1, fun j hj => by rw [hI _ _ (by omega) (by omega) (by omega) (by omega), hI _ _ (by omega) (by omega) (by omega) (by omega), hI _ _ (by omega) (by omega) (by omega) (by omega), hI _ _ (by omega) (by omega) (by omega) (by omega), hI _ _ (by omega) (by omega) (by omega) (by omega)]; exact a1.2.2.1 j hj, fun j hj => by rw [hI _ _ (by omega) (by omega) (by omega) (by omega), hI _ _ (by omega) (by omega) (by omega) (by omega)]; exact a1.2.2.2.1 j hj, by rw [hI _ _ (by omega) (by omega) (by omega) (by omega)]; exact a1.2.2.2.2.1, by rw [hI _ _ (by omega) (by omega) (by omega) (by omega)]; exact a1.2.2.2.2.2⟩, ⟨h22, fun t ht => ?_⟩, hX, hY, by rw [hI _ _ (by omega) (by omega) (by omega) (by omega)]; exact a5, by rw [hI _ _ (by omega) (by omega) (by omega) (by omega)]; exact a6, by rw [hI _ _ (by omega) (by omega) (by omega) (by omega)]; exact a7, ⟨a8.1, by rw [hI _ _ (by omega) (by omega) (by omega) (by omega)]; exact a8.2.1, fun k hk => by rw [hI _ _ (by omega) (by omega) (by omega) (by omega)]; exact a8.2.2 k hk⟩, fun k hk => by rw [hL]; exact a9 k hk, by rw [hI _ _ (by omega) (by omega) (by omega) (by omega)]; exact a10, fun j hj => by rw [hI _ _ (by omega) (by omega) (by omega) (by omega)]; exact a11 j hj⟩
  have ht : t < xtT (aX A) + 1 := ht
  show gI v 185 t = upf (xtQ (aX A)) (xtT (aX A)) x t ∧ gI v 186 t = upf (xtD (aX A)) (xtT (aX A)) (aN A) t
  rw [h185, h186]
  by_cases e : t = xtT (aX A)
  · rw [e, upf_same, upf_same, upf_same, upf_same]; exact ⟨rfl, rfl⟩
  · rw [upf_ne e, upf_ne e, upf_ne e, upf_ne e]; exact a2.2 t (by omega)
section
variable {f : Nat}
theorem c_canT {A : AS} {c : Nat} {w : LT} {u : MT} {x : Int32} (hA : AOk A c) (hC : ICl A w u) : F_X8_canTake w f 128 x u = some (b2i (xtT (aX A) < 6 ∧ (xtT (aX A) = 0 ∨ (xtQ (aX A) (xtT (aX A) - 1)).toInt < x.toInt)), u) := by
  have n1 : Nm (gI u 128 1) (xtT (aX A)) := hC.2.1.1
  have n6 : Nm (6 : Int32) 6 := rfl
  rw [F_X8_canTake]
  by_cases c1 : 6 ≤ gI u 128 1
  · rw [if_pos c1, b2i_f (fun e => by have := (n6.le n1).mp c1; omega)]
  rw [if_neg c1]
  have t6 : xtT (aX A) < 6 := by have := mt (n6.le n1).mpr c1; omega
  by_cases c2 : gI u 128 1 = 0
  · rw [if_pos c2, b2i_t ⟨t6, Or.inl ((n1.eq nm0).mp c2)⟩]; rfl
  rw [if_neg c2]
  have t0 : xtT (aX A) ≠ 0 := fun e => c2 ((n1.eq nm0).mpr e)
  have n2 : Nm (gI u 128 1 - 1) (xtT (aX A) - 1) := n1.sub (show Nm (1 : Int32) 1 from rfl) (by omega)
  obtain ⟨q1, _, q3, _⟩ := hC.2.1.2 (xtT (aX A) - 1) (by omega)
  rw [ck_p (n2.ix (by omega)), n2.nat, ck_p q1, q3]
  by_cases c3 : x ≤ xtQ (aX A) (xtT (aX A) - 1)
  · rw [if_pos c3, b2i_f (fun e => by have := i_le.mp c3; omega)]
  · rw [if_neg c3, b2i_t ⟨t6, Or.inr (by have := mt i_le.mpr c3; omega)⟩]; rfl
theorem P_text {A : AS} {c : Nat} {w : LT} {u : MT} {x : Int32} (hf : 3000 < f) (hLay : Lay w) (hFre : Fre w) (h : Inv A c w u) : ∃ a w1 u1 u2 A', F_X11_text w f x u = some (a, w1, u1) ∧ F_X12_text f x u1 = some (a, u2) ∧ Inv A' (c + 1) w1 u2 ∧ Lay w1 ∧ lt_p w1 100 9 = lt_p w 100 9 ∧ Old w w1 := by
  obtain ⟨hA, hL, hC, hR⟩ := h
  have z0 : (0 : Int32).toInt = 0 := rfl
  have z239 : (239 : Int32).toInt = 239 := rfl
  have m22 : Nm (gI u 167 22) (xtT (aX A)) := hR.2.1.1
  have tA := hA.2.1.1
  by_cases g : (0 ≤ x.toInt ∧ x.toInt ≤ 239) ∧ xtT (aX A) < 6 ∧ (xtT (aX A) = 0 ∨ (xtQ (aX A) (xtT (aX A) - 1)).toInt < x.toInt)
  · obtain ⟨g1, g2, g3⟩ := g
    have nx : Nm x x.toNatClampNeg := Nm.of_nn g1.1
    generalize x.toNatClampNeg = qn at nx
    have nx' : x.toInt = (qn : Int) := nx
    have ecl : F_X11_text w f x u = B_X11_text_28 w f x u := by
      rw [F_X11_text, c_isQ, b2i_t g1]
      show (F_X8_canTake w f 128 x u).bind _ = _
      rw [c_canT hA hC, b2i_t ⟨g2, g3⟩]; rfl
    have erf : ∀ v, IRf A v → F_X12_text f x v = B_X12_text_54 f x (sI v 167 0 0) := by
      intro v hv
      have m22 : Nm (gI v 167 22) (xtT (aX A)) := hv.2.1.1
      have q22 : gI (sI v 167 0 0) 167 22 = gI v 167 22 := g_nk _ _ _ (by decide)
      rw [F_X12_text]
      show (if x < 0 then _ else if 239 < x then _ else if gI (sI v 167 0 0) 167 22 = 6 then _ else if gI (sI v 167 0 0) 167 22 ≤ 0 then B_X12_text_54 f x (sI v 167 0 0) else ck (ixo (gI (sI v 167 0 0) 167 22 - 1) 6) (if gI (sI v 167 0 0) 185 (gI (sI v 167 0 0) 167 22 - 1).toNatClampNeg < x then B_X12_text_54 f x (sI v 167 0 0) else _)) = _
      rw [q22, if_neg (fun e => by have := i_lt.mp e; omega), if_neg (fun e => by have := i_lt.mp e; omega), if_neg (fun e => by have := (m22.eq (show Nm (6 : Int32) 6 from rfl)).mp e; omega)]
      by_cases t0 : xtT (aX A) = 0
      · rw [if_pos (by rw [(m22.eq nm0).mpr t0]; decide)]
      · have n2 : Nm (gI v 167 22 - 1) (xtT (aX A) - 1) := m22.sub (show Nm (1 : Int32) 1 from rfl) (by omega)
        rw [if_neg (fun e => by have := (m22.le nm0).mp e; omega), ck_p (n2.ix (by omega)), n2.nat, g_ne _ _ _ _ (by decide), (hv.2.1.2 _ (by omega)).1, if_pos (i_lt.mpr (g3.resolve_left t0))]
    obtain ⟨k, rs, how, fl, K1, K2, ⟨r, er, hr1, hr2, hr3, hr4⟩, K4⟩ := I_parse (f := f) (by omega) hA hL hC
    obtain ⟨d7, dp⟩ := hL.2.2.1
    have dp' : lt_p w 100 10 = 140 ∨ 216 ≤ lt_p w 100 10 := dp
    have C1 := hC.parse hLay hA hL hr3 hr4
    have hA1 : AOk (aTap A (aG A, 0)) (c + 1) := hA.mono
    have hL1 : LOk (aTap A (aG A, 0)) w := hL
    have rfI : ∀ a j, 167 ≤ a → a ≤ 215 → gI r.2 a j = gI u a j := fun a j e1 e2 => hr3.1 a j (by simp [nin] <;> omega)
    have rfL : ∀ j, gL r.2 172 j = gL u 172 j := fun j => hr3.2.1 _ _ (by simp [nin])
    by_cases hk : k = 0
    · obtain ⟨s1, s2, s3, s4⟩ := K1 hk
      obtain ⟨q1, q2⟩ := hr1 hk
      -- the class
      have eN : gI r.2 100 11 = aN A := C1.2.2.2.1
      have e128 : Nm (gI r.2 128 1) (xtT (aX A)) := C1.2.1.1
      generalize hd : lt_p w 100 10 = d at *
      have n128 : gI (sI (sI r.2 d 5 x) d 6 (aN A)) 128 1 = gI r.2 128 1 := by rw [g_ne _ _ _ _ (by omega), g_ne _ _ _ _ (by omega)]
      have eadd : F_X8_add f 128 d x (aN A) r.2 = some (sI (sI (sI r.2 d 5 x) d 6 (aN A)) 128 1 (gI r.2 128 1 + 1)) := by
        rw [F_X8_add]
        show ck (ixo (gI (sI (sI r.2 d 5 x) d 6 (aN A)) 128 1) 6) (some (sI (sI (sI r.2 d 5 x) d 6 (aN A)) 128 1 (gI (sI (sI r.2 d 5 x) d 6 (aN A)) 128 1 + 1))) = _
        rw [n128, ck_p (e128.ix g2)]
      generalize hu4 : sI (sI (sI r.2 d 5 x) d 6 (aN A)) 128 1 (gI r.2 128 1 + 1) = u4 at eadd
      have f4 : ∀ a j, a ≠ d → (a ≠ 128 ∨ j ≠ 1) → gI u4 a j = gI r.2 a j := fun a j e1 e2 => by
        rw [← hu4]
        by_cases e : a = 128
        · subst e; rw [g_nk _ _ _ (by omega), g_ne _ _ _ _ e1, g_ne _ _ _ _ e1]
        · rw [g_ne _ _ _ _ e, g_ne _ _ _ _ e1, g_ne _ _ _ _ e1]
      have f4d : ∀ j, gI u4 d j = if j = 6 then aN A else if j = 5 then x else gI r.2 d j := fun j => by
        rw [← hu4, g_ne _ _ _ _ (by omega), g_at, g_at]
      generalize hw2 : sP (sP w 112 7 d) (128 + 1) (xtT (aX A)) d = w2
      have w2n : w2.1 = w.1 := by rw [← hw2]; rfl
      have w2t : ∀ a, lt_t w2 a = lt_t w a := fun a => by rw [← hw2]; rfl
      have w2p : ∀ a j, a ≠ 112 → lt_p w2 a j = if a = 129 ∧ j = xtT (aX A) then d else lt_p w a j := fun a j ha => by
        rw [← hw2]
        by_cases e : a = 129
        · subst e
          by_cases e2 : j = xtT (aX A)
          · rw [e2, if_pos ⟨rfl, rfl⟩]; exact sP_e
          · rw [if_neg (fun e => e2 e.2)]
            have : lt_p (sP (sP w 112 7 d) 129 (xtT (aX A)) d) 129 j = lt_p (sP w 112 7 d) 129 j := sP_q e2
            exact this.trans (sP_p (by decide) j)
        · rw [if_neg (fun c => e c.1)]
          have : lt_p (sP (sP w 112 7 d) 129 (xtT (aX A)) d) a j = lt_p (sP w 112 7 d) a j := sP_p e j
          exact this.trans (sP_p ha j)
      have hF2 : Fre w2 := by rw [← hw2]; exact hFre
      have hLay2 : Lay w2 := by rw [← hw2]; exact Lay_it (Lay_rt hLay d) (Or.inl rfl)
      obtain ⟨t1, t2, t3, t4, t5, t6, t7, t8⟩ := newtext u4 hF2
      rw [w2n] at t1 t4 t6
      generalize hwt : WT' w2 u4 = wt at *
      have m5 : ∀ a j, a < w.1 → gI wt.2 a j = gI u4 a j := fun a j ha => by show wt.2.1 a j = u4.1 a j; rw [(t6 a ha).1]
      have mK : ∀ a j, a < w.1 → gK wt.2 a j = gK r.2 a j := fun a j ha => by
        show wt.2.2.2 a j = r.2.2.2 a j; rw [(t6 a ha).2.2, ← hu4]; rfl
      have mL : ∀ a j, a < w.1 → gL wt.2 a j = gL r.2 a j := fun a j ha => by
        show wt.2.2.1 a j = r.2.2.1 a j; rw [(t6 a ha).2.1, ← hu4]; rfl
      have w216 := hL.1
      have d130 := lay_tb hLay d7 (kt_130 hLay)
      have dlt := fre_tx hFre hLay d7
      have e130 : gI wt.2 130 5 = gI r.2 130 5 := by rw [m5 _ _ (by omega), f4 _ _ (by omega) (by omega)]
      generalize hu5 : sI wt.2 130 5 (if x < gI r.2 130 5 then x else gI r.2 130 5) = u5
      have f5 : ∀ a j, (a ≠ 130 ∨ j ≠ 5) → gI u5 a j = gI wt.2 a j := fun a j e => by
        rw [← hu5]
        by_cases e2 : a = 130
        · subst e2; exact g_nk _ _ _ (by omega)
        · exact g_ne _ _ _ _ e2
      have ec : F_X11_text w f x u = some (0, sP wt.1 100 10 w.1, u5) := by
        rw [ecl, B_X11_text_28]
        show ck (lt_t w (lt_p w 100 10) = 7) ((F_X3_parse f (gI u 101 2) (lt_p w 100 10) u).bind _) = _
        rw [hd, ck_p d7, er, Option.bind_some, q1, if_pos rfl, eN, eadd, Option.bind_some]
        show (F_X1_forgetFrom f 130 128 x (WT' (sP (sP w 112 7 d) (128 + 1) (gI (sI (sI r.2 d 5 x) d 6 (aN A)) 128 1).toNatClampNeg d) u4).2).bind (fun u5 => some ((0 : Int32), sP (WT' (sP (sP w 112 7 d) (128 + 1) (gI (sI (sI r.2 d 5 x) d 6 (aN A)) 128 1).toNatClampNeg d) u4).1 100 10 (sP (sP w 112 7 d) (128 + 1) (gI (sI (sI r.2 d 5 x) d 6 (aN A)) 128 1).toNatClampNeg d).1, u5)) = _
        rw [n128, e128.nat, hw2, hwt, w2n, F_X1_forgetFrom, e130, hu5]; rfl
      have lp : ∀ a j, a < w.1 → a ≠ 112 → (a ≠ 100 ∨ j ≠ 10) → lt_p (sP wt.1 100 10 w.1) a j = if a = 129 ∧ j = xtT (aX A) then d else lt_p w a j := fun a j e1 e2 e3 => by
        have : lt_p (sP wt.1 100 10 w.1) a j = lt_p wt.1 a j := by
          by_cases e : a = 100
          · subst e; exact sP_q (by omega)
          · exact sP_p e j
        rw [this, t3 a j (by rw [w2n]; exact e1), w2p a j e2]
      have lk : ∀ a, a < w.1 → lt_t (sP wt.1 100 10 w.1) a = lt_t w a := fun a e1 => by
        have : lt_t (sP wt.1 100 10 w.1) a = lt_t wt.1 a := rfl
        rw [this, (t2 a (by rw [w2n]; exact e1)).1, w2t]
      have C2 : ICl (aTxt (aTap A (aG A, 0)) x rs how) (sP wt.1 100 10 w.1) u5 := by
        refine C1.addText (how := how) (rs := rs) hLay hFre hA1 hL1 nx s1 (by rw [hd]; exact q2) (fun a j e1 e2 e3 e4 => by rw [hd] at e2; rw [f5 _ _ e4, m5 _ _ e1, f4 _ _ e2 e3]) (fun a j e1 => by rw [← hu5]; exact mK a j e1) ?_ (by rw [← hu5, g_same]) ?_ ?_ (fun j e1 e2 => ?_) (fun t => ?_) (fun t => ?_) ?_ lk
        · show Nm (gI u5 128 1) (xtT (aX A) + 1)
          rw [f5 _ _ (by omega), m5 _ _ (by omega), ← hu4, g_same]; exact e128.succ (by omega)
        · rw [hd, f5 _ _ (by omega), m5 _ _ (by omega), f4d]; rfl
        · rw [hd, f5 _ _ (by omega), m5 _ _ (by omega), f4d]; rfl
        · rw [hd, f5 _ _ (by omega), m5 _ _ (by omega), f4d, if_neg e2, if_neg e1]
        · rw [lp _ _ (by omega) (by decide) (Or.inl (by decide)), hd]
          show (if 129 = 129 ∧ t = xtT (aX A) then d else lt_p w 129 t) = if t = xtT (aX A) then d else lt_p w 129 t
          by_cases e : t = xtT (aX A)
          · rw [if_pos ⟨rfl, e⟩, if_pos e]
          · rw [if_neg (fun c => e c.2), if_neg e]
        · rw [lp _ _ (by omega) (by decide) (Or.inl (by decide)), if_neg (fun c => absurd c.1 (by decide))]
        · rw [lp _ _ (by omega) (by decide) (Or.inr (by decide)), if_neg (fun c => absurd c.1 (by decide))]
      have hA2 : AOk (aTxt (aTap A (aG A, 0)) x rs how) (c + 1) := by
        obtain ⟨b1, b2, b3, b4⟩ := hA1
        refine ⟨b1, ⟨g2, fun t ht => ?_⟩, b3, b4⟩
        have ht : t < xtT (aX A) + 1 := ht
        show (∃ q, Nm (upf (xtQ (aX A)) (xtT (aX A)) x t) q ∧ q < 240) ∧ 32 ≤ upg (xtH (aX A)) (xtT (aX A)) how t ∧ upg (xtH (aX A)) (xtT (aX A)) how t ≤ 34 ∧ (upg (xtR (aX A)) (xtT (aX A)) rs t).length ≤ 24 ∧ ∀ r ∈ upg (xtR (aX A)) (xtT (aX A)) rs t, RV (vlN (aV A) : Int) r
        by_cases e : t = xtT (aX A)
        · rw [e, upf_same, upg_same, upg_same]; exact ⟨⟨qn, nx, by omega⟩, s3, s4, s1, s2⟩
        · rw [upf_ne e, upg_ne e, upg_ne e]; exact b2.2 t (show t < xtT (aX A) by omega)
      have p100' : lt_p (sP wt.1 100 10 w.1) 100 10 = w.1 := sP_e
      have hL2 : LOk (aTxt (aTap A (aG A, 0)) x rs how) (sP wt.1 100 10 w.1) := by
        obtain ⟨l1, l2, l3, l4, l5⟩ := hL
        have p139 : lt_p (sP wt.1 100 10 w.1) 139 0 = lt_p w 139 0 := by rw [lp _ _ (by omega) (by decide) (Or.inl (by decide)), if_neg (fun c => absurd c.1 (by decide))]
        have p9 : lt_p (sP wt.1 100 10 w.1) 100 9 = lt_p w 100 9 := by rw [lp _ _ (by omega) (by decide) (Or.inr (by decide)), if_neg (fun c => absurd c.1 (by decide))]
        refine ⟨?_, fun t ht => ?_, ⟨?_, ?_⟩, fun hy => ?_, fun hy => ?_⟩
        · show 216 < wt.1.1; rw [t1]; omega
        · have ht : t < xtT (aX A) + 1 := ht
          rw [lp _ _ (by omega) (by decide) (Or.inl (by decide)), p100', p139]
          by_cases e : t = xtT (aX A)
          · rw [if_pos ⟨rfl, e⟩]
            exact ⟨dp, by omega, fun hy => by have := (l4 hy).2.1; rw [hd] at this; exact fun e => this e.symm⟩
          · rw [if_neg (fun c => e c.2)]
            have q := l2 t (show t < xtT (aX A) by omega)
            have q3 : lt_p w 129 t + 26 < w.1 := fre_tx hFre hLay (hC.2.1.2 t (by omega)).1
            exact ⟨q.1, by omega, q.2.2⟩
        · rw [p100']; exact t4.1
        · rw [p100']; exact Or.inr (by omega)
        · have hy : xtT (aY A) = 1 := hy
          obtain ⟨o1, o2, o3, o4, o5⟩ := l4 hy
          have q3 : lt_p w 139 0 + 26 < w.1 := fre_tx hFre hLay (hC.2.2.1.2 0 (by omega)).1
          have q4 := fre_bk hFre hLay o3
          rw [p139, p100', p9]
          refine ⟨o1, by omega, by rw [lk _ (by omega)]; exact o3, ?_, o5⟩
          rw [lp _ _ (by omega) (by omega) (Or.inl (by omega)), if_neg (fun c => by omega)]; exact o4
        · rw [p139, p9]; exact l5 hy
      have R1 : IRf A u5 := hR.fr ⟨fun a j e1 e2 => by rw [f5 _ _ (by omega), m5 _ _ (by omega), f4 _ _ (by omega) (by omega)]; exact rfI a j e1 e2, fun j => by
        have : gL u5 172 j = gL wt.2 172 j := by rw [← hu5]; rfl
        rw [this, mL _ _ (by omega)]; exact rfL j⟩
      have R1' : IRf A (sI u5 167 0 0) := R1.thr
      obtain ⟨r9, e9, y1, y2, y3, y4, y5⟩ := K4 _ R1'
      obtain ⟨y6, y7⟩ := y1 hk
      have R9 : IRf (aTap A (aG A, 0)) r9 := R1'.reads hA y5 y4 y3
      have n22 : Nm (gI r9 167 22) (xtT (aX A)) := R9.2.1.1
      obtain ⟨⟨cc, z1, z2, z3, z4⟩, z5⟩ := y7
      obtain ⟨r12, e12, hKep⟩ := r_keep (f := f) (u := r9) (t := xtT (aX A)) (c := cc) (by omega) n22 (by omega) z3 z1
      have y7 : RT r9 9100 168 7 rs how := ⟨⟨cc, z1, z2, z3, z4⟩, z5⟩
      have k4 := hKep.2.2.2
      have n22' : gI r12 167 22 = gI r9 167 22 := k4 _ _ (by decide)
      generalize hv : sI (sI (sI r12 185 (xtT (aX A)) x) 186 (xtT (aX A)) (aN A)) 167 22 (gI r9 167 22 + 1) = v
      have er2 : F_X12_text f x u5 = some (0, v) := by
        have m40 : gI r12 167 40 = aN A := by rw [k4 _ _ (by decide)]; exact R9.2.2.2.2.2.1
        rw [erf u5 R1, B_X12_text_54, e9, Option.bind_some, y6, if_pos (by decide), e12, Option.bind_some, n22', ck_p (n22.ix g2), n22.nat]
        show ck (ixo (gI (sI r12 185 (xtT (aX A)) x) 167 22) 6) (some ((0 : Int32), sI (sI (sI r12 185 (xtT (aX A)) x) 186 (gI (sI r12 185 (xtT (aX A)) x) 167 22).toNatClampNeg (gI (sI r12 185 (xtT (aX A)) x) 167 40)) 167 22 (gI (sI (sI r12 185 (xtT (aX A)) x) 186 (gI (sI r12 185 (xtT (aX A)) x) 167 22).toNatClampNeg (gI (sI r12 185 (xtT (aX A)) x) 167 40)) 167 22 + 1))) = _
        rw [g_ne _ _ _ _ (show 167 ≠ 186 by decide), g_ne _ _ _ _ (show 167 ≠ 185 by decide), g_ne _ _ _ _ (show 167 ≠ 185 by decide), n22', m40, ck_p (n22.ix g2), n22.nat, hv]
      have fv : ∀ a j, a ≠ 185 → a ≠ 186 → (a ≠ 167 ∨ j ≠ 22) → gI v a j = gI r12 a j := fun a j e1 e2 e3 => by
        rw [← hv]
        by_cases e : a = 167
        · subst e; rw [g_nk _ _ _ (by omega), g_ne _ _ _ _ e2, g_ne _ _ _ _ e1]
        · rw [g_ne _ _ _ _ e, g_ne _ _ _ _ e2, g_ne _ _ _ _ e1]
      have hI12 : ∀ a j, (a < 167 ∨ 215 < a) → gI v a j = gI u5 a j := fun a j e => by
        rw [fv _ _ (by omega) (by omega) (by omega), k4 _ _ (by omega), y5.1 _ _ (by simp [nin, wI_X12_readText] <;> omega), g_ne _ _ _ _ (by omega)]
      have hK12 : ∀ a j, gK v a j = gK u5 a j := fun a j => by
        have e1 : gK v a j = gK r12 a j := by rw [← hv]; rfl
        have e2 := (fr_F_X12_keep e12).2.2 a j (by simp [nin])
        have e3 := y5.2.2 a j (by simp [nin])
        rw [e1, e2, e3]; rfl
      have hL12 : ∀ j, gL v 172 j = gL r9 172 j := fun j => by
        have e1 : gL v 172 j = gL r12 172 j := by rw [← hv]; rfl
        rw [e1]; exact (fr_F_X12_keep e12).2.1 _ _ (by simp [nin])
      have hL9 : ∀ j, gL r9 172 j = gL u5 172 j := fun j => y5.2.1 _ _ (by simp [nin, wL_X12_readText])
      refine ⟨0, sP wt.1 100 10 w.1, u5, v, aTxt (aTap A (aG A, 0)) x rs how, ec, er2, ⟨hA2, hL2, C2.fr hA2 hL2 ⟨hI12, hK12, fun j => by rw [hL12, hL9]⟩, ?_⟩, Lay_dr (by rw [← hwt]; exact Lay_newtext u4 hF2 hLay2), by rw [lp _ _ (by omega) (by decide) (Or.inr (by decide)), if_neg (fun c => absurd c.1 (by decide))], fun a ha => ⟨lk a ha, (t2 a (by rw [w2n]; exact ha)).2.trans (by rw [← hw2]; rfl)⟩⟩
      refine R9.addText (fun a j e1 e2 e3 e4 => by rw [fv _ _ e2 e3 e4]; exact k4 _ _ e1) hL12 ?_ (fun j => ?_) (fun j => ?_) (fun t ht => ?_) (fun t ht => ?_)
      · rw [← hv, g_same]; exact n22.succ (by omega)
      · rw [← hv, g_ne _ _ _ _ (by decide), g_ne _ _ _ _ (by decide), g_at]
        show (if j = xtT (aX A) then x else gI r12 185 j) = if j = xtT (aX A) then x else gI r9 185 j
        rw [k4 _ _ (by omega)]
      · rw [← hv, g_ne _ _ _ _ (by decide), g_at]
        show (if j = xtT (aX A) then aN A else gI (sI r12 185 (xtT (aX A)) x) 186 j) = if j = xtT (aX A) then aN A else gI r9 186 j
        rw [g_ne _ _ _ _ (by decide), k4 _ _ (by omega)]
      · have ht : t < xtT (aX A) + 1 := ht
        show t ≤ 7 ∧ RT v (1300 * t) (24 * t) t (upg (xtR (aX A)) (xtT (aX A)) rs t) (upg (xtH (aX A)) (xtT (aX A)) how t)
        refine ⟨by omega, RT.fr (u := r12) ?_ (fun a j e1 e2 => fv _ _ (by omega) (by omega) (by omega))⟩
        by_cases e : t = xtT (aX A)
        · rw [e, upg_same, upg_same]; exact hKep.new z3 s1 y7
        · rw [upg_ne e, upg_ne e]
          exact hKep.old z1 (hA.2.1.2 t (by omega)).2.2.2.1 e (R9.2.2.1 t (show t < xtT (aX A) by omega)).2
      · refine ⟨(show 6 ≤ 7 by decide), RT.fr (u := r12) ?_ (fun a j e1 e2 => fv _ _ (by omega) (by omega) (by omega))⟩
        exact hKep.old z1 (hA.2.2.1.2 t ht).2.2.2.1 (by show 6 ≠ xtT (aX A); omega) (R9.2.2.2.1 t ht).2
    · -- a FAULT
      have q1 := hr2 hk
      have fp := K2 hk
      have R1 : IRf A r.2 := hR.fr ⟨rfI, rfL⟩
      have R1' : IRf A (sI r.2 167 0 0) := R1.thr
      obtain ⟨r9, e9, y1, y2, y3, y4, y5⟩ := K4 _ R1'
      have R9 : IRf (aTap A (aG A, 0)) r9 := R1'.reads hA y5 y4 y3
      refine ⟨fl, sP w 112 7 (lt_p w 100 10), r.2, r9, aTap A (aG A, 0), ?_, ?_, ⟨hA1, LOk.rt hL1 _, ?_, R9⟩, Lay_rt hLay _, sP_p (by decide) 9, fun a ha => ⟨rfl, rfl⟩⟩
      · rw [ecl, B_X11_text_28]
        show ck (lt_t w (lt_p w 100 10) = 7) ((F_X3_parse f (gI u 101 2) (lt_p w 100 10) u).bind _) = _
        rw [ck_p d7, er, Option.bind_some, q1, if_neg (fun e => by rw [e, z0] at fp; omega)]
      · rw [erf _ R1, B_X12_text_54, e9, Option.bind_some, y2 hk, if_neg (fun e => by have := i_le.mp e; omega)]
      · have C2 : ICl (aTap A (aG A, 0)) (sP w 112 7 (lt_p w 100 10)) r.2 := C1.lay (fun t => sP_p (by decide) t) (fun t => sP_p (by decide) t) (sP_p (by decide) 9) (fun a => rfl)
        exact C2.fr hA1 (LOk.rt hL1 _) ⟨fun a j e => by rw [y5.1 _ _ (by simp [nin, wI_X12_readText] <;> omega), g_ne _ _ _ _ (by omega)], fun a j => y5.2.2 a j (by simp [nin]), fun j => y5.2.1 _ _ (by simp [nin, wL_X12_readText])⟩
  · have hA1 : AOk (aTap A (aG A, 0)) (c + 1) := hA.mono
    have hL1 : LOk (aTap A (aG A, 0)) w := hL
    have C1 : ICl (aTap A (aG A, 0)) w (sI u 110 1 0) := hC.setT hA hL (fun a j e1 e2 => g_ne _ _ _ _ e1) (fun _ _ => rfl) ⟨Nat.zero_le _, by rw [g_same]; exact nm0, fun k hk => absurd hk (by show ¬ k < 0; omega)⟩
    have R1 : IRf A (sI u 110 1 0) := hR.fr (FrC.put (a := 110) (by decide))
    refine ⟨-1, w, sI u 110 1 0, sI (sI (sI u 110 1 0) 167 0 0) 167 2 0, aTap A (aG A, 0), ?_, ?_, ⟨hA1, hL1, C1.fr hA1 hL1 (FrR.tr (FrR.put (a := 167) (by decide)) (FrR.put (a := 167) (by decide))), R1.setT (fun a j e1 e2 => ?_) (fun _ => rfl) ⟨Nat.zero_le _, by rw [g_same]; exact nm0, fun k hk => absurd hk (by show ¬ k < 0; omega)⟩⟩, hLay, rfl, fun a ha => ⟨rfl, rfl⟩⟩
    · rw [F_X11_text, c_isQ]
      by_cases c1 : 0 ≤ x.toInt ∧ x.toInt ≤ 239
      · rw [b2i_t c1]
        show (F_X8_canTake w f 128 x u).bind _ = _
        rw [c_canT hA hC, b2i_f (fun e => g ⟨c1, e⟩)]; rfl
      · rw [b2i_f c1]; rfl
    · have q22 : gI (sI (sI u 110 1 0) 167 0 0) 167 22 = gI u 167 22 := by rw [g_nk _ _ _ (by decide), g_ne _ _ _ _ (by decide)]
      rw [F_X12_text]
      show (if x < 0 then B_X12_text_47 f (sI (sI u 110 1 0) 167 0 0) else if 239 < x then B_X12_text_47 f (sI (sI u 110 1 0) 167 0 0) else if gI (sI (sI u 110 1 0) 167 0 0) 167 22 = 6 then B_X12_text_47 f (sI (sI u 110 1 0) 167 0 0) else if gI (sI (sI u 110 1 0) 167 0 0) 167 22 ≤ 0 then _ else ck (ixo (gI (sI (sI u 110 1 0) 167 0 0) 167 22 - 1) 6) (if gI (sI (sI u 110 1 0) 167 0 0) 185 (gI (sI (sI u 110 1 0) 167 0 0) 167 22 - 1).toNatClampNeg < x then _ else B_X12_text_47 f (sI (sI u 110 1 0) 167 0 0))) = _
      rw [q22]
      by_cases c1 : x < 0
      · rw [if_pos c1]; rfl
      rw [if_neg c1]
      by_cases c2 : 239 < x
      · rw [if_pos c2]; rfl
      rw [if_neg c2]
      by_cases c3 : gI u 167 22 = 6
      · rw [if_pos c3]; rfl
      rw [if_neg c3]
      have g1 : 0 ≤ x.toInt ∧ x.toInt ≤ 239 := ⟨by have := mt i_lt.mpr c1; omega, by have := mt i_lt.mpr c2; omega⟩
      have g2 : xtT (aX A) < 6 := by have := mt (m22.eq (show Nm (6 : Int32) 6 from rfl)).mpr c3; omega
      have t0 : xtT (aX A) ≠ 0 := fun e => g ⟨g1, g2, Or.inl e⟩
      have n2 : Nm (gI u 167 22 - 1) (xtT (aX A) - 1) := m22.sub (show Nm (1 : Int32) 1 from rfl) (by omega)
      rw [if_neg (fun e => by have := (m22.le nm0).mp e; omega), ck_p (n2.ix (by omega)), n2.nat, g_ne _ _ _ _ (by decide), g_ne _ _ _ _ (by decide), (hR.2.1.2 _ (by omega)).1, if_neg (fun e => g ⟨g1, g2, Or.inr (i_lt.mp e)⟩)]; rfl
    · by_cases e : a = 167
      · subst e; rw [g_nk _ _ _ (by omega), g_nk _ _ _ (by omega)]
      · rw [g_ne _ _ _ _ e, g_ne _ _ _ _ e]
end
