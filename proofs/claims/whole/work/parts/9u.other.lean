/-! ===== other: both alike ===== -/
def xOne (rs : List AR) (how : Nat) : XD := (1, fun _ => 0, fun _ => 0, fun _ => rs, fun _ => how)
def aOth (A : AS) (rs : List AR) (how : Nat) : AS := (A.1, A.2.1, xOne rs how, A.2.2.2)
theorem newbook_zero {w : LT} {u : MT} {a j : Nat} (h1 : w.1 ≤ a) (h2 : a ≤ w.1 + 5) : gI (WB' w u).2 a j = 0 := by
  show (if a = w.1 + 5 then (fun _ => (0 : Int32)) else if a = w.1 + 4 then (fun _ => 0) else if a = w.1 + 3 then (fun _ => 0) else if a = w.1 + 2 then (fun _ => 0) else if a = w.1 + 1 then (fun _ => 0) else if a = w.1 then (fun _ => 0) else u.1 a) j = 0
  have : a = w.1 + 5 ∨ a = w.1 + 4 ∨ a = w.1 + 3 ∨ a = w.1 + 2 ∨ a = w.1 + 1 ∨ a = w.1 := by omega
  rcases this with e | e | e | e | e | e
  · rw [if_pos e]
  · rw [if_neg (by omega), if_pos e]
  · rw [if_neg (by omega), if_neg (by omega), if_pos e]
  · rw [if_neg (by omega), if_neg (by omega), if_neg (by omega), if_pos e]
  · rw [if_neg (by omega), if_neg (by omega), if_neg (by omega), if_neg (by omega), if_pos e]
  · rw [if_neg (by omega), if_neg (by omega), if_neg (by omega), if_neg (by omega), if_neg (by omega), if_pos e]
theorem ICl.setOther {A : AS} {c how : Nat} {w w' : LT} {m v : MT} {rs : List AR} (h : ICl A w m) (hLay : Lay w) (hFre : Fre w) (hA : AOk A c) (hL : LOk A w) (hl : rs.length ≤ 24) (hCT : CT m (lt_p w 100 10) rs how)
    (hI : ∀ a j, 0 < a → a < w.1 → a ≠ lt_p w 100 10 → (a ≠ 138 ∨ j ≠ 1) → (a ≠ lt_p w 100 9 ∨ j ≠ 5) → gI v a j = gI m a j) (hK : ∀ a j, 0 < a → a < w.1 → gK v a j = gK m a j) (h138 : Nm (gI v 138 1) 1)
    (hd5 : gI v (lt_p w 100 10) 5 = 0) (hd6 : gI v (lt_p w 100 10) 6 = 0) (hdj : ∀ j, j ≠ 5 → j ≠ 6 → gI v (lt_p w 100 10) j = gI m (lt_p w 100 10) j)
    (p129 : ∀ t, lt_p w' 129 t = lt_p w 129 t) (p139 : lt_p w' 139 0 = lt_p w 100 10) (kt : ∀ a, a < w.1 → lt_t w' a = lt_t w a) (hB : Bkk (aV A) (xOne rs how) (lt_p w' 100 9) v) : ICl (aOth A rs how) w' v := by
  have ob := hL.ob hA
  obtain ⟨a1, a2, a3, a4, a5, a6, a7, a8, a9, a10, a11⟩ := h
  obtain ⟨w216, l2, ⟨d7, dp⟩, l4, l5⟩ := hL
  have dlt := fre_tx hFre hLay d7
  generalize hd : lt_p w 100 10 = d at *
  have dp' : d = 140 ∨ 216 ≤ d := dp
  have d130 := lay_tb hLay d7 (kt_130 hLay)
  have obd : ∀ {t : Nat}, lt_t w t = 7 → 0 < t → ∀ a, t ≤ a → a ≤ t + 26 → a ≠ lt_p w 100 9 := fun {t} h7 h0 a e1 e2 => by
    rcases ob with e | ⟨_, e, e'⟩
    · omega
    · have := lay_tb hLay h7 e'; omega
  have tx : ∀ {t : Nat}, lt_t w t = 7 → pOk t → t ≠ d → ∀ a j, t ≤ a → a ≤ t + 26 → gI v a j = gI m a j ∧ gK v a j = gK m a j := fun {t} h7 hp hn a j e1 e2 => by
    have q1 := lay_tt hLay h7 d7 hn
    have q3 := fre_tx hFre hLay h7
    have h0 : 0 < t := by rcases hp with e | e <;> omega
    exact ⟨hI _ _ (by omega) (by omega) (by omega) (by rcases hp with e | e <;> omega) (Or.inl (obd h7 h0 a e1 e2)), hK _ _ (by omega) (by omega)⟩
  have hI' : ∀ a j, 0 < a → a < 140 → a ≠ 138 → gI v a j = gI m a j := fun a j e0 e1 e2 => hI a j e0 (by omega) (by omega) (Or.inl e2) (by rcases ob with e | ⟨_, e, _⟩ <;> omega)
  refine ⟨a1.fr5 (fun a j e1 e2 => hI' _ _ (by omega) (by omega) (by omega)) (hI' _ _ (by decide) (by decide) (by decide)) (hI' _ _ (by decide) (by decide) (by decide)), ⟨by rw [hI' _ _ (by decide) (by decide) (by decide)]; exact a2.1, fun t ht => ?_⟩, ⟨h138, fun t ht => ?_⟩, by rw [hI' _ _ (by decide) (by decide) (by decide)]; exact a4, by rw [hI' _ _ (by decide) (by decide) (by decide)]; exact a5, ⟨a6.1, by rw [hI' _ _ (by decide) (by decide) (by decide)]; exact a6.2.1, fun k hk => by rw [hI' _ _ (by decide) (by decide) (by decide)]; exact a6.2.2 k hk⟩, by rw [hI' _ _ (by decide) (by decide) (by decide)]; exact a7, fun q hq => ⟨fun h hh => by rw [hI' _ _ (by decide) (by decide) (by decide)]; exact (a8 q hq).1 h hh, by rw [hI' _ _ (by decide) (by decide) (by decide)]; exact (a8 q hq).2.1, by rw [hI' _ _ (by decide) (by decide) (by decide)]; exact (a8 q hq).2.2⟩, fun j h1 h2 => by rw [hI' _ _ (by decide) (by decide) (by decide)]; exact a9 j h1 h2, a10.fr (fun a j e1 e2 => hI' _ _ (by omega) (by omega) (by omega)), fun _ => hB⟩
  · have ht : t < xtT (aX A) := ht
    obtain ⟨c1, c2, c3, c4, c5⟩ := a2.2 t ht
    have q := tx c1 (l2 t ht).1 (l2 t ht).2.1
    have q3 : lt_p w 129 t + 26 < w.1 := fre_tx hFre hLay c1
    show lt_t w' (lt_p w' 129 t) = 7 ∧ 128 ≤ lt_p w' 129 t ∧ gI v (lt_p w' 129 t) 5 = xtQ (aX A) t ∧ gI v (lt_p w' 129 t) 6 = xtD (aX A) t ∧ CT v (lt_p w' 129 t) (xtR (aX A) t) (xtH (aX A) t)
    rw [p129]
    exact ⟨by rw [kt _ (by omega)]; exact c1, c2, by rw [(q _ _ (Nat.le_refl _) (by omega)).1]; exact c3, by rw [(q _ _ (Nat.le_refl _) (by omega)).1]; exact c4, c5.fr2 (hA.2.1.2 t ht).2.2.2.1 (fun a k e1 e2 => (q a k e1 e2).1) (fun a k e1 e2 => (q a k e1 e2).2)⟩
  · have ht : t < 1 := ht
    have e0 : t = 0 := by omega
    subst e0
    show lt_t w' (lt_p w' 139 0) = 7 ∧ 128 ≤ lt_p w' 139 0 ∧ gI v (lt_p w' 139 0) 5 = 0 ∧ gI v (lt_p w' 139 0) 6 = 0 ∧ CT v (lt_p w' 139 0) rs how
    rw [p139]
    have h0 : 0 < d := by omega
    exact ⟨by rw [kt _ (by omega)]; exact d7, by omega, hd5, hd6, hCT.fr6 hl (hdj 1 (by decide) (by decide)) (hdj 4 (by decide) (by decide)) (fun a k e1 e2 => hI _ _ (by omega) (by omega) (by omega) (by omega) (Or.inl (obd d7 h0 a (by omega) e2))) (fun a k e1 e2 => hK _ _ (by omega) (by omega))⟩
theorem IRf.setOther {A : AS} {v r : MT} {rs : List AR} {how : Nat} (h : IRf A r) (hI : ∀ a j, (a < 173 ∨ 184 < a) → (a ≠ 167 ∨ j ≠ 25) → gI v a j = gI r a j) (hL : ∀ j, gL v 172 j = gL r 172 j) (h25 : Nm (gI v 167 25) 1) (hX : XR1 (aX A) id v) (hY : XR1 (xOne rs how) (fun _ => 6) v) : IRf (aOth A rs how) v := by
  obtain ⟨a1, a2, a3, a4, a5, a6, a7, a8, a9, a10, a11⟩ := h
  exact ⟨⟨by rw [hI _ _ (by omega) (by omega)]; exact a1.1, by rw [hI _ _ (by omega) (by omega)]; exact a1.2.1, fun j hj => by rw [hI _ _ (by omega) (by omega), hI _ _ (by omega) (by omega), hI _ _ (by omega) (by omega), hI _ _ (by omega) (by omega), hI _ _ (by omega) (by omega)]; exact a1.2.2.1 j hj, fun j hj => by rw [hI _ _ (by omega) (by omega), hI _ _ (by omega) (by omega)]; exact a1.2.2.2.1 j hj, by rw [hI _ _ (by omega) (by omega)]; exact a1.2.2.2.2.1, by rw [hI _ _ (by omega) (by omega)]; exact a1.2.2.2.2.2⟩, ⟨by rw [hI _ _ (by omega) (by omega)]; exact a2.1, fun t ht => by rw [hI _ _ (by omega) (by omega), hI _ _ (by omega) (by omega)]; exact a2.2 t ht⟩, hX, hY, h25, by rw [hI _ _ (by omega) (by omega)]; exact a6, by rw [hI _ _ (by omega) (by omega)]; exact a7, ⟨a8.1, by rw [hI _ _ (by omega) (by omega)]; exact a8.2.1, fun k hk => by rw [hI _ _ (by omega) (by omega)]; exact a8.2.2 k hk⟩, fun k hk => by rw [hL]; exact a9 k hk, by rw [hI _ _ (by omega) (by omega)]; exact a10, fun j hj => by rw [hI _ _ (by omega) (by omega)]; exact a11 j hj⟩
section
variable {f : Nat}
/-- the reference behind the class, where the text is good -/
theorem r_other {A : AS} {c k how : Nat} {u : MT} {fl : Int32} {rs : List AR} (hf : 1400 < f) (hA : AOk A c) (hR : IRf A u) (hk : k = 0) (hl : rs.length ≤ 24) (K4 : ∀ u', IRf A u' → Ok (F_X12_readText f u') (fun r => (k = 0 → gI r 167 8 = 0 ∧ RT r 9100 168 7 rs how) ∧ (k ≠ 0 → gI r 167 8 = fl) ∧ gI r 167 2 = 0 ∧ Kq u' r ∧ Fr wI_X12_readText wL_X12_readText [] u' r)) :
    ∃ v, F_X12_other f u = some (0, v) ∧ IRf (aOth (aTap A (aG A, 0)) rs how) v ∧ FrR u v := by
  have R1' : IRf A (sI u 167 0 0) := hR.thr
  have tA := hA.2.1.1
  obtain ⟨r9, e9, y1, y2, y3, y4, y5⟩ := K4 _ R1'
  obtain ⟨y6, y7⟩ := y1 hk
  have R9 : IRf (aTap A (aG A, 0)) r9 := R1'.reads hA y5 y4 y3
  have y7' := y7
  obtain ⟨⟨cc, z1, z2, z3, z4⟩, z5⟩ := y7'
  obtain ⟨r12, e12, hKep⟩ := r_keep (f := f) (u := r9) (t := 6) (c := cc) (x := 6) (by omega) rfl (by decide) z3 z1
  have k4 := hKep.2.2.2
  have fv : ∀ a j, (a ≠ 167 ∨ j ≠ 25) → gI (sI r12 167 25 1) a j = gI r12 a j := fun a j e3 => by
    by_cases e : a = 167
    · subst e; exact g_nk _ _ _ (by omega)
    · exact g_ne _ _ _ _ e
  refine ⟨sI r12 167 25 1, ?_, R9.setOther (fun a j e1 e2 => by rw [fv _ _ e2]; exact k4 _ _ e1) (fun j => (fr_F_X12_keep e12).2.1 _ _ (by simp [nin])) (by rw [g_same]; rfl) (fun t ht => ?_) (fun t ht => ?_), ⟨fun a j e => ?_, fun a j => ?_, fun j => ?_⟩⟩
  · rw [F_X12_other]
    show (F_X12_readText f (sI u 167 0 0)).bind _ = _
    rw [e9, Option.bind_some, y6, if_pos rfl, e12, Option.bind_some]
    show some (gI (sI r12 167 25 1) 167 8, sI r12 167 25 1) = _
    rw [fv _ _ (by omega), k4 _ _ (by omega), y6]
  · have ht' : t < xtT (aX A) := ht
    refine ⟨(R9.2.2.1 t ht).1, RT.fr (u := r12) ?_ (fun a j e1 e2 => fv _ _ (by omega))⟩
    exact hKep.old z1 (hA.2.1.2 t ht').2.2.2.1 (by show t ≠ 6; omega) (R9.2.2.1 t ht).2
  · refine ⟨(show 6 ≤ 7 by decide), RT.fr (u := r12) ?_ (fun a j e1 e2 => fv _ _ (by omega))⟩
    exact hKep.new z3 hl y7
  · rw [fv _ _ (by omega), k4 _ _ (by omega), y5.1 _ _ (by simp [nin, wI_X12_readText] <;> omega), g_ne _ _ _ _ (by omega)]
  · have e1 : gK (sI r12 167 25 1) a j = gK r12 a j := rfl
    have e2 := (fr_F_X12_keep e12).2.2 a j (by simp [nin])
    have e3 := y5.2.2 a j (by simp [nin])
    rw [e1, e2, e3]; rfl
  · have e1 : gL (sI r12 167 25 1) 172 j = gL r12 172 j := rfl
    have e2 := (fr_F_X12_keep e12).2.1 172 j (by simp [nin])
    have e3 := y5.2.1 172 j (by simp [nin, wL_X12_readText])
    rw [e1, e2, e3]; rfl
theorem P_other {A : AS} {c : Nat} {w : LT} {u : MT} (hf : 3000 < f) (hLay : Lay w) (hFre : Fre w) (h : Inv A c w u) : ∃ a w1 u1 u2 A', F_X11_other w f u = some (a, w1, u1) ∧ F_X12_other f u1 = some (a, u2) ∧ Inv A' (c + 1) w1 u2 ∧ Lay w1 ∧ Old w w1 ∧ ((a = 0 ∧ lt_p w1 100 9 ≠ 0) ∨ (a ≠ 0 ∧ lt_p w1 100 9 = lt_p w 100 9)) := by
  obtain ⟨hA, hL, hC, hR⟩ := h
  have z0 : (0 : Int32).toInt = 0 := rfl
  have tA := hA.2.1.1
  have hY1 := hA.2.2.2.1
  obtain ⟨k, rs, how, fl, K1, K2, ⟨r, er, hr1, hr2, hr3, hr4⟩, K4⟩ := I_parse (f := f) (by omega) hA hL hC
  obtain ⟨d7, dp⟩ := hL.2.2.1
  have dp' : lt_p w 100 10 = 140 ∨ 216 ≤ lt_p w 100 10 := dp
  have C1 := hC.parse hLay hA hL hr3 hr4
  have hA1 : AOk (aTap A (aG A, 0)) (c + 1) := hA.mono
  have hL1 : LOk (aTap A (aG A, 0)) w := hL
  have rfI : ∀ a j, 167 ≤ a → a ≤ 215 → gI r.2 a j = gI u a j := fun a j e1 e2 => hr3.1 a j (by simp [nin] <;> omega)
  have rfL : ∀ j, gL r.2 172 j = gL u 172 j := fun j => hr3.2.1 _ _ (by simp [nin])
  by_cases hk : k = 0
  · obtain ⟨s1, s2, s3, s4⟩ := K1 hk
    obtain ⟨q1, q2⟩ := hr1 hk
    generalize hd : lt_p w 100 10 = d at *
    have w216 := hL.1
    have dlt := fre_tx hFre hLay d7
    -- putOnly
    have n138 : gI (sI (sI (sI r.2 138 1 0) d 5 0) d 6 0) 138 1 = 0 := by rw [g_ne _ _ _ _ (by omega), g_ne _ _ _ _ (by omega), g_same]
    have p139 : lt_p (sP w 112 7 d) (138 + 1) 0 = lt_p w 139 0 := sP_p (by decide) 0
    have eput : F_X8_putOnly (sP w 112 7 d) f 138 d r.2 = some (lt_p w 139 0, sI (sI (sI (sI r.2 138 1 0) d 5 0) d 6 0) 138 1 1) := by
      rw [F_X8_putOnly]
      show (ck (ixo (gI (sI (sI (sI r.2 138 1 0) d 5 0) d 6 0) 138 1) 6) (some (sI (sI (sI (sI r.2 138 1 0) d 5 0) d 6 0) 138 1 (gI (sI (sI (sI r.2 138 1 0) d 5 0) d 6 0) 138 1 + 1)))).bind (fun r2 => some (lt_p (sP w 112 7 d) (138 + 1) (0 : Int32).toNatClampNeg, r2)) = _
      rw [n138, ck_p (nm0.ix (by decide)), nm0.nat, p139]; rfl
    generalize hu4 : sI (sI (sI (sI r.2 138 1 0) d 5 0) d 6 0) 138 1 1 = u4 at eput
    have f4 : ∀ a j, a ≠ d → (a ≠ 138 ∨ j ≠ 1) → gI u4 a j = gI r.2 a j := fun a j e1 e2 => by
      rw [← hu4]
      by_cases e : a = 138
      · subst e; rw [g_nk _ _ _ (by omega), g_ne _ _ _ _ e1, g_ne _ _ _ _ e1, g_nk _ _ _ (by omega)]
      · rw [g_ne _ _ _ _ e, g_ne _ _ _ _ e1, g_ne _ _ _ _ e1, g_ne _ _ _ _ e]
    have f4d : ∀ j, gI u4 d j = if j = 6 then 0 else if j = 5 then 0 else gI r.2 d j := fun j => by
      rw [← hu4, g_ne _ _ _ _ (by omega), g_at, g_at, g_ne _ _ _ _ (by omega)]
    have f4e : gI u4 138 1 = 1 := by rw [← hu4]; exact g_same _ _ _ _
    have f4K : ∀ a j, gK u4 a j = gK r.2 a j := fun a j => by rw [← hu4]; rfl
    have f4L : ∀ a j, gL u4 a j = gL r.2 a j := fun a j => by rw [← hu4]; rfl
    generalize hw2 : sP (sP w 112 7 d) (138 + 1) 0 d = w2
    have w2n : w2.1 = w.1 := by rw [← hw2]; rfl
    have w2t : ∀ a, lt_t w2 a = lt_t w a := fun a => by rw [← hw2]; rfl
    have w2p : ∀ a j, a ≠ 112 → lt_p w2 a j = if a = 139 ∧ j = 0 then d else lt_p w a j := fun a j ha => by
      rw [← hw2]
      by_cases e : a = 139
      · subst e
        by_cases e2 : j = 0
        · rw [e2, if_pos ⟨rfl, rfl⟩]; exact sP_e
        · rw [if_neg (fun e => e2 e.2)]
          have : lt_p (sP (sP w 112 7 d) 139 0 d) 139 j = lt_p (sP w 112 7 d) 139 j := sP_q e2
          exact this.trans (sP_p (by decide) j)
      · rw [if_neg (fun c => e c.1)]
        have : lt_p (sP (sP w 112 7 d) 139 0 d) a j = lt_p (sP w 112 7 d) a j := sP_p e j
        exact this.trans (sP_p ha j)
    have hF2 : Fre w2 := by rw [← hw2]; exact hFre
    have hLay2 : Lay w2 := by rw [← hw2]; exact Lay_it (Lay_rt hLay d) (Or.inr rfl)
    have ecl : F_X11_other w f u = if lt_p w 139 0 = 0 then B_X11_other_58 (sP (WT' w2 u4).1 100 10 w2.1) f 0 (WT' w2 u4).2 else B_X11_other_58 (sP w2 100 10 (lt_p w 139 0)) f 0 u4 := by
      rw [F_X11_other]
      show ck (lt_t w (lt_p w 100 10) = 7) ((F_X3_parse f (gI u 101 2) (lt_p w 100 10) u).bind _) = _
      rw [hd, ck_p d7, er, Option.bind_some, q1, if_pos rfl, eput, Option.bind_some]
      show (if lt_p w 139 0 = 0 then B_X11_other_58 (sP (WT' (sP (sP w 112 7 d) (138 + 1) (gI (sI (sI (sI r.2 138 1 0) d 5 0) d 6 0) 138 1).toNatClampNeg d) u4).1 100 10 (sP (sP w 112 7 d) (138 + 1) (gI (sI (sI (sI r.2 138 1 0) d 5 0) d 6 0) 138 1).toNatClampNeg d).1) f 0 (WT' (sP (sP w 112 7 d) (138 + 1) (gI (sI (sI (sI r.2 138 1 0) d 5 0) d 6 0) 138 1).toNatClampNeg d) u4).2 else B_X11_other_58 (sP (sP (sP w 112 7 d) (138 + 1) (gI (sI (sI (sI r.2 138 1 0) d 5 0) d 6 0) 138 1).toNatClampNeg d) 100 10 (lt_p w 139 0)) f 0 u4) = _
      rw [n138, nm0.nat, hw2]
    have hA2 : AOk (aOth (aTap A (aG A, 0)) rs how) (c + 1) := by
      obtain ⟨b1, b2, b3, b4, b5, b6⟩ := hA1
      exact ⟨b1, b2, ⟨by show 1 ≤ 6; decide, fun t ht => ⟨⟨0, nm0, by decide⟩, s3, s4, s1, s2⟩⟩, Nat.le_refl _, fun _ => ⟨rfl, rfl⟩, b6⟩
    -- all else is one thing, once the layout and the memory are said
    have fin : ∀ (w' : LT) (v : MT), F_X11_other w f u = some (0, w', v) → (∀ a j, 0 < a → a < w.1 → (a ≠ lt_p w 100 9 ∨ j ≠ 5) → gI v a j = gI u4 a j) → (∀ a j, 0 < a → a < w.1 → gK v a j = gK r.2 a j) → (∀ j, gL v 172 j = gL r.2 172 j) → (∀ t, lt_p w' 129 t = lt_p w 129 t) → lt_p w' 139 0 = d → (∀ a, a < w.1 → lt_t w' a = lt_t w a) → Bkk (aV A) (xOne rs how) (lt_p w' 100 9) v → LOk (aOth (aTap A (aG A, 0)) rs how) w' → Lay w' → lt_p w' 100 9 ≠ 0 → Old w w' → ∃ a w1 u1 u2 A', F_X11_other w f u = some (a, w1, u1) ∧ F_X12_other f u1 = some (a, u2) ∧ Inv A' (c + 1) w1 u2 ∧ Lay w1 ∧ Old w w1 ∧ ((a = 0 ∧ lt_p w1 100 9 ≠ 0) ∨ (a ≠ 0 ∧ lt_p w1 100 9 = lt_p w 100 9)) := by
      intro w' v e0 e1 e2 e3 e4 e5 e6 e7 e8 e9 e10 e11
      have ob := hL.ob hA
      have od : ∀ j, (d ≠ lt_p w 100 9 ∨ j ≠ 5) := fun j => Or.inl (by
        rcases ob with e | ⟨_, e, e'⟩
        · omega
        · have := lay_tb hLay d7 e'; omega)
      have C2 : ICl (aOth (aTap A (aG A, 0)) rs how) w' v := by
        refine C1.setOther hLay hFre hA1 hL1 s1 (by rw [hd]; exact q2) (fun a j c0 c1 c2 c3 c4 => by rw [hd] at c2; rw [e1 _ _ c0 c1 c4]; exact f4 _ _ c2 c3) e2 ?_ ?_ ?_ (fun j c1 c2 => ?_) e4 (by rw [hd]; exact e5) e6 e7
        · rw [e1 _ _ (by decide) (by omega) (Or.inr (by decide)), f4e]; rfl
        · rw [hd, e1 _ _ (by omega) (by omega) (od 5), f4d]; rfl
        · rw [hd, e1 _ _ (by omega) (by omega) (od 6), f4d]; rfl
        · rw [hd, e1 _ _ (by omega) (by omega) (od j), f4d, if_neg c2, if_neg c1]
      have R1 : IRf A v := hR.fr ⟨fun a j c1 c2 => by rw [e1 _ _ (by omega) (by omega) (by rcases ob with e | ⟨_, e, _⟩ <;> omega), f4 _ _ (by omega) (by omega)]; exact rfI a j c1 c2, fun j => by rw [e3]; exact rfL j⟩
      obtain ⟨v2, g1, g2, g3⟩ := r_other (f := f) (by omega) hA R1 hk s1 K4
      exact ⟨0, w', v, v2, _, e0, g1, ⟨hA2, e8, C2.fr hA2 e8 g3, g2⟩, e9, e11, Or.inl ⟨rfl, e10⟩⟩
    rcases Nat.lt_or_ge 0 (xtT (aY A)) with hy | hy
    · -- there was one
      have hy : xtT (aY A) = 1 := by omega
      obtain ⟨o1, o2, o3, o4, o5⟩ := hL.2.2.2.1 hy
      rw [hd] at o2
      have o1' : lt_p w 139 0 = 140 ∨ 216 ≤ lt_p w 139 0 := o1
      have y7 := (hC.2.2.1.2 0 (by omega)).1
      have y7 : lt_t w (lt_p w 139 0) = 7 := y7
      have q4 := fre_bk hFre hLay o3
      have q5 := lay_tb hLay d7 o3
      have lp : ∀ a j, a ≠ 112 → (a ≠ 100 ∨ j ≠ 10) → lt_p (sP w2 100 10 (lt_p w 139 0)) a j = if a = 139 ∧ j = 0 then d else lt_p w a j := fun a j e2 e3 => by
        rw [← w2p a j e2]
        by_cases e : a = 100
        · subst e; exact sP_q (by omega)
        · exact sP_p e j
      have lpo : lt_p (sP w2 100 10 (lt_p w 139 0)) 100 9 = lt_p w 100 9 := by rw [lp _ _ (by decide) (Or.inr (by decide)), if_neg (fun c => absurd c.1 (by decide))]
      have lpo2 : lt_p (sP w2 100 10 (lt_p w 139 0)) (lt_p w 100 9) 2 = 138 := by rw [lp _ _ (by omega) (Or.inl (by omega)), if_neg (fun c => by omega)]; exact o4
      have lk : ∀ a, lt_t (sP w2 100 10 (lt_p w 139 0)) a = lt_t w a := fun a => w2t a
      have p1010 : lt_p (sP w2 100 10 (lt_p w 139 0)) 100 10 = lt_p w 139 0 := sP_e
      have p139' : lt_p (sP w2 100 10 (lt_p w 139 0)) 139 0 = d := by rw [lp _ _ (by decide) (Or.inl (by decide)), if_pos ⟨rfl, rfl⟩]
      have p129' : ∀ t, lt_p (sP w2 100 10 (lt_p w 139 0)) 129 t = lt_p w 129 t := fun t => by rw [lp _ _ (by decide) (Or.inl (by decide)), if_neg (fun c => absurd c.1 (by decide))]
      have eb5 : gI u4 (lt_p w 100 9) 5 = gI r.2 (lt_p w 100 9) 5 := f4 _ _ (by omega) (by omega)
      refine fin (sP w2 100 10 (lt_p w 139 0)) (sI u4 (lt_p w 100 9) 5 (if 0 < gI u4 (lt_p w 100 9) 5 then 0 else gI u4 (lt_p w 100 9) 5)) ?_ (fun a j c0 c1 c2 => ?_) (fun a j _ _ => f4K a j) (fun j => f4L _ _) p129' p139' (fun a _ => lk a) ?_ ?_ (Lay_dr hLay2) (by rw [lpo]; omega) (fun a ha => ⟨lk a, by rw [← hw2]; rfl⟩)
      · rw [ecl, if_neg (by omega), B_X11_other_58, lpo, if_neg (by omega), lk, ck_p o3, lpo2, F_X1_forgetFrom]; rfl
      · by_cases e : a = lt_p w 100 9
        · subst e; exact g_nk _ _ _ (c2.resolve_left (fun c => c rfl))
        · exact g_ne _ _ _ _ e
      · rw [lpo]
        have B0 : Bkk (aV A) (aY A) (lt_p w 100 9) r.2 := C1.2.2.2.2.2.2.2.2.2.2 hy
        refine B0.cut (qn := 0) nm0 ?_ ?_ (fun a j c1 c2 => ?_) rfl rfl rfl (fun d q hq => absurd hq (by omega))
        · rw [g_nk _ _ _ (by decide)]; exact f4 _ _ (by omega) (by omega)
        · rw [g_same, eb5]
        · rw [g_ne _ _ _ _ (by omega)]; exact f4 _ _ (by omega) (by omega)
      · refine ⟨by show 216 < w2.1; omega, fun t ht => ?_, ?_, fun _ => ?_, fun hy => by exact absurd hy (by show ¬ (1 : Nat) = 0; decide)⟩
        · have ht : t < xtT (aX A) := ht
          have l2 := hL.2.1 t ht
          rw [hd] at l2
          rw [p129', p1010, p139']
          exact ⟨l2.1, l2.2.2 hy, fun _ => l2.2.1⟩
        · rw [p1010, lk]; exact ⟨y7, o1⟩
        · rw [p139', p1010, lpo, lpo2, lk]; exact ⟨dp, fun e => o2 e.symm, o3, rfl, o5⟩
    · -- the first one
      have hy : xtT (aY A) = 0 := by omega
      obtain ⟨o1, o2⟩ := hL.2.2.2.2 hy
      obtain ⟨t1, t2, t3, t4, t5, t6, t7, t8⟩ := newtext u4 hF2
      rw [w2n] at t1 t4 t6
      generalize hwt : WT' w2 u4 = wt at *
      have hLay3 : Lay (sP wt.1 100 10 w.1) := Lay_dr (by rw [← hwt]; exact Lay_newtext u4 hF2 hLay2)
      have hF3 : Fre (sP wt.1 100 10 w.1) := t5
      have lp3 : ∀ a j, a < w.1 → a ≠ 112 → (a ≠ 100 ∨ j ≠ 10) → lt_p (sP wt.1 100 10 w.1) a j = if a = 139 ∧ j = 0 then d else lt_p w a j := fun a j e1 e2 e3 => by
        have : lt_p (sP wt.1 100 10 w.1) a j = lt_p wt.1 a j := by
          by_cases e : a = 100
          · subst e; exact sP_q (by omega)
          · exact sP_p e j
        rw [this, t3 a j (by rw [w2n]; exact e1), w2p a j e2]
      have lk3 : ∀ a, a < w.1 → lt_t (sP wt.1 100 10 w.1) a = lt_t w a := fun a e1 => by
        have : lt_t (sP wt.1 100 10 w.1) a = lt_t wt.1 a := rfl
        rw [this, (t2 a (by rw [w2n]; exact e1)).1, w2t]
      have p3 : lt_p (sP wt.1 100 10 w.1) 100 9 = 0 := by rw [lp3 _ _ (by omega) (by decide) (Or.inr (by decide)), if_neg (fun c => absurd c.1 (by decide))]; exact o2
      generalize hw3 : sP wt.1 100 10 w.1 = w3 at *
      have w3n : w3.1 = w.1 + 27 := by rw [← hw3]; exact t1
      have k3 : lt_t w3 w.1 = 7 := by rw [← hw3]; exact t4.1
      have p310 : lt_p w3 100 10 = w.1 := by rw [← hw3]; exact sP_e
      have hLayB := hLay3
      have hz : ∀ a j, w3.1 ≤ a → a ≤ w3.1 + 5 → gI (WB' w3 wt.2).2 a j = 0 := fun a j => newbook_zero
      obtain ⟨b1, b2, b3, b4, b5, b6, b7⟩ := newbook wt.2 hF3 hLay3
      rw [w3n] at b1
      generalize hwb : WB' w3 wt.2 = wb at *
      have m4 : ∀ a j, a < w.1 → gI wb.2 a j = gI u4 a j := fun a j ha => by
        show wb.2.1 a j = u4.1 a j
        rw [(b6 a (by omega)).1, (t6 a ha).1]
      have mK : ∀ a j, a < w.1 → gK wb.2 a j = gK r.2 a j := fun a j ha => by
        rw [← f4K]
        show wb.2.2.2 a j = u4.2.2 a j
        rw [(b6 a (by omega)).2.2, (t6 a ha).2.2]
      have mL : ∀ a j, a < w.1 → gL wb.2 a j = gL r.2 a j := fun a j ha => by
        rw [← f4L]
        show wb.2.2.1 a j = u4.2.1 a j
        rw [(b6 a (by omega)).2.1, (t6 a ha).2.1]
      have lp : ∀ a j, a < w3.1 → (a ≠ 100 ∨ j ≠ 9) → lt_p (sP wb.1 100 9 w3.1) a j = lt_p w3 a j := fun a j e1 e3 => by
        rw [← b3 a j e1]
        by_cases e : a = 100
        · subst e; exact sP_q (by omega)
        · exact sP_p e j
      have lk : ∀ a, a < w3.1 → lt_t (sP wb.1 100 9 w3.1) a = lt_t w3 a := fun a e1 => (b2 a e1).1
      have p9 : lt_p (sP wb.1 100 9 w3.1) 100 9 = w3.1 := sP_e
      have p1010 : lt_p (sP wb.1 100 9 w3.1) 100 10 = w.1 := by rw [lp _ _ (by omega) (Or.inr (by decide))]; exact p310
      have p139' : lt_p (sP wb.1 100 9 w3.1) 139 0 = d := by rw [lp _ _ (by omega) (Or.inl (by decide)), lp3 _ _ (by omega) (by decide) (Or.inl (by decide)), if_pos ⟨rfl, rfl⟩]
      have p129' : ∀ t, lt_p (sP wb.1 100 9 w3.1) 129 t = lt_p w 129 t := fun t => by rw [lp _ _ (by omega) (Or.inl (by decide)), lp3 _ _ (by omega) (by decide) (Or.inl (by decide)), if_neg (fun c => absurd c.1 (by decide))]
      have ez : (if (0 : Int32) < gI wb.2 w3.1 5 then 0 else gI wb.2 w3.1 5) = 0 := by rw [hz _ _ (Nat.le_refl _) (by omega)]; decide
      refine fin (sP wb.1 100 9 w3.1) (sI wb.2 w3.1 5 0) ?_ (fun a j c0 c1 c2 => ?_) (fun a j _ c1 => mK a j c1) (fun j => mL _ _ (by omega)) p129' p139' (fun a ha => by rw [lk _ (by omega), lk3 _ ha]) ?_ ?_ (Lay_ob b7) (by rw [p9]; omega) (fun a ha => ⟨by rw [lk _ (by omega), lk3 _ ha], (b2 a (by omega)).2.trans (by rw [← hw3]; exact (t2 a (by rw [w2n]; exact ha)).2.trans (by rw [← hw2]; rfl))⟩)
      · rw [ecl, if_pos o1, w2n, hw3, B_X11_other_58, if_pos p3, hwb, F_X1_forgetFrom, ez]; rfl
      · rw [g_ne _ _ _ _ (by omega)]; exact m4 _ _ c1
      · rw [p9]
        refine ⟨0, by rw [g_same]; exact nm0, by decide, fun q hq => absurd hq (by omega), fun q k hq hn hh => ?_, fun q k hq => absurd hq (by omega)⟩
        rw [g_ne _ _ _ _ (by omega), g_ne _ _ _ _ (by omega), g_ne _ _ _ _ (by omega)]
        exact ⟨hz _ _ (by omega) (by omega), hz _ _ (by omega) (by omega), hz _ _ (by omega) (by omega)⟩
      · refine ⟨by show 216 < wb.1.1; omega, fun t ht => ?_, ?_, fun _ => ?_, fun hy => by exact absurd hy (by show ¬ (1 : Nat) = 0; decide)⟩
        · have ht : t < xtT (aX A) := ht
          have l2 := hL.2.1 t ht
          rw [hd] at l2
          have q3 : lt_p w 129 t + 26 < w.1 := fre_tx hFre hLay (hC.2.1.2 t ht).1
          rw [p129', p1010, p139']
          exact ⟨l2.1, by omega, fun _ => l2.2.1⟩
        · rw [p1010, lk _ (by omega)]; exact ⟨k3, Or.inr (by omega)⟩
        · rw [p139', p1010, p9]
          have h2 : lt_p (sP wb.1 100 9 w3.1) w3.1 2 = 138 := (sP_p (by omega) 2).trans b4.2.2.2.1
          exact ⟨dp, by omega, b4.1, h2, by omega⟩
  · have q1 := hr2 hk
    have fp := K2 hk
    have R1 : IRf A r.2 := hR.fr ⟨rfI, rfL⟩
    have R1' : IRf A (sI r.2 167 0 0) := R1.thr
    obtain ⟨r9, e9, y1, y2, y3, y4, y5⟩ := K4 _ R1'
    have R9 : IRf (aTap A (aG A, 0)) r9 := R1'.reads hA y5 y4 y3
    have fl0 : ¬ fl = 0 := fun e => by rw [e, z0] at fp; omega
    refine ⟨fl, sP w 112 7 (lt_p w 100 10), r.2, r9, aTap A (aG A, 0), ?_, ?_, ⟨hA1, LOk.rt hL1 _, ?_, R9⟩, Lay_rt hLay _, fun a ha => ⟨rfl, rfl⟩, Or.inr ⟨fl0, sP_p (by decide) 9⟩⟩
    · rw [F_X11_other]
      show ck (lt_t w (lt_p w 100 10) = 7) ((F_X3_parse f (gI u 101 2) (lt_p w 100 10) u).bind _) = _
      rw [ck_p d7, er, Option.bind_some, q1, if_neg fl0]
    · rw [F_X12_other]
      show (F_X12_readText f (sI r.2 167 0 0)).bind _ = _
      rw [e9, Option.bind_some, y2 hk, if_neg fl0]
      show some (gI r9 167 8, r9) = _
      rw [y2 hk]
    · have C2 : ICl (aTap A (aG A, 0)) (sP w 112 7 (lt_p w 100 10)) r.2 := C1.lay (fun t => sP_p (by decide) t) (fun t => sP_p (by decide) t) (sP_p (by decide) 9) (fun a => rfl)
      exact C2.fr hA1 (LOk.rt hL1 _) ⟨fun a j e => by rw [y5.1 _ _ (by simp [nin, wI_X12_readText] <;> omega), g_ne _ _ _ _ (by omega)], fun a j => y5.2.2 a j (by simp [nin]), fun j => y5.2.1 _ _ (by simp [nin, wL_X12_readText])⟩
end
