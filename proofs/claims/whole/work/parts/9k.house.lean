/-! ===== house, read: both alike ===== -/
def aSetV (A : AS) (V : VD) : AS := (V, A.2)
theorem LOk.ob {A : AS} {c : Nat} {w : LT} (hA : AOk A c) (hL : LOk A w) : lt_p w 100 9 = 0 ∨ (xtT (aY A) = 1 ∧ 216 ≤ lt_p w 100 9 ∧ lt_t w (lt_p w 100 9) = 1) := by
  have := hA.2.2.2.1
  rcases Nat.lt_or_ge 0 (xtT (aY A)) with e | e
  · have e1 : xtT (aY A) = 1 := by omega
    obtain ⟨_, _, o1, _, o2⟩ := hL.2.2.2.1 e1
    exact Or.inr ⟨e1, o2, o1⟩
  · exact Or.inl (hL.2.2.2.2 (by omega)).2
theorem LOk.y0 {A : AS} {c : Nat} {w : LT} (hA : AOk A c) (hL : LOk A w) {t : Nat} (ht : t < xtT (aY A)) : t = 0 ∧ pOk (lt_p w 139 t) := by
  have := hA.2.2.2.1
  have e1 : xtT (aY A) = 1 := by omega
  have e2 : t = 0 := by omega
  subst e2
  exact ⟨rfl, (hL.2.2.2.1 e1).1⟩
theorem ICl.setV {A : AS} {c : Nat} {w : LT} {u v : MT} {V : VD} (h : ICl A w u) (hLay : Lay w) (hA : AOk A c) (hL : LOk A w) (hI : ∀ a j, (a < 101 ∨ 109 < a) → (a ≠ 130 ∨ j ≠ 5) → a ≠ lt_p w 100 9 → gI v a j = gI u a j) (hK : ∀ a j, gK v a j = gK u a j) (hV : VC V v) (B1 : Bkk V (aX A) 130 v) (B2 : xtT (aY A) = 1 → Bkk V (aY A) (lt_p w 100 9) v) : ICl (aSetV A V) w v := by
  obtain ⟨a1, a2, a3, a4, a5, a6, a7, a8, a9, a10, a11⟩ := h
  have ob := hL.ob hA
  have tx : ∀ {t : Nat}, lt_t w t = 7 → pOk t → ∀ a j, t ≤ a → a ≤ t + 26 → gI v a j = gI u a j ∧ gK v a j = gK u a j := fun {t} h7 hp a j e1 e2 => by
    have d1 := lay_tb hLay h7 (kt_130 hLay)
    refine ⟨hI _ _ (by rcases hp with e | e <;> omega) (by omega) ?_, hK _ _⟩
    rcases ob with e | ⟨_, e, e'⟩
    · rcases hp with e3 | e3 <;> omega
    · have d2 := lay_tb hLay h7 e'; omega
  have hI' : ∀ a j, (a < 101 ∨ 109 < a) → a ≠ 130 → 0 < a → a < 216 → gI v a j = gI u a j := fun a j e1 e2 e3 e4 => hI a j e1 (Or.inl e2) (by rcases ob with e | ⟨_, e, _⟩ <;> omega)
  exact ⟨hV, a2.fr3 hA.2.1 (hI' _ _ (by decide) (by decide) (by decide) (by decide)) (fun t ht => tx (a2.2 t ht).1 (hL.2.1 t ht).1), a3.fr3 hA.2.2.1 (hI' _ _ (by decide) (by decide) (by decide) (by decide)) (fun t ht => tx (a3.2 t ht).1 (hL.y0 hA ht).2), by rw [hI' _ _ (by decide) (by decide) (by decide) (by decide)]; exact a4, by rw [hI' _ _ (by decide) (by decide) (by decide) (by decide)]; exact a5, ⟨a6.1, by rw [hI' _ _ (by decide) (by decide) (by decide) (by decide)]; exact a6.2.1, fun k hk => by rw [hI' _ _ (by decide) (by decide) (by decide) (by decide)]; exact a6.2.2 k hk⟩, by rw [hI' _ _ (by decide) (by decide) (by decide) (by decide)]; exact a7, fun d hd => ⟨fun h hh => by rw [hI' _ _ (by decide) (by decide) (by decide) (by decide)]; exact (a8 d hd).1 h hh, by rw [hI' _ _ (by decide) (by decide) (by decide) (by decide)]; exact (a8 d hd).2.1, by rw [hI' _ _ (by decide) (by decide) (by decide) (by decide)]; exact (a8 d hd).2.2⟩, fun j h1 h2 => by rw [hI' _ _ (by decide) (by decide) (by decide) (by decide)]; exact a9 j h1 h2, B1, B2⟩
theorem IRf.setV {A : AS} {u v : MT} {V : VD} (h : IRf A u) (hI : ∀ a j, (a < 189 ∨ 195 < a) → (a ≠ 167 ∨ (j ≠ 0 ∧ j ≠ 31 ∧ j ≠ 34)) → gI v a j = gI u a j) (hL : ∀ j, gL v 172 j = gL u 172 j) (hV : VR V v) : IRf (aSetV A V) v := by
  obtain ⟨a1, a2, a3, a4, a5, a6, a7, a8, a9, a10, a11⟩ := h
  exact ⟨hV, ⟨by rw [hI _ _ (by omega) (by omega)]; exact a2.1, fun t ht => by rw [hI _ _ (by omega) (by omega), hI _ _ (by omega) (by omega)]; exact a2.2 t ht⟩, fun t ht => ⟨(a3 t ht).1, (a3 t ht).2.fr (fun a j h1 h2 => hI _ _ (by omega) (by omega))⟩, fun t ht => ⟨(a4 t ht).1, (a4 t ht).2.fr (fun a j h1 h2 => hI _ _ (by omega) (by omega))⟩, by rw [hI _ _ (by omega) (by omega)]; exact a5, by rw [hI _ _ (by omega) (by omega)]; exact a6, by rw [hI _ _ (by omega) (by omega)]; exact a7, ⟨a8.1, by rw [hI _ _ (by omega) (by omega)]; exact a8.2.1, fun k hk => by rw [hI _ _ (by omega) (by omega)]; exact a8.2.2 k hk⟩, fun k hk => by rw [hL]; exact a9 k hk, by rw [hI _ _ (by omega) (by omega)]; exact a10, fun j hj => by rw [hI _ _ (by omega) (by omega)]; exact a11 j hj⟩
section
variable {f : Nat}
theorem c_house {A : AS} {c : Nat} {w : LT} {u : MT} {x1 x2 : Int32} (hA : AOk A c) (hL : LOk A w) (hC : ICl A w u) : F_X11_house f x1 x2 u = if (vlR (aV A) = 0 ∧ xtT (aX A) = 0 ∧ xtT (aY A) = 0) ∧ ((1 ≤ x1.toInt ∧ x1.toInt ≤ 1000) ∧ 0 ≤ x2.toInt ∧ x2.toInt ≤ 5000) ∧ vlN (aV A) < 12 then F_X2_add f x1 x2 u else some (-1, u) := by
  have h12 := hA.1.1
  have z0 : (0 : Int32).toInt = 0 := rfl
  have z1 : (1 : Int32).toInt = 1 := rfl
  have z12 : (12 : Int32).toInt = 12 := rfl
  have z1000 : (1000 : Int32).toInt = 1000 := rfl
  have z5000 : (5000 : Int32).toInt = 5000 := rfl
  have e1 : (gI u 101 2).toInt = (vlN (aV A) : Int) := hC.1.1
  have e4 : (gI u 104 5).toInt = (vlR (aV A) : Int) := hC.1.2.1
  have e8 : (gI u 128 1).toInt = (xtT (aX A) : Int) := hC.2.1.1
  have e3 : (gI u 138 1).toInt = (xtT (aY A) : Int) := hC.2.2.1.1
  have k63 : ∀ s t : Int32, B_X11_house_63 f x1 x2 s t u = if s = 0 ∧ ¬ t = 0 ∧ vlN (aV A) < 12 then F_X2_add f x1 x2 u else some (-1, u) := by
    intro s t
    rw [B_X11_house_63]
    by_cases c1 : s = 0
    · rw [if_pos c1]
      by_cases c2 : t = 0
      · rw [if_pos c2, if_neg (fun e => e.2.1 c2)]
      · rw [if_neg c2]
        by_cases c3 : gI u 101 2 < 12
        · rw [if_pos c3, if_pos ⟨c1, c2, by have := i_lt.mp c3; omega⟩]
          cases F_X2_add f x1 x2 u <;> rfl
        · rw [if_neg c3, if_neg (fun e => c3 (i_lt.mpr (by omega)))]
    · rw [if_neg c1, if_neg (fun e => c1 e.1)]
  have k35 : ∀ s : Int32, B_X11_house_35 f x1 x2 s u = if s = 0 ∧ ((1 ≤ x1.toInt ∧ x1.toInt ≤ 1000) ∧ 0 ≤ x2.toInt ∧ x2.toInt ≤ 5000) ∧ vlN (aV A) < 12 then F_X2_add f x1 x2 u else some (-1, u) := by
    intro s
    rw [B_X11_house_35, c_isIn, z1, z1000]
    by_cases c1 : 1 ≤ x1.toInt ∧ x1.toInt ≤ 1000
    · rw [b2i_t c1]
      show (F_X11_isIn f x2 0 5000 u).bind _ = _
      rw [c_isIn, z0, z5000]
      by_cases c2 : 0 ≤ x2.toInt ∧ x2.toInt ≤ 5000
      · rw [b2i_t c2]
        show B_X11_house_63 f x1 x2 s 1 u = _
        rw [k63]
        by_cases c3 : s = 0 ∧ ¬ (1 : Int32) = 0 ∧ vlN (aV A) < 12
        · rw [if_pos c3, if_pos ⟨c3.1, ⟨c1, c2⟩, c3.2.2⟩]
        · rw [if_neg c3, if_neg (fun e => c3 ⟨e.1, by decide, e.2.2⟩)]
      · rw [b2i_f c2]
        show B_X11_house_62 f x1 x2 s u = _
        rw [B_X11_house_62, k63, if_neg (fun e => e.2.1 rfl), if_neg (fun e => c2 e.2.1.2)]
    · rw [b2i_f c1]
      show B_X11_house_62 f x1 x2 s u = _
      rw [B_X11_house_62, k63, if_neg (fun e => e.2.1 rfl), if_neg (fun e => c1 e.2.1.1)]
  rw [F_X11_house, B_X11_house_30, k35, k35, if_neg (show ¬ ((1 : Int32) = 0 ∧ _) from fun e => absurd e.1 (by decide))]
  by_cases c1 : 0 < gI u 104 5
  · rw [if_pos c1, if_neg (fun e => by have := i_lt.mp c1; omega)]
  rw [if_neg c1]
  by_cases c2 : 0 < gI u 128 1
  · rw [if_pos c2, if_neg (fun e => by have := i_lt.mp c2; omega)]
  rw [if_neg c2]
  have d1 := mt i_lt.mpr c1
  have d2 := mt i_lt.mpr c2
  by_cases c3 : gI u 138 1 ≤ 0
  · have d3 := i_le.mp c3
    rw [if_pos c3]
    by_cases c4 : ((1 ≤ x1.toInt ∧ x1.toInt ≤ 1000) ∧ 0 ≤ x2.toInt ∧ x2.toInt ≤ 5000) ∧ vlN (aV A) < 12
    · rw [if_pos ⟨rfl, c4⟩, if_pos ⟨⟨by omega, by omega, by omega⟩, c4⟩]
    · rw [if_neg (fun e => c4 e.2), if_neg (fun e => c4 e.2)]
  · have d3 := mt i_le.mpr c3
    rw [if_neg c3, if_neg (fun e => by omega)]
theorem P_house {A : AS} {c : Nat} {w : LT} {u : MT} {x1 x2 : Int32} (hLay : Lay w) (h : Inv A c w u) : ∃ a u1 u2 A', F_X11_house f x1 x2 u = some (a, u1) ∧ F_X12_house f x1 x2 u1 = some (a, u2) ∧ Inv A' (c + 1) w u2 := by
  have hI := h.thr (x := 0)
  obtain ⟨hA, hL, hC, hR⟩ := h
  have z0 : (0 : Int32).toInt = 0 := rfl
  have z1 : (1 : Int32).toInt = 1 := rfl
  have z12 : (12 : Int32).toInt = 12 := rfl
  have z1000 : (1000 : Int32).toInt = 1000 := rfl
  have z5000 : (5000 : Int32).toInt = 5000 := rfl
  have h12 := hA.1.1
  rw [c_house hA hL hC]
  by_cases g : (vlR (aV A) = 0 ∧ xtT (aX A) = 0 ∧ xtT (aY A) = 0) ∧ ((1 ≤ x1.toInt ∧ x1.toInt ≤ 1000) ∧ 0 ≤ x2.toInt ∧ x2.toInt ≤ 5000) ∧ vlN (aV A) < 12
  · rw [if_pos g]
    obtain ⟨⟨g1, g2, g3⟩, ⟨g4, g5⟩, g6⟩ := g
    have n1 : Nm (gI u 101 2) (vlN (aV A)) := hC.1.1
    have n1s := n1.succ (by omega)
    have n0 : Nm (gI u 101 2 + 1 - 1) (vlN (aV A)) := n1s.sub (show Nm (1 : Int32) 1 from rfl) (by omega)
    -- the class
    have ec : F_X2_add f x1 x2 u = some (gI u 101 2 + 1 - 1, sI (sI (sI u 102 (vlN (aV A)) x1) 103 (vlN (aV A)) x2) 101 2 (gI u 101 2 + 1)) := by
      rw [F_X2_add, ck_p (n1.ix g6)]
      show ck (ixo (gI (sI u 102 (gI u 101 2).toNatClampNeg x1) 101 2) 12) (some (gI (sI (sI (sI u 102 (gI u 101 2).toNatClampNeg x1) 103 (gI (sI u 102 (gI u 101 2).toNatClampNeg x1) 101 2).toNatClampNeg x2) 101 2 (gI (sI (sI u 102 (gI u 101 2).toNatClampNeg x1) 103 (gI (sI u 102 (gI u 101 2).toNatClampNeg x1) 101 2).toNatClampNeg x2) 101 2 + 1)) 101 2 - 1, sI (sI (sI u 102 (gI u 101 2).toNatClampNeg x1) 103 (gI (sI u 102 (gI u 101 2).toNatClampNeg x1) 101 2).toNatClampNeg x2) 101 2 (gI (sI (sI u 102 (gI u 101 2).toNatClampNeg x1) 103 (gI (sI u 102 (gI u 101 2).toNatClampNeg x1) 101 2).toNatClampNeg x2) 101 2 + 1))) = _
      rw [g_same, g_ne _ _ _ _ (show 101 ≠ 103 by decide), g_ne _ _ _ _ (show 101 ≠ 102 by decide), ck_p (n1.ix g6), n1.nat]
    generalize hu1 : sI (sI (sI u 102 (vlN (aV A)) x1) 103 (vlN (aV A)) x2) 101 2 (gI u 101 2 + 1) = u1 at ec
    have fr1 : ∀ a j, (a < 101 ∨ 103 < a) → gI u1 a j = gI u a j := fun a j ha => by rw [← hu1, g_ne _ _ _ _ (by omega), g_ne _ _ _ _ (by omega), g_ne _ _ _ _ (by omega)]
    have frK : ∀ a j, gK u1 a j = gK u a j := fun a j => by rw [← hu1]; rfl
    have frL : ∀ a j, gL u1 a j = gL u a j := fun a j => by rw [← hu1]; rfl
    have hV' : VOk (vHou (aV A) x1 x2) := by
      obtain ⟨V1, V2, V3, V4, V5⟩ := hA.1
      refine ⟨g6, V2, fun j hj => ?_, fun h hh => ?_, V5⟩
      · have hj : j < vlR (aV A) := hj; omega
      · have hh : h < vlN (aV A) + 1 := hh
        show 1 ≤ (upf (vlS (aV A)) (vlN (aV A)) x1 h).toInt ∧ (upf (vlS (aV A)) (vlN (aV A)) x1 h).toInt ≤ 1000 ∧ 0 ≤ (upf (vlB (aV A)) (vlN (aV A)) x2 h).toInt ∧ (upf (vlB (aV A)) (vlN (aV A)) x2 h).toInt ≤ 5000
        by_cases e : h = vlN (aV A)
        · rw [e, upf_same, upf_same]; exact ⟨g4.1, g4.2, g5.1, g5.2⟩
        · rw [upf_ne e, upf_ne e]; exact V4 h (by omega)
    have hA' : AOk (aSetV A (vHou (aV A) x1 x2)) (c + 1) := by
      obtain ⟨b1, b2, b3, b4, b5, b6, b7, b8, b9, b10⟩ := hA
      refine ⟨hV', ⟨b2.1, fun t ht => ?_⟩, ⟨b3.1, fun t ht => ?_⟩, b4, b5, b6, by show (aN A).toInt ≤ _; omega, b8, b9, fun d h h1 h2 h3 => b10 d h h1 (by have h2 : vlN (aV A) + 1 ≤ h := h2; omega) h3⟩
      · have ht : t < xtT (aX A) := ht; omega
      · have ht : t < xtT (aY A) := ht; omega
    have hL' : LOk (aSetV A (vHou (aV A) x1 x2)) w := hL
    have C1 : ICl (aSetV A (vHou (aV A) x1 x2)) w u1 := by
      obtain ⟨W, k1, k2, k3⟩ := hC.2.2.2.2.2.2.2.2.2.1
      refine hC.setV hLay hA hL (fun a j e1 _ _ => fr1 _ _ (by omega)) frK ⟨?_, ?_, fun j hj => ?_, fun h hh => ?_, ?_, ?_⟩ ⟨W, by rw [fr1 _ _ (by decide)]; exact k1, k2, by rw [fr1 _ _ (by decide)]; exact Bok.house hA.1 hV' k3 k2 g1 g2 (fun a j e1 e2 => fr1 _ _ (by omega))⟩ (fun e => by omega)
      · rw [← hu1, g_same]; exact n1s
      · rw [fr1 _ _ (by decide)]; exact hC.1.2.1
      · have hj : j < vlR (aV A) := hj; omega
      · have hh : h < vlN (aV A) + 1 := hh
        show gI u1 102 h = upf (vlS (aV A)) (vlN (aV A)) x1 h ∧ gI u1 103 h = upf (vlB (aV A)) (vlN (aV A)) x2 h
        rw [← hu1, g_ne _ _ _ _ (show 102 ≠ 101 by decide), g_ne _ _ _ _ (show 102 ≠ 103 by decide), g_ne _ _ _ _ (show 103 ≠ 101 by decide), g_at, g_at, g_ne _ _ _ _ (show 103 ≠ 102 by decide)]
        unfold upf
        by_cases e : h = vlN (aV A)
        · rw [if_pos e, if_pos e, if_pos e, if_pos e]; exact ⟨rfl, rfl⟩
        · rw [if_neg e, if_neg e, if_neg e, if_neg e]; exact hC.1.2.2.2.1 h (by omega)
      · rw [fr1 _ _ (by decide)]; exact hC.1.2.2.2.2.1
      · rw [fr1 _ _ (by decide)]; exact hC.1.2.2.2.2.2
    have R1 : IRf A u1 := hR.fr ⟨fun a j e1 e2 => fr1 _ _ (by omega), fun j => frL _ _⟩
    have m1 : Nm (gI u1 167 31) (vlN (aV A)) := R1.1.1
    have m34 := R1.1.2.1
    have m22 := R1.2.1.1
    have m25 := R1.2.2.2.2.1
    have er : F_X12_house f x1 x2 u1 = some (gI u1 167 31 + 1 - 1, sI (sI (sI (sI u1 167 0 0) 189 (vlN (aV A)) x1) 190 (vlN (aV A)) x2) 167 31 (gI u1 167 31 + 1)) := by
      have q31 : gI (sI u1 167 0 0) 167 31 = gI u1 167 31 := g_nk _ _ _ (by decide)
      have q34 : gI (sI u1 167 0 0) 167 34 = gI u1 167 34 := g_nk _ _ _ (by decide)
      have q22 : gI (sI u1 167 0 0) 167 22 = gI u1 167 22 := g_nk _ _ _ (by decide)
      have q25 : gI (sI u1 167 0 0) 167 25 = gI u1 167 25 := g_nk _ _ _ (by decide)
      rw [F_X12_house]
      rw [if_neg (fun e => by have := i_lt.mp e; omega), if_neg (fun e => by have := i_lt.mp e; omega), if_neg (fun e => by have := i_lt.mp e; omega), if_neg (fun e => by have := i_lt.mp e; omega)]
      show (if gI (sI u1 167 0 0) 167 31 = 12 then _ else if 0 < gI (sI u1 167 0 0) 167 34 then _ else if 0 < gI (sI u1 167 0 0) 167 22 then _ else if gI (sI u1 167 0 0) 167 25 = 0 then ck (ixo (gI (sI u1 167 0 0) 167 31) 12) (ck (ixo (gI (sI (sI u1 167 0 0) 189 (gI (sI u1 167 0 0) 167 31).toNatClampNeg x1) 167 31) 12) (some (gI (sI (sI (sI (sI u1 167 0 0) 189 (gI (sI u1 167 0 0) 167 31).toNatClampNeg x1) 190 (gI (sI (sI u1 167 0 0) 189 (gI (sI u1 167 0 0) 167 31).toNatClampNeg x1) 167 31).toNatClampNeg x2) 167 31 (gI (sI (sI (sI u1 167 0 0) 189 (gI (sI u1 167 0 0) 167 31).toNatClampNeg x1) 190 (gI (sI (sI u1 167 0 0) 189 (gI (sI u1 167 0 0) 167 31).toNatClampNeg x1) 167 31).toNatClampNeg x2) 167 31 + 1)) 167 31 - 1, sI (sI (sI (sI u1 167 0 0) 189 (gI (sI u1 167 0 0) 167 31).toNatClampNeg x1) 190 (gI (sI (sI u1 167 0 0) 189 (gI (sI u1 167 0 0) 167 31).toNatClampNeg x1) 167 31).toNatClampNeg x2) 167 31 (gI (sI (sI (sI u1 167 0 0) 189 (gI (sI u1 167 0 0) 167 31).toNatClampNeg x1) 190 (gI (sI (sI u1 167 0 0) 189 (gI (sI u1 167 0 0) 167 31).toNatClampNeg x1) 167 31).toNatClampNeg x2) 167 31 + 1)))) else _) = _
      rw [g_same, g_ne _ _ _ _ (show 167 ≠ 190 by decide), g_ne _ _ _ _ (show 167 ≠ 189 by decide), q31, q34, q22, q25, if_neg (fun e => by have := (m1.eq (show Nm (12 : Int32) 12 from rfl)).mp e; omega), if_neg (fun e => by have := (nm0.lt m34).mp e; omega), if_neg (fun e => by have := (nm0.lt m22).mp e; omega), if_pos ((m25.eq nm0).mpr g3), ck_p (m1.ix g6), ck_p (m1.ix g6), m1.nat]
    generalize hu2 : sI (sI (sI (sI u1 167 0 0) 189 (vlN (aV A)) x1) 190 (vlN (aV A)) x2) 167 31 (gI u1 167 31 + 1) = u2 at er
    have fr2 : ∀ a j, a ≠ 189 → a ≠ 190 → (a ≠ 167 ∨ (j ≠ 0 ∧ j ≠ 31)) → gI u2 a j = gI u1 a j := fun a j e1 e2 e3 => by
      rw [← hu2]
      by_cases e : a = 167
      · subst e; rw [g_nk _ _ _ (by omega), g_ne _ _ _ _ e2, g_ne _ _ _ _ e1, g_nk _ _ _ (by omega)]
      · rw [g_ne _ _ _ _ e, g_ne _ _ _ _ e2, g_ne _ _ _ _ e1, g_ne _ _ _ _ e]
    refine ⟨_, u1, u2, aSetV A (vHou (aV A) x1 x2), ec, ?_, hA', hL', C1.fr hA' hL' ⟨fun a j e => fr2 _ _ (by omega) (by omega) (by omega), fun a j => by rw [← hu2]; rfl, fun j => by rw [← hu2]; rfl⟩, R1.setV (fun a j e1 e2 => fr2 _ _ (by omega) (by omega) (by omega)) (fun j => by rw [← hu2]; rfl) ⟨?_, ?_, fun j hj => ?_, fun h hh => ?_, ?_, ?_⟩⟩
    · rw [er, n1.inj m1]
    · rw [← hu2, g_same]; exact m1.succ (by omega)
    · rw [fr2 _ _ (by decide) (by decide) (by decide)]; exact m34
    · have hj : j < vlR (aV A) := hj; omega
    · have hh : h < vlN (aV A) + 1 := hh
      show gI u2 189 h = upf (vlS (aV A)) (vlN (aV A)) x1 h ∧ gI u2 190 h = upf (vlB (aV A)) (vlN (aV A)) x2 h
      rw [← hu2, g_ne _ _ _ _ (show 189 ≠ 167 by decide), g_ne _ _ _ _ (show 189 ≠ 190 by decide), g_ne _ _ _ _ (show 190 ≠ 167 by decide), g_at, g_at, g_ne _ _ _ _ (show 190 ≠ 189 by decide), g_ne _ _ _ _ (show 189 ≠ 167 by decide), g_ne _ _ _ _ (show 190 ≠ 167 by decide)]
      unfold upf
      by_cases e : h = vlN (aV A)
      · rw [if_pos e, if_pos e, if_pos e, if_pos e]; exact ⟨rfl, rfl⟩
      · rw [if_neg e, if_neg e, if_neg e, if_neg e]; exact R1.1.2.2.2.1 h (by omega)
    · rw [fr2 _ _ (by decide) (by decide) (by decide)]; exact R1.1.2.2.2.2.1
    · rw [fr2 _ _ (by decide) (by decide) (by decide)]; exact R1.1.2.2.2.2.2
  · rw [if_neg g]
    refine ⟨-1, u, sI u 167 0 0, A, rfl, ?_, hI⟩
    have q31 : gI (sI u 167 0 0) 167 31 = gI u 167 31 := g_nk _ _ _ (by decide)
    have q34 : gI (sI u 167 0 0) 167 34 = gI u 167 34 := g_nk _ _ _ (by decide)
    have q22 : gI (sI u 167 0 0) 167 22 = gI u 167 22 := g_nk _ _ _ (by decide)
    have q25 : gI (sI u 167 0 0) 167 25 = gI u 167 25 := g_nk _ _ _ (by decide)
    have m1 := hR.1.1
    have m34 := hR.1.2.1
    have m22 := hR.2.1.1
    have m25 := hR.2.2.2.2.1
    rw [F_X12_house, q31, q34, q22, q25]
    by_cases c1 : x1 < 1
    · rw [if_pos c1]
    rw [if_neg c1]
    by_cases c2 : 1000 < x1
    · rw [if_pos c2]
    rw [if_neg c2]
    by_cases c3 : x2 < 0
    · rw [if_pos c3]
    rw [if_neg c3]
    by_cases c4 : 5000 < x2
    · rw [if_pos c4]
    rw [if_neg c4]
    by_cases c5 : gI u 167 31 = 12
    · rw [if_pos c5]
    rw [if_neg c5]
    by_cases c6 : 0 < gI u 167 34
    · rw [if_pos c6]
    rw [if_neg c6]
    by_cases c7 : 0 < gI u 167 22
    · rw [if_pos c7]
    rw [if_neg c7]
    by_cases c8 : gI u 167 25 = 0
    · refine absurd ⟨⟨?_, ?_, ?_⟩, ⟨⟨?_, ?_⟩, ?_, ?_⟩, ?_⟩ g
      · have := mt (nm0.lt m34).mpr c6; omega
      · have := mt (nm0.lt m22).mpr c7; omega
      · exact (m25.eq nm0).mp c8
      · have := mt i_lt.mpr c1; omega
      · have := mt i_lt.mpr c2; omega
      · have := mt i_lt.mpr c3; omega
      · have := mt i_lt.mpr c4; omega
      · have := mt (m1.eq (show Nm (12 : Int32) 12 from rfl)).mpr c5; omega
    · rw [if_neg c8]
end
