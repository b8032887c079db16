/-! ===== read: both alike ===== -/
section
variable {f : Nat}
theorem c_radd {u : MT} {R : Nat} {x1 x2 x3 x4 x5 : Int32} (hn : Nm (gI u 104 5) R) (hR : R < 400) : ∃ m, F_X4_add f x1 x2 x3 x4 x5 u = some m ∧ (∀ k, gI m 105 k = upf (gI u 105) R x1 k ∧ gI m 106 k = upf (gI u 106) R x2 k ∧ gI m 107 k = upf (gI u 107) R x3 k ∧ gI m 108 k = upf (gI u 108) R x4 k ∧ gI m 109 k = upf (gI u 109) R x5 k) ∧ Nm (gI m 104 5) (R + 1) ∧ (∀ a j, (a < 104 ∨ 109 < a) → gI m a j = gI u a j) ∧ (∀ a j, gK m a j = gK u a j) ∧ ∀ a j, gL m a j = gL u a j := by
  refine ⟨sI (sI (sI (sI (sI (sI u 105 R x1) 106 R x2) 107 R x3) 108 R x4) 109 R x5) 104 5 (gI u 104 5 + 1), ?_, fun k => ⟨?_, ?_, ?_, ?_, ?_⟩, ?_, fun a j h => ?_, fun _ _ => rfl, fun _ _ => rfl⟩
  · have n1 : ∀ a k v, a ≠ 104 → ∀ z : MT, gI (sI z a k v) 104 5 = gI z 104 5 := fun a k v h z => g_ne _ _ _ _ (fun e => h e.symm)
    have nx := hn.ix hR
    rw [F_X4_add, ck_p nx, hn.nat]
    dsimp only
    rw [n1 105 _ _ (by decide), ck_p nx, hn.nat]
    rw [n1 106 _ _ (by decide), n1 105 _ _ (by decide), ck_p nx, hn.nat]
    rw [n1 107 _ _ (by decide), n1 106 _ _ (by decide), n1 105 _ _ (by decide), ck_p nx, hn.nat]
    rw [n1 108 _ _ (by decide), n1 107 _ _ (by decide), n1 106 _ _ (by decide), n1 105 _ _ (by decide), ck_p nx, hn.nat]
    rw [n1 109 _ _ (by decide), n1 108 _ _ (by decide), n1 107 _ _ (by decide), n1 106 _ _ (by decide), n1 105 _ _ (by decide)]
  · rw [g_ne _ _ _ _ (by decide), g_ne _ _ _ _ (by decide), g_ne _ _ _ _ (by decide), g_ne _ _ _ _ (by decide), g_ne _ _ _ _ (by decide), g_at]; rfl
  · rw [g_ne _ _ _ _ (by decide), g_ne _ _ _ _ (by decide), g_ne _ _ _ _ (by decide), g_ne _ _ _ _ (by decide), g_at, g_ne _ _ _ _ (by decide)]; rfl
  · rw [g_ne _ _ _ _ (by decide), g_ne _ _ _ _ (by decide), g_ne _ _ _ _ (by decide), g_at, g_ne _ _ _ _ (by decide), g_ne _ _ _ _ (by decide)]; rfl
  · rw [g_ne _ _ _ _ (by decide), g_ne _ _ _ _ (by decide), g_at, g_ne _ _ _ _ (by decide), g_ne _ _ _ _ (by decide), g_ne _ _ _ _ (by decide)]; rfl
  · rw [g_ne _ _ _ _ (by decide), g_at, g_ne _ _ _ _ (by decide), g_ne _ _ _ _ (by decide), g_ne _ _ _ _ (by decide), g_ne _ _ _ _ (by decide)]; rfl
  · rw [g_same]; exact hn.succ (by omega)
  · rw [g_ne _ _ _ _ (by omega), g_ne _ _ _ _ (by omega), g_ne _ _ _ _ (by omega), g_ne _ _ _ _ (by omega), g_ne _ _ _ _ (by omega), g_ne _ _ _ _ (by omega)]
def rdT (w : LT) (f : Nat) (x1 x2 x3 x4 : Int32) (u : MT) : Option (Int32 × MT) :=
  (F_X4_add f x1 x2 x3 x4 (gI u 100 11) u).bind fun r16 =>
  (F_X1_forgetFrom f 130 128 x2 r16).bind fun r18 =>
  if (lt_p w 100 9) = 0 then some ((1 : Int32), r18) else
  ck (lt_t w (lt_p w 100 9) = 1) <|
  (F_X1_forgetFrom f (lt_p w 100 9) (lt_p w (lt_p w 100 9) 2) x2 r18).bind fun r22 => some ((1 : Int32), r22)
theorem c_read {A : AS} {c : Nat} {w : LT} {u : MT} {x1 x2 x3 x4 : Int32} (hA : AOk A c) (hC : ICl A w u) : F_X11_read w f x1 x2 x3 x4 u = if ((0 ≤ x1.toInt ∧ x1.toInt < (vlN (aV A) : Int)) ∧ (0 ≤ x2.toInt ∧ x2.toInt ≤ 239)) ∧ ((0 ≤ x3.toInt ∧ x3.toInt ≤ 5000) ∧ 0 ≤ x4.toInt ∧ x4.toInt ≤ 5000) ∧ vlR (aV A) < 400 then rdT w f x1 x2 x3 x4 u else some (0, u) := by
  have h12 := hA.1.1
  have z0 : (0 : Int32).toInt = 0 := rfl
  have z400 : (400 : Int32).toInt = 400 := rfl
  have z5000 : (5000 : Int32).toInt = 5000 := rfl
  have e4 : (gI u 104 5).toInt = (vlR (aV A) : Int) := hC.1.2.1
  have k53 : ∀ s t : Int32, B_X11_read_53 w f x1 x2 x3 x4 s t u = if ¬ s = 0 ∧ ¬ t = 0 ∧ vlR (aV A) < 400 then rdT w f x1 x2 x3 x4 u else some (0, u) := by
    intro s t
    rw [B_X11_read_53]
    by_cases c1 : s = 0
    · rw [if_pos c1, if_neg (fun e => e.1 c1)]
    · rw [if_neg c1]
      by_cases c2 : t = 0
      · rw [if_pos c2, if_neg (fun e => e.2.1 c2)]
      · rw [if_neg c2]
        by_cases c3 : gI u 104 5 < 400
        · rw [if_pos c3, if_pos ⟨c1, c2, by have := i_lt.mp c3; omega⟩]; rfl
        · rw [if_neg c3, if_neg (fun e => c3 (i_lt.mpr (by omega)))]
  have k23 : ∀ s : Int32, B_X11_read_23 w f x1 x2 x3 x4 s u = if ¬ s = 0 ∧ ((0 ≤ x3.toInt ∧ x3.toInt ≤ 5000) ∧ 0 ≤ x4.toInt ∧ x4.toInt ≤ 5000) ∧ vlR (aV A) < 400 then rdT w f x1 x2 x3 x4 u else some (0, u) := by
    intro s
    rw [B_X11_read_23, c_isIn, z0, z5000]
    by_cases c1 : 0 ≤ x3.toInt ∧ x3.toInt ≤ 5000
    · rw [b2i_t c1]
      show (F_X11_isIn f x4 0 5000 u).bind _ = _
      rw [c_isIn, z0, z5000]
      by_cases c2 : 0 ≤ x4.toInt ∧ x4.toInt ≤ 5000
      · rw [b2i_t c2]
        show B_X11_read_53 w f x1 x2 x3 x4 s 1 u = _
        rw [k53]
        by_cases c3 : ¬ s = 0 ∧ ¬ (1 : Int32) = 0 ∧ vlR (aV A) < 400
        · rw [if_pos c3, if_pos ⟨c3.1, ⟨c1, c2⟩, c3.2.2⟩]
        · rw [if_neg c3, if_neg (fun e => c3 ⟨e.1, by decide, e.2.2⟩)]
      · rw [b2i_f c2]
        show B_X11_read_52 w f x1 x2 x3 x4 s u = _
        rw [B_X11_read_52, k53, if_neg (fun e => e.2.1 rfl), if_neg (fun e => c2 e.2.1.2)]
    · rw [b2i_f c1]
      show B_X11_read_52 w f x1 x2 x3 x4 s u = _
      rw [B_X11_read_52, k53, if_neg (fun e => e.2.1 rfl), if_neg (fun e => c1 e.2.1.1)]
  rw [F_X11_read, c_has hC.1.1 h12]
  by_cases c1 : 0 ≤ x1.toInt ∧ x1.toInt < (vlN (aV A) : Int)
  · rw [b2i_t c1]
    show (F_X11_isQuarter f x2 u).bind _ = _
    rw [c_isQ]
    by_cases c2 : 0 ≤ x2.toInt ∧ x2.toInt ≤ 239
    · rw [b2i_t c2]
      show B_X11_read_23 w f x1 x2 x3 x4 1 u = _
      rw [k23]
      by_cases c3 : ¬ (1 : Int32) = 0 ∧ ((0 ≤ x3.toInt ∧ x3.toInt ≤ 5000) ∧ 0 ≤ x4.toInt ∧ x4.toInt ≤ 5000) ∧ vlR (aV A) < 400
      · rw [if_pos c3, if_pos ⟨⟨c1, c2⟩, c3.2⟩]
      · rw [if_neg c3, if_neg (fun e => c3 ⟨by decide, e.2⟩)]
    · rw [b2i_f c2]
      show B_X11_read_22 w f x1 x2 x3 x4 u = _
      rw [B_X11_read_22, k23, if_neg (fun e => e.1 rfl), if_neg (fun e => c2 e.1.2)]
  · rw [b2i_f c1]
    show B_X11_read_22 w f x1 x2 x3 x4 u = _
    rw [B_X11_read_22, k23, if_neg (fun e => e.1 rfl), if_neg (fun e => c1 e.1.1)]
theorem P_read {A : AS} {c : Nat} {w : LT} {u : MT} {x1 x2 x3 x4 : Int32} (hLay : Lay w) (h : Inv A c w u) : ∃ a u1 u2 A', F_X11_read w f x1 x2 x3 x4 u = some (a, u1) ∧ F_X12_read f x1 x2 x3 x4 u1 = some (a, u2) ∧ Inv A' (c + 1) w u2 := by
  have hI := h.thr (x := 0)
  obtain ⟨hA, hL, hC, hR⟩ := h
  have z0 : (0 : Int32).toInt = 0 := rfl
  have z239 : (239 : Int32).toInt = 239 := rfl
  have z5000 : (5000 : Int32).toInt = 5000 := rfl
  have h12 := hA.1.1
  rw [c_read hA hC]
  by_cases g : ((0 ≤ x1.toInt ∧ x1.toInt < (vlN (aV A) : Int)) ∧ (0 ≤ x2.toInt ∧ x2.toInt ≤ 239)) ∧ ((0 ≤ x3.toInt ∧ x3.toInt ≤ 5000) ∧ 0 ≤ x4.toInt ∧ x4.toInt ≤ 5000) ∧ vlR (aV A) < 400
  · rw [if_pos g]
    obtain ⟨⟨g1, g2⟩, ⟨g3, g4⟩, g5⟩ := g
    have n2 : Nm x2 x2.toNatClampNeg := Nm.of_nn g2.1
    generalize x2.toNatClampNeg = qn at n2
    have n2' : x2.toInt = (qn : Int) := n2
    have n1 : Nm x1 x1.toNatClampNeg := Nm.of_nn g1.1
    generalize x1.toNatClampNeg = hn at n1
    have n1' : x1.toInt = (hn : Int) := n1
    have eN : gI u 100 11 = aN A := hC.2.2.2.1
    obtain ⟨m1, e1, k1, k2, k3, k4, k5⟩ := c_radd (f := f) (x1 := x1) (x2 := x2) (x3 := x3) (x4 := x4) (x5 := aN A) hC.1.2.1 g5
    have ob := hL.ob hA
    -- the class's memory behind it
    have cls : ∃ u1, rdT w f x1 x2 x3 x4 u = some (1, u1) ∧ (∀ a j, (a ≠ 130 ∨ j ≠ 5) → a ≠ lt_p w 100 9 → gI u1 a j = gI m1 a j) ∧ (∀ a j, gK u1 a j = gK u a j) ∧ (∀ a j, gL u1 a j = gL u a j) ∧ gI u1 130 5 = (if x2 < gI u 130 5 then x2 else gI u 130 5) ∧ (xtT (aY A) = 1 → gI u1 (lt_p w 100 9) 5 = (if x2 < gI u (lt_p w 100 9) 5 then x2 else gI u (lt_p w 100 9) 5) ∧ ∀ j, j ≠ 5 → gI u1 (lt_p w 100 9) j = gI u (lt_p w 100 9) j) := by
      have q5 : gI m1 130 5 = gI u 130 5 := k3 _ _ (by decide)
      rw [rdT, eN, e1]
      rcases ob with e | ⟨ey, e, e'⟩
      · refine ⟨sI m1 130 5 (if x2 < gI u 130 5 then x2 else gI u 130 5), ?_, fun a j h1 h2 => ?_, fun a j => k4 a j, fun a j => k5 a j, g_same _ _ _ _, fun ey => ?_⟩
        · rw [Option.bind_some, F_X1_forgetFrom, q5]
          show (if lt_p w 100 9 = 0 then some ((1 : Int32), sI m1 130 5 (if x2 < gI u 130 5 then x2 else gI u 130 5)) else _) = _
          rw [if_pos e]
        · by_cases e2 : a = 130
          · subst e2; exact g_nk _ _ _ (h1.resolve_left (fun c => c rfl))
          · exact g_ne _ _ _ _ e2
        · have := (hL.2.2.2.1 ey).2.2.2.2; omega
      · have qo : gI (sI m1 130 5 (if x2 < gI u 130 5 then x2 else gI u 130 5)) (lt_p w 100 9) 5 = gI u (lt_p w 100 9) 5 := by rw [g_ne _ _ _ _ (by omega)]; exact k3 _ _ (by omega)
        refine ⟨sI (sI m1 130 5 (if x2 < gI u 130 5 then x2 else gI u 130 5)) (lt_p w 100 9) 5 (if x2 < gI u (lt_p w 100 9) 5 then x2 else gI u (lt_p w 100 9) 5), ?_, fun a j h1 h2 => ?_, fun a j => k4 a j, fun a j => k5 a j, ?_, fun _ => ⟨g_same _ _ _ _, fun j hj => ?_⟩⟩
        · rw [Option.bind_some, F_X1_forgetFrom, q5]
          show (if lt_p w 100 9 = 0 then some ((1 : Int32), sI m1 130 5 (if x2 < gI u 130 5 then x2 else gI u 130 5)) else ck (lt_t w (lt_p w 100 9) = 1) ((F_X1_forgetFrom f (lt_p w 100 9) (lt_p w (lt_p w 100 9) 2) x2 (sI m1 130 5 (if x2 < gI u 130 5 then x2 else gI u 130 5))).bind fun r22 => some ((1 : Int32), r22))) = _
          rw [if_neg (by omega), ck_p e', F_X1_forgetFrom, qo]; rfl
        · rw [g_ne _ _ _ _ h2]
          by_cases e2 : a = 130
          · subst e2; exact g_nk _ _ _ (h1.resolve_left (fun c => c rfl))
          · exact g_ne _ _ _ _ e2
        · rw [g_ne _ _ _ _ (by omega), g_same]
        · rw [g_nk _ _ _ hj, g_ne _ _ _ _ (by omega)]; exact k3 _ _ (by omega)
    obtain ⟨u1, ec, d1, d2, d3, d4, d5⟩ := cls
    have lo : ∀ a, 0 < a → a < 216 → a ≠ lt_p w 100 9 := fun a h1 h2 => by rcases ob with e | ⟨_, e, _⟩ <;> omega
    have hV' : VOk (vRea (aV A) x1 x2 x3 x4 (aN A)) := by
      obtain ⟨V1, V2, V3, V4⟩ := hA.1
      refine ⟨V1, g5, fun j hj => ?_, V4⟩
      have hj : j < vlR (aV A) + 1 := hj
      show (∃ h q, Nm (upf (vlH (aV A)) (vlR (aV A)) x1 j) h ∧ h < vlN (aV A) ∧ Nm (upf (vlQ (aV A)) (vlR (aV A)) x2 j) q ∧ q < 240) ∧ 0 ≤ (upf (vlW (aV A)) (vlR (aV A)) x3 j).toInt ∧ (upf (vlW (aV A)) (vlR (aV A)) x3 j).toInt ≤ 5000 ∧ 0 ≤ (upf (vlG (aV A)) (vlR (aV A)) x4 j).toInt ∧ (upf (vlG (aV A)) (vlR (aV A)) x4 j).toInt ≤ 5000
      by_cases e : j = vlR (aV A)
      · rw [e, upf_same, upf_same, upf_same, upf_same]
        exact ⟨⟨hn, qn, n1, by omega, n2, by omega⟩, g3.1, g3.2, g4.1, g4.2⟩
      · rw [upf_ne e, upf_ne e, upf_ne e, upf_ne e]; exact V3 j (by omega)
    have hA' : AOk (aSetV A (vRea (aV A) x1 x2 x3 x4 (aN A))) (c + 1) := by
      obtain ⟨b1, b2, b3, b4, b5, b6, b7, b8⟩ := hA
      exact ⟨hV', b2, b3, b4, b5, b6, by show (aN A).toInt ≤ _; omega, b8⟩
    have hL' : LOk (aSetV A (vRea (aV A) x1 x2 x3 x4 (aN A))) w := hL
    have rd : ∀ j, j < vlR (aV A) + 1 → ∀ {cel : Nat → Int32} {fn : Nat → Int32} {x : Int32} {R' : Nat → Int32}, (∀ k, cel k = upf R' (vlR (aV A)) x k) → (∀ k, k < vlR (aV A) → R' k = fn k) → cel j = upf fn (vlR (aV A)) x j := by
      intro j hj cel fn x R' h1 h2
      rw [h1]
      by_cases e : j = vlR (aV A)
      · rw [e, upf_same, upf_same]
      · rw [upf_ne e, upf_ne e, h2 j (by omega)]
    have C1 : ICl (aSetV A (vRea (aV A) x1 x2 x3 x4 (aN A))) w u1 := by
      refine hC.setV hLay hA hL (fun a j e1 e2 e3 => by rw [d1 _ _ e2 e3]; exact k3 _ _ (by omega)) d2 ⟨?_, ?_, fun j hj => ⟨?_, ?_, ?_, ?_, ?_⟩, fun h hh => ?_, ?_, ?_⟩ ?_ ?_
      · rw [d1 _ _ (by decide) (lo _ (by decide) (by decide)), k3 _ _ (by decide)]; exact hC.1.1
      · rw [d1 _ _ (by decide) (lo _ (by decide) (by decide))]; exact k2
      · exact rd j hj (fun k => by rw [d1 _ _ (by omega) (lo _ (by decide) (by decide))]; exact (k1 k).1) (fun k hk => (hC.1.2.2.1 k hk).1)
      · exact rd j hj (fun k => by rw [d1 _ _ (by omega) (lo _ (by decide) (by decide))]; exact (k1 k).2.1) (fun k hk => (hC.1.2.2.1 k hk).2.1)
      · exact rd j hj (fun k => by rw [d1 _ _ (by omega) (lo _ (by decide) (by decide))]; exact (k1 k).2.2.1) (fun k hk => (hC.1.2.2.1 k hk).2.2.1)
      · exact rd j hj (fun k => by rw [d1 _ _ (by omega) (lo _ (by decide) (by decide))]; exact (k1 k).2.2.2.1) (fun k hk => (hC.1.2.2.1 k hk).2.2.2.1)
      · exact rd j hj (fun k => by rw [d1 _ _ (by omega) (lo _ (by decide) (by decide))]; exact (k1 k).2.2.2.2) (fun k hk => (hC.1.2.2.1 k hk).2.2.2.2)
      · rw [d1 _ _ (by omega) (lo _ (by decide) (by decide)), d1 _ _ (by omega) (lo _ (by decide) (by decide)), k3 _ _ (by decide), k3 _ _ (by decide)]; exact hC.1.2.2.2.1 h hh
      · rw [d1 _ _ (by decide) (lo _ (by decide) (by decide)), k3 _ _ (by decide)]; exact hC.1.2.2.2.2.1
      · rw [d1 _ _ (by decide) (lo _ (by decide) (by decide)), k3 _ _ (by decide)]; exact hC.1.2.2.2.2.2
      · refine Bkk.cut hC.2.2.2.2.2.2.2.2.2.1 n2 ?_ d4 (fun a j h1 h2 => ?_) rfl rfl rfl (fun d k hk hk2 => tri_read3 n2 (by omega) d k hk hk2)
        · rw [d1 _ _ (by decide) (lo _ (by decide) (by decide))]; exact k3 _ _ (by decide)
        · rw [d1 _ _ (by omega) (lo _ (by omega) (by omega))]; exact k3 _ _ (by omega)
      · intro ey
        obtain ⟨d6, d7⟩ := d5 ey
        have o2 := (hL.2.2.2.1 ey).2.2.2.2
        refine Bkk.cut (hC.2.2.2.2.2.2.2.2.2.2 ey) n2 (d7 4 (by decide)) d6 (fun a j h1 h2 => ?_) rfl rfl rfl (fun d k hk hk2 => tri_read3 n2 (by omega) d k hk hk2)
        rw [d1 _ _ (by omega) (by omega)]; exact k3 _ _ (by omega)
    have R1 : IRf A u1 := hR.fr ⟨fun a j e1 e2 => by rw [d1 _ _ (by omega) (lo _ (by omega) (by omega))]; exact k3 _ _ (by omega), fun j => d3 _ _⟩
    have m34 := R1.1.2.1
    have m31 : (gI u1 167 31).toInt = (vlN (aV A) : Int) := R1.1.1
    have m40 : gI u1 167 40 = aN A := R1.2.2.2.2.2.1
    have er : F_X12_read f x1 x2 x3 x4 u1 = some (1, sI (sI (sI (sI (sI (sI (sI u1 167 0 0) 191 (vlR (aV A)) x1) 192 (vlR (aV A)) x2) 193 (vlR (aV A)) x3) 194 (vlR (aV A)) x4) 195 (vlR (aV A)) (aN A)) 167 34 (gI u1 167 34 + 1)) := by
      have q : ∀ j, j ≠ 0 → gI (sI u1 167 0 0) 167 j = gI u1 167 j := fun j hj => g_nk _ _ _ hj
      have p : ∀ a k v j, a ≠ 167 → ∀ z : MT, gI (sI z a k v) 167 j = gI z 167 j := fun a k v j h z => g_ne _ _ _ _ (fun e => h e.symm)
      have nx := m34.ix g5
      rw [F_X12_read]
      dsimp only
      rw [q 31 (by decide), q 34 (by decide), if_neg (fun e => by have := i_lt.mp e; omega), if_neg (fun e => by have := i_le.mp e; omega), if_neg (fun e => by have := i_lt.mp e; omega), if_neg (fun e => by have := i_lt.mp e; omega), if_neg (fun e => by have := i_lt.mp e; omega), if_neg (fun e => by have := i_lt.mp e; omega), if_neg (fun e => by have := i_lt.mp e; omega), if_neg (fun e => by have := i_lt.mp e; omega), if_neg (fun e => by have := (m34.eq (show Nm (400 : Int32) 400 from rfl)).mp e; omega), ck_p nx, m34.nat]
      rw [p 191 _ _ _ (by decide), q 34 (by decide), ck_p nx, m34.nat]
      rw [p 192 _ _ _ (by decide), p 191 _ _ _ (by decide), q 34 (by decide), ck_p nx, m34.nat]
      rw [p 193 _ _ _ (by decide), p 192 _ _ _ (by decide), p 191 _ _ _ (by decide), q 34 (by decide), ck_p nx, m34.nat]
      rw [p 194 _ _ _ (by decide), p 193 _ _ _ (by decide), p 192 _ _ _ (by decide), p 191 _ _ _ (by decide), q 34 (by decide), ck_p nx, m34.nat]
      rw [p 195 _ _ _ (by decide), p 194 _ _ _ (by decide), p 194 _ _ _ (by decide), p 193 _ _ _ (by decide), p 193 _ _ _ (by decide), p 192 _ _ _ (by decide), p 192 _ _ _ (by decide), p 191 _ _ _ (by decide), p 191 _ _ _ (by decide), q 34 (by decide), q 40 (by decide), m40]
    generalize hu2 : sI (sI (sI (sI (sI (sI (sI u1 167 0 0) 191 (vlR (aV A)) x1) 192 (vlR (aV A)) x2) 193 (vlR (aV A)) x3) 194 (vlR (aV A)) x4) 195 (vlR (aV A)) (aN A)) 167 34 (gI u1 167 34 + 1) = u2 at er
    have fr2 : ∀ a j, (a < 191 ∨ 195 < a) → (a ≠ 167 ∨ (j ≠ 0 ∧ j ≠ 34)) → gI u2 a j = gI u1 a j := fun a j e1 e3 => by
      rw [← hu2]
      by_cases e : a = 167
      · subst e; rw [g_nk _ _ _ (by omega), g_ne _ _ _ _ (by decide), g_ne _ _ _ _ (by decide), g_ne _ _ _ _ (by decide), g_ne _ _ _ _ (by decide), g_ne _ _ _ _ (by decide), g_nk _ _ _ (by omega)]
      · rw [g_ne _ _ _ _ e, g_ne _ _ _ _ (by omega), g_ne _ _ _ _ (by omega), g_ne _ _ _ _ (by omega), g_ne _ _ _ _ (by omega), g_ne _ _ _ _ (by omega), g_ne _ _ _ _ e]
    refine ⟨1, u1, u2, aSetV A (vRea (aV A) x1 x2 x3 x4 (aN A)), ec, er, hA', hL', C1.fr hA' hL' ⟨fun a j e => fr2 _ _ (by omega) (by omega), fun a j => by rw [← hu2]; rfl, fun j => by rw [← hu2]; rfl⟩, R1.setV (fun a j e1 e2 => fr2 _ _ (by omega) (by omega)) (fun j => by rw [← hu2]; rfl) ⟨?_, ?_, fun j hj => ⟨?_, ?_, ?_, ?_, ?_⟩, fun h hh => ?_, ?_, ?_⟩⟩
    · rw [fr2 _ _ (by decide) (by decide)]; exact R1.1.1
    · rw [← hu2, g_same]; exact m34.succ (by omega)
    · exact rd j hj (fun k => by rw [← hu2, g_ne _ _ _ _ (by decide), g_ne _ _ _ _ (by decide), g_ne _ _ _ _ (by decide), g_ne _ _ _ _ (by decide), g_ne _ _ _ _ (by decide), g_at, g_ne _ _ _ _ (by decide)]; rfl) (fun k hk => (R1.1.2.2.1 k hk).1)
    · exact rd j hj (fun k => by rw [← hu2, g_ne _ _ _ _ (by decide), g_ne _ _ _ _ (by decide), g_ne _ _ _ _ (by decide), g_ne _ _ _ _ (by decide), g_at, g_ne _ _ _ _ (by decide), g_ne _ _ _ _ (by decide)]; rfl) (fun k hk => (R1.1.2.2.1 k hk).2.1)
    · exact rd j hj (fun k => by rw [← hu2, g_ne _ _ _ _ (by decide), g_ne _ _ _ _ (by decide), g_ne _ _ _ _ (by decide), g_at, g_ne _ _ _ _ (by decide), g_ne _ _ _ _ (by decide), g_ne _ _ _ _ (by decide)]; rfl) (fun k hk => (R1.1.2.2.1 k hk).2.2.1)
    · exact rd j hj (fun k => by rw [← hu2, g_ne _ _ _ _ (by decide), g_ne _ _ _ _ (by decide), g_at, g_ne _ _ _ _ (by decide), g_ne _ _ _ _ (by decide), g_ne _ _ _ _ (by decide), g_ne _ _ _ _ (by decide)]; rfl) (fun k hk => (R1.1.2.2.1 k hk).2.2.2.1)
    · exact rd j hj (fun k => by rw [← hu2, g_ne _ _ _ _ (by decide), g_at, g_ne _ _ _ _ (by decide), g_ne _ _ _ _ (by decide), g_ne _ _ _ _ (by decide), g_ne _ _ _ _ (by decide), g_ne _ _ _ _ (by decide)]; rfl) (fun k hk => (R1.1.2.2.1 k hk).2.2.2.2)
    · rw [fr2 _ _ (by omega) (by omega), fr2 _ _ (by omega) (by omega)]; exact R1.1.2.2.2.1 h hh
    · rw [fr2 _ _ (by decide) (by decide)]; exact R1.1.2.2.2.2.1
    · rw [fr2 _ _ (by decide) (by decide)]; exact R1.1.2.2.2.2.2
  · rw [if_neg g]
    refine ⟨0, u, sI u 167 0 0, A, rfl, ?_, hI⟩
    have q31 : gI (sI u 167 0 0) 167 31 = gI u 167 31 := g_nk _ _ _ (by decide)
    have q34 : gI (sI u 167 0 0) 167 34 = gI u 167 34 := g_nk _ _ _ (by decide)
    have m1 : (gI u 167 31).toInt = (vlN (aV A) : Int) := hR.1.1
    have m34 := hR.1.2.1
    have V2 := hA.1.2.1
    rw [F_X12_read, q31, q34]
    by_cases c1 : x1 < 0
    · rw [if_pos c1]
    rw [if_neg c1]
    by_cases c2 : gI u 167 31 ≤ x1
    · rw [if_pos c2]
    rw [if_neg c2]
    by_cases c3 : x2 < 0
    · rw [if_pos c3]
    rw [if_neg c3]
    by_cases c4 : 239 < x2
    · rw [if_pos c4]
    rw [if_neg c4]
    by_cases c5 : x3 < 0
    · rw [if_pos c5]
    rw [if_neg c5]
    by_cases c6 : 5000 < x3
    · rw [if_pos c6]
    rw [if_neg c6]
    by_cases c7 : x4 < 0
    · rw [if_pos c7]
    rw [if_neg c7]
    by_cases c8 : 5000 < x4
    · rw [if_pos c8]
    rw [if_neg c8]
    by_cases c9 : gI u 167 34 = 400
    · rw [if_pos c9]
    refine absurd ⟨⟨⟨?_, ?_⟩, ?_, ?_⟩, ⟨⟨?_, ?_⟩, ?_, ?_⟩, ?_⟩ g
    · have := mt i_lt.mpr c1; omega
    · have := mt i_le.mpr c2; omega
    · have := mt i_lt.mpr c3; omega
    · have := mt i_lt.mpr c4; omega
    · have := mt i_lt.mpr c5; omega
    · have := mt i_lt.mpr c6; omega
    · have := mt i_lt.mpr c7; omega
    · have := mt i_lt.mpr c8; omega
    · have := mt (m34.eq (show Nm (400 : Int32) 400 from rfl)).mpr c9; omega
end
