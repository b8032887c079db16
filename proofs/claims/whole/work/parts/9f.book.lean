/-! ===== what a Book answers ===== -/
def dbt (V : VD) (d : Int32) (q h : Nat) : Int32 := if (tla V d q h).isSome then 0 else 1
def hadV (V : VD) (X : XD) (d : Int32) (q h : Nat) (x : Int32) : Int32 :=
  if x = 0 then tw V d q h else if x = 1 then tg V d q h else if x = 2 then own (tw V d q h) (tg V d q h) else if x = 3 then qA (tS V X d q) h else if x = 4 then qB (tS V X d q) h else if x = 5 then room (tS V X d q) h else if x = 6 then qW (tS V X d q) h - room (tS V X d q) h else if x = 7 then dbt V d q h else tcn V X d h q
theorem tri_q {V : VD} {d : Int32} {h r : Nat} : ∀ q, tri V d q h = some r → ∃ q', q' ≤ q ∧ vlQ V r = Int32.ofNat q' := by
  intro q
  induction q with
  | zero =>
    intro e
    rw [tri] at e
    cases e2 : tla V d 0 h with
    | none => rw [e2] at e; cases e
    | some r' => rw [e2] at e; cases e; exact ⟨0, Nat.le_refl _, (lasR_lt _ e2).2.1⟩
  | succ q ih =>
    intro e
    rw [tri] at e
    cases e2 : tla V d (q + 1) h with
    | none => rw [e2] at e; obtain ⟨q', h1, h2⟩ := ih e; exact ⟨q', by omega, h2⟩
    | some r' => rw [e2] at e; cases e; exact ⟨q + 1, Nat.le_refl _, (lasR_lt _ e2).2.1⟩
theorem ring_l {w o a b s : Int32} (h : s + a + b = w - o) : w - o - a - b = s := by grind
theorem ring_b {e a b s : Int32} (h : s + a + b = e) : e - a - b = s := by grind
theorem ring_c {a b r g p q s : Int32} : (a - g) * p + b * q + r * s = a * p + b * q + r * s - g * p := by grind
section
variable {f : Nat}
theorem c_has {u : MT} {x : Int32} {n : Nat} (hn : Nm (gI u 101 2) n) (h12 : n ≤ 12) : F_X2_has f x u = some (b2i (0 ≤ x.toInt ∧ x.toInt < (n : Int)), u) := by
  have hn : (gI u 101 2).toInt = (n : Int) := hn
  have z1 : (1 : Int32).toInt = 1 := rfl
  have z0 : (0 : Int32).toInt = 0 := rfl
  have e : (gI u 101 2 - 1).toInt = (n : Int) - 1 := by rw [i_sub (by omega) (by omega)]; omega
  rw [F_X2_has, c_isIn]
  by_cases g : 0 ≤ x.toInt ∧ x.toInt < (n : Int)
  · rw [b2i_t (by rw [e, z0]; omega), b2i_t g]
    show ck ((1 : Int32) = 0 ∨ (1 : Int32) = 1) _ = _
    rw [ck_p (Or.inr rfl)]
  · rw [b2i_f (by rw [e, z0]; omega), b2i_f g]
    show ck ((0 : Int32) = 0 ∨ (0 : Int32) = 1) _ = _
    rw [ck_p (Or.inl rfl)]
theorem c_isQ {u : MT} {x : Int32} : F_X11_isQuarter f x u = some (b2i (0 ≤ x.toInt ∧ x.toInt ≤ 239), u) := by
  have z1 : (239 : Int32).toInt = 239 := rfl
  have z0 : (0 : Int32).toInt = 0 := rfl
  rw [F_X11_isQuarter, c_isIn, z0, z1]
  by_cases g : 0 ≤ x.toInt ∧ x.toInt ≤ 239
  · rw [b2i_t g]
    show ck ((1 : Int32) = 0 ∨ (1 : Int32) = 1) _ = _
    rw [ck_p (Or.inr rfl)]
  · rw [b2i_f g]
    show ck ((0 : Int32) = 0 ∨ (0 : Int32) = 1) _ = _
    rw [ck_p (Or.inl rfl)]
/-- the leaves of a Book at a house in a quarter -/
theorem c_leaves {V : VD} {X : XD} {d : Int32} {u : MT} {b ts q h : Nat} {x1 x2 : Int32} (hV : VOk V) (hC : VC V u) (hB : Brow V X d b q u) (hx1 : Nm x1 h) (hh : h < vlN V) (hx2 : Nm x2 q) (hq : q < 240) :
    F_X1_wants f b ts (x2 * 12 + x1) u = some (tw V d q h, u) ∧ F_X1_gives f b ts (x2 * 12 + x1) u = some (tg V d q h, u) ∧ F_X1_own f b ts (x2 * 12 + x1) u = some (own (tw V d q h) (tg V d q h), u) ∧ F_X1_lacked f b ts (x2 * 12 + x1) u = some (qW (tS V X d q) h, u) ∧ F_X1_bought f b ts x1 (x2 * 12 + x1) u = some (room (tS V X d q) h, u) ∧ F_X1_isInDoubt f b ts (x2 * 12 + x1) x2 u = some (dbt V d q h, u) ∧ F_X1_coins f b ts x1 x2 u = some (tcn V X d h q, u) := by
  have h12 := hV.1
  have nc : Nm (x2 * 12 + x1) (q * 12 + h) := (hx2.mul (show Nm (12 : Int32) 12 from rfl) (by omega)).add hx1 (by omega)
  obtain ⟨B1, B2⟩ := hB
  obtain ⟨k1, k2, k3, k4⟩ := B1 h hh
  obtain ⟨C1, C2, C3, C4, C5, C6⟩ := hC
  have hR4 := hV.2.1
  have w1 : F_X1_wants f b ts (x2 * 12 + x1) u = some (tw V d q h, u) := c_bwants nc (by omega) k1 (fun r e => ⟨by have := (tri_lt q e).1; omega, (C3 r (tri_lt q e).1).2.2.1⟩)
  have w2 : F_X1_gives f b ts (x2 * 12 + x1) u = some (tg V d q h, u) := c_bgives nc (by omega) k1 (fun r e => ⟨by have := (tri_lt q e).1; omega, (C3 r (tri_lt q e).1).2.2.2.1⟩)
  have w3 : F_X1_own f b ts (x2 * 12 + x1) u = some (own (tw V d q h) (tg V d q h), u) := by
    rw [F_X1_own, w1]
    show (F_X1_gives f b ts (x2 * 12 + x1) u).bind _ = _
    rw [w2]; rfl
  obtain ⟨ok1, ok2⟩ := tS_ok (X := X) (d := d) hV q
  obtain ⟨i1, i2⟩ := ok2.1 h hh
  have w4 : F_X1_lacked f b ts (x2 * 12 + x1) u = some (qW (tS V X d q) h, u) := by
    rw [F_X1_lacked, w1]
    show (F_X1_own f b ts (x2 * 12 + x1) u).bind _ = _
    rw [w3]
    show ck _ (some (tw V d q h - own (tw V d q h) (tg V d q h) - gI u (b + 2) (x2 * 12 + x1).toNatClampNeg - gI u (b + 3) (x2 * 12 + x1).toNatClampNeg, u)) = _
    rw [ck_p (nc.ix (by omega)), nc.nat, k2, k3, ring_l i1]
  have w5 : F_X1_bought f b ts x1 (x2 * 12 + x1) u = some (room (tS V X d q) h, u) := by
    rw [F_X1_bought, w4]
    show ck _ (ck _ (some ((if gI u 103 x1.toNatClampNeg - gI u (b + 2) (x2 * 12 + x1).toNatClampNeg - gI u (b + 3) (x2 * 12 + x1).toNatClampNeg < qW (tS V X d q) h then gI u 103 x1.toNatClampNeg - gI u (b + 2) (x2 * 12 + x1).toNatClampNeg - gI u (b + 3) (x2 * 12 + x1).toNatClampNeg else qW (tS V X d q) h), u))) = _
    rw [ck_p (hx1.ix (by omega)), ck_p (nc.ix (by omega)), nc.nat, hx1.nat, k2, k3, (C4 h hh).2, ring_b i2]
    unfold room
    by_cases c : qL (tS V X d q) h < qW (tS V X d q) h
    · rw [if_pos c, if_pos (i_le.mpr (by have := i_lt.mp c; omega))]
    · rw [if_neg c]
      by_cases c2 : qL (tS V X d q) h ≤ qW (tS V X d q) h
      · rw [if_pos c2, Int32.toInt_inj.mp (by have := mt i_lt.mpr c; have := i_le.mp c2; omega : (qL (tS V X d q) h).toInt = (qW (tS V X d q) h).toInt)]
      · rw [if_neg c2]
  have w6 : F_X1_isInDoubt f b ts (x2 * 12 + x1) x2 u = some (dbt V d q h, u) := by
    rw [F_X1_isInDoubt, ck_p (nc.ix (by omega)), nc.nat, k1]
    unfold dbt
    have ex2 : x2 = Int32.ofNat q := hx2.inj (Nm.of (by omega))
    cases e : tla V d q h with
    | some r =>
      have et : tri V d q h = some r := by rw [tri_eq, e]; rfl
      obtain ⟨l1, l2, _, _⟩ := lasR_lt _ e
      have n1 : Nm (txC (some r)) r := Nm.of (by omega)
      rw [et, if_neg (txC_nn (by omega)), ck_p (n1.ix (by omega)), n1.nat, (C3 r l1).2.1, l2, if_pos ex2.symm]; rfl
    | none =>
      cases et : tri V d q h with
      | none => rw [if_pos (show txC none = -1 from rfl)]; rfl
      | some r =>
        have l1 := (tri_lt q et).1
        have n1 : Nm (txC (some r)) r := Nm.of (by omega)
        rw [if_neg (txC_nn (by omega)), ck_p (n1.ix (by omega)), n1.nat, (C3 r l1).2.1, if_neg]; · rfl
        intro c
        rw [tri_eq, e, rdx] at et
        by_cases q0 : q = 0
        · rw [if_pos q0] at et; cases et
        · rw [if_neg q0] at et
          obtain ⟨q1, rfl⟩ : ∃ q1, q = q1 + 1 := ⟨q - 1, by omega⟩
          obtain ⟨q', g1, g2⟩ := tri_q q1 et
          rw [g2, ex2] at c
          have m1 : (Int32.ofNat q').toInt = (q' : Int) := Nm.of (by omega)
          have m2 : (Int32.ofNat (q1 + 1)).toInt = ((q1 + 1 : Nat) : Int) := Nm.of (by omega)
          rw [c, m2] at m1
          omega
  refine ⟨w1, w2, w3, w4, w5, w6, ?_⟩
  rw [F_X1_coins, F_X1_cell]
  show (F_X1_gives f b ts (x2 * 12 + x1) u).bind _ = _
  rw [w2]
  show (F_X1_own f b ts (x2 * 12 + x1) u).bind _ = _
  rw [w3]
  show ck (ixo (x2 * 12 + x1) 2880) ((F_X1_sum f b ts x2 10 u).bind _) = _
  rw [ck_p (nc.ix (by omega)), c_bsum hx2 hq (show Nm (10 : Int32) 10 from rfl) (by decide)]
  show (F_X1_sum f b ts x2 11 u).bind _ = _
  rw [c_bsum hx2 hq (show Nm (11 : Int32) 11 from rfl) (by decide)]
  show (F_X1_bought f b ts x1 (x2 * 12 + x1) u).bind _ = _
  rw [w5]
  show (F_X1_sum f b ts x2 12 u).bind _ = _
  rw [c_bsum hx2 hq (show Nm (12 : Int32) 12 from rfl) (by decide)]
  show some ((gI u (b + 2) (x2 * 12 + x1).toNatClampNeg - (tg V d q h - own (tw V d q h) (tg V d q h))) * gI u (b + 5) (q * 14 + 10) + gI u (b + 3) (x2 * 12 + x1).toNatClampNeg * gI u (b + 5) (q * 14 + 11) + room (tS V X d q) h * gI u (b + 5) (q * 14 + 12), u) = _
  rw [nc.nat, k2, k3, B2 10 (by decide), B2 11 (by decide), B2 12 (by decide), ring_c]
  rfl
theorem c_ofHouse {V : VD} {X : XD} {d : Int32} {u : MT} {b ts q h : Nat} {x1 x2 x3 : Int32} (hV : VOk V) (hC : VC V u) (hB : Brow V X d b q u) (hx1 : Nm x1 h) (hh : h < vlN V) (hx2 : Nm x2 q) (hq : q < 240) : F_X1_ofHouse f b ts x1 x2 x3 u = some (hadV V X d q h x3, u) := by
  have h12 := hV.1
  have nc : Nm (x2 * 12 + x1) (q * 12 + h) := (hx2.mul (show Nm (12 : Int32) 12 from rfl) (by omega)).add hx1 (by omega)
  obtain ⟨w1, w2, w3, w4, w5, w6, w7⟩ := c_leaves (f := f) (ts := ts) hV hC hB hx1 hh hx2 hq
  obtain ⟨k1, k2, k3, k4⟩ := hB.1 h hh
  rw [F_X1_ofHouse, F_X1_cell]
  show (if x3 = 0 then (F_X1_wants f b ts (x2 * 12 + x1) u).bind _ else _) = _
  unfold hadV
  by_cases c0 : x3 = 0
  · rw [if_pos c0, if_pos c0, w1]; rfl
  rw [if_neg c0, if_neg c0]
  by_cases c1 : x3 = 1
  · rw [if_pos c1, if_pos c1]; show (F_X1_gives f b ts (x2 * 12 + x1) u).bind _ = _; rw [w2]; rfl
  rw [if_neg c1, if_neg c1]
  by_cases c2 : x3 = 2
  · rw [if_pos c2, if_pos c2]; show (F_X1_own f b ts (x2 * 12 + x1) u).bind _ = _; rw [w3]; rfl
  rw [if_neg c2, if_neg c2]
  by_cases c3 : x3 = 3
  · rw [if_pos c3, if_pos c3]; show ck (ixo (x2 * 12 + x1) 2880) (some (gI u (b + 2) (x2 * 12 + x1).toNatClampNeg, u)) = _; rw [ck_p (nc.ix (by omega)), nc.nat, k2]
  rw [if_neg c3, if_neg c3]
  by_cases c4 : x3 = 4
  · rw [if_pos c4, if_pos c4]; show ck (ixo (x2 * 12 + x1) 2880) (some (gI u (b + 3) (x2 * 12 + x1).toNatClampNeg, u)) = _; rw [ck_p (nc.ix (by omega)), nc.nat, k3]
  rw [if_neg c4, if_neg c4]
  by_cases c5 : x3 = 5
  · rw [if_pos c5, if_pos c5]; show (F_X1_bought f b ts x1 (x2 * 12 + x1) u).bind _ = _; rw [w5]; rfl
  rw [if_neg c5, if_neg c5]
  by_cases c6 : x3 = 6
  · rw [if_pos c6, if_pos c6]; show (F_X1_lacked f b ts (x2 * 12 + x1) u).bind _ = _; rw [w4]
    show (F_X1_bought f b ts x1 (x2 * 12 + x1) u).bind _ = _
    rw [w5]; rfl
  rw [if_neg c6, if_neg c6]
  by_cases c7 : x3 = 7
  · rw [if_pos c7, if_pos c7]; show (F_X1_isInDoubt f b ts (x2 * 12 + x1) x2 u).bind _ = _; rw [w6]
    unfold dbt
    cases (tla V d q h).isSome <;> rfl
  rw [if_neg c7, if_neg c7]
  show (F_X1_coins f b ts x1 x2 u).bind _ = _
  rw [w7]; rfl
end
