/-! ===== bill, bills: both alike ===== -/
def bSum (A : AS) (k : Nat) : Int32 := sm (fun d => aL A (14 * d + k)) (aB A)
def bVal (A : AS) (k : Nat) : Int32 := if k < vlN (aV A) then sm (tcn (aV A) (aX A) (aN A) k) (24 * aB A + 24) else if k < 12 then 0 else if k = 12 then sm (tes (aV A) (aX A) (aN A) 8) (24 * aB A + 24) else sm (tes (aV A) (aX A) (aN A) 9) (24 * aB A + 24)
def bNew (A : AS) (j : Nat) : Int32 := if j < 14 * aB A then aL A j else bVal A (j - 14 * aB A) - bSum A (j - 14 * aB A)
def aBil (A : AS) : AS := (A.1, A.2.1, A.2.2.1, A.2.2.2.1, A.2.2.2.2.1, A.2.2.2.2.2.1, A.2.2.2.2.2.2.1, aB A + 1, bNew A)
def slk (p : Nat) : Nat := if p = 0 then 13 else if p = 1 then 12 else p - 2
section
variable {f : Nat}
def gBil (A : AS) (x1 x2 : Int32) : Prop := (0 ≤ x1.toInt ∧ x1.toInt < (aB A : Int)) ∧ -2 ≤ x2.toInt ∧ x2.toInt < (vlN (aV A) : Int)
theorem Nm.slot {x1 x2 : Int32} {d p : Nat} (h1 : Nm x1 d) (h2 : x2.toInt = (p : Int) - 2) (hd : d < 1000) (hp : p < 1000) : Nm (x1 * 14 + x2 - (-2)) (14 * d + p) := by
  have h1 : Nm (x1 * 14) (d * 14) := h1.mul (show Nm (14 : Int32) 14 from rfl) (by omega)
  have h1 : (x1 * 14).toInt = ((d * 14 : Nat) : Int) := h1
  have z : (-2 : Int32).toInt = -2 := rfl
  have e1 : (x1 * 14 + x2).toInt = (d * 14 : Nat) + ((p : Int) - 2) := by rw [i_add (by omega) (by omega)]; omega
  show (x1 * 14 + x2 - (-2)).toInt = ((14 * d + p : Nat) : Int)
  rw [i_sub (by omega) (by omega)]; omega
/-- a bill that is out, in the class -/
theorem ICl.bil {A : AS} {w : LT} {u : MT} (hC : ICl A w u) {d p : Nat} (hd : d < aB A) (hp : p < 14) : gI u 137 (14 * d + p) = aL A (14 * d + slk p) := by
  obtain ⟨c1, c2, c3⟩ := hC.2.2.2.2.2.2.2.1 d hd
  unfold slk
  by_cases e : p = 0
  · rw [if_pos e, e]; exact c3
  · rw [if_neg e]
    by_cases e1 : p = 1
    · rw [if_pos e1, e1]; exact c2
    · rw [if_neg e1]
      have := c1 (p - 2) (by omega)
      rw [show 14 * d + (p - 2) + 2 = 14 * d + p by omega] at this
      exact this
theorem P_bill {A : AS} {c : Nat} {w : LT} {u : MT} {x1 x2 : Int32} (h : Inv A c w u) (hg : gBil A x1 x2) : ∃ a u2, F_X11_bill f x1 x2 u = some (a, u) ∧ F_X12_bill f x1 x2 u = some (a, u2) ∧ gI u2 167 0 = 0 ∧ Inv A (c + 1) w u2 := by
  have hI := h.thr (x := 0)
  obtain ⟨hA, hL, hC, hR⟩ := h
  obtain ⟨g1, g2⟩ := hg
  have h12 := hA.1.1
  have hb10 := hA.2.2.2.2.2.2.2.2.1
  have z0 : (0 : Int32).toInt = 0 := rfl
  have z1 : (1 : Int32).toInt = 1 := rfl
  have zm1 : (-1 : Int32).toInt = -1 := rfl
  have zm2 : (-2 : Int32).toInt = -2 := rfl
  have n1 : Nm x1 x1.toNatClampNeg := Nm.of_nn g1.1
  generalize x1.toNatClampNeg = d at n1
  have n1' : x1.toInt = (d : Int) := n1
  obtain ⟨p, hp⟩ : ∃ p : Nat, x2.toInt = (p : Int) - 2 := ⟨(x2.toInt + 2).toNat, by omega⟩
  have e136 : (gI u 136 1).toInt = (aB A : Int) := hC.2.2.2.2.2.2.1
  have e101 : (gI u 101 2).toInt = (vlN (aV A) : Int) := hC.1.1
  have e73 : (gI u 167 73).toInt = (aB A : Int) := hR.2.2.2.2.2.2.2.2.2.1
  have e31 : (gI u 167 31).toInt = (vlN (aV A) : Int) := hR.1.1
  have s1 : (gI u 136 1 - 1).toInt = (aB A : Int) - 1 := by rw [i_sub (by omega) (by omega)]; omega
  have s2 : (gI u 101 2 - 1).toInt = (vlN (aV A) : Int) - 1 := by rw [i_sub (by omega) (by omega)]; omega
  have ns := Nm.slot n1 hp (by omega) (by omega)
  refine ⟨aL A (14 * d + slk p), sI u 167 0 0, ?_, ?_, g_same _ _ _ _, hI⟩
  · rw [F_X11_bill, c_isIn, b2i_t (by rw [z0, s1]; omega)]
    show (F_X11_isIn f x2 (-2) (gI u 101 2 - 1) u).bind _ = _
    rw [c_isIn, b2i_t (by rw [zm2, s2]; omega)]
    show ck (ixo (x1 * 14 + x2 - (-2)) 140) (some (gI u 137 (x1 * 14 + x2 - (-2)).toNatClampNeg, u)) = _
    rw [ck_p (ns.ix (by omega)), ns.nat, hC.bil (by omega) (by omega)]
  · have hbl := hR.2.2.2.2.2.2.2.2.2.2
    have k76 : ∀ (y : Int32) (k : Nat), Nm y k → k < 14 → B_X12_bill_76 f y (14 * x1) (sI u 167 0 0) = some (aL A (14 * d + k), sI u 167 0 0) := by
      intro y k hy hk
      have n14 : Nm (14 * x1 + y) (14 * d + k) := ((show Nm (14 : Int32) 14 from rfl).mul n1 (by omega)).add hy (by omega)
      rw [B_X12_bill_76, ck_p (n14.ix (by omega)), n14.nat, g_ne _ _ _ _ (by decide), hbl _ (by omega)]
    rw [F_X12_bill, if_neg (fun e => by have := i_lt.mp e; omega), if_neg (fun e => by have := i_le.mp e; omega), if_neg (fun e => by have := i_lt.mp e; omega), if_neg (fun e => by have := i_le.mp e; omega), B_X12_bill_32]
    show (if gI (sI u 167 0 0) 167 0 ≤ 0 then (if x2 = -1 then B_X12_bill_76 f 12 (14 * x1) (sI u 167 0 0) else if x2 = -2 then B_X12_bill_76 f 13 (14 * x1) (sI u 167 0 0) else B_X12_bill_76 f x2 (14 * x1) (sI u 167 0 0)) else _) = _
    rw [g_same, if_pos (by decide)]
    unfold slk
    by_cases c1 : x2 = -1
    · have : p = 1 := by rw [c1, zm1] at hp; omega
      rw [if_pos c1, k76 12 12 rfl (by decide), this]; rfl
    rw [if_neg c1]
    by_cases c2 : x2 = -2
    · have : p = 0 := by rw [c2, zm2] at hp; omega
      rw [if_pos c2, k76 13 13 rfl (by decide), this]; rfl
    rw [if_neg c2]
    have p0 : p ≠ 0 := fun e => c2 (Int32.toInt_inj.mp (by rw [hp, zm2]; omega))
    have p1 : p ≠ 1 := fun e => c1 (Int32.toInt_inj.mp (by rw [hp, zm1]; omega))
    rw [if_neg p0, if_neg p1, k76 x2 (p - 2) (by show x2.toInt = ((p - 2 : Nat) : Int); omega) (by omega)]
theorem P_billT {A : AS} {c : Nat} {w : LT} {u : MT} {x1 x2 : Int32} (h : Inv A c w u) (hg : ¬ gBil A x1 x2) : F_X12_bill f x1 x2 u = some (0, sI u 167 0 1) ∧ Inv A (c + 1) w (sI u 167 0 1) := by
  refine ⟨?_, h.thr⟩
  have z0 : (0 : Int32).toInt = 0 := rfl
  have zm2 : (-2 : Int32).toInt = -2 := rfl
  have e73 : (gI u 167 73).toInt = (aB A : Int) := h.2.2.2.2.2.2.2.2.2.2.2.2.1
  have e31 : (gI u 167 31).toInt = (vlN (aV A) : Int) := h.2.2.2.1.1
  have k : B_X12_bill_31 f x1 x2 u = some (0, sI u 167 0 1) := by
    rw [B_X12_bill_31, B_X12_bill_32]
    show (if gI (sI u 167 0 1) 167 0 ≤ 0 then _ else _) = _
    rw [g_same, if_neg (by decide)]
  rw [F_X12_bill]
  by_cases c1 : x1 < 0
  · rw [if_pos c1, k]
  rw [if_neg c1]
  by_cases c2 : gI u 167 73 ≤ x1
  · rw [if_pos c2, k]
  rw [if_neg c2]
  by_cases c3 : x2 < -2
  · rw [if_pos c3, k]
  rw [if_neg c3]
  by_cases c4 : gI u 167 31 ≤ x2
  · rw [if_pos c4, k]
  refine absurd ⟨⟨?_, ?_⟩, ?_, ?_⟩ hg
  · have := mt i_lt.mpr c1; omega
  · have := mt i_le.mpr c2; omega
  · have := mt i_lt.mpr c3; omega
  · have := mt i_le.mpr c4; omega
/-- coins up to a quarter -/
theorem c_upTo {V : VD} {X : XD} {d : Int32} {u : MT} {b ts E p : Nat} {x1 x2 : Int32} {fn : Nat → Int32} (hf : 1300 < f) (hV : VOk V) (hC : VC V u) (hB : ∀ q, q < E → Brow V X d b q u) (hp : x1.toInt = (p : Int) - 2) (hpn : p < vlN V + 2) (hx2 : Nm x2 E) (hE : E ≤ 240) (h0 : p = 0 → fn = tes V X d 9) (h1 : p = 1 → fn = tes V X d 8) (h2 : 2 ≤ p → fn = tcn V X d (p - 2)) : F_X1_coinsUpTo f b ts x1 x2 u = some (sm fn E, u) := by
  have zm1 : (-1 : Int32).toInt = -1 := rfl
  have zm2 : (-2 : Int32).toInt = -2 := rfl
  have loop : ∀ (e k : Nat) (y a : Int32) (m : Nat), k + e = E → Nm y k → e < m → a = sm fn k → B_X1_coinsUpTo_5 f b ts m x1 x2 a y u = some (sm fn E, u) := by
    intro e
    induction e with
    | zero =>
      intro k y a m hk hy hm ha
      obtain ⟨m, rfl⟩ : ∃ m', m = m' + 1 := ⟨m - 1, by omega⟩
      have hk : k = E := by omega
      subst hk
      rw [B_X1_coinsUpTo_5, if_pos ((hx2.le hy).mpr (Nat.le_refl _)), ha]
    | succ e ih =>
      intro k y a m hk hy hm ha
      obtain ⟨m, rfl⟩ : ∃ m', m = m' + 1 := ⟨m - 1, by omega⟩
      have i1 := ih (k + 1) (y + 1) (a + fn k) m (by omega) (hy.succ (by omega)) (by omega) (by rw [ha]; rfl)
      have rk := hB k (by omega)
      rw [B_X1_coinsUpTo_5, if_neg (fun c => by have := (hx2.le hy).mp c; omega)]
      by_cases c2 : x1 = -2
      · have p0 : p = 0 := by rw [c2, zm2] at hp; omega
        rw [if_pos c2, c_bsum hy (by omega) (show Nm (9 : Int32) 9 from rfl) (by decide), rk.2 9 (by decide)]
        rw [h0 p0] at i1 ⊢
        exact i1
      · rw [if_neg c2]
        have p0 : p ≠ 0 := fun e => c2 (Int32.toInt_inj.mp (by rw [hp, zm2]; omega))
        by_cases c1 : x1 = -1
        · have p1 : p = 1 := by rw [c1, zm1] at hp; omega
          rw [if_pos c1, c_bsum hy (by omega) (show Nm (8 : Int32) 8 from rfl) (by decide), rk.2 8 (by decide)]
          rw [h1 p1] at i1 ⊢
          exact i1
        · rw [if_neg c1]
          have p1 : p ≠ 1 := fun e => c1 (Int32.toInt_inj.mp (by rw [hp, zm1]; omega))
          obtain ⟨_, _, _, _, _, _, w7⟩ := c_leaves (f := f) (ts := ts) (x1 := x1) (x2 := y) (h := p - 2) hV hC rk (by show x1.toInt = ((p - 2 : Nat) : Int); omega) (by omega) hy (by omega)
          rw [w7]
          rw [h2 (by omega)] at i1 ⊢
          exact i1
  rw [F_X1_coinsUpTo]
  exact loop E 0 0 0 f (by omega) nm0 (by omega) rfl
theorem c_bwrite {u : MT} {nb p : Nat} {x1 x2 : Int32} (hf : 1300 < f) (hn : Nm (gI u 136 1) nb) (h10 : nb < 10) (hp : x1.toInt = (p : Int) - 2) (hp14 : p < 14) : F_X0_write f x1 x2 u = some (sI u 137 (14 * nb + p) (x2 - sm (fun d => gI u 137 (14 * d + p)) nb)) := by
  have loop : ∀ (e k : Nat) (y a : Int32) (m : Nat), k + e = nb → Nm y k → e < m → a = sm (fun d => gI u 137 (14 * d + p)) k → B_X0_write_5 f m x1 x2 a y u = some (sI u 137 (14 * nb + p) (x2 - sm (fun d => gI u 137 (14 * d + p)) nb)) := by
    intro e
    induction e with
    | zero =>
      intro k y a m hk hy hm ha
      obtain ⟨m, rfl⟩ : ∃ m', m = m' + 1 := ⟨m - 1, by omega⟩
      have hk : k = nb := by omega
      subst hk
      have ns := Nm.slot hn hp (by omega) (by omega)
      rw [B_X0_write_5, if_pos ((hn.le hy).mpr (Nat.le_refl _)), F_X0_slot]
      show ck (ixo (gI u 136 1 * 14 + x1 - (-2)) 140) (some (sI u 137 (gI u 136 1 * 14 + x1 - (-2)).toNatClampNeg (x2 - a))) = _
      rw [ck_p (ns.ix (by omega)), ns.nat, ha]
    | succ e ih =>
      intro k y a m hk hy hm ha
      obtain ⟨m, rfl⟩ : ∃ m', m = m' + 1 := ⟨m - 1, by omega⟩
      have ns := Nm.slot hy hp (by omega) (by omega)
      rw [B_X0_write_5, if_neg (fun c => by have := (hn.le hy).mp c; omega), F_X0_slot]
      show ck (ixo (y * 14 + x1 - (-2)) 140) (B_X0_write_5 f m x1 x2 (a + gI u 137 (y * 14 + x1 - (-2)).toNatClampNeg) (y + 1) u) = _
      rw [ck_p (ns.ix (by omega)), ns.nat]
      exact ih (k + 1) (y + 1) _ m (by omega) (hy.succ (by omega)) (by omega) (by rw [ha]; rfl)
  rw [F_X0_write]
  exact loop nb 0 0 0 f (by omega) nm0 (by omega) rfl
end
