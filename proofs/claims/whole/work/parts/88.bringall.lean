/-! ===== the class's Book brings all houses in ===== -/
def wa67 (w : LT) (f b ts : Nat) (x1 : Int32) (u : MT) : Option MT :=
  (F_X8_inForce w f ts x1 (gI u b 4) u).bind fun r11 =>
  if r11.1 = 0 then B_X1_workAgain_115 w f b ts x1 r11.1 (0 : Int32) r11.2
  else ck (lt_t w r11.1 = 7) <| B_X1_workAgain_115 w f b ts x1 r11.1 (gI r11.2 r11.1 1) r11.2
def Bgk (b q k : Nat) (ri : Nat → Option Nat) (wa gi hd be : Nat → Int32) (u v : MT) : Prop :=
  (∀ h, h < k → gI v 117 h = wan wa gi h ∧ gI v 118 h = be h ∧ gI v 119 h = hd h ∧ gI v 120 h = 0 ∧ gI v 121 h = 0 ∧ gI v 126 h = 0) ∧
  gI v 116 4 = sm (gft wa gi) k ∧ gI v 127 0 = sm (gft wa gi) k ∧ (∀ h, h < k → gI v (b + 1) (q * 12 + h) = txC (ri h)) ∧
  (∀ a j, (a < 117 ∨ (121 < a ∧ a ≠ 126)) → (a ≠ 116 ∨ j ≠ 4) → (a ≠ 127 ∨ j ≠ 0) → (a ≠ b + 1 ∨ j < q * 12 ∨ q * 12 + k ≤ j) → gI v a j = gI u a j) ∧
  ∀ a j, gK v a j = gK u a j
section
variable {f : Nat}
theorem c_bringall {w : LT} {u : MT} {b ts q n : Nat} {x : Int32} {o p ri : Nat → Option Nat} {rw' rg wa gi hd be : Nat → Int32} (hf : 100 < f) (hx : Nm x q) (hq : q < 240) (hb : 127 < b) (hn : Nm (gI u 101 2) n) (h12 : n ≤ 12) (h4 : gI u 116 4 = 0) (h0 : gI u 127 0 = 0)
    (ho : ∀ h, h < n → gI u (b + 1) (q * 12 + h) = txC (o h)) (hp : ∀ h, h < n → 0 < q → gI u (b + 1) (q * 12 + h - 12) = txC (p h)) (hv : ∀ h r, h < n → (o h = some r ∨ p h = some r) → r < 400 ∧ gI u 107 r = rw' r ∧ gI u 108 r = rg r)
    (hri : ∀ h, ri h = rdx q (o h) (p h)) (hwa : ∀ h, wa h = ovr (ri h) rw' 0) (hgi : ∀ h, gi h = ovr (ri h) rg 0) (hhd : ∀ h, h < n → hd h = if q % 24 = 0 then 0 else gI u (b + 4) (q * 12 + h - 12)) (hbe : ∀ h, h < n → be h = gI u 103 h) :
    ∃ v, B_X1_workAgain_67 w f b ts f x 0 u = wa67 w f b ts x v ∧ Bgk b q n ri wa gi hd be u v := by
  have loop : ∀ (e k : Nat) (y : Int32) (m : Nat) (t : MT), k + e = n → Nm y k → e < m → Bgk b q k ri wa gi hd be u t → ∃ v, B_X1_workAgain_67 w f b ts m x y t = wa67 w f b ts x v ∧ Bgk b q n ri wa gi hd be u v := by
    intro e
    induction e with
    | zero =>
      intro k y m t hk hy hm hB
      obtain ⟨m, rfl⟩ : ∃ m', m = m' + 1 := ⟨m - 1, by omega⟩
      have hkn : k = n := by omega
      subst hkn
      refine ⟨t, ?_, hB⟩
      rw [B_X1_workAgain_67, if_pos (by rw [hB.2.2.2.2.1 101 2 (by omega) (by omega) (by omega) (by omega)]; exact (hn.le hy).mpr (Nat.le_refl _))]
      rfl
    | succ e ih =>
      intro k y m t hk hy hm hB
      obtain ⟨m, rfl⟩ : ∃ m', m = m' + 1 := ⟨m - 1, by omega⟩
      have hkn : k < n := by omega
      obtain ⟨b1, b2, b3, b4, b5, b6⟩ := hB
      obtain ⟨v1, e1, e2, e3⟩ := c_bkbring (f := f) (ts := ts) (u := t) (b := b) (q := q) (h := k) (o := o k) (p := p k) (rw' := rw') (rg := rg) hy (by omega) hx hq hb (by rw [b5 _ _ (by omega) (by omega) (by omega) (by omega)]; exact ho k hkn) (fun c => by rw [b5 _ _ (by omega) (by omega) (by omega) (by omega)]; exact hp k hkn c) (fun r c => by rw [b5 107 _ (by omega) (by omega) (by omega) (by omega), b5 108 _ (by omega) (by omega) (by omega) (by omega)]; exact hv k r hkn c)
      obtain ⟨r, e4, c1, c2, c3, c4, c5, c6, c7, c8, c9⟩ := c_bring (f := f) (u := v1) (h := k) (x := y) (wa := wa k) (gi := gi k) (hd := hd k) (by omega) hy
      rw [b5 (b + 4) _ (by omega) (by omega) (by omega) (by omega), ← hhd k hkn, ← hri k, ← hwa k, ← hgi k, e4] at e1
      rw [← hri k] at e2
      rw [B_X1_workAgain_67, if_neg (fun c => by rw [b5 101 2 (by omega) (by omega) (by omega) (by omega)] at c; have := (hn.le hy).mp c; omega), e1]
      refine ih (k + 1) (y + 1) m r (by omega) (hy.succ (by omega)) (by omega) ⟨fun h hh => ?_, ?_, ?_, fun h hh => ?_, fun a j a1 a2 a3 a4 => ?_, fun a j => by rw [← b6 a j]; exact (fr_F_X1_bringIn e1).2.2 a j (by simp [nin])⟩
      · rw [c1, c2, c3, c4, c5, c6]
        unfold upf
        by_cases c : h = k
        · subst c
          rw [if_pos rfl, if_pos rfl, if_pos rfl, if_pos rfl, if_pos rfl, e3 103 _ (by omega), b5 103 _ (by omega) (by omega) (by omega) (by omega)]
          exact ⟨rfl, (hbe h hkn).symm, rfl, rfl, rfl, if_pos rfl⟩
        · rw [if_neg c, if_neg c, if_neg c, if_neg c, if_neg c, if_neg c, e3 117 _ (by omega), e3 118 _ (by omega), e3 119 _ (by omega), e3 120 _ (by omega), e3 121 _ (by omega), e3 126 _ (by omega)]
          exact b1 h (by omega)
      · rw [c7, e3 116 _ (by omega), b2]; rfl
      · rw [c8, e3 116 _ (by omega), b2]; rfl
      · rw [c9 _ _ (by omega) (by omega) (by omega) (by omega) (by omega) (by omega) (by omega) (by omega)]
        by_cases c : h = k
        · subst c; exact e2
        · rw [e3 _ _ (by omega)]; exact b4 h (by omega)
      · rw [c9 _ _ (by omega) (by omega) (by omega) (by omega) (by omega) (by omega) (by omega) (by omega), e3 _ _ (by omega)]
        exact b5 a j a1 a2 a3 (by omega)
  exact loop n 0 0 f u (by omega) nm0 (by omega) ⟨fun h hh => absurd hh (by omega), h4, h0, fun h hh => absurd hh (by omega), fun _ _ _ _ _ _ => rfl, fun _ _ => rfl⟩
end
