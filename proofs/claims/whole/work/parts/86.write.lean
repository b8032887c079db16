/-! ===== the class's Book writes a quarter ===== -/
def Wr (b q n : Nat) (u r : MT) : Prop :=
  (∀ h, h < n → gI r (b + 2) (q * 12 + h) = gI u 120 h ∧ gI r (b + 3) (q * 12 + h) = gI u 121 h ∧ gI r (b + 4) (q * 12 + h) = gI u 119 h) ∧
  (∀ k, k < 14 → gI r (b + 5) (q * 14 + k) = gI u 127 k) ∧
  (∀ a j, (a < b + 2 ∨ b + 5 < a) → gI r a j = gI u a j) ∧
  (∀ a j, (a = b + 2 ∨ a = b + 3 ∨ a = b + 4) → (j < q * 12 ∨ q * 12 + n ≤ j) → gI r a j = gI u a j) ∧
  ∀ j, (j < q * 14 ∨ q * 14 + 14 ≤ j) → gI r (b + 5) j = gI u (b + 5) j
section
variable {f : Nat}
theorem cp_in (u : MT) (a0 a s d n k : Nat) (h : k < n) : gI (cpI u a0 a s d n) a (d + k) = gI u a0 (s + k) := by
  show (if a = a then va_cpy (u.1 a0) (u.1 a) s d n else u.1 a) (d + k) = _
  rw [if_pos rfl]
  unfold va_cpy
  rw [if_pos (by omega), show s + (d + k - d) = s + k by omega]
  rfl
theorem cp_out (u : MT) (a0 a s d n j : Nat) (h : j < d ∨ d + n ≤ j) : gI (cpI u a0 a s d n) a j = gI u a j := by
  show (if a = a then va_cpy (u.1 a0) (u.1 a) s d n else u.1 a) j = _
  rw [if_pos rfl]
  unfold va_cpy
  rw [if_neg (by omega)]
  rfl
theorem cp_ne (u : MT) (a0 a s d n c j : Nat) (h : c ≠ a) : gI (cpI u a0 a s d n) c j = gI u c j := by
  show (if c = a then va_cpy (u.1 a0) (u.1 a) s d n else u.1 c) j = _
  rw [if_neg h]
  rfl
theorem c_write {u : MT} {b ts q n : Nat} {x : Int32} (hf : 100 < f) (hx : Nm x q) (hq : q < 240) (hn : Nm (gI u 101 2) n) (h12 : n ≤ 12) (hb : 127 < b) : Ok (F_X1_write f b ts x u) (Wr b q n u) := by
  have loop : ∀ (e k : Nat) (y : Int32) (m : Nat) (w : MT), k + e = n → Nm y k → e < m → (∀ h, h < k → gI w (b + 2) (q * 12 + h) = gI u 120 h ∧ gI w (b + 3) (q * 12 + h) = gI u 121 h ∧ gI w (b + 4) (q * 12 + h) = gI u 119 h) → (∀ a j, (a < b + 2 ∨ b + 4 < a) → gI w a j = gI u a j) → (∀ a j, (a = b + 2 ∨ a = b + 3 ∨ a = b + 4) → (j < q * 12 ∨ q * 12 + n ≤ j) → gI w a j = gI u a j) → Ok (B_X1_write_2 f b ts m x y w) (Wr b q n u) := by
    intro e
    induction e with
    | zero =>
      intro k y m w hk hy hm h1 h2 h3
      obtain ⟨m, rfl⟩ : ∃ m', m = m' + 1 := ⟨m - 1, by omega⟩
      have hkn : k = n := by omega
      subst hkn
      rw [B_X1_write_2]
      refine Ok.t (by rw [h2 _ _ (by omega)]; exact (hn.le hy).mpr (Nat.le_refl _)) ?_
      have nc : Nm (x * 14) (q * 14) := hx.mul (show Nm (14 : Int32) 14 from rfl) (by omega)
      have nc' : (x * 14).toInt = ((q * 14 : Nat) : Int) := nc
      have z14 : (14 : Int32).toInt = 14 := rfl
      have z0 : (0 : Int32).toInt = 0 := rfl
      refine Ok.ck ⟨by omega, by omega, by omega, by omega, by omega⟩ (Ok.some ?_)
      rw [nc.nat]
      show Wr b q k u (cpI w 127 (b + 5) 0 (q * 14) 14)
      refine ⟨fun h hh => ?_, fun j hj => ?_, fun a j ha => ?_, fun a j ha hj => ?_, fun j hj => ?_⟩
      · rw [cp_ne _ _ _ _ _ _ _ _ (by omega), cp_ne _ _ _ _ _ _ _ _ (by omega), cp_ne _ _ _ _ _ _ _ _ (by omega)]; exact h1 h hh
      · rw [cp_in _ _ _ _ _ _ _ hj, Nat.zero_add]; exact h2 _ _ (by omega)
      · rw [cp_ne _ _ _ _ _ _ _ _ (by omega)]; exact h2 _ _ (by omega)
      · rw [cp_ne _ _ _ _ _ _ _ _ (by omega)]; exact h3 _ _ ha hj
      · rw [cp_out _ _ _ _ _ _ _ hj]; exact h2 _ _ (by omega)
    | succ e ih =>
      intro k y m w hk hy hm h1 h2 h3
      obtain ⟨m, rfl⟩ : ∃ m', m = m' + 1 := ⟨m - 1, by omega⟩
      have hkn : k < n := by omega
      rw [B_X1_write_2, F_X1_cell]
      have nc : Nm (x * 12 + y) (q * 12 + k) := (hx.mul (show Nm (12 : Int32) 12 from rfl) (by omega)).add hy (by omega)
      refine Ok.f (fun c => by rw [h2 _ _ (by omega)] at c; have := (hn.le hy).mp c; omega) (Ok.bindE rfl (Ok.ck (hy.ix (by omega)) (Ok.ck (nc.ix (by omega)) ?_)))
      rw [nc.nat, hy.nat]
      show Ok (B_X1_write_2 f b ts m x (y + 1) (sI (sI (sI w (b + 2) (q * 12 + k) (gI w 120 k)) (b + 3) (q * 12 + k) (gI (sI w (b + 2) (q * 12 + k) (gI w 120 k)) 121 k)) (b + 4) (q * 12 + k) (gI (sI (sI w (b + 2) (q * 12 + k) (gI w 120 k)) (b + 3) (q * 12 + k) (gI (sI w (b + 2) (q * 12 + k) (gI w 120 k)) 121 k)) 119 k))) _
      rw [g_ne _ _ _ _ (show 121 ≠ b + 2 by omega), g_ne _ _ _ _ (show 119 ≠ b + 3 by omega), g_ne _ _ _ _ (show 119 ≠ b + 2 by omega), h2 120 k (by omega), h2 121 k (by omega), h2 119 k (by omega)]
      refine ih (k + 1) (y + 1) m _ (by omega) (hy.succ (by omega)) (by omega) (fun h hh => ?_) (fun a j ha => ?_) (fun a j ha hj => ?_)
      · rw [g_ne _ _ _ _ (show b + 2 ≠ b + 4 by omega), g_ne _ _ _ _ (show b + 2 ≠ b + 3 by omega), g_ne _ _ _ _ (show b + 3 ≠ b + 4 by omega), g_at, g_at, g_ne _ _ _ _ (show b + 3 ≠ b + 2 by omega), g_at, g_ne _ _ _ _ (show b + 4 ≠ b + 3 by omega), g_ne _ _ _ _ (show b + 4 ≠ b + 2 by omega)]
        by_cases c : h = k
        · subst c
          exact ⟨if_pos rfl, if_pos rfl, if_pos rfl⟩
        · have c' : ¬ q * 12 + h = q * 12 + k := by omega
          rw [if_neg c', if_neg c', if_neg c']
          exact h1 h (by omega)
      · rw [g_ne _ _ _ _ (by omega), g_ne _ _ _ _ (by omega), g_ne _ _ _ _ (by omega)]; exact h2 a j ha
      · have c' : ¬ j = q * 12 + k := by omega
        rw [← h3 a j ha hj]
        rcases ha with e | e | e
        · subst e; rw [g_ne _ _ _ _ (by omega), g_ne _ _ _ _ (by omega), g_nk _ _ _ c']
        · subst e; rw [g_ne _ _ _ _ (by omega), g_nk _ _ _ c', g_ne _ _ _ _ (by omega)]
        · subst e; rw [g_nk _ _ _ c', g_ne _ _ _ _ (by omega), g_ne _ _ _ _ (by omega)]
  rw [F_X1_write]
  exact loop n 0 0 f u (by omega) nm0 (by omega) (fun h hh => absurd hh (by omega)) (fun _ _ _ => rfl) (fun _ _ _ _ => rfl)
end
