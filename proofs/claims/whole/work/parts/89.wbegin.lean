/-! ===== the class's Book: a quarter's work begins ===== -/
def Wb (b q : Nat) (x x2 : Int32) (u v : MT) : Prop :=
  (∀ j, j < 10 → gI v 127 j = 0) ∧ (∀ k, k < 4 → gI v 127 (10 + k) = if q = 0 then 0 else gI u (b + 5) ((q - 1) * 14 + (10 + k))) ∧
  gI v 116 3 = x ∧ gI v 116 16 = x2 ∧ gI v 116 17 = 0 ∧ gI v 116 4 = 0 ∧ gI v 116 5 = (if q = 0 then 0 else gI u (b + 5) ((q - 1) * 14 + 4)) ∧
  (∀ a j, a ≠ 116 → a ≠ 127 → gI v a j = gI u a j) ∧ gI v 116 1 = gI u 116 1 ∧ gI v 116 2 = gI u 116 2 ∧ ∀ a j, gK v a j = gK u a j
section
variable {f : Nat}
theorem c_bsum {u : MT} {b ts q k : Nat} {x y : Int32} (hx : Nm x q) (hq : q < 240) (hy : Nm y k) (hk : k < 14) : F_X1_sum f b ts x y u = some (gI u (b + 5) (q * 14 + k), u) := by
  have nc : Nm (x * 14 + y) (q * 14 + k) := (hx.mul (show Nm (14 : Int32) 14 from rfl) (by omega)).add hy (by omega)
  rw [F_X1_sum, ck_p (nc.ix (by omega)), nc.nat]
theorem c_prices {w : LT} {u : MT} {b ts q : Nat} {x : Int32} (hf : 100 < f) (hx : Nm x q) (hq : q < 240) (hb : 127 < b) : ∃ v, B_X1_workAgain_28 w f b ts f x 10 u = B_X1_workAgain_67 w f b ts f x 0 v ∧ (∀ k, k < 4 → gI v 127 (10 + k) = if q = 0 then 0 else gI u (b + 5) ((q - 1) * 14 + (10 + k))) ∧ (∀ a j, (a ≠ 127 ∨ j < 10) → gI v a j = gI u a j) ∧ ∀ a j, gK v a j = gK u a j := by
  have loop : ∀ (e k : Nat) (y : Int32) (m : Nat) (t : MT), k + e = 4 → Nm y (10 + k) → e < m → (∀ j, j < k → gI t 127 (10 + j) = if q = 0 then 0 else gI u (b + 5) ((q - 1) * 14 + (10 + j))) → (∀ a j, (a ≠ 127 ∨ j < 10) → gI t a j = gI u a j) → (∀ a j, gK t a j = gK u a j) → ∃ v, B_X1_workAgain_28 w f b ts m x y t = B_X1_workAgain_67 w f b ts f x 0 v ∧ (∀ k, k < 4 → gI v 127 (10 + k) = if q = 0 then 0 else gI u (b + 5) ((q - 1) * 14 + (10 + k))) ∧ (∀ a j, (a ≠ 127 ∨ j < 10) → gI v a j = gI u a j) ∧ ∀ a j, gK v a j = gK u a j := by
    intro e
    induction e with
    | zero =>
      intro k y m t hk hy hm h1 h2 hK
      obtain ⟨m, rfl⟩ : ∃ m', m = m' + 1 := ⟨m - 1, by omega⟩
      refine ⟨t, ?_, fun j hj => h1 j (by omega), h2, hK⟩
      rw [B_X1_workAgain_28, if_pos (((show Nm (13 : Int32) 13 from rfl).lt hy).mpr (by omega))]
    | succ e ih =>
      intro k y m t hk hy hm h1 h2 hK
      obtain ⟨m, rfl⟩ : ∃ m', m = m' + 1 := ⟨m - 1, by omega⟩
      have step : ∀ s, s = (if q = 0 then 0 else gI u (b + 5) ((q - 1) * 14 + (10 + k))) → ∃ v, B_X1_workAgain_58 w f b ts (fun x1' x3' u' => B_X1_workAgain_28 w f b ts m x1' x3' u') x y s y t = B_X1_workAgain_67 w f b ts f x 0 v ∧ (∀ k, k < 4 → gI v 127 (10 + k) = if q = 0 then 0 else gI u (b + 5) ((q - 1) * 14 + (10 + k))) ∧ (∀ a j, (a ≠ 127 ∨ j < 10) → gI v a j = gI u a j) ∧ ∀ a j, gK v a j = gK u a j := by
        intro s hs
        rw [B_X1_workAgain_58, ck_p (hy.ix (by omega)), hy.nat]
        refine ih (k + 1) (y + 1) m _ (by omega) (hy.succ (by omega)) (by omega) (fun j hj => ?_) (fun a j ha => ?_) hK
        · rw [g_at]
          by_cases c : j = k
          · subst c; rw [if_pos rfl]; exact hs
          · rw [if_neg (by omega)]; exact h1 j (by omega)
        · rw [← h2 a j ha]
          by_cases c : a = 127
          · subst c; exact g_nk _ _ _ (by omega)
          · exact g_ne _ _ _ _ c
      rw [B_X1_workAgain_28, if_neg (fun c => by have := ((show Nm (13 : Int32) 13 from rfl).lt hy).mp c; omega)]
      by_cases c : q = 0
      · rw [if_pos ((hx.eq nm0).mpr c)]
        exact step 0 (by rw [if_pos c])
      · have n1 : Nm (x - 1) (q - 1) := hx.sub (show Nm (1 : Int32) 1 from rfl) (by omega)
        rw [if_neg (fun e => c ((hx.eq nm0).mp e)), c_bsum n1 (by omega) hy (by omega)]
        exact step _ (by rw [if_neg c]; exact h2 _ _ (by omega))
  exact loop 4 0 10 f u (by omega) rfl (by omega) (fun j hj => absurd hj (by omega)) (fun _ _ _ => rfl) (fun _ _ => rfl)
theorem c_wbegin {w : LT} {u : MT} {b ts q : Nat} {x x2 : Int32} (hf : 1300 < f) (hx : Nm x q) (hq : q < 240) (hb : 127 < b) : ∃ v, F_X1_workAgain w f b ts x x2 u = B_X1_workAgain_67 w f b ts f x 0 v ∧ Wb b q x x2 u v := by
  have go : ∀ s, s = (if q = 0 then 0 else gI u (b + 5) ((q - 1) * 14 + 4)) → ∃ v, B_X1_workAgain_21 w f b ts x x2 s x u = B_X1_workAgain_67 w f b ts f x 0 v ∧ Wb b q x x2 u v := by
    intro s hs
    obtain ⟨r, e1, r1, r2, r3, r4, r5, r6⟩ := c_begin (f := f) (u := u) (x1 := x) (x2 := s) (x3 := x2) hf
    have fr := (fr_F_X10_begin e1).1
    have fr' : ∀ a j, a ≠ 116 → a ≠ 127 → gI r a j = gI u a j := fun a j h1 h2 => fr a j (by simp [nin, wI_X10_begin] <;> omega)
    obtain ⟨v, e2, v1, v2, v3⟩ := c_prices (w := w) (f := f) (u := r) (b := b) (ts := ts) (by omega) hx hq hb
    refine ⟨v, ?_, fun j hj => by rw [v2 _ _ (Or.inr hj)]; exact r1 j (by omega), fun k hk => by rw [v1 k hk, fr' _ _ (by omega) (by omega)], ?_, ?_, ?_, ?_, ?_, fun a j h1 h2 => by rw [v2 _ _ (Or.inl h2)]; exact fr' a j h1 h2, ?_, ?_, fun a j => by rw [v3]; exact (fr_F_X10_begin e1).2.2 a j (by simp [nin])⟩
    · rw [B_X1_workAgain_21, e1]; exact e2
    · rw [v2 _ _ (by omega)]; exact r2
    · rw [v2 _ _ (by omega)]; exact r3
    · rw [v2 _ _ (by omega)]; exact r4
    · rw [v2 _ _ (by omega)]; exact r5
    · rw [v2 _ _ (by omega), r6]; exact hs
    · rw [v2 _ _ (by omega)]; exact fr _ _ (by simp [nin, wI_X10_begin])
    · rw [v2 _ _ (by omega)]; exact fr _ _ (by simp [nin, wI_X10_begin])
  rw [F_X1_workAgain]
  by_cases c : q = 0
  · rw [if_pos ((hx.eq nm0).mpr c)]
    exact go 0 (by rw [if_pos c])
  · have n1 : Nm (x - 1) (q - 1) := hx.sub (show Nm (1 : Int32) 1 from rfl) (by omega)
    rw [if_neg (fun e => c ((hx.eq nm0).mp e)), c_bsum n1 (by omega) (show Nm (4 : Int32) 4 from rfl) (by omega)]
    exact go _ (by rw [if_neg c])
end
