/-! ===== the reference works all quarters up to one ===== -/
section
variable {f : Nat}
theorem r_w13 {x x3 : Int32} {u : MT} (hf : 1300 < f) : ∃ v, B_X12_works_13 f f x x3 0 u = B_X12_works_36 f f x x3 0 v ∧ (∀ k, k < 4 → gI v 196 k = 0) ∧ ∀ a j, a ≠ 196 → gI v a j = gI u a j := by
  have loop : ∀ (e k : Nat) (y : Int32) (m : Nat) (t : MT), k + e = 4 → Nm y k → e < m → (∀ j, j < k → gI t 196 j = 0) → (∀ a j, a ≠ 196 → gI t a j = gI u a j) → ∃ v, B_X12_works_13 f m x x3 y t = B_X12_works_36 f f x x3 0 v ∧ (∀ k, k < 4 → gI v 196 k = 0) ∧ ∀ a j, a ≠ 196 → gI v a j = gI u a j := by
    intro e
    induction e with
    | zero =>
      intro k y m t hk hy hm h1 h2
      obtain ⟨m, rfl⟩ : ∃ m', m = m' + 1 := ⟨m - 1, by omega⟩
      exact ⟨t, by rw [B_X12_works_13, if_pos (((show Nm (4 : Int32) 4 from rfl).le hy).mpr (by omega))], fun j hj => h1 j (by omega), h2⟩
    | succ e ih =>
      intro k y m t hk hy hm h1 h2
      obtain ⟨m, rfl⟩ : ∃ m', m = m' + 1 := ⟨m - 1, by omega⟩
      rw [B_X12_works_13, if_neg (fun c => by have := ((show Nm (4 : Int32) 4 from rfl).le hy).mp c; omega), ck_p (hy.ix (by omega)), hy.nat]
      refine ih (k + 1) (y + 1) m _ (by omega) (hy.succ (by omega)) (by omega) (fun j hj => ?_) (fun a j ha => by rw [g_ne _ _ _ _ ha]; exact h2 a j ha)
      rw [g_at]
      by_cases c : j = k
      · rw [if_pos c]
      · rw [if_neg c]; exact h1 j (by omega)
  exact loop 4 0 0 f u (by omega) nm0 (by omega) (fun j hj => absurd hj (by omega)) (fun _ _ _ => rfl)
theorem r_w36 {x x3 : Int32} {u : MT} (hf : 1300 < f) : ∃ v, B_X12_works_36 f f x x3 0 u = B_X12_works_76 f f x x3 0 v ∧ (∀ k, k < 12 → gI v 197 k = 0 ∧ gI v 198 k = 0 ∧ gI v 207 k = 0) ∧ ∀ a j, a ≠ 197 → a ≠ 198 → a ≠ 207 → gI v a j = gI u a j := by
  have loop : ∀ (e k : Nat) (y : Int32) (m : Nat) (t : MT), k + e = 12 → Nm y k → e < m → (∀ j, j < k → gI t 197 j = 0 ∧ gI t 198 j = 0 ∧ gI t 207 j = 0) → (∀ a j, a ≠ 197 → a ≠ 198 → a ≠ 207 → gI t a j = gI u a j) → ∃ v, B_X12_works_36 f m x x3 y t = B_X12_works_76 f f x x3 0 v ∧ (∀ k, k < 12 → gI v 197 k = 0 ∧ gI v 198 k = 0 ∧ gI v 207 k = 0) ∧ ∀ a j, a ≠ 197 → a ≠ 198 → a ≠ 207 → gI v a j = gI u a j := by
    intro e
    induction e with
    | zero =>
      intro k y m t hk hy hm h1 h2
      obtain ⟨m, rfl⟩ : ∃ m', m = m' + 1 := ⟨m - 1, by omega⟩
      exact ⟨t, by rw [B_X12_works_36, if_pos (((show Nm (12 : Int32) 12 from rfl).le hy).mpr (by omega))], fun j hj => h1 j (by omega), h2⟩
    | succ e ih =>
      intro k y m t hk hy hm h1 h2
      obtain ⟨m, rfl⟩ : ∃ m', m = m' + 1 := ⟨m - 1, by omega⟩
      rw [B_X12_works_36, if_neg (fun c => by have := ((show Nm (12 : Int32) 12 from rfl).le hy).mp c; omega), ck_p (hy.ix (by omega)), hy.nat]
      show ∃ v, B_X12_works_36 f m x x3 (y + 1) (sI (sI (sI t 197 k 0) 198 k 0) 207 k 0) = _ ∧ _
      refine ih (k + 1) (y + 1) m _ (by omega) (hy.succ (by omega)) (by omega) (fun j hj => ?_) (fun a j h3 h4 h5 => by rw [g_ne _ _ _ _ h5, g_ne _ _ _ _ h4, g_ne _ _ _ _ h3]; exact h2 a j h3 h4 h5)
      rw [g_ne _ _ _ _ (show 197 ≠ 207 by decide), g_ne _ _ _ _ (show 197 ≠ 198 by decide), g_at, g_ne _ _ _ _ (show 198 ≠ 207 by decide), g_at, g_ne _ _ _ _ (show 198 ≠ 197 by decide), g_at, g_ne _ _ _ _ (show 207 ≠ 198 by decide), g_ne _ _ _ _ (show 207 ≠ 197 by decide)]
      by_cases c : j = k
      · rw [if_pos c, if_pos c, if_pos c]; exact ⟨rfl, rfl, rfl⟩
      · rw [if_neg c, if_neg c, if_neg c]; exact h1 j (by omega)
  exact loop 12 0 0 f u (by omega) nm0 (by omega) (fun j hj => absurd hj (by omega)) (fun _ _ _ _ _ => rfl)
theorem r_w76 {x x3 : Int32} {u : MT} (hf : 1300 < f) : ∃ v, B_X12_works_76 f f x x3 0 u = B_X12_works_102 f f x x3 (sI v 167 43 0) ∧ (∀ k, k < 14 → gI v 210 k = 0) ∧ ∀ a j, a ≠ 210 → gI v a j = gI u a j := by
  have loop : ∀ (e k : Nat) (y : Int32) (m : Nat) (t : MT), k + e = 14 → Nm y k → e < m → (∀ j, j < k → gI t 210 j = 0) → (∀ a j, a ≠ 210 → gI t a j = gI u a j) → ∃ v, B_X12_works_76 f m x x3 y t = B_X12_works_102 f f x x3 (sI v 167 43 0) ∧ (∀ k, k < 14 → gI v 210 k = 0) ∧ ∀ a j, a ≠ 210 → gI v a j = gI u a j := by
    intro e
    induction e with
    | zero =>
      intro k y m t hk hy hm h1 h2
      obtain ⟨m, rfl⟩ : ∃ m', m = m' + 1 := ⟨m - 1, by omega⟩
      exact ⟨t, by rw [B_X12_works_76, if_pos (((show Nm (14 : Int32) 14 from rfl).le hy).mpr (by omega))], fun j hj => h1 j (by omega), h2⟩
    | succ e ih =>
      intro k y m t hk hy hm h1 h2
      obtain ⟨m, rfl⟩ : ∃ m', m = m' + 1 := ⟨m - 1, by omega⟩
      rw [B_X12_works_76, if_neg (fun c => by have := ((show Nm (14 : Int32) 14 from rfl).le hy).mp c; omega), ck_p (hy.ix (by omega)), hy.nat]
      refine ih (k + 1) (y + 1) m _ (by omega) (hy.succ (by omega)) (by omega) (fun j hj => ?_) (fun a j ha => by rw [g_ne _ _ _ _ ha]; exact h2 a j ha)
      rw [g_at]
      by_cases c : j = k
      · rw [if_pos c]
      · rw [if_neg c]; exact h1 j (by omega)
  exact loop 14 0 0 f u (by omega) nm0 (by omega) (fun j hj => absurd hj (by omega)) (fun _ _ _ => rfl)
theorem r_works {V : VD} {X0 X : XD} {sl : Nat → Nat} {u : MT} {Q : Nat} {x x3 d : Int32} (hf : 1300 < f) (hV : VOk V) (hX0 : xtT X0 ≤ 6) (hX : XOk V X) (hR : VR V u) (h0 : XR0 X0 u) (h1 : XR1 X sl u) (hin : ∀ q, q < 240 → (if x3 = 0 then txC (txF (xtQ X0) (xtD X0) (Int32.ofNat q) d (xtT X0)) else 6) = txC ((txO X d q).map sl)) (hx : Nm x Q) (hQ : Q < 240) :
    Ok (F_X12_works f x d x3 u) (Rw V X d sl Q) := by
  have loop : ∀ (e k m : Nat) (t : MT), k + e = Q + 1 → e < m → Lq V X d k t → (0 < k → Rw V X d sl (k - 1) t) → Sfr u t → Ok (B_X12_works_102 f m x x3 t) (Rw V X d sl Q) := by
    intro e
    induction e with
    | zero =>
      intro k m t hk hm hL hW hS
      obtain ⟨m, rfl⟩ : ∃ m', m = m' + 1 := ⟨m - 1, by omega⟩
      have hk : k = Q + 1 := by omega
      subst hk
      rw [B_X12_works_102]
      refine Ok.t ((hx.lt hL.1).mpr (by omega)) (Ok.some ?_)
      have h := hW (by omega)
      show Rw V X d sl Q (sI t 167 43 x)
      obtain ⟨c1, c2, c3, c4, c5, c6, c7, c8, c9, c10, c11, c12, c13⟩ := h
      have ne : ∀ a j, a ≠ 167 → gI (sI t 167 43 x) a j = gI t a j := fun a j h => g_ne _ _ _ _ h
      have nk : ∀ j, j ≠ 43 → gI (sI t 167 43 x) 167 j = gI t 167 j := fun j h => g_nk _ _ _ h
      refine ⟨fun h hh => ?_, by rw [nk _ (by decide)]; exact c2, by rw [nk _ (by decide)]; exact c3, by rw [nk _ (by decide)]; exact c4, by rw [nk _ (by decide)]; exact c5, by rw [nk _ (by decide)]; exact c6, by rw [nk _ (by decide)]; exact c7, by rw [nk _ (by decide)]; exact c8, by rw [nk _ (by decide)]; exact c9, fun k hk => by rw [ne _ _ (by decide)]; exact c10 k hk, by rw [nk _ (by decide)]; exact c11, fun i hi j hj => ?_, ⟨fun h hh => by rw [ne _ _ (by decide)]; exact c13.1 h hh, by rw [ne _ _ (by decide)]; exact c13.2.1, by rw [ne _ _ (by decide)]; exact c13.2.2.1, fun j a1 a2 => by rw [ne _ _ (by decide)]; exact c13.2.2.2 j a1 a2⟩⟩
      · rw [ne _ _ (by decide), ne _ _ (by decide), ne _ _ (by decide), ne _ _ (by decide), ne _ _ (by decide), ne _ _ (by decide), ne _ _ (by decide), ne _ _ (by decide), ne _ _ (by decide)]; exact c1 h hh
      · obtain ⟨y1, y2⟩ := c12 i hi j hj
        exact ⟨fun h hh => by rw [ne _ _ (by decide)]; exact y1 h hh, by rw [ne _ _ (by decide)]; exact y2⟩
    | succ e ih =>
      intro k m t hk hm hL hW hS
      obtain ⟨m, rfl⟩ : ∃ m', m = m' + 1 := ⟨m - 1, by omega⟩
      obtain ⟨t', e1, l1, w1, f1⟩ := r_quarter (f := f) (m := m) (x := x) hf hV hX0 hX (hR.fr hS) (h0.fr hS) (h1.fr hS) (hin k (by omega)) (by omega) hL (fun c => by have := (hx.lt hL.1).mp c; omega)
      rw [e1]
      exact ih (k + 1) m t' (by omega) (by omega) l1 (fun _ => w1) (hS.tr (Sfr.works f1))
  rw [F_X12_works]
  obtain ⟨v1, e1, a1, a2⟩ := r_w13 (f := f) (x := x) (x3 := x3) (u := sI (sI u 167 42 d) 167 45 0) hf
  obtain ⟨v2, e2, b1, b2⟩ := r_w36 (f := f) (x := x) (x3 := x3) (u := v1) hf
  obtain ⟨v3, e3, c1, c2⟩ := r_w76 (f := f) (x := x) (x3 := x3) (u := v2) hf
  show Ok (B_X12_works_13 f f x x3 0 (sI (sI u 167 42 d) 167 45 0)) _
  rw [e1, e2, e3]
  have w167 : ∀ j, j ≠ 43 → gI (sI v3 167 43 0) 167 j = gI (sI (sI u 167 42 d) 167 45 0) 167 j := fun j hj => by rw [g_nk _ _ _ hj, c2 _ _ (by decide), b2 _ _ (by decide) (by decide) (by decide), a2 _ _ (by decide)]
  have wO : ∀ a j, a ≠ 167 → a ≠ 196 → a ≠ 197 → a ≠ 198 → a ≠ 207 → a ≠ 210 → gI (sI v3 167 43 0) a j = gI u a j := fun a j h1 h2 h3 h4 h5 h6 => by rw [g_ne _ _ _ _ h1, c2 _ _ h6, b2 _ _ h3 h4 h5, a2 _ _ h2, g_ne _ _ _ _ h1, g_ne _ _ _ _ h1]
  have w5 : ∀ j, j ≠ 43 → j ≠ 42 → j ≠ 45 → gI (sI v3 167 43 0) 167 j = gI u 167 j := fun j h1 h2 h3 => by rw [w167 _ h1, g_nk _ _ _ h3, g_nk _ _ _ h2]
  have h12 := hV.1
  refine loop (Q + 1) 0 f _ (by omega) (by omega) ⟨by rw [g_same]; exact nm0, by rw [w167 _ (by decide), g_nk _ _ _ (by decide), g_same], by rw [w167 _ (by decide), g_same]; rfl, fun h hh => ⟨?_, ?_, ?_⟩, fun k hk => ?_, ⟨fun h hh => ?_, ?_, ?_, fun j _ h2 => ?_⟩⟩ (fun c => absurd c (by decide)) ⟨fun a j h1 h2 => wO _ _ (by omega) (by omega) (by omega) (by omega) (by omega) (by omega), w5 _ (by decide) (by decide) (by decide), w5 _ (by decide) (by decide) (by decide), w5 _ (by decide) (by decide) (by decide), w5 _ (by decide) (by decide) (by decide), w5 _ (by decide) (by decide) (by decide)⟩
  · rw [g_ne _ _ _ _ (by decide), c2 _ _ (by decide)]; exact (b1 h (by omega)).1
  · rw [g_ne _ _ _ _ (by decide), c2 _ _ (by decide)]; exact (b1 h (by omega)).2.1
  · rw [g_ne _ _ _ _ (by decide), c2 _ _ (by decide)]; exact (b1 h (by omega)).2.2
  · rw [g_ne _ _ _ _ (by decide), c2 _ _ (by decide), b2 _ _ (by decide) (by decide) (by decide)]; exact a1 k hk
  · rw [g_ne _ _ _ _ (by decide)]; exact c1 h (by omega)
  · rw [g_ne _ _ _ _ (by decide)]; exact c1 12 (by decide)
  · rw [g_ne _ _ _ _ (by decide)]; exact c1 13 (by decide)
  · rw [g_ne _ _ _ _ (by decide)]; exact c1 j (by omega)
end
