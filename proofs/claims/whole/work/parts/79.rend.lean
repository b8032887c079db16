/-! ===== the reference: a quarter's end ===== -/
def cnH (s : QS) (g : Nat → Int32) (h : Nat) : Int32 := qA s h * qR s 0 + qB s h * qR s 1 + room s h * qR s 2 - g h * qR s 0
theorem sm_coin {s : QS} {g : Nat → Int32} : ∀ n, sm (cnH s g) n = sm (qA s) n * qR s 0 + sm (qB s) n * qR s 1 + sm (room s) n * qR s 2 - sm g n * qR s 0 := by
  intro n
  induction n with
  | zero => show (0 : Int32) = 0 * qR s 0 + 0 * qR s 1 + 0 * qR s 2 - 0 * qR s 0; grind
  | succ n ih =>
    show sm (cnH s g) n + cnH s g n = (sm (qA s) n + qA s n) * qR s 0 + (sm (qB s) n + qB s n) * qR s 1 + (sm (room s) n + room s n) * qR s 2 - (sm g n + g n) * qR s 0
    rw [ih]; unfold cnH; grind
/-- the POT has the rest -/
theorem pot_eq {s : QS} {g w0 l0 : Nat → Int32} {n : Nat} {pf loss : Int32} (hq : qinv n w0 l0 pf s) (hg : sm g n = pf) : -(sm (cnH s g) n + (qP s * qR s 3 - sm (room s) n * qR s 2)) = esum n s pf loss 9 := by
  rw [sm_coin, hg]
  have h2 := hq.2
  show _ = -((pf - qF s - qP s - pf) * qR s 0 + sm (qB s) n * qR s 1 + sm (room s) n * qR s 2) - (qP s * qR s 3 - sm (room s) n * qR s 2)
  have hA : sm (qA s) n = pf - qF s - qP s := by rw [← h2]; grind
  rw [hA]; grind
theorem lost_eq {st loss : Int32} (h1 : 0 ≤ st.toInt) (h2 : st.toInt ≤ 1000000) (h3 : 0 ≤ loss.toInt) (h4 : loss.toInt ≤ 500) : ((st.toInt64 * loss.toInt64) / 1000).toInt32 = st * loss / 1000 := by
  have hp0 : 0 ≤ st.toInt * loss.toInt := Int.mul_nonneg h1 h3
  have hp1 : st.toInt * loss.toInt ≤ 1000000 * 500 := Int.mul_le_mul h2 h4 h3 (by decide)
  have e1 : (1000 : Int64).toInt = 1000 := rfl
  have e2 : (1000 : Int32).toInt = 1000 := rfl
  have em : (st.toInt64 * loss.toInt64).toInt = st.toInt * loss.toInt := by
    rw [l_mul (by rw [Int32.toInt_toInt64, Int32.toInt_toInt64]; omega) (by rw [Int32.toInt_toInt64, Int32.toInt_toInt64]; omega), Int32.toInt_toInt64, Int32.toInt_toInt64]
  have em2 : (st * loss).toInt = st.toInt * loss.toInt := i_mul (by omega) (by omega)
  refine Int32.toInt_inj.mp ?_
  rw [Int64.toInt_toInt32, Int64.toInt_div_of_ne_right _ _ (by decide), em, e1, Int32.toInt_div_of_ne_right _ _ (by decide), em2, e2, Int.tdiv_eq_ediv_of_nonneg hp0]
  exact Int.bmod_eq_of_le (by omega) (by omega)
/-- behind a quarter -/
def RE2 (n : Nat) (s : QS) (g : Nat → Int32) (pf loss : Int32) (u r : MT) : Prop :=
  (∀ h, h < n → gI r 201 h = qW s h - room s h ∧ gI r 206 h = room s h ∧ gI r 208 h = cnH s g h ∧ gI r 210 h = gI u 210 h + cnH s g h) ∧ gI r 167 63 = esum n s pf loss 6 ∧ gI r 167 64 = esum n s pf loss 3 ∧ gI r 167 65 = esum n s pf loss 8 ∧ gI r 167 66 = esum n s pf loss 9 ∧ gI r 167 62 = esum n s pf loss 5 ∧ gI r 167 45 = esum n s pf loss 4 ∧
  gI r 210 12 = gI u 210 12 + esum n s pf loss 8 ∧ gI r 210 13 = gI u 210 13 + esum n s pf loss 9 ∧ (∀ j, n ≤ j → j < 12 → gI r 210 j = gI u 210 j)
section
variable {f : Nat} {s : QS} {n q : Nat}
theorem r_ends {u : MT} {g w0 l0 : Nat → Int32} {pf loss cap : Int32} (hf : 1300 < f) (hX : XV u s n q) (hQ : QI s n cap) (hq : qinv n w0 l0 pf s) (hg : ∀ h, h < n → gI u 203 h = g h) (hgs : sm g n = pf) (hl : gI u 167 30 = loss) (hl0 : 0 ≤ loss.toInt ∧ loss.toInt ≤ 500) :
    Ok (F_X12_quarterEnds f u) (RE2 n s g pf loss u) := by
  have h12 := hX.n12
  have loop : ∀ (d k : Nat) (x1 x2 : Int32) (v : MT) (m : Nat), k + d = n → Nm x2 k → d < m → x1 = sm (cnH s g) k → gI v 167 63 = sm (room s) k → (∀ a j, a ≠ 201 → a ≠ 206 → a ≠ 208 → a ≠ 210 → (a ≠ 167 ∨ j ≠ 63) → gI v a j = gI u a j) → (∀ h, k ≤ h → h < n → gI v 201 h = qW s h) → (∀ h, h < k → gI v 201 h = qW s h - room s h ∧ gI v 206 h = room s h ∧ gI v 208 h = cnH s g h ∧ gI v 210 h = gI u 210 h + cnH s g h) → (∀ j, k ≤ j → gI v 210 j = gI u 210 j) →
      Ok (B_X12_quarterEnds_9 f m x1 x2 v) (RE2 n s g pf loss u) := by
    intro d
    induction d with
    | zero =>
      intro k x1 x2 v m hk hx hm h1 h63 hfr hhi hlo h210
      obtain ⟨m, rfl⟩ : ∃ m', m = m' + 1 := ⟨m - 1, by omega⟩
      have hkn : k = n := by omega
      subst hkn
      obtain ⟨b1, b2, b3, b4, b5, b6, b7, b8⟩ := hX
      have p2 := b5 2 (by decide)
      have p3 := b5 3 (by decide)
      have v46 : gI v 167 46 = qP s := by rw [hfr _ _ (by decide) (by decide) (by decide) (by decide) (Or.inr (by decide))]; exact b1
      have v45 : gI v 167 45 = qS s := by rw [hfr _ _ (by decide) (by decide) (by decide) (by decide) (Or.inr (by decide))]; exact b2
      have v30 : gI v 167 30 = loss := by rw [hfr _ _ (by decide) (by decide) (by decide) (by decide) (Or.inr (by decide))]; exact hl
      have v2 : gI v 196 2 = qR s 2 := by rw [hfr _ _ (by decide) (by decide) (by decide) (by decide) (Or.inl (by decide))]; exact p2
      have v3 : gI v 196 3 = qR s 3 := by rw [hfr _ _ (by decide) (by decide) (by decide) (by decide) (Or.inl (by decide))]; exact p3
      have hle : gI v 167 31 ≤ x2 := by
        rw [hfr _ _ (by decide) (by decide) (by decide) (by decide) (Or.inr (by decide))]; exact (b7.le hx).mpr (Nat.le_refl _)
      have hpot := pot_eq (loss := loss) hq hgs
      have hlost := lost_eq hQ.2.2.2.1 (by have := hQ.2.2.2.2.1; have := hQ.2.2.2.2.2; omega) hl0.1 hl0.2
      have i12 := h210 12 (by omega)
      have i13 := h210 13 (by omega)
      rw [B_X12_quarterEnds_9]
      refine Ok.t hle (Ok.some ?_)
      have g167 : ∀ (w : MT) (k j : Nat) (y : Int32), gI (sI w 210 k y) 167 j = gI w 167 j := fun w k j y => g_ne _ _ _ _ (by decide)
      have g210 : ∀ (w : MT) (k j : Nat) (y : Int32), gI (sI w 167 k y) 210 j = gI w 210 j := fun w k j y => g_ne _ _ _ _ (by decide)
      have g196a : ∀ (w : MT) (k j : Nat) (y : Int32), gI (sI w 167 k y) 196 j = gI w 196 j := fun w k j y => g_ne _ _ _ _ (by decide)
      have gO : ∀ (w : MT) (a k j : Nat) (y : Int32), (a = 201 ∨ a = 206 ∨ a = 208) → gI (sI w 167 k y) a j = gI w a j := fun w a k j y ha => g_ne _ _ _ _ (by omega)
      have gP : ∀ (w : MT) (a k j : Nat) (y : Int32), (a = 201 ∨ a = 206 ∨ a = 208) → gI (sI w 210 k y) a j = gI w a j := fun w a k j y ha => g_ne _ _ _ _ (by omega)
      refine ⟨fun h hh => ?_, ?_, ?_, ?_, ?_, ?_, ?_, ?_, ?_, fun j hj1 hj2 => ?_⟩
      · have := hlo h hh
        refine ⟨?_, ?_, ?_, ?_⟩
        · rw [gO _ 201 _ _ _ (by omega), gO _ 201 _ _ _ (by omega), gP _ 201 _ _ _ (by omega), gP _ 201 _ _ _ (by omega), gO _ 201 _ _ _ (by omega), gO _ 201 _ _ _ (by omega), gO _ 201 _ _ _ (by omega)]; exact this.1
        · rw [gO _ 206 _ _ _ (by omega), gO _ 206 _ _ _ (by omega), gP _ 206 _ _ _ (by omega), gP _ 206 _ _ _ (by omega), gO _ 206 _ _ _ (by omega), gO _ 206 _ _ _ (by omega), gO _ 206 _ _ _ (by omega)]; exact this.2.1
        · rw [gO _ 208 _ _ _ (by omega), gO _ 208 _ _ _ (by omega), gP _ 208 _ _ _ (by omega), gP _ 208 _ _ _ (by omega), gO _ 208 _ _ _ (by omega), gO _ 208 _ _ _ (by omega), gO _ 208 _ _ _ (by omega)]; exact this.2.2.1
        · rw [g210, g210, g_nk _ _ _ (by omega), g_nk _ _ _ (by omega), g210, g210, g210]; exact this.2.2.2
      · simp [g_at, g167, g210, g196a, h63, esum]
      · simp [g_at, g167, g210, g196a, v46, esum]
      · simp [g_at, g167, g210, g196a, v46, v2, v3, h63, esum]
      · rw [← hpot, h1]; simp [g_at, g167, g210, g196a, v46, v2, v3, h63]
      · simp [g_at, g167, g210, g196a, v45, v30, esum, hlost]
      · simp [g_at, g167, g210, g196a, v45, v30, esum, hlost]
      · simp [g_at, g167, g210, g196a, v46, v2, v3, h63, esum, i12]
      · rw [← hpot, h1]; simp [g_at, g167, g210, g196a, v46, v2, v3, h63, i13]
      · rw [g210, g210, g_nk _ _ _ (by omega), g_nk _ _ _ (by omega), g210, g210, g210]; exact h210 j hj1
    | succ d ih =>
      intro k x1 x2 v m hk hx hm h1 h63 hfr hhi hlo h210
      obtain ⟨m, rfl⟩ : ∃ m', m = m' + 1 := ⟨m - 1, by omega⟩
      have hkn : k < n := by omega
      have bk := hX.2.2.2.1 k hkn
      have w201 := hhi k (Nat.le_refl _) hkn
      have w202 : gI v 202 k = qL s k := by rw [hfr _ _ (by decide) (by decide) (by decide) (by decide) (Or.inl (by decide))]; exact bk.2.1
      have w203 : gI v 203 k = g k := by rw [hfr _ _ (by decide) (by decide) (by decide) (by decide) (Or.inl (by decide))]; exact hg k hkn
      have w204 : gI v 204 k = qA s k := by rw [hfr _ _ (by decide) (by decide) (by decide) (by decide) (Or.inl (by decide))]; exact bk.2.2.2.1
      have w205 : gI v 205 k = qB s k := by rw [hfr _ _ (by decide) (by decide) (by decide) (by decide) (Or.inl (by decide))]; exact bk.2.2.2.2
      have pr : ∀ j, j < 4 → gI v 196 j = qR s j := fun j hj => by rw [hfr _ _ (by decide) (by decide) (by decide) (by decide) (Or.inl (by decide))]; exact hX.2.2.2.2.1 j hj
      have p0 := pr 0 (by decide)
      have p1 := pr 1 (by decide)
      have p2 := pr 2 (by decide)
      have hnle : ¬ gI v 167 31 ≤ x2 := by
        rw [hfr _ _ (by decide) (by decide) (by decide) (by decide) (Or.inr (by decide))]
        exact fun e => by have := (hX.2.2.2.2.2.2.1.le hx).mp e; omega
      have go : ∀ y : Int32, y = room s k → Ok (B_X12_quarterEnds_52 f (fun x1' x2' u' => B_X12_quarterEnds_9 f m x1' x2' u') x1 x2 y x2 v) (RE2 n s g pf loss u) := by
        intro y hy
        rw [B_X12_quarterEnds_52]
        refine Ok.ck (hx.ix (by omega)) ?_
        rw [hx.nat]
        refine Ok.ck (hx.ix (by omega)) (Ok.ck (hx.ix (by omega)) ?_)
        have n1 : ∀ (w : MT) (a b k j : Nat) (z : Int32), b ≠ a → gI (sI w a k z) b j = gI w b j := fun w a b k j z h => g_ne _ _ _ _ h
        refine ih (k + 1) _ _ _ m (by omega) (hx.succ (by omega)) (by omega) ?_ ?_ (fun a j c1 c2 c3 c4 c5 => ?_) (fun h hk1 hh => ?_) (fun h hh => ?_) (fun j hj => ?_)
        · show _ = sm (cnH s g) k + cnH s g k
          rw [h1]
          simp [g_same, g_at, n1, w201, w203, w204, w205, p0, p1, p2, hy, cnH]
        · show _ = sm (room s) k + room s k
          simp [g_same, g_at, n1, h63, hy]
        · rw [n1 _ _ _ _ _ _ c4, n1 _ _ _ _ _ _ c3]
          by_cases e : a = 167
          · subst e
            rw [g_nk _ _ _ (c5.resolve_left (fun e => e rfl)), n1 _ _ _ _ _ _ c1, n1 _ _ _ _ _ _ c2]
            exact hfr _ _ c1 c2 c3 c4 c5
          · rw [n1 _ _ _ _ _ _ e, n1 _ _ _ _ _ _ c1, n1 _ _ _ _ _ _ c2]; exact hfr _ _ c1 c2 c3 c4 c5
        · rw [n1 _ _ _ _ _ _ (by decide), n1 _ _ _ _ _ _ (by decide), n1 _ _ _ _ _ _ (by decide), g_nk _ _ _ (by omega), n1 _ _ _ _ _ _ (by decide)]
          exact hhi h (by omega) hh
        · by_cases e : h = k
          · subst e
            have i210 := h210 h (Nat.le_refl _)
            refine ⟨?_, ?_, ?_, ?_⟩
            · simp [g_same, g_at, n1, w201, hy]
            · simp [g_same, g_at, n1, hy]
            · simp [g_same, g_at, n1, w203, w204, w205, p0, p1, p2, hy, cnH]
            · simp [g_same, g_at, n1, w203, w204, w205, p0, p1, p2, hy, cnH, i210]
          · have := hlo h (by omega)
            refine ⟨?_, ?_, ?_, ?_⟩
            · simp [g_at, n1, e]; exact this.1
            · simp [g_at, n1, e]; exact this.2.1
            · simp [g_at, n1, e]; exact this.2.2.1
            · simp [g_at, n1, e]; exact this.2.2.2
        · rw [g_nk _ _ _ (by omega), n1 _ _ _ _ _ _ (by decide), n1 _ _ _ _ _ _ (by decide), n1 _ _ _ _ _ _ (by decide), n1 _ _ _ _ _ _ (by decide)]
          exact h210 j (by omega)
      rw [B_X12_quarterEnds_9]
      refine Ok.f hnle (Ok.ck (hx.ix (by omega)) ?_)
      rw [hx.nat, w201, w202]
      refine Ok.ite (fun c => go _ ?_) (fun c => go _ ?_)
      · unfold room; rw [if_pos c]
      · unfold room; rw [if_neg c]
  rw [F_X12_quarterEnds]
  refine loop n 0 0 0 _ f (by omega) nm0 (by omega) rfl (g_same _ _ _ _) (fun a j _ _ _ _ c => ?_) (fun h _ hh => by rw [g_ne _ _ _ _ (by decide)]; exact (hX.2.2.2.1 h hh).1) (fun h hh => absurd hh (by omega)) (fun j _ => g_ne _ _ _ _ (by decide))
  by_cases e : a = 167
  · subst e; exact g_nk _ _ _ (c.resolve_left (fun e => e rfl))
  · exact g_ne _ _ _ _ e
end
