/-! ===== behind bringing in: the quarter's beginning ===== -/
theorem wv_bgn {u v r : MT} {b q n : Nat} {x x2 st : Int32} {ri : Nat → Option Nat} {wa gi hd be pr : Nat → Int32} (hW : Wb b q x x2 u v) (hB : Bgk b q n ri wa gi hd be v r) (hx : Nm x q) (hq : q < 240) (hn : Nm (gI u 101 2) n) (h12 : n ≤ 12) (hb : 127 < b) (hst : st = if q = 0 then 0 else gI u (b + 5) ((q - 1) * 14 + 4)) (hpr : ∀ k, k < 4 → pr k = if q = 0 then 0 else gI u (b + 5) ((q - 1) * 14 + (10 + k))) :
    WV r (bgn n st wa gi hd pr be) n q ∧ gI r 116 16 = x2 ∧ gI r 116 17 = 0 ∧ (∀ h, h < n → gI r 126 h = 0) ∧ gI r 127 0 = sm (gft wa gi) n := by
  obtain ⟨w1, w2, w3, w4, w5, w6, w7, w8, _⟩ := hW
  obtain ⟨b1, b2, b3, b4, b5, _⟩ := hB
  refine ⟨⟨b2, ?_, ?_, fun h hh => ?_, fun k hk => ?_, ?_, ?_, h12, hq⟩, ?_, ?_, fun h hh => (b1 h hh).2.2.2.2.2, b3⟩
  · rw [b5 _ _ (by omega) (by omega) (by omega) (by omega), w7]; exact hst.symm
  · rw [b5 _ _ (by omega) (by omega) (by omega) (by omega)]; exact w1 2 (by omega)
  · obtain ⟨c1, c2, c3, c4, c5, _⟩ := b1 h hh
    exact ⟨c1, c2, c3, c4, c5⟩
  · rw [b5 _ _ (by omega) (by omega) (by omega) (by omega), w2 k hk]; exact (hpr k hk).symm
  · rw [b5 _ _ (by omega) (by omega) (by omega) (by omega), w3]; exact hx
  · rw [b5 _ _ (by omega) (by omega) (by omega) (by omega), w8 _ _ (by omega) (by omega)]; exact hn
  · rw [b5 _ _ (by omega) (by omega) (by omega) (by omega)]; exact w4
  · rw [b5 _ _ (by omega) (by omega) (by omega) (by omega)]; exact w5
