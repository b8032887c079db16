/-! ===== a quarter's work ends and is written ===== -/
def Fin' (b q n : Nat) (s : QS) (pf loss : Int32) (v r : MT) : Prop :=
  (∀ h, h < n → gI r (b + 2) (q * 12 + h) = qA s h ∧ gI r (b + 3) (q * 12 + h) = qB s h ∧ gI r (b + 4) (q * 12 + h) = qH s h) ∧
  (∀ k, k < 14 → gI r (b + 5) (q * 14 + k) = esum n s pf loss k) ∧
  (∀ a j, (a < b + 2 ∨ b + 5 < a) → a ≠ 127 → gI r a j = gI v a j) ∧
  (∀ a j, (a = b + 2 ∨ a = b + 3 ∨ a = b + 4) → (j < q * 12 ∨ q * 12 + n ≤ j) → gI r a j = gI v a j) ∧
  ∀ j, (j < q * 14 ∨ q * 14 + 14 ≤ j) → gI r (b + 5) j = gI v (b + 5) j
theorem c_fin {f : Nat} {v : MT} {b ts q n : Nat} {x pf loss : Int32} {s : QS} (hf : 1300 < f) (hW : WV v s n q) (h0 : gI v 127 0 = pf) (h6 : gI v 127 6 = 0) (h7 : gI v 127 7 = 0) (hl : gI v 116 2 = loss) (hx : Nm x q) (hb : 127 < b) : Ok ((F_X10_end f v).bind fun r22 => (F_X1_write f b ts x r22).bind fun r24 => some r24) (Fin' b q n s pf loss v) := by
  obtain ⟨r, e1, r1⟩ := c_end (f := f) hf hW h0 h6 h7 hl
  have fr : ∀ a j, a ≠ 127 → gI r a j = gI v a j := fun a j ha => (fr_F_X10_end e1).1 a j (by simp [nin, wI_X10_end] <;> omega)
  obtain ⟨_, _, _, a4, _, _, a7, a8, a9⟩ := hW
  refine Ok.bindE e1 ((c_write (f := f) (n := n) (ts := ts) (by omega) hx a9 (by rw [fr _ _ (by omega)]; exact a7) a8 hb).bind (fun t ht => Ok.some ?_))
  obtain ⟨t1, t2, t3, t4, t5⟩ := ht
  refine ⟨fun h hh => ?_, fun k hk => by rw [t2 k hk]; exact r1 k hk, fun a j ha hn => by rw [t3 a j ha]; exact fr a j hn, fun a j ha hj => by rw [t4 a j ha hj]; exact fr a j (by omega), fun j hj => by rw [t5 j hj]; exact fr _ _ (by omega)⟩
  obtain ⟨q1, q2, q3⟩ := t1 h hh
  obtain ⟨_, _, p3, p4, p5⟩ := a4 h hh
  rw [q1, q2, q3, fr _ _ (by omega), fr _ _ (by omega), fr _ _ (by omega)]
  exact ⟨p4, p5, p3⟩
