/-! ===== a RULE leaves the other sums ===== -/
theorem ap35_sums {f a1 a3 : Nat} {x2 : Int32} {u r : MT} {j : Nat} (h : B_X10_apply_35 f a1 x2 a3 u = some r) (h8 : gK u a3 0 = 19 → (gI u a3 8).toNatClampNeg ≠ j) (h2 : j ≠ 2) : gI r 127 j = gI u 127 j := by
  have k116 : ∀ s0, B_X10_apply_116 f s0 a3 a1 x2 a1 u = some r → gI r 127 j = gI u 127 j := by
    intro s0 h
    rw [B_X10_apply_116] at h
    obtain ⟨r1, e1, h⟩ := Option.bind_eq_some_iff.mp h
    obtain ⟨r2, e2, h⟩ := Option.bind_eq_some_iff.mp h
    obtain rfl := Option.some.inj h
    rw [(fr_F_X10_give e2).1 127 j (by simp [nin, wI_X10_give]), (fr_F_X10_amount e1).1 127 j (by simp [nin, wI_X10_amount])]
  rw [B_X10_apply_35] at h
  unfold ck at h
  split at h
  · split at h
    · rename_i c19
      split at h
      · obtain rfl := Option.some.inj h
        exact g_nk _ _ _ (fun e => h8 c19 e.symm)
      · cases h
    · split at h
      · obtain ⟨r1, e1, h⟩ := Option.bind_eq_some_iff.mp h
        obtain ⟨r2, e2, h⟩ := Option.bind_eq_some_iff.mp h
        obtain rfl := Option.some.inj h
        rw [(fr_F_X10_fill e2).1 127 j (by simp [nin, wI_X10_fill] <;> omega), (fr_F_X10_amount e1).1 127 j (by simp [nin, wI_X10_amount])]
      · split at h
        · split at h
          · exact k116 _ h
          · exact k116 _ h
        · cases h
  · cases h
theorem ap_sums {f a1 : Nat} {x2 : Int32} {u r : MT} {i j : Nat} (hx : Nm x2 i) (ha : 128 ≤ a1) (h : F_X10_apply f a1 x2 u = some r) (h8 : gK u (a1 + 3 + i) 0 = 19 → (gI u (a1 + 3 + i) 8).toNatClampNeg ≠ j) (h2 : j ≠ 2) : gI r 127 j = gI u 127 j := by
  rw [F_X10_apply] at h
  unfold ck at h
  rw [hx.nat] at h
  split at h
  · split at h
    · exact ap35_sums h h8 h2
    · obtain ⟨r1, e1, h⟩ := Option.bind_eq_some_iff.mp h
      have fr := fr_F_X10_value e1
      have e0 : gI r1.2 127 j = gI u 127 j := fr.1 127 j (by simp [nin, wI_X10_value])
      split at h
      · obtain rfl := Option.some.inj h
        exact e0
      · rw [← e0]
        exact ap35_sums h (by rw [fr.1 (a1 + 3 + i) 8 (by simp [nin, wI_X10_value] <;> omega), fr.2.2 (a1 + 3 + i) 0 (by simp [nin])]; exact h8) h2
  · cases h
