/-! ===== a text that was read stays while a quarter is worked ===== -/
theorem CT.fr {u v : MT} {tx how : Nat} {rs : List AR} (h : CT u tx rs how) (hI : ∀ a k, tx ≤ a → gI v a k = gI u a k) (hK : ∀ a k, tx ≤ a → gK v a k = gK u a k) : CT v tx rs how := by
  obtain ⟨⟨c, h1, h2, h3, h4⟩, h5⟩ := h
  refine ⟨⟨c, h1, by rw [hI _ _ (Nat.le_refl _)]; exact h2, by rw [hI _ _ (Nat.le_refl _)]; exact h3, fun s hs => ?_⟩, by rw [hK _ _ (Nat.le_refl _)]; exact h5⟩
  exact (h4 s hs).fr (Nat.le_refl _) (fun k => hI _ _ (by omega)) (fun k => hK _ _ (by omega)) (fun k _ => hI _ _ (by omega))
theorem CT.app {f : Nat} {u v : MT} {tx how a1 : Nat} {x2 : Int32} {rs : List AR} (h : CT u tx rs how) (htx : 128 ≤ tx) (e : F_X10_apply f a1 x2 u = some v) : CT v tx rs how := by
  have fr := fr_F_X10_apply e
  exact h.fr (fun a k ha => fr.1 a k (by simp [nin, wI_X10_apply] <;> omega)) (fun a k ha => fr.2.2 a k (by simp [nin]))
