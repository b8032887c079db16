/-! ===== the class: a quarter's end, its beginning ===== -/
def esum (n : Nat) (s : QS) (pf loss : Int32) (j : Nat) : Int32 :=
  if j = 0 then pf else if j = 1 then pf - qF s - qP s else if j = 2 then qF s else if j = 3 then qP s else if j = 4 then qS s - qS s * loss / 1000 else if j = 5 then qS s * loss / 1000
  else if j = 6 then sm (room s) n else if j = 7 then sm (fun h => qW s h - room s h) n
  else if j = 8 then qP s * qR s 3 - sm (room s) n * qR s 2
  else if j = 9 then -((pf - qF s - qP s - pf) * qR s 0 + sm (qB s) n * qR s 1 + sm (room s) n * qR s 2) - (qP s * qR s 3 - sm (room s) n * qR s 2)
  else qR s (j - 10)
theorem g116 {u : MT} {k j : Nat} {v : Int32} : gI (sI u 127 k v) 116 j = gI u 116 j := g_ne _ _ _ _ (by decide)
section
variable {f : Nat} {s : QS} {n q : Nat}
theorem WV.sum {u : MT} (h : WV u s n q) {k : Nat} {y : Int32} (h2 : k ≠ 2) (h10 : k < 10) : WV (sI u 127 k y) s n q := by
  obtain ⟨b1, b2, b3, b4, b5, b6, b7, b8⟩ := h
  refine ⟨by rw [g116]; exact b1, by rw [g116]; exact b2, by rw [g_nk _ _ _ (Ne.symm h2)]; exact b3, fun h hh => ?_, fun j hj => by rw [g_nk _ _ _ (by omega)]; exact b5 j hj, by rw [g116]; exact b6, by rw [g_ne _ _ _ _ (by decide)]; exact b7, b8⟩
  rw [g_ne _ _ _ _ (by decide), g_ne _ _ _ _ (by decide), g_ne _ _ _ _ (by decide), g_ne _ _ _ _ (by decide), g_ne _ _ _ _ (by decide)]; exact b4 h hh
theorem c_end {u : MT} {pf loss : Int32} (hf : 1300 < f) (hW : WV u s n q) (h0 : gI u 127 0 = pf) (h6 : gI u 127 6 = 0) (h7 : gI u 127 7 = 0) (hl : gI u 116 2 = loss) : Ok (F_X10_end f u) (fun r => ∀ j, j < 14 → gI r 127 j = esum n s pf loss j) := by
  have h12 := hW.n12
  have loop : ∀ (d k : Nat) (x1 x2 : Int32) (v : MT) (m : Nat), k + d = n → Nm x2 k → d < m → x1 = sm (qB s) k → WV v s n q → gI v 127 0 = pf → gI v 127 6 = sm (room s) k → gI v 127 7 = sm (fun h => qW s h - room s h) k → gI v 116 2 = loss →
      Ok (B_X10_end_4 f m x1 x2 v) (fun r => ∀ j, j < 14 → gI r 127 j = esum n s pf loss j) := by
    intro d
    induction d with
    | zero =>
      intro k x1 x2 v m hk hx hm h1 hv v0 v6 v7 vl
      obtain ⟨m, rfl⟩ : ∃ m', m = m' + 1 := ⟨m - 1, by omega⟩
      have hkn : k = n := by omega
      subst hkn
      obtain ⟨b1, b2, b3, b4, b5, b6, b7, b8⟩ := hv
      have p0 := b5 0 (by decide)
      have p1 := b5 1 (by decide)
      have p2 := b5 2 (by decide)
      have p3 := b5 3 (by decide)
      rw [B_X10_end_4]
      refine Ok.t ((b7.le hx).mpr (Nat.le_refl _)) (Ok.some (fun j hj => ?_))
      rw [h1]
      rcases (show j = 0 ∨ j = 1 ∨ j = 2 ∨ j = 3 ∨ j = 4 ∨ j = 5 ∨ j = 6 ∨ j = 7 ∨ j = 8 ∨ j = 9 ∨ j = 10 ∨ j = 11 ∨ j = 12 ∨ j = 13 by omega) with e | e | e | e | e | e | e | e | e | e | e | e | e | e <;> subst e <;> simp [g_at, g116, esum, b1, b2, b3, v0, v6, v7, vl, p0, p1, p2, p3]
    | succ d ih =>
      intro k x1 x2 v m hk hx hm h1 hv v0 v6 v7 vl
      obtain ⟨m, rfl⟩ : ∃ m', m = m' + 1 := ⟨m - 1, by omega⟩
      have hkn : k < n := by omega
      rw [B_X10_end_4]
      refine Ok.f (fun e => by have := (hv.2.2.2.2.2.2.1.le hx).mp e; omega) (Ok.ck (hx.ix (by omega)) (Ok.bindE (c_room hv hkn hx) ?_))
      dsimp only
      have hv1 : WV (sI v 127 6 (gI v 127 6 + room s k)) s n q := hv.sum (by decide) (by decide)
      refine Ok.bindE (c_room hv1 hkn hx) ?_
      dsimp only
      rw [hx.nat, (hv1.2.2.2.1 k hkn).1, (hv.2.2.2.1 k hkn).2.2.2.2]
      refine ih (k + 1) _ _ _ m (by omega) (hx.succ (by omega)) (by omega) (by rw [h1]; rfl) (hv1.sum (by decide) (by decide)) ?_ ?_ ?_ (by rw [g116, g116]; exact vl)
      · rw [g_nk _ _ _ (by decide), g_nk _ _ _ (by decide)]; exact v0
      · rw [g_nk _ _ _ (by decide), g_same, v6]; rfl
      · rw [g_same, g_nk _ _ _ (by decide), v7]; rfl
  rw [F_X10_end]
  exact loop n 0 0 0 u f (by omega) nm0 (by omega) rfl hW h0 h6 h7 hl
theorem c_begin {u : MT} {x1 x2 x3 : Int32} (hf : 1300 < f) : Ok (F_X10_begin f x1 x2 x3 u) (fun r => (∀ j, j < 14 → gI r 127 j = 0) ∧ gI r 116 3 = x1 ∧ gI r 116 16 = x3 ∧ gI r 116 17 = 0 ∧ gI r 116 4 = 0 ∧ gI r 116 5 = x2) := by
  have loop : ∀ (d k : Nat) (x4 : Int32) (v : MT) (m : Nat), k + d = 14 → Nm x4 k → d < m → (∀ j, j < k → gI v 127 j = 0) → gI v 116 3 = x1 ∧ gI v 116 16 = x3 ∧ gI v 116 17 = 0 ∧ gI v 116 4 = 0 ∧ gI v 116 5 = x2 →
      Ok (B_X10_begin_28 f m x4 v) (fun r => (∀ j, j < 14 → gI r 127 j = 0) ∧ gI r 116 3 = x1 ∧ gI r 116 16 = x3 ∧ gI r 116 17 = 0 ∧ gI r 116 4 = 0 ∧ gI r 116 5 = x2) := by
    intro d
    induction d with
    | zero =>
      intro k x4 v m hk hx hm hz hr
      obtain ⟨m, rfl⟩ : ∃ m', m = m' + 1 := ⟨m - 1, by omega⟩
      rw [B_X10_begin_28]
      exact Ok.t ((Nm.le (show Nm (14 : Int32) 14 from rfl) hx).mpr (by omega)) (Ok.some ⟨fun j hj => hz j (by omega), hr⟩)
    | succ d ih =>
      intro k x4 v m hk hx hm hz hr
      obtain ⟨m, rfl⟩ : ∃ m', m = m' + 1 := ⟨m - 1, by omega⟩
      rw [B_X10_begin_28]
      refine Ok.f (fun e => by have := (Nm.le (show Nm (14 : Int32) 14 from rfl) hx).mp e; omega) (Ok.ck (hx.ix (by omega)) ?_)
      rw [hx.nat]
      refine ih (k + 1) _ _ m (by omega) (hx.succ (by omega)) (by omega) (fun j hj => ?_) (by rw [g116, g116, g116, g116, g116]; exact hr)
      rw [g_at]
      by_cases e : j = k
      · rw [if_pos e]
      · rw [if_neg e]; exact hz j (by omega)
  rw [F_X10_begin]
  refine loop 14 0 0 _ f (by omega) nm0 (by omega) (fun j hj => absurd hj (by omega)) ⟨?_, ?_, ?_, ?_, ?_⟩ <;> simp [g_at]
/-- a house is brought in -/
theorem c_bring {u : MT} {h : Nat} {x wa gi hd : Int32} (hh : h < 12) (hx : Nm x h) : ∃ r, F_X10_bringIn f x wa gi hd u = some r ∧ (∀ j, gI r 117 j = upf (gI u 117) h (wa - own wa gi) j) ∧ (∀ j, gI r 118 j = upf (gI u 118) h (gI u 103 h) j) ∧ (∀ j, gI r 119 j = upf (gI u 119) h hd j) ∧ (∀ j, gI r 120 j = upf (gI u 120) h 0 j) ∧ (∀ j, gI r 121 j = upf (gI u 121) h 0 j) ∧ (∀ j, gI r 126 j = upf (gI u 126) h 0 j) ∧ gI r 116 4 = gI u 116 4 + (gi - own wa gi) ∧ gI r 127 0 = gI u 116 4 + (gi - own wa gi) ∧
    (∀ a k, a ≠ 117 → a ≠ 118 → a ≠ 119 → a ≠ 120 → a ≠ 121 → a ≠ 126 → (a ≠ 116 ∨ k ≠ 4) → (a ≠ 127 ∨ k ≠ 0) → gI r a k = gI u a k) := by
  rw [F_X10_bringIn, ck_p (hx.ix hh), hx.nat]
  refine ⟨_, rfl, fun j => ?_, fun j => ?_, fun j => ?_, fun j => ?_, fun j => ?_, fun j => ?_, ?_, ?_, fun a k h1 h2 h3 h4 h5 h6 h7 h8 => ?_⟩
  · rw [g_ne _ _ _ _ (by decide), g_ne _ _ _ _ (by decide), g_ne _ _ _ _ (by decide), g_ne _ _ _ _ (by decide), g_ne _ _ _ _ (by decide), g_ne _ _ _ _ (by decide), g_ne _ _ _ _ (by decide), g_at]; rfl
  · rw [g_ne _ _ _ _ (by decide), g_ne _ _ _ _ (by decide), g_ne _ _ _ _ (by decide), g_ne _ _ _ _ (by decide), g_at, g_ne _ _ _ _ (by decide), g_ne _ _ _ _ (by decide), g_ne _ _ _ _ (by decide), g_ne _ _ _ _ (by decide), g_ne _ _ _ _ (by decide), g_ne _ _ _ _ (by decide)]; rfl
  · rw [g_ne _ _ _ _ (by decide), g_ne _ _ _ _ (by decide), g_ne _ _ _ _ (by decide), g_at, g_ne _ _ _ _ (by decide), g_ne _ _ _ _ (by decide), g_ne _ _ _ _ (by decide), g_ne _ _ _ _ (by decide)]; rfl
  · rw [g_ne _ _ _ _ (by decide), g_ne _ _ _ _ (by decide), g_at, g_ne _ _ _ _ (by decide), g_ne _ _ _ _ (by decide), g_ne _ _ _ _ (by decide), g_ne _ _ _ _ (by decide), g_ne _ _ _ _ (by decide)]; rfl
  · rw [g_ne _ _ _ _ (by decide), g_at, g_ne _ _ _ _ (by decide), g_ne _ _ _ _ (by decide), g_ne _ _ _ _ (by decide), g_ne _ _ _ _ (by decide), g_ne _ _ _ _ (by decide), g_ne _ _ _ _ (by decide)]; rfl
  · rw [g_at, g_ne _ _ _ _ (by decide), g_ne _ _ _ _ (by decide), g_ne _ _ _ _ (by decide), g_ne _ _ _ _ (by decide), g_ne _ _ _ _ (by decide), g_ne _ _ _ _ (by decide), g_ne _ _ _ _ (by decide)]; rfl
  · rw [g_ne _ _ _ _ (by decide), g_ne _ _ _ _ (by decide), g_ne _ _ _ _ (by decide), g_ne _ _ _ _ (by decide), g_ne _ _ _ _ (by decide), g_ne _ _ _ _ (by decide), g_same, g_ne _ _ _ _ (by decide)]; rfl
  · rw [g_ne _ _ _ _ (by decide), g_ne _ _ _ _ (by decide), g_ne _ _ _ _ (by decide), g_ne _ _ _ _ (by decide), g_ne _ _ _ _ (by decide), g_same, g_same, g_ne _ _ _ _ (by decide)]; rfl
  · rw [g_ne _ _ _ _ h6, g_ne _ _ _ _ h5, g_ne _ _ _ _ h4, g_ne _ _ _ _ h3, g_ne _ _ _ _ h2]
    by_cases e : a = 127
    · subst e
      rw [g_nk _ _ _ (h8.resolve_left (fun e => e rfl)), g_ne _ _ _ _ (by decide), g_ne _ _ _ _ h1]
    · rw [g_ne _ _ _ _ e]
      by_cases e2 : a = 116
      · subst e2
        rw [g_nk _ _ _ (h7.resolve_left (fun e => e rfl)), g_ne _ _ _ _ h1]
      · rw [g_ne _ _ _ _ e2, g_ne _ _ _ _ h1]
end
