/-! ===== the reference: hands and chooses ===== -/
/-- what RULE k is told to have given -/
def BD (k n : Nat) (u : MT) (s : QS) (r : MT) (s' : QS) : Prop := (∀ h, h < n → gI r 209 (13 * k + h) - qH s' h = gI u 209 (13 * k + h) - qH s h) ∧ ∀ j, (j < 13 * k ∨ 13 * k + n ≤ j) → gI r 209 j = gI u 209 j
theorem BD.rfl {k n : Nat} {u : MT} {s : QS} : BD k n u s u s := ⟨fun _ _ => Eq.refl _, fun _ _ => Eq.refl _⟩
theorem BD.trans {k n : Nat} {u v w : MT} {s s' s'' : QS} (h : BD k n u s v s') (h' : BD k n v s' w s'') : BD k n u s w s'' := ⟨fun j hj => (h'.1 j hj).trans (h.1 j hj), fun j hj => (h'.2 j hj).trans (h.2 j hj)⟩
theorem BD.fr {k n : Nat} {u v w : MT} {s s' : QS} (h : BD k n u s v s') (e : ∀ j, gI w 209 j = gI v 209 j) : BD k n u s w s' := ⟨fun j hj => by rw [e]; exact h.1 j hj, fun j hj => by rw [e]; exact h.2 j hj⟩
def Flg (u : MT) (n : Nat) (c : Nat → Bool) : Prop := ∀ h, h < n → gI u 212 h = b2i (c h = true)
section
variable {f : Nat} {s : QS} {n q : Nat}
theorem XV.n12 {u : MT} (h : XV u s n q) : n ≤ 12 := h.2.2.2.2.2.2.2.1
theorem r_can {u : MT} (hX : XV u s n q) {h : Nat} (hh : h < n) {x : Int32} (hx : Nm x h) : F_X12_can f x u = some (b2i (can s h = true), u) := by
  have h12 := hX.n12
  have e0 : (0 : Int32).toInt = 0 := rfl
  rw [F_X12_can, ck_p (hx.ix (by omega)), hx.nat, (hX.2.2.2.1 h hh).1, (hX.2.2.2.1 h hh).2.1]
  have hc : can s h = true ↔ (0 < (qW s h).toInt ∧ 0 < (qL s h).toInt) := by
    unfold can room
    rw [decide_eq_true_iff]
    by_cases c : qL s h ≤ qW s h
    · have := i_le.mp c
      rw [if_pos c]; omega
    · have : ¬ (qL s h).toInt ≤ (qW s h).toInt := fun e => c (i_le.mpr e)
      rw [if_neg c]; omega
  by_cases h1 : qW s h ≤ 0
  · have := i_le.mp h1
    rw [if_pos h1, b2i_f (fun e => by have := hc.mp e; omega)]
  · have h1' : ¬ (qW s h).toInt ≤ 0 := fun e => h1 (i_le.mpr (by rw [e0]; exact e))
    rw [if_neg h1]
    by_cases h2 : qL s h ≤ 0
    · have := i_le.mp h2
      rw [if_pos h2, b2i_f (fun e => by have := hc.mp e; omega)]
    · have h2' : ¬ (qL s h).toInt ≤ 0 := fun e => h2 (i_le.mpr (by rw [e0]; exact e))
      rw [if_neg h2, b2i_t (hc.mpr (by omega))]
theorem r_least {u : MT} {h : Nat} : F_X12_least f (qW s h) (qL s h) u = some (room s h, u) := by
  rw [F_X12_least]
  unfold room
  by_cases c : qL s h ≤ qW s h
  · rw [if_pos c, if_pos c]
  · rw [if_neg c, if_neg c]
theorem r_hands {u : MT} (hX : XV u s n q) {k I h src : Nat} (hh : h < n) (hk : k < 24) (hI : I < 192) {x1 x2 x3 x4 : Int32} (hx1 : Nm x1 k) (hx2 : Nm x2 I) (hx3 : Nm x3 h) (hs : gI u 178 I = 0 ↔ src = 9) :
    Ok (F_X12_hands f x1 x2 x3 x4 u) (fun r => XV r (hnd s src h x4) n q ∧ BD k n u s r (hnd s src h x4)) := by
  have h12 := hX.n12
  obtain ⟨b1, b2, b3, b4, b5, b6, b7, b8, b9⟩ := hX
  have bh := b4 h hh
  have h13 : Nm ((13 : Int32) * x1 + x3) (13 * k + h) := Nm.add (Nm.mul (show Nm (13 : Int32) 13 from rfl) hx1 (by omega)) hx3 (by omega)
  rw [F_X12_hands]
  refine Ok.ck (hx3.ix (by omega)) ?_
  rw [hx3.nat]
  refine Ok.ck (h13.ix (by omega)) ?_
  rw [h13.nat]
  refine Ok.ck (hx2.ix hI) ?_
  rw [hx2.nat]
  -- the memory ahead of the source
  have hv : ∃ v, v = sI (sI (sI (sI u 201 h (gI u 201 h - x4)) 202 h (gI (sI u 201 h (gI u 201 h - x4)) 202 h - x4)) 207 h (gI (sI (sI u 201 h (gI u 201 h - x4)) 202 h (gI (sI u 201 h (gI u 201 h - x4)) 202 h - x4)) 207 h + x4)) 209 (13 * k + h) (gI (sI (sI (sI u 201 h (gI u 201 h - x4)) 202 h (gI (sI u 201 h (gI u 201 h - x4)) 202 h - x4)) 207 h (gI (sI (sI u 201 h (gI u 201 h - x4)) 202 h (gI (sI u 201 h (gI u 201 h - x4)) 202 h - x4)) 207 h + x4)) 209 (13 * k + h) + x4) := ⟨_, rfl⟩
  obtain ⟨v, ev⟩ := hv
  dsimp only
  rw [← ev]
  have g201 : ∀ j, gI v 201 j = upf (gI u 201) h (gI u 201 h - x4) j := fun j => by
    rw [ev, g_ne _ _ _ _ (by decide), g_ne _ _ _ _ (by decide), g_ne _ _ _ _ (by decide), g_at]; rfl
  have g202 : ∀ j, gI v 202 j = upf (gI u 202) h (gI u 202 h - x4) j := fun j => by
    rw [ev, g_ne _ _ _ _ (by decide), g_ne _ _ _ _ (by decide), g_at, g_ne _ _ _ _ (by decide), g_ne _ _ _ _ (by decide)]; rfl
  have g207 : ∀ j, gI v 207 j = upf (gI u 207) h (gI u 207 h + x4) j := fun j => by
    rw [ev, g_ne _ _ _ _ (by decide), g_at, g_ne _ _ _ _ (by decide), g_ne _ _ _ _ (by decide), g_ne _ _ _ _ (by decide), g_ne _ _ _ _ (by decide)]; rfl
  have g209 : ∀ j, gI v 209 j = upf (gI u 209) (13 * k + h) (gI u 209 (13 * k + h) + x4) j := fun j => by
    rw [ev, g_at, g_ne _ _ _ _ (by decide), g_ne _ _ _ _ (by decide), g_ne _ _ _ _ (by decide), g_ne _ _ _ _ (by decide), g_ne _ _ _ _ (by decide), g_ne _ _ _ _ (by decide)]; rfl
  have gg : ∀ a j, a ≠ 201 → a ≠ 202 → a ≠ 207 → a ≠ 209 → gI v a j = gI u a j := fun a j e1 e2 e3 e4 => by rw [ev, g_ne _ _ _ _ e4, g_ne _ _ _ _ e3, g_ne _ _ _ _ e2, g_ne _ _ _ _ e1]
  clear ev
  have hu : ∀ (f' g' : Nat → Int32) (y z : Int32) (k : Nat), (∀ j, j < n → f' j = g' j) → y = z → k < n → upf f' h y k = upf g' h z k := fun f' g' y z k e1 e2 hk => by
    unfold upf; by_cases e : k = h
    · rw [if_pos e, if_pos e, e2]
    · rw [if_neg e, if_neg e, e1 k hk]
  have hBD : BD k n u s v (hnd s src h x4) := by
    refine ⟨fun j hj => ?_, fun j hj => ?_⟩
    · rw [g209]
      show _ - upf (qH s) h (qH s h + x4) j = _
      unfold upf
      by_cases e : j = h
      · rw [if_pos (by omega), if_pos e, e]; grind
      · rw [if_neg (by omega), if_neg e]
    · rw [g209]; exact upf_ne (by omega)
  refine Ok.ite (fun h0 => Ok.some ?_) (fun h0 => Ok.some ?_)
  · have h9 : src = 9 := hs.mp (by rw [gg _ _ (by decide) (by decide) (by decide) (by decide)] at h0; exact h0)
    refine ⟨⟨?_, ?_, ?_, fun j hj => ⟨?_, ?_, ?_, ?_, ?_⟩, fun j hj => ?_, ?_, ?_, b8, b9⟩, hBD.fr (fun j => (g_ne _ _ _ _ (by decide)).trans (g_ne _ _ _ _ (by decide)))⟩
    · rw [g_same, g_ne _ _ _ _ (by decide), gg _ _ (by decide) (by decide) (by decide) (by decide), b1]; exact (if_pos h9).symm
    · rw [g_nk _ _ _ (by decide), g_ne _ _ _ _ (by decide), gg _ _ (by decide) (by decide) (by decide) (by decide), b2]; exact (if_pos h9).symm
    · rw [g_nk _ _ _ (by decide), g_ne _ _ _ _ (by decide), gg _ _ (by decide) (by decide) (by decide) (by decide), b3]; rfl
    · rw [g_ne _ _ _ _ (by decide), g_ne _ _ _ _ (by decide), g201]; exact hu _ _ _ _ j (fun j hj => (b4 j hj).1) (by rw [bh.1]) hj
    · rw [g_ne _ _ _ _ (by decide), g_ne _ _ _ _ (by decide), g202]; exact hu _ _ _ _ j (fun j hj => (b4 j hj).2.1) (by rw [bh.2.1]) hj
    · rw [g_ne _ _ _ _ (by decide), g_ne _ _ _ _ (by decide), g207]; exact hu _ _ _ _ j (fun j hj => (b4 j hj).2.2.1) (by rw [bh.2.2.1]) hj
    · rw [g_ne _ _ _ _ (by decide), g_at, gg _ _ (by decide) (by decide) (by decide) (by decide), gg _ _ (by decide) (by decide) (by decide) (by decide)]
      show _ = (if src = 9 then upf (qA s) h (qA s h + x4) else qA s) j
      rw [if_pos h9]
      exact hu (gI u 204) (qA s) _ _ j (fun j hj => (b4 j hj).2.2.2.1) (by rw [bh.2.2.2.1]) hj
    · rw [g_ne _ _ _ _ (by decide), g_ne _ _ _ _ (by decide), gg _ _ (by decide) (by decide) (by decide) (by decide), (b4 j hj).2.2.2.2]
      show _ = (if src = 9 then qB s else upf (qB s) h (qB s h + x4)) j
      rw [if_pos h9]
    · rw [g_ne _ _ _ _ (by decide), g_ne _ _ _ _ (by decide), gg _ _ (by decide) (by decide) (by decide) (by decide)]; exact b5 j hj
    · rw [g_nk _ _ _ (by decide), g_ne _ _ _ _ (by decide), gg _ _ (by decide) (by decide) (by decide) (by decide)]; exact b6
    · rw [g_nk _ _ _ (by decide), g_ne _ _ _ _ (by decide), gg _ _ (by decide) (by decide) (by decide) (by decide)]; exact b7
  · have h9 : ¬ src = 9 := fun e => h0 (by rw [gg _ _ (by decide) (by decide) (by decide) (by decide)]; exact hs.mpr e)
    refine ⟨⟨?_, ?_, ?_, fun j hj => ⟨?_, ?_, ?_, ?_, ?_⟩, fun j hj => ?_, ?_, ?_, b8, b9⟩, hBD.fr (fun j => (g_ne _ _ _ _ (by decide)).trans (g_ne _ _ _ _ (by decide)))⟩
    · rw [g_nk _ _ _ (by decide), g_ne _ _ _ _ (by decide), gg _ _ (by decide) (by decide) (by decide) (by decide), b1]; exact (if_neg h9).symm
    · rw [g_same, g_ne _ _ _ _ (by decide), gg _ _ (by decide) (by decide) (by decide) (by decide), b2]; exact (if_neg h9).symm
    · rw [g_nk _ _ _ (by decide), g_ne _ _ _ _ (by decide), gg _ _ (by decide) (by decide) (by decide) (by decide), b3]; rfl
    · rw [g_ne _ _ _ _ (by decide), g_ne _ _ _ _ (by decide), g201]; exact hu _ _ _ _ j (fun j hj => (b4 j hj).1) (by rw [bh.1]) hj
    · rw [g_ne _ _ _ _ (by decide), g_ne _ _ _ _ (by decide), g202]; exact hu _ _ _ _ j (fun j hj => (b4 j hj).2.1) (by rw [bh.2.1]) hj
    · rw [g_ne _ _ _ _ (by decide), g_ne _ _ _ _ (by decide), g207]; exact hu _ _ _ _ j (fun j hj => (b4 j hj).2.2.1) (by rw [bh.2.2.1]) hj
    · rw [g_ne _ _ _ _ (by decide), g_ne _ _ _ _ (by decide), gg _ _ (by decide) (by decide) (by decide) (by decide), (b4 j hj).2.2.2.1]
      show _ = (if src = 9 then upf (qA s) h (qA s h + x4) else qA s) j
      rw [if_neg h9]
    · rw [g_ne _ _ _ _ (by decide), g_at, gg _ _ (by decide) (by decide) (by decide) (by decide), gg _ _ (by decide) (by decide) (by decide) (by decide)]
      show _ = (if src = 9 then qB s else upf (qB s) h (qB s h + x4)) j
      rw [if_neg h9]
      exact hu (gI u 205) (qB s) _ _ j (fun j hj => (b4 j hj).2.2.2.2) (by rw [bh.2.2.2.2]) hj
    · rw [g_ne _ _ _ _ (by decide), g_ne _ _ _ _ (by decide), gg _ _ (by decide) (by decide) (by decide) (by decide)]; exact b5 j hj
    · rw [g_nk _ _ _ (by decide), g_ne _ _ _ _ (by decide), gg _ _ (by decide) (by decide) (by decide) (by decide)]; exact b6
    · rw [g_nk _ _ _ (by decide), g_ne _ _ _ _ (by decide), gg _ _ (by decide) (by decide) (by decide) (by decide)]; exact b7
theorem XV.flg {u : MT} (h : XV u s n q) (k : Nat) (y : Int32) : XV (sI u 212 k y) s n q := h.fr (fun k _ => g_ne _ _ _ _ (by decide)) (fun a ha k => g_ne _ _ _ _ (by omega))
/-- the most of those that are left -/
theorem hlt_asym {a b : Nat} (h : hlt s a b = true) : hlt s b a = false := by
  unfold hlt at *
  by_cases h1 : (qH s a).toInt < (qH s b).toInt
  · have e : ¬ qH s b = qH s a := fun e => by rw [e] at h1; omega
    rw [decide_eq_false (show ¬ (qH s b).toInt < (qH s a).toInt by omega), decide_eq_false e]; rfl
  · rw [decide_eq_false h1] at h
    by_cases h2 : qH s a = qH s b
    · rw [decide_eq_true h2] at h
      have h3 : a < b := by simpa using h
      rw [decide_eq_false (show ¬ (qH s b).toInt < (qH s a).toInt by rw [h2]; omega), decide_eq_false (show ¬ b < a by omega), Bool.and_false]; rfl
    · rw [decide_eq_false h2] at h; simp at h
theorem r_most {u : MT} (hX : XV u s n q) {c : Nat → Bool} (hc : Flg u n c) {j74 : Int32 → Int32 → MT → Option (Int32 × MT)} {x1 x2 : Int32} {P : Int32 × MT → Prop}
    (hk : ∀ M, M < n → c M = true → (∀ y, y < n → c y = true → y ≠ M → hlt s y M = true) → Ok (j74 x1 (x2 + (-1)) (sI u 212 M 0)) P) (hex : ∃ y, y < n ∧ c y = true) :
    ∀ (d k : Nat) (x3 x4 : Int32) (m : Nat), k + d = n → Nm x4 k → d < m → (x3 = -1 ∧ (∀ y, y < k → c y = false) ∨ ∃ M, Nm x3 M ∧ M < k ∧ c M = true ∧ ∀ y, y < k → c y = true → y ≠ M → hlt s y M = true) →
      Ok (B_X12_chooses_99 f j74 m x1 x2 x3 x4 u) P := by
  have h12 := hX.n12
  intro d
  induction d with
  | zero =>
    intro k x3 x4 m hkd hx4 hm hst
    obtain ⟨m, rfl⟩ : ∃ m', m = m' + 1 := ⟨m - 1, by omega⟩
    have hkn : k = n := by omega
    subst hkn
    rw [B_X12_chooses_99]
    refine Ok.t ((hX.2.2.2.2.2.2.1.le hx4).mpr (Nat.le_refl _)) ?_
    rcases hst with ⟨_, hno⟩ | ⟨M, hM, hMk, hcM, hmax⟩
    · obtain ⟨y, hy, hcy⟩ := hex
      rw [hno y hy] at hcy; exact absurd hcy (by decide)
    · refine Ok.ck (hM.ix (by omega)) ?_
      rw [hM.nat]
      exact hk M hMk hcM hmax
  | succ d ih =>
    intro k x3 x4 m hkd hx4 hm hst
    obtain ⟨m, rfl⟩ : ∃ m', m = m' + 1 := ⟨m - 1, by omega⟩
    have hkn : k < n := by omega
    rw [B_X12_chooses_99]
    refine Ok.f (fun e => by have := (hX.2.2.2.2.2.2.1.le hx4).mp e; omega) (Ok.ck (hx4.ix (by omega)) ?_)
    rw [hx4.nat, hc k hkn]
    cases hck : c k with
    | false =>
      rw [b2i_f (by decide)]
      refine Ok.t rfl ?_
      rw [B_X12_chooses_143, B_X12_chooses_144]
      refine ih (k + 1) x3 _ m (by omega) (hx4.succ (by omega)) (by omega) ?_
      rcases hst with ⟨e, hno⟩ | ⟨M, hM, hMk, hcM, hmax⟩
      · refine Or.inl ⟨e, fun y hy => ?_⟩
        by_cases e : y = k
        · subst e; exact hck
        · exact hno y (by omega)
      · refine Or.inr ⟨M, hM, by omega, hcM, fun y hy hcy hne => ?_⟩
        by_cases e : y = k
        · subst e; rw [hck] at hcy; exact absurd hcy (by decide)
        · exact hmax y (by omega) hcy hne
    | true =>
      rw [b2i_t rfl]
      refine Ok.f ni1 ?_
      have take : (∀ y, y < k → c y = true → hlt s y k = true) → Ok (B_X12_chooses_138 f j74 (fun x1' x2' x3' x4' u' => B_X12_chooses_99 f j74 m x1' x2' x3' x4' u') x1 x2 x4 u) P := by
        intro hlow
        rw [B_X12_chooses_138, B_X12_chooses_144]
        refine ih (k + 1) x4 _ m (by omega) (hx4.succ (by omega)) (by omega) (Or.inr ⟨k, hx4, by omega, hck, fun y hy hcy hne => hlow y (by omega) hcy⟩)
      rcases hst with ⟨e, hno⟩ | ⟨M, hM, hMk, hcM, hmax⟩
      · subst e
        exact Ok.t (by decide) (take (fun y hy hcy => by rw [hno y hy] at hcy; exact absurd hcy (by decide)))
      · have hMi : x3.toInt = (M : Int) := hM
        refine Ok.f (fun e => by have := i_lt.mp e; rw [show (0 : Int32).toInt = 0 from rfl] at this; omega) (Ok.ck (hM.ix (by omega)) ?_)
        rw [hM.nat, (hX.2.2.2.1 k hkn).2.2.1, (hX.2.2.2.1 M (by omega)).2.2.1]
        refine Ok.ite (fun hl => ?_) (fun hl => ?_)
        · rw [B_X12_chooses_143, B_X12_chooses_144]
          refine ih (k + 1) x3 _ m (by omega) (hx4.succ (by omega)) (by omega) (Or.inr ⟨M, hM, by omega, hcM, fun y hy hcy hne => ?_⟩)
          by_cases e : y = k
          · subst e; unfold hlt; rw [decide_eq_true (i_lt.mp hl)]; rfl
          · exact hmax y (by omega) hcy hne
        · have hge : ¬ (qH s k).toInt < (qH s M).toInt := fun e => hl (i_lt.mpr e)
          refine take (fun y hy hcy => ?_)
          have hyM : ¬ (qH s M).toInt < (qH s y).toInt := by
            by_cases e : y = M
            · subst e; omega
            · have h := hmax y hy hcy e
              have h2 := hlt_asym h
              intro h3
              unfold hlt at h2
              rw [decide_eq_true h3] at h2; simp at h2
          unfold hlt
          by_cases e1 : (qH s y).toInt < (qH s k).toInt
          · rw [decide_eq_true e1]; rfl
          · have e2 : qH s y = qH s k := Int32.toInt_inj.mp (by omega)
            rw [decide_eq_false e1, decide_eq_true e2, decide_eq_true hy]; rfl
end
