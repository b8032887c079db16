/-! ===== THE LAYOUT WITH A NEW TEXT ===== -/
/-- what older cells are stays -/
def Old (w w' : LT) : Prop := ∀ a, a < w.1 → lt_t w' a = lt_t w a ∧ lt_l w' a = lt_l w a
def OldM (n : Nat) (u u' : MT) : Prop := ∀ a, a < n → u'.1 a = u.1 a ∧ u'.2.1 a = u.2.1 a ∧ u'.2.2 a = u.2.2 a
theorem nwM_old (w : LT) (u : MT) : OldM w.1 u (nwM w u) := fun a h => ⟨if_neg (Nat.ne_of_lt h), if_neg (Nat.ne_of_lt h), if_neg (Nat.ne_of_lt h)⟩
theorem TxL_spec {b : Nat} : ∀ (n i : Nat) (w : LT) (u : MT), b < w.1 → Fre w →
    (TxL b n i w u).1.1 = w.1 + n ∧ Old w (TxL b n i w u).1 ∧ (∀ a j, a < w.1 → (a ≠ b ∨ j < i) → lt_p (TxL b n i w u).1 a j = lt_p w a j) ∧
    (∀ m, m < n → lt_p (TxL b n i w u).1 b (i + m) = w.1 + m ∧ lt_t (TxL b n i w u).1 (w.1 + m) = 5) ∧ Fre (TxL b n i w u).1 ∧ OldM w.1 u (TxL b n i w u).2 := by
  intro n
  induction n with
  | zero =>
    intro i w u hb hf
    exact ⟨rfl, fun a _ => ⟨rfl, rfl⟩, fun a j _ _ => rfl, fun m hm => absurd hm (Nat.not_lt_zero m), hf, fun a _ => ⟨rfl, rfl, rfl⟩⟩
  | succ n ih =>
    intro i w u hb hf
    have hf1 : Fre (sP (nwL w 5 0) b i w.1) := Fre_nw (k := 5) (n := 0) hf
    have hb1 : b < (sP (nwL w 5 0) b i w.1).1 := Nat.lt_succ_of_lt hb
    obtain ⟨h1, h2, h3, h4, h5, h6⟩ := ih (i + 1) (sP (nwL w 5 0) b i w.1) (nwM w u) hb1 hf1
    have e1 : (sP (nwL w 5 0) b i w.1).1 = w.1 + 1 := rfl
    rw [e1] at h1
    have step : TxL b (n + 1) i w u = TxL b n (i + 1) (sP (nwL w 5 0) b i w.1) (nwM w u) := rfl
    rw [step]
    refine ⟨by rw [h1]; omega, fun a ha => ?_, fun a j ha hj => ?_, fun m hm => ?_, h5, fun a ha => ?_⟩
    · have h7 := h2 a (Nat.lt_succ_of_lt ha)
      exact ⟨h7.1.trans (nw_t (t := 5) (n := 0) ha), h7.2.trans (nw_l (t := 5) (n := 0) ha)⟩
    · have h7 := h3 a j (Nat.lt_succ_of_lt ha) (by omega)
      rw [h7]
      by_cases hab : a = b
      · subst hab
        rw [sP_q (by omega)]
        exact nw_p (t := 5) (n := 0) ha j
      · rw [sP_p hab]
        exact nw_p (t := 5) (n := 0) ha j
    · cases m with
      | zero =>
        refine ⟨?_, ?_⟩
        · rw [h3 b (i + 0) hb1 (Or.inr (by omega))]
          exact sP_e
        · exact (h2 (w.1 + 0) (Nat.lt_succ_self _)).1.trans (nw_n (t := 5) (n := 0))
      | succ m =>
        have h7 := h4 m (by omega)
        rw [e1] at h7
        rw [show i + (m + 1) = i + 1 + m by omega, show w.1 + (m + 1) = w.1 + 1 + m by omega]
        exact h7
    · have h7 := h6 a (Nat.lt_succ_of_lt ha)
      have h8 := nwM_old w u a ha
      exact ⟨h7.1.trans h8.1, h7.2.1.trans h8.2.1, h7.2.2.trans h8.2.2⟩
/-- a new text at the number w.1 -/
def WT' (w : LT) (u : MT) : LT × MT := F_X7_init w.1 (nwL w 7 0) (nwM w u)
theorem newtext {w : LT} (u : MT) (hf : Fre w) : (WT' w u).1.1 = w.1 + 27 ∧ Old w (WT' w u).1 ∧ (∀ a j, a < w.1 → lt_p (WT' w u).1 a j = lt_p w a j) ∧ isTx (WT' w u).1 w.1 ∧ Fre (WT' w u).1 ∧ OldM w.1 u (WT' w u).2 ∧ (∀ t, lt_t (WT' w u).1 t = 7 → t = w.1 ∨ lt_t w t = 7) ∧ ∀ t, lt_t (WT' w u).1 t = 1 → lt_t w t = 1 := by
  have f1 : Fre (nwL w 7 0) := Fre_nw hf
  have f2 : Fre (sP (nwL (nwL w 7 0) 25 24) w.1 0 (w.1 + 1)) := Fre_nw (k := 25) (n := 24) f1
  have f3 : Fre (sP (nwL (sP (nwL (nwL w 7 0) 25 24) w.1 0 (w.1 + 1)) 20 1200) w.1 3 (w.1 + 2)) := Fre_nw (k := 20) (n := 1200) f2
  generalize hw : sP (nwL (sP (nwL (nwL w 7 0) 25 24) w.1 0 (w.1 + 1)) 20 1200) w.1 3 (w.1 + 2) = W at f3
  have hn : W.1 = w.1 + 3 := by rw [← hw]; rfl
  generalize hu : nwM (sP (nwL (nwL w 7 0) 25 24) w.1 0 (w.1 + 1)) (nwM (nwL w 7 0) (nwM w u)) = U
  have hWT : WT' w u = TxL (w.1 + 1) 24 0 W U := by rw [← hw, ← hu]; rfl
  obtain ⟨h1, h2, h3, h4, h5, h6⟩ := TxL_spec (b := w.1 + 1) 24 0 W U (by omega) f3
  rw [hWT]
  have kW : ∀ a, lt_t W a = if a = w.1 + 2 then 20 else if a = w.1 + 1 then 25 else if a = w.1 then 7 else lt_t w a := by intro a; rw [← hw]; rfl
  have lW : ∀ a, lt_l W a = if a = w.1 + 2 then 1200 else if a = w.1 + 1 then 24 else if a = w.1 then 0 else lt_l w a := by intro a; rw [← hw]; rfl
  have pW : ∀ a j, a < w.1 → lt_p W a j = lt_p w a j := by
    intro a j ha
    rw [← hw, sP_p (by omega), nw_p (w := sP (nwL (nwL w 7 0) 25 24) w.1 0 (w.1 + 1)) (t := 20) (n := 1200) (show a < w.1 + 1 + 1 by omega), sP_p (by omega), nw_p (w := nwL w 7 0) (t := 25) (n := 24) (show a < w.1 + 1 by omega), nw_p (t := 7) (n := 0) ha]
  have p0 : lt_p W w.1 0 = w.1 + 1 := by
    rw [← hw, sP_q (by decide), nw_p (w := sP (nwL (nwL w 7 0) 25 24) w.1 0 (w.1 + 1)) (t := 20) (n := 1200) (show w.1 < w.1 + 1 + 1 by omega), sP_e]
  have p3 : lt_p W w.1 3 = w.1 + 2 := by rw [← hw, sP_e]
  have uW : OldM w.1 u U := by
    intro a ha
    rw [← hu]
    have q1 := nwM_old w u a ha
    have q2 := nwM_old (nwL w 7 0) (nwM w u) a (show a < w.1 + 1 by omega)
    have q3 := nwM_old (sP (nwL (nwL w 7 0) 25 24) w.1 0 (w.1 + 1)) (nwM (nwL w 7 0) (nwM w u)) a (show a < w.1 + 1 + 1 by omega)
    exact ⟨q3.1.trans (q2.1.trans q1.1), q3.2.1.trans (q2.2.1.trans q1.2.1), q3.2.2.trans (q2.2.2.trans q1.2.2)⟩
  have kn : ∀ a, w.1 ≤ a → lt_t (TxL (w.1 + 1) 24 0 W U).1 a = 7 → a = w.1 := by
    intro a ha h
    by_cases q : a < W.1
    · rw [(h2 a q).1, kW a] at h
      by_cases e1 : a = w.1 + 2
      · rw [if_pos e1] at h; omega
      · by_cases e2 : a = w.1 + 1
        · rw [if_neg e1, if_pos e2] at h; omega
        · omega
    · by_cases q2 : a < W.1 + 24
      · have h7 := (h4 (a - W.1) (by omega)).2
        rw [show W.1 + (a - W.1) = a by omega] at h7
        omega
      · have := h5 a (by rw [h1]; omega)
        omega
  have k1 : ∀ a, w.1 ≤ a → lt_t (TxL (w.1 + 1) 24 0 W U).1 a ≠ 1 := by
    intro a ha h
    by_cases q : a < W.1
    · rw [(h2 a q).1, kW a] at h
      by_cases e1 : a = w.1 + 2
      · rw [if_pos e1] at h; omega
      · by_cases e2 : a = w.1 + 1
        · rw [if_neg e1, if_pos e2] at h; omega
        · rw [if_neg e1, if_neg e2, if_pos (by omega)] at h; omega
    · by_cases q2 : a < W.1 + 24
      · have h7 := (h4 (a - W.1) (by omega)).2
        rw [show W.1 + (a - W.1) = a by omega] at h7
        omega
      · have := h5 a (by rw [h1]; omega)
        omega
  have oldT : ∀ a, a < w.1 → lt_t (TxL (w.1 + 1) 24 0 W U).1 a = lt_t w a := by
    intro a ha
    rw [(h2 a (by omega)).1, kW a, if_neg (by omega), if_neg (by omega), if_neg (by omega)]
  refine ⟨by rw [h1]; omega, fun a ha => ⟨oldT a ha, ?_⟩, fun a j ha => ?_, ⟨?_, ?_, ?_, ?_, ?_, ?_, ?_, fun i hi => ⟨?_, ?_⟩⟩, h5, fun a ha => ?_, fun t ht => ?_, fun t ht => ?_⟩
  · rw [(h2 a (by omega)).2, lW a, if_neg (by omega), if_neg (by omega), if_neg (by omega)]
  · rw [h3 a j (by omega) (Or.inl (by omega))]; exact pW a j ha
  · rw [(h2 w.1 (by omega)).1, kW, if_neg (by omega), if_neg (by omega), if_pos rfl]
  · rw [h3 w.1 0 (by omega) (Or.inl (by omega))]; exact p0
  · rw [(h2 (w.1 + 1) (by omega)).1, kW, if_neg (by omega), if_pos rfl]
  · rw [(h2 (w.1 + 1) (by omega)).2, lW, if_neg (by omega), if_pos rfl]
  · rw [h3 w.1 3 (by omega) (Or.inl (by omega))]; exact p3
  · rw [(h2 (w.1 + 2) (by omega)).1, kW, if_pos rfl]
  · rw [(h2 (w.1 + 2) (by omega)).2, lW, if_pos rfl]
  · have h7 := (h4 i hi).1
    rw [Nat.zero_add, hn] at h7
    exact h7
  · have h7 := (h4 i hi).2
    rw [hn] at h7
    exact h7
  · have q1 := h6 a (by omega)
    have q2 := uW a ha
    exact ⟨q1.1.trans q2.1, q1.2.1.trans q2.2.1, q1.2.2.trans q2.2.2⟩
  · rcases Nat.lt_or_ge t w.1 with q | q
    · exact Or.inr ((oldT t q).symm.trans ht)
    · exact Or.inl (kn t q ht)
  · rcases Nat.lt_or_ge t w.1 with q | q
    · exact (oldT t q).symm.trans ht
    · exact absurd ht (k1 t q)
