/-! ===== LAYOUTS THAT GROW ===== -/
def OldP (w w' : LT) : Prop := ∀ a j, a < w.1 → lt_p w' a j = lt_p w a j
theorem isTx_old {w w' : LT} {t : Nat} (hf : Fre w) (ho : Old w w') (hp : OldP w w') (h : isTx w t) : isTx w' t := by
  obtain ⟨a1, a2, a3, a4, a5, a6, a7, a8⟩ := h
  have n0 : t < w.1 := fre_lt hf (by omega)
  have n1 : t + 1 < w.1 := fre_lt hf (by omega)
  have n2 : t + 2 < w.1 := fre_lt hf (by omega)
  refine ⟨(ho _ n0).1.trans a1, (hp _ 0 n0).trans a2, (ho _ n1).1.trans a3, (ho _ n1).2.trans a4, (hp _ 3 n0).trans a5, (ho _ n2).1.trans a6, (ho _ n2).2.trans a7, fun i hi => ?_⟩
  have n3 : t + 3 + i < w.1 := fre_lt hf (by have := (a8 i hi).2; omega)
  exact ⟨(hp _ i n1).trans (a8 i hi).1, (ho _ n3).1.trans (a8 i hi).2⟩
theorem isTs_old {w w' : LT} {a : Nat} (hf : Fre w) (ho : Old w w') (hp : OldP w w') (h : isTs w a) : isTs w' a := by
  obtain ⟨a1, a2, a3, a4⟩ := h
  have n0 : a < w.1 := fre_lt hf (by omega)
  have n1 : a + 1 < w.1 := fre_lt hf (by omega)
  exact ⟨(ho _ n0).1.trans a1, (hp _ 0 n0).trans a2, (ho _ n1).1.trans a3, (ho _ n1).2.trans a4⟩
theorem isBk_old {w w' : LT} {b ts : Nat} (hf : Fre w) (ho : Old w w') (hp : OldP w w') (h : isBk w b ts) : isBk w' b ts := by
  obtain ⟨a1, a2, a3, a4, a5, ⟨b1, b2, b3⟩, ⟨c1, c2, c3⟩, ⟨d1, d2, d3⟩, ⟨e1, e2, e3⟩, ⟨f1, f2, f3⟩, a6⟩ := h
  have m0 : b < w.1 := fre_lt hf (by omega)
  have m1 : b + 1 < w.1 := fre_lt hf (by omega)
  have m2 : b + 2 < w.1 := fre_lt hf (by omega)
  have m3 : b + 3 < w.1 := fre_lt hf (by omega)
  have m4 : b + 4 < w.1 := fre_lt hf (by omega)
  have m5 : b + 5 < w.1 := fre_lt hf (by omega)
  exact ⟨(ho _ m0).1.trans a1, (hp _ 0 m0).trans a2, (hp _ 1 m0).trans a3, (hp _ 2 m0).trans a4, (hp _ 3 m0).trans a5, ⟨(hp _ 6 m0).trans b1, (ho _ m1).1.trans b2, (ho _ m1).2.trans b3⟩, ⟨(hp _ 7 m0).trans c1, (ho _ m2).1.trans c2, (ho _ m2).2.trans c3⟩, ⟨(hp _ 8 m0).trans d1, (ho _ m3).1.trans d2, (ho _ m3).2.trans d3⟩, ⟨(hp _ 9 m0).trans e1, (ho _ m4).1.trans e2, (ho _ m4).2.trans e3⟩, ⟨(hp _ 10 m0).trans f1, (ho _ m5).1.trans f2, (ho _ m5).2.trans f3⟩, isTs_old hf ho hp a6⟩
theorem Lay_old {w w' : LT} (hf : Fre w) (h : Lay w) (ho : Old w w') (hp : OldP w w') (hT : ∀ t, lt_t w' t = 7 → isTx w' t ∨ lt_t w t = 7) (hB : ∀ b, lt_t w' b = 1 → isBk w' b (lt_p w' b 2) ∨ lt_t w b = 1) : Lay w' := by
  obtain ⟨t1, t2⟩ := Lay_tabs (w' := w') h (fun a ha => ho a (fre_lt hf ha)) (fun q hq => hp _ _ (tabP_lt hf h q hq))
  refine ⟨t1, t2, fun t ht => ?_, fun b hb => ?_⟩
  · rcases hT t ht with q | q
    · exact q
    · exact isTx_old hf ho hp (h.2.2.1 t q)
  · rcases hB b hb with q | q
    · exact q
    · rw [hp b 2 (fre_lt hf (by omega))]
      exact isBk_old hf ho hp (h.2.2.2 b q)
theorem Lay_newtext {w : LT} (u : MT) (hf : Fre w) (h : Lay w) : Lay (WT' w u).1 := by
  obtain ⟨h1, h2, h3, h4, h5, h6, h7, h8⟩ := newtext u hf
  exact Lay_old hf h h2 h3 (fun t ht => (h7 t ht).elim (fun e => Or.inl (e ▸ h4)) Or.inr) (fun b hb => Or.inr (h8 b hb))
/-- the other book, at the number w.1 -/
def WB' (w : LT) (u : MT) : LT × MT := F_X1_init w.1 101 104 138 116 (nwL w 1 0) (nwM w u)
theorem newbook {w : LT} (u : MT) (hf : Fre w) (h : Lay w) : (WB' w u).1.1 = w.1 + 6 ∧ Old w (WB' w u).1 ∧ OldP w (WB' w u).1 ∧ isBk (WB' w u).1 w.1 138 ∧ Fre (WB' w u).1 ∧ OldM w.1 u (WB' w u).2 ∧ Lay (WB' w u).1 := by
  have hts := ts_138 h
  have n138 : 138 < w.1 := fre_lt hf (by rw [hts.1]; decide)
  have kW : ∀ a, lt_t (WB' w u).1 a = if a = w.1 + 5 then 20 else if a = w.1 + 4 then 20 else if a = w.1 + 3 then 20 else if a = w.1 + 2 then 20 else if a = w.1 + 1 then 20 else if a = w.1 then 1 else lt_t w a := fun a => rfl
  have lW : ∀ a, lt_l (WB' w u).1 a = if a = w.1 + 5 then 3360 else if a = w.1 + 4 then 2880 else if a = w.1 + 3 then 2880 else if a = w.1 + 2 then 2880 else if a = w.1 + 1 then 2880 else if a = w.1 then 0 else lt_l w a := fun a => rfl
  have ho : Old w (WB' w u).1 := by
    intro a ha
    rw [kW, lW]
    constructor
    · rw [if_neg (by omega), if_neg (by omega), if_neg (by omega), if_neg (by omega), if_neg (by omega), if_neg (by omega)]
    · rw [if_neg (by omega), if_neg (by omega), if_neg (by omega), if_neg (by omega), if_neg (by omega), if_neg (by omega)]
  have hp : OldP w (WB' w u).1 := by
    intro a j ha
    simp only [WB', F_X1_init, lt_p, sP, nwL, up2]
    simp [show ¬ a = w.1 by omega, show ¬ a = w.1 + 1 by omega, show ¬ a = w.1 + 1 + 1 by omega, show ¬ a = w.1 + 1 + 1 + 1 by omega, show ¬ a = w.1 + 1 + 1 + 1 + 1 by omega, show ¬ a = w.1 + 1 + 1 + 1 + 1 + 1 by omega]
  have hF : Fre (WB' w u).1 := by
    intro a ha
    have ha : w.1 + 6 ≤ a := ha
    rw [kW, if_neg (by omega), if_neg (by omega), if_neg (by omega), if_neg (by omega), if_neg (by omega), if_neg (by omega)]
    exact hf a (by omega)
  have hu : OldM w.1 u (WB' w u).2 := by
    intro a ha
    simp only [WB', F_X1_init, nwM, sP, nwL]
    simp [show ¬ a = w.1 by omega, show ¬ a = w.1 + 1 by omega, show ¬ a = w.1 + 1 + 1 by omega, show ¬ a = w.1 + 1 + 1 + 1 by omega, show ¬ a = w.1 + 1 + 1 + 1 + 1 by omega, show ¬ a = w.1 + 1 + 1 + 1 + 1 + 1 by omega]
  have pb : ∀ j, lt_p (WB' w u).1 w.1 j = if j = 3 then 116 else if j = 2 then 138 else if j = 1 then 104 else if j = 0 then 101 else if j = 10 then w.1 + 5 else if j = 9 then w.1 + 4 else if j = 8 then w.1 + 3 else if j = 7 then w.1 + 2 else if j = 6 then w.1 + 1 else 0 := by
    intro j
    simp only [WB', F_X1_init, lt_p, sP, nwL, up2]
    simp [show ¬ w.1 = w.1 + 1 by omega, show ¬ w.1 = w.1 + 1 + 1 by omega, show ¬ w.1 = w.1 + 1 + 1 + 1 by omega, show ¬ w.1 = w.1 + 1 + 1 + 1 + 1 by omega, show ¬ w.1 = w.1 + 1 + 1 + 1 + 1 + 1 by omega]
  have hb : isBk (WB' w u).1 w.1 138 := by
    refine ⟨?_, ?_, ?_, ?_, ?_, ⟨?_, ?_, ?_⟩, ⟨?_, ?_, ?_⟩, ⟨?_, ?_, ?_⟩, ⟨?_, ?_, ?_⟩, ⟨?_, ?_, ?_⟩, isTs_old hf ho hp hts⟩
    all_goals first | (rw [pb]; rfl) | (rw [kW]; simp) | (rw [lW]; simp)
  refine ⟨rfl, ho, hp, hb, hF, hu, Lay_old hf h ho hp (fun t ht => Or.inr ?_) (fun b hbb => ?_)⟩
  · rw [kW] at ht
    by_cases e : t < w.1
    · rw [if_neg (by omega), if_neg (by omega), if_neg (by omega), if_neg (by omega), if_neg (by omega), if_neg (by omega)] at ht
      exact ht
    · exfalso
      repeat' split at ht
      all_goals first | omega | (have := hf t (by omega); omega)
  · rw [kW] at hbb
    by_cases e : b = w.1
    · subst e
      left
      rw [pb 2]
      exact hb
    · right
      by_cases e2 : b < w.1
      · rw [if_neg (by omega), if_neg (by omega), if_neg (by omega), if_neg (by omega), if_neg (by omega), if_neg (by omega)] at hbb
        exact hbb
      · exfalso
        repeat' split at hbb
        all_goals first | omega | (have := hf b (by omega); omega)
