/-! ===== the class reads a text ===== -/
def codeOk (l : List Int32) : Prop := l = [] ∨ (hts l 0 = some 1 ∧ ∀ x ∈ l, vit x)
theorem pE_ok {E : ET} (hE : TE E) {i : Nat} (hi : i ≤ tL E) (h0 : (pE E i).1 = 0) : codeOk (pE E i).2.2 := by
  obtain ⟨h1, _, h3⟩ := pL_hts hE _ _ _ _ _ _ (pE_eq hE hi) hi h0 (Or.inl rfl)
  exact Or.inr ⟨h3 0 (by omega), h1⟩
/-- a RULE as it must be -/
def RV (hn : Int) (r : AR) : Prop :=
  (rAct r = 17 ∨ rAct r = 18 ∨ rAct r = 19) ∧ codeOk (rWhen r) ∧ codeOk (rAmt r) ∧ (rAct r = 19 → 10 ≤ rPri r ∧ rPri r ≤ 13 ∧ 0 ≤ (rNum r).toInt ∧ (rNum r).toInt ≤ 100) ∧
  (rAct r = 17 → (rSrc r = 9 ∨ rSrc r = 10) ∧ (rWho r = 24 ∨ (rWho r = 25 ∧ 0 ≤ (rNum r).toInt ∧ (rNum r).toInt < hn) ∨ (rWho r = 26 ∧ 1 ≤ (rNum r).toInt ∧ (rNum r).toInt ≤ 12)) ∧ 27 ≤ rWay r ∧ rWay r ≤ 29)
theorem pAmt_far {E : ET} (hE : TE E) {i : Nat} (hi : i ≤ tL E) : ((pAmt E i).1 = 0 → i < (pAmt E i).2.1 ∧ (pAmt E i).2.1 ≤ tL E ∧ (pAmt E i).2.2.length + i ≤ (pAmt E i).2.1 ∧ codeOk (pAmt E i).2.2) ∧ ((pAmt E i).1 ≠ 0 → (pAmt E i).2.1 ≤ tL E ∧ ((pAmt E i).1 = 1 ∨ (pAmt E i).1 = 5)) := by
  unfold pAmt
  by_cases h : tT E i = 24
  · rw [if_pos h]
    exact ⟨fun _ => ⟨Nat.lt_succ_self i, hE.lt hi (by omega), by show 0 + i ≤ i + 1; omega, Or.inl rfl⟩, fun h => absurd rfl h⟩
  · rw [if_neg h]
    have hf := pE_far hE hi
    exact ⟨fun h0 => ⟨(hf.1 h0).1, (hf.1 h0).2.1, (hf.1 h0).2.2.1, pE_ok hE hi h0⟩, fun h0 => (hf.2 h0).2⟩
theorem pWays_far {E : ET} (hE : TE E) {hn : Int} {i : Nat} (hi : i ≤ tL E) :
    ((pWays E hn i).1 = 0 → i < (pWays E hn i).2.1 ∧ (pWays E hn i).2.1 ≤ tL E ∧ ((pWays E hn i).2.2.1 = 9 ∨ (pWays E hn i).2.2.1 = 10) ∧ ((pWays E hn i).2.2.2.1 = 24 ∨ ((pWays E hn i).2.2.2.1 = 25 ∧ 0 ≤ (pWays E hn i).2.2.2.2.1.toInt ∧ (pWays E hn i).2.2.2.2.1.toInt < hn) ∨ ((pWays E hn i).2.2.2.1 = 26 ∧ 1 ≤ (pWays E hn i).2.2.2.2.1.toInt ∧ (pWays E hn i).2.2.2.2.1.toInt ≤ 12)) ∧ 27 ≤ (pWays E hn i).2.2.2.2.2 ∧ (pWays E hn i).2.2.2.2.2 ≤ 29) ∧
    ((pWays E hn i).1 ≠ 0 → (pWays E hn i).2.1 ≤ tL E ∧ ((pWays E hn i).1 = 1 ∨ (pWays E hn i).1 = 4)) := by
  unfold pWays
  by_cases h21 : tT E i = 21
  · have l1 := hE.lt hi (show tT E i ≠ 2 by omega)
    rw [if_pos h21]
    by_cases h9 : tT E (i + 1) = 9 ∨ tT E (i + 1) = 10
    · have l2 := hE.lt (show i + 1 ≤ tL E from l1) (show tT E (i + 1) ≠ 2 by omega)
      rw [if_pos h9]
      by_cases h22 : tT E (i + 2) = 22
      · have l3 := hE.lt (show i + 2 ≤ tL E from l2) (show tT E (i + 2) ≠ 2 by omega)
        have hw := pWhom_far hE (hn := hn) (i := i + 3) l3
        rw [if_pos h22]
        by_cases hk : (pWhom E hn (i + 3)).1 = 0
        · rw [if_pos hk]
          have hw2 := hw.2.1 hk
          by_cases h23 : tT E (pWhom E hn (i + 3)).2.1 = 23
          · have l4 := hE.lt hw.1 (show tT E (pWhom E hn (i + 3)).2.1 ≠ 2 by omega)
            rw [if_pos h23]
            by_cases h27 : 27 ≤ tT E ((pWhom E hn (i + 3)).2.1 + 1) ∧ tT E ((pWhom E hn (i + 3)).2.1 + 1) ≤ 29
            · have l5 := hE.lt (show (pWhom E hn (i + 3)).2.1 + 1 ≤ tL E from l4) (show tT E ((pWhom E hn (i + 3)).2.1 + 1) ≠ 2 by omega)
              rw [if_pos h27]
              refine ⟨fun _ => ⟨by show i < (pWhom E hn (i + 3)).2.1 + 2; omega, l5, h9, ?_, h27⟩, fun h => absurd rfl h⟩
              rcases hw2.2 with e | ⟨e, e1, e2⟩ | ⟨e, e1, e2⟩
              · exact Or.inl e.symm
              · exact Or.inr (Or.inl ⟨e.symm, e1, e2⟩)
              · exact Or.inr (Or.inr ⟨e.symm, e1, e2⟩)
            · rw [if_neg h27]; exact ⟨fun h => absurd h ne1, fun _ => ⟨l4, Or.inl rfl⟩⟩
          · rw [if_neg h23]; exact ⟨fun h => absurd h ne1, fun _ => ⟨hw.1, Or.inl rfl⟩⟩
        · rw [if_neg hk]; exact ⟨fun h => absurd h hk, fun _ => ⟨hw.1, hw.2.2 hk⟩⟩
      · rw [if_neg h22]; exact ⟨fun h => absurd h ne1, fun _ => ⟨l2, Or.inl rfl⟩⟩
    · rw [if_neg h9]; exact ⟨fun h => absurd h ne1, fun _ => ⟨l1, Or.inl rfl⟩⟩
  · rw [if_neg h21]; exact ⟨fun h => absurd h ne1, fun _ => ⟨hi, Or.inl rfl⟩⟩
theorem pPri_in {t : Nat} (h : pPri t ≠ 0) : 10 ≤ pPri t ∧ pPri t ≤ 13 := by
  unfold pPri at *
  split at h
  · simp_all
  · split at h
    · simp_all
    · split at h
      · simp_all
      · split at h
        · simp_all
        · exact absurd rfl h
theorem pAct_far {E : ET} (hE : TE E) {hn : Int} {w : List Int32} (hw : codeOk w) {i : Nat} (hi : i ≤ tL E) :
    ((pAct E hn w i).1 = 0 → i < (pAct E hn w i).2.1 ∧ (pAct E hn w i).2.1 ≤ tL E ∧ (rAmt (pAct E hn w i).2.2).length + i ≤ (pAct E hn w i).2.1 ∧ rWhen (pAct E hn w i).2.2 = w ∧ RV hn (pAct E hn w i).2.2) ∧
    ((pAct E hn w i).1 ≠ 0 → (pAct E hn w i).2.1 ≤ tL E ∧ ((pAct E hn w i).1 = 1 ∨ (pAct E hn w i).1 = 4 ∨ (pAct E hn w i).1 = 5)) := by
  unfold pAct
  by_cases h19 : tT E i = 19
  · have l1 := hE.lt hi (show tT E i ≠ 2 by omega)
    rw [if_pos h19]
    by_cases hp : pPri (tT E (i + 1)) = 0
    · rw [if_pos hp]; exact ⟨fun h => absurd h ne1, fun _ => ⟨l1, Or.inl rfl⟩⟩
    · have l2 := hE.lt (show i + 1 ≤ tL E from l1) (fun e => by rw [e] at hp; exact hp rfl)
      have hf := pNum_far hE (lo := 0) (hi := 100) (i := i + 2) l2
      rw [if_neg hp]
      constructor
      · intro h0
        have hh := hf.1 h0
        refine ⟨by show i < (pNum E 0 100 (i + 2)).2; omega, by show (pNum E 0 100 (i + 2)).2 ≤ _; omega, by show 0 + i ≤ (pNum E 0 100 (i + 2)).2; omega, rfl, Or.inr (Or.inr rfl), hw, Or.inl rfl, fun _ => ?_, fun h => absurd h (by show ¬ (19 : Nat) = 17; decide)⟩
        exact ⟨(pPri_in hp).1, (pPri_in hp).2, hh.2.1, hh.2.2.1⟩
      · intro h0
        have hh := hf.2 h0
        refine ⟨by show (pNum E 0 100 (i + 2)).2 ≤ _; omega, ?_⟩
        rcases hh.2 with e | e
        · exact Or.inl e
        · exact Or.inr (Or.inl e)
  · rw [if_neg h19]
    by_cases h17 : tT E i = 17 ∨ tT E i = 18
    · have l1 := hE.lt hi (show tT E i ≠ 2 by omega)
      have ha := pAmt_far hE (i := i + 1) l1
      rw [if_pos h17]
      by_cases hp : (pAmt E (i + 1)).1 = 0
      · have ha1 := ha.1 hp
        rw [if_pos hp]
        by_cases h18 : tT E i = 18
        · rw [if_pos h18]
          refine ⟨fun _ => ⟨by show i < (pAmt E (i + 1)).2.1; omega, ha1.2.1, by show (pAmt E (i + 1)).2.2.length + i ≤ (pAmt E (i + 1)).2.1; omega, rfl, Or.inr (Or.inl rfl), hw, ha1.2.2.2, fun h => absurd h (by show ¬ (18 : Nat) = 19; decide), fun h => absurd h (by show ¬ (18 : Nat) = 17; decide)⟩, fun h => absurd rfl h⟩
        · rw [if_neg h18]
          have hy := pWays_far hE (hn := hn) (i := (pAmt E (i + 1)).2.1) ha1.2.1
          constructor
          · intro h0
            have hy1 := hy.1 h0
            exact ⟨by show i < (pWays E hn (pAmt E (i + 1)).2.1).2.1; omega, hy1.2.1, by show (pAmt E (i + 1)).2.2.length + i ≤ (pWays E hn (pAmt E (i + 1)).2.1).2.1; omega, rfl, Or.inl rfl, hw, ha1.2.2.2, fun h => absurd h (by show ¬ (17 : Nat) = 19; decide), fun _ => hy1.2.2⟩
          · intro h0
            have hy1 := hy.2 h0
            refine ⟨hy1.1, ?_⟩
            rcases hy1.2 with e | e
            · exact Or.inl e
            · exact Or.inr (Or.inl e)
      · rw [if_neg hp]
        have ha1 := ha.2 hp
        refine ⟨fun h => absurd h hp, fun _ => ⟨ha1.1, ?_⟩⟩
        rcases ha1.2 with e | e
        · exact Or.inl e
        · exact Or.inr (Or.inr e)
    · rw [if_neg h17]; exact ⟨fun h => absurd h ne1, fun _ => ⟨hi, Or.inl rfl⟩⟩
theorem pWhen_far {E : ET} (hE : TE E) {i : Nat} (hi : i ≤ tL E) (hb : 16 ≤ tT E i ∧ tT E i ≤ 19) : ((pWhen E i).1 = 0 → i ≤ (pWhen E i).2.1 ∧ (pWhen E i).2.1 ≤ tL E ∧ (pWhen E i).2.2.length + i ≤ (pWhen E i).2.1 ∧ codeOk (pWhen E i).2.2) ∧ ((pWhen E i).1 ≠ 0 → (pWhen E i).2.1 ≤ tL E ∧ ((pWhen E i).1 = 1 ∨ (pWhen E i).1 = 5)) := by
  unfold pWhen
  by_cases h : tT E i = 16
  · rw [if_pos h]
    have l1 := hE.lt hi (show tT E i ≠ 2 by omega)
    have hf := pE_far hE (i := i + 1) l1
    exact ⟨fun h0 => ⟨by have := (hf.1 h0).1; omega, (hf.1 h0).2.1, by have := (hf.1 h0).2.2.1; omega, pE_ok hE l1 h0⟩, fun h0 => (hf.2 h0).2⟩
  · rw [if_neg h]
    exact ⟨fun _ => ⟨Nat.le_refl _, hi, by show 0 + i ≤ i; omega, Or.inl rfl⟩, fun h => absurd rfl h⟩
theorem pRule_far {E : ET} (hE : TE E) {hn : Int} {cnt i : Nat} (hi : i ≤ tL E) :
    ((pRule E hn cnt i).1 = 0 → i < (pRule E hn cnt i).2.1 ∧ (pRule E hn cnt i).2.1 ≤ tL E ∧ RV hn (pRule E hn cnt i).2.2 ∧ cnt < 24 ∧ (rWhen (pRule E hn cnt i).2.2).length + (rAmt (pRule E hn cnt i).2.2).length + i < (pRule E hn cnt i).2.1) ∧
    ((pRule E hn cnt i).1 ≠ 0 → (pRule E hn cnt i).2.1 ≤ tL E ∧ ((pRule E hn cnt i).1 = 1 ∨ (pRule E hn cnt i).1 = 4 ∨ (pRule E hn cnt i).1 = 5)) := by
  unfold pRule
  by_cases hb : 16 ≤ tT E i ∧ tT E i ≤ 19
  · rw [if_pos hb]
    by_cases hc : cnt < 24
    · rw [if_pos hc]
      have hw := pWhen_far hE hi hb
      by_cases h0 : (pWhen E i).1 = 0
      · have hw1 := hw.1 h0
        rw [if_pos h0]
        have ha := pAct_far hE (hn := hn) hw1.2.2.2 (i := (pWhen E i).2.1) hw1.2.1
        by_cases h1 : (pAct E hn (pWhen E i).2.2 (pWhen E i).2.1).1 = 0
        · have ha1 := ha.1 h1
          rw [if_pos h1]
          by_cases h6 : tT E (pAct E hn (pWhen E i).2.2 (pWhen E i).2.1).2.1 = 6
          · have l := hE.lt ha1.2.1 (show tT E (pAct E hn (pWhen E i).2.2 (pWhen E i).2.1).2.1 ≠ 2 by omega)
            rw [if_pos h6]
            refine ⟨fun _ => ⟨by show i < (pAct E hn (pWhen E i).2.2 (pWhen E i).2.1).2.1 + 1; omega, l, ha1.2.2.2.2, hc, ?_⟩, fun h => absurd rfl h⟩
            show (rWhen (pAct E hn (pWhen E i).2.2 (pWhen E i).2.1).2.2).length + (rAmt (pAct E hn (pWhen E i).2.2 (pWhen E i).2.1).2.2).length + i < (pAct E hn (pWhen E i).2.2 (pWhen E i).2.1).2.1 + 1
            rw [ha1.2.2.2.1]; omega
          · rw [if_neg h6]; exact ⟨fun h => absurd h ne1, fun _ => ⟨ha1.2.1, Or.inl rfl⟩⟩
        · rw [if_neg h1]; exact ⟨fun h => absurd h h1, fun _ => ha.2 h1⟩
      · rw [if_neg h0]
        have hw1 := hw.2 h0
        refine ⟨fun h => absurd h h0, fun _ => ⟨hw1.1, ?_⟩⟩
        rcases hw1.2 with e | e
        · exact Or.inl e
        · exact Or.inr (Or.inr e)
    · rw [if_neg hc]; exact ⟨fun h => absurd h ne5, fun _ => ⟨hi, Or.inr (Or.inr rfl)⟩⟩
  · rw [if_neg hb]; exact ⟨fun h => absurd h ne1, fun _ => ⟨hi, Or.inl rfl⟩⟩
/-! the class -/
abbrev wP (tx : Nat) : WL := [(112, 1, 0), (tx, 27, 0)]
abbrev kP (tx : Nat) : WL := [(tx, 27, 0)]
theorem wide_A {tx s : Nat} (hs : s < 24) {u v : MT} (h : Fr (wA tx (tx + 3 + s)) [] (kA (tx + 3 + s)) u v) : Fr (wP tx) [] (kP tx) u v := by
  refine ⟨fun a k hn => h.1 a k ?_, h.2.1, fun a k hn => h.2.2 a k ?_⟩
  · simp only [nin] at hn ⊢
    obtain ⟨h1, h2, _⟩ := hn
    refine ⟨?_, ?_, ?_, ?_, ?_, ?_, ?_, ?_, trivial⟩ <;> intro e1 e2 <;> first | exact absurd rfl (h1 e1 e2).1 | exact absurd rfl (h2 (by omega) (by omega)).1
  · simp only [nin] at hn ⊢
    obtain ⟨h2, _⟩ := hn
    refine ⟨?_, ?_, ?_, ?_, trivial⟩ <;> intro e1 e2 <;> exact absurd rfl (h2 (by omega) (by omega)).1
theorem wide_E {tx : Nat} {u v : MT} (h : Fr (wE tx) [] [] u v) : Fr (wP tx) [] (kP tx) u v := by
  refine ⟨fun a k hn => h.1 a k ?_, h.2.1, fun a k hn => h.2.2 a k trivial⟩
  simp only [nin] at hn ⊢
  obtain ⟨h1, h2, _⟩ := hn
  refine ⟨?_, ?_, ?_, ?_, trivial⟩ <;> intro e1 e2 <;> first | exact absurd rfl (h1 e1 e2).1 | exact absurd rfl (h2 (by omega) (by omega)).1
theorem Fr_in {tx a k : Nat} {x : Int32} {u v : MT} (h : Fr (wP tx) [] (kP tx) u v) (h1 : tx ≤ a) (h2 : a < tx + 27) : Fr (wP tx) [] (kP tx) u (sI v a k x) :=
  ⟨fun b j hn => by
    have hb : b ≠ a := fun e => by
      simp only [nin] at hn
      exact absurd rfl (hn.2.1 (by omega) (by omega)).1
    rw [g_ne _ _ _ _ hb]; exact h.1 b j hn, h.2.1, h.2.2⟩
def CUp (E : ET) (tx s : Nat) (u : MT) (c : Nat) (p : Nat × Nat × AR) (r : Int32 × MT) : Prop :=
  (p.1 = 0 → CS E p.2.1 r.2 ∧ Nm (gI r.2 tx 1) (s + 1) ∧ (∃ c', c' ≤ p.2.1 ∧ c ≤ c' ∧ Nm (gI r.2 tx 4) c' ∧ CR r.2 tx (tx + 3 + s) c' p.2.2) ∧ (∀ k, k < c → gI r.2 (tx + 2) k = gI u (tx + 2) k) ∧ (gI r.2 112 6 = gI u 112 6) ∧ ∀ s', s' < s → (∀ k, gI r.2 (tx + 3 + s') k = gI u (tx + 3 + s') k) ∧ ∀ k, gK r.2 (tx + 3 + s') k = gK u (tx + 3 + s') k) ∧
  (p.1 ≠ 0 → gI r.2 112 5 = flt E (Int32.ofNat p.1) p.2.1) ∧ Fr (wP tx) [] (kP tx) u r.2
theorem c_begins {f t : Nat} {u : MT} : F_X9_beginsRule f t u = some (b2i (16 ≤ t ∧ t ≤ 19), u) := by
  rw [F_X9_beginsRule]
  by_cases h1 : t = 16
  · rw [if_pos h1, b2i_t (by omega)]; rfl
  · rw [if_neg h1]
    by_cases h2 : t = 17
    · rw [if_pos h2, b2i_t (by omega)]; rfl
    · rw [if_neg h2]
      by_cases h3 : t = 18
      · rw [if_pos h3, b2i_t (by omega)]; rfl
      · rw [if_neg h3]
        by_cases h4 : t = 19
        · rw [if_pos h4, b2i_t (by omega)]; rfl
        · rw [if_neg h4, b2i_f (by omega)]
theorem c_rule {f : Nat} {E : ET} {tx i : Nat} {u : MT} (h : CS E i u) (hf : 1300 < f) {s c : Nat} (htx : 116 ≤ tx) {hn : Int} (hh : (gI u 112 6).toInt = hn) (h0 : 0 ≤ hn) (hc : Nm (gI u tx 4) c) (hci : c ≤ i) (hs : Nm (gI u tx 1) s) (hs24 : s ≤ 24) : Ok (F_X3_takeRule f tx u) (CUp E tx s u c (pRule E hn s i)) := by
  have hi := h.2.2.2.2
  rw [F_X3_takeRule]
  refine Ok.ck h.ix (Ok.ck (by rw [h.tok]; exact ⟨h.ge, h.le⟩) ?_)
  rw [h.tok]
  refine Ok.bindE c_begins ?_
  dsimp only
  by_cases hb : 16 ≤ tT E i ∧ tT E i ≤ 19
  · rw [b2i_t hb]
    refine Ok.f ni1 ?_
    by_cases h24 : s < 24
    · have hlt := h.lt (show tT E i ≠ 2 by omega)
      refine Ok.t ((hs.lt (show Nm (24 : Int32) 24 from rfl)).mpr h24) (Ok.ck (hs.ix h24) ?_)
      rw [hs.nat]
      have h1 : CS E i (sI u (tx + 3 + s) 1 (gI u tx 4)) := h.put (Or.inl (by omega)) (by omega) (by omega)
      have hc1 : Nm (gI (sI u (tx + 3 + s) 1 (gI u tx 4)) tx 4) c := by rw [g_ne _ _ _ _ (by omega)]; exact hc
      have fr1 : Fr (wP tx) [] (kP tx) u (sI u (tx + 3 + s) 1 (gI u tx 4)) := Fr_in Fr_rfl (by omega) (by omega)
      refine Ok.ck h1.ix (Ok.ck (by rw [h1.tok]; exact h1.le) ?_)
      rw [h1.tok]
      have hw := pWhen_far h.2.1 hi hb
      -- behind the when
      have tail : ∀ v, (pWhen E i).1 = 0 → CX E tx (sI u (tx + 3 + s) 1 (gI u tx 4)) v (pWhen E i).2.1 c (pWhen E i).2.2 → Fr (wE tx) [] [] (sI u (tx + 3 + s) 1 (gI u tx 4)) v → Ok (B_X3_takeRule_95 f tx (tx + 3 + s) v) (CUp E tx s u c (pRule E hn s i)) := by
        intro v hp0 hX hfv
        have hw1 := hw.1 hp0
        have fr2 : Fr (wP tx) [] (kP tx) u (sI v (tx + 3 + s) 2 (gI v tx 4)) := Fr_in (Fr_tr (wide_E hfv) fr1) (by omega) (by omega)
        have h2 : CS E (pWhen E i).2.1 (sI v (tx + 3 + s) 2 (gI v tx 4)) := hX.1.put (Or.inl (by omega)) (by omega) (by omega)
        have hc2 : Nm (gI (sI v (tx + 3 + s) 2 (gI v tx 4)) tx 4) (c + (pWhen E i).2.2.length) := by rw [g_ne _ _ _ _ (by omega)]; exact hX.2.1
        have hh2 : (gI (sI v (tx + 3 + s) 2 (gI v tx 4)) 112 6).toInt = hn := by
          rw [g_ne _ _ _ _ (by omega), hfv.1 112 6 (by simp [nin] <;> omega), g_ne _ _ _ _ (by omega)]; exact hh
        obtain ⟨r, er, ha1, ha2, ha3⟩ := c_act (f := f) h2 hf htx (show tx + 2 < tx + 3 + s by omega) hh2 h0 hc2 (by omega) (pWhen E i).2.2
        have hpf := pAct_far h.2.1 (hn := hn) hw1.2.2.2 (i := (pWhen E i).2.1) hw1.2.1
        have fr3 : Fr (wP tx) [] (kP tx) u r.2 := Fr_tr (wide_A h24 ha3) fr2
        rw [B_X3_takeRule_95]
        refine Ok.bindE er ?_
        by_cases hk : (pAct E hn (pWhen E i).2.2 (pWhen E i).2.1).1 = 0
        · obtain ⟨r1, r2, r3, r4, r5⟩ := ha1 hk
          have hpf1 := hpf.1 hk
          rw [r1]
          refine Ok.f ni1 ?_
          by_cases h6 : tT E (pAct E hn (pWhen E i).2.2 (pWhen E i).2.1).2.1 = 6
          · have hlt6 := r2.lt (show tT E (pAct E hn (pWhen E i).2.2 (pWhen E i).2.1).2.1 ≠ 2 by omega)
            refine Ok.bindE (c_take_t r2 h6 (by decide)) (Ok.f ni1 (Ok.some ?_))
            dsimp only
            have e : pRule E hn s i = (0, (pAct E hn (pWhen E i).2.2 (pWhen E i).2.1).2.1 + 1, (pAct E hn (pWhen E i).2.2 (pWhen E i).2.1).2.2) := by
              unfold pRule; rw [if_pos hb, if_pos h24, if_pos hp0, if_pos hk, if_pos h6]
            rw [e]
            have gne : ∀ a k, a ≠ tx → a ≠ 112 → gI (sI (cadv r.2) tx 1 (gI (cadv r.2) tx 1 + 1)) a k = gI r.2 a k := fun a k h1 h2 => (g_ne _ _ _ _ h1).trans (g_ne _ _ _ _ h2)
            have hsz : Nm (gI (cadv r.2) tx 1) s := by
              rw [show gI (cadv r.2) tx 1 = gI r.2 tx 1 from g_ne _ _ _ _ (by omega), ha3.1 tx 1 (by simp [nin] <;> omega), g_ne _ _ _ _ (by omega), hfv.1 tx 1 (by simp [nin] <;> omega), g_ne _ _ _ _ (by omega)]; exact hs
            refine ⟨fun _ => ⟨(r2.next hlt6).put (Or.inl (by omega)) (by omega) (by omega), ?_, ⟨c + (pWhen E i).2.2.length + (rAmt (pAct E hn (pWhen E i).2.2 (pWhen E i).2.1).2.2).length, ?_, by omega, ?_, ?_, ?_⟩, fun k hk' => ?_, ?_, fun s' hs' => ⟨fun k => ?_, fun k => ?_⟩⟩, fun h => absurd rfl h, Fr_in (Fr_tr (wide_E Fr_cadv) fr3) (by omega) (by omega)⟩
            · show Nm (gI (sI _ tx 1 _) tx 1) (s + 1)
              rw [g_same]; exact hsz.succ (by omega)
            · show _ ≤ (pAct E hn (pWhen E i).2.2 (pWhen E i).2.1).2.1 + 1
              omega
            · show Nm (gI (sI (cadv r.2) tx 1 _) tx 4) _
              rw [g_nk _ _ _ (by decide), show gI (cadv r.2) tx 4 = gI r.2 tx 4 from g_ne _ _ _ _ (by omega)]; exact r4
            · refine ⟨c, ?_, ?_, ?_, ?_⟩
              · rw [gne _ _ (by omega) (by omega), ha3.1 (tx + 3 + s) 1 (by simp [nin] <;> omega), g_nk _ _ _ (by decide), hfv.1 (tx + 3 + s) 1 (by simp [nin] <;> omega), g_same]; exact hc
              · rw [gne _ _ (by omega) (by omega), ha3.1 (tx + 3 + s) 2 (by simp [nin] <;> omega), g_same]
                show Nm _ (c + (rWhen (pAct E hn (pWhen E i).2.2 (pWhen E i).2.1).2.2).length)
                rw [hpf1.2.2.2.1]; exact hX.2.1
              · show c + (rWhen (pAct E hn (pWhen E i).2.2 (pWhen E i).2.1).2.2).length ≤ _
                rw [hpf1.2.2.2.1]; omega
              · show segC _ tx c (rWhen (pAct E hn (pWhen E i).2.2 (pWhen E i).2.1).2.2)
                rw [hpf1.2.2.2.1]
                intro k hk'
                rw [gne _ _ (by omega) (by omega), r5 _ (by omega), g_ne _ _ _ _ (by omega)]; exact hX.2.2.2 k hk'
            · obtain ⟨q1, q2, q3, q4⟩ := r3
              have gK' : ∀ k, gK (sI (cadv r.2) tx 1 (gI (cadv r.2) tx 1 + 1)) (tx + 3 + s) k = gK r.2 (tx + 3 + s) k := fun k => rfl
              refine ⟨by rw [gK']; exact q1, fun hh => by rw [gne _ _ (by omega) (by omega), gne _ _ (by omega) (by omega)]; exact q2 hh, fun hh => ?_, fun hh => by rw [gK', gK', gK', gne _ _ (by omega) (by omega)]; exact q4 hh⟩
              obtain ⟨s0, m1, m2, m3, m4⟩ := q3 hh
              exact ⟨s0, by rw [gne _ _ (by omega) (by omega)]; exact m1, by rw [gne _ _ (by omega) (by omega)]; exact m2, m3, fun k hk' => by rw [gne _ _ (by omega) (by omega)]; exact m4 k hk'⟩
            · rw [gne _ _ (by omega) (by omega), r5 _ (by omega), g_ne _ _ _ _ (by omega), hX.2.2.1 k hk', g_ne _ _ _ _ (by omega)]
            · rw [g_ne _ _ _ _ (by omega), show gI (cadv r.2) 112 6 = gI r.2 112 6 from g_nk _ _ _ (by decide), ha3.1 112 6 (by simp [nin] <;> omega), g_ne _ _ _ _ (by omega), hfv.1 112 6 (by simp [nin] <;> omega), g_ne _ _ _ _ (by omega)]
            · rw [gne _ _ (by omega) (by omega), ha3.1 (tx + 3 + s') k (by simp [nin] <;> omega), g_ne _ _ _ _ (by omega), hfv.1 (tx + 3 + s') k (by simp [nin] <;> omega), g_ne _ _ _ _ (by omega)]
            · show gK r.2 (tx + 3 + s') k = _
              rw [ha3.2.2 (tx + 3 + s') k (by simp [nin] <;> omega)]
              exact hfv.2.2 (tx + 3 + s') k trivial
          · refine Ok.bindE (c_take_f r2 (by decide) h6) (Ok.t rfl (Ok.some ?_))
            have e : pRule E hn s i = (1, (pAct E hn (pWhen E i).2.2 (pWhen E i).2.1).2.1, rNone) := by
              unfold pRule; rw [if_pos hb, if_pos h24, if_pos hp0, if_pos hk, if_neg h6]
            rw [e]
            exact ⟨fun h => absurd h ne1, fun _ => cwr_flt, Fr_tr (wide_E Fr_cwr) fr3⟩
        · obtain ⟨r1, r2⟩ := ha2 hk
          rw [r1]
          refine Ok.t rfl (Ok.some ?_)
          have e : pRule E hn s i = pAct E hn (pWhen E i).2.2 (pWhen E i).2.1 := by
            unfold pRule; rw [if_pos hb, if_pos h24, if_pos hp0, if_neg hk]
          rw [e]
          exact ⟨fun h => absurd h hk, fun _ => r2, fr3⟩
      refine Ok.ite (fun h16 => ?_) (fun h16 => ?_)
      · have ep : pWhen E i = pE E (i + 1) := if_pos h16
        have h2 := h1.next hlt
        have hc2 : Nm (gI (cadv (sI u (tx + 3 + s) 1 (gI u tx 4))) tx 4) c := by rw [show gI (cadv (sI u (tx + 3 + s) 1 (gI u tx 4))) tx 4 = _ from g_ne _ _ _ _ (by omega)]; exact hc1
        obtain ⟨r, er, hr⟩ := c_RE htx hf (pE_eq h.2.1 (show i + 1 ≤ tL E from hlt)) h2 hc2 (by omega)
        refine Ok.bindE (c_step h1 hlt) (Ok.bindE er ?_)
        by_cases hp0 : (pE E (i + 1)).1 = 0
        · obtain ⟨r1, r2⟩ := hr.1 hp0
          rw [r1]
          refine Ok.f ni1 (tail _ (by rw [ep]; exact hp0) ?_ (Fr_tr hr.2.2 Fr_cadv))
          rw [ep]
          exact ((CX.rfl h1 hc1).next htx hlt).trans (l := []) r2
        · obtain ⟨r1, r2⟩ := hr.2.1 hp0
          rw [r1]
          refine Ok.t rfl (Ok.some ?_)
          have e : pRule E hn s i = ((pE E (i + 1)).1, (pE E (i + 1)).2.1, rNone) := by
            unfold pRule; rw [if_pos hb, if_pos h24, ep, if_neg hp0]
          rw [e]
          exact ⟨fun h => absurd h hp0, fun _ => r2, Fr_tr (wide_E (Fr_tr hr.2.2 Fr_cadv)) fr1⟩
      · have ep : pWhen E i = (0, i, []) := if_neg h16
        refine tail _ (by rw [ep]) ?_ Fr_rfl
        rw [ep]
        exact CX.rfl h1 hc1
    · refine Ok.f (fun e => h24 ((hs.lt (show Nm (24 : Int32) 24 from rfl)).mp e)) (Ok.bindE (c_refuse h) (Ok.ck (Or.inl rfl) (Ok.some ?_)))
      have e : pRule E hn s i = (5, i, rNone) := by unfold pRule; rw [if_pos hb, if_neg h24]
      rw [e]
      exact ⟨fun h => absurd h ne5, fun _ => cwr_flt, wide_E Fr_cwr⟩
  · rw [b2i_f hb]
    refine Ok.t rfl (Ok.bindE (c_refuse h) (Ok.ck (Or.inl rfl) (Ok.some ?_)))
    have e : pRule E hn s i = (1, i, rNone) := by unfold pRule; rw [if_neg hb]
    rw [e]
    exact ⟨fun h => absurd h ne1, fun _ => cwr_flt, wide_E Fr_cwr⟩
