/-! ===== E's in the abstract: kind of fault (0 none), place, code ===== -/
abbrev PR : Type := Nat × Nat × List Int32
theorem ne1 : ¬ (1 : Nat) = 0 := by decide
theorem ne5 : ¬ (5 : Nat) = 0 := by decide
def jcode (jt : Nat) : List Int32 := if jt = 12 ∨ jt = 13 then [tcode jt] else []
def ccode (cm : Nat) : List Int32 := if cm = 0 then [] else [tcode cm]
def pPart (E : ET) (rec : Nat → Option PR) (ar i : Nat) : Option PR :=
  if bpart (tT E i) = false then some (1, i, [])
  else if 5 < ar then some (5, i, [])
  else if tT E i = 4 then (rec (i + 1)).bind fun r => if r.1 = 0 then (if tT E r.2.1 = 5 then some (0, r.2.1 + 1, r.2.2) else some (1, r.2.1, [])) else some r
  else some (0, i + 1, [if tT E i = 3 then tV E i else tcode (tT E i)])
def pStop (E : ET) (cm j : Nat) : Prop := isop (tT E j) = false ∨ (iscm (tT E j) = true ∧ cm ≠ 0)
theorem pStop_dec (E : ET) (cm j : Nat) : pStop E cm j ∨ ¬ pStop E cm j := Classical.em _
def pStopB (E : ET) (cm j : Nat) : Bool := !(isop (tT E j)) || (iscm (tT E j) && decide (cm ≠ 0))
def pL (E : ET) : Nat → Nat → Nat → Nat → Nat → Option PR
  | 0, _, _, _, _ => none
  | n + 1, ar, cm, jt, i =>
    (pPart E (fun k => pL E n (ar + 1) 0 0 k) ar i).bind fun p =>
    if p.1 = 0 then
      if pStopB E cm p.2.1 = true then some (0, p.2.1, p.2.2 ++ jcode jt ++ ccode cm)
      else (pL E n ar (if iscm (tT E p.2.1) = true then tT E p.2.1 else cm) (tT E p.2.1) (p.2.1 + 1)).bind fun r => some (r.1, r.2.1, p.2.2 ++ jcode jt ++ r.2.2)
    else some p
/-! what a PART gives -/
theorem pPart_cases {E : ET} {rec : Nat → Option PR} {ar i : Nat} {p : PR} (h : pPart E rec ar i = some p) :
    (bpart (tT E i) = false ∧ p = (1, i, [])) ∨ (bpart (tT E i) = true ∧ 5 < ar ∧ p = (5, i, [])) ∨
    (bpart (tT E i) = true ∧ ar ≤ 5 ∧ tT E i = 4 ∧ ∃ r, rec (i + 1) = some r ∧ ((r.1 = 0 ∧ tT E r.2.1 = 5 ∧ p = (0, r.2.1 + 1, r.2.2)) ∨ (r.1 = 0 ∧ tT E r.2.1 ≠ 5 ∧ p = (1, r.2.1, [])) ∨ (r.1 ≠ 0 ∧ p = r))) ∨
    (bpart (tT E i) = true ∧ ar ≤ 5 ∧ tT E i ≠ 4 ∧ p = (0, i + 1, [if tT E i = 3 then tV E i else tcode (tT E i)])) := by
  unfold pPart at h
  by_cases h1 : bpart (tT E i) = false
  · rw [if_pos h1] at h; cases h; exact Or.inl ⟨h1, rfl⟩
  · rw [if_neg h1] at h
    have h1 : bpart (tT E i) = true := by simpa using h1
    by_cases h2 : 5 < ar
    · rw [if_pos h2] at h; cases h; exact Or.inr (Or.inl ⟨h1, h2, rfl⟩)
    · rw [if_neg h2] at h
      by_cases h3 : tT E i = 4
      · rw [if_pos h3] at h
        obtain ⟨r, e, h⟩ := ok_b h
        refine Or.inr (Or.inr (Or.inl ⟨h1, by omega, h3, r, e, ?_⟩))
        by_cases h4 : r.1 = 0
        · rw [if_pos h4] at h
          by_cases h5 : tT E r.2.1 = 5
          · rw [if_pos h5] at h; cases h; exact Or.inl ⟨h4, h5, rfl⟩
          · rw [if_neg h5] at h; cases h; exact Or.inr (Or.inl ⟨h4, h5, rfl⟩)
        · rw [if_neg h4] at h; cases h; exact Or.inr (Or.inr ⟨h4, rfl⟩)
      · rw [if_neg h3] at h; cases h; exact Or.inr (Or.inr (Or.inr ⟨h1, by omega, h3, rfl⟩))
theorem pL_cases {E : ET} {n ar cm jt i : Nat} {r : PR} (h : pL E (n + 1) ar cm jt i = some r) :
    ∃ p, pPart E (fun k => pL E n (ar + 1) 0 0 k) ar i = some p ∧
      ((p.1 ≠ 0 ∧ r = p) ∨ (p.1 = 0 ∧ pStopB E cm p.2.1 = true ∧ r = (0, p.2.1, p.2.2 ++ jcode jt ++ ccode cm)) ∨
       (p.1 = 0 ∧ pStopB E cm p.2.1 = false ∧ ∃ q, pL E n ar (if iscm (tT E p.2.1) = true then tT E p.2.1 else cm) (tT E p.2.1) (p.2.1 + 1) = some q ∧ r = (q.1, q.2.1, p.2.2 ++ jcode jt ++ q.2.2))) := by
  rw [pL] at h
  obtain ⟨p, e, h⟩ := ok_b h
  refine ⟨p, e, ?_⟩
  by_cases h1 : p.1 = 0
  · rw [if_pos h1] at h
    by_cases h2 : pStopB E cm p.2.1 = true
    · rw [if_pos h2] at h; cases h; exact Or.inr (Or.inl ⟨h1, h2, rfl⟩)
    · rw [if_neg h2] at h
      obtain ⟨q, e2, h⟩ := ok_b h
      cases h
      exact Or.inr (Or.inr ⟨h1, by simpa using h2, q, e2, rfl⟩)
  · rw [if_neg h1] at h; cases h; exact Or.inl ⟨h1, rfl⟩
theorem TE.lt {E : ET} (h : TE E) {i : Nat} (hi : i ≤ tL E) (ht : tT E i ≠ 2) : i < tL E := by
  by_cases e : i = tL E
  · subst e; exact absurd h.2.1 ht
  · omega
theorem bpart_ne {t : Nat} (h : bpart t = true) : t ≠ 2 := fun e => by subst e; exact absurd h (by decide)
theorem isop_ne {t : Nat} (h : isop t = true) : t ≠ 2 := fun e => by subst e; exact absurd h (by decide)
theorem nstop {E : ET} {cm j : Nat} (h : pStopB E cm j = false) : isop (tT E j) = true ∧ (iscm (tT E j) = true → cm = 0) := by
  unfold pStopB at h
  cases h1 : isop (tT E j) with
  | false => rw [h1] at h; exact absurd h (by simp)
  | true =>
    refine ⟨rfl, fun h2 => ?_⟩
    rw [h1, h2] at h
    simpa using h
theorem stop_or {E : ET} {cm j : Nat} (h : pStopB E cm j = true) : isop (tT E j) = false ∨ (iscm (tT E j) = true ∧ cm ≠ 0) := by
  unfold pStopB at h
  cases h1 : isop (tT E j) with
  | false => exact Or.inl rfl
  | true =>
    rw [h1] at h
    have : iscm (tT E j) = true ∧ cm ≠ 0 := by simpa using h
    exact Or.inr this
/-- how far it comes, how much it writes -/
theorem pL_far {E : ET} (hE : TE E) : ∀ (n ar cm jt i : Nat) (r : PR), pL E n ar cm jt i = some r → i ≤ tL E →
    (r.1 = 0 → i < r.2.1 ∧ r.2.1 ≤ tL E ∧ r.2.2.length + i ≤ r.2.1 + (jcode jt).length + (ccode cm).length ∧ 1 ≤ r.2.2.length) ∧ (r.1 ≠ 0 → i ≤ r.2.1 ∧ r.2.1 ≤ tL E ∧ (r.1 = 1 ∨ r.1 = 5)) := by
  intro n
  induction n with
  | zero => intro ar cm jt i r h; cases h
  | succ n ih =>
    intro ar cm jt i r h hi
    obtain ⟨p, hp, hr⟩ := pL_cases h
    have hpp : (p.1 = 0 → i < p.2.1 ∧ p.2.1 ≤ tL E ∧ p.2.2.length + i ≤ p.2.1 ∧ 1 ≤ p.2.2.length) ∧ (p.1 ≠ 0 → i ≤ p.2.1 ∧ p.2.1 ≤ tL E ∧ (p.1 = 1 ∨ p.1 = 5)) := by
      rcases pPart_cases hp with ⟨_, e⟩ | ⟨_, _, e⟩ | ⟨hb, _, _, q, hq, hc⟩ | ⟨hb, _, _, e⟩
      · subst e; exact ⟨fun h => absurd h ne1, fun _ => ⟨Nat.le_refl _, hi, Or.inl rfl⟩⟩
      · subst e; exact ⟨fun h => absurd h ne5, fun _ => ⟨Nat.le_refl _, hi, Or.inr rfl⟩⟩
      · have hlt := hE.lt hi (bpart_ne hb)
        have hq' := ih _ _ _ _ _ hq hlt
        rcases hc with ⟨h0, h5, e⟩ | ⟨h0, h5, e⟩ | ⟨h0, e⟩
        · have h1 := hq'.1 h0
          have := hE.lt h1.2.1 (by rw [h5]; decide)
          subst e
          have e0 : (jcode 0).length = 0 := rfl
          have e1 : (ccode 0).length = 0 := rfl
          exact ⟨fun _ => ⟨by show i < q.2.1 + 1; omega, by show q.2.1 + 1 ≤ _; omega, by show q.2.2.length + i ≤ q.2.1 + 1; omega, h1.2.2.2⟩, fun h => absurd rfl h⟩
        · have h1 := hq'.1 h0
          subst e
          exact ⟨fun h => absurd h ne1, fun _ => ⟨by show i ≤ q.2.1; omega, h1.2.1, Or.inl rfl⟩⟩
        · have h1 := hq'.2 h0
          subst e
          exact ⟨fun h => absurd h h0, fun _ => ⟨by omega, h1.2.1, h1.2.2⟩⟩
      · have hlt := hE.lt hi (bpart_ne hb)
        subst e
        exact ⟨fun _ => ⟨Nat.lt_succ_self i, hlt, by show 1 + i ≤ i + 1; omega, Nat.le_refl 1⟩, fun h => absurd rfl h⟩
    rcases hr with ⟨h0, e⟩ | ⟨h0, _, e⟩ | ⟨h0, hs, q, hq, e⟩
    · subst e
      exact ⟨fun h => absurd h h0, hpp.2⟩
    · have h1 := hpp.1 h0
      subst e
      refine ⟨fun _ => ⟨h1.1, h1.2.1, ?_, ?_⟩, fun h => absurd rfl h⟩
      · show (p.2.2 ++ jcode jt ++ ccode cm).length + i ≤ _
        simp only [List.length_append]; omega
      · show 1 ≤ (p.2.2 ++ jcode jt ++ ccode cm).length
        simp only [List.length_append]; omega
    · have h1 := hpp.1 h0
      have hlt := hE.lt h1.2.1 (isop_ne (nstop hs).1)
      have hq' := ih _ _ _ _ _ hq hlt
      subst e
      constructor
      · intro h
        have h2 := hq'.1 h
        have key : (jcode (tT E p.2.1)).length + (ccode (if iscm (tT E p.2.1) = true then tT E p.2.1 else cm)).length ≤ 1 + (ccode cm).length := by
          cases hc : iscm (tT E p.2.1) with
          | true =>
            rw [if_pos rfl, (nstop hs).2 hc]
            have : tT E p.2.1 = 14 ∨ tT E p.2.1 = 15 := by simpa [iscm] using hc
            rcases this with e | e <;> rw [e] <;> decide
          | false =>
            rw [if_neg (by decide)]
            have : (jcode (tT E p.2.1)).length ≤ 1 := by unfold jcode; split <;> simp
            omega
        refine ⟨by show i < q.2.1; omega, h2.2.1, ?_, ?_⟩
        · show (p.2.2 ++ jcode jt ++ q.2.2).length + i ≤ q.2.1 + _ + _
          simp only [List.length_append]; omega
        · show 1 ≤ (p.2.2 ++ jcode jt ++ q.2.2).length
          simp only [List.length_append]; omega
      · intro h
        have h2 := hq'.2 h
        exact ⟨by show i ≤ q.2.1; omega, h2.2.1, h2.2.2⟩
/-- it is there -/
theorem pL_some {E : ET} (hE : TE E) : ∀ (n ar cm jt i : Nat), i ≤ tL E → tL E < n + i → ∃ r, pL E n ar cm jt i = some r := by
  intro n
  induction n with
  | zero => intro ar cm jt i h h'; omega
  | succ n ih =>
    intro ar cm jt i hi hn
    have hp : ∃ p, pPart E (fun k => pL E n (ar + 1) 0 0 k) ar i = some p := by
      unfold pPart
      by_cases h1 : bpart (tT E i) = false
      · rw [if_pos h1]; exact ⟨_, rfl⟩
      · rw [if_neg h1]
        by_cases h2 : 5 < ar
        · rw [if_pos h2]; exact ⟨_, rfl⟩
        · rw [if_neg h2]
          by_cases h3 : tT E i = 4
          · rw [if_pos h3]
            have hlt := hE.lt hi (by rw [h3]; decide)
            obtain ⟨r, e⟩ := ih (ar + 1) 0 0 (i + 1) hlt (by omega)
            show ∃ p, ((pL E n (ar + 1) 0 0 (i + 1)).bind _) = some p
            rw [e]
            dsimp only [Option.bind_some]
            by_cases h4 : r.1 = 0
            · rw [if_pos h4]
              by_cases h5 : tT E r.2.1 = 5
              · rw [if_pos h5]; exact ⟨_, rfl⟩
              · rw [if_neg h5]; exact ⟨_, rfl⟩
            · rw [if_neg h4]; exact ⟨_, rfl⟩
          · rw [if_neg h3]; exact ⟨_, rfl⟩
    obtain ⟨p, hp⟩ := hp
    rw [pL, hp]
    show ∃ r, (if p.1 = 0 then _ else _) = some r
    by_cases h0 : p.1 = 0
    · rw [if_pos h0]
      by_cases hs : pStopB E cm p.2.1 = true
      · rw [if_pos hs]; exact ⟨_, rfl⟩
      · rw [if_neg hs]
        have h1 : i < p.2.1 ∧ p.2.1 ≤ tL E := by
          have : pL E (n + 1) ar 1 0 i = pL E (n + 1) ar 1 0 i := rfl
          rcases pPart_cases hp with ⟨_, e⟩ | ⟨_, _, e⟩ | ⟨hb, _, _, q, hq, hc⟩ | ⟨hb, _, _, e⟩
          · subst e; exact absurd h0 (by intro h; cases h)
          · subst e; exact absurd h0 (by intro h; cases h)
          · have hlt := hE.lt hi (bpart_ne hb)
            have hq' := pL_far hE _ _ _ _ _ _ hq hlt
            rcases hc with ⟨h0', h5, e⟩ | ⟨h0', h5, e⟩ | ⟨h0', e⟩
            · have h1 := hq'.1 h0'
              have := hE.lt h1.2.1 (by rw [h5]; decide)
              subst e
              exact ⟨by show i < q.2.1 + 1; omega, by show q.2.1 + 1 ≤ _; omega⟩
            · subst e; exact absurd h0 (by intro h; cases h)
            · subst e; exact absurd h0 h0'
          · have hlt := hE.lt hi (bpart_ne hb)
            subst e
            exact ⟨Nat.lt_succ_self i, hlt⟩
        have hlt := hE.lt h1.2 (isop_ne (nstop (by simpa using hs)).1)
        obtain ⟨r, e⟩ := ih ar (if iscm (tT E p.2.1) = true then tT E p.2.1 else cm) (tT E p.2.1) (p.2.1 + 1) hlt (by omega)
        rw [e]; exact ⟨_, rfl⟩
    · rw [if_neg h0]; exact ⟨_, rfl⟩
/-! heights: how many sides are open while a code runs -/
def hts : List Int32 → Nat → Option Nat
  | [], h => some h
  | x :: l, h => if x.toInt ≤ -6 then (if 2 ≤ h then hts l (h - 1) else none) else (if h < 14 then hts l (h + 1) else none)
theorem hts_app (a b : List Int32) : ∀ h, hts (a ++ b) h = (hts a h).bind (hts b) := by
  induction a with
  | nil => intro h; rfl
  | cons x a ih =>
    intro h
    show (if x.toInt ≤ -6 then (if 2 ≤ h then hts (a ++ b) (h - 1) else none) else (if h < 14 then hts (a ++ b) (h + 1) else none)) = (if x.toInt ≤ -6 then (if 2 ≤ h then hts a (h - 1) else none) else (if h < 14 then hts a (h + 1) else none)).bind (hts b)
    rw [ih, ih]
    split
    · split <;> rfl
    · split <;> rfl
/-- what stands in a code -/
def vit (x : Int32) : Prop := -9 ≤ x.toInt
theorem tc_op : ∀ t, t < 35 → isop t = true → (tkC.getD (t - 1) 0).toInt ≤ -6 ∧ -9 ≤ (tkC.getD (t - 1) 0).toInt := by decide +kernel
theorem tc_pt : ∀ t, t < 35 → bpart t = true → t ≠ 3 → t ≠ 4 → -6 < (tkC.getD (t - 1) 0).toInt ∧ (tkC.getD (t - 1) 0).toInt < 0 := by decide +kernel
theorem jc_op {jt : Nat} (h : jt = 12 ∨ jt = 13) : isop jt = true := by rcases h with e | e <;> subst e <;> decide
theorem pL_hts {E : ET} (hE : TE E) : ∀ (n ar cm jt i : Nat) (r : PR), pL E n ar cm jt i = some r → i ≤ tL E → r.1 = 0 → (cm = 0 ∨ cm = 14 ∨ cm = 15) →
    (∀ x ∈ r.2.2, vit x) ∧ ar ≤ 5 ∧ ∀ s, s + 2 * (5 - ar) ≤ 11 → hts r.2.2 (s + (jcode jt).length + (ccode cm).length) = some (s + 1) := by
  intro n
  induction n with
  | zero => intro ar cm jt i r h; cases h
  | succ n ih =>
    intro ar cm jt i r h hi h0 hcm
    obtain ⟨p, hp, hr⟩ := pL_cases h
    have hp0 : p.1 = 0 := by
      rcases hr with ⟨h1, e⟩ | ⟨h1, _, _⟩ | ⟨h1, _⟩
      · subst e; exact absurd h0 h1
      · exact h1
      · exact h1
    have hpp : (∀ x ∈ p.2.2, vit x) ∧ ar ≤ 5 ∧ ∀ s, s + 2 * (5 - ar) ≤ 13 → hts p.2.2 s = some (s + 1) := by
      rcases pPart_cases hp with ⟨_, e⟩ | ⟨_, _, e⟩ | ⟨hb, ha, _, q, hq, hc⟩ | ⟨hb, ha, h4, e⟩
      · subst e; exact absurd hp0 (by intro h; cases h)
      · subst e; exact absurd hp0 (by intro h; cases h)
      · have hlt := hE.lt hi (bpart_ne hb)
        rcases hc with ⟨h0', h5, e⟩ | ⟨h0', h5, e⟩ | ⟨h0', e⟩
        · obtain ⟨g1, g2, g3⟩ := ih _ _ _ _ _ hq hlt h0' (Or.inl rfl)
          subst e
          exact ⟨g1, ha, fun s hs => g3 s (by omega)⟩
        · subst e; exact absurd hp0 (by intro h; cases h)
        · subst e; exact absurd hp0 h0'
      · subst e
        have h34 := (hE.2.2.2.1 i hi).2
        have key : -6 < (if tT E i = 3 then tV E i else tcode (tT E i)).toInt := by
          by_cases h3 : tT E i = 3
          · rw [if_pos h3]; have := (hE.2.2.2.2.1 i hi h3).1; omega
          · rw [if_neg h3]; exact (tc_pt (tT E i) (by omega) hb h3 h4).1
        refine ⟨fun x hx => ?_, ha, fun s hs => ?_⟩
        · have : x = (if tT E i = 3 then tV E i else tcode (tT E i)) := by simpa using hx
          subst this; unfold vit; omega
        · show (if (if tT E i = 3 then tV E i else tcode (tT E i)).toInt ≤ -6 then _ else (if s < 14 then some (s + 1) else none)) = _
          rw [if_neg (by omega), if_pos (by omega)]
    obtain ⟨g1, g2, g3⟩ := hpp
    have hj : (∀ x ∈ jcode jt, vit x) ∧ ∀ s, 1 ≤ s → hts (jcode jt) (s + (jcode jt).length) = some s := by
      by_cases hj : jt = 12 ∨ jt = 13
      · have e : jcode jt = [tcode jt] := if_pos hj
        have ht : (tcode jt).toInt ≤ -6 ∧ -9 ≤ (tcode jt).toInt := tc_op jt (by omega) (jc_op hj)
        rw [e]
        refine ⟨fun x hx => ?_, fun s hs => ?_⟩
        · have : x = tcode jt := by simpa using hx
          subst this; exact ht.2
        · show (if (tcode jt).toInt ≤ -6 then (if 2 ≤ s + 1 then some (s + 1 - 1) else none) else _) = _
          rw [if_pos ht.1, if_pos (by omega)]; rfl
      · have e : jcode jt = [] := if_neg hj
        rw [e]
        exact ⟨fun x hx => by simp at hx, fun s hs => rfl⟩
    have hc : (∀ x ∈ ccode cm, vit x) ∧ ∀ s, 1 ≤ s → hts (ccode cm) (s + (ccode cm).length) = some s := by
      by_cases hc : cm = 0
      · have e : ccode cm = [] := if_pos hc
        rw [e]
        exact ⟨fun x hx => by simp at hx, fun s hs => rfl⟩
      · have e : ccode cm = [tcode cm] := if_neg hc
        have ht : (tcode cm).toInt ≤ -6 ∧ -9 ≤ (tcode cm).toInt := tc_op cm (by omega) (by rcases hcm with h | h | h; exact absurd h hc; subst h; decide; subst h; decide)
        rw [e]
        refine ⟨fun x hx => ?_, fun s hs => ?_⟩
        · have : x = tcode cm := by simpa using hx
          subst this; exact ht.2
        · show (if (tcode cm).toInt ≤ -6 then (if 2 ≤ s + 1 then some (s + 1 - 1) else none) else _) = _
          rw [if_pos ht.1, if_pos (by omega)]; rfl
    have hjl : (jcode jt).length ≤ 1 := by unfold jcode; split <;> simp
    have hcl : (ccode cm).length ≤ 1 := by unfold ccode; split <;> simp
    rcases hr with ⟨h1, _⟩ | ⟨h1, _, e⟩ | ⟨h1, hs, q, hq, e⟩
    · exact absurd hp0 h1
    · subst e
      refine ⟨fun x hx => ?_, g2, fun s hs => ?_⟩
      · have hx : x ∈ p.2.2 ++ jcode jt ++ ccode cm := hx
        rcases List.mem_append.mp hx with hx | hx
        · rcases List.mem_append.mp hx with hx | hx
          · exact g1 x hx
          · exact hj.1 x hx
        · exact hc.1 x hx
      · show hts (p.2.2 ++ jcode jt ++ ccode cm) _ = _
        rw [hts_app, hts_app, g3 _ (by omega)]
        show ((hts (jcode jt) (s + (jcode jt).length + (ccode cm).length + 1)).bind _) = _
        rw [show s + (jcode jt).length + (ccode cm).length + 1 = (s + (ccode cm).length + 1) + (jcode jt).length by omega, hj.2 _ (by omega)]
        show hts (ccode cm) (s + (ccode cm).length + 1) = _
        rw [show s + (ccode cm).length + 1 = (s + 1) + (ccode cm).length by omega, hc.2 _ (by omega)]
    · have hlt0 : p.2.1 ≤ tL E ∧ i < p.2.1 := by
        have hh := pL_far hE (n + 1) ar 1 0 i (1, 0, [])
        rcases pPart_cases hp with ⟨_, e⟩ | ⟨_, _, e⟩ | ⟨hb, _, _, q, hq, hc⟩ | ⟨hb, _, _, e⟩
        · subst e; exact absurd hp0 (by intro h; cases h)
        · subst e; exact absurd hp0 (by intro h; cases h)
        · have hlt := hE.lt hi (bpart_ne hb)
          have hq' := pL_far hE _ _ _ _ _ _ hq hlt
          rcases hc with ⟨h0', h5, e⟩ | ⟨h0', h5, e⟩ | ⟨h0', e⟩
          · have h1 := hq'.1 h0'
            have := hE.lt h1.2.1 (by rw [h5]; decide)
            subst e
            exact ⟨by show q.2.1 + 1 ≤ _; omega, by show i < q.2.1 + 1; omega⟩
          · subst e; exact absurd hp0 (by intro h; cases h)
          · subst e; exact absurd hp0 h0'
        · have hlt := hE.lt hi (bpart_ne hb)
          subst e
          exact ⟨hlt, Nat.lt_succ_self i⟩
      have hns := nstop hs
      have hlt := hE.lt hlt0.1 (isop_ne hns.1)
      have hq0 : q.1 = 0 := by rw [e] at h0; exact h0
      have hcm' : (if iscm (tT E p.2.1) = true then tT E p.2.1 else cm) = 0 ∨ (if iscm (tT E p.2.1) = true then tT E p.2.1 else cm) = 14 ∨ (if iscm (tT E p.2.1) = true then tT E p.2.1 else cm) = 15 := by
        cases hcc : iscm (tT E p.2.1) with
        | true =>
          rw [if_pos rfl]
          have : tT E p.2.1 = 14 ∨ tT E p.2.1 = 15 := by simpa [iscm] using hcc
          omega
        | false => rw [if_neg (by decide)]; exact hcm
      obtain ⟨f1, f2, f3⟩ := ih _ _ _ _ _ hq hlt hq0 hcm'
      have key : (jcode (tT E p.2.1)).length + (ccode (if iscm (tT E p.2.1) = true then tT E p.2.1 else cm)).length = 1 + (ccode cm).length := by
        cases hcc : iscm (tT E p.2.1) with
        | true =>
          rw [if_pos rfl, hns.2 hcc]
          have : tT E p.2.1 = 14 ∨ tT E p.2.1 = 15 := by simpa [iscm] using hcc
          rcases this with e | e <;> rw [e] <;> decide
        | false =>
          rw [if_neg (by decide)]
          have h12 : tT E p.2.1 = 12 ∨ tT E p.2.1 = 13 := by
            have := hns.1
            simp [isop] at this
            simp [iscm] at hcc
            omega
          rw [show jcode (tT E p.2.1) = [tcode (tT E p.2.1)] from if_pos h12]; rfl
      subst e
      refine ⟨fun x hx => ?_, g2, fun s hs => ?_⟩
      · have hx : x ∈ p.2.2 ++ jcode jt ++ q.2.2 := hx
        rcases List.mem_append.mp hx with hx | hx
        · rcases List.mem_append.mp hx with hx | hx
          · exact g1 x hx
          · exact hj.1 x hx
        · exact f1 x hx
      · show hts (p.2.2 ++ jcode jt ++ q.2.2) _ = _
        rw [hts_app, hts_app, g3 _ (by omega)]
        show ((hts (jcode jt) (s + (jcode jt).length + (ccode cm).length + 1)).bind _) = _
        rw [show s + (jcode jt).length + (ccode cm).length + 1 = (s + (ccode cm).length + 1) + (jcode jt).length by omega, hj.2 _ (by omega)]
        show hts q.2.2 (s + (ccode cm).length + 1) = _
        rw [show s + (ccode cm).length + 1 = s + (jcode (tT E p.2.1)).length + (ccode (if iscm (tT E p.2.1) = true then tT E p.2.1 else cm)).length by omega]
        exact f3 s hs
