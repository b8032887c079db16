/-! ===== RULES in the abstract ===== -/
/-- act, when, amount, source, whom, number, way, price -/
abbrev AR : Type := Nat × List Int32 × List Int32 × Nat × Nat × Int32 × Nat × Nat
def rAct (r : AR) : Nat := r.1
def rWhen (r : AR) : List Int32 := r.2.1
def rAmt (r : AR) : List Int32 := r.2.2.1
def rSrc (r : AR) : Nat := r.2.2.2.1
def rWho (r : AR) : Nat := r.2.2.2.2.1
def rNum (r : AR) : Int32 := r.2.2.2.2.2.1
def rWay (r : AR) : Nat := r.2.2.2.2.2.2.1
def rPri (r : AR) : Nat := r.2.2.2.2.2.2.2
def rNone : AR := (0, [], [], 0, 0, 0, 0, 0)
def pE (E : ET) (i : Nat) : PR := (pL E 1300 0 0 0 i).getD (1, 0, [])
theorem pE_eq {E : ET} (hE : TE E) {i : Nat} (hi : i ≤ tL E) : pL E 1300 0 0 0 i = some (pE E i) := by
  obtain ⟨r, e⟩ := pL_some hE 1300 0 0 0 i hi (by have := hE.1; omega)
  rw [pE, e]; rfl
theorem pE_far {E : ET} (hE : TE E) {i : Nat} (hi : i ≤ tL E) : ((pE E i).1 = 0 → i < (pE E i).2.1 ∧ (pE E i).2.1 ≤ tL E ∧ (pE E i).2.2.length + i ≤ (pE E i).2.1 ∧ 1 ≤ (pE E i).2.2.length) ∧ ((pE E i).1 ≠ 0 → i ≤ (pE E i).2.1 ∧ (pE E i).2.1 ≤ tL E ∧ ((pE E i).1 = 1 ∨ (pE E i).1 = 5)) := by
  have h := pL_far hE _ _ _ _ _ _ (pE_eq hE hi) hi
  exact ⟨fun h0 => ⟨(h.1 h0).1, (h.1 h0).2.1, by have := (h.1 h0).2.2.1; have e0 : (jcode 0).length = 0 := rfl; have e1 : (ccode 0).length = 0 := rfl; omega, (h.1 h0).2.2.2⟩, h.2⟩
def pNum (E : ET) (lo hi : Int) (i : Nat) : Nat × Nat := if tT E i = 3 then (if lo ≤ (tV E i).toInt ∧ (tV E i).toInt ≤ hi then (0, i + 1) else (4, i)) else (1, i)
def pWhom (E : ET) (hn : Int) (i : Nat) : Nat × Nat × Nat × Int32 :=
  if tT E i = 24 then (0, i + 1, 24, 0)
  else if tT E i = 25 then ((pNum E 0 (hn - 1) (i + 1)).1, (pNum E 0 (hn - 1) (i + 1)).2, 25, tV E (i + 1))
  else if tT E i = 26 then ((pNum E 1 12 (i + 1)).1, (pNum E 1 12 (i + 1)).2, 26, tV E (i + 1))
  else (1, i, 0, 0)
/-- fault, place, source, whom, number, way -/
def pWays (E : ET) (hn : Int) (i : Nat) : Nat × Nat × Nat × Nat × Int32 × Nat :=
  if tT E i = 21 then
    if tT E (i + 1) = 9 ∨ tT E (i + 1) = 10 then
      if tT E (i + 2) = 22 then
        if (pWhom E hn (i + 3)).1 = 0 then
          if tT E (pWhom E hn (i + 3)).2.1 = 23 then
            if 27 ≤ tT E ((pWhom E hn (i + 3)).2.1 + 1) ∧ tT E ((pWhom E hn (i + 3)).2.1 + 1) ≤ 29 then
              (0, (pWhom E hn (i + 3)).2.1 + 2, tT E (i + 1), (pWhom E hn (i + 3)).2.2.1, (pWhom E hn (i + 3)).2.2.2, tT E ((pWhom E hn (i + 3)).2.1 + 1))
            else (1, (pWhom E hn (i + 3)).2.1 + 1, 0, 0, 0, 0)
          else (1, (pWhom E hn (i + 3)).2.1, 0, 0, 0, 0)
        else ((pWhom E hn (i + 3)).1, (pWhom E hn (i + 3)).2.1, 0, 0, 0, 0)
      else (1, i + 2, 0, 0, 0, 0)
    else (1, i + 1, 0, 0, 0, 0)
  else (1, i, 0, 0, 0, 0)
def pPri (t : Nat) : Nat := if t = 9 then 10 else if t = 10 then 11 else if t = 30 then 12 else if t = 31 then 13 else 0
def pAmt (E : ET) (i : Nat) : PR := if tT E i = 24 then (0, i + 1, []) else pE E i
def pAct (E : ET) (hn : Int) (w : List Int32) (i : Nat) : Nat × Nat × AR :=
  if tT E i = 19 then
    if pPri (tT E (i + 1)) = 0 then (1, i + 1, rNone)
    else ((pNum E 0 100 (i + 2)).1, (pNum E 0 100 (i + 2)).2, (19, w, [], 0, 0, tV E (i + 2), 0, pPri (tT E (i + 1))))
  else if tT E i = 17 ∨ tT E i = 18 then
    if (pAmt E (i + 1)).1 = 0 then
      if tT E i = 18 then (0, (pAmt E (i + 1)).2.1, (18, w, (pAmt E (i + 1)).2.2, 0, 0, 0, 0, 0))
      else ((pWays E hn (pAmt E (i + 1)).2.1).1, (pWays E hn (pAmt E (i + 1)).2.1).2.1, (17, w, (pAmt E (i + 1)).2.2, (pWays E hn (pAmt E (i + 1)).2.1).2.2.1, (pWays E hn (pAmt E (i + 1)).2.1).2.2.2.1, (pWays E hn (pAmt E (i + 1)).2.1).2.2.2.2.1, (pWays E hn (pAmt E (i + 1)).2.1).2.2.2.2.2, 0))
    else ((pAmt E (i + 1)).1, (pAmt E (i + 1)).2.1, rNone)
  else (1, i, rNone)
def pWhen (E : ET) (i : Nat) : PR := if tT E i = 16 then pE E (i + 1) else (0, i, [])
def pRule (E : ET) (hn : Int) (cnt i : Nat) : Nat × Nat × AR :=
  if 16 ≤ tT E i ∧ tT E i ≤ 19 then
    if cnt < 24 then
      if (pWhen E i).1 = 0 then
        if (pAct E hn (pWhen E i).2.2 (pWhen E i).2.1).1 = 0 then
          if tT E (pAct E hn (pWhen E i).2.2 (pWhen E i).2.1).2.1 = 6 then (0, (pAct E hn (pWhen E i).2.2 (pWhen E i).2.1).2.1 + 1, (pAct E hn (pWhen E i).2.2 (pWhen E i).2.1).2.2)
          else (1, (pAct E hn (pWhen E i).2.2 (pWhen E i).2.1).2.1, rNone)
        else pAct E hn (pWhen E i).2.2 (pWhen E i).2.1
      else ((pWhen E i).1, (pWhen E i).2.1, rNone)
    else (5, i, rNone)
  else (1, i, rNone)
/-- fault, place, how -/
def pRest (E : ET) (i : Nat) : Nat × Nat × Nat :=
  if tT E i = 20 then
    if 32 ≤ tT E (i + 1) ∧ tT E (i + 1) ≤ 34 then
      if tT E (i + 2) = 6 then
        if tT E (i + 3) = 2 then (0, i + 3, tT E (i + 1)) else (1, i + 3, 0)
      else (1, i + 2, 0)
    else (1, i + 1, 0)
  else (1, i, 0)
/-! how far they come -/
theorem pNum_far {E : ET} (hE : TE E) {lo hi : Int} {i : Nat} (h : i ≤ tL E) : ((pNum E lo hi i).1 = 0 → tT E i = 3 ∧ lo ≤ (tV E i).toInt ∧ (tV E i).toInt ≤ hi ∧ (pNum E lo hi i).2 = i + 1 ∧ i + 1 ≤ tL E) ∧ ((pNum E lo hi i).1 ≠ 0 → (pNum E lo hi i).2 = i ∧ ((pNum E lo hi i).1 = 1 ∨ (pNum E lo hi i).1 = 4)) := by
  unfold pNum
  by_cases h3 : tT E i = 3
  · rw [if_pos h3]
    by_cases hr : lo ≤ (tV E i).toInt ∧ (tV E i).toInt ≤ hi
    · rw [if_pos hr]
      exact ⟨fun _ => ⟨h3, hr.1, hr.2, rfl, hE.lt h (by omega)⟩, fun h => absurd rfl h⟩
    · rw [if_neg hr]
      exact ⟨fun h => absurd h (by intro h; cases h), fun _ => ⟨rfl, Or.inr rfl⟩⟩
  · rw [if_neg h3]
    exact ⟨fun h => absurd h (by intro h; cases h), fun _ => ⟨rfl, Or.inl rfl⟩⟩
theorem pWhom_far {E : ET} (hE : TE E) {hn : Int} {i : Nat} (h : i ≤ tL E) : (pWhom E hn i).2.1 ≤ tL E ∧ ((pWhom E hn i).1 = 0 → i < (pWhom E hn i).2.1 ∧ (24 = (pWhom E hn i).2.2.1 ∨ (25 = (pWhom E hn i).2.2.1 ∧ 0 ≤ (pWhom E hn i).2.2.2.toInt ∧ (pWhom E hn i).2.2.2.toInt < hn) ∨ (26 = (pWhom E hn i).2.2.1 ∧ 1 ≤ (pWhom E hn i).2.2.2.toInt ∧ (pWhom E hn i).2.2.2.toInt ≤ 12))) ∧ ((pWhom E hn i).1 ≠ 0 → (pWhom E hn i).1 = 1 ∨ (pWhom E hn i).1 = 4) := by
  unfold pWhom
  by_cases h1 : tT E i = 24
  · rw [if_pos h1]; exact ⟨hE.lt h (by omega), fun _ => ⟨Nat.lt_succ_self i, Or.inl rfl⟩, fun h => absurd rfl h⟩
  · rw [if_neg h1]
    by_cases h2 : tT E i = 25
    · have hlt := hE.lt h (show tT E i ≠ 2 by omega)
      have hp := pNum_far hE (lo := 0) (hi := hn - 1) (i := i + 1) hlt
      rw [if_pos h2]
      refine ⟨?_, fun h0 => ?_, fun h0 => (hp.2 h0).2⟩
      · show (pNum E 0 (hn - 1) (i + 1)).2 ≤ tL E
        by_cases h0 : (pNum E 0 (hn - 1) (i + 1)).1 = 0
        · rw [(hp.1 h0).2.2.2.1]; exact (hp.1 h0).2.2.2.2
        · rw [(hp.2 h0).1]; exact hlt
      · have hh := hp.1 h0
        refine ⟨by show i < (pNum E 0 (hn - 1) (i + 1)).2; omega, Or.inr (Or.inl ⟨rfl, hh.2.1, ?_⟩)⟩
        show (tV E (i + 1)).toInt < hn
        omega
    · rw [if_neg h2]
      by_cases h3 : tT E i = 26
      · have hlt := hE.lt h (show tT E i ≠ 2 by omega)
        have hp := pNum_far hE (lo := 1) (hi := 12) (i := i + 1) hlt
        rw [if_pos h3]
        refine ⟨?_, fun h0 => ?_, fun h0 => (hp.2 h0).2⟩
        · show (pNum E 1 12 (i + 1)).2 ≤ tL E
          by_cases h0 : (pNum E 1 12 (i + 1)).1 = 0
          · rw [(hp.1 h0).2.2.2.1]; exact (hp.1 h0).2.2.2.2
          · rw [(hp.2 h0).1]; exact hlt
        · have hh := hp.1 h0
          exact ⟨by show i < (pNum E 1 12 (i + 1)).2; omega, Or.inr (Or.inr ⟨rfl, hh.2.1, hh.2.2.1⟩)⟩
      · rw [if_neg h3]; exact ⟨h, fun h => absurd h ne1, fun _ => Or.inl rfl⟩
/-! the class -/
section
variable {f : Nat} {E : ET} {tx : Nat} {i : Nat} {u : MT}
theorem c_num (h : CS E i u) {a1 : Nat} (ha : 116 ≤ a1) {a b : Int32} {lo hi : Int} (el : a.toInt = lo) (eh : b.toInt = hi) :
    ∃ r, F_X3_takeNumber f tx a1 a b u = some r ∧ ((pNum E lo hi i).1 = 0 → r = (1, cadv (sI u a1 9 (tV E i)))) ∧ ((pNum E lo hi i).1 ≠ 0 → r.1 = 0 ∧ gI r.2 112 5 = flt E (Int32.ofNat (pNum E lo hi i).1) (pNum E lo hi i).2) := by
  unfold pNum
  by_cases h3 : tT E i = 3
  · rw [if_pos h3]
    by_cases hr : lo ≤ (tV E i).toInt ∧ (tV E i).toInt ≤ hi
    · rw [if_pos hr]
      exact ⟨_, c_num_t h ha h3 (by omega) (by omega), fun _ => rfl, fun h => absurd rfl h⟩
    · rw [if_neg hr]
      exact ⟨_, c_num_o h h3 (by omega), fun h => absurd h (by intro h; cases h), fun _ => ⟨rfl, cwr_flt⟩⟩
  · rw [if_neg h3]
    exact ⟨_, c_num_f h h3, fun h => absurd h (by intro h; cases h), fun _ => ⟨rfl, cwr_flt⟩⟩
def CWp (E : ET) (a1 : Nat) (p : Nat × Nat × Nat × Int32) (r : Int32 × MT) : Prop :=
  (p.1 = 0 → r.1 = 1 ∧ CS E p.2.1 r.2 ∧ gK r.2 a1 6 = p.2.2.1 ∧ (p.2.2.1 ≠ 24 → gI r.2 a1 9 = p.2.2.2)) ∧ (p.1 ≠ 0 → r.1 = 0 ∧ gI r.2 112 5 = flt E (Int32.ofNat p.1) p.2.1)
theorem c_whom (h : CS E i u) {a1 : Nat} (ha : 116 ≤ a1) {hn : Int} (hh : (gI u 112 6).toInt = hn) (h0 : 0 ≤ hn) : Ok (F_X3_takeWhom f tx a1 u) (CWp E a1 (pWhom E hn i)) := by
  have hlast := h.2.2.2.2
  rw [F_X3_takeWhom]
  by_cases hb : tT E i = 24 ∨ tT E i = 25 ∨ tT E i = 26
  · have hlt := h.lt (show tT E i ≠ 2 by omega)
    have hS : CS E (i + 1) (sK (cadv u) a1 6 (tT E i)) := (h.next hlt).putK (by omega)
    refine Ok.bindE (c_oneOf_t h (by decide) (by decide) (by decide) hb (by omega)) ?_
    dsimp only
    rw [k_same]
    refine Ok.f (by omega) (Ok.ck h.le ?_)
    have nums : ∀ (a b : Int32) (lo hi : Int), a.toInt = lo → b.toInt = hi → tT E i ≠ 24 → ∀ (p : Nat × Nat × Nat × Int32), p = ((pNum E lo hi (i + 1)).1, (pNum E lo hi (i + 1)).2, tT E i, tV E (i + 1)) → ∃ r, F_X3_takeNumber f tx a1 a b (sK (cadv u) a1 6 (tT E i)) = some r ∧ (r.1 = 0 ∨ r.1 = 1) ∧ CWp E a1 p r := by
      intro a b lo hi ea eb hne p hp
      obtain ⟨r, e1, e2, e3⟩ := c_num (f := f) (tx := tx) hS ha ea eb
      have hf := pNum_far h.2.1 (lo := lo) (hi := hi) (i := i + 1) hlt
      by_cases h0 : (pNum E lo hi (i + 1)).1 = 0
      · have e4 := e2 h0
        have hff := hf.1 h0
        subst e4
        refine ⟨_, e1, Or.inr rfl, ?_⟩
        subst hp
        refine ⟨fun _ => ⟨rfl, ?_, ?_, fun _ => ?_⟩, fun h => absurd h0 h⟩
        · show CS E (pNum E lo hi (i + 1)).2 _
          rw [hff.2.2.2.1]
          exact (hS.put (Or.inl (by omega)) (by omega) (by omega)).next hff.2.2.2.2
        · exact k_same _ _ _ _
        · exact (g_ne _ _ _ _ (by omega)).trans (g_same _ _ _ _)
      · have e4 := e3 h0
        refine ⟨r, e1, Or.inl e4.1, ?_⟩
        subst hp
        exact ⟨fun h => absurd h h0, fun _ => e4⟩
    refine Ok.ite (fun h25 => ?_) (fun h25 => Ok.ite (fun h24 => ?_) (fun h24 => ?_))
    · have e6 : gI (sK (cadv u) a1 6 (tT E i)) 112 6 = gI u 112 6 := (g_K _ _ _ _ _ _).trans (g_nk _ _ _ (by decide))
      rw [e6]
      obtain ⟨r, e1, e2, e3⟩ := nums 0 (gI u 112 6 - 1) 0 (hn - 1) rfl (by rw [i_sub (by rw [hh, show (1 : Int32).toInt = 1 from rfl]; omega) (by rw [hh, show (1 : Int32).toInt = 1 from rfl]; have := i_hi (gI u 112 6); omega), hh]; rfl) (by omega) (pWhom E hn i) (by unfold pWhom; rw [if_neg (by omega), if_pos h25, h25])
      exact Ok.bindE e1 (Ok.ck e2 (Ok.some e3))
    · refine Ok.some ?_
      have : pWhom E hn i = (0, i + 1, 24, 0) := if_pos h24
      rw [this]
      exact ⟨fun _ => ⟨rfl, hS, by show gK (sK _ a1 6 _) a1 6 = 24; rw [k_same, h24], fun h => absurd rfl h⟩, fun h => absurd rfl h⟩
    · have h26 : tT E i = 26 := by omega
      obtain ⟨r, e1, e2, e3⟩ := nums 1 12 1 12 rfl rfl (by omega) (pWhom E hn i) (by unfold pWhom; rw [if_neg h24, if_neg h25, if_pos h26, h26])
      refine Ok.bindE e1 (Ok.ite (fun hr => Ok.some ?_) (fun hr => Ok.some ?_))
      · exact ⟨fun h => absurd hr (by rw [(e3.1 h).1]; decide), fun h => ⟨rfl, (e3.2 h).2⟩⟩
      · refine ⟨fun h => ⟨rfl, (e3.1 h).2⟩, fun h => absurd (e3.2 h).1 hr⟩
  · refine Ok.bindE (c_oneOf_f h (by decide) (by decide) (by decide) (by omega) (by omega) (by omega)) ?_
    dsimp only
    rw [k_same]
    refine Ok.t rfl (Ok.some ?_)
    have : pWhom E hn i = (1, i, 0, 0) := by unfold pWhom; rw [if_neg (by omega), if_neg (by omega), if_neg (by omega)]
    rw [this]
    exact ⟨fun h => absurd h ne1, fun _ => ⟨rfl, (g_K _ _ _ _ _ _).trans cwr_flt⟩⟩
def CYp (E : ET) (a1 : Nat) (p : Nat × Nat × Nat × Nat × Int32 × Nat) (r : Int32 × MT) : Prop :=
  (p.1 = 0 → r.1 = 1 ∧ CS E p.2.1 r.2 ∧ gK r.2 a1 5 = p.2.2.1 ∧ gK r.2 a1 6 = p.2.2.2.1 ∧ (p.2.2.2.1 ≠ 24 → gI r.2 a1 9 = p.2.2.2.2.1) ∧ gK r.2 a1 7 = p.2.2.2.2.2) ∧ (p.1 ≠ 0 → r.1 = 0 ∧ gI r.2 112 5 = flt E (Int32.ofNat p.1) p.2.1)
theorem c_ways (h : CS E i u) {a1 : Nat} (ha : 116 ≤ a1) {hn : Int} (hh : (gI u 112 6).toInt = hn) (h0 : 0 ≤ hn) : Ok (F_X3_takeWays f tx a1 u) (CYp E a1 (pWays E hn i)) := by
  have bad : ∀ (p : Nat × Nat × Nat × Nat × Int32 × Nat) (k : Nat) (j : Nat) (r : Int32 × MT), p = (k, j, 0, 0, 0, 0) → k ≠ 0 → r.1 = 0 → gI r.2 112 5 = flt E (Int32.ofNat k) j → CYp E a1 p r := by
    intro p k j r hp hk h1 h2
    subst hp
    exact ⟨fun h => absurd h hk, fun _ => ⟨h1, h2⟩⟩
  rw [F_X3_takeWays]
  by_cases h21 : tT E i = 21
  · have hlt := h.lt (show tT E i ≠ 2 by omega)
    have h1 := h.next hlt
    refine Ok.bindE (c_take_t h h21 (by decide)) (Ok.f ni1 ?_)
    dsimp only
    by_cases h9 : tT E (i + 1) = 9 ∨ tT E (i + 1) = 10
    · have hlt1 := h1.lt (show tT E (i + 1) ≠ 2 by omega)
      have h2 : CS E (i + 2) (sK (cadv (cadv u)) a1 5 (tT E (i + 1))) := (h1.next hlt1).putK (by omega)
      refine Ok.bindE (c_oneOf_t h1 (by decide) (by decide) (by decide) (by omega) (by omega)) ?_
      dsimp only
      rw [k_same]
      refine Ok.f (by omega) ?_
      by_cases h22 : tT E (i + 2) = 22
      · have hlt2 := h2.lt (show tT E (i + 2) ≠ 2 by omega)
        have h3 := h2.next hlt2
        have hpw := pWhom_far h.2.1 (hn := hn) (i := i + 3) hlt2
        refine Ok.bindE (c_take_t h2 h22 (by decide)) (Ok.f ni1 ?_)
        dsimp only
        have hh3 : (gI (cadv (sK (cadv (cadv u)) a1 5 (tT E (i + 1)))) 112 6).toInt = hn := by
          rw [show gI (cadv (sK (cadv (cadv u)) a1 5 (tT E (i + 1)))) 112 6 = gI u 112 6 from (g_nk _ _ _ (by decide)).trans ((g_K _ _ _ _ _ _).trans ((g_nk _ _ _ (by decide)).trans (g_nk _ _ _ (by decide))))]; exact hh
        have hw := c_whom (f := f) (tx := tx) (i := i + 3) h3 ha hh3 h0
        obtain ⟨rw', ew, hw⟩ := hw
        have hfrw := fr_F_X3_takeWhom ew
        refine Ok.bindE ew ?_
        by_cases hk : (pWhom E hn (i + 3)).1 = 0
        · obtain ⟨w1, w2, w3, w4⟩ := hw.1 hk
          rw [w1]
          refine Ok.f ni1 ?_
          by_cases h23 : tT E (pWhom E hn (i + 3)).2.1 = 23
          · have hlt3 := w2.lt (show tT E (pWhom E hn (i + 3)).2.1 ≠ 2 by omega)
            have h4 := w2.next hlt3
            refine Ok.bindE (c_take_t w2 h23 (by decide)) (Ok.f ni1 ?_)
            dsimp only
            by_cases h27 : 27 ≤ tT E ((pWhom E hn (i + 3)).2.1 + 1) ∧ tT E ((pWhom E hn (i + 3)).2.1 + 1) ≤ 29
            · have hlt4 := h4.lt (show tT E ((pWhom E hn (i + 3)).2.1 + 1) ≠ 2 by omega)
              have h5 := h4.next hlt4
              refine Ok.bindE (c_oneOf_t h4 (by decide) (by decide) (by decide) (by omega) (by omega)) ?_
              dsimp only
              rw [k_same]
              refine Ok.f (by omega) (Ok.some ?_)
              have : pWays E hn i = (0, (pWhom E hn (i + 3)).2.1 + 2, tT E (i + 1), (pWhom E hn (i + 3)).2.2.1, (pWhom E hn (i + 3)).2.2.2, tT E ((pWhom E hn (i + 3)).2.1 + 1)) := by
                unfold pWays; rw [if_pos h21, if_pos h9, if_pos h22, if_pos hk, if_pos h23, if_pos h27]
              rw [this]
              refine ⟨fun _ => ⟨rfl, ?_, ?_, ?_, fun hne => ?_, k_same _ _ _ _⟩, fun h => absurd rfl h⟩
              · exact h5.putK (by omega)
              · show gK (sK (cadv (cadv rw'.2)) a1 7 _) a1 5 = tT E (i + 1)
                rw [k_at, if_neg (by decide)]
                show gK rw'.2 a1 5 = _
                rw [hfrw.2.2 a1 5 (by simp [nin, wK_X3_takeWhom])]
                exact k_same _ _ _ _
              · show gK (sK (cadv (cadv rw'.2)) a1 7 _) a1 6 = _
                rw [k_at, if_neg (by decide)]
                exact w3
              · show gI (cadv (cadv rw'.2)) a1 9 = _
                exact (g_ne _ _ _ _ (by omega)).trans ((g_ne _ _ _ _ (by omega)).trans (w4 hne))
            · refine Ok.bindE (c_oneOf_f h4 (by decide) (by decide) (by decide) (by omega) (by omega) (by omega)) ?_
              dsimp only
              rw [k_same]
              refine Ok.t rfl (Ok.some (bad _ 1 ((pWhom E hn (i + 3)).2.1 + 1) _ ?_ (by decide) rfl ((g_K _ _ _ _ _ _).trans cwr_flt)))
              unfold pWays; rw [if_pos h21, if_pos h9, if_pos h22, if_pos hk, if_pos h23, if_neg h27]
          · refine Ok.bindE (c_take_f w2 (by decide) h23) (Ok.t rfl (Ok.some (bad _ 1 (pWhom E hn (i + 3)).2.1 _ ?_ (by decide) rfl cwr_flt)))
            unfold pWays; rw [if_pos h21, if_pos h9, if_pos h22, if_pos hk, if_neg h23]
        · obtain ⟨w1, w2⟩ := hw.2 hk
          rw [w1]
          refine Ok.t rfl (Ok.some (bad _ (pWhom E hn (i + 3)).1 (pWhom E hn (i + 3)).2.1 _ ?_ hk rfl w2))
          unfold pWays; rw [if_pos h21, if_pos h9, if_pos h22, if_neg hk]
      · refine Ok.bindE (c_take_f h2 (by decide) h22) (Ok.t rfl (Ok.some (bad _ 1 (i + 2) _ ?_ (by decide) rfl cwr_flt)))
        unfold pWays; rw [if_pos h21, if_pos h9, if_neg h22]
    · refine Ok.bindE (c_oneOf_f h1 (by decide) (by decide) (by decide) (by omega) (by omega) (by omega)) ?_
      dsimp only
      rw [k_same]
      refine Ok.t rfl (Ok.some (bad _ 1 (i + 1) _ ?_ (by decide) rfl ((g_K _ _ _ _ _ _).trans cwr_flt)))
      unfold pWays; rw [if_pos h21, if_neg h9]
  · refine Ok.bindE (c_take_f h (by decide) h21) (Ok.t rfl (Ok.some (bad _ 1 i _ ?_ (by decide) rfl cwr_flt)))
    unfold pWays; rw [if_neg h21]
end
