/-! ===== the class's Book turns to a day ===== -/
theorem las_eq {rh rq rd : Nat → Int32} {q d0 d1 : Int32} {h : Nat} : ∀ R, (∀ j, j < R → rq j = q → (rd j ≤ d0 ↔ rd j ≤ d1)) → lasR rh rq rd q d0 h R = lasR rh rq rd q d1 h R := by
  intro R
  induction R with
  | zero => intro _; rfl
  | succ R ih =>
    intro e
    have i := ih (fun j hj => e j (by omega))
    rw [lasR, lasR, i]
    by_cases c : rq R = q
    · have := e R (by omega) c
      by_cases c2 : rd R ≤ d0
      · have c3 := this.mp c2
        by_cases c4 : (rh R).toInt = (h : Int)
        · rw [if_pos ⟨c, c2, c4⟩, if_pos ⟨c, c3, c4⟩]
        · rw [if_neg (fun x => c4 x.2.2), if_neg (fun x => c4 x.2.2)]
      · rw [if_neg (fun x => c2 x.2.1), if_neg (fun x => c2 (this.mpr x.2.1))]
    · rw [if_neg (fun x => c x.1), if_neg (fun x => c x.1)]
theorem txF_eq {tq td : Nat → Int32} {q d0 d1 : Int32} : ∀ T, (∀ j, j < T → tq j ≤ q → (td j ≤ d0 ↔ td j ≤ d1)) → txF tq td q d0 T = txF tq td q d1 T := by
  intro T
  induction T with
  | zero => intro _; rfl
  | succ T ih =>
    intro e
    have i := ih (fun j hj => e j (by omega))
    rw [txF, txF, i]
    by_cases c : tq T ≤ q
    · have := e T (by omega) c
      by_cases c2 : td T ≤ d0
      · rw [if_pos ⟨c, c2⟩, if_pos ⟨c, this.mp c2⟩]
      · rw [if_neg (fun x => c2 x.2), if_neg (fun x => c2 (this.mpr x.2))]
    · rw [if_neg (fun x => c x.1), if_neg (fun x => c x.1)]
section
variable {f : Nat}
theorem c_touchT {w : LT} {u : MT} {ts T : Nat} {b t : Int32} {tq td : Nat → Int32} (hf : 10 < f) (hT : Nm (gI u ts 1) T) (h6 : T ≤ 6) (hk : ∀ t, t < T → lt_t w (lt_p w (ts + 1) t) = 7) (hq : ∀ t, t < T → gI u (lt_p w (ts + 1) t) 5 = tq t ∧ 0 ≤ (tq t).toInt) (hd : ∀ t, t < T → gI u (lt_p w (ts + 1) t) 6 = td t) : Ok (F_X8_firstTouched w f ts b t u) (fun r => r.2 = u ∧ Unt T tq td b t r.1) := by
  have loop : ∀ (e k : Nat) (x y : Int32) (m : Nat), k + e = T → Nm x k → e < m → Unt k tq td b t y → Ok (B_X8_firstTouched_7 w f ts m b t y x u) (fun r => r.2 = u ∧ Unt T tq td b t r.1) := by
    intro e
    induction e with
    | zero =>
      intro k x y m hk' hx hm hy
      obtain ⟨m, rfl⟩ : ∃ m', m = m' + 1 := ⟨m - 1, by omega⟩
      have hkT : k = T := by omega
      subst hkT
      rw [B_X8_firstTouched_7]
      exact Ok.t ((hT.le hx).mpr (Nat.le_refl _)) (Ok.some ⟨rfl, hy⟩)
    | succ e ih =>
      intro k x y m hk' hx hm hy
      obtain ⟨m, rfl⟩ : ∃ m', m = m' + 1 := ⟨m - 1, by omega⟩
      have hkT : k < T := by omega
      have i1 := fun y => ih (k + 1) (x + 1) y m (by omega) (hx.succ (by omega)) (by omega)
      obtain ⟨y0, y1, y2⟩ := hy
      have q0 := (hq k hkT).2
      rw [B_X8_firstTouched_7]
      refine Ok.f (fun c => by have := (hT.le hx).mp c; omega) (Ok.ck (hx.ix (by omega)) ?_)
      rw [hx.nat]
      refine Ok.ck (hk k hkT) ?_
      rw [(hq k hkT).1, hd k hkT]
      unfold B_X8_firstTouched_59
      have keep : ¬ (b.toInt < (td k).toInt ∧ (td k).toInt ≤ t.toInt) → Unt (k + 1) tq td b t y := fun c => ⟨y0, y1, fun j hj h1 h2 => by
        rcases Nat.lt_succ_iff_lt_or_eq.mp hj with h | h
        · exact y2 j h h1 h2
        · subst h; exact absurd ⟨h1, h2⟩ c⟩
      refine Ok.ite (fun c => i1 y (keep (fun c' => by have := i_le.mp c; omega))) (fun c1 => Ok.ite (fun c => i1 y (keep (fun c' => by have := i_lt.mp c; omega))) (fun c2 => ?_))
      refine i1 _ ?_
      by_cases c3 : tq k < y
      · have c3' := i_lt.mp c3
        rw [if_pos c3]
        refine ⟨q0, by omega, fun j hj h1 h2 => ?_⟩
        rcases Nat.lt_succ_iff_lt_or_eq.mp hj with h | h
        · have := y2 j h h1 h2; omega
        · subst h; exact Int.le_refl _
      · have c3' := mt i_lt.mpr c3
        rw [if_neg c3]
        refine ⟨y0, y1, fun j hj h1 h2 => ?_⟩
        rcases Nat.lt_succ_iff_lt_or_eq.mp hj with h | h
        · exact y2 j h h1 h2
        · subst h; omega
  rw [F_X8_firstTouched]
  exact loop T 0 0 240 f (by omega) nm0 (by omega) ⟨by decide, by decide, fun j hj => absurd hj (by omega)⟩
/-- behind turnTo: the Book knows the day; below worked nothing changed between the two days -/
def Tu (R T : Nat) (rq rd tq td : Nat → Int32) (b : Nat) (d : Int32) (u r : MT) : Prop :=
  gI r b 4 = d ∧ 0 ≤ (gI r b 5).toInt ∧ (gI r b 5).toInt ≤ (gI u b 5).toInt ∧
  (∀ j, j < R → (rq j).toInt < (gI r b 5).toInt → (rd j ≤ gI u b 4 ↔ rd j ≤ d)) ∧
  (∀ j, j < T → (tq j).toInt < (gI r b 5).toInt → (td j ≤ gI u b 4 ↔ td j ≤ d)) ∧
  ∀ a j, (a ≠ b ∨ (j ≠ 4 ∧ j ≠ 5)) → gI r a j = gI u a j
theorem unt_iff {R : Nat} {rq rd : Nat → Int32} {a d x : Int32} {j : Nat} (h : Unt R rq rd (if a < d then a else d) (if d < a then a else d) x) (hj : j < R) (hx : (rq j).toInt < x.toInt) : rd j ≤ a ↔ rd j ≤ d := by
  have h3 := h.2.2 j hj
  rw [i_le, i_le]
  by_cases c1 : a < d
  · have c1' := i_lt.mp c1
    rw [if_pos c1, if_neg (fun c => by have := i_lt.mp c; omega)] at h3
    constructor
    · intro e; omega
    · intro e; by_cases c : a.toInt < (rd j).toInt
      · have := h3 c e; omega
      · omega
  · have c1' := mt i_lt.mpr c1
    rw [if_neg c1] at h3
    by_cases c2 : d < a
    · have c2' := i_lt.mp c2
      rw [if_pos c2] at h3
      constructor
      · intro e; by_cases c : d.toInt < (rd j).toInt
        · have := h3 c e; omega
        · omega
      · intro e; omega
    · have c2' := mt i_lt.mpr c2
      constructor
      · intro e; omega
      · intro e; omega
theorem min_int {a x : Int32} : (if a < x then a else x).toInt ≤ a.toInt ∧ (if a < x then a else x).toInt ≤ x.toInt ∧ (0 ≤ a.toInt → 0 ≤ x.toInt → 0 ≤ (if a < x then a else x).toInt) := by
  by_cases c : a < x
  · have := i_lt.mp c
    rw [if_pos c]; exact ⟨by omega, by omega, fun h _ => h⟩
  · have := mt i_lt.mpr c
    rw [if_neg c]; exact ⟨by omega, by omega, fun _ h => h⟩
theorem c_turn {w : LT} {u : MT} {b ts R T : Nat} {d : Int32} {rq rd tq td : Nat → Int32} (hf : 500 < f) (hw : 0 ≤ (gI u b 5).toInt) (hR : Nm (gI u 104 5) R) (h4 : R ≤ 400) (hq : ∀ j, j < R → gI u 106 j = rq j ∧ 0 ≤ (rq j).toInt) (hd : ∀ j, j < R → gI u 109 j = rd j) (hT : Nm (gI u ts 1) T) (h6 : T ≤ 6) (hk : ∀ t, t < T → lt_t w (lt_p w (ts + 1) t) = 7 ∧ lt_p w (ts + 1) t ≠ b) (htq : ∀ t, t < T → gI u (lt_p w (ts + 1) t) 5 = tq t ∧ 0 ≤ (tq t).toInt) (htd : ∀ t, t < T → gI u (lt_p w (ts + 1) t) 6 = td t) (hb : ts ≠ b) : Ok (F_X1_turnTo w f b ts d u) (Tu R T rq rd tq td b d u) := by
  rw [F_X1_turnTo]
  refine Ok.ite (fun c => ?_) (fun c => ?_)
  · have c' := i_le.mp c
    have e : gI u b 4 = d := by
      refine Int32.toInt_inj.mp ?_
      by_cases c1 : gI u b 4 < d
      · have := i_lt.mp c1
        rw [if_pos c1, if_neg (fun c => by have := i_lt.mp c; omega)] at c'
        omega
      · have := mt i_lt.mpr c1
        rw [if_neg c1] at c'
        by_cases c2 : d < gI u b 4
        · have := i_lt.mp c2
          rw [if_pos c2] at c'
          omega
        · have := mt i_lt.mpr c2
          omega
    exact Ok.some ⟨e, hw, Int.le_refl _, fun _ _ _ => by rw [e], fun _ _ _ => by rw [e], fun _ _ _ => rfl⟩
  · refine (c_touchR hf hR h4 hq hd).bind (fun r4 hr4 => ?_)
    obtain ⟨r4, v4⟩ := r4
    obtain ⟨e4, n4⟩ := hr4
    subst e4
    rw [F_X1_forgetFrom]
    refine Ok.bindE rfl ?_
    refine (c_touchT (T := T) (tq := tq) (td := td) (by omega) (by rw [g_ne _ _ _ _ hb]; exact hT) h6 (fun t ht => (hk t ht).1) (fun t ht => by rw [g_ne _ _ _ _ (hk t ht).2]; exact htq t ht) (fun t ht => by rw [g_ne _ _ _ _ (hk t ht).2]; exact htd t ht)).bind (fun r8 hr8 => ?_)
    obtain ⟨r8, v8⟩ := r8
    obtain ⟨e8, n8⟩ := hr8
    have e8 : v8 = _ := e8
    subst e8
    rw [F_X1_forgetFrom]
    refine Ok.bindE rfl (Ok.some ?_)
    have m1 := @min_int r4 (gI v4 b 5)
    have m2 := @min_int r8 (if r4 < gI v4 b 5 then r4 else gI v4 b 5)
    have z4 := n4.1
    have z8 := n8.1
    have z4 : 0 ≤ r4.toInt := z4
    have z8 : 0 ≤ r8.toInt := z8
    have w5 : gI (sI (sI (sI v4 b 5 (if r4 < gI v4 b 5 then r4 else gI v4 b 5)) b 5 (if r8 < gI (sI v4 b 5 (if r4 < gI v4 b 5 then r4 else gI v4 b 5)) b 5 then r8 else gI (sI v4 b 5 (if r4 < gI v4 b 5 then r4 else gI v4 b 5)) b 5)) b 4 d) b 5 = (if r8 < (if r4 < gI v4 b 5 then r4 else gI v4 b 5) then r8 else (if r4 < gI v4 b 5 then r4 else gI v4 b 5)) := by
      rw [g_nk _ _ _ (by decide), g_same, g_same]
    refine ⟨g_same _ _ _ _, ?_, ?_, fun j hj hl => ?_, fun j hj hl => ?_, fun a j h => ?_⟩
    · show 0 ≤ (gI (sI (sI (sI v4 b 5 _) b 5 _) b 4 d) b 5).toInt
      rw [w5]; exact m2.2.2 z8 (m1.2.2 z4 hw)
    · show (gI (sI (sI (sI v4 b 5 _) b 5 _) b 4 d) b 5).toInt ≤ _
      rw [w5]; exact Int.le_trans m2.2.1 m1.2.1
    · have hl : (rq j).toInt < (gI (sI (sI (sI v4 b 5 _) b 5 _) b 4 d) b 5).toInt := hl
      rw [w5] at hl
      exact unt_iff n4 hj (by have := m2.2.1; have := m1.1; show _ < r4.toInt; omega)
    · have hl : (tq j).toInt < (gI (sI (sI (sI v4 b 5 _) b 5 _) b 4 d) b 5).toInt := hl
      rw [w5] at hl
      exact unt_iff n8 hj (by have := m2.1; show _ < r8.toInt; omega)
    · show gI (sI (sI (sI v4 b 5 _) b 5 _) b 4 d) a j = gI v4 a j
      by_cases e : a = b
      · subst e
        have := h.resolve_left (fun e => e rfl)
        rw [g_nk _ _ _ this.1, g_nk _ _ _ this.2, g_nk _ _ _ this.2]
      · rw [g_ne _ _ _ _ e, g_ne _ _ _ _ e, g_ne _ _ _ _ e]
end
