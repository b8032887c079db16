/-! ===== the class's Book: texts in force, first touched ===== -/
def ptF (w : LT) (ts : Nat) (o : Option Nat) : Nat := match o with
  | some t => lt_p w (ts + 1) t
  | none => 0
section
variable {f : Nat}
theorem c_inForce {w : LT} {u : MT} {ts T : Nat} {q d : Int32} {tq td : Nat → Int32} (hf : 10 < f) (hT : Nm (gI u ts 1) T) (h6 : T ≤ 6) (hk : ∀ t, t < T → lt_t w (lt_p w (ts + 1) t) = 7) (hq : ∀ t, t < T → gI u (lt_p w (ts + 1) t) 5 = tq t) (hd : ∀ t, t < T → gI u (lt_p w (ts + 1) t) 6 = td t) : F_X8_inForce w f ts q d u = some (ptF w ts (txF tq td q d T), u) := by
  have loop : ∀ (e k : Nat) (x : Int32) (m : Nat), k + e = T → Nm x k → e < m → B_X8_inForce_5 w f ts m q d (ptF w ts (txF tq td q d k)) x u = some (ptF w ts (txF tq td q d T), u) := by
    intro e
    induction e with
    | zero =>
      intro k x m hk' hx hm
      obtain ⟨m, rfl⟩ : ∃ m', m = m' + 1 := ⟨m - 1, by omega⟩
      have hkT : k = T := by omega
      subst hkT
      rw [B_X8_inForce_5, if_pos ((hT.le hx).mpr (Nat.le_refl _))]
    | succ e ih =>
      intro k x m hk' hx hm
      obtain ⟨m, rfl⟩ : ∃ m', m = m' + 1 := ⟨m - 1, by omega⟩
      have hkT : k < T := by omega
      have i1 := ih (k + 1) (x + 1) m (by omega) (hx.succ (by omega)) (by omega)
      rw [B_X8_inForce_5, if_neg (fun c => by have := (hT.le hx).mp c; omega), hx.nat]
      unfold ck
      rw [if_pos (hx.ix (by omega)), if_pos (hk k hkT), hq k hkT, hd k hkT]
      unfold B_X8_inForce_50
      by_cases c1 : q < tq k
      · rw [if_pos c1]
        rw [txF, if_neg (fun c => by have := i_le.mp c.1; have := i_lt.mp c1; omega)] at i1
        exact i1
      · rw [if_neg c1]
        by_cases c2 : d < td k
        · rw [if_pos c2]
          rw [txF, if_neg (fun c => by have := i_le.mp c.2; have := i_lt.mp c2; omega)] at i1
          exact i1
        · rw [if_neg c2]
          rw [txF, if_pos ⟨i_le.mpr (by have := mt i_lt.mpr c1; omega), i_le.mpr (by have := mt i_lt.mpr c2; omega)⟩] at i1
          exact i1
  rw [F_X8_inForce]
  exact loop T 0 0 f (by omega) nm0 (by omega)
/-- a quarter below which nothing came between two days -/
def Unt (R : Nat) (rq rd : Nat → Int32) (b t x : Int32) : Prop := 0 ≤ x.toInt ∧ x.toInt ≤ 240 ∧ ∀ j, j < R → b.toInt < (rd j).toInt → (rd j).toInt ≤ t.toInt → x.toInt ≤ (rq j).toInt
theorem c_touchR {u : MT} {R : Nat} {b t : Int32} {rq rd : Nat → Int32} (hf : 500 < f) (hR : Nm (gI u 104 5) R) (h4 : R ≤ 400) (hq : ∀ j, j < R → gI u 106 j = rq j ∧ 0 ≤ (rq j).toInt) (hd : ∀ j, j < R → gI u 109 j = rd j) : Ok (F_X4_firstTouched f b t u) (fun r => r.2 = u ∧ Unt R rq rd b t r.1) := by
  have loop : ∀ (e k : Nat) (x y : Int32) (m : Nat), k + e = R → Nm x k → e < m → Unt k rq rd b t y → Ok (B_X4_firstTouched_7 f m b t y x u) (fun r => r.2 = u ∧ Unt R rq rd b t r.1) := by
    intro e
    induction e with
    | zero =>
      intro k x y m hk' hx hm hy
      obtain ⟨m, rfl⟩ : ∃ m', m = m' + 1 := ⟨m - 1, by omega⟩
      have hkT : k = R := by omega
      subst hkT
      rw [B_X4_firstTouched_7]
      exact Ok.t ((hR.le hx).mpr (Nat.le_refl _)) (Ok.some ⟨rfl, hy⟩)
    | succ e ih =>
      intro k x y m hk' hx hm hy
      obtain ⟨m, rfl⟩ : ∃ m', m = m' + 1 := ⟨m - 1, by omega⟩
      have hkT : k < R := by omega
      have i1 := fun y => ih (k + 1) (x + 1) y m (by omega) (hx.succ (by omega)) (by omega)
      obtain ⟨y0, y1, y2⟩ := hy
      have q0 := (hq k hkT).2
      rw [B_X4_firstTouched_7]
      refine Ok.f (fun c => by have := (hR.le hx).mp c; omega) (Ok.ck (hx.ix (by omega)) ?_)
      rw [hx.nat, (hq k hkT).1, hd k hkT]
      unfold B_X4_firstTouched_50
      have keep : ¬ (b.toInt < (rd k).toInt ∧ (rd k).toInt ≤ t.toInt) → Unt (k + 1) rq rd b t y := fun c => ⟨y0, y1, fun j hj h1 h2 => by
        rcases Nat.lt_succ_iff_lt_or_eq.mp hj with h | h
        · exact y2 j h h1 h2
        · subst h; exact absurd ⟨h1, h2⟩ c⟩
      refine Ok.ite (fun c => i1 y (keep (fun c' => by have := i_le.mp c; omega))) (fun c1 => Ok.ite (fun c => i1 y (keep (fun c' => by have := i_lt.mp c; omega))) (fun c2 => ?_))
      refine i1 _ ?_
      by_cases c3 : rq k < y
      · have c3' := i_lt.mp c3
        rw [if_pos c3]
        refine ⟨q0, by omega, fun j hj h1 h2 => ?_⟩
        rcases Nat.lt_succ_iff_lt_or_eq.mp hj with h | h
        · have := y2 j h h1 h2; omega
        · subst h; exact Int.le_refl _
      · have c3' := mt i_lt.mpr c3
        rw [if_neg c3]
        refine ⟨y0, y1, fun j hj h1 h2 => ?_⟩
        rcases Nat.lt_succ_iff_lt_or_eq.mp hj with h | h
        · exact y2 j h h1 h2
        · subst h; omega
  rw [F_X4_firstTouched]
  exact loop R 0 0 240 f (by omega) nm0 (by omega) ⟨by decide, by decide, fun j hj => absurd hj (by omega)⟩
end
