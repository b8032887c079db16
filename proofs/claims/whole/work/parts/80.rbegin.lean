/-! ===== the reference: a quarter begins ===== -/
/-- the last text in force -/
def txF (tq td : Nat → Int32) (q d : Int32) : Nat → Option Nat
  | 0 => none
  | t + 1 => if tq t ≤ q ∧ td t ≤ d then some t else txF tq td q d t
/-- the last reading of a house for just this quarter -/
def lasR (rh rq rd : Nat → Int32) (q d : Int32) (h : Nat) : Nat → Option Nat
  | 0 => none
  | r + 1 => if rq r = q ∧ rd r ≤ d ∧ (rh r).toInt = (h : Int) then some r else lasR rh rq rd q d h r
def ovr (o : Option Nat) (a : Nat → Int32) (b : Int32) : Int32 := match o with
  | some r => a r
  | none => b
section
variable {f : Nat} {n : Nat}
theorem r_zero {v : MT} (hf : 1300 < f) : Ok (B_X12_quarterBegins_360 f f 0 v) (fun r => (∀ j, j < 312 → gI r 209 j = 0) ∧ ∀ a j, a ≠ 209 → gI r a j = gI v a j) := by
  have loop : ∀ (d k : Nat) (x : Int32) (w : MT) (m : Nat), k + d = 312 → Nm x k → d < m → (∀ j, j < k → gI w 209 j = 0) → (∀ a j, a ≠ 209 → gI w a j = gI v a j) → Ok (B_X12_quarterBegins_360 f m x w) (fun r => (∀ j, j < 312 → gI r 209 j = 0) ∧ ∀ a j, a ≠ 209 → gI r a j = gI v a j) := by
    intro d
    induction d with
    | zero =>
      intro k x w m hk hx hm hz hfr
      obtain ⟨m, rfl⟩ : ∃ m', m = m' + 1 := ⟨m - 1, by omega⟩
      rw [B_X12_quarterBegins_360]
      exact Ok.t ((Nm.le (show Nm (312 : Int32) 312 from rfl) hx).mpr (by omega)) (Ok.some ⟨fun j hj => hz j (by omega), hfr⟩)
    | succ d ih =>
      intro k x w m hk hx hm hz hfr
      obtain ⟨m, rfl⟩ : ∃ m', m = m' + 1 := ⟨m - 1, by omega⟩
      rw [B_X12_quarterBegins_360]
      refine Ok.f (fun e => by have := (Nm.le (show Nm (312 : Int32) 312 from rfl) hx).mp e; omega) (Ok.ck (hx.ix (by omega)) ?_)
      rw [hx.nat]
      refine ih (k + 1) _ _ m (by omega) (hx.succ (by omega)) (by omega) (fun j hj => ?_) (fun a j ha => by rw [g_ne _ _ _ _ ha]; exact hfr a j ha)
      rw [g_at]
      by_cases e : j = k
      · rw [if_pos e]
      · rw [if_neg e]; exact hz j (by omega)
  exact loop 312 0 0 v f (by omega) nm0 (by omega) (fun j hj => absurd hj (by omega)) (fun _ _ _ => rfl)
theorem own_le {wa gi : Int32} : (if gi ≤ wa then gi else wa) = own wa gi := by
  unfold own
  refine Int32.toInt_inj.mp ?_
  by_cases c : gi ≤ wa
  · have c' := i_le.mp c
    rw [if_pos c]
    by_cases c2 : gi < wa
    · rw [if_pos c2]
    · have : ¬ gi.toInt < wa.toInt := fun e => c2 (i_lt.mpr e)
      rw [if_neg c2]; omega
  · have c' : ¬ gi.toInt ≤ wa.toInt := fun e => c (i_le.mpr e)
    rw [if_neg c, if_neg (fun e => by have := i_lt.mp e; omega)]
def RB1 (n : Nat) (wa gi be : Nat → Int32) (v r : MT) : Prop :=
  (∀ h, h < n → gI r 200 h = own (wa h) (gi h) ∧ gI r 201 h = wan wa gi h ∧ gI r 202 h = be h ∧ gI r 203 h = gft wa gi h ∧ gI r 204 h = 0 ∧ gI r 205 h = 0) ∧ gI r 167 46 = sm (gft wa gi) n ∧ gI r 167 60 = sm (gft wa gi) n ∧ (∀ j, j < 312 → gI r 209 j = 0) ∧
  ∀ a j, (a < 200 ∨ 205 < a) → a ≠ 209 → (a ≠ 167 ∨ (j ≠ 46 ∧ j ≠ 60)) → gI r a j = gI v a j
theorem r_bring {v : MT} {wa gi be : Nat → Int32} (hf : 1300 < f) (h12 : n ≤ 12) (hn : Nm (gI v 167 31) n) (h0 : gI v 167 46 = 0) (hw : ∀ h, h < n → gI v 197 h = wa h ∧ gI v 198 h = gi h ∧ gI v 190 h = be h) : Ok (B_X12_quarterBegins_221 f f 0 v) (RB1 n wa gi be v) := by
  have loop : ∀ (d k : Nat) (x : Int32) (w : MT) (m : Nat), k + d = n → Nm x k → d < m → gI w 167 46 = sm (gft wa gi) k → (∀ h, h < k → gI w 200 h = own (wa h) (gi h) ∧ gI w 201 h = wan wa gi h ∧ gI w 202 h = be h ∧ gI w 203 h = gft wa gi h ∧ gI w 204 h = 0 ∧ gI w 205 h = 0) → (∀ a j, (a < 200 ∨ 205 < a) → (a ≠ 167 ∨ j ≠ 46) → gI w a j = gI v a j) → Ok (B_X12_quarterBegins_221 f m x w) (RB1 n wa gi be v) := by
    intro d
    induction d with
    | zero =>
      intro k x w m hk hx hm h46 hlo hfr
      obtain ⟨m, rfl⟩ : ∃ m', m = m' + 1 := ⟨m - 1, by omega⟩
      have hkn : k = n := by omega
      subst hkn
      rw [B_X12_quarterBegins_221]
      refine Ok.t (by rw [hfr _ _ (Or.inl (by decide)) (Or.inr (by decide))]; exact (hn.le hx).mpr (Nat.le_refl _)) ?_
      refine (r_zero hf).mono (fun r hr => ?_)
      obtain ⟨r1, r2⟩ := hr
      refine ⟨fun h hh => ?_, ?_, ?_, r1, fun a j h1 h2 h3 => ?_⟩
      · have := hlo h hh
        rw [r2 _ _ (by decide), r2 _ _ (by decide), r2 _ _ (by decide), r2 _ _ (by decide), r2 _ _ (by decide), r2 _ _ (by decide), g_ne _ _ _ _ (by decide), g_ne _ _ _ _ (by decide), g_ne _ _ _ _ (by decide), g_ne _ _ _ _ (by decide), g_ne _ _ _ _ (by decide), g_ne _ _ _ _ (by decide)]
        exact this
      · rw [r2 _ _ (by decide), g_nk _ _ _ (by decide)]; exact h46
      · rw [r2 _ _ (by decide), g_same]; exact h46
      · rw [r2 _ _ h2]
        by_cases e : a = 167
        · subst e
          have := h3.resolve_left (fun e => e rfl)
          rw [g_nk _ _ _ this.2]; exact hfr _ _ h1 (Or.inr this.1)
        · rw [g_ne _ _ _ _ e]; exact hfr _ _ h1 (Or.inl e)
    | succ d ih =>
      intro k x w m hk hx hm h46 hlo hfr
      obtain ⟨m, rfl⟩ : ∃ m', m = m' + 1 := ⟨m - 1, by omega⟩
      have hkn : k < n := by omega
      have w197 : gI w 197 k = wa k := by rw [hfr _ _ (Or.inl (by decide)) (Or.inl (by decide))]; exact (hw k hkn).1
      have w198 : gI w 198 k = gi k := by rw [hfr _ _ (Or.inl (by decide)) (Or.inl (by decide))]; exact (hw k hkn).2.1
      have w190 : gI w 190 k = be k := by rw [hfr _ _ (Or.inl (by decide)) (Or.inl (by decide))]; exact (hw k hkn).2.2
      have n1 : ∀ (w : MT) (a b k j : Nat) (z : Int32), b ≠ a → gI (sI w a k z) b j = gI w b j := fun w a b k j z h => g_ne _ _ _ _ h
      have go : ∀ y : Int32, y = own (wa k) (gi k) → Ok (B_X12_quarterBegins_264 f (fun x2' u' => B_X12_quarterBegins_221 f m x2' u') x y x w) (RB1 n wa gi be v) := by
        intro y hy
        rw [B_X12_quarterBegins_264]
        refine Ok.ck (hx.ix (by omega)) ?_
        rw [hx.nat]
        refine Ok.ck (hx.ix (by omega)) ?_
        refine ih (k + 1) _ _ m (by omega) (hx.succ (by omega)) (by omega) ?_ (fun h hh => ?_) (fun a j h1 h2 => ?_)
        · show _ = sm (gft wa gi) k + gft wa gi k
          simp [g_same, g_at, n1, h46, w198, hy, gft]
        · by_cases e : h = k
          · subst e
            refine ⟨?_, ?_, ?_, ?_, ?_, ?_⟩ <;> simp [g_same, g_at, n1, w197, w198, w190, hy, gft, wan]
          · have := hlo h (by omega)
            refine ⟨?_, ?_, ?_, ?_, ?_, ?_⟩
            · simp [g_at, n1, e]; exact this.1
            · simp [g_at, n1, e]; exact this.2.1
            · simp [g_at, n1, e]; exact this.2.2.1
            · simp [g_at, n1, e]; exact this.2.2.2.1
            · simp [g_at, n1, e]; exact this.2.2.2.2.1
            · simp [g_at, n1, e]; exact this.2.2.2.2.2
        · by_cases e : a = 167
          · subst e
            rw [g_nk _ _ _ (h2.resolve_left (fun e => e rfl)), n1 _ _ _ _ _ _ (by decide), n1 _ _ _ _ _ _ (by decide), n1 _ _ _ _ _ _ (by decide), n1 _ _ _ _ _ _ (by decide), n1 _ _ _ _ _ _ (by decide), n1 _ _ _ _ _ _ (by decide)]
            exact hfr _ _ h1 h2
          · rw [n1 _ _ _ _ _ _ e, n1 _ _ _ _ _ _ (by omega), n1 _ _ _ _ _ _ (by omega), n1 _ _ _ _ _ _ (by omega), n1 _ _ _ _ _ _ (by omega), n1 _ _ _ _ _ _ (by omega), n1 _ _ _ _ _ _ (by omega)]
            exact hfr _ _ h1 h2
      rw [B_X12_quarterBegins_221]
      refine Ok.f (by rw [hfr _ _ (Or.inl (by decide)) (Or.inr (by decide))]; exact fun e => by have := (hn.le hx).mp e; omega) (Ok.ck (hx.ix (by omega)) ?_)
      rw [hx.nat, w197, w198]
      refine Ok.ite (fun c => go _ ?_) (fun c => go _ ?_)
      · rw [← own_le, if_pos c]
      · rw [← own_le, if_neg c]
  exact loop n 0 0 v f (by omega) nm0 (by omega) (by rw [h0]; rfl) (fun h hh => absurd hh (by omega)) (fun _ _ _ _ => rfl)
end
