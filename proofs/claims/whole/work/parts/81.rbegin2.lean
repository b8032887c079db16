/-! ===== the reference: a quarter begins, whole ===== -/
theorem lasR_at {rh rq rd : Nat → Int32} {q d : Int32} {h k : Nat} : lasR rh rq rd q d h (k + 1) = if rq k = q ∧ rd k ≤ d ∧ (rh k).toInt = (h : Int) then some k else lasR rh rq rd q d h k := rfl
section
variable {f : Nat} {n : Nat}
/-- wants, gives, doubt behind the readings -/
def RB2 (n R : Nat) (rh rq rw' rg rd : Nat → Int32) (q d : Int32) (wa gi : Nat → Int32) (v : MT) (P : MT → Prop) : Prop :=
  ∀ w : MT, (∀ h, h < n → gI w 197 h = ovr (lasR rh rq rd q d h R) rw' (wa h) ∧ gI w 198 h = ovr (lasR rh rq rd q d h R) rg (gi h) ∧ gI w 199 h = (if (lasR rh rq rd q d h R).isSome then 0 else 1)) → (∀ a j, a ≠ 197 → a ≠ 198 → a ≠ 199 → gI w a j = gI v a j) →
    Ok (B_X12_quarterBegins_221 f f 0 (sI (sI w 167 46 0) 167 61 0)) P
theorem r_reads {v : MT} {R : Nat} {rh rq rw' rg rd : Nat → Int32} {q d : Int32} {wa gi : Nat → Int32} {P : MT → Prop} (hf : 1300 < f) (h12 : n ≤ 12) (hR : R ≤ 400) (h34 : Nm (gI v 167 34) R) (hq : gI v 167 43 = q) (hd : gI v 167 42 = d)
    (hrd : ∀ k, k < R → gI v 191 k = rh k ∧ gI v 192 k = rq k ∧ gI v 193 k = rw' k ∧ gI v 194 k = rg k ∧ gI v 195 k = rd k ∧ ixo (rh k) n) (hw : ∀ h, h < n → gI v 197 h = wa h ∧ gI v 198 h = gi h ∧ gI v 199 h = 1)
    (hP : ∀ w : MT, (∀ h, h < n → gI w 197 h = ovr (lasR rh rq rd q d h R) rw' (wa h) ∧ gI w 198 h = ovr (lasR rh rq rd q d h R) rg (gi h) ∧ gI w 199 h = (if (lasR rh rq rd q d h R).isSome then 0 else 1)) → (∀ a j, a ≠ 197 → a ≠ 198 → a ≠ 199 → gI w a j = gI v a j) → Ok (B_X12_quarterBegins_221 f f 0 (sI (sI w 167 46 0) 167 61 0)) P) :
    Ok (B_X12_quarterBegins_123 f f 0 v) P := by
  have loop : ∀ (e k : Nat) (x : Int32) (w : MT) (m : Nat), k + e = R → Nm x k → e < m → (∀ h, h < n → gI w 197 h = ovr (lasR rh rq rd q d h k) rw' (wa h) ∧ gI w 198 h = ovr (lasR rh rq rd q d h k) rg (gi h) ∧ gI w 199 h = (if (lasR rh rq rd q d h k).isSome then 0 else 1)) → (∀ a j, a ≠ 197 → a ≠ 198 → a ≠ 199 → gI w a j = gI v a j) → Ok (B_X12_quarterBegins_123 f m x w) P := by
    intro e
    induction e with
    | zero =>
      intro k x w m hk hx hm hlo hfr
      obtain ⟨m, rfl⟩ : ∃ m', m = m' + 1 := ⟨m - 1, by omega⟩
      have hkR : k = R := by omega
      subst hkR
      rw [B_X12_quarterBegins_123]
      exact Ok.t (by rw [hfr _ _ (by decide) (by decide) (by decide)]; exact (h34.le hx).mpr (Nat.le_refl _)) (hP w hlo hfr)
    | succ e ih =>
      intro k x w m hk hx hm hlo hfr
      obtain ⟨m, rfl⟩ : ∃ m', m = m' + 1 := ⟨m - 1, by omega⟩
      have hkR : k < R := by omega
      obtain ⟨c1, c2, c3, c4, c5, c6⟩ := hrd k hkR
      have w191 : gI w 191 k = rh k := by rw [hfr _ _ (by decide) (by decide) (by decide)]; exact c1
      have w192 : gI w 192 k = rq k := by rw [hfr _ _ (by decide) (by decide) (by decide)]; exact c2
      have w193 : gI w 193 k = rw' k := by rw [hfr _ _ (by decide) (by decide) (by decide)]; exact c3
      have w194 : gI w 194 k = rg k := by rw [hfr _ _ (by decide) (by decide) (by decide)]; exact c4
      have w195 : gI w 195 k = rd k := by rw [hfr _ _ (by decide) (by decide) (by decide)]; exact c5
      have w43 : gI w 167 43 = q := by rw [hfr _ _ (by decide) (by decide) (by decide)]; exact hq
      have w42 : gI w 167 42 = d := by rw [hfr _ _ (by decide) (by decide) (by decide)]; exact hd
      have c12 : ixo (rh k) 12 := ⟨c6.1, by have := c6.2; omega⟩
      have hH := Nm.of_ix c6
      have hHn : (rh k).toNatClampNeg < n := by have h2 : (rh k).toInt = (((rh k).toNatClampNeg : Nat) : Int) := hH; have := c6.2; omega
      have skip : ¬ (rq k = q ∧ rd k ≤ d) → Ok (B_X12_quarterBegins_203 f (fun x2' u' => B_X12_quarterBegins_123 f m x2' u') x w) P := by
        intro hno
        rw [B_X12_quarterBegins_203]
        refine ih (k + 1) _ w m (by omega) (hx.succ (by omega)) (by omega) (fun h hh => ?_) hfr
        rw [lasR_at, if_neg (fun e => hno ⟨e.1, e.2.1⟩)]; exact hlo h hh
      rw [B_X12_quarterBegins_123]
      refine Ok.f (by rw [hfr _ _ (by decide) (by decide) (by decide)]; exact fun e => by have := (h34.le hx).mp e; omega) (Ok.ck (hx.ix (by omega)) ?_)
      rw [hx.nat, w192, w43]
      refine Ok.ite (fun hq1 => ?_) (fun hq1 => skip (fun e => hq1 e.1))
      rw [w42, w195]
      refine Ok.ite (fun hd1 => skip (fun e => by have h1 := i_lt.mp hd1; have h2 := i_le.mp e.2; omega)) (fun hd1 => ?_)
      have hle : rd k ≤ d := i_le.mpr (Int.not_lt.mp (fun e => hd1 (i_lt.mpr e)))
      rw [w191, w193]
      refine Ok.ck c12 ?_
      dsimp only
      rw [g_ne _ _ _ _ (show (191 : Nat) ≠ 197 by decide), w191, g_ne _ _ _ _ (show (194 : Nat) ≠ 197 by decide), w194]
      refine Ok.ck c12 ?_
      rw [g_ne _ _ _ _ (show (191 : Nat) ≠ 198 by decide), g_ne _ _ _ _ (show (191 : Nat) ≠ 197 by decide), w191]
      refine Ok.ck c12 ?_
      rw [B_X12_quarterBegins_203]
      refine ih (k + 1) _ _ m (by omega) (hx.succ (by omega)) (by omega) (fun h hh => ?_) (fun a j h1 h2 h3 => by rw [g_ne _ _ _ _ h3, g_ne _ _ _ _ h2, g_ne _ _ _ _ h1]; exact hfr a j h1 h2 h3)
      have hHi : (rh k).toInt = (((rh k).toNatClampNeg : Nat) : Int) := hH
      by_cases e : h = (rh k).toNatClampNeg
      · rw [lasR_at, if_pos ⟨hq1, hle, by rw [e]; exact hHi⟩, e]
        refine ⟨?_, ?_, ?_⟩
        · rw [g_ne _ _ _ _ (by decide), g_ne _ _ _ _ (by decide), g_same]; rfl
        · rw [g_ne _ _ _ _ (by decide), g_same]; rfl
        · rw [g_same]; rfl
      · rw [lasR_at, if_neg (fun e' => e (by have := e'.2.2; omega))]
        rw [g_ne _ _ _ _ (by decide), g_ne _ _ _ _ (by decide), g_nk _ _ _ e, g_ne _ _ _ _ (by decide), g_nk _ _ _ e, g_ne _ _ _ _ (by decide), g_nk _ _ _ e, g_ne _ _ _ _ (by decide), g_ne _ _ _ _ (by decide)]
        exact hlo h hh
  exact loop R 0 0 v f (by omega) nm0 (by omega) (fun h hh => by have := hw h hh; exact ⟨this.1, this.2.1, by rw [this.2.2]; rfl⟩) (fun _ _ _ _ _ => rfl)
/-- doubt is 1, what was had on that day is as it was, or 0 -/
theorem r_doubts {v : MT} {q : Nat} {hd : Nat → Int32} {P : MT → Prop} (hf : 1300 < f) (h12 : n ≤ 12) (hn : Nm (gI v 167 31) n) (hq : Nm (gI v 167 43) q) (hh : ∀ h, h < n → gI v 207 h = hd h)
    (hP : ∀ w : MT, (∀ h, h < n → gI w 199 h = 1 ∧ gI w 207 h = (if q % 24 = 0 then 0 else hd h)) → (∀ a j, a ≠ 199 → a ≠ 207 → gI w a j = gI v a j) → Ok (B_X12_quarterBegins_123 f f 0 w) P) : Ok (B_X12_quarterBegins_74 f f 0 v) P := by
  have loop : ∀ (e k : Nat) (x : Int32) (w : MT) (m : Nat), k + e = n → Nm x k → e < m → (∀ h, h < k → gI w 199 h = 1 ∧ gI w 207 h = (if q % 24 = 0 then 0 else hd h)) → (∀ h, k ≤ h → h < n → gI w 207 h = hd h) → (∀ a j, a ≠ 199 → a ≠ 207 → gI w a j = gI v a j) → Ok (B_X12_quarterBegins_74 f m x w) P := by
    intro e
    induction e with
    | zero =>
      intro k x w m hk hx hm hlo hhi hfr
      obtain ⟨m, rfl⟩ : ∃ m', m = m' + 1 := ⟨m - 1, by omega⟩
      have hkn : k = n := by omega
      subst hkn
      rw [B_X12_quarterBegins_74]
      exact Ok.t (by rw [hfr _ _ (by decide) (by decide)]; exact (hn.le hx).mpr (Nat.le_refl _)) (hP w hlo hfr)
    | succ e ih =>
      intro k x w m hk hx hm hlo hhi hfr
      obtain ⟨m, rfl⟩ : ∃ m', m = m' + 1 := ⟨m - 1, by omega⟩
      have hkn : k < n := by omega
      have hqw : Nm (gI (sI w 199 k 1) 167 43) q := by rw [g_ne _ _ _ _ (by decide), hfr _ _ (by decide) (by decide)]; exact hq
      have hmod := hqw.mod (show Nm (24 : Int32) 24 from rfl)
      have go : ∀ y : Int32, y = (if q % 24 = 0 then 0 else hd k) → Ok (B_X12_quarterBegins_114 f (fun x2' u' => B_X12_quarterBegins_74 f m x2' u') x y x (sI w 199 k 1)) P := by
        intro y hy
        rw [B_X12_quarterBegins_114]
        refine Ok.ck (hx.ix (by omega)) ?_
        rw [hx.nat]
        refine ih (k + 1) _ _ m (by omega) (hx.succ (by omega)) (by omega) (fun h hh => ?_) (fun h h1 h2 => ?_) (fun a j h1 h2 => by rw [g_ne _ _ _ _ h2, g_ne _ _ _ _ h1]; exact hfr a j h1 h2)
        · rw [g_ne _ _ _ _ (by decide), g_at, g_at]
          by_cases e : h = k
          · rw [if_pos e, if_pos e, hy, e]; exact ⟨rfl, rfl⟩
          · rw [if_neg e, if_neg e, g_ne _ _ _ _ (by decide)]; exact hlo h (by omega)
        · rw [g_nk _ _ _ (by omega), g_ne _ _ _ _ (by decide)]; exact hhi h (by omega) h2
      rw [B_X12_quarterBegins_74]
      refine Ok.f (by rw [hfr _ _ (by decide) (by decide)]; exact fun e => by have := (hn.le hx).mp e; omega) (Ok.ck (hx.ix (by omega)) ?_)
      rw [hx.nat]
      refine Ok.ite (fun c => go 0 ?_) (fun c => go _ ?_)
      · rw [if_pos ((hmod.eq nm0).mp c)]
      · rw [if_neg (fun e => c ((hmod.eq nm0).mpr e)), g_ne _ _ _ _ (by decide)]; exact hhi k (Nat.le_refl _) hkn
  exact loop n 0 0 v f (by omega) nm0 (by omega) (fun h hh => absurd hh (by omega)) (fun h _ h2 => hh h h2) (fun _ _ _ _ => rfl)
end
