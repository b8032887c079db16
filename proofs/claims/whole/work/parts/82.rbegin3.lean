/-! ===== the reference: a quarter begins, all of it ===== -/
def txC (o : Option Nat) : Int32 := match o with
  | some t => Int32.ofNat t
  | none => -1
def RBg (n q R : Nat) (rh rq rw' rg rd : Nat → Int32) (qI d : Int32) (st : Int32) (wa gi hd pr be : Nat → Int32) (tx : Int32) (r : MT) : Prop :=
  XV r (bgn n st (fun h => ovr (lasR rh rq rd qI d h R) rw' (wa h)) (fun h => ovr (lasR rh rq rd qI d h R) rg (gi h)) (fun h => if q % 24 = 0 then 0 else hd h) pr be) n q ∧
  (∀ h, h < n → gI r 197 h = ovr (lasR rh rq rd qI d h R) rw' (wa h) ∧ gI r 198 h = ovr (lasR rh rq rd qI d h R) rg (gi h) ∧ gI r 199 h = (if (lasR rh rq rd qI d h R).isSome then 0 else 1) ∧ gI r 200 h = own (ovr (lasR rh rq rd qI d h R) rw' (wa h)) (ovr (lasR rh rq rd qI d h R) rg (gi h)) ∧ gI r 203 h = gft (fun h => ovr (lasR rh rq rd qI d h R) rw' (wa h)) (fun h => ovr (lasR rh rq rd qI d h R) rg (gi h)) h) ∧
  gI r 167 60 = sm (gft (fun h => ovr (lasR rh rq rd qI d h R) rw' (wa h)) (fun h => ovr (lasR rh rq rd qI d h R) rg (gi h))) n ∧ (∀ j, j < 312 → gI r 209 j = 0) ∧ gI r 167 44 = tx
section
variable {f : Nat} {n : Nat}
theorem r_qbegin {u : MT} {q R nt : Nat} {rh rq rw' rg rd tq td wa gi hd pr be : Nat → Int32} {qI d st x1 : Int32} (hf : 1300 < f) (h12 : n ≤ 12) (hq240 : q < 240) (hn : Nm (gI u 167 31) n) (hq : Nm (gI u 167 43) q) (hqI : gI u 167 43 = qI) (hd' : gI u 167 42 = d) (hR : R ≤ 400) (h34 : Nm (gI u 167 34) R) (hst : gI u 167 45 = st)
    (hrd : ∀ k, k < R → gI u 191 k = rh k ∧ gI u 192 k = rq k ∧ gI u 193 k = rw' k ∧ gI u 194 k = rg k ∧ gI u 195 k = rd k ∧ ixo (rh k) n) (hw : ∀ h, h < n → gI u 197 h = wa h ∧ gI u 198 h = gi h ∧ gI u 190 h = be h ∧ gI u 207 h = hd h) (hpr : ∀ k, k < 4 → gI u 196 k = pr k)
    (hnt : Nm (gI u 167 22) nt) (hnt6 : nt ≤ 6) (htx : ∀ t, t < nt → gI u 185 t = tq t ∧ gI u 186 t = td t) :
    Ok (F_X12_quarterBegins f x1 u) (RBg n q R rh rq rw' rg rd qI d st wa gi hd pr be (if x1 = 0 then txC (txF tq td qI d nt) else 6)) := by
  -- behind the texts
  have tail : ∀ (v : MT) (tx : Int32), gI v 167 44 = tx → (∀ a j, (a ≠ 167 ∨ j ≠ 44) → gI v a j = gI u a j) → Ok (B_X12_quarterBegins_72 f v) (RBg n q R rh rq rw' rg rd qI d st wa gi hd pr be tx) := by
    intro v tx htv hfr
    rw [B_X12_quarterBegins_72]
    refine r_doubts hf h12 (q := q) (hd := hd) (by rw [hfr _ _ (Or.inr (by decide))]; exact hn) (by rw [hfr _ _ (Or.inr (by decide))]; exact hq) (fun h hh => by rw [hfr _ _ (Or.inl (by decide))]; exact (hw h hh).2.2.2) (fun w hw1 hw2 => ?_)
    have w167 : ∀ j, j ≠ 44 → gI w 167 j = gI u 167 j := fun j hj => by rw [hw2 _ _ (by decide) (by decide)]; exact hfr _ _ (Or.inr hj)
    have wO : ∀ a j, a ≠ 199 → a ≠ 207 → a ≠ 167 → gI w a j = gI u a j := fun a j h1 h2 h3 => by rw [hw2 _ _ h1 h2]; exact hfr _ _ (Or.inl h3)
    refine r_reads hf h12 hR (rh := rh) (rq := rq) (rw' := rw') (rg := rg) (rd := rd) (q := qI) (d := d) (wa := wa) (gi := gi) (by rw [w167 _ (by decide)]; exact h34) (by rw [w167 _ (by decide)]; exact hqI) (by rw [w167 _ (by decide)]; exact hd') (fun k hk => ?_) (fun h hh => ?_) (fun z hz1 hz2 => ?_)
    · rw [wO _ _ (by decide) (by decide) (by decide), wO _ _ (by decide) (by decide) (by decide), wO _ _ (by decide) (by decide) (by decide), wO _ _ (by decide) (by decide) (by decide), wO _ _ (by decide) (by decide) (by decide)]
      exact hrd k hk
    · rw [wO _ _ (by decide) (by decide) (by decide), wO _ _ (by decide) (by decide) (by decide)]
      exact ⟨(hw h hh).1, (hw h hh).2.1, (hw1 h hh).1⟩
    · have zO : ∀ a j, a ≠ 197 → a ≠ 198 → a ≠ 199 → a ≠ 207 → a ≠ 167 → gI z a j = gI u a j := fun a j h1 h2 h3 h4 h5 => by rw [hz2 _ _ h1 h2 h3]; exact wO _ _ h3 h4 h5
      have z167 : ∀ j, j ≠ 44 → gI z 167 j = gI u 167 j := fun j hj => by rw [hz2 _ _ (by decide) (by decide) (by decide)]; exact w167 j hj
      have y167 : ∀ j, j ≠ 44 → j ≠ 46 → j ≠ 61 → gI (sI (sI z 167 46 0) 167 61 0) 167 j = gI u 167 j := fun j h1 h2 h3 => by rw [g_nk _ _ _ h3, g_nk _ _ _ h2]; exact z167 j h1
      have yO : ∀ a j, a ≠ 167 → gI (sI (sI z 167 46 0) 167 61 0) a j = gI z a j := fun a j h => by rw [g_ne _ _ _ _ h, g_ne _ _ _ _ h]
      refine (r_bring hf h12 (wa := fun h => ovr (lasR rh rq rd qI d h R) rw' (wa h)) (gi := fun h => ovr (lasR rh rq rd qI d h R) rg (gi h)) (be := be) (by rw [y167 _ (by decide) (by decide) (by decide)]; exact hn) (by rw [g_nk _ _ _ (by decide), g_same]) (fun h hh => ?_)).mono (fun r hr => ?_)
      · rw [yO _ _ (by decide), yO _ _ (by decide), yO _ _ (by decide)]
        exact ⟨(hz1 h hh).1, (hz1 h hh).2.1, by rw [zO _ _ (by decide) (by decide) (by decide) (by decide) (by decide)]; exact (hw h hh).2.2.1⟩
      · obtain ⟨r1, r2, r3, r4, r5⟩ := hr
        have r167 : ∀ j, j ≠ 44 → j ≠ 46 → j ≠ 60 → j ≠ 61 → gI r 167 j = gI u 167 j := fun j h1 h2 h3 h4 => by rw [r5 _ _ (Or.inl (by decide)) (by decide) (Or.inr ⟨h2, h3⟩)]; exact y167 j h1 h2 h4
        have rO : ∀ a j, (a < 200 ∨ 205 < a) → a ≠ 209 → a ≠ 167 → gI r a j = gI z a j := fun a j h1 h2 h3 => by rw [r5 _ _ h1 h2 (Or.inl h3)]; exact yO a j h3
        refine ⟨⟨?_, ?_, ?_, fun h hh => ⟨?_, ?_, ?_, ?_, ?_⟩, fun k hk => ?_, ?_, ?_, h12, hq240⟩, fun h hh => ⟨?_, ?_, ?_, ?_, ?_⟩, r3, r4, ?_⟩
        · exact r2
        · rw [r167 _ (by decide) (by decide) (by decide) (by decide)]; exact hst
        · rw [r5 _ _ (Or.inl (by decide)) (by decide) (Or.inr (by decide)), g_same]; rfl
        · exact (r1 h hh).2.1
        · exact (r1 h hh).2.2.1
        · rw [rO _ _ (Or.inr (by decide)) (by decide) (by decide), hz2 _ _ (by decide) (by decide) (by decide)]; exact (hw1 h hh).2
        · exact (r1 h hh).2.2.2.2.1
        · exact (r1 h hh).2.2.2.2.2
        · rw [rO _ _ (Or.inl (by decide)) (by decide) (by decide), zO _ _ (by decide) (by decide) (by decide) (by decide) (by decide)]; exact hpr k hk
        · rw [r167 _ (by decide) (by decide) (by decide) (by decide)]; exact hq
        · rw [r167 _ (by decide) (by decide) (by decide) (by decide)]; exact hn
        · rw [rO _ _ (Or.inl (by decide)) (by decide) (by decide)]; exact (hz1 h hh).1
        · rw [rO _ _ (Or.inl (by decide)) (by decide) (by decide)]; exact (hz1 h hh).2.1
        · rw [rO _ _ (Or.inl (by decide)) (by decide) (by decide)]; exact (hz1 h hh).2.2
        · exact (r1 h hh).1
        · exact (r1 h hh).2.2.2.1
        · rw [r5 _ _ (Or.inl (by decide)) (by decide) (Or.inr (by decide)), g_nk _ _ _ (by decide), g_nk _ _ _ (by decide), hz2 _ _ (by decide) (by decide) (by decide), hw2 _ _ (by decide) (by decide)]; exact htv
  have loop : x1 = 0 → ∀ (e k : Nat) (x2 : Int32) (w : MT) (m : Nat), k + e = nt → Nm x2 k → e < m → gI w 167 44 = txC (txF tq td qI d k) → (∀ a j, (a ≠ 167 ∨ j ≠ 44) → gI w a j = gI u a j) → Ok (B_X12_quarterBegins_16 f m x1 x2 w) (RBg n q R rh rq rw' rg rd qI d st wa gi hd pr be (txC (txF tq td qI d nt))) := by
    intro hx1 e
    induction e with
    | zero =>
      intro k x2 w m hk hx hm h44 hfr
      obtain ⟨m, rfl⟩ : ∃ m', m = m' + 1 := ⟨m - 1, by omega⟩
      have hkn : k = nt := by omega
      subst hkn
      rw [B_X12_quarterBegins_16]
      exact Ok.t (by rw [hfr _ _ (Or.inr (by decide))]; exact (hnt.le hx).mpr (Nat.le_refl _)) (tail w _ h44 hfr)
    | succ e ih =>
      intro k x2 w m hk hx hm h44 hfr
      obtain ⟨m, rfl⟩ : ∃ m', m = m' + 1 := ⟨m - 1, by omega⟩
      have hkn : k < nt := by omega
      have hstep : txF tq td qI d (k + 1) = if tq k ≤ qI ∧ td k ≤ d then some k else txF tq td qI d k := rfl
      have go : ∀ y : Int32, y = txC (txF tq td qI d (k + 1)) → Ok (B_X12_quarterBegins_63 f (fun x1' x2' u' => B_X12_quarterBegins_16 f m x1' x2' u') x1 x2 y w) (RBg n q R rh rq rw' rg rd qI d st wa gi hd pr be (txC (txF tq td qI d nt))) := by
        intro y hy
        rw [B_X12_quarterBegins_63]
        refine ih (k + 1) _ _ m (by omega) (hx.succ (by omega)) (by omega) (by rw [g_same]; exact hy) (fun a j h => ?_)
        by_cases ea : a = 167
        · subst ea; rw [g_nk _ _ _ (h.resolve_left (fun e => e rfl))]; exact hfr _ _ h
        · rw [g_ne _ _ _ _ ea]; exact hfr _ _ h
      rw [B_X12_quarterBegins_16]
      refine Ok.f (by rw [hfr _ _ (Or.inr (by decide))]; exact fun e => by have := (hnt.le hx).mp e; omega) (Ok.t hx1 (Ok.ck (hx.ix (by omega)) ?_))
      rw [hx.nat, hfr 167 43 (Or.inr (by decide)), hqI, hfr 185 k (Or.inl (by decide)), (htx k hkn).1, hfr 167 42 (Or.inr (by decide)), hd', hfr 186 k (Or.inl (by decide)), (htx k hkn).2]
      refine Ok.ite (fun c => ?_) (fun c => Ok.ite (fun c2 => ?_) (fun c2 => ?_))
      · rw [B_X12_quarterBegins_59]
        refine go _ ?_
        rw [h44, hstep, if_neg (fun e => by have h1 := i_lt.mp c; have h2 := i_le.mp e.1; omega)]
      · rw [B_X12_quarterBegins_59]
        refine go _ ?_
        rw [h44, hstep, if_neg (fun e => by have h1 := i_lt.mp c2; have h2 := i_le.mp e.2; omega)]
      · refine go _ ?_
        rw [hstep, if_pos ⟨i_le.mpr (Int.not_lt.mp (fun e => c (i_lt.mpr e))), i_le.mpr (Int.not_lt.mp (fun e => c2 (i_lt.mpr e)))⟩]
        exact i_ofn hx
  have fr44 : ∀ y : Int32, ∀ a j, (a ≠ 167 ∨ j ≠ 44) → gI (sI u 167 44 y) a j = gI u a j := fun y a j h => by
    by_cases ea : a = 167
    · subst ea; exact g_nk _ _ _ (h.resolve_left (fun e => e rfl))
    · exact g_ne _ _ _ _ ea
  rw [F_X12_quarterBegins]
  refine Ok.ite (fun h0 => ?_) (fun h0 => ?_)
  · rw [if_pos h0, B_X12_quarterBegins_11]
    exact loop h0 nt 0 0 _ f (by omega) nm0 (by omega) (by rw [g_same]; rfl) (fr44 _)
  · rw [if_neg h0, B_X12_quarterBegins_11]
    obtain ⟨f', hf'⟩ : ∃ f', f = f' + 1 := ⟨f - 1, by omega⟩
    rw [show B_X12_quarterBegins_16 f f x1 0 (sI u 167 44 6) = B_X12_quarterBegins_16 f (f' + 1) x1 0 (sI u 167 44 6) by rw [← hf'], B_X12_quarterBegins_16]
    refine Ok.ite (fun _ => tail _ 6 (g_same _ _ _ _) (fr44 _)) (fun _ => Ok.f h0 (tail _ 6 (g_same _ _ _ _) (fr44 _)))
end
