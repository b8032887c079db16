/-! ===== what a quarter keeps: sums that RULES don't change ===== -/
theorem gvl_pres {P : QS → Prop} {n src : Nat} {a : Int32} {w : Nat → Int32} {tot : Int64} (hP : ∀ s h x, h < n → P s → P (hnd s src h x)) : ∀ (l : List Nat) (p : QS × Int32), (∀ h ∈ l, h < n) → P p.1 → P (gvl src a w tot l p).1 := by
  intro l
  induction l with
  | nil => intro p _ h; exact h
  | cons x l ih => intro p hl h; exact ih _ (fun y hy => hl y (by simp [hy])) (hP _ _ _ (hl x (by simp)) h)
theorem ons_pres {P : QS → Prop} {n src : Nat} (hP : ∀ s h x, h < n → P s → P (hnd s src h x)) : ∀ (l : List Nat) (p : QS × Int32), (∀ h ∈ l, h < n) → P p.1 → P (ons src l p).1 := by
  intro l
  induction l with
  | nil => intro p _ h; exact h
  | cons x l ih =>
    intro p hl h
    show P (if 0 < p.2.toInt ∧ can p.1 x = true then ons src l (hnd p.1 src x 1, p.2 + (-1)) else ons src l p).1
    split
    · exact ih _ (fun y hy => hl y (by simp [hy])) (hP _ _ _ (hl x (by simp)) h)
    · exact ih p (fun y hy => hl y (by simp [hy])) h
theorem rul_pres {P : QS → Prop} {s : QS} {n q how : Nat} {cap : Int32} {sh : Nat → Int32} {rl : AR} (hP : ∀ s src h x, h < n → P s → P (hnd s src h x)) (hF : ∀ s x, P s → P (fil s cap x)) (hR : ∀ s k x, P s → P (prc s k x)) (h : P s) : P (rul s n q sh cap how rl) := by
  have hC : Asc n (chl s n (rWho rl) (rNum rl)) := chl_asc
  unfold rul
  split
  · exact h
  · split
    · exact hR _ _ _ h
    · split
      · exact hF _ _ h
      · generalize amt s n q (rAmt rl) (if rSrc rl = 9 then qP s else qS s) = a
        unfold giv
        split
        · exact h
        · split
          · split
            · exact ons_pres (fun s h x => hP s _ h x) _ _ (fun y hy => hC.2 y (ordr_mem.mp hy)) (gvl_pres (fun s h x => hP s _ h x) _ _ hC.2 h)
            · exact gvl_pres (fun s h x => hP s _ h x) _ _ hC.2 h
          · exact h
/-- all RULES of a text -/
def ruls (n q : Nat) (sh : Nat → Int32) (cap : Int32) (how : Nat) : List AR → QS → QS
  | [], s => s
  | r :: l, s => ruls n q sh cap how l (rul s n q sh cap how r)
theorem ruls_app {n q how : Nat} {sh : Nat → Int32} {cap : Int32} {r : AR} : ∀ (l : List AR) (s : QS), ruls n q sh cap how (l ++ [r]) s = rul (ruls n q sh cap how l s) n q sh cap how r := by
  intro l
  induction l with
  | nil => intro s; rfl
  | cons x l ih => intro s; exact ih _
theorem ruls_pres {P : QS → Prop} {n q how : Nat} {sh : Nat → Int32} {cap : Int32} (hP : ∀ s src h x, h < n → P s → P (hnd s src h x)) (hF : ∀ s x, P s → P (fil s cap x)) (hR : ∀ s k x, P s → P (prc s k x)) : ∀ (l : List AR) (s : QS), P s → P (ruls n q sh cap how l s) := by
  intro l
  induction l with
  | nil => intro s h; exact h
  | cons x l ih => intro s h; exact ih _ (rul_pres hP hF hR h)
theorem ruls_QI {n q how : Nat} {sh : Nat → Int32} {cap : Int32} (h12 : n ≤ 12) (hsh : ∀ h, h < n → 1 ≤ (sh h).toInt ∧ (sh h).toInt ≤ 1000) : ∀ (l : List AR) (s : QS), QI s n cap → QI (ruls n q sh cap how l s) n cap := by
  intro l
  induction l with
  | nil => intro s h; exact h
  | cons x l ih => intro s h; exact ih _ (rul_QI h h12 hsh)
/-! the sums -/
theorem sm_upf {f : Nat → Int32} {h : Nat} {x : Int32} : ∀ n, sm (upf f h (f h + x)) n = if h < n then sm f n + x else sm f n := by
  intro n
  induction n with
  | zero => rfl
  | succ n ih =>
    show sm (upf f h (f h + x)) n + upf f h (f h + x) n = _
    rw [ih]
    show _ = if h < n + 1 then sm f n + f n + x else sm f n + f n
    by_cases e : n = h
    · subst e
      rw [upf_same, if_neg (Nat.lt_irrefl n), if_pos (Nat.lt_succ_self n)]; grind
    · rw [upf_ne e]
      by_cases e2 : h < n
      · rw [if_pos e2, if_pos (by omega)]; grind
      · rw [if_neg e2, if_neg (by omega)]
def qinv (n : Nat) (w0 l0 : Nat → Int32) (pf : Int32) (s : QS) : Prop := (∀ h, h < n → qW s h + qA s h + qB s h = w0 h ∧ qL s h + qA s h + qB s h = l0 h) ∧ qP s + qF s + sm (qA s) n = pf
theorem qinv_hnd {n : Nat} {w0 l0 : Nat → Int32} {pf : Int32} (s : QS) (src h : Nat) (x : Int32) (hh : h < n) (hq : qinv n w0 l0 pf s) : qinv n w0 l0 pf (hnd s src h x) := by
  obtain ⟨q1, q2⟩ := hq
  by_cases h9 : src = 9
  · have eA : qA (hnd s src h x) = upf (qA s) h (qA s h + x) := if_pos h9
    have eB : qB (hnd s src h x) = qB s := if_pos h9
    have eP : qP (hnd s src h x) = qP s - x := if_pos h9
    refine ⟨fun k hk => ?_, ?_⟩
    · rw [eA, eB]
      by_cases e : k = h
      · subst e
        have := q1 k hk
        rw [show qW (hnd s src k x) k = qW s k - x from upf_same, show qL (hnd s src k x) k = qL s k - x from upf_same, upf_same]
        exact ⟨by rw [← this.1]; grind, by rw [← this.2]; grind⟩
      · rw [show qW (hnd s src h x) k = qW s k from upf_ne e, show qL (hnd s src h x) k = qL s k from upf_ne e, upf_ne e]; exact q1 k hk
    · rw [eA, eP, show qF (hnd s src h x) = qF s from rfl, sm_upf, if_pos hh, ← q2]; grind
  · have eA : qA (hnd s src h x) = qA s := if_neg h9
    have eB : qB (hnd s src h x) = upf (qB s) h (qB s h + x) := if_neg h9
    have eP : qP (hnd s src h x) = qP s := if_neg h9
    refine ⟨fun k hk => ?_, ?_⟩
    · rw [eA, eB]
      by_cases e : k = h
      · subst e
        have := q1 k hk
        rw [show qW (hnd s src k x) k = qW s k - x from upf_same, show qL (hnd s src k x) k = qL s k - x from upf_same, upf_same]
        exact ⟨by rw [← this.1]; grind, by rw [← this.2]; grind⟩
      · rw [show qW (hnd s src h x) k = qW s k from upf_ne e, show qL (hnd s src h x) k = qL s k from upf_ne e, upf_ne e]; exact q1 k hk
    · rw [eA, eP]; exact q2
theorem qinv_fil {n : Nat} {w0 l0 : Nat → Int32} {pf cap : Int32} (s : QS) (x : Int32) (hq : qinv n w0 l0 pf s) : qinv n w0 l0 pf (fil s cap x) := by
  refine ⟨hq.1, ?_⟩
  have h2 := hq.2
  show (qP s - _) + (qF s + _) + sm (qA s) n = pf
  generalize (if cap - qS s < x then cap - qS s else x) = y
  rw [← h2]; grind
theorem ruls_inv {n q how : Nat} {sh : Nat → Int32} {cap : Int32} {w0 l0 : Nat → Int32} {pf : Int32} (l : List AR) (s : QS) (h : qinv n w0 l0 pf s) : qinv n w0 l0 pf (ruls n q sh cap how l s) :=
  ruls_pres (fun s src h x hh hq => qinv_hnd s src h x hh hq) (fun s x hq => qinv_fil s x hq) (fun _ _ _ hq => hq) l s h
/-! ===== a quarter's beginning, in the abstract ===== -/
def own (wa gi : Int32) : Int32 := if gi < wa then gi else wa
def wan (wa gi : Nat → Int32) (h : Nat) : Int32 := wa h - own (wa h) (gi h)
def gft (wa gi : Nat → Int32) (h : Nat) : Int32 := gi h - own (wa h) (gi h)
/-- store, wants, gives, what was had ahead on that day, prices, lines -/
def bgn (n : Nat) (st : Int32) (wa gi hd pr be : Nat → Int32) : QS := (sm (gft wa gi) n, st, 0, wan wa gi, be, hd, fun _ => 0, fun _ => 0, pr)
theorem sm_zero : ∀ n, sm (fun _ => (0 : Int32)) n = 0 := by
  intro n
  induction n with
  | zero => rfl
  | succ n ih => show sm _ n + 0 = 0; rw [ih]; rfl
theorem bgn_inv {n : Nat} {st : Int32} {wa gi hd pr be : Nat → Int32} : qinv n (wan wa gi) be (sm (gft wa gi) n) (bgn n st wa gi hd pr be) := by
  refine ⟨fun h _ => ⟨?_, ?_⟩, ?_⟩
  · show wan wa gi h + 0 + 0 = _; grind
  · show be h + 0 + 0 = _; grind
  · show sm (gft wa gi) n + 0 + sm (fun _ => 0) n = _; rw [sm_zero]; grind
theorem own_in {wa gi : Int32} (h1 : 0 ≤ wa.toInt ∧ wa.toInt ≤ 5000) (h2 : 0 ≤ gi.toInt ∧ gi.toInt ≤ 5000) : (wa - own wa gi).toInt = wa.toInt - (own wa gi).toInt ∧ (gi - own wa gi).toInt = gi.toInt - (own wa gi).toInt ∧ 0 ≤ (own wa gi).toInt ∧ (own wa gi).toInt ≤ wa.toInt ∧ (own wa gi).toInt ≤ gi.toInt := by
  have h3 : 0 ≤ (own wa gi).toInt ∧ (own wa gi).toInt ≤ wa.toInt ∧ (own wa gi).toInt ≤ gi.toInt := by
    unfold own
    by_cases c : gi < wa
    · have := i_lt.mp c
      rw [if_pos c]; omega
    · have : ¬ gi.toInt < wa.toInt := fun e => c (i_lt.mpr e)
      rw [if_neg c]; omega
  exact ⟨i_sub (by omega) (by omega), i_sub (by omega) (by omega), h3.1, h3.2⟩
theorem bgn_QI {n : Nat} {st cap : Int32} {wa gi hd pr be : Nat → Int32} (h12 : n ≤ 12) (hst : 0 ≤ st.toInt ∧ st.toInt ≤ cap.toInt) (hcap : cap.toInt ≤ 1000000) (hwg : ∀ h, h < n → (0 ≤ (wa h).toInt ∧ (wa h).toInt ≤ 5000) ∧ (0 ≤ (gi h).toInt ∧ (gi h).toInt ≤ 5000)) (hbe : ∀ h, h < n → 0 ≤ (be h).toInt ∧ (be h).toInt ≤ 5000) : QI (bgn n st wa gi hd pr be) n cap := by
  have hsum : ∀ k, k ≤ n → 0 ≤ (sm (gft wa gi) k).toInt ∧ (sm (gft wa gi) k).toInt ≤ 5000 * (k : Int) := by
    intro k
    induction k with
    | zero => intro _; exact ⟨by show (0 : Int) ≤ (0 : Int32).toInt; decide, by show (0 : Int32).toInt ≤ 5000 * 0; decide⟩
    | succ k ih =>
      intro hk
      have h1 := ih (by omega)
      have h2 := own_in (hwg k (by omega)).1 (hwg k (by omega)).2
      have h3 := hwg k (by omega)
      have eg : (gft wa gi k).toInt = (gi k).toInt - (own (wa k) (gi k)).toInt := h2.2.1
      show 0 ≤ (sm (gft wa gi) k + gft wa gi k).toInt ∧ (sm (gft wa gi) k + gft wa gi k).toInt ≤ _
      rw [i_add (by omega) (by omega)]
      push_cast
      omega
  have hs := hsum n (Nat.le_refl _)
  refine ⟨fun h hh => ?_, ?_, ?_, hst.1, hst.2, hcap⟩
  · have h2 := own_in (hwg h hh).1 (hwg h hh).2
    have h3 := hwg h hh
    have h4 := hbe h hh
    have ew : (qW (bgn n st wa gi hd pr be) h).toInt = (wa h).toInt - (own (wa h) (gi h)).toInt := h2.1
    have el : qL (bgn n st wa gi hd pr be) h = be h := rfl
    rw [ew, el]; omega
  · exact hs.1
  · show (sm (gft wa gi) n).toInt ≤ 1000000
    omega
