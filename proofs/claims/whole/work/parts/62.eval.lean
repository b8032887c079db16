/-! ===== a quarter in the abstract: pool, store, filled, want, line, had on that day, from pool, from store, prices ===== -/
abbrev QS : Type := Int32 × Int32 × Int32 × (Nat → Int32) × (Nat → Int32) × (Nat → Int32) × (Nat → Int32) × (Nat → Int32) × (Nat → Int32)
def qP (s : QS) : Int32 := s.1
def qS (s : QS) : Int32 := s.2.1
def qF (s : QS) : Int32 := s.2.2.1
def qW (s : QS) : Nat → Int32 := s.2.2.2.1
def qL (s : QS) : Nat → Int32 := s.2.2.2.2.1
def qH (s : QS) : Nat → Int32 := s.2.2.2.2.2.1
def qA (s : QS) : Nat → Int32 := s.2.2.2.2.2.2.1
def qB (s : QS) : Nat → Int32 := s.2.2.2.2.2.2.2.1
def qR (s : QS) : Nat → Int32 := s.2.2.2.2.2.2.2.2
def sm (w : Nat → Int32) : Nat → Int32
  | 0 => 0
  | n + 1 => sm w n + w n
theorem sm_eq {w v : Nat → Int32} : ∀ n, (∀ h, h < n → w h = v h) → sm w n = sm v n := by
  intro n
  induction n with
  | zero => intro _; rfl
  | succ n ih => intro h; show sm w n + w n = sm v n + v n; rw [ih (fun h' hh => h h' (by omega)), h n (by omega)]
/-- what a name stands for -/
def meas (s : QS) (n q : Nat) (x : Int32) : Int32 :=
  if x.toInt = -1 then Int32.ofNat (q % 24) else if x.toInt = -2 then Int32.ofNat (q / 24) else if x.toInt = -3 then qP s else if x.toInt = -4 then qS s else sm (qW s) n
def jn (x a b : Int32) : Int32 := if x.toInt = -6 then a + b else if x.toInt = -7 then a - b else if x.toInt = -8 then (if a.toInt < b.toInt then 1 else 0) else (if a = b then 1 else 0)
def pop2 (x : Int32) : List Int32 → List Int32
  | b :: a :: r => jn x a b :: r
  | [b] => [b]
  | [] => []
def evm (m : Int32 → Int32) : List Int32 → List Int32 → List Int32
  | [], st => st
  | x :: l, st => if x.toInt ≤ -6 then evm m l (pop2 x st) else evm m l ((if 0 ≤ x.toInt then x else m x) :: st)
theorem evm_op {m : Int32 → Int32} {x a b : Int32} {l r : List Int32} (h : x.toInt ≤ -6) : evm m (x :: l) (b :: a :: r) = evm m l (jn x a b :: r) := by rw [evm, if_pos h, pop2]
theorem evm_nd {m : Int32 → Int32} {x : Int32} {l st : List Int32} (h : ¬ x.toInt ≤ -6) : evm m (x :: l) st = evm m l ((if 0 ≤ x.toInt then x else m x) :: st) := by rw [evm, if_neg h]
theorem hts_c {x : Int32} {l : List Int32} {h k : Nat} (e : hts (x :: l) h = some k) : (x.toInt ≤ -6 ∧ 2 ≤ h ∧ hts l (h - 1) = some k) ∨ (¬ x.toInt ≤ -6 ∧ h < 14 ∧ hts l (h + 1) = some k) := by
  rw [hts] at e
  by_cases h1 : x.toInt ≤ -6
  · rw [if_pos h1] at e
    by_cases h2 : 2 ≤ h
    · rw [if_pos h2] at e; exact Or.inl ⟨h1, h2, e⟩
    · rw [if_neg h2] at e; cases e
  · rw [if_neg h1] at e
    by_cases h2 : h < 14
    · rw [if_pos h2] at e; exact Or.inr ⟨h1, h2, e⟩
    · rw [if_neg h2] at e; cases e
def evv (s : QS) (n q : Nat) (l : List Int32) : Int32 := (evm (meas s n q) l []).getD 0 0
/-- the class's and the reference's pictures of it -/
def WV (u : MT) (s : QS) (n q : Nat) : Prop := gI u 116 4 = qP s ∧ gI u 116 5 = qS s ∧ gI u 127 2 = qF s ∧ (∀ h, h < n → gI u 117 h = qW s h ∧ gI u 118 h = qL s h ∧ gI u 119 h = qH s h ∧ gI u 120 h = qA s h ∧ gI u 121 h = qB s h) ∧ (∀ k, k < 4 → gI u 127 (10 + k) = qR s k) ∧ Nm (gI u 116 3) q ∧ Nm (gI u 101 2) n ∧ n ≤ 12 ∧ q < 240
def XV (u : MT) (s : QS) (n q : Nat) : Prop := gI u 167 46 = qP s ∧ gI u 167 45 = qS s ∧ gI u 167 61 = qF s ∧ (∀ h, h < n → gI u 201 h = qW s h ∧ gI u 202 h = qL s h ∧ gI u 207 h = qH s h ∧ gI u 204 h = qA s h ∧ gI u 205 h = qB s h) ∧ (∀ k, k < 4 → gI u 196 k = qR s k) ∧ Nm (gI u 167 43) q ∧ Nm (gI u 167 31) n ∧ n ≤ 12 ∧ q < 240
/-- what a picture speaks of -/
theorem WV.fr {u v : MT} {s : QS} {n q : Nat} (h : WV u s n q) (h4 : gI v 116 4 = gI u 116 4) (h5 : gI v 116 5 = gI u 116 5) (h3 : gI v 116 3 = gI u 116 3) (h1 : gI v 101 2 = gI u 101 2) (ha : ∀ a, 117 ≤ a → a ≤ 121 → ∀ k, gI v a k = gI u a k) (hs : ∀ k, gI v 127 k = gI u 127 k) : WV v s n q := by
  obtain ⟨a1, a2, a3, a4, a5, a6, a7, a8⟩ := h
  exact ⟨by rw [h4]; exact a1, by rw [h5]; exact a2, by rw [hs]; exact a3, fun h hh => by rw [ha 117 (by decide) (by decide), ha 118 (by decide) (by decide), ha 119 (by decide) (by decide), ha 120 (by decide) (by decide), ha 121 (by decide) (by decide)]; exact a4 h hh, fun k hk => by rw [hs]; exact a5 k hk, by rw [h3]; exact a6, by rw [h1]; exact a7, a8⟩
theorem XV.fr {u v : MT} {s : QS} {n q : Nat} (h : XV u s n q) (hr : ∀ k, (k = 46 ∨ k = 45 ∨ k = 61 ∨ k = 43 ∨ k = 31) → gI v 167 k = gI u 167 k) (ha : ∀ a, (a = 201 ∨ a = 202 ∨ a = 207 ∨ a = 204 ∨ a = 205 ∨ a = 196) → ∀ k, gI v a k = gI u a k) : XV v s n q := by
  obtain ⟨a1, a2, a3, a4, a5, a6, a7, a8⟩ := h
  exact ⟨by rw [hr 46 (by omega)]; exact a1, by rw [hr 45 (by omega)]; exact a2, by rw [hr 61 (by omega)]; exact a3, fun h hh => by rw [ha 201 (by omega), ha 202 (by omega), ha 207 (by omega), ha 204 (by omega), ha 205 (by omega)]; exact a4 h hh, fun k hk => by rw [ha 196 (by omega)]; exact a5 k hk, by rw [hr 43 (by omega)]; exact a6, by rw [hr 31 (by omega)]; exact a7, a8⟩
/-! stacks -/
def Pile (u : MT) (c : Nat) (st : List Int32) : Prop := ∀ j, j < st.length → gI u c (st.length - 1 - j) = st.getD j 0
theorem Pile.push {u : MT} {c : Nat} {st : List Int32} (h : Pile u c st) (x : Int32) : Pile (sI u c st.length x) c (x :: st) := by
  intro j hj
  have hj : j < st.length + 1 := hj
  show gI (sI u c st.length x) c (st.length + 1 - 1 - j) = _
  match j with
  | 0 => rw [show st.length + 1 - 1 - 0 = st.length by omega, g_same]; rfl
  | j + 1 =>
    rw [g_nk _ _ _ (by omega), show st.length + 1 - 1 - (j + 1) = st.length - 1 - j by omega]
    exact h j (by omega)
theorem Pile.pop {u : MT} {c : Nat} {a b v : Int32} {r : List Int32} (h : Pile u c (b :: a :: r)) : gI u c (r.length + 1) = b ∧ gI u c r.length = a ∧ Pile (sI u c r.length v) c (v :: r) := by
  have h0 := h 0 (by show 0 < r.length + 2; omega)
  have h1 := h 1 (by show 1 < r.length + 2; omega)
  refine ⟨h0, h1, fun j hj => ?_⟩
  have hj : j < r.length + 1 := hj
  show gI (sI u c r.length v) c (r.length + 1 - 1 - j) = _
  match j with
  | 0 => rw [show r.length + 1 - 1 - 0 = r.length by omega, g_same]; rfl
  | j + 1 =>
    have := h (j + 2) (by show j + 2 < r.length + 2; omega)
    rw [g_nk _ _ _ (by omega), show r.length + 1 - 1 - (j + 1) = (b :: a :: r).length - 1 - (j + 2) by show _ = r.length + 2 - 1 - (j + 2); omega]
    exact this
/-! the class: an E's value -/
section
variable {f : Nat} {s : QS} {n q : Nat}
theorem c_wantOfAll {u : MT} (hf : 1300 < f) (h : WV u s n q) : F_X10_wantOfAll f u = some (sm (qW s) n, u) := by
  have loop : ∀ (d k : Nat) (x1 x2 : Int32) (m : Nat), k + d = n → Nm x2 k → d < m → x1 = sm (qW s) k → B_X10_wantOfAll_4 f m x1 x2 u = some (sm (qW s) n, u) := by
    intro d
    induction d with
    | zero =>
      intro k x1 x2 m hk hx hm h1
      obtain ⟨m, rfl⟩ : ∃ m', m = m' + 1 := ⟨m - 1, by omega⟩
      rw [B_X10_wantOfAll_4, if_pos ((h.2.2.2.2.2.2.1.le hx).mpr (by omega)), h1, show k = n by omega]
    | succ d ih =>
      intro k x1 x2 m hk hx hm h1
      obtain ⟨m, rfl⟩ : ∃ m', m = m' + 1 := ⟨m - 1, by omega⟩
      have h12 := h.2.2.2.2.2.2.2.1
      rw [B_X10_wantOfAll_4, if_neg (fun e => by have := (h.2.2.2.2.2.2.1.le hx).mp e; omega), ck_p (hx.ix (by omega)), hx.nat, (h.2.2.2.1 k (by omega)).1]
      exact ih (k + 1) _ _ m (by omega) (hx.succ (by omega)) (by omega) (by rw [h1]; rfl)
  rw [F_X10_wantOfAll]
  have h12 := h.2.2.2.2.2.2.2.1
  exact loop n 0 0 0 f (by omega) nm0 (by omega) rfl
theorem i_ofn {x : Int32} {k : Nat} (h : Nm x k) : x = Int32.ofNat k := by
  have hh := i_hi x
  have : x.toInt = (k : Int) := h
  exact h.inj (Nm.of (by omega))
theorem c_measured {u : MT} (hf : 1300 < f) (h : WV u s n q) {x : Int32} (h1 : -6 < x.toInt) (h2 : x.toInt < 0) : F_X10_measured f x u = some (meas s n q x, u) := by
  have hq := h.2.2.2.2.2.1
  have n24 : Nm (24 : Int32) 24 := rfl
  have e1 : (tkC.getD (7 - 1) 0).toInt = -1 := rfl
  have e2 : (tkC.getD (8 - 1) 0).toInt = -2 := rfl
  have e3 : (tkC.getD (9 - 1) 0).toInt = -3 := rfl
  have e4 : (tkC.getD (10 - 1) 0).toInt = -4 := rfl
  rw [F_X10_measured]
  unfold meas
  by_cases c1 : x.toInt = -1
  · rw [if_pos (i_eq.mpr (by rw [e1]; exact c1)), if_pos c1, i_ofn (hq.mod n24)]
  · rw [if_neg (fun e => c1 (by rw [e]; exact e1)), if_neg c1]
    by_cases c2 : x.toInt = -2
    · rw [if_pos (i_eq.mpr (by rw [e2]; exact c2)), if_pos c2, i_ofn (hq.div n24)]
    · rw [if_neg (fun e => c2 (by rw [e]; exact e2)), if_neg c2]
      by_cases c3 : x.toInt = -3
      · rw [if_pos (i_eq.mpr (by rw [e3]; exact c3)), if_pos c3, h.1]
      · rw [if_neg (fun e => c3 (by rw [e]; exact e3)), if_neg c3]
        by_cases c4 : x.toInt = -4
        · rw [if_pos (i_eq.mpr (by rw [e4]; exact c4)), if_pos c4, h.2.1]
        · rw [if_neg (fun e => c4 (by rw [e]; exact e4)), if_neg c4, bS (c_wantOfAll hf h)]
theorem c_joined {u : MT} {x a b : Int32} (h1 : x.toInt ≤ -6) (h2 : -9 ≤ x.toInt) : F_X10_joined f x a b u = some (jn x a b, u) := by
  have e1 : (tkC.getD (12 - 1) 0).toInt = -6 := rfl
  have e2 : (tkC.getD (13 - 1) 0).toInt = -7 := rfl
  have e3 : (tkC.getD (14 - 1) 0).toInt = -8 := rfl
  rw [F_X10_joined]
  unfold jn
  by_cases c1 : x.toInt = -6
  · rw [if_pos (i_eq.mpr (by rw [e1]; exact c1)), if_pos c1]
  · rw [if_neg (fun e => c1 (by rw [e]; exact e1)), if_neg c1]
    by_cases c2 : x.toInt = -7
    · rw [if_pos (i_eq.mpr (by rw [e2]; exact c2)), if_pos c2]
    · rw [if_neg (fun e => c2 (by rw [e]; exact e2)), if_neg c2]
      by_cases c3 : x.toInt = -8
      · rw [if_pos (i_eq.mpr (by rw [e3]; exact c3)), if_pos c3]
        by_cases c : b ≤ a
        · have := i_le.mp c
          rw [if_pos c, if_neg (show ¬ a.toInt < b.toInt by omega)]; rfl
        · rw [if_neg c, if_pos (show a.toInt < b.toInt from Int.not_le.mp (fun e => c (i_le.mpr e)))]; rfl
      · rw [if_neg (fun e => c3 (by rw [e]; exact e3)), if_neg c3]
        by_cases c : a = b
        · rw [if_pos c, if_pos c]; rfl
        · rw [if_neg c, if_neg c]; rfl
theorem nlt2 (k : Nat) : ¬ k + 1 + 1 < 2 := Nat.not_lt.mpr (Nat.le_add_left 2 k)
theorem c_op {tx m i to : Nat} {x a b x3 x4 x5 : Int32} {l r : List Int32} {u : MT}
    (ih : ∀ (st : List Int32) (i to : Nat) (x3 x4 x5 : Int32) (u : MT) (m : Nat), WV u s n q → (∀ x ∈ l, vit x) → hts l st.length = some 1 → st.length ≤ 14 → Pile u 125 st → Nm x5 i → Nm x3 to → Nm x4 st.length → i + l.length = to → to ≤ 1200 → l.length < m → (∀ k, k < l.length → gI u (tx + 2) (i + k) = l.getD k 0) → Ok (B_X10_value_6 f m tx x3 x4 x5 u) (fun r => r.1 = (evm (meas s n q) l st).getD 0 0))
    (hW : WV u s n q) (hv' : ∀ y ∈ l, vit y) (hop : x.toInt ≤ -6) (hvx : -9 ≤ x.toInt) (hst : r.length + 1 + 1 ≤ 14) (hS : Pile u 125 (b :: a :: r)) (h5 : Nm x5 i) (h3 : Nm x3 to) (h4 : Nm x4 (r.length + 1 + 1)) (hh' : hts l (r.length + 1 + 1 - 1) = some 1) (hi : i + (l.length + 1) = to) (hm : l.length + 1 < m + 1) (ht : to ≤ 1200)
    (hWn : ∀ (k : Nat) (y : Int32), WV (sI u 125 k y) s n q) (hcn : ∀ v : MT, (∀ k, gI v (tx + 2) k = gI u (tx + 2) k) → ∀ k, k < l.length → gI v (tx + 2) (i + 1 + k) = l.getD k 0) (htx : 128 ≤ tx + 2) :
    Ok (if x4 < (2 : Int32) then B_X10_value_107 f (fun a1' x3' x4' x5' u' => B_X10_value_6 f m a1' x3' x4' x5' u') tx x3 x4 x5 u else
          ck (ixo (x4 + (-1) - (1 : Int32)) 14) (ck (ixo (x4 + (-1)) 14) ((F_X10_joined f x (gI u 125 (x4 + (-1) - (1 : Int32)).toNatClampNeg) (gI u 125 (x4 + (-1)).toNatClampNeg) u).bind fun r13 =>
          B_X10_value_107 f (fun a1' x3' x4' x5' u' => B_X10_value_6 f m a1' x3' x4' x5' u') tx x3 (x4 + (-1)) x5 (sI r13.2 125 (x4 + (-1) - (1 : Int32)).toNatClampNeg r13.1)))) (fun r' => r'.1 = (evm (meas s n q) (x :: l) (b :: a :: r)).getD 0 0) := by
  have h4p : Nm (x4 + (-1)) (r.length + 1) := Nm.predn h4
  have h4q : Nm (x4 + (-1) - 1) r.length := Nm.pred h4p
  obtain ⟨p1, p2, p3⟩ := hS.pop (v := jn x a b)
  have l14 : r.length < 14 := Nat.lt_of_succ_lt (Nat.lt_of_succ_le hst)
  have l14' : r.length + 1 < 14 := Nat.lt_of_succ_le hst
  refine Ok.f (fun e => nlt2 _ ((Nm.lt h4 (show Nm (2 : Int32) 2 from rfl)).mp e)) ?_
  refine Ok.ck (h4q.ix l14) (Ok.ck (h4p.ix l14') ?_)
  rw [h4q.nat, h4p.nat, p1, p2]
  refine Ok.bindE (c_joined hop hvx) ?_
  rw [evm_op hop]
  have q1 : i + 1 + l.length = to := by clear h4 h4p h4q p1 p2 p3 hS hst l14 l14' hh'; omega
  have q2 : l.length < m := by clear h4 h4p h4q p1 p2 p3 hS hst l14 l14' hh'; omega
  have q3 : i < 1000000000 := by clear h4 h4p h4q p1 p2 p3 hS hst l14 l14' hh'; omega
  exact ih (jn x a b :: r) (i + 1) to x3 (x4 + (-1)) (x5 + 1) (sI u 125 r.length (jn x a b)) m (hWn _ _) hv' hh' (Nat.le_of_lt l14') p3 (h5.succ q3) h3 h4p q1 ht q2 (hcn _ (fun k => g_ne _ _ _ _ (by clear hS; omega)))
theorem c_value {tx : Nat} (hf : 1300 < f) (htx : 128 ≤ tx + 2) : ∀ (l st : List Int32) (i to : Nat) (x3 x4 x5 : Int32) (u : MT) (m : Nat), WV u s n q → (∀ x ∈ l, vit x) → hts l st.length = some 1 → st.length ≤ 14 → Pile u 125 st → Nm x5 i → Nm x3 to → Nm x4 st.length → i + l.length = to → to ≤ 1200 → l.length < m → (∀ k, k < l.length → gI u (tx + 2) (i + k) = l.getD k 0) →
    Ok (B_X10_value_6 f m tx x3 x4 x5 u) (fun r => r.1 = (evm (meas s n q) l st).getD 0 0) := by
  intro l
  induction l with
  | nil =>
    intro st i to x3 x4 x5 u m hW _ hh hst hS h5 h3 h4 hi ht hm hc
    obtain ⟨m, rfl⟩ : ∃ m', m = m' + 1 := ⟨m - 1, by omega⟩
    have hi : i + 0 = to := hi
    rw [B_X10_value_6]
    refine Ok.t ((h3.le h5).mpr (by omega)) (Ok.some ?_)
    have h1 : st.length = 1 := by rw [hts] at hh; exact Option.some.inj hh
    have h2 := hS 0 (by omega)
    rw [h1] at h2
    exact h2
  | cons x l ih =>
    intro st i to x3 x4 x5 u m hW hv hh hst hS h5 h3 h4 hi ht hm hc
    rw [List.length_cons] at hi hm
    obtain ⟨m, rfl⟩ : ∃ m', m = m' + 1 := ⟨m - 1, by omega⟩
    have hx : gI u (tx + 2) i = x := hc 0 (by rw [List.length_cons]; omega)
    have hvx : -9 ≤ x.toInt := hv x (by simp)
    have hv' : ∀ y ∈ l, vit y := fun y hy => hv y (by simp [hy])
    have e6 : (tkC.getD (12 - 1) 0).toInt = -6 := rfl
    have hcn : ∀ v : MT, (∀ k, gI v (tx + 2) k = gI u (tx + 2) k) → ∀ k, k < l.length → gI v (tx + 2) (i + 1 + k) = l.getD k 0 := fun v hv k hk => by
      rw [hv, show i + 1 + k = i + (k + 1) by omega]
      exact hc (k + 1) (by rw [List.length_cons]; omega)
    have hWn : ∀ (k : Nat) (y : Int32), WV (sI u 125 k y) s n q := fun k y => hW.fr (g_ne _ _ _ _ (by decide)) (g_ne _ _ _ _ (by decide)) (g_ne _ _ _ _ (by decide)) (g_ne _ _ _ _ (by decide)) (fun a h1 h2 k => g_ne _ _ _ _ (by omega)) (fun k => g_ne _ _ _ _ (by decide))
    rw [B_X10_value_6]
    refine Ok.f (fun e => by have := (h3.le h5).mp e; omega) (Ok.ck (h5.ix (by omega)) ?_)
    rw [h5.nat, hx]
    rcases hts_c hh with ⟨hop, h2, hh'⟩ | ⟨hop, h14, hh'⟩
    · refine Ok.f (fun e => by have := i_lt.mp e; omega) ?_
      cases st with
      | nil => exact absurd h2 (by show ¬ 2 ≤ 0; omega)
      | cons b st =>
        cases st with
        | nil => exact absurd h2 (by show ¬ 2 ≤ 1; omega)
        | cons a r =>
          exact c_op ih hW hv' hop hvx hst hS h5 h3 h4 hh' hi hm ht hWn hcn htx
    · refine Ok.t (i_lt.mpr (by rw [e6]; omega)) (Ok.f (fun e => by have := (Nm.le (show Nm (14 : Int32) 14 from rfl) h4).mp e; omega) ?_)
      have go : ∀ y : Int32, y = (if 0 ≤ x.toInt then x else meas s n q x) → Ok (B_X10_value_103 f (fun a1' x3' x4' x5' u' => B_X10_value_6 f m a1' x3' x4' x5' u') tx x3 x4 x5 y x4 u) (fun r => r.1 = (evm (meas s n q) (x :: l) st).getD 0 0) := by
        intro y hy
        rw [B_X10_value_103]
        refine Ok.ck (h4.ix h14) ?_
        rw [h4.nat, evm_nd hop, ← hy]
        exact ih (y :: st) (i + 1) to x3 (x4 + 1) (x5 + 1) (sI u 125 st.length y) m (hWn _ _) hv' hh' (by rw [List.length_cons]; omega) (hS.push y) (h5.succ (by omega)) h3 (h4.succ (by omega)) (by omega) ht (by omega) (hcn _ (fun k => g_ne _ _ _ _ (by omega)))
      by_cases h0 : 0 ≤ x.toInt
      · refine Ok.f (fun e => by have h := i_lt.mp e; rw [show (0 : Int32).toInt = 0 from rfl] at h; omega) (go x (by rw [if_pos h0]))
      · refine Ok.t (i_lt.mpr (by rw [show (0 : Int32).toInt = 0 from rfl]; omega)) (Ok.bindE (c_measured hf hW (by omega) (by omega)) (go _ (by rw [if_neg h0])))
/-- an E of the class's text -/
theorem c_val {u : MT} {tx a b : Nat} {x y : Int32} {l : List Int32} (hf : 1300 < f) (htx : 128 ≤ tx + 2) (hW : WV u s n q) (hl : codeOk l) (hne : l ≠ []) (hx : Nm x a) (hy : Nm y b) (hab : b = a + l.length) (hb : b ≤ 1200) (hseg : segC u tx a l) : Ok (F_X10_value f tx x y u) (fun r => r.1 = evv s n q l) := by
  rcases hl with e | ⟨h1, h2⟩
  · exact absurd e hne
  · rw [F_X10_value]
    exact c_value hf htx l [] a b y 0 x u f hW h2 h1 (by show 0 ≤ 14; omega) (fun j hj => absurd hj (Nat.not_lt_zero j)) hx hy nm0 hab.symm hb (by omega) hseg
end
