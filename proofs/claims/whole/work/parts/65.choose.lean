/-! ===== the class chooses ===== -/
def Lst (u : MT) (C : List Nat) : Prop := Nm (gI u 116 12) C.length ∧ ∀ j, j < C.length → Nm (gI u 122 j) (C.getD j 0)
theorem Lst.fr {u v : MT} {C : List Nat} (h : Lst u C) (h1 : gI v 116 12 = gI u 116 12) (h2 : ∀ k, gI v 122 k = gI u 122 k) : Lst v C := ⟨by rw [h1]; exact h.1, fun j hj => by rw [h2]; exact h.2 j hj⟩
theorem take_snoc {α : Type} {C : List α} {d : α} {c : Nat} (h : c < C.length) : C.take (c + 1) = C.take c ++ [C.getD c d] := by
  rw [List.take_succ_eq_append_getElem h]
  simp [List.getD, List.getElem?_eq_getElem h]
theorem getD_mem {C : List Nat} {j : Nat} (h : j < C.length) : C.getD j 0 ∈ C := by
  simp [List.getD, List.getElem?_eq_getElem h]
theorem getD_app_l {C D : List Nat} {j : Nat} (h : j < C.length) : (C ++ D).getD j 0 = C.getD j 0 := by simp [List.getD, List.getElem?_append_left h]
theorem getD_app_e {C : List Nat} {x : Nat} : (C ++ [x]).getD C.length 0 = x := by simp [List.getD]
theorem Lst.push {u : MT} {C : List Nat} (h : Lst u C) (hc : C.length < 12) {x : Int32} {k : Nat} (hx : Nm x k) : Lst (sI (sI u 122 C.length x) 116 12 (gI u 116 12 + 1)) (C ++ [k]) := by
  refine ⟨?_, fun j hj => ?_⟩
  · rw [g_same, List.length_append]; exact h.1.succ (by omega)
  · rw [g_ne _ _ _ _ (by decide), g_at]
    rw [List.length_append, List.length_singleton] at hj
    by_cases e : j = C.length
    · subst e; rw [if_pos rfl, getD_app_e]; exact hx
    · rw [if_neg e, getD_app_l (by omega)]; exact h.2 j (by omega)
theorem one_t {p : Nat → Bool} {x : Nat} (h : p x = true) : [x].filter p = [x] := by simp only [List.filter, h]
theorem one_f {p : Nat → Bool} {x : Nat} (h : p x = false) : [x].filter p = [] := by simp only [List.filter, h]
/-- numbers in their order, below n -/
def Asc (n : Nat) (C : List Nat) : Prop := C.Pairwise (· < ·) ∧ ∀ x ∈ C, x < n
theorem Asc.filter {n : Nat} {C : List Nat} (h : Asc n C) (p : Nat → Bool) : Asc n (C.filter p) := ⟨h.1.filter p, fun x hx => h.2 x (List.mem_filter.mp hx).1⟩
theorem Asc_range (n : Nat) : Asc n (List.range n) := ⟨List.pairwise_lt_range, fun x hx => List.mem_range.mp hx⟩
theorem Asc.lt {n : Nat} {C : List Nat} (h : Asc n C) {i j : Nat} (hij : i < j) (hj : j < C.length) : C.getD i 0 < C.getD j 0 := by
  have := List.pairwise_iff_getElem.mp h.1 i j (by omega) hj hij
  simpa [List.getD, List.getElem?_eq_getElem hj, List.getElem?_eq_getElem (show i < C.length by omega)] using this
theorem Asc.len {n : Nat} {C : List Nat} (h : Asc n C) : C.length ≤ n := by
  have key : ∀ j, j < C.length → j ≤ C.getD j 0 := by
    intro j
    induction j with
    | zero => intro _; omega
    | succ j ih => intro hj; have := ih (by omega); have := h.lt (show j < j + 1 by omega) hj; omega
  by_cases e : C.length = 0
  · omega
  · have h1 := key (C.length - 1) (by omega)
    have h2 := h.2 _ (getD_mem (show C.length - 1 < C.length by omega))
    omega
theorem chl_asc {s : QS} {n who : Nat} {num : Int32} : Asc n (chl s n who num) := by
  have h0 : Asc n (ch0 s n who num) := (Asc_range n).filter _
  unfold chl
  split
  · exact h0.filter _
  · exact h0
section
variable {f : Nat} {s : QS} {n q : Nat}
theorem c_ahead {u : MT} (hf : 1300 < f) (hW : WV u s n q) {C : List Nat} (hC : Asc n C) (hL : Lst u C) {j : Nat} (hj : j < C.length) {x : Int32} (hx : Nm x j) : ∃ y, F_X10_chosenAhead f x u = some (y, u) ∧ Nm y (ahd s C (C.getD j 0)) := by
  have h12 := hW.n12
  have hlen := hC.len
  have hjn : C.getD j 0 < n := hC.2 _ (getD_mem hj)
  have hcj := hL.2 j hj
  have loop : ∀ (d c : Nat) (x3 x4 : Int32) (m : Nat), c + d = C.length → Nm x4 c → d < m → Nm x3 ((C.take c).filter (fun k => hlt s k (C.getD j 0))).length →
      ∃ y, B_X10_chosenAhead_17 f m x (qH s (C.getD j 0)) x3 x4 u = some (y, u) ∧ Nm y (ahd s C (C.getD j 0)) := by
    intro d
    induction d with
    | zero =>
      intro c x3 x4 m hc hx4 hm h3
      obtain ⟨m, rfl⟩ : ∃ m', m = m' + 1 := ⟨m - 1, by omega⟩
      refine ⟨x3, ?_, ?_⟩
      · rw [B_X10_chosenAhead_17, if_pos ((hL.1.le hx4).mpr (by omega))]
      · rw [List.take_of_length_le (by omega)] at h3; exact h3
    | succ d ih =>
      intro c x3 x4 m hc hx4 hm h3
      obtain ⟨m, rfl⟩ : ∃ m', m = m' + 1 := ⟨m - 1, by omega⟩
      have hcl : c < C.length := by omega
      have hcn : C.getD c 0 < n := hC.2 _ (getD_mem hcl)
      have hcc := hL.2 c hcl
      have hle : ((C.take c).filter (fun k => hlt s k (C.getD j 0))).length ≤ c := Nat.le_trans (List.length_filter_le _ _) (by rw [List.length_take]; omega)
      rw [B_X10_chosenAhead_17, if_neg (fun e => by have := (hL.1.le hx4).mp e; omega), ck_p (hx4.ix (by omega)), hx4.nat, ck_p (hcc.ix (by omega)), hcc.nat, (hW.2.2.2.1 _ hcn).2.2.1]
      dsimp only
      have yes : hlt s (C.getD c 0) (C.getD j 0) = true → ∃ y, B_X10_chosenAhead_58 f (fun x1' x2' x3' x4' u' => B_X10_chosenAhead_17 f m x1' x2' x3' x4' u') x (qH s (C.getD j 0)) x3 x4 u = some (y, u) ∧ Nm y (ahd s C (C.getD j 0)) := by
        intro hp
        rw [B_X10_chosenAhead_58, B_X10_chosenAhead_61]
        refine ih (c + 1) _ _ m (by omega) (hx4.succ (by omega)) (by omega) ?_
        rw [take_snoc (d := 0) hcl, List.filter_append, List.length_append]
        rw [one_t (p := fun k => hlt s k (C.getD j 0)) hp]; exact h3.succ (by omega)
      have no : hlt s (C.getD c 0) (C.getD j 0) = false → ∃ y, B_X10_chosenAhead_61 f (fun x1' x2' x3' x4' u' => B_X10_chosenAhead_17 f m x1' x2' x3' x4' u') x (qH s (C.getD j 0)) x3 x4 u = some (y, u) ∧ Nm y (ahd s C (C.getD j 0)) := by
        intro hp
        rw [B_X10_chosenAhead_61]
        refine ih (c + 1) _ _ m (by omega) (hx4.succ (by omega)) (by omega) ?_
        rw [take_snoc (d := 0) hcl, List.filter_append, List.length_append]
        rw [one_f (p := fun k => hlt s k (C.getD j 0)) hp]; exact h3
      by_cases h1 : qH s (C.getD c 0) < qH s (C.getD j 0)
      · rw [if_pos h1]
        exact yes (by unfold hlt; rw [decide_eq_true (i_lt.mp h1)]; rfl)
      · rw [if_neg h1]
        have h1' : ¬ (qH s (C.getD c 0)).toInt < (qH s (C.getD j 0)).toInt := fun e => h1 (i_lt.mpr e)
        by_cases h2 : qH s (C.getD c 0) = qH s (C.getD j 0)
        · rw [if_pos h2]
          by_cases h3' : x ≤ x4
          · have hjc := (hx.le hx4).mp h3'
            rw [if_pos h3']
            refine no ?_
            unfold hlt
            have : ¬ C.getD c 0 < C.getD j 0 := fun e => by
              by_cases e2 : j = c
              · subst e2; omega
              · have := hC.lt (show j < c by omega) hcl; omega
            rw [decide_eq_false h1', decide_eq_true h2, decide_eq_false this]; rfl
          · have hcj' : c < j := by have : ¬ j ≤ c := fun e => h3' ((hx.le hx4).mpr e); omega
            rw [if_neg h3']
            refine yes ?_
            unfold hlt
            rw [decide_eq_false h1', decide_eq_true h2, decide_eq_true (hC.lt hcj' hj)]; rfl
        · rw [if_neg h2]
          refine no ?_
          unfold hlt
          rw [decide_eq_false h1', decide_eq_false h2]; rfl
  rw [F_X10_chosenAhead, ck_p (hx.ix (by omega)), hx.nat, ck_p (hcj.ix (by omega)), hcj.nat, (hW.2.2.2.1 _ hjn).2.2.1]
  exact loop C.length 0 0 0 f (by omega) nm0 (by omega) nm0
theorem WV.cho {u v : MT} (h : WV u s n q) (hF : ∀ a k, a ≠ 122 → a ≠ 123 → a ≠ 124 → (a ≠ 116 ∨ k ≠ 12) → gI v a k = gI u a k) : WV v s n q :=
  h.fr (hF _ _ (by decide) (by decide) (by decide) (Or.inr (by decide))) (hF _ _ (by decide) (by decide) (by decide) (Or.inr (by decide))) (hF _ _ (by decide) (by decide) (by decide) (Or.inr (by decide))) (hF _ _ (by decide) (by decide) (by decide) (Or.inl (by decide))) (fun a h1 h2 k => hF _ _ (by omega) (by omega) (by omega) (Or.inl (by omega))) (fun k => hF _ _ (by decide) (by decide) (by decide) (Or.inl (by decide)))
theorem c_keepLeast {u : MT} (hf : 1300 < f) (hW : WV u s n q) {C : List Nat} (hC : Asc n C) (hL : Lst u C) {x1 : Int32} : Ok (F_X10_keepLeast f x1 u) (fun r => Lst r (C.filter (fun h => decide ((ahd s C h : Int) < x1.toInt)))) := by
  have h12 := hW.n12
  have hlen := hC.len
  -- which ones stay
  have loop2 : ∀ (d c : Nat) (x2 x3 : Int32) (v : MT) (m : Nat), c + d = C.length → Nm x3 c → d < m → Nm (gI v 116 12) C.length → (∀ j, j < C.length → gI v 123 j = b2i ((ahd s C (C.getD j 0) : Int) < x1.toInt)) → Nm x2 ((C.take c).filter (fun h => decide ((ahd s C h : Int) < x1.toInt))).length → (∀ j, j < ((C.take c).filter (fun h => decide ((ahd s C h : Int) < x1.toInt))).length → Nm (gI v 122 j) (((C.take c).filter (fun h => decide ((ahd s C h : Int) < x1.toInt))).getD j 0)) → (∀ j, c ≤ j → j < C.length → Nm (gI v 122 j) (C.getD j 0)) →
      Ok (B_X10_keepLeast_40 f m x2 x3 v) (fun r => Lst r (C.filter (fun h => decide ((ahd s C h : Int) < x1.toInt)))) := by
    intro d
    induction d with
    | zero =>
      intro c x2 x3 v m hc hx3 hm hn hfl hx2 hpre hrest
      obtain ⟨m, rfl⟩ : ∃ m', m = m' + 1 := ⟨m - 1, by omega⟩
      rw [B_X10_keepLeast_40]
      refine Ok.t ((hn.le hx3).mpr (by omega)) (Ok.some ?_)
      rw [List.take_of_length_le (by omega)] at hx2 hpre
      exact ⟨by rw [g_same]; exact hx2, fun j hj => by rw [g_ne _ _ _ _ (by decide)]; exact hpre j hj⟩
    | succ d ih =>
      intro c x2 x3 v m hc hx3 hm hn hfl hx2 hpre hrest
      obtain ⟨m, rfl⟩ : ∃ m', m = m' + 1 := ⟨m - 1, by omega⟩
      have hcl : c < C.length := by omega
      have hle : ((C.take c).filter (fun h => decide ((ahd s C h : Int) < x1.toInt))).length ≤ c := Nat.le_trans (List.length_filter_le _ _) (by rw [List.length_take]; omega)
      rw [B_X10_keepLeast_40]
      refine Ok.f (fun e => by have := (hn.le hx3).mp e; omega) (Ok.ck (hx3.ix (by omega)) ?_)
      rw [hx3.nat, hfl c hcl]
      by_cases hp : (ahd s C (C.getD c 0) : Int) < x1.toInt
      · have hp' : [C.getD c 0].filter (fun h => decide ((ahd s C h : Int) < x1.toInt)) = [C.getD c 0] := one_t (decide_eq_true hp)
        rw [b2i_t hp]
        refine Ok.f ni1 (Ok.ck (hx2.ix (by omega)) ?_)
        rw [hx2.nat, B_X10_keepLeast_72]
        refine ih (c + 1) _ _ _ m (by omega) (hx3.succ (by omega)) (by omega) (by rw [g_ne _ _ _ _ (by decide)]; exact hn) (fun j hj => by rw [g_ne _ _ _ _ (by decide)]; exact hfl j hj) ?_ ?_ (fun j h1 h2 => by rw [g_nk _ _ _ (by omega)]; exact hrest j (by omega) h2)
        · rw [take_snoc (d := 0) hcl, List.filter_append, hp', List.length_append]; exact hx2.succ (by omega)
        · rw [take_snoc (d := 0) hcl, List.filter_append, hp']
          intro j hj
          rw [List.length_append, List.length_singleton] at hj
          rw [g_at]
          by_cases e : j = ((C.take c).filter (fun h => decide ((ahd s C h : Int) < x1.toInt))).length
          · subst e; rw [if_pos rfl, getD_app_e]; exact hrest c (Nat.le_refl _) hcl
          · rw [if_neg e, getD_app_l (by omega)]; exact hpre j (by omega)
      · have hp' : [C.getD c 0].filter (fun h => decide ((ahd s C h : Int) < x1.toInt)) = [] := one_f (decide_eq_false hp)
        rw [b2i_f hp]
        refine Ok.t rfl ?_
        rw [B_X10_keepLeast_72]
        refine ih (c + 1) _ _ v m (by omega) (hx3.succ (by omega)) (by omega) hn hfl ?_ ?_ (fun j h1 h2 => hrest j (by omega) h2)
        · rw [take_snoc (d := 0) hcl, List.filter_append, hp', List.append_nil]; exact hx2
        · rw [take_snoc (d := 0) hcl, List.filter_append, hp', List.append_nil]; exact hpre
  have loop1 : ∀ (d c : Nat) (x2 : Int32) (v : MT) (m : Nat), c + d = C.length → Nm x2 c → d < m → WV v s n q → Lst v C → (∀ j, j < c → gI v 123 j = b2i ((ahd s C (C.getD j 0) : Int) < x1.toInt)) →
      Ok (B_X10_keepLeast_2 f m x1 x2 v) (fun r => Lst r (C.filter (fun h => decide ((ahd s C h : Int) < x1.toInt)))) := by
    intro d
    induction d with
    | zero =>
      intro c x2 v m hc hx2 hm hv hLv hfl
      obtain ⟨m, rfl⟩ : ∃ m', m = m' + 1 := ⟨m - 1, by omega⟩
      rw [B_X10_keepLeast_2]
      refine Ok.t ((hLv.1.le hx2).mpr (by omega)) ?_
      exact loop2 C.length 0 0 0 v f (by omega) nm0 (by omega) hLv.1 (fun j hj => hfl j (by omega)) nm0 (fun j hj => absurd hj (Nat.not_lt_zero j)) (fun j _ hj => hLv.2 j hj)
    | succ d ih =>
      intro c x2 v m hc hx2 hm hv hLv hfl
      obtain ⟨m, rfl⟩ : ∃ m', m = m' + 1 := ⟨m - 1, by omega⟩
      have hcl : c < C.length := by omega
      obtain ⟨y, e1, e2⟩ := c_ahead (f := f) hf hv hC hLv hcl hx2
      have e2 : y.toInt = (ahd s C (C.getD c 0) : Int) := e2
      rw [B_X10_keepLeast_2]
      refine Ok.f (fun e => by have := (hLv.1.le hx2).mp e; omega) (Ok.bindE e1 ?_)
      have go : ∀ z : Int32, vp_nar .boolean z = b2i ((ahd s C (C.getD c 0) : Int) < x1.toInt) → Ok (B_X10_keepLeast_29 f (fun x1' x2' u' => B_X10_keepLeast_2 f m x1' x2' u') x1 x2 z x2 v) (fun r => Lst r (C.filter (fun h => decide ((ahd s C h : Int) < x1.toInt)))) := by
        intro z hz
        rw [B_X10_keepLeast_29]
        refine Ok.ck (hx2.ix (by omega)) ?_
        rw [hx2.nat, hz]
        refine ih (c + 1) _ _ m (by omega) (hx2.succ (by omega)) (by omega) (hv.cho (fun a k h1 h2 h3 h4 => g_ne _ _ _ _ h2)) (hLv.fr (g_ne _ _ _ _ (by decide)) (fun k => g_ne _ _ _ _ (by decide))) (fun j hj => ?_)
        rw [g_at]
        by_cases e : j = c
        · subst e; rw [if_pos rfl]
        · rw [if_neg e]; exact hfl j (by omega)
      refine Ok.ite (fun hle => ?_) (fun hle => ?_)
      · have : x1.toInt ≤ y.toInt := i_le.mp hle
        exact go 0 (by rw [b2i_f (by omega)]; rfl)
      · have : ¬ x1.toInt ≤ y.toInt := fun e => hle (i_le.mpr e)
        exact go 1 (by rw [b2i_t (by omega)]; rfl)
  rw [F_X10_keepLeast]
  exact loop1 C.length 0 0 u f (by omega) nm0 (by omega) hW hL (fun j hj => absurd hj (by omega))
theorem c_choose {u : MT} {a1 who : Nat} {num : Int32} (hf : 1300 < f) (hW : WV u s n q) (ha : 128 ≤ a1) (hwho : gK u a1 6 = who) (hw34 : who ≤ 34) (hnum : gI u a1 9 = num) : Ok (F_X10_choose f a1 u) (fun r => Lst r (chl s n who num)) := by
  have h12 := hW.n12
  have loop : ∀ (d k : Nat) (x2 : Int32) (v : MT) (m : Nat), k + d = n → Nm x2 k → d < m → WV v s n q → gK v a1 6 = who → gI v a1 9 = num → Lst v ((List.range k).filter (fun h => can s h && okW who num h)) →
      Ok (B_X10_choose_7 f m a1 x2 v) (fun r => Lst r (chl s n who num)) := by
    intro d
    induction d with
    | zero =>
      intro k x2 v m hk hx hm hv h6 h9 hL
      obtain ⟨m, rfl⟩ : ∃ m', m = m' + 1 := ⟨m - 1, by omega⟩
      have hkn : k = n := by omega
      subst hkn
      have hL : Lst v (ch0 s k who num) := hL
      rw [B_X10_choose_7]
      refine Ok.t ((hv.2.2.2.2.2.2.1.le hx).mpr (Nat.le_refl _)) (Ok.ck (by rw [h6]; exact hw34) ?_)
      rw [h6, h9]
      have hl1 : (gI v 116 12).toInt = ((ch0 s k who num).length : Int) := hL.1
      refine Ok.ite (fun h26 => Ok.ite (fun hle => Ok.some ?_) (fun hle => ?_)) (fun h26 => Ok.some ?_)
      · have := i_le.mp hle
        unfold chl
        rw [if_neg (fun e => by have := e.2; omega)]; exact hL
      · have hlt : ¬ (gI v 116 12).toInt ≤ num.toInt := fun e => hle (i_le.mpr e)
        refine Ok.bind (c_keepLeast hf hv ((Asc_range k).filter _) hL) (fun r hr => Ok.some ?_)
        unfold chl
        rw [if_pos ⟨h26, by omega⟩]; exact hr
      · unfold chl
        rw [if_neg (fun e => h26 e.1)]; exact hL
    | succ d ih =>
      intro k x2 v m hk hx hm hv h6 h9 hL
      obtain ⟨m, rfl⟩ : ∃ m', m = m' + 1 := ⟨m - 1, by omega⟩
      have hkn : k < n := by omega
      have hlen := ((Asc_range k).filter (fun h => can s h && okW who num h)).len
      rw [B_X10_choose_7]
      refine Ok.f (fun e => by have := (hv.2.2.2.2.2.2.1.le hx).mp e; omega) (Ok.bindE (c_room hv hkn hx) ?_)
      dsimp only
      have e0 : (0 : Int32).toInt = 0 := rfl
      have skip : (can s k && okW who num k) = false → Ok (B_X10_choose_64 f (fun a1' x2' u' => B_X10_choose_7 f m a1' x2' u') a1 x2 v) (fun r => Lst r (chl s n who num)) := by
        intro hp
        rw [B_X10_choose_64]
        refine ih (k + 1) _ v m (by omega) (hx.succ (by omega)) (by omega) hv h6 h9 ?_
        rw [List.range_succ, List.filter_append]
        have : [k].filter (fun h => can s h && okW who num h) = [] := by simp only [List.filter, hp]
        rw [this, List.append_nil]; exact hL
      have add : (can s k && okW who num k) = true → Ok (B_X10_choose_44 f (fun a1' x2' u' => B_X10_choose_7 f m a1' x2' u') a1 x2 v) (fun r => Lst r (chl s n who num)) := by
        intro hp
        rw [B_X10_choose_44]
        refine Ok.ck (hL.1.ix (by omega)) ?_
        rw [hL.1.nat]
        dsimp only
        rw [g_ne _ _ _ _ (by decide), B_X10_choose_64]
        refine ih (k + 1) _ _ m (by omega) (hx.succ (by omega)) (by omega) (hv.cho (fun a j h1 h2 h3 h4 => ?_)) h6 ?_ ?_
        · by_cases e : a = 116
          · subst e; rw [g_nk _ _ _ (h4.resolve_left (fun e => e rfl)), g_ne _ _ _ _ (by decide)]
          · rw [g_ne _ _ _ _ e, g_ne _ _ _ _ h1]
        · rw [g_ne _ _ _ _ (by omega), g_ne _ _ _ _ (by omega)]; exact h9
        · rw [List.range_succ, List.filter_append]
          have : [k].filter (fun h => can s h && okW who num h) = [k] := by simp only [List.filter, hp]
          rw [this]; exact hL.push (by omega) hx
      by_cases hr : room s k ≤ 0
      · have := i_le.mp hr
        refine Ok.t hr (skip ?_)
        have : can s k = false := decide_eq_false (by omega)
        rw [this]; rfl
      · have hr' : ¬ (room s k).toInt ≤ 0 := fun e => hr (i_le.mpr (by rw [e0]; exact e))
        have hcan : can s k = true := decide_eq_true (by omega)
        refine Ok.f hr (Ok.ck (by rw [h6]; exact hw34) ?_)
        rw [h6, h9]
        refine Ok.ite (fun h25 => Ok.ite (fun he => add ?_) (fun he => skip ?_)) (fun h25 => add ?_)
        · rw [hcan]; unfold okW
          rw [decide_eq_true (show num.toInt = (k : Int) by rw [he]; exact hx)]; simp
        · rw [hcan]; unfold okW
          rw [decide_eq_false (fun e => he (Int32.toInt_inj.mp (e.trans (show x2.toInt = (k : Int) from hx).symm))), h25]; rfl
        · rw [hcan]; unfold okW
          rw [show (who != 25) = true by simp [h25]]; rfl
  rw [F_X10_choose]
  refine loop n 0 0 _ f (by omega) nm0 (by omega) (hW.cho (fun a k h1 h2 h3 h4 => ?_)) hwho (by rw [g_ne _ _ _ _ (by omega)]; exact hnum) ⟨by rw [g_same]; exact nm0, fun j hj => absurd hj (Nat.not_lt_zero j)⟩
  by_cases e : a = 116
  · subst e; exact g_nk _ _ _ (h4.resolve_left (fun e => e rfl))
  · exact g_ne _ _ _ _ e
end
