/-! ===== the class: the rest, most first, and a whole giving ===== -/
theorem isrt_app {w : Nat → Int32} {h : Nat} : ∀ (l acc : List Nat), isrt w (l ++ [h]) acc = ins w h (isrt w l acc) := by
  intro l
  induction l with
  | nil => intro acc; rfl
  | cons x l ih => intro acc; exact ih _
theorem isrt_len {w : Nat → Int32} : ∀ (l acc : List Nat), (isrt w l acc).length = l.length + acc.length := by
  intro l
  induction l with
  | nil => intro acc; show acc.length = 0 + acc.length; omega
  | cons x l ih => intro acc; show (isrt w l (ins w x acc)).length = _; rw [ih, ins_len]; show l.length + (acc.length + 1) = l.length + 1 + acc.length; omega
theorem isrt_mem {w : Nat → Int32} {y : Nat} : ∀ (l acc : List Nat), y ∈ isrt w l acc ↔ y ∈ l ∨ y ∈ acc := by
  intro l
  induction l with
  | nil => intro acc; show y ∈ acc ↔ _; simp
  | cons x l ih =>
    intro acc
    show y ∈ isrt w l (ins w x acc) ↔ _
    rw [ih, ins_mem, List.mem_cons]
    constructor
    · rintro (e | e | e)
      · exact Or.inl (Or.inr e)
      · exact Or.inl (Or.inl e)
      · exact Or.inr e
    · rintro ((e | e) | e)
      · exact Or.inr (Or.inl e)
      · exact Or.inl e
      · exact Or.inr (Or.inr e)
theorem isrt_dsc {w : Nat → Int32} : ∀ (l acc : List Nat), Dsc w acc → Dsc w (isrt w l acc) := by
  intro l
  induction l with
  | nil => intro acc h; exact h
  | cons x l ih => intro acc h; exact ih _ (ins_dsc acc h)
section
variable {f : Nat} {s : QS} {n q : Nat}
theorem c_sort_in {j2 : Int32 → MT → Option MT} {S : List Nat} {h c : Nat} {x1 x2 : Int32} (hx1 : Nm x1 c) (hx2 : Nm x2 h) (hhn : h < n) (hSn : ∀ x ∈ S, x < n) (hSc : S.length = c) (hc12 : c < 12) (hD : Dsc (qW s) S) {P : MT → Prop} {v0 : MT}
    (hk : ∀ v : MT, WV v s n q → (∀ a k, a ≠ 122 → gI v a k = gI v0 a k) → (∀ j, j < c + 1 → Nm (gI v 122 j) ((ins (qW s) h S).getD j 0)) → (∀ j, c < j → gI v 122 j = gI v0 122 j) → Ok (j2 (x1 + 1) v) P) :
    ∀ (t : Nat) (x3 : Int32) (v : MT) (m : Nat), Nm x3 t → t ≤ c → t < m → WV v s n q → (∀ a k, a ≠ 122 → gI v a k = gI v0 a k) → (∀ j, c < j → gI v 122 j = gI v0 122 j) → (∀ j, j < t → Nm (gI v 122 j) (S.getD j 0)) → (∀ j, t < j → j ≤ c → Nm (gI v 122 j) (S.getD (j - 1) 0)) → (∀ j, t ≤ j → j < c → (qW s (S.getD j 0)).toInt < (qW s h).toInt) →
      Ok (B_X10_sortByWant_19 f j2 m x1 x2 x3 v) P := by
  -- the house is laid at t
  have lay : ∀ (t : Nat) (x3 : Int32) (v : MT), Nm x3 t → t ≤ c → WV v s n q → (∀ a k, a ≠ 122 → gI v a k = gI v0 a k) → (∀ j, c < j → gI v 122 j = gI v0 122 j) → (∀ j, j < t → Nm (gI v 122 j) (S.getD j 0)) → (∀ j, t < j → j ≤ c → Nm (gI v 122 j) (S.getD (j - 1) 0)) → (∀ j, t ≤ j → j < c → (qW s (S.getD j 0)).toInt < (qW s h).toInt) → (∀ j, j < t → ¬ (qW s (S.getD j 0)).toInt < (qW s h).toInt) →
      Ok (B_X10_sortByWant_65 f j2 x1 x2 x3 v) P := by
    intro t x3 v h3 htc hv hfr hout hlo hhi hlt hge
    rw [B_X10_sortByWant_65]
    refine Ok.ck (h3.ix (by omega)) ?_
    rw [h3.nat]
    have hins : ins (qW s) h S = S.take t ++ h :: S.drop t := by
      have := ins_split (w := qW s) (h := h) (S.take t) (S.drop t) (fun x hx => ?_) (fun x hx => ?_)
      · rw [List.take_append_drop] at this; exact this
      · obtain ⟨j, hj, e⟩ := List.getElem_of_mem hx
        rw [List.length_take] at hj
        rw [List.getElem_take] at e
        have := hge j (by omega)
        rw [show S.getD j 0 = x by rw [← e]; simp [List.getD, List.getElem?_eq_getElem (show j < S.length by omega)]] at this
        exact this
      · rw [List.head?_drop] at hx
        have hlt' : t < S.length := by
          by_cases e : t < S.length
          · exact e
          · rw [List.getElem?_eq_none (by omega)] at hx; cases hx
        have := hlt t (Nat.le_refl _) (by omega)
        rw [show S.getD t 0 = x by simp [List.getD, hx]] at this
        exact this
    refine hk _ (hv.cho (fun a k h1 h2 h3 h4 => g_ne _ _ _ _ h1)) (fun a k ha => by rw [g_ne _ _ _ _ ha]; exact hfr a k ha) (fun j hj => ?_) (fun j hj => by rw [g_nk _ _ _ (by omega)]; exact hout j hj)
    rw [hins, g_at]
    have hlt' : (S.take t).length = t := by rw [List.length_take]; omega
    by_cases e : j = t
    · subst e
      rw [if_pos rfl, show (S.take j ++ h :: S.drop j).getD j 0 = h by simp [List.getD, List.getElem?_append_right (show (S.take j).length ≤ j by omega), hlt']]
      exact hx2
    · rw [if_neg e]
      by_cases e2 : j < t
      · rw [show (S.take t ++ h :: S.drop t).getD j 0 = S.getD j 0 by simp [List.getD, List.getElem?_append_left (show j < (S.take t).length by omega), List.getElem?_take, e2]]
        exact hlo j e2
      · rw [show (S.take t ++ h :: S.drop t).getD j 0 = S.getD (j - 1) 0 by
          simp only [List.getD]
          rw [List.getElem?_append_right (by omega), hlt', show j - t = (j - 1 - t) + 1 by omega, List.getElem?_cons_succ, List.getElem?_drop, show t + (j - 1 - t) = j - 1 by omega]]
        exact hhi j (by omega) (by omega)
  intro t
  induction t with
  | zero =>
    intro x3 v m h3 htc hm hv hfr hout hlo hhi hlt
    obtain ⟨m, rfl⟩ : ∃ m', m = m' + 1 := ⟨m - 1, by omega⟩
    rw [B_X10_sortByWant_19]
    refine Ok.t ((h3.le nm0).mpr (Nat.le_refl _)) (lay 0 x3 v h3 htc hv hfr hout hlo hhi hlt (fun j hj => absurd hj (Nat.not_lt_zero j)))
  | succ t ih =>
    intro x3 v m h3 htc hm hv hfr hout hlo hhi hlt
    obtain ⟨m, rfl⟩ : ∃ m', m = m' + 1 := ⟨m - 1, by omega⟩
    have h12 := hv.n12
    have hp : Nm (x3 - 1) t := h3.pred
    have hst := hlo t (by omega)
    have hSt : S.getD t 0 < n := hSn _ (getD_mem (by omega))
    rw [B_X10_sortByWant_19]
    refine Ok.f (fun e => by have := (h3.le nm0).mp e; omega) (Ok.ck (hp.ix (by omega)) ?_)
    rw [hp.nat]
    refine Ok.ck (hst.ix (by omega)) (Ok.ck (hx2.ix (by omega)) ?_)
    rw [hst.nat, hx2.nat, (hv.2.2.2.1 _ hSt).1, (hv.2.2.2.1 _ hhn).1]
    refine Ok.ite (fun hle => ?_) (fun hle => ?_)
    · have hle := i_le.mp hle
      refine lay (t + 1) x3 v h3 htc hv hfr hout hlo hhi hlt (fun j hj => ?_)
      by_cases e : j = t
      · subst e; omega
      · have hpw := List.pairwise_iff_getElem.mp hD j t (by omega) (by omega) (by omega)
        have e1 : S.getD j 0 = S[j]'(by omega) := by simp [List.getD, List.getElem?_eq_getElem (show j < S.length by omega)]
        have e2 : S.getD t 0 = S[t]'(by omega) := by simp [List.getD, List.getElem?_eq_getElem (show t < S.length by omega)]
        rw [e2] at hle
        rw [e1]
        omega
    · have hgt : (qW s (S.getD t 0)).toInt < (qW s h).toInt := Int.not_le.mp (fun e => hle (i_le.mpr e))
      refine Ok.ck (h3.ix (by omega)) ?_
      rw [h3.nat]
      refine ih _ _ m (Nm.predn h3) (by omega) (by omega) (hv.cho (fun a k h1 h2 h3 h4 => g_ne _ _ _ _ h1)) (fun a k ha => by rw [g_ne _ _ _ _ ha]; exact hfr a k ha) (fun j hj => by rw [g_nk _ _ _ (by omega)]; exact hout j hj) (fun j hj => by rw [g_nk _ _ _ (by omega)]; exact hlo j (by omega)) (fun j h1 h2 => ?_) (fun j h1 h2 => ?_)
      · rw [g_at]
        by_cases e : j = t + 1
        · subst e; rw [if_pos rfl]; exact hst
        · rw [if_neg e]; exact hhi j (by omega) h2
      · by_cases e : j = t
        · subst e; exact hgt
        · exact hlt j (by omega) h2
theorem c_sortByWant {u : MT} (hf : 1300 < f) (hW : WV u s n q) {C : List Nat} (hCn : ∀ x ∈ C, x < n) (hC12 : C.length ≤ 12) (hL : Lst u C) : Ok (F_X10_sortByWant f u) (fun r => Lst r (isrt (qW s) C [])) := by
  have h12 := hW.n12
  have loop : ∀ (d c : Nat) (x1 : Int32) (v : MT) (m : Nat), c + d = C.length → 1 ≤ c → Nm x1 c → d < m → WV v s n q → Nm (gI v 116 12) C.length → (∀ j, j < c → Nm (gI v 122 j) ((isrt (qW s) (C.take c) []).getD j 0)) → (∀ j, c ≤ j → j < C.length → Nm (gI v 122 j) (C.getD j 0)) →
      Ok (B_X10_sortByWant_2 f m x1 v) (fun r => Lst r (isrt (qW s) C [])) := by
    intro d
    induction d with
    | zero =>
      intro c x1 v m hc hc1 hx hm hv hn hlo hhi
      obtain ⟨m, rfl⟩ : ∃ m', m = m' + 1 := ⟨m - 1, by omega⟩
      rw [B_X10_sortByWant_2]
      refine Ok.t ((hn.le hx).mpr (by omega)) (Ok.some ?_)
      rw [List.take_of_length_le (by omega)] at hlo
      have hl : (isrt (qW s) C []).length = C.length := by rw [isrt_len]; rfl
      exact ⟨by rw [hl]; exact hn, fun j hj => hlo j (by omega)⟩
    | succ d ih =>
      intro c x1 v m hc hc1 hx hm hv hn hlo hhi
      obtain ⟨m, rfl⟩ : ∃ m', m = m' + 1 := ⟨m - 1, by omega⟩
      have hcl : c < C.length := by omega
      have hcc := hhi c (Nat.le_refl _) hcl
      have hSl : (isrt (qW s) (C.take c) []).length = c := by rw [isrt_len, List.length_take]; show min c C.length + 0 = c; omega
      rw [B_X10_sortByWant_2]
      refine Ok.f (fun e => by have := (hn.le hx).mp e; omega) (Ok.ck (hx.ix (by omega)) ?_)
      rw [hx.nat]
      refine c_sort_in (v0 := v) (S := isrt (qW s) (C.take c) []) hx hcc (hCn _ (getD_mem hcl)) (fun x hx' => ?_) hSl (by omega) (isrt_dsc _ _ List.Pairwise.nil) (fun w hw hfw hpre hout => ?_) c x1 v f hx (Nat.le_refl _) (by omega) hv (fun _ _ _ => rfl) (fun _ _ => rfl) hlo (fun j h1 h2 => absurd h1 (by omega)) (fun j h1 h2 => absurd h1 (by omega))
      · rcases (isrt_mem _ _).mp hx' with e | e
        · exact hCn x (List.mem_of_mem_take e)
        · cases e
      · refine ih (c + 1) (x1 + 1) w m (by omega) (by omega) (hx.succ (by omega)) (by omega) hw (by rw [hfw _ _ (by decide)]; exact hn) (fun j hj => ?_) (fun j h1 h2 => by rw [hout j (by omega)]; exact hhi j (by omega) h2)
        rw [take_snoc (d := 0) hcl, isrt_app]
        exact hpre j hj
  rw [F_X10_sortByWant]
  by_cases h0 : C.length = 0
  · obtain ⟨f', hf'⟩ : ∃ f', f = f' + 1 := ⟨f - 1, by omega⟩
    have hnil : C = [] := List.eq_nil_of_length_eq_zero h0
    subst hnil
    rw [hf', B_X10_sortByWant_2]
    refine Ok.t ((hL.1.le (show Nm (1 : Int32) 1 from rfl)).mpr (by show 0 ≤ 1; omega)) (Ok.some hL)
  · refine loop (C.length - 1) 1 1 u f (by omega) (Nat.le_refl _) rfl (by omega) hW hL.1 (fun j hj => ?_) (fun j _ hj => hL.2 j hj)
    have : j = 0 := by omega
    subst this
    have := take_snoc (C := C) (d := 0) (show 0 < C.length by omega)
    rw [this]
    exact hL.2 0 (by omega)
end
