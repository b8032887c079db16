/-! ===== the reference: an E's value ===== -/
section
variable {f : Nat} {s : QS} {n q : Nat}
theorem r_partOf {u : MT} (hf : 1300 < f) (h : XV u s n q) {x : Int32} (h1 : -6 < x.toInt) (h2 : x.toInt < 0) : F_X12_partOf f (ono x) u = some (meas s n q x, u) := by
  have hq := h.2.2.2.2.2.1
  have n24 : Nm (24 : Int32) 24 := rfl
  have ho : ono x = -1 - x := by unfold ono; rw [if_neg (by omega), if_pos h1]
  have hoi : (ono x).toInt = -1 - x.toInt := by
    rw [ho]
    have em : (-1 : Int32).toInt = -1 := rfl
    rw [i_sub (by rw [em]; omega) (by rw [em]; omega), em]
  have loop : ∀ (d k : Nat) (x1 x2 : Int32) (m : Nat), k + d = n → Nm x2 k → d < m → x1 = sm (qW s) k → B_X12_partOf_55 f m x1 x2 u = some (sm (qW s) n, u) := by
    intro d
    induction d with
    | zero =>
      intro k x1 x2 m hk hx hm h1
      obtain ⟨m, rfl⟩ : ∃ m', m = m' + 1 := ⟨m - 1, by omega⟩
      rw [B_X12_partOf_55, if_pos ((h.2.2.2.2.2.2.1.le hx).mpr (by omega)), h1, show k = n by omega]
    | succ d ih =>
      intro k x1 x2 m hk hx hm h1
      obtain ⟨m, rfl⟩ : ∃ m', m = m' + 1 := ⟨m - 1, by omega⟩
      have h12 := h.2.2.2.2.2.2.2.1
      rw [B_X12_partOf_55, if_neg (fun e => by have := (h.2.2.2.2.2.2.1.le hx).mp e; omega), ck_p (hx.ix (by omega)), hx.nat, (h.2.2.2.1 k (by omega)).1]
      exact ih (k + 1) _ _ m (by omega) (hx.succ (by omega)) (by omega) (by rw [h1]; rfl)
  have h12 := h.2.2.2.2.2.2.2.1
  have e4 : (4 : Int32).toInt = 4 := rfl
  have e1 : (1 : Int32).toInt = 1 := rfl
  have e2 : (2 : Int32).toInt = 2 := rfl
  have e0 : (0 : Int32).toInt = 0 := rfl
  rw [F_X12_partOf]
  unfold meas
  by_cases c5 : x.toInt = -5
  · rw [if_pos (i_le.mpr (by rw [e4, hoi]; omega)), if_neg (by omega), if_neg (by omega), if_neg (by omega), if_neg (by omega)]
    exact loop n 0 0 0 f (by omega) nm0 (by omega) rfl
  · rw [if_neg (fun e => by have := i_le.mp e; rw [e4, hoi] at this; omega)]
    by_cases c1 : x.toInt = -1
    · rw [if_pos (i_eq.mpr (by rw [e0, hoi]; omega)), if_pos c1, i_ofn (hq.mod n24)]
    · rw [if_neg (fun e => by have := i_eq.mp e; rw [e0, hoi] at this; omega), if_neg c1]
      by_cases c2 : x.toInt = -2
      · rw [if_pos (i_eq.mpr (by rw [e1, hoi]; omega)), if_pos c2, i_ofn (hq.div n24)]
      · rw [if_neg (fun e => by have := i_eq.mp e; rw [e1, hoi] at this; omega), if_neg c2]
        by_cases c3 : x.toInt = -3
        · rw [if_pos (i_eq.mpr (by rw [e2, hoi]; omega)), if_pos c3, h.1]
        · rw [if_neg (fun e => by have := i_eq.mp e; rw [e2, hoi] at this; omega), if_neg c3, if_pos (by omega), h.2.1]
theorem opo_nd {x : Int32} (h : ¬ x.toInt ≤ -6) : (0 ≤ x.toInt ∧ opo x = 1 ∧ ono x = x) ∨ (x.toInt < 0 ∧ opo x = 2) := by
  unfold opo ono
  by_cases h0 : 0 ≤ x.toInt
  · rw [if_pos h0, if_pos h0]; exact Or.inl ⟨h0, rfl, rfl⟩
  · rw [if_neg h0, if_pos (by omega)]; exact Or.inr ⟨by omega, rfl⟩
/-- a joint in the reference -/
theorem r_op {j13 : Int32 → Int32 → MT → Option (Int32 × MT)} {u : MT} {x a b x2 x3 : Int32} {r : List Int32} (hop : x.toInt ≤ -6) (hvx : -9 ≤ x.toInt) (hS : Pile u 211 (b :: a :: r)) (h3 : Nm x3 (r.length + 1 + 1)) (hr : r.length + 1 < 700) (hr' : r.length < 700) {P : Int32 × MT → Prop}
    (hk : Ok (j13 (x2 + 1) (x3 + (-1)) (sI u 211 r.length (jn x a b))) P) :
    Ok (if opo x = (1 : Int32) then B_X12_worth_42 f j13 x2 x3 (opo x) u else if opo x = (2 : Int32) then B_X12_worth_42 f j13 x2 x3 (opo x) u else
        ck (ixo (x3 + (-1)) 700) (ck (ixo (x3 + (-1) - (1 : Int32)) 700)
          (if opo x = (3 : Int32) then B_X12_worth_168 f j13 x2 (x3 + (-1)) ((gI u 211 (x3 + (-1) - (1 : Int32)).toNatClampNeg) + (gI u 211 (x3 + (-1)).toNatClampNeg)) (x3 + (-1) - (1 : Int32)) u
           else if opo x = (4 : Int32) then B_X12_worth_168 f j13 x2 (x3 + (-1)) ((gI u 211 (x3 + (-1) - (1 : Int32)).toNatClampNeg) - (gI u 211 (x3 + (-1)).toNatClampNeg)) (x3 + (-1) - (1 : Int32)) u
           else if opo x = (5 : Int32) then (if (gI u 211 (x3 + (-1)).toNatClampNeg) ≤ (gI u 211 (x3 + (-1) - (1 : Int32)).toNatClampNeg) then B_X12_worth_168 f j13 x2 (x3 + (-1)) 0 (x3 + (-1) - (1 : Int32)) u else B_X12_worth_168 f j13 x2 (x3 + (-1)) 1 (x3 + (-1) - (1 : Int32)) u)
           else if (gI u 211 (x3 + (-1) - (1 : Int32)).toNatClampNeg) = (gI u 211 (x3 + (-1)).toNatClampNeg) then B_X12_worth_168 f j13 x2 (x3 + (-1)) 1 (x3 + (-1) - (1 : Int32)) u else B_X12_worth_168 f j13 x2 (x3 + (-1)) 0 (x3 + (-1) - (1 : Int32)) u))) P := by
  have h4p : Nm (x3 + (-1)) (r.length + 1) := Nm.predn h3
  have h4q : Nm (x3 + (-1) - 1) r.length := Nm.pred h4p
  obtain ⟨p1, p2, _⟩ := hS.pop (v := jn x a b)
  have go : ∀ y, y = jn x a b → Ok (B_X12_worth_168 f j13 x2 (x3 + (-1)) y (x3 + (-1) - (1 : Int32)) u) P := fun y hy => by
    rw [B_X12_worth_168]
    refine Ok.ck (h4q.ix hr') ?_
    rw [h4q.nat, B_X12_worth_169, hy]
    exact hk
  have cases4 : (x.toInt = -6 ∧ opo x = 3) ∨ (x.toInt = -7 ∧ opo x = 4) ∨ (x.toInt = -8 ∧ opo x = 5) ∨ (x.toInt = -9 ∧ opo x = 6) := by
    unfold opo
    rw [if_neg (show ¬ 0 ≤ x.toInt by omega), if_neg (show ¬ -6 < x.toInt by omega)]
    by_cases h6 : x.toInt = -6
    · rw [if_pos h6]; exact Or.inl ⟨h6, rfl⟩
    · rw [if_neg h6]
      by_cases h7 : x.toInt = -7
      · rw [if_pos h7]; exact Or.inr (Or.inl ⟨h7, rfl⟩)
      · rw [if_neg h7]
        by_cases h8 : x.toInt = -8
        · rw [if_pos h8]; exact Or.inr (Or.inr (Or.inl ⟨h8, rfl⟩))
        · rw [if_neg h8]; exact Or.inr (Or.inr (Or.inr ⟨by omega, rfl⟩))
  rcases cases4 with ⟨e, eo⟩ | ⟨e, eo⟩ | ⟨e, eo⟩ | ⟨e, eo⟩
  · rw [eo]
    refine Ok.f (by decide) (Ok.f (by decide) (Ok.ck (h4p.ix hr) (Ok.ck (h4q.ix hr') (Ok.t rfl ?_))))
    rw [h4q.nat, h4p.nat, p1, p2]
    exact go _ (by unfold jn; rw [if_pos e])
  · rw [eo]
    refine Ok.f (by decide) (Ok.f (by decide) (Ok.ck (h4p.ix hr) (Ok.ck (h4q.ix hr') (Ok.f (by decide) (Ok.t rfl ?_)))))
    rw [h4q.nat, h4p.nat, p1, p2]
    exact go _ (by unfold jn; rw [if_neg (by omega), if_pos e])
  · rw [eo]
    refine Ok.f (by decide) (Ok.f (by decide) (Ok.ck (h4p.ix hr) (Ok.ck (h4q.ix hr') (Ok.f (by decide) (Ok.f (by decide) (Ok.t rfl ?_))))))
    rw [h4q.nat, h4p.nat, p1, p2]
    refine Ok.ite (fun hc => go _ ?_) (fun hc => go _ ?_)
    · have := i_le.mp hc
      unfold jn; rw [if_neg (by omega), if_neg (by omega), if_pos e, if_neg (by omega)]
    · have : ¬ b.toInt ≤ a.toInt := fun e => hc (i_le.mpr e)
      unfold jn; rw [if_neg (by omega), if_neg (by omega), if_pos e, if_pos (by omega)]
  · rw [eo]
    refine Ok.f (by decide) (Ok.f (by decide) (Ok.ck (h4p.ix hr) (Ok.ck (h4q.ix hr') (Ok.f (by decide) (Ok.f (by decide) (Ok.f (by decide) ?_))))))
    rw [h4q.nat, h4p.nat, p1, p2]
    refine Ok.ite (fun hc => go _ ?_) (fun hc => go _ ?_)
    · unfold jn; rw [if_neg (by omega), if_neg (by omega), if_neg (by omega), if_pos hc]
    · unfold jn; rw [if_neg (by omega), if_neg (by omega), if_neg (by omega), if_neg hc]
theorem XV.pile {u : MT} (h : XV u s n q) (k : Nat) (y : Int32) : XV (sI u 211 k y) s n q := h.fr (fun k _ => g_ne _ _ _ _ (by decide)) (fun a ha k => g_ne _ _ _ _ (by omega))
theorem len2 {st : List Int32} (h : 2 ≤ st.length) : ∃ b a r, st = b :: a :: r := by
  match st, h with
  | b :: a :: r, _ => exact ⟨b, a, r, rfl⟩
theorem r_value (hf : 1300 < f) : ∀ (l st : List Int32) (i : Nat) (x2 x3 : Int32) (u : MT) (m : Nat), XV u s n q → (∀ x ∈ l, vit x) → hts l st.length = some 1 → st.length ≤ 14 → Pile u 211 st → Nm x2 i → Nm x3 st.length → i + l.length < 10400 → l.length < m → (∀ k, k < l.length → gI u 182 (i + k) = opo (l.getD k 0) ∧ gI u 183 (i + k) = ono (l.getD k 0)) → gI u 182 (i + l.length) = 0 →
    Ok (B_X12_worth_13 f m x2 x3 u) (fun r => r.1 = (evm (meas s n q) l st).getD 0 0) := by
  intro l
  induction l with
  | nil =>
    intro st i x2 x3 u m hX _ hh hst hS h2 h3 hi hm hc hz
    obtain ⟨m, rfl⟩ : ∃ m', m = m' + 1 := ⟨m - 1, by omega⟩
    have hi : i + 0 < 10400 := hi
    have hz : gI u 182 (i + 0) = 0 := hz
    rw [B_X12_worth_13]
    refine Ok.ck (h2.ix (by omega)) ?_
    rw [h2.nat]
    refine Ok.t hz (Ok.some ?_)
    have h1 : st.length = 1 := by rw [hts] at hh; exact Option.some.inj hh
    have h2 := hS 0 (by omega)
    rw [h1] at h2
    exact h2
  | cons x l ih =>
    intro st i x2 x3 u m hX hv hh hst hS h2 h3 hi hm hc hz
    rw [List.length_cons] at hi hm hz
    obtain ⟨m, rfl⟩ : ∃ m', m = m' + 1 := ⟨m - 1, by omega⟩
    have hx := hc 0 (by rw [List.length_cons]; omega)
    have hx1 : gI u 182 i = opo x := hx.1
    have hx2 : gI u 183 i = ono x := hx.2
    have hvx : -9 ≤ x.toInt := hv x (by simp)
    have hv' : ∀ y ∈ l, vit y := fun y hy => hv y (by simp [hy])
    have hcn : ∀ (k0 : Nat) (y : Int32), (∀ k, k < l.length → gI (sI u 211 k0 y) 182 (i + 1 + k) = opo (l.getD k 0) ∧ gI (sI u 211 k0 y) 183 (i + 1 + k) = ono (l.getD k 0)) ∧ gI (sI u 211 k0 y) 182 (i + 1 + l.length) = 0 := fun k0 y => by
      refine ⟨fun k hk => ?_, ?_⟩
      · rw [g_ne _ _ _ _ (by decide), g_ne _ _ _ _ (by decide), show i + 1 + k = i + (k + 1) by omega]
        exact hc (k + 1) (by rw [List.length_cons]; omega)
      · rw [g_ne _ _ _ _ (by decide), show i + 1 + l.length = i + (l.length + 1) by omega]; exact hz
    have q1 : i + 1 + l.length < 10400 := by omega
    have q2 : l.length < m := by omega
    have q3 : i < 1000000000 := by omega
    have hne : ¬ opo x = 0 := by unfold opo; split; decide; split; decide; split; decide; split; decide; split; decide; decide
    rw [B_X12_worth_13]
    refine Ok.ck (h2.ix (by omega)) ?_
    rw [h2.nat, hx1]
    refine Ok.f hne ?_
    rcases hts_c hh with ⟨hop, hl2, hh'⟩ | ⟨hop, h14, hh'⟩
    · obtain ⟨b, a, r, rfl⟩ := len2 hl2
      rw [List.length_cons, List.length_cons] at h3 hh' hst
      have l1 : r.length + 1 < 14 := Nat.lt_of_succ_le hst
      refine r_op hop hvx hS h3 (Nat.lt_trans l1 (by decide)) (Nat.lt_trans (Nat.lt_of_succ_lt l1) (by decide)) ?_
      rw [evm_op hop]
      have hh2 : hts l (jn x a b :: r).length = some 1 := hh'
      have h4p : Nm (x3 + (-1)) (jn x a b :: r).length := Nm.predn h3
      exact ih (jn x a b :: r) (i + 1) (x2 + 1) (x3 + (-1)) _ m (hX.pile _ _) hv' hh2 (Nat.le_of_lt l1) (hS.pop).2.2 (h2.succ q3) h4p q1 q2 (hcn _ _).1 (hcn _ _).2
    · have go : ∀ y : Int32, y = (if 0 ≤ x.toInt then x else meas s n q x) → Ok (B_X12_worth_72 f (fun x2' x3' u' => B_X12_worth_13 f m x2' x3' u') x2 x3 y x3 u) (fun r => r.1 = (evm (meas s n q) (x :: l) st).getD 0 0) := by
        intro y hy
        rw [B_X12_worth_72]
        refine Ok.ck (h3.ix (by omega)) ?_
        rw [h3.nat, evm_nd hop, ← hy]
        have hh2 : hts l (y :: st).length = some 1 := hh'
        have h3s : Nm (x3 + 1) (y :: st).length := h3.succ (by omega)
        exact ih (y :: st) (i + 1) (x2 + 1) (x3 + 1) _ m (hX.pile _ _) hv' hh2 (by rw [List.length_cons]; omega) (hS.push y) (h2.succ q3) h3s q1 q2 (hcn _ _).1 (hcn _ _).2
      rcases opo_nd hop with ⟨h0, eo, en⟩ | ⟨h0, eo⟩
      · rw [eo]
        refine Ok.t rfl ?_
        rw [B_X12_worth_42]
        refine Ok.t rfl (Ok.ck (h2.ix (by omega)) ?_)
        rw [h2.nat, hx2, en]
        exact go x (by rw [if_pos h0])
      · rw [eo]
        refine Ok.f (by decide) (Ok.t rfl ?_)
        rw [B_X12_worth_42]
        refine Ok.f (by decide) (Ok.ck (h2.ix (by omega)) ?_)
        rw [h2.nat, hx2]
        exact Ok.bindE (r_partOf hf hX (by omega) h0) (go _ (by rw [if_neg (by omega)]))
/-- an E of the reference's text: in slot t (cb = 1300 t), begun at a -/
theorem r_val {u : MT} {t a c : Nat} {x : Int32} {l : List Int32} (hf : 1300 < f) (hX : XV u s n q) (hl : codeOk l) (hne : l ≠ []) (ht : Nm (gI u 167 44) t) (ht7 : t ≤ 7) (hx : codR u (1300 * t) c x l) (hc : c ≤ 1300) : Ok (F_X12_worth f x u) (fun r => r.1 = evv s n q l) := by
  rcases hl with e | ⟨h1, h2⟩
  · exact absurd e hne
  · obtain ⟨a, ha, hac, hs1, hs2⟩ := hx.2 hne
    have hi : Nm ((1300 : Int32) * gI u 167 44 + x) (1300 * t + a) := Nm.add (Nm.mul (show Nm (1300 : Int32) 1300 from rfl) ht (by omega)) ha (by omega)
    rw [F_X12_worth]
    have q1 : 1300 * t + a + l.length < 10400 := by omega
    have q2 : l.length < f := by omega
    exact r_value hf l [] (1300 * t + a) _ 0 u f hX h2 h1 (by show 0 ≤ 14; omega) (fun j hj => absurd hj (Nat.not_lt_zero j)) hi nm0 q1 q2 hs1 hs2
end
