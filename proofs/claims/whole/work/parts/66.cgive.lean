/-! ===== the class gives ===== -/
theorem wsum_app {w : Nat → Int32} {h : Nat} : ∀ (l : List Nat) (t : Int64), wsum w (l ++ [h]) t = wsum w l t + (w h).toInt64 := by
  intro l
  induction l with
  | nil => intro t; rfl
  | cons x l ih => intro t; exact ih _
theorem gvl_app {src : Nat} {a : Int32} {w : Nat → Int32} {tot : Int64} {h : Nat} : ∀ (l : List Nat) (p : QS × Int32), gvl src a w tot (l ++ [h]) p = (hnd (gvl src a w tot l p).1 src h (gvp a w tot (room (gvl src a w tot l p).1 h) h), (gvl src a w tot l p).2 - gvp a w tot (room (gvl src a w tot l p).1 h) h) := by
  intro l
  induction l with
  | nil => intro p; rfl
  | cons x l ih => intro p; exact ih _
theorem ons_app {src : Nat} {l' : List Nat} : ∀ (l : List Nat) (p : QS × Int32), ons src (l ++ l') p = ons src l' (ons src l p) := by
  intro l
  induction l with
  | nil => intro p; rfl
  | cons x l ih =>
    intro p
    show (if 0 < p.2.toInt ∧ can p.1 x = true then ons src (l ++ l') _ else ons src (l ++ l') p) = ons src l' (if 0 < p.2.toInt ∧ can p.1 x = true then ons src l _ else ons src l p)
    split
    · exact ih _
    · exact ih _
section
variable {f : Nat} {s : QS} {n q : Nat}
theorem c_weigh {u : MT} {way : Nat} {sh : Nat → Int32} (hf : 1300 < f) (hW : WV u s n q) {C : List Nat} (hC : Asc n C) (hL : Lst u C) (hway : way ≤ 34) (hsh : ∀ h, h < n → gI u 102 h = sh h) : Ok (F_X10_weigh f way u) (fun r => r.1 = wsum (wgt s sh way) C 0 ∧ ∀ j, j < C.length → gI r.2 124 (C.getD j 0) = wgt s sh way (C.getD j 0)) := by
  have h12 := hW.n12
  have hlen := hC.len
  have loop : ∀ (d c : Nat) (x2 : Int64) (x4 : Int32) (v : MT) (m : Nat), c + d = C.length → Nm x4 c → d < m → WV v s n q → Lst v C → (∀ h, h < n → gI v 102 h = sh h) → x2 = wsum (wgt s sh way) (C.take c) 0 → (∀ j, j < c → gI v 124 (C.getD j 0) = wgt s sh way (C.getD j 0)) →
      Ok (B_X10_weigh_5 f m way x2 x4 v) (fun r => r.1 = wsum (wgt s sh way) C 0 ∧ ∀ j, j < C.length → gI r.2 124 (C.getD j 0) = wgt s sh way (C.getD j 0)) := by
    intro d
    induction d with
    | zero =>
      intro c x2 x4 v m hc hx4 hm hv hLv hs2 h2 hw
      obtain ⟨m, rfl⟩ : ∃ m', m = m' + 1 := ⟨m - 1, by omega⟩
      rw [B_X10_weigh_5]
      refine Ok.t ((hLv.1.le hx4).mpr (by omega)) (Ok.some ⟨?_, fun j hj => hw j (by omega)⟩)
      rw [List.take_of_length_le (by omega)] at h2; exact h2
    | succ d ih =>
      intro c x2 x4 v m hc hx4 hm hv hLv hs2 h2 hw
      obtain ⟨m, rfl⟩ : ∃ m', m = m' + 1 := ⟨m - 1, by omega⟩
      have hcl : c < C.length := by omega
      have hcn : C.getD c 0 < n := hC.2 _ (getD_mem hcl)
      have hcc := hLv.2 c hcl
      -- a weight has been laid
      have go : ∀ y : Int32, y = wgt s sh way (C.getD c 0) → Ok (B_X10_weigh_74 f (fun a1' x2' x4' u' => B_X10_weigh_5 f m a1' x2' x4' u') way x2 x4 (gI v 122 c) (sI v 124 (C.getD c 0) y)) (fun r => r.1 = wsum (wgt s sh way) C 0 ∧ ∀ j, j < C.length → gI r.2 124 (C.getD j 0) = wgt s sh way (C.getD j 0)) := by
        intro y hy
        rw [B_X10_weigh_74]
        refine Ok.ck (hcc.ix (by omega)) ?_
        rw [hcc.nat, g_same]
        refine ih (c + 1) _ _ _ m (by omega) (hx4.succ (by omega)) (by omega) (hv.cho (fun a k h1 h2 h3 h4 => g_ne _ _ _ _ h3)) (hLv.fr (g_ne _ _ _ _ (by decide)) (fun k => g_ne _ _ _ _ (by decide))) (fun h hh => by rw [g_ne _ _ _ _ (by decide)]; exact hs2 h hh) ?_ (fun j hj => ?_)
        · rw [take_snoc (d := 0) hcl, wsum_app, h2, hy]
        · rw [g_at]
          by_cases e : C.getD j 0 = C.getD c 0
          · rw [if_pos e, e, hy]
          · rw [if_neg e]
            exact hw j (by
              by_cases e2 : j = c
              · subst e2; exact absurd rfl e
              · omega)
      rw [B_X10_weigh_5]
      refine Ok.f (fun e => by have := (hLv.1.le hx4).mp e; omega) (Ok.ck (hx4.ix (by omega)) ?_)
      rw [hx4.nat]
      dsimp only
      refine Ok.ck hway (Ok.ite (fun h27 => Ok.ck (hcc.ix (by omega)) ?_) (fun h27 => Ok.ite (fun h28 => ?_) (fun h28 => Ok.ck (hcc.ix (by omega)) ?_)))
      · have hy : (1 : Int32) = wgt s sh way (C.getD c 0) := by unfold wgt; rw [if_pos h27]
        rw [hcc.nat]
        exact go 1 hy
      · refine Ok.bindE (c_room hv hcn hcc) ?_
        rw [B_X10_weigh_73]
        refine Ok.ck (hcc.ix (by omega)) ?_
        have hy : room s (C.getD c 0) = wgt s sh way (C.getD c 0) := by unfold wgt; rw [if_neg h27, if_pos h28]
        rw [hcc.nat]
        exact go _ hy
      · rw [B_X10_weigh_73]
        refine Ok.ck (hcc.ix (by omega)) ?_
        have hy : gI v 102 (C.getD c 0) = wgt s sh way (C.getD c 0) := by unfold wgt; rw [if_neg h27, if_neg h28]; exact hs2 _ hcn
        rw [hcc.nat]
        exact go _ hy
  rw [F_X10_weigh]
  exact loop C.length 0 0 0 u f (by omega) nm0 (by omega) hW hL hsh rfl (fun j hj => absurd hj (by omega))
/-- ones, in a span of numbers -/
theorem c_handOnes {a1 src : Nat} {x2 : Int32} (hf : 1300 < f) (ha : 128 ≤ a1) (hs34 : src ≤ 34) {C : List Nat} (hCn : ∀ x ∈ C, x < n) (hC12 : C.length ≤ 12) {from' below : Nat} {x4 x5 : Int32} (h4 : Nm x4 from') (h5 : Nm x5 below) :
    ∀ (u : MT) (x3 : Int32), WV u s n q → Lst u C → gK u a1 5 = src → Ok (F_X10_handOnes f a1 x2 x3 x4 x5 u) (fun r => r.1 = (ons src (C.filter (fun h => decide (from' ≤ h) && decide (h < below))) (s, x3)).2 ∧ WV r.2 (ons src (C.filter (fun h => decide (from' ≤ h) && decide (h < below))) (s, x3)).1 n q ∧ WD x2 n u s r.2 (ons src (C.filter (fun h => decide (from' ≤ h) && decide (h < below))) (s, x3)).1) := by
  intro u x3 hW hL hsrc
  have h12 := hW.n12
  have loop : ∀ (d c : Nat) (x6 x7 : Int32) (v : MT) (s' : QS) (m : Nat), c + d = C.length → Nm x7 c → d < m → WV v s' n q → Lst v C → gK v a1 5 = src → WD x2 n u s v s' → ons src ((C.take c).filter (fun h => decide (from' ≤ h) && decide (h < below))) (s, x3) = (s', x6) →
      Ok (B_X10_handOnes_6 f m a1 x2 x4 x5 x6 x7 v) (fun r => r.1 = (ons src (C.filter (fun h => decide (from' ≤ h) && decide (h < below))) (s, x3)).2 ∧ WV r.2 (ons src (C.filter (fun h => decide (from' ≤ h) && decide (h < below))) (s, x3)).1 n q ∧ WD x2 n u s r.2 (ons src (C.filter (fun h => decide (from' ≤ h) && decide (h < below))) (s, x3)).1) := by
    intro d
    induction d with
    | zero =>
      intro c x6 x7 v s' m hc hx7 hm hv hLv hk hD he
      obtain ⟨m, rfl⟩ : ∃ m', m = m' + 1 := ⟨m - 1, by omega⟩
      rw [B_X10_handOnes_6]
      refine Ok.t ((hLv.1.le hx7).mpr (by omega)) (Ok.some ?_)
      rw [List.take_of_length_le (by omega)] at he
      rw [he]
      exact ⟨rfl, hv, hD⟩
    | succ d ih =>
      intro c x6 x7 v s' m hc hx7 hm hv hLv hk hD he
      obtain ⟨m, rfl⟩ : ∃ m', m = m' + 1 := ⟨m - 1, by omega⟩
      have hcl : c < C.length := by omega
      have hcn : C.getD c 0 < n := hCn _ (getD_mem hcl)
      have hcc := hLv.2 c hcl
      have e0 : (0 : Int32).toInt = 0 := rfl
      -- nothing for this one
      have skip : ons src ((C.take (c + 1)).filter (fun h => decide (from' ≤ h) && decide (h < below))) (s, x3) = (s', x6) → Ok (B_X10_handOnes_64 f (fun a1' x2' x4' x5' x6' x7' u' => B_X10_handOnes_6 f m a1' x2' x4' x5' x6' x7' u') a1 x2 x4 x5 x6 x7 v) (fun r => r.1 = (ons src (C.filter (fun h => decide (from' ≤ h) && decide (h < below))) (s, x3)).2 ∧ WV r.2 (ons src (C.filter (fun h => decide (from' ≤ h) && decide (h < below))) (s, x3)).1 n q ∧ WD x2 n u s r.2 (ons src (C.filter (fun h => decide (from' ≤ h) && decide (h < below))) (s, x3)).1) := by
        intro he'
        rw [B_X10_handOnes_64]
        exact ih (c + 1) x6 _ v s' m (by omega) (hx7.succ (by omega)) (by omega) hv hLv hk hD he'
      rw [B_X10_handOnes_6]
      refine Ok.f (fun e => by have := (hLv.1.le hx7).mp e; omega) (Ok.ck (hx7.ix (by omega)) ?_)
      rw [hx7.nat]
      dsimp only
      have ts := take_snoc (C := C) (d := 0) hcl
      by_cases hin : from' ≤ C.getD c 0 ∧ C.getD c 0 < below
      · have hf1 : [C.getD c 0].filter (fun h => decide (from' ≤ h) && decide (h < below)) = [C.getD c 0] := one_t (by rw [decide_eq_true hin.1, decide_eq_true hin.2]; rfl)
        have hstep : ons src ((C.take (c + 1)).filter (fun h => decide (from' ≤ h) && decide (h < below))) (s, x3) = ons src [C.getD c 0] (s', x6) := by rw [ts, List.filter_append, hf1, ons_app, he]
        by_cases h6 : x6 ≤ 0
        · have := i_le.mp h6
          refine Ok.t h6 (skip ?_)
          rw [hstep]
          show (if 0 < x6.toInt ∧ _ then _ else _) = _
          rw [if_neg (fun e => by have := e.1; omega)]; rfl
        · have h6' : ¬ x6.toInt ≤ 0 := fun e => h6 (i_le.mpr (by rw [e0]; exact e))
          refine Ok.f h6 (Ok.f (fun e => by have := (hcc.lt h4).mp e; omega) (Ok.f (fun e => by have := (h5.le hcc).mp e; omega) (Ok.bindE (c_room hv hcn hcc) ?_)))
          dsimp only
          by_cases hr : room s' (C.getD c 0) ≤ 0
          · have := i_le.mp hr
            refine Ok.t hr (skip ?_)
            rw [hstep]
            show (if 0 < x6.toInt ∧ can s' _ = true then _ else _) = _
            rw [if_neg (fun e => by have h := of_decide_eq_true e.2; omega)]; rfl
          · have hr' : ¬ (room s' (C.getD c 0)).toInt ≤ 0 := fun e => hr (i_le.mpr (by rw [e0]; exact e))
            obtain ⟨w, ew, w1, w2⟩ := c_hand (f := f) (x2 := x2) (x4 := 1) hv ha hcn hcc hk hs34
            have hfw := fr_F_X10_hand ew
            refine Ok.f hr (Ok.bindE ew ?_)
            rw [B_X10_handOnes_64]
            refine ih (c + 1) (x6 + (-1)) _ w _ m (by omega) (hx7.succ (by omega)) (by omega) w1 (hLv.fr (hfw.1 116 12 (by simp [nin, wI_X10_hand])) (fun k => hfw.1 122 k (by simp [nin, wI_X10_hand]))) (by rw [hfw.2.2 a1 5 trivial]; exact hk) (hD.trans w2) ?_
            rw [hstep]
            show (if 0 < x6.toInt ∧ can s' _ = true then _ else _) = _
            rw [if_pos ⟨by omega, decide_eq_true (by omega)⟩]; rfl
      · have hf1 : [C.getD c 0].filter (fun h => decide (from' ≤ h) && decide (h < below)) = [] := one_f (by
          by_cases e1 : from' ≤ C.getD c 0
          · rw [decide_eq_true e1, decide_eq_false (fun e => hin ⟨e1, e⟩)]; rfl
          · rw [decide_eq_false e1]; rfl)
        have hstep : ons src ((C.take (c + 1)).filter (fun h => decide (from' ≤ h) && decide (h < below))) (s, x3) = (s', x6) := by rw [ts, List.filter_append, hf1, List.append_nil, he]
        refine Ok.ite (fun _ => skip hstep) (fun _ => Ok.ite (fun _ => skip hstep) (fun h1 => Ok.ite (fun _ => skip hstep) (fun h2 => ?_)))
        exact absurd ⟨Nat.not_lt.mp (fun e => h1 ((hcc.lt h4).mpr e)), Nat.not_le.mp (fun e => h2 ((h5.le hcc).mpr e))⟩ hin
  rw [F_X10_handOnes]
  exact loop C.length 0 x3 0 u s f (by omega) nm0 (by omega) hW hL hsrc WD.rfl rfl
/-- most first -/
theorem ins_split {w : Nat → Int32} {h : Nat} : ∀ (A B : List Nat), (∀ x ∈ A, ¬ (w x).toInt < (w h).toInt) → (∀ x, B.head? = some x → (w x).toInt < (w h).toInt) → ins w h (A ++ B) = A ++ h :: B := by
  intro A
  induction A with
  | nil =>
    intro B _ hB
    cases B with
    | nil => rfl
    | cons x B =>
      show (if (w x).toInt < (w h).toInt then _ else _) = _
      rw [if_pos (hB x rfl)]; rfl
  | cons x A ih =>
    intro B hA hB
    show (if (w x).toInt < (w h).toInt then _ else _) = _
    rw [if_neg (hA x (by simp))]
    show x :: ins w h (A ++ B) = x :: (A ++ h :: B)
    rw [ih B (fun y hy => hA y (by simp [hy])) hB]
theorem ins_len {w : Nat → Int32} {h : Nat} : ∀ l, (ins w h l).length = l.length + 1 := by
  intro l
  induction l with
  | nil => rfl
  | cons x l ih =>
    show (if (w x).toInt < (w h).toInt then h :: x :: l else x :: ins w h l).length = _
    split
    · rfl
    · show (ins w h l).length + 1 = _; rw [ih]; rfl
theorem ins_mem {w : Nat → Int32} {h y : Nat} : ∀ l, y ∈ ins w h l ↔ y = h ∨ y ∈ l := by
  intro l
  induction l with
  | nil => show y ∈ [h] ↔ _; simp
  | cons x l ih =>
    show y ∈ (if (w x).toInt < (w h).toInt then h :: x :: l else x :: ins w h l) ↔ _
    split
    · simp
    · rw [List.mem_cons, ih, List.mem_cons]
      constructor
      · rintro (e | e | e)
        · exact Or.inr (Or.inl e)
        · exact Or.inl e
        · exact Or.inr (Or.inr e)
      · rintro (e | e | e)
        · exact Or.inr (Or.inl e)
        · exact Or.inl e
        · exact Or.inr (Or.inr e)
/-- by wants, most first -/
def Dsc (w : Nat → Int32) (l : List Nat) : Prop := l.Pairwise (fun x y => ¬ (w x).toInt < (w y).toInt)
theorem ins_dsc {w : Nat → Int32} {h : Nat} : ∀ l, Dsc w l → Dsc w (ins w h l) := by
  intro l
  induction l with
  | nil => intro _; exact List.pairwise_singleton _ _
  | cons x l ih =>
    intro hd
    obtain ⟨h1, h2⟩ := List.pairwise_cons.mp hd
    unfold Dsc
    show List.Pairwise _ (if (w x).toInt < (w h).toInt then h :: x :: l else x :: ins w h l)
    by_cases c : (w x).toInt < (w h).toInt
    · rw [if_pos c]
      refine List.pairwise_cons.mpr ⟨fun y hy => ?_, hd⟩
      rcases List.mem_cons.mp hy with e | e
      · subst e; omega
      · have := h1 y e; omega
    · rw [if_neg c]
      refine List.pairwise_cons.mpr ⟨fun y hy => ?_, ih h2⟩
      rcases (ins_mem l).mp hy with e | e
      · subst e; exact c
      · exact h1 y e
end
