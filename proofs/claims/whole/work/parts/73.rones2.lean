/-! ===== the reference: one by one, whole ===== -/
theorem prec_congr {s s' : QS} {n st how a b : Nat} (ha : qW s a = qW s' a) (hb : qW s b = qW s' b) (h : prec s n st how a b) : prec s' n st how a b := by
  unfold prec at *
  rw [← ha, ← hb]; exact h
theorem prec_irr {s : QS} {n st how a : Nat} (h : prec s n st how a a) : False := prec_asym h h
section
variable {f : Nat} {n q : Nat}
theorem Flg.out {u : MT} {c : Nat → Bool} (hc : Flg u n c) {h : Nat} : Flg (sI u 212 h (vp_nar .boolean 0)) n (fun z => c z && decide (z ≠ h)) := fun z hz => by
  rw [g_at]
  by_cases e : z = h
  · subst e; rw [if_pos rfl, b2i_f (by simp)]; rfl
  · rw [if_neg e, hc z hz]
    cases e2 : c z with
    | true => rw [b2i_t rfl, b2i_t (p := (c z && decide (z ≠ h)) = true) (by rw [e2, decide_eq_true e]; rfl)]
    | false => rw [b2i_f (by decide), b2i_f (p := (c z && decide (z ≠ h)) = true) (by rw [e2]; simp)]
theorem r_oneByOne {t how k I src : Nat} {x1 x2 : Int32} {s1 : QS} (hf : 1300 < f) (ht8 : t < 8) (hhow : 32 ≤ how ∧ how ≤ 34) (hn0 : 0 < n) (hk : k < 24) (hI : I < 192) (hx1 : Nm x1 k) (hx2 : Nm x2 I) :
    ∀ (L : Nat) (B : List Nat) (u : MT) (s : QS) (c : Nat → Bool) (x4 : Int32) (m : Nat), B.length ≤ L → L < m → XV u s n q → Flg u n c → Nm (gI u 167 44) t → Nm (gI u 174 t) (how - 32) → (gI u 178 I = 0 ↔ src = 9) → B.Pairwise (prec s1 n (if how = 34 then q % n else 0) how) → (∀ x ∈ B, x < n ∧ c x = true ∧ qW s x = qW s1 x) → (∀ z, z < n → c z = true → z ∉ B → can s z = false) →
      Ok (B_X12_oneByOne_3 f m x1 x2 x4 u) (fun r => XV r (ons src B (s, x4)).1 n q ∧ BD k n u s r (ons src B (s, x4)).1) := by
  intro L
  induction L with
  | zero =>
    intro B u s c x4 m hBL hm hX hc ht hh hs hpw hB hout
    have hnil : B = [] := List.eq_nil_of_length_eq_zero (by omega)
    subst hnil
    obtain ⟨m, rfl⟩ : ∃ m', m = m' + 1 := ⟨m - 1, by omega⟩
    rw [B_X12_oneByOne_3]
    refine Ok.ite (fun _ => Ok.some ⟨hX, BD.rfl⟩) (fun _ => ?_)
    obtain ⟨y, ey, hy⟩ := r_nextOf (f := f) hf hX hc ht ht8 hh hhow hn0
    refine Ok.bindE ey ?_
    rcases hy with ⟨e, _⟩ | ⟨h, _, b2, b3, b4, _⟩
    · subst e
      exact Ok.f (show ¬ (0 : Int32) ≤ (-1 : Int32) by decide) (Ok.some ⟨hX, BD.rfl⟩)
    · rw [hout h b2 b3 (by simp)] at b4; exact absurd b4 (by decide)
  | succ L ih =>
    intro B u s c x4 m hBL hm hX hc ht hh hs hpw hB hout
    have h12 := hX.n12
    have e0 : (0 : Int32).toInt = 0 := rfl
    obtain ⟨m, rfl⟩ : ∃ m', m = m' + 1 := ⟨m - 1, by omega⟩
    rw [B_X12_oneByOne_3]
    refine Ok.ite (fun h4 => Ok.some ?_) (fun h4 => ?_)
    · have := i_le.mp h4
      rw [ons_none B (s, x4) (Or.inl (by show x4.toInt ≤ 0; omega))]
      exact ⟨hX, BD.rfl⟩
    · have h4' : ¬ x4.toInt ≤ 0 := fun e => h4 (i_le.mpr (by rw [e0]; exact e))
      obtain ⟨y, ey, hy⟩ := r_nextOf (f := f) hf hX hc ht ht8 hh hhow hn0
      refine Ok.bindE ey ?_
      rcases hy with ⟨e, hno⟩ | ⟨h, b1, b2, b3, b4, b5⟩
      · subst e
        refine Ok.f (show ¬ (0 : Int32) ≤ (-1 : Int32) by decide) (Ok.some ?_)
        rw [ons_none B (s, x4) (Or.inr (fun x hx => hno x (hB x hx).1 (hB x hx).2.1))]
        exact ⟨hX, BD.rfl⟩
      · have b1i : y.toInt = (h : Int) := b1
        have hhB : h ∈ B := by
          by_cases e : h ∈ B
          · exact e
          · rw [hout h b2 b3 e] at b4; exact absurd b4 (by decide)
        obtain ⟨B1, b, B2, eB, hcb, hB1⟩ := first_can (s := s) B ⟨h, hhB, b4⟩
        have hbB : b ∈ B := by rw [eB]; simp
        rw [eB] at hpw
        have hpw2 := (List.pairwise_append.mp hpw).2.1
        have hpb := (List.pairwise_cons.mp hpw2).1
        have ehb : h = b := by
          by_cases e : h = b
          · exact e
          · have hhB' := hhB
            rw [eB] at hhB'
            have hB2 : h ∈ B2 := by
              rcases List.mem_append.mp hhB' with h1 | h1
              · rw [hB1 h h1] at b4; exact absurd b4 (by decide)
              · rcases List.mem_cons.mp h1 with h2 | h2
                · exact absurd h2 e
                · exact h2
            have p1 := b5 b (hB b hbB).1 (hB b hbB).2.1 hcb (fun e' => e e'.symm)
            have p2 := prec_congr (hB b hbB).2.2.symm (hB h hhB).2.2.symm (hpb h hB2)
            exact absurd p2 (fun p2 => prec_asym p1 p2)
        subst ehb
        refine Ok.t (i_le.mpr (by rw [e0]; show (0 : Int) ≤ y.toInt; omega)) (Ok.ck (b1.ix (by omega)) ?_)
        rw [b1.nat]
        have hXf : XV (sI u 212 h (vp_nar .boolean 0)) s n q := hX.flg _ _
        obtain ⟨w, ew, w1, w2⟩ := r_hands (f := f) (x4 := 1) hXf b2 hk hI hx1 hx2 b1 (src := src) (by rw [g_ne _ _ _ _ (by decide)]; exact hs)
        have hfw := fr_F_X12_hands ew
        refine Ok.bindE ew ?_
        have eo : ons src B (s, x4) = ons src B2 (hnd s src h 1, x4 + (-1)) := by
          rw [eB, ons_skip B1 (s, x4) hB1]
          show (if 0 < x4.toInt ∧ can s h = true then _ else _) = _
          rw [if_pos ⟨by omega, hcb⟩]
        rw [eo]
        have hlen : B2.length ≤ L := by
          have : B.length = B1.length + (B2.length + 1) := by rw [eB, List.length_append, List.length_cons]
          omega
        have hne : ∀ x ∈ B2, x ≠ h := fun x hx e => by subst e; exact prec_irr (hpb x hx)
        refine (ih B2 w (hnd s src h 1) (fun z => c z && decide (z ≠ h)) (x4 + (-1)) m hlen (by omega) w1 (fun z hz => by rw [hfw.1 212 z (by simp [nin, wI_X12_hands])]; exact hc.out z hz) (by rw [hfw.1 167 44 (by simp [nin, wI_X12_hands]), g_ne _ _ _ _ (by decide)]; exact ht) (by rw [hfw.1 174 t (by simp [nin, wI_X12_hands]), g_ne _ _ _ _ (by decide)]; exact hh) (by rw [hfw.1 178 I (by simp [nin, wI_X12_hands]), g_ne _ _ _ _ (by decide)]; exact hs) (List.pairwise_cons.mp hpw2).2 (fun x hx => ?_) (fun z hz hcz hzB => ?_)).mono (fun r hr => ⟨hr.1, (BD.trans (⟨fun j _ => by rw [g_ne _ _ _ _ (by decide)], fun j _ => g_ne _ _ _ _ (by decide)⟩ : BD k n u s (sI u 212 h (vp_nar .boolean 0)) s) w2).trans hr.2⟩)
        · have hxB := hB x (by rw [eB]; simp [hx])
          refine ⟨hxB.1, by rw [hxB.2.1, decide_eq_true (hne x hx)]; rfl, ?_⟩
          rw [show qW (hnd s src h 1) x = qW s x from upf_ne (hne x hx)]; exact hxB.2.2
        · have hcz' : c z = true ∧ z ≠ h := by simpa using hcz
          rw [can_hnd hcz'.2]
          by_cases hzB' : z ∈ B
          · rw [eB] at hzB'
            rcases List.mem_append.mp hzB' with h1 | h1
            · exact hB1 z h1
            · rcases List.mem_cons.mp h1 with h2 | h2
              · exact absurd h2 hcz'.2
              · exact absurd h2 hzB
          · exact hout z hz hcz'.1 hzB'
/-! the order of the rest is that of who is next -/
theorem ins_prec {s : QS} {st h : Nat} : ∀ l, l.Pairwise (prec s n st 33) → (∀ x ∈ l, x < h) → (ins (qW s) h l).Pairwise (prec s n st 33) := by
  intro l
  induction l with
  | nil => intro _ _; exact List.pairwise_singleton _ _
  | cons x l ih =>
    intro hd hlt
    obtain ⟨h1, h2⟩ := List.pairwise_cons.mp hd
    show List.Pairwise _ (if (qW s x).toInt < (qW s h).toInt then h :: x :: l else x :: ins (qW s) h l)
    by_cases c : (qW s x).toInt < (qW s h).toInt
    · rw [if_pos c]
      refine List.pairwise_cons.mpr ⟨fun y hy => ?_, hd⟩
      unfold prec
      rw [if_pos rfl]
      left
      rcases List.mem_cons.mp hy with e | e
      · subst e; exact c
      · have := h1 y e
        unfold prec at this
        rw [if_pos rfl] at this
        rcases this with h3 | ⟨h3, _⟩
        · omega
        · rw [← h3]; exact c
    · rw [if_neg c]
      refine List.pairwise_cons.mpr ⟨fun y hy => ?_, ih h2 (fun z hz => hlt z (by simp [hz]))⟩
      rcases (ins_mem l).mp hy with e | e
      · subst e
        unfold prec
        rw [if_pos rfl]
        by_cases e2 : (qW s y).toInt < (qW s x).toInt
        · exact Or.inl e2
        · exact Or.inr ⟨Int32.toInt_inj.mp (by omega), hlt x (by simp)⟩
      · exact h1 y e
theorem isrt_prec {s : QS} {st : Nat} : ∀ (l acc : List Nat), l.Pairwise (· < ·) → acc.Pairwise (prec s n st 33) → (∀ x ∈ acc, ∀ y ∈ l, x < y) → (isrt (qW s) l acc).Pairwise (prec s n st 33) := by
  intro l
  induction l with
  | nil => intro acc _ h _; exact h
  | cons x l ih =>
    intro acc hl ha hlt
    obtain ⟨h1, h2⟩ := List.pairwise_cons.mp hl
    refine ih (ins (qW s) x acc) h2 (ins_prec acc ha (fun z hz => hlt z hz x (by simp))) (fun z hz y hy => ?_)
    rcases (ins_mem acc).mp hz with e | e
    · subst e; exact h1 y hy
    · exact hlt z e y (by simp [hy])
theorem key0 {z : Nat} (hz : z < n) : keyR n 0 z = z := by unfold keyR; rw [show z + n - 0 = z + n by omega, Nat.add_mod_right, Nat.mod_eq_of_lt hz]
theorem ordr_prec {s : QS} {how : Nat} (hhow : 32 ≤ how ∧ how ≤ 34) {C : List Nat} (hC : Asc n C) : (ordr s n q how C).Pairwise (prec s n (if how = 34 then q % n else 0) how) := by
  unfold ordr
  by_cases h33 : how = 33
  · subst h33
    rw [if_pos rfl]
    exact isrt_prec C [] hC.1 List.Pairwise.nil (fun x hx => by cases hx)
  · rw [if_neg h33]
    have hp : ∀ st a b, keyR n st a < keyR n st b → prec s n st how a b := fun st a b h => by unfold prec; rw [if_neg h33]; exact h
    by_cases h34 : how = 34
    · rw [if_pos h34, if_pos h34]
      by_cases hn0 : n = 0
      · have hnil : C = [] := by
          cases C with
          | nil => rfl
          | cons x C => have := hC.2 x (by simp); omega
        subst hnil; exact List.Pairwise.nil
      · have hst : q % n < n := Nat.mod_lt _ (by omega)
        have kge : ∀ z, z < n → q % n ≤ z → keyR n (q % n) z = z - q % n := fun z hz h => by unfold keyR; rw [show z + n - q % n = z - q % n + n by omega, Nat.add_mod_right, Nat.mod_eq_of_lt (by omega)]
        have klt : ∀ z, z < n → z < q % n → keyR n (q % n) z = z + n - q % n := fun z hz h => by unfold keyR; exact Nat.mod_eq_of_lt (by omega)
        refine List.pairwise_append.mpr ⟨?_, ?_, fun a ha b hb => ?_⟩
        · refine List.Pairwise.imp_of_mem (fun {a b} ha hb hab => hp _ a b ?_) (hC.1.filter _)
          have h1 := List.mem_filter.mp ha
          have h2 := List.mem_filter.mp hb
          have h3 := of_decide_eq_true h1.2
          have h4 := of_decide_eq_true h2.2
          rw [kge a (hC.2 a h1.1) h3, kge b (hC.2 b h2.1) h4]; omega
        · refine List.Pairwise.imp_of_mem (fun {a b} ha hb hab => hp _ a b ?_) (hC.1.filter _)
          have h1 := List.mem_filter.mp ha
          have h2 := List.mem_filter.mp hb
          have h3 := of_decide_eq_true h1.2
          have h4 := of_decide_eq_true h2.2
          rw [klt a (hC.2 a h1.1) h3, klt b (hC.2 b h2.1) h4]; omega
        · have h1 := List.mem_filter.mp ha
          have h2 := List.mem_filter.mp hb
          have h3 := of_decide_eq_true h1.2
          have h4 := of_decide_eq_true h2.2
          have := hC.2 a h1.1
          exact hp _ a b (by rw [kge a (hC.2 a h1.1) h3, klt b (hC.2 b h2.1) h4]; omega)
    · rw [if_neg h34, if_neg h34]
      exact List.Pairwise.imp_of_mem (fun {a b} ha hb hab => hp _ a b (by rw [key0 (hC.2 a ha), key0 (hC.2 b hb)]; exact hab)) hC.1
theorem ordr_mem {s : QS} {how : Nat} {C : List Nat} {x : Nat} : x ∈ ordr s n q how C ↔ x ∈ C := by
  unfold ordr
  by_cases h33 : how = 33
  · rw [if_pos h33, isrt_mem]; simp
  · rw [if_neg h33]
    by_cases h34 : how = 34
    · rw [if_pos h34, List.mem_append, List.mem_filter, List.mem_filter]
      constructor
      · rintro (h | h)
        · exact h.1
        · exact h.1
      · intro h
        by_cases e : q % n ≤ x
        · exact Or.inl ⟨h, decide_eq_true e⟩
        · exact Or.inr ⟨h, decide_eq_true (by omega)⟩
    · rw [if_neg h34]
end
