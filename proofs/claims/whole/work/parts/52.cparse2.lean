/-! ===== the class reads a text, whole ===== -/
def pT (E : ET) (hn : Int) : Nat → List AR → Nat → Nat × Nat × List AR × Nat
  | 0, acc, i => (1, i, acc, 0)
  | n + 1, acc, i => if tT E i = 20 then ((pRest E i).1, (pRest E i).2.1, acc, (pRest E i).2.2) else if (pRule E hn acc.length i).1 = 0 then pT E hn n (acc ++ [(pRule E hn acc.length i).2.2]) (pRule E hn acc.length i).2.1 else ((pRule E hn acc.length i).1, (pRule E hn acc.length i).2.1, acc, 0)
theorem pRest_far {E : ET} (hE : TE E) {i : Nat} (hi : i ≤ tL E) : ((pRest E i).1 = 0 → 32 ≤ (pRest E i).2.2 ∧ (pRest E i).2.2 ≤ 34) ∧ ((pRest E i).1 ≠ 0 → (pRest E i).2.1 ≤ tL E ∧ (pRest E i).1 = 1) := by
  unfold pRest
  by_cases h1 : tT E i = 20
  · have l1 := hE.lt hi (show tT E i ≠ 2 by omega)
    rw [if_pos h1]
    by_cases h2 : 32 ≤ tT E (i + 1) ∧ tT E (i + 1) ≤ 34
    · have l2 := hE.lt (show i + 1 ≤ tL E from l1) (show tT E (i + 1) ≠ 2 by omega)
      rw [if_pos h2]
      by_cases h3 : tT E (i + 2) = 6
      · have l3 := hE.lt (show i + 2 ≤ tL E from l2) (show tT E (i + 2) ≠ 2 by omega)
        rw [if_pos h3]
        by_cases h4 : tT E (i + 3) = 2
        · rw [if_pos h4]; exact ⟨fun _ => h2, fun h => absurd rfl h⟩
        · rw [if_neg h4]; exact ⟨fun h => absurd h ne1, fun _ => ⟨l3, rfl⟩⟩
      · rw [if_neg h3]; exact ⟨fun h => absurd h ne1, fun _ => ⟨l2, rfl⟩⟩
    · rw [if_neg h2]; exact ⟨fun h => absurd h ne1, fun _ => ⟨l1, rfl⟩⟩
  · rw [if_neg h1]; exact ⟨fun h => absurd h ne1, fun _ => ⟨hi, rfl⟩⟩
theorem pT_far {E : ET} (hE : TE E) {hn : Int} : ∀ (n : Nat) (acc : List AR) (i : Nat), i ≤ tL E → (∀ r ∈ acc, RV hn r) → acc.length ≤ 24 → 25 < n + acc.length →
    ((pT E hn n acc i).1 = 0 → (pT E hn n acc i).2.2.1.length ≤ 24 ∧ (∀ r ∈ (pT E hn n acc i).2.2.1, RV hn r) ∧ 32 ≤ (pT E hn n acc i).2.2.2 ∧ (pT E hn n acc i).2.2.2 ≤ 34) ∧
    ((pT E hn n acc i).1 ≠ 0 → (pT E hn n acc i).2.1 ≤ tL E ∧ ((pT E hn n acc i).1 = 1 ∨ (pT E hn n acc i).1 = 4 ∨ (pT E hn n acc i).1 = 5)) := by
  intro n
  induction n with
  | zero => intro acc i _ _ h1 h2; omega
  | succ n ih =>
    intro acc i hi hv hl hn'
    unfold pT
    by_cases h20 : tT E i = 20
    · rw [if_pos h20]
      have hr := pRest_far hE hi
      exact ⟨fun h0 => ⟨hl, hv, hr.1 h0⟩, fun h0 => ⟨(hr.2 h0).1, Or.inl (hr.2 h0).2⟩⟩
    · rw [if_neg h20]
      have hp := pRule_far hE (hn := hn) (cnt := acc.length) hi
      by_cases h0 : (pRule E hn acc.length i).1 = 0
      · rw [if_pos h0]
        have hp1 := hp.1 h0
        refine ih _ _ hp1.2.1 (fun r hr => ?_) (by rw [List.length_append]; show acc.length + 1 ≤ 24; omega) (by rw [List.length_append]; show 25 < n + (acc.length + 1); omega)
        rcases List.mem_append.mp hr with h | h
        · exact hv r h
        · have : r = (pRule E hn acc.length i).2.2 := by simpa using h
          rw [this]; exact hp1.2.2.1
      · rw [if_neg h0]
        exact ⟨fun h => absurd h h0, fun _ => hp.2 h0⟩
theorem c_rest {f : Nat} {E : ET} {tx i : Nat} {u : MT} (h : CS E i u) (htx : tx ≠ 113) : Ok (F_X3_takeRest f tx u) (fun r => ((pRest E i).1 = 0 → gI r.2 112 5 = 0 ∧ gK r.2 tx 2 = (pRest E i).2.2) ∧ ((pRest E i).1 ≠ 0 → gI r.2 112 5 = flt E (Int32.ofNat (pRest E i).1) (pRest E i).2.1)) := by
  rw [F_X3_takeRest]
  by_cases h1 : tT E i = 20
  · have l1 := h.lt (show tT E i ≠ 2 by omega)
    have s1 := h.next l1
    refine Ok.bindE (c_take_t h h1 (by decide)) (Ok.f ni1 ?_)
    dsimp only
    by_cases h2 : 32 ≤ tT E (i + 1) ∧ tT E (i + 1) ≤ 34
    · have l2 := s1.lt (show tT E (i + 1) ≠ 2 by omega)
      have s2 := s1.next l2
      refine Ok.bindE (c_oneOf_t s1 (by decide) (by decide) (by decide) (by omega) (by omega)) ?_
      dsimp only
      rw [k_same]
      refine Ok.f (by omega) ?_
      have s3 : CS E (i + 2) (sK (cadv (cadv u)) tx 2 (tT E (i + 1))) := s2.putK htx
      by_cases h3 : tT E (i + 2) = 6
      · have l3 := s3.lt (show tT E (i + 2) ≠ 2 by omega)
        have s4 := s3.next l3
        refine Ok.bindE (c_take_t s3 h3 (by decide)) (Ok.f ni1 ?_)
        dsimp only
        by_cases h4 : tT E (i + 3) = 2
        · refine Ok.bindE (c_take_end s4 h4) (Ok.f ni1 (Ok.some ?_))
          have e : pRest E i = (0, i + 3, tT E (i + 1)) := by unfold pRest; rw [if_pos h1, if_pos h2, if_pos h3, if_pos h4]
          rw [e]
          exact ⟨fun _ => ⟨s4.2.2.1, k_same _ _ _ _⟩, fun h => absurd rfl h⟩
        · refine Ok.bindE (c_take_f s4 (by decide) h4) (Ok.t rfl (Ok.some ?_))
          have e : pRest E i = (1, i + 3, 0) := by unfold pRest; rw [if_pos h1, if_pos h2, if_pos h3, if_neg h4]
          rw [e]
          exact ⟨fun h => absurd h ne1, fun _ => cwr_flt⟩
      · refine Ok.bindE (c_take_f s3 (by decide) h3) (Ok.t rfl (Ok.some ?_))
        have e : pRest E i = (1, i + 2, 0) := by unfold pRest; rw [if_pos h1, if_pos h2, if_neg h3]
        rw [e]
        exact ⟨fun h => absurd h ne1, fun _ => cwr_flt⟩
    · refine Ok.bindE (c_oneOf_f s1 (by decide) (by decide) (by decide) (by omega) (by omega) (by omega)) ?_
      dsimp only
      rw [k_same]
      refine Ok.t rfl (Ok.some ?_)
      have e : pRest E i = (1, i + 1, 0) := by unfold pRest; rw [if_pos h1, if_neg h2]
      rw [e]
      exact ⟨fun h => absurd h ne1, fun _ => (g_K _ _ _ _ _ _).trans cwr_flt⟩
  · refine Ok.bindE (c_take_f h (by decide) h1) (Ok.t rfl (Ok.some ?_))
    have e : pRest E i = (1, i, 0) := by unfold pRest; rw [if_neg h1]
    rw [e]
    exact ⟨fun h => absurd h ne1, fun _ => cwr_flt⟩
/-- a text in the class -/
def CTi (v : MT) (tx : Nat) (rs : List AR) (c : Nat) : Prop := Nm (gI v tx 1) rs.length ∧ Nm (gI v tx 4) c ∧ ∀ s, s < rs.length → CR v tx (tx + 3 + s) c (rs.getD s rNone)
def CT (v : MT) (tx : Nat) (rs : List AR) (how : Nat) : Prop := (∃ c, c ≤ 1200 ∧ CTi v tx rs c) ∧ gK v tx 2 = how
def CPp (E : ET) (tx : Nat) (u : MT) (p : Nat × Nat × List AR × Nat) (r : Int32 × MT) : Prop :=
  (p.1 = 0 → r.1 = 0 ∧ CT r.2 tx p.2.2.1 p.2.2.2) ∧ (p.1 ≠ 0 → r.1 = flt E (Int32.ofNat p.1) p.2.1) ∧ Fr (wP tx) [] (kP tx) u r.2
theorem wide_R {tx : Nat} {u v : MT} (h : Fr wI_X3_takeRest [] (wK_X3_takeRest tx) u v) : Fr (wP tx) [] (kP tx) u v := by
  refine ⟨fun a k hn => h.1 a k ?_, h.2.1, fun a k hn => h.2.2 a k ?_⟩
  · simp only [nin] at hn ⊢
    obtain ⟨h1, h2, _⟩ := hn
    refine ⟨?_, ?_, trivial⟩ <;> intro e1 e2 <;> exact absurd rfl (h1 e1 e2).1
  · simp only [nin] at hn ⊢
    obtain ⟨h2, _⟩ := hn
    refine ⟨?_, trivial⟩ <;> intro e1 e2 <;> exact absurd rfl (h2 (by omega) (by omega)).1
theorem Int32_ofNat_ne {E : ET} (hE : TE E) {k i : Nat} (hk : k = 1 ∨ k = 4 ∨ k = 5) (hi : i ≤ tL E) : 0 < (flt E (Int32.ofNat k) i).toInt := by
  rcases hk with e | e | e <;> subst e
  · exact flt_pos hE (by decide) (by decide) hi
  · exact flt_pos hE (by decide) (by decide) hi
  · exact flt_pos hE (by decide) (by decide) hi
theorem c_parse {f : Nat} {E : ET} {tx : Nat} (hf : 1300 < f) (htx : 116 ≤ tx) {hn : Int} (h0 : 0 ≤ hn) : ∀ (n : Nat) (acc : List AR) (i : Nat) (u : MT) (c m : Nat) (x4 : Int32), CS E i u → CTi u tx acc c → c ≤ i → (gI u 112 6).toInt = hn → Nm x4 acc.length → acc.length ≤ 24 → 25 < n + acc.length → 26 < m + acc.length →
    Ok (B_X3_parse_49 f tx m x4 u) (CPp E tx u (pT E hn n acc i)) := by
  intro n
  induction n with
  | zero => intro acc i u c m x4 _ _ _ _ _ h1 h2; omega
  | succ n ih =>
    intro acc i u c m x4 h hT hci hh hx hl hn' hm
    have hi := h.2.2.2.2
    have hL := h.2.1.1
    obtain ⟨m, rfl⟩ : ∃ m', m = m' + 1 := ⟨m - 1, by omega⟩
    have e89 : ∀ v, (gI v 112 5).toInt ≠ 0 → B_X3_parse_89 f tx v = some (gI v 112 5, v) := fun v hv => by
      rw [B_X3_parse_89, if_neg (fun e => hv (by rw [e]; rfl))]; rfl
    rw [B_X3_parse_49]
    refine Ok.f (fun e => by have := (Nm.lt (show Nm (24 : Int32) 24 from rfl) hx).mp e; omega) (Ok.t h.2.2.1 (Ok.ck h.ix (Ok.ck (by rw [h.tok]; exact h.le) ?_)))
    rw [h.tok]
    refine Ok.ite (fun h20 => ?_) (fun h20 => ?_)
    · have e : pT E hn (n + 1) acc i = ((pRest E i).1, (pRest E i).2.1, acc, (pRest E i).2.2) := if_pos h20
      rw [e, B_X3_parse_89]
      obtain ⟨r, er, r1, r2⟩ := c_rest (f := f) (tx := tx) h (by omega)
      have hfr := fr_F_X3_takeRest er
      have hrf := pRest_far h.2.1 hi
      refine Ok.t h.2.2.1 (Ok.bindE er ?_)
      rw [B_X3_parse_101]
      refine Ok.some ⟨fun hk => ⟨(r1 hk).1, ⟨c, by omega, ?_, ?_, fun s hs => ?_⟩, (r1 hk).2⟩, fun hk => r2 hk, wide_R hfr⟩
      · rw [hfr.1 tx 1 (by simp [nin, wI_X3_takeRest] <;> omega)]; exact hT.1
      · rw [hfr.1 tx 4 (by simp [nin, wI_X3_takeRest] <;> omega)]; exact hT.2.1
      · exact (hT.2.2 s hs).fr (Nat.le_refl _) (fun k => hfr.1 _ k (by simp [nin, wI_X3_takeRest] <;> omega)) (fun k => hfr.2.2 _ k (by simp [nin, wK_X3_takeRest] <;> omega)) (fun k _ => hfr.1 _ k (by simp [nin, wI_X3_takeRest] <;> omega))
    · obtain ⟨r, er, r1, r2, r3⟩ := c_rule (f := f) h hf htx hh h0 hT.2.1 hci hT.1 hl
      have hpf := pRule_far h.2.1 (hn := hn) (cnt := acc.length) hi
      refine Ok.bindE er ?_
      by_cases hk : (pRule E hn acc.length i).1 = 0
      · have e : pT E hn (n + 1) acc i = pT E hn n (acc ++ [(pRule E hn acc.length i).2.2]) (pRule E hn acc.length i).2.1 := by
          show (if tT E i = 20 then _ else if _ then _ else _) = _
          rw [if_neg h20, if_pos hk]
        obtain ⟨q1, q2, ⟨c', q3, q4, q5, q6⟩, q7, q8, q9⟩ := r1 hk
        have hpf1 := hpf.1 hk
        rw [e]
        have hlen : (acc ++ [(pRule E hn acc.length i).2.2]).length = acc.length + 1 := by rw [List.length_append]; rfl
        refine (ih (acc ++ [(pRule E hn acc.length i).2.2]) (pRule E hn acc.length i).2.1 r.2 c' m (x4 + 1) q1 ⟨by rw [hlen]; exact q2, q5, fun s hs => ?_⟩ q3 (by rw [q8]; exact hh) (by rw [hlen]; exact hx.succ (by omega)) (by omega) (by omega) (by omega)).mono (fun r' hr' => ⟨hr'.1, hr'.2.1, Fr_tr hr'.2.2 r3⟩)
        by_cases hs' : s < acc.length
        · rw [show (acc ++ [(pRule E hn acc.length i).2.2]).getD s rNone = acc.getD s rNone by simp [List.getD, List.getElem?_append_left hs']]
          exact (hT.2.2 s hs').fr q4 (q9 s hs').1 (q9 s hs').2 q7
        · have : s = acc.length := by omega
          subst this
          rw [show (acc ++ [(pRule E hn acc.length i).2.2]).getD acc.length rNone = (pRule E hn acc.length i).2.2 by simp [List.getD]]
          exact q6
      · have e : pT E hn (n + 1) acc i = ((pRule E hn acc.length i).1, (pRule E hn acc.length i).2.1, acc, 0) := by
          show (if tT E i = 20 then _ else if _ then _ else _) = _
          rw [if_neg h20, if_neg hk]
        have hpf1 := hpf.2 hk
        have hpos := Int32_ofNat_ne h.2.1 hpf1.2 hpf1.1
        have hv : (gI r.2 112 5).toInt ≠ 0 := by rw [r2 hk]; omega
        rw [e]
        obtain ⟨m, rfl⟩ : ∃ m', m = m' + 1 := ⟨m - 1, by omega⟩
        have e2 : B_X3_parse_49 f tx (m + 1) (x4 + 1) r.2 = some (gI r.2 112 5, r.2) := by
          rw [B_X3_parse_49]
          by_cases hc : (24 : Int32) < x4 + 1
          · rw [if_pos hc, e89 _ hv]
          · rw [if_neg hc, if_neg (fun e => hv (by rw [e]; rfl)), e89 _ hv]
        rw [e2]
        exact Ok.some ⟨fun h => absurd h hk, fun _ => r2 hk, r3⟩
