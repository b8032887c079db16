/-! ===== the tokens of both are the same ===== -/
def sameB (i j : Nat) : Bool := (List.range 6).all (fun k => !(decide (k < tkL.getD (tkX i) 0)) || decide (tkCh (tkX i) k = tkCh (tkX j) k))
theorem sp_tab0 : ∀ i, i < 34 → ∀ j, j < 34 → (decide (1 ≤ tkL.getD (tkX i) 0) && decide (tkL.getD (tkX i) 0 = tkL.getD (tkX j) 0) && decide (3 ≤ i) && decide (3 ≤ j) && sameB i j) = true → i = j := by decide +kernel
theorem sp_tab (i : Nat) (hi : i < 34) (j : Nat) (hj : j < 34) (h1 : 1 ≤ tkL.getD (tkX i) 0) (h2 : tkL.getD (tkX i) 0 = tkL.getD (tkX j) 0) (h3 : 3 ≤ i) (h4 : 3 ≤ j) (h5 : ∀ k, k < 6 → k < tkL.getD (tkX i) 0 → tkCh (tkX i) k = tkCh (tkX j) k) : i = j := by
  refine sp_tab0 i hi j hj ?_
  have : sameB i j = true := by
    unfold sameB
    rw [List.all_eq_true]
    intro k hk
    have hk : k < 6 := List.mem_range.mp hk
    by_cases h : k < tkL.getD (tkX i) 0
    · simp [h5 k hk h]
    · rw [decide_eq_false h]; rfl
  rw [this, decide_eq_true h1, decide_eq_true h2, decide_eq_true h3, decide_eq_true h4]; rfl
theorem sp_len : ∀ i, i < 34 → tkL.getD (tkX i) 0 ≤ 6 ∧ (i < 3 → tkL.getD (tkX i) 0 = 0) := by decide +kernel
theorem w_tab : ∀ w, w < 24 → 6 ≤ wtok.getD w 0 - 1 ∧ wtok.getD w 0 ≤ 34 ∧ 2 ≤ tkL.getD (tkX (wtok.getD w 0 - 1)) 0 ∧ v37 (tkCh (tkX (wtok.getD w 0 - 1))) 0 (tkL.getD (tkX (wtok.getD w 0 - 1)) 0) = (wv.getD w 0).toInt ∧ ∀ k, k < 6 → k < tkL.getD (tkX (wtok.getD w 0 - 1)) 0 → 97 ≤ (tkCh (tkX (wtok.getD w 0 - 1)) k).toInt ∧ (tkCh (tkX (wtok.getD w 0 - 1)) k).toInt ≤ 122 := by decide +kernel
theorem s_tab : ∀ c, c ∈ stoks → 3 ≤ c.2 - 1 ∧ 4 ≤ c.2 ∧ c.2 ≤ 34 ∧ tkL.getD (tkX (c.2 - 1)) 0 = 1 ∧ tkCh (tkX (c.2 - 1)) 0 = Int32.ofNat c.1 ∧ ¬ (97 ≤ (Int32.ofNat c.1).toInt ∧ (Int32.ofNat c.1).toInt ≤ 122) ∧ sgn (Int32.ofNat c.1) := by unfold sgn; decide +kernel
theorem w_ne : ∀ w, w < 24 → wtok.getD w 0 ≠ 1 ∧ wtok.getD w 0 ≠ 2 ∧ wtok.getD w 0 ≠ 3 := by decide
theorem s_ne : ∀ c, c ∈ stoks → c.2 ≠ 1 ∧ c.2 ≠ 2 ∧ c.2 ≠ 3 := by decide
theorem SpId_iff {sg : Nat → Int32} {a b t i : Nat} (h : SpId sg a b t) (hab : a < b) (hi : i < 34) (h3 : 3 ≤ i) : t = i + 1 ↔ spB sg a b i := by
  constructor
  · intro e
    rcases h with ⟨e1, _⟩ | ⟨j, _, e1, hs⟩
    · omega
    · have : j = i := by omega
      subst this; exact hs
  · intro hs
    rcases h with ⟨_, hno⟩ | ⟨j, hj, e1, hs'⟩
    · exact absurd hs (hno i hi)
    · have lj := sp_len j hj
      have j3 : 3 ≤ j := by
        by_cases h : j < 3
        · have := lj.2 h; have := hs'.1; omega
        · omega
      have : i = j := sp_tab i hi j hj (by rw [hs.1]; omega) (by rw [hs.1, hs'.1]) h3 j3 (fun k _ hk => by rw [hs.1] at hk; rw [hs.2 k hk, hs'.2 k hk])
      omega
theorem v37_inj {f g : Nat → Int32} {a b : Nat} : ∀ (n m : Nat), (∀ k, k < n → 97 ≤ (f (a + k)).toInt ∧ (f (a + k)).toInt ≤ 122) → (∀ k, k < m → 97 ≤ (g (b + k)).toInt ∧ (g (b + k)).toInt ≤ 122) → v37 f a n = v37 g b m → n = m ∧ ∀ k, k < n → f (a + k) = g (b + k) := by
  have nn : ∀ (h : Nat → Int32) (c n : Nat), (∀ k, k < n → 97 ≤ (h (c + k)).toInt ∧ (h (c + k)).toInt ≤ 122) → 0 ≤ v37 h c n := by
    intro h c n
    induction n with
    | zero => intro _; show (0 : Int) ≤ 0; omega
    | succ n ih =>
      intro hd
      have := ih (fun k hk => hd k (by omega))
      have h1 := hd n (by omega)
      show 0 ≤ 37 * v37 h c n + _
      omega
  intro n
  induction n with
  | zero =>
    intro m _ hg he
    match m with
    | 0 => exact ⟨rfl, fun k hk => absurd hk (Nat.not_lt_zero k)⟩
    | m + 1 =>
      have h1 := nn g b m (fun k hk => hg k (by omega))
      have h2 := hg m (by omega)
      have he : (0 : Int) = 37 * v37 g b m + ((g (b + m)).toInt - 96) := he
      omega
  | succ n ih =>
    intro m hf hg he
    match m with
    | 0 =>
      have h1 := nn f a n (fun k hk => hf k (by omega))
      have h2 := hf n (by omega)
      have he : 37 * v37 f a n + ((f (a + n)).toInt - 96) = 0 := he
      omega
    | m + 1 =>
      have h1 := hf n (by omega)
      have h2 := hg m (by omega)
      have he : 37 * v37 f a n + ((f (a + n)).toInt - 96) = 37 * v37 g b m + ((g (b + m)).toInt - 96) := he
      have e1 : v37 f a n = v37 g b m := by omega
      have e2 : (f (a + n)).toInt = (g (b + m)).toInt := by omega
      obtain ⟨e3, e4⟩ := ih m (fun k hk => hf k (by omega)) (fun k hk => hg k (by omega)) e1
      subst e3
      refine ⟨rfl, fun k hk => ?_⟩
      by_cases e : k = n
      · subst e; exact Int32.toInt_inj.mp e2
      · exact e4 k (by omega)
theorem v37_eq {f g : Nat → Int32} {a b : Nat} : ∀ n, (∀ k, k < n → f (a + k) = g (b + k)) → v37 f a n = v37 g b n := by
  intro n
  induction n with
  | zero => intro _; rfl
  | succ n ih =>
    intro h
    show 37 * v37 f a n + _ = 37 * v37 g b n + _
    rw [ih (fun k hk => h k (by omega)), h n (by omega)]
theorem tok_same {sg : Nat → Int32} {a b t : Nat} {nm s : Int32} {v : Int64} (hab : a < b) (h0 : srt (sg a) ≠ 0) (hall : ∀ i, a ≤ i → i < b → srt (sg i) = srt (sg a)) (h3 : srt (sg a) = 3 → b = a + 1) (hC : CTok sg a b t nm) (hR : RTok sg a b s v) : TR t s v nm := by
  have hle := @srt_le (sg a)
  by_cases s2 : srt (sg a) = 2
  · have c2 := hC.1 s2
    have r2 := hR.2.1 s2
    by_cases h6 : b - a ≤ 6
    · obtain ⟨e1, e2⟩ := c2.1 h6
      obtain ⟨e3, e4⟩ := r2.1 h6
      subst e1; subst e3
      refine ⟨fun w hw => ⟨fun h => absurd h.1 (by decide), fun h => absurd h.symm (w_ne w hw).2.2⟩, fun c hc => ⟨fun h => absurd h.1 (by decide), fun h => absurd h.symm (s_ne c hc).2.2⟩, ⟨fun _ => rfl, fun _ => rfl⟩, ⟨fun h => absurd h (by decide), fun h => absurd h (by decide)⟩, fun _ => ?_⟩
      exact Int64.toInt_inj.mp (by rw [Int32.toInt_toInt64, e4, e2])
    · have e1 := c2.2 (by omega)
      have e3 := r2.2 (by omega)
      subst e1; subst e3
      exact ⟨fun w hw => ⟨fun h => absurd h.1 (by decide), fun h => absurd h.symm (w_ne w hw).1⟩, fun c hc => ⟨fun h => absurd h.1 (by decide), fun h => absurd h.symm (s_ne c hc).1⟩, ⟨fun h => absurd h (by decide), fun h => absurd h (by decide)⟩, ⟨fun h => absurd h (by decide), fun h => absurd h (by decide)⟩, fun h => absurd h (by decide)⟩
  · have hS := hC.2 s2
    have hne := SpId_ne hS hab
    by_cases s1 : srt (sg a) = 1
    · have r1 := hR.1 s1
      have let1 : ∀ k, k < b - a → 97 ≤ (sg (a + k)).toInt ∧ (sg (a + k)).toInt ≤ 122 := fun k hk => srt1.mp (by rw [hall (a + k) (by omega) (by omega), s1])
      have nosign : ∀ c, c ∈ stoks → t ≠ c.2 := fun c hc e => by
        have st := s_tab c hc
        have hb := (SpId_iff (i := c.2 - 1) hS hab (by omega) st.1).mp (by omega)
        have h1 := hb.1
        have h2 := hb.2 0 (by omega)
        have h3 := let1 0 (by omega)
        rw [st.2.2.2.2.1] at h2
        rw [← h2] at h3
        exact st.2.2.2.2.2.1 h3
      by_cases h8 : b - a ≤ 8
      · obtain ⟨e1, e2⟩ := r1.1 h8
        subst e1
        refine ⟨fun w hw => ?_, fun c hc => ⟨fun h => absurd h.1 (by decide), fun h => absurd h (nosign c hc)⟩, ⟨fun h => absurd h (by decide), fun h => absurd h hne.2⟩, ⟨fun h => absurd h (by decide), fun h => absurd h hne.1⟩, fun h => absurd h hne.2⟩
        obtain ⟨w1, w2, w3, w4, w5⟩ := w_tab w hw
        have hiff := SpId_iff (i := wtok.getD w 0 - 1) hS hab (by omega) (by omega)
        have wl := sp_len (wtok.getD w 0 - 1) (by omega)
        rw [show wtok.getD w 0 = wtok.getD w 0 - 1 + 1 by omega, hiff]
        constructor
        · intro ⟨_, hv⟩
          have hv' : v37 sg a (b - a) = v37 (tkCh (tkX (wtok.getD w 0 - 1))) 0 (tkL.getD (tkX (wtok.getD w 0 - 1)) 0) := by rw [w4, ← e2, hv]
          obtain ⟨i1, i2⟩ := v37_inj (b - a) _ let1 (fun k hk => by rw [Nat.zero_add]; exact w5 k (by omega) hk) hv'
          refine ⟨i1.symm, fun k hk => ?_⟩
          have := i2 k hk
          rw [Nat.zero_add] at this
          exact this.symm
        · intro hb
          refine ⟨rfl, Int64.toInt_inj.mp ?_⟩
          rw [e2, ← w4, hb.1]
          exact v37_eq _ (fun k hk => by rw [Nat.zero_add]; exact (hb.2 k hk).symm)
      · have e1 := r1.2 (by omega)
        subst e1
        have t1 : t = 1 := by
          rcases hS with ⟨e, _⟩ | ⟨i, hi, e, hs⟩
          · exact e
          · have := (sp_len i hi).1
            have := hs.1
            omega
        subst t1
        exact ⟨fun w hw => ⟨fun h => absurd h.1 (by decide), fun h => absurd h.symm (w_ne w hw).1⟩, fun c hc => ⟨fun h => absurd h.1 (by decide), fun h => absurd h.symm (s_ne c hc).1⟩, ⟨fun h => absurd h (by decide), fun h => absurd h (by decide)⟩, ⟨fun h => absurd h (by decide), fun h => absurd h (by decide)⟩, fun h => absurd h (by decide)⟩
    · have s3 : srt (sg a) = 3 := by omega
      have hb := h3 s3
      subst hb
      obtain ⟨r1, r2, r3⟩ := hR.2.2 s3
      have noword : ∀ w, w < 24 → t ≠ wtok.getD w 0 := fun w hw e => by
        obtain ⟨w1, w2, w3, _, _⟩ := w_tab w hw
        have hb := (SpId_iff (i := wtok.getD w 0 - 1) hS hab (by omega) (by omega)).mp (by omega)
        have := hb.1
        omega
      have s12 : s ≠ 1 ∧ s ≠ 2 ∧ s ≠ 0 := by
        by_cases hs : sgn (sg a)
        · rw [r2 hs]; decide
        · rw [r3 hs]; decide
      refine ⟨fun w hw => ⟨fun h => absurd h.1 s12.1, fun h => absurd h (noword w hw)⟩, fun c hc => ?_, ⟨fun h => absurd h s12.2.1, fun h => absurd h hne.2⟩, ⟨fun h => absurd h s12.2.2, fun h => absurd h hne.1⟩, fun h => absurd h hne.2⟩
      have st := s_tab c hc
      have hiff := SpId_iff (i := c.2 - 1) hS hab (by omega) st.1
      rw [show c.2 = c.2 - 1 + 1 by omega, hiff]
      constructor
      · intro ⟨_, hv⟩
        have hc' : sg a = Int32.ofNat c.1 := by
          rw [r1] at hv
          have := congrArg Int64.toInt hv
          rw [Int32.toInt_toInt64, Int32.toInt_toInt64] at this
          exact Int32.toInt_inj.mp this
        refine ⟨by rw [st.2.2.2.1]; omega, fun k hk => ?_⟩
        have : k = 0 := by omega
        subst this
        rw [st.2.2.2.2.1]; exact hc'.symm
      · intro hs
        have h2 := hs.2 0 (by omega)
        rw [st.2.2.2.2.1] at h2
        have h2 : Int32.ofNat c.1 = sg a := h2
        exact ⟨r2 (by rw [← h2]; exact st.2.2.2.2.2.2), by rw [r1, h2]⟩
theorem TR_end {v : Int64} {nm : Int32} : TR 2 0 v nm :=
  ⟨fun w hw => ⟨fun h => absurd h.1 (by decide), fun h => absurd h.symm (w_ne w hw).2.1⟩, fun c hc => ⟨fun h => absurd h.1 (by decide), fun h => absurd h.symm (s_ne c hc).2.1⟩, ⟨fun h => absurd h (by decide), fun h => absurd h (by decide)⟩, ⟨fun _ => rfl, fun _ => rfl⟩, fun h => absurd h (by decide)⟩
/-- the tokens that the class found -/
def envOf (r : MT) (L : Nat) : ET := (fun i => gK r 113 i, fun i => gI r 115 i, fun i => gI r 114 i, L)
theorem env_C {sg : Nat → Int32} {sz : Nat} {u r : MT} (h12 : sz ≤ 1200) (h : scP sg u 0 sz (tkl sg sz (sz + 1) 0) r) : TE (envOf r (tkl sg sz (sz + 1) 0).length) ∧ EnvC (envOf r (tkl sg sz (sz + 1) 0).length) r := by
  obtain ⟨h1, h2, h3, h4, _⟩ := h
  obtain ⟨f1, f2⟩ := tkl_far (sg := sg) (sz := sz) (sz + 1) 0 (by omega) (by omega)
  rw [Nat.zero_add] at h1 h2 h3
  have h4 : ∀ j, j < (tkl sg sz (sz + 1) 0).length → tokC sg r j ((tkl sg sz (sz + 1) 0).getD j (0, 0)) := fun j hj => by have := h4 j hj; rw [Nat.zero_add] at this; exact this
  refine ⟨⟨by show (tkl sg sz (sz + 1) 0).length ≤ 1200; omega, h2, fun i hi => (h4 i hi).2.2.1, fun i hi => ?_, fun i hi ht => ?_, fun i hi => ?_⟩, h1, fun i hi => ⟨rfl, rfl, fun _ => rfl⟩⟩
  · by_cases e : i = (tkl sg sz (sz + 1) 0).length
    · subst e; show 1 ≤ gK r 113 _ ∧ gK r 113 _ ≤ 34; rw [h2]; decide
    · exact (h4 i (by have : i ≤ (tkl sg sz (sz + 1) 0).length := hi; omega)).2.2.2
  · have hlt : i < (tkl sg sz (sz + 1) 0).length := by
      by_cases e : i = (tkl sg sz (sz + 1) 0).length
      · subst e
        have ht : gK r 113 (tkl sg sz (sz + 1) 0).length = 3 := ht
        rw [h2] at ht; exact absurd ht (by decide)
      · have : i ≤ (tkl sg sz (sz + 1) 0).length := hi; omega
    have hc := (h4 i hlt).2.1
    obtain ⟨g1, g2, g3, g4, g5⟩ := f2 i hlt
    have ht : gK r 113 i = 3 := ht
    by_cases s2 : srt (sg ((tkl sg sz (sz + 1) 0).getD i (0, 0)).1) = 2
    · have c2 := hc.1 s2
      by_cases h6 : ((tkl sg sz (sz + 1) 0).getD i (0, 0)).2 - ((tkl sg sz (sz + 1) 0).getD i (0, 0)).1 ≤ 6
      · have e := (c2.1 h6).2
        have hv := v10_in (sg := sg) (a := ((tkl sg sz (sz + 1) 0).getD i (0, 0)).1) (fun k hk => srt2.mp (by rw [g4 _ (by omega) (by omega)]; exact s2)) h6
        show 0 ≤ (gI r 115 i).toInt ∧ (gI r 115 i).toInt ≤ 999999
        rw [e]; omega
      · have := c2.2 (by omega)
        rw [ht] at this; exact absurd this (by decide)
    · exact absurd ht (SpId_ne (hc.2 s2) g1).2
  · show 0 ≤ (gI r 114 i).toInt ∧ (gI r 114 i).toInt ≤ 1200
    by_cases e : i = (tkl sg sz (sz + 1) 0).length
    · subst e
      have : (gI r 114 (tkl sg sz (sz + 1) 0).length).toInt = (sz : Int) := h3
      omega
    · have hlt : i < (tkl sg sz (sz + 1) 0).length := by have : i ≤ (tkl sg sz (sz + 1) 0).length := hi; omega
      have h5 : (gI r 114 i).toInt = (((tkl sg sz (sz + 1) 0).getD i (0, 0)).1 : Int) := (h4 i hlt).1
      have := f2 i hlt
      omega
theorem env_R {sg : Nat → Int32} {sz : Nat} {u r u' q : MT} (h : scP sg u 0 sz (tkl sg sz (sz + 1) 0) r) (h' : cuP sg u' 0 sz (tkl sg sz (sz + 1) 0) q) (hw : ∀ w, w < 24 → gL q 172 w = wv.getD w 0) : EnvR (envOf r (tkl sg sz (sz + 1) 0).length) q := by
  obtain ⟨h1, h2, h3, h4, _⟩ := h
  obtain ⟨k1, k2, _, _, k5, _, _⟩ := h'
  obtain ⟨f1, f2⟩ := tkl_far (sg := sg) (sz := sz) (sz + 1) 0 (by omega) (by omega)
  rw [Nat.zero_add] at h1 h2 h3 k1 k2
  refine ⟨fun i hi => ?_, hw⟩
  by_cases e : i = (tkl sg sz (sz + 1) 0).length
  · subst e
    refine ⟨?_, k2.inj h3⟩
    show TR (gK r 113 _) _ _ _
    rw [h2, k1]; exact TR_end
  · have hlt : i < (tkl sg sz (sz + 1) 0).length := by have : i ≤ (tkl sg sz (sz + 1) 0).length := hi; omega
    have a1 := h4 i hlt
    have a2 := k5 i hlt
    rw [Nat.zero_add] at a1 a2
    obtain ⟨g1, g2, g3, g4, g5⟩ := f2 i hlt
    exact ⟨tok_same g1 g3 g4 g5 a1.2.1 a2.2, a2.1.inj a1.1⟩
