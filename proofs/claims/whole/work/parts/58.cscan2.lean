/-! ===== the class's scan, whole ===== -/
section
variable {f : Nat} {sg : Nat → Int32} {sz : Nat}
def tokC (sg : Nat → Int32) (r : MT) (q : Nat) (p : Nat × Nat) : Prop := Nm (gI r 114 q) p.1 ∧ CTok sg p.1 p.2 (gK r 113 q) (gI r 115 q) ∧ gK r 113 q ≠ 2 ∧ 1 ≤ gK r 113 q ∧ gK r 113 q ≤ 34
theorem SpId_ne {a b t : Nat} (h : SpId sg a b t) (hab : a < b) : t ≠ 2 ∧ t ≠ 3 := by
  have t0 : tkL.getD (tkX 1) 0 = 0 := rfl
  have t1 : tkL.getD (tkX 2) 0 = 0 := rfl
  rcases h with ⟨e, _⟩ | ⟨i, _, e, hs, _⟩
  · omega
  · refine ⟨fun e2 => ?_, fun e2 => ?_⟩
    · have : i = 1 := by omega
      subst this; omega
    · have : i = 2 := by omega
      subst this; omega
theorem c_scanToken {u : MT} (hf : 1300 < f) (h : TpC sg sz u) {a b l : Nat} {x y : Int32} (ha : Nm x a) (hb : Nm y b) (hab : a < b) (hbs : b ≤ sz) (hl : Nm (gI u 112 3) l) (hl' : l < 1201) (hall : ∀ k, a ≤ k → k < b → srt (sg k) = srt (sg a)) :
    Ok (F_X3_scanToken f x y u) (fun r => Nm (gI r 112 3) (l + 1) ∧ tokC sg r l (a, b) ∧ (∀ j, j < l → gK r 113 j = gK u 113 j ∧ gI r 114 j = gI u 114 j ∧ gI r 115 j = gI u 115 j) ∧ TpC sg sz r) := by
  have h12 := h.1
  rw [F_X3_scanToken]
  refine Ok.ck (hl.ix hl') ?_
  rw [hl.nat]
  have h1 : TpC sg sz (sI u 114 l x) := h.fr (g_ne _ _ _ _ (by decide)) (fun _ => g_ne _ _ _ _ (by decide))
  have hl1 : Nm (gI (sI u 114 l x) 112 3) l := by rw [g_ne _ _ _ _ (by decide)]; exact hl
  refine Ok.bindE (c_sort h1 (show a < sz by omega) ha) ?_
  dsimp only
  by_cases h2 : srt (sg a) = 2
  · refine Ok.t ((on_lit srt_le 2 (by omega) (show Nm (2 : Int32) 2 from rfl)).mpr h2) ?_
    have hsub : Nm (y - x) (b - a) := hb.sub ha (by omega)
    by_cases h6 : b - a ≤ 6
    · refine Ok.t ((hsub.le (show Nm (6 : Int32) 6 from rfl)).mpr h6) (Ok.ck (hl1.ix hl') ?_)
      have h2' : TpC sg sz (sK (sI u 114 l x) 113 l 3) := h1.fr rfl (fun _ => rfl)
      rw [hl1.nat]
      obtain ⟨z, e1, e2⟩ := c_numAt hf h2' ha hb (by omega) hbs h6 (fun k k1 k2 => by rw [hall k k1 k2, h2])
      have hl2 : Nm (gI (sK (sI u 114 l x) 113 l 3) 112 3) l := hl1
      refine Ok.bindE e1 (Ok.ck (hl2.ix hl') ?_)
      rw [hl2.nat, B_X3_scanToken_87]
      refine Ok.some ⟨?_, ⟨?_, ⟨fun _ => ⟨fun _ => ⟨?_, ?_⟩, fun h => absurd h6 (by omega)⟩, fun h => absurd h2 h⟩, ?_⟩, fun j hj => ⟨?_, ?_, ?_⟩, ?_⟩
      · rw [g_same, g_ne _ _ _ _ (by decide)]; exact hl2.succ (by omega)
      · rw [g_ne _ _ _ _ (by decide), g_ne _ _ _ _ (by decide), g_K, g_same]; exact ha
      · rw [k_I, k_I]; exact k_same _ _ _ _
      · rw [g_ne _ _ _ _ (by decide), g_same]; exact e2
      · rw [k_I, k_I, k_same]; omega
      · rw [k_I, k_I, k_at, if_neg (by omega)]; rfl
      · rw [g_ne _ _ _ _ (by decide), g_ne _ _ _ _ (by decide), g_K, g_nk _ _ _ (by omega)]
      · rw [g_ne _ _ _ _ (by decide), g_nk _ _ _ (by omega), g_K, g_ne _ _ _ _ (by decide)]
      · exact (h2'.fr (g_ne _ _ _ _ (by decide)) (fun _ => g_ne _ _ _ _ (by decide))).fr (g_ne _ _ _ _ (by decide)) (fun _ => g_ne _ _ _ _ (by decide))
    · refine Ok.f (fun e => h6 ((hsub.le (show Nm (6 : Int32) 6 from rfl)).mp e)) (Ok.ck (hl1.ix hl') ?_)
      rw [hl1.nat, B_X3_scanToken_87]
      refine Ok.some ⟨?_, ⟨?_, ⟨fun _ => ⟨fun h => absurd h h6, fun _ => ?_⟩, fun h => absurd h2 h⟩, ?_⟩, fun j hj => ⟨?_, ?_, ?_⟩, ?_⟩
      · rw [g_same]; exact (show Nm (gI (sK (sI u 114 l x) 113 l 1) 112 3) l from hl1).succ (by omega)
      · rw [g_ne _ _ _ _ (by decide), g_K, g_same]; exact ha
      · rw [k_I]; exact k_same _ _ _ _
      · rw [k_I, k_same]; omega
      · rw [k_I, k_at, if_neg (by omega)]; rfl
      · rw [g_ne _ _ _ _ (by decide), g_K, g_nk _ _ _ (by omega)]
      · rw [g_ne _ _ _ _ (by decide), g_K, g_ne _ _ _ _ (by decide)]
      · exact (show TpC sg sz (sK (sI u 114 l x) 113 l 1) from h1.fr rfl (fun _ => rfl)).fr (g_ne _ _ _ _ (by decide)) (fun _ => g_ne _ _ _ _ (by decide))
  · refine Ok.f (fun e => h2 ((on_lit srt_le 2 (by omega) (show Nm (2 : Int32) 2 from rfl)).mp e)) ?_
    obtain ⟨t, e1, e2, e3, e4⟩ := c_spelled hf h1 ha hb (by omega) hbs
    refine Ok.bindE e1 (Ok.ck (hl1.ix hl') (Ok.ck ⟨e3, e4⟩ ?_))
    rw [hl1.nat, B_X3_scanToken_87]
    refine Ok.some ⟨?_, ⟨?_, ⟨fun h => absurd h h2, fun _ => ?_⟩, ?_⟩, fun j hj => ⟨?_, ?_, ?_⟩, ?_⟩
    · rw [g_same]; exact (show Nm (gI (sK (sI u 114 l x) 113 l t) 112 3) l from hl1).succ (by omega)
    · rw [g_ne _ _ _ _ (by decide), g_K, g_same]; exact ha
    · rw [k_I, k_same]; exact e2
    · rw [k_I, k_same]; exact ⟨(SpId_ne e2 hab).1, e3, e4⟩
    · rw [k_I, k_at, if_neg (by omega)]; rfl
    · rw [g_ne _ _ _ _ (by decide), g_K, g_nk _ _ _ (by omega)]
    · rw [g_ne _ _ _ _ (by decide), g_K, g_ne _ _ _ _ (by decide)]
    · exact (show TpC sg sz (sK (sI u 114 l x) 113 l t) from h1.fr rfl (fun _ => rfl)).fr (g_ne _ _ _ _ (by decide)) (fun _ => g_ne _ _ _ _ (by decide))
theorem c_skip {u : MT} (h : TpC sg sz u) {e : Nat} (he : e ≤ sz) : ∀ (d j : Nat) (x : Int32) (m : Nat), Nm x j → j + d = e → (∀ i, j ≤ i → i < e → srt (sg i) ≠ 3 ∧ i ≠ 0 ∧ srt (sg (i - 1)) = srt (sg i)) →
    ∃ y, Nm y e ∧ B_X3_scan_7 f (m + d) x u = B_X3_scan_7 f m y u := by
  have h12 := h.1
  intro d
  induction d with
  | zero => intro j x m hx hj _; exact ⟨x, by rw [← hj]; exact hx, rfl⟩
  | succ d ih =>
    intro j x m hx hj hi
    obtain ⟨y, hy, e1⟩ := ih (j + 1) (x + 1) m (hx.succ (by omega)) (by omega) (fun i h1 h2 => hi i (by omega) h2)
    refine ⟨y, hy, ?_⟩
    have hb := hi j (Nat.le_refl _) (by omega)
    rw [← Nat.add_assoc, B_X3_scan_7, if_neg (fun e => by have := (h.2.1.le hx).mp e; omega), bS (c_begins_t h (show j < sz by omega) hx)]
    dsimp only
    rw [b2i_f (fun e => by rcases e.2 with e1 | e1 | e1; exact hb.1 e1; exact hb.2.1 e1; exact e1 hb.2.2), if_pos rfl]
    exact e1
def scP (sg : Nat → Int32) (u : MT) (l sz : Nat) (TL : List (Nat × Nat)) (r : MT) : Prop :=
  Nm (gI r 112 3) (l + TL.length) ∧ gK r 113 (l + TL.length) = 2 ∧ Nm (gI r 114 (l + TL.length)) sz ∧ (∀ j, j < TL.length → tokC sg r (l + j) (TL.getD j (0, 0))) ∧ ∀ j, j < l → gK r 113 j = gK u 113 j ∧ gI r 114 j = gI u 114 j ∧ gI r 115 j = gI u 115 j
theorem c_scan_loop (hf : 1300 < f) : ∀ (n k : Nat) (u : MT) (x : Int32) (l m : Nat), TpC sg sz u → Nm x k → k ≤ sz → sz < n + k → sz < m + k → Nm (gI u 112 3) l → l ≤ k → (k < sz → srt (sg k) ≠ 0 → (srt (sg k) = 3 ∨ k = 0 ∨ srt (sg (k - 1)) ≠ srt (sg k))) →
    Ok (B_X3_scan_7 f m x u) (scP sg u l sz (tkl sg sz n k)) := by
  intro n
  induction n with
  | zero => intro k u x l m _ _ h1 h2; omega
  | succ n ih =>
    intro k u x l m h hx hk hn hm hl hlk hbd
    have h12 := h.1
    obtain ⟨m, rfl⟩ : ∃ m', m = m' + 1 := ⟨m - 1, by omega⟩
    rw [B_X3_scan_7]
    by_cases hend : sz ≤ k
    · have e : tkl sg sz (n + 1) k = [] := if_pos hend
      rw [e]
      refine Ok.t ((h.2.1.le hx).mpr hend) (Ok.ck (hl.ix (by omega)) ?_)
      rw [hl.nat]
      have hl1 : Nm (gI (sK u 113 l 2) 112 3) l := hl
      refine Ok.ck (hl1.ix (by omega)) (Ok.some ?_)
      rw [hl1.nat]
      refine ⟨?_, ?_, ?_, fun j hj => absurd hj (Nat.not_lt_zero j), fun j hj => ⟨?_, ?_, ?_⟩⟩
      · rw [g_ne _ _ _ _ (by decide)]; exact hl1
      · rw [k_I]; exact k_same _ _ _ _
      · rw [show l + ([] : List (Nat × Nat)).length = l from rfl, g_same]; exact h.2.1
      · rw [k_I, k_at, if_neg (by omega)]
      · rw [g_nk _ _ _ (by omega), g_K]
      · rw [g_ne _ _ _ _ (by decide), g_K]
    · have hlt : k < sz := by omega
      refine Ok.f (fun e => hend ((h.2.1.le hx).mp e)) (Ok.bindE (c_begins_t h hlt hx) ?_)
      dsimp only
      by_cases h0 : srt (sg k) = 0
      · have e : tkl sg sz (n + 1) k = tkl sg sz n (k + 1) := by
          show (if sz ≤ k then _ else if _ then _ else _) = _
          rw [if_neg hend, if_pos h0]
        rw [e, b2i_f (fun e => e.1 h0)]
        refine Ok.t rfl ?_
        exact ih (k + 1) u (x + 1) l m h (hx.succ (by omega)) (by omega) (by omega) (by omega) hl (by omega) (fun _ hne => Or.inr (Or.inr (by rw [show k + 1 - 1 = k from rfl, h0]; exact fun e => hne e.symm)))
      · have e : tkl sg sz (n + 1) k = (k, tkE sg sz k) :: tkl sg sz n (tkE sg sz k) := by
          show (if sz ≤ k then _ else if _ then _ else _) = _
          rw [if_neg hend, if_neg h0]
        obtain ⟨t1, t2, t3, t4, t5⟩ := tkE_far sg hlt
        rw [e, b2i_t ⟨h0, hbd hlt h0⟩]
        refine Ok.f ni1 ?_
        obtain ⟨y, hy, e1⟩ := c_tokenEnd (f := f) hf h hlt hx
        refine Ok.bindE e1 (Ok.bind (c_scanToken hf h hx hy t1 t2 hl (by omega) t3) (fun v hv => ?_))
        obtain ⟨v1, v2, v3, v4⟩ := hv
        show Ok (B_X3_scan_7 f m (x + 1) v) _
        obtain ⟨m, hm0⟩ : ∃ m', m = m' + (tkE sg sz k - (k + 1)) := ⟨m - (tkE sg sz k - (k + 1)), by omega⟩
        obtain ⟨z, hz, e2⟩ := c_skip (f := f) v4 t2 (tkE sg sz k - (k + 1)) (k + 1) (x + 1) m (hx.succ (by omega)) (by omega) (fun i i1 i2 => by
          have a1 := t3 i (by omega) i2
          have a2 := t3 (i - 1) (by omega) (by omega)
          refine ⟨fun e3 => ?_, by omega, by rw [a1, a2]⟩
          have := t5 (by rw [← a1]; exact e3)
          omega)
        rw [hm0, e2]
        refine (ih (tkE sg sz k) v z (l + 1) m v4 hz t2 (by omega) (by omega) v1 (by omega) (fun hlt2 hne => ?_)).mono (fun r hr => ?_)
        · by_cases e3 : srt (sg k) = 3
          · rw [t5 e3]
            by_cases e4 : srt (sg (k + 1)) = 3
            · exact Or.inl e4
            · exact Or.inr (Or.inr (by rw [show k + 1 - 1 = k from rfl, e3]; exact fun e => e4 e.symm))
          · have := t4 e3 hlt2
            refine Or.inr (Or.inr ?_)
            rw [t3 (tkE sg sz k - 1) (by omega) (by omega)]
            exact fun e => this e.symm
        · obtain ⟨r1, r2, r3, r4, r5⟩ := hr
          have hlen : l + ((k, tkE sg sz k) :: tkl sg sz n (tkE sg sz k)).length = l + 1 + (tkl sg sz n (tkE sg sz k)).length := by show l + (_ + 1) = _; omega
          refine ⟨by rw [hlen]; exact r1, by rw [hlen]; exact r2, by rw [hlen]; exact r3, fun j hj => ?_, fun j hj => ?_⟩
          · match j with
            | 0 =>
              have hh := r5 l (by omega)
              show tokC sg r l (k, tkE sg sz k)
              unfold tokC at v2 ⊢
              rw [hh.1, hh.2.1, hh.2.2]; exact v2
            | j + 1 =>
              have := r4 j (by have : j + 1 < _ + 1 := hj; omega)
              rw [show l + (j + 1) = l + 1 + j by omega]
              exact this
          · have hh := r5 j (by omega)
            have hv := v3 j hj
            exact ⟨hh.1.trans hv.1, hh.2.1.trans hv.2.1, hh.2.2.trans hv.2.2⟩
theorem c_scan {u : MT} (hf : 1300 < f) (h : TpC sg sz u) : Ok (F_X3_scan f u) (fun r => scP sg (sI u 112 3 0) 0 sz (tkl sg sz (sz + 1) 0) r) := by
  have h12 := h.1
  rw [F_X3_scan]
  exact c_scan_loop hf (sz + 1) 0 _ 0 0 f (h.fr (g_ne _ _ _ _ (by decide)) (fun _ => g_ne _ _ _ _ (by decide))) nm0 (by omega) (by omega) (by omega) (by rw [g_same]; exact nm0) (Nat.le_refl _) (fun _ _ => Or.inr (Or.inl rfl))
/-- what stands in the list -/
theorem tkl_far : ∀ (n k : Nat), k ≤ sz → sz < n + k → (tkl sg sz n k).length + k ≤ sz ∧ ∀ j, j < (tkl sg sz n k).length → ((tkl sg sz n k).getD j (0, 0)).1 < ((tkl sg sz n k).getD j (0, 0)).2 ∧ ((tkl sg sz n k).getD j (0, 0)).2 ≤ sz ∧ srt (sg ((tkl sg sz n k).getD j (0, 0)).1) ≠ 0 ∧ (∀ i, ((tkl sg sz n k).getD j (0, 0)).1 ≤ i → i < ((tkl sg sz n k).getD j (0, 0)).2 → srt (sg i) = srt (sg ((tkl sg sz n k).getD j (0, 0)).1)) ∧ (srt (sg ((tkl sg sz n k).getD j (0, 0)).1) = 3 → ((tkl sg sz n k).getD j (0, 0)).2 = ((tkl sg sz n k).getD j (0, 0)).1 + 1) := by
  intro n
  induction n with
  | zero => intro k h1 h2; omega
  | succ n ih =>
    intro k hk hn
    by_cases hend : sz ≤ k
    · have e : tkl sg sz (n + 1) k = [] := if_pos hend
      rw [e]; exact ⟨by show 0 + k ≤ sz; omega, fun j hj => absurd hj (Nat.not_lt_zero j)⟩
    · by_cases h0 : srt (sg k) = 0
      · have e : tkl sg sz (n + 1) k = tkl sg sz n (k + 1) := by
          show (if sz ≤ k then _ else if _ then _ else _) = _
          rw [if_neg hend, if_pos h0]
        rw [e]
        obtain ⟨a, b⟩ := ih (k + 1) (by omega) (by omega)
        exact ⟨by omega, b⟩
      · have e : tkl sg sz (n + 1) k = (k, tkE sg sz k) :: tkl sg sz n (tkE sg sz k) := by
          show (if sz ≤ k then _ else if _ then _ else _) = _
          rw [if_neg hend, if_neg h0]
        obtain ⟨t1, t2, t3, t4, t5⟩ := tkE_far sg (show k < sz by omega)
        obtain ⟨a, b⟩ := ih (tkE sg sz k) t2 (by omega)
        rw [e]
        refine ⟨by show _ + 1 + k ≤ sz; omega, fun j hj => ?_⟩
        match j with
        | 0 => exact ⟨t1, t2, h0, t3, t5⟩
        | j + 1 => exact b j (by have : j + 1 < _ + 1 := hj; omega)
end
