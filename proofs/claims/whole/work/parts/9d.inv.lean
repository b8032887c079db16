/-! ===== what both hold at any time ===== -/
abbrev AS : Type := VD × XD × XD × Int32 × Int32 × (Nat → Int32) × Nat × Nat × (Nat → Int32)
def aV (A : AS) : VD := A.1
def aX (A : AS) : XD := A.2.1
def aY (A : AS) : XD := A.2.2.1
def aN (A : AS) : Int32 := A.2.2.2.1
def aK (A : AS) : Int32 := A.2.2.2.2.1
def aG (A : AS) : Nat → Int32 := A.2.2.2.2.2.1
def aZ (A : AS) : Nat := A.2.2.2.2.2.2.1
def aB (A : AS) : Nat := A.2.2.2.2.2.2.2.1
def aL (A : AS) : Nat → Int32 := A.2.2.2.2.2.2.2.2
/-- behind c calls -/
def AOk (A : AS) (c : Nat) : Prop := VOk (aV A) ∧ XOk (aV A) (aX A) ∧ XOk (aV A) (aY A) ∧ xtT (aY A) ≤ 1 ∧ (xtT (aY A) = 1 → xtQ (aY A) 0 = 0 ∧ xtD (aY A) 0 = 0) ∧ 0 ≤ (aN A).toInt ∧ (aN A).toInt ≤ 100 * (c : Int) ∧ (aK A = -1 ∨ 0 ≤ (aK A).toInt) ∧ aB A ≤ 10 ∧ ∀ d h, d < aB A → vlN (aV A) ≤ h → h < 12 → aL A (14 * d + h) = 0
def Bkk (V : VD) (X : XD) (b : Nat) (u : MT) : Prop := ∃ W, Nm (gI u b 5) W ∧ W ≤ 240 ∧ Bok V X (gI u b 4) b W u
def pOk (p : Nat) : Prop := p = 140 ∨ 216 ≤ p
/-- what the layout says of texts, draft, other book -/
def LOk (A : AS) (w : LT) : Prop := 216 < w.1 ∧ (∀ t, t < xtT (aX A) → pOk (lt_p w 129 t) ∧ lt_p w 129 t ≠ lt_p w 100 10 ∧ (xtT (aY A) = 1 → lt_p w 129 t ≠ lt_p w 139 0)) ∧ (lt_t w (lt_p w 100 10) = 7 ∧ pOk (lt_p w 100 10)) ∧
  (xtT (aY A) = 1 → pOk (lt_p w 139 0) ∧ lt_p w 139 0 ≠ lt_p w 100 10 ∧ lt_t w (lt_p w 100 9) = 1 ∧ lt_p w (lt_p w 100 9) 2 = 138 ∧ 216 ≤ lt_p w 100 9) ∧ (xtT (aY A) = 0 → lt_p w 139 0 = 0 ∧ lt_p w 100 9 = 0)
def ICl (A : AS) (w : LT) (u : MT) : Prop := VC (aV A) u ∧ XC w (aX A) 128 u ∧ XC w (aY A) 138 u ∧ gI u 100 11 = aN A ∧ gI u 100 12 = aK A ∧ TpC (aG A) (aZ A) u ∧ Nm (gI u 136 1) (aB A) ∧
  (∀ d, d < aB A → (∀ h, h < 12 → gI u 137 (14 * d + h + 2) = aL A (14 * d + h)) ∧ gI u 137 (14 * d + 1) = aL A (14 * d + 12) ∧ gI u 137 (14 * d) = aL A (14 * d + 13)) ∧ (∀ j, 14 * aB A ≤ j → j < 140 → gI u 137 j = 0) ∧
  Bkk (aV A) (aX A) 130 u ∧ (xtT (aY A) = 1 → Bkk (aV A) (aY A) (lt_p w 100 9) u)
def IRf (A : AS) (u : MT) : Prop := VR (aV A) u ∧ XR0 (aX A) u ∧ XR1 (aX A) id u ∧ XR1 (aY A) (fun _ => 6) u ∧ Nm (gI u 167 25) (xtT (aY A)) ∧ gI u 167 40 = aN A ∧ gI u 167 41 = aK A ∧ TpR0 (aG A) (aZ A) u ∧ (∀ k, k < 24 → gL u 172 k = wv.getD k 0) ∧ Nm (gI u 167 73) (aB A) ∧ ∀ j, j < 14 * aB A → gI u 215 j = aL A j
def FrC (u v : MT) : Prop := (∀ a j, 167 ≤ a → a ≤ 215 → gI v a j = gI u a j) ∧ ∀ j, gL v 172 j = gL u 172 j
def FrR (u v : MT) : Prop := (∀ a j, (a < 167 ∨ 215 < a) → gI v a j = gI u a j) ∧ (∀ a j, gK v a j = gK u a j) ∧ ∀ j, gL v 172 j = gL u 172 j
theorem Sfr.of {u v : MT} (h : ∀ a j, 167 ≤ a → a ≤ 215 → gI v a j = gI u a j) : Sfr u v := ⟨fun a j h1 h2 => h a j (by omega) (by omega), h _ _ (by decide) (by decide), h _ _ (by decide) (by decide), h _ _ (by decide) (by decide), h _ _ (by decide) (by decide), h _ _ (by decide) (by decide)⟩
theorem IRf.fr {A : AS} {u v : MT} (h : IRf A u) (hF : FrC u v) : IRf A v := by
  obtain ⟨a1, a2, a3, a4, a5, a6, a7, a8, a9, a10, a11⟩ := h
  have s := Sfr.of hF.1
  refine ⟨a1.fr s, a2.fr s, a3.fr s, a4.fr s, by rw [hF.1 _ _ (by decide) (by decide)]; exact a5, by rw [hF.1 _ _ (by decide) (by decide)]; exact a6, by rw [hF.1 _ _ (by decide) (by decide)]; exact a7, ⟨a8.1, by rw [hF.1 _ _ (by decide) (by decide)]; exact a8.2.1, fun k hk => by rw [hF.1 _ _ (by decide) (by decide)]; exact a8.2.2 k hk⟩, fun k hk => by rw [hF.2]; exact a9 k hk, by rw [hF.1 _ _ (by decide) (by decide)]; exact a10, fun j hj => by rw [hF.1 _ _ (by decide) (by decide)]; exact a11 j hj⟩
theorem pOk.in {p a : Nat} (h : pOk p) (h1 : p ≤ a) (h2 : a ≤ p + 26) : a < 167 ∨ 215 < a := by
  rcases h with h | h <;> omega
theorem Bok.fr {V : VD} {X : XD} {d : Int32} {b W : Nat} {u v : MT} (h : Bok V X d b W u) (hu : ∀ a j, b < a → a ≤ b + 5 → gI v a j = gI u a j) : Bok V X d b W v :=
  ⟨fun q hq => Brow_cg rfl rfl rfl (fun q' hq' => ⟨fun h => ⟨rfl, rfl, rfl⟩, fun s => rfl⟩) hu (h.1 q hq), fun q k hq hn hh => by rw [hu _ _ (by omega) (by omega), hu _ _ (by omega) (by omega), hu _ _ (by omega) (by omega)]; exact h.2.1 q k hq hn hh, fun q k hq hn hh => by rw [hu _ _ (by omega) (by omega)]; exact h.2.2 q k hq hn hh⟩
theorem Bkk.fr {V : VD} {X : XD} {b : Nat} {u v : MT} (h : Bkk V X b u) (hu : ∀ a j, b ≤ a → a ≤ b + 5 → gI v a j = gI u a j) : Bkk V X b v := by
  obtain ⟨W, h1, h2, h3⟩ := h
  exact ⟨W, by rw [hu _ _ (by omega) (by omega)]; exact h1, h2, by rw [hu b 4 (by omega) (by omega)]; exact h3.fr (fun a j e1 e2 => hu a j (by omega) e2)⟩
theorem XC.fr3 {w : LT} {V : VD} {X : XD} {ts : Nat} {u v : MT} (h : XC w X ts u) (hX : XOk V X) (h0 : gI v ts 1 = gI u ts 1) (hI : ∀ t, t < xtT X → ∀ a j, lt_p w (ts + 1) t ≤ a → a ≤ lt_p w (ts + 1) t + 26 → gI v a j = gI u a j ∧ gK v a j = gK u a j) : XC w X ts v := by
  obtain ⟨a1, a2⟩ := h
  refine ⟨by rw [h0]; exact a1, fun t ht => ?_⟩
  obtain ⟨c1, c2, c3, c4, c5⟩ := a2 t ht
  have d := hI t ht
  exact ⟨c1, c2, by rw [(d _ _ (by omega) (by omega)).1]; exact c3, by rw [(d _ _ (by omega) (by omega)).1]; exact c4, c5.fr2 (hX.2 t ht).2.2.2.1 (fun a k h1 h2 => (d _ _ h1 h2).1) (fun a k h1 h2 => (d _ _ h1 h2).2)⟩
theorem ICl.fr {A : AS} {c : Nat} {w : LT} {u v : MT} (h : ICl A w u) (hA : AOk A c) (hL : LOk A w) (hF : FrR u v) : ICl A w v := by
  obtain ⟨a1, a2, a3, a4, a5, a6, a7, a8, a9, a10, a11⟩ := h
  have hI := hF.1
  refine ⟨a1.fr (fun a j h => hI _ _ (by omega)) (hI _ _ (by decide)) (hI _ _ (by decide)), a2.fr3 hA.2.1 (hI _ _ (by decide)) (fun t ht a j h1 h2 => ⟨hI _ _ ((hL.2.1 t ht).1.in h1 h2), hF.2.1 _ _⟩), a3.fr3 hA.2.2.1 (hI _ _ (by decide)) (fun t ht a j h1 h2 => ⟨hI _ _ ?_, hF.2.1 _ _⟩), by rw [hI _ _ (by decide)]; exact a4, by rw [hI _ _ (by decide)]; exact a5, ⟨a6.1, by rw [hI _ _ (by decide)]; exact a6.2.1, fun k hk => by rw [hI _ _ (by decide)]; exact a6.2.2 k hk⟩, by rw [hI _ _ (by decide)]; exact a7, fun d hd => ⟨fun h hh => by rw [hI _ _ (by decide)]; exact (a8 d hd).1 h hh, by rw [hI _ _ (by decide)]; exact (a8 d hd).2.1, by rw [hI _ _ (by decide)]; exact (a8 d hd).2.2⟩, fun j h1 h2 => by rw [hI _ _ (by decide)]; exact a9 j h1 h2, a10.fr (fun a j h1 h2 => hI _ _ (by omega)), fun hy => (a11 hy).fr (fun a j h1 h2 => hI _ _ (by have := (hL.2.2.2.1 hy).2.2.2.2; omega))⟩
  have hy := hA.2.2.2.1
  have e1 : xtT (aY A) = 1 := by omega
  have e2 : t = 0 := by omega
  subst e2
  exact (hL.2.2.2.1 e1).1.in h1 h2
/-! kinds keep cells apart -/
theorem lay_tb {w : LT} (hL : Lay w) {t b : Nat} (h7 : lt_t w t = 7) (h1 : lt_t w b = 1) : t + 26 < b ∨ b + 5 < t := by
  obtain ⟨t0, _, t1, _, _, t2, _, t3⟩ := hL.2.2.1 t h7
  obtain ⟨b0, _, _, _, _, ⟨_, b1, _⟩, ⟨_, b2, _⟩, ⟨_, b3, _⟩, ⟨_, b4, _⟩, ⟨_, b5, _⟩, _⟩ := hL.2.2.2 b h1
  rcases Nat.lt_or_ge (t + 26) b with c | c
  · exact Or.inl c
  rcases Nat.lt_or_ge (b + 5) t with c2 | c2
  · exact Or.inr c2
  exfalso
  rcases Nat.lt_or_ge b t with e | e
  · have : t = b + 1 ∨ t = b + 2 ∨ t = b + 3 ∨ t = b + 4 ∨ t = b + 5 := by omega
    rcases this with r | r | r | r | r <;> subst r <;> omega
  · rcases Nat.lt_or_ge b (t + 3) with e2 | e2
    · have : b = t ∨ b = t + 1 ∨ b = t + 2 := by omega
      rcases this with r | r | r <;> subst r <;> omega
    · have := (t3 (b - (t + 3)) (by omega)).2
      rw [show t + 3 + (b - (t + 3)) = b by omega] at this
      omega
theorem lay_tt {w : LT} (hL : Lay w) {t s : Nat} (h7 : lt_t w t = 7) (h1 : lt_t w s = 7) (hn : t ≠ s) : t + 26 < s ∨ s + 26 < t := by
  have key : ∀ {t s : Nat}, lt_t w t = 7 → lt_t w s = 7 → t < s → t + 26 < s := by
    intro t s h7 h1 hlt
    obtain ⟨t0, _, t1, _, _, t2, _, t3⟩ := hL.2.2.1 t h7
    rcases Nat.lt_or_ge (t + 26) s with c | c
    · exact c
    exfalso
    rcases Nat.lt_or_ge s (t + 3) with e2 | e2
    · have : s = t + 1 ∨ s = t + 2 := by omega
      rcases this with r | r <;> subst r <;> omega
    · have := (t3 (s - (t + 3)) (by omega)).2
      rw [show t + 3 + (s - (t + 3)) = s by omega] at this
      omega
  rcases Nat.lt_or_ge t s with c | c
  · exact Or.inl (key h7 h1 c)
  · exact Or.inr (key h1 h7 (by omega))
theorem lay_bb {w : LT} (hL : Lay w) {b c : Nat} (h1 : lt_t w b = 1) (h2 : lt_t w c = 1) (hn : b ≠ c) : b + 5 < c ∨ c + 5 < b := by
  have key : ∀ {b c : Nat}, lt_t w b = 1 → lt_t w c = 1 → b < c → b + 5 < c := by
    intro b c h1 h2 hlt
    obtain ⟨b0, _, _, _, _, ⟨_, b1, _⟩, ⟨_, b2, _⟩, ⟨_, b3, _⟩, ⟨_, b4, _⟩, ⟨_, b5, _⟩, _⟩ := hL.2.2.2 b h1
    rcases Nat.lt_or_ge (b + 5) c with e | e
    · exact e
    exfalso
    have : c = b + 1 ∨ c = b + 2 ∨ c = b + 3 ∨ c = b + 4 ∨ c = b + 5 := by omega
    rcases this with r | r | r | r | r <;> subst r <;> omega
  rcases Nat.lt_or_ge b c with e | e
  · exact Or.inl (key h1 h2 e)
  · exact Or.inr (key h2 h1 (by omega))
theorem Dj_of {w : LT} {X : XD} {ts b : Nat} {u : MT} (hL : Lay w) (hX : XC w X ts u) (hb : lt_t w b = 1) (hts : ts < b ∨ b + 5 < ts) : Dj w X ts b := ⟨hts, fun t ht => lay_tb hL (hX.2 t ht).1 hb⟩
