/-! ===== the TAPE is cut into tokens: the reference ===== -/
def v37 (sg : Nat → Int32) (a : Nat) : Nat → Int
  | 0 => 0
  | n + 1 => 37 * v37 sg a n + ((sg (a + n)).toInt - 96)
def sgn (c : Int32) : Prop := c = 40 ∨ c = 41 ∨ c = 59 ∨ c = 61 ∨ c = 60 ∨ c = 43 ∨ c = 45
def RTok (sg : Nat → Int32) (a b : Nat) (s : Int32) (v : Int64) : Prop :=
  (srt (sg a) = 1 → (b - a ≤ 8 → s = 1 ∧ v.toInt = v37 sg a (b - a)) ∧ (8 < b - a → s = 4)) ∧
  (srt (sg a) = 2 → (b - a ≤ 6 → s = 2 ∧ v.toInt = v10 sg a (b - a)) ∧ (6 < b - a → s = 4)) ∧
  (srt (sg a) = 3 → v = (sg a).toInt64 ∧ (sgn (sg a) → s = 3) ∧ (¬ sgn (sg a) → s = 4))
def tokR (sg : Nat → Int32) (r : MT) (q : Nat) (p : Nat × Nat) : Prop := Nm (gI r 170 q) p.1 ∧ RTok sg p.1 p.2 (gI r 169 q) (gL r 171 q)
theorem l_lo (x : Int64) : -9223372036854775808 ≤ x.toInt := x.le_toInt
theorem l_hi (x : Int64) : x.toInt < 9223372036854775808 := x.toInt_lt
theorem l_add {a b : Int64} (h : -9223372036854775808 ≤ a.toInt + b.toInt) (h' : a.toInt + b.toInt < 9223372036854775808) : (a + b).toInt = a.toInt + b.toInt := by
  rw [Int64.toInt_add]; exact Int.bmod_eq_of_le (by simpa using h) (by simpa using h')
theorem l_sub {a b : Int64} (h : -9223372036854775808 ≤ a.toInt - b.toInt) (h' : a.toInt - b.toInt < 9223372036854775808) : (a - b).toInt = a.toInt - b.toInt := by
  rw [Int64.toInt_sub]; exact Int.bmod_eq_of_le (by simpa using h) (by simpa using h')
theorem l_mul {a b : Int64} (h : -9223372036854775808 ≤ a.toInt * b.toInt) (h' : a.toInt * b.toInt < 9223372036854775808) : (a * b).toInt = a.toInt * b.toInt := by
  rw [Int64.toInt_mul]; exact Int.bmod_eq_of_le (by simpa using h) (by simpa using h')
theorem srt_cases {c : Int32} : (srt c = 0 ∧ (c = 10 ∨ c = 32)) ∨ (srt c = 1 ∧ 97 ≤ c.toInt ∧ c.toInt ≤ 122) ∨ (srt c = 2 ∧ 48 ≤ c.toInt ∧ c.toInt ≤ 57) ∨ (srt c = 3 ∧ ¬ (c = 10 ∨ c = 32) ∧ ¬ (97 ≤ c.toInt ∧ c.toInt ≤ 122) ∧ ¬ (48 ≤ c.toInt ∧ c.toInt ≤ 57)) := by
  unfold srt
  by_cases h1 : c = 10 ∨ c = 32
  · rw [if_pos h1]; exact Or.inl ⟨rfl, h1⟩
  · rw [if_neg h1]
    by_cases h2 : 97 ≤ c.toInt ∧ c.toInt ≤ 122
    · rw [if_pos h2]; exact Or.inr (Or.inl ⟨rfl, h2⟩)
    · rw [if_neg h2]
      by_cases h3 : 48 ≤ c.toInt ∧ c.toInt ≤ 57
      · rw [if_pos h3]; exact Or.inr (Or.inr (Or.inl ⟨rfl, h3⟩))
      · rw [if_neg h3]; exact Or.inr (Or.inr (Or.inr ⟨rfl, h1, h2, h3⟩))
theorem srt1 {c : Int32} : srt c = 1 ↔ 97 ≤ c.toInt ∧ c.toInt ≤ 122 := by
  rcases @srt_cases c with ⟨e, h⟩ | ⟨e, h⟩ | ⟨e, h⟩ | ⟨e, h⟩
  · rw [e]
    have h10 : (10 : Int32).toInt = 10 := rfl
    have h32 : (32 : Int32).toInt = 32 := rfl
    refine ⟨fun h => by omega, fun h' => ?_⟩
    rcases h with h | h <;> subst h <;> omega
  · rw [e]; exact ⟨fun _ => h, fun _ => rfl⟩
  · rw [e]; exact ⟨fun h => by omega, fun h' => by omega⟩
  · rw [e]; exact ⟨fun h => by omega, fun h' => absurd h' h.2.1⟩
theorem srt2 {c : Int32} : srt c = 2 ↔ 48 ≤ c.toInt ∧ c.toInt ≤ 57 := by
  rcases @srt_cases c with ⟨e, h⟩ | ⟨e, h⟩ | ⟨e, h⟩ | ⟨e, h⟩
  · rw [e]
    have h10 : (10 : Int32).toInt = 10 := rfl
    have h32 : (32 : Int32).toInt = 32 := rfl
    refine ⟨fun h => by omega, fun h' => ?_⟩
    rcases h with h | h <;> subst h <;> omega
  · rw [e]; exact ⟨fun h => by omega, fun h' => by omega⟩
  · rw [e]; exact ⟨fun _ => h, fun _ => rfl⟩
  · rw [e]; exact ⟨fun h => by omega, fun h' => absurd h' h.2.2⟩
theorem v37_in {sg : Nat → Int32} {a n : Nat} (hd : ∀ k, k < n → 97 ≤ (sg (a + k)).toInt ∧ (sg (a + k)).toInt ≤ 122) (hn : n ≤ 8) : 0 ≤ v37 sg a n ∧ v37 sg a n < 4000000000000 := by
  have p : ∀ k, k ≤ n → 0 ≤ v37 sg a k ∧ v37 sg a k < 37 ^ k := by
    intro k
    induction k with
    | zero => intro _; exact ⟨by show (0 : Int) ≤ 0; omega, by show (0 : Int) < 1; omega⟩
    | succ k ih =>
      intro hk
      have := ih (by omega)
      have h1 := hd k (by omega)
      have e : (37 : Int) ^ (k + 1) = 37 ^ k * 37 := Int.pow_succ 37 k
      refine ⟨?_, ?_⟩
      · show 0 ≤ 37 * v37 sg a k + _
        omega
      · show 37 * v37 sg a k + _ < _
        rw [e]; omega
  have q := p n (Nat.le_refl _)
  have m : ∀ n, n ≤ 8 → (37 : Int) ^ n ≤ 4000000000000 := by decide
  have r := m n hn
  exact ⟨q.1, by omega⟩
section
variable {f : Nat} {sg : Nat → Int32} {sz : Nat}
def TpR (sg : Nat → Int32) (sz : Nat) (u : MT) : Prop := sz ≤ 1200 ∧ Nm (gI u 167 3) sz ∧ ∀ k, k < sz → gI u 168 k = sg k
theorem TpR.fr {u v : MT} (h : TpR sg sz u) (h1 : gI v 167 3 = gI u 167 3) (h2 : ∀ k, gI v 168 k = gI u 168 k) : TpR sg sz v := ⟨h.1, by rw [h1]; exact h.2.1, fun k hk => by rw [h2]; exact h.2.2 k hk⟩
theorem r_isLetter {u : MT} {c : Int32} : F_X12_isLetter f c u = some (b2i (srt c = 1), u) := by
  have e97 : (97 : Int32).toInt = 97 := rfl
  have e122 : (122 : Int32).toInt = 122 := rfl
  rw [F_X12_isLetter]
  by_cases h1 : c < 97
  · rw [if_pos h1, b2i_f (fun e => by have := i_lt.mp h1; have := srt1.mp e; omega)]
  · have h1' : ¬ c.toInt < 97 := fun e => h1 (i_lt.mpr (by rw [e97]; exact e))
    rw [if_neg h1]
    by_cases h2 : 122 < c
    · have h2' := i_lt.mp h2
      rw [if_pos h2, b2i_f (fun e => by have := srt1.mp e; omega)]
    · have h2' : ¬ 122 < c.toInt := fun e => h2 (i_lt.mpr (by rw [e122]; exact e))
      rw [if_neg h2, b2i_t (srt1.mpr (by omega))]
theorem r_isDigit {u : MT} {c : Int32} : F_X12_isDigit f c u = some (b2i (srt c = 2), u) := by
  have e97 : (48 : Int32).toInt = 48 := rfl
  have e122 : (57 : Int32).toInt = 57 := rfl
  rw [F_X12_isDigit]
  by_cases h1 : c < 48
  · rw [if_pos h1, b2i_f (fun e => by have := i_lt.mp h1; have := srt2.mp e; omega)]
  · have h1' : ¬ c.toInt < 48 := fun e => h1 (i_lt.mpr (by rw [e97]; exact e))
    rw [if_neg h1]
    by_cases h2 : 57 < c
    · have h2' := i_lt.mp h2
      rw [if_pos h2, b2i_f (fun e => by have := srt2.mp e; omega)]
    · have h2' : ¬ 57 < c.toInt := fun e => h2 (i_lt.mpr (by rw [e122]; exact e))
      rw [if_neg h2, b2i_t (srt2.mpr (by omega))]
theorem r_isSignOf {u : MT} {c : Int32} : ∃ y, F_X12_isSignOf f c u = some (y, u) ∧ ((y = 1 ∧ sgn c) ∨ (y = 0 ∧ ¬ sgn c)) := by
  unfold F_X12_isSignOf sgn
  by_cases h1 : c = 40
  · rw [if_pos h1]; exact ⟨1, rfl, Or.inl ⟨rfl, Or.inl h1⟩⟩
  rw [if_neg h1]
  by_cases h2 : c = 41
  · rw [if_pos h2]; exact ⟨1, rfl, Or.inl ⟨rfl, Or.inr (Or.inl h2)⟩⟩
  rw [if_neg h2]
  by_cases h3 : c = 59
  · rw [if_pos h3]; exact ⟨1, rfl, Or.inl ⟨rfl, Or.inr (Or.inr (Or.inl h3))⟩⟩
  rw [if_neg h3]
  by_cases h4 : c = 61
  · rw [if_pos h4]; exact ⟨1, rfl, Or.inl ⟨rfl, Or.inr (Or.inr (Or.inr (Or.inl h4)))⟩⟩
  rw [if_neg h4]
  by_cases h5 : c = 60
  · rw [if_pos h5]; exact ⟨1, rfl, Or.inl ⟨rfl, Or.inr (Or.inr (Or.inr (Or.inr (Or.inl h5))))⟩⟩
  rw [if_neg h5]
  by_cases h6 : c = 43
  · rw [if_pos h6]; exact ⟨1, rfl, Or.inl ⟨rfl, Or.inr (Or.inr (Or.inr (Or.inr (Or.inr (Or.inl h6)))))⟩⟩
  rw [if_neg h6]
  by_cases h7 : c = 45
  · rw [if_pos h7]; exact ⟨1, rfl, Or.inl ⟨rfl, Or.inr (Or.inr (Or.inr (Or.inr (Or.inr (Or.inr h7)))))⟩⟩
  rw [if_neg h7]
  exact ⟨0, rfl, Or.inr ⟨rfl, fun e => by rcases e with e | e | e | e | e | e | e <;> contradiction⟩⟩
theorem r_rank {u : MT} {c : Int32} (h : srt c = 1) : F_X12_rank f c u = some (c - 96, u) := by
  rw [F_X12_rank, bS r_isLetter]
  dsimp only
  rw [b2i_t h, if_neg ni1]
/-- letters to their end -/
theorem r_letters {j17 : Int32 → Int32 → MT → Option MT} {u : MT} (h : TpR sg sz u) {a nt : Nat} {x1 x4 : Int32} (ha : Nm x4 a) (h1 : Nm x1 nt) (hnt : nt < 1202) (hs : srt (sg a) = 1) : ∀ (d k : Nat) (x2 : Int32) (x5 : Int64) (m : Nat), Nm x2 k → a ≤ k → k ≤ sz → sz ≤ k + d → sz < m + k → (∀ j, a ≤ j → j < k → srt (sg j) = 1) → x5.toInt = v37 sg a (if k - a ≤ 8 then k - a else 8) →
    ∃ y s v, Nm y (rE sg sz 1 d k) ∧ B_X12_cutAll_70 f j17 m x1 x2 x4 x5 u = j17 (x1 + 1) y (sL (sI u 169 nt s) 171 nt v) ∧ (rE sg sz 1 d k - a ≤ 8 → s = 1 ∧ v.toInt = v37 sg a (rE sg sz 1 d k - a)) ∧ (8 < rE sg sz 1 d k - a → s = 4) := by
  have h12 := h.1
  have fin : ∀ (k : Nat) (x2 : Int32) (x5 : Int64), Nm x2 k → a ≤ k → k ≤ sz → x5.toInt = v37 sg a (if k - a ≤ 8 then k - a else 8) → ∃ s v, B_X12_cutAll_129 f j17 x1 x2 x4 x5 u = j17 (x1 + 1) x2 (sL (sI u 169 nt s) 171 nt v) ∧ (k - a ≤ 8 → s = 1 ∧ v.toInt = v37 sg a (k - a)) ∧ (8 < k - a → s = 4) := by
    intro k x2 x5 hx hak hks hv
    have hsub : Nm (x2 - x4) (k - a) := hx.sub ha hak
    rw [B_X12_cutAll_129]
    by_cases h8 : k - a ≤ 8
    · rw [if_pos ((hsub.le (show Nm (8 : Int32) 8 from rfl)).mpr h8), B_X12_cutAll_148, ck_p (h1.ix hnt), h1.nat, B_X12_cutAll_267, ck_p (h1.ix hnt), h1.nat]
      rw [if_pos h8] at hv
      exact ⟨1, x5, rfl, fun _ => ⟨rfl, hv⟩, fun h => absurd h8 (by omega)⟩
    · rw [if_neg (fun e => h8 ((hsub.le (show Nm (8 : Int32) 8 from rfl)).mp e)), B_X12_cutAll_148, ck_p (h1.ix hnt), h1.nat, B_X12_cutAll_267, ck_p (h1.ix hnt), h1.nat]
      exact ⟨4, x5, rfl, fun h => absurd h h8, fun _ => rfl⟩
  intro d
  induction d with
  | zero =>
    intro k x2 x5 m hx hak hk hn hm hall hv
    obtain ⟨m, rfl⟩ : ∃ m', m = m' + 1 := ⟨m - 1, by omega⟩
    obtain ⟨s, v, e1, e2⟩ := fin k x2 x5 hx hak hk hv
    refine ⟨x2, s, v, hx, ?_, e2⟩
    rw [B_X12_cutAll_70, if_pos ((h.2.1.le hx).mpr (by omega)), e1]
  | succ d ih =>
    intro k x2 x5 m hx hak hk hn hm hall hv
    obtain ⟨m, rfl⟩ : ∃ m', m = m' + 1 := ⟨m - 1, by omega⟩
    obtain ⟨s, v, e1, e2⟩ := fin k x2 x5 hx hak hk hv
    by_cases hlt : k < sz
    · by_cases he : srt (sg k) = 1
      · rw [show rE sg sz 1 (d + 1) k = rE sg sz 1 d (k + 1) from if_pos ⟨hlt, he⟩, B_X12_cutAll_70, if_neg (fun e => by have := (h.2.1.le hx).mp e; omega), ck_p (hx.ix (by omega)), hx.nat, h.2.2 k hlt, bS r_isLetter]
        dsimp only
        rw [b2i_t he, if_neg ni1]
        have hsub : Nm (x2 - x4) (k - a) := hx.sub ha hak
        have hall' : ∀ j, a ≤ j → j < k + 1 → srt (sg j) = 1 := fun j j1 j2 => by
          by_cases e : j = k
          · subst e; exact he
          · exact hall j j1 (by omega)
        by_cases h8 : 8 ≤ k - a
        · rw [if_pos ((Nm.le (show Nm (8 : Int32) 8 from rfl) hsub).mpr h8), B_X12_cutAll_121]
          refine ih (k + 1) (x2 + 1) x5 m (hx.succ (by omega)) (by omega) (by omega) (by omega) (by omega) hall' ?_
          rw [hv]
          by_cases e8 : k - a ≤ 8
          · rw [if_pos e8, if_neg (by omega), show k - a = 8 by omega]
          · rw [if_neg e8, if_neg (by omega)]
        · rw [if_neg (fun e => h8 ((Nm.le (show Nm (8 : Int32) 8 from rfl) hsub).mp e)), h.2.2 k hlt, bS (r_rank he)]
          dsimp only
          rw [B_X12_cutAll_121]
          refine ih (k + 1) (x2 + 1) _ m (hx.succ (by omega)) (by omega) (by omega) (by omega) (by omega) hall' ?_
          rw [if_pos (by omega)] at hv
          rw [if_pos (by omega), show k + 1 - a = (k - a) + 1 by omega]
          have hd := srt1.mp he
          have hvi := v37_in (sg := sg) (a := a) (n := k - a) (fun j hj => srt1.mp (hall (a + j) (by omega) (by omega))) (by omega)
          have e37 : (37 : Int64).toInt = 37 := rfl
          have e96 : (96 : Int32).toInt = 96 := rfl
          have em : ((37 : Int64) * x5).toInt = 37 * v37 sg a (k - a) := by rw [l_mul (by rw [hv, e37]; omega) (by rw [hv, e37]; omega), hv, e37]
          have es : ((sg k - 96).toInt64).toInt = (sg k).toInt - 96 := by rw [Int32.toInt_toInt64, i_sub (by rw [e96]; omega) (by rw [e96]; omega), e96]
          rw [l_add (by rw [em, es]; omega) (by rw [em, es]; omega), em, es]
          show _ = 37 * v37 sg a (k - a) + ((sg (a + (k - a))).toInt - 96)
          rw [show a + (k - a) = k by omega]
      · rw [show rE sg sz 1 (d + 1) k = k from if_neg (fun e => he e.2)]
        refine ⟨x2, s, v, hx, ?_, e2⟩
        rw [B_X12_cutAll_70, if_neg (fun e => by have := (h.2.1.le hx).mp e; omega), ck_p (hx.ix (by omega)), hx.nat, h.2.2 k hlt, bS r_isLetter]
        dsimp only
        rw [b2i_f he, if_pos rfl, e1]
    · rw [show rE sg sz 1 (d + 1) k = k from if_neg (fun e => hlt e.1)]
      refine ⟨x2, s, v, hx, ?_, e2⟩
      rw [B_X12_cutAll_70, if_pos ((h.2.1.le hx).mpr (by omega)), e1]
/-- digits to their end -/
theorem r_digits {j17 : Int32 → Int32 → MT → Option MT} {u : MT} (h : TpR sg sz u) {a nt : Nat} {x1 x4 : Int32} (ha : Nm x4 a) (h1 : Nm x1 nt) (hnt : nt < 1202) (hs : srt (sg a) = 2) : ∀ (d k : Nat) (x2 : Int32) (x5 : Int64) (m : Nat), Nm x2 k → a ≤ k → k ≤ sz → sz ≤ k + d → sz < m + k → (∀ j, a ≤ j → j < k → srt (sg j) = 2) → x5.toInt = v10 sg a (if k - a ≤ 6 then k - a else 6) →
    ∃ y s v, Nm y (rE sg sz 2 d k) ∧ B_X12_cutAll_159 f j17 m x1 x2 x4 x5 u = j17 (x1 + 1) y (sL (sI u 169 nt s) 171 nt v) ∧ (rE sg sz 2 d k - a ≤ 6 → s = 2 ∧ v.toInt = v10 sg a (rE sg sz 2 d k - a)) ∧ (6 < rE sg sz 2 d k - a → s = 4) := by
  have h12 := h.1
  have fin : ∀ (k : Nat) (x2 : Int32) (x5 : Int64), Nm x2 k → a ≤ k → k ≤ sz → x5.toInt = v10 sg a (if k - a ≤ 6 then k - a else 6) → ∃ s v, B_X12_cutAll_219 f j17 x1 x2 x4 x5 u = j17 (x1 + 1) x2 (sL (sI u 169 nt s) 171 nt v) ∧ (k - a ≤ 6 → s = 2 ∧ v.toInt = v10 sg a (k - a)) ∧ (6 < k - a → s = 4) := by
    intro k x2 x5 hx hak hks hv
    have hsub : Nm (x2 - x4) (k - a) := hx.sub ha hak
    rw [B_X12_cutAll_219]
    by_cases h8 : k - a ≤ 6
    · rw [if_pos ((hsub.le (show Nm (6 : Int32) 6 from rfl)).mpr h8), B_X12_cutAll_238, ck_p (h1.ix hnt), h1.nat, B_X12_cutAll_267, ck_p (h1.ix hnt), h1.nat]
      rw [if_pos h8] at hv
      exact ⟨2, x5, rfl, fun _ => ⟨rfl, hv⟩, fun h => absurd h8 (by omega)⟩
    · rw [if_neg (fun e => h8 ((hsub.le (show Nm (6 : Int32) 6 from rfl)).mp e)), B_X12_cutAll_238, ck_p (h1.ix hnt), h1.nat, B_X12_cutAll_267, ck_p (h1.ix hnt), h1.nat]
      exact ⟨4, x5, rfl, fun h => absurd h h8, fun _ => rfl⟩
  intro d
  induction d with
  | zero =>
    intro k x2 x5 m hx hak hk hn hm hall hv
    obtain ⟨m, rfl⟩ : ∃ m', m = m' + 1 := ⟨m - 1, by omega⟩
    obtain ⟨s, v, e1, e2⟩ := fin k x2 x5 hx hak hk hv
    refine ⟨x2, s, v, hx, ?_, e2⟩
    rw [B_X12_cutAll_159, if_pos ((h.2.1.le hx).mpr (by omega)), e1]
  | succ d ih =>
    intro k x2 x5 m hx hak hk hn hm hall hv
    obtain ⟨m, rfl⟩ : ∃ m', m = m' + 1 := ⟨m - 1, by omega⟩
    obtain ⟨s, v, e1, e2⟩ := fin k x2 x5 hx hak hk hv
    by_cases hlt : k < sz
    · by_cases he : srt (sg k) = 2
      · rw [show rE sg sz 2 (d + 1) k = rE sg sz 2 d (k + 1) from if_pos ⟨hlt, he⟩, B_X12_cutAll_159, if_neg (fun e => by have := (h.2.1.le hx).mp e; omega), ck_p (hx.ix (by omega)), hx.nat, h.2.2 k hlt, bS r_isDigit]
        dsimp only
        rw [b2i_t he, if_neg ni1]
        have hsub : Nm (x2 - x4) (k - a) := hx.sub ha hak
        have hall' : ∀ j, a ≤ j → j < k + 1 → srt (sg j) = 2 := fun j j1 j2 => by
          by_cases e : j = k
          · subst e; exact he
          · exact hall j j1 (by omega)
        by_cases h8 : 6 ≤ k - a
        · rw [if_pos ((Nm.le (show Nm (6 : Int32) 6 from rfl) hsub).mpr h8), B_X12_cutAll_211]
          refine ih (k + 1) (x2 + 1) x5 m (hx.succ (by omega)) (by omega) (by omega) (by omega) (by omega) hall' ?_
          rw [hv]
          by_cases e8 : k - a ≤ 6
          · rw [if_pos e8, if_neg (by omega), show k - a = 6 by omega]
          · rw [if_neg e8, if_neg (by omega)]
        · rw [if_neg (fun e => h8 ((Nm.le (show Nm (6 : Int32) 6 from rfl) hsub).mp e)), h.2.2 k hlt, B_X12_cutAll_211]
          refine ih (k + 1) (x2 + 1) _ m (hx.succ (by omega)) (by omega) (by omega) (by omega) (by omega) hall' ?_
          rw [if_pos (by omega)] at hv
          rw [if_pos (by omega), show k + 1 - a = (k - a) + 1 by omega]
          have hd := srt2.mp he
          have hvi := v10_in (sg := sg) (a := a) (n := k - a) (fun j hj => srt2.mp (hall (a + j) (by omega) (by omega))) (by omega)
          have e37 : (10 : Int64).toInt = 10 := rfl
          have e96 : (48 : Int64).toInt = 48 := rfl
          have em : ((10 : Int64) * x5).toInt = 10 * v10 sg a (k - a) := by rw [l_mul (by rw [hv, e37]; omega) (by rw [hv, e37]; omega), hv, e37]
          have ea : ((10 : Int64) * x5 + (sg k).toInt64).toInt = 10 * v10 sg a (k - a) + (sg k).toInt := by rw [l_add (by rw [em, Int32.toInt_toInt64]; omega) (by rw [em, Int32.toInt_toInt64]; omega), em, Int32.toInt_toInt64]
          rw [l_sub (by rw [ea, e96]; omega) (by rw [ea, e96]; omega), ea, e96]
          show _ = 10 * v10 sg a (k - a) + ((sg (a + (k - a))).toInt - 48)
          rw [show a + (k - a) = k by omega]; omega
      · rw [show rE sg sz 2 (d + 1) k = k from if_neg (fun e => he e.2)]
        refine ⟨x2, s, v, hx, ?_, e2⟩
        rw [B_X12_cutAll_159, if_neg (fun e => by have := (h.2.1.le hx).mp e; omega), ck_p (hx.ix (by omega)), hx.nat, h.2.2 k hlt, bS r_isDigit]
        dsimp only
        rw [b2i_f he, if_pos rfl, e1]
    · rw [show rE sg sz 2 (d + 1) k = k from if_neg (fun e => hlt e.1)]
      refine ⟨x2, s, v, hx, ?_, e2⟩
      rw [B_X12_cutAll_159, if_pos ((h.2.1.le hx).mpr (by omega)), e1]
def cuP (sg : Nat → Int32) (u : MT) (l sz : Nat) (TL : List (Nat × Nat)) (r : MT) : Prop :=
  gI r 169 (l + TL.length) = 0 ∧ Nm (gI r 170 (l + TL.length)) sz ∧ gI r 167 7 = 0 ∧ gI r 167 8 = 0 ∧ (∀ j, j < TL.length → tokR sg r (l + j) (TL.getD j (0, 0))) ∧ (∀ j, j < l → gI r 169 j = gI u 169 j ∧ gI r 170 j = gI u 170 j ∧ gL r 171 j = gL u 171 j) ∧ gI r 167 2 = gI u 167 2
theorem r_cut_loop (hf : 1300 < f) : ∀ (n k : Nat) (u : MT) (x1 x2 : Int32) (l m : Nat), TpR sg sz u → Nm x2 k → Nm x1 l → k ≤ sz → sz < n + k → sz < m + k → l ≤ k →
    Ok (B_X12_cutAll_17 f m x1 x2 u) (cuP sg u l sz (tkl sg sz n k)) := by
  intro n
  induction n with
  | zero => intro k u x1 x2 l m _ _ _ h1 h2; omega
  | succ n ih =>
    intro k u x1 x2 l m h hx h1 hk hn hm hlk
    have h12 := h.1
    obtain ⟨m, rfl⟩ : ∃ m', m = m' + 1 := ⟨m - 1, by omega⟩
    rw [B_X12_cutAll_17]
    by_cases hend : sz ≤ k
    · have e : tkl sg sz (n + 1) k = [] := if_pos hend
      rw [e]
      refine Ok.t ((h.2.1.le hx).mpr hend) (Ok.ck (h1.ix (by omega)) (Ok.some ?_))
      rw [h1.nat]
      refine ⟨?_, ?_, ?_, g_same _ _ _ _, fun j hj => absurd hj (Nat.not_lt_zero j), fun j hj => ⟨?_, ?_, rfl⟩, (g_nk _ _ _ (by decide)).trans ((g_nk _ _ _ (by decide)).trans ((g_ne _ _ _ _ (by decide)).trans (g_ne _ _ _ _ (by decide))))⟩
      · rw [show l + ([] : List (Nat × Nat)).length = l from rfl, g_ne _ _ _ _ (by decide), g_ne _ _ _ _ (by decide), g_ne _ _ _ _ (by decide), g_same]
      · rw [show l + ([] : List (Nat × Nat)).length = l from rfl, g_ne _ _ _ _ (by decide), g_ne _ _ _ _ (by decide), g_same, g_ne _ _ _ _ (by decide)]; exact h.2.1
      · rw [g_nk _ _ _ (by decide), g_same]
      · rw [g_ne _ _ _ _ (by decide), g_ne _ _ _ _ (by decide), g_ne _ _ _ _ (by decide), g_nk _ _ _ (by omega)]
      · rw [g_ne _ _ _ _ (by decide), g_ne _ _ _ _ (by decide), g_nk _ _ _ (by omega), g_ne _ _ _ _ (by decide)]
    · have hlt : k < sz := by omega
      refine Ok.f (fun e => hend ((h.2.1.le hx).mp e)) (Ok.ck (hx.ix (by omega)) ?_)
      rw [hx.nat, h.2.2 k hlt]
      dsimp only
      by_cases h0 : srt (sg k) = 0
      · have e : tkl sg sz (n + 1) k = tkl sg sz n (k + 1) := by
          show (if sz ≤ k then _ else if _ then _ else _) = _
          rw [if_neg hend, if_pos h0]
        rw [e]
        have hb : sg k = 10 ∨ sg k = 32 := by
          rcases @srt_cases (sg k) with ⟨_, h⟩ | ⟨e, _⟩ | ⟨e, _⟩ | ⟨e, _⟩
          · exact h
          · omega
          · omega
          · omega
        have go := ih (k + 1) u x1 (x2 + 1) l m h (hx.succ (by omega)) h1 (by omega) (by omega) (by omega) (by omega)
        by_cases h10 : sg k = 10
        · exact Ok.t h10 go
        · exact Ok.f h10 (Ok.t (hb.resolve_left h10) go)
      · have e : tkl sg sz (n + 1) k = (k, tkE sg sz k) :: tkl sg sz n (tkE sg sz k) := by
          show (if sz ≤ k then _ else if _ then _ else _) = _
          rw [if_neg hend, if_neg h0]
        obtain ⟨t1, t2, t3, t4, t5⟩ := tkE_far sg hlt
        have hnb : ¬ (sg k = 10 ∨ sg k = 32) := fun hb => h0 (by unfold srt; rw [if_pos hb])
        rw [e]
        refine Ok.f (fun e => hnb (Or.inl e)) (Ok.f (fun e => hnb (Or.inr e)) (Ok.ck (h1.ix (by omega)) ?_))
        rw [h1.nat]
        have hu : TpR sg sz (sI u 170 l x2) := h.fr (g_ne _ _ _ _ (by decide)) (fun _ => g_ne _ _ _ _ (by decide))
        -- what comes behind the token
        have go : ∀ (y : Int32) (s : Int32) (v : Int64), Nm y (tkE sg sz k) → RTok sg k (tkE sg sz k) s v → Ok (B_X12_cutAll_17 f m (x1 + 1) y (sL (sI (sI u 170 l x2) 169 l s) 171 l v)) (cuP sg u l sz ((k, tkE sg sz k) :: tkl sg sz n (tkE sg sz k))) := by
          intro y s v hy hT
          have hv : TpR sg sz (sL (sI (sI u 170 l x2) 169 l s) 171 l v) := hu.fr ((g_L _ _ _ _ _ _).trans (g_ne _ _ _ _ (by decide))) (fun _ => (g_L _ _ _ _ _ _).trans (g_ne _ _ _ _ (by decide)))
          refine (ih (tkE sg sz k) _ (x1 + 1) y (l + 1) m hv hy (h1.succ (by omega)) t2 (by omega) (by omega) (by omega)).mono (fun r hr => ?_)
          obtain ⟨r1, r2, r3, r4, r5, r6, r7⟩ := hr
          have hlen : l + ((k, tkE sg sz k) :: tkl sg sz n (tkE sg sz k)).length = l + 1 + (tkl sg sz n (tkE sg sz k)).length := by show l + (_ + 1) = _; omega
          refine ⟨by rw [hlen]; exact r1, by rw [hlen]; exact r2, r3, r4, fun j hj => ?_, fun j hj => ?_, r7.trans ((g_L _ _ _ _ _ _).trans ((g_ne _ _ _ _ (by decide)).trans (g_ne _ _ _ _ (by decide))))⟩
          · match j with
            | 0 =>
              have hh := r6 l (by omega)
              show tokR sg r l (k, tkE sg sz k)
              unfold tokR
              rw [hh.1, hh.2.1, hh.2.2, l_same, g_L, g_L, g_same, g_ne _ _ _ _ (by decide), g_same]
              exact ⟨hx, hT⟩
            | j + 1 =>
              have := r5 j (by have : j + 1 < _ + 1 := hj; omega)
              rw [show l + (j + 1) = l + 1 + j by omega]
              exact this
          · have hh := r6 j (by omega)
            rw [hh.1, hh.2.1, hh.2.2, g_L, g_L, g_nk _ _ _ (by omega), g_ne _ _ _ _ (by decide), g_ne _ _ _ _ (by decide), g_nk _ _ _ (by omega), l_at, if_neg (by omega)]
            exact ⟨rfl, rfl, rfl⟩
        refine Ok.bindE r_isLetter ?_
        dsimp only
        by_cases s1 : srt (sg k) = 1
        · rw [b2i_t s1]
          refine Ok.f ni1 ?_
          obtain ⟨y, s, v, hy, e1, e2, e3⟩ := r_letters (f := f) (j17 := fun x1' x2' u' => B_X12_cutAll_17 f m x1' x2' u') hu hx h1 (by omega) s1 (sz + 1) k x2 0 f hx (Nat.le_refl _) (by omega) (by omega) (by omega) (fun j j1 j2 => absurd j2 (by omega)) (by rw [if_pos (by omega), show k - k = 0 by omega]; rfl)
          rw [e1]
          have eE : rE sg sz 1 (sz + 1) k = tkE sg sz k := by
            show (if k < sz ∧ srt (sg k) = 1 then _ else _) = _
            rw [if_pos ⟨hlt, s1⟩]
            unfold tkE
            rw [if_neg (by omega), s1]
          rw [eE] at hy e2 e3
          exact go y s v hy ⟨fun _ => ⟨e2, e3⟩, fun h => by omega, fun h => by omega⟩
        · rw [b2i_f s1]
          refine Ok.t rfl (Ok.bindE r_isDigit ?_)
          dsimp only
          by_cases s2 : srt (sg k) = 2
          · rw [b2i_t s2]
            refine Ok.f ni1 ?_
            obtain ⟨y, s, v, hy, e1, e2, e3⟩ := r_digits (f := f) (j17 := fun x1' x2' u' => B_X12_cutAll_17 f m x1' x2' u') hu hx h1 (by omega) s2 (sz + 1) k x2 0 f hx (Nat.le_refl _) (by omega) (by omega) (by omega) (fun j j1 j2 => absurd j2 (by omega)) (by rw [if_pos (by omega), show k - k = 0 by omega]; rfl)
            rw [e1]
            have eE : rE sg sz 2 (sz + 1) k = tkE sg sz k := by
              show (if k < sz ∧ srt (sg k) = 2 then _ else _) = _
              rw [if_pos ⟨hlt, s2⟩]
              unfold tkE
              rw [if_neg (by omega), s2]
            rw [eE] at hy e2 e3
            exact go y s v hy ⟨fun h => by omega, fun _ => ⟨e2, e3⟩, fun h => by omega⟩
          · rw [b2i_f s2]
            have s3 : srt (sg k) = 3 := by have := @srt_le (sg k); omega
            refine Ok.t rfl ?_
            obtain ⟨y, e1, e2⟩ := r_isSignOf (f := f) (u := sI u 170 l x2) (c := sg k)
            refine Ok.bindE e1 ?_
            dsimp only
            have hy : Nm (x2 + 1) (tkE sg sz k) := by rw [t5 s3]; exact hx.succ (by omega)
            have b263 : ∀ s, B_X12_cutAll_263 f (fun x1' x2' u' => B_X12_cutAll_17 f m x1' x2' u') x1 x2 (sg k).toInt64 s x1 (sI u 170 l x2) = B_X12_cutAll_17 f m (x1 + 1) (x2 + 1) (sL (sI (sI u 170 l x2) 169 l s) 171 l (sg k).toInt64) := fun s => by
              rw [B_X12_cutAll_263, ck_p (h1.ix (by omega)), h1.nat]
              dsimp only
              rw [B_X12_cutAll_267, ck_p (h1.ix (by omega)), h1.nat]
            rcases e2 with ⟨e3, e4⟩ | ⟨e3, e4⟩
            · rw [e3]
              refine Ok.f ni1 ?_
              rw [b263]
              exact go _ _ _ hy ⟨fun h => by omega, fun h => by omega, fun _ => ⟨rfl, fun _ => rfl, fun h => absurd e4 h⟩⟩
            · rw [e3]
              refine Ok.t rfl ?_
              rw [b263]
              exact go _ _ _ hy ⟨fun h => by omega, fun h => by omega, fun _ => ⟨rfl, fun h => absurd h e4, fun _ => rfl⟩⟩
end
