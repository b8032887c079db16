/-! ===== the TAPE is cut into tokens: the class ===== -/
def srt (c : Int32) : Nat := if c = 10 ∨ c = 32 then 0 else if 97 ≤ c.toInt ∧ c.toInt ≤ 122 then 1 else if 48 ≤ c.toInt ∧ c.toInt ≤ 57 then 2 else 3
theorem srt_le {c : Int32} : srt c ≤ 3 := by unfold srt; split <;> (try split) <;> (try split) <;> omega
def rE (sg : Nat → Int32) (sz t : Nat) : Nat → Nat → Nat
  | 0, k => k
  | n + 1, k => if k < sz ∧ srt (sg k) = t then rE sg sz t n (k + 1) else k
def tkE (sg : Nat → Int32) (sz k : Nat) : Nat := if srt (sg k) = 3 then k + 1 else rE sg sz (srt (sg k)) sz (k + 1)
def tkl (sg : Nat → Int32) (sz : Nat) : Nat → Nat → List (Nat × Nat)
  | 0, _ => []
  | n + 1, k => if sz ≤ k then [] else if srt (sg k) = 0 then tkl sg sz n (k + 1) else (k, tkE sg sz k) :: tkl sg sz n (tkE sg sz k)
theorem rE_far (sg : Nat → Int32) (sz t : Nat) : ∀ (n k : Nat), k ≤ sz → sz ≤ k + n → k ≤ rE sg sz t n k ∧ rE sg sz t n k ≤ sz ∧ (∀ j, k ≤ j → j < rE sg sz t n k → srt (sg j) = t) ∧ (rE sg sz t n k < sz → srt (sg (rE sg sz t n k)) ≠ t) := by
  intro n
  induction n with
  | zero => intro k h1 h2; exact ⟨Nat.le_refl _, h1, fun j a b => absurd b (by show ¬ j < k; omega), fun h => absurd h (by show ¬ k < sz; omega)⟩
  | succ n ih =>
    intro k h1 h2
    unfold rE
    by_cases h : k < sz ∧ srt (sg k) = t
    · rw [if_pos h]
      obtain ⟨a, b, c, d⟩ := ih (k + 1) (by omega) (by omega)
      refine ⟨by omega, b, fun j hj1 hj2 => ?_, d⟩
      by_cases e : j = k
      · subst e; exact h.2
      · exact c j (by omega) hj2
    · rw [if_neg h]
      exact ⟨Nat.le_refl _, h1, fun j a b => absurd b (by omega), fun h' e => h ⟨h', e⟩⟩
theorem tkE_far (sg : Nat → Int32) {sz k : Nat} (hk : k < sz) : k < tkE sg sz k ∧ tkE sg sz k ≤ sz ∧ (∀ j, k ≤ j → j < tkE sg sz k → srt (sg j) = srt (sg k)) ∧ (srt (sg k) ≠ 3 → tkE sg sz k < sz → srt (sg (tkE sg sz k)) ≠ srt (sg k)) ∧ (srt (sg k) = 3 → tkE sg sz k = k + 1) := by
  unfold tkE
  by_cases h : srt (sg k) = 3
  · rw [if_pos h]
    exact ⟨Nat.lt_succ_self k, hk, fun j a b => by rw [show j = k by omega], fun h' => absurd h h', fun _ => rfl⟩
  · rw [if_neg h]
    obtain ⟨a, b, c, d⟩ := rE_far sg sz (srt (sg k)) sz (k + 1) hk (by omega)
    refine ⟨by omega, b, fun j h1 h2 => ?_, fun _ => d, fun e => absurd e h⟩
    by_cases e : j = k
    · rw [e]
    · exact c j (by omega) h2
/-- is spelled by these signs -/
def spB (sg : Nat → Int32) (a b i : Nat) : Prop := tkL.getD (tkX i) 0 = b - a ∧ ∀ k, k < b - a → tkCh (tkX i) k = sg (a + k)
def SpId (sg : Nat → Int32) (a b t : Nat) : Prop := (t = 1 ∧ ∀ i, i < 34 → ¬ spB sg a b i) ∨ ∃ i, i < 34 ∧ t = i + 1 ∧ spB sg a b i
def v10 (sg : Nat → Int32) (a : Nat) : Nat → Int
  | 0 => 0
  | n + 1 => 10 * v10 sg a n + ((sg (a + n)).toInt - 48)
def CTok (sg : Nat → Int32) (a b t : Nat) (v : Int32) : Prop := (srt (sg a) = 2 → (b - a ≤ 6 → t = 3 ∧ v.toInt = v10 sg a (b - a)) ∧ (6 < b - a → t = 1)) ∧ (srt (sg a) ≠ 2 → SpId sg a b t)
section
variable {f : Nat} {u : MT} {sg : Nat → Int32} {sz : Nat}
/-- the signs on the class's TAPE -/
def TpC (sg : Nat → Int32) (sz : Nat) (u : MT) : Prop := sz ≤ 1200 ∧ Nm (gI u 110 1) sz ∧ ∀ k, k < sz → gI u 111 k = sg k
theorem TpC.fr {v : MT} (h : TpC sg sz u) (h1 : gI v 110 1 = gI u 110 1) (h2 : ∀ k, gI v 111 k = gI u 111 k) : TpC sg sz v := ⟨h.1, by rw [h1]; exact h.2.1, fun k hk => by rw [h2]; exact h.2.2 k hk⟩
theorem c_sort (h : TpC sg sz u) {k : Nat} (hk : k < sz) {x : Int32} (hx : Nm x k) : F_X6_sort f x u = some (Int32.ofNat (srt (sg k)), u) := by
  rw [F_X6_sort, ck_p (hx.ix (by have := h.1; omega)), hx.nat, h.2.2 k hk]
  dsimp only
  unfold srt
  have e97 : (97 : Int32).toInt = 97 := rfl
  have e122 : (122 : Int32).toInt = 122 := rfl
  have e48 : (48 : Int32).toInt = 48 := rfl
  have e57 : (57 : Int32).toInt = 57 := rfl
  have b35 : B_X6_sort_35 f (sg k) u = some (Int32.ofNat (if 48 ≤ (sg k).toInt ∧ (sg k).toInt ≤ 57 then 2 else 3), u) := by
    rw [B_X6_sort_35]
    by_cases h1 : sg k < 48
    · rw [if_pos h1, if_neg (fun e => by have := i_lt.mp h1; omega)]; rfl
    · rw [if_neg h1]
      have h1' : ¬ (sg k).toInt < 48 := fun e => h1 (i_lt.mpr (by rw [e48]; exact e))
      by_cases h2 : 57 < sg k
      · rw [if_pos h2, if_neg (fun e => by have := i_lt.mp h2; omega)]; rfl
      · have h2' : ¬ 57 < (sg k).toInt := fun e => h2 (i_lt.mpr (by rw [e57]; exact e))
        rw [if_neg h2, if_pos (by omega)]; rfl
  by_cases h1 : sg k = 10
  · rw [if_pos h1, if_pos (Or.inl h1)]; rfl
  · rw [if_neg h1]
    by_cases h2 : sg k = 32
    · rw [if_pos h2, if_pos (Or.inr h2)]; rfl
    · rw [if_neg h2, if_neg (show ¬ (sg k = 10 ∨ sg k = 32) from fun e => e.elim h1 h2)]
      by_cases h3 : sg k < 97
      · rw [if_pos h3, b35, if_neg (show ¬ (97 ≤ (sg k).toInt ∧ (sg k).toInt ≤ 122) from fun e => by have := i_lt.mp h3; omega)]
      · have h3' : ¬ (sg k).toInt < 97 := fun e => h3 (i_lt.mpr (by rw [e97]; exact e))
        rw [if_neg h3]
        by_cases h4 : 122 < sg k
        · rw [if_pos h4, b35, if_neg (show ¬ (97 ≤ (sg k).toInt ∧ (sg k).toInt ≤ 122) from fun e => by have := i_lt.mp h4; omega)]
        · have h4' : ¬ 122 < (sg k).toInt := fun e => h4 (i_lt.mpr (by rw [e122]; exact e))
          rw [if_neg h4, if_pos (show 97 ≤ (sg k).toInt ∧ (sg k).toInt ≤ 122 by omega)]; rfl
theorem on_eq {a b : Nat} (ha : a ≤ 3) (hb : b ≤ 3) : Int32.ofNat a = Int32.ofNat b ↔ a = b := Nm.eq (Nm.of (by omega)) (Nm.of (by omega))
theorem on_lit {a : Nat} (ha : a ≤ 3) (b : Nat) (hb : b ≤ 3) {x : Int32} (hx : Nm x b) : Int32.ofNat a = x ↔ a = b := Nm.eq (Nm.of (by omega)) hx
theorem c_begins_t (h : TpC sg sz u) {k : Nat} (hk : k < sz) {x : Int32} (hx : Nm x k) : F_X6_tokenBegins f x u = some (b2i (srt (sg k) ≠ 0 ∧ (srt (sg k) = 3 ∨ k = 0 ∨ srt (sg (k - 1)) ≠ srt (sg k))), u) := by
  have l := @srt_le (sg k)
  rw [F_X6_tokenBegins, bS (c_sort h hk hx)]
  dsimp only
  by_cases h0 : srt (sg k) = 0
  · rw [if_pos ((on_lit l 0 (by omega) nm0).mpr h0), b2i_f (fun e => e.1 h0)]
  · rw [if_neg (fun e => h0 ((on_lit l 0 (by omega) nm0).mp e))]
    by_cases h3 : srt (sg k) = 3
    · rw [if_pos ((on_lit l 3 (by omega) (show Nm (3 : Int32) 3 from rfl)).mpr h3), b2i_t ⟨h0, Or.inl h3⟩]; rfl
    · rw [if_neg (fun e => h3 ((on_lit l 3 (by omega) (show Nm (3 : Int32) 3 from rfl)).mp e))]
      by_cases hz : k = 0
      · rw [if_pos ((hx.eq nm0).mpr hz), b2i_t ⟨h0, Or.inr (Or.inl hz)⟩]; rfl
      · obtain ⟨k, rfl⟩ : ∃ k', k = k' + 1 := ⟨k - 1, by omega⟩
        have l' := @srt_le (sg k)
        rw [if_neg (fun e => hz ((hx.eq nm0).mp e)), bS (c_sort h (show k < sz by omega) hx.pred)]
        dsimp only
        by_cases he : srt (sg k) = srt (sg (k + 1))
        · rw [if_pos ((on_eq l' l).mpr he), b2i_f (fun e => by rcases e.2 with e1 | e1 | e1; exact h3 e1; exact hz e1; exact e1 he)]
        · rw [if_neg (fun e => he ((on_eq l' l).mp e)), b2i_t ⟨h0, Or.inr (Or.inr he)⟩]; rfl
theorem c_end_loop (h : TpC sg sz u) {t : Nat} (ht : t ≤ 3) (h3 : t ≠ 3) : ∀ (n k : Nat) (x : Int32) (m : Nat), Nm x k → k ≤ sz → sz ≤ k + n → sz < m + k → ∃ y, Nm y (rE sg sz t n k) ∧ B_X6_tokenEnd_10 f m (Int32.ofNat t) x u = some (y, u) := by
  intro n
  induction n with
  | zero =>
    intro k x m hx hk hn hm
    obtain ⟨m, rfl⟩ : ∃ m', m = m' + 1 := ⟨m - 1, by omega⟩
    refine ⟨x, hx, ?_⟩
    rw [B_X6_tokenEnd_10, if_neg (fun e => h3 ((on_lit ht 3 (by omega) (show Nm (3 : Int32) 3 from rfl)).mp e)), if_pos ((h.2.1.le hx).mpr (by omega))]
  | succ n ih =>
    intro k x m hx hk hn hm
    obtain ⟨m, rfl⟩ : ∃ m', m = m' + 1 := ⟨m - 1, by omega⟩
    rw [B_X6_tokenEnd_10, if_neg (fun e => h3 ((on_lit ht 3 (by omega) (show Nm (3 : Int32) 3 from rfl)).mp e))]
    by_cases hlt : k < sz
    · rw [if_neg (fun e => by have := (h.2.1.le hx).mp e; omega), bS (c_sort h hlt hx)]
      dsimp only
      by_cases he : srt (sg k) = t
      · rw [show rE sg sz t (n + 1) k = rE sg sz t n (k + 1) from if_pos ⟨hlt, he⟩, if_pos ((on_eq srt_le ht).mpr he)]
        exact ih (k + 1) (x + 1) m (hx.succ (by have := h.1; omega)) (by omega) (by omega) (by omega)
      · rw [show rE sg sz t (n + 1) k = k from if_neg (fun e => he e.2), if_neg (fun e => he ((on_eq srt_le ht).mp e))]
        exact ⟨x, hx, rfl⟩
    · rw [show rE sg sz t (n + 1) k = k from if_neg (fun e => hlt e.1), if_pos ((h.2.1.le hx).mpr (by omega))]
      exact ⟨x, hx, rfl⟩
theorem c_tokenEnd (hf : 1300 < f) (h : TpC sg sz u) {k : Nat} (hk : k < sz) {x : Int32} (hx : Nm x k) : ∃ y, Nm y (tkE sg sz k) ∧ F_X6_tokenEnd f x u = some (y, u) := by
  have h1 := h.1
  obtain ⟨f', hf'⟩ : ∃ f', f = f' + 1 := ⟨f - 1, by omega⟩
  rw [F_X6_tokenEnd, bS (c_sort h hk hx)]
  dsimp only
  unfold tkE
  by_cases h3 : srt (sg k) = 3
  · rw [if_pos h3, hf', B_X6_tokenEnd_10, if_pos ((on_lit srt_le 3 (by omega) (show Nm (3 : Int32) 3 from rfl)).mpr h3)]
    exact ⟨_, hx.succ (by omega), rfl⟩
  · rw [if_neg h3]
    exact c_end_loop h srt_le h3 sz (k + 1) (x + 1) f (hx.succ (by omega)) hk (by omega) (by omega)
theorem c_spell_loop (h : TpC sg sz u) {a b i : Nat} {x : Int32} (ha : Nm x a) (hab : a ≤ b) (hb : b ≤ sz) (hl : tkL.getD (tkX i) 0 = b - a) : ∀ (d k : Nat) (x4 : Int32) (m : Nat), Nm x4 k → k + d = b - a → d < m →
    ∃ y, B_X9_isSpelled_18 f (i + 1) m x x4 u = some (y, u) ∧ ((y = 1 ∧ ∀ j, k ≤ j → j < b - a → tkCh (tkX i) j = sg (a + j)) ∨ (y = 0 ∧ ∃ j, k ≤ j ∧ j < b - a ∧ tkCh (tkX i) j ≠ sg (a + j))) := by
  have h12 := h.1
  intro d
  induction d with
  | zero =>
    intro k x4 m hx hd hm
    obtain ⟨m, rfl⟩ : ∃ m', m = m' + 1 := ⟨m - 1, by omega⟩
    refine ⟨1, ?_, Or.inl ⟨rfl, fun j h1 h2 => absurd h2 (by omega)⟩⟩
    rw [B_X9_isSpelled_18, show i + 1 - 1 = i from rfl, hl, if_pos ((Nm.le (Nm.of (show b - a < 2147483648 by omega)) hx).mpr (by omega))]
  | succ d ih =>
    intro k x4 m hx hd hm
    obtain ⟨m, rfl⟩ : ∃ m', m = m' + 1 := ⟨m - 1, by omega⟩
    have hs : Nm (x + x4) (a + k) := ha.add hx (by omega)
    rw [B_X9_isSpelled_18, show i + 1 - 1 = i from rfl, hl, if_neg (fun e => by have := (Nm.le (Nm.of (show b - a < 2147483648 by omega)) hx).mp e; omega), ck_p (hx.ix (by omega)), ck_p (hs.ix (by omega)), hx.nat, hs.nat, h.2.2 (a + k) (by omega)]
    by_cases he : tkCh (tkX i) k = sg (a + k)
    · rw [if_pos he]
      obtain ⟨y, e1, e2⟩ := ih (k + 1) (x4 + 1) m (hx.succ (by omega)) (by omega) (by omega)
      refine ⟨y, e1, ?_⟩
      rcases e2 with ⟨e3, e4⟩ | ⟨e3, j, e4, e5, e6⟩
      · refine Or.inl ⟨e3, fun j h1 h2 => ?_⟩
        by_cases hj : j = k
        · subst hj; exact he
        · exact e4 j (by omega) h2
      · exact Or.inr ⟨e3, j, by omega, e5, e6⟩
    · rw [if_neg he]
      exact ⟨0, rfl, Or.inr ⟨rfl, k, Nat.le_refl _, by omega, he⟩⟩
theorem c_isSpelled (hf : 1300 < f) (h : TpC sg sz u) {a b i : Nat} (hi : i < 34) {x y : Int32} (ha : Nm x a) (hb : Nm y b) (hab : a ≤ b) (hbs : b ≤ sz) :
    ∃ z, F_X9_isSpelled f (i + 1) x y u = some (z, u) ∧ ((z = 1 ∧ spB sg a b i) ∨ (z = 0 ∧ ¬ spB sg a b i)) := by
  have h12 := h.1
  have tl : ∀ i, i < 34 → tkL.getD (tkX i) 0 ≤ 6 := by decide
  have hsub : Nm (y - x) (b - a) := hb.sub ha hab
  rw [F_X9_isSpelled, show i + 1 - 1 = i from rfl]
  by_cases he : tkL.getD (tkX i) 0 = b - a
  · rw [if_pos ((Nm.eq (Nm.of (by have := tl i hi; omega)) hsub).mpr he)]
    obtain ⟨z, e1, e2⟩ := c_spell_loop (f := f) h ha hab hbs he (b - a) 0 0 f nm0 (by omega) (by omega)
    refine ⟨z, e1, ?_⟩
    rcases e2 with ⟨e3, e4⟩ | ⟨e3, j, _, e5, e6⟩
    · exact Or.inl ⟨e3, he, fun k hk => e4 k (by omega) hk⟩
    · exact Or.inr ⟨e3, fun hs => e6 (hs.2 j e5)⟩
  · rw [if_neg (fun e => he ((Nm.eq (Nm.of (by have := tl i hi; omega)) hsub).mp e))]
    exact ⟨0, rfl, Or.inr ⟨rfl, fun hs => he hs.1⟩⟩
theorem c_spelled_loop (hf : 1300 < f) (h : TpC sg sz u) {a b : Nat} {x y : Int32} (ha : Nm x a) (hb : Nm y b) (hab : a ≤ b) (hbs : b ≤ sz) : ∀ (d i : Nat) (x3 : Int32) (m : Nat), Nm x3 i → i + d = 34 → d < m → (∀ j, j < i → ¬ spB sg a b j) →
    ∃ t, B_X9_spelled_2 f m x y x3 u = some (t, u) ∧ SpId sg a b t := by
  intro d
  induction d with
  | zero =>
    intro i x3 m hx hd hm hno
    obtain ⟨m, rfl⟩ : ∃ m', m = m' + 1 := ⟨m - 1, by omega⟩
    refine ⟨1, ?_, Or.inl ⟨rfl, fun j hj => hno j (by omega)⟩⟩
    rw [B_X9_spelled_2, if_pos ((Nm.le (show Nm (34 : Int32) 34 from rfl) hx).mpr (by omega))]
  | succ d ih =>
    intro i x3 m hx hd hm hno
    obtain ⟨m, rfl⟩ : ∃ m', m = m' + 1 := ⟨m - 1, by omega⟩
    obtain ⟨z, e1, e2⟩ := c_isSpelled hf h (show i < 34 by omega) ha hb hab hbs
    rw [B_X9_spelled_2, if_neg (fun e => by have := (Nm.le (show Nm (34 : Int32) 34 from rfl) hx).mp e; omega), ck_p (hx.ix (by omega)), hx.nat, bS e1]
    dsimp only
    rcases e2 with ⟨e3, e4⟩ | ⟨e3, e4⟩
    · rw [e3, if_neg ni1]
      exact ⟨i + 1, rfl, Or.inr ⟨i, by omega, rfl, e4⟩⟩
    · rw [e3, if_pos rfl]
      exact ih (i + 1) (x3 + 1) m (hx.succ (by omega)) (by omega) (by omega) (fun j hj => by
        by_cases e : j = i
        · subst e; exact e4
        · exact hno j (by omega))
theorem c_spelled (hf : 1300 < f) (h : TpC sg sz u) {a b : Nat} {x y : Int32} (ha : Nm x a) (hb : Nm y b) (hab : a ≤ b) (hbs : b ≤ sz) : ∃ t, F_X9_spelled f x y u = some (t, u) ∧ SpId sg a b t ∧ 1 ≤ t ∧ t ≤ 34 := by
  obtain ⟨t, e1, e2⟩ := c_spelled_loop hf h ha hb hab hbs 34 0 0 f nm0 (by omega) (by omega) (fun j hj => absurd hj (by omega))
  refine ⟨t, e1, e2, ?_⟩
  rcases e2 with ⟨e, _⟩ | ⟨i, h1, e, _⟩ <;> omega
theorem v10_in {a n : Nat} (hd : ∀ k, k < n → 48 ≤ (sg (a + k)).toInt ∧ (sg (a + k)).toInt ≤ 57) (hn : n ≤ 6) : 0 ≤ v10 sg a n ∧ v10 sg a n < 1000000 ∧ (n ≤ 5 → v10 sg a n < 100000) := by
  have p : ∀ k, k ≤ n → 0 ≤ v10 sg a k ∧ v10 sg a k < 10 ^ k := by
    intro k
    induction k with
    | zero => intro _; exact ⟨by show (0 : Int) ≤ 0; omega, by show (0 : Int) < 1; omega⟩
    | succ k ih =>
      intro hk
      have := ih (by omega)
      have h1 := hd k (by omega)
      have e : (10 : Int) ^ (k + 1) = 10 ^ k * 10 := Int.pow_succ 10 k
      refine ⟨?_, ?_⟩
      · show 0 ≤ 10 * v10 sg a k + _
        omega
      · show 10 * v10 sg a k + _ < _
        rw [e]; omega
  have q := p n (Nat.le_refl _)
  have m : ∀ n, n ≤ 6 → (10 : Int) ^ n ≤ 1000000 ∧ (n ≤ 5 → (10 : Int) ^ n ≤ 100000) := by decide
  have r := m n hn
  exact ⟨q.1, by omega, fun h => by have := r.2 h; omega⟩
theorem c_numAt_loop (h : TpC sg sz u) {a b : Nat} {y : Int32} (hb : Nm y b) (hbs : b ≤ sz) (h6 : b - a ≤ 6) (hdg : ∀ k, a ≤ k → k < b → srt (sg k) = 2) : ∀ (d k : Nat) (x3 x4 : Int32) (m : Nat), Nm x4 (a + k) → a + k + d = b → d < m → x3.toInt = v10 sg a k →
    ∃ z, B_X6_numberAt_5 f m y x3 x4 u = some (z, u) ∧ z.toInt = v10 sg a (b - a) := by
  have h12 := h.1
  have dig : ∀ k, a ≤ k → k < b → 48 ≤ (sg k).toInt ∧ (sg k).toInt ≤ 57 := fun k h1 h2 => by
    have := hdg k h1 h2
    unfold srt at this
    split at this
    · omega
    · split at this
      · omega
      · split at this
        · assumption
        · omega
  intro d
  induction d with
  | zero =>
    intro k x3 x4 m hx hd hm hv
    obtain ⟨m, rfl⟩ : ∃ m', m = m' + 1 := ⟨m - 1, by omega⟩
    refine ⟨x3, ?_, ?_⟩
    · rw [B_X6_numberAt_5, if_pos ((hb.le hx).mpr (by omega))]
    · rw [hv, show b - a = k by omega]
  | succ d ih =>
    intro k x3 x4 m hx hd hm hv
    obtain ⟨m, rfl⟩ : ∃ m', m = m' + 1 := ⟨m - 1, by omega⟩
    have hdk := dig (a + k) (by omega) (by omega)
    have hvr := v10_in (sg := sg) (a := a) (n := k) (fun j hj => dig (a + j) (by omega) (by omega)) (by omega)
    have hv5 := hvr.2.2 (by omega)
    have e10 : (10 : Int32).toInt = 10 := rfl
    have e48 : (48 : Int32).toInt = 48 := rfl
    have em : (x3 * 10).toInt = v10 sg a k * 10 := by rw [i_mul (by rw [hv, e10]; omega) (by rw [hv, e10]; omega), hv, e10]
    have es : (sg (a + k) - 48).toInt = (sg (a + k)).toInt - 48 := by rw [i_sub (by rw [e48]; omega) (by rw [e48]; omega), e48]
    rw [B_X6_numberAt_5, if_neg (fun e => by have := (hb.le hx).mp e; omega), ck_p (hx.ix (by omega)), hx.nat, h.2.2 (a + k) (by omega)]
    refine ih (k + 1) _ _ m (hx.succ (by omega)) (by omega) (by omega) ?_
    rw [i_add (by rw [em, es]; omega) (by rw [em, es]; omega), em, es]
    show _ = 10 * v10 sg a k + _
    omega
theorem c_numAt (hf : 1300 < f) (h : TpC sg sz u) {a b : Nat} {x y : Int32} (ha : Nm x a) (hb : Nm y b) (hab : a ≤ b) (hbs : b ≤ sz) (h6 : b - a ≤ 6) (hdg : ∀ k, a ≤ k → k < b → srt (sg k) = 2) : ∃ z, F_X6_numberAt f x y u = some (z, u) ∧ z.toInt = v10 sg a (b - a) := by
  rw [F_X6_numberAt]
  exact c_numAt_loop h hb hbs h6 hdg (b - a) 0 0 x f ha (by omega) (by omega) rfl
end
