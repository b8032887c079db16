/-! ===== the reference keeps a text that was read ===== -/
def Kep (t c : Nat) (u r : MT) : Prop :=
  (∀ a, (a = 173 ∨ a = 174 ∨ a = 184) → gI r a t = gI u a 7 ∧ ∀ j, j ≠ t → gI r a j = gI u a j) ∧
  (∀ a, 175 ≤ a → a ≤ 181 → (∀ k, k < 24 → gI r a (24 * t + k) = gI u a (168 + k)) ∧ ∀ j, (j < 24 * t ∨ 24 * t + 24 ≤ j) → gI r a j = gI u a j) ∧
  (∀ a, (a = 182 ∨ a = 183) → (∀ k, k < c → gI r a (1300 * t + k) = gI u a (9100 + k)) ∧ ∀ j, (j < 1300 * t ∨ 1300 * t + c ≤ j) → gI r a j = gI u a j) ∧
  (∀ a j, (a < 173 ∨ 184 < a) → gI r a j = gI u a j)
section
variable {f : Nat}
theorem r_keep {u : MT} {t c : Nat} {x : Int32} (hf : 1400 < f) (hx : Nm x t) (ht : t ≤ 6) (hc : Nm (gI u 184 7) c) (hc13 : c ≤ 1300) : Ok (F_X12_keep f x u) (Kep t c u) := by
  have n24 : Nm (24 : Int32) 24 := rfl
  have n1300 : Nm (1300 : Int32) 1300 := rfl
  have n168 : Nm (168 : Int32) 168 := rfl
  have n9100 : Nm (9100 : Int32) 9100 := rfl
  -- the codes
  have loop2 : ∀ (e k : Nat) (y : Int32) (m : Nat) (v : MT), k + e = c → Nm y k → e < m → (∀ a, (a = 173 ∨ a = 174 ∨ a = 184) → gI v a t = gI u a 7 ∧ ∀ j, j ≠ t → gI v a j = gI u a j) → (∀ a, 175 ≤ a → a ≤ 181 → (∀ k, k < 24 → gI v a (24 * t + k) = gI u a (168 + k)) ∧ ∀ j, (j < 24 * t ∨ 24 * t + 24 ≤ j) → gI v a j = gI u a j) → (∀ a, (a = 182 ∨ a = 183) → (∀ k', k' < k → gI v a (1300 * t + k') = gI u a (9100 + k')) ∧ ∀ j, (j < 1300 * t ∨ 1300 * t + k ≤ j) → gI v a j = gI u a j) → (∀ a j, (a < 173 ∨ 184 < a) → gI v a j = gI u a j) → Ok (B_X12_keep_160 f m x y v) (Kep t c u) := by
    intro e
    induction e with
    | zero =>
      intro k y m v hk hy hm h1 h2 h3 h4
      obtain ⟨m, rfl⟩ : ∃ m', m = m' + 1 := ⟨m - 1, by omega⟩
      have hk : k = c := by omega
      subst hk
      have n184 : Nm (gI v 184 7) k := by rw [(h1 184 (by omega)).2 7 (by omega)]; exact hc
      rw [B_X12_keep_160]
      exact Ok.t ((n184.le hy).mpr (Nat.le_refl _)) (Ok.some ⟨h1, h2, h3, h4⟩)
    | succ e ih =>
      intro k y m v hk hy hm h1 h2 h3 h4
      obtain ⟨m, rfl⟩ : ∃ m', m = m' + 1 := ⟨m - 1, by omega⟩
      have n184 : Nm (gI v 184 7) c := by rw [(h1 184 (by omega)).2 7 (by omega)]; exact hc
      have a1 : Nm (9100 + y) (9100 + k) := n9100.add hy (by omega)
      have a2 : Nm (1300 * x + y) (1300 * t + k) := (n1300.mul hx (by omega)).add hy (by omega)
      rw [B_X12_keep_160]
      refine Ok.f (fun c => by have := (n184.le hy).mp c; omega) (Ok.ck (a1.ix (by omega)) (Ok.ck (a2.ix (by omega)) ?_))
      rw [a1.nat, a2.nat]
      show Ok (B_X12_keep_160 f m x (y + 1) (sI (sI v 182 (1300 * t + k) (gI v 182 (9100 + k))) 183 (1300 * t + k) (gI (sI v 182 (1300 * t + k) (gI v 182 (9100 + k))) 183 (9100 + k)))) _
      rw [g_ne _ _ _ _ (show 183 ≠ 182 by decide), (h3 182 (by omega)).2 (9100 + k) (by omega), (h3 183 (by omega)).2 (9100 + k) (by omega)]
      refine ih (k + 1) (y + 1) m _ (by omega) (hy.succ (by omega)) (by omega) (fun a ha => ?_) (fun a ha1 ha2 => ?_) (fun a ha => ?_) (fun a j ha => by rw [g_ne _ _ _ _ (by omega), g_ne _ _ _ _ (by omega)]; exact h4 a j ha)
      · refine ⟨by rw [g_ne _ _ _ _ (by omega), g_ne _ _ _ _ (by omega)]; exact (h1 a ha).1, fun j hj => by rw [g_ne _ _ _ _ (by omega), g_ne _ _ _ _ (by omega)]; exact (h1 a ha).2 j hj⟩
      · refine ⟨fun k' hk' => by rw [g_ne _ _ _ _ (by omega), g_ne _ _ _ _ (by omega)]; exact (h2 a ha1 ha2).1 k' hk', fun j hj => by rw [g_ne _ _ _ _ (by omega), g_ne _ _ _ _ (by omega)]; exact (h2 a ha1 ha2).2 j hj⟩
      · obtain ⟨p1, p2⟩ := h3 a ha
        rcases ha with e | e
        · subst e
          refine ⟨fun k' hk' => ?_, fun j hj => by rw [g_ne _ _ _ _ (by decide), g_nk _ _ _ (by omega)]; exact p2 j (by omega)⟩
          rw [g_ne _ _ _ _ (by decide), g_at]
          by_cases c : k' = k
          · subst c; rw [if_pos rfl]
          · rw [if_neg (by omega)]; exact p1 k' (by omega)
        · subst e
          refine ⟨fun k' hk' => ?_, fun j hj => by rw [g_nk _ _ _ (by omega), g_ne _ _ _ _ (by decide)]; exact p2 j (by omega)⟩
          rw [g_at]
          by_cases c : k' = k
          · subst c; rw [if_pos rfl]
          · rw [if_neg (by omega), g_ne _ _ _ _ (by decide)]; exact p1 k' (by omega)
  -- the RULES
  have loop1 : ∀ (e k : Nat) (y : Int32) (m : Nat) (v : MT), k + e = 24 → Nm y k → e < m → (∀ a, (a = 173 ∨ a = 174 ∨ a = 184) → gI v a t = gI u a 7 ∧ ∀ j, j ≠ t → gI v a j = gI u a j) → (∀ a, 175 ≤ a → a ≤ 181 → (∀ k', k' < k → gI v a (24 * t + k') = gI u a (168 + k')) ∧ ∀ j, (j < 24 * t ∨ 24 * t + k ≤ j) → gI v a j = gI u a j) → (∀ a j, (a < 173 ∨ 184 < a ∨ a = 182 ∨ a = 183) → gI v a j = gI u a j) → Ok (B_X12_keep_41 f m x y v) (Kep t c u) := by
    intro e
    induction e with
    | zero =>
      intro k y m v hk hy hm h1 h2 h4
      obtain ⟨m, rfl⟩ : ∃ m', m = m' + 1 := ⟨m - 1, by omega⟩
      have hk : k = 24 := by omega
      subst hk
      rw [B_X12_keep_41]
      refine Ok.t ((n24.le hy).mpr (by omega)) ?_
      exact loop2 c 0 0 f v (by omega) nm0 (by omega) h1 h2 (fun a ha => ⟨fun k' hk' => absurd hk' (by omega), fun j _ => h4 a j (by omega)⟩) (fun a j ha => h4 a j (by omega))
    | succ e ih =>
      intro k y m v hk hy hm h1 h2 h4
      obtain ⟨m, rfl⟩ : ∃ m', m = m' + 1 := ⟨m - 1, by omega⟩
      have a1 : Nm (168 + y) (168 + k) := n168.add hy (by omega)
      have a2 : Nm (24 * x + y) (24 * t + k) := (n24.mul hx (by omega)).add hy (by omega)
      rw [B_X12_keep_41]
      refine Ok.f (fun c => by have := (n24.le hy).mp c; omega) ?_
      show Ok (ck (ixo (168 + y) 192) (ck (ixo (24 * x + y) 192) _)) _
      refine Ok.ck (a1.ix (by omega)) (Ok.ck (a2.ix (by omega)) ?_)
      rw [a1.nat, a2.nat]
      generalize hI : 24 * t + k = I
      generalize hJ : 168 + k = J
      have q : ∀ a b i z (s : MT) (j : Nat), b ≠ a → gI (sI s a i z) b j = gI s b j := fun a b i z s j h => g_ne _ _ _ _ h
      have step : ∃ v', (∀ b j, 175 ≤ b → b ≤ 181 → gI v' b j = if j = I then gI v b J else gI v b j) ∧ (∀ b j, (b < 175 ∨ 181 < b) → gI v' b j = gI v b j) ∧ sI (sI (sI (sI (sI (sI (sI v 175 I (gI v 175 J)) 176 I (gI v 176 J)) 177 I (gI v 177 J)) 178 I (gI v 178 J)) 179 I (gI v 179 J)) 180 I (gI v 180 J)) 181 I (gI v 181 J) = v' := by
        refine ⟨_, fun b j hb1 hb2 => ?_, fun b j hb => ?_, rfl⟩
        · have : b = 175 ∨ b = 176 ∨ b = 177 ∨ b = 178 ∨ b = 179 ∨ b = 180 ∨ b = 181 := by omega
          rcases this with e | e | e | e | e | e | e <;> subst e
          · rw [q _ _ _ _ _ _ (by decide), q _ _ _ _ _ _ (by decide), q _ _ _ _ _ _ (by decide), q _ _ _ _ _ _ (by decide), q _ _ _ _ _ _ (by decide), q _ _ _ _ _ _ (by decide), g_at]
          · rw [q _ _ _ _ _ _ (by decide), q _ _ _ _ _ _ (by decide), q _ _ _ _ _ _ (by decide), q _ _ _ _ _ _ (by decide), q _ _ _ _ _ _ (by decide), g_at, q _ _ _ _ _ _ (by decide)]
          · rw [q _ _ _ _ _ _ (by decide), q _ _ _ _ _ _ (by decide), q _ _ _ _ _ _ (by decide), q _ _ _ _ _ _ (by decide), g_at, q _ _ _ _ _ _ (by decide), q _ _ _ _ _ _ (by decide)]
          · rw [q _ _ _ _ _ _ (by decide), q _ _ _ _ _ _ (by decide), q _ _ _ _ _ _ (by decide), g_at, q _ _ _ _ _ _ (by decide), q _ _ _ _ _ _ (by decide), q _ _ _ _ _ _ (by decide)]
          · rw [q _ _ _ _ _ _ (by decide), q _ _ _ _ _ _ (by decide), g_at, q _ _ _ _ _ _ (by decide), q _ _ _ _ _ _ (by decide), q _ _ _ _ _ _ (by decide), q _ _ _ _ _ _ (by decide)]
          · rw [q _ _ _ _ _ _ (by decide), g_at, q _ _ _ _ _ _ (by decide), q _ _ _ _ _ _ (by decide), q _ _ _ _ _ _ (by decide), q _ _ _ _ _ _ (by decide), q _ _ _ _ _ _ (by decide)]
          · rw [g_at, q _ _ _ _ _ _ (by decide), q _ _ _ _ _ _ (by decide), q _ _ _ _ _ _ (by decide), q _ _ _ _ _ _ (by decide), q _ _ _ _ _ _ (by decide), q _ _ _ _ _ _ (by decide)]
        · rw [q _ _ _ _ _ _ (by omega), q _ _ _ _ _ _ (by omega), q _ _ _ _ _ _ (by omega), q _ _ _ _ _ _ (by omega), q _ _ _ _ _ _ (by omega), q _ _ _ _ _ _ (by omega), q _ _ _ _ _ _ (by omega)]
      obtain ⟨v', s1, s2, s3⟩ := step
      have goal : Ok (B_X12_keep_41 f m x (y + 1) v') (Kep t c u) := by
        refine ih (k + 1) (y + 1) m v' (by omega) (hy.succ (by omega)) (by omega) (fun a ha => ?_) (fun a ha1 ha2 => ?_) (fun a j ha => by rw [s2 _ _ (by omega)]; exact h4 a j ha)
        · refine ⟨by rw [s2 _ _ (by omega)]; exact (h1 a ha).1, fun j hj => by rw [s2 _ _ (by omega)]; exact (h1 a ha).2 j hj⟩
        · obtain ⟨p1, p2⟩ := h2 a ha1 ha2
          refine ⟨fun k' hk' => ?_, fun j hj => ?_⟩
          · rw [s1 _ _ ha1 ha2]
            by_cases c : k' = k
            · subst c; rw [if_pos hI, ← hJ]; exact p2 _ (by omega)
            · rw [if_neg (by omega)]; exact p1 k' (by omega)
          · rw [s1 _ _ ha1 ha2, if_neg (by omega)]; exact p2 j (by omega)
      rw [← s3] at goal
      refine cast ?_ goal
      congr 2
  rw [F_X12_keep]
  refine Ok.ck (hx.ix (by omega)) ?_
  rw [hx.nat]
  show Ok (B_X12_keep_41 f f x 0 (sI (sI (sI u 173 t (gI u 173 7)) 174 t (gI (sI u 173 t (gI u 173 7)) 174 7)) 184 t (gI (sI (sI u 173 t (gI u 173 7)) 174 t (gI (sI u 173 t (gI u 173 7)) 174 7)) 184 7))) _
  rw [g_ne _ _ _ _ (show 174 ≠ 173 by decide), g_ne _ _ _ _ (show 184 ≠ 174 by decide), g_ne _ _ _ _ (show 184 ≠ 173 by decide)]
  refine loop1 24 0 0 f _ (by omega) nm0 (by omega) (fun a ha => ?_) (fun a h1 h2 => ⟨fun k hk => absurd hk (by omega), fun j _ => by rw [g_ne _ _ _ _ (by omega), g_ne _ _ _ _ (by omega), g_ne _ _ _ _ (by omega)]⟩) (fun a j ha => by rw [g_ne _ _ _ _ (by omega), g_ne _ _ _ _ (by omega), g_ne _ _ _ _ (by omega)])
  rcases ha with e | e | e <;> subst e
  · exact ⟨by rw [g_ne _ _ _ _ (by decide), g_ne _ _ _ _ (by decide), g_same], fun j hj => by rw [g_ne _ _ _ _ (by decide), g_ne _ _ _ _ (by decide), g_nk _ _ _ hj]⟩
  · exact ⟨by rw [g_ne _ _ _ _ (by decide), g_same], fun j hj => by rw [g_ne _ _ _ _ (by decide), g_nk _ _ _ hj, g_ne _ _ _ _ (by decide)]⟩
  · exact ⟨by rw [g_same], fun j hj => by rw [g_nk _ _ _ hj, g_ne _ _ _ _ (by decide), g_ne _ _ _ _ (by decide)]⟩
end
theorem codR.mv {u v : MT} {cb cb' c : Nat} {x : Int32} {l : List Int32} (h : codR u cb c x l) (he : ∀ k, k < c → gI v 182 (cb' + k) = gI u 182 (cb + k) ∧ gI v 183 (cb' + k) = gI u 183 (cb + k)) : codR v cb' c x l := by
  refine ⟨h.1, fun hl => ?_⟩
  obtain ⟨s, h1, h2, h3, h4⟩ := h.2 hl
  refine ⟨s, h1, h2, fun k hk => ?_, ?_⟩
  · have := he (s + k) (by omega)
    rw [show cb' + s + k = cb' + (s + k) by omega, this.1, this.2, show cb + (s + k) = cb + s + k by omega]; exact h3 k hk
  · have := he (s + l.length) (by omega)
    rw [show cb' + s + l.length = cb' + (s + l.length) by omega, this.1, show cb + (s + l.length) = cb + s + l.length by omega]; exact h4
theorem RR.mv {u v : MT} {cb cb' I I' c : Nat} {rl : AR} (h : RR u cb I c rl) (hI : ∀ a, 175 ≤ a → a ≤ 181 → gI v a I' = gI u a I) (he : ∀ k, k < c → gI v 182 (cb' + k) = gI u 182 (cb + k) ∧ gI v 183 (cb' + k) = gI u 183 (cb + k)) : RR v cb' I' c rl := by
  obtain ⟨h1, h2, h3, h4, h5⟩ := h
  refine ⟨by rw [hI 175 (by decide) (by decide)]; exact h1.mv he, by rw [hI 176 (by decide) (by decide)]; exact h2, fun e => by rw [hI 178 (by decide) (by decide), hI 180 (by decide) (by decide)]; exact h3 e, fun e => by rw [hI 177 (by decide) (by decide)]; exact (h4 e).mv he, fun e => by rw [hI 178 (by decide) (by decide), hI 179 (by decide) (by decide), hI 181 (by decide) (by decide), hI 180 (by decide) (by decide)]; exact h5 e⟩
/-- the text kept, and those that were kept before -/
theorem Kep.new {u r : MT} {t c how : Nat} {rs : List AR} (h : Kep t c u r) (hc : Nm (gI u 184 7) c) (hl : rs.length ≤ 24) (hT : RT u 9100 168 7 rs how) : RT r (1300 * t) (24 * t) t rs how := by
  obtain ⟨h1, h2, h3, h4⟩ := h
  obtain ⟨⟨c', k1, k2, k3, k4⟩, k5⟩ := hT
  have ec : c' = c := by
    have k3 : (gI u 184 7).toInt = (c' : Int) := k3
    have hc : (gI u 184 7).toInt = (c : Int) := hc
    omega
  subst ec
  refine ⟨⟨c', k1, by rw [(h1 173 (by omega)).1]; exact k2, by rw [(h1 184 (by omega)).1]; exact k3, fun s hs => ?_⟩, by rw [(h1 174 (by omega)).1]; exact k5⟩
  exact (k4 s hs).mv (fun a e1 e2 => (h2 a e1 e2).1 s (by omega)) (fun k hk => ⟨(h3 182 (by omega)).1 k hk, (h3 183 (by omega)).1 k hk⟩)
theorem Kep.old {u r : MT} {t c sl how : Nat} {rs : List AR} (h : Kep t c u r) (hc : c ≤ 1300) (hl : rs.length ≤ 24) (hsl : sl ≠ t) (hT : RT u (1300 * sl) (24 * sl) sl rs how) : RT r (1300 * sl) (24 * sl) sl rs how := by
  obtain ⟨h1, h2, h3, h4⟩ := h
  obtain ⟨⟨c', k1, k2, k3, k4⟩, k5⟩ := hT
  refine ⟨⟨c', k1, by rw [(h1 173 (by omega)).2 sl hsl]; exact k2, by rw [(h1 184 (by omega)).2 sl hsl]; exact k3, fun s hs => ?_⟩, by rw [(h1 174 (by omega)).2 sl hsl]; exact k5⟩
  have d : ∀ a b : Nat, a ≠ b → ∀ m k n : Nat, k < m → n ≤ m → (m * a + k < m * b ∨ m * b + n ≤ m * a + k) := by
    intro a b hab m k n hk hn
    rcases Nat.lt_or_ge a b with e | e
    · left
      have : m * (a + 1) ≤ m * b := Nat.mul_le_mul_left m e
      rw [Nat.mul_succ] at this; omega
    · right
      have e : b + 1 ≤ a := by omega
      have : m * (b + 1) ≤ m * a := Nat.mul_le_mul_left m e
      rw [Nat.mul_succ] at this; omega
  exact (k4 s hs).mv (fun a e1 e2 => (h2 a e1 e2).2 _ (d sl t hsl 24 s 24 (by omega) (by omega))) (fun k hk => ⟨(h3 182 (by omega)).2 _ (d sl t hsl 1300 k c (by omega) hc), (h3 183 (by omega)).2 _ (d sl t hsl 1300 k c (by omega) hc)⟩)
