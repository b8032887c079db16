/-! ===== the reference: one by one ===== -/
def keyR (n st z : Nat) : Nat := (z + n - st) % n
/-- which one comes first -/
def prec (s : QS) (n st how a b : Nat) : Prop := if how = 33 then (qW s b).toInt < (qW s a).toInt ∨ (qW s a = qW s b ∧ a < b) else keyR n st a < keyR n st b
theorem prec_asym {s : QS} {n st how a b : Nat} (h : prec s n st how a b) (h' : prec s n st how b a) : False := by
  unfold prec at *
  by_cases e : how = 33
  · rw [if_pos e] at h h'
    rcases h with h | ⟨h, h1⟩
    · rcases h' with h2 | ⟨h2, _⟩
      · omega
      · rw [h2] at h; omega
    · rcases h' with h2 | ⟨_, h2⟩
      · rw [h] at h2; omega
      · omega
  · rw [if_neg e] at h h'; omega
theorem key_at {n st j : Nat} (hst : st < n) (hj : j < n) : keyR n st ((st + j) % n) = j := by
  unfold keyR
  by_cases h : st + j < n
  · rw [Nat.mod_eq_of_lt h, show st + j + n - st = j + n by omega, Nat.add_mod_right, Nat.mod_eq_of_lt hj]
  · have e : (st + j) % n = st + j - n := by rw [Nat.mod_eq_sub_mod (by omega), Nat.mod_eq_of_lt (by omega)]
    rw [e, show st + j - n + n - st = j by omega, Nat.mod_eq_of_lt hj]
theorem at_key {n st z : Nat} (hst : st < n) (hz : z < n) : (st + keyR n st z) % n = z ∧ keyR n st z < n := by
  unfold keyR
  by_cases h : st ≤ z
  · have e : (z + n - st) % n = z - st := by rw [show z + n - st = z - st + n by omega, Nat.add_mod_right, Nat.mod_eq_of_lt (by omega)]
    rw [e]
    exact ⟨by rw [show st + (z - st) = z by omega, Nat.mod_eq_of_lt hz], by omega⟩
  · have e : (z + n - st) % n = z + n - st := Nat.mod_eq_of_lt (by omega)
    rw [e]
    exact ⟨by rw [show st + (z + n - st) = z + n by omega, Nat.add_mod_right, Nat.mod_eq_of_lt hz], by omega⟩
section
variable {f : Nat} {s : QS} {n q : Nat}
theorem r_nextOf {u : MT} {t how : Nat} (hf : 1300 < f) (hX : XV u s n q) {c : Nat → Bool} (hc : Flg u n c) (ht : Nm (gI u 167 44) t) (ht8 : t < 8) (hh : Nm (gI u 174 t) (how - 32)) (hhow : 32 ≤ how ∧ how ≤ 34) (hn0 : 0 < n) :
    ∃ y, F_X12_nextOf f u = some (y, u) ∧ ((y = -1 ∧ ∀ z, z < n → c z = true → can s z = false) ∨ ∃ h, Nm y h ∧ h < n ∧ c h = true ∧ can s h = true ∧ ∀ z, z < n → c z = true → can s z = true → z ≠ h → prec s n (if how = 34 then q % n else 0) how h z) := by
  have h12 := hX.n12
  have hhi : (gI u 174 t).toInt = ((how - 32 : Nat) : Int) := hh
  have e1 : (1 : Int32).toInt = 1 := rfl
  have e2 : (2 : Int32).toInt = 2 := rfl
  have hn := hX.2.2.2.2.2.2.1
  have hnne : ¬ gI u 167 31 = 0 := fun e => by have := (hn.eq nm0).mp e; omega
  -- the loop, beginning at st
  have loop : ∀ (st : Nat) (x2 : Int32), Nm x2 st → st < n → (how = 33 → st = 0) → ∀ (d j : Nat) (x1 x3 : Int32) (m : Nat), j + d = n → Nm x3 j → d < m →
      ((x1 = -1 ∧ ∀ z, z < n → keyR n st z < j → c z = true → can s z = false) ∨ ∃ h, Nm x1 h ∧ h < n ∧ keyR n st h < j ∧ c h = true ∧ can s h = true ∧ ∀ z, z < n → keyR n st z < j → c z = true → can s z = true → z ≠ h → prec s n st how h z) →
      ∃ y, B_X12_nextOf_31 f m x1 x2 x3 u = some (y, u) ∧ ((y = -1 ∧ ∀ z, z < n → c z = true → can s z = false) ∨ ∃ h, Nm y h ∧ h < n ∧ c h = true ∧ can s h = true ∧ ∀ z, z < n → c z = true → can s z = true → z ≠ h → prec s n st how h z) := by
    intro st x2 hx2 hst h33 d
    induction d with
    | zero =>
      intro j x1 x3 m hj hx3 hm hinv
      obtain ⟨m, rfl⟩ : ∃ m', m = m' + 1 := ⟨m - 1, by omega⟩
      refine ⟨x1, ?_, ?_⟩
      · rw [B_X12_nextOf_31, if_pos ((hn.le hx3).mpr (by omega))]
      · rcases hinv with ⟨e, hno⟩ | ⟨h, a1, a2, a3, a4, a5, a6⟩
        · exact Or.inl ⟨e, fun z hz => hno z hz (by have := (at_key hst hz).2; omega)⟩
        · exact Or.inr ⟨h, a1, a2, a4, a5, fun z hz => a6 z hz (by have := (at_key hst hz).2; omega)⟩
    | succ d ih =>
      intro j x1 x3 m hj hx3 hm hinv
      obtain ⟨m, rfl⟩ : ∃ m', m = m' + 1 := ⟨m - 1, by omega⟩
      have hjn : j < n := by omega
      have hv : Nm ((x2 + x3) - (x2 + x3) / (gI u 167 31) * (gI u 167 31)) ((st + j) % n) := (hx2.add hx3 (by omega)).mod hn
      have hg : (st + j) % n < n := Nat.mod_lt _ hn0
      have hkey := key_at hst hjn
      -- of a key below j + 1
      have hlow : ∀ z, z < n → keyR n st z < j + 1 → z = (st + j) % n ∨ keyR n st z < j := fun z hz hk => by
        by_cases e : keyR n st z = j
        · left; rw [← (at_key hst hz).1, e]
        · right; omega
      have stay : (c ((st + j) % n) = true → can s ((st + j) % n) = true → ∃ h, Nm x1 h ∧ h < n ∧ keyR n st h < j ∧ c h = true ∧ can s h = true ∧ prec s n st how h ((st + j) % n)) → ∃ y, B_X12_nextOf_107 f (fun x1' x2' x3' u' => B_X12_nextOf_31 f m x1' x2' x3' u') x1 x2 x3 u = some (y, u) ∧ ((y = -1 ∧ ∀ z, z < n → c z = true → can s z = false) ∨ ∃ h, Nm y h ∧ h < n ∧ c h = true ∧ can s h = true ∧ ∀ z, z < n → c z = true → can s z = true → z ≠ h → prec s n st how h z) := by
        intro hskip
        rw [B_X12_nextOf_107]
        refine ih (j + 1) x1 _ m (by omega) (hx3.succ (by omega)) (by omega) ?_
        rcases hinv with ⟨e, hno⟩ | ⟨h, a1, a2, a3, a4, a5, a6⟩
        · refine Or.inl ⟨e, fun z hz hk hcz => ?_⟩
          rcases hlow z hz hk with e' | e'
          · subst e'
            cases hcan : can s ((st + j) % n) with
            | false => rfl
            | true =>
              obtain ⟨h, b1, _⟩ := hskip hcz hcan
              have b1 : x1.toInt = (h : Int) := b1
              rw [e, show (-1 : Int32).toInt = -1 from rfl] at b1; omega
          · exact hno z hz e' hcz
        · refine Or.inr ⟨h, a1, a2, by omega, a4, a5, fun z hz hk hcz hcan hne => ?_⟩
          rcases hlow z hz hk with e' | e'
          · subst e'
            obtain ⟨h', b1, _, _, _, _, b6⟩ := hskip hcz hcan
            have : h = h' := by have a1 : x1.toInt = (h : Int) := a1; have b1 : x1.toInt = (h' : Int) := b1; omega
            subst this; exact b6
          · exact a6 z hz e' hcz hcan hne
      have take : c ((st + j) % n) = true → can s ((st + j) % n) = true → (∀ z, z < n → keyR n st z < j → c z = true → can s z = true → prec s n st how ((st + j) % n) z) → ∃ y, B_X12_nextOf_104 f (fun x1' x2' x3' u' => B_X12_nextOf_31 f m x1' x2' x3' u') x2 x3 ((x2 + x3) - (x2 + x3) / (gI u 167 31) * (gI u 167 31)) u = some (y, u) ∧ ((y = -1 ∧ ∀ z, z < n → c z = true → can s z = false) ∨ ∃ h, Nm y h ∧ h < n ∧ c h = true ∧ can s h = true ∧ ∀ z, z < n → c z = true → can s z = true → z ≠ h → prec s n st how h z) := by
        intro h1 h2 h3
        rw [B_X12_nextOf_104, B_X12_nextOf_107]
        refine ih (j + 1) _ _ m (by omega) (hx3.succ (by omega)) (by omega) (Or.inr ⟨(st + j) % n, hv, hg, by rw [hkey]; omega, h1, h2, fun z hz hk hcz hcan hne => ?_⟩)
        rcases hlow z hz hk with e' | e'
        · exact absurd e' hne
        · exact h3 z hz e' hcz hcan
      rw [B_X12_nextOf_31, if_neg (fun e => by have := (hn.le hx3).mp e; omega), ck_p hnne, ck_p (hv.ix (by omega)), hv.nat, hc _ hg]
      cases hcg : c ((st + j) % n) with
      | false =>
        rw [b2i_f (by decide), if_pos rfl]
        exact stay (fun e => by rw [hcg] at e; exact absurd e (by decide))
      | true =>
        rw [b2i_t rfl, if_neg ni1, bS (r_can hX hg hv)]
        dsimp only
        cases hcan : can s ((st + j) % n) with
        | false =>
          rw [b2i_f (by decide), if_pos rfl]
          exact stay (fun _ e => by rw [hcan] at e; exact absurd e (by decide))
        | true =>
          rw [b2i_t rfl, if_neg ni1]
          rcases hinv with ⟨e, hno⟩ | ⟨h, a1, a2, a3, a4, a5, a6⟩
          · subst e
            rw [if_pos (by decide)]
            exact take hcg hcan (fun z hz hk hcz hcz2 => by rw [hno z hz hk hcz] at hcz2; exact absurd hcz2 (by decide))
          · have a1i : x1.toInt = (h : Int) := a1
            rw [if_neg (fun e => by have := i_lt.mp e; rw [show (0 : Int32).toInt = 0 from rfl] at this; omega), ck_p (ht.ix ht8), ht.nat]
            by_cases e33 : how = 33
            · have hst0 := h33 e33
              subst hst0
              rw [if_pos (i_eq.mpr (by rw [hhi, e1, e33]; rfl)), ck_p (a1.ix (by omega)), a1.nat, (hX.2.2.2.1 _ hg).1, (hX.2.2.2.1 h a2).1]
              have k0 : ∀ z, z < n → keyR n 0 z = z := fun z hz => by unfold keyR; rw [show z + n - 0 = z + n by omega, Nat.add_mod_right, Nat.mod_eq_of_lt hz]
              rw [k0 h a2] at a3
              have hjj : (0 + j) % n = j := by rw [Nat.zero_add, Nat.mod_eq_of_lt hjn]
              by_cases hle : qW s ((0 + j) % n) ≤ qW s h
              · have hle' := i_le.mp hle
                rw [if_pos hle]
                refine stay (fun _ _ => ⟨h, a1, a2, by rw [k0 h a2]; exact a3, a4, a5, ?_⟩)
                unfold prec
                rw [if_pos e33]
                by_cases e : (qW s ((0 + j) % n)).toInt < (qW s h).toInt
                · exact Or.inl e
                · exact Or.inr ⟨Int32.toInt_inj.mp (by omega), by rw [hjj]; exact a3⟩
              · have hgt : (qW s h).toInt < (qW s ((0 + j) % n)).toInt := Int.not_le.mp (fun e => hle (i_le.mpr e))
                rw [if_neg hle]
                refine take hcg hcan (fun z hz hk hcz hcan2 => ?_)
                unfold prec
                rw [if_pos e33]
                left
                by_cases ez : z = h
                · subst ez; exact hgt
                · have := a6 z hz hk hcz hcan2 ez
                  unfold prec at this
                  rw [if_pos e33] at this
                  rcases this with h1 | ⟨h1, _⟩
                  · omega
                  · rw [← h1]; exact hgt
            · rw [if_neg (fun e => by have := i_eq.mp e; rw [hhi, e1] at this; omega)]
              refine stay (fun _ _ => ⟨h, a1, a2, a3, a4, a5, ?_⟩)
              unfold prec
              rw [if_neg e33, hkey]; exact a3
  rw [F_X12_nextOf, ck_p (ht.ix ht8), ht.nat]
  by_cases e34 : how = 34
  · rw [if_pos (i_eq.mpr (by rw [hhi, e2, e34]; rfl)), ck_p hnne, if_pos e34]
    exact loop (q % n) _ (hX.2.2.2.2.2.1.mod hn) (Nat.mod_lt _ hn0) (fun e => by omega) n 0 (-1) 0 f (by omega) nm0 (by omega) (Or.inl ⟨rfl, fun z _ hk => absurd hk (by omega)⟩)
  · rw [if_neg (fun e => by have := i_eq.mp e; rw [hhi, e2] at this; omega), if_neg e34]
    exact loop 0 0 nm0 hn0 (fun _ => rfl) n 0 (-1) 0 f (by omega) nm0 (by omega) (Or.inl ⟨rfl, fun z _ hk => absurd hk (by omega)⟩)
theorem room_hnd {src h k : Nat} {x : Int32} (e : k ≠ h) : room (hnd s src h x) k = room s k := by
  unfold room
  rw [show qL (hnd s src h x) k = qL s k from upf_ne e, show qW (hnd s src h x) k = qW s k from upf_ne e]
theorem can_hnd {src h k : Nat} {x : Int32} (e : k ≠ h) : can (hnd s src h x) k = can s k := by
  unfold can; rw [room_hnd e]
/-- those that can't are passed over -/
theorem ons_skip {src : Nat} {B2 : List Nat} : ∀ (B1 : List Nat) (p : QS × Int32), (∀ x ∈ B1, can p.1 x = false) → ons src (B1 ++ B2) p = ons src B2 p := by
  intro B1
  induction B1 with
  | nil => intro p _; rfl
  | cons x B1 ih =>
    intro p h
    show (if 0 < p.2.toInt ∧ can p.1 x = true then _ else _) = _
    rw [if_neg (fun e => by rw [h x (by simp)] at e; exact absurd e.2 (by decide))]
    exact ih p (fun y hy => h y (by simp [hy]))
theorem ons_none {src : Nat} : ∀ (B : List Nat) (p : QS × Int32), (p.2.toInt ≤ 0 ∨ ∀ x ∈ B, can p.1 x = false) → ons src B p = p := by
  intro B
  induction B with
  | nil => intro p _; rfl
  | cons x B ih =>
    intro p h
    show (if 0 < p.2.toInt ∧ can p.1 x = true then _ else _) = _
    rw [if_neg (fun e => by rcases h with h | h; omega; rw [h x (by simp)] at e; exact absurd e.2 (by decide))]
    exact ih p (h.imp id (fun h y hy => h y (by simp [hy])))
/-- the first that can -/
theorem first_can : ∀ (B : List Nat), (∃ x ∈ B, can s x = true) → ∃ B1 b B2, B = B1 ++ b :: B2 ∧ can s b = true ∧ ∀ x ∈ B1, can s x = false := by
  intro B
  induction B with
  | nil => rintro ⟨x, hx, _⟩; cases hx
  | cons x B ih =>
    rintro ⟨y, hy, hcy⟩
    cases e : can s x with
    | true => exact ⟨[], x, B, rfl, e, fun y hy => by cases hy⟩
    | false =>
      rcases List.mem_cons.mp hy with e2 | e2
      · subst e2; rw [e] at hcy; exact absurd hcy (by decide)
      · obtain ⟨B1, b, B2, h1, h2, h3⟩ := ih ⟨y, e2, hcy⟩
        exact ⟨x :: B1, b, B2, by rw [h1]; rfl, h2, fun z hz => by rcases List.mem_cons.mp hz with e3 | e3; subst e3; exact e; exact h3 z e3⟩
end
