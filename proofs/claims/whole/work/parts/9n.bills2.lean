/-! ===== bills go out: both alike ===== -/
theorem ICl.setB {A : AS} {c : Nat} {w : LT} {u v : MT} (h : ICl A w u) (hA : AOk A c) (hL : LOk A w) (hI : ∀ a j, a ≠ 136 → a ≠ 137 → gI v a j = gI u a j) (hK : ∀ a j, gK v a j = gK u a j) (h1 : Nm (gI v 136 1) (aB A + 1)) (h2 : ∀ d, d < aB A + 1 → (∀ h, h < 12 → gI v 137 (14 * d + h + 2) = bNew A (14 * d + h)) ∧ gI v 137 (14 * d + 1) = bNew A (14 * d + 12) ∧ gI v 137 (14 * d) = bNew A (14 * d + 13)) (h3 : ∀ j, 14 * (aB A + 1) ≤ j → j < 140 → gI v 137 j = 0) : ICl (aBil A) w v := by
  obtain ⟨a1, a2, a3, a4, a5, a6, a7, a8, a9, a10, a11⟩ := h
  have tx : ∀ {t : Nat}, pOk t → ∀ a j, t ≤ a → a ≤ t + 26 → gI v a j = gI u a j ∧ gK v a j = gK u a j := fun {t} hp a j e1 e2 => ⟨hI _ _ (by rcases hp with e | e <;> omega) (by rcases hp with e | e <;> omega), hK _ _⟩
  exact ⟨a1.fr (fun a j h => hI _ _ (by omega) (by omega)) (hI _ _ (by decide) (by decide)) (hI _ _ (by decide) (by decide)), a2.fr3 hA.2.1 (hI _ _ (by decide) (by decide)) (fun t ht => tx (hL.2.1 t ht).1), a3.fr3 hA.2.2.1 (hI _ _ (by decide) (by decide)) (fun t ht => tx (hL.y0 hA ht).2), by rw [hI _ _ (by decide) (by decide)]; exact a4, by rw [hI _ _ (by decide) (by decide)]; exact a5, ⟨a6.1, by rw [hI _ _ (by decide) (by decide)]; exact a6.2.1, fun k hk => by rw [hI _ _ (by decide) (by decide)]; exact a6.2.2 k hk⟩, h1, h2, h3, a10.fr (fun a j h1 h2 => hI _ _ (by omega) (by omega)), fun hy => (a11 hy).fr (fun a j h1 h2 => hI _ _ (by have := (hL.2.2.2.1 hy).2.2.2.2; omega) (by have := (hL.2.2.2.1 hy).2.2.2.2; omega))⟩
theorem IRf.setB {A : AS} {u v : MT} (h : IRf A u) (hI : ∀ a j, a ≠ 215 → (a ≠ 167 ∨ j ≠ 73) → gI v a j = gI u a j) (hL : ∀ j, gL v 172 j = gL u 172 j) (h1 : Nm (gI v 167 73) (aB A + 1)) (h2 : ∀ j, j < 14 * (aB A + 1) → gI v 215 j = bNew A j) : IRf (aBil A) v := by
  obtain ⟨a1, a2, a3, a4, a5, a6, a7, a8, a9, a10, a11⟩ := h
  have s : Sfr u v := ⟨fun a j h1 h2 => hI _ _ (by omega) (by omega), hI _ _ (by omega) (by omega), hI _ _ (by omega) (by omega), hI _ _ (by omega) (by omega), hI _ _ (by omega) (by omega), hI _ _ (by omega) (by omega)⟩
  exact ⟨a1.fr s, a2.fr s, a3.fr s, a4.fr s, by rw [hI _ _ (by omega) (by omega)]; exact a5, by rw [hI _ _ (by omega) (by omega)]; exact a6, by rw [hI _ _ (by omega) (by omega)]; exact a7, ⟨a8.1, by rw [hI _ _ (by omega) (by omega)]; exact a8.2.1, fun k hk => by rw [hI _ _ (by omega) (by omega)]; exact a8.2.2 k hk⟩, fun k hk => by rw [hL]; exact a9 k hk, h1, h2⟩
theorem slk_inj {p : Nat} (hp : p < 14) : slk p < 14 ∧ (p = 0 → slk p = 13) ∧ (p = 1 → slk p = 12) ∧ (2 ≤ p → slk p = p - 2) := by
  unfold slk
  by_cases e : p = 0
  · rw [if_pos e]; omega
  · rw [if_neg e]
    by_cases e1 : p = 1
    · rw [if_pos e1]; omega
    · rw [if_neg e1]; omega
section
variable {f : Nat}
theorem c_bills40 {A : AS} {c : Nat} {w : LT} {u : MT} {x1 x2 : Int32} (hf : 1300 < f) (hA : AOk A c) (hC : ICl A w u) (hx2 : Nm x2 (24 * aB A + 24)) (h10 : aB A < 10) (hB : ∀ q, q < 24 * aB A + 24 → Brow (aV A) (aX A) (aN A) 130 q u) :
    ∃ v, B_X11_bills_40 w f f x1 x2 (-2) u = some (x1, v) ∧ (∀ a j, a ≠ 136 → a ≠ 137 → gI v a j = gI u a j) ∧ (∀ a j, gK v a j = gK u a j) ∧ (∀ a j, gL v a j = gL u a j) ∧ Nm (gI v 136 1) (aB A + 1) ∧ (∀ p, p < vlN (aV A) + 2 → gI v 137 (14 * aB A + p) = bVal A (slk p) - bSum A (slk p)) ∧ ∀ j, (j < 14 * aB A ∨ 14 * aB A + (vlN (aV A) + 2) ≤ j) → gI v 137 j = gI u 137 j := by
  have h12 := hA.1.1
  have n136 : Nm (gI u 136 1) (aB A) := hC.2.2.2.2.2.2.1
  have e101 : (gI u 101 2).toInt = (vlN (aV A) : Int) := hC.1.1
  have loop : ∀ (e p : Nat) (y : Int32) (m : Nat) (t : MT), p + e = vlN (aV A) + 2 → y.toInt = (p : Int) - 2 → e < m → (∀ a j, a ≠ 137 → gI t a j = gI u a j) → (∀ a j, gK t a j = gK u a j) → (∀ a j, gL t a j = gL u a j) → (∀ p', p' < p → gI t 137 (14 * aB A + p') = bVal A (slk p') - bSum A (slk p')) → (∀ j, (j < 14 * aB A ∨ 14 * aB A + p ≤ j) → gI t 137 j = gI u 137 j) → ∃ v, B_X11_bills_40 w f m x1 x2 y t = some (x1, v) ∧ (∀ a j, a ≠ 136 → a ≠ 137 → gI v a j = gI u a j) ∧ (∀ a j, gK v a j = gK u a j) ∧ (∀ a j, gL v a j = gL u a j) ∧ Nm (gI v 136 1) (aB A + 1) ∧ (∀ p, p < vlN (aV A) + 2 → gI v 137 (14 * aB A + p) = bVal A (slk p) - bSum A (slk p)) ∧ ∀ j, (j < 14 * aB A ∨ 14 * aB A + (vlN (aV A) + 2) ≤ j) → gI v 137 j = gI u 137 j := by
    intro e
    induction e with
    | zero =>
      intro p y m t hp hy hm h1 h2 h3 h4 h5
      obtain ⟨m, rfl⟩ : ∃ m', m = m' + 1 := ⟨m - 1, by omega⟩
      have hp : p = vlN (aV A) + 2 := by omega
      subst hp
      refine ⟨sI t 136 1 (gI t 136 1 + 1), ?_, fun a j e1 e2 => by rw [g_ne _ _ _ _ e1]; exact h1 _ _ e2, h2, h3, ?_, fun p hp => by rw [g_ne _ _ _ _ (by decide)]; exact h4 p hp, fun j hj => by rw [g_ne _ _ _ _ (by decide)]; exact h5 j hj⟩
      · rw [B_X11_bills_40, if_pos (by rw [h1 _ _ (by decide)]; exact i_le.mpr (by omega))]
      · rw [g_same, h1 _ _ (by decide)]; exact n136.succ (by omega)
    | succ e ih =>
      intro p y m t hp hy hm h1 h2 h3 h4 h5
      obtain ⟨m, rfl⟩ : ∃ m', m = m' + 1 := ⟨m - 1, by omega⟩
      have VCt : VC (aV A) t := hC.1.fr (fun a j h => h1 _ _ (by omega)) (h1 _ _ (by decide)) (h1 _ _ (by decide))
      have hBt : ∀ q, q < 24 * aB A + 24 → Brow (aV A) (aX A) (aN A) 130 q t := fun q hq => Brow_cg rfl rfl rfl (fun q' hq' => ⟨fun h => ⟨rfl, rfl, rfl⟩, fun s => rfl⟩) (fun a j e1 e2 => h1 _ _ (by omega)) (hB q hq)
      obtain ⟨s0, s1, s2, s3⟩ := slk_inj (p := p) (by omega)
      have ec : F_X1_coinsUpTo f 130 128 y x2 t = some (bVal A (slk p), t) := by
        have key : ∀ fn, bVal A (slk p) = sm fn (24 * aB A + 24) → (p = 0 → fn = tes (aV A) (aX A) (aN A) 9) → (p = 1 → fn = tes (aV A) (aX A) (aN A) 8) → (2 ≤ p → fn = tcn (aV A) (aX A) (aN A) (p - 2)) → F_X1_coinsUpTo f 130 128 y x2 t = some (bVal A (slk p), t) := fun fn e0 e1 e2 e3 => by
          rw [e0]; exact c_upTo hf hA.1 VCt hBt hy (by omega) hx2 (by omega) e1 e2 e3
        by_cases c0 : p = 0
        · refine key (tes (aV A) (aX A) (aN A) 9) ?_ (fun _ => rfl) (fun c => by omega) (fun c => by omega)
          rw [s1 c0]; unfold bVal; rw [if_neg (by omega), if_neg (by omega), if_neg (by omega)]
        by_cases c1 : p = 1
        · refine key (tes (aV A) (aX A) (aN A) 8) ?_ (fun c => by omega) (fun _ => rfl) (fun c => by omega)
          rw [s2 c1]; unfold bVal; rw [if_neg (by omega), if_neg (by omega), if_pos rfl]
        · refine key (tcn (aV A) (aX A) (aN A) (p - 2)) ?_ (fun c => by omega) (fun c => by omega) (fun _ => rfl)
          rw [s3 (by omega)]; unfold bVal; rw [if_pos (by omega)]
      have eb : sm (fun d => gI t 137 (14 * d + p)) (aB A) = bSum A (slk p) := sm_eq _ (fun d hd => by rw [h5 _ (by omega)]; exact hC.bil hd (by omega))
      have ew := c_bwrite (f := f) (u := t) (x1 := y) (x2 := bVal A (slk p)) hf (by rw [h1 _ _ (by decide)]; exact n136) h10 hy (by omega)
      rw [eb] at ew
      rw [B_X11_bills_40, if_neg (fun c => by rw [h1 _ _ (by decide)] at c; have := i_le.mp c; omega), ec, Option.bind_some, ew, Option.bind_some]
      have z1 : (1 : Int32).toInt = 1 := rfl
      refine ih (p + 1) (y + 1) m _ (by omega) (by rw [i_add (by omega) (by omega)]; omega) (by omega) (fun a j e1 => by rw [g_ne _ _ _ _ e1]; exact h1 _ _ e1) h2 h3 (fun p' hp' => ?_) (fun j hj => by rw [g_nk _ _ _ (by omega)]; exact h5 j (by omega))
      by_cases c : p' = p
      · subst c; exact g_same _ _ _ _
      · rw [g_nk _ _ _ (by omega)]; exact h4 p' (by omega)
  exact loop (vlN (aV A) + 2) 0 (-2) f u (by omega) rfl (by omega) (fun _ _ _ => rfl) (fun _ _ => rfl) (fun _ _ => rfl) (fun p hp => absurd hp (by omega)) (fun _ _ => rfl)
theorem r_bills37 {A : AS} {c : Nat} {u : MT} (hf : 1300 < f) (hA : AOk A c) (hR : IRf A u) (h10 : aB A < 10) (hS : RSum (aV A) (aX A) (aN A) (24 * aB A + 24) u) :
    ∃ v, B_X12_bills_37 f f 0 u = some (gI u 167 73 + 1 - 1, v) ∧ (∀ a j, a ≠ 215 → (a ≠ 167 ∨ j ≠ 73) → gI v a j = gI u a j) ∧ (∀ a j, gK v a j = gK u a j) ∧ (∀ a j, gL v a j = gL u a j) ∧ gI v 167 73 = gI u 167 73 + 1 ∧ ∀ j, j < 14 * (aB A + 1) → gI v 215 j = bNew A j := by
  have h12 := hA.1.1
  have n73 : Nm (gI u 167 73) (aB A) := hR.2.2.2.2.2.2.2.2.2.1
  have n14 : Nm (14 : Int32) 14 := rfl
  have hbl := hR.2.2.2.2.2.2.2.2.2.2
  have e210 : ∀ k, k < 14 → gI u 210 k = bVal A k := by
    intro k hk
    obtain ⟨s1, s2, s3, s4⟩ := hS
    unfold bVal
    by_cases c1 : k < vlN (aV A)
    · rw [if_pos c1]; exact s1 k c1
    · rw [if_neg c1]
      by_cases c2 : k < 12
      · rw [if_pos c2]; exact s4 k (by omega) c2
      · rw [if_neg c2]
        by_cases c3 : k = 12
        · rw [if_pos c3, c3]; exact s2
        · rw [if_neg c3, show k = 13 by omega]; exact s3
  have loop : ∀ (e k : Nat) (y : Int32) (m : Nat) (t : MT), k + e = 14 → Nm y k → e < m → (∀ a j, a ≠ 215 → gI t a j = gI u a j) → (∀ a j, gK t a j = gK u a j) → (∀ a j, gL t a j = gL u a j) → (∀ j, j < 14 * aB A + k → gI t 215 j = bNew A j) → ∃ v, B_X12_bills_37 f m y t = some (gI u 167 73 + 1 - 1, v) ∧ (∀ a j, a ≠ 215 → (a ≠ 167 ∨ j ≠ 73) → gI v a j = gI u a j) ∧ (∀ a j, gK v a j = gK u a j) ∧ (∀ a j, gL v a j = gL u a j) ∧ gI v 167 73 = gI u 167 73 + 1 ∧ ∀ j, j < 14 * (aB A + 1) → gI v 215 j = bNew A j := by
    intro e
    induction e with
    | zero =>
      intro k y m t hk hy hm h1 h2 h3 h4
      obtain ⟨m, rfl⟩ : ∃ m', m = m' + 1 := ⟨m - 1, by omega⟩
      have q73 : gI t 167 73 = gI u 167 73 := h1 _ _ (by decide)
      refine ⟨sI t 167 73 (gI t 167 73 + 1), ?_, fun a j e1 e2 => ?_, h2, h3, by rw [g_same, q73], fun j hj => by rw [g_ne _ _ _ _ (by decide)]; exact h4 j (by omega)⟩
      · rw [B_X12_bills_37, if_pos ((n14.le hy).mpr (by omega))]
        show some (gI (sI t 167 73 (gI t 167 73 + 1)) 167 73 - 1, sI t 167 73 (gI t 167 73 + 1)) = _
        rw [g_same, q73]
      · by_cases c : a = 167
        · subst c; rw [g_nk _ _ _ (by omega)]; exact h1 _ _ e1
        · rw [g_ne _ _ _ _ c]; exact h1 _ _ e1
    | succ e ih =>
      intro k y m t hk hy hm h1 h2 h3 h4
      obtain ⟨m, rfl⟩ : ∃ m', m = m' + 1 := ⟨m - 1, by omega⟩
      have n73t : Nm (gI t 167 73) (aB A) := by rw [h1 _ _ (by decide)]; exact n73
      rw [B_X12_bills_37, if_neg (fun c => by have := (n14.le hy).mp c; omega)]
      have inner : ∀ (g d : Nat) (z a : Int32) (l : Nat), d + g = aB A → Nm z d → g < l → a = sm (fun d => aL A (14 * d + k)) d → ∃ v, B_X12_bills_47 f (fun x1' u' => B_X12_bills_37 f m x1' u') l y a z t = some (gI u 167 73 + 1 - 1, v) ∧ (∀ a j, a ≠ 215 → (a ≠ 167 ∨ j ≠ 73) → gI v a j = gI u a j) ∧ (∀ a j, gK v a j = gK u a j) ∧ (∀ a j, gL v a j = gL u a j) ∧ gI v 167 73 = gI u 167 73 + 1 ∧ ∀ j, j < 14 * (aB A + 1) → gI v 215 j = bNew A j := by
        intro g
        induction g with
        | zero =>
          intro d z a l hd hz hl ha
          obtain ⟨l, rfl⟩ : ∃ m', l = m' + 1 := ⟨l - 1, by omega⟩
          have hd : d = aB A := by omega
          subst hd
          have ns : Nm (14 * gI t 167 73 + y) (14 * aB A + k) := (n14.mul n73t (by omega)).add hy (by omega)
          rw [B_X12_bills_47, if_pos ((n73t.le hz).mpr (Nat.le_refl _)), ck_p (hy.ix (by omega)), ck_p (ns.ix (by omega)), ns.nat, hy.nat, h1 210 _ (by decide), e210 k (by omega), ha]
          refine ih (k + 1) (y + 1) m _ (by omega) (hy.succ (by omega)) (by omega) (fun a j e1 => by rw [g_ne _ _ _ _ e1]; exact h1 _ _ e1) h2 h3 (fun j hj => ?_)
          by_cases c : j = 14 * aB A + k
          · subst c
            rw [g_same]
            unfold bNew
            rw [if_neg (by omega), show 14 * aB A + k - 14 * aB A = k by omega]; rfl
          · rw [g_nk _ _ _ c]; exact h4 j (by omega)
        | succ g ihg =>
          intro d z a l hd hz hl ha
          obtain ⟨l, rfl⟩ : ∃ m', l = m' + 1 := ⟨l - 1, by omega⟩
          have ns : Nm (14 * z + y) (14 * d + k) := (n14.mul hz (by omega)).add hy (by omega)
          rw [B_X12_bills_47, if_neg (fun c => by have := (n73t.le hz).mp c; omega), ck_p (ns.ix (by omega)), ns.nat, h4 _ (by omega)]
          refine ihg (d + 1) (z + 1) _ l (by omega) (hz.succ (by omega)) (by omega) ?_
          rw [ha]
          unfold bNew
          rw [if_pos (by omega)]; rfl
      exact inner (aB A) 0 0 0 f (by omega) nm0 (by omega) rfl
  exact loop 14 0 0 f u (by omega) nm0 (by omega) (fun _ _ _ => rfl) (fun _ _ => rfl) (fun _ _ => rfl) (fun j hj => by
    rw [hbl j (by omega)]; unfold bNew; rw [if_pos (by omega)])
theorem P_bills {A : AS} {c : Nat} {w : LT} {u : MT} (hf : 3000 < f) (hLay : Lay w) (h : Inv A c w u) : ∃ a u1 u2 A', F_X11_bills w f u = some (a, u1) ∧ F_X12_bills f u1 = some (a, u2) ∧ Inv A' (c + 1) w u2 := by
  have hI := h.thr (x := 0)
  obtain ⟨hA, hL, hC, hR⟩ := h
  have h12 := hA.1.1
  have n136 : Nm (gI u 136 1) (aB A) := hC.2.2.2.2.2.2.1
  have b10 := hA.2.2.2.2.2.2.2.2.1
  have n73 : Nm (gI u 167 73) (aB A) := hR.2.2.2.2.2.2.2.2.2.1
  have n10 : Nm (10 : Int32) 10 := rfl
  by_cases g : aB A < 10
  · have n24 : Nm ((gI u 136 1 + 1) * 24) (24 * aB A + 24) := by
      have := (n136.succ (by omega)).mul (show Nm (24 : Int32) 24 from rfl) (by omega)
      rw [show (aB A + 1) * 24 = 24 * aB A + 24 by omega] at this
      exact this
    have n23 : Nm ((gI u 136 1 + 1) * 24 - 1) (24 * aB A + 23) := by
      have := n24.sub (show Nm (1 : Int32) 1 from rfl) (by omega)
      exact this
    have eN : gI u 100 11 = aN A := hC.2.2.2.1
    obtain ⟨u1, e1, C1, F1, T1⟩ := I_main (f := f) (x := (gI u 136 1 + 1) * 24 - 1) (d := aN A) hf hLay hA hL hC n23 (by omega)
    obtain ⟨⟨W, t1, t2, t3, t4⟩, t5, t6, t7, _⟩ := T1
    obtain ⟨v1, f1, f2, f3, f4, f5, f6, f7⟩ := c_bills40 (f := f) (w := w) (x1 := gI u 136 1) (by omega) hA C1 n24 g (fun q hq => t4.1 q (by omega))
    have bn : ∀ h, vlN (aV A) ≤ h → h < 12 → bVal A h - bSum A h = 0 := by
      intro h hn h12'
      have e1 : bVal A h = 0 := by unfold bVal; rw [if_neg (by omega), if_pos h12']
      have e2 : bSum A h = 0 := (sm_eq (v := fun _ => 0) _ (fun d hd => hA.2.2.2.2.2.2.2.2.2 d h hd hn h12')).trans (sm_zero _)
      rw [e1, e2]; decide
    have hA' : AOk (aBil A) (c + 1) := by
      obtain ⟨b1, b2, b3, b4, b5, b6, b7, b8, b9, b10⟩ := hA
      refine ⟨b1, b2, b3, b4, b5, b6, by show (aN A).toInt ≤ _; omega, b8, g, fun d h hd hn hh => ?_⟩
      have hd : d < aB A + 1 := hd
      have hn : vlN (aV A) ≤ h := hn
      show bNew A (14 * d + h) = 0
      unfold bNew
      by_cases c1 : d < aB A
      · rw [if_pos (by omega)]; exact b10 d h c1 hn hh
      · have : d = aB A := by omega
        subst this
        rw [if_neg (by omega), show 14 * aB A + h - 14 * aB A = h by omega]
        exact bn h hn hh
    have hL' : LOk (aBil A) w := hL
    have bil : ∀ d p, d < aB A + 1 → p < 14 → gI v1 137 (14 * d + p) = bNew A (14 * d + slk p) := by
      intro d p hd hp
      obtain ⟨s0, s1, s2, s3⟩ := slk_inj (p := p) hp
      unfold bNew
      by_cases c1 : d < aB A
      · rw [if_pos (by omega), f7 _ (by omega)]; exact C1.bil c1 hp
      · have : d = aB A := by omega
        subst this
        rw [if_neg (by omega), show 14 * aB A + slk p - 14 * aB A = slk p by omega]
        by_cases c2 : p < vlN (aV A) + 2
        · exact f6 p c2
        · rw [f7 _ (by omega), s3 (by omega), bn _ (by omega) (by omega)]
          exact C1.2.2.2.2.2.2.2.2.1 _ (by omega) (by omega)
    have C2 : ICl (aBil A) w v1 := C1.setB hA hL f2 f3 f5 (fun d hd => ⟨fun h hh => by
        have := bil d (h + 2) hd (by omega)
        rw [show 14 * d + (h + 2) = 14 * d + h + 2 by omega, show slk (h + 2) = h from by unfold slk; rw [if_neg (by omega), if_neg (by omega)]; rfl] at this
        exact this, bil d 1 hd (by decide), bil d 0 hd (by decide)⟩) (fun j h1 h2 => by rw [f7 _ (by omega)]; exact C1.2.2.2.2.2.2.2.2.1 _ (by omega) h2)
    have R1 : IRf A v1 := (hR.fr F1).fr ⟨fun a j e1 e2 => f2 _ _ (by omega) (by omega), fun j => f4 _ _⟩
    have R1' : IRf A (sI v1 167 0 0) := R1.thr
    have m73 : Nm (gI (sI v1 167 0 0) 167 73) (aB A) := R1'.2.2.2.2.2.2.2.2.2.1
    have m23 : Nm (24 * gI (sI v1 167 0 0) 167 73 + 23) (24 * aB A + 23) := ((show Nm (24 : Int32) 24 from rfl).mul m73 (by omega)).add (show Nm (23 : Int32) 23 from rfl) (by omega)
    obtain ⟨u2, e2, R2, F2, W2, W3⟩ := R_main (f := f) (x := 24 * gI (sI v1 167 0 0) 167 73 + 23) (d := aN A) (by omega) hA R1' m23 (by omega)
    have hS : RSum (aV A) (aX A) (aN A) (24 * aB A + 24) u2 := by
      obtain ⟨_, _, _, _, _, _, _, _, _, _, _, _, w13⟩ := W2
      exact w13
    obtain ⟨v2, k1, k2, k3, k4, k5, k6⟩ := r_bills37 (f := f) (by omega) hA R2 g hS
    have m40 : gI (sI v1 167 0 0) 167 40 = aN A := R1'.2.2.2.2.2.1
    have q73 : Nm (gI u2 167 73) (aB A) := R2.2.2.2.2.2.2.2.2.2.1
    have eans : gI u2 167 73 + 1 - 1 = gI u 136 1 := by
      have := (q73.succ (by omega)).sub (show Nm (1 : Int32) 1 from rfl) (by omega)
      exact this.inj n136
    refine ⟨gI u 136 1, v1, v2, aBil A, ?_, ?_, hA', hL', ?_, ?_⟩
    · rw [F_X11_bills]
      show (if gI u 136 1 < 10 then (F_X1_workTo w f 130 128 ((gI u 136 1 + 1) * 24 - 1) (gI u 100 11) u).bind _ else _) = _
      rw [if_pos ((n136.lt n10).mpr g), eN, e1]
      exact f1
    · rw [F_X12_bills]
      show (if gI (sI v1 167 0 0) 167 73 = 10 then _ else (F_X12_works f (24 * gI (sI v1 167 0 0) 167 73 + 23) (gI (sI v1 167 0 0) 167 40) 0 (sI v1 167 0 0)).bind _) = _
      rw [if_neg (fun e => by have := (m73.eq n10).mp e; omega), m40, e2, Option.bind_some, k1, eans]
    · exact ((C2.fr hA' hL' (FrR.put (a := 167) (by decide))).fr hA' hL' F2).fr hA' hL' ⟨fun a j e => k2 _ _ (by omega) (by omega), k3, fun j => k4 _ _⟩
    · exact R2.setB k2 (fun j => k4 _ _) (by rw [k5]; exact q73.succ (by omega)) k6
  · have e10 : aB A = 10 := by omega
    refine ⟨-1, u, sI u 167 0 0, A, ?_, ?_, hI⟩
    · rw [F_X11_bills]
      show (if gI u 136 1 < 10 then _ else _) = _
      rw [if_neg (fun e => g ((n136.lt n10).mp e))]
    · rw [F_X12_bills]
      show (if gI (sI u 167 0 0) 167 73 = 10 then _ else _) = _
      rw [g_nk _ _ _ (by decide), if_pos ((n73.eq n10).mpr e10)]
end
