/-! ===== a text is read on both sides ===== -/
theorem ICl.parse {A : AS} {c : Nat} {w : LT} {u v : MT} (h : ICl A w u) (hLay : Lay w) (hA : AOk A c) (hL : LOk A w) (hF : Fr (wQ (lt_p w 100 10)) [] (kQ (lt_p w 100 10)) u v) (h0 : gI v 110 1 = 0) : ICl (aTap A (aG A, 0)) w v := by
  obtain ⟨a1, a2, a3, a4, a5, a6, a7, a8, a9, a10, a11⟩ := h
  obtain ⟨d7, dp⟩ := hL.2.2.1
  generalize hd : lt_p w 100 10 = d at d7 dp hF
  have dp' : d = 140 ∨ 216 ≤ d := dp
  have hI : ∀ a j, a ≠ 110 → a ≠ 112 → a ≠ 114 → a ≠ 115 → (a < d ∨ d + 26 < a) → gI v a j = gI u a j := fun a j e1 e2 e3 e4 e5 => hF.1 a j (by simp [nin] <;> omega)
  have hK : ∀ a j, a ≠ 113 → (a < d ∨ d + 26 < a) → gK v a j = gK u a j := fun a j e1 e2 => hF.2.2 a j (by simp [nin] <;> omega)
  have tx : ∀ {t : Nat}, lt_t w t = 7 → pOk t → t ≠ d → ∀ a j, t ≤ a → a ≤ t + 26 → gI v a j = gI u a j ∧ gK v a j = gK u a j := fun {t} h7 hp hn a j e1 e2 => by
    have := lay_tt hLay h7 d7 hn
    exact ⟨hI _ _ (by rcases hp with e | e <;> omega) (by rcases hp with e | e <;> omega) (by rcases hp with e | e <;> omega) (by rcases hp with e | e <;> omega) (by omega), hK _ _ (by rcases hp with e | e <;> omega) (by omega)⟩
  have hI' : ∀ a j, a ≠ 110 → a ≠ 112 → a ≠ 114 → a ≠ 115 → a < 140 → gI v a j = gI u a j := fun a j e1 e2 e3 e4 e5 => hI a j e1 e2 e3 e4 (by omega)
  refine ⟨a1.fr5 (fun a j e1 e2 => hI' _ _ (by omega) (by omega) (by omega) (by omega) (by omega)) (hI' _ _ (by decide) (by decide) (by decide) (by decide) (by decide)) (hI' _ _ (by decide) (by decide) (by decide) (by decide) (by decide)), a2.fr3 hA.2.1 (hI' _ _ (by decide) (by decide) (by decide) (by decide) (by decide)) (fun t ht => tx (a2.2 t ht).1 (hL.2.1 t ht).1 (by have := (hL.2.1 t ht).2.1; rw [hd] at this; exact this)), a3.fr3 hA.2.2.1 (hI' _ _ (by decide) (by decide) (by decide) (by decide) (by decide)) (fun t ht => tx (a3.2 t ht).1 (hL.y0 hA ht).2 ?_), by rw [hI' _ _ (by decide) (by decide) (by decide) (by decide) (by decide)]; exact a4, by rw [hI' _ _ (by decide) (by decide) (by decide) (by decide) (by decide)]; exact a5, ⟨Nat.zero_le _, by rw [h0]; exact nm0, fun k hk => absurd hk (by show ¬ k < 0; omega)⟩, by rw [hI' _ _ (by decide) (by decide) (by decide) (by decide) (by decide)]; exact a7, fun q hq => ⟨fun h hh => by rw [hI' _ _ (by decide) (by decide) (by decide) (by decide) (by decide)]; exact (a8 q hq).1 h hh, by rw [hI' _ _ (by decide) (by decide) (by decide) (by decide) (by decide)]; exact (a8 q hq).2.1, by rw [hI' _ _ (by decide) (by decide) (by decide) (by decide) (by decide)]; exact (a8 q hq).2.2⟩, fun j h1 h2 => by rw [hI' _ _ (by decide) (by decide) (by decide) (by decide) (by decide)]; exact a9 j h1 h2, a10.fr (fun a j h1 h2 => hI' _ _ (by omega) (by omega) (by omega) (by omega) (by omega)), fun hy => (a11 hy).fr (fun a j h1 h2 => ?_)⟩
  · have e0 := (hL.y0 hA ht).1
    subst e0
    have hy := hA.2.2.2.1
    have := (hL.2.2.2.1 (by omega)).2.1
    rw [hd] at this
    exact this
  · obtain ⟨_, _, o1, _, o2⟩ := hL.2.2.2.1 hy
    have := lay_tb hLay d7 o1
    exact hI _ _ (by omega) (by omega) (by omega) (by omega) (by omega)
theorem RT.low {u v : MT} {sl how : Nat} {rs : List AR} (h : RT u (1300 * sl) (24 * sl) sl rs how) (hsl : sl ≤ 6) (hl : rs.length ≤ 24) (hK : Kq u v) (h3 : ∀ a, (a = 173 ∨ a = 174 ∨ a = 184) → gI v a sl = gI u a sl) : RT v (1300 * sl) (24 * sl) sl rs how := by
  obtain ⟨⟨c', k1, k2, k3, k4⟩, k5⟩ := h
  refine ⟨⟨c', k1, by rw [h3 _ (by omega)]; exact k2, by rw [h3 _ (by omega)]; exact k3, fun s hs => ?_⟩, by rw [h3 _ (by omega)]; exact k5⟩
  exact (k4 s hs).mv (fun a e1 e2 => hK.1 _ _ e1 e2 (by omega)) (fun k hk => hK.2 _ (by omega))
theorem IRf.reads {A : AS} {c : Nat} {u v : MT} (h : IRf A u) (hA : AOk A c) (hF : Fr wI_X12_readText wL_X12_readText [] u v) (hK : Kq u v) (h0 : gI v 167 2 = 0) : IRf (aTap A (aG A, 0)) v := by
  obtain ⟨a1, a2, a3, a4, a5, a6, a7, a8, a9, a10, a11⟩ := h
  have k : ∀ j, (j = 22 ∨ j = 29 ∨ j = 30 ∨ j = 31 ∨ j = 34 ∨ j = 25 ∨ j = 40 ∨ j = 41 ∨ j = 73) → gI v 167 j = gI u 167 j := fun j hj => hF.1 _ _ (by simp [nin, wI_X12_readText] <;> omega)
  have m : ∀ a j, (a = 173 ∨ a = 174 ∨ a = 184) → j ≤ 6 → gI v a j = gI u a j := fun a j ha hj => hF.1 _ _ (by rcases ha with e | e | e <;> subst e <;> simp [nin, wI_X12_readText] <;> omega)
  have o : ∀ a j, (a = 185 ∨ a = 186 ∨ 189 ≤ a) → gI v a j = gI u a j := fun a j ha => hF.1 _ _ (by simp [nin, wI_X12_readText] <;> omega)
  refine ⟨⟨by rw [k _ (by decide)]; exact a1.1, by rw [k _ (by decide)]; exact a1.2.1, fun j hj => by rw [o _ _ (by decide), o _ _ (by decide), o _ _ (by decide), o _ _ (by decide), o _ _ (by decide)]; exact a1.2.2.1 j hj, fun j hj => by rw [o _ _ (by decide), o _ _ (by decide)]; exact a1.2.2.2.1 j hj, by rw [k _ (by decide)]; exact a1.2.2.2.2.1, by rw [k _ (by decide)]; exact a1.2.2.2.2.2⟩, ⟨by rw [k _ (by decide)]; exact a2.1, fun t ht => by rw [o _ _ (by decide), o _ _ (by decide)]; exact a2.2 t ht⟩, fun t ht => ⟨(a3 t ht).1, ?_⟩, fun t ht => ⟨(a4 t ht).1, ?_⟩, by rw [k _ (by decide)]; exact a5, by rw [k _ (by decide)]; exact a6, by rw [k _ (by decide)]; exact a7, ⟨Nat.zero_le _, by rw [h0]; exact nm0, fun j hj => absurd hj (by show ¬ j < 0; omega)⟩, fun j hj => by rw [hF.2.1 _ _ (by simp [nin, wL_X12_readText])]; exact a9 j hj, by rw [k _ (by decide)]; exact a10, fun j hj => by rw [o _ _ (by decide)]; exact a11 j hj⟩
  · have ht' : t < xtT (aX A) := ht
    have t6 := hA.2.1.1
    exact RT.low (a3 t ht).2 (show t ≤ 6 by omega) (hA.2.1.2 t ht').2.2.2.1 hK (fun a ha => m a t ha (by omega))
  · exact RT.low (a4 t ht).2 (Nat.le_refl _) (hA.2.2.1.2 t ht).2.2.2.1 hK (fun a ha => m a 6 ha (by decide))
section
variable {f : Nat}
theorem I_parse {A : AS} {c : Nat} {w : LT} {u : MT} (hf : 1300 < f) (hA : AOk A c) (hL : LOk A w) (hC : ICl A w u) : ∃ (k : Nat) (rs : List AR) (how : Nat) (fl : Int32), (k = 0 → rs.length ≤ 24 ∧ (∀ r ∈ rs, RV (vlN (aV A) : Int) r) ∧ 32 ≤ how ∧ how ≤ 34) ∧ (k ≠ 0 → 0 < fl.toInt) ∧
    Ok (F_X3_parse f (gI u 101 2) (lt_p w 100 10) u) (fun r => (k = 0 → r.1 = 0 ∧ CT r.2 (lt_p w 100 10) rs how) ∧ (k ≠ 0 → r.1 = fl) ∧ Fr (wQ (lt_p w 100 10)) [] (kQ (lt_p w 100 10)) u r.2 ∧ gI r.2 110 1 = 0) ∧
    ∀ u', IRf A u' → Ok (F_X12_readText f u') (fun r => (k = 0 → gI r 167 8 = 0 ∧ RT r 9100 168 7 rs how) ∧ (k ≠ 0 → gI r 167 8 = fl) ∧ gI r 167 2 = 0 ∧ Kq u' r ∧ Fr wI_X12_readText wL_X12_readText [] u' r) := by
  have e1 : (gI u 101 2).toInt = (vlN (aV A) : Int) := hC.1.1
  have dp : lt_p w 100 10 = 140 ∨ 216 ≤ lt_p w 100 10 := hL.2.2.1.2
  obtain ⟨E, hE, P1, P2⟩ := parse_both (f := f) (tx := lt_p w 100 10) (hn := (vlN (aV A) : Int)) hf (by omega) hC.2.2.2.2.2.1 e1 (by omega)
  obtain ⟨F1, F2⟩ := pT_far hE (hn := (vlN (aV A) : Int)) 30 [] 0 (by omega) (fun r hr => absurd hr (by simp)) (by decide) (by decide)
  generalize pT E (vlN (aV A) : Int) 30 [] 0 = p at P1 P2 F1 F2
  refine ⟨p.1, p.2.2.1, p.2.2.2, flt E (Int32.ofNat p.1) p.2.1, F1, fun hk => ?_, ?_, fun u' hR => ?_⟩
  · obtain ⟨l1, l2⟩ := F2 hk
    have m : (Int32.ofNat p.1).toInt = (p.1 : Int) := Nm.of (by omega)
    exact flt_pos hE (by omega) (by omega) l1
  · exact P1.mono (fun r hr => hr)
  · obtain ⟨r, er, ⟨r1, r2, r3⟩, r4⟩ := P2 u' hR.2.2.2.2.2.2.2.1 hR.2.2.2.2.2.2.2.2.1 hR.1.1
    exact ⟨r, er, r2, r3, r4, r1, fr_F_X12_readText er⟩
end
