/-! ===== both read a text alike ===== -/
abbrev wQ (tx : Nat) : WL := [(110, 1, 2), (112, 1, 0), (114, 1, 0), (115, 1, 0), (tx, 27, 0)]
abbrev kQ (tx : Nat) : WL := [(113, 1, 0), (tx, 27, 0)]
def CPq (E : ET) (tx : Nat) (u : MT) (p : Nat × Nat × List AR × Nat) (r : Int32 × MT) : Prop :=
  (p.1 = 0 → r.1 = 0 ∧ CT r.2 tx p.2.2.1 p.2.2.2) ∧ (p.1 ≠ 0 → r.1 = flt E (Int32.ofNat p.1) p.2.1) ∧ Fr (wQ tx) [] (kQ tx) u r.2 ∧ gI r.2 110 1 = 0
def TpR0 (sg : Nat → Int32) (sz : Nat) (u : MT) : Prop := sz ≤ 1200 ∧ Nm (gI u 167 2) sz ∧ ∀ k, k < sz → gI u 168 k = sg k
theorem t43 {f : Nat} {u r : MT} (h : B_X12_readText_43 f u = some r) : gI r 167 2 = gI u 167 2 := by
  rw [B_X12_readText_43] at h
  obtain ⟨r11, e11, h⟩ := ok_b h
  obtain ⟨r13, e13, h⟩ := ok_b h
  obtain ⟨r16, e16, h⟩ := ok_b h
  have a1 := (fr_F_X12_takeWord e11).1 167 2 (by simp [nin, wI_X12_takeWord])
  have a2 := (fr_F_X12_oneOf e13).1 167 2 (by simp [nin, wI_X12_oneOf])
  have a3 := (fr_F_X12_takeSign e16).1 167 2 (by simp [nin, wI_X12_takeSign])
  rw [g_ne _ _ _ _ (by decide)] at a3
  have a := a3.trans (a2.trans a1)
  rcases ok_or h with h | h
  · have h := (ok_ck h).2
    rcases ok_or h with h | h
    · cases h; exact a
    · obtain ⟨r21, e21, h⟩ := ok_b h
      cases h
      exact ((fr_F_X12_wrong e21).1 167 2 (by simp [nin, wI_X12_wrong])).trans a
  · cases h; exact a
theorem t20 {f : Nat} {r : MT} : ∀ (n : Nat) (u : MT), B_X12_readText_20 f n u = some r → gI r 167 2 = gI u 167 2 := by
  intro n
  induction n with
  | zero => intro u h; rw [B_X12_readText_20] at h; cases h
  | succ n ih =>
    intro u h
    rw [B_X12_readText_20] at h
    rcases ok_or h with h | h
    · obtain ⟨r6, e6, h⟩ := ok_b h
      have e : r6.2 = u := Fr_nil (fr_F_X12_isWord e6)
      rw [e] at h
      rcases ok_or h with h | h
      · obtain ⟨r9, e9, h⟩ := ok_b h
        exact (ih r9 h).trans ((fr_F_X12_readRule e9).1 167 2 (by simp [nin, wI_X12_readRule]))
      · exact t43 h
    · exact t43 h
theorem parse_both {f : Nat} {sg : Nat → Int32} {sz tx : Nat} {u : MT} {x2 : Int32} {hn : Int} (hf : 1300 < f) (htx : 116 ≤ tx) (h : TpC sg sz u) (hx : x2.toInt = hn) (h0 : 0 ≤ hn) :
    ∃ E, TE E ∧ Ok (F_X3_parse f x2 tx u) (CPq E tx u (pT E hn 30 [] 0)) ∧
      ∀ u', TpR0 sg sz u' → (∀ w, w < 24 → gL u' 172 w = wv.getD w 0) → (gI u' 167 31).toInt = hn → Ok (F_X12_readText f u') (fun r => RPp E u' (pT E hn 30 [] 0) r ∧ gI r 167 2 = 0) := by
  have h12 := h.1
  obtain ⟨r, er, hr⟩ := c_scan (f := f) hf h
  have hfr := fr_F_X3_scan er
  obtain ⟨hE, hC⟩ := env_C h12 hr
  refine ⟨envOf r (tkl sg sz (sz + 1) 0).length, hE, ?_, fun u' h' hw hh' => ?_⟩
  · rw [F_X3_parse]
    refine Ok.bindE er ?_
    dsimp only
    -- the memory behind the preparations
    have gg : ∀ a k, a ≠ 110 → a ≠ 112 → a ≠ tx → gI (sI (sI (sI (sI (sI (sI r 110 1 0) 112 4 0) 112 5 0) 112 6 x2) tx 1 0) tx 4 0) a k = gI r a k := fun a k e1 e2 e3 => by
      rw [g_ne _ _ _ _ e3, g_ne _ _ _ _ e3, g_ne _ _ _ _ e2, g_ne _ _ _ _ e2, g_ne _ _ _ _ e2, g_ne _ _ _ _ e1]
    have g112 : ∀ k, k ≠ 4 → k ≠ 5 → k ≠ 6 → gI (sI (sI (sI (sI (sI (sI r 110 1 0) 112 4 0) 112 5 0) 112 6 x2) tx 1 0) tx 4 0) 112 k = gI r 112 k := fun k e1 e2 e3 => by
      rw [g_ne _ _ _ _ (by omega), g_ne _ _ _ _ (by omega), g_nk _ _ _ e3, g_nk _ _ _ e2, g_nk _ _ _ e1, g_ne _ _ _ _ (by decide)]
    have hS : CS (envOf r (tkl sg sz (sz + 1) 0).length) 0 (sI (sI (sI (sI (sI (sI r 110 1 0) 112 4 0) 112 5 0) 112 6 x2) tx 1 0) tx 4 0) := by
      refine ⟨hC.fr (g112 3 (by decide) (by decide) (by decide)) (fun _ => rfl) (fun k => gg _ _ (by decide) (by decide) (by omega)) (fun k => gg _ _ (by decide) (by decide) (by omega)), hE, ?_, ?_, Nat.zero_le _⟩
      · rw [g_ne _ _ _ _ (by omega), g_ne _ _ _ _ (by omega), g_nk _ _ _ (by decide), g_same]
      · rw [g_ne _ _ _ _ (by omega), g_ne _ _ _ _ (by omega), g_nk _ _ _ (by decide), g_nk _ _ _ (by decide), g_same]; exact nm0
    have hT : CTi (sI (sI (sI (sI (sI (sI r 110 1 0) 112 4 0) 112 5 0) 112 6 x2) tx 1 0) tx 4 0) tx [] 0 := by
      refine ⟨?_, ?_, fun s hs => absurd hs (Nat.not_lt_zero s)⟩
      · rw [g_nk _ _ _ (by decide), g_same]; exact nm0
      · rw [g_same]; exact nm0
    have hh : (gI (sI (sI (sI (sI (sI (sI r 110 1 0) 112 4 0) 112 5 0) 112 6 x2) tx 1 0) tx 4 0) 112 6).toInt = hn := by
      rw [g_ne _ _ _ _ (by omega), g_ne _ _ _ _ (by omega), g_same]; exact hx
    refine (c_parse hf htx h0 30 [] 0 _ 0 f 0 hS hT (Nat.le_refl _) hh nm0 (by show 0 ≤ 24; omega) (by show 25 < 30 + 0; omega) (by show 26 < f + 0; omega)).mono (fun q hq => ⟨hq.1, hq.2.1, ⟨fun a k hn => ?_, fun a k hn => (hq.2.2.2.1 a k hn).trans (hfr.2.1 a k hn), fun a k hn => ?_⟩, ?_⟩)
    · simp only [nin] at hn
      obtain ⟨n1, n2, n3, n4, n5, _⟩ := hn
      have a112 : a ≠ 112 := fun e => absurd rfl (n2 (by omega) (by omega)).1
      have atx : a < tx ∨ tx + 27 ≤ a := by
        by_cases e : tx ≤ a ∧ a < tx + 27
        · exact absurd rfl (n5 e.1 e.2).1
        · omega
      have a114 : a ≠ 114 := fun e => absurd rfl (n3 (by omega) (by omega)).1
      have a115 : a ≠ 115 := fun e => absurd rfl (n4 (by omega) (by omega)).1
      rw [hq.2.2.1 a k (by simp only [nin]; exact ⟨fun e1 e2 => absurd (show a = 112 by omega) a112, fun e1 e2 => absurd e1 (by omega), trivial⟩)]
      by_cases a110 : a = 110
      · subst a110
        have hk1 : k ≠ 1 := fun e => by have := (n1 (by omega) (by omega)).2; omega
        rw [g_ne _ _ _ _ (by omega), g_ne _ _ _ _ (by omega), g_ne _ _ _ _ (by omega), g_ne _ _ _ _ (by omega), g_ne _ _ _ _ (by omega), g_nk _ _ _ hk1]
        exact hfr.1 110 k (by simp [nin, wI_X3_scan])
      · rw [gg a k a110 a112 (by omega)]
        exact hfr.1 a k (by simp only [nin, wI_X3_scan]; exact ⟨fun e1 e2 => absurd (show a = 114 by omega) a114, fun e1 e2 => absurd (show a = 112 by omega) a112, fun e1 e2 => absurd (show a = 115 by omega) a115, trivial⟩)
    · simp only [nin] at hn
      obtain ⟨n1, n2, _⟩ := hn
      rw [hq.2.2.2.2 a k (by simp only [nin]; exact ⟨n2, trivial⟩)]
      exact hfr.2.2 a k (by simp only [nin, wK_X3_scan]; exact ⟨n1, trivial⟩)
    · rw [hq.2.2.1 110 1 (by simp [nin] <;> omega), g_ne _ _ _ _ (by omega), g_ne _ _ _ _ (by omega), g_ne _ _ _ _ (by omega), g_ne _ _ _ _ (by omega), g_ne _ _ _ _ (by omega), g_same]
  · rw [F_X12_readText]
    have hT0 : TpR sg sz (sI (sI u' 167 3 (gI u' 167 2)) 167 2 0) := ⟨h12, by rw [g_nk _ _ _ (by decide), g_same]; exact h'.2.1, fun k hk => by rw [g_ne _ _ _ _ (by decide), g_ne _ _ _ _ (by decide)]; exact h'.2.2 k hk⟩
    obtain ⟨q, eq, hq⟩ := r_cut_loop hf (sz + 1) 0 _ 0 0 0 f hT0 nm0 nm0 (by omega) (by omega) (by omega) (Nat.le_refl _)
    have ecut : F_X12_cutAll f u' = some q := by rw [F_X12_cutAll]; exact eq
    have hfq := fr_F_X12_cutAll ecut
    have hER : EnvR (envOf r (tkl sg sz (sz + 1) 0).length) q := env_R hr hq (fun w hw' => by rw [hfq.2.1 172 w (by simp [nin, wL_X12_cutAll])]; exact hw w hw')
    refine Ok.bindE ecut ?_
    dsimp only
    have hS : RS (envOf r (tkl sg sz (sz + 1) 0).length) 0 (sI (sI q 173 7 0) 184 7 0) := by
      refine ⟨(hER.put (by decide) (by decide)).put (by decide) (by decide), hE, ?_, ?_, Nat.zero_le _⟩
      · rw [g_ne _ _ _ _ (by decide), g_ne _ _ _ _ (by decide)]; exact hq.2.2.2.1
      · rw [g_ne _ _ _ _ (by decide), g_ne _ _ _ _ (by decide), hq.2.2.1]; exact nm0
    have hT : RTi (sI (sI q 173 7 0) 184 7 0) 9100 168 7 [] 0 := by
      refine ⟨?_, ?_, fun s hs => absurd hs (Nat.not_lt_zero s)⟩
      · rw [g_ne _ _ _ _ (by decide), g_same]; exact nm0
      · rw [g_same]; exact nm0
    have hh : (gI (sI (sI q 173 7 0) 184 7 0) 167 31).toInt = hn := by
      rw [g_ne _ _ _ _ (by decide), g_ne _ _ _ _ (by decide), hfq.1 167 31 (by simp [nin, wI_X12_cutAll])]; exact hh'
    obtain ⟨v, ev, hv⟩ := y_text hf h0 30 [] 0 _ 0 f hS hT (by show 0 ≤ 0; omega) hh (by show 0 ≤ 24; omega) (by show 25 < 30 + 0; omega) (by show 26 < f + 0; omega)
    refine ⟨v, ev, ⟨?_, hv.2⟩, ?_⟩
    · have k1 : Kq u' q := ⟨fun a k h1 h2 _ => hfq.1 a k (by simp [nin, wI_X12_cutAll] <;> omega), fun k _ => ⟨hfq.1 182 k (by simp [nin, wI_X12_cutAll]), hfq.1 183 k (by simp [nin, wI_X12_cutAll])⟩⟩
      exact ((k1.trans (Kq_put (Or.inl (by decide)))).trans (Kq_put (Or.inr (by decide)))).trans hv.1
    · rw [t20 f _ ev, g_ne _ _ _ _ (by decide), g_ne _ _ _ _ (by decide), hq.2.2.2.2.2.2, g_same]
