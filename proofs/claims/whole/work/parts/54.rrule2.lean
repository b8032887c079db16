/-! ===== the reference reads a RULE: the ways ===== -/
abbrev w7 : WL := [(167, 1, 8), (167, 1, 9), (173, 1, 8)]
abbrev w6 : WL := [(167, 1, 8), (167, 1, 9), (173, 1, 8), (181, 1, 0)]
abbrev w4 : WL := [(167, 1, 8), (167, 1, 9), (173, 1, 8), (181, 1, 0), (179, 1, 0), (180, 1, 0)]
abbrev w2 : WL := [(167, 1, 8), (167, 1, 9), (173, 1, 8), (181, 1, 0), (179, 1, 0), (180, 1, 0), (178, 1, 0)]
theorem fs76 : Fs w7 w6 := fun _ h => List.mem_append_left _ h
theorem fs64 : Fs w6 w4 := fun _ h => List.mem_append_left _ h
theorem fs42 : Fs w4 w2 := fun _ h => List.mem_append_left _ h
theorem Fr_adv {A : WL} {u : MT} (h : (167, 1, 8) ∈ A) : Fr A [] [] u (adv u) := Fr_sIk h Fr_rfl
/-- what comes of it: a fault, or a place -/
def TP (E : ET) (s : Nat) (W : WL) (u : MT) (fin : Nat × Nat) (Q : MT → Prop) (r : MT) : Prop :=
  (fin.1 ≠ 0 → gI r 167 8 = flt E (Int32.ofNat fin.1) fin.2 ∧ Kp s u r) ∧ (fin.1 = 0 → RS E fin.2 r ∧ Fr W [] [] u r ∧ Kp s u r ∧ gI r 173 7 = gI u 173 7 + 1 ∧ Q r)
theorem TP.pre {E : ET} {s : Nat} {W W' : WL} {u v r : MT} {fin : Nat × Nat} {Q Q' : MT → Prop} (hW : Fs W W') (hF : Fr W' [] [] u v) (hK : Kp s u v) (h1 : gI v 173 7 = gI u 173 7) (hQ : ∀ r, Fr W [] [] v r → Q r → Q' r) (h : TP E s W v fin Q r) : TP E s W' u fin Q' r :=
  ⟨fun h0 => ⟨(h.1 h0).1, hK.trans (h.1 h0).2⟩, fun h0 => by
    obtain ⟨g1, g2, g3, g4, g5⟩ := h.2 h0
    exact ⟨g1, Fr_tr (Fr_up hW Fs_n Fs_n g2) hF, hK.trans g3, by rw [g4, h1], hQ r g2 g5⟩⟩
theorem Fs_rfl {l : WL} : Fs l l := fun _ h => h
/-- a fault told, and the rest does nothing -/
theorem TP.bad {E : ET} {s : Nat} {W : WL} {u v r : MT} {k j : Nat} {Q : MT → Prop} (hk : k ≠ 0) (hv : gI v 167 8 = flt E (Int32.ofNat k) j) (hK : Kp s u v) (h : AB s v r) : TP E s W u (k, j) Q r :=
  ⟨fun _ => ⟨h.1.trans hv, hK.trans h.2⟩, fun h => absurd h hk⟩
def semi (E : ET) (j : Nat) : Nat × Nat := if tT E j = 6 then (0, j + 1) else (1, j)
def fin6 (E : ET) (j : Nat) : Nat × Nat := if 27 ≤ tT E j ∧ tT E j ≤ 29 then semi E (j + 1) else (1, j)
def fin5 (E : ET) (j : Nat) : Nat × Nat := if tT E j = 23 then fin6 E (j + 1) else (1, j)
def fin4 (E : ET) (hn : Int) (j : Nat) : Nat × Nat := if (pWhom E hn j).1 = 0 then fin5 E (pWhom E hn j).2.1 else ((pWhom E hn j).1, (pWhom E hn j).2.1)
def fin3 (E : ET) (hn : Int) (j : Nat) : Nat × Nat := if tT E j = 22 then fin4 E hn (j + 1) else (1, j)
def fin2 (E : ET) (hn : Int) (j : Nat) : Nat × Nat := if tT E j = 9 ∨ tT E j = 10 then fin3 E hn (j + 1) else (1, j)
def fin1 (E : ET) (hn : Int) (j : Nat) : Nat × Nat := if tT E j = 21 then fin2 E hn (j + 1) else (1, j)
section
variable {f : Nat} {E : ET} {s j : Nat} {u : MT} {x1 : Int32} {hn : Int}
theorem wrf {k : Nat} : gI (wr E (Int32.ofNat k) j u) 167 8 = flt E (Int32.ofNat k) j := g_same _ _ _ _
theorem y7 (h : RS E j u) : Ok (B_X12_readRule_236 f u) (TP E s w7 u (semi E j) (fun _ => True)) := by
  rw [B_X12_readRule_236]
  by_cases h6 : tT E j = 6
  · have hlt := h.lt (show tT E j ≠ 2 by omega)
    refine Ok.bindE (r_takeSign_t h (c := 59) (t := 6) (x := 59) (by decide) rfl h6) (Ok.some ?_)
    rw [show semi E j = (0, j + 1) from if_pos h6]
    refine ⟨fun h => absurd rfl h, fun _ => ⟨(h.next hlt).put (by decide) (by decide) (Or.inl (by decide)), Fr_sIk (List.mem_of_getElem? (i := 2) rfl) (Fr_adv (by simp)), Kp_adv.trans (Kp_put (Or.inl (by decide))), ?_, trivial⟩⟩
    rw [g_same, show gI (adv u) 173 7 = gI u 173 7 from g_ne _ _ _ _ (by decide)]
  · refine Ok.bindE (r_takeSign_f h (c := 59) (t := 6) (x := 59) (by decide) rfl h6) (Ok.some ?_)
    rw [show semi E j = (1, j) from if_neg h6]
    exact TP.bad (v := wr E 1 j u) (by decide) wrf Kp_wr ⟨g_ne _ _ _ _ (by decide), Kp_put (Or.inl (by decide))⟩
theorem y6 (hf : 1300 < f) (hx : Nm x1 (168 + s)) (h : RS E j u) : Ok (t6 f x1 u) (TP E s w6 u (fin6 E j) (fun r => Nm (gI r 181 (168 + s)) (tT E j - 27))) := by
  by_cases hb : 27 ≤ tT E j ∧ tT E j ≤ 29
  · have hlt := h.lt (show tT E j ≠ 2 by omega)
    have tab : ∀ k, k < 3 → wtok.getD (13 + k) 0 = 27 + k := by decide
    obtain ⟨y, hy, he⟩ := r_oneOf_t (f := f) (by omega) h (first := 13) (many := 3) (x1 := 13) (x2 := 3) rfl rfl (by omega) (k0 := tT E j - 27) (by omega) (by rw [tab _ (by omega)]; omega) (fun k hk => by rw [tab _ (by omega)]; omega)
    refine Ok.bindE he ?_
    dsimp only
    rw [hx.nat, show fin6 E j = semi E (j + 1) from if_pos hb]
    have h1 : RS E (j + 1) (sI (adv u) 181 (168 + s) y) := (h.next hlt).put (by decide) (by decide) (Or.inl (by decide))
    refine (y7 h1).mono (fun r hr => hr.pre fs76 (Fr_sI0 (List.mem_of_getElem? (i := 3) rfl) (Fr_adv (by simp))) (Kp_adv.trans (Kp_put (Or.inr (Or.inr ⟨by decide, by decide, rfl⟩)))) ?_ (fun r hF _ => ?_))
    · rw [g_ne _ _ _ _ (by decide)]; exact g_ne _ _ _ _ (by decide)
    · rw [hF.1 181 (168 + s) (by simp [nin]), g_same]; exact hy
  · have tab : ∀ k, k < 3 → wtok.getD (13 + k) 0 = 27 + k := by decide
    refine Ok.bindE (r_oneOf_f (f := f) (by omega) h (first := 13) (many := 3) (x1 := 13) (x2 := 3) rfl rfl (by omega) (fun k hk => by rw [tab _ hk]; omega)) ?_
    dsimp only
    rw [hx.nat, show fin6 E j = (1, j) from if_neg hb]
    refine (x7 (s := s) ((h.bad (by decide) (by decide)).put (Or.inl (by decide)))).mono (fun r hr => TP.bad (v := sI (wr E 1 j u) 181 (168 + s) 0) (by decide) ?_ (Kp_wr.trans (Kp_put (Or.inr (Or.inr ⟨by decide, by decide, rfl⟩)))) hr)
    rw [g_ne _ _ _ _ (by decide)]; exact wrf
theorem y5 (hf : 1300 < f) (hx : Nm x1 (168 + s)) (h : RS E j u) : Ok (t5 f x1 u) (TP E s w6 u (fin5 E j) (fun r => Nm (gI r 181 (168 + s)) (tT E (j + 1) - 27))) := by
  by_cases hb : tT E j = 23
  · have hlt := h.lt (show tT E j ≠ 2 by omega)
    refine Ok.bindE (r_takeWord_t h (w := 4) (by decide) (show Nm (4 : Int32) 4 from rfl) hb) ?_
    rw [show fin5 E j = fin6 E (j + 1) from if_pos hb]
    exact (y6 hf hx (h.next hlt)).mono (fun r hr => hr.pre Fs_rfl (Fr_adv (by simp)) Kp_adv (g_ne _ _ _ _ (by decide)) (fun _ _ hq => hq))
  · refine Ok.bindE (r_takeWord_f h (w := 4) (by decide) (show Nm (4 : Int32) 4 from rfl) hb) ?_
    rw [show fin5 E j = (1, j) from if_neg hb]
    exact (x6 (s := s) hf hx (h.bad (by decide) (by decide))).mono (fun r hr => TP.bad (by decide) wrf Kp_wr hr)
/-- readWhom -/
def WhQ (s : Nat) (w : Nat × Nat × Nat × Int32) (r : MT) : Prop := Nm (gI r 179 (168 + s)) (w.2.2.1 - 24) ∧ (w.2.2.1 ≠ 24 → gI r 180 (168 + s) = w.2.2.2)
theorem yWhom (hx : Nm x1 (168 + s)) (hs : s < 24) (h : RS E j u) (hh : (gI u 167 31).toInt = hn) (h0 : 0 ≤ hn) : Ok (F_X12_readWhom f x1 u) (fun r =>
    ((pWhom E hn j).1 ≠ 0 → gI r 167 8 = flt E (Int32.ofNat (pWhom E hn j).1) (pWhom E hn j).2.1) ∧ ((pWhom E hn j).1 = 0 → RS E (pWhom E hn j).2.1 r ∧ WhQ s (pWhom E hn j) r) ∧ Kp s u r ∧ Fr w4 [] [] u r) := by
  rw [F_X12_readWhom]
  refine Ok.ck (hx.ix (by omega)) ?_
  rw [hx.nat]
  have h1 : RS E j (sI u 180 (168 + s) 0) := h.put (by decide) (by decide) (Or.inl (by decide))
  have k1 : Kp s u (sI u 180 (168 + s) 0) := Kp_put (Or.inr (Or.inr ⟨by decide, by decide, rfl⟩))
  have f1 : Fr w4 [] [] u (sI u 180 (168 + s) 0) := Fr_sI0 (List.mem_of_getElem? (i := 5) rfl) Fr_rfl
  by_cases h24 : tT E j = 24
  · have hlt := h.lt (show tT E j ≠ 2 by omega)
    have e : pWhom E hn j = (0, j + 1, 24, 0) := if_pos h24
    refine Ok.bindE (r_hasWord_t h1 (w := 8) (by decide) (show Nm (8 : Int32) 8 from rfl) h24) (Ok.f ni1 (Ok.some ?_))
    rw [e]
    exact ⟨fun h => absurd rfl h, fun _ => ⟨(h1.next hlt).put (by decide) (by decide) (Or.inl (by decide)), by rw [g_same]; exact nm0, fun h => absurd rfl h⟩, (k1.trans Kp_adv).trans (Kp_put (Or.inr (Or.inr ⟨by decide, by decide, rfl⟩))), Fr_sI0 (List.mem_of_getElem? (i := 4) rfl) (Fr_tr (Fr_adv (by simp)) f1)⟩
  · refine Ok.bindE (r_hasWord_f h1 (w := 8) (by decide) (show Nm (8 : Int32) 8 from rfl) h24) (Ok.t rfl ?_)
    have nums : ∀ (v : MT) (a b : Int32) (lo hi : Int) (t : Nat), a.toInt = lo → b.toInt = hi → (t = 25 ∨ t = 26) → RS E (j + 1) v → Kp s u v → Fr w4 [] [] u v → Nm (gI v 179 (168 + s)) (t - 24) → pWhom E hn j = ((pNum E lo hi (j + 1)).1, (pNum E lo hi (j + 1)).2, t, tV E (j + 1)) →
        Ok ((F_X12_takeNumber f a b v).bind fun r16 => some (sI r16.2 180 (168 + s) r16.1)) (fun r => ((pWhom E hn j).1 ≠ 0 → gI r 167 8 = flt E (Int32.ofNat (pWhom E hn j).1) (pWhom E hn j).2.1) ∧ ((pWhom E hn j).1 = 0 → RS E (pWhom E hn j).2.1 r ∧ WhQ s (pWhom E hn j) r) ∧ Kp s u r ∧ Fr w4 [] [] u r) := by
      intro v a b lo hi t ea eb ht hv hk hfv h179 e
      have l1 := hv.2.2.2.2
      by_cases h3 : tT E (j + 1) = 3
      · by_cases hr : lo ≤ (tV E (j + 1)).toInt ∧ (tV E (j + 1)).toInt ≤ hi
        · have en : pNum E lo hi (j + 1) = (0, j + 2) := by unfold pNum; rw [if_pos h3, if_pos hr]
          have hlt := hv.lt (show tT E (j + 1) ≠ 2 by omega)
          refine Ok.bindE (r_takeNumber_t hv h3 (by omega) (by omega)) (Ok.some ?_)
          rw [e, en]
          refine ⟨fun h => absurd rfl h, fun _ => ⟨(hv.next hlt).put (by decide) (by decide) (Or.inl (by decide)), ?_, fun _ => g_same _ _ _ _⟩, (hk.trans Kp_adv).trans (Kp_put (Or.inr (Or.inr ⟨by decide, by decide, rfl⟩))), Fr_sI0 (List.mem_of_getElem? (i := 5) rfl) (Fr_tr (Fr_adv (by simp)) hfv)⟩
          rw [g_ne _ _ _ _ (by decide), show gI (adv v) 179 (168 + s) = gI v 179 (168 + s) from g_ne _ _ _ _ (by decide)]; exact h179
        · have en : pNum E lo hi (j + 1) = (4, j + 1) := by unfold pNum; rw [if_pos h3, if_neg hr]
          refine Ok.bindE (r_takeNumber_o hv h3 (by omega)) (Ok.some ?_)
          rw [e, en]
          refine ⟨fun _ => ?_, fun h => absurd h (by show ¬ (4 : Nat) = 0; decide), ((hk.trans Kp_wr).trans Kp_adv).trans (Kp_put (Or.inr (Or.inr ⟨by decide, by decide, rfl⟩))), Fr_sI0 (List.mem_of_getElem? (i := 5) rfl) (Fr_tr (Fr_adv (by simp)) (Fr_sIk (List.mem_of_getElem? (i := 1) rfl) hfv))⟩
          rw [g_ne _ _ _ _ (by decide), show gI (adv (wr E 4 (j + 1) v)) 167 8 = gI (wr E 4 (j + 1) v) 167 8 from g_nk _ _ _ (by decide)]; exact wrf (k := 4)
      · have en : pNum E lo hi (j + 1) = (1, j + 1) := by unfold pNum; rw [if_neg h3]
        refine Ok.bindE (r_takeNumber_f hv h3) (Ok.some ?_)
        rw [e, en]
        refine ⟨fun _ => ?_, fun h => absurd h ne1, ((hk.trans Kp_wr).trans Kp_adv).trans (Kp_put (Or.inr (Or.inr ⟨by decide, by decide, rfl⟩))), Fr_sI0 (List.mem_of_getElem? (i := 5) rfl) (Fr_tr (Fr_adv (by simp)) (Fr_sIk (List.mem_of_getElem? (i := 1) rfl) hfv))⟩
        rw [g_ne _ _ _ _ (by decide), show gI (adv (wr E 1 (j + 1) v)) 167 8 = gI (wr E 1 (j + 1) v) 167 8 from g_nk _ _ _ (by decide)]; exact wrf (k := 1)
    by_cases h25 : tT E j = 25
    · have hlt := h.lt (show tT E j ≠ 2 by omega)
      refine Ok.bindE (r_hasWord_t h1 (w := 11) (by decide) (show Nm (11 : Int32) 11 from rfl) h25) (Ok.f ni1 ?_)
      dsimp only
      have e31 : gI (sI (adv (sI u 180 (168 + s) 0)) 179 (168 + s) 1) 167 31 = gI u 167 31 := by
        rw [g_ne _ _ _ _ (by decide), show gI (adv (sI u 180 (168 + s) 0)) 167 31 = gI (sI u 180 (168 + s) 0) 167 31 from g_nk _ _ _ (by decide), g_ne _ _ _ _ (by decide)]
      rw [e31]
      refine nums _ 0 (gI u 167 31 - 1) 0 (hn - 1) 25 rfl (by rw [i_sub (by rw [hh, show (1 : Int32).toInt = 1 from rfl]; omega) (by rw [hh, show (1 : Int32).toInt = 1 from rfl]; have := i_hi (gI u 167 31); omega), hh]; rfl) (Or.inl rfl) ((h1.next hlt).put (by decide) (by decide) (Or.inl (by decide))) ((k1.trans Kp_adv).trans (Kp_put (Or.inr (Or.inr ⟨by decide, by decide, rfl⟩)))) (Fr_sI0 (List.mem_of_getElem? (i := 4) rfl) (Fr_tr (Fr_adv (by simp)) f1)) (by rw [g_same]; rfl) ?_
      unfold pWhom; rw [if_neg h24, if_pos h25]
    · refine Ok.bindE (r_hasWord_f h1 (w := 11) (by decide) (show Nm (11 : Int32) 11 from rfl) h25) (Ok.t rfl ?_)
      dsimp only
      by_cases h26 : tT E j = 26
      · have hlt := h.lt (show tT E j ≠ 2 by omega)
        refine Ok.bindE (r_takeWord_t h1 (w := 12) (by decide) (show Nm (12 : Int32) 12 from rfl) h26) ?_
        refine nums _ 1 12 1 12 26 rfl rfl (Or.inr rfl) ((h1.next hlt).put (by decide) (by decide) (Or.inl (by decide))) ((k1.trans Kp_adv).trans (Kp_put (Or.inr (Or.inr ⟨by decide, by decide, rfl⟩)))) (Fr_sI0 (List.mem_of_getElem? (i := 4) rfl) (Fr_tr (Fr_adv (by simp)) f1)) (by rw [g_same]; rfl) ?_
        unfold pWhom; rw [if_neg h24, if_neg h25, if_pos h26]
      · refine Ok.bindE (r_takeWord_f h1 (w := 12) (by decide) (show Nm (12 : Int32) 12 from rfl) h26) ?_
        have hxx : RX (sI (wr E 1 j (sI u 180 (168 + s) 0)) 179 (168 + s) 2) := (h1.bad (by decide) (by decide)).put (Or.inl (by decide))
        refine Ok.bindE (r_takeNumber_x hxx) (Ok.some ?_)
        have e : pWhom E hn j = (1, j, 0, 0) := by unfold pWhom; rw [if_neg h24, if_neg h25, if_neg h26]
        rw [e]
        refine ⟨fun _ => ?_, fun h => absurd h ne1, (((k1.trans Kp_wr).trans (Kp_put (Or.inr (Or.inr ⟨by decide, by decide, rfl⟩)))).trans Kp_adv).trans (Kp_put (Or.inr (Or.inr ⟨by decide, by decide, rfl⟩))), Fr_sI0 (List.mem_of_getElem? (i := 5) rfl) (Fr_tr (Fr_adv (by simp)) (Fr_sI0 (List.mem_of_getElem? (i := 4) rfl) (Fr_sIk (List.mem_of_getElem? (i := 1) rfl) f1)))⟩
        rw [g_ne _ _ _ _ (by decide), show gI (adv (sI (wr E 1 j (sI u 180 (168 + s) 0)) 179 (168 + s) 2)) 167 8 = gI (sI (wr E 1 j (sI u 180 (168 + s) 0)) 179 (168 + s) 2) 167 8 from g_nk _ _ _ (by decide), g_ne _ _ _ _ (by decide)]; exact wrf (k := 1)
theorem y4 (hf : 1300 < f) (hx : Nm x1 (168 + s)) (hs : s < 24) (h : RS E j u) (hh : (gI u 167 31).toInt = hn) (h0 : 0 ≤ hn) : Ok (t4 f x1 u) (TP E s w4 u (fin4 E hn j) (fun r => WhQ s (pWhom E hn j) r ∧ Nm (gI r 181 (168 + s)) (tT E ((pWhom E hn j).2.1 + 1) - 27))) := by
  obtain ⟨v, ev, v1, v2, v3, v4⟩ := yWhom (f := f) hx hs h hh h0
  refine Ok.bindE ev ?_
  have hpf := pWhom_far h.2.1 (hn := hn) h.2.2.2.2
  by_cases hk : (pWhom E hn j).1 = 0
  · obtain ⟨g1, g2⟩ := v2 hk
    rw [show fin4 E hn j = fin5 E (pWhom E hn j).2.1 from if_pos hk]
    refine (y5 hf hx g1).mono (fun r hr => hr.pre fs64 v4 v3 ?_ (fun r hF hq => ⟨⟨?_, fun hne => ?_⟩, hq⟩))
    · have := fr_F_X12_readWhom ev
      exact this.1 173 7 (by simp [nin, wI_X12_readWhom])
    · rw [hF.1 179 (168 + s) (by simp [nin])]; exact g2.1
    · rw [hF.1 180 (168 + s) (by simp [nin])]; exact g2.2 hne
  · rw [show fin4 E hn j = ((pWhom E hn j).1, (pWhom E hn j).2.1) from if_neg hk]
    have hxx : RX v := by
      unfold RX
      rw [v1 hk]
      refine Int32_ofNat_ne h.2.1 ?_ hpf.1
      rcases hpf.2.2 hk with e | e
      · exact Or.inl e
      · exact Or.inr (Or.inl e)
    exact (x5 (s := s) hf hx hxx).mono (fun r hr => TP.bad hk (v1 hk) v3 hr)
theorem y3 (hf : 1300 < f) (hx : Nm x1 (168 + s)) (hs : s < 24) (h : RS E j u) (hh : (gI u 167 31).toInt = hn) (h0 : 0 ≤ hn) : Ok (t3 f x1 u) (TP E s w4 u (fin3 E hn j) (fun r => WhQ s (pWhom E hn (j + 1)) r ∧ Nm (gI r 181 (168 + s)) (tT E ((pWhom E hn (j + 1)).2.1 + 1) - 27))) := by
  by_cases hb : tT E j = 22
  · have hlt := h.lt (show tT E j ≠ 2 by omega)
    refine Ok.bindE (r_takeWord_t h (w := 3) (by decide) (show Nm (3 : Int32) 3 from rfl) hb) ?_
    rw [show fin3 E hn j = fin4 E hn (j + 1) from if_pos hb]
    exact (y4 hf hx hs (h.next hlt) (by rw [show gI (adv u) 167 31 = gI u 167 31 from g_nk _ _ _ (by decide)]; exact hh) h0).mono (fun r hr => hr.pre Fs_rfl (Fr_adv (by simp)) Kp_adv (g_ne _ _ _ _ (by decide)) (fun _ _ hq => hq))
  · refine Ok.bindE (r_takeWord_f h (w := 3) (by decide) (show Nm (3 : Int32) 3 from rfl) hb) ?_
    rw [show fin3 E hn j = (1, j) from if_neg hb]
    exact (x4 (s := s) hf hx hs (h.bad (by decide) (by decide))).mono (fun r hr => TP.bad (by decide) wrf Kp_wr hr)
theorem y2 (hf : 1300 < f) (hx : Nm x1 (168 + s)) (hs : s < 24) (h : RS E j u) (hh : (gI u 167 31).toInt = hn) (h0 : 0 ≤ hn) : Ok (t2 f x1 u) (TP E s w2 u (fin2 E hn j) (fun r => Nm (gI r 178 (168 + s)) (tT E j - 9) ∧ WhQ s (pWhom E hn (j + 2)) r ∧ Nm (gI r 181 (168 + s)) (tT E ((pWhom E hn (j + 2)).2.1 + 1) - 27))) := by
  have tab : ∀ k, k < 2 → wtok.getD (9 + k) 0 = 9 + k := by decide
  by_cases hb : tT E j = 9 ∨ tT E j = 10
  · have hlt := h.lt (show tT E j ≠ 2 by omega)
    obtain ⟨y, hy, he⟩ := r_oneOf_t (f := f) (by omega) h (first := 9) (many := 2) (x1 := 9) (x2 := 2) rfl rfl (by omega) (k0 := tT E j - 9) (by omega) (by rw [tab _ (by omega)]; omega) (fun k hk => by rw [tab _ (by omega)]; omega)
    refine Ok.bindE he ?_
    dsimp only
    rw [hx.nat, show fin2 E hn j = fin3 E hn (j + 1) from if_pos hb]
    have h1 : RS E (j + 1) (sI (adv u) 178 (168 + s) y) := (h.next hlt).put (by decide) (by decide) (Or.inl (by decide))
    have hh1 : (gI (sI (adv u) 178 (168 + s) y) 167 31).toInt = hn := by rw [g_ne _ _ _ _ (by decide), show gI (adv u) 167 31 = gI u 167 31 from g_nk _ _ _ (by decide)]; exact hh
    refine (y3 hf hx hs h1 hh1 h0).mono (fun r hr => hr.pre fs42 (Fr_sI0 (List.mem_of_getElem? (i := 6) rfl) (Fr_adv (by simp))) (Kp_adv.trans (Kp_put (Or.inr (Or.inr ⟨by decide, by decide, rfl⟩)))) ?_ (fun r hF hq => ⟨?_, hq⟩))
    · rw [g_ne _ _ _ _ (by decide)]; exact g_ne _ _ _ _ (by decide)
    · rw [hF.1 178 (168 + s) (by simp [nin]), g_same]; exact hy
  · refine Ok.bindE (r_oneOf_f (f := f) (by omega) h (first := 9) (many := 2) (x1 := 9) (x2 := 2) rfl rfl (by omega) (fun k hk => by rw [tab _ hk]; omega)) ?_
    dsimp only
    rw [hx.nat, show fin2 E hn j = (1, j) from if_neg hb]
    refine (x3 (s := s) hf hx hs ((h.bad (by decide) (by decide)).put (Or.inl (by decide)))).mono (fun r hr => TP.bad (v := sI (wr E 1 j u) 178 (168 + s) 0) (by decide) ?_ (Kp_wr.trans (Kp_put (Or.inr (Or.inr ⟨by decide, by decide, rfl⟩)))) hr)
    rw [g_ne _ _ _ _ (by decide)]; exact wrf
theorem y1 (hf : 1300 < f) (hx : Nm x1 (168 + s)) (hs : s < 24) (h : RS E j u) (hh : (gI u 167 31).toInt = hn) (h0 : 0 ≤ hn) : Ok (t1 f x1 u) (TP E s w2 u (fin1 E hn j) (fun r => Nm (gI r 178 (168 + s)) (tT E (j + 1) - 9) ∧ WhQ s (pWhom E hn (j + 3)) r ∧ Nm (gI r 181 (168 + s)) (tT E ((pWhom E hn (j + 3)).2.1 + 1) - 27))) := by
  by_cases hb : tT E j = 21
  · have hlt := h.lt (show tT E j ≠ 2 by omega)
    refine Ok.bindE (r_takeWord_t h (w := 2) (by decide) (show Nm (2 : Int32) 2 from rfl) hb) ?_
    rw [show fin1 E hn j = fin2 E hn (j + 1) from if_pos hb]
    exact (y2 hf hx hs (h.next hlt) (by rw [show gI (adv u) 167 31 = gI u 167 31 from g_nk _ _ _ (by decide)]; exact hh) h0).mono (fun r hr => hr.pre Fs_rfl (Fr_adv (by simp)) Kp_adv (g_ne _ _ _ _ (by decide)) (fun _ _ hq => hq))
  · refine Ok.bindE (r_takeWord_f h (w := 2) (by decide) (show Nm (2 : Int32) 2 from rfl) hb) ?_
    rw [show fin1 E hn j = (1, j) from if_neg hb]
    exact (x2 (s := s) hf hx hs (h.bad (by decide) (by decide))).mono (fun r hr => TP.bad (by decide) wrf Kp_wr hr)
end
/-- the abstract ways with the semicolon -/
theorem fin1_eq {E : ET} {hn : Int} {j : Nat} : fin1 E hn j = if (pWays E hn j).1 = 0 then semi E (pWays E hn j).2.1 else ((pWays E hn j).1, (pWays E hn j).2.1) := by
  unfold fin1 fin2 fin3 fin4 fin5 fin6 pWays
  repeat' split
  all_goals first | rfl | (simp_all; done) | omega | simp_all
