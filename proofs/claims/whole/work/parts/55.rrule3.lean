/-! ===== the reference reads a RULE, whole ===== -/
section
variable {f : Nat} {E : ET} {s j : Nat} {u : MT} {x1 : Int32} {hn : Int}
def finA (E : ET) (hn : Int) (w : List Int32) (j : Nat) : Nat × Nat := if (pAct E hn w j).1 = 0 then semi E (pAct E hn w j).2.1 else ((pAct E hn w j).1, (pAct E hn w j).2.1)
theorem yAmt (hf : 1300 < f) (hx : Nm x1 (168 + s)) (hs : s < 24) (h : RS E j u) {c B : Nat} (hc : Nm (gI u 184 7) c) (hcB : c ≤ B + j) (hB : B ≤ 60) : Ok (F_X12_readAmount f x1 u) (fun r =>
    ((pAmt E j).1 ≠ 0 → gI r 167 8 = flt E (Int32.ofNat (pAmt E j).1) (pAmt E j).2.1) ∧ Kp s u r ∧
    ((pAmt E j).1 = 0 → RS E (pAmt E j).2.1 r ∧ ∃ c', Nm (gI r 184 7) c' ∧ c ≤ c' ∧ c' ≤ c + (pAmt E j).2.2.length + 1 ∧ codR r 9100 c' (gI r 177 (168 + s)) (pAmt E j).2.2 ∧ ∀ k, k < 9100 + c → gI r 182 k = gI u 182 k ∧ gI r 183 k = gI u 183 k)) := by
  have hL := h.2.1.1
  have hj := h.2.2.2.2
  rw [F_X12_readAmount]
  by_cases h24 : tT E j = 24
  · have hlt := h.lt (show tT E j ≠ 2 by omega)
    have e : pAmt E j = (0, j + 1, []) := if_pos h24
    refine Ok.bindE (r_hasWord_t h (w := 8) (by decide) (show Nm (8 : Int32) 8 from rfl) h24) (Ok.f ni1 ?_)
    dsimp only
    rw [B_X12_readAmount_22]
    refine Ok.ck (hx.ix (by omega)) (Ok.some ?_)
    rw [hx.nat, e]
    refine ⟨fun h => absurd rfl h, Kp_adv.trans (Kp_put (Or.inr (Or.inr ⟨by decide, by decide, rfl⟩))), fun _ => ⟨(h.next hlt).put (by decide) (by decide) (Or.inl (by decide)), c, ?_, Nat.le_refl _, by omega, ⟨fun _ => by rw [g_same]; decide, fun h => absurd rfl h⟩, fun k hk => ⟨?_, ?_⟩⟩⟩
    · rw [g_ne _ _ _ _ (by decide), show gI (adv u) 184 7 = gI u 184 7 from g_ne _ _ _ _ (by decide)]; exact hc
    · rw [g_ne _ _ _ _ (by decide)]; exact g_ne _ _ _ _ (by decide)
    · rw [g_ne _ _ _ _ (by decide)]; exact g_ne _ _ _ _ (by decide)
  · have e : pAmt E j = pE E j := if_neg h24
    refine Ok.bindE (r_hasWord_f h (w := 8) (by decide) (show Nm (8 : Int32) 8 from rfl) h24) (Ok.t rfl ?_)
    dsimp only
    obtain ⟨v, ev, v1, v2⟩ := r_code hf (pE_eq h.2.1 hj) h hc hcB hB
    have hpf := pE_far h.2.1 hj
    refine Ok.bindE ev ?_
    dsimp only
    rw [B_X12_readAmount_22]
    refine Ok.ck (hx.ix (by omega)) (Ok.some ?_)
    rw [hx.nat, e]
    have kc : Kp s u v := Kp_code ev (by
      by_cases h0 : (pE E j).1 = 0
      · exact fun k hk => (v2 h0).2.2.1 k (by omega)
      · exact (v1 h0).2.2)
    refine ⟨fun h0 => ?_, kc.trans (Kp_put (Or.inr (Or.inr ⟨by decide, by decide, rfl⟩))), fun h0 => ?_⟩
    · rw [g_ne _ _ _ _ (by decide)]; exact (v1 h0).1
    · obtain ⟨q1, q2, q3, q4, q5⟩ := v2 h0
      refine ⟨q1.put (by decide) (by decide) (Or.inl (by decide)), c + (pE E j).2.2.length + 1, ?_, by omega, Nat.le_refl _, ⟨fun hl => ?_, fun _ => ⟨c, ?_, by omega, fun k hk => ?_, ?_⟩⟩, fun k hk => ?_⟩
      · rw [g_ne _ _ _ _ (by decide)]; exact q2
      · have := (hpf.1 h0).2.2.2
        rw [hl] at this; exact absurd this (by decide)
      · rw [g_same]; exact hc
      · rw [g_ne _ _ _ _ (by decide), g_ne _ _ _ _ (by decide)]; exact q4 k hk
      · rw [g_ne _ _ _ _ (by decide)]; exact q5
      · rw [g_ne _ _ _ _ (by decide), g_ne _ _ _ _ (by decide)]; exact q3 k hk
/-- behind the when, a fault told -/
theorem x73 (hf : 1300 < f) (hx : Nm x1 (168 + s)) (hs : s < 24) {s0 : Int32} (h : RX u) : Ok (B_X12_readRule_73 f x1 s0 x1 u) (AB s u) := by
  rw [B_X12_readRule_73]
  refine Ok.ck (hx.ix (by omega)) ?_
  rw [hx.nat]
  have h1 : RX (sI u 175 (168 + s) s0) := h.put (Or.inl (by decide))
  refine Ok.bindE (r_hasWord_x h1) (Ok.t rfl (Ok.bindE (r_hasWord_x h1) (Ok.t rfl (Ok.bindE (r_takeWord_x h1) (Ok.ck (hx.ix (by omega)) ?_)))))
  have h2 : RX (sI (sI u 175 (168 + s) s0) 176 (168 + s) 6) := h1.put (Or.inl (by decide))
  refine Ok.bindE (r_isWord_x h2) (Ok.t rfl (Ok.bindE (r_isWord_x h2) (Ok.t rfl (Ok.bindE (r_oneOf_x (by omega) h2 (first := 16) (many := 2) (show Nm (2 : Int32) 2 from rfl) (by omega)) ?_))))
  rw [B_X12_readRule_222]
  refine Ok.ck (hx.ix (by omega)) ?_
  rw [hx.nat]
  have h3 : RX (sI (sI (sI u 175 (168 + s) s0) 176 (168 + s) 6) 178 (168 + s) (2 + 0)) := h2.put (Or.inl (by decide))
  refine Ok.bindE (r_takeNumber_x h3) (Ok.ck (hx.ix (by omega)) ?_)
  have h4 : RX (adv (sI (sI (sI u 175 (168 + s) s0) 176 (168 + s) 6) 178 (168 + s) (2 + 0))) := h3.put (Or.inr (by decide))
  have h5 : RX (sI (adv (sI (sI (sI u 175 (168 + s) s0) 176 (168 + s) 6) 178 (168 + s) (2 + 0))) 180 (168 + s) 0) := h4.put (Or.inl (by decide))
  refine (x7 (s := s) h5).mono (fun r hr => AB.trans ⟨?_, ?_⟩ hr)
  · rw [g_ne _ _ _ _ (by decide), show gI (adv (sI (sI (sI u 175 (168 + s) s0) 176 (168 + s) 6) 178 (168 + s) (2 + 0))) 167 8 = gI (sI (sI (sI u 175 (168 + s) s0) 176 (168 + s) 6) 178 (168 + s) (2 + 0)) 167 8 from g_nk _ _ _ (by decide), g_ne _ _ _ _ (by decide), g_ne _ _ _ _ (by decide), g_ne _ _ _ _ (by decide)]
  · exact ((((Kp_put (Or.inr (Or.inr ⟨by decide, by decide, rfl⟩))).trans (Kp_put (Or.inr (Or.inr ⟨by decide, by decide, rfl⟩)))).trans (Kp_put (Or.inr (Or.inr ⟨by decide, by decide, rfl⟩)))).trans Kp_adv).trans (Kp_put (Or.inr (Or.inr ⟨by decide, by decide, rfl⟩)))
def AP (E : ET) (hn : Int) (s : Nat) (u : MT) (c : Nat) (s0 : Int32) (w : List Int32) (j : Nat) (r : MT) : Prop :=
  ((finA E hn w j).1 ≠ 0 → gI r 167 8 = flt E (Int32.ofNat (finA E hn w j).1) (finA E hn w j).2 ∧ Kp s u r) ∧
  ((finA E hn w j).1 = 0 → RS E (finA E hn w j).2 r ∧ Kp s u r ∧ gI r 173 7 = gI u 173 7 + 1 ∧ gI r 175 (168 + s) = s0 ∧ ∃ c', Nm (gI r 184 7) c' ∧ c ≤ c' ∧ c' ≤ c + (rAmt (pAct E hn w j).2.2).length + 1 ∧ RRa r 9100 (168 + s) c' (pAct E hn w j).2.2 ∧ ∀ k, k < 9100 + c → gI r 182 k = gI u 182 k ∧ gI r 183 k = gI u 183 k)
theorem y73 (hf : 1300 < f) (hx : Nm x1 (168 + s)) (hs : s < 24) {s0 : Int32} {w : List Int32} (h : RS E j u) (hh : (gI u 167 31).toInt = hn) (h0 : 0 ≤ hn) {c B : Nat} (hc : Nm (gI u 184 7) c) (hcB : c ≤ B + j) (hB : B ≤ 60) : Ok (B_X12_readRule_73 f x1 s0 x1 u) (AP E hn s u c s0 w j) := by
  have hL := h.2.1.1
  have hj := h.2.2.2.2
  rw [B_X12_readRule_73]
  refine Ok.ck (hx.ix (by omega)) ?_
  rw [hx.nat]
  have h1 : RS E j (sI u 175 (168 + s) s0) := h.put (by decide) (by decide) (Or.inl (by decide))
  have k1 : Kp s u (sI u 175 (168 + s) s0) := Kp_put (Or.inr (Or.inr ⟨by decide, by decide, rfl⟩))
  by_cases h17 : tT E j = 17
  · have hlt := h.lt (show tT E j ≠ 2 by omega)
    refine Ok.bindE (r_hasWord_t h1 (w := 1) (by decide) (show Nm (1 : Int32) 1 from rfl) h17) (Ok.f ni1 (Ok.ck (hx.ix (by omega)) ?_))
    have h2 : RS E (j + 1) (sI (adv (sI u 175 (168 + s) s0)) 176 (168 + s) 1) := (h1.next hlt).put (by decide) (by decide) (Or.inl (by decide))
    have k2 : Kp s u (sI (adv (sI u 175 (168 + s) s0)) 176 (168 + s) 1) := (k1.trans Kp_adv).trans (Kp_put (Or.inr (Or.inr ⟨by decide, by decide, rfl⟩)))
    have g2 : ∀ a k, a ≠ 175 → a ≠ 176 → a ≠ 167 → gI (sI (adv (sI u 175 (168 + s) s0)) 176 (168 + s) 1) a k = gI u a k := fun a k e1 e2 e3 => (g_ne _ _ _ _ e2).trans ((g_ne _ _ _ _ e3).trans (g_ne _ _ _ _ e1))
    have hc2 : Nm (gI (sI (adv (sI u 175 (168 + s) s0)) 176 (168 + s) 1) 184 7) c := by rw [g2 _ _ (by decide) (by decide) (by decide)]; exact hc
    obtain ⟨v, ev, v1, v2, v3⟩ := yAmt hf hx hs h2 hc2 (B := B) (by omega) hB
    have hfv := fr_F_X12_readAmount ev
    have hpf := pAmt_far h.2.1 (i := j + 1) hlt
    refine Ok.bindE ev ?_
    have et : t1 f x1 v = (F_X12_takeWord f 2 v).bind (fun r44 => (F_X12_oneOf f 9 2 r44).bind fun r46 => (F_X12_takeWord f 3 (sI r46.2 178 (168 + s) r46.1)).bind fun r49 => (F_X12_readWhom f x1 r49).bind fun r51 => (F_X12_takeWord f 4 r51).bind fun r53 => (F_X12_oneOf f 13 3 r53).bind fun r55 => B_X12_readRule_236 f (sI r55.2 181 (168 + s) r55.1)) := by
      unfold t1 t2 t3 t4 t5 t6; rw [hx.nat]
    show Ok ((F_X12_takeWord f 2 v).bind (fun r44 => (F_X12_oneOf f 9 2 r44).bind fun r46 => (F_X12_takeWord f 3 (sI r46.2 178 (168 + s) r46.1)).bind fun r49 => (F_X12_readWhom f x1 r49).bind fun r51 => (F_X12_takeWord f 4 r51).bind fun r53 => (F_X12_oneOf f 13 3 r53).bind fun r55 => B_X12_readRule_236 f (sI r55.2 181 (168 + s) r55.1))) _
    rw [← et]
    by_cases ha : (pAmt E (j + 1)).1 = 0
    · obtain ⟨q1, c', q2, q3, q4, q5, q6⟩ := v3 ha
      have hh3 : (gI v 167 31).toInt = hn := by
        rw [hfv.1 167 31 (by simp [nin, wI_X12_readAmount]), g_ne _ _ _ _ (by decide), show gI (adv (sI u 175 (168 + s) s0)) 167 31 = gI (sI u 175 (168 + s) s0) 167 31 from g_nk _ _ _ (by decide), g_ne _ _ _ _ (by decide)]; exact hh
      refine (y1 hf hx hs q1 hh3 h0).mono (fun r hr => ?_)
      have ea : pAct E hn w j = ((pWays E hn (pAmt E (j + 1)).2.1).1, (pWays E hn (pAmt E (j + 1)).2.1).2.1, (17, w, (pAmt E (j + 1)).2.2, (pWays E hn (pAmt E (j + 1)).2.1).2.2.1, (pWays E hn (pAmt E (j + 1)).2.1).2.2.2.1, (pWays E hn (pAmt E (j + 1)).2.1).2.2.2.2.1, (pWays E hn (pAmt E (j + 1)).2.1).2.2.2.2.2, 0)) := by
        unfold pAct; rw [if_neg (by omega), if_pos (Or.inl h17), if_pos ha, if_neg (by omega)]
      have ef : finA E hn w j = fin1 E hn (pAmt E (j + 1)).2.1 := by rw [fin1_eq, finA, ea]
      unfold AP
      rw [ef]
      refine ⟨fun hk => ⟨(hr.1 hk).1, (k2.trans v2).trans (hr.1 hk).2⟩, fun hk => ?_⟩
      obtain ⟨r1, r2, r3, r4, r5, r6, r7⟩ := hr.2 hk
      have hy0 : (pWays E hn (pAmt E (j + 1)).2.1).1 = 0 := by
        rw [fin1_eq] at hk
        by_cases e : (pWays E hn (pAmt E (j + 1)).2.1).1 = 0
        · exact e
        · rw [if_neg e] at hk; exact hk
      have hws : (pWays E hn (pAmt E (j + 1)).2.1).2.2.1 = tT E ((pAmt E (j + 1)).2.1 + 1) ∧ (pWays E hn (pAmt E (j + 1)).2.1).2.2.2.1 = (pWhom E hn ((pAmt E (j + 1)).2.1 + 3)).2.2.1 ∧ (pWays E hn (pAmt E (j + 1)).2.1).2.2.2.2.1 = (pWhom E hn ((pAmt E (j + 1)).2.1 + 3)).2.2.2 ∧ (pWays E hn (pAmt E (j + 1)).2.1).2.2.2.2.2 = tT E ((pWhom E hn ((pAmt E (j + 1)).2.1 + 3)).2.1 + 1) := by
        unfold pWays at hy0 ⊢
        split at hy0
        · split at hy0
          · split at hy0
            · split at hy0
              · split at hy0
                · split at hy0
                  · simp_all
                  · exact absurd hy0 ne1
                · exact absurd hy0 ne1
              · rename_i hh'; exact absurd hy0 hh'
            · exact absurd hy0 ne1
          · exact absurd hy0 ne1
        · exact absurd hy0 ne1
      refine ⟨r1, (k2.trans v2).trans r3, ?_, ?_, c', ?_, q3, ?_, ⟨?_, fun h => ?_, fun _ => ?_, fun _ => ?_⟩, fun k hk' => ?_⟩
      · rw [r4, hfv.1 173 7 (by simp [nin, wI_X12_readAmount]), g2 _ _ (by decide) (by decide) (by decide)]
      · rw [r2.1 175 _ (by simp [nin]), hfv.1 175 _ (by simp [nin, wI_X12_readAmount]), g_ne _ _ _ _ (by decide), show gI (adv (sI u 175 (168 + s) s0)) 175 (168 + s) = gI (sI u 175 (168 + s) s0) 175 (168 + s) from g_ne _ _ _ _ (by decide), g_same]
      · rw [r2.1 184 7 (by simp [nin])]; exact q2
      · rw [ea]; exact q4
      · rw [ea, r2.1 176 _ (by simp [nin]), hfv.1 176 _ (by simp [nin, wI_X12_readAmount]), g_same]; rfl
      · rw [ea] at h; exact absurd h (by show ¬ (17 : Nat) = 19; decide)
      · rw [ea, r2.1 177 _ (by simp [nin])]
        exact q5.fr (Nat.le_refl _) (fun k _ => ⟨r2.1 182 k (by simp [nin]), r2.1 183 k (by simp [nin])⟩)
      · rw [ea]
        refine ⟨?_, ?_, ?_, fun hne => ?_⟩
        · show Nm _ ((pWays E hn (pAmt E (j + 1)).2.1).2.2.1 - 9)
          rw [hws.1]; exact r5
        · show Nm _ ((pWays E hn (pAmt E (j + 1)).2.1).2.2.2.1 - 24)
          rw [hws.2.1]; exact r6.1
        · show Nm _ ((pWays E hn (pAmt E (j + 1)).2.1).2.2.2.2.2 - 27)
          rw [hws.2.2.2]; exact r7
        · show _ = (pWays E hn (pAmt E (j + 1)).2.1).2.2.2.2.1
          rw [hws.2.2.1]
          exact r6.2 (by rw [← hws.2.1]; exact hne)
      · rw [r2.1 182 k (by simp [nin]), r2.1 183 k (by simp [nin]), (q6 k hk').1, (q6 k hk').2, g2 _ _ (by decide) (by decide) (by decide), g2 _ _ (by decide) (by decide) (by decide)]
        exact ⟨rfl, rfl⟩
    · have hpf1 := hpf.2 ha
      have hxx : RX v := by
        unfold RX
        rw [v1 ha]
        exact Int32_ofNat_ne h.2.1 (by omega) hpf1.1
      have ea : pAct E hn w j = ((pAmt E (j + 1)).1, (pAmt E (j + 1)).2.1, rNone) := by
        unfold pAct; rw [if_neg (by omega), if_pos (Or.inl h17), if_neg ha]
      have ef : finA E hn w j = ((pAmt E (j + 1)).1, (pAmt E (j + 1)).2.1) := by rw [finA, ea]; exact if_neg ha
      refine (x1' (s := s) hf hx hs hxx).mono (fun r hr => ?_)
      unfold AP
      rw [ef]
      exact ⟨fun _ => ⟨hr.1.trans (v1 ha), (k2.trans v2).trans hr.2⟩, fun h => absurd h ha⟩
  · refine Ok.bindE (r_hasWord_f h1 (w := 1) (by decide) (show Nm (1 : Int32) 1 from rfl) h17) (Ok.t rfl ?_)
    dsimp only
    by_cases h18 : tT E j = 18
    · have hlt := h.lt (show tT E j ≠ 2 by omega)
      refine Ok.bindE (r_hasWord_t h1 (w := 5) (by decide) (show Nm (5 : Int32) 5 from rfl) h18) (Ok.f ni1 (Ok.ck (hx.ix (by omega)) ?_))
      have h2 : RS E (j + 1) (sI (adv (sI u 175 (168 + s) s0)) 176 (168 + s) 5) := (h1.next hlt).put (by decide) (by decide) (Or.inl (by decide))
      have k2 : Kp s u (sI (adv (sI u 175 (168 + s) s0)) 176 (168 + s) 5) := (k1.trans Kp_adv).trans (Kp_put (Or.inr (Or.inr ⟨by decide, by decide, rfl⟩)))
      have g2 : ∀ a k, a ≠ 175 → a ≠ 176 → a ≠ 167 → gI (sI (adv (sI u 175 (168 + s) s0)) 176 (168 + s) 5) a k = gI u a k := fun a k e1 e2 e3 => (g_ne _ _ _ _ e2).trans ((g_ne _ _ _ _ e3).trans (g_ne _ _ _ _ e1))
      have hc2 : Nm (gI (sI (adv (sI u 175 (168 + s) s0)) 176 (168 + s) 5) 184 7) c := by rw [g2 _ _ (by decide) (by decide) (by decide)]; exact hc
      obtain ⟨v, ev, v1, v2, v3⟩ := yAmt hf hx hs h2 hc2 (B := B) (by omega) hB
      have hfv := fr_F_X12_readAmount ev
      have hpf := pAmt_far h.2.1 (i := j + 1) hlt
      refine Ok.bindE ev ?_
      by_cases ha : (pAmt E (j + 1)).1 = 0
      · obtain ⟨q1, c', q2, q3, q4, q5, q6⟩ := v3 ha
        refine (y7 (s := s) q1).mono (fun r hr => ?_)
        have ea : pAct E hn w j = (0, (pAmt E (j + 1)).2.1, (18, w, (pAmt E (j + 1)).2.2, 0, 0, 0, 0, 0)) := by
          unfold pAct; rw [if_neg (by omega), if_pos (Or.inr h18), if_pos ha, if_pos h18]
        have ef : finA E hn w j = semi E (pAmt E (j + 1)).2.1 := by rw [finA, ea]; exact if_pos rfl
        unfold AP
        rw [ef]
        refine ⟨fun hk => ⟨(hr.1 hk).1, (k2.trans v2).trans (hr.1 hk).2⟩, fun hk => ?_⟩
        obtain ⟨r1, r2, r3, r4, _⟩ := hr.2 hk
        refine ⟨r1, (k2.trans v2).trans r3, ?_, ?_, c', ?_, q3, ?_, ⟨?_, fun h => ?_, fun _ => ?_, fun h => ?_⟩, fun k hk' => ?_⟩
        · rw [r4, hfv.1 173 7 (by simp [nin, wI_X12_readAmount]), g2 _ _ (by decide) (by decide) (by decide)]
        · rw [r2.1 175 _ (by simp [nin]), hfv.1 175 _ (by simp [nin, wI_X12_readAmount]), g_ne _ _ _ _ (by decide), show gI (adv (sI u 175 (168 + s) s0)) 175 (168 + s) = gI (sI u 175 (168 + s) s0) 175 (168 + s) from g_ne _ _ _ _ (by decide), g_same]
        · rw [r2.1 184 7 (by simp [nin])]; exact q2
        · rw [ea]; exact q4
        · rw [ea, r2.1 176 _ (by simp [nin]), hfv.1 176 _ (by simp [nin, wI_X12_readAmount]), g_same]; rfl
        · rw [ea] at h; exact absurd h (by show ¬ (18 : Nat) = 19; decide)
        · rw [ea, r2.1 177 _ (by simp [nin])]
          exact q5.fr (Nat.le_refl _) (fun k _ => ⟨r2.1 182 k (by simp [nin]), r2.1 183 k (by simp [nin])⟩)
        · rw [ea] at h; exact absurd h (by show ¬ (18 : Nat) = 17; decide)
        · rw [r2.1 182 k (by simp [nin]), r2.1 183 k (by simp [nin]), (q6 k hk').1, (q6 k hk').2, g2 _ _ (by decide) (by decide) (by decide), g2 _ _ (by decide) (by decide) (by decide)]
          exact ⟨rfl, rfl⟩
      · have hpf1 := hpf.2 ha
        have hxx : RX v := by
          unfold RX
          rw [v1 ha]
          exact Int32_ofNat_ne h.2.1 (by omega) hpf1.1
        have ea : pAct E hn w j = ((pAmt E (j + 1)).1, (pAmt E (j + 1)).2.1, rNone) := by
          unfold pAct; rw [if_neg (by omega), if_pos (Or.inr h18), if_neg ha]
        have ef : finA E hn w j = ((pAmt E (j + 1)).1, (pAmt E (j + 1)).2.1) := by rw [finA, ea]; exact if_neg ha
        refine (x7 (s := s) hxx).mono (fun r hr => ?_)
        unfold AP
        rw [ef]
        exact ⟨fun _ => ⟨hr.1.trans (v1 ha), (k2.trans v2).trans hr.2⟩, fun h => absurd h ha⟩
    · refine Ok.bindE (r_hasWord_f h1 (w := 5) (by decide) (show Nm (5 : Int32) 5 from rfl) h18) (Ok.t rfl ?_)
      dsimp only
      -- what is left when a fault was told
      have xr : ∀ v : MT, RX v → Ok (ck (ixo x1 192) <| (F_X12_isWord f 9 (sI v 176 (168 + s) 6)).bind fun r28 => if r28.1 = 0 then (F_X12_isWord f 10 r28.2).bind fun r31 => if r31.1 = 0 then (F_X12_oneOf f 16 2 r31.2).bind fun r34 => B_X12_readRule_222 f x1 (2 + r34.1) x1 r34.2 else B_X12_readRule_203 f x1 x1 r31.2 else B_X12_readRule_203 f x1 x1 r28.2) (AB s v) := by
        intro v hv
        refine Ok.ck (hx.ix (by omega)) ?_
        have h2 : RX (sI v 176 (168 + s) 6) := hv.put (Or.inl (by decide))
        refine Ok.bindE (r_isWord_x h2) (Ok.t rfl (Ok.bindE (r_isWord_x h2) (Ok.t rfl (Ok.bindE (r_oneOf_x (by omega) h2 (first := 16) (many := 2) (show Nm (2 : Int32) 2 from rfl) (by omega)) ?_))))
        rw [B_X12_readRule_222]
        refine Ok.ck (hx.ix (by omega)) ?_
        rw [hx.nat]
        have h3 : RX (sI (sI v 176 (168 + s) 6) 178 (168 + s) (2 + 0)) := h2.put (Or.inl (by decide))
        refine Ok.bindE (r_takeNumber_x h3) (Ok.ck (hx.ix (by omega)) ?_)
        have h5 : RX (sI (adv (sI (sI v 176 (168 + s) 6) 178 (168 + s) (2 + 0))) 180 (168 + s) 0) := RX.put (RX.put h3 (Or.inr (by decide))) (Or.inl (by decide))
        refine (x7 (s := s) h5).mono (fun r hr => AB.trans ⟨?_, ?_⟩ hr)
        · rw [g_ne _ _ _ _ (by decide), show gI (adv (sI (sI v 176 (168 + s) 6) 178 (168 + s) (2 + 0))) 167 8 = gI (sI (sI v 176 (168 + s) 6) 178 (168 + s) (2 + 0)) 167 8 from g_nk _ _ _ (by decide), g_ne _ _ _ _ (by decide), g_ne _ _ _ _ (by decide)]
        · exact (((Kp_put (Or.inr (Or.inr ⟨by decide, by decide, rfl⟩))).trans (Kp_put (Or.inr (Or.inr ⟨by decide, by decide, rfl⟩)))).trans Kp_adv).trans (Kp_put (Or.inr (Or.inr ⟨by decide, by decide, rfl⟩)))
      by_cases h19 : tT E j = 19
      · have hlt := h.lt (show tT E j ≠ 2 by omega)
        refine Ok.bindE (r_takeWord_t h1 (w := 6) (by decide) (show Nm (6 : Int32) 6 from rfl) h19) (Ok.ck (hx.ix (by omega)) ?_)
        have h2 : RS E (j + 1) (sI (adv (sI u 175 (168 + s) s0)) 176 (168 + s) 6) := (h1.next hlt).put (by decide) (by decide) (Or.inl (by decide))
        have k2 : Kp s u (sI (adv (sI u 175 (168 + s) s0)) 176 (168 + s) 6) := (k1.trans Kp_adv).trans (Kp_put (Or.inr (Or.inr ⟨by decide, by decide, rfl⟩)))
        have g2 : ∀ a k, a ≠ 175 → a ≠ 176 → a ≠ 167 → gI (sI (adv (sI u 175 (168 + s) s0)) 176 (168 + s) 6) a k = gI u a k := fun a k e1 e2 e3 => (g_ne _ _ _ _ e2).trans ((g_ne _ _ _ _ e3).trans (g_ne _ _ _ _ e1))
        -- a kind is there
        have kind : ∀ (y : Int32) (q : Nat), pPri (tT E (j + 1)) = q → q ≠ 0 → Nm y (q - 10) → Ok (B_X12_readRule_222 f x1 y x1 (adv (sI (adv (sI u 175 (168 + s) s0)) 176 (168 + s) 6))) (AP E hn s u c s0 w j) := by
          intro y q hq hq0 hy
          have hlt2 := h2.lt (show tT E (j + 1) ≠ 2 from fun e => by rw [e] at hq; exact hq0 hq.symm)
          have h3 : RS E (j + 2) (sI (adv (sI (adv (sI u 175 (168 + s) s0)) 176 (168 + s) 6)) 178 (168 + s) y) := (h2.next hlt2).put (by decide) (by decide) (Or.inl (by decide))
          have k3 : Kp s u (sI (adv (sI (adv (sI u 175 (168 + s) s0)) 176 (168 + s) 6)) 178 (168 + s) y) := (k2.trans Kp_adv).trans (Kp_put (Or.inr (Or.inr ⟨by decide, by decide, rfl⟩)))
          have g3 : ∀ a k, a ≠ 175 → a ≠ 176 → a ≠ 167 → a ≠ 178 → gI (sI (adv (sI (adv (sI u 175 (168 + s) s0)) 176 (168 + s) 6)) 178 (168 + s) y) a k = gI u a k := fun a k e1 e2 e3 e4 => (g_ne _ _ _ _ e4).trans ((g_ne _ _ _ _ e3).trans (g2 a k e1 e2 e3))
          have ea : pAct E hn w j = ((pNum E 0 100 (j + 2)).1, (pNum E 0 100 (j + 2)).2, (19, w, [], 0, 0, tV E (j + 2), 0, pPri (tT E (j + 1)))) := by
            unfold pAct; rw [if_pos h19, if_neg (by rw [hq]; exact hq0)]
          rw [B_X12_readRule_222]
          refine Ok.ck (hx.ix (by omega)) ?_
          rw [hx.nat]
          by_cases n3 : tT E (j + 2) = 3
          · by_cases nr : (0 : Int) ≤ (tV E (j + 2)).toInt ∧ (tV E (j + 2)).toInt ≤ 100
            · have en : pNum E 0 100 (j + 2) = (0, j + 3) := by unfold pNum; rw [if_pos n3, if_pos nr]
              have hlt3 := h3.lt (show tT E (j + 2) ≠ 2 by omega)
              refine Ok.bindE (r_takeNumber_t (a := 0) (b := 100) h3 n3 nr.1 nr.2) (Ok.ck (hx.ix (by omega)) ?_)
              have h4 : RS E (j + 3) (sI (adv (sI (adv (sI (adv (sI u 175 (168 + s) s0)) 176 (168 + s) 6)) 178 (168 + s) y)) 180 (168 + s) (tV E (j + 2))) := (h3.next hlt3).put (by decide) (by decide) (Or.inl (by decide))
              have k4 : Kp s u (sI (adv (sI (adv (sI (adv (sI u 175 (168 + s) s0)) 176 (168 + s) 6)) 178 (168 + s) y)) 180 (168 + s) (tV E (j + 2))) := (k3.trans Kp_adv).trans (Kp_put (Or.inr (Or.inr ⟨by decide, by decide, rfl⟩)))
              have g4 : ∀ a k, a ≠ 175 → a ≠ 176 → a ≠ 167 → a ≠ 178 → a ≠ 180 → gI (sI (adv (sI (adv (sI (adv (sI u 175 (168 + s) s0)) 176 (168 + s) 6)) 178 (168 + s) y)) 180 (168 + s) (tV E (j + 2))) a k = gI u a k := fun a k e1 e2 e3 e4 e5 => (g_ne _ _ _ _ e5).trans ((g_ne _ _ _ _ e3).trans (g3 a k e1 e2 e3 e4))
              refine (y7 (s := s) h4).mono (fun r hr => ?_)
              have ef : finA E hn w j = semi E (j + 3) := by rw [finA, ea, en]; exact if_pos rfl
              unfold AP
              rw [ef]
              refine ⟨fun hk => ⟨(hr.1 hk).1, k4.trans (hr.1 hk).2⟩, fun hk => ?_⟩
              obtain ⟨r1, r2, r3, r4, _⟩ := hr.2 hk
              refine ⟨r1, k4.trans r3, ?_, ?_, c, ?_, Nat.le_refl _, by omega, ⟨?_, fun _ => ⟨?_, ?_⟩, fun h => absurd (by rw [ea]; rfl) h, fun h => ?_⟩, fun k hk' => ?_⟩
              · rw [r4, g4 _ _ (by decide) (by decide) (by decide) (by decide) (by decide)]
              · rw [r2.1 175 _ (by simp [nin]), g_ne _ _ _ _ (by decide)]
                exact (g_ne _ _ _ _ (by decide)).trans ((g_ne _ _ _ _ (by decide)).trans ((g_ne _ _ _ _ (by decide)).trans ((g_ne _ _ _ _ (by decide)).trans ((g_ne _ _ _ _ (by decide)).trans (g_same _ _ _ _)))))
              · rw [r2.1 184 7 (by simp [nin]), g4 _ _ (by decide) (by decide) (by decide) (by decide) (by decide)]; exact hc
              · rw [ea, r2.1 176 _ (by simp [nin]), g_ne _ _ _ _ (by decide)]
                exact (g_ne _ _ _ _ (by decide)).trans ((g_ne _ _ _ _ (by decide)).trans ((g_ne _ _ _ _ (by decide)).trans (g_same _ _ _ _)))
              · rw [ea, r2.1 178 _ (by simp [nin]), g_ne _ _ _ _ (by decide)]
                show Nm _ (pPri (tT E (j + 1)) - 10)
                rw [show gI (adv (sI (adv (sI (adv (sI u 175 (168 + s) s0)) 176 (168 + s) 6)) 178 (168 + s) y)) 178 (168 + s) = y from (g_ne _ _ _ _ (by decide)).trans (g_same _ _ _ _), hq]; exact hy
              · rw [ea, r2.1 180 _ (by simp [nin])]
                exact g_same _ _ _ _
              · rw [ea] at h; exact absurd h (by show ¬ (19 : Nat) = 17; decide)
              · rw [r2.1 182 k (by simp [nin]), r2.1 183 k (by simp [nin]), g4 _ _ (by decide) (by decide) (by decide) (by decide) (by decide), g4 _ _ (by decide) (by decide) (by decide) (by decide) (by decide)]
                exact ⟨rfl, rfl⟩
            · have en : pNum E 0 100 (j + 2) = (4, j + 2) := by unfold pNum; rw [if_pos n3, if_neg nr]
              refine Ok.bindE (r_takeNumber_o (a := 0) (b := 100) h3 n3 (by rw [show (0 : Int32).toInt = 0 from rfl, show (100 : Int32).toInt = 100 from rfl]; omega)) (Ok.ck (hx.ix (by omega)) ?_)
              have hxx : RX (sI (adv (wr E 4 (j + 2) (sI (adv (sI (adv (sI u 175 (168 + s) s0)) 176 (168 + s) 6)) 178 (168 + s) y))) 180 (168 + s) 0) := RX.put (RX.put (h3.bad (by decide) (by decide)) (Or.inr (by decide))) (Or.inl (by decide))
              refine (x7 (s := s) hxx).mono (fun r hr => ?_)
              have ef : finA E hn w j = (4, j + 2) := by rw [finA, ea, en]; exact if_neg (by intro h; cases h)
              unfold AP
              rw [ef]
              refine ⟨fun _ => ⟨hr.1.trans ?_, (((k3.trans Kp_wr).trans Kp_adv).trans (Kp_put (Or.inr (Or.inr ⟨by decide, by decide, rfl⟩)))).trans hr.2⟩, fun h => absurd h (by show ¬ (4 : Nat) = 0; decide)⟩
              rw [g_ne _ _ _ _ (by decide)]
              exact (g_nk _ _ _ (by decide)).trans (wrf (k := 4))
          · have en : pNum E 0 100 (j + 2) = (1, j + 2) := by unfold pNum; rw [if_neg n3]
            refine Ok.bindE (r_takeNumber_f (a := 0) (b := 100) h3 n3) (Ok.ck (hx.ix (by omega)) ?_)
            have hxx : RX (sI (adv (wr E 1 (j + 2) (sI (adv (sI (adv (sI u 175 (168 + s) s0)) 176 (168 + s) 6)) 178 (168 + s) y))) 180 (168 + s) 0) := RX.put (RX.put (h3.bad (by decide) (by decide)) (Or.inr (by decide))) (Or.inl (by decide))
            refine (x7 (s := s) hxx).mono (fun r hr => ?_)
            have ef : finA E hn w j = (1, j + 2) := by rw [finA, ea, en]; exact if_neg (by intro h; cases h)
            unfold AP
            rw [ef]
            refine ⟨fun _ => ⟨hr.1.trans ?_, (((k3.trans Kp_wr).trans Kp_adv).trans (Kp_put (Or.inr (Or.inr ⟨by decide, by decide, rfl⟩)))).trans hr.2⟩, fun h => absurd h ne1⟩
            rw [g_ne _ _ _ _ (by decide)]
            exact (g_nk _ _ _ (by decide)).trans (wrf (k := 1))
        have tab9 : ∀ k, k < 2 → wtok.getD (9 + k) 0 = 9 + k := by decide
        have tab16 : ∀ k, k < 2 → wtok.getD (16 + k) 0 = 30 + k := by decide
        have b203 : tT E (j + 1) = 9 ∨ tT E (j + 1) = 10 → Ok (B_X12_readRule_203 f x1 x1 (sI (adv (sI u 175 (168 + s) s0)) 176 (168 + s) 6)) (AP E hn s u c s0 w j) := by
          intro hb
          rw [B_X12_readRule_203]
          obtain ⟨y, hy, he⟩ := r_oneOf_t (f := f) (by omega) h2 (first := 9) (many := 2) (x1 := 9) (x2 := 2) rfl rfl (by omega) (k0 := tT E (j + 1) - 9) (by omega) (by rw [tab9 _ (by omega)]; omega) (fun k hk => by rw [tab9 _ (by omega)]; omega)
          refine Ok.bindE he ?_
          refine kind y (tT E (j + 1) + 1) ?_ (by omega) (by rw [show tT E (j + 1) + 1 - 10 = tT E (j + 1) - 9 by omega]; exact hy)
          unfold pPri
          rcases hb with e | e <;> rw [e] <;> decide
        by_cases h9 : tT E (j + 1) = 9
        · refine Ok.bindE (r_isWord h2 (w := 9) (by decide) (show Nm (9 : Int32) 9 from rfl)) ?_
          dsimp only
          rw [b2i_t (show tT E (j + 1) = wtok.getD 9 0 from h9)]
          exact Ok.f ni1 (b203 (Or.inl h9))
        · refine Ok.bindE (r_isWord h2 (w := 9) (by decide) (show Nm (9 : Int32) 9 from rfl)) ?_
          dsimp only
          rw [b2i_f (show ¬ tT E (j + 1) = wtok.getD 9 0 from h9)]
          refine Ok.t rfl (Ok.bindE (r_isWord h2 (w := 10) (by decide) (show Nm (10 : Int32) 10 from rfl)) ?_)
          dsimp only
          by_cases h10 : tT E (j + 1) = 10
          · rw [b2i_t (show tT E (j + 1) = wtok.getD 10 0 from h10)]
            exact Ok.f ni1 (b203 (Or.inr h10))
          · rw [b2i_f (show ¬ tT E (j + 1) = wtok.getD 10 0 from h10)]
            refine Ok.t rfl ?_
            by_cases h30 : tT E (j + 1) = 30 ∨ tT E (j + 1) = 31
            · obtain ⟨y, hy, he⟩ := r_oneOf_t (f := f) (by omega) h2 (first := 16) (many := 2) (x1 := 16) (x2 := 2) rfl rfl (by omega) (k0 := tT E (j + 1) - 30) (by omega) (by rw [tab16 _ (by omega)]; omega) (fun k hk => by rw [tab16 _ (by omega)]; omega)
              refine Ok.bindE he ?_
              refine kind (2 + y) (tT E (j + 1) - 18) ?_ (by omega) ?_
              · unfold pPri
                rcases h30 with e | e <;> rw [e] <;> decide
              · have := Nm.add (show Nm (2 : Int32) 2 from rfl) hy (by omega)
                rw [show 2 + (tT E (j + 1) - 30) = tT E (j + 1) - 18 - 10 by omega] at this
                exact this
            · have hp0 : pPri (tT E (j + 1)) = 0 := by unfold pPri; rw [if_neg h9, if_neg h10, if_neg (by omega), if_neg (by omega)]
              refine Ok.bindE (r_oneOf_f (f := f) (by omega) h2 (first := 16) (many := 2) (x1 := 16) (x2 := 2) rfl rfl (by omega) (fun k hk => by rw [tab16 _ hk]; omega)) ?_
              rw [B_X12_readRule_222]
              refine Ok.ck (hx.ix (by omega)) ?_
              rw [hx.nat]
              have hxx : RX (sI (wr E 1 (j + 1) (sI (adv (sI u 175 (168 + s) s0)) 176 (168 + s) 6)) 178 (168 + s) (2 + 0)) := RX.put (h2.bad (by decide) (by decide)) (Or.inl (by decide))
              refine Ok.bindE (r_takeNumber_x hxx) (Ok.ck (hx.ix (by omega)) ?_)
              have hx5 : RX (sI (adv (sI (wr E 1 (j + 1) (sI (adv (sI u 175 (168 + s) s0)) 176 (168 + s) 6)) 178 (168 + s) (2 + 0))) 180 (168 + s) 0) := RX.put (RX.put hxx (Or.inr (by decide))) (Or.inl (by decide))
              refine (x7 (s := s) hx5).mono (fun r hr => ?_)
              have ea : pAct E hn w j = (1, j + 1, rNone) := by unfold pAct; rw [if_pos h19, if_pos hp0]
              have ef : finA E hn w j = (1, j + 1) := by rw [finA, ea]; exact if_neg (by intro h; cases h)
              unfold AP
              rw [ef]
              refine ⟨fun _ => ⟨hr.1.trans ?_, ((((k2.trans Kp_wr).trans (Kp_put (Or.inr (Or.inr ⟨by decide, by decide, rfl⟩)))).trans Kp_adv).trans (Kp_put (Or.inr (Or.inr ⟨by decide, by decide, rfl⟩)))).trans hr.2⟩, fun h => absurd h ne1⟩
              rw [g_ne _ _ _ _ (by decide)]
              exact (g_nk _ _ _ (by decide)).trans ((g_ne _ _ _ _ (by decide)).trans (wrf (k := 1)))
      · refine Ok.bindE (r_takeWord_f h1 (w := 6) (by decide) (show Nm (6 : Int32) 6 from rfl) h19) ?_
        refine (xr _ (h1.bad (by decide) (by decide))).mono (fun r hr => ?_)
        have ea : pAct E hn w j = (1, j, rNone) := by unfold pAct; rw [if_neg h19, if_neg (by omega)]
        have ef : finA E hn w j = (1, j) := by rw [finA, ea]; exact if_neg (by intro h; cases h)
        unfold AP
        rw [ef]
        exact ⟨fun _ => ⟨hr.1.trans (wrf (k := 1)), (k1.trans Kp_wr).trans hr.2⟩, fun h => absurd h ne1⟩
end
