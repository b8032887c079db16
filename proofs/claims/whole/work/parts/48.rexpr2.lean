/-! ===== the reference reads an E, whole ===== -/
def RFt (E : ET) (u v : MT) (c B k j : Nat) : Prop := gI v 167 8 = flt E (Int32.ofNat k) j ∧ (∃ c', Nm (gI v 184 7) c' ∧ c' ≤ B + tL E) ∧ ∀ k, k < 9100 + c → gI v 182 k = gI u 182 k ∧ gI v 183 k = gI u 183 k
def Wts (u v : MT) (ar : Nat) : Prop := ∀ d, d < ar → gI v 187 d = gI u 187 d ∧ gI v 188 d = gI u 188 d
def RGo (f : Nat) (E : ET) (m ar c : Nat) (u : MT) (res : PR) : Prop :=
  ∃ m' g v, B_X12_expression_6 f m 1 u = (B_X12_goesOn_179 f (fun u' => B_X12_goesOn_0 f g u') v).bind (rK f m') ∧ tL E + 1 < m' + res.2.1 ∧ tL E + 1 < g + res.2.1 ∧ RY E u v res.2.1 c res.2.2 ∧ Nm (gI v 167 26) ar ∧ Wts u v ar
theorem r_E {f : Nat} {E : ET} (hf : 1300 < f) : ∀ (n ar cm jt i : Nat) (res : PR), pL E n ar cm jt i = some res →
    ∀ (m : Nat) (u : MT) (c B : Nat), ar ≤ 6 → RQ E ar cm jt i c u → tL E + 1 < m + i → c + (jcode jt).length + (ccode cm).length ≤ B + i → B ≤ 60 → (jt = 0 ∨ isop jt = true) → (cm = 0 ∨ cm = 14 ∨ cm = 15) →
    (res.1 ≠ 0 → ∃ v, B_X12_expression_6 f m 1 u = some v ∧ RFt E u v c B res.1 res.2.1) ∧ (res.1 = 0 → RGo f E m ar c u res) := by
  intro n
  induction n with
  | zero => intro ar cm jt i res h; cases h
  | succ n ih =>
    intro ar cm jt i res hres m u c B har hQ hm hcB hB hjt hcm
    have hE := hQ.1.2.1
    have hL := hE.1
    have hi := hQ.1.2.2.2.2
    obtain ⟨m, rfl⟩ : ∃ m', m = m' + 1 := ⟨m - 1, by omega⟩
    obtain ⟨p, hp, hr⟩ := pL_cases hres
    have hjl : (jcode jt).length ≤ 1 := by unfold jcode; split <;> simp
    have hcl : (ccode cm).length ≤ 1 := by unfold ccode; split <;> simp
    rw [r6_1 hQ.1.2.2.1]
    -- a fault in the PART
    have bad : ∀ (k : Int32) (kn : Nat), k = Int32.ofNat kn → 0 < k.toInt → k.toInt < 16 → F_X12_part f u = some (0, wr E k i u) → p = (kn, i, []) → kn ≠ 0 →
        (res.1 ≠ 0 → ∃ v, ((F_X12_part f u).bind fun r5 => if r5.1 = 0 then (F_X12_goesOn f r5.2).bind (rK f m) else B_X12_expression_6 f m 1 r5.2) = some v ∧ RFt E u v c B res.1 res.2.1) ∧ (res.1 = 0 → RGo f E (m + 1) ar c u res) := by
      intro k kn hk h1 h2 hpt hpe hkn
      have hx : RX (wr E k i u) := hQ.1.bad h1 h2
      have hp0 : p.1 ≠ 0 := by rw [hpe]; exact hkn
      have hres' : res = (kn, i, []) := by
        rcases hr with ⟨_, e⟩ | ⟨h0, _⟩ | ⟨h0, _⟩
        · rw [e, hpe]
        · exact absurd h0 hp0
        · exact absurd h0 hp0
      constructor
      · intro _
        refine ⟨wr E k i u, ?_, ?_⟩
        · rw [bS hpt]
          dsimp only
          rw [if_pos (Eq.refl _), F_X12_goesOn, bS (rG_x (by omega) hx), rK_0, r6_0 (by omega)]
        · rw [hres']
          refine ⟨?_, ⟨c, ?_, by omega⟩, fun k' hk' => ⟨g_ne _ _ _ _ (by decide), g_ne _ _ _ _ (by decide)⟩⟩
          · rw [← hk]; exact g_same _ _ _ _
          · rw [show gI (wr E k i u) 184 7 = gI u 184 7 from g_ne _ _ _ _ (by decide)]; exact hQ.2.2.2.2
      · intro h0
        rw [hres'] at h0; exact absurd h0 hkn
    -- behind the PART
    have tail : ∀ (w : MT) (g mm : Nat), p.1 = 0 → i < p.2.1 → p.2.1 ≤ tL E → p.2.2.length + i ≤ p.2.1 →
        (((F_X12_part f u).bind fun r5 => if r5.1 = 0 then (F_X12_goesOn f r5.2).bind (rK f m) else B_X12_expression_6 f m 1 r5.2) = (B_X12_goesOn_0 f (g + 1) w).bind (rK f mm)) →
        RQ E ar cm jt p.2.1 (c + p.2.2.length) w → RY E u w p.2.1 c p.2.2 → Wts u w ar → tL E + 1 < mm + p.2.1 → tL E + 1 < g + p.2.1 →
        (res.1 ≠ 0 → ∃ v, ((F_X12_part f u).bind fun r5 => if r5.1 = 0 then (F_X12_goesOn f r5.2).bind (rK f m) else B_X12_expression_6 f m 1 r5.2) = some v ∧ RFt E u v c B res.1 res.2.1) ∧ (res.1 = 0 → RGo f E (m + 1) ar c u res) := by
      intro w g mm hp0 hp1 hp2 hp3 heq hw hY hW hmm hg
      have haf := r_after (f := f) (g := g) (m := mm) hw har (by omega) hjt hcm
      rcases hr with ⟨h0, _⟩ | ⟨_, hst, e⟩ | ⟨_, hst, q, hq, e⟩
      · exact absurd hp0 h0
      · obtain ⟨v, e1, hY2, hd, hW2⟩ := haf.1 hst
        refine ⟨fun h => absurd (by rw [e]) h, fun _ => ?_⟩
        rw [e]
        refine ⟨mm, g, v, ?_, hmm, hg, ?_, hd, fun d hdd => ⟨(hW2 d hdd).1.trans (hW d hdd).1, (hW2 d hdd).2.trans (hW d hdd).2⟩⟩
        · rw [r6_1 hQ.1.2.2.1, heq, e1]
        · have := hY.trans hY2
          rw [← List.append_assoc] at this
          exact this
      · obtain ⟨v, e1, hY2, hQ2, hW2⟩ := haf.2 hst
        have hns := nstop hst
        have key : (jcode (tT E p.2.1)).length + (ccode (if iscm (tT E p.2.1) = true then tT E p.2.1 else cm)).length ≤ 1 + (ccode cm).length ∧ ((if iscm (tT E p.2.1) = true then tT E p.2.1 else cm) = 0 ∨ (if iscm (tT E p.2.1) = true then tT E p.2.1 else cm) = 14 ∨ (if iscm (tT E p.2.1) = true then tT E p.2.1 else cm) = 15) := by
          cases hcc : iscm (tT E p.2.1) with
          | true =>
            rw [if_pos (Eq.refl _)]
            have : tT E p.2.1 = 14 ∨ tT E p.2.1 = 15 := by simpa [iscm] using hcc
            rw [hns.2 hcc]
            refine ⟨?_, Or.inr this⟩
            rcases this with e | e <;> rw [e] <;> decide
          | false =>
            rw [if_neg (by decide)]
            have : (jcode (tT E p.2.1)).length ≤ 1 := by unfold jcode; split <;> simp
            exact ⟨by omega, hcm⟩
        have hI := ih ar _ (tT E p.2.1) (p.2.1 + 1) q hq mm v (c + p.2.2.length + (jcode jt).length) B har hQ2 (by omega) (by omega) hB (Or.inr hns.1) key.2
        have hY3 := hY.trans hY2
        rw [heq, e1]
        rw [e]
        constructor
        · intro h0
          obtain ⟨v', e2, hF⟩ := hI.1 h0
          refine ⟨v', e2, hF.1, hF.2.1, fun k hk => ?_⟩
          have h1 := hF.2.2 k (by omega)
          have h2 := hY3.2.2.1 k hk
          exact ⟨h1.1.trans h2.1, h1.2.trans h2.2⟩
        · intro h0
          obtain ⟨m', g', v', e2, b1, b2, hY4, hd, hW4⟩ := hI.2 h0
          refine ⟨m', g', v', ?_, b1, b2, ?_, hd, fun d hdd => ⟨((hW4 d hdd).1.trans (hW2 d hdd).1).trans (hW d hdd).1, ((hW4 d hdd).2.trans (hW2 d hdd).2).trans (hW d hdd).2⟩⟩
          · rw [r6_1 hQ.1.2.2.1, heq, e1, e2]
          · refine hY3.trans (l' := q.2.2) ?_
            rw [List.length_append, ← Nat.add_assoc]
            exact hY4
    rcases pPart_cases hp with ⟨hb, e⟩ | ⟨hb, ha, e⟩ | ⟨hb, ha, h4, q, hq, hcs⟩ | ⟨hb, ha, h4, e⟩
    · exact bad 1 1 (Eq.refl _) (by decide) (by decide) (r_part_bad hQ.1 hb) e (by decide)
    · have e6 : ar = 6 := by omega
      subst e6
      exact bad 5 5 (Eq.refl _) (by decide) (by decide) (r_part_deep hQ.1 hb hQ.2.1) e (by decide)
    · have hlt := hE.lt hi (bpart_ne hb)
      have hpo := r_part_open (f := f) hQ.1 h4 hQ.2.1 ha
      -- the state inside
      have hS1 : RS E (i + 1) (sI (sI (sI (adv u) 167 26 (gI u 167 26 + 1)) 187 (ar + 1) 0) 188 (ar + 1) 0) :=
        (((hQ.1.next hlt).put (by decide) (by decide) (Or.inr (by decide))).put (by decide) (by decide) (Or.inl (by decide))).put (by decide) (by decide) (Or.inl (by decide))
      have hQ1 : RQ E (ar + 1) 0 0 (i + 1) c (sI (sI (sI (adv u) 167 26 (gI u 167 26 + 1)) 187 (ar + 1) 0) 188 (ar + 1) 0) := by
        refine ⟨hS1, ?_, ?_, ?_, ?_⟩
        · rw [g_ne _ _ _ _ (by decide), g_ne _ _ _ _ (by decide), g_same]; exact hQ.2.1.succ (by omega)
        · rw [g_ne _ _ _ _ (by decide), g_same]; rfl
        · rw [g_same]; rfl
        · rw [g_ne _ _ _ _ (by decide), g_ne _ _ _ _ (by decide), g_ne _ _ _ _ (by decide), show gI (adv u) 184 7 = gI u 184 7 from g_ne _ _ _ _ (by decide)]; exact hQ.2.2.2.2
      have hW1 : Wts u (sI (sI (sI (adv u) 167 26 (gI u 167 26 + 1)) 187 (ar + 1) 0) 188 (ar + 1) 0) (ar + 1) := fun d hd => by
        constructor
        · rw [g_ne _ _ _ _ (by decide), g_nk _ _ _ (by omega), g_ne _ _ _ _ (by decide), show gI (adv u) 187 d = gI u 187 d from g_ne _ _ _ _ (by decide)]
        · rw [g_nk _ _ _ (by omega), g_ne _ _ _ _ (by decide), g_ne _ _ _ _ (by decide), show gI (adv u) 188 d = gI u 188 d from g_ne _ _ _ _ (by decide)]
      have hY1 : RY E u (sI (sI (sI (adv u) 167 26 (gI u 167 26 + 1)) 187 (ar + 1) 0) 188 (ar + 1) 0) (i + 1) c [] :=
        ((((RY.rfl hQ.1 hQ.2.2.2.2).next hlt).put (Or.inr (Or.inr ⟨rfl, rfl⟩))).put (Or.inl rfl)).put (Or.inr (Or.inl rfl))
      have hq' := pL_far hE _ _ _ _ _ _ hq hlt
      have hI := ih (ar + 1) 0 0 (i + 1) q hq m _ c B (by omega) hQ1 (by omega) (by show c + 0 + 0 ≤ B + (i + 1); omega) hB (Or.inl (Eq.refl _)) (Or.inl (Eq.refl _))
      have e5 : ((F_X12_part f u).bind fun r5 => if r5.1 = 0 then (F_X12_goesOn f r5.2).bind (rK f m) else B_X12_expression_6 f m 1 r5.2) = B_X12_expression_6 f m 1 (sI (sI (sI (adv u) 167 26 (gI u 167 26 + 1)) 187 (ar + 1) 0) 188 (ar + 1) 0) := by
        rw [bS hpo]
        dsimp only
        rw [if_neg ni1]
      rcases hcs with ⟨h0, h5, e⟩ | ⟨h0, h5, e⟩ | ⟨h0, e⟩
      · obtain ⟨m', g, v, e1, b1, b2, hY, hd, hW⟩ := hI.2 h0
        have hqf := hq'.1 h0
        have hlt2 := hE.lt hqf.2.1 (by rw [h5]; decide)
        obtain ⟨g, rfl⟩ : ∃ g', g = g' + 1 := ⟨g - 1, by omega⟩
        have e0 : (jcode 0).length = 0 := Eq.refl _
        have e00 : (ccode 0).length = 0 := Eq.refl _
        have hYa := (hY1.trans hY).next hlt2
        have hYb : RY E u (sI (adv v) 167 26 (gI (adv v) 167 26 - 1)) (q.2.1 + 1) c ([] ++ q.2.2) := hYa.put (Or.inr (Or.inr ⟨rfl, rfl⟩))
        have hda : Nm (gI (adv v) 167 26) (ar + 1) := by rw [show gI (adv v) 167 26 = gI v 167 26 from g_nk _ _ _ (by decide)]; exact hd
        have hWb : Wts u (sI (adv v) 167 26 (gI (adv v) 167 26 - 1)) (ar + 1) := fun d hdd => by
          rw [g_ne _ _ _ _ (by decide), g_ne _ _ _ _ (by decide), show gI (adv v) 187 d = gI v 187 d from g_ne _ _ _ _ (by decide), show gI (adv v) 188 d = gI v 188 d from g_ne _ _ _ _ (by decide)]
          exact ⟨(hW d hdd).1.trans (hW1 d hdd).1, (hW d hdd).2.trans (hW1 d hdd).2⟩
        refine tail (sI (adv v) 167 26 (gI (adv v) 167 26 - 1)) g m' (by rw [e]) (by rw [e]; show i < q.2.1 + 1; omega) (by rw [e]; exact hlt2) (by rw [e]; show q.2.2.length + i ≤ q.2.1 + 1; omega) ?_ ?_ ?_ (fun d hdd => hWb d (by omega)) (by rw [e]; show tL E + 1 < m' + (q.2.1 + 1); omega) (by rw [e]; show tL E + 1 < g + (q.2.1 + 1); omega)
        · rw [e5, e1, B_X12_goesOn_179, if_neg (fun e => by have := (hd.eq nm0).mp e; omega), bS (r_takeSign_t hY.1 (c := 41) (t := 5) (x := 41) (by decide) (Eq.refl _) h5)]
        · rw [e]
          refine ⟨hYb.1, ?_, ?_, ?_, ?_⟩
          · rw [g_same]; exact hda.pred
          · rw [(hWb ar (by omega)).1]; exact hQ.2.2.1
          · rw [(hWb ar (by omega)).2]; exact hQ.2.2.2.1
          · exact hYb.2.1
        · rw [e]; exact hYb
      · obtain ⟨m', g, v, e1, b1, b2, hY, hd, hW⟩ := hI.2 h0
        have hqf := hq'.1 h0
        have hx : RX (wr E 1 q.2.1 v) := hY.1.bad (by decide) (by decide)
        have hx2 : RX (sI (wr E 1 q.2.1 v) 167 26 (gI (wr E 1 q.2.1 v) 167 26 - 1)) := hx.put (Or.inr (by decide))
        have hp0 : p.1 ≠ 0 := by rw [e]; exact ne1
        have hres' : res = (1, q.2.1, []) := by
          rcases hr with ⟨_, e'⟩ | ⟨h0, _⟩ | ⟨h0, _⟩
          · rw [e', e]
          · exact absurd h0 hp0
          · exact absurd h0 hp0
        rw [e5, e1, B_X12_goesOn_179, if_neg (fun e => by have := (hd.eq nm0).mp e; omega), bS (r_takeSign_f hY.1 (c := 41) (t := 5) (x := 41) (by decide) (Eq.refl _) h5)]
        dsimp only
        rw [bS (rG_x (by omega) hx2), rK_0, r6_0 (by omega), hres']
        refine ⟨fun _ => ⟨_, rfl, ?_, ⟨c + q.2.2.length, ?_, ?_⟩, fun k hk => ?_⟩, fun h => absurd h ne1⟩
        · rw [g_nk _ _ _ (by decide)]; exact g_same _ _ _ _
        · rw [g_ne _ _ _ _ (by decide), show gI (wr E 1 q.2.1 v) 184 7 = gI v 184 7 from g_ne _ _ _ _ (by decide)]; exact hY.2.1
        · have := hqf.2.2.1
          have e0 : (jcode 0).length = 0 := Eq.refl _
          have e00 : (ccode 0).length = 0 := Eq.refl _
          omega
        · rw [g_ne _ _ _ _ (by decide), g_ne _ _ _ _ (by decide), show gI (wr E 1 q.2.1 v) 182 k = gI v 182 k from g_ne _ _ _ _ (by decide), show gI (wr E 1 q.2.1 v) 183 k = gI v 183 k from g_ne _ _ _ _ (by decide)]
          exact (hY1.trans hY).2.2.1 k hk
      · have hp0 : p.1 ≠ 0 := by rw [e]; exact h0
        have hres' : res = q := by
          rcases hr with ⟨_, e'⟩ | ⟨h0, _⟩ | ⟨h0, _⟩
          · rw [e', e]
          · exact absurd h0 hp0
          · exact absurd h0 hp0
        obtain ⟨v, e1, hF⟩ := hI.1 h0
        rw [e5, e1, hres']
        refine ⟨fun _ => ⟨v, rfl, hF.1, hF.2.1, fun k hk => ?_⟩, fun h => absurd h h0⟩
        have h1 := hF.2.2 k hk
        have h2 := hY1.2.2.1 k hk
        exact ⟨h1.1.trans h2.1, h1.2.trans h2.2⟩
    · have hlt := hE.lt hi (bpart_ne hb)
      obtain ⟨f0, hf0⟩ : ∃ f0, f = f0 + 1 := ⟨f - 1, by omega⟩
      have go : ∀ w, F_X12_part f u = some (0, w) → RY E u w (i + 1) c p.2.2 → Nm (gI w 167 26) ar → gI w 187 ar = gI u 187 ar → gI w 188 ar = gI u 188 ar → Wts u w ar →
          (res.1 ≠ 0 → ∃ v, ((F_X12_part f u).bind fun r5 => if r5.1 = 0 then (F_X12_goesOn f r5.2).bind (rK f m) else B_X12_expression_6 f m 1 r5.2) = some v ∧ RFt E u v c B res.1 res.2.1) ∧ (res.1 = 0 → RGo f E (m + 1) ar c u res) := by
        intro w hpw hY hd h187 h188 hW
        refine tail w f0 m (by rw [e]) (by rw [e]; exact Nat.lt_succ_self i) (by rw [e]; exact hlt) (by rw [e]; show 1 + i ≤ i + 1; omega) ?_ ?_ ?_ hW (by rw [e]; show tL E + 1 < m + (i + 1); omega) (by rw [e]; show tL E + 1 < f0 + (i + 1); omega)
        · rw [bS hpw]
          dsimp only
          rw [if_pos (Eq.refl _), F_X12_goesOn, ← hf0]
        · rw [e] at hY ⊢
          exact ⟨hY.1, hd, by rw [h187]; exact hQ.2.2.1, by rw [h188]; exact hQ.2.2.2.1, hY.2.1⟩
        · rw [e] at hY ⊢; exact hY
      by_cases h3 : tT E i = 3
      · have hv0 := hE.2.2.2.2.1 i hi h3
        have ho : remit 1 (tV E i) u = remit (opo (tV E i)) (ono (tV E i)) u := by rw [opo, if_pos hv0.1, ono, if_pos hv0.1]
        refine go (adv (remit (opo (tV E i)) (ono (tV E i)) u)) ?_ ?_ ?_ ?_ ?_ (fun d hdd => ⟨?_, ?_⟩)
        · rw [r_part_num hQ.1 h3 hQ.2.1 ha hQ.2.2.2.2 (by omega), ho]
        · rw [e, if_pos h3]; exact (RY_emit hQ.1 hQ.2.2.2.2 (by omega)).next hlt
        · rw [show gI (adv (remit (opo (tV E i)) (ono (tV E i)) u)) 167 26 = gI u 167 26 from (g_nk _ _ _ (by decide)).trans (remit_ne (by decide) (by decide) (by decide))]; exact hQ.2.1
        · exact (g_ne _ _ _ _ (by decide)).trans (remit_ne (by decide) (by decide) (by decide))
        · exact (g_ne _ _ _ _ (by decide)).trans (remit_ne (by decide) (by decide) (by decide))
        · exact (g_ne _ _ _ _ (by decide)).trans (remit_ne (by decide) (by decide) (by decide))
        · exact (g_ne _ _ _ _ (by decide)).trans (remit_ne (by decide) (by decide) (by decide))
      · have h34 := (hE.2.2.2.1 i hi).2
        have htp : -6 < (tcode (tT E i)).toInt ∧ (tcode (tT E i)).toInt < 0 := tc_pt (tT E i) (by omega) hb h3 h4
        have ho : opo (tcode (tT E i)) = 2 := by rw [opo, if_neg (by omega), if_pos htp.1]
        have hca : Nm (gI (adv u) 184 7) c := by rw [show gI (adv u) 184 7 = gI u 184 7 from g_ne _ _ _ _ (by decide)]; exact hQ.2.2.2.2
        refine go (remit 2 (ono (tcode (tT E i))) (adv u)) ?_ ?_ ?_ ?_ ?_ (fun d hdd => ⟨?_, ?_⟩)
        · rw [r_part_word hQ.1 hb h3 h4 hQ.2.1 ha hQ.2.2.2.2 (by omega)]
        · rw [e, if_neg h3, ← ho]
          exact ((RY.rfl hQ.1 hQ.2.2.2.2).next hlt).trans (l := []) (RY_emit (hQ.1.next hlt) hca (show c < 1300 by omega))
        · rw [remit_ne (by decide) (by decide) (by decide), show gI (adv u) 167 26 = gI u 167 26 from g_nk _ _ _ (by decide)]; exact hQ.2.1
        · exact (remit_ne (by decide) (by decide) (by decide)).trans (g_ne _ _ _ _ (by decide))
        · exact (remit_ne (by decide) (by decide) (by decide)).trans (g_ne _ _ _ _ (by decide))
        · exact (remit_ne (by decide) (by decide) (by decide)).trans (g_ne _ _ _ _ (by decide))
        · exact (remit_ne (by decide) (by decide) (by decide)).trans (g_ne _ _ _ _ (by decide))
/-- code(): an E and its end -/
theorem r_code {f : Nat} {E : ET} (hf : 1300 < f) {n i c B : Nat} {res : PR} {u : MT} (hres : pL E n 0 0 0 i = some res) (h : RS E i u) (hc : Nm (gI u 184 7) c) (hcB : c ≤ B + i) (hB : B ≤ 60) :
    ∃ v, F_X12_code f u = some (gI u 184 7, v) ∧
      (res.1 ≠ 0 → gI v 167 8 = flt E (Int32.ofNat res.1) res.2.1 ∧ (∃ c', Nm (gI v 184 7) c' ∧ c' ≤ B + tL E + 1) ∧ ∀ k, k < 9100 → gI v 182 k = gI u 182 k ∧ gI v 183 k = gI u 183 k) ∧
      (res.1 = 0 → RS E res.2.1 v ∧ Nm (gI v 184 7) (c + res.2.2.length + 1) ∧ (∀ k, k < 9100 + c → gI v 182 k = gI u 182 k ∧ gI v 183 k = gI u 183 k) ∧ (∀ k, k < res.2.2.length → gI v 182 (9100 + c + k) = opo (res.2.2.getD k 0) ∧ gI v 183 (9100 + c + k) = ono (res.2.2.getD k 0)) ∧ gI v 182 (9100 + c + res.2.2.length) = 0) := by
  have hL := h.2.1.1
  have hi := h.2.2.2.2
  have hd0 : Nm (gI (sI u 167 26 0) 167 26) 0 := by rw [g_same]; exact nm0
  have hop : F_X12_opens f (sI u 167 26 0) = some (sI (sI (sI u 167 26 0) 187 0 0) 188 0 0) := by
    rw [F_X12_opens, ck_p (hd0.ix (by omega)), hd0.nat]
    dsimp only
    rw [g_ne _ _ _ _ (show (167 : Nat) ≠ 187 by decide), ck_p (hd0.ix (by omega)), hd0.nat]
  have hS1 : RS E i (sI (sI (sI u 167 26 0) 187 0 0) 188 0 0) := ((h.put (by decide) (by decide) (Or.inr (by decide))).put (by decide) (by decide) (Or.inl (by decide))).put (by decide) (by decide) (Or.inl (by decide))
  have hQ : RQ E 0 0 0 i c (sI (sI (sI u 167 26 0) 187 0 0) 188 0 0) := by
    refine ⟨hS1, ?_, ?_, ?_, ?_⟩
    · rw [g_ne _ _ _ _ (by decide), g_ne _ _ _ _ (by decide)]; exact hd0
    · rw [g_ne _ _ _ _ (by decide), g_same]; rfl
    · rw [g_same]; rfl
    · rw [g_ne _ _ _ _ (by decide), g_ne _ _ _ _ (by decide), g_ne _ _ _ _ (by decide)]; exact hc
  have hpre : ∀ k, gI (sI (sI (sI u 167 26 0) 187 0 0) 188 0 0) 182 k = gI u 182 k ∧ gI (sI (sI (sI u 167 26 0) 187 0 0) 188 0 0) 183 k = gI u 183 k := fun k => by
    constructor
    · rw [g_ne _ _ _ _ (by decide), g_ne _ _ _ _ (by decide), g_ne _ _ _ _ (by decide)]
    · rw [g_ne _ _ _ _ (by decide), g_ne _ _ _ _ (by decide), g_ne _ _ _ _ (by decide)]
  have hI := r_E hf n 0 0 0 i res hres f _ c B (by omega) hQ (by omega) (by show c + 0 + 0 ≤ B + i; omega) hB (Or.inl (Eq.refl _)) (Or.inl (Eq.refl _))
  have hfar := pL_far h.2.1 _ _ _ _ _ _ hres hi
  by_cases h0 : res.1 = 0
  · obtain ⟨m', g, v, e1, b1, b2, hY, hd, hW⟩ := hI.2 h0
    have hff := hfar.1 h0
    have e0 : (jcode 0).length = 0 := Eq.refl _
    have e00 : (ccode 0).length = 0 := Eq.refl _
    have e2 : B_X12_expression_6 f f 1 (sI (sI (sI u 167 26 0) 187 0 0) 188 0 0) = some v := by
      rw [e1, B_X12_goesOn_179, if_pos ((hd.eq nm0).mpr rfl), Option.bind_some, rK_0, r6_0 (by omega)]
    refine ⟨remit 0 0 v, ?_, fun h => absurd h0 h, fun _ => ⟨?_, ?_, fun k hk => ?_, fun k hk => ?_, ?_⟩⟩
    · rw [F_X12_code, F_X12_expression, bS hop, bS e2, bS (r_emit hY.2.1 (by omega))]
    · exact ((hY.1.put (by decide) (by decide) (Or.inl (by decide))).put (by decide) (by decide) (Or.inl (by decide))).put (by decide) (by decide) (Or.inl (by decide))
    · show Nm (gI (sI _ 184 7 _) 184 7) _
      rw [g_same]; exact hY.2.1.succ (by omega)
    · rw [remit, hY.2.1.nat]
      have h1 := hY.2.2.1 k hk
      have h2 := hpre k
      constructor
      · rw [g_ne _ _ _ _ (by decide), g_ne _ _ _ _ (by decide), g_nk _ _ _ (by omega)]; exact h1.1.trans h2.1
      · rw [g_ne _ _ _ _ (by decide), g_nk _ _ _ (by omega), g_ne _ _ _ _ (by decide)]; exact h1.2.trans h2.2
    · rw [remit, hY.2.1.nat]
      have h1 := hY.2.2.2 k hk
      constructor
      · rw [g_ne _ _ _ _ (by decide), g_ne _ _ _ _ (by decide), g_nk _ _ _ (by omega)]; exact h1.1
      · rw [g_ne _ _ _ _ (by decide), g_nk _ _ _ (by omega), g_ne _ _ _ _ (by decide)]; exact h1.2
    · rw [remit, hY.2.1.nat, g_ne _ _ _ _ (by decide), g_ne _ _ _ _ (by decide), Nat.add_assoc]; exact g_same _ _ _ _
  · obtain ⟨v, e1, hF, ⟨c', hc', hcb⟩, hpr⟩ := hI.1 h0
    refine ⟨remit 0 0 v, ?_, fun _ => ⟨?_, ⟨c' + 1, ?_, by omega⟩, fun k hk => ?_⟩, fun h => absurd h h0⟩
    · rw [F_X12_code, F_X12_expression, bS hop, bS e1, bS (r_emit hc' (by omega))]
    · rw [remit_ne (by decide) (by decide) (by decide)]; exact hF
    · show Nm (gI (sI _ 184 7 _) 184 7) _
      rw [g_same]; exact hc'.succ (by omega)
    · rw [remit, hc'.nat]
      have h1 := hpr k (by omega)
      have h2 := hpre k
      constructor
      · rw [g_ne _ _ _ _ (by decide), g_ne _ _ _ _ (by decide), g_nk _ _ _ (by omega)]; exact h1.1.trans h2.1
      · rw [g_ne _ _ _ _ (by decide), g_nk _ _ _ (by omega), g_ne _ _ _ _ (by decide)]; exact h1.2.trans h2.2
