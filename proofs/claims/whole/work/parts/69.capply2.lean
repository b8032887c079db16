/-! ===== the class: a RULE runs, whole ===== -/
section
variable {f : Nat} {s : QS} {n q : Nat}
theorem WV.val {u v : MT} (h : WV u s n q) (hF : Fr wI_X10_value [] [] u v) : WV v s n q :=
  h.fr (hF.1 _ _ (by simp [nin, wI_X10_value])) (hF.1 _ _ (by simp [nin, wI_X10_value])) (hF.1 _ _ (by simp [nin, wI_X10_value])) (hF.1 _ _ (by simp [nin, wI_X10_value])) (fun a h1 h2 k => hF.1 _ _ (by simp [nin, wI_X10_value] <;> omega)) (fun k => hF.1 _ _ (by simp [nin, wI_X10_value]))
theorem c_amount {u : MT} {tx a : Nat} {x : Int32} {l : List Int32} (hf : 1300 < f) (hW : WV u s n q) (htx : 128 ≤ tx) (hl : codeOk l) (hc : ∃ s0, Nm (gI u a 3) s0 ∧ Nm (gI u a 4) (s0 + l.length) ∧ s0 + l.length ≤ 1200 ∧ segC u tx s0 l) :
    Ok (F_X10_amount f tx a x u) (fun r => r.1 = amt s n q l x ∧ Fr wI_X10_value [] [] u r.2) := by
  obtain ⟨s0, h1, h2, h3, h4⟩ := hc
  rw [F_X10_amount]
  by_cases he : l = []
  · subst he
    refine Ok.t ((h2.eq h1).mpr rfl) (Ok.some ⟨(if_pos rfl).symm, Fr_rfl⟩)
  · have hlen : l.length ≠ 0 := fun e => he (List.eq_nil_of_length_eq_zero e)
    obtain ⟨r, er, hr⟩ := c_val (f := f) hf (show 128 ≤ tx + 2 by omega) hW hl he h1 h2 rfl h3 h4
    have hF := fr_F_X10_value er
    refine Ok.f (fun e => by have := (h2.eq h1).mp e; omega) (Ok.bindE er (Ok.some ⟨?_, hF⟩))
    unfold amt
    rw [if_neg he, hr]
theorem c_fill {u : MT} {cap x x2 : Int32} (hW : WV u s n q) (hcap : gI u 116 1 = cap) : ∃ r, F_X10_fill f x x2 u = some r ∧ WV r (fil s cap x) n q ∧ WA x2 n u s r (fil s cap x) := by
  obtain ⟨b1, b2, b3, b4, b5, b6, b7, b8⟩ := hW
  rw [F_X10_fill]
  dsimp only
  rw [hcap, b2]
  generalize hv : (if cap - qS s < x then cap - qS s else x) = y
  have e5 : gI (sI u 116 4 (gI u 116 4 - y)) 116 5 = qS s := by rw [g_nk _ _ _ (by decide)]; exact b2
  rw [e5]
  have e2 : gI (sI (sI u 116 4 (gI u 116 4 - y)) 116 5 (qS s + y)) 127 2 = qF s := by rw [g_ne _ _ _ _ (by decide), g_ne _ _ _ _ (by decide)]; exact b3
  rw [e2]
  have gg : ∀ a k, (a ≠ 116 ∨ (k ≠ 4 ∧ k ≠ 5)) → (a ≠ 127 ∨ k ≠ 2) → gI (sI (sI (sI u 116 4 (gI u 116 4 - y)) 116 5 (qS s + y)) 127 2 (qF s + y)) a k = gI u a k := fun a k h1 h2 => by
    by_cases ea : a = 127
    · subst ea
      rw [g_nk _ _ _ (h2.resolve_left (fun e => e rfl)), g_ne _ _ _ _ (by decide), g_ne _ _ _ _ (by decide)]
    · rw [g_ne _ _ _ _ ea]
      by_cases eb : a = 116
      · subst eb
        have := h1.resolve_left (fun e => e rfl)
        rw [g_nk _ _ _ this.2, g_nk _ _ _ this.1]
      · rw [g_ne _ _ _ _ eb, g_ne _ _ _ _ eb]
  have hfil : fil s cap x = (qP s - y, qS s + y, qF s + y, qW s, qL s, qH s, qA s, qB s, qR s) := by unfold fil; rw [hv]
  rw [hfil]
  have hWn : ∀ w : MT, (∀ a k, (a ≠ 116 ∨ k ≠ 17) → gI w a k = gI (sI (sI (sI u 116 4 (gI u 116 4 - y)) 116 5 (qS s + y)) 127 2 (qF s + y)) a k) → WV w (qP s - y, qS s + y, qF s + y, qW s, qL s, qH s, qA s, qB s, qR s) n q := fun w hw => by
    refine ⟨?_, ?_, ?_, fun h hh => ?_, fun k hk => ?_, ?_, ?_, b8⟩
    · rw [hw _ _ (Or.inr (by decide)), g_ne _ _ _ _ (by decide), g_nk _ _ _ (by decide), g_same, b1]; rfl
    · rw [hw _ _ (Or.inr (by decide)), g_ne _ _ _ _ (by decide), g_same]; rfl
    · rw [hw _ _ (Or.inl (by decide)), g_same]; rfl
    · rw [hw _ _ (Or.inl (by decide)), hw _ _ (Or.inl (by decide)), hw _ _ (Or.inl (by decide)), hw _ _ (Or.inl (by decide)), hw _ _ (Or.inl (by decide)), gg _ _ (Or.inl (by decide)) (Or.inl (by decide)), gg _ _ (Or.inl (by decide)) (Or.inl (by decide)), gg _ _ (Or.inl (by decide)) (Or.inl (by decide)), gg _ _ (Or.inl (by decide)) (Or.inl (by decide)), gg _ _ (Or.inl (by decide)) (Or.inl (by decide))]
      exact b4 h hh
    · rw [hw _ _ (Or.inl (by decide)), gg _ _ (Or.inl (by decide)) (Or.inr (by omega))]; exact b5 k hk
    · rw [hw _ _ (Or.inr (by decide)), gg _ _ (Or.inr (by decide)) (Or.inl (by decide))]; exact b6
    · rw [hw _ _ (Or.inl (by decide)), gg _ _ (Or.inl (by decide)) (Or.inl (by decide))]; exact b7
  have e16 : gI (sI (sI (sI u 116 4 (gI u 116 4 - y)) 116 5 (qS s + y)) 127 2 (qF s + y)) 116 16 = gI u 116 16 := gg _ _ (Or.inr (by decide)) (Or.inl (by decide))
  have e126 : ∀ k, gI (sI (sI (sI u 116 4 (gI u 116 4 - y)) 116 5 (qS s + y)) 127 2 (qF s + y)) 126 k = gI u 126 k := fun k => gg _ _ (Or.inl (by decide)) (Or.inl (by decide))
  rw [e16]
  by_cases hw : x2 = gI u 116 16
  · rw [if_pos hw]
    refine ⟨_, rfl, hWn _ (fun a k h => ?_), ⟨(g_nk _ _ _ (by decide)).trans e16, fun _ k _ => ?_, fun e => absurd hw e⟩, fun _ _ => ?_, fun e => absurd hw e⟩
    · by_cases ea : a = 116
      · subst ea; exact g_nk _ _ _ (h.resolve_left (fun e => e rfl))
      · exact g_ne _ _ _ _ ea
    · rw [g_ne _ _ _ _ (by decide), e126]; rfl
    · rw [g_same]; show y = (qF s + y) - qF s; grind
  · rw [if_neg hw]
    exact ⟨_, rfl, hWn _ (fun a k _ => rfl), ⟨e16, fun e => absurd e hw, fun _ k _ => e126 k⟩, fun e => absurd e hw, fun _ => gg _ _ (Or.inr (by decide)) (Or.inl (by decide))⟩
/-- what a RULE's text has to do with the abstract one -/
theorem c_apply {u : MT} {tx i c how : Nat} {x2 cap : Int32} {sh : Nat → Int32} {rl : AR} {hn : Int} (hf : 1300 < f) (hW : WV u s n q) (htx : 128 ≤ tx) (hi : i < 24) (hx2 : Nm x2 i) (hsh : ∀ h, h < n → gI u 102 h = sh h) (hcap : gI u 116 1 = cap) (hhow : gK u tx 2 = how) (hh34 : how ≤ 34) (hR : CR u tx (tx + 3 + i) c rl) (hc : c ≤ 1200) (hV : RV hn rl) :
    Ok (F_X10_apply f tx x2 u) (fun r => WV r (rul s n q sh cap how rl) n q ∧ WA x2 n u s r (rul s n q sh cap how rl)) := by
  obtain ⟨⟨s0, w1, w2, w3, w4⟩, k0, k19, kam, k17⟩ := hR
  obtain ⟨v0, vw, va, v19, v17⟩ := hV
  -- behind the when
  have act : ∀ v : MT, Fr wI_X10_value [] [] u v → ¬ (rWhen rl ≠ [] ∧ evv s n q (rWhen rl) = 0) → Ok (B_X10_apply_35 f tx x2 (tx + 3 + i) v) (fun r => WV r (rul s n q sh cap how rl) n q ∧ WA x2 n u s r (rul s n q sh cap how rl)) := by
    intro v hF hnw
    have gI' : ∀ a k, a ≠ 125 → gI v a k = gI u a k := fun a k ha => hF.1 a k (by simp only [nin, wI_X10_value]; exact ⟨fun e1 e2 => absurd (show a = 125 by omega) ha, trivial⟩)
    have gK' : ∀ a k, gK v a k = gK u a k := fun a k => hF.2.2 a k trivial
    have hv := hW.val hF
    have hD : WA x2 n u s v s := ⟨⟨gI' _ _ (by decide), fun _ k _ => by rw [gI' _ _ (by decide)], fun _ k _ => gI' _ _ (by decide)⟩, fun _ e0 => by rw [gI' _ _ (by decide), e0]; grind, fun _ => gI' _ _ (by decide)⟩
    have tr : ∀ (r : MT) (s' : QS), WA x2 n v s r s' → WA x2 n u s r s' := fun r s' h => ⟨hD.1.trans h.1, fun e e0 => by rw [h.2.1 (e.trans hD.1.1.symm) (by rw [gI' _ _ (by decide)]; exact e0)], fun e => by rw [h.2.2 (fun e' => e (e'.trans hD.1.1)), gI' _ _ (by decide)]⟩
    have hseg : ∀ s1 l, segC u tx s1 l → segC v tx s1 l := fun s1 l h k hk => by rw [gI' _ _ (by omega)]; exact h k hk
    rw [B_X10_apply_35, gK', k0]
    refine Ok.ck (by omega) ?_
    have er : rul s n q sh cap how rl = (if rAct rl = 19 then prc s (rPri rl - 10) (rNum rl) else if rAct rl = 18 then fil s cap (amt s n q (rAmt rl) (qP s)) else giv s n q sh how rl (amt s n q (rAmt rl) (if rSrc rl = 9 then qP s else qS s))) := if_neg hnw
    rw [er]
    refine Ok.ite (fun h19 => ?_) (fun h19 => ?_)
    · obtain ⟨p1, p2⟩ := k19 h19
      have hp := v19 h19
      rw [if_pos h19, gI' _ _ (by omega), gI' _ _ (by omega), p2]
      refine Ok.ck (p1.ix (by omega)) (Ok.some ?_)
      rw [p1.nat]
      obtain ⟨b1, b2, b3, b4, b5, b6, b7, b8⟩ := hv
      refine ⟨⟨?_, ?_, ?_, fun h hh => ?_, fun k hk => ?_, ?_, ?_, b8⟩, tr _ _ ⟨⟨g_ne _ _ _ _ (by decide), fun _ k _ => ?_, fun _ k _ => g_ne _ _ _ _ (by decide)⟩, fun _ e0 => ?_, fun _ => g_ne _ _ _ _ (by decide)⟩⟩
      · rw [g_ne _ _ _ _ (by decide)]; exact b1
      · rw [g_ne _ _ _ _ (by decide)]; exact b2
      · rw [g_nk _ _ _ (by omega)]; exact b3
      · rw [g_ne _ _ _ _ (by decide), g_ne _ _ _ _ (by decide), g_ne _ _ _ _ (by decide), g_ne _ _ _ _ (by decide), g_ne _ _ _ _ (by decide)]; exact b4 h hh
      · rw [g_at]
        show _ = upf (qR s) (rPri rl - 10) (rNum rl) k
        unfold upf
        by_cases e : k = rPri rl - 10
        · rw [if_pos (by omega), if_pos e]
        · rw [if_neg (by omega), if_neg e]; exact b5 k hk
      · rw [g_ne _ _ _ _ (by decide)]; exact b6
      · rw [g_ne _ _ _ _ (by decide)]; exact b7
      · rw [g_ne _ _ _ _ (by decide)]; rfl
      · rw [g_ne _ _ _ _ (by decide), e0]; show (0 : Int32) = qF s - qF s; grind
    · obtain ⟨s1, m1, m2, m3, m4⟩ := kam h19
      have hcm : ∃ s0, Nm (gI v (tx + 3 + i) 3) s0 ∧ Nm (gI v (tx + 3 + i) 4) (s0 + (rAmt rl).length) ∧ s0 + (rAmt rl).length ≤ 1200 ∧ segC v tx s0 (rAmt rl) := ⟨s1, by rw [gI' _ _ (by omega)]; exact m1, by rw [gI' _ _ (by omega)]; exact m2, by omega, hseg s1 _ m4⟩
      rw [if_neg h19]
      refine Ok.ite (fun h18 => ?_) (fun h18 => ?_)
      · rw [if_pos h18, hv.1]
        obtain ⟨r, er', r1, r2⟩ := c_amount (f := f) (x := qP s) hf hv htx va hcm
        refine Ok.bindE er' ?_
        rw [r1]
        have hr := hv.val r2
        have gI2 : ∀ a k, a ≠ 125 → gI r.2 a k = gI v a k := fun a k ha => r2.1 a k (by simp only [nin, wI_X10_value]; exact ⟨fun e1 e2 => absurd (show a = 125 by omega) ha, trivial⟩)
        obtain ⟨z, ez, z1, z2⟩ := c_fill (f := f) (x := amt s n q (rAmt rl) (qP s)) (x2 := x2) hr (cap := cap) (by rw [gI2 _ _ (by decide), gI' _ _ (by decide)]; exact hcap)
        refine Ok.bindE ez (Ok.some ⟨z1, tr _ _ ⟨⟨z2.1.1.trans (gI2 _ _ (by decide)), fun e k hk => ?_, fun e k hk => ?_⟩, fun e e0 => ?_, fun e => ?_⟩⟩)
        · rw [z2.1.2.1 (by rw [gI2 _ _ (by decide)]; exact e) k hk, gI2 _ _ (by decide)]
        · rw [z2.1.2.2 (by rw [gI2 _ _ (by decide)]; exact e) k hk, gI2 _ _ (by decide)]
        · exact z2.2.1 (by rw [gI2 _ _ (by decide)]; exact e) (by rw [gI2 _ _ (by decide)]; exact e0)
        · rw [z2.2.2 (by rw [gI2 _ _ (by decide)]; exact e), gI2 _ _ (by decide)]
      · have h17 : rAct rl = 17 := by omega
        obtain ⟨y1, y2, y3, y4⟩ := k17 h17
        obtain ⟨g1, g2, g3, g4⟩ := v17 h17
        rw [if_neg h18]
        have hs34 : rSrc rl ≤ 34 := by omega
        have hw34 : rWho rl ≤ 34 := by omega
        have go : ∀ x : Int32, Ok (B_X10_apply_116 f x (tx + 3 + i) tx x2 tx v) (fun r => WV r (giv s n q sh how rl (amt s n q (rAmt rl) x)) n q ∧ WA x2 n u s r (giv s n q sh how rl (amt s n q (rAmt rl) x))) := by
          intro x
          rw [B_X10_apply_116]
          obtain ⟨r, er', r1, r2⟩ := c_amount (f := f) (x := x) hf hv htx va hcm
          refine Ok.bindE er' ?_
          rw [r1]
          have hr := hv.val r2
          have gI2 : ∀ a k, a ≠ 125 → gI r.2 a k = gI v a k := fun a k ha => r2.1 a k (by simp only [nin, wI_X10_value]; exact ⟨fun e1 e2 => absurd (show a = 125 by omega) ha, trivial⟩)
          have gK2 : ∀ a k, gK r.2 a k = gK u a k := fun a k => (r2.2.2 a k trivial).trans (gK' a k)
          obtain ⟨z, ez, z1, z2⟩ := c_give (f := f) (a := amt s n q (rAmt rl) x) (rl := rl) (sh := sh) (how := how) hf hr htx hi hx2 (fun h hh => by rw [gI2 _ _ (by decide), gI' _ _ (by decide)]; exact hsh h hh) (by rw [gK2]; exact hhow) hh34 (by rw [gK2]; exact y1) (by rw [gK2]; exact y2) (by rw [gK2]; exact y3) (fun hne => by rw [gI2 _ _ (by omega), gI' _ _ (by omega)]; exact y4 hne) hs34 hw34 (by omega)
          have hfz := fr_F_X10_give ez
          have hqF : qF (giv s n q sh how rl (amt s n q (rAmt rl) x)) = qF s := by
            rw [← z1.2.2.1, hfz.1 127 2 (by simp [nin, wI_X10_give])]; exact hr.2.2.1
          refine Ok.bindE ez (Ok.some ⟨z1, tr _ _ ⟨⟨z2.1.trans (gI2 _ _ (by decide)), fun e k hk => ?_, fun e k hk => ?_⟩, fun e e0 => ?_, fun e => ?_⟩⟩)
          · rw [z2.2.1 (by rw [gI2 _ _ (by decide)]; exact e) k hk, gI2 _ _ (by decide)]
          · rw [z2.2.2 (by rw [gI2 _ _ (by decide)]; exact e) k hk, gI2 _ _ (by decide)]
          · rw [hfz.1 116 17 (by simp [nin, wI_X10_give]), gI2 _ _ (by decide), e0, hqF]; grind
          · rw [hfz.1 116 17 (by simp [nin, wI_X10_give]), gI2 _ _ (by decide)]
        rw [gK', y1]
        refine Ok.ck hs34 (Ok.ite (fun h9 => ?_) (fun h9 => ?_))
        · rw [if_pos h9, hv.1]; exact go _
        · rw [if_neg h9, hv.2.1]; exact go _
  rw [F_X10_apply]
  refine Ok.ck (hx2.ix hi) ?_
  rw [hx2.nat]
  by_cases he : rWhen rl = []
  · rw [he] at w2
    refine Ok.t ((w2.le w1).mpr (Nat.le_refl _)) (act u Fr_rfl (fun e => e.1 he))
  · have hlen : (rWhen rl).length ≠ 0 := fun e => he (List.eq_nil_of_length_eq_zero e)
    refine Ok.f (fun e => by have := (w2.le w1).mp e; omega) ?_
    obtain ⟨r, er, hr⟩ := c_val (f := f) hf (show 128 ≤ tx + 2 by omega) hW vw he w1 w2 rfl (by omega) w4
    have hF := fr_F_X10_value er
    refine Ok.bindE er ?_
    rw [hr]
    refine Ok.ite (fun h0 => Ok.some ?_) (fun h0 => act r.2 hF (fun e => h0 e.2))
    rw [show rul s n q sh cap how rl = s from if_pos ⟨he, h0⟩]
    have gI' : ∀ a k, a ≠ 125 → gI r.2 a k = gI u a k := fun a k ha => hF.1 a k (by simp only [nin, wI_X10_value]; exact ⟨fun e1 e2 => absurd (show a = 125 by omega) ha, trivial⟩)
    exact ⟨hW.val hF, ⟨gI' _ _ (by decide), fun _ k _ => by rw [gI' _ _ (by decide)], fun _ k _ => gI' _ _ (by decide)⟩, fun _ e0 => by rw [gI' _ _ (by decide), e0]; grind, fun _ => gI' _ _ (by decide)⟩
end
