/-! ===== the reference: a RULE runs ===== -/
def BA (k n : Nat) (u : MT) (s : QS) (r : MT) (s' : QS) : Prop := (∀ h, h < n → gI r 209 (13 * k + h) - qH s' h = gI u 209 (13 * k + h) - qH s h) ∧ (gI u 209 (13 * k + 12) = 0 → gI r 209 (13 * k + 12) = qF s' - qF s) ∧ ∀ j, (j < 13 * k ∨ 13 * k + 13 ≤ j) → gI r 209 j = gI u 209 j
section
variable {f : Nat} {s : QS} {n q : Nat}
theorem XV.wor {u v : MT} (h : XV u s n q) (hF : Fr wI_X12_worth [] [] u v) : XV v s n q :=
  h.fr (fun k _ => hF.1 _ _ (by simp [nin, wI_X12_worth])) (fun a ha k => hF.1 _ _ (by simp [nin, wI_X12_worth] <;> omega))
theorem amt_ref {l : List Int32} {x has : Int32} (h0 : 0 ≤ has.toInt) (hx : (l = [] → x = has) ∧ (l ≠ [] → x = evv s n q l)) : amt s n q l has = if 0 ≤ x then (if x ≤ has then x else has) else 0 := by
  have e0 : (0 : Int32).toInt = 0 := rfl
  unfold amt
  by_cases hl : l = []
  · rw [if_pos hl, hx.1 hl, if_pos (i_le.mpr (by rw [e0]; exact h0)), if_pos (i_le.mpr (Int.le_refl _))]
  · rw [if_neg hl, ← hx.2 hl]
    by_cases c1 : x < has
    · have c1' := i_lt.mp c1
      rw [if_pos c1]
      by_cases c2 : (0 : Int32) < x
      · have c2' := i_lt.mp c2
        rw [if_pos c2, if_pos (i_le.mpr (by omega)), if_pos (i_le.mpr (by omega))]
      · have c2' : ¬ (0 : Int) < x.toInt := fun e => c2 (i_lt.mpr (by rw [e0]; exact e))
        rw [if_neg c2]
        by_cases c3 : (0 : Int32) ≤ x
        · have c3' := i_le.mp c3
          rw [if_pos c3, if_pos (i_le.mpr (by omega))]
          exact Int32.toInt_inj.mp (by rw [e0]; omega)
        · rw [if_neg c3]
    · have c1' : ¬ x.toInt < has.toInt := fun e => c1 (i_lt.mpr e)
      rw [if_neg c1, if_pos (show (0 : Int32) ≤ x from i_le.mpr (by rw [e0]; omega))]
      have hr : (if x ≤ has then x else has) = has := by
        by_cases c3 : x ≤ has
        · have := i_le.mp c3
          rw [if_pos c3]; exact Int32.toInt_inj.mp (by omega)
        · rw [if_neg c3]
      rw [hr]
      by_cases c2 : (0 : Int32) < has
      · rw [if_pos c2]
      · have c2' : ¬ (0 : Int) < has.toInt := fun e => c2 (i_lt.mpr (by rw [e0]; exact e))
        rw [if_neg c2]
        exact Int32.toInt_inj.mp (by rw [e0]; omega)
theorem r_rule {u : MT} {t how k c : Nat} {x1 cap : Int32} {sh : Nat → Int32} {rl : AR} {hn : Int} (hf : 1300 < f) (hX : XV u s n q) (hQ : QI s n cap) (hcap : gI u 167 29 = cap) (ht : Nm (gI u 167 44) t) (ht7 : t ≤ 7) (hh : Nm (gI u 174 t) (how - 32)) (hhow : 32 ≤ how ∧ how ≤ 34) (hk : k < 24) (hx1 : Nm x1 k) (hsh : ∀ h, h < n → gI u 189 h = sh h) (hsh1 : ∀ h, h < n → 1 ≤ (sh h).toInt)
    (hR : RR u (1300 * t) (24 * t + k) c rl) (hc : c ≤ 1300) (hV : RV hn rl) :
    Ok (F_X12_rule f x1 u) (fun r => XV r (rul s n q sh cap how rl) n q ∧ BA k n u s r (rul s n q sh cap how rl)) := by
  have h12 := hX.n12
  obtain ⟨cw, k0, k19, kam, k17⟩ := hR
  obtain ⟨v0, vw, va, v19, v17⟩ := hV
  have hI : 24 * t + k < 192 := by omega
  have hx2 : Nm ((24 : Int32) * gI u 167 44 + x1) (24 * t + k) := Nm.add (Nm.mul (show Nm (24 : Int32) 24 from rfl) ht (by omega)) hx1 (by omega)
  have e0 : (0 : Int32).toInt = 0 := rfl
  -- behind the when
  have act : ∀ v : MT, Fr wI_X12_worth [] [] u v → ¬ (rWhen rl ≠ [] ∧ evv s n q (rWhen rl) = 0) → Ok (B_X12_rule_33 f x1 ((24 : Int32) * gI u 167 44 + x1) v) (fun r => XV r (rul s n q sh cap how rl) n q ∧ BA k n u s r (rul s n q sh cap how rl)) := by
    intro v hF hnw
    have g1 : ∀ a j, a ≠ 211 → gI v a j = gI u a j := fun a j ha => hF.1 a j (by simp only [nin, wI_X12_worth]; exact ⟨fun e1 e2 => absurd (show a = 211 by omega) ha, trivial⟩)
    have hv := hX.wor hF
    have hcod : ∀ x l, codR u (1300 * t) c x l → codR v (1300 * t) c x l := fun x l h => h.fr (Nat.le_refl _) (fun j _ => ⟨g1 _ _ (by decide), g1 _ _ (by decide)⟩)
    have er : rul s n q sh cap how rl = (if rAct rl = 19 then prc s (rPri rl - 10) (rNum rl) else if rAct rl = 18 then fil s cap (amt s n q (rAmt rl) (qP s)) else giv s n q sh how rl (amt s n q (rAmt rl) (if rSrc rl = 9 then qP s else qS s))) := if_neg hnw
    rw [er, B_X12_rule_33]
    refine Ok.ck (hx2.ix hI) ?_
    rw [hx2.nat, g1 _ _ (by decide), k0]
    by_cases h19 : rAct rl = 19
    · obtain ⟨p1, p2⟩ := k19 h19
      have hp := v19 h19
      rw [if_pos h19, g1 _ _ (by decide), g1 _ _ (by decide), p2]
      refine Ok.t (by rw [h19]; rfl) (Ok.ck (p1.ix (by omega)) (Ok.some ?_))
      rw [p1.nat]
      obtain ⟨b1, b2, b3, b4, b5, b6, b7, b8⟩ := hv
      refine ⟨⟨?_, ?_, ?_, fun h hh => ?_, fun j hj => ?_, ?_, ?_, b8⟩, fun h hh => ?_, fun e => ?_, fun j hj => ?_⟩
      · rw [g_ne _ _ _ _ (by decide)]; exact b1
      · rw [g_ne _ _ _ _ (by decide)]; exact b2
      · rw [g_ne _ _ _ _ (by decide)]; exact b3
      · rw [g_ne _ _ _ _ (by decide), g_ne _ _ _ _ (by decide), g_ne _ _ _ _ (by decide), g_ne _ _ _ _ (by decide), g_ne _ _ _ _ (by decide)]; exact b4 h hh
      · rw [g_at]
        show _ = upf (qR s) (rPri rl - 10) (rNum rl) j
        unfold upf
        by_cases e : j = rPri rl - 10
        · rw [if_pos e, if_pos e]
        · rw [if_neg e, if_neg e]; exact b5 j hj
      · rw [g_ne _ _ _ _ (by decide)]; exact b6
      · rw [g_ne _ _ _ _ (by decide)]; exact b7
      · rw [g_ne _ _ _ _ (by decide), g1 _ _ (by decide)]; rfl
      · rw [g_ne _ _ _ _ (by decide), g1 _ _ (by decide), e]; show (0 : Int32) = qF s - qF s; grind
      · rw [g_ne _ _ _ _ (by decide), g1 _ _ (by decide)]
    · have hca := hcod _ _ (kam h19)
      rw [if_neg h19]
      by_cases h18 : rAct rl = 18
      · rw [if_pos h18]
        refine Ok.f (by rw [h18]; decide) (Ok.t (by rw [h18]; rfl) ?_)
        rw [g1 _ _ (by decide)]
        -- the fill itself
        have fin : ∀ (w : MT) (x : Int32), Fr wI_X12_worth [] [] u w → ((rAmt rl = [] → x = qP s) ∧ (rAmt rl ≠ [] → x = evv s n q (rAmt rl))) → Ok (B_X12_rule_100 f x1 x w) (fun r => XV r (fil s cap (amt s n q (rAmt rl) (qP s))) n q ∧ BA k n u s r (fil s cap (amt s n q (rAmt rl) (qP s)))) := by
          intro w x hFw hx
          have g2 : ∀ a j, a ≠ 211 → gI w a j = gI u a j := fun a j ha => hFw.1 a j (by simp only [nin, wI_X12_worth]; exact ⟨fun e1 e2 => absurd (show a = 211 by omega) ha, trivial⟩)
          have hw := hX.wor hFw
          obtain ⟨b1, b2, b3, b4, b5, b6, b7, b8⟩ := hw
          obtain ⟨_, q1, q2, q3, q4, q5⟩ := hQ
          have ha := amt_ref (s := s) (n := n) (q := q) q1 hx
          have hcs : (cap - qS s).toInt = cap.toInt - (qS s).toInt := i_sub (by have := i_lo cap; omega) (by omega)
          have h13 : Nm ((13 : Int32) * x1 + 12) (13 * k + 12) := Nm.add (Nm.mul (show Nm (13 : Int32) 13 from rfl) hx1 (by omega)) (show Nm (12 : Int32) 12 from rfl) (by omega)
          have b154 : ∀ y : Int32, y = (if cap - qS s < amt s n q (rAmt rl) (qP s) then cap - qS s else amt s n q (rAmt rl) (qP s)) → Ok (B_X12_rule_154 f x1 y w) (fun r => XV r (fil s cap (amt s n q (rAmt rl) (qP s))) n q ∧ BA k n u s r (fil s cap (amt s n q (rAmt rl) (qP s)))) := by
            intro y hy
            have hfil : fil s cap (amt s n q (rAmt rl) (qP s)) = (qP s - y, qS s + y, qF s + y, qW s, qL s, qH s, qA s, qB s, qR s) := by unfold fil; rw [← hy]
            rw [hfil, B_X12_rule_154]
            refine Ok.ck (h13.ix (by omega)) (Ok.some ?_)
            rw [h13.nat]
            have gg : ∀ a j, a ≠ 209 → (a ≠ 167 ∨ (j ≠ 46 ∧ j ≠ 45 ∧ j ≠ 61)) → gI (sI (sI (sI (sI w 167 46 (gI w 167 46 - y)) 167 45 (gI (sI w 167 46 (gI w 167 46 - y)) 167 45 + y)) 167 61 (gI (sI (sI w 167 46 (gI w 167 46 - y)) 167 45 (gI (sI w 167 46 (gI w 167 46 - y)) 167 45 + y)) 167 61 + y)) 209 (13 * k + 12) y) a j = gI w a j := fun a j h1 h2 => by
              rw [g_ne _ _ _ _ h1]
              by_cases e : a = 167
              · subst e
                have := h2.resolve_left (fun e => e rfl)
                rw [g_nk _ _ _ this.2.2, g_nk _ _ _ this.2.1, g_nk _ _ _ this.1]
              · rw [g_ne _ _ _ _ e, g_ne _ _ _ _ e, g_ne _ _ _ _ e]
            refine ⟨⟨?_, ?_, ?_, fun h hh => ?_, fun j hj => ?_, ?_, ?_, b8⟩, fun h hh => ?_, fun e => ?_, fun j hj => ?_⟩
            · rw [g_ne _ _ _ _ (by decide), g_nk _ _ _ (by decide), g_nk _ _ _ (by decide), g_same, b1]; rfl
            · rw [g_ne _ _ _ _ (by decide), g_nk _ _ _ (by decide), g_same, g_nk _ _ _ (by decide), b2]; rfl
            · rw [g_ne _ _ _ _ (by decide), g_same, g_nk _ _ _ (by decide), g_nk _ _ _ (by decide), b3]; rfl
            · rw [gg _ _ (by decide) (Or.inl (by decide)), gg _ _ (by decide) (Or.inl (by decide)), gg _ _ (by decide) (Or.inl (by decide)), gg _ _ (by decide) (Or.inl (by decide)), gg _ _ (by decide) (Or.inl (by decide))]; exact b4 h hh
            · rw [gg _ _ (by decide) (Or.inl (by decide))]; exact b5 j hj
            · rw [gg _ _ (by decide) (Or.inr (by decide))]; exact b6
            · rw [gg _ _ (by decide) (Or.inr (by decide))]; exact b7
            · rw [g_nk _ _ _ (by omega), g_ne _ _ _ _ (by decide), g_ne _ _ _ _ (by decide), g_ne _ _ _ _ (by decide), g2 _ _ (by decide)]; rfl
            · rw [g_same]; show y = (qF s + y) - qF s; grind
            · rw [g_nk _ _ _ (by omega), g_ne _ _ _ _ (by decide), g_ne _ _ _ _ (by decide), g_ne _ _ _ _ (by decide), g2 _ _ (by decide)]
          have b144 : ∀ y : Int32, (if 0 ≤ y then y else 0) = (if cap - qS s < amt s n q (rAmt rl) (qP s) then cap - qS s else amt s n q (rAmt rl) (qP s)) → Ok (B_X12_rule_144 f x1 y w) (fun r => XV r (fil s cap (amt s n q (rAmt rl) (qP s))) n q ∧ BA k n u s r (fil s cap (amt s n q (rAmt rl) (qP s)))) := by
            intro y hy
            rw [B_X12_rule_144]
            refine Ok.ite (fun h0 => b154 y (by rw [← hy, if_pos h0])) (fun h0 => b154 0 (by rw [← hy, if_neg h0]))
          have b117 : ∀ y : Int32, (if 0 ≤ (if y ≤ cap - qS s then y else cap - qS s) then (if y ≤ cap - qS s then y else cap - qS s) else 0) = (if cap - qS s < amt s n q (rAmt rl) (qP s) then cap - qS s else amt s n q (rAmt rl) (qP s)) → Ok (B_X12_rule_117 f x1 y w) (fun r => XV r (fil s cap (amt s n q (rAmt rl) (qP s))) n q ∧ BA k n u s r (fil s cap (amt s n q (rAmt rl) (qP s)))) := by
            intro y hy
            rw [B_X12_rule_117, g2 167 29 (by decide), hcap, b2]
            refine Ok.ite (fun h0 => b144 y (by rw [← hy, if_pos h0])) (fun h0 => b144 _ (by rw [← hy, if_neg h0]))
          -- one number
          have num : ∀ y : Int32, y = (if x ≤ qP s then x else qP s) → (if 0 ≤ (if y ≤ cap - qS s then y else cap - qS s) then (if y ≤ cap - qS s then y else cap - qS s) else 0) = (if cap - qS s < amt s n q (rAmt rl) (qP s) then cap - qS s else amt s n q (rAmt rl) (qP s)) := by
            intro y hy
            rw [ha, ← hy]
            refine Int32.toInt_inj.mp ?_
            have hyx : y.toInt = (if x.toInt ≤ (qP s).toInt then x.toInt else (qP s).toInt) := by
              rw [hy]
              by_cases e : x ≤ qP s
              · rw [if_pos e, if_pos (i_le.mp e)]
              · rw [if_neg e, if_neg (fun e' => e (i_le.mpr e'))]
            simp only [i_le, i_lt, apply_ite Int32.toInt, e0, hcs]
            split at hyx <;> (repeat' split) <;> omega
          rw [B_X12_rule_100, b1]
          refine Ok.ite (fun h0 => b117 x (num x (by rw [if_pos h0]))) (fun h0 => b117 _ (num _ (by rw [if_neg h0])))
        by_cases hl : rAmt rl = []
        · have := hca.1 hl
          refine Ok.f (fun e => by have := i_le.mp e; rw [e0] at this; omega) ?_
          rw [hv.1]
          exact fin v _ hF ⟨fun _ => rfl, fun e => absurd hl e⟩
        · obtain ⟨a, ha, _⟩ := hca.2 hl
          have hai : (gI u 177 (24 * t + k)).toInt = (a : Int) := ha
          refine Ok.t (i_le.mpr (by rw [e0]; omega)) ?_
          obtain ⟨r, er', hr⟩ := r_val (f := f) (a := 0) hf hv va hl (by rw [g1 _ _ (by decide)]; exact ht) ht7 hca hc
          refine Ok.bindE er' ?_
          rw [hr]
          exact fin r.2 _ (Fr_tr (fr_F_X12_worth er') hF) ⟨fun e => absurd e hl, fun _ => rfl⟩
      · have h17 : rAct rl = 17 := by omega
        obtain ⟨y1, y2, y3, y4⟩ := k17 h17
        obtain ⟨z1, z2, z3, z4⟩ := v17 h17
        rw [if_neg h18]
        refine Ok.f (by rw [h17]; decide) (Ok.f (by rw [h17]; decide) ?_)
        have hsrc : ∀ w : MT, (∀ a j, a ≠ 211 → a ≠ 212 → gI w a j = gI u a j) → (gI w 178 (24 * t + k) = 0 ↔ rSrc rl = 9) := fun w hw => by
          rw [hw _ _ (by decide) (by decide)]
          have yi : (gI u 178 (24 * t + k)).toInt = ((rSrc rl - 9 : Nat) : Int) := y1
          rw [i_eq, e0, yi]; omega
        have go : ∀ (w : MT) (x has : Int32), Fr wI_X12_worth [] [] u w → 0 ≤ has.toInt → ((rAmt rl = [] → x = has) ∧ (rAmt rl ≠ [] → x = evv s n q (rAmt rl))) → Ok (B_X12_givesBy_44 f x1 ((24 : Int32) * gI u 167 44 + x1) has x w) (fun r => XV r (giv s n q sh how rl (amt s n q (rAmt rl) has)) n q ∧ BA k n u s r (giv s n q sh how rl (amt s n q (rAmt rl) has))) := by
          intro w x has hFw hh0 hx
          have g2 : ∀ a j, a ≠ 211 → gI w a j = gI u a j := fun a j ha => hFw.1 a j (by simp only [nin, wI_X12_worth]; exact ⟨fun e1 e2 => absurd (show a = 211 by omega) ha, trivial⟩)
          have hw := hX.wor hFw
          have ha := amt_ref (s := s) (n := n) (q := q) hh0 hx
          have b67 : ∀ y : Int32, y = amt s n q (rAmt rl) has → Ok (B_X12_givesBy_67 f x1 ((24 : Int32) * gI u 167 44 + x1) y w) (fun r => XV r (giv s n q sh how rl (amt s n q (rAmt rl) has)) n q ∧ BA k n u s r (giv s n q sh how rl (amt s n q (rAmt rl) has))) := by
            intro y hy
            rw [B_X12_givesBy_67, ← hy]
            obtain ⟨r, er', r1, r2⟩ := r_chooses (f := f) (num := rNum rl) (who := rWho rl) hf hw hI hx2 (by rw [g2 _ _ (by decide)]; exact y2) (by rcases z2 with e | e | e; exact Or.inl e; exact Or.inr (Or.inl e.1); exact Or.inr (Or.inr e.1)) (fun hne => by rw [g2 _ _ (by decide)]; exact y4 hne) (fun e26 => by rcases z2 with e | e | e; omega; omega; exact e.2.1)
            have hfr := fr_F_X12_chooses er'
            have g3 : ∀ a j, a ≠ 211 → a ≠ 212 → gI r.2 a j = gI u a j := fun a j h1 h2 => by
              rw [hfr.1 a j (by simp only [nin, wI_X12_chooses]; exact ⟨fun e1 e2 => absurd (show a = 212 by omega) h2, trivial⟩)]; exact g2 a j h1
            have hXr : XV r.2 s n q := hX.fr (fun j _ => g3 _ _ (by decide) (by decide)) (fun a ha j => g3 _ _ (by omega) (by omega))
            refine Ok.bindE er' ?_
            obtain ⟨z, ez, zz1, zz2⟩ := r_give (f := f) (x4 := y) (N := 0) hf hXr hQ (by rw [g3 _ _ (by decide) (by decide)]; exact ht) (show t < 8 by omega) (by rw [g3 _ _ (by decide) (by decide)]; exact hh) hhow hk hI hx1 hx2 (hsrc r.2 g3) (by rw [g3 _ _ (by decide) (by decide)]; exact y3) ⟨z3, z4⟩ (fun h hh => by rw [g3 _ _ (by decide) (by decide)]; exact hsh h hh) hsh1 r1 r2
            refine ⟨z, ez, zz1, fun h hh => ?_, fun e => ?_, fun j hj => ?_⟩
            · rw [zz2.1 h hh, g3 _ _ (by decide) (by decide)]
            · have hqF : qF (giv s n q sh how rl y) = qF s := by
                rw [← zz1.2.2.1, (fr_B_X12_givesBy_82 f _ _ _ _ _ _ _ ez).1 167 61 (by simp [nin, wI_X12_givesBy]), g3 _ _ (by decide) (by decide)]; exact hX.2.2.1
              rw [zz2.2 _ (by omega), g3 _ _ (by decide) (by decide), e, hqF]; grind
            · rw [zz2.2 j (by omega), g3 _ _ (by decide) (by decide)]
          rw [B_X12_givesBy_44]
          refine Ok.ite (fun h0 => Ok.ite (fun h1 => b67 x ?_) (fun h1 => b67 has ?_)) (fun h0 => b67 0 ?_)
          · rw [ha, if_pos h0, if_pos h1]
          · rw [ha, if_pos h0, if_neg h1]
          · rw [ha, if_neg h0]
        have b20 : ∀ has : Int32, 0 ≤ has.toInt → Ok (B_X12_givesBy_20 f x1 ((24 : Int32) * gI u 167 44 + x1) has v) (fun r => XV r (giv s n q sh how rl (amt s n q (rAmt rl) has)) n q ∧ BA k n u s r (giv s n q sh how rl (amt s n q (rAmt rl) has))) := by
          intro has hh0
          rw [B_X12_givesBy_20]
          refine Ok.ck (hx2.ix hI) ?_
          rw [hx2.nat, g1 _ _ (by decide)]
          by_cases hl : rAmt rl = []
          · have := hca.1 hl
            exact Ok.f (fun e => by have := i_le.mp e; rw [e0] at this; omega) (go v has has hF hh0 ⟨fun _ => rfl, fun e => absurd hl e⟩)
          · obtain ⟨a, ha, _⟩ := hca.2 hl
            have hai : (gI u 177 (24 * t + k)).toInt = (a : Int) := ha
            obtain ⟨r, er', hr⟩ := r_val (f := f) (a := 0) hf hv va hl (by rw [g1 _ _ (by decide)]; exact ht) ht7 hca hc
            refine Ok.t (i_le.mpr (by rw [e0]; omega)) (Ok.bindE er' ?_)
            rw [hr]
            exact go r.2 _ has (Fr_tr (fr_F_X12_worth er') hF) hh0 ⟨fun e => absurd e hl, fun _ => rfl⟩
        rw [F_X12_givesBy]
        have hq1 := hQ.2.1
        have hq3 := hQ.2.2.2.1
        have hfin : ∀ has : Int32, 0 ≤ has.toInt → has = (if rSrc rl = 9 then qP s else qS s) → Ok ((B_X12_givesBy_20 f x1 ((24 : Int32) * gI u 167 44 + x1) has v).bind fun r15 => some r15) (fun r => XV r (giv s n q sh how rl (amt s n q (rAmt rl) (if rSrc rl = 9 then qP s else qS s))) n q ∧ BA k n u s r (giv s n q sh how rl (amt s n q (rAmt rl) (if rSrc rl = 9 then qP s else qS s)))) := fun has h1 h2 => by
          rw [← h2]; exact Ok.bind (b20 has h1) (fun r hr => Ok.some hr)
        rw [ck_p (hx2.ix hI), hx2.nat]
        have hs0 := hsrc v (fun a j h1 _ => g1 a j h1)
        by_cases h9 : rSrc rl = 9
        · rw [if_pos (hs0.mpr h9)]
          have := hfin (gI v 167 46) (by rw [hv.1]; exact hq1) (by rw [hv.1, if_pos h9])
          exact this
        · rw [if_neg (fun e => h9 (hs0.mp e))]
          have := hfin (gI v 167 45) (by rw [hv.2.1]; exact hq3) (by rw [hv.2.1, if_neg h9])
          exact this
  rw [F_X12_rule]
  refine Ok.ck (hx2.ix hI) ?_
  rw [hx2.nat]
  by_cases he : rWhen rl = []
  · have := cw.1 he
    exact Ok.t (i_lt.mpr (by rw [e0]; exact this)) (act u Fr_rfl (fun e => e.1 he))
  · obtain ⟨a, ha, _⟩ := cw.2 he
    have hai : (gI u 175 (24 * t + k)).toInt = (a : Int) := ha
    refine Ok.f (fun e => by have := i_lt.mp e; rw [e0] at this; omega) ?_
    obtain ⟨r, er, hr⟩ := r_val (f := f) (a := 0) hf hX vw he ht ht7 cw hc
    have hF := fr_F_X12_worth er
    refine Ok.bindE er ?_
    rw [hr]
    refine Ok.ite (fun h0 => Ok.some ?_) (fun h0 => act r.2 hF (fun e => h0 e.2))
    rw [show rul s n q sh cap how rl = s from if_pos ⟨he, h0⟩]
    have g1 : ∀ a j, a ≠ 211 → gI r.2 a j = gI u a j := fun a j ha => hF.1 a j (by simp only [nin, wI_X12_worth]; exact ⟨fun e1 e2 => absurd (show a = 211 by omega) ha, trivial⟩)
    exact ⟨hX.wor hF, fun h hh => by rw [g1 _ _ (by decide)], fun e => by rw [g1 _ _ (by decide), e]; grind, fun j hj => g1 _ _ (by decide)⟩
end
