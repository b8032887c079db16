/-! ===== the class reads an E ===== -/
theorem ni1 : ¬ (1 : Int32) = 0 := by decide
abbrev wE (tx : Nat) : WL := [(112, 1, 5), (112, 1, 6), (tx, 1, 5), (tx + 2, 1, 0)]
def cem (tx : Nat) (x : Int32) (u : MT) : MT := sI (sI u (tx + 2) (gI u tx 4).toNatClampNeg x) tx 4 (gI u tx 4 + 1)
theorem c_emit {f tx : Nat} {x : Int32} {u : MT} {c : Nat} (h : Nm (gI u tx 4) c) (hc : c < 1200) : F_X7_emit f tx x u = some (cem tx x u) := by
  rw [F_X7_emit, if_neg (fun e => by have := (Nm.le (show Nm (1200 : Int32) 1200 from rfl) h).mp e; omega), ck_p (h.ix hc)]
  show some (sI (sI u (tx + 2) (gI u tx 4).toNatClampNeg x) tx 4 (gI (sI u (tx + 2) (gI u tx 4).toNatClampNeg x) tx 4 + 1)) = _
  rw [g_ne _ _ _ _ (by omega)]; rfl
theorem Fr_cem {tx : Nat} {x : Int32} {u : MT} : Fr (wE tx) [] [] u (cem tx x u) := Fr_sIk (List.mem_of_getElem? (i := 2) rfl) (Fr_sI0 (List.mem_of_getElem? (i := 3) rfl) Fr_rfl)
theorem Fr_cadv {tx : Nat} {u : MT} : Fr (wE tx) [] [] u (cadv u) := Fr_sIk (List.mem_of_getElem? (i := 0) rfl) Fr_rfl
theorem Fr_cwr {E : ET} {k : Int32} {i tx : Nat} {u : MT} : Fr (wE tx) [] [] u (cwr E k i u) := Fr_sIk (List.mem_of_getElem? (i := 1) rfl) Fr_rfl
/-- a code has been written behind what was there -/
def CX (E : ET) (tx : Nat) (u v : MT) (j c : Nat) (l : List Int32) : Prop :=
  CS E j v ∧ Nm (gI v tx 4) (c + l.length) ∧ (∀ k, k < c → gI v (tx + 2) k = gI u (tx + 2) k) ∧ ∀ k, k < l.length → gI v (tx + 2) (c + k) = l.getD k 0
theorem CX.rfl {E : ET} {tx : Nat} {u : MT} {j c : Nat} (h : CS E j u) (hc : Nm (gI u tx 4) c) : CX E tx u u j c [] := ⟨h, hc, fun _ _ => Eq.refl _, fun k hk => absurd hk (Nat.not_lt_zero k)⟩
theorem CX.trans {E : ET} {tx : Nat} {u v w : MT} {j j' c : Nat} {l l' : List Int32} (h : CX E tx u v j c l) (h' : CX E tx v w j' (c + l.length) l') : CX E tx u w j' c (l ++ l') := by
  refine ⟨h'.1, ?_, fun k hk => ?_, fun k hk => ?_⟩
  · rw [List.length_append, ← Nat.add_assoc]; exact h'.2.1
  · rw [h'.2.2.1 k (by omega)]; exact h.2.2.1 k hk
  · rw [List.length_append] at hk
    by_cases hl : k < l.length
    · rw [h'.2.2.1 (c + k) (by omega), h.2.2.2 k hl]
      simp [List.getD, List.getElem?_append_left hl]
    · have := h'.2.2.2 (k - l.length) (by omega)
      rw [show c + l.length + (k - l.length) = c + k by omega] at this
      rw [this]
      simp [List.getD, List.getElem?_append_right (by omega : l.length ≤ k)]
theorem CX.next {E : ET} {tx : Nat} {u v : MT} {j c : Nat} {l : List Int32} (h : CX E tx u v j c l) (htx : 116 ≤ tx) (hj : j < tL E) : CX E tx u (cadv v) (j + 1) c l := by
  refine ⟨h.1.next hj, ?_, fun k hk => ?_, fun k hk => ?_⟩
  · rw [show gI (cadv v) tx 4 = gI v tx 4 from g_ne _ _ _ _ (by omega)]; exact h.2.1
  · rw [show gI (cadv v) (tx + 2) k = gI v (tx + 2) k from g_ne _ _ _ _ (by omega)]; exact h.2.2.1 k hk
  · rw [show gI (cadv v) (tx + 2) (c + k) = gI v (tx + 2) (c + k) from g_ne _ _ _ _ (by omega)]; exact h.2.2.2 k hk
theorem CX_cem {E : ET} {tx : Nat} {u : MT} {j c : Nat} {x : Int32} (h : CS E j u) (htx : 116 ≤ tx) (hc : Nm (gI u tx 4) c) (hc' : c < 1200) : CX E tx u (cem tx x u) j c [x] := by
  refine ⟨(h.put (Or.inl (by omega)) (by omega) (by omega)).put (Or.inl (by omega)) (by omega) (by omega), ?_, fun k hk => ?_, fun k hk => ?_⟩
  · show Nm (gI (sI _ tx 4 _) tx 4) (c + 1)
    rw [g_same]; exact hc.succ (by omega)
  · show gI (sI (sI u (tx + 2) _ x) tx 4 _) (tx + 2) k = _
    rw [g_ne _ _ _ _ (by omega), hc.nat, g_nk _ _ _ (by omega)]
  · have : k = 0 := by have : k < 1 := hk; omega
    subst this
    show gI (sI (sI u (tx + 2) _ x) tx 4 _) (tx + 2) c = x
    rw [g_ne _ _ _ _ (by omega), hc.nat, g_same]
def CXp (E : ET) (tx : Nat) (u : MT) (c : Nat) (res : PR) (r : Int32 × MT) : Prop :=
  (res.1 = 0 → r.1 = 1 ∧ CX E tx u r.2 res.2.1 c res.2.2) ∧ (res.1 ≠ 0 → r.1 = 0 ∧ gI r.2 112 5 = flt E (Int32.ofNat res.1) res.2.1) ∧ Fr (wE tx) [] [] u r.2
theorem cwr_flt {E : ET} {k : Int32} {i : Nat} {u : MT} : gI (cwr E k i u) 112 5 = flt E k i := g_same _ _ _ _
/-- a PART, what is inside of it being told -/
theorem c_part {f tx : Nat} {E : ET} (htx : 116 ≤ tx) {rec : Nat → Option PR} {G : Int32 → MT → Option (Int32 × MT)} {ar i c : Nat} {u : MT} {p : PR} {x1 : Int32}
    (hp : pPart E rec ar i = some p) (hx : Nm x1 ar) (h : CS E i u) (hc : Nm (gI u tx 4) c) (hci : c ≤ i)
    (hG : ∀ r, ar ≤ 5 → i < tL E → rec (i + 1) = some r → ∀ v, CX E tx u v (i + 1) c [] → (r.1 = 0 → r.2.1 ≤ tL E) → Ok (G (x1 + 1) v) (CXp E tx v c r))
    (hfar : ∀ r, rec (i + 1) = some r → r.1 = 0 → r.2.1 ≤ tL E) :
    Ok (F_X3_takePart f tx G x1 u) (CXp E tx u c p) := by
  have hL := h.2.1.1
  have hi := h.2.2.2.2
  rw [F_X3_takePart]
  refine Ok.ck h.ix (Ok.ck ?_ ?_)
  · rw [h.tok]; exact ⟨h.ge, h.le⟩
  rw [h.tok]
  refine Ok.bindE (c_bpart h.le h.ge) ?_
  dsimp only
  have h5 : (5 : Int32).toInt = 5 := rfl
  rcases pPart_cases hp with ⟨hb, e⟩ | ⟨hb, ha, e⟩ | ⟨hb, ha, h4, q, hq, hcs⟩ | ⟨hb, ha, h4, e⟩
  · rw [b2i_f (by rw [hb]; decide)]
    refine Ok.t (Eq.refl _) (Ok.bindE (c_refuse h) (Ok.ck (Or.inl (Eq.refl _)) (Ok.some ?_)))
    subst e
    exact ⟨fun h => absurd h ne1, fun _ => ⟨Eq.refl _, cwr_flt⟩, Fr_cwr⟩
  · rw [b2i_t hb]
    refine Ok.f (by decide) (Ok.f (fun e => by have := i_le.mp e; have hx' : x1.toInt = (ar : Int) := hx; omega) (Ok.bindE (c_refuse h) (Ok.ck (Or.inl (Eq.refl _)) (Ok.some ?_))))
    subst e
    exact ⟨fun h => absurd h ne5, fun _ => ⟨Eq.refl _, cwr_flt⟩, Fr_cwr⟩
  · have hlt := h.2.1.lt hi (bpart_ne hb)
    rw [b2i_t hb]
    refine Ok.f (by decide) (Ok.t (i_le.mpr (by have hx' : x1.toInt = (ar : Int) := hx; omega)) (Ok.t h4 (Ok.bindE (c_step h hlt) ?_)))
    have hX : CX E tx u (cadv u) (i + 1) c [] := (CX.rfl h hc).next htx hlt
    refine Ok.bind (hG q ha hlt hq _ hX (hfar q hq)) (fun r hr => ?_)
    rcases hcs with ⟨h0, h5', e⟩ | ⟨h0, h5', e⟩ | ⟨h0, e⟩
    · obtain ⟨r1, r2⟩ := hr.1 h0
      have hj := hfar q hq h0
      rw [r1]
      refine Ok.f (by decide) (Ok.bindE (c_take_t r2.1 h5' (by decide)) (Ok.f ni1 (Ok.some ?_)))
      subst e
      refine ⟨fun _ => ⟨Eq.refl _, ?_⟩, fun h => absurd (Eq.refl _) h, Fr_tr Fr_cadv (Fr_tr hr.2.2 Fr_cadv)⟩
      have := hX.trans (l' := q.2.2) r2
      exact this.next htx (h.2.1.lt hj (by rw [h5']; decide))
    · obtain ⟨r1, r2⟩ := hr.1 h0
      rw [r1]
      refine Ok.f (by decide) (Ok.bindE (c_take_f r2.1 (by decide) h5') (Ok.t (Eq.refl _) (Ok.some ?_)))
      subst e
      exact ⟨fun h => absurd h ne1, fun _ => ⟨Eq.refl _, cwr_flt⟩, Fr_tr Fr_cwr (Fr_tr hr.2.2 Fr_cadv)⟩
    · obtain ⟨r1, r2⟩ := hr.2.1 h0
      rw [r1]
      refine Ok.t (Eq.refl _) (Ok.some ?_)
      subst e
      exact ⟨fun h => absurd h h0, fun _ => ⟨Eq.refl _, r2⟩, Fr_tr hr.2.2 Fr_cadv⟩
  · have hlt := h.2.1.lt hi (bpart_ne hb)
    have fin : ∀ x : Int32, x = (if tT E i = 3 then tV E i else tcode (tT E i)) → Ok (B_X3_takePart_98 f tx G x u) (CXp E tx u c p) := fun x hxx => by
      rw [B_X3_takePart_98]
      have hX : CX E tx u (cem tx x u) i c [x] := CX_cem h htx hc (by omega)
      refine Ok.bindE (c_emit hc (by omega)) (Ok.bindE (c_step hX.1 hlt) (Ok.some ?_))
      subst e
      refine ⟨fun _ => ⟨Eq.refl _, ?_⟩, fun h => absurd (Eq.refl _) h, Fr_tr Fr_cadv Fr_cem⟩
      rw [← hxx]
      exact hX.next htx hlt
    rw [b2i_t hb]
    refine Ok.f (by decide) (Ok.t (i_le.mpr (by have hx' : x1.toInt = (ar : Int) := hx; omega)) (Ok.f h4 ?_))
    refine Ok.ite (fun h3 => Ok.ck h.ix (fin _ ?_)) (fun h3 => fin _ ?_)
    · rw [h.2.2.2.1.nat, (h.1.2 i hi).2.2 h3, if_pos h3]
    · rw [if_neg h3]; rfl
/-- an E from a PART on -/
theorem c_E {f tx : Nat} {E : ET} (htx : 116 ≤ tx) (hf : 1300 < f) : ∀ (n ar cm jt i : Nat) (res : PR), pL E n ar cm jt i = some res →
    ∀ (d m : Nat) (x1 x4 : Int32) (u : MT) (c k4 : Nat), ar ≤ 6 → d + ar = 7 → Nm x1 ar → Nm x4 k4 → 2 * k4 ≤ i → tL E < m + i → CS E i u → Nm (gI u tx 4) c →
    c + (jcode jt).length + (ccode cm).length ≤ i → (jt = 0 ∨ isop jt = true) → (cm = 0 ∨ cm = 14 ∨ cm = 15) →
    Ok (B_X3_takeExpression_7 f tx (fun x1 u1 => F_X3_takePart f tx (fun x2 u2 => RE f tx d x2 u2) x1 u1) m x1 cm jt x4 u) (CXp E tx u c res) := by
  intro n
  induction n with
  | zero => intro ar cm jt i res h; cases h
  | succ n ih =>
    intro ar cm jt i res hres d m x1 x4 u c k4 har hd hx1 hx4 h4i hm h hc hci hjt hcm
    have hL := h.2.1.1
    have hi := h.2.2.2.2
    obtain ⟨m, rfl⟩ : ∃ m', m = m' + 1 := ⟨m - 1, by omega⟩
    obtain ⟨p, hp, hr⟩ := pL_cases hres
    have hfar : ∀ r, pL E n (ar + 1) 0 0 (i + 1) = some r → i < tL E → r.1 = 0 → r.2.1 ≤ tL E := fun r hr hlt h0 => ((pL_far h.2.1 _ _ _ _ _ _ hr hlt).1 h0).2.1
    rw [B_X3_takeExpression_7]
    refine Ok.f (fun e => by have := (Nm.le (show Nm (1200 : Int32) 1200 from Eq.refl _) hx4).mp e; omega) ?_
    have hlt' : bpart (tT E i) = true → i < tL E := fun hb => h.2.1.lt hi (bpart_ne hb)
    have hpart : Ok (F_X3_takePart f tx (fun x2 u2 => RE f tx d x2 u2) x1 u) (CXp E tx u c p) := by
      by_cases hlt : i < tL E
      · refine c_part htx hp hx1 h hc (by omega) (fun r ha _ hr v hv hfr => ?_) (fun r hr h0 => hfar r hr hlt h0)
        obtain ⟨d, rfl⟩ : ∃ d', d = d' + 1 := ⟨d - 1, by omega⟩
        have := ih (ar + 1) 0 0 (i + 1) r hr d f (x1 + 1) 0 v c 0 (by omega) (by omega) (hx1.succ (by omega)) nm0 (by omega) (by omega) hv.1 (by simpa using hv.2.1) (by show c + 0 + 0 ≤ i + 1; omega) (Or.inl (Eq.refl _)) (Or.inl (Eq.refl _))
        exact this
      · have hb : bpart (tT E i) = false := by
          cases hb : bpart (tT E i) with
          | true => exact absurd (hlt' hb) hlt
          | false => rfl
        have hp' : pPart E (fun _ => none) ar i = some p := by
          unfold pPart at hp ⊢
          rw [if_pos hb] at hp ⊢; exact hp
        exact c_part htx hp' hx1 h hc (by omega) (fun r _ _ hr => nomatch hr) (fun r hr => nomatch hr)
    refine Ok.bind hpart (fun r2 hr2 => ?_)
    rcases hr with ⟨h0, e⟩ | hr
    · obtain ⟨g1, g2⟩ := hr2.2.1 h0
      rw [g1]
      refine Ok.t (Eq.refl _) (Ok.some ?_)
      subst e
      exact ⟨fun h => absurd h h0, fun _ => ⟨Eq.refl _, g2⟩, hr2.2.2⟩
    · have hp0 : p.1 = 0 := by rcases hr with ⟨h0, _⟩ | ⟨h0, _⟩ <;> exact h0
      obtain ⟨g1, g2⟩ := hr2.1 hp0
      have hpf : i < p.2.1 ∧ p.2.1 ≤ tL E ∧ p.2.2.length + i ≤ p.2.1 := by
        rcases pPart_cases hp with ⟨_, e⟩ | ⟨_, _, e⟩ | ⟨hb, _, _, q, hq, hcs⟩ | ⟨hb, _, _, e⟩
        · subst e; exact absurd hp0 ne1
        · subst e; exact absurd hp0 ne5
        · have hq' := pL_far h.2.1 _ _ _ _ _ _ hq (hlt' hb)
          rcases hcs with ⟨h0', h5, e⟩ | ⟨h0', h5, e⟩ | ⟨h0', e⟩
          · have h1 := hq'.1 h0'
            have := h.2.1.lt h1.2.1 (by rw [h5]; decide)
            have e0 : (jcode 0).length = 0 := Eq.refl _
            have e1 : (ccode 0).length = 0 := Eq.refl _
            subst e
            exact ⟨by show i < q.2.1 + 1; omega, by show q.2.1 + 1 ≤ _; omega, by show q.2.2.length + i ≤ q.2.1 + 1; omega⟩
          · subst e; exact absurd hp0 ne1
          · subst e; exact absurd hp0 h0'
        · subst e
          exact ⟨Nat.lt_succ_self i, hlt' hb, by show 1 + i ≤ i + 1; omega⟩
      rw [g1]
      refine Ok.f (by decide) ?_
      -- behind the PART and the sign that waited
      have tail : ∀ v, CX E tx u v p.2.1 c (p.2.2 ++ jcode jt) → Fr (wE tx) [] [] u v → Ok (B_X3_takeExpression_47 f tx (fun x1 u1 => F_X3_takePart f tx (fun x2 u2 => RE f tx d x2 u2) x1 u1) (fun x1' a2' a3' x4' u' => B_X3_takeExpression_7 f tx (fun x1 u1 => F_X3_takePart f tx (fun x2 u2 => RE f tx d x2 u2) x1 u1) m x1' a2' a3' x4' u') x1 cm x4 v) (CXp E tx u c res) := by
        intro v hv hfr
        have hl : (p.2.2 ++ jcode jt).length = p.2.2.length + (jcode jt).length := List.length_append
        rw [B_X3_takeExpression_47]
        refine Ok.ck hv.1.ix (Ok.ck ?_ ?_)
        · rw [hv.1.tok]; exact ⟨hv.1.ge, hv.1.le⟩
        rw [hv.1.tok]
        refine Ok.bindE (c_isop hv.1.le) ?_
        dsimp only
        have fin : pStopB E cm p.2.1 = true → Ok (B_X3_takeExpression_97 f tx (fun x1 u1 => F_X3_takePart f tx (fun x2 u2 => RE f tx d x2 u2) x1 u1) cm v) (CXp E tx u c res) := fun hst => by
          have hres' : res = (0, p.2.1, p.2.2 ++ jcode jt ++ ccode cm) := by
            rcases hr with ⟨_, _, e⟩ | ⟨_, hs, _⟩
            · exact e
            · rw [hst] at hs; exact absurd hs (by decide)
          rw [B_X3_takeExpression_97]
          refine Ok.ite (fun h0 => Ok.some ?_) (fun h0 => ?_)
          · subst hres'
            refine ⟨fun _ => ⟨Eq.refl _, ?_⟩, fun h => absurd (Eq.refl _) h, hfr⟩
            rw [show ccode cm = [] from if_pos h0, List.append_nil]
            exact hv
          · have ec : ccode cm = [tcode cm] := if_neg h0
            have ecl : (ccode cm).length = 1 := by rw [ec]; rfl
            have hX : CX E tx v (cem tx (tcode cm) v) p.2.1 (c + (p.2.2 ++ jcode jt).length) [tcode cm] := CX_cem hv.1 htx hv.2.1 (by omega)
            refine Ok.ck (by omega) (Ok.bindE (c_emit hv.2.1 (by omega)) (Ok.some ?_))
            subst hres'
            refine ⟨fun _ => ⟨Eq.refl _, ?_⟩, fun h => absurd (Eq.refl _) h, Fr_tr Fr_cem hfr⟩
            rw [ec]
            exact hv.trans hX
        have go : pStopB E cm p.2.1 = false → ∀ cm', cm' = (if iscm (tT E p.2.1) = true then tT E p.2.1 else cm) → Ok (B_X3_takeExpression_87 f tx (fun x1 u1 => F_X3_takePart f tx (fun x2 u2 => RE f tx d x2 u2) x1 u1) (fun x1' a2' a3' x4' u' => B_X3_takeExpression_7 f tx (fun x1 u1 => F_X3_takePart f tx (fun x2 u2 => RE f tx d x2 u2) x1 u1) m x1' a2' a3' x4' u') x1 cm' (tT E p.2.1) x4 v) (CXp E tx u c res) := fun hst cm' hcm' => by
          have hns := nstop hst
          have hlt := h.2.1.lt hpf.2.1 (isop_ne hns.1)
          obtain ⟨q, hq, e⟩ : ∃ q, pL E n ar (if iscm (tT E p.2.1) = true then tT E p.2.1 else cm) (tT E p.2.1) (p.2.1 + 1) = some q ∧ res = (q.1, q.2.1, p.2.2 ++ jcode jt ++ q.2.2) := by
            rcases hr with ⟨_, hs, _⟩ | ⟨_, _, q, hq, e⟩
            · rw [hst] at hs; exact absurd hs (by decide)
            · exact ⟨q, hq, e⟩
          rw [← hcm'] at hq
          rw [B_X3_takeExpression_87]
          refine Ok.bindE (c_step hv.1 hlt) ?_
          have key : (jcode (tT E p.2.1)).length + (ccode cm').length ≤ 1 + (ccode cm).length ∧ (cm' = 0 ∨ cm' = 14 ∨ cm' = 15) := by
            cases hcc : iscm (tT E p.2.1) with
            | true =>
              rw [hcc, if_pos (Eq.refl _)] at hcm'
              have : tT E p.2.1 = 14 ∨ tT E p.2.1 = 15 := by simpa [iscm] using hcc
              rw [hcm', hns.2 hcc]
              refine ⟨?_, Or.inr this⟩
              rcases this with e | e <;> rw [e] <;> decide
            | false =>
              rw [hcc, if_neg (by decide)] at hcm'
              have : (jcode (tT E p.2.1)).length ≤ 1 := by unfold jcode; split <;> simp
              rw [hcm']
              exact ⟨by omega, hcm⟩
          have hX := hv.next htx hlt
          have hI := ih ar cm' (tT E p.2.1) (p.2.1 + 1) q hq d m x1 (x4 + 1) (cadv v) (c + (p.2.2 ++ jcode jt).length) (k4 + 1) har hd hx1 (hx4.succ (by omega)) (by omega) (by omega) hX.1 hX.2.1 (by omega) (Or.inr hns.1) key.2
          refine hI.mono (fun r hrr => ?_)
          rw [e]
          refine ⟨fun h0 => ⟨(hrr.1 h0).1, ?_⟩, hrr.2.1, Fr_tr hrr.2.2 (Fr_tr Fr_cadv hfr)⟩
          exact hX.trans (hrr.1 h0).2
        cases ho : isop (tT E p.2.1) with
        | false =>
          rw [b2i_f (by decide)]
          exact Ok.t (Eq.refl _) (fin (by unfold pStopB; rw [ho]; rfl))
        | true =>
          rw [b2i_t (Eq.refl _)]
          refine Ok.f (by decide) (Ok.bindE c_iscm ?_)
          dsimp only
          cases hcc : iscm (tT E p.2.1) with
          | false =>
            rw [b2i_f (by decide)]
            refine Ok.t (Eq.refl _) ?_
            rw [B_X3_takeExpression_78]
            refine Ok.ck ⟨hv.1.ge, hv.1.le⟩ (Ok.bindE c_iscm ?_)
            dsimp only
            rw [hcc, b2i_f (by decide)]
            exact Ok.t (Eq.refl _) (go (by unfold pStopB; rw [ho, hcc]; rfl) _ (by rw [hcc, if_neg (by decide)]))
          | true =>
            rw [b2i_t (Eq.refl _)]
            refine Ok.f (by decide) (Ok.ite (fun h0 => ?_) (fun h0 => ?_))
            · rw [B_X3_takeExpression_78]
              refine Ok.ck ⟨hv.1.ge, hv.1.le⟩ (Ok.bindE c_iscm ?_)
              dsimp only
              rw [hcc, b2i_t (Eq.refl _)]
              exact Ok.f (by decide) (go (by unfold pStopB; rw [ho, hcc, h0]; rfl) _ (by rw [hcc, if_pos (Eq.refl _)]))
            · exact fin (by unfold pStopB; rw [ho, hcc]; simp [h0])
      refine Ok.ite (fun hj0 => ?_) (fun hj0 => ?_)
      · refine tail _ ?_ hr2.2.2
        rw [show jcode jt = [] by subst hj0; rfl, List.append_nil]
        exact g2
      · have hjo : isop jt = true := by rcases hjt with e | e; exact absurd e hj0; exact e
        have hj34 : 1 ≤ jt ∧ jt ≤ 34 := by simp [isop] at hjo; omega
        refine Ok.ck hj34 (Ok.bindE c_iscm ?_)
        dsimp only
        cases hcc : iscm jt with
        | true =>
          rw [b2i_t (Eq.refl _)]
          refine Ok.f (by decide) (tail _ ?_ hr2.2.2)
          have : jt = 14 ∨ jt = 15 := by simpa [iscm] using hcc
          rw [show jcode jt = [] by rcases this with e | e <;> subst e <;> rfl, List.append_nil]
          exact g2
        | false =>
          have h12 : jt = 12 ∨ jt = 13 := by
            simp [isop] at hjo
            simp [iscm] at hcc
            omega
          have ej : jcode jt = [tcode jt] := if_pos h12
          have ejl : (jcode jt).length = 1 := by rw [ej]; rfl
          rw [b2i_f (by decide)]
          refine Ok.t (Eq.refl _) (Ok.bindE (c_emit g2.2.1 (by omega)) (tail _ ?_ (Fr_tr Fr_cem hr2.2.2)))
          rw [ej]
          exact g2.trans (CX_cem g2.1 htx g2.2.1 (by omega))
theorem c_RE {f tx : Nat} {E : ET} (htx : 116 ≤ tx) (hf : 1300 < f) {n i c : Nat} {res : PR} {u : MT} (hres : pL E n 0 0 0 i = some res) (h : CS E i u) (hc : Nm (gI u tx 4) c) (hci : c ≤ i) : Ok (RE f tx 8 0 u) (CXp E tx u c res) :=
  c_E htx hf n 0 0 0 i res hres 7 f 0 0 u c 0 (by omega) (by omega) nm0 nm0 (by omega) (by have := h.2.1.1; omega) h hc (by show c + 0 + 0 ≤ i; omega) (Or.inl (Eq.refl _)) (Or.inl (Eq.refl _))
