/-! ===== the class reads a RULE ===== -/
def segC (v : MT) (tx s : Nat) (l : List Int32) : Prop := ∀ k, k < l.length → gI v (tx + 2) (s + k) = l.getD k 0
theorem segC.fr {u v : MT} {tx s : Nat} {l : List Int32} (h : segC u tx s l) (c : Nat) (hc : s + l.length ≤ c) (he : ∀ k, k < c → gI v (tx + 2) k = gI u (tx + 2) k) : segC v tx s l := fun k hk => by rw [he _ (by omega)]; exact h k hk
def CRw (v : MT) (tx a c : Nat) (rl : AR) : Prop := ∃ s, Nm (gI v a 1) s ∧ Nm (gI v a 2) (s + (rWhen rl).length) ∧ s + (rWhen rl).length ≤ c ∧ segC v tx s (rWhen rl)
def CRa (v : MT) (tx a c : Nat) (rl : AR) : Prop :=
  gK v a 0 = rAct rl ∧ (rAct rl = 19 → Nm (gI v a 8) (rPri rl) ∧ gI v a 9 = rNum rl) ∧
  (rAct rl ≠ 19 → ∃ s, Nm (gI v a 3) s ∧ Nm (gI v a 4) (s + (rAmt rl).length) ∧ s + (rAmt rl).length ≤ c ∧ segC v tx s (rAmt rl)) ∧
  (rAct rl = 17 → gK v a 5 = rSrc rl ∧ gK v a 6 = rWho rl ∧ gK v a 7 = rWay rl ∧ (rWho rl ≠ 24 → gI v a 9 = rNum rl))
def CR (v : MT) (tx a c : Nat) (rl : AR) : Prop := CRw v tx a c rl ∧ CRa v tx a c rl
/-- a RULE that was read stays -/
theorem CR.fr {u v : MT} {tx a c c' : Nat} {rl : AR} (h : CR u tx a c rl) (hc : c ≤ c') (hI : ∀ k, gI v a k = gI u a k) (hK : ∀ k, gK v a k = gK u a k) (he : ∀ k, k < c → gI v (tx + 2) k = gI u (tx + 2) k) : CR v tx a c' rl := by
  obtain ⟨⟨s, w1, w2, w3, w4⟩, a1, a2, a3, a4⟩ := h
  refine ⟨⟨s, by rw [hI]; exact w1, by rw [hI]; exact w2, by omega, w4.fr c w3 he⟩, by rw [hK]; exact a1, fun h => by rw [hI, hI]; exact a2 h, fun h => ?_, fun h => by rw [hK, hK, hK, hI]; exact a4 h⟩
  obtain ⟨s, w1, w2, w3, w4⟩ := a3 h
  exact ⟨s, by rw [hI]; exact w1, by rw [hI]; exact w2, by omega, w4.fr c w3 he⟩
abbrev wA (tx a : Nat) : WL := [(112, 1, 5), (112, 1, 6), (tx, 1, 5), (tx + 2, 1, 0), (a, 1, 4), (a, 1, 5), (a, 1, 9), (a, 1, 10)]
abbrev kA (a : Nat) : WL := [(a, 1, 1), (a, 1, 6), (a, 1, 7), (a, 1, 8)]
theorem up_E {tx a : Nat} {u v : MT} (h : Fr (wE tx) [] [] u v) : Fr (wA tx a) [] (kA a) u v :=
  Fr_up (Fs_c (List.mem_of_getElem? (i := 0) rfl) (Fs_c (List.mem_of_getElem? (i := 1) rfl) (Fs_c (List.mem_of_getElem? (i := 2) rfl) (Fs_c (List.mem_of_getElem? (i := 3) rfl) Fs_n)))) Fs_n Fs_n h
theorem up_Y {tx a : Nat} {u v : MT} (h : Fr (wI_X3_takeWays a) [] (wK_X3_takeWays a) u v) : Fr (wA tx a) [] (kA a) u v := by
  refine Fr_up ?_ Fs_n ?_ h
  · exact fun e he => by simp [wI_X3_takeWays] at he; rcases he with e1 | e1 | e1 <;> subst e1 <;> simp
  · exact fun e he => by simp [wK_X3_takeWays] at he; rcases he with e1 | e1 | e1 <;> subst e1 <;> simp
theorem up_P {tx a : Nat} {u v : MT} (h : Fr (wI_X3_takePrice a) [] [] u v) : Fr (wA tx a) [] (kA a) u v := by
  refine Fr_up ?_ Fs_n Fs_n h
  exact fun e he => by simp [wI_X3_takePrice] at he; rcases he with e1 | e1 | e1 | e1 <;> subst e1 <;> simp
section
variable {f : Nat} {E : ET} {tx : Nat} {i : Nat} {u : MT}
theorem c_price {t : Nat} : ∃ x, F_X9_price f t u = some (x, u) ∧ (pPri t = 0 → x = -1) ∧ (pPri t ≠ 0 → Nm x (pPri t)) := by
  unfold F_X9_price pPri
  by_cases h1 : t = 9
  · rw [if_pos h1, if_pos h1]; exact ⟨_, rfl, fun h => absurd h (by decide), fun _ => rfl⟩
  · rw [if_neg h1, if_neg h1]
    by_cases h2 : t = 10
    · rw [if_pos h2, if_pos h2]; exact ⟨_, rfl, fun h => absurd h (by decide), fun _ => rfl⟩
    · rw [if_neg h2, if_neg h2]
      by_cases h3 : t = 30
      · rw [if_pos h3, if_pos h3]; exact ⟨_, rfl, fun h => absurd h (by decide), fun _ => rfl⟩
      · rw [if_neg h3, if_neg h3]
        by_cases h4 : t = 31
        · rw [if_pos h4, if_pos h4]; exact ⟨_, rfl, fun h => absurd h (by decide), fun _ => rfl⟩
        · rw [if_neg h4, if_neg h4]; exact ⟨_, rfl, fun _ => rfl, fun h => absurd rfl h⟩
theorem c_takePrice (h : CS E i u) {a1 : Nat} (ha : 116 ≤ a1) : Ok (F_X3_takePrice f tx a1 u) (fun r =>
    (pPri (tT E i) = 0 → r.1 = 0 ∧ gI r.2 112 5 = flt E 1 i) ∧ (pPri (tT E i) ≠ 0 → (pNum E 0 100 (i + 1)).1 ≠ 0 → r.1 = 0 ∧ gI r.2 112 5 = flt E (Int32.ofNat (pNum E 0 100 (i + 1)).1) (pNum E 0 100 (i + 1)).2) ∧
    (pPri (tT E i) ≠ 0 → (pNum E 0 100 (i + 1)).1 = 0 → r.1 = 1 ∧ CS E (pNum E 0 100 (i + 1)).2 r.2 ∧ Nm (gI r.2 a1 8) (pPri (tT E i)) ∧ gI r.2 a1 9 = tV E (i + 1))) := by
  rw [F_X3_takePrice]
  refine Ok.ck h.ix (Ok.ck (by rw [h.tok]; exact ⟨h.ge, h.le⟩) ?_)
  rw [h.tok]
  obtain ⟨x, e1, e2, e3⟩ := c_price (f := f) (u := u) (t := tT E i)
  refine Ok.bindE e1 ?_
  dsimp only
  rw [g_same]
  have hS : CS E i (sI u a1 8 x) := h.put (Or.inl (by omega)) (by omega) (by omega)
  by_cases hp : pPri (tT E i) = 0
  · refine Ok.t (e2 hp) (Ok.bindE (c_refuse hS) (Ok.ck (Or.inl rfl) (Ok.some ⟨fun _ => ⟨rfl, cwr_flt⟩, fun h => absurd hp h, fun h => absurd hp h⟩)))
  · have hx := e3 hp
    have hlt := h.lt (show tT E i ≠ 2 from fun e => by rw [e] at hp; exact hp rfl)
    refine Ok.f (fun e => by have hx : x.toInt = (pPri (tT E i) : Int) := hx; rw [e, show (-1 : Int32).toInt = -1 from rfl] at hx; omega) (Ok.bindE (c_step hS hlt) ?_)
    have hS2 := hS.next hlt
    obtain ⟨r, n1, n2, n3⟩ := c_num (f := f) (tx := tx) hS2 ha (a := 0) (b := 100) (lo := 0) (hi := 100) rfl rfl
    refine Ok.bindE n1 ?_
    have hf := pNum_far h.2.1 (lo := 0) (hi := 100) (i := i + 1) hlt
    by_cases h0 : (pNum E 0 100 (i + 1)).1 = 0
    · have e4 := n2 h0
      have hff := hf.1 h0
      subst e4
      refine Ok.ck (Or.inr rfl) (Ok.some ⟨fun h => absurd h hp, fun _ h => absurd h0 h, fun _ _ => ⟨rfl, ?_, ?_, ?_⟩⟩)
      · rw [hff.2.2.2.1]
        exact (hS2.put (Or.inl (by omega)) (by omega) (by omega)).next hff.2.2.2.2
      · rw [show gI (cadv (sI (cadv (sI u a1 8 x)) a1 9 (tV E (i + 1)))) a1 8 = x from (g_ne _ _ _ _ (by omega)).trans ((g_nk _ _ _ (by decide)).trans ((g_ne _ _ _ _ (by omega)).trans (g_same _ _ _ _)))]
        exact hx
      · exact (g_ne _ _ _ _ (by omega)).trans (g_same _ _ _ _)
    · have e4 := n3 h0
      exact Ok.ck (Or.inl e4.1) (Ok.some ⟨fun h => absurd h hp, fun _ _ => e4, fun _ h => absurd h h0⟩)
def CAp (E : ET) (tx a1 : Nat) (u : MT) (c : Nat) (p : Nat × Nat × AR) (r : Int32 × MT) : Prop :=
  (p.1 = 0 → r.1 = 1 ∧ CS E p.2.1 r.2 ∧ CRa r.2 tx a1 (c + (rAmt p.2.2).length) p.2.2 ∧ Nm (gI r.2 tx 4) (c + (rAmt p.2.2).length) ∧ ∀ k, k < c → gI r.2 (tx + 2) k = gI u (tx + 2) k) ∧
  (p.1 ≠ 0 → r.1 = 0 ∧ gI r.2 112 5 = flt E (Int32.ofNat p.1) p.2.1) ∧ Fr (wA tx a1) [] (kA a1) u r.2
theorem c_act (h : CS E i u) (hf : 1300 < f) {a1 c : Nat} (htx : 116 ≤ tx) (ha : tx + 2 < a1) {hn : Int} (hh : (gI u 112 6).toInt = hn) (h0 : 0 ≤ hn) (hc : Nm (gI u tx 4) c) (hci : c ≤ i) (w : List Int32) : Ok (F_X3_takeAct f tx a1 u) (CAp E tx a1 u c (pAct E hn w i)) := by
  have hL := h.2.1.1
  have hi := h.2.2.2.2
  rw [F_X3_takeAct]
  by_cases hb : tT E i = 17 ∨ tT E i = 18 ∨ tT E i = 19
  · have hlt := h.lt (show tT E i ≠ 2 by omega)
    have h1 : CS E (i + 1) (sK (cadv u) a1 0 (tT E i)) := (h.next hlt).putK (by omega)
    have fr1 : Fr (wA tx a1) [] (kA a1) u (sK (cadv u) a1 0 (tT E i)) := Fr_sKk (List.mem_of_getElem? (i := 0) rfl) (up_E Fr_cadv)
    refine Ok.bindE (c_oneOf_t h (by decide) (by decide) (by decide) hb (by omega)) ?_
    dsimp only
    rw [k_same]
    refine Ok.f (by omega) (Ok.ck h.le ?_)
    by_cases h19 : tT E i = 19
    · refine Ok.t h19 ?_
      have hp := c_takePrice (f := f) (tx := tx) h1 (show 116 ≤ a1 by omega)
      obtain ⟨r, er, g1, g2, g3⟩ := hp
      have hfr := fr_F_X3_takePrice er
      refine Ok.bindE er ?_
      by_cases hpp : pPri (tT E (i + 1)) = 0
      · have e : pAct E hn w i = (1, i + 1, rNone) := by unfold pAct; rw [if_pos h19, if_pos hpp]
        rw [e]
        obtain ⟨q1, q2⟩ := g1 hpp
        refine Ok.ck (Or.inl q1) (Ok.some ⟨fun h => absurd h ne1, fun _ => ⟨q1, q2⟩, Fr_tr (up_P hfr) fr1⟩)
      · have e : pAct E hn w i = ((pNum E 0 100 (i + 2)).1, (pNum E 0 100 (i + 2)).2, (19, w, [], 0, 0, tV E (i + 2), 0, pPri (tT E (i + 1)))) := by unfold pAct; rw [if_pos h19, if_neg hpp]
        rw [e]
        by_cases hn0 : (pNum E 0 100 (i + 2)).1 = 0
        · obtain ⟨q1, q2, q3, q4⟩ := g3 hpp hn0
          refine Ok.ck (Or.inr q1) (Ok.some ⟨fun _ => ⟨q1, q2, ⟨?_, fun _ => ⟨q3, q4⟩, fun h => absurd rfl h, fun h => absurd h (by show ¬ (19 : Nat) = 17; decide)⟩, ?_, fun k hk => ?_⟩, fun h => absurd hn0 h, Fr_tr (up_P hfr) fr1⟩)
          · rw [hfr.2.2 a1 0 trivial]; exact (k_same _ _ _ _).trans h19
          · rw [hfr.1 tx 4 (by simp [nin, wI_X3_takePrice] <;> omega)]
            rw [show gI (sK (cadv u) a1 0 (tT E i)) tx 4 = gI u tx 4 from (g_K _ _ _ _ _ _).trans (g_ne _ _ _ _ (by omega))]; exact hc
          · rw [hfr.1 (tx + 2) k (by simp [nin, wI_X3_takePrice] <;> omega)]
            exact (g_K _ _ _ _ _ _).trans (g_ne _ _ _ _ (by omega))
        · obtain ⟨q1, q2⟩ := g2 hpp hn0
          exact Ok.ck (Or.inl q1) (Ok.some ⟨fun h => absurd h hn0, fun _ => ⟨q1, q2⟩, Fr_tr (up_P hfr) fr1⟩)
    · have h1718 : tT E i = 17 ∨ tT E i = 18 := by omega
      refine Ok.f h19 ?_
      have ec : gI (sK (cadv u) a1 0 (tT E i)) tx 4 = gI u tx 4 := (g_K _ _ _ _ _ _).trans (g_ne _ _ _ _ (by omega))
      rw [ec]
      have h2 : CS E (i + 1) (sI (sK (cadv u) a1 0 (tT E i)) a1 3 (gI u tx 4)) := h1.put (Or.inl (by omega)) (by omega) (by omega)
      have fr2 : Fr (wA tx a1) [] (kA a1) u (sI (sK (cadv u) a1 0 (tT E i)) a1 3 (gI u tx 4)) := Fr_sIk (List.mem_of_getElem? (i := 4) rfl) fr1
      have hc2 : Nm (gI (sI (sK (cadv u) a1 0 (tT E i)) a1 3 (gI u tx 4)) tx 4) c := by rw [g_ne _ _ _ _ (by omega), ec]; exact hc
      have e2 : ∀ k, gI (sI (sK (cadv u) a1 0 (tT E i)) a1 3 (gI u tx 4)) (tx + 2) k = gI u (tx + 2) k := fun k => by rw [g_ne _ _ _ _ (by omega)]; exact (g_K _ _ _ _ _ _).trans (g_ne _ _ _ _ (by omega))
      refine Ok.ck h2.ix (Ok.ck (by rw [h2.tok]; exact h2.le) ?_)
      rw [h2.tok]
      -- behind the amount
      have tail : ∀ v, (pAmt E (i + 1)).1 = 0 → CX E tx (sI (sK (cadv u) a1 0 (tT E i)) a1 3 (gI u tx 4)) v (pAmt E (i + 1)).2.1 c (pAmt E (i + 1)).2.2 → Fr (wE tx) [] [] (sI (sK (cadv u) a1 0 (tT E i)) a1 3 (gI u tx 4)) v → Ok (B_X3_takeAct_85 f tx a1 v) (CAp E tx a1 u c (pAct E hn w i)) := by
        intro v hp0 hX hfv
        have hv : CS E (pAmt E (i + 1)).2.1 (sI v a1 4 (gI v tx 4)) := hX.1.put (Or.inl (by omega)) (by omega) (by omega)
        have fr3 : Fr (wA tx a1) [] (kA a1) u (sI v a1 4 (gI v tx 4)) := Fr_sIk (List.mem_of_getElem? (i := 5) rfl) (Fr_tr (up_E hfv) fr2)
        have hK0 : gK v a1 0 = tT E i := (hfv.2.2 a1 0 trivial).trans (k_same _ _ _ _)
        have h3 : Nm (gI v a1 3) c := by
          rw [hfv.1 a1 3 (by simp [nin] <;> omega), g_same]; exact hc
        rw [B_X3_takeAct_85, k_I, hK0]
        refine Ok.ck h.le ?_
        have hseg : segC (sI v a1 4 (gI v tx 4)) tx c (pAmt E (i + 1)).2.2 := fun k hk => by rw [g_ne _ _ _ _ (by omega)]; exact hX.2.2.2 k hk
        have hpre : ∀ k, k < c → gI (sI v a1 4 (gI v tx 4)) (tx + 2) k = gI u (tx + 2) k := fun k hk => by rw [g_ne _ _ _ _ (by omega), hX.2.2.1 k hk, e2]
        have hcs : Nm (gI (sI v a1 4 (gI v tx 4)) tx 4) (c + (pAmt E (i + 1)).2.2.length) := by rw [g_ne _ _ _ _ (by omega)]; exact hX.2.1
        have hI3 : Nm (gI (sI v a1 4 (gI v tx 4)) a1 3) c := by rw [g_nk _ _ _ (by decide)]; exact h3
        have hI4 : Nm (gI (sI v a1 4 (gI v tx 4)) a1 4) (c + (pAmt E (i + 1)).2.2.length) := by rw [g_same]; exact hX.2.1
        refine Ok.ite (fun h18 => Ok.some ?_) (fun h18 => ?_)
        · have e : pAct E hn w i = (0, (pAmt E (i + 1)).2.1, (18, w, (pAmt E (i + 1)).2.2, 0, 0, 0, 0, 0)) := by unfold pAct; rw [if_neg h19, if_pos h1718, if_pos hp0, if_pos h18]
          rw [e]
          refine ⟨fun _ => ⟨rfl, hv, ⟨?_, fun h => absurd h (by show ¬ (18 : Nat) = 19; decide), fun _ => ⟨c, hI3, hI4, Nat.le_refl _, hseg⟩, fun h => absurd h (by show ¬ (18 : Nat) = 17; decide)⟩, hcs, hpre⟩, fun h => absurd rfl h, fr3⟩
          rw [k_I, hK0, h18]; rfl
        · have h17 : tT E i = 17 := by omega
          have hhv : (gI (sI v a1 4 (gI v tx 4)) 112 6).toInt = hn := by
            rw [fr3.1 112 6 (by simp [nin] <;> omega)]; exact hh
          obtain ⟨r, er, hy⟩ := c_ways (f := f) (tx := tx) hv (show 116 ≤ a1 by omega) hhv h0
          have hfy := fr_F_X3_takeWays er
          have e : pAct E hn w i = ((pWays E hn (pAmt E (i + 1)).2.1).1, (pWays E hn (pAmt E (i + 1)).2.1).2.1, (17, w, (pAmt E (i + 1)).2.2, (pWays E hn (pAmt E (i + 1)).2.1).2.2.1, (pWays E hn (pAmt E (i + 1)).2.1).2.2.2.1, (pWays E hn (pAmt E (i + 1)).2.1).2.2.2.2.1, (pWays E hn (pAmt E (i + 1)).2.1).2.2.2.2.2, 0)) := by unfold pAct; rw [if_neg h19, if_pos h1718, if_pos hp0, if_neg h18]
          refine Ok.bindE er ?_
          rw [e]
          by_cases hy0 : (pWays E hn (pAmt E (i + 1)).2.1).1 = 0
          · obtain ⟨y1, y2, y3, y4, y5, y6⟩ := hy.1 hy0
            rw [y1]
            refine Ok.f ni1 (Ok.some ⟨fun _ => ⟨rfl, y2, ⟨?_, fun h => absurd h (by show ¬ (17 : Nat) = 19; decide), fun _ => ⟨c, ?_, ?_, Nat.le_refl _, fun k hk => ?_⟩, fun _ => ⟨y3, y4, y6, y5⟩⟩, ?_, fun k hk => ?_⟩, fun h => absurd hy0 h, Fr_tr (up_Y hfy) fr3⟩)
            · rw [hfy.2.2 a1 0 (by simp [nin, wK_X3_takeWays]), k_I, hK0, h17]; rfl
            · rw [hfy.1 a1 3 (by simp [nin, wI_X3_takeWays] <;> omega)]; exact hI3
            · rw [hfy.1 a1 4 (by simp [nin, wI_X3_takeWays] <;> omega)]; exact hI4
            · rw [hfy.1 (tx + 2) (c + k) (by simp [nin, wI_X3_takeWays] <;> omega)]; exact hseg k hk
            · rw [hfy.1 tx 4 (by simp [nin, wI_X3_takeWays] <;> omega)]; exact hcs
            · rw [hfy.1 (tx + 2) k (by simp [nin, wI_X3_takeWays] <;> omega)]; exact hpre k hk
          · obtain ⟨y1, y2⟩ := hy.2 hy0
            rw [y1]
            exact Ok.t rfl (Ok.some ⟨fun h => absurd h hy0, fun _ => ⟨rfl, y2⟩, Fr_tr (up_Y hfy) fr3⟩)
      refine Ok.ite (fun h24 => ?_) (fun h24 => ?_)
      · have hlt2 := h2.lt (show tT E (i + 1) ≠ 2 by omega)
        have ep : pAmt E (i + 1) = (0, i + 2, []) := if_pos h24
        refine Ok.bindE (c_step h2 hlt2) (tail _ (by rw [ep]) ?_ Fr_cadv)
        rw [ep]
        exact (CX.rfl h2 hc2).next htx hlt2
      · have ep : pAmt E (i + 1) = pE E (i + 1) := if_neg h24
        obtain ⟨r, er, hr⟩ := c_RE htx hf (pE_eq h.2.1 (show i + 1 ≤ tL E from hlt)) h2 hc2 (by omega)
        refine Ok.bindE er ?_
        by_cases hp0 : (pE E (i + 1)).1 = 0
        · obtain ⟨r1, r2⟩ := hr.1 hp0
          rw [r1]
          exact Ok.f ni1 (tail _ (by rw [ep]; exact hp0) (by rw [ep]; exact r2) hr.2.2)
        · obtain ⟨r1, r2⟩ := hr.2.1 hp0
          rw [r1]
          refine Ok.t rfl (Ok.some ?_)
          have e : pAct E hn w i = ((pE E (i + 1)).1, (pE E (i + 1)).2.1, rNone) := by unfold pAct; rw [if_neg h19, if_pos h1718, ep, if_neg hp0]
          rw [e]
          exact ⟨fun h => absurd h hp0, fun _ => ⟨rfl, r2⟩, Fr_tr (up_E hr.2.2) fr2⟩
  · refine Ok.bindE (c_oneOf_f h (by decide) (by decide) (by decide) (by omega) (by omega) (by omega)) ?_
    dsimp only
    rw [k_same]
    refine Ok.t rfl (Ok.some ?_)
    have e : pAct E hn w i = (1, i, rNone) := by unfold pAct; rw [if_neg (by omega), if_neg (by omega)]
    rw [e]
    exact ⟨fun h => absurd h ne1, fun _ => ⟨rfl, (g_K _ _ _ _ _ _).trans cwr_flt⟩, Fr_sKk (List.mem_of_getElem? (i := 0) rfl) (up_E Fr_cwr)⟩
end
