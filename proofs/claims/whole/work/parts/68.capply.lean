/-! ===== the class: a RULE runs ===== -/
theorem lg_gt {x : Int64} : 0 < lg_cmp x 0 ↔ 0 < x.toInt := by
  have e0 : (0 : Int64).toInt = 0 := rfl
  have h := @lg_le x 0
  rw [e0] at h
  constructor
  · intro hh
    have h1 := i_lt.mp hh
    by_cases c : x.toInt ≤ 0
    · have := i_le.mp (h.mpr c); omega
    · omega
  · intro hh
    refine i_lt.mpr ?_
    by_cases c : (lg_cmp x 0).toInt ≤ (0 : Int32).toInt
    · have := h.mp (i_le.mpr c); omega
    · omega
/-- a watched RULE's doings, fills too -/
def WA (x2 : Int32) (n : Nat) (u : MT) (s : QS) (r : MT) (s' : QS) : Prop := WD x2 n u s r s' ∧ (x2 = gI u 116 16 → gI u 116 17 = 0 → gI r 116 17 = qF s' - qF s) ∧ (x2 ≠ gI u 116 16 → gI r 116 17 = gI u 116 17)
def amt (s : QS) (n q : Nat) (l : List Int32) (src : Int32) : Int32 := if l = [] then src else if (0 : Int32) < (if evv s n q l < src then evv s n q l else src) then (if evv s n q l < src then evv s n q l else src) else 0
def fil (s : QS) (cap x : Int32) : QS := (qP s - (if cap - qS s < x then cap - qS s else x), qS s + (if cap - qS s < x then cap - qS s else x), qF s + (if cap - qS s < x then cap - qS s else x), qW s, qL s, qH s, qA s, qB s, qR s)
def prc (s : QS) (k : Nat) (x : Int32) : QS := (qP s, qS s, qF s, qW s, qL s, qH s, qA s, qB s, upf (qR s) k x)
def rul (s : QS) (n q : Nat) (sh : Nat → Int32) (cap : Int32) (how : Nat) (r : AR) : QS :=
  if rWhen r ≠ [] ∧ evv s n q (rWhen r) = 0 then s else
  if rAct r = 19 then prc s (rPri r - 10) (rNum r) else
  if rAct r = 18 then fil s cap (amt s n q (rAmt r) (qP s)) else
  giv s n q sh how r (amt s n q (rAmt r) (if rSrc r = 9 then qP s else qS s))
theorem chl_24 {s : QS} {n : Nat} {a b : Int32} : chl s n 24 a = chl s n 24 b := by
  unfold chl ch0 okW
  simp
section
variable {f : Nat} {s : QS} {n q : Nat}
theorem c_handRest {u : MT} {tx i src how : Nat} {x2 x3 : Int32} (hf : 1300 < f) (hW : WV u s n q) (htx : 128 ≤ tx) (hi : i < 24) (hx2 : Nm x2 i) {C : List Nat} (hC : Asc n C) (hL : Lst u C) (hhow : gK u tx 2 = how) (hh34 : how ≤ 34) (hsrc : gK u (tx + 3 + i) 5 = src) (hs34 : src ≤ 34) :
    Ok (F_X10_handRest f tx x2 x3 u) (fun r => WV r (ons src (ordr s n q how C) (s, x3)).1 n q ∧ WD x2 n u s r (ons src (ordr s n q how C) (s, x3)).1) := by
  have h12 := hW.n12
  have hlen := hC.len
  -- two passes
  have two : ∀ (v : MT) (D : List Nat) (st : Nat) (x4 : Int32), WV v s n q → WD x2 n u s v s → Lst v D → (∀ x ∈ D, x < n) → D.length ≤ 12 → gK v (tx + 3 + i) 5 = src → Nm x4 st → Ok (B_X10_handRest_54 f tx x2 x3 x4 v) (fun r => WV r (ons src (D.filter (fun h => decide (st ≤ h)) ++ D.filter (fun h => decide (h < st))) (s, x3)).1 n q ∧ WD x2 n u s r (ons src (D.filter (fun h => decide (st ≤ h)) ++ D.filter (fun h => decide (h < st))) (s, x3)).1) := by
    intro v D st x4 hv hD hLv hDn hD12 hk h4
    have e1 : D.filter (fun h => decide (st ≤ h) && decide (h < 12)) = D.filter (fun h => decide (st ≤ h)) := List.filter_congr (fun h hh => by rw [decide_eq_true (show h < 12 by have := hDn h hh; omega), Bool.and_true])
    have e2 : D.filter (fun h => decide (0 ≤ h) && decide (h < st)) = D.filter (fun h => decide (h < st)) := List.filter_congr (fun h hh => by rw [decide_eq_true (Nat.zero_le h), Bool.true_and])
    rw [B_X10_handRest_54]
    refine Ok.ck (hx2.ix hi) ?_
    rw [hx2.nat]
    obtain ⟨r, er, r1, r2, r3⟩ := c_handOnes (f := f) (a1 := tx + 3 + i) (x2 := x2) hf (by omega) hs34 hDn hD12 h4 (show Nm (12 : Int32) 12 from rfl) v x3 hv hLv hk
    have hfr := fr_F_X10_handOnes er
    rw [e1] at r1 r2 r3
    refine Ok.bindE er ?_
    rw [r1]
    obtain ⟨r', er', q1, q2, q3⟩ := c_handOnes (f := f) (a1 := tx + 3 + i) (x2 := x2) hf (by omega) hs34 hDn hD12 nm0 h4 r.2 _ r2 (hLv.fr (hfr.1 116 12 (by simp [nin, wI_X10_handOnes])) (fun k => hfr.1 122 k (by simp [nin, wI_X10_handOnes]))) (by rw [hfr.2.2 _ 5 trivial]; exact hk)
    rw [e2] at q2 q3
    refine Ok.bindE er' (Ok.some ?_)
    rw [ons_app]
    exact ⟨q2, (hD.trans r3).trans q3⟩
  have all0 : ∀ D : List Nat, D.filter (fun h => decide (0 ≤ h)) ++ D.filter (fun h => decide (h < 0)) = D := fun D => by
    rw [List.filter_eq_self.mpr (fun a _ => decide_eq_true (Nat.zero_le a)), List.filter_eq_nil_iff.mpr (fun a _ => by simp), List.append_nil]
  rw [F_X10_handRest]
  refine Ok.ck (by rw [hhow]; exact hh34) ?_
  rw [hhow]
  refine Ok.ite (fun h33 => ?_) (fun h33 => Ok.ite (fun h34 => ?_) (fun h34 => ?_))
  · obtain ⟨v, ev, hv⟩ := c_sortByWant (f := f) hf hW hC.2 (by omega) hL
    have hfr := fr_F_X10_sortByWant ev
    refine Ok.bindE ev ?_
    have hWv : WV v s n q := hW.cho (fun a k h1 h2 h3 h4 => hfr.1 a k (by simp only [nin, wI_X10_sortByWant]; exact ⟨fun e1 e2 => absurd (show a = 122 by omega) h1, trivial⟩))
    have hDv : WD x2 n u s v s := ⟨hfr.1 116 16 (by simp [nin, wI_X10_sortByWant]), fun _ k _ => by rw [hfr.1 126 k (by simp [nin, wI_X10_sortByWant])], fun _ k _ => hfr.1 126 k (by simp [nin, wI_X10_sortByWant])⟩
    have := two v (isrt (qW s) C []) 0 0 hWv hDv hv (fun x hx => by rcases (isrt_mem _ _).mp hx with e | e; exact hC.2 x e; cases e) (by rw [isrt_len]; show C.length + 0 ≤ 12; omega) (by rw [hfr.2.2 _ 5 trivial]; exact hsrc) nm0
    rw [all0] at this
    rw [show ordr s n q how C = isrt (qW s) C [] from if_pos h33]
    exact this
  · refine Ok.ite (fun hn0 => ?_) (fun hn0 => ?_)
    · have h0 : n = 0 := by have := (hW.2.2.2.2.2.2.1.le nm0).mp hn0; omega
      have hnil : C = [] := by
        cases C with
        | nil => rfl
        | cons x C => have := hC.2 x (by simp); omega
      have := two u C 0 0 hW WD.rfl hL hC.2 (by omega) hsrc nm0
      rw [all0] at this
      rw [show ordr s n q how C = C by unfold ordr; rw [if_neg h33, if_pos h34, hnil]; rfl]
      exact this
    · have hne : ¬ gI u 101 2 = 0 := fun e => hn0 (by rw [e]; decide)
      refine Ok.ck hne ?_
      have := two u C (q % n) _ hW WD.rfl hL hC.2 (by omega) hsrc (hW.2.2.2.2.2.1.mod hW.2.2.2.2.2.2.1)
      rw [show ordr s n q how C = C.filter (fun h => decide (q % n ≤ h)) ++ C.filter (fun h => decide (h < q % n)) by unfold ordr; rw [if_neg h33, if_pos h34]]
      exact this
  · have := two u C 0 0 hW WD.rfl hL hC.2 (by omega) hsrc nm0
    rw [all0] at this
    rw [show ordr s n q how C = C by unfold ordr; rw [if_neg h33, if_neg h34]]
    exact this
theorem c_give {u : MT} {tx i how : Nat} {x2 a : Int32} {sh : Nat → Int32} {rl : AR} (hf : 1300 < f) (hW : WV u s n q) (htx : 128 ≤ tx) (hi : i < 24) (hx2 : Nm x2 i) (hsh : ∀ h, h < n → gI u 102 h = sh h) (hhow : gK u tx 2 = how) (hh34 : how ≤ 34)
    (h5 : gK u (tx + 3 + i) 5 = rSrc rl) (h6 : gK u (tx + 3 + i) 6 = rWho rl) (h7 : gK u (tx + 3 + i) 7 = rWay rl) (h9 : rWho rl ≠ 24 → gI u (tx + 3 + i) 9 = rNum rl) (hs34 : rSrc rl ≤ 34) (hw34 : rWho rl ≤ 34) (hy34 : rWay rl ≤ 34) :
    Ok (F_X10_give f tx x2 a u) (fun r => WV r (giv s n q sh how rl a) n q ∧ WD x2 n u s r (giv s n q sh how rl a)) := by
  have h12 := hW.n12
  rw [F_X10_give]
  refine Ok.ck (hx2.ix hi) ?_
  rw [hx2.nat]
  refine Ok.ite (fun ha => Ok.some ?_) (fun ha => ?_)
  · rw [show giv s n q sh how rl a = s from if_pos ha]; exact ⟨hW, WD.rfl⟩
  · obtain ⟨v, ev, hv⟩ := c_choose (f := f) (a1 := tx + 3 + i) hf hW (by omega) h6 hw34 rfl
    have hfv := fr_F_X10_choose ev
    have echl : chl s n (rWho rl) (gI u (tx + 3 + i) 9) = chl s n (rWho rl) (rNum rl) := by
      by_cases e : rWho rl = 24
      · rw [e]; exact chl_24
      · rw [h9 e]
    rw [echl] at hv
    have hWv : WV v s n q := hW.cho (fun a k h1 h2 h3 h4 => hfv.1 a k (by
      simp only [nin, wI_X10_choose]
      refine ⟨?_, ?_, ?_, trivial⟩ <;> intro e1 e2 <;> first | exact absurd (show a = 122 by omega) h1 | exact absurd (show a = 123 by omega) h2 | exact ⟨by decide, by rcases h4 with h4 | h4; exact absurd (show a = 116 by omega) h4; omega⟩))
    have hDv : WD x2 n u s v s := ⟨hfv.1 116 16 (by simp [nin, wI_X10_choose]), fun _ k _ => by rw [hfv.1 126 k (by simp [nin, wI_X10_choose])], fun _ k _ => hfv.1 126 k (by simp [nin, wI_X10_choose])⟩
    refine Ok.bindE ev ?_
    rw [hfv.2.2 _ 7 trivial, h7]
    have hC : Asc n (chl s n (rWho rl) (rNum rl)) := chl_asc
    have hlen := hC.len
    obtain ⟨r5, e5, w1, w2⟩ := c_weigh (f := f) (sh := sh) hf hWv hC hv hy34 (fun h hh => by rw [hfv.1 102 h (by simp [nin, wI_X10_choose])]; exact hsh h hh)
    have hf5 := fr_F_X10_weigh e5
    refine Ok.bindE e5 ?_
    rw [w1]
    have hW5 : WV r5.2 s n q := hWv.cho (fun a k h1 h2 h3 h4 => hf5.1 a k (by simp only [nin, wI_X10_weigh]; exact ⟨fun e1 e2 => absurd (show a = 124 by omega) h3, trivial⟩))
    have hD5 : WD x2 n u s r5.2 s := hDv.trans ⟨hf5.1 116 16 (by simp [nin, wI_X10_weigh]), fun _ k _ => by rw [hf5.1 126 k (by simp [nin, wI_X10_weigh])], fun _ k _ => hf5.1 126 k (by simp [nin, wI_X10_weigh])⟩
    have hL5 : Lst r5.2 (chl s n (rWho rl) (rNum rl)) := hv.fr (hf5.1 116 12 (by simp [nin, wI_X10_weigh])) (fun k => hf5.1 122 k (by simp [nin, wI_X10_weigh]))
    have hK5 : ∀ a k, gK r5.2 a k = gK u a k := fun a k => by rw [hf5.2.2 a k trivial, hfv.2.2 a k trivial]
    refine Ok.ite (fun ht => ?_) (fun ht => Ok.some ?_)
    · have ht' := lg_gt.mp ht
      have htne : ¬ wsum (wgt s sh (rWay rl)) (chl s n (rWho rl) (rNum rl)) 0 = 0 := fun e => by rw [e] at ht'; exact absurd ht' (by decide)
      have eg : giv s n q sh how rl a = if (gvl (rSrc rl) a (wgt s sh (rWay rl)) (wsum (wgt s sh (rWay rl)) (chl s n (rWho rl) (rNum rl)) 0) (chl s n (rWho rl) (rNum rl)) (s, a)).2.toInt < ((chl s n (rWho rl) (rNum rl)).length : Int) then
          (ons (rSrc rl) (ordr (gvl (rSrc rl) a (wgt s sh (rWay rl)) (wsum (wgt s sh (rWay rl)) (chl s n (rWho rl) (rNum rl)) 0) (chl s n (rWho rl) (rNum rl)) (s, a)).1 n q how (chl s n (rWho rl) (rNum rl))) (gvl (rSrc rl) a (wgt s sh (rWay rl)) (wsum (wgt s sh (rWay rl)) (chl s n (rWho rl) (rNum rl)) 0) (chl s n (rWho rl) (rNum rl)) (s, a))).1
          else (gvl (rSrc rl) a (wgt s sh (rWay rl)) (wsum (wgt s sh (rWay rl)) (chl s n (rWho rl) (rNum rl)) 0) (chl s n (rWho rl) (rNum rl)) (s, a)).1 := by
        unfold giv; rw [if_neg ha, if_pos ht']
      rw [eg]
      generalize chl s n (rWho rl) (rNum rl) = C at *
      generalize wsum (wgt s sh (rWay rl)) C 0 = tot at *
      -- the loop
      have loop : ∀ (d c : Nat) (x7 x8 : Int32) (z : MT) (s' : QS) (m : Nat), c + d = C.length → Nm x8 c → d < m → WV z s' n q → WD x2 n u s z s' → Lst z C → (∀ a k, gK z a k = gK u a k) → (∀ j, j < C.length → gI z 124 (C.getD j 0) = wgt s sh (rWay rl) (C.getD j 0)) → gvl (rSrc rl) a (wgt s sh (rWay rl)) tot (C.take c) (s, a) = (s', x7) →
          Ok (B_X10_give_44 f m tx x2 a (tx + 3 + i) tot x7 x8 z) (fun r => WV r (if (gvl (rSrc rl) a (wgt s sh (rWay rl)) tot C (s, a)).2.toInt < (C.length : Int) then (ons (rSrc rl) (ordr (gvl (rSrc rl) a (wgt s sh (rWay rl)) tot C (s, a)).1 n q how C) (gvl (rSrc rl) a (wgt s sh (rWay rl)) tot C (s, a))).1 else (gvl (rSrc rl) a (wgt s sh (rWay rl)) tot C (s, a)).1) n q ∧ WD x2 n u s r (if (gvl (rSrc rl) a (wgt s sh (rWay rl)) tot C (s, a)).2.toInt < (C.length : Int) then (ons (rSrc rl) (ordr (gvl (rSrc rl) a (wgt s sh (rWay rl)) tot C (s, a)).1 n q how C) (gvl (rSrc rl) a (wgt s sh (rWay rl)) tot C (s, a))).1 else (gvl (rSrc rl) a (wgt s sh (rWay rl)) tot C (s, a)).1)) := by
        intro d
        induction d with
        | zero =>
          intro c x7 x8 z s' m hc hx8 hm hz hDz hLz hKz hwz he
          obtain ⟨m, rfl⟩ : ∃ m', m = m' + 1 := ⟨m - 1, by omega⟩
          rw [List.take_of_length_le (by omega)] at he
          rw [B_X10_give_44, he]
          have hl1 : (gI z 116 12).toInt = (C.length : Int) := hLz.1
          refine Ok.t ((hLz.1.le hx8).mpr (by omega)) (Ok.ite (fun hle => Ok.some ?_) (fun hle => ?_))
          · have := i_le.mp hle
            rw [if_neg (by show ¬ x7.toInt < _; omega)]; exact ⟨hz, hDz⟩
          · have : ¬ (gI z 116 12).toInt ≤ x7.toInt := fun e => hle (i_le.mpr e)
            rw [if_pos (by show x7.toInt < _; omega)]
            exact Ok.bind (c_handRest hf hz htx hi hx2 hC hLz (by rw [hKz]; exact hhow) hh34 (by rw [hKz]; exact h5) hs34) (fun r hr => Ok.some ⟨hr.1, hDz.trans hr.2⟩)
        | succ d ih =>
          intro c x7 x8 z s' m hc hx8 hm hz hDz hLz hKz hwz he
          obtain ⟨m, rfl⟩ : ∃ m', m = m' + 1 := ⟨m - 1, by omega⟩
          have hcl : c < C.length := by omega
          have hcn : C.getD c 0 < n := hC.2 _ (getD_mem hcl)
          have hcc := hLz.2 c hcl
          rw [B_X10_give_44]
          refine Ok.f (fun e => by have := (hLz.1.le hx8).mp e; omega) (Ok.ck (hx8.ix (by omega)) ?_)
          rw [hx8.nat]
          refine Ok.ck (hcc.ix (by omega)) (Ok.ck htne (Ok.bindE (c_room hz hcn hcc) ?_))
          dsimp only
          rw [hcc.nat, hwz c hcl]
          obtain ⟨w, ew, w1', w2'⟩ := c_hand (f := f) (x2 := x2) (x4 := gvp a (wgt s sh (rWay rl)) tot (room s' (C.getD c 0)) (C.getD c 0)) hz (show 128 ≤ tx + 3 + i by omega) hcn hcc (by rw [hKz]; exact h5) hs34
          have hfw := fr_F_X10_hand ew
          refine Ok.bindE ew ?_
          refine ih (c + 1) _ _ w _ m (by omega) (hx8.succ (by omega)) (by omega) w1' (hDz.trans w2') (hLz.fr (hfw.1 116 12 (by simp [nin, wI_X10_hand])) (fun k => hfw.1 122 k (by simp [nin, wI_X10_hand]))) (fun a k => by rw [hfw.2.2 a k trivial]; exact hKz a k) (fun j hj => by rw [hfw.1 124 _ (by simp [nin, wI_X10_hand])]; exact hwz j hj) ?_
          rw [take_snoc (d := 0) hcl, gvl_app, he]; rfl
      exact loop C.length 0 a 0 r5.2 s f (by omega) nm0 (by omega) hW5 hD5 hL5 hK5 w2 rfl
    · have ht' : ¬ 0 < (wsum (wgt s sh (rWay rl)) (chl s n (rWho rl) (rNum rl)) 0).toInt := fun e => ht (lg_gt.mpr e)
      rw [show giv s n q sh how rl a = s by unfold giv; rw [if_neg ha, if_neg ht']]
      exact ⟨hW5, hD5⟩
end
