/-! ===== the reference reads an E ===== -/
def opo (x : Int32) : Int32 := if 0 ≤ x.toInt then 1 else if -6 < x.toInt then 2 else if x.toInt = -6 then 3 else if x.toInt = -7 then 4 else if x.toInt = -8 then 5 else 6
def ono (x : Int32) : Int32 := if 0 ≤ x.toInt then x else if -6 < x.toInt then -1 - x else 0
def remit (a b : Int32) (u : MT) : MT := sI (sI (sI u 182 (9100 + (gI u 184 7).toNatClampNeg) a) 183 (9100 + (gI u 184 7).toNatClampNeg) b) 184 7 (gI u 184 7 + 1)
theorem r_emit {f c : Nat} {a b : Int32} {u : MT} (h : Nm (gI u 184 7) c) (hc : c < 1300) : F_X12_emit f a b u = some (remit a b u) := by
  have h9 : Nm ((9100 : Int32) + gI u 184 7) (9100 + c) := Nm.add (show Nm (9100 : Int32) 9100 from rfl) h (by omega)
  rw [F_X12_emit]
  dsimp only
  rw [ck_p (h9.ix (by omega)), h9.nat, g_ne _ _ _ _ (by decide), g_ne _ _ _ _ (by decide), remit, h.nat]
/-- a code has been written behind what was there -/
def RY (E : ET) (u v : MT) (j c : Nat) (l : List Int32) : Prop :=
  RS E j v ∧ Nm (gI v 184 7) (c + l.length) ∧ (∀ k, k < 9100 + c → gI v 182 k = gI u 182 k ∧ gI v 183 k = gI u 183 k) ∧ ∀ k, k < l.length → gI v 182 (9100 + c + k) = opo (l.getD k 0) ∧ gI v 183 (9100 + c + k) = ono (l.getD k 0)
theorem RY.rfl {E : ET} {u : MT} {j c : Nat} (h : RS E j u) (hc : Nm (gI u 184 7) c) : RY E u u j c [] := ⟨h, hc, fun _ _ => ⟨Eq.refl _, Eq.refl _⟩, fun k hk => absurd hk (Nat.not_lt_zero k)⟩
theorem RY.trans {E : ET} {u v w : MT} {j j' c : Nat} {l l' : List Int32} (h : RY E u v j c l) (h' : RY E v w j' (c + l.length) l') : RY E u w j' c (l ++ l') := by
  refine ⟨h'.1, ?_, fun k hk => ?_, fun k hk => ?_⟩
  · rw [List.length_append, ← Nat.add_assoc]; exact h'.2.1
  · rw [(h'.2.2.1 k (by omega)).1, (h'.2.2.1 k (by omega)).2]; exact h.2.2.1 k hk
  · rw [List.length_append] at hk
    by_cases hl : k < l.length
    · rw [(h'.2.2.1 (9100 + c + k) (by omega)).1, (h'.2.2.1 (9100 + c + k) (by omega)).2]
      have := h.2.2.2 k hl
      simpa [List.getD, List.getElem?_append_left hl] using this
    · have := h'.2.2.2 (k - l.length) (by omega)
      rw [show 9100 + (c + l.length) + (k - l.length) = 9100 + c + k by omega] at this
      simpa [List.getD, List.getElem?_append_right (by omega : l.length ≤ k)] using this
theorem RY.next {E : ET} {u v : MT} {j c : Nat} {l : List Int32} (h : RY E u v j c l) (hj : j < tL E) : RY E u (adv v) (j + 1) c l := by
  refine ⟨h.1.next hj, ?_, fun k hk => ?_, fun k hk => ?_⟩
  · rw [show gI (adv v) 184 7 = gI v 184 7 from g_ne _ _ _ _ (by omega)]; exact h.2.1
  · rw [show gI (adv v) 182 k = gI v 182 k from g_ne _ _ _ _ (by omega), show gI (adv v) 183 k = gI v 183 k from g_ne _ _ _ _ (by omega)]; exact h.2.2.1 k hk
  · rw [show gI (adv v) 182 (9100 + c + k) = gI v 182 (9100 + c + k) from g_ne _ _ _ _ (by omega), show gI (adv v) 183 (9100 + c + k) = gI v 183 (9100 + c + k) from g_ne _ _ _ _ (by omega)]; exact h.2.2.2 k hk
theorem RY.put {E : ET} {u v : MT} {j c : Nat} {l : List Int32} (h : RY E u v j c l) {a k0 : Nat} {x : Int32} (ha : a = 187 ∨ a = 188 ∨ (a = 167 ∧ k0 = 26)) : RY E u (sI v a k0 x) j c l := by
  have hne : a ≠ 182 ∧ a ≠ 183 ∧ a ≠ 184 := by omega
  refine ⟨h.1.put (by omega) (by omega) (by omega), ?_, fun k hk => ?_, fun k hk => ?_⟩
  · rw [g_ne _ _ _ _ (by omega)]; exact h.2.1
  · rw [g_ne _ _ _ _ (by omega), g_ne _ _ _ _ (by omega)]; exact h.2.2.1 k hk
  · rw [g_ne _ _ _ _ (by omega), g_ne _ _ _ _ (by omega)]; exact h.2.2.2 k hk
theorem RY_emit {E : ET} {u : MT} {j c : Nat} {x : Int32} (h : RS E j u) (hc : Nm (gI u 184 7) c) (hc' : c < 1300) : RY E u (remit (opo x) (ono x) u) j c [x] := by
  refine ⟨((h.put (by decide) (by decide) (Or.inl (by decide))).put (by decide) (by decide) (Or.inl (by decide))).put (by decide) (by decide) (Or.inl (by decide)), ?_, fun k hk => ?_, fun k hk => ?_⟩
  · show Nm (gI (sI _ 184 7 _) 184 7) (c + 1)
    rw [g_same]; exact hc.succ (by omega)
  · rw [remit, hc.nat]
    constructor
    · rw [g_ne _ _ _ _ (by decide), g_ne _ _ _ _ (by decide), g_nk _ _ _ (by omega)]
    · rw [g_ne _ _ _ _ (by decide), g_nk _ _ _ (by omega), g_ne _ _ _ _ (by decide)]
  · have : k = 0 := by have : k < 1 := hk; omega
    subst this
    rw [remit, hc.nat]
    constructor
    · rw [g_ne _ _ _ _ (by decide), g_ne _ _ _ _ (by decide)]; exact g_same _ _ _ _
    · rw [g_ne _ _ _ _ (by decide)]; exact g_same _ _ _ _
theorem remit_ne {a b : Int32} {u : MT} {q k : Nat} (h1 : q ≠ 182) (h2 : q ≠ 183) (h3 : q ≠ 184) : gI (remit a b u) q k = gI u q k := by
  rw [remit, g_ne _ _ _ _ h3, g_ne _ _ _ _ h2, g_ne _ _ _ _ h1]
def swt (jt : Nat) : Int32 := if jt = 12 then 3 else if jt = 13 then 4 else 0
def gwt (cm : Nat) : Int32 := if cm = 14 then 5 else if cm = 15 then 6 else 0
/-- in an E, ahead of a PART or behind it -/
def RQ (E : ET) (ar cm jt i c : Nat) (u : MT) : Prop := RS E i u ∧ Nm (gI u 167 26) ar ∧ gI u 187 ar = swt jt ∧ gI u 188 ar = gwt cm ∧ Nm (gI u 184 7) c
def rK (f m : Nat) (r : Int32 × MT) : Option MT := if r.1 = 0 then B_X12_expression_36 f (fun x1' u' => B_X12_expression_6 f m x1' u') (0 : Int32) r.2 else B_X12_expression_31 f (fun x1' u' => B_X12_expression_6 f m x1' u') r.2
theorem rK_0 {f m : Nat} {u : MT} : rK f m (0, u) = B_X12_expression_6 f m 0 u := Eq.refl _
theorem rK_1 {f m : Nat} {u : MT} : rK f m (1, u) = B_X12_expression_6 f m 1 u := by rw [rK, if_neg (show ¬ (1 : Int32) = 0 by decide)]; rfl
theorem r6_0 {f m : Nat} {u : MT} (hm : 0 < m) : B_X12_expression_6 f m 0 u = some u := by
  obtain ⟨m, rfl⟩ : ∃ m', m = m' + 1 := ⟨m - 1, by omega⟩
  rw [B_X12_expression_6, if_pos (Eq.refl _)]
theorem r6_x {f m : Nat} {u : MT} (hm : 0 < m) (h : RX u) {x : Int32} : B_X12_expression_6 f m x u = some u := by
  obtain ⟨m, rfl⟩ : ∃ m', m = m' + 1 := ⟨m - 1, by omega⟩
  rw [B_X12_expression_6]
  by_cases hx : x = 0
  · rw [if_pos hx]
  · rw [if_neg hx, if_neg h.ne]
theorem r6_1 {f m : Nat} {u : MT} (h : gI u 167 8 = 0) : B_X12_expression_6 f (m + 1) 1 u = (F_X12_part f u).bind fun r5 => if r5.1 = 0 then (F_X12_goesOn f r5.2).bind (rK f m) else B_X12_expression_6 f m 1 r5.2 := by
  rw [B_X12_expression_6, if_neg (show ¬ (1 : Int32) = 0 by decide), if_pos h]; rfl
theorem rG_x {f g : Nat} {u : MT} (hg : 0 < g) (h : RX u) : B_X12_goesOn_0 f g u = some (0, u) := by
  obtain ⟨g, rfl⟩ : ∃ m', g = m' + 1 := ⟨g - 1, by omega⟩
  rw [B_X12_goesOn_0, if_neg h.ne]
theorem bS {α β : Type} {o : Option α} {a : α} {k : α → Option β} (h : o = some a) : o.bind k = k a := by rw [h]; rfl
theorem r_isPart {f : Nat} {E : ET} {i : Nat} {u : MT} (h : RS E i u) : F_X12_isPart f u = some (b2i (bpart (tT E i) = true), u) := by
  have hs := (h.1.1 i h.2.2.2.2).1.2.2.1
  have st : ∀ (w t : Nat) (x : Int32) (hw : w < 24) (hx : Nm x w) (e : wtok.getD w 0 = t), F_X12_isWord f x u = some (b2i (tT E i = t), u) := fun w t x hw hx e => by rw [r_isWord h hw hx, e]
  rw [F_X12_isPart, if_pos h.2.2.1, ck_p h.ix, h.2.2.2.1.nat]
  by_cases h3 : tT E i = 3
  · rw [if_pos (hs.mpr h3), h3]; rfl
  · rw [if_neg (fun e => h3 (hs.mp e)), bS (r_isSign h (c := 40) (t := 4) (x := 40) (by decide) (Eq.refl _))]
    dsimp only
    by_cases h4 : tT E i = 4
    · rw [b2i_t h4, if_neg ni1, h4]; rfl
    · rw [b2i_f h4, if_pos (Eq.refl _), bS (st 18 7 18 (by decide) (Eq.refl _) (Eq.refl _))]
      dsimp only
      by_cases h7 : tT E i = 7
      · rw [b2i_t h7, if_neg ni1, h7]; rfl
      · rw [b2i_f h7, if_pos (Eq.refl _), bS (st 19 8 19 (by decide) (Eq.refl _) (Eq.refl _))]
        dsimp only
        by_cases h8 : tT E i = 8
        · rw [b2i_t h8, if_neg ni1, h8]; rfl
        · rw [b2i_f h8, if_pos (Eq.refl _), bS (st 9 9 9 (by decide) (Eq.refl _) (Eq.refl _))]
          dsimp only
          by_cases h9 : tT E i = 9
          · rw [b2i_t h9, if_neg ni1, h9]; rfl
          · rw [b2i_f h9, if_pos (Eq.refl _), bS (st 10 10 10 (by decide) (Eq.refl _) (Eq.refl _))]
            dsimp only
            by_cases h10 : tT E i = 10
            · rw [b2i_t h10, if_neg ni1, h10]; rfl
            · rw [b2i_f h10, if_pos (Eq.refl _), bS (st 20 11 20 (by decide) (Eq.refl _) (Eq.refl _))]
              dsimp only
              by_cases h11 : tT E i = 11
              · rw [b2i_t h11, if_neg ni1, h11]; rfl
              · rw [b2i_f h11, if_pos (Eq.refl _), b2i_f (p := bpart (tT E i) = true)]
                simp [bpart]
                omega
/-- a PART: a fault -/
theorem r_part_bad {f : Nat} {E : ET} {i : Nat} {u : MT} (h : RS E i u) (hb : bpart (tT E i) = false) : F_X12_part f u = some (0, wr E 1 i u) := by
  have hx : RX (wr E 1 i u) := h.bad (by decide) (by decide)
  rw [F_X12_part, bS (r_isPart h), b2i_f (by rw [hb]; decide)]
  dsimp only
  rw [if_pos (Eq.refl _), bS (r_wrong h), B_X12_part_29, if_neg hx.nle]
theorem r_part_deep {f : Nat} {E : ET} {i : Nat} {u : MT} (h : RS E i u) (hb : bpart (tT E i) = true) (hd : Nm (gI u 167 26) 6) : F_X12_part f u = some (0, wr E 5 i u) := by
  have hx : RX (wr E 5 i u) := h.bad (by decide) (by decide)
  rw [F_X12_part, bS (r_isPart h), b2i_t hb]
  dsimp only
  rw [if_neg ni1, if_pos ((hd.eq (show Nm (6 : Int32) 6 from rfl)).mpr rfl), bS (r_wrong h), B_X12_part_29, if_neg hx.nle]
theorem r_part_open {f : Nat} {E : ET} {i ar : Nat} {u : MT} (h : RS E i u) (h4 : tT E i = 4) (hd : Nm (gI u 167 26) ar) (ha : ar ≤ 5) :
    F_X12_part f u = some (1, sI (sI (sI (adv u) 167 26 (gI u 167 26 + 1)) 187 (ar + 1) 0) 188 (ar + 1) 0) := by
  have hz : gI u 167 8 ≤ 0 := by rw [h.2.2.1]; decide
  have hs := (h.1.1 i h.2.2.2.2).1.2.2.1
  have e26 : gI (adv u) 167 26 = gI u 167 26 := g_nk _ _ _ (by decide)
  have hd1 : Nm (gI (sI (adv u) 167 26 (gI u 167 26 + 1)) 167 26) (ar + 1) := by rw [g_same]; exact hd.succ (by omega)
  rw [F_X12_part, bS (r_isPart h), b2i_t (by rw [h4]; decide)]
  dsimp only
  rw [if_neg ni1, if_neg (fun e => by have := (hd.eq (show Nm (6 : Int32) 6 from rfl)).mp e; omega), B_X12_part_29, if_pos hz, ck_p h.ix, h.2.2.2.1.nat, if_neg (fun e => by have := hs.mp e; omega),
    bS (r_hasSign_t h (c := 40) (t := 4) (x := 40) (by decide) (Eq.refl _) h4)]
  dsimp only
  rw [if_neg ni1, e26, F_X12_opens, ck_p (hd1.ix (by omega)), hd1.nat]
  dsimp only
  rw [g_ne _ _ _ _ (show (167 : Nat) ≠ 187 by decide), ck_p (hd1.ix (by omega)), hd1.nat]
  rfl
theorem r_part_num {f : Nat} {E : ET} {i ar c : Nat} {u : MT} (h : RS E i u) (h3 : tT E i = 3) (hd : Nm (gI u 167 26) ar) (ha : ar ≤ 5) (hc : Nm (gI u 184 7) c) (hc' : c < 1300) :
    F_X12_part f u = some (0, adv (remit 1 (tV E i) u)) := by
  have hz : gI u 167 8 ≤ 0 := by rw [h.2.2.1]; decide
  have hs := (h.1.1 i h.2.2.2.2).1.2.2.1
  have hv := (h.1.1 i h.2.2.2.2).1.2.2.2.2 h3
  rw [F_X12_part, bS (r_isPart h), b2i_t (by rw [h3]; decide)]
  dsimp only
  rw [if_neg ni1, if_neg (fun e => by have := (hd.eq (show Nm (6 : Int32) 6 from rfl)).mp e; omega), B_X12_part_29, if_pos hz, ck_p h.ix, h.2.2.2.1.nat, if_pos (hs.mpr h3), hv, Int32.toInt32_toInt64, bS (r_emit hc hc')]
  rfl
theorem r_part_word {f : Nat} {E : ET} {i ar c : Nat} {u : MT} (h : RS E i u) (hb : bpart (tT E i) = true) (h3 : tT E i ≠ 3) (h4 : tT E i ≠ 4) (hd : Nm (gI u 167 26) ar) (ha : ar ≤ 5) (hc : Nm (gI u 184 7) c) (hc' : c < 1300) :
    F_X12_part f u = some (0, remit 2 (ono (tcode (tT E i))) (adv u)) := by
  have hz : gI u 167 8 ≤ 0 := by rw [h.2.2.1]; decide
  have hs := (h.1.1 i h.2.2.2.2).1.2.2.1
  have hlt := h.lt (bpart_ne hb)
  have hn := h.next hlt
  have hca : Nm (gI (adv u) 184 7) c := by rw [show gI (adv u) 184 7 = gI u 184 7 from g_ne _ _ _ _ (by decide)]; exact hc
  have e169 : ∀ x, B_X12_part_169 f x (adv u) = some (0, remit 2 x (adv u)) := fun x => by rw [B_X12_part_169, bS (r_emit hca hc')]
  have e157 : ∀ x : Int32, x ≠ 4 → B_X12_part_157 f x (adv u) = some (0, remit 2 x (adv u)) := fun x hx => by rw [B_X12_part_157, if_neg hx, e169]
  rw [F_X12_part, bS (r_isPart h), b2i_t hb]
  dsimp only
  rw [if_neg ni1, if_neg (fun e => by have := (hd.eq (show Nm (6 : Int32) 6 from rfl)).mp e; omega), B_X12_part_29, if_pos hz, ck_p h.ix, h.2.2.2.1.nat, if_neg (fun e => h3 (hs.mp e)),
    bS (r_hasSign_f h (c := 40) (t := 4) (x := 40) (by decide) (Eq.refl _) h4)]
  dsimp only
  rw [if_pos (Eq.refl _)]
  by_cases h7 : tT E i = 7
  · rw [bS (r_hasWord_t h (w := 18) (by decide) (show Nm (18 : Int32) 18 from rfl) h7)]
    dsimp only
    rw [if_neg ni1, e157 0 (by decide), h7]; rfl
  · rw [bS (r_hasWord_f h (w := 18) (by decide) (show Nm (18 : Int32) 18 from rfl) h7)]
    dsimp only
    rw [if_pos (Eq.refl _)]
    by_cases h8 : tT E i = 8
    · rw [bS (r_hasWord_t h (w := 19) (by decide) (show Nm (19 : Int32) 19 from rfl) h8)]
      dsimp only
      rw [if_neg ni1, e157 1 (by decide), h8]; rfl
    · rw [bS (r_hasWord_f h (w := 19) (by decide) (show Nm (19 : Int32) 19 from rfl) h8)]
      dsimp only
      rw [if_pos (Eq.refl _)]
      by_cases h9 : tT E i = 9
      · rw [bS (r_hasWord_t h (w := 9) (by decide) (show Nm (9 : Int32) 9 from rfl) h9)]
        dsimp only
        rw [if_neg ni1, e157 2 (by decide), h9]; rfl
      · rw [bS (r_hasWord_f h (w := 9) (by decide) (show Nm (9 : Int32) 9 from rfl) h9)]
        dsimp only
        rw [if_pos (Eq.refl _)]
        by_cases h10 : tT E i = 10
        · rw [bS (r_hasWord_t h (w := 10) (by decide) (show Nm (10 : Int32) 10 from rfl) h10)]
          dsimp only
          rw [if_neg ni1, e157 3 (by decide), h10]; rfl
        · rw [bS (r_hasWord_f h (w := 10) (by decide) (show Nm (10 : Int32) 10 from rfl) h10)]
          dsimp only
          have h11 : tT E i = 11 := by simp [bpart] at hb; omega
          rw [if_pos (Eq.refl _), B_X12_part_157, if_pos (Eq.refl _), bS (r_takeWord_t h (w := 20) (by decide) (show Nm (20 : Int32) 20 from rfl) h11), e169, h11]; rfl
/-- behind a PART -/
theorem r_after {f g m : Nat} {E : ET} {ar cm jt j c : Nat} {u : MT} (h : RQ E ar cm jt j c u) (ha : ar ≤ 6) (hc : c + (jcode jt).length + (ccode cm).length < 1300) (hjt : jt = 0 ∨ isop jt = true) (hcm : cm = 0 ∨ cm = 14 ∨ cm = 15) :
    (pStopB E cm j = true → ∃ v, (B_X12_goesOn_0 f (g + 1) u).bind (rK f m) = (B_X12_goesOn_179 f (fun u' => B_X12_goesOn_0 f g u') v).bind (rK f m) ∧ RY E u v j c (jcode jt ++ ccode cm) ∧ Nm (gI v 167 26) ar ∧ ∀ d, d < ar → gI v 187 d = gI u 187 d ∧ gI v 188 d = gI u 188 d) ∧
    (pStopB E cm j = false → ∃ v, (B_X12_goesOn_0 f (g + 1) u).bind (rK f m) = B_X12_expression_6 f m 1 v ∧ RY E u v (j + 1) c (jcode jt) ∧ RQ E ar (if iscm (tT E j) = true then tT E j else cm) (tT E j) (j + 1) (c + (jcode jt).length) v ∧ ∀ d, d < ar → gI v 187 d = gI u 187 d ∧ gI v 188 d = gI u 188 d) := by
  obtain ⟨hS, hd, hsw, hgw, hcc⟩ := h
  -- the sign that waited
  have first : ∃ v, B_X12_goesOn_0 f (g + 1) u = B_X12_goesOn_43 f (fun u' => B_X12_goesOn_0 f g u') v ∧ RY E u v j c (jcode jt) ∧ Nm (gI v 167 26) ar ∧ gI v 187 ar = 0 ∧ gI v 188 ar = gwt cm ∧ ∀ d, d < ar → gI v 187 d = gI u 187 d ∧ gI v 188 d = gI u 188 d := by
    by_cases h12 : jt = 12 ∨ jt = 13
    · have ej : jcode jt = [tcode jt] := if_pos h12
      have ejl : (jcode jt).length = 1 := by rw [ej]; rfl
      have hne : ¬ swt jt = 0 := by rcases h12 with e | e <;> subst e <;> decide
      have e1 : remit (swt jt) 0 u = remit (opo (tcode jt)) (ono (tcode jt)) u := by rcases h12 with e | e <;> subst e <;> rfl
      have hY := RY_emit (x := tcode jt) hS hcc (by omega)
      have hd' : Nm (gI (remit (opo (tcode jt)) (ono (tcode jt)) u) 167 26) ar := by rw [remit_ne (by decide) (by decide) (by decide)]; exact hd
      refine ⟨sI (remit (opo (tcode jt)) (ono (tcode jt)) u) 187 ar 0, ?_, ?_, ?_, ?_, ?_, fun d hdd => ?_⟩
      · rw [B_X12_goesOn_0, if_pos hS.2.2.1, ck_p (hd.ix (by omega)), hd.nat, hsw, if_neg hne, bS (r_emit hcc (by omega)), e1]
        rw [ck_p (hd'.ix (by omega)), hd'.nat]
      · rw [ej]; exact hY.put (Or.inl rfl)
      · rw [g_ne _ _ _ _ (by decide)]; exact hd'
      · exact g_same _ _ _ _
      · rw [g_ne _ _ _ _ (by decide), remit_ne (by decide) (by decide) (by decide)]; exact hgw
      · rw [g_nk _ _ _ (by omega), g_ne _ _ _ _ (by decide), remit_ne (by decide) (by decide) (by decide), remit_ne (by decide) (by decide) (by decide)]; exact ⟨rfl, rfl⟩
    · have ej : jcode jt = [] := if_neg h12
      have hz : swt jt = 0 := by
        unfold swt
        rw [if_neg (by omega), if_neg (by omega)]
      refine ⟨u, ?_, ?_, hd, ?_, hgw, fun d hdd => ⟨rfl, rfl⟩⟩
      · rw [B_X12_goesOn_0, if_pos hS.2.2.1, ck_p (hd.ix (by omega)), hd.nat, hsw, if_pos hz]
      · rw [ej]; exact RY.rfl hS hcc
      · rw [hsw, hz]
  obtain ⟨v, e0, hY, hdv, hs0, hg0, hw⟩ := first
  rw [e0]
  have sg : ∀ (c t : Nat) (x : Int32), (c, t) ∈ stoks → x = Int32.ofNat c → F_X12_isSign f x v = some (b2i (tT E j = t), v) := fun c t x hm e => r_isSign hY.1 hm e
  have plus : ∀ (x : Int32) (t : Nat), tT E j = t → (t = 12 ∨ t = 13) → x = swt t → ∃ v', (B_X12_goesOn_83 f x (gI v 167 26) v).bind (rK f m) = B_X12_expression_6 f m 1 v' ∧ RY E u v' (j + 1) c (jcode jt) ∧ RQ E ar (if iscm (tT E j) = true then tT E j else cm) (tT E j) (j + 1) (c + (jcode jt).length) v' ∧ ∀ d, d < ar → gI v' 187 d = gI u 187 d ∧ gI v' 188 d = gI u 188 d := fun x t ht h12 hx => by
    have hlt := hY.1.lt (show tT E j ≠ 2 by omega)
    have hY1 : RY E u (sI v 187 ar x) j c (jcode jt) := hY.put (Or.inl rfl)
    have hY2 := hY1.next hlt
    refine ⟨adv (sI v 187 ar x), ?_, hY2, ⟨hY2.1, ?_, ?_, ?_, hY2.2.1⟩, fun d hdd => ?_⟩
    · rw [B_X12_goesOn_83, ck_p (hdv.ix (by omega)), hdv.nat, Option.bind_some, rK_1]; rfl
    · rw [show gI (adv (sI v 187 ar x)) 167 26 = gI v 167 26 from (g_nk _ _ _ (by decide)).trans (g_ne _ _ _ _ (by decide))]; exact hdv
    · rw [show gI (adv (sI v 187 ar x)) 187 ar = x from (g_ne _ _ _ _ (by decide)).trans (g_same _ _ _ _), hx, ht]
    · rw [show gI (adv (sI v 187 ar x)) 188 ar = gI v 188 ar from (g_ne _ _ _ _ (by decide)).trans (g_ne _ _ _ _ (by decide)), hg0, if_neg (by rw [ht]; rcases h12 with e | e <;> subst e <;> decide)]
    · rw [show gI (adv (sI v 187 ar x)) 187 d = gI v 187 d from (g_ne _ _ _ _ (by decide)).trans (g_nk _ _ _ (by omega)), show gI (adv (sI v 187 ar x)) 188 d = gI v 188 d from (g_ne _ _ _ _ (by decide)).trans (g_ne _ _ _ _ (by decide))]; exact hw d hdd
  have cmps : ∀ (x : Int32) (t : Nat), tT E j = t → (t = 14 ∨ t = 15) → x = gwt t → ∃ v', (B_X12_goesOn_166 f x (gI v 167 26) v).bind (rK f m) = B_X12_expression_6 f m 1 v' ∧ RY E u v' (j + 1) c (jcode jt) ∧ RQ E ar (if iscm (tT E j) = true then tT E j else cm) (tT E j) (j + 1) (c + (jcode jt).length) v' ∧ ∀ d, d < ar → gI v' 187 d = gI u 187 d ∧ gI v' 188 d = gI u 188 d := fun x t ht h12 hx => by
    have hlt := hY.1.lt (show tT E j ≠ 2 by omega)
    have hY1 : RY E u (sI v 188 ar x) j c (jcode jt) := hY.put (Or.inr (Or.inl rfl))
    have hY2 := hY1.next hlt
    refine ⟨adv (sI v 188 ar x), ?_, hY2, ⟨hY2.1, ?_, ?_, ?_, hY2.2.1⟩, fun d hdd => ?_⟩
    · rw [B_X12_goesOn_166, ck_p (hdv.ix (by omega)), hdv.nat, Option.bind_some, rK_1]; rfl
    · rw [show gI (adv (sI v 188 ar x)) 167 26 = gI v 167 26 from (g_nk _ _ _ (by decide)).trans (g_ne _ _ _ _ (by decide))]; exact hdv
    · rw [show gI (adv (sI v 188 ar x)) 187 ar = gI v 187 ar from (g_ne _ _ _ _ (by decide)).trans (g_ne _ _ _ _ (by decide)), hs0, ht]; rcases h12 with e | e <;> subst e <;> rfl
    · rw [show gI (adv (sI v 188 ar x)) 188 ar = x from (g_ne _ _ _ _ (by decide)).trans (g_same _ _ _ _), hx, if_pos (by rw [ht]; rcases h12 with e | e <;> subst e <;> decide), ht]
    · rw [show gI (adv (sI v 188 ar x)) 187 d = gI v 187 d from (g_ne _ _ _ _ (by decide)).trans (g_ne _ _ _ _ (by decide)), show gI (adv (sI v 188 ar x)) 188 d = gI v 188 d from (g_ne _ _ _ _ (by decide)).trans (g_nk _ _ _ (by omega))]; exact hw d hdd
  rw [B_X12_goesOn_43, bS (sg 43 12 43 (by decide) rfl)]
  dsimp only
  by_cases h12 : tT E j = 12
  · constructor
    · intro hst
      rcases stop_or hst with e | e
      · rw [h12] at e; exact absurd e (by decide)
      · rw [h12] at e; exact absurd e.1 (by decide)
    · intro _
      rw [b2i_t h12, if_neg ni1, B_X12_goesOn_61, bS (sg 43 12 43 (by decide) rfl), b2i_t h12]
      dsimp only
      rw [if_neg ni1]
      exact plus 3 12 h12 (Or.inl rfl) rfl
  · rw [b2i_f h12, if_pos (Eq.refl _), bS (sg 45 13 45 (by decide) rfl)]
    dsimp only
    by_cases h13 : tT E j = 13
    · constructor
      · intro hst
        rcases stop_or hst with e | e
        · rw [h13] at e; exact absurd e (by decide)
        · rw [h13] at e; exact absurd e.1 (by decide)
      · intro _
        rw [b2i_t h13, if_neg ni1, B_X12_goesOn_61, bS (sg 43 12 43 (by decide) rfl), b2i_f h12]
        dsimp only
        rw [if_pos (Eq.refl _)]
        exact plus 4 13 h13 (Or.inr rfl) rfl
    · rw [b2i_f h13, if_pos (Eq.refl _), ck_p (hdv.ix (by omega)), hdv.nat, hg0]
      by_cases hc0 : cm = 0
      · have ec : ccode cm = [] := if_pos hc0
        have e00 : gwt cm = 0 := by subst hc0; rfl
        rw [if_pos e00, bS (sg 60 14 60 (by decide) rfl)]
        dsimp only
        by_cases h14 : tT E j = 14
        · constructor
          · intro hst
            rcases stop_or hst with e | e
            · rw [h14] at e; exact absurd e (by decide)
            · exact absurd hc0 e.2
          · intro _
            rw [b2i_t h14, if_neg ni1, B_X12_goesOn_143, bS (sg 60 14 60 (by decide) rfl), b2i_t h14]
            dsimp only
            rw [if_neg ni1]
            exact cmps 5 14 h14 (Or.inl rfl) rfl
        · rw [b2i_f h14, if_pos (Eq.refl _), bS (sg 61 15 61 (by decide) rfl)]
          dsimp only
          by_cases h15 : tT E j = 15
          · constructor
            · intro hst
              rcases stop_or hst with e | e
              · rw [h15] at e; exact absurd e (by decide)
              · exact absurd hc0 e.2
            · intro _
              rw [b2i_t h15, if_neg ni1, B_X12_goesOn_143, bS (sg 60 14 60 (by decide) rfl), b2i_f h14]
              dsimp only
              rw [if_pos (Eq.refl _)]
              exact cmps 6 15 h15 (Or.inr rfl) rfl
          · constructor
            · intro _
              rw [b2i_f h15, if_pos (Eq.refl _)]
              refine ⟨v, rfl, ?_, hdv, hw⟩
              rw [ec, List.append_nil]; exact hY
            · intro hst
              have := (nstop hst).1
              simp [isop] at this
              omega
      · have ec : ccode cm = [tcode cm] := if_neg hc0
        have ecl : (ccode cm).length = 1 := by rw [ec]; rfl
        have hne : ¬ gwt cm = 0 := by rcases hcm with e | e | e; exact absurd e hc0; subst e; decide; subst e; decide
        have e1 : remit (gwt cm) 0 v = remit (opo (tcode cm)) (ono (tcode cm)) v := by rcases hcm with e | e | e; exact absurd e hc0; subst e; rfl; subst e; rfl
        rw [if_neg hne, bS (r_emit hY.2.1 (by omega)), e1]
        constructor
        · intro _
          refine ⟨remit (opo (tcode cm)) (ono (tcode cm)) v, rfl, ?_, ?_, fun d hdd => ?_⟩
          · rw [ec]; exact hY.trans (RY_emit hY.1 hY.2.1 (by omega))
          · rw [remit_ne (by decide) (by decide) (by decide)]; exact hdv
          · rw [remit_ne (by decide) (by decide) (by decide), remit_ne (by decide) (by decide) (by decide)]; exact hw d hdd
        · intro hst
          have h1 := nstop hst
          have h2 := h1.1
          have : tT E j = 14 ∨ tT E j = 15 := by simp [isop] at h2; omega
          have := h1.2 (by rcases this with e | e <;> rw [e] <;> decide)
          exact absurd this hc0
