/-! ===== a RULE keeps the bounds ===== -/
def wsI (w : Nat → Int32) : List Nat → Int
  | [] => 0
  | h :: l => (w h).toInt + wsI w l
theorem wsum_int {w : Nat → Int32} : ∀ (l : List Nat) (t : Int64), (∀ h ∈ l, 0 ≤ (w h).toInt ∧ (w h).toInt ≤ 5000) → 0 ≤ t.toInt → t.toInt + 5000 * (l.length : Int) < 1000000000000000 → (wsum w l t).toInt = t.toInt + wsI w l ∧ 0 ≤ wsI w l := by
  intro l
  induction l with
  | nil => intro t _ _ _; exact ⟨by show t.toInt = t.toInt + 0; omega, by show (0 : Int) ≤ 0; omega⟩
  | cons x l ih =>
    intro t hw ht hb
    have hx := hw x (by simp)
    rw [List.length_cons] at hb
    push_cast at hb
    have e : (t + (w x).toInt64).toInt = t.toInt + (w x).toInt := by
      rw [l_add (by rw [Int32.toInt_toInt64]; omega) (by rw [Int32.toInt_toInt64]; omega), Int32.toInt_toInt64]
    obtain ⟨h1, h2⟩ := ih (t + (w x).toInt64) (fun h hh => hw h (by simp [hh])) (by rw [e]; omega) (by rw [e]; omega)
    refine ⟨?_, by show 0 ≤ (w x).toInt + wsI w l; omega⟩
    show (wsum w l (t + (w x).toInt64)).toInt = t.toInt + ((w x).toInt + wsI w l)
    rw [h1, e]; omega
/-- what is left fits the source -/
def JI (s : QS) (n : Nat) (cap : Int32) (src : Nat) (left : Int) : Prop := QI s n cap ∧ 0 ≤ left ∧ left ≤ (if src = 9 then (qP s).toInt else (qS s).toInt)
theorem JI_hnd {s : QS} {n src h : Nat} {cap x : Int32} {left : Int} (hJ : JI s n cap src left) (hh : h < n) (h0 : 0 ≤ x.toInt) (h1 : x.toInt ≤ (room s h).toInt) (h2 : x.toInt ≤ left) : JI (hnd s src h x) n cap src (left - x.toInt) := by
  obtain ⟨⟨q1, q2, q3, q4, q5, q6⟩, j1, j2⟩ := hJ
  have hr : (room s h).toInt ≤ (qW s h).toInt ∧ (room s h).toInt ≤ (qL s h).toInt := by
    unfold room
    by_cases c : qL s h ≤ qW s h
    · have := i_le.mp c
      rw [if_pos c]; omega
    · have : ¬ (qL s h).toInt ≤ (qW s h).toInt := fun e => c (i_le.mpr e)
      rw [if_neg c]; omega
  have hq := q1 h hh
  have ew : (qW s h - x).toInt = (qW s h).toInt - x.toInt := i_sub (by omega) (by omega)
  have el : (qL s h - x).toInt = (qL s h).toInt - x.toInt := i_sub (by omega) (by omega)
  have hWL : ∀ k, k < n → 0 ≤ (qW (hnd s src h x) k).toInt ∧ (qW (hnd s src h x) k).toInt ≤ 5000 ∧ 0 ≤ (qL (hnd s src h x) k).toInt ∧ (qL (hnd s src h x) k).toInt ≤ 5000 := fun k hk => by
    by_cases e : k = h
    · subst e
      rw [show qW (hnd s src k x) k = qW s k - x from upf_same, show qL (hnd s src k x) k = qL s k - x from upf_same, ew, el]; omega
    · rw [show qW (hnd s src h x) k = qW s k from upf_ne e, show qL (hnd s src h x) k = qL s k from upf_ne e]; exact q1 k hk
  by_cases h9 : src = 9
  · rw [if_pos h9] at j2
    have ep : (qP s - x).toInt = (qP s).toInt - x.toInt := i_sub (by omega) (by omega)
    have e1 : qP (hnd s src h x) = qP s - x := if_pos h9
    have e2 : qS (hnd s src h x) = qS s := if_pos h9
    exact ⟨⟨hWL, by rw [e1, ep]; omega, by rw [e1, ep]; omega, by rw [e2]; exact q4, by rw [e2]; exact q5, q6⟩, by omega, by rw [if_pos h9, e1, ep]; omega⟩
  · rw [if_neg h9] at j2
    have ep : (qS s - x).toInt = (qS s).toInt - x.toInt := i_sub (by omega) (by omega)
    have e1 : qP (hnd s src h x) = qP s := if_neg h9
    have e2 : qS (hnd s src h x) = qS s - x := if_neg h9
    exact ⟨⟨hWL, by rw [e1]; exact q2, by rw [e1]; exact q3, by rw [e2, ep]; omega, by rw [e2, ep]; omega, q6⟩, by omega, by rw [if_neg h9, e2, ep]; omega⟩
theorem gvp_in {a rm : Int32} {w : Nat → Int32} {tot : Int64} {h : Nat} (ha : 0 ≤ a.toInt) (ha' : a.toInt ≤ 1000000) (hw : 0 ≤ (w h).toInt) (hw' : (w h).toInt ≤ 5000) (ht : 0 < tot.toInt) (hr : 0 ≤ rm.toInt) : 0 ≤ (gvp a w tot rm h).toInt ∧ (gvp a w tot rm h).toInt ≤ rm.toInt ∧ (gvp a w tot rm h).toInt * tot.toInt ≤ a.toInt * (w h).toInt := by
  have hprod0 : 0 ≤ a.toInt * (w h).toInt := Int.mul_nonneg ha hw
  have hprod1 : a.toInt * (w h).toInt ≤ 1000000 * 5000 := Int.mul_le_mul ha' hw' hw (by decide)
  have em : (a.toInt64 * (w h).toInt64).toInt = a.toInt * (w h).toInt := by
    rw [l_mul (by rw [Int32.toInt_toInt64, Int32.toInt_toInt64]; omega) (by rw [Int32.toInt_toInt64, Int32.toInt_toInt64]; omega), Int32.toInt_toInt64, Int32.toInt_toInt64]
  have ed : ((a.toInt64 * (w h).toInt64) / tot).toInt = (a.toInt * (w h).toInt) / tot.toInt := by
    rw [Int64.toInt_div_of_ne_right _ _ (fun e => by rw [e] at ht; exact absurd ht (by decide)), em, Int.tdiv_eq_ediv_of_nonneg hprod0]
  have hdiv0 : 0 ≤ (a.toInt * (w h).toInt) / tot.toInt := Int.ediv_nonneg hprod0 (by omega)
  have hdm : (a.toInt * (w h).toInt) / tot.toInt * tot.toInt ≤ a.toInt * (w h).toInt := Int.ediv_mul_le _ (by omega)
  have hri := i_hi rm
  unfold gvp
  by_cases c : rm.toInt64 < (a.toInt64 * (w h).toInt64) / tot
  · have c' := Int64.lt_iff_toInt_lt.mp c
    rw [Int32.toInt_toInt64, ed] at c'
    rw [if_pos c, Int32.toInt32_toInt64]
    refine ⟨hr, Int.le_refl _, ?_⟩
    exact Int.le_trans (Int.mul_le_mul_of_nonneg_right (by omega) (by omega)) hdm
  · have c' : ¬ rm.toInt < (a.toInt * (w h).toInt) / tot.toInt := fun e => c (Int64.lt_iff_toInt_lt.mpr (by rw [Int32.toInt_toInt64, ed]; exact e))
    have et : (((a.toInt64 * (w h).toInt64) / tot).toInt32).toInt = (a.toInt * (w h).toInt) / tot.toInt := by
      rw [Int64.toInt_toInt32, ed]
      exact Int.bmod_eq_of_le (by omega) (by omega)
    rw [if_neg c, et]
    exact ⟨hdiv0, by omega, hdm⟩
theorem gvl_JI {n src : Nat} {cap a : Int32} {w : Nat → Int32} {tot : Int64} (ha : 0 ≤ a.toInt) (ha' : a.toInt ≤ 1000000) (ht : 0 < tot.toInt) : ∀ (l : List Nat) (p : QS × Int32), (∀ h ∈ l, h < n ∧ 0 ≤ (w h).toInt ∧ (w h).toInt ≤ 5000) → JI p.1 n cap src p.2.toInt → a.toInt * wsI w l ≤ p.2.toInt * tot.toInt → p.2.toInt ≤ 1000000 →
    JI (gvl src a w tot l p).1 n cap src (gvl src a w tot l p).2.toInt ∧ (gvl src a w tot l p).2.toInt ≤ 1000000 := by
  intro l
  induction l with
  | nil => intro p _ hJ _ hb; exact ⟨hJ, hb⟩
  | cons x l ih =>
    intro p hl hJ hsum hb
    have hx := hl x (by simp)
    have hrm := QI_room hJ.1 hx.1
    obtain ⟨g1, g2, g3⟩ := gvp_in (a := a) (rm := room p.1 x) (w := w) (tot := tot) (h := x) ha ha' hx.2.1 hx.2.2 ht hrm.1
    have hwl : 0 ≤ wsI w l := by
      have key : ∀ l : List Nat, (∀ h ∈ l, h < n ∧ 0 ≤ (w h).toInt ∧ (w h).toInt ≤ 5000) → 0 ≤ wsI w l := by
        intro l
        induction l with
        | nil => intro _; show (0 : Int) ≤ 0; omega
        | cons y l ih => intro h; have h1 := h y (by simp); have := ih (fun z hz => h z (by simp [hz])); show 0 ≤ (w y).toInt + wsI w l; omega
      exact key l (fun h hh => hl h (by simp [hh]))
    have hsum' : a.toInt * (w x).toInt + a.toInt * wsI w l ≤ p.2.toInt * tot.toInt := by
      have e : a.toInt * wsI w (x :: l) = a.toInt * (w x).toInt + a.toInt * wsI w l := Int.mul_add _ _ _
      rw [← e]; exact hsum
    have hnn : 0 ≤ a.toInt * wsI w l := Int.mul_nonneg ha hwl
    have hrest : (p.2.toInt - (gvp a w tot (room p.1 x) x).toInt) * tot.toInt = p.2.toInt * tot.toInt - (gvp a w tot (room p.1 x) x).toInt * tot.toInt := Int.sub_mul _ _ _
    have hle : (gvp a w tot (room p.1 x) x).toInt ≤ p.2.toInt := by
      by_cases c : (gvp a w tot (room p.1 x) x).toInt ≤ p.2.toInt
      · exact c
      · have : (p.2.toInt - (gvp a w tot (room p.1 x) x).toInt) * tot.toInt < 0 := Int.mul_neg_of_neg_of_pos (by omega) ht
        omega
    have es : (p.2 - gvp a w tot (room p.1 x) x).toInt = p.2.toInt - (gvp a w tot (room p.1 x) x).toInt := i_sub (by have := hJ.2.1; omega) (by omega)
    refine ih (hnd p.1 src x (gvp a w tot (room p.1 x) x), p.2 - gvp a w tot (room p.1 x) x) (fun h hh => hl h (by simp [hh])) ?_ ?_ ?_
    · show JI _ n cap src (p.2 - gvp a w tot (room p.1 x) x).toInt
      rw [es]; exact JI_hnd hJ hx.1 g1 g2 hle
    · show a.toInt * wsI w l ≤ (p.2 - gvp a w tot (room p.1 x) x).toInt * tot.toInt
      rw [es, hrest]; omega
    · show (p.2 - gvp a w tot (room p.1 x) x).toInt ≤ 1000000
      rw [es]; omega
theorem ons_JI {n src : Nat} {cap : Int32} : ∀ (l : List Nat) (p : QS × Int32), (∀ h ∈ l, h < n) → JI p.1 n cap src p.2.toInt → JI (ons src l p).1 n cap src (ons src l p).2.toInt := by
  intro l
  induction l with
  | nil => intro p _ hJ; exact hJ
  | cons x l ih =>
    intro p hl hJ
    show JI (if 0 < p.2.toInt ∧ can p.1 x = true then ons src l (hnd p.1 src x 1, p.2 + (-1)) else ons src l p).1 n cap src (if 0 < p.2.toInt ∧ can p.1 x = true then ons src l (hnd p.1 src x 1, p.2 + (-1)) else ons src l p).2.toInt
    have e1 : (1 : Int32).toInt = 1 := rfl
    have em : (-1 : Int32).toInt = -1 := rfl
    by_cases c : 0 < p.2.toInt ∧ can p.1 x = true
    · rw [if_pos c]
      have hr := of_decide_eq_true c.2
      have hi := i_hi p.2
      have es : (p.2 + (-1)).toInt = p.2.toInt - 1 := by rw [i_add (by rw [em]; omega) (by rw [em]; omega), em]; omega
      refine ih _ (fun h hh => hl h (by simp [hh])) ?_
      show JI _ n cap src (p.2 + (-1)).toInt
      rw [es]
      have := JI_hnd (x := 1) hJ (hl x (by simp)) (by rw [e1]; omega) (by rw [e1]; omega) (by rw [e1]; omega)
      rw [e1] at this; exact this
    · rw [if_neg c]
      exact ih p (fun h hh => hl h (by simp [hh])) hJ
theorem giv_QI {s : QS} {n q how : Nat} {cap a : Int32} {sh : Nat → Int32} {rl : AR} (hQ : QI s n cap) (h12 : n ≤ 12) (hsh : ∀ h, h < n → 1 ≤ (sh h).toInt ∧ (sh h).toInt ≤ 1000) (ha : 0 ≤ a.toInt) (ha' : a.toInt ≤ (if rSrc rl = 9 then (qP s).toInt else (qS s).toInt)) : QI (giv s n q sh how rl a) n cap := by
  have hC : Asc n (chl s n (rWho rl) (rNum rl)) := chl_asc
  have hlen := hC.len
  have ham : a.toInt ≤ 1000000 := by
    have := hQ.2
    split at ha' <;> omega
  have hw : ∀ h ∈ chl s n (rWho rl) (rNum rl), h < n ∧ 0 ≤ (wgt s sh (rWay rl) h).toInt ∧ (wgt s sh (rWay rl) h).toInt ≤ 5000 := fun h hh => by
    have hn := hC.2 h hh
    refine ⟨hn, ?_⟩
    unfold wgt
    split
    · decide
    · split
      · exact QI_room hQ hn
      · have := hsh h hn; omega
  obtain ⟨hs1, hs2⟩ := wsum_int (w := wgt s sh (rWay rl)) (chl s n (rWho rl) (rNum rl)) 0 (fun h hh => (hw h hh).2) (by decide) (by rw [show (0 : Int64).toInt = 0 from rfl]; omega)
  rw [show (0 : Int64).toInt = 0 from rfl] at hs1
  unfold giv
  split
  · exact hQ
  · split
    · rename_i _ ht
      have hJ0 : JI (s, a).1 n cap (rSrc rl) (s, a).2.toInt := ⟨hQ, ha, ha'⟩
      obtain ⟨g1, g2⟩ := gvl_JI (src := rSrc rl) (w := wgt s sh (rWay rl)) ha ham ht (chl s n (rWho rl) (rNum rl)) (s, a) hw hJ0 (by rw [hs1]; show a.toInt * _ ≤ a.toInt * (0 + _); rw [Int.zero_add]; exact Int.le_refl _) ham
      split
      · exact (ons_JI _ _ (fun h hh => hC.2 h (ordr_mem.mp hh)) g1).1
      · exact g1.1
    · exact hQ
theorem amt_in {s : QS} {n q : Nat} {l : List Int32} {x : Int32} (h0 : 0 ≤ x.toInt) : 0 ≤ (amt s n q l x).toInt ∧ (amt s n q l x).toInt ≤ x.toInt := by
  have e0 : (0 : Int32).toInt = 0 := rfl
  unfold amt
  split
  · exact ⟨h0, Int.le_refl _⟩
  · have m : ∀ y : Int32, y.toInt ≤ x.toInt → 0 ≤ (if (0 : Int32) < y then y else 0).toInt ∧ (if (0 : Int32) < y then y else 0).toInt ≤ x.toInt := fun y hy => by
      by_cases c : (0 : Int32) < y
      · have c' := i_lt.mp c
        rw [if_pos c]; omega
      · rw [if_neg c, e0]; omega
    by_cases c : evv s n q l < x
    · have c' := i_lt.mp c
      rw [if_pos c]; exact m _ (by omega)
    · rw [if_neg c]; exact m _ (Int.le_refl _)
theorem rul_QI {s : QS} {n q how : Nat} {cap : Int32} {sh : Nat → Int32} {rl : AR} (hQ : QI s n cap) (h12 : n ≤ 12) (hsh : ∀ h, h < n → 1 ≤ (sh h).toInt ∧ (sh h).toInt ≤ 1000) : QI (rul s n q sh cap how rl) n cap := by
  have hQ' := hQ
  obtain ⟨q1, q2, q3, q4, q5, q6⟩ := hQ
  unfold rul
  split
  · exact hQ'
  · split
    · exact hQ'
    · split
      · have ha := amt_in (s := s) (n := n) (q := q) (l := rAmt rl) q2
        have hcs : (cap - qS s).toInt = cap.toInt - (qS s).toInt := i_sub (by have := i_lo cap; omega) (by omega)
        have hv : 0 ≤ (if cap - qS s < amt s n q (rAmt rl) (qP s) then cap - qS s else amt s n q (rAmt rl) (qP s)).toInt ∧ (if cap - qS s < amt s n q (rAmt rl) (qP s) then cap - qS s else amt s n q (rAmt rl) (qP s)).toInt ≤ (qP s).toInt ∧ (if cap - qS s < amt s n q (rAmt rl) (qP s) then cap - qS s else amt s n q (rAmt rl) (qP s)).toInt ≤ cap.toInt - (qS s).toInt := by
          by_cases c : cap - qS s < amt s n q (rAmt rl) (qP s)
          · have c' := i_lt.mp c
            rw [if_pos c]; omega
          · have c' : ¬ (cap - qS s).toInt < (amt s n q (rAmt rl) (qP s)).toInt := fun e => c (i_lt.mpr e)
            rw [if_neg c]; omega
        unfold fil
        generalize (if cap - qS s < amt s n q (rAmt rl) (qP s) then cap - qS s else amt s n q (rAmt rl) (qP s)) = y at hv
        have ep : (qP s - y).toInt = (qP s).toInt - y.toInt := i_sub (by omega) (by omega)
        have es : (qS s + y).toInt = (qS s).toInt + y.toInt := i_add (by omega) (by omega)
        refine ⟨q1, ?_, ?_, ?_, ?_, q6⟩
        · show 0 ≤ (qP s - y).toInt; omega
        · show (qP s - y).toInt ≤ _; omega
        · show 0 ≤ (qS s + y).toInt; omega
        · show (qS s + y).toInt ≤ _; omega
      · have hS : 0 ≤ (if rSrc rl = 9 then qP s else qS s).toInt := by split <;> omega
        have ha := amt_in (s := s) (n := n) (q := q) (l := rAmt rl) hS
        refine giv_QI hQ' h12 hsh ha.1 ?_
        by_cases c : rSrc rl = 9
        · rw [if_pos c] at ha ⊢; rw [if_pos c]; exact ha.2
        · rw [if_neg c] at ha ⊢; rw [if_neg c]; exact ha.2
