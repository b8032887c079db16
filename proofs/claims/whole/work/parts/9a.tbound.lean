/-! ===== bounds of the quarters in the abstract ===== -/
theorem ovr_in {V : VD} {d : Int32} {q h : Nat} (hV : VOk V) : (0 ≤ (tw V d q h).toInt ∧ (tw V d q h).toInt ≤ 5000) ∧ 0 ≤ (tg V d q h).toInt ∧ (tg V d q h).toInt ≤ 5000 := by
  unfold tw tg
  cases e : tri V d q h with
  | none => exact (show (0 ≤ (0 : Int32).toInt ∧ (0 : Int32).toInt ≤ 5000) ∧ 0 ≤ (0 : Int32).toInt ∧ (0 : Int32).toInt ≤ 5000 from ⟨⟨by decide, by decide⟩, by decide, by decide⟩)
  | some r =>
    obtain ⟨_, c⟩ := hV.2.2.1 r (tri_lt q e).1
    exact ⟨⟨c.1, c.2.1⟩, c.2.2.1, c.2.2.2⟩
theorem sto_in {s loss cap : Int32} (h1 : 0 ≤ s.toInt) (h2 : s.toInt ≤ cap.toInt) (h3 : cap.toInt ≤ 1000000) (h4 : 0 ≤ loss.toInt) (h5 : loss.toInt ≤ 500) : 0 ≤ (s - s * loss / 1000).toInt ∧ (s - s * loss / 1000).toInt ≤ cap.toInt := by
  have p0 : 0 ≤ s.toInt * loss.toInt := Int.mul_nonneg h1 h4
  have p1 : s.toInt * loss.toInt ≤ s.toInt * 500 := Int.mul_le_mul_of_nonneg_left h5 h1
  have em : (s * loss).toInt = s.toInt * loss.toInt := i_mul (by omega) (by omega)
  have ek : (1000 : Int32).toInt = 1000 := rfl
  have ed : (s * loss / 1000).toInt = s.toInt * loss.toInt / 1000 := by
    rw [Int32.toInt_div_of_ne_right _ _ (by decide), em, ek, Int.tdiv_eq_ediv_of_nonneg p0]
  have q1 : 0 ≤ s.toInt * loss.toInt / 1000 := by omega
  have q2 : s.toInt * loss.toInt / 1000 ≤ s.toInt := by omega
  rw [i_sub (by omega) (by omega), ed]
  omega
theorem tB_ok {V : VD} {d : Int32} {q : Nat} {p : QS} (hV : VOk V) (hp : 0 ≤ (qS p).toInt ∧ (qS p).toInt ≤ (vlC V).toInt) : QI (tB V d q p) (vlN V) (vlC V) := by
  obtain ⟨V1, V2, V3, V4, V5, V6, V7, V8⟩ := hV
  refine bgn_QI V1 ?_ V6 (fun h hh => ovr_in ⟨V1, V2, V3, V4, V5, V6, V7, V8⟩) (fun h hh => (V4 h hh).2.2)
  by_cases c : q = 0
  · rw [if_pos c]; exact ⟨by decide, V5⟩
  · rw [if_neg c]; exact sto_in hp.1 hp.2 V6 V7 V8
theorem tN_ok {V : VD} {X : XD} {d : Int32} {q : Nat} {p : QS} (hV : VOk V) (hp : 0 ≤ (qS p).toInt ∧ (qS p).toInt ≤ (vlC V).toInt) : QI (tN V X d q p) (vlN V) (vlC V) ∧ qinv (vlN V) (wan (tw V d q) (tg V d q)) (vlB V) (tpf V d q) (tN V X d q p) := by
  have h1 := tB_ok (d := d) (q := q) hV hp
  have h2 : qinv (vlN V) (wan (tw V d q) (tg V d q)) (vlB V) (tpf V d q) (tB V d q p) := bgn_inv
  unfold tN
  cases txO X d q with
  | none => exact ⟨h1, h2⟩
  | some t => exact ⟨ruls_QI hV.1 (fun h hh => ⟨(hV.2.2.2.1 h hh).1, (hV.2.2.2.1 h hh).2.1⟩) _ _ h1, ruls_inv _ _ h2⟩
theorem tS_ok {V : VD} {X : XD} {d : Int32} (hV : VOk V) : ∀ q, QI (tS V X d q) (vlN V) (vlC V) ∧ qinv (vlN V) (wan (tw V d q) (tg V d q)) (vlB V) (tpf V d q) (tS V X d q) := by
  intro q
  induction q with
  | zero => exact tN_ok hV ⟨by decide, hV.2.2.2.2.1⟩
  | succ q ih => exact tN_ok hV ⟨ih.1.2.2.2.1, ih.1.2.2.2.2.1⟩
theorem tPr_st {V : VD} {X : XD} {d : Int32} (hV : VOk V) (q : Nat) : 0 ≤ (qS (tPr V X d q)).toInt ∧ (qS (tPr V X d q)).toInt ≤ (vlC V).toInt := by
  cases q with
  | zero => exact ⟨(show 0 ≤ (0 : Int32).toInt by decide), hV.2.2.2.2.1⟩
  | succ q => have := tS_ok (X := X) (d := d) hV q; exact ⟨this.1.2.2.2.1, this.1.2.2.2.2.1⟩
theorem tw_eq {V : VD} {d : Int32} (q h : Nat) (a : Nat → Int32) : ovr (tla V d q h) a (ovr (trp V d q h) a 0) = ovr (tri V d q h) a 0 := by
  rw [tri_eq]
  cases e : tla V d q h with
  | some r => rfl
  | none =>
    by_cases c : q = 0
    · subst c; rfl
    · rw [rdx, if_neg c]; rfl
/-- the reference's picture of a village and its texts -/
def VR (V : VD) (u : MT) : Prop := Nm (gI u 167 31) (vlN V) ∧ Nm (gI u 167 34) (vlR V) ∧
  (∀ j, j < vlR V → gI u 191 j = vlH V j ∧ gI u 192 j = vlQ V j ∧ gI u 193 j = vlW V j ∧ gI u 194 j = vlG V j ∧ gI u 195 j = vlD V j) ∧
  (∀ h, h < vlN V → gI u 189 h = vlS V h ∧ gI u 190 h = vlB V h) ∧ gI u 167 29 = vlC V ∧ gI u 167 30 = vlL V
def XR0 (X : XD) (u : MT) : Prop := Nm (gI u 167 22) (xtT X) ∧ ∀ t, t < xtT X → gI u 185 t = xtQ X t ∧ gI u 186 t = xtD X t
def XR1 (X : XD) (sl : Nat → Nat) (u : MT) : Prop := ∀ t, t < xtT X → sl t ≤ 7 ∧ RT u (1300 * sl t) (24 * sl t) (sl t) (xtR X t) (xtH X t)
def Sfr (u v : MT) : Prop := (∀ a j, 173 ≤ a → a ≤ 195 → gI v a j = gI u a j) ∧ gI v 167 22 = gI u 167 22 ∧ gI v 167 29 = gI u 167 29 ∧ gI v 167 30 = gI u 167 30 ∧ gI v 167 31 = gI u 167 31 ∧ gI v 167 34 = gI u 167 34
theorem VR.fr {V : VD} {u v : MT} (h : VR V u) (hs : Sfr u v) : VR V v := by
  obtain ⟨h1, _, h3, h4, h5, h6⟩ := hs
  obtain ⟨a1, a2, a3, a4, a5, a6⟩ := h
  exact ⟨by rw [h5]; exact a1, by rw [h6]; exact a2, fun j hj => by rw [h1 _ _ (by decide) (by decide), h1 _ _ (by decide) (by decide), h1 _ _ (by decide) (by decide), h1 _ _ (by decide) (by decide), h1 _ _ (by decide) (by decide)]; exact a3 j hj, fun j hj => by rw [h1 _ _ (by decide) (by decide), h1 _ _ (by decide) (by decide)]; exact a4 j hj, by rw [h3]; exact a5, by rw [h4]; exact a6⟩
theorem XR0.fr {X : XD} {u v : MT} (h : XR0 X u) (hs : Sfr u v) : XR0 X v :=
  ⟨by rw [hs.2.1]; exact h.1, fun t ht => by rw [hs.1 _ _ (by decide) (by decide), hs.1 _ _ (by decide) (by decide)]; exact h.2 t ht⟩
theorem XR1.fr {X : XD} {sl : Nat → Nat} {u v : MT} (h : XR1 X sl u) (hs : Sfr u v) : XR1 X sl v :=
  fun t ht => ⟨(h t ht).1, (h t ht).2.fr (fun a j h1 h2 => hs.1 _ _ (by omega) (by omega))⟩
theorem Sfr.tr {u v w : MT} (h : Sfr u v) (h' : Sfr v w) : Sfr u w := ⟨fun a j h1 h2 => (h'.1 a j h1 h2).trans (h.1 a j h1 h2), h'.2.1.trans h.2.1, h'.2.2.1.trans h.2.2.1, h'.2.2.2.1.trans h.2.2.2.1, h'.2.2.2.2.1.trans h.2.2.2.2.1, h'.2.2.2.2.2.trans h.2.2.2.2.2⟩
theorem Sfr.works {u v : MT} (h : Fr wI_X12_works [] [] u v) : Sfr u v := ⟨fun a j h1 h2 => h.1 _ _ (by simp [nin, wI_X12_works] <;> omega), h.1 _ _ (by simp [nin, wI_X12_works]), h.1 _ _ (by simp [nin, wI_X12_works]), h.1 _ _ (by simp [nin, wI_X12_works]), h.1 _ _ (by simp [nin, wI_X12_works]), h.1 _ _ (by simp [nin, wI_X12_works])⟩
