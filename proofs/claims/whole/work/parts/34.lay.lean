/-! ===== THE LAYOUT HOLDS AT FIRST, AND WITH NEW CELLS ===== -/
def Fre (w : LT) : Prop := ∀ a, w.1 ≤ a → lt_t w a = 99
theorem fre_lt {w : LT} (hf : Fre w) {a : Nat} (h : lt_t w a ≠ 99) : a < w.1 := by
  rcases Nat.lt_or_ge a w.1 with q | q
  · exact q
  · exact absurd (hf a q) h
theorem Vfresh {z : ZT} {g : GT} {nL pc : Nat} {lv : List (Nat × Value)} {st : List Value} {w : LT} {u : MT} {kc ks : Nat} {Q : Option Value → LT → MT → Prop} (k : Fre w → V z g nL pc lv st w u kc ks Q) : V z g nL pc lv st w u kc ks Q := by
  obtain ⟨p, l, e, R, s, m, args, below, meth, c⟩ := z
  intro H locs ls hR hS hl
  exact k (fun a h => hR.2.2.1 a (Or.inr h)) H locs ls hR hS hl
theorem isTx_nw {w : LT} {t k n : Nat} (hf : Fre w) (h : isTx w t) : isTx (nwL w k n) t := by
  obtain ⟨a1, a2, a3, a4, a5, a6, a7, a8⟩ := h
  have n0 : t < w.1 := fre_lt hf (by omega)
  have n1 : t + 1 < w.1 := fre_lt hf (by omega)
  have n2 : t + 2 < w.1 := fre_lt hf (by omega)
  refine ⟨(nw_t n0).trans a1, (nw_p n0 0).trans a2, (nw_t n1).trans a3, (nw_l n1).trans a4, (nw_p n0 3).trans a5, (nw_t n2).trans a6, (nw_l n2).trans a7, fun i hi => ?_⟩
  have n3 : t + 3 + i < w.1 := fre_lt hf (by have := (a8 i hi).2; omega)
  exact ⟨(nw_p n1 i).trans (a8 i hi).1, (nw_t n3).trans (a8 i hi).2⟩
theorem isTs_nw {w : LT} {a k n : Nat} (hf : Fre w) (h : isTs w a) : isTs (nwL w k n) a := by
  obtain ⟨a1, a2, a3, a4⟩ := h
  have n0 : a < w.1 := fre_lt hf (by omega)
  have n1 : a + 1 < w.1 := fre_lt hf (by omega)
  exact ⟨(nw_t n0).trans a1, (nw_p n0 0).trans a2, (nw_t n1).trans a3, (nw_l n1).trans a4⟩
theorem isBk_nw {w : LT} {b ts k n : Nat} (hf : Fre w) (h : isBk w b ts) : isBk (nwL w k n) b ts := by
  obtain ⟨a1, a2, a3, a4, a5, ⟨b1, b2, b3⟩, ⟨c1, c2, c3⟩, ⟨d1, d2, d3⟩, ⟨e1, e2, e3⟩, ⟨f1, f2, f3⟩, a6⟩ := h
  have m0 : b < w.1 := fre_lt hf (by omega)
  have m1 : b + 1 < w.1 := fre_lt hf (by omega)
  have m2 : b + 2 < w.1 := fre_lt hf (by omega)
  have m3 : b + 3 < w.1 := fre_lt hf (by omega)
  have m4 : b + 4 < w.1 := fre_lt hf (by omega)
  have m5 : b + 5 < w.1 := fre_lt hf (by omega)
  exact ⟨(nw_t m0).trans a1, (nw_p m0 0).trans a2, (nw_p m0 1).trans a3, (nw_p m0 2).trans a4, (nw_p m0 3).trans a5, ⟨(nw_p m0 6).trans b1, (nw_t m1).trans b2, (nw_l m1).trans b3⟩, ⟨(nw_p m0 7).trans c1, (nw_t m2).trans c2, (nw_l m2).trans c3⟩, ⟨(nw_p m0 8).trans d1, (nw_t m3).trans d2, (nw_l m3).trans d3⟩, ⟨(nw_p m0 9).trans e1, (nw_t m4).trans e2, (nw_l m4).trans e3⟩, ⟨(nw_p m0 10).trans f1, (nw_t m5).trans f2, (nw_l m5).trans f3⟩, isTs_nw hf a6⟩
theorem tabT_k : ∀ q ∈ tabT, q.2.1 ≠ 99 := by decide
theorem tabP_k : ∀ q ∈ tabP, ∃ p ∈ tabT, p.1 = q.1 := by decide +kernel
/-- the part of the layout that speaks of the first cells -/
theorem Lay_tabs {w w' : LT} (h : Lay w) (hk : ∀ a, lt_t w a ≠ 99 → lt_t w' a = lt_t w a ∧ lt_l w' a = lt_l w a) (hp : ∀ q ∈ tabP, lt_p w' q.1 q.2.1 = lt_p w q.1 q.2.1) : (∀ q ∈ tabT, lt_t w' q.1 = q.2.1 ∧ lt_l w' q.1 = q.2.2) ∧ (∀ q ∈ tabP, lt_p w' q.1 q.2.1 = q.2.2) := by
  refine ⟨fun q hq => ?_, fun q hq => (hp q hq).trans (h.2.1 q hq)⟩
  have h1 := h.1 q hq
  have h2 := hk q.1 (by rw [h1.1]; exact tabT_k q hq)
  exact ⟨h2.1.trans h1.1, h2.2.trans h1.2⟩
theorem tabP_lt {w : LT} (hf : Fre w) (h : Lay w) : ∀ q ∈ tabP, q.1 < w.1 := by
  intro q hq
  obtain ⟨p, hp, e⟩ := tabP_k q hq
  have h1 := h.1 p hp
  rw [← e]
  exact fre_lt hf (by rw [h1.1]; exact tabT_k p hp)
theorem Lay_nw {w : LT} {k n : Nat} (hf : Fre w) (h : Lay w) (h7 : k ≠ 7) (h1 : k ≠ 1) : Lay (nwL w k n) := by
  obtain ⟨t1, t2⟩ := Lay_tabs (w' := nwL w k n) h (fun a ha => ⟨nw_t (fre_lt hf ha), nw_l (fre_lt hf ha)⟩) (fun q hq => nw_p (tabP_lt hf h q hq) _)
  refine ⟨t1, t2, fun t ht => ?_, fun b hb => ?_⟩
  · by_cases e : t = w.1
    · subst e; exact absurd (nw_n.symm.trans ht) h7
    · have h2 : lt_t w t = 7 := (if_neg e).symm.trans ht
      exact isTx_nw hf (h.2.2.1 t h2)
  · by_cases e : b = w.1
    · subst e; exact absurd (nw_n.symm.trans hb) h1
    · have h2 : lt_t w b = 1 := (if_neg e).symm.trans hb
      have h3 := isBk_nw (k := k) (n := n) hf (h.2.2.2 b h2)
      rw [nw_p (fre_lt hf (by omega)) 2]
      exact h3
theorem Fre_nw {w : LT} {k n : Nat} (hf : Fre w) : Fre (nwL w k n) := by
  intro a h
  have h0 : w.1 + 1 ≤ a := h
  show (if a = w.1 then k else w.2.1 a) = 99
  rw [if_neg (by omega)]
  exact hf a (by omega)
theorem Fre_sP {w : LT} {c k v : Nat} (hf : Fre w) : Fre (sP w c k v) := hf
/-- the layout behind both constructors -/
def WM : LT := (F_X12_init 167 0 0 (nwL WA10 12 0) z0).1
set_option maxRecDepth 100000 in
theorem WM_n : WM.1 = 216 := by decide +kernel
set_option maxRecDepth 100000 in
theorem WM_T : ∀ q ∈ tabT, lt_t WM q.1 = q.2.1 ∧ lt_l WM q.1 = q.2.2 := by decide +kernel
set_option maxRecDepth 100000 in
theorem WM_P : ∀ q ∈ tabP, lt_p WM q.1 q.2.1 = q.2.2 := by decide +kernel
set_option maxRecDepth 100000 in
theorem WM_7 : ∀ t, t < 216 → lt_t WM t = 7 → t = 140 := by decide +kernel
set_option maxRecDepth 100000 in
theorem WM_1 : ∀ t, t < 216 → lt_t WM t = 1 → t = 130 := by decide +kernel
set_option maxRecDepth 100000 in
theorem WM_140 : isTx WM 140 := by unfold isTx; decide +kernel
set_option maxRecDepth 100000 in
theorem WM_130 : isBk WM 130 (lt_p WM 130 2) := by unfold isBk isTs; decide +kernel
theorem Lay_WM (hf : Fre WM) : Lay WM := by
  refine ⟨WM_T, WM_P, fun t ht => ?_, fun b hb => ?_⟩
  · have h1 : t < WM.1 := fre_lt hf (by omega)
    rw [WM_n] at h1
    rw [WM_7 t h1 ht]
    exact WM_140
  · have h1 : b < WM.1 := fre_lt hf (by omega)
    rw [WM_n] at h1
    rw [WM_1 b h1 hb]
    exact WM_130
