/-! ===== all RULES of a text in the reference ===== -/
theorem RT.fr {u v : MT} {cb ib sl how : Nat} {rs : List AR} (h : RT u cb ib sl rs how) (hI : ∀ a j, 173 ≤ a → a ≤ 184 → gI v a j = gI u a j) : RT v cb ib sl rs how := by
  obtain ⟨⟨c, h1, h2, h3, h4⟩, h5⟩ := h
  exact ⟨⟨c, h1, by rw [hI _ _ (by omega) (by omega)]; exact h2, by rw [hI _ _ (by omega) (by omega)]; exact h3, fun s hs => (h4 s hs).fr (Nat.le_refl _) (fun a e1 e2 => hI _ _ (by omega) (by omega)) (fun k _ => ⟨hI _ _ (by omega) (by omega), hI _ _ (by omega) (by omega)⟩)⟩, by rw [hI _ _ (by omega) (by omega)]; exact h5⟩
def Bys (n q : Nat) (sh : Nat → Int32) (cap : Int32) (how : Nat) (rs : List AR) (s0 : QS) (k : Nat) (t : MT) : Prop :=
  ∀ i, i < k → (∀ h, h < n → gI t 209 (13 * i + h) = qH (ruls n q sh cap how (rs.take (i + 1)) s0) h - qH (ruls n q sh cap how (rs.take i) s0) h) ∧ gI t 209 (13 * i + 12) = qF (ruls n q sh cap how (rs.take (i + 1)) s0) - qF (ruls n q sh cap how (rs.take i) s0)
section
variable {f : Nat}
theorem r_rules {u : MT} {sl q n how : Nat} {x1 x3 cap : Int32} {sh : Nat → Int32} {rs : List AR} {s0 : QS} {hn : Int} {jj : Int32 → Int32 → MT → Option MT} (hf : 1300 < f) (hX : XV u s0 n q) (hQ : QI s0 n cap) (hcap : gI u 167 29 = cap) (hs : Nm (gI u 167 44) sl) (hs7 : sl ≤ 7) (hT : RT u (1300 * sl) (24 * sl) sl rs how) (hhow : 32 ≤ how ∧ how ≤ 34) (hl : rs.length ≤ 24) (hV : ∀ r ∈ rs, RV hn r) (hsh : ∀ h, h < n → gI u 189 h = sh h) (hsh1 : ∀ h, h < n → 1 ≤ (sh h).toInt ∧ (sh h).toInt ≤ 1000) (h0 : ∀ j, j < 312 → gI u 209 j = 0) :
    ∃ v, B_X12_works_118 f jj f x1 x3 0 u = B_X12_works_151 f jj x1 x3 v ∧ XV v (ruls n q sh cap how rs s0) n q ∧ Bys n q sh cap how rs s0 rs.length v ∧ Fr wI_X12_rule [] [] u v := by
  have h12 := hX.n12
  have loop : ∀ (e k : Nat) (y : Int32) (m : Nat) (t : MT) (s : QS), k + e = rs.length → Nm y k → e < m → XV t s n q → QI s n cap → s = ruls n q sh cap how (rs.take k) s0 → Bys n q sh cap how rs s0 k t → (∀ j, 13 * k ≤ j → j < 312 → gI t 209 j = 0) → Fr wI_X12_rule [] [] u t → ∃ v, B_X12_works_118 f jj m x1 x3 y t = B_X12_works_151 f jj x1 x3 v ∧ XV v (ruls n q sh cap how rs s0) n q ∧ Bys n q sh cap how rs s0 rs.length v ∧ Fr wI_X12_rule [] [] u v := by
    intro e
    induction e with
    | zero =>
      intro k y m t s hk hy hm hXt hQt es hb hz hF
      obtain ⟨m, rfl⟩ : ∃ m', m = m' + 1 := ⟨m - 1, by omega⟩
      have hkl : k = rs.length := by omega
      subst hkl
      have e44 : gI t 167 44 = gI u 167 44 := hF.1 _ _ (by simp [nin, wI_X12_rule])
      have hTt := hT.fr (v := t) (fun a j h1 h2 => hF.1 _ _ (by simp [nin, wI_X12_rule] <;> omega))
      obtain ⟨⟨c, g1, g2, g3, g4⟩, g5⟩ := hTt
      refine ⟨t, ?_, ?_, hb, hF⟩
      · rw [B_X12_works_118, e44, if_neg (fun c => by have := i_lt.mp c; have hs : (gI u 167 44).toInt = (sl : Int) := hs; have z : (0 : Int32).toInt = 0 := rfl; omega), ck_p (hs.ix (by omega)), hs.nat, if_pos ((g2.le hy).mpr (Nat.le_refl _))]
      · rw [List.take_of_length_le (Nat.le_refl _)] at es
        rw [← es]; exact hXt
    | succ e ih =>
      intro k y m t s hk hy hm hXt hQt es hb hz hF
      obtain ⟨m, rfl⟩ : ∃ m', m = m' + 1 := ⟨m - 1, by omega⟩
      have hkl : k < rs.length := by omega
      have e44 : gI t 167 44 = gI u 167 44 := hF.1 _ _ (by simp [nin, wI_X12_rule])
      have hTt := hT.fr (v := t) (fun a j h1 h2 => hF.1 _ _ (by simp [nin, wI_X12_rule] <;> omega))
      obtain ⟨⟨c, g1, g2, g3, g4⟩, g5⟩ := hTt
      have hR := g4 k hkl
      have eg : rs.getD k rNone = rs[k] := by rw [List.getD_eq_getElem?_getD, List.getElem?_eq_getElem hkl]; rfl
      rw [eg] at hR
      have hVk := hV rs[k] (List.getElem_mem hkl)
      obtain ⟨r, e1, r1, r2, r3, r4⟩ := r_rule (f := f) (sh := sh) (cap := cap) (how := how) hf hXt hQt (by rw [hF.1 _ _ (by simp [nin, wI_X12_rule])]; exact hcap) (by rw [e44]; exact hs) hs7 g5 hhow (by omega) hy (fun h hh => by rw [hF.1 _ _ (by simp [nin, wI_X12_rule])]; exact hsh h hh) (fun h hh => (hsh1 h hh).1) hR g1 hVk
      have fr := fr_F_X12_rule e1
      have es' : rul s n q sh cap how rs[k] = ruls n q sh cap how (rs.take (k + 1)) s0 := by
        rw [List.take_succ_eq_append_getElem hkl, ruls_app, ← es]
      rw [B_X12_works_118, e44, if_neg (fun c => by have := i_lt.mp c; have hs : (gI u 167 44).toInt = (sl : Int) := hs; have z : (0 : Int32).toInt = 0 := rfl; omega), ck_p (hs.ix (by omega)), hs.nat, if_neg (fun c => by have := (g2.le hy).mp c; omega), e1]
      refine ih (k + 1) (y + 1) m r _ (by omega) (hy.succ (by omega)) (by omega) r1 (rul_QI hQt h12 hsh1) es' (fun i hi => ?_) (fun j h1 h2 => by rw [r4 j (by omega)]; exact hz j (by omega) h2) (Fr_tr fr hF)
      by_cases c : i = k
      · subst c
        refine ⟨fun h hh => ?_, ?_⟩
        · rw [← es', ← es]; exact sub_flip (r2 h hh) (hz _ (by omega) (by omega))
        · rw [← es', ← es]; exact r3 (hz _ (by omega) (by omega))
      · obtain ⟨b1, b2⟩ := hb i (by omega)
        exact ⟨fun h hh => by rw [r4 _ (by omega)]; exact b1 h hh, by rw [r4 _ (by omega)]; exact b2⟩
  exact loop rs.length 0 0 f u s0 (by omega) nm0 (by omega) hX hQ rfl (fun i hi => absurd hi (by omega)) (fun j _ h => h0 j h) Fr_rfl
end
