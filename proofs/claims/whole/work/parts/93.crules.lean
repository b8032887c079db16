/-! ===== all RULES of a text in the class ===== -/
def Ru (u v : MT) : Prop := (∀ j, (j = 0 ∨ j = 6 ∨ j = 7) → gI v 127 j = gI u 127 j) ∧ ∀ a j, (a < 116 ∨ 127 < a ∨ (a = 116 ∧ j ≠ 4 ∧ j ≠ 5 ∧ j ≠ 12 ∧ j ≠ 17)) → gI v a j = gI u a j
/-- the watched RULE i: what it gave and filled, as soon as it has run -/
def Wt (n q : Nat) (sh : Nat → Int32) (cap : Int32) (how : Nat) (rs : List AR) (s0 : QS) (i k : Nat) (t : MT) : Prop :=
  (k ≤ i → (∀ h, h < n → gI t 126 h = 0) ∧ gI t 116 17 = 0) ∧
  (i < k → (∀ h, h < n → gI t 126 h = qH (ruls n q sh cap how (rs.take (i + 1)) s0) h - qH (ruls n q sh cap how (rs.take i) s0) h) ∧ gI t 116 17 = qF (ruls n q sh cap how (rs.take (i + 1)) s0) - qF (ruls n q sh cap how (rs.take i) s0))
theorem sub_flip {a b c d : Int32} (h : a - b = c - d) (hc : c = 0) : a = b - d := by
  subst hc
  grind
theorem c_rules {f : Nat} {w : LT} {u : MT} {b ts tx q n how : Nat} {x y0 cap : Int32} {sh : Nat → Int32} {rs : List AR} {s0 : QS} {hn : Int} (hf : 1300 < f) (hw : lt_t w tx = 7) (htx : 128 ≤ tx) (hW : WV u s0 n q) (hC : CT u tx rs how) (hh34 : how ≤ 34) (hl : rs.length ≤ 24) (hy0 : Nm y0 rs.length) (hsh : ∀ h, h < n → gI u 102 h = sh h) (hcap : gI u 116 1 = cap) (hV : ∀ r ∈ rs, RV hn r) :
    ∃ v, B_X1_workAgain_120 w f b ts f x tx y0 0 u = ((F_X10_end f v).bind fun r22 => (F_X1_write f b ts x r22).bind fun r24 => some r24) ∧ WV v (ruls n q sh cap how rs s0) n q ∧ Ru u v ∧ ∀ i, Nm (gI u 116 16) i → (∀ h, h < n → gI u 126 h = 0) → gI u 116 17 = 0 → Wt n q sh cap how rs s0 i rs.length v := by
  have loop : ∀ (e k : Nat) (y : Int32) (m : Nat) (t : MT) (s : QS), k + e = rs.length → Nm y k → e < m → WV t s n q → CT t tx rs how → s = ruls n q sh cap how (rs.take k) s0 → Ru u t → (∀ i, Nm (gI u 116 16) i → (∀ h, h < n → gI u 126 h = 0) → gI u 116 17 = 0 → Wt n q sh cap how rs s0 i k t) → ∃ v, B_X1_workAgain_120 w f b ts m x tx y0 y t = ((F_X10_end f v).bind fun r22 => (F_X1_write f b ts x r22).bind fun r24 => some r24) ∧ WV v (ruls n q sh cap how rs s0) n q ∧ Ru u v ∧ ∀ i, Nm (gI u 116 16) i → (∀ h, h < n → gI u 126 h = 0) → gI u 116 17 = 0 → Wt n q sh cap how rs s0 i rs.length v := by
    intro e
    induction e with
    | zero =>
      intro k y m t s hk hy hm hWt hCt hr hu hwt
      obtain ⟨m, rfl⟩ : ∃ m', m = m' + 1 := ⟨m - 1, by omega⟩
      have hkl : k = rs.length := by omega
      subst hkl
      refine ⟨t, ?_, ?_, hu, hwt⟩
      · rw [B_X1_workAgain_120, if_pos ((hy0.le hy).mpr (by omega))]
      · rw [List.take_of_length_le (Nat.le_refl _)] at hr
        rw [← hr]; exact hWt
    | succ e ih =>
      intro k y m t s hk hy hm hWt hCt hr hu hwt
      obtain ⟨m, rfl⟩ : ∃ m', m = m' + 1 := ⟨m - 1, by omega⟩
      have hkl : k < rs.length := by omega
      have hCt' := hCt
      obtain ⟨⟨c, g1, g2, g3, g4⟩, g5⟩ := hCt'
      have hR := g4 k hkl
      have eg : rs.getD k rNone = rs[k] := by rw [List.getD_eq_getElem?_getD, List.getElem?_eq_getElem hkl]; rfl
      rw [eg] at hR
      have hVk := hV rs[k] (List.getElem_mem hkl)
      obtain ⟨r, e1, r1, rA⟩ := c_apply (f := f) (sh := sh) (cap := cap) hf hWt htx (by omega) hy (fun h hh => by rw [hu.2 _ _ (by omega)]; exact hsh h hh) (by rw [hu.2 _ _ (by omega)]; exact hcap) g5 hh34 hR g1 hVk
      have fr := fr_F_X10_apply e1
      have es : rul s n q sh cap how rs[k] = ruls n q sh cap how (rs.take (k + 1)) s0 := by
        rw [List.take_succ_eq_append_getElem hkl, ruls_app, ← hr]
      rw [B_X1_workAgain_120, if_neg (fun c => by have := (hy0.le hy).mp c; omega), ck_p hw, e1]
      refine ih (k + 1) (y + 1) m r _ (by omega) (hy.succ (by omega)) (by omega) r1 (hCt.app htx e1) es ⟨fun j hj => ?_, fun a j ha => ?_⟩ (fun i hi h126 h17 => ?_)
      · rw [ap_sums hy htx e1 (fun c19 => ?_) (by omega)]
        · exact hu.1 j hj
        · rw [hR.2.1] at c19
          rw [(hR.2.2.1 c19).1.nat]
          have := hVk.2.2.2.1 c19
          omega
      · rw [← hu.2 a j ha]
        exact fr.1 a j (by simp [nin, wI_X10_apply] <;> omega)
      · have w0 := hwt i hi h126 h17
        have e16 : gI t 116 16 = gI u 116 16 := hu.2 _ _ (by omega)
        obtain ⟨⟨_, d1, d2⟩, a1, a2⟩ := rA
        by_cases c : i = k
        · subst c
          have ey : y = gI t 116 16 := by rw [e16]; exact hy.inj hi
          obtain ⟨z1, z2⟩ := w0.1 (Nat.le_refl _)
          refine ⟨fun c => absurd c (by omega), fun _ => ⟨fun h hh => ?_, ?_⟩⟩
          · rw [← es, ← hr]; exact sub_flip (d1 ey h hh) (z1 h hh)
          · rw [← es, ← hr]; exact a1 ey z2
        · have ny : y ≠ gI t 116 16 := fun e => c (by rw [e16] at e; have hy : y.toInt = (k : Int) := hy; have hi : (gI u 116 16).toInt = (i : Int) := hi; rw [e] at hy; omega)
          refine ⟨fun c2 => ?_, fun c2 => ?_⟩
          · obtain ⟨z1, z2⟩ := w0.1 (by omega)
            exact ⟨fun h hh => by rw [d2 ny h hh]; exact z1 h hh, by rw [a2 ny]; exact z2⟩
          · obtain ⟨z1, z2⟩ := w0.2 (by omega)
            exact ⟨fun h hh => by rw [d2 ny h hh]; exact z1 h hh, by rw [a2 ny]; exact z2⟩
  exact loop rs.length 0 0 f u s0 (by omega) nm0 (by omega) hW hC rfl ⟨fun _ _ => rfl, fun _ _ _ => rfl⟩ (fun i _ h1 h2 => ⟨fun _ => ⟨h1, h2⟩, fun c => absurd c (by omega)⟩)
