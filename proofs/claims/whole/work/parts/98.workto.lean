/-! ===== a Book is worked up to a quarter ===== -/
def tRl (V : VD) (X : XD) (d : Int32) (q : Nat) (s : QS) : QS := rulO (vlN V) q (vlS V) (vlC V) (xtR X) (xtH X) (txO X d q) s
theorem tN_cg {V V' : VD} {X X' : XD} {d d' : Int32} {q : Nat} {p : QS} (hN : vlN V = vlN V') (hB : vlB V = vlB V') (hL : vlL V = vlL V') (hw : ∀ h, tw V d q h = tw V' d' q h) (hg : ∀ h, tg V d q h = tg V' d' q h) (hr : ∀ s, tRl V X d q s = tRl V' X' d' q s) : tN V X d q p = tN V' X' d' q p := by
  have e : tB V d q p = tB V' d' q p := by
    unfold tB
    rw [hN, hB, hL, funext hw, funext hg]
  show tRl V X d q (tB V d q p) = tRl V' X' d' q (tB V' d' q p)
  rw [e, hr]
theorem tS_cg {V V' : VD} {X X' : XD} {d d' : Int32} (hN : vlN V = vlN V') (hB : vlB V = vlB V') (hL : vlL V = vlL V') : ∀ q, (∀ q', q' ≤ q → (∀ h, tw V d q' h = tw V' d' q' h) ∧ (∀ h, tg V d q' h = tg V' d' q' h) ∧ ∀ s, tRl V X d q' s = tRl V' X' d' q' s) → tS V X d q = tS V' X' d' q := by
  intro q
  induction q with
  | zero => intro h; obtain ⟨h1, h2, h3⟩ := h 0 (Nat.le_refl _); exact tN_cg hN hB hL h1 h2 h3
  | succ q ih =>
    intro h
    obtain ⟨h1, h2, h3⟩ := h (q + 1) (Nat.le_refl _)
    rw [tS, tS, ih (fun q' hq => h q' (by omega))]
    exact tN_cg hN hB hL h1 h2 h3
theorem Brow_cg {V V' : VD} {X X' : XD} {d d' : Int32} {b q : Nat} {u v : MT} (hN : vlN V = vlN V') (hB : vlB V = vlB V') (hL : vlL V = vlL V') (hT : ∀ q', q' ≤ q → (∀ h, tri V d q' h = tri V' d' q' h ∧ tw V d q' h = tw V' d' q' h ∧ tg V d q' h = tg V' d' q' h) ∧ ∀ s, tRl V X d q' s = tRl V' X' d' q' s) (hu : ∀ a j, b < a → a ≤ b + 5 → gI v a j = gI u a j) (h : Brow V X d b q u) : Brow V' X' d' b q v := by
  have e := tS_cg (X := X) (X' := X') (d := d) (d' := d') hN hB hL q (fun q' hq => ⟨fun h => ((hT q' hq).1 h).2.1, fun h => ((hT q' hq).1 h).2.2, (hT q' hq).2⟩)
  have ep : tpf V d q = tpf V' d' q := by
    unfold tpf
    rw [hN, show tw V d q = tw V' d' q from funext (fun h => ((hT q (Nat.le_refl _)).1 h).2.1), show tg V d q = tg V' d' q from funext (fun h => ((hT q (Nat.le_refl _)).1 h).2.2)]
  obtain ⟨h1, h2⟩ := h
  refine ⟨fun h hh => ?_, fun k hk => ?_⟩
  · rw [hu _ _ (by omega) (by omega), hu _ _ (by omega) (by omega), hu _ _ (by omega) (by omega), hu _ _ (by omega) (by omega), ← e, ← ((hT q (Nat.le_refl _)).1 h).1]
    exact h1 h (by rw [hN]; exact hh)
  · rw [hu _ _ (by omega) (by omega), ← e, ← ep, ← hN, ← hL]; exact h2 k hk
theorem tri_day {V : VD} {d0 d : Int32} {W : Nat} (hW : W ≤ 240) (h : ∀ j, j < vlR V → (vlQ V j).toInt < (W : Int) → (vlD V j ≤ d0 ↔ vlD V j ≤ d)) : ∀ q, q < W → ∀ k, tri V d0 q k = tri V d q k := by
  have la : ∀ q, q < W → ∀ k, tla V d0 q k = tla V d q k := fun q hq k => las_eq _ (fun j hj e => h j hj (by
    have : (Int32.ofNat q).toInt = (q : Int) := Nm.of (by omega)
    rw [e, this]; omega))
  intro q
  induction q with
  | zero => intro hq k; rw [tri, tri, la 0 hq]
  | succ q ih => intro hq k; rw [tri, tri, la _ hq, ih (by omega)]
def Bok (V : VD) (X : XD) (d : Int32) (b W : Nat) (u : MT) : Prop := (∀ q, q < W → Brow V X d b q u) ∧ (∀ q h, q < 240 → vlN V ≤ h → h < 12 → gI u (b + 2) (q * 12 + h) = 0 ∧ gI u (b + 3) (q * 12 + h) = 0 ∧ gI u (b + 4) (q * 12 + h) = 0) ∧ ∀ q h, q < W → vlN V ≤ h → h < 12 → gI u (b + 1) (q * 12 + h) = -1
theorem Bok.turn {V : VD} {X : XD} {d0 d : Int32} {b W W1 : Nat} {u r : MT} (h : Bok V X d0 b W u) (hW : W1 ≤ W) (h240 : W ≤ 240) (hR : ∀ j, j < vlR V → (vlQ V j).toInt < (W1 : Int) → (vlD V j ≤ d0 ↔ vlD V j ≤ d)) (hT : ∀ j, j < xtT X → (xtQ X j).toInt < (W1 : Int) → (xtD X j ≤ d0 ↔ xtD X j ≤ d)) (hu : ∀ a j, b < a → a ≤ b + 5 → gI r a j = gI u a j) : Bok V X d b W1 r := by
  obtain ⟨h1, h2, h3⟩ := h
  have et := tri_day (V := V) (d0 := d0) (d := d) (W := W1) (by omega) hR
  refine ⟨fun q hq => Brow_cg rfl rfl rfl (fun q' hq' => ⟨fun h => ⟨et q' (by omega) h, ?_, ?_⟩, fun s => ?_⟩) hu (h1 q (by omega)), fun q h hq hn hh => ?_, fun q h hq hn hh => ?_⟩
  · unfold tw; rw [et q' (by omega)]
  · unfold tg; rw [et q' (by omega)]
  · have : txO X d0 q' = txO X d q' := txF_eq _ (fun j hj e => hT j hj (by
      have e1 := i_le.mp e
      have : (Int32.ofNat q').toInt = (q' : Int) := Nm.of (by omega)
      omega))
    unfold tRl; rw [this]
  · rw [hu _ _ (by omega) (by omega), hu _ _ (by omega) (by omega), hu _ _ (by omega) (by omega)]; exact h2 q h hq hn hh
  · rw [hu _ _ (by omega) (by omega)]; exact h3 q h (by omega) hn hh
theorem tla_none {V : VD} {d : Int32} {q h : Nat} (hV : VOk V) (hh : vlN V ≤ h) : tla V d q h = none := by
  cases e : tla V d q h with
  | none => rfl
  | some r =>
    obtain ⟨l1, _, _, l4⟩ := lasR_lt _ e
    obtain ⟨⟨h', _, c1, c2, _⟩, _⟩ := hV.2.2.1 r l1
    have c1 : (vlH V r).toInt = (h' : Int) := c1
    omega
def Wto (w : LT) (V : VD) (X : XD) (d : Int32) (b ts Q : Nat) (u r : MT) : Prop :=
  (∃ W, Q < W ∧ W ≤ 240 ∧ Nm (gI r b 5) W ∧ Bok V X d b W r) ∧ gI r b 4 = d ∧ VC V r ∧ XC w X ts r ∧ (∀ a j, (a < 116 ∨ 127 < a) → (a < b ∨ b + 5 < a) → gI r a j = gI u a j) ∧ gI r 116 1 = gI u 116 1 ∧ gI r 116 2 = gI u 116 2 ∧ ∀ a j, gK r a j = gK u a j
section
variable {f : Nat}
theorem c_workTo {w : LT} {V : VD} {X : XD} {u : MT} {b ts W Q : Nat} {x d d0 : Int32} (hf : 3000 < f) (hV : VOk V) (hX : XOk V X) (hC : VC V u) (hT : XC w X ts u) (hD : Dj w X ts b) (hts : 128 ≤ ts) (hb : 127 < b) (hW : Nm (gI u b 5) W) (hW240 : W ≤ 240) (hd0 : gI u b 4 = d0) (hB : Bok V X d0 b W u) (hx : Nm x Q) (hQ : Q < 240) :
    Ok (F_X1_workTo w f b ts x d u) (Wto w V X d b ts Q u) := by
  have hV' := hV
  obtain ⟨V1, V2, V3, V4, V5, V6, V7, V8⟩ := hV'
  have hC' := hC
  obtain ⟨C1, C2, C3, C4, C5, C6⟩ := hC'
  have hW' : (gI u b 5).toInt = (W : Int) := hW
  have hx' : x.toInt = (Q : Int) := hx
  obtain ⟨r1, e1, t1, t2, t3, t4, t5, t6⟩ := c_turn (f := f) (w := w) (u := u) (b := b) (ts := ts) (R := vlR V) (T := xtT X) (d := d) (rq := vlQ V) (rd := vlD V) (tq := xtQ X) (td := xtD X) (by omega) (by omega) C2 V2 (fun j hj => ⟨(C3 j hj).2.1, by obtain ⟨⟨_, q, _, _, c, _⟩, _⟩ := V3 j hj; have c : (vlQ V j).toInt = (q : Int) := c; omega⟩) (fun j hj => (C3 j hj).2.2.2.2) hT.1 hX.1 (fun t ht => ⟨(hT.2 t ht).1, by have := hD.2 t ht; omega⟩) (fun t ht => ⟨(hT.2 t ht).2.2.1, by obtain ⟨⟨q, c, _⟩, _⟩ := hX.2 t ht; have c : (xtQ X t).toInt = (q : Int) := c; omega⟩) (fun t ht => (hT.2 t ht).2.2.2.1) (by have := hD.1; omega)
  rw [hd0] at t4 t5
  have n1 : Nm (gI r1 b 5) (gI r1 b 5).toNatClampNeg := Nm.of_nn t2
  generalize (gI r1 b 5).toNatClampNeg = W1 at n1
  have n1' : (gI r1 b 5).toInt = (W1 : Int) := n1
  have B1 : Bok V X d b W1 r1 := hB.turn (by omega) hW240 (fun j hj c => t4 j hj (by omega)) (fun j hj c => t5 j hj (by omega)) (fun a j h1 h2 => t6 a j (by omega))
  have K1 : ∀ a j, gK r1 a j = gK u a j := fun a j => (fr_F_X1_turnTo e1).2.2 a j (by simp [nin])
  have VC1 : VC V r1 := hC.fr (fun a j h => t6 _ _ (by omega)) (t6 _ _ (by omega)) (t6 _ _ (by omega))
  have XC1 : XC w X ts r1 := hT.fr hX hD hts (fun a j h1 h2 => t6 _ _ (by omega)) (fun a j _ => K1 a j)
  rw [F_X1_workTo]
  refine Ok.bindE e1 ?_
  refine Ok.ite (fun c => ?_) (fun c => ?_)
  · have hWQ : W1 ≤ Q := by have := i_le.mp c; omega
    obtain ⟨D1, D2, D3, D4, D5, D6⟩ := VC1
    obtain ⟨r4, e4, P1, P2, P3⟩ := c_place (f := f) (u := r1) (b := b) (ts := ts) (W := W1) (Q := Q) (R := vlR V) (n := vlN V) (x := x) (d := d) (rh := vlH V) (rq := vlQ V) (rd := vlD V) hf n1 hx hWQ hQ t1 V1 D2 V2 (fun j hj => ⟨(D3 j hj).1, (D3 j hj).2.1, (D3 j hj).2.2.2.2⟩) (by omega) (fun j hj => (V3 j hj).1)
    refine Ok.bindE e4 ?_
    show Ok (B_X1_workTo_24 w f b ts f x (gI r4 b 5) r4) _
    have K4 : ∀ a j, gK r4 a j = gK u a j := fun a j => by rw [← K1 a j]; exact (fr_F_X1_placeReadings e4).2.2 a j (by simp [nin])
    have F4 : ∀ a j, (a ≠ b + 1) → (a ≠ b ∨ (j ≠ 4 ∧ j ≠ 5)) → gI r4 a j = gI u a j := fun a j h1 h2 => by rw [P3 a j h1]; exact t6 a j h2
    have d4 : gI r4 b 4 = d := by rw [P3 _ _ (by omega)]; exact t1
    have loop : ∀ (e k : Nat) (y : Int32) (m : Nat) (t : MT), k + e = Q + 1 → Nm y k → e < m → Bok V X d b k t → (∀ q h, k ≤ q → q ≤ Q → h < 12 → gI t (b + 1) (q * 12 + h) = txC (tla V d q h)) → (∀ a j, (a < 116 ∨ 127 < a) → (a < b + 1 ∨ b + 5 < a) → gI t a j = gI r4 a j) → gI t 116 1 = gI r4 116 1 → gI t 116 2 = gI r4 116 2 → (∀ a j, gK t a j = gK r4 a j) → Ok (B_X1_workTo_24 w f b ts m x y t) (Wto w V X d b ts Q u) := by
      intro e
      induction e with
      | zero =>
        intro k y m t hk hy hm g1 g2 g3 g4 g5 g6
        obtain ⟨m, rfl⟩ : ∃ m', m = m' + 1 := ⟨m - 1, by omega⟩
        have hk : k = Q + 1 := by omega
        subst hk
        rw [B_X1_workTo_24]
        refine Ok.t ((hx.lt hy).mpr (by omega)) (Ok.some ?_)
        have fr : ∀ a j, (a ≠ b ∨ j ≠ 5) → gI (sI t b 5 (x + 1)) a j = gI t a j := fun a j h => by
          by_cases e : a = b
          · subst e; exact g_nk _ _ _ (h.resolve_left (fun c => c rfl))
          · exact g_ne _ _ _ _ e
        have frU : ∀ a j, (a < 116 ∨ 127 < a) → (a < b ∨ b + 5 < a) → gI (sI t b 5 (x + 1)) a j = gI u a j := fun a j h1 h2 => by rw [fr _ _ (by omega), g3 _ _ h1 (by omega), F4 _ _ (by omega) (by omega)]
        have f1 : gI (sI t b 5 (x + 1)) 116 1 = gI u 116 1 := by rw [fr _ _ (by omega), g4, F4 _ _ (by omega) (by omega)]
        have f2 : gI (sI t b 5 (x + 1)) 116 2 = gI u 116 2 := by rw [fr _ _ (by omega), g5, F4 _ _ (by omega) (by omega)]
        have fK : ∀ a j, gK (sI t b 5 (x + 1)) a j = gK u a j := fun a j => by show gK t a j = _; rw [g6, K4]
        refine ⟨⟨Q + 1, by omega, by omega, ?_, ?_⟩, ?_, hC.fr (fun a j h => frU _ _ (by omega) (by omega)) f1 f2, hT.fr hX hD hts (fun a j h1 h2 => frU _ _ (by omega) h2) (fun a j _ => fK a j), frU, f1, f2, fK⟩
        · rw [g_same]; exact hx.succ (by omega)
        · obtain ⟨b1, b2, b3⟩ := g1
          refine ⟨fun q hq => Brow_cg rfl rfl rfl (fun q' hq' => ⟨fun h => ⟨rfl, rfl, rfl⟩, fun s => rfl⟩) (fun a j h1 h2 => fr _ _ (by omega)) (b1 q hq), fun q h hq hn hh => ?_, fun q h hq hn hh => ?_⟩
          · rw [fr _ _ (by omega), fr _ _ (by omega), fr _ _ (by omega)]; exact b2 q h hq hn hh
          · rw [fr _ _ (by omega)]; exact b3 q h hq hn hh
        · rw [fr _ _ (by omega), g3 _ _ (by omega) (by omega)]; exact d4
      | succ e ih =>
        intro k y m t hk hy hm g1 g2 g3 g4 g5 g6
        obtain ⟨m, rfl⟩ : ∃ m', m = m' + 1 := ⟨m - 1, by omega⟩
        rw [B_X1_workTo_24]
        refine Ok.f (fun c => by have := (hx.lt hy).mp c; omega) ?_
        have VCt : VC V t := hC.fr (fun a j h => by rw [g3 _ _ (by omega) (by omega), F4 _ _ (by omega) (by omega)]) (by rw [g4, F4 _ _ (by omega) (by omega)]) (by rw [g5, F4 _ _ (by omega) (by omega)])
        have XCt : XC w X ts t := hT.fr hX hD hts (fun a j h1 h2 => by rw [g3 _ _ (by omega) (by omega), F4 _ _ (by omega) (by omega)]) (fun a j _ => by rw [g6, K4])
        refine (c_wagain (f := f) (x := y) (x2 := -1) (o := tla V d k) (by omega) hV hX VCt XCt hD hts hb hy (by omega) (by rw [g3 _ _ (by omega) (by omega)]; exact d4) (fun h hh => g2 k h (by omega) (by omega) (by omega)) (fun h => (tri_eq k h).symm) (fun h r e => (lasR_lt _ e).1) (fun c => g1.1 (k - 1) (by omega))).bind (fun r hr => ?_)
        obtain ⟨a1, a2, a3, a4, a5, a6, _, a7⟩ := hr
        refine ih (k + 1) (y + 1) m r (by omega) (hy.succ (by omega)) (by omega) ⟨fun q hq => ?_, fun q h hq hn hh => ?_, fun q h hq hn hh => ?_⟩ (fun q h h1 h2 h3 => ?_) (fun a j h1 h2 => by rw [a2 _ _ h1 h2]; exact g3 _ _ h1 h2) (by rw [a5]; exact g4) (by rw [a6]; exact g5) (fun a j => by rw [a7]; exact g6 a j)
        · by_cases c : q = k
          · subst c; exact a1
          · obtain ⟨o1, o2⟩ := g1.1 q (by omega)
            refine ⟨fun h hh => ?_, fun j hj => ?_⟩
            · obtain ⟨z1, z2, z3, z4⟩ := a3 (q * 12 + h) (by omega)
              rw [z1, z2, z3, z4]; exact o1 h hh
            · rw [a4 _ (by omega)]; exact o2 j hj
        · obtain ⟨z1, z2, z3, z4⟩ := a3 (q * 12 + h) (by omega)
          rw [z2, z3, z4]; exact g1.2.1 q h hq hn hh
        · obtain ⟨z1, _⟩ := a3 (q * 12 + h) (by omega)
          rw [z1]
          by_cases c : q = k
          · subst c; rw [g2 q h (by omega) (by omega) hh, tla_none hV hn]; rfl
          · exact g1.2.2 q h (by omega) hn hh
        · obtain ⟨z1, _⟩ := a3 (q * 12 + h) (by omega)
          rw [z1]; exact g2 q h (by omega) h2 h3
    refine loop (Q + 1 - W1) W1 _ f r4 (by omega) (by rw [P3 _ _ (by omega)]; exact n1) (by omega) ⟨fun q hq => ?_, fun q h hq hn hh => ?_, fun q h hq hn hh => ?_⟩ (fun q h h1 h2 h3 => P1 q h _ (Nm.of (by omega)) h1 h2 h3) (fun _ _ _ _ => rfl) rfl rfl (fun _ _ => rfl)
    · obtain ⟨o1, o2⟩ := B1.1 q hq
      refine ⟨fun h hh => ?_, fun j hj => ?_⟩
      · rw [P2 _ (by omega), P3 _ _ (by omega), P3 _ _ (by omega), P3 _ _ (by omega)]; exact o1 h hh
      · rw [P3 _ _ (by omega)]; exact o2 j hj
    · rw [P3 _ _ (by omega), P3 _ _ (by omega), P3 _ _ (by omega)]; exact B1.2.1 q h hq hn hh
    · rw [P2 _ (by omega)]; exact B1.2.2 q h hq hn hh
  · have hWQ : Q < W1 := by have := mt i_le.mpr c; omega
    exact Ok.some ⟨⟨W1, hWQ, by omega, n1, B1⟩, t1, VC1, XC1, fun a j h1 h2 => t6 _ _ (by omega), t6 _ _ (by omega), t6 _ _ (by omega), K1⟩
end
