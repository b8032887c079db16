/-! ===== a quarter is worked in a Book ===== -/
def Wag (V : VD) (X : XD) (d : Int32) (b q : Nat) (x2 : Int32) (u r : MT) : Prop :=
  Brow V X d b q r ∧ (∀ a j, (a < 116 ∨ 127 < a) → (a < b + 1 ∨ b + 5 < a) → gI r a j = gI u a j) ∧
  (∀ j, (j < q * 12 ∨ q * 12 + vlN V ≤ j) → gI r (b + 1) j = gI u (b + 1) j ∧ gI r (b + 2) j = gI u (b + 2) j ∧ gI r (b + 3) j = gI u (b + 3) j ∧ gI r (b + 4) j = gI u (b + 4) j) ∧
  (∀ j, (j < q * 14 ∨ q * 14 + 14 ≤ j) → gI r (b + 5) j = gI u (b + 5) j) ∧ gI r 116 1 = gI u 116 1 ∧ gI r 116 2 = gI u 116 2 ∧
  (∀ i t, Nm x2 i → txO X d q = some t → Wt (vlN V) q (vlS V) (vlC V) (xtH X t) (xtR X t) (tB V d q (tPr V X d q)) i (xtR X t).length r) ∧ ∀ a j, gK r a j = gK u a j
section
variable {f : Nat}
theorem c_wagain {w : LT} {V : VD} {X : XD} {u : MT} {b ts q : Nat} {x x2 d : Int32} {o : Nat → Option Nat} (hf : 1300 < f) (hV : VOk V) (hX : XOk V X) (hC : VC V u) (hT : XC w X ts u) (hD : Dj w X ts b) (hts : 128 ≤ ts) (hb : 127 < b) (hx : Nm x q) (hq : q < 240) (hd : gI u b 4 = d)
    (ho : ∀ h, h < vlN V → gI u (b + 1) (q * 12 + h) = txC (o h)) (hor : ∀ h, rdx q (o h) (trp V d q h) = tri V d q h) (hol : ∀ h r, o h = some r → r < vlR V) (hp : 0 < q → Brow V X d b (q - 1) u) :
    Ok (F_X1_workAgain w f b ts x x2 u) (Wag V X d b q x2 u) := by
  obtain ⟨V1, V2, V3, V4, V5, V6, V7, V8⟩ := hV
  obtain ⟨C1, C2, C3, C4, C5, C6⟩ := hC
  have ex : x = Int32.ofNat q := hx.inj (Nm.of (by omega))
  -- what stands of the quarter ahead
  have p5 : ∀ k, k < 14 → q ≠ 0 → gI u (b + 5) ((q - 1) * 14 + k) = esum (vlN V) (tPr V X d q) (tpf V d (q - 1)) (vlL V) k := by
    intro k hk h0
    obtain ⟨q', rfl⟩ : ∃ q', q = q' + 1 := ⟨q - 1, by omega⟩
    exact (hp (by omega)).2 k hk
  have p4 : ∀ h, h < vlN V → q ≠ 0 → gI u (b + 4) (q * 12 + h - 12) = qH (tPr V X d q) h ∧ gI u (b + 1) (q * 12 + h - 12) = txC (trp V d q h) := by
    intro h hh h0
    obtain ⟨q', rfl⟩ : ∃ q', q = q' + 1 := ⟨q - 1, by omega⟩
    have := (hp (by omega)).1 h hh
    rw [show (q' + 1) * 12 + h - 12 = q' * 12 + h by omega]
    exact ⟨this.2.2.2, this.1⟩
  obtain ⟨v1, e1, W1⟩ := c_wbegin (f := f) (w := w) (u := u) (b := b) (ts := ts) (x2 := x2) hf hx hq hb
  have W1' := W1
  obtain ⟨w1, w2, w3, w4, w5, w6, w7, w8, w9, w10, w11⟩ := W1'
  obtain ⟨v2, e2, B2⟩ := c_bringall (f := f) (w := w) (u := v1) (b := b) (ts := ts) (q := q) (n := vlN V) (x := x) (o := o) (p := trp V d q) (ri := tri V d q) (rw' := vlW V) (rg := vlG V) (wa := tw V d q) (gi := tg V d q) (hd := fun h => if q % 24 = 0 then 0 else qH (tPr V X d q) h) (be := vlB V) (by omega) hx hq hb (by rw [w8 _ _ (by omega) (by omega)]; exact C1) V1 w6 (w1 0 (by omega))
    (fun h hh => by rw [w8 _ _ (by omega) (by omega)]; exact ho h hh) (fun h hh h0 => by rw [w8 _ _ (by omega) (by omega)]; exact (p4 h hh (by omega)).2)
    (fun h r hh hr => by
      have hr' : r < vlR V := by
        rcases hr with hr | hr
        · exact hol h r hr
        · exact trp_lt hr
      rw [w8 _ _ (by omega) (by omega), w8 _ _ (by omega) (by omega)]
      exact ⟨by omega, (C3 r hr').2.2.1, (C3 r hr').2.2.2.1⟩)
    (fun h => (hor h).symm) (fun h => rfl) (fun h => rfl)
    (fun h hh => by
      by_cases c : q % 24 = 0
      · rw [if_pos c, if_pos c]
      · rw [if_neg c, if_neg c, w8 _ _ (by omega) (by omega)]
        exact (p4 h hh (fun e => c (by rw [e]))).1.symm)
    (fun h hh => by rw [w8 _ _ (by omega) (by omega)]; exact (C4 h hh).2.symm)
  have hW := wv_bgn (st := if q = 0 then 0 else qS (tPr V X d q) - qS (tPr V X d q) * vlL V / 1000) (pr := fun k => if q = 0 then 0 else qR (tPr V X d q) k) W1 B2 hx hq C1 V1 hb (by
      by_cases c : q = 0
      · rw [if_pos c, if_pos c]
      · rw [if_neg c, if_neg c, p5 4 (by omega) c]; rfl) (fun k hk => by
      by_cases c : q = 0
      · rw [if_pos c, if_pos c]
      · rw [if_neg c, if_neg c, p5 (10 + k) (by omega) c]
        have : k = 0 ∨ k = 1 ∨ k = 2 ∨ k = 3 := by omega
        rcases this with e | e | e | e <;> subst e <;> rfl)
  obtain ⟨hW, h16, h17, h126, h0⟩ := hW
  have B2' := B2
  obtain ⟨_, _, _, b4, b5, b6⟩ := B2'
  have far : ∀ a j, (a < 116 ∨ 127 < a) → (a < b + 1 ∨ b + 5 < a) → gI v2 a j = gI u a j := fun a j h1 h2 => by rw [b5 _ _ (by omega) (by omega) (by omega) (by omega)]; exact w8 _ _ (by omega) (by omega)
  have farK : ∀ a j, gK v2 a j = gK u a j := fun a j => by rw [b6, w11]
  have hT2 := hT.fr (v := v2) hX hD hts (fun a j h1 h2 => far _ _ (by omega) (by omega)) (fun a j _ => farK a j)
  obtain ⟨v3, R3, F3, Y3⟩ := c_wa67 (f := f) (w := w) (v := v2) (b := b) (ts := ts) (q := q) (n := vlN V) (T := xtT X) (x := x) (d := d) (pf := tpf V d q) (loss := vlL V) (cap := vlC V) (sh := vlS V) (tq := xtQ X) (td := xtD X) (rsF := xtR X) (hwF := xtH X) (hn := (vlN V : Int)) hf hW h0 (by rw [b5 _ _ (by omega) (by omega) (by omega) (by omega)]; exact w1 6 (by omega)) (by rw [b5 _ _ (by omega) (by omega) (by omega) (by omega)]; exact w1 7 (by omega)) (by rw [b5 _ _ (by omega) (by omega) (by omega) (by omega), w10]; exact C6) hx hb (by rw [far _ _ (by omega) (by omega)]; exact hd)
    hT2.1 hX.1 (fun t ht => ⟨(hT2.2 t ht).1, (hT2.2 t ht).2.1⟩) (fun t ht => (hT2.2 t ht).2.2.1) (fun t ht => (hT2.2 t ht).2.2.2.1) (fun t ht => ⟨(hT2.2 t ht).2.2.2.2, (hX.2 t ht).2.2.1, (hX.2 t ht).2.2.2.1, (hX.2 t ht).2.2.2.2⟩) (fun h hh => by rw [far _ _ (by omega) (by omega)]; exact (C4 h hh).1) (by rw [b5 _ _ (by omega) (by omega) (by omega) (by omega), w9]; exact C5)
  rw [e1, e2]
  obtain ⟨r, er, hr⟩ := F3
  refine ⟨r, er, ?_⟩
  have eS : rulO (vlN V) q (vlS V) (vlC V) (xtR X) (xtH X) (txF (xtQ X) (xtD X) x d (xtT X)) (bgn (vlN V) (if q = 0 then 0 else qS (tPr V X d q) - qS (tPr V X d q) * vlL V / 1000) (tw V d q) (tg V d q) (fun h => if q % 24 = 0 then 0 else qH (tPr V X d q) h) (fun k => if q = 0 then 0 else qR (tPr V X d q) k) (vlB V)) = tS V X d q := by
    rw [tS_eq, ex]; rfl
  rw [eS] at hr
  obtain ⟨f1, f2, f3, f4, f5⟩ := hr
  have u3 : ∀ a j, (a < 116 ∨ 127 < a) → gI v3 a j = gI v2 a j := fun a j ha => R3.2 a j (by omega)
  have fK : ∀ a j, gK r a j = gK u a j := fun a j => (fr_F_X1_workAgain (w := w) (f := f) (b := b) (ts := ts) (x1 := x) (x2 := x2) (r := r) (u := u) (by rw [e1, e2]; exact er)).2.2 a j (by simp [nin])
  refine ⟨⟨fun h hh => ?_, f2⟩, fun a j h1 h2 => ?_, fun j hj => ⟨?_, ?_, ?_, ?_⟩, fun j hj => ?_, ?_, ?_, fun i t hi ht => ?_, fK⟩
  · obtain ⟨g1, g2, g3⟩ := f1 h hh
    refine ⟨?_, g1, g2, g3⟩
    rw [f3 _ _ (by omega) (by omega), u3 _ _ (by omega)]
    exact b4 h hh
  · rw [f3 _ _ (by omega) (by omega), u3 _ _ h1]; exact far a j h1 h2
  · rw [f3 _ _ (by omega) (by omega), u3 _ _ (by omega), b5 _ _ (by omega) (by omega) (by omega) (by omega)]; exact w8 _ _ (by omega) (by omega)
  · rw [f4 _ _ (by omega) hj, u3 _ _ (by omega), b5 _ _ (by omega) (by omega) (by omega) (by omega)]; exact w8 _ _ (by omega) (by omega)
  · rw [f4 _ _ (by omega) hj, u3 _ _ (by omega), b5 _ _ (by omega) (by omega) (by omega) (by omega)]; exact w8 _ _ (by omega) (by omega)
  · rw [f4 _ _ (by omega) hj, u3 _ _ (by omega), b5 _ _ (by omega) (by omega) (by omega) (by omega)]; exact w8 _ _ (by omega) (by omega)
  · rw [f5 _ hj, u3 _ _ (by omega), b5 _ _ (by omega) (by omega) (by omega) (by omega)]; exact w8 _ _ (by omega) (by omega)
  · rw [f3 _ _ (by omega) (by omega), R3.2 _ _ (by omega), b5 _ _ (by omega) (by omega) (by omega) (by omega)]; exact w9
  · rw [f3 _ _ (by omega) (by omega), R3.2 _ _ (by omega), b5 _ _ (by omega) (by omega) (by omega) (by omega)]; exact w10
  · have y := Y3 i t (by rw [h16]; exact hi) h126 h17 (by rw [ex]; exact ht)
    refine ⟨fun c => ?_, fun c => ?_⟩
    · obtain ⟨y1, y2⟩ := y.1 c
      exact ⟨fun h hh => by rw [f3 _ _ (by omega) (by omega)]; exact y1 h hh, by rw [f3 _ _ (by omega) (by omega)]; exact y2⟩
    · obtain ⟨y1, y2⟩ := y.2 c
      exact ⟨fun h hh => by rw [f3 _ _ (by omega) (by omega)]; exact y1 h hh, by rw [f3 _ _ (by omega) (by omega)]; exact y2⟩
end
