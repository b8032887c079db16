/-! ===== a Book forgets; a village without readings and texts ===== -/
theorem Bkk.cut {V V' : VD} {X X' : XD} {b qn : Nat} {x : Int32} {u v : MT} (h : Bkk V X b u) (hx : Nm x qn) (h4 : gI v b 4 = gI u b 4) (h5 : gI v b 5 = if x < gI u b 5 then x else gI u b 5) (hu : ∀ a j, b < a → a ≤ b + 5 → gI v a j = gI u a j) (hN : vlN V = vlN V') (hB : vlB V = vlB V') (hL : vlL V = vlL V') (hT : ∀ d q, q < qn → q < 240 → (∀ h, tri V d q h = tri V' d q h ∧ tw V d q h = tw V' d q h ∧ tg V d q h = tg V' d q h) ∧ ∀ s, tRl V X d q s = tRl V' X' d q s) : Bkk V' X' b v := by
  obtain ⟨W, k1, k2, k3⟩ := h
  have k1' : (gI u b 5).toInt = (W : Int) := k1
  have hx' : x.toInt = (qn : Int) := hx
  have key : ∀ W', W' ≤ W → W' ≤ qn → Nm (gI v b 5) W' → Bkk V' X' b v := by
    intro W' c1 c2 hn
    obtain ⟨b1, b2, b3⟩ := k3
    refine ⟨W', hn, by omega, ?_⟩
    rw [h4]
    refine ⟨fun q hq => Brow_cg hN hB hL (fun q' hq' => hT _ q' (by omega) (by omega)) hu (b1 q (by omega)), fun q k hq hn hh => ?_, fun q k hq hn hh => ?_⟩
    · rw [hu _ _ (by omega) (by omega), hu _ _ (by omega) (by omega), hu _ _ (by omega) (by omega)]; exact b2 q k hq (by rw [hN]; exact hn) hh
    · rw [hu _ _ (by omega) (by omega)]; exact b3 q k (by omega) (by rw [hN]; exact hn) hh
  by_cases c : x < gI u b 5
  · have := i_lt.mp c
    exact key qn (by omega) (Nat.le_refl _) (by rw [h5, if_pos c]; exact hx)
  · have := mt i_lt.mpr c
    exact key W (Nat.le_refl _) (by omega) (by rw [h5, if_neg c]; exact k1)
/-- nothing is there but houses -/
def Zs (s : QS) : Prop := qP s = 0 ∧ qS s = 0 ∧ qF s = 0 ∧ (∀ h, qW s h = 0) ∧ (∀ h, qH s h = 0 ∧ qA s h = 0 ∧ qB s h = 0) ∧ ∀ k, qR s k = 0
theorem tri_zero {V : VD} {d : Int32} (hR : vlR V = 0) : ∀ q h, tri V d q h = none := by
  intro q h
  cases e : tri V d q h with
  | none => rfl
  | some r => have := (tri_lt q e).1; omega
theorem tB_zero {V : VD} {d : Int32} {q : Nat} {p : QS} (hR : vlR V = 0) (hp : Zs p) : Zs (tB V d q p) ∧ qL (tB V d q p) = vlB V ∧ tpf V d q = 0 := by
  obtain ⟨p1, p2, p3, p4, p5, p6⟩ := hp
  have ew : tw V d q = fun _ => 0 := funext (fun h => by unfold tw; rw [tri_zero hR]; rfl)
  have eg : tg V d q = fun _ => 0 := funext (fun h => by unfold tg; rw [tri_zero hR]; rfl)
  have e0 : gft (fun _ => (0 : Int32)) (fun _ => 0) = fun _ => 0 := funext (fun h => by show (0 : Int32) - (if (0 : Int32) < 0 then 0 else 0) = 0; decide)
  have e1 : wan (fun _ => (0 : Int32)) (fun _ => 0) = fun _ => 0 := funext (fun h => by show (0 : Int32) - (if (0 : Int32) < 0 then 0 else 0) = 0; decide)
  have et : tpf V d q = 0 := by unfold tpf; rw [ew, eg, e0, sm_zero]
  refine ⟨⟨et, ?_, rfl, fun h => ?_, fun h => ⟨?_, rfl, rfl⟩, fun k => ?_⟩, rfl, et⟩
  · show (if q = 0 then 0 else qS p - qS p * vlL V / 1000) = 0
    by_cases c : q = 0
    · rw [if_pos c]
    · rw [if_neg c, p2, Int32.zero_mul]; decide
  · show wan (tw V d q) (tg V d q) h = 0
    rw [ew, eg, e1]
  · show (if q % 24 = 0 then 0 else qH p h) = 0
    by_cases c : q % 24 = 0
    · rw [if_pos c]
    · rw [if_neg c]; exact (p5 h).1
  · show (if q = 0 then 0 else qR p k) = 0
    by_cases c : q = 0
    · rw [if_pos c]
    · rw [if_neg c]; exact p6 k
theorem tS_zero {V : VD} {X : XD} {d : Int32} (hR : vlR V = 0) (hT : xtT X = 0) : ∀ q, Zs (tS V X d q) ∧ qL (tS V X d q) = vlB V ∧ tpf V d q = 0 := by
  have en : ∀ q p, tN V X d q p = tB V d q p := fun q p => by
    unfold tN txO; rw [hT]; rfl
  intro q
  induction q with
  | zero => rw [tS, en]; exact tB_zero hR ⟨rfl, rfl, rfl, fun _ => rfl, fun _ => ⟨rfl, rfl, rfl⟩, fun _ => rfl⟩
  | succ q ih => rw [tS, en]; exact tB_zero hR ih.1
theorem esum_zero {n : Nat} {s : QS} {l : Int32} (hs : Zs s) (hb : ∀ h, h < n → 0 ≤ (qL s h).toInt) (k : Nat) : esum n s 0 l k = 0 := by
  obtain ⟨p1, p2, p3, p4, p5, p6⟩ := hs
  have z0 : (0 : Int32).toInt = 0 := rfl
  have er : ∀ h, h < n → room s h = 0 := fun h hh => by
    unfold room
    rw [p4]
    by_cases c : qL s h ≤ 0
    · rw [if_pos c]; exact Int32.toInt_inj.mp (by have := i_le.mp c; have := hb h hh; omega)
    · rw [if_neg c]
  have e6 : sm (room s) n = 0 := (sm_eq n er).trans (sm_zero n)
  have e7 : sm (fun h => qW s h - room s h) n = 0 := (sm_eq (v := fun _ => 0) n (fun h hh => by rw [p4, er h hh]; decide)).trans (sm_zero n)
  have eB : sm (qB s) n = 0 := (sm_eq (v := fun _ => 0) n (fun h hh => (p5 h).2.2)).trans (sm_zero n)
  unfold esum
  rw [p1, p2, p3, e6, e7, eB, p6, p6, p6, p6, p6, Int32.zero_mul]
  split
  · rfl
  split
  · decide
  split
  · rfl
  split
  · rfl
  split
  · decide
  split
  · decide
  split
  · rfl
  split
  · rfl
  split
  · decide
  split
  · decide
  · rfl
def vHou (V : VD) (s b : Int32) : VD := (vlN V + 1, vlR V, vlH V, vlQ V, vlW V, vlG V, vlD V, upf (vlS V) (vlN V) s, upf (vlB V) (vlN V) b, vlC V, vlL V)
theorem Bok.house {V : VD} {X : XD} {d : Int32} {b W : Nat} {u v : MT} {x1 x2 : Int32} (hV : VOk V) (hV' : VOk (vHou V x1 x2)) (h : Bok V X d b W u) (hW : W ≤ 240) (hR : vlR V = 0) (hT : xtT X = 0) (hu : ∀ a j, b < a → a ≤ b + 5 → gI v a j = gI u a j) : Bok (vHou V x1 x2) X d b W v := by
  obtain ⟨b1, b2, b3⟩ := h
  have hn : vlN V < 12 := hV'.1
  refine ⟨fun q hq => ⟨fun k hk => ?_, fun k hk => ?_⟩, fun q k hq hn hh => ?_, fun q k hq hn hh => ?_⟩
  · obtain ⟨⟨_, _, _, _, z5, _⟩, _, _⟩ := tS_zero (V := vHou V x1 x2) (X := X) (d := d) hR hT q
    obtain ⟨⟨_, _, _, _, y5, _⟩, _, _⟩ := tS_zero (V := V) (X := X) (d := d) hR hT q
    rw [hu _ _ (by omega) (by omega), hu _ _ (by omega) (by omega), hu _ _ (by omega) (by omega), hu _ _ (by omega) (by omega), tri_zero (V := vHou V x1 x2) hR, (z5 k).1, (z5 k).2.1, (z5 k).2.2]
    have hk : k < vlN V + 1 := hk
    by_cases c : k < vlN V
    · obtain ⟨c1, c2, c3, c4⟩ := (b1 q hq).1 k c
      rw [tri_zero hR] at c1
      rw [c1, c2, c3, c4, (y5 k).1, (y5 k).2.1, (y5 k).2.2]
      exact ⟨rfl, rfl, rfl, rfl⟩
    · obtain ⟨c2, c3, c4⟩ := b2 q k (by omega) (by omega) (by omega)
      exact ⟨b3 q k hq (by omega) (by omega), c2, c3, c4⟩
  · obtain ⟨z1, z2, z3⟩ := tS_zero (V := vHou V x1 x2) (X := X) (d := d) hR hT q
    obtain ⟨y1, y2, y3⟩ := tS_zero (V := V) (X := X) (d := d) hR hT q
    rw [hu _ _ (by omega) (by omega), (b1 q hq).2 k hk, y3, z3, esum_zero y1 (fun h hh => by rw [y2]; exact (hV.2.2.2.1 h hh).2.2.1), esum_zero z1 (fun h hh => by rw [z2]; exact (hV'.2.2.2.1 h hh).2.2.1)]
  · rw [hu _ _ (by omega) (by omega), hu _ _ (by omega) (by omega), hu _ _ (by omega) (by omega)]
    have hn : vlN V + 1 ≤ k := hn
    exact b2 q k hq (by omega) hh
  · rw [hu _ _ (by omega) (by omega)]
    have hn : vlN V + 1 ≤ k := hn
    exact b3 q k hq (by omega) hh
/-- one reading more -/
def vRea (V : VD) (h q w g d : Int32) : VD := (vlN V, vlR V + 1, upf (vlH V) (vlR V) h, upf (vlQ V) (vlR V) q, upf (vlW V) (vlR V) w, upf (vlG V) (vlR V) g, upf (vlD V) (vlR V) d, vlS V, vlB V, vlC V, vlL V)
theorem lasR_cg {rh rq rd rh' rq' rd' : Nat → Int32} {q d : Int32} {h : Nat} : ∀ R, (∀ j, j < R → rh j = rh' j ∧ rq j = rq' j ∧ rd j = rd' j) → lasR rh rq rd q d h R = lasR rh' rq' rd' q d h R := by
  intro R
  induction R with
  | zero => intro _; rfl
  | succ R ih =>
    intro e
    obtain ⟨e1, e2, e3⟩ := e R (by omega)
    rw [lasR, lasR, ih (fun j hj => e j (by omega)), e1, e2, e3]
theorem tri_read {V : VD} {h q w g d' d : Int32} {qn : Nat} (hq : Nm q qn) (h240 : qn ≤ 240) : ∀ k, k < qn → ∀ j, tri V d k j = tri (vRea V h q w g d') d k j := by
  have la : ∀ k, k < qn → ∀ j, tla V d k j = tla (vRea V h q w g d') d k j := by
    intro k hk j
    show _ = lasR (upf (vlH V) (vlR V) h) (upf (vlQ V) (vlR V) q) (upf (vlD V) (vlR V) d') (Int32.ofNat k) d j (vlR V + 1)
    rw [lasR, if_neg]
    · exact lasR_cg _ (fun i hi => ⟨(upf_ne (by omega)).symm, (upf_ne (by omega)).symm, (upf_ne (by omega)).symm⟩)
    · rintro ⟨c, _⟩
      rw [upf_same] at c
      have m1 : (Int32.ofNat k).toInt = (k : Int) := Nm.of (by omega)
      have hq : q.toInt = (qn : Int) := hq
      rw [c, m1] at hq
      omega
  intro k
  induction k with
  | zero => intro hk j; rw [tri, tri, la 0 hk]
  | succ k ih => intro hk j; rw [tri, tri, la _ hk, ih (by omega)]
theorem tri_read3 {V : VD} {X : XD} {h q w g d' : Int32} {qn : Nat} (hq : Nm q qn) (h240 : qn ≤ 240) : ∀ d k, k < qn → k < 240 → (∀ j, tri V d k j = tri (vRea V h q w g d') d k j ∧ tw V d k j = tw (vRea V h q w g d') d k j ∧ tg V d k j = tg (vRea V h q w g d') d k j) ∧ ∀ s, tRl V X d k s = tRl (vRea V h q w g d') X d k s := by
  intro d k hk _
  refine ⟨fun j => ?_, fun s => rfl⟩
  have e := tri_read (V := V) (h := h) (w := w) (g := g) (d' := d') (d := d) hq h240 k hk j
  refine ⟨e, ?_, ?_⟩
  · unfold tw
    rw [← e]
    cases et : tri V d k j with
    | none => rfl
    | some r => exact (upf_ne (by have := (tri_lt k et).1; omega)).symm
  · unfold tg
    rw [← e]
    cases et : tri V d k j with
    | none => rfl
    | some r => exact (upf_ne (by have := (tri_lt k et).1; omega)).symm
