/-! ===== what a village holds and what its texts say, in the abstract ===== -/
abbrev VD : Type := Nat × Nat × (Nat → Int32) × (Nat → Int32) × (Nat → Int32) × (Nat → Int32) × (Nat → Int32) × (Nat → Int32) × (Nat → Int32) × Int32 × Int32
def vlN (V : VD) : Nat := V.1
def vlR (V : VD) : Nat := V.2.1
def vlH (V : VD) : Nat → Int32 := V.2.2.1
def vlQ (V : VD) : Nat → Int32 := V.2.2.2.1
def vlW (V : VD) : Nat → Int32 := V.2.2.2.2.1
def vlG (V : VD) : Nat → Int32 := V.2.2.2.2.2.1
def vlD (V : VD) : Nat → Int32 := V.2.2.2.2.2.2.1
def vlS (V : VD) : Nat → Int32 := V.2.2.2.2.2.2.2.1
def vlB (V : VD) : Nat → Int32 := V.2.2.2.2.2.2.2.2.1
def vlC (V : VD) : Int32 := V.2.2.2.2.2.2.2.2.2.1
def vlL (V : VD) : Int32 := V.2.2.2.2.2.2.2.2.2.2
abbrev XD : Type := Nat × (Nat → Int32) × (Nat → Int32) × (Nat → List AR) × (Nat → Nat)
def xtT (X : XD) : Nat := X.1
def xtQ (X : XD) : Nat → Int32 := X.2.1
def xtD (X : XD) : Nat → Int32 := X.2.2.1
def xtR (X : XD) : Nat → List AR := X.2.2.2.1
def xtH (X : XD) : Nat → Nat := X.2.2.2.2
def VOk (V : VD) : Prop := vlN V ≤ 12 ∧ vlR V ≤ 400 ∧
  (∀ j, j < vlR V → (∃ h q, Nm (vlH V j) h ∧ h < vlN V ∧ Nm (vlQ V j) q ∧ q < 240) ∧ 0 ≤ (vlW V j).toInt ∧ (vlW V j).toInt ≤ 5000 ∧ 0 ≤ (vlG V j).toInt ∧ (vlG V j).toInt ≤ 5000) ∧
  (∀ h, h < vlN V → 1 ≤ (vlS V h).toInt ∧ (vlS V h).toInt ≤ 1000 ∧ 0 ≤ (vlB V h).toInt ∧ (vlB V h).toInt ≤ 5000) ∧ 0 ≤ (vlC V).toInt ∧ (vlC V).toInt ≤ 1000000 ∧ 0 ≤ (vlL V).toInt ∧ (vlL V).toInt ≤ 500
def XOk (V : VD) (X : XD) : Prop := xtT X ≤ 6 ∧ ∀ t, t < xtT X → (∃ q, Nm (xtQ X t) q ∧ q < 240) ∧ 32 ≤ xtH X t ∧ xtH X t ≤ 34 ∧ (xtR X t).length ≤ 24 ∧ ∀ r ∈ xtR X t, RV (vlN V : Int) r
/-- the class's and the reference's pictures -/
def VC (V : VD) (u : MT) : Prop := Nm (gI u 101 2) (vlN V) ∧ Nm (gI u 104 5) (vlR V) ∧
  (∀ j, j < vlR V → gI u 105 j = vlH V j ∧ gI u 106 j = vlQ V j ∧ gI u 107 j = vlW V j ∧ gI u 108 j = vlG V j ∧ gI u 109 j = vlD V j) ∧
  (∀ h, h < vlN V → gI u 102 h = vlS V h ∧ gI u 103 h = vlB V h) ∧ gI u 116 1 = vlC V ∧ gI u 116 2 = vlL V
def XC (w : LT) (X : XD) (ts : Nat) (u : MT) : Prop := Nm (gI u ts 1) (xtT X) ∧
  ∀ t, t < xtT X → lt_t w (lt_p w (ts + 1) t) = 7 ∧ 128 ≤ lt_p w (ts + 1) t ∧ gI u (lt_p w (ts + 1) t) 5 = xtQ X t ∧ gI u (lt_p w (ts + 1) t) 6 = xtD X t ∧ CT u (lt_p w (ts + 1) t) (xtR X t) (xtH X t)
/-- no text lies where a Book lies -/
def Dj (w : LT) (X : XD) (ts b : Nat) : Prop := (ts < b ∨ b + 5 < ts) ∧ ∀ t, t < xtT X → lt_p w (ts + 1) t + 26 < b ∨ b + 5 < lt_p w (ts + 1) t
theorem VC.fr {V : VD} {u v : MT} (h : VC V u) (h1 : ∀ a j, a < 116 → gI v a j = gI u a j) (h2 : gI v 116 1 = gI u 116 1) (h3 : gI v 116 2 = gI u 116 2) : VC V v := by
  obtain ⟨a1, a2, a3, a4, a5, a6⟩ := h
  exact ⟨by rw [h1 _ _ (by decide)]; exact a1, by rw [h1 _ _ (by decide)]; exact a2, fun j hj => by rw [h1 _ _ (by decide), h1 _ _ (by decide), h1 _ _ (by decide), h1 _ _ (by decide), h1 _ _ (by decide)]; exact a3 j hj, fun j hj => by rw [h1 _ _ (by decide), h1 _ _ (by decide)]; exact a4 j hj, by rw [h2]; exact a5, by rw [h3]; exact a6⟩
theorem CT.fr2 {u v : MT} {tx how : Nat} {rs : List AR} (h : CT u tx rs how) (hl : rs.length ≤ 24) (hI : ∀ a k, tx ≤ a → a ≤ tx + 26 → gI v a k = gI u a k) (hK : ∀ a k, tx ≤ a → a ≤ tx + 26 → gK v a k = gK u a k) : CT v tx rs how := by
  obtain ⟨⟨c, h1, h2, h3, h4⟩, h5⟩ := h
  refine ⟨⟨c, h1, by rw [hI _ _ (by omega) (by omega)]; exact h2, by rw [hI _ _ (by omega) (by omega)]; exact h3, fun s hs => ?_⟩, by rw [hK _ _ (by omega) (by omega)]; exact h5⟩
  exact (h4 s hs).fr (Nat.le_refl _) (fun k => hI _ _ (by omega) (by omega)) (fun k => hK _ _ (by omega) (by omega)) (fun k _ => hI _ _ (by omega) (by omega))
theorem XC.fr {w : LT} {V : VD} {X : XD} {ts b : Nat} {u v : MT} (h : XC w X ts u) (hX : XOk V X) (hD : Dj w X ts b) (hts : 128 ≤ ts) (hI : ∀ a j, 127 < a → (a < b ∨ b + 5 < a) → gI v a j = gI u a j) (hK : ∀ a j, 127 < a → gK v a j = gK u a j) : XC w X ts v := by
  obtain ⟨a1, a2⟩ := h
  refine ⟨by rw [hI _ _ (by omega) hD.1]; exact a1, fun t ht => ?_⟩
  obtain ⟨c1, c2, c3, c4, c5⟩ := a2 t ht
  have d := hD.2 t ht
  refine ⟨c1, c2, by rw [hI _ _ (by omega) (by omega)]; exact c3, by rw [hI _ _ (by omega) (by omega)]; exact c4, c5.fr2 (hX.2 t ht).2.2.2.1 (fun a k h1 h2 => hI _ _ (by omega) (by omega)) (fun a k h1 _ => hK _ _ (by omega))⟩
/-! the quarters one behind the other, as known on a day -/
def tla (V : VD) (d : Int32) (q h : Nat) : Option Nat := lasR (vlH V) (vlQ V) (vlD V) (Int32.ofNat q) d h (vlR V)
def tri (V : VD) (d : Int32) : Nat → Nat → Option Nat
  | 0, h => rdx 0 (tla V d 0 h) none
  | q + 1, h => rdx (q + 1) (tla V d (q + 1) h) (tri V d q h)
def trp (V : VD) (d : Int32) : Nat → Nat → Option Nat
  | 0, _ => none
  | q + 1, h => tri V d q h
theorem tri_eq {V : VD} {d : Int32} (q h : Nat) : tri V d q h = rdx q (tla V d q h) (trp V d q h) := by cases q <;> rfl
def tw (V : VD) (d : Int32) (q h : Nat) : Int32 := ovr (tri V d q h) (vlW V) 0
def tg (V : VD) (d : Int32) (q h : Nat) : Int32 := ovr (tri V d q h) (vlG V) 0
def tB (V : VD) (d : Int32) (q : Nat) (p : QS) : QS := bgn (vlN V) (if q = 0 then 0 else qS p - qS p * vlL V / 1000) (tw V d q) (tg V d q) (fun h => if q % 24 = 0 then 0 else qH p h) (fun k => if q = 0 then 0 else qR p k) (vlB V)
def txO (X : XD) (d : Int32) (q : Nat) : Option Nat := txF (xtQ X) (xtD X) (Int32.ofNat q) d (xtT X)
def tN (V : VD) (X : XD) (d : Int32) (q : Nat) (p : QS) : QS := rulO (vlN V) q (vlS V) (vlC V) (xtR X) (xtH X) (txO X d q) (tB V d q p)
def zQ : QS := (0, 0, 0, fun _ => 0, fun _ => 0, fun _ => 0, fun _ => 0, fun _ => 0, fun _ => 0)
def tS (V : VD) (X : XD) (d : Int32) : Nat → QS
  | 0 => tN V X d 0 zQ
  | q + 1 => tN V X d (q + 1) (tS V X d q)
def tPr (V : VD) (X : XD) (d : Int32) : Nat → QS
  | 0 => zQ
  | q + 1 => tS V X d q
theorem tS_eq {V : VD} {X : XD} {d : Int32} (q : Nat) : tS V X d q = tN V X d q (tPr V X d q) := by cases q <;> rfl
def tpf (V : VD) (d : Int32) (q : Nat) : Int32 := sm (gft (tw V d q) (tg V d q)) (vlN V)
theorem lasR_lt {rh rq rd : Nat → Int32} {q d : Int32} {h r : Nat} : ∀ R, lasR rh rq rd q d h R = some r → r < R ∧ rq r = q ∧ rd r ≤ d ∧ (rh r).toInt = (h : Int) := by
  intro R
  induction R with
  | zero => intro h; cases h
  | succ R ih =>
    intro h
    rw [lasR] at h
    split at h
    · cases h; rename_i c; exact ⟨by omega, c⟩
    · have := ih h; exact ⟨by omega, this.2⟩
theorem tri_lt {V : VD} {d : Int32} {h r : Nat} : ∀ q, tri V d q h = some r → r < vlR V ∧ (vlH V r).toInt = (h : Int) := by
  intro q
  induction q with
  | zero =>
    intro e
    rw [tri] at e
    cases e2 : tla V d 0 h with
    | none => rw [e2] at e; cases e
    | some r' => rw [e2] at e; cases e; have := lasR_lt _ e2; exact ⟨this.1, this.2.2.2⟩
  | succ q ih =>
    intro e
    rw [tri] at e
    cases e2 : tla V d (q + 1) h with
    | none => rw [e2] at e; exact ih e
    | some r' => rw [e2] at e; cases e; have := lasR_lt _ e2; exact ⟨this.1, this.2.2.2⟩
theorem trp_lt {V : VD} {d : Int32} {q h r : Nat} (e : trp V d q h = some r) : r < vlR V := by
  cases q with
  | zero => cases e
  | succ q => exact (tri_lt q e).1
theorem rdx_tri {V : VD} {d : Int32} (q h : Nat) : rdx q (tri V d q h) (trp V d q h) = tri V d q h := by
  rw [tri_eq]
  cases e : tla V d q h with
  | some r => rfl
  | none =>
    by_cases c : q = 0
    · subst c; rfl
    · have : rdx q none (trp V d q h) = trp V d q h := by rw [rdx, if_neg c]
      rw [this]
      cases e2 : trp V d q h with
      | some r => rfl
      | none => rw [rdx, if_neg c]
/-- what a Book holds of a quarter -/
def Brow (V : VD) (X : XD) (d : Int32) (b q : Nat) (u : MT) : Prop :=
  (∀ h, h < vlN V → gI u (b + 1) (q * 12 + h) = txC (tri V d q h) ∧ gI u (b + 2) (q * 12 + h) = qA (tS V X d q) h ∧ gI u (b + 3) (q * 12 + h) = qB (tS V X d q) h ∧ gI u (b + 4) (q * 12 + h) = qH (tS V X d q) h) ∧
  ∀ k, k < 14 → gI u (b + 5) (q * 14 + k) = esum (vlN V) (tS V X d q) (tpf V d q) (vlL V) k
