/-! ===== the reference's reader, leaf by leaf. A token's number T, a number's value V, a place P, the last one L ===== -/
theorem Fr_nil {u r : MT} (h : Fr [] [] [] u r) : r = u := by
  have h1 : r.1 = u.1 := funext fun a => funext fun k => h.1 a k trivial
  have h2 : r.2.1 = u.2.1 := funext fun a => funext fun k => h.2.1 a k trivial
  have h3 : r.2.2 = u.2.2 := funext fun a => funext fun k => h.2.2 a k trivial
  exact Prod.ext h1 (Prod.ext h2 h3)
theorem sI_self (u : MT) (a k : Nat) : sI u a k (gI u a k) = u := by
  have : up2 u.1 a k (gI u a k) = u.1 := by
    funext b
    by_cases hb : b = a
    · subst hb
      funext j
      rw [up2_at]
      by_cases hj : j = k
      · subst hj; rw [if_pos rfl]; rfl
      · rw [if_neg hj]
    · exact up2_ne _ _ _ hb
  exact Prod.ext this rfl
def b2i (p : Prop) [Decidable p] : Int32 := if p then 1 else 0
theorem b2i_t {p : Prop} [Decidable p] (h : p) : b2i p = 1 := if_pos h
theorem b2i_f {p : Prop} [Decidable p] (h : ¬ p) : b2i p = 0 := if_neg h
theorem lg_eq {x y : Int64} : lg_cmp x y = 0 ↔ x = y := by
  unfold lg_cmp
  constructor
  · intro h
    split at h
    · exact absurd h (by decide)
    · split at h
      · assumption
      · exact absurd h (by decide)
  · intro h
    subst h
    rw [if_neg (by exact Int64.lt_irrefl), if_pos rfl]
theorem lg_lt {x y : Int64} : lg_cmp x y < 0 ↔ x.toInt < y.toInt := by
  unfold lg_cmp
  rw [← Int64.lt_iff_toInt_lt]
  constructor
  · intro h
    split at h
    · exact absurd h (by decide)
    · split at h
      · exact absurd h (by decide)
      · rename_i h1 h2
        rw [Int64.lt_iff_toInt_lt]
        have h1 : ¬ y.toInt < x.toInt := fun e => h1 (Int64.lt_iff_toInt_lt.mpr e)
        have h2 : ¬ x.toInt = y.toInt := fun e => h2 (Int64.toInt_inj.mp e)
        omega
  · intro h
    have h' := Int64.lt_iff_toInt_lt.mp h
    rw [if_neg (fun e => by have := Int64.lt_iff_toInt_lt.mp e; omega), if_neg (fun e => by subst e; omega)]
    decide
theorem lg_le {x y : Int64} : lg_cmp x y ≤ 0 ↔ x.toInt ≤ y.toInt := by
  unfold lg_cmp
  constructor
  · intro h
    split at h
    · exact absurd h (by decide)
    · rename_i h1
      have h1 : ¬ y.toInt < x.toInt := fun e => h1 (Int64.lt_iff_toInt_lt.mpr e)
      omega
  · intro h
    rw [if_neg (fun e => by have := Int64.lt_iff_toInt_lt.mp e; omega)]
    split <;> decide
def wtok : List Nat := [16, 17, 21, 22, 23, 18, 19, 20, 24, 9, 10, 25, 26, 27, 28, 29, 30, 31, 7, 8, 11, 32, 33, 34]
def wv : List Int64 := [1176170, 367711, 329128, 755, 99, 316695, 30910767, 919322, 1825, 831550, 36643325, 15782540, 22745289, 15248089, 43176281, 1332603970, 3540, 969708, 426554, 5538, 1166926, 11726208, 679747, 1042489]
def stoks : List (Nat × Nat) := [(40, 4), (41, 5), (59, 6), (43, 12), (45, 13), (60, 14), (61, 15)]
def TR (t : Nat) (s : Int32) (v : Int64) (nm : Int32) : Prop :=
  (∀ w, w < 24 → ((s = 1 ∧ v = wv.getD w 0) ↔ t = wtok.getD w 0)) ∧
  (∀ c, c ∈ stoks → ((s = 3 ∧ v = (Int32.ofNat c.1).toInt64) ↔ t = c.2)) ∧ (s = 2 ↔ t = 3) ∧ (s = 0 ↔ t = 2) ∧ (t = 3 → v = nm.toInt64)
abbrev ET : Type := (Nat → Nat) × (Nat → Int32) × (Nat → Int32) × Nat
def tT (E : ET) : Nat → Nat := E.1
def tV (E : ET) : Nat → Int32 := E.2.1
def tP (E : ET) : Nat → Int32 := E.2.2.1
def tL (E : ET) : Nat := E.2.2.2
def TE (E : ET) : Prop := tL E ≤ 1200 ∧ tT E (tL E) = 2 ∧ (∀ i, i < tL E → tT E i ≠ 2) ∧ (∀ i, i ≤ tL E → 1 ≤ tT E i ∧ tT E i ≤ 34) ∧
  (∀ i, i ≤ tL E → tT E i = 3 → 0 ≤ (tV E i).toInt ∧ (tV E i).toInt ≤ 999999) ∧ (∀ i, i ≤ tL E → 0 ≤ (tP E i).toInt ∧ (tP E i).toInt ≤ 1200)
def EnvR (E : ET) (u : MT) : Prop :=
  (∀ i, i ≤ tL E → TR (tT E i) (gI u 169 i) (gL u 171 i) (tV E i) ∧ gI u 170 i = tP E i) ∧ ∀ w, w < 24 → gL u 172 w = wv.getD w 0
theorem EnvR.fr {E : ET} {u r : MT} (h : EnvR E u) (h1 : ∀ k, gI r 169 k = gI u 169 k) (h2 : ∀ k, gI r 170 k = gI u 170 k) (h3 : ∀ k, gL r 171 k = gL u 171 k) (h4 : ∀ k, gL r 172 k = gL u 172 k) : EnvR E r :=
  ⟨fun i hi => by rw [h1, h2, h3]; exact h.1 i hi, fun w hw => by rw [h4]; exact h.2 w hw⟩
theorem EnvR.put {E : ET} {u : MT} (h : EnvR E u) {a k : Nat} {v : Int32} (h1 : a ≠ 169) (h2 : a ≠ 170) : EnvR E (sI u a k v) :=
  h.fr (fun _ => g_ne _ _ _ _ (Ne.symm h1)) (fun _ => g_ne _ _ _ _ (Ne.symm h2)) (fun _ => rfl) (fun _ => rfl)
/-- at a token, without a fault -/
def RS (E : ET) (i : Nat) (u : MT) : Prop := EnvR E u ∧ TE E ∧ gI u 167 8 = 0 ∧ Nm (gI u 167 7) i ∧ i ≤ tL E
/-- behind a fault -/
def RX (u : MT) : Prop := 0 < (gI u 167 8).toInt
theorem RX.ne {u : MT} (h : RX u) : ¬ gI u 167 8 = 0 := fun e => by unfold RX at h; rw [e] at h; exact absurd h (by decide)
theorem RX.nle {u : MT} (h : RX u) : ¬ gI u 167 8 ≤ 0 := fun e => by
  have := i_le.mp e
  rw [show (0 : Int32).toInt = 0 from rfl] at this
  unfold RX at h; omega
def adv (u : MT) : MT := sI u 167 7 (gI u 167 7 + 1)
def flt (E : ET) (k : Int32) (i : Nat) : Int32 := k + 16 * tP E i
def wr (E : ET) (k : Int32) (i : Nat) (u : MT) : MT := sI u 167 8 (flt E k i)
theorem flt_pos {E : ET} (h : TE E) {k : Int32} (hk : 0 < k.toInt) (hk' : k.toInt < 16) {i : Nat} (hi : i ≤ tL E) : 0 < (flt E k i).toInt := by
  have hp := h.2.2.2.2.2 i hi
  have e16 : (16 : Int32).toInt = 16 := rfl
  have em : ((16 : Int32) * tP E i).toInt = 16 * (tP E i).toInt := by rw [i_mul (by rw [e16]; omega) (by rw [e16]; omega), e16]
  unfold flt
  rw [i_add (by rw [em]; omega) (by rw [em]; omega), em]; omega
theorem RS.ix {E : ET} {i : Nat} {u : MT} (h : RS E i u) : ixo (gI u 167 7) 1202 := h.2.2.2.1.ix (by have := h.2.1.1; have := h.2.2.2.2; omega)
theorem RS.next {E : ET} {i : Nat} {u : MT} (h : RS E i u) (hi : i < tL E) : RS E (i + 1) (adv u) := by
  refine ⟨h.1.put (by decide) (by decide), h.2.1, ?_, ?_, hi⟩
  · show gI (sI u 167 7 _) 167 8 = 0
    rw [g_nk _ _ _ (by decide)]; exact h.2.2.1
  · show Nm (gI (sI u 167 7 _) 167 7) (i + 1)
    rw [g_same]; exact h.2.2.2.1.succ (by have := h.2.1.1; omega)
theorem RS.lt {E : ET} {i : Nat} {u : MT} (h : RS E i u) (ht : tT E i ≠ 2) : i < tL E := by
  have := h.2.2.2.2
  by_cases e : i = tL E
  · subst e; exact absurd h.2.1.2.1 ht
  · omega
theorem RS.put {E : ET} {i : Nat} {u : MT} (h : RS E i u) {a k : Nat} {v : Int32} (h1 : a ≠ 169) (h2 : a ≠ 170) (h3 : a ≠ 167 ∨ (k ≠ 7 ∧ k ≠ 8)) : RS E i (sI u a k v) := by
  refine ⟨h.1.put h1 h2, h.2.1, ?_, ?_, h.2.2.2.2⟩
  · by_cases e : 167 = a
    · subst e
      rw [g_nk _ _ _ (by rcases h3 with h3 | h3; exact absurd rfl h3; omega)]; exact h.2.2.1
    · rw [g_ne _ _ _ _ e]; exact h.2.2.1
  · by_cases e : 167 = a
    · subst e
      rw [g_nk _ _ _ (by rcases h3 with h3 | h3; exact absurd rfl h3; omega)]; exact h.2.2.2.1
    · rw [g_ne _ _ _ _ e]; exact h.2.2.2.1
theorem RX.put {u : MT} (h : RX u) {a k : Nat} {v : Int32} (h3 : a ≠ 167 ∨ k ≠ 8) : RX (sI u a k v) := by
  unfold RX at *
  by_cases e : 167 = a
  · subst e
    rw [g_nk _ _ _ (by rcases h3 with h3 | h3; exact absurd rfl h3; omega)]; exact h
  · rw [g_ne _ _ _ _ e]; exact h
theorem RS.bad {E : ET} {i : Nat} {u : MT} (h : RS E i u) {k : Int32} (hk : 0 < k.toInt) (hk' : k.toInt < 16) : RX (wr E k i u) := by
  show 0 < (gI (sI u 167 8 _) 167 8).toInt
  rw [g_same]; exact flt_pos h.2.1 hk hk' h.2.2.2.2
section
variable {f : Nat} {E : ET} {i : Nat} {u : MT}
theorem r_wrong (h : RS E i u) {k : Int32} : F_X12_wrong f k u = some (wr E k i u) := by
  rw [F_X12_wrong, if_pos h.2.2.1, ck_p h.ix, h.2.2.2.1.nat, (h.1.1 i h.2.2.2.2).2]; rfl
theorem r_wrong_x (h : RX u) {k : Int32} : F_X12_wrong f k u = some u := by rw [F_X12_wrong, if_neg h.ne]
theorem r_isWord (h : RS E i u) {w : Nat} (hw : w < 24) {x : Int32} (hx : Nm x w) : F_X12_isWord f x u = some (b2i (tT E i = wtok.getD w 0), u) := by
  have h1 := (h.1.1 i h.2.2.2.2).1.1 w hw
  rw [F_X12_isWord, if_pos h.2.2.1, ck_p h.ix, h.2.2.2.1.nat]
  by_cases hs : gI u 169 i = 1
  · rw [if_pos hs, ck_p (hx.ix hw), hx.nat, h.1.2 w hw]
    by_cases hv : gL u 171 i = wv.getD w 0
    · rw [if_pos (lg_eq.mpr hv), b2i_t (h1.mp ⟨hs, hv⟩)]
    · rw [if_neg (fun e => hv (lg_eq.mp e)), b2i_f (fun e => hv (h1.mpr e).2)]
  · rw [if_neg hs, b2i_f (fun e => hs (h1.mpr e).1)]
theorem r_isWord_x (h : RX u) {x : Int32} : F_X12_isWord f x u = some (0, u) := by rw [F_X12_isWord, if_neg h.ne]
theorem r_isSign (h : RS E i u) {c t : Nat} (hc : (c, t) ∈ stoks) {x : Int32} (hx : x = Int32.ofNat c) : F_X12_isSign f x u = some (b2i (tT E i = t), u) := by
  have h1 := (h.1.1 i h.2.2.2.2).1.2.1 (c, t) hc
  rw [F_X12_isSign, if_pos h.2.2.1, ck_p h.ix, h.2.2.2.1.nat, hx]
  by_cases hs : gI u 169 i = 3
  · rw [if_pos hs]
    by_cases hv : gL u 171 i = (Int32.ofNat c).toInt64
    · rw [if_pos (lg_eq.mpr hv), b2i_t (h1.mp ⟨hs, hv⟩)]
    · rw [if_neg (fun e => hv (lg_eq.mp e)), b2i_f (fun e => hv (h1.mpr e).2)]
  · rw [if_neg hs, b2i_f (fun e => hs (h1.mpr e).1)]
theorem r_isSign_x (h : RX u) {x : Int32} : F_X12_isSign f x u = some (0, u) := by rw [F_X12_isSign, if_neg h.ne]
theorem r_hasWord_t (h : RS E i u) {w : Nat} (hw : w < 24) {x : Int32} (hx : Nm x w) (ht : tT E i = wtok.getD w 0) : F_X12_hasWord f x u = some (1, adv u) := by
  rw [F_X12_hasWord, r_isWord h hw hx, b2i_t ht]; rfl
theorem r_hasWord_f (h : RS E i u) {w : Nat} (hw : w < 24) {x : Int32} (hx : Nm x w) (ht : tT E i ≠ wtok.getD w 0) : F_X12_hasWord f x u = some (0, u) := by
  rw [F_X12_hasWord, r_isWord h hw hx, b2i_f ht]
  show some ((0 : Int32), sI u 167 7 (gI u 167 7 + 0)) = _
  rw [Int32.add_zero, sI_self]
theorem r_hasWord_x (h : RX u) {x : Int32} : F_X12_hasWord f x u = some (0, u) := by
  rw [F_X12_hasWord, r_isWord_x h]
  show some ((0 : Int32), sI u 167 7 (gI u 167 7 + 0)) = _
  rw [Int32.add_zero, sI_self]
theorem r_hasSign_t (h : RS E i u) {c t : Nat} (hc : (c, t) ∈ stoks) {x : Int32} (hx : x = Int32.ofNat c) (ht : tT E i = t) : F_X12_hasSign f x u = some (1, adv u) := by
  rw [F_X12_hasSign, r_isSign h hc hx, b2i_t ht]; rfl
theorem r_hasSign_f (h : RS E i u) {c t : Nat} (hc : (c, t) ∈ stoks) {x : Int32} (hx : x = Int32.ofNat c) (ht : tT E i ≠ t) : F_X12_hasSign f x u = some (0, u) := by
  rw [F_X12_hasSign, r_isSign h hc hx, b2i_f ht]
  show some ((0 : Int32), sI u 167 7 (gI u 167 7 + 0)) = _
  rw [Int32.add_zero, sI_self]
theorem r_takeWord_t (h : RS E i u) {w : Nat} (hw : w < 24) {x : Int32} (hx : Nm x w) (ht : tT E i = wtok.getD w 0) : F_X12_takeWord f x u = some (adv u) := by
  rw [F_X12_takeWord, r_hasWord_t h hw hx ht]; rfl
theorem r_takeWord_f (h : RS E i u) {w : Nat} (hw : w < 24) {x : Int32} (hx : Nm x w) (ht : tT E i ≠ wtok.getD w 0) : F_X12_takeWord f x u = some (wr E 1 i u) := by
  rw [F_X12_takeWord, r_hasWord_f h hw hx ht]
  show (F_X12_wrong f 1 u).bind _ = _
  rw [r_wrong h]; rfl
theorem r_takeWord_x (h : RX u) {x : Int32} : F_X12_takeWord f x u = some u := by
  rw [F_X12_takeWord, r_hasWord_x h]
  show (F_X12_wrong f 1 u).bind _ = _
  rw [r_wrong_x h]; rfl
theorem r_takeSign_t (h : RS E i u) {c t : Nat} (hc : (c, t) ∈ stoks) {x : Int32} (hx : x = Int32.ofNat c) (ht : tT E i = t) : F_X12_takeSign f x u = some (adv u) := by
  rw [F_X12_takeSign, r_isSign h hc hx, b2i_t ht]; rfl
theorem r_takeSign_f (h : RS E i u) {c t : Nat} (hc : (c, t) ∈ stoks) {x : Int32} (hx : x = Int32.ofNat c) (ht : tT E i ≠ t) : F_X12_takeSign f x u = some (wr E 1 i u) := by
  rw [F_X12_takeSign, r_isSign h hc hx, b2i_f ht]
  show (F_X12_wrong f 1 u).bind _ = _
  rw [r_wrong h]; rfl
theorem r_takeSign_x (h : RX u) {x : Int32} : F_X12_takeSign f x u = some u := by
  rw [F_X12_takeSign, r_isSign_x h]
  show (F_X12_wrong f 1 u).bind _ = _
  rw [r_wrong_x h]; rfl
theorem r_num70_x (h : RX u) : B_X12_takeNumber_70 f u = some (0, adv u) := by
  rw [B_X12_takeNumber_70]
  exact if_neg (RX.nle (h.put (Or.inr (by decide))))
theorem r_takeNumber_x (h : RX u) {a b : Int32} : F_X12_takeNumber f a b u = some (0, adv u) := by
  rw [F_X12_takeNumber, if_neg h.ne, B_X12_takeNumber_28, if_neg h.ne, r_num70_x h]
theorem r_takeNumber_f (h : RS E i u) {a b : Int32} (ht : tT E i ≠ 3) : F_X12_takeNumber f a b u = some (0, adv (wr E 1 i u)) := by
  rw [F_X12_takeNumber, if_pos h.2.2.1, ck_p h.ix, h.2.2.2.1.nat, if_neg (fun e => ht ((h.1.1 i h.2.2.2.2).1.2.2.1.mp e)), r_wrong h]
  exact r_num70_x (f := f) (h.bad (by decide) (by decide))
theorem r_takeNumber_o (h : RS E i u) {a b : Int32} (ht : tT E i = 3) (ho : (tV E i).toInt < a.toInt ∨ b.toInt < (tV E i).toInt) : F_X12_takeNumber f a b u = some (0, adv (wr E 4 i u)) := by
  have hv := (h.1.1 i h.2.2.2.2).1.2.2.2.2 ht
  rw [F_X12_takeNumber, if_pos h.2.2.1, ck_p h.ix, h.2.2.2.1.nat, if_pos ((h.1.1 i h.2.2.2.2).1.2.2.1.mpr ht), B_X12_takeNumber_28, if_pos h.2.2.1, ck_p h.ix, h.2.2.2.1.nat, hv]
  have e65 : B_X12_takeNumber_65 f u = some (0, adv (wr E 4 i u)) := by
    rw [B_X12_takeNumber_65, r_wrong h]
    exact r_num70_x (f := f) (h.bad (by decide) (by decide))
  by_cases h1 : (tV E i).toInt < a.toInt
  · rw [if_pos (lg_lt.mpr (by rw [Int32.toInt_toInt64, Int32.toInt_toInt64]; exact h1)), e65]
  · rw [if_neg (fun e => h1 (by have := lg_lt.mp e; rw [Int32.toInt_toInt64, Int32.toInt_toInt64] at this; exact this)), if_neg (fun e => by have := lg_le.mp e; rw [Int32.toInt_toInt64, Int32.toInt_toInt64] at this; omega), e65]
theorem r_takeNumber_t (h : RS E i u) {a b : Int32} (ht : tT E i = 3) (h1 : a.toInt ≤ (tV E i).toInt) (h2 : (tV E i).toInt ≤ b.toInt) : F_X12_takeNumber f a b u = some (tV E i, adv u) := by
  have hv := (h.1.1 i h.2.2.2.2).1.2.2.2.2 ht
  rw [F_X12_takeNumber, if_pos h.2.2.1, ck_p h.ix, h.2.2.2.1.nat, if_pos ((h.1.1 i h.2.2.2.2).1.2.2.1.mpr ht), B_X12_takeNumber_28, if_pos h.2.2.1, ck_p h.ix, h.2.2.2.1.nat, hv,
    if_neg (fun e => by have := lg_lt.mp e; rw [Int32.toInt_toInt64, Int32.toInt_toInt64] at this; omega), if_pos (lg_le.mpr (by rw [Int32.toInt_toInt64, Int32.toInt_toInt64]; exact h2)), B_X12_takeNumber_70]
  have hadv := h.next (h.lt (by omega))
  have hz : gI (sI u 167 7 (gI u 167 7 + 1)) 167 8 ≤ 0 := by rw [show gI (sI u 167 7 (gI u 167 7 + 1)) 167 8 = 0 from hadv.2.2.1]; decide
  have hp : Nm (gI (sI u 167 7 (gI u 167 7 + 1)) 167 7 - 1) i := Nm.pred hadv.2.2.2.1
  show (if gI (sI u 167 7 (gI u 167 7 + 1)) 167 8 ≤ 0 then ck (ixo (gI (sI u 167 7 (gI u 167 7 + 1)) 167 7 - 1) 1202) (some ((gL u 171 (gI (sI u 167 7 (gI u 167 7 + 1)) 167 7 - 1).toNatClampNeg).toInt32, sI u 167 7 (gI u 167 7 + 1))) else some (0, sI u 167 7 (gI u 167 7 + 1))) = _
  rw [if_pos hz, ck_p (hp.ix (by have := h.2.1.1; have := h.2.2.2.2; omega)), hp.nat, hv, Int32.toInt32_toInt64]
  rfl
theorem r_oneOf_loop_t (h : RS E i u) {first many : Nat} {x1 x2 : Int32} (h1 : Nm x1 first) (h2 : Nm x2 many) (hm : first + many ≤ 24) {k0 : Nat} (hk : k0 < many) (ht : tT E i = wtok.getD (first + k0) 0) (hn : ∀ k, k < k0 → tT E i ≠ wtok.getD (first + k) 0) :
    ∀ (d k : Nat) (x3 : Int32), k + d = k0 → Nm x3 k → ∀ n, d < n → ∃ y, Nm y k0 ∧ B_X12_oneOf_2 f n x1 x2 x3 u = some (y, adv u) := by
  intro d
  induction d with
  | zero =>
    intro k x3 hd h3 n hlt
    obtain ⟨n, rfl⟩ : ∃ m, n = m + 1 := ⟨n - 1, by omega⟩
    have hk0 : k = k0 := by omega
    subst hk0
    refine ⟨x3, h3, ?_⟩
    rw [B_X12_oneOf_2, if_neg (fun e => by have := (h2.le h3).mp e; omega), r_hasWord_t h (by omega) (h1.add h3 (by omega)) ht]
    rfl
  | succ d ih =>
    intro k x3 hd h3 n hlt
    obtain ⟨n, rfl⟩ : ∃ m, n = m + 1 := ⟨n - 1, by omega⟩
    obtain ⟨y, hy, he⟩ := ih (k + 1) (x3 + 1) (by omega) (h3.succ (by omega)) n (by omega)
    refine ⟨y, hy, ?_⟩
    rw [B_X12_oneOf_2, if_neg (fun e => by have := (h2.le h3).mp e; omega), r_hasWord_f h (by omega) (h1.add h3 (by omega)) (hn k (by omega))]
    exact he
theorem r_oneOf_loop_f (h : RS E i u) {first many : Nat} {x1 x2 : Int32} (h1 : Nm x1 first) (h2 : Nm x2 many) (hm : first + many ≤ 24) (hn : ∀ k, k < many → tT E i ≠ wtok.getD (first + k) 0) :
    ∀ (d k : Nat) (x3 : Int32), k + d = many → Nm x3 k → ∀ n, d < n → B_X12_oneOf_2 f n x1 x2 x3 u = some (0, wr E 1 i u) := by
  intro d
  induction d with
  | zero =>
    intro k x3 hd h3 n hlt
    obtain ⟨n, rfl⟩ : ∃ m, n = m + 1 := ⟨n - 1, by omega⟩
    rw [B_X12_oneOf_2, if_pos ((h2.le h3).mpr (by omega)), r_wrong h]; rfl
  | succ d ih =>
    intro k x3 hd h3 n hlt
    obtain ⟨n, rfl⟩ : ∃ m, n = m + 1 := ⟨n - 1, by omega⟩
    have he := ih (k + 1) (x3 + 1) (by omega) (h3.succ (by omega)) n (by omega)
    rw [B_X12_oneOf_2, if_neg (fun e => by have := (h2.le h3).mp e; omega), r_hasWord_f h (by omega) (h1.add h3 (by omega)) (hn k (by omega))]
    exact he
theorem r_oneOf_loop_x (h : RX u) {first many : Nat} {x1 x2 : Int32} (h2 : Nm x2 many) (hm : first + many ≤ 24) :
    ∀ (d k : Nat) (x3 : Int32), k + d = many → Nm x3 k → ∀ n, d < n → B_X12_oneOf_2 f n x1 x2 x3 u = some (0, u) := by
  intro d
  induction d with
  | zero =>
    intro k x3 hd h3 n hlt
    obtain ⟨n, rfl⟩ : ∃ m, n = m + 1 := ⟨n - 1, by omega⟩
    rw [B_X12_oneOf_2, if_pos ((h2.le h3).mpr (by omega)), r_wrong_x h]; rfl
  | succ d ih =>
    intro k x3 hd h3 n hlt
    obtain ⟨n, rfl⟩ : ∃ m, n = m + 1 := ⟨n - 1, by omega⟩
    have he := ih (k + 1) (x3 + 1) (by omega) (h3.succ (by omega)) n (by omega)
    rw [B_X12_oneOf_2, if_neg (fun e => by have := (h2.le h3).mp e; omega), r_hasWord_x h]
    exact he
theorem r_oneOf_t (hf : 100 < f) (h : RS E i u) {first many : Nat} {x1 x2 : Int32} (h1 : Nm x1 first) (h2 : Nm x2 many) (hm : first + many ≤ 24) {k0 : Nat} (hk : k0 < many) (ht : tT E i = wtok.getD (first + k0) 0) (hn : ∀ k, k < k0 → tT E i ≠ wtok.getD (first + k) 0) :
    ∃ y, Nm y k0 ∧ F_X12_oneOf f x1 x2 u = some (y, adv u) := by
  rw [F_X12_oneOf]
  exact r_oneOf_loop_t h h1 h2 hm hk ht hn k0 0 0 (by omega) nm0 f (by omega)
theorem r_oneOf_f (hf : 100 < f) (h : RS E i u) {first many : Nat} {x1 x2 : Int32} (h1 : Nm x1 first) (h2 : Nm x2 many) (hm : first + many ≤ 24) (hn : ∀ k, k < many → tT E i ≠ wtok.getD (first + k) 0) : F_X12_oneOf f x1 x2 u = some (0, wr E 1 i u) := by
  rw [F_X12_oneOf]
  exact r_oneOf_loop_f h h1 h2 hm hn many 0 0 (by omega) nm0 f (by omega)
theorem r_oneOf_x (hf : 100 < f) (h : RX u) {first many : Nat} {x1 x2 : Int32} (h2 : Nm x2 many) (hm : first + many ≤ 24) : F_X12_oneOf f x1 x2 u = some (0, u) := by
  rw [F_X12_oneOf]
  exact r_oneOf_loop_x h h2 hm many 0 0 (by omega) nm0 f (by omega)
end
