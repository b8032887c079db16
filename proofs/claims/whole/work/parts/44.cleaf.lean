/-! ===== the class's reader, leaf by leaf ===== -/
def EnvC (E : ET) (u : MT) : Prop := Nm (gI u 112 3) (tL E) ∧ ∀ i, i ≤ tL E → gK u 113 i = tT E i ∧ gI u 114 i = tP E i ∧ (tT E i = 3 → gI u 115 i = tV E i)
theorem EnvC.fr {E : ET} {u r : MT} (h : EnvC E u) (h0 : gI r 112 3 = gI u 112 3) (h1 : ∀ k, gK r 113 k = gK u 113 k) (h2 : ∀ k, gI r 114 k = gI u 114 k) (h3 : ∀ k, gI r 115 k = gI u 115 k) : EnvC E r :=
  ⟨by rw [h0]; exact h.1, fun i hi => by rw [h1, h2, h3]; exact h.2 i hi⟩
/-- at a token, without a fault -/
def CS (E : ET) (i : Nat) (u : MT) : Prop := EnvC E u ∧ TE E ∧ gI u 112 5 = 0 ∧ Nm (gI u 112 4) i ∧ i ≤ tL E
def cadv (u : MT) : MT := sI u 112 4 (gI u 112 4 + 1)
def cwr (E : ET) (k : Int32) (i : Nat) (u : MT) : MT := sI u 112 5 (flt E k i)
theorem CS.ix {E : ET} {i : Nat} {u : MT} (h : CS E i u) : ixo (gI u 112 4) 1201 := h.2.2.2.1.ix (by have := h.2.1.1; have := h.2.2.2.2; omega)
theorem CS.put {E : ET} {i : Nat} {u : MT} (h : CS E i u) {a k : Nat} {v : Int32} (h1 : a ≠ 112 ∨ (k ≠ 3 ∧ k ≠ 4 ∧ k ≠ 5)) (h2 : a ≠ 114) (h3 : a ≠ 115) : CS E i (sI u a k v) := by
  have key : ∀ j, (j = 3 ∨ j = 4 ∨ j = 5) → gI (sI u a k v) 112 j = gI u 112 j := fun j hj => by
    by_cases e : 112 = a
    · subst e
      exact g_nk _ _ _ (by rcases h1 with h1 | h1; exact absurd rfl h1; omega)
    · exact g_ne _ _ _ _ e
  refine ⟨h.1.fr (key 3 (by omega)) (fun _ => rfl) (fun _ => g_ne _ _ _ _ (Ne.symm h2)) (fun _ => g_ne _ _ _ _ (Ne.symm h3)), h.2.1, ?_, ?_, h.2.2.2.2⟩
  · rw [key 5 (by omega)]; exact h.2.2.1
  · rw [key 4 (by omega)]; exact h.2.2.2.1
theorem CS.putK {E : ET} {i : Nat} {u : MT} (h : CS E i u) {a k : Nat} {v : Nat} (h1 : a ≠ 113) : CS E i (sK u a k v) :=
  ⟨h.1.fr rfl (fun _ => k_ne _ _ _ _ (Ne.symm h1)) (fun _ => rfl) (fun _ => rfl), h.2.1, h.2.2.1, h.2.2.2.1, h.2.2.2.2⟩
theorem CS.next {E : ET} {i : Nat} {u : MT} (h : CS E i u) (hi : i < tL E) : CS E (i + 1) (cadv u) := by
  refine ⟨h.1.fr (g_nk _ _ _ (by decide)) (fun _ => rfl) (fun _ => g_ne _ _ _ _ (by decide)) (fun _ => g_ne _ _ _ _ (by decide)), h.2.1, ?_, ?_, hi⟩
  · exact (g_nk _ _ _ (by decide)).trans h.2.2.1
  · show Nm (gI (sI u 112 4 _) 112 4) (i + 1)
    rw [g_same]; exact h.2.2.2.1.succ (by have := h.2.1.1; omega)
theorem CS.lt {E : ET} {i : Nat} {u : MT} (h : CS E i u) (ht : tT E i ≠ 2) : i < tL E := by
  have := h.2.2.2.2
  by_cases e : i = tL E
  · subst e; exact absurd h.2.1.2.1 ht
  · omega
theorem CS.tok {E : ET} {i : Nat} {u : MT} (h : CS E i u) : gK u 113 (gI u 112 4).toNatClampNeg = tT E i := by rw [h.2.2.2.1.nat]; exact (h.1.2 i h.2.2.2.2).1
theorem CS.le {E : ET} {i : Nat} {u : MT} (h : CS E i u) : tT E i ≤ 34 := (h.2.1.2.2.2.1 i h.2.2.2.2).2
theorem CS.ge {E : ET} {i : Nat} {u : MT} (h : CS E i u) : 1 ≤ tT E i := (h.2.1.2.2.2.1 i h.2.2.2.2).1
theorem c_isIn {f : Nat} {u : MT} {x a b : Int32} : F_X11_isIn f x a b u = some (b2i (a.toInt ≤ x.toInt ∧ x.toInt ≤ b.toInt), u) := by
  rw [F_X11_isIn]
  by_cases h1 : x < a
  · rw [if_pos h1, b2i_f (fun e => by have := i_lt.mp h1; omega)]
  · rw [if_neg h1]
    by_cases h2 : b < x
    · rw [if_pos h2, b2i_f (fun e => by have := i_lt.mp h2; omega)]
    · rw [if_neg h2, b2i_t ⟨Int.not_lt.mp (fun e => h1 (i_lt.mpr e)), Int.not_lt.mp (fun e => h2 (i_lt.mpr e))⟩]
section
variable {f : Nat} {E : ET} {tx : Nat} {i : Nat} {u : MT}
theorem c_step (h : CS E i u) (hi : i < tL E) : F_X3_step f tx u = some (cadv u) := by
  rw [F_X3_step, if_neg (fun e => by have := (h.1.1.le h.2.2.2.1).mp e; omega)]; rfl
theorem c_step_end (h : CS E (tL E) u) : F_X3_step f tx u = some u := by
  rw [F_X3_step, if_pos ((h.1.1.le h.2.2.2.1).mpr (Nat.le_refl _))]
theorem c_refuse (h : CS E i u) {k : Int32} : F_X3_refuse f tx k u = some (0, cwr E k i u) := by
  rw [F_X3_refuse, ck_p h.ix, h.2.2.2.1.nat, (h.1.2 i h.2.2.2.2).2.1]; rfl
theorem c_take_t (h : CS E i u) {a : Nat} (ht : tT E i = a) (ha : a ≠ 2) : F_X3_take f tx a u = some (1, cadv u) := by
  have h1 := h.le
  rw [F_X3_take, ck_p h.ix, h.tok, ck_p h1, ck_p (by omega), if_pos ht, c_step h (h.lt (by omega))]; rfl
theorem c_take_end (h : CS E i u) (ht : tT E i = 2) : F_X3_take f tx 2 u = some (1, u) := by
  have h1 := h.le
  have e : i = tL E := by
    by_cases e : i = tL E
    · exact e
    · exact absurd ht (h.2.1.2.2.1 i (by have := h.2.2.2.2; omega))
  subst e
  rw [F_X3_take, ck_p h.ix, h.tok, ck_p h1, ck_p (by omega), if_pos ht, c_step_end h]; rfl
theorem c_take_f (h : CS E i u) {a : Nat} (ha : a ≤ 34) (ht : tT E i ≠ a) : F_X3_take f tx a u = some (0, cwr E 1 i u) := by
  have h1 := h.le
  rw [F_X3_take, ck_p h.ix, h.tok, ck_p h1, ck_p ha, if_neg ht, c_refuse h]; rfl
theorem c_oneOf_t (h : CS E i u) {a b c : Nat} (ha : a ≤ 34) (hb : b ≤ 34) (hc : c ≤ 34) (ht : tT E i = a ∨ tT E i = b ∨ tT E i = c) (h2 : tT E i ≠ 2) : F_X3_takeOneOf f tx a b c u = some (tT E i, cadv u) := by
  have e : B_X3_takeOneOf_37 f tx (tT E i) u = some (tT E i, cadv u) := by rw [B_X3_takeOneOf_37, c_step h (h.lt h2)]; rfl
  rw [F_X3_takeOneOf, ck_p h.ix, h.tok, ck_p h.le, ck_p ha]
  by_cases h3 : tT E i = a
  · rw [if_pos h3, e]
  · rw [if_neg h3, ck_p hb]
    by_cases h4 : tT E i = b
    · rw [if_pos h4, e]
    · rw [if_neg h4, ck_p hc, if_pos (by rcases ht with ht | ht | ht; exact absurd ht h3; exact absurd ht h4; exact ht), e]
theorem c_oneOf_f (h : CS E i u) {a b c : Nat} (ha : a ≤ 34) (hb : b ≤ 34) (hc : c ≤ 34) (h1 : tT E i ≠ a) (h2 : tT E i ≠ b) (h3 : tT E i ≠ c) : F_X3_takeOneOf f tx a b c u = some (0, cwr E 1 i u) := by
  rw [F_X3_takeOneOf, ck_p h.ix, h.tok, ck_p h.le, ck_p ha, if_neg h1, ck_p hb, if_neg h2, ck_p hc, if_neg h3, c_refuse h]; rfl
theorem c_num_t (h : CS E i u) {a1 : Nat} (ha : 116 ≤ a1) {a b : Int32} (ht : tT E i = 3) (h1 : a.toInt ≤ (tV E i).toInt) (h2 : (tV E i).toInt ≤ b.toInt) : F_X3_takeNumber f tx a1 a b u = some (1, cadv (sI u a1 9 (tV E i))) := by
  have hs : CS E i (sI u a1 9 (tV E i)) := h.put (Or.inl (by omega)) (by omega) (by omega)
  rw [F_X3_takeNumber, ck_p h.ix, h.tok, ck_p h.le, if_pos ht, c_isIn, h.2.2.2.1.nat, (h.1.2 i h.2.2.2.2).2.2 ht, b2i_t ⟨h1, h2⟩]
  dsimp only [Option.bind_some]
  rw [if_neg (by decide), ck_p h.ix, h.2.2.2.1.nat, (h.1.2 i h.2.2.2.2).2.2 ht, c_step hs (h.lt (by omega))]; rfl
theorem c_num_o (h : CS E i u) {a1 : Nat} {a b : Int32} (ht : tT E i = 3) (ho : (tV E i).toInt < a.toInt ∨ b.toInt < (tV E i).toInt) : F_X3_takeNumber f tx a1 a b u = some (0, cwr E 4 i u) := by
  rw [F_X3_takeNumber, ck_p h.ix, h.tok, ck_p h.le, if_pos ht, c_isIn, h.2.2.2.1.nat, (h.1.2 i h.2.2.2.2).2.2 ht, b2i_f (by omega)]
  dsimp only [Option.bind_some]
  rw [if_pos rfl, c_refuse h]; rfl
theorem c_num_f (h : CS E i u) {a1 : Nat} {a b : Int32} (ht : tT E i ≠ 3) : F_X3_takeNumber f tx a1 a b u = some (0, cwr E 1 i u) := by
  rw [F_X3_takeNumber, ck_p h.ix, h.tok, ck_p h.le, if_neg ht, c_refuse h]; rfl
end
/-! the kinds of tokens -/
def bpart (t : Nat) : Bool := t == 3 || t == 4 || (decide (7 ≤ t) && decide (t ≤ 11))
def isop (t : Nat) : Bool := decide (12 ≤ t) && decide (t ≤ 15)
def iscm (t : Nat) : Bool := t == 14 || t == 15
def tcode (t : Nat) : Int32 := tkC.getD (t - 1) 0
theorem op_tab : ∀ t, t < 35 → (decide (tkC.getD (12 - 1) 0 < tkC.getD (t - 1) 0) = !(isop t)) := by decide +kernel
theorem bp_tab : ∀ t, t < 35 → t ≠ 3 → t ≠ 4 → 1 ≤ t → (!(decide (0 ≤ tkC.getD (t - 1) 0)) && !(isop t)) = bpart t := by decide +kernel
theorem c_isop {f t : Nat} {u : MT} (h : t ≤ 34) : F_X9_isOperator f t u = some (b2i (isop t = true), u) := by
  have := op_tab t (by omega)
  rw [F_X9_isOperator]
  by_cases hc : tkC.getD (12 - 1) 0 < tkC.getD (t - 1) 0
  · rw [if_pos hc, b2i_f]
    rw [decide_eq_true hc] at this
    cases h2 : isop t with
    | true => rw [h2] at this; exact absurd this (by decide)
    | false => decide
  · rw [if_neg hc, b2i_t]
    rw [decide_eq_false hc] at this
    cases h2 : isop t with
    | true => rfl
    | false => rw [h2] at this; exact absurd this (by decide)
theorem c_iscm {f t : Nat} {u : MT} : F_X9_isCompare f t u = some (b2i (iscm t = true), u) := by
  rw [F_X9_isCompare]
  by_cases h1 : t = 14
  · subst h1; rfl
  · rw [if_neg h1]
    by_cases h2 : t = 15
    · subst h2; rfl
    · rw [if_neg h2, b2i_f (by simp [iscm, h1, h2])]
theorem c_bpart {f t : Nat} {u : MT} (h : t ≤ 34) (h0 : 1 ≤ t) : F_X9_beginsPart f t u = some (b2i (bpart t = true), u) := by
  rw [F_X9_beginsPart]
  by_cases h1 : t = 3
  · subst h1; rfl
  · rw [if_neg h1]
    by_cases h2 : t = 4
    · subst h2; rfl
    · rw [if_neg h2]
      have := bp_tab t (by omega) h1 h2 h0
      by_cases hc : 0 ≤ tkC.getD (t - 1) 0
      · rw [if_pos hc, b2i_f]
        rw [decide_eq_true hc] at this
        rw [← this]; simp
      · rw [if_neg hc, c_isop h]
        rw [decide_eq_false hc] at this
        cases h3 : isop t with
        | true =>
          rw [h3] at this
          rw [b2i_t rfl, b2i_f (p := bpart t = true) (by rw [← this]; decide)]; rfl
        | false =>
          rw [h3] at this
          rw [b2i_f (by decide), b2i_t (p := bpart t = true) (by rw [← this]; rfl)]; rfl
