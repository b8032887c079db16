/-! ===== LEVEL 3. numbers: an int that is a natural number ===== -/
abbrev Nm (x : Int32) (k : Nat) : Prop := x.toInt = (k : Int)
theorem Nm.nat {x : Int32} {k : Nat} (h : Nm x k) : x.toNatClampNeg = k := by
  show x.toInt.toNat = k
  rw [show x.toInt = (k : Int) from h]; rfl
theorem Nm.ix {x : Int32} {k n : Nat} (h : Nm x k) (hk : k < n) : ixo x n := by
  have h : x.toInt = (k : Int) := h
  exact ⟨by omega, by omega⟩
theorem Nm.of_ix {x : Int32} {n : Nat} (h : ixo x n) : Nm x x.toNatClampNeg := by
  show x.toInt = ((x.toInt.toNat : Nat) : Int)
  have := h.1
  omega
theorem Nm.of_nn {x : Int32} (h : 0 ≤ x.toInt) : Nm x x.toNatClampNeg := by
  show x.toInt = ((x.toInt.toNat : Nat) : Int)
  omega
theorem Nm.inj {x y : Int32} {k : Nat} (h : Nm x k) (h' : Nm y k) : x = y := Int32.toInt_inj.mp (h.trans h'.symm)
theorem i_lo (x : Int32) : -2147483648 ≤ x.toInt := x.le_toInt
theorem i_hi (x : Int32) : x.toInt < 2147483648 := x.toInt_lt
theorem i_add {a b : Int32} (h : -2147483648 ≤ a.toInt + b.toInt) (h' : a.toInt + b.toInt < 2147483648) : (a + b).toInt = a.toInt + b.toInt := by
  rw [Int32.toInt_add]; exact Int.bmod_eq_of_le (by simpa using h) (by simpa using h')
theorem i_sub {a b : Int32} (h : -2147483648 ≤ a.toInt - b.toInt) (h' : a.toInt - b.toInt < 2147483648) : (a - b).toInt = a.toInt - b.toInt := by
  rw [Int32.toInt_sub]; exact Int.bmod_eq_of_le (by simpa using h) (by simpa using h')
theorem i_mul {a b : Int32} (h : -2147483648 ≤ a.toInt * b.toInt) (h' : a.toInt * b.toInt < 2147483648) : (a * b).toInt = a.toInt * b.toInt := by
  rw [Int32.toInt_mul]; exact Int.bmod_eq_of_le (by simpa using h) (by simpa using h')
theorem i_le {a b : Int32} : a ≤ b ↔ a.toInt ≤ b.toInt := Int32.le_iff_toInt_le
theorem i_lt {a b : Int32} : a < b ↔ a.toInt < b.toInt := Int32.lt_iff_toInt_lt
theorem i_eq {a b : Int32} : a = b ↔ a.toInt = b.toInt := Int32.toInt_inj.symm
theorem Nm.succ {x : Int32} {k : Nat} (h : Nm x k) (hk : k < 1000000000) : Nm (x + 1) (k + 1) := by
  have h : x.toInt = (k : Int) := h
  have h1 : (1 : Int32).toInt = 1 := rfl
  show (x + 1).toInt = ((k + 1 : Nat) : Int)
  rw [i_add (by omega) (by omega)]; omega
theorem Nm.pred {x : Int32} {k : Nat} (h : Nm x (k + 1)) : Nm (x - 1) k := by
  have h : x.toInt = ((k + 1 : Nat) : Int) := h
  have h1 : (1 : Int32).toInt = 1 := rfl
  have := i_hi x
  show (x - 1).toInt = (k : Int)
  rw [i_sub (by omega) (by omega)]; omega
theorem Nm.predn {x : Int32} {k : Nat} (h : Nm x (k + 1)) : Nm (x + (-1)) k := by
  have h : x.toInt = ((k + 1 : Nat) : Int) := h
  have h1 : (-1 : Int32).toInt = -1 := rfl
  have := i_hi x
  show (x + (-1)).toInt = (k : Int)
  rw [i_add (by omega) (by omega)]; omega
theorem Nm.add {x y : Int32} {k m : Nat} (h : Nm x k) (h' : Nm y m) (hk : k + m < 2147483648) : Nm (x + y) (k + m) := by
  have h : x.toInt = (k : Int) := h
  have h' : y.toInt = (m : Int) := h'
  show (x + y).toInt = ((k + m : Nat) : Int)
  rw [i_add (by omega) (by omega)]; omega
theorem Nm.sub {x y : Int32} {k m : Nat} (h : Nm x k) (h' : Nm y m) (hk : m ≤ k) : Nm (x - y) (k - m) := by
  have h : x.toInt = (k : Int) := h
  have h' : y.toInt = (m : Int) := h'
  have := i_hi x
  show (x - y).toInt = ((k - m : Nat) : Int)
  rw [i_sub (by omega) (by omega)]; omega
theorem Nm.mul {x y : Int32} {k m : Nat} (h : Nm x k) (h' : Nm y m) (hk : k * m < 2147483648) : Nm (x * y) (k * m) := by
  have h : x.toInt = (k : Int) := h
  have h' : y.toInt = (m : Int) := h'
  have e : x.toInt * y.toInt = ((k * m : Nat) : Int) := by rw [h, h']; simp
  show (x * y).toInt = ((k * m : Nat) : Int)
  rw [i_mul (by omega) (by omega), e]
theorem Nm.div {x y : Int32} {k m : Nat} (h : Nm x k) (h' : Nm y m) : Nm (x / y) (k / m) := by
  have h : x.toInt = (k : Int) := h
  have h' : y.toInt = (m : Int) := h'
  show (x / y).toInt = ((k / m : Nat) : Int)
  rw [Int32.toInt_div_of_ne_right _ _ (fun e => by have := congrArg Int32.toInt e; rw [h', show (-1 : Int32).toInt = -1 from rfl] at this; omega), h, h']
  exact (Int.ofNat_tdiv k m).symm
theorem Nm.mod {x y : Int32} {k m : Nat} (h : Nm x k) (h' : Nm y m) : Nm (x - x / y * y) (k % m) := by
  have hd := h.div h'
  have hx := i_hi x
  have hk : x.toInt = (k : Int) := h
  have hle : k / m * m ≤ k := Nat.div_mul_le_self k m
  have hm := hd.mul h' (by omega)
  have := h.sub hm hle
  have e : k - k / m * m = k % m := by have := Nat.mod_add_div k m; rw [Nat.mul_comm] at this; omega
  rw [e] at this; exact this
theorem Nm.le {x y : Int32} {k m : Nat} (h : Nm x k) (h' : Nm y m) : x ≤ y ↔ k ≤ m := by
  have h : x.toInt = (k : Int) := h
  have h' : y.toInt = (m : Int) := h'
  rw [i_le, h, h']; omega
theorem Nm.lt {x y : Int32} {k m : Nat} (h : Nm x k) (h' : Nm y m) : x < y ↔ k < m := by
  have h : x.toInt = (k : Int) := h
  have h' : y.toInt = (m : Int) := h'
  rw [i_lt, h, h']; omega
theorem Nm.eq {x y : Int32} {k m : Nat} (h : Nm x k) (h' : Nm y m) : x = y ↔ k = m := by
  have h : x.toInt = (k : Int) := h
  have h' : y.toInt = (m : Int) := h'
  rw [i_eq, h, h']; omega
theorem Nm.of {k : Nat} (h : k < 2147483648) : Nm (Int32.ofNat k) k := Int32.toInt_ofNat_of_lt h
theorem nm0 : Nm 0 0 := rfl
/-! the logic of what is there -/
def Ok {α : Type} (o : Option α) (P : α → Prop) : Prop := ∃ a, o = some a ∧ P a
theorem Ok.some {α : Type} {a : α} {P : α → Prop} (h : P a) : Ok (some a) P := ⟨a, rfl, h⟩
theorem Ok.ck {α : Type} {c : Prop} [Decidable c] {o : Option α} {P : α → Prop} (hc : c) (h : Ok o P) : Ok (ck c o) P := by
  obtain ⟨a, h1, h2⟩ := h
  exact ⟨a, by show (if c then o else none) = _; rw [if_pos hc, h1], h2⟩
theorem Ok.bind {α β : Type} {o : Option α} {k : α → Option β} {P : α → Prop} {Q : β → Prop} (h : Ok o P) (hk : ∀ a, P a → Ok (k a) Q) : Ok (o.bind k) Q := by
  obtain ⟨a, h1, h2⟩ := h
  obtain ⟨b, h3, h4⟩ := hk a h2
  exact ⟨b, by rw [h1]; exact h3, h4⟩
theorem Ok.bindE {α β : Type} {o : Option α} {a : α} {k : α → Option β} {Q : β → Prop} (h : o = Option.some a) (hk : Ok (k a) Q) : Ok (o.bind k) Q := by
  obtain ⟨b, h3, h4⟩ := hk
  exact ⟨b, by rw [h]; exact h3, h4⟩
theorem Ok.ite {α : Type} {c : Prop} [Decidable c] {a b : Option α} {P : α → Prop} (h1 : c → Ok a P) (h2 : ¬ c → Ok b P) : Ok (if c then a else b) P := by
  by_cases hc : c
  · rw [if_pos hc]; exact h1 hc
  · rw [if_neg hc]; exact h2 hc
theorem Ok.t {α : Type} {c : Prop} [Decidable c] {a b : Option α} {P : α → Prop} (hc : c) (h : Ok a P) : Ok (if c then a else b) P := by rw [if_pos hc]; exact h
theorem Ok.f {α : Type} {c : Prop} [Decidable c] {a b : Option α} {P : α → Prop} (hc : ¬ c) (h : Ok b P) : Ok (if c then a else b) P := by rw [if_neg hc]; exact h
theorem Ok.mono {α : Type} {o : Option α} {P Q : α → Prop} (h : Ok o P) (hk : ∀ a, P a → Q a) : Ok o Q := by
  obtain ⟨a, h1, h2⟩ := h
  exact ⟨a, h1, hk a h2⟩
theorem ck_p {α : Type} {c : Prop} [Decidable c] {o : Option α} (hc : c) : ck c o = o := if_pos hc
/-! reading what was written -/
theorem g_same (u : MT) (a k : Nat) (v : Int32) : gI (sI u a k v) a k = v := up2_eq _ _ _ _
theorem g_at (u : MT) (a k j : Nat) (v : Int32) : gI (sI u a k v) a j = if j = k then v else gI u a j := up2_at _ _ _ _ _
theorem g_ne (u : MT) {a b : Nat} (k j : Nat) (v : Int32) (h : b ≠ a) : gI (sI u a k v) b j = gI u b j := by show up2 u.1 a k v b j = u.1 b j; rw [up2_ne _ _ _ h]
theorem g_nk (u : MT) (a : Nat) {k j : Nat} (v : Int32) (h : j ≠ k) : gI (sI u a k v) a j = gI u a j := by rw [g_at, if_neg h]
theorem g_L (u : MT) (a k b j : Nat) (v : Int64) : gI (sL u a k v) b j = gI u b j := rfl
theorem g_K (u : MT) (a k b j : Nat) (v : Nat) : gI (sK u a k v) b j = gI u b j := rfl
theorem l_I (u : MT) (a k b j : Nat) (v : Int32) : gL (sI u a k v) b j = gL u b j := rfl
theorem l_K (u : MT) (a k b j : Nat) (v : Nat) : gL (sK u a k v) b j = gL u b j := rfl
theorem l_same (u : MT) (a k : Nat) (v : Int64) : gL (sL u a k v) a k = v := up2_eq _ _ _ _
theorem l_at (u : MT) (a k j : Nat) (v : Int64) : gL (sL u a k v) a j = if j = k then v else gL u a j := up2_at _ _ _ _ _
theorem l_ne (u : MT) {a b : Nat} (k j : Nat) (v : Int64) (h : b ≠ a) : gL (sL u a k v) b j = gL u b j := by show up2 u.2.1 a k v b j = u.2.1 b j; rw [up2_ne _ _ _ h]
theorem k_I (u : MT) (a k b j : Nat) (v : Int32) : gK (sI u a k v) b j = gK u b j := rfl
theorem k_L (u : MT) (a k b j : Nat) (v : Int64) : gK (sL u a k v) b j = gK u b j := rfl
theorem k_same (u : MT) (a k : Nat) (v : Nat) : gK (sK u a k v) a k = v := up2_eq _ _ _ _
theorem k_at (u : MT) (a k j : Nat) (v : Nat) : gK (sK u a k v) a j = if j = k then v else gK u a j := up2_at _ _ _ _ _
theorem k_ne (u : MT) {a b : Nat} (k j : Nat) (v : Nat) (h : b ≠ a) : gK (sK u a k v) b j = gK u b j := by show up2 u.2.2 a k v b j = u.2.2 b j; rw [up2_ne _ _ _ h]
/-! frames: what a method may write (from a cell, so many cells, 0 all of it or a field + 1) -/
abbrev WL : Type := List (Nat × Nat × Nat)
def nin : WL → Nat → Nat → Prop
  | [], _, _ => True
  | e :: l, a, k => (e.1 ≤ a → a < e.1 + e.2.1 → e.2.2 ≠ 0 ∧ k + 1 ≠ e.2.2) ∧ nin l a k
theorem nin_all {l : WL} {a k : Nat} : nin l a k ↔ ∀ e ∈ l, e.1 ≤ a → a < e.1 + e.2.1 → e.2.2 ≠ 0 ∧ k + 1 ≠ e.2.2 := by
  induction l with
  | nil => simp [nin]
  | cons e l ih => simp [nin, ih]
def Fr (A L K : WL) (u r : MT) : Prop := (∀ a k, nin A a k → gI r a k = gI u a k) ∧ (∀ a k, nin L a k → gL r a k = gL u a k) ∧ (∀ a k, nin K a k → gK r a k = gK u a k)
theorem Fr_rfl {A L K : WL} {u : MT} : Fr A L K u u := ⟨fun _ _ _ => rfl, fun _ _ _ => rfl, fun _ _ _ => rfl⟩
theorem Fr_tr {A L K : WL} {u v r : MT} (h2 : Fr A L K v r) (h1 : Fr A L K u v) : Fr A L K u r := ⟨fun a k h => (h2.1 a k h).trans (h1.1 a k h), fun a k h => (h2.2.1 a k h).trans (h1.2.1 a k h), fun a k h => (h2.2.2 a k h).trans (h1.2.2 a k h)⟩
def Fs (l l' : WL) : Prop := ∀ e, e ∈ l → e ∈ l'
theorem Fs.nin {l l' : WL} (h : Fs l l') {a k : Nat} (hn : nin l' a k) : nin l a k := nin_all.mpr (fun e he => nin_all.mp hn e (h e he))
theorem Fr_up {A L K A' L' K' : WL} {u r : MT} (hA : Fs A A') (hL : Fs L L') (hK : Fs K K') (h : Fr A L K u r) : Fr A' L' K' u r := ⟨fun a k hn => h.1 a k (hA.nin hn), fun a k hn => h.2.1 a k (hL.nin hn), fun a k hn => h.2.2 a k (hK.nin hn)⟩
theorem Fr_sI0 {A L K : WL} {u v : MT} {a k : Nat} {x : Int32} (hm : (a, 1, 0) ∈ A) (h : Fr A L K u v) : Fr A L K u (sI v a k x) := ⟨fun b j hn => by
  have hb : b ≠ a := fun e => by
    have := nin_all.mp hn _ hm (by show a ≤ b; omega) (by show b < a + 1; omega)
    exact this.1 rfl
  rw [g_ne _ _ _ _ hb]; exact h.1 b j hn, h.2.1, h.2.2⟩
theorem Fr_sIk {A L K : WL} {u v : MT} {a k : Nat} {x : Int32} (hm : (a, 1, k + 1) ∈ A) (h : Fr A L K u v) : Fr A L K u (sI v a k x) := ⟨fun b j hn => by
  by_cases hb : b = a
  · subst hb
    have hj : j ≠ k := fun e => by
      have := nin_all.mp hn _ hm (Nat.le_refl _) (Nat.lt_succ_self _)
      exact this.2 (by show j + 1 = k + 1; omega)
    rw [g_nk _ _ _ hj]; exact h.1 b j hn
  · rw [g_ne _ _ _ _ hb]; exact h.1 b j hn, h.2.1, h.2.2⟩
theorem Fr_sL0 {A L K : WL} {u v : MT} {a k : Nat} {x : Int64} (hm : (a, 1, 0) ∈ L) (h : Fr A L K u v) : Fr A L K u (sL v a k x) := ⟨h.1, fun b j hn => by
  have hb : b ≠ a := fun e => by
    have := nin_all.mp hn _ hm (by show a ≤ b; omega) (by show b < a + 1; omega)
    exact this.1 rfl
  rw [l_ne _ _ _ _ hb]; exact h.2.1 b j hn, h.2.2⟩
theorem Fr_sK0 {A L K : WL} {u v : MT} {a k : Nat} {x : Nat} (hm : (a, 1, 0) ∈ K) (h : Fr A L K u v) : Fr A L K u (sK v a k x) := ⟨h.1, h.2.1, fun b j hn => by
  have hb : b ≠ a := fun e => by
    have := nin_all.mp hn _ hm (by show a ≤ b; omega) (by show b < a + 1; omega)
    exact this.1 rfl
  rw [k_ne _ _ _ _ hb]; exact h.2.2 b j hn⟩
theorem Fr_sKk {A L K : WL} {u v : MT} {a k : Nat} {x : Nat} (hm : (a, 1, k + 1) ∈ K) (h : Fr A L K u v) : Fr A L K u (sK v a k x) := ⟨h.1, h.2.1, fun b j hn => by
  by_cases hb : b = a
  · subst hb
    have hj : j ≠ k := fun e => by
      have := nin_all.mp hn _ hm (Nat.le_refl _) (Nat.lt_succ_self _)
      exact this.2 (by show j + 1 = k + 1; omega)
    rw [k_at, if_neg hj]; exact h.2.2 b j hn
  · rw [k_ne _ _ _ _ hb]; exact h.2.2 b j hn⟩
theorem Fr_cp {A L K : WL} {u v : MT} {a0 a s d n : Nat} (hm : (a, 1, 0) ∈ A) (h : Fr A L K u v) : Fr A L K u (cpI v a0 a s d n) := ⟨fun b j hn => by
  have hb : b ≠ a := fun e => by
    have := nin_all.mp hn _ hm (by show a ≤ b; omega) (by show b < a + 1; omega)
    exact this.1 rfl
  show (if b = a then _ else v.1 b) j = _
  rw [if_neg hb]; exact h.1 b j hn, h.2.1, h.2.2⟩
/-- rings of ints -/
theorem ring_try (a b c : Int32) : (a + b) * c - a * c = c * b := by grind
