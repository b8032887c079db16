/-! ===== feed: both alike ===== -/
def byC (x : Int64) (s : Int32) : Int32 := ((((x.toUInt64 >>> (s.toInt64.toUInt64 &&& Int64.toUInt64 63)).toInt64)).toInt32 &&& (255 : Int32))
def byR (x : Int64) (s : Int32) : Int32 := (((x >>> (s.toInt64 &&& 63))).toInt32 &&& (255 : Int32))
theorem bv_255 : ∀ j, j < 32 → 8 ≤ j → (255#32).getLsbD j = false := by decide
theorem bv_by (b : BitVec 64) (n : Nat) (hn : n ≤ 56) : BitVec.signExtend 32 (b >>> n) &&& 255#32 = BitVec.signExtend 32 (b.sshiftRight n) &&& 255#32 := by
  apply BitVec.eq_of_getLsbD_eq
  intro i hi
  rw [BitVec.getLsbD_and, BitVec.getLsbD_and]
  by_cases h : i < 8
  · rw [BitVec.getLsbD_signExtend, BitVec.getLsbD_signExtend, if_pos (by omega), if_pos (by omega), BitVec.getLsbD_ushiftRight, BitVec.getLsbD_sshiftRight, if_pos (by omega), decide_eq_false (by omega : ¬ 64 ≤ i)]
    simp
  · rw [bv_255 i hi (by omega), Bool.and_false, Bool.and_false]
theorem by_eq (x : Int64) {s : Nat} (hs : s = 56 ∨ s = 48 ∨ s = 40 ∨ s = 32 ∨ s = 24 ∨ s = 16 ∨ s = 8 ∨ s = 0) : byC x (Int32.ofNat s) = byR x (Int32.ofNat s) := by
  unfold byC byR
  apply Int32.toBitVec_inj.mp
  simp only [Int32.toBitVec_and, Int64.toBitVec_toInt32, Int64.toBitVec_shiftRight, UInt64.toBitVec_shiftRight]
  rcases hs with e | e | e | e | e | e | e | e <;> subst e
  · exact bv_by x.toBitVec 56 (by decide)
  · exact bv_by x.toBitVec 48 (by decide)
  · exact bv_by x.toBitVec 40 (by decide)
  · exact bv_by x.toBitVec 32 (by decide)
  · exact bv_by x.toBitVec 24 (by decide)
  · exact bv_by x.toBitVec 16 (by decide)
  · exact bv_by x.toBitVec 8 (by decide)
  · exact bv_by x.toBitVec 0 (by decide)
theorem by_in (x : Int32) : 0 ≤ (x &&& 255).toInt ∧ (x &&& 255).toInt ≤ 255 := by
  have h : (x &&& 255).toBitVec.toNat ≤ 255 := by
    rw [Int32.toBitVec_and, BitVec.toNat_and]
    exact Nat.and_le_right
  have e : (x &&& 255).toInt = ((x &&& 255).toBitVec.toNat : Int) := by
    rw [Int32.toInt, BitVec.toInt_eq_toNat_of_lt (by omega)]
  omega
theorem nar_by {x : Int32} (h0 : 0 ≤ x.toInt) (h1 : x.toInt ≤ 255) : vp_nar .char (((x).toUInt32 % 65536).toInt32) = x := by
  have e : x.toUInt32 % 65536 = x.toUInt32 := by
    apply UInt32.toNat_inj.mp
    rw [UInt32.toNat_mod]
    have h2 : x.toInt = (x.toUInt32.toNat : Int) := by
      have : x.toBitVec.toNat < 2 ^ 31 := by
        rcases Nat.lt_or_ge x.toBitVec.toNat (2 ^ 31) with c | c
        · exact c
        · have := BitVec.toInt_eq_toNat_cond x.toBitVec
          have e3 : x.toInt = x.toBitVec.toInt := rfl
          rw [if_neg (by omega)] at this
          have := x.toBitVec.isLt
          omega
      have e3 : x.toInt = x.toBitVec.toInt := rfl
      rw [e3, BitVec.toInt_eq_toNat_of_lt (by omega)]; rfl
    exact Nat.mod_eq_of_lt (by show x.toUInt32.toNat < 65536; omega)
  unfold vp_nar
  rw [pk_nc, e]
  rfl
def tpsh (s : (Nat → Int32) × Nat) (b : Int32) : (Nat → Int32) × Nat := if (b = 10 ∨ (32 ≤ b.toInt ∧ b.toInt ≤ 126)) ∧ s.2 < 1200 then (upf s.1 s.2 b, s.2 + 1) else s
/-- eight bytes, from shift 8 * k down -/
def tpby (x : Int64) : Nat → (Nat → Int32) × Nat → (Nat → Int32) × Nat
  | 0, s => s
  | k + 1, s => tpby x k (tpsh s (byC x (Int32.ofNat (8 * k))))
section
variable {f : Nat}
theorem c_addB {u : MT} {x : Int64} {s0 : (Nat → Int32) × Nat} (hf : 1300 < f) (hT : TpC s0.1 s0.2 u) : ∃ v, F_X6_addBytes f x u = some v ∧ TpC (tpby x 8 s0).1 (tpby x 8 s0).2 v ∧ (∀ a j, a ≠ 110 → a ≠ 111 → gI v a j = gI u a j) ∧ (∀ a j, gK v a j = gK u a j) ∧ ∀ a j, gL v a j = gL u a j := by
  have z0 : (0 : Int32).toInt = 0 := rfl
  have z32 : (32 : Int32).toInt = 32 := rfl
  have z126 : (126 : Int32).toInt = 126 := rfl
  have zm8 : (-8 : Int32).toInt = -8 := rfl
  have n1200 : Nm (1200 : Int32) 1200 := rfl
  have loop : ∀ (k : Nat) (y : Int32) (m : Nat) (t : MT) (s : (Nat → Int32) × Nat), k ≤ 8 → y.toInt = 8 * (k : Int) - 8 → k < m → TpC s.1 s.2 t → (∀ a j, a ≠ 110 → a ≠ 111 → gI t a j = gI u a j) → (∀ a j, gK t a j = gK u a j) → (∀ a j, gL t a j = gL u a j) → ∃ v, B_X6_addBytes_3 f m x y t = some v ∧ TpC (tpby x k s).1 (tpby x k s).2 v ∧ (∀ a j, a ≠ 110 → a ≠ 111 → gI v a j = gI u a j) ∧ (∀ a j, gK v a j = gK u a j) ∧ ∀ a j, gL v a j = gL u a j := by
    intro k
    induction k with
    | zero =>
      intro y m t s hk hy hm hTt h1 h2 h3
      obtain ⟨m, rfl⟩ : ∃ m', m = m' + 1 := ⟨m - 1, by omega⟩
      exact ⟨t, by rw [B_X6_addBytes_3, if_pos (i_lt.mpr (by omega))], hTt, h1, h2, h3⟩
    | succ k ih =>
      intro y m t s hk hy hm hTt h1 h2 h3
      obtain ⟨m, rfl⟩ : ∃ m', m = m' + 1 := ⟨m - 1, by omega⟩
      have ny : y = Int32.ofNat (8 * k) := by
        have : Nm y (8 * k) := by show y.toInt = ((8 * k : Nat) : Int); omega
        exact this.inj (Nm.of (by omega))
      have y8 : (y + -8).toInt = 8 * (k : Int) - 8 := by rw [i_add (by omega) (by omega)]; omega
      have bi := by_in (((x.toUInt64 >>> (y.toInt64.toUInt64 &&& Int64.toUInt64 63)).toInt64).toInt32)
      have eb : byC x (Int32.ofNat (8 * k)) = ((((x.toUInt64 >>> (y.toInt64.toUInt64 &&& Int64.toUInt64 63)).toInt64)).toInt32 &&& (255 : Int32)) := by rw [ny]; rfl
      rw [B_X6_addBytes_3, if_neg (fun c => by have := i_lt.mp c; omega)]
      show ∃ v, (if ((((x.toUInt64 >>> (y.toInt64.toUInt64 &&& Int64.toUInt64 63)).toInt64)).toInt32 &&& (255 : Int32)) = 10 then _ else _) = _ ∧ _
      rw [← eb] at bi ⊢
      rw [tpby]
      generalize byC x (Int32.ofNat (8 * k)) = b at bi
      have skip : tpsh s b = s → ∃ v, B_X6_addBytes_68 f (fun x1' x3' u' => B_X6_addBytes_3 f m x1' x3' u') x y t = some v ∧ TpC (tpby x k (tpsh s b)).1 (tpby x k (tpsh s b)).2 v ∧ (∀ a j, a ≠ 110 → a ≠ 111 → gI v a j = gI u a j) ∧ (∀ a j, gK v a j = gK u a j) ∧ ∀ a j, gL v a j = gL u a j := by
        intro e
        rw [B_X6_addBytes_68, e]
        exact ih (y + -8) m t s (by omega) y8 (by omega) hTt h1 h2 h3
      have put : (b = 10 ∨ (32 ≤ b.toInt ∧ b.toInt ≤ 126)) → ∃ v, B_X6_addBytes_36 f (fun x1' x3' u' => B_X6_addBytes_3 f m x1' x3' u') x y b t = some v ∧ TpC (tpby x k (tpsh s b)).1 (tpby x k (tpsh s b)).2 v ∧ (∀ a j, a ≠ 110 → a ≠ 111 → gI v a j = gI u a j) ∧ (∀ a j, gK v a j = gK u a j) ∧ ∀ a j, gL v a j = gL u a j := by
        intro hb
        obtain ⟨t1, t2, t3⟩ := hTt
        rw [B_X6_addBytes_36]
        by_cases c : s.2 < 1200
        · rw [if_neg (fun e => by have := (n1200.le t2).mp e; omega), ck_p (t2.ix c), t2.nat, nar_by bi.1 bi.2, tpsh, if_pos ⟨hb, c⟩, B_X6_addBytes_68]
          show ∃ v, B_X6_addBytes_3 f m x (y + -8) (sI (sI t 111 s.2 b) 110 1 (gI (sI t 111 s.2 b) 110 1 + 1)) = _ ∧ _
          refine ih (y + -8) m _ (upf s.1 s.2 b, s.2 + 1) (by omega) y8 (by omega) ⟨c, ?_, fun j hj => ?_⟩ (fun a j e1 e2 => by rw [g_ne _ _ _ _ e1, g_ne _ _ _ _ e2]; exact h1 _ _ e1 e2) h2 h3
          · rw [g_same, g_ne _ _ _ _ (by decide)]; exact t2.succ (by omega)
          · have hj : j < s.2 + 1 := hj
            show gI (sI (sI t 111 s.2 b) 110 1 (gI (sI t 111 s.2 b) 110 1 + 1)) 111 j = upf s.1 s.2 b j
            rw [g_ne _ _ _ _ (by decide), g_at]
            unfold upf
            by_cases e : j = s.2
            · rw [if_pos e, if_pos e]
            · rw [if_neg e, if_neg e]; exact t3 j (by omega)
        · rw [if_pos ((n1200.le t2).mpr (by omega))]
          exact skip (by rw [tpsh, if_neg (fun e => c e.2)])
      by_cases c1 : b = 10
      · rw [if_pos c1]; exact put (Or.inl c1)
      · rw [if_neg c1, c_isIn, z32, z126]
        by_cases c2 : 32 ≤ b.toInt ∧ b.toInt ≤ 126
        · rw [b2i_t c2]; exact put (Or.inr c2)
        · rw [b2i_f c2]; exact skip (by rw [tpsh, if_neg (fun e => e.1.elim c1 c2)])
  rw [F_X6_addBytes]
  exact loop 8 56 f u s0 (by omega) rfl (by omega) hT (fun _ _ _ _ => rfl) (fun _ _ => rfl) (fun _ _ => rfl)
theorem r_layB {u : MT} {x : Int64} {s0 : (Nat → Int32) × Nat} (hf : 1300 < f) (hT : TpR0 s0.1 s0.2 u) : ∃ v, F_X12_lay f x u = some v ∧ TpR0 (tpby x 8 s0).1 (tpby x 8 s0).2 v ∧ (∀ a j, (a ≠ 167 ∨ j ≠ 2) → a ≠ 168 → gI v a j = gI u a j) ∧ (∀ a j, gK v a j = gK u a j) ∧ ∀ a j, gL v a j = gL u a j := by
  have z0 : (0 : Int32).toInt = 0 := rfl
  have z32 : (32 : Int32).toInt = 32 := rfl
  have z126 : (126 : Int32).toInt = 126 := rfl
  have zm8 : (-8 : Int32).toInt = -8 := rfl
  have n1200 : Nm (1200 : Int32) 1200 := rfl
  have loop : ∀ (k : Nat) (y : Int32) (m : Nat) (t : MT) (s : (Nat → Int32) × Nat), k ≤ 8 → y.toInt = 8 * (k : Int) - 8 → k < m → TpR0 s.1 s.2 t → (∀ a j, (a ≠ 167 ∨ j ≠ 2) → a ≠ 168 → gI t a j = gI u a j) → (∀ a j, gK t a j = gK u a j) → (∀ a j, gL t a j = gL u a j) → ∃ v, B_X12_lay_3 f m x y t = some v ∧ TpR0 (tpby x k s).1 (tpby x k s).2 v ∧ (∀ a j, (a ≠ 167 ∨ j ≠ 2) → a ≠ 168 → gI v a j = gI u a j) ∧ (∀ a j, gK v a j = gK u a j) ∧ ∀ a j, gL v a j = gL u a j := by
    intro k
    induction k with
    | zero =>
      intro y m t s hk hy hm hTt h1 h2 h3
      obtain ⟨m, rfl⟩ : ∃ m', m = m' + 1 := ⟨m - 1, by omega⟩
      exact ⟨t, by rw [B_X12_lay_3, if_pos (i_lt.mpr (by omega))], hTt, h1, h2, h3⟩
    | succ k ih =>
      intro y m t s hk hy hm hTt h1 h2 h3
      obtain ⟨m, rfl⟩ : ∃ m', m = m' + 1 := ⟨m - 1, by omega⟩
      have ny : y = Int32.ofNat (8 * k) := by
        have : Nm y (8 * k) := by show y.toInt = ((8 * k : Nat) : Int); omega
        exact this.inj (Nm.of (by omega))
      have y8 : (y + -8).toInt = 8 * (k : Int) - 8 := by rw [i_add (by omega) (by omega)]; omega
      have eb : byC x (Int32.ofNat (8 * k)) = (((x >>> (y.toInt64 &&& 63))).toInt32 &&& (255 : Int32)) := by rw [by_eq x (by omega), ny]; rfl
      rw [B_X12_lay_3, if_neg (fun c => by have := i_lt.mp c; omega)]
      show ∃ v, (if (((x >>> (y.toInt64 &&& 63))).toInt32 &&& (255 : Int32)) = 10 then _ else _) = _ ∧ _
      rw [← eb]
      rw [tpby]
      generalize byC x (Int32.ofNat (8 * k)) = b
      have skip : tpsh s b = s → ∃ v, B_X12_lay_69 f (fun x1' x3' u' => B_X12_lay_3 f m x1' x3' u') x y t = some v ∧ TpR0 (tpby x k (tpsh s b)).1 (tpby x k (tpsh s b)).2 v ∧ (∀ a j, (a ≠ 167 ∨ j ≠ 2) → a ≠ 168 → gI v a j = gI u a j) ∧ (∀ a j, gK v a j = gK u a j) ∧ ∀ a j, gL v a j = gL u a j := by
        intro e
        rw [B_X12_lay_69, e]
        exact ih (y + -8) m t s (by omega) y8 (by omega) hTt h1 h2 h3
      have put : (b = 10 ∨ (32 ≤ b.toInt ∧ b.toInt ≤ 126)) → ∃ v, B_X12_lay_38 f (fun x1' x3' u' => B_X12_lay_3 f m x1' x3' u') x y b t = some v ∧ TpR0 (tpby x k (tpsh s b)).1 (tpby x k (tpsh s b)).2 v ∧ (∀ a j, (a ≠ 167 ∨ j ≠ 2) → a ≠ 168 → gI v a j = gI u a j) ∧ (∀ a j, gK v a j = gK u a j) ∧ ∀ a j, gL v a j = gL u a j := by
        intro hb
        obtain ⟨t1, t2, t3⟩ := hTt
        rw [B_X12_lay_38]
        by_cases c : s.2 < 1200
        · rw [if_neg (fun e => by have := (n1200.le t2).mp e; omega), ck_p (t2.ix c), t2.nat, tpsh, if_pos ⟨hb, c⟩, B_X12_lay_69]
          show ∃ v, B_X12_lay_3 f m x (y + -8) (sI (sI t 168 s.2 b) 167 2 (gI (sI t 168 s.2 b) 167 2 + 1)) = _ ∧ _
          refine ih (y + -8) m _ (upf s.1 s.2 b, s.2 + 1) (by omega) y8 (by omega) ⟨c, ?_, fun j hj => ?_⟩ (fun a j e1 e2 => ?_) h2 h3
          · rw [g_same, g_ne _ _ _ _ (by decide)]; exact t2.succ (by omega)
          · have hj : j < s.2 + 1 := hj
            show gI (sI (sI t 168 s.2 b) 167 2 (gI (sI t 168 s.2 b) 167 2 + 1)) 168 j = upf s.1 s.2 b j
            rw [g_ne _ _ _ _ (by decide), g_at]
            unfold upf
            by_cases e : j = s.2
            · rw [if_pos e, if_pos e]
            · rw [if_neg e, if_neg e]; exact t3 j (by omega)
          · rw [← h1 a j e1 e2]
            by_cases e : a = 167
            · subst e; rw [g_nk _ _ _ (by omega), g_ne _ _ _ _ e2]
            · rw [g_ne _ _ _ _ e, g_ne _ _ _ _ e2]
        · rw [if_pos ((n1200.le t2).mpr (by omega))]
          exact skip (by rw [tpsh, if_neg (fun e => c e.2)])
      by_cases c1 : b = 10
      · rw [if_pos c1]; exact put (Or.inl c1)
      rw [if_neg c1]
      by_cases c2 : b < 32
      · rw [if_pos c2]; exact skip (by rw [tpsh, if_neg (fun e => e.1.elim c1 (fun e2 => by have := i_lt.mp c2; omega))])
      rw [if_neg c2]
      by_cases c3 : 126 < b
      · rw [if_pos c3]; exact skip (by rw [tpsh, if_neg (fun e => e.1.elim c1 (fun e2 => by have := i_lt.mp c3; omega))])
      rw [if_neg c3]
      exact put (Or.inr ⟨by have := mt i_lt.mpr c2; omega, by have := mt i_lt.mpr c3; omega⟩)
  rw [F_X12_lay]
  exact loop 8 56 f u s0 (by omega) rfl (by omega) hT (fun _ _ _ _ => rfl) (fun _ _ => rfl) (fun _ _ => rfl)
end
