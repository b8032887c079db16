/-! ===== what both hold behind their constructors ===== -/
def Sx (a j : Nat) : Prop := (a = 100 ∧ j = 12) ∨ (a = 116 ∧ (j = 1 ∨ j = 2)) ∨ (a = 167 ∧ (j = 29 ∨ j = 30 ∨ j = 41))
def Zb (u : MT) : Prop := ∀ a j, ¬ Sx a j → gI u a j = 0
theorem Zb.nw {w : LT} {u : MT} (h : Zb u) : Zb (nwM w u) := by
  intro a j s
  show (if a = w.1 then (fun _ => (0 : Int32)) else u.1 a) j = 0
  split
  · rfl
  · exact h a j s
theorem Zb.put {u : MT} {a k : Nat} {v : Int32} (h : Zb u) (hs : Sx a k) : Zb (sI u a k v) := by
  intro b j s
  by_cases e : b = a
  · subst e
    rw [g_nk _ _ _ (fun e => s (by rw [e]; exact hs))]
    exact h b j s
  · rw [g_ne _ _ _ _ e]; exact h b j s
theorem Zb.putL {u : MT} {a k : Nat} {v : Int64} (h : Zb u) : Zb (sL u a k v) := h
theorem zb_Tx {b : Nat} : ∀ (n i : Nat) (w : LT) (u : MT), Zb u → Zb (TxL b n i w u).2 := by
  intro n
  induction n with
  | zero => intro i w u h; exact h
  | succ n ih => intro i w u h; exact ih _ _ _ h.nw
theorem zb_X2 {a0 : Nat} {w : LT} {u : MT} (h : Zb u) : Zb (F_X2_init a0 w u).2 := h.nw.nw
theorem zb_X4 {a0 : Nat} {w : LT} {u : MT} (h : Zb u) : Zb (F_X4_init a0 w u).2 := h.nw.nw.nw.nw.nw
theorem zb_X6 {a0 : Nat} {w : LT} {u : MT} (h : Zb u) : Zb (F_X6_init a0 w u).2 := h.nw
theorem zb_X3 {a0 : Nat} {w : LT} {u : MT} (h : Zb u) : Zb (F_X3_init a0 w u).2 := h.nw.nw.nw
theorem zb_X8 {a0 : Nat} {w : LT} {u : MT} (h : Zb u) : Zb (F_X8_init a0 w u).2 := h.nw
theorem zb_X0 {a0 : Nat} {w : LT} {u : MT} (h : Zb u) : Zb (F_X0_init a0 w u).2 := h.nw
theorem zb_X1 {a0 a1 a2 a3 a4 : Nat} {w : LT} {u : MT} (h : Zb u) : Zb (F_X1_init a0 a1 a2 a3 a4 w u).2 := h.nw.nw.nw.nw.nw
theorem zb_X10 {a1 : Nat} {x2 x3 : Int32} {w : LT} {u : MT} (h : Zb u) : Zb (F_X10_init 116 a1 x2 x3 w u).2 := (h.nw.nw.nw.nw.nw.nw.nw.nw.nw.nw.nw.put (Or.inr (Or.inl ⟨rfl, Or.inl rfl⟩))).put (Or.inr (Or.inl ⟨rfl, Or.inr rfl⟩))
theorem zb_X7 {a0 : Nat} {w : LT} {u : MT} (h : Zb u) : Zb (F_X7_init a0 w u).2 := zb_Tx _ _ _ _ h.nw.nw
theorem zb_GA {x1 x2 : Int32} {u : MT} (h : Zb u) : Zb (GA0 x1 x2 u) :=
  (zb_X7 (zb_X8 (zb_X0 (zb_X1 (zb_X8 (zb_X10 (zb_X3 (zb_X6 (zb_X4 (zb_X2 h.nw).nw).nw).nw).nw).nw).nw).nw).nw).nw).put (Or.inl ⟨rfl, rfl⟩)
theorem zb_X12 {x1 x2 : Int32} {w : LT} {u : MT} (h : Zb u) : Zb (F_X12_init 167 x1 x2 w u).2 := (((h.nw.nw.nw.nw.nw.putL.putL.putL.putL.putL.putL.putL.putL.putL.putL.putL.putL.putL.putL.putL.putL.putL.putL.putL.putL.putL.putL.putL.putL.nw.nw.nw.nw.nw.nw.nw.nw.nw.nw.nw.nw.nw.nw.nw.nw.nw.nw.nw.nw.nw.nw.nw.put (Or.inr (Or.inr ⟨rfl, Or.inr (Or.inr rfl)⟩))).nw.nw.nw.nw.nw.nw.nw.nw.nw.nw.nw.nw.nw.nw.nw.nw.nw.nw.nw.nw.put (Or.inr (Or.inr ⟨rfl, Or.inl rfl⟩))).put (Or.inr (Or.inr ⟨rfl, Or.inr (Or.inl rfl)⟩)))
def Yv (a j : Nat) (v : Int32) (u : MT) : Prop := gI u a j = v
theorem Yv.self {a j : Nat} {v : Int32} {u : MT} : Yv a j v (sI u a j v) := g_same _ _ _ _
theorem Yv.nw {a j : Nat} {v : Int32} {w : LT} {u : MT} (h : Yv a j v u) (hw : a < w.1) : Yv a j v (nwM w u) := by
  show (if a = w.1 then (fun _ => (0 : Int32)) else u.1 a) j = v
  rw [if_neg (by omega)]; exact h
theorem Yv.put {a j : Nat} {v : Int32} {b k : Nat} {y : Int32} {u : MT} (h : Yv a j v u) (hn : a ≠ b ∨ j ≠ k) : Yv a j v (sI u b k y) := by
  by_cases e : a = b
  · subst e
    show gI (sI u a k y) a j = v
    rw [g_nk _ _ _ (by omega)]; exact h
  · show gI (sI u b k y) a j = v
    rw [g_ne _ _ _ _ e]; exact h
theorem Yv.putL {a j : Nat} {v : Int32} {b k : Nat} {y : Int64} {u : MT} (h : Yv a j v u) : Yv a j v (sL u b k y) := h
def Tw (n : Nat) (u : MT) : Prop := ∀ k, k < n → gL u 172 k = wv.getD k 0
theorem Tw.z {u : MT} : Tw 0 u := fun k hk => absurd hk (by omega)
theorem Tw.put {n : Nat} {v : Int64} {u : MT} (h : Tw n u) (hv : wv.getD n 0 = v) : Tw (n + 1) (sL u 172 n v) := by
  intro k hk
  show up2 u.2.1 172 n v 172 k = _
  rw [up2_at]
  by_cases e : k = n
  · subst e; rw [if_pos rfl, hv]
  · rw [if_neg e]; exact h k (by omega)
theorem Tw.nw {n : Nat} {w : LT} {u : MT} (h : Tw n u) (hw : 172 < w.1) : Tw n (nwM w u) := by
  intro k hk
  show (if 172 = w.1 then (fun _ => (0 : Int64)) else u.2.1 172) k = _
  rw [if_neg (by omega)]; exact h k hk
theorem Tw.pI {n : Nat} {u : MT} {a k : Nat} {v : Int32} (h : Tw n u) : Tw n (sI u a k v) := h
def WN : LT := nwL WA10 12 0
set_option maxRecDepth 100000 in
theorem y41_X12 {x1 x2 : Int32} {u : MT} : Yv 167 41 (-1) (F_X12_init 167 x1 x2 WN u).2 := (((((((((((((((((((((((Yv.self).nw (Nat.le_of_ble_eq_true rfl)).nw (Nat.le_of_ble_eq_true rfl)).nw (Nat.le_of_ble_eq_true rfl)).nw (Nat.le_of_ble_eq_true rfl)).nw (Nat.le_of_ble_eq_true rfl)).nw (Nat.le_of_ble_eq_true rfl)).nw (Nat.le_of_ble_eq_true rfl)).nw (Nat.le_of_ble_eq_true rfl)).nw (Nat.le_of_ble_eq_true rfl)).nw (Nat.le_of_ble_eq_true rfl)).nw (Nat.le_of_ble_eq_true rfl)).nw (Nat.le_of_ble_eq_true rfl)).nw (Nat.le_of_ble_eq_true rfl)).nw (Nat.le_of_ble_eq_true rfl)).nw (Nat.le_of_ble_eq_true rfl)).nw (Nat.le_of_ble_eq_true rfl)).nw (Nat.le_of_ble_eq_true rfl)).nw (Nat.le_of_ble_eq_true rfl)).nw (Nat.le_of_ble_eq_true rfl)).nw (Nat.le_of_ble_eq_true rfl)).put (by decide)).put (by decide))
theorem y29_X12 {x1 x2 : Int32} {w : LT} {u : MT} : Yv 167 29 (capF x1) (F_X12_init 167 x1 x2 w u).2 := Yv.self.put (by decide)
theorem y30_X12 {x1 x2 : Int32} {w : LT} {u : MT} : Yv 167 30 (lossF x2) (F_X12_init 167 x1 x2 w u).2 := Yv.self
set_option maxRecDepth 100000 in
theorem yk_X12_100 {j : Nat} {v : Int32} {x1 x2 : Int32} {u : MT} (h : Yv 100 j v u) : Yv 100 j v (F_X12_init 167 x1 x2 WN u).2 := (((((((((((((((((((((((((((((((((((((((((((((((((((h.nw (Nat.le_of_ble_eq_true rfl)).nw (Nat.le_of_ble_eq_true rfl)).nw (Nat.le_of_ble_eq_true rfl)).nw (Nat.le_of_ble_eq_true rfl)).nw (Nat.le_of_ble_eq_true rfl)).putL.putL.putL.putL.putL.putL.putL.putL.putL.putL.putL.putL.putL.putL.putL.putL.putL.putL.putL.putL.putL.putL.putL.putL.nw (Nat.le_of_ble_eq_true rfl)).nw (Nat.le_of_ble_eq_true rfl)).nw (Nat.le_of_ble_eq_true rfl)).nw (Nat.le_of_ble_eq_true rfl)).nw (Nat.le_of_ble_eq_true rfl)).nw (Nat.le_of_ble_eq_true rfl)).nw (Nat.le_of_ble_eq_true rfl)).nw (Nat.le_of_ble_eq_true rfl)).nw (Nat.le_of_ble_eq_true rfl)).nw (Nat.le_of_ble_eq_true rfl)).nw (Nat.le_of_ble_eq_true rfl)).nw (Nat.le_of_ble_eq_true rfl)).nw (Nat.le_of_ble_eq_true rfl)).nw (Nat.le_of_ble_eq_true rfl)).nw (Nat.le_of_ble_eq_true rfl)).nw (Nat.le_of_ble_eq_true rfl)).nw (Nat.le_of_ble_eq_true rfl)).nw (Nat.le_of_ble_eq_true rfl)).nw (Nat.le_of_ble_eq_true rfl)).nw (Nat.le_of_ble_eq_true rfl)).nw (Nat.le_of_ble_eq_true rfl)).nw (Nat.le_of_ble_eq_true rfl)).nw (Nat.le_of_ble_eq_true rfl)).put (Or.inl (by decide))).nw (Nat.le_of_ble_eq_true rfl)).nw (Nat.le_of_ble_eq_true rfl)).nw (Nat.le_of_ble_eq_true rfl)).nw (Nat.le_of_ble_eq_true rfl)).nw (Nat.le_of_ble_eq_true rfl)).nw (Nat.le_of_ble_eq_true rfl)).nw (Nat.le_of_ble_eq_true rfl)).nw (Nat.le_of_ble_eq_true rfl)).nw (Nat.le_of_ble_eq_true rfl)).nw (Nat.le_of_ble_eq_true rfl)).nw (Nat.le_of_ble_eq_true rfl)).nw (Nat.le_of_ble_eq_true rfl)).nw (Nat.le_of_ble_eq_true rfl)).nw (Nat.le_of_ble_eq_true rfl)).nw (Nat.le_of_ble_eq_true rfl)).nw (Nat.le_of_ble_eq_true rfl)).nw (Nat.le_of_ble_eq_true rfl)).nw (Nat.le_of_ble_eq_true rfl)).nw (Nat.le_of_ble_eq_true rfl)).nw (Nat.le_of_ble_eq_true rfl)).put (Or.inl (by decide))).put (Or.inl (by decide)))
set_option maxRecDepth 100000 in
theorem yk_X12_116 {j : Nat} {v : Int32} {x1 x2 : Int32} {u : MT} (h : Yv 116 j v u) : Yv 116 j v (F_X12_init 167 x1 x2 WN u).2 := (((((((((((((((((((((((((((((((((((((((((((((((((((h.nw (Nat.le_of_ble_eq_true rfl)).nw (Nat.le_of_ble_eq_true rfl)).nw (Nat.le_of_ble_eq_true rfl)).nw (Nat.le_of_ble_eq_true rfl)).nw (Nat.le_of_ble_eq_true rfl)).putL.putL.putL.putL.putL.putL.putL.putL.putL.putL.putL.putL.putL.putL.putL.putL.putL.putL.putL.putL.putL.putL.putL.putL.nw (Nat.le_of_ble_eq_true rfl)).nw (Nat.le_of_ble_eq_true rfl)).nw (Nat.le_of_ble_eq_true rfl)).nw (Nat.le_of_ble_eq_true rfl)).nw (Nat.le_of_ble_eq_true rfl)).nw (Nat.le_of_ble_eq_true rfl)).nw (Nat.le_of_ble_eq_true rfl)).nw (Nat.le_of_ble_eq_true rfl)).nw (Nat.le_of_ble_eq_true rfl)).nw (Nat.le_of_ble_eq_true rfl)).nw (Nat.le_of_ble_eq_true rfl)).nw (Nat.le_of_ble_eq_true rfl)).nw (Nat.le_of_ble_eq_true rfl)).nw (Nat.le_of_ble_eq_true rfl)).nw (Nat.le_of_ble_eq_true rfl)).nw (Nat.le_of_ble_eq_true rfl)).nw (Nat.le_of_ble_eq_true rfl)).nw (Nat.le_of_ble_eq_true rfl)).nw (Nat.le_of_ble_eq_true rfl)).nw (Nat.le_of_ble_eq_true rfl)).nw (Nat.le_of_ble_eq_true rfl)).nw (Nat.le_of_ble_eq_true rfl)).nw (Nat.le_of_ble_eq_true rfl)).put (Or.inl (by decide))).nw (Nat.le_of_ble_eq_true rfl)).nw (Nat.le_of_ble_eq_true rfl)).nw (Nat.le_of_ble_eq_true rfl)).nw (Nat.le_of_ble_eq_true rfl)).nw (Nat.le_of_ble_eq_true rfl)).nw (Nat.le_of_ble_eq_true rfl)).nw (Nat.le_of_ble_eq_true rfl)).nw (Nat.le_of_ble_eq_true rfl)).nw (Nat.le_of_ble_eq_true rfl)).nw (Nat.le_of_ble_eq_true rfl)).nw (Nat.le_of_ble_eq_true rfl)).nw (Nat.le_of_ble_eq_true rfl)).nw (Nat.le_of_ble_eq_true rfl)).nw (Nat.le_of_ble_eq_true rfl)).nw (Nat.le_of_ble_eq_true rfl)).nw (Nat.le_of_ble_eq_true rfl)).nw (Nat.le_of_ble_eq_true rfl)).nw (Nat.le_of_ble_eq_true rfl)).nw (Nat.le_of_ble_eq_true rfl)).nw (Nat.le_of_ble_eq_true rfl)).put (Or.inl (by decide))).put (Or.inl (by decide)))
set_option maxRecDepth 100000 in
theorem tw_X12 {x1 x2 : Int32} {u : MT} : Tw 24 (F_X12_init 167 x1 x2 WN u).2 := (((((((((((((((((((((((((((((((((((((((((((((((((((((((((((((((((((((((Tw.z).put rfl).put rfl).put rfl).put rfl).put rfl).put rfl).put rfl).put rfl).put rfl).put rfl).put rfl).put rfl).put rfl).put rfl).put rfl).put rfl).put rfl).put rfl).put rfl).put rfl).put rfl).put rfl).put rfl).put rfl).nw (Nat.le_of_ble_eq_true rfl)).nw (Nat.le_of_ble_eq_true rfl)).nw (Nat.le_of_ble_eq_true rfl)).nw (Nat.le_of_ble_eq_true rfl)).nw (Nat.le_of_ble_eq_true rfl)).nw (Nat.le_of_ble_eq_true rfl)).nw (Nat.le_of_ble_eq_true rfl)).nw (Nat.le_of_ble_eq_true rfl)).nw (Nat.le_of_ble_eq_true rfl)).nw (Nat.le_of_ble_eq_true rfl)).nw (Nat.le_of_ble_eq_true rfl)).nw (Nat.le_of_ble_eq_true rfl)).nw (Nat.le_of_ble_eq_true rfl)).nw (Nat.le_of_ble_eq_true rfl)).nw (Nat.le_of_ble_eq_true rfl)).nw (Nat.le_of_ble_eq_true rfl)).nw (Nat.le_of_ble_eq_true rfl)).nw (Nat.le_of_ble_eq_true rfl)).nw (Nat.le_of_ble_eq_true rfl)).nw (Nat.le_of_ble_eq_true rfl)).nw (Nat.le_of_ble_eq_true rfl)).nw (Nat.le_of_ble_eq_true rfl)).nw (Nat.le_of_ble_eq_true rfl)).pI).nw (Nat.le_of_ble_eq_true rfl)).nw (Nat.le_of_ble_eq_true rfl)).nw (Nat.le_of_ble_eq_true rfl)).nw (Nat.le_of_ble_eq_true rfl)).nw (Nat.le_of_ble_eq_true rfl)).nw (Nat.le_of_ble_eq_true rfl)).nw (Nat.le_of_ble_eq_true rfl)).nw (Nat.le_of_ble_eq_true rfl)).nw (Nat.le_of_ble_eq_true rfl)).nw (Nat.le_of_ble_eq_true rfl)).nw (Nat.le_of_ble_eq_true rfl)).nw (Nat.le_of_ble_eq_true rfl)).nw (Nat.le_of_ble_eq_true rfl)).nw (Nat.le_of_ble_eq_true rfl)).nw (Nat.le_of_ble_eq_true rfl)).nw (Nat.le_of_ble_eq_true rfl)).nw (Nat.le_of_ble_eq_true rfl)).nw (Nat.le_of_ble_eq_true rfl)).nw (Nat.le_of_ble_eq_true rfl)).nw (Nat.le_of_ble_eq_true rfl)).pI).pI)
theorem lt116 {n : Nat} (h : Nat.ble 117 n = true) : 116 < n := Nat.le_of_ble_eq_true h
theorem yk_Tx {b a j : Nat} {v : Int32} : ∀ (n i : Nat) (w : LT) (u : MT), a < w.1 → Yv a j v u → Yv a j v (TxL b n i w u).2 := by
  intro n
  induction n with
  | zero => intro i w u _ h; exact h
  | succ n ih => intro i w u ha h; exact ih _ _ _ (show a < w.1 + 1 by omega) (h.nw ha)
section
variable {j : Nat} {v x1 x2 : Int32} {u : MT}
set_option maxRecDepth 100000
theorem yk_GA9 (h : Yv 116 j v u) : Yv 116 j v (GA9 x1 x2 u) := (yk_Tx _ _ _ _ (lt116 rfl) (((h.nw (lt116 rfl)).nw (lt116 rfl)).nw (lt116 rfl))).put (Or.inl (by decide))
theorem yk_GA8 (h : Yv 116 j v u) : Yv 116 j v (GA8 x1 x2 u) := yk_GA9 ((h.nw (lt116 rfl)).nw (lt116 rfl))
theorem yk_GA7 (h : Yv 116 j v u) : Yv 116 j v (GA7 x1 x2 u) := yk_GA8 ((h.nw (lt116 rfl)).nw (lt116 rfl))
theorem yk_GA6 (h : Yv 116 j v u) : Yv 116 j v (GA6 x1 x2 u) := yk_GA7 ((((((h.nw (lt116 rfl)).nw (lt116 rfl)).nw (lt116 rfl)).nw (lt116 rfl)).nw (lt116 rfl)).nw (lt116 rfl))
theorem yk_GA5 (h : Yv 116 j v u) : Yv 116 j v (GA5 x1 x2 u) := yk_GA6 ((h.nw (lt116 rfl)).nw (lt116 rfl))
theorem y1_GA4 : Yv 116 1 (capX x1) (GA4 x1 x2 u) := yk_GA5 (Yv.self.put (by decide))
theorem y2_GA4 : Yv 116 2 (lossX x2) (GA4 x1 x2 u) := yk_GA5 Yv.self
theorem y12_GA9 : Yv 100 12 (-1) (GA9 x1 x2 u) := Yv.self
end
