/-! ===== the class's Book brings a house in ===== -/
/-- the reading that counts: the quarter's own, else the one of the quarter ahead -/
def rdx (q : Nat) (o p : Option Nat) : Option Nat := match o with
  | some r => some r
  | none => if q = 0 then none else p
theorem txC_nn {r : Nat} (h : r < 400) : ¬ txC (some r) = -1 := fun e => by
  have h1 : Nm (Int32.ofNat r) r := Nm.of (by omega)
  have h1 : (Int32.ofNat r).toInt = (r : Int) := h1
  have e : Int32.ofNat r = -1 := e
  rw [e] at h1
  have : (-1 : Int32).toInt = -1 := rfl
  omega
section
variable {f : Nat}
theorem c_bwants {u : MT} {b ts c : Nat} {x : Int32} {o : Option Nat} {rw' : Nat → Int32} (hx : Nm x c) (hc : c < 2880) (ho : gI u (b + 1) c = txC o) (hv : ∀ r, o = some r → r < 400 ∧ gI u 107 r = rw' r) : F_X1_wants f b ts x u = some (ovr o rw' 0, u) := by
  rw [F_X1_wants, ck_p (hx.ix hc), hx.nat, ho]
  cases o with
  | none => rw [if_pos (show txC none = -1 from rfl)]; rfl
  | some r =>
    obtain ⟨v1, v2⟩ := hv r rfl
    have n1 : Nm (txC (some r)) r := Nm.of (by omega)
    rw [if_neg (txC_nn v1), ck_p (n1.ix v1), n1.nat, v2]; rfl
theorem c_bgives {u : MT} {b ts c : Nat} {x : Int32} {o : Option Nat} {rg : Nat → Int32} (hx : Nm x c) (hc : c < 2880) (ho : gI u (b + 1) c = txC o) (hv : ∀ r, o = some r → r < 400 ∧ gI u 108 r = rg r) : F_X1_gives f b ts x u = some (ovr o rg 0, u) := by
  rw [F_X1_gives, ck_p (hx.ix hc), hx.nat, ho]
  cases o with
  | none => rw [if_pos (show txC none = -1 from rfl)]; rfl
  | some r =>
    obtain ⟨v1, v2⟩ := hv r rfl
    have n1 : Nm (txC (some r)) r := Nm.of (by omega)
    rw [if_neg (txC_nn v1), ck_p (n1.ix v1), n1.nat, v2]; rfl
theorem c_bk35 {v : MT} {b ts q h : Nat} {x1 x2 x3 : Int32} {o : Option Nat} {rw' rg : Nat → Int32} (hx2 : Nm x2 q) (hx3 : Nm x3 (q * 12 + h)) (hh : h < 12) (hq : q < 240) (ho : gI v (b + 1) (q * 12 + h) = txC o) (hv : ∀ r, o = some r → r < 400 ∧ gI v 107 r = rw' r ∧ gI v 108 r = rg r) : B_X1_bringIn_35 f b ts x1 x2 x3 v = F_X10_bringIn f x1 (ovr o rw' 0) (ovr o rg 0) (if q % 24 = 0 then 0 else gI v (b + 4) (q * 12 + h - 12)) v := by
  have k55 : ∀ s, B_X1_bringIn_55 f b ts x1 x3 s v = F_X10_bringIn f x1 (ovr o rw' 0) (ovr o rg 0) s v := by
    intro s
    rw [B_X1_bringIn_55, c_bwants hx3 (by omega) ho (fun r e => ⟨(hv r e).1, (hv r e).2.1⟩)]
    show (F_X1_gives f b ts x3 v).bind _ = _
    rw [c_bgives hx3 (by omega) ho (fun r e => ⟨(hv r e).1, (hv r e).2.2⟩)]
    show (F_X10_bringIn f x1 (ovr o rw' 0) (ovr o rg 0) s v).bind (fun r => some r) = _
    cases F_X10_bringIn f x1 (ovr o rw' 0) (ovr o rg 0) s v <;> rfl
  have nm := hx2.mod (show Nm (24 : Int32) 24 from rfl)
  rw [B_X1_bringIn_35]
  by_cases c : q % 24 = 0
  · rw [if_pos ((nm.eq nm0).mpr c), if_pos c, k55]
  · have n12 : Nm (x3 - 12) (q * 12 + h - 12) := hx3.sub (show Nm (12 : Int32) 12 from rfl) (by omega)
    rw [if_neg (fun e => c ((nm.eq nm0).mp e)), if_neg c, ck_p (n12.ix (by omega)), n12.nat, k55]
theorem c_bkbring {u : MT} {b ts q h : Nat} {x1 x2 : Int32} {o p : Option Nat} {rw' rg : Nat → Int32} (hx1 : Nm x1 h) (hh : h < 12) (hx2 : Nm x2 q) (hq : q < 240) (hb : 127 < b) (ho : gI u (b + 1) (q * 12 + h) = txC o) (hp : 0 < q → gI u (b + 1) (q * 12 + h - 12) = txC p) (hv : ∀ r, (o = some r ∨ p = some r) → r < 400 ∧ gI u 107 r = rw' r ∧ gI u 108 r = rg r) :
    ∃ v, F_X1_bringIn f b ts x1 x2 u = F_X10_bringIn f x1 (ovr (rdx q o p) rw' 0) (ovr (rdx q o p) rg 0) (if q % 24 = 0 then 0 else gI u (b + 4) (q * 12 + h - 12)) v ∧ gI v (b + 1) (q * 12 + h) = txC (rdx q o p) ∧ ∀ a j, (a ≠ b + 1 ∨ j ≠ q * 12 + h) → gI v a j = gI u a j := by
  have nc : Nm (x2 * 12 + x1) (q * 12 + h) := (hx2.mul (show Nm (12 : Int32) 12 from rfl) (by omega)).add hx1 (by omega)
  rw [F_X1_bringIn, F_X1_cell]
  show ∃ v, ck (ixo (x2 * 12 + x1) 2880) _ = _ ∧ _
  rw [ck_p (nc.ix (by omega))]
  show ∃ v, (if gI u (b + 1) (x2 * 12 + x1).toNatClampNeg = -1 then _ else _) = _ ∧ _
  rw [nc.nat, ho]
  cases o with
  | some r =>
    refine ⟨u, ?_, ho, fun _ _ _ => rfl⟩
    rw [if_neg (txC_nn (hv r (Or.inl rfl)).1)]
    exact c_bk35 hx2 nc hh hq ho (fun r' e => hv r' (Or.inl e))
  | none =>
    rw [if_pos (show txC none = -1 from rfl)]
    by_cases c : q = 0
    · refine ⟨u, ?_, by rw [rdx, if_pos c]; exact ho, fun _ _ _ => rfl⟩
      rw [if_pos ((hx2.le nm0).mpr (by omega)), rdx, if_pos c]
      exact c_bk35 hx2 nc hh hq ho (fun r' e => by cases e)
    · have n12 : Nm (x2 * 12 + x1 - 12) (q * 12 + h - 12) := nc.sub (show Nm (12 : Int32) 12 from rfl) (by omega)
      refine ⟨sI u (b + 1) (q * 12 + h) (txC p), ?_, by rw [g_same, rdx, if_neg c], fun a j e => ?_⟩
      · rw [if_neg (fun e => c (by have := (hx2.le nm0).mp e; omega)), ck_p (n12.ix (by omega)), rdx, if_neg c, n12.nat, hp (by omega)]
        rw [c_bk35 (o := p) (rw' := rw') (rg := rg) hx2 nc hh hq (g_same _ _ _ _) (fun r' e => by rw [g_ne _ _ _ _ (by omega), g_ne _ _ _ _ (by omega)]; exact hv r' (Or.inr e)), g_ne _ _ _ _ (by omega)]
      · by_cases e2 : a = b + 1
        · subst e2; rw [g_nk _ _ _ (e.resolve_left (fun e => e rfl))]
        · rw [g_ne _ _ _ _ e2]
end
