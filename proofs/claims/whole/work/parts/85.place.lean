/-! ===== the class's Book places readings ===== -/
/-- behind placeReadings: from W up to Q the last reading of just the quarter; all else stays -/
def Pl (b W Q R : Nat) (rh rq rd : Nat → Int32) (d : Int32) (u r : MT) : Prop :=
  (∀ (q h : Nat) (qI : Int32), Nm qI q → W ≤ q → q ≤ Q → h < 12 → gI r (b + 1) (q * 12 + h) = txC (lasR rh rq rd qI d h R)) ∧
  (∀ j, (j < W * 12 ∨ (Q + 1) * 12 ≤ j) → gI r (b + 1) j = gI u (b + 1) j) ∧
  ∀ a j, a ≠ b + 1 → gI r a j = gI u a j
section
variable {f : Nat}
theorem c_place {u : MT} {b ts W Q R n : Nat} {x d : Int32} {rh rq rd : Nat → Int32} (hf : 3000 < f) (hW : Nm (gI u b 5) W) (hx : Nm x Q) (hWQ : W ≤ Q) (hQ : Q < 240) (hd : gI u b 4 = d) (hn : n ≤ 12) (hR : Nm (gI u 104 5) R) (h4 : R ≤ 400) (hr : ∀ j, j < R → gI u 105 j = rh j ∧ gI u 106 j = rq j ∧ gI u 109 j = rd j) (hb : 109 ≤ b) (hv : ∀ j, j < R → ∃ h q, Nm (rh j) h ∧ h < n ∧ Nm (rq j) q ∧ q < 240) : Ok (F_X1_placeReadings f b ts x u) (Pl b W Q R rh rq rd d u) := by
  have n12 : Nm (12 : Int32) 12 := rfl
  have loop2 : ∀ (e k : Nat) (y : Int32) (m : Nat) (w : MT), k + e = R → Nm y k → e < m → Pl b W Q k rh rq rd d u w → Ok (B_X1_placeReadings_35 f b ts m x y w) (Pl b W Q R rh rq rd d u) := by
    intro e
    induction e with
    | zero =>
      intro k y m w hk hy hm hP
      obtain ⟨m, rfl⟩ : ∃ m', m = m' + 1 := ⟨m - 1, by omega⟩
      have hkR : k = R := by omega
      subst hkR
      rw [B_X1_placeReadings_35]
      refine Ok.t (by rw [hP.2.2 _ _ (by omega)]; exact (hR.le hy).mpr (Nat.le_refl _)) (Ok.some hP)
    | succ e ih =>
      intro k y m w hk hy hm hP
      obtain ⟨m, rfl⟩ : ∃ m', m = m' + 1 := ⟨m - 1, by omega⟩
      have hkR : k < R := by omega
      have i1 := fun w => ih (k + 1) (y + 1) m w (by omega) (hy.succ (by omega)) (by omega)
      obtain ⟨p1, p2, p3⟩ := hP
      obtain ⟨r1, r2, r3⟩ := hr k hkR
      obtain ⟨h', q', v1, v2, v3, v4⟩ := hv k hkR
      have keep : (∀ (q : Nat) (qI : Int32) (h : Nat), Nm qI q → W ≤ q → q ≤ Q → ¬ (rq k = qI ∧ rd k ≤ d ∧ (rh k).toInt = (h : Int))) → Pl b W Q (k + 1) rh rq rd d u w := fun c => ⟨fun q h qI a1 a2 a3 a4 => by rw [lasR, if_neg (c q qI h a1 a2 a3)]; exact p1 q h qI a1 a2 a3 a4, p2, p3⟩
      rw [B_X1_placeReadings_35]
      refine Ok.f (fun c => by rw [p3 _ _ (by omega)] at c; have := (hR.le hy).mp c; omega) (Ok.ck (hy.ix (by omega)) ?_)
      rw [hy.nat, p3 b 4 (by omega), p3 109 k (by omega), p3 106 k (by omega), p3 b 5 (by omega), r3, r2, hd]
      unfold B_X1_placeReadings_109
      refine Ok.ite (fun c => i1 w (keep (fun q qI h _ _ _ c' => by have := i_le.mp c'.2.1; have := i_lt.mp c; omega))) (fun c => Ok.bindE c_isIn ?_)
      have cd : rd k ≤ d := i_le.mpr (by have := mt i_lt.mpr c; omega)
      have eW : (gI u b 5).toInt = (W : Int) := hW
      have eQ : x.toInt = (Q : Int) := hx
      have eq' : (rq k).toInt = (q' : Int) := v3
      have eh' : (rh k).toInt = (h' : Int) := v1
      by_cases ci : (gI u b 5).toInt ≤ (rq k).toInt ∧ (rq k).toInt ≤ x.toInt
      · refine Ok.f (by rw [b2i_t ci]; exact (by decide : ¬ (1 : Int32) = 0)) ?_
        show Ok ((F_X1_cell f (gI w 105 k) (gI w 106 k) w).bind _) _
        rw [p3 105 k (by omega), p3 106 k (by omega), r1, r2, F_X1_cell]
        refine Ok.bindE rfl ?_
        have nc : Nm (rq k * 12 + rh k) (q' * 12 + h') := (v3.mul n12 (by omega)).add v1 (by omega)
        refine Ok.ck (nc.ix (by omega)) (i1 _ ?_)
        rw [nc.nat]
        refine ⟨fun q h qI a1 a2 a3 a4 => ?_, fun j hj => ?_, fun a j ha => ?_⟩
        · show gI (sI w (b + 1) (q' * 12 + h') y) (b + 1) _ = _
          rw [g_at, lasR]
          by_cases c2 : rq k = qI ∧ rd k ≤ d ∧ (rh k).toInt = (h : Int)
          · have e1 : q = q' := by have a1 : qI.toInt = (q : Int) := a1; rw [← c2.1] at a1; omega
            have e2 : h = h' := by have := c2.2.2; omega
            rw [if_pos (by rw [e1, e2]), if_pos c2]
            exact hy.inj (Nm.of (by omega))
          · have c3 : ¬ (q * 12 + h = q' * 12 + h') := fun c3 => c2 ⟨(v3.eq a1).mpr (by omega), cd, by omega⟩
            rw [if_neg c3, if_neg c2]; exact p1 q h qI a1 a2 a3 a4
        · show gI (sI w (b + 1) (q' * 12 + h') y) (b + 1) j = _
          rw [g_nk _ _ _ (by omega)]; exact p2 j hj
        · show gI (sI w (b + 1) (q' * 12 + h') y) a j = _
          rw [g_ne _ _ _ _ ha]; exact p3 a j ha
      · refine Ok.t (by rw [b2i, if_neg ci]) (i1 w (keep (fun q qI h a1 a2 a3 c' => ci ?_)))
        have a1 : qI.toInt = (q : Int) := a1
        rw [c'.1]; omega
  have loop1 : ∀ (e k : Nat) (y : Int32) (m : Nat) (w : MT), k + e = (Q + 1) * 12 → W * 12 ≤ k → Nm y k → e < m → (∀ j, gI w (b + 1) j = if W * 12 ≤ j ∧ j < k then -1 else gI u (b + 1) j) → (∀ a j, a ≠ b + 1 → gI w a j = gI u a j) → Ok (B_X1_placeReadings_9 f b ts m x y w) (Pl b W Q R rh rq rd d u) := by
    intro e
    induction e with
    | zero =>
      intro k y m w hk hWk hy hm h1 h2
      obtain ⟨m, rfl⟩ : ∃ m', m = m' + 1 := ⟨m - 1, by omega⟩
      rw [B_X1_placeReadings_9, F_X1_cell]
      refine Ok.bindE rfl ?_
      have nc : Nm ((x + 1) * 12 + 0) ((Q + 1) * 12 + 0) := ((hx.succ (by omega)).mul n12 (by omega)).add nm0 (by omega)
      refine Ok.t ((nc.le hy).mpr (by omega)) ?_
      refine loop2 R 0 0 f w (by omega) nm0 (by omega) ⟨fun q h qI _ a2 a3 a4 => ?_, fun j hj => ?_, h2⟩
      · rw [h1, if_pos ⟨by omega, by omega⟩, lasR]; rfl
      · rw [h1, if_neg (by omega)]
    | succ e ih =>
      intro k y m w hk hWk hy hm h1 h2
      obtain ⟨m, rfl⟩ : ∃ m', m = m' + 1 := ⟨m - 1, by omega⟩
      rw [B_X1_placeReadings_9, F_X1_cell]
      refine Ok.bindE rfl ?_
      have nc : Nm ((x + 1) * 12 + 0) ((Q + 1) * 12 + 0) := ((hx.succ (by omega)).mul n12 (by omega)).add nm0 (by omega)
      refine Ok.f (fun c => by have := (nc.le hy).mp c; omega) (Ok.ck (hy.ix (by omega)) ?_)
      rw [hy.nat]
      refine ih (k + 1) (y + 1) m _ (by omega) (by omega) (hy.succ (by omega)) (by omega) (fun j => ?_) (fun a j ha => ?_)
      · show gI (sI w (b + 1) k (-1)) (b + 1) j = _
        rw [g_at]
        by_cases c : j = k
        · rw [if_pos c, if_pos ⟨by omega, by omega⟩]
        · rw [if_neg c, h1]
          by_cases c2 : W * 12 ≤ j ∧ j < k
          · rw [if_pos c2, if_pos ⟨c2.1, by omega⟩]
          · rw [if_neg c2, if_neg (by omega)]
      · show gI (sI w (b + 1) k (-1)) a j = _
        rw [g_ne _ _ _ _ ha]; exact h2 a j ha
  rw [F_X1_placeReadings, F_X1_cell]
  refine Ok.bindE rfl ?_
  have nc : Nm (gI u b 5 * 12 + 0) (W * 12 + 0) := (hW.mul n12 (by omega)).add nm0 (by omega)
  refine loop1 ((Q + 1) * 12 - W * 12) (W * 12) _ f u (by omega) (by omega) nc (by omega) (fun j => ?_) (fun _ _ _ => rfl)
  rw [if_neg (by omega)]
end
