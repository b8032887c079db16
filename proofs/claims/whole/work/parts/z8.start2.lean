/-! ===== both are alike at first ===== -/
def U0 (x1 x2 : Int32) : MT := nwM WM (F_X12_init 167 x1 x2 WN (nwM WA10 (GA0 x1 x2 (nwM w00 z0)))).2
def W0 : LT := nwL WM 21 1
theorem capXF (x : Int32) : capX x = capF x := by
  have z0 : (0 : Int32).toInt = 0 := rfl
  have z1 : (1000000 : Int32).toInt = 1000000 := rfl
  unfold capX capF inF
  by_cases h : x < 0
  · rw [if_pos h, if_pos h, if_pos rfl]
  · rw [if_neg h, if_neg h]
    by_cases h2 : (1000000 : Int32) < x
    · rw [if_pos h2, if_pos rfl, if_neg (fun e => by have := i_lt.mp h2; have := i_le.mp e; omega)]
    · rw [if_neg h2, if_neg (by decide), if_pos (i_le.mpr (by have := mt i_lt.mpr h2; omega))]
theorem lossXF (x : Int32) : lossX x = lossF x := by
  have z0 : (0 : Int32).toInt = 0 := rfl
  have z1 : (500 : Int32).toInt = 500 := rfl
  unfold lossX lossF inF
  by_cases h : x < 0
  · rw [if_pos h, if_pos h, if_pos rfl]
  · rw [if_neg h, if_neg h]
    by_cases h2 : (500 : Int32) < x
    · rw [if_pos h2, if_pos rfl, if_neg (fun e => by have := i_lt.mp h2; have := i_le.mp e; omega)]
    · rw [if_neg h2, if_neg (by decide), if_pos (i_le.mpr (by have := mt i_lt.mpr h2; omega))]
theorem capF_b (x : Int32) : 0 ≤ (capF x).toInt ∧ (capF x).toInt ≤ 1000000 := by
  have z0 : (0 : Int32).toInt = 0 := rfl
  have z1 : (1000000 : Int32).toInt = 1000000 := rfl
  have z2 : (1000 : Int32).toInt = 1000 := rfl
  unfold capF
  split
  · omega
  · rename_i h
    have := mt i_lt.mpr h
    split
    · rename_i h2
      have := i_le.mp h2
      omega
    · omega
theorem lossF_b (x : Int32) : 0 ≤ (lossF x).toInt ∧ (lossF x).toInt ≤ 500 := by
  have z0 : (0 : Int32).toInt = 0 := rfl
  have z1 : (500 : Int32).toInt = 500 := rfl
  unfold lossF
  split
  · omega
  · rename_i h
    have := mt i_lt.mpr h
    split
    · rename_i h2
      have := i_le.mp h2
      omega
    · omega
def V00 (x1 x2 : Int32) : VD := (0, 0, fun _ => 0, fun _ => 0, fun _ => 0, fun _ => 0, fun _ => 0, fun _ => 0, fun _ => 0, capF x1, lossF x2)
def X00 : XD := (0, fun _ => 0, fun _ => 0, fun _ => [], fun _ => 0)
def A00 (x1 x2 : Int32) : AS := (V00 x1 x2, X00, X00, 0, -1, fun _ => 0, 0, 0, fun _ => 0)
theorem zb_z0 : Zb z0 := fun _ _ _ => rfl
theorem zb_U0 {x1 x2 : Int32} : Zb (U0 x1 x2) := (zb_X12 (zb_GA zb_z0.nw).nw).nw
theorem Zb.n {u : MT} (h : Zb u) {a j : Nat} (hs : ¬ Sx a j) : Nm (gI u a j) 0 := by
  rw [h a j hs]; rfl
theorem WA10_n : WA10.1 = 167 := by decide +kernel
section
variable {x1 x2 : Int32}
theorem u0_29 : gI (U0 x1 x2) 167 29 = capF x1 := Yv.nw y29_X12 (by rw [WM_n]; decide)
theorem u0_30 : gI (U0 x1 x2) 167 30 = lossF x2 := Yv.nw y30_X12 (by rw [WM_n]; decide)
theorem u0_41 : gI (U0 x1 x2) 167 41 = -1 := Yv.nw y41_X12 (by rw [WM_n]; decide)
theorem u0_c : gI (U0 x1 x2) 116 1 = capF x1 := by
  have h : Yv 116 1 (capX x1) (U0 x1 x2) := Yv.nw (yk_X12_116 (Yv.nw y1_GA4 (by rw [WA10_n]; decide))) (by rw [WM_n]; decide)
  rw [← capXF]; exact h
theorem u0_l : gI (U0 x1 x2) 116 2 = lossF x2 := by
  have h : Yv 116 2 (lossX x2) (U0 x1 x2) := Yv.nw (yk_X12_116 (Yv.nw y2_GA4 (by rw [WA10_n]; decide))) (by rw [WM_n]; decide)
  rw [← lossXF]; exact h
theorem u0_12 : gI (U0 x1 x2) 100 12 = -1 := by
  have h : Yv 100 12 (-1) (U0 x1 x2) := Yv.nw (yk_X12_100 (Yv.nw (y12_GA9 (x1 := x1) (x2 := x2)) (by rw [WA10_n]; decide))) (by rw [WM_n]; decide)
  exact h
theorem u0_w : ∀ k, k < 24 → gL (U0 x1 x2) 172 k = wv.getD k 0 := Tw.nw tw_X12 (by rw [WM_n]; decide)
set_option maxRecDepth 100000 in
theorem w0_L : 216 < W0.1 ∧ lt_p W0 100 10 = 140 ∧ lt_t W0 140 = 7 ∧ lt_p W0 139 0 = 0 ∧ lt_p W0 100 9 = 0 ∧ lt_t W0 216 = 21 ∧ lt_l W0 216 = 1 := by decide +kernel
theorem A00_ok : AOk (A00 x1 x2) 0 := by
  have h1 := capF_b x1
  have h2 := lossF_b x2
  refine ⟨⟨Nat.zero_le _, Nat.zero_le _, fun j hj => absurd hj (Nat.not_lt_zero _), fun j hj => absurd hj (Nat.not_lt_zero _), h1.1, h1.2, h2.1, h2.2⟩, ⟨Nat.zero_le _, fun j hj => absurd hj (Nat.not_lt_zero _)⟩, ⟨Nat.zero_le _, fun j hj => absurd hj (Nat.not_lt_zero _)⟩, Nat.zero_le _, fun h => absurd h (show ¬ (0 = 1) by decide), Int.le_refl 0, Int.le_refl 0, Or.inl rfl, Nat.zero_le _, fun d h hd => absurd hd (Nat.not_lt_zero _)⟩
theorem A00_L : LOk (A00 x1 x2) W0 := by
  obtain ⟨h1, h2, h3, h4, h5, _⟩ := w0_L
  exact ⟨h1, fun t ht => absurd ht (Nat.not_lt_zero _), ⟨by rw [h2]; exact h3, by rw [h2]; exact Or.inl rfl⟩, fun h => absurd h (show ¬ (0 = 1) by decide), fun _ => ⟨h4, h5⟩⟩
theorem A00_C : ICl (A00 x1 x2) W0 (U0 x1 x2) := by
  have hz : Zb (U0 x1 x2) := zb_U0
  refine ⟨⟨hz.n (by unfold Sx; omega), hz.n (by unfold Sx; omega), fun j hj => absurd hj (Nat.not_lt_zero _), fun j hj => absurd hj (Nat.not_lt_zero _), u0_c, u0_l⟩, ⟨hz.n (by unfold Sx; omega), fun j hj => absurd hj (Nat.not_lt_zero _)⟩, ⟨hz.n (by unfold Sx; omega), fun j hj => absurd hj (Nat.not_lt_zero _)⟩, hz _ _ (by unfold Sx; omega), u0_12, ⟨Nat.zero_le _, hz.n (by unfold Sx; omega), fun k hk => absurd hk (Nat.not_lt_zero _)⟩, hz.n (by unfold Sx; omega), fun d hd => absurd hd (Nat.not_lt_zero _), fun j _ _ => hz _ _ (by unfold Sx; omega), ⟨0, hz.n (by unfold Sx; omega), Nat.zero_le _, fun q hq => absurd hq (Nat.not_lt_zero _), fun q h _ _ _ => ⟨hz _ _ (by unfold Sx; omega), hz _ _ (by unfold Sx; omega), hz _ _ (by unfold Sx; omega)⟩, fun q h hq => absurd hq (Nat.not_lt_zero _)⟩, fun h => absurd h (show ¬ (0 = 1) by decide)⟩
theorem A00_R : IRf (A00 x1 x2) (U0 x1 x2) := by
  have hz : Zb (U0 x1 x2) := zb_U0
  exact ⟨⟨hz.n (by unfold Sx; omega), hz.n (by unfold Sx; omega), fun j hj => absurd hj (Nat.not_lt_zero _), fun j hj => absurd hj (Nat.not_lt_zero _), u0_29, u0_30⟩, ⟨hz.n (by unfold Sx; omega), fun j hj => absurd hj (Nat.not_lt_zero _)⟩, fun j hj => absurd hj (Nat.not_lt_zero _), fun j hj => absurd hj (Nat.not_lt_zero _), hz.n (by unfold Sx; omega), hz _ _ (by unfold Sx; omega), u0_41, ⟨Nat.zero_le _, hz.n (by unfold Sx; omega), fun k hk => absurd hk (Nat.not_lt_zero _)⟩, u0_w, hz.n (by unfold Sx; omega), fun j hj => absurd hj (Nat.not_lt_zero _)⟩
theorem start_LI (hf : Fre WM) : LI 0 W0 (U0 x1 x2) 117 54011 :=
  ⟨A00 x1 x2, ⟨A00_ok, A00_L, A00_C, A00_R⟩, Lay_nw hf (Lay_WM hf) (by decide) (by decide), w0_L.2.2.2.2.2, by omega, by omega⟩
end
