/-! ===== the law's loop ===== -/
theorem and15 (x : Int32) : 0 ≤ (x &&& 15).toInt ∧ (x &&& 15).toInt ≤ 15 := by
  have h : (x &&& 15).toBitVec.toNat ≤ 15 := by
    rw [Int32.toBitVec_and, BitVec.toNat_and]
    exact Nat.and_le_right
  have e : (x &&& 15).toInt = ((x &&& 15).toBitVec.toNat : Int) := by
    rw [Int32.toInt, BitVec.toInt_eq_toNat_of_lt (by omega)]
  omega
theorem LI.mono {c : Nat} {w : LT} {u : MT} {kc ks : Nat} (h : LI c w u kc ks) : LI (c + 1) w u kc ks := by
  obtain ⟨A, ⟨hA, hB⟩, hLay, hO, hkc, hks⟩ := h
  exact ⟨A, ⟨hA.mono, hB⟩, hLay, hO, by omega, by omega⟩
set_option maxRecDepth 100000 in
theorem law_loop {z : ZT} {g : GT} {b L : Nat} {xs : Nat → Int32} (C : LwC z g b L xs) (hL : L ≤ 3586) : ∀ (e c : Nat) (x : Int32) (w : LT) (u : MT) (kc ks : Nat), L ≤ 2 + 7 * c + e → Nm x (2 + 7 * c) → c ≤ 600 → LI c w u kc ks → VL z g b 43 (lvB x) [] w u kc ks := by
  intro e
  induction e with
  | zero =>
    intro c x w u kc ks he hx hc hI
    have hx' : x.toInt = ((2 + 7 * c : Nat) : Int) := hx
    have nL : (Int32.ofNat L).toInt = (L : Int) := Nm.of (by omega)
    have z7 : (7 : Int32).toInt = 7 := rfl
    have es : (Int32.ofNat L - 7).toInt = (L : Int) - 7 := by rw [i_sub (by omega) (by omega)]; omega
    obtain ⟨A, hInv, hLay, hO, hkc, hks⟩ := hI
    have hob := obS w
    refine Liload C 3 (dAt D_L_law 25 rfl) rfl ?_
    refine Llen C (dAt D_L_law 26 rfl) (dAt D_L_law 27 rfl) ?_
    refine Lbipush (x := 7) C (dAt D_L_law 28 rfl) (by decide) ?_
    refine Lisub C (dAt D_L_law 29 rfl) ?_
    refine Licmp_gt (tgt := 811) C (dAt D_L_law 30 rfl) (by decide) (fun _ => ?_) (fun h => absurd (i_lt.mpr (by omega)) h)
    refine Liconst (x := 1) C (dAt D_L_law 513 rfl) (by decide) ?_
    exact Lret C (dAt D_L_law 514 rfl) (by omega) (by omega)
  | succ e ih =>
    intro c x w u kc ks he hx hc hI
    have hx' : x.toInt = ((2 + 7 * c : Nat) : Int) := hx
    have nL : (Int32.ofNat L).toInt = (L : Int) := Nm.of (by omega)
    have z7 : (7 : Int32).toInt = 7 := rfl
    have es : (Int32.ofNat L - 7).toInt = (L : Int) - 7 := by rw [i_sub (by omega) (by omega)]; omega
    refine Liload C 3 (dAt D_L_law 25 rfl) rfl ?_
    refine Llen C (dAt D_L_law 26 rfl) (dAt D_L_law 27 rfl) ?_
    refine Lbipush (x := 7) C (dAt D_L_law 28 rfl) (by decide) ?_
    refine Lisub C (dAt D_L_law 29 rfl) ?_
    refine Licmp_gt (tgt := 811) C (dAt D_L_law 30 rfl) (by decide) (fun _ => ?_) (fun h => ?_)
    · obtain ⟨A, hInv, hLay, hO, hkc, hks⟩ := hI
      have hob := obS w
      refine Liconst (x := 1) C (dAt D_L_law 513 rfl) (by decide) ?_
      exact Lret C (dAt D_L_law 514 rfl) (by omega) (by omega)
    · have hle : 2 + 7 * c + 7 ≤ L := by have := mt i_lt.mpr h; omega
      have hin : ∀ (kI : Int32) (kn : Nat), Nm kI kn → kn ≤ 6 → vp_in (x + kI) L := fun kI kn h1 h2 => vp_in_iff.mpr ((hx.add h1 (by omega)).ix (by omega))
      have k805 : ∀ w1 u1 kc1 ks1, LI (c + 1) w1 u1 kc1 ks1 → VL z g b 805 (lvB x) [] w1 u1 kc1 ks1 := by
        intro w1 u1 kc1 ks1 hI1
        refine Liinc (j := 3) (v := x + 7) (lv' := [(4, _), (1, _), (2, _), (3, _)]) C (dAt D_L_law 511 rfl) rfl rfl (by decide) (by decide) rfl ?_
        refine Lgoto (tgt := 43) C (dAt D_L_law 512 rfl) (by decide) ?_
        refine Lsub (lv' := lvB (x + 7)) (fun q hq => ?_) (ih (c + 1) (x + 7) w1 u1 kc1 ks1 (by omega) ?_ (by omega) hI1)
        · simp only [List.mem_cons, List.not_mem_nil, or_false] at hq ⊢
          rcases hq with h | h | h | h
          · exact Or.inr (Or.inl h)
          · exact Or.inr (Or.inr (Or.inl h))
          · exact Or.inr (Or.inr (Or.inr h))
          · exact Or.inl h
        · have := hx.add (show Nm (7 : Int32) 7 from rfl) (by omega)
          rw [show 2 + 7 * (c + 1) = 2 + 7 * c + 7 by omega]
          exact this
      refine Lscr0 (j := 3) C (dAt D_L_law 31 rfl) (dAt D_L_law 32 rfl) (dAt D_L_law 33 rfl) rfl (vp_in_iff.mpr (hx.ix (by omega))) ?_
      refine Lbipush (x := 15) C (dAt D_L_law 34 rfl) (by decide) ?_
      refine Liand C (dAt D_L_law 35 rfl) ?_
      have hr := and15 (xs x.toNatClampNeg)
      generalize xs x.toNatClampNeg &&& 15 = y at hr
      have cs : y.toInt = 0 ∨ y.toInt = 1 ∨ y.toInt = 2 ∨ y.toInt = 3 ∨ y.toInt = 4 ∨ y.toInt = 5 ∨ y.toInt = 6 ∨ y.toInt = 7 ∨ y.toInt = 8 ∨ y.toInt = 9 ∨ y.toInt = 10 ∨ y.toInt = 11 ∨ y.toInt = 12 ∨ y.toInt = 13 ∨ 13 < y.toInt := by omega
      rcases cs with q | q | q | q | q | q | q | q | q | q | q | q | q | q | q
      · exact LtableIn (tgt := 132) (off := 72) C (dAt D_L_law 36 rfl) (by omega) (by omega) (by rw [q]; rfl) (by decide) (law_house C hc hI hin k805)
      · exact LtableIn (tgt := 169) (off := 109) C (dAt D_L_law 36 rfl) (by omega) (by omega) (by rw [q]; rfl) (by decide) (law_read C hc hI hin k805)
      · exact LtableIn (tgt := 230) (off := 170) C (dAt D_L_law 36 rfl) (by omega) (by omega) (by rw [q]; rfl) (by decide) (law_days C hc hI hin k805)
      · exact LtableIn (tgt := 255) (off := 195) C (dAt D_L_law 36 rfl) (by omega) (by omega) (by rw [q]; rfl) (by decide) (law_feed C hc hI hin k805)
      · exact LtableIn (tgt := 402) (off := 342) C (dAt D_L_law 36 rfl) (by omega) (by omega) (by rw [q]; rfl) (by decide) (law_text C hc hI hin k805)
      · exact LtableIn (tgt := 427) (off := 367) C (dAt D_L_law 36 rfl) (by omega) (by omega) (by rw [q]; rfl) (by decide) (law_other C hc hI hin k805)
      · exact LtableIn (tgt := 440) (off := 380) C (dAt D_L_law 36 rfl) (by omega) (by omega) (by rw [q]; rfl) (by decide) (law_known C hc hI hin k805)
      · exact LtableIn (tgt := 465) (off := 405) C (dAt D_L_law 36 rfl) (by omega) (by omega) (by rw [q]; rfl) (by decide) (law_had C hc hI hin k805)
      · exact LtableIn (tgt := 545) (off := 485) C (dAt D_L_law 36 rfl) (by omega) (by omega) (by rw [q]; rfl) (by decide) (law_quarter C hc hI hin k805)
      · exact LtableIn (tgt := 613) (off := 553) C (dAt D_L_law 36 rfl) (by omega) (by omega) (by rw [q]; rfl) (by decide) (law_by C hc hI hin k805)
      · exact LtableIn (tgt := 662) (off := 602) C (dAt D_L_law 36 rfl) (by omega) (by omega) (by rw [q]; rfl) (by decide) (law_would C hc hI hin k805)
      · exact LtableIn (tgt := 699) (off := 639) C (dAt D_L_law 36 rfl) (by omega) (by omega) (by rw [q]; rfl) (by decide) (law_bills C hc hI hin k805)
      · exact LtableIn (tgt := 712) (off := 652) C (dAt D_L_law 36 rfl) (by omega) (by omega) (by rw [q]; rfl) (by decide) (law_bill C hc hI hin k805)
      · exact LtableIn (tgt := 780) (off := 720) C (dAt D_L_law 36 rfl) (by omega) (by omega) (by rw [q]; rfl) (by decide) (law_count C hc hI hin k805)
      · exact LtableOut (tgt := 805) C (dAt D_L_law 36 rfl) (Or.inr q) (by decide) (k805 _ _ _ _ hI.mono)
