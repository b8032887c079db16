/-! ===== the law from its start ===== -/
set_option maxRecDepth 100000 in
theorem law_start {z : ZT} {g : GT} {b L : Nat} {xs : Nat → Int32} (C : LwC z g b L xs) (hL : L ≤ 3586) : VL z g b 0 [] [] w00 z0 0 0 := by
  refine Lnew (t := 11) C (dAt D_L_law 0 rfl) (by decide) gc_L_8 gi_11 gz_11 (by decide) (by decide) ?_
  show VL z g b 3 [] [.ref 100] WA0 (nwM w00 z0) 1 13
  refine Ldup C (dAt D_L_law 1 rfl) rfl ?_
  refine Lcell (k := 0) (kn := 0) C hL (dAt D_L_law 2 rfl) (dAt D_L_law 3 rfl) (by decide) rfl (dAt D_L_law 4 rfl) (by decide) (by decide) (by decide) ?_
  refine Lcell (k := 1) (kn := 1) C hL (dAt D_L_law 5 rfl) (dAt D_L_law 6 rfl) (by decide) rfl (dAt D_L_law 7 rfl) (Nat.le_of_ble_eq_true rfl) (by decide) (by decide) ?_
  refine LcallI (as := [.int (celV L xs 0), .int (celV L xs 1)]) (a := 100) (t := 11) C (dAt D_L_law 8 rfl) m_X11_init yb_L_28 yi_L_28 rfl rfl (by decide) rfl rfl (Nat.le_of_ble_eq_true rfl) (by decide) (by decide) (by decide) (by decide) (LKvoid ?_)
  refine Lastore_n (lv' := [(1, .ref 100)]) C (dAt D_L_law 9 rfl) rfl (by decide) (by decide) (by decide) rfl ?_
  refine Lnew (t := 12) C (dAt D_L_law 10 rfl) (by decide) gc_L_31 gi_12 gz_12 (by decide) (by decide) ?_
  have q1 : WA10.1 = 167 := WA10_n
  rw [q1]
  refine Ldup C (dAt D_L_law 11 rfl) rfl ?_
  refine Lcell (k := 0) (kn := 0) C hL (dAt D_L_law 12 rfl) (dAt D_L_law 13 rfl) (by decide) rfl (dAt D_L_law 14 rfl) (by decide) (by decide) (by decide) ?_
  refine Lcell (k := 1) (kn := 1) C hL (dAt D_L_law 15 rfl) (dAt D_L_law 16 rfl) (by decide) rfl (dAt D_L_law 17 rfl) (Nat.le_of_ble_eq_true rfl) (by decide) (by decide) ?_
  have t1 : lt_t (nwL WA10 12 0) 167 = 12 := by decide +kernel
  have t2 : 167 < (nwL WA10 12 0).1 := by decide +kernel
  refine LcallI (as := [.int (celV L xs 0), .int (celV L xs 1)]) (a := 167) (t := 12) C (dAt D_L_law 18 rfl) (m_X12_init t1 t2) yb_L_33 yi_L_33 rfl t1 (by decide) rfl rfl (Nat.le_of_ble_eq_true rfl) (by decide) (by decide) (by decide) (by decide) (LKvoid ?_)
  refine Lastore_n (lv' := [(2, .ref 167), (1, .ref 100)]) C (dAt D_L_law 19 rfl) rfl (by decide) (by decide) (by decide) rfl ?_
  show VL z g b 36 [(2, .ref 167), (1, .ref 100)] [] WM (F_X12_init 167 (celV L xs 0) (celV L xs 1) WN (nwM WA10 (GA0 (celV L xs 0) (celV L xs 1) (nwM w00 z0)))).2 116 54010
  refine Lfresh (fun hf => ?_)
  refine Liconst (x := 1) C (dAt D_L_law 20 rfl) (by decide) ?_
  refine Lnewa (t := 21) (n := 1) C (dAt D_L_law 21 rfl) (by decide) (by decide) rfl ga_long (by decide) (by decide) (by decide) (by decide) (by decide) ?_
  rw [WM_n]
  refine Lastore_n (lv' := [(3, .ref 216), (2, .ref 167), (1, .ref 100)]) C (dAt D_L_law 22 rfl) rfl (by decide) (by decide) (by decide) rfl ?_
  refine Liconst (x := 2) C (dAt D_L_law 23 rfl) (by decide) ?_
  refine Listore (lv' := [(4, .int 2), (3, .ref 216), (2, .ref 167), (1, .ref 100)]) C (dAt D_L_law 24 rfl) (by decide) (by decide) rfl ?_
  refine Lsub (lv' := lvB 2) (fun q hq => ?_) ?_
  · simp only [List.mem_cons, List.not_mem_nil, or_false] at hq ⊢
    rcases hq with e | e | e | e <;> simp [e]
  · exact law_loop C hL L 0 2 W0 (U0 (celV L xs 0) (celV L xs 1)) 117 54011 (by omega) rfl (by decide) (start_LI hf)
