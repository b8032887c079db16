/-! ===== A NEW TEXT ===== -/
/-- its rules, from the i-th on -/
def TxL (b : Nat) : Nat → Nat → LT → MT → LT × MT
  | 0, _, w, u => (w, u)
  | n + 1, i, w, u => TxL b n (i + 1) (sP (nwL w 5 0) b i w.1) (nwM w u)
def F_X7_init (a0 : Nat) (w : LT) (u : MT) : LT × MT :=
  let w1 := nwL w 25 24
  let u1 := nwM w u
  let w2 := sP w1 a0 0 w.1
  let w3 := nwL w2 20 1200
  let u3 := nwM w2 u1
  let w4 := sP w3 a0 3 (w.1 + 1)
  TxL w.1 24 0 w4 u3
theorem nw_l {w : LT} {t n a : Nat} (h : a < w.1) : lt_l (nwL w t n) a = lt_l w a := if_neg (Nat.ne_of_lt h)
theorem nw_p {w : LT} {t n a : Nat} (h : a < w.1) (k : Nat) : lt_p (nwL w t n) a k = lt_p w a k := by
  show (if a = w.1 then (fun _ => 0) else w.2.2.2 a) k = _
  rw [if_neg (Nat.ne_of_lt h)]
theorem tx_loop {z : ZT} {g : GT} {D a0 b : Nat} (hD : 2 ≤ D) (C : Cx z g cX7_init 2 RX7 none D 26 1464) {r : LT × MT} : ∀ (n i : Nat) (w : LT) (u : MT), n + i = 24 → lt_t w a0 = 7 → a0 < w.1 → lt_p w a0 0 = b → a0 ≠ b → lt_t w b = 25 → lt_l w b = 24 → b < w.1 → TxL b n i w u = r →
    V z g 2 24 [(1, .int (nI i)), (0, .ref a0)] [] w u (2 + i) (1224 + 10 * i) (Qv r.1 r.2) := by
  intro n
  induction n with
  | zero =>
    intro i w u hn ht ha hp hab hb hbl hbw h
    obtain rfl : i = 24 := by omega
    rw [TxL] at h
    subst h
    refine Viload_n C 0 (dAt D_X7_init 12 rfl) rfl rfl ?_
    refine Vbipush (x := 24) C (dAt D_X7_init 13 rfl) (by decide) ?_
    refine Vicmp_ge (tgt := 49) C (dAt D_X7_init 14 rfl) (by decide) (fun _ => ?_) (fun q => absurd (by decide) q)
    exact Vvret C (dAt D_X7_init 24 rfl) (by decide) (by decide) ⟨rfl, rfl, rfl⟩
  | succ n ih =>
    intro i w u hn ht ha hp hab hb hbl hbw h
    rw [TxL] at h
    have hlt : ¬ (24 : Int32) ≤ nI i := nI_ge (a := i) (b := 24) (by omega) (by omega)
    refine Viload_n C 0 (dAt D_X7_init 12 rfl) rfl rfl ?_
    refine Vbipush (x := 24) C (dAt D_X7_init 13 rfl) (by decide) ?_
    refine Vicmp_ge (tgt := 49) C (dAt D_X7_init 14 rfl) (by decide) (fun q => absurd q hlt) (fun _ => ?_)
    refine Vaload_n C 1 (dAt D_X7_init 15 rfl) rfl rfl ?_
    refine VgetP C (dAt D_X7_init 16 rfl) gf_X7_11 ht rfl hp ?_
    refine Viload_n C 0 (dAt D_X7_init 17 rfl) rfl rfl ?_
    refine Vnew (t := 5) C (dAt D_X7_init 18 rfl) (by decide) gc_X7_9 gi_5 gz_5 (by omega) (by show 1224 + 10 * i + 10 ≤ 1464; omega) ?_
    refine Vdup C (dAt D_X7_init 19 rfl) rfl ?_
    have hM : Mt g yX5_init cX5_init 1 none 1 0 0 [.ref w.1] (nwL w 5 0) (nwM w u) (Qv (nwL w 5 0) (nwM w u)) := m_X5_init (w := nwL w 5 0) (u := nwM w u) (nw_n (t := 5) (n := 0)) (Nat.lt_succ_self _)
    refine VcallI (as := []) (t := 5) C (dAt D_X7_init 20 rfl) hM yb_X7_21 yi_X7_21 rfl (nw_n (t := 5) (n := 0)) (by decide) rfl rfl (Nat.le_of_ble_eq_true rfl) (by decide) hD (by omega) (by show 1224 + 10 * i + 10 + 0 ≤ 1464; omega) (Kvoid ?_)
    have hcl : (nI i).toNatClampNeg = i := nI_clamp (by omega)
    refine VaastP (t := 25) (tb := 5) (n := 24) C (dAt D_X7_init 21 rfl) (Or.inl ⟨rfl, rfl⟩) ((nw_t (t := 5) (n := 0) hbw).trans hb) ((nw_l (t := 5) (n := 0) hbw).trans hbl) (nw_n (t := 5) (n := 0)) (vp_in_nI (by omega) (by omega)) ?_
    rw [hcl]
    refine Viinc (j := 0) (v := nI (i + 1)) (lv' := [(1, _), (0, _)]) C (dAt D_X7_init 22 rfl) rfl (nI_1 i) (by decide) rfl ?_
    refine Vgoto (tgt := 24) C (dAt D_X7_init 23 rfl) (by decide) ?_
    have h9 := ih (i + 1) (sP (nwL w 5 0) b i w.1) (nwM w u) (by omega) ((nw_t (t := 5) (n := 0) ha).trans ht) (Nat.lt_succ_of_lt ha) ((sP_p hab 0).trans ((nw_p (t := 5) (n := 0) ha 0).trans hp)) hab ((nw_t (t := 5) (n := 0) hbw).trans hb) ((nw_l (t := 5) (n := 0) hbw).trans hbl) (Nat.lt_succ_of_lt hbw) h
    rw [show 2 + i + 1 + 0 = 2 + (i + 1) by omega, show 1224 + 10 * i + cN 5 + 0 = 1224 + 10 * (i + 1) by show 1224 + 10 * i + 10 + 0 = _; omega]
    exact h9
theorem m_X7_init {g : GT} {w : LT} {u : MT} {a0 : Nat} (ht : lt_t w a0 = 7) (ha : a0 < w.1) : Mt g yX7_init cX7_init 2 none 2 26 1464 [.ref a0] w u (Qv (F_X7_init a0 w u).1 (F_X7_init a0 w u).2) := by
  refine Mt_of (own := RX7) (by decide +kernel) rfl (Nat.le_of_ble_eq_true rfl) (fun z C hcn => ?_)
  have hcn := hcn rfl
  show V z g 2 0 [(0, .ref a0)] [] w u 0 0 _
  refine Vaload_n C 0 (dAt D_X7_init 0 rfl) rfl rfl ?_
  refine Vobj C (dAt D_X7_init 1 rfl) go_X7_3 oI oC (by omega) (Nat.le_of_ble_eq_true rfl) (by decide) ?_
  refine Vaload_n C 0 (dAt D_X7_init 2 rfl) rfl rfl ?_
  refine Vbipush (x := 24) C (dAt D_X7_init 3 rfl) (by decide) ?_
  refine Vanew (t := 25) (n := 24) C (dAt D_X7_init 4 rfl) (by decide) (by decide) rfl gc_X7_9 (by decide) (by decide) (by decide) (by decide) (by decide) ?_
  have ht1 := (nw_t (t := 25) (n := 24) ha).trans ht
  have ha1 := Nat.lt_succ_of_lt ha
  refine VputPF C hcn (dAt D_X7_init 5 rfl) gw_X7_11 ht1 rfl rfl rfl rfl ?_
  refine Vaload_n C 0 (dAt D_X7_init 6 rfl) rfl rfl ?_
  refine Vsipush (x := 1200) C (dAt D_X7_init 7 rfl) (by decide) ?_
  refine Vnewa (t := 20) (n := 1200) C (dAt D_X7_init 8 rfl) (by decide) (by decide) rfl ga_int (by decide) (by decide) (by decide) (by decide) (by decide) ?_
  have ht2 := (nw_t (w := sP (nwL w 25 24) a0 0 w.1) (t := 20) (n := 1200) ha1).trans ht1
  refine VputPF C hcn (dAt D_X7_init 9 rfl) gw_X7_17 ht2 rfl rfl rfl rfl ?_
  refine Viconst (x := 0) C (dAt D_X7_init 10 rfl) (by decide) ?_
  refine Vistore_n (lv' := [(1, _), (0, _)]) C (dAt D_X7_init 11 rfl) rfl (by decide) rfl ?_
  have hb1 : w.1 < (nwL w 25 24).1 := Nat.lt_succ_self _
  have hne : a0 ≠ w.1 := Nat.ne_of_lt ha
  refine tx_loop (a0 := a0) (b := w.1) (by decide) C 24 0 (sP (nwL (sP (nwL w 25 24) a0 0 w.1) 20 1200) a0 3 (w.1 + 1)) (nwM (sP (nwL w 25 24) a0 0 w.1) (nwM w u)) rfl ht2 (Nat.lt_succ_of_lt ha1) ?_ hne ?_ ?_ (Nat.lt_succ_of_lt hb1) rfl
  · rw [sP_q (by decide)]
    rw [nw_p (w := sP (nwL w 25 24) a0 0 w.1) (t := 20) (n := 1200) ha1 0]
    exact sP_e
  · show lt_t (nwL (sP (nwL w 25 24) a0 0 w.1) 20 1200) w.1 = 25
    rw [nw_t (w := sP (nwL w 25 24) a0 0 w.1) (t := 20) (n := 1200) hb1]
    exact nw_n (t := 25) (n := 24)
  · show lt_l (nwL (sP (nwL w 25 24) a0 0 w.1) 20 1200) w.1 = 24
    rw [nw_l (w := sP (nwL w 25 24) a0 0 w.1) (t := 20) (n := 1200) hb1]
    exact if_pos rfl
