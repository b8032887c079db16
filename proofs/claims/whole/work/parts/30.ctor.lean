/-! ===== CONSTRUCTORS ===== -/
theorem nw_t {w : LT} {t n a : Nat} (h : a < w.1) : lt_t (nwL w t n) a = lt_t w a := if_neg (Nat.ne_of_lt h)
theorem nw_n {w : LT} {t n : Nat} : lt_t (nwL w t n) w.1 = t := if_pos rfl
def F_X5_init (a0 : Nat) (w : LT) (u : MT) : LT × MT :=
  (w, u)
theorem m_X5_init {g : GT} {w : LT} {u : MT} {a0 : Nat} (ht : lt_t w a0 = 5) (ha : a0 < w.1) : Mt g yX5_init cX5_init 1 none 1 0 0 [.ref a0] w u (Qv (F_X5_init a0 w u).1 (F_X5_init a0 w u).2) := by
  refine Mt_of (own := RX5) (by decide +kernel) rfl (Nat.le_of_ble_eq_true rfl) (fun z C hcn => ?_)
  have hcn := hcn rfl
  show V z g 1 0 [(0, .ref a0)] [] w u 0 0 _
  refine Vaload_n C 0 (dAt D_X5_init 0 rfl) rfl rfl ?_
  refine Vobj C (dAt D_X5_init 1 rfl) go_X5_1 oI oC (by omega) (Nat.le_of_ble_eq_true rfl) (by decide) ?_
  exact Vvret C (dAt D_X5_init 2 rfl) (by decide) (by decide) ⟨rfl, rfl, rfl⟩
theorem gr_X5_init {w : LT} {u : MT} {a0 : Nat} : (∀ a, a < w.1 → lt_t (F_X5_init a0 w u).1 a = lt_t w a) ∧ (F_X5_init a0 w u).1.1 = w.1 + 0 := by
  refine ⟨fun a h => ?_, rfl⟩
  show w.2.1 a = w.2.1 a
  rfl
def F_X2_init (a0 : Nat) (w : LT) (u : MT) : LT × MT :=
  let w1 := nwL w 20 12
  let u1 := nwM w u
  let w2 := sP w1 a0 0 (w.1)
  let w3 := nwL w2 20 12
  let u3 := nwM w2 u1
  let w4 := sP w3 a0 1 (w.1 + 1)
  (w4, u3)
theorem m_X2_init {g : GT} {w : LT} {u : MT} {a0 : Nat} (ht : lt_t w a0 = 2) (ha : a0 < w.1) : Mt g yX2_init cX2_init 1 none 1 2 24 [.ref a0] w u (Qv (F_X2_init a0 w u).1 (F_X2_init a0 w u).2) := by
  refine Mt_of (own := RX2) (by decide +kernel) rfl (Nat.le_of_ble_eq_true rfl) (fun z C hcn => ?_)
  have hcn := hcn rfl
  show V z g 1 0 [(0, .ref a0)] [] w u 0 0 _
  refine Vaload_n C 0 (dAt D_X2_init 0 rfl) rfl rfl ?_
  refine Vobj C (dAt D_X2_init 1 rfl) go_X2_3 oI oC (by omega) (Nat.le_of_ble_eq_true rfl) (by decide) ?_
  refine Vaload_n C 0 (dAt D_X2_init 2 rfl) rfl rfl ?_
  refine Vbipush (x := 12) C (dAt D_X2_init 3 rfl) (by decide) ?_
  refine Vnewa (t := 20) (n := 12) C (dAt D_X2_init 4 rfl) (by decide) (by decide) rfl ga_int (by decide) (by decide) (by decide) (by decide) (by decide) ?_
  have ht := (nw_t (t := 20) (n := 12) ha).trans ht
  have ha := Nat.lt_succ_of_lt ha
  refine VputPF C hcn (dAt D_X2_init 5 rfl) gw_X2_9 ht rfl rfl rfl rfl ?_
  refine Vaload_n C 0 (dAt D_X2_init 6 rfl) rfl rfl ?_
  refine Vbipush (x := 12) C (dAt D_X2_init 7 rfl) (by decide) ?_
  refine Vnewa (t := 20) (n := 12) C (dAt D_X2_init 8 rfl) (by decide) (by decide) rfl ga_int (by decide) (by decide) (by decide) (by decide) (by decide) ?_
  have ht := (nw_t (t := 20) (n := 12) ha).trans ht
  have ha := Nat.lt_succ_of_lt ha
  refine VputPF C hcn (dAt D_X2_init 9 rfl) gw_X2_15 ht rfl rfl rfl rfl ?_
  exact Vvret C (dAt D_X2_init 10 rfl) (by decide) (by decide) ⟨rfl, rfl, rfl⟩
theorem gr_X2_init {w : LT} {u : MT} {a0 : Nat} : (∀ a, a < w.1 → lt_t (F_X2_init a0 w u).1 a = lt_t w a) ∧ (F_X2_init a0 w u).1.1 = w.1 + 2 := by
  refine ⟨fun a h => ?_, rfl⟩
  show (if a = w.1 + 1 then 20 else (if a = w.1 then 20 else w.2.1 a)) = w.2.1 a
  rw [if_neg (by omega), if_neg (by omega)]
def F_X4_init (a0 : Nat) (w : LT) (u : MT) : LT × MT :=
  let w1 := nwL w 20 400
  let u1 := nwM w u
  let w2 := sP w1 a0 0 (w.1)
  let w3 := nwL w2 20 400
  let u3 := nwM w2 u1
  let w4 := sP w3 a0 1 (w.1 + 1)
  let w5 := nwL w4 20 400
  let u5 := nwM w4 u3
  let w6 := sP w5 a0 2 (w.1 + 2)
  let w7 := nwL w6 20 400
  let u7 := nwM w6 u5
  let w8 := sP w7 a0 3 (w.1 + 3)
  let w9 := nwL w8 20 400
  let u9 := nwM w8 u7
  let w10 := sP w9 a0 4 (w.1 + 4)
  (w10, u9)
theorem m_X4_init {g : GT} {w : LT} {u : MT} {a0 : Nat} (ht : lt_t w a0 = 4) (ha : a0 < w.1) : Mt g yX4_init cX4_init 1 none 1 5 2000 [.ref a0] w u (Qv (F_X4_init a0 w u).1 (F_X4_init a0 w u).2) := by
  refine Mt_of (own := RX4) (by decide +kernel) rfl (Nat.le_of_ble_eq_true rfl) (fun z C hcn => ?_)
  have hcn := hcn rfl
  show V z g 1 0 [(0, .ref a0)] [] w u 0 0 _
  refine Vaload_n C 0 (dAt D_X4_init 0 rfl) rfl rfl ?_
  refine Vobj C (dAt D_X4_init 1 rfl) go_X4_3 oI oC (by omega) (Nat.le_of_ble_eq_true rfl) (by decide) ?_
  refine Vaload_n C 0 (dAt D_X4_init 2 rfl) rfl rfl ?_
  refine Vsipush (x := 400) C (dAt D_X4_init 3 rfl) (by decide) ?_
  refine Vnewa (t := 20) (n := 400) C (dAt D_X4_init 4 rfl) (by decide) (by decide) rfl ga_int (by decide) (by decide) (by decide) (by decide) (by decide) ?_
  have ht := (nw_t (t := 20) (n := 400) ha).trans ht
  have ha := Nat.lt_succ_of_lt ha
  refine VputPF C hcn (dAt D_X4_init 5 rfl) gw_X4_9 ht rfl rfl rfl rfl ?_
  refine Vaload_n C 0 (dAt D_X4_init 6 rfl) rfl rfl ?_
  refine Vsipush (x := 400) C (dAt D_X4_init 7 rfl) (by decide) ?_
  refine Vnewa (t := 20) (n := 400) C (dAt D_X4_init 8 rfl) (by decide) (by decide) rfl ga_int (by decide) (by decide) (by decide) (by decide) (by decide) ?_
  have ht := (nw_t (t := 20) (n := 400) ha).trans ht
  have ha := Nat.lt_succ_of_lt ha
  refine VputPF C hcn (dAt D_X4_init 9 rfl) gw_X4_15 ht rfl rfl rfl rfl ?_
  refine Vaload_n C 0 (dAt D_X4_init 10 rfl) rfl rfl ?_
  refine Vsipush (x := 400) C (dAt D_X4_init 11 rfl) (by decide) ?_
  refine Vnewa (t := 20) (n := 400) C (dAt D_X4_init 12 rfl) (by decide) (by decide) rfl ga_int (by decide) (by decide) (by decide) (by decide) (by decide) ?_
  have ht := (nw_t (t := 20) (n := 400) ha).trans ht
  have ha := Nat.lt_succ_of_lt ha
  refine VputPF C hcn (dAt D_X4_init 13 rfl) gw_X4_18 ht rfl rfl rfl rfl ?_
  refine Vaload_n C 0 (dAt D_X4_init 14 rfl) rfl rfl ?_
  refine Vsipush (x := 400) C (dAt D_X4_init 15 rfl) (by decide) ?_
  refine Vnewa (t := 20) (n := 400) C (dAt D_X4_init 16 rfl) (by decide) (by decide) rfl ga_int (by decide) (by decide) (by decide) (by decide) (by decide) ?_
  have ht := (nw_t (t := 20) (n := 400) ha).trans ht
  have ha := Nat.lt_succ_of_lt ha
  refine VputPF C hcn (dAt D_X4_init 17 rfl) gw_X4_21 ht rfl rfl rfl rfl ?_
  refine Vaload_n C 0 (dAt D_X4_init 18 rfl) rfl rfl ?_
  refine Vsipush (x := 400) C (dAt D_X4_init 19 rfl) (by decide) ?_
  refine Vnewa (t := 20) (n := 400) C (dAt D_X4_init 20 rfl) (by decide) (by decide) rfl ga_int (by decide) (by decide) (by decide) (by decide) (by decide) ?_
  have ht := (nw_t (t := 20) (n := 400) ha).trans ht
  have ha := Nat.lt_succ_of_lt ha
  refine VputPF C hcn (dAt D_X4_init 21 rfl) gw_X4_24 ht rfl rfl rfl rfl ?_
  exact Vvret C (dAt D_X4_init 22 rfl) (by decide) (by decide) ⟨rfl, rfl, rfl⟩
theorem gr_X4_init {w : LT} {u : MT} {a0 : Nat} : (∀ a, a < w.1 → lt_t (F_X4_init a0 w u).1 a = lt_t w a) ∧ (F_X4_init a0 w u).1.1 = w.1 + 5 := by
  refine ⟨fun a h => ?_, rfl⟩
  show (if a = w.1 + 4 then 20 else (if a = w.1 + 3 then 20 else (if a = w.1 + 2 then 20 else (if a = w.1 + 1 then 20 else (if a = w.1 then 20 else w.2.1 a))))) = w.2.1 a
  rw [if_neg (by omega), if_neg (by omega), if_neg (by omega), if_neg (by omega), if_neg (by omega)]
def F_X6_init (a0 : Nat) (w : LT) (u : MT) : LT × MT :=
  let w1 := nwL w 23 1200
  let u1 := nwM w u
  let w2 := sP w1 a0 0 (w.1)
  (w2, u1)
theorem m_X6_init {g : GT} {w : LT} {u : MT} {a0 : Nat} (ht : lt_t w a0 = 6) (ha : a0 < w.1) : Mt g yX6_init cX6_init 1 none 1 1 1200 [.ref a0] w u (Qv (F_X6_init a0 w u).1 (F_X6_init a0 w u).2) := by
  refine Mt_of (own := RX6) (by decide +kernel) rfl (Nat.le_of_ble_eq_true rfl) (fun z C hcn => ?_)
  have hcn := hcn rfl
  show V z g 1 0 [(0, .ref a0)] [] w u 0 0 _
  refine Vaload_n C 0 (dAt D_X6_init 0 rfl) rfl rfl ?_
  refine Vobj C (dAt D_X6_init 1 rfl) go_X6_3 oI oC (by omega) (Nat.le_of_ble_eq_true rfl) (by decide) ?_
  refine Vaload_n C 0 (dAt D_X6_init 2 rfl) rfl rfl ?_
  refine Vsipush (x := 1200) C (dAt D_X6_init 3 rfl) (by decide) ?_
  refine Vnewa (t := 23) (n := 1200) C (dAt D_X6_init 4 rfl) (by decide) (by decide) rfl ga_char (by decide) (by decide) (by decide) (by decide) (by decide) ?_
  have ht := (nw_t (t := 23) (n := 1200) ha).trans ht
  have ha := Nat.lt_succ_of_lt ha
  refine VputPF C hcn (dAt D_X6_init 5 rfl) gw_X6_9 ht rfl rfl rfl rfl ?_
  exact Vvret C (dAt D_X6_init 6 rfl) (by decide) (by decide) ⟨rfl, rfl, rfl⟩
theorem gr_X6_init {w : LT} {u : MT} {a0 : Nat} : (∀ a, a < w.1 → lt_t (F_X6_init a0 w u).1 a = lt_t w a) ∧ (F_X6_init a0 w u).1.1 = w.1 + 1 := by
  refine ⟨fun a h => ?_, rfl⟩
  show (if a = w.1 then 23 else w.2.1 a) = w.2.1 a
  rw [if_neg (by omega)]
def F_X3_init (a0 : Nat) (w : LT) (u : MT) : LT × MT :=
  let w1 := nwL w 24 1201
  let u1 := nwM w u
  let w2 := sP w1 a0 0 (w.1)
  let w3 := nwL w2 20 1201
  let u3 := nwM w2 u1
  let w4 := sP w3 a0 1 (w.1 + 1)
  let w5 := nwL w4 20 1201
  let u5 := nwM w4 u3
  let w6 := sP w5 a0 2 (w.1 + 2)
  (w6, u5)
theorem m_X3_init {g : GT} {w : LT} {u : MT} {a0 : Nat} (ht : lt_t w a0 = 3) (ha : a0 < w.1) : Mt g yX3_init cX3_init 1 none 1 3 3603 [.ref a0] w u (Qv (F_X3_init a0 w u).1 (F_X3_init a0 w u).2) := by
  refine Mt_of (own := RX3) (by decide +kernel) rfl (Nat.le_of_ble_eq_true rfl) (fun z C hcn => ?_)
  have hcn := hcn rfl
  show V z g 1 0 [(0, .ref a0)] [] w u 0 0 _
  refine Vaload_n C 0 (dAt D_X3_init 0 rfl) rfl rfl ?_
  refine Vobj C (dAt D_X3_init 1 rfl) go_X3_3 oI oC (by omega) (Nat.le_of_ble_eq_true rfl) (by decide) ?_
  refine Vaload_n C 0 (dAt D_X3_init 2 rfl) rfl rfl ?_
  refine Vsipush (x := 1201) C (dAt D_X3_init 3 rfl) (by decide) ?_
  refine Vanew (t := 24) (n := 1201) C (dAt D_X3_init 4 rfl) (by decide) (by decide) rfl gc_X3_9 (by decide) (by decide) (by decide) (by decide) (by decide) ?_
  have ht := (nw_t (t := 24) (n := 1201) ha).trans ht
  have ha := Nat.lt_succ_of_lt ha
  refine VputPF C hcn (dAt D_X3_init 5 rfl) gw_X3_11 ht rfl rfl rfl rfl ?_
  refine Vaload_n C 0 (dAt D_X3_init 6 rfl) rfl rfl ?_
  refine Vsipush (x := 1201) C (dAt D_X3_init 7 rfl) (by decide) ?_
  refine Vnewa (t := 20) (n := 1201) C (dAt D_X3_init 8 rfl) (by decide) (by decide) rfl ga_int (by decide) (by decide) (by decide) (by decide) (by decide) ?_
  have ht := (nw_t (t := 20) (n := 1201) ha).trans ht
  have ha := Nat.lt_succ_of_lt ha
  refine VputPF C hcn (dAt D_X3_init 9 rfl) gw_X3_17 ht rfl rfl rfl rfl ?_
  refine Vaload_n C 0 (dAt D_X3_init 10 rfl) rfl rfl ?_
  refine Vsipush (x := 1201) C (dAt D_X3_init 11 rfl) (by decide) ?_
  refine Vnewa (t := 20) (n := 1201) C (dAt D_X3_init 12 rfl) (by decide) (by decide) rfl ga_int (by decide) (by decide) (by decide) (by decide) (by decide) ?_
  have ht := (nw_t (t := 20) (n := 1201) ha).trans ht
  have ha := Nat.lt_succ_of_lt ha
  refine VputPF C hcn (dAt D_X3_init 13 rfl) gw_X3_21 ht rfl rfl rfl rfl ?_
  exact Vvret C (dAt D_X3_init 14 rfl) (by decide) (by decide) ⟨rfl, rfl, rfl⟩
theorem gr_X3_init {w : LT} {u : MT} {a0 : Nat} : (∀ a, a < w.1 → lt_t (F_X3_init a0 w u).1 a = lt_t w a) ∧ (F_X3_init a0 w u).1.1 = w.1 + 3 := by
  refine ⟨fun a h => ?_, rfl⟩
  show (if a = w.1 + 2 then 20 else (if a = w.1 + 1 then 20 else (if a = w.1 then 24 else w.2.1 a))) = w.2.1 a
  rw [if_neg (by omega), if_neg (by omega), if_neg (by omega)]
def F_X10_init (a0 : Nat) (a1 : Nat) (x2 : Int32) (x3 : Int32) (w : LT) (u : MT) : LT × MT :=
  let w1 := nwL w 20 12
  let u1 := nwM w u
  let w2 := sP w1 a0 6 (w.1)
  let w3 := nwL w2 20 12
  let u3 := nwM w2 u1
  let w4 := sP w3 a0 7 (w.1 + 1)
  let w5 := nwL w4 20 12
  let u5 := nwM w4 u3
  let w6 := sP w5 a0 8 (w.1 + 2)
  let w7 := nwL w6 20 12
  let u7 := nwM w6 u5
  let w8 := sP w7 a0 9 (w.1 + 3)
  let w9 := nwL w8 20 12
  let u9 := nwM w8 u7
  let w10 := sP w9 a0 10 (w.1 + 4)
  let w11 := nwL w10 20 12
  let u11 := nwM w10 u9
  let w12 := sP w11 a0 11 (w.1 + 5)
  let w13 := nwL w12 22 12
  let u13 := nwM w12 u11
  let w14 := sP w13 a0 13 (w.1 + 6)
  let w15 := nwL w14 20 12
  let u15 := nwM w14 u13
  let w16 := sP w15 a0 14 (w.1 + 7)
  let w17 := nwL w16 20 14
  let u17 := nwM w16 u15
  let w18 := sP w17 a0 15 (w.1 + 8)
  let w19 := nwL w18 20 12
  let u19 := nwM w18 u17
  let w20 := sP w19 a0 18 (w.1 + 9)
  let w21 := nwL w20 20 14
  let u21 := nwM w20 u19
  let w22 := sP w21 a0 19 (w.1 + 10)
  let w23 := sP w22 a0 0 a1
  let u24 := sI u21 a0 1 x2
  let u25 := sI u24 a0 2 x3
  (w23, u25)
theorem m_X10_init {g : GT} {w : LT} {u : MT} {a0 : Nat} {a1 : Nat} {x2 : Int32} {x3 : Int32} (ht : lt_t w a0 = 10) (ha : a0 < w.1) : Mt g yX10_init cX10_init 4 none 1 11 136 [.ref a0, .ref a1, .int x2, .int x3] w u (Qv (F_X10_init a0 a1 x2 x3 w u).1 (F_X10_init a0 a1 x2 x3 w u).2) := by
  refine Mt_of (own := RX10) (by decide +kernel) rfl (Nat.le_of_ble_eq_true rfl) (fun z C hcn => ?_)
  have hcn := hcn rfl
  show V z g 4 0 [(0, .ref a0), (1, .ref a1), (2, .int x2), (3, .int x3)] [] w u 0 0 _
  refine Vaload_n C 0 (dAt D_X10_init 0 rfl) rfl rfl ?_
  refine Vobj C (dAt D_X10_init 1 rfl) go_X10_3 oI oC (by omega) (Nat.le_of_ble_eq_true rfl) (by decide) ?_
  refine Vaload_n C 0 (dAt D_X10_init 2 rfl) rfl rfl ?_
  refine Vbipush (x := 12) C (dAt D_X10_init 3 rfl) (by decide) ?_
  refine Vnewa (t := 20) (n := 12) C (dAt D_X10_init 4 rfl) (by decide) (by decide) rfl ga_int (by decide) (by decide) (by decide) (by decide) (by decide) ?_
  have ht := (nw_t (t := 20) (n := 12) ha).trans ht
  have ha := Nat.lt_succ_of_lt ha
  refine VputPF C hcn (dAt D_X10_init 5 rfl) gw_X10_9 ht rfl rfl rfl rfl ?_
  refine Vaload_n C 0 (dAt D_X10_init 6 rfl) rfl rfl ?_
  refine Vbipush (x := 12) C (dAt D_X10_init 7 rfl) (by decide) ?_
  refine Vnewa (t := 20) (n := 12) C (dAt D_X10_init 8 rfl) (by decide) (by decide) rfl ga_int (by decide) (by decide) (by decide) (by decide) (by decide) ?_
  have ht := (nw_t (t := 20) (n := 12) ha).trans ht
  have ha := Nat.lt_succ_of_lt ha
  refine VputPF C hcn (dAt D_X10_init 9 rfl) gw_X10_15 ht rfl rfl rfl rfl ?_
  refine Vaload_n C 0 (dAt D_X10_init 10 rfl) rfl rfl ?_
  refine Vbipush (x := 12) C (dAt D_X10_init 11 rfl) (by decide) ?_
  refine Vnewa (t := 20) (n := 12) C (dAt D_X10_init 12 rfl) (by decide) (by decide) rfl ga_int (by decide) (by decide) (by decide) (by decide) (by decide) ?_
  have ht := (nw_t (t := 20) (n := 12) ha).trans ht
  have ha := Nat.lt_succ_of_lt ha
  refine VputPF C hcn (dAt D_X10_init 13 rfl) gw_X10_18 ht rfl rfl rfl rfl ?_
  refine Vaload_n C 0 (dAt D_X10_init 14 rfl) rfl rfl ?_
  refine Vbipush (x := 12) C (dAt D_X10_init 15 rfl) (by decide) ?_
  refine Vnewa (t := 20) (n := 12) C (dAt D_X10_init 16 rfl) (by decide) (by decide) rfl ga_int (by decide) (by decide) (by decide) (by decide) (by decide) ?_
  have ht := (nw_t (t := 20) (n := 12) ha).trans ht
  have ha := Nat.lt_succ_of_lt ha
  refine VputPF C hcn (dAt D_X10_init 17 rfl) gw_X10_21 ht rfl rfl rfl rfl ?_
  refine Vaload_n C 0 (dAt D_X10_init 18 rfl) rfl rfl ?_
  refine Vbipush (x := 12) C (dAt D_X10_init 19 rfl) (by decide) ?_
  refine Vnewa (t := 20) (n := 12) C (dAt D_X10_init 20 rfl) (by decide) (by decide) rfl ga_int (by decide) (by decide) (by decide) (by decide) (by decide) ?_
  have ht := (nw_t (t := 20) (n := 12) ha).trans ht
  have ha := Nat.lt_succ_of_lt ha
  refine VputPF C hcn (dAt D_X10_init 21 rfl) gw_X10_24 ht rfl rfl rfl rfl ?_
  refine Vaload_n C 0 (dAt D_X10_init 22 rfl) rfl rfl ?_
  refine Vbipush (x := 12) C (dAt D_X10_init 23 rfl) (by decide) ?_
  refine Vnewa (t := 20) (n := 12) C (dAt D_X10_init 24 rfl) (by decide) (by decide) rfl ga_int (by decide) (by decide) (by decide) (by decide) (by decide) ?_
  have ht := (nw_t (t := 20) (n := 12) ha).trans ht
  have ha := Nat.lt_succ_of_lt ha
  refine VputPF C hcn (dAt D_X10_init 25 rfl) gw_X10_27 ht rfl rfl rfl rfl ?_
  refine Vaload_n C 0 (dAt D_X10_init 26 rfl) rfl rfl ?_
  refine Vbipush (x := 12) C (dAt D_X10_init 27 rfl) (by decide) ?_
  refine Vnewa (t := 22) (n := 12) C (dAt D_X10_init 28 rfl) (by decide) (by decide) rfl ga_boolean (by decide) (by decide) (by decide) (by decide) (by decide) ?_
  have ht := (nw_t (t := 22) (n := 12) ha).trans ht
  have ha := Nat.lt_succ_of_lt ha
  refine VputPF C hcn (dAt D_X10_init 29 rfl) gw_X10_30 ht rfl rfl rfl rfl ?_
  refine Vaload_n C 0 (dAt D_X10_init 30 rfl) rfl rfl ?_
  refine Vbipush (x := 12) C (dAt D_X10_init 31 rfl) (by decide) ?_
  refine Vnewa (t := 20) (n := 12) C (dAt D_X10_init 32 rfl) (by decide) (by decide) rfl ga_int (by decide) (by decide) (by decide) (by decide) (by decide) ?_
  have ht := (nw_t (t := 20) (n := 12) ha).trans ht
  have ha := Nat.lt_succ_of_lt ha
  refine VputPF C hcn (dAt D_X10_init 33 rfl) gw_X10_34 ht rfl rfl rfl rfl ?_
  refine Vaload_n C 0 (dAt D_X10_init 34 rfl) rfl rfl ?_
  refine Vbipush (x := 14) C (dAt D_X10_init 35 rfl) (by decide) ?_
  refine Vnewa (t := 20) (n := 14) C (dAt D_X10_init 36 rfl) (by decide) (by decide) rfl ga_int (by decide) (by decide) (by decide) (by decide) (by decide) ?_
  have ht := (nw_t (t := 20) (n := 14) ha).trans ht
  have ha := Nat.lt_succ_of_lt ha
  refine VputPF C hcn (dAt D_X10_init 37 rfl) gw_X10_37 ht rfl rfl rfl rfl ?_
  refine Vaload_n C 0 (dAt D_X10_init 38 rfl) rfl rfl ?_
  refine Vbipush (x := 12) C (dAt D_X10_init 39 rfl) (by decide) ?_
  refine Vnewa (t := 20) (n := 12) C (dAt D_X10_init 40 rfl) (by decide) (by decide) rfl ga_int (by decide) (by decide) (by decide) (by decide) (by decide) ?_
  have ht := (nw_t (t := 20) (n := 12) ha).trans ht
  have ha := Nat.lt_succ_of_lt ha
  refine VputPF C hcn (dAt D_X10_init 41 rfl) gw_X10_40 ht rfl rfl rfl rfl ?_
  refine Vaload_n C 0 (dAt D_X10_init 42 rfl) rfl rfl ?_
  refine Vbipush (x := 14) C (dAt D_X10_init 43 rfl) (by decide) ?_
  refine Vnewa (t := 20) (n := 14) C (dAt D_X10_init 44 rfl) (by decide) (by decide) rfl ga_int (by decide) (by decide) (by decide) (by decide) (by decide) ?_
  have ht := (nw_t (t := 20) (n := 14) ha).trans ht
  have ha := Nat.lt_succ_of_lt ha
  refine VputPF C hcn (dAt D_X10_init 45 rfl) gw_X10_43 ht rfl rfl rfl rfl ?_
  refine Vaload_n C 0 (dAt D_X10_init 46 rfl) rfl rfl ?_
  refine Vaload_n C 1 (dAt D_X10_init 47 rfl) rfl rfl ?_
  refine VputPF C hcn (dAt D_X10_init 48 rfl) gw_X10_46 ht rfl rfl rfl rfl ?_
  refine Vaload_n C 0 (dAt D_X10_init 49 rfl) rfl rfl ?_
  refine Viload_n C 2 (dAt D_X10_init 50 rfl) rfl rfl ?_
  refine VputIF C hcn (dAt D_X10_init 51 rfl) gw_X10_50 ht rfl rfl rfl rfl rfl ?_
  refine Vaload_n C 0 (dAt D_X10_init 52 rfl) rfl rfl ?_
  refine Viload_n C 3 (dAt D_X10_init 53 rfl) rfl rfl ?_
  refine VputIF C hcn (dAt D_X10_init 54 rfl) gw_X10_54 ht rfl rfl rfl rfl rfl ?_
  exact Vvret C (dAt D_X10_init 55 rfl) (by decide) (by decide) ⟨rfl, rfl, rfl⟩
theorem gr_X10_init {w : LT} {u : MT} {a0 : Nat} {a1 : Nat} {x2 : Int32} {x3 : Int32} : (∀ a, a < w.1 → lt_t (F_X10_init a0 a1 x2 x3 w u).1 a = lt_t w a) ∧ (F_X10_init a0 a1 x2 x3 w u).1.1 = w.1 + 11 := by
  refine ⟨fun a h => ?_, rfl⟩
  show (if a = w.1 + 10 then 20 else (if a = w.1 + 9 then 20 else (if a = w.1 + 8 then 20 else (if a = w.1 + 7 then 20 else (if a = w.1 + 6 then 22 else (if a = w.1 + 5 then 20 else (if a = w.1 + 4 then 20 else (if a = w.1 + 3 then 20 else (if a = w.1 + 2 then 20 else (if a = w.1 + 1 then 20 else (if a = w.1 then 20 else w.2.1 a))))))))))) = w.2.1 a
  rw [if_neg (by omega), if_neg (by omega), if_neg (by omega), if_neg (by omega), if_neg (by omega), if_neg (by omega), if_neg (by omega), if_neg (by omega), if_neg (by omega), if_neg (by omega), if_neg (by omega)]
def F_X8_init (a0 : Nat) (w : LT) (u : MT) : LT × MT :=
  let w1 := nwL w 26 6
  let u1 := nwM w u
  let w2 := sP w1 a0 0 (w.1)
  (w2, u1)
theorem m_X8_init {g : GT} {w : LT} {u : MT} {a0 : Nat} (ht : lt_t w a0 = 8) (ha : a0 < w.1) : Mt g yX8_init cX8_init 1 none 1 1 6 [.ref a0] w u (Qv (F_X8_init a0 w u).1 (F_X8_init a0 w u).2) := by
  refine Mt_of (own := RX8) (by decide +kernel) rfl (Nat.le_of_ble_eq_true rfl) (fun z C hcn => ?_)
  have hcn := hcn rfl
  show V z g 1 0 [(0, .ref a0)] [] w u 0 0 _
  refine Vaload_n C 0 (dAt D_X8_init 0 rfl) rfl rfl ?_
  refine Vobj C (dAt D_X8_init 1 rfl) go_X8_3 oI oC (by omega) (Nat.le_of_ble_eq_true rfl) (by decide) ?_
  refine Vaload_n C 0 (dAt D_X8_init 2 rfl) rfl rfl ?_
  refine Vbipush (x := 6) C (dAt D_X8_init 3 rfl) (by decide) ?_
  refine Vanew (t := 26) (n := 6) C (dAt D_X8_init 4 rfl) (by decide) (by decide) rfl gc_X8_9 (by decide) (by decide) (by decide) (by decide) (by decide) ?_
  have ht := (nw_t (t := 26) (n := 6) ha).trans ht
  have ha := Nat.lt_succ_of_lt ha
  refine VputPF C hcn (dAt D_X8_init 5 rfl) gw_X8_11 ht rfl rfl rfl rfl ?_
  exact Vvret C (dAt D_X8_init 6 rfl) (by decide) (by decide) ⟨rfl, rfl, rfl⟩
theorem gr_X8_init {w : LT} {u : MT} {a0 : Nat} : (∀ a, a < w.1 → lt_t (F_X8_init a0 w u).1 a = lt_t w a) ∧ (F_X8_init a0 w u).1.1 = w.1 + 1 := by
  refine ⟨fun a h => ?_, rfl⟩
  show (if a = w.1 then 26 else w.2.1 a) = w.2.1 a
  rw [if_neg (by omega)]
def F_X1_init (a0 : Nat) (a1 : Nat) (a2 : Nat) (a3 : Nat) (a4 : Nat) (w : LT) (u : MT) : LT × MT :=
  let w1 := nwL w 20 2880
  let u1 := nwM w u
  let w2 := sP w1 a0 6 (w.1)
  let w3 := nwL w2 20 2880
  let u3 := nwM w2 u1
  let w4 := sP w3 a0 7 (w.1 + 1)
  let w5 := nwL w4 20 2880
  let u5 := nwM w4 u3
  let w6 := sP w5 a0 8 (w.1 + 2)
  let w7 := nwL w6 20 2880
  let u7 := nwM w6 u5
  let w8 := sP w7 a0 9 (w.1 + 3)
  let w9 := nwL w8 20 3360
  let u9 := nwM w8 u7
  let w10 := sP w9 a0 10 (w.1 + 4)
  let w11 := sP w10 a0 0 a1
  let w12 := sP w11 a0 1 a2
  let w13 := sP w12 a0 2 a3
  let w14 := sP w13 a0 3 a4
  (w14, u9)
theorem m_X1_init {g : GT} {w : LT} {u : MT} {a0 : Nat} {a1 : Nat} {a2 : Nat} {a3 : Nat} {a4 : Nat} (ht : lt_t w a0 = 1) (ha : a0 < w.1) : Mt g yX1_init cX1_init 5 none 1 5 14880 [.ref a0, .ref a1, .ref a2, .ref a3, .ref a4] w u (Qv (F_X1_init a0 a1 a2 a3 a4 w u).1 (F_X1_init a0 a1 a2 a3 a4 w u).2) := by
  refine Mt_of (own := RX1) (by decide +kernel) rfl (Nat.le_of_ble_eq_true rfl) (fun z C hcn => ?_)
  have hcn := hcn rfl
  show V z g 5 0 [(0, .ref a0), (1, .ref a1), (2, .ref a2), (3, .ref a3), (4, .ref a4)] [] w u 0 0 _
  refine Vaload_n C 0 (dAt D_X1_init 0 rfl) rfl rfl ?_
  refine Vobj C (dAt D_X1_init 1 rfl) go_X1_3 oI oC (by omega) (Nat.le_of_ble_eq_true rfl) (by decide) ?_
  refine Vaload_n C 0 (dAt D_X1_init 2 rfl) rfl rfl ?_
  refine Vsipush (x := 2880) C (dAt D_X1_init 3 rfl) (by decide) ?_
  refine Vnewa (t := 20) (n := 2880) C (dAt D_X1_init 4 rfl) (by decide) (by decide) rfl ga_int (by decide) (by decide) (by decide) (by decide) (by decide) ?_
  have ht := (nw_t (t := 20) (n := 2880) ha).trans ht
  have ha := Nat.lt_succ_of_lt ha
  refine VputPF C hcn (dAt D_X1_init 5 rfl) gw_X1_9 ht rfl rfl rfl rfl ?_
  refine Vaload_n C 0 (dAt D_X1_init 6 rfl) rfl rfl ?_
  refine Vsipush (x := 2880) C (dAt D_X1_init 7 rfl) (by decide) ?_
  refine Vnewa (t := 20) (n := 2880) C (dAt D_X1_init 8 rfl) (by decide) (by decide) rfl ga_int (by decide) (by decide) (by decide) (by decide) (by decide) ?_
  have ht := (nw_t (t := 20) (n := 2880) ha).trans ht
  have ha := Nat.lt_succ_of_lt ha
  refine VputPF C hcn (dAt D_X1_init 9 rfl) gw_X1_15 ht rfl rfl rfl rfl ?_
  refine Vaload_n C 0 (dAt D_X1_init 10 rfl) rfl rfl ?_
  refine Vsipush (x := 2880) C (dAt D_X1_init 11 rfl) (by decide) ?_
  refine Vnewa (t := 20) (n := 2880) C (dAt D_X1_init 12 rfl) (by decide) (by decide) rfl ga_int (by decide) (by decide) (by decide) (by decide) (by decide) ?_
  have ht := (nw_t (t := 20) (n := 2880) ha).trans ht
  have ha := Nat.lt_succ_of_lt ha
  refine VputPF C hcn (dAt D_X1_init 13 rfl) gw_X1_18 ht rfl rfl rfl rfl ?_
  refine Vaload_n C 0 (dAt D_X1_init 14 rfl) rfl rfl ?_
  refine Vsipush (x := 2880) C (dAt D_X1_init 15 rfl) (by decide) ?_
  refine Vnewa (t := 20) (n := 2880) C (dAt D_X1_init 16 rfl) (by decide) (by decide) rfl ga_int (by decide) (by decide) (by decide) (by decide) (by decide) ?_
  have ht := (nw_t (t := 20) (n := 2880) ha).trans ht
  have ha := Nat.lt_succ_of_lt ha
  refine VputPF C hcn (dAt D_X1_init 17 rfl) gw_X1_21 ht rfl rfl rfl rfl ?_
  refine Vaload_n C 0 (dAt D_X1_init 18 rfl) rfl rfl ?_
  refine Vsipush (x := 3360) C (dAt D_X1_init 19 rfl) (by decide) ?_
  refine Vnewa (t := 20) (n := 3360) C (dAt D_X1_init 20 rfl) (by decide) (by decide) rfl ga_int (by decide) (by decide) (by decide) (by decide) (by decide) ?_
  have ht := (nw_t (t := 20) (n := 3360) ha).trans ht
  have ha := Nat.lt_succ_of_lt ha
  refine VputPF C hcn (dAt D_X1_init 21 rfl) gw_X1_24 ht rfl rfl rfl rfl ?_
  refine Vaload_n C 0 (dAt D_X1_init 22 rfl) rfl rfl ?_
  refine Vaload_n C 1 (dAt D_X1_init 23 rfl) rfl rfl ?_
  refine VputPF C hcn (dAt D_X1_init 24 rfl) gw_X1_27 ht rfl rfl rfl rfl ?_
  refine Vaload_n C 0 (dAt D_X1_init 25 rfl) rfl rfl ?_
  refine Vaload_n C 2 (dAt D_X1_init 26 rfl) rfl rfl ?_
  refine VputPF C hcn (dAt D_X1_init 27 rfl) gw_X1_31 ht rfl rfl rfl rfl ?_
  refine Vaload_n C 0 (dAt D_X1_init 28 rfl) rfl rfl ?_
  refine Vaload_n C 3 (dAt D_X1_init 29 rfl) rfl rfl ?_
  refine VputPF C hcn (dAt D_X1_init 30 rfl) gw_X1_35 ht rfl rfl rfl rfl ?_
  refine Vaload_n C 0 (dAt D_X1_init 31 rfl) rfl rfl ?_
  refine Vaload C 4 (dAt D_X1_init 32 rfl) rfl ?_
  refine VputPF C hcn (dAt D_X1_init 33 rfl) gw_X1_39 ht rfl rfl rfl rfl ?_
  exact Vvret C (dAt D_X1_init 34 rfl) (by decide) (by decide) ⟨rfl, rfl, rfl⟩
theorem gr_X1_init {w : LT} {u : MT} {a0 : Nat} {a1 : Nat} {a2 : Nat} {a3 : Nat} {a4 : Nat} : (∀ a, a < w.1 → lt_t (F_X1_init a0 a1 a2 a3 a4 w u).1 a = lt_t w a) ∧ (F_X1_init a0 a1 a2 a3 a4 w u).1.1 = w.1 + 5 := by
  refine ⟨fun a h => ?_, rfl⟩
  show (if a = w.1 + 4 then 20 else (if a = w.1 + 3 then 20 else (if a = w.1 + 2 then 20 else (if a = w.1 + 1 then 20 else (if a = w.1 then 20 else w.2.1 a))))) = w.2.1 a
  rw [if_neg (by omega), if_neg (by omega), if_neg (by omega), if_neg (by omega), if_neg (by omega)]
def F_X0_init (a0 : Nat) (w : LT) (u : MT) : LT × MT :=
  let w1 := nwL w 20 140
  let u1 := nwM w u
  let w2 := sP w1 a0 0 (w.1)
  (w2, u1)
theorem m_X0_init {g : GT} {w : LT} {u : MT} {a0 : Nat} (ht : lt_t w a0 = 0) (ha : a0 < w.1) : Mt g yX0_init cX0_init 1 none 1 1 140 [.ref a0] w u (Qv (F_X0_init a0 w u).1 (F_X0_init a0 w u).2) := by
  refine Mt_of (own := RX0) (by decide +kernel) rfl (Nat.le_of_ble_eq_true rfl) (fun z C hcn => ?_)
  have hcn := hcn rfl
  show V z g 1 0 [(0, .ref a0)] [] w u 0 0 _
  refine Vaload_n C 0 (dAt D_X0_init 0 rfl) rfl rfl ?_
  refine Vobj C (dAt D_X0_init 1 rfl) go_X0_3 oI oC (by omega) (Nat.le_of_ble_eq_true rfl) (by decide) ?_
  refine Vaload_n C 0 (dAt D_X0_init 2 rfl) rfl rfl ?_
  refine Vsipush (x := 140) C (dAt D_X0_init 3 rfl) (by decide) ?_
  refine Vnewa (t := 20) (n := 140) C (dAt D_X0_init 4 rfl) (by decide) (by decide) rfl ga_int (by decide) (by decide) (by decide) (by decide) (by decide) ?_
  have ht := (nw_t (t := 20) (n := 140) ha).trans ht
  have ha := Nat.lt_succ_of_lt ha
  refine VputPF C hcn (dAt D_X0_init 5 rfl) gw_X0_11 ht rfl rfl rfl rfl ?_
  exact Vvret C (dAt D_X0_init 6 rfl) (by decide) (by decide) ⟨rfl, rfl, rfl⟩
theorem gr_X0_init {w : LT} {u : MT} {a0 : Nat} : (∀ a, a < w.1 → lt_t (F_X0_init a0 w u).1 a = lt_t w a) ∧ (F_X0_init a0 w u).1.1 = w.1 + 1 := by
  refine ⟨fun a h => ?_, rfl⟩
  show (if a = w.1 then 20 else w.2.1 a) = w.2.1 a
  rw [if_neg (by omega)]
