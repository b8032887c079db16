/-! ===== THE CLASS'S CONSTRUCTOR, as the law calls it ===== -/
def z0 : MT := (fun _ _ => 0, fun _ _ => 0, fun _ _ => 0)
def w00 : LT := (100, fun _ => 99, fun _ => 0, fun _ _ => 0)
def inF (x a b : Int32) : Int32 := if x < a then 0 else if b < x then 0 else 1
def capX (x : Int32) : Int32 := if inF x 0 1000000 = 0 then 1000 else x
def lossX (x : Int32) : Int32 := if inF x 0 500 = 0 then 0 else x
theorem m1_X11_isIn {g : GT} {w : LT} {x0 : Int32} {x1 : Int32} {x2 : Int32} {f : Nat} {u : MT} {r : (Int32 × MT)} (h : F_X11_isIn f x0 x1 x2 u = some r) : Mt g yX11_isIn cX11_isIn 3 (some .boolean) 0 0 0 [.int x0, .int x1, .int x2] w u (Qi r.1 w r.2) := by
  refine Mt_of (own := RX11) (by decide +kernel) rfl (Nat.le_of_ble_eq_true rfl) (fun z C _ => ?_)
  show V z g 3 0 [(0, .int x0), (1, .int x1), (2, .int x2)] [] w u 0 0 (Qi r.1 w r.2)
  rw [F_X11_isIn] at h
  refine Viload_n C 0 (dAt D_X11_isIn 0 rfl) rfl rfl ?_
  refine Viload_n C 1 (dAt D_X11_isIn 1 rfl) rfl rfl ?_
  refine Vicmp_lt (tgt := 14) C (dAt D_X11_isIn 2 rfl) (by decide) (fun c1 => ?_) (fun c1 => ?_)
  · have h := ok_t c1 h
    refine Viconst (x := 0) C (dAt D_X11_isIn 8 rfl) (by decide) ?_
    cases h
    exact Vzret C (dAt D_X11_isIn 9 rfl) rfl (by decide) (by decide) ⟨rfl, rfl, rfl⟩
  · have h := ok_f c1 h
    refine Viload_n C 0 (dAt D_X11_isIn 3 rfl) rfl rfl ?_
    refine Viload_n C 2 (dAt D_X11_isIn 4 rfl) rfl rfl ?_
    refine Vicmp_gt (tgt := 14) C (dAt D_X11_isIn 5 rfl) (by decide) (fun c2 => ?_) (fun c2 => ?_)
    · have h := ok_t c2 h
      refine Viconst (x := 0) C (dAt D_X11_isIn 8 rfl) (by decide) ?_
      cases h
      exact Vzret C (dAt D_X11_isIn 9 rfl) rfl (by decide) (by decide) ⟨rfl, rfl, rfl⟩
    · have h := ok_f c2 h
      refine Viconst (x := 1) C (dAt D_X11_isIn 6 rfl) (by decide) ?_
      refine Vgoto (tgt := 15) C (dAt D_X11_isIn 7 rfl) (by decide) ?_
      cases h
      exact Vzret C (dAt D_X11_isIn 9 rfl) rfl (by decide) (by decide) ⟨rfl, rfl, rfl⟩
theorem m0_isIn {g : GT} {w : LT} {u : MT} {x a b : Int32} : Mt g yX11_isIn cX11_isIn 3 (some .boolean) 0 0 0 [.int x, .int a, .int b] w u (Qi (inF x a b) w u) :=
  m1_X11_isIn (f := 0) (r := (inF x a b, u)) (by unfold F_X11_isIn inF; split; rfl; split <;> rfl)
theorem VnewQ {z : ZT} {g : GT} {cc : ByteArray} {nL : Nat} {own : String} {ret : Option FieldType} {D mc ms : Nat} {pc : Nat} {lv : List (Nat × Value)} {st : List Value} {w : LT} {u : MT} {kc ks : Nat} {Q : Option Value → LT → MT → Prop} {idx t : Nat} (q : Nat) (hq : w.1 = q) (C : Cx z g cc nL own ret D mc ms) (d : decode cc pc = .ok (.new idx, 3)) (ht : t < 13) (h1 : Cond.classLink own idx (cS t) ∈ WT) (h2 : Cond.instantiable (cS t) (cN t) ∈ WT) (h3 : Cond.initialized (cS t) ∈ WT) (hc : kc + 1 ≤ mc) (hs : ks + cN t ≤ ms) (k : V z g nL (pc + 3) lv (.ref q :: st) (nwL w t 0) (nwM w u) (kc + 1) (ks + cN t) Q) : V z g nL pc lv st w u kc ks Q := by
  subst hq
  exact Vnew C d ht h1 h2 h3 hc hs k
def WA0 : LT := nwL w00 11 0
def WB0 : LT := (F_X2_init 101 (nwL WA0 2 0) z0).1
def WA1 : LT := sP WB0 100 0 101
def WB1 : LT := (F_X4_init 104 (nwL WA1 4 0) z0).1
def WA2 : LT := sP WB1 100 1 104
def WB2 : LT := (F_X6_init 110 (nwL WA2 6 0) z0).1
def WA3 : LT := sP WB2 100 2 110
def WB3 : LT := (F_X3_init 112 (nwL WA3 3 0) z0).1
def WA4 : LT := sP WB3 100 3 112
def WB4 : LT := (F_X10_init 116 101 0 0 (nwL WA4 10 0) z0).1
def WA5 : LT := sP WB4 100 4 116
def WB5 : LT := (F_X8_init 128 (nwL WA5 8 0) z0).1
def WA6 : LT := sP WB5 100 5 128
def WB6 : LT := (F_X1_init 130 101 104 128 116 (nwL WA6 1 0) z0).1
def WA7 : LT := sP WB6 100 6 130
def WB7 : LT := (F_X0_init 136 (nwL WA7 0 0) z0).1
def WA8 : LT := sP WB7 100 7 136
def WB8 : LT := (F_X8_init 138 (nwL WA8 8 0) z0).1
def WA9 : LT := sP WB8 100 8 138
def WB9 : LT := (F_X7_init 140 (nwL WA9 7 0) z0).1
def WA10 : LT := sP WB9 100 10 140
def GA10 (x1 x2 : Int32) (u : MT) : MT := sI u 100 12 (-1)
def GA9 (x1 x2 : Int32) (u : MT) : MT := GA10 x1 x2 (F_X7_init 140 (nwL WA9 7 0) (nwM WA9 u)).2
def GA8 (x1 x2 : Int32) (u : MT) : MT := GA9 x1 x2 (F_X8_init 138 (nwL WA8 8 0) (nwM WA8 u)).2
def GA7 (x1 x2 : Int32) (u : MT) : MT := GA8 x1 x2 (F_X0_init 136 (nwL WA7 0 0) (nwM WA7 u)).2
def GA6 (x1 x2 : Int32) (u : MT) : MT := GA7 x1 x2 (F_X1_init 130 101 104 128 116 (nwL WA6 1 0) (nwM WA6 u)).2
def GA5 (x1 x2 : Int32) (u : MT) : MT := GA6 x1 x2 (F_X8_init 128 (nwL WA5 8 0) (nwM WA5 u)).2
def GA4 (x1 x2 : Int32) (u : MT) : MT := GA5 x1 x2 (F_X10_init 116 101 (capX x1) (lossX x2) (nwL WA4 10 0) (nwM WA4 u)).2
def GA3 (x1 x2 : Int32) (u : MT) : MT := GA4 x1 x2 (F_X3_init 112 (nwL WA3 3 0) (nwM WA3 u)).2
def GA2 (x1 x2 : Int32) (u : MT) : MT := GA3 x1 x2 (F_X6_init 110 (nwL WA2 6 0) (nwM WA2 u)).2
def GA1 (x1 x2 : Int32) (u : MT) : MT := GA2 x1 x2 (F_X4_init 104 (nwL WA1 4 0) (nwM WA1 u)).2
def GA0 (x1 x2 : Int32) (u : MT) : MT := GA1 x1 x2 (F_X2_init 101 (nwL WA0 2 0) (nwM WA0 u)).2
set_option maxRecDepth 20000 in
set_option maxHeartbeats 2000000 in
theorem sA10 {z : ZT} {g : GT} {u r : MT} {x1 x2 : Int32} (C : Cx z g cX11_init 3 RX11 none 4 66 23522) (hcn : Cn z) (h : GA10 x1 x2 u = r) : V z g 3 167 [(0, .ref 100), (1, .int x1), (2, .int x2)] [] WA10 u 66 23522 (Qv WA10 r) := by
  subst h
  refine Vaload_n C 0 (dAt D_X11_init 78 rfl) rfl rfl ?_
  refine Viconst (x := -1) C (dAt D_X11_init 79 rfl) (by decide) ?_
  refine VputI C (dAt D_X11_init 80 rfl) gf_X11_84 rfl rfl rfl rfl rfl ?_
  exact Vvret C (dAt D_X11_init 81 rfl) (by decide) (by decide) ⟨rfl, rfl, rfl⟩
set_option maxRecDepth 20000 in
set_option maxHeartbeats 2000000 in
theorem sA9 {z : ZT} {g : GT} {u r : MT} {x1 x2 : Int32} (C : Cx z g cX11_init 3 RX11 none 4 66 23522) (hcn : Cn z) (h : GA9 x1 x2 u = r) : V z g 3 156 [(0, .ref 100), (1, .int x1), (2, .int x2)] [] WA9 u 39 22051 (Qv WA10 r) := by
  refine Vaload_n C 0 (dAt D_X11_init 73 rfl) rfl rfl ?_
  refine VnewQ (t := 7) 140 rfl C (dAt D_X11_init 74 rfl) (by decide) gc_X11_77 gi_7 gz_7 (by decide) (by decide) ?_
  refine Vdup C (dAt D_X11_init 75 rfl) rfl ?_
  have hM : Mt g yX7_init cX7_init 2 none 2 26 1464 [.ref 140] (nwL WA9 7 0) (nwM WA9 u) (Qv WB9 (F_X7_init 140 (nwL WA9 7 0) (nwM WA9 u)).2) := m_X7_init (a0 := 140) rfl (by decide)
  refine VcallI (as := []) (t := 7) C (dAt D_X11_init 76 rfl) hM yb_X11_79 yi_X11_79 rfl rfl (by decide) rfl rfl (Nat.le_of_ble_eq_true rfl) (by decide) (by decide) (by decide) (by decide) (Kvoid ?_)
  refine VputP C (dAt D_X11_init 77 rfl) gf_X11_80 rfl rfl rfl rfl ?_
  exact sA10 C hcn h
set_option maxRecDepth 20000 in
set_option maxHeartbeats 2000000 in
theorem sA8 {z : ZT} {g : GT} {u r : MT} {x1 x2 : Int32} (C : Cx z g cX11_init 3 RX11 none 4 66 23522) (hcn : Cn z) (h : GA8 x1 x2 u = r) : V z g 3 145 [(0, .ref 100), (1, .int x1), (2, .int x2)] [] WA8 u 37 22043 (Qv WA10 r) := by
  refine Vaload_n C 0 (dAt D_X11_init 68 rfl) rfl rfl ?_
  refine VnewQ (t := 8) 138 rfl C (dAt D_X11_init 69 rfl) (by decide) gc_X11_51 gi_8 gz_8 (by decide) (by decide) ?_
  refine Vdup C (dAt D_X11_init 70 rfl) rfl ?_
  have hM : Mt g yX8_init cX8_init 1 none 1 1 6 [.ref 138] (nwL WA8 8 0) (nwM WA8 u) (Qv WB8 (F_X8_init 138 (nwL WA8 8 0) (nwM WA8 u)).2) := m_X8_init (a0 := 138) rfl (by decide)
  refine VcallI (as := []) (t := 8) C (dAt D_X11_init 71 rfl) hM yb_X11_53 yi_X11_53 rfl rfl (by decide) rfl rfl (Nat.le_of_ble_eq_true rfl) (by decide) (by decide) (by decide) (by decide) (Kvoid ?_)
  refine VputPF C hcn (dAt D_X11_init 72 rfl) gw_X11_74 rfl rfl rfl rfl rfl ?_
  exact sA9 C hcn h
set_option maxRecDepth 20000 in
set_option maxHeartbeats 2000000 in
theorem sA7 {z : ZT} {g : GT} {u r : MT} {x1 x2 : Int32} (C : Cx z g cX11_init 3 RX11 none 4 66 23522) (hcn : Cn z) (h : GA7 x1 x2 u = r) : V z g 3 134 [(0, .ref 100), (1, .int x1), (2, .int x2)] [] WA7 u 35 21901 (Qv WA10 r) := by
  refine Vaload_n C 0 (dAt D_X11_init 63 rfl) rfl rfl ?_
  refine VnewQ (t := 0) 136 rfl C (dAt D_X11_init 64 rfl) (by decide) gc_X11_67 gi_0 gz_0 (by decide) (by decide) ?_
  refine Vdup C (dAt D_X11_init 65 rfl) rfl ?_
  have hM : Mt g yX0_init cX0_init 1 none 1 1 140 [.ref 136] (nwL WA7 0 0) (nwM WA7 u) (Qv WB7 (F_X0_init 136 (nwL WA7 0 0) (nwM WA7 u)).2) := m_X0_init (a0 := 136) rfl (by decide)
  refine VcallI (as := []) (t := 0) C (dAt D_X11_init 66 rfl) hM yb_X11_69 yi_X11_69 rfl rfl (by decide) rfl rfl (Nat.le_of_ble_eq_true rfl) (by decide) (by decide) (by decide) (by decide) (Kvoid ?_)
  refine VputPF C hcn (dAt D_X11_init 67 rfl) gw_X11_70 rfl rfl rfl rfl rfl ?_
  exact sA8 C hcn h
set_option maxRecDepth 20000 in
set_option maxHeartbeats 2000000 in
theorem sA6 {z : ZT} {g : GT} {u r : MT} {x1 x2 : Int32} (C : Cx z g cX11_init 3 RX11 none 4 66 23522) (hcn : Cn z) (h : GA6 x1 x2 u = r) : V z g 3 107 [(0, .ref 100), (1, .int x1), (2, .int x2)] [] WA6 u 29 7010 (Qv WA10 r) := by
  refine Vaload_n C 0 (dAt D_X11_init 50 rfl) rfl rfl ?_
  refine VnewQ (t := 1) 130 rfl C (dAt D_X11_init 51 rfl) (by decide) gc_X11_58 gi_1 gz_1 (by decide) (by decide) ?_
  refine Vdup C (dAt D_X11_init 52 rfl) rfl ?_
  have hM : Mt g yX1_init cX1_init 5 none 1 5 14880 [.ref 130, .ref 101, .ref 104, .ref 128, .ref 116] (nwL WA6 1 0) (nwM WA6 u) (Qv WB6 (F_X1_init 130 101 104 128 116 (nwL WA6 1 0) (nwM WA6 u)).2) := m_X1_init (a0 := 130) rfl (by decide)
  refine Vaload_n C 0 (dAt D_X11_init 53 rfl) rfl rfl ?_
  refine VgetP (b := 101) C (dAt D_X11_init 54 rfl) gf_X11_10 rfl rfl rfl ?_
  refine Vaload_n C 0 (dAt D_X11_init 55 rfl) rfl rfl ?_
  refine VgetP (b := 104) C (dAt D_X11_init 56 rfl) gf_X11_19 rfl rfl rfl ?_
  refine Vaload_n C 0 (dAt D_X11_init 57 rfl) rfl rfl ?_
  refine VgetP (b := 128) C (dAt D_X11_init 58 rfl) gf_X11_54 rfl rfl rfl ?_
  refine Vaload_n C 0 (dAt D_X11_init 59 rfl) rfl rfl ?_
  refine VgetP (b := 116) C (dAt D_X11_init 60 rfl) gf_X11_47 rfl rfl rfl ?_
  refine VcallI (as := [.ref 101, .ref 104, .ref 128, .ref 116]) (t := 1) C (dAt D_X11_init 61 rfl) hM yb_X11_60 yi_X11_60 rfl rfl (by decide) rfl rfl (Nat.le_of_ble_eq_true rfl) (by decide) (by decide) (by decide) (by decide) (Kvoid ?_)
  refine VputPF C hcn (dAt D_X11_init 62 rfl) gw_X11_63 rfl rfl rfl rfl rfl ?_
  exact sA7 C hcn h
set_option maxRecDepth 20000 in
set_option maxHeartbeats 2000000 in
theorem sA5 {z : ZT} {g : GT} {u r : MT} {x1 x2 : Int32} (C : Cx z g cX11_init 3 RX11 none 4 66 23522) (hcn : Cn z) (h : GA5 x1 x2 u = r) : V z g 3 96 [(0, .ref 100), (1, .int x1), (2, .int x2)] [] WA5 u 27 7002 (Qv WA10 r) := by
  refine Vaload_n C 0 (dAt D_X11_init 45 rfl) rfl rfl ?_
  refine VnewQ (t := 8) 128 rfl C (dAt D_X11_init 46 rfl) (by decide) gc_X11_51 gi_8 gz_8 (by decide) (by decide) ?_
  refine Vdup C (dAt D_X11_init 47 rfl) rfl ?_
  have hM : Mt g yX8_init cX8_init 1 none 1 1 6 [.ref 128] (nwL WA5 8 0) (nwM WA5 u) (Qv WB5 (F_X8_init 128 (nwL WA5 8 0) (nwM WA5 u)).2) := m_X8_init (a0 := 128) rfl (by decide)
  refine VcallI (as := []) (t := 8) C (dAt D_X11_init 48 rfl) hM yb_X11_53 yi_X11_53 rfl rfl (by decide) rfl rfl (Nat.le_of_ble_eq_true rfl) (by decide) (by decide) (by decide) (by decide) (Kvoid ?_)
  refine VputPF C hcn (dAt D_X11_init 49 rfl) gw_X11_54 rfl rfl rfl rfl rfl ?_
  exact sA6 C hcn h
set_option maxRecDepth 20000 in
set_option maxHeartbeats 2000000 in
theorem sA4 {z : ZT} {g : GT} {u r : MT} {x1 x2 : Int32} (C : Cx z g cX11_init 3 RX11 none 4 66 23522) (hcn : Cn z) (h : GA4 x1 x2 u = r) : V z g 3 48 [(0, .ref 100), (1, .int x1), (2, .int x2)] [] WA4 u 15 6846 (Qv WA10 r) := by
  refine Vaload_n C 0 (dAt D_X11_init 22 rfl) rfl rfl ?_
  refine VnewQ (t := 10) 116 rfl C (dAt D_X11_init 23 rfl) (by decide) gc_X11_37 gi_10 gz_10 (by decide) (by decide) ?_
  refine Vdup C (dAt D_X11_init 24 rfl) rfl ?_
  have hM : Mt g yX10_init cX10_init 4 none 1 11 136 [.ref 116, .ref 101, .int (capX x1), .int (lossX x2)] (nwL WA4 10 0) (nwM WA4 u) (Qv WB4 (F_X10_init 116 101 (capX x1) (lossX x2) (nwL WA4 10 0) (nwM WA4 u)).2) := m_X10_init (a0 := 116) rfl (by decide)
  have j2 : ∀ v : Int32, v = lossX x2 → V z g 3 90 [(0, .ref 100), (1, .int x1), (2, .int x2)] [.int v, .int (capX x1), .ref 101, .ref 116, .ref 116, .ref 100] (nwL WA4 10 0) (nwM WA4 u) 16 6866 (Qv WA10 r) := by
    intro v hv
    subst hv
    refine VcallI (as := [.ref 101, .int (capX x1), .int (lossX x2)]) (t := 10) C (dAt D_X11_init 43 rfl) hM yb_X11_44 yi_X11_44 rfl rfl (by decide) rfl rfl (Nat.le_of_ble_eq_true rfl) (by decide) (by decide) (by decide) (by decide) (Kvoid ?_)
    refine VputPF C hcn (dAt D_X11_init 44 rfl) gw_X11_47 rfl rfl rfl rfl rfl ?_
    exact sA5 C hcn h
  have j1 : ∀ v : Int32, v = capX x1 → V z g 3 74 [(0, .ref 100), (1, .int x1), (2, .int x2)] [.int v, .ref 101, .ref 116, .ref 116, .ref 100] (nwL WA4 10 0) (nwM WA4 u) 16 6866 (Qv WA10 r) := by
    intro v hv
    subst hv
    refine Viload_n C 2 (dAt D_X11_init 35 rfl) rfl rfl ?_
    refine Viconst (x := 0) C (dAt D_X11_init 36 rfl) (by decide) ?_
    refine Vsipush (x := 500) C (dAt D_X11_init 37 rfl) (by decide) ?_
    refine VcallS (as := [_, _, _]) C (dAt D_X11_init 38 rfl) m0_isIn yb_X11_40 ys_X11_40 rfl rfl (Nat.le_of_ble_eq_true rfl) (by decide) (by decide) (by decide) (by decide) (Kint ?_)
    refine Vif_eq (tgt := 89) C (dAt D_X11_init 39 rfl) (by decide) (fun c => ?_) (fun c => ?_)
    · refine Viconst (x := 0) C (dAt D_X11_init 42 rfl) (by decide) ?_
      exact j2 0 (by simp [lossX, c])
    · refine Viload_n C 2 (dAt D_X11_init 40 rfl) rfl rfl ?_
      refine Vgoto (tgt := 90) C (dAt D_X11_init 41 rfl) (by decide) ?_
      exact j2 x2 (by simp [lossX, c])
  refine Vaload_n C 0 (dAt D_X11_init 25 rfl) rfl rfl ?_
  refine VgetP (b := 101) C (dAt D_X11_init 26 rfl) gf_X11_10 rfl rfl rfl ?_
  refine Viload_n C 1 (dAt D_X11_init 27 rfl) rfl rfl ?_
  refine Viconst (x := 0) C (dAt D_X11_init 28 rfl) (by decide) ?_
  refine Vldc C gl_X11_39 (dAt D_X11_init 29 rfl) ?_
  refine VcallS (as := [_, _, _]) C (dAt D_X11_init 30 rfl) m0_isIn yb_X11_40 ys_X11_40 rfl rfl (Nat.le_of_ble_eq_true rfl) (by decide) (by decide) (by decide) (by decide) (Kint ?_)
  refine Vif_eq (tgt := 71) C (dAt D_X11_init 31 rfl) (by decide) (fun c => ?_) (fun c => ?_)
  · refine Vsipush (x := 1000) C (dAt D_X11_init 34 rfl) (by decide) ?_
    exact j1 1000 (by simp [capX, c])
  · refine Viload_n C 1 (dAt D_X11_init 32 rfl) rfl rfl ?_
    refine Vgoto (tgt := 74) C (dAt D_X11_init 33 rfl) (by decide) ?_
    exact j1 x1 (by simp [capX, c])
set_option maxRecDepth 20000 in
set_option maxHeartbeats 2000000 in
theorem sA3 {z : ZT} {g : GT} {u r : MT} {x1 x2 : Int32} (C : Cx z g cX11_init 3 RX11 none 4 66 23522) (hcn : Cn z) (h : GA3 x1 x2 u = r) : V z g 3 37 [(0, .ref 100), (1, .int x1), (2, .int x2)] [] WA3 u 11 3235 (Qv WA10 r) := by
  refine Vaload_n C 0 (dAt D_X11_init 17 rfl) rfl rfl ?_
  refine VnewQ (t := 3) 112 rfl C (dAt D_X11_init 18 rfl) (by decide) gc_X11_30 gi_3 gz_3 (by decide) (by decide) ?_
  refine Vdup C (dAt D_X11_init 19 rfl) rfl ?_
  have hM : Mt g yX3_init cX3_init 1 none 1 3 3603 [.ref 112] (nwL WA3 3 0) (nwM WA3 u) (Qv WB3 (F_X3_init 112 (nwL WA3 3 0) (nwM WA3 u)).2) := m_X3_init (a0 := 112) rfl (by decide)
  refine VcallI (as := []) (t := 3) C (dAt D_X11_init 20 rfl) hM yb_X11_32 yi_X11_32 rfl rfl (by decide) rfl rfl (Nat.le_of_ble_eq_true rfl) (by decide) (by decide) (by decide) (by decide) (Kvoid ?_)
  refine VputPF C hcn (dAt D_X11_init 21 rfl) gw_X11_33 rfl rfl rfl rfl rfl ?_
  exact sA4 C hcn h
set_option maxRecDepth 20000 in
set_option maxHeartbeats 2000000 in
theorem sA2 {z : ZT} {g : GT} {u r : MT} {x1 x2 : Int32} (C : Cx z g cX11_init 3 RX11 none 4 66 23522) (hcn : Cn z) (h : GA2 x1 x2 u = r) : V z g 3 26 [(0, .ref 100), (1, .int x1), (2, .int x2)] [] WA2 u 9 2033 (Qv WA10 r) := by
  refine Vaload_n C 0 (dAt D_X11_init 12 rfl) rfl rfl ?_
  refine VnewQ (t := 6) 110 rfl C (dAt D_X11_init 13 rfl) (by decide) gc_X11_23 gi_6 gz_6 (by decide) (by decide) ?_
  refine Vdup C (dAt D_X11_init 14 rfl) rfl ?_
  have hM : Mt g yX6_init cX6_init 1 none 1 1 1200 [.ref 110] (nwL WA2 6 0) (nwM WA2 u) (Qv WB2 (F_X6_init 110 (nwL WA2 6 0) (nwM WA2 u)).2) := m_X6_init (a0 := 110) rfl (by decide)
  refine VcallI (as := []) (t := 6) C (dAt D_X11_init 15 rfl) hM yb_X11_25 yi_X11_25 rfl rfl (by decide) rfl rfl (Nat.le_of_ble_eq_true rfl) (by decide) (by decide) (by decide) (by decide) (Kvoid ?_)
  refine VputPF C hcn (dAt D_X11_init 16 rfl) gw_X11_26 rfl rfl rfl rfl rfl ?_
  exact sA3 C hcn h
set_option maxRecDepth 20000 in
set_option maxHeartbeats 2000000 in
theorem sA1 {z : ZT} {g : GT} {u r : MT} {x1 x2 : Int32} (C : Cx z g cX11_init 3 RX11 none 4 66 23522) (hcn : Cn z) (h : GA1 x1 x2 u = r) : V z g 3 15 [(0, .ref 100), (1, .int x1), (2, .int x2)] [] WA1 u 3 27 (Qv WA10 r) := by
  refine Vaload_n C 0 (dAt D_X11_init 7 rfl) rfl rfl ?_
  refine VnewQ (t := 4) 104 rfl C (dAt D_X11_init 8 rfl) (by decide) gc_X11_16 gi_4 gz_4 (by decide) (by decide) ?_
  refine Vdup C (dAt D_X11_init 9 rfl) rfl ?_
  have hM : Mt g yX4_init cX4_init 1 none 1 5 2000 [.ref 104] (nwL WA1 4 0) (nwM WA1 u) (Qv WB1 (F_X4_init 104 (nwL WA1 4 0) (nwM WA1 u)).2) := m_X4_init (a0 := 104) rfl (by decide)
  refine VcallI (as := []) (t := 4) C (dAt D_X11_init 10 rfl) hM yb_X11_18 yi_X11_18 rfl rfl (by decide) rfl rfl (Nat.le_of_ble_eq_true rfl) (by decide) (by decide) (by decide) (by decide) (Kvoid ?_)
  refine VputPF C hcn (dAt D_X11_init 11 rfl) gw_X11_19 rfl rfl rfl rfl rfl ?_
  exact sA2 C hcn h
set_option maxRecDepth 20000 in
set_option maxHeartbeats 2000000 in
theorem sA0 {z : ZT} {g : GT} {u r : MT} {x1 x2 : Int32} (C : Cx z g cX11_init 3 RX11 none 4 66 23522) (hcn : Cn z) (h : GA0 x1 x2 u = r) : V z g 3 4 [(0, .ref 100), (1, .int x1), (2, .int x2)] [] WA0 u 0 0 (Qv WA10 r) := by
  refine Vaload_n C 0 (dAt D_X11_init 2 rfl) rfl rfl ?_
  refine VnewQ (t := 2) 101 rfl C (dAt D_X11_init 3 rfl) (by decide) gc_X11_7 gi_2 gz_2 (by decide) (by decide) ?_
  refine Vdup C (dAt D_X11_init 4 rfl) rfl ?_
  have hM : Mt g yX2_init cX2_init 1 none 1 2 24 [.ref 101] (nwL WA0 2 0) (nwM WA0 u) (Qv WB0 (F_X2_init 101 (nwL WA0 2 0) (nwM WA0 u)).2) := m_X2_init (a0 := 101) rfl (by decide)
  refine VcallI (as := []) (t := 2) C (dAt D_X11_init 5 rfl) hM yb_X11_9 yi_X11_9 rfl rfl (by decide) rfl rfl (Nat.le_of_ble_eq_true rfl) (by decide) (by decide) (by decide) (by decide) (Kvoid ?_)
  refine VputPF C hcn (dAt D_X11_init 6 rfl) gw_X11_10 rfl rfl rfl rfl rfl ?_
  exact sA1 C hcn h
theorem m_X11_init {g : GT} {u : MT} {x1 x2 : Int32} : Mt g yX11_init cX11_init 3 none 4 66 23522 [.ref 100, .int x1, .int x2] WA0 u (Qv WA10 (GA0 x1 x2 u)) := by
  refine Mt_of (own := RX11) (by decide +kernel) rfl (Nat.le_of_ble_eq_true rfl) (fun z C hcn => ?_)
  have hcn := hcn rfl
  show V z g 3 0 [(0, .ref 100), (1, .int x1), (2, .int x2)] [] WA0 u 0 0 _
  refine Vaload_n C 0 (dAt D_X11_init 0 rfl) rfl rfl ?_
  refine Vobj C (dAt D_X11_init 1 rfl) go_X11_1 oI oC (by decide) (Nat.le_of_ble_eq_true rfl) (by decide) ?_
  exact sA0 C hcn rfl
