/-! ===== THE REFERENCE'S CONSTRUCTOR ===== -/
theorem nw_ln {w : LT} {t n : Nat} : lt_l (nwL w t n) w.1 = n := if_pos rfl
theorem VnewaQ {z : ZT} {g : GT} {cc : ByteArray} {nL : Nat} {own : String} {ret : Option FieldType} {D mc ms : Nat} {pc : Nat} {lv : List (Nat × Value)} {st : List Value} {w : LT} {u : MT} {kc ks : Nat} {Q : Option Value → LT → MT → Prop} {at_ : ArrayType} {t n : Nat} {x : Int32} (q : Nat) (hq : w.1 = q) (C : Cx z g cc nL own ret D mc ms) (d : decode cc pc = .ok (.newarray at_, 2)) (ht1 : 20 ≤ t) (ht2 : t < 24) (hty : newarray.typeOf at_ = aTy t) (hw : Cond.arrayClass (newarray.typeOf at_) ∈ WT) (hx0 : ¬ x < 0) (hxn : x.toNatClampNeg = n) (hn : n * 8 ≤ 536870912) (hc : kc + 1 ≤ mc) (hs : ks + n ≤ ms) (k : V z g nL (pc + 2) lv (.ref q :: st) (nwL w t n) (nwM w u) (kc + 1) (ks + n) Q) : V z g nL pc lv (.int x :: st) w u kc ks Q := by
  subst hq
  exact Vnewa C d ht1 ht2 hty hw hx0 hxn hn hc hs k
def capF (x : Int32) : Int32 := if x < 0 then 1000 else if x ≤ 1000000 then x else 1000
def lossF (x : Int32) : Int32 := if x < 0 then 0 else if x ≤ 500 then x else 0
theorem X12_tail {z : ZT} {g : GT} {w : LT} {u : MT} {a0 : Nat} {x1 x2 : Int32} {kc ks D mc ms : Nat} (C : Cx z g cX12_init 3 RX12 none D mc ms) (hcn : Cn z) (ht : lt_t w a0 = 12) (h1 : kc ≤ mc) (h2 : ks ≤ ms) :
    V z g 3 575 [(0, .ref a0), (1, .int x1), (2, .int x2)] [] w u kc ks (Qv w (sI (sI u a0 29 (capF x1)) a0 30 (lossF x2))) := by
  have j2 : ∀ (v : Int32) (u2 : MT), v = lossF x2 → V z g 3 613 [(0, .ref a0), (1, .int x1), (2, .int x2)] [.int v, .ref a0] w u2 kc ks (Qv w (sI u2 a0 30 (lossF x2))) := by
    intro v u2 hv
    subst hv
    refine VputIF C hcn (dAt D_X12_init 312 rfl) gw_X12_222 ht rfl rfl rfl rfl rfl ?_
    exact Vvret C (dAt D_X12_init 313 rfl) h1 h2 ⟨rfl, rfl, rfl⟩
  have j1 : ∀ (v : Int32), v = capF x1 → V z g 3 593 [(0, .ref a0), (1, .int x1), (2, .int x2)] [.int v, .ref a0] w u kc ks (Qv w (sI (sI u a0 29 (capF x1)) a0 30 (lossF x2))) := by
    intro v hv
    subst hv
    refine VputIF C hcn (dAt D_X12_init 302 rfl) gw_X12_219 ht rfl rfl rfl rfl rfl ?_
    refine Vaload_n C 0 (dAt D_X12_init 303 rfl) rfl rfl ?_
    refine Viload_n C 2 (dAt D_X12_init 304 rfl) rfl rfl ?_
    refine Vif_lt (tgt := 608) C (dAt D_X12_init 305 rfl) (by decide) (fun c => ?_) (fun c => ?_)
    · refine Viconst (x := 0) C (dAt D_X12_init 309 rfl) (by decide) ?_
      refine Vgoto (tgt := 613) C (dAt D_X12_init 310 rfl) (by decide) ?_
      exact j2 0 _ (by simp [lossF, c])
    · refine Viload_n C 2 (dAt D_X12_init 306 rfl) rfl rfl ?_
      refine Vsipush (x := 500) C (dAt D_X12_init 307 rfl) (by decide) ?_
      refine Vicmp_le (tgt := 612) C (dAt D_X12_init 308 rfl) (by decide) (fun c2 => ?_) (fun c2 => ?_)
      · refine Viload_n C 2 (dAt D_X12_init 311 rfl) rfl rfl ?_
        exact j2 x2 _ (by simp [lossF, c, c2])
      · refine Viconst (x := 0) C (dAt D_X12_init 309 rfl) (by decide) ?_
        refine Vgoto (tgt := 613) C (dAt D_X12_init 310 rfl) (by decide) ?_
        exact j2 0 _ (by simp [lossF, c, c2])
  refine Vaload_n C 0 (dAt D_X12_init 293 rfl) rfl rfl ?_
  refine Viload_n C 1 (dAt D_X12_init 294 rfl) rfl rfl ?_
  refine Vif_lt (tgt := 586) C (dAt D_X12_init 295 rfl) (by decide) (fun c => ?_) (fun c => ?_)
  · refine Vsipush (x := 1000) C (dAt D_X12_init 299 rfl) (by decide) ?_
    refine Vgoto (tgt := 593) C (dAt D_X12_init 300 rfl) (by decide) ?_
    exact j1 1000 (by simp [capF, c])
  · refine Viload_n C 1 (dAt D_X12_init 296 rfl) rfl rfl ?_
    refine Vldc C gl_X12_218 (dAt D_X12_init 297 rfl) ?_
    refine Vicmp_le (tgt := 592) C (dAt D_X12_init 298 rfl) (by decide) (fun c2 => ?_) (fun c2 => ?_)
    · refine Viload_n C 1 (dAt D_X12_init 301 rfl) rfl rfl ?_
      exact j1 x1 (by simp [capF, c, c2])
    · refine Vsipush (x := 1000) C (dAt D_X12_init 299 rfl) (by decide) ?_
      refine Vgoto (tgt := 593) C (dAt D_X12_init 300 rfl) (by decide) ?_
      exact j1 1000 (by simp [capF, c, c2])
def F_X12_init (a0 : Nat) (x1 : Int32) (x2 : Int32) (w : LT) (u : MT) : LT × MT :=
  let w1 := nwL w 20 1200
  let u1 := nwM w u
  let w2 := sP w1 a0 1 (w.1)
  let w3 := nwL w2 20 1202
  let u3 := nwM w2 u1
  let w4 := sP w3 a0 4 (w.1 + 1)
  let w5 := nwL w4 20 1202
  let u5 := nwM w4 u3
  let w6 := sP w5 a0 5 (w.1 + 2)
  let w7 := nwL w6 21 1202
  let u7 := nwM w6 u5
  let w8 := sP w7 a0 6 (w.1 + 3)
  let w9 := nwL w8 21 24
  let u9 := nwM w8 u7
  let u10 := sL u9 (w.1 + 4) 0 1176170
  let u11 := sL u10 (w.1 + 4) 1 367711
  let u12 := sL u11 (w.1 + 4) 2 329128
  let u13 := sL u12 (w.1 + 4) 3 755
  let u14 := sL u13 (w.1 + 4) 4 99
  let u15 := sL u14 (w.1 + 4) 5 316695
  let u16 := sL u15 (w.1 + 4) 6 30910767
  let u17 := sL u16 (w.1 + 4) 7 919322
  let u18 := sL u17 (w.1 + 4) 8 1825
  let u19 := sL u18 (w.1 + 4) 9 831550
  let u20 := sL u19 (w.1 + 4) 10 36643325
  let u21 := sL u20 (w.1 + 4) 11 15782540
  let u22 := sL u21 (w.1 + 4) 12 22745289
  let u23 := sL u22 (w.1 + 4) 13 15248089
  let u24 := sL u23 (w.1 + 4) 14 43176281
  let u25 := sL u24 (w.1 + 4) 15 1332603970
  let u26 := sL u25 (w.1 + 4) 16 3540
  let u27 := sL u26 (w.1 + 4) 17 969708
  let u28 := sL u27 (w.1 + 4) 18 426554
  let u29 := sL u28 (w.1 + 4) 19 5538
  let u30 := sL u29 (w.1 + 4) 20 1166926
  let u31 := sL u30 (w.1 + 4) 21 11726208
  let u32 := sL u31 (w.1 + 4) 22 679747
  let u33 := sL u32 (w.1 + 4) 23 1042489
  let w34 := sP w9 a0 9 (w.1 + 4)
  let w35 := nwL w34 20 8
  let u35 := nwM w34 u33
  let w36 := sP w35 a0 10 (w.1 + 5)
  let w37 := nwL w36 20 8
  let u37 := nwM w36 u35
  let w38 := sP w37 a0 11 (w.1 + 6)
  let w39 := nwL w38 20 192
  let u39 := nwM w38 u37
  let w40 := sP w39 a0 12 (w.1 + 7)
  let w41 := nwL w40 20 192
  let u41 := nwM w40 u39
  let w42 := sP w41 a0 13 (w.1 + 8)
  let w43 := nwL w42 20 192
  let u43 := nwM w42 u41
  let w44 := sP w43 a0 14 (w.1 + 9)
  let w45 := nwL w44 20 192
  let u45 := nwM w44 u43
  let w46 := sP w45 a0 15 (w.1 + 10)
  let w47 := nwL w46 20 192
  let u47 := nwM w46 u45
  let w48 := sP w47 a0 16 (w.1 + 11)
  let w49 := nwL w48 20 192
  let u49 := nwM w48 u47
  let w50 := sP w49 a0 17 (w.1 + 12)
  let w51 := nwL w50 20 192
  let u51 := nwM w50 u49
  let w52 := sP w51 a0 18 (w.1 + 13)
  let w53 := nwL w52 20 10400
  let u53 := nwM w52 u51
  let w54 := sP w53 a0 19 (w.1 + 14)
  let w55 := nwL w54 20 10400
  let u55 := nwM w54 u53
  let w56 := sP w55 a0 20 (w.1 + 15)
  let w57 := nwL w56 20 8
  let u57 := nwM w56 u55
  let w58 := sP w57 a0 21 (w.1 + 16)
  let w59 := nwL w58 20 6
  let u59 := nwM w58 u57
  let w60 := sP w59 a0 23 (w.1 + 17)
  let w61 := nwL w60 20 6
  let u61 := nwM w60 u59
  let w62 := sP w61 a0 24 (w.1 + 18)
  let w63 := nwL w62 20 8
  let u63 := nwM w62 u61
  let w64 := sP w63 a0 27 (w.1 + 19)
  let w65 := nwL w64 20 8
  let u65 := nwM w64 u63
  let w66 := sP w65 a0 28 (w.1 + 20)
  let w67 := nwL w66 20 12
  let u67 := nwM w66 u65
  let w68 := sP w67 a0 32 (w.1 + 21)
  let w69 := nwL w68 20 12
  let u69 := nwM w68 u67
  let w70 := sP w69 a0 33 (w.1 + 22)
  let w71 := nwL w70 20 400
  let u71 := nwM w70 u69
  let w72 := sP w71 a0 35 (w.1 + 23)
  let w73 := nwL w72 20 400
  let u73 := nwM w72 u71
  let w74 := sP w73 a0 36 (w.1 + 24)
  let w75 := nwL w74 20 400
  let u75 := nwM w74 u73
  let w76 := sP w75 a0 37 (w.1 + 25)
  let w77 := nwL w76 20 400
  let u77 := nwM w76 u75
  let w78 := sP w77 a0 38 (w.1 + 26)
  let w79 := nwL w78 20 400
  let u79 := nwM w78 u77
  let w80 := sP w79 a0 39 (w.1 + 27)
  let u81 := sI u79 a0 41 (-1)
  let w82 := nwL w80 20 4
  let u82 := nwM w80 u81
  let w83 := sP w82 a0 47 (w.1 + 28)
  let w84 := nwL w83 20 12
  let u84 := nwM w83 u82
  let w85 := sP w84 a0 48 (w.1 + 29)
  let w86 := nwL w85 20 12
  let u86 := nwM w85 u84
  let w87 := sP w86 a0 49 (w.1 + 30)
  let w88 := nwL w87 20 12
  let u88 := nwM w87 u86
  let w89 := sP w88 a0 50 (w.1 + 31)
  let w90 := nwL w89 20 12
  let u90 := nwM w89 u88
  let w91 := sP w90 a0 51 (w.1 + 32)
  let w92 := nwL w91 20 12
  let u92 := nwM w91 u90
  let w93 := sP w92 a0 52 (w.1 + 33)
  let w94 := nwL w93 20 12
  let u94 := nwM w93 u92
  let w95 := sP w94 a0 53 (w.1 + 34)
  let w96 := nwL w95 20 12
  let u96 := nwM w95 u94
  let w97 := sP w96 a0 54 (w.1 + 35)
  let w98 := nwL w97 20 12
  let u98 := nwM w97 u96
  let w99 := sP w98 a0 55 (w.1 + 36)
  let w100 := nwL w99 20 12
  let u100 := nwM w99 u98
  let w101 := sP w100 a0 56 (w.1 + 37)
  let w102 := nwL w101 20 12
  let u102 := nwM w101 u100
  let w103 := sP w102 a0 57 (w.1 + 38)
  let w104 := nwL w103 20 12
  let u104 := nwM w103 u102
  let w105 := sP w104 a0 58 (w.1 + 39)
  let w106 := nwL w105 20 12
  let u106 := nwM w105 u104
  let w107 := sP w106 a0 59 (w.1 + 40)
  let w108 := nwL w107 20 312
  let u108 := nwM w107 u106
  let w109 := sP w108 a0 67 (w.1 + 41)
  let w110 := nwL w109 20 14
  let u110 := nwM w109 u108
  let w111 := sP w110 a0 68 (w.1 + 42)
  let w112 := nwL w111 20 700
  let u112 := nwM w111 u110
  let w113 := sP w112 a0 69 (w.1 + 43)
  let w114 := nwL w113 22 12
  let u114 := nwM w113 u112
  let w115 := sP w114 a0 70 (w.1 + 44)
  let w116 := nwL w115 20 12
  let u116 := nwM w115 u114
  let w117 := sP w116 a0 71 (w.1 + 45)
  let w118 := nwL w117 20 12
  let u118 := nwM w117 u116
  let w119 := sP w118 a0 72 (w.1 + 46)
  let w120 := nwL w119 20 140
  let u120 := nwM w119 u118
  let w121 := sP w120 a0 74 (w.1 + 47)
  let uz := sI (sI u120 a0 29 (capF x1)) a0 30 (lossF x2)
  (w121, uz)
set_option maxRecDepth 100000 in
set_option maxHeartbeats 4000000 in
theorem m_X12_init {g : GT} {w : LT} {u : MT} {a0 : Nat} {x1 : Int32} {x2 : Int32} (ht : lt_t w a0 = 12) (ha : a0 < w.1) : Mt g yX12_init cX12_init 3 none 1 48 30400 [.ref a0, .int x1, .int x2] w u (Qv (F_X12_init a0 x1 x2 w u).1 (F_X12_init a0 x1 x2 w u).2) := by
  refine Mt_of (own := RX12) (by decide +kernel) rfl (Nat.le_of_ble_eq_true rfl) (fun z C hcn => ?_)
  have hcn := hcn rfl
  show V z g 3 0 [(0, .ref a0), (1, .int x1), (2, .int x2)] [] w u 0 0 _
  refine Vaload_n C 0 (dAt D_X12_init 0 rfl) rfl rfl ?_
  refine Vobj C (dAt D_X12_init 1 rfl) go_X12_18 oI oC (by omega) (Nat.le_of_ble_eq_true rfl) (by decide) ?_
  refine Vaload_n C 0 (dAt D_X12_init 2 rfl) rfl rfl ?_
  refine Vsipush (x := 1200) C (dAt D_X12_init 3 rfl) (by decide) ?_
  refine VnewaQ (w.1) rfl (t := 20) (n := 1200) C (dAt D_X12_init 4 rfl) (by decide) (by decide) rfl ga_int (by decide) (by decide) (by decide) (by decide) (by decide) ?_
  have ht := (nw_t (t := 20) (n := 1200) ha).trans ht
  have ha := Nat.lt_succ_of_lt ha
  refine VputPF C hcn (dAt D_X12_init 5 rfl) gw_X12_14 ht rfl rfl rfl rfl ?_
  refine Vaload_n C 0 (dAt D_X12_init 6 rfl) rfl rfl ?_
  refine Vsipush (x := 1202) C (dAt D_X12_init 7 rfl) (by decide) ?_
  refine VnewaQ (w.1 + 1) rfl (t := 20) (n := 1202) C (dAt D_X12_init 8 rfl) (by decide) (by decide) rfl ga_int (by decide) (by decide) (by decide) (by decide) (by decide) ?_
  have ht := (nw_t (t := 20) (n := 1202) ha).trans ht
  have ha := Nat.lt_succ_of_lt ha
  refine VputPF C hcn (dAt D_X12_init 9 rfl) gw_X12_24 ht rfl rfl rfl rfl ?_
  refine Vaload_n C 0 (dAt D_X12_init 10 rfl) rfl rfl ?_
  refine Vsipush (x := 1202) C (dAt D_X12_init 11 rfl) (by decide) ?_
  refine VnewaQ (w.1 + 2) rfl (t := 20) (n := 1202) C (dAt D_X12_init 12 rfl) (by decide) (by decide) rfl ga_int (by decide) (by decide) (by decide) (by decide) (by decide) ?_
  have ht := (nw_t (t := 20) (n := 1202) ha).trans ht
  have ha := Nat.lt_succ_of_lt ha
  refine VputPF C hcn (dAt D_X12_init 13 rfl) gw_X12_27 ht rfl rfl rfl rfl ?_
  refine Vaload_n C 0 (dAt D_X12_init 14 rfl) rfl rfl ?_
  refine Vsipush (x := 1202) C (dAt D_X12_init 15 rfl) (by decide) ?_
  refine VnewaQ (w.1 + 3) rfl (t := 21) (n := 1202) C (dAt D_X12_init 16 rfl) (by decide) (by decide) rfl ga_long (by decide) (by decide) (by decide) (by decide) (by decide) ?_
  have ht := (nw_t (t := 21) (n := 1202) ha).trans ht
  have ha := Nat.lt_succ_of_lt ha
  refine VputPF C hcn (dAt D_X12_init 17 rfl) gw_X12_30 ht rfl rfl rfl rfl ?_
  refine Vaload_n C 0 (dAt D_X12_init 18 rfl) rfl rfl ?_
  refine Vbipush (x := 24) C (dAt D_X12_init 19 rfl) (by decide) ?_
  refine VnewaQ (w.1 + 4) rfl (t := 21) (n := 24) C (dAt D_X12_init 20 rfl) (by decide) (by decide) rfl ga_long (by decide) (by decide) (by decide) (by decide) (by decide) ?_
  have ht := (nw_t (t := 21) (n := 24) ha).trans ht
  have ha := Nat.lt_succ_of_lt ha
  refine Vdup C (dAt D_X12_init 21 rfl) rfl ?_
  refine Viconst (x := 0) C (dAt D_X12_init 22 rfl) (by decide) ?_
  refine Vldc2 C gl_X12_34 (dAt D_X12_init 23 rfl) ?_
  refine VlastC 0 C (dAt D_X12_init 24 rfl) (nw_n (t := 21) (n := 24)) (nw_ln (t := 21) (n := 24)) (by decide) rfl ?_
  refine Vdup C (dAt D_X12_init 25 rfl) rfl ?_
  refine Viconst (x := 1) C (dAt D_X12_init 26 rfl) (by decide) ?_
  refine Vldc2 C gl_X12_36 (dAt D_X12_init 27 rfl) ?_
  refine VlastC 1 C (dAt D_X12_init 28 rfl) (nw_n (t := 21) (n := 24)) (nw_ln (t := 21) (n := 24)) (by decide) rfl ?_
  refine Vdup C (dAt D_X12_init 29 rfl) rfl ?_
  refine Viconst (x := 2) C (dAt D_X12_init 30 rfl) (by decide) ?_
  refine Vldc2 C gl_X12_38 (dAt D_X12_init 31 rfl) ?_
  refine VlastC 2 C (dAt D_X12_init 32 rfl) (nw_n (t := 21) (n := 24)) (nw_ln (t := 21) (n := 24)) (by decide) rfl ?_
  refine Vdup C (dAt D_X12_init 33 rfl) rfl ?_
  refine Viconst (x := 3) C (dAt D_X12_init 34 rfl) (by decide) ?_
  refine Vldc2 C gl_X12_40 (dAt D_X12_init 35 rfl) ?_
  refine VlastC 3 C (dAt D_X12_init 36 rfl) (nw_n (t := 21) (n := 24)) (nw_ln (t := 21) (n := 24)) (by decide) rfl ?_
  refine Vdup C (dAt D_X12_init 37 rfl) rfl ?_
  refine Viconst (x := 4) C (dAt D_X12_init 38 rfl) (by decide) ?_
  refine Vldc2 C gl_X12_42 (dAt D_X12_init 39 rfl) ?_
  refine VlastC 4 C (dAt D_X12_init 40 rfl) (nw_n (t := 21) (n := 24)) (nw_ln (t := 21) (n := 24)) (by decide) rfl ?_
  refine Vdup C (dAt D_X12_init 41 rfl) rfl ?_
  refine Viconst (x := 5) C (dAt D_X12_init 42 rfl) (by decide) ?_
  refine Vldc2 C gl_X12_44 (dAt D_X12_init 43 rfl) ?_
  refine VlastC 5 C (dAt D_X12_init 44 rfl) (nw_n (t := 21) (n := 24)) (nw_ln (t := 21) (n := 24)) (by decide) rfl ?_
  refine Vdup C (dAt D_X12_init 45 rfl) rfl ?_
  refine Vbipush (x := 6) C (dAt D_X12_init 46 rfl) (by decide) ?_
  refine Vldc2 C gl_X12_46 (dAt D_X12_init 47 rfl) ?_
  refine VlastC 6 C (dAt D_X12_init 48 rfl) (nw_n (t := 21) (n := 24)) (nw_ln (t := 21) (n := 24)) (by decide) rfl ?_
  refine Vdup C (dAt D_X12_init 49 rfl) rfl ?_
  refine Vbipush (x := 7) C (dAt D_X12_init 50 rfl) (by decide) ?_
  refine Vldc2 C gl_X12_48 (dAt D_X12_init 51 rfl) ?_
  refine VlastC 7 C (dAt D_X12_init 52 rfl) (nw_n (t := 21) (n := 24)) (nw_ln (t := 21) (n := 24)) (by decide) rfl ?_
  refine Vdup C (dAt D_X12_init 53 rfl) rfl ?_
  refine Vbipush (x := 8) C (dAt D_X12_init 54 rfl) (by decide) ?_
  refine Vldc2 C gl_X12_50 (dAt D_X12_init 55 rfl) ?_
  refine VlastC 8 C (dAt D_X12_init 56 rfl) (nw_n (t := 21) (n := 24)) (nw_ln (t := 21) (n := 24)) (by decide) rfl ?_
  refine Vdup C (dAt D_X12_init 57 rfl) rfl ?_
  refine Vbipush (x := 9) C (dAt D_X12_init 58 rfl) (by decide) ?_
  refine Vldc2 C gl_X12_52 (dAt D_X12_init 59 rfl) ?_
  refine VlastC 9 C (dAt D_X12_init 60 rfl) (nw_n (t := 21) (n := 24)) (nw_ln (t := 21) (n := 24)) (by decide) rfl ?_
  refine Vdup C (dAt D_X12_init 61 rfl) rfl ?_
  refine Vbipush (x := 10) C (dAt D_X12_init 62 rfl) (by decide) ?_
  refine Vldc2 C gl_X12_54 (dAt D_X12_init 63 rfl) ?_
  refine VlastC 10 C (dAt D_X12_init 64 rfl) (nw_n (t := 21) (n := 24)) (nw_ln (t := 21) (n := 24)) (by decide) rfl ?_
  refine Vdup C (dAt D_X12_init 65 rfl) rfl ?_
  refine Vbipush (x := 11) C (dAt D_X12_init 66 rfl) (by decide) ?_
  refine Vldc2 C gl_X12_56 (dAt D_X12_init 67 rfl) ?_
  refine VlastC 11 C (dAt D_X12_init 68 rfl) (nw_n (t := 21) (n := 24)) (nw_ln (t := 21) (n := 24)) (by decide) rfl ?_
  refine Vdup C (dAt D_X12_init 69 rfl) rfl ?_
  refine Vbipush (x := 12) C (dAt D_X12_init 70 rfl) (by decide) ?_
  refine Vldc2 C gl_X12_58 (dAt D_X12_init 71 rfl) ?_
  refine VlastC 12 C (dAt D_X12_init 72 rfl) (nw_n (t := 21) (n := 24)) (nw_ln (t := 21) (n := 24)) (by decide) rfl ?_
  refine Vdup C (dAt D_X12_init 73 rfl) rfl ?_
  refine Vbipush (x := 13) C (dAt D_X12_init 74 rfl) (by decide) ?_
  refine Vldc2 C gl_X12_60 (dAt D_X12_init 75 rfl) ?_
  refine VlastC 13 C (dAt D_X12_init 76 rfl) (nw_n (t := 21) (n := 24)) (nw_ln (t := 21) (n := 24)) (by decide) rfl ?_
  refine Vdup C (dAt D_X12_init 77 rfl) rfl ?_
  refine Vbipush (x := 14) C (dAt D_X12_init 78 rfl) (by decide) ?_
  refine Vldc2 C gl_X12_62 (dAt D_X12_init 79 rfl) ?_
  refine VlastC 14 C (dAt D_X12_init 80 rfl) (nw_n (t := 21) (n := 24)) (nw_ln (t := 21) (n := 24)) (by decide) rfl ?_
  refine Vdup C (dAt D_X12_init 81 rfl) rfl ?_
  refine Vbipush (x := 15) C (dAt D_X12_init 82 rfl) (by decide) ?_
  refine Vldc2 C gl_X12_64 (dAt D_X12_init 83 rfl) ?_
  refine VlastC 15 C (dAt D_X12_init 84 rfl) (nw_n (t := 21) (n := 24)) (nw_ln (t := 21) (n := 24)) (by decide) rfl ?_
  refine Vdup C (dAt D_X12_init 85 rfl) rfl ?_
  refine Vbipush (x := 16) C (dAt D_X12_init 86 rfl) (by decide) ?_
  refine Vldc2 C gl_X12_66 (dAt D_X12_init 87 rfl) ?_
  refine VlastC 16 C (dAt D_X12_init 88 rfl) (nw_n (t := 21) (n := 24)) (nw_ln (t := 21) (n := 24)) (by decide) rfl ?_
  refine Vdup C (dAt D_X12_init 89 rfl) rfl ?_
  refine Vbipush (x := 17) C (dAt D_X12_init 90 rfl) (by decide) ?_
  refine Vldc2 C gl_X12_68 (dAt D_X12_init 91 rfl) ?_
  refine VlastC 17 C (dAt D_X12_init 92 rfl) (nw_n (t := 21) (n := 24)) (nw_ln (t := 21) (n := 24)) (by decide) rfl ?_
  refine Vdup C (dAt D_X12_init 93 rfl) rfl ?_
  refine Vbipush (x := 18) C (dAt D_X12_init 94 rfl) (by decide) ?_
  refine Vldc2 C gl_X12_70 (dAt D_X12_init 95 rfl) ?_
  refine VlastC 18 C (dAt D_X12_init 96 rfl) (nw_n (t := 21) (n := 24)) (nw_ln (t := 21) (n := 24)) (by decide) rfl ?_
  refine Vdup C (dAt D_X12_init 97 rfl) rfl ?_
  refine Vbipush (x := 19) C (dAt D_X12_init 98 rfl) (by decide) ?_
  refine Vldc2 C gl_X12_72 (dAt D_X12_init 99 rfl) ?_
  refine VlastC 19 C (dAt D_X12_init 100 rfl) (nw_n (t := 21) (n := 24)) (nw_ln (t := 21) (n := 24)) (by decide) rfl ?_
  refine Vdup C (dAt D_X12_init 101 rfl) rfl ?_
  refine Vbipush (x := 20) C (dAt D_X12_init 102 rfl) (by decide) ?_
  refine Vldc2 C gl_X12_74 (dAt D_X12_init 103 rfl) ?_
  refine VlastC 20 C (dAt D_X12_init 104 rfl) (nw_n (t := 21) (n := 24)) (nw_ln (t := 21) (n := 24)) (by decide) rfl ?_
  refine Vdup C (dAt D_X12_init 105 rfl) rfl ?_
  refine Vbipush (x := 21) C (dAt D_X12_init 106 rfl) (by decide) ?_
  refine Vldc2 C gl_X12_76 (dAt D_X12_init 107 rfl) ?_
  refine VlastC 21 C (dAt D_X12_init 108 rfl) (nw_n (t := 21) (n := 24)) (nw_ln (t := 21) (n := 24)) (by decide) rfl ?_
  refine Vdup C (dAt D_X12_init 109 rfl) rfl ?_
  refine Vbipush (x := 22) C (dAt D_X12_init 110 rfl) (by decide) ?_
  refine Vldc2 C gl_X12_78 (dAt D_X12_init 111 rfl) ?_
  refine VlastC 22 C (dAt D_X12_init 112 rfl) (nw_n (t := 21) (n := 24)) (nw_ln (t := 21) (n := 24)) (by decide) rfl ?_
  refine Vdup C (dAt D_X12_init 113 rfl) rfl ?_
  refine Vbipush (x := 23) C (dAt D_X12_init 114 rfl) (by decide) ?_
  refine Vldc2 C gl_X12_80 (dAt D_X12_init 115 rfl) ?_
  refine VlastC 23 C (dAt D_X12_init 116 rfl) (nw_n (t := 21) (n := 24)) (nw_ln (t := 21) (n := 24)) (by decide) rfl ?_
  refine VputPF C hcn (dAt D_X12_init 117 rfl) gw_X12_82 ht rfl rfl rfl rfl ?_
  refine Vaload_n C 0 (dAt D_X12_init 118 rfl) rfl rfl ?_
  refine Vbipush (x := 8) C (dAt D_X12_init 119 rfl) (by decide) ?_
  refine VnewaQ (w.1 + 5) rfl (t := 20) (n := 8) C (dAt D_X12_init 120 rfl) (by decide) (by decide) rfl ga_int (by decide) (by decide) (by decide) (by decide) (by decide) ?_
  have ht := (nw_t (t := 20) (n := 8) ha).trans ht
  have ha := Nat.lt_succ_of_lt ha
  refine VputPF C hcn (dAt D_X12_init 121 rfl) gw_X12_85 ht rfl rfl rfl rfl ?_
  refine Vaload_n C 0 (dAt D_X12_init 122 rfl) rfl rfl ?_
  refine Vbipush (x := 8) C (dAt D_X12_init 123 rfl) (by decide) ?_
  refine VnewaQ (w.1 + 6) rfl (t := 20) (n := 8) C (dAt D_X12_init 124 rfl) (by decide) (by decide) rfl ga_int (by decide) (by decide) (by decide) (by decide) (by decide) ?_
  have ht := (nw_t (t := 20) (n := 8) ha).trans ht
  have ha := Nat.lt_succ_of_lt ha
  refine VputPF C hcn (dAt D_X12_init 125 rfl) gw_X12_88 ht rfl rfl rfl rfl ?_
  refine Vaload_n C 0 (dAt D_X12_init 126 rfl) rfl rfl ?_
  refine Vsipush (x := 192) C (dAt D_X12_init 127 rfl) (by decide) ?_
  refine VnewaQ (w.1 + 7) rfl (t := 20) (n := 192) C (dAt D_X12_init 128 rfl) (by decide) (by decide) rfl ga_int (by decide) (by decide) (by decide) (by decide) (by decide) ?_
  have ht := (nw_t (t := 20) (n := 192) ha).trans ht
  have ha := Nat.lt_succ_of_lt ha
  refine VputPF C hcn (dAt D_X12_init 129 rfl) gw_X12_91 ht rfl rfl rfl rfl ?_
  refine Vaload_n C 0 (dAt D_X12_init 130 rfl) rfl rfl ?_
  refine Vsipush (x := 192) C (dAt D_X12_init 131 rfl) (by decide) ?_
  refine VnewaQ (w.1 + 8) rfl (t := 20) (n := 192) C (dAt D_X12_init 132 rfl) (by decide) (by decide) rfl ga_int (by decide) (by decide) (by decide) (by decide) (by decide) ?_
  have ht := (nw_t (t := 20) (n := 192) ha).trans ht
  have ha := Nat.lt_succ_of_lt ha
  refine VputPF C hcn (dAt D_X12_init 133 rfl) gw_X12_94 ht rfl rfl rfl rfl ?_
  refine Vaload_n C 0 (dAt D_X12_init 134 rfl) rfl rfl ?_
  refine Vsipush (x := 192) C (dAt D_X12_init 135 rfl) (by decide) ?_
  refine VnewaQ (w.1 + 9) rfl (t := 20) (n := 192) C (dAt D_X12_init 136 rfl) (by decide) (by decide) rfl ga_int (by decide) (by decide) (by decide) (by decide) (by decide) ?_
  have ht := (nw_t (t := 20) (n := 192) ha).trans ht
  have ha := Nat.lt_succ_of_lt ha
  refine VputPF C hcn (dAt D_X12_init 137 rfl) gw_X12_97 ht rfl rfl rfl rfl ?_
  refine Vaload_n C 0 (dAt D_X12_init 138 rfl) rfl rfl ?_
  refine Vsipush (x := 192) C (dAt D_X12_init 139 rfl) (by decide) ?_
  refine VnewaQ (w.1 + 10) rfl (t := 20) (n := 192) C (dAt D_X12_init 140 rfl) (by decide) (by decide) rfl ga_int (by decide) (by decide) (by decide) (by decide) (by decide) ?_
  have ht := (nw_t (t := 20) (n := 192) ha).trans ht
  have ha := Nat.lt_succ_of_lt ha
  refine VputPF C hcn (dAt D_X12_init 141 rfl) gw_X12_100 ht rfl rfl rfl rfl ?_
  refine Vaload_n C 0 (dAt D_X12_init 142 rfl) rfl rfl ?_
  refine Vsipush (x := 192) C (dAt D_X12_init 143 rfl) (by decide) ?_
  refine VnewaQ (w.1 + 11) rfl (t := 20) (n := 192) C (dAt D_X12_init 144 rfl) (by decide) (by decide) rfl ga_int (by decide) (by decide) (by decide) (by decide) (by decide) ?_
  have ht := (nw_t (t := 20) (n := 192) ha).trans ht
  have ha := Nat.lt_succ_of_lt ha
  refine VputPF C hcn (dAt D_X12_init 145 rfl) gw_X12_103 ht rfl rfl rfl rfl ?_
  refine Vaload_n C 0 (dAt D_X12_init 146 rfl) rfl rfl ?_
  refine Vsipush (x := 192) C (dAt D_X12_init 147 rfl) (by decide) ?_
  refine VnewaQ (w.1 + 12) rfl (t := 20) (n := 192) C (dAt D_X12_init 148 rfl) (by decide) (by decide) rfl ga_int (by decide) (by decide) (by decide) (by decide) (by decide) ?_
  have ht := (nw_t (t := 20) (n := 192) ha).trans ht
  have ha := Nat.lt_succ_of_lt ha
  refine VputPF C hcn (dAt D_X12_init 149 rfl) gw_X12_106 ht rfl rfl rfl rfl ?_
  refine Vaload_n C 0 (dAt D_X12_init 150 rfl) rfl rfl ?_
  refine Vsipush (x := 192) C (dAt D_X12_init 151 rfl) (by decide) ?_
  refine VnewaQ (w.1 + 13) rfl (t := 20) (n := 192) C (dAt D_X12_init 152 rfl) (by decide) (by decide) rfl ga_int (by decide) (by decide) (by decide) (by decide) (by decide) ?_
  have ht := (nw_t (t := 20) (n := 192) ha).trans ht
  have ha := Nat.lt_succ_of_lt ha
  refine VputPF C hcn (dAt D_X12_init 153 rfl) gw_X12_109 ht rfl rfl rfl rfl ?_
  refine Vaload_n C 0 (dAt D_X12_init 154 rfl) rfl rfl ?_
  refine Vsipush (x := 10400) C (dAt D_X12_init 155 rfl) (by decide) ?_
  refine VnewaQ (w.1 + 14) rfl (t := 20) (n := 10400) C (dAt D_X12_init 156 rfl) (by decide) (by decide) rfl ga_int (by decide) (by decide) (by decide) (by decide) (by decide) ?_
  have ht := (nw_t (t := 20) (n := 10400) ha).trans ht
  have ha := Nat.lt_succ_of_lt ha
  refine VputPF C hcn (dAt D_X12_init 157 rfl) gw_X12_112 ht rfl rfl rfl rfl ?_
  refine Vaload_n C 0 (dAt D_X12_init 158 rfl) rfl rfl ?_
  refine Vsipush (x := 10400) C (dAt D_X12_init 159 rfl) (by decide) ?_
  refine VnewaQ (w.1 + 15) rfl (t := 20) (n := 10400) C (dAt D_X12_init 160 rfl) (by decide) (by decide) rfl ga_int (by decide) (by decide) (by decide) (by decide) (by decide) ?_
  have ht := (nw_t (t := 20) (n := 10400) ha).trans ht
  have ha := Nat.lt_succ_of_lt ha
  refine VputPF C hcn (dAt D_X12_init 161 rfl) gw_X12_115 ht rfl rfl rfl rfl ?_
  refine Vaload_n C 0 (dAt D_X12_init 162 rfl) rfl rfl ?_
  refine Vbipush (x := 8) C (dAt D_X12_init 163 rfl) (by decide) ?_
  refine VnewaQ (w.1 + 16) rfl (t := 20) (n := 8) C (dAt D_X12_init 164 rfl) (by decide) (by decide) rfl ga_int (by decide) (by decide) (by decide) (by decide) (by decide) ?_
  have ht := (nw_t (t := 20) (n := 8) ha).trans ht
  have ha := Nat.lt_succ_of_lt ha
  refine VputPF C hcn (dAt D_X12_init 165 rfl) gw_X12_118 ht rfl rfl rfl rfl ?_
  refine Vaload_n C 0 (dAt D_X12_init 166 rfl) rfl rfl ?_
  refine Vbipush (x := 6) C (dAt D_X12_init 167 rfl) (by decide) ?_
  refine VnewaQ (w.1 + 17) rfl (t := 20) (n := 6) C (dAt D_X12_init 168 rfl) (by decide) (by decide) rfl ga_int (by decide) (by decide) (by decide) (by decide) (by decide) ?_
  have ht := (nw_t (t := 20) (n := 6) ha).trans ht
  have ha := Nat.lt_succ_of_lt ha
  refine VputPF C hcn (dAt D_X12_init 169 rfl) gw_X12_121 ht rfl rfl rfl rfl ?_
  refine Vaload_n C 0 (dAt D_X12_init 170 rfl) rfl rfl ?_
  refine Vbipush (x := 6) C (dAt D_X12_init 171 rfl) (by decide) ?_
  refine VnewaQ (w.1 + 18) rfl (t := 20) (n := 6) C (dAt D_X12_init 172 rfl) (by decide) (by decide) rfl ga_int (by decide) (by decide) (by decide) (by decide) (by decide) ?_
  have ht := (nw_t (t := 20) (n := 6) ha).trans ht
  have ha := Nat.lt_succ_of_lt ha
  refine VputPF C hcn (dAt D_X12_init 173 rfl) gw_X12_124 ht rfl rfl rfl rfl ?_
  refine Vaload_n C 0 (dAt D_X12_init 174 rfl) rfl rfl ?_
  refine Vbipush (x := 8) C (dAt D_X12_init 175 rfl) (by decide) ?_
  refine VnewaQ (w.1 + 19) rfl (t := 20) (n := 8) C (dAt D_X12_init 176 rfl) (by decide) (by decide) rfl ga_int (by decide) (by decide) (by decide) (by decide) (by decide) ?_
  have ht := (nw_t (t := 20) (n := 8) ha).trans ht
  have ha := Nat.lt_succ_of_lt ha
  refine VputPF C hcn (dAt D_X12_init 177 rfl) gw_X12_127 ht rfl rfl rfl rfl ?_
  refine Vaload_n C 0 (dAt D_X12_init 178 rfl) rfl rfl ?_
  refine Vbipush (x := 8) C (dAt D_X12_init 179 rfl) (by decide) ?_
  refine VnewaQ (w.1 + 20) rfl (t := 20) (n := 8) C (dAt D_X12_init 180 rfl) (by decide) (by decide) rfl ga_int (by decide) (by decide) (by decide) (by decide) (by decide) ?_
  have ht := (nw_t (t := 20) (n := 8) ha).trans ht
  have ha := Nat.lt_succ_of_lt ha
  refine VputPF C hcn (dAt D_X12_init 181 rfl) gw_X12_130 ht rfl rfl rfl rfl ?_
  refine Vaload_n C 0 (dAt D_X12_init 182 rfl) rfl rfl ?_
  refine Vbipush (x := 12) C (dAt D_X12_init 183 rfl) (by decide) ?_
  refine VnewaQ (w.1 + 21) rfl (t := 20) (n := 12) C (dAt D_X12_init 184 rfl) (by decide) (by decide) rfl ga_int (by decide) (by decide) (by decide) (by decide) (by decide) ?_
  have ht := (nw_t (t := 20) (n := 12) ha).trans ht
  have ha := Nat.lt_succ_of_lt ha
  refine VputPF C hcn (dAt D_X12_init 185 rfl) gw_X12_133 ht rfl rfl rfl rfl ?_
  refine Vaload_n C 0 (dAt D_X12_init 186 rfl) rfl rfl ?_
  refine Vbipush (x := 12) C (dAt D_X12_init 187 rfl) (by decide) ?_
  refine VnewaQ (w.1 + 22) rfl (t := 20) (n := 12) C (dAt D_X12_init 188 rfl) (by decide) (by decide) rfl ga_int (by decide) (by decide) (by decide) (by decide) (by decide) ?_
  have ht := (nw_t (t := 20) (n := 12) ha).trans ht
  have ha := Nat.lt_succ_of_lt ha
  refine VputPF C hcn (dAt D_X12_init 189 rfl) gw_X12_136 ht rfl rfl rfl rfl ?_
  refine Vaload_n C 0 (dAt D_X12_init 190 rfl) rfl rfl ?_
  refine Vsipush (x := 400) C (dAt D_X12_init 191 rfl) (by decide) ?_
  refine VnewaQ (w.1 + 23) rfl (t := 20) (n := 400) C (dAt D_X12_init 192 rfl) (by decide) (by decide) rfl ga_int (by decide) (by decide) (by decide) (by decide) (by decide) ?_
  have ht := (nw_t (t := 20) (n := 400) ha).trans ht
  have ha := Nat.lt_succ_of_lt ha
  refine VputPF C hcn (dAt D_X12_init 193 rfl) gw_X12_139 ht rfl rfl rfl rfl ?_
  refine Vaload_n C 0 (dAt D_X12_init 194 rfl) rfl rfl ?_
  refine Vsipush (x := 400) C (dAt D_X12_init 195 rfl) (by decide) ?_
  refine VnewaQ (w.1 + 24) rfl (t := 20) (n := 400) C (dAt D_X12_init 196 rfl) (by decide) (by decide) rfl ga_int (by decide) (by decide) (by decide) (by decide) (by decide) ?_
  have ht := (nw_t (t := 20) (n := 400) ha).trans ht
  have ha := Nat.lt_succ_of_lt ha
  refine VputPF C hcn (dAt D_X12_init 197 rfl) gw_X12_142 ht rfl rfl rfl rfl ?_
  refine Vaload_n C 0 (dAt D_X12_init 198 rfl) rfl rfl ?_
  refine Vsipush (x := 400) C (dAt D_X12_init 199 rfl) (by decide) ?_
  refine VnewaQ (w.1 + 25) rfl (t := 20) (n := 400) C (dAt D_X12_init 200 rfl) (by decide) (by decide) rfl ga_int (by decide) (by decide) (by decide) (by decide) (by decide) ?_
  have ht := (nw_t (t := 20) (n := 400) ha).trans ht
  have ha := Nat.lt_succ_of_lt ha
  refine VputPF C hcn (dAt D_X12_init 201 rfl) gw_X12_145 ht rfl rfl rfl rfl ?_
  refine Vaload_n C 0 (dAt D_X12_init 202 rfl) rfl rfl ?_
  refine Vsipush (x := 400) C (dAt D_X12_init 203 rfl) (by decide) ?_
  refine VnewaQ (w.1 + 26) rfl (t := 20) (n := 400) C (dAt D_X12_init 204 rfl) (by decide) (by decide) rfl ga_int (by decide) (by decide) (by decide) (by decide) (by decide) ?_
  have ht := (nw_t (t := 20) (n := 400) ha).trans ht
  have ha := Nat.lt_succ_of_lt ha
  refine VputPF C hcn (dAt D_X12_init 205 rfl) gw_X12_148 ht rfl rfl rfl rfl ?_
  refine Vaload_n C 0 (dAt D_X12_init 206 rfl) rfl rfl ?_
  refine Vsipush (x := 400) C (dAt D_X12_init 207 rfl) (by decide) ?_
  refine VnewaQ (w.1 + 27) rfl (t := 20) (n := 400) C (dAt D_X12_init 208 rfl) (by decide) (by decide) rfl ga_int (by decide) (by decide) (by decide) (by decide) (by decide) ?_
  have ht := (nw_t (t := 20) (n := 400) ha).trans ht
  have ha := Nat.lt_succ_of_lt ha
  refine VputPF C hcn (dAt D_X12_init 209 rfl) gw_X12_151 ht rfl rfl rfl rfl ?_
  refine Vaload_n C 0 (dAt D_X12_init 210 rfl) rfl rfl ?_
  refine Viconst (x := (-1)) C (dAt D_X12_init 211 rfl) (by decide) ?_
  refine VputI C (dAt D_X12_init 212 rfl) gf_X12_154 ht rfl rfl rfl rfl ?_
  refine Vaload_n C 0 (dAt D_X12_init 213 rfl) rfl rfl ?_
  refine Viconst (x := 4) C (dAt D_X12_init 214 rfl) (by decide) ?_
  refine VnewaQ (w.1 + 28) rfl (t := 20) (n := 4) C (dAt D_X12_init 215 rfl) (by decide) (by decide) rfl ga_int (by decide) (by decide) (by decide) (by decide) (by decide) ?_
  have ht := (nw_t (t := 20) (n := 4) ha).trans ht
  have ha := Nat.lt_succ_of_lt ha
  refine VputPF C hcn (dAt D_X12_init 216 rfl) gw_X12_157 ht rfl rfl rfl rfl ?_
  refine Vaload_n C 0 (dAt D_X12_init 217 rfl) rfl rfl ?_
  refine Vbipush (x := 12) C (dAt D_X12_init 218 rfl) (by decide) ?_
  refine VnewaQ (w.1 + 29) rfl (t := 20) (n := 12) C (dAt D_X12_init 219 rfl) (by decide) (by decide) rfl ga_int (by decide) (by decide) (by decide) (by decide) (by decide) ?_
  have ht := (nw_t (t := 20) (n := 12) ha).trans ht
  have ha := Nat.lt_succ_of_lt ha
  refine VputPF C hcn (dAt D_X12_init 220 rfl) gw_X12_160 ht rfl rfl rfl rfl ?_
  refine Vaload_n C 0 (dAt D_X12_init 221 rfl) rfl rfl ?_
  refine Vbipush (x := 12) C (dAt D_X12_init 222 rfl) (by decide) ?_
  refine VnewaQ (w.1 + 30) rfl (t := 20) (n := 12) C (dAt D_X12_init 223 rfl) (by decide) (by decide) rfl ga_int (by decide) (by decide) (by decide) (by decide) (by decide) ?_
  have ht := (nw_t (t := 20) (n := 12) ha).trans ht
  have ha := Nat.lt_succ_of_lt ha
  refine VputPF C hcn (dAt D_X12_init 224 rfl) gw_X12_163 ht rfl rfl rfl rfl ?_
  refine Vaload_n C 0 (dAt D_X12_init 225 rfl) rfl rfl ?_
  refine Vbipush (x := 12) C (dAt D_X12_init 226 rfl) (by decide) ?_
  refine VnewaQ (w.1 + 31) rfl (t := 20) (n := 12) C (dAt D_X12_init 227 rfl) (by decide) (by decide) rfl ga_int (by decide) (by decide) (by decide) (by decide) (by decide) ?_
  have ht := (nw_t (t := 20) (n := 12) ha).trans ht
  have ha := Nat.lt_succ_of_lt ha
  refine VputPF C hcn (dAt D_X12_init 228 rfl) gw_X12_166 ht rfl rfl rfl rfl ?_
  refine Vaload_n C 0 (dAt D_X12_init 229 rfl) rfl rfl ?_
  refine Vbipush (x := 12) C (dAt D_X12_init 230 rfl) (by decide) ?_
  refine VnewaQ (w.1 + 32) rfl (t := 20) (n := 12) C (dAt D_X12_init 231 rfl) (by decide) (by decide) rfl ga_int (by decide) (by decide) (by decide) (by decide) (by decide) ?_
  have ht := (nw_t (t := 20) (n := 12) ha).trans ht
  have ha := Nat.lt_succ_of_lt ha
  refine VputPF C hcn (dAt D_X12_init 232 rfl) gw_X12_169 ht rfl rfl rfl rfl ?_
  refine Vaload_n C 0 (dAt D_X12_init 233 rfl) rfl rfl ?_
  refine Vbipush (x := 12) C (dAt D_X12_init 234 rfl) (by decide) ?_
  refine VnewaQ (w.1 + 33) rfl (t := 20) (n := 12) C (dAt D_X12_init 235 rfl) (by decide) (by decide) rfl ga_int (by decide) (by decide) (by decide) (by decide) (by decide) ?_
  have ht := (nw_t (t := 20) (n := 12) ha).trans ht
  have ha := Nat.lt_succ_of_lt ha
  refine VputPF C hcn (dAt D_X12_init 236 rfl) gw_X12_172 ht rfl rfl rfl rfl ?_
  refine Vaload_n C 0 (dAt D_X12_init 237 rfl) rfl rfl ?_
  refine Vbipush (x := 12) C (dAt D_X12_init 238 rfl) (by decide) ?_
  refine VnewaQ (w.1 + 34) rfl (t := 20) (n := 12) C (dAt D_X12_init 239 rfl) (by decide) (by decide) rfl ga_int (by decide) (by decide) (by decide) (by decide) (by decide) ?_
  have ht := (nw_t (t := 20) (n := 12) ha).trans ht
  have ha := Nat.lt_succ_of_lt ha
  refine VputPF C hcn (dAt D_X12_init 240 rfl) gw_X12_175 ht rfl rfl rfl rfl ?_
  refine Vaload_n C 0 (dAt D_X12_init 241 rfl) rfl rfl ?_
  refine Vbipush (x := 12) C (dAt D_X12_init 242 rfl) (by decide) ?_
  refine VnewaQ (w.1 + 35) rfl (t := 20) (n := 12) C (dAt D_X12_init 243 rfl) (by decide) (by decide) rfl ga_int (by decide) (by decide) (by decide) (by decide) (by decide) ?_
  have ht := (nw_t (t := 20) (n := 12) ha).trans ht
  have ha := Nat.lt_succ_of_lt ha
  refine VputPF C hcn (dAt D_X12_init 244 rfl) gw_X12_178 ht rfl rfl rfl rfl ?_
  refine Vaload_n C 0 (dAt D_X12_init 245 rfl) rfl rfl ?_
  refine Vbipush (x := 12) C (dAt D_X12_init 246 rfl) (by decide) ?_
  refine VnewaQ (w.1 + 36) rfl (t := 20) (n := 12) C (dAt D_X12_init 247 rfl) (by decide) (by decide) rfl ga_int (by decide) (by decide) (by decide) (by decide) (by decide) ?_
  have ht := (nw_t (t := 20) (n := 12) ha).trans ht
  have ha := Nat.lt_succ_of_lt ha
  refine VputPF C hcn (dAt D_X12_init 248 rfl) gw_X12_181 ht rfl rfl rfl rfl ?_
  refine Vaload_n C 0 (dAt D_X12_init 249 rfl) rfl rfl ?_
  refine Vbipush (x := 12) C (dAt D_X12_init 250 rfl) (by decide) ?_
  refine VnewaQ (w.1 + 37) rfl (t := 20) (n := 12) C (dAt D_X12_init 251 rfl) (by decide) (by decide) rfl ga_int (by decide) (by decide) (by decide) (by decide) (by decide) ?_
  have ht := (nw_t (t := 20) (n := 12) ha).trans ht
  have ha := Nat.lt_succ_of_lt ha
  refine VputPF C hcn (dAt D_X12_init 252 rfl) gw_X12_184 ht rfl rfl rfl rfl ?_
  refine Vaload_n C 0 (dAt D_X12_init 253 rfl) rfl rfl ?_
  refine Vbipush (x := 12) C (dAt D_X12_init 254 rfl) (by decide) ?_
  refine VnewaQ (w.1 + 38) rfl (t := 20) (n := 12) C (dAt D_X12_init 255 rfl) (by decide) (by decide) rfl ga_int (by decide) (by decide) (by decide) (by decide) (by decide) ?_
  have ht := (nw_t (t := 20) (n := 12) ha).trans ht
  have ha := Nat.lt_succ_of_lt ha
  refine VputPF C hcn (dAt D_X12_init 256 rfl) gw_X12_187 ht rfl rfl rfl rfl ?_
  refine Vaload_n C 0 (dAt D_X12_init 257 rfl) rfl rfl ?_
  refine Vbipush (x := 12) C (dAt D_X12_init 258 rfl) (by decide) ?_
  refine VnewaQ (w.1 + 39) rfl (t := 20) (n := 12) C (dAt D_X12_init 259 rfl) (by decide) (by decide) rfl ga_int (by decide) (by decide) (by decide) (by decide) (by decide) ?_
  have ht := (nw_t (t := 20) (n := 12) ha).trans ht
  have ha := Nat.lt_succ_of_lt ha
  refine VputPF C hcn (dAt D_X12_init 260 rfl) gw_X12_190 ht rfl rfl rfl rfl ?_
  refine Vaload_n C 0 (dAt D_X12_init 261 rfl) rfl rfl ?_
  refine Vbipush (x := 12) C (dAt D_X12_init 262 rfl) (by decide) ?_
  refine VnewaQ (w.1 + 40) rfl (t := 20) (n := 12) C (dAt D_X12_init 263 rfl) (by decide) (by decide) rfl ga_int (by decide) (by decide) (by decide) (by decide) (by decide) ?_
  have ht := (nw_t (t := 20) (n := 12) ha).trans ht
  have ha := Nat.lt_succ_of_lt ha
  refine VputPF C hcn (dAt D_X12_init 264 rfl) gw_X12_193 ht rfl rfl rfl rfl ?_
  refine Vaload_n C 0 (dAt D_X12_init 265 rfl) rfl rfl ?_
  refine Vsipush (x := 312) C (dAt D_X12_init 266 rfl) (by decide) ?_
  refine VnewaQ (w.1 + 41) rfl (t := 20) (n := 312) C (dAt D_X12_init 267 rfl) (by decide) (by decide) rfl ga_int (by decide) (by decide) (by decide) (by decide) (by decide) ?_
  have ht := (nw_t (t := 20) (n := 312) ha).trans ht
  have ha := Nat.lt_succ_of_lt ha
  refine VputPF C hcn (dAt D_X12_init 268 rfl) gw_X12_196 ht rfl rfl rfl rfl ?_
  refine Vaload_n C 0 (dAt D_X12_init 269 rfl) rfl rfl ?_
  refine Vbipush (x := 14) C (dAt D_X12_init 270 rfl) (by decide) ?_
  refine VnewaQ (w.1 + 42) rfl (t := 20) (n := 14) C (dAt D_X12_init 271 rfl) (by decide) (by decide) rfl ga_int (by decide) (by decide) (by decide) (by decide) (by decide) ?_
  have ht := (nw_t (t := 20) (n := 14) ha).trans ht
  have ha := Nat.lt_succ_of_lt ha
  refine VputPF C hcn (dAt D_X12_init 272 rfl) gw_X12_199 ht rfl rfl rfl rfl ?_
  refine Vaload_n C 0 (dAt D_X12_init 273 rfl) rfl rfl ?_
  refine Vsipush (x := 700) C (dAt D_X12_init 274 rfl) (by decide) ?_
  refine VnewaQ (w.1 + 43) rfl (t := 20) (n := 700) C (dAt D_X12_init 275 rfl) (by decide) (by decide) rfl ga_int (by decide) (by decide) (by decide) (by decide) (by decide) ?_
  have ht := (nw_t (t := 20) (n := 700) ha).trans ht
  have ha := Nat.lt_succ_of_lt ha
  refine VputPF C hcn (dAt D_X12_init 276 rfl) gw_X12_202 ht rfl rfl rfl rfl ?_
  refine Vaload_n C 0 (dAt D_X12_init 277 rfl) rfl rfl ?_
  refine Vbipush (x := 12) C (dAt D_X12_init 278 rfl) (by decide) ?_
  refine VnewaQ (w.1 + 44) rfl (t := 22) (n := 12) C (dAt D_X12_init 279 rfl) (by decide) (by decide) rfl ga_boolean (by decide) (by decide) (by decide) (by decide) (by decide) ?_
  have ht := (nw_t (t := 22) (n := 12) ha).trans ht
  have ha := Nat.lt_succ_of_lt ha
  refine VputPF C hcn (dAt D_X12_init 280 rfl) gw_X12_205 ht rfl rfl rfl rfl ?_
  refine Vaload_n C 0 (dAt D_X12_init 281 rfl) rfl rfl ?_
  refine Vbipush (x := 12) C (dAt D_X12_init 282 rfl) (by decide) ?_
  refine VnewaQ (w.1 + 45) rfl (t := 20) (n := 12) C (dAt D_X12_init 283 rfl) (by decide) (by decide) rfl ga_int (by decide) (by decide) (by decide) (by decide) (by decide) ?_
  have ht := (nw_t (t := 20) (n := 12) ha).trans ht
  have ha := Nat.lt_succ_of_lt ha
  refine VputPF C hcn (dAt D_X12_init 284 rfl) gw_X12_209 ht rfl rfl rfl rfl ?_
  refine Vaload_n C 0 (dAt D_X12_init 285 rfl) rfl rfl ?_
  refine Vbipush (x := 12) C (dAt D_X12_init 286 rfl) (by decide) ?_
  refine VnewaQ (w.1 + 46) rfl (t := 20) (n := 12) C (dAt D_X12_init 287 rfl) (by decide) (by decide) rfl ga_int (by decide) (by decide) (by decide) (by decide) (by decide) ?_
  have ht := (nw_t (t := 20) (n := 12) ha).trans ht
  have ha := Nat.lt_succ_of_lt ha
  refine VputPF C hcn (dAt D_X12_init 288 rfl) gw_X12_212 ht rfl rfl rfl rfl ?_
  refine Vaload_n C 0 (dAt D_X12_init 289 rfl) rfl rfl ?_
  refine Vsipush (x := 140) C (dAt D_X12_init 290 rfl) (by decide) ?_
  refine VnewaQ (w.1 + 47) rfl (t := 20) (n := 140) C (dAt D_X12_init 291 rfl) (by decide) (by decide) rfl ga_int (by decide) (by decide) (by decide) (by decide) (by decide) ?_
  have ht := (nw_t (t := 20) (n := 140) ha).trans ht
  have ha := Nat.lt_succ_of_lt ha
  refine VputPF C hcn (dAt D_X12_init 292 rfl) gw_X12_215 ht rfl rfl rfl rfl ?_
  exact X12_tail C hcn ht (by decide) (by decide)
set_option maxRecDepth 100000 in
set_option maxHeartbeats 4000000 in
theorem gr_X12_init {w : LT} {u : MT} {a0 : Nat} {x1 : Int32} {x2 : Int32} : (∀ a, a < w.1 → lt_t (F_X12_init a0 x1 x2 w u).1 a = lt_t w a) ∧ (F_X12_init a0 x1 x2 w u).1.1 = w.1 + 48 := by
  refine ⟨fun a h => ?_, rfl⟩
  show (if a = w.1 + 47 then 20 else (if a = w.1 + 46 then 20 else (if a = w.1 + 45 then 20 else (if a = w.1 + 44 then 22 else (if a = w.1 + 43 then 20 else (if a = w.1 + 42 then 20 else (if a = w.1 + 41 then 20 else (if a = w.1 + 40 then 20 else (if a = w.1 + 39 then 20 else (if a = w.1 + 38 then 20 else (if a = w.1 + 37 then 20 else (if a = w.1 + 36 then 20 else (if a = w.1 + 35 then 20 else (if a = w.1 + 34 then 20 else (if a = w.1 + 33 then 20 else (if a = w.1 + 32 then 20 else (if a = w.1 + 31 then 20 else (if a = w.1 + 30 then 20 else (if a = w.1 + 29 then 20 else (if a = w.1 + 28 then 20 else (if a = w.1 + 27 then 20 else (if a = w.1 + 26 then 20 else (if a = w.1 + 25 then 20 else (if a = w.1 + 24 then 20 else (if a = w.1 + 23 then 20 else (if a = w.1 + 22 then 20 else (if a = w.1 + 21 then 20 else (if a = w.1 + 20 then 20 else (if a = w.1 + 19 then 20 else (if a = w.1 + 18 then 20 else (if a = w.1 + 17 then 20 else (if a = w.1 + 16 then 20 else (if a = w.1 + 15 then 20 else (if a = w.1 + 14 then 20 else (if a = w.1 + 13 then 20 else (if a = w.1 + 12 then 20 else (if a = w.1 + 11 then 20 else (if a = w.1 + 10 then 20 else (if a = w.1 + 9 then 20 else (if a = w.1 + 8 then 20 else (if a = w.1 + 7 then 20 else (if a = w.1 + 6 then 20 else (if a = w.1 + 5 then 20 else (if a = w.1 + 4 then 21 else (if a = w.1 + 3 then 21 else (if a = w.1 + 2 then 20 else (if a = w.1 + 1 then 20 else (if a = w.1 then 20 else w.2.1 a)))))))))))))))))))))))))))))))))))))))))))))))) = w.2.1 a
  rw [if_neg (by omega), if_neg (by omega), if_neg (by omega), if_neg (by omega), if_neg (by omega), if_neg (by omega), if_neg (by omega), if_neg (by omega), if_neg (by omega), if_neg (by omega), if_neg (by omega), if_neg (by omega), if_neg (by omega), if_neg (by omega), if_neg (by omega), if_neg (by omega), if_neg (by omega), if_neg (by omega), if_neg (by omega), if_neg (by omega), if_neg (by omega), if_neg (by omega), if_neg (by omega), if_neg (by omega), if_neg (by omega), if_neg (by omega), if_neg (by omega), if_neg (by omega), if_neg (by omega), if_neg (by omega), if_neg (by omega), if_neg (by omega), if_neg (by omega), if_neg (by omega), if_neg (by omega), if_neg (by omega), if_neg (by omega), if_neg (by omega), if_neg (by omega), if_neg (by omega), if_neg (by omega), if_neg (by omega), if_neg (by omega), if_neg (by omega), if_neg (by omega), if_neg (by omega), if_neg (by omega), if_neg (by omega)]
