/-! ===== the law's own had, quarter, bill: they catch ===== -/
def MtW (g : GT) (y : MethodName) (mb : ByteArray) (ml : Nat) (mr : Option FieldType) (hh : List (Nat × Nat × Nat × Nat)) (dp mc ms : Nat) (as : List Value) (w : LT) (u : MT) (Q : Option Value → LT → MT → Prop) : Prop :=
  ∀ l : Launch, l.stackTraces = false → Met l y (.codeWith y mb ml mr hh :: WT) (rmD dp mc ms) (PcX g as w u) (QQ g Q) mc ms (fr g)
def Xh (z : ZT) (hh : List (Nat × Nat × Nat × Nat)) : Prop := match z with
  | (_, l, _, _, s, _, _, _, _, c) => l.stackTraces = false ∧ Xw s ∧ c.exceptionTable.toList = tableOf hh
theorem MtW_of {g : GT} {y : MethodName} {mb : ByteArray} {ml : Nat} {mr : Option FieldType} {hh : List (Nat × Nat × Nat × Nat)} {D mc ms : Nat} {as : List Value} {w : LT} {u : MT} {Q : Option Value → LT → MT → Prop} {own : String} (hy : plainName y.cls = true) (hown : y.cls = own) (hlen : (lg_sl as).length ≤ ml)
    (body : ∀ z : ZT, Cx z g mb ml own mr D mc ms → Xh z hh → V z g ml 0 (lv_args 0 as) [] w u 0 0 Q) : MtW g y mb ml mr hh D mc ms as w u Q := by
  intro l hl0
  refine va_MetW (cc := mb) (maxL := ml) (ret := mr) (hh := hh) hy rfl ?_
  intro p e s m args below meth c s₁ B hml hv
  obtain ⟨rfl, ⟨hst, hR⟩, hXw⟩ := hv
  have hts := atoms_spec (ws := .codeWith y mb ml mr hh :: WT) B.pre
  have ht := vx_table (x := y) B (hts _ List.mem_cons_self)
  have ho : s.vm.findClass own = some m.cls := by rw [← hown]; exact findClass_of_methodNamed B.named
  have hl := lv_entry (as.map (trv g)) (n := ml) (by rw [lg_sl_map]; exact hlen)
  rw [lg_entry_eq]
  rw [lv_args_map] at hl
  exact body (p, l, e, rmD D mc ms, s, m, _, below, meth, c) ⟨B.exec, B.bytes, hml, ho, fun w hw => hts w (List.mem_cons_of_mem _ hw), B.returns, B.notSynchronized, hst, rfl⟩ ⟨hl0, hXw, ht⟩ s.heap [] _ hR va_S.rf hl
theorem Vcatch {z : ZT} {g : GT} {cc : ByteArray} {nL : Nat} {own : String} {ret : Option FieldType} {D mc ms : Nat} {pc : Nat} {lv : List (Nat × Value)} {st : List Value} {w : LT} {u : MT} {kc ks : Nat} {Q : Option Value → LT → MT → Prop} {hh : List (Nat × Nat × Nat × Nat)}
    {idx t n a dp ml i : Nat} {y : MethodName} {mb : ByteArray} {mr : Option FieldType} {as rest : List Value} {x : ExceptionTableEntry} (C : Cx z g cc nL own ret D mc ms) (X : Xh z hh) (d : decode cc pc = .ok (.invokevirtual idx, 3)) (hM : MtX g y mb ml mr dp (.ref a :: as) w u) (hy : YV own idx y mb ml mr n t) (hlk : Cond.methodLink own idx y ∈ WT) (hrv : Rcv w a t) (hst : st = as.reverse ++ .ref a :: rest) (hn : as.length = n) (hrm : (rest.map fun v => v.category).sum ≤ 8) (hml : ml ≤ 45) (hdp : dp + 1 ≤ D) (hc : kc + 1 ≤ mc) (hs : ks + 6 ≤ ms)
    (hone : tableOf hh = [x]) (hx : covers x pc = true) (h0 : x.catchType ≠ 0) (hlink : Cond.classLink own x.catchType nNSE ∈ WT) (da : decode cc x.handlerPc = .ok (.astore i, 2)) (hi : i < nL) (kk : ∀ k, V z g nL (x.handlerPc + 2) [] [] (grw w k) u (kc + 1) (ks + 6) Q) : V z g nL pc lv st w u kc ks Q := by
  obtain ⟨p, l, e, R, s, m, args, below, meth, c⟩ := z
  intro H locs ls hR hS hl
  obtain ⟨hx0, hb, hmL, hown, hts, -, -, hsc, hRm⟩ := C
  obtain ⟨y1, y2, y3⟩ := X
  obtain ⟨⟨-, hcd, hin, hd1, hd2, hd3⟩, hi1, hi2, ht13⟩ := hy
  obtain ⟨hva, hcell⟩ := hrv.get hsc hR hS
  subst hst
  have hstk : (as.reverse ++ .ref a :: rest).map (trv g) = (as.map (trv g)).reverse ++ .ref (adr g a) :: rest.map (trv g) := by
    rw [map_rev, List.map_cons, hva]
  have hpre : PreV s H (cS t) (adr g a) (PcX g (Value.ref a :: as) w u) (as.map (trv g)) :=
    ⟨PcX_blind g _ w u, hcell, fun U hU hW => ⟨by rw [List.map_cons, hva], ⟨hsc.now hS hU hW, by rw [hU]; exact hR⟩, y2.warm hW⟩⟩
  have hR1 : (rmD dp 1 6).frames + 1 ≤ R.frames ∧ 8 + (ml + 11) + (rmD dp 1 6).locals ≤ R.locals := by
    rw [hRm]
    show dp + 1 ≤ D ∧ 8 + (ml + 11) + 64 * dp ≤ 64 * D
    omega
  have hlen : (as.map (trv g)).length = n := by rw [List.length_map]; exact hn
  have hfit : kc + 1 ≤ R.cells ∧ ks + 6 ≤ R.slots := by rw [hRm]; exact ⟨hc, hs⟩
  rw [hstk]
  have hr := vx_runV (Ts := WT) (below := below) (meth := meth) (locs := locs) (e := e) (g := F0 m pc ls ((as.map (trv g)).reverse ++ .ref (adr g a) :: rest.map (trv g))) ⟨hx0, hb, hmL, hown, hts⟩ (hM l y1) ⟨callB_of n hts (good_cons hcd) rfl rfl rfl (hts _ hin) (hts _ hlk) ⟨hd1, hd2, hd3⟩ hR1, hts _ hi1, hts _ hi2⟩ hpre rfl hlen hl.1 rfl (lv_roomT hrm) d hfit
  intro T hT X
  rcases hr T hT X with ⟨v, st₀, t', T', L, _, _, _, _, _, hF, _⟩ | ⟨q, st₀, t', T', L, E, ce, z0, X', hL, e1, e2, ⟨rfl, ⟨k, hRk⟩, hz, hk⟩, hce, hcv, hcl, sto⟩
  · exact absurd hF id
  · obtain ⟨c0, t0, f1, f2, f3⟩ := Cond.castable_spec (va_Nw.use (A := args) (XwL_ot _ List.mem_cons_self) (y2 _ List.mem_cons_self))
    have hfit2 : s.vm.assignable ce.cls ce.cls = true := by
      cases Option.some.inj (f1.symm.trans hcl)
      cases Option.some.inj (f2.symm.trans hcl)
      exact f3
    obtain ⟨k9, h9, -⟩ := Vm.findClass_spec hcl
    obtain ⟨vm', X2, hgo⟩ := cz_catch X' q (g := { F0 m pc ls ((as.map (trv g)).reverse ++ .ref (adr g a) :: rest.map (trv g)) with stack := rest.map (trv g) }) rfl hown (y3.trans hone) hx h0 (hts _ hlink) hcl (by rw [e1]; exact hce) hcv hfit2 ⟨k9, h9⟩
    rw [z0] at hz hk
    have hS1 : va_S (fr g) s.heap T'.heap (locs ++ L) := ⟨Nat.le_trans hS.1 (by rw [e1]; exact hz), fun q h1 h2 => by rw [e1, hk q (Nat.lt_of_lt_of_le h1 hS.1) h2]; exact hS.2.1 q h1 h2, fun q hq => by
      rcases List.mem_append.mp hq with h | h
      · exact hS.2.2 q h
      · exact hL q h⟩
    have hRT : Rep g (grw w k) u T'.heap := by rw [e1]; exact hRk
    have go := lv_astore (R := R) (l := l) (e := e) (s := s) (m := m) (args := args) (below := below) (meth := meth) (H := T'.heap) (locs := locs ++ L) (cells := kc + 1) (slots := ks + 6) (Q := MQ below (QQ g Q) args s R.cells R.slots (fr g)) (rest := []) (x := q) hx0 hb da hl hi rfl (fun ls' hl' => kk k T'.heap (locs ++ L) ls' hRT hS1 (lv_sub hl' [] rfl))
    obtain ⟨t2, a1, b1⟩ := go (T'.setVm vm') rfl X2
    exact ⟨t2, sto.trans (hgo t2 a1), b1⟩
def Q1 (w : LT) (u : MT) : Option Value → LT → MT → Prop := fun v w1 u1 => v = some (.int 1) ∧ (∃ k, w1 = grw w k) ∧ u1 = u
section
variable {g : GT} {w : LT} {u : MT} {x1 x2 x3 : Int32} {f : Nat} {r : Int32 × MT}
theorem lw_hadN (hL : Lay w) (h21 : lt_t w 216 = 21) (h1 : lt_l w 216 = 1) (h : F_X11_had w f x1 x2 x3 u = some r) : MtW g yL_had cL_had 6 (some .int) [(0, 12, 15, 13)] 9 0 0 [.ref 100, .int x1, .int x2, .int x3, .ref 216] w u (Qi 0 w (sL r.2 216 0 r.1.toInt64)) := by
  refine MtW_of (own := RL) (by decide +kernel) rfl (Nat.le_of_ble_eq_true rfl) (fun z C X => ?_)
  show V z g 6 0 [(0, .ref 100), (1, .int x1), (2, .int x2), (3, .int x3), (4, .ref 216)] [] w u 0 0 _
  refine Vaload C 4 (dAt D_L_had 0 rfl) rfl ?_
  refine Viconst (x := 0) C (dAt D_L_had 1 rfl) (by decide) ?_
  refine Vaload_n C 0 (dAt D_L_had 2 rfl) rfl rfl ?_
  refine Viload_n C 1 (dAt D_L_had 3 rfl) rfl rfl ?_
  refine Viload_n C 2 (dAt D_L_had 4 rfl) rfl rfl ?_
  refine Viload_n C 3 (dAt D_L_had 5 rfl) rfl rfl ?_
  refine VcallV (as := [_, _, _]) C (dAt D_L_had 6 rfl) (m_X11_had hL h) yv_L_7 (Or.inl ⟨kt_100 hL, by decide⟩) rfl rfl (Nat.le_of_ble_eq_true rfl) (by decide) (by decide) (by decide) (by decide) (Kint ?_)
  refine Vi2l C (dAt D_L_had 7 rfl) ?_
  refine VlastC 0 C (dAt D_L_had 8 rfl) h21 h1 (nm0.ix (by decide)) nm0.nat ?_
  refine Vgoto (tgt := 19) C (dAt D_L_had 9 rfl) (by decide) ?_
  refine Viconst (x := 0) C (dAt D_L_had 13 rfl) (by decide) ?_
  exact Viret C (dAt D_L_had 14 rfl) (by decide) (by decide) ⟨rfl, rfl, rfl⟩
theorem lw_hadT (hL : Lay w) {n : Nat} (hn : Nm (gI u 101 2) n) (h12 : n ≤ 12) (hg : ¬ ((0 ≤ x1.toInt ∧ x1.toInt < (n : Int)) ∧ (0 ≤ x2.toInt ∧ x2.toInt ≤ 239) ∧ 0 ≤ x3.toInt ∧ x3.toInt ≤ 8)) : MtW g yL_had cL_had 6 (some .int) [(0, 12, 15, 13)] 9 1 6 [.ref 100, .int x1, .int x2, .int x3, .ref 216] w u (Q1 w u) := by
  refine MtW_of (own := RL) (by decide +kernel) rfl (Nat.le_of_ble_eq_true rfl) (fun z C X => ?_)
  show V z g 6 0 [(0, .ref 100), (1, .int x1), (2, .int x2), (3, .int x3), (4, .ref 216)] [] w u 0 0 _
  refine Vaload C 4 (dAt D_L_had 0 rfl) rfl ?_
  refine Viconst (x := 0) C (dAt D_L_had 1 rfl) (by decide) ?_
  refine Vaload_n C 0 (dAt D_L_had 2 rfl) rfl rfl ?_
  refine Viload_n C 1 (dAt D_L_had 3 rfl) rfl rfl ?_
  refine Viload_n C 2 (dAt D_L_had 4 rfl) rfl rfl ?_
  refine Viload_n C 3 (dAt D_L_had 5 rfl) rfl rfl ?_
  refine Vcatch (as := [_, _, _]) (x := ⟨0, 12, 15, 13⟩) C X (dAt D_L_had 6 rfl) (m_X11_hadT hL hn h12 hg) yv_L_7 (WT_c4 224 rfl rfl) (Or.inl ⟨kt_100 hL, by decide⟩) rfl rfl (Nat.le_of_ble_eq_true rfl) (by decide) (by decide) (by decide) (by decide) rfl rfl (by decide) xa_lcl (dAt D_L_had 10 rfl) (by decide) (fun k => ?_)
  refine Viconst (x := 1) C (dAt D_L_had 11 rfl) (by decide) ?_
  exact Viret C (dAt D_L_had 12 rfl) (by decide) (by decide) ⟨rfl, ⟨k, rfl⟩, rfl⟩
theorem lw_quarterN (hL : Lay w) (h21 : lt_t w 216 = 21) (h1 : lt_l w 216 = 1) (h : F_X11_quarter w f x1 x2 u = some r) : MtW g yL_quarter cL_quarter 5 (some .int) [(0, 10, 13, 13)] 9 0 0 [.ref 100, .int x1, .int x2, .ref 216] w u (Qi 0 w (sL r.2 216 0 r.1.toInt64)) := by
  refine MtW_of (own := RL) (by decide +kernel) rfl (Nat.le_of_ble_eq_true rfl) (fun z C X => ?_)
  show V z g 5 0 [(0, .ref 100), (1, .int x1), (2, .int x2), (3, .ref 216)] [] w u 0 0 _
  refine Vaload_n C 3 (dAt D_L_quarter 0 rfl) rfl rfl ?_
  refine Viconst (x := 0) C (dAt D_L_quarter 1 rfl) (by decide) ?_
  refine Vaload_n C 0 (dAt D_L_quarter 2 rfl) rfl rfl ?_
  refine Viload_n C 1 (dAt D_L_quarter 3 rfl) rfl rfl ?_
  refine Viload_n C 2 (dAt D_L_quarter 4 rfl) rfl rfl ?_
  refine VcallV (as := [_, _]) C (dAt D_L_quarter 5 rfl) (m_X11_quarter hL h) yv_L_15 (Or.inl ⟨kt_100 hL, by decide⟩) rfl rfl (Nat.le_of_ble_eq_true rfl) (by decide) (by decide) (by decide) (by decide) (Kint ?_)
  refine Vi2l C (dAt D_L_quarter 6 rfl) ?_
  refine VlastC 0 C (dAt D_L_quarter 7 rfl) h21 h1 (nm0.ix (by decide)) nm0.nat ?_
  refine Vgoto (tgt := 17) C (dAt D_L_quarter 8 rfl) (by decide) ?_
  refine Viconst (x := 0) C (dAt D_L_quarter 12 rfl) (by decide) ?_
  exact Viret C (dAt D_L_quarter 13 rfl) (by decide) (by decide) ⟨rfl, rfl, rfl⟩
theorem lw_quarterT (hL : Lay w) (hg : ¬ ((0 ≤ x1.toInt ∧ x1.toInt ≤ 239) ∧ 0 ≤ x2.toInt ∧ x2.toInt ≤ 13)) : MtW g yL_quarter cL_quarter 5 (some .int) [(0, 10, 13, 13)] 9 1 6 [.ref 100, .int x1, .int x2, .ref 216] w u (Q1 w u) := by
  refine MtW_of (own := RL) (by decide +kernel) rfl (Nat.le_of_ble_eq_true rfl) (fun z C X => ?_)
  show V z g 5 0 [(0, .ref 100), (1, .int x1), (2, .int x2), (3, .ref 216)] [] w u 0 0 _
  refine Vaload_n C 3 (dAt D_L_quarter 0 rfl) rfl rfl ?_
  refine Viconst (x := 0) C (dAt D_L_quarter 1 rfl) (by decide) ?_
  refine Vaload_n C 0 (dAt D_L_quarter 2 rfl) rfl rfl ?_
  refine Viload_n C 1 (dAt D_L_quarter 3 rfl) rfl rfl ?_
  refine Viload_n C 2 (dAt D_L_quarter 4 rfl) rfl rfl ?_
  refine Vcatch (as := [_, _]) (x := ⟨0, 10, 13, 13⟩) C X (dAt D_L_quarter 5 rfl) (m_X11_quarterT hL hg) yv_L_15 (WT_c5 60 rfl rfl) (Or.inl ⟨kt_100 hL, by decide⟩) rfl rfl (Nat.le_of_ble_eq_true rfl) (by decide) (by decide) (by decide) (by decide) rfl rfl (by decide) xa_lcl (dAt D_L_quarter 9 rfl) (by decide) (fun k => ?_)
  refine Viconst (x := 1) C (dAt D_L_quarter 10 rfl) (by decide) ?_
  exact Viret C (dAt D_L_quarter 11 rfl) (by decide) (by decide) ⟨rfl, ⟨k, rfl⟩, rfl⟩
theorem lw_billN (hL : Lay w) (h21 : lt_t w 216 = 21) (h1 : lt_l w 216 = 1) (h : F_X11_bill f x1 x2 u = some r) : MtW g yL_bill cL_bill 5 (some .int) [(0, 10, 13, 13)] 9 0 0 [.ref 100, .int x1, .int x2, .ref 216] w u (Qi 0 w (sL r.2 216 0 r.1.toInt64)) := by
  refine MtW_of (own := RL) (by decide +kernel) rfl (Nat.le_of_ble_eq_true rfl) (fun z C X => ?_)
  show V z g 5 0 [(0, .ref 100), (1, .int x1), (2, .int x2), (3, .ref 216)] [] w u 0 0 _
  refine Vaload_n C 3 (dAt D_L_bill 0 rfl) rfl rfl ?_
  refine Viconst (x := 0) C (dAt D_L_bill 1 rfl) (by decide) ?_
  refine Vaload_n C 0 (dAt D_L_bill 2 rfl) rfl rfl ?_
  refine Viload_n C 1 (dAt D_L_bill 3 rfl) rfl rfl ?_
  refine Viload_n C 2 (dAt D_L_bill 4 rfl) rfl rfl ?_
  refine VcallV (as := [_, _]) C (dAt D_L_bill 5 rfl) (m_X11_bill hL h) yv_L_19 (Or.inl ⟨kt_100 hL, by decide⟩) rfl rfl (Nat.le_of_ble_eq_true rfl) (by decide) (by decide) (by decide) (by decide) (Kint ?_)
  refine Vi2l C (dAt D_L_bill 6 rfl) ?_
  refine VlastC 0 C (dAt D_L_bill 7 rfl) h21 h1 (nm0.ix (by decide)) nm0.nat ?_
  refine Vgoto (tgt := 17) C (dAt D_L_bill 8 rfl) (by decide) ?_
  refine Viconst (x := 0) C (dAt D_L_bill 12 rfl) (by decide) ?_
  exact Viret C (dAt D_L_bill 13 rfl) (by decide) (by decide) ⟨rfl, rfl, rfl⟩
theorem lw_billT (hL : Lay w) {n nb : Nat} (hn : Nm (gI u 101 2) n) (h12 : n ≤ 12) (hb : Nm (gI u 136 1) nb) (hb10 : nb ≤ 10) (hg : ¬ ((0 ≤ x1.toInt ∧ x1.toInt < (nb : Int)) ∧ -2 ≤ x2.toInt ∧ x2.toInt < (n : Int))) : MtW g yL_bill cL_bill 5 (some .int) [(0, 10, 13, 13)] 9 1 6 [.ref 100, .int x1, .int x2, .ref 216] w u (Q1 w u) := by
  refine MtW_of (own := RL) (by decide +kernel) rfl (Nat.le_of_ble_eq_true rfl) (fun z C X => ?_)
  show V z g 5 0 [(0, .ref 100), (1, .int x1), (2, .int x2), (3, .ref 216)] [] w u 0 0 _
  refine Vaload_n C 3 (dAt D_L_bill 0 rfl) rfl rfl ?_
  refine Viconst (x := 0) C (dAt D_L_bill 1 rfl) (by decide) ?_
  refine Vaload_n C 0 (dAt D_L_bill 2 rfl) rfl rfl ?_
  refine Viload_n C 1 (dAt D_L_bill 3 rfl) rfl rfl ?_
  refine Viload_n C 2 (dAt D_L_bill 4 rfl) rfl rfl ?_
  refine Vcatch (as := [_, _]) (x := ⟨0, 10, 13, 13⟩) C X (dAt D_L_bill 5 rfl) (m_X11_billT hL hn h12 hb hb10 hg) yv_L_19 (WT_c5 68 rfl rfl) (Or.inl ⟨kt_100 hL, by decide⟩) rfl rfl (Nat.le_of_ble_eq_true rfl) (by decide) (by decide) (by decide) (by decide) rfl rfl (by decide) xa_lcl (dAt D_L_bill 9 rfl) (by decide) (fun k => ?_)
  refine Viconst (x := 1) C (dAt D_L_bill 10 rfl) (by decide) ?_
  exact Viret C (dAt D_L_bill 11 rfl) (by decide) (by decide) ⟨rfl, ⟨k, rfl⟩, rfl⟩
end
