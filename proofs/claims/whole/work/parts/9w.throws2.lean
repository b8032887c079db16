/-! ===== a throw of the class's ===== -/
theorem xa_cl : Cond.classLink RX11 136 nNSE ∈ WT := WT_c4 228 rfl rfl
theorem xa_ini : Cond.initialized nNSE ∈ WT := WT_c1 23 rfl rfl
theorem xa_lcl : Cond.classLink RL 13 nNSE ∈ WT := WT_c4 223 rfl rfl
def Xw (U : State) : Prop := ∀ w ∈ XwL, va_Nw w U
theorem XwL_ot : ∀ w ∈ XwL, w.onTables = true := by decide +kernel
theorem Xw.warm {s U : State} (h : Xw s) (hW : s.WarmedH U.vm) : Xw U := by
  intro w hw
  have h1 := h w hw
  simp only [XwL, List.mem_cons, List.not_mem_nil, or_false] at hw
  rcases hw with e | e | e | e <;> subst e
  · exact va_Nw.warmC hW h1
  · exact va_Nw.warmD hW h1
  · exact va_Nw.warmD hW h1
  · exact va_Nw.warmD hW h1
/-- cells more of which nothing is said -/
def grw (w : LT) (k : Nat) : LT := (w.1 + k, w.2)
theorem Rep.grw {g : GT} {w : LT} {u : MT} {H H' : Heap} (hR : Rep g w u H) (hz : H.size ≤ H'.size) (ho : ∀ q : Nat, q < H.size → H'[q]? = H[q]?) : ∃ k, Rep g (grw w k) u H' := by
  obtain ⟨h1, h2, h3, h4⟩ := hR
  have e0 : lt_n w = w.1 := rfl
  refine ⟨H'.size - H.size, ?_, ?_, fun b hb => ?_, fun b hb1 hb2 => ?_⟩
  · show H'.size = gn g + (w.1 + (H'.size - H.size) - 100); omega
  · show 100 ≤ w.1 + (H'.size - H.size); omega
  · have hb : b < 100 ∨ w.1 + (H'.size - H.size) ≤ b := hb
    exact h3 b (by omega)
  · by_cases c : b < w.1
    · refine (h4 b hb1 c).go rfl rfl rfl rfl rfl rfl (ho _ ?_)
      rw [adr_dyn g hb1, h1]
      omega
    · have e : lt_t (_root_.Jvm.Pilot.CSunVillageLaw_law_r6740_737435.grw w (H'.size - H.size)) b = 99 := h3 b (Or.inr (by omega))
      exact ⟨fun q => by omega, fun _ q => by omega⟩
def XX (g : GT) (w : LT) (u : MT) : String → State → State → Prop := fun E st t => E = nNSE ∧ (∃ k, Rep g (grw w k) u t.heap) ∧ va_F (fr g) st t
def PcX (g : GT) (as : List Value) (w : LT) (u : MT) : Array Value → State → Prop := va_Pc (as.map (trv g)) (fun U => (Stc g U ∧ Rep g w u U.heap) ∧ Xw U)
theorem PcX_blind (g : GT) (as : List Value) (w : LT) (u : MT) : FrameBlind (PcX g as w u) := by
  intro a U f mk ⟨h1, ⟨h2, h3⟩, h4⟩
  exact ⟨h1, ⟨h2.go (s := U) (U := U.calling f mk a) (State.WarmedH.refl U) (Nat.le_refl _) (fun _ _ _ => rfl), h3⟩, h4.warm (U := U.calling f mk a) (State.WarmedH.refl U)⟩
/-- a method's contract where it throws -/
def MtX (g : GT) (y : MethodName) (mb : ByteArray) (ml : Nat) (mr : Option FieldType) (dp : Nat) (as : List Value) (w : LT) (u : MT) : Prop :=
  ∀ l : Launch, l.stackTraces = false → vx_Met l y (.code y mb ml mr :: WT) (rmD dp 1 6) (PcX g as w u) (fun _ _ _ _ => False) (XX g w u) 1 6 (fr g)
def PfX (z : ZT) (g : GT) (w : LT) (u : MT) : State → Prop := match z with
  | (_, _, _, _, s, _, args, below, _, _) => vx_MQ below (fun _ _ _ _ => False) (XX g w u) args s 1 6 (fr g)
def Xs (z : ZT) : Prop := match z with
  | (_, l, _, _, s, _, _, _, _, c) => l.stackTraces = false ∧ Xw s ∧ ∀ x ∈ c.exceptionTable.toList, False
theorem MtX_of {g : GT} {y : MethodName} {mb : ByteArray} {ml : Nat} {mr : Option FieldType} {D : Nat} {as : List Value} {w : LT} {u : MT} {own : String} (hy : plainName y.cls = true) (hown : y.cls = own) (hlen : (lg_sl as).length ≤ ml)
    (body : ∀ z : ZT, Cx z g mb ml own mr D 1 6 → Xs z → VG z g ml 0 (lv_args 0 as) [] w u 0 0 (PfX z g w u)) : MtX g y mb ml mr D as w u := by
  intro l hl0
  refine vx_ofW (cc := mb) (maxL := ml) (ret := mr) hy rfl ?_
  intro p e s m args below meth c s₁ B hml ht hv
  obtain ⟨rfl, ⟨hst, hR⟩, hXw⟩ := hv
  have hts := atoms_spec (ws := .code y mb ml mr :: WT) B.pre
  have ho : s.vm.findClass own = some m.cls := by rw [← hown]; exact findClass_of_methodNamed B.named
  have hl := lv_entry (as.map (trv g)) (n := ml) (by rw [lg_sl_map]; exact hlen)
  rw [lg_entry_eq]
  rw [lv_args_map] at hl
  exact body (p, l, e, rmD D 1 6, s, m, _, below, meth, c) ⟨B.exec, B.bytes, hml, ho, fun w hw => hts w (List.mem_cons_of_mem _ hw), B.returns, B.notSynchronized, hst, rfl⟩ ⟨hl0, hXw, ht⟩ s.heap [] _ hR va_S.rf hl
theorem Gthrow {z : ZT} {g : GT} {cc : ByteArray} {nL : Nat} {ret : Option FieldType} {D : Nat} {pc : Nat} {lv : List (Nat × Value)} {w : LT} {u : MT} (C : Cx z g cc nL RX11 ret D 1 6) (X : Xs z) (hD : 7 ≤ D) (d0 : decode cc pc = .ok (.new 136, 3)) (d3 : decode cc (pc + 3) = .ok (.dup, 1)) (d4 : decode cc (pc + 4) = .ok (.invokespecial 138, 3)) (d7 : decode cc (pc + 7) = .ok (.athrow, 1)) : VG z g nL pc lv [] w u 0 0 (PfX z g w u) := by
  obtain ⟨p, l, e, R, s, m, args, below, meth, c⟩ := z
  obtain ⟨hx, hb, hmL, hown, hts, _, hlk, hsc, hRm⟩ := C
  obtain ⟨x1, x2, x3⟩ := X
  intro H locs ls hR hS hl
  have hz := hsc.2.2.2.2.2.2.2.2
  have hat : ∀ w ∈ vx_at0 RX11 138 nNSE nSup, w.before args s = true := vx_hat (fun w hw => hts w (List.mem_filter.mpr ⟨xa_in w hw, (List.mem_filter.mp hw).2⟩)) xa_bad (fun w hw => va_Nw.use (XwL_ot w hw) (x2 w hw))
  refine vx_throw0 hx hb x1 (own := RX11) (cls := nNSE) (names := nSup) (ik := 136) (ic := 138) (A := fr g) hown (by decide +kernel) (by decide +kernel) (hts _ xa_cl) (hts _ xa_ini) hat xa_ot hz.2.1 hz.2.2.1 hS (hl.1.trans hmL.symm) d0 d3 d4 d7 (fun x hx => absurd (x3 x hx) id) ?_ ?_ ?_ ?_ hlk (fun t ha h1 h2 => ⟨rfl, hR.grw h1 h2, ?_⟩) hS.2.2 (by decide) (by decide)
  · rw [hRm]; show 2 + 3 < D; omega
  · rw [hRm]; show 0 + (13 * (2 + 1) + 42) ≤ 64 * D; omega
  · rw [hRm]; show 0 + 1 ≤ 1; decide
  · rw [hRm]; show 0 + 6 ≤ 6; decide
  · exact ⟨Nat.le_trans hS.1 h1, fun q q1 q2 => (h2 q (Nat.lt_of_lt_of_le q1 hS.1)).trans (hS.2.1 q q1 q2)⟩
/-! the three methods -/
theorem m_X11_hadT {g : GT} {w : LT} (hL : Lay w) {x1 x2 x3 : Int32} {n : Nat} {u : MT} (hn : Nm (gI u 101 2) n) (h12 : n ≤ 12) (hg : ¬ ((0 ≤ x1.toInt ∧ x1.toInt < (n : Int)) ∧ (0 ≤ x2.toInt ∧ x2.toInt ≤ 239) ∧ 0 ≤ x3.toInt ∧ x3.toInt ≤ 8)) : MtX g yX11_had cX11_had 4 (some .int) 8 [.ref 100, .int x1, .int x2, .int x3] w u := by
  have z0 : (0 : Int32).toInt = 0 := rfl
  have z8 : (8 : Int32).toInt = 8 := rfl
  refine MtX_of (own := RX11) (by decide +kernel) rfl (Nat.le_of_ble_eq_true rfl) (fun z C X => ?_)
  show VG z g 4 0 [(0, .ref 100), (1, .int x1), (2, .int x2), (3, .int x3)] [] w u 0 0 (PfX z g w u)
  have thr : ∀ lv, VG z g 4 28 lv [] w u 0 0 (PfX z g w u) := fun lv => Gthrow C X (by decide) (dAt D_X11_had 13 rfl) (dAt D_X11_had 14 rfl) (dAt D_X11_had 15 rfl) (dAt D_X11_had 16 rfl)
  refine Gaload_n C 0 (dAt D_X11_had 0 rfl) rfl rfl ?_
  refine GgetP C (dAt D_X11_had 1 rfl) gf_X11_10 (kt_100 hL) rfl (kp_100_0 hL) ?_
  refine Giload_n C 1 (dAt D_X11_had 2 rfl) rfl rfl ?_
  refine GcallV (as := [_]) C (dAt D_X11_had 3 rfl) (m_X2_has hL (c_has (f := 0) (x := x1) hn h12)) yv_X11_97 (Or.inl ⟨(kt_101 hL), by decide⟩) rfl rfl (Nat.le_of_ble_eq_true rfl) (by decide) (by decide) (by decide) (by decide) (GKint ?_)
  refine Gif_eq (tgt := 28) C (dAt D_X11_had 4 rfl) (by decide) (fun _ => thr _) (fun c3 => ?_)
  have g1 : 0 ≤ x1.toInt ∧ x1.toInt < (n : Int) := by
    by_cases c : 0 ≤ x1.toInt ∧ x1.toInt < (n : Int)
    · exact c
    · exact absurd (b2i_f c) c3
  refine Giload_n C 2 (dAt D_X11_had 5 rfl) rfl rfl ?_
  refine GcallS (as := [_]) C (dAt D_X11_had 6 rfl) (m_X11_isQuarter hL (c_isQ (f := 0) (x := x2))) yb_X11_101 ys_X11_101 rfl rfl (Nat.le_of_ble_eq_true rfl) (by decide) (by decide) (by decide) (by decide) (GKint ?_)
  refine Gif_eq (tgt := 28) C (dAt D_X11_had 7 rfl) (by decide) (fun _ => thr _) (fun c6 => ?_)
  have g2 : 0 ≤ x2.toInt ∧ x2.toInt ≤ 239 := by
    by_cases c : 0 ≤ x2.toInt ∧ x2.toInt ≤ 239
    · exact c
    · exact absurd (b2i_f c) c6
  refine Giload_n C 3 (dAt D_X11_had 8 rfl) rfl rfl ?_
  refine Giconst (x := 0) C (dAt D_X11_had 9 rfl) (by decide) ?_
  refine Gbipush (x := 8) C (dAt D_X11_had 10 rfl) (by decide) ?_
  refine GcallS (as := [_, _, _]) C (dAt D_X11_had 11 rfl) (m_X11_isIn hL (c_isIn (f := 0) (x := x3) (a := 0) (b := 8))) yb_X11_40 ys_X11_40 rfl rfl (Nat.le_of_ble_eq_true rfl) (by decide) (by decide) (by decide) (by decide) (GKint ?_)
  refine Gif_ne (tgt := 36) C (dAt D_X11_had 12 rfl) (by decide) (fun c9 => ?_) (fun _ => thr _)
  exact absurd (b2i_f (fun c => hg ⟨g1, g2, by rw [z0, z8] at c; exact c⟩)) c9
theorem m_X11_quarterT {g : GT} {w : LT} (hL : Lay w) {x1 x2 : Int32} {u : MT} (hg : ¬ ((0 ≤ x1.toInt ∧ x1.toInt ≤ 239) ∧ 0 ≤ x2.toInt ∧ x2.toInt ≤ 13)) : MtX g yX11_quarter cX11_quarter 3 (some .int) 8 [.ref 100, .int x1, .int x2] w u := by
  have z0 : (0 : Int32).toInt = 0 := rfl
  have z8 : (13 : Int32).toInt = 13 := rfl
  refine MtX_of (own := RX11) (by decide +kernel) rfl (Nat.le_of_ble_eq_true rfl) (fun z C X => ?_)
  show VG z g 3 0 [(0, .ref 100), (1, .int x1), (2, .int x2)] [] w u 0 0 (PfX z g w u)
  have thr : ∀ lv, VG z g 3 17 lv [] w u 0 0 (PfX z g w u) := fun lv => Gthrow C X (by decide) (dAt D_X11_quarter 8 rfl) (dAt D_X11_quarter 9 rfl) (dAt D_X11_quarter 10 rfl) (dAt D_X11_quarter 11 rfl)
  refine Giload_n C 1 (dAt D_X11_quarter 0 rfl) rfl rfl ?_
  refine GcallS (as := [_]) C (dAt D_X11_quarter 1 rfl) (m_X11_isQuarter hL (c_isQ (f := 0) (x := x1))) yb_X11_101 ys_X11_101 rfl rfl (Nat.le_of_ble_eq_true rfl) (by decide) (by decide) (by decide) (by decide) (GKint ?_)
  refine Gif_eq (tgt := 17) C (dAt D_X11_quarter 2 rfl) (by decide) (fun _ => thr _) (fun c6 => ?_)
  have g2 : 0 ≤ x1.toInt ∧ x1.toInt ≤ 239 := by
    by_cases c : 0 ≤ x1.toInt ∧ x1.toInt ≤ 239
    · exact c
    · exact absurd (b2i_f c) c6
  refine Giload_n C 2 (dAt D_X11_quarter 3 rfl) rfl rfl ?_
  refine Giconst (x := 0) C (dAt D_X11_quarter 4 rfl) (by decide) ?_
  refine Gbipush (x := 13) C (dAt D_X11_quarter 5 rfl) (by decide) ?_
  refine GcallS (as := [_, _, _]) C (dAt D_X11_quarter 6 rfl) (m_X11_isIn hL (c_isIn (f := 0) (x := x2) (a := 0) (b := 13))) yb_X11_40 ys_X11_40 rfl rfl (Nat.le_of_ble_eq_true rfl) (by decide) (by decide) (by decide) (by decide) (GKint ?_)
  refine Gif_ne (tgt := 25) C (dAt D_X11_quarter 7 rfl) (by decide) (fun c9 => ?_) (fun _ => thr _)
  exact absurd (b2i_f (fun c => hg ⟨g2, by rw [z0, z8] at c; exact c⟩)) c9
theorem m_X11_billT {g : GT} {w : LT} (hL : Lay w) {x1 x2 : Int32} {n nb : Nat} {u : MT} (hn : Nm (gI u 101 2) n) (h12 : n ≤ 12) (hb : Nm (gI u 136 1) nb) (hb10 : nb ≤ 10) (hg : ¬ ((0 ≤ x1.toInt ∧ x1.toInt < (nb : Int)) ∧ -2 ≤ x2.toInt ∧ x2.toInt < (n : Int))) : MtX g yX11_bill cX11_bill 3 (some .int) 8 [.ref 100, .int x1, .int x2] w u := by
  have z0 : (0 : Int32).toInt = 0 := rfl
  have z1 : (1 : Int32).toInt = 1 := rfl
  have zm : (-2 : Int32).toInt = -2 := rfl
  have hn' : (gI u 101 2).toInt = (n : Int) := hn
  have hb' : (gI u 136 1).toInt = (nb : Int) := hb
  have s1 : (gI u 136 1 - 1).toInt = (nb : Int) - 1 := by rw [i_sub (by omega) (by omega)]; omega
  have s2 : (gI u 101 2 - 1).toInt = (n : Int) - 1 := by rw [i_sub (by omega) (by omega)]; omega
  refine MtX_of (own := RX11) (by decide +kernel) rfl (Nat.le_of_ble_eq_true rfl) (fun z C X => ?_)
  show VG z g 3 0 [(0, .ref 100), (1, .int x1), (2, .int x2)] [] w u 0 0 (PfX z g w u)
  have thr : ∀ lv, VG z g 3 35 lv [] w u 0 0 (PfX z g w u) := fun lv => Gthrow C X (by decide) (dAt D_X11_bill 18 rfl) (dAt D_X11_bill 19 rfl) (dAt D_X11_bill 20 rfl) (dAt D_X11_bill 21 rfl)
  refine Giload_n C 1 (dAt D_X11_bill 0 rfl) rfl rfl ?_
  refine Giconst (x := 0) C (dAt D_X11_bill 1 rfl) (by decide) ?_
  refine Gaload_n C 0 (dAt D_X11_bill 2 rfl) rfl rfl ?_
  refine GgetP C (dAt D_X11_bill 3 rfl) gf_X11_70 (kt_100 hL) rfl (kp_100_7 hL) ?_
  refine GgetI C (dAt D_X11_bill 4 rfl) gf_X11_187 (kt_136 hL) rfl ?_
  refine Giconst (x := 1) C (dAt D_X11_bill 5 rfl) (by decide) ?_
  refine Gisub C (dAt D_X11_bill 6 rfl) ?_
  refine GcallS (as := [_, _, _]) C (dAt D_X11_bill 7 rfl) (m_X11_isIn hL (c_isIn (f := 0) (x := x1) (a := 0) (b := gI u 136 1 - 1))) yb_X11_40 ys_X11_40 rfl rfl (Nat.le_of_ble_eq_true rfl) (by decide) (by decide) (by decide) (by decide) (GKint ?_)
  refine Gif_eq (tgt := 35) C (dAt D_X11_bill 8 rfl) (by decide) (fun _ => thr _) (fun c6 => ?_)
  have g2 : 0 ≤ x1.toInt ∧ x1.toInt < (nb : Int) := by
    by_cases c : (0 : Int32).toInt ≤ x1.toInt ∧ x1.toInt ≤ (gI u 136 1 - 1).toInt
    · rw [z0, s1] at c; omega
    · exact absurd (b2i_f c) c6
  refine Giload_n C 2 (dAt D_X11_bill 9 rfl) rfl rfl ?_
  refine Gbipush (x := (-2)) C (dAt D_X11_bill 10 rfl) (by decide) ?_
  refine Gaload_n C 0 (dAt D_X11_bill 11 rfl) rfl rfl ?_
  refine GgetP C (dAt D_X11_bill 12 rfl) gf_X11_10 (kt_100 hL) rfl (kp_100_0 hL) ?_
  refine GgetI C (dAt D_X11_bill 13 rfl) gf_X11_92 (kt_101 hL) rfl ?_
  refine Giconst (x := 1) C (dAt D_X11_bill 14 rfl) (by decide) ?_
  refine Gisub C (dAt D_X11_bill 15 rfl) ?_
  refine GcallS (as := [_, _, _]) C (dAt D_X11_bill 16 rfl) (m_X11_isIn hL (c_isIn (f := 0) (x := x2) (a := -2) (b := gI u 101 2 - 1))) yb_X11_40 ys_X11_40 rfl rfl (Nat.le_of_ble_eq_true rfl) (by decide) (by decide) (by decide) (by decide) (GKint ?_)
  refine Gif_ne (tgt := 43) C (dAt D_X11_bill 17 rfl) (by decide) (fun c9 => ?_) (fun _ => thr _)
  exact absurd (b2i_f (fun c => hg ⟨g2, by rw [zm, s2] at c; omega⟩)) c9
