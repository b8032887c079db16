/-! ===== MORE ROWS, THE LAYOUT ===== -/
abbrev ixo (i : Int32) (n : Nat) : Prop := 0 ≤ i.toInt ∧ i.toInt < (n : Int)
def ck {α : Type} (c : Prop) [Decidable c] (x : Option α) : Option α := if c then x else none
theorem ok_ck {α : Type} {c : Prop} [Decidable c] {x : Option α} {r : α} (h : ck c x = some r) : c ∧ x = some r := ok_if h
theorem ck_t {α : Type} {c : Prop} [Decidable c] {x : Option α} (hc : c) : ck c x = x := if_pos hc
theorem nz01 {x : Int32} (h : x = 0 ∨ x = 1) : narrow .boolean (.int x) = .int x := by rcases h with rfl | rfl <;> rfl
section VMORE
variable {z : ZT} {g : GT} {cc : ByteArray} {nL : Nat} {own : String} {ret : Option FieldType} {D mc ms : Nat} {pc : Nat} {lv lv' : List (Nat × Value)} {st : List Value} {w w' : LT} {u u' : MT} {kc ks : Nat} {Q : Option Value → LT → MT → Prop}
theorem Vsub (is : List Nat) (h : lv_pick lv is = lv') (k : V z g nL pc lv' st w u kc ks Q) : V z g nL pc lv st w u kc ks Q := by
  obtain ⟨p, l, e, R, s, m, args, below, meth, c⟩ := z
  intro H locs ls hR hS hl
  refine k H locs ls hR hS (lv_sub hl is ?_)
  rw [← h]
  unfold lv_pick
  rw [List.map_filterMap]
  congr 1
  funext i
  rw [List.getElem?_map]
theorem Vstk {st' : List Value} (h : st = st') (k : V z g nL pc lv st' w u kc ks Q) : V z g nL pc lv st w u kc ks Q := h ▸ k
theorem VialdC {a n : Nat} {i : Int32} (j : Nat) (C : Cx z g cc nL own ret D mc ms) (d : decode cc pc = .ok (.iaload, 1)) (ht : lt_t w a = 20) (hn : lt_l w a = n) (hin : ixo i n) (hj : i.toNatClampNeg = j) (kk : V z g nL (pc + 1) lv (.int (gI u a j) :: st) w u kc ks Q) : V z g nL pc lv (.int i :: .ref a :: st) w u kc ks Q := by
  subst hj
  exact Viald C d ht hn (vp_in_iff.mpr hin) kk
theorem VlaldC {a n : Nat} {i : Int32} (j : Nat) (C : Cx z g cc nL own ret D mc ms) (d : decode cc pc = .ok (.laload, 1)) (ht : lt_t w a = 21) (hn : lt_l w a = n) (hin : ixo i n) (hj : i.toNatClampNeg = j) (kk : V z g nL (pc + 1) lv (.long (gL u a j) :: st) w u kc ks Q) : V z g nL pc lv (.int i :: .ref a :: st) w u kc ks Q := by
  subst hj
  exact Vlald C d ht hn (vp_in_iff.mpr hin) kk
theorem VcaldC {a n : Nat} {i : Int32} (j : Nat) (C : Cx z g cc nL own ret D mc ms) (d : decode cc pc = .ok (.caload, 1)) (ht : lt_t w a = 23) (hn : lt_l w a = n) (hin : ixo i n) (hj : i.toNatClampNeg = j) (kk : V z g nL (pc + 1) lv (.int (gI u a j) :: st) w u kc ks Q) : V z g nL pc lv (.int i :: .ref a :: st) w u kc ks Q := by
  subst hj
  exact Vcald C d ht hn (vp_in_iff.mpr hin) kk
theorem VzaldC {a n : Nat} {i : Int32} (j : Nat) (C : Cx z g cc nL own ret D mc ms) (d : decode cc pc = .ok (.baload, 1)) (ht : lt_t w a = 22) (hn : lt_l w a = n) (hin : ixo i n) (hj : i.toNatClampNeg = j) (kk : V z g nL (pc + 1) lv (.int (gI u a j) :: st) w u kc ks Q) : V z g nL pc lv (.int i :: .ref a :: st) w u kc ks Q := by
  subst hj
  exact Vzald C d ht hn (vp_in_iff.mpr hin) kk
theorem ViastC {a n : Nat} {i : Int32} {x : Int32} (j : Nat) (C : Cx z g cc nL own ret D mc ms) (d : decode cc pc = .ok (.iastore, 1)) (ht : lt_t w a = 20) (hn : lt_l w a = n) (hin : ixo i n) (hj : i.toNatClampNeg = j) (kk : V z g nL (pc + 1) lv st w (sI u a j x) kc ks Q) : V z g nL pc lv (.int x :: .int i :: .ref a :: st) w u kc ks Q := by
  subst hj
  exact Viast C d ht hn (vp_in_iff.mpr hin) kk
theorem VlastC {a n : Nat} {i : Int32} {x : Int64} (j : Nat) (C : Cx z g cc nL own ret D mc ms) (d : decode cc pc = .ok (.lastore, 1)) (ht : lt_t w a = 21) (hn : lt_l w a = n) (hin : ixo i n) (hj : i.toNatClampNeg = j) (kk : V z g nL (pc + 1) lv st w (sL u a j x) kc ks Q) : V z g nL pc lv (.long x :: .int i :: .ref a :: st) w u kc ks Q := by
  subst hj
  exact Vlast C d ht hn (vp_in_iff.mpr hin) kk
theorem VzastC {a n : Nat} {i : Int32} {x : Int32} (j : Nat) (C : Cx z g cc nL own ret D mc ms) (d : decode cc pc = .ok (.bastore, 1)) (ht : lt_t w a = 22) (hn : lt_l w a = n) (hin : ixo i n) (hj : i.toNatClampNeg = j) (kk : V z g nL (pc + 1) lv st w (sI u a j (vp_nar .boolean x)) kc ks Q) : V z g nL pc lv (.int x :: .int i :: .ref a :: st) w u kc ks Q := by
  subst hj
  exact Vzast C d ht hn (vp_in_iff.mpr hin) kk
theorem VcastC {a n : Nat} {i : Int32} {x : Int32} (j : Nat) (C : Cx z g cc nL own ret D mc ms) (d : decode cc pc = .ok (.castore, 1)) (ht : lt_t w a = 23) (hn : lt_l w a = n) (hin : ixo i n) (hj : i.toNatClampNeg = j) (kk : V z g nL (pc + 1) lv st w (sI u a j (vp_nar .char x)) kc ks Q) : V z g nL pc lv (.int x :: .int i :: .ref a :: st) w u kc ks Q := by
  subst hj
  exact Vcast C d ht hn (vp_in_iff.mpr hin) kk
end VMORE
/-- the cells that are made first: number, kind, length -/
def tabT : List (Nat × Nat × Nat) := [(100, 11, 0), (101, 2, 0), (102, 20, 12), (103, 20, 12), (104, 4, 0), (105, 20, 400), (106, 20, 400), (107, 20, 400), (108, 20, 400), (109, 20, 400), (110, 6, 0), (111, 23, 1200), (112, 3, 0), (113, 24, 1201), (114, 20, 1201), (115, 20, 1201), (116, 10, 0), (117, 20, 12), (118, 20, 12), (119, 20, 12), (120, 20, 12), (121, 20, 12), (122, 20, 12), (123, 22, 12), (124, 20, 12), (125, 20, 14), (126, 20, 12), (127, 20, 14), (128, 8, 0), (129, 26, 6), (130, 1, 0), (131, 20, 2880), (132, 20, 2880), (133, 20, 2880), (134, 20, 2880), (135, 20, 3360), (136, 0, 0), (137, 20, 140), (138, 8, 0), (139, 26, 6), (167, 12, 0), (168, 20, 1200), (169, 20, 1202), (170, 20, 1202), (171, 21, 1202), (172, 21, 24), (173, 20, 8), (174, 20, 8), (175, 20, 192), (176, 20, 192), (177, 20, 192), (178, 20, 192), (179, 20, 192), (180, 20, 192), (181, 20, 192), (182, 20, 10400), (183, 20, 10400), (184, 20, 8), (185, 20, 6), (186, 20, 6), (187, 20, 8), (188, 20, 8), (189, 20, 12), (190, 20, 12), (191, 20, 400), (192, 20, 400), (193, 20, 400), (194, 20, 400), (195, 20, 400), (196, 20, 4), (197, 20, 12), (198, 20, 12), (199, 20, 12), (200, 20, 12), (201, 20, 12), (202, 20, 12), (203, 20, 12), (204, 20, 12), (205, 20, 12), (206, 20, 12), (207, 20, 12), (208, 20, 12), (209, 20, 312), (210, 20, 14), (211, 20, 700), (212, 22, 12), (213, 20, 12), (214, 20, 12), (215, 20, 140)]
/-- their references that stay -/
def tabP : List (Nat × Nat × Nat) := [(100, 0, 101), (100, 1, 104), (100, 2, 110), (100, 3, 112), (100, 4, 116), (100, 5, 128), (100, 6, 130), (100, 7, 136), (100, 8, 138), (101, 0, 102), (101, 1, 103), (104, 0, 105), (104, 1, 106), (104, 2, 107), (104, 3, 108), (104, 4, 109), (110, 0, 111), (112, 0, 113), (112, 1, 114), (112, 2, 115), (116, 0, 101), (116, 6, 117), (116, 7, 118), (116, 8, 119), (116, 9, 120), (116, 10, 121), (116, 11, 122), (116, 13, 123), (116, 14, 124), (116, 15, 125), (116, 18, 126), (116, 19, 127), (128, 0, 129), (130, 0, 101), (130, 1, 104), (130, 2, 128), (130, 3, 116), (130, 6, 131), (130, 7, 132), (130, 8, 133), (130, 9, 134), (130, 10, 135), (136, 0, 137), (138, 0, 139), (167, 1, 168), (167, 4, 169), (167, 5, 170), (167, 6, 171), (167, 9, 172), (167, 10, 173), (167, 11, 174), (167, 12, 175), (167, 13, 176), (167, 14, 177), (167, 15, 178), (167, 16, 179), (167, 17, 180), (167, 18, 181), (167, 19, 182), (167, 20, 183), (167, 21, 184), (167, 23, 185), (167, 24, 186), (167, 27, 187), (167, 28, 188), (167, 32, 189), (167, 33, 190), (167, 35, 191), (167, 36, 192), (167, 37, 193), (167, 38, 194), (167, 39, 195), (167, 47, 196), (167, 48, 197), (167, 49, 198), (167, 50, 199), (167, 51, 200), (167, 52, 201), (167, 53, 202), (167, 54, 203), (167, 55, 204), (167, 56, 205), (167, 57, 206), (167, 58, 207), (167, 59, 208), (167, 67, 209), (167, 68, 210), (167, 69, 211), (167, 70, 212), (167, 71, 213), (167, 72, 214), (167, 74, 215)]
/-- a text and its cells -/
def isTx (w : LT) (t : Nat) : Prop := lt_t w t = 7 ∧ lt_p w t 0 = t + 1 ∧ lt_t w (t + 1) = 25 ∧ lt_l w (t + 1) = 24 ∧ lt_p w t 3 = t + 2 ∧ lt_t w (t + 2) = 20 ∧ lt_l w (t + 2) = 1200 ∧ ∀ i, i < 24 → lt_p w (t + 1) i = t + 3 + i ∧ lt_t w (t + 3 + i) = 5
/-- some texts -/
def isTs (w : LT) (a : Nat) : Prop := lt_t w a = 8 ∧ lt_p w a 0 = a + 1 ∧ lt_t w (a + 1) = 26 ∧ lt_l w (a + 1) = 6
/-- a book and its cells -/
def isBk (w : LT) (b ts : Nat) : Prop := lt_t w b = 1 ∧ lt_p w b 0 = 101 ∧ lt_p w b 1 = 104 ∧ lt_p w b 2 = ts ∧ lt_p w b 3 = 116 ∧ (lt_p w b 6 = b + 1 ∧ lt_t w (b + 1) = 20 ∧ lt_l w (b + 1) = 2880) ∧ (lt_p w b 7 = b + 2 ∧ lt_t w (b + 2) = 20 ∧ lt_l w (b + 2) = 2880) ∧ (lt_p w b 8 = b + 3 ∧ lt_t w (b + 3) = 20 ∧ lt_l w (b + 3) = 2880) ∧ (lt_p w b 9 = b + 4 ∧ lt_t w (b + 4) = 20 ∧ lt_l w (b + 4) = 2880) ∧ (lt_p w b 10 = b + 5 ∧ lt_t w (b + 5) = 20 ∧ lt_l w (b + 5) = 3360) ∧ isTs w ts
/-- the layout of the whole run -/
def Lay (w : LT) : Prop := (∀ q ∈ tabT, lt_t w q.1 = q.2.1 ∧ lt_l w q.1 = q.2.2) ∧ (∀ q ∈ tabP, lt_p w q.1 q.2.1 = q.2.2) ∧ (∀ t, lt_t w t = 7 → isTx w t) ∧ ∀ b, lt_t w b = 1 → isBk w b (lt_p w b 2)
theorem kt_100 {w : LT} (h : Lay w) : lt_t w 100 = 11 := (h.1 (100, 11, 0) (by decide)).1
theorem kt_101 {w : LT} (h : Lay w) : lt_t w 101 = 2 := (h.1 (101, 2, 0) (by decide)).1
theorem kt_102 {w : LT} (h : Lay w) : lt_t w 102 = 20 := (h.1 (102, 20, 12) (by decide)).1
theorem kl_102 {w : LT} (h : Lay w) : lt_l w 102 = 12 := (h.1 (102, 20, 12) (by decide)).2
theorem kt_103 {w : LT} (h : Lay w) : lt_t w 103 = 20 := (h.1 (103, 20, 12) (by decide)).1
theorem kl_103 {w : LT} (h : Lay w) : lt_l w 103 = 12 := (h.1 (103, 20, 12) (by decide)).2
theorem kt_104 {w : LT} (h : Lay w) : lt_t w 104 = 4 := (h.1 (104, 4, 0) (by decide)).1
theorem kt_105 {w : LT} (h : Lay w) : lt_t w 105 = 20 := (h.1 (105, 20, 400) (by decide)).1
theorem kl_105 {w : LT} (h : Lay w) : lt_l w 105 = 400 := (h.1 (105, 20, 400) (by decide)).2
theorem kt_106 {w : LT} (h : Lay w) : lt_t w 106 = 20 := (h.1 (106, 20, 400) (by decide)).1
theorem kl_106 {w : LT} (h : Lay w) : lt_l w 106 = 400 := (h.1 (106, 20, 400) (by decide)).2
theorem kt_107 {w : LT} (h : Lay w) : lt_t w 107 = 20 := (h.1 (107, 20, 400) (by decide)).1
theorem kl_107 {w : LT} (h : Lay w) : lt_l w 107 = 400 := (h.1 (107, 20, 400) (by decide)).2
theorem kt_108 {w : LT} (h : Lay w) : lt_t w 108 = 20 := (h.1 (108, 20, 400) (by decide)).1
theorem kl_108 {w : LT} (h : Lay w) : lt_l w 108 = 400 := (h.1 (108, 20, 400) (by decide)).2
theorem kt_109 {w : LT} (h : Lay w) : lt_t w 109 = 20 := (h.1 (109, 20, 400) (by decide)).1
theorem kl_109 {w : LT} (h : Lay w) : lt_l w 109 = 400 := (h.1 (109, 20, 400) (by decide)).2
theorem kt_110 {w : LT} (h : Lay w) : lt_t w 110 = 6 := (h.1 (110, 6, 0) (by decide)).1
theorem kt_111 {w : LT} (h : Lay w) : lt_t w 111 = 23 := (h.1 (111, 23, 1200) (by decide)).1
theorem kl_111 {w : LT} (h : Lay w) : lt_l w 111 = 1200 := (h.1 (111, 23, 1200) (by decide)).2
theorem kt_112 {w : LT} (h : Lay w) : lt_t w 112 = 3 := (h.1 (112, 3, 0) (by decide)).1
theorem kt_113 {w : LT} (h : Lay w) : lt_t w 113 = 24 := (h.1 (113, 24, 1201) (by decide)).1
theorem kl_113 {w : LT} (h : Lay w) : lt_l w 113 = 1201 := (h.1 (113, 24, 1201) (by decide)).2
theorem kt_114 {w : LT} (h : Lay w) : lt_t w 114 = 20 := (h.1 (114, 20, 1201) (by decide)).1
theorem kl_114 {w : LT} (h : Lay w) : lt_l w 114 = 1201 := (h.1 (114, 20, 1201) (by decide)).2
theorem kt_115 {w : LT} (h : Lay w) : lt_t w 115 = 20 := (h.1 (115, 20, 1201) (by decide)).1
theorem kl_115 {w : LT} (h : Lay w) : lt_l w 115 = 1201 := (h.1 (115, 20, 1201) (by decide)).2
theorem kt_116 {w : LT} (h : Lay w) : lt_t w 116 = 10 := (h.1 (116, 10, 0) (by decide)).1
theorem kt_117 {w : LT} (h : Lay w) : lt_t w 117 = 20 := (h.1 (117, 20, 12) (by decide)).1
theorem kl_117 {w : LT} (h : Lay w) : lt_l w 117 = 12 := (h.1 (117, 20, 12) (by decide)).2
theorem kt_118 {w : LT} (h : Lay w) : lt_t w 118 = 20 := (h.1 (118, 20, 12) (by decide)).1
theorem kl_118 {w : LT} (h : Lay w) : lt_l w 118 = 12 := (h.1 (118, 20, 12) (by decide)).2
theorem kt_119 {w : LT} (h : Lay w) : lt_t w 119 = 20 := (h.1 (119, 20, 12) (by decide)).1
theorem kl_119 {w : LT} (h : Lay w) : lt_l w 119 = 12 := (h.1 (119, 20, 12) (by decide)).2
theorem kt_120 {w : LT} (h : Lay w) : lt_t w 120 = 20 := (h.1 (120, 20, 12) (by decide)).1
theorem kl_120 {w : LT} (h : Lay w) : lt_l w 120 = 12 := (h.1 (120, 20, 12) (by decide)).2
theorem kt_121 {w : LT} (h : Lay w) : lt_t w 121 = 20 := (h.1 (121, 20, 12) (by decide)).1
theorem kl_121 {w : LT} (h : Lay w) : lt_l w 121 = 12 := (h.1 (121, 20, 12) (by decide)).2
theorem kt_122 {w : LT} (h : Lay w) : lt_t w 122 = 20 := (h.1 (122, 20, 12) (by decide)).1
theorem kl_122 {w : LT} (h : Lay w) : lt_l w 122 = 12 := (h.1 (122, 20, 12) (by decide)).2
theorem kt_123 {w : LT} (h : Lay w) : lt_t w 123 = 22 := (h.1 (123, 22, 12) (by decide)).1
theorem kl_123 {w : LT} (h : Lay w) : lt_l w 123 = 12 := (h.1 (123, 22, 12) (by decide)).2
theorem kt_124 {w : LT} (h : Lay w) : lt_t w 124 = 20 := (h.1 (124, 20, 12) (by decide)).1
theorem kl_124 {w : LT} (h : Lay w) : lt_l w 124 = 12 := (h.1 (124, 20, 12) (by decide)).2
theorem kt_125 {w : LT} (h : Lay w) : lt_t w 125 = 20 := (h.1 (125, 20, 14) (by decide)).1
theorem kl_125 {w : LT} (h : Lay w) : lt_l w 125 = 14 := (h.1 (125, 20, 14) (by decide)).2
theorem kt_126 {w : LT} (h : Lay w) : lt_t w 126 = 20 := (h.1 (126, 20, 12) (by decide)).1
theorem kl_126 {w : LT} (h : Lay w) : lt_l w 126 = 12 := (h.1 (126, 20, 12) (by decide)).2
theorem kt_127 {w : LT} (h : Lay w) : lt_t w 127 = 20 := (h.1 (127, 20, 14) (by decide)).1
theorem kl_127 {w : LT} (h : Lay w) : lt_l w 127 = 14 := (h.1 (127, 20, 14) (by decide)).2
theorem kt_128 {w : LT} (h : Lay w) : lt_t w 128 = 8 := (h.1 (128, 8, 0) (by decide)).1
theorem kt_129 {w : LT} (h : Lay w) : lt_t w 129 = 26 := (h.1 (129, 26, 6) (by decide)).1
theorem kl_129 {w : LT} (h : Lay w) : lt_l w 129 = 6 := (h.1 (129, 26, 6) (by decide)).2
theorem kt_130 {w : LT} (h : Lay w) : lt_t w 130 = 1 := (h.1 (130, 1, 0) (by decide)).1
theorem kt_131 {w : LT} (h : Lay w) : lt_t w 131 = 20 := (h.1 (131, 20, 2880) (by decide)).1
theorem kl_131 {w : LT} (h : Lay w) : lt_l w 131 = 2880 := (h.1 (131, 20, 2880) (by decide)).2
theorem kt_132 {w : LT} (h : Lay w) : lt_t w 132 = 20 := (h.1 (132, 20, 2880) (by decide)).1
theorem kl_132 {w : LT} (h : Lay w) : lt_l w 132 = 2880 := (h.1 (132, 20, 2880) (by decide)).2
theorem kt_133 {w : LT} (h : Lay w) : lt_t w 133 = 20 := (h.1 (133, 20, 2880) (by decide)).1
theorem kl_133 {w : LT} (h : Lay w) : lt_l w 133 = 2880 := (h.1 (133, 20, 2880) (by decide)).2
theorem kt_134 {w : LT} (h : Lay w) : lt_t w 134 = 20 := (h.1 (134, 20, 2880) (by decide)).1
theorem kl_134 {w : LT} (h : Lay w) : lt_l w 134 = 2880 := (h.1 (134, 20, 2880) (by decide)).2
theorem kt_135 {w : LT} (h : Lay w) : lt_t w 135 = 20 := (h.1 (135, 20, 3360) (by decide)).1
theorem kl_135 {w : LT} (h : Lay w) : lt_l w 135 = 3360 := (h.1 (135, 20, 3360) (by decide)).2
theorem kt_136 {w : LT} (h : Lay w) : lt_t w 136 = 0 := (h.1 (136, 0, 0) (by decide)).1
theorem kt_137 {w : LT} (h : Lay w) : lt_t w 137 = 20 := (h.1 (137, 20, 140) (by decide)).1
theorem kl_137 {w : LT} (h : Lay w) : lt_l w 137 = 140 := (h.1 (137, 20, 140) (by decide)).2
theorem kt_138 {w : LT} (h : Lay w) : lt_t w 138 = 8 := (h.1 (138, 8, 0) (by decide)).1
theorem kt_139 {w : LT} (h : Lay w) : lt_t w 139 = 26 := (h.1 (139, 26, 6) (by decide)).1
theorem kl_139 {w : LT} (h : Lay w) : lt_l w 139 = 6 := (h.1 (139, 26, 6) (by decide)).2
theorem kt_167 {w : LT} (h : Lay w) : lt_t w 167 = 12 := (h.1 (167, 12, 0) (by decide)).1
theorem kt_168 {w : LT} (h : Lay w) : lt_t w 168 = 20 := (h.1 (168, 20, 1200) (by decide)).1
theorem kl_168 {w : LT} (h : Lay w) : lt_l w 168 = 1200 := (h.1 (168, 20, 1200) (by decide)).2
theorem kt_169 {w : LT} (h : Lay w) : lt_t w 169 = 20 := (h.1 (169, 20, 1202) (by decide)).1
theorem kl_169 {w : LT} (h : Lay w) : lt_l w 169 = 1202 := (h.1 (169, 20, 1202) (by decide)).2
theorem kt_170 {w : LT} (h : Lay w) : lt_t w 170 = 20 := (h.1 (170, 20, 1202) (by decide)).1
theorem kl_170 {w : LT} (h : Lay w) : lt_l w 170 = 1202 := (h.1 (170, 20, 1202) (by decide)).2
theorem kt_171 {w : LT} (h : Lay w) : lt_t w 171 = 21 := (h.1 (171, 21, 1202) (by decide)).1
theorem kl_171 {w : LT} (h : Lay w) : lt_l w 171 = 1202 := (h.1 (171, 21, 1202) (by decide)).2
theorem kt_172 {w : LT} (h : Lay w) : lt_t w 172 = 21 := (h.1 (172, 21, 24) (by decide)).1
theorem kl_172 {w : LT} (h : Lay w) : lt_l w 172 = 24 := (h.1 (172, 21, 24) (by decide)).2
theorem kt_173 {w : LT} (h : Lay w) : lt_t w 173 = 20 := (h.1 (173, 20, 8) (by decide)).1
theorem kl_173 {w : LT} (h : Lay w) : lt_l w 173 = 8 := (h.1 (173, 20, 8) (by decide)).2
theorem kt_174 {w : LT} (h : Lay w) : lt_t w 174 = 20 := (h.1 (174, 20, 8) (by decide)).1
theorem kl_174 {w : LT} (h : Lay w) : lt_l w 174 = 8 := (h.1 (174, 20, 8) (by decide)).2
theorem kt_175 {w : LT} (h : Lay w) : lt_t w 175 = 20 := (h.1 (175, 20, 192) (by decide)).1
theorem kl_175 {w : LT} (h : Lay w) : lt_l w 175 = 192 := (h.1 (175, 20, 192) (by decide)).2
theorem kt_176 {w : LT} (h : Lay w) : lt_t w 176 = 20 := (h.1 (176, 20, 192) (by decide)).1
theorem kl_176 {w : LT} (h : Lay w) : lt_l w 176 = 192 := (h.1 (176, 20, 192) (by decide)).2
theorem kt_177 {w : LT} (h : Lay w) : lt_t w 177 = 20 := (h.1 (177, 20, 192) (by decide)).1
theorem kl_177 {w : LT} (h : Lay w) : lt_l w 177 = 192 := (h.1 (177, 20, 192) (by decide)).2
theorem kt_178 {w : LT} (h : Lay w) : lt_t w 178 = 20 := (h.1 (178, 20, 192) (by decide)).1
theorem kl_178 {w : LT} (h : Lay w) : lt_l w 178 = 192 := (h.1 (178, 20, 192) (by decide)).2
theorem kt_179 {w : LT} (h : Lay w) : lt_t w 179 = 20 := (h.1 (179, 20, 192) (by decide)).1
theorem kl_179 {w : LT} (h : Lay w) : lt_l w 179 = 192 := (h.1 (179, 20, 192) (by decide)).2
theorem kt_180 {w : LT} (h : Lay w) : lt_t w 180 = 20 := (h.1 (180, 20, 192) (by decide)).1
theorem kl_180 {w : LT} (h : Lay w) : lt_l w 180 = 192 := (h.1 (180, 20, 192) (by decide)).2
theorem kt_181 {w : LT} (h : Lay w) : lt_t w 181 = 20 := (h.1 (181, 20, 192) (by decide)).1
theorem kl_181 {w : LT} (h : Lay w) : lt_l w 181 = 192 := (h.1 (181, 20, 192) (by decide)).2
theorem kt_182 {w : LT} (h : Lay w) : lt_t w 182 = 20 := (h.1 (182, 20, 10400) (by decide)).1
theorem kl_182 {w : LT} (h : Lay w) : lt_l w 182 = 10400 := (h.1 (182, 20, 10400) (by decide)).2
theorem kt_183 {w : LT} (h : Lay w) : lt_t w 183 = 20 := (h.1 (183, 20, 10400) (by decide)).1
theorem kl_183 {w : LT} (h : Lay w) : lt_l w 183 = 10400 := (h.1 (183, 20, 10400) (by decide)).2
theorem kt_184 {w : LT} (h : Lay w) : lt_t w 184 = 20 := (h.1 (184, 20, 8) (by decide)).1
theorem kl_184 {w : LT} (h : Lay w) : lt_l w 184 = 8 := (h.1 (184, 20, 8) (by decide)).2
theorem kt_185 {w : LT} (h : Lay w) : lt_t w 185 = 20 := (h.1 (185, 20, 6) (by decide)).1
theorem kl_185 {w : LT} (h : Lay w) : lt_l w 185 = 6 := (h.1 (185, 20, 6) (by decide)).2
theorem kt_186 {w : LT} (h : Lay w) : lt_t w 186 = 20 := (h.1 (186, 20, 6) (by decide)).1
theorem kl_186 {w : LT} (h : Lay w) : lt_l w 186 = 6 := (h.1 (186, 20, 6) (by decide)).2
theorem kt_187 {w : LT} (h : Lay w) : lt_t w 187 = 20 := (h.1 (187, 20, 8) (by decide)).1
theorem kl_187 {w : LT} (h : Lay w) : lt_l w 187 = 8 := (h.1 (187, 20, 8) (by decide)).2
theorem kt_188 {w : LT} (h : Lay w) : lt_t w 188 = 20 := (h.1 (188, 20, 8) (by decide)).1
theorem kl_188 {w : LT} (h : Lay w) : lt_l w 188 = 8 := (h.1 (188, 20, 8) (by decide)).2
theorem kt_189 {w : LT} (h : Lay w) : lt_t w 189 = 20 := (h.1 (189, 20, 12) (by decide)).1
theorem kl_189 {w : LT} (h : Lay w) : lt_l w 189 = 12 := (h.1 (189, 20, 12) (by decide)).2
theorem kt_190 {w : LT} (h : Lay w) : lt_t w 190 = 20 := (h.1 (190, 20, 12) (by decide)).1
theorem kl_190 {w : LT} (h : Lay w) : lt_l w 190 = 12 := (h.1 (190, 20, 12) (by decide)).2
theorem kt_191 {w : LT} (h : Lay w) : lt_t w 191 = 20 := (h.1 (191, 20, 400) (by decide)).1
theorem kl_191 {w : LT} (h : Lay w) : lt_l w 191 = 400 := (h.1 (191, 20, 400) (by decide)).2
theorem kt_192 {w : LT} (h : Lay w) : lt_t w 192 = 20 := (h.1 (192, 20, 400) (by decide)).1
theorem kl_192 {w : LT} (h : Lay w) : lt_l w 192 = 400 := (h.1 (192, 20, 400) (by decide)).2
theorem kt_193 {w : LT} (h : Lay w) : lt_t w 193 = 20 := (h.1 (193, 20, 400) (by decide)).1
theorem kl_193 {w : LT} (h : Lay w) : lt_l w 193 = 400 := (h.1 (193, 20, 400) (by decide)).2
theorem kt_194 {w : LT} (h : Lay w) : lt_t w 194 = 20 := (h.1 (194, 20, 400) (by decide)).1
theorem kl_194 {w : LT} (h : Lay w) : lt_l w 194 = 400 := (h.1 (194, 20, 400) (by decide)).2
theorem kt_195 {w : LT} (h : Lay w) : lt_t w 195 = 20 := (h.1 (195, 20, 400) (by decide)).1
theorem kl_195 {w : LT} (h : Lay w) : lt_l w 195 = 400 := (h.1 (195, 20, 400) (by decide)).2
theorem kt_196 {w : LT} (h : Lay w) : lt_t w 196 = 20 := (h.1 (196, 20, 4) (by decide)).1
theorem kl_196 {w : LT} (h : Lay w) : lt_l w 196 = 4 := (h.1 (196, 20, 4) (by decide)).2
theorem kt_197 {w : LT} (h : Lay w) : lt_t w 197 = 20 := (h.1 (197, 20, 12) (by decide)).1
theorem kl_197 {w : LT} (h : Lay w) : lt_l w 197 = 12 := (h.1 (197, 20, 12) (by decide)).2
theorem kt_198 {w : LT} (h : Lay w) : lt_t w 198 = 20 := (h.1 (198, 20, 12) (by decide)).1
theorem kl_198 {w : LT} (h : Lay w) : lt_l w 198 = 12 := (h.1 (198, 20, 12) (by decide)).2
theorem kt_199 {w : LT} (h : Lay w) : lt_t w 199 = 20 := (h.1 (199, 20, 12) (by decide)).1
theorem kl_199 {w : LT} (h : Lay w) : lt_l w 199 = 12 := (h.1 (199, 20, 12) (by decide)).2
theorem kt_200 {w : LT} (h : Lay w) : lt_t w 200 = 20 := (h.1 (200, 20, 12) (by decide)).1
theorem kl_200 {w : LT} (h : Lay w) : lt_l w 200 = 12 := (h.1 (200, 20, 12) (by decide)).2
theorem kt_201 {w : LT} (h : Lay w) : lt_t w 201 = 20 := (h.1 (201, 20, 12) (by decide)).1
theorem kl_201 {w : LT} (h : Lay w) : lt_l w 201 = 12 := (h.1 (201, 20, 12) (by decide)).2
theorem kt_202 {w : LT} (h : Lay w) : lt_t w 202 = 20 := (h.1 (202, 20, 12) (by decide)).1
theorem kl_202 {w : LT} (h : Lay w) : lt_l w 202 = 12 := (h.1 (202, 20, 12) (by decide)).2
theorem kt_203 {w : LT} (h : Lay w) : lt_t w 203 = 20 := (h.1 (203, 20, 12) (by decide)).1
theorem kl_203 {w : LT} (h : Lay w) : lt_l w 203 = 12 := (h.1 (203, 20, 12) (by decide)).2
theorem kt_204 {w : LT} (h : Lay w) : lt_t w 204 = 20 := (h.1 (204, 20, 12) (by decide)).1
theorem kl_204 {w : LT} (h : Lay w) : lt_l w 204 = 12 := (h.1 (204, 20, 12) (by decide)).2
theorem kt_205 {w : LT} (h : Lay w) : lt_t w 205 = 20 := (h.1 (205, 20, 12) (by decide)).1
theorem kl_205 {w : LT} (h : Lay w) : lt_l w 205 = 12 := (h.1 (205, 20, 12) (by decide)).2
theorem kt_206 {w : LT} (h : Lay w) : lt_t w 206 = 20 := (h.1 (206, 20, 12) (by decide)).1
theorem kl_206 {w : LT} (h : Lay w) : lt_l w 206 = 12 := (h.1 (206, 20, 12) (by decide)).2
theorem kt_207 {w : LT} (h : Lay w) : lt_t w 207 = 20 := (h.1 (207, 20, 12) (by decide)).1
theorem kl_207 {w : LT} (h : Lay w) : lt_l w 207 = 12 := (h.1 (207, 20, 12) (by decide)).2
theorem kt_208 {w : LT} (h : Lay w) : lt_t w 208 = 20 := (h.1 (208, 20, 12) (by decide)).1
theorem kl_208 {w : LT} (h : Lay w) : lt_l w 208 = 12 := (h.1 (208, 20, 12) (by decide)).2
theorem kt_209 {w : LT} (h : Lay w) : lt_t w 209 = 20 := (h.1 (209, 20, 312) (by decide)).1
theorem kl_209 {w : LT} (h : Lay w) : lt_l w 209 = 312 := (h.1 (209, 20, 312) (by decide)).2
theorem kt_210 {w : LT} (h : Lay w) : lt_t w 210 = 20 := (h.1 (210, 20, 14) (by decide)).1
theorem kl_210 {w : LT} (h : Lay w) : lt_l w 210 = 14 := (h.1 (210, 20, 14) (by decide)).2
theorem kt_211 {w : LT} (h : Lay w) : lt_t w 211 = 20 := (h.1 (211, 20, 700) (by decide)).1
theorem kl_211 {w : LT} (h : Lay w) : lt_l w 211 = 700 := (h.1 (211, 20, 700) (by decide)).2
theorem kt_212 {w : LT} (h : Lay w) : lt_t w 212 = 22 := (h.1 (212, 22, 12) (by decide)).1
theorem kl_212 {w : LT} (h : Lay w) : lt_l w 212 = 12 := (h.1 (212, 22, 12) (by decide)).2
theorem kt_213 {w : LT} (h : Lay w) : lt_t w 213 = 20 := (h.1 (213, 20, 12) (by decide)).1
theorem kl_213 {w : LT} (h : Lay w) : lt_l w 213 = 12 := (h.1 (213, 20, 12) (by decide)).2
theorem kt_214 {w : LT} (h : Lay w) : lt_t w 214 = 20 := (h.1 (214, 20, 12) (by decide)).1
theorem kl_214 {w : LT} (h : Lay w) : lt_l w 214 = 12 := (h.1 (214, 20, 12) (by decide)).2
theorem kt_215 {w : LT} (h : Lay w) : lt_t w 215 = 20 := (h.1 (215, 20, 140) (by decide)).1
theorem kl_215 {w : LT} (h : Lay w) : lt_l w 215 = 140 := (h.1 (215, 20, 140) (by decide)).2
theorem kp_100_0 {w : LT} (h : Lay w) : lt_p w 100 0 = 101 := h.2.1 (100, 0, 101) (by decide)
theorem kp_100_1 {w : LT} (h : Lay w) : lt_p w 100 1 = 104 := h.2.1 (100, 1, 104) (by decide)
theorem kp_100_2 {w : LT} (h : Lay w) : lt_p w 100 2 = 110 := h.2.1 (100, 2, 110) (by decide)
theorem kp_100_3 {w : LT} (h : Lay w) : lt_p w 100 3 = 112 := h.2.1 (100, 3, 112) (by decide)
theorem kp_100_4 {w : LT} (h : Lay w) : lt_p w 100 4 = 116 := h.2.1 (100, 4, 116) (by decide)
theorem kp_100_5 {w : LT} (h : Lay w) : lt_p w 100 5 = 128 := h.2.1 (100, 5, 128) (by decide)
theorem kp_100_6 {w : LT} (h : Lay w) : lt_p w 100 6 = 130 := h.2.1 (100, 6, 130) (by decide)
theorem kp_100_7 {w : LT} (h : Lay w) : lt_p w 100 7 = 136 := h.2.1 (100, 7, 136) (by decide)
theorem kp_100_8 {w : LT} (h : Lay w) : lt_p w 100 8 = 138 := h.2.1 (100, 8, 138) (by decide)
theorem kp_101_0 {w : LT} (h : Lay w) : lt_p w 101 0 = 102 := h.2.1 (101, 0, 102) (by decide)
theorem kp_101_1 {w : LT} (h : Lay w) : lt_p w 101 1 = 103 := h.2.1 (101, 1, 103) (by decide)
theorem kp_104_0 {w : LT} (h : Lay w) : lt_p w 104 0 = 105 := h.2.1 (104, 0, 105) (by decide)
theorem kp_104_1 {w : LT} (h : Lay w) : lt_p w 104 1 = 106 := h.2.1 (104, 1, 106) (by decide)
theorem kp_104_2 {w : LT} (h : Lay w) : lt_p w 104 2 = 107 := h.2.1 (104, 2, 107) (by decide)
theorem kp_104_3 {w : LT} (h : Lay w) : lt_p w 104 3 = 108 := h.2.1 (104, 3, 108) (by decide)
theorem kp_104_4 {w : LT} (h : Lay w) : lt_p w 104 4 = 109 := h.2.1 (104, 4, 109) (by decide)
theorem kp_110_0 {w : LT} (h : Lay w) : lt_p w 110 0 = 111 := h.2.1 (110, 0, 111) (by decide)
theorem kp_112_0 {w : LT} (h : Lay w) : lt_p w 112 0 = 113 := h.2.1 (112, 0, 113) (by decide)
theorem kp_112_1 {w : LT} (h : Lay w) : lt_p w 112 1 = 114 := h.2.1 (112, 1, 114) (by decide)
theorem kp_112_2 {w : LT} (h : Lay w) : lt_p w 112 2 = 115 := h.2.1 (112, 2, 115) (by decide)
theorem kp_116_0 {w : LT} (h : Lay w) : lt_p w 116 0 = 101 := h.2.1 (116, 0, 101) (by decide)
theorem kp_116_6 {w : LT} (h : Lay w) : lt_p w 116 6 = 117 := h.2.1 (116, 6, 117) (by decide)
theorem kp_116_7 {w : LT} (h : Lay w) : lt_p w 116 7 = 118 := h.2.1 (116, 7, 118) (by decide)
theorem kp_116_8 {w : LT} (h : Lay w) : lt_p w 116 8 = 119 := h.2.1 (116, 8, 119) (by decide)
theorem kp_116_9 {w : LT} (h : Lay w) : lt_p w 116 9 = 120 := h.2.1 (116, 9, 120) (by decide)
theorem kp_116_10 {w : LT} (h : Lay w) : lt_p w 116 10 = 121 := h.2.1 (116, 10, 121) (by decide)
theorem kp_116_11 {w : LT} (h : Lay w) : lt_p w 116 11 = 122 := h.2.1 (116, 11, 122) (by decide)
theorem kp_116_13 {w : LT} (h : Lay w) : lt_p w 116 13 = 123 := h.2.1 (116, 13, 123) (by decide)
theorem kp_116_14 {w : LT} (h : Lay w) : lt_p w 116 14 = 124 := h.2.1 (116, 14, 124) (by decide)
theorem kp_116_15 {w : LT} (h : Lay w) : lt_p w 116 15 = 125 := h.2.1 (116, 15, 125) (by decide)
theorem kp_116_18 {w : LT} (h : Lay w) : lt_p w 116 18 = 126 := h.2.1 (116, 18, 126) (by decide)
theorem kp_116_19 {w : LT} (h : Lay w) : lt_p w 116 19 = 127 := h.2.1 (116, 19, 127) (by decide)
theorem kp_128_0 {w : LT} (h : Lay w) : lt_p w 128 0 = 129 := h.2.1 (128, 0, 129) (by decide)
theorem kp_130_0 {w : LT} (h : Lay w) : lt_p w 130 0 = 101 := h.2.1 (130, 0, 101) (by decide)
theorem kp_130_1 {w : LT} (h : Lay w) : lt_p w 130 1 = 104 := h.2.1 (130, 1, 104) (by decide)
theorem kp_130_2 {w : LT} (h : Lay w) : lt_p w 130 2 = 128 := h.2.1 (130, 2, 128) (by decide)
theorem kp_130_3 {w : LT} (h : Lay w) : lt_p w 130 3 = 116 := h.2.1 (130, 3, 116) (by decide)
theorem kp_130_6 {w : LT} (h : Lay w) : lt_p w 130 6 = 131 := h.2.1 (130, 6, 131) (by decide)
theorem kp_130_7 {w : LT} (h : Lay w) : lt_p w 130 7 = 132 := h.2.1 (130, 7, 132) (by decide)
theorem kp_130_8 {w : LT} (h : Lay w) : lt_p w 130 8 = 133 := h.2.1 (130, 8, 133) (by decide)
theorem kp_130_9 {w : LT} (h : Lay w) : lt_p w 130 9 = 134 := h.2.1 (130, 9, 134) (by decide)
theorem kp_130_10 {w : LT} (h : Lay w) : lt_p w 130 10 = 135 := h.2.1 (130, 10, 135) (by decide)
theorem kp_136_0 {w : LT} (h : Lay w) : lt_p w 136 0 = 137 := h.2.1 (136, 0, 137) (by decide)
theorem kp_138_0 {w : LT} (h : Lay w) : lt_p w 138 0 = 139 := h.2.1 (138, 0, 139) (by decide)
theorem kp_167_1 {w : LT} (h : Lay w) : lt_p w 167 1 = 168 := h.2.1 (167, 1, 168) (by decide)
theorem kp_167_4 {w : LT} (h : Lay w) : lt_p w 167 4 = 169 := h.2.1 (167, 4, 169) (by decide)
theorem kp_167_5 {w : LT} (h : Lay w) : lt_p w 167 5 = 170 := h.2.1 (167, 5, 170) (by decide)
theorem kp_167_6 {w : LT} (h : Lay w) : lt_p w 167 6 = 171 := h.2.1 (167, 6, 171) (by decide)
theorem kp_167_9 {w : LT} (h : Lay w) : lt_p w 167 9 = 172 := h.2.1 (167, 9, 172) (by decide)
theorem kp_167_10 {w : LT} (h : Lay w) : lt_p w 167 10 = 173 := h.2.1 (167, 10, 173) (by decide)
theorem kp_167_11 {w : LT} (h : Lay w) : lt_p w 167 11 = 174 := h.2.1 (167, 11, 174) (by decide)
theorem kp_167_12 {w : LT} (h : Lay w) : lt_p w 167 12 = 175 := h.2.1 (167, 12, 175) (by decide)
theorem kp_167_13 {w : LT} (h : Lay w) : lt_p w 167 13 = 176 := h.2.1 (167, 13, 176) (by decide)
theorem kp_167_14 {w : LT} (h : Lay w) : lt_p w 167 14 = 177 := h.2.1 (167, 14, 177) (by decide)
theorem kp_167_15 {w : LT} (h : Lay w) : lt_p w 167 15 = 178 := h.2.1 (167, 15, 178) (by decide)
theorem kp_167_16 {w : LT} (h : Lay w) : lt_p w 167 16 = 179 := h.2.1 (167, 16, 179) (by decide)
theorem kp_167_17 {w : LT} (h : Lay w) : lt_p w 167 17 = 180 := h.2.1 (167, 17, 180) (by decide)
theorem kp_167_18 {w : LT} (h : Lay w) : lt_p w 167 18 = 181 := h.2.1 (167, 18, 181) (by decide)
theorem kp_167_19 {w : LT} (h : Lay w) : lt_p w 167 19 = 182 := h.2.1 (167, 19, 182) (by decide)
theorem kp_167_20 {w : LT} (h : Lay w) : lt_p w 167 20 = 183 := h.2.1 (167, 20, 183) (by decide)
theorem kp_167_21 {w : LT} (h : Lay w) : lt_p w 167 21 = 184 := h.2.1 (167, 21, 184) (by decide)
theorem kp_167_23 {w : LT} (h : Lay w) : lt_p w 167 23 = 185 := h.2.1 (167, 23, 185) (by decide)
theorem kp_167_24 {w : LT} (h : Lay w) : lt_p w 167 24 = 186 := h.2.1 (167, 24, 186) (by decide)
theorem kp_167_27 {w : LT} (h : Lay w) : lt_p w 167 27 = 187 := h.2.1 (167, 27, 187) (by decide)
theorem kp_167_28 {w : LT} (h : Lay w) : lt_p w 167 28 = 188 := h.2.1 (167, 28, 188) (by decide)
theorem kp_167_32 {w : LT} (h : Lay w) : lt_p w 167 32 = 189 := h.2.1 (167, 32, 189) (by decide)
theorem kp_167_33 {w : LT} (h : Lay w) : lt_p w 167 33 = 190 := h.2.1 (167, 33, 190) (by decide)
theorem kp_167_35 {w : LT} (h : Lay w) : lt_p w 167 35 = 191 := h.2.1 (167, 35, 191) (by decide)
theorem kp_167_36 {w : LT} (h : Lay w) : lt_p w 167 36 = 192 := h.2.1 (167, 36, 192) (by decide)
theorem kp_167_37 {w : LT} (h : Lay w) : lt_p w 167 37 = 193 := h.2.1 (167, 37, 193) (by decide)
theorem kp_167_38 {w : LT} (h : Lay w) : lt_p w 167 38 = 194 := h.2.1 (167, 38, 194) (by decide)
theorem kp_167_39 {w : LT} (h : Lay w) : lt_p w 167 39 = 195 := h.2.1 (167, 39, 195) (by decide)
theorem kp_167_47 {w : LT} (h : Lay w) : lt_p w 167 47 = 196 := h.2.1 (167, 47, 196) (by decide)
theorem kp_167_48 {w : LT} (h : Lay w) : lt_p w 167 48 = 197 := h.2.1 (167, 48, 197) (by decide)
theorem kp_167_49 {w : LT} (h : Lay w) : lt_p w 167 49 = 198 := h.2.1 (167, 49, 198) (by decide)
theorem kp_167_50 {w : LT} (h : Lay w) : lt_p w 167 50 = 199 := h.2.1 (167, 50, 199) (by decide)
theorem kp_167_51 {w : LT} (h : Lay w) : lt_p w 167 51 = 200 := h.2.1 (167, 51, 200) (by decide)
theorem kp_167_52 {w : LT} (h : Lay w) : lt_p w 167 52 = 201 := h.2.1 (167, 52, 201) (by decide)
theorem kp_167_53 {w : LT} (h : Lay w) : lt_p w 167 53 = 202 := h.2.1 (167, 53, 202) (by decide)
theorem kp_167_54 {w : LT} (h : Lay w) : lt_p w 167 54 = 203 := h.2.1 (167, 54, 203) (by decide)
theorem kp_167_55 {w : LT} (h : Lay w) : lt_p w 167 55 = 204 := h.2.1 (167, 55, 204) (by decide)
theorem kp_167_56 {w : LT} (h : Lay w) : lt_p w 167 56 = 205 := h.2.1 (167, 56, 205) (by decide)
theorem kp_167_57 {w : LT} (h : Lay w) : lt_p w 167 57 = 206 := h.2.1 (167, 57, 206) (by decide)
theorem kp_167_58 {w : LT} (h : Lay w) : lt_p w 167 58 = 207 := h.2.1 (167, 58, 207) (by decide)
theorem kp_167_59 {w : LT} (h : Lay w) : lt_p w 167 59 = 208 := h.2.1 (167, 59, 208) (by decide)
theorem kp_167_67 {w : LT} (h : Lay w) : lt_p w 167 67 = 209 := h.2.1 (167, 67, 209) (by decide)
theorem kp_167_68 {w : LT} (h : Lay w) : lt_p w 167 68 = 210 := h.2.1 (167, 68, 210) (by decide)
theorem kp_167_69 {w : LT} (h : Lay w) : lt_p w 167 69 = 211 := h.2.1 (167, 69, 211) (by decide)
theorem kp_167_70 {w : LT} (h : Lay w) : lt_p w 167 70 = 212 := h.2.1 (167, 70, 212) (by decide)
theorem kp_167_71 {w : LT} (h : Lay w) : lt_p w 167 71 = 213 := h.2.1 (167, 71, 213) (by decide)
theorem kp_167_72 {w : LT} (h : Lay w) : lt_p w 167 72 = 214 := h.2.1 (167, 72, 214) (by decide)
theorem kp_167_74 {w : LT} (h : Lay w) : lt_p w 167 74 = 215 := h.2.1 (167, 74, 215) (by decide)
