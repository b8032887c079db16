/-! ===== the law's cases, printed by wip/gen/lawcases.py ===== -/
abbrev lvB (x : Int32) : List (Nat × Value) := [(1, .ref 100), (2, .ref 167), (3, .ref 216), (4, .int x)]
def obX (w : LT) : Nat := if lt_p w 100 9 = 0 then 0 else 14891
theorem obS (w : LT) : obX w ≤ 14891 := by unfold obX; split <;> omega
def LI (c : Nat) (w : LT) (u : MT) (kc ks : Nat) : Prop := ∃ A, Inv A c w u ∧ Lay w ∧ (lt_t w 216 = 21 ∧ lt_l w 216 = 1) ∧ kc ≤ 117 + 33 * c ∧ ks ≤ 54011 + 1471 * c + obX w
theorem gL_o {u : MT} {v : Int64} {j : Nat} : gL (sL u 216 0 v) 172 j = gL u 172 j := by
  show up2 u.2.1 216 0 v 172 j = _
  unfold up2
  rw [if_neg (by decide)]; rfl
theorem gL_s {u : MT} {v : Int64} : gL (sL u 216 0 v) 216 0 = v := by
  show up2 u.2.1 216 0 v 216 0 = v
  exact up2_eq _ _ _ _
section LAWCASES
variable {z : ZT} {g : GT} {b L c : Nat} {xs : Nat → Int32} {w : LT} {u : MT} {kc ks : Nat} {x : Int32}
set_option maxRecDepth 100000 in
theorem law_house (C : LwC z g b L xs) (hc : c ≤ 600) (hI : LI c w u kc ks) (hin : ∀ (kI : Int32) (kn : Nat), Nm kI kn → kn ≤ 6 → vp_in (x + kI) L) (k : ∀ w1 u1 kc1 ks1, LI (c + 1) w1 u1 kc1 ks1 → VL z g b 805 (lvB x) [] w1 u1 kc1 ks1) : VL z g b 132 (lvB x) [] w u kc ks := by
  obtain ⟨A, hInv, hLay, hO, hkc, hks⟩ := hI
  have hob := obS w
  obtain ⟨a, u1, u2, A', e1, e2, hI2⟩ := P_house (f := 5000) (x1 := (xs (x + 1).toNatClampNeg)) (x2 := (xs (x + 2).toNatClampNeg)) hLay hInv
  refine Laload_n C 0 (dAt D_L_law 37 rfl) rfl rfl ?_
  refine Lscr (k := 1) (j := 3) C (dAt D_L_law 38 rfl) (dAt D_L_law 39 rfl) (dAt D_L_law 40 rfl) (by decide) (dAt D_L_law 41 rfl) (dAt D_L_law 42 rfl) rfl (hin 1 1 rfl (by decide)) ?_
  refine Lscr (k := 2) (j := 3) C (dAt D_L_law 43 rfl) (dAt D_L_law 44 rfl) (dAt D_L_law 45 rfl) (by decide) (dAt D_L_law 46 rfl) (dAt D_L_law 47 rfl) rfl (hin 2 2 rfl (by decide)) ?_
  refine LcallV (as := [_, _]) C (dAt D_L_law 48 rfl) (m_X11_house hLay e1) yv_L_34 (Or.inl ⟨kt_100 hLay, by decide⟩) rfl rfl (Nat.le_of_ble_eq_true rfl) (by decide) (by decide) (by omega) (by omega) (LKint ?_)
  refine Laload_n C 1 (dAt D_L_law 49 rfl) rfl rfl ?_
  refine Lscr (k := 1) (j := 3) C (dAt D_L_law 50 rfl) (dAt D_L_law 51 rfl) (dAt D_L_law 52 rfl) (by decide) (dAt D_L_law 53 rfl) (dAt D_L_law 54 rfl) rfl (hin 1 1 rfl (by decide)) ?_
  refine Lscr (k := 2) (j := 3) C (dAt D_L_law 55 rfl) (dAt D_L_law 56 rfl) (dAt D_L_law 57 rfl) (by decide) (dAt D_L_law 58 rfl) (dAt D_L_law 59 rfl) rfl (hin 2 2 rfl (by decide)) ?_
  refine LcallV (as := [_, _]) C (dAt D_L_law 60 rfl) (m_X12_house hLay e2) yv_L_37 (Or.inl ⟨kt_167 hLay, by decide⟩) rfl rfl (Nat.le_of_ble_eq_true rfl) (by decide) (by decide) (by omega) (by omega) (LKint ?_)
  exact Licmp_eq (tgt := 805) C (dAt D_L_law 61 rfl) (by decide) (fun _ => k _ _ _ _ ⟨A', hI2, hLay, hO, by omega, by omega⟩) (fun h => absurd rfl h)
set_option maxRecDepth 100000 in
theorem law_read (C : LwC z g b L xs) (hc : c ≤ 600) (hI : LI c w u kc ks) (hin : ∀ (kI : Int32) (kn : Nat), Nm kI kn → kn ≤ 6 → vp_in (x + kI) L) (k : ∀ w1 u1 kc1 ks1, LI (c + 1) w1 u1 kc1 ks1 → VL z g b 805 (lvB x) [] w1 u1 kc1 ks1) : VL z g b 169 (lvB x) [] w u kc ks := by
  obtain ⟨A, hInv, hLay, hO, hkc, hks⟩ := hI
  have hob := obS w
  obtain ⟨a, u1, u2, A', e1, e2, hI2⟩ := P_read (f := 5000) (x1 := (xs (x + 1).toNatClampNeg)) (x2 := (xs (x + 2).toNatClampNeg)) (x3 := (xs (x + 3).toNatClampNeg)) (x4 := (xs (x + 4).toNatClampNeg)) hLay hInv
  refine Laload_n C 0 (dAt D_L_law 64 rfl) rfl rfl ?_
  refine Lscr (k := 1) (j := 3) C (dAt D_L_law 65 rfl) (dAt D_L_law 66 rfl) (dAt D_L_law 67 rfl) (by decide) (dAt D_L_law 68 rfl) (dAt D_L_law 69 rfl) rfl (hin 1 1 rfl (by decide)) ?_
  refine Lscr (k := 2) (j := 3) C (dAt D_L_law 70 rfl) (dAt D_L_law 71 rfl) (dAt D_L_law 72 rfl) (by decide) (dAt D_L_law 73 rfl) (dAt D_L_law 74 rfl) rfl (hin 2 2 rfl (by decide)) ?_
  refine Lscr (k := 3) (j := 3) C (dAt D_L_law 75 rfl) (dAt D_L_law 76 rfl) (dAt D_L_law 77 rfl) (by decide) (dAt D_L_law 78 rfl) (dAt D_L_law 79 rfl) rfl (hin 3 3 rfl (by decide)) ?_
  refine Lscr (k := 4) (j := 3) C (dAt D_L_law 80 rfl) (dAt D_L_law 81 rfl) (dAt D_L_law 82 rfl) (by decide) (dAt D_L_law 83 rfl) (dAt D_L_law 84 rfl) rfl (hin 4 4 rfl (by decide)) ?_
  refine LcallV (as := [_, _, _, _]) C (dAt D_L_law 85 rfl) (m_X11_read hLay e1) yv_L_38 (Or.inl ⟨kt_100 hLay, by decide⟩) rfl rfl (Nat.le_of_ble_eq_true rfl) (by decide) (by decide) (by omega) (by omega) (LKint ?_)
  refine Laload_n C 1 (dAt D_L_law 86 rfl) rfl rfl ?_
  refine Lscr (k := 1) (j := 3) C (dAt D_L_law 87 rfl) (dAt D_L_law 88 rfl) (dAt D_L_law 89 rfl) (by decide) (dAt D_L_law 90 rfl) (dAt D_L_law 91 rfl) rfl (hin 1 1 rfl (by decide)) ?_
  refine Lscr (k := 2) (j := 3) C (dAt D_L_law 92 rfl) (dAt D_L_law 93 rfl) (dAt D_L_law 94 rfl) (by decide) (dAt D_L_law 95 rfl) (dAt D_L_law 96 rfl) rfl (hin 2 2 rfl (by decide)) ?_
  refine Lscr (k := 3) (j := 3) C (dAt D_L_law 97 rfl) (dAt D_L_law 98 rfl) (dAt D_L_law 99 rfl) (by decide) (dAt D_L_law 100 rfl) (dAt D_L_law 101 rfl) rfl (hin 3 3 rfl (by decide)) ?_
  refine Lscr (k := 4) (j := 3) C (dAt D_L_law 102 rfl) (dAt D_L_law 103 rfl) (dAt D_L_law 104 rfl) (by decide) (dAt D_L_law 105 rfl) (dAt D_L_law 106 rfl) rfl (hin 4 4 rfl (by decide)) ?_
  refine LcallV (as := [_, _, _, _]) C (dAt D_L_law 107 rfl) (m_X12_read hLay e2) yv_L_42 (Or.inl ⟨kt_167 hLay, by decide⟩) rfl rfl (Nat.le_of_ble_eq_true rfl) (by decide) (by decide) (by omega) (by omega) (LKint ?_)
  exact Licmp_eq (tgt := 805) C (dAt D_L_law 108 rfl) (by decide) (fun _ => k _ _ _ _ ⟨A', hI2, hLay, hO, by omega, by omega⟩) (fun h => absurd rfl h)
set_option maxRecDepth 100000 in
theorem law_days (C : LwC z g b L xs) (hc : c ≤ 600) (hI : LI c w u kc ks) (hin : ∀ (kI : Int32) (kn : Nat), Nm kI kn → kn ≤ 6 → vp_in (x + kI) L) (k : ∀ w1 u1 kc1 ks1, LI (c + 1) w1 u1 kc1 ks1 → VL z g b 805 (lvB x) [] w1 u1 kc1 ks1) : VL z g b 230 (lvB x) [] w u kc ks := by
  obtain ⟨A, hInv, hLay, hO, hkc, hks⟩ := hI
  have hob := obS w
  obtain ⟨a, u1, u2, A', e1, e2, hI2⟩ := P_days (f := 5000) (x := (xs (x + 1).toNatClampNeg)) hInv (by omega)
  refine Laload_n C 0 (dAt D_L_law 111 rfl) rfl rfl ?_
  refine Lscr (k := 1) (j := 3) C (dAt D_L_law 112 rfl) (dAt D_L_law 113 rfl) (dAt D_L_law 114 rfl) (by decide) (dAt D_L_law 115 rfl) (dAt D_L_law 116 rfl) rfl (hin 1 1 rfl (by decide)) ?_
  refine LcallV (as := [_]) C (dAt D_L_law 117 rfl) (m_X11_days hLay e1) yv_L_43 (Or.inl ⟨kt_100 hLay, by decide⟩) rfl rfl (Nat.le_of_ble_eq_true rfl) (by decide) (by decide) (by omega) (by omega) (LKint ?_)
  refine Laload_n C 1 (dAt D_L_law 118 rfl) rfl rfl ?_
  refine Lscr (k := 1) (j := 3) C (dAt D_L_law 119 rfl) (dAt D_L_law 120 rfl) (dAt D_L_law 121 rfl) (by decide) (dAt D_L_law 122 rfl) (dAt D_L_law 123 rfl) rfl (hin 1 1 rfl (by decide)) ?_
  refine LcallV (as := [_]) C (dAt D_L_law 124 rfl) (m_X12_days hLay e2) yv_L_47 (Or.inl ⟨kt_167 hLay, by decide⟩) rfl rfl (Nat.le_of_ble_eq_true rfl) (by decide) (by decide) (by omega) (by omega) (LKint ?_)
  exact Licmp_eq (tgt := 805) C (dAt D_L_law 125 rfl) (by decide) (fun _ => k _ _ _ _ ⟨A', hI2, hLay, hO, by omega, by omega⟩) (fun h => absurd rfl h)
set_option maxRecDepth 100000 in
theorem law_feed (C : LwC z g b L xs) (hc : c ≤ 600) (hI : LI c w u kc ks) (hin : ∀ (kI : Int32) (kn : Nat), Nm kI kn → kn ≤ 6 → vp_in (x + kI) L) (k : ∀ w1 u1 kc1 ks1, LI (c + 1) w1 u1 kc1 ks1 → VL z g b 805 (lvB x) [] w1 u1 kc1 ks1) : VL z g b 255 (lvB x) [] w u kc ks := by
  obtain ⟨A, hInv, hLay, hO, hkc, hks⟩ := hI
  have hob := obS w
  obtain ⟨a, u1, u2, A', e1, e2, hI2⟩ := P_feed (f := 5000) (x1 := (((xs (x + 1).toNatClampNeg)).toInt64 <<< ((32 : Int32).toInt64 &&& 63) ||| (((xs (x + 2).toNatClampNeg)).toInt64 &&& 4294967295))) (x2 := (((xs (x + 3).toNatClampNeg)).toInt64 <<< ((32 : Int32).toInt64 &&& 63) ||| (((xs (x + 4).toNatClampNeg)).toInt64 &&& 4294967295))) (x3 := (((xs (x + 5).toNatClampNeg)).toInt64 <<< ((32 : Int32).toInt64 &&& 63) ||| (((xs (x + 6).toNatClampNeg)).toInt64 &&& 4294967295))) (by decide) hInv
  refine Laload_n C 0 (dAt D_L_law 128 rfl) rfl rfl ?_
  refine Lscr (k := 1) (j := 3) C (dAt D_L_law 129 rfl) (dAt D_L_law 130 rfl) (dAt D_L_law 131 rfl) (by decide) (dAt D_L_law 132 rfl) (dAt D_L_law 133 rfl) rfl (hin 1 1 rfl (by decide)) ?_
  refine Li2l C (dAt D_L_law 134 rfl) ?_
  refine Lbipush (x := 32) C (dAt D_L_law 135 rfl) (by decide) ?_
  refine Llshl C (dAt D_L_law 136 rfl) ?_
  refine Lscr (k := 2) (j := 3) C (dAt D_L_law 137 rfl) (dAt D_L_law 138 rfl) (dAt D_L_law 139 rfl) (by decide) (dAt D_L_law 140 rfl) (dAt D_L_law 141 rfl) rfl (hin 2 2 rfl (by decide)) ?_
  refine Li2l C (dAt D_L_law 142 rfl) ?_
  refine Lldc2 C gl_L_48 (dAt D_L_law 143 rfl) ?_
  refine Lland C (dAt D_L_law 144 rfl) ?_
  refine Llor C (dAt D_L_law 145 rfl) ?_
  refine Lscr (k := 3) (j := 3) C (dAt D_L_law 146 rfl) (dAt D_L_law 147 rfl) (dAt D_L_law 148 rfl) (by decide) (dAt D_L_law 149 rfl) (dAt D_L_law 150 rfl) rfl (hin 3 3 rfl (by decide)) ?_
  refine Li2l C (dAt D_L_law 151 rfl) ?_
  refine Lbipush (x := 32) C (dAt D_L_law 152 rfl) (by decide) ?_
  refine Llshl C (dAt D_L_law 153 rfl) ?_
  refine Lscr (k := 4) (j := 3) C (dAt D_L_law 154 rfl) (dAt D_L_law 155 rfl) (dAt D_L_law 156 rfl) (by decide) (dAt D_L_law 157 rfl) (dAt D_L_law 158 rfl) rfl (hin 4 4 rfl (by decide)) ?_
  refine Li2l C (dAt D_L_law 159 rfl) ?_
  refine Lldc2 C gl_L_48 (dAt D_L_law 160 rfl) ?_
  refine Lland C (dAt D_L_law 161 rfl) ?_
  refine Llor C (dAt D_L_law 162 rfl) ?_
  refine Lscr (k := 5) (j := 3) C (dAt D_L_law 163 rfl) (dAt D_L_law 164 rfl) (dAt D_L_law 165 rfl) (by decide) (dAt D_L_law 166 rfl) (dAt D_L_law 167 rfl) rfl (hin 5 5 rfl (by decide)) ?_
  refine Li2l C (dAt D_L_law 168 rfl) ?_
  refine Lbipush (x := 32) C (dAt D_L_law 169 rfl) (by decide) ?_
  refine Llshl C (dAt D_L_law 170 rfl) ?_
  refine LscrB (k := 6) (j := 3) C (dAt D_L_law 171 rfl) (dAt D_L_law 172 rfl) (dAt D_L_law 173 rfl) (by decide) (dAt D_L_law 174 rfl) (dAt D_L_law 175 rfl) rfl (hin 6 6 rfl (by decide)) ?_
  refine Li2l C (dAt D_L_law 176 rfl) ?_
  refine Lldc2 C gl_L_48 (dAt D_L_law 177 rfl) ?_
  refine Lland C (dAt D_L_law 178 rfl) ?_
  refine Llor C (dAt D_L_law 179 rfl) ?_
  refine LcallV (as := [_, _, _]) C (dAt D_L_law 180 rfl) (m_X11_feed hLay e1) yv_L_50 (Or.inl ⟨kt_100 hLay, by decide⟩) rfl rfl (Nat.le_of_ble_eq_true rfl) (by decide) (by decide) (by omega) (by omega) (LKint ?_)
  refine Laload_n C 1 (dAt D_L_law 181 rfl) rfl rfl ?_
  refine Lscr (k := 1) (j := 3) C (dAt D_L_law 182 rfl) (dAt D_L_law 183 rfl) (dAt D_L_law 184 rfl) (by decide) (dAt D_L_law 185 rfl) (dAt D_L_law 186 rfl) rfl (hin 1 1 rfl (by decide)) ?_
  refine Li2l C (dAt D_L_law 187 rfl) ?_
  refine Lbipush (x := 32) C (dAt D_L_law 188 rfl) (by decide) ?_
  refine Llshl C (dAt D_L_law 189 rfl) ?_
  refine Lscr (k := 2) (j := 3) C (dAt D_L_law 190 rfl) (dAt D_L_law 191 rfl) (dAt D_L_law 192 rfl) (by decide) (dAt D_L_law 193 rfl) (dAt D_L_law 194 rfl) rfl (hin 2 2 rfl (by decide)) ?_
  refine Li2l C (dAt D_L_law 195 rfl) ?_
  refine Lldc2 C gl_L_48 (dAt D_L_law 196 rfl) ?_
  refine Lland C (dAt D_L_law 197 rfl) ?_
  refine Llor C (dAt D_L_law 198 rfl) ?_
  refine Lscr (k := 3) (j := 3) C (dAt D_L_law 199 rfl) (dAt D_L_law 200 rfl) (dAt D_L_law 201 rfl) (by decide) (dAt D_L_law 202 rfl) (dAt D_L_law 203 rfl) rfl (hin 3 3 rfl (by decide)) ?_
  refine Li2l C (dAt D_L_law 204 rfl) ?_
  refine Lbipush (x := 32) C (dAt D_L_law 205 rfl) (by decide) ?_
  refine Llshl C (dAt D_L_law 206 rfl) ?_
  refine Lscr (k := 4) (j := 3) C (dAt D_L_law 207 rfl) (dAt D_L_law 208 rfl) (dAt D_L_law 209 rfl) (by decide) (dAt D_L_law 210 rfl) (dAt D_L_law 211 rfl) rfl (hin 4 4 rfl (by decide)) ?_
  refine Li2l C (dAt D_L_law 212 rfl) ?_
  refine Lldc2 C gl_L_48 (dAt D_L_law 213 rfl) ?_
  refine Lland C (dAt D_L_law 214 rfl) ?_
  refine Llor C (dAt D_L_law 215 rfl) ?_
  refine Lscr (k := 5) (j := 3) C (dAt D_L_law 216 rfl) (dAt D_L_law 217 rfl) (dAt D_L_law 218 rfl) (by decide) (dAt D_L_law 219 rfl) (dAt D_L_law 220 rfl) rfl (hin 5 5 rfl (by decide)) ?_
  refine Li2l C (dAt D_L_law 221 rfl) ?_
  refine Lbipush (x := 32) C (dAt D_L_law 222 rfl) (by decide) ?_
  refine Llshl C (dAt D_L_law 223 rfl) ?_
  refine LscrB (k := 6) (j := 3) C (dAt D_L_law 224 rfl) (dAt D_L_law 225 rfl) (dAt D_L_law 226 rfl) (by decide) (dAt D_L_law 227 rfl) (dAt D_L_law 228 rfl) rfl (hin 6 6 rfl (by decide)) ?_
  refine Li2l C (dAt D_L_law 229 rfl) ?_
  refine Lldc2 C gl_L_48 (dAt D_L_law 230 rfl) ?_
  refine Lland C (dAt D_L_law 231 rfl) ?_
  refine Llor C (dAt D_L_law 232 rfl) ?_
  refine LcallV (as := [_, _, _]) C (dAt D_L_law 233 rfl) (m_X12_feed hLay e2) yv_L_54 (Or.inl ⟨kt_167 hLay, by decide⟩) rfl rfl (Nat.le_of_ble_eq_true rfl) (by decide) (by decide) (by omega) (by omega) (LKint ?_)
  exact Licmp_eq (tgt := 805) C (dAt D_L_law 234 rfl) (by decide) (fun _ => k _ _ _ _ ⟨A', hI2, hLay, hO, by omega, by omega⟩) (fun h => absurd rfl h)
set_option maxRecDepth 100000 in
theorem law_known (C : LwC z g b L xs) (hc : c ≤ 600) (hI : LI c w u kc ks) (hin : ∀ (kI : Int32) (kn : Nat), Nm kI kn → kn ≤ 6 → vp_in (x + kI) L) (k : ∀ w1 u1 kc1 ks1, LI (c + 1) w1 u1 kc1 ks1 → VL z g b 805 (lvB x) [] w1 u1 kc1 ks1) : VL z g b 440 (lvB x) [] w u kc ks := by
  obtain ⟨A, hInv, hLay, hO, hkc, hks⟩ := hI
  have hob := obS w
  obtain ⟨a, u1, u2, A', e1, e2, hI2⟩ := P_known (f := 5000) (x := (xs (x + 1).toNatClampNeg)) hInv
  refine Laload_n C 0 (dAt D_L_law 261 rfl) rfl rfl ?_
  refine Lscr (k := 1) (j := 3) C (dAt D_L_law 262 rfl) (dAt D_L_law 263 rfl) (dAt D_L_law 264 rfl) (by decide) (dAt D_L_law 265 rfl) (dAt D_L_law 266 rfl) rfl (hin 1 1 rfl (by decide)) ?_
  refine LcallV (as := [_]) C (dAt D_L_law 267 rfl) (m_X11_known hLay e1) yv_L_64 (Or.inl ⟨kt_100 hLay, by decide⟩) rfl rfl (Nat.le_of_ble_eq_true rfl) (by decide) (by decide) (by omega) (by omega) (LKint ?_)
  refine Laload_n C 1 (dAt D_L_law 268 rfl) rfl rfl ?_
  refine Lscr (k := 1) (j := 3) C (dAt D_L_law 269 rfl) (dAt D_L_law 270 rfl) (dAt D_L_law 271 rfl) (by decide) (dAt D_L_law 272 rfl) (dAt D_L_law 273 rfl) rfl (hin 1 1 rfl (by decide)) ?_
  refine LcallV (as := [_]) C (dAt D_L_law 274 rfl) (m_X12_known hLay e2) yv_L_68 (Or.inl ⟨kt_167 hLay, by decide⟩) rfl rfl (Nat.le_of_ble_eq_true rfl) (by decide) (by decide) (by omega) (by omega) (LKint ?_)
  exact Licmp_eq (tgt := 805) C (dAt D_L_law 275 rfl) (by decide) (fun _ => k _ _ _ _ ⟨A', hI2, hLay, hO, by omega, by omega⟩) (fun h => absurd rfl h)
set_option maxRecDepth 100000 in
theorem law_by (C : LwC z g b L xs) (hc : c ≤ 600) (hI : LI c w u kc ks) (hin : ∀ (kI : Int32) (kn : Nat), Nm kI kn → kn ≤ 6 → vp_in (x + kI) L) (k : ∀ w1 u1 kc1 ks1, LI (c + 1) w1 u1 kc1 ks1 → VL z g b 805 (lvB x) [] w1 u1 kc1 ks1) : VL z g b 613 (lvB x) [] w u kc ks := by
  obtain ⟨A, hInv, hLay, hO, hkc, hks⟩ := hI
  have hob := obS w
  obtain ⟨a, u1, u2, A', e1, e2, hI2⟩ := P_by (f := 5000) (x1 := (xs (x + 1).toNatClampNeg)) (x2 := (xs (x + 2).toNatClampNeg)) (x3 := (xs (x + 3).toNatClampNeg)) (by decide) hLay hInv
  refine Laload_n C 0 (dAt D_L_law 378 rfl) rfl rfl ?_
  refine Lscr (k := 1) (j := 3) C (dAt D_L_law 379 rfl) (dAt D_L_law 380 rfl) (dAt D_L_law 381 rfl) (by decide) (dAt D_L_law 382 rfl) (dAt D_L_law 383 rfl) rfl (hin 1 1 rfl (by decide)) ?_
  refine Lscr (k := 2) (j := 3) C (dAt D_L_law 384 rfl) (dAt D_L_law 385 rfl) (dAt D_L_law 386 rfl) (by decide) (dAt D_L_law 387 rfl) (dAt D_L_law 388 rfl) rfl (hin 2 2 rfl (by decide)) ?_
  refine Lscr (k := 3) (j := 3) C (dAt D_L_law 389 rfl) (dAt D_L_law 390 rfl) (dAt D_L_law 391 rfl) (by decide) (dAt D_L_law 392 rfl) (dAt D_L_law 393 rfl) rfl (hin 3 3 rfl (by decide)) ?_
  refine LcallV (as := [_, _, _]) C (dAt D_L_law 394 rfl) (m_X11_by hLay e1) yv_L_80 (Or.inl ⟨kt_100 hLay, by decide⟩) rfl rfl (Nat.le_of_ble_eq_true rfl) (by decide) (by decide) (by omega) (by omega) (LKint ?_)
  refine Laload_n C 1 (dAt D_L_law 395 rfl) rfl rfl ?_
  refine Lscr (k := 1) (j := 3) C (dAt D_L_law 396 rfl) (dAt D_L_law 397 rfl) (dAt D_L_law 398 rfl) (by decide) (dAt D_L_law 399 rfl) (dAt D_L_law 400 rfl) rfl (hin 1 1 rfl (by decide)) ?_
  refine Lscr (k := 2) (j := 3) C (dAt D_L_law 401 rfl) (dAt D_L_law 402 rfl) (dAt D_L_law 403 rfl) (by decide) (dAt D_L_law 404 rfl) (dAt D_L_law 405 rfl) rfl (hin 2 2 rfl (by decide)) ?_
  refine Lscr (k := 3) (j := 3) C (dAt D_L_law 406 rfl) (dAt D_L_law 407 rfl) (dAt D_L_law 408 rfl) (by decide) (dAt D_L_law 409 rfl) (dAt D_L_law 410 rfl) rfl (hin 3 3 rfl (by decide)) ?_
  refine LcallV (as := [_, _, _]) C (dAt D_L_law 411 rfl) (m_X12_by hLay e2) yv_L_83 (Or.inl ⟨kt_167 hLay, by decide⟩) rfl rfl (Nat.le_of_ble_eq_true rfl) (by decide) (by decide) (by omega) (by omega) (LKint ?_)
  exact Licmp_eq (tgt := 805) C (dAt D_L_law 412 rfl) (by decide) (fun _ => k _ _ _ _ ⟨A', hI2, hLay, hO, by omega, by omega⟩) (fun h => absurd rfl h)
set_option maxRecDepth 100000 in
theorem law_would (C : LwC z g b L xs) (hc : c ≤ 600) (hI : LI c w u kc ks) (hin : ∀ (kI : Int32) (kn : Nat), Nm kI kn → kn ≤ 6 → vp_in (x + kI) L) (k : ∀ w1 u1 kc1 ks1, LI (c + 1) w1 u1 kc1 ks1 → VL z g b 805 (lvB x) [] w1 u1 kc1 ks1) : VL z g b 662 (lvB x) [] w u kc ks := by
  obtain ⟨A, hInv, hLay, hO, hkc, hks⟩ := hI
  have hob := obS w
  obtain ⟨a, u1, u2, A', e1, e2, hI2⟩ := P_would (f := 5000) (x1 := (xs (x + 1).toNatClampNeg)) (x2 := (xs (x + 2).toNatClampNeg)) (by decide) hLay hInv
  refine Laload_n C 0 (dAt D_L_law 415 rfl) rfl rfl ?_
  refine Lscr (k := 1) (j := 3) C (dAt D_L_law 416 rfl) (dAt D_L_law 417 rfl) (dAt D_L_law 418 rfl) (by decide) (dAt D_L_law 419 rfl) (dAt D_L_law 420 rfl) rfl (hin 1 1 rfl (by decide)) ?_
  refine Lscr (k := 2) (j := 3) C (dAt D_L_law 421 rfl) (dAt D_L_law 422 rfl) (dAt D_L_law 423 rfl) (by decide) (dAt D_L_law 424 rfl) (dAt D_L_law 425 rfl) rfl (hin 2 2 rfl (by decide)) ?_
  refine LcallV (as := [_, _]) C (dAt D_L_law 426 rfl) (m_X11_would hLay e1) yv_L_84 (Or.inl ⟨kt_100 hLay, by decide⟩) rfl rfl (Nat.le_of_ble_eq_true rfl) (by decide) (by decide) (by omega) (by omega) (LKint ?_)
  refine Laload_n C 1 (dAt D_L_law 427 rfl) rfl rfl ?_
  refine Lscr (k := 1) (j := 3) C (dAt D_L_law 428 rfl) (dAt D_L_law 429 rfl) (dAt D_L_law 430 rfl) (by decide) (dAt D_L_law 431 rfl) (dAt D_L_law 432 rfl) rfl (hin 1 1 rfl (by decide)) ?_
  refine Lscr (k := 2) (j := 3) C (dAt D_L_law 433 rfl) (dAt D_L_law 434 rfl) (dAt D_L_law 435 rfl) (by decide) (dAt D_L_law 436 rfl) (dAt D_L_law 437 rfl) rfl (hin 2 2 rfl (by decide)) ?_
  refine LcallV (as := [_, _]) C (dAt D_L_law 438 rfl) (m_X12_would hLay e2) yv_L_87 (Or.inl ⟨kt_167 hLay, by decide⟩) rfl rfl (Nat.le_of_ble_eq_true rfl) (by decide) (by decide) (by omega) (by omega) (LKint ?_)
  exact Licmp_eq (tgt := 805) C (dAt D_L_law 439 rfl) (by decide) (fun _ => k _ _ _ _ ⟨A', hI2, hLay, hO, by omega, by omega⟩) (fun h => absurd rfl h)
set_option maxRecDepth 100000 in
theorem law_bills (C : LwC z g b L xs) (hc : c ≤ 600) (hI : LI c w u kc ks) (hin : ∀ (kI : Int32) (kn : Nat), Nm kI kn → kn ≤ 6 → vp_in (x + kI) L) (k : ∀ w1 u1 kc1 ks1, LI (c + 1) w1 u1 kc1 ks1 → VL z g b 805 (lvB x) [] w1 u1 kc1 ks1) : VL z g b 699 (lvB x) [] w u kc ks := by
  obtain ⟨A, hInv, hLay, hO, hkc, hks⟩ := hI
  have hob := obS w
  obtain ⟨a, u1, u2, A', e1, e2, hI2⟩ := P_bills (f := 5000)  (by decide) hLay hInv
  refine Laload_n C 0 (dAt D_L_law 442 rfl) rfl rfl ?_
  refine LcallV (as := []) C (dAt D_L_law 443 rfl) (m_X11_bills hLay e1) yv_L_88 (Or.inl ⟨kt_100 hLay, by decide⟩) rfl rfl (Nat.le_of_ble_eq_true rfl) (by decide) (by decide) (by omega) (by omega) (LKint ?_)
  refine Laload_n C 1 (dAt D_L_law 444 rfl) rfl rfl ?_
  refine LcallV (as := []) C (dAt D_L_law 445 rfl) (m_X12_bills hLay e2) yv_L_91 (Or.inl ⟨kt_167 hLay, by decide⟩) rfl rfl (Nat.le_of_ble_eq_true rfl) (by decide) (by decide) (by omega) (by omega) (LKint ?_)
  exact Licmp_eq (tgt := 805) C (dAt D_L_law 446 rfl) (by decide) (fun _ => k _ _ _ _ ⟨A', hI2, hLay, hO, by omega, by omega⟩) (fun h => absurd rfl h)
set_option maxRecDepth 100000 in
theorem law_count (C : LwC z g b L xs) (hc : c ≤ 600) (hI : LI c w u kc ks) (hin : ∀ (kI : Int32) (kn : Nat), Nm kI kn → kn ≤ 6 → vp_in (x + kI) L) (k : ∀ w1 u1 kc1 ks1, LI (c + 1) w1 u1 kc1 ks1 → VL z g b 805 (lvB x) [] w1 u1 kc1 ks1) : VL z g b 780 (lvB x) [] w u kc ks := by
  obtain ⟨A, hInv, hLay, hO, hkc, hks⟩ := hI
  have hob := obS w
  obtain ⟨a, u1, u2, A', e1, e2, hI2⟩ := P_count (f := 5000) (x := (xs (x + 1).toNatClampNeg)) hInv
  refine Laload_n C 0 (dAt D_L_law 494 rfl) rfl rfl ?_
  refine Lscr (k := 1) (j := 3) C (dAt D_L_law 495 rfl) (dAt D_L_law 496 rfl) (dAt D_L_law 497 rfl) (by decide) (dAt D_L_law 498 rfl) (dAt D_L_law 499 rfl) rfl (hin 1 1 rfl (by decide)) ?_
  refine LcallV (as := [_]) C (dAt D_L_law 500 rfl) (m_X11_count hLay e1) yv_L_95 (Or.inl ⟨kt_100 hLay, by decide⟩) rfl rfl (Nat.le_of_ble_eq_true rfl) (by decide) (by decide) (by omega) (by omega) (LKint ?_)
  refine Laload_n C 1 (dAt D_L_law 501 rfl) rfl rfl ?_
  refine Lscr (k := 1) (j := 3) C (dAt D_L_law 502 rfl) (dAt D_L_law 503 rfl) (dAt D_L_law 504 rfl) (by decide) (dAt D_L_law 505 rfl) (dAt D_L_law 506 rfl) rfl (hin 1 1 rfl (by decide)) ?_
  refine LcallV (as := [_]) C (dAt D_L_law 507 rfl) (m_X12_count hLay e2) yv_L_98 (Or.inl ⟨kt_167 hLay, by decide⟩) rfl rfl (Nat.le_of_ble_eq_true rfl) (by decide) (by decide) (by omega) (by omega) (LKint ?_)
  exact Licmp_eq (tgt := 805) C (dAt D_L_law 508 rfl) (by decide) (fun _ => k _ _ _ _ ⟨A', hI2, hLay, hO, by omega, by omega⟩) (fun h => absurd rfl h)
set_option maxRecDepth 100000 in
theorem law_text (C : LwC z g b L xs) (hc : c ≤ 600) (hI : LI c w u kc ks) (hin : ∀ (kI : Int32) (kn : Nat), Nm kI kn → kn ≤ 6 → vp_in (x + kI) L) (k : ∀ w1 u1 kc1 ks1, LI (c + 1) w1 u1 kc1 ks1 → VL z g b 805 (lvB x) [] w1 u1 kc1 ks1) : VL z g b 402 (lvB x) [] w u kc ks := by
  obtain ⟨A, hInv, hLay, hO, hkc, hks⟩ := hI
  have hob := obS w
  refine Lfresh (fun hFre => ?_)
  obtain ⟨a, w1, u1, u2, A', e1, e2, hI2, hLay2, hob2, hold⟩ := P_text (f := 5000) (x := (xs (x + 1).toNatClampNeg)) (by decide) hLay hFre hInv
  have hw := hInv.2.1.1
  have hO2 : lt_t w1 216 = 21 ∧ lt_l w1 216 = 1 := by rw [(hold 216 hw).1, (hold 216 hw).2]; exact hO
  have hobx : obX w1 = obX w := by unfold obX; rw [hob2]
  refine Laload_n C 0 (dAt D_L_law 237 rfl) rfl rfl ?_
  refine Lscr (k := 1) (j := 3) C (dAt D_L_law 238 rfl) (dAt D_L_law 239 rfl) (dAt D_L_law 240 rfl) (by decide) (dAt D_L_law 241 rfl) (dAt D_L_law 242 rfl) rfl (hin 1 1 rfl (by decide)) ?_
  refine LcallV (as := [_]) C (dAt D_L_law 243 rfl) (m_X11_text hLay e1) yv_L_55 (Or.inl ⟨kt_100 hLay, by decide⟩) rfl rfl (Nat.le_of_ble_eq_true rfl) (by decide) (by decide) (by omega) (by omega) (LKint ?_)
  refine Laload_n C 1 (dAt D_L_law 244 rfl) rfl rfl ?_
  refine Lscr (k := 1) (j := 3) C (dAt D_L_law 245 rfl) (dAt D_L_law 246 rfl) (dAt D_L_law 247 rfl) (by decide) (dAt D_L_law 248 rfl) (dAt D_L_law 249 rfl) rfl (hin 1 1 rfl (by decide)) ?_
  refine LcallV (as := [_]) C (dAt D_L_law 250 rfl) (m_X12_text hLay2 e2) yv_L_58 (Or.inl ⟨kt_167 hLay2, by decide⟩) rfl rfl (Nat.le_of_ble_eq_true rfl) (by decide) (by decide) (by omega) (by omega) (LKint ?_)
  exact Licmp_eq (tgt := 805) C (dAt D_L_law 251 rfl) (by decide) (fun _ => k _ _ _ _ ⟨A', hI2, hLay2, hO2, by omega, by omega⟩) (fun h => absurd rfl h)
set_option maxRecDepth 100000 in
theorem law_other (C : LwC z g b L xs) (hc : c ≤ 600) (hI : LI c w u kc ks) (hin : ∀ (kI : Int32) (kn : Nat), Nm kI kn → kn ≤ 6 → vp_in (x + kI) L) (k : ∀ w1 u1 kc1 ks1, LI (c + 1) w1 u1 kc1 ks1 → VL z g b 805 (lvB x) [] w1 u1 kc1 ks1) : VL z g b 427 (lvB x) [] w u kc ks := by
  obtain ⟨A, hInv, hLay, hO, hkc, hks⟩ := hI
  have hob := obS w
  refine Lfresh (fun hFre => ?_)
  obtain ⟨a, w1, u1, u2, A', e1, e2, hI2, hLay2, hold, hob2⟩ := P_other (f := 5000) (by decide) hLay hFre hInv
  have hw := hInv.2.1.1
  have hO2 : lt_t w1 216 = 21 ∧ lt_l w1 216 = 1 := by rw [(hold 216 hw).1, (hold 216 hw).2]; exact hO
  have hcs := obS w1
  refine Laload_n C 0 (dAt D_L_law 254 rfl) rfl rfl ?_
  rcases hob2 with ⟨ha, hb2⟩ | ⟨ha, hb2⟩
  · have hc6 : obc w 6 ≤ 6 := by unfold obc; split <;> omega
    have hc7 : obc w 14891 + obX w = 14891 := by unfold obc obX; split <;> omega
    have hc8 : obX w1 = 14891 := by unfold obX; rw [if_neg hb2]
    refine LcallV (as := []) C (dAt D_L_law 255 rfl) (m_X11_other hLay (Nat.le_refl _) (Nat.le_refl _) e1) yv_L_59 (Or.inl ⟨kt_100 hLay, by decide⟩) rfl rfl (Nat.le_of_ble_eq_true rfl) (by decide) (by decide) (by omega) (by omega) (LKint ?_)
    refine Laload_n C 1 (dAt D_L_law 256 rfl) rfl rfl ?_
    refine LcallV (as := []) C (dAt D_L_law 257 rfl) (m_X12_other hLay2 e2) yv_L_63 (Or.inl ⟨kt_167 hLay2, by decide⟩) rfl rfl (Nat.le_of_ble_eq_true rfl) (by decide) (by decide) (by omega) (by omega) (LKint ?_)
    exact Licmp_eq (tgt := 805) C (dAt D_L_law 258 rfl) (by decide) (fun _ => k _ _ _ _ ⟨A', hI2, hLay2, hO2, by omega, by omega⟩) (fun h => absurd rfl h)
  · have hc8 : obX w1 = obX w := by unfold obX; rw [hb2]
    refine LcallV (as := []) C (dAt D_L_law 255 rfl) (m_X11_other0 hLay e1 ha) yv_L_59 (Or.inl ⟨kt_100 hLay, by decide⟩) rfl rfl (Nat.le_of_ble_eq_true rfl) (by decide) (by decide) (by omega) (by omega) (LKint ?_)
    refine Laload_n C 1 (dAt D_L_law 256 rfl) rfl rfl ?_
    refine LcallV (as := []) C (dAt D_L_law 257 rfl) (m_X12_other hLay2 e2) yv_L_63 (Or.inl ⟨kt_167 hLay2, by decide⟩) rfl rfl (Nat.le_of_ble_eq_true rfl) (by decide) (by decide) (by omega) (by omega) (LKint ?_)
    exact Licmp_eq (tgt := 805) C (dAt D_L_law 258 rfl) (by decide) (fun _ => k _ _ _ _ ⟨A', hI2, hLay2, hO2, by omega, by omega⟩) (fun h => absurd rfl h)
set_option maxRecDepth 100000 in
theorem law_had (C : LwC z g b L xs) (hc : c ≤ 600) (hI : LI c w u kc ks) (hin : ∀ (kI : Int32) (kn : Nat), Nm kI kn → kn ≤ 6 → vp_in (x + kI) L) (k : ∀ w1 u1 kc1 ks1, LI (c + 1) w1 u1 kc1 ks1 → VL z g b 805 (lvB x) [] w1 u1 kc1 ks1) : VL z g b 465 (lvB x) [] w u kc ks := by
  obtain ⟨A, hInv, hLay, hO, hkc, hks⟩ := hI
  have hob := obS w
  refine Laload_n C 0 (dAt D_L_law 278 rfl) rfl rfl ?_
  refine Lscr (k := 1) (j := 3) C (dAt D_L_law 279 rfl) (dAt D_L_law 280 rfl) (dAt D_L_law 281 rfl) (by decide) (dAt D_L_law 282 rfl) (dAt D_L_law 283 rfl) rfl (hin 1 1 rfl (by decide)) ?_
  refine Lscr (k := 2) (j := 3) C (dAt D_L_law 284 rfl) (dAt D_L_law 285 rfl) (dAt D_L_law 286 rfl) (by decide) (dAt D_L_law 287 rfl) (dAt D_L_law 288 rfl) rfl (hin 2 2 rfl (by decide)) ?_
  refine Lscr (k := 3) (j := 3) C (dAt D_L_law 289 rfl) (dAt D_L_law 290 rfl) (dAt D_L_law 291 rfl) (by decide) (dAt D_L_law 292 rfl) (dAt D_L_law 293 rfl) rfl (hin 3 3 rfl (by decide)) ?_
  refine Laload_n C 2 (dAt D_L_law 294 rfl) rfl rfl ?_
  by_cases hg : gHad A (xs (x + 1).toNatClampNeg) (xs (x + 2).toNatClampNeg) (xs (x + 3).toNatClampNeg)
  · obtain ⟨a, u1, e1, _, hv⟩ := P_had2 (f := 5000) (x1 := (xs (x + 1).toNatClampNeg)) (x2 := (xs (x + 2).toNatClampNeg)) (x3 := (xs (x + 3).toNatClampNeg)) (by decide) hLay hInv hg
    obtain ⟨u2, f1, f2, f3, hI2⟩ := hv (sL u1 216 0 a.toInt64) (fun _ _ => rfl) (fun _ _ => rfl) (fun j => gL_o)
    have hl0 : gL u2 216 (0 : Int32).toNatClampNeg = a.toInt64 := by rw [nm0.nat, f3]; exact gL_s
    refine LcallW (n := 5) (as := [_, _, _, _, _]) C (dAt D_L_law 295 rfl) (lw_hadN hLay hO.1 hO.2 e1) (WT_c4 220 rfl rfl) (WT_c4 221 rfl rfl) (WT_c1 0 rfl rfl) (WT_c4 222 rfl rfl) ⟨by decide +kernel, by decide +kernel, by decide +kernel⟩ rfl rfl (Nat.le_of_ble_eq_true rfl) (by decide) (by decide) (by omega) (by omega) (LKint ?_)
    refine Listore (lv' := [(5, _), (1, _), (2, _), (3, _), (4, _)]) C (dAt D_L_law 296 rfl) (by decide) (by decide) rfl ?_
    refine Laload_n C 2 (dAt D_L_law 297 rfl) rfl rfl ?_
    refine Lscr (k := 1) (j := 4) C (dAt D_L_law 298 rfl) (dAt D_L_law 299 rfl) (dAt D_L_law 300 rfl) (by decide) (dAt D_L_law 301 rfl) (dAt D_L_law 302 rfl) rfl (hin 1 1 rfl (by decide)) ?_
    refine Lscr (k := 2) (j := 4) C (dAt D_L_law 303 rfl) (dAt D_L_law 304 rfl) (dAt D_L_law 305 rfl) (by decide) (dAt D_L_law 306 rfl) (dAt D_L_law 307 rfl) rfl (hin 2 2 rfl (by decide)) ?_
    refine Lscr (k := 3) (j := 4) C (dAt D_L_law 308 rfl) (dAt D_L_law 309 rfl) (dAt D_L_law 310 rfl) (by decide) (dAt D_L_law 311 rfl) (dAt D_L_law 312 rfl) rfl (hin 3 3 rfl (by decide)) ?_
    refine LcallV (as := [_, _, _]) C (dAt D_L_law 313 rfl) (m_X12_had hLay f1) yv_L_72 (Or.inl ⟨kt_167 hLay, by decide⟩) rfl rfl (Nat.le_of_ble_eq_true rfl) (by decide) (by decide) (by omega) (by omega) (LKint ?_)
    refine Listore (lv' := [(6, _), (5, _), (1, _), (2, _), (3, _), (4, _)]) C (dAt D_L_law 314 rfl) (by decide) (by decide) rfl ?_
    refine Laload_n C 3 (dAt D_L_law 315 rfl) rfl rfl ?_
    refine LcallV (as := []) C (dAt D_L_law 316 rfl) (m_X12_thrown (f := 5000) hLay rfl) yv_L_73 (Or.inl ⟨kt_167 hLay, by decide⟩) rfl rfl (Nat.le_of_ble_eq_true rfl) (by decide) (by decide) (by omega) (by omega) (LKint ?_)
    refine Liload C 1 (dAt D_L_law 317 rfl) rfl ?_
    refine Licmp_eq (tgt := 525) C (dAt D_L_law 318 rfl) (by decide) (fun _ => ?_) (fun h => absurd f2 h)
    refine Liload C 1 (dAt D_L_law 321 rfl) rfl ?_
    refine Lif_ne (tgt := 542) C (dAt D_L_law 322 rfl) (by decide) (fun h => absurd rfl h) (fun _ => ?_)
    refine Laload_n C 4 (dAt D_L_law 323 rfl) rfl rfl ?_
    refine Liconst (x := 0) C (dAt D_L_law 324 rfl) (by decide) ?_
    refine Llald C (dAt D_L_law 325 rfl) hO.1 hO.2 (vp_in_iff.mpr (nm0.ix (by decide))) ?_
    refine Liload C 0 (dAt D_L_law 326 rfl) rfl ?_
    refine Li2l C (dAt D_L_law 327 rfl) ?_
    refine Llcmp C (dAt D_L_law 328 rfl) ?_
    refine Lif_eq (tgt := 542) C (dAt D_L_law 329 rfl) (by decide) (fun _ => ?_) (fun h => absurd (by rw [hl0]; exact lg_self _) h)
    exact Lgoto (tgt := 805) C (dAt D_L_law 332 rfl) (by decide) (Lsub (lv' := lvB x) (fun q hq => List.mem_cons_of_mem _ (List.mem_cons_of_mem _ hq)) (k _ _ _ _ ⟨A, hI2, hLay, hO, by omega, by omega⟩))
  · obtain ⟨f1, hI2⟩ := P_hadT (f := 5000) hInv hg
    refine LcallW (n := 5) (as := [_, _, _, _, _]) C (dAt D_L_law 295 rfl) (lw_hadT hLay hInv.2.2.1.1.1 hInv.1.1.1 hg) (WT_c4 220 rfl rfl) (WT_c4 221 rfl rfl) (WT_c1 0 rfl rfl) (WT_c4 222 rfl rfl) ⟨by decide +kernel, by decide +kernel, by decide +kernel⟩ rfl rfl (Nat.le_of_ble_eq_true rfl) (by decide) (by decide) (by omega) (by omega) (fun v w1 u1 hq => ?_)
    obtain ⟨rfl, ⟨kg, rfl⟩, rfl⟩ := hq
    refine Listore (lv' := [(5, _), (1, _), (2, _), (3, _), (4, _)]) C (dAt D_L_law 296 rfl) (by decide) (by decide) rfl ?_
    refine Laload_n C 2 (dAt D_L_law 297 rfl) rfl rfl ?_
    refine Lscr (k := 1) (j := 4) C (dAt D_L_law 298 rfl) (dAt D_L_law 299 rfl) (dAt D_L_law 300 rfl) (by decide) (dAt D_L_law 301 rfl) (dAt D_L_law 302 rfl) rfl (hin 1 1 rfl (by decide)) ?_
    refine Lscr (k := 2) (j := 4) C (dAt D_L_law 303 rfl) (dAt D_L_law 304 rfl) (dAt D_L_law 305 rfl) (by decide) (dAt D_L_law 306 rfl) (dAt D_L_law 307 rfl) rfl (hin 2 2 rfl (by decide)) ?_
    refine Lscr (k := 3) (j := 4) C (dAt D_L_law 308 rfl) (dAt D_L_law 309 rfl) (dAt D_L_law 310 rfl) (by decide) (dAt D_L_law 311 rfl) (dAt D_L_law 312 rfl) rfl (hin 3 3 rfl (by decide)) ?_
    refine LcallV (as := [_, _, _]) C (dAt D_L_law 313 rfl) (m_X12_had (hLay.grw kg) f1) yv_L_72 (Or.inl ⟨kt_167 (hLay.grw kg), by decide⟩) rfl rfl (Nat.le_of_ble_eq_true rfl) (by decide) (by decide) (by omega) (by omega) (LKint ?_)
    refine Listore (lv' := [(6, _), (5, _), (1, _), (2, _), (3, _), (4, _)]) C (dAt D_L_law 314 rfl) (by decide) (by decide) rfl ?_
    refine Laload_n C 3 (dAt D_L_law 315 rfl) rfl rfl ?_
    refine LcallV (as := []) C (dAt D_L_law 316 rfl) (m_X12_thrown (f := 5000) (hLay.grw kg) rfl) yv_L_73 (Or.inl ⟨kt_167 (hLay.grw kg), by decide⟩) rfl rfl (Nat.le_of_ble_eq_true rfl) (by decide) (by decide) (by omega) (by omega) (LKint ?_)
    refine Liload C 1 (dAt D_L_law 317 rfl) rfl ?_
    refine Licmp_eq (tgt := 525) C (dAt D_L_law 318 rfl) (by decide) (fun _ => ?_) (fun h => absurd (g_same u1 167 0 1) h)
    refine Liload C 1 (dAt D_L_law 321 rfl) rfl ?_
    exact Lif_ne (tgt := 542) C (dAt D_L_law 322 rfl) (by decide) (fun _ => Lgoto (tgt := 805) C (dAt D_L_law 332 rfl) (by decide) (Lsub (lv' := lvB x) (fun q hq => List.mem_cons_of_mem _ (List.mem_cons_of_mem _ hq)) (k _ _ _ _ ⟨A, hI2.grw kg, hLay.grw kg, hO, by omega, by show ks + 6 + 0 + 0 ≤ 54011 + 1471 * (c + 1) + obX w; omega⟩))) (fun h => absurd h (by decide))
set_option maxRecDepth 100000 in
theorem law_quarter (C : LwC z g b L xs) (hc : c ≤ 600) (hI : LI c w u kc ks) (hin : ∀ (kI : Int32) (kn : Nat), Nm kI kn → kn ≤ 6 → vp_in (x + kI) L) (k : ∀ w1 u1 kc1 ks1, LI (c + 1) w1 u1 kc1 ks1 → VL z g b 805 (lvB x) [] w1 u1 kc1 ks1) : VL z g b 545 (lvB x) [] w u kc ks := by
  obtain ⟨A, hInv, hLay, hO, hkc, hks⟩ := hI
  have hob := obS w
  refine Laload_n C 0 (dAt D_L_law 333 rfl) rfl rfl ?_
  refine Lscr (k := 1) (j := 3) C (dAt D_L_law 334 rfl) (dAt D_L_law 335 rfl) (dAt D_L_law 336 rfl) (by decide) (dAt D_L_law 337 rfl) (dAt D_L_law 338 rfl) rfl (hin 1 1 rfl (by decide)) ?_
  refine Lscr (k := 2) (j := 3) C (dAt D_L_law 339 rfl) (dAt D_L_law 340 rfl) (dAt D_L_law 341 rfl) (by decide) (dAt D_L_law 342 rfl) (dAt D_L_law 343 rfl) rfl (hin 2 2 rfl (by decide)) ?_
  refine Laload_n C 2 (dAt D_L_law 344 rfl) rfl rfl ?_
  by_cases hg : gQua (xs (x + 1).toNatClampNeg) (xs (x + 2).toNatClampNeg)
  · obtain ⟨a, u1, e1, _, hv⟩ := P_quarter2 (f := 5000) (x1 := (xs (x + 1).toNatClampNeg)) (x2 := (xs (x + 2).toNatClampNeg)) (by decide) hLay hInv hg
    obtain ⟨u2, f1, f2, f3, hI2⟩ := hv (sL u1 216 0 a.toInt64) (fun _ _ => rfl) (fun _ _ => rfl) (fun j => gL_o)
    have hl0 : gL u2 216 (0 : Int32).toNatClampNeg = a.toInt64 := by rw [nm0.nat, f3]; exact gL_s
    refine LcallW (n := 4) (as := [_, _, _, _]) C (dAt D_L_law 345 rfl) (lw_quarterN hLay hO.1 hO.2 e1) (WT_c5 57 rfl rfl) (WT_c5 58 rfl rfl) (WT_c1 0 rfl rfl) (WT_c5 59 rfl rfl) ⟨by decide +kernel, by decide +kernel, by decide +kernel⟩ rfl rfl (Nat.le_of_ble_eq_true rfl) (by decide) (by decide) (by omega) (by omega) (LKint ?_)
    refine Listore (lv' := [(5, _), (1, _), (2, _), (3, _), (4, _)]) C (dAt D_L_law 346 rfl) (by decide) (by decide) rfl ?_
    refine Laload_n C 2 (dAt D_L_law 347 rfl) rfl rfl ?_
    refine Lscr (k := 1) (j := 4) C (dAt D_L_law 348 rfl) (dAt D_L_law 349 rfl) (dAt D_L_law 350 rfl) (by decide) (dAt D_L_law 351 rfl) (dAt D_L_law 352 rfl) rfl (hin 1 1 rfl (by decide)) ?_
    refine Lscr (k := 2) (j := 4) C (dAt D_L_law 353 rfl) (dAt D_L_law 354 rfl) (dAt D_L_law 355 rfl) (by decide) (dAt D_L_law 356 rfl) (dAt D_L_law 357 rfl) rfl (hin 2 2 rfl (by decide)) ?_
    refine LcallV (as := [_, _]) C (dAt D_L_law 358 rfl) (m_X12_quarter hLay f1) yv_L_79 (Or.inl ⟨kt_167 hLay, by decide⟩) rfl rfl (Nat.le_of_ble_eq_true rfl) (by decide) (by decide) (by omega) (by omega) (LKint ?_)
    refine Listore (lv' := [(6, _), (5, _), (1, _), (2, _), (3, _), (4, _)]) C (dAt D_L_law 359 rfl) (by decide) (by decide) rfl ?_
    refine Laload_n C 3 (dAt D_L_law 360 rfl) rfl rfl ?_
    refine LcallV (as := []) C (dAt D_L_law 361 rfl) (m_X12_thrown (f := 5000) hLay rfl) yv_L_73 (Or.inl ⟨kt_167 hLay, by decide⟩) rfl rfl (Nat.le_of_ble_eq_true rfl) (by decide) (by decide) (by omega) (by omega) (LKint ?_)
    refine Liload C 1 (dAt D_L_law 362 rfl) rfl ?_
    refine Licmp_eq (tgt := 593) C (dAt D_L_law 363 rfl) (by decide) (fun _ => ?_) (fun h => absurd f2 h)
    refine Liload C 1 (dAt D_L_law 366 rfl) rfl ?_
    refine Lif_ne (tgt := 610) C (dAt D_L_law 367 rfl) (by decide) (fun h => absurd rfl h) (fun _ => ?_)
    refine Laload_n C 4 (dAt D_L_law 368 rfl) rfl rfl ?_
    refine Liconst (x := 0) C (dAt D_L_law 369 rfl) (by decide) ?_
    refine Llald C (dAt D_L_law 370 rfl) hO.1 hO.2 (vp_in_iff.mpr (nm0.ix (by decide))) ?_
    refine Liload C 0 (dAt D_L_law 371 rfl) rfl ?_
    refine Li2l C (dAt D_L_law 372 rfl) ?_
    refine Llcmp C (dAt D_L_law 373 rfl) ?_
    refine Lif_eq (tgt := 610) C (dAt D_L_law 374 rfl) (by decide) (fun _ => ?_) (fun h => absurd (by rw [hl0]; exact lg_self _) h)
    exact Lgoto (tgt := 805) C (dAt D_L_law 377 rfl) (by decide) (Lsub (lv' := lvB x) (fun q hq => List.mem_cons_of_mem _ (List.mem_cons_of_mem _ hq)) (k _ _ _ _ ⟨A, hI2, hLay, hO, by omega, by omega⟩))
  · obtain ⟨f1, hI2⟩ := P_quarterT (f := 5000) hInv hg
    refine LcallW (n := 4) (as := [_, _, _, _]) C (dAt D_L_law 345 rfl) (lw_quarterT hLay hg) (WT_c5 57 rfl rfl) (WT_c5 58 rfl rfl) (WT_c1 0 rfl rfl) (WT_c5 59 rfl rfl) ⟨by decide +kernel, by decide +kernel, by decide +kernel⟩ rfl rfl (Nat.le_of_ble_eq_true rfl) (by decide) (by decide) (by omega) (by omega) (fun v w1 u1 hq => ?_)
    obtain ⟨rfl, ⟨kg, rfl⟩, rfl⟩ := hq
    refine Listore (lv' := [(5, _), (1, _), (2, _), (3, _), (4, _)]) C (dAt D_L_law 346 rfl) (by decide) (by decide) rfl ?_
    refine Laload_n C 2 (dAt D_L_law 347 rfl) rfl rfl ?_
    refine Lscr (k := 1) (j := 4) C (dAt D_L_law 348 rfl) (dAt D_L_law 349 rfl) (dAt D_L_law 350 rfl) (by decide) (dAt D_L_law 351 rfl) (dAt D_L_law 352 rfl) rfl (hin 1 1 rfl (by decide)) ?_
    refine Lscr (k := 2) (j := 4) C (dAt D_L_law 353 rfl) (dAt D_L_law 354 rfl) (dAt D_L_law 355 rfl) (by decide) (dAt D_L_law 356 rfl) (dAt D_L_law 357 rfl) rfl (hin 2 2 rfl (by decide)) ?_
    refine LcallV (as := [_, _]) C (dAt D_L_law 358 rfl) (m_X12_quarter (hLay.grw kg) f1) yv_L_79 (Or.inl ⟨kt_167 (hLay.grw kg), by decide⟩) rfl rfl (Nat.le_of_ble_eq_true rfl) (by decide) (by decide) (by omega) (by omega) (LKint ?_)
    refine Listore (lv' := [(6, _), (5, _), (1, _), (2, _), (3, _), (4, _)]) C (dAt D_L_law 359 rfl) (by decide) (by decide) rfl ?_
    refine Laload_n C 3 (dAt D_L_law 360 rfl) rfl rfl ?_
    refine LcallV (as := []) C (dAt D_L_law 361 rfl) (m_X12_thrown (f := 5000) (hLay.grw kg) rfl) yv_L_73 (Or.inl ⟨kt_167 (hLay.grw kg), by decide⟩) rfl rfl (Nat.le_of_ble_eq_true rfl) (by decide) (by decide) (by omega) (by omega) (LKint ?_)
    refine Liload C 1 (dAt D_L_law 362 rfl) rfl ?_
    refine Licmp_eq (tgt := 593) C (dAt D_L_law 363 rfl) (by decide) (fun _ => ?_) (fun h => absurd (g_same u1 167 0 1) h)
    refine Liload C 1 (dAt D_L_law 366 rfl) rfl ?_
    exact Lif_ne (tgt := 610) C (dAt D_L_law 367 rfl) (by decide) (fun _ => Lgoto (tgt := 805) C (dAt D_L_law 377 rfl) (by decide) (Lsub (lv' := lvB x) (fun q hq => List.mem_cons_of_mem _ (List.mem_cons_of_mem _ hq)) (k _ _ _ _ ⟨A, hI2.grw kg, hLay.grw kg, hO, by omega, by show ks + 6 + 0 + 0 ≤ 54011 + 1471 * (c + 1) + obX w; omega⟩))) (fun h => absurd h (by decide))
set_option maxRecDepth 100000 in
theorem law_bill (C : LwC z g b L xs) (hc : c ≤ 600) (hI : LI c w u kc ks) (hin : ∀ (kI : Int32) (kn : Nat), Nm kI kn → kn ≤ 6 → vp_in (x + kI) L) (k : ∀ w1 u1 kc1 ks1, LI (c + 1) w1 u1 kc1 ks1 → VL z g b 805 (lvB x) [] w1 u1 kc1 ks1) : VL z g b 712 (lvB x) [] w u kc ks := by
  obtain ⟨A, hInv, hLay, hO, hkc, hks⟩ := hI
  have hob := obS w
  refine Laload_n C 0 (dAt D_L_law 449 rfl) rfl rfl ?_
  refine Lscr (k := 1) (j := 3) C (dAt D_L_law 450 rfl) (dAt D_L_law 451 rfl) (dAt D_L_law 452 rfl) (by decide) (dAt D_L_law 453 rfl) (dAt D_L_law 454 rfl) rfl (hin 1 1 rfl (by decide)) ?_
  refine Lscr (k := 2) (j := 3) C (dAt D_L_law 455 rfl) (dAt D_L_law 456 rfl) (dAt D_L_law 457 rfl) (by decide) (dAt D_L_law 458 rfl) (dAt D_L_law 459 rfl) rfl (hin 2 2 rfl (by decide)) ?_
  refine Laload_n C 2 (dAt D_L_law 460 rfl) rfl rfl ?_
  by_cases hg : gBil A (xs (x + 1).toNatClampNeg) (xs (x + 2).toNatClampNeg)
  · obtain ⟨a, e1, hv⟩ := P_bill2 (f := 5000) (x1 := (xs (x + 1).toNatClampNeg)) (x2 := (xs (x + 2).toNatClampNeg)) hInv hg
    obtain ⟨u2, f1, f2, f3, hI2⟩ := hv (sL u 216 0 a.toInt64) (fun _ _ => rfl) (fun _ _ => rfl) (fun j => gL_o)
    have hl0 : gL u2 216 (0 : Int32).toNatClampNeg = a.toInt64 := by rw [nm0.nat, f3]; exact gL_s
    refine LcallW (n := 4) (as := [_, _, _, _]) C (dAt D_L_law 461 rfl) (lw_billN hLay hO.1 hO.2 e1) (WT_c5 65 rfl rfl) (WT_c5 66 rfl rfl) (WT_c1 0 rfl rfl) (WT_c5 67 rfl rfl) ⟨by decide +kernel, by decide +kernel, by decide +kernel⟩ rfl rfl (Nat.le_of_ble_eq_true rfl) (by decide) (by decide) (by omega) (by omega) (LKint ?_)
    refine Listore (lv' := [(5, _), (1, _), (2, _), (3, _), (4, _)]) C (dAt D_L_law 462 rfl) (by decide) (by decide) rfl ?_
    refine Laload_n C 2 (dAt D_L_law 463 rfl) rfl rfl ?_
    refine Lscr (k := 1) (j := 4) C (dAt D_L_law 464 rfl) (dAt D_L_law 465 rfl) (dAt D_L_law 466 rfl) (by decide) (dAt D_L_law 467 rfl) (dAt D_L_law 468 rfl) rfl (hin 1 1 rfl (by decide)) ?_
    refine Lscr (k := 2) (j := 4) C (dAt D_L_law 469 rfl) (dAt D_L_law 470 rfl) (dAt D_L_law 471 rfl) (by decide) (dAt D_L_law 472 rfl) (dAt D_L_law 473 rfl) rfl (hin 2 2 rfl (by decide)) ?_
    refine LcallV (as := [_, _]) C (dAt D_L_law 474 rfl) (m_X12_bill hLay f1) yv_L_94 (Or.inl ⟨kt_167 hLay, by decide⟩) rfl rfl (Nat.le_of_ble_eq_true rfl) (by decide) (by decide) (by omega) (by omega) (LKint ?_)
    refine Listore (lv' := [(6, _), (5, _), (1, _), (2, _), (3, _), (4, _)]) C (dAt D_L_law 475 rfl) (by decide) (by decide) rfl ?_
    refine Laload_n C 3 (dAt D_L_law 476 rfl) rfl rfl ?_
    refine LcallV (as := []) C (dAt D_L_law 477 rfl) (m_X12_thrown (f := 5000) hLay rfl) yv_L_73 (Or.inl ⟨kt_167 hLay, by decide⟩) rfl rfl (Nat.le_of_ble_eq_true rfl) (by decide) (by decide) (by omega) (by omega) (LKint ?_)
    refine Liload C 1 (dAt D_L_law 478 rfl) rfl ?_
    refine Licmp_eq (tgt := 760) C (dAt D_L_law 479 rfl) (by decide) (fun _ => ?_) (fun h => absurd f2 h)
    refine Liload C 1 (dAt D_L_law 482 rfl) rfl ?_
    refine Lif_ne (tgt := 777) C (dAt D_L_law 483 rfl) (by decide) (fun h => absurd rfl h) (fun _ => ?_)
    refine Laload_n C 4 (dAt D_L_law 484 rfl) rfl rfl ?_
    refine Liconst (x := 0) C (dAt D_L_law 485 rfl) (by decide) ?_
    refine Llald C (dAt D_L_law 486 rfl) hO.1 hO.2 (vp_in_iff.mpr (nm0.ix (by decide))) ?_
    refine Liload C 0 (dAt D_L_law 487 rfl) rfl ?_
    refine Li2l C (dAt D_L_law 488 rfl) ?_
    refine Llcmp C (dAt D_L_law 489 rfl) ?_
    refine Lif_eq (tgt := 777) C (dAt D_L_law 490 rfl) (by decide) (fun _ => ?_) (fun h => absurd (by rw [hl0]; exact lg_self _) h)
    exact Lgoto (tgt := 805) C (dAt D_L_law 493 rfl) (by decide) (Lsub (lv' := lvB x) (fun q hq => List.mem_cons_of_mem _ (List.mem_cons_of_mem _ hq)) (k _ _ _ _ ⟨A, hI2, hLay, hO, by omega, by omega⟩))
  · obtain ⟨f1, hI2⟩ := P_billT (f := 5000) hInv hg
    refine LcallW (n := 4) (as := [_, _, _, _]) C (dAt D_L_law 461 rfl) (lw_billT hLay hInv.2.2.1.1.1 hInv.1.1.1 hInv.2.2.1.2.2.2.2.2.2.1 hInv.1.2.2.2.2.2.2.2.2.1 hg) (WT_c5 65 rfl rfl) (WT_c5 66 rfl rfl) (WT_c1 0 rfl rfl) (WT_c5 67 rfl rfl) ⟨by decide +kernel, by decide +kernel, by decide +kernel⟩ rfl rfl (Nat.le_of_ble_eq_true rfl) (by decide) (by decide) (by omega) (by omega) (fun v w1 u1 hq => ?_)
    obtain ⟨rfl, ⟨kg, rfl⟩, rfl⟩ := hq
    refine Listore (lv' := [(5, _), (1, _), (2, _), (3, _), (4, _)]) C (dAt D_L_law 462 rfl) (by decide) (by decide) rfl ?_
    refine Laload_n C 2 (dAt D_L_law 463 rfl) rfl rfl ?_
    refine Lscr (k := 1) (j := 4) C (dAt D_L_law 464 rfl) (dAt D_L_law 465 rfl) (dAt D_L_law 466 rfl) (by decide) (dAt D_L_law 467 rfl) (dAt D_L_law 468 rfl) rfl (hin 1 1 rfl (by decide)) ?_
    refine Lscr (k := 2) (j := 4) C (dAt D_L_law 469 rfl) (dAt D_L_law 470 rfl) (dAt D_L_law 471 rfl) (by decide) (dAt D_L_law 472 rfl) (dAt D_L_law 473 rfl) rfl (hin 2 2 rfl (by decide)) ?_
    refine LcallV (as := [_, _]) C (dAt D_L_law 474 rfl) (m_X12_bill (hLay.grw kg) f1) yv_L_94 (Or.inl ⟨kt_167 (hLay.grw kg), by decide⟩) rfl rfl (Nat.le_of_ble_eq_true rfl) (by decide) (by decide) (by omega) (by omega) (LKint ?_)
    refine Listore (lv' := [(6, _), (5, _), (1, _), (2, _), (3, _), (4, _)]) C (dAt D_L_law 475 rfl) (by decide) (by decide) rfl ?_
    refine Laload_n C 3 (dAt D_L_law 476 rfl) rfl rfl ?_
    refine LcallV (as := []) C (dAt D_L_law 477 rfl) (m_X12_thrown (f := 5000) (hLay.grw kg) rfl) yv_L_73 (Or.inl ⟨kt_167 (hLay.grw kg), by decide⟩) rfl rfl (Nat.le_of_ble_eq_true rfl) (by decide) (by decide) (by omega) (by omega) (LKint ?_)
    refine Liload C 1 (dAt D_L_law 478 rfl) rfl ?_
    refine Licmp_eq (tgt := 760) C (dAt D_L_law 479 rfl) (by decide) (fun _ => ?_) (fun h => absurd (g_same u1 167 0 1) h)
    refine Liload C 1 (dAt D_L_law 482 rfl) rfl ?_
    exact Lif_ne (tgt := 777) C (dAt D_L_law 483 rfl) (by decide) (fun _ => Lgoto (tgt := 805) C (dAt D_L_law 493 rfl) (by decide) (Lsub (lv' := lvB x) (fun q hq => List.mem_cons_of_mem _ (List.mem_cons_of_mem _ hq)) (k _ _ _ _ ⟨A, hI2.grw kg, hLay.grw kg, hO, by omega, by show ks + 6 + 0 + 0 ≤ 54011 + 1471 * (c + 1) + obX w; omega⟩))) (fun h => absurd h (by decide))
end LAWCASES
