/-! ===== what is there at the law's entry; printed by wip/gen/entry.py ===== -/
def FN : List Cond := flatC (Cond.and given_1 narrow_1)
def tkEn : List Nat := [163, 171, 174, 177, 180, 183, 186, 189, 192, 195, 198, 201, 204, 207, 210, 213, 216, 219, 222, 225, 228, 231, 234, 237, 240, 243, 246, 249, 252, 255, 258, 261]
abbrev tmS (k : Nat) : Term := .string "SunVillage$Token" (tkEn.getD k 0)
abbrev tmT (i : Nat) : Term := .static "SunVillage$Token" (tkN.getD i "") "LSunVillage$Token;"
abbrev tmE : Term := .static "SunVillage$Token" "EACH" "[LSunVillage$Token;"
abbrev tmV (k : Nat) : Term := .field (tmS k) "java/lang/String" "value" "[B"
def p_ex : List Nat := [48, 56, 52, 80, 88, 152, 172, 176, 100, 104, 182, 84, 168, 92, 96, 64, 68, 72, 76, 60, 120, 124, 136, 116, 128, 132, 140, 144, 148, 108, 112, 156, 160, 164]
def p_od : List Nat := [49, 57, 53, 81, 89, 153, 173, 177, 101, 105, 183, 85, 169, 93, 97, 65, 69, 73, 77, 61, 121, 125, 137, 117, 129, 133, 141, 145, 149, 109, 113, 157, 161, 165]
def p_sp : List Nat := [50, 58, 54, 82, 90, 154, 174, 178, 102, 106, 184, 86, 170, 94, 98, 66, 70, 74, 78, 62, 122, 126, 138, 118, 130, 134, 142, 146, 150, 110, 114, 158, 162, 166]
def p_co : List Nat := [51, 59, 55, 83, 91, 155, 175, 179, 103, 107, 185, 87, 171, 95, 99, 67, 71, 75, 79, 63, 123, 127, 139, 119, 131, 135, 143, 147, 151, 111, 115, 159, 163, 167]
def p_el : List Nat := [9, 10, 11, 12, 13, 14, 15, 16, 17, 18, 19, 20, 21, 22, 23, 24, 25, 26, 27, 28, 29, 30, 31, 32, 33, 34, 35, 36, 37, 38, 39, 40, 41, 42]
def p_sx : List Nat := [199, 244, 254, 374, 409, 417, 269, 277, 424, 249, 404, 259, 264, 211, 219, 227, 235, 203, 308, 316, 340, 301, 322, 331, 346, 355, 364, 286, 293, 379, 388, 396]
def p_sc : List Nat := [200, 245, 255, 375, 410, 418, 270, 278, 425, 250, 405, 260, 265, 212, 220, 228, 236, 204, 309, 317, 341, 302, 323, 332, 347, 356, 365, 287, 294, 380, 389, 397]
def p_sa : List Nat := [201, 246, 256, 376, 411, 419, 271, 279, 426, 251, 406, 261, 266, 213, 221, 229, 237, 205, 310, 318, 342, 303, 324, 333, 348, 357, 366, 288, 295, 381, 390, 398]
def p_sl : List Nat := [202, 247, 257, 377, 412, 420, 272, 280, 427, 252, 407, 262, 267, 214, 222, 230, 238, 206, 311, 319, 343, 304, 325, 334, 349, 358, 367, 289, 296, 382, 391, 399]
def p_ls : List Nat := [549, 558, 552, 600, 609, 688, 809, 811, 647, 649, 1541, 606, 802, 623, 625, 570, 572, 574, 576, 560, 666, 670, 680, 660, 676, 678, 682, 684, 686, 651, 653, 694, 696, 698]
def p_se : List (List Nat) := [[], [248], [258], [378], [413, 414, 415, 416], [421, 422, 423], [273, 274, 275, 276], [281, 282, 283, 284, 285], [428, 429, 430, 431], [253], [408], [263], [268], [215, 216, 217, 218], [223, 224, 225, 226], [231, 232, 233, 234], [239, 240, 241, 242, 243], [207, 208, 209, 210], [312, 313, 314, 315], [320, 321], [344, 345], [305, 306, 307], [326, 327, 328, 329, 330], [335, 336, 337, 338, 339], [350, 351, 352, 353, 354], [359, 360, 361, 362, 363], [368, 369, 370, 371, 372, 373], [290, 291, 292], [297, 298, 299, 300], [383, 384, 385, 386, 387], [392, 393, 394, 395], [400, 401, 402, 403]]
set_option maxRecDepth 100000 in
theorem f_ex : ∀ i, i < 34 → FN[(p_ex.getD i 0)]? = some (Cond.exactly (tmT i) "SunVillage$Token") := by decide +kernel
set_option maxRecDepth 100000 in
theorem f_od : ∀ i, i < 34 → FN[(p_od.getD i 0)]? = some (Cond.eq (.field (tmT i) "java/lang/Enum" "ordinal" "I") (.int (Int32.ofNat i))) := by decide +kernel
set_option maxRecDepth 100000 in
theorem f_sp : ∀ i, i < 34 → FN[(p_sp.getD i 0)]? = some (Cond.eq (.field (tmT i) "SunVillage$Token" "spelling" "Ljava/lang/String;") (tmS (tkX i))) := by decide +kernel
set_option maxRecDepth 100000 in
theorem f_co : ∀ i, i < 34 → FN[(p_co.getD i 0)]? = some (Cond.eq (.field (tmT i) "SunVillage$Token" "code" "I") (.int (tkC.getD i 0))) := by decide +kernel
set_option maxRecDepth 100000 in
theorem f_el : ∀ i, i < 34 → FN[(p_el.getD i 0)]? = some (Cond.eq (.elem tmE (.int (Int32.ofNat i))) (tmT i)) := by decide +kernel
set_option maxRecDepth 100000 in
theorem f_ls : ∀ i, i < 34 → tables_1[(p_ls.getD i 0)]? = some (Cond.laysStatic "SunVillage$Token" (tkN.getD i "") "LSunVillage$Token;") := by decide +kernel
set_option maxRecDepth 100000 in
theorem f_sx : ∀ i, i < 32 → FN[(p_sx.getD i 0)]? = some (Cond.exactly (tmS i) "java/lang/String") := by decide +kernel
set_option maxRecDepth 100000 in
theorem f_sc : ∀ i, i < 32 → FN[(p_sc.getD i 0)]? = some (Cond.eq (.field (tmS i) "java/lang/String" "coder" "B") (.int 0)) := by decide +kernel
set_option maxRecDepth 100000 in
theorem f_sa : ∀ i, i < 32 → FN[(p_sa.getD i 0)]? = some (Cond.arrayOf (tmV i) .byte) := by decide +kernel
set_option maxRecDepth 100000 in
theorem f_sl : ∀ i, i < 32 → FN[(p_sl.getD i 0)]? = some (Cond.eq (.length (tmV i)) (.int (Int32.ofNat (tkL.getD i 0)))) := by decide +kernel
set_option maxRecDepth 100000 in
theorem f_se : ∀ i, i < 32 → ∀ j, j < tkL.getD i 0 → FN[((p_se.getD i []).getD j 0)]? = some (Cond.eq (.elem (tmV i) (.int (Int32.ofNat j))) (.int ((tkB.getD i []).getD j 0))) := by decide +kernel
theorem o_inj : ∀ i, i < 34 → ∀ j, j < 34 → Int32.ofNat i = Int32.ofNat j → i = j := by decide +kernel
theorem s_dif : ∀ i, i < 32 → ∀ j, j < 32 → i ≠ j → Int32.ofNat (tkL.getD i 0) ≠ Int32.ofNat (tkL.getD j 0) ∨ (tkL.getD i 0 = tkL.getD j 0 ∧ (List.range (tkL.getD i 0)).any (fun k => (tkB.getD i []).getD k 0 != (tkB.getD j []).getD k 0) = true) := by decide +kernel
section
variable {args : Array Value} {s : State}
theorem ne_word {t v : Term} {a b : Nat} (ht : t.eval args s none [] s = some (.ref a)) (hu : v.eval args s none [] s = some (.ref b)) (h : a ≠ b) : (Cond.not (.eq t v)).before args s = true := by
  simp [Cond.before, Cond.holds, Cond.value, ht, hu, h]
theorem fs_len {t v : Term} (h : t.eval args s none [] s = v.eval args s none [] s) : (Term.length t).eval args s none [] s = (Term.length v).eval args s none [] s := by
  simp only [Term.eval, h]
theorem fs_elem {t v i : Term} (h : t.eval args s none [] s = v.eval args s none [] s) : (Term.elem t i).eval args s none [] s = (Term.elem v i).eval args s none [] s := by
  simp only [Term.eval, h]
theorem FN_in (hgv : (Cond.and given_1 narrow_1).before args s = true) {w : Cond} (i : Nat) (h : FN[i]? = some w) : w.before args s = true := flat_of_before _ hgv _ (List.mem_of_getElem? h)
theorem TB_in (hts : ∀ w ∈ lw_tbl, w.before args s = true) {w : Cond} (i : Nat) (h : tables_1[i]? = some w) : w.before args s = true := hts _ (List.mem_append_right _ (List.mem_of_getElem? h))
theorem tok_ne (hgv : (Cond.and given_1 narrow_1).before args s = true) {i j : Nat} (hi : i < 34) (hj : j < 34) (hij : i ≠ j) : (Cond.not (.eq (tmT i) (tmT j))).before args s = true := by
  obtain ⟨a, c, cell, k, q1, -⟩ := Cond.exactly_spec (FN_in hgv _ (f_ex i hi))
  obtain ⟨b, c', cell', k', r1, -⟩ := Cond.exactly_spec (FN_in hgv _ (f_ex j hj))
  refine ne_word q1 r1 (fun e => hij ?_)
  subst e
  have h1 := va_eqt (FN_in hgv _ (f_od i hi))
  have h2 := va_eqt (FN_in hgv _ (f_od j hj))
  rw [va_fe q1] at h1
  rw [va_fe r1, h1] at h2
  injection h2 with h2
  injection h2 with h2
  exact o_inj i hi j hj h2
theorem str_ne (hgv : (Cond.and given_1 narrow_1).before args s = true) {i j : Nat} (hi : i < 32) (hj : j < 32) (hij : i ≠ j) : (Cond.not (.eq (tmS i) (tmS j))).before args s = true := by
  obtain ⟨a, c, cell, k, q1, -⟩ := Cond.exactly_spec (FN_in hgv _ (f_sx i hi))
  obtain ⟨b, c', cell', k', r1, -⟩ := Cond.exactly_spec (FN_in hgv _ (f_sx j hj))
  refine ne_word q1 r1 (fun e => ?_)
  subst e
  have hv : (tmV i).eval args s none [] s = (tmV j).eval args s none [] s := by rw [va_fe q1, va_fe r1]
  have h1 := va_eqt (FN_in hgv _ (f_sl i hi))
  have h2 := va_eqt (FN_in hgv _ (f_sl j hj))
  rw [fs_len hv, h2] at h1
  rcases s_dif i hi j hj hij with d | ⟨d1, d2⟩
  · injection h1 with h1
    injection h1 with h1
    exact d h1.symm
  · obtain ⟨k, hk, hd⟩ := List.any_eq_true.mp d2
    have hk := List.mem_range.mp hk
    have h3 := va_eqt (FN_in hgv _ (f_se i hi k hk))
    have h4 := va_eqt (FN_in hgv _ (f_se j hj k (by rw [← d1]; exact hk)))
    rw [fs_elem hv, h4] at h3
    injection h3 with h3
    injection h3 with h3
    rw [h3] at hd
    simp at hd
end
