/-! ===== all that is there at the law's entry, together ===== -/
section
variable {args : Array Value} {s : State}
theorem inst_at (hts : ∀ w ∈ lw_tbl, w.before args s = true) : ∀ t, t < 13 → ∃ n, (Cond.instantiable (cS t) n).before args s = true := by
  intro t h
  match t, h with
  | 0, _ => exact ⟨_, hts _ (WT_in gi_0)⟩
  | 1, _ => exact ⟨_, hts _ (WT_in gi_1)⟩
  | 2, _ => exact ⟨_, hts _ (WT_in gi_2)⟩
  | 3, _ => exact ⟨_, hts _ (WT_in gi_3)⟩
  | 4, _ => exact ⟨_, hts _ (WT_in gi_4)⟩
  | 5, _ => exact ⟨_, hts _ (WT_in gi_5)⟩
  | 6, _ => exact ⟨_, hts _ (WT_in gi_6)⟩
  | 7, _ => exact ⟨_, hts _ (WT_in gi_7)⟩
  | 8, _ => exact ⟨_, hts _ (WT_in gi_8)⟩
  | 9, _ => exact ⟨5, TB_in hts 498 (by decide +kernel)⟩
  | 10, _ => exact ⟨_, hts _ (WT_in gi_10)⟩
  | 11, _ => exact ⟨_, hts _ (WT_in gi_11)⟩
  | 12, _ => exact ⟨_, hts _ (WT_in gi_12)⟩
  | n + 13, h => exact absurd h (by omega)
theorem arr_p {ty : FieldType} (h : (Cond.arrayClass ty).before args s = true) : ∃ cA : ClassId, ArrOfT s cA ty ∧ s.vm.findClass ("[" ++ ty.toString) = some cA := by
  obtain ⟨cA, kA, comp, h1, h2, h3⟩ := Cond.arrayClass_spec h
  exact ⟨cA, fun n z => ⟨fun k h => (by cases h), kA, h2, comp, h3⟩, h1⟩
theorem arr_o {C : String} (h : (Cond.arrayOver (.object C)).before args s = true) : ∃ cA : ClassId, ArrOfT s cA (.object C) ∧ va_RA s cA (.object C) := by
  obtain ⟨comp, cA, kA, h1, -, h2, h3, h4⟩ := Cond.arrayOver_spec h
  exact ⟨cA, fun n z => ⟨fun k h => (by cases h), kA, h2, comp, h3⟩, kA, comp, h2, h3, h1, h4⟩
theorem nest_ot {w : Cond} (hw : w ∈ NWs) : w.onTables = true := by
  have h1 := (List.mem_filter.mp hw).2
  cases w <;> first | (simp [isNest] at h1; done) | rfl
theorem XwL_in : ∀ w ∈ XwL, w ∈ tables_1 := List.forall_mem_cons.mpr ⟨List.mem_of_getElem? (i := 950) (by decide +kernel), List.forall_mem_cons.mpr ⟨List.mem_of_getElem? (i := 951) (by decide +kernel), List.forall_mem_cons.mpr ⟨List.mem_of_getElem? (i := 953) (by decide +kernel), List.forall_mem_cons.mpr ⟨List.mem_of_getElem? (i := 955) (by decide +kernel), fun _ h => absurd h List.not_mem_nil⟩⟩⟩⟩
theorem xw_at (hts : ∀ w ∈ lw_tbl, w.before args s = true) : Xw s := fun w hw => va_Nw.of (XwL_ot w hw) (hts w (List.mem_append_right _ (XwL_in w hw)))
theorem stc_at (hts : ∀ w ∈ lw_tbl, w.before args s = true) (hgv : (Cond.and given_1 narrow_1).before args s = true) : ∃ g : GT, gn g = s.heap.size ∧ Stc g s := by
  have hA : ∀ a : Nat, a < s.heap.size → ¬ (fun q : Nat => s.heap.size ≤ q) a := fun a h => Nat.not_le.mpr h
  have hTk : (Cond.initialized "SunVillage$Token").before args s = true := TB_in hts 15 (by decide +kernel)
  obtain ⟨ad, hEn, hev⟩ := va_Enof2 (args := args) (s := s) (E := "SunVillage$Token") (d := "LSunVillage$Token;") (nm := tkN) (F := [("SunVillage$Token", "code", "I", tkC)]) (A := fun q : Nat => s.heap.size ≤ q)
    (fun i hi => TB_in hts _ (f_ls i hi)) hTk (fun i hi => FN_in hgv _ (f_ex i hi)) (fun q hq i hi => by
      have hq := List.mem_singleton.mp hq
      subst hq
      exact FN_in hgv _ (f_co i hi)) (fun i j hi hj hij => Or.inl (tok_ne hgv hi hj hij)) hA
  obtain ⟨adK, adV, hS, hsv⟩ := vk_Sof (args := args) (s := s) (N := 32) (tm := fun k => tmS k) (len := tkL) (byt := tkB) (A := fun q : Nat => s.heap.size ≤ q) (by decide +kernel) (fun i hi => FN_in hgv _ (f_sx i hi)) (fun i hi => FN_in hgv _ (f_sc i hi)) (fun i hi => FN_in hgv _ (f_sa i hi)) (fun i hi => FN_in hgv _ (f_sl i hi)) (fun i hi j hj => FN_in hgv _ (f_se i hi j hj)) (fun i j hi hj hij => Or.inl (str_ne hgv hi hj hij)) hA
  obtain ⟨ea, heE, hT⟩ := va_Tof (args := args) (s := s) (tm := tmE) (ty := .object "SunVillage$Token") (N := 34) (f := fun i => .ref (ad i)) (A := fun q : Nat => s.heap.size ≤ q) (by decide) (FN_in hgv 6 (by decide +kernel)) (va_eqt (FN_in hgv 7 (by decide +kernel))) (fun j hj => va_eqv (FN_in hgv _ (f_el j hj)) (hev j hj)) hA
  have hC : ∀ t : Nat, ∃ q : ClassId × (Nat → Nat), t < 13 → u_Kn s (cS t) (cT t) (cN t) q.1 q.2 := by
    intro t
    by_cases ht : t < 13
    · obtain ⟨n, hn⟩ := inst_at hts t ht
      obtain ⟨cC, iS, h⟩ := u_known (ws := WT) (fun w hw => hts w (WT_in hw)) (cl_ws t ht) hn
      exact ⟨(cC, iS), fun _ => h⟩
    · obtain ⟨n, hn⟩ := inst_at hts 0 (by decide)
      obtain ⟨cC, iS, h⟩ := u_known (ws := WT) (fun w hw => hts w (WT_in hw)) (cl_ws 0 (by decide)) hn
      exact ⟨(cC, iS), fun h => absurd h ht⟩
  obtain ⟨D, hD⟩ := Classical.axiomOfChoice hC
  obtain ⟨c0, a0, b0⟩ := arr_p (hts _ (WT_in ga_int))
  obtain ⟨c1, a1, b1⟩ := arr_p (hts _ (WT_in ga_long))
  obtain ⟨c2, a2, b2⟩ := arr_p (hts _ (WT_in ga_boolean))
  obtain ⟨c3, a3, b3⟩ := arr_p (hts _ (WT_in ga_char))
  have o4 : (Cond.arrayOver (.object "SunVillage$Token")).before args s = true := TB_in hts 112 (by decide +kernel)
  have o5 : (Cond.arrayOver (.object "SunVillage$Rule")).before args s = true := TB_in hts 294 (by decide +kernel)
  have o6 : (Cond.arrayOver (.object "SunVillage$Text")).before args s = true := TB_in hts 223 (by decide +kernel)
  obtain ⟨c4, a4, b4⟩ := arr_o o4
  obtain ⟨c5, a5, b5⟩ := arr_o o5
  obtain ⟨c6, a6, b6⟩ := arr_o o6
  refine ⟨(s.heap.size, ad, ea, adK, adV, (fun t => (D t).1), (fun t => (D t).2), (fun t => match t with | 20 => c0 | 21 => c1 | 22 => c2 | 23 => c3 | 24 => c4 | 25 => c5 | _ => c6)), rfl, ⟨fun c q hq => ?_, fun k q hk => ?_⟩, hEn, ⟨va_Zof (TB_in hts 494 (by decide +kernel)) hTk heE hA, hT, ?_, hS⟩, Nat.le_refl _, fun w hw => va_Nw.of (nest_ot hw) (hts w (List.mem_append_right _ (List.mem_filter.mp hw).1)), va_AO.of o4, va_AO.of o5, va_AO.of o6, va_Zof (TB_in hts 509 (by decide +kernel)) (TB_in hts 16 (by decide +kernel)) (va_eqt (FN_in hgv 43 (by decide +kernel))) hA, vx_Zqof (TB_in hts 975 (by decide +kernel)) (TB_in hts 20 (by decide +kernel)) (FN_in hgv 180 (by decide +kernel)) hA, vx_Zqof (TB_in hts 977 (by decide +kernel)) (TB_in hts 20 (by decide +kernel)) (FN_in hgv 181 (by decide +kernel)) hA, va_Zqof (TB_in hts 525 (by decide +kernel)) (TB_in hts 18 (by decide +kernel)) (FN_in hgv 44 (by decide +kernel)) hA⟩
  · have hc : c < 13 := (List.getElem?_eq_some_iff.mp hq).1
    rw [cl_at c hc] at hq
    injection hq with hq
    subst hq
    exact hD c hc
  · match k, hk with
    | 0, hk => cases hk; exact ⟨a0, b0⟩
    | 1, hk => cases hk; exact ⟨a1, b1⟩
    | 2, hk => cases hk; exact ⟨a2, b2⟩
    | 3, hk => cases hk; exact ⟨a3, b3⟩
    | 4, hk => cases hk; exact ⟨a4, b4⟩
    | 5, hk => cases hk; exact ⟨a5, b5⟩
    | 6, hk => cases hk; exact ⟨a6, b6⟩
    | n + 7, hk => cases hk
  · exact va_Efof (args := args) (E := "SunVillage$Token") (d0 := "LSunVillage$Token;") (nm := tkN) (tm := fun i => tmS (tkX i)) hev (fun i hi => FN_in hgv _ (f_sp i hi)) (fun i hi => hsv (tkX i) (by unfold tkX; omega)) hA
end
