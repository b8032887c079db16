/-! ===== the reference gives ===== -/
theorem upf_self {f : Nat → Int32} {h : Nat} : upf f h (f h) = f := by
  funext k; unfold upf; by_cases e : k = h
  · rw [if_pos e, e]
  · rw [if_neg e]
theorem hnd_zero {s : QS} {src h : Nat} : hnd s src h 0 = s := by
  unfold hnd
  rw [Int32.sub_zero, Int32.sub_zero, Int32.sub_zero, Int32.sub_zero, Int32.add_zero, Int32.add_zero, Int32.add_zero, upf_self, upf_self, upf_self, upf_self, upf_self]
  by_cases e : src = 9
  · simp only [if_pos e]; rfl
  · simp only [if_neg e]; rfl
/-- within its bounds -/
def QI (s : QS) (n : Nat) (cap : Int32) : Prop := (∀ h, h < n → 0 ≤ (qW s h).toInt ∧ (qW s h).toInt ≤ 5000 ∧ 0 ≤ (qL s h).toInt ∧ (qL s h).toInt ≤ 5000) ∧ 0 ≤ (qP s).toInt ∧ (qP s).toInt ≤ 1000000 ∧ 0 ≤ (qS s).toInt ∧ (qS s).toInt ≤ cap.toInt ∧ cap.toInt ≤ 1000000
theorem QI_room {s : QS} {n : Nat} {cap : Int32} (h : QI s n cap) {k : Nat} (hk : k < n) : 0 ≤ (room s k).toInt ∧ (room s k).toInt ≤ 5000 := by
  have := h.1 k hk
  unfold room
  split <;> omega
theorem gvl_room {src : Nat} {a : Int32} {w : Nat → Int32} {tot : Int64} {h : Nat} : ∀ (l : List Nat) (p : QS × Int32), h ∉ l → room (gvl src a w tot l p).1 h = room p.1 h := by
  intro l
  induction l with
  | nil => intro p _; rfl
  | cons x l ih =>
    intro p hn
    have h1 : h ≠ x := fun e => hn (by simp [e])
    have h2 : h ∉ l := fun e => hn (by simp [e])
    show room (gvl src a w tot l _).1 h = _
    rw [ih _ h2]; exact room_hnd h1
theorem wsum_pos {w : Nat → Int32} : ∀ (l : List Nat) (t : Int64), (∀ h ∈ l, 1 ≤ (w h).toInt) → 0 ≤ t.toInt → t.toInt + (l.length : Int) * 2147483648 < 1000000000000000000 → t.toInt + (l.length : Int) ≤ (wsum w l t).toInt := by
  intro l
  induction l with
  | nil => intro t _ _ _; show t.toInt + 0 ≤ t.toInt; omega
  | cons x l ih =>
    intro t hw ht hb
    have hx := hw x (by simp)
    have hi := i_hi (w x)
    rw [List.length_cons] at hb ⊢
    have e : (t + (w x).toInt64).toInt = t.toInt + (w x).toInt := by
      rw [l_add (by rw [Int32.toInt_toInt64]; omega) (by rw [Int32.toInt_toInt64]; push_cast at hb; omega), Int32.toInt_toInt64]
    have := ih (t + (w x).toInt64) (fun h hh => hw h (by simp [hh])) (by rw [e]; omega) (by rw [e]; push_cast at hb ⊢; omega)
    show _ ≤ (wsum w l (t + (w x).toInt64)).toInt
    rw [e] at this
    push_cast at this ⊢
    omega
section
variable {f : Nat} {s : QS} {n q : Nat}
theorem XV.cell {u : MT} (h : XV u s n q) {a k : Nat} {y : Int32} (ha : a = 212 ∨ a = 213 ∨ a = 214) : XV (sI u a k y) s n q := h.fr (fun k _ => g_ne _ _ _ _ (by omega)) (fun b hb k => g_ne _ _ _ _ (by omega))
theorem not_mem_rng {k : Nat} {p : Nat → Bool} : k ∉ (List.range k).filter p := fun h => by have := List.mem_range.mp (List.mem_filter.mp h).1; omega
/-- giving, all chosen -/
theorem r_give {u : MT} {t how k I N : Nat} {x1 x2 x4 x5 : Int32} {sh : Nat → Int32} {rl : AR} {cap : Int32} (hf : 1300 < f) (hX : XV u s n q) (hQ : QI s n cap) (ht : Nm (gI u 167 44) t) (ht8 : t < 8) (hh : Nm (gI u 174 t) (how - 32)) (hhow : 32 ≤ how ∧ how ≤ 34) (hk : k < 24) (hI : I < 192) (hx1 : Nm x1 k) (hx2 : Nm x2 I)
    (hs : gI u 178 I = 0 ↔ rSrc rl = 9) (hway : Nm (gI u 181 I) (rWay rl - 27)) (hw2 : 27 ≤ rWay rl ∧ rWay rl ≤ 29) (hsh : ∀ h, h < n → gI u 189 h = sh h) (hsh1 : ∀ h, h < n → 1 ≤ (sh h).toInt)
    (hx5 : Nm x5 (chl s n (rWho rl) (rNum rl)).length) (hfl : Flg u n (memb (chl s n (rWho rl) (rNum rl)))) :
    Ok (B_X12_givesBy_82 f f x1 x2 x4 x5 0 0 u) (fun r => XV r (giv s n q sh how rl x4) n q ∧ BD k n u s r (giv s n q sh how rl x4)) := by
  have h12 := hX.n12
  have hC : Asc n (chl s n (rWho rl) (rNum rl)) := chl_asc
  have hlen := hC.len
  have hcan : ∀ h ∈ chl s n (rWho rl) (rNum rl), can s h = true := by
    intro h hh'
    unfold chl at hh'
    have h0 : h ∈ ch0 s n (rWho rl) (rNum rl) := by
      split at hh'
      · exact (List.mem_filter.mp hh').1
      · exact hh'
    have := (List.mem_filter.mp h0).2
    simp at this
    exact this.1
  have hmb := chl_memb (s := s) (n := n) (who := rWho rl) (num := rNum rl)
  have hwpos : ∀ h ∈ chl s n (rWho rl) (rNum rl), 1 ≤ (wgt s sh (rWay rl) h).toInt := by
    intro h hh'
    unfold wgt
    split
    · decide
    · split
      · have := of_decide_eq_true (hcan h hh'); omega
      · exact hsh1 h (hC.2 h hh')
  have hws := wsum_pos (w := wgt s sh (rWay rl)) (chl s n (rWho rl) (rNum rl)) 0 hwpos (by decide) (by rw [show (0 : Int64).toInt = 0 from rfl]; omega)
  rw [show (0 : Int64).toInt = 0 from rfl] at hws
  have hgiv : giv s n q sh how rl x4 = if 0 < (gvl (rSrc rl) x4 (wgt s sh (rWay rl)) (wsum (wgt s sh (rWay rl)) (chl s n (rWho rl) (rNum rl)) 0) (chl s n (rWho rl) (rNum rl)) (s, x4)).2.toInt ∧ (gvl (rSrc rl) x4 (wgt s sh (rWay rl)) (wsum (wgt s sh (rWay rl)) (chl s n (rWho rl) (rNum rl)) 0) (chl s n (rWho rl) (rNum rl)) (s, x4)).2.toInt < ((chl s n (rWho rl) (rNum rl)).length : Int) then (ons (rSrc rl) (ordr (gvl (rSrc rl) x4 (wgt s sh (rWay rl)) (wsum (wgt s sh (rWay rl)) (chl s n (rWho rl) (rNum rl)) 0) (chl s n (rWho rl) (rNum rl)) (s, x4)).1 n q how (chl s n (rWho rl) (rNum rl))) (gvl (rSrc rl) x4 (wgt s sh (rWay rl)) (wsum (wgt s sh (rWay rl)) (chl s n (rWho rl) (rNum rl)) 0) (chl s n (rWho rl) (rNum rl)) (s, x4))).1 else (gvl (rSrc rl) x4 (wgt s sh (rWay rl)) (wsum (wgt s sh (rWay rl)) (chl s n (rWho rl) (rNum rl)) 0) (chl s n (rWho rl) (rNum rl)) (s, x4)).1 := by
    unfold giv
    by_cases ha : x4 = 0
    · have hz : ∀ (l : List Nat) (p : QS × Int32), (∀ h ∈ l, h < n ∧ room p.1 h = room s h) → l.Pairwise (· < ·) → gvl (rSrc rl) 0 (wgt s sh (rWay rl)) (wsum (wgt s sh (rWay rl)) (chl s n (rWho rl) (rNum rl)) 0) l p = p := by
        intro l
        induction l with
        | nil => intro p _ _; rfl
        | cons x l ih =>
          intro p hl hpw
          have hg0 : gvp 0 (wgt s sh (rWay rl)) (wsum (wgt s sh (rWay rl)) (chl s n (rWho rl) (rNum rl)) 0) (room p.1 x) x = 0 := by
            unfold gvp
            have hr := QI_room hQ (hl x (by simp)).1
            rw [(hl x (by simp)).2, show (0 : Int32).toInt64 = 0 from rfl, Int64.zero_mul, Int64.zero_div, if_neg (fun e => by have := Int64.lt_iff_toInt_lt.mp e; rw [Int32.toInt_toInt64, show (0 : Int64).toInt = 0 from rfl] at this; omega)]
            rfl
          show gvl _ 0 _ _ l (hnd p.1 (rSrc rl) x (gvp 0 _ _ _ x), p.2 - gvp 0 _ _ _ x) = p
          rw [hg0, hnd_zero, Int32.sub_zero]
          exact ih p (fun h hh => hl h (by simp [hh])) (List.pairwise_cons.mp hpw).2
      subst ha
      rw [if_pos rfl, hz _ (s, 0) (fun h hh => ⟨hC.2 h hh, rfl⟩) hC.1, if_neg (fun e => absurd e.1 (show ¬ 0 < (0 : Int32).toInt by decide))]
    · rw [if_neg ha]
      by_cases htp : 0 < (wsum (wgt s sh (rWay rl)) (chl s n (rWho rl) (rNum rl)) 0).toInt
      · rw [if_pos htp]
        generalize gvl (rSrc rl) x4 (wgt s sh (rWay rl)) (wsum (wgt s sh (rWay rl)) (chl s n (rWho rl) (rNum rl)) 0) (chl s n (rWho rl) (rNum rl)) (s, x4) = p
        by_cases h1 : p.2.toInt < ((chl s n (rWho rl) (rNum rl)).length : Int)
        · rw [if_pos h1]
          by_cases h2 : 0 < p.2.toInt
          · rw [if_pos ⟨h2, h1⟩]
          · rw [if_neg (fun e => h2 e.1), ons_none _ p (Or.inl (by omega))]
        · rw [if_neg h1, if_neg (fun e => h1 e.2)]
      · have hnil : chl s n (rWho rl) (rNum rl) = [] := List.eq_nil_of_length_eq_zero (by omega)
        rw [if_neg htp, hnil, if_neg (fun e => by have h1 : 0 < x4.toInt := e.1; have h2 : x4.toInt < ((0 : Nat) : Int) := e.2; omega)]
        rfl
  rw [hgiv]
  clear hgiv
  generalize hCe : chl s n (rWho rl) (rNum rl) = C at *
  have htot0 : ∀ h, memb C h = true → ¬ wsum (wgt s sh (rWay rl)) C 0 = 0 := fun h hm e => by
    have hmem := of_decide_eq_true hm
    have : 0 < C.length := List.length_pos_of_mem hmem
    rw [e, show (0 : Int64).toInt = 0 from rfl] at hws
    omega
  generalize htt : wsum (wgt s sh (rWay rl)) C 0 = tot at *
  -- hands
  have hands : ∀ (d j : Nat) (x8 x9 : Int32) (v : MT) (m : Nat), j + d = n → Nm x9 j → d < m → x8 = (gvl (rSrc rl) x4 (wgt s sh (rWay rl)) tot C (s, x4)).2 → XV v (gvl (rSrc rl) x4 (wgt s sh (rWay rl)) tot ((List.range j).filter (memb C)) (s, x4)).1 n q → BD k n u s v (gvl (rSrc rl) x4 (wgt s sh (rWay rl)) tot ((List.range j).filter (memb C)) (s, x4)).1 → Flg v n (memb C) → Nm (gI v 167 44) t → Nm (gI v 174 t) (how - 32) → (gI v 178 I = 0 ↔ rSrc rl = 9) → (∀ h, j ≤ h → h < n → gI v 213 h = if memb C h = true then gvp x4 (wgt s sh (rWay rl)) tot (room s h) h else 0) →
      Ok (B_X12_givesBy_303 f m x1 x2 x5 x8 x9 v) (fun r => XV r (if 0 < (gvl (rSrc rl) x4 (wgt s sh (rWay rl)) tot C (s, x4)).2.toInt ∧ (gvl (rSrc rl) x4 (wgt s sh (rWay rl)) tot C (s, x4)).2.toInt < (C.length : Int) then (ons (rSrc rl) (ordr (gvl (rSrc rl) x4 (wgt s sh (rWay rl)) tot C (s, x4)).1 n q how C) (gvl (rSrc rl) x4 (wgt s sh (rWay rl)) tot C (s, x4))).1 else (gvl (rSrc rl) x4 (wgt s sh (rWay rl)) tot C (s, x4)).1) n q ∧ BD k n u s r (if 0 < (gvl (rSrc rl) x4 (wgt s sh (rWay rl)) tot C (s, x4)).2.toInt ∧ (gvl (rSrc rl) x4 (wgt s sh (rWay rl)) tot C (s, x4)).2.toInt < (C.length : Int) then (ons (rSrc rl) (ordr (gvl (rSrc rl) x4 (wgt s sh (rWay rl)) tot C (s, x4)).1 n q how C) (gvl (rSrc rl) x4 (wgt s sh (rWay rl)) tot C (s, x4))).1 else (gvl (rSrc rl) x4 (wgt s sh (rWay rl)) tot C (s, x4)).1)) := by
    intro d
    induction d with
    | zero =>
      intro j x8 x9 v m hj hx9 hm h8 hXv hBv hFv htv hhv hsv hgv
      obtain ⟨m, rfl⟩ : ∃ m', m = m' + 1 := ⟨m - 1, by omega⟩
      have hjn : j = n := by omega
      subst hjn
      rw [hmb] at hXv hBv
      have e0 : (0 : Int32).toInt = 0 := rfl
      have hx5i : x5.toInt = (C.length : Int) := hx5
      rw [B_X12_givesBy_303, ← h8]
      refine Ok.t ((hXv.2.2.2.2.2.2.1.le hx9).mpr (Nat.le_refl _)) (Ok.ite (fun hle => Ok.some ?_) (fun hgt => Ok.ite (fun hge => Ok.some ?_) (fun hlt => ?_)))
      · have := i_le.mp hle
        rw [if_neg (fun e => by have := e.1; omega)]; exact ⟨hXv, hBv⟩
      · have := i_le.mp hge
        rw [if_neg (fun e => by have := e.2; omega)]; exact ⟨hXv, hBv⟩
      · have h1 : ¬ x8.toInt ≤ 0 := fun e => hgt (i_le.mpr (by rw [e0]; exact e))
        have h2 : ¬ x5.toInt ≤ x8.toInt := fun e => hlt (i_le.mpr e)
        rw [if_pos ⟨by omega, by omega⟩, F_X12_oneByOne]
        have hn0 : 0 < j := by omega
        have hmem : ∀ x, x ∈ ordr (gvl (rSrc rl) x4 (wgt s sh (rWay rl)) tot C (s, x4)).1 j q how C → x ∈ C := fun x hx => ordr_mem.mp hx
        have hlo : (ordr (gvl (rSrc rl) x4 (wgt s sh (rWay rl)) tot C (s, x4)).1 j q how C).length ≤ 24 := by
          unfold ordr
          split
          · rw [isrt_len]; show C.length + 0 ≤ 24; omega
          · split
            · rw [List.length_append]
              have a1 := List.length_filter_le (fun h => decide (q % j ≤ h)) C
              have a2 := List.length_filter_le (fun h => decide (h < q % j)) C
              omega
            · omega
        refine Ok.bind (r_oneByOne (f := f) (s1 := (gvl (rSrc rl) x4 (wgt s sh (rWay rl)) tot C (s, x4)).1) (src := rSrc rl) hf ht8 hhow hn0 hk hI hx1 hx2 24 _ v _ (memb C) x8 f hlo (by omega) hXv hFv htv hhv hsv (ordr_prec hhow hC) (fun x hx => ⟨hC.2 x (hmem x hx), decide_eq_true (hmem x hx), rfl⟩) (fun z hz hcz hzB => absurd (ordr_mem.mpr (of_decide_eq_true hcz)) hzB)) (fun r hr => Ok.some ?_)
        rw [show ((gvl (rSrc rl) x4 (wgt s sh (rWay rl)) tot C (s, x4)).1, x8) = gvl (rSrc rl) x4 (wgt s sh (rWay rl)) tot C (s, x4) by rw [h8]] at hr
        exact ⟨hr.1, hBv.trans hr.2⟩
    | succ d ih =>
      intro j x8 x9 v m hj hx9 hm h8 hXv hBv hFv htv hhv hsv hgv
      obtain ⟨m, rfl⟩ : ∃ m', m = m' + 1 := ⟨m - 1, by omega⟩
      have hjn : j < n := by omega
      rw [B_X12_givesBy_303]
      refine Ok.f (fun e => by have := (hXv.2.2.2.2.2.2.1.le hx9).mp e; omega) (Ok.ck (hx9.ix (by omega)) ?_)
      rw [hx9.nat, hgv j (Nat.le_refl _) hjn]
      obtain ⟨w, ew, w1, w2⟩ := r_hands (f := f) (x4 := if memb C j = true then gvp x4 (wgt s sh (rWay rl)) tot (room s j) j else 0) hXv hjn hk hI hx1 hx2 hx9 hsv
      have hfw := fr_F_X12_hands ew
      have est : hnd (gvl (rSrc rl) x4 (wgt s sh (rWay rl)) tot ((List.range j).filter (memb C)) (s, x4)).1 (rSrc rl) j (if memb C j = true then gvp x4 (wgt s sh (rWay rl)) tot (room s j) j else 0) = (gvl (rSrc rl) x4 (wgt s sh (rWay rl)) tot ((List.range (j + 1)).filter (memb C)) (s, x4)).1 := by
        rw [List.range_succ, List.filter_append]
        by_cases hm' : memb C j = true
        · rw [if_pos hm', one_t hm', gvl_app, gvl_room _ _ not_mem_rng]
        · rw [if_neg hm', one_f (by simpa using hm'), List.append_nil, hnd_zero]
      rw [est] at w1 w2
      refine Ok.bindE ew ?_
      exact ih (j + 1) x8 _ w m (by omega) (hx9.succ (by omega)) (by omega) h8 w1 (hBv.trans w2) (fun h hh => by rw [hfw.1 212 h (by simp [nin, wI_X12_hands])]; exact hFv h hh) (by rw [hfw.1 167 44 (by simp [nin, wI_X12_hands])]; exact htv) (by rw [hfw.1 174 t (by simp [nin, wI_X12_hands])]; exact hhv) (by rw [hfw.1 178 I (by simp [nin, wI_X12_hands])]; exact hsv) (fun h h1 h2 => by rw [hfw.1 213 h (by simp [nin, wI_X12_hands])]; exact hgv h (by omega) h2)
  -- what else stays
  have keep : ∀ (v : MT) (a j : Nat) (y : Int32), (a = 213 ∨ a = 214) → BD k n u s v s → Flg v n (memb C) → Nm (gI v 167 44) t → Nm (gI v 174 t) (how - 32) → (gI v 178 I = 0 ↔ rSrc rl = 9) → BD k n u s (sI v a j y) s ∧ Flg (sI v a j y) n (memb C) ∧ Nm (gI (sI v a j y) 167 44) t ∧ Nm (gI (sI v a j y) 174 t) (how - 32) ∧ (gI (sI v a j y) 178 I = 0 ↔ rSrc rl = 9) := fun v a j y ha h1 h2 h3 h4 h5 =>
    ⟨h1.fr (fun j => g_ne _ _ _ _ (by omega)), fun h hh => by rw [g_ne _ _ _ _ (by omega)]; exact h2 h hh, by rw [g_ne _ _ _ _ (by omega)]; exact h3, by rw [g_ne _ _ _ _ (by omega)]; exact h4, by rw [g_ne _ _ _ _ (by omega)]; exact h5⟩
  -- what each gets
  have gets : ∀ (d j : Nat) (x8 x9 : Int32) (v : MT) (m : Nat), j + d = n → Nm x9 j → d < m → XV v s n q → BD k n u s v s → Flg v n (memb C) → Nm (gI v 167 44) t → Nm (gI v 174 t) (how - 32) → (gI v 178 I = 0 ↔ rSrc rl = 9) → (∀ h, h < n → memb C h = true → gI v 214 h = wgt s sh (rWay rl) h) → x8 = (gvl (rSrc rl) x4 (wgt s sh (rWay rl)) tot ((List.range j).filter (memb C)) (s, x4)).2 → (∀ h, h < j → gI v 213 h = if memb C h = true then gvp x4 (wgt s sh (rWay rl)) tot (room s h) h else 0) →
      Ok (B_X12_givesBy_188 f m x1 x2 x4 x5 tot x8 x9 v) (fun r => XV r (if 0 < (gvl (rSrc rl) x4 (wgt s sh (rWay rl)) tot C (s, x4)).2.toInt ∧ (gvl (rSrc rl) x4 (wgt s sh (rWay rl)) tot C (s, x4)).2.toInt < (C.length : Int) then (ons (rSrc rl) (ordr (gvl (rSrc rl) x4 (wgt s sh (rWay rl)) tot C (s, x4)).1 n q how C) (gvl (rSrc rl) x4 (wgt s sh (rWay rl)) tot C (s, x4))).1 else (gvl (rSrc rl) x4 (wgt s sh (rWay rl)) tot C (s, x4)).1) n q ∧ BD k n u s r (if 0 < (gvl (rSrc rl) x4 (wgt s sh (rWay rl)) tot C (s, x4)).2.toInt ∧ (gvl (rSrc rl) x4 (wgt s sh (rWay rl)) tot C (s, x4)).2.toInt < (C.length : Int) then (ons (rSrc rl) (ordr (gvl (rSrc rl) x4 (wgt s sh (rWay rl)) tot C (s, x4)).1 n q how C) (gvl (rSrc rl) x4 (wgt s sh (rWay rl)) tot C (s, x4))).1 else (gvl (rSrc rl) x4 (wgt s sh (rWay rl)) tot C (s, x4)).1)) := by
    intro d
    induction d with
    | zero =>
      intro j x8 x9 v m hj hx9 hm hXv hBv hFv htv hhv hsv hwv h8 hgv
      obtain ⟨m, rfl⟩ : ∃ m', m = m' + 1 := ⟨m - 1, by omega⟩
      have hjn : j = n := by omega
      subst hjn
      rw [hmb] at h8
      rw [B_X12_givesBy_188]
      refine Ok.t ((hXv.2.2.2.2.2.2.1.le hx9).mpr (Nat.le_refl _)) ?_
      exact hands j 0 x8 0 v f (by omega) nm0 (by omega) h8 hXv hBv hFv htv hhv hsv (fun h _ hh => hgv h hh)
    | succ d ih =>
      intro j x8 x9 v m hj hx9 hm hXv hBv hFv htv hhv hsv hwv h8 hgv
      obtain ⟨m, rfl⟩ : ∃ m', m = m' + 1 := ⟨m - 1, by omega⟩
      have hjn : j < n := by omega
      have hrm := QI_room hQ hjn
      -- a share is laid
      have lay : ∀ y : Int32, y = (if memb C j = true then gvp x4 (wgt s sh (rWay rl)) tot (room s j) j else 0) → Ok (B_X12_givesBy_281 f (fun x1' x2' x4' x5' x6' x8' x9' u' => B_X12_givesBy_188 f m x1' x2' x4' x5' x6' x8' x9' u') x1 x2 x4 x5 tot x8 x9 y x9 v) (fun r => XV r (if 0 < (gvl (rSrc rl) x4 (wgt s sh (rWay rl)) tot C (s, x4)).2.toInt ∧ (gvl (rSrc rl) x4 (wgt s sh (rWay rl)) tot C (s, x4)).2.toInt < (C.length : Int) then (ons (rSrc rl) (ordr (gvl (rSrc rl) x4 (wgt s sh (rWay rl)) tot C (s, x4)).1 n q how C) (gvl (rSrc rl) x4 (wgt s sh (rWay rl)) tot C (s, x4))).1 else (gvl (rSrc rl) x4 (wgt s sh (rWay rl)) tot C (s, x4)).1) n q ∧ BD k n u s r (if 0 < (gvl (rSrc rl) x4 (wgt s sh (rWay rl)) tot C (s, x4)).2.toInt ∧ (gvl (rSrc rl) x4 (wgt s sh (rWay rl)) tot C (s, x4)).2.toInt < (C.length : Int) then (ons (rSrc rl) (ordr (gvl (rSrc rl) x4 (wgt s sh (rWay rl)) tot C (s, x4)).1 n q how C) (gvl (rSrc rl) x4 (wgt s sh (rWay rl)) tot C (s, x4))).1 else (gvl (rSrc rl) x4 (wgt s sh (rWay rl)) tot C (s, x4)).1)) := by
        intro y hy
        rw [B_X12_givesBy_281]
        refine Ok.ck (hx9.ix (by omega)) ?_
        rw [hx9.nat]
        refine Ok.ck (hx9.ix (by omega)) ?_
        rw [g_same]
        obtain ⟨k1, k2, k3, k4, k5⟩ := keep v 213 j y (Or.inl rfl) hBv hFv htv hhv hsv
        refine ih (j + 1) _ _ _ m (by omega) (hx9.succ (by omega)) (by omega) (hXv.cell (Or.inr (Or.inl rfl))) k1 k2 k3 k4 k5 (fun h hh hc => by rw [g_ne _ _ _ _ (by decide)]; exact hwv h hh hc) ?_ (fun h hh => ?_)
        · rw [List.range_succ, List.filter_append, h8, hy]
          by_cases hm' : memb C j = true
          · rw [if_pos hm', one_t hm', gvl_app, gvl_room _ _ not_mem_rng]
          · rw [if_neg hm', one_f (by simpa using hm'), List.append_nil, Int32.sub_zero]
        · rw [g_at]
          by_cases e : h = j
          · subst e; rw [if_pos rfl, hy]
          · rw [if_neg e]; exact hgv h (by omega)
      have cut : ∀ z : Int64, (if (room s j).toInt64 < z then (room s j).toInt64 else z).toInt32 = (if memb C j = true then gvp x4 (wgt s sh (rWay rl)) tot (room s j) j else 0) → Ok (B_X12_givesBy_226 f (fun x1' x2' x4' x5' x6' x8' x9' u' => B_X12_givesBy_188 f m x1' x2' x4' x5' x6' x8' x9' u') x1 x2 x4 x5 tot x8 x9 z v) (fun r => XV r (if 0 < (gvl (rSrc rl) x4 (wgt s sh (rWay rl)) tot C (s, x4)).2.toInt ∧ (gvl (rSrc rl) x4 (wgt s sh (rWay rl)) tot C (s, x4)).2.toInt < (C.length : Int) then (ons (rSrc rl) (ordr (gvl (rSrc rl) x4 (wgt s sh (rWay rl)) tot C (s, x4)).1 n q how C) (gvl (rSrc rl) x4 (wgt s sh (rWay rl)) tot C (s, x4))).1 else (gvl (rSrc rl) x4 (wgt s sh (rWay rl)) tot C (s, x4)).1) n q ∧ BD k n u s r (if 0 < (gvl (rSrc rl) x4 (wgt s sh (rWay rl)) tot C (s, x4)).2.toInt ∧ (gvl (rSrc rl) x4 (wgt s sh (rWay rl)) tot C (s, x4)).2.toInt < (C.length : Int) then (ons (rSrc rl) (ordr (gvl (rSrc rl) x4 (wgt s sh (rWay rl)) tot C (s, x4)).1 n q how C) (gvl (rSrc rl) x4 (wgt s sh (rWay rl)) tot C (s, x4))).1 else (gvl (rSrc rl) x4 (wgt s sh (rWay rl)) tot C (s, x4)).1)) := by
        intro z hz
        rw [B_X12_givesBy_226]
        refine Ok.ck (hx9.ix (by omega)) ?_
        rw [hx9.nat, (hXv.2.2.2.1 j hjn).1, (hXv.2.2.2.1 j hjn).2.1]
        refine Ok.bindE r_least ?_
        dsimp only
        refine Ok.ite (fun hle => lay _ ?_) (fun hgt => ?_)
        · have hle := lg_le.mp hle
          rw [← hz, if_neg (fun e => by have := Int64.lt_iff_toInt_lt.mp e; omega)]
        · have hgt' : ¬ z.toInt ≤ (room s j).toInt64.toInt := fun e => hgt (lg_le.mpr e)
          rw [(hXv.2.2.2.1 j hjn).1, (hXv.2.2.2.1 j hjn).2.1]
          refine Ok.bindE r_least (lay _ ?_)
          rw [← hz, if_pos (Int64.lt_iff_toInt_lt.mpr (by omega)), Int32.toInt32_toInt64]
      rw [B_X12_givesBy_188]
      refine Ok.f (fun e => by have := (hXv.2.2.2.2.2.2.1.le hx9).mp e; omega) (Ok.ck (hx9.ix (by omega)) ?_)
      rw [hx9.nat, hFv j hjn]
      by_cases hm' : memb C j = true
      · rw [b2i_t hm']
        refine Ok.f ni1 (Ok.ck (htot0 j hm') ?_)
        rw [hwv j hjn hm']
        exact cut _ (by rw [if_pos hm']; rfl)
      · rw [b2i_f hm']
        refine Ok.t rfl (cut 0 ?_)
        rw [if_neg hm', if_neg (fun e => by have := Int64.lt_iff_toInt_lt.mp e; rw [Int32.toInt_toInt64, show (0 : Int64).toInt = 0 from rfl] at this; omega)]
        rfl
  -- the weights
  have weights : ∀ (d j : Nat) (x6 : Int64) (x8 : Int32) (v : MT) (m : Nat), j + d = n → Nm x8 j → d < m → XV v s n q → BD k n u s v s → Flg v n (memb C) → Nm (gI v 167 44) t → Nm (gI v 174 t) (how - 32) → (gI v 178 I = 0 ↔ rSrc rl = 9) → Nm (gI v 181 I) (rWay rl - 27) → (∀ h, h < n → gI v 189 h = sh h) → x6 = wsum (wgt s sh (rWay rl)) ((List.range j).filter (memb C)) 0 → (∀ h, h < j → memb C h = true → gI v 214 h = wgt s sh (rWay rl) h) →
      Ok (B_X12_givesBy_82 f m x1 x2 x4 x5 x6 x8 v) (fun r => XV r (if 0 < (gvl (rSrc rl) x4 (wgt s sh (rWay rl)) tot C (s, x4)).2.toInt ∧ (gvl (rSrc rl) x4 (wgt s sh (rWay rl)) tot C (s, x4)).2.toInt < (C.length : Int) then (ons (rSrc rl) (ordr (gvl (rSrc rl) x4 (wgt s sh (rWay rl)) tot C (s, x4)).1 n q how C) (gvl (rSrc rl) x4 (wgt s sh (rWay rl)) tot C (s, x4))).1 else (gvl (rSrc rl) x4 (wgt s sh (rWay rl)) tot C (s, x4)).1) n q ∧ BD k n u s r (if 0 < (gvl (rSrc rl) x4 (wgt s sh (rWay rl)) tot C (s, x4)).2.toInt ∧ (gvl (rSrc rl) x4 (wgt s sh (rWay rl)) tot C (s, x4)).2.toInt < (C.length : Int) then (ons (rSrc rl) (ordr (gvl (rSrc rl) x4 (wgt s sh (rWay rl)) tot C (s, x4)).1 n q how C) (gvl (rSrc rl) x4 (wgt s sh (rWay rl)) tot C (s, x4))).1 else (gvl (rSrc rl) x4 (wgt s sh (rWay rl)) tot C (s, x4)).1)) := by
    intro d
    induction d with
    | zero =>
      intro j x6 x8 v m hj hx8 hm hXv hBv hFv htv hhv hsv hyv hshv h6 hwv
      obtain ⟨m, rfl⟩ : ∃ m', m = m' + 1 := ⟨m - 1, by omega⟩
      have hjn : j = n := by omega
      subst hjn
      rw [hmb, htt] at h6
      subst h6
      rw [B_X12_givesBy_82]
      refine Ok.t ((hXv.2.2.2.2.2.2.1.le hx8).mpr (Nat.le_refl _)) ?_
      exact gets j 0 x4 0 v f (by omega) nm0 (by omega) hXv hBv hFv htv hhv hsv hwv rfl (fun h hh => absurd hh (by omega))
    | succ d ih =>
      intro j x6 x8 v m hj hx8 hm hXv hBv hFv htv hhv hsv hyv hshv h6 hwv
      obtain ⟨m, rfl⟩ : ∃ m', m = m' + 1 := ⟨m - 1, by omega⟩
      have hjn : j < n := by omega
      have hyi : (gI v 181 I).toInt = ((rWay rl - 27 : Nat) : Int) := hyv
      have lay : ∀ y : Int32, y = (if memb C j = true then wgt s sh (rWay rl) j else 0) → Ok (B_X12_givesBy_161 f (fun x1' x2' x4' x5' x6' x8' u' => B_X12_givesBy_82 f m x1' x2' x4' x5' x6' x8' u') x1 x2 x4 x5 x6 x8 y x8 v) (fun r => XV r (if 0 < (gvl (rSrc rl) x4 (wgt s sh (rWay rl)) tot C (s, x4)).2.toInt ∧ (gvl (rSrc rl) x4 (wgt s sh (rWay rl)) tot C (s, x4)).2.toInt < (C.length : Int) then (ons (rSrc rl) (ordr (gvl (rSrc rl) x4 (wgt s sh (rWay rl)) tot C (s, x4)).1 n q how C) (gvl (rSrc rl) x4 (wgt s sh (rWay rl)) tot C (s, x4))).1 else (gvl (rSrc rl) x4 (wgt s sh (rWay rl)) tot C (s, x4)).1) n q ∧ BD k n u s r (if 0 < (gvl (rSrc rl) x4 (wgt s sh (rWay rl)) tot C (s, x4)).2.toInt ∧ (gvl (rSrc rl) x4 (wgt s sh (rWay rl)) tot C (s, x4)).2.toInt < (C.length : Int) then (ons (rSrc rl) (ordr (gvl (rSrc rl) x4 (wgt s sh (rWay rl)) tot C (s, x4)).1 n q how C) (gvl (rSrc rl) x4 (wgt s sh (rWay rl)) tot C (s, x4))).1 else (gvl (rSrc rl) x4 (wgt s sh (rWay rl)) tot C (s, x4)).1)) := by
        intro y hy
        rw [B_X12_givesBy_161]
        refine Ok.ck (hx8.ix (by omega)) ?_
        rw [hx8.nat]
        refine Ok.ck (hx8.ix (by omega)) ?_
        rw [g_same]
        obtain ⟨k1, k2, k3, k4, k5⟩ := keep v 214 j y (Or.inr rfl) hBv hFv htv hhv hsv
        refine ih (j + 1) _ _ _ m (by omega) (hx8.succ (by omega)) (by omega) (hXv.cell (Or.inr (Or.inr rfl))) k1 k2 k3 k4 k5 (by rw [g_ne _ _ _ _ (by decide)]; exact hyv) (fun h hh => by rw [g_ne _ _ _ _ (by decide)]; exact hshv h hh) ?_ (fun h hh hc => ?_)
        · rw [List.range_succ, List.filter_append, h6, hy]
          by_cases hm' : memb C j = true
          · rw [if_pos hm', one_t hm', wsum_app]
          · rw [if_neg hm', one_f (by simpa using hm'), List.append_nil, show (0 : Int32).toInt64 = 0 from rfl, Int64.add_zero]
        · rw [g_at]
          by_cases e : h = j
          · subst e; rw [if_pos rfl, hy, if_pos hc]
          · rw [if_neg e]; exact hwv h (by omega) hc
      rw [B_X12_givesBy_82]
      refine Ok.f (fun e => by have := (hXv.2.2.2.2.2.2.1.le hx8).mp e; omega) (Ok.ck (hx8.ix (by omega)) ?_)
      rw [hx8.nat, hFv j hjn]
      by_cases hm' : memb C j = true
      · rw [b2i_t hm']
        refine Ok.f ni1 (Ok.ck (hx2.ix hI) ?_)
        rw [hx2.nat]
        have e0 : (0 : Int32).toInt = 0 := rfl
        have e1 : (1 : Int32).toInt = 1 := rfl
        by_cases h27 : rWay rl = 27
        · refine Ok.t (i_eq.mpr (by rw [hyi, e0, h27]; rfl)) (lay 1 ?_)
          rw [if_pos hm']; unfold wgt; rw [if_pos h27]
        · refine Ok.f (fun e => by have := i_eq.mp e; rw [hyi, e0] at this; omega) ?_
          by_cases h28 : rWay rl = 28
          · refine Ok.t (i_eq.mpr (by rw [hyi, e1, h28]; rfl)) ?_
            rw [(hXv.2.2.2.1 j hjn).1, (hXv.2.2.2.1 j hjn).2.1]
            refine Ok.bindE r_least (lay _ ?_)
            rw [if_pos hm']; unfold wgt; rw [if_neg h27, if_pos h28]
          · refine Ok.f (fun e => by have := i_eq.mp e; rw [hyi, e1] at this; omega) (lay _ ?_)
            rw [hshv j hjn, if_pos hm']; unfold wgt; rw [if_neg h27, if_neg h28]
      · rw [b2i_f hm']
        refine Ok.t rfl (lay 0 ?_)
        rw [if_neg hm']
  exact weights n 0 0 0 u f (by omega) nm0 (by omega) hX BD.rfl hfl ht hh hs hway hsh rfl (fun h hh => absurd hh (by omega))
end
