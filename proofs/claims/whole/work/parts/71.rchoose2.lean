/-! ===== the reference chooses, whole ===== -/
def memb (C : List Nat) (h : Nat) : Bool := decide (h ∈ C)
theorem rng_memb {n : Nat} {p : Nat → Bool} : (List.range n).filter (memb ((List.range n).filter p)) = (List.range n).filter p := by
  refine List.filter_congr (fun h hh => ?_)
  unfold memb
  cases e : p h with
  | true => exact decide_eq_true (List.mem_filter.mpr ⟨hh, e⟩)
  | false => exact decide_eq_false (fun h' => by have := (List.mem_filter.mp h').2; rw [e] at this; exact absurd this (by decide))
theorem b2i_memb {n h : Nat} {p : Nat → Bool} (hh : h < n) : b2i (memb ((List.range n).filter p) h = true) = b2i (p h = true) := by
  unfold memb
  cases e : p h with
  | true => rw [b2i_t rfl, b2i_t (decide_eq_true (List.mem_filter.mpr ⟨List.mem_range.mpr hh, e⟩))]
  | false =>
    have hno : ¬ h ∈ (List.range n).filter p := fun h' => by have := (List.mem_filter.mp h').2; rw [e] at this; exact absurd this (by decide)
    rw [b2i_f (p := decide (h ∈ (List.range n).filter p) = true) (fun e => hno (of_decide_eq_true e)), b2i_f (by decide)]
theorem chl_rng {s : QS} {n who : Nat} {num : Int32} : ∃ p : Nat → Bool, chl s n who num = (List.range n).filter p := by
  unfold chl ch0
  split
  · exact ⟨_, by rw [List.filter_filter]⟩
  · exact ⟨_, rfl⟩
theorem chl_memb {s : QS} {n who : Nat} {num : Int32} : (List.range n).filter (memb (chl s n who num)) = chl s n who num := by
  obtain ⟨p, e⟩ := chl_rng (s := s) (n := n) (who := who) (num := num)
  rw [e]; exact rng_memb
/-- one less -/
theorem flt_drop {n M : Nat} {c : Nat → Bool} (hM : M < n) (hc : c M = true) : ((List.range n).filter (fun h => c h && decide (h ≠ M))).length + 1 = ((List.range n).filter c).length := by
  have key : ∀ n, ((List.range n).filter c).length = ((List.range n).filter (fun h => c h && decide (h ≠ M))).length + (if M < n then 1 else 0) := by
    intro n
    induction n with
    | zero => rfl
    | succ n ih =>
      rw [List.range_succ, List.filter_append, List.filter_append, List.length_append, List.length_append, ih]
      by_cases e : n = M
      · subst e
        rw [one_t hc, one_f (p := fun h => c h && decide (h ≠ n)) (by simp), if_neg (by omega), if_pos (by omega)]
        show _ + 0 + 1 = _ + 0 + 1; omega
      · have hne : (c n && decide (n ≠ M)) = c n := by rw [decide_eq_true e, Bool.and_true]
        have : ([n].filter (fun h => c h && decide (h ≠ M))).length = ([n].filter c).length := by
          cases h : c n with
          | true => rw [one_t h, one_t (p := fun h => c h && decide (h ≠ M)) (by rw [hne]; exact h)]
          | false => rw [one_f h, one_f (p := fun h => c h && decide (h ≠ M)) (by rw [hne]; exact h)]
        rw [this]
        by_cases e2 : M < n
        · rw [if_pos e2, if_pos (by omega)]; omega
        · rw [if_neg e2, if_neg (by omega)]; omega
  have := key n
  rw [if_pos hM] at this
  exact this.symm
section
variable {f : Nat} {s : QS} {n q : Nat}
/-- when all that are out come behind all that are in, those in are the first so many -/
theorem first_many {C D : List Nat} {m : Nat} (hD : D = C.filter (memb D)) (hlen : D.length = m) (hout : ∀ x ∈ C, x ∉ D → ∀ y ∈ D, hlt s y x = true) (hnd : D.Nodup) : D = C.filter (fun h => decide (ahd s C h < m)) := by
  have hsub : ∀ y ∈ D, y ∈ C := fun y hy => by rw [hD] at hy; exact (List.mem_filter.mp hy).1
  have step : ∀ x ∈ C, memb D x = decide (ahd s C x < m) := by
    intro x hx
    unfold memb
    by_cases hxD : x ∈ D
    · rw [decide_eq_true hxD]
      refine (decide_eq_true ?_).symm
      -- ahead of it are some of D only, and not itself
      have h1 : ahd s C x ≤ (D.filter (fun c => hlt s c x)).length := by
        have : C.filter (fun c => hlt s c x) = (C.filter (memb D)).filter (fun c => hlt s c x) := by
          rw [List.filter_filter]
          refine List.filter_congr (fun c hc => ?_)
          unfold memb
          by_cases hcD : c ∈ D
          · rw [decide_eq_true hcD, Bool.and_true]
          · have := hlt_asym (hout c hc hcD x hxD)
            rw [this]; rfl
        unfold ahd
        rw [this, ← hD]
        exact Nat.le_refl _
      have h2 : (D.filter (fun c => hlt s c x)).length < D.length := by
        refine List.length_filter_lt_length_iff_exists.mpr ⟨x, hxD, ?_⟩
        unfold hlt
        rw [decide_eq_false (show ¬ (qH s x).toInt < (qH s x).toInt by omega), decide_eq_false (show ¬ x < x by omega), Bool.and_false]
        simp
      omega
    · rw [decide_eq_false hxD]
      refine (decide_eq_false ?_).symm
      have h1 : D.length ≤ ahd s C x := by
        have h3 : (C.filter (memb D)).length ≤ (C.filter (fun c => hlt s c x)).length := by
          have : C.filter (memb D) = (C.filter (fun c => hlt s c x)).filter (memb D) := by
            rw [List.filter_filter]
            refine List.filter_congr (fun c hc => ?_)
            by_cases hcD : c ∈ D
            · rw [hout x hx hxD c hcD, Bool.and_true]
            · rw [show memb D c = false from decide_eq_false hcD]; rfl
          rw [this]; exact List.length_filter_le _ _
        rw [← hD] at h3; exact h3
      omega
  have : C.filter (memb D) = C.filter (fun h => decide (ahd s C h < m)) := List.filter_congr step
  rw [← this]; exact hD
theorem rng_nodup {n : Nat} {p : Nat → Bool} : ((List.range n).filter p).Nodup := List.Nodup.sublist List.filter_sublist List.nodup_range
/-- those that had most are taken out, one by one -/
theorem r_least_loop (hf : 1300 < f) {I : Nat} {num : Int32} (hI : I < 192) {x1 : Int32} (hx1 : Nm x1 I) (hnum : 1 ≤ num.toInt) {p0 : Nat → Bool} :
    ∀ (k : Nat) (u : MT) (c : Nat → Bool) (x2 : Int32) (m : Nat), XV u s n q → Flg u n c → gI u 179 I = 2 → gI u 180 I = num → (∀ h, c h = true → p0 h = true) → Nm x2 ((List.range n).filter c).length → ((List.range n).filter c).length ≤ k → k < m → num.toInt ≤ ((List.range n).filter c).length → (∀ x, x < n → p0 x = true → c x = false → ∀ y, y < n → c y = true → hlt s y x = true) →
      Ok (B_X12_chooses_74 f m x1 x2 u) (fun r => Nm r.1 ((List.range n).filter p0 |>.filter (fun h => decide ((ahd s ((List.range n).filter p0) h : Int) < num.toInt))).length ∧ Flg r.2 n (memb (((List.range n).filter p0).filter (fun h => decide ((ahd s ((List.range n).filter p0) h : Int) < num.toInt))))) := by
  intro k
  induction k with
  | zero => intro u c x2 m hX hc h2 hn hsub hx2 hk hm hle; omega
  | succ k ih =>
    intro u c x2 m hX hc h2 hn hsub hx2 hk hm hle hout
    obtain ⟨m, rfl⟩ : ∃ m', m = m' + 1 := ⟨m - 1, by omega⟩
    have h12 := hX.n12
    have hx2i : x2.toInt = (((List.range n).filter c).length : Int) := hx2
    rw [B_X12_chooses_74]
    refine Ok.ck (hx1.ix hI) ?_
    rw [hx1.nat, h2, hn]
    refine Ok.t rfl (Ok.ite (fun hle2 => Ok.some ?_) (fun hgt => ?_))
    · have hle2 := i_le.mp hle2
      have heq : (((List.range n).filter c).length : Int) = num.toInt := by omega
      have hDC : (List.range n).filter c = ((List.range n).filter p0).filter (memb ((List.range n).filter c)) := by
        rw [List.filter_filter]
        refine List.filter_congr (fun h hh => ?_)
        unfold memb
        cases e : c h with
        | true => rw [decide_eq_true (List.mem_filter.mpr ⟨hh, e⟩), hsub h e]; rfl
        | false => rw [decide_eq_false (fun h' => by have := (List.mem_filter.mp h').2; rw [e] at this; exact absurd this (by decide))]; rfl
      have hfm := first_many (s := s) (C := (List.range n).filter p0) (D := (List.range n).filter c) hDC rfl (fun x hx hxD y hy => by
        have h1 := List.mem_filter.mp hx
        have h3 := List.mem_filter.mp hy
        refine hout x (List.mem_range.mp h1.1) h1.2 ?_ y (List.mem_range.mp h3.1) h3.2
        cases e : c x with
        | true => exact absurd (List.mem_filter.mpr ⟨h1.1, e⟩) hxD
        | false => rfl) rng_nodup
      have hfe : ((List.range n).filter p0).filter (fun h => decide ((ahd s ((List.range n).filter p0) h : Int) < num.toInt)) = (List.range n).filter c := by
        rw [← heq]
        refine Eq.trans (List.filter_congr (fun h _ => ?_)) hfm.symm
        simp
      rw [hfe]
      exact ⟨hx2, fun h hh => by rw [hc h hh]; exact (b2i_memb hh).symm⟩
    · have hgt : num.toInt < x2.toInt := Int.not_le.mp (fun e => hgt (i_le.mpr e))
      have hex : ∃ y, y < n ∧ c y = true := by
        have hpos : 0 < ((List.range n).filter c).length := by omega
        obtain ⟨y, hy⟩ := List.exists_mem_of_length_pos hpos
        have := List.mem_filter.mp hy
        exact ⟨y, List.mem_range.mp this.1, this.2⟩
      refine r_most (f := f) hX hc (fun M hMn hcM hmax => ?_) hex n 0 (-1) 0 f (by omega) nm0 (by omega) (Or.inl ⟨rfl, fun y hy => absurd hy (by omega)⟩)
      have hdl := flt_drop (n := n) hMn hcM
      refine ih (sI u 212 M 0) (fun h => c h && decide (h ≠ M)) _ m (hX.flg _ _) (fun h hh => ?_) (by rw [g_ne _ _ _ _ (by decide)]; exact h2) (by rw [g_ne _ _ _ _ (by decide)]; exact hn) (fun h hh => hsub h (by simp at hh; exact hh.1)) ?_ (by omega) (by omega) (by omega) (fun x hx hpx hcx y hy hcy => ?_)
      · rw [g_at]
        by_cases e : h = M
        · subst e; rw [if_pos rfl, b2i_f (by simp)]
        · rw [if_neg e, hc h hh]
          cases e2 : c h with
          | true => rw [b2i_t rfl, b2i_t (p := (c h && decide (h ≠ M)) = true) (by rw [e2, decide_eq_true e]; rfl)]
          | false => rw [b2i_f (by decide), b2i_f (p := (c h && decide (h ≠ M)) = true) (by rw [e2]; simp)]
      · have : Nm x2 (((List.range n).filter (fun h => c h && decide (h ≠ M))).length + 1) := by rw [hdl]; exact hx2
        exact Nm.predn this
      · have hcy' : c y = true ∧ y ≠ M := by simpa using hcy
        by_cases e : x = M
        · subst e; exact hmax y hy hcy'.1 hcy'.2
        · have : c x = false := by
            cases e2 : c x with
            | true => rw [e2, decide_eq_true e] at hcx; exact absurd hcx (by decide)
            | false => rfl
          exact hout x hx hpx this y hy hcy'.1
theorem r_chooses {u : MT} {I who : Nat} {num x1 : Int32} (hf : 1300 < f) (hX : XV u s n q) (hI : I < 192) (hx1 : Nm x1 I) (hwho : Nm (gI u 179 I) (who - 24)) (hw : who = 24 ∨ who = 25 ∨ who = 26) (hnum : who ≠ 24 → gI u 180 I = num) (hn1 : who = 26 → 1 ≤ num.toInt) :
    Ok (F_X12_chooses f x1 u) (fun r => Nm r.1 (chl s n who num).length ∧ Flg r.2 n (memb (chl s n who num))) := by
  have h12 := hX.n12
  have loop : ∀ (d k : Nat) (x2 x3 : Int32) (v : MT) (m : Nat), k + d = n → Nm x3 k → d < m → XV v s n q → Nm (gI v 179 I) (who - 24) → (who ≠ 24 → gI v 180 I = num) → Nm x2 ((List.range k).filter (fun h => can s h && okW who num h)).length → (∀ h, h < k → gI v 212 h = b2i ((can s h && okW who num h) = true)) →
      Ok (B_X12_chooses_4 f m x1 x2 x3 v) (fun r => Nm r.1 (chl s n who num).length ∧ Flg r.2 n (memb (chl s n who num))) := by
    intro d
    induction d with
    | zero =>
      intro k x2 x3 v m hk hx3 hm hv h179 h180 hx2 hfl
      obtain ⟨m, rfl⟩ : ∃ m', m = m' + 1 := ⟨m - 1, by omega⟩
      have hkn : k = n := by omega
      subst hkn
      rw [B_X12_chooses_4]
      refine Ok.t ((hv.2.2.2.2.2.2.1.le hx3).mpr (Nat.le_refl _)) ?_
      have hflm : Flg v k (memb (ch0 s k who num)) := fun h hh => by rw [hfl h hh]; exact (b2i_memb (p := fun h => can s h && okW who num h) hh).symm
      obtain ⟨f', hf'⟩ : ∃ f', f = f' + 1 := ⟨f - 1, by omega⟩
      have stop : chl s k who num = ch0 s k who num → (¬ gI v 179 I = 2 ∨ x2 ≤ gI v 180 I) → Ok (B_X12_chooses_74 f f x1 x2 v) (fun r => Nm r.1 (chl s k who num).length ∧ Flg r.2 k (memb (chl s k who num))) := by
        intro e hc
        rw [e, show B_X12_chooses_74 f f x1 x2 v = B_X12_chooses_74 f (f' + 1) x1 x2 v by rw [← hf'], B_X12_chooses_74]
        refine Ok.ck (hx1.ix hI) ?_
        rw [hx1.nat]
        refine Ok.ite (fun h2 => Ok.t (hc.resolve_left (fun e => e h2)) (Ok.some ⟨hx2, hflm⟩)) (fun h2 => Ok.some ⟨hx2, hflm⟩)
      by_cases h26 : who = 26
      · have h2 : gI v 179 I = 2 := by rw [h26] at h179; exact h179.inj (show Nm (2 : Int32) 2 from rfl)
        have hn' := h180 (by omega)
        have hx2i : x2.toInt = ((ch0 s k who num).length : Int) := hx2
        by_cases hlt : num.toInt < ((ch0 s k who num).length : Int)
        · have ec : chl s k who num = (ch0 s k who num).filter (fun h => decide ((ahd s (ch0 s k who num) h : Int) < num.toInt)) := by unfold chl; rw [if_pos ⟨h26, hlt⟩]
          rw [ec]
          have hl12 : (ch0 s k who num).length ≤ k := ((Asc_range k).filter _).len
          exact r_least_loop hf hI hx1 (hn1 h26) (p0 := fun h => can s h && okW who num h) (ch0 s k who num).length v (fun h => can s h && okW who num h) x2 f hv (fun h hh => hfl h hh) h2 hn' (fun h hh => hh) hx2 (Nat.le_refl _) (by omega) (show num.toInt ≤ ((ch0 s k who num).length : Int) by omega) (fun x hx h1 h2 => by rw [h1] at h2; exact absurd h2 (by decide))
        · refine stop (by unfold chl; rw [if_neg (fun e => hlt e.2)]) (Or.inr (i_le.mpr (by rw [hn']; omega)))
      · refine stop (by unfold chl; rw [if_neg (fun e => h26 e.1)]) (Or.inl (fun e => ?_))
        have h179i : (gI v 179 I).toInt = ((who - 24 : Nat) : Int) := h179
        rw [e, show (2 : Int32).toInt = 2 from rfl] at h179i
        omega
    | succ d ih =>
      intro k x2 x3 v m hk hx3 hm hv h179 h180 hx2 hfl
      obtain ⟨m, rfl⟩ : ∃ m', m = m' + 1 := ⟨m - 1, by omega⟩
      have hkn : k < n := by omega
      have hl : ((List.range k).filter (fun h => can s h && okW who num h)).length ≤ k := ((Asc_range k).filter _).len
      rw [B_X12_chooses_4]
      refine Ok.f (fun e => by have := (hv.2.2.2.2.2.2.1.le hx3).mp e; omega) (Ok.bindE (r_can hv hkn hx3) ?_)
      dsimp only
      have set : ∀ (z : Int32) (b : Bool), (can s k && okW who num k) = b → vp_nar .boolean z = b2i (b = true) → Ok (B_X12_chooses_50 f (fun x1' x2' x3' u' => B_X12_chooses_4 f m x1' x2' x3' u') x1 x2 x3 z x3 v) (fun r => Nm r.1 (chl s n who num).length ∧ Flg r.2 n (memb (chl s n who num))) := by
        intro z b hb hz
        rw [B_X12_chooses_50]
        refine Ok.ck (hx3.ix (by omega)) ?_
        rw [hx3.nat, hz]
        dsimp only
        refine Ok.ck (hx3.ix (by omega)) ?_
        rw [g_same]
        have hflv : ∀ h, h < k + 1 → gI (sI v 212 k (b2i (b = true))) 212 h = b2i ((can s h && okW who num h) = true) := fun h hh => by
          rw [g_at]
          by_cases e : h = k
          · subst e; rw [if_pos rfl, hb]
          · rw [if_neg e]; exact hfl h (by omega)
        cases b with
        | true =>
          rw [b2i_t rfl]
          refine Ok.f ni1 ?_
          rw [B_X12_chooses_66]
          refine ih (k + 1) _ _ _ m (by omega) (hx3.succ (by omega)) (by omega) (hv.flg _ _) (by rw [g_ne _ _ _ _ (by decide)]; exact h179) (fun h => by rw [g_ne _ _ _ _ (by decide)]; exact h180 h) ?_ (by rw [b2i_t rfl] at hflv; exact hflv)
          rw [List.range_succ, List.filter_append, one_t (p := fun h => can s h && okW who num h) hb, List.length_append]
          exact hx2.succ (by omega)
        | false =>
          rw [b2i_f (by decide)]
          refine Ok.t rfl ?_
          rw [B_X12_chooses_66]
          refine ih (k + 1) _ _ _ m (by omega) (hx3.succ (by omega)) (by omega) (hv.flg _ _) (by rw [g_ne _ _ _ _ (by decide)]; exact h179) (fun h => by rw [g_ne _ _ _ _ (by decide)]; exact h180 h) ?_ (by rw [b2i_f (by decide)] at hflv; exact hflv)
          rw [List.range_succ, List.filter_append, one_f (p := fun h => can s h && okW who num h) hb, List.append_nil, Int32.add_zero]
          exact hx2
      have b0 : (can s k && okW who num k) = false → Ok (B_X12_chooses_49 f (fun x1' x2' x3' u' => B_X12_chooses_4 f m x1' x2' x3' u') x1 x2 x3 x3 v) (fun r => Nm r.1 (chl s n who num).length ∧ Flg r.2 n (memb (chl s n who num))) := fun hb => by
        rw [show B_X12_chooses_49 f (fun x1' x2' x3' u' => B_X12_chooses_4 f m x1' x2' x3' u') x1 x2 x3 x3 v = B_X12_chooses_50 f (fun x1' x2' x3' u' => B_X12_chooses_4 f m x1' x2' x3' u') x1 x2 x3 0 x3 v from rfl]
        exact set 0 false hb rfl
      have b1 : (can s k && okW who num k) = true → Ok (B_X12_chooses_45 f (fun x1' x2' x3' u' => B_X12_chooses_4 f m x1' x2' x3' u') x1 x2 x3 x3 v) (fun r => Nm r.1 (chl s n who num).length ∧ Flg r.2 n (memb (chl s n who num))) := fun hb => by
        rw [show B_X12_chooses_45 f (fun x1' x2' x3' u' => B_X12_chooses_4 f m x1' x2' x3' u') x1 x2 x3 x3 v = B_X12_chooses_50 f (fun x1' x2' x3' u' => B_X12_chooses_4 f m x1' x2' x3' u') x1 x2 x3 1 x3 v from rfl]
        exact set 1 true hb rfl
      have h179i : (gI v 179 I).toInt = ((who - 24 : Nat) : Int) := h179
      have e1 : (1 : Int32).toInt = 1 := rfl
      cases hcan : can s k with
      | false =>
        rw [b2i_f (by decide)]
        exact Ok.t rfl (b0 (by rw [hcan]; rfl))
      | true =>
        rw [b2i_t rfl]
        refine Ok.f ni1 (Ok.ck (hx1.ix hI) ?_)
        rw [hx1.nat]
        by_cases h25 : who = 25
        · refine Ok.t (i_eq.mpr (by rw [h179i, e1, h25]; rfl)) ?_
          rw [h180 (by omega)]
          refine Ok.ite (fun he => b1 ?_) (fun he => b0 ?_)
          · rw [hcan]; unfold okW
            rw [decide_eq_true (show num.toInt = (k : Int) by rw [he]; exact hx3)]; simp
          · rw [hcan]; unfold okW
            rw [decide_eq_false (fun e => he (Int32.toInt_inj.mp (e.trans (show x3.toInt = (k : Int) from hx3).symm))), h25]; rfl
        · refine Ok.f (fun e => by have := i_eq.mp e; rw [h179i, e1] at this; omega) (b1 ?_)
          rw [hcan]; unfold okW
          rw [show (who != 25) = true by simp [h25]]; rfl
  rw [F_X12_chooses]
  exact loop n 0 0 0 u f (by omega) nm0 (by omega) hX hwho hnum nm0 (fun h hh => absurd hh (by omega))
end
