/-! ===== days, known, count, house's refusal: both alike ===== -/
def Inv (A : AS) (c : Nat) (w : LT) (u : MT) : Prop := AOk A c ∧ LOk A w ∧ ICl A w u ∧ IRf A u
def aNow (A : AS) (N K : Int32) : AS := (A.1, A.2.1, A.2.2.1, N, K, A.2.2.2.2.2)
theorem AOk.mono {A : AS} {c : Nat} (h : AOk A c) : AOk A (c + 1) := by
  obtain ⟨a1, a2, a3, a4, a5, a6, a7, a8⟩ := h
  exact ⟨a1, a2, a3, a4, a5, a6, by omega, a8⟩
theorem VC.fr5 {V : VD} {u v : MT} (h : VC V u) (h1 : ∀ a j, 100 < a → a < 110 → gI v a j = gI u a j) (h2 : gI v 116 1 = gI u 116 1) (h3 : gI v 116 2 = gI u 116 2) : VC V v := by
  obtain ⟨a1, a2, a3, a4, a5, a6⟩ := h
  exact ⟨by rw [h1 _ _ (by decide) (by decide)]; exact a1, by rw [h1 _ _ (by decide) (by decide)]; exact a2, fun j hj => by rw [h1 _ _ (by decide) (by decide), h1 _ _ (by decide) (by decide), h1 _ _ (by decide) (by decide), h1 _ _ (by decide) (by decide), h1 _ _ (by decide) (by decide)]; exact a3 j hj, fun j hj => by rw [h1 _ _ (by decide) (by decide), h1 _ _ (by decide) (by decide)]; exact a4 j hj, by rw [h2]; exact a5, by rw [h3]; exact a6⟩
theorem pOk.n100 {p a : Nat} (h : pOk p) (h1 : p ≤ a) : a ≠ 100 := by
  rcases h with h | h <;> omega
theorem ICl.now {A : AS} {c : Nat} {w : LT} {u v : MT} {N K : Int32} (h : ICl A w u) (hA : AOk A c) (hL : LOk A w) (hI : ∀ a j, a ≠ 100 → gI v a j = gI u a j) (hK : ∀ a j, gK v a j = gK u a j) (hN : gI v 100 11 = N) (hKK : gI v 100 12 = K) : ICl (aNow A N K) w v := by
  obtain ⟨a1, a2, a3, a4, a5, a6, a7, a8, a9, a10, a11⟩ := h
  have nt : ∀ t, t < xtT (aY A) → ∀ a, lt_p w 139 t ≤ a → a ≠ 100 := fun t ht a h1 => by
    have hy := hA.2.2.2.1
    have e1 : xtT (aY A) = 1 := by omega
    have e2 : t = 0 := by omega
    subst e2
    exact (hL.2.2.2.1 e1).1.n100 h1
  refine ⟨a1.fr5 (fun a j h _ => hI _ _ (by omega)) (hI _ _ (by decide)) (hI _ _ (by decide)), a2.fr3 hA.2.1 (hI _ _ (by decide)) (fun t ht a j h1 h2 => ⟨hI _ _ ((hL.2.1 t ht).1.n100 h1), hK _ _⟩), a3.fr3 hA.2.2.1 (hI _ _ (by decide)) (fun t ht a j h1 h2 => ⟨hI _ _ (nt t ht a h1), hK _ _⟩), hN, hKK, ⟨a6.1, by rw [hI _ _ (by decide)]; exact a6.2.1, fun k hk => by rw [hI _ _ (by decide)]; exact a6.2.2 k hk⟩, by rw [hI _ _ (by decide)]; exact a7, fun d hd => ⟨fun h hh => by rw [hI _ _ (by decide)]; exact (a8 d hd).1 h hh, by rw [hI _ _ (by decide)]; exact (a8 d hd).2.1, by rw [hI _ _ (by decide)]; exact (a8 d hd).2.2⟩, fun j h1 h2 => by rw [hI _ _ (by decide)]; exact a9 j h1 h2, a10.fr (fun a j h1 h2 => hI _ _ (by omega)), fun hy => (a11 hy).fr (fun a j h1 h2 => hI _ _ (by have := (hL.2.2.2.1 hy).2.2.2.2; omega))⟩
theorem IRf.now {A : AS} {u v : MT} {N K : Int32} (h : IRf A u) (hI : ∀ a j, (a ≠ 167 ∨ (j ≠ 0 ∧ j ≠ 40 ∧ j ≠ 41)) → gI v a j = gI u a j) (hL : ∀ j, gL v 172 j = gL u 172 j) (hN : gI v 167 40 = N) (hK : gI v 167 41 = K) : IRf (aNow A N K) v := by
  obtain ⟨a1, a2, a3, a4, a5, a6, a7, a8, a9, a10, a11⟩ := h
  have s : Sfr u v := ⟨fun a j h1 h2 => hI _ _ (by omega), hI _ _ (by omega), hI _ _ (by omega), hI _ _ (by omega), hI _ _ (by omega), hI _ _ (by omega)⟩
  exact ⟨a1.fr s, a2.fr s, a3.fr s, a4.fr s, by rw [hI _ _ (by omega)]; exact a5, hN, hK, ⟨a8.1, by rw [hI _ _ (by omega)]; exact a8.2.1, fun k hk => by rw [hI _ _ (by omega)]; exact a8.2.2 k hk⟩, fun k hk => by rw [hL]; exact a9 k hk, by rw [hI _ _ (by omega)]; exact a10, fun j hj => by rw [hI _ _ (by omega)]; exact a11 j hj⟩
/-- the reference forgets that it threw -/
theorem IRf.thr {A : AS} {u : MT} {x : Int32} (h : IRf A u) : IRf A (sI u 167 0 x) := by
  have := h.now (v := sI u 167 0 x) (N := aN A) (K := aK A) (fun a j e => ?_) (fun j => rfl) (by rw [g_nk _ _ _ (by decide)]; exact h.2.2.2.2.2.1) (by rw [g_nk _ _ _ (by decide)]; exact h.2.2.2.2.2.2.1)
  · exact this
  · by_cases c : a = 167
    · subst c; exact g_nk _ _ _ (by omega)
    · exact g_ne _ _ _ _ c
theorem FrR.put {u : MT} {a j : Nat} {x : Int32} (h : 167 ≤ a ∧ a ≤ 215) : FrR u (sI u a j x) := ⟨fun b k hb => g_ne _ _ _ _ (by omega), fun _ _ => rfl, fun _ => rfl⟩
theorem FrR.tr {u v w : MT} (h : FrR u v) (h' : FrR v w) : FrR u w := ⟨fun a j e => (h'.1 a j e).trans (h.1 a j e), fun a j => (h'.2.1 a j).trans (h.2.1 a j), fun j => (h'.2.2 j).trans (h.2.2 j)⟩
theorem FrC.put {u : MT} {a j : Nat} {x : Int32} (h : a < 167 ∨ 215 < a) : FrC u (sI u a j x) := ⟨fun b k h1 h2 => g_ne _ _ _ _ (by omega), fun _ => rfl⟩
theorem FrC.tr {u v w : MT} (h : FrC u v) (h' : FrC v w) : FrC u w := ⟨fun a j e1 e2 => (h'.1 a j e1 e2).trans (h.1 a j e1 e2), fun j => (h'.2 j).trans (h.2 j)⟩
/-- nothing happened but that the reference forgot -/
theorem Inv.thr {A : AS} {c : Nat} {w : LT} {u : MT} {x : Int32} (h : Inv A c w u) : Inv A (c + 1) w (sI u 167 0 x) := ⟨h.1.mono, h.2.1, h.2.2.1.fr h.1 h.2.1 (FrR.put (by decide)), h.2.2.2.thr⟩
section
variable {f : Nat}
theorem P_days {A : AS} {c : Nat} {w : LT} {u : MT} {x : Int32} (h : Inv A c w u) (hc : c ≤ 1000) : ∃ a u1 u2 A', F_X11_days f x u = some (a, u1) ∧ F_X12_days f x u1 = some (a, u2) ∧ Inv A' (c + 1) w u2 := by
  obtain ⟨hA, hL, hC, hR⟩ := h
  have z0 : (0 : Int32).toInt = 0 := rfl
  have z1 : (100 : Int32).toInt = 100 := rfl
  by_cases g : 0 ≤ x.toInt ∧ x.toInt ≤ 100
  · obtain ⟨b1, b2, b3, b4, b5, b6, b7, b8, b9, b10⟩ := hA
    have eN : gI u 100 11 = aN A := hC.2.2.2.1
    have eR : gI u 167 40 = aN A := hR.2.2.2.2.2.1
    have ea : (aN A + x).toInt = (aN A).toInt + x.toInt := i_add (by omega) (by omega)
    refine ⟨aN A + x, sI u 100 11 (aN A + x), sI (sI (sI u 100 11 (aN A + x)) 167 0 0) 167 40 (aN A + x), aNow A (aN A + x) (aK A), ?_, ?_, ⟨b1, b2, b3, b4, b5, by show 0 ≤ (aN A + x).toInt; omega, by show (aN A + x).toInt ≤ _; omega, b8, b9, b10⟩, hL, ?_, ?_⟩
    · rw [F_X11_days, c_isIn, b2i_t (by rw [z0, z1]; exact g)]
      show some (gI (sI u 100 11 (gI u 100 11 + x)) 100 11, sI u 100 11 (gI u 100 11 + x)) = _
      rw [g_same, eN]
    · rw [F_X12_days, if_neg (fun e => by have := i_lt.mp e; omega), if_pos (i_le.mpr (by omega))]
      show some (gI (sI (sI (sI u 100 11 (aN A + x)) 167 0 0) 167 40 (gI (sI (sI u 100 11 (aN A + x)) 167 0 0) 167 40 + x)) 167 40, _) = _
      rw [g_same, g_nk _ _ _ (by decide), g_ne _ _ _ _ (by decide), eR]
    · have hC1 : ICl (aNow A (aN A + x) (aK A)) w (sI u 100 11 (aN A + x)) := ICl.now hC ⟨b1, b2, b3, b4, b5, b6, b7, b8, b9, b10⟩ hL (fun a j e => g_ne _ _ _ _ e) (fun _ _ => rfl) (g_same _ _ _ _) (by rw [g_nk _ _ _ (by decide)]; exact hC.2.2.2.2.1)
      exact hC1.fr (c := c + 1) ⟨b1, b2, b3, b4, b5, by show 0 ≤ (aN A + x).toInt; omega, by show (aN A + x).toInt ≤ _; omega, b8, b9, b10⟩ hL (FrR.tr (FrR.put (a := 167) (by decide)) (FrR.put (a := 167) (by decide)))
    · have hR1 : IRf A (sI u 100 11 (aN A + x)) := hR.fr (FrC.put (a := 100) (by decide))
      refine IRf.now hR1 (fun a j e => ?_) (fun _ => rfl) (g_same _ _ _ _) ?_
      · by_cases c : a = 167
        · subst c; rw [g_nk _ _ _ (by omega), g_nk _ _ _ (by omega)]
        · rw [g_ne _ _ _ _ c, g_ne _ _ _ _ c]
      · rw [g_nk _ _ _ (by decide), g_nk _ _ _ (by decide), g_ne _ _ _ _ (by decide)]; exact hR.2.2.2.2.2.2.1
  · refine ⟨-1, u, sI u 167 0 0, A, ?_, ?_, Inv.thr ⟨hA, hL, hC, hR⟩⟩
    · rw [F_X11_days, c_isIn, b2i_f (by rw [z0, z1]; exact g)]; rfl
    · rw [F_X12_days]
      by_cases c1 : x < 0
      · rw [if_pos c1]
      · rw [if_neg c1, if_neg (fun e => g ⟨by have := mt i_lt.mpr c1; omega, by have := i_le.mp e; omega⟩)]
theorem P_known {A : AS} {c : Nat} {w : LT} {u : MT} {x : Int32} (h : Inv A c w u) : ∃ a u1 u2 A', F_X11_known f x u = some (a, u1) ∧ F_X12_known f x u1 = some (a, u2) ∧ Inv A' (c + 1) w u2 := by
  obtain ⟨hA, hL, hC, hR⟩ := h
  have z0 : (0 : Int32).toInt = 0 := rfl
  have z1 : (-1 : Int32).toInt = -1 := rfl
  have eN : gI u 100 11 = aN A := hC.2.2.2.1
  have eR : gI u 167 40 = aN A := hR.2.2.2.2.2.1
  obtain ⟨b1, b2, b3, b4, b5, b6, b7, b8, b9, b10⟩ := hA
  have hA : AOk A c := ⟨b1, b2, b3, b4, b5, b6, b7, b8, b9, b10⟩
  by_cases g : -1 ≤ x.toInt ∧ x.toInt ≤ (aN A).toInt
  · have hA' : AOk (aNow A (aN A) x) (c + 1) := ⟨b1, b2, b3, b4, b5, b6, by show (aN A).toInt ≤ _; omega, (by
      show x = -1 ∨ 0 ≤ x.toInt
      by_cases e : x.toInt = -1
      · exact Or.inl (Int32.toInt_inj.mp e)
      · exact Or.inr (by omega)), b9, b10⟩
    refine ⟨1, sI u 100 12 x, sI (sI (sI u 100 12 x) 167 0 0) 167 41 x, aNow A (aN A) x, ?_, ?_, hA', hL, ?_, ?_⟩
    · rw [F_X11_known]
      by_cases e : x = -1
      · rw [if_pos e]; rfl
      · rw [if_neg e, c_isIn, eN, b2i_t (by rw [z0]; exact ⟨by have : ¬ x.toInt = -1 := fun c => e (Int32.toInt_inj.mp c); omega, g.2⟩)]; rfl
    · rw [F_X12_known, if_neg (fun e => by have := i_lt.mp e; omega)]
      show (if x ≤ gI (sI (sI u 100 12 x) 167 0 0) 167 40 then _ else _) = _
      rw [g_nk _ _ _ (by decide), g_ne _ _ _ _ (by decide), eR, if_pos (i_le.mpr g.2)]
    · have hC1 : ICl (aNow A (aN A) x) w (sI u 100 12 x) := ICl.now hC hA hL (fun a j e => g_ne _ _ _ _ e) (fun _ _ => rfl) (by rw [g_nk _ _ _ (by decide)]; exact eN) (g_same _ _ _ _)
      exact hC1.fr hA' hL (FrR.tr (FrR.put (a := 167) (by decide)) (FrR.put (a := 167) (by decide)))
    · have hR1 : IRf A (sI u 100 12 x) := hR.fr (FrC.put (a := 100) (by decide))
      refine IRf.now hR1 (fun a j e => ?_) (fun _ => rfl) ?_ (g_same _ _ _ _)
      · by_cases c : a = 167
        · subst c; rw [g_nk _ _ _ (by omega), g_nk _ _ _ (by omega)]
        · rw [g_ne _ _ _ _ c, g_ne _ _ _ _ c]
      · rw [g_nk _ _ _ (by decide), g_nk _ _ _ (by decide), g_ne _ _ _ _ (by decide)]; exact eR
  · refine ⟨0, u, sI u 167 0 0, A, ?_, ?_, Inv.thr ⟨hA, hL, hC, hR⟩⟩
    · rw [F_X11_known, if_neg (fun e => g (by rw [e, z1]; omega)), c_isIn, eN, b2i_f (by rw [z0]; omega)]; rfl
    · rw [F_X12_known]
      by_cases c1 : x < -1
      · rw [if_pos c1]
      · rw [if_neg c1]
        show (if x ≤ gI (sI u 167 0 0) 167 40 then _ else _) = _
        rw [g_nk _ _ _ (by decide), eR, if_neg (fun e => g ⟨by have := mt i_lt.mpr c1; omega, i_le.mp e⟩)]
theorem P_count {A : AS} {c : Nat} {w : LT} {u : MT} {x : Int32} (h : Inv A c w u) : ∃ a u1 u2 A', F_X11_count w f x u = some (a, u1) ∧ F_X12_count f x u1 = some (a, u2) ∧ Inv A' (c + 1) w u2 := by
  have hI := h.thr (x := 0)
  obtain ⟨hA, hL, hC, hR⟩ := h
  obtain ⟨a1, a2, a3, a4, a5, a6, a7, a8, a9, a10, a11⟩ := hC
  obtain ⟨r1, r2, r3, r4, r5, r6, r7, r8, r9, r10, r11⟩ := hR
  have nk : ∀ k, k ≠ 0 → gI (sI u 167 0 0) 167 k = gI u 167 k := fun k hk => g_nk _ _ _ hk
  suffices ∃ a, F_X11_count w f x u = some (a, u) ∧ F_X12_count f x u = some (a, sI u 167 0 0) by
    obtain ⟨a, e1, e2⟩ := this
    exact ⟨a, u, _, A, e1, e2, hI⟩
  rw [F_X11_count, F_X12_count]
  show ∃ a, _ ∧ (if x = 0 then some (gI (sI u 167 0 0) 167 31, sI u 167 0 0) else if x = 1 then some (gI (sI u 167 0 0) 167 34, sI u 167 0 0) else if x = 2 then some (gI (sI u 167 0 0) 167 40, sI u 167 0 0) else if x = 3 then some (gI (sI u 167 0 0) 167 22, sI u 167 0 0) else if x = 4 then some (gI (sI u 167 0 0) 167 73, sI u 167 0 0) else if x = 5 then some (gI (sI u 167 0 0) 167 2, sI u 167 0 0) else if x = 6 then (if gI (sI u 167 0 0) 167 22 ≤ 0 then some (0, sI u 167 0 0) else ck (ixo (gI (sI u 167 0 0) 167 22 - 1) 8) (some (gI (sI u 167 0 0) 173 (gI (sI u 167 0 0) 167 22 - 1).toNatClampNeg, sI u 167 0 0))) else if x = 7 then (if gI (sI u 167 0 0) 167 25 = 0 then some (0, sI u 167 0 0) else some (1, sI u 167 0 0)) else if x = 8 then some (gI (sI u 167 0 0) 167 41, sI u 167 0 0) else some (-1, sI u 167 0 0)) = _
  rw [nk 31 (by decide), nk 34 (by decide), nk 40 (by decide), nk 22 (by decide), nk 73 (by decide), nk 2 (by decide), nk 25 (by decide), nk 41 (by decide)]
  by_cases c0 : x = 0
  · rw [if_pos c0, if_pos c0]; exact ⟨_, rfl, by rw [a1.1.inj r1.1]⟩
  rw [if_neg c0, if_neg c0]
  by_cases c1 : x = 1
  · rw [if_pos c1, if_pos c1]; exact ⟨_, rfl, by rw [a1.2.1.inj r1.2.1]⟩
  rw [if_neg c1, if_neg c1]
  by_cases c2 : x = 2
  · rw [if_pos c2, if_pos c2]; exact ⟨_, rfl, by rw [a4, r6]⟩
  rw [if_neg c2, if_neg c2]
  by_cases c3 : x = 3
  · rw [if_pos c3, if_pos c3]; exact ⟨_, rfl, by rw [a2.1.inj r2.1]⟩
  rw [if_neg c3, if_neg c3]
  by_cases c4 : x = 4
  · rw [if_pos c4, if_pos c4]; exact ⟨_, rfl, by rw [a7.inj r10]⟩
  rw [if_neg c4, if_neg c4]
  by_cases c5 : x = 5
  · rw [if_pos c5, if_pos c5]; exact ⟨_, rfl, by rw [a6.2.1.inj r8.2.1]⟩
  rw [if_neg c5, if_neg c5]
  by_cases c6 : x = 6
  · rw [if_pos c6, if_pos c6, F_X8_rulesOfLatest]
    have t6 := hA.2.1.1
    have e22 := r2.1
    have z0 : (0 : Int32).toInt = 0 := rfl
    by_cases cT : xtT (aX A) = 0
    · rw [if_pos ((a2.1.eq nm0).mpr cT), if_pos (by rw [i_le]; have e22 : (gI u 167 22).toInt = _ := e22; omega)]
      exact ⟨0, rfl, rfl⟩
    · have n1 : Nm (gI u 128 1 - 1) (xtT (aX A) - 1) := a2.1.sub (show Nm (1 : Int32) 1 from rfl) (by omega)
      have n2 : Nm (gI u 167 22 - 1) (xtT (aX A) - 1) := r2.1.sub (show Nm (1 : Int32) 1 from rfl) (by omega)
      rw [if_neg (fun e => cT ((a2.1.eq nm0).mp e)), if_neg (fun e => by have := i_le.mp e; have e22 : (gI u 167 22).toInt = _ := e22; omega), ck_p (n1.ix (by omega)), n1.nat, ck_p (n2.ix (by omega)), n2.nat]
      have q1 := a2.2 (xtT (aX A) - 1) (by omega)
      have q2 := (r3 (xtT (aX A) - 1) (by omega)).2
      rw [ck_p q1.1]
      obtain ⟨⟨_, _, m1, _⟩, _⟩ := q1.2.2.2.2
      obtain ⟨⟨_, _, m2, _⟩, _⟩ := q2
      refine ⟨_, rfl, ?_⟩
      rw [g_ne _ _ _ _ (by decide)]
      have := m1.inj m2
      rw [this]; rfl
  rw [if_neg c6, if_neg c6]
  by_cases c7 : x = 7
  · rw [if_pos c7, if_pos c7]
    have hy := hA.2.2.2.1
    by_cases cY : xtT (aY A) = 0
    · rw [if_pos ((r5.eq nm0).mpr cY), (a3.1.eq nm0).mpr cY]; exact ⟨_, rfl, rfl⟩
    · rw [if_neg (fun e => cY ((r5.eq nm0).mp e)), (a3.1.eq (show Nm (1 : Int32) 1 from rfl)).mpr (by omega)]; exact ⟨_, rfl, rfl⟩
  rw [if_neg c7, if_neg c7]
  by_cases c8 : x = 8
  · rw [if_pos c8, if_pos c8]; exact ⟨_, rfl, by rw [a5, r7]⟩
  rw [if_neg c8, if_neg c8]
  exact ⟨_, rfl, rfl⟩
end
