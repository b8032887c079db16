/-! ===== feed, all of it ===== -/
def aTap (A : AS) (s : (Nat → Int32) × Nat) : AS := (A.1, A.2.1, A.2.2.1, A.2.2.2.1, A.2.2.2.2.1, s.1, s.2, A.2.2.2.2.2.2.2)
theorem ICl.setT {A : AS} {c : Nat} {w : LT} {u v : MT} {s : (Nat → Int32) × Nat} (h : ICl A w u) (hA : AOk A c) (hL : LOk A w) (hI : ∀ a j, a ≠ 110 → a ≠ 111 → gI v a j = gI u a j) (hK : ∀ a j, gK v a j = gK u a j) (hT : TpC s.1 s.2 v) : ICl (aTap A s) w v := by
  obtain ⟨a1, a2, a3, a4, a5, a6, a7, a8, a9, a10, a11⟩ := h
  have tx : ∀ {t : Nat}, pOk t → ∀ a j, t ≤ a → a ≤ t + 26 → gI v a j = gI u a j ∧ gK v a j = gK u a j := fun {t} hp a j e1 e2 => ⟨hI _ _ (by rcases hp with e | e <;> omega) (by rcases hp with e | e <;> omega), hK _ _⟩
  exact ⟨a1.fr5 (fun a j _ h => hI _ _ (by omega) (by omega)) (hI _ _ (by decide) (by decide)) (hI _ _ (by decide) (by decide)), a2.fr3 hA.2.1 (hI _ _ (by decide) (by decide)) (fun t ht => tx (hL.2.1 t ht).1), a3.fr3 hA.2.2.1 (hI _ _ (by decide) (by decide)) (fun t ht => tx (hL.y0 hA ht).2), by rw [hI _ _ (by decide) (by decide)]; exact a4, by rw [hI _ _ (by decide) (by decide)]; exact a5, hT, by rw [hI _ _ (by decide) (by decide)]; exact a7, fun d hd => ⟨fun h hh => by rw [hI _ _ (by decide) (by decide)]; exact (a8 d hd).1 h hh, by rw [hI _ _ (by decide) (by decide)]; exact (a8 d hd).2.1, by rw [hI _ _ (by decide) (by decide)]; exact (a8 d hd).2.2⟩, fun j h1 h2 => by rw [hI _ _ (by decide) (by decide)]; exact a9 j h1 h2, a10.fr (fun a j h1 h2 => hI _ _ (by omega) (by omega)), fun hy => (a11 hy).fr (fun a j h1 h2 => hI _ _ (by have := (hL.2.2.2.1 hy).2.2.2.2; omega) (by have := (hL.2.2.2.1 hy).2.2.2.2; omega))⟩
theorem IRf.setT {A : AS} {u v : MT} {s : (Nat → Int32) × Nat} (h : IRf A u) (hI : ∀ a j, (a ≠ 167 ∨ (j ≠ 0 ∧ j ≠ 2)) → a ≠ 168 → gI v a j = gI u a j) (hL : ∀ j, gL v 172 j = gL u 172 j) (hT : TpR0 s.1 s.2 v) : IRf (aTap A s) v := by
  obtain ⟨a1, a2, a3, a4, a5, a6, a7, a8, a9, a10, a11⟩ := h
  have sf : Sfr u v := ⟨fun a j h1 h2 => hI _ _ (by omega) (by omega), hI _ _ (by omega) (by omega), hI _ _ (by omega) (by omega), hI _ _ (by omega) (by omega), hI _ _ (by omega) (by omega), hI _ _ (by omega) (by omega)⟩
  exact ⟨a1.fr sf, a2.fr sf, a3.fr sf, a4.fr sf, by rw [hI _ _ (by omega) (by omega)]; exact a5, by rw [hI _ _ (by omega) (by omega)]; exact a6, by rw [hI _ _ (by omega) (by omega)]; exact a7, hT, fun k hk => by rw [hL]; exact a9 k hk, by rw [hI _ _ (by omega) (by omega)]; exact a10, fun j hj => by rw [hI _ _ (by omega) (by omega)]; exact a11 j hj⟩
section
variable {f : Nat}
theorem P_feed {A : AS} {c : Nat} {w : LT} {u : MT} {x1 x2 x3 : Int64} (hf : 1300 < f) (h : Inv A c w u) : ∃ a u1 u2 A', F_X11_feed f x1 x2 x3 u = some (a, u1) ∧ F_X12_feed f x1 x2 x3 u1 = some (a, u2) ∧ Inv A' (c + 1) w u2 := by
  obtain ⟨hA, hL, hC, hR⟩ := h
  have T0 : TpC (aG A, aZ A).1 (aG A, aZ A).2 u := hC.2.2.2.2.2.1
  obtain ⟨m1, e1, t1, f1, k1, l1⟩ := c_addB (f := f) (x := x1) hf T0
  obtain ⟨m2, e2, t2, f2, k2, l2⟩ := c_addB (f := f) (x := x2) hf t1
  obtain ⟨m3, e3, t3, f3, k3, l3⟩ := c_addB (f := f) (x := x3) hf t2
  have hA' : AOk (aTap A (tpby x3 8 (tpby x2 8 (tpby x1 8 (aG A, aZ A))))) (c + 1) := hA.mono
  have hL' : LOk (aTap A (tpby x3 8 (tpby x2 8 (tpby x1 8 (aG A, aZ A))))) w := hL
  have C1 : ICl (aTap A (tpby x3 8 (tpby x2 8 (tpby x1 8 (aG A, aZ A))))) w m3 := hC.setT hA hL (fun a j h1 h2 => by rw [f3 _ _ h1 h2, f2 _ _ h1 h2, f1 _ _ h1 h2]) (fun a j => by rw [k3, k2, k1]) t3
  have R1 : IRf A m3 := hR.fr ⟨fun a j h1 h2 => by rw [f3 _ _ (by omega) (by omega), f2 _ _ (by omega) (by omega), f1 _ _ (by omega) (by omega)], fun j => by rw [l3, l2, l1]⟩
  have T1 : TpR0 (aG A, aZ A).1 (aG A, aZ A).2 (sI m3 167 0 0) := R1.thr.2.2.2.2.2.2.2.1
  obtain ⟨n1, g1, s1, q1, y1, z1⟩ := r_layB (f := f) (x := x1) hf T1
  obtain ⟨n2, g2, s2, q2, y2, z2⟩ := r_layB (f := f) (x := x2) hf s1
  obtain ⟨n3, g3, s3, q3, y3, z3⟩ := r_layB (f := f) (x := x3) hf s2
  have fr : ∀ a j, (a ≠ 167 ∨ j ≠ 2) → a ≠ 168 → gI n3 a j = gI (sI m3 167 0 0) a j := fun a j h1 h2 => by rw [q3 _ _ h1 h2, q2 _ _ h1 h2, q1 _ _ h1 h2]
  have frK : ∀ a j, gK n3 a j = gK m3 a j := fun a j => by rw [y3, y2, y1]; rfl
  have frL : ∀ a j, gL n3 a j = gL m3 a j := fun a j => by rw [z3, z2, z1]; rfl
  refine ⟨gI m3 110 1, m3, n3, _, ?_, ?_, hA', hL', C1.fr hA' hL' ⟨fun a j e => ?_, frK, fun j => frL _ _⟩, R1.setT (fun a j h1 h2 => ?_) (fun j => frL _ _) s3⟩
  · rw [F_X11_feed, e1, Option.bind_some, e2, Option.bind_some, e3, Option.bind_some]
  · rw [F_X12_feed]
    show (F_X12_lay f x1 (sI m3 167 0 0)).bind _ = _
    rw [g1, Option.bind_some, g2, Option.bind_some, g3, Option.bind_some, s3.2.1.inj t3.2.1]
  · rw [fr _ _ (by omega) (by omega), g_ne _ _ _ _ (by omega)]
  · rw [fr _ _ (by omega) h2]
    by_cases e : a = 167
    · subst e; exact g_nk _ _ _ (by omega)
    · exact g_ne _ _ _ _ e
end
