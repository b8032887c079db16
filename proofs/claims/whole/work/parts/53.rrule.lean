/-! ===== the reference reads a RULE ===== -/
/-- what a RULE's reading leaves as it was -/
def Kp (s : Nat) (u v : MT) : Prop := (∀ a k, 175 ≤ a → a ≤ 181 → k ≠ 168 + s → gI v a k = gI u a k) ∧ ∀ k, k < 9100 → gI v 182 k = gI u 182 k ∧ gI v 183 k = gI u 183 k
theorem Kp.rfl {s : Nat} {u : MT} : Kp s u u := ⟨fun _ _ _ _ _ => Eq.refl _, fun _ _ => ⟨Eq.refl _, Eq.refl _⟩⟩
theorem Kp.trans {s : Nat} {u v w : MT} (h : Kp s u v) (h' : Kp s v w) : Kp s u w := ⟨fun a k h1 h2 h3 => (h'.1 a k h1 h2 h3).trans (h.1 a k h1 h2 h3), fun k hk => ⟨(h'.2 k hk).1.trans (h.2 k hk).1, (h'.2 k hk).2.trans (h.2 k hk).2⟩⟩
theorem Kp_put {s : Nat} {u : MT} {a k : Nat} {x : Int32} (h : a < 175 ∨ 183 < a ∨ (175 ≤ a ∧ a ≤ 181 ∧ k = 168 + s)) : Kp s u (sI u a k x) :=
  ⟨fun b j h1 h2 h3 => by
    by_cases e : b = a
    · subst e; exact g_nk _ _ _ (by omega)
    · exact g_ne _ _ _ _ e, fun j hj => ⟨g_ne _ _ _ _ (by omega), g_ne _ _ _ _ (by omega)⟩⟩
theorem Kp_adv {s : Nat} {u : MT} : Kp s u (adv u) := Kp_put (Or.inl (by decide))
theorem Kp_wr {s : Nat} {E : ET} {k : Int32} {i : Nat} {u : MT} : Kp s u (wr E k i u) := Kp_put (Or.inl (by decide))
theorem Kp_remit {s : Nat} {a b : Int32} {u : MT} : Kp s u (remit a b u) :=
  ⟨fun q k h1 h2 _ => remit_ne (by omega) (by omega) (by omega), fun k hk => ⟨by rw [remit, g_ne _ _ _ _ (by decide), g_ne _ _ _ _ (by decide), g_nk _ _ _ (by omega)], by rw [remit, g_ne _ _ _ _ (by decide), g_nk _ _ _ (by omega), g_ne _ _ _ _ (by decide)]⟩⟩
theorem Kp_code {s f : Nat} {u : MT} {r : Int32 × MT} (h : F_X12_code f u = some r) (h2 : ∀ k, k < 9100 → gI r.2 182 k = gI u 182 k ∧ gI r.2 183 k = gI u 183 k) : Kp s u r.2 := by
  have hf := fr_F_X12_code h
  exact ⟨fun a k h1 h2 _ => hf.1 a k (by simp [nin, wI_X12_code] <;> omega), h2⟩
/-- behind a fault all goes on and nothing happens -/
def AB (s : Nat) (u v : MT) : Prop := gI v 167 8 = gI u 167 8 ∧ Kp s u v
theorem AB.trans {s : Nat} {u v w : MT} (h : AB s u v) (h' : AB s v w) : AB s u w := ⟨h'.1.trans h.1, h.2.trans h'.2⟩
theorem RX.of {u v : MT} (h : RX u) (e : gI v 167 8 = gI u 167 8) : RX v := by unfold RX at *; rw [e]; exact h
section
variable {f : Nat} {E : ET} {s : Nat} {u : MT} {x1 : Int32}
theorem x7 (h : RX u) : Ok (B_X12_readRule_236 f u) (AB s u) := by
  rw [B_X12_readRule_236]
  exact Ok.bindE (r_takeSign_x h) (Ok.some ⟨g_ne _ _ _ _ (by decide), Kp_put (Or.inl (by decide))⟩)
def t6 (f : Nat) (x1 : Int32) (u : MT) : Option MT := (F_X12_oneOf f 13 3 u).bind fun r55 => B_X12_readRule_236 f (sI r55.2 181 (x1).toNatClampNeg r55.1)
def t5 (f : Nat) (x1 : Int32) (u : MT) : Option MT := (F_X12_takeWord f 4 u).bind fun r => t6 f x1 r
def t4 (f : Nat) (x1 : Int32) (u : MT) : Option MT := (F_X12_readWhom f x1 u).bind fun r => t5 f x1 r
def t3 (f : Nat) (x1 : Int32) (u : MT) : Option MT := (F_X12_takeWord f 3 u).bind fun r => t4 f x1 r
def t2 (f : Nat) (x1 : Int32) (u : MT) : Option MT := (F_X12_oneOf f 9 2 u).bind fun r46 => t3 f x1 (sI r46.2 178 (x1).toNatClampNeg r46.1)
def t1 (f : Nat) (x1 : Int32) (u : MT) : Option MT := (F_X12_takeWord f 2 u).bind fun r => t2 f x1 r
theorem x6 (hf : 1300 < f) (hx : Nm x1 (168 + s)) (h : RX u) : Ok (t6 f x1 u) (AB s u) := by
  refine Ok.bindE (r_oneOf_x (by omega) h (first := 13) (many := 3) (show Nm (3 : Int32) 3 from rfl) (by omega)) ?_
  dsimp only
  rw [hx.nat]
  refine (x7 (h.put (Or.inl (by decide)))).mono (fun v hv => AB.trans ⟨g_ne _ _ _ _ (by decide), Kp_put (Or.inr (Or.inr ⟨by decide, by decide, rfl⟩))⟩ hv)
theorem x5 (hf : 1300 < f) (hx : Nm x1 (168 + s)) (h : RX u) : Ok (t5 f x1 u) (AB s u) := Ok.bindE (r_takeWord_x h) (x6 hf hx h)
theorem xWhom (hx : Nm x1 (168 + s)) (hs : s < 24) (h : RX u) : Ok (F_X12_readWhom f x1 u) (AB s u) := by
  rw [F_X12_readWhom]
  refine Ok.ck (hx.ix (by omega)) ?_
  rw [hx.nat]
  have h1 : RX (sI u 180 (168 + s) 0) := h.put (Or.inl (by decide))
  have h2 : RX (sI (sI u 180 (168 + s) 0) 179 (168 + s) 2) := h1.put (Or.inl (by decide))
  refine Ok.bindE (r_hasWord_x h1) (Ok.t rfl (Ok.bindE (r_hasWord_x h1) (Ok.t rfl (Ok.bindE (r_takeWord_x h1) (Ok.bindE (r_takeNumber_x h2) (Ok.some ?_))))))
  refine ⟨?_, ((Kp_put (Or.inr (Or.inr ⟨by decide, by decide, rfl⟩))).trans (Kp_put (Or.inr (Or.inr ⟨by decide, by decide, rfl⟩)))).trans (Kp_adv.trans (Kp_put (Or.inr (Or.inr ⟨by decide, by decide, rfl⟩))))⟩
  rw [g_ne _ _ _ _ (by decide), show gI (adv (sI (sI u 180 (168 + s) 0) 179 (168 + s) 2)) 167 8 = gI (sI (sI u 180 (168 + s) 0) 179 (168 + s) 2) 167 8 from g_nk _ _ _ (by decide), g_ne _ _ _ _ (by decide), g_ne _ _ _ _ (by decide)]
theorem x4 (hf : 1300 < f) (hx : Nm x1 (168 + s)) (hs : s < 24) (h : RX u) : Ok (t4 f x1 u) (AB s u) :=
  Ok.bind (xWhom hx hs h) (fun v hv => (x5 hf hx (h.of hv.1)).mono (fun w hw => hv.trans hw))
theorem x3 (hf : 1300 < f) (hx : Nm x1 (168 + s)) (hs : s < 24) (h : RX u) : Ok (t3 f x1 u) (AB s u) := Ok.bindE (r_takeWord_x h) (x4 hf hx hs h)
theorem x2 (hf : 1300 < f) (hx : Nm x1 (168 + s)) (hs : s < 24) (h : RX u) : Ok (t2 f x1 u) (AB s u) := by
  refine Ok.bindE (r_oneOf_x (by omega) h (first := 9) (many := 2) (show Nm (2 : Int32) 2 from rfl) (by omega)) ?_
  dsimp only
  rw [hx.nat]
  refine (x3 hf hx hs (h.put (Or.inl (by decide)))).mono (fun v hv => AB.trans ⟨g_ne _ _ _ _ (by decide), Kp_put (Or.inr (Or.inr ⟨by decide, by decide, rfl⟩))⟩ hv)
theorem x1' (hf : 1300 < f) (hx : Nm x1 (168 + s)) (hs : s < 24) (h : RX u) : Ok (t1 f x1 u) (AB s u) := Ok.bindE (r_takeWord_x h) (x2 hf hx hs h)
theorem xCode (hf : 1300 < f) {c : Nat} (hc : Nm (gI u 184 7) c) (hc' : c < 1300) (h : RX u) : Ok (F_X12_code f u) (fun r => AB s u r.2) := by
  have hd0 : Nm (gI (sI u 167 26 0) 167 26) 0 := by rw [g_same]; exact nm0
  have hop : F_X12_opens f (sI u 167 26 0) = some (sI (sI (sI u 167 26 0) 187 0 0) 188 0 0) := by
    rw [F_X12_opens, ck_p (hd0.ix (by omega)), hd0.nat]
    dsimp only
    rw [g_ne _ _ _ _ (show (167 : Nat) ≠ 187 by decide), ck_p (hd0.ix (by omega)), hd0.nat]
  have hx : RX (sI (sI (sI u 167 26 0) 187 0 0) 188 0 0) := ((h.put (Or.inr (by decide))).put (Or.inl (by decide))).put (Or.inl (by decide))
  have hc2 : Nm (gI (sI (sI (sI u 167 26 0) 187 0 0) 188 0 0) 184 7) c := by rw [g_ne _ _ _ _ (by decide), g_ne _ _ _ _ (by decide), g_ne _ _ _ _ (by decide)]; exact hc
  rw [F_X12_code, F_X12_expression]
  refine Ok.bindE (by rw [bS hop]; exact r6_x (by omega) hx) (Ok.bindE (r_emit hc2 hc') (Ok.some ⟨?_, ?_⟩))
  · rw [remit_ne (by decide) (by decide) (by decide), g_ne _ _ _ _ (by decide), g_ne _ _ _ _ (by decide), g_nk _ _ _ (by decide)]
  · exact (((Kp_put (Or.inl (by decide))).trans (Kp_put (Or.inr (Or.inl (by decide))))).trans (Kp_put (Or.inr (Or.inl (by decide))))).trans Kp_remit
theorem xAmt (hf : 1300 < f) (hx : Nm x1 (168 + s)) (hs : s < 24) {c : Nat} (hc : Nm (gI u 184 7) c) (hc' : c < 1300) (h : RX u) : Ok (F_X12_readAmount f x1 u) (AB s u) := by
  rw [F_X12_readAmount]
  refine Ok.bindE (r_hasWord_x h) (Ok.t rfl (Ok.bind (xCode (s := s) hf hc hc' h) (fun r hr => ?_)))
  rw [B_X12_readAmount_22]
  refine Ok.ck (hx.ix (by omega)) (Ok.some ?_)
  rw [hx.nat]
  exact hr.trans ⟨g_ne _ _ _ _ (by decide), Kp_put (Or.inr (Or.inr ⟨by decide, by decide, rfl⟩))⟩
end
/-! what a RULE is in the reference -/
def segR (v : MT) (cb s : Nat) (l : List Int32) : Prop := (∀ k, k < l.length → gI v 182 (cb + s + k) = opo (l.getD k 0) ∧ gI v 183 (cb + s + k) = ono (l.getD k 0)) ∧ gI v 182 (cb + s + l.length) = 0
def codR (v : MT) (cb c : Nat) (x : Int32) (l : List Int32) : Prop := (l = [] → x.toInt < 0) ∧ (l ≠ [] → ∃ s, Nm x s ∧ s + l.length < c ∧ segR v cb s l)
def actR (a : Nat) : Int32 := if a = 17 then 1 else if a = 18 then 5 else 6
def RRa (v : MT) (cb I c : Nat) (rl : AR) : Prop :=
  gI v 176 I = actR (rAct rl) ∧ (rAct rl = 19 → Nm (gI v 178 I) (rPri rl - 10) ∧ gI v 180 I = rNum rl) ∧ (rAct rl ≠ 19 → codR v cb c (gI v 177 I) (rAmt rl)) ∧
  (rAct rl = 17 → Nm (gI v 178 I) (rSrc rl - 9) ∧ Nm (gI v 179 I) (rWho rl - 24) ∧ Nm (gI v 181 I) (rWay rl - 27) ∧ (rWho rl ≠ 24 → gI v 180 I = rNum rl))
def RR (v : MT) (cb I c : Nat) (rl : AR) : Prop := codR v cb c (gI v 175 I) (rWhen rl) ∧ RRa v cb I c rl
theorem codR.fr {u v : MT} {cb c c' : Nat} {x : Int32} {l : List Int32} (h : codR u cb c x l) (hc : c ≤ c') (he : ∀ k, k < cb + c → gI v 182 k = gI u 182 k ∧ gI v 183 k = gI u 183 k) : codR v cb c' x l := by
  refine ⟨h.1, fun hl => ?_⟩
  obtain ⟨s, h1, h2, h3, h4⟩ := h.2 hl
  exact ⟨s, h1, by omega, fun k hk => by rw [(he _ (by omega)).1, (he _ (by omega)).2]; exact h3 k hk, by rw [(he _ (by omega)).1]; exact h4⟩
theorem RR.fr {u v : MT} {cb I c c' : Nat} {rl : AR} (h : RR u cb I c rl) (hc : c ≤ c') (hI : ∀ a, 175 ≤ a → a ≤ 181 → gI v a I = gI u a I) (he : ∀ k, k < cb + c → gI v 182 k = gI u 182 k ∧ gI v 183 k = gI u 183 k) : RR v cb I c' rl := by
  obtain ⟨h1, h2, h3, h4, h5⟩ := h
  exact ⟨by rw [hI 175 (by decide) (by decide)]; exact h1.fr hc he, by rw [hI 176 (by decide) (by decide)]; exact h2, fun h => by rw [hI 178 (by decide) (by decide), hI 180 (by decide) (by decide)]; exact h3 h, fun h => by rw [hI 177 (by decide) (by decide)]; exact (h4 h).fr hc he,
    fun h => by rw [hI 178 (by decide) (by decide), hI 179 (by decide) (by decide), hI 181 (by decide) (by decide), hI 180 (by decide) (by decide)]; exact h5 h⟩
