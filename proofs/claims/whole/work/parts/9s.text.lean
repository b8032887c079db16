/-! ===== text: both alike ===== -/
def upg {α : Type} (f : Nat → α) (k : Nat) (v : α) : Nat → α := fun j => if j = k then v else f j
theorem upg_same {α : Type} {f : Nat → α} {k : Nat} {v : α} : upg f k v k = v := if_pos rfl
theorem upg_ne {α : Type} {f : Nat → α} {k j : Nat} {v : α} (h : j ≠ k) : upg f k v j = f j := if_neg h
def xAdd (X : XD) (q d : Int32) (rs : List AR) (how : Nat) : XD := (xtT X + 1, upf (xtQ X) (xtT X) q, upf (xtD X) (xtT X) d, upg (xtR X) (xtT X) rs, upg (xtH X) (xtT X) how)
theorem txF_cg {tq td tq' td' : Nat → Int32} {q d : Int32} : ∀ T, (∀ t, t < T → tq t = tq' t ∧ td t = td' t) → txF tq td q d T = txF tq' td' q d T := by
  intro T
  induction T with
  | zero => intro _; rfl
  | succ T ih =>
    intro e
    obtain ⟨e1, e2⟩ := e T (by omega)
    rw [txF, txF, ih (fun j hj => e j (by omega)), e1, e2]
theorem tRl_add {V : VD} {X : XD} {x y d : Int32} {rs : List AR} {how qn q : Nat} (hx : Nm x qn) (hq : q < qn) (hn : q < 240) (s : QS) : tRl V X d q s = tRl V (xAdd X x y rs how) d q s := by
  have e : txO (xAdd X x y rs how) d q = txO X d q := by
    show txF (upf (xtQ X) (xtT X) x) (upf (xtD X) (xtT X) y) (Int32.ofNat q) d (xtT X + 1) = _
    rw [txF, if_neg]
    · exact txF_cg _ (fun t ht => ⟨upf_ne (by omega), upf_ne (by omega)⟩)
    · rintro ⟨c, _⟩
      rw [upf_same] at c
      have := i_le.mp c
      have hx : x.toInt = (qn : Int) := hx
      have m : (Int32.ofNat q).toInt = (q : Int) := Nm.of (by omega)
      omega
  unfold tRl
  rw [e]
  cases et : txO X d q with
  | none => rfl
  | some t =>
    have ht := txF_lt _ et
    show ruls _ _ _ _ (xtH X t) (xtR X t) s = ruls _ _ _ _ (upg (xtH X) (xtT X) how t) (upg (xtR X) (xtT X) rs t) s
    rw [upg_ne (by omega), upg_ne (by omega)]
theorem CT.fr6 {u v : MT} {tx how : Nat} {rs : List AR} (h : CT u tx rs how) (hl : rs.length ≤ 24) (h1 : gI v tx 1 = gI u tx 1) (h4 : gI v tx 4 = gI u tx 4) (hI : ∀ a k, tx < a → a ≤ tx + 26 → gI v a k = gI u a k) (hK : ∀ a k, tx ≤ a → a ≤ tx + 26 → gK v a k = gK u a k) : CT v tx rs how := by
  obtain ⟨⟨c, g1, g2, g3, g4⟩, g5⟩ := h
  refine ⟨⟨c, g1, by rw [h1]; exact g2, by rw [h4]; exact g3, fun s hs => ?_⟩, by rw [hK _ _ (by omega) (by omega)]; exact g5⟩
  exact (g4 s hs).fr (Nat.le_refl _) (fun k => hI _ _ (by omega) (by omega)) (fun k => hK _ _ (by omega) (by omega)) (fun k _ => hI _ _ (by omega) (by omega))
def aTxt (A : AS) (x : Int32) (rs : List AR) (how : Nat) : AS := (A.1, xAdd (aX A) x (aN A) rs how, A.2.2.1, A.2.2.2.1, A.2.2.2.2.1, A.2.2.2.2.2)
theorem fre_tx {w : LT} (hf : Fre w) (hLay : Lay w) {t : Nat} (h7 : lt_t w t = 7) : t + 26 < w.1 := by
  have := (hLay.2.2.1 t h7).2.2.2.2.2.2.2 23 (by decide)
  exact fre_lt hf (by have := this.2; rw [show t + 3 + 23 = t + 26 by omega] at this; omega)
theorem fre_bk {w : LT} (hf : Fre w) (hLay : Lay w) {b : Nat} (h1 : lt_t w b = 1) : b + 5 < w.1 := by
  obtain ⟨_, _, _, _, _, _, _, _, _, ⟨_, b5, _⟩, _⟩ := hLay.2.2.2 b h1
  exact fre_lt hf (by omega)
theorem ICl.addText {A : AS} {c qn how : Nat} {w w' : LT} {m v : MT} {x : Int32} {rs : List AR} (h : ICl A w m) (hLay : Lay w) (hFre : Fre w) (hA : AOk A c) (hL : LOk A w) (hx : Nm x qn) (hl : rs.length ≤ 24) (hCT : CT m (lt_p w 100 10) rs how)
    (hI : ∀ a j, a < w.1 → a ≠ lt_p w 100 10 → (a ≠ 128 ∨ j ≠ 1) → (a ≠ 130 ∨ j ≠ 5) → gI v a j = gI m a j) (hK : ∀ a j, a < w.1 → gK v a j = gK m a j) (h128 : Nm (gI v 128 1) (xtT (aX A) + 1)) (h130 : gI v 130 5 = if x < gI m 130 5 then x else gI m 130 5)
    (hd5 : gI v (lt_p w 100 10) 5 = x) (hd6 : gI v (lt_p w 100 10) 6 = aN A) (hdj : ∀ j, j ≠ 5 → j ≠ 6 → gI v (lt_p w 100 10) j = gI m (lt_p w 100 10) j)
    (p129 : ∀ t, lt_p w' 129 t = if t = xtT (aX A) then lt_p w 100 10 else lt_p w 129 t) (p139 : ∀ t, lt_p w' 139 t = lt_p w 139 t) (p100 : lt_p w' 100 9 = lt_p w 100 9) (kt : ∀ a, a < w.1 → lt_t w' a = lt_t w a) : ICl (aTxt A x rs how) w' v := by
  obtain ⟨a1, a2, a3, a4, a5, a6, a7, a8, a9, a10, a11⟩ := h
  obtain ⟨w216, l2, ⟨d7, dp⟩, l4, l5⟩ := hL
  have dlt := fre_tx hFre hLay d7
  generalize hd : lt_p w 100 10 = d at *
  have dp' : d = 140 ∨ 216 ≤ d := dp
  have d130 := lay_tb hLay d7 (kt_130 hLay)
  have tx : ∀ {t : Nat}, lt_t w t = 7 → pOk t → t ≠ d → ∀ a j, t ≤ a → a ≤ t + 26 → gI v a j = gI m a j ∧ gK v a j = gK m a j := fun {t} h7 hp hn a j e1 e2 => by
    have q1 := lay_tt hLay h7 d7 hn
    have q2 := lay_tb hLay h7 (kt_130 hLay)
    have q3 := fre_tx hFre hLay h7
    exact ⟨hI _ _ (by omega) (by omega) (by rcases hp with e | e <;> omega) (by omega), hK _ _ (by omega)⟩
  have hI' : ∀ a j, a < 140 → a ≠ 128 → a ≠ 130 → gI v a j = gI m a j := fun a j e1 e2 e3 => hI a j (by omega) (by omega) (Or.inl e2) (Or.inl e3)
  have l4' : xtT (aY A) = 1 → lt_p w 139 0 ≠ d := fun hy => (l4 hy).2.1
  refine ⟨a1.fr5 (fun a j e1 e2 => hI' _ _ (by omega) (by omega) (by omega)) (hI' _ _ (by decide) (by decide) (by decide)) (hI' _ _ (by decide) (by decide) (by decide)), ⟨h128, fun t ht => ?_⟩, ?_, by rw [hI' _ _ (by decide) (by decide) (by decide)]; exact a4, by rw [hI' _ _ (by decide) (by decide) (by decide)]; exact a5, ⟨a6.1, by rw [hI' _ _ (by decide) (by decide) (by decide)]; exact a6.2.1, fun k hk => by rw [hI' _ _ (by decide) (by decide) (by decide)]; exact a6.2.2 k hk⟩, by rw [hI' _ _ (by decide) (by decide) (by decide)]; exact a7, fun q hq => ⟨fun h hh => by rw [hI' _ _ (by decide) (by decide) (by decide)]; exact (a8 q hq).1 h hh, by rw [hI' _ _ (by decide) (by decide) (by decide)]; exact (a8 q hq).2.1, by rw [hI' _ _ (by decide) (by decide) (by decide)]; exact (a8 q hq).2.2⟩, fun j h1 h2 => by rw [hI' _ _ (by decide) (by decide) (by decide)]; exact a9 j h1 h2, ?_, fun hy => ?_⟩
  · have ht : t < xtT (aX A) + 1 := ht
    show lt_t w' (lt_p w' 129 t) = 7 ∧ 128 ≤ lt_p w' 129 t ∧ gI v (lt_p w' 129 t) 5 = upf (xtQ (aX A)) (xtT (aX A)) x t ∧ gI v (lt_p w' 129 t) 6 = upf (xtD (aX A)) (xtT (aX A)) (aN A) t ∧ CT v (lt_p w' 129 t) (upg (xtR (aX A)) (xtT (aX A)) rs t) (upg (xtH (aX A)) (xtT (aX A)) how t)
    rw [p129]
    by_cases e : t = xtT (aX A)
    · rw [if_pos e, e, upf_same, upf_same, upg_same, upg_same]
      refine ⟨by rw [kt _ (by omega)]; exact d7, by omega, hd5, hd6, hCT.fr6 hl (hdj 1 (by decide) (by decide)) (hdj 4 (by decide) (by decide)) (fun a k e1 e2 => hI _ _ (by omega) (by omega) (by omega) (by omega)) (fun a k e1 e2 => hK _ _ (by omega))⟩
    · rw [if_neg e, upf_ne e, upf_ne e, upg_ne e, upg_ne e]
      have ht' : t < xtT (aX A) := by omega
      obtain ⟨c1, c2, c3, c4, c5⟩ := a2.2 t ht'
      have q := tx c1 (l2 t ht').1 (l2 t ht').2.1
      have q3 : lt_p w 129 t + 26 < w.1 := fre_tx hFre hLay c1
      exact ⟨by rw [kt _ (by omega)]; exact c1, c2, by rw [(q _ _ (Nat.le_refl _) (by omega)).1]; exact c3, by rw [(q _ _ (Nat.le_refl _) (by omega)).1]; exact c4, c5.fr2 (hA.2.1.2 t ht').2.2.2.1 (fun a k e1 e2 => (q a k e1 e2).1) (fun a k e1 e2 => (q a k e1 e2).2)⟩
  · refine ⟨by rw [hI' _ _ (by decide) (by decide) (by decide)]; exact a3.1, fun t ht => ?_⟩
    have ht : t < xtT (aY A) := ht
    have hy := hA.2.2.2.1
    have e0 : t = 0 := by omega
    subst e0
    obtain ⟨c1, c2, c3, c4, c5⟩ := a3.2 0 ht
    have q := tx c1 (l4 (by omega)).1 (l4' (by omega))
    show lt_t w' (lt_p w' 139 0) = 7 ∧ 128 ≤ lt_p w' 139 0 ∧ gI v (lt_p w' 139 0) 5 = xtQ (aY A) 0 ∧ gI v (lt_p w' 139 0) 6 = xtD (aY A) 0 ∧ CT v (lt_p w' 139 0) (xtR (aY A) 0) (xtH (aY A) 0)
    rw [p139]
    have q3 : lt_p w 139 0 + 26 < w.1 := fre_tx hFre hLay c1
    exact ⟨by rw [kt _ (by omega)]; exact c1, c2, by rw [(q _ _ (Nat.le_refl _) (by omega)).1]; exact c3, by rw [(q _ _ (Nat.le_refl _) (by omega)).1]; exact c4, c5.fr2 (hA.2.2.1.2 0 ht).2.2.2.1 (fun a k e1 e2 => (q a k e1 e2).1) (fun a k e1 e2 => (q a k e1 e2).2)⟩
  · exact Bkk.cut a10 hx (hI _ _ (by omega) (by omega) (by omega) (by omega)) h130 (fun a j e1 e2 => hI _ _ (by omega) (by omega) (by omega) (by omega)) rfl rfl rfl (fun d' q hq hq2 => ⟨fun _ => ⟨rfl, rfl, rfl⟩, tRl_add hx hq hq2⟩)
  · have hy : xtT (aY A) = 1 := hy
    obtain ⟨_, _, o1, _, o2⟩ := l4 hy
    have q1 := lay_tb hLay d7 o1
    have q2 := fre_bk hFre hLay o1
    show Bkk (aV A) (aY A) (lt_p w' 100 9) v
    rw [p100]
    exact (a11 hy).fr (fun a j e1 e2 => hI _ _ (by omega) (by omega) (by omega) (by omega))
