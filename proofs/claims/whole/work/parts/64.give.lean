/-! ===== giving, in the abstract and in the class ===== -/
def room (s : QS) (h : Nat) : Int32 := if qL s h ≤ qW s h then qL s h else qW s h
def can (s : QS) (h : Nat) : Bool := decide (0 < (room s h).toInt)
def upf (f : Nat → Int32) (h : Nat) (v : Int32) : Nat → Int32 := fun k => if k = h then v else f k
theorem upf_same {f : Nat → Int32} {h : Nat} {v : Int32} : upf f h v h = v := if_pos rfl
theorem upf_ne {f : Nat → Int32} {h k : Nat} {v : Int32} (e : k ≠ h) : upf f h v k = f k := if_neg e
/-- a house has so much by rules, from pool (9) or store -/
def hnd (s : QS) (src h : Nat) (x : Int32) : QS :=
  (if src = 9 then qP s - x else qP s, if src = 9 then qS s else qS s - x, qF s, upf (qW s) h (qW s h - x), upf (qL s) h (qL s h - x), upf (qH s) h (qH s h + x),
   if src = 9 then upf (qA s) h (qA s h + x) else qA s, if src = 9 then qB s else upf (qB s) h (qB s h + x), qR s)
def okW (who : Nat) (num : Int32) (h : Nat) : Bool := who != 25 || decide (num.toInt = (h : Int))
def ch0 (s : QS) (n who : Nat) (num : Int32) : List Nat := (List.range n).filter (fun h => can s h && okW who num h)
def hlt (s : QS) (a b : Nat) : Bool := decide ((qH s a).toInt < (qH s b).toInt) || (decide (qH s a = qH s b) && decide (a < b))
def ahd (s : QS) (C : List Nat) (h : Nat) : Nat := (C.filter (fun c => hlt s c h)).length
def chl (s : QS) (n who : Nat) (num : Int32) : List Nat :=
  if who = 26 ∧ num.toInt < ((ch0 s n who num).length : Int) then (ch0 s n who num).filter (fun h => decide ((ahd s (ch0 s n who num) h : Int) < num.toInt)) else ch0 s n who num
def wgt (s : QS) (sh : Nat → Int32) (way h : Nat) : Int32 := if way = 27 then 1 else if way = 28 then room s h else sh h
def wsum (w : Nat → Int32) : List Nat → Int64 → Int64
  | [], t => t
  | h :: l, t => wsum w l (t + (w h).toInt64)
def gvp (a : Int32) (w : Nat → Int32) (tot : Int64) (rm : Int32) (h : Nat) : Int32 := (if rm.toInt64 < (a.toInt64 * (w h).toInt64) / tot then rm.toInt64 else (a.toInt64 * (w h).toInt64) / tot).toInt32
def gvl (src : Nat) (a : Int32) (w : Nat → Int32) (tot : Int64) : List Nat → QS × Int32 → QS × Int32
  | [], p => p
  | h :: l, p => gvl src a w tot l (hnd p.1 src h (gvp a w tot (room p.1 h) h), p.2 - gvp a w tot (room p.1 h) h)
def ons (src : Nat) : List Nat → QS × Int32 → QS × Int32
  | [], p => p
  | h :: l, p => if 0 < p.2.toInt ∧ can p.1 h = true then ons src l (hnd p.1 src h 1, p.2 + (-1)) else ons src l p
def ins (w : Nat → Int32) (h : Nat) : List Nat → List Nat
  | [] => [h]
  | x :: l => if (w x).toInt < (w h).toInt then h :: x :: l else x :: ins w h l
def isrt (w : Nat → Int32) : List Nat → List Nat → List Nat
  | [], acc => acc
  | h :: l, acc => isrt w l (ins w h acc)
def ordr (s : QS) (n q how : Nat) (C : List Nat) : List Nat := if how = 33 then isrt (qW s) C [] else if how = 34 then C.filter (fun h => decide (q % n ≤ h)) ++ C.filter (fun h => decide (h < q % n)) else C
def giv (s : QS) (n q : Nat) (sh : Nat → Int32) (how : Nat) (r : AR) (a : Int32) : QS :=
  if a = 0 then s else
  if 0 < (wsum (wgt s sh (rWay r)) (chl s n (rWho r) (rNum r)) 0).toInt then
    if (gvl (rSrc r) a (wgt s sh (rWay r)) (wsum (wgt s sh (rWay r)) (chl s n (rWho r) (rNum r)) 0) (chl s n (rWho r) (rNum r)) (s, a)).2.toInt < ((chl s n (rWho r) (rNum r)).length : Int) then
      (ons (rSrc r) (ordr (gvl (rSrc r) a (wgt s sh (rWay r)) (wsum (wgt s sh (rWay r)) (chl s n (rWho r) (rNum r)) 0) (chl s n (rWho r) (rNum r)) (s, a)).1 n q how (chl s n (rWho r) (rNum r))) (gvl (rSrc r) a (wgt s sh (rWay r)) (wsum (wgt s sh (rWay r)) (chl s n (rWho r) (rNum r)) 0) (chl s n (rWho r) (rNum r)) (s, a))).1
    else (gvl (rSrc r) a (wgt s sh (rWay r)) (wsum (wgt s sh (rWay r)) (chl s n (rWho r) (rNum r)) 0) (chl s n (rWho r) (rNum r)) (s, a)).1
  else s
/-! the class -/
section
variable {f : Nat} {s : QS} {n q : Nat} {u : MT}
theorem WV.n12 (h : WV u s n q) : n ≤ 12 := h.2.2.2.2.2.2.2.1
theorem c_room (hW : WV u s n q) {h : Nat} (hh : h < n) {x : Int32} (hx : Nm x h) : F_X10_room f x u = some (room s h, u) := by
  have h12 := hW.n12
  rw [F_X10_room, ck_p (hx.ix (by omega)), hx.nat, (hW.2.2.2.1 h hh).1, (hW.2.2.2.1 h hh).2.1]
  unfold room
  by_cases c : qL s h ≤ qW s h
  · rw [if_pos c, if_pos c]
  · rw [if_neg c, if_neg c]
/-- what is watched: nothing of another RULE; of this one what houses had more -/
def WD (x2 : Int32) (n : Nat) (u : MT) (s : QS) (r : MT) (s' : QS) : Prop := gI r 116 16 = gI u 116 16 ∧ (x2 = gI u 116 16 → ∀ h, h < n → gI r 126 h - qH s' h = gI u 126 h - qH s h) ∧ (x2 ≠ gI u 116 16 → ∀ h, h < n → gI r 126 h = gI u 126 h)
theorem WD.rfl {x2 : Int32} : WD x2 n u s u s := ⟨Eq.refl _, fun _ _ _ => Eq.refl _, fun _ _ _ => Eq.refl _⟩
theorem WD.trans {x2 : Int32} {v w : MT} {s' s'' : QS} (h : WD x2 n u s v s') (h' : WD x2 n v s' w s'') : WD x2 n u s w s'' :=
  ⟨h'.1.trans h.1, fun e k hk => (h'.2.1 (e.trans h.1.symm) k hk).trans (h.2.1 e k hk), fun e k hk => (h'.2.2 (fun e' => e (e'.trans h.1)) k hk).trans (h.2.2 e k hk)⟩
theorem WD.put {x2 : Int32} {v : MT} {s' : QS} (h : WD x2 n u s v s') {a k : Nat} {y : Int32} (h1 : a ≠ 126) (h2 : a ≠ 116 ∨ k ≠ 16) : WD x2 n u s (sI v a k y) s' := by
  have e16 : gI (sI v a k y) 116 16 = gI v 116 16 := by
    by_cases e : 116 = a
    · subst e; exact g_nk _ _ _ (by omega)
    · exact g_ne _ _ _ _ e
  have e126 : ∀ j, gI (sI v a k y) 126 j = gI v 126 j := fun j => g_ne _ _ _ _ (Ne.symm h1)
  exact ⟨e16.trans h.1, fun e j hj => by rw [e126]; exact h.2.1 e j hj, fun e j hj => by rw [e126]; exact h.2.2 e j hj⟩
theorem c_hand (hW : WV u s n q) {a1 h src : Nat} (ha : 128 ≤ a1) (hh : h < n) {x2 x3 x4 : Int32} (hx : Nm x3 h) (hs : gK u a1 5 = src) (hs34 : src ≤ 34) :
    Ok (F_X10_hand f a1 x2 x3 x4 u) (fun r => WV r (hnd s src h x4) n q ∧ WD x2 n u s r (hnd s src h x4)) := by
  have h12 := hW.n12
  obtain ⟨b1, b2, b3, b4, b5, b6, b7, b8, b9⟩ := hW
  have bh := b4 h hh
  -- the memory behind want, line, had
  have key : ∀ v : MT, (∀ a k, a ≠ 126 → gI v a k = gI (sI (sI (sI u 117 h (gI u 117 h - x4)) 118 h (gI u 118 h - x4)) 119 h (gI u 119 h + x4)) a k) → gK v a1 5 = src → WD x2 n u s v (hnd s src h x4) →
      Ok (B_X10_hand_52 f a1 x3 x4 v) (fun r => WV r (hnd s src h x4) n q ∧ WD x2 n u s r (hnd s src h x4)) := by
    intro v hv hk hD
    rw [B_X10_hand_52]
    refine Ok.ck (by rw [hk]; exact hs34) ?_
    rw [hk]
    have g117 : ∀ k, gI v 117 k = upf (gI u 117) h (gI u 117 h - x4) k := fun k => by
      rw [hv _ _ (by decide), g_ne _ _ _ _ (by decide), g_ne _ _ _ _ (by decide), g_at]; rfl
    have g118 : ∀ k, gI v 118 k = upf (gI u 118) h (gI u 118 h - x4) k := fun k => by
      rw [hv _ _ (by decide), g_ne _ _ _ _ (by decide), g_at, g_ne _ _ _ _ (by decide)]; rfl
    have g119 : ∀ k, gI v 119 k = upf (gI u 119) h (gI u 119 h + x4) k := fun k => by
      rw [hv _ _ (by decide), g_at, g_ne _ _ _ _ (by decide), g_ne _ _ _ _ (by decide)]; rfl
    have gg : ∀ a k, a ≠ 126 → a ≠ 117 → a ≠ 118 → a ≠ 119 → gI v a k = gI u a k := fun a k e1 e2 e3 e4 => by rw [hv _ _ e1, g_ne _ _ _ _ e4, g_ne _ _ _ _ e3, g_ne _ _ _ _ e2]
    have hu : ∀ (f' g' : Nat → Int32) (y z : Int32) (k : Nat), (∀ j, j < n → f' j = g' j) → y = z → k < n → upf f' h y k = upf g' h z k := fun f' g' y z k e1 e2 hk => by
      unfold upf; by_cases e : k = h
      · rw [if_pos e, if_pos e, e2]
      · rw [if_neg e, if_neg e, e1 k hk]
    refine Ok.ite (fun h9 => ?_) (fun h9 => ?_)
    · refine Ok.ck (hx.ix (by omega)) (Ok.some ?_)
      rw [hx.nat]
      refine ⟨⟨?_, ?_, ?_, fun k hk => ⟨?_, ?_, ?_, ?_, ?_⟩, fun k hk => ?_, ?_, ?_, b8, b9⟩, ?_⟩
      · rw [g_ne _ _ _ _ (by decide), g_same, gg _ _ (by decide) (by decide) (by decide) (by decide), b1]; exact (if_pos h9).symm
      · rw [g_ne _ _ _ _ (by decide), g_nk _ _ _ (by decide), gg _ _ (by decide) (by decide) (by decide) (by decide), b2]; exact (if_pos h9).symm
      · rw [g_ne _ _ _ _ (by decide), g_ne _ _ _ _ (by decide), gg _ _ (by decide) (by decide) (by decide) (by decide), b3]; rfl
      · rw [g_ne _ _ _ _ (by decide), g_ne _ _ _ _ (by decide), g117]; exact hu _ _ _ _ k (fun j hj => (b4 j hj).1) (by rw [bh.1]) hk
      · rw [g_ne _ _ _ _ (by decide), g_ne _ _ _ _ (by decide), g118]; exact hu _ _ _ _ k (fun j hj => (b4 j hj).2.1) (by rw [bh.2.1]) hk
      · rw [g_ne _ _ _ _ (by decide), g_ne _ _ _ _ (by decide), g119]; exact hu _ _ _ _ k (fun j hj => (b4 j hj).2.2.1) (by rw [bh.2.2.1]) hk
      · rw [g_at, g_ne _ _ _ _ (by decide), g_ne _ _ _ _ (by decide), gg _ _ (by decide) (by decide) (by decide) (by decide), gg _ _ (by decide) (by decide) (by decide) (by decide)]
        show _ = (if src = 9 then upf (qA s) h (qA s h + x4) else qA s) k
        rw [if_pos h9]
        exact hu (gI u 120) (qA s) _ _ k (fun j hj => (b4 j hj).2.2.2.1) (by rw [bh.2.2.2.1]) hk
      · rw [g_ne _ _ _ _ (by decide), g_ne _ _ _ _ (by decide), gg _ _ (by decide) (by decide) (by decide) (by decide), (b4 k hk).2.2.2.2]
        show _ = (if src = 9 then qB s else upf (qB s) h (qB s h + x4)) k
        rw [if_pos h9]
      · rw [g_ne _ _ _ _ (by decide), g_ne _ _ _ _ (by decide), gg _ _ (by decide) (by decide) (by decide) (by decide)]; exact b5 k hk
      · rw [g_ne _ _ _ _ (by decide), g_nk _ _ _ (by decide), gg _ _ (by decide) (by decide) (by decide) (by decide)]; exact b6
      · rw [g_ne _ _ _ _ (by decide), g_ne _ _ _ _ (by decide), gg _ _ (by decide) (by decide) (by decide) (by decide)]; exact b7
      · exact (hD.put (by decide) (Or.inr (by decide))).put (by decide) (Or.inl (by decide))
    · refine Ok.ck (hx.ix (by omega)) (Ok.some ?_)
      rw [hx.nat]
      refine ⟨⟨?_, ?_, ?_, fun k hk => ⟨?_, ?_, ?_, ?_, ?_⟩, fun k hk => ?_, ?_, ?_, b8, b9⟩, ?_⟩
      · rw [g_ne _ _ _ _ (by decide), g_nk _ _ _ (by decide), gg _ _ (by decide) (by decide) (by decide) (by decide), b1]; exact (if_neg h9).symm
      · rw [g_ne _ _ _ _ (by decide), g_same, gg _ _ (by decide) (by decide) (by decide) (by decide), b2]; exact (if_neg h9).symm
      · rw [g_ne _ _ _ _ (by decide), g_ne _ _ _ _ (by decide), gg _ _ (by decide) (by decide) (by decide) (by decide), b3]; rfl
      · rw [g_ne _ _ _ _ (by decide), g_ne _ _ _ _ (by decide), g117]; exact hu _ _ _ _ k (fun j hj => (b4 j hj).1) (by rw [bh.1]) hk
      · rw [g_ne _ _ _ _ (by decide), g_ne _ _ _ _ (by decide), g118]; exact hu _ _ _ _ k (fun j hj => (b4 j hj).2.1) (by rw [bh.2.1]) hk
      · rw [g_ne _ _ _ _ (by decide), g_ne _ _ _ _ (by decide), g119]; exact hu _ _ _ _ k (fun j hj => (b4 j hj).2.2.1) (by rw [bh.2.2.1]) hk
      · rw [g_ne _ _ _ _ (by decide), g_ne _ _ _ _ (by decide), gg _ _ (by decide) (by decide) (by decide) (by decide), (b4 k hk).2.2.2.1]
        show _ = (if src = 9 then upf (qA s) h (qA s h + x4) else qA s) k
        rw [if_neg h9]
      · rw [g_at, g_ne _ _ _ _ (by decide), g_ne _ _ _ _ (by decide), gg _ _ (by decide) (by decide) (by decide) (by decide), gg _ _ (by decide) (by decide) (by decide) (by decide)]
        show _ = (if src = 9 then qB s else upf (qB s) h (qB s h + x4)) k
        rw [if_neg h9]
        exact hu (gI u 121) (qB s) _ _ k (fun j hj => (b4 j hj).2.2.2.2) (by rw [bh.2.2.2.2]) hk
      · rw [g_ne _ _ _ _ (by decide), g_ne _ _ _ _ (by decide), gg _ _ (by decide) (by decide) (by decide) (by decide)]; exact b5 k hk
      · rw [g_ne _ _ _ _ (by decide), g_nk _ _ _ (by decide), gg _ _ (by decide) (by decide) (by decide) (by decide)]; exact b6
      · rw [g_ne _ _ _ _ (by decide), g_ne _ _ _ _ (by decide), gg _ _ (by decide) (by decide) (by decide) (by decide)]; exact b7
      · exact (hD.put (by decide) (Or.inr (by decide))).put (by decide) (Or.inl (by decide))
  rw [F_X10_hand]
  refine Ok.ck (hx.ix (by omega)) ?_
  rw [hx.nat]
  dsimp only
  rw [g_ne (sI u 117 h (gI u 117 h - x4)) _ _ _ (show (119 : Nat) ≠ 118 by decide) |> fun e => e, g_ne _ _ _ _ (show (118 : Nat) ≠ 117 by decide), g_ne _ _ _ _ (show (119 : Nat) ≠ 117 by decide)]
  have e16 : gI (sI (sI (sI u 117 h (gI u 117 h - x4)) 118 h (gI u 118 h - x4)) 119 h (gI u 119 h + x4)) 116 16 = gI u 116 16 := by rw [g_ne _ _ _ _ (by decide), g_ne _ _ _ _ (by decide), g_ne _ _ _ _ (by decide)]
  have e126 : ∀ k, gI (sI (sI (sI u 117 h (gI u 117 h - x4)) 118 h (gI u 118 h - x4)) 119 h (gI u 119 h + x4)) 126 k = gI u 126 k := fun k => by rw [g_ne _ _ _ _ (by decide), g_ne _ _ _ _ (by decide), g_ne _ _ _ _ (by decide)]
  rw [e16]
  refine Ok.ite (fun hw => ?_) (fun hw => ?_)
  · refine key _ (fun a k ha => g_ne _ _ _ _ ha) hs ⟨(g_ne _ _ _ _ (by decide)).trans e16, fun _ k hk => ?_, fun e => absurd hw e⟩
    rw [g_at, e126, e126]
    show _ - upf (qH s) h (qH s h + x4) k = _
    unfold upf
    by_cases e : k = h
    · rw [if_pos e, if_pos e, e]; grind
    · rw [if_neg e, if_neg e]
  · refine key _ (fun a k _ => rfl) hs ⟨e16, fun e => absurd e hw, fun _ k hk => e126 k⟩
end
