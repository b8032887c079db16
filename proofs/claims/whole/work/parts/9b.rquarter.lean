/-! ===== the reference: one quarter ===== -/
def tcn (V : VD) (X : XD) (d : Int32) (h q : Nat) : Int32 := cnH (tS V X d q) (gft (tw V d q) (tg V d q)) h
def tes (V : VD) (X : XD) (d : Int32) (k q : Nat) : Int32 := esum (vlN V) (tS V X d q) (tpf V d q) (vlL V) k
def RSum (V : VD) (X : XD) (d : Int32) (q : Nat) (t : MT) : Prop :=
  (∀ h, h < vlN V → gI t 210 h = sm (tcn V X d h) q) ∧ gI t 210 12 = sm (tes V X d 8) q ∧ gI t 210 13 = sm (tes V X d 9) q ∧ ∀ j, vlN V ≤ j → j < 12 → gI t 210 j = 0
/-- ahead of a quarter -/
def Lq (V : VD) (X : XD) (d : Int32) (q : Nat) (t : MT) : Prop :=
  Nm (gI t 167 43) q ∧ gI t 167 42 = d ∧ gI t 167 45 = (if q = 0 then 0 else qS (tPr V X d q) - qS (tPr V X d q) * vlL V / 1000) ∧
  (∀ h, h < vlN V → gI t 197 h = ovr (trp V d q h) (vlW V) 0 ∧ gI t 198 h = ovr (trp V d q h) (vlG V) 0 ∧ gI t 207 h = qH (tPr V X d q) h) ∧
  (∀ k, k < 4 → gI t 196 k = if q = 0 then 0 else qR (tPr V X d q) k) ∧ RSum V X d q t
/-- behind a quarter -/
def Rw (V : VD) (X : XD) (d : Int32) (sl : Nat → Nat) (q : Nat) (t : MT) : Prop :=
  (∀ h, h < vlN V → gI t 197 h = tw V d q h ∧ gI t 198 h = tg V d q h ∧ gI t 199 h = (if (tla V d q h).isSome then 0 else 1) ∧ gI t 200 h = own (tw V d q h) (tg V d q h) ∧ gI t 201 h = qW (tS V X d q) h - room (tS V X d q) h ∧ gI t 204 h = qA (tS V X d q) h ∧ gI t 205 h = qB (tS V X d q) h ∧ gI t 206 h = room (tS V X d q) h ∧ gI t 208 h = tcn V X d h q) ∧
  gI t 167 60 = tpf V d q ∧ gI t 167 61 = qF (tS V X d q) ∧ gI t 167 63 = tes V X d 6 q ∧ gI t 167 64 = tes V X d 3 q ∧ gI t 167 65 = tes V X d 8 q ∧ gI t 167 66 = tes V X d 9 q ∧ gI t 167 62 = tes V X d 5 q ∧ gI t 167 45 = tes V X d 4 q ∧
  (∀ k, k < 4 → gI t 196 k = qR (tS V X d q) k) ∧ gI t 167 44 = txC ((txO X d q).map sl) ∧
  (∀ i, txO X d q = some i → Bys (vlN V) q (vlS V) (vlC V) (xtH X i) (xtR X i) (tB V d q (tPr V X d q)) (xtR X i).length t) ∧ RSum V X d (q + 1) t
section
variable {f : Nat}
theorem r_quarter {V : VD} {X0 X : XD} {sl : Nat → Nat} {t : MT} {q m : Nat} {x x3 d : Int32} (hf : 1300 < f) (hV : VOk V) (hX0 : xtT X0 ≤ 6) (hX : XOk V X) (hR : VR V t) (h0 : XR0 X0 t) (h1 : XR1 X sl t) (hin : (if x3 = 0 then txC (txF (xtQ X0) (xtD X0) (Int32.ofNat q) d (xtT X0)) else 6) = txC ((txO X d q).map sl)) (hq : q < 240) (hL : Lq V X d q t) (hx : ¬ x < gI t 167 43) :
    ∃ t', B_X12_works_102 f (m + 1) x x3 t = B_X12_works_102 f m x x3 t' ∧ Lq V X d (q + 1) t' ∧ Rw V X d sl q t' ∧ Fr wI_X12_works [] [] t t' := by
  have hV' := hV
  obtain ⟨V1, V2, V3, V4, V5, V6, V7, V8⟩ := hV'
  obtain ⟨L1, L2, L3, L4, L5, L6⟩ := hL
  have hR' := hR
  obtain ⟨R1, R2, R3, R4, R5, R6⟩ := hR'
  have eq43 : gI t 167 43 = Int32.ofNat q := L1.inj (Nm.of (by omega))
  have ew : (fun h => ovr (lasR (vlH V) (vlQ V) (vlD V) (Int32.ofNat q) d h (vlR V)) (vlW V) (ovr (trp V d q h) (vlW V) 0)) = tw V d q := funext (fun h => tw_eq q h _)
  have eg : (fun h => ovr (lasR (vlH V) (vlQ V) (vlD V) (Int32.ofNat q) d h (vlR V)) (vlG V) (ovr (trp V d q h) (vlG V) 0)) = tg V d q := funext (fun h => tw_eq q h _)
  obtain ⟨r20, e20, a1, a2, a3, a4, a5⟩ := r_qbegin (f := f) (n := vlN V) (u := t) (q := q) (R := vlR V) (nt := xtT X0) (rh := vlH V) (rq := vlQ V) (rw' := vlW V) (rg := vlG V) (rd := vlD V) (tq := xtQ X0) (td := xtD X0) (wa := fun h => ovr (trp V d q h) (vlW V) 0) (gi := fun h => ovr (trp V d q h) (vlG V) 0) (hd := qH (tPr V X d q)) (pr := fun k => if q = 0 then 0 else qR (tPr V X d q) k) (be := vlB V) (qI := Int32.ofNat q) (d := d) (st := if q = 0 then 0 else qS (tPr V X d q) - qS (tPr V X d q) * vlL V / 1000) (x1 := x3) hf V1 hq R1 L1 eq43 L2 V2 R2 L3
    (fun k hk => by obtain ⟨c1, c2, c3, c4, c5⟩ := R3 k hk; obtain ⟨⟨h', _, g1, g2, _⟩, _⟩ := V3 k hk; exact ⟨c1, c2, c3, c4, c5, g1.ix g2⟩) (fun h hh => ⟨(L4 h hh).1, (L4 h hh).2.1, (R4 h hh).2, (L4 h hh).2.2⟩) L5 h0.1 hX0 h0.2
  have b1 : XV r20 (tB V d q (tPr V X d q)) (vlN V) q := by unfold tB; rw [← ew, ← eg]; exact a1
  have b3 : gI r20 167 60 = tpf V d q := by unfold tpf; rw [← ew, ← eg]; exact a3
  have b2 : ∀ h, h < vlN V → gI r20 197 h = tw V d q h ∧ gI r20 198 h = tg V d q h ∧ gI r20 199 h = (if (tla V d q h).isSome then 0 else 1) ∧ gI r20 200 h = own (tw V d q h) (tg V d q h) ∧ gI r20 203 h = gft (tw V d q) (tg V d q) h := fun h hh => by
    rw [← ew, ← eg]; exact a2 h hh
  have b5 : gI r20 167 44 = txC ((txO X d q).map sl) := by rw [a5]; exact hin
  have fB := fr_F_X12_quarterBegins e20
  have sB : Sfr t r20 := ⟨fun a j c1 c2 => fB.1 _ _ (by simp [nin, wI_X12_quarterBegins] <;> omega), fB.1 _ _ (by simp [nin, wI_X12_quarterBegins]), fB.1 _ _ (by simp [nin, wI_X12_quarterBegins]), fB.1 _ _ (by simp [nin, wI_X12_quarterBegins]), fB.1 _ _ (by simp [nin, wI_X12_quarterBegins]), fB.1 _ _ (by simp [nin, wI_X12_quarterBegins])⟩
  obtain ⟨S1, S2, S3, S4, S5, S6⟩ := hR.fr sB
  have h1B := h1.fr sB
  -- the RULES
  have rl : ∀ jj, ∃ v, B_X12_works_118 f jj f x x3 0 r20 = B_X12_works_151 f jj x x3 v ∧ XV v (tS V X d q) (vlN V) q ∧ (∀ i, txO X d q = some i → Bys (vlN V) q (vlS V) (vlC V) (xtH X i) (xtR X i) (tB V d q (tPr V X d q)) (xtR X i).length v) ∧ Fr wI_X12_rule [] [] r20 v := by
    intro jj
    rw [tS_eq]
    unfold tN
    cases et : txO X d q with
    | none =>
      refine ⟨r20, ?_, b1, fun i c => (by cases c), Fr_rfl⟩
      rw [et] at b5
      obtain ⟨f', rfl⟩ : ∃ m', f = m' + 1 := ⟨f - 1, by omega⟩
      rw [B_X12_works_118, if_pos (by rw [b5]; exact (by decide : (-1 : Int32) < 0))]
    | some i =>
      rw [et] at b5
      have hi := txF_lt _ et
      obtain ⟨k1, k2⟩ := h1B i hi
      obtain ⟨o1, o2, o3, o4, o5⟩ := hX.2 i hi
      have n44 : Nm (gI r20 167 44) (sl i) := by rw [b5]; exact Nm.of (by omega)
      obtain ⟨v, v1, v2, v3, v4⟩ := r_rules (f := f) (x1 := x) (x3 := x3) (jj := jj) (cap := vlC V) (sh := vlS V) hf b1 (tB_ok hV (tPr_st hV q)) S5 n44 k1 k2 ⟨o2, o3⟩ o4 o5 (fun h hh => (S4 h hh).1) (fun h hh => ⟨(V4 h hh).1, (V4 h hh).2.1⟩) a4
      exact ⟨v, v1, v2, fun j c => by cases c; exact v3, v4⟩
  obtain ⟨v, v1, v2, v3, v4⟩ := rl (fun x1' x3' u' => B_X12_works_102 f m x1' x3' u')
  have hok := tS_ok (X := X) (d := d) hV q
  obtain ⟨r28, e28, z1, z2, z3, z4, z5, z6, z7, z8, z9, z10⟩ := r_ends (f := f) (g := gft (tw V d q) (tg V d q)) (pf := tpf V d q) (loss := vlL V) hf v2 hok.1 hok.2 (fun h hh => by rw [v4.1 _ _ (by simp [nin, wI_X12_rule])]; exact (b2 h hh).2.2.2.2) rfl (by rw [v4.1 _ _ (by simp [nin, wI_X12_rule])]; exact S6) ⟨V7, V8⟩
  have fE := fr_F_X12_quarterEnds e28
  refine ⟨sI r28 167 43 (gI r28 167 43 + 1), ?_, ?_, ?_, ?_⟩
  · rw [B_X12_works_102, if_neg hx, e20]
    show B_X12_works_118 f (fun x1' x3' u' => B_X12_works_102 f m x1' x3' u') f x x3 0 r20 = _
    rw [v1, B_X12_works_151, e28]
    rfl
  · -- ahead of the next
    have w2 := v2
    obtain ⟨c1, c2, c3, c4, c5, c6, c7, c8⟩ := w2
    have q43 : gI r28 167 43 = gI t 167 43 := by rw [fE.1 _ _ (by simp [nin, wI_X12_quarterEnds]), v4.1 _ _ (by simp [nin, wI_X12_rule]), fB.1 _ _ (by simp [nin, wI_X12_quarterBegins])]
    refine ⟨?_, ?_, ?_, fun h hh => ⟨?_, ?_, ?_⟩, fun k hk => ?_, ⟨fun h hh => ?_, ?_, ?_, fun j c1 c2 => ?_⟩⟩
    · rw [g_same, q43]; exact L1.succ (by omega)
    · rw [g_nk _ _ _ (by decide), fE.1 _ _ (by simp [nin, wI_X12_quarterEnds]), v4.1 _ _ (by simp [nin, wI_X12_rule]), fB.1 _ _ (by simp [nin, wI_X12_quarterBegins])]; exact L2
    · rw [g_nk _ _ _ (by decide), z7, if_neg (by omega)]; rfl
    · rw [g_ne _ _ _ _ (by decide), fE.1 _ _ (by simp [nin, wI_X12_quarterEnds]), v4.1 _ _ (by simp [nin, wI_X12_rule])]; exact (b2 h hh).1
    · rw [g_ne _ _ _ _ (by decide), fE.1 _ _ (by simp [nin, wI_X12_quarterEnds]), v4.1 _ _ (by simp [nin, wI_X12_rule])]; exact (b2 h hh).2.1
    · rw [g_ne _ _ _ _ (by decide), fE.1 _ _ (by simp [nin, wI_X12_quarterEnds])]; exact (c4 h hh).2.2.1
    · rw [g_ne _ _ _ _ (by decide), fE.1 _ _ (by simp [nin, wI_X12_quarterEnds]), if_neg (by omega)]; exact c5 k hk
    · rw [g_ne _ _ _ _ (by decide), (z1 h hh).2.2.2, v4.1 _ _ (by simp [nin, wI_X12_rule]), fB.1 _ _ (by simp [nin, wI_X12_quarterBegins]), L6.1 h hh]; rfl
    · rw [g_ne _ _ _ _ (by decide), z8, v4.1 _ _ (by simp [nin, wI_X12_rule]), fB.1 _ _ (by simp [nin, wI_X12_quarterBegins]), L6.2.1]; rfl
    · rw [g_ne _ _ _ _ (by decide), z9, v4.1 _ _ (by simp [nin, wI_X12_rule]), fB.1 _ _ (by simp [nin, wI_X12_quarterBegins]), L6.2.2.1]; rfl
    · rw [g_ne _ _ _ _ (by decide), z10 j c1 c2, v4.1 _ _ (by simp [nin, wI_X12_rule]), fB.1 _ _ (by simp [nin, wI_X12_quarterBegins])]; exact L6.2.2.2 j c1 c2
  · have w2 := v2
    obtain ⟨c1, c2, c3, c4, c5, c6, c7, c8⟩ := w2
    refine ⟨fun h hh => ⟨?_, ?_, ?_, ?_, ?_, ?_, ?_, ?_, ?_⟩, ?_, ?_, ?_, ?_, ?_, ?_, ?_, ?_, fun k hk => ?_, ?_, fun i hi => ?_, ⟨fun h hh => ?_, ?_, ?_, fun j c1 c2 => ?_⟩⟩
    · rw [g_ne _ _ _ _ (by decide), fE.1 _ _ (by simp [nin, wI_X12_quarterEnds]), v4.1 _ _ (by simp [nin, wI_X12_rule])]; exact (b2 h hh).1
    · rw [g_ne _ _ _ _ (by decide), fE.1 _ _ (by simp [nin, wI_X12_quarterEnds]), v4.1 _ _ (by simp [nin, wI_X12_rule])]; exact (b2 h hh).2.1
    · rw [g_ne _ _ _ _ (by decide), fE.1 _ _ (by simp [nin, wI_X12_quarterEnds]), v4.1 _ _ (by simp [nin, wI_X12_rule])]; exact (b2 h hh).2.2.1
    · rw [g_ne _ _ _ _ (by decide), fE.1 _ _ (by simp [nin, wI_X12_quarterEnds]), v4.1 _ _ (by simp [nin, wI_X12_rule])]; exact (b2 h hh).2.2.2.1
    · rw [g_ne _ _ _ _ (by decide)]; exact (z1 h hh).1
    · rw [g_ne _ _ _ _ (by decide), fE.1 _ _ (by simp [nin, wI_X12_quarterEnds])]; exact (c4 h hh).2.2.2.1
    · rw [g_ne _ _ _ _ (by decide), fE.1 _ _ (by simp [nin, wI_X12_quarterEnds])]; exact (c4 h hh).2.2.2.2
    · rw [g_ne _ _ _ _ (by decide)]; exact (z1 h hh).2.1
    · rw [g_ne _ _ _ _ (by decide)]; exact (z1 h hh).2.2.1
    · rw [g_nk _ _ _ (by decide), fE.1 _ _ (by simp [nin, wI_X12_quarterEnds]), v4.1 _ _ (by simp [nin, wI_X12_rule])]; exact b3
    · rw [g_nk _ _ _ (by decide), fE.1 _ _ (by simp [nin, wI_X12_quarterEnds])]; exact c3
    · rw [g_nk _ _ _ (by decide)]; exact z2
    · rw [g_nk _ _ _ (by decide)]; exact z3
    · rw [g_nk _ _ _ (by decide)]; exact z4
    · rw [g_nk _ _ _ (by decide)]; exact z5
    · rw [g_nk _ _ _ (by decide)]; exact z6
    · rw [g_nk _ _ _ (by decide)]; exact z7
    · rw [g_ne _ _ _ _ (by decide), fE.1 _ _ (by simp [nin, wI_X12_quarterEnds])]; exact c5 k hk
    · rw [g_nk _ _ _ (by decide), fE.1 _ _ (by simp [nin, wI_X12_quarterEnds]), v4.1 _ _ (by simp [nin, wI_X12_rule])]; exact b5
    · intro j hj
      obtain ⟨y1, y2⟩ := v3 i hi j hj
      have e9 : ∀ k, gI (sI r28 167 43 (gI r28 167 43 + 1)) 209 k = gI v 209 k := fun k => by rw [g_ne _ _ _ _ (by decide)]; exact fE.1 _ _ (by simp [nin, wI_X12_quarterEnds])
      exact ⟨fun h hh => by rw [e9]; exact y1 h hh, by rw [e9]; exact y2⟩
    · rw [g_ne _ _ _ _ (by decide), (z1 h hh).2.2.2, v4.1 _ _ (by simp [nin, wI_X12_rule]), fB.1 _ _ (by simp [nin, wI_X12_quarterBegins]), L6.1 h hh]; rfl
    · rw [g_ne _ _ _ _ (by decide), z8, v4.1 _ _ (by simp [nin, wI_X12_rule]), fB.1 _ _ (by simp [nin, wI_X12_quarterBegins]), L6.2.1]; rfl
    · rw [g_ne _ _ _ _ (by decide), z9, v4.1 _ _ (by simp [nin, wI_X12_rule]), fB.1 _ _ (by simp [nin, wI_X12_quarterBegins]), L6.2.2.1]; rfl
    · rw [g_ne _ _ _ _ (by decide), z10 j c1 c2, v4.1 _ _ (by simp [nin, wI_X12_rule]), fB.1 _ _ (by simp [nin, wI_X12_quarterBegins])]; exact L6.2.2.2 j c1 c2
  · have up : ∀ {A : WL} {p r : MT}, (∀ e, e ∈ A → e ∈ wI_X12_works) → Fr A [] [] p r → Fr wI_X12_works [] [] p r := fun hA h => Fr_up hA (fun _ h => h) (fun _ h => h) h
    have g1 := up (by decide) fB
    have g2 := up (by decide) v4
    have g3 := up (by decide) fE
    have g4 := Fr_tr g3 (Fr_tr g2 g1)
    refine ⟨fun a k hn => ?_, fun a k hn => g4.2.1 a k hn, fun a k hn => g4.2.2 a k hn⟩
    rw [← g4.1 a k hn]
    by_cases c : a = 167
    · subst c
      by_cases c2 : k = 43
      · subst c2; simp [nin, wI_X12_works] at hn
      · exact g_nk _ _ _ c2
    · exact g_ne _ _ _ _ c
end
