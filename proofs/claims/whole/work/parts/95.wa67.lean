/-! ===== the text in force runs, the quarter is written ===== -/
def rulO (n q : Nat) (sh : Nat → Int32) (cap : Int32) (rsF : Nat → List AR) (hwF : Nat → Nat) (o : Option Nat) (s : QS) : QS := match o with
  | some t => ruls n q sh cap (hwF t) (rsF t) s
  | none => s
theorem txF_lt {tq td : Nat → Int32} {q d : Int32} {t : Nat} : ∀ T, txF tq td q d T = some t → t < T := by
  intro T
  induction T with
  | zero => intro h; cases h
  | succ T ih =>
    intro h
    rw [txF] at h
    split at h
    · cases h; omega
    · have := ih h; omega
theorem c_wa67 {f : Nat} {w : LT} {v : MT} {b ts q n T : Nat} {x d pf loss cap : Int32} {sh tq td : Nat → Int32} {rsF : Nat → List AR} {hwF : Nat → Nat} {s : QS} {hn : Int} (hf : 1300 < f) (hW : WV v s n q) (h0 : gI v 127 0 = pf) (h6 : gI v 127 6 = 0) (h7 : gI v 127 7 = 0) (hl : gI v 116 2 = loss) (hx : Nm x q) (hb : 127 < b) (hd : gI v b 4 = d)
    (hT : Nm (gI v ts 1) T) (hT6 : T ≤ 6) (hk : ∀ t, t < T → lt_t w (lt_p w (ts + 1) t) = 7 ∧ 128 ≤ lt_p w (ts + 1) t) (hq : ∀ t, t < T → gI v (lt_p w (ts + 1) t) 5 = tq t) (htd : ∀ t, t < T → gI v (lt_p w (ts + 1) t) 6 = td t)
    (hC : ∀ t, t < T → CT v (lt_p w (ts + 1) t) (rsF t) (hwF t) ∧ hwF t ≤ 34 ∧ (rsF t).length ≤ 24 ∧ ∀ r ∈ rsF t, RV hn r) (hsh : ∀ h, h < n → gI v 102 h = sh h) (hcap : gI v 116 1 = cap) :
    ∃ v', Ru v v' ∧ Ok (wa67 w f b ts x v) (Fin' b q n (rulO n q sh cap rsF hwF (txF tq td x d T) s) pf loss v') ∧ ∀ i t, Nm (gI v 116 16) i → (∀ h, h < n → gI v 126 h = 0) → gI v 116 17 = 0 → txF tq td x d T = some t → Wt n q sh cap (hwF t) (rsF t) s i (rsF t).length v' := by
  rw [wa67, hd, c_inForce (tq := tq) (td := td) (by omega) hT hT6 (fun t ht => (hk t ht).1) hq htd]
  show ∃ v', Ru v v' ∧ Ok (if ptF w ts (txF tq td x d T) = 0 then B_X1_workAgain_115 w f b ts x (ptF w ts (txF tq td x d T)) 0 v else ck (lt_t w (ptF w ts (txF tq td x d T)) = 7) (B_X1_workAgain_115 w f b ts x (ptF w ts (txF tq td x d T)) (gI v (ptF w ts (txF tq td x d T)) 1) v)) _ ∧ _
  cases et : txF tq td x d T with
  | none =>
    refine ⟨v, ⟨fun _ _ => rfl, fun _ _ _ => rfl⟩, Ok.t rfl ?_, fun _ _ _ _ _ c => by cases c⟩
    obtain ⟨f', ef⟩ : ∃ m', f = m' + 1 := ⟨f - 1, by omega⟩
    have : B_X1_workAgain_115 w f b ts x (ptF w ts none) 0 v = ((F_X10_end f v).bind fun r22 => (F_X1_write f b ts x r22).bind fun r24 => some r24) := by
      rw [B_X1_workAgain_115]
      have : ∀ m, m = f' + 1 → B_X1_workAgain_120 w f b ts m x (ptF w ts none) 0 0 v = ((F_X10_end f v).bind fun r22 => (F_X1_write f b ts x r22).bind fun r24 => some r24) := by
        intro m hm
        subst hm
        rw [B_X1_workAgain_120, if_pos (by decide)]
      exact this f ef
    rw [this]
    exact c_fin hf hW h0 h6 h7 hl hx hb
  | some t =>
    have ht := txF_lt T et
    obtain ⟨c1, c2, c3, c4⟩ := hC t ht
    obtain ⟨k1, k2⟩ := hk t ht
    have hlen : Nm (gI v (lt_p w (ts + 1) t) 1) (rsF t).length := by obtain ⟨⟨c, _, g, _⟩, _⟩ := c1; exact g
    obtain ⟨v', e1, w1, u1, y1⟩ := c_rules (f := f) (w := w) (b := b) (ts := ts) (x := x) (sh := sh) (cap := cap) hf k1 k2 hW c1 c2 c3 hlen hsh hcap c4
    refine ⟨v', u1, Ok.f (show ¬ lt_p w (ts + 1) t = 0 by omega) (Ok.ck k1 ?_), fun i t' h1 h2 h3 c => by cases c; exact y1 i h1 h2 h3⟩
    show Ok (B_X1_workAgain_115 w f b ts x (lt_p w (ts + 1) t) (gI v (lt_p w (ts + 1) t) 1) v) _
    rw [B_X1_workAgain_115, e1]
    exact c_fin hf w1 (by rw [u1.1 0 (by omega)]; exact h0) (by rw [u1.1 6 (by omega)]; exact h6) (by rw [u1.1 7 (by omega)]; exact h7) (by rw [u1.2 _ _ (by omega)]; exact hl) hx hb
