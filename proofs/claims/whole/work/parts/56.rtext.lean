/-! ===== the reference reads a text ===== -/
def Kq (u v : MT) : Prop := (∀ a k, 175 ≤ a → a ≤ 181 → k < 168 → gI v a k = gI u a k) ∧ ∀ k, k < 9100 → gI v 182 k = gI u 182 k ∧ gI v 183 k = gI u 183 k
theorem Kq.rfl {u : MT} : Kq u u := ⟨fun _ _ _ _ _ => Eq.refl _, fun _ _ => ⟨Eq.refl _, Eq.refl _⟩⟩
theorem Kq.trans {u v w : MT} (h : Kq u v) (h' : Kq v w) : Kq u w := ⟨fun a k h1 h2 h3 => (h'.1 a k h1 h2 h3).trans (h.1 a k h1 h2 h3), fun k hk => ⟨(h'.2 k hk).1.trans (h.2 k hk).1, (h'.2 k hk).2.trans (h.2 k hk).2⟩⟩
theorem Kp.q {s : Nat} {u v : MT} (h : Kp s u v) : Kq u v := ⟨fun a k h1 h2 h3 => h.1 a k h1 h2 (by omega), h.2⟩
theorem Kq_put {u : MT} {a k : Nat} {x : Int32} (h : a < 175 ∨ 183 < a) : Kq u (sI u a k x) := ⟨fun b j h1 h2 h3 => g_ne _ _ _ _ (by omega), fun j hj => ⟨g_ne _ _ _ _ (by omega), g_ne _ _ _ _ (by omega)⟩⟩
section
variable {f : Nat} {E : ET} {i s : Nat} {u : MT} {hn : Int}
theorem r_isRule (h : RS E i u) : F_X12_isRule f u = some (b2i (16 ≤ tT E i ∧ tT E i ≤ 19), u) := by
  have st : ∀ (w t : Nat) (x : Int32) (hw : w < 24) (hx : Nm x w) (e : wtok.getD w 0 = t), F_X12_isWord f x u = some (b2i (tT E i = t), u) := fun w t x hw hx e => by rw [r_isWord h hw hx, e]
  rw [F_X12_isRule, bS (st 0 16 0 (by decide) rfl rfl)]
  dsimp only
  by_cases h1 : tT E i = 16
  · rw [b2i_t h1, if_neg ni1, b2i_t (by omega)]; rfl
  · rw [b2i_f h1, if_pos rfl, bS (st 1 17 1 (by decide) rfl rfl)]
    dsimp only
    by_cases h2 : tT E i = 17
    · rw [b2i_t h2, if_neg ni1, b2i_t (by omega)]; rfl
    · rw [b2i_f h2, if_pos rfl, bS (st 5 18 5 (by decide) rfl rfl)]
      dsimp only
      by_cases h3 : tT E i = 18
      · rw [b2i_t h3, if_neg ni1, b2i_t (by omega)]; rfl
      · rw [b2i_f h3, if_pos rfl, bS (st 6 19 6 (by decide) rfl rfl)]
        dsimp only
        by_cases h4 : tT E i = 19
        · rw [b2i_t h4, if_neg ni1, b2i_t (by omega)]; rfl
        · rw [b2i_f h4, if_pos rfl, b2i_f (by omega)]
theorem pRule_fin {cnt : Nat} (hb : 16 ≤ tT E i ∧ tT E i ≤ 19) (hc : cnt < 24) (hw : (pWhen E i).1 = 0) :
    ((pRule E hn cnt i).1, (pRule E hn cnt i).2.1) = finA E hn (pWhen E i).2.2 (pWhen E i).2.1 ∧ ((pRule E hn cnt i).1 = 0 → (pRule E hn cnt i).2.2 = (pAct E hn (pWhen E i).2.2 (pWhen E i).2.1).2.2 ∧ (pAct E hn (pWhen E i).2.2 (pWhen E i).2.1).1 = 0) := by
  unfold pRule finA semi
  rw [if_pos hb, if_pos hc, if_pos hw]
  by_cases h1 : (pAct E hn (pWhen E i).2.2 (pWhen E i).2.1).1 = 0
  · rw [if_pos h1, if_pos h1]
    by_cases h6 : tT E (pAct E hn (pWhen E i).2.2 (pWhen E i).2.1).2.1 = 6
    · rw [if_pos h6, if_pos h6]; exact ⟨rfl, fun _ => ⟨rfl, h1⟩⟩
    · rw [if_neg h6, if_neg h6]; exact ⟨rfl, fun h => absurd h ne1⟩
  · rw [if_neg h1, if_neg h1]; exact ⟨rfl, fun h => absurd h h1⟩
def RUp (E : ET) (s : Nat) (u : MT) (c : Nat) (p : Nat × Nat × AR) (r : MT) : Prop :=
  (p.1 ≠ 0 → gI r 167 8 = flt E (Int32.ofNat p.1) p.2.1 ∧ Kq u r) ∧
  (p.1 = 0 → RS E p.2.1 r ∧ Nm (gI r 173 7) (s + 1) ∧ Kp s u r ∧ ∃ c', Nm (gI r 184 7) c' ∧ c ≤ c' ∧ c' ≤ 2 * (s + 1) + p.2.1 ∧ RR r 9100 (168 + s) c' p.2.2 ∧ ∀ k, k < 9100 + c → gI r 182 k = gI u 182 k ∧ gI r 183 k = gI u 183 k)
theorem y_rule (hf : 1300 < f) (h : RS E i u) (hs : Nm (gI u 173 7) s) (hs24 : s ≤ 24) (hh : (gI u 167 31).toInt = hn) (h0 : 0 ≤ hn) {c : Nat} (hc : Nm (gI u 184 7) c) (hcB : c ≤ 2 * s + i) : Ok (F_X12_readRule f u) (RUp E s u c (pRule E hn s i)) := by
  have hL := h.2.1.1
  have hi := h.2.2.2.2
  rw [F_X12_readRule]
  refine Ok.bindE (r_isRule h) ?_
  dsimp only
  by_cases hb : 16 ≤ tT E i ∧ tT E i ≤ 19
  · rw [b2i_t hb]
    refine Ok.f ni1 ?_
    by_cases h24 : s < 24
    · have hlt := h.lt (show tT E i ≠ 2 by omega)
      have hz : gI u 167 8 ≤ 0 := by rw [h.2.2.1]; decide
      have hx : Nm ((168 : Int32) + gI u 173 7) (168 + s) := Nm.add (show Nm (168 : Int32) 168 from rfl) hs (by omega)
      refine Ok.f (fun e => by have := (hs.eq (show Nm (24 : Int32) 24 from rfl)).mp e; omega) ?_
      rw [B_X12_readRule_32]
      refine Ok.t hz ?_
      have hw := pWhen_far h.2.1 hi hb
      -- behind the when
      have tail : ∀ (v : MT) (s0 : Int32) (c1 B : Nat), (pWhen E i).1 = 0 → RS E (pWhen E i).2.1 v → Kp s u v → gI v 173 7 = gI u 173 7 → gI v 167 31 = gI u 167 31 → Nm (gI v 184 7) c1 → c ≤ c1 → c1 ≤ B + (pWhen E i).2.1 → B ≤ 2 * s + 1 → codR v 9100 c1 s0 (pWhen E i).2.2 → (∀ k, k < 9100 + c → gI v 182 k = gI u 182 k ∧ gI v 183 k = gI u 183 k) →
          Ok (B_X12_readRule_73 f ((168 : Int32) + gI u 173 7) s0 ((168 : Int32) + gI u 173 7) v) (RUp E s u c (pRule E hn s i)) := by
        intro v s0 c1 B hp0 hv hk h173 h31 hc1 hcc1 hc1B hB hcod hpre
        have hw1 := hw.1 hp0
        have hfin := pRule_fin (hn := hn) hb h24 hp0
        have hpa := pAct_far h.2.1 (hn := hn) hw1.2.2.2 (i := (pWhen E i).2.1) hw1.2.1
        refine (y73 (w := (pWhen E i).2.2) hf hx h24 hv (by rw [h31]; exact hh) h0 hc1 hc1B (by omega)).mono (fun r hr => ?_)
        unfold AP at hr
        rw [← hfin.1] at hr
        refine ⟨fun hk0 => ⟨(hr.1 hk0).1, (hk.trans (hr.1 hk0).2).q⟩, fun hk0 => ?_⟩
        obtain ⟨r1, r2, r3, r4, c', r5, r6, r7, r8, r9⟩ := hr.2 hk0
        have he := hfin.2 hk0
        have hpa1 := hpa.1 he.2
        refine ⟨r1, ?_, hk.trans r2, c', r5, by omega, ?_, ?_, fun k hk' => ?_⟩
        · rw [r3, h173]; exact hs.succ (by omega)
        · have hfl : finA E hn (pWhen E i).2.2 (pWhen E i).2.1 = semi E (pAct E hn (pWhen E i).2.2 (pWhen E i).2.1).2.1 := if_pos he.2
          have hidx : (pRule E hn s i).2.1 = (semi E (pAct E hn (pWhen E i).2.2 (pWhen E i).2.1).2.1).2 := by
            have := congrArg Prod.snd hfin.1
            rw [hfl] at this; exact this
          have hge : (pAct E hn (pWhen E i).2.2 (pWhen E i).2.1).2.1 ≤ (semi E (pAct E hn (pWhen E i).2.2 (pWhen E i).2.1).2.1).2 := by
            unfold semi; split
            · exact Nat.le_succ _
            · exact Nat.le_refl _
          have := hpa1.2.2.1
          omega
        · rw [he.1]
          refine ⟨?_, r8⟩
          rw [r4, hpa1.2.2.2.1]
          exact hcod.fr (by omega) r9
        · rw [(r9 k (by omega)).1, (r9 k (by omega)).2]; exact hpre k hk'
      by_cases h16 : tT E i = 16
      · have ep : pWhen E i = pE E (i + 1) := if_pos h16
        refine Ok.bindE (r_hasWord_t h (w := 0) (by decide) (show Nm (0 : Int32) 0 from rfl) h16) (Ok.f ni1 ?_)
        have hn1 := h.next hlt
        have hca : Nm (gI (adv u) 184 7) c := by rw [show gI (adv u) 184 7 = gI u 184 7 from g_ne _ _ _ _ (by decide)]; exact hc
        obtain ⟨v, ev, v1, v2⟩ := r_code hf (pE_eq h.2.1 (show i + 1 ≤ tL E from hlt)) hn1 hca (B := 2 * s) (by omega) (by omega)
        have hfv := fr_F_X12_code ev
        have hpf := pE_far h.2.1 (i := i + 1) hlt
        have kc : Kp s (adv u) v := Kp_code ev (by
          by_cases h0 : (pE E (i + 1)).1 = 0
          · exact fun k hk => (v2 h0).2.2.1 k (by omega)
          · exact (v1 h0).2.2)
        refine Ok.bindE ev ?_
        by_cases hp0 : (pE E (i + 1)).1 = 0
        · obtain ⟨q1, q2, q3, q4, q5⟩ := v2 hp0
          have hpf1 := hpf.1 hp0
          refine tail v _ (c + (pE E (i + 1)).2.2.length + 1) (2 * s + 1) (by rw [ep]; exact hp0) (by rw [ep]; exact q1) (Kp_adv.trans kc) ?_ ?_ q2 (by omega) (by rw [ep]; omega) (Nat.le_refl _) ?_ (fun k hk => ?_)
          · rw [hfv.1 173 7 (by simp [nin, wI_X12_code])]; exact g_ne _ _ _ _ (by decide)
          · rw [hfv.1 167 31 (by simp [nin, wI_X12_code])]; exact g_nk _ _ _ (by decide)
          · rw [ep]
            refine ⟨fun hl => ?_, fun _ => ⟨c, hca, by omega, q4, q5⟩⟩
            have := hpf1.2.2.2
            rw [hl] at this; exact absurd this (by decide)
          · rw [(q3 k hk).1, (q3 k hk).2]
            exact ⟨g_ne _ _ _ _ (by decide), g_ne _ _ _ _ (by decide)⟩
        · have hpf1 := hpf.2 hp0
          have hxx : RX v := by
            unfold RX
            rw [(v1 hp0).1]
            exact Int32_ofNat_ne h.2.1 (by omega) hpf1.2.1
          refine (x73 (s := s) hf hx h24 hxx).mono (fun r hr => ?_)
          have e : pRule E hn s i = ((pE E (i + 1)).1, (pE E (i + 1)).2.1, rNone) := by
            unfold pRule; rw [if_pos hb, if_pos h24, ep, if_neg hp0]
          rw [e]
          exact ⟨fun _ => ⟨hr.1.trans (v1 hp0).1, ((Kp_adv.trans kc).trans hr.2).q⟩, fun h => absurd h hp0⟩
      · have ep : pWhen E i = (0, i, []) := if_neg h16
        refine Ok.bindE (r_hasWord_f h (w := 0) (by decide) (show Nm (0 : Int32) 0 from rfl) h16) (Ok.t rfl ?_)
        exact tail u _ c (2 * s) (by rw [ep]) (by rw [ep]; exact h) Kp.rfl rfl rfl hc (Nat.le_refl _) (by rw [ep]; exact hcB) (by omega) (by rw [ep]; exact ⟨fun _ => by decide, fun h => absurd rfl h⟩) (fun k _ => ⟨rfl, rfl⟩)
    · have e24 : s = 24 := by omega
      have hxx : RX (wr E 5 i u) := h.bad (by decide) (by decide)
      refine Ok.t ((hs.eq (show Nm (24 : Int32) 24 from rfl)).mpr e24) (Ok.bindE (r_wrong h) ?_)
      rw [B_X12_readRule_32]
      refine Ok.f hxx.nle (Ok.some ?_)
      have e : pRule E hn s i = (5, i, rNone) := by unfold pRule; rw [if_pos hb, if_neg h24]
      rw [e]
      exact ⟨fun _ => ⟨wrf (k := 5), Kq_put (Or.inl (by decide))⟩, fun h => absurd h ne5⟩
  · rw [b2i_f hb]
    have hxx : RX (wr E 1 i u) := h.bad (by decide) (by decide)
    refine Ok.t rfl (Ok.bindE (r_wrong h) ?_)
    rw [B_X12_readRule_32]
    refine Ok.f hxx.nle (Ok.some ?_)
    have e : pRule E hn s i = (1, i, rNone) := by unfold pRule; rw [if_neg hb]
    rw [e]
    exact ⟨fun _ => ⟨wrf (k := 1), Kq_put (Or.inl (by decide))⟩, fun h => absurd h ne1⟩
end
/-- a text in the reference -/
def RTi (v : MT) (cb ib sl : Nat) (rs : List AR) (c : Nat) : Prop := Nm (gI v 173 sl) rs.length ∧ Nm (gI v 184 sl) c ∧ ∀ s, s < rs.length → RR v cb (ib + s) c (rs.getD s rNone)
def RT (v : MT) (cb ib sl : Nat) (rs : List AR) (how : Nat) : Prop := (∃ c, c ≤ 1300 ∧ RTi v cb ib sl rs c) ∧ Nm (gI v 174 sl) (how - 32)
def RPp (E : ET) (u : MT) (p : Nat × Nat × List AR × Nat) (r : MT) : Prop :=
  Kq u r ∧ (p.1 = 0 → gI r 167 8 = 0 ∧ RT r 9100 168 7 p.2.2.1 p.2.2.2) ∧ (p.1 ≠ 0 → gI r 167 8 = flt E (Int32.ofNat p.1) p.2.1)
section
variable {f : Nat} {E : ET} {hn : Int}
theorem x43 {u : MT} (hf : 1300 < f) (h : RX u) : Ok (B_X12_readText_43 f u) (fun r => gI r 167 8 = gI u 167 8 ∧ Kq u r) := by
  rw [B_X12_readText_43]
  have h1 : RX (sI u 174 7 0) := h.put (Or.inl (by decide))
  refine Ok.bindE (r_takeWord_x h) (Ok.bindE (r_oneOf_x (by omega) h (first := 21) (many := 3) (show Nm (3 : Int32) 3 from rfl) (by omega)) (Ok.bindE (r_takeSign_x h1) (Ok.f h1.ne (Ok.some ⟨g_ne _ _ _ _ (by decide), Kq_put (Or.inl (by decide))⟩))))
theorem y43 {u : MT} {i c : Nat} {acc : List AR} (hf : 1300 < f) (h : RS E i u) (hT : RTi u 9100 168 7 acc c) (hc : c ≤ 1300) (h20 : tT E i = 20) : Ok (B_X12_readText_43 f u) (RPp E u ((pRest E i).1, (pRest E i).2.1, acc, (pRest E i).2.2)) := by
  have keep : ∀ (v : MT) (x : Int32), (∀ a k, a ≠ 167 → a ≠ 174 → gI v a k = gI u a k) → RTi v 9100 168 7 acc c := by
    intro v x hv
    refine ⟨by rw [hv _ _ (by decide) (by decide)]; exact hT.1, by rw [hv _ _ (by decide) (by decide)]; exact hT.2.1, fun s hs => ?_⟩
    exact (hT.2.2 s hs).fr (Nat.le_refl _) (fun a h1 h2 => hv _ _ (by omega) (by omega)) (fun k _ => ⟨hv _ _ (by decide) (by decide), hv _ _ (by decide) (by decide)⟩)
  have tab : ∀ k, k < 3 → wtok.getD (21 + k) 0 = 32 + k := by decide
  have l1 := h.lt (show tT E i ≠ 2 by omega)
  have s1 := h.next l1
  rw [B_X12_readText_43]
  refine Ok.bindE (r_takeWord_t h (w := 7) (by decide) (show Nm (7 : Int32) 7 from rfl) h20) ?_
  by_cases h2 : 32 ≤ tT E (i + 1) ∧ tT E (i + 1) ≤ 34
  · have l2 := s1.lt (show tT E (i + 1) ≠ 2 by omega)
    obtain ⟨y, hy, he⟩ := r_oneOf_t (f := f) (by omega) s1 (first := 21) (many := 3) (x1 := 21) (x2 := 3) rfl rfl (by omega) (k0 := tT E (i + 1) - 32) (by omega) (by rw [tab _ (by omega)]; omega) (fun k hk => by rw [tab _ (by omega)]; omega)
    refine Ok.bindE he ?_
    have s2 : RS E (i + 2) (sI (adv (adv u)) 174 7 y) := (s1.next l2).put (by decide) (by decide) (Or.inl (by decide))
    have g2 : ∀ a k, a ≠ 167 → a ≠ 174 → gI (sI (adv (adv u)) 174 7 y) a k = gI u a k := fun a k e1 e2 => (g_ne _ _ _ _ e2).trans ((g_ne _ _ _ _ e1).trans (g_ne _ _ _ _ e1))
    by_cases h3 : tT E (i + 2) = 6
    · have l3 := s2.lt (show tT E (i + 2) ≠ 2 by omega)
      have s3 := s2.next l3
      refine Ok.bindE (r_takeSign_t s2 (c := 59) (t := 6) (x := 59) (by decide) rfl h3) (Ok.t s3.2.2.1 (Ok.ck s3.ix ?_))
      rw [s3.2.2.2.1.nat]
      have hs0 := (s3.1.1 (i + 3) s3.2.2.2.2).1.2.2.2.1
      by_cases h4 : tT E (i + 3) = 2
      · refine Ok.t (hs0.mpr h4) (Ok.some ?_)
        have e : pRest E i = (0, i + 3, tT E (i + 1)) := by unfold pRest; rw [if_pos h20, if_pos h2, if_pos h3, if_pos h4]
        rw [e]
        refine ⟨⟨fun a k e1 e2 e3 => ?_, fun k hk => ⟨?_, ?_⟩⟩, fun _ => ⟨s3.2.2.1, ⟨c, hc, keep _ y (fun a k e1 e2 => (g_ne _ _ _ _ e1).trans (g2 a k e1 e2))⟩, ?_⟩, fun h => absurd rfl h⟩
        · exact (g_ne _ _ _ _ (by omega)).trans (g2 a k (by omega) (by omega))
        · exact (g_ne _ _ _ _ (by decide)).trans (g2 _ k (by decide) (by decide))
        · exact (g_ne _ _ _ _ (by decide)).trans (g2 _ k (by decide) (by decide))
        · show Nm (gI (adv _) 174 7) (tT E (i + 1) - 32)
          rw [show gI (adv (sI (adv (adv u)) 174 7 y)) 174 7 = y from (g_ne _ _ _ _ (by decide)).trans (g_same _ _ _ _)]; exact hy
      · refine Ok.f (fun e => h4 (hs0.mp e)) (Ok.bindE (r_wrong s3) (Ok.some ?_))
        have e : pRest E i = (1, i + 3, 0) := by unfold pRest; rw [if_pos h20, if_pos h2, if_pos h3, if_neg h4]
        rw [e]
        refine ⟨⟨fun a k e1 e2 e3 => ?_, fun k hk => ⟨?_, ?_⟩⟩, fun h => absurd h ne1, fun _ => wrf (k := 1)⟩
        · exact (g_ne _ _ _ _ (by omega)).trans ((g_ne _ _ _ _ (by omega)).trans (g2 a k (by omega) (by omega)))
        · exact (g_ne _ _ _ _ (by decide)).trans ((g_ne _ _ _ _ (by decide)).trans (g2 _ k (by decide) (by decide)))
        · exact (g_ne _ _ _ _ (by decide)).trans ((g_ne _ _ _ _ (by decide)).trans (g2 _ k (by decide) (by decide)))
    · have hxx : RX (wr E 1 (i + 2) (sI (adv (adv u)) 174 7 y)) := s2.bad (by decide) (by decide)
      refine Ok.bindE (r_takeSign_f s2 (c := 59) (t := 6) (x := 59) (by decide) rfl h3) (Ok.f hxx.ne (Ok.some ?_))
      have e : pRest E i = (1, i + 2, 0) := by unfold pRest; rw [if_pos h20, if_pos h2, if_neg h3]
      rw [e]
      refine ⟨⟨fun a k e1 e2 e3 => ?_, fun k hk => ⟨?_, ?_⟩⟩, fun h => absurd h ne1, fun _ => wrf (k := 1)⟩
      · exact (g_ne _ _ _ _ (by omega)).trans (g2 a k (by omega) (by omega))
      · exact (g_ne _ _ _ _ (by decide)).trans (g2 _ k (by decide) (by decide))
      · exact (g_ne _ _ _ _ (by decide)).trans (g2 _ k (by decide) (by decide))
  · refine Ok.bindE (r_oneOf_f (f := f) (by omega) s1 (first := 21) (many := 3) (x1 := 21) (x2 := 3) rfl rfl (by omega) (fun k hk => by rw [tab _ hk]; omega)) ?_
    have hxx : RX (sI (wr E 1 (i + 1) (adv u)) 174 7 0) := (s1.bad (by decide) (by decide)).put (Or.inl (by decide))
    refine Ok.bindE (r_takeSign_x hxx) (Ok.f hxx.ne (Ok.some ?_))
    have e : pRest E i = (1, i + 1, 0) := by unfold pRest; rw [if_pos h20, if_neg h2]
    rw [e]
    refine ⟨⟨fun a k e1 e2 e3 => ?_, fun k hk => ⟨?_, ?_⟩⟩, fun h => absurd h ne1, fun _ => (g_ne _ _ _ _ (by decide)).trans (wrf (k := 1))⟩
    · exact (g_ne _ _ _ _ (by omega)).trans ((g_ne _ _ _ _ (by omega)).trans (g_ne _ _ _ _ (by omega)))
    · exact (g_ne _ _ _ _ (by decide)).trans ((g_ne _ _ _ _ (by decide)).trans (g_ne _ _ _ _ (by decide)))
    · exact (g_ne _ _ _ _ (by decide)).trans ((g_ne _ _ _ _ (by decide)).trans (g_ne _ _ _ _ (by decide)))
theorem y_text (hf : 1300 < f) (h0 : 0 ≤ hn) : ∀ (n : Nat) (acc : List AR) (i : Nat) (u : MT) (c m : Nat), RS E i u → RTi u 9100 168 7 acc c → c ≤ 2 * acc.length + i → (gI u 167 31).toInt = hn → acc.length ≤ 24 → 25 < n + acc.length → 26 < m + acc.length →
    Ok (B_X12_readText_20 f m u) (RPp E u (pT E hn n acc i)) := by
  intro n
  induction n with
  | zero => intro acc i u c m _ _ _ _ h1 h2; omega
  | succ n ih =>
    intro acc i u c m h hT hcB hh hl hn' hm
    have hi := h.2.2.2.2
    have hL := h.2.1.1
    obtain ⟨m, rfl⟩ : ∃ m', m = m' + 1 := ⟨m - 1, by omega⟩
    rw [B_X12_readText_20]
    refine Ok.t h.2.2.1 (Ok.bindE (r_isWord h (w := 7) (by decide) (show Nm (7 : Int32) 7 from rfl)) ?_)
    dsimp only
    by_cases h20 : tT E i = 20
    · rw [b2i_t (show tT E i = wtok.getD 7 0 from h20)]
      refine Ok.f ni1 ?_
      have e : pT E hn (n + 1) acc i = ((pRest E i).1, (pRest E i).2.1, acc, (pRest E i).2.2) := if_pos h20
      rw [e]
      exact y43 hf h hT (by omega) h20
    · rw [b2i_f (show ¬ tT E i = wtok.getD 7 0 from h20)]
      refine Ok.t rfl ?_
      obtain ⟨r, er, r1, r2⟩ := y_rule hf h hT.1 hl hh h0 hT.2.1 hcB
      have hfr := fr_F_X12_readRule er
      have hpf := pRule_far h.2.1 (hn := hn) (cnt := acc.length) hi
      refine Ok.bindE er ?_
      by_cases hk : (pRule E hn acc.length i).1 = 0
      · have e : pT E hn (n + 1) acc i = pT E hn n (acc ++ [(pRule E hn acc.length i).2.2]) (pRule E hn acc.length i).2.1 := by
          show (if tT E i = 20 then _ else if _ then _ else _) = _
          rw [if_neg h20, if_pos hk]
        obtain ⟨q1, q2, q3, c', q4, q5, q6, q7, q8⟩ := r2 hk
        have hpf1 := hpf.1 hk
        rw [e]
        have hlen : (acc ++ [(pRule E hn acc.length i).2.2]).length = acc.length + 1 := by rw [List.length_append]; rfl
        refine (ih (acc ++ [(pRule E hn acc.length i).2.2]) (pRule E hn acc.length i).2.1 r c' m q1 ⟨by rw [hlen]; exact q2, q4, fun s hs => ?_⟩ (by rw [hlen]; exact q6) (by rw [hfr.1 167 31 (by simp [nin, wI_X12_readRule])]; exact hh) (by omega) (by omega) (by omega)).mono (fun r' hr' => ⟨q3.q.trans hr'.1, hr'.2⟩)
        by_cases hs' : s < acc.length
        · rw [show (acc ++ [(pRule E hn acc.length i).2.2]).getD s rNone = acc.getD s rNone by simp [List.getD, List.getElem?_append_left hs']]
          exact (hT.2.2 s hs').fr q5 (fun a h1 h2 => q3.1 a (168 + s) h1 h2 (by omega)) q8
        · have : s = acc.length := by omega
          subst this
          rw [show (acc ++ [(pRule E hn acc.length i).2.2]).getD acc.length rNone = (pRule E hn acc.length i).2.2 by simp [List.getD]]
          exact q7
      · have e : pT E hn (n + 1) acc i = ((pRule E hn acc.length i).1, (pRule E hn acc.length i).2.1, acc, 0) := by
          show (if tT E i = 20 then _ else if _ then _ else _) = _
          rw [if_neg h20, if_neg hk]
        have hpf1 := hpf.2 hk
        have hxx : RX r := by
          unfold RX
          rw [(r1 hk).1]
          exact Int32_ofNat_ne h.2.1 hpf1.2 hpf1.1
        rw [e]
        obtain ⟨m, rfl⟩ : ∃ m', m = m' + 1 := ⟨m - 1, by omega⟩
        rw [B_X12_readText_20]
        refine Ok.f hxx.ne ((x43 hf hxx).mono (fun r' hr' => ⟨(r1 hk).2.trans hr'.2, fun h => absurd h hk, fun _ => hr'.1.trans (r1 hk).1⟩))
end
