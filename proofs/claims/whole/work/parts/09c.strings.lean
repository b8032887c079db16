/-! ===== THE JDK's OWN: length and charAt of a constant text ===== -/
def QcI (i : Int32) : Array Value → State → Outcome → State → Prop := fun _ st o t => o = .returned (some (.int i)) ∧ t.heap = st.heap
theorem m_pre {l : Launch} {i n : Int32} {v : Value} (hv : v = .null ∨ ∃ t, v = .ref t) (h0 : ¬ i < 0) (h1 : i < n) : Met l yJ3_checkIndex_8e157 (.code yJ3_checkIndex_8e157 cJ3_checkIndex_8e157 3 (some .int) :: WT) (rmD 0 0 0) (fun a _ => a = #[.int i, .int n, v]) (QcI i) 0 0 (fun _ => False) := by
  refine Met.ofW (cc := cJ3_checkIndex_8e157) (maxL := 3) (ret := some .int) (by decide +kernel) rfl ?_
  intro p e s m args below meth c s₁ B hml hvv
  have hvv : args = ([.int i, .int n, v] : List Value).toArray := hvv
  subst hvv
  have hlen : (lg_sl [.int i, .int n, v]).length ≤ 3 := by rcases hv with rfl | ⟨t, rfl⟩ <;> exact Nat.le_of_ble_eq_true rfl
  have hl := lv_entry [.int i, .int n, v] (n := 3) hlen
  rw [lg_entry_eq]
  generalize (lg_sl [.int i, .int n, v] ++ List.replicate (3 - (lg_sl [.int i, .int n, v]).length) Slot.unset).toArray = ls at hl ⊢
  have hx := B.exec
  have hb := B.bytes
  have hlk := B.notSynchronized
  refine lv_iload_n hx hb (dAt D_J3_checkIndex_8e157 0 rfl) rfl (lv_at hl 0 rfl) ?_
  refine lv_if_lt (tgt := 9) hx hb (dAt D_J3_checkIndex_8e157 1 rfl) (by decide) (fun q => absurd q h0) (fun _ => ?_)
  refine lv_iload_n hx hb (dAt D_J3_checkIndex_8e157 2 rfl) rfl (lv_at hl 0 rfl) ?_
  refine lv_iload_n hx hb (dAt D_J3_checkIndex_8e157 3 rfl) rfl (lv_at hl 1 rfl) ?_
  refine lv_icmp_lt (tgt := 16) hx hb (dAt D_J3_checkIndex_8e157 4 rfl) (by decide) (fun _ => ?_) (fun q => absurd h1 q)
  refine lv_iload_n hx hb (dAt D_J3_checkIndex_8e157 10 rfl) rfl (lv_at hl 0 rfl) ?_
  exact W.iret hx hb B.returns (fun t ht _ => ⟨rfl, ht⟩) (fun q h => nomatch h) (dAt D_J3_checkIndex_8e157 11 rfl)
theorem m_cki {g : GT} {w : LT} {u : MT} {i n : Int32} (h0 : ¬ i < 0) (h1 : i < n) : Mt g yJ0_checkIndex_df160 cJ0_checkIndex_df160 2 none 1 0 0 [.int i, .int n] w u (Qv w u) := by
  refine Mt_of (own := RJ0) (by decide +kernel) rfl (Nat.le_of_ble_eq_true rfl) (fun z C _ => ?_)
  show V z g 2 0 [(0, .int i), (1, .int n)] [] w u 0 0 (Qv w u)
  refine Viload_n C 0 (dAt D_J0_checkIndex_df160 0 rfl) rfl rfl ?_
  refine Viload_n C 1 (dAt D_J0_checkIndex_df160 1 rfl) rfl rfl ?_
  have k : V z g 2 9 [(0, .int i), (1, .int n)] [] w u 0 0 (Qv w u) := Vvret C (dAt D_J0_checkIndex_df160 5 rfl) (by decide) (by decide) ⟨rfl, rfl, rfl⟩
  obtain ⟨p, l, e, R, s, m, args, below, meth, c⟩ := z
  intro H locs ls hR hS hl
  obtain ⟨hx, hb, hmL, hown, hts, hr, hlk, hsc, hRm⟩ := C
  have hlink : Cond.methodLink RJ0 1059 yJ3_checkIndex_8e157 ∈ WT := WT_c3 46 rfl rfl
  have key : ∀ v : Value, (v = .null ∨ ∃ t, v = .ref t) → W p l e R s m args below meth c H locs 0 0 (MQ below (QQ g (Qv w u)) args s R.cells R.slots (fr g)) (F0 m 5 ls [v, .int n, .int i]) := by
    intro v hv
    have hR1 : (rmD 0 0 0).frames + 1 ≤ R.frames ∧ 8 + (3 + 11) + (rmD 0 0 0).locals ≤ R.locals := by
      rw [hRm]
      decide
    intro T hT X
    obtain ⟨v1, st0, t, T', L, e0, X', hL, e1, ⟨hv1, hh⟩, sto⟩ := W.runS (As := [.int i, .int n, v]) (rest := []) ⟨hx, hb, hmL, hown, hts⟩ (m_pre (l := l) hv h0 h1) ⟨callB_of 3 hts (good_cons jb_pre.2.1) rfl rfl rfl (hts _ jb_pre.2.2.1) (hts _ hlink) jb_pre.2.2.2 hR1, hts _ js_pre⟩ ⟨fun a U f mk q => q, fun U hU hW => rfl⟩ rfl rfl hl.1 rfl (lv_room (Nat.le_of_ble_eq_true rfl)) (dAt D_J0_checkIndex_df160 3 rfl) ⟨by rw [hRm]; decide, by rw [hRm]; decide⟩ T hT X
    cases hv1
    obtain ⟨t2, a1, b1⟩ := lv_pop (va := .int i) hx hb (dAt D_J0_checkIndex_df160 4 rfl) rfl (k H locs ls hR hS hl) T' (by rw [e1, hh, e0]) (Stand.forget X' (fun q h => (hL q h).elim))
    exact ⟨t2, sto t2 a1, b1⟩
  rcases hsc.2.2.2.2.2.2.2.2.2.2.2 with h | ⟨t, h⟩
  · exact va_gets hx hb h hS hown (hts _ jf_1053) (fun _ h => h) (dAt D_J0_checkIndex_df160 2 rfl) (key _ (Or.inl rfl))
  · exact va_gets hx hb h hS hown (hts _ jf_1053) (fun _ h => h) (dAt D_J0_checkIndex_df160 2 rfl) (key _ (Or.inr ⟨t, rfl⟩))
/-- the sign at a place of a text -/
def tkCh (k : Nat) (i : Nat) : Int32 := (((tkB.getD k []).getD i 0 &&& 255).toUInt32 % 65536).toInt32
theorem tkL_small : ∀ k, k < 32 → tkL.getD k 0 < 8 := by decide +kernel
theorem ixo_lt {i : Int32} {k : Nat} (hk : k < 32) (h : ixo i (tkL.getD k 0)) : ¬ i < 0 ∧ i < Int32.ofNat (tkL.getD k 0) := by
  have h3 := tkL_small k hk
  refine ⟨fun q => ?_, ?_⟩
  · have := Int32.lt_iff_toInt_lt.mp q
    have h4 := h.1
    simp at this
    omega
  · apply Int32.lt_iff_toInt_lt.mpr
    have h5 : (Int32.ofNat (tkL.getD k 0)).toInt = (tkL.getD k 0 : Int) := nI_toInt (n := tkL.getD k 0) (by omega)
    rw [h5]
    exact h.2
theorem m_lat {g : GT} {w : LT} {u : MT} {i : Int32} {k : Nat} (hk : k < 32) (hi : ixo i (tkL.getD k 0)) : Mt g yJ1_charAt_3b067 cJ1_charAt_3b067 2 (some .char) 2 0 0 [.ref (68 + k), .int i] w u (Qi (tkCh k i.toNatClampNeg) w u) := by
  refine Mt_of (own := RJ1) (by decide +kernel) rfl (Nat.le_of_ble_eq_true rfl) (fun z C _ => ?_)
  show V z g 2 0 [(0, .ref (68 + k)), (1, .int i)] [] w u 0 0 _
  refine Viload_n C 1 (dAt D_J1_charAt_3b067 0 rfl) rfl rfl ?_
  refine Vaload_n C 0 (dAt D_J1_charAt_3b067 1 rfl) rfl rfl ?_
  refine VbytL C (dAt D_J1_charAt_3b067 2 rfl) hk ?_
  refine VcallS (as := [_, _]) C (dAt D_J1_charAt_3b067 3 rfl) (m_cki (ixo_lt hk hi).1 (ixo_lt hk hi).2) jb_cki js_cki rfl rfl (Nat.le_of_ble_eq_true rfl) (by decide) (by decide) (by decide) (by decide) (Kvoid ?_)
  refine Vaload_n C 0 (dAt D_J1_charAt_3b067 4 rfl) rfl rfl ?_
  refine Viload_n C 1 (dAt D_J1_charAt_3b067 5 rfl) rfl rfl ?_
  refine VbytI C (dAt D_J1_charAt_3b067 6 rfl) hk hi ?_
  refine Vsipush (x := 255) C (dAt D_J1_charAt_3b067 7 rfl) (by decide) ?_
  refine Viand C (dAt D_J1_charAt_3b067 8 rfl) ?_
  refine Vi2c C (dAt D_J1_charAt_3b067 9 rfl) ?_
  exact Vnret C (dAt D_J1_charAt_3b067 10 rfl) (pk_nc _) (by decide) (by decide) ⟨rfl, rfl, rfl⟩
theorem m_isLat {g : GT} {w : LT} {u : MT} {k : Nat} (hk : k < 32) : Mt g yJ0_isLatin1_aae02 cJ0_isLatin1_aae02 1 (some .boolean) 0 0 0 [.ref (36 + k)] w u (Qi 1 w u) := by
  refine Mt_of (own := RJ0) (by decide +kernel) rfl (Nat.le_of_ble_eq_true rfl) (fun z C _ => ?_)
  show V z g 1 0 [(0, .ref (36 + k))] [] w u 0 0 _
  refine VgetZ C (dAt D_J0_isLatin1_aae02 0 rfl) jf_38 ?_
  refine Vif_eq (tgt := 17) C (dAt D_J0_isLatin1_aae02 1 rfl) (by decide) (fun q => absurd q (by decide)) (fun _ => ?_)
  refine Vaload_n C 0 (dAt D_J0_isLatin1_aae02 2 rfl) rfl rfl ?_
  refine VstrC C (dAt D_J0_isLatin1_aae02 3 rfl) jf_15 hk ?_
  refine Vif_ne (tgt := 17) C (dAt D_J0_isLatin1_aae02 4 rfl) (by decide) (fun q => absurd rfl q) (fun _ => ?_)
  refine Viconst (x := 1) C (dAt D_J0_isLatin1_aae02 5 rfl) (by decide) ?_
  refine Vgoto (tgt := 18) C (dAt D_J0_isLatin1_aae02 6 rfl) (by decide) ?_
  exact Vzret C (dAt D_J0_isLatin1_aae02 8 rfl) rfl (by decide) (by decide) ⟨rfl, rfl, rfl⟩
theorem m_coder {g : GT} {w : LT} {u : MT} {k : Nat} (hk : k < 32) : Mt g yJ0_coder_7d493 cJ0_coder_7d493 1 (some .byte) 0 0 0 [.ref (36 + k)] w u (Qi 0 w u) := by
  refine Mt_of (own := RJ0) (by decide +kernel) rfl (Nat.le_of_ble_eq_true rfl) (fun z C _ => ?_)
  show V z g 1 0 [(0, .ref (36 + k))] [] w u 0 0 _
  refine VgetZ C (dAt D_J0_coder_7d493 0 rfl) jf_38 ?_
  refine Vif_eq (tgt := 13) C (dAt D_J0_coder_7d493 1 rfl) (by decide) (fun q => absurd q (by decide)) (fun _ => ?_)
  refine Vaload_n C 0 (dAt D_J0_coder_7d493 2 rfl) rfl rfl ?_
  refine VstrC C (dAt D_J0_coder_7d493 3 rfl) jf_15 hk ?_
  refine Vgoto (tgt := 14) C (dAt D_J0_coder_7d493 4 rfl) (by decide) ?_
  exact Vnret C (dAt D_J0_coder_7d493 6 rfl) rfl (by decide) (by decide) ⟨rfl, rfl, rfl⟩
theorem m_len {g : GT} {w : LT} {u : MT} {k : Nat} (hk : k < 32) : Mt g yJ0_length_8abf5 cJ0_length_8abf5 1 (some .int) 1 0 0 [.ref (36 + k)] w u (Qi (Int32.ofNat (tkL.getD k 0)) w u) := by
  refine Mt_of (own := RJ0) (by decide +kernel) rfl (Nat.le_of_ble_eq_true rfl) (fun z C _ => ?_)
  show V z g 1 0 [(0, .ref (36 + k))] [] w u 0 0 _
  refine Vaload_n C 0 (dAt D_J0_length_8abf5 0 rfl) rfl rfl ?_
  refine VstrV C (dAt D_J0_length_8abf5 1 rfl) jf_9 hk ?_
  refine VbytL C (dAt D_J0_length_8abf5 2 rfl) hk ?_
  refine Vaload_n C 0 (dAt D_J0_length_8abf5 3 rfl) rfl rfl ?_
  refine VcallT (as := []) C (dAt D_J0_length_8abf5 4 rfl) (m_coder hk) jb_coder ji_coder jv_coder hk rfl rfl (Nat.le_of_ble_eq_true rfl) (by decide) (by decide) (by decide) (by decide) (Kint ?_)
  refine Vishr C (dAt D_J0_length_8abf5 5 rfl) ?_
  rw [sb_shr0]
  exact Viret C (dAt D_J0_length_8abf5 6 rfl) (by decide) (by decide) ⟨rfl, rfl, rfl⟩
theorem m_chr {g : GT} {w : LT} {u : MT} {i : Int32} {k : Nat} (hk : k < 32) (hi : ixo i (tkL.getD k 0)) : Mt g yJ0_charAt_5068e cJ0_charAt_5068e 2 (some .char) 3 0 0 [.ref (36 + k), .int i] w u (Qi (tkCh k i.toNatClampNeg) w u) := by
  refine Mt_of (own := RJ0) (by decide +kernel) rfl (Nat.le_of_ble_eq_true rfl) (fun z C _ => ?_)
  show V z g 2 0 [(0, .ref (36 + k)), (1, .int i)] [] w u 0 0 _
  refine Vaload_n C 0 (dAt D_J0_charAt_5068e 0 rfl) rfl rfl ?_
  refine VcallT (as := []) C (dAt D_J0_charAt_5068e 1 rfl) (m_isLat hk) jb_isLatin1 ji_isLatin1 jv_isLatin1 hk rfl rfl (Nat.le_of_ble_eq_true rfl) (by decide) (by decide) (by decide) (by decide) (Kint ?_)
  refine Vif_eq (tgt := 16) C (dAt D_J0_charAt_5068e 2 rfl) (by decide) (fun q => absurd q (by decide)) (fun _ => ?_)
  refine Vaload_n C 0 (dAt D_J0_charAt_5068e 3 rfl) rfl rfl ?_
  refine VstrV C (dAt D_J0_charAt_5068e 4 rfl) jf_9 hk ?_
  refine Viload_n C 1 (dAt D_J0_charAt_5068e 5 rfl) rfl rfl ?_
  refine VcallS (as := [_, _]) C (dAt D_J0_charAt_5068e 6 rfl) (m_lat hk hi) jb_lat js_lat rfl rfl (Nat.le_of_ble_eq_true rfl) (by decide) (by decide) (by decide) (by decide) (Kint ?_)
  exact Vnret C (dAt D_J0_charAt_5068e 7 rfl) (pk_nc _) (by decide) (by decide) ⟨rfl, rfl, rfl⟩
theorem tkX_lt {x : Nat} (h2 : x ≤ 34) : tkX (x - 1) < 32 := by unfold tkX; omega
