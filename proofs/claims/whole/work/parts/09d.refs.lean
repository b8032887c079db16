/-! ===== A REFERENCE IS WRITTEN: what stays of the layout ===== -/
theorem sP_p {w : LT} {c k v a : Nat} (h : a ≠ c) (j : Nat) : lt_p (sP w c k v) a j = lt_p w a j := by
  show up2 w.2.2.2 c k v a j = w.2.2.2 a j
  rw [up2_ne _ _ _ h]
theorem sP_q {w : LT} {c k v j : Nat} (h : j ≠ k) : lt_p (sP w c k v) c j = lt_p w c j := by
  show up2 w.2.2.2 c k v c j = w.2.2.2 c j
  rw [up2_at, if_neg h]
theorem sP_e {w : LT} {c k v : Nat} : lt_p (sP w c k v) c k = v := up2_eq _ _ _ _
theorem isTx_sP {w : LT} {t c k v : Nat} (h : isTx w t) (h7 : lt_t w c ≠ 7) (h25 : lt_t w c ≠ 25) : isTx (sP w c k v) t := by
  obtain ⟨a1, a2, a3, a4, a5, a6, a7, a8⟩ := h
  have n1 : t ≠ c := fun e => h7 (e ▸ a1)
  have n2 : t + 1 ≠ c := fun e => h25 (e ▸ a3)
  exact ⟨a1, (sP_p n1 0).trans a2, a3, a4, (sP_p n1 3).trans a5, a6, a7, fun i hi => ⟨(sP_p n2 i).trans (a8 i hi).1, (a8 i hi).2⟩⟩
theorem isTs_sP {w : LT} {a c k v : Nat} (h : isTs w a) (h8 : lt_t w c ≠ 8) : isTs (sP w c k v) a := by
  obtain ⟨a1, a2, a3, a4⟩ := h
  have n : a ≠ c := fun e => h8 (e ▸ a1)
  exact ⟨a1, (sP_p n 0).trans a2, a3, a4⟩
theorem isBk_sP {w : LT} {b ts c k v : Nat} (h : isBk w b ts) (h1 : lt_t w c ≠ 1) (h8 : lt_t w c ≠ 8) : isBk (sP w c k v) b ts := by
  obtain ⟨a1, a2, a3, a4, a5, ⟨b1, b2, b3⟩, ⟨c1, c2, c3⟩, ⟨d1, d2, d3⟩, ⟨e1, e2, e3⟩, ⟨f1, f2, f3⟩, a6⟩ := h
  have n : b ≠ c := fun e => h1 (e ▸ a1)
  exact ⟨a1, (sP_p n 0).trans a2, (sP_p n 1).trans a3, (sP_p n 2).trans a4, (sP_p n 3).trans a5, ⟨(sP_p n 6).trans b1, b2, b3⟩, ⟨(sP_p n 7).trans c1, c2, c3⟩, ⟨(sP_p n 8).trans d1, d2, d3⟩, ⟨(sP_p n 9).trans e1, e2, e3⟩, ⟨(sP_p n 10).trans f1, f2, f3⟩, isTs_sP a6 h8⟩
theorem Lay_sP {w : LT} {c k v : Nat} (h : Lay w) (h1 : lt_t w c ≠ 1) (h7 : lt_t w c ≠ 7) (h8 : lt_t w c ≠ 8) (h25 : lt_t w c ≠ 25) (ht : ∀ q ∈ tabP, q.1 = c → q.2.1 ≠ k) : Lay (sP w c k v) := by
  obtain ⟨l1, l2, l3, l4⟩ := h
  refine ⟨l1, fun q hq => ?_, fun t h => isTx_sP (l3 t h) h7 h25, fun b hb => ?_⟩
  · by_cases hc : q.1 = c
    · have h9 := ht q hq hc
      rw [← l2 q hq, hc]
      exact sP_q h9
    · exact (sP_p hc _).trans (l2 q hq)
  · have hbc : b ≠ c := fun e => h1 (e ▸ hb)
    rw [sP_p hbc 2]
    exact isBk_sP (l4 b hb) h1 h8
theorem Lay_rt {w : LT} (h : Lay w) (v : Nat) : Lay (sP w 112 7 v) := by
  have h3 := kt_112 h
  exact Lay_sP h (by omega) (by omega) (by omega) (by omega) (by decide)
theorem isTx_rt {w : LT} (h : Lay w) {t : Nat} (ht : isTx w t) (v : Nat) : isTx (sP w 112 7 v) t := by
  have h3 := kt_112 h
  exact isTx_sP ht (by omega) (by omega)
