/-! frames (printed by wip/gen/frames.py) -/
theorem ok_or {α : Type} {c : Prop} [Decidable c] {x y : Option α} {r : α} (h : (if c then x else y) = some r) : x = some r ∨ y = some r := by
  by_cases hc : c
  · rw [if_pos hc] at h; exact Or.inl h
  · rw [if_neg hc] at h; exact Or.inr h
theorem Fs_n {l : WL} : Fs [] l := fun e h => nomatch h
theorem Fs_c {e : Nat × Nat × Nat} {l l' : WL} (h : e ∈ l') (hs : Fs l l') : Fs (e :: l) l' := fun x hx => by
  cases hx with
  | head => exact h
  | tail _ hx => exact hs x hx
theorem fr_F_X12_thrown {f : Nat} {r : (Int32 × MT)} {u : MT} (h : F_X12_thrown f u = some r) : Fr [] [] [] u r.2 := by
  rw [F_X12_thrown] at h
  cases h
  exact Fr_rfl
abbrev wI_X12_lay : WL := [(168, 1, 0), (167, 1, 3)]
theorem fr_B_X12_lay_69 {f : Nat} {x1 : Int64} {x3 : Int32} {r : MT} {j3 : Int64 → Int32 → MT → Option MT} (q3 : ∀ (y0 : Int64) (y1 : Int32) (u : MT), j3 y0 y1 u = some r → Fr wI_X12_lay [] [] u r) {u : MT} (h : B_X12_lay_69 f j3 x1 x3 u = some r) : Fr wI_X12_lay [] [] u r := by
  rw [B_X12_lay_69] at h
  exact Fr_tr (q3 _ _ _ h) Fr_rfl
theorem fr_B_X12_lay_38 {f : Nat} {x1 : Int64} {x3 : Int32} {x4 : Int32} {r : MT} {j3 : Int64 → Int32 → MT → Option MT} (q3 : ∀ (y0 : Int64) (y1 : Int32) (u : MT), j3 y0 y1 u = some r → Fr wI_X12_lay [] [] u r) {u : MT} (h : B_X12_lay_38 f j3 x1 x3 x4 u = some r) : Fr wI_X12_lay [] [] u r := by
  rw [B_X12_lay_38] at h
  rcases ok_or h with h | h
  · skip
    exact Fr_tr (fr_B_X12_lay_69 q3 h) Fr_rfl
  · skip
    have h := (ok_ck h).2
    exact Fr_tr (fr_B_X12_lay_69 q3 h) (Fr_sIk (List.mem_of_getElem? (i := 1) rfl) (Fr_sI0 (List.mem_of_getElem? (i := 0) rfl) Fr_rfl))
theorem fr_B_X12_lay_3 {f : Nat} {r : MT} : ∀ (n : Nat) (x1 : Int64) (x3 : Int32) (u : MT), B_X12_lay_3 f n x1 x3 u = some r → Fr wI_X12_lay [] [] u r := by
  intro n
  induction n with
  | zero => intro x1 x3 u h; rw [B_X12_lay_3] at h; cases h
  | succ n ih =>
    intro x1 x3 u h
    rw [B_X12_lay_3] at h
    rcases ok_or h with h | h
    · skip
      cases h
      exact Fr_rfl
    · skip
      rcases ok_or h with h | h
      · skip
        exact Fr_tr (fr_B_X12_lay_38 ih h) Fr_rfl
      · skip
        rcases ok_or h with h | h
        · skip
          exact Fr_tr (fr_B_X12_lay_69 ih h) Fr_rfl
        · skip
          rcases ok_or h with h | h
          · skip
            exact Fr_tr (fr_B_X12_lay_69 ih h) Fr_rfl
          · skip
            exact Fr_tr (fr_B_X12_lay_38 ih h) Fr_rfl
theorem fr_F_X12_lay {f : Nat} {x1 : Int64} {r : MT} {u : MT} (h : F_X12_lay f x1 u = some r) : Fr wI_X12_lay [] [] u r := by
  rw [F_X12_lay] at h
  exact Fr_tr (fr_B_X12_lay_3 _ _ _ _ h) Fr_rfl
abbrev wI_X12_feed : WL := [(167, 1, 1), (168, 1, 0), (167, 1, 3)]
theorem fr_F_X12_feed {f : Nat} {x1 : Int64} {x3 : Int64} {x5 : Int64} {r : (Int32 × MT)} {u : MT} (h : F_X12_feed f x1 x3 x5 u = some r) : Fr wI_X12_feed [] [] u r.2 := by
  rw [F_X12_feed] at h
  obtain ⟨r2, er2, h⟩ := ok_b h
  have a_r2 : Fr wI_X12_feed [] [] u r2 := Fr_tr (Fr_up (Fs_c (List.mem_of_getElem? (i := 1) rfl) (Fs_c (List.mem_of_getElem? (i := 2) rfl) Fs_n)) Fs_n Fs_n (fr_F_X12_lay er2)) (Fr_sIk (List.mem_of_getElem? (i := 0) rfl) Fr_rfl)
  obtain ⟨r4, er4, h⟩ := ok_b h
  have a_r4 : Fr wI_X12_feed [] [] u r4 := Fr_tr (Fr_up (Fs_c (List.mem_of_getElem? (i := 1) rfl) (Fs_c (List.mem_of_getElem? (i := 2) rfl) Fs_n)) Fs_n Fs_n (fr_F_X12_lay er4)) a_r2
  obtain ⟨r6, er6, h⟩ := ok_b h
  have a_r6 : Fr wI_X12_feed [] [] u r6 := Fr_tr (Fr_up (Fs_c (List.mem_of_getElem? (i := 1) rfl) (Fs_c (List.mem_of_getElem? (i := 2) rfl) Fs_n)) Fs_n Fs_n (fr_F_X12_lay er6)) a_r4
  cases h
  exact a_r6
theorem fr_F_X12_isLetter {f : Nat} {x0 : Int32} {r : (Int32 × MT)} {u : MT} (h : F_X12_isLetter f x0 u = some r) : Fr [] [] [] u r.2 := by
  rw [F_X12_isLetter] at h
  rcases ok_or h with h | h
  · skip
    cases h
    exact Fr_rfl
  · skip
    rcases ok_or h with h | h
    · skip
      cases h
      exact Fr_rfl
    · skip
      cases h
      exact Fr_rfl
theorem fr_F_X12_isDigit {f : Nat} {x0 : Int32} {r : (Int32 × MT)} {u : MT} (h : F_X12_isDigit f x0 u = some r) : Fr [] [] [] u r.2 := by
  rw [F_X12_isDigit] at h
  rcases ok_or h with h | h
  · skip
    cases h
    exact Fr_rfl
  · skip
    rcases ok_or h with h | h
    · skip
      cases h
      exact Fr_rfl
    · skip
      cases h
      exact Fr_rfl
theorem fr_F_X12_rank {f : Nat} {x0 : Int32} {r : (Int32 × MT)} {u : MT} (h : F_X12_rank f x0 u = some r) : Fr [] [] [] u r.2 := by
  rw [F_X12_rank] at h
  obtain ⟨r1, er1, h⟩ := ok_b h
  have a_r1 : Fr [] [] [] u r1.2 := Fr_tr (Fr_up Fs_n Fs_n Fs_n (fr_F_X12_isLetter er1)) Fr_rfl
  rcases ok_or h with h | h
  · skip
    cases h
    exact a_r1
  · skip
    cases h
    exact a_r1
theorem fr_B_X12_isSignOf_42 {f : Nat} {r : (Int32 × MT)} {u : MT} (h : B_X12_isSignOf_42 f u = some r) : Fr [] [] [] u r.2 := by
  rw [B_X12_isSignOf_42] at h
  cases h
  exact Fr_rfl
theorem fr_F_X12_isSignOf {f : Nat} {x0 : Int32} {r : (Int32 × MT)} {u : MT} (h : F_X12_isSignOf f x0 u = some r) : Fr [] [] [] u r.2 := by
  rw [F_X12_isSignOf] at h
  rcases ok_or h with h | h
  · skip
    exact Fr_tr (fr_B_X12_isSignOf_42 h) Fr_rfl
  · skip
    rcases ok_or h with h | h
    · skip
      exact Fr_tr (fr_B_X12_isSignOf_42 h) Fr_rfl
    · skip
      rcases ok_or h with h | h
      · skip
        exact Fr_tr (fr_B_X12_isSignOf_42 h) Fr_rfl
      · skip
        rcases ok_or h with h | h
        · skip
          exact Fr_tr (fr_B_X12_isSignOf_42 h) Fr_rfl
        · skip
          rcases ok_or h with h | h
          · skip
            exact Fr_tr (fr_B_X12_isSignOf_42 h) Fr_rfl
          · skip
            rcases ok_or h with h | h
            · skip
              exact Fr_tr (fr_B_X12_isSignOf_42 h) Fr_rfl
            · skip
              rcases ok_or h with h | h
              · skip
                exact Fr_tr (fr_B_X12_isSignOf_42 h) Fr_rfl
              · skip
                cases h
                exact Fr_rfl
abbrev wI_X12_cutAll : WL := [(169, 1, 0), (170, 1, 0), (167, 1, 8), (167, 1, 9), (167, 1, 4), (167, 1, 3)]
abbrev wL_X12_cutAll : WL := [(171, 1, 0)]
theorem fr_B_X12_cutAll_267 {f : Nat} {x1 : Int32} {x2 : Int32} {x5 : Int64} {r : MT} {j17 : Int32 → Int32 → MT → Option MT} (q17 : ∀ (y0 : Int32) (y1 : Int32) (u : MT), j17 y0 y1 u = some r → Fr wI_X12_cutAll wL_X12_cutAll [] u r) {u : MT} (h : B_X12_cutAll_267 f j17 x1 x2 x5 u = some r) : Fr wI_X12_cutAll wL_X12_cutAll [] u r := by
  rw [B_X12_cutAll_267] at h
  have h := (ok_ck h).2
  exact Fr_tr (q17 _ _ _ h) (Fr_sL0 (List.mem_of_getElem? (i := 0) rfl) Fr_rfl)
theorem fr_B_X12_cutAll_238 {f : Nat} {x1 : Int32} {x2 : Int32} {x5 : Int64} {s0 : Int32} {s1 : Int32} {r : MT} {j17 : Int32 → Int32 → MT → Option MT} (q17 : ∀ (y0 : Int32) (y1 : Int32) (u : MT), j17 y0 y1 u = some r → Fr wI_X12_cutAll wL_X12_cutAll [] u r) {u : MT} (h : B_X12_cutAll_238 f j17 x1 x2 x5 s0 s1 u = some r) : Fr wI_X12_cutAll wL_X12_cutAll [] u r := by
  rw [B_X12_cutAll_238] at h
  have h := (ok_ck h).2
  exact Fr_tr (fr_B_X12_cutAll_267 q17 h) (Fr_sI0 (List.mem_of_getElem? (i := 0) rfl) Fr_rfl)
theorem fr_B_X12_cutAll_219 {f : Nat} {x1 : Int32} {x2 : Int32} {x4 : Int32} {x5 : Int64} {r : MT} {j17 : Int32 → Int32 → MT → Option MT} (q17 : ∀ (y0 : Int32) (y1 : Int32) (u : MT), j17 y0 y1 u = some r → Fr wI_X12_cutAll wL_X12_cutAll [] u r) {u : MT} (h : B_X12_cutAll_219 f j17 x1 x2 x4 x5 u = some r) : Fr wI_X12_cutAll wL_X12_cutAll [] u r := by
  rw [B_X12_cutAll_219] at h
  rcases ok_or h with h | h
  · skip
    exact Fr_tr (fr_B_X12_cutAll_238 q17 h) Fr_rfl
  · skip
    exact Fr_tr (fr_B_X12_cutAll_238 q17 h) Fr_rfl
theorem fr_B_X12_cutAll_211 {f : Nat} {x1 : Int32} {x2 : Int32} {x4 : Int32} {s0 : Int64} {r : MT} {j17 : Int32 → Int32 → MT → Option MT} {j159 : Int32 → Int32 → Int32 → Int64 → MT → Option MT} (q17 : ∀ (y0 : Int32) (y1 : Int32) (u : MT), j17 y0 y1 u = some r → Fr wI_X12_cutAll wL_X12_cutAll [] u r) (q159 : ∀ (y0 : Int32) (y1 : Int32) (y2 : Int32) (y3 : Int64) (u : MT), j159 y0 y1 y2 y3 u = some r → Fr wI_X12_cutAll wL_X12_cutAll [] u r) {u : MT} (h : B_X12_cutAll_211 f j17 j159 x1 x2 x4 s0 u = some r) : Fr wI_X12_cutAll wL_X12_cutAll [] u r := by
  rw [B_X12_cutAll_211] at h
  exact Fr_tr (q159 _ _ _ _ _ h) Fr_rfl
theorem fr_B_X12_cutAll_159 {f : Nat} {r : MT} {j17 : Int32 → Int32 → MT → Option MT} (q17 : ∀ (y0 : Int32) (y1 : Int32) (u : MT), j17 y0 y1 u = some r → Fr wI_X12_cutAll wL_X12_cutAll [] u r) : ∀ (n : Nat) (x1 : Int32) (x2 : Int32) (x4 : Int32) (x5 : Int64) (u : MT), B_X12_cutAll_159 f j17 n x1 x2 x4 x5 u = some r → Fr wI_X12_cutAll wL_X12_cutAll [] u r := by
  intro n
  induction n with
  | zero => intro x1 x2 x4 x5 u h; rw [B_X12_cutAll_159] at h; cases h
  | succ n ih =>
    intro x1 x2 x4 x5 u h
    rw [B_X12_cutAll_159] at h
    rcases ok_or h with h | h
    · skip
      exact Fr_tr (fr_B_X12_cutAll_219 q17 h) Fr_rfl
    · skip
      have h := (ok_ck h).2
      obtain ⟨r31, er31, h⟩ := ok_b h
      have a_r31 : Fr wI_X12_cutAll wL_X12_cutAll [] u r31.2 := Fr_tr (Fr_up Fs_n Fs_n Fs_n (fr_F_X12_isDigit er31)) Fr_rfl
      rcases ok_or h with h | h
      · skip
        exact Fr_tr (fr_B_X12_cutAll_219 q17 h) a_r31
      · skip
        rcases ok_or h with h | h
        · skip
          exact Fr_tr (fr_B_X12_cutAll_211 q17 ih h) a_r31
        · skip
          exact Fr_tr (fr_B_X12_cutAll_211 q17 ih h) a_r31
theorem fr_B_X12_cutAll_44 {f : Nat} {x1 : Int32} {x2 : Int32} {r : MT} {j17 : Int32 → Int32 → MT → Option MT} (q17 : ∀ (y0 : Int32) (y1 : Int32) (u : MT), j17 y0 y1 u = some r → Fr wI_X12_cutAll wL_X12_cutAll [] u r) {u : MT} (h : B_X12_cutAll_44 f j17 x1 x2 u = some r) : Fr wI_X12_cutAll wL_X12_cutAll [] u r := by
  rw [B_X12_cutAll_44] at h
  exact Fr_tr (q17 _ _ _ h) Fr_rfl
theorem fr_B_X12_cutAll_148 {f : Nat} {x1 : Int32} {x2 : Int32} {x5 : Int64} {s0 : Int32} {s1 : Int32} {r : MT} {j17 : Int32 → Int32 → MT → Option MT} (q17 : ∀ (y0 : Int32) (y1 : Int32) (u : MT), j17 y0 y1 u = some r → Fr wI_X12_cutAll wL_X12_cutAll [] u r) {u : MT} (h : B_X12_cutAll_148 f j17 x1 x2 x5 s0 s1 u = some r) : Fr wI_X12_cutAll wL_X12_cutAll [] u r := by
  rw [B_X12_cutAll_148] at h
  have h := (ok_ck h).2
  exact Fr_tr (fr_B_X12_cutAll_267 q17 h) (Fr_sI0 (List.mem_of_getElem? (i := 0) rfl) Fr_rfl)
theorem fr_B_X12_cutAll_129 {f : Nat} {x1 : Int32} {x2 : Int32} {x4 : Int32} {x5 : Int64} {r : MT} {j17 : Int32 → Int32 → MT → Option MT} (q17 : ∀ (y0 : Int32) (y1 : Int32) (u : MT), j17 y0 y1 u = some r → Fr wI_X12_cutAll wL_X12_cutAll [] u r) {u : MT} (h : B_X12_cutAll_129 f j17 x1 x2 x4 x5 u = some r) : Fr wI_X12_cutAll wL_X12_cutAll [] u r := by
  rw [B_X12_cutAll_129] at h
  rcases ok_or h with h | h
  · skip
    exact Fr_tr (fr_B_X12_cutAll_148 q17 h) Fr_rfl
  · skip
    exact Fr_tr (fr_B_X12_cutAll_148 q17 h) Fr_rfl
theorem fr_B_X12_cutAll_121 {f : Nat} {x1 : Int32} {x2 : Int32} {x4 : Int32} {s0 : Int64} {r : MT} {j17 : Int32 → Int32 → MT → Option MT} {j70 : Int32 → Int32 → Int32 → Int64 → MT → Option MT} (q17 : ∀ (y0 : Int32) (y1 : Int32) (u : MT), j17 y0 y1 u = some r → Fr wI_X12_cutAll wL_X12_cutAll [] u r) (q70 : ∀ (y0 : Int32) (y1 : Int32) (y2 : Int32) (y3 : Int64) (u : MT), j70 y0 y1 y2 y3 u = some r → Fr wI_X12_cutAll wL_X12_cutAll [] u r) {u : MT} (h : B_X12_cutAll_121 f j17 j70 x1 x2 x4 s0 u = some r) : Fr wI_X12_cutAll wL_X12_cutAll [] u r := by
  rw [B_X12_cutAll_121] at h
  exact Fr_tr (q70 _ _ _ _ _ h) Fr_rfl
theorem fr_B_X12_cutAll_70 {f : Nat} {r : MT} {j17 : Int32 → Int32 → MT → Option MT} (q17 : ∀ (y0 : Int32) (y1 : Int32) (u : MT), j17 y0 y1 u = some r → Fr wI_X12_cutAll wL_X12_cutAll [] u r) : ∀ (n : Nat) (x1 : Int32) (x2 : Int32) (x4 : Int32) (x5 : Int64) (u : MT), B_X12_cutAll_70 f j17 n x1 x2 x4 x5 u = some r → Fr wI_X12_cutAll wL_X12_cutAll [] u r := by
  intro n
  induction n with
  | zero => intro x1 x2 x4 x5 u h; rw [B_X12_cutAll_70] at h; cases h
  | succ n ih =>
    intro x1 x2 x4 x5 u h
    rw [B_X12_cutAll_70] at h
    rcases ok_or h with h | h
    · skip
      exact Fr_tr (fr_B_X12_cutAll_129 q17 h) Fr_rfl
    · skip
      have h := (ok_ck h).2
      obtain ⟨r37, er37, h⟩ := ok_b h
      have a_r37 : Fr wI_X12_cutAll wL_X12_cutAll [] u r37.2 := Fr_tr (Fr_up Fs_n Fs_n Fs_n (fr_F_X12_isLetter er37)) Fr_rfl
      rcases ok_or h with h | h
      · skip
        exact Fr_tr (fr_B_X12_cutAll_129 q17 h) a_r37
      · skip
        rcases ok_or h with h | h
        · skip
          exact Fr_tr (fr_B_X12_cutAll_121 q17 ih h) a_r37
        · skip
          obtain ⟨r41, er41, h⟩ := ok_b h
          have a_r41 : Fr wI_X12_cutAll wL_X12_cutAll [] u r41.2 := Fr_tr (Fr_up Fs_n Fs_n Fs_n (fr_F_X12_rank er41)) a_r37
          exact Fr_tr (fr_B_X12_cutAll_121 q17 ih h) a_r41
theorem fr_B_X12_cutAll_263 {f : Nat} {x1 : Int32} {x2 : Int32} {x5 : Int64} {s0 : Int32} {s1 : Int32} {r : MT} {j17 : Int32 → Int32 → MT → Option MT} (q17 : ∀ (y0 : Int32) (y1 : Int32) (u : MT), j17 y0 y1 u = some r → Fr wI_X12_cutAll wL_X12_cutAll [] u r) {u : MT} (h : B_X12_cutAll_263 f j17 x1 x2 x5 s0 s1 u = some r) : Fr wI_X12_cutAll wL_X12_cutAll [] u r := by
  rw [B_X12_cutAll_263] at h
  have h := (ok_ck h).2
  exact Fr_tr (fr_B_X12_cutAll_267 q17 h) (Fr_sI0 (List.mem_of_getElem? (i := 0) rfl) Fr_rfl)
theorem fr_B_X12_cutAll_17 {f : Nat} {r : MT} : ∀ (n : Nat) (x1 : Int32) (x2 : Int32) (u : MT), B_X12_cutAll_17 f n x1 x2 u = some r → Fr wI_X12_cutAll wL_X12_cutAll [] u r := by
  intro n
  induction n with
  | zero => intro x1 x2 u h; rw [B_X12_cutAll_17] at h; cases h
  | succ n ih =>
    intro x1 x2 u h
    rw [B_X12_cutAll_17] at h
    rcases ok_or h with h | h
    · skip
      have h := (ok_ck h).2
      cases h
      exact (Fr_sIk (List.mem_of_getElem? (i := 3) rfl) (Fr_sIk (List.mem_of_getElem? (i := 2) rfl) (Fr_sI0 (List.mem_of_getElem? (i := 1) rfl) (Fr_sI0 (List.mem_of_getElem? (i := 0) rfl) Fr_rfl))))
    · skip
      have h := (ok_ck h).2
      rcases ok_or h with h | h
      · skip
        exact Fr_tr (fr_B_X12_cutAll_44 ih h) Fr_rfl
      · skip
        rcases ok_or h with h | h
        · skip
          exact Fr_tr (fr_B_X12_cutAll_44 ih h) Fr_rfl
        · skip
          have h := (ok_ck h).2
          obtain ⟨r15, er15, h⟩ := ok_b h
          have a_r15 : Fr wI_X12_cutAll wL_X12_cutAll [] u r15.2 := Fr_tr (Fr_up Fs_n Fs_n Fs_n (fr_F_X12_isLetter er15)) (Fr_sI0 (List.mem_of_getElem? (i := 1) rfl) Fr_rfl)
          rcases ok_or h with h | h
          · skip
            obtain ⟨r18, er18, h⟩ := ok_b h
            have a_r18 : Fr wI_X12_cutAll wL_X12_cutAll [] u r18.2 := Fr_tr (Fr_up Fs_n Fs_n Fs_n (fr_F_X12_isDigit er18)) a_r15
            rcases ok_or h with h | h
            · skip
              obtain ⟨r22, er22, h⟩ := ok_b h
              have a_r22 : Fr wI_X12_cutAll wL_X12_cutAll [] u r22.2 := Fr_tr (Fr_up Fs_n Fs_n Fs_n (fr_F_X12_isSignOf er22)) a_r18
              rcases ok_or h with h | h
              · skip
                exact Fr_tr (fr_B_X12_cutAll_263 ih h) a_r22
              · skip
                exact Fr_tr (fr_B_X12_cutAll_263 ih h) a_r22
            · skip
              exact Fr_tr (fr_B_X12_cutAll_159 ih _ _ _ _ _ _ h) a_r18
          · skip
            exact Fr_tr (fr_B_X12_cutAll_70 ih _ _ _ _ _ _ h) a_r15
theorem fr_F_X12_cutAll {f : Nat} {r : MT} {u : MT} (h : F_X12_cutAll f u = some r) : Fr wI_X12_cutAll wL_X12_cutAll [] u r := by
  rw [F_X12_cutAll] at h
  exact Fr_tr (fr_B_X12_cutAll_17 _ _ _ _ h) (Fr_sIk (List.mem_of_getElem? (i := 5) rfl) (Fr_sIk (List.mem_of_getElem? (i := 4) rfl) Fr_rfl))
abbrev wI_X12_wrong : WL := [(167, 1, 9)]
theorem fr_F_X12_wrong {f : Nat} {x1 : Int32} {r : MT} {u : MT} (h : F_X12_wrong f x1 u = some r) : Fr wI_X12_wrong [] [] u r := by
  rw [F_X12_wrong] at h
  rcases ok_or h with h | h
  · skip
    have h := (ok_ck h).2
    cases h
    exact (Fr_sIk (List.mem_of_getElem? (i := 0) rfl) Fr_rfl)
  · skip
    cases h
    exact Fr_rfl
theorem fr_F_X12_isSign {f : Nat} {x1 : Int32} {r : (Int32 × MT)} {u : MT} (h : F_X12_isSign f x1 u = some r) : Fr [] [] [] u r.2 := by
  rw [F_X12_isSign] at h
  rcases ok_or h with h | h
  · skip
    have h := (ok_ck h).2
    rcases ok_or h with h | h
    · skip
      rcases ok_or h with h | h
      · skip
        cases h
        exact Fr_rfl
      · skip
        cases h
        exact Fr_rfl
    · skip
      cases h
      exact Fr_rfl
  · skip
    cases h
    exact Fr_rfl
theorem fr_F_X12_isWord {f : Nat} {x1 : Int32} {r : (Int32 × MT)} {u : MT} (h : F_X12_isWord f x1 u = some r) : Fr [] [] [] u r.2 := by
  rw [F_X12_isWord] at h
  rcases ok_or h with h | h
  · skip
    have h := (ok_ck h).2
    rcases ok_or h with h | h
    · skip
      have h := (ok_ck h).2
      rcases ok_or h with h | h
      · skip
        cases h
        exact Fr_rfl
      · skip
        cases h
        exact Fr_rfl
    · skip
      cases h
      exact Fr_rfl
  · skip
    cases h
    exact Fr_rfl
abbrev wI_X12_takeSign : WL := [(167, 1, 9), (167, 1, 8)]
theorem fr_F_X12_takeSign {f : Nat} {x1 : Int32} {r : MT} {u : MT} (h : F_X12_takeSign f x1 u = some r) : Fr wI_X12_takeSign [] [] u r := by
  rw [F_X12_takeSign] at h
  obtain ⟨r1, er1, h⟩ := ok_b h
  have a_r1 : Fr wI_X12_takeSign [] [] u r1.2 := Fr_tr (Fr_up Fs_n Fs_n Fs_n (fr_F_X12_isSign er1)) Fr_rfl
  rcases ok_or h with h | h
  · skip
    obtain ⟨r4, er4, h⟩ := ok_b h
    have a_r4 : Fr wI_X12_takeSign [] [] u r4 := Fr_tr (Fr_up (Fs_c (List.mem_of_getElem? (i := 0) rfl) Fs_n) Fs_n Fs_n (fr_F_X12_wrong er4)) a_r1
    cases h
    exact a_r4
  · skip
    cases h
    exact (Fr_sIk (List.mem_of_getElem? (i := 1) rfl) a_r1)
abbrev wI_X12_hasSign : WL := [(167, 1, 8)]
theorem fr_B_X12_hasSign_20 {f : Nat} {x2 : Int32} {s0 : Int32} {s1 : Int32} {r : (Int32 × MT)} {u : MT} (h : B_X12_hasSign_20 f x2 s0 s1 u = some r) : Fr wI_X12_hasSign [] [] u r.2 := by
  rw [B_X12_hasSign_20] at h
  have h := (ok_ck h).2
  cases h
  exact (Fr_sIk (List.mem_of_getElem? (i := 0) rfl) Fr_rfl)
theorem fr_F_X12_hasSign {f : Nat} {x1 : Int32} {r : (Int32 × MT)} {u : MT} (h : F_X12_hasSign f x1 u = some r) : Fr wI_X12_hasSign [] [] u r.2 := by
  rw [F_X12_hasSign] at h
  obtain ⟨r1, er1, h⟩ := ok_b h
  have a_r1 : Fr wI_X12_hasSign [] [] u r1.2 := Fr_tr (Fr_up Fs_n Fs_n Fs_n (fr_F_X12_isSign er1)) Fr_rfl
  rcases ok_or h with h | h
  · skip
    exact Fr_tr (fr_B_X12_hasSign_20 h) a_r1
  · skip
    exact Fr_tr (fr_B_X12_hasSign_20 h) a_r1
abbrev wI_X12_hasWord : WL := [(167, 1, 8)]
theorem fr_B_X12_hasWord_20 {f : Nat} {x2 : Int32} {s0 : Int32} {s1 : Int32} {r : (Int32 × MT)} {u : MT} (h : B_X12_hasWord_20 f x2 s0 s1 u = some r) : Fr wI_X12_hasWord [] [] u r.2 := by
  rw [B_X12_hasWord_20] at h
  have h := (ok_ck h).2
  cases h
  exact (Fr_sIk (List.mem_of_getElem? (i := 0) rfl) Fr_rfl)
theorem fr_F_X12_hasWord {f : Nat} {x1 : Int32} {r : (Int32 × MT)} {u : MT} (h : F_X12_hasWord f x1 u = some r) : Fr wI_X12_hasWord [] [] u r.2 := by
  rw [F_X12_hasWord] at h
  obtain ⟨r1, er1, h⟩ := ok_b h
  have a_r1 : Fr wI_X12_hasWord [] [] u r1.2 := Fr_tr (Fr_up Fs_n Fs_n Fs_n (fr_F_X12_isWord er1)) Fr_rfl
  rcases ok_or h with h | h
  · skip
    exact Fr_tr (fr_B_X12_hasWord_20 h) a_r1
  · skip
    exact Fr_tr (fr_B_X12_hasWord_20 h) a_r1
abbrev wI_X12_takeWord : WL := [(167, 1, 8), (167, 1, 9)]
theorem fr_F_X12_takeWord {f : Nat} {x1 : Int32} {r : MT} {u : MT} (h : F_X12_takeWord f x1 u = some r) : Fr wI_X12_takeWord [] [] u r := by
  rw [F_X12_takeWord] at h
  obtain ⟨r1, er1, h⟩ := ok_b h
  have a_r1 : Fr wI_X12_takeWord [] [] u r1.2 := Fr_tr (Fr_up (Fs_c (List.mem_of_getElem? (i := 0) rfl) Fs_n) Fs_n Fs_n (fr_F_X12_hasWord er1)) Fr_rfl
  rcases ok_or h with h | h
  · skip
    obtain ⟨r4, er4, h⟩ := ok_b h
    have a_r4 : Fr wI_X12_takeWord [] [] u r4 := Fr_tr (Fr_up (Fs_c (List.mem_of_getElem? (i := 1) rfl) Fs_n) Fs_n Fs_n (fr_F_X12_wrong er4)) a_r1
    cases h
    exact a_r4
  · skip
    cases h
    exact a_r1
abbrev wI_X12_takeNumber : WL := [(167, 1, 8), (167, 1, 9)]
theorem fr_B_X12_takeNumber_70 {f : Nat} {r : (Int32 × MT)} {u : MT} (h : B_X12_takeNumber_70 f u = some r) : Fr wI_X12_takeNumber [] [] u r.2 := by
  rw [B_X12_takeNumber_70] at h
  rcases ok_or h with h | h
  · skip
    have h := (ok_ck h).2
    cases h
    exact (Fr_sIk (List.mem_of_getElem? (i := 0) rfl) Fr_rfl)
  · skip
    cases h
    exact (Fr_sIk (List.mem_of_getElem? (i := 0) rfl) Fr_rfl)
theorem fr_B_X12_takeNumber_65 {f : Nat} {r : (Int32 × MT)} {u : MT} (h : B_X12_takeNumber_65 f u = some r) : Fr wI_X12_takeNumber [] [] u r.2 := by
  rw [B_X12_takeNumber_65] at h
  obtain ⟨r13, er13, h⟩ := ok_b h
  have a_r13 : Fr wI_X12_takeNumber [] [] u r13 := Fr_tr (Fr_up (Fs_c (List.mem_of_getElem? (i := 1) rfl) Fs_n) Fs_n Fs_n (fr_F_X12_wrong er13)) Fr_rfl
  exact Fr_tr (fr_B_X12_takeNumber_70 h) a_r13
theorem fr_B_X12_takeNumber_28 {f : Nat} {x1 : Int32} {x2 : Int32} {r : (Int32 × MT)} {u : MT} (h : B_X12_takeNumber_28 f x1 x2 u = some r) : Fr wI_X12_takeNumber [] [] u r.2 := by
  rw [B_X12_takeNumber_28] at h
  rcases ok_or h with h | h
  · skip
    have h := (ok_ck h).2
    rcases ok_or h with h | h
    · skip
      exact Fr_tr (fr_B_X12_takeNumber_65 h) Fr_rfl
    · skip
      rcases ok_or h with h | h
      · skip
        exact Fr_tr (fr_B_X12_takeNumber_70 h) Fr_rfl
      · skip
        exact Fr_tr (fr_B_X12_takeNumber_65 h) Fr_rfl
  · skip
    exact Fr_tr (fr_B_X12_takeNumber_70 h) Fr_rfl
theorem fr_F_X12_takeNumber {f : Nat} {x1 : Int32} {x2 : Int32} {r : (Int32 × MT)} {u : MT} (h : F_X12_takeNumber f x1 x2 u = some r) : Fr wI_X12_takeNumber [] [] u r.2 := by
  rw [F_X12_takeNumber] at h
  rcases ok_or h with h | h
  · skip
    have h := (ok_ck h).2
    rcases ok_or h with h | h
    · skip
      exact Fr_tr (fr_B_X12_takeNumber_28 h) Fr_rfl
    · skip
      obtain ⟨r4, er4, h⟩ := ok_b h
      have a_r4 : Fr wI_X12_takeNumber [] [] u r4 := Fr_tr (Fr_up (Fs_c (List.mem_of_getElem? (i := 1) rfl) Fs_n) Fs_n Fs_n (fr_F_X12_wrong er4)) Fr_rfl
      exact Fr_tr (fr_B_X12_takeNumber_70 h) a_r4
  · skip
    exact Fr_tr (fr_B_X12_takeNumber_28 h) Fr_rfl
abbrev wI_X12_oneOf : WL := [(167, 1, 9), (167, 1, 8)]
theorem fr_B_X12_oneOf_2 {f : Nat} {r : (Int32 × MT)} : ∀ (n : Nat) (x1 : Int32) (x2 : Int32) (x3 : Int32) (u : MT), B_X12_oneOf_2 f n x1 x2 x3 u = some r → Fr wI_X12_oneOf [] [] u r.2 := by
  intro n
  induction n with
  | zero => intro x1 x2 x3 u h; rw [B_X12_oneOf_2] at h; cases h
  | succ n ih =>
    intro x1 x2 x3 u h
    rw [B_X12_oneOf_2] at h
    rcases ok_or h with h | h
    · skip
      obtain ⟨r2, er2, h⟩ := ok_b h
      have a_r2 : Fr wI_X12_oneOf [] [] u r2 := Fr_tr (Fr_up (Fs_c (List.mem_of_getElem? (i := 0) rfl) Fs_n) Fs_n Fs_n (fr_F_X12_wrong er2)) Fr_rfl
      cases h
      exact a_r2
    · skip
      obtain ⟨r4, er4, h⟩ := ok_b h
      have a_r4 : Fr wI_X12_oneOf [] [] u r4.2 := Fr_tr (Fr_up (Fs_c (List.mem_of_getElem? (i := 1) rfl) Fs_n) Fs_n Fs_n (fr_F_X12_hasWord er4)) Fr_rfl
      rcases ok_or h with h | h
      · skip
        exact Fr_tr (ih _ _ _ _ h) a_r4
      · skip
        cases h
        exact a_r4
theorem fr_F_X12_oneOf {f : Nat} {x1 : Int32} {x2 : Int32} {r : (Int32 × MT)} {u : MT} (h : F_X12_oneOf f x1 x2 u = some r) : Fr wI_X12_oneOf [] [] u r.2 := by
  rw [F_X12_oneOf] at h
  exact Fr_tr (fr_B_X12_oneOf_2 _ _ _ _ _ h) Fr_rfl
abbrev wI_X12_emit : WL := [(182, 1, 0), (183, 1, 0), (184, 1, 8)]
theorem fr_F_X12_emit {f : Nat} {x1 : Int32} {x2 : Int32} {r : MT} {u : MT} (h : F_X12_emit f x1 x2 u = some r) : Fr wI_X12_emit [] [] u r := by
  rw [F_X12_emit] at h
  have h := (ok_ck h).2
  cases h
  exact (Fr_sIk (List.mem_of_getElem? (i := 2) rfl) (Fr_sI0 (List.mem_of_getElem? (i := 1) rfl) (Fr_sI0 (List.mem_of_getElem? (i := 0) rfl) Fr_rfl)))
theorem fr_B_X12_isRule_33 {f : Nat} {r : (Int32 × MT)} {u : MT} (h : B_X12_isRule_33 f u = some r) : Fr [] [] [] u r.2 := by
  rw [B_X12_isRule_33] at h
  cases h
  exact Fr_rfl
theorem fr_F_X12_isRule {f : Nat} {r : (Int32 × MT)} {u : MT} (h : F_X12_isRule f u = some r) : Fr [] [] [] u r.2 := by
  rw [F_X12_isRule] at h
  obtain ⟨r1, er1, h⟩ := ok_b h
  have a_r1 : Fr [] [] [] u r1.2 := Fr_tr (Fr_up Fs_n Fs_n Fs_n (fr_F_X12_isWord er1)) Fr_rfl
  rcases ok_or h with h | h
  · skip
    obtain ⟨r4, er4, h⟩ := ok_b h
    have a_r4 : Fr [] [] [] u r4.2 := Fr_tr (Fr_up Fs_n Fs_n Fs_n (fr_F_X12_isWord er4)) a_r1
    rcases ok_or h with h | h
    · skip
      obtain ⟨r7, er7, h⟩ := ok_b h
      have a_r7 : Fr [] [] [] u r7.2 := Fr_tr (Fr_up Fs_n Fs_n Fs_n (fr_F_X12_isWord er7)) a_r4
      rcases ok_or h with h | h
      · skip
        obtain ⟨r10, er10, h⟩ := ok_b h
        have a_r10 : Fr [] [] [] u r10.2 := Fr_tr (Fr_up Fs_n Fs_n Fs_n (fr_F_X12_isWord er10)) a_r7
        rcases ok_or h with h | h
        · skip
          cases h
          exact a_r10
        · skip
          exact Fr_tr (fr_B_X12_isRule_33 h) a_r10
      · skip
        exact Fr_tr (fr_B_X12_isRule_33 h) a_r7
    · skip
      exact Fr_tr (fr_B_X12_isRule_33 h) a_r4
  · skip
    exact Fr_tr (fr_B_X12_isRule_33 h) a_r1
abbrev wI_X12_opens : WL := [(187, 1, 0), (188, 1, 0)]
theorem fr_F_X12_opens {f : Nat} {r : MT} {u : MT} (h : F_X12_opens f u = some r) : Fr wI_X12_opens [] [] u r := by
  rw [F_X12_opens] at h
  have h := (ok_ck h).2
  have h := (ok_ck h).2
  cases h
  exact (Fr_sI0 (List.mem_of_getElem? (i := 1) rfl) (Fr_sI0 (List.mem_of_getElem? (i := 0) rfl) Fr_rfl))
theorem fr_B_X12_isPart_74 {f : Nat} {r : (Int32 × MT)} {u : MT} (h : B_X12_isPart_74 f u = some r) : Fr [] [] [] u r.2 := by
  rw [B_X12_isPart_74] at h
  cases h
  exact Fr_rfl
theorem fr_F_X12_isPart {f : Nat} {r : (Int32 × MT)} {u : MT} (h : F_X12_isPart f u = some r) : Fr [] [] [] u r.2 := by
  rw [F_X12_isPart] at h
  rcases ok_or h with h | h
  · skip
    have h := (ok_ck h).2
    rcases ok_or h with h | h
    · skip
      exact Fr_tr (fr_B_X12_isPart_74 h) Fr_rfl
    · skip
      obtain ⟨r4, er4, h⟩ := ok_b h
      have a_r4 : Fr [] [] [] u r4.2 := Fr_tr (Fr_up Fs_n Fs_n Fs_n (fr_F_X12_isSign er4)) Fr_rfl
      rcases ok_or h with h | h
      · skip
        obtain ⟨r7, er7, h⟩ := ok_b h
        have a_r7 : Fr [] [] [] u r7.2 := Fr_tr (Fr_up Fs_n Fs_n Fs_n (fr_F_X12_isWord er7)) a_r4
        rcases ok_or h with h | h
        · skip
          obtain ⟨r10, er10, h⟩ := ok_b h
          have a_r10 : Fr [] [] [] u r10.2 := Fr_tr (Fr_up Fs_n Fs_n Fs_n (fr_F_X12_isWord er10)) a_r7
          rcases ok_or h with h | h
          · skip
            obtain ⟨r13, er13, h⟩ := ok_b h
            have a_r13 : Fr [] [] [] u r13.2 := Fr_tr (Fr_up Fs_n Fs_n Fs_n (fr_F_X12_isWord er13)) a_r10
            rcases ok_or h with h | h
            · skip
              obtain ⟨r16, er16, h⟩ := ok_b h
              have a_r16 : Fr [] [] [] u r16.2 := Fr_tr (Fr_up Fs_n Fs_n Fs_n (fr_F_X12_isWord er16)) a_r13
              rcases ok_or h with h | h
              · skip
                obtain ⟨r19, er19, h⟩ := ok_b h
                have a_r19 : Fr [] [] [] u r19.2 := Fr_tr (Fr_up Fs_n Fs_n Fs_n (fr_F_X12_isWord er19)) a_r16
                rcases ok_or h with h | h
                · skip
                  cases h
                  exact a_r19
                · skip
                  exact Fr_tr (fr_B_X12_isPart_74 h) a_r19
              · skip
                exact Fr_tr (fr_B_X12_isPart_74 h) a_r16
            · skip
              exact Fr_tr (fr_B_X12_isPart_74 h) a_r13
          · skip
            exact Fr_tr (fr_B_X12_isPart_74 h) a_r10
        · skip
          exact Fr_tr (fr_B_X12_isPart_74 h) a_r7
      · skip
        exact Fr_tr (fr_B_X12_isPart_74 h) a_r4
  · skip
    cases h
    exact Fr_rfl
abbrev wI_X12_part : WL := [(182, 1, 0), (183, 1, 0), (184, 1, 8), (167, 1, 8), (167, 1, 9), (167, 1, 27), (187, 1, 0), (188, 1, 0)]
theorem fr_B_X12_part_169 {f : Nat} {x1 : Int32} {r : (Int32 × MT)} {u : MT} (h : B_X12_part_169 f x1 u = some r) : Fr wI_X12_part [] [] u r.2 := by
  rw [B_X12_part_169] at h
  obtain ⟨r36, er36, h⟩ := ok_b h
  have a_r36 : Fr wI_X12_part [] [] u r36 := Fr_tr (Fr_up (Fs_c (List.mem_of_getElem? (i := 0) rfl) (Fs_c (List.mem_of_getElem? (i := 1) rfl) (Fs_c (List.mem_of_getElem? (i := 2) rfl) Fs_n))) Fs_n Fs_n (fr_F_X12_emit er36)) Fr_rfl
  cases h
  exact a_r36
theorem fr_B_X12_part_157 {f : Nat} {s0 : Int32} {r : (Int32 × MT)} {u : MT} (h : B_X12_part_157 f s0 u = some r) : Fr wI_X12_part [] [] u r.2 := by
  rw [B_X12_part_157] at h
  rcases ok_or h with h | h
  · skip
    obtain ⟨r34, er34, h⟩ := ok_b h
    have a_r34 : Fr wI_X12_part [] [] u r34 := Fr_tr (Fr_up (Fs_c (List.mem_of_getElem? (i := 3) rfl) (Fs_c (List.mem_of_getElem? (i := 4) rfl) Fs_n)) Fs_n Fs_n (fr_F_X12_takeWord er34)) Fr_rfl
    exact Fr_tr (fr_B_X12_part_169 h) a_r34
  · skip
    exact Fr_tr (fr_B_X12_part_169 h) Fr_rfl
theorem fr_B_X12_part_29 {f : Nat} {r : (Int32 × MT)} {u : MT} (h : B_X12_part_29 f u = some r) : Fr wI_X12_part [] [] u r.2 := by
  rw [B_X12_part_29] at h
  rcases ok_or h with h | h
  · skip
    have h := (ok_ck h).2
    rcases ok_or h with h | h
    · skip
      obtain ⟨r12, er12, h⟩ := ok_b h
      have a_r12 : Fr wI_X12_part [] [] u r12 := Fr_tr (Fr_up (Fs_c (List.mem_of_getElem? (i := 0) rfl) (Fs_c (List.mem_of_getElem? (i := 1) rfl) (Fs_c (List.mem_of_getElem? (i := 2) rfl) Fs_n))) Fs_n Fs_n (fr_F_X12_emit er12)) Fr_rfl
      cases h
      exact (Fr_sIk (List.mem_of_getElem? (i := 3) rfl) a_r12)
    · skip
      obtain ⟨r15, er15, h⟩ := ok_b h
      have a_r15 : Fr wI_X12_part [] [] u r15.2 := Fr_tr (Fr_up (Fs_c (List.mem_of_getElem? (i := 3) rfl) Fs_n) Fs_n Fs_n (fr_F_X12_hasSign er15)) Fr_rfl
      rcases ok_or h with h | h
      · skip
        obtain ⟨r18, er18, h⟩ := ok_b h
        have a_r18 : Fr wI_X12_part [] [] u r18.2 := Fr_tr (Fr_up (Fs_c (List.mem_of_getElem? (i := 3) rfl) Fs_n) Fs_n Fs_n (fr_F_X12_hasWord er18)) a_r15
        rcases ok_or h with h | h
        · skip
          obtain ⟨r21, er21, h⟩ := ok_b h
          have a_r21 : Fr wI_X12_part [] [] u r21.2 := Fr_tr (Fr_up (Fs_c (List.mem_of_getElem? (i := 3) rfl) Fs_n) Fs_n Fs_n (fr_F_X12_hasWord er21)) a_r18
          rcases ok_or h with h | h
          · skip
            obtain ⟨r24, er24, h⟩ := ok_b h
            have a_r24 : Fr wI_X12_part [] [] u r24.2 := Fr_tr (Fr_up (Fs_c (List.mem_of_getElem? (i := 3) rfl) Fs_n) Fs_n Fs_n (fr_F_X12_hasWord er24)) a_r21
            rcases ok_or h with h | h
            · skip
              obtain ⟨r27, er27, h⟩ := ok_b h
              have a_r27 : Fr wI_X12_part [] [] u r27.2 := Fr_tr (Fr_up (Fs_c (List.mem_of_getElem? (i := 3) rfl) Fs_n) Fs_n Fs_n (fr_F_X12_hasWord er27)) a_r24
              rcases ok_or h with h | h
              · skip
                exact Fr_tr (fr_B_X12_part_157 h) a_r27
              · skip
                exact Fr_tr (fr_B_X12_part_157 h) a_r27
            · skip
              exact Fr_tr (fr_B_X12_part_157 h) a_r24
          · skip
            exact Fr_tr (fr_B_X12_part_157 h) a_r21
        · skip
          exact Fr_tr (fr_B_X12_part_157 h) a_r18
      · skip
        obtain ⟨r31, er31, h⟩ := ok_b h
        have a_r31 : Fr wI_X12_part [] [] u r31 := Fr_tr (Fr_up (Fs_c (List.mem_of_getElem? (i := 6) rfl) (Fs_c (List.mem_of_getElem? (i := 7) rfl) Fs_n)) Fs_n Fs_n (fr_F_X12_opens er31)) (Fr_sIk (List.mem_of_getElem? (i := 5) rfl) a_r15)
        cases h
        exact a_r31
  · skip
    cases h
    exact Fr_rfl
theorem fr_F_X12_part {f : Nat} {r : (Int32 × MT)} {u : MT} (h : F_X12_part f u = some r) : Fr wI_X12_part [] [] u r.2 := by
  rw [F_X12_part] at h
  obtain ⟨r1, er1, h⟩ := ok_b h
  have a_r1 : Fr wI_X12_part [] [] u r1.2 := Fr_tr (Fr_up Fs_n Fs_n Fs_n (fr_F_X12_isPart er1)) Fr_rfl
  rcases ok_or h with h | h
  · skip
    obtain ⟨r4, er4, h⟩ := ok_b h
    have a_r4 : Fr wI_X12_part [] [] u r4 := Fr_tr (Fr_up (Fs_c (List.mem_of_getElem? (i := 4) rfl) Fs_n) Fs_n Fs_n (fr_F_X12_wrong er4)) a_r1
    exact Fr_tr (fr_B_X12_part_29 h) a_r4
  · skip
    rcases ok_or h with h | h
    · skip
      obtain ⟨r7, er7, h⟩ := ok_b h
      have a_r7 : Fr wI_X12_part [] [] u r7 := Fr_tr (Fr_up (Fs_c (List.mem_of_getElem? (i := 4) rfl) Fs_n) Fs_n Fs_n (fr_F_X12_wrong er7)) a_r1
      exact Fr_tr (fr_B_X12_part_29 h) a_r7
    · skip
      exact Fr_tr (fr_B_X12_part_29 h) a_r1
abbrev wI_X12_goesOn : WL := [(167, 1, 9), (167, 1, 8), (167, 1, 27), (187, 1, 0), (188, 1, 0), (182, 1, 0), (183, 1, 0), (184, 1, 8)]
theorem fr_B_X12_goesOn_179 {f : Nat} {r : (Int32 × MT)} {j0 : MT → Option (Int32 × MT)} (q0 : ∀ (u : MT), j0 u = some r → Fr wI_X12_goesOn [] [] u r.2) {u : MT} (h : B_X12_goesOn_179 f j0 u = some r) : Fr wI_X12_goesOn [] [] u r.2 := by
  rw [B_X12_goesOn_179] at h
  rcases ok_or h with h | h
  · skip
    cases h
    exact Fr_rfl
  · skip
    obtain ⟨r25, er25, h⟩ := ok_b h
    have a_r25 : Fr wI_X12_goesOn [] [] u r25 := Fr_tr (Fr_up (Fs_c (List.mem_of_getElem? (i := 0) rfl) (Fs_c (List.mem_of_getElem? (i := 1) rfl) Fs_n)) Fs_n Fs_n (fr_F_X12_takeSign er25)) Fr_rfl
    exact Fr_tr (q0 _ h) (Fr_sIk (List.mem_of_getElem? (i := 2) rfl) a_r25)
theorem fr_B_X12_goesOn_83 {f : Nat} {s0 : Int32} {s1 : Int32} {r : (Int32 × MT)} {u : MT} (h : B_X12_goesOn_83 f s0 s1 u = some r) : Fr wI_X12_goesOn [] [] u r.2 := by
  rw [B_X12_goesOn_83] at h
  have h := (ok_ck h).2
  cases h
  exact (Fr_sIk (List.mem_of_getElem? (i := 1) rfl) (Fr_sI0 (List.mem_of_getElem? (i := 3) rfl) Fr_rfl))
theorem fr_B_X12_goesOn_61 {f : Nat} {r : (Int32 × MT)} {u : MT} (h : B_X12_goesOn_61 f u = some r) : Fr wI_X12_goesOn [] [] u r.2 := by
  rw [B_X12_goesOn_61] at h
  obtain ⟨r31, er31, h⟩ := ok_b h
  have a_r31 : Fr wI_X12_goesOn [] [] u r31.2 := Fr_tr (Fr_up Fs_n Fs_n Fs_n (fr_F_X12_isSign er31)) Fr_rfl
  rcases ok_or h with h | h
  · skip
    exact Fr_tr (fr_B_X12_goesOn_83 h) a_r31
  · skip
    exact Fr_tr (fr_B_X12_goesOn_83 h) a_r31
theorem fr_B_X12_goesOn_166 {f : Nat} {s0 : Int32} {s1 : Int32} {r : (Int32 × MT)} {u : MT} (h : B_X12_goesOn_166 f s0 s1 u = some r) : Fr wI_X12_goesOn [] [] u r.2 := by
  rw [B_X12_goesOn_166] at h
  have h := (ok_ck h).2
  cases h
  exact (Fr_sIk (List.mem_of_getElem? (i := 1) rfl) (Fr_sI0 (List.mem_of_getElem? (i := 4) rfl) Fr_rfl))
theorem fr_B_X12_goesOn_143 {f : Nat} {r : (Int32 × MT)} {u : MT} (h : B_X12_goesOn_143 f u = some r) : Fr wI_X12_goesOn [] [] u r.2 := by
  rw [B_X12_goesOn_143] at h
  obtain ⟨r28, er28, h⟩ := ok_b h
  have a_r28 : Fr wI_X12_goesOn [] [] u r28.2 := Fr_tr (Fr_up Fs_n Fs_n Fs_n (fr_F_X12_isSign er28)) Fr_rfl
  rcases ok_or h with h | h
  · skip
    exact Fr_tr (fr_B_X12_goesOn_166 h) a_r28
  · skip
    exact Fr_tr (fr_B_X12_goesOn_166 h) a_r28
theorem fr_B_X12_goesOn_43 {f : Nat} {r : (Int32 × MT)} {j0 : MT → Option (Int32 × MT)} (q0 : ∀ (u : MT), j0 u = some r → Fr wI_X12_goesOn [] [] u r.2) {u : MT} (h : B_X12_goesOn_43 f j0 u = some r) : Fr wI_X12_goesOn [] [] u r.2 := by
  rw [B_X12_goesOn_43] at h
  obtain ⟨r8, er8, h⟩ := ok_b h
  have a_r8 : Fr wI_X12_goesOn [] [] u r8.2 := Fr_tr (Fr_up Fs_n Fs_n Fs_n (fr_F_X12_isSign er8)) Fr_rfl
  rcases ok_or h with h | h
  · skip
    obtain ⟨r11, er11, h⟩ := ok_b h
    have a_r11 : Fr wI_X12_goesOn [] [] u r11.2 := Fr_tr (Fr_up Fs_n Fs_n Fs_n (fr_F_X12_isSign er11)) a_r8
    rcases ok_or h with h | h
    · skip
      have h := (ok_ck h).2
      rcases ok_or h with h | h
      · skip
        obtain ⟨r16, er16, h⟩ := ok_b h
        have a_r16 : Fr wI_X12_goesOn [] [] u r16.2 := Fr_tr (Fr_up Fs_n Fs_n Fs_n (fr_F_X12_isSign er16)) a_r11
        rcases ok_or h with h | h
        · skip
          obtain ⟨r19, er19, h⟩ := ok_b h
          have a_r19 : Fr wI_X12_goesOn [] [] u r19.2 := Fr_tr (Fr_up Fs_n Fs_n Fs_n (fr_F_X12_isSign er19)) a_r16
          rcases ok_or h with h | h
          · skip
            exact Fr_tr (fr_B_X12_goesOn_179 q0 h) a_r19
          · skip
            exact Fr_tr (fr_B_X12_goesOn_143 h) a_r19
        · skip
          exact Fr_tr (fr_B_X12_goesOn_143 h) a_r16
      · skip
        obtain ⟨r22, er22, h⟩ := ok_b h
        have a_r22 : Fr wI_X12_goesOn [] [] u r22 := Fr_tr (Fr_up (Fs_c (List.mem_of_getElem? (i := 5) rfl) (Fs_c (List.mem_of_getElem? (i := 6) rfl) (Fs_c (List.mem_of_getElem? (i := 7) rfl) Fs_n))) Fs_n Fs_n (fr_F_X12_emit er22)) a_r11
        exact Fr_tr (fr_B_X12_goesOn_179 q0 h) a_r22
    · skip
      exact Fr_tr (fr_B_X12_goesOn_61 h) a_r11
  · skip
    exact Fr_tr (fr_B_X12_goesOn_61 h) a_r8
theorem fr_B_X12_goesOn_0 {f : Nat} {r : (Int32 × MT)} : ∀ (n : Nat) (u : MT), B_X12_goesOn_0 f n u = some r → Fr wI_X12_goesOn [] [] u r.2 := by
  intro n
  induction n with
  | zero => intro u h; rw [B_X12_goesOn_0] at h; cases h
  | succ n ih =>
    intro u h
    rw [B_X12_goesOn_0] at h
    rcases ok_or h with h | h
    · skip
      have h := (ok_ck h).2
      rcases ok_or h with h | h
      · skip
        exact Fr_tr (fr_B_X12_goesOn_43 ih h) Fr_rfl
      · skip
        obtain ⟨r4, er4, h⟩ := ok_b h
        have a_r4 : Fr wI_X12_goesOn [] [] u r4 := Fr_tr (Fr_up (Fs_c (List.mem_of_getElem? (i := 5) rfl) (Fs_c (List.mem_of_getElem? (i := 6) rfl) (Fs_c (List.mem_of_getElem? (i := 7) rfl) Fs_n))) Fs_n Fs_n (fr_F_X12_emit er4)) Fr_rfl
        have h := (ok_ck h).2
        exact Fr_tr (fr_B_X12_goesOn_43 ih h) (Fr_sI0 (List.mem_of_getElem? (i := 3) rfl) a_r4)
    · skip
      cases h
      exact Fr_rfl
theorem fr_F_X12_goesOn {f : Nat} {r : (Int32 × MT)} {u : MT} (h : F_X12_goesOn f u = some r) : Fr wI_X12_goesOn [] [] u r.2 := by
  rw [F_X12_goesOn] at h
  exact Fr_tr (fr_B_X12_goesOn_0 _ _ h) Fr_rfl
abbrev wI_X12_expression : WL := [(182, 1, 0), (183, 1, 0), (184, 1, 8), (167, 1, 8), (167, 1, 9), (167, 1, 27), (187, 1, 0), (188, 1, 0)]
theorem fr_B_X12_expression_36 {f : Nat} {s0 : Int32} {r : MT} {j6 : Int32 → MT → Option MT} (q6 : ∀ (y0 : Int32) (u : MT), j6 y0 u = some r → Fr wI_X12_expression [] [] u r) {u : MT} (h : B_X12_expression_36 f j6 s0 u = some r) : Fr wI_X12_expression [] [] u r := by
  rw [B_X12_expression_36] at h
  exact Fr_tr (q6 _ _ h) Fr_rfl
theorem fr_B_X12_expression_31 {f : Nat} {r : MT} {j6 : Int32 → MT → Option MT} (q6 : ∀ (y0 : Int32) (u : MT), j6 y0 u = some r → Fr wI_X12_expression [] [] u r) {u : MT} (h : B_X12_expression_31 f j6 u = some r) : Fr wI_X12_expression [] [] u r := by
  rw [B_X12_expression_31] at h
  exact Fr_tr (fr_B_X12_expression_36 q6 h) Fr_rfl
theorem fr_B_X12_expression_6 {f : Nat} {r : MT} : ∀ (n : Nat) (x1 : Int32) (u : MT), B_X12_expression_6 f n x1 u = some r → Fr wI_X12_expression [] [] u r := by
  intro n
  induction n with
  | zero => intro x1 u h; rw [B_X12_expression_6] at h; cases h
  | succ n ih =>
    intro x1 u h
    rw [B_X12_expression_6] at h
    rcases ok_or h with h | h
    · skip
      cases h
      exact Fr_rfl
    · skip
      rcases ok_or h with h | h
      · skip
        obtain ⟨r5, er5, h⟩ := ok_b h
        have a_r5 : Fr wI_X12_expression [] [] u r5.2 := Fr_tr (Fr_up (Fs_c (List.mem_of_getElem? (i := 0) rfl) (Fs_c (List.mem_of_getElem? (i := 1) rfl) (Fs_c (List.mem_of_getElem? (i := 2) rfl) (Fs_c (List.mem_of_getElem? (i := 3) rfl) (Fs_c (List.mem_of_getElem? (i := 4) rfl) (Fs_c (List.mem_of_getElem? (i := 5) rfl) (Fs_c (List.mem_of_getElem? (i := 6) rfl) (Fs_c (List.mem_of_getElem? (i := 7) rfl) Fs_n)))))))) Fs_n Fs_n (fr_F_X12_part er5)) Fr_rfl
        rcases ok_or h with h | h
        · skip
          obtain ⟨r8, er8, h⟩ := ok_b h
          have a_r8 : Fr wI_X12_expression [] [] u r8.2 := Fr_tr (Fr_up (Fs_c (List.mem_of_getElem? (i := 4) rfl) (Fs_c (List.mem_of_getElem? (i := 3) rfl) (Fs_c (List.mem_of_getElem? (i := 5) rfl) (Fs_c (List.mem_of_getElem? (i := 6) rfl) (Fs_c (List.mem_of_getElem? (i := 7) rfl) (Fs_c (List.mem_of_getElem? (i := 0) rfl) (Fs_c (List.mem_of_getElem? (i := 1) rfl) (Fs_c (List.mem_of_getElem? (i := 2) rfl) Fs_n)))))))) Fs_n Fs_n (fr_F_X12_goesOn er8)) a_r5
          rcases ok_or h with h | h
          · skip
            exact Fr_tr (fr_B_X12_expression_36 ih h) a_r8
          · skip
            exact Fr_tr (fr_B_X12_expression_31 ih h) a_r8
        · skip
          exact Fr_tr (fr_B_X12_expression_31 ih h) a_r5
      · skip
        cases h
        exact Fr_rfl
theorem fr_F_X12_expression {f : Nat} {r : MT} {u : MT} (h : F_X12_expression f u = some r) : Fr wI_X12_expression [] [] u r := by
  rw [F_X12_expression] at h
  obtain ⟨r1, er1, h⟩ := ok_b h
  have a_r1 : Fr wI_X12_expression [] [] u r1 := Fr_tr (Fr_up (Fs_c (List.mem_of_getElem? (i := 6) rfl) (Fs_c (List.mem_of_getElem? (i := 7) rfl) Fs_n)) Fs_n Fs_n (fr_F_X12_opens er1)) Fr_rfl
  exact Fr_tr (fr_B_X12_expression_6 _ _ _ h) a_r1
abbrev wI_X12_code : WL := [(167, 1, 27), (182, 1, 0), (183, 1, 0), (184, 1, 8), (167, 1, 8), (167, 1, 9), (187, 1, 0), (188, 1, 0)]
theorem fr_F_X12_code {f : Nat} {r : (Int32 × MT)} {u : MT} (h : F_X12_code f u = some r) : Fr wI_X12_code [] [] u r.2 := by
  rw [F_X12_code] at h
  obtain ⟨r3, er3, h⟩ := ok_b h
  have a_r3 : Fr wI_X12_code [] [] u r3 := Fr_tr (Fr_up (Fs_c (List.mem_of_getElem? (i := 1) rfl) (Fs_c (List.mem_of_getElem? (i := 2) rfl) (Fs_c (List.mem_of_getElem? (i := 3) rfl) (Fs_c (List.mem_of_getElem? (i := 4) rfl) (Fs_c (List.mem_of_getElem? (i := 5) rfl) (Fs_c (List.mem_of_getElem? (i := 0) rfl) (Fs_c (List.mem_of_getElem? (i := 6) rfl) (Fs_c (List.mem_of_getElem? (i := 7) rfl) Fs_n)))))))) Fs_n Fs_n (fr_F_X12_expression er3)) (Fr_sIk (List.mem_of_getElem? (i := 0) rfl) Fr_rfl)
  obtain ⟨r5, er5, h⟩ := ok_b h
  have a_r5 : Fr wI_X12_code [] [] u r5 := Fr_tr (Fr_up (Fs_c (List.mem_of_getElem? (i := 1) rfl) (Fs_c (List.mem_of_getElem? (i := 2) rfl) (Fs_c (List.mem_of_getElem? (i := 3) rfl) Fs_n))) Fs_n Fs_n (fr_F_X12_emit er5)) a_r3
  cases h
  exact a_r5
abbrev wI_X12_readAmount : WL := [(177, 1, 0), (167, 1, 8), (167, 1, 27), (182, 1, 0), (183, 1, 0), (184, 1, 8), (167, 1, 9), (187, 1, 0), (188, 1, 0)]
theorem fr_B_X12_readAmount_22 {f : Nat} {s0 : Int32} {s1 : Int32} {r : MT} {u : MT} (h : B_X12_readAmount_22 f s0 s1 u = some r) : Fr wI_X12_readAmount [] [] u r := by
  rw [B_X12_readAmount_22] at h
  have h := (ok_ck h).2
  cases h
  exact (Fr_sI0 (List.mem_of_getElem? (i := 0) rfl) Fr_rfl)
theorem fr_F_X12_readAmount {f : Nat} {x1 : Int32} {r : MT} {u : MT} (h : F_X12_readAmount f x1 u = some r) : Fr wI_X12_readAmount [] [] u r := by
  rw [F_X12_readAmount] at h
  obtain ⟨r1, er1, h⟩ := ok_b h
  have a_r1 : Fr wI_X12_readAmount [] [] u r1.2 := Fr_tr (Fr_up (Fs_c (List.mem_of_getElem? (i := 1) rfl) Fs_n) Fs_n Fs_n (fr_F_X12_hasWord er1)) Fr_rfl
  rcases ok_or h with h | h
  · skip
    obtain ⟨r4, er4, h⟩ := ok_b h
    have a_r4 : Fr wI_X12_readAmount [] [] u r4.2 := Fr_tr (Fr_up (Fs_c (List.mem_of_getElem? (i := 2) rfl) (Fs_c (List.mem_of_getElem? (i := 3) rfl) (Fs_c (List.mem_of_getElem? (i := 4) rfl) (Fs_c (List.mem_of_getElem? (i := 5) rfl) (Fs_c (List.mem_of_getElem? (i := 1) rfl) (Fs_c (List.mem_of_getElem? (i := 6) rfl) (Fs_c (List.mem_of_getElem? (i := 7) rfl) (Fs_c (List.mem_of_getElem? (i := 8) rfl) Fs_n)))))))) Fs_n Fs_n (fr_F_X12_code er4)) a_r1
    exact Fr_tr (fr_B_X12_readAmount_22 h) a_r4
  · skip
    exact Fr_tr (fr_B_X12_readAmount_22 h) a_r1
abbrev wI_X12_readWhom : WL := [(180, 1, 0), (167, 1, 8), (167, 1, 9), (179, 1, 0)]
theorem fr_F_X12_readWhom {f : Nat} {x1 : Int32} {r : MT} {u : MT} (h : F_X12_readWhom f x1 u = some r) : Fr wI_X12_readWhom [] [] u r := by
  rw [F_X12_readWhom] at h
  have h := (ok_ck h).2
  obtain ⟨r3, er3, h⟩ := ok_b h
  have a_r3 : Fr wI_X12_readWhom [] [] u r3.2 := Fr_tr (Fr_up (Fs_c (List.mem_of_getElem? (i := 1) rfl) Fs_n) Fs_n Fs_n (fr_F_X12_hasWord er3)) (Fr_sI0 (List.mem_of_getElem? (i := 0) rfl) Fr_rfl)
  rcases ok_or h with h | h
  · skip
    obtain ⟨r6, er6, h⟩ := ok_b h
    have a_r6 : Fr wI_X12_readWhom [] [] u r6.2 := Fr_tr (Fr_up (Fs_c (List.mem_of_getElem? (i := 1) rfl) Fs_n) Fs_n Fs_n (fr_F_X12_hasWord er6)) a_r3
    rcases ok_or h with h | h
    · skip
      obtain ⟨r9, er9, h⟩ := ok_b h
      have a_r9 : Fr wI_X12_readWhom [] [] u r9 := Fr_tr (Fr_up (Fs_c (List.mem_of_getElem? (i := 1) rfl) (Fs_c (List.mem_of_getElem? (i := 2) rfl) Fs_n)) Fs_n Fs_n (fr_F_X12_takeWord er9)) a_r6
      obtain ⟨r12, er12, h⟩ := ok_b h
      have a_r12 : Fr wI_X12_readWhom [] [] u r12.2 := Fr_tr (Fr_up (Fs_c (List.mem_of_getElem? (i := 1) rfl) (Fs_c (List.mem_of_getElem? (i := 2) rfl) Fs_n)) Fs_n Fs_n (fr_F_X12_takeNumber er12)) (Fr_sI0 (List.mem_of_getElem? (i := 3) rfl) a_r9)
      cases h
      exact (Fr_sI0 (List.mem_of_getElem? (i := 0) rfl) a_r12)
    · skip
      obtain ⟨r16, er16, h⟩ := ok_b h
      have a_r16 : Fr wI_X12_readWhom [] [] u r16.2 := Fr_tr (Fr_up (Fs_c (List.mem_of_getElem? (i := 1) rfl) (Fs_c (List.mem_of_getElem? (i := 2) rfl) Fs_n)) Fs_n Fs_n (fr_F_X12_takeNumber er16)) (Fr_sI0 (List.mem_of_getElem? (i := 3) rfl) a_r6)
      cases h
      exact (Fr_sI0 (List.mem_of_getElem? (i := 0) rfl) a_r16)
  · skip
    cases h
    exact (Fr_sI0 (List.mem_of_getElem? (i := 3) rfl) a_r3)
abbrev wI_X12_readRule : WL := [(167, 1, 9), (167, 1, 8), (173, 1, 8), (178, 1, 0), (180, 1, 0), (175, 1, 0), (176, 1, 0), (177, 1, 0), (167, 1, 27), (182, 1, 0), (183, 1, 0), (184, 1, 8), (187, 1, 0), (188, 1, 0), (179, 1, 0), (181, 1, 0)]
theorem fr_B_X12_readRule_236 {f : Nat} {r : MT} {u : MT} (h : B_X12_readRule_236 f u = some r) : Fr wI_X12_readRule [] [] u r := by
  rw [B_X12_readRule_236] at h
  obtain ⟨r66, er66, h⟩ := ok_b h
  have a_r66 : Fr wI_X12_readRule [] [] u r66 := Fr_tr (Fr_up (Fs_c (List.mem_of_getElem? (i := 0) rfl) (Fs_c (List.mem_of_getElem? (i := 1) rfl) Fs_n)) Fs_n Fs_n (fr_F_X12_takeSign er66)) Fr_rfl
  cases h
  exact (Fr_sIk (List.mem_of_getElem? (i := 2) rfl) a_r66)
theorem fr_B_X12_readRule_222 {f : Nat} {x1 : Int32} {s0 : Int32} {s1 : Int32} {r : MT} {u : MT} (h : B_X12_readRule_222 f x1 s0 s1 u = some r) : Fr wI_X12_readRule [] [] u r := by
  rw [B_X12_readRule_222] at h
  have h := (ok_ck h).2
  obtain ⟨r60, er60, h⟩ := ok_b h
  have a_r60 : Fr wI_X12_readRule [] [] u r60.2 := Fr_tr (Fr_up (Fs_c (List.mem_of_getElem? (i := 1) rfl) (Fs_c (List.mem_of_getElem? (i := 0) rfl) Fs_n)) Fs_n Fs_n (fr_F_X12_takeNumber er60)) (Fr_sI0 (List.mem_of_getElem? (i := 3) rfl) Fr_rfl)
  have h := (ok_ck h).2
  exact Fr_tr (fr_B_X12_readRule_236 h) (Fr_sI0 (List.mem_of_getElem? (i := 4) rfl) a_r60)
theorem fr_B_X12_readRule_203 {f : Nat} {x1 : Int32} {s0 : Int32} {r : MT} {u : MT} (h : B_X12_readRule_203 f x1 s0 u = some r) : Fr wI_X12_readRule [] [] u r := by
  rw [B_X12_readRule_203] at h
  obtain ⟨r64, er64, h⟩ := ok_b h
  have a_r64 : Fr wI_X12_readRule [] [] u r64.2 := Fr_tr (Fr_up (Fs_c (List.mem_of_getElem? (i := 0) rfl) (Fs_c (List.mem_of_getElem? (i := 1) rfl) Fs_n)) Fs_n Fs_n (fr_F_X12_oneOf er64)) Fr_rfl
  exact Fr_tr (fr_B_X12_readRule_222 h) a_r64
theorem fr_B_X12_readRule_73 {f : Nat} {x1 : Int32} {s0 : Int32} {s1 : Int32} {r : MT} {u : MT} (h : B_X12_readRule_73 f x1 s0 s1 u = some r) : Fr wI_X12_readRule [] [] u r := by
  rw [B_X12_readRule_73] at h
  have h := (ok_ck h).2
  obtain ⟨r18, er18, h⟩ := ok_b h
  have a_r18 : Fr wI_X12_readRule [] [] u r18.2 := Fr_tr (Fr_up (Fs_c (List.mem_of_getElem? (i := 1) rfl) Fs_n) Fs_n Fs_n (fr_F_X12_hasWord er18)) (Fr_sI0 (List.mem_of_getElem? (i := 5) rfl) Fr_rfl)
  rcases ok_or h with h | h
  · skip
    obtain ⟨r21, er21, h⟩ := ok_b h
    have a_r21 : Fr wI_X12_readRule [] [] u r21.2 := Fr_tr (Fr_up (Fs_c (List.mem_of_getElem? (i := 1) rfl) Fs_n) Fs_n Fs_n (fr_F_X12_hasWord er21)) a_r18
    rcases ok_or h with h | h
    · skip
      obtain ⟨r24, er24, h⟩ := ok_b h
      have a_r24 : Fr wI_X12_readRule [] [] u r24 := Fr_tr (Fr_up (Fs_c (List.mem_of_getElem? (i := 1) rfl) (Fs_c (List.mem_of_getElem? (i := 0) rfl) Fs_n)) Fs_n Fs_n (fr_F_X12_takeWord er24)) a_r21
      have h := (ok_ck h).2
      obtain ⟨r28, er28, h⟩ := ok_b h
      have a_r28 : Fr wI_X12_readRule [] [] u r28.2 := Fr_tr (Fr_up Fs_n Fs_n Fs_n (fr_F_X12_isWord er28)) (Fr_sI0 (List.mem_of_getElem? (i := 6) rfl) a_r24)
      rcases ok_or h with h | h
      · skip
        obtain ⟨r31, er31, h⟩ := ok_b h
        have a_r31 : Fr wI_X12_readRule [] [] u r31.2 := Fr_tr (Fr_up Fs_n Fs_n Fs_n (fr_F_X12_isWord er31)) a_r28
        rcases ok_or h with h | h
        · skip
          obtain ⟨r34, er34, h⟩ := ok_b h
          have a_r34 : Fr wI_X12_readRule [] [] u r34.2 := Fr_tr (Fr_up (Fs_c (List.mem_of_getElem? (i := 0) rfl) (Fs_c (List.mem_of_getElem? (i := 1) rfl) Fs_n)) Fs_n Fs_n (fr_F_X12_oneOf er34)) a_r31
          exact Fr_tr (fr_B_X12_readRule_222 h) a_r34
        · skip
          exact Fr_tr (fr_B_X12_readRule_203 h) a_r31
      · skip
        exact Fr_tr (fr_B_X12_readRule_203 h) a_r28
    · skip
      have h := (ok_ck h).2
      obtain ⟨r38, er38, h⟩ := ok_b h
      have a_r38 : Fr wI_X12_readRule [] [] u r38 := Fr_tr (Fr_up (Fs_c (List.mem_of_getElem? (i := 7) rfl) (Fs_c (List.mem_of_getElem? (i := 1) rfl) (Fs_c (List.mem_of_getElem? (i := 8) rfl) (Fs_c (List.mem_of_getElem? (i := 9) rfl) (Fs_c (List.mem_of_getElem? (i := 10) rfl) (Fs_c (List.mem_of_getElem? (i := 11) rfl) (Fs_c (List.mem_of_getElem? (i := 0) rfl) (Fs_c (List.mem_of_getElem? (i := 12) rfl) (Fs_c (List.mem_of_getElem? (i := 13) rfl) Fs_n))))))))) Fs_n Fs_n (fr_F_X12_readAmount er38)) (Fr_sI0 (List.mem_of_getElem? (i := 6) rfl) a_r21)
      exact Fr_tr (fr_B_X12_readRule_236 h) a_r38
  · skip
    have h := (ok_ck h).2
    obtain ⟨r42, er42, h⟩ := ok_b h
    have a_r42 : Fr wI_X12_readRule [] [] u r42 := Fr_tr (Fr_up (Fs_c (List.mem_of_getElem? (i := 7) rfl) (Fs_c (List.mem_of_getElem? (i := 1) rfl) (Fs_c (List.mem_of_getElem? (i := 8) rfl) (Fs_c (List.mem_of_getElem? (i := 9) rfl) (Fs_c (List.mem_of_getElem? (i := 10) rfl) (Fs_c (List.mem_of_getElem? (i := 11) rfl) (Fs_c (List.mem_of_getElem? (i := 0) rfl) (Fs_c (List.mem_of_getElem? (i := 12) rfl) (Fs_c (List.mem_of_getElem? (i := 13) rfl) Fs_n))))))))) Fs_n Fs_n (fr_F_X12_readAmount er42)) (Fr_sI0 (List.mem_of_getElem? (i := 6) rfl) a_r18)
    obtain ⟨r44, er44, h⟩ := ok_b h
    have a_r44 : Fr wI_X12_readRule [] [] u r44 := Fr_tr (Fr_up (Fs_c (List.mem_of_getElem? (i := 1) rfl) (Fs_c (List.mem_of_getElem? (i := 0) rfl) Fs_n)) Fs_n Fs_n (fr_F_X12_takeWord er44)) a_r42
    obtain ⟨r46, er46, h⟩ := ok_b h
    have a_r46 : Fr wI_X12_readRule [] [] u r46.2 := Fr_tr (Fr_up (Fs_c (List.mem_of_getElem? (i := 0) rfl) (Fs_c (List.mem_of_getElem? (i := 1) rfl) Fs_n)) Fs_n Fs_n (fr_F_X12_oneOf er46)) a_r44
    obtain ⟨r49, er49, h⟩ := ok_b h
    have a_r49 : Fr wI_X12_readRule [] [] u r49 := Fr_tr (Fr_up (Fs_c (List.mem_of_getElem? (i := 1) rfl) (Fs_c (List.mem_of_getElem? (i := 0) rfl) Fs_n)) Fs_n Fs_n (fr_F_X12_takeWord er49)) (Fr_sI0 (List.mem_of_getElem? (i := 3) rfl) a_r46)
    obtain ⟨r51, er51, h⟩ := ok_b h
    have a_r51 : Fr wI_X12_readRule [] [] u r51 := Fr_tr (Fr_up (Fs_c (List.mem_of_getElem? (i := 4) rfl) (Fs_c (List.mem_of_getElem? (i := 1) rfl) (Fs_c (List.mem_of_getElem? (i := 0) rfl) (Fs_c (List.mem_of_getElem? (i := 14) rfl) Fs_n)))) Fs_n Fs_n (fr_F_X12_readWhom er51)) a_r49
    obtain ⟨r53, er53, h⟩ := ok_b h
    have a_r53 : Fr wI_X12_readRule [] [] u r53 := Fr_tr (Fr_up (Fs_c (List.mem_of_getElem? (i := 1) rfl) (Fs_c (List.mem_of_getElem? (i := 0) rfl) Fs_n)) Fs_n Fs_n (fr_F_X12_takeWord er53)) a_r51
    obtain ⟨r55, er55, h⟩ := ok_b h
    have a_r55 : Fr wI_X12_readRule [] [] u r55.2 := Fr_tr (Fr_up (Fs_c (List.mem_of_getElem? (i := 0) rfl) (Fs_c (List.mem_of_getElem? (i := 1) rfl) Fs_n)) Fs_n Fs_n (fr_F_X12_oneOf er55)) a_r53
    exact Fr_tr (fr_B_X12_readRule_236 h) (Fr_sI0 (List.mem_of_getElem? (i := 15) rfl) a_r55)
theorem fr_B_X12_readRule_32 {f : Nat} {r : MT} {u : MT} (h : B_X12_readRule_32 f u = some r) : Fr wI_X12_readRule [] [] u r := by
  rw [B_X12_readRule_32] at h
  rcases ok_or h with h | h
  · skip
    obtain ⟨r11, er11, h⟩ := ok_b h
    have a_r11 : Fr wI_X12_readRule [] [] u r11.2 := Fr_tr (Fr_up (Fs_c (List.mem_of_getElem? (i := 1) rfl) Fs_n) Fs_n Fs_n (fr_F_X12_hasWord er11)) Fr_rfl
    rcases ok_or h with h | h
    · skip
      exact Fr_tr (fr_B_X12_readRule_73 h) a_r11
    · skip
      obtain ⟨r14, er14, h⟩ := ok_b h
      have a_r14 : Fr wI_X12_readRule [] [] u r14.2 := Fr_tr (Fr_up (Fs_c (List.mem_of_getElem? (i := 8) rfl) (Fs_c (List.mem_of_getElem? (i := 9) rfl) (Fs_c (List.mem_of_getElem? (i := 10) rfl) (Fs_c (List.mem_of_getElem? (i := 11) rfl) (Fs_c (List.mem_of_getElem? (i := 1) rfl) (Fs_c (List.mem_of_getElem? (i := 0) rfl) (Fs_c (List.mem_of_getElem? (i := 12) rfl) (Fs_c (List.mem_of_getElem? (i := 13) rfl) Fs_n)))))))) Fs_n Fs_n (fr_F_X12_code er14)) a_r11
      exact Fr_tr (fr_B_X12_readRule_73 h) a_r14
  · skip
    cases h
    exact Fr_rfl
theorem fr_F_X12_readRule {f : Nat} {r : MT} {u : MT} (h : F_X12_readRule f u = some r) : Fr wI_X12_readRule [] [] u r := by
  rw [F_X12_readRule] at h
  obtain ⟨r1, er1, h⟩ := ok_b h
  have a_r1 : Fr wI_X12_readRule [] [] u r1.2 := Fr_tr (Fr_up Fs_n Fs_n Fs_n (fr_F_X12_isRule er1)) Fr_rfl
  rcases ok_or h with h | h
  · skip
    obtain ⟨r4, er4, h⟩ := ok_b h
    have a_r4 : Fr wI_X12_readRule [] [] u r4 := Fr_tr (Fr_up (Fs_c (List.mem_of_getElem? (i := 0) rfl) Fs_n) Fs_n Fs_n (fr_F_X12_wrong er4)) a_r1
    exact Fr_tr (fr_B_X12_readRule_32 h) a_r4
  · skip
    rcases ok_or h with h | h
    · skip
      obtain ⟨r7, er7, h⟩ := ok_b h
      have a_r7 : Fr wI_X12_readRule [] [] u r7 := Fr_tr (Fr_up (Fs_c (List.mem_of_getElem? (i := 0) rfl) Fs_n) Fs_n Fs_n (fr_F_X12_wrong er7)) a_r1
      exact Fr_tr (fr_B_X12_readRule_32 h) a_r7
    · skip
      exact Fr_tr (fr_B_X12_readRule_32 h) a_r1
abbrev wI_X12_readText : WL := [(167, 1, 8), (167, 1, 9), (174, 1, 8), (173, 1, 8), (178, 1, 0), (180, 1, 0), (175, 1, 0), (176, 1, 0), (177, 1, 0), (167, 1, 27), (182, 1, 0), (183, 1, 0), (184, 1, 8), (187, 1, 0), (188, 1, 0), (179, 1, 0), (181, 1, 0), (169, 1, 0), (170, 1, 0), (167, 1, 4), (167, 1, 3)]
abbrev wL_X12_readText : WL := [(171, 1, 0)]
theorem fr_B_X12_readText_43 {f : Nat} {r : MT} {u : MT} (h : B_X12_readText_43 f u = some r) : Fr wI_X12_readText wL_X12_readText [] u r := by
  rw [B_X12_readText_43] at h
  obtain ⟨r11, er11, h⟩ := ok_b h
  have a_r11 : Fr wI_X12_readText wL_X12_readText [] u r11 := Fr_tr (Fr_up (Fs_c (List.mem_of_getElem? (i := 0) rfl) (Fs_c (List.mem_of_getElem? (i := 1) rfl) Fs_n)) Fs_n Fs_n (fr_F_X12_takeWord er11)) Fr_rfl
  obtain ⟨r13, er13, h⟩ := ok_b h
  have a_r13 : Fr wI_X12_readText wL_X12_readText [] u r13.2 := Fr_tr (Fr_up (Fs_c (List.mem_of_getElem? (i := 1) rfl) (Fs_c (List.mem_of_getElem? (i := 0) rfl) Fs_n)) Fs_n Fs_n (fr_F_X12_oneOf er13)) a_r11
  obtain ⟨r16, er16, h⟩ := ok_b h
  have a_r16 : Fr wI_X12_readText wL_X12_readText [] u r16 := Fr_tr (Fr_up (Fs_c (List.mem_of_getElem? (i := 1) rfl) (Fs_c (List.mem_of_getElem? (i := 0) rfl) Fs_n)) Fs_n Fs_n (fr_F_X12_takeSign er16)) (Fr_sIk (List.mem_of_getElem? (i := 2) rfl) a_r13)
  rcases ok_or h with h | h
  · skip
    have h := (ok_ck h).2
    rcases ok_or h with h | h
    · skip
      cases h
      exact a_r16
    · skip
      obtain ⟨r21, er21, h⟩ := ok_b h
      have a_r21 : Fr wI_X12_readText wL_X12_readText [] u r21 := Fr_tr (Fr_up (Fs_c (List.mem_of_getElem? (i := 1) rfl) Fs_n) Fs_n Fs_n (fr_F_X12_wrong er21)) a_r16
      cases h
      exact a_r21
  · skip
    cases h
    exact a_r16
theorem fr_B_X12_readText_20 {f : Nat} {r : MT} : ∀ (n : Nat) (u : MT), B_X12_readText_20 f n u = some r → Fr wI_X12_readText wL_X12_readText [] u r := by
  intro n
  induction n with
  | zero => intro u h; rw [B_X12_readText_20] at h; cases h
  | succ n ih =>
    intro u h
    rw [B_X12_readText_20] at h
    rcases ok_or h with h | h
    · skip
      obtain ⟨r6, er6, h⟩ := ok_b h
      have a_r6 : Fr wI_X12_readText wL_X12_readText [] u r6.2 := Fr_tr (Fr_up Fs_n Fs_n Fs_n (fr_F_X12_isWord er6)) Fr_rfl
      rcases ok_or h with h | h
      · skip
        obtain ⟨r9, er9, h⟩ := ok_b h
        have a_r9 : Fr wI_X12_readText wL_X12_readText [] u r9 := Fr_tr (Fr_up (Fs_c (List.mem_of_getElem? (i := 1) rfl) (Fs_c (List.mem_of_getElem? (i := 0) rfl) (Fs_c (List.mem_of_getElem? (i := 3) rfl) (Fs_c (List.mem_of_getElem? (i := 4) rfl) (Fs_c (List.mem_of_getElem? (i := 5) rfl) (Fs_c (List.mem_of_getElem? (i := 6) rfl) (Fs_c (List.mem_of_getElem? (i := 7) rfl) (Fs_c (List.mem_of_getElem? (i := 8) rfl) (Fs_c (List.mem_of_getElem? (i := 9) rfl) (Fs_c (List.mem_of_getElem? (i := 10) rfl) (Fs_c (List.mem_of_getElem? (i := 11) rfl) (Fs_c (List.mem_of_getElem? (i := 12) rfl) (Fs_c (List.mem_of_getElem? (i := 13) rfl) (Fs_c (List.mem_of_getElem? (i := 14) rfl) (Fs_c (List.mem_of_getElem? (i := 15) rfl) (Fs_c (List.mem_of_getElem? (i := 16) rfl) Fs_n)))))))))))))))) Fs_n Fs_n (fr_F_X12_readRule er9)) a_r6
        exact Fr_tr (ih _ h) a_r9
      · skip
        exact Fr_tr (fr_B_X12_readText_43 h) a_r6
    · skip
      exact Fr_tr (fr_B_X12_readText_43 h) Fr_rfl
theorem fr_F_X12_readText {f : Nat} {r : MT} {u : MT} (h : F_X12_readText f u = some r) : Fr wI_X12_readText wL_X12_readText [] u r := by
  rw [F_X12_readText] at h
  obtain ⟨r1, er1, h⟩ := ok_b h
  have a_r1 : Fr wI_X12_readText wL_X12_readText [] u r1 := Fr_tr (Fr_up (Fs_c (List.mem_of_getElem? (i := 17) rfl) (Fs_c (List.mem_of_getElem? (i := 18) rfl) (Fs_c (List.mem_of_getElem? (i := 0) rfl) (Fs_c (List.mem_of_getElem? (i := 1) rfl) (Fs_c (List.mem_of_getElem? (i := 19) rfl) (Fs_c (List.mem_of_getElem? (i := 20) rfl) Fs_n)))))) (Fs_c (List.mem_of_getElem? (i := 0) rfl) Fs_n) Fs_n (fr_F_X12_cutAll er1)) Fr_rfl
  exact Fr_tr (fr_B_X12_readText_20 _ _ h) (Fr_sIk (List.mem_of_getElem? (i := 12) rfl) (Fr_sIk (List.mem_of_getElem? (i := 3) rfl) a_r1))
abbrev wI_X12_keep : WL := [(182, 1, 0), (183, 1, 0), (175, 1, 0), (176, 1, 0), (177, 1, 0), (178, 1, 0), (179, 1, 0), (180, 1, 0), (181, 1, 0), (173, 1, 0), (174, 1, 0), (184, 1, 0)]
theorem fr_B_X12_keep_160 {f : Nat} {r : MT} : ∀ (n : Nat) (x1 : Int32) (x2 : Int32) (u : MT), B_X12_keep_160 f n x1 x2 u = some r → Fr wI_X12_keep [] [] u r := by
  intro n
  induction n with
  | zero => intro x1 x2 u h; rw [B_X12_keep_160] at h; cases h
  | succ n ih =>
    intro x1 x2 u h
    rw [B_X12_keep_160] at h
    rcases ok_or h with h | h
    · skip
      cases h
      exact Fr_rfl
    · skip
      have h := (ok_ck h).2
      have h := (ok_ck h).2
      exact Fr_tr (ih _ _ _ h) (Fr_sI0 (List.mem_of_getElem? (i := 1) rfl) (Fr_sI0 (List.mem_of_getElem? (i := 0) rfl) Fr_rfl))
theorem fr_B_X12_keep_41 {f : Nat} {r : MT} : ∀ (n : Nat) (x1 : Int32) (x2 : Int32) (u : MT), B_X12_keep_41 f n x1 x2 u = some r → Fr wI_X12_keep [] [] u r := by
  intro n
  induction n with
  | zero => intro x1 x2 u h; rw [B_X12_keep_41] at h; cases h
  | succ n ih =>
    intro x1 x2 u h
    rw [B_X12_keep_41] at h
    rcases ok_or h with h | h
    · skip
      exact Fr_tr (fr_B_X12_keep_160 _ _ _ _ h) Fr_rfl
    · skip
      have h := (ok_ck h).2
      have h := (ok_ck h).2
      exact Fr_tr (ih _ _ _ h) (Fr_sI0 (List.mem_of_getElem? (i := 8) rfl) (Fr_sI0 (List.mem_of_getElem? (i := 7) rfl) (Fr_sI0 (List.mem_of_getElem? (i := 6) rfl) (Fr_sI0 (List.mem_of_getElem? (i := 5) rfl) (Fr_sI0 (List.mem_of_getElem? (i := 4) rfl) (Fr_sI0 (List.mem_of_getElem? (i := 3) rfl) (Fr_sI0 (List.mem_of_getElem? (i := 2) rfl) Fr_rfl)))))))
theorem fr_F_X12_keep {f : Nat} {x1 : Int32} {r : MT} {u : MT} (h : F_X12_keep f x1 u = some r) : Fr wI_X12_keep [] [] u r := by
  rw [F_X12_keep] at h
  have h := (ok_ck h).2
  exact Fr_tr (fr_B_X12_keep_41 _ _ _ _ h) (Fr_sI0 (List.mem_of_getElem? (i := 11) rfl) (Fr_sI0 (List.mem_of_getElem? (i := 10) rfl) (Fr_sI0 (List.mem_of_getElem? (i := 9) rfl) Fr_rfl)))
abbrev wI_X12_text : WL := [(167, 1, 3), (167, 1, 8), (167, 1, 9), (174, 1, 8), (173, 1, 8), (178, 1, 0), (180, 1, 0), (175, 1, 0), (176, 1, 0), (177, 1, 0), (167, 1, 27), (182, 1, 0), (183, 1, 0), (184, 1, 8), (187, 1, 0), (188, 1, 0), (179, 1, 0), (181, 1, 0), (169, 1, 0), (170, 1, 0), (167, 1, 4), (173, 1, 0), (174, 1, 0), (184, 1, 0), (185, 1, 0), (186, 1, 0), (167, 1, 23), (167, 1, 1)]
abbrev wL_X12_text : WL := [(171, 1, 0)]
theorem fr_B_X12_text_47 {f : Nat} {r : (Int32 × MT)} {u : MT} (h : B_X12_text_47 f u = some r) : Fr wI_X12_text wL_X12_text [] u r.2 := by
  rw [B_X12_text_47] at h
  cases h
  exact (Fr_sIk (List.mem_of_getElem? (i := 0) rfl) Fr_rfl)
theorem fr_B_X12_text_54 {f : Nat} {x1 : Int32} {r : (Int32 × MT)} {u : MT} (h : B_X12_text_54 f x1 u = some r) : Fr wI_X12_text wL_X12_text [] u r.2 := by
  rw [B_X12_text_54] at h
  obtain ⟨r9, er9, h⟩ := ok_b h
  have a_r9 : Fr wI_X12_text wL_X12_text [] u r9 := Fr_tr (Fr_up (Fs_c (List.mem_of_getElem? (i := 1) rfl) (Fs_c (List.mem_of_getElem? (i := 2) rfl) (Fs_c (List.mem_of_getElem? (i := 3) rfl) (Fs_c (List.mem_of_getElem? (i := 4) rfl) (Fs_c (List.mem_of_getElem? (i := 5) rfl) (Fs_c (List.mem_of_getElem? (i := 6) rfl) (Fs_c (List.mem_of_getElem? (i := 7) rfl) (Fs_c (List.mem_of_getElem? (i := 8) rfl) (Fs_c (List.mem_of_getElem? (i := 9) rfl) (Fs_c (List.mem_of_getElem? (i := 10) rfl) (Fs_c (List.mem_of_getElem? (i := 11) rfl) (Fs_c (List.mem_of_getElem? (i := 12) rfl) (Fs_c (List.mem_of_getElem? (i := 13) rfl) (Fs_c (List.mem_of_getElem? (i := 14) rfl) (Fs_c (List.mem_of_getElem? (i := 15) rfl) (Fs_c (List.mem_of_getElem? (i := 16) rfl) (Fs_c (List.mem_of_getElem? (i := 17) rfl) (Fs_c (List.mem_of_getElem? (i := 18) rfl) (Fs_c (List.mem_of_getElem? (i := 19) rfl) (Fs_c (List.mem_of_getElem? (i := 20) rfl) (Fs_c (List.mem_of_getElem? (i := 0) rfl) Fs_n))))))))))))))))))))) (Fs_c (List.mem_of_getElem? (i := 0) rfl) Fs_n) Fs_n (fr_F_X12_readText er9)) Fr_rfl
  rcases ok_or h with h | h
  · skip
    obtain ⟨r12, er12, h⟩ := ok_b h
    have a_r12 : Fr wI_X12_text wL_X12_text [] u r12 := Fr_tr (Fr_up (Fs_c (List.mem_of_getElem? (i := 11) rfl) (Fs_c (List.mem_of_getElem? (i := 12) rfl) (Fs_c (List.mem_of_getElem? (i := 7) rfl) (Fs_c (List.mem_of_getElem? (i := 8) rfl) (Fs_c (List.mem_of_getElem? (i := 9) rfl) (Fs_c (List.mem_of_getElem? (i := 5) rfl) (Fs_c (List.mem_of_getElem? (i := 16) rfl) (Fs_c (List.mem_of_getElem? (i := 6) rfl) (Fs_c (List.mem_of_getElem? (i := 17) rfl) (Fs_c (List.mem_of_getElem? (i := 21) rfl) (Fs_c (List.mem_of_getElem? (i := 22) rfl) (Fs_c (List.mem_of_getElem? (i := 23) rfl) Fs_n)))))))))))) Fs_n Fs_n (fr_F_X12_keep er12)) a_r9
    have h := (ok_ck h).2
    have h := (ok_ck h).2
    cases h
    exact (Fr_sIk (List.mem_of_getElem? (i := 26) rfl) (Fr_sI0 (List.mem_of_getElem? (i := 25) rfl) (Fr_sI0 (List.mem_of_getElem? (i := 24) rfl) a_r12)))
  · skip
    cases h
    exact a_r9
theorem fr_F_X12_text {f : Nat} {x1 : Int32} {r : (Int32 × MT)} {u : MT} (h : F_X12_text f x1 u = some r) : Fr wI_X12_text wL_X12_text [] u r.2 := by
  rw [F_X12_text] at h
  rcases ok_or h with h | h
  · skip
    exact Fr_tr (fr_B_X12_text_47 h) (Fr_sIk (List.mem_of_getElem? (i := 27) rfl) Fr_rfl)
  · skip
    rcases ok_or h with h | h
    · skip
      exact Fr_tr (fr_B_X12_text_47 h) (Fr_sIk (List.mem_of_getElem? (i := 27) rfl) Fr_rfl)
    · skip
      rcases ok_or h with h | h
      · skip
        exact Fr_tr (fr_B_X12_text_47 h) (Fr_sIk (List.mem_of_getElem? (i := 27) rfl) Fr_rfl)
      · skip
        rcases ok_or h with h | h
        · skip
          exact Fr_tr (fr_B_X12_text_54 h) (Fr_sIk (List.mem_of_getElem? (i := 27) rfl) Fr_rfl)
        · skip
          have h := (ok_ck h).2
          rcases ok_or h with h | h
          · skip
            exact Fr_tr (fr_B_X12_text_54 h) (Fr_sIk (List.mem_of_getElem? (i := 27) rfl) Fr_rfl)
          · skip
            exact Fr_tr (fr_B_X12_text_47 h) (Fr_sIk (List.mem_of_getElem? (i := 27) rfl) Fr_rfl)
abbrev wI_X12_other : WL := [(167, 1, 1), (167, 1, 8), (167, 1, 9), (174, 1, 8), (173, 1, 8), (178, 1, 0), (180, 1, 0), (175, 1, 0), (176, 1, 0), (177, 1, 0), (167, 1, 27), (182, 1, 0), (183, 1, 0), (184, 1, 8), (187, 1, 0), (188, 1, 0), (179, 1, 0), (181, 1, 0), (169, 1, 0), (170, 1, 0), (167, 1, 4), (167, 1, 3), (173, 1, 0), (174, 1, 0), (184, 1, 0), (167, 1, 26)]
abbrev wL_X12_other : WL := [(171, 1, 0)]
theorem fr_B_X12_other_27 {f : Nat} {r : (Int32 × MT)} {u : MT} (h : B_X12_other_27 f u = some r) : Fr wI_X12_other wL_X12_other [] u r.2 := by
  rw [B_X12_other_27] at h
  cases h
  exact Fr_rfl
theorem fr_F_X12_other {f : Nat} {r : (Int32 × MT)} {u : MT} (h : F_X12_other f u = some r) : Fr wI_X12_other wL_X12_other [] u r.2 := by
  rw [F_X12_other] at h
  obtain ⟨r2, er2, h⟩ := ok_b h
  have a_r2 : Fr wI_X12_other wL_X12_other [] u r2 := Fr_tr (Fr_up (Fs_c (List.mem_of_getElem? (i := 1) rfl) (Fs_c (List.mem_of_getElem? (i := 2) rfl) (Fs_c (List.mem_of_getElem? (i := 3) rfl) (Fs_c (List.mem_of_getElem? (i := 4) rfl) (Fs_c (List.mem_of_getElem? (i := 5) rfl) (Fs_c (List.mem_of_getElem? (i := 6) rfl) (Fs_c (List.mem_of_getElem? (i := 7) rfl) (Fs_c (List.mem_of_getElem? (i := 8) rfl) (Fs_c (List.mem_of_getElem? (i := 9) rfl) (Fs_c (List.mem_of_getElem? (i := 10) rfl) (Fs_c (List.mem_of_getElem? (i := 11) rfl) (Fs_c (List.mem_of_getElem? (i := 12) rfl) (Fs_c (List.mem_of_getElem? (i := 13) rfl) (Fs_c (List.mem_of_getElem? (i := 14) rfl) (Fs_c (List.mem_of_getElem? (i := 15) rfl) (Fs_c (List.mem_of_getElem? (i := 16) rfl) (Fs_c (List.mem_of_getElem? (i := 17) rfl) (Fs_c (List.mem_of_getElem? (i := 18) rfl) (Fs_c (List.mem_of_getElem? (i := 19) rfl) (Fs_c (List.mem_of_getElem? (i := 20) rfl) (Fs_c (List.mem_of_getElem? (i := 21) rfl) Fs_n))))))))))))))))))))) (Fs_c (List.mem_of_getElem? (i := 0) rfl) Fs_n) Fs_n (fr_F_X12_readText er2)) (Fr_sIk (List.mem_of_getElem? (i := 0) rfl) Fr_rfl)
  rcases ok_or h with h | h
  · skip
    obtain ⟨r5, er5, h⟩ := ok_b h
    have a_r5 : Fr wI_X12_other wL_X12_other [] u r5 := Fr_tr (Fr_up (Fs_c (List.mem_of_getElem? (i := 11) rfl) (Fs_c (List.mem_of_getElem? (i := 12) rfl) (Fs_c (List.mem_of_getElem? (i := 7) rfl) (Fs_c (List.mem_of_getElem? (i := 8) rfl) (Fs_c (List.mem_of_getElem? (i := 9) rfl) (Fs_c (List.mem_of_getElem? (i := 5) rfl) (Fs_c (List.mem_of_getElem? (i := 16) rfl) (Fs_c (List.mem_of_getElem? (i := 6) rfl) (Fs_c (List.mem_of_getElem? (i := 17) rfl) (Fs_c (List.mem_of_getElem? (i := 22) rfl) (Fs_c (List.mem_of_getElem? (i := 23) rfl) (Fs_c (List.mem_of_getElem? (i := 24) rfl) Fs_n)))))))))))) Fs_n Fs_n (fr_F_X12_keep er5)) a_r2
    exact Fr_tr (fr_B_X12_other_27 h) (Fr_sIk (List.mem_of_getElem? (i := 25) rfl) a_r5)
  · skip
    exact Fr_tr (fr_B_X12_other_27 h) a_r2
abbrev wI_X12_house : WL := [(167, 1, 1), (189, 1, 0), (190, 1, 0), (167, 1, 32)]
theorem fr_F_X12_house {f : Nat} {x1 : Int32} {x2 : Int32} {r : (Int32 × MT)} {u : MT} (h : F_X12_house f x1 x2 u = some r) : Fr wI_X12_house [] [] u r.2 := by
  rw [F_X12_house] at h
  rcases ok_or h with h | h
  · skip
    cases h
    exact (Fr_sIk (List.mem_of_getElem? (i := 0) rfl) Fr_rfl)
  · skip
    rcases ok_or h with h | h
    · skip
      cases h
      exact (Fr_sIk (List.mem_of_getElem? (i := 0) rfl) Fr_rfl)
    · skip
      rcases ok_or h with h | h
      · skip
        cases h
        exact (Fr_sIk (List.mem_of_getElem? (i := 0) rfl) Fr_rfl)
      · skip
        rcases ok_or h with h | h
        · skip
          cases h
          exact (Fr_sIk (List.mem_of_getElem? (i := 0) rfl) Fr_rfl)
        · skip
          rcases ok_or h with h | h
          · skip
            cases h
            exact (Fr_sIk (List.mem_of_getElem? (i := 0) rfl) Fr_rfl)
          · skip
            rcases ok_or h with h | h
            · skip
              cases h
              exact (Fr_sIk (List.mem_of_getElem? (i := 0) rfl) Fr_rfl)
            · skip
              rcases ok_or h with h | h
              · skip
                cases h
                exact (Fr_sIk (List.mem_of_getElem? (i := 0) rfl) Fr_rfl)
              · skip
                rcases ok_or h with h | h
                · skip
                  have h := (ok_ck h).2
                  have h := (ok_ck h).2
                  cases h
                  exact (Fr_sIk (List.mem_of_getElem? (i := 3) rfl) (Fr_sI0 (List.mem_of_getElem? (i := 2) rfl) (Fr_sI0 (List.mem_of_getElem? (i := 1) rfl) (Fr_sIk (List.mem_of_getElem? (i := 0) rfl) Fr_rfl))))
                · skip
                  cases h
                  exact (Fr_sIk (List.mem_of_getElem? (i := 0) rfl) Fr_rfl)
abbrev wI_X12_read : WL := [(167, 1, 1), (191, 1, 0), (192, 1, 0), (193, 1, 0), (194, 1, 0), (195, 1, 0), (167, 1, 35)]
theorem fr_F_X12_read {f : Nat} {x1 : Int32} {x2 : Int32} {x3 : Int32} {x4 : Int32} {r : (Int32 × MT)} {u : MT} (h : F_X12_read f x1 x2 x3 x4 u = some r) : Fr wI_X12_read [] [] u r.2 := by
  rw [F_X12_read] at h
  rcases ok_or h with h | h
  · skip
    cases h
    exact (Fr_sIk (List.mem_of_getElem? (i := 0) rfl) Fr_rfl)
  · skip
    rcases ok_or h with h | h
    · skip
      cases h
      exact (Fr_sIk (List.mem_of_getElem? (i := 0) rfl) Fr_rfl)
    · skip
      rcases ok_or h with h | h
      · skip
        cases h
        exact (Fr_sIk (List.mem_of_getElem? (i := 0) rfl) Fr_rfl)
      · skip
        rcases ok_or h with h | h
        · skip
          cases h
          exact (Fr_sIk (List.mem_of_getElem? (i := 0) rfl) Fr_rfl)
        · skip
          rcases ok_or h with h | h
          · skip
            cases h
            exact (Fr_sIk (List.mem_of_getElem? (i := 0) rfl) Fr_rfl)
          · skip
            rcases ok_or h with h | h
            · skip
              cases h
              exact (Fr_sIk (List.mem_of_getElem? (i := 0) rfl) Fr_rfl)
            · skip
              rcases ok_or h with h | h
              · skip
                cases h
                exact (Fr_sIk (List.mem_of_getElem? (i := 0) rfl) Fr_rfl)
              · skip
                rcases ok_or h with h | h
                · skip
                  cases h
                  exact (Fr_sIk (List.mem_of_getElem? (i := 0) rfl) Fr_rfl)
                · skip
                  rcases ok_or h with h | h
                  · skip
                    cases h
                    exact (Fr_sIk (List.mem_of_getElem? (i := 0) rfl) Fr_rfl)
                  · skip
                    have h := (ok_ck h).2
                    have h := (ok_ck h).2
                    have h := (ok_ck h).2
                    have h := (ok_ck h).2
                    have h := (ok_ck h).2
                    cases h
                    exact (Fr_sIk (List.mem_of_getElem? (i := 6) rfl) (Fr_sI0 (List.mem_of_getElem? (i := 5) rfl) (Fr_sI0 (List.mem_of_getElem? (i := 4) rfl) (Fr_sI0 (List.mem_of_getElem? (i := 3) rfl) (Fr_sI0 (List.mem_of_getElem? (i := 2) rfl) (Fr_sI0 (List.mem_of_getElem? (i := 1) rfl) (Fr_sIk (List.mem_of_getElem? (i := 0) rfl) Fr_rfl)))))))
abbrev wI_X12_days : WL := [(167, 1, 1), (167, 1, 41)]
theorem fr_F_X12_days {f : Nat} {x1 : Int32} {r : (Int32 × MT)} {u : MT} (h : F_X12_days f x1 u = some r) : Fr wI_X12_days [] [] u r.2 := by
  rw [F_X12_days] at h
  rcases ok_or h with h | h
  · skip
    cases h
    exact (Fr_sIk (List.mem_of_getElem? (i := 0) rfl) Fr_rfl)
  · skip
    rcases ok_or h with h | h
    · skip
      cases h
      exact (Fr_sIk (List.mem_of_getElem? (i := 1) rfl) (Fr_sIk (List.mem_of_getElem? (i := 0) rfl) Fr_rfl))
    · skip
      cases h
      exact (Fr_sIk (List.mem_of_getElem? (i := 0) rfl) Fr_rfl)
abbrev wI_X12_known : WL := [(167, 1, 1), (167, 1, 42)]
theorem fr_F_X12_known {f : Nat} {x1 : Int32} {r : (Int32 × MT)} {u : MT} (h : F_X12_known f x1 u = some r) : Fr wI_X12_known [] [] u r.2 := by
  rw [F_X12_known] at h
  rcases ok_or h with h | h
  · skip
    cases h
    exact (Fr_sIk (List.mem_of_getElem? (i := 0) rfl) Fr_rfl)
  · skip
    rcases ok_or h with h | h
    · skip
      cases h
      exact (Fr_sIk (List.mem_of_getElem? (i := 1) rfl) (Fr_sIk (List.mem_of_getElem? (i := 0) rfl) Fr_rfl))
    · skip
      cases h
      exact (Fr_sIk (List.mem_of_getElem? (i := 0) rfl) Fr_rfl)
abbrev wI_X12_quarterBegins : WL := [(207, 1, 0), (209, 1, 0), (200, 1, 0), (201, 1, 0), (203, 1, 0), (202, 1, 0), (204, 1, 0), (205, 1, 0), (167, 1, 47), (167, 1, 61), (167, 1, 62), (197, 1, 0), (198, 1, 0), (199, 1, 0), (167, 1, 45)]
theorem fr_B_X12_quarterBegins_114 {f : Nat} {x2 : Int32} {s0 : Int32} {s1 : Int32} {r : MT} {j74 : Int32 → MT → Option MT} (q74 : ∀ (y0 : Int32) (u : MT), j74 y0 u = some r → Fr wI_X12_quarterBegins [] [] u r) {u : MT} (h : B_X12_quarterBegins_114 f j74 x2 s0 s1 u = some r) : Fr wI_X12_quarterBegins [] [] u r := by
  rw [B_X12_quarterBegins_114] at h
  have h := (ok_ck h).2
  exact Fr_tr (q74 _ _ h) (Fr_sI0 (List.mem_of_getElem? (i := 0) rfl) Fr_rfl)
theorem fr_B_X12_quarterBegins_203 {f : Nat} {x2 : Int32} {r : MT} {j123 : Int32 → MT → Option MT} (q123 : ∀ (y0 : Int32) (u : MT), j123 y0 u = some r → Fr wI_X12_quarterBegins [] [] u r) {u : MT} (h : B_X12_quarterBegins_203 f j123 x2 u = some r) : Fr wI_X12_quarterBegins [] [] u r := by
  rw [B_X12_quarterBegins_203] at h
  exact Fr_tr (q123 _ _ h) Fr_rfl
theorem fr_B_X12_quarterBegins_360 {f : Nat} {r : MT} : ∀ (n : Nat) (x2 : Int32) (u : MT), B_X12_quarterBegins_360 f n x2 u = some r → Fr wI_X12_quarterBegins [] [] u r := by
  intro n
  induction n with
  | zero => intro x2 u h; rw [B_X12_quarterBegins_360] at h; cases h
  | succ n ih =>
    intro x2 u h
    rw [B_X12_quarterBegins_360] at h
    rcases ok_or h with h | h
    · skip
      cases h
      exact Fr_rfl
    · skip
      have h := (ok_ck h).2
      exact Fr_tr (ih _ _ h) (Fr_sI0 (List.mem_of_getElem? (i := 1) rfl) Fr_rfl)
theorem fr_B_X12_quarterBegins_264 {f : Nat} {x2 : Int32} {s0 : Int32} {s1 : Int32} {r : MT} {j221 : Int32 → MT → Option MT} (q221 : ∀ (y0 : Int32) (u : MT), j221 y0 u = some r → Fr wI_X12_quarterBegins [] [] u r) {u : MT} (h : B_X12_quarterBegins_264 f j221 x2 s0 s1 u = some r) : Fr wI_X12_quarterBegins [] [] u r := by
  rw [B_X12_quarterBegins_264] at h
  have h := (ok_ck h).2
  have h := (ok_ck h).2
  exact Fr_tr (q221 _ _ h) (Fr_sIk (List.mem_of_getElem? (i := 8) rfl) (Fr_sI0 (List.mem_of_getElem? (i := 7) rfl) (Fr_sI0 (List.mem_of_getElem? (i := 6) rfl) (Fr_sI0 (List.mem_of_getElem? (i := 5) rfl) (Fr_sI0 (List.mem_of_getElem? (i := 4) rfl) (Fr_sI0 (List.mem_of_getElem? (i := 3) rfl) (Fr_sI0 (List.mem_of_getElem? (i := 2) rfl) Fr_rfl)))))))
theorem fr_B_X12_quarterBegins_221 {f : Nat} {r : MT} : ∀ (n : Nat) (x2 : Int32) (u : MT), B_X12_quarterBegins_221 f n x2 u = some r → Fr wI_X12_quarterBegins [] [] u r := by
  intro n
  induction n with
  | zero => intro x2 u h; rw [B_X12_quarterBegins_221] at h; cases h
  | succ n ih =>
    intro x2 u h
    rw [B_X12_quarterBegins_221] at h
    rcases ok_or h with h | h
    · skip
      exact Fr_tr (fr_B_X12_quarterBegins_360 _ _ _ h) (Fr_sIk (List.mem_of_getElem? (i := 9) rfl) Fr_rfl)
    · skip
      have h := (ok_ck h).2
      rcases ok_or h with h | h
      · skip
        exact Fr_tr (fr_B_X12_quarterBegins_264 ih h) Fr_rfl
      · skip
        exact Fr_tr (fr_B_X12_quarterBegins_264 ih h) Fr_rfl
theorem fr_B_X12_quarterBegins_123 {f : Nat} {r : MT} : ∀ (n : Nat) (x2 : Int32) (u : MT), B_X12_quarterBegins_123 f n x2 u = some r → Fr wI_X12_quarterBegins [] [] u r := by
  intro n
  induction n with
  | zero => intro x2 u h; rw [B_X12_quarterBegins_123] at h; cases h
  | succ n ih =>
    intro x2 u h
    rw [B_X12_quarterBegins_123] at h
    rcases ok_or h with h | h
    · skip
      exact Fr_tr (fr_B_X12_quarterBegins_221 _ _ _ h) (Fr_sIk (List.mem_of_getElem? (i := 10) rfl) (Fr_sIk (List.mem_of_getElem? (i := 8) rfl) Fr_rfl))
    · skip
      have h := (ok_ck h).2
      rcases ok_or h with h | h
      · skip
        rcases ok_or h with h | h
        · skip
          exact Fr_tr (fr_B_X12_quarterBegins_203 ih h) Fr_rfl
        · skip
          have h := (ok_ck h).2
          have h := (ok_ck h).2
          have h := (ok_ck h).2
          exact Fr_tr (fr_B_X12_quarterBegins_203 ih h) (Fr_sI0 (List.mem_of_getElem? (i := 13) rfl) (Fr_sI0 (List.mem_of_getElem? (i := 12) rfl) (Fr_sI0 (List.mem_of_getElem? (i := 11) rfl) Fr_rfl)))
      · skip
        exact Fr_tr (fr_B_X12_quarterBegins_203 ih h) Fr_rfl
theorem fr_B_X12_quarterBegins_74 {f : Nat} {r : MT} : ∀ (n : Nat) (x2 : Int32) (u : MT), B_X12_quarterBegins_74 f n x2 u = some r → Fr wI_X12_quarterBegins [] [] u r := by
  intro n
  induction n with
  | zero => intro x2 u h; rw [B_X12_quarterBegins_74] at h; cases h
  | succ n ih =>
    intro x2 u h
    rw [B_X12_quarterBegins_74] at h
    rcases ok_or h with h | h
    · skip
      exact Fr_tr (fr_B_X12_quarterBegins_123 _ _ _ h) Fr_rfl
    · skip
      have h := (ok_ck h).2
      rcases ok_or h with h | h
      · skip
        exact Fr_tr (fr_B_X12_quarterBegins_114 ih h) (Fr_sI0 (List.mem_of_getElem? (i := 13) rfl) Fr_rfl)
      · skip
        exact Fr_tr (fr_B_X12_quarterBegins_114 ih h) (Fr_sI0 (List.mem_of_getElem? (i := 13) rfl) Fr_rfl)
theorem fr_B_X12_quarterBegins_72 {f : Nat} {r : MT} {u : MT} (h : B_X12_quarterBegins_72 f u = some r) : Fr wI_X12_quarterBegins [] [] u r := by
  rw [B_X12_quarterBegins_72] at h
  exact Fr_tr (fr_B_X12_quarterBegins_74 _ _ _ h) Fr_rfl
theorem fr_B_X12_quarterBegins_63 {f : Nat} {x1 : Int32} {x2 : Int32} {s0 : Int32} {r : MT} {j16 : Int32 → Int32 → MT → Option MT} (q16 : ∀ (y0 : Int32) (y1 : Int32) (u : MT), j16 y0 y1 u = some r → Fr wI_X12_quarterBegins [] [] u r) {u : MT} (h : B_X12_quarterBegins_63 f j16 x1 x2 s0 u = some r) : Fr wI_X12_quarterBegins [] [] u r := by
  rw [B_X12_quarterBegins_63] at h
  exact Fr_tr (q16 _ _ _ h) (Fr_sIk (List.mem_of_getElem? (i := 14) rfl) Fr_rfl)
theorem fr_B_X12_quarterBegins_59 {f : Nat} {x1 : Int32} {x2 : Int32} {r : MT} {j16 : Int32 → Int32 → MT → Option MT} (q16 : ∀ (y0 : Int32) (y1 : Int32) (u : MT), j16 y0 y1 u = some r → Fr wI_X12_quarterBegins [] [] u r) {u : MT} (h : B_X12_quarterBegins_59 f j16 x1 x2 u = some r) : Fr wI_X12_quarterBegins [] [] u r := by
  rw [B_X12_quarterBegins_59] at h
  exact Fr_tr (fr_B_X12_quarterBegins_63 q16 h) Fr_rfl
theorem fr_B_X12_quarterBegins_16 {f : Nat} {r : MT} : ∀ (n : Nat) (x1 : Int32) (x2 : Int32) (u : MT), B_X12_quarterBegins_16 f n x1 x2 u = some r → Fr wI_X12_quarterBegins [] [] u r := by
  intro n
  induction n with
  | zero => intro x1 x2 u h; rw [B_X12_quarterBegins_16] at h; cases h
  | succ n ih =>
    intro x1 x2 u h
    rw [B_X12_quarterBegins_16] at h
    rcases ok_or h with h | h
    · skip
      exact Fr_tr (fr_B_X12_quarterBegins_72 h) Fr_rfl
    · skip
      rcases ok_or h with h | h
      · skip
        have h := (ok_ck h).2
        rcases ok_or h with h | h
        · skip
          exact Fr_tr (fr_B_X12_quarterBegins_59 ih h) Fr_rfl
        · skip
          rcases ok_or h with h | h
          · skip
            exact Fr_tr (fr_B_X12_quarterBegins_59 ih h) Fr_rfl
          · skip
            exact Fr_tr (fr_B_X12_quarterBegins_63 ih h) Fr_rfl
      · skip
        exact Fr_tr (fr_B_X12_quarterBegins_72 h) Fr_rfl
theorem fr_B_X12_quarterBegins_11 {f : Nat} {x1 : Int32} {s0 : Int32} {r : MT} {u : MT} (h : B_X12_quarterBegins_11 f x1 s0 u = some r) : Fr wI_X12_quarterBegins [] [] u r := by
  rw [B_X12_quarterBegins_11] at h
  exact Fr_tr (fr_B_X12_quarterBegins_16 _ _ _ _ h) (Fr_sIk (List.mem_of_getElem? (i := 14) rfl) Fr_rfl)
theorem fr_F_X12_quarterBegins {f : Nat} {x1 : Int32} {r : MT} {u : MT} (h : F_X12_quarterBegins f x1 u = some r) : Fr wI_X12_quarterBegins [] [] u r := by
  rw [F_X12_quarterBegins] at h
  rcases ok_or h with h | h
  · skip
    exact Fr_tr (fr_B_X12_quarterBegins_11 h) Fr_rfl
  · skip
    exact Fr_tr (fr_B_X12_quarterBegins_11 h) Fr_rfl
theorem fr_B_X12_partOf_55 {f : Nat} {r : (Int32 × MT)} : ∀ (n : Nat) (x2 : Int32) (x3 : Int32) (u : MT), B_X12_partOf_55 f n x2 x3 u = some r → Fr [] [] [] u r.2 := by
  intro n
  induction n with
  | zero => intro x2 x3 u h; rw [B_X12_partOf_55] at h; cases h
  | succ n ih =>
    intro x2 x3 u h
    rw [B_X12_partOf_55] at h
    rcases ok_or h with h | h
    · skip
      cases h
      exact Fr_rfl
    · skip
      have h := (ok_ck h).2
      exact Fr_tr (ih _ _ _ h) Fr_rfl
theorem fr_F_X12_partOf {f : Nat} {x1 : Int32} {r : (Int32 × MT)} {u : MT} (h : F_X12_partOf f x1 u = some r) : Fr [] [] [] u r.2 := by
  rw [F_X12_partOf] at h
  rcases ok_or h with h | h
  · skip
    exact Fr_tr (fr_B_X12_partOf_55 _ _ _ _ h) Fr_rfl
  · skip
    rcases ok_or h with h | h
    · skip
      cases h
      exact Fr_rfl
    · skip
      rcases ok_or h with h | h
      · skip
        cases h
        exact Fr_rfl
      · skip
        rcases ok_or h with h | h
        · skip
          cases h
          exact Fr_rfl
        · skip
          cases h
          exact Fr_rfl
abbrev wI_X12_worth : WL := [(211, 1, 0)]
theorem fr_B_X12_worth_169 {f : Nat} {x2 : Int32} {x3 : Int32} {r : (Int32 × MT)} {j13 : Int32 → Int32 → MT → Option (Int32 × MT)} (q13 : ∀ (y0 : Int32) (y1 : Int32) (u : MT), j13 y0 y1 u = some r → Fr wI_X12_worth [] [] u r.2) {u : MT} (h : B_X12_worth_169 f j13 x2 x3 u = some r) : Fr wI_X12_worth [] [] u r.2 := by
  rw [B_X12_worth_169] at h
  exact Fr_tr (q13 _ _ _ h) Fr_rfl
theorem fr_B_X12_worth_168 {f : Nat} {x2 : Int32} {x3 : Int32} {s0 : Int32} {s1 : Int32} {r : (Int32 × MT)} {j13 : Int32 → Int32 → MT → Option (Int32 × MT)} (q13 : ∀ (y0 : Int32) (y1 : Int32) (u : MT), j13 y0 y1 u = some r → Fr wI_X12_worth [] [] u r.2) {u : MT} (h : B_X12_worth_168 f j13 x2 x3 s0 s1 u = some r) : Fr wI_X12_worth [] [] u r.2 := by
  rw [B_X12_worth_168] at h
  have h := (ok_ck h).2
  exact Fr_tr (fr_B_X12_worth_169 q13 h) (Fr_sI0 (List.mem_of_getElem? (i := 0) rfl) Fr_rfl)
theorem fr_B_X12_worth_72 {f : Nat} {x2 : Int32} {x3 : Int32} {s0 : Int32} {s1 : Int32} {r : (Int32 × MT)} {j13 : Int32 → Int32 → MT → Option (Int32 × MT)} (q13 : ∀ (y0 : Int32) (y1 : Int32) (u : MT), j13 y0 y1 u = some r → Fr wI_X12_worth [] [] u r.2) {u : MT} (h : B_X12_worth_72 f j13 x2 x3 s0 s1 u = some r) : Fr wI_X12_worth [] [] u r.2 := by
  rw [B_X12_worth_72] at h
  have h := (ok_ck h).2
  exact Fr_tr (fr_B_X12_worth_169 q13 h) (Fr_sI0 (List.mem_of_getElem? (i := 0) rfl) Fr_rfl)
theorem fr_B_X12_worth_42 {f : Nat} {x2 : Int32} {x3 : Int32} {x4 : Int32} {r : (Int32 × MT)} {j13 : Int32 → Int32 → MT → Option (Int32 × MT)} (q13 : ∀ (y0 : Int32) (y1 : Int32) (u : MT), j13 y0 y1 u = some r → Fr wI_X12_worth [] [] u r.2) {u : MT} (h : B_X12_worth_42 f j13 x2 x3 x4 u = some r) : Fr wI_X12_worth [] [] u r.2 := by
  rw [B_X12_worth_42] at h
  rcases ok_or h with h | h
  · skip
    have h := (ok_ck h).2
    exact Fr_tr (fr_B_X12_worth_72 q13 h) Fr_rfl
  · skip
    have h := (ok_ck h).2
    obtain ⟨r20, er20, h⟩ := ok_b h
    have a_r20 : Fr wI_X12_worth [] [] u r20.2 := Fr_tr (Fr_up Fs_n Fs_n Fs_n (fr_F_X12_partOf er20)) Fr_rfl
    exact Fr_tr (fr_B_X12_worth_72 q13 h) a_r20
theorem fr_B_X12_worth_13 {f : Nat} {r : (Int32 × MT)} : ∀ (n : Nat) (x2 : Int32) (x3 : Int32) (u : MT), B_X12_worth_13 f n x2 x3 u = some r → Fr wI_X12_worth [] [] u r.2 := by
  intro n
  induction n with
  | zero => intro x2 x3 u h; rw [B_X12_worth_13] at h; cases h
  | succ n ih =>
    intro x2 x3 u h
    rw [B_X12_worth_13] at h
    have h := (ok_ck h).2
    rcases ok_or h with h | h
    · skip
      cases h
      exact Fr_rfl
    · skip
      rcases ok_or h with h | h
      · skip
        exact Fr_tr (fr_B_X12_worth_42 ih h) Fr_rfl
      · skip
        rcases ok_or h with h | h
        · skip
          exact Fr_tr (fr_B_X12_worth_42 ih h) Fr_rfl
        · skip
          have h := (ok_ck h).2
          have h := (ok_ck h).2
          rcases ok_or h with h | h
          · skip
            exact Fr_tr (fr_B_X12_worth_168 ih h) Fr_rfl
          · skip
            rcases ok_or h with h | h
            · skip
              exact Fr_tr (fr_B_X12_worth_168 ih h) Fr_rfl
            · skip
              rcases ok_or h with h | h
              · skip
                rcases ok_or h with h | h
                · skip
                  exact Fr_tr (fr_B_X12_worth_168 ih h) Fr_rfl
                · skip
                  exact Fr_tr (fr_B_X12_worth_168 ih h) Fr_rfl
              · skip
                rcases ok_or h with h | h
                · skip
                  exact Fr_tr (fr_B_X12_worth_168 ih h) Fr_rfl
                · skip
                  exact Fr_tr (fr_B_X12_worth_168 ih h) Fr_rfl
theorem fr_F_X12_worth {f : Nat} {x1 : Int32} {r : (Int32 × MT)} {u : MT} (h : F_X12_worth f x1 u = some r) : Fr wI_X12_worth [] [] u r.2 := by
  rw [F_X12_worth] at h
  exact Fr_tr (fr_B_X12_worth_13 _ _ _ _ h) Fr_rfl
theorem fr_F_X12_can {f : Nat} {x1 : Int32} {r : (Int32 × MT)} {u : MT} (h : F_X12_can f x1 u = some r) : Fr [] [] [] u r.2 := by
  rw [F_X12_can] at h
  have h := (ok_ck h).2
  rcases ok_or h with h | h
  · skip
    cases h
    exact Fr_rfl
  · skip
    rcases ok_or h with h | h
    · skip
      cases h
      exact Fr_rfl
    · skip
      cases h
      exact Fr_rfl
abbrev wI_X12_chooses : WL := [(212, 1, 0)]
theorem fr_B_X12_chooses_66 {f : Nat} {x1 : Int32} {x3 : Int32} {s0 : Int32} {s1 : Int32} {r : (Int32 × MT)} {j4 : Int32 → Int32 → Int32 → MT → Option (Int32 × MT)} (q4 : ∀ (y0 : Int32) (y1 : Int32) (y2 : Int32) (u : MT), j4 y0 y1 y2 u = some r → Fr wI_X12_chooses [] [] u r.2) {u : MT} (h : B_X12_chooses_66 f j4 x1 x3 s0 s1 u = some r) : Fr wI_X12_chooses [] [] u r.2 := by
  rw [B_X12_chooses_66] at h
  exact Fr_tr (q4 _ _ _ _ h) Fr_rfl
theorem fr_B_X12_chooses_50 {f : Nat} {x1 : Int32} {x2 : Int32} {x3 : Int32} {s0 : Int32} {s1 : Int32} {r : (Int32 × MT)} {j4 : Int32 → Int32 → Int32 → MT → Option (Int32 × MT)} (q4 : ∀ (y0 : Int32) (y1 : Int32) (y2 : Int32) (u : MT), j4 y0 y1 y2 u = some r → Fr wI_X12_chooses [] [] u r.2) {u : MT} (h : B_X12_chooses_50 f j4 x1 x2 x3 s0 s1 u = some r) : Fr wI_X12_chooses [] [] u r.2 := by
  rw [B_X12_chooses_50] at h
  have h := (ok_ck h).2
  have h := (ok_ck h).2
  rcases ok_or h with h | h
  · skip
    exact Fr_tr (fr_B_X12_chooses_66 q4 h) (Fr_sI0 (List.mem_of_getElem? (i := 0) rfl) Fr_rfl)
  · skip
    exact Fr_tr (fr_B_X12_chooses_66 q4 h) (Fr_sI0 (List.mem_of_getElem? (i := 0) rfl) Fr_rfl)
theorem fr_B_X12_chooses_49 {f : Nat} {x1 : Int32} {x2 : Int32} {x3 : Int32} {s0 : Int32} {r : (Int32 × MT)} {j4 : Int32 → Int32 → Int32 → MT → Option (Int32 × MT)} (q4 : ∀ (y0 : Int32) (y1 : Int32) (y2 : Int32) (u : MT), j4 y0 y1 y2 u = some r → Fr wI_X12_chooses [] [] u r.2) {u : MT} (h : B_X12_chooses_49 f j4 x1 x2 x3 s0 u = some r) : Fr wI_X12_chooses [] [] u r.2 := by
  rw [B_X12_chooses_49] at h
  exact Fr_tr (fr_B_X12_chooses_50 q4 h) Fr_rfl
theorem fr_B_X12_chooses_144 {f : Nat} {x1 : Int32} {x2 : Int32} {x4 : Int32} {s0 : Int32} {r : (Int32 × MT)} {j74 : Int32 → Int32 → MT → Option (Int32 × MT)} {j99 : Int32 → Int32 → Int32 → Int32 → MT → Option (Int32 × MT)} (q74 : ∀ (y0 : Int32) (y1 : Int32) (u : MT), j74 y0 y1 u = some r → Fr wI_X12_chooses [] [] u r.2) (q99 : ∀ (y0 : Int32) (y1 : Int32) (y2 : Int32) (y3 : Int32) (u : MT), j99 y0 y1 y2 y3 u = some r → Fr wI_X12_chooses [] [] u r.2) {u : MT} (h : B_X12_chooses_144 f j74 j99 x1 x2 x4 s0 u = some r) : Fr wI_X12_chooses [] [] u r.2 := by
  rw [B_X12_chooses_144] at h
  exact Fr_tr (q99 _ _ _ _ _ h) Fr_rfl
theorem fr_B_X12_chooses_138 {f : Nat} {x1 : Int32} {x2 : Int32} {x4 : Int32} {r : (Int32 × MT)} {j74 : Int32 → Int32 → MT → Option (Int32 × MT)} {j99 : Int32 → Int32 → Int32 → Int32 → MT → Option (Int32 × MT)} (q74 : ∀ (y0 : Int32) (y1 : Int32) (u : MT), j74 y0 y1 u = some r → Fr wI_X12_chooses [] [] u r.2) (q99 : ∀ (y0 : Int32) (y1 : Int32) (y2 : Int32) (y3 : Int32) (u : MT), j99 y0 y1 y2 y3 u = some r → Fr wI_X12_chooses [] [] u r.2) {u : MT} (h : B_X12_chooses_138 f j74 j99 x1 x2 x4 u = some r) : Fr wI_X12_chooses [] [] u r.2 := by
  rw [B_X12_chooses_138] at h
  exact Fr_tr (fr_B_X12_chooses_144 q74 q99 h) Fr_rfl
theorem fr_B_X12_chooses_143 {f : Nat} {x1 : Int32} {x2 : Int32} {x3 : Int32} {x4 : Int32} {r : (Int32 × MT)} {j74 : Int32 → Int32 → MT → Option (Int32 × MT)} {j99 : Int32 → Int32 → Int32 → Int32 → MT → Option (Int32 × MT)} (q74 : ∀ (y0 : Int32) (y1 : Int32) (u : MT), j74 y0 y1 u = some r → Fr wI_X12_chooses [] [] u r.2) (q99 : ∀ (y0 : Int32) (y1 : Int32) (y2 : Int32) (y3 : Int32) (u : MT), j99 y0 y1 y2 y3 u = some r → Fr wI_X12_chooses [] [] u r.2) {u : MT} (h : B_X12_chooses_143 f j74 j99 x1 x2 x3 x4 u = some r) : Fr wI_X12_chooses [] [] u r.2 := by
  rw [B_X12_chooses_143] at h
  exact Fr_tr (fr_B_X12_chooses_144 q74 q99 h) Fr_rfl
theorem fr_B_X12_chooses_99 {f : Nat} {r : (Int32 × MT)} {j74 : Int32 → Int32 → MT → Option (Int32 × MT)} (q74 : ∀ (y0 : Int32) (y1 : Int32) (u : MT), j74 y0 y1 u = some r → Fr wI_X12_chooses [] [] u r.2) : ∀ (n : Nat) (x1 : Int32) (x2 : Int32) (x3 : Int32) (x4 : Int32) (u : MT), B_X12_chooses_99 f j74 n x1 x2 x3 x4 u = some r → Fr wI_X12_chooses [] [] u r.2 := by
  intro n
  induction n with
  | zero => intro x1 x2 x3 x4 u h; rw [B_X12_chooses_99] at h; cases h
  | succ n ih =>
    intro x1 x2 x3 x4 u h
    rw [B_X12_chooses_99] at h
    rcases ok_or h with h | h
    · skip
      have h := (ok_ck h).2
      exact Fr_tr (q74 _ _ _ h) (Fr_sI0 (List.mem_of_getElem? (i := 0) rfl) Fr_rfl)
    · skip
      have h := (ok_ck h).2
      rcases ok_or h with h | h
      · skip
        exact Fr_tr (fr_B_X12_chooses_143 q74 ih h) Fr_rfl
      · skip
        rcases ok_or h with h | h
        · skip
          exact Fr_tr (fr_B_X12_chooses_138 q74 ih h) Fr_rfl
        · skip
          have h := (ok_ck h).2
          rcases ok_or h with h | h
          · skip
            exact Fr_tr (fr_B_X12_chooses_143 q74 ih h) Fr_rfl
          · skip
            exact Fr_tr (fr_B_X12_chooses_138 q74 ih h) Fr_rfl
theorem fr_B_X12_chooses_74 {f : Nat} {r : (Int32 × MT)} : ∀ (n : Nat) (x1 : Int32) (x2 : Int32) (u : MT), B_X12_chooses_74 f n x1 x2 u = some r → Fr wI_X12_chooses [] [] u r.2 := by
  intro n
  induction n with
  | zero => intro x1 x2 u h; rw [B_X12_chooses_74] at h; cases h
  | succ n ih =>
    intro x1 x2 u h
    rw [B_X12_chooses_74] at h
    have h := (ok_ck h).2
    rcases ok_or h with h | h
    · skip
      rcases ok_or h with h | h
      · skip
        cases h
        exact Fr_rfl
      · skip
        exact Fr_tr (fr_B_X12_chooses_99 ih _ _ _ _ _ _ h) Fr_rfl
    · skip
      cases h
      exact Fr_rfl
theorem fr_B_X12_chooses_45 {f : Nat} {x1 : Int32} {x2 : Int32} {x3 : Int32} {s0 : Int32} {r : (Int32 × MT)} {j4 : Int32 → Int32 → Int32 → MT → Option (Int32 × MT)} (q4 : ∀ (y0 : Int32) (y1 : Int32) (y2 : Int32) (u : MT), j4 y0 y1 y2 u = some r → Fr wI_X12_chooses [] [] u r.2) {u : MT} (h : B_X12_chooses_45 f j4 x1 x2 x3 s0 u = some r) : Fr wI_X12_chooses [] [] u r.2 := by
  rw [B_X12_chooses_45] at h
  exact Fr_tr (fr_B_X12_chooses_50 q4 h) Fr_rfl
theorem fr_B_X12_chooses_4 {f : Nat} {r : (Int32 × MT)} : ∀ (n : Nat) (x1 : Int32) (x2 : Int32) (x3 : Int32) (u : MT), B_X12_chooses_4 f n x1 x2 x3 u = some r → Fr wI_X12_chooses [] [] u r.2 := by
  intro n
  induction n with
  | zero => intro x1 x2 x3 u h; rw [B_X12_chooses_4] at h; cases h
  | succ n ih =>
    intro x1 x2 x3 u h
    rw [B_X12_chooses_4] at h
    rcases ok_or h with h | h
    · skip
      exact Fr_tr (fr_B_X12_chooses_74 _ _ _ _ h) Fr_rfl
    · skip
      obtain ⟨r2, er2, h⟩ := ok_b h
      have a_r2 : Fr wI_X12_chooses [] [] u r2.2 := Fr_tr (Fr_up Fs_n Fs_n Fs_n (fr_F_X12_can er2)) Fr_rfl
      rcases ok_or h with h | h
      · skip
        exact Fr_tr (fr_B_X12_chooses_49 ih h) a_r2
      · skip
        have h := (ok_ck h).2
        rcases ok_or h with h | h
        · skip
          rcases ok_or h with h | h
          · skip
            exact Fr_tr (fr_B_X12_chooses_45 ih h) a_r2
          · skip
            exact Fr_tr (fr_B_X12_chooses_49 ih h) a_r2
        · skip
          exact Fr_tr (fr_B_X12_chooses_45 ih h) a_r2
theorem fr_F_X12_chooses {f : Nat} {x1 : Int32} {r : (Int32 × MT)} {u : MT} (h : F_X12_chooses f x1 u = some r) : Fr wI_X12_chooses [] [] u r.2 := by
  rw [F_X12_chooses] at h
  exact Fr_tr (fr_B_X12_chooses_4 _ _ _ _ _ h) Fr_rfl
theorem fr_F_X12_least {f : Nat} {x0 : Int32} {x1 : Int32} {r : (Int32 × MT)} {u : MT} (h : F_X12_least f x0 x1 u = some r) : Fr [] [] [] u r.2 := by
  rw [F_X12_least] at h
  rcases ok_or h with h | h
  · skip
    cases h
    exact Fr_rfl
  · skip
    cases h
    exact Fr_rfl
abbrev wI_X12_hands : WL := [(201, 1, 0), (202, 1, 0), (207, 1, 0), (209, 1, 0), (204, 1, 0), (167, 1, 47), (205, 1, 0), (167, 1, 46)]
theorem fr_F_X12_hands {f : Nat} {x1 : Int32} {x2 : Int32} {x3 : Int32} {x4 : Int32} {r : MT} {u : MT} (h : F_X12_hands f x1 x2 x3 x4 u = some r) : Fr wI_X12_hands [] [] u r := by
  rw [F_X12_hands] at h
  have h := (ok_ck h).2
  have h := (ok_ck h).2
  have h := (ok_ck h).2
  rcases ok_or h with h | h
  · skip
    cases h
    exact (Fr_sIk (List.mem_of_getElem? (i := 5) rfl) (Fr_sI0 (List.mem_of_getElem? (i := 4) rfl) (Fr_sI0 (List.mem_of_getElem? (i := 3) rfl) (Fr_sI0 (List.mem_of_getElem? (i := 2) rfl) (Fr_sI0 (List.mem_of_getElem? (i := 1) rfl) (Fr_sI0 (List.mem_of_getElem? (i := 0) rfl) Fr_rfl))))))
  · skip
    cases h
    exact (Fr_sIk (List.mem_of_getElem? (i := 7) rfl) (Fr_sI0 (List.mem_of_getElem? (i := 6) rfl) (Fr_sI0 (List.mem_of_getElem? (i := 3) rfl) (Fr_sI0 (List.mem_of_getElem? (i := 2) rfl) (Fr_sI0 (List.mem_of_getElem? (i := 1) rfl) (Fr_sI0 (List.mem_of_getElem? (i := 0) rfl) Fr_rfl))))))
theorem fr_B_X12_nextOf_107 {f : Nat} {x1 : Int32} {x2 : Int32} {x3 : Int32} {r : (Int32 × MT)} {j31 : Int32 → Int32 → Int32 → MT → Option (Int32 × MT)} (q31 : ∀ (y0 : Int32) (y1 : Int32) (y2 : Int32) (u : MT), j31 y0 y1 y2 u = some r → Fr [] [] [] u r.2) {u : MT} (h : B_X12_nextOf_107 f j31 x1 x2 x3 u = some r) : Fr [] [] [] u r.2 := by
  rw [B_X12_nextOf_107] at h
  exact Fr_tr (q31 _ _ _ _ h) Fr_rfl
theorem fr_B_X12_nextOf_104 {f : Nat} {x2 : Int32} {x3 : Int32} {x4 : Int32} {r : (Int32 × MT)} {j31 : Int32 → Int32 → Int32 → MT → Option (Int32 × MT)} (q31 : ∀ (y0 : Int32) (y1 : Int32) (y2 : Int32) (u : MT), j31 y0 y1 y2 u = some r → Fr [] [] [] u r.2) {u : MT} (h : B_X12_nextOf_104 f j31 x2 x3 x4 u = some r) : Fr [] [] [] u r.2 := by
  rw [B_X12_nextOf_104] at h
  exact Fr_tr (fr_B_X12_nextOf_107 q31 h) Fr_rfl
theorem fr_B_X12_nextOf_31 {f : Nat} {r : (Int32 × MT)} : ∀ (n : Nat) (x1 : Int32) (x2 : Int32) (x3 : Int32) (u : MT), B_X12_nextOf_31 f n x1 x2 x3 u = some r → Fr [] [] [] u r.2 := by
  intro n
  induction n with
  | zero => intro x1 x2 x3 u h; rw [B_X12_nextOf_31] at h; cases h
  | succ n ih =>
    intro x1 x2 x3 u h
    rw [B_X12_nextOf_31] at h
    rcases ok_or h with h | h
    · skip
      cases h
      exact Fr_rfl
    · skip
      have h := (ok_ck h).2
      have h := (ok_ck h).2
      rcases ok_or h with h | h
      · skip
        exact Fr_tr (fr_B_X12_nextOf_107 ih h) Fr_rfl
      · skip
        obtain ⟨r9, er9, h⟩ := ok_b h
        have a_r9 : Fr [] [] [] u r9.2 := Fr_tr (Fr_up Fs_n Fs_n Fs_n (fr_F_X12_can er9)) Fr_rfl
        rcases ok_or h with h | h
        · skip
          exact Fr_tr (fr_B_X12_nextOf_107 ih h) a_r9
        · skip
          rcases ok_or h with h | h
          · skip
            exact Fr_tr (fr_B_X12_nextOf_104 ih h) a_r9
          · skip
            have h := (ok_ck h).2
            rcases ok_or h with h | h
            · skip
              have h := (ok_ck h).2
              rcases ok_or h with h | h
              · skip
                exact Fr_tr (fr_B_X12_nextOf_107 ih h) a_r9
              · skip
                exact Fr_tr (fr_B_X12_nextOf_104 ih h) a_r9
            · skip
              exact Fr_tr (fr_B_X12_nextOf_107 ih h) a_r9
theorem fr_B_X12_nextOf_28 {f : Nat} {x1 : Int32} {s0 : Int32} {r : (Int32 × MT)} {u : MT} (h : B_X12_nextOf_28 f x1 s0 u = some r) : Fr [] [] [] u r.2 := by
  rw [B_X12_nextOf_28] at h
  exact Fr_tr (fr_B_X12_nextOf_31 _ _ _ _ _ h) Fr_rfl
theorem fr_F_X12_nextOf {f : Nat} {r : (Int32 × MT)} {u : MT} (h : F_X12_nextOf f u = some r) : Fr [] [] [] u r.2 := by
  rw [F_X12_nextOf] at h
  have h := (ok_ck h).2
  rcases ok_or h with h | h
  · skip
    have h := (ok_ck h).2
    exact Fr_tr (fr_B_X12_nextOf_28 h) Fr_rfl
  · skip
    exact Fr_tr (fr_B_X12_nextOf_28 h) Fr_rfl
abbrev wI_X12_oneByOne : WL := [(212, 1, 0), (201, 1, 0), (202, 1, 0), (207, 1, 0), (209, 1, 0), (204, 1, 0), (167, 1, 47), (205, 1, 0), (167, 1, 46)]
theorem fr_B_X12_oneByOne_3 {f : Nat} {r : MT} : ∀ (n : Nat) (x1 : Int32) (x2 : Int32) (x4 : Int32) (u : MT), B_X12_oneByOne_3 f n x1 x2 x4 u = some r → Fr wI_X12_oneByOne [] [] u r := by
  intro n
  induction n with
  | zero => intro x1 x2 x4 u h; rw [B_X12_oneByOne_3] at h; cases h
  | succ n ih =>
    intro x1 x2 x4 u h
    rw [B_X12_oneByOne_3] at h
    rcases ok_or h with h | h
    · skip
      cases h
      exact Fr_rfl
    · skip
      obtain ⟨r2, er2, h⟩ := ok_b h
      have a_r2 : Fr wI_X12_oneByOne [] [] u r2.2 := Fr_tr (Fr_up Fs_n Fs_n Fs_n (fr_F_X12_nextOf er2)) Fr_rfl
      rcases ok_or h with h | h
      · skip
        have h := (ok_ck h).2
        obtain ⟨r7, er7, h⟩ := ok_b h
        have a_r7 : Fr wI_X12_oneByOne [] [] u r7 := Fr_tr (Fr_up (Fs_c (List.mem_of_getElem? (i := 1) rfl) (Fs_c (List.mem_of_getElem? (i := 2) rfl) (Fs_c (List.mem_of_getElem? (i := 3) rfl) (Fs_c (List.mem_of_getElem? (i := 4) rfl) (Fs_c (List.mem_of_getElem? (i := 5) rfl) (Fs_c (List.mem_of_getElem? (i := 6) rfl) (Fs_c (List.mem_of_getElem? (i := 7) rfl) (Fs_c (List.mem_of_getElem? (i := 8) rfl) Fs_n)))))))) Fs_n Fs_n (fr_F_X12_hands er7)) (Fr_sI0 (List.mem_of_getElem? (i := 0) rfl) a_r2)
        exact Fr_tr (ih _ _ _ _ h) a_r7
      · skip
        cases h
        exact a_r2
theorem fr_F_X12_oneByOne {f : Nat} {x1 : Int32} {x2 : Int32} {x3 : Int32} {r : MT} {u : MT} (h : F_X12_oneByOne f x1 x2 x3 u = some r) : Fr wI_X12_oneByOne [] [] u r := by
  rw [F_X12_oneByOne] at h
  exact Fr_tr (fr_B_X12_oneByOne_3 _ _ _ _ _ h) Fr_rfl
abbrev wI_X12_givesBy : WL := [(214, 1, 0), (213, 1, 0), (212, 1, 0), (201, 1, 0), (202, 1, 0), (207, 1, 0), (209, 1, 0), (204, 1, 0), (167, 1, 47), (205, 1, 0), (167, 1, 46), (211, 1, 0)]
theorem fr_B_X12_givesBy_161 {f : Nat} {x1 : Int32} {x2 : Int32} {x4 : Int32} {x5 : Int32} {x6 : Int64} {x8 : Int32} {s0 : Int32} {s1 : Int32} {r : MT} {j82 : Int32 → Int32 → Int32 → Int32 → Int64 → Int32 → MT → Option MT} (q82 : ∀ (y0 : Int32) (y1 : Int32) (y2 : Int32) (y3 : Int32) (y4 : Int64) (y5 : Int32) (u : MT), j82 y0 y1 y2 y3 y4 y5 u = some r → Fr wI_X12_givesBy [] [] u r) {u : MT} (h : B_X12_givesBy_161 f j82 x1 x2 x4 x5 x6 x8 s0 s1 u = some r) : Fr wI_X12_givesBy [] [] u r := by
  rw [B_X12_givesBy_161] at h
  have h := (ok_ck h).2
  have h := (ok_ck h).2
  exact Fr_tr (q82 _ _ _ _ _ _ _ h) (Fr_sI0 (List.mem_of_getElem? (i := 0) rfl) Fr_rfl)
theorem fr_B_X12_givesBy_281 {f : Nat} {x1 : Int32} {x2 : Int32} {x4 : Int32} {x5 : Int32} {x6 : Int64} {x8 : Int32} {x9 : Int32} {s0 : Int32} {s1 : Int32} {r : MT} {j188 : Int32 → Int32 → Int32 → Int32 → Int64 → Int32 → Int32 → MT → Option MT} (q188 : ∀ (y0 : Int32) (y1 : Int32) (y2 : Int32) (y3 : Int32) (y4 : Int64) (y5 : Int32) (y6 : Int32) (u : MT), j188 y0 y1 y2 y3 y4 y5 y6 u = some r → Fr wI_X12_givesBy [] [] u r) {u : MT} (h : B_X12_givesBy_281 f j188 x1 x2 x4 x5 x6 x8 x9 s0 s1 u = some r) : Fr wI_X12_givesBy [] [] u r := by
  rw [B_X12_givesBy_281] at h
  have h := (ok_ck h).2
  have h := (ok_ck h).2
  exact Fr_tr (q188 _ _ _ _ _ _ _ _ h) (Fr_sI0 (List.mem_of_getElem? (i := 1) rfl) Fr_rfl)
theorem fr_B_X12_givesBy_226 {f : Nat} {x1 : Int32} {x2 : Int32} {x4 : Int32} {x5 : Int32} {x6 : Int64} {x8 : Int32} {x9 : Int32} {s0 : Int64} {r : MT} {j188 : Int32 → Int32 → Int32 → Int32 → Int64 → Int32 → Int32 → MT → Option MT} (q188 : ∀ (y0 : Int32) (y1 : Int32) (y2 : Int32) (y3 : Int32) (y4 : Int64) (y5 : Int32) (y6 : Int32) (u : MT), j188 y0 y1 y2 y3 y4 y5 y6 u = some r → Fr wI_X12_givesBy [] [] u r) {u : MT} (h : B_X12_givesBy_226 f j188 x1 x2 x4 x5 x6 x8 x9 s0 u = some r) : Fr wI_X12_givesBy [] [] u r := by
  rw [B_X12_givesBy_226] at h
  have h := (ok_ck h).2
  obtain ⟨r38, er38, h⟩ := ok_b h
  have a_r38 : Fr wI_X12_givesBy [] [] u r38.2 := Fr_tr (Fr_up Fs_n Fs_n Fs_n (fr_F_X12_least er38)) Fr_rfl
  rcases ok_or h with h | h
  · skip
    exact Fr_tr (fr_B_X12_givesBy_281 q188 h) a_r38
  · skip
    obtain ⟨r41, er41, h⟩ := ok_b h
    have a_r41 : Fr wI_X12_givesBy [] [] u r41.2 := Fr_tr (Fr_up Fs_n Fs_n Fs_n (fr_F_X12_least er41)) a_r38
    exact Fr_tr (fr_B_X12_givesBy_281 q188 h) a_r41
theorem fr_B_X12_givesBy_303 {f : Nat} {r : MT} : ∀ (n : Nat) (x1 : Int32) (x2 : Int32) (x5 : Int32) (x8 : Int32) (x9 : Int32) (u : MT), B_X12_givesBy_303 f n x1 x2 x5 x8 x9 u = some r → Fr wI_X12_givesBy [] [] u r := by
  intro n
  induction n with
  | zero => intro x1 x2 x5 x8 x9 u h; rw [B_X12_givesBy_303] at h; cases h
  | succ n ih =>
    intro x1 x2 x5 x8 x9 u h
    rw [B_X12_givesBy_303] at h
    rcases ok_or h with h | h
    · skip
      rcases ok_or h with h | h
      · skip
        cases h
        exact Fr_rfl
      · skip
        rcases ok_or h with h | h
        · skip
          cases h
          exact Fr_rfl
        · skip
          obtain ⟨r31, er31, h⟩ := ok_b h
          have a_r31 : Fr wI_X12_givesBy [] [] u r31 := Fr_tr (Fr_up (Fs_c (List.mem_of_getElem? (i := 2) rfl) (Fs_c (List.mem_of_getElem? (i := 3) rfl) (Fs_c (List.mem_of_getElem? (i := 4) rfl) (Fs_c (List.mem_of_getElem? (i := 5) rfl) (Fs_c (List.mem_of_getElem? (i := 6) rfl) (Fs_c (List.mem_of_getElem? (i := 7) rfl) (Fs_c (List.mem_of_getElem? (i := 8) rfl) (Fs_c (List.mem_of_getElem? (i := 9) rfl) (Fs_c (List.mem_of_getElem? (i := 10) rfl) Fs_n))))))))) Fs_n Fs_n (fr_F_X12_oneByOne er31)) Fr_rfl
          cases h
          exact a_r31
    · skip
      have h := (ok_ck h).2
      obtain ⟨r34, er34, h⟩ := ok_b h
      have a_r34 : Fr wI_X12_givesBy [] [] u r34 := Fr_tr (Fr_up (Fs_c (List.mem_of_getElem? (i := 3) rfl) (Fs_c (List.mem_of_getElem? (i := 4) rfl) (Fs_c (List.mem_of_getElem? (i := 5) rfl) (Fs_c (List.mem_of_getElem? (i := 6) rfl) (Fs_c (List.mem_of_getElem? (i := 7) rfl) (Fs_c (List.mem_of_getElem? (i := 8) rfl) (Fs_c (List.mem_of_getElem? (i := 9) rfl) (Fs_c (List.mem_of_getElem? (i := 10) rfl) Fs_n)))))))) Fs_n Fs_n (fr_F_X12_hands er34)) Fr_rfl
      exact Fr_tr (ih _ _ _ _ _ _ h) a_r34
theorem fr_B_X12_givesBy_188 {f : Nat} {r : MT} : ∀ (n : Nat) (x1 : Int32) (x2 : Int32) (x4 : Int32) (x5 : Int32) (x6 : Int64) (x8 : Int32) (x9 : Int32) (u : MT), B_X12_givesBy_188 f n x1 x2 x4 x5 x6 x8 x9 u = some r → Fr wI_X12_givesBy [] [] u r := by
  intro n
  induction n with
  | zero => intro x1 x2 x4 x5 x6 x8 x9 u h; rw [B_X12_givesBy_188] at h; cases h
  | succ n ih =>
    intro x1 x2 x4 x5 x6 x8 x9 u h
    rw [B_X12_givesBy_188] at h
    rcases ok_or h with h | h
    · skip
      exact Fr_tr (fr_B_X12_givesBy_303 _ _ _ _ _ _ _ h) Fr_rfl
    · skip
      have h := (ok_ck h).2
      rcases ok_or h with h | h
      · skip
        exact Fr_tr (fr_B_X12_givesBy_226 ih h) Fr_rfl
      · skip
        have h := (ok_ck h).2
        exact Fr_tr (fr_B_X12_givesBy_226 ih h) Fr_rfl
theorem fr_B_X12_givesBy_82 {f : Nat} {r : MT} : ∀ (n : Nat) (x1 : Int32) (x2 : Int32) (x4 : Int32) (x5 : Int32) (x6 : Int64) (x8 : Int32) (u : MT), B_X12_givesBy_82 f n x1 x2 x4 x5 x6 x8 u = some r → Fr wI_X12_givesBy [] [] u r := by
  intro n
  induction n with
  | zero => intro x1 x2 x4 x5 x6 x8 u h; rw [B_X12_givesBy_82] at h; cases h
  | succ n ih =>
    intro x1 x2 x4 x5 x6 x8 u h
    rw [B_X12_givesBy_82] at h
    rcases ok_or h with h | h
    · skip
      exact Fr_tr (fr_B_X12_givesBy_188 _ _ _ _ _ _ _ _ _ h) Fr_rfl
    · skip
      have h := (ok_ck h).2
      rcases ok_or h with h | h
      · skip
        exact Fr_tr (fr_B_X12_givesBy_161 ih h) Fr_rfl
      · skip
        have h := (ok_ck h).2
        rcases ok_or h with h | h
        · skip
          exact Fr_tr (fr_B_X12_givesBy_161 ih h) Fr_rfl
        · skip
          rcases ok_or h with h | h
          · skip
            obtain ⟨r17, er17, h⟩ := ok_b h
            have a_r17 : Fr wI_X12_givesBy [] [] u r17.2 := Fr_tr (Fr_up Fs_n Fs_n Fs_n (fr_F_X12_least er17)) Fr_rfl
            exact Fr_tr (fr_B_X12_givesBy_161 ih h) a_r17
          · skip
            exact Fr_tr (fr_B_X12_givesBy_161 ih h) Fr_rfl
theorem fr_B_X12_givesBy_67 {f : Nat} {x1 : Int32} {x2 : Int32} {s0 : Int32} {r : MT} {u : MT} (h : B_X12_givesBy_67 f x1 x2 s0 u = some r) : Fr wI_X12_givesBy [] [] u r := by
  rw [B_X12_givesBy_67] at h
  obtain ⟨r9, er9, h⟩ := ok_b h
  have a_r9 : Fr wI_X12_givesBy [] [] u r9.2 := Fr_tr (Fr_up (Fs_c (List.mem_of_getElem? (i := 2) rfl) Fs_n) Fs_n Fs_n (fr_F_X12_chooses er9)) Fr_rfl
  exact Fr_tr (fr_B_X12_givesBy_82 _ _ _ _ _ _ _ _ h) a_r9
theorem fr_B_X12_givesBy_44 {f : Nat} {x1 : Int32} {x2 : Int32} {x3 : Int32} {s0 : Int32} {r : MT} {u : MT} (h : B_X12_givesBy_44 f x1 x2 x3 s0 u = some r) : Fr wI_X12_givesBy [] [] u r := by
  rw [B_X12_givesBy_44] at h
  rcases ok_or h with h | h
  · skip
    rcases ok_or h with h | h
    · skip
      exact Fr_tr (fr_B_X12_givesBy_67 h) Fr_rfl
    · skip
      exact Fr_tr (fr_B_X12_givesBy_67 h) Fr_rfl
  · skip
    exact Fr_tr (fr_B_X12_givesBy_67 h) Fr_rfl
theorem fr_B_X12_givesBy_20 {f : Nat} {x1 : Int32} {x2 : Int32} {s0 : Int32} {r : MT} {u : MT} (h : B_X12_givesBy_20 f x1 x2 s0 u = some r) : Fr wI_X12_givesBy [] [] u r := by
  rw [B_X12_givesBy_20] at h
  have h := (ok_ck h).2
  rcases ok_or h with h | h
  · skip
    obtain ⟨r5, er5, h⟩ := ok_b h
    have a_r5 : Fr wI_X12_givesBy [] [] u r5.2 := Fr_tr (Fr_up (Fs_c (List.mem_of_getElem? (i := 11) rfl) Fs_n) Fs_n Fs_n (fr_F_X12_worth er5)) Fr_rfl
    exact Fr_tr (fr_B_X12_givesBy_44 h) a_r5
  · skip
    exact Fr_tr (fr_B_X12_givesBy_44 h) Fr_rfl
theorem fr_F_X12_givesBy {f : Nat} {x1 : Int32} {x2 : Int32} {r : MT} {u : MT} (h : F_X12_givesBy f x1 x2 u = some r) : Fr wI_X12_givesBy [] [] u r := by
  rw [F_X12_givesBy] at h
  have h := (ok_ck h).2
  rcases ok_or h with h | h
  · skip
    exact Fr_tr (fr_B_X12_givesBy_20 h) Fr_rfl
  · skip
    exact Fr_tr (fr_B_X12_givesBy_20 h) Fr_rfl
abbrev wI_X12_rule : WL := [(167, 1, 47), (167, 1, 46), (167, 1, 62), (209, 1, 0), (196, 1, 0), (211, 1, 0), (214, 1, 0), (213, 1, 0), (212, 1, 0), (201, 1, 0), (202, 1, 0), (207, 1, 0), (204, 1, 0), (205, 1, 0)]
theorem fr_B_X12_rule_154 {f : Nat} {x1 : Int32} {s0 : Int32} {r : MT} {u : MT} (h : B_X12_rule_154 f x1 s0 u = some r) : Fr wI_X12_rule [] [] u r := by
  rw [B_X12_rule_154] at h
  have h := (ok_ck h).2
  cases h
  exact (Fr_sI0 (List.mem_of_getElem? (i := 3) rfl) (Fr_sIk (List.mem_of_getElem? (i := 2) rfl) (Fr_sIk (List.mem_of_getElem? (i := 1) rfl) (Fr_sIk (List.mem_of_getElem? (i := 0) rfl) Fr_rfl))))
theorem fr_B_X12_rule_144 {f : Nat} {x1 : Int32} {s0 : Int32} {r : MT} {u : MT} (h : B_X12_rule_144 f x1 s0 u = some r) : Fr wI_X12_rule [] [] u r := by
  rw [B_X12_rule_144] at h
  rcases ok_or h with h | h
  · skip
    exact Fr_tr (fr_B_X12_rule_154 h) Fr_rfl
  · skip
    exact Fr_tr (fr_B_X12_rule_154 h) Fr_rfl
theorem fr_B_X12_rule_117 {f : Nat} {x1 : Int32} {s0 : Int32} {r : MT} {u : MT} (h : B_X12_rule_117 f x1 s0 u = some r) : Fr wI_X12_rule [] [] u r := by
  rw [B_X12_rule_117] at h
  rcases ok_or h with h | h
  · skip
    exact Fr_tr (fr_B_X12_rule_144 h) Fr_rfl
  · skip
    exact Fr_tr (fr_B_X12_rule_144 h) Fr_rfl
theorem fr_B_X12_rule_100 {f : Nat} {x1 : Int32} {s0 : Int32} {r : MT} {u : MT} (h : B_X12_rule_100 f x1 s0 u = some r) : Fr wI_X12_rule [] [] u r := by
  rw [B_X12_rule_100] at h
  rcases ok_or h with h | h
  · skip
    exact Fr_tr (fr_B_X12_rule_117 h) Fr_rfl
  · skip
    exact Fr_tr (fr_B_X12_rule_117 h) Fr_rfl
theorem fr_B_X12_rule_33 {f : Nat} {x1 : Int32} {x2 : Int32} {r : MT} {u : MT} (h : B_X12_rule_33 f x1 x2 u = some r) : Fr wI_X12_rule [] [] u r := by
  rw [B_X12_rule_33] at h
  have h := (ok_ck h).2
  rcases ok_or h with h | h
  · skip
    have h := (ok_ck h).2
    cases h
    exact (Fr_sI0 (List.mem_of_getElem? (i := 4) rfl) Fr_rfl)
  · skip
    rcases ok_or h with h | h
    · skip
      rcases ok_or h with h | h
      · skip
        obtain ⟨r13, er13, h⟩ := ok_b h
        have a_r13 : Fr wI_X12_rule [] [] u r13.2 := Fr_tr (Fr_up (Fs_c (List.mem_of_getElem? (i := 5) rfl) Fs_n) Fs_n Fs_n (fr_F_X12_worth er13)) Fr_rfl
        exact Fr_tr (fr_B_X12_rule_100 h) a_r13
      · skip
        exact Fr_tr (fr_B_X12_rule_100 h) Fr_rfl
    · skip
      obtain ⟨r15, er15, h⟩ := ok_b h
      have a_r15 : Fr wI_X12_rule [] [] u r15 := Fr_tr (Fr_up (Fs_c (List.mem_of_getElem? (i := 6) rfl) (Fs_c (List.mem_of_getElem? (i := 7) rfl) (Fs_c (List.mem_of_getElem? (i := 8) rfl) (Fs_c (List.mem_of_getElem? (i := 9) rfl) (Fs_c (List.mem_of_getElem? (i := 10) rfl) (Fs_c (List.mem_of_getElem? (i := 11) rfl) (Fs_c (List.mem_of_getElem? (i := 3) rfl) (Fs_c (List.mem_of_getElem? (i := 12) rfl) (Fs_c (List.mem_of_getElem? (i := 0) rfl) (Fs_c (List.mem_of_getElem? (i := 13) rfl) (Fs_c (List.mem_of_getElem? (i := 1) rfl) (Fs_c (List.mem_of_getElem? (i := 5) rfl) Fs_n)))))))))))) Fs_n Fs_n (fr_F_X12_givesBy er15)) Fr_rfl
      cases h
      exact a_r15
theorem fr_F_X12_rule {f : Nat} {x1 : Int32} {r : MT} {u : MT} (h : F_X12_rule f x1 u = some r) : Fr wI_X12_rule [] [] u r := by
  rw [F_X12_rule] at h
  have h := (ok_ck h).2
  rcases ok_or h with h | h
  · skip
    exact Fr_tr (fr_B_X12_rule_33 h) Fr_rfl
  · skip
    obtain ⟨r4, er4, h⟩ := ok_b h
    have a_r4 : Fr wI_X12_rule [] [] u r4.2 := Fr_tr (Fr_up (Fs_c (List.mem_of_getElem? (i := 5) rfl) Fs_n) Fs_n Fs_n (fr_F_X12_worth er4)) Fr_rfl
    rcases ok_or h with h | h
    · skip
      cases h
      exact a_r4
    · skip
      exact Fr_tr (fr_B_X12_rule_33 h) a_r4
abbrev wI_X12_quarterEnds : WL := [(206, 1, 0), (201, 1, 0), (167, 1, 64), (208, 1, 0), (210, 1, 0), (167, 1, 65), (167, 1, 66), (167, 1, 67), (210, 1, 13), (210, 1, 14), (167, 1, 63), (167, 1, 46)]
theorem fr_B_X12_quarterEnds_52 {f : Nat} {x1 : Int32} {x2 : Int32} {s0 : Int32} {s1 : Int32} {r : MT} {j9 : Int32 → Int32 → MT → Option MT} (q9 : ∀ (y0 : Int32) (y1 : Int32) (u : MT), j9 y0 y1 u = some r → Fr wI_X12_quarterEnds [] [] u r) {u : MT} (h : B_X12_quarterEnds_52 f j9 x1 x2 s0 s1 u = some r) : Fr wI_X12_quarterEnds [] [] u r := by
  rw [B_X12_quarterEnds_52] at h
  have h := (ok_ck h).2
  have h := (ok_ck h).2
  have h := (ok_ck h).2
  exact Fr_tr (q9 _ _ _ h) (Fr_sI0 (List.mem_of_getElem? (i := 4) rfl) (Fr_sI0 (List.mem_of_getElem? (i := 3) rfl) (Fr_sIk (List.mem_of_getElem? (i := 2) rfl) (Fr_sI0 (List.mem_of_getElem? (i := 1) rfl) (Fr_sI0 (List.mem_of_getElem? (i := 0) rfl) Fr_rfl)))))
theorem fr_B_X12_quarterEnds_9 {f : Nat} {r : MT} : ∀ (n : Nat) (x1 : Int32) (x2 : Int32) (u : MT), B_X12_quarterEnds_9 f n x1 x2 u = some r → Fr wI_X12_quarterEnds [] [] u r := by
  intro n
  induction n with
  | zero => intro x1 x2 u h; rw [B_X12_quarterEnds_9] at h; cases h
  | succ n ih =>
    intro x1 x2 u h
    rw [B_X12_quarterEnds_9] at h
    rcases ok_or h with h | h
    · skip
      cases h
      exact (Fr_sIk (List.mem_of_getElem? (i := 11) rfl) (Fr_sIk (List.mem_of_getElem? (i := 10) rfl) (Fr_sIk (List.mem_of_getElem? (i := 9) rfl) (Fr_sIk (List.mem_of_getElem? (i := 8) rfl) (Fr_sIk (List.mem_of_getElem? (i := 7) rfl) (Fr_sIk (List.mem_of_getElem? (i := 6) rfl) (Fr_sIk (List.mem_of_getElem? (i := 5) rfl) Fr_rfl)))))))
    · skip
      have h := (ok_ck h).2
      rcases ok_or h with h | h
      · skip
        exact Fr_tr (fr_B_X12_quarterEnds_52 ih h) Fr_rfl
      · skip
        exact Fr_tr (fr_B_X12_quarterEnds_52 ih h) Fr_rfl
theorem fr_F_X12_quarterEnds {f : Nat} {r : MT} {u : MT} (h : F_X12_quarterEnds f u = some r) : Fr wI_X12_quarterEnds [] [] u r := by
  rw [F_X12_quarterEnds] at h
  exact Fr_tr (fr_B_X12_quarterEnds_9 _ _ _ _ h) (Fr_sIk (List.mem_of_getElem? (i := 2) rfl) Fr_rfl)
abbrev wI_X12_works : WL := [(206, 1, 0), (201, 1, 0), (167, 1, 64), (208, 1, 0), (210, 1, 0), (167, 1, 65), (167, 1, 66), (167, 1, 67), (210, 1, 13), (210, 1, 14), (167, 1, 63), (167, 1, 46), (167, 1, 44), (167, 1, 47), (167, 1, 62), (209, 1, 0), (196, 1, 0), (211, 1, 0), (214, 1, 0), (213, 1, 0), (212, 1, 0), (202, 1, 0), (207, 1, 0), (204, 1, 0), (205, 1, 0), (200, 1, 0), (203, 1, 0), (167, 1, 61), (197, 1, 0), (198, 1, 0), (199, 1, 0), (167, 1, 45), (167, 1, 43)]
theorem fr_B_X12_works_151 {f : Nat} {x1 : Int32} {x3 : Int32} {r : MT} {j102 : Int32 → Int32 → MT → Option MT} (q102 : ∀ (y0 : Int32) (y1 : Int32) (u : MT), j102 y0 y1 u = some r → Fr wI_X12_works [] [] u r) {u : MT} (h : B_X12_works_151 f j102 x1 x3 u = some r) : Fr wI_X12_works [] [] u r := by
  rw [B_X12_works_151] at h
  obtain ⟨r28, er28, h⟩ := ok_b h
  have a_r28 : Fr wI_X12_works [] [] u r28 := Fr_tr (Fr_up (Fs_c (List.mem_of_getElem? (i := 0) rfl) (Fs_c (List.mem_of_getElem? (i := 1) rfl) (Fs_c (List.mem_of_getElem? (i := 2) rfl) (Fs_c (List.mem_of_getElem? (i := 3) rfl) (Fs_c (List.mem_of_getElem? (i := 4) rfl) (Fs_c (List.mem_of_getElem? (i := 5) rfl) (Fs_c (List.mem_of_getElem? (i := 6) rfl) (Fs_c (List.mem_of_getElem? (i := 7) rfl) (Fs_c (List.mem_of_getElem? (i := 8) rfl) (Fs_c (List.mem_of_getElem? (i := 9) rfl) (Fs_c (List.mem_of_getElem? (i := 10) rfl) (Fs_c (List.mem_of_getElem? (i := 11) rfl) Fs_n)))))))))))) Fs_n Fs_n (fr_F_X12_quarterEnds er28)) Fr_rfl
  exact Fr_tr (q102 _ _ _ h) (Fr_sIk (List.mem_of_getElem? (i := 12) rfl) a_r28)
theorem fr_B_X12_works_118 {f : Nat} {r : MT} {j102 : Int32 → Int32 → MT → Option MT} (q102 : ∀ (y0 : Int32) (y1 : Int32) (u : MT), j102 y0 y1 u = some r → Fr wI_X12_works [] [] u r) : ∀ (n : Nat) (x1 : Int32) (x3 : Int32) (x4 : Int32) (u : MT), B_X12_works_118 f j102 n x1 x3 x4 u = some r → Fr wI_X12_works [] [] u r := by
  intro n
  induction n with
  | zero => intro x1 x3 x4 u h; rw [B_X12_works_118] at h; cases h
  | succ n ih =>
    intro x1 x3 x4 u h
    rw [B_X12_works_118] at h
    rcases ok_or h with h | h
    · skip
      exact Fr_tr (fr_B_X12_works_151 q102 h) Fr_rfl
    · skip
      have h := (ok_ck h).2
      rcases ok_or h with h | h
      · skip
        exact Fr_tr (fr_B_X12_works_151 q102 h) Fr_rfl
      · skip
        obtain ⟨r25, er25, h⟩ := ok_b h
        have a_r25 : Fr wI_X12_works [] [] u r25 := Fr_tr (Fr_up (Fs_c (List.mem_of_getElem? (i := 13) rfl) (Fs_c (List.mem_of_getElem? (i := 11) rfl) (Fs_c (List.mem_of_getElem? (i := 14) rfl) (Fs_c (List.mem_of_getElem? (i := 15) rfl) (Fs_c (List.mem_of_getElem? (i := 16) rfl) (Fs_c (List.mem_of_getElem? (i := 17) rfl) (Fs_c (List.mem_of_getElem? (i := 18) rfl) (Fs_c (List.mem_of_getElem? (i := 19) rfl) (Fs_c (List.mem_of_getElem? (i := 20) rfl) (Fs_c (List.mem_of_getElem? (i := 1) rfl) (Fs_c (List.mem_of_getElem? (i := 21) rfl) (Fs_c (List.mem_of_getElem? (i := 22) rfl) (Fs_c (List.mem_of_getElem? (i := 23) rfl) (Fs_c (List.mem_of_getElem? (i := 24) rfl) Fs_n)))))))))))))) Fs_n Fs_n (fr_F_X12_rule er25)) Fr_rfl
        exact Fr_tr (ih _ _ _ _ h) a_r25
theorem fr_B_X12_works_102 {f : Nat} {r : MT} : ∀ (n : Nat) (x1 : Int32) (x3 : Int32) (u : MT), B_X12_works_102 f n x1 x3 u = some r → Fr wI_X12_works [] [] u r := by
  intro n
  induction n with
  | zero => intro x1 x3 u h; rw [B_X12_works_102] at h; cases h
  | succ n ih =>
    intro x1 x3 u h
    rw [B_X12_works_102] at h
    rcases ok_or h with h | h
    · skip
      cases h
      exact (Fr_sIk (List.mem_of_getElem? (i := 12) rfl) Fr_rfl)
    · skip
      obtain ⟨r20, er20, h⟩ := ok_b h
      have a_r20 : Fr wI_X12_works [] [] u r20 := Fr_tr (Fr_up (Fs_c (List.mem_of_getElem? (i := 22) rfl) (Fs_c (List.mem_of_getElem? (i := 15) rfl) (Fs_c (List.mem_of_getElem? (i := 25) rfl) (Fs_c (List.mem_of_getElem? (i := 1) rfl) (Fs_c (List.mem_of_getElem? (i := 26) rfl) (Fs_c (List.mem_of_getElem? (i := 21) rfl) (Fs_c (List.mem_of_getElem? (i := 23) rfl) (Fs_c (List.mem_of_getElem? (i := 24) rfl) (Fs_c (List.mem_of_getElem? (i := 13) rfl) (Fs_c (List.mem_of_getElem? (i := 27) rfl) (Fs_c (List.mem_of_getElem? (i := 14) rfl) (Fs_c (List.mem_of_getElem? (i := 28) rfl) (Fs_c (List.mem_of_getElem? (i := 29) rfl) (Fs_c (List.mem_of_getElem? (i := 30) rfl) (Fs_c (List.mem_of_getElem? (i := 31) rfl) Fs_n))))))))))))))) Fs_n Fs_n (fr_F_X12_quarterBegins er20)) Fr_rfl
      exact Fr_tr (fr_B_X12_works_118 ih _ _ _ _ _ h) a_r20
theorem fr_B_X12_works_76 {f : Nat} {r : MT} : ∀ (n : Nat) (x1 : Int32) (x3 : Int32) (x4 : Int32) (u : MT), B_X12_works_76 f n x1 x3 x4 u = some r → Fr wI_X12_works [] [] u r := by
  intro n
  induction n with
  | zero => intro x1 x3 x4 u h; rw [B_X12_works_76] at h; cases h
  | succ n ih =>
    intro x1 x3 x4 u h
    rw [B_X12_works_76] at h
    rcases ok_or h with h | h
    · skip
      exact Fr_tr (fr_B_X12_works_102 _ _ _ _ h) (Fr_sIk (List.mem_of_getElem? (i := 12) rfl) Fr_rfl)
    · skip
      have h := (ok_ck h).2
      exact Fr_tr (ih _ _ _ _ h) (Fr_sI0 (List.mem_of_getElem? (i := 4) rfl) Fr_rfl)
theorem fr_B_X12_works_36 {f : Nat} {r : MT} : ∀ (n : Nat) (x1 : Int32) (x3 : Int32) (x4 : Int32) (u : MT), B_X12_works_36 f n x1 x3 x4 u = some r → Fr wI_X12_works [] [] u r := by
  intro n
  induction n with
  | zero => intro x1 x3 x4 u h; rw [B_X12_works_36] at h; cases h
  | succ n ih =>
    intro x1 x3 x4 u h
    rw [B_X12_works_36] at h
    rcases ok_or h with h | h
    · skip
      exact Fr_tr (fr_B_X12_works_76 _ _ _ _ _ h) Fr_rfl
    · skip
      have h := (ok_ck h).2
      exact Fr_tr (ih _ _ _ _ h) (Fr_sI0 (List.mem_of_getElem? (i := 22) rfl) (Fr_sI0 (List.mem_of_getElem? (i := 29) rfl) (Fr_sI0 (List.mem_of_getElem? (i := 28) rfl) Fr_rfl)))
theorem fr_B_X12_works_13 {f : Nat} {r : MT} : ∀ (n : Nat) (x1 : Int32) (x3 : Int32) (x4 : Int32) (u : MT), B_X12_works_13 f n x1 x3 x4 u = some r → Fr wI_X12_works [] [] u r := by
  intro n
  induction n with
  | zero => intro x1 x3 x4 u h; rw [B_X12_works_13] at h; cases h
  | succ n ih =>
    intro x1 x3 x4 u h
    rw [B_X12_works_13] at h
    rcases ok_or h with h | h
    · skip
      exact Fr_tr (fr_B_X12_works_36 _ _ _ _ _ h) Fr_rfl
    · skip
      have h := (ok_ck h).2
      exact Fr_tr (ih _ _ _ _ h) (Fr_sI0 (List.mem_of_getElem? (i := 16) rfl) Fr_rfl)
theorem fr_F_X12_works {f : Nat} {x1 : Int32} {x2 : Int32} {x3 : Int32} {r : MT} {u : MT} (h : F_X12_works f x1 x2 x3 u = some r) : Fr wI_X12_works [] [] u r := by
  rw [F_X12_works] at h
  exact Fr_tr (fr_B_X12_works_13 _ _ _ _ _ h) (Fr_sIk (List.mem_of_getElem? (i := 11) rfl) (Fr_sIk (List.mem_of_getElem? (i := 32) rfl) Fr_rfl))
theorem fr_F_X12_lookDay {f : Nat} {r : (Int32 × MT)} {u : MT} (h : F_X12_lookDay f u = some r) : Fr [] [] [] u r.2 := by
  rw [F_X12_lookDay] at h
  rcases ok_or h with h | h
  · skip
    cases h
    exact Fr_rfl
  · skip
    cases h
    exact Fr_rfl
abbrev wI_X12_had : WL := [(167, 1, 1), (206, 1, 0), (201, 1, 0), (167, 1, 64), (208, 1, 0), (210, 1, 0), (167, 1, 65), (167, 1, 66), (167, 1, 67), (210, 1, 13), (210, 1, 14), (167, 1, 63), (167, 1, 46), (167, 1, 44), (167, 1, 47), (167, 1, 62), (209, 1, 0), (196, 1, 0), (211, 1, 0), (214, 1, 0), (213, 1, 0), (212, 1, 0), (202, 1, 0), (207, 1, 0), (204, 1, 0), (205, 1, 0), (200, 1, 0), (203, 1, 0), (167, 1, 61), (197, 1, 0), (198, 1, 0), (199, 1, 0), (167, 1, 45), (167, 1, 43)]
theorem fr_B_X12_had_39 {f : Nat} {x1 : Int32} {x2 : Int32} {x3 : Int32} {s0 : Int32} {r : (Int32 × MT)} {u : MT} (h : B_X12_had_39 f x1 x2 x3 s0 u = some r) : Fr wI_X12_had [] [] u r.2 := by
  rw [B_X12_had_39] at h
  rcases ok_or h with h | h
  · skip
    obtain ⟨r9, er9, h⟩ := ok_b h
    have a_r9 : Fr wI_X12_had [] [] u r9.2 := Fr_tr (Fr_up Fs_n Fs_n Fs_n (fr_F_X12_lookDay er9)) (Fr_sIk (List.mem_of_getElem? (i := 0) rfl) Fr_rfl)
    obtain ⟨r11, er11, h⟩ := ok_b h
    have a_r11 : Fr wI_X12_had [] [] u r11 := Fr_tr (Fr_up (Fs_c (List.mem_of_getElem? (i := 1) rfl) (Fs_c (List.mem_of_getElem? (i := 2) rfl) (Fs_c (List.mem_of_getElem? (i := 3) rfl) (Fs_c (List.mem_of_getElem? (i := 4) rfl) (Fs_c (List.mem_of_getElem? (i := 5) rfl) (Fs_c (List.mem_of_getElem? (i := 6) rfl) (Fs_c (List.mem_of_getElem? (i := 7) rfl) (Fs_c (List.mem_of_getElem? (i := 8) rfl) (Fs_c (List.mem_of_getElem? (i := 9) rfl) (Fs_c (List.mem_of_getElem? (i := 10) rfl) (Fs_c (List.mem_of_getElem? (i := 11) rfl) (Fs_c (List.mem_of_getElem? (i := 12) rfl) (Fs_c (List.mem_of_getElem? (i := 13) rfl) (Fs_c (List.mem_of_getElem? (i := 14) rfl) (Fs_c (List.mem_of_getElem? (i := 15) rfl) (Fs_c (List.mem_of_getElem? (i := 16) rfl) (Fs_c (List.mem_of_getElem? (i := 17) rfl) (Fs_c (List.mem_of_getElem? (i := 18) rfl) (Fs_c (List.mem_of_getElem? (i := 19) rfl) (Fs_c (List.mem_of_getElem? (i := 20) rfl) (Fs_c (List.mem_of_getElem? (i := 21) rfl) (Fs_c (List.mem_of_getElem? (i := 22) rfl) (Fs_c (List.mem_of_getElem? (i := 23) rfl) (Fs_c (List.mem_of_getElem? (i := 24) rfl) (Fs_c (List.mem_of_getElem? (i := 25) rfl) (Fs_c (List.mem_of_getElem? (i := 26) rfl) (Fs_c (List.mem_of_getElem? (i := 27) rfl) (Fs_c (List.mem_of_getElem? (i := 28) rfl) (Fs_c (List.mem_of_getElem? (i := 29) rfl) (Fs_c (List.mem_of_getElem? (i := 30) rfl) (Fs_c (List.mem_of_getElem? (i := 31) rfl) (Fs_c (List.mem_of_getElem? (i := 32) rfl) (Fs_c (List.mem_of_getElem? (i := 33) rfl) Fs_n))))))))))))))))))))))))))))))))) Fs_n Fs_n (fr_F_X12_works er11)) a_r9
    rcases ok_or h with h | h
    · skip
      have h := (ok_ck h).2
      cases h
      exact a_r11
    · skip
      rcases ok_or h with h | h
      · skip
        have h := (ok_ck h).2
        cases h
        exact a_r11
      · skip
        rcases ok_or h with h | h
        · skip
          have h := (ok_ck h).2
          cases h
          exact a_r11
        · skip
          rcases ok_or h with h | h
          · skip
            have h := (ok_ck h).2
            cases h
            exact a_r11
          · skip
            rcases ok_or h with h | h
            · skip
              have h := (ok_ck h).2
              cases h
              exact a_r11
            · skip
              rcases ok_or h with h | h
              · skip
                have h := (ok_ck h).2
                cases h
                exact a_r11
              · skip
                rcases ok_or h with h | h
                · skip
                  have h := (ok_ck h).2
                  cases h
                  exact a_r11
                · skip
                  rcases ok_or h with h | h
                  · skip
                    have h := (ok_ck h).2
                    cases h
                    exact a_r11
                  · skip
                    have h := (ok_ck h).2
                    cases h
                    exact a_r11
  · skip
    cases h
    exact (Fr_sIk (List.mem_of_getElem? (i := 0) rfl) Fr_rfl)
theorem fr_B_X12_had_38 {f : Nat} {x1 : Int32} {x2 : Int32} {x3 : Int32} {r : (Int32 × MT)} {u : MT} (h : B_X12_had_38 f x1 x2 x3 u = some r) : Fr wI_X12_had [] [] u r.2 := by
  rw [B_X12_had_38] at h
  exact Fr_tr (fr_B_X12_had_39 h) Fr_rfl
theorem fr_F_X12_had {f : Nat} {x1 : Int32} {x2 : Int32} {x3 : Int32} {r : (Int32 × MT)} {u : MT} (h : F_X12_had f x1 x2 x3 u = some r) : Fr wI_X12_had [] [] u r.2 := by
  rw [F_X12_had] at h
  rcases ok_or h with h | h
  · skip
    exact Fr_tr (fr_B_X12_had_38 h) Fr_rfl
  · skip
    rcases ok_or h with h | h
    · skip
      exact Fr_tr (fr_B_X12_had_38 h) Fr_rfl
    · skip
      rcases ok_or h with h | h
      · skip
        exact Fr_tr (fr_B_X12_had_38 h) Fr_rfl
      · skip
        rcases ok_or h with h | h
        · skip
          exact Fr_tr (fr_B_X12_had_38 h) Fr_rfl
        · skip
          rcases ok_or h with h | h
          · skip
            exact Fr_tr (fr_B_X12_had_38 h) Fr_rfl
          · skip
            rcases ok_or h with h | h
            · skip
              exact Fr_tr (fr_B_X12_had_38 h) Fr_rfl
            · skip
              exact Fr_tr (fr_B_X12_had_39 h) Fr_rfl
abbrev wI_X12_quarter : WL := [(167, 1, 1), (206, 1, 0), (201, 1, 0), (167, 1, 64), (208, 1, 0), (210, 1, 0), (167, 1, 65), (167, 1, 66), (167, 1, 67), (210, 1, 13), (210, 1, 14), (167, 1, 63), (167, 1, 46), (167, 1, 44), (167, 1, 47), (167, 1, 62), (209, 1, 0), (196, 1, 0), (211, 1, 0), (214, 1, 0), (213, 1, 0), (212, 1, 0), (202, 1, 0), (207, 1, 0), (204, 1, 0), (205, 1, 0), (200, 1, 0), (203, 1, 0), (167, 1, 61), (197, 1, 0), (198, 1, 0), (199, 1, 0), (167, 1, 45), (167, 1, 43)]
theorem fr_B_X12_quarter_57 {f : Nat} {r : (Int32 × MT)} : ∀ (n : Nat) (x2 : Int32) (x3 : Int32) (x4 : Int32) (x5 : Int32) (u : MT), B_X12_quarter_57 f n x2 x3 x4 x5 u = some r → Fr wI_X12_quarter [] [] u r.2 := by
  intro n
  induction n with
  | zero => intro x2 x3 x4 x5 u h; rw [B_X12_quarter_57] at h; cases h
  | succ n ih =>
    intro x2 x3 x4 x5 u h
    rw [B_X12_quarter_57] at h
    rcases ok_or h with h | h
    · skip
      rcases ok_or h with h | h
      · skip
        cases h
        exact Fr_rfl
      · skip
        rcases ok_or h with h | h
        · skip
          cases h
          exact Fr_rfl
        · skip
          rcases ok_or h with h | h
          · skip
            cases h
            exact Fr_rfl
          · skip
            rcases ok_or h with h | h
            · skip
              cases h
              exact Fr_rfl
            · skip
              rcases ok_or h with h | h
              · skip
                cases h
                exact Fr_rfl
              · skip
                rcases ok_or h with h | h
                · skip
                  cases h
                  exact Fr_rfl
                · skip
                  rcases ok_or h with h | h
                  · skip
                    cases h
                    exact Fr_rfl
                  · skip
                    rcases ok_or h with h | h
                    · skip
                      cases h
                      exact Fr_rfl
                    · skip
                      rcases ok_or h with h | h
                      · skip
                        cases h
                        exact Fr_rfl
                      · skip
                        rcases ok_or h with h | h
                        · skip
                          cases h
                          exact Fr_rfl
                        · skip
                          have h := (ok_ck h).2
                          cases h
                          exact Fr_rfl
    · skip
      have h := (ok_ck h).2
      exact Fr_tr (ih _ _ _ _ _ h) Fr_rfl
theorem fr_B_X12_quarter_27 {f : Nat} {x1 : Int32} {x2 : Int32} {s0 : Int32} {r : (Int32 × MT)} {u : MT} (h : B_X12_quarter_27 f x1 x2 s0 u = some r) : Fr wI_X12_quarter [] [] u r.2 := by
  rw [B_X12_quarter_27] at h
  rcases ok_or h with h | h
  · skip
    obtain ⟨r7, er7, h⟩ := ok_b h
    have a_r7 : Fr wI_X12_quarter [] [] u r7.2 := Fr_tr (Fr_up Fs_n Fs_n Fs_n (fr_F_X12_lookDay er7)) (Fr_sIk (List.mem_of_getElem? (i := 0) rfl) Fr_rfl)
    obtain ⟨r9, er9, h⟩ := ok_b h
    have a_r9 : Fr wI_X12_quarter [] [] u r9 := Fr_tr (Fr_up (Fs_c (List.mem_of_getElem? (i := 1) rfl) (Fs_c (List.mem_of_getElem? (i := 2) rfl) (Fs_c (List.mem_of_getElem? (i := 3) rfl) (Fs_c (List.mem_of_getElem? (i := 4) rfl) (Fs_c (List.mem_of_getElem? (i := 5) rfl) (Fs_c (List.mem_of_getElem? (i := 6) rfl) (Fs_c (List.mem_of_getElem? (i := 7) rfl) (Fs_c (List.mem_of_getElem? (i := 8) rfl) (Fs_c (List.mem_of_getElem? (i := 9) rfl) (Fs_c (List.mem_of_getElem? (i := 10) rfl) (Fs_c (List.mem_of_getElem? (i := 11) rfl) (Fs_c (List.mem_of_getElem? (i := 12) rfl) (Fs_c (List.mem_of_getElem? (i := 13) rfl) (Fs_c (List.mem_of_getElem? (i := 14) rfl) (Fs_c (List.mem_of_getElem? (i := 15) rfl) (Fs_c (List.mem_of_getElem? (i := 16) rfl) (Fs_c (List.mem_of_getElem? (i := 17) rfl) (Fs_c (List.mem_of_getElem? (i := 18) rfl) (Fs_c (List.mem_of_getElem? (i := 19) rfl) (Fs_c (List.mem_of_getElem? (i := 20) rfl) (Fs_c (List.mem_of_getElem? (i := 21) rfl) (Fs_c (List.mem_of_getElem? (i := 22) rfl) (Fs_c (List.mem_of_getElem? (i := 23) rfl) (Fs_c (List.mem_of_getElem? (i := 24) rfl) (Fs_c (List.mem_of_getElem? (i := 25) rfl) (Fs_c (List.mem_of_getElem? (i := 26) rfl) (Fs_c (List.mem_of_getElem? (i := 27) rfl) (Fs_c (List.mem_of_getElem? (i := 28) rfl) (Fs_c (List.mem_of_getElem? (i := 29) rfl) (Fs_c (List.mem_of_getElem? (i := 30) rfl) (Fs_c (List.mem_of_getElem? (i := 31) rfl) (Fs_c (List.mem_of_getElem? (i := 32) rfl) (Fs_c (List.mem_of_getElem? (i := 33) rfl) Fs_n))))))))))))))))))))))))))))))))) Fs_n Fs_n (fr_F_X12_works er9)) a_r7
    exact Fr_tr (fr_B_X12_quarter_57 _ _ _ _ _ _ h) a_r9
  · skip
    cases h
    exact (Fr_sIk (List.mem_of_getElem? (i := 0) rfl) Fr_rfl)
theorem fr_B_X12_quarter_26 {f : Nat} {x1 : Int32} {x2 : Int32} {r : (Int32 × MT)} {u : MT} (h : B_X12_quarter_26 f x1 x2 u = some r) : Fr wI_X12_quarter [] [] u r.2 := by
  rw [B_X12_quarter_26] at h
  exact Fr_tr (fr_B_X12_quarter_27 h) Fr_rfl
theorem fr_F_X12_quarter {f : Nat} {x1 : Int32} {x2 : Int32} {r : (Int32 × MT)} {u : MT} (h : F_X12_quarter f x1 x2 u = some r) : Fr wI_X12_quarter [] [] u r.2 := by
  rw [F_X12_quarter] at h
  rcases ok_or h with h | h
  · skip
    exact Fr_tr (fr_B_X12_quarter_26 h) Fr_rfl
  · skip
    rcases ok_or h with h | h
    · skip
      exact Fr_tr (fr_B_X12_quarter_26 h) Fr_rfl
    · skip
      rcases ok_or h with h | h
      · skip
        exact Fr_tr (fr_B_X12_quarter_26 h) Fr_rfl
      · skip
        rcases ok_or h with h | h
        · skip
          exact Fr_tr (fr_B_X12_quarter_26 h) Fr_rfl
        · skip
          exact Fr_tr (fr_B_X12_quarter_27 h) Fr_rfl
abbrev wI_X12_by : WL := [(167, 1, 1), (206, 1, 0), (201, 1, 0), (167, 1, 64), (208, 1, 0), (210, 1, 0), (167, 1, 65), (167, 1, 66), (167, 1, 67), (210, 1, 13), (210, 1, 14), (167, 1, 63), (167, 1, 46), (167, 1, 44), (167, 1, 47), (167, 1, 62), (209, 1, 0), (196, 1, 0), (211, 1, 0), (214, 1, 0), (213, 1, 0), (212, 1, 0), (202, 1, 0), (207, 1, 0), (204, 1, 0), (205, 1, 0), (200, 1, 0), (203, 1, 0), (167, 1, 61), (197, 1, 0), (198, 1, 0), (199, 1, 0), (167, 1, 45), (167, 1, 43)]
theorem fr_F_X12_by {f : Nat} {x1 : Int32} {x2 : Int32} {x3 : Int32} {r : (Int32 × MT)} {u : MT} (h : F_X12_by f x1 x2 x3 u = some r) : Fr wI_X12_by [] [] u r.2 := by
  rw [F_X12_by] at h
  rcases ok_or h with h | h
  · skip
    cases h
    exact (Fr_sIk (List.mem_of_getElem? (i := 0) rfl) Fr_rfl)
  · skip
    rcases ok_or h with h | h
    · skip
      cases h
      exact (Fr_sIk (List.mem_of_getElem? (i := 0) rfl) Fr_rfl)
    · skip
      rcases ok_or h with h | h
      · skip
        cases h
        exact (Fr_sIk (List.mem_of_getElem? (i := 0) rfl) Fr_rfl)
      · skip
        rcases ok_or h with h | h
        · skip
          cases h
          exact (Fr_sIk (List.mem_of_getElem? (i := 0) rfl) Fr_rfl)
        · skip
          rcases ok_or h with h | h
          · skip
            obtain ⟨r7, er7, h⟩ := ok_b h
            have a_r7 : Fr wI_X12_by [] [] u r7.2 := Fr_tr (Fr_up Fs_n Fs_n Fs_n (fr_F_X12_lookDay er7)) (Fr_sIk (List.mem_of_getElem? (i := 0) rfl) Fr_rfl)
            obtain ⟨r9, er9, h⟩ := ok_b h
            have a_r9 : Fr wI_X12_by [] [] u r9 := Fr_tr (Fr_up (Fs_c (List.mem_of_getElem? (i := 1) rfl) (Fs_c (List.mem_of_getElem? (i := 2) rfl) (Fs_c (List.mem_of_getElem? (i := 3) rfl) (Fs_c (List.mem_of_getElem? (i := 4) rfl) (Fs_c (List.mem_of_getElem? (i := 5) rfl) (Fs_c (List.mem_of_getElem? (i := 6) rfl) (Fs_c (List.mem_of_getElem? (i := 7) rfl) (Fs_c (List.mem_of_getElem? (i := 8) rfl) (Fs_c (List.mem_of_getElem? (i := 9) rfl) (Fs_c (List.mem_of_getElem? (i := 10) rfl) (Fs_c (List.mem_of_getElem? (i := 11) rfl) (Fs_c (List.mem_of_getElem? (i := 12) rfl) (Fs_c (List.mem_of_getElem? (i := 13) rfl) (Fs_c (List.mem_of_getElem? (i := 14) rfl) (Fs_c (List.mem_of_getElem? (i := 15) rfl) (Fs_c (List.mem_of_getElem? (i := 16) rfl) (Fs_c (List.mem_of_getElem? (i := 17) rfl) (Fs_c (List.mem_of_getElem? (i := 18) rfl) (Fs_c (List.mem_of_getElem? (i := 19) rfl) (Fs_c (List.mem_of_getElem? (i := 20) rfl) (Fs_c (List.mem_of_getElem? (i := 21) rfl) (Fs_c (List.mem_of_getElem? (i := 22) rfl) (Fs_c (List.mem_of_getElem? (i := 23) rfl) (Fs_c (List.mem_of_getElem? (i := 24) rfl) (Fs_c (List.mem_of_getElem? (i := 25) rfl) (Fs_c (List.mem_of_getElem? (i := 26) rfl) (Fs_c (List.mem_of_getElem? (i := 27) rfl) (Fs_c (List.mem_of_getElem? (i := 28) rfl) (Fs_c (List.mem_of_getElem? (i := 29) rfl) (Fs_c (List.mem_of_getElem? (i := 30) rfl) (Fs_c (List.mem_of_getElem? (i := 31) rfl) (Fs_c (List.mem_of_getElem? (i := 32) rfl) (Fs_c (List.mem_of_getElem? (i := 33) rfl) Fs_n))))))))))))))))))))))))))))))))) Fs_n Fs_n (fr_F_X12_works er9)) a_r7
            rcases ok_or h with h | h
            · skip
              cases h
              exact a_r9
            · skip
              have h := (ok_ck h).2
              rcases ok_or h with h | h
              · skip
                rcases ok_or h with h | h
                · skip
                  have h := (ok_ck h).2
                  cases h
                  exact a_r9
                · skip
                  have h := (ok_ck h).2
                  rcases ok_or h with h | h
                  · skip
                    have h := (ok_ck h).2
                    cases h
                    exact a_r9
                  · skip
                    cases h
                    exact a_r9
              · skip
                cases h
                exact a_r9
          · skip
            cases h
            exact (Fr_sIk (List.mem_of_getElem? (i := 0) rfl) Fr_rfl)
abbrev wI_X12_would : WL := [(167, 1, 1), (206, 1, 0), (201, 1, 0), (167, 1, 64), (208, 1, 0), (210, 1, 0), (167, 1, 65), (167, 1, 66), (167, 1, 67), (210, 1, 13), (210, 1, 14), (167, 1, 63), (167, 1, 46), (167, 1, 44), (167, 1, 47), (167, 1, 62), (209, 1, 0), (196, 1, 0), (211, 1, 0), (214, 1, 0), (213, 1, 0), (212, 1, 0), (202, 1, 0), (207, 1, 0), (204, 1, 0), (205, 1, 0), (200, 1, 0), (203, 1, 0), (167, 1, 61), (197, 1, 0), (198, 1, 0), (199, 1, 0), (167, 1, 45), (167, 1, 43)]
theorem fr_F_X12_would {f : Nat} {x1 : Int32} {x2 : Int32} {r : (Int32 × MT)} {u : MT} (h : F_X12_would f x1 x2 u = some r) : Fr wI_X12_would [] [] u r.2 := by
  rw [F_X12_would] at h
  rcases ok_or h with h | h
  · skip
    cases h
    exact (Fr_sIk (List.mem_of_getElem? (i := 0) rfl) Fr_rfl)
  · skip
    rcases ok_or h with h | h
    · skip
      cases h
      exact (Fr_sIk (List.mem_of_getElem? (i := 0) rfl) Fr_rfl)
    · skip
      rcases ok_or h with h | h
      · skip
        cases h
        exact (Fr_sIk (List.mem_of_getElem? (i := 0) rfl) Fr_rfl)
      · skip
        rcases ok_or h with h | h
        · skip
          cases h
          exact (Fr_sIk (List.mem_of_getElem? (i := 0) rfl) Fr_rfl)
        · skip
          rcases ok_or h with h | h
          · skip
            cases h
            exact (Fr_sIk (List.mem_of_getElem? (i := 0) rfl) Fr_rfl)
          · skip
            obtain ⟨r7, er7, h⟩ := ok_b h
            have a_r7 : Fr wI_X12_would [] [] u r7.2 := Fr_tr (Fr_up Fs_n Fs_n Fs_n (fr_F_X12_lookDay er7)) (Fr_sIk (List.mem_of_getElem? (i := 0) rfl) Fr_rfl)
            obtain ⟨r9, er9, h⟩ := ok_b h
            have a_r9 : Fr wI_X12_would [] [] u r9 := Fr_tr (Fr_up (Fs_c (List.mem_of_getElem? (i := 1) rfl) (Fs_c (List.mem_of_getElem? (i := 2) rfl) (Fs_c (List.mem_of_getElem? (i := 3) rfl) (Fs_c (List.mem_of_getElem? (i := 4) rfl) (Fs_c (List.mem_of_getElem? (i := 5) rfl) (Fs_c (List.mem_of_getElem? (i := 6) rfl) (Fs_c (List.mem_of_getElem? (i := 7) rfl) (Fs_c (List.mem_of_getElem? (i := 8) rfl) (Fs_c (List.mem_of_getElem? (i := 9) rfl) (Fs_c (List.mem_of_getElem? (i := 10) rfl) (Fs_c (List.mem_of_getElem? (i := 11) rfl) (Fs_c (List.mem_of_getElem? (i := 12) rfl) (Fs_c (List.mem_of_getElem? (i := 13) rfl) (Fs_c (List.mem_of_getElem? (i := 14) rfl) (Fs_c (List.mem_of_getElem? (i := 15) rfl) (Fs_c (List.mem_of_getElem? (i := 16) rfl) (Fs_c (List.mem_of_getElem? (i := 17) rfl) (Fs_c (List.mem_of_getElem? (i := 18) rfl) (Fs_c (List.mem_of_getElem? (i := 19) rfl) (Fs_c (List.mem_of_getElem? (i := 20) rfl) (Fs_c (List.mem_of_getElem? (i := 21) rfl) (Fs_c (List.mem_of_getElem? (i := 22) rfl) (Fs_c (List.mem_of_getElem? (i := 23) rfl) (Fs_c (List.mem_of_getElem? (i := 24) rfl) (Fs_c (List.mem_of_getElem? (i := 25) rfl) (Fs_c (List.mem_of_getElem? (i := 26) rfl) (Fs_c (List.mem_of_getElem? (i := 27) rfl) (Fs_c (List.mem_of_getElem? (i := 28) rfl) (Fs_c (List.mem_of_getElem? (i := 29) rfl) (Fs_c (List.mem_of_getElem? (i := 30) rfl) (Fs_c (List.mem_of_getElem? (i := 31) rfl) (Fs_c (List.mem_of_getElem? (i := 32) rfl) (Fs_c (List.mem_of_getElem? (i := 33) rfl) Fs_n))))))))))))))))))))))))))))))))) Fs_n Fs_n (fr_F_X12_works er9)) a_r7
            have h := (ok_ck h).2
            cases h
            exact a_r9
abbrev wI_X12_bills : WL := [(215, 1, 0), (167, 1, 74), (167, 1, 1), (206, 1, 0), (201, 1, 0), (167, 1, 64), (208, 1, 0), (210, 1, 0), (167, 1, 65), (167, 1, 66), (167, 1, 67), (210, 1, 13), (210, 1, 14), (167, 1, 63), (167, 1, 46), (167, 1, 44), (167, 1, 47), (167, 1, 62), (209, 1, 0), (196, 1, 0), (211, 1, 0), (214, 1, 0), (213, 1, 0), (212, 1, 0), (202, 1, 0), (207, 1, 0), (204, 1, 0), (205, 1, 0), (200, 1, 0), (203, 1, 0), (167, 1, 61), (197, 1, 0), (198, 1, 0), (199, 1, 0), (167, 1, 45), (167, 1, 43)]
theorem fr_B_X12_bills_47 {f : Nat} {r : (Int32 × MT)} {j37 : Int32 → MT → Option (Int32 × MT)} (q37 : ∀ (y0 : Int32) (u : MT), j37 y0 u = some r → Fr wI_X12_bills [] [] u r.2) : ∀ (n : Nat) (x1 : Int32) (x2 : Int32) (x3 : Int32) (u : MT), B_X12_bills_47 f j37 n x1 x2 x3 u = some r → Fr wI_X12_bills [] [] u r.2 := by
  intro n
  induction n with
  | zero => intro x1 x2 x3 u h; rw [B_X12_bills_47] at h; cases h
  | succ n ih =>
    intro x1 x2 x3 u h
    rw [B_X12_bills_47] at h
    rcases ok_or h with h | h
    · skip
      have h := (ok_ck h).2
      have h := (ok_ck h).2
      exact Fr_tr (q37 _ _ h) (Fr_sI0 (List.mem_of_getElem? (i := 0) rfl) Fr_rfl)
    · skip
      have h := (ok_ck h).2
      exact Fr_tr (ih _ _ _ _ h) Fr_rfl
theorem fr_B_X12_bills_37 {f : Nat} {r : (Int32 × MT)} : ∀ (n : Nat) (x1 : Int32) (u : MT), B_X12_bills_37 f n x1 u = some r → Fr wI_X12_bills [] [] u r.2 := by
  intro n
  induction n with
  | zero => intro x1 u h; rw [B_X12_bills_37] at h; cases h
  | succ n ih =>
    intro x1 u h
    rw [B_X12_bills_37] at h
    rcases ok_or h with h | h
    · skip
      cases h
      exact (Fr_sIk (List.mem_of_getElem? (i := 1) rfl) Fr_rfl)
    · skip
      exact Fr_tr (fr_B_X12_bills_47 ih _ _ _ _ _ h) Fr_rfl
theorem fr_F_X12_bills {f : Nat} {r : (Int32 × MT)} {u : MT} (h : F_X12_bills f u = some r) : Fr wI_X12_bills [] [] u r.2 := by
  rw [F_X12_bills] at h
  rcases ok_or h with h | h
  · skip
    cases h
    exact (Fr_sIk (List.mem_of_getElem? (i := 2) rfl) Fr_rfl)
  · skip
    obtain ⟨r3, er3, h⟩ := ok_b h
    have a_r3 : Fr wI_X12_bills [] [] u r3 := Fr_tr (Fr_up (Fs_c (List.mem_of_getElem? (i := 3) rfl) (Fs_c (List.mem_of_getElem? (i := 4) rfl) (Fs_c (List.mem_of_getElem? (i := 5) rfl) (Fs_c (List.mem_of_getElem? (i := 6) rfl) (Fs_c (List.mem_of_getElem? (i := 7) rfl) (Fs_c (List.mem_of_getElem? (i := 8) rfl) (Fs_c (List.mem_of_getElem? (i := 9) rfl) (Fs_c (List.mem_of_getElem? (i := 10) rfl) (Fs_c (List.mem_of_getElem? (i := 11) rfl) (Fs_c (List.mem_of_getElem? (i := 12) rfl) (Fs_c (List.mem_of_getElem? (i := 13) rfl) (Fs_c (List.mem_of_getElem? (i := 14) rfl) (Fs_c (List.mem_of_getElem? (i := 15) rfl) (Fs_c (List.mem_of_getElem? (i := 16) rfl) (Fs_c (List.mem_of_getElem? (i := 17) rfl) (Fs_c (List.mem_of_getElem? (i := 18) rfl) (Fs_c (List.mem_of_getElem? (i := 19) rfl) (Fs_c (List.mem_of_getElem? (i := 20) rfl) (Fs_c (List.mem_of_getElem? (i := 21) rfl) (Fs_c (List.mem_of_getElem? (i := 22) rfl) (Fs_c (List.mem_of_getElem? (i := 23) rfl) (Fs_c (List.mem_of_getElem? (i := 24) rfl) (Fs_c (List.mem_of_getElem? (i := 25) rfl) (Fs_c (List.mem_of_getElem? (i := 26) rfl) (Fs_c (List.mem_of_getElem? (i := 27) rfl) (Fs_c (List.mem_of_getElem? (i := 28) rfl) (Fs_c (List.mem_of_getElem? (i := 29) rfl) (Fs_c (List.mem_of_getElem? (i := 30) rfl) (Fs_c (List.mem_of_getElem? (i := 31) rfl) (Fs_c (List.mem_of_getElem? (i := 32) rfl) (Fs_c (List.mem_of_getElem? (i := 33) rfl) (Fs_c (List.mem_of_getElem? (i := 34) rfl) (Fs_c (List.mem_of_getElem? (i := 35) rfl) Fs_n))))))))))))))))))))))))))))))))) Fs_n Fs_n (fr_F_X12_works er3)) (Fr_sIk (List.mem_of_getElem? (i := 2) rfl) Fr_rfl)
    exact Fr_tr (fr_B_X12_bills_37 _ _ _ h) a_r3
abbrev wI_X12_bill : WL := [(167, 1, 1)]
theorem fr_B_X12_bill_76 {f : Nat} {s0 : Int32} {s1 : Int32} {r : (Int32 × MT)} {u : MT} (h : B_X12_bill_76 f s0 s1 u = some r) : Fr wI_X12_bill [] [] u r.2 := by
  rw [B_X12_bill_76] at h
  have h := (ok_ck h).2
  cases h
  exact Fr_rfl
theorem fr_B_X12_bill_32 {f : Nat} {x1 : Int32} {x2 : Int32} {s0 : Int32} {r : (Int32 × MT)} {u : MT} (h : B_X12_bill_32 f x1 x2 s0 u = some r) : Fr wI_X12_bill [] [] u r.2 := by
  rw [B_X12_bill_32] at h
  rcases ok_or h with h | h
  · skip
    rcases ok_or h with h | h
    · skip
      exact Fr_tr (fr_B_X12_bill_76 h) (Fr_sIk (List.mem_of_getElem? (i := 0) rfl) Fr_rfl)
    · skip
      rcases ok_or h with h | h
      · skip
        exact Fr_tr (fr_B_X12_bill_76 h) (Fr_sIk (List.mem_of_getElem? (i := 0) rfl) Fr_rfl)
      · skip
        exact Fr_tr (fr_B_X12_bill_76 h) (Fr_sIk (List.mem_of_getElem? (i := 0) rfl) Fr_rfl)
  · skip
    cases h
    exact (Fr_sIk (List.mem_of_getElem? (i := 0) rfl) Fr_rfl)
theorem fr_B_X12_bill_31 {f : Nat} {x1 : Int32} {x2 : Int32} {r : (Int32 × MT)} {u : MT} (h : B_X12_bill_31 f x1 x2 u = some r) : Fr wI_X12_bill [] [] u r.2 := by
  rw [B_X12_bill_31] at h
  exact Fr_tr (fr_B_X12_bill_32 h) Fr_rfl
theorem fr_F_X12_bill {f : Nat} {x1 : Int32} {x2 : Int32} {r : (Int32 × MT)} {u : MT} (h : F_X12_bill f x1 x2 u = some r) : Fr wI_X12_bill [] [] u r.2 := by
  rw [F_X12_bill] at h
  rcases ok_or h with h | h
  · skip
    exact Fr_tr (fr_B_X12_bill_31 h) Fr_rfl
  · skip
    rcases ok_or h with h | h
    · skip
      exact Fr_tr (fr_B_X12_bill_31 h) Fr_rfl
    · skip
      rcases ok_or h with h | h
      · skip
        exact Fr_tr (fr_B_X12_bill_31 h) Fr_rfl
      · skip
        rcases ok_or h with h | h
        · skip
          exact Fr_tr (fr_B_X12_bill_31 h) Fr_rfl
        · skip
          exact Fr_tr (fr_B_X12_bill_32 h) Fr_rfl
abbrev wI_X12_count : WL := [(167, 1, 1)]
theorem fr_F_X12_count {f : Nat} {x1 : Int32} {r : (Int32 × MT)} {u : MT} (h : F_X12_count f x1 u = some r) : Fr wI_X12_count [] [] u r.2 := by
  rw [F_X12_count] at h
  rcases ok_or h with h | h
  · skip
    cases h
    exact (Fr_sIk (List.mem_of_getElem? (i := 0) rfl) Fr_rfl)
  · skip
    rcases ok_or h with h | h
    · skip
      cases h
      exact (Fr_sIk (List.mem_of_getElem? (i := 0) rfl) Fr_rfl)
    · skip
      rcases ok_or h with h | h
      · skip
        cases h
        exact (Fr_sIk (List.mem_of_getElem? (i := 0) rfl) Fr_rfl)
      · skip
        rcases ok_or h with h | h
        · skip
          cases h
          exact (Fr_sIk (List.mem_of_getElem? (i := 0) rfl) Fr_rfl)
        · skip
          rcases ok_or h with h | h
          · skip
            cases h
            exact (Fr_sIk (List.mem_of_getElem? (i := 0) rfl) Fr_rfl)
          · skip
            rcases ok_or h with h | h
            · skip
              cases h
              exact (Fr_sIk (List.mem_of_getElem? (i := 0) rfl) Fr_rfl)
            · skip
              rcases ok_or h with h | h
              · skip
                rcases ok_or h with h | h
                · skip
                  cases h
                  exact (Fr_sIk (List.mem_of_getElem? (i := 0) rfl) Fr_rfl)
                · skip
                  have h := (ok_ck h).2
                  cases h
                  exact (Fr_sIk (List.mem_of_getElem? (i := 0) rfl) Fr_rfl)
              · skip
                rcases ok_or h with h | h
                · skip
                  rcases ok_or h with h | h
                  · skip
                    cases h
                    exact (Fr_sIk (List.mem_of_getElem? (i := 0) rfl) Fr_rfl)
                  · skip
                    cases h
                    exact (Fr_sIk (List.mem_of_getElem? (i := 0) rfl) Fr_rfl)
                · skip
                  rcases ok_or h with h | h
                  · skip
                    cases h
                    exact (Fr_sIk (List.mem_of_getElem? (i := 0) rfl) Fr_rfl)
                  · skip
                    cases h
                    exact (Fr_sIk (List.mem_of_getElem? (i := 0) rfl) Fr_rfl)
