/-! frames (printed by wip/gen/frames.py) -/
theorem fr_F_X0_slot {f : Nat} {x0 : Int32} {x1 : Int32} {r : (Int32 × MT)} {u : MT} (h : F_X0_slot f x0 x1 u = some r) : Fr [] [] [] u r.2 := by
  rw [F_X0_slot] at h
  cases h
  exact Fr_rfl
abbrev wI_X0_write : WL := [(137, 1, 0)]
theorem fr_B_X0_write_5 {f : Nat} {r : MT} : ∀ (n : Nat) (x1 : Int32) (x2 : Int32) (x3 : Int32) (x4 : Int32) (u : MT), B_X0_write_5 f n x1 x2 x3 x4 u = some r → Fr wI_X0_write [] [] u r := by
  intro n
  induction n with
  | zero => intro x1 x2 x3 x4 u h; rw [B_X0_write_5] at h; cases h
  | succ n ih =>
    intro x1 x2 x3 x4 u h
    rw [B_X0_write_5] at h
    rcases ok_or h with h | h
    · skip
      obtain ⟨r2, er2, h⟩ := ok_b h
      have a_r2 : Fr wI_X0_write [] [] u r2.2 := Fr_tr (Fr_up Fs_n Fs_n Fs_n (fr_F_X0_slot er2)) Fr_rfl
      have h := (ok_ck h).2
      cases h
      exact (Fr_sI0 (List.mem_of_getElem? (i := 0) rfl) a_r2)
    · skip
      obtain ⟨r6, er6, h⟩ := ok_b h
      have a_r6 : Fr wI_X0_write [] [] u r6.2 := Fr_tr (Fr_up Fs_n Fs_n Fs_n (fr_F_X0_slot er6)) Fr_rfl
      have h := (ok_ck h).2
      exact Fr_tr (ih _ _ _ _ _ h) a_r6
theorem fr_F_X0_write {f : Nat} {x1 : Int32} {x2 : Int32} {r : MT} {u : MT} (h : F_X0_write f x1 x2 u = some r) : Fr wI_X0_write [] [] u r := by
  rw [F_X0_write] at h
  exact Fr_tr (fr_B_X0_write_5 _ _ _ _ _ _ h) Fr_rfl
abbrev wI_X1_forgetFrom (b : Nat) : WL := [(b, 1, 6)]
theorem fr_F_X1_forgetFrom {f : Nat} {b : Nat} {ts : Nat} {x1 : Int32} {r : MT} {u : MT} (h : F_X1_forgetFrom f b ts x1 u = some r) : Fr (wI_X1_forgetFrom b) [] [] u r := by
  rw [F_X1_forgetFrom] at h
  cases h
  exact (Fr_sIk (List.mem_of_getElem? (i := 0) rfl) Fr_rfl)
theorem fr_B_X4_firstTouched_50 {f : Nat} {x1 : Int32} {x2 : Int32} {x3 : Int32} {x4 : Int32} {r : (Int32 × MT)} {j7 : Int32 → Int32 → Int32 → Int32 → MT → Option (Int32 × MT)} (q7 : ∀ (y0 : Int32) (y1 : Int32) (y2 : Int32) (y3 : Int32) (u : MT), j7 y0 y1 y2 y3 u = some r → Fr [] [] [] u r.2) {u : MT} (h : B_X4_firstTouched_50 f j7 x1 x2 x3 x4 u = some r) : Fr [] [] [] u r.2 := by
  rw [B_X4_firstTouched_50] at h
  exact Fr_tr (q7 _ _ _ _ _ h) Fr_rfl
theorem fr_B_X4_firstTouched_7 {f : Nat} {r : (Int32 × MT)} : ∀ (n : Nat) (x1 : Int32) (x2 : Int32) (x3 : Int32) (x4 : Int32) (u : MT), B_X4_firstTouched_7 f n x1 x2 x3 x4 u = some r → Fr [] [] [] u r.2 := by
  intro n
  induction n with
  | zero => intro x1 x2 x3 x4 u h; rw [B_X4_firstTouched_7] at h; cases h
  | succ n ih =>
    intro x1 x2 x3 x4 u h
    rw [B_X4_firstTouched_7] at h
    rcases ok_or h with h | h
    · skip
      cases h
      exact Fr_rfl
    · skip
      have h := (ok_ck h).2
      rcases ok_or h with h | h
      · skip
        exact Fr_tr (fr_B_X4_firstTouched_50 ih h) Fr_rfl
      · skip
        rcases ok_or h with h | h
        · skip
          exact Fr_tr (fr_B_X4_firstTouched_50 ih h) Fr_rfl
        · skip
          exact Fr_tr (fr_B_X4_firstTouched_50 ih h) Fr_rfl
theorem fr_F_X4_firstTouched {f : Nat} {x1 : Int32} {x2 : Int32} {r : (Int32 × MT)} {u : MT} (h : F_X4_firstTouched f x1 x2 u = some r) : Fr [] [] [] u r.2 := by
  rw [F_X4_firstTouched] at h
  exact Fr_tr (fr_B_X4_firstTouched_7 _ _ _ _ _ _ h) Fr_rfl
theorem fr_B_X8_firstTouched_59 {w : LT} {f : Nat} {ts : Nat} {x1 : Int32} {x2 : Int32} {x3 : Int32} {x4 : Int32} {r : (Int32 × MT)} {j7 : Int32 → Int32 → Int32 → Int32 → MT → Option (Int32 × MT)} (q7 : ∀ (y0 : Int32) (y1 : Int32) (y2 : Int32) (y3 : Int32) (u : MT), j7 y0 y1 y2 y3 u = some r → Fr [] [] [] u r.2) {u : MT} (h : B_X8_firstTouched_59 w f ts j7 x1 x2 x3 x4 u = some r) : Fr [] [] [] u r.2 := by
  rw [B_X8_firstTouched_59] at h
  exact Fr_tr (q7 _ _ _ _ _ h) Fr_rfl
theorem fr_B_X8_firstTouched_7 {w : LT} {f : Nat} {ts : Nat} {r : (Int32 × MT)} : ∀ (n : Nat) (x1 : Int32) (x2 : Int32) (x3 : Int32) (x4 : Int32) (u : MT), B_X8_firstTouched_7 w f ts n x1 x2 x3 x4 u = some r → Fr [] [] [] u r.2 := by
  intro n
  induction n with
  | zero => intro x1 x2 x3 x4 u h; rw [B_X8_firstTouched_7] at h; cases h
  | succ n ih =>
    intro x1 x2 x3 x4 u h
    rw [B_X8_firstTouched_7] at h
    rcases ok_or h with h | h
    · skip
      cases h
      exact Fr_rfl
    · skip
      have h := (ok_ck h).2
      have h := (ok_ck h).2
      rcases ok_or h with h | h
      · skip
        exact Fr_tr (fr_B_X8_firstTouched_59 ih h) Fr_rfl
      · skip
        rcases ok_or h with h | h
        · skip
          exact Fr_tr (fr_B_X8_firstTouched_59 ih h) Fr_rfl
        · skip
          exact Fr_tr (fr_B_X8_firstTouched_59 ih h) Fr_rfl
theorem fr_F_X8_firstTouched {w : LT} {f : Nat} {ts : Nat} {x1 : Int32} {x2 : Int32} {r : (Int32 × MT)} {u : MT} (h : F_X8_firstTouched w f ts x1 x2 u = some r) : Fr [] [] [] u r.2 := by
  rw [F_X8_firstTouched] at h
  exact Fr_tr (fr_B_X8_firstTouched_7 _ _ _ _ _ _ h) Fr_rfl
abbrev wI_X1_turnTo (b : Nat) : WL := [(b, 1, 6), (b, 1, 5)]
theorem fr_F_X1_turnTo {w : LT} {f : Nat} {b : Nat} {ts : Nat} {x1 : Int32} {r : MT} {u : MT} (h : F_X1_turnTo w f b ts x1 u = some r) : Fr (wI_X1_turnTo b) [] [] u r := by
  rw [F_X1_turnTo] at h
  rcases ok_or h with h | h
  · skip
    cases h
    exact Fr_rfl
  · skip
    obtain ⟨r4, er4, h⟩ := ok_b h
    have a_r4 : Fr (wI_X1_turnTo b) [] [] u r4.2 := Fr_tr (Fr_up Fs_n Fs_n Fs_n (fr_F_X4_firstTouched er4)) Fr_rfl
    obtain ⟨r6, er6, h⟩ := ok_b h
    have a_r6 : Fr (wI_X1_turnTo b) [] [] u r6 := Fr_tr (Fr_up (Fs_c (List.mem_of_getElem? (i := 0) rfl) Fs_n) Fs_n Fs_n (fr_F_X1_forgetFrom er6)) a_r4
    obtain ⟨r8, er8, h⟩ := ok_b h
    have a_r8 : Fr (wI_X1_turnTo b) [] [] u r8.2 := Fr_tr (Fr_up Fs_n Fs_n Fs_n (fr_F_X8_firstTouched er8)) a_r6
    obtain ⟨r10, er10, h⟩ := ok_b h
    have a_r10 : Fr (wI_X1_turnTo b) [] [] u r10 := Fr_tr (Fr_up (Fs_c (List.mem_of_getElem? (i := 0) rfl) Fs_n) Fs_n Fs_n (fr_F_X1_forgetFrom er10)) a_r8
    cases h
    exact (Fr_sIk (List.mem_of_getElem? (i := 1) rfl) a_r10)
theorem fr_F_X1_cell {f : Nat} {x0 : Int32} {x1 : Int32} {r : (Int32 × MT)} {u : MT} (h : F_X1_cell f x0 x1 u = some r) : Fr [] [] [] u r.2 := by
  rw [F_X1_cell] at h
  cases h
  exact Fr_rfl
theorem fr_F_X11_isIn {f : Nat} {x0 : Int32} {x1 : Int32} {x2 : Int32} {r : (Int32 × MT)} {u : MT} (h : F_X11_isIn f x0 x1 x2 u = some r) : Fr [] [] [] u r.2 := by
  rw [F_X11_isIn] at h
  rcases ok_or h with h | h
  · skip
    cases h
    exact Fr_rfl
  · skip
    rcases ok_or h with h | h
    · skip
      cases h
      exact Fr_rfl
    · skip
      cases h
      exact Fr_rfl
abbrev wI_X1_placeReadings (b : Nat) : WL := [(b + 1, 1, 0)]
theorem fr_B_X1_placeReadings_109 {f : Nat} {b : Nat} {ts : Nat} {x1 : Int32} {x2 : Int32} {r : MT} {j35 : Int32 → Int32 → MT → Option MT} (q35 : ∀ (y0 : Int32) (y1 : Int32) (u : MT), j35 y0 y1 u = some r → Fr (wI_X1_placeReadings b) [] [] u r) {u : MT} (h : B_X1_placeReadings_109 f b ts j35 x1 x2 u = some r) : Fr (wI_X1_placeReadings b) [] [] u r := by
  rw [B_X1_placeReadings_109] at h
  exact Fr_tr (q35 _ _ _ h) Fr_rfl
theorem fr_B_X1_placeReadings_35 {f : Nat} {b : Nat} {ts : Nat} {r : MT} : ∀ (n : Nat) (x1 : Int32) (x2 : Int32) (u : MT), B_X1_placeReadings_35 f b ts n x1 x2 u = some r → Fr (wI_X1_placeReadings b) [] [] u r := by
  intro n
  induction n with
  | zero => intro x1 x2 u h; rw [B_X1_placeReadings_35] at h; cases h
  | succ n ih =>
    intro x1 x2 u h
    rw [B_X1_placeReadings_35] at h
    rcases ok_or h with h | h
    · skip
      cases h
      exact Fr_rfl
    · skip
      have h := (ok_ck h).2
      rcases ok_or h with h | h
      · skip
        exact Fr_tr (fr_B_X1_placeReadings_109 ih h) Fr_rfl
      · skip
        obtain ⟨r12, er12, h⟩ := ok_b h
        have a_r12 : Fr (wI_X1_placeReadings b) [] [] u r12.2 := Fr_tr (Fr_up Fs_n Fs_n Fs_n (fr_F_X11_isIn er12)) Fr_rfl
        rcases ok_or h with h | h
        · skip
          exact Fr_tr (fr_B_X1_placeReadings_109 ih h) a_r12
        · skip
          obtain ⟨r15, er15, h⟩ := ok_b h
          have a_r15 : Fr (wI_X1_placeReadings b) [] [] u r15.2 := Fr_tr (Fr_up Fs_n Fs_n Fs_n (fr_F_X1_cell er15)) a_r12
          have h := (ok_ck h).2
          exact Fr_tr (fr_B_X1_placeReadings_109 ih h) (Fr_sI0 (List.mem_of_getElem? (i := 0) rfl) a_r15)
theorem fr_B_X1_placeReadings_9 {f : Nat} {b : Nat} {ts : Nat} {r : MT} : ∀ (n : Nat) (x1 : Int32) (x2 : Int32) (u : MT), B_X1_placeReadings_9 f b ts n x1 x2 u = some r → Fr (wI_X1_placeReadings b) [] [] u r := by
  intro n
  induction n with
  | zero => intro x1 x2 u h; rw [B_X1_placeReadings_9] at h; cases h
  | succ n ih =>
    intro x1 x2 u h
    rw [B_X1_placeReadings_9] at h
    obtain ⟨r3, er3, h⟩ := ok_b h
    have a_r3 : Fr (wI_X1_placeReadings b) [] [] u r3.2 := Fr_tr (Fr_up Fs_n Fs_n Fs_n (fr_F_X1_cell er3)) Fr_rfl
    rcases ok_or h with h | h
    · skip
      exact Fr_tr (fr_B_X1_placeReadings_35 _ _ _ _ h) a_r3
    · skip
      have h := (ok_ck h).2
      exact Fr_tr (ih _ _ _ h) (Fr_sI0 (List.mem_of_getElem? (i := 0) rfl) a_r3)
theorem fr_F_X1_placeReadings {f : Nat} {b : Nat} {ts : Nat} {x1 : Int32} {r : MT} {u : MT} (h : F_X1_placeReadings f b ts x1 u = some r) : Fr (wI_X1_placeReadings b) [] [] u r := by
  rw [F_X1_placeReadings] at h
  obtain ⟨r1, er1, h⟩ := ok_b h
  have a_r1 : Fr (wI_X1_placeReadings b) [] [] u r1.2 := Fr_tr (Fr_up Fs_n Fs_n Fs_n (fr_F_X1_cell er1)) Fr_rfl
  exact Fr_tr (fr_B_X1_placeReadings_9 _ _ _ _ h) a_r1
theorem fr_F_X1_sum {f : Nat} {b : Nat} {ts : Nat} {x1 : Int32} {x2 : Int32} {r : (Int32 × MT)} {u : MT} (h : F_X1_sum f b ts x1 x2 u = some r) : Fr [] [] [] u r.2 := by
  rw [F_X1_sum] at h
  have h := (ok_ck h).2
  cases h
  exact Fr_rfl
abbrev wI_X10_begin : WL := [(127, 1, 0), (116, 1, 4), (116, 1, 17), (116, 1, 18), (116, 1, 5), (116, 1, 6)]
theorem fr_B_X10_begin_28 {f : Nat} {r : MT} : ∀ (n : Nat) (x4 : Int32) (u : MT), B_X10_begin_28 f n x4 u = some r → Fr wI_X10_begin [] [] u r := by
  intro n
  induction n with
  | zero => intro x4 u h; rw [B_X10_begin_28] at h; cases h
  | succ n ih =>
    intro x4 u h
    rw [B_X10_begin_28] at h
    rcases ok_or h with h | h
    · skip
      cases h
      exact Fr_rfl
    · skip
      have h := (ok_ck h).2
      exact Fr_tr (ih _ _ h) (Fr_sI0 (List.mem_of_getElem? (i := 0) rfl) Fr_rfl)
theorem fr_F_X10_begin {f : Nat} {x1 : Int32} {x2 : Int32} {x3 : Int32} {r : MT} {u : MT} (h : F_X10_begin f x1 x2 x3 u = some r) : Fr wI_X10_begin [] [] u r := by
  rw [F_X10_begin] at h
  exact Fr_tr (fr_B_X10_begin_28 _ _ _ h) (Fr_sIk (List.mem_of_getElem? (i := 5) rfl) (Fr_sIk (List.mem_of_getElem? (i := 4) rfl) (Fr_sIk (List.mem_of_getElem? (i := 3) rfl) (Fr_sIk (List.mem_of_getElem? (i := 2) rfl) (Fr_sIk (List.mem_of_getElem? (i := 1) rfl) Fr_rfl)))))
theorem fr_F_X1_wants {f : Nat} {b : Nat} {ts : Nat} {x1 : Int32} {r : (Int32 × MT)} {u : MT} (h : F_X1_wants f b ts x1 u = some r) : Fr [] [] [] u r.2 := by
  rw [F_X1_wants] at h
  have h := (ok_ck h).2
  rcases ok_or h with h | h
  · skip
    cases h
    exact Fr_rfl
  · skip
    have h := (ok_ck h).2
    cases h
    exact Fr_rfl
theorem fr_F_X1_gives {f : Nat} {b : Nat} {ts : Nat} {x1 : Int32} {r : (Int32 × MT)} {u : MT} (h : F_X1_gives f b ts x1 u = some r) : Fr [] [] [] u r.2 := by
  rw [F_X1_gives] at h
  have h := (ok_ck h).2
  rcases ok_or h with h | h
  · skip
    cases h
    exact Fr_rfl
  · skip
    have h := (ok_ck h).2
    cases h
    exact Fr_rfl
abbrev wI_X10_bringIn : WL := [(117, 1, 0), (116, 1, 5), (127, 1, 1), (118, 1, 0), (119, 1, 0), (120, 1, 0), (121, 1, 0), (126, 1, 0)]
theorem fr_F_X10_bringIn {f : Nat} {x1 : Int32} {x2 : Int32} {x3 : Int32} {x4 : Int32} {r : MT} {u : MT} (h : F_X10_bringIn f x1 x2 x3 x4 u = some r) : Fr wI_X10_bringIn [] [] u r := by
  rw [F_X10_bringIn] at h
  have h := (ok_ck h).2
  cases h
  exact (Fr_sI0 (List.mem_of_getElem? (i := 7) rfl) (Fr_sI0 (List.mem_of_getElem? (i := 6) rfl) (Fr_sI0 (List.mem_of_getElem? (i := 5) rfl) (Fr_sI0 (List.mem_of_getElem? (i := 4) rfl) (Fr_sI0 (List.mem_of_getElem? (i := 3) rfl) (Fr_sIk (List.mem_of_getElem? (i := 2) rfl) (Fr_sIk (List.mem_of_getElem? (i := 1) rfl) (Fr_sI0 (List.mem_of_getElem? (i := 0) rfl) Fr_rfl))))))))
abbrev wI_X1_bringIn (b : Nat) : WL := [(117, 1, 0), (116, 1, 5), (127, 1, 1), (118, 1, 0), (119, 1, 0), (120, 1, 0), (121, 1, 0), (126, 1, 0), (b + 1, 1, 0)]
theorem fr_B_X1_bringIn_55 {f : Nat} {b : Nat} {ts : Nat} {x1 : Int32} {x3 : Int32} {s0 : Int32} {r : MT} {u : MT} (h : B_X1_bringIn_55 f b ts x1 x3 s0 u = some r) : Fr (wI_X1_bringIn b) [] [] u r := by
  rw [B_X1_bringIn_55] at h
  obtain ⟨r10, er10, h⟩ := ok_b h
  have a_r10 : Fr (wI_X1_bringIn b) [] [] u r10.2 := Fr_tr (Fr_up Fs_n Fs_n Fs_n (fr_F_X1_wants er10)) Fr_rfl
  obtain ⟨r12, er12, h⟩ := ok_b h
  have a_r12 : Fr (wI_X1_bringIn b) [] [] u r12.2 := Fr_tr (Fr_up Fs_n Fs_n Fs_n (fr_F_X1_gives er12)) a_r10
  obtain ⟨r14, er14, h⟩ := ok_b h
  have a_r14 : Fr (wI_X1_bringIn b) [] [] u r14 := Fr_tr (Fr_up (Fs_c (List.mem_of_getElem? (i := 0) rfl) (Fs_c (List.mem_of_getElem? (i := 1) rfl) (Fs_c (List.mem_of_getElem? (i := 2) rfl) (Fs_c (List.mem_of_getElem? (i := 3) rfl) (Fs_c (List.mem_of_getElem? (i := 4) rfl) (Fs_c (List.mem_of_getElem? (i := 5) rfl) (Fs_c (List.mem_of_getElem? (i := 6) rfl) (Fs_c (List.mem_of_getElem? (i := 7) rfl) Fs_n)))))))) Fs_n Fs_n (fr_F_X10_bringIn er14)) a_r12
  cases h
  exact a_r14
theorem fr_B_X1_bringIn_35 {f : Nat} {b : Nat} {ts : Nat} {x1 : Int32} {x2 : Int32} {x3 : Int32} {r : MT} {u : MT} (h : B_X1_bringIn_35 f b ts x1 x2 x3 u = some r) : Fr (wI_X1_bringIn b) [] [] u r := by
  rw [B_X1_bringIn_35] at h
  rcases ok_or h with h | h
  · skip
    exact Fr_tr (fr_B_X1_bringIn_55 h) Fr_rfl
  · skip
    have h := (ok_ck h).2
    exact Fr_tr (fr_B_X1_bringIn_55 h) Fr_rfl
theorem fr_F_X1_bringIn {f : Nat} {b : Nat} {ts : Nat} {x1 : Int32} {x2 : Int32} {r : MT} {u : MT} (h : F_X1_bringIn f b ts x1 x2 u = some r) : Fr (wI_X1_bringIn b) [] [] u r := by
  rw [F_X1_bringIn] at h
  obtain ⟨r1, er1, h⟩ := ok_b h
  have a_r1 : Fr (wI_X1_bringIn b) [] [] u r1.2 := Fr_tr (Fr_up Fs_n Fs_n Fs_n (fr_F_X1_cell er1)) Fr_rfl
  have h := (ok_ck h).2
  rcases ok_or h with h | h
  · skip
    rcases ok_or h with h | h
    · skip
      exact Fr_tr (fr_B_X1_bringIn_35 h) a_r1
    · skip
      have h := (ok_ck h).2
      exact Fr_tr (fr_B_X1_bringIn_35 h) (Fr_sI0 (List.mem_of_getElem? (i := 8) rfl) a_r1)
  · skip
    exact Fr_tr (fr_B_X1_bringIn_35 h) a_r1
theorem fr_B_X8_inForce_50 {w : LT} {f : Nat} {ts : Nat} {x1 : Int32} {x2 : Int32} {a3 : Nat} {x4 : Int32} {r : (Nat × MT)} {j5 : Int32 → Int32 → Nat → Int32 → MT → Option (Nat × MT)} (q5 : ∀ (y0 : Int32) (y1 : Int32) (y2 : Nat) (y3 : Int32) (u : MT), j5 y0 y1 y2 y3 u = some r → Fr [] [] [] u r.2) {u : MT} (h : B_X8_inForce_50 w f ts j5 x1 x2 a3 x4 u = some r) : Fr [] [] [] u r.2 := by
  rw [B_X8_inForce_50] at h
  exact Fr_tr (q5 _ _ _ _ _ h) Fr_rfl
theorem fr_B_X8_inForce_5 {w : LT} {f : Nat} {ts : Nat} {r : (Nat × MT)} : ∀ (n : Nat) (x1 : Int32) (x2 : Int32) (a3 : Nat) (x4 : Int32) (u : MT), B_X8_inForce_5 w f ts n x1 x2 a3 x4 u = some r → Fr [] [] [] u r.2 := by
  intro n
  induction n with
  | zero => intro x1 x2 a3 x4 u h; rw [B_X8_inForce_5] at h; cases h
  | succ n ih =>
    intro x1 x2 a3 x4 u h
    rw [B_X8_inForce_5] at h
    rcases ok_or h with h | h
    · skip
      cases h
      exact Fr_rfl
    · skip
      have h := (ok_ck h).2
      have h := (ok_ck h).2
      rcases ok_or h with h | h
      · skip
        exact Fr_tr (fr_B_X8_inForce_50 ih h) Fr_rfl
      · skip
        rcases ok_or h with h | h
        · skip
          exact Fr_tr (fr_B_X8_inForce_50 ih h) Fr_rfl
        · skip
          exact Fr_tr (fr_B_X8_inForce_50 ih h) Fr_rfl
theorem fr_F_X8_inForce {w : LT} {f : Nat} {ts : Nat} {x1 : Int32} {x2 : Int32} {r : (Nat × MT)} {u : MT} (h : F_X8_inForce w f ts x1 x2 u = some r) : Fr [] [] [] u r.2 := by
  rw [F_X8_inForce] at h
  exact Fr_tr (fr_B_X8_inForce_5 _ _ _ _ _ _ h) Fr_rfl
theorem fr_B_X10_joined_61 {f : Nat} {s0 : Int32} {r : (Int32 × MT)} {u : MT} (h : B_X10_joined_61 f s0 u = some r) : Fr [] [] [] u r.2 := by
  rw [B_X10_joined_61] at h
  rcases ok_or h with h | h
  · skip
    cases h
    exact Fr_rfl
  · skip
    cases h
    exact Fr_rfl
theorem fr_F_X10_joined {f : Nat} {x0 : Int32} {x1 : Int32} {x2 : Int32} {r : (Int32 × MT)} {u : MT} (h : F_X10_joined f x0 x1 x2 u = some r) : Fr [] [] [] u r.2 := by
  rw [F_X10_joined] at h
  rcases ok_or h with h | h
  · skip
    cases h
    exact Fr_rfl
  · skip
    rcases ok_or h with h | h
    · skip
      cases h
      exact Fr_rfl
    · skip
      rcases ok_or h with h | h
      · skip
        rcases ok_or h with h | h
        · skip
          exact Fr_tr (fr_B_X10_joined_61 h) Fr_rfl
        · skip
          exact Fr_tr (fr_B_X10_joined_61 h) Fr_rfl
      · skip
        rcases ok_or h with h | h
        · skip
          exact Fr_tr (fr_B_X10_joined_61 h) Fr_rfl
        · skip
          exact Fr_tr (fr_B_X10_joined_61 h) Fr_rfl
theorem fr_B_X10_wantOfAll_4 {f : Nat} {r : (Int32 × MT)} : ∀ (n : Nat) (x1 : Int32) (x2 : Int32) (u : MT), B_X10_wantOfAll_4 f n x1 x2 u = some r → Fr [] [] [] u r.2 := by
  intro n
  induction n with
  | zero => intro x1 x2 u h; rw [B_X10_wantOfAll_4] at h; cases h
  | succ n ih =>
    intro x1 x2 u h
    rw [B_X10_wantOfAll_4] at h
    rcases ok_or h with h | h
    · skip
      cases h
      exact Fr_rfl
    · skip
      have h := (ok_ck h).2
      exact Fr_tr (ih _ _ _ h) Fr_rfl
theorem fr_F_X10_wantOfAll {f : Nat} {r : (Int32 × MT)} {u : MT} (h : F_X10_wantOfAll f u = some r) : Fr [] [] [] u r.2 := by
  rw [F_X10_wantOfAll] at h
  exact Fr_tr (fr_B_X10_wantOfAll_4 _ _ _ _ h) Fr_rfl
theorem fr_F_X10_measured {f : Nat} {x1 : Int32} {r : (Int32 × MT)} {u : MT} (h : F_X10_measured f x1 u = some r) : Fr [] [] [] u r.2 := by
  rw [F_X10_measured] at h
  rcases ok_or h with h | h
  · skip
    cases h
    exact Fr_rfl
  · skip
    rcases ok_or h with h | h
    · skip
      cases h
      exact Fr_rfl
    · skip
      rcases ok_or h with h | h
      · skip
        cases h
        exact Fr_rfl
      · skip
        rcases ok_or h with h | h
        · skip
          cases h
          exact Fr_rfl
        · skip
          obtain ⟨r5, er5, h⟩ := ok_b h
          have a_r5 : Fr [] [] [] u r5.2 := Fr_tr (Fr_up Fs_n Fs_n Fs_n (fr_F_X10_wantOfAll er5)) Fr_rfl
          cases h
          exact a_r5
abbrev wI_X10_value : WL := [(125, 1, 0)]
theorem fr_B_X10_value_107 {f : Nat} {a1 : Nat} {x3 : Int32} {x4 : Int32} {x5 : Int32} {r : (Int32 × MT)} {j6 : Nat → Int32 → Int32 → Int32 → MT → Option (Int32 × MT)} (q6 : ∀ (y0 : Nat) (y1 : Int32) (y2 : Int32) (y3 : Int32) (u : MT), j6 y0 y1 y2 y3 u = some r → Fr wI_X10_value [] [] u r.2) {u : MT} (h : B_X10_value_107 f j6 a1 x3 x4 x5 u = some r) : Fr wI_X10_value [] [] u r.2 := by
  rw [B_X10_value_107] at h
  exact Fr_tr (q6 _ _ _ _ _ h) Fr_rfl
theorem fr_B_X10_value_103 {f : Nat} {a1 : Nat} {x3 : Int32} {x4 : Int32} {x5 : Int32} {s0 : Int32} {s1 : Int32} {r : (Int32 × MT)} {j6 : Nat → Int32 → Int32 → Int32 → MT → Option (Int32 × MT)} (q6 : ∀ (y0 : Nat) (y1 : Int32) (y2 : Int32) (y3 : Int32) (u : MT), j6 y0 y1 y2 y3 u = some r → Fr wI_X10_value [] [] u r.2) {u : MT} (h : B_X10_value_103 f j6 a1 x3 x4 x5 s0 s1 u = some r) : Fr wI_X10_value [] [] u r.2 := by
  rw [B_X10_value_103] at h
  have h := (ok_ck h).2
  exact Fr_tr (fr_B_X10_value_107 q6 h) (Fr_sI0 (List.mem_of_getElem? (i := 0) rfl) Fr_rfl)
theorem fr_B_X10_value_6 {f : Nat} {r : (Int32 × MT)} : ∀ (n : Nat) (a1 : Nat) (x3 : Int32) (x4 : Int32) (x5 : Int32) (u : MT), B_X10_value_6 f n a1 x3 x4 x5 u = some r → Fr wI_X10_value [] [] u r.2 := by
  intro n
  induction n with
  | zero => intro a1 x3 x4 x5 u h; rw [B_X10_value_6] at h; cases h
  | succ n ih =>
    intro a1 x3 x4 x5 u h
    rw [B_X10_value_6] at h
    rcases ok_or h with h | h
    · skip
      cases h
      exact Fr_rfl
    · skip
      have h := (ok_ck h).2
      rcases ok_or h with h | h
      · skip
        rcases ok_or h with h | h
        · skip
          exact Fr_tr (fr_B_X10_value_107 ih h) Fr_rfl
        · skip
          rcases ok_or h with h | h
          · skip
            obtain ⟨r7, er7, h⟩ := ok_b h
            have a_r7 : Fr wI_X10_value [] [] u r7.2 := Fr_tr (Fr_up Fs_n Fs_n Fs_n (fr_F_X10_measured er7)) Fr_rfl
            exact Fr_tr (fr_B_X10_value_103 ih h) a_r7
          · skip
            exact Fr_tr (fr_B_X10_value_103 ih h) Fr_rfl
      · skip
        rcases ok_or h with h | h
        · skip
          exact Fr_tr (fr_B_X10_value_107 ih h) Fr_rfl
        · skip
          have h := (ok_ck h).2
          have h := (ok_ck h).2
          obtain ⟨r13, er13, h⟩ := ok_b h
          have a_r13 : Fr wI_X10_value [] [] u r13.2 := Fr_tr (Fr_up Fs_n Fs_n Fs_n (fr_F_X10_joined er13)) Fr_rfl
          exact Fr_tr (fr_B_X10_value_107 ih h) (Fr_sI0 (List.mem_of_getElem? (i := 0) rfl) a_r13)
theorem fr_F_X10_value {f : Nat} {a1 : Nat} {x2 : Int32} {x3 : Int32} {r : (Int32 × MT)} {u : MT} (h : F_X10_value f a1 x2 x3 u = some r) : Fr wI_X10_value [] [] u r.2 := by
  rw [F_X10_value] at h
  exact Fr_tr (fr_B_X10_value_6 _ _ _ _ _ _ h) Fr_rfl
abbrev wI_X10_amount : WL := [(125, 1, 0)]
theorem fr_F_X10_amount {f : Nat} {a1 : Nat} {a2 : Nat} {x3 : Int32} {r : (Int32 × MT)} {u : MT} (h : F_X10_amount f a1 a2 x3 u = some r) : Fr wI_X10_amount [] [] u r.2 := by
  rw [F_X10_amount] at h
  rcases ok_or h with h | h
  · skip
    cases h
    exact Fr_rfl
  · skip
    obtain ⟨r2, er2, h⟩ := ok_b h
    have a_r2 : Fr wI_X10_amount [] [] u r2.2 := Fr_tr (Fr_up (Fs_c (List.mem_of_getElem? (i := 0) rfl) Fs_n) Fs_n Fs_n (fr_F_X10_value er2)) Fr_rfl
    cases h
    exact a_r2
abbrev wI_X10_fill : WL := [(116, 1, 5), (116, 1, 6), (127, 1, 3), (116, 1, 18)]
theorem fr_F_X10_fill {f : Nat} {x1 : Int32} {x2 : Int32} {r : MT} {u : MT} (h : F_X10_fill f x1 x2 u = some r) : Fr wI_X10_fill [] [] u r := by
  rw [F_X10_fill] at h
  rcases ok_or h with h | h
  · skip
    cases h
    exact (Fr_sIk (List.mem_of_getElem? (i := 3) rfl) (Fr_sIk (List.mem_of_getElem? (i := 2) rfl) (Fr_sIk (List.mem_of_getElem? (i := 1) rfl) (Fr_sIk (List.mem_of_getElem? (i := 0) rfl) Fr_rfl))))
  · skip
    cases h
    exact (Fr_sIk (List.mem_of_getElem? (i := 2) rfl) (Fr_sIk (List.mem_of_getElem? (i := 1) rfl) (Fr_sIk (List.mem_of_getElem? (i := 0) rfl) Fr_rfl)))
theorem fr_F_X10_room {f : Nat} {x1 : Int32} {r : (Int32 × MT)} {u : MT} (h : F_X10_room f x1 u = some r) : Fr [] [] [] u r.2 := by
  rw [F_X10_room] at h
  have h := (ok_ck h).2
  rcases ok_or h with h | h
  · skip
    cases h
    exact Fr_rfl
  · skip
    cases h
    exact Fr_rfl
theorem fr_B_X10_chosenAhead_61 {f : Nat} {x1 : Int32} {x2 : Int32} {x3 : Int32} {x4 : Int32} {r : (Int32 × MT)} {j17 : Int32 → Int32 → Int32 → Int32 → MT → Option (Int32 × MT)} (q17 : ∀ (y0 : Int32) (y1 : Int32) (y2 : Int32) (y3 : Int32) (u : MT), j17 y0 y1 y2 y3 u = some r → Fr [] [] [] u r.2) {u : MT} (h : B_X10_chosenAhead_61 f j17 x1 x2 x3 x4 u = some r) : Fr [] [] [] u r.2 := by
  rw [B_X10_chosenAhead_61] at h
  exact Fr_tr (q17 _ _ _ _ _ h) Fr_rfl
theorem fr_B_X10_chosenAhead_58 {f : Nat} {x1 : Int32} {x2 : Int32} {x3 : Int32} {x4 : Int32} {r : (Int32 × MT)} {j17 : Int32 → Int32 → Int32 → Int32 → MT → Option (Int32 × MT)} (q17 : ∀ (y0 : Int32) (y1 : Int32) (y2 : Int32) (y3 : Int32) (u : MT), j17 y0 y1 y2 y3 u = some r → Fr [] [] [] u r.2) {u : MT} (h : B_X10_chosenAhead_58 f j17 x1 x2 x3 x4 u = some r) : Fr [] [] [] u r.2 := by
  rw [B_X10_chosenAhead_58] at h
  exact Fr_tr (fr_B_X10_chosenAhead_61 q17 h) Fr_rfl
theorem fr_B_X10_chosenAhead_17 {f : Nat} {r : (Int32 × MT)} : ∀ (n : Nat) (x1 : Int32) (x2 : Int32) (x3 : Int32) (x4 : Int32) (u : MT), B_X10_chosenAhead_17 f n x1 x2 x3 x4 u = some r → Fr [] [] [] u r.2 := by
  intro n
  induction n with
  | zero => intro x1 x2 x3 x4 u h; rw [B_X10_chosenAhead_17] at h; cases h
  | succ n ih =>
    intro x1 x2 x3 x4 u h
    rw [B_X10_chosenAhead_17] at h
    rcases ok_or h with h | h
    · skip
      cases h
      exact Fr_rfl
    · skip
      have h := (ok_ck h).2
      have h := (ok_ck h).2
      rcases ok_or h with h | h
      · skip
        exact Fr_tr (fr_B_X10_chosenAhead_58 ih h) Fr_rfl
      · skip
        rcases ok_or h with h | h
        · skip
          rcases ok_or h with h | h
          · skip
            exact Fr_tr (fr_B_X10_chosenAhead_61 ih h) Fr_rfl
          · skip
            exact Fr_tr (fr_B_X10_chosenAhead_58 ih h) Fr_rfl
        · skip
          exact Fr_tr (fr_B_X10_chosenAhead_61 ih h) Fr_rfl
theorem fr_F_X10_chosenAhead {f : Nat} {x1 : Int32} {r : (Int32 × MT)} {u : MT} (h : F_X10_chosenAhead f x1 u = some r) : Fr [] [] [] u r.2 := by
  rw [F_X10_chosenAhead] at h
  have h := (ok_ck h).2
  have h := (ok_ck h).2
  exact Fr_tr (fr_B_X10_chosenAhead_17 _ _ _ _ _ _ h) Fr_rfl
abbrev wI_X10_keepLeast : WL := [(116, 1, 13), (122, 1, 0), (123, 1, 0)]
theorem fr_B_X10_keepLeast_72 {f : Nat} {x2 : Int32} {x3 : Int32} {r : MT} {j40 : Int32 → Int32 → MT → Option MT} (q40 : ∀ (y0 : Int32) (y1 : Int32) (u : MT), j40 y0 y1 u = some r → Fr wI_X10_keepLeast [] [] u r) {u : MT} (h : B_X10_keepLeast_72 f j40 x2 x3 u = some r) : Fr wI_X10_keepLeast [] [] u r := by
  rw [B_X10_keepLeast_72] at h
  exact Fr_tr (q40 _ _ _ h) Fr_rfl
theorem fr_B_X10_keepLeast_40 {f : Nat} {r : MT} : ∀ (n : Nat) (x2 : Int32) (x3 : Int32) (u : MT), B_X10_keepLeast_40 f n x2 x3 u = some r → Fr wI_X10_keepLeast [] [] u r := by
  intro n
  induction n with
  | zero => intro x2 x3 u h; rw [B_X10_keepLeast_40] at h; cases h
  | succ n ih =>
    intro x2 x3 u h
    rw [B_X10_keepLeast_40] at h
    rcases ok_or h with h | h
    · skip
      cases h
      exact (Fr_sIk (List.mem_of_getElem? (i := 0) rfl) Fr_rfl)
    · skip
      have h := (ok_ck h).2
      rcases ok_or h with h | h
      · skip
        exact Fr_tr (fr_B_X10_keepLeast_72 ih h) Fr_rfl
      · skip
        have h := (ok_ck h).2
        exact Fr_tr (fr_B_X10_keepLeast_72 ih h) (Fr_sI0 (List.mem_of_getElem? (i := 1) rfl) Fr_rfl)
theorem fr_B_X10_keepLeast_29 {f : Nat} {x1 : Int32} {x2 : Int32} {s0 : Int32} {s1 : Int32} {r : MT} {j2 : Int32 → Int32 → MT → Option MT} (q2 : ∀ (y0 : Int32) (y1 : Int32) (u : MT), j2 y0 y1 u = some r → Fr wI_X10_keepLeast [] [] u r) {u : MT} (h : B_X10_keepLeast_29 f j2 x1 x2 s0 s1 u = some r) : Fr wI_X10_keepLeast [] [] u r := by
  rw [B_X10_keepLeast_29] at h
  have h := (ok_ck h).2
  exact Fr_tr (q2 _ _ _ h) (Fr_sI0 (List.mem_of_getElem? (i := 2) rfl) Fr_rfl)
theorem fr_B_X10_keepLeast_2 {f : Nat} {r : MT} : ∀ (n : Nat) (x1 : Int32) (x2 : Int32) (u : MT), B_X10_keepLeast_2 f n x1 x2 u = some r → Fr wI_X10_keepLeast [] [] u r := by
  intro n
  induction n with
  | zero => intro x1 x2 u h; rw [B_X10_keepLeast_2] at h; cases h
  | succ n ih =>
    intro x1 x2 u h
    rw [B_X10_keepLeast_2] at h
    rcases ok_or h with h | h
    · skip
      exact Fr_tr (fr_B_X10_keepLeast_40 _ _ _ _ h) Fr_rfl
    · skip
      obtain ⟨r2, er2, h⟩ := ok_b h
      have a_r2 : Fr wI_X10_keepLeast [] [] u r2.2 := Fr_tr (Fr_up Fs_n Fs_n Fs_n (fr_F_X10_chosenAhead er2)) Fr_rfl
      rcases ok_or h with h | h
      · skip
        exact Fr_tr (fr_B_X10_keepLeast_29 ih h) a_r2
      · skip
        exact Fr_tr (fr_B_X10_keepLeast_29 ih h) a_r2
theorem fr_F_X10_keepLeast {f : Nat} {x1 : Int32} {r : MT} {u : MT} (h : F_X10_keepLeast f x1 u = some r) : Fr wI_X10_keepLeast [] [] u r := by
  rw [F_X10_keepLeast] at h
  exact Fr_tr (fr_B_X10_keepLeast_2 _ _ _ _ h) Fr_rfl
abbrev wI_X10_choose : WL := [(122, 1, 0), (116, 1, 13), (123, 1, 0)]
theorem fr_B_X10_choose_64 {f : Nat} {a1 : Nat} {x2 : Int32} {r : MT} {j7 : Nat → Int32 → MT → Option MT} (q7 : ∀ (y0 : Nat) (y1 : Int32) (u : MT), j7 y0 y1 u = some r → Fr wI_X10_choose [] [] u r) {u : MT} (h : B_X10_choose_64 f j7 a1 x2 u = some r) : Fr wI_X10_choose [] [] u r := by
  rw [B_X10_choose_64] at h
  exact Fr_tr (q7 _ _ _ h) Fr_rfl
theorem fr_B_X10_choose_44 {f : Nat} {a1 : Nat} {x2 : Int32} {r : MT} {j7 : Nat → Int32 → MT → Option MT} (q7 : ∀ (y0 : Nat) (y1 : Int32) (u : MT), j7 y0 y1 u = some r → Fr wI_X10_choose [] [] u r) {u : MT} (h : B_X10_choose_44 f j7 a1 x2 u = some r) : Fr wI_X10_choose [] [] u r := by
  rw [B_X10_choose_44] at h
  have h := (ok_ck h).2
  exact Fr_tr (fr_B_X10_choose_64 q7 h) (Fr_sIk (List.mem_of_getElem? (i := 1) rfl) (Fr_sI0 (List.mem_of_getElem? (i := 0) rfl) Fr_rfl))
theorem fr_B_X10_choose_7 {f : Nat} {r : MT} : ∀ (n : Nat) (a1 : Nat) (x2 : Int32) (u : MT), B_X10_choose_7 f n a1 x2 u = some r → Fr wI_X10_choose [] [] u r := by
  intro n
  induction n with
  | zero => intro a1 x2 u h; rw [B_X10_choose_7] at h; cases h
  | succ n ih =>
    intro a1 x2 u h
    rw [B_X10_choose_7] at h
    rcases ok_or h with h | h
    · skip
      have h := (ok_ck h).2
      rcases ok_or h with h | h
      · skip
        rcases ok_or h with h | h
        · skip
          cases h
          exact Fr_rfl
        · skip
          obtain ⟨r6, er6, h⟩ := ok_b h
          have a_r6 : Fr wI_X10_choose [] [] u r6 := Fr_tr (Fr_up (Fs_c (List.mem_of_getElem? (i := 1) rfl) (Fs_c (List.mem_of_getElem? (i := 0) rfl) (Fs_c (List.mem_of_getElem? (i := 2) rfl) Fs_n))) Fs_n Fs_n (fr_F_X10_keepLeast er6)) Fr_rfl
          cases h
          exact a_r6
      · skip
        cases h
        exact Fr_rfl
    · skip
      obtain ⟨r8, er8, h⟩ := ok_b h
      have a_r8 : Fr wI_X10_choose [] [] u r8.2 := Fr_tr (Fr_up Fs_n Fs_n Fs_n (fr_F_X10_room er8)) Fr_rfl
      rcases ok_or h with h | h
      · skip
        exact Fr_tr (fr_B_X10_choose_64 ih h) a_r8
      · skip
        have h := (ok_ck h).2
        rcases ok_or h with h | h
        · skip
          rcases ok_or h with h | h
          · skip
            exact Fr_tr (fr_B_X10_choose_44 ih h) a_r8
          · skip
            exact Fr_tr (fr_B_X10_choose_64 ih h) a_r8
        · skip
          exact Fr_tr (fr_B_X10_choose_44 ih h) a_r8
theorem fr_F_X10_choose {f : Nat} {a1 : Nat} {r : MT} {u : MT} (h : F_X10_choose f a1 u = some r) : Fr wI_X10_choose [] [] u r := by
  rw [F_X10_choose] at h
  exact Fr_tr (fr_B_X10_choose_7 _ _ _ _ h) (Fr_sIk (List.mem_of_getElem? (i := 1) rfl) Fr_rfl)
abbrev wI_X10_weigh : WL := [(124, 1, 0)]
theorem fr_B_X10_weigh_74 {f : Nat} {a1 : Nat} {x2 : Int64} {x4 : Int32} {x5 : Int32} {r : (Int64 × MT)} {j5 : Nat → Int64 → Int32 → MT → Option (Int64 × MT)} (q5 : ∀ (y0 : Nat) (y1 : Int64) (y2 : Int32) (u : MT), j5 y0 y1 y2 u = some r → Fr wI_X10_weigh [] [] u r.2) {u : MT} (h : B_X10_weigh_74 f j5 a1 x2 x4 x5 u = some r) : Fr wI_X10_weigh [] [] u r.2 := by
  rw [B_X10_weigh_74] at h
  have h := (ok_ck h).2
  exact Fr_tr (q5 _ _ _ _ h) Fr_rfl
theorem fr_B_X10_weigh_73 {f : Nat} {a1 : Nat} {x2 : Int64} {x4 : Int32} {x5 : Int32} {s0 : Int32} {s1 : Int32} {r : (Int64 × MT)} {j5 : Nat → Int64 → Int32 → MT → Option (Int64 × MT)} (q5 : ∀ (y0 : Nat) (y1 : Int64) (y2 : Int32) (u : MT), j5 y0 y1 y2 u = some r → Fr wI_X10_weigh [] [] u r.2) {u : MT} (h : B_X10_weigh_73 f j5 a1 x2 x4 x5 s0 s1 u = some r) : Fr wI_X10_weigh [] [] u r.2 := by
  rw [B_X10_weigh_73] at h
  have h := (ok_ck h).2
  exact Fr_tr (fr_B_X10_weigh_74 q5 h) (Fr_sI0 (List.mem_of_getElem? (i := 0) rfl) Fr_rfl)
theorem fr_B_X10_weigh_5 {f : Nat} {r : (Int64 × MT)} : ∀ (n : Nat) (a1 : Nat) (x2 : Int64) (x4 : Int32) (u : MT), B_X10_weigh_5 f n a1 x2 x4 u = some r → Fr wI_X10_weigh [] [] u r.2 := by
  intro n
  induction n with
  | zero => intro a1 x2 x4 u h; rw [B_X10_weigh_5] at h; cases h
  | succ n ih =>
    intro a1 x2 x4 u h
    rw [B_X10_weigh_5] at h
    rcases ok_or h with h | h
    · skip
      cases h
      exact Fr_rfl
    · skip
      have h := (ok_ck h).2
      have h := (ok_ck h).2
      rcases ok_or h with h | h
      · skip
        have h := (ok_ck h).2
        exact Fr_tr (fr_B_X10_weigh_74 ih h) (Fr_sI0 (List.mem_of_getElem? (i := 0) rfl) Fr_rfl)
      · skip
        rcases ok_or h with h | h
        · skip
          obtain ⟨r9, er9, h⟩ := ok_b h
          have a_r9 : Fr wI_X10_weigh [] [] u r9.2 := Fr_tr (Fr_up Fs_n Fs_n Fs_n (fr_F_X10_room er9)) Fr_rfl
          exact Fr_tr (fr_B_X10_weigh_73 ih h) a_r9
        · skip
          have h := (ok_ck h).2
          exact Fr_tr (fr_B_X10_weigh_73 ih h) Fr_rfl
theorem fr_F_X10_weigh {f : Nat} {a1 : Nat} {r : (Int64 × MT)} {u : MT} (h : F_X10_weigh f a1 u = some r) : Fr wI_X10_weigh [] [] u r.2 := by
  rw [F_X10_weigh] at h
  exact Fr_tr (fr_B_X10_weigh_5 _ _ _ _ _ h) Fr_rfl
abbrev wI_X10_hand : WL := [(116, 1, 5), (120, 1, 0), (116, 1, 6), (121, 1, 0), (117, 1, 0), (118, 1, 0), (119, 1, 0), (126, 1, 0)]
theorem fr_B_X10_hand_52 {f : Nat} {a1 : Nat} {x3 : Int32} {x4 : Int32} {r : MT} {u : MT} (h : B_X10_hand_52 f a1 x3 x4 u = some r) : Fr wI_X10_hand [] [] u r := by
  rw [B_X10_hand_52] at h
  have h := (ok_ck h).2
  rcases ok_or h with h | h
  · skip
    have h := (ok_ck h).2
    cases h
    exact (Fr_sI0 (List.mem_of_getElem? (i := 1) rfl) (Fr_sIk (List.mem_of_getElem? (i := 0) rfl) Fr_rfl))
  · skip
    have h := (ok_ck h).2
    cases h
    exact (Fr_sI0 (List.mem_of_getElem? (i := 3) rfl) (Fr_sIk (List.mem_of_getElem? (i := 2) rfl) Fr_rfl))
theorem fr_F_X10_hand {f : Nat} {a1 : Nat} {x2 : Int32} {x3 : Int32} {x4 : Int32} {r : MT} {u : MT} (h : F_X10_hand f a1 x2 x3 x4 u = some r) : Fr wI_X10_hand [] [] u r := by
  rw [F_X10_hand] at h
  have h := (ok_ck h).2
  rcases ok_or h with h | h
  · skip
    exact Fr_tr (fr_B_X10_hand_52 h) (Fr_sI0 (List.mem_of_getElem? (i := 7) rfl) (Fr_sI0 (List.mem_of_getElem? (i := 6) rfl) (Fr_sI0 (List.mem_of_getElem? (i := 5) rfl) (Fr_sI0 (List.mem_of_getElem? (i := 4) rfl) Fr_rfl))))
  · skip
    exact Fr_tr (fr_B_X10_hand_52 h) (Fr_sI0 (List.mem_of_getElem? (i := 6) rfl) (Fr_sI0 (List.mem_of_getElem? (i := 5) rfl) (Fr_sI0 (List.mem_of_getElem? (i := 4) rfl) Fr_rfl)))
abbrev wI_X10_sortByWant : WL := [(122, 1, 0)]
theorem fr_B_X10_sortByWant_65 {f : Nat} {x1 : Int32} {x2 : Int32} {x3 : Int32} {r : MT} {j2 : Int32 → MT → Option MT} (q2 : ∀ (y0 : Int32) (u : MT), j2 y0 u = some r → Fr wI_X10_sortByWant [] [] u r) {u : MT} (h : B_X10_sortByWant_65 f j2 x1 x2 x3 u = some r) : Fr wI_X10_sortByWant [] [] u r := by
  rw [B_X10_sortByWant_65] at h
  have h := (ok_ck h).2
  exact Fr_tr (q2 _ _ h) (Fr_sI0 (List.mem_of_getElem? (i := 0) rfl) Fr_rfl)
theorem fr_B_X10_sortByWant_19 {f : Nat} {r : MT} {j2 : Int32 → MT → Option MT} (q2 : ∀ (y0 : Int32) (u : MT), j2 y0 u = some r → Fr wI_X10_sortByWant [] [] u r) : ∀ (n : Nat) (x1 : Int32) (x2 : Int32) (x3 : Int32) (u : MT), B_X10_sortByWant_19 f j2 n x1 x2 x3 u = some r → Fr wI_X10_sortByWant [] [] u r := by
  intro n
  induction n with
  | zero => intro x1 x2 x3 u h; rw [B_X10_sortByWant_19] at h; cases h
  | succ n ih =>
    intro x1 x2 x3 u h
    rw [B_X10_sortByWant_19] at h
    rcases ok_or h with h | h
    · skip
      exact Fr_tr (fr_B_X10_sortByWant_65 q2 h) Fr_rfl
    · skip
      have h := (ok_ck h).2
      have h := (ok_ck h).2
      have h := (ok_ck h).2
      rcases ok_or h with h | h
      · skip
        exact Fr_tr (fr_B_X10_sortByWant_65 q2 h) Fr_rfl
      · skip
        have h := (ok_ck h).2
        exact Fr_tr (ih _ _ _ _ h) (Fr_sI0 (List.mem_of_getElem? (i := 0) rfl) Fr_rfl)
theorem fr_B_X10_sortByWant_2 {f : Nat} {r : MT} : ∀ (n : Nat) (x1 : Int32) (u : MT), B_X10_sortByWant_2 f n x1 u = some r → Fr wI_X10_sortByWant [] [] u r := by
  intro n
  induction n with
  | zero => intro x1 u h; rw [B_X10_sortByWant_2] at h; cases h
  | succ n ih =>
    intro x1 u h
    rw [B_X10_sortByWant_2] at h
    rcases ok_or h with h | h
    · skip
      cases h
      exact Fr_rfl
    · skip
      have h := (ok_ck h).2
      exact Fr_tr (fr_B_X10_sortByWant_19 ih _ _ _ _ _ h) Fr_rfl
theorem fr_F_X10_sortByWant {f : Nat} {r : MT} {u : MT} (h : F_X10_sortByWant f u = some r) : Fr wI_X10_sortByWant [] [] u r := by
  rw [F_X10_sortByWant] at h
  exact Fr_tr (fr_B_X10_sortByWant_2 _ _ _ h) Fr_rfl
abbrev wI_X10_handOnes : WL := [(116, 1, 5), (120, 1, 0), (116, 1, 6), (121, 1, 0), (117, 1, 0), (118, 1, 0), (119, 1, 0), (126, 1, 0)]
theorem fr_B_X10_handOnes_64 {f : Nat} {a1 : Nat} {x2 : Int32} {x4 : Int32} {x5 : Int32} {x6 : Int32} {x7 : Int32} {r : (Int32 × MT)} {j6 : Nat → Int32 → Int32 → Int32 → Int32 → Int32 → MT → Option (Int32 × MT)} (q6 : ∀ (y0 : Nat) (y1 : Int32) (y2 : Int32) (y3 : Int32) (y4 : Int32) (y5 : Int32) (u : MT), j6 y0 y1 y2 y3 y4 y5 u = some r → Fr wI_X10_handOnes [] [] u r.2) {u : MT} (h : B_X10_handOnes_64 f j6 a1 x2 x4 x5 x6 x7 u = some r) : Fr wI_X10_handOnes [] [] u r.2 := by
  rw [B_X10_handOnes_64] at h
  exact Fr_tr (q6 _ _ _ _ _ _ _ h) Fr_rfl
theorem fr_B_X10_handOnes_6 {f : Nat} {r : (Int32 × MT)} : ∀ (n : Nat) (a1 : Nat) (x2 : Int32) (x4 : Int32) (x5 : Int32) (x6 : Int32) (x7 : Int32) (u : MT), B_X10_handOnes_6 f n a1 x2 x4 x5 x6 x7 u = some r → Fr wI_X10_handOnes [] [] u r.2 := by
  intro n
  induction n with
  | zero => intro a1 x2 x4 x5 x6 x7 u h; rw [B_X10_handOnes_6] at h; cases h
  | succ n ih =>
    intro a1 x2 x4 x5 x6 x7 u h
    rw [B_X10_handOnes_6] at h
    rcases ok_or h with h | h
    · skip
      cases h
      exact Fr_rfl
    · skip
      have h := (ok_ck h).2
      rcases ok_or h with h | h
      · skip
        exact Fr_tr (fr_B_X10_handOnes_64 ih h) Fr_rfl
      · skip
        rcases ok_or h with h | h
        · skip
          exact Fr_tr (fr_B_X10_handOnes_64 ih h) Fr_rfl
        · skip
          rcases ok_or h with h | h
          · skip
            exact Fr_tr (fr_B_X10_handOnes_64 ih h) Fr_rfl
          · skip
            obtain ⟨r7, er7, h⟩ := ok_b h
            have a_r7 : Fr wI_X10_handOnes [] [] u r7.2 := Fr_tr (Fr_up Fs_n Fs_n Fs_n (fr_F_X10_room er7)) Fr_rfl
            rcases ok_or h with h | h
            · skip
              exact Fr_tr (fr_B_X10_handOnes_64 ih h) a_r7
            · skip
              obtain ⟨r10, er10, h⟩ := ok_b h
              have a_r10 : Fr wI_X10_handOnes [] [] u r10 := Fr_tr (Fr_up (Fs_c (List.mem_of_getElem? (i := 0) rfl) (Fs_c (List.mem_of_getElem? (i := 1) rfl) (Fs_c (List.mem_of_getElem? (i := 2) rfl) (Fs_c (List.mem_of_getElem? (i := 3) rfl) (Fs_c (List.mem_of_getElem? (i := 4) rfl) (Fs_c (List.mem_of_getElem? (i := 5) rfl) (Fs_c (List.mem_of_getElem? (i := 6) rfl) (Fs_c (List.mem_of_getElem? (i := 7) rfl) Fs_n)))))))) Fs_n Fs_n (fr_F_X10_hand er10)) a_r7
              exact Fr_tr (fr_B_X10_handOnes_64 ih h) a_r10
theorem fr_F_X10_handOnes {f : Nat} {a1 : Nat} {x2 : Int32} {x3 : Int32} {x4 : Int32} {x5 : Int32} {r : (Int32 × MT)} {u : MT} (h : F_X10_handOnes f a1 x2 x3 x4 x5 u = some r) : Fr wI_X10_handOnes [] [] u r.2 := by
  rw [F_X10_handOnes] at h
  exact Fr_tr (fr_B_X10_handOnes_6 _ _ _ _ _ _ _ _ h) Fr_rfl
abbrev wI_X10_handRest : WL := [(116, 1, 5), (120, 1, 0), (116, 1, 6), (121, 1, 0), (117, 1, 0), (118, 1, 0), (119, 1, 0), (126, 1, 0), (122, 1, 0)]
theorem fr_B_X10_handRest_54 {f : Nat} {a1 : Nat} {x2 : Int32} {x3 : Int32} {x4 : Int32} {r : MT} {u : MT} (h : B_X10_handRest_54 f a1 x2 x3 x4 u = some r) : Fr wI_X10_handRest [] [] u r := by
  rw [B_X10_handRest_54] at h
  have h := (ok_ck h).2
  obtain ⟨r10, er10, h⟩ := ok_b h
  have a_r10 : Fr wI_X10_handRest [] [] u r10.2 := Fr_tr (Fr_up (Fs_c (List.mem_of_getElem? (i := 0) rfl) (Fs_c (List.mem_of_getElem? (i := 1) rfl) (Fs_c (List.mem_of_getElem? (i := 2) rfl) (Fs_c (List.mem_of_getElem? (i := 3) rfl) (Fs_c (List.mem_of_getElem? (i := 4) rfl) (Fs_c (List.mem_of_getElem? (i := 5) rfl) (Fs_c (List.mem_of_getElem? (i := 6) rfl) (Fs_c (List.mem_of_getElem? (i := 7) rfl) Fs_n)))))))) Fs_n Fs_n (fr_F_X10_handOnes er10)) Fr_rfl
  obtain ⟨r12, er12, h⟩ := ok_b h
  have a_r12 : Fr wI_X10_handRest [] [] u r12.2 := Fr_tr (Fr_up (Fs_c (List.mem_of_getElem? (i := 0) rfl) (Fs_c (List.mem_of_getElem? (i := 1) rfl) (Fs_c (List.mem_of_getElem? (i := 2) rfl) (Fs_c (List.mem_of_getElem? (i := 3) rfl) (Fs_c (List.mem_of_getElem? (i := 4) rfl) (Fs_c (List.mem_of_getElem? (i := 5) rfl) (Fs_c (List.mem_of_getElem? (i := 6) rfl) (Fs_c (List.mem_of_getElem? (i := 7) rfl) Fs_n)))))))) Fs_n Fs_n (fr_F_X10_handOnes er12)) a_r10
  cases h
  exact a_r12
theorem fr_F_X10_handRest {f : Nat} {a1 : Nat} {x2 : Int32} {x3 : Int32} {r : MT} {u : MT} (h : F_X10_handRest f a1 x2 x3 u = some r) : Fr wI_X10_handRest [] [] u r := by
  rw [F_X10_handRest] at h
  have h := (ok_ck h).2
  rcases ok_or h with h | h
  · skip
    obtain ⟨r3, er3, h⟩ := ok_b h
    have a_r3 : Fr wI_X10_handRest [] [] u r3 := Fr_tr (Fr_up (Fs_c (List.mem_of_getElem? (i := 8) rfl) Fs_n) Fs_n Fs_n (fr_F_X10_sortByWant er3)) Fr_rfl
    exact Fr_tr (fr_B_X10_handRest_54 h) a_r3
  · skip
    rcases ok_or h with h | h
    · skip
      rcases ok_or h with h | h
      · skip
        exact Fr_tr (fr_B_X10_handRest_54 h) Fr_rfl
      · skip
        have h := (ok_ck h).2
        exact Fr_tr (fr_B_X10_handRest_54 h) Fr_rfl
    · skip
      exact Fr_tr (fr_B_X10_handRest_54 h) Fr_rfl
abbrev wI_X10_give : WL := [(116, 1, 5), (120, 1, 0), (116, 1, 6), (121, 1, 0), (117, 1, 0), (118, 1, 0), (119, 1, 0), (126, 1, 0), (122, 1, 0), (116, 1, 13), (123, 1, 0), (124, 1, 0)]
theorem fr_B_X10_give_44 {f : Nat} {r : MT} : ∀ (n : Nat) (a1 : Nat) (x2 : Int32) (x3 : Int32) (a4 : Nat) (x5 : Int64) (x7 : Int32) (x8 : Int32) (u : MT), B_X10_give_44 f n a1 x2 x3 a4 x5 x7 x8 u = some r → Fr wI_X10_give [] [] u r := by
  intro n
  induction n with
  | zero => intro a1 x2 x3 a4 x5 x7 x8 u h; rw [B_X10_give_44] at h; cases h
  | succ n ih =>
    intro a1 x2 x3 a4 x5 x7 x8 u h
    rw [B_X10_give_44] at h
    rcases ok_or h with h | h
    · skip
      rcases ok_or h with h | h
      · skip
        cases h
        exact Fr_rfl
      · skip
        obtain ⟨r10, er10, h⟩ := ok_b h
        have a_r10 : Fr wI_X10_give [] [] u r10 := Fr_tr (Fr_up (Fs_c (List.mem_of_getElem? (i := 0) rfl) (Fs_c (List.mem_of_getElem? (i := 1) rfl) (Fs_c (List.mem_of_getElem? (i := 2) rfl) (Fs_c (List.mem_of_getElem? (i := 3) rfl) (Fs_c (List.mem_of_getElem? (i := 4) rfl) (Fs_c (List.mem_of_getElem? (i := 5) rfl) (Fs_c (List.mem_of_getElem? (i := 6) rfl) (Fs_c (List.mem_of_getElem? (i := 7) rfl) (Fs_c (List.mem_of_getElem? (i := 8) rfl) Fs_n))))))))) Fs_n Fs_n (fr_F_X10_handRest er10)) Fr_rfl
        cases h
        exact a_r10
    · skip
      have h := (ok_ck h).2
      have h := (ok_ck h).2
      have h := (ok_ck h).2
      obtain ⟨r16, er16, h⟩ := ok_b h
      have a_r16 : Fr wI_X10_give [] [] u r16.2 := Fr_tr (Fr_up Fs_n Fs_n Fs_n (fr_F_X10_room er16)) Fr_rfl
      obtain ⟨r19, er19, h⟩ := ok_b h
      have a_r19 : Fr wI_X10_give [] [] u r19 := Fr_tr (Fr_up (Fs_c (List.mem_of_getElem? (i := 0) rfl) (Fs_c (List.mem_of_getElem? (i := 1) rfl) (Fs_c (List.mem_of_getElem? (i := 2) rfl) (Fs_c (List.mem_of_getElem? (i := 3) rfl) (Fs_c (List.mem_of_getElem? (i := 4) rfl) (Fs_c (List.mem_of_getElem? (i := 5) rfl) (Fs_c (List.mem_of_getElem? (i := 6) rfl) (Fs_c (List.mem_of_getElem? (i := 7) rfl) Fs_n)))))))) Fs_n Fs_n (fr_F_X10_hand er19)) a_r16
      exact Fr_tr (ih _ _ _ _ _ _ _ _ h) a_r19
theorem fr_F_X10_give {f : Nat} {a1 : Nat} {x2 : Int32} {x3 : Int32} {r : MT} {u : MT} (h : F_X10_give f a1 x2 x3 u = some r) : Fr wI_X10_give [] [] u r := by
  rw [F_X10_give] at h
  have h := (ok_ck h).2
  rcases ok_or h with h | h
  · skip
    cases h
    exact Fr_rfl
  · skip
    obtain ⟨r3, er3, h⟩ := ok_b h
    have a_r3 : Fr wI_X10_give [] [] u r3 := Fr_tr (Fr_up (Fs_c (List.mem_of_getElem? (i := 8) rfl) (Fs_c (List.mem_of_getElem? (i := 9) rfl) (Fs_c (List.mem_of_getElem? (i := 10) rfl) Fs_n))) Fs_n Fs_n (fr_F_X10_choose er3)) Fr_rfl
    obtain ⟨r5, er5, h⟩ := ok_b h
    have a_r5 : Fr wI_X10_give [] [] u r5.2 := Fr_tr (Fr_up (Fs_c (List.mem_of_getElem? (i := 11) rfl) Fs_n) Fs_n Fs_n (fr_F_X10_weigh er5)) a_r3
    rcases ok_or h with h | h
    · skip
      exact Fr_tr (fr_B_X10_give_44 _ _ _ _ _ _ _ _ _ h) a_r5
    · skip
      cases h
      exact a_r5
abbrev wI_X10_apply : WL := [(125, 1, 0), (116, 1, 5), (120, 1, 0), (116, 1, 6), (121, 1, 0), (117, 1, 0), (118, 1, 0), (119, 1, 0), (126, 1, 0), (122, 1, 0), (116, 1, 13), (123, 1, 0), (124, 1, 0), (127, 1, 0), (127, 1, 3), (116, 1, 18)]
theorem fr_B_X10_apply_116 {f : Nat} {s0 : Int32} {s1 : Nat} {s2 : Nat} {s4 : Int32} {s5 : Nat} {r : MT} {u : MT} (h : B_X10_apply_116 f s0 s1 s2 s4 s5 u = some r) : Fr wI_X10_apply [] [] u r := by
  rw [B_X10_apply_116] at h
  obtain ⟨r17, er17, h⟩ := ok_b h
  have a_r17 : Fr wI_X10_apply [] [] u r17.2 := Fr_tr (Fr_up (Fs_c (List.mem_of_getElem? (i := 0) rfl) Fs_n) Fs_n Fs_n (fr_F_X10_amount er17)) Fr_rfl
  obtain ⟨r19, er19, h⟩ := ok_b h
  have a_r19 : Fr wI_X10_apply [] [] u r19 := Fr_tr (Fr_up (Fs_c (List.mem_of_getElem? (i := 1) rfl) (Fs_c (List.mem_of_getElem? (i := 2) rfl) (Fs_c (List.mem_of_getElem? (i := 3) rfl) (Fs_c (List.mem_of_getElem? (i := 4) rfl) (Fs_c (List.mem_of_getElem? (i := 5) rfl) (Fs_c (List.mem_of_getElem? (i := 6) rfl) (Fs_c (List.mem_of_getElem? (i := 7) rfl) (Fs_c (List.mem_of_getElem? (i := 8) rfl) (Fs_c (List.mem_of_getElem? (i := 9) rfl) (Fs_c (List.mem_of_getElem? (i := 10) rfl) (Fs_c (List.mem_of_getElem? (i := 11) rfl) (Fs_c (List.mem_of_getElem? (i := 12) rfl) Fs_n)))))))))))) Fs_n Fs_n (fr_F_X10_give er19)) a_r17
  cases h
  exact a_r19
theorem fr_B_X10_apply_35 {f : Nat} {a1 : Nat} {x2 : Int32} {a3 : Nat} {r : MT} {u : MT} (h : B_X10_apply_35 f a1 x2 a3 u = some r) : Fr wI_X10_apply [] [] u r := by
  rw [B_X10_apply_35] at h
  have h := (ok_ck h).2
  rcases ok_or h with h | h
  · skip
    have h := (ok_ck h).2
    cases h
    exact (Fr_sI0 (List.mem_of_getElem? (i := 13) rfl) Fr_rfl)
  · skip
    rcases ok_or h with h | h
    · skip
      obtain ⟨r11, er11, h⟩ := ok_b h
      have a_r11 : Fr wI_X10_apply [] [] u r11.2 := Fr_tr (Fr_up (Fs_c (List.mem_of_getElem? (i := 0) rfl) Fs_n) Fs_n Fs_n (fr_F_X10_amount er11)) Fr_rfl
      obtain ⟨r13, er13, h⟩ := ok_b h
      have a_r13 : Fr wI_X10_apply [] [] u r13 := Fr_tr (Fr_up (Fs_c (List.mem_of_getElem? (i := 1) rfl) (Fs_c (List.mem_of_getElem? (i := 3) rfl) (Fs_c (List.mem_of_getElem? (i := 14) rfl) (Fs_c (List.mem_of_getElem? (i := 15) rfl) Fs_n)))) Fs_n Fs_n (fr_F_X10_fill er13)) a_r11
      cases h
      exact a_r13
    · skip
      have h := (ok_ck h).2
      rcases ok_or h with h | h
      · skip
        exact Fr_tr (fr_B_X10_apply_116 h) Fr_rfl
      · skip
        exact Fr_tr (fr_B_X10_apply_116 h) Fr_rfl
theorem fr_F_X10_apply {f : Nat} {a1 : Nat} {x2 : Int32} {r : MT} {u : MT} (h : F_X10_apply f a1 x2 u = some r) : Fr wI_X10_apply [] [] u r := by
  rw [F_X10_apply] at h
  have h := (ok_ck h).2
  rcases ok_or h with h | h
  · skip
    exact Fr_tr (fr_B_X10_apply_35 h) Fr_rfl
  · skip
    obtain ⟨r3, er3, h⟩ := ok_b h
    have a_r3 : Fr wI_X10_apply [] [] u r3.2 := Fr_tr (Fr_up (Fs_c (List.mem_of_getElem? (i := 0) rfl) Fs_n) Fs_n Fs_n (fr_F_X10_value er3)) Fr_rfl
    rcases ok_or h with h | h
    · skip
      cases h
      exact a_r3
    · skip
      exact Fr_tr (fr_B_X10_apply_35 h) a_r3
abbrev wI_X10_end : WL := [(127, 1, 4), (127, 1, 2), (127, 1, 6), (127, 1, 5), (127, 1, 9), (127, 1, 10), (127, 1, 7), (127, 1, 8)]
theorem fr_B_X10_end_4 {f : Nat} {r : MT} : ∀ (n : Nat) (x1 : Int32) (x2 : Int32) (u : MT), B_X10_end_4 f n x1 x2 u = some r → Fr wI_X10_end [] [] u r := by
  intro n
  induction n with
  | zero => intro x1 x2 u h; rw [B_X10_end_4] at h; cases h
  | succ n ih =>
    intro x1 x2 u h
    rw [B_X10_end_4] at h
    rcases ok_or h with h | h
    · skip
      cases h
      exact (Fr_sIk (List.mem_of_getElem? (i := 5) rfl) (Fr_sIk (List.mem_of_getElem? (i := 4) rfl) (Fr_sIk (List.mem_of_getElem? (i := 3) rfl) (Fr_sIk (List.mem_of_getElem? (i := 2) rfl) (Fr_sIk (List.mem_of_getElem? (i := 1) rfl) (Fr_sIk (List.mem_of_getElem? (i := 0) rfl) Fr_rfl))))))
    · skip
      have h := (ok_ck h).2
      obtain ⟨r12, er12, h⟩ := ok_b h
      have a_r12 : Fr wI_X10_end [] [] u r12.2 := Fr_tr (Fr_up Fs_n Fs_n Fs_n (fr_F_X10_room er12)) Fr_rfl
      obtain ⟨r15, er15, h⟩ := ok_b h
      have a_r15 : Fr wI_X10_end [] [] u r15.2 := Fr_tr (Fr_up Fs_n Fs_n Fs_n (fr_F_X10_room er15)) (Fr_sIk (List.mem_of_getElem? (i := 6) rfl) a_r12)
      exact Fr_tr (ih _ _ _ h) (Fr_sIk (List.mem_of_getElem? (i := 7) rfl) a_r15)
theorem fr_F_X10_end {f : Nat} {r : MT} {u : MT} (h : F_X10_end f u = some r) : Fr wI_X10_end [] [] u r := by
  rw [F_X10_end] at h
  exact Fr_tr (fr_B_X10_end_4 _ _ _ _ h) Fr_rfl
abbrev wI_X1_write (b : Nat) : WL := [(b + 5, 1, 0), (b + 2, 1, 0), (b + 3, 1, 0), (b + 4, 1, 0)]
theorem fr_B_X1_write_2 {f : Nat} {b : Nat} {ts : Nat} {r : MT} : ∀ (n : Nat) (x1 : Int32) (x2 : Int32) (u : MT), B_X1_write_2 f b ts n x1 x2 u = some r → Fr (wI_X1_write b) [] [] u r := by
  intro n
  induction n with
  | zero => intro x1 x2 u h; rw [B_X1_write_2] at h; cases h
  | succ n ih =>
    intro x1 x2 u h
    rw [B_X1_write_2] at h
    rcases ok_or h with h | h
    · skip
      have h := (ok_ck h).2
      cases h
      exact (Fr_cp (List.mem_of_getElem? (i := 0) rfl) Fr_rfl)
    · skip
      obtain ⟨r4, er4, h⟩ := ok_b h
      have a_r4 : Fr (wI_X1_write b) [] [] u r4.2 := Fr_tr (Fr_up Fs_n Fs_n Fs_n (fr_F_X1_cell er4)) Fr_rfl
      have h := (ok_ck h).2
      have h := (ok_ck h).2
      exact Fr_tr (ih _ _ _ h) (Fr_sI0 (List.mem_of_getElem? (i := 3) rfl) (Fr_sI0 (List.mem_of_getElem? (i := 2) rfl) (Fr_sI0 (List.mem_of_getElem? (i := 1) rfl) a_r4)))
theorem fr_F_X1_write {f : Nat} {b : Nat} {ts : Nat} {x1 : Int32} {r : MT} {u : MT} (h : F_X1_write f b ts x1 u = some r) : Fr (wI_X1_write b) [] [] u r := by
  rw [F_X1_write] at h
  exact Fr_tr (fr_B_X1_write_2 _ _ _ _ h) Fr_rfl
abbrev wI_X1_workAgain (b : Nat) : WL := [(127, 1, 0), (127, 1, 4), (127, 1, 2), (127, 1, 6), (127, 1, 5), (127, 1, 9), (127, 1, 10), (127, 1, 7), (127, 1, 8), (b + 5, 1, 0), (b + 2, 1, 0), (b + 3, 1, 0), (b + 4, 1, 0), (125, 1, 0), (116, 1, 5), (120, 1, 0), (116, 1, 6), (121, 1, 0), (117, 1, 0), (118, 1, 0), (119, 1, 0), (126, 1, 0), (122, 1, 0), (116, 1, 13), (123, 1, 0), (124, 1, 0), (127, 1, 3), (116, 1, 18), (127, 1, 1), (b + 1, 1, 0), (116, 1, 4), (116, 1, 17)]
theorem fr_B_X1_workAgain_58 {w : LT} {f : Nat} {b : Nat} {ts : Nat} {x1 : Int32} {x3 : Int32} {s0 : Int32} {s1 : Int32} {r : MT} {j28 : Int32 → Int32 → MT → Option MT} (q28 : ∀ (y0 : Int32) (y1 : Int32) (u : MT), j28 y0 y1 u = some r → Fr (wI_X1_workAgain b) [] [] u r) {u : MT} (h : B_X1_workAgain_58 w f b ts j28 x1 x3 s0 s1 u = some r) : Fr (wI_X1_workAgain b) [] [] u r := by
  rw [B_X1_workAgain_58] at h
  have h := (ok_ck h).2
  exact Fr_tr (q28 _ _ _ h) (Fr_sI0 (List.mem_of_getElem? (i := 0) rfl) Fr_rfl)
theorem fr_B_X1_workAgain_120 {w : LT} {f : Nat} {b : Nat} {ts : Nat} {r : MT} : ∀ (n : Nat) (x1 : Int32) (a3 : Nat) (x4 : Int32) (x5 : Int32) (u : MT), B_X1_workAgain_120 w f b ts n x1 a3 x4 x5 u = some r → Fr (wI_X1_workAgain b) [] [] u r := by
  intro n
  induction n with
  | zero => intro x1 a3 x4 x5 u h; rw [B_X1_workAgain_120] at h; cases h
  | succ n ih =>
    intro x1 a3 x4 x5 u h
    rw [B_X1_workAgain_120] at h
    rcases ok_or h with h | h
    · skip
      obtain ⟨r22, er22, h⟩ := ok_b h
      have a_r22 : Fr (wI_X1_workAgain b) [] [] u r22 := Fr_tr (Fr_up (Fs_c (List.mem_of_getElem? (i := 1) rfl) (Fs_c (List.mem_of_getElem? (i := 2) rfl) (Fs_c (List.mem_of_getElem? (i := 3) rfl) (Fs_c (List.mem_of_getElem? (i := 4) rfl) (Fs_c (List.mem_of_getElem? (i := 5) rfl) (Fs_c (List.mem_of_getElem? (i := 6) rfl) (Fs_c (List.mem_of_getElem? (i := 7) rfl) (Fs_c (List.mem_of_getElem? (i := 8) rfl) Fs_n)))))))) Fs_n Fs_n (fr_F_X10_end er22)) Fr_rfl
      obtain ⟨r24, er24, h⟩ := ok_b h
      have a_r24 : Fr (wI_X1_workAgain b) [] [] u r24 := Fr_tr (Fr_up (Fs_c (List.mem_of_getElem? (i := 9) rfl) (Fs_c (List.mem_of_getElem? (i := 10) rfl) (Fs_c (List.mem_of_getElem? (i := 11) rfl) (Fs_c (List.mem_of_getElem? (i := 12) rfl) Fs_n)))) Fs_n Fs_n (fr_F_X1_write er24)) a_r22
      cases h
      exact a_r24
    · skip
      have h := (ok_ck h).2
      obtain ⟨r27, er27, h⟩ := ok_b h
      have a_r27 : Fr (wI_X1_workAgain b) [] [] u r27 := Fr_tr (Fr_up (Fs_c (List.mem_of_getElem? (i := 13) rfl) (Fs_c (List.mem_of_getElem? (i := 14) rfl) (Fs_c (List.mem_of_getElem? (i := 15) rfl) (Fs_c (List.mem_of_getElem? (i := 16) rfl) (Fs_c (List.mem_of_getElem? (i := 17) rfl) (Fs_c (List.mem_of_getElem? (i := 18) rfl) (Fs_c (List.mem_of_getElem? (i := 19) rfl) (Fs_c (List.mem_of_getElem? (i := 20) rfl) (Fs_c (List.mem_of_getElem? (i := 21) rfl) (Fs_c (List.mem_of_getElem? (i := 22) rfl) (Fs_c (List.mem_of_getElem? (i := 23) rfl) (Fs_c (List.mem_of_getElem? (i := 24) rfl) (Fs_c (List.mem_of_getElem? (i := 25) rfl) (Fs_c (List.mem_of_getElem? (i := 0) rfl) (Fs_c (List.mem_of_getElem? (i := 26) rfl) (Fs_c (List.mem_of_getElem? (i := 27) rfl) Fs_n)))))))))))))))) Fs_n Fs_n (fr_F_X10_apply er27)) Fr_rfl
      exact Fr_tr (ih _ _ _ _ _ h) a_r27
theorem fr_B_X1_workAgain_115 {w : LT} {f : Nat} {b : Nat} {ts : Nat} {x1 : Int32} {a3 : Nat} {s0 : Int32} {r : MT} {u : MT} (h : B_X1_workAgain_115 w f b ts x1 a3 s0 u = some r) : Fr (wI_X1_workAgain b) [] [] u r := by
  rw [B_X1_workAgain_115] at h
  exact Fr_tr (fr_B_X1_workAgain_120 _ _ _ _ _ _ h) Fr_rfl
theorem fr_B_X1_workAgain_67 {w : LT} {f : Nat} {b : Nat} {ts : Nat} {r : MT} : ∀ (n : Nat) (x1 : Int32) (x3 : Int32) (u : MT), B_X1_workAgain_67 w f b ts n x1 x3 u = some r → Fr (wI_X1_workAgain b) [] [] u r := by
  intro n
  induction n with
  | zero => intro x1 x3 u h; rw [B_X1_workAgain_67] at h; cases h
  | succ n ih =>
    intro x1 x3 u h
    rw [B_X1_workAgain_67] at h
    rcases ok_or h with h | h
    · skip
      obtain ⟨r11, er11, h⟩ := ok_b h
      have a_r11 : Fr (wI_X1_workAgain b) [] [] u r11.2 := Fr_tr (Fr_up Fs_n Fs_n Fs_n (fr_F_X8_inForce er11)) Fr_rfl
      rcases ok_or h with h | h
      · skip
        exact Fr_tr (fr_B_X1_workAgain_115 h) a_r11
      · skip
        have h := (ok_ck h).2
        exact Fr_tr (fr_B_X1_workAgain_115 h) a_r11
    · skip
      obtain ⟨r15, er15, h⟩ := ok_b h
      have a_r15 : Fr (wI_X1_workAgain b) [] [] u r15 := Fr_tr (Fr_up (Fs_c (List.mem_of_getElem? (i := 18) rfl) (Fs_c (List.mem_of_getElem? (i := 14) rfl) (Fs_c (List.mem_of_getElem? (i := 28) rfl) (Fs_c (List.mem_of_getElem? (i := 19) rfl) (Fs_c (List.mem_of_getElem? (i := 20) rfl) (Fs_c (List.mem_of_getElem? (i := 15) rfl) (Fs_c (List.mem_of_getElem? (i := 17) rfl) (Fs_c (List.mem_of_getElem? (i := 21) rfl) (Fs_c (List.mem_of_getElem? (i := 29) rfl) Fs_n))))))))) Fs_n Fs_n (fr_F_X1_bringIn er15)) Fr_rfl
      exact Fr_tr (ih _ _ _ h) a_r15
theorem fr_B_X1_workAgain_28 {w : LT} {f : Nat} {b : Nat} {ts : Nat} {r : MT} : ∀ (n : Nat) (x1 : Int32) (x3 : Int32) (u : MT), B_X1_workAgain_28 w f b ts n x1 x3 u = some r → Fr (wI_X1_workAgain b) [] [] u r := by
  intro n
  induction n with
  | zero => intro x1 x3 u h; rw [B_X1_workAgain_28] at h; cases h
  | succ n ih =>
    intro x1 x3 u h
    rw [B_X1_workAgain_28] at h
    rcases ok_or h with h | h
    · skip
      exact Fr_tr (fr_B_X1_workAgain_67 _ _ _ _ h) Fr_rfl
    · skip
      rcases ok_or h with h | h
      · skip
        exact Fr_tr (fr_B_X1_workAgain_58 ih h) Fr_rfl
      · skip
        obtain ⟨r8, er8, h⟩ := ok_b h
        have a_r8 : Fr (wI_X1_workAgain b) [] [] u r8.2 := Fr_tr (Fr_up Fs_n Fs_n Fs_n (fr_F_X1_sum er8)) Fr_rfl
        exact Fr_tr (fr_B_X1_workAgain_58 ih h) a_r8
theorem fr_B_X1_workAgain_21 {w : LT} {f : Nat} {b : Nat} {ts : Nat} {x1 : Int32} {x2 : Int32} {s0 : Int32} {s1 : Int32} {r : MT} {u : MT} (h : B_X1_workAgain_21 w f b ts x1 x2 s0 s1 u = some r) : Fr (wI_X1_workAgain b) [] [] u r := by
  rw [B_X1_workAgain_21] at h
  obtain ⟨r4, er4, h⟩ := ok_b h
  have a_r4 : Fr (wI_X1_workAgain b) [] [] u r4 := Fr_tr (Fr_up (Fs_c (List.mem_of_getElem? (i := 0) rfl) (Fs_c (List.mem_of_getElem? (i := 30) rfl) (Fs_c (List.mem_of_getElem? (i := 31) rfl) (Fs_c (List.mem_of_getElem? (i := 27) rfl) (Fs_c (List.mem_of_getElem? (i := 14) rfl) (Fs_c (List.mem_of_getElem? (i := 16) rfl) Fs_n)))))) Fs_n Fs_n (fr_F_X10_begin er4)) Fr_rfl
  exact Fr_tr (fr_B_X1_workAgain_28 _ _ _ _ h) a_r4
theorem fr_F_X1_workAgain {w : LT} {f : Nat} {b : Nat} {ts : Nat} {x1 : Int32} {x2 : Int32} {r : MT} {u : MT} (h : F_X1_workAgain w f b ts x1 x2 u = some r) : Fr (wI_X1_workAgain b) [] [] u r := by
  rw [F_X1_workAgain] at h
  rcases ok_or h with h | h
  · skip
    exact Fr_tr (fr_B_X1_workAgain_21 h) Fr_rfl
  · skip
    obtain ⟨r2, er2, h⟩ := ok_b h
    have a_r2 : Fr (wI_X1_workAgain b) [] [] u r2.2 := Fr_tr (Fr_up Fs_n Fs_n Fs_n (fr_F_X1_sum er2)) Fr_rfl
    exact Fr_tr (fr_B_X1_workAgain_21 h) a_r2
abbrev wI_X1_workTo (b : Nat) : WL := [(b, 1, 6), (127, 1, 0), (127, 1, 4), (127, 1, 2), (127, 1, 6), (127, 1, 5), (127, 1, 9), (127, 1, 10), (127, 1, 7), (127, 1, 8), (b + 5, 1, 0), (b + 2, 1, 0), (b + 3, 1, 0), (b + 4, 1, 0), (125, 1, 0), (116, 1, 5), (120, 1, 0), (116, 1, 6), (121, 1, 0), (117, 1, 0), (118, 1, 0), (119, 1, 0), (126, 1, 0), (122, 1, 0), (116, 1, 13), (123, 1, 0), (124, 1, 0), (127, 1, 3), (116, 1, 18), (127, 1, 1), (b + 1, 1, 0), (116, 1, 4), (116, 1, 17), (b, 1, 5)]
theorem fr_B_X1_workTo_24 {w : LT} {f : Nat} {b : Nat} {ts : Nat} {r : MT} : ∀ (n : Nat) (x1 : Int32) (x3 : Int32) (u : MT), B_X1_workTo_24 w f b ts n x1 x3 u = some r → Fr (wI_X1_workTo b) [] [] u r := by
  intro n
  induction n with
  | zero => intro x1 x3 u h; rw [B_X1_workTo_24] at h; cases h
  | succ n ih =>
    intro x1 x3 u h
    rw [B_X1_workTo_24] at h
    rcases ok_or h with h | h
    · skip
      cases h
      exact (Fr_sIk (List.mem_of_getElem? (i := 0) rfl) Fr_rfl)
    · skip
      obtain ⟨r9, er9, h⟩ := ok_b h
      have a_r9 : Fr (wI_X1_workTo b) [] [] u r9 := Fr_tr (Fr_up (Fs_c (List.mem_of_getElem? (i := 1) rfl) (Fs_c (List.mem_of_getElem? (i := 2) rfl) (Fs_c (List.mem_of_getElem? (i := 3) rfl) (Fs_c (List.mem_of_getElem? (i := 4) rfl) (Fs_c (List.mem_of_getElem? (i := 5) rfl) (Fs_c (List.mem_of_getElem? (i := 6) rfl) (Fs_c (List.mem_of_getElem? (i := 7) rfl) (Fs_c (List.mem_of_getElem? (i := 8) rfl) (Fs_c (List.mem_of_getElem? (i := 9) rfl) (Fs_c (List.mem_of_getElem? (i := 10) rfl) (Fs_c (List.mem_of_getElem? (i := 11) rfl) (Fs_c (List.mem_of_getElem? (i := 12) rfl) (Fs_c (List.mem_of_getElem? (i := 13) rfl) (Fs_c (List.mem_of_getElem? (i := 14) rfl) (Fs_c (List.mem_of_getElem? (i := 15) rfl) (Fs_c (List.mem_of_getElem? (i := 16) rfl) (Fs_c (List.mem_of_getElem? (i := 17) rfl) (Fs_c (List.mem_of_getElem? (i := 18) rfl) (Fs_c (List.mem_of_getElem? (i := 19) rfl) (Fs_c (List.mem_of_getElem? (i := 20) rfl) (Fs_c (List.mem_of_getElem? (i := 21) rfl) (Fs_c (List.mem_of_getElem? (i := 22) rfl) (Fs_c (List.mem_of_getElem? (i := 23) rfl) (Fs_c (List.mem_of_getElem? (i := 24) rfl) (Fs_c (List.mem_of_getElem? (i := 25) rfl) (Fs_c (List.mem_of_getElem? (i := 26) rfl) (Fs_c (List.mem_of_getElem? (i := 27) rfl) (Fs_c (List.mem_of_getElem? (i := 28) rfl) (Fs_c (List.mem_of_getElem? (i := 29) rfl) (Fs_c (List.mem_of_getElem? (i := 30) rfl) (Fs_c (List.mem_of_getElem? (i := 31) rfl) (Fs_c (List.mem_of_getElem? (i := 32) rfl) Fs_n)))))))))))))))))))))))))))))))) Fs_n Fs_n (fr_F_X1_workAgain er9)) Fr_rfl
      exact Fr_tr (ih _ _ _ h) a_r9
theorem fr_F_X1_workTo {w : LT} {f : Nat} {b : Nat} {ts : Nat} {x1 : Int32} {x2 : Int32} {r : MT} {u : MT} (h : F_X1_workTo w f b ts x1 x2 u = some r) : Fr (wI_X1_workTo b) [] [] u r := by
  rw [F_X1_workTo] at h
  obtain ⟨r1, er1, h⟩ := ok_b h
  have a_r1 : Fr (wI_X1_workTo b) [] [] u r1 := Fr_tr (Fr_up (Fs_c (List.mem_of_getElem? (i := 0) rfl) (Fs_c (List.mem_of_getElem? (i := 33) rfl) Fs_n)) Fs_n Fs_n (fr_F_X1_turnTo er1)) Fr_rfl
  rcases ok_or h with h | h
  · skip
    obtain ⟨r4, er4, h⟩ := ok_b h
    have a_r4 : Fr (wI_X1_workTo b) [] [] u r4 := Fr_tr (Fr_up (Fs_c (List.mem_of_getElem? (i := 30) rfl) Fs_n) Fs_n Fs_n (fr_F_X1_placeReadings er4)) a_r1
    exact Fr_tr (fr_B_X1_workTo_24 _ _ _ _ h) a_r4
  · skip
    cases h
    exact a_r1
theorem fr_F_X1_own {f : Nat} {b : Nat} {ts : Nat} {x1 : Int32} {r : (Int32 × MT)} {u : MT} (h : F_X1_own f b ts x1 u = some r) : Fr [] [] [] u r.2 := by
  rw [F_X1_own] at h
  obtain ⟨r1, er1, h⟩ := ok_b h
  have a_r1 : Fr [] [] [] u r1.2 := Fr_tr (Fr_up Fs_n Fs_n Fs_n (fr_F_X1_wants er1)) Fr_rfl
  obtain ⟨r3, er3, h⟩ := ok_b h
  have a_r3 : Fr [] [] [] u r3.2 := Fr_tr (Fr_up Fs_n Fs_n Fs_n (fr_F_X1_gives er3)) a_r1
  cases h
  exact a_r3
theorem fr_F_X1_lacked {f : Nat} {b : Nat} {ts : Nat} {x1 : Int32} {r : (Int32 × MT)} {u : MT} (h : F_X1_lacked f b ts x1 u = some r) : Fr [] [] [] u r.2 := by
  rw [F_X1_lacked] at h
  obtain ⟨r1, er1, h⟩ := ok_b h
  have a_r1 : Fr [] [] [] u r1.2 := Fr_tr (Fr_up Fs_n Fs_n Fs_n (fr_F_X1_wants er1)) Fr_rfl
  obtain ⟨r3, er3, h⟩ := ok_b h
  have a_r3 : Fr [] [] [] u r3.2 := Fr_tr (Fr_up Fs_n Fs_n Fs_n (fr_F_X1_own er3)) a_r1
  have h := (ok_ck h).2
  cases h
  exact a_r3
theorem fr_F_X1_bought {f : Nat} {b : Nat} {ts : Nat} {x1 : Int32} {x2 : Int32} {r : (Int32 × MT)} {u : MT} (h : F_X1_bought f b ts x1 x2 u = some r) : Fr [] [] [] u r.2 := by
  rw [F_X1_bought] at h
  obtain ⟨r1, er1, h⟩ := ok_b h
  have a_r1 : Fr [] [] [] u r1.2 := Fr_tr (Fr_up Fs_n Fs_n Fs_n (fr_F_X1_lacked er1)) Fr_rfl
  have h := (ok_ck h).2
  have h := (ok_ck h).2
  cases h
  exact a_r1
theorem fr_B_X1_isInDoubt_28 {f : Nat} {b : Nat} {ts : Nat} {r : (Int32 × MT)} {u : MT} (h : B_X1_isInDoubt_28 f b ts u = some r) : Fr [] [] [] u r.2 := by
  rw [B_X1_isInDoubt_28] at h
  cases h
  exact Fr_rfl
theorem fr_F_X1_isInDoubt {f : Nat} {b : Nat} {ts : Nat} {x1 : Int32} {x2 : Int32} {r : (Int32 × MT)} {u : MT} (h : F_X1_isInDoubt f b ts x1 x2 u = some r) : Fr [] [] [] u r.2 := by
  rw [F_X1_isInDoubt] at h
  have h := (ok_ck h).2
  rcases ok_or h with h | h
  · skip
    exact Fr_tr (fr_B_X1_isInDoubt_28 h) Fr_rfl
  · skip
    have h := (ok_ck h).2
    rcases ok_or h with h | h
    · skip
      cases h
      exact Fr_rfl
    · skip
      exact Fr_tr (fr_B_X1_isInDoubt_28 h) Fr_rfl
theorem fr_F_X1_coins {f : Nat} {b : Nat} {ts : Nat} {x1 : Int32} {x2 : Int32} {r : (Int32 × MT)} {u : MT} (h : F_X1_coins f b ts x1 x2 u = some r) : Fr [] [] [] u r.2 := by
  rw [F_X1_coins] at h
  obtain ⟨r1, er1, h⟩ := ok_b h
  have a_r1 : Fr [] [] [] u r1.2 := Fr_tr (Fr_up Fs_n Fs_n Fs_n (fr_F_X1_cell er1)) Fr_rfl
  obtain ⟨r3, er3, h⟩ := ok_b h
  have a_r3 : Fr [] [] [] u r3.2 := Fr_tr (Fr_up Fs_n Fs_n Fs_n (fr_F_X1_gives er3)) a_r1
  obtain ⟨r5, er5, h⟩ := ok_b h
  have a_r5 : Fr [] [] [] u r5.2 := Fr_tr (Fr_up Fs_n Fs_n Fs_n (fr_F_X1_own er5)) a_r3
  have h := (ok_ck h).2
  obtain ⟨r9, er9, h⟩ := ok_b h
  have a_r9 : Fr [] [] [] u r9.2 := Fr_tr (Fr_up Fs_n Fs_n Fs_n (fr_F_X1_sum er9)) a_r5
  obtain ⟨r11, er11, h⟩ := ok_b h
  have a_r11 : Fr [] [] [] u r11.2 := Fr_tr (Fr_up Fs_n Fs_n Fs_n (fr_F_X1_sum er11)) a_r9
  obtain ⟨r13, er13, h⟩ := ok_b h
  have a_r13 : Fr [] [] [] u r13.2 := Fr_tr (Fr_up Fs_n Fs_n Fs_n (fr_F_X1_bought er13)) a_r11
  obtain ⟨r15, er15, h⟩ := ok_b h
  have a_r15 : Fr [] [] [] u r15.2 := Fr_tr (Fr_up Fs_n Fs_n Fs_n (fr_F_X1_sum er15)) a_r13
  cases h
  exact a_r15
theorem fr_F_X1_ofHouse {f : Nat} {b : Nat} {ts : Nat} {x1 : Int32} {x2 : Int32} {x3 : Int32} {r : (Int32 × MT)} {u : MT} (h : F_X1_ofHouse f b ts x1 x2 x3 u = some r) : Fr [] [] [] u r.2 := by
  rw [F_X1_ofHouse] at h
  obtain ⟨r1, er1, h⟩ := ok_b h
  have a_r1 : Fr [] [] [] u r1.2 := Fr_tr (Fr_up Fs_n Fs_n Fs_n (fr_F_X1_cell er1)) Fr_rfl
  rcases ok_or h with h | h
  · skip
    obtain ⟨r4, er4, h⟩ := ok_b h
    have a_r4 : Fr [] [] [] u r4.2 := Fr_tr (Fr_up Fs_n Fs_n Fs_n (fr_F_X1_wants er4)) a_r1
    cases h
    exact a_r4
  · skip
    rcases ok_or h with h | h
    · skip
      obtain ⟨r7, er7, h⟩ := ok_b h
      have a_r7 : Fr [] [] [] u r7.2 := Fr_tr (Fr_up Fs_n Fs_n Fs_n (fr_F_X1_gives er7)) a_r1
      cases h
      exact a_r7
    · skip
      rcases ok_or h with h | h
      · skip
        obtain ⟨r10, er10, h⟩ := ok_b h
        have a_r10 : Fr [] [] [] u r10.2 := Fr_tr (Fr_up Fs_n Fs_n Fs_n (fr_F_X1_own er10)) a_r1
        cases h
        exact a_r10
      · skip
        rcases ok_or h with h | h
        · skip
          have h := (ok_ck h).2
          cases h
          exact a_r1
        · skip
          rcases ok_or h with h | h
          · skip
            have h := (ok_ck h).2
            cases h
            exact a_r1
          · skip
            rcases ok_or h with h | h
            · skip
              obtain ⟨r17, er17, h⟩ := ok_b h
              have a_r17 : Fr [] [] [] u r17.2 := Fr_tr (Fr_up Fs_n Fs_n Fs_n (fr_F_X1_bought er17)) a_r1
              cases h
              exact a_r17
            · skip
              rcases ok_or h with h | h
              · skip
                obtain ⟨r20, er20, h⟩ := ok_b h
                have a_r20 : Fr [] [] [] u r20.2 := Fr_tr (Fr_up Fs_n Fs_n Fs_n (fr_F_X1_lacked er20)) a_r1
                obtain ⟨r22, er22, h⟩ := ok_b h
                have a_r22 : Fr [] [] [] u r22.2 := Fr_tr (Fr_up Fs_n Fs_n Fs_n (fr_F_X1_bought er22)) a_r20
                cases h
                exact a_r22
              · skip
                rcases ok_or h with h | h
                · skip
                  obtain ⟨r25, er25, h⟩ := ok_b h
                  have a_r25 : Fr [] [] [] u r25.2 := Fr_tr (Fr_up Fs_n Fs_n Fs_n (fr_F_X1_isInDoubt er25)) a_r1
                  rcases ok_or h with h | h
                  · skip
                    cases h
                    exact a_r25
                  · skip
                    cases h
                    exact a_r25
                · skip
                  obtain ⟨r28, er28, h⟩ := ok_b h
                  have a_r28 : Fr [] [] [] u r28.2 := Fr_tr (Fr_up Fs_n Fs_n Fs_n (fr_F_X1_coins er28)) a_r1
                  cases h
                  exact a_r28
theorem fr_F_X1_byRules {f : Nat} {b : Nat} {ts : Nat} {x1 : Int32} {x2 : Int32} {r : (Int32 × MT)} {u : MT} (h : F_X1_byRules f b ts x1 x2 u = some r) : Fr [] [] [] u r.2 := by
  rw [F_X1_byRules] at h
  obtain ⟨r1, er1, h⟩ := ok_b h
  have a_r1 : Fr [] [] [] u r1.2 := Fr_tr (Fr_up Fs_n Fs_n Fs_n (fr_F_X1_cell er1)) Fr_rfl
  have h := (ok_ck h).2
  cases h
  exact a_r1
theorem fr_B_X1_coinsUpTo_57 {f : Nat} {b : Nat} {ts : Nat} {x1 : Int32} {x2 : Int32} {x3 : Int32} {x4 : Int32} {r : (Int32 × MT)} {j5 : Int32 → Int32 → Int32 → Int32 → MT → Option (Int32 × MT)} (q5 : ∀ (y0 : Int32) (y1 : Int32) (y2 : Int32) (y3 : Int32) (u : MT), j5 y0 y1 y2 y3 u = some r → Fr [] [] [] u r.2) {u : MT} (h : B_X1_coinsUpTo_57 f b ts j5 x1 x2 x3 x4 u = some r) : Fr [] [] [] u r.2 := by
  rw [B_X1_coinsUpTo_57] at h
  exact Fr_tr (q5 _ _ _ _ _ h) Fr_rfl
theorem fr_B_X1_coinsUpTo_55 {f : Nat} {b : Nat} {ts : Nat} {x1 : Int32} {x2 : Int32} {x4 : Int32} {s0 : Int32} {s1 : Int32} {r : (Int32 × MT)} {j5 : Int32 → Int32 → Int32 → Int32 → MT → Option (Int32 × MT)} (q5 : ∀ (y0 : Int32) (y1 : Int32) (y2 : Int32) (y3 : Int32) (u : MT), j5 y0 y1 y2 y3 u = some r → Fr [] [] [] u r.2) {u : MT} (h : B_X1_coinsUpTo_55 f b ts j5 x1 x2 x4 s0 s1 u = some r) : Fr [] [] [] u r.2 := by
  rw [B_X1_coinsUpTo_55] at h
  exact Fr_tr (fr_B_X1_coinsUpTo_57 q5 h) Fr_rfl
theorem fr_B_X1_coinsUpTo_5 {f : Nat} {b : Nat} {ts : Nat} {r : (Int32 × MT)} : ∀ (n : Nat) (x1 : Int32) (x2 : Int32) (x3 : Int32) (x4 : Int32) (u : MT), B_X1_coinsUpTo_5 f b ts n x1 x2 x3 x4 u = some r → Fr [] [] [] u r.2 := by
  intro n
  induction n with
  | zero => intro x1 x2 x3 x4 u h; rw [B_X1_coinsUpTo_5] at h; cases h
  | succ n ih =>
    intro x1 x2 x3 x4 u h
    rw [B_X1_coinsUpTo_5] at h
    rcases ok_or h with h | h
    · skip
      cases h
      exact Fr_rfl
    · skip
      rcases ok_or h with h | h
      · skip
        obtain ⟨r3, er3, h⟩ := ok_b h
        have a_r3 : Fr [] [] [] u r3.2 := Fr_tr (Fr_up Fs_n Fs_n Fs_n (fr_F_X1_sum er3)) Fr_rfl
        exact Fr_tr (fr_B_X1_coinsUpTo_57 ih h) a_r3
      · skip
        rcases ok_or h with h | h
        · skip
          obtain ⟨r7, er7, h⟩ := ok_b h
          have a_r7 : Fr [] [] [] u r7.2 := Fr_tr (Fr_up Fs_n Fs_n Fs_n (fr_F_X1_sum er7)) Fr_rfl
          exact Fr_tr (fr_B_X1_coinsUpTo_55 ih h) a_r7
        · skip
          obtain ⟨r9, er9, h⟩ := ok_b h
          have a_r9 : Fr [] [] [] u r9.2 := Fr_tr (Fr_up Fs_n Fs_n Fs_n (fr_F_X1_coins er9)) Fr_rfl
          exact Fr_tr (fr_B_X1_coinsUpTo_55 ih h) a_r9
theorem fr_F_X1_coinsUpTo {f : Nat} {b : Nat} {ts : Nat} {x1 : Int32} {x2 : Int32} {r : (Int32 × MT)} {u : MT} (h : F_X1_coinsUpTo f b ts x1 x2 u = some r) : Fr [] [] [] u r.2 := by
  rw [F_X1_coinsUpTo] at h
  exact Fr_tr (fr_B_X1_coinsUpTo_5 _ _ _ _ _ _ h) Fr_rfl
theorem fr_F_X2_has {f : Nat} {x1 : Int32} {r : (Int32 × MT)} {u : MT} (h : F_X2_has f x1 u = some r) : Fr [] [] [] u r.2 := by
  rw [F_X2_has] at h
  obtain ⟨r1, er1, h⟩ := ok_b h
  have a_r1 : Fr [] [] [] u r1.2 := Fr_tr (Fr_up Fs_n Fs_n Fs_n (fr_F_X11_isIn er1)) Fr_rfl
  have h := (ok_ck h).2
  cases h
  exact a_r1
abbrev wI_X2_add : WL := [(102, 1, 0), (103, 1, 0), (101, 1, 3)]
theorem fr_F_X2_add {f : Nat} {x1 : Int32} {x2 : Int32} {r : (Int32 × MT)} {u : MT} (h : F_X2_add f x1 x2 u = some r) : Fr wI_X2_add [] [] u r.2 := by
  rw [F_X2_add] at h
  have h := (ok_ck h).2
  have h := (ok_ck h).2
  cases h
  exact (Fr_sIk (List.mem_of_getElem? (i := 2) rfl) (Fr_sI0 (List.mem_of_getElem? (i := 1) rfl) (Fr_sI0 (List.mem_of_getElem? (i := 0) rfl) Fr_rfl)))
theorem fr_B_X6_sort_35 {f : Nat} {x2 : Int32} {r : (Int32 × MT)} {u : MT} (h : B_X6_sort_35 f x2 u = some r) : Fr [] [] [] u r.2 := by
  rw [B_X6_sort_35] at h
  rcases ok_or h with h | h
  · skip
    cases h
    exact Fr_rfl
  · skip
    rcases ok_or h with h | h
    · skip
      cases h
      exact Fr_rfl
    · skip
      cases h
      exact Fr_rfl
theorem fr_F_X6_sort {f : Nat} {x1 : Int32} {r : (Int32 × MT)} {u : MT} (h : F_X6_sort f x1 u = some r) : Fr [] [] [] u r.2 := by
  rw [F_X6_sort] at h
  have h := (ok_ck h).2
  rcases ok_or h with h | h
  · skip
    cases h
    exact Fr_rfl
  · skip
    rcases ok_or h with h | h
    · skip
      cases h
      exact Fr_rfl
    · skip
      rcases ok_or h with h | h
      · skip
        exact Fr_tr (fr_B_X6_sort_35 h) Fr_rfl
      · skip
        rcases ok_or h with h | h
        · skip
          exact Fr_tr (fr_B_X6_sort_35 h) Fr_rfl
        · skip
          cases h
          exact Fr_rfl
theorem fr_B_X6_tokenBegins_32 {f : Nat} {r : (Int32 × MT)} {u : MT} (h : B_X6_tokenBegins_32 f u = some r) : Fr [] [] [] u r.2 := by
  rw [B_X6_tokenBegins_32] at h
  cases h
  exact Fr_rfl
theorem fr_F_X6_tokenBegins {f : Nat} {x1 : Int32} {r : (Int32 × MT)} {u : MT} (h : F_X6_tokenBegins f x1 u = some r) : Fr [] [] [] u r.2 := by
  rw [F_X6_tokenBegins] at h
  obtain ⟨r1, er1, h⟩ := ok_b h
  have a_r1 : Fr [] [] [] u r1.2 := Fr_tr (Fr_up Fs_n Fs_n Fs_n (fr_F_X6_sort er1)) Fr_rfl
  rcases ok_or h with h | h
  · skip
    cases h
    exact a_r1
  · skip
    rcases ok_or h with h | h
    · skip
      exact Fr_tr (fr_B_X6_tokenBegins_32 h) a_r1
    · skip
      rcases ok_or h with h | h
      · skip
        exact Fr_tr (fr_B_X6_tokenBegins_32 h) a_r1
      · skip
        obtain ⟨r6, er6, h⟩ := ok_b h
        have a_r6 : Fr [] [] [] u r6.2 := Fr_tr (Fr_up Fs_n Fs_n Fs_n (fr_F_X6_sort er6)) a_r1
        rcases ok_or h with h | h
        · skip
          cases h
          exact a_r6
        · skip
          exact Fr_tr (fr_B_X6_tokenBegins_32 h) a_r6
theorem fr_B_X6_tokenEnd_10 {f : Nat} {r : (Int32 × MT)} : ∀ (n : Nat) (x2 : Int32) (x3 : Int32) (u : MT), B_X6_tokenEnd_10 f n x2 x3 u = some r → Fr [] [] [] u r.2 := by
  intro n
  induction n with
  | zero => intro x2 x3 u h; rw [B_X6_tokenEnd_10] at h; cases h
  | succ n ih =>
    intro x2 x3 u h
    rw [B_X6_tokenEnd_10] at h
    rcases ok_or h with h | h
    · skip
      cases h
      exact Fr_rfl
    · skip
      rcases ok_or h with h | h
      · skip
        cases h
        exact Fr_rfl
      · skip
        obtain ⟨r6, er6, h⟩ := ok_b h
        have a_r6 : Fr [] [] [] u r6.2 := Fr_tr (Fr_up Fs_n Fs_n Fs_n (fr_F_X6_sort er6)) Fr_rfl
        rcases ok_or h with h | h
        · skip
          exact Fr_tr (ih _ _ _ h) a_r6
        · skip
          cases h
          exact a_r6
theorem fr_F_X6_tokenEnd {f : Nat} {x1 : Int32} {r : (Int32 × MT)} {u : MT} (h : F_X6_tokenEnd f x1 u = some r) : Fr [] [] [] u r.2 := by
  rw [F_X6_tokenEnd] at h
  obtain ⟨r1, er1, h⟩ := ok_b h
  have a_r1 : Fr [] [] [] u r1.2 := Fr_tr (Fr_up Fs_n Fs_n Fs_n (fr_F_X6_sort er1)) Fr_rfl
  exact Fr_tr (fr_B_X6_tokenEnd_10 _ _ _ _ h) a_r1
theorem fr_B_X9_isSpelled_18 {f : Nat} {a0 : Nat} {r : (Int32 × MT)} : ∀ (n : Nat) (x2 : Int32) (x4 : Int32) (u : MT), B_X9_isSpelled_18 f a0 n x2 x4 u = some r → Fr [] [] [] u r.2 := by
  intro n
  induction n with
  | zero => intro x2 x4 u h; rw [B_X9_isSpelled_18] at h; cases h
  | succ n ih =>
    intro x2 x4 u h
    rw [B_X9_isSpelled_18] at h
    rcases ok_or h with h | h
    · skip
      cases h
      exact Fr_rfl
    · skip
      have h := (ok_ck h).2
      have h := (ok_ck h).2
      rcases ok_or h with h | h
      · skip
        exact Fr_tr (ih _ _ _ h) Fr_rfl
      · skip
        cases h
        exact Fr_rfl
theorem fr_F_X9_isSpelled {f : Nat} {a0 : Nat} {x2 : Int32} {x3 : Int32} {r : (Int32 × MT)} {u : MT} (h : F_X9_isSpelled f a0 x2 x3 u = some r) : Fr [] [] [] u r.2 := by
  rw [F_X9_isSpelled] at h
  rcases ok_or h with h | h
  · skip
    exact Fr_tr (fr_B_X9_isSpelled_18 _ _ _ _ h) Fr_rfl
  · skip
    cases h
    exact Fr_rfl
theorem fr_B_X9_spelled_2 {f : Nat} {r : (Nat × MT)} : ∀ (n : Nat) (x1 : Int32) (x2 : Int32) (x3 : Int32) (u : MT), B_X9_spelled_2 f n x1 x2 x3 u = some r → Fr [] [] [] u r.2 := by
  intro n
  induction n with
  | zero => intro x1 x2 x3 u h; rw [B_X9_spelled_2] at h; cases h
  | succ n ih =>
    intro x1 x2 x3 u h
    rw [B_X9_spelled_2] at h
    rcases ok_or h with h | h
    · skip
      cases h
      exact Fr_rfl
    · skip
      have h := (ok_ck h).2
      obtain ⟨r3, er3, h⟩ := ok_b h
      have a_r3 : Fr [] [] [] u r3.2 := Fr_tr (Fr_up Fs_n Fs_n Fs_n (fr_F_X9_isSpelled er3)) Fr_rfl
      rcases ok_or h with h | h
      · skip
        exact Fr_tr (ih _ _ _ _ h) a_r3
      · skip
        cases h
        exact a_r3
theorem fr_F_X9_spelled {f : Nat} {x1 : Int32} {x2 : Int32} {r : (Nat × MT)} {u : MT} (h : F_X9_spelled f x1 x2 u = some r) : Fr [] [] [] u r.2 := by
  rw [F_X9_spelled] at h
  exact Fr_tr (fr_B_X9_spelled_2 _ _ _ _ _ h) Fr_rfl
theorem fr_B_X6_numberAt_5 {f : Nat} {r : (Int32 × MT)} : ∀ (n : Nat) (x2 : Int32) (x3 : Int32) (x4 : Int32) (u : MT), B_X6_numberAt_5 f n x2 x3 x4 u = some r → Fr [] [] [] u r.2 := by
  intro n
  induction n with
  | zero => intro x2 x3 x4 u h; rw [B_X6_numberAt_5] at h; cases h
  | succ n ih =>
    intro x2 x3 x4 u h
    rw [B_X6_numberAt_5] at h
    rcases ok_or h with h | h
    · skip
      cases h
      exact Fr_rfl
    · skip
      have h := (ok_ck h).2
      exact Fr_tr (ih _ _ _ _ h) Fr_rfl
theorem fr_F_X6_numberAt {f : Nat} {x1 : Int32} {x2 : Int32} {r : (Int32 × MT)} {u : MT} (h : F_X6_numberAt f x1 x2 u = some r) : Fr [] [] [] u r.2 := by
  rw [F_X6_numberAt] at h
  exact Fr_tr (fr_B_X6_numberAt_5 _ _ _ _ _ h) Fr_rfl
abbrev wI_X3_scanToken : WL := [(112, 1, 4), (114, 1, 0), (115, 1, 0)]
abbrev wK_X3_scanToken : WL := [(113, 1, 0)]
theorem fr_B_X3_scanToken_87 {f : Nat} {r : MT} {u : MT} (h : B_X3_scanToken_87 f u = some r) : Fr wI_X3_scanToken [] wK_X3_scanToken u r := by
  rw [B_X3_scanToken_87] at h
  cases h
  exact (Fr_sIk (List.mem_of_getElem? (i := 0) rfl) Fr_rfl)
theorem fr_F_X3_scanToken {f : Nat} {x2 : Int32} {x3 : Int32} {r : MT} {u : MT} (h : F_X3_scanToken f x2 x3 u = some r) : Fr wI_X3_scanToken [] wK_X3_scanToken u r := by
  rw [F_X3_scanToken] at h
  have h := (ok_ck h).2
  obtain ⟨r3, er3, h⟩ := ok_b h
  have a_r3 : Fr wI_X3_scanToken [] wK_X3_scanToken u r3.2 := Fr_tr (Fr_up Fs_n Fs_n Fs_n (fr_F_X6_sort er3)) (Fr_sI0 (List.mem_of_getElem? (i := 1) rfl) Fr_rfl)
  rcases ok_or h with h | h
  · skip
    rcases ok_or h with h | h
    · skip
      have h := (ok_ck h).2
      obtain ⟨r9, er9, h⟩ := ok_b h
      have a_r9 : Fr wI_X3_scanToken [] wK_X3_scanToken u r9.2 := Fr_tr (Fr_up Fs_n Fs_n Fs_n (fr_F_X6_numberAt er9)) (Fr_sK0 (List.mem_of_getElem? (i := 0) rfl) a_r3)
      have h := (ok_ck h).2
      exact Fr_tr (fr_B_X3_scanToken_87 h) (Fr_sI0 (List.mem_of_getElem? (i := 2) rfl) a_r9)
    · skip
      have h := (ok_ck h).2
      exact Fr_tr (fr_B_X3_scanToken_87 h) (Fr_sK0 (List.mem_of_getElem? (i := 0) rfl) a_r3)
  · skip
    obtain ⟨r15, er15, h⟩ := ok_b h
    have a_r15 : Fr wI_X3_scanToken [] wK_X3_scanToken u r15.2 := Fr_tr (Fr_up Fs_n Fs_n Fs_n (fr_F_X9_spelled er15)) a_r3
    have h := (ok_ck h).2
    have h := (ok_ck h).2
    exact Fr_tr (fr_B_X3_scanToken_87 h) (Fr_sK0 (List.mem_of_getElem? (i := 0) rfl) a_r15)
abbrev wI_X3_scan : WL := [(114, 1, 0), (112, 1, 4), (115, 1, 0)]
abbrev wK_X3_scan : WL := [(113, 1, 0)]
theorem fr_B_X3_scan_34 {f : Nat} {x2 : Int32} {r : MT} {j7 : Int32 → MT → Option MT} (q7 : ∀ (y0 : Int32) (u : MT), j7 y0 u = some r → Fr wI_X3_scan [] wK_X3_scan u r) {u : MT} (h : B_X3_scan_34 f j7 x2 u = some r) : Fr wI_X3_scan [] wK_X3_scan u r := by
  rw [B_X3_scan_34] at h
  exact Fr_tr (q7 _ _ h) Fr_rfl
theorem fr_B_X3_scan_7 {f : Nat} {r : MT} : ∀ (n : Nat) (x2 : Int32) (u : MT), B_X3_scan_7 f n x2 u = some r → Fr wI_X3_scan [] wK_X3_scan u r := by
  intro n
  induction n with
  | zero => intro x2 u h; rw [B_X3_scan_7] at h; cases h
  | succ n ih =>
    intro x2 u h
    rw [B_X3_scan_7] at h
    rcases ok_or h with h | h
    · skip
      have h := (ok_ck h).2
      have h := (ok_ck h).2
      cases h
      exact (Fr_sI0 (List.mem_of_getElem? (i := 0) rfl) (Fr_sK0 (List.mem_of_getElem? (i := 0) rfl) Fr_rfl))
    · skip
      obtain ⟨r7, er7, h⟩ := ok_b h
      have a_r7 : Fr wI_X3_scan [] wK_X3_scan u r7.2 := Fr_tr (Fr_up Fs_n Fs_n Fs_n (fr_F_X6_tokenBegins er7)) Fr_rfl
      rcases ok_or h with h | h
      · skip
        exact Fr_tr (fr_B_X3_scan_34 ih h) a_r7
      · skip
        obtain ⟨r10, er10, h⟩ := ok_b h
        have a_r10 : Fr wI_X3_scan [] wK_X3_scan u r10.2 := Fr_tr (Fr_up Fs_n Fs_n Fs_n (fr_F_X6_tokenEnd er10)) a_r7
        obtain ⟨r12, er12, h⟩ := ok_b h
        have a_r12 : Fr wI_X3_scan [] wK_X3_scan u r12 := Fr_tr (Fr_up (Fs_c (List.mem_of_getElem? (i := 1) rfl) (Fs_c (List.mem_of_getElem? (i := 0) rfl) (Fs_c (List.mem_of_getElem? (i := 2) rfl) Fs_n))) Fs_n (Fs_c (List.mem_of_getElem? (i := 0) rfl) Fs_n) (fr_F_X3_scanToken er12)) a_r10
        exact Fr_tr (fr_B_X3_scan_34 ih h) a_r12
theorem fr_F_X3_scan {f : Nat} {r : MT} {u : MT} (h : F_X3_scan f u = some r) : Fr wI_X3_scan [] wK_X3_scan u r := by
  rw [F_X3_scan] at h
  exact Fr_tr (fr_B_X3_scan_7 _ _ _ h) (Fr_sIk (List.mem_of_getElem? (i := 1) rfl) Fr_rfl)
abbrev wI_X3_refuse : WL := [(112, 1, 6)]
theorem fr_F_X3_refuse {f : Nat} {tx : Nat} {x1 : Int32} {r : (Int32 × MT)} {u : MT} (h : F_X3_refuse f tx x1 u = some r) : Fr wI_X3_refuse [] [] u r.2 := by
  rw [F_X3_refuse] at h
  have h := (ok_ck h).2
  cases h
  exact (Fr_sIk (List.mem_of_getElem? (i := 0) rfl) Fr_rfl)
abbrev wI_X3_step : WL := [(112, 1, 5)]
theorem fr_F_X3_step {f : Nat} {tx : Nat} {r : MT} {u : MT} (h : F_X3_step f tx u = some r) : Fr wI_X3_step [] [] u r := by
  rw [F_X3_step] at h
  rcases ok_or h with h | h
  · skip
    cases h
    exact Fr_rfl
  · skip
    cases h
    exact (Fr_sIk (List.mem_of_getElem? (i := 0) rfl) Fr_rfl)
abbrev wI_X3_take : WL := [(112, 1, 5), (112, 1, 6)]
theorem fr_F_X3_take {f : Nat} {tx : Nat} {a1 : Nat} {r : (Int32 × MT)} {u : MT} (h : F_X3_take f tx a1 u = some r) : Fr wI_X3_take [] [] u r.2 := by
  rw [F_X3_take] at h
  have h := (ok_ck h).2
  have h := (ok_ck h).2
  have h := (ok_ck h).2
  rcases ok_or h with h | h
  · skip
    obtain ⟨r5, er5, h⟩ := ok_b h
    have a_r5 : Fr wI_X3_take [] [] u r5 := Fr_tr (Fr_up (Fs_c (List.mem_of_getElem? (i := 0) rfl) Fs_n) Fs_n Fs_n (fr_F_X3_step er5)) Fr_rfl
    cases h
    exact a_r5
  · skip
    obtain ⟨r7, er7, h⟩ := ok_b h
    have a_r7 : Fr wI_X3_take [] [] u r7.2 := Fr_tr (Fr_up (Fs_c (List.mem_of_getElem? (i := 1) rfl) Fs_n) Fs_n Fs_n (fr_F_X3_refuse er7)) Fr_rfl
    have h := (ok_ck h).2
    cases h
    exact a_r7
abbrev wI_X3_takeOneOf : WL := [(112, 1, 5), (112, 1, 6)]
theorem fr_B_X3_takeOneOf_37 {f : Nat} {tx : Nat} {a4 : Nat} {r : (Nat × MT)} {u : MT} (h : B_X3_takeOneOf_37 f tx a4 u = some r) : Fr wI_X3_takeOneOf [] [] u r.2 := by
  rw [B_X3_takeOneOf_37] at h
  obtain ⟨r11, er11, h⟩ := ok_b h
  have a_r11 : Fr wI_X3_takeOneOf [] [] u r11 := Fr_tr (Fr_up (Fs_c (List.mem_of_getElem? (i := 0) rfl) Fs_n) Fs_n Fs_n (fr_F_X3_step er11)) Fr_rfl
  cases h
  exact a_r11
theorem fr_F_X3_takeOneOf {f : Nat} {tx : Nat} {a1 : Nat} {a2 : Nat} {a3 : Nat} {r : (Nat × MT)} {u : MT} (h : F_X3_takeOneOf f tx a1 a2 a3 u = some r) : Fr wI_X3_takeOneOf [] [] u r.2 := by
  rw [F_X3_takeOneOf] at h
  have h := (ok_ck h).2
  have h := (ok_ck h).2
  have h := (ok_ck h).2
  rcases ok_or h with h | h
  · skip
    exact Fr_tr (fr_B_X3_takeOneOf_37 h) Fr_rfl
  · skip
    have h := (ok_ck h).2
    rcases ok_or h with h | h
    · skip
      exact Fr_tr (fr_B_X3_takeOneOf_37 h) Fr_rfl
    · skip
      have h := (ok_ck h).2
      rcases ok_or h with h | h
      · skip
        exact Fr_tr (fr_B_X3_takeOneOf_37 h) Fr_rfl
      · skip
        obtain ⟨r9, er9, h⟩ := ok_b h
        have a_r9 : Fr wI_X3_takeOneOf [] [] u r9.2 := Fr_tr (Fr_up (Fs_c (List.mem_of_getElem? (i := 1) rfl) Fs_n) Fs_n Fs_n (fr_F_X3_refuse er9)) Fr_rfl
        cases h
        exact a_r9
abbrev wI_X3_takeRest : WL := [(112, 1, 5), (112, 1, 6)]
abbrev wK_X3_takeRest (tx : Nat) : WL := [(tx, 1, 3)]
theorem fr_F_X3_takeRest {f : Nat} {tx : Nat} {r : (Int32 × MT)} {u : MT} (h : F_X3_takeRest f tx u = some r) : Fr wI_X3_takeRest [] (wK_X3_takeRest tx) u r.2 := by
  rw [F_X3_takeRest] at h
  obtain ⟨r1, er1, h⟩ := ok_b h
  have a_r1 : Fr wI_X3_takeRest [] (wK_X3_takeRest tx) u r1.2 := Fr_tr (Fr_up (Fs_c (List.mem_of_getElem? (i := 0) rfl) (Fs_c (List.mem_of_getElem? (i := 1) rfl) Fs_n)) Fs_n Fs_n (fr_F_X3_take er1)) Fr_rfl
  rcases ok_or h with h | h
  · skip
    cases h
    exact a_r1
  · skip
    obtain ⟨r4, er4, h⟩ := ok_b h
    have a_r4 : Fr wI_X3_takeRest [] (wK_X3_takeRest tx) u r4.2 := Fr_tr (Fr_up (Fs_c (List.mem_of_getElem? (i := 0) rfl) (Fs_c (List.mem_of_getElem? (i := 1) rfl) Fs_n)) Fs_n Fs_n (fr_F_X3_takeOneOf er4)) a_r1
    rcases ok_or h with h | h
    · skip
      cases h
      exact (Fr_sKk (List.mem_of_getElem? (i := 0) rfl) a_r4)
    · skip
      obtain ⟨r8, er8, h⟩ := ok_b h
      have a_r8 : Fr wI_X3_takeRest [] (wK_X3_takeRest tx) u r8.2 := Fr_tr (Fr_up (Fs_c (List.mem_of_getElem? (i := 0) rfl) (Fs_c (List.mem_of_getElem? (i := 1) rfl) Fs_n)) Fs_n Fs_n (fr_F_X3_take er8)) (Fr_sKk (List.mem_of_getElem? (i := 0) rfl) a_r4)
      rcases ok_or h with h | h
      · skip
        cases h
        exact a_r8
      · skip
        obtain ⟨r11, er11, h⟩ := ok_b h
        have a_r11 : Fr wI_X3_takeRest [] (wK_X3_takeRest tx) u r11.2 := Fr_tr (Fr_up (Fs_c (List.mem_of_getElem? (i := 0) rfl) (Fs_c (List.mem_of_getElem? (i := 1) rfl) Fs_n)) Fs_n Fs_n (fr_F_X3_take er11)) a_r8
        rcases ok_or h with h | h
        · skip
          cases h
          exact a_r11
        · skip
          cases h
          exact a_r11
theorem fr_F_X9_price {f : Nat} {a0 : Nat} {r : (Int32 × MT)} {u : MT} (h : F_X9_price f a0 u = some r) : Fr [] [] [] u r.2 := by
  rw [F_X9_price] at h
  rcases ok_or h with h | h
  · skip
    cases h
    exact Fr_rfl
  · skip
    rcases ok_or h with h | h
    · skip
      cases h
      exact Fr_rfl
    · skip
      rcases ok_or h with h | h
      · skip
        cases h
        exact Fr_rfl
      · skip
        rcases ok_or h with h | h
        · skip
          cases h
          exact Fr_rfl
        · skip
          cases h
          exact Fr_rfl
abbrev wI_X3_takeNumber (a1 : Nat) : WL := [(112, 1, 6), (a1, 1, 10), (112, 1, 5)]
theorem fr_F_X3_takeNumber {f : Nat} {tx : Nat} {a1 : Nat} {x2 : Int32} {x3 : Int32} {r : (Int32 × MT)} {u : MT} (h : F_X3_takeNumber f tx a1 x2 x3 u = some r) : Fr (wI_X3_takeNumber a1) [] [] u r.2 := by
  rw [F_X3_takeNumber] at h
  have h := (ok_ck h).2
  have h := (ok_ck h).2
  rcases ok_or h with h | h
  · skip
    obtain ⟨r4, er4, h⟩ := ok_b h
    have a_r4 : Fr (wI_X3_takeNumber a1) [] [] u r4.2 := Fr_tr (Fr_up Fs_n Fs_n Fs_n (fr_F_X11_isIn er4)) Fr_rfl
    rcases ok_or h with h | h
    · skip
      obtain ⟨r7, er7, h⟩ := ok_b h
      have a_r7 : Fr (wI_X3_takeNumber a1) [] [] u r7.2 := Fr_tr (Fr_up (Fs_c (List.mem_of_getElem? (i := 0) rfl) Fs_n) Fs_n Fs_n (fr_F_X3_refuse er7)) a_r4
      have h := (ok_ck h).2
      cases h
      exact a_r7
    · skip
      have h := (ok_ck h).2
      obtain ⟨r12, er12, h⟩ := ok_b h
      have a_r12 : Fr (wI_X3_takeNumber a1) [] [] u r12 := Fr_tr (Fr_up (Fs_c (List.mem_of_getElem? (i := 2) rfl) Fs_n) Fs_n Fs_n (fr_F_X3_step er12)) (Fr_sIk (List.mem_of_getElem? (i := 1) rfl) a_r4)
      cases h
      exact a_r12
  · skip
    obtain ⟨r14, er14, h⟩ := ok_b h
    have a_r14 : Fr (wI_X3_takeNumber a1) [] [] u r14.2 := Fr_tr (Fr_up (Fs_c (List.mem_of_getElem? (i := 0) rfl) Fs_n) Fs_n Fs_n (fr_F_X3_refuse er14)) Fr_rfl
    have h := (ok_ck h).2
    cases h
    exact a_r14
abbrev wI_X3_takePrice (a1 : Nat) : WL := [(a1, 1, 9), (112, 1, 6), (112, 1, 5), (a1, 1, 10)]
theorem fr_F_X3_takePrice {f : Nat} {tx : Nat} {a1 : Nat} {r : (Int32 × MT)} {u : MT} (h : F_X3_takePrice f tx a1 u = some r) : Fr (wI_X3_takePrice a1) [] [] u r.2 := by
  rw [F_X3_takePrice] at h
  have h := (ok_ck h).2
  have h := (ok_ck h).2
  obtain ⟨r3, er3, h⟩ := ok_b h
  have a_r3 : Fr (wI_X3_takePrice a1) [] [] u r3.2 := Fr_tr (Fr_up Fs_n Fs_n Fs_n (fr_F_X9_price er3)) Fr_rfl
  rcases ok_or h with h | h
  · skip
    obtain ⟨r7, er7, h⟩ := ok_b h
    have a_r7 : Fr (wI_X3_takePrice a1) [] [] u r7.2 := Fr_tr (Fr_up (Fs_c (List.mem_of_getElem? (i := 1) rfl) Fs_n) Fs_n Fs_n (fr_F_X3_refuse er7)) (Fr_sIk (List.mem_of_getElem? (i := 0) rfl) a_r3)
    have h := (ok_ck h).2
    cases h
    exact a_r7
  · skip
    obtain ⟨r10, er10, h⟩ := ok_b h
    have a_r10 : Fr (wI_X3_takePrice a1) [] [] u r10 := Fr_tr (Fr_up (Fs_c (List.mem_of_getElem? (i := 2) rfl) Fs_n) Fs_n Fs_n (fr_F_X3_step er10)) (Fr_sIk (List.mem_of_getElem? (i := 0) rfl) a_r3)
    obtain ⟨r12, er12, h⟩ := ok_b h
    have a_r12 : Fr (wI_X3_takePrice a1) [] [] u r12.2 := Fr_tr (Fr_up (Fs_c (List.mem_of_getElem? (i := 1) rfl) (Fs_c (List.mem_of_getElem? (i := 3) rfl) (Fs_c (List.mem_of_getElem? (i := 2) rfl) Fs_n))) Fs_n Fs_n (fr_F_X3_takeNumber er12)) a_r10
    have h := (ok_ck h).2
    cases h
    exact a_r12
abbrev wI_X3_takeWhom (a1 : Nat) : WL := [(112, 1, 5), (112, 1, 6), (a1, 1, 10)]
abbrev wK_X3_takeWhom (a1 : Nat) : WL := [(a1, 1, 7)]
theorem fr_B_X3_takeWhom_70 {f : Nat} {tx : Nat} {a1 : Nat} {r : (Int32 × MT)} {u : MT} (h : B_X3_takeWhom_70 f tx u = some r) : Fr (wI_X3_takeWhom a1) [] (wK_X3_takeWhom a1) u r.2 := by
  rw [B_X3_takeWhom_70] at h
  cases h
  exact Fr_rfl
theorem fr_F_X3_takeWhom {f : Nat} {tx : Nat} {a1 : Nat} {r : (Int32 × MT)} {u : MT} (h : F_X3_takeWhom f tx a1 u = some r) : Fr (wI_X3_takeWhom a1) [] (wK_X3_takeWhom a1) u r.2 := by
  rw [F_X3_takeWhom] at h
  obtain ⟨r1, er1, h⟩ := ok_b h
  have a_r1 : Fr (wI_X3_takeWhom a1) [] (wK_X3_takeWhom a1) u r1.2 := Fr_tr (Fr_up (Fs_c (List.mem_of_getElem? (i := 0) rfl) (Fs_c (List.mem_of_getElem? (i := 1) rfl) Fs_n)) Fs_n Fs_n (fr_F_X3_takeOneOf er1)) Fr_rfl
  rcases ok_or h with h | h
  · skip
    cases h
    exact (Fr_sKk (List.mem_of_getElem? (i := 0) rfl) a_r1)
  · skip
    have h := (ok_ck h).2
    rcases ok_or h with h | h
    · skip
      obtain ⟨r7, er7, h⟩ := ok_b h
      have a_r7 : Fr (wI_X3_takeWhom a1) [] (wK_X3_takeWhom a1) u r7.2 := Fr_tr (Fr_up (Fs_c (List.mem_of_getElem? (i := 1) rfl) (Fs_c (List.mem_of_getElem? (i := 2) rfl) (Fs_c (List.mem_of_getElem? (i := 0) rfl) Fs_n))) Fs_n Fs_n (fr_F_X3_takeNumber er7)) (Fr_sKk (List.mem_of_getElem? (i := 0) rfl) a_r1)
      have h := (ok_ck h).2
      cases h
      exact a_r7
    · skip
      rcases ok_or h with h | h
      · skip
        exact Fr_tr (fr_B_X3_takeWhom_70 h) (Fr_sKk (List.mem_of_getElem? (i := 0) rfl) a_r1)
      · skip
        obtain ⟨r11, er11, h⟩ := ok_b h
        have a_r11 : Fr (wI_X3_takeWhom a1) [] (wK_X3_takeWhom a1) u r11.2 := Fr_tr (Fr_up (Fs_c (List.mem_of_getElem? (i := 1) rfl) (Fs_c (List.mem_of_getElem? (i := 2) rfl) (Fs_c (List.mem_of_getElem? (i := 0) rfl) Fs_n))) Fs_n Fs_n (fr_F_X3_takeNumber er11)) (Fr_sKk (List.mem_of_getElem? (i := 0) rfl) a_r1)
        rcases ok_or h with h | h
        · skip
          cases h
          exact a_r11
        · skip
          exact Fr_tr (fr_B_X3_takeWhom_70 h) a_r11
abbrev wI_X3_takeWays (a1 : Nat) : WL := [(112, 1, 5), (112, 1, 6), (a1, 1, 10)]
abbrev wK_X3_takeWays (a1 : Nat) : WL := [(a1, 1, 6), (a1, 1, 7), (a1, 1, 8)]
theorem fr_F_X3_takeWays {f : Nat} {tx : Nat} {a1 : Nat} {r : (Int32 × MT)} {u : MT} (h : F_X3_takeWays f tx a1 u = some r) : Fr (wI_X3_takeWays a1) [] (wK_X3_takeWays a1) u r.2 := by
  rw [F_X3_takeWays] at h
  obtain ⟨r1, er1, h⟩ := ok_b h
  have a_r1 : Fr (wI_X3_takeWays a1) [] (wK_X3_takeWays a1) u r1.2 := Fr_tr (Fr_up (Fs_c (List.mem_of_getElem? (i := 0) rfl) (Fs_c (List.mem_of_getElem? (i := 1) rfl) Fs_n)) Fs_n Fs_n (fr_F_X3_take er1)) Fr_rfl
  rcases ok_or h with h | h
  · skip
    cases h
    exact a_r1
  · skip
    obtain ⟨r4, er4, h⟩ := ok_b h
    have a_r4 : Fr (wI_X3_takeWays a1) [] (wK_X3_takeWays a1) u r4.2 := Fr_tr (Fr_up (Fs_c (List.mem_of_getElem? (i := 0) rfl) (Fs_c (List.mem_of_getElem? (i := 1) rfl) Fs_n)) Fs_n Fs_n (fr_F_X3_takeOneOf er4)) a_r1
    rcases ok_or h with h | h
    · skip
      cases h
      exact (Fr_sKk (List.mem_of_getElem? (i := 0) rfl) a_r4)
    · skip
      obtain ⟨r8, er8, h⟩ := ok_b h
      have a_r8 : Fr (wI_X3_takeWays a1) [] (wK_X3_takeWays a1) u r8.2 := Fr_tr (Fr_up (Fs_c (List.mem_of_getElem? (i := 0) rfl) (Fs_c (List.mem_of_getElem? (i := 1) rfl) Fs_n)) Fs_n Fs_n (fr_F_X3_take er8)) (Fr_sKk (List.mem_of_getElem? (i := 0) rfl) a_r4)
      rcases ok_or h with h | h
      · skip
        cases h
        exact a_r8
      · skip
        obtain ⟨r11, er11, h⟩ := ok_b h
        have a_r11 : Fr (wI_X3_takeWays a1) [] (wK_X3_takeWays a1) u r11.2 := Fr_tr (Fr_up (Fs_c (List.mem_of_getElem? (i := 0) rfl) (Fs_c (List.mem_of_getElem? (i := 1) rfl) (Fs_c (List.mem_of_getElem? (i := 2) rfl) Fs_n))) Fs_n (Fs_c (List.mem_of_getElem? (i := 1) rfl) Fs_n) (fr_F_X3_takeWhom er11)) a_r8
        rcases ok_or h with h | h
        · skip
          cases h
          exact a_r11
        · skip
          obtain ⟨r14, er14, h⟩ := ok_b h
          have a_r14 : Fr (wI_X3_takeWays a1) [] (wK_X3_takeWays a1) u r14.2 := Fr_tr (Fr_up (Fs_c (List.mem_of_getElem? (i := 0) rfl) (Fs_c (List.mem_of_getElem? (i := 1) rfl) Fs_n)) Fs_n Fs_n (fr_F_X3_take er14)) a_r11
          rcases ok_or h with h | h
          · skip
            cases h
            exact a_r14
          · skip
            obtain ⟨r17, er17, h⟩ := ok_b h
            have a_r17 : Fr (wI_X3_takeWays a1) [] (wK_X3_takeWays a1) u r17.2 := Fr_tr (Fr_up (Fs_c (List.mem_of_getElem? (i := 0) rfl) (Fs_c (List.mem_of_getElem? (i := 1) rfl) Fs_n)) Fs_n Fs_n (fr_F_X3_takeOneOf er17)) a_r14
            rcases ok_or h with h | h
            · skip
              cases h
              exact (Fr_sKk (List.mem_of_getElem? (i := 2) rfl) a_r17)
            · skip
              cases h
              exact (Fr_sKk (List.mem_of_getElem? (i := 2) rfl) a_r17)
abbrev wI_X4_add : WL := [(105, 1, 0), (106, 1, 0), (107, 1, 0), (108, 1, 0), (109, 1, 0), (104, 1, 6)]
theorem fr_F_X4_add {f : Nat} {x1 : Int32} {x2 : Int32} {x3 : Int32} {x4 : Int32} {x5 : Int32} {r : MT} {u : MT} (h : F_X4_add f x1 x2 x3 x4 x5 u = some r) : Fr wI_X4_add [] [] u r := by
  rw [F_X4_add] at h
  have h := (ok_ck h).2
  have h := (ok_ck h).2
  have h := (ok_ck h).2
  have h := (ok_ck h).2
  have h := (ok_ck h).2
  cases h
  exact (Fr_sIk (List.mem_of_getElem? (i := 5) rfl) (Fr_sI0 (List.mem_of_getElem? (i := 4) rfl) (Fr_sI0 (List.mem_of_getElem? (i := 3) rfl) (Fr_sI0 (List.mem_of_getElem? (i := 2) rfl) (Fr_sI0 (List.mem_of_getElem? (i := 1) rfl) (Fr_sI0 (List.mem_of_getElem? (i := 0) rfl) Fr_rfl))))))
abbrev wI_X6_addBytes : WL := [(111, 1, 0), (110, 1, 2)]
theorem fr_B_X6_addBytes_68 {f : Nat} {x1 : Int64} {x3 : Int32} {r : MT} {j3 : Int64 → Int32 → MT → Option MT} (q3 : ∀ (y0 : Int64) (y1 : Int32) (u : MT), j3 y0 y1 u = some r → Fr wI_X6_addBytes [] [] u r) {u : MT} (h : B_X6_addBytes_68 f j3 x1 x3 u = some r) : Fr wI_X6_addBytes [] [] u r := by
  rw [B_X6_addBytes_68] at h
  exact Fr_tr (q3 _ _ _ h) Fr_rfl
theorem fr_B_X6_addBytes_36 {f : Nat} {x1 : Int64} {x3 : Int32} {x4 : Int32} {r : MT} {j3 : Int64 → Int32 → MT → Option MT} (q3 : ∀ (y0 : Int64) (y1 : Int32) (u : MT), j3 y0 y1 u = some r → Fr wI_X6_addBytes [] [] u r) {u : MT} (h : B_X6_addBytes_36 f j3 x1 x3 x4 u = some r) : Fr wI_X6_addBytes [] [] u r := by
  rw [B_X6_addBytes_36] at h
  rcases ok_or h with h | h
  · skip
    exact Fr_tr (fr_B_X6_addBytes_68 q3 h) Fr_rfl
  · skip
    have h := (ok_ck h).2
    exact Fr_tr (fr_B_X6_addBytes_68 q3 h) (Fr_sIk (List.mem_of_getElem? (i := 1) rfl) (Fr_sI0 (List.mem_of_getElem? (i := 0) rfl) Fr_rfl))
theorem fr_B_X6_addBytes_3 {f : Nat} {r : MT} : ∀ (n : Nat) (x1 : Int64) (x3 : Int32) (u : MT), B_X6_addBytes_3 f n x1 x3 u = some r → Fr wI_X6_addBytes [] [] u r := by
  intro n
  induction n with
  | zero => intro x1 x3 u h; rw [B_X6_addBytes_3] at h; cases h
  | succ n ih =>
    intro x1 x3 u h
    rw [B_X6_addBytes_3] at h
    rcases ok_or h with h | h
    · skip
      cases h
      exact Fr_rfl
    · skip
      rcases ok_or h with h | h
      · skip
        exact Fr_tr (fr_B_X6_addBytes_36 ih h) Fr_rfl
      · skip
        obtain ⟨r4, er4, h⟩ := ok_b h
        have a_r4 : Fr wI_X6_addBytes [] [] u r4.2 := Fr_tr (Fr_up Fs_n Fs_n Fs_n (fr_F_X11_isIn er4)) Fr_rfl
        rcases ok_or h with h | h
        · skip
          exact Fr_tr (fr_B_X6_addBytes_68 ih h) a_r4
        · skip
          exact Fr_tr (fr_B_X6_addBytes_36 ih h) a_r4
theorem fr_F_X6_addBytes {f : Nat} {x1 : Int64} {r : MT} {u : MT} (h : F_X6_addBytes f x1 u = some r) : Fr wI_X6_addBytes [] [] u r := by
  rw [F_X6_addBytes] at h
  exact Fr_tr (fr_B_X6_addBytes_3 _ _ _ _ h) Fr_rfl
abbrev wI_X7_emit (t0 : Nat) : WL := [(t0 + 2, 1, 0), (t0, 1, 5)]
theorem fr_F_X7_emit {f : Nat} {t0 : Nat} {x1 : Int32} {r : MT} {u : MT} (h : F_X7_emit f t0 x1 u = some r) : Fr (wI_X7_emit t0) [] [] u r := by
  rw [F_X7_emit] at h
  rcases ok_or h with h | h
  · skip
    cases h
    exact Fr_rfl
  · skip
    have h := (ok_ck h).2
    cases h
    exact (Fr_sIk (List.mem_of_getElem? (i := 1) rfl) (Fr_sI0 (List.mem_of_getElem? (i := 0) rfl) Fr_rfl))
theorem fr_B_X8_canTake_34 {w : LT} {f : Nat} {ts : Nat} {r : (Int32 × MT)} {u : MT} (h : B_X8_canTake_34 w f ts u = some r) : Fr [] [] [] u r.2 := by
  rw [B_X8_canTake_34] at h
  cases h
  exact Fr_rfl
theorem fr_F_X8_canTake {w : LT} {f : Nat} {ts : Nat} {x1 : Int32} {r : (Int32 × MT)} {u : MT} (h : F_X8_canTake w f ts x1 u = some r) : Fr [] [] [] u r.2 := by
  rw [F_X8_canTake] at h
  rcases ok_or h with h | h
  · skip
    cases h
    exact Fr_rfl
  · skip
    rcases ok_or h with h | h
    · skip
      exact Fr_tr (fr_B_X8_canTake_34 h) Fr_rfl
    · skip
      have h := (ok_ck h).2
      have h := (ok_ck h).2
      rcases ok_or h with h | h
      · skip
        cases h
        exact Fr_rfl
      · skip
        exact Fr_tr (fr_B_X8_canTake_34 h) Fr_rfl
theorem fr_F_X8_rulesOfLatest {w : LT} {f : Nat} {ts : Nat} {r : (Int32 × MT)} {u : MT} (h : F_X8_rulesOfLatest w f ts u = some r) : Fr [] [] [] u r.2 := by
  rw [F_X8_rulesOfLatest] at h
  rcases ok_or h with h | h
  · skip
    cases h
    exact Fr_rfl
  · skip
    have h := (ok_ck h).2
    have h := (ok_ck h).2
    cases h
    exact Fr_rfl
theorem fr_F_X9_isOperator {f : Nat} {a0 : Nat} {r : (Int32 × MT)} {u : MT} (h : F_X9_isOperator f a0 u = some r) : Fr [] [] [] u r.2 := by
  rw [F_X9_isOperator] at h
  rcases ok_or h with h | h
  · skip
    cases h
    exact Fr_rfl
  · skip
    cases h
    exact Fr_rfl
theorem fr_B_X9_isCompare_14 {f : Nat} {a0 : Nat} {r : (Int32 × MT)} {u : MT} (h : B_X9_isCompare_14 f a0 u = some r) : Fr [] [] [] u r.2 := by
  rw [B_X9_isCompare_14] at h
  cases h
  exact Fr_rfl
theorem fr_F_X9_isCompare {f : Nat} {a0 : Nat} {r : (Int32 × MT)} {u : MT} (h : F_X9_isCompare f a0 u = some r) : Fr [] [] [] u r.2 := by
  rw [F_X9_isCompare] at h
  rcases ok_or h with h | h
  · skip
    exact Fr_tr (fr_B_X9_isCompare_14 h) Fr_rfl
  · skip
    rcases ok_or h with h | h
    · skip
      exact Fr_tr (fr_B_X9_isCompare_14 h) Fr_rfl
    · skip
      cases h
      exact Fr_rfl
theorem fr_B_X9_beginsPart_28 {f : Nat} {a0 : Nat} {r : (Int32 × MT)} {u : MT} (h : B_X9_beginsPart_28 f a0 u = some r) : Fr [] [] [] u r.2 := by
  rw [B_X9_beginsPart_28] at h
  cases h
  exact Fr_rfl
theorem fr_F_X9_beginsPart {f : Nat} {a0 : Nat} {r : (Int32 × MT)} {u : MT} (h : F_X9_beginsPart f a0 u = some r) : Fr [] [] [] u r.2 := by
  rw [F_X9_beginsPart] at h
  rcases ok_or h with h | h
  · skip
    exact Fr_tr (fr_B_X9_beginsPart_28 h) Fr_rfl
  · skip
    rcases ok_or h with h | h
    · skip
      exact Fr_tr (fr_B_X9_beginsPart_28 h) Fr_rfl
    · skip
      rcases ok_or h with h | h
      · skip
        cases h
        exact Fr_rfl
      · skip
        obtain ⟨r4, er4, h⟩ := ok_b h
        have a_r4 : Fr [] [] [] u r4.2 := Fr_tr (Fr_up Fs_n Fs_n Fs_n (fr_F_X9_isOperator er4)) Fr_rfl
        rcases ok_or h with h | h
        · skip
          exact Fr_tr (fr_B_X9_beginsPart_28 h) a_r4
        · skip
          cases h
          exact a_r4
theorem fr_B_X9_beginsRule_28 {f : Nat} {a0 : Nat} {r : (Int32 × MT)} {u : MT} (h : B_X9_beginsRule_28 f a0 u = some r) : Fr [] [] [] u r.2 := by
  rw [B_X9_beginsRule_28] at h
  cases h
  exact Fr_rfl
theorem fr_F_X9_beginsRule {f : Nat} {a0 : Nat} {r : (Int32 × MT)} {u : MT} (h : F_X9_beginsRule f a0 u = some r) : Fr [] [] [] u r.2 := by
  rw [F_X9_beginsRule] at h
  rcases ok_or h with h | h
  · skip
    exact Fr_tr (fr_B_X9_beginsRule_28 h) Fr_rfl
  · skip
    rcases ok_or h with h | h
    · skip
      exact Fr_tr (fr_B_X9_beginsRule_28 h) Fr_rfl
    · skip
      rcases ok_or h with h | h
      · skip
        exact Fr_tr (fr_B_X9_beginsRule_28 h) Fr_rfl
      · skip
        rcases ok_or h with h | h
        · skip
          exact Fr_tr (fr_B_X9_beginsRule_28 h) Fr_rfl
        · skip
          cases h
          exact Fr_rfl
abbrev wI_X11_house : WL := [(102, 1, 0), (103, 1, 0), (101, 1, 3)]
theorem fr_B_X11_house_63 {f : Nat} {x1 : Int32} {x2 : Int32} {x3 : Int32} {s0 : Int32} {r : (Int32 × MT)} {u : MT} (h : B_X11_house_63 f x1 x2 x3 s0 u = some r) : Fr wI_X11_house [] [] u r.2 := by
  rw [B_X11_house_63] at h
  rcases ok_or h with h | h
  · skip
    rcases ok_or h with h | h
    · skip
      cases h
      exact Fr_rfl
    · skip
      rcases ok_or h with h | h
      · skip
        obtain ⟨r13, er13, h⟩ := ok_b h
        have a_r13 : Fr wI_X11_house [] [] u r13.2 := Fr_tr (Fr_up (Fs_c (List.mem_of_getElem? (i := 0) rfl) (Fs_c (List.mem_of_getElem? (i := 1) rfl) (Fs_c (List.mem_of_getElem? (i := 2) rfl) Fs_n))) Fs_n Fs_n (fr_F_X2_add er13)) Fr_rfl
        cases h
        exact a_r13
      · skip
        cases h
        exact Fr_rfl
  · skip
    cases h
    exact Fr_rfl
theorem fr_B_X11_house_62 {f : Nat} {x1 : Int32} {x2 : Int32} {x3 : Int32} {r : (Int32 × MT)} {u : MT} (h : B_X11_house_62 f x1 x2 x3 u = some r) : Fr wI_X11_house [] [] u r.2 := by
  rw [B_X11_house_62] at h
  exact Fr_tr (fr_B_X11_house_63 h) Fr_rfl
theorem fr_B_X11_house_35 {f : Nat} {x1 : Int32} {x2 : Int32} {s0 : Int32} {r : (Int32 × MT)} {u : MT} (h : B_X11_house_35 f x1 x2 s0 u = some r) : Fr wI_X11_house [] [] u r.2 := by
  rw [B_X11_house_35] at h
  obtain ⟨r4, er4, h⟩ := ok_b h
  have a_r4 : Fr wI_X11_house [] [] u r4.2 := Fr_tr (Fr_up Fs_n Fs_n Fs_n (fr_F_X11_isIn er4)) Fr_rfl
  rcases ok_or h with h | h
  · skip
    exact Fr_tr (fr_B_X11_house_62 h) a_r4
  · skip
    obtain ⟨r7, er7, h⟩ := ok_b h
    have a_r7 : Fr wI_X11_house [] [] u r7.2 := Fr_tr (Fr_up Fs_n Fs_n Fs_n (fr_F_X11_isIn er7)) a_r4
    rcases ok_or h with h | h
    · skip
      exact Fr_tr (fr_B_X11_house_62 h) a_r7
    · skip
      exact Fr_tr (fr_B_X11_house_63 h) a_r7
theorem fr_B_X11_house_30 {f : Nat} {x1 : Int32} {x2 : Int32} {r : (Int32 × MT)} {u : MT} (h : B_X11_house_30 f x1 x2 u = some r) : Fr wI_X11_house [] [] u r.2 := by
  rw [B_X11_house_30] at h
  exact Fr_tr (fr_B_X11_house_35 h) Fr_rfl
theorem fr_F_X11_house {f : Nat} {x1 : Int32} {x2 : Int32} {r : (Int32 × MT)} {u : MT} (h : F_X11_house f x1 x2 u = some r) : Fr wI_X11_house [] [] u r.2 := by
  rw [F_X11_house] at h
  rcases ok_or h with h | h
  · skip
    exact Fr_tr (fr_B_X11_house_30 h) Fr_rfl
  · skip
    rcases ok_or h with h | h
    · skip
      exact Fr_tr (fr_B_X11_house_30 h) Fr_rfl
    · skip
      rcases ok_or h with h | h
      · skip
        exact Fr_tr (fr_B_X11_house_35 h) Fr_rfl
      · skip
        exact Fr_tr (fr_B_X11_house_30 h) Fr_rfl
theorem fr_F_X11_isQuarter {f : Nat} {x0 : Int32} {r : (Int32 × MT)} {u : MT} (h : F_X11_isQuarter f x0 u = some r) : Fr [] [] [] u r.2 := by
  rw [F_X11_isQuarter] at h
  obtain ⟨r1, er1, h⟩ := ok_b h
  have a_r1 : Fr [] [] [] u r1.2 := Fr_tr (Fr_up Fs_n Fs_n Fs_n (fr_F_X11_isIn er1)) Fr_rfl
  have h := (ok_ck h).2
  cases h
  exact a_r1
abbrev wI_X11_read (w : LT) : WL := [(105, 1, 0), (106, 1, 0), (107, 1, 0), (108, 1, 0), (109, 1, 0), (104, 1, 6), (130, 1, 6), (lt_p w 100 9, 1, 6)]
theorem fr_B_X11_read_53 {w : LT} {f : Nat} {x1 : Int32} {x2 : Int32} {x3 : Int32} {x4 : Int32} {x5 : Int32} {s0 : Int32} {r : (Int32 × MT)} {u : MT} (h : B_X11_read_53 w f x1 x2 x3 x4 x5 s0 u = some r) : Fr (wI_X11_read w) [] [] u r.2 := by
  rw [B_X11_read_53] at h
  rcases ok_or h with h | h
  · skip
    cases h
    exact Fr_rfl
  · skip
    rcases ok_or h with h | h
    · skip
      cases h
      exact Fr_rfl
    · skip
      rcases ok_or h with h | h
      · skip
        obtain ⟨r16, er16, h⟩ := ok_b h
        have a_r16 : Fr (wI_X11_read w) [] [] u r16 := Fr_tr (Fr_up (Fs_c (List.mem_of_getElem? (i := 0) rfl) (Fs_c (List.mem_of_getElem? (i := 1) rfl) (Fs_c (List.mem_of_getElem? (i := 2) rfl) (Fs_c (List.mem_of_getElem? (i := 3) rfl) (Fs_c (List.mem_of_getElem? (i := 4) rfl) (Fs_c (List.mem_of_getElem? (i := 5) rfl) Fs_n)))))) Fs_n Fs_n (fr_F_X4_add er16)) Fr_rfl
        obtain ⟨r18, er18, h⟩ := ok_b h
        have a_r18 : Fr (wI_X11_read w) [] [] u r18 := Fr_tr (Fr_up (Fs_c (List.mem_of_getElem? (i := 6) rfl) Fs_n) Fs_n Fs_n (fr_F_X1_forgetFrom er18)) a_r16
        rcases ok_or h with h | h
        · skip
          cases h
          exact a_r18
        · skip
          have h := (ok_ck h).2
          obtain ⟨r22, er22, h⟩ := ok_b h
          have a_r22 : Fr (wI_X11_read w) [] [] u r22 := Fr_tr (Fr_up (Fs_c (List.mem_of_getElem? (i := 7) rfl) Fs_n) Fs_n Fs_n (fr_F_X1_forgetFrom er22)) a_r18
          cases h
          exact a_r22
      · skip
        cases h
        exact Fr_rfl
theorem fr_B_X11_read_52 {w : LT} {f : Nat} {x1 : Int32} {x2 : Int32} {x3 : Int32} {x4 : Int32} {x5 : Int32} {r : (Int32 × MT)} {u : MT} (h : B_X11_read_52 w f x1 x2 x3 x4 x5 u = some r) : Fr (wI_X11_read w) [] [] u r.2 := by
  rw [B_X11_read_52] at h
  exact Fr_tr (fr_B_X11_read_53 h) Fr_rfl
theorem fr_B_X11_read_23 {w : LT} {f : Nat} {x1 : Int32} {x2 : Int32} {x3 : Int32} {x4 : Int32} {s0 : Int32} {r : (Int32 × MT)} {u : MT} (h : B_X11_read_23 w f x1 x2 x3 x4 s0 u = some r) : Fr (wI_X11_read w) [] [] u r.2 := by
  rw [B_X11_read_23] at h
  obtain ⟨r7, er7, h⟩ := ok_b h
  have a_r7 : Fr (wI_X11_read w) [] [] u r7.2 := Fr_tr (Fr_up Fs_n Fs_n Fs_n (fr_F_X11_isIn er7)) Fr_rfl
  rcases ok_or h with h | h
  · skip
    exact Fr_tr (fr_B_X11_read_52 h) a_r7
  · skip
    obtain ⟨r10, er10, h⟩ := ok_b h
    have a_r10 : Fr (wI_X11_read w) [] [] u r10.2 := Fr_tr (Fr_up Fs_n Fs_n Fs_n (fr_F_X11_isIn er10)) a_r7
    rcases ok_or h with h | h
    · skip
      exact Fr_tr (fr_B_X11_read_52 h) a_r10
    · skip
      exact Fr_tr (fr_B_X11_read_53 h) a_r10
theorem fr_B_X11_read_22 {w : LT} {f : Nat} {x1 : Int32} {x2 : Int32} {x3 : Int32} {x4 : Int32} {r : (Int32 × MT)} {u : MT} (h : B_X11_read_22 w f x1 x2 x3 x4 u = some r) : Fr (wI_X11_read w) [] [] u r.2 := by
  rw [B_X11_read_22] at h
  exact Fr_tr (fr_B_X11_read_23 h) Fr_rfl
theorem fr_F_X11_read {w : LT} {f : Nat} {x1 : Int32} {x2 : Int32} {x3 : Int32} {x4 : Int32} {r : (Int32 × MT)} {u : MT} (h : F_X11_read w f x1 x2 x3 x4 u = some r) : Fr (wI_X11_read w) [] [] u r.2 := by
  rw [F_X11_read] at h
  obtain ⟨r1, er1, h⟩ := ok_b h
  have a_r1 : Fr (wI_X11_read w) [] [] u r1.2 := Fr_tr (Fr_up Fs_n Fs_n Fs_n (fr_F_X2_has er1)) Fr_rfl
  rcases ok_or h with h | h
  · skip
    exact Fr_tr (fr_B_X11_read_22 h) a_r1
  · skip
    obtain ⟨r4, er4, h⟩ := ok_b h
    have a_r4 : Fr (wI_X11_read w) [] [] u r4.2 := Fr_tr (Fr_up Fs_n Fs_n Fs_n (fr_F_X11_isQuarter er4)) a_r1
    rcases ok_or h with h | h
    · skip
      exact Fr_tr (fr_B_X11_read_22 h) a_r4
    · skip
      exact Fr_tr (fr_B_X11_read_23 h) a_r4
abbrev wI_X11_days : WL := [(100, 1, 12)]
theorem fr_F_X11_days {f : Nat} {x1 : Int32} {r : (Int32 × MT)} {u : MT} (h : F_X11_days f x1 u = some r) : Fr wI_X11_days [] [] u r.2 := by
  rw [F_X11_days] at h
  obtain ⟨r1, er1, h⟩ := ok_b h
  have a_r1 : Fr wI_X11_days [] [] u r1.2 := Fr_tr (Fr_up Fs_n Fs_n Fs_n (fr_F_X11_isIn er1)) Fr_rfl
  rcases ok_or h with h | h
  · skip
    cases h
    exact a_r1
  · skip
    cases h
    exact (Fr_sIk (List.mem_of_getElem? (i := 0) rfl) a_r1)
abbrev wI_X11_feed : WL := [(111, 1, 0), (110, 1, 2)]
theorem fr_F_X11_feed {f : Nat} {x1 : Int64} {x3 : Int64} {x5 : Int64} {r : (Int32 × MT)} {u : MT} (h : F_X11_feed f x1 x3 x5 u = some r) : Fr wI_X11_feed [] [] u r.2 := by
  rw [F_X11_feed] at h
  obtain ⟨r1, er1, h⟩ := ok_b h
  have a_r1 : Fr wI_X11_feed [] [] u r1 := Fr_tr (Fr_up (Fs_c (List.mem_of_getElem? (i := 0) rfl) (Fs_c (List.mem_of_getElem? (i := 1) rfl) Fs_n)) Fs_n Fs_n (fr_F_X6_addBytes er1)) Fr_rfl
  obtain ⟨r3, er3, h⟩ := ok_b h
  have a_r3 : Fr wI_X11_feed [] [] u r3 := Fr_tr (Fr_up (Fs_c (List.mem_of_getElem? (i := 0) rfl) (Fs_c (List.mem_of_getElem? (i := 1) rfl) Fs_n)) Fs_n Fs_n (fr_F_X6_addBytes er3)) a_r1
  obtain ⟨r5, er5, h⟩ := ok_b h
  have a_r5 : Fr wI_X11_feed [] [] u r5 := Fr_tr (Fr_up (Fs_c (List.mem_of_getElem? (i := 0) rfl) (Fs_c (List.mem_of_getElem? (i := 1) rfl) Fs_n)) Fs_n Fs_n (fr_F_X6_addBytes er5)) a_r3
  cases h
  exact a_r5
abbrev wI_X11_known : WL := [(100, 1, 13)]
theorem fr_B_X11_known_19 {f : Nat} {x1 : Int32} {r : (Int32 × MT)} {u : MT} (h : B_X11_known_19 f x1 u = some r) : Fr wI_X11_known [] [] u r.2 := by
  rw [B_X11_known_19] at h
  cases h
  exact (Fr_sIk (List.mem_of_getElem? (i := 0) rfl) Fr_rfl)
theorem fr_F_X11_known {f : Nat} {x1 : Int32} {r : (Int32 × MT)} {u : MT} (h : F_X11_known f x1 u = some r) : Fr wI_X11_known [] [] u r.2 := by
  rw [F_X11_known] at h
  rcases ok_or h with h | h
  · skip
    exact Fr_tr (fr_B_X11_known_19 h) Fr_rfl
  · skip
    obtain ⟨r2, er2, h⟩ := ok_b h
    have a_r2 : Fr wI_X11_known [] [] u r2.2 := Fr_tr (Fr_up Fs_n Fs_n Fs_n (fr_F_X11_isIn er2)) Fr_rfl
    rcases ok_or h with h | h
    · skip
      cases h
      exact a_r2
    · skip
      exact Fr_tr (fr_B_X11_known_19 h) a_r2
theorem fr_F_X11_dayOfLooks {f : Nat} {r : (Int32 × MT)} {u : MT} (h : F_X11_dayOfLooks f u = some r) : Fr [] [] [] u r.2 := by
  rw [F_X11_dayOfLooks] at h
  rcases ok_or h with h | h
  · skip
    cases h
    exact Fr_rfl
  · skip
    cases h
    exact Fr_rfl
abbrev wI_X11_had : WL := [(130, 1, 6), (127, 1, 0), (127, 1, 4), (127, 1, 2), (127, 1, 6), (127, 1, 5), (127, 1, 9), (127, 1, 10), (127, 1, 7), (127, 1, 8), (135, 1, 0), (132, 1, 0), (133, 1, 0), (134, 1, 0), (125, 1, 0), (116, 1, 5), (120, 1, 0), (116, 1, 6), (121, 1, 0), (117, 1, 0), (118, 1, 0), (119, 1, 0), (126, 1, 0), (122, 1, 0), (116, 1, 13), (123, 1, 0), (124, 1, 0), (127, 1, 3), (116, 1, 18), (127, 1, 1), (131, 1, 0), (116, 1, 4), (116, 1, 17), (130, 1, 5)]
theorem fr_B_X11_had_28 {w : LT} {f : Nat} {r : (Int32 × MT)} {u : MT} (h : B_X11_had_28 w f u = some r) : Fr wI_X11_had [] [] u r.2 := by
  rw [B_X11_had_28] at h
  cases h
theorem fr_F_X11_had {w : LT} {f : Nat} {x1 : Int32} {x2 : Int32} {x3 : Int32} {r : (Int32 × MT)} {u : MT} (h : F_X11_had w f x1 x2 x3 u = some r) : Fr wI_X11_had [] [] u r.2 := by
  rw [F_X11_had] at h
  obtain ⟨r1, er1, h⟩ := ok_b h
  have a_r1 : Fr wI_X11_had [] [] u r1.2 := Fr_tr (Fr_up Fs_n Fs_n Fs_n (fr_F_X2_has er1)) Fr_rfl
  rcases ok_or h with h | h
  · skip
    exact Fr_tr (fr_B_X11_had_28 h) a_r1
  · skip
    obtain ⟨r4, er4, h⟩ := ok_b h
    have a_r4 : Fr wI_X11_had [] [] u r4.2 := Fr_tr (Fr_up Fs_n Fs_n Fs_n (fr_F_X11_isQuarter er4)) a_r1
    rcases ok_or h with h | h
    · skip
      exact Fr_tr (fr_B_X11_had_28 h) a_r4
    · skip
      obtain ⟨r7, er7, h⟩ := ok_b h
      have a_r7 : Fr wI_X11_had [] [] u r7.2 := Fr_tr (Fr_up Fs_n Fs_n Fs_n (fr_F_X11_isIn er7)) a_r4
      rcases ok_or h with h | h
      · skip
        exact Fr_tr (fr_B_X11_had_28 h) a_r7
      · skip
        obtain ⟨r10, er10, h⟩ := ok_b h
        have a_r10 : Fr wI_X11_had [] [] u r10.2 := Fr_tr (Fr_up Fs_n Fs_n Fs_n (fr_F_X11_dayOfLooks er10)) a_r7
        obtain ⟨r12, er12, h⟩ := ok_b h
        have a_r12 : Fr wI_X11_had [] [] u r12 := Fr_tr (Fr_up (Fs_c (List.mem_of_getElem? (i := 0) rfl) (Fs_c (List.mem_of_getElem? (i := 1) rfl) (Fs_c (List.mem_of_getElem? (i := 2) rfl) (Fs_c (List.mem_of_getElem? (i := 3) rfl) (Fs_c (List.mem_of_getElem? (i := 4) rfl) (Fs_c (List.mem_of_getElem? (i := 5) rfl) (Fs_c (List.mem_of_getElem? (i := 6) rfl) (Fs_c (List.mem_of_getElem? (i := 7) rfl) (Fs_c (List.mem_of_getElem? (i := 8) rfl) (Fs_c (List.mem_of_getElem? (i := 9) rfl) (Fs_c (List.mem_of_getElem? (i := 10) rfl) (Fs_c (List.mem_of_getElem? (i := 11) rfl) (Fs_c (List.mem_of_getElem? (i := 12) rfl) (Fs_c (List.mem_of_getElem? (i := 13) rfl) (Fs_c (List.mem_of_getElem? (i := 14) rfl) (Fs_c (List.mem_of_getElem? (i := 15) rfl) (Fs_c (List.mem_of_getElem? (i := 16) rfl) (Fs_c (List.mem_of_getElem? (i := 17) rfl) (Fs_c (List.mem_of_getElem? (i := 18) rfl) (Fs_c (List.mem_of_getElem? (i := 19) rfl) (Fs_c (List.mem_of_getElem? (i := 20) rfl) (Fs_c (List.mem_of_getElem? (i := 21) rfl) (Fs_c (List.mem_of_getElem? (i := 22) rfl) (Fs_c (List.mem_of_getElem? (i := 23) rfl) (Fs_c (List.mem_of_getElem? (i := 24) rfl) (Fs_c (List.mem_of_getElem? (i := 25) rfl) (Fs_c (List.mem_of_getElem? (i := 26) rfl) (Fs_c (List.mem_of_getElem? (i := 27) rfl) (Fs_c (List.mem_of_getElem? (i := 28) rfl) (Fs_c (List.mem_of_getElem? (i := 29) rfl) (Fs_c (List.mem_of_getElem? (i := 30) rfl) (Fs_c (List.mem_of_getElem? (i := 31) rfl) (Fs_c (List.mem_of_getElem? (i := 32) rfl) (Fs_c (List.mem_of_getElem? (i := 33) rfl) Fs_n)))))))))))))))))))))))))))))))))) Fs_n Fs_n (fr_F_X1_workTo er12)) a_r10
        obtain ⟨r14, er14, h⟩ := ok_b h
        have a_r14 : Fr wI_X11_had [] [] u r14.2 := Fr_tr (Fr_up Fs_n Fs_n Fs_n (fr_F_X1_ofHouse er14)) a_r12
        cases h
        exact a_r14
abbrev wI_X11_quarter : WL := [(130, 1, 6), (127, 1, 0), (127, 1, 4), (127, 1, 2), (127, 1, 6), (127, 1, 5), (127, 1, 9), (127, 1, 10), (127, 1, 7), (127, 1, 8), (135, 1, 0), (132, 1, 0), (133, 1, 0), (134, 1, 0), (125, 1, 0), (116, 1, 5), (120, 1, 0), (116, 1, 6), (121, 1, 0), (117, 1, 0), (118, 1, 0), (119, 1, 0), (126, 1, 0), (122, 1, 0), (116, 1, 13), (123, 1, 0), (124, 1, 0), (127, 1, 3), (116, 1, 18), (127, 1, 1), (131, 1, 0), (116, 1, 4), (116, 1, 17), (130, 1, 5)]
theorem fr_B_X11_quarter_17 {w : LT} {f : Nat} {r : (Int32 × MT)} {u : MT} (h : B_X11_quarter_17 w f u = some r) : Fr wI_X11_quarter [] [] u r.2 := by
  rw [B_X11_quarter_17] at h
  cases h
theorem fr_F_X11_quarter {w : LT} {f : Nat} {x1 : Int32} {x2 : Int32} {r : (Int32 × MT)} {u : MT} (h : F_X11_quarter w f x1 x2 u = some r) : Fr wI_X11_quarter [] [] u r.2 := by
  rw [F_X11_quarter] at h
  obtain ⟨r1, er1, h⟩ := ok_b h
  have a_r1 : Fr wI_X11_quarter [] [] u r1.2 := Fr_tr (Fr_up Fs_n Fs_n Fs_n (fr_F_X11_isQuarter er1)) Fr_rfl
  rcases ok_or h with h | h
  · skip
    exact Fr_tr (fr_B_X11_quarter_17 h) a_r1
  · skip
    obtain ⟨r4, er4, h⟩ := ok_b h
    have a_r4 : Fr wI_X11_quarter [] [] u r4.2 := Fr_tr (Fr_up Fs_n Fs_n Fs_n (fr_F_X11_isIn er4)) a_r1
    rcases ok_or h with h | h
    · skip
      exact Fr_tr (fr_B_X11_quarter_17 h) a_r4
    · skip
      obtain ⟨r7, er7, h⟩ := ok_b h
      have a_r7 : Fr wI_X11_quarter [] [] u r7.2 := Fr_tr (Fr_up Fs_n Fs_n Fs_n (fr_F_X11_dayOfLooks er7)) a_r4
      obtain ⟨r9, er9, h⟩ := ok_b h
      have a_r9 : Fr wI_X11_quarter [] [] u r9 := Fr_tr (Fr_up (Fs_c (List.mem_of_getElem? (i := 0) rfl) (Fs_c (List.mem_of_getElem? (i := 1) rfl) (Fs_c (List.mem_of_getElem? (i := 2) rfl) (Fs_c (List.mem_of_getElem? (i := 3) rfl) (Fs_c (List.mem_of_getElem? (i := 4) rfl) (Fs_c (List.mem_of_getElem? (i := 5) rfl) (Fs_c (List.mem_of_getElem? (i := 6) rfl) (Fs_c (List.mem_of_getElem? (i := 7) rfl) (Fs_c (List.mem_of_getElem? (i := 8) rfl) (Fs_c (List.mem_of_getElem? (i := 9) rfl) (Fs_c (List.mem_of_getElem? (i := 10) rfl) (Fs_c (List.mem_of_getElem? (i := 11) rfl) (Fs_c (List.mem_of_getElem? (i := 12) rfl) (Fs_c (List.mem_of_getElem? (i := 13) rfl) (Fs_c (List.mem_of_getElem? (i := 14) rfl) (Fs_c (List.mem_of_getElem? (i := 15) rfl) (Fs_c (List.mem_of_getElem? (i := 16) rfl) (Fs_c (List.mem_of_getElem? (i := 17) rfl) (Fs_c (List.mem_of_getElem? (i := 18) rfl) (Fs_c (List.mem_of_getElem? (i := 19) rfl) (Fs_c (List.mem_of_getElem? (i := 20) rfl) (Fs_c (List.mem_of_getElem? (i := 21) rfl) (Fs_c (List.mem_of_getElem? (i := 22) rfl) (Fs_c (List.mem_of_getElem? (i := 23) rfl) (Fs_c (List.mem_of_getElem? (i := 24) rfl) (Fs_c (List.mem_of_getElem? (i := 25) rfl) (Fs_c (List.mem_of_getElem? (i := 26) rfl) (Fs_c (List.mem_of_getElem? (i := 27) rfl) (Fs_c (List.mem_of_getElem? (i := 28) rfl) (Fs_c (List.mem_of_getElem? (i := 29) rfl) (Fs_c (List.mem_of_getElem? (i := 30) rfl) (Fs_c (List.mem_of_getElem? (i := 31) rfl) (Fs_c (List.mem_of_getElem? (i := 32) rfl) (Fs_c (List.mem_of_getElem? (i := 33) rfl) Fs_n)))))))))))))))))))))))))))))))))) Fs_n Fs_n (fr_F_X1_workTo er9)) a_r7
      obtain ⟨r11, er11, h⟩ := ok_b h
      have a_r11 : Fr wI_X11_quarter [] [] u r11.2 := Fr_tr (Fr_up Fs_n Fs_n Fs_n (fr_F_X1_sum er11)) a_r9
      cases h
      exact a_r11
abbrev wI_X11_by : WL := [(130, 1, 6), (127, 1, 0), (127, 1, 4), (127, 1, 2), (127, 1, 6), (127, 1, 5), (127, 1, 9), (127, 1, 10), (127, 1, 7), (127, 1, 8), (135, 1, 0), (132, 1, 0), (133, 1, 0), (134, 1, 0), (125, 1, 0), (116, 1, 5), (120, 1, 0), (116, 1, 6), (121, 1, 0), (117, 1, 0), (118, 1, 0), (119, 1, 0), (126, 1, 0), (122, 1, 0), (116, 1, 13), (123, 1, 0), (124, 1, 0), (127, 1, 3), (116, 1, 18), (127, 1, 1), (131, 1, 0), (116, 1, 4), (116, 1, 17), (130, 1, 5)]
theorem fr_B_X11_by_84 {w : LT} {f : Nat} {x1 : Int32} {x2 : Int32} {x3 : Int32} {r : (Int32 × MT)} {u : MT} (h : B_X11_by_84 w f x1 x2 x3 u = some r) : Fr wI_X11_by [] [] u r.2 := by
  rw [B_X11_by_84] at h
  obtain ⟨r21, er21, h⟩ := ok_b h
  have a_r21 : Fr wI_X11_by [] [] u r21.2 := Fr_tr (Fr_up Fs_n Fs_n Fs_n (fr_F_X11_dayOfLooks er21)) Fr_rfl
  obtain ⟨r23, er23, h⟩ := ok_b h
  have a_r23 : Fr wI_X11_by [] [] u r23 := Fr_tr (Fr_up (Fs_c (List.mem_of_getElem? (i := 0) rfl) (Fs_c (List.mem_of_getElem? (i := 1) rfl) (Fs_c (List.mem_of_getElem? (i := 2) rfl) (Fs_c (List.mem_of_getElem? (i := 3) rfl) (Fs_c (List.mem_of_getElem? (i := 4) rfl) (Fs_c (List.mem_of_getElem? (i := 5) rfl) (Fs_c (List.mem_of_getElem? (i := 6) rfl) (Fs_c (List.mem_of_getElem? (i := 7) rfl) (Fs_c (List.mem_of_getElem? (i := 8) rfl) (Fs_c (List.mem_of_getElem? (i := 9) rfl) (Fs_c (List.mem_of_getElem? (i := 10) rfl) (Fs_c (List.mem_of_getElem? (i := 11) rfl) (Fs_c (List.mem_of_getElem? (i := 12) rfl) (Fs_c (List.mem_of_getElem? (i := 13) rfl) (Fs_c (List.mem_of_getElem? (i := 14) rfl) (Fs_c (List.mem_of_getElem? (i := 15) rfl) (Fs_c (List.mem_of_getElem? (i := 16) rfl) (Fs_c (List.mem_of_getElem? (i := 17) rfl) (Fs_c (List.mem_of_getElem? (i := 18) rfl) (Fs_c (List.mem_of_getElem? (i := 19) rfl) (Fs_c (List.mem_of_getElem? (i := 20) rfl) (Fs_c (List.mem_of_getElem? (i := 21) rfl) (Fs_c (List.mem_of_getElem? (i := 22) rfl) (Fs_c (List.mem_of_getElem? (i := 23) rfl) (Fs_c (List.mem_of_getElem? (i := 24) rfl) (Fs_c (List.mem_of_getElem? (i := 25) rfl) (Fs_c (List.mem_of_getElem? (i := 26) rfl) (Fs_c (List.mem_of_getElem? (i := 27) rfl) (Fs_c (List.mem_of_getElem? (i := 28) rfl) (Fs_c (List.mem_of_getElem? (i := 29) rfl) (Fs_c (List.mem_of_getElem? (i := 30) rfl) (Fs_c (List.mem_of_getElem? (i := 31) rfl) (Fs_c (List.mem_of_getElem? (i := 32) rfl) (Fs_c (List.mem_of_getElem? (i := 33) rfl) Fs_n)))))))))))))))))))))))))))))))))) Fs_n Fs_n (fr_F_X1_workTo er23)) a_r21
  obtain ⟨r25, er25, h⟩ := ok_b h
  have a_r25 : Fr wI_X11_by [] [] u r25 := Fr_tr (Fr_up (Fs_c (List.mem_of_getElem? (i := 1) rfl) (Fs_c (List.mem_of_getElem? (i := 2) rfl) (Fs_c (List.mem_of_getElem? (i := 3) rfl) (Fs_c (List.mem_of_getElem? (i := 4) rfl) (Fs_c (List.mem_of_getElem? (i := 5) rfl) (Fs_c (List.mem_of_getElem? (i := 6) rfl) (Fs_c (List.mem_of_getElem? (i := 7) rfl) (Fs_c (List.mem_of_getElem? (i := 8) rfl) (Fs_c (List.mem_of_getElem? (i := 9) rfl) (Fs_c (List.mem_of_getElem? (i := 10) rfl) (Fs_c (List.mem_of_getElem? (i := 11) rfl) (Fs_c (List.mem_of_getElem? (i := 12) rfl) (Fs_c (List.mem_of_getElem? (i := 13) rfl) (Fs_c (List.mem_of_getElem? (i := 14) rfl) (Fs_c (List.mem_of_getElem? (i := 15) rfl) (Fs_c (List.mem_of_getElem? (i := 16) rfl) (Fs_c (List.mem_of_getElem? (i := 17) rfl) (Fs_c (List.mem_of_getElem? (i := 18) rfl) (Fs_c (List.mem_of_getElem? (i := 19) rfl) (Fs_c (List.mem_of_getElem? (i := 20) rfl) (Fs_c (List.mem_of_getElem? (i := 21) rfl) (Fs_c (List.mem_of_getElem? (i := 22) rfl) (Fs_c (List.mem_of_getElem? (i := 23) rfl) (Fs_c (List.mem_of_getElem? (i := 24) rfl) (Fs_c (List.mem_of_getElem? (i := 25) rfl) (Fs_c (List.mem_of_getElem? (i := 26) rfl) (Fs_c (List.mem_of_getElem? (i := 27) rfl) (Fs_c (List.mem_of_getElem? (i := 28) rfl) (Fs_c (List.mem_of_getElem? (i := 29) rfl) (Fs_c (List.mem_of_getElem? (i := 30) rfl) (Fs_c (List.mem_of_getElem? (i := 31) rfl) (Fs_c (List.mem_of_getElem? (i := 32) rfl) Fs_n)))))))))))))))))))))))))))))))) Fs_n Fs_n (fr_F_X1_workAgain er25)) a_r23
  rcases ok_or h with h | h
  · skip
    cases h
    exact a_r25
  · skip
    have h := (ok_ck h).2
    cases h
    exact a_r25
theorem fr_B_X11_by_25 {w : LT} {f : Nat} {x1 : Int32} {x2 : Int32} {x3 : Int32} {r : (Int32 × MT)} {u : MT} (h : B_X11_by_25 w f x1 x2 x3 u = some r) : Fr wI_X11_by [] [] u r.2 := by
  rw [B_X11_by_25] at h
  obtain ⟨r8, er8, h⟩ := ok_b h
  have a_r8 : Fr wI_X11_by [] [] u r8.2 := Fr_tr (Fr_up Fs_n Fs_n Fs_n (fr_F_X11_dayOfLooks er8)) Fr_rfl
  obtain ⟨r10, er10, h⟩ := ok_b h
  have a_r10 : Fr wI_X11_by [] [] u r10.2 := Fr_tr (Fr_up Fs_n Fs_n Fs_n (fr_F_X8_inForce er10)) a_r8
  rcases ok_or h with h | h
  · skip
    cases h
    exact a_r10
  · skip
    have h := (ok_ck h).2
    obtain ⟨r14, er14, h⟩ := ok_b h
    have a_r14 : Fr wI_X11_by [] [] u r14.2 := Fr_tr (Fr_up Fs_n Fs_n Fs_n (fr_F_X11_isIn er14)) a_r10
    rcases ok_or h with h | h
    · skip
      cases h
      exact a_r14
    · skip
      rcases ok_or h with h | h
      · skip
        have h := (ok_ck h).2
        have h := (ok_ck h).2
        rcases ok_or h with h | h
        · skip
          exact Fr_tr (fr_B_X11_by_84 h) a_r14
        · skip
          cases h
          exact a_r14
      · skip
        exact Fr_tr (fr_B_X11_by_84 h) a_r14
theorem fr_F_X11_by {w : LT} {f : Nat} {x1 : Int32} {x2 : Int32} {x3 : Int32} {r : (Int32 × MT)} {u : MT} (h : F_X11_by w f x1 x2 x3 u = some r) : Fr wI_X11_by [] [] u r.2 := by
  rw [F_X11_by] at h
  obtain ⟨r1, er1, h⟩ := ok_b h
  have a_r1 : Fr wI_X11_by [] [] u r1.2 := Fr_tr (Fr_up Fs_n Fs_n Fs_n (fr_F_X11_isQuarter er1)) Fr_rfl
  rcases ok_or h with h | h
  · skip
    cases h
    exact a_r1
  · skip
    rcases ok_or h with h | h
    · skip
      exact Fr_tr (fr_B_X11_by_25 h) a_r1
    · skip
      obtain ⟨r5, er5, h⟩ := ok_b h
      have a_r5 : Fr wI_X11_by [] [] u r5.2 := Fr_tr (Fr_up Fs_n Fs_n Fs_n (fr_F_X2_has er5)) a_r1
      rcases ok_or h with h | h
      · skip
        cases h
        exact a_r5
      · skip
        exact Fr_tr (fr_B_X11_by_25 h) a_r5
abbrev wI_X11_would (w : LT) : WL := [(lt_p w 100 9, 1, 6), (127, 1, 0), (127, 1, 4), (127, 1, 2), (127, 1, 6), (127, 1, 5), (127, 1, 9), (127, 1, 10), (127, 1, 7), (127, 1, 8), ((lt_p w 100 9) + 5, 1, 0), ((lt_p w 100 9) + 2, 1, 0), ((lt_p w 100 9) + 3, 1, 0), ((lt_p w 100 9) + 4, 1, 0), (125, 1, 0), (116, 1, 5), (120, 1, 0), (116, 1, 6), (121, 1, 0), (117, 1, 0), (118, 1, 0), (119, 1, 0), (126, 1, 0), (122, 1, 0), (116, 1, 13), (123, 1, 0), (124, 1, 0), (127, 1, 3), (116, 1, 18), (127, 1, 1), ((lt_p w 100 9) + 1, 1, 0), (116, 1, 4), (116, 1, 17), (lt_p w 100 9, 1, 5)]
theorem fr_F_X11_would {w : LT} {f : Nat} {x1 : Int32} {x2 : Int32} {r : (Int32 × MT)} {u : MT} (h : F_X11_would w f x1 x2 u = some r) : Fr (wI_X11_would w) [] [] u r.2 := by
  rw [F_X11_would] at h
  rcases ok_or h with h | h
  · skip
    cases h
    exact Fr_rfl
  · skip
    obtain ⟨r2, er2, h⟩ := ok_b h
    have a_r2 : Fr (wI_X11_would w) [] [] u r2.2 := Fr_tr (Fr_up Fs_n Fs_n Fs_n (fr_F_X2_has er2)) Fr_rfl
    rcases ok_or h with h | h
    · skip
      cases h
      exact a_r2
    · skip
      obtain ⟨r5, er5, h⟩ := ok_b h
      have a_r5 : Fr (wI_X11_would w) [] [] u r5.2 := Fr_tr (Fr_up Fs_n Fs_n Fs_n (fr_F_X11_isQuarter er5)) a_r2
      rcases ok_or h with h | h
      · skip
        cases h
        exact a_r5
      · skip
        obtain ⟨r8, er8, h⟩ := ok_b h
        have a_r8 : Fr (wI_X11_would w) [] [] u r8.2 := Fr_tr (Fr_up Fs_n Fs_n Fs_n (fr_F_X11_dayOfLooks er8)) a_r5
        have h := (ok_ck h).2
        obtain ⟨r11, er11, h⟩ := ok_b h
        have a_r11 : Fr (wI_X11_would w) [] [] u r11 := Fr_tr (Fr_up (Fs_c (List.mem_of_getElem? (i := 0) rfl) (Fs_c (List.mem_of_getElem? (i := 1) rfl) (Fs_c (List.mem_of_getElem? (i := 2) rfl) (Fs_c (List.mem_of_getElem? (i := 3) rfl) (Fs_c (List.mem_of_getElem? (i := 4) rfl) (Fs_c (List.mem_of_getElem? (i := 5) rfl) (Fs_c (List.mem_of_getElem? (i := 6) rfl) (Fs_c (List.mem_of_getElem? (i := 7) rfl) (Fs_c (List.mem_of_getElem? (i := 8) rfl) (Fs_c (List.mem_of_getElem? (i := 9) rfl) (Fs_c (List.mem_of_getElem? (i := 10) rfl) (Fs_c (List.mem_of_getElem? (i := 11) rfl) (Fs_c (List.mem_of_getElem? (i := 12) rfl) (Fs_c (List.mem_of_getElem? (i := 13) rfl) (Fs_c (List.mem_of_getElem? (i := 14) rfl) (Fs_c (List.mem_of_getElem? (i := 15) rfl) (Fs_c (List.mem_of_getElem? (i := 16) rfl) (Fs_c (List.mem_of_getElem? (i := 17) rfl) (Fs_c (List.mem_of_getElem? (i := 18) rfl) (Fs_c (List.mem_of_getElem? (i := 19) rfl) (Fs_c (List.mem_of_getElem? (i := 20) rfl) (Fs_c (List.mem_of_getElem? (i := 21) rfl) (Fs_c (List.mem_of_getElem? (i := 22) rfl) (Fs_c (List.mem_of_getElem? (i := 23) rfl) (Fs_c (List.mem_of_getElem? (i := 24) rfl) (Fs_c (List.mem_of_getElem? (i := 25) rfl) (Fs_c (List.mem_of_getElem? (i := 26) rfl) (Fs_c (List.mem_of_getElem? (i := 27) rfl) (Fs_c (List.mem_of_getElem? (i := 28) rfl) (Fs_c (List.mem_of_getElem? (i := 29) rfl) (Fs_c (List.mem_of_getElem? (i := 30) rfl) (Fs_c (List.mem_of_getElem? (i := 31) rfl) (Fs_c (List.mem_of_getElem? (i := 32) rfl) (Fs_c (List.mem_of_getElem? (i := 33) rfl) Fs_n)))))))))))))))))))))))))))))))))) Fs_n Fs_n (fr_F_X1_workTo er11)) a_r8
        obtain ⟨r13, er13, h⟩ := ok_b h
        have a_r13 : Fr (wI_X11_would w) [] [] u r13.2 := Fr_tr (Fr_up Fs_n Fs_n Fs_n (fr_F_X1_byRules er13)) a_r11
        cases h
        exact a_r13
abbrev wI_X11_bills : WL := [(136, 1, 2), (137, 1, 0), (130, 1, 6), (127, 1, 0), (127, 1, 4), (127, 1, 2), (127, 1, 6), (127, 1, 5), (127, 1, 9), (127, 1, 10), (127, 1, 7), (127, 1, 8), (135, 1, 0), (132, 1, 0), (133, 1, 0), (134, 1, 0), (125, 1, 0), (116, 1, 5), (120, 1, 0), (116, 1, 6), (121, 1, 0), (117, 1, 0), (118, 1, 0), (119, 1, 0), (126, 1, 0), (122, 1, 0), (116, 1, 13), (123, 1, 0), (124, 1, 0), (127, 1, 3), (116, 1, 18), (127, 1, 1), (131, 1, 0), (116, 1, 4), (116, 1, 17), (130, 1, 5)]
theorem fr_B_X11_bills_40 {w : LT} {f : Nat} {r : (Int32 × MT)} : ∀ (n : Nat) (x1 : Int32) (x2 : Int32) (x3 : Int32) (u : MT), B_X11_bills_40 w f n x1 x2 x3 u = some r → Fr wI_X11_bills [] [] u r.2 := by
  intro n
  induction n with
  | zero => intro x1 x2 x3 u h; rw [B_X11_bills_40] at h; cases h
  | succ n ih =>
    intro x1 x2 x3 u h
    rw [B_X11_bills_40] at h
    rcases ok_or h with h | h
    · skip
      cases h
      exact (Fr_sIk (List.mem_of_getElem? (i := 0) rfl) Fr_rfl)
    · skip
      obtain ⟨r8, er8, h⟩ := ok_b h
      have a_r8 : Fr wI_X11_bills [] [] u r8.2 := Fr_tr (Fr_up Fs_n Fs_n Fs_n (fr_F_X1_coinsUpTo er8)) Fr_rfl
      obtain ⟨r10, er10, h⟩ := ok_b h
      have a_r10 : Fr wI_X11_bills [] [] u r10 := Fr_tr (Fr_up (Fs_c (List.mem_of_getElem? (i := 1) rfl) Fs_n) Fs_n Fs_n (fr_F_X0_write er10)) a_r8
      exact Fr_tr (ih _ _ _ _ h) a_r10
theorem fr_F_X11_bills {w : LT} {f : Nat} {r : (Int32 × MT)} {u : MT} (h : F_X11_bills w f u = some r) : Fr wI_X11_bills [] [] u r.2 := by
  rw [F_X11_bills] at h
  rcases ok_or h with h | h
  · skip
    obtain ⟨r4, er4, h⟩ := ok_b h
    have a_r4 : Fr wI_X11_bills [] [] u r4 := Fr_tr (Fr_up (Fs_c (List.mem_of_getElem? (i := 2) rfl) (Fs_c (List.mem_of_getElem? (i := 3) rfl) (Fs_c (List.mem_of_getElem? (i := 4) rfl) (Fs_c (List.mem_of_getElem? (i := 5) rfl) (Fs_c (List.mem_of_getElem? (i := 6) rfl) (Fs_c (List.mem_of_getElem? (i := 7) rfl) (Fs_c (List.mem_of_getElem? (i := 8) rfl) (Fs_c (List.mem_of_getElem? (i := 9) rfl) (Fs_c (List.mem_of_getElem? (i := 10) rfl) (Fs_c (List.mem_of_getElem? (i := 11) rfl) (Fs_c (List.mem_of_getElem? (i := 12) rfl) (Fs_c (List.mem_of_getElem? (i := 13) rfl) (Fs_c (List.mem_of_getElem? (i := 14) rfl) (Fs_c (List.mem_of_getElem? (i := 15) rfl) (Fs_c (List.mem_of_getElem? (i := 16) rfl) (Fs_c (List.mem_of_getElem? (i := 17) rfl) (Fs_c (List.mem_of_getElem? (i := 18) rfl) (Fs_c (List.mem_of_getElem? (i := 19) rfl) (Fs_c (List.mem_of_getElem? (i := 20) rfl) (Fs_c (List.mem_of_getElem? (i := 21) rfl) (Fs_c (List.mem_of_getElem? (i := 22) rfl) (Fs_c (List.mem_of_getElem? (i := 23) rfl) (Fs_c (List.mem_of_getElem? (i := 24) rfl) (Fs_c (List.mem_of_getElem? (i := 25) rfl) (Fs_c (List.mem_of_getElem? (i := 26) rfl) (Fs_c (List.mem_of_getElem? (i := 27) rfl) (Fs_c (List.mem_of_getElem? (i := 28) rfl) (Fs_c (List.mem_of_getElem? (i := 29) rfl) (Fs_c (List.mem_of_getElem? (i := 30) rfl) (Fs_c (List.mem_of_getElem? (i := 31) rfl) (Fs_c (List.mem_of_getElem? (i := 32) rfl) (Fs_c (List.mem_of_getElem? (i := 33) rfl) (Fs_c (List.mem_of_getElem? (i := 34) rfl) (Fs_c (List.mem_of_getElem? (i := 35) rfl) Fs_n)))))))))))))))))))))))))))))))))) Fs_n Fs_n (fr_F_X1_workTo er4)) Fr_rfl
    exact Fr_tr (fr_B_X11_bills_40 _ _ _ _ _ h) a_r4
  · skip
    cases h
    exact Fr_rfl
theorem fr_B_X11_bill_35 {f : Nat} {r : (Int32 × MT)} {u : MT} (h : B_X11_bill_35 f u = some r) : Fr [] [] [] u r.2 := by
  rw [B_X11_bill_35] at h
  cases h
theorem fr_F_X11_bill {f : Nat} {x1 : Int32} {x2 : Int32} {r : (Int32 × MT)} {u : MT} (h : F_X11_bill f x1 x2 u = some r) : Fr [] [] [] u r.2 := by
  rw [F_X11_bill] at h
  obtain ⟨r1, er1, h⟩ := ok_b h
  have a_r1 : Fr [] [] [] u r1.2 := Fr_tr (Fr_up Fs_n Fs_n Fs_n (fr_F_X11_isIn er1)) Fr_rfl
  rcases ok_or h with h | h
  · skip
    exact Fr_tr (fr_B_X11_bill_35 h) a_r1
  · skip
    obtain ⟨r4, er4, h⟩ := ok_b h
    have a_r4 : Fr [] [] [] u r4.2 := Fr_tr (Fr_up Fs_n Fs_n Fs_n (fr_F_X11_isIn er4)) a_r1
    rcases ok_or h with h | h
    · skip
      exact Fr_tr (fr_B_X11_bill_35 h) a_r4
    · skip
      obtain ⟨r7, er7, h⟩ := ok_b h
      have a_r7 : Fr [] [] [] u r7.2 := Fr_tr (Fr_up Fs_n Fs_n Fs_n (fr_F_X0_slot er7)) a_r4
      have h := (ok_ck h).2
      cases h
      exact a_r7
theorem fr_F_X11_count {w : LT} {f : Nat} {x1 : Int32} {r : (Int32 × MT)} {u : MT} (h : F_X11_count w f x1 u = some r) : Fr [] [] [] u r.2 := by
  rw [F_X11_count] at h
  rcases ok_or h with h | h
  · skip
    cases h
    exact Fr_rfl
  · skip
    rcases ok_or h with h | h
    · skip
      cases h
      exact Fr_rfl
    · skip
      rcases ok_or h with h | h
      · skip
        cases h
        exact Fr_rfl
      · skip
        rcases ok_or h with h | h
        · skip
          cases h
          exact Fr_rfl
        · skip
          rcases ok_or h with h | h
          · skip
            cases h
            exact Fr_rfl
          · skip
            rcases ok_or h with h | h
            · skip
              cases h
              exact Fr_rfl
            · skip
              rcases ok_or h with h | h
              · skip
                obtain ⟨r8, er8, h⟩ := ok_b h
                have a_r8 : Fr [] [] [] u r8.2 := Fr_tr (Fr_up Fs_n Fs_n Fs_n (fr_F_X8_rulesOfLatest er8)) Fr_rfl
                cases h
                exact a_r8
              · skip
                rcases ok_or h with h | h
                · skip
                  cases h
                  exact Fr_rfl
                · skip
                  rcases ok_or h with h | h
                  · skip
                    cases h
                    exact Fr_rfl
                  · skip
                    cases h
                    exact Fr_rfl
