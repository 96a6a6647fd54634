/-! owed, both sides -/
theorem jA_fill_L {v : Int32} {s : Sg} : ∀ m x F f, x + m = 10 → m < F → (∀ j, j < x → f j = v) → ∃ f2, (∀ j, j < 10 → f2 j = v) ∧ jA_fill_5 F v (nn x) (sc s 190 f) = some (sc s 190 f2) := by
  intro m
  induction m with
  | zero =>
    intro x F f hx hF hf
    obtain ⟨F, rfl⟩ : ∃ F2, F = F2 + 1 := ⟨F - 1, by omega⟩
    have : x = 10 := by omega
    subst this
    refine ⟨f, hf, ?_⟩
    unfold jA_fill_5
    exact if_pos (by decide)
  | succ m ih =>
    intro x F f hx hF hf
    obtain ⟨F, rfl⟩ : ∃ F2, F = F2 + 1 := ⟨F - 1, by omega⟩
    have h2 : ¬ 10 ≤ x := by omega
    have h1 : x < 10 := by omega
    obtain ⟨f2, h3, h4⟩ := ih (x + 1) F (up1 f x v) (by omega) (by omega) (fun j hj => by
      by_cases e : j = x
      · rw [e, up1_eq]
      · rw [up1_ne e]; exact hf j (by omega))
    refine ⟨f2, h3, ?_⟩
    unfold jA_fill_5
    refine st_f (by simp (disch := first | omega | decide) only [lt1, nnMl, nnMr, nnAl, nnAr, nnA, nnM, nnB, nnT, nnP, nnE, nnEl, nnEr, nnL, nnLl, nnLr, nnQ, nnQr, nnN, Nat.add_zero, if_false, if_true, Option.bind_some, not_true, not_false_iff, not_true_eq_false, not_false_eq_true, eq_self, Nat.not_lt_zero, z10, z01, or_true, true_or, or_false, false_or, true_and, false_and, h2]) (st_w (by simp (disch := first | omega | decide) only [lt1, nnMl, nnMr, nnAl, nnAr, nnA, nnM, nnB, nnT, nnP, nnE, nnEl, nnEr, nnL, nnLl, nnLr, nnQ, nnQr, nnN, Nat.add_zero, if_false, if_true, Option.bind_some, not_true, not_false_iff, not_true_eq_false, not_false_eq_true, eq_self, Nat.not_lt_zero, z10, z01, or_true, true_or, or_false, false_or, true_and, false_and, h1]) ?_)
    rw [nnT (by omega), sc_u, show nn x + 1 = nn (x + 1) from nnA x 1]
    exact h4
theorem jA_fill_y {v : Int32} {s : Sg} {F : Nat} (hF : 10 < F) : ∃ f2, (∀ j, j < 10 → f2 j = v) ∧ jA_fill F v s = some (sc s 190 f2) := by
  obtain ⟨f2, h1, h2⟩ := jA_fill_L (v := v) (s := s) 10 0 F (s 190) (by omega) hF (fun j hj => absurd hj (by omega))
  rw [sc_s] at h2
  exact ⟨f2, h1, h2⟩
theorem jA_fill_c1_L {v : Int32} {s : Sg} : ∀ m x F f, x + m = 8 → m < F → (∀ j, j < x → f j = v) → ∃ f2, (∀ j, j < 8 → f2 j = v) ∧ jA_fill_c1_5 F v (nn x) (sc s 201 f) = some (sc s 201 f2) := by
  intro m
  induction m with
  | zero =>
    intro x F f hx hF hf
    obtain ⟨F, rfl⟩ : ∃ F2, F = F2 + 1 := ⟨F - 1, by omega⟩
    have : x = 8 := by omega
    subst this
    refine ⟨f, hf, ?_⟩
    unfold jA_fill_c1_5
    exact if_pos (by decide)
  | succ m ih =>
    intro x F f hx hF hf
    obtain ⟨F, rfl⟩ : ∃ F2, F = F2 + 1 := ⟨F - 1, by omega⟩
    have h2 : ¬ 8 ≤ x := by omega
    have h1 : x < 8 := by omega
    obtain ⟨f2, h3, h4⟩ := ih (x + 1) F (up1 f x v) (by omega) (by omega) (fun j hj => by
      by_cases e : j = x
      · rw [e, up1_eq]
      · rw [up1_ne e]; exact hf j (by omega))
    refine ⟨f2, h3, ?_⟩
    unfold jA_fill_c1_5
    refine st_f (by simp (disch := first | omega | decide) only [lt1, nnMl, nnMr, nnAl, nnAr, nnA, nnM, nnB, nnT, nnP, nnE, nnEl, nnEr, nnL, nnLl, nnLr, nnQ, nnQr, nnN, Nat.add_zero, if_false, if_true, Option.bind_some, not_true, not_false_iff, not_true_eq_false, not_false_eq_true, eq_self, Nat.not_lt_zero, z10, z01, or_true, true_or, or_false, false_or, true_and, false_and, h2]) (st_w (by simp (disch := first | omega | decide) only [lt1, nnMl, nnMr, nnAl, nnAr, nnA, nnM, nnB, nnT, nnP, nnE, nnEl, nnEr, nnL, nnLl, nnLr, nnQ, nnQr, nnN, Nat.add_zero, if_false, if_true, Option.bind_some, not_true, not_false_iff, not_true_eq_false, not_false_eq_true, eq_self, Nat.not_lt_zero, z10, z01, or_true, true_or, or_false, false_or, true_and, false_and, h1]) ?_)
    rw [nnT (by omega), sc_u, show nn x + 1 = nn (x + 1) from nnA x 1]
    exact h4
theorem jA_fill_c1_y {v : Int32} {s : Sg} {F : Nat} (hF : 8 < F) : ∃ f2, (∀ j, j < 8 → f2 j = v) ∧ jA_fill_c1 F v s = some (sc s 201 f2) := by
  obtain ⟨f2, h1, h2⟩ := jA_fill_c1_L (v := v) (s := s) 8 0 F (s 201) (by omega) hF (fun j hj => absurd hj (by omega))
  rw [sc_s] at h2
  exact ⟨f2, h1, h2⟩
theorem jA_fill_c2_L {v : Int32} {s : Sg} : ∀ m x F f, x + m = 168 → m < F → (∀ j, j < x → f j = v) → ∃ f2, (∀ j, j < 168 → f2 j = v) ∧ jA_fill_c2_5 F v (nn x) (sc s 207 f) = some (sc s 207 f2) := by
  intro m
  induction m with
  | zero =>
    intro x F f hx hF hf
    obtain ⟨F, rfl⟩ : ∃ F2, F = F2 + 1 := ⟨F - 1, by omega⟩
    have : x = 168 := by omega
    subst this
    refine ⟨f, hf, ?_⟩
    unfold jA_fill_c2_5
    exact if_pos (by decide)
  | succ m ih =>
    intro x F f hx hF hf
    obtain ⟨F, rfl⟩ : ∃ F2, F = F2 + 1 := ⟨F - 1, by omega⟩
    have h2 : ¬ 168 ≤ x := by omega
    have h1 : x < 168 := by omega
    obtain ⟨f2, h3, h4⟩ := ih (x + 1) F (up1 f x v) (by omega) (by omega) (fun j hj => by
      by_cases e : j = x
      · rw [e, up1_eq]
      · rw [up1_ne e]; exact hf j (by omega))
    refine ⟨f2, h3, ?_⟩
    unfold jA_fill_c2_5
    refine st_f (by simp (disch := first | omega | decide) only [lt1, nnMl, nnMr, nnAl, nnAr, nnA, nnM, nnB, nnT, nnP, nnE, nnEl, nnEr, nnL, nnLl, nnLr, nnQ, nnQr, nnN, Nat.add_zero, if_false, if_true, Option.bind_some, not_true, not_false_iff, not_true_eq_false, not_false_eq_true, eq_self, Nat.not_lt_zero, z10, z01, or_true, true_or, or_false, false_or, true_and, false_and, h2]) (st_w (by simp (disch := first | omega | decide) only [lt1, nnMl, nnMr, nnAl, nnAr, nnA, nnM, nnB, nnT, nnP, nnE, nnEl, nnEr, nnL, nnLl, nnLr, nnQ, nnQr, nnN, Nat.add_zero, if_false, if_true, Option.bind_some, not_true, not_false_iff, not_true_eq_false, not_false_eq_true, eq_self, Nat.not_lt_zero, z10, z01, or_true, true_or, or_false, false_or, true_and, false_and, h1]) ?_)
    rw [nnT (by omega), sc_u, show nn x + 1 = nn (x + 1) from nnA x 1]
    exact h4
theorem jA_fill_c2_y {v : Int32} {s : Sg} {F : Nat} (hF : 168 < F) : ∃ f2, (∀ j, j < 168 → f2 j = v) ∧ jA_fill_c2 F v s = some (sc s 207 f2) := by
  obtain ⟨f2, h1, h2⟩ := jA_fill_c2_L (v := v) (s := s) 168 0 F (s 207) (by omega) hF (fun j hj => absurd hj (by omega))
  rw [sc_s] at h2
  exact ⟨f2, h1, h2⟩
theorem jA_fill_c3_L {v : Int32} {s : Sg} : ∀ m x F f, x + m = 8 → m < F → (∀ j, j < x → f j = v) → ∃ f2, (∀ j, j < 8 → f2 j = v) ∧ jA_fill_c3_5 F v (nn x) (sc s 202 f) = some (sc s 202 f2) := by
  intro m
  induction m with
  | zero =>
    intro x F f hx hF hf
    obtain ⟨F, rfl⟩ : ∃ F2, F = F2 + 1 := ⟨F - 1, by omega⟩
    have : x = 8 := by omega
    subst this
    refine ⟨f, hf, ?_⟩
    unfold jA_fill_c3_5
    exact if_pos (by decide)
  | succ m ih =>
    intro x F f hx hF hf
    obtain ⟨F, rfl⟩ : ∃ F2, F = F2 + 1 := ⟨F - 1, by omega⟩
    have h2 : ¬ 8 ≤ x := by omega
    have h1 : x < 8 := by omega
    obtain ⟨f2, h3, h4⟩ := ih (x + 1) F (up1 f x v) (by omega) (by omega) (fun j hj => by
      by_cases e : j = x
      · rw [e, up1_eq]
      · rw [up1_ne e]; exact hf j (by omega))
    refine ⟨f2, h3, ?_⟩
    unfold jA_fill_c3_5
    refine st_f (by simp (disch := first | omega | decide) only [lt1, nnMl, nnMr, nnAl, nnAr, nnA, nnM, nnB, nnT, nnP, nnE, nnEl, nnEr, nnL, nnLl, nnLr, nnQ, nnQr, nnN, Nat.add_zero, if_false, if_true, Option.bind_some, not_true, not_false_iff, not_true_eq_false, not_false_eq_true, eq_self, Nat.not_lt_zero, z10, z01, or_true, true_or, or_false, false_or, true_and, false_and, h2]) (st_w (by simp (disch := first | omega | decide) only [lt1, nnMl, nnMr, nnAl, nnAr, nnA, nnM, nnB, nnT, nnP, nnE, nnEl, nnEr, nnL, nnLl, nnLr, nnQ, nnQr, nnN, Nat.add_zero, if_false, if_true, Option.bind_some, not_true, not_false_iff, not_true_eq_false, not_false_eq_true, eq_self, Nat.not_lt_zero, z10, z01, or_true, true_or, or_false, false_or, true_and, false_and, h1]) ?_)
    rw [nnT (by omega), sc_u, show nn x + 1 = nn (x + 1) from nnA x 1]
    exact h4
theorem jA_fill_c3_y {v : Int32} {s : Sg} {F : Nat} (hF : 8 < F) : ∃ f2, (∀ j, j < 8 → f2 j = v) ∧ jA_fill_c3 F v s = some (sc s 202 f2) := by
  obtain ⟨f2, h1, h2⟩ := jA_fill_c3_L (v := v) (s := s) 8 0 F (s 202) (by omega) hF (fun j hj => absurd hj (by omega))
  rw [sc_s] at h2
  exact ⟨f2, h1, h2⟩
theorem jA_fill_c4_L {v : Int32} {s : Sg} : ∀ m x F f, x + m = 8 → m < F → (∀ j, j < x → f j = v) → ∃ f2, (∀ j, j < 8 → f2 j = v) ∧ jA_fill_c4_5 F v (nn x) (sc s 203 f) = some (sc s 203 f2) := by
  intro m
  induction m with
  | zero =>
    intro x F f hx hF hf
    obtain ⟨F, rfl⟩ : ∃ F2, F = F2 + 1 := ⟨F - 1, by omega⟩
    have : x = 8 := by omega
    subst this
    refine ⟨f, hf, ?_⟩
    unfold jA_fill_c4_5
    exact if_pos (by decide)
  | succ m ih =>
    intro x F f hx hF hf
    obtain ⟨F, rfl⟩ : ∃ F2, F = F2 + 1 := ⟨F - 1, by omega⟩
    have h2 : ¬ 8 ≤ x := by omega
    have h1 : x < 8 := by omega
    obtain ⟨f2, h3, h4⟩ := ih (x + 1) F (up1 f x v) (by omega) (by omega) (fun j hj => by
      by_cases e : j = x
      · rw [e, up1_eq]
      · rw [up1_ne e]; exact hf j (by omega))
    refine ⟨f2, h3, ?_⟩
    unfold jA_fill_c4_5
    refine st_f (by simp (disch := first | omega | decide) only [lt1, nnMl, nnMr, nnAl, nnAr, nnA, nnM, nnB, nnT, nnP, nnE, nnEl, nnEr, nnL, nnLl, nnLr, nnQ, nnQr, nnN, Nat.add_zero, if_false, if_true, Option.bind_some, not_true, not_false_iff, not_true_eq_false, not_false_eq_true, eq_self, Nat.not_lt_zero, z10, z01, or_true, true_or, or_false, false_or, true_and, false_and, h2]) (st_w (by simp (disch := first | omega | decide) only [lt1, nnMl, nnMr, nnAl, nnAr, nnA, nnM, nnB, nnT, nnP, nnE, nnEl, nnEr, nnL, nnLl, nnLr, nnQ, nnQr, nnN, Nat.add_zero, if_false, if_true, Option.bind_some, not_true, not_false_iff, not_true_eq_false, not_false_eq_true, eq_self, Nat.not_lt_zero, z10, z01, or_true, true_or, or_false, false_or, true_and, false_and, h1]) ?_)
    rw [nnT (by omega), sc_u, show nn x + 1 = nn (x + 1) from nnA x 1]
    exact h4
theorem jA_fill_c4_y {v : Int32} {s : Sg} {F : Nat} (hF : 8 < F) : ∃ f2, (∀ j, j < 8 → f2 j = v) ∧ jA_fill_c4 F v s = some (sc s 203 f2) := by
  obtain ⟨f2, h1, h2⟩ := jA_fill_c4_L (v := v) (s := s) 8 0 F (s 203) (by omega) hF (fun j hj => absurd hj (by omega))
  rw [sc_s] at h2
  exact ⟨f2, h1, h2⟩
theorem jA_fill_c5_L {v : Int32} {s : Sg} : ∀ m x F f, x + m = 4 → m < F → (∀ j, j < x → f j = v) → ∃ f2, (∀ j, j < 4 → f2 j = v) ∧ jA_fill_c5_5 F v (nn x) (sc s 212 f) = some (sc s 212 f2) := by
  intro m
  induction m with
  | zero =>
    intro x F f hx hF hf
    obtain ⟨F, rfl⟩ : ∃ F2, F = F2 + 1 := ⟨F - 1, by omega⟩
    have : x = 4 := by omega
    subst this
    refine ⟨f, hf, ?_⟩
    unfold jA_fill_c5_5
    exact if_pos (by decide)
  | succ m ih =>
    intro x F f hx hF hf
    obtain ⟨F, rfl⟩ : ∃ F2, F = F2 + 1 := ⟨F - 1, by omega⟩
    have h2 : ¬ 4 ≤ x := by omega
    have h1 : x < 4 := by omega
    obtain ⟨f2, h3, h4⟩ := ih (x + 1) F (up1 f x v) (by omega) (by omega) (fun j hj => by
      by_cases e : j = x
      · rw [e, up1_eq]
      · rw [up1_ne e]; exact hf j (by omega))
    refine ⟨f2, h3, ?_⟩
    unfold jA_fill_c5_5
    refine st_f (by simp (disch := first | omega | decide) only [lt1, nnMl, nnMr, nnAl, nnAr, nnA, nnM, nnB, nnT, nnP, nnE, nnEl, nnEr, nnL, nnLl, nnLr, nnQ, nnQr, nnN, Nat.add_zero, if_false, if_true, Option.bind_some, not_true, not_false_iff, not_true_eq_false, not_false_eq_true, eq_self, Nat.not_lt_zero, z10, z01, or_true, true_or, or_false, false_or, true_and, false_and, h2]) (st_w (by simp (disch := first | omega | decide) only [lt1, nnMl, nnMr, nnAl, nnAr, nnA, nnM, nnB, nnT, nnP, nnE, nnEl, nnEr, nnL, nnLl, nnLr, nnQ, nnQr, nnN, Nat.add_zero, if_false, if_true, Option.bind_some, not_true, not_false_iff, not_true_eq_false, not_false_eq_true, eq_self, Nat.not_lt_zero, z10, z01, or_true, true_or, or_false, false_or, true_and, false_and, h1]) ?_)
    rw [nnT (by omega), sc_u, show nn x + 1 = nn (x + 1) from nnA x 1]
    exact h4
theorem jA_fill_c5_y {v : Int32} {s : Sg} {F : Nat} (hF : 4 < F) : ∃ f2, (∀ j, j < 4 → f2 j = v) ∧ jA_fill_c5 F v s = some (sc s 212 f2) := by
  obtain ⟨f2, h1, h2⟩ := jA_fill_c5_L (v := v) (s := s) 4 0 F (s 212) (by omega) hF (fun j hj => absurd hj (by omega))
  rw [sc_s] at h2
  exact ⟨f2, h1, h2⟩
theorem jA_fill_c6_L {v : Int32} {s : Sg} : ∀ m x F f, x + m = 4 → m < F → (∀ j, j < x → f j = v) → ∃ f2, (∀ j, j < 4 → f2 j = v) ∧ jA_fill_c6_5 F v (nn x) (sc s 213 f) = some (sc s 213 f2) := by
  intro m
  induction m with
  | zero =>
    intro x F f hx hF hf
    obtain ⟨F, rfl⟩ : ∃ F2, F = F2 + 1 := ⟨F - 1, by omega⟩
    have : x = 4 := by omega
    subst this
    refine ⟨f, hf, ?_⟩
    unfold jA_fill_c6_5
    exact if_pos (by decide)
  | succ m ih =>
    intro x F f hx hF hf
    obtain ⟨F, rfl⟩ : ∃ F2, F = F2 + 1 := ⟨F - 1, by omega⟩
    have h2 : ¬ 4 ≤ x := by omega
    have h1 : x < 4 := by omega
    obtain ⟨f2, h3, h4⟩ := ih (x + 1) F (up1 f x v) (by omega) (by omega) (fun j hj => by
      by_cases e : j = x
      · rw [e, up1_eq]
      · rw [up1_ne e]; exact hf j (by omega))
    refine ⟨f2, h3, ?_⟩
    unfold jA_fill_c6_5
    refine st_f (by simp (disch := first | omega | decide) only [lt1, nnMl, nnMr, nnAl, nnAr, nnA, nnM, nnB, nnT, nnP, nnE, nnEl, nnEr, nnL, nnLl, nnLr, nnQ, nnQr, nnN, Nat.add_zero, if_false, if_true, Option.bind_some, not_true, not_false_iff, not_true_eq_false, not_false_eq_true, eq_self, Nat.not_lt_zero, z10, z01, or_true, true_or, or_false, false_or, true_and, false_and, h2]) (st_w (by simp (disch := first | omega | decide) only [lt1, nnMl, nnMr, nnAl, nnAr, nnA, nnM, nnB, nnT, nnP, nnE, nnEl, nnEr, nnL, nnLl, nnLr, nnQ, nnQr, nnN, Nat.add_zero, if_false, if_true, Option.bind_some, not_true, not_false_iff, not_true_eq_false, not_false_eq_true, eq_self, Nat.not_lt_zero, z10, z01, or_true, true_or, or_false, false_or, true_and, false_and, h1]) ?_)
    rw [nnT (by omega), sc_u, show nn x + 1 = nn (x + 1) from nnA x 1]
    exact h4
theorem jA_fill_c6_y {v : Int32} {s : Sg} {F : Nat} (hF : 4 < F) : ∃ f2, (∀ j, j < 4 → f2 j = v) ∧ jA_fill_c6 F v s = some (sc s 213 f2) := by
  obtain ⟨f2, h1, h2⟩ := jA_fill_c6_L (v := v) (s := s) 4 0 F (s 213) (by omega) hF (fun j hj => absurd hj (by omega))
  rw [sc_s] at h2
  exact ⟨f2, h1, h2⟩
theorem jA_fill_c7_L {v : Int32} {s : Sg} : ∀ m x F f, x + m = 4 → m < F → (∀ j, j < x → f j = v) → ∃ f2, (∀ j, j < 4 → f2 j = v) ∧ jA_fill_c7_5 F v (nn x) (sc s 214 f) = some (sc s 214 f2) := by
  intro m
  induction m with
  | zero =>
    intro x F f hx hF hf
    obtain ⟨F, rfl⟩ : ∃ F2, F = F2 + 1 := ⟨F - 1, by omega⟩
    have : x = 4 := by omega
    subst this
    refine ⟨f, hf, ?_⟩
    unfold jA_fill_c7_5
    exact if_pos (by decide)
  | succ m ih =>
    intro x F f hx hF hf
    obtain ⟨F, rfl⟩ : ∃ F2, F = F2 + 1 := ⟨F - 1, by omega⟩
    have h2 : ¬ 4 ≤ x := by omega
    have h1 : x < 4 := by omega
    obtain ⟨f2, h3, h4⟩ := ih (x + 1) F (up1 f x v) (by omega) (by omega) (fun j hj => by
      by_cases e : j = x
      · rw [e, up1_eq]
      · rw [up1_ne e]; exact hf j (by omega))
    refine ⟨f2, h3, ?_⟩
    unfold jA_fill_c7_5
    refine st_f (by simp (disch := first | omega | decide) only [lt1, nnMl, nnMr, nnAl, nnAr, nnA, nnM, nnB, nnT, nnP, nnE, nnEl, nnEr, nnL, nnLl, nnLr, nnQ, nnQr, nnN, Nat.add_zero, if_false, if_true, Option.bind_some, not_true, not_false_iff, not_true_eq_false, not_false_eq_true, eq_self, Nat.not_lt_zero, z10, z01, or_true, true_or, or_false, false_or, true_and, false_and, h2]) (st_w (by simp (disch := first | omega | decide) only [lt1, nnMl, nnMr, nnAl, nnAr, nnA, nnM, nnB, nnT, nnP, nnE, nnEl, nnEr, nnL, nnLl, nnLr, nnQ, nnQr, nnN, Nat.add_zero, if_false, if_true, Option.bind_some, not_true, not_false_iff, not_true_eq_false, not_false_eq_true, eq_self, Nat.not_lt_zero, z10, z01, or_true, true_or, or_false, false_or, true_and, false_and, h1]) ?_)
    rw [nnT (by omega), sc_u, show nn x + 1 = nn (x + 1) from nnA x 1]
    exact h4
theorem jA_fill_c7_y {v : Int32} {s : Sg} {F : Nat} (hF : 4 < F) : ∃ f2, (∀ j, j < 4 → f2 j = v) ∧ jA_fill_c7 F v s = some (sc s 214 f2) := by
  obtain ⟨f2, h1, h2⟩ := jA_fill_c7_L (v := v) (s := s) 4 0 F (s 214) (by omega) hF (fun j hj => absurd hj (by omega))
  rw [sc_s] at h2
  exact ⟨f2, h1, h2⟩
def ctr (o r j : Int32) : Int32 := if o = j ∧ ¬ r = j then 1 else if ¬ o = j ∧ r = j then -1 else 0
theorem ctr_o {o r j : Int32} (h1 : o = j) (h2 : ¬ r = j) : ctr o r j = 1 := if_pos ⟨h1, h2⟩
theorem ctr_r {o r j : Int32} (h1 : ¬ o = j) (h2 : r = j) : ctr o r j = -1 := (if_neg (fun e => h1 e.1)).trans (if_pos ⟨h1, h2⟩)
theorem ctr_n {o r j : Int32} (h1 : ¬ o = j) (h2 : ¬ r = j) : ctr o r j = 0 := (if_neg (fun e => h1 e.1)).trans (if_neg (fun e => h2 e.2))
theorem ctr_e {o r j : Int32} (h : o = r) : ctr o r j = 0 := by
  subst h
  exact (if_neg (fun e => e.2 e.1)).trans (if_neg (fun e => e.1 e.2))
theorem nnNe {a b : Nat} (ha : a < 2147483648) (hb : b < 2147483648) (h : a ≠ b) : ¬ nn a = nn b := fun e => h (by rwa [nnQ ha hb] at e)
theorem nnN1 {a : Nat} (ha : a < 2147483648) : ¬ (-1 : Int32) = nn a := fun e => by
  have := e.symm
  rw [nnN ha] at this
  exact this
theorem holder_neg {g : Sg} : x_isHolder (-1) g = some 0 := rfl
theorem cmp23 {s : Sg} {o r : Int32} {f : Nat → Int32} (hor : ¬ o = r) (hr : r = -1 ∨ ∃ n, n < 8 ∧ r = nn n) : ∃ f2, (∀ j, j < 8 → f2 j = f j + (if r = nn j then -1 else 0)) ∧ reckoning_compareHour_23 r (sc s 201 f) = some (sc s 201 f2) := by
  rcases hr with rfl | ⟨n, hn, rfl⟩
  · refine ⟨f, fun j hj => ?_, ?_⟩
    · rw [if_neg (nnN1 (by omega)), Int32.add_zero]
    · unfold reckoning_compareHour_23
      exact st_b holder_neg (st_t rfl rfl)
  · refine ⟨up1 f n (f n - 1), fun j hj => ?_, ?_⟩
    · by_cases e : j = n
      · subst e
        rw [up1_eq, if_pos rfl, Int32.sub_eq_add_neg]
      · rw [up1_ne e, if_neg (nnNe (by omega) (by omega) (fun q => e q.symm)), Int32.add_zero]
    · unfold reckoning_compareHour_23
      refine st_b (holder_y hn) (st_f (by decide) (st_t (by simp (disch := first | omega | decide) only [lt1, nnMl, nnMr, nnAl, nnAr, nnA, nnM, nnB, nnT, nnP, nnE, nnEl, nnEr, nnL, nnLl, nnLr, nnQ, nnQr, nnN, Nat.add_zero, if_false, if_true, Option.bind_some, not_true, not_false_iff, not_true_eq_false, not_false_eq_true, eq_self, Nat.not_lt_zero, z10, z01, or_true, true_or, or_false, false_or, true_and, false_and, hn]) (st_w (by simp (disch := first | omega | decide) only [lt1, nnMl, nnMr, nnAl, nnAr, nnA, nnM, nnB, nnT, nnP, nnE, nnEl, nnEr, nnL, nnLl, nnLr, nnQ, nnQr, nnN, Nat.add_zero, if_false, if_true, Option.bind_some, not_true, not_false_iff, not_true_eq_false, not_false_eq_true, eq_self, Nat.not_lt_zero, z10, z01, or_true, true_or, or_false, false_or, true_and, false_and, hn]) ?_)))
      rw [nnT (by omega), sc_e, sc_u]
theorem cmp_y {s : Sg} {o r : Int32} {f : Nat → Int32} (ho : o = -1 ∨ ∃ n, n < 8 ∧ o = nn n) (hr : r = -1 ∨ ∃ n, n < 8 ∧ r = nn n) : ∃ f2, (∀ j, j < 8 → f2 j = f j + ctr o r (nn j)) ∧ reckoning_compareHour o r (sc s 201 f) = some (sc s 201 f2) := by
  by_cases hor : o = r
  · refine ⟨f, fun j hj => ?_, ?_⟩
    · rw [ctr_e hor, Int32.add_zero]
    · unfold reckoning_compareHour
      exact st_f (fun e => e hor) rfl
  · rcases ho with rfl | ⟨n, hn, rfl⟩
    · obtain ⟨f2, h1, h2⟩ := cmp23 (s := s) (f := f) hor hr
      refine ⟨f2, fun j hj => ?_, ?_⟩
      · rw [h1 j hj]
        by_cases e : r = nn j
        · rw [if_pos e, ctr_r (nnN1 (by omega)) e]
        · rw [if_neg e, ctr_n (nnN1 (by omega)) e]
      · unfold reckoning_compareHour
        exact st_t hor (st_b holder_neg (st_t rfl h2))
    · obtain ⟨f2, h1, h2⟩ := cmp23 (s := s) (f := up1 f n (f n + 1)) hor hr
      refine ⟨f2, fun j hj => ?_, ?_⟩
      · rw [h1 j hj]
        by_cases e : j = n
        · subst e
          have hr2 : ¬ r = nn j := fun q => hor q.symm
          rw [up1_eq, if_neg hr2, ctr_o rfl hr2, Int32.add_zero]
        · have hn2 : ¬ nn n = nn j := nnNe (by omega) (by omega) (fun q => e q.symm)
          rw [up1_ne e]
          by_cases e2 : r = nn j
          · rw [if_pos e2, ctr_r hn2 e2]
          · rw [if_neg e2, ctr_n hn2 e2]
      · unfold reckoning_compareHour
        refine st_t hor (st_b (holder_y hn) (st_f (by decide) (st_t (by simp (disch := first | omega | decide) only [lt1, nnMl, nnMr, nnAl, nnAr, nnA, nnM, nnB, nnT, nnP, nnE, nnEl, nnEr, nnL, nnLl, nnLr, nnQ, nnQr, nnN, Nat.add_zero, if_false, if_true, Option.bind_some, not_true, not_false_iff, not_true_eq_false, not_false_eq_true, eq_self, Nat.not_lt_zero, z10, z01, or_true, true_or, or_false, false_or, true_and, false_and, hn]) (st_w (by simp (disch := first | omega | decide) only [lt1, nnMl, nnMr, nnAl, nnAr, nnA, nnM, nnB, nnT, nnP, nnE, nnEl, nnEr, nnL, nnLl, nnLr, nnQ, nnQr, nnN, Nat.add_zero, if_false, if_true, Option.bind_some, not_true, not_false_iff, not_true_eq_false, not_false_eq_true, eq_self, Nat.not_lt_zero, z10, z01, or_true, true_or, or_false, false_or, true_and, false_and, hn]) ?_))))
        rw [nnT (by omega), sc_e, sc_u]
        exact h2
section SM
variable {c g : Sg} {D N Q : Nat}
/-- what is owed to j of the first m hours -/
noncomputable def ow (c : Sg) (Q D m j : Nat) : Int32 := sumTo (fun i => ctr (ownS c (nn (i % 168)) (nn (i / 168)) (nn (Q / 96)) D) (c 30 i) (nn j)) m
theorem hoursL (h : RRig c (g 216) D N Q) (hQ : Q ≤ 9599) {s : Sg} (hs : ∀ i, 22 ≤ i → i ≤ 30 → s i = c i) {K : Int32 → Sg → Option Sg} {w : Nat} (hw : w < 100) {f : Nat → Int32} (hf : ∀ i, i < 168 → f i = ownS c (nn i) (nn w) (nn (Q / 96)) D) : ∀ m x F o, x + m = 168 → m < F → (∀ j, j < 8 → o j = ow c Q D (min (w * 168 + x) ((Q + 3) / 4)) j) → ∃ o2, (∀ j, j < 8 → o2 j = ow c Q D (min ((w + 1) * 168) ((Q + 3) / 4)) j) ∧ reckoning_reckonOwed_47 K F (nn w) (nn x) (sc (sc s 207 f) 201 o) = K (nn (w + 1)) (sc (sc s 207 f) 201 o2) := by
  intro m
  induction m with
  | zero =>
    intro x F o hx hF ho
    obtain ⟨F, rfl⟩ : ∃ F2, F = F2 + 1 := ⟨F - 1, by omega⟩
    have : x = 168 := by omega
    subst this
    refine ⟨o, fun j hj => by rw [ho j hj, show w * 168 + 168 = (w + 1) * 168 by omega], ?_⟩
    unfold reckoning_reckonOwed_47
    refine st_t (by decide) ?_
    rw [show nn w + 1 = nn (w + 1) from nnA w 1]
  | succ m ih =>
    intro x F o hx hF ho
    obtain ⟨F, rfl⟩ : ∃ F2, F = F2 + 1 := ⟨F - 1, by omega⟩
    have h2 : ¬ 168 ≤ x := by omega
    have h1 : x < 168 := by omega
    have e1 : nn w * 168 + nn x = nn (w * 168 + x) := by simp (disch := first | omega | decide) only [lt1, nnMl, nnMr, nnAl, nnAr, nnA, nnM, nnB, nnT, nnP, nnE, nnEl, nnEr, nnL, nnLl, nnLr, nnQ, nnQr, nnN, Nat.add_zero, if_false, if_true, Option.bind_some, not_true, not_false_iff, not_true_eq_false, not_false_eq_true, eq_self, Nat.not_lt_zero, z10, z01, or_true, true_or, or_false, false_or, true_and, false_and]
    have e2 : nn x + 1 = nn (x + 1) := nnA x 1
    have e3 : sc (sc s 207 f) 201 o 22 8 = nn ((Q + 3) / 4) := by rw [sc_n (by omega), sc_n (by omega), hs 22 (by omega) (by omega), h.cR]
    by_cases q : (Q + 3) / 4 ≤ w * 168 + x
    · obtain ⟨o2, r1, r2⟩ := ih (x + 1) F o (by omega) (by omega) (fun j hj => by
        rw [ho j hj, Nat.min_eq_right q, Nat.min_eq_right (by omega)])
      refine ⟨o2, r1, ?_⟩
      unfold reckoning_reckonOwed_47
      rw [e3, e1, e2]
      exact st_f (by simp (disch := first | omega | decide) only [lt1, nnMl, nnMr, nnAl, nnAr, nnA, nnM, nnB, nnT, nnP, nnE, nnEl, nnEr, nnL, nnLl, nnLr, nnQ, nnQr, nnN, Nat.add_zero, if_false, if_true, Option.bind_some, not_true, not_false_iff, not_true_eq_false, not_false_eq_true, eq_self, Nat.not_lt_zero, z10, z01, or_true, true_or, or_false, false_or, true_and, false_and, h2]) (st_l (st_t (by rw [nnE (by omega) (by omega)]; exact q) r2))
    · have q3 : ¬ 2400 ≤ w * 168 + x := by omega
      have q4 : w * 168 + x < 2400 := by omega
      obtain ⟨o3, h3, h4⟩ := cmp_y (s := sc s 207 f) (f := o) (ownS_v h (x := nn x) (w := nn w) (k := nn (Q / 96))) (h.runV _ q4)
      obtain ⟨o2, r1, r2⟩ := ih (x + 1) F o3 (by omega) (by omega) (fun j hj => by
        rw [h3 j hj, ho j hj, Nat.min_eq_left (by omega), Nat.min_eq_left (by omega)]
        show _ = ow c Q D (w * 168 + x) j + ctr (ownS c (nn ((w * 168 + x) % 168)) (nn ((w * 168 + x) / 168)) (nn (Q / 96)) D) (c 30 (w * 168 + x)) (nn j)
        rw [show (w * 168 + x) % 168 = x by omega, show (w * 168 + x) / 168 = w by omega])
      refine ⟨o2, r1, ?_⟩
      unfold reckoning_reckonOwed_47
      rw [e3, e1, e2]
      refine st_f (by simp (disch := first | omega | decide) only [lt1, nnMl, nnMr, nnAl, nnAr, nnA, nnM, nnB, nnT, nnP, nnE, nnEl, nnEr, nnL, nnLl, nnLr, nnQ, nnQr, nnN, Nat.add_zero, if_false, if_true, Option.bind_some, not_true, not_false_iff, not_true_eq_false, not_false_eq_true, eq_self, Nat.not_lt_zero, z10, z01, or_true, true_or, or_false, false_or, true_and, false_and, h2]) (st_l (st_f (by rw [nnE (by omega) (by omega)]; exact q) (st_f (by simp (disch := first | omega | decide) only [lt1, nnMl, nnMr, nnAl, nnAr, nnA, nnM, nnB, nnT, nnP, nnE, nnEl, nnEr, nnL, nnLl, nnLr, nnQ, nnQr, nnN, Nat.add_zero, if_false, if_true, Option.bind_some, not_true, not_false_iff, not_true_eq_false, not_false_eq_true, eq_self, Nat.not_lt_zero, z10, z01, or_true, true_or, or_false, false_or, true_and, false_and, q3]) (st_t (by simp (disch := first | omega | decide) only [lt1, nnMl, nnMr, nnAl, nnAr, nnA, nnM, nnB, nnT, nnP, nnE, nnEl, nnEr, nnL, nnLl, nnLr, nnQ, nnQr, nnN, Nat.add_zero, if_false, if_true, Option.bind_some, not_true, not_false_iff, not_true_eq_false, not_false_eq_true, eq_self, Nat.not_lt_zero, z10, z01, or_true, true_or, or_false, false_or, true_and, false_and, h1]) (st_t (by simp (disch := first | omega | decide) only [lt1, nnMl, nnMr, nnAl, nnAr, nnA, nnM, nnB, nnT, nnP, nnE, nnEl, nnEr, nnL, nnLl, nnLr, nnQ, nnQr, nnN, Nat.add_zero, if_false, if_true, Option.bind_some, not_true, not_false_iff, not_true_eq_false, not_false_eq_true, eq_self, Nat.not_lt_zero, z10, z01, or_true, true_or, or_false, false_or, true_and, false_and, q4]) (st_b ?_ r2))))))
      rw [nnT (by omega), nnT (by omega), sc_n (by omega), sc_e, sc_n (by omega), sc_n (by omega), hs 30 (by omega) (by omega), hf x h1]
      exact h4
theorem weeksL (h : RRig c (g 216) D N Q) (hQ : Q ≤ 9599) {s : Sg} (hs : ∀ i, 22 ≤ i → i ≤ 30 → s i = c i) {F0 : Nat} (hF0 : 200 < F0) : ∀ m w F o f, w + m = 100 → m < F → (∀ j, j < 8 → o j = ow c Q D (min (w * 168) ((Q + 3) / 4)) j) → (∀ i, i < 168 → f i = ownS c (nn i) (nn w - 1) (nn (Q / 96)) D) → ∃ o2 f2, (∀ j, j < 8 → o2 j = ow c Q D ((Q + 3) / 4) j) ∧ reckoning_reckonOwed_18 F0 F (nn w) (sc (sc s 207 f) 201 o) = some (sc (sc s 207 f2) 201 o2) := by
  intro m
  induction m with
  | zero =>
    intro w F o f hw hF ho hf
    obtain ⟨F, rfl⟩ : ∃ F2, F = F2 + 1 := ⟨F - 1, by omega⟩
    have : w = 100 := by omega
    subst this
    refine ⟨o, f, fun j hj => by rw [ho j hj, Nat.min_eq_right (by omega)], ?_⟩
    unfold reckoning_reckonOwed_18
    exact st_t (by decide) rfl
  | succ m ih =>
    intro w F o f hw hF ho hf
    obtain ⟨F, rfl⟩ : ∃ F2, F = F2 + 1 := ⟨F - 1, by omega⟩
    have h2 : ¬ 100 ≤ w := by omega
    have e1 : nn w * 168 = nn (w * 168) := by simp (disch := first | omega | decide) only [lt1, nnMl, nnMr, nnAl, nnAr, nnA, nnM, nnB, nnT, nnP, nnE, nnEl, nnEr, nnL, nnLl, nnLr, nnQ, nnQr, nnN, Nat.add_zero, if_false, if_true, Option.bind_some, not_true, not_false_iff, not_true_eq_false, not_false_eq_true, eq_self, Nat.not_lt_zero, z10, z01, or_true, true_or, or_false, false_or, true_and, false_and]
    unfold reckoning_reckonOwed_18
    rw [sc_n (by omega), sc_n (by omega), hs 22 (by omega) (by omega), h.cR, e1]
    by_cases q : (Q + 3) / 4 ≤ w * 168
    · refine ⟨o, f, fun j hj => by rw [ho j hj, Nat.min_eq_right q], ?_⟩
      exact st_f (by simp (disch := first | omega | decide) only [lt1, nnMl, nnMr, nnAl, nnAr, nnA, nnM, nnB, nnT, nnP, nnE, nnEl, nnEr, nnL, nnLl, nnLr, nnQ, nnQr, nnN, Nat.add_zero, if_false, if_true, Option.bind_some, not_true, not_false_iff, not_true_eq_false, not_false_eq_true, eq_self, Nat.not_lt_zero, z10, z01, or_true, true_or, or_false, false_or, true_and, false_and, h2]) (st_t (by rw [nnE (by omega) (by omega)]; exact q) rfl)
    · obtain ⟨f3, l2', l2⟩ := lay_y h hQ (s := sc s 201 o) (fun i e1 e2 => by rw [sc_n (by omega)]; exact hs i e1 e2) (prev_w h (show w < 100 by omega)) (prev_lt (by omega)) hF0 hf
      obtain ⟨o3, r1, r2⟩ := hoursL h hQ hs (K := fun v2 g0 => reckoning_reckonOwed_18 F0 F v2 g0) (show w < 100 by omega) l2 168 0 F0 o (by omega) (by omega) (fun j hj => by rw [ho j hj]; rfl)
      obtain ⟨o2, f2, s1, s2⟩ := ih (w + 1) F o3 f3 (by omega) (by omega) r1 (fun i hi => by rw [nnS1]; exact l2 i hi)
      refine ⟨o2, f2, s1, ?_⟩
      refine st_f (by simp (disch := first | omega | decide) only [lt1, nnMl, nnMr, nnAl, nnAr, nnA, nnM, nnB, nnT, nnP, nnE, nnEl, nnEr, nnL, nnLl, nnLr, nnQ, nnQr, nnN, Nat.add_zero, if_false, if_true, Option.bind_some, not_true, not_false_iff, not_true_eq_false, not_false_eq_true, eq_self, Nat.not_lt_zero, z10, z01, or_true, true_or, or_false, false_or, true_and, false_and, h2]) (st_f (by rw [nnE (by omega) (by omega)]; exact q) ?_)
      rw [sc_c (by decide)]
      refine st_b l2' ?_
      rw [sc_c (by decide)]
      exact r2.trans s2
theorem reckonOwed_y (h : RRig c (g 216) D N Q) (hQ : Q ≤ 9599) {s : Sg} (hs : ∀ i, 22 ≤ i → i ≤ 30 → s i = c i) {F : Nat} (hF : 200 < F) : ∃ o f, (∀ j, j < 8 → o j = ow c Q D ((Q + 3) / 4) j) ∧ reckoning_reckonOwed F s = some (sc (sc s 207 f) 201 o) := by
  obtain ⟨o, p1, p2⟩ := jA_fill_c1_y (v := 0) (s := s) (F := F) (by omega)
  obtain ⟨f, p3, p4⟩ := jA_fill_c2_y (v := -1) (s := sc s 201 o) (F := F) (by omega)
  obtain ⟨o2, f2, r1, r2⟩ := weeksL h hQ hs hF 100 0 F o f (by omega) (by omega) (fun j hj => by rw [p1 j hj, Nat.zero_mul, Nat.zero_min]; rfl) (fun i hi => by rw [p3 i hi]; exact (own_neg h).symm)
  refine ⟨o2, f2, r1, ?_⟩
  unfold reckoning_reckonOwed
  refine st_b p2 (st_b p4 ?_)
  rw [sc_c (by decide)]
  exact r2
theorem owedML (h : RRig c (g 216) D N Q) (hQ : Q ≤ 9599) (h3 : g 216 3 = nn Q) {n : Nat} (hn : n < 8) {F0 : Nat} (hF0 : 120 < F0) : ∀ m i F, i + m = (Q + 3) / 4 → m < F → m_owedTo_4 F0 F (nn n) (ow c Q D i n) (nn i) g = some (ow c Q D ((Q + 3) / 4) n) := by
  intro m
  induction m with
  | zero =>
    intro i F hi hF
    obtain ⟨F, rfl⟩ : ∃ F2, F = F2 + 1 := ⟨F - 1, by omega⟩
    have : i = (Q + 3) / 4 := by omega
    unfold m_owedTo_4
    rw [h.aR, this]
    exact if_pos (Int32.le_refl _)
  | succ m ih =>
    intro i F hi hF
    obtain ⟨F, rfl⟩ : ∃ F2, F = F2 + 1 := ⟨F - 1, by omega⟩
    have h2 : ¬ (Q + 3) / 4 ≤ i := by omega
    have i1 : 1870 + i < 20360 := by omega
    have e0 : nn i - nn i / 168 * 168 = nn (i % 168) := by
      have e : nn i / 168 * 168 = nn (i / 168 * 168) := by simp (disch := first | omega | decide) only [lt1, nnMl, nnMr, nnAl, nnAr, nnA, nnM, nnB, nnT, nnP, nnE, nnEl, nnEr, nnL, nnLl, nnLr, nnQ, nnQr, nnN, Nat.add_zero, if_false, if_true, Option.bind_some, not_true, not_false_iff, not_true_eq_false, not_false_eq_true, eq_self, Nat.not_lt_zero, z10, z01, or_true, true_or, or_false, false_or, true_and, false_and, nnDr]
      rw [e, nnS (a := i) (b := i / 168 * 168) (by omega), show i - i / 168 * 168 = i % 168 by omega]
    have e1 : nn i / 168 = nn (i / 168) := by simp (disch := first | omega | decide) only [lt1, nnMl, nnMr, nnAl, nnAr, nnA, nnM, nnB, nnT, nnP, nnE, nnEl, nnEr, nnL, nnLl, nnLr, nnQ, nnQr, nnN, Nat.add_zero, if_false, if_true, Option.bind_some, not_true, not_false_iff, not_true_eq_false, not_false_eq_true, eq_self, Nat.not_lt_zero, z10, z01, or_true, true_or, or_false, false_or, true_and, false_and, nnDr]
    have e2 : nn i + 1 = nn (i + 1) := nnA i 1
    have e3 : Int32.toNatClampNeg (1870 + nn i) = 1870 + i := by simp (disch := first | omega | decide) only [lt1, nnMl, nnMr, nnAl, nnAr, nnA, nnM, nnB, nnT, nnP, nnE, nnEl, nnEr, nnL, nnLl, nnLr, nnQ, nnQr, nnN, Nat.add_zero, if_false, if_true, Option.bind_some, not_true, not_false_iff, not_true_eq_false, not_false_eq_true, eq_self, Nat.not_lt_zero, z10, z01, or_true, true_or, or_false, false_or, true_and, false_and]
    have e4 : inb (1870 + nn i) 20360 = true := by simp (disch := first | omega | decide) only [lt1, nnMl, nnMr, nnAl, nnAr, nnA, nnM, nnB, nnT, nnP, nnE, nnEl, nnEr, nnL, nnLl, nnLr, nnQ, nnQr, nnN, Nat.add_zero, if_false, if_true, Option.bind_some, not_true, not_false_iff, not_true_eq_false, not_false_eq_true, eq_self, Nat.not_lt_zero, z10, z01, or_true, true_or, or_false, false_or, true_and, false_and, i1]
    have IH := ih (i + 1) F (by omega) (by omega)
    have IH2 : m_owedTo_4 F0 F (nn n) (ow c Q D i n + ctr (ownS c (nn (i % 168)) (nn (i / 168)) (nn (Q / 96)) D) (c 30 i) (nn n)) (nn (i + 1)) g = some (ow c Q D ((Q + 3) / 4) n) := IH
    unfold m_owedTo_4
    rw [h.aR, e0, e1, e2, e3]
    refine st_f (by rw [nnE (by omega) (by omega)]; exact h2) (st_b (today_m h3 hQ) (st_b (own_m h hQ (nnE0 (by omega)) hF0) ?_))
    rw [h.runs i (by omega)]
    by_cases q1 : ownS c (nn (i % 168)) (nn (i / 168)) (nn (Q / 96)) D = nn n
    · refine st_f (fun e => e q1) (st_t e4 ?_)
      by_cases q2 : c 30 i = nn n
      · refine st_t q2 ?_
        unfold m_owedTo_60
        rw [ctr_e (q1.trans q2.symm)] at IH2
        refine st_t q1 (st_l ?_)
        rw [e2]
        exact IH2
      · refine st_f q2 (st_l ?_)
        rw [ctr_o q1 q2] at IH2
        exact IH2
    · refine st_t q1 ?_
      unfold m_owedTo_60
      rw [e2, e3, h.runs i (by omega)]
      refine st_f q1 (st_t e4 ?_)
      by_cases q2 : c 30 i = nn n
      · refine st_f (fun e => e q2) (st_l ?_)
        rw [ctr_r q1 q2] at IH2
        exact IH2
      · refine st_t q2 (st_l ?_)
        rw [ctr_n q1 q2] at IH2
        exact IH2
theorem owed_m (h : RRig c (g 216) D N Q) (hQ : Q ≤ 9599) (h3 : g 216 3 = nn Q) {n : Nat} (hn : n < 8) {F : Nat} (hF : 2400 < F) : m_owedTo F (nn n) g = some (ow c Q D ((Q + 3) / 4) n) := owedML h hQ h3 hn (by omega) _ 0 F (Nat.zero_add _) (by omega)
end SM
theorem sim_owed {TS : Sg → Prop} (hT : TSf TS) : Sim_owed (RR TS) := by
  intro v1 g hR
  obtain ⟨N, C, Q, D, T, L, G, h⟩ := hR.now
  have hQ := h.net.hQ
  rcases chk v1 7 7 rfl (by decide) with ⟨n, hn, rfl, x1, m1⟩ | ⟨x1, m1⟩
  · have hn8 : n < 8 := by omega
    obtain ⟨o, f, r1, r2⟩ := reckonOwed_y h.rig hQ (s := g) (fun i _ _ => rfl) (F := 201) (by decide)
    have E : ∀ i, i ≠ 201 → i ≠ 207 → sc (sc g 207 f) 201 o i = g i := fun i e1 e2 => by rw [sc_n e1, sc_n e2]
    refine ⟨201, 2401, ow g Q D ((Q + 3) / 4) n, sc (sc g 207 f) 201 o, sc (sc g 207 f) 201 o, ?_, ?_, ?_, rfl⟩
    · unfold x_owed
      refine st_b (holder_of (Or.inr rfl) x1) (st_t (by decide) (st_b r2 (st_t (by simp (disch := first | omega | decide) only [lt1, nnMl, nnMr, nnAl, nnAr, nnA, nnM, nnB, nnT, nnP, nnE, nnEl, nnEr, nnL, nnLl, nnLr, nnQ, nnQr, nnN, Nat.add_zero, if_false, if_true, Option.bind_some, not_true, not_false_iff, not_true_eq_false, not_false_eq_true, eq_self, Nat.not_lt_zero, z10, z01, or_true, true_or, or_false, false_or, true_and, false_and, hn8]) ?_)))
      rw [nnT (by omega), sc_e, r1 n hn8]
    · unfold m_owed
      refine st_b (m1 _) (st_f (by decide) (st_b (owed_m (g := sc (sc g 207 f) 201 o) (c := g) (N := N) (D := D) (Q := Q) ?_ hQ ?_ hn8 (by decide)) rfl))
      · rw [E 216 (by decide) (by decide)]
        exact h.rig
      · rw [E 216 (by decide) (by decide)]
        exact h.net.aQ
    · exact RR.scr hT hR (fun i e1 e2 => E i (by omega) (by omega)) (fun i e1 e2 => E i (by omega) (by omega)) (E 216 (by decide) (by decide)) (E 217 (by decide) (by decide))
  · refine ⟨0, 0, -100000, g, g, ?_, ?_, hR, rfl⟩
    · unfold x_owed
      exact st_b (holder_of (Or.inl rfl) x1) (st_f (by decide) rfl)
    · unfold m_owed
      exact st_b (m1 g) (st_t rfl rfl)
