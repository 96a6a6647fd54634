/-! owner -/
/-- deed d is of the hour, not from after the week, and known as of day k -/
def okD (c : Sg) (h w k : Int32) (d : Nat) : Prop := c 24 d ≤ h ∧ h ≤ c 25 d ∧ c 27 d ≤ w ∧ c 28 d ≤ k ∧ (c 29 d = -1 ∨ k < c 29 d)
noncomputable def ownB (c : Sg) (h w k : Int32) : Nat → Option Nat
  | 0 => none
  | d + 1 => by
    classical
    exact if okD c h w k d then (match ownB c h w k d with
      | none => some d
      | some b => if c 27 d < c 27 b then some b else some d) else ownB c h w k d
def oS (c : Sg) (o : Option Nat) : Int32 := match o with
  | none => -1
  | some b => c 26 b
def oF (c : Sg) (o : Option Nat) : Int32 := match o with
  | none => 0
  | some b => c 27 b
def oN (o : Option Nat) : Int32 := match o with
  | none => -1
  | some b => nn b
noncomputable def ownS (c : Sg) (h w k : Int32) (D : Nat) : Int32 := oS c (ownB c h w k D)
theorem ownB_n {c : Sg} {h w k : Int32} {d : Nat} (e : ¬ okD c h w k d) : ownB c h w k (d + 1) = ownB c h w k d := if_neg e
theorem ownB_y {c : Sg} {h w k : Int32} {d : Nat} (e : okD c h w k d) (e2 : ¬ c 27 d < oF c (ownB c h w k d)) : ownB c h w k (d + 1) = some d := by
  refine (if_pos e).trans ?_
  cases hb : ownB c h w k d with
  | none => rfl
  | some b =>
    rw [hb] at e2
    exact if_neg e2
theorem ownB_k {c : Sg} {h w k : Int32} {d b : Nat} (hb : ownB c h w k d = some b) (e2 : c 27 d < c 27 b) : ownB c h w k (d + 1) = some b := by
  by_cases e : okD c h w k d
  · refine (if_pos e).trans ?_
    rw [hb]
    exact if_pos e2
  · rw [ownB_n e, hb]
theorem ownB_ok {c : Sg} {h w k : Int32} : ∀ {d b : Nat}, ownB c h w k d = some b → b < d ∧ okD c h w k b
  | 0, b, e => by cases e
  | d + 1, b, e => by
    by_cases e1 : okD c h w k d
    · by_cases e2 : c 27 d < oF c (ownB c h w k d)
      · cases hb : ownB c h w k d with
        | none => 
          rw [ownB, if_pos e1, hb] at e
          cases e
          exact ⟨Nat.lt_succ_self _, e1⟩
        | some b2 =>
          rw [hb] at e2
          rw [ownB_k hb e2] at e
          cases e
          have := ownB_ok hb
          exact ⟨by omega, this.2⟩
      · rw [ownB_y e1 e2] at e
        cases e
        exact ⟨Nat.lt_succ_self _, e1⟩
    · rw [ownB_n e1] at e
      have := ownB_ok e
      exact ⟨by omega, this.2⟩
section SK
variable {c g : Sg} {D N Q : Nat}
theorem ownS_v (h : RRig c (g 216) D N Q) {x w k : Int32} : ownS c x w k D = -1 ∨ ∃ n, n < 8 ∧ ownS c x w k D = nn n := by
  unfold ownS
  cases hb : ownB c x w k D with
  | none => exact Or.inl rfl
  | some b =>
    exact Or.inr (h.dW b (ownB_ok hb).1)
theorem isKnown_eq {d : Nat} (hd : d < 120) {k : Int32} : (c 28 d ≤ k ∧ (c 29 d = -1 ∨ k < c 29 d) → rights_isKnown (nn d) k c = some 1) ∧ (¬ (c 28 d ≤ k ∧ (c 29 d = -1 ∨ k < c 29 d)) → rights_isKnown (nn d) k c = some 0) := by
  have e0 : rights_isKnown (nn d) k c = if k < c 28 d then some 0 else if c 29 d = -1 then some 1 else if c 29 d ≤ k then some 0 else some 1 := by
    unfold rights_isKnown
    simp (disch := first | omega | decide) only [lt1, nnMl, nnMr, nnAl, nnAr, nnA, nnM, nnB, nnT, nnP, nnE, nnEl, nnEr, nnL, nnLl, nnLr, nnQ, nnQr, nnN, Nat.add_zero, if_false, if_true, Option.bind_some, not_true, not_false_iff, not_true_eq_false, not_false_eq_true, eq_self, Nat.not_lt_zero, z10, z01, or_true, true_or, or_false, false_or, true_and, false_and, hd]
  rw [e0]
  by_cases h1 : k < c 28 d
  · rw [if_pos h1]
    exact ⟨fun e => absurd h1 (Int32.not_lt.mpr e.1), fun _ => rfl⟩
  · rw [if_neg h1]
    by_cases h2 : c 29 d = -1
    · rw [if_pos h2]
      exact ⟨fun _ => rfl, fun e => absurd ⟨Int32.not_lt.mp h1, Or.inl h2⟩ e⟩
    · rw [if_neg h2]
      by_cases h3 : c 29 d ≤ k
      · rw [if_pos h3]
        exact ⟨fun e => absurd (e.2.resolve_left h2) (Int32.not_lt.mpr h3), fun _ => rfl⟩
      · rw [if_neg h3]
        exact ⟨fun _ => rfl, fun e => absurd ⟨Int32.not_lt.mp h1, Or.inr (Int32.not_le.mp h3)⟩ e⟩
theorem ownXL (h : RRig c (g 216) D N Q) {x w k : Int32} : ∀ m d F, d + m = D → m < F → rights_ownerOf_9 F x w k (oS c (ownB c x w k d)) (oF c (ownB c x w k d)) (nn d) c = some (ownS c x w k D) := by
  have hD := h.hD
  intro m
  induction m with
  | zero =>
    intro d F hd hF
    obtain ⟨F, rfl⟩ : ∃ F2, F = F2 + 1 := ⟨F - 1, by omega⟩
    have : d = D := by omega
    subst this
    unfold rights_ownerOf_9
    rw [h.cD]
    exact if_pos (by simp (disch := first | omega | decide) only [lt1, nnMl, nnMr, nnAl, nnAr, nnA, nnM, nnB, nnT, nnP, nnE, nnEl, nnEr, nnL, nnLl, nnLr, nnQ, nnQr, nnN, Nat.add_zero, if_false, if_true, Option.bind_some, not_true, not_false_iff, not_true_eq_false, not_false_eq_true, eq_self, Nat.not_lt_zero, z10, z01, or_true, true_or, or_false, false_or, true_and, false_and, Nat.le_refl])
  | succ m ih =>
    intro d F hd hF
    obtain ⟨F, rfl⟩ : ∃ F2, F = F2 + 1 := ⟨F - 1, by omega⟩
    have h2 : ¬ D ≤ d := by omega
    have h1 : d < 120 := by omega
    have hi : inb (nn d) 120 = true := by simp (disch := first | omega | decide) only [lt1, nnMl, nnMr, nnAl, nnAr, nnA, nnM, nnB, nnT, nnP, nnE, nnEl, nnEr, nnL, nnLl, nnLr, nnQ, nnQr, nnN, Nat.add_zero, if_false, if_true, Option.bind_some, not_true, not_false_iff, not_true_eq_false, not_false_eq_true, eq_self, Nat.not_lt_zero, z10, z01, or_true, true_or, or_false, false_or, true_and, false_and, h1]
    have e1 : nn d + 1 = nn (d + 1) := nnA d 1
    have hT : Int32.toNatClampNeg (nn d) = d := nnT (by omega)
    have IH := ih (d + 1) F (by omega) (by omega)
    have keep : ownB c x w k (d + 1) = ownB c x w k d → rights_ownerOf_9 F x w k (oS c (ownB c x w k d)) (oF c (ownB c x w k d)) (nn d + 1) c = some (ownS c x w k D) := fun e => by
      rw [e] at IH
      rw [e1]
      exact IH
    unfold rights_ownerOf_9
    rw [h.cD]
    refine st_f (by simp (disch := first | omega | decide) only [lt1, nnMl, nnMr, nnAl, nnAr, nnA, nnM, nnB, nnT, nnP, nnE, nnEl, nnEr, nnL, nnLl, nnLr, nnQ, nnQr, nnN, Nat.add_zero, if_false, if_true, Option.bind_some, not_true, not_false_iff, not_true_eq_false, not_false_eq_true, eq_self, Nat.not_lt_zero, z10, z01, or_true, true_or, or_false, false_or, true_and, false_and, h2]) (st_t hi ?_)
    rw [hT]
    by_cases q1 : x < c 24 d
    · refine st_t q1 ?_
      exact keep (ownB_n (fun e => absurd q1 (Int32.not_lt.mpr e.1)))
    refine st_f q1 (st_t hi ?_)
    by_cases q2 : c 25 d < x
    · refine st_t q2 ?_
      exact keep (ownB_n (fun e => absurd q2 (Int32.not_lt.mpr e.2.1)))
    refine st_f q2 ?_
    unfold rights_ownerOf_45
    refine st_f (by decide) (st_t hi ?_)
    rw [hT]
    by_cases q3 : w < c 27 d
    · refine st_t q3 ?_
      exact keep (ownB_n (fun e => absurd q3 (Int32.not_lt.mpr e.2.2.1)))
    refine st_f q3 (st_t hi ?_)
    by_cases q4 : c 27 d < oF c (ownB c x w k d)
    · refine st_t q4 (keep ?_)
      cases hb : ownB c x w k d with
      | none =>
        rw [hb] at q4
        obtain ⟨s, hs, es⟩ := h.dS d (by omega)
        rw [es] at q4
        have q4 : nn s < 0 := q4
        rw [nnP (by omega)] at q4
        exact absurd q4 id
      | some b =>
        rw [hb] at q4
        exact ownB_k hb q4
    refine st_f q4 ?_
    by_cases q5 : c 28 d ≤ k ∧ (c 29 d = -1 ∨ k < c 29 d)
    · refine st_b ((isKnown_eq h1).1 q5) (st_f (by decide) (st_w hi (st_w hi ?_)))
      have e : ownB c x w k (d + 1) = some d := ownB_y ⟨Int32.not_lt.mp q1, Int32.not_lt.mp q2, Int32.not_lt.mp q3, q5⟩ q4
      rw [e] at IH
      rw [e1]
      exact IH
    · refine st_b ((isKnown_eq h1).2 q5) (st_t rfl ?_)
      exact keep (ownB_n (fun e => q5 e.2.2.2))
theorem own_x (h : RRig c (g 216) D N Q) {x w k : Int32} {F : Nat} (hF : 120 < F) : rights_ownerOf F x w k c = some (ownS c x w k D) := ownXL h D 0 F (by omega) (by have := h.hD; omega)
theorem dOf0 (h : RRig c (g 216) D N Q) {d : Nat} (hd : d < 120) : m_deedOf_k0 (nn d) g = some (c 24 d) := by
  rw [← h.d0 d hd]
  exact deedOf_y hd (k := 0) (by decide)
theorem dOf1 (h : RRig c (g 216) D N Q) {d : Nat} (hd : d < 120) : m_deedOf_k1 (nn d) g = some (c 25 d) := by
  rw [← h.d1 d hd]
  exact deedOf_y hd (k := 1) (by decide)
theorem dOf2 (h : RRig c (g 216) D N Q) {d : Nat} (hd : d < 120) : m_deedOf_k2 (nn d) g = some (c 26 d) := by
  rw [← h.d2 d hd]
  exact deedOf_y hd (k := 2) (by decide)
theorem dOf3 (h : RRig c (g 216) D N Q) {d : Nat} (hd : d < 120) : m_deedOf_k3 (nn d) g = some (c 27 d) := by
  rw [← h.d3 d hd]
  exact deedOf_y hd (k := 3) (by decide)
theorem dOf4 (h : RRig c (g 216) D N Q) {d : Nat} (hd : d < 120) : m_deedOf_k4 (nn d) g = some (c 28 d) := by
  rw [← h.d4 d hd]
  exact deedOf_y hd (k := 4) (by decide)
theorem dOf5 (h : RRig c (g 216) D N Q) {d : Nat} (hd : d < 120) : m_deedOf_k5 (nn d) g = some (c 29 d) := by
  rw [← h.d5 d hd]
  exact deedOf_y hd (k := 5) (by decide)
theorem ownML (h : RRig c (g 216) D N Q) (hQ : Q ≤ 9599) {x w k : Int32} (hk : 0 ≤ k) : ∀ m d F, d + m = D → m < F → m_owns_6 F x w k (oN (ownB c x w k d)) (nn d) g = some (ownS c x w k D) := by
  have hD := h.hD
  intro m
  induction m with
  | zero =>
    intro d F hd hF
    obtain ⟨F, rfl⟩ : ∃ F2, F = F2 + 1 := ⟨F - 1, by omega⟩
    have : d = D := by omega
    subst this
    unfold m_owns_6
    rw [h.aD]
    refine st_t (by simp (disch := first | omega | decide) only [lt1, nnMl, nnMr, nnAl, nnAr, nnA, nnM, nnB, nnT, nnP, nnE, nnEl, nnEr, nnL, nnLl, nnLr, nnQ, nnQr, nnN, Nat.add_zero, if_false, if_true, Option.bind_some, not_true, not_false_iff, not_true_eq_false, not_false_eq_true, eq_self, Nat.not_lt_zero, z10, z01, or_true, true_or, or_false, false_or, true_and, false_and, Nat.le_refl]) ?_
    unfold ownS
    cases hb : ownB c x w k d with
    | none => exact st_f (by decide) rfl
    | some b =>
      have := (ownB_ok hb).1
      exact st_t (show (0 : Int32) ≤ nn b from Int32.not_lt.mp (by rw [nnP (by omega)]; exact id)) (st_b (dOf2 h (by omega)) rfl)
  | succ m ih =>
    intro d F hd hF
    obtain ⟨F, rfl⟩ : ∃ F2, F = F2 + 1 := ⟨F - 1, by omega⟩
    have h2 : ¬ D ≤ d := by omega
    have h1 : d < 120 := by omega
    have e1 : nn d + 1 = nn (d + 1) := nnA d 1
    have IH := ih (d + 1) F (by omega) (by omega)
    have keep : ownB c x w k (d + 1) = ownB c x w k d → m_owns_6 F x w k (oN (ownB c x w k d)) (nn d + 1) g = some (ownS c x w k D) := fun e => by
      rw [e] at IH
      rw [e1]
      exact IH
    unfold m_owns_6
    rw [h.aD]
    refine st_f (by simp (disch := first | omega | decide) only [lt1, nnMl, nnMr, nnAl, nnAr, nnA, nnM, nnB, nnT, nnP, nnE, nnEl, nnEr, nnL, nnLl, nnLr, nnQ, nnQr, nnN, Nat.add_zero, if_false, if_true, Option.bind_some, not_true, not_false_iff, not_true_eq_false, not_false_eq_true, eq_self, Nat.not_lt_zero, z10, z01, or_true, true_or, or_false, false_or, true_and, false_and, h2]) (st_b (dOf0 h h1) (st_b (dOf1 h h1) (st_b (isIn_eq _ _ _ _) ?_)))
    by_cases q1 : c 24 d ≤ x ∧ x ≤ c 25 d
    rotate_left
    · refine st_t (by rw [if_neg q1]) ?_
      exact keep (ownB_n (fun e => q1 ⟨e.1, e.2.1⟩))
    refine st_f (by rw [if_pos q1]; decide) (st_b (dOf3 h h1) ?_)
    by_cases q3 : w < c 27 d
    · refine st_t q3 ?_
      exact keep (ownB_n (fun e => absurd q3 (Int32.not_lt.mpr e.2.2.1)))
    refine st_f q3 (st_b (dOf4 h h1) ?_)
    by_cases q4 : k < c 28 d
    · refine st_t q4 ?_
      exact keep (ownB_n (fun e => absurd q4 (Int32.not_lt.mpr e.2.2.2.1)))
    refine st_f q4 (st_b (dOf5 h h1) ?_)
    have fin : (c 29 d = -1 ∨ k < c 29 d) → m_owns_84 (fun v1 v2 v3 v4 v5 g0 => m_owns_6 F v1 v2 v3 v4 v5 g0) x w k (oN (ownB c x w k d)) (nn d) g = some (ownS c x w k D) := fun q5 => by
      have ok : okD c x w k d := ⟨q1.1, q1.2, Int32.not_lt.mp q3, Int32.not_lt.mp q4, q5⟩
      unfold m_owns_84
      cases hb : ownB c x w k d with
      | none =>
        refine st_t (by decide) ?_
        have e : ownB c x w k (d + 1) = some d := by
          refine ownB_y ok ?_
          rw [hb]
          obtain ⟨s, hs, es⟩ := h.dS d (by omega)
          rw [es]
          show ¬ nn s < 0
          rw [nnP (by omega)]
          exact id
        rw [e] at IH
        rw [e1]
        exact IH
      | some b =>
        have hbd := (ownB_ok hb).1
        refine st_f (show ¬ nn b < 0 by rw [nnP (by omega)]; exact id) (st_b (dOf3 h h1) (st_b (dOf3 h (show b < 120 by omega)) ?_))
        by_cases q6 : c 27 d < c 27 b
        · refine st_t q6 ?_
          rw [ownB_k hb q6] at IH
          rw [e1]
          exact IH
        · refine st_f q6 ?_
          rw [ownB_y ok (by rw [hb]; exact q6)] at IH
          rw [e1]
          exact IH
    rcases h.dV d (by omega) with e | ⟨z, hz, e⟩
    · exact st_t (by rw [e]; decide) (fin (Or.inl e))
    · refine st_f (by rw [e, nnP (by have := h.hD; omega)]; exact id) (st_b (dOf5 h h1) ?_)
      by_cases q5 : k < c 29 d
      · exact st_t q5 (fin (Or.inr q5))
      · refine st_f q5 ?_
        refine keep (ownB_n (fun e9 => ?_))
        rcases e9.2.2.2.2 with e8 | e8
        · rw [e] at e8
          rw [nnN (by omega)] at e8
          exact e8
        · exact q5 e8
theorem own_m (h : RRig c (g 216) D N Q) (hQ : Q ≤ 9599) {x w k : Int32} (hk : 0 ≤ k) {F : Nat} (hF : 120 < F) : m_owns F x w k g = some (ownS c x w k D) := ownML h hQ hk D 0 F (by omega) (by have := h.hD; omega)
end SK
theorem sim_owner {TS : Sg → Prop} : Sim_owner (RR TS) := by
  intro v1 v2 v3 g hR
  obtain ⟨N, C, Q, D, T, L, G, h⟩ := hR.now
  have hQ := h.net.hQ
  rcases chk v1 167 167 rfl (by decide) with ⟨a, ha, rfl, x1, m1⟩ | ⟨x1, m1⟩
  rotate_left
  · refine ⟨0, 0, -2, g, g, ?_, ?_, hR, rfl, rfl⟩
    · unfold x_owner
      exact st_b (x1 g) (st_t rfl rfl)
    · unfold m_owner
      exact st_b (m1 g) (st_t rfl rfl)
  rcases chk v2 99 99 rfl (by decide) with ⟨w, hw, rfl, x2, m2⟩ | ⟨x2, m2⟩
  rotate_left
  · refine ⟨0, 0, -2, g, g, ?_, ?_, hR, rfl, rfl⟩
    · unfold x_owner
      exact st_b (x1 g) (st_f (by decide) (st_b (week_of (Or.inl rfl) x2) (st_t rfl rfl)))
    · unfold m_owner
      exact st_b (m1 g) (st_f (by decide) (st_b (m2 g) (st_t rfl rfl)))
  rcases chk v3 (Q / 96) (nn (Q / 96)) rfl (by omega) with ⟨k, hk, rfl, x3, m3⟩ | ⟨x3, m3⟩
  rotate_left
  · refine ⟨0, 0, -2, g, g, ?_, ?_, hR, rfl, rfl⟩
    · unfold x_owner
      exact st_b (x1 g) (st_f (by decide) (st_b (week_of (Or.inr rfl) x2) (st_f (by decide) (st_b (today_x h.net) (st_b (x3 g) (st_f (by decide) rfl))))))
    · unfold m_owner
      exact st_b (m1 g) (st_f (by decide) (st_b (m2 g) (st_f (by decide) (st_b (today_m h.net.aQ hQ) (st_b (m3 g) (st_t rfl rfl))))))
  · refine ⟨121, 121, ownS g (nn a) (nn w) (nn k) D, g, g, ?_, ?_, hR, rfl, rfl⟩
    · unfold x_owner
      exact st_b (x1 g) (st_f (by decide) (st_b (week_of (Or.inr rfl) x2) (st_f (by decide) (st_b (today_x h.net) (st_b (x3 g) (st_t (by decide) (st_b (own_x h.rig (by decide)) rfl)))))))
    · unfold m_owner
      exact st_b (m1 g) (st_f (by decide) (st_b (m2 g) (st_f (by decide) (st_b (today_m h.net.aQ hQ) (st_b (m3 g) (st_f (by decide) (st_b (own_m h.rig hQ (by rw [show (0 : Int32) = nn 0 from rfl, nnE (by decide) (by omega)]; omega) (by decide)) rfl)))))))
