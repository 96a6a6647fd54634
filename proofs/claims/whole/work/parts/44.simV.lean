/-! go -/
theorem RGau.later {c : Sg} {a : Nat → Int32} {G C Q : Nat} (h : RGau c a G C Q) (n : Nat) : RGau c a G C (Q + n) := by
  apply RGau.mk
  case hG => exact h.hG
  case cG => exact h.cG
  case aG => exact h.aG
  case g0 => exact h.g0
  case g1 => exact h.g1
  case g2 => exact h.g2
  case g3 => exact h.g3
  case gC => exact h.gC
  case gQ => 
    intro k hk
    obtain ⟨q, h1, h2⟩ := h.gQ k hk
    exact ⟨q, by omega, h2⟩
  case gI => exact h.gI
  case gO => exact h.gO
section WH
variable {N C D : Nat}
theorem goL {n : Nat} {F0 G0 : Nat} (hF0 : 200 < F0) (hG0 : 200 < G0) (hn96 : n ≤ 96) : ∀ m i Q F G (g M : Sg), i + m = n → m < F → m < G → Q + m ≤ 9599 → RNet g (M 216) N C Q → RRig g (M 216) D N Q → ∃ g2 M2, x_go_34 F0 F (nn n) (nn i) g = some (nn (Q + m), g2) ∧ m_go_28 G0 G (nn n) (nn i) M = some (nn (Q + m), M2) ∧ RNet g2 (M2 216) N C (Q + m) ∧ RRig g2 (M2 216) D N (Q + m) ∧ FrX g g2 ∧ FrB M M2 := by
  intro m
  induction m with
  | zero =>
    intro i Q F G g M hi hF hG hQ h r
    obtain ⟨F, rfl⟩ : ∃ F2, F = F2 + 1 := ⟨F - 1, by omega⟩
    obtain ⟨G, rfl⟩ : ∃ F2, G = F2 + 1 := ⟨G - 1, by omega⟩
    have : i = n := by omega
    subst this
    refine ⟨g, M, ?_, ?_, h, r, fun _ _ _ _ _ _ => rfl, fun _ _ _ => rfl, fun _ _ _ => rfl⟩
    · unfold x_go_34
      rw [h.cQ]
      exact st_t (Int32.le_refl _) rfl
    · unfold m_go_28
      rw [h.aQ]
      exact st_t (Int32.le_refl _) rfl
  | succ m ih =>
    intro i Q F G g M hi hF hG hQ h r
    obtain ⟨F, rfl⟩ : ∃ F2, F = F2 + 1 := ⟨F - 1, by omega⟩
    obtain ⟨G, rfl⟩ : ∃ F2, G = F2 + 1 := ⟨G - 1, by omega⟩
    have hle : ¬ nn n ≤ nn i := by rw [nnE (by omega) (by omega)]; omega
    have em : nn Q - nn Q / 4 * 4 = nn (Q % 4) := by
      have e : nn Q / 4 * 4 = nn (Q / 4 * 4) := by simp (disch := first | omega | decide) only [lt1, nnMl, nnMr, nnAl, nnAr, nnA, nnM, nnB, nnT, nnP, nnE, nnEl, nnEr, nnL, nnLl, nnLr, nnQ, nnQr, nnN, Nat.add_zero, if_false, if_true, Option.bind_some, not_true, not_false_iff, not_true_eq_false, not_false_eq_true, eq_self, Nat.not_lt_zero, z10, z01, or_true, true_or, or_false, false_or, true_and, false_and, nnDr]
      rw [e, nnS (a := Q) (b := Q / 4 * 4) (by omega), show Q - Q / 4 * 4 = Q % 4 by omega]
    have ei : nn i + 1 = nn (i + 1) := nnA i 1
    have eQ : Q + 1 + m = Q + (m + 1) := by omega
    -- on from a state in which the hour has begun
    have on : ∀ g M : Sg, RNet g (M 216) N C Q → RRig g (M 216) D N (Q + 1) → ∃ g2 M2, Option.bind (net_passQuarter F0 g) (fun g1 => (x_go_34 F0 F (nn n) (nn (i + 1)) g1)) = some (nn (Q + (m + 1)), g2) ∧ m_go_48 G0 (fun v1 v2 g0 => m_go_28 G0 G v1 v2 g0) (nn n) (nn i) M = some (nn (Q + (m + 1)), M2) ∧ RNet g2 (M2 216) N C (Q + (m + 1)) ∧ RRig g2 (M2 216) D N (Q + (m + 1)) ∧ FrX g g2 ∧ FrB M M2 := fun g M h r => by
      obtain ⟨g1, M1, q1, q2, q3, q4, q5⟩ := qua (v1 := nn n) (v2 := nn i) (F0 := F0) (F1 := G0) (by omega) (by omega) (K := fun v1 v2 g0 => m_go_28 G0 G v1 v2 g0) h (by omega)
      have r1 : RRig g1 (M1 216) D N (Q + 1) := r.fr (fun i p1 p2 => q4 i p1) (fun j hj => q5.2 j (by unfold iRig at hj; unfold iNet; omega))
      obtain ⟨g2, M2, s1, s2, s3, s4, s5, s6⟩ := ih (i + 1) (Q + 1) F G g1 M1 (by omega) (by omega) (by omega) (by omega) q3 r1
      rw [eQ] at s1 s2 s3 s4
      refine ⟨g2, M2, st_b q1 s1, ?_, s3, s4, fun j p1 p2 p3 p4 p5 => (s5 j p1 p2 p3 p4 p5).trans (q4 j (by omega)), (FrM.b q5).t s6⟩
      rw [ei] at q2
      exact q2.trans s2
    by_cases q : Q % 4 = 0
    · obtain ⟨g1, M1, b1, b2, b3, b4, b5, b6⟩ := hour_y h r q (by omega) hF0 hG0
      obtain ⟨g2, M2, s1, s2, s3, s4, s5, s6⟩ := on g1 M1 b3 b4
      refine ⟨g2, M2, ?_, ?_, s3, s4, fun j p1 p2 p3 p4 p5 => (s5 j p1 p2 p3 p4 p5).trans (b5 j p1 p2 p3 p4 p5), b6.t s6⟩
      · unfold x_go_34
        rw [h.cQ, em, ei, q]
        exact st_f hle (st_f (fun e => e rfl) (st_b b1 s1))
      · unfold m_go_28
        rw [h.aQ, em, q]
        exact st_f hle (st_f (fun e => e rfl) (st_b b2 s2))
    · obtain ⟨g2, M2, s1, s2, s3, s4, s5, s6⟩ := on g M h (r.tick q)
      have hq : ¬ nn (Q % 4) = 0 := nnNe (b := 0) (by omega) (by decide) q
      refine ⟨g2, M2, ?_, ?_, s3, s4, s5, s6⟩
      · unfold x_go_34
        rw [h.cQ, em, ei]
        exact st_f hle (st_t hq s1)
      · unfold m_go_28
        rw [h.aQ, em]
        exact st_f hle (st_t hq s2)
end WH
section SU
theorem sim_go {TS : Sg → Prop} (hT : TSf TS) : Sim_go (RR TS) := by
  intro v1 g hR
  obtain ⟨N, C, Q, D, T, L, G, h⟩ := hR.now
  have hQ := h.net.hQ
  rcases chkB v1 1 96 96 rfl (by decide) (by decide) with ⟨n, hn1, hn2, rfl, x1, m1⟩ | ⟨x1, m1⟩
  rotate_left
  · have x1 : ∀ g : Sg, x_within v1 1 96 g = some 0 := x1
    have m1 : ∀ g : Sg, m_isIn v1 1 96 g = some 0 := m1
    refine ⟨0, 0, -1, g, g, ?_, ?_, hR⟩
    · unfold x_go
      exact st_b (x1 g) (st_t rfl rfl)
    · unfold m_go
      exact st_b (m1 g) (st_t rfl rfl)
  have x1 : ∀ g : Sg, x_within (nn n) 1 96 g = some 1 := x1
  have m1 : ∀ g : Sg, m_isIn (nn n) 1 96 g = some 1 := m1
  by_cases hq : Q + n ≤ 9599
  rotate_left
  · refine ⟨0, 0, -1, g, g, ?_, ?_, hR⟩
    · unfold x_go
      rw [h.net.cQ]
      exact st_b (x1 g) (st_f (by decide) (st_f (by simp (disch := first | omega | decide) only [lt1, nnMl, nnMr, nnAl, nnAr, nnA, nnM, nnB, nnT, nnP, nnE, nnEl, nnEr, nnL, nnLl, nnLr, nnQ, nnQr, nnN, Nat.add_zero, if_false, if_true, Option.bind_some, not_true, not_false_iff, not_true_eq_false, not_false_eq_true, eq_self, Nat.not_lt_zero, z10, z01, or_true, true_or, or_false, false_or, true_and, false_and, hq]) rfl))
    · unfold m_go
      rw [h.net.aQ]
      exact st_b (m1 g) (st_f (by decide) (st_f (by simp (disch := first | omega | decide) only [lt1, nnMl, nnMr, nnAl, nnAr, nnA, nnM, nnB, nnT, nnP, nnE, nnEl, nnEr, nnL, nnLl, nnLr, nnQ, nnQr, nnN, Nat.add_zero, if_false, if_true, Option.bind_some, not_true, not_false_iff, not_true_eq_false, not_false_eq_true, eq_self, Nat.not_lt_zero, z10, z01, or_true, true_or, or_false, false_or, true_and, false_and, hq]) rfl))
  obtain ⟨g1, _, s1, _, _, _, s5, _⟩ := goL (F0 := 201) (G0 := 201) (by decide) (by decide) hn2 n 0 Q 201 201 g g (by omega) (by omega) (by omega) hq h.net h.rig
  have e216 : g1 216 = g 216 := s5 216 (by omega) (by omega) (by omega) (by omega) (by omega)
  obtain ⟨g2, M2, r1, r2, r3, r4, r5, r6⟩ := goL (F0 := 201) (G0 := 201) (by decide) (by decide) hn2 n 0 Q 201 201 g g1 (by omega) (by omega) (by omega) hq (by rw [e216]; exact h.net) (by rw [e216]; exact h.rig)
  have eg : g2 = g1 := by
    have := r1.symm.trans s1
    exact congrArg Prod.snd (Option.some.inj this)
  subst eg
  refine ⟨201, 201, nn (Q + n), g2, M2, ?_, ?_, ?_⟩
  · unfold x_go
    rw [h.net.cQ]
    exact st_b (x1 g) (st_f (by decide) (st_t (by simp (disch := first | omega | decide) only [lt1, nnMl, nnMr, nnAl, nnAr, nnA, nnM, nnB, nnT, nnP, nnE, nnEl, nnEr, nnL, nnLl, nnLr, nnQ, nnQr, nnN, Nat.add_zero, if_false, if_true, Option.bind_some, not_true, not_false_iff, not_true_eq_false, not_false_eq_true, eq_self, Nat.not_lt_zero, z10, z01, or_true, true_or, or_false, false_or, true_and, false_and, hq]) r1))
  · unfold m_go
    rw [e216, h.net.aQ]
    exact st_b (m1 g2) (st_f (by decide) (st_t (by simp (disch := first | omega | decide) only [lt1, nnMl, nnMr, nnAl, nnAr, nnA, nnM, nnB, nnT, nnP, nnE, nnEl, nnEr, nnL, nnLl, nnLr, nnQ, nnQr, nnN, Nat.add_zero, if_false, if_true, Option.bind_some, not_true, not_false_iff, not_true_eq_false, not_false_eq_true, eq_self, Nat.not_lt_zero, z10, z01, or_true, true_or, or_false, false_or, true_and, false_and, hq]) r2))
  · have fA : ∀ j, ¬ iNet j → ¬ iRig j → M2 216 j = g 216 j := fun j p1 p2 => by rw [r6.2 j p1 p2, e216]
    have fC : ∀ i, 31 ≤ i → i ≠ 187 → i ≠ 188 → i ≠ 189 → i ≠ 190 → i ≠ 216 → i ≠ 218 → M2 i = g i := fun i p1 p2 p3 p4 p5 p6 p7 => (r6.1 i p6 p7).trans (r5 i p1 p2 p3 p4 p5)
    refine RR.put hT hR ⟨N, C, Q + n, D, T, L, G, ?_, ?_, ?_, ?_⟩ ?_ ?_ ?_ ?_
    · exact r3.fr (fun i p1 p2 => r6.1 i (by omega) (by omega)) (fun j _ => rfl)
    · exact r4.fr (fun i p1 p2 => r6.1 i (by omega) (by omega)) (fun j _ => rfl)
    · exact h.law.fr (fun i p1 p2 => fC i (by omega) (by omega) (by omega) (by omega) (by omega) (by omega) (by omega)) (fun j hj => fA j (by unfold iLaw at hj; unfold iNet; omega) (by unfold iLaw at hj; unfold iRig; omega))
    · exact (h.gau.later n).fr (fun i p1 p2 => fC i (by omega) (by omega) (by omega) (by omega) (by omega) (by omega) (by omega)) (fun j hj => fA j (by unfold iGau at hj; unfold iNet; omega) (by unfold iGau at hj; unfold iRig; omega))
    · exact fun i p1 p2 => fC i (by omega) (by omega) (by omega) (by omega) (by omega) (by omega) (by omega)
    · exact fun j p1 => fA j (by unfold iNet; omega) (by unfold iRig; omega)
    · exact fC 217 (by omega) (by omega) (by omega) (by omega) (by omega) (by omega) (by omega)
    · exact fun i p1 p2 => fC i (by omega) (by omega) (by omega) (by omega) (by omega) (by omega) (by omega)
end SU
