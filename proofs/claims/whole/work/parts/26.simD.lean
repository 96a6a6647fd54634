theorem RGau.push {c c' : Sg} {a a' : Nat → Int32} {G C Q : Nat} {v1 v2 v3 v4 : Int32} (h : RGau c a G C Q) (hG : G < 150) (w1 : ∃ k, k < C ∧ v1 = nn k) (w2 : ∃ k, k ≤ Q ∧ v2 = nn k) (w3 : ∃ k, k ≤ 9999 ∧ v3 = nn k) (w4 : ∃ k, k ≤ 9999 ∧ v4 = nn k) (h2 : c' 42 = up1 (c 42) 0 (nn (G + 1))) (h3 : c' 43 = up1 (c 43) G v1) (h4 : c' 44 = up1 (c 44) G v2) (h5 : c' 45 = up1 (c 45) G v3) (h6 : c' 46 = up1 (c 46) G v4) (a5 : a' 5 = nn (G + 1)) (a0 : a' (1270 + 4 * G) = v1) (a1 : a' (1270 + 4 * G + 1) = v2) (a2 : a' (1270 + 4 * G + 2) = v3) (a3 : a' (1270 + 4 * G + 3) = v4) (ha : ∀ j, 1270 ≤ j → j < 1870 → j < 1270 + 4 * G ∨ 1270 + 4 * G + 4 ≤ j → a' j = a j) : RGau c' a' (G + 1) C Q := by
  apply RGau.mk
  case hG => omega
  case cG => rw [h2, up1_eq]
  case aG => exact a5
  case g0 =>
    intro r hr
    rw [h3]
    by_cases e : r = G
    · subst e; rw [up1_eq]; exact a0
    · rw [up1_ne e, ha _ (by omega) (by omega) (by omega)]; exact h.g0 r hr
  case g1 =>
    intro r hr
    rw [h4]
    by_cases e : r = G
    · subst e; rw [up1_eq]; exact a1
    · rw [up1_ne e, ha _ (by omega) (by omega) (by omega)]; exact h.g1 r hr
  case g2 =>
    intro r hr
    rw [h5]
    by_cases e : r = G
    · subst e; rw [up1_eq]; exact a2
    · rw [up1_ne e, ha _ (by omega) (by omega) (by omega)]; exact h.g2 r hr
  case g3 =>
    intro r hr
    rw [h6]
    by_cases e : r = G
    · subst e; rw [up1_eq]; exact a3
    · rw [up1_ne e, ha _ (by omega) (by omega) (by omega)]; exact h.g3 r hr
  case gC =>
    intro r hr
    rw [h3]
    by_cases e : r = G
    · subst e; rw [up1_eq]; exact w1
    · rw [up1_ne e]; exact h.gC r (by omega)
  case gQ =>
    intro r hr
    rw [h4]
    by_cases e : r = G
    · subst e; rw [up1_eq]; exact w2
    · rw [up1_ne e]; exact h.gQ r (by omega)
  case gI =>
    intro r hr
    rw [h5]
    by_cases e : r = G
    · subst e; rw [up1_eq]; exact w3
    · rw [up1_ne e]; exact h.gI r (by omega)
  case gO =>
    intro r hr
    rw [h6]
    by_cases e : r = G
    · subst e; rw [up1_eq]; exact w4
    · rw [up1_ne e]; exact h.gO r (by omega)
theorem chk (v : Int32) (K : Nat) (w : Int32) (hw : w = nn K) (hK : K + 1 < 2147483648) : (∃ n, n ≤ K ∧ v = nn n ∧ (∀ g : Sg, x_within v 0 w g = some 1) ∧ ∀ g : Sg, m_isIn v 0 w g = some 1) ∨ ((∀ g : Sg, x_within v 0 w g = some 0) ∧ ∀ g : Sg, m_isIn v 0 w g = some 0) := by
  by_cases h : ∃ n, n < K + 1 ∧ v = nn n
  · obtain ⟨n, hn, rfl⟩ := h
    exact Or.inl ⟨n, by omega, rfl, fun g => wthK_y hw hK (by omega), fun g => isInK_y hw hK (by omega)⟩
  · exact Or.inr ⟨fun g => wthK_n hw hK h, fun g => isInK_n hw hK h⟩
section SD
theorem sim_gauge {TS : Sg → Prop} (hT : TSf TS) : Sim_gauge (RR TS) := by
  intro v1 v2 v3 v4 g hR
  obtain ⟨N, C, Q, D, T, L, G, h⟩ := hR.now
  have hG := h.gau.hG
  have hQ := h.net.hQ
  have hC := h.net.hC
  by_cases hg : G = 150
  · subst hg
    refine ⟨0, 0, -1, g, g, ?_, ?_, hR⟩
    · unfold x_gauge
      rw [h.gau.cG]
      simp (disch := first | omega | decide) only [lt1, nnMl, nnMr, nnAl, nnAr, nnA, nnM, nnB, nnT, nnP, nnE, nnEl, nnEr, nnL, nnLl, nnLr, nnQ, nnQr, nnN, Nat.add_zero, if_false, if_true, Option.bind_some, not_true, not_false_iff, not_true_eq_false, not_false_eq_true, eq_self, Nat.not_lt_zero, z10, z01, or_true, true_or, or_false, false_or, true_and, false_and, Nat.le_refl]
    · unfold m_gauge
      rw [h.gau.aG]
      simp (disch := first | omega | decide) only [lt1, nnMl, nnMr, nnAl, nnAr, nnA, nnM, nnB, nnT, nnP, nnE, nnEl, nnEr, nnL, nnLl, nnLr, nnQ, nnQr, nnN, Nat.add_zero, if_false, if_true, Option.bind_some, not_true, not_false_iff, not_true_eq_false, not_false_eq_true, eq_self, Nat.not_lt_zero, z10, z01, or_true, true_or, or_false, false_or, true_and, false_and]
  have hg1 : ¬ 150 ≤ G := by omega
  by_cases hn : ∃ n, n < C ∧ v1 = nn n
  · obtain ⟨n, hn, rfl⟩ := hn
    rcases chk v2 Q (nn Q) rfl (by omega) with ⟨q, hq, rfl, x2, m2⟩ | ⟨x2, m2⟩
    · rcases chk v3 9999 9999 rfl (by decide) with ⟨i, hi, rfl, x3, m3⟩ | ⟨x3, m3⟩
      · rcases chk v4 9999 9999 rfl (by decide) with ⟨o, ho, rfl, x4, m4⟩ | ⟨x4, m4⟩
        · have hi5 : G < 150 := by omega
          have j0 : 1270 + 4 * G < 20360 := by omega
          have j1 : 1270 + 4 * G + 1 < 20360 := by omega
          have j2 : 1270 + 4 * G + 2 < 20360 := by omega
          have j3 : 1270 + 4 * G + 3 < 20360 := by omega
          refine ⟨0, 0, nn (G + 1), up2 (up2 (up2 (up2 (up2 g 43 G (nn n)) 44 G (nn q)) 45 G (nn i)) 46 G (nn o)) 42 0 (nn (G + 1)), up2 (up2 (up2 (up2 (up2 (up2 (up2 (up2 (up2 (up2 g 43 G (nn n)) 44 G (nn q)) 45 G (nn i)) 46 G (nn o)) 42 0 (nn (G + 1))) 216 (1270 + 4 * G) (nn n)) 216 (1270 + 4 * G + 1) (nn q)) 216 (1270 + 4 * G + 2) (nn i)) 216 (1270 + 4 * G + 3) (nn o)) 216 5 (nn (G + 1)), ?_, ?_, ?_⟩
          · unfold x_gauge gauges_addRow
            rw [hasChan_y h.net hn, h.net.cQ, h.gau.cG]
            simp (disch := first | omega | decide) only [lt1, nnMl, nnMr, nnAl, nnAr, nnA, nnM, nnB, nnT, nnP, nnE, nnEl, nnEr, nnL, nnLl, nnLr, nnQ, nnQr, nnN, Nat.add_zero, if_false, if_true, Option.bind_some, not_true, not_false_iff, not_true_eq_false, not_false_eq_true, eq_self, Nat.not_lt_zero, z10, z01, or_true, true_or, or_false, false_or, true_and, false_and, hg1, hi5, x2, x3, x4, u2n, u2e, up1_eq, up1_ne, ne_eq, h.gau.cG]
          · unfold m_gauge m_isOf_k1
            simp (disch := first | omega | decide) only [lt1, nnMl, nnMr, nnAl, nnAr, nnA, nnM, nnB, nnT, nnP, nnE, nnEl, nnEr, nnL, nnLl, nnLr, nnQ, nnQr, nnN, Nat.add_zero, if_false, if_true, Option.bind_some, not_true, not_false_iff, not_true_eq_false, not_false_eq_true, eq_self, Nat.not_lt_zero, z10, z01, or_true, true_or, or_false, false_or, true_and, false_and, u2n, u2e, up1_eq, up1_ne, ne_eq, h.gau.aG, hg]
            rw [h.net.aC, isOf_y rfl (by omega) hn, h.net.aQ]
            simp (disch := first | omega | decide) only [lt1, nnMl, nnMr, nnAl, nnAr, nnA, nnM, nnB, nnT, nnP, nnE, nnEl, nnEr, nnL, nnLl, nnLr, nnQ, nnQr, nnN, Nat.add_zero, if_false, if_true, Option.bind_some, not_true, not_false_iff, not_true_eq_false, not_false_eq_true, eq_self, Nat.not_lt_zero, z10, z01, or_true, true_or, or_false, false_or, true_and, false_and, u2n, u2e, up1_eq, up1_ne, ne_eq, h.gau.aG, m2, m3, m4, j0, j1, j2, j3]
          · exact RR.put hT hR ⟨N, C, Q, D, T, L, G + 1, h.net.fr (fun i e1 e2 => by simp (disch := first | omega | decide) only [u2e, u2n, up1_eq, up1_ne, ne_eq]) (fun j hj => by unfold iNet at hj; simp (disch := first | omega | decide) only [u2e, u2n, up1_eq, up1_ne, ne_eq]), h.rig.fr (fun i e1 e2 => by simp (disch := first | omega | decide) only [u2e, u2n, up1_eq, up1_ne, ne_eq]) (fun j hj => by unfold iRig at hj; simp (disch := first | omega | decide) only [u2e, u2n, up1_eq, up1_ne, ne_eq]), h.law.fr (fun i e1 e2 => by simp (disch := first | omega | decide) only [u2e, u2n, up1_eq, up1_ne, ne_eq]) (fun j hj => by unfold iLaw at hj; simp (disch := first | omega | decide) only [u2e, u2n, up1_eq, up1_ne, ne_eq]), h.gau.push hi5 ⟨n, hn, rfl⟩ ⟨q, hq, rfl⟩ ⟨i, hi, rfl⟩ ⟨o, ho, rfl⟩ (by simp (disch := first | omega | decide) only [u2e, u2n, up1_eq, up1_ne, ne_eq]) (by simp (disch := first | omega | decide) only [u2e, u2n, up1_eq, up1_ne, ne_eq]) (by simp (disch := first | omega | decide) only [u2e, u2n, up1_eq, up1_ne, ne_eq]) (by simp (disch := first | omega | decide) only [u2e, u2n, up1_eq, up1_ne, ne_eq]) (by simp (disch := first | omega | decide) only [u2e, u2n, up1_eq, up1_ne, ne_eq]) (by simp (disch := first | omega | decide) only [u2e, u2n, up1_eq, up1_ne, ne_eq]) (by simp (disch := first | omega | decide) only [u2e, u2n, up1_eq, up1_ne, ne_eq]) (by simp (disch := first | omega | decide) only [u2e, u2n, up1_eq, up1_ne, ne_eq]) (by simp (disch := first | omega | decide) only [u2e, u2n, up1_eq, up1_ne, ne_eq]) (by simp (disch := first | omega | decide) only [u2e, u2n, up1_eq, up1_ne, ne_eq]) (fun j e1 e2 e3 => (by simp (disch := first | omega | decide) only [u2e, u2n, up1_eq, up1_ne, ne_eq]))⟩ (fun i e1 e2 => by simp (disch := first | omega | decide) only [u2e, u2n, up1_eq, up1_ne, ne_eq]) (fun j hj => by simp (disch := first | omega | decide) only [u2e, u2n, up1_eq, up1_ne, ne_eq]) (by simp (disch := first | omega | decide) only [u2e, u2n, up1_eq, up1_ne, ne_eq]) (fun i e1 e2 => by simp (disch := first | omega | decide) only [u2e, u2n, up1_eq, up1_ne, ne_eq])
        · refine ⟨0, 0, -1, g, g, ?_, ?_, hR⟩
          · unfold x_gauge
            rw [hasChan_y h.net hn, h.net.cQ, h.gau.cG]
            simp (disch := first | omega | decide) only [lt1, nnMl, nnMr, nnAl, nnAr, nnA, nnM, nnB, nnT, nnP, nnE, nnEl, nnEr, nnL, nnLl, nnLr, nnQ, nnQr, nnN, Nat.add_zero, if_false, if_true, Option.bind_some, not_true, not_false_iff, not_true_eq_false, not_false_eq_true, eq_self, Nat.not_lt_zero, z10, z01, or_true, true_or, or_false, false_or, true_and, false_and, hg1, x2, x3, x4]
          · unfold m_gauge
            rw [isOf1_y h.net hn, h.net.aQ, h.gau.aG]
            simp (disch := first | omega | decide) only [lt1, nnMl, nnMr, nnAl, nnAr, nnA, nnM, nnB, nnT, nnP, nnE, nnEl, nnEr, nnL, nnLl, nnLr, nnQ, nnQr, nnN, Nat.add_zero, if_false, if_true, Option.bind_some, not_true, not_false_iff, not_true_eq_false, not_false_eq_true, eq_self, Nat.not_lt_zero, z10, z01, or_true, true_or, or_false, false_or, true_and, false_and, hg, m2, m3, m4]
      · refine ⟨0, 0, -1, g, g, ?_, ?_, hR⟩
        · unfold x_gauge
          rw [hasChan_y h.net hn, h.net.cQ, h.gau.cG]
          simp (disch := first | omega | decide) only [lt1, nnMl, nnMr, nnAl, nnAr, nnA, nnM, nnB, nnT, nnP, nnE, nnEl, nnEr, nnL, nnLl, nnLr, nnQ, nnQr, nnN, Nat.add_zero, if_false, if_true, Option.bind_some, not_true, not_false_iff, not_true_eq_false, not_false_eq_true, eq_self, Nat.not_lt_zero, z10, z01, or_true, true_or, or_false, false_or, true_and, false_and, hg1, x2, x3]
        · unfold m_gauge
          rw [isOf1_y h.net hn, h.net.aQ, h.gau.aG]
          simp (disch := first | omega | decide) only [lt1, nnMl, nnMr, nnAl, nnAr, nnA, nnM, nnB, nnT, nnP, nnE, nnEl, nnEr, nnL, nnLl, nnLr, nnQ, nnQr, nnN, Nat.add_zero, if_false, if_true, Option.bind_some, not_true, not_false_iff, not_true_eq_false, not_false_eq_true, eq_self, Nat.not_lt_zero, z10, z01, or_true, true_or, or_false, false_or, true_and, false_and, hg, m2, m3]
    · refine ⟨0, 0, -1, g, g, ?_, ?_, hR⟩
      · unfold x_gauge
        rw [hasChan_y h.net hn, h.net.cQ, h.gau.cG]
        simp (disch := first | omega | decide) only [lt1, nnMl, nnMr, nnAl, nnAr, nnA, nnM, nnB, nnT, nnP, nnE, nnEl, nnEr, nnL, nnLl, nnLr, nnQ, nnQr, nnN, Nat.add_zero, if_false, if_true, Option.bind_some, not_true, not_false_iff, not_true_eq_false, not_false_eq_true, eq_self, Nat.not_lt_zero, z10, z01, or_true, true_or, or_false, false_or, true_and, false_and, hg1, x2]
      · unfold m_gauge
        rw [isOf1_y h.net hn, h.net.aQ, h.gau.aG]
        simp (disch := first | omega | decide) only [lt1, nnMl, nnMr, nnAl, nnAr, nnA, nnM, nnB, nnT, nnP, nnE, nnEl, nnEr, nnL, nnLl, nnLr, nnQ, nnQr, nnN, Nat.add_zero, if_false, if_true, Option.bind_some, not_true, not_false_iff, not_true_eq_false, not_false_eq_true, eq_self, Nat.not_lt_zero, z10, z01, or_true, true_or, or_false, false_or, true_and, false_and, hg, m2]
  · refine ⟨0, 0, -1, g, g, ?_, ?_, hR⟩
    · unfold x_gauge
      rw [hasChan_n h.net hn, h.gau.cG]
      simp (disch := first | omega | decide) only [lt1, nnMl, nnMr, nnAl, nnAr, nnA, nnM, nnB, nnT, nnP, nnE, nnEl, nnEr, nnL, nnLl, nnLr, nnQ, nnQr, nnN, Nat.add_zero, if_false, if_true, Option.bind_some, not_true, not_false_iff, not_true_eq_false, not_false_eq_true, eq_self, Nat.not_lt_zero, z10, z01, or_true, true_or, or_false, false_or, true_and, false_and, hg1]
    · unfold m_gauge
      rw [isOf1_n h.net hn, h.gau.aG]
      simp (disch := first | omega | decide) only [lt1, nnMl, nnMr, nnAl, nnAr, nnA, nnM, nnB, nnT, nnP, nnE, nnEl, nnEr, nnL, nnLl, nnLr, nnQ, nnQr, nnN, Nat.add_zero, if_false, if_true, Option.bind_some, not_true, not_false_iff, not_true_eq_false, not_false_eq_true, eq_self, Nat.not_lt_zero, z10, z01, or_true, true_or, or_false, false_or, true_and, false_and, hg]
end SD
