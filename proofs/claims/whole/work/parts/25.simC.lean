section SC
theorem holder_y {g : Sg} {n : Nat} (h : n < 8) : x_isHolder (nn n) g = some 1 := by
  unfold x_isHolder
  rw [wthK_y (w := 7) (K := 7) rfl (by decide) (by omega)]
  simp (disch := first | omega | decide) only [lt1, nnMl, nnMr, nnAl, nnAr, nnA, nnM, nnB, nnT, nnP, nnE, nnEl, nnEr, nnL, nnLl, nnLr, nnQ, nnQr, nnN, Nat.add_zero, if_false, if_true, Option.bind_some, not_true, not_false_iff, not_true_eq_false, not_false_eq_true, eq_self, Nat.not_lt_zero, z10, z01, or_true, true_or, or_false, false_or, true_and, false_and]
theorem holder_n {g : Sg} {v : Int32} (h : ¬ ∃ n, n < 8 ∧ v = nn n) : x_isHolder v g = some 0 := by
  unfold x_isHolder
  rw [wthK_n (w := 7) (K := 7) rfl (by decide) h]
  simp (disch := first | omega | decide) only [lt1, nnMl, nnMr, nnAl, nnAr, nnA, nnM, nnB, nnT, nnP, nnE, nnEl, nnEr, nnL, nnLl, nnLr, nnQ, nnQr, nnN, Nat.add_zero, if_false, if_true, Option.bind_some, not_true, not_false_iff, not_true_eq_false, not_false_eq_true, eq_self, Nat.not_lt_zero, z10, z01, or_true, true_or, or_false, false_or, true_and, false_and]
theorem isField_y {g : Sg} {N C Q n : Nat} (h : RNet g (g 216) N C Q) (hn : n < N) (hk : g 3 n = 4) : net_isField (nn n) g = some 1 := by
  have := h.hN
  have h1 : n < 10 := by omega
  unfold net_isField
  rw [hasNode_y h hn]
  simp (disch := first | omega | decide) only [lt1, nnMl, nnMr, nnAl, nnAr, nnA, nnM, nnB, nnT, nnP, nnE, nnEl, nnEr, nnL, nnLl, nnLr, nnQ, nnQr, nnN, Nat.add_zero, if_false, if_true, Option.bind_some, not_true, not_false_iff, not_true_eq_false, not_false_eq_true, eq_self, Nat.not_lt_zero, z10, z01, or_true, true_or, or_false, false_or, true_and, false_and, h1, hk]
theorem isField_k {g : Sg} {N C Q n : Nat} (h : RNet g (g 216) N C Q) (hn : n < N) (hk : ¬ g 3 n = 4) : net_isField (nn n) g = some 0 := by
  have := h.hN
  have h1 : n < 10 := by omega
  unfold net_isField
  rw [hasNode_y h hn]
  simp (disch := first | omega | decide) only [lt1, nnMl, nnMr, nnAl, nnAr, nnA, nnM, nnB, nnT, nnP, nnE, nnEl, nnEr, nnL, nnLl, nnLr, nnQ, nnQr, nnN, Nat.add_zero, if_false, if_true, Option.bind_some, not_true, not_false_iff, not_true_eq_false, not_false_eq_true, eq_self, Nat.not_lt_zero, z10, z01, or_true, true_or, or_false, false_or, true_and, false_and, h1, hk]
theorem isField_n {g : Sg} {N C Q : Nat} {v : Int32} (h : RNet g (g 216) N C Q) (hn : ¬ ∃ n, n < N ∧ v = nn n) : net_isField v g = some 0 := by
  unfold net_isField
  rw [hasNode_n h hn]
  simp (disch := first | omega | decide) only [lt1, nnMl, nnMr, nnAl, nnAr, nnA, nnM, nnB, nnT, nnP, nnE, nnEl, nnEr, nnL, nnLl, nnLr, nnQ, nnQr, nnN, Nat.add_zero, if_false, if_true, Option.bind_some, not_true, not_false_iff, not_true_eq_false, not_false_eq_true, eq_self, Nat.not_lt_zero, z10, z01, or_true, true_or, or_false, false_or, true_and, false_and]
theorem chanOf0_y {g : Sg} {n : Nat} (hn : n < 14) : m_channelOf_k0 (nn n) g = some (g 216 (190 + 7 * n)) := by
  have h2 : 190 + 7 * n < 20360 := by omega
  unfold m_channelOf_k0
  simp (disch := first | omega | decide) only [lt1, nnMl, nnMr, nnAl, nnAr, nnA, nnM, nnB, nnT, nnP, nnE, nnEl, nnEr, nnL, nnLl, nnLr, nnQ, nnQr, nnN, Nat.add_zero, if_false, if_true, Option.bind_some, not_true, not_false_iff, not_true_eq_false, not_false_eq_true, eq_self, Nat.not_lt_zero, z10, z01, or_true, true_or, or_false, false_or, true_and, false_and, h2]
theorem sim_field {TS : Sg → Prop} (hT : TSf TS) : Sim_field (RR TS) := by
  intro v1 v2 g hR
  obtain ⟨N, C, Q, D, T, L, G, h⟩ := hR.now
  have hN := h.net.hN
  by_cases hn : ∃ n, n < 8 ∧ v1 = nn n
  · obtain ⟨n, hn, rfl⟩ := hn
    have h2 : 30 + n < 20360 := by omega
    have key : (v2 = -1 ∨ ∃ k, k < N ∧ v2 = nn k) → x_field (nn n) v2 g = some (1, up2 g 23 n v2) → m_field (nn n) v2 (up2 g 23 n v2) = some (1, up2 (up2 g 23 n v2) 216 (30 + n) v2) → ∃ (F1 F2 : Nat) (a : Int32) (g1 g2 : Sg), x_field (nn n) v2 g = some (a, g1) ∧ m_field (nn n) v2 g1 = some (a, g2) ∧ RR TS g2 := fun hv hx hm =>
      ⟨0, 0, 1, _, _, hx, hm, RR.wr hT hR (by decide) (by decide) (by omega) ⟨N, C, Q, D, T, L, G, h.net.fr (fun i h1 h2 => wrC (by omega) (by omega)) (fun j hj => up1_ne (by unfold iNet at hj; omega)), h.rig.homeU hv (fun i h1 h2 h3 => wrC h3 (by omega)) (wrE (by decide)) (fun j _ h2 => up1_ne h2) up1_eq hn, h.law.fr (fun i h1 h2 => wrC (by omega) (by omega)) (fun j hj => up1_ne (by unfold iLaw at hj; omega)), h.gau.fr (fun i h1 h2 => wrC (by omega) (by omega)) (fun j hj => up1_ne (by unfold iGau at hj; omega))⟩⟩
    by_cases e : v2 = -1
    · subst e
      refine key (Or.inl rfl) ?_ ?_
      · unfold x_field x_field_28
        rw [holder_y hn]
        simp (disch := first | omega | decide) only [lt1, nnMl, nnMr, nnAl, nnAr, nnA, nnM, nnB, nnT, nnP, nnE, nnEl, nnEr, nnL, nnLl, nnLr, nnQ, nnQr, nnN, Nat.add_zero, if_false, if_true, Option.bind_some, not_true, not_false_iff, not_true_eq_false, not_false_eq_true, eq_self, Nat.not_lt_zero, z10, z01, or_true, true_or, or_false, false_or, true_and, false_and, hn]
      · unfold m_field m_field_36
        rw [isInK_y (w := 7) (K := 7) rfl (by decide) (by omega)]
        simp (disch := first | omega | decide) only [lt1, nnMl, nnMr, nnAl, nnAr, nnA, nnM, nnB, nnT, nnP, nnE, nnEl, nnEr, nnL, nnLl, nnLr, nnQ, nnQr, nnN, Nat.add_zero, if_false, if_true, Option.bind_some, not_true, not_false_iff, not_true_eq_false, not_false_eq_true, eq_self, Nat.not_lt_zero, z10, z01, or_true, true_or, or_false, false_or, true_and, false_and, h2]
    · by_cases hk : ∃ k, k < N ∧ v2 = nn k
      · obtain ⟨k, hk, rfl⟩ := hk
        have h10 : k < 10 := by omega
        by_cases k4 : g 3 k = 4
        · refine key (Or.inr ⟨k, hk, rfl⟩) ?_ ?_
          · unfold x_field x_field_28
            rw [holder_y hn, isField_y h.net hk k4]
            simp (disch := first | omega | decide) only [lt1, nnMl, nnMr, nnAl, nnAr, nnA, nnM, nnB, nnT, nnP, nnE, nnEl, nnEr, nnL, nnLl, nnLr, nnQ, nnQr, nnN, Nat.add_zero, if_false, if_true, Option.bind_some, not_true, not_false_iff, not_true_eq_false, not_false_eq_true, eq_self, Nat.not_lt_zero, z10, z01, or_true, true_or, or_false, false_or, true_and, false_and, hn]
          · unfold m_field m_field_36 m_isOf_k0
            rw [isInK_y (w := 7) (K := 7) rfl (by decide) (by omega), isOf_y (N := N) (by rw [u2n (by decide)]; exact h.net.aN) (by omega) hk, nodeOf0_y h10, u2n (by decide), h.net.kind k h10]
            simp (disch := first | omega | decide) only [lt1, nnMl, nnMr, nnAl, nnAr, nnA, nnM, nnB, nnT, nnP, nnE, nnEl, nnEr, nnL, nnLl, nnLr, nnQ, nnQr, nnN, Nat.add_zero, if_false, if_true, Option.bind_some, not_true, not_false_iff, not_true_eq_false, not_false_eq_true, eq_self, Nat.not_lt_zero, z10, z01, or_true, true_or, or_false, false_or, true_and, false_and, h2, k4]
        · refine ⟨0, 0, 0, g, g, ?_, ?_, hR⟩
          · unfold x_field
            rw [holder_y hn, isField_k h.net hk k4]
            simp (disch := first | omega | decide) only [lt1, nnMl, nnMr, nnAl, nnAr, nnA, nnM, nnB, nnT, nnP, nnE, nnEl, nnEr, nnL, nnLl, nnLr, nnQ, nnQr, nnN, Nat.add_zero, if_false, if_true, Option.bind_some, not_true, not_false_iff, not_true_eq_false, not_false_eq_true, eq_self, Nat.not_lt_zero, z10, z01, or_true, true_or, or_false, false_or, true_and, false_and]
          · unfold m_field
            rw [isInK_y (w := 7) (K := 7) rfl (by decide) (by omega), isOf0_y h.net hk, nodeOf0_y h10, h.net.kind k h10]
            simp (disch := first | omega | decide) only [lt1, nnMl, nnMr, nnAl, nnAr, nnA, nnM, nnB, nnT, nnP, nnE, nnEl, nnEr, nnL, nnLl, nnLr, nnQ, nnQr, nnN, Nat.add_zero, if_false, if_true, Option.bind_some, not_true, not_false_iff, not_true_eq_false, not_false_eq_true, eq_self, Nat.not_lt_zero, z10, z01, or_true, true_or, or_false, false_or, true_and, false_and, k4]
      · refine ⟨0, 0, 0, g, g, ?_, ?_, hR⟩
        · unfold x_field
          rw [holder_y hn, isField_n h.net hk]
          simp (disch := first | omega | decide) only [lt1, nnMl, nnMr, nnAl, nnAr, nnA, nnM, nnB, nnT, nnP, nnE, nnEl, nnEr, nnL, nnLl, nnLr, nnQ, nnQr, nnN, Nat.add_zero, if_false, if_true, Option.bind_some, not_true, not_false_iff, not_true_eq_false, not_false_eq_true, eq_self, Nat.not_lt_zero, z10, z01, or_true, true_or, or_false, false_or, true_and, false_and, e]
        · unfold m_field
          rw [isInK_y (w := 7) (K := 7) rfl (by decide) (by omega), isOf0_n h.net hk]
          simp (disch := first | omega | decide) only [lt1, nnMl, nnMr, nnAl, nnAr, nnA, nnM, nnB, nnT, nnP, nnE, nnEl, nnEr, nnL, nnLl, nnLr, nnQ, nnQr, nnN, Nat.add_zero, if_false, if_true, Option.bind_some, not_true, not_false_iff, not_true_eq_false, not_false_eq_true, eq_self, Nat.not_lt_zero, z10, z01, or_true, true_or, or_false, false_or, true_and, false_and, e]
  · refine ⟨0, 0, 0, g, g, ?_, ?_, hR⟩
    · unfold x_field
      rw [holder_n hn]
      simp (disch := first | omega | decide) only [lt1, nnMl, nnMr, nnAl, nnAr, nnA, nnM, nnB, nnT, nnP, nnE, nnEl, nnEr, nnL, nnLl, nnLr, nnQ, nnQr, nnN, Nat.add_zero, if_false, if_true, Option.bind_some, not_true, not_false_iff, not_true_eq_false, not_false_eq_true, eq_self, Nat.not_lt_zero, z10, z01, or_true, true_or, or_false, false_or, true_and, false_and]
    · unfold m_field
      rw [isInK_n (w := 7) (K := 7) rfl (by decide) hn]
      simp (disch := first | omega | decide) only [lt1, nnMl, nnMr, nnAl, nnAr, nnA, nnM, nnB, nnT, nnP, nnE, nnEl, nnEr, nnL, nnLl, nnLr, nnQ, nnQr, nnN, Nat.add_zero, if_false, if_true, Option.bind_some, not_true, not_false_iff, not_true_eq_false, not_false_eq_true, eq_self, Nat.not_lt_zero, z10, z01, or_true, true_or, or_false, false_or, true_and, false_and]
theorem sim_open {TS : Sg → Prop} (hT : TSf TS) : Sim_open (RR TS) := by
  intro v1 v2 g hR
  obtain ⟨N, C, Q, D, T, L, G, h⟩ := hR.now
  have hN := h.net.hN
  have hC := h.net.hC
  by_cases hn : ∃ n, n < N ∧ v1 = nn n
  · obtain ⟨n, hn, rfl⟩ := hn
    have h10 : n < 10 := by omega
    have h2 : 140 + 5 * n + 2 < 20360 := by omega
    have key : (v2 = -1 ∨ ∃ k, k < C ∧ v2 = nn k ∧ g 9 k = nn n) → x_open (nn n) v2 g = some (1, up2 g 5 n v2) → m_open (nn n) v2 (up2 g 5 n v2) = some (1, up2 (up2 g 5 n v2) 216 (140 + 5 * n + 2) v2) → ∃ (F1 F2 : Nat) (a : Int32) (g1 g2 : Sg), x_open (nn n) v2 g = some (a, g1) ∧ m_open (nn n) v2 g1 = some (a, g2) ∧ RR TS g2 := fun hv hx hm =>
      ⟨0, 0, 1, _, _, hx, hm, RR.wr hT hR (by decide) (by decide) (by omega) ⟨N, C, Q, D, T, L, G, h.net.gateU h10 hv (fun i h1 h2 h3 => wrC h3 (by omega)) (wrE (by decide)) (fun j _ h2 => up1_ne h2) up1_eq, h.rig.fr (fun i h1 h2 => wrC (by omega) (by omega)) (fun j hj => up1_ne (by unfold iRig at hj; omega)), h.law.fr (fun i h1 h2 => wrC (by omega) (by omega)) (fun j hj => up1_ne (by unfold iLaw at hj; omega)), h.gau.fr (fun i h1 h2 => wrC (by omega) (by omega)) (fun j hj => up1_ne (by unfold iGau at hj; omega))⟩⟩
    have a0 : ∀ v, up2 g 5 n v 216 = g 216 := fun v => u2n (by decide)
    by_cases e : v2 = -1
    · subst e
      refine key (Or.inl rfl) ?_ ?_
      · unfold x_open x_open_43
        rw [hasNode_y h.net hn]
        simp (disch := first | omega | decide) only [lt1, nnMl, nnMr, nnAl, nnAr, nnA, nnM, nnB, nnT, nnP, nnE, nnEl, nnEr, nnL, nnLl, nnLr, nnQ, nnQr, nnN, Nat.add_zero, if_false, if_true, Option.bind_some, not_true, not_false_iff, not_true_eq_false, not_false_eq_true, eq_self, Nat.not_lt_zero, z10, z01, or_true, true_or, or_false, false_or, true_and, false_and, h10]
      · unfold m_open m_open_35 m_isOf_k0
        rw [isOf_y (N := N) (by rw [a0]; exact h.net.aN) (by omega) hn]
        simp (disch := first | omega | decide) only [lt1, nnMl, nnMr, nnAl, nnAr, nnA, nnM, nnB, nnT, nnP, nnE, nnEl, nnEr, nnL, nnLl, nnLr, nnQ, nnQr, nnN, Nat.add_zero, if_false, if_true, Option.bind_some, not_true, not_false_iff, not_true_eq_false, not_false_eq_true, eq_self, Nat.not_lt_zero, z10, z01, or_true, true_or, or_false, false_or, true_and, false_and, h2]
    · by_cases hk : ∃ k, k < C ∧ v2 = nn k
      · obtain ⟨k, hk, rfl⟩ := hk
        have h14 : k < 14 := by omega
        by_cases k4 : g 9 k = nn n
        · refine key (Or.inr ⟨k, hk, rfl, k4⟩) ?_ ?_
          · unfold x_open x_open_43
            rw [hasNode_y h.net hn, hasChan_y h.net hk]
            simp (disch := first | omega | decide) only [lt1, nnMl, nnMr, nnAl, nnAr, nnA, nnM, nnB, nnT, nnP, nnE, nnEl, nnEr, nnL, nnLl, nnLr, nnQ, nnQr, nnN, Nat.add_zero, if_false, if_true, Option.bind_some, not_true, not_false_iff, not_true_eq_false, not_false_eq_true, eq_self, Nat.not_lt_zero, z10, z01, or_true, true_or, or_false, false_or, true_and, false_and, h10, h14, k4]
          · unfold m_open m_open_35 m_isOf_k0 m_isOf_k1
            rw [isOf_y (N := N) (by rw [a0]; exact h.net.aN) (by omega) hn, isOf_y (N := C) (by rw [a0]; exact h.net.aC) (by omega) hk, chanOf0_y h14, a0, h.net.frm k h14]
            simp (disch := first | omega | decide) only [lt1, nnMl, nnMr, nnAl, nnAr, nnA, nnM, nnB, nnT, nnP, nnE, nnEl, nnEr, nnL, nnLl, nnLr, nnQ, nnQr, nnN, Nat.add_zero, if_false, if_true, Option.bind_some, not_true, not_false_iff, not_true_eq_false, not_false_eq_true, eq_self, Nat.not_lt_zero, z10, z01, or_true, true_or, or_false, false_or, true_and, false_and, h2, k4]
        · refine ⟨0, 0, 0, g, g, ?_, ?_, hR⟩
          · unfold x_open
            rw [hasNode_y h.net hn, hasChan_y h.net hk]
            simp (disch := first | omega | decide) only [lt1, nnMl, nnMr, nnAl, nnAr, nnA, nnM, nnB, nnT, nnP, nnE, nnEl, nnEr, nnL, nnLl, nnLr, nnQ, nnQr, nnN, Nat.add_zero, if_false, if_true, Option.bind_some, not_true, not_false_iff, not_true_eq_false, not_false_eq_true, eq_self, Nat.not_lt_zero, z10, z01, or_true, true_or, or_false, false_or, true_and, false_and, h14, k4]
          · unfold m_open
            rw [isOf0_y h.net hn, isOf1_y h.net hk, chanOf0_y h14, h.net.frm k h14]
            simp (disch := first | omega | decide) only [lt1, nnMl, nnMr, nnAl, nnAr, nnA, nnM, nnB, nnT, nnP, nnE, nnEl, nnEr, nnL, nnLl, nnLr, nnQ, nnQr, nnN, Nat.add_zero, if_false, if_true, Option.bind_some, not_true, not_false_iff, not_true_eq_false, not_false_eq_true, eq_self, Nat.not_lt_zero, z10, z01, or_true, true_or, or_false, false_or, true_and, false_and, k4]
      · refine ⟨0, 0, 0, g, g, ?_, ?_, hR⟩
        · unfold x_open
          rw [hasNode_y h.net hn, hasChan_n h.net hk]
          simp (disch := first | omega | decide) only [lt1, nnMl, nnMr, nnAl, nnAr, nnA, nnM, nnB, nnT, nnP, nnE, nnEl, nnEr, nnL, nnLl, nnLr, nnQ, nnQr, nnN, Nat.add_zero, if_false, if_true, Option.bind_some, not_true, not_false_iff, not_true_eq_false, not_false_eq_true, eq_self, Nat.not_lt_zero, z10, z01, or_true, true_or, or_false, false_or, true_and, false_and, e]
        · unfold m_open
          rw [isOf0_y h.net hn, isOf1_n h.net hk]
          simp (disch := first | omega | decide) only [lt1, nnMl, nnMr, nnAl, nnAr, nnA, nnM, nnB, nnT, nnP, nnE, nnEl, nnEr, nnL, nnLl, nnLr, nnQ, nnQr, nnN, Nat.add_zero, if_false, if_true, Option.bind_some, not_true, not_false_iff, not_true_eq_false, not_false_eq_true, eq_self, Nat.not_lt_zero, z10, z01, or_true, true_or, or_false, false_or, true_and, false_and, e]
  · refine ⟨0, 0, 0, g, g, ?_, ?_, hR⟩
    · unfold x_open
      rw [hasNode_n h.net hn]
      simp (disch := first | omega | decide) only [lt1, nnMl, nnMr, nnAl, nnAr, nnA, nnM, nnB, nnT, nnP, nnE, nnEl, nnEr, nnL, nnLl, nnLr, nnQ, nnQr, nnN, Nat.add_zero, if_false, if_true, Option.bind_some, not_true, not_false_iff, not_true_eq_false, not_false_eq_true, eq_self, Nat.not_lt_zero, z10, z01, or_true, true_or, or_false, false_or, true_and, false_and]
    · unfold m_open
      rw [isOf0_n h.net hn]
      simp (disch := first | omega | decide) only [lt1, nnMl, nnMr, nnAl, nnAr, nnA, nnM, nnB, nnT, nnP, nnE, nnEl, nnEr, nnL, nnLl, nnLr, nnQ, nnQr, nnN, Nat.add_zero, if_false, if_true, Option.bind_some, not_true, not_false_iff, not_true_eq_false, not_false_eq_true, eq_self, Nat.not_lt_zero, z10, z01, or_true, true_or, or_false, false_or, true_and, false_and]
theorem sim_annul {TS : Sg → Prop} (hT : TSf TS) : Sim_annul (RR TS) := by
  intro v1 g hR
  obtain ⟨N, C, Q, D, T, L, G, h⟩ := hR.now
  have hD := h.rig.hD
  have hQ := h.net.hQ
  by_cases hn : ∃ n, n < D ∧ v1 = nn n
  · obtain ⟨n, hn, rfl⟩ := hn
    have h10 : n < 120 := by omega
    have h2 : 550 + 6 * n + 5 < 20360 := by omega
    rcases h.rig.dV n hn with e | ⟨z, hz, e⟩
    · refine ⟨0, 0, 1, up2 g 29 n (nn (Q / 96)), up2 (up2 g 29 n (nn (Q / 96))) 216 (550 + 6 * n + 5) (nn (Q / 96)), ?_, ?_, ?_⟩
      · unfold x_annul
        rw [hasDeed_y h.rig hn, today_x h.net]
        simp (disch := first | omega | decide) only [lt1, nnMl, nnMr, nnAl, nnAr, nnA, nnM, nnB, nnT, nnP, nnE, nnEl, nnEr, nnL, nnLl, nnLr, nnQ, nnQr, nnN, Nat.add_zero, if_false, if_true, Option.bind_some, not_true, not_false_iff, not_true_eq_false, not_false_eq_true, eq_self, Nat.not_lt_zero, z10, z01, or_true, true_or, or_false, false_or, true_and, false_and, h10, e]
      · have a0 : up2 g 29 n (nn (Q / 96)) 216 = g 216 := u2n (by decide)
        unfold m_annul m_isOf_k2 m_deedOf_k5
        rw [isOf_y (N := D) (by rw [a0]; exact h.rig.aD) (by omega) hn, today_m (Q := Q) (by rw [a0]; exact h.net.aQ) hQ, a0]
        simp (disch := first | omega | decide) only [lt1, nnMl, nnMr, nnAl, nnAr, nnA, nnM, nnB, nnT, nnP, nnE, nnEl, nnEr, nnL, nnLl, nnLr, nnQ, nnQr, nnN, Nat.add_zero, if_false, if_true, Option.bind_some, not_true, not_false_iff, not_true_eq_false, not_false_eq_true, eq_self, Nat.not_lt_zero, z10, z01, or_true, true_or, or_false, false_or, true_and, false_and, h2, h.rig.d5 n h10, e]
        rfl
      · exact RR.wr hT hR (by decide) (by decide) (by omega) ⟨N, C, Q, D, T, L, G, h.net.fr (fun i h1 h2 => wrC (by omega) (by omega)) (fun j hj => up1_ne (by unfold iNet at hj; omega)), h.rig.voidU ⟨Q / 96, Nat.le_refl _, rfl⟩ (fun i h1 h2 h3 => wrC h3 (by omega)) (wrE (by decide)) (fun j _ h2 => up1_ne h2) up1_eq h10, h.law.fr (fun i h1 h2 => wrC (by omega) (by omega)) (fun j hj => up1_ne (by unfold iLaw at hj; omega)), h.gau.fr (fun i h1 h2 => wrC (by omega) (by omega)) (fun j hj => up1_ne (by unfold iGau at hj; omega))⟩
    · have hz9 : z < 2147483648 := by omega
      refine ⟨0, 0, 0, g, g, ?_, ?_, hR⟩
      · unfold x_annul
        rw [hasDeed_y h.rig hn]
        simp (disch := first | omega | decide) only [lt1, nnMl, nnMr, nnAl, nnAr, nnA, nnM, nnB, nnT, nnP, nnE, nnEl, nnEr, nnL, nnLl, nnLr, nnQ, nnQr, nnN, Nat.add_zero, if_false, if_true, Option.bind_some, not_true, not_false_iff, not_true_eq_false, not_false_eq_true, eq_self, Nat.not_lt_zero, z10, z01, or_true, true_or, or_false, false_or, true_and, false_and, h10, e]
      · unfold m_annul m_isOf_k2 m_deedOf_k5
        rw [isOf_y h.rig.aD (by omega) hn]
        simp (disch := first | omega | decide) only [lt1, nnMl, nnMr, nnAl, nnAr, nnA, nnM, nnB, nnT, nnP, nnE, nnEl, nnEr, nnL, nnLl, nnLr, nnQ, nnQr, nnN, Nat.add_zero, if_false, if_true, Option.bind_some, not_true, not_false_iff, not_true_eq_false, not_false_eq_true, eq_self, Nat.not_lt_zero, z10, z01, or_true, true_or, or_false, false_or, true_and, false_and, h2, h.rig.d5 n h10, e]
  · refine ⟨0, 0, 0, g, g, ?_, ?_, hR⟩
    · unfold x_annul
      rw [hasDeed_n h.rig hn]
      simp (disch := first | omega | decide) only [lt1, nnMl, nnMr, nnAl, nnAr, nnA, nnM, nnB, nnT, nnP, nnE, nnEl, nnEr, nnL, nnLl, nnLr, nnQ, nnQr, nnN, Nat.add_zero, if_false, if_true, Option.bind_some, not_true, not_false_iff, not_true_eq_false, not_false_eq_true, eq_self, Nat.not_lt_zero, z10, z01, or_true, true_or, or_false, false_or, true_and, false_and]
    · unfold m_annul m_isOf_k2
      rw [isOf_n h.rig.aD (by omega) hn]
      simp (disch := first | omega | decide) only [lt1, nnMl, nnMr, nnAl, nnAr, nnA, nnM, nnB, nnT, nnP, nnE, nnEl, nnEr, nnL, nnLl, nnLr, nnQ, nnQr, nnN, Nat.add_zero, if_false, if_true, Option.bind_some, not_true, not_false_iff, not_true_eq_false, not_false_eq_true, eq_self, Nat.not_lt_zero, z10, z01, or_true, true_or, or_false, false_or, true_and, false_and]
end SC
