theorem RNet.pushC {c c' : Sg} {a a' : Nat → Int32} {N C Q : Nat} {v0 v1 v2 v3 v4 v5 : Int32} (h : RNet c a N C Q) (hC : C < 14) (wends : ∃ f t, f < t ∧ t < N ∧ v0 = nn f ∧ v1 = nn t) (wlowV : ∃ v, v ≤ 500 ∧ v2 = nn v) (whigV : ∃ v, v ≤ 500 ∧ v3 = nn v) (wtrvV : ∃ v, v ≤ 8 ∧ v4 = nn v) (wbrdV : ∃ v, 1 ≤ v ∧ v ≤ 9999 ∧ v5 = nn v) (hc : ∀ i, 2 ≤ i → i ≤ 21 → i ≠ 2 → i ≠ 9 → i ≠ 10 → i ≠ 11 → i ≠ 12 → i ≠ 13 → i ≠ 14 → c' i = c i) (e2 : c' 2 = up1 (c 2) 6 (nn (C + 1))) (e9 : c' 9 = up1 (c 9) C v0) (e10 : c' 10 = up1 (c 10) C v1) (e11 : c' 11 = up1 (c 11) C v2) (e12 : c' 12 = up1 (c 12) C v3) (e13 : c' 13 = up1 (c 13) C v4) (e14 : c' 14 = up1 (c 14) C v5) (a1 : a' 1 = nn (C + 1)) (b0 : a' (190 + 7 * C) = v0) (b1 : a' (190 + 7 * C + 1) = v1) (b2 : a' (190 + 7 * C + 2) = v2) (b3 : a' (190 + 7 * C + 3) = v3) (b4 : a' (190 + 7 * C + 4) = v4) (b5 : a' (190 + 7 * C + 5) = v5) (b6 : a' (190 + 7 * C + 6) = 0) (ha : ∀ j, iNet j → j ≠ 1 → j < 190 + 7 * C ∨ 190 + 7 * C + 7 ≤ j → a' j = a j) : RNet c' a' N (C + 1) Q := by
  have e3 := hc 3 (by decide) (by decide) (by decide) (by decide) (by decide) (by decide) (by decide) (by decide) (by decide)
  have e4 := hc 4 (by decide) (by decide) (by decide) (by decide) (by decide) (by decide) (by decide) (by decide) (by decide)
  have e5 := hc 5 (by decide) (by decide) (by decide) (by decide) (by decide) (by decide) (by decide) (by decide) (by decide)
  have e7 := hc 7 (by decide) (by decide) (by decide) (by decide) (by decide) (by decide) (by decide) (by decide) (by decide)
  have e8 := hc 8 (by decide) (by decide) (by decide) (by decide) (by decide) (by decide) (by decide) (by decide) (by decide)
  have e15 := hc 15 (by decide) (by decide) (by decide) (by decide) (by decide) (by decide) (by decide) (by decide) (by decide)
  have e17 := hc 17 (by decide) (by decide) (by decide) (by decide) (by decide) (by decide) (by decide) (by decide) (by decide)
  have e18 := hc 18 (by decide) (by decide) (by decide) (by decide) (by decide) (by decide) (by decide) (by decide) (by decide)
  have e19 := hc 19 (by decide) (by decide) (by decide) (by decide) (by decide) (by decide) (by decide) (by decide) (by decide)
  have e20 := hc 20 (by decide) (by decide) (by decide) (by decide) (by decide) (by decide) (by decide) (by decide) (by decide)
  have e21 := hc 21 (by decide) (by decide) (by decide) (by decide) (by decide) (by decide) (by decide) (by decide) (by decide)
  have A := ha
  apply RNet.mk
  case hN => exact h.hN
  case hC => omega
  case hQ => exact h.hQ
  case cN => rw [e2, up1_ne (by decide)]; exact h.cN
  case aN => rw [A _ (by unfold iNet; omega) (by omega) (by omega)]; exact h.aN
  case cC => rw [e2, up1_eq]
  case aC => exact a1
  case cQ => rw [e2, up1_ne (by decide)]; exact h.cQ
  case aQ => rw [A _ (by unfold iNet; omega) (by omega) (by omega)]; exact h.aQ
  case kind => intro n hn; rw [A _ (by unfold iNet; omega) (by omega) (by omega), e3]; exact h.kind n hn
  case size => intro n hn; rw [A _ (by unfold iNet; omega) (by omega) (by omega), e4]; exact h.size n hn
  case gate => intro n hn; rw [A _ (by unfold iNet; omega) (by omega) (by omega), e5]; exact h.gate n hn
  case kep0 => intro n hn; rw [A _ (by unfold iNet; omega) (by omega) (by omega), e7]; exact h.kep0 n hn
  case kep1 => intro n hn; rw [A _ (by unfold iNet; omega) (by omega) (by omega), e8]; exact h.kep1 n hn
  case frm => 
    intro n hn
    rw [e9]
    by_cases e : n = C
    · subst e; rw [up1_eq]; exact b0
    · rw [up1_ne e, A _ (by unfold iNet; omega) (by omega) (by omega)]; exact h.frm n hn
  case to => 
    intro n hn
    rw [e10]
    by_cases e : n = C
    · subst e; rw [up1_eq]; exact b1
    · rw [up1_ne e, A _ (by unfold iNet; omega) (by omega) (by omega)]; exact h.to n hn
  case low => 
    intro n hn
    rw [e11]
    by_cases e : n = C
    · subst e; rw [up1_eq]; exact b2
    · rw [up1_ne e, A _ (by unfold iNet; omega) (by omega) (by omega)]; exact h.low n hn
  case hig => 
    intro n hn
    rw [e12]
    by_cases e : n = C
    · subst e; rw [up1_eq]; exact b3
    · rw [up1_ne e, A _ (by unfold iNet; omega) (by omega) (by omega)]; exact h.hig n hn
  case trv => 
    intro n hn
    rw [e13]
    by_cases e : n = C
    · subst e; rw [up1_eq]; exact b4
    · rw [up1_ne e, A _ (by unfold iNet; omega) (by omega) (by omega)]; exact h.trv n hn
  case brd => 
    intro n hn
    rw [e14]
    by_cases e : n = C
    · subst e; rw [up1_eq]; exact b5
    · rw [up1_ne e, A _ (by unfold iNet; omega) (by omega) (by omega)]; exact h.brd n hn
  case brk => 
    intro n hn
    rw [e15]
    by_cases e : n = C
    · subst e; rw [b6, h.brkZ n (Nat.le_refl n) hn]
    · rw [A _ (by unfold iNet; omega) (by omega) (by omega)]; exact h.brk n hn
  case way0 => intro n hn; rw [A _ (by unfold iNet; omega) (by omega) (by omega), e17]; exact h.way0 n hn
  case way1 => intro n hn; rw [A _ (by unfold iNet; omega) (by omega) (by omega), e18]; exact h.way1 n hn
  case gateV => 
    intro n hn
    rw [e5, e9]
    rcases h.gateV n hn with e | ⟨k, h1, h2, h3⟩
    · exact Or.inl e
    · exact Or.inr ⟨k, by omega, h2, by rw [up1_ne (by omega)]; exact h3⟩
  case ends => 
    intro n hn
    rw [e9, e10]
    by_cases e : n = C
    · subst e; rw [up1_eq, up1_eq]; exact wends
    · rw [up1_ne e, up1_ne e]; exact h.ends n (by omega)
  case lowV => 
    intro n hn
    rw [e11]
    by_cases e : n = C
    · subst e; rw [up1_eq]; exact wlowV
    · rw [up1_ne e]; exact h.lowV n (by omega)
  case higV => 
    intro n hn
    rw [e12]
    by_cases e : n = C
    · subst e; rw [up1_eq]; exact whigV
    · rw [up1_ne e]; exact h.higV n (by omega)
  case trvV => 
    intro n hn
    rw [e13]
    by_cases e : n = C
    · subst e; rw [up1_eq]; exact wtrvV
    · rw [up1_ne e]; exact h.trvV n (by omega)
  case brdV => 
    intro n hn
    rw [e14]
    by_cases e : n = C
    · subst e; rw [up1_eq]; exact wbrdV
    · rw [up1_ne e]; exact h.brdV n (by omega)
  case brkV => rw [e15]; exact h.brkV
  case kindV => rw [e3]; exact h.kindV
  case kepZ => rw [e7, e8]; exact h.kepZ
  case brkZ => intro n hn h9; rw [e15]; exact h.brkZ n (by omega) h9
  case wayZ => intro n hn h9; rw [e17, e18]; exact h.wayZ n (by omega) h9
  case su00 => rw [A _ (by unfold iNet; omega) (by omega) (by omega), e3, e7]; exact h.su00
  case su01 => rw [A _ (by unfold iNet; omega) (by omega) (by omega), e3, e7]; exact h.su01
  case su02 => rw [A _ (by unfold iNet; omega) (by omega) (by omega), e3, e7]; exact h.su02
  case su03 => rw [A _ (by unfold iNet; omega) (by omega) (by omega), e17]; exact h.su03
  case su04 => rw [A _ (by unfold iNet; omega) (by omega) (by omega), e19]; exact h.su04
  case su05 => rw [A _ (by unfold iNet; omega) (by omega) (by omega), e20]; exact h.su05
  case su06 => rw [A _ (by unfold iNet; omega) (by omega) (by omega), e21]; exact h.su06
  case su10 => rw [A _ (by unfold iNet; omega) (by omega) (by omega), e3, e8]; exact h.su10
  case su11 => rw [A _ (by unfold iNet; omega) (by omega) (by omega), e3, e8]; exact h.su11
  case su12 => rw [A _ (by unfold iNet; omega) (by omega) (by omega), e3, e8]; exact h.su12
  case su13 => rw [A _ (by unfold iNet; omega) (by omega) (by omega), e18]; exact h.su13
  case su14 => rw [A _ (by unfold iNet; omega) (by omega) (by omega), e19]; exact h.su14
  case su15 => rw [A _ (by unfold iNet; omega) (by omega) (by omega), e20]; exact h.su15
  case su16 => rw [A _ (by unfold iNet; omega) (by omega) (by omega), e21]; exact h.su16
theorem RGau.growC {c : Sg} {a : Nat → Int32} {G C Q : Nat} (h : RGau c a G C Q) : RGau c a G (C + 1) Q := by
  apply RGau.mk
  case hG => exact h.hG
  case cG => exact h.cG
  case aG => exact h.aG
  case g0 => exact h.g0
  case g1 => exact h.g1
  case g2 => exact h.g2
  case g3 => exact h.g3
  case gC => 
    intro k hk
    obtain ⟨n, h1, h2⟩ := h.gC k hk
    exact ⟨n, by omega, h2⟩
  case gQ => exact h.gQ
  case gI => exact h.gI
  case gO => exact h.gO
section SG
set_option maxHeartbeats 8000000 in
theorem sim_channel {TS : Sg → Prop} (hT : TSf TS) : Sim_channel (RR TS) := by
  intro v1 v2 v3 v4 v5 v6 g hR
  obtain ⟨N, C, Q, D, T, L, G, h⟩ := hR.now
  have hN := h.net.hN
  have hC := h.net.hC
  by_cases hc : C = 14
  · subst hc
    refine ⟨0, 0, -1, g, g, ?_, ?_, hR⟩
    · unfold x_channel
      rw [h.net.cC, if_pos (show (14 : Int32) ≤ nn 14 by decide)]
    · unfold m_channel
      rw [h.net.aC, if_pos (show nn 14 = 14 from rfl)]
  have hc1 : ¬ 14 ≤ C := by omega
  have hc2 : C < 14 := by omega
  have hcn : ¬ C = 14 := hc
  by_cases hf : ∃ n, n < N ∧ v1 = nn n
  rotate_left
  · refine ⟨0, 0, -1, g, g, ?_, ?_, hR⟩
    · unfold x_channel
      rw [h.net.cC]
      exact st_f (by simp (disch := first | omega | decide) only [lt1, nnMl, nnMr, nnAl, nnAr, nnA, nnM, nnB, nnT, nnP, nnE, nnEl, nnEr, nnL, nnLl, nnLr, nnQ, nnQr, nnN, Nat.add_zero, if_false, if_true, Option.bind_some, not_true, not_false_iff, not_true_eq_false, not_false_eq_true, eq_self, Nat.not_lt_zero, z10, z01, or_true, true_or, or_false, false_or, true_and, false_and, hc1]) (st_b (hasNode_n h.net hf) (st_t rfl rfl))
    · unfold m_channel
      rw [h.net.aC]
      exact st_f (fun e => hcn ((nnQ (a := C) (b := 14) (by omega) (by decide)).mp e)) (st_b (isOf0_n h.net hf) (st_t rfl rfl))
  by_cases ht : ∃ n, n < N ∧ v2 = nn n
  rotate_left
  · obtain ⟨f, hf, rfl⟩ := hf
    refine ⟨0, 0, -1, g, g, ?_, ?_, hR⟩
    · unfold x_channel
      rw [h.net.cC]
      exact st_f (by simp (disch := first | omega | decide) only [lt1, nnMl, nnMr, nnAl, nnAr, nnA, nnM, nnB, nnT, nnP, nnE, nnEl, nnEr, nnL, nnLl, nnLr, nnQ, nnQr, nnN, Nat.add_zero, if_false, if_true, Option.bind_some, not_true, not_false_iff, not_true_eq_false, not_false_eq_true, eq_self, Nat.not_lt_zero, z10, z01, or_true, true_or, or_false, false_or, true_and, false_and, hc1]) (st_b (hasNode_y h.net hf) (st_f (by decide) (st_b (hasNode_n h.net ht) (st_f (by decide) rfl))))
    · unfold m_channel
      rw [h.net.aC]
      exact st_f (fun e => hcn ((nnQ (a := C) (b := 14) (by omega) (by decide)).mp e)) (st_b (isOf0_y h.net hf) (st_f (by decide) (st_b (isOf0_n h.net ht) (st_t rfl rfl))))
  obtain ⟨f, hf, rfl⟩ := hf
  obtain ⟨t, ht, rfl⟩ := ht
  by_cases hft : t ≤ f
  · refine ⟨0, 0, -1, g, g, ?_, ?_, hR⟩
    · unfold x_channel
      rw [h.net.cC]
      exact st_f (by simp (disch := first | omega | decide) only [lt1, nnMl, nnMr, nnAl, nnAr, nnA, nnM, nnB, nnT, nnP, nnE, nnEl, nnEr, nnL, nnLl, nnLr, nnQ, nnQr, nnN, Nat.add_zero, if_false, if_true, Option.bind_some, not_true, not_false_iff, not_true_eq_false, not_false_eq_true, eq_self, Nat.not_lt_zero, z10, z01, or_true, true_or, or_false, false_or, true_and, false_and, hc1]) (st_b (hasNode_y h.net hf) (st_f (by decide) (st_b (hasNode_y h.net ht) (st_t (by decide) (st_t (by simp (disch := first | omega | decide) only [lt1, nnMl, nnMr, nnAl, nnAr, nnA, nnM, nnB, nnT, nnP, nnE, nnEl, nnEr, nnL, nnLl, nnLr, nnQ, nnQr, nnN, Nat.add_zero, if_false, if_true, Option.bind_some, not_true, not_false_iff, not_true_eq_false, not_false_eq_true, eq_self, Nat.not_lt_zero, z10, z01, or_true, true_or, or_false, false_or, true_and, false_and, hft]) rfl)))))
    · unfold m_channel
      rw [h.net.aC]
      exact st_f (fun e => hcn ((nnQ (a := C) (b := 14) (by omega) (by decide)).mp e)) (st_b (isOf0_y h.net hf) (st_f (by decide) (st_b (isOf0_y h.net ht) (st_f (by decide) (st_t (by simp (disch := first | omega | decide) only [lt1, nnMl, nnMr, nnAl, nnAr, nnA, nnM, nnB, nnT, nnP, nnE, nnEl, nnEr, nnL, nnLl, nnLr, nnQ, nnQr, nnN, Nat.add_zero, if_false, if_true, Option.bind_some, not_true, not_false_iff, not_true_eq_false, not_false_eq_true, eq_self, Nat.not_lt_zero, z10, z01, or_true, true_or, or_false, false_or, true_and, false_and, hft]) rfl)))))
  have hf10 : f < 10 := by omega
  have mf := nodeOf0_y (g := g) hf10
  rw [h.net.kind f hf10] at mf
  by_cases hfl : g 3 f = 4
  · rw [hfl] at mf
    refine ⟨0, 0, -1, g, g, ?_, ?_, hR⟩
    · unfold x_channel
      rw [h.net.cC]
      exact st_f (by simp (disch := first | omega | decide) only [lt1, nnMl, nnMr, nnAl, nnAr, nnA, nnM, nnB, nnT, nnP, nnE, nnEl, nnEr, nnL, nnLl, nnLr, nnQ, nnQr, nnN, Nat.add_zero, if_false, if_true, Option.bind_some, not_true, not_false_iff, not_true_eq_false, not_false_eq_true, eq_self, Nat.not_lt_zero, z10, z01, or_true, true_or, or_false, false_or, true_and, false_and, hc1]) (st_b (hasNode_y h.net hf) (st_f (by decide) (st_b (hasNode_y h.net ht) (st_t (by decide) (st_f (by simp (disch := first | omega | decide) only [lt1, nnMl, nnMr, nnAl, nnAr, nnA, nnM, nnB, nnT, nnP, nnE, nnEl, nnEr, nnL, nnLl, nnLr, nnQ, nnQr, nnN, Nat.add_zero, if_false, if_true, Option.bind_some, not_true, not_false_iff, not_true_eq_false, not_false_eq_true, eq_self, Nat.not_lt_zero, z10, z01, or_true, true_or, or_false, false_or, true_and, false_and, hft]) (st_b (isField_y h.net hf hfl) (st_f (by decide) rfl)))))))
    · unfold m_channel
      rw [h.net.aC]
      exact st_f (fun e => hcn ((nnQ (a := C) (b := 14) (by omega) (by decide)).mp e)) (st_b (isOf0_y h.net hf) (st_f (by decide) (st_b (isOf0_y h.net ht) (st_f (by decide) (st_f (by simp (disch := first | omega | decide) only [lt1, nnMl, nnMr, nnAl, nnAr, nnA, nnM, nnB, nnT, nnP, nnE, nnEl, nnEr, nnL, nnLl, nnLr, nnQ, nnQr, nnN, Nat.add_zero, if_false, if_true, Option.bind_some, not_true, not_false_iff, not_true_eq_false, not_false_eq_true, eq_self, Nat.not_lt_zero, z10, z01, or_true, true_or, or_false, false_or, true_and, false_and, hft]) (st_b (mf) (st_t rfl rfl)))))))
  have xf := isField_k h.net hf hfl
  rcases chk v3 500 500 rfl (by decide) with ⟨lo, hlo, rfl, x3, m3⟩ | ⟨x3, m3⟩
  rotate_left
  · refine ⟨0, 0, -1, g, g, ?_, ?_, hR⟩
    · unfold x_channel
      rw [h.net.cC]
      exact st_f (by simp (disch := first | omega | decide) only [lt1, nnMl, nnMr, nnAl, nnAr, nnA, nnM, nnB, nnT, nnP, nnE, nnEl, nnEr, nnL, nnLl, nnLr, nnQ, nnQr, nnN, Nat.add_zero, if_false, if_true, Option.bind_some, not_true, not_false_iff, not_true_eq_false, not_false_eq_true, eq_self, Nat.not_lt_zero, z10, z01, or_true, true_or, or_false, false_or, true_and, false_and, hc1]) (st_b (hasNode_y h.net hf) (st_f (by decide) (st_b (hasNode_y h.net ht) (st_t (by decide) (st_f (by simp (disch := first | omega | decide) only [lt1, nnMl, nnMr, nnAl, nnAr, nnA, nnM, nnB, nnT, nnP, nnE, nnEl, nnEr, nnL, nnLl, nnLr, nnQ, nnQr, nnN, Nat.add_zero, if_false, if_true, Option.bind_some, not_true, not_false_iff, not_true_eq_false, not_false_eq_true, eq_self, Nat.not_lt_zero, z10, z01, or_true, true_or, or_false, false_or, true_and, false_and, hft]) (st_b (xf) (st_t rfl (st_b (x3 _) (st_t rfl rfl)))))))))
    · unfold m_channel
      rw [h.net.aC]
      exact st_f (fun e => hcn ((nnQ (a := C) (b := 14) (by omega) (by decide)).mp e)) (st_b (isOf0_y h.net hf) (st_f (by decide) (st_b (isOf0_y h.net ht) (st_f (by decide) (st_f (by simp (disch := first | omega | decide) only [lt1, nnMl, nnMr, nnAl, nnAr, nnA, nnM, nnB, nnT, nnP, nnE, nnEl, nnEr, nnL, nnLl, nnLr, nnQ, nnQr, nnN, Nat.add_zero, if_false, if_true, Option.bind_some, not_true, not_false_iff, not_true_eq_false, not_false_eq_true, eq_self, Nat.not_lt_zero, z10, z01, or_true, true_or, or_false, false_or, true_and, false_and, hft]) (st_b (mf) (st_f hfl (st_b (m3 _) (st_t rfl rfl)))))))))
  rcases chkB v4 lo 500 500 rfl (by decide) hlo with ⟨hi, hlh, hhi, rfl, x4, m4⟩ | ⟨x4, m4⟩
  rotate_left
  · refine ⟨0, 0, -1, g, g, ?_, ?_, hR⟩
    · unfold x_channel
      rw [h.net.cC]
      exact st_f (by simp (disch := first | omega | decide) only [lt1, nnMl, nnMr, nnAl, nnAr, nnA, nnM, nnB, nnT, nnP, nnE, nnEl, nnEr, nnL, nnLl, nnLr, nnQ, nnQr, nnN, Nat.add_zero, if_false, if_true, Option.bind_some, not_true, not_false_iff, not_true_eq_false, not_false_eq_true, eq_self, Nat.not_lt_zero, z10, z01, or_true, true_or, or_false, false_or, true_and, false_and, hc1]) (st_b (hasNode_y h.net hf) (st_f (by decide) (st_b (hasNode_y h.net ht) (st_t (by decide) (st_f (by simp (disch := first | omega | decide) only [lt1, nnMl, nnMr, nnAl, nnAr, nnA, nnM, nnB, nnT, nnP, nnE, nnEl, nnEr, nnL, nnLl, nnLr, nnQ, nnQr, nnN, Nat.add_zero, if_false, if_true, Option.bind_some, not_true, not_false_iff, not_true_eq_false, not_false_eq_true, eq_self, Nat.not_lt_zero, z10, z01, or_true, true_or, or_false, false_or, true_and, false_and, hft]) (st_b (xf) (st_t rfl (st_b (x3 _) (st_f (by decide) (st_b (x4 _) (st_f (by decide) rfl)))))))))))
    · unfold m_channel
      rw [h.net.aC]
      exact st_f (fun e => hcn ((nnQ (a := C) (b := 14) (by omega) (by decide)).mp e)) (st_b (isOf0_y h.net hf) (st_f (by decide) (st_b (isOf0_y h.net ht) (st_f (by decide) (st_f (by simp (disch := first | omega | decide) only [lt1, nnMl, nnMr, nnAl, nnAr, nnA, nnM, nnB, nnT, nnP, nnE, nnEl, nnEr, nnL, nnLl, nnLr, nnQ, nnQr, nnN, Nat.add_zero, if_false, if_true, Option.bind_some, not_true, not_false_iff, not_true_eq_false, not_false_eq_true, eq_self, Nat.not_lt_zero, z10, z01, or_true, true_or, or_false, false_or, true_and, false_and, hft]) (st_b (mf) (st_f hfl (st_b (m3 _) (st_f (by decide) (st_b (m4 _) (st_t rfl rfl)))))))))))
  rcases chk v5 8 8 rfl (by decide) with ⟨tr, htr, rfl, x5, m5⟩ | ⟨x5, m5⟩
  rotate_left
  · refine ⟨0, 0, -1, g, g, ?_, ?_, hR⟩
    · unfold x_channel
      rw [h.net.cC]
      exact st_f (by simp (disch := first | omega | decide) only [lt1, nnMl, nnMr, nnAl, nnAr, nnA, nnM, nnB, nnT, nnP, nnE, nnEl, nnEr, nnL, nnLl, nnLr, nnQ, nnQr, nnN, Nat.add_zero, if_false, if_true, Option.bind_some, not_true, not_false_iff, not_true_eq_false, not_false_eq_true, eq_self, Nat.not_lt_zero, z10, z01, or_true, true_or, or_false, false_or, true_and, false_and, hc1]) (st_b (hasNode_y h.net hf) (st_f (by decide) (st_b (hasNode_y h.net ht) (st_t (by decide) (st_f (by simp (disch := first | omega | decide) only [lt1, nnMl, nnMr, nnAl, nnAr, nnA, nnM, nnB, nnT, nnP, nnE, nnEl, nnEr, nnL, nnLl, nnLr, nnQ, nnQr, nnN, Nat.add_zero, if_false, if_true, Option.bind_some, not_true, not_false_iff, not_true_eq_false, not_false_eq_true, eq_self, Nat.not_lt_zero, z10, z01, or_true, true_or, or_false, false_or, true_and, false_and, hft]) (st_b (xf) (st_t rfl (st_b (x3 _) (st_f (by decide) (st_b (x4 _) (st_t (by decide) (st_b (x5 _) (st_t rfl rfl)))))))))))))
    · unfold m_channel
      rw [h.net.aC]
      exact st_f (fun e => hcn ((nnQ (a := C) (b := 14) (by omega) (by decide)).mp e)) (st_b (isOf0_y h.net hf) (st_f (by decide) (st_b (isOf0_y h.net ht) (st_f (by decide) (st_f (by simp (disch := first | omega | decide) only [lt1, nnMl, nnMr, nnAl, nnAr, nnA, nnM, nnB, nnT, nnP, nnE, nnEl, nnEr, nnL, nnLl, nnLr, nnQ, nnQr, nnN, Nat.add_zero, if_false, if_true, Option.bind_some, not_true, not_false_iff, not_true_eq_false, not_false_eq_true, eq_self, Nat.not_lt_zero, z10, z01, or_true, true_or, or_false, false_or, true_and, false_and, hft]) (st_b (mf) (st_f hfl (st_b (m3 _) (st_f (by decide) (st_b (m4 _) (st_f (by decide) (st_b (m5 _) (st_t rfl rfl)))))))))))))
  rcases chkB v6 1 9999 9999 rfl (by decide) (by decide) with ⟨br, hb1, hb2, rfl, x6, m6⟩ | ⟨x6, m6⟩
  rotate_left
  · have x6 : ∀ g : Sg, x_within v6 1 9999 g = some 0 := x6
    have m6 : ∀ g : Sg, m_isIn v6 1 9999 g = some 0 := m6
    refine ⟨0, 0, -1, g, g, ?_, ?_, hR⟩
    · unfold x_channel
      rw [h.net.cC]
      exact st_f (by simp (disch := first | omega | decide) only [lt1, nnMl, nnMr, nnAl, nnAr, nnA, nnM, nnB, nnT, nnP, nnE, nnEl, nnEr, nnL, nnLl, nnLr, nnQ, nnQr, nnN, Nat.add_zero, if_false, if_true, Option.bind_some, not_true, not_false_iff, not_true_eq_false, not_false_eq_true, eq_self, Nat.not_lt_zero, z10, z01, or_true, true_or, or_false, false_or, true_and, false_and, hc1]) (st_b (hasNode_y h.net hf) (st_f (by decide) (st_b (hasNode_y h.net ht) (st_t (by decide) (st_f (by simp (disch := first | omega | decide) only [lt1, nnMl, nnMr, nnAl, nnAr, nnA, nnM, nnB, nnT, nnP, nnE, nnEl, nnEr, nnL, nnLl, nnLr, nnQ, nnQr, nnN, Nat.add_zero, if_false, if_true, Option.bind_some, not_true, not_false_iff, not_true_eq_false, not_false_eq_true, eq_self, Nat.not_lt_zero, z10, z01, or_true, true_or, or_false, false_or, true_and, false_and, hft]) (st_b (xf) (st_t rfl (st_b (x3 _) (st_f (by decide) (st_b (x4 _) (st_t (by decide) (st_b (x5 _) (st_f (by decide) (st_b (x6 _) (st_f (by decide) rfl)))))))))))))))
    · unfold m_channel
      rw [h.net.aC]
      exact st_f (fun e => hcn ((nnQ (a := C) (b := 14) (by omega) (by decide)).mp e)) (st_b (isOf0_y h.net hf) (st_f (by decide) (st_b (isOf0_y h.net ht) (st_f (by decide) (st_f (by simp (disch := first | omega | decide) only [lt1, nnMl, nnMr, nnAl, nnAr, nnA, nnM, nnB, nnT, nnP, nnE, nnEl, nnEr, nnL, nnLl, nnLr, nnQ, nnQr, nnN, Nat.add_zero, if_false, if_true, Option.bind_some, not_true, not_false_iff, not_true_eq_false, not_false_eq_true, eq_self, Nat.not_lt_zero, z10, z01, or_true, true_or, or_false, false_or, true_and, false_and, hft]) (st_b (mf) (st_f hfl (st_b (m3 _) (st_f (by decide) (st_b (m4 _) (st_f (by decide) (st_b (m5 _) (st_f (by decide) (st_b (m6 _) (st_f (by decide) rfl)))))))))))))))
  have x6 : ∀ g : Sg, x_within (nn br) 1 9999 g = some 1 := x6
  have m6 : ∀ g : Sg, m_isIn (nn br) 1 9999 g = some 1 := m6
  have j0 : 190 + 7 * C < 20360 := by omega
  have j1 : 190 + 7 * C + 1 < 20360 := by omega
  have j2 : 190 + 7 * C + 2 < 20360 := by omega
  have j3 : 190 + 7 * C + 3 < 20360 := by omega
  have j4 : 190 + 7 * C + 4 < 20360 := by omega
  have j5 : 190 + 7 * C + 5 < 20360 := by omega
  have j6 : 190 + 7 * C + 6 < 20360 := by omega
  have hm : ∀ g1 : Sg, g1 216 = g 216 → m_channel (nn f) (nn t) (nn lo) (nn hi) (nn tr) (nn br) g1 = some (nn C, up2 (up2 (up2 (up2 (up2 (up2 (up2 (up2 g1 216 (190 + 7 * C) (nn f)) 216 (190 + 7 * C + 1) (nn t)) 216 (190 + 7 * C + 2) (nn lo)) 216 (190 + 7 * C + 3) (nn hi)) 216 (190 + 7 * C + 4) (nn tr)) 216 (190 + 7 * C + 5) (nn br)) 216 (190 + 7 * C + 6) 0) 216 1 (nn (C + 1))) := by
    intro g1 e1
    have k1 : m_isOf_k0 (nn f) g1 = some 1 := by
      rw [← isOf0_y h.net hf]; unfold m_isOf_k0 m_isIn; rw [e1]
    have k2 : m_isOf_k0 (nn t) g1 = some 1 := by
      rw [← isOf0_y h.net ht]; unfold m_isOf_k0 m_isIn; rw [e1]
    have k3 : m_nodeOf_k0 (nn f) g1 = some (g 3 f) := by
      rw [← mf]; unfold m_nodeOf_k0; rw [e1]
    unfold m_channel
    rw [e1, h.net.aC]
    refine st_f (fun e => hcn ((nnQ (a := C) (b := 14) (by omega) (by decide)).mp e)) ?_
    refine st_b k1 (st_f (by decide) ?_)
    refine st_b k2 (st_f (by decide) ?_)
    refine st_f (by simp (disch := first | omega | decide) only [lt1, nnMl, nnMr, nnAl, nnAr, nnA, nnM, nnB, nnT, nnP, nnE, nnEl, nnEr, nnL, nnLl, nnLr, nnQ, nnQr, nnN, Nat.add_zero, if_false, if_true, Option.bind_some, not_true, not_false_iff, not_true_eq_false, not_false_eq_true, eq_self, Nat.not_lt_zero, z10, z01, or_true, true_or, or_false, false_or, true_and, false_and, hft]) ?_
    refine st_b k3 (st_f hfl ?_)
    refine st_b (m3 _) (st_f (by decide) ?_)
    refine st_b (m4 _) (st_f (by decide) ?_)
    refine st_b (m5 _) (st_f (by decide) ?_)
    refine st_b (m6 _) (st_t (by decide) (st_l ?_))
    have e5 : (190 + 7 * nn C : Int32) = nn (190 + 7 * C) := by simp (disch := first | omega | decide) only [lt1, nnMl, nnMr, nnAl, nnAr, nnA, nnM, nnB, nnT, nnP, nnE, nnEl, nnEr, nnL, nnLl, nnLr, nnQ, nnQr, nnN, Nat.add_zero, if_false, if_true, Option.bind_some, not_true, not_false_iff, not_true_eq_false, not_false_eq_true, eq_self, Nat.not_lt_zero, z10, z01, or_true, true_or, or_false, false_or, true_and, false_and]
    rw [e5]
    refine st_w (by simp (disch := first | omega | decide) only [lt1, nnMl, nnMr, nnAl, nnAr, nnA, nnM, nnB, nnT, nnP, nnE, nnEl, nnEr, nnL, nnLl, nnLr, nnQ, nnQr, nnN, Nat.add_zero, if_false, if_true, Option.bind_some, not_true, not_false_iff, not_true_eq_false, not_false_eq_true, eq_self, Nat.not_lt_zero, z10, z01, or_true, true_or, or_false, false_or, true_and, false_and, j0]) (st_w (by simp (disch := first | omega | decide) only [lt1, nnMl, nnMr, nnAl, nnAr, nnA, nnM, nnB, nnT, nnP, nnE, nnEl, nnEr, nnL, nnLl, nnLr, nnQ, nnQr, nnN, Nat.add_zero, if_false, if_true, Option.bind_some, not_true, not_false_iff, not_true_eq_false, not_false_eq_true, eq_self, Nat.not_lt_zero, z10, z01, or_true, true_or, or_false, false_or, true_and, false_and, j1]) (st_w (by simp (disch := first | omega | decide) only [lt1, nnMl, nnMr, nnAl, nnAr, nnA, nnM, nnB, nnT, nnP, nnE, nnEl, nnEr, nnL, nnLl, nnLr, nnQ, nnQr, nnN, Nat.add_zero, if_false, if_true, Option.bind_some, not_true, not_false_iff, not_true_eq_false, not_false_eq_true, eq_self, Nat.not_lt_zero, z10, z01, or_true, true_or, or_false, false_or, true_and, false_and, j2]) (st_w (by simp (disch := first | omega | decide) only [lt1, nnMl, nnMr, nnAl, nnAr, nnA, nnM, nnB, nnT, nnP, nnE, nnEl, nnEr, nnL, nnLl, nnLr, nnQ, nnQr, nnN, Nat.add_zero, if_false, if_true, Option.bind_some, not_true, not_false_iff, not_true_eq_false, not_false_eq_true, eq_self, Nat.not_lt_zero, z10, z01, or_true, true_or, or_false, false_or, true_and, false_and, j3]) (st_w (by simp (disch := first | omega | decide) only [lt1, nnMl, nnMr, nnAl, nnAr, nnA, nnM, nnB, nnT, nnP, nnE, nnEl, nnEr, nnL, nnLl, nnLr, nnQ, nnQr, nnN, Nat.add_zero, if_false, if_true, Option.bind_some, not_true, not_false_iff, not_true_eq_false, not_false_eq_true, eq_self, Nat.not_lt_zero, z10, z01, or_true, true_or, or_false, false_or, true_and, false_and, j4]) (st_w (by simp (disch := first | omega | decide) only [lt1, nnMl, nnMr, nnAl, nnAr, nnA, nnM, nnB, nnT, nnP, nnE, nnEl, nnEr, nnL, nnLl, nnLr, nnQ, nnQr, nnN, Nat.add_zero, if_false, if_true, Option.bind_some, not_true, not_false_iff, not_true_eq_false, not_false_eq_true, eq_self, Nat.not_lt_zero, z10, z01, or_true, true_or, or_false, false_or, true_and, false_and, j5]) (st_w (by simp (disch := first | omega | decide) only [lt1, nnMl, nnMr, nnAl, nnAr, nnA, nnM, nnB, nnT, nnP, nnE, nnEl, nnEr, nnL, nnLl, nnLr, nnQ, nnQr, nnN, Nat.add_zero, if_false, if_true, Option.bind_some, not_true, not_false_iff, not_true_eq_false, not_false_eq_true, eq_self, Nat.not_lt_zero, z10, z01, or_true, true_or, or_false, false_or, true_and, false_and, j6]) (st_l ?_)))))))
    simp (disch := first | omega | decide) only [lt1, nnMl, nnMr, nnAl, nnAr, nnA, nnM, nnB, nnT, nnP, nnE, nnEl, nnEr, nnL, nnLl, nnLr, nnQ, nnQr, nnN, Nat.add_zero, if_false, if_true, Option.bind_some, not_true, not_false_iff, not_true_eq_false, not_false_eq_true, eq_self, Nat.not_lt_zero, z10, z01, or_true, true_or, or_false, false_or, true_and, false_and, u2e, u2n, up1_eq, up1_ne, ne_eq, nnS1, e1, h.net.aC]
  have k9 : ¬ C + 1 ≤ C := by omega
  refine ⟨0, 0, nn C, up2 (up2 (up2 (up2 (up2 (up2 (up2 g 9 C (nn f)) 10 C (nn t)) 2 6 (nn (C + 1))) 11 C (nn lo)) 12 C (nn hi)) 13 C (nn tr)) 14 C (nn br), _, ?_, hm _ (by simp (disch := first | omega | decide) only [u2e, u2n, up1_eq, up1_ne, ne_eq]), ?_⟩
  · unfold x_channel
    rw [h.net.cC]
    refine st_f (by simp (disch := first | omega | decide) only [lt1, nnMl, nnMr, nnAl, nnAr, nnA, nnM, nnB, nnT, nnP, nnE, nnEl, nnEr, nnL, nnLl, nnLr, nnQ, nnQr, nnN, Nat.add_zero, if_false, if_true, Option.bind_some, not_true, not_false_iff, not_true_eq_false, not_false_eq_true, eq_self, Nat.not_lt_zero, z10, z01, or_true, true_or, or_false, false_or, true_and, false_and, hc1]) ?_
    refine st_b (hasNode_y h.net hf) (st_f (by decide) ?_)
    refine st_b (hasNode_y h.net ht) (st_t (by decide) ?_)
    refine st_f (by simp (disch := first | omega | decide) only [lt1, nnMl, nnMr, nnAl, nnAr, nnA, nnM, nnB, nnT, nnP, nnE, nnEl, nnEr, nnL, nnLl, nnLr, nnQ, nnQr, nnN, Nat.add_zero, if_false, if_true, Option.bind_some, not_true, not_false_iff, not_true_eq_false, not_false_eq_true, eq_self, Nat.not_lt_zero, z10, z01, or_true, true_or, or_false, false_or, true_and, false_and, hft]) ?_
    refine st_b xf (st_t rfl ?_)
    refine st_b (x3 _) (st_f (by decide) ?_)
    refine st_b (x4 _) (st_t (by decide) ?_)
    refine st_b (x5 _) (st_f (by decide) ?_)
    refine st_b (x6 _) (st_t (by decide) ?_)
    refine st_b (x := (nn C, up2 (up2 (up2 g 9 C (nn f)) 10 C (nn t)) 2 6 (nn (C + 1)))) ?_ ?_
    · unfold net_addChannel
      simp (disch := first | omega | decide) only [lt1, nnMl, nnMr, nnAl, nnAr, nnA, nnM, nnB, nnT, nnP, nnE, nnEl, nnEr, nnL, nnLl, nnLr, nnQ, nnQr, nnN, Nat.add_zero, if_false, if_true, Option.bind_some, not_true, not_false_iff, not_true_eq_false, not_false_eq_true, eq_self, Nat.not_lt_zero, z10, z01, or_true, true_or, or_false, false_or, true_and, false_and, u2e, u2n, up1_eq, up1_ne, ne_eq, hc2, h.net.cC]
    · refine st_b (x := 1) ?_ (st_f (by decide) ?_)
      · unfold net_hasChannel
        simp (disch := first | omega | decide) only [lt1, nnMl, nnMr, nnAl, nnAr, nnA, nnM, nnB, nnT, nnP, nnE, nnEl, nnEr, nnL, nnLl, nnLr, nnQ, nnQr, nnN, Nat.add_zero, if_false, if_true, Option.bind_some, not_true, not_false_iff, not_true_eq_false, not_false_eq_true, eq_self, Nat.not_lt_zero, z10, z01, or_true, true_or, or_false, false_or, true_and, false_and, u2e, u2n, up1_eq, up1_ne, ne_eq, hc1, k9]
      · refine st_w (by simp (disch := first | omega | decide) only [lt1, nnMl, nnMr, nnAl, nnAr, nnA, nnM, nnB, nnT, nnP, nnE, nnEl, nnEr, nnL, nnLl, nnLr, nnQ, nnQr, nnN, Nat.add_zero, if_false, if_true, Option.bind_some, not_true, not_false_iff, not_true_eq_false, not_false_eq_true, eq_self, Nat.not_lt_zero, z10, z01, or_true, true_or, or_false, false_or, true_and, false_and, hc2]) (st_w (by simp (disch := first | omega | decide) only [lt1, nnMl, nnMr, nnAl, nnAr, nnA, nnM, nnB, nnT, nnP, nnE, nnEl, nnEr, nnL, nnLl, nnLr, nnQ, nnQr, nnN, Nat.add_zero, if_false, if_true, Option.bind_some, not_true, not_false_iff, not_true_eq_false, not_false_eq_true, eq_self, Nat.not_lt_zero, z10, z01, or_true, true_or, or_false, false_or, true_and, false_and, hc2]) (st_w (by simp (disch := first | omega | decide) only [lt1, nnMl, nnMr, nnAl, nnAr, nnA, nnM, nnB, nnT, nnP, nnE, nnEl, nnEr, nnL, nnLl, nnLr, nnQ, nnQr, nnN, Nat.add_zero, if_false, if_true, Option.bind_some, not_true, not_false_iff, not_true_eq_false, not_false_eq_true, eq_self, Nat.not_lt_zero, z10, z01, or_true, true_or, or_false, false_or, true_and, false_and, hc2]) (st_w (by simp (disch := first | omega | decide) only [lt1, nnMl, nnMr, nnAl, nnAr, nnA, nnM, nnB, nnT, nnP, nnE, nnEl, nnEr, nnL, nnLl, nnLr, nnQ, nnQr, nnN, Nat.add_zero, if_false, if_true, Option.bind_some, not_true, not_false_iff, not_true_eq_false, not_false_eq_true, eq_self, Nat.not_lt_zero, z10, z01, or_true, true_or, or_false, false_or, true_and, false_and, hc2]) ?_)))
        simp (disch := first | omega | decide) only [lt1, nnMl, nnMr, nnAl, nnAr, nnA, nnM, nnB, nnT, nnP, nnE, nnEl, nnEr, nnL, nnLl, nnLr, nnQ, nnQr, nnN, Nat.add_zero, if_false, if_true, Option.bind_some, not_true, not_false_iff, not_true_eq_false, not_false_eq_true, eq_self, Nat.not_lt_zero, z10, z01, or_true, true_or, or_false, false_or, true_and, false_and, u2e, u2n, up1_eq, up1_ne, ne_eq]
  · exact RR.put hT hR ⟨N, C + 1, Q, D, T, L, G, h.net.pushC hc2 ⟨f, t, by omega, ht, rfl, rfl⟩ ⟨lo, hlo, rfl⟩ ⟨hi, hhi, rfl⟩ ⟨tr, htr, rfl⟩ ⟨br, hb1, hb2, rfl⟩ (fun i e1 e2 e3 e4 e5 e6 e7 e8 e9 => by simp (disch := first | omega | decide) only [u2e, u2n, up1_eq, up1_ne, ne_eq]) (by simp (disch := first | omega | decide) only [u2e, u2n, up1_eq, up1_ne, ne_eq]) (by simp (disch := first | omega | decide) only [u2e, u2n, up1_eq, up1_ne, ne_eq]) (by simp (disch := first | omega | decide) only [u2e, u2n, up1_eq, up1_ne, ne_eq]) (by simp (disch := first | omega | decide) only [u2e, u2n, up1_eq, up1_ne, ne_eq]) (by simp (disch := first | omega | decide) only [u2e, u2n, up1_eq, up1_ne, ne_eq]) (by simp (disch := first | omega | decide) only [u2e, u2n, up1_eq, up1_ne, ne_eq]) (by simp (disch := first | omega | decide) only [u2e, u2n, up1_eq, up1_ne, ne_eq]) (by simp (disch := first | omega | decide) only [u2e, u2n, up1_eq, up1_ne, ne_eq]) (by simp (disch := first | omega | decide) only [u2e, u2n, up1_eq, up1_ne, ne_eq]) (by simp (disch := first | omega | decide) only [u2e, u2n, up1_eq, up1_ne, ne_eq]) (by simp (disch := first | omega | decide) only [u2e, u2n, up1_eq, up1_ne, ne_eq]) (by simp (disch := first | omega | decide) only [u2e, u2n, up1_eq, up1_ne, ne_eq]) (by simp (disch := first | omega | decide) only [u2e, u2n, up1_eq, up1_ne, ne_eq]) (by simp (disch := first | omega | decide) only [u2e, u2n, up1_eq, up1_ne, ne_eq]) (by simp (disch := first | omega | decide) only [u2e, u2n, up1_eq, up1_ne, ne_eq]) (fun j hj e1 e2 => by simp (disch := first | omega | decide) only [u2e, u2n, up1_eq, up1_ne, ne_eq]), h.rig.fr (fun i e1 e2 => by simp (disch := first | omega | decide) only [u2e, u2n, up1_eq, up1_ne, ne_eq]) (fun j hj => by unfold iRig at hj; simp (disch := first | omega | decide) only [u2e, u2n, up1_eq, up1_ne, ne_eq]), h.law.fr (fun i e1 e2 => by simp (disch := first | omega | decide) only [u2e, u2n, up1_eq, up1_ne, ne_eq]) (fun j hj => by unfold iLaw at hj; simp (disch := first | omega | decide) only [u2e, u2n, up1_eq, up1_ne, ne_eq]), h.gau.growC.fr (fun i e1 e2 => by simp (disch := first | omega | decide) only [u2e, u2n, up1_eq, up1_ne, ne_eq]) (fun j hj => by unfold iGau at hj; simp (disch := first | omega | decide) only [u2e, u2n, up1_eq, up1_ne, ne_eq])⟩ (fun i e1 e2 => by simp (disch := first | omega | decide) only [u2e, u2n, up1_eq, up1_ne, ne_eq]) (fun j e1 => by simp (disch := first | omega | decide) only [u2e, u2n, up1_eq, up1_ne, ne_eq]) (by simp (disch := first | omega | decide) only [u2e, u2n, up1_eq, up1_ne, ne_eq]) (fun i e1 e2 => by simp (disch := first | omega | decide) only [u2e, u2n, up1_eq, up1_ne, ne_eq])
end SG
