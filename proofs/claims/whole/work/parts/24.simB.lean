theorem RR.wr {TS : Sg → Prop} (hT : TSf TS) {g : Sg} {cc i j : Nat} {v w : Int32} (h : RR TS g) (h1 : 2 ≤ cc) (h2 : cc ≤ 46) (hj : j < 5090) (hn : RT (up2 (up2 g cc i v) 216 j w) (up1 (g 216) j w)) : RR TS (up2 (up2 g cc i v) 216 j w) := by
  have eA : up2 (up2 g cc i v) 216 j w 216 = up1 (g 216) j w := by rw [u2e, u2n (by omega)]
  exact RR.put hT h (by rw [eA]; exact hn) (fun i h1 h2 => by rw [u2n (by omega), u2n (by omega)]) (fun j hj => by rw [u2e, up1_ne (by omega), u2n (by omega)]) (by rw [u2n (by decide), u2n (by omega)]) (fun i h1 h2 => by rw [u2n (by omega), u2n (by omega)])
theorem wrC {g : Sg} {cc i j k : Nat} {v w : Int32} (h1 : k ≠ cc) (h2 : k ≠ 216) : up2 (up2 g cc i v) 216 j w k = g k := by rw [u2n h2, u2n h1]
theorem wrE {g : Sg} {cc i j : Nat} {v w : Int32} (h : cc ≠ 216) : up2 (up2 g cc i v) 216 j w cc = up1 (g cc) i v := by rw [u2n h, u2e]
theorem RRig.homeU {c c' : Sg} {a a' : Nat → Int32} {D N Q n : Nat} {v : Int32} (h : RRig c a D N Q) (hv : v = -1 ∨ ∃ k, k < N ∧ v = nn k) (hc : ∀ i, 22 ≤ i → i ≤ 30 → i ≠ 23 → c' i = c i) (h3 : c' 23 = up1 (c 23) n v) (ha : ∀ j, iRig j → j ≠ 30 + n → a' j = a j) (ha1 : a' (30 + n) = v) (hn : n < 8) : RRig c' a' D N Q := by
  have e22 := hc 22 (by decide) (by decide) (by decide)
  have e24 := hc 24 (by decide) (by decide) (by decide)
  have e25 := hc 25 (by decide) (by decide) (by decide)
  have e26 := hc 26 (by decide) (by decide) (by decide)
  have e27 := hc 27 (by decide) (by decide) (by decide)
  have e28 := hc 28 (by decide) (by decide) (by decide)
  have e29 := hc 29 (by decide) (by decide) (by decide)
  have e30 := hc 30 (by decide) (by decide) (by decide)
  have A := ha
  apply RRig.mk
  case hD => exact h.hD
  case cD => rw [e22]; exact h.cD
  case aD => rw [A _ (by unfold iRig; omega) (by omega)]; exact h.aD
  case home => 
    intro m hm
    rw [h3]
    by_cases e : m = n
    · subst e; rw [ha1, up1_eq]
    · rw [up1_ne e, A _ (by unfold iRig; omega) (by omega)]; exact h.home m hm
  case homeV => 
    intro m hm
    rw [h3]
    by_cases e : m = n
    · subst e; rw [up1_eq]; exact hv
    · rw [up1_ne e]; exact h.homeV m hm
  case d0 => intro n hn; rw [A _ (by unfold iRig; omega) (by omega), e24]; exact h.d0 n hn
  case d1 => intro n hn; rw [A _ (by unfold iRig; omega) (by omega), e25]; exact h.d1 n hn
  case d2 => intro n hn; rw [A _ (by unfold iRig; omega) (by omega), e26]; exact h.d2 n hn
  case d3 => intro n hn; rw [A _ (by unfold iRig; omega) (by omega), e27]; exact h.d3 n hn
  case d4 => intro n hn; rw [A _ (by unfold iRig; omega) (by omega), e28]; exact h.d4 n hn
  case d5 => intro n hn; rw [A _ (by unfold iRig; omega) (by omega), e29]; exact h.d5 n hn
  case dFL => rw [e24, e25]; exact h.dFL
  case dW => rw [e26]; exact h.dW
  case dS => rw [e27]; exact h.dS
  case dY => rw [e28]; exact h.dY
  case dV => rw [e29]; exact h.dV
  case cR => rw [e22]; exact h.cR
  case aR => rw [A _ (by unfold iRig; omega) (by omega)]; exact h.aR
  case runs => intro n hn; rw [A _ (by unfold iRig; omega) (by omega), e30]; exact h.runs n hn
  case runV => rw [e30]; exact h.runV
theorem RRig.voidU {c c' : Sg} {a a' : Nat → Int32} {D N Q n : Nat} {v : Int32} (h : RRig c a D N Q) (hv : ∃ z, z ≤ Q / 96 ∧ v = nn z) (hc : ∀ i, 22 ≤ i → i ≤ 30 → i ≠ 29 → c' i = c i) (h3 : c' 29 = up1 (c 29) n v) (ha : ∀ j, iRig j → j ≠ 550 + 6 * n + 5 → a' j = a j) (ha1 : a' (550 + 6 * n + 5) = v) (hn : n < 120) : RRig c' a' D N Q := by
  have e22 := hc 22 (by decide) (by decide) (by decide)
  have e23 := hc 23 (by decide) (by decide) (by decide)
  have e24 := hc 24 (by decide) (by decide) (by decide)
  have e25 := hc 25 (by decide) (by decide) (by decide)
  have e26 := hc 26 (by decide) (by decide) (by decide)
  have e27 := hc 27 (by decide) (by decide) (by decide)
  have e28 := hc 28 (by decide) (by decide) (by decide)
  have e30 := hc 30 (by decide) (by decide) (by decide)
  have A := ha
  apply RRig.mk
  case hD => exact h.hD
  case cD => rw [e22]; exact h.cD
  case aD => rw [A _ (by unfold iRig; omega) (by omega)]; exact h.aD
  case home => intro n hn; rw [A _ (by unfold iRig; omega) (by omega), e23]; exact h.home n hn
  case homeV => rw [e23]; exact h.homeV
  case d0 => intro n hn; rw [A _ (by unfold iRig; omega) (by omega), e24]; exact h.d0 n hn
  case d1 => intro n hn; rw [A _ (by unfold iRig; omega) (by omega), e25]; exact h.d1 n hn
  case d2 => intro n hn; rw [A _ (by unfold iRig; omega) (by omega), e26]; exact h.d2 n hn
  case d3 => intro n hn; rw [A _ (by unfold iRig; omega) (by omega), e27]; exact h.d3 n hn
  case d4 => intro n hn; rw [A _ (by unfold iRig; omega) (by omega), e28]; exact h.d4 n hn
  case d5 => 
    intro m hm
    rw [h3]
    by_cases e : m = n
    · subst e; rw [ha1, up1_eq]
    · rw [up1_ne e, A _ (by unfold iRig; omega) (by omega)]; exact h.d5 m hm
  case dFL => rw [e24, e25]; exact h.dFL
  case dW => rw [e26]; exact h.dW
  case dS => rw [e27]; exact h.dS
  case dY => rw [e28]; exact h.dY
  case dV => 
    intro m hm
    rw [h3]
    by_cases e : m = n
    · subst e; rw [up1_eq]; exact Or.inr hv
    · rw [up1_ne e]; exact h.dV m hm
  case cR => rw [e22]; exact h.cR
  case aR => rw [A _ (by unfold iRig; omega) (by omega)]; exact h.aR
  case runs => intro n hn; rw [A _ (by unfold iRig; omega) (by omega), e30]; exact h.runs n hn
  case runV => rw [e30]; exact h.runV
theorem RLaw.lenU {c c' : Sg} {a a' : Nat → Int32} {T T' L : Nat} (h : RLaw c a T L) (hT' : T' ≤ 500) (hc : ∀ i, 31 ≤ i → i ≤ 41 → i ≠ 31 → c' i = c i) (h3 : c' 31 = up1 (c 31) 0 (nn T')) (ha : ∀ j, iLaw j → j ≠ 7 → a' j = a j) (ha1 : a' 7 = nn T') : RLaw c' a' T' L := by
  have e32 := hc 32 (by decide) (by decide) (by decide)
  have e33 := hc 33 (by decide) (by decide) (by decide)
  have e34 := hc 34 (by decide) (by decide) (by decide)
  have e35 := hc 35 (by decide) (by decide) (by decide)
  have e36 := hc 36 (by decide) (by decide) (by decide)
  have e37 := hc 37 (by decide) (by decide) (by decide)
  have e38 := hc 38 (by decide) (by decide) (by decide)
  have e39 := hc 39 (by decide) (by decide) (by decide)
  have e40 := hc 40 (by decide) (by decide) (by decide)
  have e41 := hc 41 (by decide) (by decide) (by decide)
  have A := ha
  apply RLaw.mk
  case hT => exact hT'
  case hL => exact h.hL
  case cT => rw [h3, up1_eq]
  case aT => exact ha1
  case tape => intro n hn; rw [A _ (by unfold iLaw; omega) (by omega), e32]; exact h.tape n hn
  case tapeV => rw [e32]; exact h.tapeV
  case fk => rw [h3, up1_ne (by decide), A _ (by unfold iLaw; omega) (by omega)]; exact h.fk
  case fp => rw [h3, up1_ne (by decide), A _ (by unfold iLaw; omega) (by omega)]; exact h.fp
  case dry => intro n hn; rw [A _ (by unfold iLaw; omega) (by omega), e41]; exact h.dry n hn
  case dryV => rw [e41]; exact h.dryV
  case cL => rw [e33]; exact h.cL
  case aL => rw [A _ (by unfold iLaw; omega) (by omega)]; exact h.aL
  case ln => 
    intro k hk
    have := h.hL
    rw [e34, e35, e36, e37, e38, e39, e40]
    exact tLine_fr (fun j hj => A _ (by unfold iLaw; omega) (by omega)) (h.ln k hk)
theorem RLaw.dryU {c c' : Sg} {a a' : Nat → Int32} {T L n : Nat} {v : Int32} (h : RLaw c a T L) (hv : v = 0 ∨ v = 1) (hn : n < 100) (hc : ∀ i, 31 ≤ i → i ≤ 41 → i ≠ 41 → c' i = c i) (h3 : c' 41 = up1 (c 41) n v) (ha : ∀ j, iLaw j → j ≠ 40 + n → a' j = a j) (ha1 : a' (40 + n) = v) : RLaw c' a' T L := by
  have e31 := hc 31 (by decide) (by decide) (by decide)
  have e32 := hc 32 (by decide) (by decide) (by decide)
  have e33 := hc 33 (by decide) (by decide) (by decide)
  have e34 := hc 34 (by decide) (by decide) (by decide)
  have e35 := hc 35 (by decide) (by decide) (by decide)
  have e36 := hc 36 (by decide) (by decide) (by decide)
  have e37 := hc 37 (by decide) (by decide) (by decide)
  have e38 := hc 38 (by decide) (by decide) (by decide)
  have e39 := hc 39 (by decide) (by decide) (by decide)
  have e40 := hc 40 (by decide) (by decide) (by decide)
  have A := ha
  apply RLaw.mk
  case hT => exact h.hT
  case hL => exact h.hL
  case cT => rw [e31]; exact h.cT
  case aT => rw [A _ (by unfold iLaw; omega) (by omega)]; exact h.aT
  case tape => intro n hn; rw [A _ (by unfold iLaw; omega) (by omega), e32]; exact h.tape n hn
  case tapeV => rw [e32]; exact h.tapeV
  case fk => rw [A _ (by unfold iLaw; omega) (by omega), e31]; exact h.fk
  case fp => rw [A _ (by unfold iLaw; omega) (by omega), e31]; exact h.fp
  case dry => 
    intro m hm
    rw [h3]
    by_cases e : m = n
    · subst e; rw [ha1, up1_eq]
    · rw [up1_ne e, A _ (by unfold iLaw; omega) (by omega)]; exact h.dry m hm
  case dryV => 
    intro m hm
    rw [h3]
    by_cases e : m = n
    · subst e; rw [up1_eq]; exact hv
    · rw [up1_ne e]; exact h.dryV m hm
  case cL => rw [e33]; exact h.cL
  case aL => rw [A _ (by unfold iLaw; omega) (by omega)]; exact h.aL
  case ln => 
    intro k hk
    have := h.hL
    rw [e34, e35, e36, e37, e38, e39, e40]
    exact tLine_fr (fun j hj => A _ (by unfold iLaw; omega) (by omega)) (h.ln k hk)
section SB
theorem hasDeed_y {g : Sg} {D N Q n : Nat} (h : RRig g (g 216) D N Q) (hn : n < D) : rights_hasDeed (nn n) g = some 1 := by
  have := h.hD
  have h2 : ¬ D ≤ n := by omega
  have h3 : ¬ 120 ≤ n := by omega
  unfold rights_hasDeed
  rw [h.cD]
  simp (disch := first | omega | decide) only [lt1, nnMl, nnMr, nnAl, nnAr, nnA, nnM, nnB, nnT, nnP, nnE, nnEl, nnEr, nnL, nnLl, nnLr, nnQ, nnQr, nnN, Nat.add_zero, if_false, if_true, Option.bind_some, not_true, not_false_iff, not_true_eq_false, not_false_eq_true, eq_self, Nat.not_lt_zero, z10, z01, or_true, true_or, or_false, false_or, true_and, false_and, h2, h3]
theorem hasDeed_n {g : Sg} {D N Q : Nat} {v : Int32} (h : RRig g (g 216) D N Q) (hn : ¬ ∃ n, n < D ∧ v = nn n) : rights_hasDeed v g = some 0 := by
  have := h.hD
  unfold rights_hasDeed
  rw [h.cD]
  by_cases h1 : v < 0
  · rw [if_pos h1]
  · rw [if_neg h1]
    by_cases h2 : nn D ≤ v
    · rw [if_pos h2]
    · exact absurd ((rg (by omega)).mp ⟨h1, Int32.not_le.mp h2⟩) hn
theorem isOf2_y {g : Sg} {D N Q n : Nat} {w : Int32} (hw : w = nn D) (hD : D ≤ 120) (hn : n < D) : m_isIn (nn n) 0 (w - 1) g = some 1 := isOf_y hw (by omega) hn
theorem today_x {g : Sg} {N C Q : Nat} (h : RNet g (g 216) N C Q) : x_today g = some (nn (Q / 96)) := by
  have := h.hQ
  unfold x_today
  rw [h.cQ, show (96 : Int32) = nn 96 from rfl, nnD (by omega) (by decide)]
theorem today_m {g : Sg} {Q : Nat} (h : g 216 3 = nn Q) (hQ : Q ≤ 9599) : m_today g = some (nn (Q / 96)) := by
  unfold m_today
  rw [h, show (96 : Int32) = nn 96 from rfl, nnD (by omega) (by decide)]
theorem sim_fault {TS : Sg → Prop} : Sim_fault (RR TS) := by
  intro v g hR
  obtain ⟨N, C, Q, D, T, L, G, h⟩ := hR.now
  by_cases h0 : v = 0
  · subst h0
    refine ⟨0, 0, g 31 2, g, g, rfl, ?_, hR, rfl, rfl⟩
    show some (g 216 8) = _
    rw [h.law.fk]
  · by_cases h1 : v = 1
    · subst h1
      refine ⟨0, 0, g 31 3, g, g, rfl, ?_, hR, rfl, rfl⟩
      show some (g 216 9) = _
      rw [h.law.fp]
    · refine ⟨0, 0, -1, g, g, ?_, ?_, hR, rfl, rfl⟩
      · unfold x_fault
        rw [if_neg h0, if_neg h1]
      · unfold m_fault
        rw [if_pos h0, if_pos h1]
theorem sim_ran {TS : Sg → Prop} : Sim_ran (RR TS) := by
  intro v g hR
  obtain ⟨N, C, Q, D, T, L, G, h⟩ := hR.now
  have hQ := h.net.hQ
  by_cases hn : ∃ n, n < (Q + 3) / 4 ∧ v = nn n
  · obtain ⟨n, hn, rfl⟩ := hn
    have h1 : n < 2400 := by omega
    have h2 : 1870 + n < 20360 := by omega
    refine ⟨0, 0, g 30 n, g, g, ?_, ?_, hR, rfl, rfl⟩
    · unfold x_ran
      rw [show x_within (nn n) 0 (g 22 8 - 1) g = some 1 from isOf_y (g := g) h.rig.cR (by omega) hn]
      simp (disch := first | omega | decide) only [lt1, nnMl, nnMr, nnAl, nnAr, nnA, nnM, nnB, nnT, nnP, nnE, nnEl, nnEr, nnL, nnLl, nnLr, nnQ, nnQr, nnN, Nat.add_zero, if_false, if_true, Option.bind_some, not_true, not_false_iff, not_true_eq_false, not_false_eq_true, eq_self, Nat.not_lt_zero, z10, z01, or_true, true_or, or_false, false_or, true_and, false_and, h1]
    · unfold m_ran m_isOf_k6
      rw [isOf_y h.rig.aR (by omega) hn]
      simp (disch := first | omega | decide) only [lt1, nnMl, nnMr, nnAl, nnAr, nnA, nnM, nnB, nnT, nnP, nnE, nnEl, nnEr, nnL, nnLl, nnLr, nnQ, nnQr, nnN, Nat.add_zero, if_false, if_true, Option.bind_some, not_true, not_false_iff, not_true_eq_false, not_false_eq_true, eq_self, Nat.not_lt_zero, z10, z01, or_true, true_or, or_false, false_or, true_and, false_and, h2, h.rig.runs n h1]
  · refine ⟨0, 0, -2, g, g, ?_, ?_, hR, rfl, rfl⟩
    · unfold x_ran
      rw [show x_within v 0 (g 22 8 - 1) g = some 0 from isOf_n (g := g) h.rig.cR (by omega) hn]
      rfl
    · unfold m_ran m_isOf_k6
      rw [isOf_n h.rig.aR (by omega) hn]
      rfl
theorem deedOf_y {g : Sg} {n k : Nat} (hn : n < 120) (hk : k < 6) : m_deedOf (nn n) (nn k) g = some (g 216 (550 + 6 * n + k)) := by
  have h2 : 550 + 6 * n + k < 20360 := by omega
  unfold m_deedOf
  simp (disch := first | omega | decide) only [lt1, nnMl, nnMr, nnAl, nnAr, nnA, nnM, nnB, nnT, nnP, nnE, nnEl, nnEr, nnL, nnLl, nnLr, nnQ, nnQr, nnN, Nat.add_zero, if_false, if_true, Option.bind_some, not_true, not_false_iff, not_true_eq_false, not_false_eq_true, eq_self, Nat.not_lt_zero, z10, z01, or_true, true_or, or_false, false_or, true_and, false_and, h2]
theorem sim_written {TS : Sg → Prop} : Sim_written (RR TS) := by
  intro v1 v2 g hR
  obtain ⟨N, C, Q, D, T, L, G, h⟩ := hR.now
  have hD := h.rig.hD
  by_cases hn : ∃ n, n < D ∧ v1 = nn n
  · obtain ⟨n, hn, rfl⟩ := hn
    have h10 : n < 120 := by omega
    by_cases hk : ∃ k, k < 6 ∧ v2 = nn k
    · obtain ⟨k, hk, rfl⟩ := hk
      refine ⟨0, 0, g 216 (550 + 6 * n + k), g, g, ?_, ?_, hR, rfl, rfl⟩
      · unfold x_written
        rw [hasDeed_y h.rig hn]
        have c4 : k = 0 ∨ k = 1 ∨ k = 2 ∨ k = 3 ∨ k = 4 ∨ k = 5 := by omega
        rcases c4 with rfl | rfl | rfl | rfl | rfl | rfl
        · show (if inb (nn n) 120 = true then some (g 24 (nn n).toNatClampNeg) else none) = _; simp (disch := first | omega | decide) only [lt1, nnMl, nnMr, nnAl, nnAr, nnA, nnM, nnB, nnT, nnP, nnE, nnEl, nnEr, nnL, nnLl, nnLr, nnQ, nnQr, nnN, Nat.add_zero, if_false, if_true, Option.bind_some, not_true, not_false_iff, not_true_eq_false, not_false_eq_true, eq_self, Nat.not_lt_zero, z10, z01, or_true, true_or, or_false, false_or, true_and, false_and, h10, ← h.rig.d0]
        · show (if inb (nn n) 120 = true then some (g 25 (nn n).toNatClampNeg) else none) = _; simp (disch := first | omega | decide) only [lt1, nnMl, nnMr, nnAl, nnAr, nnA, nnM, nnB, nnT, nnP, nnE, nnEl, nnEr, nnL, nnLl, nnLr, nnQ, nnQr, nnN, Nat.add_zero, if_false, if_true, Option.bind_some, not_true, not_false_iff, not_true_eq_false, not_false_eq_true, eq_self, Nat.not_lt_zero, z10, z01, or_true, true_or, or_false, false_or, true_and, false_and, h10, ← h.rig.d1]
        · show (if inb (nn n) 120 = true then some (g 26 (nn n).toNatClampNeg) else none) = _; simp (disch := first | omega | decide) only [lt1, nnMl, nnMr, nnAl, nnAr, nnA, nnM, nnB, nnT, nnP, nnE, nnEl, nnEr, nnL, nnLl, nnLr, nnQ, nnQr, nnN, Nat.add_zero, if_false, if_true, Option.bind_some, not_true, not_false_iff, not_true_eq_false, not_false_eq_true, eq_self, Nat.not_lt_zero, z10, z01, or_true, true_or, or_false, false_or, true_and, false_and, h10, ← h.rig.d2]
        · show (if inb (nn n) 120 = true then some (g 27 (nn n).toNatClampNeg) else none) = _; simp (disch := first | omega | decide) only [lt1, nnMl, nnMr, nnAl, nnAr, nnA, nnM, nnB, nnT, nnP, nnE, nnEl, nnEr, nnL, nnLl, nnLr, nnQ, nnQr, nnN, Nat.add_zero, if_false, if_true, Option.bind_some, not_true, not_false_iff, not_true_eq_false, not_false_eq_true, eq_self, Nat.not_lt_zero, z10, z01, or_true, true_or, or_false, false_or, true_and, false_and, h10, ← h.rig.d3]
        · show (if inb (nn n) 120 = true then some (g 28 (nn n).toNatClampNeg) else none) = _; simp (disch := first | omega | decide) only [lt1, nnMl, nnMr, nnAl, nnAr, nnA, nnM, nnB, nnT, nnP, nnE, nnEl, nnEr, nnL, nnLl, nnLr, nnQ, nnQr, nnN, Nat.add_zero, if_false, if_true, Option.bind_some, not_true, not_false_iff, not_true_eq_false, not_false_eq_true, eq_self, Nat.not_lt_zero, z10, z01, or_true, true_or, or_false, false_or, true_and, false_and, h10, ← h.rig.d4]
        · show (if inb (nn n) 120 = true then some (g 29 (nn n).toNatClampNeg) else none) = _; simp (disch := first | omega | decide) only [lt1, nnMl, nnMr, nnAl, nnAr, nnA, nnM, nnB, nnT, nnP, nnE, nnEl, nnEr, nnL, nnLl, nnLr, nnQ, nnQr, nnN, Nat.add_zero, if_false, if_true, Option.bind_some, not_true, not_false_iff, not_true_eq_false, not_false_eq_true, eq_self, Nat.not_lt_zero, z10, z01, or_true, true_or, or_false, false_or, true_and, false_and, h10, ← h.rig.d5]
      · unfold m_written m_isOf_k2
        rw [isOf_y h.rig.aD (by omega) hn, isInK_y (w := 5) (K := 5) rfl (by decide) (by omega), deedOf_y h10 hk]
        simp (disch := first | omega | decide) only [lt1, nnMl, nnMr, nnAl, nnAr, nnA, nnM, nnB, nnT, nnP, nnE, nnEl, nnEr, nnL, nnLl, nnLr, nnQ, nnQr, nnN, Nat.add_zero, if_false, if_true, Option.bind_some, not_true, not_false_iff, not_true_eq_false, not_false_eq_true, eq_self, Nat.not_lt_zero, z10, z01, or_true, true_or, or_false, false_or, true_and, false_and]
    · have q : ∀ j, j < 6 → ¬ v2 = nn j := fun j hj e => hk ⟨j, hj, e⟩
      refine ⟨0, 0, -2, g, g, ?_, ?_, hR, rfl, rfl⟩
      · unfold x_written
        rw [hasDeed_y h.rig hn]
        show (if v2 = 0 then _ else _) = _
        rw [if_neg (show ¬ v2 = 0 from q 0 (by decide)), if_neg (show ¬ v2 = 1 from q 1 (by decide)), if_neg (show ¬ v2 = 2 from q 2 (by decide)), if_neg (show ¬ v2 = 3 from q 3 (by decide)), if_neg (show ¬ v2 = 4 from q 4 (by decide)), if_neg (show ¬ v2 = 5 from q 5 (by decide))]
      · unfold m_written m_isOf_k2
        rw [isOf_y h.rig.aD (by omega) hn, isInK_n (w := 5) (K := 5) rfl (by decide) hk]
        simp (disch := first | omega | decide) only [lt1, nnMl, nnMr, nnAl, nnAr, nnA, nnM, nnB, nnT, nnP, nnE, nnEl, nnEr, nnL, nnLl, nnLr, nnQ, nnQr, nnN, Nat.add_zero, if_false, if_true, Option.bind_some, not_true, not_false_iff, not_true_eq_false, not_false_eq_true, eq_self, Nat.not_lt_zero, z10, z01, or_true, true_or, or_false, false_or, true_and, false_and]
  · refine ⟨0, 0, -2, g, g, ?_, ?_, hR, rfl, rfl⟩
    · unfold x_written
      rw [hasDeed_n h.rig hn]
      simp (disch := first | omega | decide) only [lt1, nnMl, nnMr, nnAl, nnAr, nnA, nnM, nnB, nnT, nnP, nnE, nnEl, nnEr, nnL, nnLl, nnLr, nnQ, nnQr, nnN, Nat.add_zero, if_false, if_true, Option.bind_some, not_true, not_false_iff, not_true_eq_false, not_false_eq_true, eq_self, Nat.not_lt_zero, z10, z01, or_true, true_or, or_false, false_or, true_and, false_and]
    · unfold m_written m_isOf_k2
      rw [isOf_n h.rig.aD (by omega) hn]
      simp (disch := first | omega | decide) only [lt1, nnMl, nnMr, nnAl, nnAr, nnA, nnM, nnB, nnT, nnP, nnE, nnEl, nnEr, nnL, nnLl, nnLr, nnQ, nnQr, nnN, Nat.add_zero, if_false, if_true, Option.bind_some, not_true, not_false_iff, not_true_eq_false, not_false_eq_true, eq_self, Nat.not_lt_zero, z10, z01, or_true, true_or, or_false, false_or, true_and, false_and]
theorem sim_end {TS : Sg → Prop} (hT : TSf TS) : Sim_end (RR TS) := by
  intro v g hR
  obtain ⟨N, C, Q, D, T, L, G, h⟩ := hR.now
  have hT5 := h.law.hT
  by_cases hn : ∃ n, n < T + 1 ∧ v = nn n
  · obtain ⟨n, hn, rfl⟩ := hn
    have h9 : n ≤ T := by omega
    refine ⟨0, 0, nn n, up2 g 31 0 (nn n), up2 (up2 g 31 0 (nn n)) 216 7 (nn n), ?_, ?_, ?_⟩
    · unfold x_end
      rw [wthK_y h.law.cT (by omega) h9]
      simp (disch := first | omega | decide) only [lt1, nnMl, nnMr, nnAl, nnAr, nnA, nnM, nnB, nnT, nnP, nnE, nnEl, nnEr, nnL, nnLl, nnLr, nnQ, nnQr, nnN, Nat.add_zero, if_false, if_true, Option.bind_some, not_true, not_false_iff, not_true_eq_false, not_false_eq_true, eq_self, Nat.not_lt_zero, z10, z01, or_true, true_or, or_false, false_or, true_and, false_and]
    · unfold m_end
      rw [u2n (by decide), h.law.aT]
      simp (disch := first | omega | decide) only [lt1, nnMl, nnMr, nnAl, nnAr, nnA, nnM, nnB, nnT, nnP, nnE, nnEl, nnEr, nnL, nnLl, nnLr, nnQ, nnQr, nnN, Nat.add_zero, if_false, if_true, Option.bind_some, not_true, not_false_iff, not_true_eq_false, not_false_eq_true, eq_self, Nat.not_lt_zero, z10, z01, or_true, true_or, or_false, false_or, true_and, false_and, h9]
    · exact RR.wr hT hR (by decide) (by decide) (by decide) ⟨N, C, Q, D, n, L, G, h.net.fr (fun i h1 h2 => wrC (by omega) (by omega)) (fun j hj => up1_ne (by unfold iNet at hj; omega)), h.rig.fr (fun i h1 h2 => wrC (by omega) (by omega)) (fun j hj => up1_ne (by unfold iRig at hj; omega)), h.law.lenU (by omega) (fun i h1 h2 h3 => wrC h3 (by omega)) (wrE (by decide)) (fun j _ h2 => up1_ne h2) up1_eq, h.gau.fr (fun i h1 h2 => wrC (by omega) (by omega)) (fun j hj => up1_ne (by unfold iGau at hj; omega))⟩
  · refine ⟨0, 0, -1, g, g, ?_, ?_, hR⟩
    · unfold x_end
      rw [wthK_n h.law.cT (by omega) hn]
      simp (disch := first | omega | decide) only [lt1, nnMl, nnMr, nnAl, nnAr, nnA, nnM, nnB, nnT, nnP, nnE, nnEl, nnEr, nnL, nnLl, nnLr, nnQ, nnQr, nnN, Nat.add_zero, if_false, if_true, Option.bind_some, not_true, not_false_iff, not_true_eq_false, not_false_eq_true, eq_self, Nat.not_lt_zero, z10, z01, or_true, true_or, or_false, false_or, true_and, false_and]
    · unfold m_end
      rw [h.law.aT]
      by_cases h0 : v < 0
      · rw [if_pos h0]
      · rw [if_neg h0, if_neg]
        exact fun e => hn ((rgK (by omega)).mp ⟨Int32.not_lt.mp h0, e⟩)
theorem sim_dry {TS : Sg → Prop} (hT : TSf TS) : Sim_dry (RR TS) := by
  intro v1 v2 g hR hb
  obtain ⟨N, C, Q, D, T, L, G, h⟩ := hR.now
  by_cases hn : ∃ n, n < 100 ∧ v1 = nn n
  · obtain ⟨n, hn, rfl⟩ := hn
    have h1 := h.law.dry n hn
    have h2 : 40 + n < 20360 := by omega
    have hx : x_dry (nn n) v2 g = some (if g 41 n = v2 then (0, g) else (1, up2 g 41 n v2)) := by
      unfold x_dry x_isWeek
      rw [wthK_y (w := 99) (K := 99) rfl (by decide) (by omega)]
      simp (disch := first | omega | decide) only [lt1, nnMl, nnMr, nnAl, nnAr, nnA, nnM, nnB, nnT, nnP, nnE, nnEl, nnEr, nnL, nnLl, nnLr, nnQ, nnQr, nnN, Nat.add_zero, if_false, if_true, Option.bind_some, not_true, not_false_iff, not_true_eq_false, not_false_eq_true, eq_self, Nat.not_lt_zero, z10, z01, or_true, true_or, or_false, false_or, true_and, false_and, hn]
      by_cases e : g 41 n = v2
      · rw [if_neg (Decidable.not_not.mpr e), if_pos e]
      · rw [if_pos e, if_neg e]
        rcases hb with rfl | rfl <;> rfl
    have hm : ∀ g1 : Sg, g1 216 = g 216 → m_dry (nn n) v2 g1 = some (if g 41 n = v2 then (0, g1) else (1, up2 g1 216 (40 + n) v2)) := by
      intro g1 e1
      unfold m_dry m_dry_28
      rw [isInK_y (w := 99) (K := 99) rfl (by decide) (by omega), e1]
      simp (disch := first | omega | decide) only [lt1, nnMl, nnMr, nnAl, nnAr, nnA, nnM, nnB, nnT, nnP, nnE, nnEl, nnEr, nnL, nnLl, nnLr, nnQ, nnQr, nnN, Nat.add_zero, if_false, if_true, Option.bind_some, not_true, not_false_iff, not_true_eq_false, not_false_eq_true, eq_self, Nat.not_lt_zero, z10, z01, or_true, true_or, or_false, false_or, true_and, false_and, h2, h1]
      rcases h.law.dryV n hn with e | e <;> rcases hb with rfl | rfl <;> rw [e] <;> rfl
    by_cases e : g 41 n = v2
    · have hm1 := hm g rfl
      rw [if_pos e] at hx hm1
      exact ⟨0, 0, 0, _, _, hx, hm1, hR⟩
    · have hm1 := hm (up2 g 41 n v2) (u2n (by decide))
      rw [if_neg e] at hx hm1
      exact ⟨0, 0, 1, _, _, hx, hm1, RR.wr hT hR (by decide) (by decide) (by omega) ⟨N, C, Q, D, T, L, G, h.net.fr (fun i h1 h2 => wrC (by omega) (by omega)) (fun j hj => up1_ne (by unfold iNet at hj; omega)), h.rig.fr (fun i h1 h2 => wrC (by omega) (by omega)) (fun j hj => up1_ne (by unfold iRig at hj; omega)), h.law.dryU hb hn (fun i h1 h2 h3 => wrC h3 (by omega)) (wrE (by decide)) (fun j _ h2 => up1_ne h2) up1_eq, h.gau.fr (fun i h1 h2 => wrC (by omega) (by omega)) (fun j hj => up1_ne (by unfold iGau at hj; omega))⟩⟩
  · refine ⟨0, 0, 0, g, g, ?_, ?_, hR⟩
    · unfold x_dry x_isWeek
      rw [wthK_n (w := 99) (K := 99) rfl (by decide) hn]
      simp (disch := first | omega | decide) only [lt1, nnMl, nnMr, nnAl, nnAr, nnA, nnM, nnB, nnT, nnP, nnE, nnEl, nnEr, nnL, nnLl, nnLr, nnQ, nnQr, nnN, Nat.add_zero, if_false, if_true, Option.bind_some, not_true, not_false_iff, not_true_eq_false, not_false_eq_true, eq_self, Nat.not_lt_zero, z10, z01, or_true, true_or, or_false, false_or, true_and, false_and]
    · unfold m_dry
      rw [isInK_n (w := 99) (K := 99) rfl (by decide) hn]
      simp (disch := first | omega | decide) only [lt1, nnMl, nnMr, nnAl, nnAr, nnA, nnM, nnB, nnT, nnP, nnE, nnEl, nnEr, nnL, nnLl, nnLr, nnQ, nnQr, nnN, Nat.add_zero, if_false, if_true, Option.bind_some, not_true, not_false_iff, not_true_eq_false, not_false_eq_true, eq_self, Nat.not_lt_zero, z10, z01, or_true, true_or, or_false, false_or, true_and, false_and]
end SB
