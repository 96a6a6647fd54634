/-! The small methods: both sides answer alike and stay related -/
theorem RNet.sizeU {c c' : Sg} {a a' : Nat → Int32} {N C Q n : Nat} {v : Int32} (h : RNet c a N C Q) (hn : n < 10) (hc : ∀ i, 2 ≤ i → i ≤ 21 → i ≠ 4 → c' i = c i) (h4 : c' 4 = up1 (c 4) n v) (ha : ∀ j, iNet j → j ≠ 140 + 5 * n + 1 → a' j = a j) (ha1 : a' (140 + 5 * n + 1) = v) : RNet c' a' N C Q := by
  have e2 := hc 2 (by decide) (by decide) (by decide)
  have e3 := hc 3 (by decide) (by decide) (by decide)
  have e5 := hc 5 (by decide) (by decide) (by decide)
  have e7 := hc 7 (by decide) (by decide) (by decide)
  have e8 := hc 8 (by decide) (by decide) (by decide)
  have e9 := hc 9 (by decide) (by decide) (by decide)
  have e10 := hc 10 (by decide) (by decide) (by decide)
  have e11 := hc 11 (by decide) (by decide) (by decide)
  have e12 := hc 12 (by decide) (by decide) (by decide)
  have e13 := hc 13 (by decide) (by decide) (by decide)
  have e14 := hc 14 (by decide) (by decide) (by decide)
  have e15 := hc 15 (by decide) (by decide) (by decide)
  have e17 := hc 17 (by decide) (by decide) (by decide)
  have e18 := hc 18 (by decide) (by decide) (by decide)
  have e19 := hc 19 (by decide) (by decide) (by decide)
  have e20 := hc 20 (by decide) (by decide) (by decide)
  have e21 := hc 21 (by decide) (by decide) (by decide)
  have A := ha
  apply RNet.mk
  case hN => exact h.hN
  case hC => exact h.hC
  case hQ => exact h.hQ
  case cN => rw [e2]; exact h.cN
  case aN => rw [A _ (by unfold iNet; omega) (by omega)]; exact h.aN
  case cC => rw [e2]; exact h.cC
  case aC => rw [A _ (by unfold iNet; omega) (by omega)]; exact h.aC
  case cQ => rw [e2]; exact h.cQ
  case aQ => rw [A _ (by unfold iNet; omega) (by omega)]; exact h.aQ
  case kind => intro n hn; rw [A _ (by unfold iNet; omega) (by omega), e3]; exact h.kind n hn
  case size => 
    intro m hm
    rw [h4]
    by_cases e : m = n
    · subst e; rw [ha1, up1_eq]
    · rw [up1_ne e, A _ (by unfold iNet; omega) (by omega)]; exact h.size m hm
  case gate => intro n hn; rw [A _ (by unfold iNet; omega) (by omega), e5]; exact h.gate n hn
  case kep0 => intro n hn; rw [A _ (by unfold iNet; omega) (by omega), e7]; exact h.kep0 n hn
  case kep1 => intro n hn; rw [A _ (by unfold iNet; omega) (by omega), e8]; exact h.kep1 n hn
  case frm => intro n hn; rw [A _ (by unfold iNet; omega) (by omega), e9]; exact h.frm n hn
  case to => intro n hn; rw [A _ (by unfold iNet; omega) (by omega), e10]; exact h.to n hn
  case low => intro n hn; rw [A _ (by unfold iNet; omega) (by omega), e11]; exact h.low n hn
  case hig => intro n hn; rw [A _ (by unfold iNet; omega) (by omega), e12]; exact h.hig n hn
  case trv => intro n hn; rw [A _ (by unfold iNet; omega) (by omega), e13]; exact h.trv n hn
  case brd => intro n hn; rw [A _ (by unfold iNet; omega) (by omega), e14]; exact h.brd n hn
  case brk => intro n hn; rw [A _ (by unfold iNet; omega) (by omega), e15]; exact h.brk n hn
  case way0 => intro n hn; rw [A _ (by unfold iNet; omega) (by omega), e17]; exact h.way0 n hn
  case way1 => intro n hn; rw [A _ (by unfold iNet; omega) (by omega), e18]; exact h.way1 n hn
  case gateV => rw [e5, e9]; exact h.gateV
  case ends => rw [e9, e10]; exact h.ends
  case lowV => rw [e11]; exact h.lowV
  case higV => rw [e12]; exact h.higV
  case trvV => rw [e13]; exact h.trvV
  case brdV => rw [e14]; exact h.brdV
  case brkV => rw [e15]; exact h.brkV
  case kindV => rw [e3]; exact h.kindV
  case kepZ => rw [e7, e8]; exact h.kepZ
  case brkZ => rw [e15]; exact h.brkZ
  case wayZ => rw [e17, e18]; exact h.wayZ
  case su00 => rw [A _ (by unfold iNet; omega) (by omega), e3, e7]; exact h.su00
  case su01 => rw [A _ (by unfold iNet; omega) (by omega), e3, e7]; exact h.su01
  case su02 => rw [A _ (by unfold iNet; omega) (by omega), e3, e7]; exact h.su02
  case su03 => rw [A _ (by unfold iNet; omega) (by omega), e17]; exact h.su03
  case su04 => rw [A _ (by unfold iNet; omega) (by omega), e19]; exact h.su04
  case su05 => rw [A _ (by unfold iNet; omega) (by omega), e20]; exact h.su05
  case su06 => rw [A _ (by unfold iNet; omega) (by omega), e21]; exact h.su06
  case su10 => rw [A _ (by unfold iNet; omega) (by omega), e3, e8]; exact h.su10
  case su11 => rw [A _ (by unfold iNet; omega) (by omega), e3, e8]; exact h.su11
  case su12 => rw [A _ (by unfold iNet; omega) (by omega), e3, e8]; exact h.su12
  case su13 => rw [A _ (by unfold iNet; omega) (by omega), e18]; exact h.su13
  case su14 => rw [A _ (by unfold iNet; omega) (by omega), e19]; exact h.su14
  case su15 => rw [A _ (by unfold iNet; omega) (by omega), e20]; exact h.su15
  case su16 => rw [A _ (by unfold iNet; omega) (by omega), e21]; exact h.su16
theorem RNet.gateU {c c' : Sg} {a a' : Nat → Int32} {N C Q n : Nat} {v : Int32} (h : RNet c a N C Q) (hn : n < 10) (hv : v = -1 ∨ ∃ k, k < C ∧ v = nn k ∧ c 9 k = nn n) (hc : ∀ i, 2 ≤ i → i ≤ 21 → i ≠ 5 → c' i = c i) (h5 : c' 5 = up1 (c 5) n v) (ha : ∀ j, iNet j → j ≠ 140 + 5 * n + 2 → a' j = a j) (ha1 : a' (140 + 5 * n + 2) = v) : RNet c' a' N C Q := by
  have e2 := hc 2 (by decide) (by decide) (by decide)
  have e3 := hc 3 (by decide) (by decide) (by decide)
  have e4 := hc 4 (by decide) (by decide) (by decide)
  have e7 := hc 7 (by decide) (by decide) (by decide)
  have e8 := hc 8 (by decide) (by decide) (by decide)
  have e9 := hc 9 (by decide) (by decide) (by decide)
  have e10 := hc 10 (by decide) (by decide) (by decide)
  have e11 := hc 11 (by decide) (by decide) (by decide)
  have e12 := hc 12 (by decide) (by decide) (by decide)
  have e13 := hc 13 (by decide) (by decide) (by decide)
  have e14 := hc 14 (by decide) (by decide) (by decide)
  have e15 := hc 15 (by decide) (by decide) (by decide)
  have e17 := hc 17 (by decide) (by decide) (by decide)
  have e18 := hc 18 (by decide) (by decide) (by decide)
  have e19 := hc 19 (by decide) (by decide) (by decide)
  have e20 := hc 20 (by decide) (by decide) (by decide)
  have e21 := hc 21 (by decide) (by decide) (by decide)
  have A := ha
  apply RNet.mk
  case hN => exact h.hN
  case hC => exact h.hC
  case hQ => exact h.hQ
  case cN => rw [e2]; exact h.cN
  case aN => rw [A _ (by unfold iNet; omega) (by omega)]; exact h.aN
  case cC => rw [e2]; exact h.cC
  case aC => rw [A _ (by unfold iNet; omega) (by omega)]; exact h.aC
  case cQ => rw [e2]; exact h.cQ
  case aQ => rw [A _ (by unfold iNet; omega) (by omega)]; exact h.aQ
  case kind => intro n hn; rw [A _ (by unfold iNet; omega) (by omega), e3]; exact h.kind n hn
  case size => intro n hn; rw [A _ (by unfold iNet; omega) (by omega), e4]; exact h.size n hn
  case gate => 
    intro m hm
    rw [h5]
    by_cases e : m = n
    · subst e; rw [ha1, up1_eq]
    · rw [up1_ne e, A _ (by unfold iNet; omega) (by omega)]; exact h.gate m hm
  case kep0 => intro n hn; rw [A _ (by unfold iNet; omega) (by omega), e7]; exact h.kep0 n hn
  case kep1 => intro n hn; rw [A _ (by unfold iNet; omega) (by omega), e8]; exact h.kep1 n hn
  case frm => intro n hn; rw [A _ (by unfold iNet; omega) (by omega), e9]; exact h.frm n hn
  case to => intro n hn; rw [A _ (by unfold iNet; omega) (by omega), e10]; exact h.to n hn
  case low => intro n hn; rw [A _ (by unfold iNet; omega) (by omega), e11]; exact h.low n hn
  case hig => intro n hn; rw [A _ (by unfold iNet; omega) (by omega), e12]; exact h.hig n hn
  case trv => intro n hn; rw [A _ (by unfold iNet; omega) (by omega), e13]; exact h.trv n hn
  case brd => intro n hn; rw [A _ (by unfold iNet; omega) (by omega), e14]; exact h.brd n hn
  case brk => intro n hn; rw [A _ (by unfold iNet; omega) (by omega), e15]; exact h.brk n hn
  case way0 => intro n hn; rw [A _ (by unfold iNet; omega) (by omega), e17]; exact h.way0 n hn
  case way1 => intro n hn; rw [A _ (by unfold iNet; omega) (by omega), e18]; exact h.way1 n hn
  case gateV => 
    intro m hm
    rw [h5, e9]
    by_cases e : m = n
    · subst e; rw [up1_eq]; exact hv
    · rw [up1_ne e]; exact h.gateV m hm
  case ends => rw [e9, e10]; exact h.ends
  case lowV => rw [e11]; exact h.lowV
  case higV => rw [e12]; exact h.higV
  case trvV => rw [e13]; exact h.trvV
  case brdV => rw [e14]; exact h.brdV
  case brkV => rw [e15]; exact h.brkV
  case kindV => rw [e3]; exact h.kindV
  case kepZ => rw [e7, e8]; exact h.kepZ
  case brkZ => rw [e15]; exact h.brkZ
  case wayZ => rw [e17, e18]; exact h.wayZ
  case su00 => rw [A _ (by unfold iNet; omega) (by omega), e3, e7]; exact h.su00
  case su01 => rw [A _ (by unfold iNet; omega) (by omega), e3, e7]; exact h.su01
  case su02 => rw [A _ (by unfold iNet; omega) (by omega), e3, e7]; exact h.su02
  case su03 => rw [A _ (by unfold iNet; omega) (by omega), e17]; exact h.su03
  case su04 => rw [A _ (by unfold iNet; omega) (by omega), e19]; exact h.su04
  case su05 => rw [A _ (by unfold iNet; omega) (by omega), e20]; exact h.su05
  case su06 => rw [A _ (by unfold iNet; omega) (by omega), e21]; exact h.su06
  case su10 => rw [A _ (by unfold iNet; omega) (by omega), e3, e8]; exact h.su10
  case su11 => rw [A _ (by unfold iNet; omega) (by omega), e3, e8]; exact h.su11
  case su12 => rw [A _ (by unfold iNet; omega) (by omega), e3, e8]; exact h.su12
  case su13 => rw [A _ (by unfold iNet; omega) (by omega), e18]; exact h.su13
  case su14 => rw [A _ (by unfold iNet; omega) (by omega), e19]; exact h.su14
  case su15 => rw [A _ (by unfold iNet; omega) (by omega), e20]; exact h.su15
  case su16 => rw [A _ (by unfold iNet; omega) (by omega), e21]; exact h.su16
theorem nodeOf_y {g : Sg} {n k : Nat} (hn : n < 10) (hk : k < 5) : m_nodeOf (nn n) (nn k) g = some (g 216 (140 + 5 * n + k)) := by
  unfold m_nodeOf
  simp (disch := first | omega | decide) only [lt1, nnMl, nnMr, nnAl, nnAr, nnA, nnM, nnB, nnT, nnP, nnE, nnEl, nnEr, nnL, nnLl, nnLr, nnQ, nnQr, nnN, Nat.add_zero, if_false, if_true, Option.bind_some, not_true, not_false_iff, not_true_eq_false, not_false_eq_true, eq_self, Nat.not_lt_zero, z10, z01, or_true, true_or, or_false, false_or, true_and, false_and]
  rw [if_pos (show 140 + 5 * n + k < 20360 by omega)]
theorem nodeOf0_y {g : Sg} {n : Nat} (hn : n < 10) : m_nodeOf_k0 (nn n) g = some (g 216 (140 + 5 * n)) := nodeOf_y hn (k := 0) (by decide)
theorem nodeOf4_y {g : Sg} {n : Nat} (hn : n < 10) : m_nodeOf_k4 (nn n) g = some (g 216 (140 + 5 * n + 4)) := nodeOf_y hn (k := 4) (by decide)
theorem fits_eq (k v : Int32) (g g' : Sg) : ∃ b, (b = 0 ∨ b = 1) ∧ net_fits k v g = some b ∧ m_maySize k v g' = some b ∧ (b = 1 → ∃ n, n ≤ 4 ∧ k = nn n) := by
  unfold net_fits m_maySize
  simp only [within_eq, isIn_eq, Option.bind_some]
  by_cases hk : ∃ n, n < 5 ∧ k = nn n
  · obtain ⟨n, hn, rfl⟩ := hk
    have e : ∀ (c : Prop) [Decidable c], ∃ b : Int32, (b = 0 ∨ b = 1) ∧ (if c then (1 : Int32) else 0) = b := fun c _ => by
      by_cases h : c
      · exact ⟨1, Or.inr rfl, if_pos h⟩
      · exact ⟨0, Or.inl rfl, if_neg h⟩
    simp (disch := first | omega | decide) only [lt1, nnMl, nnMr, nnAl, nnAr, nnA, nnM, nnB, nnT, nnP, nnE, nnEl, nnEr, nnL, nnLl, nnLr, nnQ, nnQr, nnN, Nat.add_zero, if_false, if_true, Option.bind_some, not_true, not_false_iff, not_true_eq_false, not_false_eq_true, eq_self, Nat.not_lt_zero, z10, z01, or_true, true_or, or_false, false_or, true_and, false_and]
    have c4 : n = 0 ∨ n = 1 ∨ n = 2 ∨ n = 3 ∨ n = 4 := by omega
    rcases c4 with rfl | rfl | rfl | rfl | rfl
    · obtain ⟨b, hb, e0⟩ := e (0 ≤ v ∧ v ≤ 999)
      refine ⟨b, hb, ?_, ?_, fun _ => ⟨0, by decide, rfl⟩⟩
      · show (if (if (0 ≤ v ∧ v ≤ 999) then (1 : Int32) else 0) = 0 ∨ (if (0 ≤ v ∧ v ≤ 999) then (1 : Int32) else 0) = 1 then some (if (0 ≤ v ∧ v ≤ 999) then (1 : Int32) else 0) else none) = some b
        rw [e0, if_pos hb]
      · show (if (if (0 ≤ v ∧ v ≤ 999) then (1 : Int32) else 0) = 0 ∨ (if (0 ≤ v ∧ v ≤ 999) then (1 : Int32) else 0) = 1 then some (if (0 ≤ v ∧ v ≤ 999) then (1 : Int32) else 0) else none) = some b
        rw [e0, if_pos hb]
    · obtain ⟨b, hb, e0⟩ := e (0 ≤ v ∧ v ≤ 0)
      refine ⟨b, hb, ?_, ?_, fun _ => ⟨1, by decide, rfl⟩⟩
      · show (if (if (0 ≤ v ∧ v ≤ 0) then (1 : Int32) else 0) = 0 ∨ (if (0 ≤ v ∧ v ≤ 0) then (1 : Int32) else 0) = 1 then some (if (0 ≤ v ∧ v ≤ 0) then (1 : Int32) else 0) else none) = some b
        rw [e0, if_pos hb]
      · show (if ¬ v = 0 then some 0 else some 1) = some b
        rw [← e0]
        by_cases hv : v = 0
        · subst hv; decide
        · rw [if_pos hv, if_neg (fun q => hv (Int32.le_antisymm q.2 q.1))]
    · obtain ⟨b, hb, e0⟩ := e (1 ≤ v ∧ v ≤ 99999)
      refine ⟨b, hb, ?_, ?_, fun _ => ⟨2, by decide, rfl⟩⟩
      · show (if (if (1 ≤ v ∧ v ≤ 99999) then (1 : Int32) else 0) = 0 ∨ (if (1 ≤ v ∧ v ≤ 99999) then (1 : Int32) else 0) = 1 then some (if (1 ≤ v ∧ v ≤ 99999) then (1 : Int32) else 0) else none) = some b
        rw [e0, if_pos hb]
      · show (if (if (1 ≤ v ∧ v ≤ 99999) then (1 : Int32) else 0) = 0 then some 0 else some 1) = some b
        rw [e0]
        rcases hb with rfl | rfl <;> rfl
    · obtain ⟨b, hb, e0⟩ := e (1 ≤ v ∧ v ≤ 500)
      refine ⟨b, hb, ?_, ?_, fun _ => ⟨3, by decide, rfl⟩⟩
      · show (if (if (1 ≤ v ∧ v ≤ 500) then (1 : Int32) else 0) = 0 ∨ (if (1 ≤ v ∧ v ≤ 500) then (1 : Int32) else 0) = 1 then some (if (1 ≤ v ∧ v ≤ 500) then (1 : Int32) else 0) else none) = some b
        rw [e0, if_pos hb]
      · show (if (if (1 ≤ v ∧ v ≤ 500) then (1 : Int32) else 0) = 0 ∨ (if (1 ≤ v ∧ v ≤ 500) then (1 : Int32) else 0) = 1 then some (if (1 ≤ v ∧ v ≤ 500) then (1 : Int32) else 0) else none) = some b
        rw [e0, if_pos hb]
    · obtain ⟨b, hb, e0⟩ := e (1 ≤ v ∧ v ≤ 99999)
      refine ⟨b, hb, ?_, ?_, fun _ => ⟨4, by decide, rfl⟩⟩
      · show (if (if (1 ≤ v ∧ v ≤ 99999) then (1 : Int32) else 0) = 0 ∨ (if (1 ≤ v ∧ v ≤ 99999) then (1 : Int32) else 0) = 1 then some (if (1 ≤ v ∧ v ≤ 99999) then (1 : Int32) else 0) else none) = some b
        rw [e0, if_pos hb]
      · show (if (if (1 ≤ v ∧ v ≤ 99999) then (1 : Int32) else 0) = 0 then some 0 else some 1) = some b
        rw [e0]
        rcases hb with rfl | rfl <;> rfl
  · have hk5 : ¬ (¬ k < 0 ∧ k < nn 5) := fun e => hk ((rg (by decide)).mp e)
    have n0 : ∀ m, m < 5 → ¬ k = nn m := fun m hm e => hk ⟨m, hm, e⟩
    refine ⟨0, Or.inl rfl, ?_, ?_, fun e => absurd e (by decide)⟩
    · by_cases h1 : k < 0
      · rw [if_pos h1]
      · rw [if_neg h1, if_pos (show (5 : Int32) ≤ k from Int32.not_lt.mp (fun e => hk5 ⟨h1, e⟩))]
    · rw [if_pos (show ¬ k = 0 from n0 0 (by decide)), if_pos (show ¬ k = 1 from n0 1 (by decide)), if_pos (show ¬ k = 3 from n0 3 (by decide))]
      have e : ¬ (2 ≤ k ∧ k ≤ 4) := fun e => by
        obtain ⟨m, hm, e9⟩ := (rgK (K := 4) (v := k) (by decide)).mp ⟨Int32.le_trans (by decide) e.1, e.2⟩
        exact n0 m hm e9
      rw [if_neg e]
      rfl

section SA
theorem sim_about {TS : Sg → Prop} : Sim_about (RR TS) := by
  intro v1 v2 g hR
  obtain ⟨N, C, Q, D, T, L, G, h⟩ := hR.now
  have hN := h.net.hN
  by_cases hn : ∃ n, n < N ∧ v1 = nn n
  · obtain ⟨n, hn, rfl⟩ := hn
    have h10 : n < 10 := by omega
    by_cases hk : ∃ k, k < 5 ∧ v2 = nn k
    · obtain ⟨k, hk, rfl⟩ := hk
      refine ⟨0, 0, g 216 (140 + 5 * n + k), g, g, ?_, ?_, hR, rfl, rfl⟩
      · unfold x_about
        rw [hasNode_y h.net hn]
        have c4 : k = 0 ∨ k = 1 ∨ k = 2 ∨ k = 3 ∨ k = 4 := by omega
        rcases c4 with rfl | rfl | rfl | rfl | rfl
        · show (if inb (nn n) 10 = true then some (g 3 (nn n).toNatClampNeg) else none) = _; simp (disch := first | omega | decide) only [lt1, nnMl, nnMr, nnAl, nnAr, nnA, nnM, nnB, nnT, nnP, nnE, nnEl, nnEr, nnL, nnLl, nnLr, nnQ, nnQr, nnN, Nat.add_zero, if_false, if_true, Option.bind_some, not_true, not_false_iff, not_true_eq_false, not_false_eq_true, eq_self, Nat.not_lt_zero, z10, z01, or_true, true_or, or_false, false_or, true_and, false_and, h10, ← h.net.kind]
        · show (if inb (nn n) 10 = true then some (g 4 (nn n).toNatClampNeg) else none) = _; simp (disch := first | omega | decide) only [lt1, nnMl, nnMr, nnAl, nnAr, nnA, nnM, nnB, nnT, nnP, nnE, nnEl, nnEr, nnL, nnLl, nnLr, nnQ, nnQr, nnN, Nat.add_zero, if_false, if_true, Option.bind_some, not_true, not_false_iff, not_true_eq_false, not_false_eq_true, eq_self, Nat.not_lt_zero, z10, z01, or_true, true_or, or_false, false_or, true_and, false_and, h10, ← h.net.size]
        · show (if inb (nn n) 10 = true then some (g 5 (nn n).toNatClampNeg) else none) = _; simp (disch := first | omega | decide) only [lt1, nnMl, nnMr, nnAl, nnAr, nnA, nnM, nnB, nnT, nnP, nnE, nnEl, nnEr, nnL, nnLl, nnLr, nnQ, nnQr, nnN, Nat.add_zero, if_false, if_true, Option.bind_some, not_true, not_false_iff, not_true_eq_false, not_false_eq_true, eq_self, Nat.not_lt_zero, z10, z01, or_true, true_or, or_false, false_or, true_and, false_and, h10, ← h.net.gate]
        · show (if inb (nn n) 10 = true then some (g 7 (nn n).toNatClampNeg) else none) = _; simp (disch := first | omega | decide) only [lt1, nnMl, nnMr, nnAl, nnAr, nnA, nnM, nnB, nnT, nnP, nnE, nnEl, nnEr, nnL, nnLl, nnLr, nnQ, nnQr, nnN, Nat.add_zero, if_false, if_true, Option.bind_some, not_true, not_false_iff, not_true_eq_false, not_false_eq_true, eq_self, Nat.not_lt_zero, z10, z01, or_true, true_or, or_false, false_or, true_and, false_and, h10, ← h.net.kep0]
        · show (if inb (nn n) 10 = true then some (g 8 (nn n).toNatClampNeg) else none) = _; simp (disch := first | omega | decide) only [lt1, nnMl, nnMr, nnAl, nnAr, nnA, nnM, nnB, nnT, nnP, nnE, nnEl, nnEr, nnL, nnLl, nnLr, nnQ, nnQr, nnN, Nat.add_zero, if_false, if_true, Option.bind_some, not_true, not_false_iff, not_true_eq_false, not_false_eq_true, eq_self, Nat.not_lt_zero, z10, z01, or_true, true_or, or_false, false_or, true_and, false_and, h10, ← h.net.kep1]
      · unfold m_about
        rw [isOf0_y h.net hn, isInK_y (w := 4) (K := 4) rfl (by decide) (by omega)]
        show Option.bind (m_nodeOf (nn n) (nn k) g) (fun x3 => some x3) = _
        rw [nodeOf_y h10 hk]
        rfl
    · refine ⟨0, 0, -2, g, g, ?_, ?_, hR, rfl, rfl⟩
      · unfold x_about
        rw [hasNode_y h.net hn]
        show (if v2 = 0 then _ else _) = _
        rw [if_neg (show ¬ v2 = 0 from fun e => hk ⟨0, by decide, e⟩), if_neg (show ¬ v2 = 1 from fun e => hk ⟨1, by decide, e⟩), if_neg (show ¬ v2 = 2 from fun e => hk ⟨2, by decide, e⟩), if_neg (show ¬ v2 = 3 from fun e => hk ⟨3, by decide, e⟩), if_neg (show ¬ v2 = 4 from fun e => hk ⟨4, by decide, e⟩)]
      · unfold m_about
        rw [isOf0_y h.net hn, isInK_n (w := 4) (K := 4) rfl (by decide) hk]
        rfl
  · refine ⟨0, 0, -2, g, g, ?_, ?_, hR, rfl, rfl⟩
    · unfold x_about
      rw [hasNode_n h.net hn]
      rfl
    · unfold m_about
      rw [isOf0_n h.net hn]
      rfl
theorem sim_size {TS : Sg → Prop} (hT : TSf TS) : Sim_size (RR TS) := by
  intro v1 v2 g hR
  obtain ⟨N, C, Q, D, T, L, G, h⟩ := hR.now
  have hN := h.net.hN
  by_cases hn : ∃ n, n < N ∧ v1 = nn n
  · obtain ⟨n, hn, rfl⟩ := hn
    have h10 : n < 10 := by omega
    obtain ⟨b, hb, f1, f2, -⟩ := fits_eq (g 3 n) v2 g g
    have e3 := h.net.kind n h10
    have e8 := h.net.kep1 n h10
    have hx : x_size (nn n) v2 g = some (if b = 1 ∧ (g 3 n = 2 → g 8 n ≤ v2) then (1, up2 g 4 n v2) else (0, g)) := by
      unfold x_size x_size_55
      rw [hasNode_y h.net hn]
      simp (disch := first | omega | decide) only [lt1, nnMl, nnMr, nnAl, nnAr, nnA, nnM, nnB, nnT, nnP, nnE, nnEl, nnEr, nnL, nnLl, nnLr, nnQ, nnQr, nnN, Nat.add_zero, if_false, if_true, Option.bind_some, not_true, not_false_iff, not_true_eq_false, not_false_eq_true, eq_self, Nat.not_lt_zero, z10, z01, or_true, true_or, or_false, false_or, true_and, false_and, h10, f1]
      rcases hb with rfl | rfl
      · simp (disch := first | omega | decide) only [lt1, nnMl, nnMr, nnAl, nnAr, nnA, nnM, nnB, nnT, nnP, nnE, nnEl, nnEr, nnL, nnLl, nnLr, nnQ, nnQr, nnN, Nat.add_zero, if_false, if_true, Option.bind_some, not_true, not_false_iff, not_true_eq_false, not_false_eq_true, eq_self, Nat.not_lt_zero, z10, z01, or_true, true_or, or_false, false_or, true_and, false_and]
      · simp (disch := first | omega | decide) only [lt1, nnMl, nnMr, nnAl, nnAr, nnA, nnM, nnB, nnT, nnP, nnE, nnEl, nnEr, nnL, nnLl, nnLr, nnQ, nnQr, nnN, Nat.add_zero, if_false, if_true, Option.bind_some, not_true, not_false_iff, not_true_eq_false, not_false_eq_true, eq_self, Nat.not_lt_zero, z10, z01, or_true, true_or, or_false, false_or, true_and, false_and]
        by_cases k2 : g 3 n = 2
        · by_cases k8 : g 8 n ≤ v2
          · simp (disch := first | omega | decide) only [lt1, nnMl, nnMr, nnAl, nnAr, nnA, nnM, nnB, nnT, nnP, nnE, nnEl, nnEr, nnL, nnLl, nnLr, nnQ, nnQr, nnN, Nat.add_zero, if_false, if_true, Option.bind_some, not_true, not_false_iff, not_true_eq_false, not_false_eq_true, eq_self, Nat.not_lt_zero, z10, z01, or_true, true_or, or_false, false_or, true_and, false_and, k2, k8, forall_const]
          · simp (disch := first | omega | decide) only [lt1, nnMl, nnMr, nnAl, nnAr, nnA, nnM, nnB, nnT, nnP, nnE, nnEl, nnEr, nnL, nnLl, nnLr, nnQ, nnQr, nnN, Nat.add_zero, if_false, if_true, Option.bind_some, not_true, not_false_iff, not_true_eq_false, not_false_eq_true, eq_self, Nat.not_lt_zero, z10, z01, or_true, true_or, or_false, false_or, true_and, false_and, k2, k8, forall_const]
        · simp (disch := first | omega | decide) only [lt1, nnMl, nnMr, nnAl, nnAr, nnA, nnM, nnB, nnT, nnP, nnE, nnEl, nnEr, nnL, nnLl, nnLr, nnQ, nnQr, nnN, Nat.add_zero, if_false, if_true, Option.bind_some, not_true, not_false_iff, not_true_eq_false, not_false_eq_true, eq_self, Nat.not_lt_zero, z10, z01, or_true, true_or, or_false, false_or, true_and, false_and, k2, false_implies]
    have hm : ∀ g1 : Sg, g1 216 = g 216 → m_size (nn n) v2 g1 = some (if b = 1 ∧ (g 3 n = 2 → g 8 n ≤ v2) then (1, up2 g1 216 (140 + 5 * n + 1) v2) else (0, g1)) := by
      intro g1 e1
      obtain ⟨b', hb', f1', f2', -⟩ := fits_eq (g 3 n) v2 g g1
      have eb : b' = b := by rw [f1] at f1'; exact (Option.some.inj f1').symm
      subst eb
      unfold m_size m_size_44 m_isOf_k0
      rw [isOf_y (N := N) (by rw [e1]; exact h.net.aN) (by omega) hn, nodeOf0_y h10, nodeOf4_y h10, e1, e3, e8]
      simp (disch := first | omega | decide) only [lt1, nnMl, nnMr, nnAl, nnAr, nnA, nnM, nnB, nnT, nnP, nnE, nnEl, nnEr, nnL, nnLl, nnLr, nnQ, nnQr, nnN, Nat.add_zero, if_false, if_true, Option.bind_some, not_true, not_false_iff, not_true_eq_false, not_false_eq_true, eq_self, Nat.not_lt_zero, z10, z01, or_true, true_or, or_false, false_or, true_and, false_and, f2']
      have h2 : 140 + 5 * n + 1 < 20360 := by omega
      rcases hb with rfl | rfl
      · simp (disch := first | omega | decide) only [lt1, nnMl, nnMr, nnAl, nnAr, nnA, nnM, nnB, nnT, nnP, nnE, nnEl, nnEr, nnL, nnLl, nnLr, nnQ, nnQr, nnN, Nat.add_zero, if_false, if_true, Option.bind_some, not_true, not_false_iff, not_true_eq_false, not_false_eq_true, eq_self, Nat.not_lt_zero, z10, z01, or_true, true_or, or_false, false_or, true_and, false_and]
      · simp (disch := first | omega | decide) only [lt1, nnMl, nnMr, nnAl, nnAr, nnA, nnM, nnB, nnT, nnP, nnE, nnEl, nnEr, nnL, nnLl, nnLr, nnQ, nnQr, nnN, Nat.add_zero, if_false, if_true, Option.bind_some, not_true, not_false_iff, not_true_eq_false, not_false_eq_true, eq_self, Nat.not_lt_zero, z10, z01, or_true, true_or, or_false, false_or, true_and, false_and]
        by_cases k2 : g 3 n = 2
        · by_cases k8 : g 8 n ≤ v2
          · simp (disch := first | omega | decide) only [lt1, nnMl, nnMr, nnAl, nnAr, nnA, nnM, nnB, nnT, nnP, nnE, nnEl, nnEr, nnL, nnLl, nnLr, nnQ, nnQr, nnN, Nat.add_zero, if_false, if_true, Option.bind_some, not_true, not_false_iff, not_true_eq_false, not_false_eq_true, eq_self, Nat.not_lt_zero, z10, z01, or_true, true_or, or_false, false_or, true_and, false_and, k2, k8, forall_const, h2]
          · simp (disch := first | omega | decide) only [lt1, nnMl, nnMr, nnAl, nnAr, nnA, nnM, nnB, nnT, nnP, nnE, nnEl, nnEr, nnL, nnLl, nnLr, nnQ, nnQr, nnN, Nat.add_zero, if_false, if_true, Option.bind_some, not_true, not_false_iff, not_true_eq_false, not_false_eq_true, eq_self, Nat.not_lt_zero, z10, z01, or_true, true_or, or_false, false_or, true_and, false_and, k2, k8, forall_const]
        · simp (disch := first | omega | decide) only [lt1, nnMl, nnMr, nnAl, nnAr, nnA, nnM, nnB, nnT, nnP, nnE, nnEl, nnEr, nnL, nnLl, nnLr, nnQ, nnQr, nnN, Nat.add_zero, if_false, if_true, Option.bind_some, not_true, not_false_iff, not_true_eq_false, not_false_eq_true, eq_self, Nat.not_lt_zero, z10, z01, or_true, true_or, or_false, false_or, true_and, false_and, k2, false_implies, h2]
    by_cases hc : b = 1 ∧ (g 3 n = 2 → g 8 n ≤ v2)
    · have hm1 := hm (up2 g 4 n v2) (u2n (by decide))
      rw [if_pos hc] at hx hm1
      refine ⟨0, 0, 1, _, _, hx, hm1, ?_⟩
      refine RR.put hT hR ⟨N, C, Q, D, T, L, G, ?_⟩ (fun i h1 h2 => by rw [u2n (by omega), u2n (by omega)]) (fun j hj => by rw [u2e, up1_ne (by omega), u2n (by decide)]) (by rw [u2n (by decide), u2n (by decide)]) (fun i h1 h2 => by rw [u2n (by omega), u2n (by omega)])
      have eC : ∀ i, i ≠ 4 → i ≠ 216 → up2 (up2 g 4 n v2) 216 (140 + 5 * n + 1) v2 i = g i := fun i h1 h2 => by rw [u2n h2, u2n h1]
      have eA : up2 (up2 g 4 n v2) 216 (140 + 5 * n + 1) v2 216 = up1 (g 216) (140 + 5 * n + 1) v2 := by rw [u2e, u2n (by decide)]
      rw [eA]
      exact ⟨h.net.sizeU h10 (fun i h1 h2 h3 => eC i h3 (by omega)) (by rw [u2n (by decide), u2e]) (fun j _ h2 => up1_ne h2) up1_eq,
        h.rig.fr (fun i h1 h2 => eC i (by omega) (by omega)) (fun j hj => up1_ne (by unfold iRig at hj; omega)),
        h.law.fr (fun i h1 h2 => eC i (by omega) (by omega)) (fun j hj => up1_ne (by unfold iLaw at hj; omega)),
        h.gau.fr (fun i h1 h2 => eC i (by omega) (by omega)) (fun j hj => up1_ne (by unfold iGau at hj; omega))⟩
    · have hm1 := hm g rfl
      rw [if_neg hc] at hx hm1
      exact ⟨0, 0, 0, _, _, hx, hm1, hR⟩
  · refine ⟨0, 0, 0, g, g, ?_, ?_, hR⟩
    · unfold x_size
      rw [hasNode_n h.net hn]
      rfl
    · unfold m_size
      rw [isOf0_n h.net hn]
      rfl
end SA
