/-! broken -/
theorem RNet.brkU {c c' : Sg} {a a' : Nat → Int32} {N C Q n : Nat} {v : Int32} (h : RNet c a N C Q) (hn : n < C) (hv : v = 0 ∨ v = 1) (hc : ∀ i, 2 ≤ i → i ≤ 21 → i ≠ 15 → c' i = c i) (e15 : c' 15 = up1 (c 15) n v) (b6 : a' (190 + 7 * n + 6) = v) (ha : ∀ j, iNet j → j ≠ 190 + 7 * n + 6 → a' j = a j) : RNet c' a' N C Q := by
  have hC := h.hC
  have e2 := hc 2 (by decide) (by decide) (by decide)
  have e3 := hc 3 (by decide) (by decide) (by decide)
  have e4 := hc 4 (by decide) (by decide) (by decide)
  have e5 := hc 5 (by decide) (by decide) (by decide)
  have e7 := hc 7 (by decide) (by decide) (by decide)
  have e8 := hc 8 (by decide) (by decide) (by decide)
  have e9 := hc 9 (by decide) (by decide) (by decide)
  have e10 := hc 10 (by decide) (by decide) (by decide)
  have e11 := hc 11 (by decide) (by decide) (by decide)
  have e12 := hc 12 (by decide) (by decide) (by decide)
  have e13 := hc 13 (by decide) (by decide) (by decide)
  have e14 := hc 14 (by decide) (by decide) (by decide)
  have e17 := hc 17 (by decide) (by decide) (by decide)
  have e18 := hc 18 (by decide) (by decide) (by decide)
  have e19 := hc 19 (by decide) (by decide) (by decide)
  have e20 := hc 20 (by decide) (by decide) (by decide)
  have e21 := hc 21 (by decide) (by decide) (by decide)
  have A := ha
  apply RNet.mk
  case hN => exact h.hN
  case hC => exact h.hC
  case hQ => exact h.hQ
  case cN => rw [e2]; exact h.cN
  case aN => rw [A _ (by unfold iNet; omega) (by omega)]; exact h.aN
  case cC => rw [e2]; exact h.cC
  case aC => rw [A _ (by unfold iNet; omega) (by omega)]; exact h.aC
  case cQ => rw [e2]; exact h.cQ
  case aQ => rw [A _ (by unfold iNet; omega) (by omega)]; exact h.aQ
  case kind => intro n hn; rw [A _ (by unfold iNet; omega) (by omega), e3]; exact h.kind n hn
  case size => intro n hn; rw [A _ (by unfold iNet; omega) (by omega), e4]; exact h.size n hn
  case gate => intro n hn; rw [A _ (by unfold iNet; omega) (by omega), e5]; exact h.gate n hn
  case kep0 => intro n hn; rw [A _ (by unfold iNet; omega) (by omega), e7]; exact h.kep0 n hn
  case kep1 => intro n hn; rw [A _ (by unfold iNet; omega) (by omega), e8]; exact h.kep1 n hn
  case frm => intro n hn; rw [A _ (by unfold iNet; omega) (by omega), e9]; exact h.frm n hn
  case to => intro n hn; rw [A _ (by unfold iNet; omega) (by omega), e10]; exact h.to n hn
  case low => intro n hn; rw [A _ (by unfold iNet; omega) (by omega), e11]; exact h.low n hn
  case hig => intro n hn; rw [A _ (by unfold iNet; omega) (by omega), e12]; exact h.hig n hn
  case trv => intro n hn; rw [A _ (by unfold iNet; omega) (by omega), e13]; exact h.trv n hn
  case brd => intro n hn; rw [A _ (by unfold iNet; omega) (by omega), e14]; exact h.brd n hn
  case brk => 
    intro m hm
    rw [e15]
    by_cases e : m = n
    · subst e; rw [up1_eq]; exact b6
    · rw [up1_ne e, A _ (by unfold iNet; omega) (by omega)]; exact h.brk m hm
  case way0 => intro n hn; rw [A _ (by unfold iNet; omega) (by omega), e17]; exact h.way0 n hn
  case way1 => intro n hn; rw [A _ (by unfold iNet; omega) (by omega), e18]; exact h.way1 n hn
  case gateV => rw [e5, e9]; exact h.gateV
  case ends => rw [e9, e10]; exact h.ends
  case lowV => rw [e11]; exact h.lowV
  case higV => rw [e12]; exact h.higV
  case trvV => rw [e13]; exact h.trvV
  case brdV => rw [e14]; exact h.brdV
  case brkV => 
    intro m hm
    rw [e15]
    by_cases e : m = n
    · subst e; rw [up1_eq]; exact hv
    · rw [up1_ne e]; exact h.brkV m hm
  case kindV => rw [e3]; exact h.kindV
  case kepZ => rw [e7, e8]; exact h.kepZ
  case brkZ => intro m hm h9; rw [e15, up1_ne (by omega)]; exact h.brkZ m hm h9
  case wayZ => rw [e17, e18]; exact h.wayZ
  case su00 => rw [A _ (by unfold iNet; omega) (by omega), e3, e7]; exact h.su00
  case su01 => rw [A _ (by unfold iNet; omega) (by omega), e3, e7]; exact h.su01
  case su02 => rw [A _ (by unfold iNet; omega) (by omega), e3, e7]; exact h.su02
  case su03 => rw [A _ (by unfold iNet; omega) (by omega), e17]; exact h.su03
  case su04 => rw [A _ (by unfold iNet; omega) (by omega), e19]; exact h.su04
  case su05 => rw [A _ (by unfold iNet; omega) (by omega), e20]; exact h.su05
  case su06 => rw [A _ (by unfold iNet; omega) (by omega), e21]; exact h.su06
  case su10 => rw [A _ (by unfold iNet; omega) (by omega), e3, e8]; exact h.su10
  case su11 => rw [A _ (by unfold iNet; omega) (by omega), e3, e8]; exact h.su11
  case su12 => rw [A _ (by unfold iNet; omega) (by omega), e3, e8]; exact h.su12
  case su13 => rw [A _ (by unfold iNet; omega) (by omega), e18]; exact h.su13
  case su14 => rw [A _ (by unfold iNet; omega) (by omega), e19]; exact h.su14
  case su15 => rw [A _ (by unfold iNet; omega) (by omega), e20]; exact h.su15
  case su16 => rw [A _ (by unfold iNet; omega) (by omega), e21]; exact h.su16
theorem sum_zero {f f2 : Nat → Int32} {n : Nat} (hn : n < 14) (h1 : ∀ i, n * 9 ≤ i → i < n * 9 + 9 → f2 i = 0) (h2 : ∀ i, i < n * 9 ∨ n * 9 + 9 ≤ i → f2 i = f i) : sumTo f2 126 = sumTo f 126 - sumTo (fun i => f (n * 9 + i)) 9 := by
  have e : 126 = n * 9 + 9 + (117 - n * 9) := by omega
  rw [e, sumTo_add f, sumTo_add f, sumTo_add f2, sumTo_add f2]
  rw [sumTo_congr (f := f2) (f' := f) (n := n * 9) (fun i hi => h2 i (by omega)), sumTo_z (f := fun i => f2 (n * 9 + i)) (fun i hi => h1 _ (by omega) (by omega)), sumTo_congr (f := fun i => f2 (n * 9 + 9 + i)) (f' := fun i => f (n * 9 + 9 + i)) (fun i hi => h2 _ (by omega)), Int32.add_zero, Int32.add_assoc (sumTo f (n * 9)) (sumTo (fun i => f (n * 9 + i)) 9), Int32.add_comm (sumTo (fun i => f (n * 9 + i)) 9), ← Int32.add_assoc, Int32.add_sub_cancel]
theorem RNet.lose0 {c c' : Sg} {a a' : Nat → Int32} {N C Q n : Nat} (h : RNet c a N C Q) (hn : n < C) (hc : ∀ i, 2 ≤ i → i ≤ 21 → i ≠ 17 → i ≠ 21 → c' i = c i) (z1 : ∀ i, n * 9 ≤ i → i < n * 9 + 9 → c' 17 i = 0) (z2 : ∀ i, i < n * 9 ∨ n * 9 + 9 ≤ i → c' 17 i = c 17 i) (e21 : c' 21 = up1 (c 21) 0 (c 21 0 + sumTo (fun i => c 17 (n * 9 + i)) 9)) (b3 : a' 13 = a 13 - sumTo (fun i => a (290 + n * 9 + i)) 9) (b6 : a' 16 = a 16 + sumTo (fun i => a (290 + n * 9 + i)) 9) (y1 : ∀ j, 290 + n * 9 ≤ j → j < 290 + n * 9 + 9 → a' j = 0) (ha : ∀ j, j ≠ 13 → j ≠ 16 → (j < 290 + n * 9 ∨ 290 + n * 9 + 9 ≤ j) → a' j = a j) : RNet c' a' N C Q := by
  have hC := h.hC
  have eS : sumTo (fun i => a (290 + n * 9 + i)) 9 = sumTo (fun i => c 17 (n * 9 + i)) 9 := sumTo_congr (fun i hi => by
    show a (290 + n * 9 + i) = _
    rw [Nat.add_assoc]
    exact h.way0 _ (by omega))
  rw [eS] at b3 b6
  have e2 := hc 2 (by decide) (by decide) (by decide) (by decide)
  have e3 := hc 3 (by decide) (by decide) (by decide) (by decide)
  have e4 := hc 4 (by decide) (by decide) (by decide) (by decide)
  have e5 := hc 5 (by decide) (by decide) (by decide) (by decide)
  have e7 := hc 7 (by decide) (by decide) (by decide) (by decide)
  have e8 := hc 8 (by decide) (by decide) (by decide) (by decide)
  have e9 := hc 9 (by decide) (by decide) (by decide) (by decide)
  have e10 := hc 10 (by decide) (by decide) (by decide) (by decide)
  have e11 := hc 11 (by decide) (by decide) (by decide) (by decide)
  have e12 := hc 12 (by decide) (by decide) (by decide) (by decide)
  have e13 := hc 13 (by decide) (by decide) (by decide) (by decide)
  have e14 := hc 14 (by decide) (by decide) (by decide) (by decide)
  have e15 := hc 15 (by decide) (by decide) (by decide) (by decide)
  have e18 := hc 18 (by decide) (by decide) (by decide) (by decide)
  have e19 := hc 19 (by decide) (by decide) (by decide) (by decide)
  have e20 := hc 20 (by decide) (by decide) (by decide) (by decide)
  have A := ha
  apply RNet.mk
  case hN => exact h.hN
  case hC => exact h.hC
  case hQ => exact h.hQ
  case cN => rw [e2]; exact h.cN
  case aN => rw [A _ (by omega) (by omega) (by omega)]; exact h.aN
  case cC => rw [e2]; exact h.cC
  case aC => rw [A _ (by omega) (by omega) (by omega)]; exact h.aC
  case cQ => rw [e2]; exact h.cQ
  case aQ => rw [A _ (by omega) (by omega) (by omega)]; exact h.aQ
  case kind => intro n hn; rw [A _ (by omega) (by omega) (by omega), e3]; exact h.kind n hn
  case size => intro n hn; rw [A _ (by omega) (by omega) (by omega), e4]; exact h.size n hn
  case gate => intro n hn; rw [A _ (by omega) (by omega) (by omega), e5]; exact h.gate n hn
  case kep0 => intro n hn; rw [A _ (by omega) (by omega) (by omega), e7]; exact h.kep0 n hn
  case kep1 => intro n hn; rw [A _ (by omega) (by omega) (by omega), e8]; exact h.kep1 n hn
  case frm => intro n hn; rw [A _ (by omega) (by omega) (by omega), e9]; exact h.frm n hn
  case to => intro n hn; rw [A _ (by omega) (by omega) (by omega), e10]; exact h.to n hn
  case low => intro n hn; rw [A _ (by omega) (by omega) (by omega), e11]; exact h.low n hn
  case hig => intro n hn; rw [A _ (by omega) (by omega) (by omega), e12]; exact h.hig n hn
  case trv => intro n hn; rw [A _ (by omega) (by omega) (by omega), e13]; exact h.trv n hn
  case brd => intro n hn; rw [A _ (by omega) (by omega) (by omega), e14]; exact h.brd n hn
  case brk => intro n hn; rw [A _ (by omega) (by omega) (by omega), e15]; exact h.brk n hn
  case way0 => 
    intro i hi
    by_cases e : n * 9 ≤ i ∧ i < n * 9 + 9
    · rw [z1 i e.1 e.2, y1 _ (by omega) (by omega)]
    · rw [z2 i (by omega), A _ (by omega) (by omega) (by omega)]
      exact h.way0 i hi
  case way1 => intro i hi; rw [A _ (by omega) (by omega) (by omega), e18]; exact h.way1 i hi
  case gateV => rw [e5, e9]; exact h.gateV
  case ends => rw [e9, e10]; exact h.ends
  case lowV => rw [e11]; exact h.lowV
  case higV => rw [e12]; exact h.higV
  case trvV => rw [e13]; exact h.trvV
  case brdV => rw [e14]; exact h.brdV
  case brkV => rw [e15]; exact h.brkV
  case kindV => rw [e3]; exact h.kindV
  case kepZ => rw [e7, e8]; exact h.kepZ
  case brkZ => rw [e15]; exact h.brkZ
  case wayZ => 
    intro i h1 h2
    rw [z2 i (by omega), e18]
    exact h.wayZ i h1 h2
  case su00 => rw [A _ (by omega) (by omega) (by omega), e3, e7]; exact h.su00
  case su01 => rw [A _ (by omega) (by omega) (by omega), e3, e7]; exact h.su01
  case su02 => rw [A _ (by omega) (by omega) (by omega), e3, e7]; exact h.su02
  case su03 => rw [b3, h.su03]; exact (sum_zero (by omega) z1 z2).symm
  case su04 => rw [A _ (by omega) (by omega) (by omega), e19]; exact h.su04
  case su05 => rw [A _ (by omega) (by omega) (by omega), e20]; exact h.su05
  case su06 => rw [b6, e21, up1_eq, h.su06]
  case su10 => rw [A _ (by omega) (by omega) (by omega), e3, e8]; exact h.su10
  case su11 => rw [A _ (by omega) (by omega) (by omega), e3, e8]; exact h.su11
  case su12 => rw [A _ (by omega) (by omega) (by omega), e3, e8]; exact h.su12
  case su13 => rw [A _ (by omega) (by omega) (by omega), e18]; exact h.su13
  case su14 => rw [A _ (by omega) (by omega) (by omega), e19]; exact h.su14
  case su15 => rw [A _ (by omega) (by omega) (by omega), e20]; exact h.su15
  case su16 => rw [A _ (by omega) (by omega) (by omega), e21, up1_ne (by decide)]; exact h.su16
theorem RNet.lose1 {c c' : Sg} {a a' : Nat → Int32} {N C Q n : Nat} (h : RNet c a N C Q) (hn : n < C) (hc : ∀ i, 2 ≤ i → i ≤ 21 → i ≠ 18 → i ≠ 21 → c' i = c i) (z1 : ∀ i, n * 9 ≤ i → i < n * 9 + 9 → c' 18 i = 0) (z2 : ∀ i, i < n * 9 ∨ n * 9 + 9 ≤ i → c' 18 i = c 18 i) (e21 : c' 21 = up1 (c 21) 1 (c 21 1 + sumTo (fun i => c 18 (n * 9 + i)) 9)) (b3 : a' 20 = a 20 - sumTo (fun i => a (416 + n * 9 + i)) 9) (b6 : a' 23 = a 23 + sumTo (fun i => a (416 + n * 9 + i)) 9) (y1 : ∀ j, 416 + n * 9 ≤ j → j < 416 + n * 9 + 9 → a' j = 0) (ha : ∀ j, j ≠ 20 → j ≠ 23 → (j < 416 + n * 9 ∨ 416 + n * 9 + 9 ≤ j) → a' j = a j) : RNet c' a' N C Q := by
  have hC := h.hC
  have eS : sumTo (fun i => a (416 + n * 9 + i)) 9 = sumTo (fun i => c 18 (n * 9 + i)) 9 := sumTo_congr (fun i hi => by
    show a (416 + n * 9 + i) = _
    rw [Nat.add_assoc]
    exact h.way1 _ (by omega))
  rw [eS] at b3 b6
  have e2 := hc 2 (by decide) (by decide) (by decide) (by decide)
  have e3 := hc 3 (by decide) (by decide) (by decide) (by decide)
  have e4 := hc 4 (by decide) (by decide) (by decide) (by decide)
  have e5 := hc 5 (by decide) (by decide) (by decide) (by decide)
  have e7 := hc 7 (by decide) (by decide) (by decide) (by decide)
  have e8 := hc 8 (by decide) (by decide) (by decide) (by decide)
  have e9 := hc 9 (by decide) (by decide) (by decide) (by decide)
  have e10 := hc 10 (by decide) (by decide) (by decide) (by decide)
  have e11 := hc 11 (by decide) (by decide) (by decide) (by decide)
  have e12 := hc 12 (by decide) (by decide) (by decide) (by decide)
  have e13 := hc 13 (by decide) (by decide) (by decide) (by decide)
  have e14 := hc 14 (by decide) (by decide) (by decide) (by decide)
  have e15 := hc 15 (by decide) (by decide) (by decide) (by decide)
  have e17 := hc 17 (by decide) (by decide) (by decide) (by decide)
  have e19 := hc 19 (by decide) (by decide) (by decide) (by decide)
  have e20 := hc 20 (by decide) (by decide) (by decide) (by decide)
  have A := ha
  apply RNet.mk
  case hN => exact h.hN
  case hC => exact h.hC
  case hQ => exact h.hQ
  case cN => rw [e2]; exact h.cN
  case aN => rw [A _ (by omega) (by omega) (by omega)]; exact h.aN
  case cC => rw [e2]; exact h.cC
  case aC => rw [A _ (by omega) (by omega) (by omega)]; exact h.aC
  case cQ => rw [e2]; exact h.cQ
  case aQ => rw [A _ (by omega) (by omega) (by omega)]; exact h.aQ
  case kind => intro n hn; rw [A _ (by omega) (by omega) (by omega), e3]; exact h.kind n hn
  case size => intro n hn; rw [A _ (by omega) (by omega) (by omega), e4]; exact h.size n hn
  case gate => intro n hn; rw [A _ (by omega) (by omega) (by omega), e5]; exact h.gate n hn
  case kep0 => intro n hn; rw [A _ (by omega) (by omega) (by omega), e7]; exact h.kep0 n hn
  case kep1 => intro n hn; rw [A _ (by omega) (by omega) (by omega), e8]; exact h.kep1 n hn
  case frm => intro n hn; rw [A _ (by omega) (by omega) (by omega), e9]; exact h.frm n hn
  case to => intro n hn; rw [A _ (by omega) (by omega) (by omega), e10]; exact h.to n hn
  case low => intro n hn; rw [A _ (by omega) (by omega) (by omega), e11]; exact h.low n hn
  case hig => intro n hn; rw [A _ (by omega) (by omega) (by omega), e12]; exact h.hig n hn
  case trv => intro n hn; rw [A _ (by omega) (by omega) (by omega), e13]; exact h.trv n hn
  case brd => intro n hn; rw [A _ (by omega) (by omega) (by omega), e14]; exact h.brd n hn
  case brk => intro n hn; rw [A _ (by omega) (by omega) (by omega), e15]; exact h.brk n hn
  case way0 => intro i hi; rw [A _ (by omega) (by omega) (by omega), e17]; exact h.way0 i hi
  case way1 => 
    intro i hi
    by_cases e : n * 9 ≤ i ∧ i < n * 9 + 9
    · rw [z1 i e.1 e.2, y1 _ (by omega) (by omega)]
    · rw [z2 i (by omega), A _ (by omega) (by omega) (by omega)]
      exact h.way1 i hi
  case gateV => rw [e5, e9]; exact h.gateV
  case ends => rw [e9, e10]; exact h.ends
  case lowV => rw [e11]; exact h.lowV
  case higV => rw [e12]; exact h.higV
  case trvV => rw [e13]; exact h.trvV
  case brdV => rw [e14]; exact h.brdV
  case brkV => rw [e15]; exact h.brkV
  case kindV => rw [e3]; exact h.kindV
  case kepZ => rw [e7, e8]; exact h.kepZ
  case brkZ => rw [e15]; exact h.brkZ
  case wayZ => 
    intro i h1 h2
    rw [z2 i (by omega), e17]
    exact h.wayZ i h1 h2
  case su00 => rw [A _ (by omega) (by omega) (by omega), e3, e7]; exact h.su00
  case su01 => rw [A _ (by omega) (by omega) (by omega), e3, e7]; exact h.su01
  case su02 => rw [A _ (by omega) (by omega) (by omega), e3, e7]; exact h.su02
  case su03 => rw [A _ (by omega) (by omega) (by omega), e17]; exact h.su03
  case su04 => rw [A _ (by omega) (by omega) (by omega), e19]; exact h.su04
  case su05 => rw [A _ (by omega) (by omega) (by omega), e20]; exact h.su05
  case su06 => rw [A _ (by omega) (by omega) (by omega), e21, up1_ne (by decide)]; exact h.su06
  case su10 => rw [A _ (by omega) (by omega) (by omega), e3, e8]; exact h.su10
  case su11 => rw [A _ (by omega) (by omega) (by omega), e3, e8]; exact h.su11
  case su12 => rw [A _ (by omega) (by omega) (by omega), e3, e8]; exact h.su12
  case su13 => rw [b3, h.su13]; exact (sum_zero (by omega) z1 z2).symm
  case su14 => rw [A _ (by omega) (by omega) (by omega), e19]; exact h.su14
  case su15 => rw [A _ (by omega) (by omega) (by omega), e20]; exact h.su15
  case su16 => rw [b6, e21, up1_eq, h.su16]
section SN
variable {s : Sg}
theorem zeroL1 {n : Nat} (hn : n < 14) : ∀ m x F f, x + m = 9 → m < F → ∃ f2, net_loseUnderWay_24_2 F (nn n) (nn x) (sc s 18 f) = some (sc s 18 f2) ∧ (∀ i, n * 9 + x ≤ i → i < n * 9 + 9 → f2 i = 0) ∧ ∀ i, i < n * 9 + x ∨ n * 9 + 9 ≤ i → f2 i = f i := by
  intro m
  induction m with
  | zero =>
    intro x F f hx hF
    obtain ⟨F, rfl⟩ : ∃ F2, F = F2 + 1 := ⟨F - 1, by omega⟩
    have : x = 9 := by omega
    subst this
    refine ⟨f, ?_, fun i h1 h2 => absurd h1 (by omega), fun i _ => rfl⟩
    unfold net_loseUnderWay_24_2
    exact if_pos (by decide)
  | succ m ih =>
    intro x F f hx hF
    obtain ⟨F, rfl⟩ : ∃ F2, F = F2 + 1 := ⟨F - 1, by omega⟩
    have h2 : ¬ 9 ≤ x := by omega
    have h1 : n * 9 + x < 126 := by omega
    obtain ⟨f2, r1, r2, r3⟩ := ih (x + 1) F (up1 f (n * 9 + x) 0) (by omega) (by omega)
    refine ⟨f2, ?_, fun i q1 q2 => ?_, fun i q => ?_⟩
    · unfold net_loseUnderWay_24_2
      have e1 : nn n * 9 + nn x = nn (n * 9 + x) := by simp (disch := first | omega | decide) only [lt1, nnMl, nnMr, nnAl, nnAr, nnA, nnM, nnB, nnT, nnP, nnE, nnEl, nnEr, nnL, nnLl, nnLr, nnQ, nnQr, nnN, Nat.add_zero, if_false, if_true, Option.bind_some, not_true, not_false_iff, not_true_eq_false, not_false_eq_true, eq_self, Nat.not_lt_zero, z10, z01, or_true, true_or, or_false, false_or, true_and, false_and]
      rw [e1]
      refine st_f (by simp (disch := first | omega | decide) only [lt1, nnMl, nnMr, nnAl, nnAr, nnA, nnM, nnB, nnT, nnP, nnE, nnEl, nnEr, nnL, nnLl, nnLr, nnQ, nnQr, nnN, Nat.add_zero, if_false, if_true, Option.bind_some, not_true, not_false_iff, not_true_eq_false, not_false_eq_true, eq_self, Nat.not_lt_zero, z10, z01, or_true, true_or, or_false, false_or, true_and, false_and, h2]) (st_w (by simp (disch := first | omega | decide) only [lt1, nnMl, nnMr, nnAl, nnAr, nnA, nnM, nnB, nnT, nnP, nnE, nnEl, nnEr, nnL, nnLl, nnLr, nnQ, nnQr, nnN, Nat.add_zero, if_false, if_true, Option.bind_some, not_true, not_false_iff, not_true_eq_false, not_false_eq_true, eq_self, Nat.not_lt_zero, z10, z01, or_true, true_or, or_false, false_or, true_and, false_and, h1]) ?_)
      rw [nnT (by omega), sc_u, show nn x + 1 = nn (x + 1) from nnA x 1]
      exact r1
    · by_cases e : i = n * 9 + x
      · rw [r3 i (by omega), e, up1_eq]
      · exact r2 i (by omega) q2
    · rw [r3 i (by omega), up1_ne (by omega)]
theorem zeroL0 {n : Nat} (hn : n < 14) {F0 : Nat} : ∀ m x F f, x + m = 9 → m < F → ∃ f2, net_loseUnderWay_24 F0 F (nn n) (nn x) (sc s 17 f) = Option.bind (net_underWay_k1 F0 (nn n) (sc s 17 f2)) (fun x1 => lt1 (up2 (sc s 17 f2) 21 1 (((sc s 17 f2) 21 1) + x1)) (fun g2 => (net_loseUnderWay_24_2 F0 (nn n) 0 g2))) ∧ (∀ i, n * 9 + x ≤ i → i < n * 9 + 9 → f2 i = 0) ∧ ∀ i, i < n * 9 + x ∨ n * 9 + 9 ≤ i → f2 i = f i := by
  intro m
  induction m with
  | zero =>
    intro x F f hx hF
    obtain ⟨F, rfl⟩ : ∃ F2, F = F2 + 1 := ⟨F - 1, by omega⟩
    have : x = 9 := by omega
    subst this
    refine ⟨f, ?_, fun i h1 h2 => absurd h1 (by omega), fun i _ => rfl⟩
    unfold net_loseUnderWay_24
    exact if_pos (by decide)
  | succ m ih =>
    intro x F f hx hF
    obtain ⟨F, rfl⟩ : ∃ F2, F = F2 + 1 := ⟨F - 1, by omega⟩
    have h2 : ¬ 9 ≤ x := by omega
    have h1 : n * 9 + x < 126 := by omega
    obtain ⟨f2, r1, r2, r3⟩ := ih (x + 1) F (up1 f (n * 9 + x) 0) (by omega) (by omega)
    refine ⟨f2, ?_, fun i q1 q2 => ?_, fun i q => ?_⟩
    · unfold net_loseUnderWay_24
      have e1 : nn n * 9 + nn x = nn (n * 9 + x) := by simp (disch := first | omega | decide) only [lt1, nnMl, nnMr, nnAl, nnAr, nnA, nnM, nnB, nnT, nnP, nnE, nnEl, nnEr, nnL, nnLl, nnLr, nnQ, nnQr, nnN, Nat.add_zero, if_false, if_true, Option.bind_some, not_true, not_false_iff, not_true_eq_false, not_false_eq_true, eq_self, Nat.not_lt_zero, z10, z01, or_true, true_or, or_false, false_or, true_and, false_and]
      rw [e1]
      refine st_f (by simp (disch := first | omega | decide) only [lt1, nnMl, nnMr, nnAl, nnAr, nnA, nnM, nnB, nnT, nnP, nnE, nnEl, nnEr, nnL, nnLl, nnLr, nnQ, nnQr, nnN, Nat.add_zero, if_false, if_true, Option.bind_some, not_true, not_false_iff, not_true_eq_false, not_false_eq_true, eq_self, Nat.not_lt_zero, z10, z01, or_true, true_or, or_false, false_or, true_and, false_and, h2]) (st_w (by simp (disch := first | omega | decide) only [lt1, nnMl, nnMr, nnAl, nnAr, nnA, nnM, nnB, nnT, nnP, nnE, nnEl, nnEr, nnL, nnLl, nnLr, nnQ, nnQr, nnN, Nat.add_zero, if_false, if_true, Option.bind_some, not_true, not_false_iff, not_true_eq_false, not_false_eq_true, eq_self, Nat.not_lt_zero, z10, z01, or_true, true_or, or_false, false_or, true_and, false_and, h1]) ?_)
      rw [nnT (by omega), sc_u, show nn x + 1 = nn (x + 1) from nnA x 1]
      exact r1
    · by_cases e : i = n * 9 + x
      · rw [r3 i (by omega), e, up1_eq]
      · exact r2 i (by omega) q2
    · rw [r3 i (by omega), up1_ne (by omega)]
theorem mLose0 {n : Nat} (hn : n < 14) {v2 : Int32} {F0 : Nat} : ∀ m x F (a : Nat → Int32), x + m = 9 → m < F → ∃ a2, m_broken_70 F0 F (nn n) v2 (nn x) (sc s 216 a) = (if v2 = 0 then some (1, sc s 216 a2) else m_broken_70_2 F0 (nn n) v2 0 (sc s 216 a2)) ∧ a2 16 = a 16 + sumTo (fun i => a (290 + n * 9 + x + i)) m ∧ a2 13 = a 13 - sumTo (fun i => a (290 + n * 9 + x + i)) m ∧ (∀ j, 290 + n * 9 + x ≤ j → j < 290 + n * 9 + 9 → a2 j = 0) ∧ (∀ j, j ≠ 13 → j ≠ 16 → (j < 290 + n * 9 + x ∨ 290 + n * 9 + 9 ≤ j) → a2 j = a j) := by
  intro m
  induction m with
  | zero =>
    intro x F a hx hF
    obtain ⟨F, rfl⟩ : ∃ F2, F = F2 + 1 := ⟨F - 1, by omega⟩
    have : x = 9 := by omega
    subst this
    refine ⟨a, ?_, (Int32.add_zero _).symm, (Int32.sub_zero _).symm, fun j h1 h2 => absurd h1 (by omega), fun j _ _ _ => rfl⟩
    unfold m_broken_70
    exact if_pos (by decide)
  | succ m ih =>
    intro x F a hx hF
    obtain ⟨F, rfl⟩ : ∃ F2, F = F2 + 1 := ⟨F - 1, by omega⟩
    have h2 : ¬ 9 ≤ x := by omega
    have h1 : 290 + n * 9 + x < 20360 := by omega
    have h3 : x - x / 9 * 9 = x := by omega
    have e1 : m_wayAt_k0 (nn n) (nn x) (sc s 216 a) = some (nn (290 + n * 9 + x)) := by
      unfold m_wayAt_k0
      rw [show 290 + n * 9 + x = 290 + 9 * (0 + n) + x by omega]
      simp (disch := first | omega | decide) only [lt1, nnMl, nnMr, nnAl, nnAr, nnA, nnM, nnB, nnT, nnP, nnE, nnEl, nnEr, nnL, nnLl, nnLr, nnQ, nnQr, nnN, Nat.add_zero, if_false, if_true, Option.bind_some, not_true, not_false_iff, not_true_eq_false, not_false_eq_true, eq_self, Nat.not_lt_zero, z10, z01, or_true, true_or, or_false, false_or, true_and, false_and, nnDr, nnS, h3]
    have ea : ∀ j, j ≠ 13 → j ≠ 16 → j ≠ 290 + n * 9 + x → up1 (up1 (up1 a 16 (a 16 + a (290 + n * 9 + x))) 13 (a 13 - a (290 + n * 9 + x))) (290 + n * 9 + x) 0 j = a j := fun j p1 p2 p3 => by
      rw [up1_ne p3, up1_ne p1, up1_ne p2]
    have es : sumTo (fun i => up1 (up1 (up1 a 16 (a 16 + a (290 + n * 9 + x))) 13 (a 13 - a (290 + n * 9 + x))) (290 + n * 9 + x) 0 (290 + n * 9 + (x + 1) + i)) m = sumTo (fun i => a (290 + n * 9 + x + (1 + i))) m := sumTo_congr (fun i hi => by
      show up1 _ _ _ _ = a (290 + n * 9 + x + (1 + i))
      rw [show 290 + n * 9 + (x + 1) + i = 290 + n * 9 + x + (1 + i) by omega]
      exact ea _ (by omega) (by omega) (by omega))
    have e9 : sumTo (fun i => a (290 + n * 9 + x + i)) (m + 1) = a (290 + n * 9 + x) + sumTo (fun i => a (290 + n * 9 + x + (1 + i))) m := by
      rw [Nat.add_comm m 1, sumTo_add]
      show 0 + a (290 + n * 9 + x + 0) + _ = _
      rw [Int32.zero_add, Nat.add_zero]
    obtain ⟨a2, r1, r2, r3, r4, r5⟩ := ih (x + 1) F (up1 (up1 (up1 a 16 (a 16 + a (290 + n * 9 + x))) 13 (a 13 - a (290 + n * 9 + x))) (290 + n * 9 + x) 0) (by omega) (by omega)
    rw [es] at r2 r3
    refine ⟨a2, ?_, ?_, ?_, fun j q1 q2 => ?_, fun j p1 p2 q => ?_⟩
    · unfold m_broken_70
      refine st_f (by simp (disch := first | omega | decide) only [lt1, nnMl, nnMr, nnAl, nnAr, nnA, nnM, nnB, nnT, nnP, nnE, nnEl, nnEr, nnL, nnLl, nnLr, nnQ, nnQr, nnN, Nat.add_zero, if_false, if_true, Option.bind_some, not_true, not_false_iff, not_true_eq_false, not_false_eq_true, eq_self, Nat.not_lt_zero, z10, z01, or_true, true_or, or_false, false_or, true_and, false_and, h2]) (st_b e1 (st_w (by simp (disch := first | omega | decide) only [lt1, nnMl, nnMr, nnAl, nnAr, nnA, nnM, nnB, nnT, nnP, nnE, nnEl, nnEr, nnL, nnLl, nnLr, nnQ, nnQr, nnN, Nat.add_zero, if_false, if_true, Option.bind_some, not_true, not_false_iff, not_true_eq_false, not_false_eq_true, eq_self, Nat.not_lt_zero, z10, z01, or_true, true_or, or_false, false_or, true_and, false_and, h1]) (st_w (by simp (disch := first | omega | decide) only [lt1, nnMl, nnMr, nnAl, nnAr, nnA, nnM, nnB, nnT, nnP, nnE, nnEl, nnEr, nnL, nnLl, nnLr, nnQ, nnQr, nnN, Nat.add_zero, if_false, if_true, Option.bind_some, not_true, not_false_iff, not_true_eq_false, not_false_eq_true, eq_self, Nat.not_lt_zero, z10, z01, or_true, true_or, or_false, false_or, true_and, false_and, h1]) (st_w (by simp (disch := first | omega | decide) only [lt1, nnMl, nnMr, nnAl, nnAr, nnA, nnM, nnB, nnT, nnP, nnE, nnEl, nnEr, nnL, nnLl, nnLr, nnQ, nnQr, nnN, Nat.add_zero, if_false, if_true, Option.bind_some, not_true, not_false_iff, not_true_eq_false, not_false_eq_true, eq_self, Nat.not_lt_zero, z10, z01, or_true, true_or, or_false, false_or, true_and, false_and, h1]) ?_))))
      rw [nnT (by omega), sc_e, sc_u, sc_e, sc_u, sc_u, show nn x + 1 = nn (x + 1) from nnA x 1, up1_ne (f := a) (show 13 ≠ 16 by decide), up1_ne (f := a) (show 290 + n * 9 + x ≠ 16 by omega)]
      exact r1
    · rw [r2, up1_ne (by omega), up1_ne (by omega), up1_eq, e9, Int32.add_assoc]
    · rw [r3, up1_ne (by omega), up1_eq, e9, Int32.sub_eq_add_neg, Int32.sub_eq_add_neg, Int32.sub_eq_add_neg, Int32.neg_add, Int32.add_assoc, Int32.sub_eq_add_neg]
    · by_cases e : j = 290 + n * 9 + x
      · rw [r5 j (by omega) (by omega) (by omega), e, up1_eq]
      · exact r4 j (by omega) q2
    · rw [r5 j p1 p2 (by omega)]
      exact ea j p1 p2 (by omega)
theorem mLose1 {n : Nat} (hn : n < 14) {v2 : Int32} {F0 : Nat} : ∀ m x F (a : Nat → Int32), x + m = 9 → m < F → ∃ a2, m_broken_70_2 F (nn n) v2 (nn x) (sc s 216 a) = some (1, sc s 216 a2) ∧ a2 23 = a 23 + sumTo (fun i => a (416 + n * 9 + x + i)) m ∧ a2 20 = a 20 - sumTo (fun i => a (416 + n * 9 + x + i)) m ∧ (∀ j, 416 + n * 9 + x ≤ j → j < 416 + n * 9 + 9 → a2 j = 0) ∧ (∀ j, j ≠ 20 → j ≠ 23 → (j < 416 + n * 9 + x ∨ 416 + n * 9 + 9 ≤ j) → a2 j = a j) := by
  intro m
  induction m with
  | zero =>
    intro x F a hx hF
    obtain ⟨F, rfl⟩ : ∃ F2, F = F2 + 1 := ⟨F - 1, by omega⟩
    have : x = 9 := by omega
    subst this
    refine ⟨a, ?_, (Int32.add_zero _).symm, (Int32.sub_zero _).symm, fun j h1 h2 => absurd h1 (by omega), fun j _ _ _ => rfl⟩
    unfold m_broken_70_2
    exact if_pos (by decide)
  | succ m ih =>
    intro x F a hx hF
    obtain ⟨F, rfl⟩ : ∃ F2, F = F2 + 1 := ⟨F - 1, by omega⟩
    have h2 : ¬ 9 ≤ x := by omega
    have h1 : 416 + n * 9 + x < 20360 := by omega
    have h3 : x - x / 9 * 9 = x := by omega
    have e1 : m_wayAt_k1 (nn n) (nn x) (sc s 216 a) = some (nn (416 + n * 9 + x)) := by
      unfold m_wayAt_k1
      rw [show 416 + n * 9 + x = 290 + 9 * (14 + n) + x by omega]
      simp (disch := first | omega | decide) only [lt1, nnMl, nnMr, nnAl, nnAr, nnA, nnM, nnB, nnT, nnP, nnE, nnEl, nnEr, nnL, nnLl, nnLr, nnQ, nnQr, nnN, Nat.add_zero, if_false, if_true, Option.bind_some, not_true, not_false_iff, not_true_eq_false, not_false_eq_true, eq_self, Nat.not_lt_zero, z10, z01, or_true, true_or, or_false, false_or, true_and, false_and, nnDr, nnS, h3]
    have ea : ∀ j, j ≠ 20 → j ≠ 23 → j ≠ 416 + n * 9 + x → up1 (up1 (up1 a 23 (a 23 + a (416 + n * 9 + x))) 20 (a 20 - a (416 + n * 9 + x))) (416 + n * 9 + x) 0 j = a j := fun j p1 p2 p3 => by
      rw [up1_ne p3, up1_ne p1, up1_ne p2]
    have es : sumTo (fun i => up1 (up1 (up1 a 23 (a 23 + a (416 + n * 9 + x))) 20 (a 20 - a (416 + n * 9 + x))) (416 + n * 9 + x) 0 (416 + n * 9 + (x + 1) + i)) m = sumTo (fun i => a (416 + n * 9 + x + (1 + i))) m := sumTo_congr (fun i hi => by
      show up1 _ _ _ _ = a (416 + n * 9 + x + (1 + i))
      rw [show 416 + n * 9 + (x + 1) + i = 416 + n * 9 + x + (1 + i) by omega]
      exact ea _ (by omega) (by omega) (by omega))
    have e9 : sumTo (fun i => a (416 + n * 9 + x + i)) (m + 1) = a (416 + n * 9 + x) + sumTo (fun i => a (416 + n * 9 + x + (1 + i))) m := by
      rw [Nat.add_comm m 1, sumTo_add]
      show 0 + a (416 + n * 9 + x + 0) + _ = _
      rw [Int32.zero_add, Nat.add_zero]
    obtain ⟨a2, r1, r2, r3, r4, r5⟩ := ih (x + 1) F (up1 (up1 (up1 a 23 (a 23 + a (416 + n * 9 + x))) 20 (a 20 - a (416 + n * 9 + x))) (416 + n * 9 + x) 0) (by omega) (by omega)
    rw [es] at r2 r3
    refine ⟨a2, ?_, ?_, ?_, fun j q1 q2 => ?_, fun j p1 p2 q => ?_⟩
    · unfold m_broken_70_2
      refine st_f (by simp (disch := first | omega | decide) only [lt1, nnMl, nnMr, nnAl, nnAr, nnA, nnM, nnB, nnT, nnP, nnE, nnEl, nnEr, nnL, nnLl, nnLr, nnQ, nnQr, nnN, Nat.add_zero, if_false, if_true, Option.bind_some, not_true, not_false_iff, not_true_eq_false, not_false_eq_true, eq_self, Nat.not_lt_zero, z10, z01, or_true, true_or, or_false, false_or, true_and, false_and, h2]) (st_b e1 (st_w (by simp (disch := first | omega | decide) only [lt1, nnMl, nnMr, nnAl, nnAr, nnA, nnM, nnB, nnT, nnP, nnE, nnEl, nnEr, nnL, nnLl, nnLr, nnQ, nnQr, nnN, Nat.add_zero, if_false, if_true, Option.bind_some, not_true, not_false_iff, not_true_eq_false, not_false_eq_true, eq_self, Nat.not_lt_zero, z10, z01, or_true, true_or, or_false, false_or, true_and, false_and, h1]) (st_w (by simp (disch := first | omega | decide) only [lt1, nnMl, nnMr, nnAl, nnAr, nnA, nnM, nnB, nnT, nnP, nnE, nnEl, nnEr, nnL, nnLl, nnLr, nnQ, nnQr, nnN, Nat.add_zero, if_false, if_true, Option.bind_some, not_true, not_false_iff, not_true_eq_false, not_false_eq_true, eq_self, Nat.not_lt_zero, z10, z01, or_true, true_or, or_false, false_or, true_and, false_and, h1]) (st_w (by simp (disch := first | omega | decide) only [lt1, nnMl, nnMr, nnAl, nnAr, nnA, nnM, nnB, nnT, nnP, nnE, nnEl, nnEr, nnL, nnLl, nnLr, nnQ, nnQr, nnN, Nat.add_zero, if_false, if_true, Option.bind_some, not_true, not_false_iff, not_true_eq_false, not_false_eq_true, eq_self, Nat.not_lt_zero, z10, z01, or_true, true_or, or_false, false_or, true_and, false_and, h1]) ?_))))
      rw [nnT (by omega), sc_e, sc_u, sc_e, sc_u, sc_u, show nn x + 1 = nn (x + 1) from nnA x 1, up1_ne (f := a) (show 20 ≠ 23 by decide), up1_ne (f := a) (show 416 + n * 9 + x ≠ 23 by omega)]
      exact r1
    · rw [r2, up1_ne (by omega), up1_ne (by omega), up1_eq, e9, Int32.add_assoc]
    · rw [r3, up1_ne (by omega), up1_eq, e9, Int32.sub_eq_add_neg, Int32.sub_eq_add_neg, Int32.sub_eq_add_neg, Int32.neg_add, Int32.add_assoc, Int32.sub_eq_add_neg]
    · by_cases e : j = 416 + n * 9 + x
      · rw [r5 j (by omega) (by omega) (by omega), e, up1_eq]
      · exact r4 j (by omega) q2
    · rw [r5 j p1 p2 (by omega)]
      exact ea j p1 p2 (by omega)
end SN
section SO
theorem sim_broken {TS : Sg → Prop} (hT : TSf TS) : Sim_broken (RR TS) := by
  intro v1 v2 g hR hb
  obtain ⟨N, C, Q, D, T, L, G, h⟩ := hR.now
  have hC := h.net.hC
  by_cases hn : ∃ n, n < C ∧ v1 = nn n
  rotate_left
  · refine ⟨0, 0, 0, g, g, ?_, ?_, hR⟩
    · unfold x_broken
      exact st_b (hasChan_n h.net hn) (st_t rfl rfl)
    · unfold m_broken
      exact st_b (isOf1_n h.net hn) (st_t rfl rfl)
  obtain ⟨n, hn, rfl⟩ := hn
  have hn14 : n < 14 := by omega
  have k6 : ∀ g1 : Sg, g1 216 = g 216 → m_channelOf_k6 (nn n) g1 = some (g 15 n) := fun g1 e => (chanOf_y (g := g1) hn14 (k := 6) (by decide)).trans (by rw [e, h.net.brk n hn14])
  have of1 : ∀ g1 : Sg, g1 216 = g 216 → m_isOf_k1 (nn n) g1 = some 1 := fun g1 e1 => by
    rw [← isOf1_y h.net hn]; unfold m_isOf_k1 m_isIn; rw [e1]
  have hbv := h.net.brkV n hn14
  by_cases q : g 15 n = v2
  · refine ⟨0, 0, 0, g, g, ?_, ?_, hR⟩
    · unfold x_broken
      refine st_b (hasChan_y h.net hn) (st_f (by decide) (st_t (by simp (disch := first | omega | decide) only [lt1, nnMl, nnMr, nnAl, nnAr, nnA, nnM, nnB, nnT, nnP, nnE, nnEl, nnEr, nnL, nnLl, nnLr, nnQ, nnQr, nnN, Nat.add_zero, if_false, if_true, Option.bind_some, not_true, not_false_iff, not_true_eq_false, not_false_eq_true, eq_self, Nat.not_lt_zero, z10, z01, or_true, true_or, or_false, false_or, true_and, false_and, hn14]) (st_f ?_ rfl)))
      rw [nnT (by omega)]
      exact fun e => e q
    · unfold m_broken
      refine st_b (of1 g rfl) (st_f (by decide) (st_b (k6 g rfl) ?_))
      unfold m_broken_25
      rw [q]
      rcases hb with rfl | rfl
      · exact st_t (by decide) (st_f (fun e => e rfl) rfl)
      · exact st_f (fun e => e rfl) (st_f (fun e => e rfl) rfl)
  have q2 : ¬ g 15 n = v2 := q
  have ev : v2 &&& 1 = v2 := by rcases hb with rfl | rfl <;> rfl
  have j6 : 190 + 7 * n + 6 < 20360 := by omega
  have e6 : (190 + 7 * nn n + 6 : Int32) = nn (190 + 7 * n + 6) := by simp (disch := first | omega | decide) only [lt1, nnMl, nnMr, nnAl, nnAr, nnA, nnM, nnB, nnT, nnP, nnE, nnEl, nnEr, nnL, nnLl, nnLr, nnQ, nnQr, nnN, Nat.add_zero, if_false, if_true, Option.bind_some, not_true, not_false_iff, not_true_eq_false, not_false_eq_true, eq_self, Nat.not_lt_zero, z10, z01, or_true, true_or, or_false, false_or, true_and, false_and]
  have hR0 := h.net.brkU (c' := up2 g 15 n v2) (a' := up1 (g 216) (190 + 7 * n + 6) v2) hn hb (fun i _ _ e => u2n e) u2e up1_eq (fun j _ e => up1_ne e)
  rcases hb with rfl | rfl
  · have hx : x_broken 0 (nn n) 0 g = some (1, up2 g 15 n 0) := by
      unfold x_broken
      refine st_b (hasChan_y h.net hn) (st_f (by decide) (st_t (by simp (disch := first | omega | decide) only [lt1, nnMl, nnMr, nnAl, nnAr, nnA, nnM, nnB, nnT, nnP, nnE, nnEl, nnEr, nnL, nnLl, nnLr, nnQ, nnQr, nnN, Nat.add_zero, if_false, if_true, Option.bind_some, not_true, not_false_iff, not_true_eq_false, not_false_eq_true, eq_self, Nat.not_lt_zero, z10, z01, or_true, true_or, or_false, false_or, true_and, false_and, hn14]) (st_t (by rw [nnT (by omega)]; exact q2) (st_w (by simp (disch := first | omega | decide) only [lt1, nnMl, nnMr, nnAl, nnAr, nnA, nnM, nnB, nnT, nnP, nnE, nnEl, nnEr, nnL, nnLl, nnLr, nnQ, nnQr, nnN, Nat.add_zero, if_false, if_true, Option.bind_some, not_true, not_false_iff, not_true_eq_false, not_false_eq_true, eq_self, Nat.not_lt_zero, z10, z01, or_true, true_or, or_false, false_or, true_and, false_and, hn14]) (st_t rfl ?_)))))
      rw [ev, nnT (by omega)]
    have hm : m_broken 0 (nn n) 0 (up2 g 15 n 0) = some (1, sc (up2 g 15 n 0) 216 (up1 (g 216) (190 + 7 * n + 6) 0)) := by
      unfold m_broken
      refine st_b (of1 _ (u2n (by decide))) (st_f (by decide) (st_b (k6 _ (u2n (by decide))) ?_))
      unfold m_broken_25 m_broken_55
      rw [hbv.resolve_left q2]
      refine st_f (fun e => e rfl) (st_t (by decide) (st_t rfl ?_))
      rw [e6]
      refine st_w (by simp (disch := first | omega | decide) only [lt1, nnMl, nnMr, nnAl, nnAr, nnA, nnM, nnB, nnT, nnP, nnE, nnEl, nnEr, nnL, nnLl, nnLr, nnQ, nnQr, nnN, Nat.add_zero, if_false, if_true, Option.bind_some, not_true, not_false_iff, not_true_eq_false, not_false_eq_true, eq_self, Nat.not_lt_zero, z10, z01, or_true, true_or, or_false, false_or, true_and, false_and, j6]) (st_t rfl ?_)
      rw [nnT (by omega)]
      congr 2
      have := sc_u (g := up2 g 15 n 0) (a := 216) (i := 190 + 7 * n + 6) (f := g 216) (v := 0)
      rw [← this, show sc (up2 g 15 n 0) 216 (g 216) = up2 g 15 n 0 from (congrArg (sc (up2 g 15 n 0) 216) (u2n (g := g) (a := 15) (b := 216) (by decide)).symm).trans sc_s]
    refine ⟨0, 0, 1, _, _, hx, hm, ?_⟩
    refine RR.put hT hR ⟨N, C, Q, D, T, L, G, ?_, ?_, ?_, ?_⟩ ?_ ?_ ?_ ?_
    · rw [sc_e]; exact hR0.fr (fun i _ _ => sc_n (by omega)) (fun j _ => rfl)
    · exact h.rig.fr (fun i _ _ => by rw [sc_n (by omega), u2n (by omega)]) (fun j hj => by rw [sc_e, up1_ne (by unfold iRig at hj; omega)])
    · exact h.law.fr (fun i _ _ => by rw [sc_n (by omega), u2n (by omega)]) (fun j hj => by rw [sc_e, up1_ne (by unfold iLaw at hj; omega)])
    · exact h.gau.fr (fun i _ _ => by rw [sc_n (by omega), u2n (by omega)]) (fun j hj => by rw [sc_e, up1_ne (by unfold iGau at hj; omega)])
    · exact fun i _ _ => by rw [sc_n (by omega), u2n (by omega)]
    · exact fun j _ => by rw [sc_e, up1_ne (by omega)]
    · rw [sc_n (by omega), u2n (by omega)]
    · exact fun i _ _ => by rw [sc_n (by omega), u2n (by omega)]
  · -- class
    obtain ⟨f0, p1, p2, p3⟩ := zeroL0 (s := up2 (up2 g 15 n 1) 21 0 (g 21 0 + sumTo (fun i => g 17 (n * 9 + i)) 9)) hn14 (F0 := 20) 9 0 20 (g 17) (by omega) (by omega)
    obtain ⟨f1, p4, p5, p6⟩ := zeroL1 (s := up2 (sc (up2 (up2 g 15 n 1) 21 0 (g 21 0 + sumTo (fun i => g 17 (n * 9 + i)) 9)) 17 f0) 21 1 (g 21 1 + sumTo (fun i => g 18 (n * 9 + i)) 9)) hn14 9 0 20 (g 18) (by omega) (by omega)
    rw [Nat.add_zero] at p2 p3 p5 p6
    have hx : x_broken 20 (nn n) 1 g = some (1, sc (up2 (sc (up2 (up2 g 15 n 1) 21 0 (g 21 0 + sumTo (fun i => g 17 (n * 9 + i)) 9)) 17 f0) 21 1 (g 21 1 + sumTo (fun i => g 18 (n * 9 + i)) 9)) 18 f1) := by
      unfold x_broken
      refine st_b (hasChan_y h.net hn) (st_f (by decide) (st_t (by simp (disch := first | omega | decide) only [lt1, nnMl, nnMr, nnAl, nnAr, nnA, nnM, nnB, nnT, nnP, nnE, nnEl, nnEr, nnL, nnLl, nnLr, nnQ, nnQr, nnN, Nat.add_zero, if_false, if_true, Option.bind_some, not_true, not_false_iff, not_true_eq_false, not_false_eq_true, eq_self, Nat.not_lt_zero, z10, z01, or_true, true_or, or_false, false_or, true_and, false_and, hn14]) (st_t (by rw [nnT (by omega)]; exact q2) (st_w (by simp (disch := first | omega | decide) only [lt1, nnMl, nnMr, nnAl, nnAr, nnA, nnM, nnB, nnT, nnP, nnE, nnEl, nnEr, nnL, nnLl, nnLr, nnQ, nnQr, nnN, Nat.add_zero, if_false, if_true, Option.bind_some, not_true, not_false_iff, not_true_eq_false, not_false_eq_true, eq_self, Nat.not_lt_zero, z10, z01, or_true, true_or, or_false, false_or, true_and, false_and, hn14]) (st_f (by decide) (st_b ?_ rfl))))))
      rw [ev, nnT (by omega)]
      unfold net_loseUnderWay
      refine st_b (uw0 hn14 (by decide)) (st_l ?_)
      rw [u2n (show 17 ≠ 15 by decide), u2n (show 21 ≠ 15 by decide)]
      have e17 : sc (up2 (up2 g 15 n 1) 21 0 (g 21 0 + sumTo (fun i => g 17 (n * 9 + i)) 9)) 17 (g 17) = up2 (up2 g 15 n 1) 21 0 (g 21 0 + sumTo (fun i => g 17 (n * 9 + i)) 9) := by
        rw [show g 17 = up2 (up2 g 15 n 1) 21 0 (g 21 0 + sumTo (fun i => g 17 (n * 9 + i)) 9) 17 by rw [u2n (by decide), u2n (by decide)]]
        exact sc_s
      rw [e17] at p1
      refine p1.trans (st_b (uw1 hn14 (by decide)) (st_l ?_))
      rw [sc_n (show 18 ≠ 17 by decide), u2n (show 18 ≠ 21 by decide), u2n (show 18 ≠ 15 by decide), sc_n (show 21 ≠ 17 by decide), u2e, up1_ne (show 1 ≠ 0 by decide), u2n (show 21 ≠ 15 by decide)]
      have e18 : sc (up2 (sc (up2 (up2 g 15 n 1) 21 0 (g 21 0 + sumTo (fun i => g 17 (n * 9 + i)) 9)) 17 f0) 21 1 (g 21 1 + sumTo (fun i => g 18 (n * 9 + i)) 9)) 18 (g 18) = up2 (sc (up2 (up2 g 15 n 1) 21 0 (g 21 0 + sumTo (fun i => g 17 (n * 9 + i)) 9)) 17 f0) 21 1 (g 21 1 + sumTo (fun i => g 18 (n * 9 + i)) 9) := by
        rw [show g 18 = up2 (sc (up2 (up2 g 15 n 1) 21 0 (g 21 0 + sumTo (fun i => g 17 (n * 9 + i)) 9)) 17 f0) 21 1 (g 21 1 + sumTo (fun i => g 18 (n * 9 + i)) 9) 18 by rw [u2n (by decide), sc_n (by decide), u2n (by decide), u2n (by decide)]]
        exact sc_s
      rw [e18] at p4
      exact p4
    generalize hg1 : sc (up2 (sc (up2 (up2 g 15 n 1) 21 0 (g 21 0 + sumTo (fun i => g 17 (n * 9 + i)) 9)) 17 f0) 21 1 (g 21 1 + sumTo (fun i => g 18 (n * 9 + i)) 9)) 18 f1 = g1 at hx
    have E : ∀ i, i ≠ 15 → i ≠ 17 → i ≠ 18 → i ≠ 21 → g1 i = g i := fun i e1 e2 e3 e4 => by
      rw [← hg1, sc_n e3, u2n e4, sc_n e2, u2n e4, u2n e1]
    -- model
    obtain ⟨a2, m1, m2, m3, m4, m5⟩ := mLose0 (s := g1) hn14 (v2 := 1) (F0 := 20) 9 0 20 (up1 (g 216) (190 + 7 * n + 6) 1) (by omega) (by omega)
    obtain ⟨a3, m6, m7, m8, m9, m10⟩ := mLose1 (s := g1) hn14 (v2 := 1) (F0 := 20) 9 0 20 a2 (by omega) (by omega)
    have hm : m_broken 20 (nn n) 1 g1 = some (1, sc g1 216 a3) := by
      have e216 := E 216 (by decide) (by decide) (by decide) (by decide)
      unfold m_broken
      refine st_b (of1 _ e216) (st_f (by decide) (st_b (k6 _ e216) ?_))
      unfold m_broken_25 m_broken_55
      rw [hbv.resolve_right q2]
      refine st_t (by decide) (st_t (by decide) (st_f (by decide) ?_))
      rw [e6]
      refine st_w (by simp (disch := first | omega | decide) only [lt1, nnMl, nnMr, nnAl, nnAr, nnA, nnM, nnB, nnT, nnP, nnE, nnEl, nnEr, nnL, nnLl, nnLr, nnQ, nnQr, nnN, Nat.add_zero, if_false, if_true, Option.bind_some, not_true, not_false_iff, not_true_eq_false, not_false_eq_true, eq_self, Nat.not_lt_zero, z10, z01, or_true, true_or, or_false, false_or, true_and, false_and, j6]) (st_f (by decide) ?_)
      rw [nnT (by omega)]
      have e9 : up2 g1 216 (190 + 7 * n + 6) 1 = sc g1 216 (up1 (g 216) (190 + 7 * n + 6) 1) := by
        rw [← e216, ← sc_u, sc_s]
      rw [e9]
      exact m1.trans ((if_neg (by decide)).trans m6)
    refine ⟨20, 20, 1, _, _, hx, hm, ?_⟩
    have R1 := hR0.lose0 (c' := sc (up2 (up2 g 15 n 1) 21 0 (g 21 0 + sumTo (fun i => g 17 (n * 9 + i)) 9)) 17 f0) (a' := a2) hn (fun i _ _ e1 e2 => by rw [sc_n e1, u2n e2]) (by rw [sc_e]; exact p2) (by rw [sc_e, u2n (by decide)]; exact p3) (by rw [sc_n (by decide), u2e, u2n (show 21 ≠ 15 by decide), u2n (show 17 ≠ 15 by decide)]) m3 m2 m4 m5
    have R2 := R1.lose1 (c' := g1) (a' := a3) hn (fun i _ _ e1 e2 => by rw [← hg1, sc_n e1, u2n e2]) (by rw [← hg1, sc_e]; exact p5) (by rw [← hg1, sc_e, sc_n (by decide), u2n (by decide), u2n (by decide)]; exact p6) (by rw [← hg1, sc_n (by decide), u2e, sc_n (show 21 ≠ 17 by decide), sc_n (show 18 ≠ 17 by decide), u2n (show 18 ≠ 21 by decide), u2n (show 18 ≠ 15 by decide), u2e, up1_ne (show 1 ≠ 0 by decide), u2n (show 21 ≠ 15 by decide)]) m8 m7 m9 m10
    have A3 : ∀ j, j ≠ 13 → j ≠ 16 → j ≠ 20 → j ≠ 23 → (j < 190 ∨ 542 ≤ j) → a3 j = g 216 j := fun j e1 e2 e3 e4 e5 => by
      rw [m10 j e3 e4 (by omega), m5 j e1 e2 (by omega), up1_ne (by omega)]
    refine RR.put hT hR ⟨N, C, Q, D, T, L, G, ?_, ?_, ?_, ?_⟩ ?_ ?_ ?_ ?_
    · rw [sc_e]; exact R2.fr (fun i _ _ => sc_n (by omega)) (fun j _ => rfl)
    · exact h.rig.fr (fun i _ _ => by rw [sc_n (by omega), E i (by omega) (by omega) (by omega) (by omega)]) (fun j hj => by unfold iRig at hj; rw [sc_e, A3 j (by omega) (by omega) (by omega) (by omega) (by omega)])
    · exact h.law.fr (fun i _ _ => by rw [sc_n (by omega), E i (by omega) (by omega) (by omega) (by omega)]) (fun j hj => by unfold iLaw at hj; rw [sc_e, A3 j (by omega) (by omega) (by omega) (by omega) (by omega)])
    · exact h.gau.fr (fun i _ _ => by rw [sc_n (by omega), E i (by omega) (by omega) (by omega) (by omega)]) (fun j hj => by unfold iGau at hj; rw [sc_e, A3 j (by omega) (by omega) (by omega) (by omega) (by omega)])
    · exact fun i _ _ => by rw [sc_n (by omega), E i (by omega) (by omega) (by omega) (by omega)]
    · exact fun j _ => by rw [sc_e, A3 j (by omega) (by omega) (by omega) (by omega) (by omega)]
    · rw [sc_n (by omega), E 217 (by omega) (by omega) (by omega) (by omega)]
    · exact fun i _ _ => by rw [sc_n (by omega), E i (by omega) (by omega) (by omega) (by omega)]
end SO
