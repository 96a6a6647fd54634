/-! the beginning of an hour -/
theorem bst_5 {c : Sg} {f : Nat → Int32} {V : Nat → Nat} {t v : Nat} : ∀ j, bst (sc c 5 f) V t v j = bst c V t v j
  | 0 => rfl
  | j + 1 => by
    have ih := bst_5 (c := c) (f := f) (V := V) (t := t) (v := v) j
    show (if sc c 5 f 9 j = nn v ∧ sc c 5 f 15 j = 0 ∧ cn (sc c 5 f) 10 j ≤ t ∧ V (cn (sc c 5 f) 10 j) < 1000000 ∧ 100 * cn (sc c 5 f) 13 j + 1 + V (cn (sc c 5 f) 10 j) < (bst (sc c 5 f) V t v j).2 then (some j, 100 * cn (sc c 5 f) 13 j + 1 + V (cn (sc c 5 f) 10 j)) else bst (sc c 5 f) V t v j) = _
    rw [ih]
    rfl
theorem tab_5 {c : Sg} {f : Nat → Int32} {C t : Nat} : ∀ k, tab (sc c 5 f) C t k = tab c C t k
  | 0 => rfl
  | k + 1 => by
    show upT (tab (sc c 5 f) C t k) (t - (k + 1)) (bst (sc c 5 f) (fun u => (tab (sc c 5 f) C t k u).2) t (t - (k + 1)) C) = _
    rw [tab_5 k, bst_5]
    rfl
section WG
variable {N C Q D : Nat}
theorem gates_y {c S M : Sg} {t : Nat} (htN : t < N) (hS : ∀ i, 2 ≤ i → i ≤ 21 → i ≠ 5 → S i = c i) (hst : S 187 3 = nn t) (hS9 : ∀ u, u < 10 → S 190 u = oN (tab c C t t u).1) (hM : ∀ u, u < 10 → M 218 u = nn (tab c C t t u).2) {F0 : Nat} (hF0 : 14 < F0) : ∀ m p k f A F G, m = (tab c C t t p).2 % 100 → p ≤ t → (tab c C t t p).2 < 1000000 → k + m ≤ 10 → m < F → m < G → RNet (sc c 5 f) A N C Q → ∃ f2 A2, ways_turnGates_5 F (nn p) (nn k) (sc S 5 f) = some (sc S 5 f2) ∧ m_opens_16 F0 G (nn t) (nn p) (sc M 216 A) = some (sc M 216 A2) ∧ RNet (sc c 5 f2) A2 N C Q ∧ ∀ j, ¬ iNet j → A2 j = A j := by
  intro m
  induction m with
  | zero =>
    intro p k f A F G hm hp hr hk hF hG h
    obtain ⟨F, rfl⟩ : ∃ F2, F = F2 + 1 := ⟨F - 1, by omega⟩
    obtain ⟨G, rfl⟩ : ∃ F2, G = F2 + 1 := ⟨G - 1, by omega⟩
    have hN := h.hN
    have hw : RNet (sc c 5 f) ((sc M 216 A) 216) N C Q := by rw [sc_e]; exact h
    have : p = t := by
      by_cases q : p < t
      · obtain ⟨j, j1, j2, j3, j4, j5, j6, j7, j8, j9⟩ := way_st (s := sc M 216 A) hw (show t < 10 by omega) q (by rw [tab_5]; exact hr)
        rw [tab_5] at j8
        omega
      · omega
    subst this
    refine ⟨f, A, ?_, ?_, h, fun _ _ => rfl⟩
    · unfold ways_turnGates_5
      rw [sc_n (show 187 ≠ 5 by decide), hst]
      by_cases q : 10 ≤ nn k
      · exact st_t q rfl
      · exact st_f q (st_t rfl rfl)
    · unfold m_opens_16
      exact st_t rfl rfl
  | succ m ih =>
    intro p k f A F G hm hp hr hk hF hG h
    obtain ⟨F, rfl⟩ : ∃ F2, F = F2 + 1 := ⟨F - 1, by omega⟩
    obtain ⟨G, rfl⟩ : ∃ F2, G = F2 + 1 := ⟨G - 1, by omega⟩
    have hN := h.hN
    have hC := h.hC
    have hw : RNet (sc c 5 f) ((sc M 216 A) 216) N C Q := by rw [sc_e]; exact h
    have hpt : p < t := by
      by_cases q : p = t
      · have := tab_t0 (s := sc M 216 A) hw (show t < 10 by omega)
        rw [tab_5] at this
        rw [q, this] at hm
        omega
      · omega
    obtain ⟨j, j1, j2, j3, j4, j5, j6, j7, j8, j9⟩ := way_st (s := sc M 216 A) hw (show t < 10 by omega) hpt (by rw [tab_5]; exact hr)
    rw [tab_5] at j2 j7 j8
    have e10 : cn (sc c 5 f) 10 j = cn c 10 j := rfl
    rw [e10] at j4 j5 j6 j7 j8
    have hj14 : j < 14 := by omega
    have hp10 : p < 10 := by omega
    have i2 : 140 + 5 * p + 2 < 20360 := by omega
    have hR : RNet (sc c 5 (up1 f p (nn j))) (up1 A (140 + 5 * p + 2) (nn j)) N C Q := h.gateU (n := p) (v := nn j) hp10 (Or.inr ⟨j, j1, rfl, j3⟩) (fun i e1 e2 e3 => by rw [sc_n e3, sc_n e3]) (by rw [sc_e, sc_e]) (fun i e1 e2 => up1_ne e2) up1_eq
    obtain ⟨f2, A2, r1, r2, r3, r4⟩ := ih (cn c 10 j) (k + 1) (up1 f p (nn j)) (up1 A (140 + 5 * p + 2) (nn j)) F G (by omega) j4 j7 (by omega) (by omega) (by omega) hR
    have hk10 : ¬ 10 ≤ k := by omega
    refine ⟨f2, A2, ?_, ?_, r3, fun i e => by rw [r4 i e, up1_ne (by unfold iNet at e; omega)]⟩
    · unfold ways_turnGates_5
      rw [sc_n (show 187 ≠ 5 by decide), hst, sc_n (show 190 ≠ 5 by decide), nnT (show p < 2147483648 by omega), hS9 p hp10, j2, show oN (some j) = nn j from rfl, show nn k + 1 = nn (k + 1) from nnA k 1]
      refine st_f (by simp (disch := first | omega | decide) only [lt1, nnMl, nnMr, nnAl, nnAr, nnA, nnM, nnB, nnT, nnP, nnE, nnEl, nnEr, nnL, nnLl, nnLr, nnQ, nnQr, nnN, Nat.add_zero, if_false, if_true, Option.bind_some, not_true, not_false_iff, not_true_eq_false, not_false_eq_true, eq_self, Nat.not_lt_zero, z10, z01, or_true, true_or, or_false, false_or, true_and, false_and, hk10]) (st_f (nnNe (by omega) (by omega) (by omega)) (st_b (hN_y (by rw [sc_n (by decide), hS 2 (by decide) (by decide) (by decide)]; exact h.cN) hN (by omega)) (st_f (by decide) (st_w (by simp (disch := first | omega | decide) only [lt1, nnMl, nnMr, nnAl, nnAr, nnA, nnM, nnB, nnT, nnP, nnE, nnEl, nnEr, nnL, nnLl, nnLr, nnQ, nnQr, nnN, Nat.add_zero, if_false, if_true, Option.bind_some, not_true, not_false_iff, not_true_eq_false, not_false_eq_true, eq_self, Nat.not_lt_zero, z10, z01, or_true, true_or, or_false, false_or, true_and, false_and, hp10]) ?_))))
      rw [sc_u]
      refine (st_w (by simp (disch := first | omega | decide) only [lt1, nnMl, nnMr, nnAl, nnAr, nnA, nnM, nnB, nnT, nnP, nnE, nnEl, nnEr, nnL, nnLl, nnLr, nnQ, nnQr, nnN, Nat.add_zero, if_false, if_true, Option.bind_some, not_true, not_false_iff, not_true_eq_false, not_false_eq_true, eq_self, Nat.not_lt_zero, z10, z01, or_true, true_or, or_false, false_or, true_and, false_and, hp10]) (st_b (hC_y (by rw [sc_n (by decide), hS 2 (by decide) (by decide) (by decide)]; exact h.cC) hC j1) (st_f (by decide) (st_w (by simp (disch := first | omega | decide) only [lt1, nnMl, nnMr, nnAl, nnAr, nnA, nnM, nnB, nnT, nnP, nnE, nnEl, nnEr, nnL, nnLl, nnLr, nnQ, nnQr, nnN, Nat.add_zero, if_false, if_true, Option.bind_some, not_true, not_false_iff, not_true_eq_false, not_false_eq_true, eq_self, Nat.not_lt_zero, z10, z01, or_true, true_or, or_false, false_or, true_and, false_and, hj14]) ?_))))
      rw [sc_n (show 10 ≠ 5 by decide), hS 10 (by decide) (by decide) (by decide), nnT (show j < 2147483648 by omega), show c 10 j = nn (cn c 10 j) from j6]
      exact r1
    · have e2 : 140 + 5 * nn p + 2 = nn (140 + 5 * p + 2) := by simp (disch := first | omega | decide) only [lt1, nnMl, nnMr, nnAl, nnAr, nnA, nnM, nnB, nnT, nnP, nnE, nnEl, nnEr, nnL, nnLl, nnLr, nnQ, nnQr, nnN, Nat.add_zero, if_false, if_true, Option.bind_some, not_true, not_false_iff, not_true_eq_false, not_false_eq_true, eq_self, Nat.not_lt_zero, z10, z01, or_true, true_or, or_false, false_or, true_and, false_and]
      unfold m_opens_16
      rw [e2, nnT (show 140 + 5 * p + 2 < 2147483648 by omega)]
      refine st_f (nnNe (by omega) (by omega) (by omega)) (st_b (j9 hw (e := M 218) (fun x hx => by rw [tab_5]; exact hM x hx) (sc_n (by decide)) hF0) ?_)
      rw [sc_u]
      refine (st_w (by simp (disch := first | omega | decide) only [lt1, nnMl, nnMr, nnAl, nnAr, nnA, nnM, nnB, nnT, nnP, nnE, nnEl, nnEr, nnL, nnLl, nnLr, nnQ, nnQr, nnN, Nat.add_zero, if_false, if_true, Option.bind_some, not_true, not_false_iff, not_true_eq_false, not_false_eq_true, eq_self, Nat.not_lt_zero, z10, z01, or_true, true_or, or_false, false_or, true_and, false_and, i2]) ?_)
      refine st_b (mch1 (c := sc c 5 (up1 f p (nn j))) (s := sc M 216 (up1 A (140 + 5 * p + 2) (nn j))) (by rw [sc_e]; exact hR) hj14) ?_
      rw [show (sc c 5 (up1 f p (nn j))) 10 j = nn (cn c 10 j) from j6]
      exact r2
theorem RRig.tick {c : Sg} {a : Nat → Int32} (h : RRig c a D N Q) (hq : ¬ Q % 4 = 0) : RRig c a D N (Q + 1) := by
  apply RRig.mk
  case hD => exact h.hD
  case cD => exact h.cD
  case aD => exact h.aD
  case home => exact h.home
  case homeV => exact h.homeV
  case d0 => exact h.d0
  case d1 => exact h.d1
  case d2 => exact h.d2
  case d3 => exact h.d3
  case d4 => exact h.d4
  case d5 => exact h.d5
  case dFL => exact h.dFL
  case dW => exact h.dW
  case dS => exact h.dS
  case dY => 
    intro d hd
    obtain ⟨y, h1, h2⟩ := h.dY d hd
    exact ⟨y, by omega, h2⟩
  case dV => 
    intro d hd
    rcases h.dV d hd with e | ⟨y, h1, h2⟩
    · exact Or.inl e
    · exact Or.inr ⟨y, by omega, h2⟩
  case cR => rw [show (Q + 1 + 3) / 4 = (Q + 3) / 4 by omega]; exact h.cR
  case aR => rw [show (Q + 1 + 3) / 4 = (Q + 3) / 4 by omega]; exact h.aR
  case runs => exact h.runs
  case runV => exact h.runV
theorem RRig.hour {c c' : Sg} {a a' : Nat → Int32} {w : Int32} (h : RRig c a D N Q) (hq : Q % 4 = 0) (hQ : Q < 9599) (hw : w = -1 ∨ ∃ n, n < 8 ∧ w = nn n) (hc : ∀ i, 22 ≤ i → i ≤ 30 → i ≠ 22 → i ≠ 30 → c' i = c i) (e22 : c' 22 = up1 (c 22) 8 (nn (Q / 4 + 1))) (e30 : c' 30 = up1 (c 30) (Q / 4) w) (a6 : a' 6 = nn (Q / 4 + 1)) (b : a' (1870 + Q / 4) = w) (ha : ∀ j, iRig j → j ≠ 6 → j ≠ 1870 + Q / 4 → a' j = a j) : RRig c' a' D N (Q + 1) := by
  have e23 := hc 23 (by decide) (by decide) (by decide) (by decide)
  have e24 := hc 24 (by decide) (by decide) (by decide) (by decide)
  have e25 := hc 25 (by decide) (by decide) (by decide) (by decide)
  have e26 := hc 26 (by decide) (by decide) (by decide) (by decide)
  have e27 := hc 27 (by decide) (by decide) (by decide) (by decide)
  have e28 := hc 28 (by decide) (by decide) (by decide) (by decide)
  have e29 := hc 29 (by decide) (by decide) (by decide) (by decide)
  have A := ha
  apply RRig.mk
  case hD => exact h.hD
  case cD => rw [e22, up1_ne (by decide)]; exact h.cD
  case aD => rw [A _ (by unfold iRig; omega) (by omega) (by omega)]; exact h.aD
  case home => intro n hn; rw [A _ (by unfold iRig; omega) (by omega) (by omega), e23]; exact h.home n hn
  case homeV => rw [e23]; exact h.homeV
  case d0 => intro n hn; rw [A _ (by unfold iRig; omega) (by omega) (by omega), e24]; exact h.d0 n hn
  case d1 => intro n hn; rw [A _ (by unfold iRig; omega) (by omega) (by omega), e25]; exact h.d1 n hn
  case d2 => intro n hn; rw [A _ (by unfold iRig; omega) (by omega) (by omega), e26]; exact h.d2 n hn
  case d3 => intro n hn; rw [A _ (by unfold iRig; omega) (by omega) (by omega), e27]; exact h.d3 n hn
  case d4 => intro n hn; rw [A _ (by unfold iRig; omega) (by omega) (by omega), e28]; exact h.d4 n hn
  case d5 => intro n hn; rw [A _ (by unfold iRig; omega) (by omega) (by omega), e29]; exact h.d5 n hn
  case dFL => rw [e24, e25]; exact h.dFL
  case dW => rw [e26]; exact h.dW
  case dS => rw [e27]; exact h.dS
  case dY => 
    intro d hd
    rw [e28]
    obtain ⟨y, h1, h2⟩ := h.dY d hd
    exact ⟨y, by omega, h2⟩
  case dV => 
    intro d hd
    rw [e29]
    rcases h.dV d hd with e | ⟨y, h1, h2⟩
    · exact Or.inl e
    · exact Or.inr ⟨y, by omega, h2⟩
  case cR => rw [e22, up1_eq, show (Q + 1 + 3) / 4 = Q / 4 + 1 by omega]
  case aR => rw [a6, show (Q + 1 + 3) / 4 = Q / 4 + 1 by omega]
  case runs => 
    intro i hi
    rw [e30]
    by_cases e : i = Q / 4
    · subst e; rw [up1_eq]; exact b
    · rw [up1_ne e, A _ (by unfold iRig; omega) (by omega) (by omega)]; exact h.runs i hi
  case runV => 
    intro i hi
    rw [e30]
    by_cases e : i = Q / 4
    · subst e; rw [up1_eq]; exact hw
    · rw [up1_ne e]; exact h.runV i hi
theorem byte_own {w : Int32} (hw : w = -1 ∨ ∃ n, n < 8 ∧ w = nn n) : w.toInt8.toInt32.toInt8.toInt32 = w := by
  rcases hw with rfl | ⟨n, hn, rfl⟩
  · rfl
  · have : n = 0 ∨ n = 1 ∨ n = 2 ∨ n = 3 ∨ n = 4 ∨ n = 5 ∨ n = 6 ∨ n = 7 := by omega
    rcases this with rfl | rfl | rfl | rfl | rfl | rfl | rfl | rfl <;> rfl
theorem today_x2 {g : Sg} {a : Nat → Int32} {N C Q : Nat} (h : RNet g a N C Q) : x_today g = some (nn (Q / 96)) := by
  have := h.hQ
  unfold x_today
  rw [h.cQ]
  simp (disch := first | omega | decide) only [lt1, nnMl, nnMr, nnAl, nnAr, nnA, nnM, nnB, nnT, nnP, nnE, nnEl, nnEr, nnL, nnLl, nnLr, nnQ, nnQr, nnN, Nat.add_zero, if_false, if_true, Option.bind_some, not_true, not_false_iff, not_true_eq_false, not_false_eq_true, eq_self, Nat.not_lt_zero, z10, z01, or_true, true_or, or_false, false_or, true_and, false_and, nnDr]
def FrB (M M2 : Sg) : Prop := (∀ i, i ≠ 216 → i ≠ 218 → M2 i = M i) ∧ ∀ j, ¬ iNet j → ¬ iRig j → M2 216 j = M 216 j
theorem FrB.t {g g2 g3 : Sg} (h : FrB g g2) (h2 : FrB g2 g3) : FrB g g3 := ⟨fun i a b => (h2.1 i a b).trans (h.1 i a b), fun j a b => (h2.2 j a b).trans (h.2 j a b)⟩
theorem FrM.b {g g2 : Sg} (h : FrM g g2) : FrB g g2 := ⟨fun i a _ => h.1 i a, fun j a _ => h.2 j a⟩
def FrX (g g2 : Sg) : Prop := ∀ i, 31 ≤ i → i ≠ 187 → i ≠ 188 → i ≠ 189 → i ≠ 190 → g2 i = g i
theorem hour_y {g M : Sg} (h : RNet g (M 216) N C Q) (r : RRig g (M 216) D N Q) (hq : Q % 4 = 0) (hQ : Q < 9599) {F G : Nat} (hF : 200 < F) (hG : 200 < G) : ∃ g2 M2, x_beginHour F g = some g2 ∧ m_begins G M = some M2 ∧ RNet g2 (M2 216) N C Q ∧ RRig g2 (M2 216) D N (Q + 1) ∧ FrX g g2 ∧ FrB M M2 := by
  have hN := h.hN
  have hC := h.hC
  have hD := r.hD
  have eH : (Q + 3) / 4 = Q / 4 := by omega
  have hH : Q / 4 < 2400 := by omega
  have hH2 : 1870 + Q / 4 < 20360 := by omega
  have hH3 : ¬ 2400 ≤ Q / 4 := by omega
  have e1 : nn Q / 4 = nn (Q / 4) := by simp (disch := first | omega | decide) only [lt1, nnMl, nnMr, nnAl, nnAr, nnA, nnM, nnB, nnT, nnP, nnE, nnEl, nnEr, nnL, nnLl, nnLr, nnQ, nnQr, nnN, Nat.add_zero, if_false, if_true, Option.bind_some, not_true, not_false_iff, not_true_eq_false, not_false_eq_true, eq_self, Nat.not_lt_zero, z10, z01, or_true, true_or, or_false, false_or, true_and, false_and, nnDr]
  have e2 : nn (Q / 4) - nn (Q / 4) / 168 * 168 = nn (Q / 4 % 168) := by
    have e : nn (Q / 4) / 168 * 168 = nn (Q / 4 / 168 * 168) := by simp (disch := first | omega | decide) only [lt1, nnMl, nnMr, nnAl, nnAr, nnA, nnM, nnB, nnT, nnP, nnE, nnEl, nnEr, nnL, nnLl, nnLr, nnQ, nnQr, nnN, Nat.add_zero, if_false, if_true, Option.bind_some, not_true, not_false_iff, not_true_eq_false, not_false_eq_true, eq_self, Nat.not_lt_zero, z10, z01, or_true, true_or, or_false, false_or, true_and, false_and, nnDr]
    rw [e, nnS (a := Q / 4) (b := Q / 4 / 168 * 168) (by omega), show Q / 4 - Q / 4 / 168 * 168 = Q / 4 % 168 by omega]
  have e3 : nn (Q / 4) / 168 = nn (Q / 4 / 168) := by simp (disch := first | omega | decide) only [lt1, nnMl, nnMr, nnAl, nnAr, nnA, nnM, nnB, nnT, nnP, nnE, nnEl, nnEr, nnL, nnLl, nnLr, nnQ, nnQr, nnN, Nat.add_zero, if_false, if_true, Option.bind_some, not_true, not_false_iff, not_true_eq_false, not_false_eq_true, eq_self, Nat.not_lt_zero, z10, z01, or_true, true_or, or_false, false_or, true_and, false_and, nnDr]
  have hw := ownS_v r (x := nn (Q / 4 % 168)) (w := nn (Q / 4 / 168)) (k := nn (Q / 96))
  have ox := own_x r (x := nn (Q / 4 % 168)) (w := nn (Q / 4 / 168)) (k := nn (Q / 96)) (F := F) (by omega)
  have om := own_m r h.hQ (x := nn (Q / 4 % 168)) (w := nn (Q / 4 / 168)) (k := nn (Q / 96)) (nnE0 (by omega)) (F := G) (by omega)
  generalize ownS g (nn (Q / 4 % 168)) (nn (Q / 4 / 168)) (nn (Q / 96)) D = w at *
  generalize hg4 : up2 (up2 g 30 (Q / 4) w) 22 8 (nn (Q / 4 + 1)) = g4
  generalize hM5 : up2 (up2 M 216 (1870 + Q / 4) w) 216 6 (nn (Q / 4 + 1)) = M5
  have kx : rights_keepRun w g = some g4 := by
    unfold rights_keepRun
    rw [r.cR, eH, byte_own hw]
    refine st_f (by simp (disch := first | omega | decide) only [lt1, nnMl, nnMr, nnAl, nnAr, nnA, nnM, nnB, nnT, nnP, nnE, nnEl, nnEr, nnL, nnLl, nnLr, nnQ, nnQr, nnN, Nat.add_zero, if_false, if_true, Option.bind_some, not_true, not_false_iff, not_true_eq_false, not_false_eq_true, eq_self, Nat.not_lt_zero, z10, z01, or_true, true_or, or_false, false_or, true_and, false_and, hH3]) (st_w (by simp (disch := first | omega | decide) only [lt1, nnMl, nnMr, nnAl, nnAr, nnA, nnM, nnB, nnT, nnP, nnE, nnEl, nnEr, nnL, nnLl, nnLr, nnQ, nnQr, nnN, Nat.add_zero, if_false, if_true, Option.bind_some, not_true, not_false_iff, not_true_eq_false, not_false_eq_true, eq_self, Nat.not_lt_zero, z10, z01, or_true, true_or, or_false, false_or, true_and, false_and, hH]) (st_l ?_))
    rw [nnT (by omega), u2n (show 22 ≠ 30 by decide), r.cR, eH, show nn (Q / 4) + 1 = nn (Q / 4 + 1) from nnA _ 1, hg4]
  have fg4 : ∀ i, i ≠ 22 → i ≠ 30 → g4 i = g i := fun i p1 p2 => by rw [← hg4, u2n p1, u2n p2]
  have fM5 : FrB M M5 := by
    rw [← hM5]
    exact ⟨fun i p1 _ => by rw [u2n p1, u2n p1], fun j p1 p2 => by rw [u2e, up1_ne (by unfold iRig at p2; omega), u2e, up1_ne (by unfold iRig at p2; omega)]⟩
  have h4 : RNet g4 (M5 216) N C Q := h.fr (fun i p1 p2 => fg4 i (by omega) (by omega)) (fun j hj => by rw [← hM5, u2e, up1_ne (by unfold iNet at hj; omega), u2e, up1_ne (by unfold iNet at hj; omega)])
  have r4 : RRig g4 (M5 216) D N (Q + 1) := r.hour hq hQ hw (fun i _ _ p1 p2 => fg4 i p1 p2) (by rw [← hg4, u2e, u2n (by decide)]) (by rw [← hg4, u2n (by decide), u2e]) (by rw [← hM5, u2e, up1_eq]) (by rw [← hM5, u2e, up1_ne (by omega), u2e, up1_eq]) (fun j _ p1 p2 => by rw [← hM5, u2e, up1_ne p1, u2e, up1_ne p2])
  -- the two sides so far
  have X : ∀ r2, (Option.bind (x_isHolder w g4) (fun x5 => (if x5 = 0 then (some g4) else (if inb w 8 = true then Option.bind (ways_find F 0 (g4 23 (Int32.toNatClampNeg w)) g4) (fun (x6, g7) => (if x6 = 0 then (some g7) else Option.bind (ways_turnGates F 0 g7) (fun g8 => (some g8)))) else none)))) = some r2 → x_beginHour F g = some r2 := fun r2 hr => by
    unfold x_beginHour
    rw [h.cQ, e1]
    refine st_l ?_
    rw [e2, e3]
    exact (st_b (today_x2 h) (st_b ox (st_b kx hr)))
  have Y : ∀ r2, (if w < 0 then some M5 else (if inb (30 + w) 20360 = true then Option.bind (m_opens G (M5 216 (Int32.toNatClampNeg (30 + w))) M5) (fun g6 => (some g6)) else none)) = some r2 → m_begins G M = some r2 := fun r2 hr => by
    unfold m_begins
    have e9 : (1870 + nn (Q / 4) : Int32) = nn (1870 + Q / 4) := by simp (disch := first | omega | decide) only [lt1, nnMl, nnMr, nnAl, nnAr, nnA, nnM, nnB, nnT, nnP, nnE, nnEl, nnEr, nnL, nnLl, nnLr, nnQ, nnQr, nnN, Nat.add_zero, if_false, if_true, Option.bind_some, not_true, not_false_iff, not_true_eq_false, not_false_eq_true, eq_self, Nat.not_lt_zero, z10, z01, or_true, true_or, or_false, false_or, true_and, false_and]
    rw [h.aQ, e1]
    refine st_l ?_
    rw [e2, e3, e9]
    refine st_b (today_m h.aQ h.hQ) (st_b om (st_w (by simp (disch := first | omega | decide) only [lt1, nnMl, nnMr, nnAl, nnAr, nnA, nnM, nnB, nnT, nnP, nnE, nnEl, nnEr, nnL, nnLl, nnLr, nnQ, nnQr, nnN, Nat.add_zero, if_false, if_true, Option.bind_some, not_true, not_false_iff, not_true_eq_false, not_false_eq_true, eq_self, Nat.not_lt_zero, z10, z01, or_true, true_or, or_false, false_or, true_and, false_and, hH2]) (st_l ?_)))
    rw [ nnT (by omega), show nn (Q / 4) + 1 = nn (Q / 4 + 1) from nnA _ 1, hM5]
    exact hr
  have fx4 : FrX g g4 := fun i p1 _ _ _ _ => fg4 i (by omega) (by omega)
  rcases hw with rfl | ⟨o, ho, rfl⟩
  · exact ⟨g4, M5, X _ (st_b holder_neg (st_t rfl rfl)), Y _ (st_t (by decide) rfl), h4, r4, fx4, fM5⟩
  have ho9 : 30 + o < 20360 := by omega
  have e30 : (30 + nn o : Int32) = nn (30 + o) := by simp (disch := first | omega | decide) only [lt1, nnMl, nnMr, nnAl, nnAr, nnA, nnM, nnB, nnT, nnP, nnE, nnEl, nnEr, nnL, nnLl, nnLr, nnQ, nnQr, nnN, Nat.add_zero, if_false, if_true, Option.bind_some, not_true, not_false_iff, not_true_eq_false, not_false_eq_true, eq_self, Nat.not_lt_zero, z10, z01, or_true, true_or, or_false, false_or, true_and, false_and]
  have hhome : M5 216 (30 + o) = g4 23 o := r4.home o ho
  have h0 : ¬ nn o < 0 := by rw [nnP (by omega)]; exact id
  have none_case : ∀ v, g4 23 o = v → noWay N 0 v → ∃ g2 M2, x_beginHour F g = some g2 ∧ m_begins G M = some M2 ∧ RNet g2 (M2 216) N C Q ∧ RRig g2 (M2 216) D N (Q + 1) ∧ FrX g g2 ∧ FrB M M2 := fun v hv hn => by
    refine ⟨g4, M5, X _ (st_b (holder_y ho) (st_f (by decide) (st_t (by simp (disch := first | omega | decide) only [lt1, nnMl, nnMr, nnAl, nnAr, nnA, nnM, nnB, nnT, nnP, nnE, nnEl, nnEr, nnL, nnLl, nnLr, nnQ, nnQr, nnN, Nat.add_zero, if_false, if_true, Option.bind_some, not_true, not_false_iff, not_true_eq_false, not_false_eq_true, eq_self, Nat.not_lt_zero, z10, z01, or_true, true_or, or_false, false_or, true_and, false_and, ho]) ?_))), Y _ (st_f h0 ?_), h4, r4, fx4, fM5⟩
    · rw [nnT (by omega), hv]
      exact st_b (find_n h4.cN hN hn) (st_t rfl rfl)
    · rw [e30, nnT (by omega), hhome, hv]
      refine st_t (by simp (disch := first | omega | decide) only [lt1, nnMl, nnMr, nnAl, nnAr, nnA, nnM, nnB, nnT, nnP, nnE, nnEl, nnEr, nnL, nnLl, nnLr, nnQ, nnQr, nnN, Nat.add_zero, if_false, if_true, Option.bind_some, not_true, not_false_iff, not_true_eq_false, not_false_eq_true, eq_self, Nat.not_lt_zero, z10, z01, or_true, true_or, or_false, false_or, true_and, false_and, ho9]) (st_b (x := M5) ?_ rfl)
      unfold m_opens
      by_cases q : v < 0
      · exact st_t q rfl
      · exact st_f q (st_b (leads_n h4.aN hN hn) (st_f (by decide) rfl))
  rcases r4.homeV o ho with e | ⟨t, ht, e⟩
  · refine none_case _ e (fun hh => ?_)
    obtain ⟨f, t, h1, h2, h3, h5⟩ := hh
    exact nnN1 (by omega) h5
  by_cases ht0 : t = 0
  · refine none_case _ e (fun hh => ?_)
    obtain ⟨f, t2, h1, h2, h3, h5⟩ := hh
    rw [nnQ (by omega) (by omega)] at h5
    omega
  have ht1 : 0 < t := by omega
  obtain ⟨a, b, d, f1, f2⟩ := find_y h4 (s := g4) (fun _ _ _ => rfl) ht1 ht (F := F) (by omega)
  obtain ⟨e9, l1, l2⟩ := leads_y (s := M5) (c := g4) h4 ht1 ht (F := G) (by omega)
  have f1 : ways_find F 0 (nn t) g4 = some (wyR g4 C 0 t, ss (up2 g4 187 3 (nn t)) a b d) := f1
  have l1 : m_leads G 0 (nn t) M5 = some (wyR g4 C 0 t, sc M5 218 e9) := l1
  have ht_neg : ¬ nn t < 0 := by rw [nnP (by omega)]; exact id
  have fss : ∀ i, i ≠ 187 → i ≠ 188 → i ≠ 189 → i ≠ 190 → ss (up2 g4 187 3 (nn t)) a b d i = g4 i := fun i p1 p2 p3 p4 => by rw [ss_o p2 p3 p4, u2n p1]
  have X2 : ∀ r2, (if wyR g4 C 0 t = 0 then (some (ss (up2 g4 187 3 (nn t)) a b d)) else Option.bind (ways_turnGates F 0 (ss (up2 g4 187 3 (nn t)) a b d)) (fun g8 => (some g8))) = some r2 → x_beginHour F g = some r2 := fun r2 hr => X _ (st_b (holder_y ho) (st_f (by decide) (st_t (by simp (disch := first | omega | decide) only [lt1, nnMl, nnMr, nnAl, nnAr, nnA, nnM, nnB, nnT, nnP, nnE, nnEl, nnEr, nnL, nnLl, nnLr, nnQ, nnQr, nnN, Nat.add_zero, if_false, if_true, Option.bind_some, not_true, not_false_iff, not_true_eq_false, not_false_eq_true, eq_self, Nat.not_lt_zero, z10, z01, or_true, true_or, or_false, false_or, true_and, false_and, ho]) (by rw [nnT (by omega), e]; exact st_b f1 hr))))
  have Y2 : ∀ r2, (if ¬ wyR g4 C 0 t = 0 then (m_opens_16 G G (nn t) 0 (sc M5 218 e9)) else (some (sc M5 218 e9))) = some r2 → m_begins G M = some r2 := fun r2 hr => Y _ (st_f h0 (by
    rw [e30, nnT (by omega), hhome, e]
    refine st_t (by simp (disch := first | omega | decide) only [lt1, nnMl, nnMr, nnAl, nnAr, nnA, nnM, nnB, nnT, nnP, nnE, nnEl, nnEr, nnL, nnLl, nnLr, nnQ, nnQr, nnN, Nat.add_zero, if_false, if_true, Option.bind_some, not_true, not_false_iff, not_true_eq_false, not_false_eq_true, eq_self, Nat.not_lt_zero, z10, z01, or_true, true_or, or_false, false_or, true_and, false_and, ho9]) (st_b (x := r2) ?_ rfl)
    unfold m_opens
    exact st_f ht_neg (st_b l1 hr)))
  have fMe : FrB M (sc M5 218 e9) := fM5.t ⟨fun i p1 p2 => sc_n p2, fun j _ _ => by rw [sc_n (by decide)]⟩
  by_cases q : (tab g4 C t t 0).2 < 1000000
  rotate_left
  · have w0 : wyR g4 C 0 t = 0 := if_neg q
    refine ⟨_, _, X2 _ (st_t w0 rfl), Y2 _ (st_f (fun e => e w0) rfl), ?_, ?_, fun i p1 p2 p3 p4 p5 => (fss i p2 p3 p4 p5).trans (fx4 i p1 p2 p3 p4 p5), fMe⟩
    · rw [sc_n (by decide)]
      exact h4.fr (fun i p1 p2 => fss i (by omega) (by omega) (by omega) (by omega)) (fun j _ => rfl)
    · rw [sc_n (by decide)]
      exact r4.fr (fun i p1 p2 => fss i (by omega) (by omega) (by omega) (by omega)) (fun j _ => rfl)
  have w1 : wyR g4 C 0 t = 1 := if_pos q
  have okt := (tab_ok h4 (show t < 10 by omega) t (Nat.le_refl _)).1 0
  have okt2 : (tab g4 C t t 0).2 % 100 + 0 ≤ t := (okt.1 q).1
  obtain ⟨f3, A3, s1, s2, s3, s4⟩ := gates_y (c := g4) (S := ss (up2 g4 187 3 (nn t)) a b d) (M := sc M5 218 e9) ht (fun i p1 p2 p3 => fss i (by omega) (by omega) (by omega) (by omega)) (by rw [ss_o (by decide) (by decide) (by decide), u2e, up1_eq]) (fun u hu => by rw [ss_d]; exact (f2 u (Nat.zero_le _) hu).1) (fun u hu => by rw [sc_e]; exact l2 u hu) (F0 := G) (by omega) ((tab g4 C t t 0).2 % 100) 0 0 (g4 5) (M5 216) F G rfl (Nat.zero_le _) q (by omega) (by omega) (by omega) (by rw [sc_s]; exact h4)
  have es1 : sc (ss (up2 g4 187 3 (nn t)) a b d) 5 (g4 5) = ss (up2 g4 187 3 (nn t)) a b d := by
    rw [← fss 5 (by decide) (by decide) (by decide) (by decide)]
    exact sc_s
  have es2 : sc (sc M5 218 e9) 216 (M5 216) = sc M5 218 e9 := by
    have : sc (sc M5 218 e9) 216 ((sc M5 218 e9) 216) = sc M5 218 e9 := sc_s
    rwa [sc_n (show 216 ≠ 218 by decide)] at this
  rw [es1] at s1
  rw [es2] at s2
  refine ⟨sc (ss (up2 g4 187 3 (nn t)) a b d) 5 f3, sc (sc M5 218 e9) 216 A3, X2 _ (st_f (by rw [w1]; decide) (st_b (o := ways_turnGates F 0 _) s1 rfl)), Y2 _ (st_t (by rw [w1]; decide) s2), ?_, ?_, fun i p1 p2 p3 p4 p5 => ?_, ?_⟩
  · rw [sc_e]
    refine s3.fr (fun i p1 p2 => ?_) (fun j _ => rfl)
    by_cases e5 : i = 5
    · rw [e5, sc_e, sc_e]
    · rw [sc_n e5, sc_n e5]
      exact fss i (by omega) (by omega) (by omega) (by omega)
  · rw [sc_e]
    exact r4.fr (fun i p1 p2 => by rw [sc_n (by omega)]; exact fss i (by omega) (by omega) (by omega) (by omega)) (fun j hj => s4 j (by unfold iRig at hj; unfold iNet; omega))
  · rw [sc_n (by omega)]
    exact (fss i p2 p3 p4 p5).trans (fx4 i p1 p2 p3 p4 p5)
  · exact fMe.t ⟨fun i p1 p2 => sc_n p1, fun j p1 p2 => by rw [sc_e, s4 j p1, sc_n (by decide)]⟩
end WG
