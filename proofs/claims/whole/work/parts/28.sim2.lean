section
/-! node and channel -/
theorem sumTo_congr {f f' : Nat → Int32} {n : Nat} (h : ∀ i, i < n → f i = f' i) : sumTo f n = sumTo f' n := by
  induction n with
  | zero => rfl
  | succ n ih =>
    show sumTo f n + f n = sumTo f' n + f' n
    rw [ih (fun i hi => h i (by omega)), h n (by omega)]
theorem st_w {α β : Type} {c : Prop} {d : Decidable c} {x : α} {k : α → Option β} {r : Option β} (hc : c) (h : k x = r) : (@ite _ c d (lt1 x k) none) = r := (if_pos hc).trans h
theorem st_l {α β : Type} {x : α} {k : α → Option β} {r : Option β} (h : k x = r) : lt1 x k = r := h
theorem st_b {α β : Type} {o : Option α} {x : α} {k : α → Option β} {r : Option β} (ho : o = some x) (h : k x = r) : Option.bind o k = r := by rw [ho]; exact h
theorem st_t {β : Type} {c : Prop} {d : Decidable c} {x y r : β} (hc : c) (h : x = r) : (@ite _ c d x y) = r := (if_pos hc).trans h
theorem st_f {β : Type} {c : Prop} {d : Decidable c} {x y r : β} (hc : ¬ c) (h : y = r) : (@ite _ c d x y) = r := (if_neg hc).trans h
theorem maySize_g (k v : Int32) (g g' : Sg) : m_maySize k v g = m_maySize k v g' := rfl
theorem RNet.pushN {c c' : Sg} {a a' : Nat → Int32} {N C Q : Nat} {v0 v1 : Int32} (h : RNet c a N C Q) (hN : N < 10) (wkindV : ∃ k, k ≤ 4 ∧ v0 = nn k) (hc : ∀ i, 2 ≤ i → i ≤ 21 → i ≠ 2 → i ≠ 3 → i ≠ 4 → i ≠ 5 → c' i = c i) (e2 : c' 2 = up1 (c 2) 1 (nn (N + 1))) (e3 : c' 3 = up1 (c 3) N v0) (e4 : c' 4 = up1 (c 4) N v1) (e5 : c' 5 = up1 (c 5) N (-1)) (a0 : a' 0 = nn (N + 1)) (b0 : a' (140 + 5 * N) = v0) (b1 : a' (140 + 5 * N + 1) = v1) (b2 : a' (140 + 5 * N + 2) = -1) (b3 : a' (140 + 5 * N + 3) = 0) (b4 : a' (140 + 5 * N + 4) = 0) (ha : ∀ j, iNet j → j ≠ 0 → j < 140 + 5 * N ∨ 140 + 5 * N + 5 ≤ j → a' j = a j) : RNet c' a' (N + 1) C Q := by
  have e7 := hc 7 (by decide) (by decide) (by decide) (by decide) (by decide) (by decide)
  have e8 := hc 8 (by decide) (by decide) (by decide) (by decide) (by decide) (by decide)
  have e9 := hc 9 (by decide) (by decide) (by decide) (by decide) (by decide) (by decide)
  have e10 := hc 10 (by decide) (by decide) (by decide) (by decide) (by decide) (by decide)
  have e11 := hc 11 (by decide) (by decide) (by decide) (by decide) (by decide) (by decide)
  have e12 := hc 12 (by decide) (by decide) (by decide) (by decide) (by decide) (by decide)
  have e13 := hc 13 (by decide) (by decide) (by decide) (by decide) (by decide) (by decide)
  have e14 := hc 14 (by decide) (by decide) (by decide) (by decide) (by decide) (by decide)
  have e15 := hc 15 (by decide) (by decide) (by decide) (by decide) (by decide) (by decide)
  have e17 := hc 17 (by decide) (by decide) (by decide) (by decide) (by decide) (by decide)
  have e18 := hc 18 (by decide) (by decide) (by decide) (by decide) (by decide) (by decide)
  have e19 := hc 19 (by decide) (by decide) (by decide) (by decide) (by decide) (by decide)
  have e20 := hc 20 (by decide) (by decide) (by decide) (by decide) (by decide) (by decide)
  have e21 := hc 21 (by decide) (by decide) (by decide) (by decide) (by decide) (by decide)
  have A := ha
  apply RNet.mk
  case hN => omega
  case hC => exact h.hC
  case hQ => exact h.hQ
  case cN => rw [e2, up1_eq]
  case aN => exact a0
  case cC => rw [e2, up1_ne (by decide)]; exact h.cC
  case aC => rw [A _ (by unfold iNet; omega) (by omega) (by omega)]; exact h.aC
  case cQ => rw [e2, up1_ne (by decide)]; exact h.cQ
  case aQ => rw [A _ (by unfold iNet; omega) (by omega) (by omega)]; exact h.aQ
  case kind => 
    intro n hn
    rw [e3]
    by_cases e : n = N
    · subst e; rw [up1_eq]; exact b0
    · rw [up1_ne e, A _ (by unfold iNet; omega) (by omega) (by omega)]; exact h.kind n hn
  case size => 
    intro n hn
    rw [e4]
    by_cases e : n = N
    · subst e; rw [up1_eq]; exact b1
    · rw [up1_ne e, A _ (by unfold iNet; omega) (by omega) (by omega)]; exact h.size n hn
  case gate => 
    intro n hn
    rw [e5]
    by_cases e : n = N
    · subst e; rw [up1_eq]; exact b2
    · rw [up1_ne e, A _ (by unfold iNet; omega) (by omega) (by omega)]; exact h.gate n hn
  case kep0 => 
    intro n hn
    rw [e7]
    by_cases e : n = N
    · subst e; rw [b3, (h.kepZ n (Nat.le_refl n) hn).1]
    · rw [A _ (by unfold iNet; omega) (by omega) (by omega)]; exact h.kep0 n hn
  case kep1 => 
    intro n hn
    rw [e8]
    by_cases e : n = N
    · subst e; rw [b4, (h.kepZ n (Nat.le_refl n) hn).2]
    · rw [A _ (by unfold iNet; omega) (by omega) (by omega)]; exact h.kep1 n hn
  case frm => intro n hn; rw [A _ (by unfold iNet; omega) (by omega) (by omega), e9]; exact h.frm n hn
  case to => intro n hn; rw [A _ (by unfold iNet; omega) (by omega) (by omega), e10]; exact h.to n hn
  case low => intro n hn; rw [A _ (by unfold iNet; omega) (by omega) (by omega), e11]; exact h.low n hn
  case hig => intro n hn; rw [A _ (by unfold iNet; omega) (by omega) (by omega), e12]; exact h.hig n hn
  case trv => intro n hn; rw [A _ (by unfold iNet; omega) (by omega) (by omega), e13]; exact h.trv n hn
  case brd => intro n hn; rw [A _ (by unfold iNet; omega) (by omega) (by omega), e14]; exact h.brd n hn
  case brk => intro n hn; rw [A _ (by unfold iNet; omega) (by omega) (by omega), e15]; exact h.brk n hn
  case way0 => intro n hn; rw [A _ (by unfold iNet; omega) (by omega) (by omega), e17]; exact h.way0 n hn
  case way1 => intro n hn; rw [A _ (by unfold iNet; omega) (by omega) (by omega), e18]; exact h.way1 n hn
  case gateV => 
    intro n hn
    rw [e5, e9]
    by_cases e : n = N
    · subst e; rw [up1_eq]; exact Or.inl rfl
    · rw [up1_ne e]; exact h.gateV n (by omega)
  case ends => 
    intro j hj
    rw [e9, e10]
    obtain ⟨f, t, h1, h2, h3⟩ := h.ends j hj
    exact ⟨f, t, h1, by omega, h3⟩
  case lowV => rw [e11]; exact h.lowV
  case higV => rw [e12]; exact h.higV
  case trvV => rw [e13]; exact h.trvV
  case brdV => rw [e14]; exact h.brdV
  case brkV => rw [e15]; exact h.brkV
  case kindV => 
    intro n hn
    rw [e3]
    by_cases e : n = N
    · subst e; rw [up1_eq]; exact wkindV
    · rw [up1_ne e]; exact h.kindV n (by omega)
  case kepZ => intro n hn h9; rw [e7, e8]; exact h.kepZ n (by omega) h9
  case brkZ => rw [e15]; exact h.brkZ
  case wayZ => rw [e17, e18]; exact h.wayZ
  case su00 => 
    rw [A _ (by unfold iNet; omega) (by omega) (by omega), h.su00]
    refine sumTo_congr (fun i hi => ?_)
    rw [e3, e7]
    by_cases e : i = N
    · subst e; rw [up1_eq, (h.kepZ i (Nat.le_refl i) hi).1]; simp only [ite_self]
    · rw [up1_ne e]
  case su01 => 
    rw [A _ (by unfold iNet; omega) (by omega) (by omega), h.su01]
    refine sumTo_congr (fun i hi => ?_)
    rw [e3, e7]
    by_cases e : i = N
    · subst e; rw [up1_eq, (h.kepZ i (Nat.le_refl i) hi).1]; simp only [ite_self]
    · rw [up1_ne e]
  case su02 => 
    rw [A _ (by unfold iNet; omega) (by omega) (by omega), h.su02]
    refine sumTo_congr (fun i hi => ?_)
    rw [e3, e7]
    by_cases e : i = N
    · subst e; rw [up1_eq, (h.kepZ i (Nat.le_refl i) hi).1]; simp only [ite_self]
    · rw [up1_ne e]
  case su03 => rw [A _ (by unfold iNet; omega) (by omega) (by omega), e17]; exact h.su03
  case su04 => rw [A _ (by unfold iNet; omega) (by omega) (by omega), e19]; exact h.su04
  case su05 => rw [A _ (by unfold iNet; omega) (by omega) (by omega), e20]; exact h.su05
  case su06 => rw [A _ (by unfold iNet; omega) (by omega) (by omega), e21]; exact h.su06
  case su10 => 
    rw [A _ (by unfold iNet; omega) (by omega) (by omega), h.su10]
    refine sumTo_congr (fun i hi => ?_)
    rw [e3, e8]
    by_cases e : i = N
    · subst e; rw [up1_eq, (h.kepZ i (Nat.le_refl i) hi).2]; simp only [ite_self]
    · rw [up1_ne e]
  case su11 => 
    rw [A _ (by unfold iNet; omega) (by omega) (by omega), h.su11]
    refine sumTo_congr (fun i hi => ?_)
    rw [e3, e8]
    by_cases e : i = N
    · subst e; rw [up1_eq, (h.kepZ i (Nat.le_refl i) hi).2]; simp only [ite_self]
    · rw [up1_ne e]
  case su12 => 
    rw [A _ (by unfold iNet; omega) (by omega) (by omega), h.su12]
    refine sumTo_congr (fun i hi => ?_)
    rw [e3, e8]
    by_cases e : i = N
    · subst e; rw [up1_eq, (h.kepZ i (Nat.le_refl i) hi).2]; simp only [ite_self]
    · rw [up1_ne e]
  case su13 => rw [A _ (by unfold iNet; omega) (by omega) (by omega), e18]; exact h.su13
  case su14 => rw [A _ (by unfold iNet; omega) (by omega) (by omega), e19]; exact h.su14
  case su15 => rw [A _ (by unfold iNet; omega) (by omega) (by omega), e20]; exact h.su15
  case su16 => rw [A _ (by unfold iNet; omega) (by omega) (by omega), e21]; exact h.su16
theorem RRig.growN {c : Sg} {a : Nat → Int32} {D N Q : Nat} (h : RRig c a D N Q) : RRig c a D (N + 1) Q := by
  apply RRig.mk
  case hD => exact h.hD
  case cD => exact h.cD
  case aD => exact h.aD
  case home => exact h.home
  case homeV => 
    intro k hk
    rcases h.homeV k hk with e | ⟨n, h1, h2⟩
    · exact Or.inl e
    · exact Or.inr ⟨n, by omega, h2⟩
  case d0 => exact h.d0
  case d1 => exact h.d1
  case d2 => exact h.d2
  case d3 => exact h.d3
  case d4 => exact h.d4
  case d5 => exact h.d5
  case dFL => exact h.dFL
  case dW => exact h.dW
  case dS => exact h.dS
  case dY => exact h.dY
  case dV => exact h.dV
  case cR => exact h.cR
  case aR => exact h.aR
  case runs => exact h.runs
  case runV => exact h.runV
section SF
theorem sim_node {TS : Sg → Prop} (hT : TSf TS) : Sim_node (RR TS) := by
  intro v1 v2 g hR
  obtain ⟨N, C, Q, D, T, L, G, h⟩ := hR.now
  have hN := h.net.hN
  by_cases hn : N = 10
  · subst hn
    refine ⟨0, 0, -1, g, g, ?_, ?_, hR⟩
    · unfold x_node
      rw [h.net.cN, if_pos (show (10 : Int32) ≤ nn 10 by decide)]
    · unfold m_node
      rw [h.net.aN, if_pos (show nn 10 = 10 from rfl)]
  have hn1 : ¬ 10 ≤ N := by omega
  have hn2 : N < 10 := by omega
  obtain ⟨b, hb, f1, f2, hk⟩ := fits_eq v1 v2 g g
  rcases hb with rfl | rfl
  · refine ⟨0, 0, -1, g, g, ?_, ?_, hR⟩
    · unfold x_node
      rw [h.net.cN]
      simp (disch := first | omega | decide) only [lt1, nnMl, nnMr, nnAl, nnAr, nnA, nnM, nnB, nnT, nnP, nnE, nnEl, nnEr, nnL, nnLl, nnLr, nnQ, nnQr, nnN, Nat.add_zero, if_false, if_true, Option.bind_some, not_true, not_false_iff, not_true_eq_false, not_false_eq_true, eq_self, Nat.not_lt_zero, z10, z01, or_true, true_or, or_false, false_or, true_and, false_and, f1, hn1]
    · unfold m_node
      rw [h.net.aN]
      simp (disch := first | omega | decide) only [lt1, nnMl, nnMr, nnAl, nnAr, nnA, nnM, nnB, nnT, nnP, nnE, nnEl, nnEr, nnL, nnLl, nnLr, nnQ, nnQr, nnN, Nat.add_zero, if_false, if_true, Option.bind_some, not_true, not_false_iff, not_true_eq_false, not_false_eq_true, eq_self, Nat.not_lt_zero, z10, z01, or_true, true_or, or_false, false_or, true_and, false_and, f2, hn]
  · obtain ⟨k, hk4, rfl⟩ := hk rfl
    have j0 : 140 + 5 * N < 20360 := by omega
    have j1 : 140 + 5 * N + 1 < 20360 := by omega
    have j2 : 140 + 5 * N + 2 < 20360 := by omega
    have j3 : 140 + 5 * N + 3 < 20360 := by omega
    have j4 : 140 + 5 * N + 4 < 20360 := by omega
    have hm : ∀ g1 : Sg, g1 216 = g 216 → m_node (nn k) v2 g1 = some (nn N, up2 (up2 (up2 (up2 (up2 (up2 g1 216 (140 + 5 * N) (nn k)) 216 (140 + 5 * N + 1) v2) 216 (140 + 5 * N + 2) (-1)) 216 (140 + 5 * N + 3) 0) 216 (140 + 5 * N + 4) 0) 216 0 (nn (N + 1))) := by
      intro g1 e1
      unfold m_node
      rw [e1, h.net.aN, maySize_g _ _ g1 g, f2]
      refine st_f (fun e => hn ((nnQ (a := N) (b := 10) (by omega) (by decide)).mp e)) ?_
      refine st_b rfl (st_t (by decide) (st_l ?_))
      have e5 : (140 + 5 * nn N : Int32) = nn (140 + 5 * N) := by simp (disch := first | omega | decide) only [lt1, nnMl, nnMr, nnAl, nnAr, nnA, nnM, nnB, nnT, nnP, nnE, nnEl, nnEr, nnL, nnLl, nnLr, nnQ, nnQr, nnN, Nat.add_zero, if_false, if_true, Option.bind_some, not_true, not_false_iff, not_true_eq_false, not_false_eq_true, eq_self, Nat.not_lt_zero, z10, z01, or_true, true_or, or_false, false_or, true_and, false_and]
      rw [e5]
      refine st_w (by simp (disch := first | omega | decide) only [lt1, nnMl, nnMr, nnAl, nnAr, nnA, nnM, nnB, nnT, nnP, nnE, nnEl, nnEr, nnL, nnLl, nnLr, nnQ, nnQr, nnN, Nat.add_zero, if_false, if_true, Option.bind_some, not_true, not_false_iff, not_true_eq_false, not_false_eq_true, eq_self, Nat.not_lt_zero, z10, z01, or_true, true_or, or_false, false_or, true_and, false_and, j0]) (st_w (by simp (disch := first | omega | decide) only [lt1, nnMl, nnMr, nnAl, nnAr, nnA, nnM, nnB, nnT, nnP, nnE, nnEl, nnEr, nnL, nnLl, nnLr, nnQ, nnQr, nnN, Nat.add_zero, if_false, if_true, Option.bind_some, not_true, not_false_iff, not_true_eq_false, not_false_eq_true, eq_self, Nat.not_lt_zero, z10, z01, or_true, true_or, or_false, false_or, true_and, false_and, j1]) (st_w (by simp (disch := first | omega | decide) only [lt1, nnMl, nnMr, nnAl, nnAr, nnA, nnM, nnB, nnT, nnP, nnE, nnEl, nnEr, nnL, nnLl, nnLr, nnQ, nnQr, nnN, Nat.add_zero, if_false, if_true, Option.bind_some, not_true, not_false_iff, not_true_eq_false, not_false_eq_true, eq_self, Nat.not_lt_zero, z10, z01, or_true, true_or, or_false, false_or, true_and, false_and, j2]) (st_w (by simp (disch := first | omega | decide) only [lt1, nnMl, nnMr, nnAl, nnAr, nnA, nnM, nnB, nnT, nnP, nnE, nnEl, nnEr, nnL, nnLl, nnLr, nnQ, nnQr, nnN, Nat.add_zero, if_false, if_true, Option.bind_some, not_true, not_false_iff, not_true_eq_false, not_false_eq_true, eq_self, Nat.not_lt_zero, z10, z01, or_true, true_or, or_false, false_or, true_and, false_and, j3]) (st_w (by simp (disch := first | omega | decide) only [lt1, nnMl, nnMr, nnAl, nnAr, nnA, nnM, nnB, nnT, nnP, nnE, nnEl, nnEr, nnL, nnLl, nnLr, nnQ, nnQr, nnN, Nat.add_zero, if_false, if_true, Option.bind_some, not_true, not_false_iff, not_true_eq_false, not_false_eq_true, eq_self, Nat.not_lt_zero, z10, z01, or_true, true_or, or_false, false_or, true_and, false_and, j4]) (st_l ?_)))))
      simp (disch := first | omega | decide) only [lt1, nnMl, nnMr, nnAl, nnAr, nnA, nnM, nnB, nnT, nnP, nnE, nnEl, nnEr, nnL, nnLl, nnLr, nnQ, nnQr, nnN, Nat.add_zero, if_false, if_true, Option.bind_some, not_true, not_false_iff, not_true_eq_false, not_false_eq_true, eq_self, Nat.not_lt_zero, z10, z01, or_true, true_or, or_false, false_or, true_and, false_and, u2e, u2n, up1_eq, up1_ne, ne_eq, nnS1, e1, h.net.aN]
    refine ⟨0, 0, nn N, up2 (up2 (up2 (up2 g 3 N (nn k)) 4 N v2) 5 N (-1)) 2 1 (nn (N + 1)), _, ?_, hm _ (by simp (disch := first | omega | decide) only [u2e, u2n, up1_eq, up1_ne, ne_eq]), ?_⟩
    · unfold x_node net_addNode
      simp (disch := first | omega | decide) only [lt1, nnMl, nnMr, nnAl, nnAr, nnA, nnM, nnB, nnT, nnP, nnE, nnEl, nnEr, nnL, nnLl, nnLr, nnQ, nnQr, nnN, Nat.add_zero, if_false, if_true, Option.bind_some, not_true, not_false_iff, not_true_eq_false, not_false_eq_true, eq_self, Nat.not_lt_zero, z10, z01, or_true, true_or, or_false, false_or, true_and, false_and, u2e, u2n, up1_eq, up1_ne, ne_eq, hn1, hn2, f1, h.net.cN]
    · exact RR.put hT hR ⟨N + 1, C, Q, D, T, L, G, h.net.pushN (v1 := v2) hn2 ⟨k, hk4, rfl⟩ (fun i e1 e2 e3 e4 e5 e6 => by simp (disch := first | omega | decide) only [u2e, u2n, up1_eq, up1_ne, ne_eq]) (by simp (disch := first | omega | decide) only [u2e, u2n, up1_eq, up1_ne, ne_eq]) (by simp (disch := first | omega | decide) only [u2e, u2n, up1_eq, up1_ne, ne_eq]) (by simp (disch := first | omega | decide) only [u2e, u2n, up1_eq, up1_ne, ne_eq]) (by simp (disch := first | omega | decide) only [u2e, u2n, up1_eq, up1_ne, ne_eq]) (by simp (disch := first | omega | decide) only [u2e, u2n, up1_eq, up1_ne, ne_eq]) (by simp (disch := first | omega | decide) only [u2e, u2n, up1_eq, up1_ne, ne_eq]) (by simp (disch := first | omega | decide) only [u2e, u2n, up1_eq, up1_ne, ne_eq]) (by simp (disch := first | omega | decide) only [u2e, u2n, up1_eq, up1_ne, ne_eq]) (by simp (disch := first | omega | decide) only [u2e, u2n, up1_eq, up1_ne, ne_eq]) (by simp (disch := first | omega | decide) only [u2e, u2n, up1_eq, up1_ne, ne_eq]) (fun j hj e1 e2 => by simp (disch := first | omega | decide) only [u2e, u2n, up1_eq, up1_ne, ne_eq]), h.rig.growN.fr (fun i e1 e2 => by simp (disch := first | omega | decide) only [u2e, u2n, up1_eq, up1_ne, ne_eq]) (fun j hj => by unfold iRig at hj; simp (disch := first | omega | decide) only [u2e, u2n, up1_eq, up1_ne, ne_eq]), h.law.fr (fun i e1 e2 => by simp (disch := first | omega | decide) only [u2e, u2n, up1_eq, up1_ne, ne_eq]) (fun j hj => by unfold iLaw at hj; simp (disch := first | omega | decide) only [u2e, u2n, up1_eq, up1_ne, ne_eq]), h.gau.fr (fun i e1 e2 => by simp (disch := first | omega | decide) only [u2e, u2n, up1_eq, up1_ne, ne_eq]) (fun j hj => by unfold iGau at hj; simp (disch := first | omega | decide) only [u2e, u2n, up1_eq, up1_ne, ne_eq])⟩ (fun i e1 e2 => by simp (disch := first | omega | decide) only [u2e, u2n, up1_eq, up1_ne, ne_eq]) (fun j e1 => by simp (disch := first | omega | decide) only [u2e, u2n, up1_eq, up1_ne, ne_eq]) (by simp (disch := first | omega | decide) only [u2e, u2n, up1_eq, up1_ne, ne_eq]) (fun i e1 e2 => by simp (disch := first | omega | decide) only [u2e, u2n, up1_eq, up1_ne, ne_eq])
end SF
end
section
theorem RNet.pushC {c c' : Sg} {a a' : Nat → Int32} {N C Q : Nat} {v0 v1 v2 v3 v4 v5 : Int32} (h : RNet c a N C Q) (hC : C < 14) (wends : ∃ f t, f < t ∧ t < N ∧ v0 = nn f ∧ v1 = nn t) (wlowV : ∃ v, v ≤ 500 ∧ v2 = nn v) (whigV : ∃ v, v ≤ 500 ∧ v3 = nn v) (wtrvV : ∃ v, v ≤ 8 ∧ v4 = nn v) (wbrdV : ∃ v, 1 ≤ v ∧ v ≤ 9999 ∧ v5 = nn v) (hc : ∀ i, 2 ≤ i → i ≤ 21 → i ≠ 2 → i ≠ 9 → i ≠ 10 → i ≠ 11 → i ≠ 12 → i ≠ 13 → i ≠ 14 → c' i = c i) (e2 : c' 2 = up1 (c 2) 6 (nn (C + 1))) (e9 : c' 9 = up1 (c 9) C v0) (e10 : c' 10 = up1 (c 10) C v1) (e11 : c' 11 = up1 (c 11) C v2) (e12 : c' 12 = up1 (c 12) C v3) (e13 : c' 13 = up1 (c 13) C v4) (e14 : c' 14 = up1 (c 14) C v5) (a1 : a' 1 = nn (C + 1)) (b0 : a' (190 + 7 * C) = v0) (b1 : a' (190 + 7 * C + 1) = v1) (b2 : a' (190 + 7 * C + 2) = v2) (b3 : a' (190 + 7 * C + 3) = v3) (b4 : a' (190 + 7 * C + 4) = v4) (b5 : a' (190 + 7 * C + 5) = v5) (b6 : a' (190 + 7 * C + 6) = 0) (ha : ∀ j, iNet j → j ≠ 1 → j < 190 + 7 * C ∨ 190 + 7 * C + 7 ≤ j → a' j = a j) : RNet c' a' N (C + 1) Q := by
  have e3 := hc 3 (by decide) (by decide) (by decide) (by decide) (by decide) (by decide) (by decide) (by decide) (by decide)
  have e4 := hc 4 (by decide) (by decide) (by decide) (by decide) (by decide) (by decide) (by decide) (by decide) (by decide)
  have e5 := hc 5 (by decide) (by decide) (by decide) (by decide) (by decide) (by decide) (by decide) (by decide) (by decide)
  have e7 := hc 7 (by decide) (by decide) (by decide) (by decide) (by decide) (by decide) (by decide) (by decide) (by decide)
  have e8 := hc 8 (by decide) (by decide) (by decide) (by decide) (by decide) (by decide) (by decide) (by decide) (by decide)
  have e15 := hc 15 (by decide) (by decide) (by decide) (by decide) (by decide) (by decide) (by decide) (by decide) (by decide)
  have e17 := hc 17 (by decide) (by decide) (by decide) (by decide) (by decide) (by decide) (by decide) (by decide) (by decide)
  have e18 := hc 18 (by decide) (by decide) (by decide) (by decide) (by decide) (by decide) (by decide) (by decide) (by decide)
  have e19 := hc 19 (by decide) (by decide) (by decide) (by decide) (by decide) (by decide) (by decide) (by decide) (by decide)
  have e20 := hc 20 (by decide) (by decide) (by decide) (by decide) (by decide) (by decide) (by decide) (by decide) (by decide)
  have e21 := hc 21 (by decide) (by decide) (by decide) (by decide) (by decide) (by decide) (by decide) (by decide) (by decide)
  have A := ha
  apply RNet.mk
  case hN => exact h.hN
  case hC => omega
  case hQ => exact h.hQ
  case cN => rw [e2, up1_ne (by decide)]; exact h.cN
  case aN => rw [A _ (by unfold iNet; omega) (by omega) (by omega)]; exact h.aN
  case cC => rw [e2, up1_eq]
  case aC => exact a1
  case cQ => rw [e2, up1_ne (by decide)]; exact h.cQ
  case aQ => rw [A _ (by unfold iNet; omega) (by omega) (by omega)]; exact h.aQ
  case kind => intro n hn; rw [A _ (by unfold iNet; omega) (by omega) (by omega), e3]; exact h.kind n hn
  case size => intro n hn; rw [A _ (by unfold iNet; omega) (by omega) (by omega), e4]; exact h.size n hn
  case gate => intro n hn; rw [A _ (by unfold iNet; omega) (by omega) (by omega), e5]; exact h.gate n hn
  case kep0 => intro n hn; rw [A _ (by unfold iNet; omega) (by omega) (by omega), e7]; exact h.kep0 n hn
  case kep1 => intro n hn; rw [A _ (by unfold iNet; omega) (by omega) (by omega), e8]; exact h.kep1 n hn
  case frm => 
    intro n hn
    rw [e9]
    by_cases e : n = C
    · subst e; rw [up1_eq]; exact b0
    · rw [up1_ne e, A _ (by unfold iNet; omega) (by omega) (by omega)]; exact h.frm n hn
  case to => 
    intro n hn
    rw [e10]
    by_cases e : n = C
    · subst e; rw [up1_eq]; exact b1
    · rw [up1_ne e, A _ (by unfold iNet; omega) (by omega) (by omega)]; exact h.to n hn
  case low => 
    intro n hn
    rw [e11]
    by_cases e : n = C
    · subst e; rw [up1_eq]; exact b2
    · rw [up1_ne e, A _ (by unfold iNet; omega) (by omega) (by omega)]; exact h.low n hn
  case hig => 
    intro n hn
    rw [e12]
    by_cases e : n = C
    · subst e; rw [up1_eq]; exact b3
    · rw [up1_ne e, A _ (by unfold iNet; omega) (by omega) (by omega)]; exact h.hig n hn
  case trv => 
    intro n hn
    rw [e13]
    by_cases e : n = C
    · subst e; rw [up1_eq]; exact b4
    · rw [up1_ne e, A _ (by unfold iNet; omega) (by omega) (by omega)]; exact h.trv n hn
  case brd => 
    intro n hn
    rw [e14]
    by_cases e : n = C
    · subst e; rw [up1_eq]; exact b5
    · rw [up1_ne e, A _ (by unfold iNet; omega) (by omega) (by omega)]; exact h.brd n hn
  case brk => 
    intro n hn
    rw [e15]
    by_cases e : n = C
    · subst e; rw [b6, h.brkZ n (Nat.le_refl n) hn]
    · rw [A _ (by unfold iNet; omega) (by omega) (by omega)]; exact h.brk n hn
  case way0 => intro n hn; rw [A _ (by unfold iNet; omega) (by omega) (by omega), e17]; exact h.way0 n hn
  case way1 => intro n hn; rw [A _ (by unfold iNet; omega) (by omega) (by omega), e18]; exact h.way1 n hn
  case gateV => 
    intro n hn
    rw [e5, e9]
    rcases h.gateV n hn with e | ⟨k, h1, h2, h3⟩
    · exact Or.inl e
    · exact Or.inr ⟨k, by omega, h2, by rw [up1_ne (by omega)]; exact h3⟩
  case ends => 
    intro n hn
    rw [e9, e10]
    by_cases e : n = C
    · subst e; rw [up1_eq, up1_eq]; exact wends
    · rw [up1_ne e, up1_ne e]; exact h.ends n (by omega)
  case lowV => 
    intro n hn
    rw [e11]
    by_cases e : n = C
    · subst e; rw [up1_eq]; exact wlowV
    · rw [up1_ne e]; exact h.lowV n (by omega)
  case higV => 
    intro n hn
    rw [e12]
    by_cases e : n = C
    · subst e; rw [up1_eq]; exact whigV
    · rw [up1_ne e]; exact h.higV n (by omega)
  case trvV => 
    intro n hn
    rw [e13]
    by_cases e : n = C
    · subst e; rw [up1_eq]; exact wtrvV
    · rw [up1_ne e]; exact h.trvV n (by omega)
  case brdV => 
    intro n hn
    rw [e14]
    by_cases e : n = C
    · subst e; rw [up1_eq]; exact wbrdV
    · rw [up1_ne e]; exact h.brdV n (by omega)
  case brkV => rw [e15]; exact h.brkV
  case kindV => rw [e3]; exact h.kindV
  case kepZ => rw [e7, e8]; exact h.kepZ
  case brkZ => intro n hn h9; rw [e15]; exact h.brkZ n (by omega) h9
  case wayZ => intro n hn h9; rw [e17, e18]; exact h.wayZ n (by omega) h9
  case su00 => rw [A _ (by unfold iNet; omega) (by omega) (by omega), e3, e7]; exact h.su00
  case su01 => rw [A _ (by unfold iNet; omega) (by omega) (by omega), e3, e7]; exact h.su01
  case su02 => rw [A _ (by unfold iNet; omega) (by omega) (by omega), e3, e7]; exact h.su02
  case su03 => rw [A _ (by unfold iNet; omega) (by omega) (by omega), e17]; exact h.su03
  case su04 => rw [A _ (by unfold iNet; omega) (by omega) (by omega), e19]; exact h.su04
  case su05 => rw [A _ (by unfold iNet; omega) (by omega) (by omega), e20]; exact h.su05
  case su06 => rw [A _ (by unfold iNet; omega) (by omega) (by omega), e21]; exact h.su06
  case su10 => rw [A _ (by unfold iNet; omega) (by omega) (by omega), e3, e8]; exact h.su10
  case su11 => rw [A _ (by unfold iNet; omega) (by omega) (by omega), e3, e8]; exact h.su11
  case su12 => rw [A _ (by unfold iNet; omega) (by omega) (by omega), e3, e8]; exact h.su12
  case su13 => rw [A _ (by unfold iNet; omega) (by omega) (by omega), e18]; exact h.su13
  case su14 => rw [A _ (by unfold iNet; omega) (by omega) (by omega), e19]; exact h.su14
  case su15 => rw [A _ (by unfold iNet; omega) (by omega) (by omega), e20]; exact h.su15
  case su16 => rw [A _ (by unfold iNet; omega) (by omega) (by omega), e21]; exact h.su16
theorem RGau.growC {c : Sg} {a : Nat → Int32} {G C Q : Nat} (h : RGau c a G C Q) : RGau c a G (C + 1) Q := by
  apply RGau.mk
  case hG => exact h.hG
  case cG => exact h.cG
  case aG => exact h.aG
  case g0 => exact h.g0
  case g1 => exact h.g1
  case g2 => exact h.g2
  case g3 => exact h.g3
  case gC => 
    intro k hk
    obtain ⟨n, h1, h2⟩ := h.gC k hk
    exact ⟨n, by omega, h2⟩
  case gQ => exact h.gQ
  case gI => exact h.gI
  case gO => exact h.gO
section SG
set_option maxHeartbeats 8000000 in
theorem sim_channel {TS : Sg → Prop} (hT : TSf TS) : Sim_channel (RR TS) := by
  intro v1 v2 v3 v4 v5 v6 g hR
  obtain ⟨N, C, Q, D, T, L, G, h⟩ := hR.now
  have hN := h.net.hN
  have hC := h.net.hC
  by_cases hc : C = 14
  · subst hc
    refine ⟨0, 0, -1, g, g, ?_, ?_, hR⟩
    · unfold x_channel
      rw [h.net.cC, if_pos (show (14 : Int32) ≤ nn 14 by decide)]
    · unfold m_channel
      rw [h.net.aC, if_pos (show nn 14 = 14 from rfl)]
  have hc1 : ¬ 14 ≤ C := by omega
  have hc2 : C < 14 := by omega
  have hcn : ¬ C = 14 := hc
  by_cases hf : ∃ n, n < N ∧ v1 = nn n
  rotate_left
  · refine ⟨0, 0, -1, g, g, ?_, ?_, hR⟩
    · unfold x_channel
      rw [h.net.cC]
      exact st_f (by simp (disch := first | omega | decide) only [lt1, nnMl, nnMr, nnAl, nnAr, nnA, nnM, nnB, nnT, nnP, nnE, nnEl, nnEr, nnL, nnLl, nnLr, nnQ, nnQr, nnN, Nat.add_zero, if_false, if_true, Option.bind_some, not_true, not_false_iff, not_true_eq_false, not_false_eq_true, eq_self, Nat.not_lt_zero, z10, z01, or_true, true_or, or_false, false_or, true_and, false_and, hc1]) (st_b (hasNode_n h.net hf) (st_t rfl rfl))
    · unfold m_channel
      rw [h.net.aC]
      exact st_f (fun e => hcn ((nnQ (a := C) (b := 14) (by omega) (by decide)).mp e)) (st_b (isOf0_n h.net hf) (st_t rfl rfl))
  by_cases ht : ∃ n, n < N ∧ v2 = nn n
  rotate_left
  · obtain ⟨f, hf, rfl⟩ := hf
    refine ⟨0, 0, -1, g, g, ?_, ?_, hR⟩
    · unfold x_channel
      rw [h.net.cC]
      exact st_f (by simp (disch := first | omega | decide) only [lt1, nnMl, nnMr, nnAl, nnAr, nnA, nnM, nnB, nnT, nnP, nnE, nnEl, nnEr, nnL, nnLl, nnLr, nnQ, nnQr, nnN, Nat.add_zero, if_false, if_true, Option.bind_some, not_true, not_false_iff, not_true_eq_false, not_false_eq_true, eq_self, Nat.not_lt_zero, z10, z01, or_true, true_or, or_false, false_or, true_and, false_and, hc1]) (st_b (hasNode_y h.net hf) (st_f (by decide) (st_b (hasNode_n h.net ht) (st_f (by decide) rfl))))
    · unfold m_channel
      rw [h.net.aC]
      exact st_f (fun e => hcn ((nnQ (a := C) (b := 14) (by omega) (by decide)).mp e)) (st_b (isOf0_y h.net hf) (st_f (by decide) (st_b (isOf0_n h.net ht) (st_t rfl rfl))))
  obtain ⟨f, hf, rfl⟩ := hf
  obtain ⟨t, ht, rfl⟩ := ht
  by_cases hft : t ≤ f
  · refine ⟨0, 0, -1, g, g, ?_, ?_, hR⟩
    · unfold x_channel
      rw [h.net.cC]
      exact st_f (by simp (disch := first | omega | decide) only [lt1, nnMl, nnMr, nnAl, nnAr, nnA, nnM, nnB, nnT, nnP, nnE, nnEl, nnEr, nnL, nnLl, nnLr, nnQ, nnQr, nnN, Nat.add_zero, if_false, if_true, Option.bind_some, not_true, not_false_iff, not_true_eq_false, not_false_eq_true, eq_self, Nat.not_lt_zero, z10, z01, or_true, true_or, or_false, false_or, true_and, false_and, hc1]) (st_b (hasNode_y h.net hf) (st_f (by decide) (st_b (hasNode_y h.net ht) (st_t (by decide) (st_t (by simp (disch := first | omega | decide) only [lt1, nnMl, nnMr, nnAl, nnAr, nnA, nnM, nnB, nnT, nnP, nnE, nnEl, nnEr, nnL, nnLl, nnLr, nnQ, nnQr, nnN, Nat.add_zero, if_false, if_true, Option.bind_some, not_true, not_false_iff, not_true_eq_false, not_false_eq_true, eq_self, Nat.not_lt_zero, z10, z01, or_true, true_or, or_false, false_or, true_and, false_and, hft]) rfl)))))
    · unfold m_channel
      rw [h.net.aC]
      exact st_f (fun e => hcn ((nnQ (a := C) (b := 14) (by omega) (by decide)).mp e)) (st_b (isOf0_y h.net hf) (st_f (by decide) (st_b (isOf0_y h.net ht) (st_f (by decide) (st_t (by simp (disch := first | omega | decide) only [lt1, nnMl, nnMr, nnAl, nnAr, nnA, nnM, nnB, nnT, nnP, nnE, nnEl, nnEr, nnL, nnLl, nnLr, nnQ, nnQr, nnN, Nat.add_zero, if_false, if_true, Option.bind_some, not_true, not_false_iff, not_true_eq_false, not_false_eq_true, eq_self, Nat.not_lt_zero, z10, z01, or_true, true_or, or_false, false_or, true_and, false_and, hft]) rfl)))))
  have hf10 : f < 10 := by omega
  have mf := nodeOf0_y (g := g) hf10
  rw [h.net.kind f hf10] at mf
  by_cases hfl : g 3 f = 4
  · rw [hfl] at mf
    refine ⟨0, 0, -1, g, g, ?_, ?_, hR⟩
    · unfold x_channel
      rw [h.net.cC]
      exact st_f (by simp (disch := first | omega | decide) only [lt1, nnMl, nnMr, nnAl, nnAr, nnA, nnM, nnB, nnT, nnP, nnE, nnEl, nnEr, nnL, nnLl, nnLr, nnQ, nnQr, nnN, Nat.add_zero, if_false, if_true, Option.bind_some, not_true, not_false_iff, not_true_eq_false, not_false_eq_true, eq_self, Nat.not_lt_zero, z10, z01, or_true, true_or, or_false, false_or, true_and, false_and, hc1]) (st_b (hasNode_y h.net hf) (st_f (by decide) (st_b (hasNode_y h.net ht) (st_t (by decide) (st_f (by simp (disch := first | omega | decide) only [lt1, nnMl, nnMr, nnAl, nnAr, nnA, nnM, nnB, nnT, nnP, nnE, nnEl, nnEr, nnL, nnLl, nnLr, nnQ, nnQr, nnN, Nat.add_zero, if_false, if_true, Option.bind_some, not_true, not_false_iff, not_true_eq_false, not_false_eq_true, eq_self, Nat.not_lt_zero, z10, z01, or_true, true_or, or_false, false_or, true_and, false_and, hft]) (st_b (isField_y h.net hf hfl) (st_f (by decide) rfl)))))))
    · unfold m_channel
      rw [h.net.aC]
      exact st_f (fun e => hcn ((nnQ (a := C) (b := 14) (by omega) (by decide)).mp e)) (st_b (isOf0_y h.net hf) (st_f (by decide) (st_b (isOf0_y h.net ht) (st_f (by decide) (st_f (by simp (disch := first | omega | decide) only [lt1, nnMl, nnMr, nnAl, nnAr, nnA, nnM, nnB, nnT, nnP, nnE, nnEl, nnEr, nnL, nnLl, nnLr, nnQ, nnQr, nnN, Nat.add_zero, if_false, if_true, Option.bind_some, not_true, not_false_iff, not_true_eq_false, not_false_eq_true, eq_self, Nat.not_lt_zero, z10, z01, or_true, true_or, or_false, false_or, true_and, false_and, hft]) (st_b (mf) (st_t rfl rfl)))))))
  have xf := isField_k h.net hf hfl
  rcases chk v3 500 500 rfl (by decide) with ⟨lo, hlo, rfl, x3, m3⟩ | ⟨x3, m3⟩
  rotate_left
  · refine ⟨0, 0, -1, g, g, ?_, ?_, hR⟩
    · unfold x_channel
      rw [h.net.cC]
      exact st_f (by simp (disch := first | omega | decide) only [lt1, nnMl, nnMr, nnAl, nnAr, nnA, nnM, nnB, nnT, nnP, nnE, nnEl, nnEr, nnL, nnLl, nnLr, nnQ, nnQr, nnN, Nat.add_zero, if_false, if_true, Option.bind_some, not_true, not_false_iff, not_true_eq_false, not_false_eq_true, eq_self, Nat.not_lt_zero, z10, z01, or_true, true_or, or_false, false_or, true_and, false_and, hc1]) (st_b (hasNode_y h.net hf) (st_f (by decide) (st_b (hasNode_y h.net ht) (st_t (by decide) (st_f (by simp (disch := first | omega | decide) only [lt1, nnMl, nnMr, nnAl, nnAr, nnA, nnM, nnB, nnT, nnP, nnE, nnEl, nnEr, nnL, nnLl, nnLr, nnQ, nnQr, nnN, Nat.add_zero, if_false, if_true, Option.bind_some, not_true, not_false_iff, not_true_eq_false, not_false_eq_true, eq_self, Nat.not_lt_zero, z10, z01, or_true, true_or, or_false, false_or, true_and, false_and, hft]) (st_b (xf) (st_t rfl (st_b (x3 _) (st_t rfl rfl)))))))))
    · unfold m_channel
      rw [h.net.aC]
      exact st_f (fun e => hcn ((nnQ (a := C) (b := 14) (by omega) (by decide)).mp e)) (st_b (isOf0_y h.net hf) (st_f (by decide) (st_b (isOf0_y h.net ht) (st_f (by decide) (st_f (by simp (disch := first | omega | decide) only [lt1, nnMl, nnMr, nnAl, nnAr, nnA, nnM, nnB, nnT, nnP, nnE, nnEl, nnEr, nnL, nnLl, nnLr, nnQ, nnQr, nnN, Nat.add_zero, if_false, if_true, Option.bind_some, not_true, not_false_iff, not_true_eq_false, not_false_eq_true, eq_self, Nat.not_lt_zero, z10, z01, or_true, true_or, or_false, false_or, true_and, false_and, hft]) (st_b (mf) (st_f hfl (st_b (m3 _) (st_t rfl rfl)))))))))
  rcases chkB v4 lo 500 500 rfl (by decide) hlo with ⟨hi, hlh, hhi, rfl, x4, m4⟩ | ⟨x4, m4⟩
  rotate_left
  · refine ⟨0, 0, -1, g, g, ?_, ?_, hR⟩
    · unfold x_channel
      rw [h.net.cC]
      exact st_f (by simp (disch := first | omega | decide) only [lt1, nnMl, nnMr, nnAl, nnAr, nnA, nnM, nnB, nnT, nnP, nnE, nnEl, nnEr, nnL, nnLl, nnLr, nnQ, nnQr, nnN, Nat.add_zero, if_false, if_true, Option.bind_some, not_true, not_false_iff, not_true_eq_false, not_false_eq_true, eq_self, Nat.not_lt_zero, z10, z01, or_true, true_or, or_false, false_or, true_and, false_and, hc1]) (st_b (hasNode_y h.net hf) (st_f (by decide) (st_b (hasNode_y h.net ht) (st_t (by decide) (st_f (by simp (disch := first | omega | decide) only [lt1, nnMl, nnMr, nnAl, nnAr, nnA, nnM, nnB, nnT, nnP, nnE, nnEl, nnEr, nnL, nnLl, nnLr, nnQ, nnQr, nnN, Nat.add_zero, if_false, if_true, Option.bind_some, not_true, not_false_iff, not_true_eq_false, not_false_eq_true, eq_self, Nat.not_lt_zero, z10, z01, or_true, true_or, or_false, false_or, true_and, false_and, hft]) (st_b (xf) (st_t rfl (st_b (x3 _) (st_f (by decide) (st_b (x4 _) (st_f (by decide) rfl)))))))))))
    · unfold m_channel
      rw [h.net.aC]
      exact st_f (fun e => hcn ((nnQ (a := C) (b := 14) (by omega) (by decide)).mp e)) (st_b (isOf0_y h.net hf) (st_f (by decide) (st_b (isOf0_y h.net ht) (st_f (by decide) (st_f (by simp (disch := first | omega | decide) only [lt1, nnMl, nnMr, nnAl, nnAr, nnA, nnM, nnB, nnT, nnP, nnE, nnEl, nnEr, nnL, nnLl, nnLr, nnQ, nnQr, nnN, Nat.add_zero, if_false, if_true, Option.bind_some, not_true, not_false_iff, not_true_eq_false, not_false_eq_true, eq_self, Nat.not_lt_zero, z10, z01, or_true, true_or, or_false, false_or, true_and, false_and, hft]) (st_b (mf) (st_f hfl (st_b (m3 _) (st_f (by decide) (st_b (m4 _) (st_t rfl rfl)))))))))))
  rcases chk v5 8 8 rfl (by decide) with ⟨tr, htr, rfl, x5, m5⟩ | ⟨x5, m5⟩
  rotate_left
  · refine ⟨0, 0, -1, g, g, ?_, ?_, hR⟩
    · unfold x_channel
      rw [h.net.cC]
      exact st_f (by simp (disch := first | omega | decide) only [lt1, nnMl, nnMr, nnAl, nnAr, nnA, nnM, nnB, nnT, nnP, nnE, nnEl, nnEr, nnL, nnLl, nnLr, nnQ, nnQr, nnN, Nat.add_zero, if_false, if_true, Option.bind_some, not_true, not_false_iff, not_true_eq_false, not_false_eq_true, eq_self, Nat.not_lt_zero, z10, z01, or_true, true_or, or_false, false_or, true_and, false_and, hc1]) (st_b (hasNode_y h.net hf) (st_f (by decide) (st_b (hasNode_y h.net ht) (st_t (by decide) (st_f (by simp (disch := first | omega | decide) only [lt1, nnMl, nnMr, nnAl, nnAr, nnA, nnM, nnB, nnT, nnP, nnE, nnEl, nnEr, nnL, nnLl, nnLr, nnQ, nnQr, nnN, Nat.add_zero, if_false, if_true, Option.bind_some, not_true, not_false_iff, not_true_eq_false, not_false_eq_true, eq_self, Nat.not_lt_zero, z10, z01, or_true, true_or, or_false, false_or, true_and, false_and, hft]) (st_b (xf) (st_t rfl (st_b (x3 _) (st_f (by decide) (st_b (x4 _) (st_t (by decide) (st_b (x5 _) (st_t rfl rfl)))))))))))))
    · unfold m_channel
      rw [h.net.aC]
      exact st_f (fun e => hcn ((nnQ (a := C) (b := 14) (by omega) (by decide)).mp e)) (st_b (isOf0_y h.net hf) (st_f (by decide) (st_b (isOf0_y h.net ht) (st_f (by decide) (st_f (by simp (disch := first | omega | decide) only [lt1, nnMl, nnMr, nnAl, nnAr, nnA, nnM, nnB, nnT, nnP, nnE, nnEl, nnEr, nnL, nnLl, nnLr, nnQ, nnQr, nnN, Nat.add_zero, if_false, if_true, Option.bind_some, not_true, not_false_iff, not_true_eq_false, not_false_eq_true, eq_self, Nat.not_lt_zero, z10, z01, or_true, true_or, or_false, false_or, true_and, false_and, hft]) (st_b (mf) (st_f hfl (st_b (m3 _) (st_f (by decide) (st_b (m4 _) (st_f (by decide) (st_b (m5 _) (st_t rfl rfl)))))))))))))
  rcases chkB v6 1 9999 9999 rfl (by decide) (by decide) with ⟨br, hb1, hb2, rfl, x6, m6⟩ | ⟨x6, m6⟩
  rotate_left
  · have x6 : ∀ g : Sg, x_within v6 1 9999 g = some 0 := x6
    have m6 : ∀ g : Sg, m_isIn v6 1 9999 g = some 0 := m6
    refine ⟨0, 0, -1, g, g, ?_, ?_, hR⟩
    · unfold x_channel
      rw [h.net.cC]
      exact st_f (by simp (disch := first | omega | decide) only [lt1, nnMl, nnMr, nnAl, nnAr, nnA, nnM, nnB, nnT, nnP, nnE, nnEl, nnEr, nnL, nnLl, nnLr, nnQ, nnQr, nnN, Nat.add_zero, if_false, if_true, Option.bind_some, not_true, not_false_iff, not_true_eq_false, not_false_eq_true, eq_self, Nat.not_lt_zero, z10, z01, or_true, true_or, or_false, false_or, true_and, false_and, hc1]) (st_b (hasNode_y h.net hf) (st_f (by decide) (st_b (hasNode_y h.net ht) (st_t (by decide) (st_f (by simp (disch := first | omega | decide) only [lt1, nnMl, nnMr, nnAl, nnAr, nnA, nnM, nnB, nnT, nnP, nnE, nnEl, nnEr, nnL, nnLl, nnLr, nnQ, nnQr, nnN, Nat.add_zero, if_false, if_true, Option.bind_some, not_true, not_false_iff, not_true_eq_false, not_false_eq_true, eq_self, Nat.not_lt_zero, z10, z01, or_true, true_or, or_false, false_or, true_and, false_and, hft]) (st_b (xf) (st_t rfl (st_b (x3 _) (st_f (by decide) (st_b (x4 _) (st_t (by decide) (st_b (x5 _) (st_f (by decide) (st_b (x6 _) (st_f (by decide) rfl)))))))))))))))
    · unfold m_channel
      rw [h.net.aC]
      exact st_f (fun e => hcn ((nnQ (a := C) (b := 14) (by omega) (by decide)).mp e)) (st_b (isOf0_y h.net hf) (st_f (by decide) (st_b (isOf0_y h.net ht) (st_f (by decide) (st_f (by simp (disch := first | omega | decide) only [lt1, nnMl, nnMr, nnAl, nnAr, nnA, nnM, nnB, nnT, nnP, nnE, nnEl, nnEr, nnL, nnLl, nnLr, nnQ, nnQr, nnN, Nat.add_zero, if_false, if_true, Option.bind_some, not_true, not_false_iff, not_true_eq_false, not_false_eq_true, eq_self, Nat.not_lt_zero, z10, z01, or_true, true_or, or_false, false_or, true_and, false_and, hft]) (st_b (mf) (st_f hfl (st_b (m3 _) (st_f (by decide) (st_b (m4 _) (st_f (by decide) (st_b (m5 _) (st_f (by decide) (st_b (m6 _) (st_f (by decide) rfl)))))))))))))))
  have x6 : ∀ g : Sg, x_within (nn br) 1 9999 g = some 1 := x6
  have m6 : ∀ g : Sg, m_isIn (nn br) 1 9999 g = some 1 := m6
  have j0 : 190 + 7 * C < 20360 := by omega
  have j1 : 190 + 7 * C + 1 < 20360 := by omega
  have j2 : 190 + 7 * C + 2 < 20360 := by omega
  have j3 : 190 + 7 * C + 3 < 20360 := by omega
  have j4 : 190 + 7 * C + 4 < 20360 := by omega
  have j5 : 190 + 7 * C + 5 < 20360 := by omega
  have j6 : 190 + 7 * C + 6 < 20360 := by omega
  have hm : ∀ g1 : Sg, g1 216 = g 216 → m_channel (nn f) (nn t) (nn lo) (nn hi) (nn tr) (nn br) g1 = some (nn C, up2 (up2 (up2 (up2 (up2 (up2 (up2 (up2 g1 216 (190 + 7 * C) (nn f)) 216 (190 + 7 * C + 1) (nn t)) 216 (190 + 7 * C + 2) (nn lo)) 216 (190 + 7 * C + 3) (nn hi)) 216 (190 + 7 * C + 4) (nn tr)) 216 (190 + 7 * C + 5) (nn br)) 216 (190 + 7 * C + 6) 0) 216 1 (nn (C + 1))) := by
    intro g1 e1
    have k1 : m_isOf_k0 (nn f) g1 = some 1 := by
      rw [← isOf0_y h.net hf]; unfold m_isOf_k0 m_isIn; rw [e1]
    have k2 : m_isOf_k0 (nn t) g1 = some 1 := by
      rw [← isOf0_y h.net ht]; unfold m_isOf_k0 m_isIn; rw [e1]
    have k3 : m_nodeOf_k0 (nn f) g1 = some (g 3 f) := by
      rw [← mf]; unfold m_nodeOf_k0; rw [e1]
    unfold m_channel
    rw [e1, h.net.aC]
    refine st_f (fun e => hcn ((nnQ (a := C) (b := 14) (by omega) (by decide)).mp e)) ?_
    refine st_b k1 (st_f (by decide) ?_)
    refine st_b k2 (st_f (by decide) ?_)
    refine st_f (by simp (disch := first | omega | decide) only [lt1, nnMl, nnMr, nnAl, nnAr, nnA, nnM, nnB, nnT, nnP, nnE, nnEl, nnEr, nnL, nnLl, nnLr, nnQ, nnQr, nnN, Nat.add_zero, if_false, if_true, Option.bind_some, not_true, not_false_iff, not_true_eq_false, not_false_eq_true, eq_self, Nat.not_lt_zero, z10, z01, or_true, true_or, or_false, false_or, true_and, false_and, hft]) ?_
    refine st_b k3 (st_f hfl ?_)
    refine st_b (m3 _) (st_f (by decide) ?_)
    refine st_b (m4 _) (st_f (by decide) ?_)
    refine st_b (m5 _) (st_f (by decide) ?_)
    refine st_b (m6 _) (st_t (by decide) (st_l ?_))
    have e5 : (190 + 7 * nn C : Int32) = nn (190 + 7 * C) := by simp (disch := first | omega | decide) only [lt1, nnMl, nnMr, nnAl, nnAr, nnA, nnM, nnB, nnT, nnP, nnE, nnEl, nnEr, nnL, nnLl, nnLr, nnQ, nnQr, nnN, Nat.add_zero, if_false, if_true, Option.bind_some, not_true, not_false_iff, not_true_eq_false, not_false_eq_true, eq_self, Nat.not_lt_zero, z10, z01, or_true, true_or, or_false, false_or, true_and, false_and]
    rw [e5]
    refine st_w (by simp (disch := first | omega | decide) only [lt1, nnMl, nnMr, nnAl, nnAr, nnA, nnM, nnB, nnT, nnP, nnE, nnEl, nnEr, nnL, nnLl, nnLr, nnQ, nnQr, nnN, Nat.add_zero, if_false, if_true, Option.bind_some, not_true, not_false_iff, not_true_eq_false, not_false_eq_true, eq_self, Nat.not_lt_zero, z10, z01, or_true, true_or, or_false, false_or, true_and, false_and, j0]) (st_w (by simp (disch := first | omega | decide) only [lt1, nnMl, nnMr, nnAl, nnAr, nnA, nnM, nnB, nnT, nnP, nnE, nnEl, nnEr, nnL, nnLl, nnLr, nnQ, nnQr, nnN, Nat.add_zero, if_false, if_true, Option.bind_some, not_true, not_false_iff, not_true_eq_false, not_false_eq_true, eq_self, Nat.not_lt_zero, z10, z01, or_true, true_or, or_false, false_or, true_and, false_and, j1]) (st_w (by simp (disch := first | omega | decide) only [lt1, nnMl, nnMr, nnAl, nnAr, nnA, nnM, nnB, nnT, nnP, nnE, nnEl, nnEr, nnL, nnLl, nnLr, nnQ, nnQr, nnN, Nat.add_zero, if_false, if_true, Option.bind_some, not_true, not_false_iff, not_true_eq_false, not_false_eq_true, eq_self, Nat.not_lt_zero, z10, z01, or_true, true_or, or_false, false_or, true_and, false_and, j2]) (st_w (by simp (disch := first | omega | decide) only [lt1, nnMl, nnMr, nnAl, nnAr, nnA, nnM, nnB, nnT, nnP, nnE, nnEl, nnEr, nnL, nnLl, nnLr, nnQ, nnQr, nnN, Nat.add_zero, if_false, if_true, Option.bind_some, not_true, not_false_iff, not_true_eq_false, not_false_eq_true, eq_self, Nat.not_lt_zero, z10, z01, or_true, true_or, or_false, false_or, true_and, false_and, j3]) (st_w (by simp (disch := first | omega | decide) only [lt1, nnMl, nnMr, nnAl, nnAr, nnA, nnM, nnB, nnT, nnP, nnE, nnEl, nnEr, nnL, nnLl, nnLr, nnQ, nnQr, nnN, Nat.add_zero, if_false, if_true, Option.bind_some, not_true, not_false_iff, not_true_eq_false, not_false_eq_true, eq_self, Nat.not_lt_zero, z10, z01, or_true, true_or, or_false, false_or, true_and, false_and, j4]) (st_w (by simp (disch := first | omega | decide) only [lt1, nnMl, nnMr, nnAl, nnAr, nnA, nnM, nnB, nnT, nnP, nnE, nnEl, nnEr, nnL, nnLl, nnLr, nnQ, nnQr, nnN, Nat.add_zero, if_false, if_true, Option.bind_some, not_true, not_false_iff, not_true_eq_false, not_false_eq_true, eq_self, Nat.not_lt_zero, z10, z01, or_true, true_or, or_false, false_or, true_and, false_and, j5]) (st_w (by simp (disch := first | omega | decide) only [lt1, nnMl, nnMr, nnAl, nnAr, nnA, nnM, nnB, nnT, nnP, nnE, nnEl, nnEr, nnL, nnLl, nnLr, nnQ, nnQr, nnN, Nat.add_zero, if_false, if_true, Option.bind_some, not_true, not_false_iff, not_true_eq_false, not_false_eq_true, eq_self, Nat.not_lt_zero, z10, z01, or_true, true_or, or_false, false_or, true_and, false_and, j6]) (st_l ?_)))))))
    simp (disch := first | omega | decide) only [lt1, nnMl, nnMr, nnAl, nnAr, nnA, nnM, nnB, nnT, nnP, nnE, nnEl, nnEr, nnL, nnLl, nnLr, nnQ, nnQr, nnN, Nat.add_zero, if_false, if_true, Option.bind_some, not_true, not_false_iff, not_true_eq_false, not_false_eq_true, eq_self, Nat.not_lt_zero, z10, z01, or_true, true_or, or_false, false_or, true_and, false_and, u2e, u2n, up1_eq, up1_ne, ne_eq, nnS1, e1, h.net.aC]
  have k9 : ¬ C + 1 ≤ C := by omega
  refine ⟨0, 0, nn C, up2 (up2 (up2 (up2 (up2 (up2 (up2 g 9 C (nn f)) 10 C (nn t)) 2 6 (nn (C + 1))) 11 C (nn lo)) 12 C (nn hi)) 13 C (nn tr)) 14 C (nn br), _, ?_, hm _ (by simp (disch := first | omega | decide) only [u2e, u2n, up1_eq, up1_ne, ne_eq]), ?_⟩
  · unfold x_channel
    rw [h.net.cC]
    refine st_f (by simp (disch := first | omega | decide) only [lt1, nnMl, nnMr, nnAl, nnAr, nnA, nnM, nnB, nnT, nnP, nnE, nnEl, nnEr, nnL, nnLl, nnLr, nnQ, nnQr, nnN, Nat.add_zero, if_false, if_true, Option.bind_some, not_true, not_false_iff, not_true_eq_false, not_false_eq_true, eq_self, Nat.not_lt_zero, z10, z01, or_true, true_or, or_false, false_or, true_and, false_and, hc1]) ?_
    refine st_b (hasNode_y h.net hf) (st_f (by decide) ?_)
    refine st_b (hasNode_y h.net ht) (st_t (by decide) ?_)
    refine st_f (by simp (disch := first | omega | decide) only [lt1, nnMl, nnMr, nnAl, nnAr, nnA, nnM, nnB, nnT, nnP, nnE, nnEl, nnEr, nnL, nnLl, nnLr, nnQ, nnQr, nnN, Nat.add_zero, if_false, if_true, Option.bind_some, not_true, not_false_iff, not_true_eq_false, not_false_eq_true, eq_self, Nat.not_lt_zero, z10, z01, or_true, true_or, or_false, false_or, true_and, false_and, hft]) ?_
    refine st_b xf (st_t rfl ?_)
    refine st_b (x3 _) (st_f (by decide) ?_)
    refine st_b (x4 _) (st_t (by decide) ?_)
    refine st_b (x5 _) (st_f (by decide) ?_)
    refine st_b (x6 _) (st_t (by decide) ?_)
    refine st_b (x := (nn C, up2 (up2 (up2 g 9 C (nn f)) 10 C (nn t)) 2 6 (nn (C + 1)))) ?_ ?_
    · unfold net_addChannel
      simp (disch := first | omega | decide) only [lt1, nnMl, nnMr, nnAl, nnAr, nnA, nnM, nnB, nnT, nnP, nnE, nnEl, nnEr, nnL, nnLl, nnLr, nnQ, nnQr, nnN, Nat.add_zero, if_false, if_true, Option.bind_some, not_true, not_false_iff, not_true_eq_false, not_false_eq_true, eq_self, Nat.not_lt_zero, z10, z01, or_true, true_or, or_false, false_or, true_and, false_and, u2e, u2n, up1_eq, up1_ne, ne_eq, hc2, h.net.cC]
    · refine st_b (x := 1) ?_ (st_f (by decide) ?_)
      · unfold net_hasChannel
        simp (disch := first | omega | decide) only [lt1, nnMl, nnMr, nnAl, nnAr, nnA, nnM, nnB, nnT, nnP, nnE, nnEl, nnEr, nnL, nnLl, nnLr, nnQ, nnQr, nnN, Nat.add_zero, if_false, if_true, Option.bind_some, not_true, not_false_iff, not_true_eq_false, not_false_eq_true, eq_self, Nat.not_lt_zero, z10, z01, or_true, true_or, or_false, false_or, true_and, false_and, u2e, u2n, up1_eq, up1_ne, ne_eq, hc1, k9]
      · refine st_w (by simp (disch := first | omega | decide) only [lt1, nnMl, nnMr, nnAl, nnAr, nnA, nnM, nnB, nnT, nnP, nnE, nnEl, nnEr, nnL, nnLl, nnLr, nnQ, nnQr, nnN, Nat.add_zero, if_false, if_true, Option.bind_some, not_true, not_false_iff, not_true_eq_false, not_false_eq_true, eq_self, Nat.not_lt_zero, z10, z01, or_true, true_or, or_false, false_or, true_and, false_and, hc2]) (st_w (by simp (disch := first | omega | decide) only [lt1, nnMl, nnMr, nnAl, nnAr, nnA, nnM, nnB, nnT, nnP, nnE, nnEl, nnEr, nnL, nnLl, nnLr, nnQ, nnQr, nnN, Nat.add_zero, if_false, if_true, Option.bind_some, not_true, not_false_iff, not_true_eq_false, not_false_eq_true, eq_self, Nat.not_lt_zero, z10, z01, or_true, true_or, or_false, false_or, true_and, false_and, hc2]) (st_w (by simp (disch := first | omega | decide) only [lt1, nnMl, nnMr, nnAl, nnAr, nnA, nnM, nnB, nnT, nnP, nnE, nnEl, nnEr, nnL, nnLl, nnLr, nnQ, nnQr, nnN, Nat.add_zero, if_false, if_true, Option.bind_some, not_true, not_false_iff, not_true_eq_false, not_false_eq_true, eq_self, Nat.not_lt_zero, z10, z01, or_true, true_or, or_false, false_or, true_and, false_and, hc2]) (st_w (by simp (disch := first | omega | decide) only [lt1, nnMl, nnMr, nnAl, nnAr, nnA, nnM, nnB, nnT, nnP, nnE, nnEl, nnEr, nnL, nnLl, nnLr, nnQ, nnQr, nnN, Nat.add_zero, if_false, if_true, Option.bind_some, not_true, not_false_iff, not_true_eq_false, not_false_eq_true, eq_self, Nat.not_lt_zero, z10, z01, or_true, true_or, or_false, false_or, true_and, false_and, hc2]) ?_)))
        simp (disch := first | omega | decide) only [lt1, nnMl, nnMr, nnAl, nnAr, nnA, nnM, nnB, nnT, nnP, nnE, nnEl, nnEr, nnL, nnLl, nnLr, nnQ, nnQr, nnN, Nat.add_zero, if_false, if_true, Option.bind_some, not_true, not_false_iff, not_true_eq_false, not_false_eq_true, eq_self, Nat.not_lt_zero, z10, z01, or_true, true_or, or_false, false_or, true_and, false_and, u2e, u2n, up1_eq, up1_ne, ne_eq]
  · exact RR.put hT hR ⟨N, C + 1, Q, D, T, L, G, h.net.pushC hc2 ⟨f, t, by omega, ht, rfl, rfl⟩ ⟨lo, hlo, rfl⟩ ⟨hi, hhi, rfl⟩ ⟨tr, htr, rfl⟩ ⟨br, hb1, hb2, rfl⟩ (fun i e1 e2 e3 e4 e5 e6 e7 e8 e9 => by simp (disch := first | omega | decide) only [u2e, u2n, up1_eq, up1_ne, ne_eq]) (by simp (disch := first | omega | decide) only [u2e, u2n, up1_eq, up1_ne, ne_eq]) (by simp (disch := first | omega | decide) only [u2e, u2n, up1_eq, up1_ne, ne_eq]) (by simp (disch := first | omega | decide) only [u2e, u2n, up1_eq, up1_ne, ne_eq]) (by simp (disch := first | omega | decide) only [u2e, u2n, up1_eq, up1_ne, ne_eq]) (by simp (disch := first | omega | decide) only [u2e, u2n, up1_eq, up1_ne, ne_eq]) (by simp (disch := first | omega | decide) only [u2e, u2n, up1_eq, up1_ne, ne_eq]) (by simp (disch := first | omega | decide) only [u2e, u2n, up1_eq, up1_ne, ne_eq]) (by simp (disch := first | omega | decide) only [u2e, u2n, up1_eq, up1_ne, ne_eq]) (by simp (disch := first | omega | decide) only [u2e, u2n, up1_eq, up1_ne, ne_eq]) (by simp (disch := first | omega | decide) only [u2e, u2n, up1_eq, up1_ne, ne_eq]) (by simp (disch := first | omega | decide) only [u2e, u2n, up1_eq, up1_ne, ne_eq]) (by simp (disch := first | omega | decide) only [u2e, u2n, up1_eq, up1_ne, ne_eq]) (by simp (disch := first | omega | decide) only [u2e, u2n, up1_eq, up1_ne, ne_eq]) (by simp (disch := first | omega | decide) only [u2e, u2n, up1_eq, up1_ne, ne_eq]) (by simp (disch := first | omega | decide) only [u2e, u2n, up1_eq, up1_ne, ne_eq]) (fun j hj e1 e2 => by simp (disch := first | omega | decide) only [u2e, u2n, up1_eq, up1_ne, ne_eq]), h.rig.fr (fun i e1 e2 => by simp (disch := first | omega | decide) only [u2e, u2n, up1_eq, up1_ne, ne_eq]) (fun j hj => by unfold iRig at hj; simp (disch := first | omega | decide) only [u2e, u2n, up1_eq, up1_ne, ne_eq]), h.law.fr (fun i e1 e2 => by simp (disch := first | omega | decide) only [u2e, u2n, up1_eq, up1_ne, ne_eq]) (fun j hj => by unfold iLaw at hj; simp (disch := first | omega | decide) only [u2e, u2n, up1_eq, up1_ne, ne_eq]), h.gau.growC.fr (fun i e1 e2 => by simp (disch := first | omega | decide) only [u2e, u2n, up1_eq, up1_ne, ne_eq]) (fun j hj => by unfold iGau at hj; simp (disch := first | omega | decide) only [u2e, u2n, up1_eq, up1_ne, ne_eq])⟩ (fun i e1 e2 => by simp (disch := first | omega | decide) only [u2e, u2n, up1_eq, up1_ne, ne_eq]) (fun j e1 => by simp (disch := first | omega | decide) only [u2e, u2n, up1_eq, up1_ne, ne_eq]) (by simp (disch := first | omega | decide) only [u2e, u2n, up1_eq, up1_ne, ne_eq]) (fun i e1 e2 => by simp (disch := first | omega | decide) only [u2e, u2n, up1_eq, up1_ne, ne_eq])
end SG
end
section
/-! sums: look, all, count -/
theorem sumTo_add (f : Nat → Int32) (m : Nat) : ∀ k, sumTo f (m + k) = sumTo f m + sumTo (fun i => f (m + i)) k
  | 0 => (Int32.add_zero _).symm
  | k + 1 => by
    show sumTo f (m + k) + f (m + k) = sumTo f m + (sumTo (fun i => f (m + i)) k + f (m + k))
    rw [sumTo_add f m k, Int32.add_assoc]
theorem sumTo_blk (f : Nat → Int32) : ∀ C, sumTo (fun c => sumTo (fun i => f (c * 9 + i)) 9) C = sumTo f (C * 9)
  | 0 => rfl
  | C + 1 => by
    show sumTo (fun c => sumTo (fun i => f (c * 9 + i)) 9) C + sumTo (fun i => f (C * 9 + i)) 9 = _
    rw [sumTo_blk f C, Nat.succ_mul, sumTo_add]
theorem sumTo_z {f : Nat → Int32} : ∀ {n : Nat}, (∀ i, i < n → f i = 0) → sumTo f n = 0
  | 0, _ => rfl
  | n + 1, h => by
    show sumTo f n + f n = 0
    rw [sumTo_z (fun i hi => h i (by omega)), h n (by omega)]
    rfl
theorem sumTo_ext {f : Nat → Int32} {n m : Nat} (h : n ≤ m) (hz : ∀ i, n ≤ i → i < m → f i = 0) : sumTo f n = sumTo f m := by
  obtain ⟨k, rfl⟩ : ∃ k, m = n + k := ⟨m - n, by omega⟩
  rw [sumTo_add, sumTo_z (fun i hi => hz (n + i) (by omega) (by omega)), Int32.add_zero]
section SH
variable {g : Sg} {N C Q : Nat}
theorem uwL0 {c : Nat} (hc : c < 14) : ∀ k j F, j + k = 9 → k < F → net_underWay_k0_5 F (nn c) (sumTo (fun i => g 17 (c * 9 + i)) j) (nn j) g = some (sumTo (fun i => g 17 (c * 9 + i)) 9) := by
  intro k
  induction k with
  | zero =>
    intro j F hj hF
    obtain ⟨F, rfl⟩ : ∃ F2, F = F2 + 1 := ⟨F - 1, by omega⟩
    have : j = 9 := by omega
    subst this
    unfold net_underWay_k0_5
    exact if_pos (by decide)
  | succ k ih =>
    intro j F hj hF
    obtain ⟨F, rfl⟩ : ∃ F2, F = F2 + 1 := ⟨F - 1, by omega⟩
    have h1 : c * 9 + j < 126 := by omega
    have h2 : ¬ 9 ≤ j := by omega
    unfold net_underWay_k0_5
    refine st_f (by simp (disch := first | omega | decide) only [lt1, nnMl, nnMr, nnAl, nnAr, nnA, nnM, nnB, nnT, nnP, nnE, nnEl, nnEr, nnL, nnLl, nnLr, nnQ, nnQr, nnN, Nat.add_zero, if_false, if_true, Option.bind_some, not_true, not_false_iff, not_true_eq_false, not_false_eq_true, eq_self, Nat.not_lt_zero, z10, z01, or_true, true_or, or_false, false_or, true_and, false_and, h2]) (st_w (by simp (disch := first | omega | decide) only [lt1, nnMl, nnMr, nnAl, nnAr, nnA, nnM, nnB, nnT, nnP, nnE, nnEl, nnEr, nnL, nnLl, nnLr, nnQ, nnQr, nnN, Nat.add_zero, if_false, if_true, Option.bind_some, not_true, not_false_iff, not_true_eq_false, not_false_eq_true, eq_self, Nat.not_lt_zero, z10, z01, or_true, true_or, or_false, false_or, true_and, false_and, h1]) ?_)
    refine Eq.trans ?_ (ih (j + 1) F (by omega) (by omega))
    simp (disch := first | omega | decide) only [lt1, nnMl, nnMr, nnAl, nnAr, nnA, nnM, nnB, nnT, nnP, nnE, nnEl, nnEr, nnL, nnLl, nnLr, nnQ, nnQr, nnN, Nat.add_zero, if_false, if_true, Option.bind_some, not_true, not_false_iff, not_true_eq_false, not_false_eq_true, eq_self, Nat.not_lt_zero, z10, z01, or_true, true_or, or_false, false_or, true_and, false_and, sumTo]
theorem uw0 {c F : Nat} (hc : c < 14) (hF : 9 < F) : net_underWay_k0 F (nn c) g = some (sumTo (fun i => g 17 (c * 9 + i)) 9) := uwL0 hc 9 0 F rfl hF
theorem auwL0 (h : RNet g (g 216) N C Q) {F0 : Nat} (hF0 : 9 < F0) : ∀ k j F, j + k = C → k < F → net_allUnderWay_k0_4 F0 F (sumTo (fun c => sumTo (fun i => g 17 (c * 9 + i)) 9) j) (nn j) g = some (sumTo (fun c => sumTo (fun i => g 17 (c * 9 + i)) 9) C) := by
  have hC := h.hC
  intro k
  induction k with
  | zero =>
    intro j F hj hF
    obtain ⟨F, rfl⟩ : ∃ F2, F = F2 + 1 := ⟨F - 1, by omega⟩
    have : j = C := by omega
    subst this
    unfold net_allUnderWay_k0_4
    rw [h.cC]
    exact if_pos (by simp (disch := first | omega | decide) only [lt1, nnMl, nnMr, nnAl, nnAr, nnA, nnM, nnB, nnT, nnP, nnE, nnEl, nnEr, nnL, nnLl, nnLr, nnQ, nnQr, nnN, Nat.add_zero, if_false, if_true, Option.bind_some, not_true, not_false_iff, not_true_eq_false, not_false_eq_true, eq_self, Nat.not_lt_zero, z10, z01, or_true, true_or, or_false, false_or, true_and, false_and, Nat.le_refl])
  | succ k ih =>
    intro j F hj hF
    obtain ⟨F, rfl⟩ : ∃ F2, F = F2 + 1 := ⟨F - 1, by omega⟩
    have h2 : ¬ C ≤ j := by omega
    unfold net_allUnderWay_k0_4
    rw [h.cC]
    refine st_f (by simp (disch := first | omega | decide) only [lt1, nnMl, nnMr, nnAl, nnAr, nnA, nnM, nnB, nnT, nnP, nnE, nnEl, nnEr, nnL, nnLl, nnLr, nnQ, nnQr, nnN, Nat.add_zero, if_false, if_true, Option.bind_some, not_true, not_false_iff, not_true_eq_false, not_false_eq_true, eq_self, Nat.not_lt_zero, z10, z01, or_true, true_or, or_false, false_or, true_and, false_and, h2]) (st_b (uw0 (by omega) hF0) (st_l ?_))
    refine Eq.trans ?_ (ih (j + 1) F (by omega) (by omega))
    simp (disch := first | omega | decide) only [lt1, nnMl, nnMr, nnAl, nnAr, nnA, nnM, nnB, nnT, nnP, nnE, nnEl, nnEr, nnL, nnLl, nnLr, nnQ, nnQr, nnN, Nat.add_zero, if_false, if_true, Option.bind_some, not_true, not_false_iff, not_true_eq_false, not_false_eq_true, eq_self, Nat.not_lt_zero, z10, z01, or_true, true_or, or_false, false_or, true_and, false_and, sumTo]
theorem auw0 (h : RNet g (g 216) N C Q) {F : Nat} (hF : 20 < F) : net_allUnderWay_k0 F g = some (sumTo (g 17) 126) := by
  have hC := h.hC
  refine (auwL0 h (F0 := F) (by omega) C 0 F (by omega) (by omega)).trans ?_
  rw [sumTo_blk, sumTo_ext (by omega) (fun i h1 h2 => (h.wayZ i (by omega) h2).1)]
theorem skL0_0 (h : RNet g (g 216) N C Q) : ∀ k j F, j + k = N → k < F → net_sumOfKind_k0_0_5 F (sumTo (fun n => if g 3 n = 0 then g 7 n else 0) j) (nn j) g = some (sumTo (fun n => if g 3 n = 0 then g 7 n else 0) N) := by
  have hN := h.hN
  intro k
  induction k with
  | zero =>
    intro j F hj hF
    obtain ⟨F, rfl⟩ : ∃ F2, F = F2 + 1 := ⟨F - 1, by omega⟩
    have : j = N := by omega
    subst this
    unfold net_sumOfKind_k0_0_5
    rw [h.cN]
    exact if_pos (by simp (disch := first | omega | decide) only [lt1, nnMl, nnMr, nnAl, nnAr, nnA, nnM, nnB, nnT, nnP, nnE, nnEl, nnEr, nnL, nnLl, nnLr, nnQ, nnQr, nnN, Nat.add_zero, if_false, if_true, Option.bind_some, not_true, not_false_iff, not_true_eq_false, not_false_eq_true, eq_self, Nat.not_lt_zero, z10, z01, or_true, true_or, or_false, false_or, true_and, false_and, Nat.le_refl])
  | succ k ih =>
    intro j F hj hF
    obtain ⟨F, rfl⟩ : ∃ F2, F = F2 + 1 := ⟨F - 1, by omega⟩
    have h2 : ¬ N ≤ j := by omega
    have h1 : j < 10 := by omega
    unfold net_sumOfKind_k0_0_5
    rw [h.cN]
    refine st_f (by simp (disch := first | omega | decide) only [lt1, nnMl, nnMr, nnAl, nnAr, nnA, nnM, nnB, nnT, nnP, nnE, nnEl, nnEr, nnL, nnLl, nnLr, nnQ, nnQr, nnN, Nat.add_zero, if_false, if_true, Option.bind_some, not_true, not_false_iff, not_true_eq_false, not_false_eq_true, eq_self, Nat.not_lt_zero, z10, z01, or_true, true_or, or_false, false_or, true_and, false_and, h2]) (st_t (by simp (disch := first | omega | decide) only [lt1, nnMl, nnMr, nnAl, nnAr, nnA, nnM, nnB, nnT, nnP, nnE, nnEl, nnEr, nnL, nnLl, nnLr, nnQ, nnQr, nnN, Nat.add_zero, if_false, if_true, Option.bind_some, not_true, not_false_iff, not_true_eq_false, not_false_eq_true, eq_self, Nat.not_lt_zero, z10, z01, or_true, true_or, or_false, false_or, true_and, false_and, h1]) ?_)
    by_cases e : g 3 j = 0
    · refine st_f (by simp (disch := first | omega | decide) only [lt1, nnMl, nnMr, nnAl, nnAr, nnA, nnM, nnB, nnT, nnP, nnE, nnEl, nnEr, nnL, nnLl, nnLr, nnQ, nnQr, nnN, Nat.add_zero, if_false, if_true, Option.bind_some, not_true, not_false_iff, not_true_eq_false, not_false_eq_true, eq_self, Nat.not_lt_zero, z10, z01, or_true, true_or, or_false, false_or, true_and, false_and, e]) (st_w (by simp (disch := first | omega | decide) only [lt1, nnMl, nnMr, nnAl, nnAr, nnA, nnM, nnB, nnT, nnP, nnE, nnEl, nnEr, nnL, nnLl, nnLr, nnQ, nnQr, nnN, Nat.add_zero, if_false, if_true, Option.bind_some, not_true, not_false_iff, not_true_eq_false, not_false_eq_true, eq_self, Nat.not_lt_zero, z10, z01, or_true, true_or, or_false, false_or, true_and, false_and, h1]) ?_)
      refine Eq.trans ?_ (ih (j + 1) F (by omega) (by omega))
      simp (disch := first | omega | decide) only [lt1, nnMl, nnMr, nnAl, nnAr, nnA, nnM, nnB, nnT, nnP, nnE, nnEl, nnEr, nnL, nnLl, nnLr, nnQ, nnQr, nnN, Nat.add_zero, if_false, if_true, Option.bind_some, not_true, not_false_iff, not_true_eq_false, not_false_eq_true, eq_self, Nat.not_lt_zero, z10, z01, or_true, true_or, or_false, false_or, true_and, false_and, sumTo, e]
    · refine st_t (by simp (disch := first | omega | decide) only [lt1, nnMl, nnMr, nnAl, nnAr, nnA, nnM, nnB, nnT, nnP, nnE, nnEl, nnEr, nnL, nnLl, nnLr, nnQ, nnQr, nnN, Nat.add_zero, if_false, if_true, Option.bind_some, not_true, not_false_iff, not_true_eq_false, not_false_eq_true, eq_self, Nat.not_lt_zero, z10, z01, or_true, true_or, or_false, false_or, true_and, false_and, e]) ?_
      refine Eq.trans ?_ (ih (j + 1) F (by omega) (by omega))
      simp (disch := first | omega | decide) only [lt1, nnMl, nnMr, nnAl, nnAr, nnA, nnM, nnB, nnT, nnP, nnE, nnEl, nnEr, nnL, nnLl, nnLr, nnQ, nnQr, nnN, Nat.add_zero, if_false, if_true, Option.bind_some, not_true, not_false_iff, not_true_eq_false, not_false_eq_true, eq_self, Nat.not_lt_zero, z10, z01, or_true, true_or, or_false, false_or, true_and, false_and, sumTo, e, Int32.add_zero]
theorem sk0_0 (h : RNet g (g 216) N C Q) {F : Nat} (hF : 20 < F) : net_sumOfKind_k0_0 F g = some (sumTo (fun n => if g 3 n = 0 then g 7 n else 0) 10) := by
  have hN := h.hN
  refine (skL0_0 h N 0 F (by omega) (by omega)).trans ?_
  rw [sumTo_ext hN (fun i h1 h2 => by simp only [(h.kepZ i h1 h2).1, ite_self])]
theorem skL0_4 (h : RNet g (g 216) N C Q) : ∀ k j F, j + k = N → k < F → net_sumOfKind_k0_4_5 F (sumTo (fun n => if g 3 n = 4 then g 7 n else 0) j) (nn j) g = some (sumTo (fun n => if g 3 n = 4 then g 7 n else 0) N) := by
  have hN := h.hN
  intro k
  induction k with
  | zero =>
    intro j F hj hF
    obtain ⟨F, rfl⟩ : ∃ F2, F = F2 + 1 := ⟨F - 1, by omega⟩
    have : j = N := by omega
    subst this
    unfold net_sumOfKind_k0_4_5
    rw [h.cN]
    exact if_pos (by simp (disch := first | omega | decide) only [lt1, nnMl, nnMr, nnAl, nnAr, nnA, nnM, nnB, nnT, nnP, nnE, nnEl, nnEr, nnL, nnLl, nnLr, nnQ, nnQr, nnN, Nat.add_zero, if_false, if_true, Option.bind_some, not_true, not_false_iff, not_true_eq_false, not_false_eq_true, eq_self, Nat.not_lt_zero, z10, z01, or_true, true_or, or_false, false_or, true_and, false_and, Nat.le_refl])
  | succ k ih =>
    intro j F hj hF
    obtain ⟨F, rfl⟩ : ∃ F2, F = F2 + 1 := ⟨F - 1, by omega⟩
    have h2 : ¬ N ≤ j := by omega
    have h1 : j < 10 := by omega
    unfold net_sumOfKind_k0_4_5
    rw [h.cN]
    refine st_f (by simp (disch := first | omega | decide) only [lt1, nnMl, nnMr, nnAl, nnAr, nnA, nnM, nnB, nnT, nnP, nnE, nnEl, nnEr, nnL, nnLl, nnLr, nnQ, nnQr, nnN, Nat.add_zero, if_false, if_true, Option.bind_some, not_true, not_false_iff, not_true_eq_false, not_false_eq_true, eq_self, Nat.not_lt_zero, z10, z01, or_true, true_or, or_false, false_or, true_and, false_and, h2]) (st_t (by simp (disch := first | omega | decide) only [lt1, nnMl, nnMr, nnAl, nnAr, nnA, nnM, nnB, nnT, nnP, nnE, nnEl, nnEr, nnL, nnLl, nnLr, nnQ, nnQr, nnN, Nat.add_zero, if_false, if_true, Option.bind_some, not_true, not_false_iff, not_true_eq_false, not_false_eq_true, eq_self, Nat.not_lt_zero, z10, z01, or_true, true_or, or_false, false_or, true_and, false_and, h1]) ?_)
    by_cases e : g 3 j = 4
    · refine st_f (by simp (disch := first | omega | decide) only [lt1, nnMl, nnMr, nnAl, nnAr, nnA, nnM, nnB, nnT, nnP, nnE, nnEl, nnEr, nnL, nnLl, nnLr, nnQ, nnQr, nnN, Nat.add_zero, if_false, if_true, Option.bind_some, not_true, not_false_iff, not_true_eq_false, not_false_eq_true, eq_self, Nat.not_lt_zero, z10, z01, or_true, true_or, or_false, false_or, true_and, false_and, e]) (st_w (by simp (disch := first | omega | decide) only [lt1, nnMl, nnMr, nnAl, nnAr, nnA, nnM, nnB, nnT, nnP, nnE, nnEl, nnEr, nnL, nnLl, nnLr, nnQ, nnQr, nnN, Nat.add_zero, if_false, if_true, Option.bind_some, not_true, not_false_iff, not_true_eq_false, not_false_eq_true, eq_self, Nat.not_lt_zero, z10, z01, or_true, true_or, or_false, false_or, true_and, false_and, h1]) ?_)
      refine Eq.trans ?_ (ih (j + 1) F (by omega) (by omega))
      simp (disch := first | omega | decide) only [lt1, nnMl, nnMr, nnAl, nnAr, nnA, nnM, nnB, nnT, nnP, nnE, nnEl, nnEr, nnL, nnLl, nnLr, nnQ, nnQr, nnN, Nat.add_zero, if_false, if_true, Option.bind_some, not_true, not_false_iff, not_true_eq_false, not_false_eq_true, eq_self, Nat.not_lt_zero, z10, z01, or_true, true_or, or_false, false_or, true_and, false_and, sumTo, e]
    · refine st_t (by simp (disch := first | omega | decide) only [lt1, nnMl, nnMr, nnAl, nnAr, nnA, nnM, nnB, nnT, nnP, nnE, nnEl, nnEr, nnL, nnLl, nnLr, nnQ, nnQr, nnN, Nat.add_zero, if_false, if_true, Option.bind_some, not_true, not_false_iff, not_true_eq_false, not_false_eq_true, eq_self, Nat.not_lt_zero, z10, z01, or_true, true_or, or_false, false_or, true_and, false_and, e]) ?_
      refine Eq.trans ?_ (ih (j + 1) F (by omega) (by omega))
      simp (disch := first | omega | decide) only [lt1, nnMl, nnMr, nnAl, nnAr, nnA, nnM, nnB, nnT, nnP, nnE, nnEl, nnEr, nnL, nnLl, nnLr, nnQ, nnQr, nnN, Nat.add_zero, if_false, if_true, Option.bind_some, not_true, not_false_iff, not_true_eq_false, not_false_eq_true, eq_self, Nat.not_lt_zero, z10, z01, or_true, true_or, or_false, false_or, true_and, false_and, sumTo, e, Int32.add_zero]
theorem sk0_4 (h : RNet g (g 216) N C Q) {F : Nat} (hF : 20 < F) : net_sumOfKind_k0_4 F g = some (sumTo (fun n => if g 3 n = 4 then g 7 n else 0) 10) := by
  have hN := h.hN
  refine (skL0_4 h N 0 F (by omega) (by omega)).trans ?_
  rw [sumTo_ext hN (fun i h1 h2 => by simp only [(h.kepZ i h1 h2).1, ite_self])]
theorem skL0_2 (h : RNet g (g 216) N C Q) : ∀ k j F, j + k = N → k < F → net_sumOfKind_k0_2_5 F (sumTo (fun n => if g 3 n = 2 then g 7 n else 0) j) (nn j) g = some (sumTo (fun n => if g 3 n = 2 then g 7 n else 0) N) := by
  have hN := h.hN
  intro k
  induction k with
  | zero =>
    intro j F hj hF
    obtain ⟨F, rfl⟩ : ∃ F2, F = F2 + 1 := ⟨F - 1, by omega⟩
    have : j = N := by omega
    subst this
    unfold net_sumOfKind_k0_2_5
    rw [h.cN]
    exact if_pos (by simp (disch := first | omega | decide) only [lt1, nnMl, nnMr, nnAl, nnAr, nnA, nnM, nnB, nnT, nnP, nnE, nnEl, nnEr, nnL, nnLl, nnLr, nnQ, nnQr, nnN, Nat.add_zero, if_false, if_true, Option.bind_some, not_true, not_false_iff, not_true_eq_false, not_false_eq_true, eq_self, Nat.not_lt_zero, z10, z01, or_true, true_or, or_false, false_or, true_and, false_and, Nat.le_refl])
  | succ k ih =>
    intro j F hj hF
    obtain ⟨F, rfl⟩ : ∃ F2, F = F2 + 1 := ⟨F - 1, by omega⟩
    have h2 : ¬ N ≤ j := by omega
    have h1 : j < 10 := by omega
    unfold net_sumOfKind_k0_2_5
    rw [h.cN]
    refine st_f (by simp (disch := first | omega | decide) only [lt1, nnMl, nnMr, nnAl, nnAr, nnA, nnM, nnB, nnT, nnP, nnE, nnEl, nnEr, nnL, nnLl, nnLr, nnQ, nnQr, nnN, Nat.add_zero, if_false, if_true, Option.bind_some, not_true, not_false_iff, not_true_eq_false, not_false_eq_true, eq_self, Nat.not_lt_zero, z10, z01, or_true, true_or, or_false, false_or, true_and, false_and, h2]) (st_t (by simp (disch := first | omega | decide) only [lt1, nnMl, nnMr, nnAl, nnAr, nnA, nnM, nnB, nnT, nnP, nnE, nnEl, nnEr, nnL, nnLl, nnLr, nnQ, nnQr, nnN, Nat.add_zero, if_false, if_true, Option.bind_some, not_true, not_false_iff, not_true_eq_false, not_false_eq_true, eq_self, Nat.not_lt_zero, z10, z01, or_true, true_or, or_false, false_or, true_and, false_and, h1]) ?_)
    by_cases e : g 3 j = 2
    · refine st_f (by simp (disch := first | omega | decide) only [lt1, nnMl, nnMr, nnAl, nnAr, nnA, nnM, nnB, nnT, nnP, nnE, nnEl, nnEr, nnL, nnLl, nnLr, nnQ, nnQr, nnN, Nat.add_zero, if_false, if_true, Option.bind_some, not_true, not_false_iff, not_true_eq_false, not_false_eq_true, eq_self, Nat.not_lt_zero, z10, z01, or_true, true_or, or_false, false_or, true_and, false_and, e]) (st_w (by simp (disch := first | omega | decide) only [lt1, nnMl, nnMr, nnAl, nnAr, nnA, nnM, nnB, nnT, nnP, nnE, nnEl, nnEr, nnL, nnLl, nnLr, nnQ, nnQr, nnN, Nat.add_zero, if_false, if_true, Option.bind_some, not_true, not_false_iff, not_true_eq_false, not_false_eq_true, eq_self, Nat.not_lt_zero, z10, z01, or_true, true_or, or_false, false_or, true_and, false_and, h1]) ?_)
      refine Eq.trans ?_ (ih (j + 1) F (by omega) (by omega))
      simp (disch := first | omega | decide) only [lt1, nnMl, nnMr, nnAl, nnAr, nnA, nnM, nnB, nnT, nnP, nnE, nnEl, nnEr, nnL, nnLl, nnLr, nnQ, nnQr, nnN, Nat.add_zero, if_false, if_true, Option.bind_some, not_true, not_false_iff, not_true_eq_false, not_false_eq_true, eq_self, Nat.not_lt_zero, z10, z01, or_true, true_or, or_false, false_or, true_and, false_and, sumTo, e]
    · refine st_t (by simp (disch := first | omega | decide) only [lt1, nnMl, nnMr, nnAl, nnAr, nnA, nnM, nnB, nnT, nnP, nnE, nnEl, nnEr, nnL, nnLl, nnLr, nnQ, nnQr, nnN, Nat.add_zero, if_false, if_true, Option.bind_some, not_true, not_false_iff, not_true_eq_false, not_false_eq_true, eq_self, Nat.not_lt_zero, z10, z01, or_true, true_or, or_false, false_or, true_and, false_and, e]) ?_
      refine Eq.trans ?_ (ih (j + 1) F (by omega) (by omega))
      simp (disch := first | omega | decide) only [lt1, nnMl, nnMr, nnAl, nnAr, nnA, nnM, nnB, nnT, nnP, nnE, nnEl, nnEr, nnL, nnLl, nnLr, nnQ, nnQr, nnN, Nat.add_zero, if_false, if_true, Option.bind_some, not_true, not_false_iff, not_true_eq_false, not_false_eq_true, eq_self, Nat.not_lt_zero, z10, z01, or_true, true_or, or_false, false_or, true_and, false_and, sumTo, e, Int32.add_zero]
theorem sk0_2 (h : RNet g (g 216) N C Q) {F : Nat} (hF : 20 < F) : net_sumOfKind_k0_2 F g = some (sumTo (fun n => if g 3 n = 2 then g 7 n else 0) 10) := by
  have hN := h.hN
  refine (skL0_2 h N 0 F (by omega) (by omega)).trans ?_
  rw [sumTo_ext hN (fun i h1 h2 => by simp only [(h.kepZ i h1 h2).1, ite_self])]
theorem uwL1 {c : Nat} (hc : c < 14) : ∀ k j F, j + k = 9 → k < F → net_underWay_k1_5 F (nn c) (sumTo (fun i => g 18 (c * 9 + i)) j) (nn j) g = some (sumTo (fun i => g 18 (c * 9 + i)) 9) := by
  intro k
  induction k with
  | zero =>
    intro j F hj hF
    obtain ⟨F, rfl⟩ : ∃ F2, F = F2 + 1 := ⟨F - 1, by omega⟩
    have : j = 9 := by omega
    subst this
    unfold net_underWay_k1_5
    exact if_pos (by decide)
  | succ k ih =>
    intro j F hj hF
    obtain ⟨F, rfl⟩ : ∃ F2, F = F2 + 1 := ⟨F - 1, by omega⟩
    have h1 : c * 9 + j < 126 := by omega
    have h2 : ¬ 9 ≤ j := by omega
    unfold net_underWay_k1_5
    refine st_f (by simp (disch := first | omega | decide) only [lt1, nnMl, nnMr, nnAl, nnAr, nnA, nnM, nnB, nnT, nnP, nnE, nnEl, nnEr, nnL, nnLl, nnLr, nnQ, nnQr, nnN, Nat.add_zero, if_false, if_true, Option.bind_some, not_true, not_false_iff, not_true_eq_false, not_false_eq_true, eq_self, Nat.not_lt_zero, z10, z01, or_true, true_or, or_false, false_or, true_and, false_and, h2]) (st_w (by simp (disch := first | omega | decide) only [lt1, nnMl, nnMr, nnAl, nnAr, nnA, nnM, nnB, nnT, nnP, nnE, nnEl, nnEr, nnL, nnLl, nnLr, nnQ, nnQr, nnN, Nat.add_zero, if_false, if_true, Option.bind_some, not_true, not_false_iff, not_true_eq_false, not_false_eq_true, eq_self, Nat.not_lt_zero, z10, z01, or_true, true_or, or_false, false_or, true_and, false_and, h1]) ?_)
    refine Eq.trans ?_ (ih (j + 1) F (by omega) (by omega))
    simp (disch := first | omega | decide) only [lt1, nnMl, nnMr, nnAl, nnAr, nnA, nnM, nnB, nnT, nnP, nnE, nnEl, nnEr, nnL, nnLl, nnLr, nnQ, nnQr, nnN, Nat.add_zero, if_false, if_true, Option.bind_some, not_true, not_false_iff, not_true_eq_false, not_false_eq_true, eq_self, Nat.not_lt_zero, z10, z01, or_true, true_or, or_false, false_or, true_and, false_and, sumTo]
theorem uw1 {c F : Nat} (hc : c < 14) (hF : 9 < F) : net_underWay_k1 F (nn c) g = some (sumTo (fun i => g 18 (c * 9 + i)) 9) := uwL1 hc 9 0 F rfl hF
theorem auwL1 (h : RNet g (g 216) N C Q) {F0 : Nat} (hF0 : 9 < F0) : ∀ k j F, j + k = C → k < F → net_allUnderWay_k1_4 F0 F (sumTo (fun c => sumTo (fun i => g 18 (c * 9 + i)) 9) j) (nn j) g = some (sumTo (fun c => sumTo (fun i => g 18 (c * 9 + i)) 9) C) := by
  have hC := h.hC
  intro k
  induction k with
  | zero =>
    intro j F hj hF
    obtain ⟨F, rfl⟩ : ∃ F2, F = F2 + 1 := ⟨F - 1, by omega⟩
    have : j = C := by omega
    subst this
    unfold net_allUnderWay_k1_4
    rw [h.cC]
    exact if_pos (by simp (disch := first | omega | decide) only [lt1, nnMl, nnMr, nnAl, nnAr, nnA, nnM, nnB, nnT, nnP, nnE, nnEl, nnEr, nnL, nnLl, nnLr, nnQ, nnQr, nnN, Nat.add_zero, if_false, if_true, Option.bind_some, not_true, not_false_iff, not_true_eq_false, not_false_eq_true, eq_self, Nat.not_lt_zero, z10, z01, or_true, true_or, or_false, false_or, true_and, false_and, Nat.le_refl])
  | succ k ih =>
    intro j F hj hF
    obtain ⟨F, rfl⟩ : ∃ F2, F = F2 + 1 := ⟨F - 1, by omega⟩
    have h2 : ¬ C ≤ j := by omega
    unfold net_allUnderWay_k1_4
    rw [h.cC]
    refine st_f (by simp (disch := first | omega | decide) only [lt1, nnMl, nnMr, nnAl, nnAr, nnA, nnM, nnB, nnT, nnP, nnE, nnEl, nnEr, nnL, nnLl, nnLr, nnQ, nnQr, nnN, Nat.add_zero, if_false, if_true, Option.bind_some, not_true, not_false_iff, not_true_eq_false, not_false_eq_true, eq_self, Nat.not_lt_zero, z10, z01, or_true, true_or, or_false, false_or, true_and, false_and, h2]) (st_b (uw1 (by omega) hF0) (st_l ?_))
    refine Eq.trans ?_ (ih (j + 1) F (by omega) (by omega))
    simp (disch := first | omega | decide) only [lt1, nnMl, nnMr, nnAl, nnAr, nnA, nnM, nnB, nnT, nnP, nnE, nnEl, nnEr, nnL, nnLl, nnLr, nnQ, nnQr, nnN, Nat.add_zero, if_false, if_true, Option.bind_some, not_true, not_false_iff, not_true_eq_false, not_false_eq_true, eq_self, Nat.not_lt_zero, z10, z01, or_true, true_or, or_false, false_or, true_and, false_and, sumTo]
theorem auw1 (h : RNet g (g 216) N C Q) {F : Nat} (hF : 20 < F) : net_allUnderWay_k1 F g = some (sumTo (g 18) 126) := by
  have hC := h.hC
  refine (auwL1 h (F0 := F) (by omega) C 0 F (by omega) (by omega)).trans ?_
  rw [sumTo_blk, sumTo_ext (by omega) (fun i h1 h2 => (h.wayZ i (by omega) h2).2)]
theorem skL1_0 (h : RNet g (g 216) N C Q) : ∀ k j F, j + k = N → k < F → net_sumOfKind_k1_0_5 F (sumTo (fun n => if g 3 n = 0 then g 8 n else 0) j) (nn j) g = some (sumTo (fun n => if g 3 n = 0 then g 8 n else 0) N) := by
  have hN := h.hN
  intro k
  induction k with
  | zero =>
    intro j F hj hF
    obtain ⟨F, rfl⟩ : ∃ F2, F = F2 + 1 := ⟨F - 1, by omega⟩
    have : j = N := by omega
    subst this
    unfold net_sumOfKind_k1_0_5
    rw [h.cN]
    exact if_pos (by simp (disch := first | omega | decide) only [lt1, nnMl, nnMr, nnAl, nnAr, nnA, nnM, nnB, nnT, nnP, nnE, nnEl, nnEr, nnL, nnLl, nnLr, nnQ, nnQr, nnN, Nat.add_zero, if_false, if_true, Option.bind_some, not_true, not_false_iff, not_true_eq_false, not_false_eq_true, eq_self, Nat.not_lt_zero, z10, z01, or_true, true_or, or_false, false_or, true_and, false_and, Nat.le_refl])
  | succ k ih =>
    intro j F hj hF
    obtain ⟨F, rfl⟩ : ∃ F2, F = F2 + 1 := ⟨F - 1, by omega⟩
    have h2 : ¬ N ≤ j := by omega
    have h1 : j < 10 := by omega
    unfold net_sumOfKind_k1_0_5
    rw [h.cN]
    refine st_f (by simp (disch := first | omega | decide) only [lt1, nnMl, nnMr, nnAl, nnAr, nnA, nnM, nnB, nnT, nnP, nnE, nnEl, nnEr, nnL, nnLl, nnLr, nnQ, nnQr, nnN, Nat.add_zero, if_false, if_true, Option.bind_some, not_true, not_false_iff, not_true_eq_false, not_false_eq_true, eq_self, Nat.not_lt_zero, z10, z01, or_true, true_or, or_false, false_or, true_and, false_and, h2]) (st_t (by simp (disch := first | omega | decide) only [lt1, nnMl, nnMr, nnAl, nnAr, nnA, nnM, nnB, nnT, nnP, nnE, nnEl, nnEr, nnL, nnLl, nnLr, nnQ, nnQr, nnN, Nat.add_zero, if_false, if_true, Option.bind_some, not_true, not_false_iff, not_true_eq_false, not_false_eq_true, eq_self, Nat.not_lt_zero, z10, z01, or_true, true_or, or_false, false_or, true_and, false_and, h1]) ?_)
    by_cases e : g 3 j = 0
    · refine st_f (by simp (disch := first | omega | decide) only [lt1, nnMl, nnMr, nnAl, nnAr, nnA, nnM, nnB, nnT, nnP, nnE, nnEl, nnEr, nnL, nnLl, nnLr, nnQ, nnQr, nnN, Nat.add_zero, if_false, if_true, Option.bind_some, not_true, not_false_iff, not_true_eq_false, not_false_eq_true, eq_self, Nat.not_lt_zero, z10, z01, or_true, true_or, or_false, false_or, true_and, false_and, e]) (st_w (by simp (disch := first | omega | decide) only [lt1, nnMl, nnMr, nnAl, nnAr, nnA, nnM, nnB, nnT, nnP, nnE, nnEl, nnEr, nnL, nnLl, nnLr, nnQ, nnQr, nnN, Nat.add_zero, if_false, if_true, Option.bind_some, not_true, not_false_iff, not_true_eq_false, not_false_eq_true, eq_self, Nat.not_lt_zero, z10, z01, or_true, true_or, or_false, false_or, true_and, false_and, h1]) ?_)
      refine Eq.trans ?_ (ih (j + 1) F (by omega) (by omega))
      simp (disch := first | omega | decide) only [lt1, nnMl, nnMr, nnAl, nnAr, nnA, nnM, nnB, nnT, nnP, nnE, nnEl, nnEr, nnL, nnLl, nnLr, nnQ, nnQr, nnN, Nat.add_zero, if_false, if_true, Option.bind_some, not_true, not_false_iff, not_true_eq_false, not_false_eq_true, eq_self, Nat.not_lt_zero, z10, z01, or_true, true_or, or_false, false_or, true_and, false_and, sumTo, e]
    · refine st_t (by simp (disch := first | omega | decide) only [lt1, nnMl, nnMr, nnAl, nnAr, nnA, nnM, nnB, nnT, nnP, nnE, nnEl, nnEr, nnL, nnLl, nnLr, nnQ, nnQr, nnN, Nat.add_zero, if_false, if_true, Option.bind_some, not_true, not_false_iff, not_true_eq_false, not_false_eq_true, eq_self, Nat.not_lt_zero, z10, z01, or_true, true_or, or_false, false_or, true_and, false_and, e]) ?_
      refine Eq.trans ?_ (ih (j + 1) F (by omega) (by omega))
      simp (disch := first | omega | decide) only [lt1, nnMl, nnMr, nnAl, nnAr, nnA, nnM, nnB, nnT, nnP, nnE, nnEl, nnEr, nnL, nnLl, nnLr, nnQ, nnQr, nnN, Nat.add_zero, if_false, if_true, Option.bind_some, not_true, not_false_iff, not_true_eq_false, not_false_eq_true, eq_self, Nat.not_lt_zero, z10, z01, or_true, true_or, or_false, false_or, true_and, false_and, sumTo, e, Int32.add_zero]
theorem sk1_0 (h : RNet g (g 216) N C Q) {F : Nat} (hF : 20 < F) : net_sumOfKind_k1_0 F g = some (sumTo (fun n => if g 3 n = 0 then g 8 n else 0) 10) := by
  have hN := h.hN
  refine (skL1_0 h N 0 F (by omega) (by omega)).trans ?_
  rw [sumTo_ext hN (fun i h1 h2 => by simp only [(h.kepZ i h1 h2).2, ite_self])]
theorem skL1_4 (h : RNet g (g 216) N C Q) : ∀ k j F, j + k = N → k < F → net_sumOfKind_k1_4_5 F (sumTo (fun n => if g 3 n = 4 then g 8 n else 0) j) (nn j) g = some (sumTo (fun n => if g 3 n = 4 then g 8 n else 0) N) := by
  have hN := h.hN
  intro k
  induction k with
  | zero =>
    intro j F hj hF
    obtain ⟨F, rfl⟩ : ∃ F2, F = F2 + 1 := ⟨F - 1, by omega⟩
    have : j = N := by omega
    subst this
    unfold net_sumOfKind_k1_4_5
    rw [h.cN]
    exact if_pos (by simp (disch := first | omega | decide) only [lt1, nnMl, nnMr, nnAl, nnAr, nnA, nnM, nnB, nnT, nnP, nnE, nnEl, nnEr, nnL, nnLl, nnLr, nnQ, nnQr, nnN, Nat.add_zero, if_false, if_true, Option.bind_some, not_true, not_false_iff, not_true_eq_false, not_false_eq_true, eq_self, Nat.not_lt_zero, z10, z01, or_true, true_or, or_false, false_or, true_and, false_and, Nat.le_refl])
  | succ k ih =>
    intro j F hj hF
    obtain ⟨F, rfl⟩ : ∃ F2, F = F2 + 1 := ⟨F - 1, by omega⟩
    have h2 : ¬ N ≤ j := by omega
    have h1 : j < 10 := by omega
    unfold net_sumOfKind_k1_4_5
    rw [h.cN]
    refine st_f (by simp (disch := first | omega | decide) only [lt1, nnMl, nnMr, nnAl, nnAr, nnA, nnM, nnB, nnT, nnP, nnE, nnEl, nnEr, nnL, nnLl, nnLr, nnQ, nnQr, nnN, Nat.add_zero, if_false, if_true, Option.bind_some, not_true, not_false_iff, not_true_eq_false, not_false_eq_true, eq_self, Nat.not_lt_zero, z10, z01, or_true, true_or, or_false, false_or, true_and, false_and, h2]) (st_t (by simp (disch := first | omega | decide) only [lt1, nnMl, nnMr, nnAl, nnAr, nnA, nnM, nnB, nnT, nnP, nnE, nnEl, nnEr, nnL, nnLl, nnLr, nnQ, nnQr, nnN, Nat.add_zero, if_false, if_true, Option.bind_some, not_true, not_false_iff, not_true_eq_false, not_false_eq_true, eq_self, Nat.not_lt_zero, z10, z01, or_true, true_or, or_false, false_or, true_and, false_and, h1]) ?_)
    by_cases e : g 3 j = 4
    · refine st_f (by simp (disch := first | omega | decide) only [lt1, nnMl, nnMr, nnAl, nnAr, nnA, nnM, nnB, nnT, nnP, nnE, nnEl, nnEr, nnL, nnLl, nnLr, nnQ, nnQr, nnN, Nat.add_zero, if_false, if_true, Option.bind_some, not_true, not_false_iff, not_true_eq_false, not_false_eq_true, eq_self, Nat.not_lt_zero, z10, z01, or_true, true_or, or_false, false_or, true_and, false_and, e]) (st_w (by simp (disch := first | omega | decide) only [lt1, nnMl, nnMr, nnAl, nnAr, nnA, nnM, nnB, nnT, nnP, nnE, nnEl, nnEr, nnL, nnLl, nnLr, nnQ, nnQr, nnN, Nat.add_zero, if_false, if_true, Option.bind_some, not_true, not_false_iff, not_true_eq_false, not_false_eq_true, eq_self, Nat.not_lt_zero, z10, z01, or_true, true_or, or_false, false_or, true_and, false_and, h1]) ?_)
      refine Eq.trans ?_ (ih (j + 1) F (by omega) (by omega))
      simp (disch := first | omega | decide) only [lt1, nnMl, nnMr, nnAl, nnAr, nnA, nnM, nnB, nnT, nnP, nnE, nnEl, nnEr, nnL, nnLl, nnLr, nnQ, nnQr, nnN, Nat.add_zero, if_false, if_true, Option.bind_some, not_true, not_false_iff, not_true_eq_false, not_false_eq_true, eq_self, Nat.not_lt_zero, z10, z01, or_true, true_or, or_false, false_or, true_and, false_and, sumTo, e]
    · refine st_t (by simp (disch := first | omega | decide) only [lt1, nnMl, nnMr, nnAl, nnAr, nnA, nnM, nnB, nnT, nnP, nnE, nnEl, nnEr, nnL, nnLl, nnLr, nnQ, nnQr, nnN, Nat.add_zero, if_false, if_true, Option.bind_some, not_true, not_false_iff, not_true_eq_false, not_false_eq_true, eq_self, Nat.not_lt_zero, z10, z01, or_true, true_or, or_false, false_or, true_and, false_and, e]) ?_
      refine Eq.trans ?_ (ih (j + 1) F (by omega) (by omega))
      simp (disch := first | omega | decide) only [lt1, nnMl, nnMr, nnAl, nnAr, nnA, nnM, nnB, nnT, nnP, nnE, nnEl, nnEr, nnL, nnLl, nnLr, nnQ, nnQr, nnN, Nat.add_zero, if_false, if_true, Option.bind_some, not_true, not_false_iff, not_true_eq_false, not_false_eq_true, eq_self, Nat.not_lt_zero, z10, z01, or_true, true_or, or_false, false_or, true_and, false_and, sumTo, e, Int32.add_zero]
theorem sk1_4 (h : RNet g (g 216) N C Q) {F : Nat} (hF : 20 < F) : net_sumOfKind_k1_4 F g = some (sumTo (fun n => if g 3 n = 4 then g 8 n else 0) 10) := by
  have hN := h.hN
  refine (skL1_4 h N 0 F (by omega) (by omega)).trans ?_
  rw [sumTo_ext hN (fun i h1 h2 => by simp only [(h.kepZ i h1 h2).2, ite_self])]
theorem skL1_2 (h : RNet g (g 216) N C Q) : ∀ k j F, j + k = N → k < F → net_sumOfKind_k1_2_5 F (sumTo (fun n => if g 3 n = 2 then g 8 n else 0) j) (nn j) g = some (sumTo (fun n => if g 3 n = 2 then g 8 n else 0) N) := by
  have hN := h.hN
  intro k
  induction k with
  | zero =>
    intro j F hj hF
    obtain ⟨F, rfl⟩ : ∃ F2, F = F2 + 1 := ⟨F - 1, by omega⟩
    have : j = N := by omega
    subst this
    unfold net_sumOfKind_k1_2_5
    rw [h.cN]
    exact if_pos (by simp (disch := first | omega | decide) only [lt1, nnMl, nnMr, nnAl, nnAr, nnA, nnM, nnB, nnT, nnP, nnE, nnEl, nnEr, nnL, nnLl, nnLr, nnQ, nnQr, nnN, Nat.add_zero, if_false, if_true, Option.bind_some, not_true, not_false_iff, not_true_eq_false, not_false_eq_true, eq_self, Nat.not_lt_zero, z10, z01, or_true, true_or, or_false, false_or, true_and, false_and, Nat.le_refl])
  | succ k ih =>
    intro j F hj hF
    obtain ⟨F, rfl⟩ : ∃ F2, F = F2 + 1 := ⟨F - 1, by omega⟩
    have h2 : ¬ N ≤ j := by omega
    have h1 : j < 10 := by omega
    unfold net_sumOfKind_k1_2_5
    rw [h.cN]
    refine st_f (by simp (disch := first | omega | decide) only [lt1, nnMl, nnMr, nnAl, nnAr, nnA, nnM, nnB, nnT, nnP, nnE, nnEl, nnEr, nnL, nnLl, nnLr, nnQ, nnQr, nnN, Nat.add_zero, if_false, if_true, Option.bind_some, not_true, not_false_iff, not_true_eq_false, not_false_eq_true, eq_self, Nat.not_lt_zero, z10, z01, or_true, true_or, or_false, false_or, true_and, false_and, h2]) (st_t (by simp (disch := first | omega | decide) only [lt1, nnMl, nnMr, nnAl, nnAr, nnA, nnM, nnB, nnT, nnP, nnE, nnEl, nnEr, nnL, nnLl, nnLr, nnQ, nnQr, nnN, Nat.add_zero, if_false, if_true, Option.bind_some, not_true, not_false_iff, not_true_eq_false, not_false_eq_true, eq_self, Nat.not_lt_zero, z10, z01, or_true, true_or, or_false, false_or, true_and, false_and, h1]) ?_)
    by_cases e : g 3 j = 2
    · refine st_f (by simp (disch := first | omega | decide) only [lt1, nnMl, nnMr, nnAl, nnAr, nnA, nnM, nnB, nnT, nnP, nnE, nnEl, nnEr, nnL, nnLl, nnLr, nnQ, nnQr, nnN, Nat.add_zero, if_false, if_true, Option.bind_some, not_true, not_false_iff, not_true_eq_false, not_false_eq_true, eq_self, Nat.not_lt_zero, z10, z01, or_true, true_or, or_false, false_or, true_and, false_and, e]) (st_w (by simp (disch := first | omega | decide) only [lt1, nnMl, nnMr, nnAl, nnAr, nnA, nnM, nnB, nnT, nnP, nnE, nnEl, nnEr, nnL, nnLl, nnLr, nnQ, nnQr, nnN, Nat.add_zero, if_false, if_true, Option.bind_some, not_true, not_false_iff, not_true_eq_false, not_false_eq_true, eq_self, Nat.not_lt_zero, z10, z01, or_true, true_or, or_false, false_or, true_and, false_and, h1]) ?_)
      refine Eq.trans ?_ (ih (j + 1) F (by omega) (by omega))
      simp (disch := first | omega | decide) only [lt1, nnMl, nnMr, nnAl, nnAr, nnA, nnM, nnB, nnT, nnP, nnE, nnEl, nnEr, nnL, nnLl, nnLr, nnQ, nnQr, nnN, Nat.add_zero, if_false, if_true, Option.bind_some, not_true, not_false_iff, not_true_eq_false, not_false_eq_true, eq_self, Nat.not_lt_zero, z10, z01, or_true, true_or, or_false, false_or, true_and, false_and, sumTo, e]
    · refine st_t (by simp (disch := first | omega | decide) only [lt1, nnMl, nnMr, nnAl, nnAr, nnA, nnM, nnB, nnT, nnP, nnE, nnEl, nnEr, nnL, nnLl, nnLr, nnQ, nnQr, nnN, Nat.add_zero, if_false, if_true, Option.bind_some, not_true, not_false_iff, not_true_eq_false, not_false_eq_true, eq_self, Nat.not_lt_zero, z10, z01, or_true, true_or, or_false, false_or, true_and, false_and, e]) ?_
      refine Eq.trans ?_ (ih (j + 1) F (by omega) (by omega))
      simp (disch := first | omega | decide) only [lt1, nnMl, nnMr, nnAl, nnAr, nnA, nnM, nnB, nnT, nnP, nnE, nnEl, nnEr, nnL, nnLl, nnLr, nnQ, nnQr, nnN, Nat.add_zero, if_false, if_true, Option.bind_some, not_true, not_false_iff, not_true_eq_false, not_false_eq_true, eq_self, Nat.not_lt_zero, z10, z01, or_true, true_or, or_false, false_or, true_and, false_and, sumTo, e, Int32.add_zero]
theorem sk1_2 (h : RNet g (g 216) N C Q) {F : Nat} (hF : 20 < F) : net_sumOfKind_k1_2 F g = some (sumTo (fun n => if g 3 n = 2 then g 8 n else 0) 10) := by
  have hN := h.hN
  refine (skL1_2 h N 0 F (by omega) (by omega)).trans ?_
  rw [sumTo_ext hN (fun i h1 h2 => by simp only [(h.kepZ i h1 h2).2, ite_self])]
theorem muwL {r c : Nat} (hr : r < 2) (hc : c < 14) : ∀ k j F, j + k = 9 → k < F → m_underWay_5 F (nn r) (nn c) (sumTo (fun i => g 216 (290 + 9 * (14 * r + c) + i)) j) (nn j) g = some (sumTo (fun i => g 216 (290 + 9 * (14 * r + c) + i)) 9) := by
  intro k
  induction k with
  | zero =>
    intro j F hj hF
    obtain ⟨F, rfl⟩ : ∃ F2, F = F2 + 1 := ⟨F - 1, by omega⟩
    have : j = 9 := by omega
    subst this
    unfold m_underWay_5
    exact if_pos (by decide)
  | succ k ih =>
    intro j F hj hF
    obtain ⟨F, rfl⟩ : ∃ F2, F = F2 + 1 := ⟨F - 1, by omega⟩
    have h1 : 290 + 9 * (14 * r + c) + j < 20360 := by omega
    have h2 : ¬ 9 ≤ j := by omega
    have h3 : j - j / 9 * 9 = j := by omega
    unfold m_underWay_5 m_wayAt
    refine st_f (by simp (disch := first | omega | decide) only [lt1, nnMl, nnMr, nnAl, nnAr, nnA, nnM, nnB, nnT, nnP, nnE, nnEl, nnEr, nnL, nnLl, nnLr, nnQ, nnQr, nnN, Nat.add_zero, if_false, if_true, Option.bind_some, not_true, not_false_iff, not_true_eq_false, not_false_eq_true, eq_self, Nat.not_lt_zero, z10, z01, or_true, true_or, or_false, false_or, true_and, false_and, h2]) (st_b rfl (st_w (by simp (disch := first | omega | decide) only [lt1, nnMl, nnMr, nnAl, nnAr, nnA, nnM, nnB, nnT, nnP, nnE, nnEl, nnEr, nnL, nnLl, nnLr, nnQ, nnQr, nnN, Nat.add_zero, if_false, if_true, Option.bind_some, not_true, not_false_iff, not_true_eq_false, not_false_eq_true, eq_self, Nat.not_lt_zero, z10, z01, or_true, true_or, or_false, false_or, true_and, false_and, nnDr, nnS, h3, h1]) ?_))
    refine Eq.trans ?_ (ih (j + 1) F (by omega) (by omega))
    simp (disch := first | omega | decide) only [lt1, nnMl, nnMr, nnAl, nnAr, nnA, nnM, nnB, nnT, nnP, nnE, nnEl, nnEr, nnL, nnLl, nnLr, nnQ, nnQr, nnN, Nat.add_zero, if_false, if_true, Option.bind_some, not_true, not_false_iff, not_true_eq_false, not_false_eq_true, eq_self, Nat.not_lt_zero, z10, z01, or_true, true_or, or_false, false_or, true_and, false_and, nnDr, nnS, h3, sumTo]
theorem muw {r c F : Nat} (hr : r < 2) (hc : c < 14) (hF : 9 < F) : m_underWay F (nn r) (nn c) g = some (sumTo (fun i => g 216 (290 + 9 * (14 * r + c) + i)) 9) := muwL hr hc 9 0 F rfl hF
theorem chanOf_y {n k : Nat} (hn : n < 14) (hk : k < 7) : m_channelOf (nn n) (nn k) g = some (g 216 (190 + 7 * n + k)) := by
  have h : 190 + 7 * n + k < 20360 := by omega
  unfold m_channelOf
  simp (disch := first | omega | decide) only [lt1, nnMl, nnMr, nnAl, nnAr, nnA, nnM, nnB, nnT, nnP, nnE, nnEl, nnEr, nnL, nnLl, nnLr, nnQ, nnQr, nnN, Nat.add_zero, if_false, if_true, Option.bind_some, not_true, not_false_iff, not_true_eq_false, not_false_eq_true, eq_self, Nat.not_lt_zero, z10, z01, or_true, true_or, or_false, false_or, true_and, false_and, h]
theorem brL (h : RNet g (g 216) N C Q) : ∀ k j F, j + k = C → k < F → net_brokenChannels_4 F (sumTo (g 15) j) (nn j) g = some (sumTo (g 15) C) := by
  have hC := h.hC
  intro k
  induction k with
  | zero =>
    intro j F hj hF
    obtain ⟨F, rfl⟩ : ∃ F2, F = F2 + 1 := ⟨F - 1, by omega⟩
    have : j = C := by omega
    subst this
    unfold net_brokenChannels_4
    rw [h.cC]
    exact if_pos (by simp (disch := first | omega | decide) only [lt1, nnMl, nnMr, nnAl, nnAr, nnA, nnM, nnB, nnT, nnP, nnE, nnEl, nnEr, nnL, nnLl, nnLr, nnQ, nnQr, nnN, Nat.add_zero, if_false, if_true, Option.bind_some, not_true, not_false_iff, not_true_eq_false, not_false_eq_true, eq_self, Nat.not_lt_zero, z10, z01, or_true, true_or, or_false, false_or, true_and, false_and, Nat.le_refl])
  | succ k ih =>
    intro j F hj hF
    obtain ⟨F, rfl⟩ : ∃ F2, F = F2 + 1 := ⟨F - 1, by omega⟩
    have h2 : ¬ C ≤ j := by omega
    have h1 : j < 14 := by omega
    unfold net_brokenChannels_4
    rw [h.cC]
    refine st_f (by simp (disch := first | omega | decide) only [lt1, nnMl, nnMr, nnAl, nnAr, nnA, nnM, nnB, nnT, nnP, nnE, nnEl, nnEr, nnL, nnLl, nnLr, nnQ, nnQr, nnN, Nat.add_zero, if_false, if_true, Option.bind_some, not_true, not_false_iff, not_true_eq_false, not_false_eq_true, eq_self, Nat.not_lt_zero, z10, z01, or_true, true_or, or_false, false_or, true_and, false_and, h2]) (st_t (by simp (disch := first | omega | decide) only [lt1, nnMl, nnMr, nnAl, nnAr, nnA, nnM, nnB, nnT, nnP, nnE, nnEl, nnEr, nnL, nnLl, nnLr, nnQ, nnQr, nnN, Nat.add_zero, if_false, if_true, Option.bind_some, not_true, not_false_iff, not_true_eq_false, not_false_eq_true, eq_self, Nat.not_lt_zero, z10, z01, or_true, true_or, or_false, false_or, true_and, false_and, h1]) ?_)
    rcases h.brkV j h1 with e | e
    · refine st_t (by simp (disch := first | omega | decide) only [lt1, nnMl, nnMr, nnAl, nnAr, nnA, nnM, nnB, nnT, nnP, nnE, nnEl, nnEr, nnL, nnLl, nnLr, nnQ, nnQr, nnN, Nat.add_zero, if_false, if_true, Option.bind_some, not_true, not_false_iff, not_true_eq_false, not_false_eq_true, eq_self, Nat.not_lt_zero, z10, z01, or_true, true_or, or_false, false_or, true_and, false_and, e]) ?_
      refine Eq.trans ?_ (ih (j + 1) F (by omega) (by omega))
      simp (disch := first | omega | decide) only [lt1, nnMl, nnMr, nnAl, nnAr, nnA, nnM, nnB, nnT, nnP, nnE, nnEl, nnEr, nnL, nnLl, nnLr, nnQ, nnQr, nnN, Nat.add_zero, if_false, if_true, Option.bind_some, not_true, not_false_iff, not_true_eq_false, not_false_eq_true, eq_self, Nat.not_lt_zero, z10, z01, or_true, true_or, or_false, false_or, true_and, false_and, sumTo, e, Int32.add_zero]
    · refine st_f (by simp (disch := first | omega | decide) only [lt1, nnMl, nnMr, nnAl, nnAr, nnA, nnM, nnB, nnT, nnP, nnE, nnEl, nnEr, nnL, nnLl, nnLr, nnQ, nnQr, nnN, Nat.add_zero, if_false, if_true, Option.bind_some, not_true, not_false_iff, not_true_eq_false, not_false_eq_true, eq_self, Nat.not_lt_zero, z10, z01, or_true, true_or, or_false, false_or, true_and, false_and, e]) ?_
      refine Eq.trans ?_ (ih (j + 1) F (by omega) (by omega))
      simp (disch := first | omega | decide) only [lt1, nnMl, nnMr, nnAl, nnAr, nnA, nnM, nnB, nnT, nnP, nnE, nnEl, nnEr, nnL, nnLl, nnLr, nnQ, nnQr, nnN, Nat.add_zero, if_false, if_true, Option.bind_some, not_true, not_false_iff, not_true_eq_false, not_false_eq_true, eq_self, Nat.not_lt_zero, z10, z01, or_true, true_or, or_false, false_or, true_and, false_and, sumTo, e]
theorem dryL {T L : Nat} (h : RLaw g (g 216) T L) : ∀ k j F, j + k = 100 → k < F → law_countDry_4 F (sumTo (g 41) j) (nn j) g = some (sumTo (g 41) 100) := by
  intro k
  induction k with
  | zero =>
    intro j F hj hF
    obtain ⟨F, rfl⟩ : ∃ F2, F = F2 + 1 := ⟨F - 1, by omega⟩
    have : j = 100 := by omega
    subst this
    unfold law_countDry_4
    exact if_pos (by decide)
  | succ k ih =>
    intro j F hj hF
    obtain ⟨F, rfl⟩ : ∃ F2, F = F2 + 1 := ⟨F - 1, by omega⟩
    have h2 : ¬ 100 ≤ j := by omega
    have h1 : j < 100 := by omega
    unfold law_countDry_4
    refine st_f (by simp (disch := first | omega | decide) only [lt1, nnMl, nnMr, nnAl, nnAr, nnA, nnM, nnB, nnT, nnP, nnE, nnEl, nnEr, nnL, nnLl, nnLr, nnQ, nnQr, nnN, Nat.add_zero, if_false, if_true, Option.bind_some, not_true, not_false_iff, not_true_eq_false, not_false_eq_true, eq_self, Nat.not_lt_zero, z10, z01, or_true, true_or, or_false, false_or, true_and, false_and, h2]) (st_t (by simp (disch := first | omega | decide) only [lt1, nnMl, nnMr, nnAl, nnAr, nnA, nnM, nnB, nnT, nnP, nnE, nnEl, nnEr, nnL, nnLl, nnLr, nnQ, nnQr, nnN, Nat.add_zero, if_false, if_true, Option.bind_some, not_true, not_false_iff, not_true_eq_false, not_false_eq_true, eq_self, Nat.not_lt_zero, z10, z01, or_true, true_or, or_false, false_or, true_and, false_and, h1]) ?_)
    rcases h.dryV j h1 with e | e
    · refine st_t (by simp (disch := first | omega | decide) only [lt1, nnMl, nnMr, nnAl, nnAr, nnA, nnM, nnB, nnT, nnP, nnE, nnEl, nnEr, nnL, nnLl, nnLr, nnQ, nnQr, nnN, Nat.add_zero, if_false, if_true, Option.bind_some, not_true, not_false_iff, not_true_eq_false, not_false_eq_true, eq_self, Nat.not_lt_zero, z10, z01, or_true, true_or, or_false, false_or, true_and, false_and, e]) ?_
      refine Eq.trans ?_ (ih (j + 1) F (by omega) (by omega))
      simp (disch := first | omega | decide) only [lt1, nnMl, nnMr, nnAl, nnAr, nnA, nnM, nnB, nnT, nnP, nnE, nnEl, nnEr, nnL, nnLl, nnLr, nnQ, nnQr, nnN, Nat.add_zero, if_false, if_true, Option.bind_some, not_true, not_false_iff, not_true_eq_false, not_false_eq_true, eq_self, Nat.not_lt_zero, z10, z01, or_true, true_or, or_false, false_or, true_and, false_and, sumTo, e, Int32.add_zero]
    · refine st_f (by simp (disch := first | omega | decide) only [lt1, nnMl, nnMr, nnAl, nnAr, nnA, nnM, nnB, nnT, nnP, nnE, nnEl, nnEr, nnL, nnLl, nnLr, nnQ, nnQr, nnN, Nat.add_zero, if_false, if_true, Option.bind_some, not_true, not_false_iff, not_true_eq_false, not_false_eq_true, eq_self, Nat.not_lt_zero, z10, z01, or_true, true_or, or_false, false_or, true_and, false_and, e]) ?_
      refine Eq.trans ?_ (ih (j + 1) F (by omega) (by omega))
      simp (disch := first | omega | decide) only [lt1, nnMl, nnMr, nnAl, nnAr, nnA, nnM, nnB, nnT, nnP, nnE, nnEl, nnEr, nnL, nnLl, nnLr, nnQ, nnQr, nnN, Nat.add_zero, if_false, if_true, Option.bind_some, not_true, not_false_iff, not_true_eq_false, not_false_eq_true, eq_self, Nat.not_lt_zero, z10, z01, or_true, true_or, or_false, false_or, true_and, false_and, sumTo, e]
def cntR (g : Sg) (C Q : Nat) (v : Int32) : Option Int32 := if v = 0 then some (g 216 0) else if v = 1 then some (g 216 1) else if v = 2 then some (g 216 2) else if v = 3 then some (g 216 3) else if v = 4 then some (nn (Q / 96)) else if v = 5 then some ((g 216 3) / 672) else if v = 6 then some (g 216 6) else if v = 7 then some (g 216 4) else if v = 8 then some (g 216 5) else if v = 9 then some (sumTo (g 15) C) else if v = 10 then some (sumTo (g 41) 100) else some (-1)
theorem mct38 {T L : Nat} (h : RNet g (g 216) N C Q) (hl : RLaw g (g 216) T L) {v : Int32} : ∀ k j F, j + k = 100 → k < F → m_count_38 F v (sumTo (g 15) C) (sumTo (g 41) j) (nn j) g = cntR g C Q v := by
  intro k
  induction k with
  | zero =>
    intro j F hj hF
    obtain ⟨F, rfl⟩ : ∃ F2, F = F2 + 1 := ⟨F - 1, by omega⟩
    have : j = 100 := by omega
    subst this
    unfold m_count_38
    refine st_t (by decide) ?_
    rw [today_m h.aQ h.hQ]
    rfl
  | succ k ih =>
    intro j F hj hF
    obtain ⟨F, rfl⟩ : ∃ F2, F = F2 + 1 := ⟨F - 1, by omega⟩
    have h2 : ¬ 100 ≤ j := by omega
    have h1 : j < 100 := by omega
    have h3 : 40 + j < 20360 := by omega
    unfold m_count_38
    refine st_f (by simp (disch := first | omega | decide) only [lt1, nnMl, nnMr, nnAl, nnAr, nnA, nnM, nnB, nnT, nnP, nnE, nnEl, nnEr, nnL, nnLl, nnLr, nnQ, nnQr, nnN, Nat.add_zero, if_false, if_true, Option.bind_some, not_true, not_false_iff, not_true_eq_false, not_false_eq_true, eq_self, Nat.not_lt_zero, z10, z01, or_true, true_or, or_false, false_or, true_and, false_and, h2]) (st_w (by simp (disch := first | omega | decide) only [lt1, nnMl, nnMr, nnAl, nnAr, nnA, nnM, nnB, nnT, nnP, nnE, nnEl, nnEr, nnL, nnLl, nnLr, nnQ, nnQr, nnN, Nat.add_zero, if_false, if_true, Option.bind_some, not_true, not_false_iff, not_true_eq_false, not_false_eq_true, eq_self, Nat.not_lt_zero, z10, z01, or_true, true_or, or_false, false_or, true_and, false_and, h3]) ?_)
    refine Eq.trans ?_ (ih (j + 1) F (by omega) (by omega))
    simp (disch := first | omega | decide) only [lt1, nnMl, nnMr, nnAl, nnAr, nnA, nnM, nnB, nnT, nnP, nnE, nnEl, nnEr, nnL, nnLl, nnLr, nnQ, nnQr, nnN, Nat.add_zero, if_false, if_true, Option.bind_some, not_true, not_false_iff, not_true_eq_false, not_false_eq_true, eq_self, Nat.not_lt_zero, z10, z01, or_true, true_or, or_false, false_or, true_and, false_and, sumTo, hl.dry j h1]
theorem mct7 {T L : Nat} (h : RNet g (g 216) N C Q) (hl : RLaw g (g 216) T L) {v : Int32} {F0 : Nat} (hF0 : 100 < F0) : ∀ k j F, j + k = C → k < F → m_count_7 F0 F v (sumTo (g 15) j) (nn j) g = cntR g C Q v := by
  have hC := h.hC
  intro k
  induction k with
  | zero =>
    intro j F hj hF
    obtain ⟨F, rfl⟩ : ∃ F2, F = F2 + 1 := ⟨F - 1, by omega⟩
    have : j = C := by omega
    subst this
    unfold m_count_7
    rw [h.aC]
    refine st_t (by simp (disch := first | omega | decide) only [lt1, nnMl, nnMr, nnAl, nnAr, nnA, nnM, nnB, nnT, nnP, nnE, nnEl, nnEr, nnL, nnLl, nnLr, nnQ, nnQr, nnN, Nat.add_zero, if_false, if_true, Option.bind_some, not_true, not_false_iff, not_true_eq_false, not_false_eq_true, eq_self, Nat.not_lt_zero, z10, z01, or_true, true_or, or_false, false_or, true_and, false_and, Nat.le_refl]) ?_
    exact mct38 h hl 100 0 F0 (by omega) hF0
  | succ k ih =>
    intro j F hj hF
    obtain ⟨F, rfl⟩ : ∃ F2, F = F2 + 1 := ⟨F - 1, by omega⟩
    have h2 : ¬ C ≤ j := by omega
    have h1 : j < 14 := by omega
    unfold m_count_7
    rw [h.aC]
    have h3 : m_channelOf_k6 (nn j) g = some (g 15 j) := (chanOf_y (g := g) h1 (k := 6) (by decide)).trans (by rw [h.brk j h1])
    refine st_f (by simp (disch := first | omega | decide) only [lt1, nnMl, nnMr, nnAl, nnAr, nnA, nnM, nnB, nnT, nnP, nnE, nnEl, nnEr, nnL, nnLl, nnLr, nnQ, nnQr, nnN, Nat.add_zero, if_false, if_true, Option.bind_some, not_true, not_false_iff, not_true_eq_false, not_false_eq_true, eq_self, Nat.not_lt_zero, z10, z01, or_true, true_or, or_false, false_or, true_and, false_and, h2]) (st_b h3 (st_l ?_))
    refine Eq.trans ?_ (ih (j + 1) F (by omega) (by omega))
    simp (disch := first | omega | decide) only [lt1, nnMl, nnMr, nnAl, nnAr, nnA, nnM, nnB, nnT, nnP, nnE, nnEl, nnEr, nnL, nnLl, nnLr, nnQ, nnQr, nnN, Nat.add_zero, if_false, if_true, Option.bind_some, not_true, not_false_iff, not_true_eq_false, not_false_eq_true, eq_self, Nat.not_lt_zero, z10, z01, or_true, true_or, or_false, false_or, true_and, false_and, sumTo]
end SH
theorem sim_count {TS : Sg → Prop} : Sim_count (RR TS) := by
  intro v1 g hR
  obtain ⟨N, C, Q, D, T, L, G, h⟩ := hR.now
  have hm : m_count 200 v1 g = cntR g C Q v1 := mct7 h.net h.law (by decide) C 0 200 (by omega) (by have := h.net.hC; omega)
  have hx : x_count 200 v1 g = cntR g C Q v1 := by
    have hC := h.net.hC
    have b1 : net_brokenChannels 200 g = some (sumTo (g 15) C) := brL h.net C 0 200 (by omega) (by omega)
    have b2 : law_countDry 200 g = some (sumTo (g 41) 100) := dryL h.law 100 0 200 (by omega) (by omega)
    unfold x_count cntR
    rw [b1, b2, today_x h.net, h.net.cN, h.net.aN, h.net.cC, h.net.aC, h.rig.cD, h.rig.aD, h.net.cQ, h.net.aQ, h.rig.cR, h.rig.aR, h.law.cL, h.law.aL, h.gau.cG, h.gau.aG]
    rfl
  obtain ⟨r, hr⟩ : ∃ r, cntR g C Q v1 = some r := by
    unfold cntR
    repeat (split; exact ⟨_, rfl⟩)
    exact ⟨_, rfl⟩
  exact ⟨200, 200, r, g, g, hx.trans hr, hm.trans hr, hR, rfl, rfl⟩
theorem sim_all {TS : Sg → Prop} : Sim_all (RR TS) := by
  intro v1 v2 g hR hb
  obtain ⟨N, C, Q, D, T, L, G, h⟩ := hR.now
  have c6 : ∀ k : Nat, k ≤ 6 → k = 0 ∨ k = 1 ∨ k = 2 ∨ k = 3 ∨ k = 4 ∨ k = 5 ∨ k = 6 := by omega
  rcases chk v1 6 6 rfl (by decide) with ⟨k, hk, rfl, x1, m1⟩ | ⟨x1, m1⟩
  · rcases hb with rfl | rfl
    · refine ⟨100, 0, g 216 (10 + k), g, g, ?_, ?_, hR, rfl, rfl⟩
      · unfold x_all
        refine st_t rfl ?_
        unfold x_all_17
        rw [sk0_0 h.net (by decide), sk0_4 h.net (by decide), sk0_2 h.net (by decide), auw0 h.net (by decide)]
        rcases c6 k hk with rfl | rfl | rfl | rfl | rfl | rfl | rfl
        · exact congrArg some h.net.su00.symm
        · exact congrArg some h.net.su01.symm
        · exact congrArg some h.net.su02.symm
        · exact congrArg some h.net.su03.symm
        · exact congrArg some h.net.su04.symm
        · exact congrArg some h.net.su05.symm
        · exact congrArg some h.net.su06.symm
      · unfold m_all
        have h1 : 10 + k < 20360 := by omega
        refine st_b (m1 _) (st_f (by decide) (st_t rfl ?_))
        simp (disch := first | omega | decide) only [lt1, nnMl, nnMr, nnAl, nnAr, nnA, nnM, nnB, nnT, nnP, nnE, nnEl, nnEr, nnL, nnLl, nnLr, nnQ, nnQr, nnN, Nat.add_zero, if_false, if_true, Option.bind_some, not_true, not_false_iff, not_true_eq_false, not_false_eq_true, eq_self, Nat.not_lt_zero, z10, z01, or_true, true_or, or_false, false_or, true_and, false_and, h1]
    · refine ⟨100, 0, g 216 (17 + k), g, g, ?_, ?_, hR, rfl, rfl⟩
      · unfold x_all
        refine st_f (by decide) ?_
        unfold x_all_17_2
        rw [sk1_0 h.net (by decide), sk1_4 h.net (by decide), sk1_2 h.net (by decide), auw1 h.net (by decide)]
        rcases c6 k hk with rfl | rfl | rfl | rfl | rfl | rfl | rfl
        · exact congrArg some h.net.su10.symm
        · exact congrArg some h.net.su11.symm
        · exact congrArg some h.net.su12.symm
        · exact congrArg some h.net.su13.symm
        · exact congrArg some h.net.su14.symm
        · exact congrArg some h.net.su15.symm
        · exact congrArg some h.net.su16.symm
      · unfold m_all
        have h1 : 17 + k < 20360 := by omega
        refine st_b (m1 _) (st_f (by decide) (st_f (by decide) ?_))
        simp (disch := first | omega | decide) only [lt1, nnMl, nnMr, nnAl, nnAr, nnA, nnM, nnB, nnT, nnP, nnE, nnEl, nnEr, nnL, nnLl, nnLr, nnQ, nnQr, nnN, Nat.add_zero, if_false, if_true, Option.bind_some, not_true, not_false_iff, not_true_eq_false, not_false_eq_true, eq_self, Nat.not_lt_zero, z10, z01, or_true, true_or, or_false, false_or, true_and, false_and, h1]
  · have ne : ∀ k : Nat, k ≤ 6 → ¬ v1 = nn k := fun k hk e => by
      have := x1 g
      rw [e] at this
      rw [show x_within (nn k) 0 6 g = some 1 from wthK_y (K := 6) rfl (by decide) hk] at this
      exact absurd (Option.some.inj this) (by decide)
    have n0 : ¬ v1 = 0 := ne 0 (by decide)
    have n1 : ¬ v1 = 1 := ne 1 (by decide)
    have n2 : ¬ v1 = 2 := ne 2 (by decide)
    have n3 : ¬ v1 = 3 := ne 3 (by decide)
    have n4 : ¬ v1 = 4 := ne 4 (by decide)
    have n5 : ¬ v1 = 5 := ne 5 (by decide)
    have n6 : ¬ v1 = 6 := ne 6 (by decide)
    refine ⟨100, 0, -1, g, g, ?_, ?_, hR, rfl, rfl⟩
    · unfold x_all x_all_17 x_all_17_2
      simp only [n0, n1, n2, n3, n4, n5, n6, if_false, ite_self]
    · unfold m_all
      exact st_b (m1 _) (st_t rfl rfl)
theorem sim_look {TS : Sg → Prop} : Sim_look (RR TS) := by
  intro v1 v2 g hR
  obtain ⟨N, C, Q, D, T, L, G, h⟩ := hR.now
  have hC := h.net.hC
  by_cases hn : ∃ n, n < C ∧ v1 = nn n
  rotate_left
  · refine ⟨0, 0, -2, g, g, ?_, ?_, hR, rfl, rfl⟩
    · unfold x_look
      exact st_b (hasChan_n h.net hn) (st_f (by decide) rfl)
    · unfold m_look
      exact st_b (isOf1_n h.net hn) (st_f (by decide) rfl)
  obtain ⟨n, hn, rfl⟩ := hn
  have hn14 : n < 14 := by omega
  rcases chk v2 8 8 rfl (by decide) with ⟨k, hk, rfl, x1, m1⟩ | ⟨x1, m1⟩
  · by_cases h6 : k ≤ 6
    · refine ⟨20, 20, g 216 (190 + 7 * n + k), g, g, ?_, ?_, hR, rfl, rfl⟩
      · unfold x_look
        refine st_b (hasChan_y h.net hn) (st_t (by decide) ?_)
        have c6 : k = 0 ∨ k = 1 ∨ k = 2 ∨ k = 3 ∨ k = 4 ∨ k = 5 ∨ k = 6 := by omega
        rcases c6 with rfl | rfl | rfl | rfl | rfl | rfl | rfl
        · exact st_t rfl (st_t (by simp (disch := first | omega | decide) only [lt1, nnMl, nnMr, nnAl, nnAr, nnA, nnM, nnB, nnT, nnP, nnE, nnEl, nnEr, nnL, nnLl, nnLr, nnQ, nnQr, nnN, Nat.add_zero, if_false, if_true, Option.bind_some, not_true, not_false_iff, not_true_eq_false, not_false_eq_true, eq_self, Nat.not_lt_zero, z10, z01, or_true, true_or, or_false, false_or, true_and, false_and, hn14]) (by rw [nnT (by omega)]; exact congrArg some (h.net.frm n hn14).symm))
        · exact st_f (by decide) (st_t rfl (st_t (by simp (disch := first | omega | decide) only [lt1, nnMl, nnMr, nnAl, nnAr, nnA, nnM, nnB, nnT, nnP, nnE, nnEl, nnEr, nnL, nnLl, nnLr, nnQ, nnQr, nnN, Nat.add_zero, if_false, if_true, Option.bind_some, not_true, not_false_iff, not_true_eq_false, not_false_eq_true, eq_self, Nat.not_lt_zero, z10, z01, or_true, true_or, or_false, false_or, true_and, false_and, hn14]) (by rw [nnT (by omega)]; exact congrArg some (h.net.to n hn14).symm)))
        · exact st_f (by decide) (st_f (by decide) (st_t rfl (st_t (by simp (disch := first | omega | decide) only [lt1, nnMl, nnMr, nnAl, nnAr, nnA, nnM, nnB, nnT, nnP, nnE, nnEl, nnEr, nnL, nnLl, nnLr, nnQ, nnQr, nnN, Nat.add_zero, if_false, if_true, Option.bind_some, not_true, not_false_iff, not_true_eq_false, not_false_eq_true, eq_self, Nat.not_lt_zero, z10, z01, or_true, true_or, or_false, false_or, true_and, false_and, hn14]) (by rw [nnT (by omega)]; exact congrArg some (h.net.low n hn14).symm))))
        · exact st_f (by decide) (st_f (by decide) (st_f (by decide) (st_t rfl (st_t (by simp (disch := first | omega | decide) only [lt1, nnMl, nnMr, nnAl, nnAr, nnA, nnM, nnB, nnT, nnP, nnE, nnEl, nnEr, nnL, nnLl, nnLr, nnQ, nnQr, nnN, Nat.add_zero, if_false, if_true, Option.bind_some, not_true, not_false_iff, not_true_eq_false, not_false_eq_true, eq_self, Nat.not_lt_zero, z10, z01, or_true, true_or, or_false, false_or, true_and, false_and, hn14]) (by rw [nnT (by omega)]; exact congrArg some (h.net.hig n hn14).symm)))))
        · exact st_f (by decide) (st_f (by decide) (st_f (by decide) (st_f (by decide) (st_t rfl (st_t (by simp (disch := first | omega | decide) only [lt1, nnMl, nnMr, nnAl, nnAr, nnA, nnM, nnB, nnT, nnP, nnE, nnEl, nnEr, nnL, nnLl, nnLr, nnQ, nnQr, nnN, Nat.add_zero, if_false, if_true, Option.bind_some, not_true, not_false_iff, not_true_eq_false, not_false_eq_true, eq_self, Nat.not_lt_zero, z10, z01, or_true, true_or, or_false, false_or, true_and, false_and, hn14]) (by rw [nnT (by omega)]; exact congrArg some (h.net.trv n hn14).symm))))))
        · exact st_f (by decide) (st_f (by decide) (st_f (by decide) (st_f (by decide) (st_f (by decide) (st_t rfl (st_t (by simp (disch := first | omega | decide) only [lt1, nnMl, nnMr, nnAl, nnAr, nnA, nnM, nnB, nnT, nnP, nnE, nnEl, nnEr, nnL, nnLl, nnLr, nnQ, nnQr, nnN, Nat.add_zero, if_false, if_true, Option.bind_some, not_true, not_false_iff, not_true_eq_false, not_false_eq_true, eq_self, Nat.not_lt_zero, z10, z01, or_true, true_or, or_false, false_or, true_and, false_and, hn14]) (by rw [nnT (by omega)]; exact congrArg some (h.net.brd n hn14).symm)))))))
        · refine st_f (by decide) (st_f (by decide) (st_f (by decide) (st_f (by decide) (st_f (by decide) (st_f (by decide) (st_t rfl (st_t (by simp (disch := first | omega | decide) only [lt1, nnMl, nnMr, nnAl, nnAr, nnA, nnM, nnB, nnT, nnP, nnE, nnEl, nnEr, nnL, nnLl, nnLr, nnQ, nnQr, nnN, Nat.add_zero, if_false, if_true, Option.bind_some, not_true, not_false_iff, not_true_eq_false, not_false_eq_true, eq_self, Nat.not_lt_zero, z10, z01, or_true, true_or, or_false, false_or, true_and, false_and, hn14]) ?_)))))))
          rw [nnT (by omega), h.net.brk n hn14]
          rcases h.net.brkV n hn14 with e | e <;> rw [e] <;> rfl
      · unfold m_look
        refine st_b (isOf1_y h.net hn) (st_t (by decide) ?_)
        refine st_b (isInK_y (K := 6) rfl (by decide) h6) (st_f (by decide) ?_)
        exact st_b (chanOf_y hn14 (by omega)) rfl
    · have c6 : k = 7 ∨ k = 8 := by omega
      have m7 : ∀ k : Nat, k = 7 ∨ k = 8 → m_isIn (nn k) 0 6 g = some 0 ∧ m_isIn (nn k) 7 8 g = some 1 := by
        intro k hk
        rcases hk with rfl | rfl <;> exact ⟨rfl, rfl⟩
      rcases c6 with rfl | rfl
      · refine ⟨20, 20, sumTo (fun i => g 17 (n * 9 + i)) 9, g, g, ?_, ?_, hR, rfl, rfl⟩
        · unfold x_look
          refine st_b (hasChan_y h.net hn) (st_t (by decide) ?_)
          refine st_f (by decide) (st_f (by decide) (st_f (by decide) (st_f (by decide) (st_f (by decide) (st_f (by decide) (st_f (by decide) (st_t rfl ?_)))))))
          exact st_b (uw0 hn14 (by decide)) rfl
        · unfold m_look
          refine st_b (isOf1_y h.net hn) (st_t (by decide) ?_)
          refine st_b (m7 7 (Or.inl rfl)).1 (st_t rfl (st_b (m7 7 (Or.inl rfl)).2 (st_f (by decide) ?_)))
          refine st_b ((muw (r := 0) (by decide) hn14 (by decide)).trans ?_) rfl
          refine congrArg some (sumTo_congr (fun i hi => ?_))
          rw [show 290 + 9 * (14 * 0 + n) + i = 290 + (n * 9 + i) by omega]
          exact h.net.way0 _ (by omega)
      · refine ⟨20, 20, sumTo (fun i => g 18 (n * 9 + i)) 9, g, g, ?_, ?_, hR, rfl, rfl⟩
        · unfold x_look
          refine st_b (hasChan_y h.net hn) (st_t (by decide) ?_)
          refine st_f (by decide) (st_f (by decide) (st_f (by decide) (st_f (by decide) (st_f (by decide) (st_f (by decide) (st_f (by decide) (st_f (by decide) (st_t rfl ?_))))))))
          exact st_b (uw1 hn14 (by decide)) rfl
        · unfold m_look
          refine st_b (isOf1_y h.net hn) (st_t (by decide) ?_)
          refine st_b (m7 8 (Or.inr rfl)).1 (st_t rfl (st_b (m7 8 (Or.inr rfl)).2 (st_f (by decide) ?_)))
          refine st_b ((muw (r := 1) (by decide) hn14 (by decide)).trans ?_) rfl
          refine congrArg some (sumTo_congr (fun i hi => ?_))
          rw [show 290 + 9 * (14 * 1 + n) + i = 416 + (n * 9 + i) by omega]
          exact h.net.way1 _ (by omega)
  · have ne : ∀ k : Nat, k ≤ 8 → ¬ v2 = nn k := fun k hk e => by
      have := x1 g
      rw [e] at this
      rw [show x_within (nn k) 0 8 g = some 1 from wthK_y (K := 8) rfl (by decide) hk] at this
      exact absurd (Option.some.inj this) (by decide)
    have n0 : ¬ v2 = 0 := ne 0 (by decide)
    have n1 : ¬ v2 = 1 := ne 1 (by decide)
    have n2 : ¬ v2 = 2 := ne 2 (by decide)
    have n3 : ¬ v2 = 3 := ne 3 (by decide)
    have n4 : ¬ v2 = 4 := ne 4 (by decide)
    have n5 : ¬ v2 = 5 := ne 5 (by decide)
    have n6 : ¬ v2 = 6 := ne 6 (by decide)
    have n7 : ¬ v2 = 7 := ne 7 (by decide)
    have n8 : ¬ v2 = 8 := ne 8 (by decide)
    have hx : ¬ (0 ≤ v2 ∧ v2 ≤ 8) := fun e => by
      have := x1 g
      rw [within_eq, if_pos e] at this
      exact absurd (Option.some.inj this) (by decide)
    refine ⟨100, 0, -2, g, g, ?_, ?_, hR, rfl, rfl⟩
    · unfold x_look
      refine st_b (hasChan_y h.net hn) (st_t (by decide) ?_)
      simp only [n0, n1, n2, n3, n4, n5, n6, n7, n8, if_false]
    · unfold m_look
      refine st_b (isOf1_y h.net hn) (st_t (by decide) ?_)
      refine st_b (x := 0) ?_ (st_t rfl (st_b (x := 0) ?_ (st_t rfl rfl)))
      · rw [isIn_eq, if_neg (fun e => hx ⟨e.1, Int32.le_trans e.2 (by decide)⟩)]
      · rw [isIn_eq, if_neg (fun e => hx ⟨Int32.le_trans (by decide) e.1, e.2⟩)]
end
section
/-! image, again -/
/-- what a copy of all that is told does, in its order: (0, cell, place) one number, (1, cell, length) a row -/
def OPS : List (Nat × Nat × Nat) := [(0, 2, 0), (0, 2, 1), (0, 2, 6), (1, 3, 10), (1, 4, 10), (1, 5, 10), (1, 9, 14), (1, 10, 14), (1, 11, 14), (1, 12, 14), (1, 13, 14), (1, 14, 14), (1, 15, 14), (1, 7, 10), (1, 17, 126), (1, 8, 10), (1, 18, 126), (1, 19, 2), (1, 20, 2), (1, 21, 2), (1, 23, 8), (0, 22, 1), (1, 24, 120), (1, 25, 120), (1, 26, 120), (1, 27, 120), (1, 28, 120), (1, 29, 120), (0, 22, 8), (1, 30, 2400), (0, 31, 0), (1, 32, 500), (0, 31, 2), (0, 31, 3), (0, 33, 0), (1, 34, 16), (1, 35, 16), (1, 36, 16), (1, 37, 64), (1, 38, 64), (1, 39, 64), (1, 40, 64), (1, 41, 100), (0, 42, 0), (1, 43, 150), (1, 44, 150), (1, 45, 150), (1, 46, 150)]
def doOp (s t : Nat) (g : Sg) (o : Nat × Nat × Nat) : Sg := if o.1 = 0 then up2 g (t + o.2.1) o.2.2 (g (s + o.2.1) o.2.2) else cp2 g (s + o.2.1) 0 (t + o.2.1) 0 o.2.2
def runOps (s t : Nat) : List (Nat × Nat × Nat) → Sg → Sg
  | [], g => g
  | o :: l, g => runOps s t l (doOp s t g o)
def cov (o : Nat × Nat × Nat) (i j : Nat) : Prop := o.2.1 = i ∧ ((o.1 = 0 ∧ o.2.2 = j) ∨ (o.1 = 1 ∧ j < o.2.2))
def okCell (i j : Nat) : Prop := ∃ o, o ∈ OPS ∧ cov o i j
theorem doOp_fr {s t : Nat} {g : Sg} {o : Nat × Nat × Nat} {c : Nat} (h : c ≠ t + o.2.1) : doOp s t g o c = g c := by
  funext k
  unfold doOp
  split
  · exact if_neg (fun e => h e.1)
  · exact if_neg (fun e => h e.1)
theorem doOp_y {s t : Nat} {g : Sg} {o : Nat × Nat × Nat} {i j : Nat} (h : cov o i j) : doOp s t g o (t + i) j = g (s + i) j := by
  obtain ⟨rfl, h⟩ := h
  unfold doOp
  rcases h with ⟨h1, rfl⟩ | ⟨h1, h2⟩
  · rw [if_pos h1]
    exact if_pos ⟨rfl, rfl⟩
  · rw [if_neg (by omega)]
    refine (if_pos ⟨rfl, Nat.zero_le _, by omega⟩).trans ?_
    rw [Nat.zero_add, Nat.sub_zero]
theorem doOp_k {s t : Nat} {g : Sg} {o : Nat × Nat × Nat} {i j : Nat} {v : Int32} (h : g (t + i) j = v) (h2 : g (s + i) j = v) : doOp s t g o (t + i) j = v := by
  unfold doOp
  split
  · unfold up2
    split
    · rename_i e
      rw [← h2, ← e.2, show o.2.1 = i by omega]
    · exact h
  · unfold cp2
    split
    · rename_i e
      rw [Nat.zero_add, Nat.sub_zero, show o.2.1 = i by omega]
      exact h2
    · exact h
theorem runOps_fr {s t : Nat} {c : Nat} : ∀ (l : List (Nat × Nat × Nat)) (g : Sg), (∀ o, o ∈ l → c ≠ t + o.2.1) → runOps s t l g c = g c
  | [], _, _ => rfl
  | o :: l, g, h => (runOps_fr l _ (fun o2 h2 => h o2 (List.mem_cons_of_mem _ h2))).trans (doOp_fr (h o List.mem_cons_self))
theorem runOps_y {s t i j : Nat} {v : Int32} : ∀ (l : List (Nat × Nat × Nat)) (g : Sg), (∀ o, o ∈ l → s + i ≠ t + o.2.1) → g (s + i) j = v → (g (t + i) j = v ∨ ∃ o, o ∈ l ∧ cov o i j) → runOps s t l g (t + i) j = v
  | [], _, _, _, h => by
    rcases h with h | ⟨o, h, _⟩
    · exact h
    · exact absurd h List.not_mem_nil
  | o :: l, g, hd, hv, h => by
    refine runOps_y l _ (fun o2 h2 => hd o2 (List.mem_cons_of_mem _ h2)) ((congrFun (doOp_fr (hd o List.mem_cons_self)) j).trans hv) ?_
    rcases h with h | ⟨o2, h1, h2⟩
    · exact Or.inl (doOp_k h hv)
    · rcases List.mem_cons.mp h1 with rfl | h1
      · exact Or.inl ((doOp_y h2).trans hv)
      · exact Or.inr ⟨o2, h1, h2⟩
theorem OPS_r : ∀ o, o ∈ OPS → 2 ≤ o.2.1 ∧ o.2.1 ≤ 46 := by decide
theorem okCell_r {i j : Nat} (h : okCell i j) : 2 ≤ i ∧ i ≤ 46 := by
  obtain ⟨o, h1, h2, h3⟩ := h
  have := OPS_r o h1
  omega
/-- the copy from s to t, the two blocks apart -/
theorem copy_y {s t i j : Nat} {g : Sg} (hst : s + 47 ≤ t ∨ t + 47 ≤ s) (h : okCell i j) : runOps s t OPS g (t + i) j = g (s + i) j := by
  have hr := okCell_r h
  exact runOps_y OPS g (fun o ho => by have := OPS_r o ho; omega) rfl (Or.inr h)
theorem copy_fr {s t c : Nat} {g : Sg} (h : c < t + 2 ∨ t + 46 < c) : runOps s t OPS g c = g c := runOps_fr OPS g (fun o ho => by have := OPS_r o ho; omega)
theorem ok_2_0 : okCell 2 0 := ⟨(0, 2, 0), by decide, rfl, Or.inl ⟨rfl, rfl⟩⟩
theorem ok_2_1 : okCell 2 1 := ⟨(0, 2, 1), by decide, rfl, Or.inl ⟨rfl, rfl⟩⟩
theorem ok_2_6 : okCell 2 6 := ⟨(0, 2, 6), by decide, rfl, Or.inl ⟨rfl, rfl⟩⟩
theorem ok_3 {j : Nat} (h : j < 10) : okCell 3 j := ⟨(1, 3, 10), by decide, rfl, Or.inr ⟨rfl, h⟩⟩
theorem ok_4 {j : Nat} (h : j < 10) : okCell 4 j := ⟨(1, 4, 10), by decide, rfl, Or.inr ⟨rfl, h⟩⟩
theorem ok_5 {j : Nat} (h : j < 10) : okCell 5 j := ⟨(1, 5, 10), by decide, rfl, Or.inr ⟨rfl, h⟩⟩
theorem ok_9 {j : Nat} (h : j < 14) : okCell 9 j := ⟨(1, 9, 14), by decide, rfl, Or.inr ⟨rfl, h⟩⟩
theorem ok_10 {j : Nat} (h : j < 14) : okCell 10 j := ⟨(1, 10, 14), by decide, rfl, Or.inr ⟨rfl, h⟩⟩
theorem ok_11 {j : Nat} (h : j < 14) : okCell 11 j := ⟨(1, 11, 14), by decide, rfl, Or.inr ⟨rfl, h⟩⟩
theorem ok_12 {j : Nat} (h : j < 14) : okCell 12 j := ⟨(1, 12, 14), by decide, rfl, Or.inr ⟨rfl, h⟩⟩
theorem ok_13 {j : Nat} (h : j < 14) : okCell 13 j := ⟨(1, 13, 14), by decide, rfl, Or.inr ⟨rfl, h⟩⟩
theorem ok_14 {j : Nat} (h : j < 14) : okCell 14 j := ⟨(1, 14, 14), by decide, rfl, Or.inr ⟨rfl, h⟩⟩
theorem ok_15 {j : Nat} (h : j < 14) : okCell 15 j := ⟨(1, 15, 14), by decide, rfl, Or.inr ⟨rfl, h⟩⟩
theorem ok_7 {j : Nat} (h : j < 10) : okCell 7 j := ⟨(1, 7, 10), by decide, rfl, Or.inr ⟨rfl, h⟩⟩
theorem ok_17 {j : Nat} (h : j < 126) : okCell 17 j := ⟨(1, 17, 126), by decide, rfl, Or.inr ⟨rfl, h⟩⟩
theorem ok_8 {j : Nat} (h : j < 10) : okCell 8 j := ⟨(1, 8, 10), by decide, rfl, Or.inr ⟨rfl, h⟩⟩
theorem ok_18 {j : Nat} (h : j < 126) : okCell 18 j := ⟨(1, 18, 126), by decide, rfl, Or.inr ⟨rfl, h⟩⟩
theorem ok_19 {j : Nat} (h : j < 2) : okCell 19 j := ⟨(1, 19, 2), by decide, rfl, Or.inr ⟨rfl, h⟩⟩
theorem ok_20 {j : Nat} (h : j < 2) : okCell 20 j := ⟨(1, 20, 2), by decide, rfl, Or.inr ⟨rfl, h⟩⟩
theorem ok_21 {j : Nat} (h : j < 2) : okCell 21 j := ⟨(1, 21, 2), by decide, rfl, Or.inr ⟨rfl, h⟩⟩
theorem ok_23 {j : Nat} (h : j < 8) : okCell 23 j := ⟨(1, 23, 8), by decide, rfl, Or.inr ⟨rfl, h⟩⟩
theorem ok_22_1 : okCell 22 1 := ⟨(0, 22, 1), by decide, rfl, Or.inl ⟨rfl, rfl⟩⟩
theorem ok_24 {j : Nat} (h : j < 120) : okCell 24 j := ⟨(1, 24, 120), by decide, rfl, Or.inr ⟨rfl, h⟩⟩
theorem ok_25 {j : Nat} (h : j < 120) : okCell 25 j := ⟨(1, 25, 120), by decide, rfl, Or.inr ⟨rfl, h⟩⟩
theorem ok_26 {j : Nat} (h : j < 120) : okCell 26 j := ⟨(1, 26, 120), by decide, rfl, Or.inr ⟨rfl, h⟩⟩
theorem ok_27 {j : Nat} (h : j < 120) : okCell 27 j := ⟨(1, 27, 120), by decide, rfl, Or.inr ⟨rfl, h⟩⟩
theorem ok_28 {j : Nat} (h : j < 120) : okCell 28 j := ⟨(1, 28, 120), by decide, rfl, Or.inr ⟨rfl, h⟩⟩
theorem ok_29 {j : Nat} (h : j < 120) : okCell 29 j := ⟨(1, 29, 120), by decide, rfl, Or.inr ⟨rfl, h⟩⟩
theorem ok_22_8 : okCell 22 8 := ⟨(0, 22, 8), by decide, rfl, Or.inl ⟨rfl, rfl⟩⟩
theorem ok_30 {j : Nat} (h : j < 2400) : okCell 30 j := ⟨(1, 30, 2400), by decide, rfl, Or.inr ⟨rfl, h⟩⟩
theorem ok_31_0 : okCell 31 0 := ⟨(0, 31, 0), by decide, rfl, Or.inl ⟨rfl, rfl⟩⟩
theorem ok_32 {j : Nat} (h : j < 500) : okCell 32 j := ⟨(1, 32, 500), by decide, rfl, Or.inr ⟨rfl, h⟩⟩
theorem ok_31_2 : okCell 31 2 := ⟨(0, 31, 2), by decide, rfl, Or.inl ⟨rfl, rfl⟩⟩
theorem ok_31_3 : okCell 31 3 := ⟨(0, 31, 3), by decide, rfl, Or.inl ⟨rfl, rfl⟩⟩
theorem ok_33_0 : okCell 33 0 := ⟨(0, 33, 0), by decide, rfl, Or.inl ⟨rfl, rfl⟩⟩
theorem ok_34 {j : Nat} (h : j < 16) : okCell 34 j := ⟨(1, 34, 16), by decide, rfl, Or.inr ⟨rfl, h⟩⟩
theorem ok_35 {j : Nat} (h : j < 16) : okCell 35 j := ⟨(1, 35, 16), by decide, rfl, Or.inr ⟨rfl, h⟩⟩
theorem ok_36 {j : Nat} (h : j < 16) : okCell 36 j := ⟨(1, 36, 16), by decide, rfl, Or.inr ⟨rfl, h⟩⟩
theorem ok_37 {j : Nat} (h : j < 64) : okCell 37 j := ⟨(1, 37, 64), by decide, rfl, Or.inr ⟨rfl, h⟩⟩
theorem ok_38 {j : Nat} (h : j < 64) : okCell 38 j := ⟨(1, 38, 64), by decide, rfl, Or.inr ⟨rfl, h⟩⟩
theorem ok_39 {j : Nat} (h : j < 64) : okCell 39 j := ⟨(1, 39, 64), by decide, rfl, Or.inr ⟨rfl, h⟩⟩
theorem ok_40 {j : Nat} (h : j < 64) : okCell 40 j := ⟨(1, 40, 64), by decide, rfl, Or.inr ⟨rfl, h⟩⟩
theorem ok_41 {j : Nat} (h : j < 100) : okCell 41 j := ⟨(1, 41, 100), by decide, rfl, Or.inr ⟨rfl, h⟩⟩
theorem ok_42_0 : okCell 42 0 := ⟨(0, 42, 0), by decide, rfl, Or.inl ⟨rfl, rfl⟩⟩
theorem ok_43 {j : Nat} (h : j < 150) : okCell 43 j := ⟨(1, 43, 150), by decide, rfl, Or.inr ⟨rfl, h⟩⟩
theorem ok_44 {j : Nat} (h : j < 150) : okCell 44 j := ⟨(1, 44, 150), by decide, rfl, Or.inr ⟨rfl, h⟩⟩
theorem ok_45 {j : Nat} (h : j < 150) : okCell 45 j := ⟨(1, 45, 150), by decide, rfl, Or.inr ⟨rfl, h⟩⟩
theorem ok_46 {j : Nat} (h : j < 150) : okCell 46 j := ⟨(1, 46, 150), by decide, rfl, Or.inr ⟨rfl, h⟩⟩
theorem RNet.agr {c c' : Sg} {a a' : Nat → Int32} {N C Q : Nat} (h : RNet c a N C Q) (A : ∀ i j, okCell i j → c' i j = c i j) (B : ∀ j, j < 5090 → a' j = a j) : RNet c' a' N C Q := by
  have hN := h.hN
  have hC := h.hC
  apply RNet.mk
  case hN => exact h.hN
  case hC => exact h.hC
  case hQ => exact h.hQ
  case cN => rw [A 2 1 ok_2_1]; exact h.cN
  case aN => rw [B _ (by omega)]; exact h.aN
  case cC => rw [A 2 6 ok_2_6]; exact h.cC
  case aC => rw [B _ (by omega)]; exact h.aC
  case cQ => rw [A 2 0 ok_2_0]; exact h.cQ
  case aQ => rw [B _ (by omega)]; exact h.aQ
  case kind => intro n hn; rw [B _ (by omega), A 3 _ (ok_3 (by omega))]; exact h.kind n hn
  case size => intro n hn; rw [B _ (by omega), A 4 _ (ok_4 (by omega))]; exact h.size n hn
  case gate => intro n hn; rw [B _ (by omega), A 5 _ (ok_5 (by omega))]; exact h.gate n hn
  case kep0 => intro n hn; rw [B _ (by omega), A 7 _ (ok_7 (by omega))]; exact h.kep0 n hn
  case kep1 => intro n hn; rw [B _ (by omega), A 8 _ (ok_8 (by omega))]; exact h.kep1 n hn
  case frm => intro n hn; rw [B _ (by omega), A 9 _ (ok_9 (by omega))]; exact h.frm n hn
  case to => intro n hn; rw [B _ (by omega), A 10 _ (ok_10 (by omega))]; exact h.to n hn
  case low => intro n hn; rw [B _ (by omega), A 11 _ (ok_11 (by omega))]; exact h.low n hn
  case hig => intro n hn; rw [B _ (by omega), A 12 _ (ok_12 (by omega))]; exact h.hig n hn
  case trv => intro n hn; rw [B _ (by omega), A 13 _ (ok_13 (by omega))]; exact h.trv n hn
  case brd => intro n hn; rw [B _ (by omega), A 14 _ (ok_14 (by omega))]; exact h.brd n hn
  case brk => intro n hn; rw [B _ (by omega), A 15 _ (ok_15 (by omega))]; exact h.brk n hn
  case way0 => intro n hn; rw [B _ (by omega), A 17 _ (ok_17 (by omega))]; exact h.way0 n hn
  case way1 => intro n hn; rw [B _ (by omega), A 18 _ (ok_18 (by omega))]; exact h.way1 n hn
  case gateV => 
    intro n hn
    rw [A 5 _ (ok_5 (by omega))]
    rcases h.gateV n hn with e | ⟨k, h1, h2, h3⟩
    · exact Or.inl e
    · exact Or.inr ⟨k, h1, h2, by rw [A 9 _ (ok_9 (by omega))]; exact h3⟩
  case ends => intro n hn; rw [A 9 _ (ok_9 (by omega)), A 10 _ (ok_10 (by omega))]; exact h.ends n hn
  case lowV => intro n hn; rw [A 11 _ (ok_11 (by omega))]; exact h.lowV n hn
  case higV => intro n hn; rw [A 12 _ (ok_12 (by omega))]; exact h.higV n hn
  case trvV => intro n hn; rw [A 13 _ (ok_13 (by omega))]; exact h.trvV n hn
  case brdV => intro n hn; rw [A 14 _ (ok_14 (by omega))]; exact h.brdV n hn
  case brkV => intro n hn; rw [A 15 _ (ok_15 (by omega))]; exact h.brkV n hn
  case kindV => intro n hn; rw [A 3 _ (ok_3 (by omega))]; exact h.kindV n hn
  case kepZ => intro n hn h9; rw [A 7 _ (ok_7 h9), A 8 _ (ok_8 h9)]; exact h.kepZ n hn h9
  case brkZ => intro n hn h9; rw [A 15 _ (ok_15 h9)]; exact h.brkZ n hn h9
  case wayZ => intro n hn h9; rw [A 17 _ (ok_17 h9), A 18 _ (ok_18 h9)]; exact h.wayZ n hn h9
  case su00 => 
    rw [B _ (by omega), h.su00]
    exact sumTo_congr (fun i hi => by simp only [A 3 i (ok_3 hi), A 7 i (ok_7 hi)])
  case su01 => 
    rw [B _ (by omega), h.su01]
    exact sumTo_congr (fun i hi => by simp only [A 3 i (ok_3 hi), A 7 i (ok_7 hi)])
  case su02 => 
    rw [B _ (by omega), h.su02]
    exact sumTo_congr (fun i hi => by simp only [A 3 i (ok_3 hi), A 7 i (ok_7 hi)])
  case su03 => 
    rw [B _ (by omega), h.su03]
    exact sumTo_congr (fun i hi => (A 17 i (ok_17 hi)).symm)
  case su04 => rw [B _ (by omega), A 19 0 (ok_19 (by omega))]; exact h.su04
  case su05 => rw [B _ (by omega), A 20 0 (ok_20 (by omega))]; exact h.su05
  case su06 => rw [B _ (by omega), A 21 0 (ok_21 (by omega))]; exact h.su06
  case su10 => 
    rw [B _ (by omega), h.su10]
    exact sumTo_congr (fun i hi => by simp only [A 3 i (ok_3 hi), A 8 i (ok_8 hi)])
  case su11 => 
    rw [B _ (by omega), h.su11]
    exact sumTo_congr (fun i hi => by simp only [A 3 i (ok_3 hi), A 8 i (ok_8 hi)])
  case su12 => 
    rw [B _ (by omega), h.su12]
    exact sumTo_congr (fun i hi => by simp only [A 3 i (ok_3 hi), A 8 i (ok_8 hi)])
  case su13 => 
    rw [B _ (by omega), h.su13]
    exact sumTo_congr (fun i hi => (A 18 i (ok_18 hi)).symm)
  case su14 => rw [B _ (by omega), A 19 1 (ok_19 (by omega))]; exact h.su14
  case su15 => rw [B _ (by omega), A 20 1 (ok_20 (by omega))]; exact h.su15
  case su16 => rw [B _ (by omega), A 21 1 (ok_21 (by omega))]; exact h.su16
theorem RRig.agr {c c' : Sg} {a a' : Nat → Int32} {D N Q : Nat} (h : RRig c a D N Q) (A : ∀ i j, okCell i j → c' i j = c i j) (B : ∀ j, j < 5090 → a' j = a j) : RRig c' a' D N Q := by
  have hD := h.hD
  apply RRig.mk
  case hD => exact h.hD
  case cD => rw [A 22 1 ok_22_1]; exact h.cD
  case aD => rw [B _ (by omega)]; exact h.aD
  case home => intro n hn; rw [B _ (by omega), A 23 _ (ok_23 (by omega))]; exact h.home n hn
  case homeV => intro n hn; rw [A 23 _ (ok_23 (by omega))]; exact h.homeV n hn
  case d0 => intro n hn; rw [B _ (by omega), A 24 _ (ok_24 (by omega))]; exact h.d0 n hn
  case d1 => intro n hn; rw [B _ (by omega), A 25 _ (ok_25 (by omega))]; exact h.d1 n hn
  case d2 => intro n hn; rw [B _ (by omega), A 26 _ (ok_26 (by omega))]; exact h.d2 n hn
  case d3 => intro n hn; rw [B _ (by omega), A 27 _ (ok_27 (by omega))]; exact h.d3 n hn
  case d4 => intro n hn; rw [B _ (by omega), A 28 _ (ok_28 (by omega))]; exact h.d4 n hn
  case d5 => intro n hn; rw [B _ (by omega), A 29 _ (ok_29 (by omega))]; exact h.d5 n hn
  case dFL => intro n hn; rw [A 24 _ (ok_24 (by omega)), A 25 _ (ok_25 (by omega))]; exact h.dFL n hn
  case dW => intro n hn; rw [A 26 _ (ok_26 (by omega))]; exact h.dW n hn
  case dS => intro n hn; rw [A 27 _ (ok_27 (by omega))]; exact h.dS n hn
  case dY => intro n hn; rw [A 28 _ (ok_28 (by omega))]; exact h.dY n hn
  case dV => intro n hn; rw [A 29 _ (ok_29 (by omega))]; exact h.dV n hn
  case cR => rw [A 22 8 ok_22_8]; exact h.cR
  case aR => rw [B _ (by omega)]; exact h.aR
  case runs => intro n hn; rw [B _ (by omega), A 30 _ (ok_30 (by omega))]; exact h.runs n hn
  case runV => intro n hn; rw [A 30 _ (ok_30 (by omega))]; exact h.runV n hn
theorem tLine_ag {ac nu te no fa si li ac' nu' te' no' fa' si' li' : Nat → Int32} {k i : Nat} {a : Nat → Int32} (hk : k < 16) (h1 : ∀ j, j < 16 → ac' j = ac j) (h2 : ∀ j, j < 16 → nu' j = nu j) (h3 : ∀ j, j < 16 → te' j = te j) (h4 : ∀ j, j < 64 → no' j = no j) (h5 : ∀ j, j < 64 → fa' j = fa j) (h6 : ∀ j, j < 64 → si' j = si j) (h7 : ∀ j, j < 64 → li' j = li j) (h : tLine ac nu te no fa si li k a i) : tLine ac' nu' te' no' fa' si' li' k a i := by
  obtain ⟨⟨n, g1, g2, g3, g4⟩, g5, g6, g7⟩ := h
  refine ⟨⟨n, g1, (h3 k hk).trans g2, g3, fun t ht => ?_⟩, ?_, ?_, ?_⟩
  · rw [h4 _ (by omega), h5 _ (by omega), h6 _ (by omega), h7 _ (by omega)]
    exact g4 t ht
  · rw [h1 k hk]; exact g5
  · rw [h2 k hk]; exact g6
  · rw [h2 k hk]; exact g7
theorem RLaw.agr {c c' : Sg} {a a' : Nat → Int32} {T L : Nat} (h : RLaw c a T L) (A : ∀ i j, okCell i j → c' i j = c i j) (B : ∀ j, j < 5090 → a' j = a j) : RLaw c' a' T L := by
  have hT := h.hT
  have hL := h.hL
  apply RLaw.mk
  case hT => exact h.hT
  case hL => exact h.hL
  case cT => rw [A 31 0 ok_31_0]; exact h.cT
  case aT => rw [B _ (by omega)]; exact h.aT
  case tape => intro n hn; rw [B _ (by omega), A 32 _ (ok_32 (by omega))]; exact h.tape n hn
  case tapeV => intro n hn; rw [A 32 _ (ok_32 (by omega))]; exact h.tapeV n hn
  case fk => rw [B _ (by omega), A 31 2 ok_31_2]; exact h.fk
  case fp => rw [B _ (by omega), A 31 3 ok_31_3]; exact h.fp
  case dry => intro n hn; rw [B _ (by omega), A 41 _ (ok_41 (by omega))]; exact h.dry n hn
  case dryV => intro n hn; rw [A 41 _ (ok_41 (by omega))]; exact h.dryV n hn
  case cL => rw [A 33 0 ok_33_0]; exact h.cL
  case aL => rw [B _ (by omega)]; exact h.aL
  case ln => 
    intro k hk
    refine tLine_fr (i := 4270 + 20 * k) (fun j hj => B _ (by omega)) ?_
    exact tLine_ag (by omega) (fun j hj => A 34 j (ok_34 hj)) (fun j hj => A 35 j (ok_35 hj)) (fun j hj => A 36 j (ok_36 hj)) (fun j hj => A 37 j (ok_37 hj)) (fun j hj => A 38 j (ok_38 hj)) (fun j hj => A 39 j (ok_39 hj)) (fun j hj => A 40 j (ok_40 hj)) (h.ln k hk)
theorem RGau.agr {c c' : Sg} {a a' : Nat → Int32} {G C Q : Nat} (h : RGau c a G C Q) (A : ∀ i j, okCell i j → c' i j = c i j) (B : ∀ j, j < 5090 → a' j = a j) : RGau c' a' G C Q := by
  have hG := h.hG
  apply RGau.mk
  case hG => exact h.hG
  case cG => rw [A 42 0 ok_42_0]; exact h.cG
  case aG => rw [B _ (by omega)]; exact h.aG
  case g0 => intro n hn; rw [B _ (by omega), A 43 _ (ok_43 (by omega))]; exact h.g0 n hn
  case g1 => intro n hn; rw [B _ (by omega), A 44 _ (ok_44 (by omega))]; exact h.g1 n hn
  case g2 => intro n hn; rw [B _ (by omega), A 45 _ (ok_45 (by omega))]; exact h.g2 n hn
  case g3 => intro n hn; rw [B _ (by omega), A 46 _ (ok_46 (by omega))]; exact h.g3 n hn
  case gC => intro n hn; rw [A 43 _ (ok_43 (by omega))]; exact h.gC n hn
  case gQ => intro n hn; rw [A 44 _ (ok_44 (by omega))]; exact h.gQ n hn
  case gI => intro n hn; rw [A 45 _ (ok_45 (by omega))]; exact h.gI n hn
  case gO => intro n hn; rw [A 46 _ (ok_46 (by omega))]; exact h.gO n hn
theorem RT.agr {c c' : Sg} {a a' : Nat → Int32} (h : RT c a) (A : ∀ i j, okCell i j → c' i j = c i j) (B : ∀ j, j < 5090 → a' j = a j) : RT c' a' := by
  obtain ⟨N, C, Q, D, T, L, G, h⟩ := h
  exact ⟨N, C, Q, D, T, L, G, RTn.mk (h.net.agr A B) (h.rig.agr A B) (h.law.agr A B) (h.gau.agr A B)⟩
set_option maxRecDepth 100000 in
theorem told_copyFrom_eq (g : Sg) : told_copyFrom g = some (runOps 0 47 OPS g) := rfl
set_option maxRecDepth 100000 in
theorem told_copyFrom_c1_eq (g : Sg) : told_copyFrom_c1 g = some (runOps 0 93 OPS g) := rfl
set_option maxRecDepth 100000 in
theorem told_copyFrom_c2_eq (g : Sg) : told_copyFrom_c2 g = some (runOps 0 139 OPS g) := rfl
set_option maxRecDepth 100000 in
theorem told_copyFrom_c3_eq (g : Sg) : told_copyFrom_c3 g = some (runOps 47 0 OPS g) := rfl
set_option maxRecDepth 100000 in
theorem told_copyFrom_c4_eq (g : Sg) : told_copyFrom_c4 g = some (runOps 93 0 OPS g) := rfl
set_option maxRecDepth 100000 in
theorem told_copyFrom_c5_eq (g : Sg) : told_copyFrom_c5 g = some (runOps 139 0 OPS g) := rfl
theorem cpS {g : Sg} {a i b j n : Nat} (h : ¬ (a = b ∧ j ≤ i + n ∧ i + n < j + n)) : up2 (cp2 g a i b j n) b (j + n) (cp2 g a i b j n a (i + n)) = cp2 g a i b j (n + 1) := by
  have e : cp2 g a i b j n a (i + n) = g a (i + n) := if_neg h
  funext c k
  rw [e]
  unfold up2 cp2
  by_cases h1 : c = b
  · by_cases h2 : k = j + n
    · rw [if_pos ⟨h1.symm ▸ rfl, h2⟩, if_pos ⟨h1, by omega, by omega⟩, h2, Nat.add_sub_cancel_left]
    · rw [if_neg (fun q => h2 q.2)]
      by_cases h3 : j ≤ k ∧ k < j + n
      · rw [if_pos ⟨h1, h3⟩, if_pos ⟨h1, by omega, by omega⟩]
      · rw [if_neg (fun q => h3 q.2), if_neg (fun q => h3 ⟨q.2.1, by omega⟩)]
  · rw [if_neg (fun q => h1 q.1), if_neg (fun q => h1 q.1), if_neg (fun q => h1 q.1)]
theorem cp0 {g : Sg} {a i b j : Nat} : cp2 g a i b j 0 = g := by
  funext c k
  exact if_neg (by omega)
theorem imgL {g : Sg} {k : Nat} (hk : k < 3) : ∀ m j F, j + m = 5090 → m < F → m_image_20 F (nn k) (nn j) (cp2 g 216 0 216 (5090 * (k + 1)) j) = some (1, cp2 g 216 0 216 (5090 * (k + 1)) 5090) := by
  intro m
  induction m with
  | zero =>
    intro j F hj hF
    obtain ⟨F, rfl⟩ : ∃ F2, F = F2 + 1 := ⟨F - 1, by omega⟩
    have : j = 5090 := by omega
    subst this
    unfold m_image_20
    exact if_pos (by decide)
  | succ m ih =>
    intro j F hj hF
    obtain ⟨F, rfl⟩ : ∃ F2, F = F2 + 1 := ⟨F - 1, by omega⟩
    have h2 : ¬ 5090 ≤ j := by omega
    have h1 : j < 20360 := by omega
    have h3 : 5090 * (k + 1) + j < 20360 := by omega
    unfold m_image_20
    refine st_f (by simp (disch := first | omega | decide) only [lt1, nnMl, nnMr, nnAl, nnAr, nnA, nnM, nnB, nnT, nnP, nnE, nnEl, nnEr, nnL, nnLl, nnLr, nnQ, nnQr, nnN, Nat.add_zero, if_false, if_true, Option.bind_some, not_true, not_false_iff, not_true_eq_false, not_false_eq_true, eq_self, Nat.not_lt_zero, z10, z01, or_true, true_or, or_false, false_or, true_and, false_and, h2]) (st_t (by simp (disch := first | omega | decide) only [lt1, nnMl, nnMr, nnAl, nnAr, nnA, nnM, nnB, nnT, nnP, nnE, nnEl, nnEr, nnL, nnLl, nnLr, nnQ, nnQr, nnN, Nat.add_zero, if_false, if_true, Option.bind_some, not_true, not_false_iff, not_true_eq_false, not_false_eq_true, eq_self, Nat.not_lt_zero, z10, z01, or_true, true_or, or_false, false_or, true_and, false_and, h1]) (st_w (by simp (disch := first | omega | decide) only [lt1, nnMl, nnMr, nnAl, nnAr, nnA, nnM, nnB, nnT, nnP, nnE, nnEl, nnEr, nnL, nnLl, nnLr, nnQ, nnQr, nnN, Nat.add_zero, if_false, if_true, Option.bind_some, not_true, not_false_iff, not_true_eq_false, not_false_eq_true, eq_self, Nat.not_lt_zero, z10, z01, or_true, true_or, or_false, false_or, true_and, false_and, h3]) ?_))
    refine Eq.trans ?_ (ih (j + 1) F (by omega) (by omega))
    rw [← cpS (g := g) (a := 216) (i := 0) (b := 216) (j := 5090 * (k + 1)) (n := j) (by omega), Nat.zero_add]
    simp (disch := first | omega | decide) only [lt1, nnMl, nnMr, nnAl, nnAr, nnA, nnM, nnB, nnT, nnP, nnE, nnEl, nnEr, nnL, nnLl, nnLr, nnQ, nnQr, nnN, Nat.add_zero, if_false, if_true, Option.bind_some, not_true, not_false_iff, not_true_eq_false, not_false_eq_true, eq_self, Nat.not_lt_zero, z10, z01, or_true, true_or, or_false, false_or, true_and, false_and]
theorem agnL {g : Sg} {k : Nat} (hk : k < 3) : ∀ m j F, j + m = 5090 → m < F → m_again_22 F (nn k) (nn j) (cp2 g 216 (5090 * (k + 1)) 216 0 j) = some (1, cp2 g 216 (5090 * (k + 1)) 216 0 5090) := by
  intro m
  induction m with
  | zero =>
    intro j F hj hF
    obtain ⟨F, rfl⟩ : ∃ F2, F = F2 + 1 := ⟨F - 1, by omega⟩
    have : j = 5090 := by omega
    subst this
    unfold m_again_22
    exact if_pos (by decide)
  | succ m ih =>
    intro j F hj hF
    obtain ⟨F, rfl⟩ : ∃ F2, F = F2 + 1 := ⟨F - 1, by omega⟩
    have h2 : ¬ 5090 ≤ j := by omega
    have h1 : j < 20360 := by omega
    have h3 : 5090 * (k + 1) + j < 20360 := by omega
    unfold m_again_22
    refine st_f (by simp (disch := first | omega | decide) only [lt1, nnMl, nnMr, nnAl, nnAr, nnA, nnM, nnB, nnT, nnP, nnE, nnEl, nnEr, nnL, nnLl, nnLr, nnQ, nnQr, nnN, Nat.add_zero, if_false, if_true, Option.bind_some, not_true, not_false_iff, not_true_eq_false, not_false_eq_true, eq_self, Nat.not_lt_zero, z10, z01, or_true, true_or, or_false, false_or, true_and, false_and, h2]) (st_t (by simp (disch := first | omega | decide) only [lt1, nnMl, nnMr, nnAl, nnAr, nnA, nnM, nnB, nnT, nnP, nnE, nnEl, nnEr, nnL, nnLl, nnLr, nnQ, nnQr, nnN, Nat.add_zero, if_false, if_true, Option.bind_some, not_true, not_false_iff, not_true_eq_false, not_false_eq_true, eq_self, Nat.not_lt_zero, z10, z01, or_true, true_or, or_false, false_or, true_and, false_and, h3]) (st_w (by simp (disch := first | omega | decide) only [lt1, nnMl, nnMr, nnAl, nnAr, nnA, nnM, nnB, nnT, nnP, nnE, nnEl, nnEr, nnL, nnLl, nnLr, nnQ, nnQr, nnN, Nat.add_zero, if_false, if_true, Option.bind_some, not_true, not_false_iff, not_true_eq_false, not_false_eq_true, eq_self, Nat.not_lt_zero, z10, z01, or_true, true_or, or_false, false_or, true_and, false_and, h1]) ?_))
    refine Eq.trans ?_ (ih (j + 1) F (by omega) (by omega))
    rw [← cpS (g := g) (a := 216) (i := 5090 * (k + 1)) (b := 216) (j := 0) (n := j) (by omega), Nat.zero_add]
    simp (disch := first | omega | decide) only [lt1, nnMl, nnMr, nnAl, nnAr, nnA, nnM, nnB, nnT, nnP, nnE, nnEl, nnEr, nnL, nnLl, nnLr, nnQ, nnQr, nnN, Nat.add_zero, if_false, if_true, Option.bind_some, not_true, not_false_iff, not_true_eq_false, not_false_eq_true, eq_self, Nat.not_lt_zero, z10, z01, or_true, true_or, or_false, false_or, true_and, false_and]
theorem cp_o {g : Sg} {a i b j n c k : Nat} (h : c ≠ b ∨ k < j ∨ j + n ≤ k) : cp2 g a i b j n c k = g c k := if_neg (by omega)
theorem cp_c {g : Sg} {a i b j n c : Nat} (h : c ≠ b) : cp2 g a i b j n c = g c := funext (fun k => cp_o (Or.inl h))
theorem cp_i {g : Sg} {a i b j n k : Nat} (h : k < n) : cp2 g a i b j n b (j + k) = g a (i + k) := by
  refine (if_pos ⟨rfl, by omega, by omega⟩).trans ?_
  rw [Nat.add_sub_cancel_left]
section SI
theorem sim_image {TS : Sg → Prop} (hT : TSf TS) : Sim_image (RR TS) := by
  intro v1 g hR
  rcases chk v1 2 2 rfl (by decide) with ⟨k, hk, rfl, x1, m1⟩ | ⟨x1, m1⟩
  · have hk3 : k < 3 := by omega
    have h9 : 47 + 46 * k < 187 - 46 := by omega
    refine ⟨0, 5091, 1, up2 (runOps 0 (47 + 46 * k) OPS g) 186 k 1, cp2 (up2 (up2 (runOps 0 (47 + 46 * k) OPS g) 186 k 1) 217 k 1) 216 0 216 (5090 * (k + 1)) 5090, ?_, ?_, ?_⟩
    · have c3 : k = 0 ∨ k = 1 ∨ k = 2 := by omega
      unfold x_image
      rcases c3 with rfl | rfl | rfl
      · refine st_t rfl (st_b (x1 g) (st_f (by decide) ?_))
        exact st_b (told_copyFrom_eq g) rfl
      · refine st_f (by decide) (st_t rfl (st_b (x1 g) (st_f (by decide) ?_)))
        exact st_b (told_copyFrom_c1_eq g) rfl
      · refine st_f (by decide) (st_f (by decide) (st_t rfl (st_b (x1 g) (st_f (by decide) ?_))))
        exact st_b (told_copyFrom_c2_eq g) rfl
    · unfold m_image
      refine st_b (m1 _) (st_t (by decide) (st_w (by simp (disch := first | omega | decide) only [lt1, nnMl, nnMr, nnAl, nnAr, nnA, nnM, nnB, nnT, nnP, nnE, nnEl, nnEr, nnL, nnLl, nnLr, nnQ, nnQr, nnN, Nat.add_zero, if_false, if_true, Option.bind_some, not_true, not_false_iff, not_true_eq_false, not_false_eq_true, eq_self, Nat.not_lt_zero, z10, z01, or_true, true_or, or_false, false_or, true_and, false_and, hk3]) ?_))
      refine Eq.trans ?_ (imgL (g := up2 (up2 (runOps 0 (47 + 46 * k) OPS g) 186 k 1) 217 k 1) hk3 5090 0 5091 (by omega) (by omega))
      rw [cp0, nnT (by omega)]
      rfl
    · have E : ∀ c, c ≠ 216 → c ≠ 217 → c ≠ 186 → (c < 47 + 46 * k + 2 ∨ 47 + 46 * k + 46 < c) → cp2 (up2 (up2 (runOps 0 (47 + 46 * k) OPS g) 186 k 1) 217 k 1) 216 0 216 (5090 * (k + 1)) 5090 c = g c := fun c e1 e2 e3 e4 => by
        rw [cp_c e1, u2n e2, u2n e3, copy_fr e4]
      have E6 : ∀ j, (j < 5090 * (k + 1) ∨ 5090 * (k + 1) + 5090 ≤ j) → cp2 (up2 (up2 (runOps 0 (47 + 46 * k) OPS g) 186 k 1) 217 k 1) 216 0 216 (5090 * (k + 1)) 5090 216 j = g 216 j := fun j e => by
        rw [cp_o (Or.inr e), u2n (by omega), u2n (by omega), copy_fr (by omega)]
      have E7 : cp2 (up2 (up2 (runOps 0 (47 + 46 * k) OPS g) 186 k 1) 217 k 1) 216 0 216 (5090 * (k + 1)) 5090 217 = up1 (g 217) k 1 := by
        rw [cp_c (by omega), u2e, u2n (by omega), copy_fr (by omega)]
      have E8 : cp2 (up2 (up2 (runOps 0 (47 + 46 * k) OPS g) 186 k 1) 217 k 1) 216 0 216 (5090 * (k + 1)) 5090 186 = up1 (g 186) k 1 := by
        rw [cp_c (by omega), u2n (by omega), u2e, copy_fr (by omega)]
      refine RR.mk ?_ ?_ ?_
      · exact hR.now.fr (fun i e1 e2 => E i (by omega) (by omega) (by omega) (by omega)) (fun j hj => E6 j (by omega))
      · intro m hm
        rw [E7, E8]
        by_cases e : m = k
        · subst e
          rw [up1_eq, up1_eq]
          refine ⟨rfl, Or.inr rfl, fun _ => ?_⟩
          refine hR.now.agr (fun i j hij => ?_) (fun j hj => ?_)
          · have hr := okCell_r hij
            show cp2 _ _ _ _ _ _ (i + (47 + 46 * m)) j = _
            rw [cp_c (by omega), u2n (by omega), u2n (by omega), Nat.add_comm i, copy_y (by omega) hij, Nat.zero_add]
          · show cp2 _ _ _ _ _ _ 216 (5090 * (m + 1) + j) = _
            rw [cp_i hj, u2n (by omega), u2n (by omega), copy_fr (by omega), Nat.zero_add]
        · rw [up1_ne e, up1_ne e]
          obtain ⟨h1, h2, h3⟩ := hR.img m hm
          refine ⟨h1, h2, fun h4 => (h3 h4).fr (fun i e1 e2 => ?_) (fun j hj => ?_)⟩
          · exact E _ (by omega) (by omega) (by omega) (by omega)
          · exact E6 _ (by omega)
      · exact hT g _ (fun i e1 e2 => E i (by omega) (by omega) (by omega) (by omega)) hR.trn
  · refine ⟨0, 0, 0, g, g, ?_, ?_, hR⟩
    · have ne : ∀ k : Nat, k ≤ 2 → ¬ v1 = nn k := fun k hk e => by
        have := x1 g
        rw [e] at this
        rw [show x_within (nn k) 0 2 g = some 1 from wthK_y (K := 2) rfl (by decide) hk] at this
        exact absurd (Option.some.inj this) (by decide)
      unfold x_image
      exact st_f (ne 0 (by decide)) (st_f (ne 1 (by decide)) (st_f (ne 2 (by decide)) (st_b (x1 g) (st_t rfl rfl))))
    · unfold m_image
      exact st_b (m1 g) (st_f (by decide) rfl)
theorem sim_again {TS : Sg → Prop} (hT : TSf TS) : Sim_again (RR TS) := by
  intro v1 g hR
  rcases chk v1 2 2 rfl (by decide) with ⟨k, hk, rfl, x1, m1⟩ | ⟨x1, m1⟩
  · have hk3 : k < 3 := by omega
    have c3 : k = 0 ∨ k = 1 ∨ k = 2 := by omega
    obtain ⟨h1, h2, h3⟩ := hR.img k hk3
    by_cases hi : g 186 k = 0
    · refine ⟨0, 0, 0, g, g, ?_, ?_, hR⟩
      · unfold x_again
        rcases c3 with rfl | rfl | rfl
        · exact st_t rfl (st_b (x1 g) (st_f (by decide) (st_t hi rfl)))
        · exact st_f (by decide) (st_t rfl (st_b (x1 g) (st_f (by decide) (st_t hi rfl))))
        · exact st_f (by decide) (st_f (by decide) (st_t rfl (st_b (x1 g) (st_f (by decide) (st_t hi rfl)))))
      · unfold m_again
        refine st_b (m1 _) (st_f (by decide) (st_t (by simp (disch := first | omega | decide) only [lt1, nnMl, nnMr, nnAl, nnAr, nnA, nnM, nnB, nnT, nnP, nnE, nnEl, nnEr, nnL, nnLl, nnLr, nnQ, nnQr, nnN, Nat.add_zero, if_false, if_true, Option.bind_some, not_true, not_false_iff, not_true_eq_false, not_false_eq_true, eq_self, Nat.not_lt_zero, z10, z01, or_true, true_or, or_false, false_or, true_and, false_and, hk3]) (st_f ?_ rfl)))
        rw [nnT (by omega), h1, hi]
        exact fun e => e rfl
    · have h4 : g 186 k = 1 := h2.resolve_left hi
      refine ⟨0, 5091, 1, runOps (47 + 46 * k) 0 OPS g, cp2 (runOps (47 + 46 * k) 0 OPS g) 216 (5090 * (k + 1)) 216 0 5090, ?_, ?_, ?_⟩
      · unfold x_again
        rcases c3 with rfl | rfl | rfl
        · exact st_t rfl (st_b (x1 g) (st_f (by decide) (st_f hi (st_b (told_copyFrom_c3_eq g) rfl))))
        · exact st_f (by decide) (st_t rfl (st_b (x1 g) (st_f (by decide) (st_f hi (st_b (told_copyFrom_c4_eq g) rfl)))))
        · exact st_f (by decide) (st_f (by decide) (st_t rfl (st_b (x1 g) (st_f (by decide) (st_f hi (st_b (told_copyFrom_c5_eq g) rfl))))))
      · unfold m_again
        refine st_b (m1 _) (st_f (by decide) (st_t (by simp (disch := first | omega | decide) only [lt1, nnMl, nnMr, nnAl, nnAr, nnA, nnM, nnB, nnT, nnP, nnE, nnEl, nnEr, nnL, nnLl, nnLr, nnQ, nnQr, nnN, Nat.add_zero, if_false, if_true, Option.bind_some, not_true, not_false_iff, not_true_eq_false, not_false_eq_true, eq_self, Nat.not_lt_zero, z10, z01, or_true, true_or, or_false, false_or, true_and, false_and, hk3]) (st_t ?_ ?_)))
        · rw [nnT (by omega), copy_fr (by omega), h1, h4]
          decide
        · refine Eq.trans ?_ (agnL (g := runOps (47 + 46 * k) 0 OPS g) hk3 5090 0 5091 (by omega) (by omega))
          rw [cp0]
          rfl
      · have E : ∀ c, c ≠ 216 → 46 < c → cp2 (runOps (47 + 46 * k) 0 OPS g) 216 (5090 * (k + 1)) 216 0 5090 c = g c := fun c e1 e4 => by
          rw [cp_c e1, copy_fr (by omega)]
        refine RR.mk ?_ ?_ ?_
        · refine (h3 h4).agr (fun i j hij => ?_) (fun j hj => ?_)
          · have hr := okCell_r hij
            show cp2 _ _ _ _ _ _ i j = g (i + (47 + 46 * k)) j
            have := copy_y (s := 47 + 46 * k) (t := 0) (g := g) (by omega) hij
            rw [cp_c (by omega), ← Nat.zero_add i, this, Nat.zero_add, Nat.add_comm i]
          · show cp2 _ _ _ _ _ _ 216 j = g 216 (5090 * (k + 1) + j)
            have := cp_i (g := runOps (47 + 46 * k) 0 OPS g) (a := 216) (i := 5090 * (k + 1)) (b := 216) (j := 0) hj
            rw [← Nat.zero_add j, this, Nat.zero_add, copy_fr (by omega)]
        · exact hR.img.fr (fun i e1 e2 => E i (by omega) (by omega)) (fun j hj => by rw [cp_o (by omega), copy_fr (by omega)]) (E 217 (by omega) (by omega))
        · exact hT g _ (fun i e1 e2 => E i (by omega) (by omega)) hR.trn
  · refine ⟨0, 0, 0, g, g, ?_, ?_, hR⟩
    · have ne : ∀ k : Nat, k ≤ 2 → ¬ v1 = nn k := fun k hk e => by
        have := x1 g
        rw [e] at this
        rw [show x_within (nn k) 0 2 g = some 1 from wthK_y (K := 2) rfl (by decide) hk] at this
        exact absurd (Option.some.inj this) (by decide)
      unfold x_again
      exact st_f (ne 0 (by decide)) (st_f (ne 1 (by decide)) (st_f (ne 2 (by decide)) (st_b (x1 g) (st_t rfl rfl))))
    · unfold m_again
      exact st_b (m1 g) (st_t rfl rfl)
end SI
end
section
/-! feed -/
theorem byte_and (x : Int32) : x.toInt8.toInt32 &&& 255 = x &&& 255 := by
  apply Int32.toBitVec_inj.mp
  rw [Int32.toBitVec_and, Int32.toBitVec_and, Int8.toBitVec_toInt32, Int32.toBitVec_toInt8]
  apply BitVec.eq_of_getLsbD_eq_iff.mpr
  intro i hi
  have e : (Int32.toBitVec 255).getLsbD i = decide (i < 8) := by
    show (BitVec.ofNat 32 255).getLsbD i = _
    rw [BitVec.getLsbD_ofNat]
    show (decide (i < 32) && Nat.testBit (2 ^ 8 - 1) i) = _
    rw [Nat.testBit_two_pow_sub_one]
    simp [hi]
  rw [BitVec.getLsbD_and, BitVec.getLsbD_and, e]
  by_cases h : i < 8
  · rw [BitVec.getLsbD_signExtend, BitVec.getLsbD_signExtend, if_pos h, if_pos hi]
    simp only [hi, h, decide_true, Bool.true_and]
  · simp [h]
def app1 (c : Sg) (T : Nat) (b : Int32) : Sg := up2 (up2 c 32 T b) 31 0 (nn (T + 1))
def apAt (a : Nat → Int32) (T : Nat) (b : Int32) : Nat → Int32 := up1 (up1 a (4590 + T) b) 7 (nn (T + 1))
def appM (g : Sg) (T : Nat) (b : Int32) : Sg := up2 (up2 g 216 (4590 + T) b) 216 7 (nn (T + 1))
def wr : List Int32 → Nat → Sg → Sg
  | [], _, g => g
  | b :: l, T, g => wr l (T + 1) (app1 g T b)
def wrA : List Int32 → Nat → (Nat → Int32) → Nat → Int32
  | [], _, a => a
  | b :: l, T, a => wrA l (T + 1) (apAt a T b)
def wrM : List Int32 → Nat → Sg → Sg
  | [], _, g => g
  | b :: l, T, g => wrM l (T + 1) (appM g T b)
theorem wr_fr {c : Nat} (h1 : c ≠ 31) (h2 : c ≠ 32) : ∀ (l : List Int32) (T : Nat) (g : Sg), wr l T g c = g c
  | [], _, _ => rfl
  | b :: l, T, g => by
    refine (wr_fr h1 h2 l (T + 1) _).trans ?_
    unfold app1
    simp (disch := first | omega | decide) only [u2e, u2n, up1_eq, up1_ne, ne_eq]
theorem wrM_fr {c : Nat} (h1 : c ≠ 216) : ∀ (l : List Int32) (T : Nat) (g : Sg), wrM l T g c = g c
  | [], _, _ => rfl
  | b :: l, T, g => by
    refine (wrM_fr h1 l (T + 1) _).trans ?_
    unfold appM
    simp (disch := first | omega | decide) only [u2e, u2n, up1_eq, up1_ne, ne_eq]
theorem wrM_a : ∀ (l : List Int32) (T : Nat) (g : Sg), wrM l T g 216 = wrA l T (g 216)
  | [], _, _ => rfl
  | b :: l, T, g => by
    refine (wrM_a l (T + 1) _).trans ?_
    show wrA l (T + 1) (appM g T b 216) = wrA l (T + 1) (apAt (g 216) T b)
    unfold appM apAt
    rw [u2e, u2e]
theorem wrA_fr {j : Nat} (h : j ≠ 7) (h2 : j < 4590 ∨ 5090 ≤ j) : ∀ (l : List Int32) (T : Nat) (a : Nat → Int32), T + l.length ≤ 500 → wrA l T a j = a j
  | [], _, _, _ => rfl
  | b :: l, T, a, hT => by
    have e : (b :: l).length = l.length + 1 := rfl
    refine (wrA_fr h h2 l (T + 1) _ (by omega)).trans ?_
    unfold apAt
    rw [up1_ne h, up1_ne (by omega)]
theorem RLaw.byteU {c : Sg} {a : Nat → Int32} {T L : Nat} {b : Int32} (h : RLaw c a T L) (hT5 : T < 500) (hb : ∃ i : Int8, b = i.toInt32) : RLaw (app1 c T b) (apAt a T (b &&& 255)) (T + 1) L := by
  have hc : ∀ i, i ≠ 31 → i ≠ 32 → app1 c T b i = c i := fun i e1 e2 => by unfold app1; simp (disch := first | omega | decide) only [u2e, u2n, up1_eq, up1_ne, ne_eq]
  have ha : ∀ j, j ≠ 7 → j ≠ 4590 + T → apAt a T (b &&& 255) j = a j := fun j e1 e2 => by unfold apAt; simp (disch := first | omega | decide) only [u2e, u2n, up1_eq, up1_ne, ne_eq]
  have e31 : app1 c T b 31 = up1 (c 31) 0 (nn (T + 1)) := by unfold app1; simp (disch := first | omega | decide) only [u2e, u2n, up1_eq, up1_ne, ne_eq]
  have e32 : app1 c T b 32 = up1 (c 32) T b := by unfold app1; simp (disch := first | omega | decide) only [u2e, u2n, up1_eq, up1_ne, ne_eq]
  have a7 : apAt a T (b &&& 255) 7 = nn (T + 1) := by unfold apAt; simp (disch := first | omega | decide) only [u2e, u2n, up1_eq, up1_ne, ne_eq]
  have aT : apAt a T (b &&& 255) (4590 + T) = b &&& 255 := by unfold apAt; simp (disch := first | omega | decide) only [u2e, u2n, up1_eq, up1_ne, ne_eq]
  generalize app1 c T b = c' at *
  generalize apAt a T (b &&& 255) = a' at *
  apply RLaw.mk
  case hT => omega
  case hL => exact h.hL
  case cT => rw [e31, up1_eq]
  case aT => exact a7
  case tape =>
    intro n hn
    rw [e32]
    by_cases e : n = T
    · subst e; rw [up1_eq]; exact aT
    · rw [up1_ne e, ha _ (by omega) (by omega)]; exact h.tape n hn
  case tapeV =>
    intro n hn
    rw [e32]
    by_cases e : n = T
    · subst e; rw [up1_eq]; exact hb
    · rw [up1_ne e]; exact h.tapeV n hn
  case fk => rw [ha _ (by omega) (by omega), e31, up1_ne (by omega)]; exact h.fk
  case fp => rw [ha _ (by omega) (by omega), e31, up1_ne (by omega)]; exact h.fp
  case dry => intro n hn; rw [ha _ (by omega) (by omega), hc 41 (by decide) (by decide)]; exact h.dry n hn
  case dryV => rw [hc 41 (by decide) (by decide)]; exact h.dryV
  case cL => rw [hc 33 (by decide) (by decide)]; exact h.cL
  case aL => rw [ha _ (by omega) (by omega)]; exact h.aL
  case ln =>
    intro k hk
    have := h.hL
    rw [hc 34 (by decide) (by decide), hc 35 (by decide) (by decide), hc 36 (by decide) (by decide), hc 37 (by decide) (by decide), hc 38 (by decide) (by decide), hc 39 (by decide) (by decide), hc 40 (by decide) (by decide)]
    exact tLine_fr (fun j hj => ha _ (by omega) (by omega)) (h.ln k hk)
theorem RLaw.wrU {L : Nat} : ∀ (l : List Int32) (T : Nat) (c : Sg) (a : Nat → Int32), RLaw c a T L → T + l.length ≤ 500 → (∀ b, b ∈ l → ∃ i : Int8, b = i.toInt32) → RLaw (wr l T c) (wrA (l.map (fun b => b &&& 255)) T a) (T + l.length) L
  | [], T, c, a, h, _, _ => h
  | b :: l, T, c, a, h, hT, hl => by
    have e : (b :: l).length = l.length + 1 := rfl
    have := RLaw.wrU l (T + 1) _ _ (h.byteU (b := b) (by omega) (hl b List.mem_cons_self)) (by omega) (fun x hx => hl x (List.mem_cons_of_mem _ hx))
    rw [show T + (b :: l).length = T + 1 + l.length by omega]
    exact this
def by4 (v : Int32) : List Int32 := [(v >>> (24 &&& 31)).toInt8.toInt32.toInt8.toInt32, (v >>> (16 &&& 31)).toInt8.toInt32.toInt8.toInt32, (v >>> (8 &&& 31)).toInt8.toInt32.toInt8.toInt32, (v >>> (0 &&& 31)).toInt8.toInt32.toInt8.toInt32]
theorem by4_b (v : Int32) : ∀ b, b ∈ by4 v → ∃ i : Int8, b = i.toInt32 := by
  intro b hb
  unfold by4 at hb
  simp only [List.mem_cons, List.not_mem_nil, or_false] at hb
  rcases hb with rfl | rfl | rfl | rfl <;> exact ⟨_, rfl⟩
theorem by4_m (v : Int32) : (by4 v).map (fun b => b &&& 255) = [v >>> (24 &&& 31) &&& 255, v >>> (16 &&& 31) &&& 255, v >>> (8 &&& 31) &&& 255, v >>> (0 &&& 31) &&& 255] := by
  unfold by4
  simp only [List.map_cons, List.map_nil, byte_and]
theorem append_eq {g : Sg} {v : Int32} {T : Nat} (h : g 31 0 = nn T) (hT : T + 4 ≤ 500) : law_append v g = some (wr (by4 v) T g) := by
  have k0 : T < 500 := by omega
  have k1 : T + 1 < 500 := by omega
  have k2 : T + 2 < 500 := by omega
  have k3 : T + 3 < 500 := by omega
  have l0 : ¬ 500 ≤ T := by omega
  have l1 : ¬ 500 ≤ T + 1 := by omega
  have l2 : ¬ 500 ≤ T + 2 := by omega
  have l3 : ¬ 500 ≤ T + 3 := by omega
  have w1 : ∀ (g : Sg) (T : Nat) (b : Int32), app1 g T b 31 0 = nn (T + 1) := fun g T b => rfl
  have st : ∀ (g : Sg) (T : Nat) (b : Int32) (K : Sg → Option Sg) (r : Option Sg), g 31 0 = nn T → T < 500 → K (app1 g T b) = r → (if inb (g 31 0) 500 = true then lt1 (up2 g 32 (Int32.toNatClampNeg (g 31 0)) b) (fun g1 => lt1 (up2 g1 31 0 ((g1 31 0) + 1)) K) else none) = r := by
    intro g T b K r h hT hK
    rw [h]
    refine st_w (by simp (disch := first | omega | decide) only [lt1, nnMl, nnMr, nnAl, nnAr, nnA, nnM, nnB, nnT, nnP, nnE, nnEl, nnEr, nnL, nnLl, nnLr, nnQ, nnQr, nnN, Nat.add_zero, if_false, if_true, Option.bind_some, not_true, not_false_iff, not_true_eq_false, not_false_eq_true, eq_self, Nat.not_lt_zero, z10, z01, or_true, true_or, or_false, false_or, true_and, false_and, hT]) (st_l ?_)
    rw [nnT (by omega), show up2 g 32 T b 31 0 = g 31 0 by simp (disch := first | omega | decide) only [u2e, u2n, up1_eq, up1_ne, ne_eq], h]
    rw [show nn T + 1 = nn (T + 1) from nnA T 1]
    exact hK
  unfold law_append
  refine st_f (by rw [h]; simp (disch := first | omega | decide) only [lt1, nnMl, nnMr, nnAl, nnAr, nnA, nnM, nnB, nnT, nnP, nnE, nnEl, nnEr, nnL, nnLl, nnLr, nnQ, nnQr, nnN, Nat.add_zero, if_false, if_true, Option.bind_some, not_true, not_false_iff, not_true_eq_false, not_false_eq_true, eq_self, Nat.not_lt_zero, z10, z01, or_true, true_or, or_false, false_or, true_and, false_and, l0]) (st _ T _ _ _ h k0 ?_)
  refine st_f (by rw [w1]; simp (disch := first | omega | decide) only [lt1, nnMl, nnMr, nnAl, nnAr, nnA, nnM, nnB, nnT, nnP, nnE, nnEl, nnEr, nnL, nnLl, nnLr, nnQ, nnQr, nnN, Nat.add_zero, if_false, if_true, Option.bind_some, not_true, not_false_iff, not_true_eq_false, not_false_eq_true, eq_self, Nat.not_lt_zero, z10, z01, or_true, true_or, or_false, false_or, true_and, false_and, l1]) (st _ (T + 1) _ _ _ (w1 _ _ _) k1 ?_)
  refine st_f (by rw [w1]; simp (disch := first | omega | decide) only [lt1, nnMl, nnMr, nnAl, nnAr, nnA, nnM, nnB, nnT, nnP, nnE, nnEl, nnEr, nnL, nnLl, nnLr, nnQ, nnQr, nnN, Nat.add_zero, if_false, if_true, Option.bind_some, not_true, not_false_iff, not_true_eq_false, not_false_eq_true, eq_self, Nat.not_lt_zero, z10, z01, or_true, true_or, or_false, false_or, true_and, false_and, l2]) (st _ (T + 2) _ _ _ (w1 _ _ _) k2 ?_)
  exact st_f (by rw [w1]; simp (disch := first | omega | decide) only [lt1, nnMl, nnMr, nnAl, nnAr, nnA, nnM, nnB, nnT, nnP, nnE, nnEl, nnEr, nnL, nnLl, nnLr, nnQ, nnQr, nnN, Nat.add_zero, if_false, if_true, Option.bind_some, not_true, not_false_iff, not_true_eq_false, not_false_eq_true, eq_self, Nat.not_lt_zero, z10, z01, or_true, true_or, or_false, false_or, true_and, false_and, l3]) (st _ (T + 3) _ _ _ (w1 _ _ _) k3 rfl)
theorem feed_st {g : Sg} {T : Nat} {b : Int32} {K : Sg → Option (Int32 × Sg)} {r : Option (Int32 × Sg)} (h : g 216 7 = nn T) (hT : T < 500) (hK : K (appM g T b) = r) : (if inb (4590 + (g 216 7)) 20360 = true then lt1 (up2 g 216 (Int32.toNatClampNeg (4590 + (g 216 7))) b) (fun g1 => lt1 (up2 g1 216 7 ((g1 216 7) + 1)) K) else none) = r := by
  have h1 : 4590 + T < 20360 := by omega
  rw [h]
  refine st_w (by simp (disch := first | omega | decide) only [lt1, nnMl, nnMr, nnAl, nnAr, nnA, nnM, nnB, nnT, nnP, nnE, nnEl, nnEr, nnL, nnLl, nnLr, nnQ, nnQr, nnN, Nat.add_zero, if_false, if_true, Option.bind_some, not_true, not_false_iff, not_true_eq_false, not_false_eq_true, eq_self, Nat.not_lt_zero, z10, z01, or_true, true_or, or_false, false_or, true_and, false_and, h1]) (st_l ?_)
  have e : up2 g 216 (Int32.toNatClampNeg (4590 + nn T)) b = up2 g 216 (4590 + T) b := by simp (disch := first | omega | decide) only [lt1, nnMl, nnMr, nnAl, nnAr, nnA, nnM, nnB, nnT, nnP, nnE, nnEl, nnEr, nnL, nnLl, nnLr, nnQ, nnQr, nnN, Nat.add_zero, if_false, if_true, Option.bind_some, not_true, not_false_iff, not_true_eq_false, not_false_eq_true, eq_self, Nat.not_lt_zero, z10, z01, or_true, true_or, or_false, false_or, true_and, false_and]
  rw [e, show up2 g 216 (4590 + T) b 216 7 = nn T by simp (disch := first | omega | decide) only [u2e, u2n, up1_eq, up1_ne, ne_eq, h], show nn T + 1 = nn (T + 1) from nnA T 1]
  exact hK
theorem appM_7 {g : Sg} {T : Nat} {b : Int32} : appM g T b 216 7 = nn (T + 1) := rfl
theorem feedM {g : Sg} {v1 v2 v3 v4 v5 : Int32} {T : Nat} (h : g 216 7 = nn T) (hT : T + 20 ≤ 500) : m_feed v1 v2 v3 v4 v5 g = some (nn (T + 20), wrM ((by4 v1 ++ by4 v2 ++ by4 v3 ++ by4 v4 ++ by4 v5).map (fun b => b &&& 255)) T g) := by
  rw [List.map_append, List.map_append, List.map_append, List.map_append, by4_m, by4_m, by4_m, by4_m, by4_m]
  unfold m_feed
  refine st_t (by rw [h]; simp (disch := first | omega | decide) only [lt1, nnMl, nnMr, nnAl, nnAr, nnA, nnM, nnB, nnT, nnP, nnE, nnEl, nnEr, nnL, nnLl, nnLr, nnQ, nnQr, nnN, Nat.add_zero, if_false, if_true, Option.bind_some, not_true, not_false_iff, not_true_eq_false, not_false_eq_true, eq_self, Nat.not_lt_zero, z10, z01, or_true, true_or, or_false, false_or, true_and, false_and, hT]) ?_
  unfold m_feed_74
  refine feed_st (T := T) h (by omega) ?_
  unfold m_feed_74_2
  refine feed_st (T := T + 1) appM_7 (by omega) ?_
  unfold m_feed_74_3
  refine feed_st (T := T + 2) appM_7 (by omega) ?_
  unfold m_feed_74_4
  refine feed_st (T := T + 3) appM_7 (by omega) ?_
  unfold m_feed_74_5
  refine feed_st (T := T + 4) appM_7 (by omega) ?_
  unfold m_feed_74_6
  refine feed_st (T := T + 5) appM_7 (by omega) ?_
  unfold m_feed_74_7
  refine feed_st (T := T + 6) appM_7 (by omega) ?_
  unfold m_feed_74_8
  refine feed_st (T := T + 7) appM_7 (by omega) ?_
  unfold m_feed_74_9
  refine feed_st (T := T + 8) appM_7 (by omega) ?_
  unfold m_feed_74_10
  refine feed_st (T := T + 9) appM_7 (by omega) ?_
  unfold m_feed_74_11
  refine feed_st (T := T + 10) appM_7 (by omega) ?_
  unfold m_feed_74_12
  refine feed_st (T := T + 11) appM_7 (by omega) ?_
  unfold m_feed_74_13
  refine feed_st (T := T + 12) appM_7 (by omega) ?_
  unfold m_feed_74_14
  refine feed_st (T := T + 13) appM_7 (by omega) ?_
  unfold m_feed_74_15
  refine feed_st (T := T + 14) appM_7 (by omega) ?_
  unfold m_feed_74_16
  refine feed_st (T := T + 15) appM_7 (by omega) ?_
  unfold m_feed_74_17
  refine feed_st (T := T + 16) appM_7 (by omega) ?_
  unfold m_feed_74_18
  refine feed_st (T := T + 17) appM_7 (by omega) ?_
  unfold m_feed_74_19
  refine feed_st (T := T + 18) appM_7 (by omega) ?_
  unfold m_feed_74_20
  refine feed_st (T := T + 19) appM_7 (by omega) ?_
  rfl
section SJ
theorem sim_feed {TS : Sg → Prop} (hT : TSf TS) : Sim_feed (RR TS) := by
  intro v1 v2 v3 v4 v5 g hR
  obtain ⟨N, C, Q, D, T, L, G, h⟩ := hR.now
  by_cases hr : T + 20 ≤ 500
  · have hb : ∀ b, b ∈ by4 v1 ++ by4 v2 ++ by4 v3 ++ by4 v4 ++ by4 v5 → ∃ i : Int8, b = i.toInt32 := by
      intro b hb
      simp only [List.mem_append] at hb
      rcases hb with (((hb | hb) | hb) | hb) | hb <;> exact by4_b _ b hb
    have hl := RLaw.wrU (by4 v1 ++ by4 v2 ++ by4 v3 ++ by4 v4 ++ by4 v5) T g (g 216) h.law hr hb
    have E : ∀ c, c ≠ 31 → c ≠ 32 → c ≠ 216 → wrM ((by4 v1 ++ by4 v2 ++ by4 v3 ++ by4 v4 ++ by4 v5).map (fun b => b &&& 255)) T (wr (by4 v1 ++ by4 v2 ++ by4 v3 ++ by4 v4 ++ by4 v5) T g) c = g c := fun c e1 e2 e3 => by
      rw [wrM_fr e3, wr_fr e1 e2]
    have E2 : ∀ c, c ≠ 216 → wrM ((by4 v1 ++ by4 v2 ++ by4 v3 ++ by4 v4 ++ by4 v5).map (fun b => b &&& 255)) T (wr (by4 v1 ++ by4 v2 ++ by4 v3 ++ by4 v4 ++ by4 v5) T g) c = wr (by4 v1 ++ by4 v2 ++ by4 v3 ++ by4 v4 ++ by4 v5) T g c := fun c e3 => wrM_fr e3 _ _ _
    have E3 : wrM ((by4 v1 ++ by4 v2 ++ by4 v3 ++ by4 v4 ++ by4 v5).map (fun b => b &&& 255)) T (wr (by4 v1 ++ by4 v2 ++ by4 v3 ++ by4 v4 ++ by4 v5) T g) 216 = wrA ((by4 v1 ++ by4 v2 ++ by4 v3 ++ by4 v4 ++ by4 v5).map (fun b => b &&& 255)) T (g 216) := by
      rw [wrM_a, wr_fr (by decide) (by decide)]
    have E4 : ∀ j, j ≠ 7 → (j < 4590 ∨ 5090 ≤ j) → wrM ((by4 v1 ++ by4 v2 ++ by4 v3 ++ by4 v4 ++ by4 v5).map (fun b => b &&& 255)) T (wr (by4 v1 ++ by4 v2 ++ by4 v3 ++ by4 v4 ++ by4 v5) T g) 216 j = g 216 j := fun j e1 e2 => by
      rw [E3]
      exact wrA_fr e1 e2 _ _ _ (by rw [List.length_map]; exact hr)
    refine ⟨0, 0, nn (T + 20), wr (by4 v1 ++ by4 v2 ++ by4 v3 ++ by4 v4 ++ by4 v5) T g, _, ?_, feedM (by rw [wr_fr (by decide) (by decide)]; exact h.law.aT) hr, ?_⟩
    · unfold x_feed law_hasRoomFor
      rw [h.law.cT]
      have hr2 : ¬ 500 < T + 20 := by omega
      refine st_b (x := 1) (st_f (by simp (disch := first | omega | decide) only [lt1, nnMl, nnMr, nnAl, nnAr, nnA, nnM, nnB, nnT, nnP, nnE, nnEl, nnEr, nnL, nnLl, nnLr, nnQ, nnQr, nnN, Nat.add_zero, if_false, if_true, Option.bind_some, not_true, not_false_iff, not_true_eq_false, not_false_eq_true, eq_self, Nat.not_lt_zero, z10, z01, or_true, true_or, or_false, false_or, true_and, false_and, hr2]) rfl) (st_t (by decide) ?_)
      refine st_b (append_eq (T := T) h.law.cT (by omega)) ?_
      refine st_b (append_eq (T := T + 4) rfl (by omega)) ?_
      refine st_b (append_eq (T := T + 8) rfl (by omega)) ?_
      refine st_b (append_eq (T := T + 12) rfl (by omega)) ?_
      refine st_b (append_eq (T := T + 16) rfl (by omega)) ?_
      rfl
    · refine RR.put hT hR ⟨N, C, Q, D, T + 20, L, G, RTn.mk ?_ ?_ ?_ ?_⟩ ?_ ?_ ?_ ?_
      · exact h.net.fr (fun i e1 e2 => E i (by omega) (by omega) (by omega)) (fun j hj => E4 j (by unfold iNet at hj; omega) (by unfold iNet at hj; omega))
      · exact h.rig.fr (fun i e1 e2 => E i (by omega) (by omega) (by omega)) (fun j hj => E4 j (by unfold iRig at hj; omega) (by unfold iRig at hj; omega))
      · rw [E3]
        exact hl.fr (fun i e1 e2 => E2 i (by omega)) (fun j hj => rfl)
      · exact h.gau.fr (fun i e1 e2 => E i (by omega) (by omega) (by omega)) (fun j hj => E4 j (by unfold iGau at hj; omega) (by unfold iGau at hj; omega))
      · exact fun i e1 e2 => E i (by omega) (by omega) (by omega)
      · exact fun j e1 => E4 j (by omega) (by omega)
      · exact E 217 (by omega) (by omega) (by omega)
      · exact fun i e1 e2 => E i (by omega) (by omega) (by omega)
  · have hT5 := h.law.hT
    have hr2 : 500 < T + 20 := by omega
    refine ⟨0, 0, -1, g, g, ?_, ?_, hR⟩
    · unfold x_feed law_hasRoomFor
      rw [h.law.cT]
      exact st_b (x := 0) (st_t (by simp (disch := first | omega | decide) only [lt1, nnMl, nnMr, nnAl, nnAr, nnA, nnM, nnB, nnT, nnP, nnE, nnEl, nnEr, nnL, nnLl, nnLr, nnQ, nnQr, nnN, Nat.add_zero, if_false, if_true, Option.bind_some, not_true, not_false_iff, not_true_eq_false, not_false_eq_true, eq_self, Nat.not_lt_zero, z10, z01, or_true, true_or, or_false, false_or, true_and, false_and, hr2]) rfl) (st_f (by decide) rfl)
    · unfold m_feed
      rw [h.law.aT]
      exact st_f (by simp (disch := first | omega | decide) only [lt1, nnMl, nnMr, nnAl, nnAr, nnA, nnM, nnB, nnT, nnP, nnE, nnEl, nnEr, nnL, nnLl, nnLr, nnQ, nnQr, nnN, Nat.add_zero, if_false, if_true, Option.bind_some, not_true, not_false_iff, not_true_eq_false, not_false_eq_true, eq_self, Nat.not_lt_zero, z10, z01, or_true, true_or, or_false, false_or, true_and, false_and, hr]) rfl
end SJ
end
section
/-! owner -/
/-- deed d is of the hour, not from after the week, and known as of day k -/
def okD (c : Sg) (h w k : Int32) (d : Nat) : Prop := c 24 d ≤ h ∧ h ≤ c 25 d ∧ c 27 d ≤ w ∧ c 28 d ≤ k ∧ (c 29 d = -1 ∨ k < c 29 d)
noncomputable def ownB (c : Sg) (h w k : Int32) : Nat → Option Nat
  | 0 => none
  | d + 1 => by
    classical
    exact if okD c h w k d then (match ownB c h w k d with
      | none => some d
      | some b => if c 27 d < c 27 b then some b else some d) else ownB c h w k d
def oS (c : Sg) (o : Option Nat) : Int32 := match o with
  | none => -1
  | some b => c 26 b
def oF (c : Sg) (o : Option Nat) : Int32 := match o with
  | none => 0
  | some b => c 27 b
def oN (o : Option Nat) : Int32 := match o with
  | none => -1
  | some b => nn b
noncomputable def ownS (c : Sg) (h w k : Int32) (D : Nat) : Int32 := oS c (ownB c h w k D)
theorem ownB_n {c : Sg} {h w k : Int32} {d : Nat} (e : ¬ okD c h w k d) : ownB c h w k (d + 1) = ownB c h w k d := if_neg e
theorem ownB_y {c : Sg} {h w k : Int32} {d : Nat} (e : okD c h w k d) (e2 : ¬ c 27 d < oF c (ownB c h w k d)) : ownB c h w k (d + 1) = some d := by
  refine (if_pos e).trans ?_
  cases hb : ownB c h w k d with
  | none => rfl
  | some b =>
    rw [hb] at e2
    exact if_neg e2
theorem ownB_k {c : Sg} {h w k : Int32} {d b : Nat} (hb : ownB c h w k d = some b) (e2 : c 27 d < c 27 b) : ownB c h w k (d + 1) = some b := by
  by_cases e : okD c h w k d
  · refine (if_pos e).trans ?_
    rw [hb]
    exact if_pos e2
  · rw [ownB_n e, hb]
theorem ownB_ok {c : Sg} {h w k : Int32} : ∀ {d b : Nat}, ownB c h w k d = some b → b < d ∧ okD c h w k b
  | 0, b, e => by cases e
  | d + 1, b, e => by
    by_cases e1 : okD c h w k d
    · by_cases e2 : c 27 d < oF c (ownB c h w k d)
      · cases hb : ownB c h w k d with
        | none => 
          rw [ownB, if_pos e1, hb] at e
          cases e
          exact ⟨Nat.lt_succ_self _, e1⟩
        | some b2 =>
          rw [hb] at e2
          rw [ownB_k hb e2] at e
          cases e
          have := ownB_ok hb
          exact ⟨by omega, this.2⟩
      · rw [ownB_y e1 e2] at e
        cases e
        exact ⟨Nat.lt_succ_self _, e1⟩
    · rw [ownB_n e1] at e
      have := ownB_ok e
      exact ⟨by omega, this.2⟩
section SK
variable {c g : Sg} {D N Q : Nat}
theorem ownS_v (h : RRig c (g 216) D N Q) {x w k : Int32} : ownS c x w k D = -1 ∨ ∃ n, n < 8 ∧ ownS c x w k D = nn n := by
  unfold ownS
  cases hb : ownB c x w k D with
  | none => exact Or.inl rfl
  | some b =>
    exact Or.inr (h.dW b (ownB_ok hb).1)
theorem isKnown_eq {d : Nat} (hd : d < 120) {k : Int32} : (c 28 d ≤ k ∧ (c 29 d = -1 ∨ k < c 29 d) → rights_isKnown (nn d) k c = some 1) ∧ (¬ (c 28 d ≤ k ∧ (c 29 d = -1 ∨ k < c 29 d)) → rights_isKnown (nn d) k c = some 0) := by
  have e0 : rights_isKnown (nn d) k c = if k < c 28 d then some 0 else if c 29 d = -1 then some 1 else if c 29 d ≤ k then some 0 else some 1 := by
    unfold rights_isKnown
    simp (disch := first | omega | decide) only [lt1, nnMl, nnMr, nnAl, nnAr, nnA, nnM, nnB, nnT, nnP, nnE, nnEl, nnEr, nnL, nnLl, nnLr, nnQ, nnQr, nnN, Nat.add_zero, if_false, if_true, Option.bind_some, not_true, not_false_iff, not_true_eq_false, not_false_eq_true, eq_self, Nat.not_lt_zero, z10, z01, or_true, true_or, or_false, false_or, true_and, false_and, hd]
  rw [e0]
  by_cases h1 : k < c 28 d
  · rw [if_pos h1]
    exact ⟨fun e => absurd h1 (Int32.not_lt.mpr e.1), fun _ => rfl⟩
  · rw [if_neg h1]
    by_cases h2 : c 29 d = -1
    · rw [if_pos h2]
      exact ⟨fun _ => rfl, fun e => absurd ⟨Int32.not_lt.mp h1, Or.inl h2⟩ e⟩
    · rw [if_neg h2]
      by_cases h3 : c 29 d ≤ k
      · rw [if_pos h3]
        exact ⟨fun e => absurd (e.2.resolve_left h2) (Int32.not_lt.mpr h3), fun _ => rfl⟩
      · rw [if_neg h3]
        exact ⟨fun _ => rfl, fun e => absurd ⟨Int32.not_lt.mp h1, Or.inr (Int32.not_le.mp h3)⟩ e⟩
theorem ownXL (h : RRig c (g 216) D N Q) {x w k : Int32} : ∀ m d F, d + m = D → m < F → rights_ownerOf_9 F x w k (oS c (ownB c x w k d)) (oF c (ownB c x w k d)) (nn d) c = some (ownS c x w k D) := by
  have hD := h.hD
  intro m
  induction m with
  | zero =>
    intro d F hd hF
    obtain ⟨F, rfl⟩ : ∃ F2, F = F2 + 1 := ⟨F - 1, by omega⟩
    have : d = D := by omega
    subst this
    unfold rights_ownerOf_9
    rw [h.cD]
    exact if_pos (by simp (disch := first | omega | decide) only [lt1, nnMl, nnMr, nnAl, nnAr, nnA, nnM, nnB, nnT, nnP, nnE, nnEl, nnEr, nnL, nnLl, nnLr, nnQ, nnQr, nnN, Nat.add_zero, if_false, if_true, Option.bind_some, not_true, not_false_iff, not_true_eq_false, not_false_eq_true, eq_self, Nat.not_lt_zero, z10, z01, or_true, true_or, or_false, false_or, true_and, false_and, Nat.le_refl])
  | succ m ih =>
    intro d F hd hF
    obtain ⟨F, rfl⟩ : ∃ F2, F = F2 + 1 := ⟨F - 1, by omega⟩
    have h2 : ¬ D ≤ d := by omega
    have h1 : d < 120 := by omega
    have hi : inb (nn d) 120 = true := by simp (disch := first | omega | decide) only [lt1, nnMl, nnMr, nnAl, nnAr, nnA, nnM, nnB, nnT, nnP, nnE, nnEl, nnEr, nnL, nnLl, nnLr, nnQ, nnQr, nnN, Nat.add_zero, if_false, if_true, Option.bind_some, not_true, not_false_iff, not_true_eq_false, not_false_eq_true, eq_self, Nat.not_lt_zero, z10, z01, or_true, true_or, or_false, false_or, true_and, false_and, h1]
    have e1 : nn d + 1 = nn (d + 1) := nnA d 1
    have hT : Int32.toNatClampNeg (nn d) = d := nnT (by omega)
    have IH := ih (d + 1) F (by omega) (by omega)
    have keep : ownB c x w k (d + 1) = ownB c x w k d → rights_ownerOf_9 F x w k (oS c (ownB c x w k d)) (oF c (ownB c x w k d)) (nn d + 1) c = some (ownS c x w k D) := fun e => by
      rw [e] at IH
      rw [e1]
      exact IH
    unfold rights_ownerOf_9
    rw [h.cD]
    refine st_f (by simp (disch := first | omega | decide) only [lt1, nnMl, nnMr, nnAl, nnAr, nnA, nnM, nnB, nnT, nnP, nnE, nnEl, nnEr, nnL, nnLl, nnLr, nnQ, nnQr, nnN, Nat.add_zero, if_false, if_true, Option.bind_some, not_true, not_false_iff, not_true_eq_false, not_false_eq_true, eq_self, Nat.not_lt_zero, z10, z01, or_true, true_or, or_false, false_or, true_and, false_and, h2]) (st_t hi ?_)
    rw [hT]
    by_cases q1 : x < c 24 d
    · refine st_t q1 ?_
      exact keep (ownB_n (fun e => absurd q1 (Int32.not_lt.mpr e.1)))
    refine st_f q1 (st_t hi ?_)
    by_cases q2 : c 25 d < x
    · refine st_t q2 ?_
      exact keep (ownB_n (fun e => absurd q2 (Int32.not_lt.mpr e.2.1)))
    refine st_f q2 ?_
    unfold rights_ownerOf_45
    refine st_f (by decide) (st_t hi ?_)
    rw [hT]
    by_cases q3 : w < c 27 d
    · refine st_t q3 ?_
      exact keep (ownB_n (fun e => absurd q3 (Int32.not_lt.mpr e.2.2.1)))
    refine st_f q3 (st_t hi ?_)
    by_cases q4 : c 27 d < oF c (ownB c x w k d)
    · refine st_t q4 (keep ?_)
      cases hb : ownB c x w k d with
      | none =>
        rw [hb] at q4
        obtain ⟨s, hs, es⟩ := h.dS d (by omega)
        rw [es] at q4
        have q4 : nn s < 0 := q4
        rw [nnP (by omega)] at q4
        exact absurd q4 id
      | some b =>
        rw [hb] at q4
        exact ownB_k hb q4
    refine st_f q4 ?_
    by_cases q5 : c 28 d ≤ k ∧ (c 29 d = -1 ∨ k < c 29 d)
    · refine st_b ((isKnown_eq h1).1 q5) (st_f (by decide) (st_w hi (st_w hi ?_)))
      have e : ownB c x w k (d + 1) = some d := ownB_y ⟨Int32.not_lt.mp q1, Int32.not_lt.mp q2, Int32.not_lt.mp q3, q5⟩ q4
      rw [e] at IH
      rw [e1]
      exact IH
    · refine st_b ((isKnown_eq h1).2 q5) (st_t rfl ?_)
      exact keep (ownB_n (fun e => q5 e.2.2.2))
theorem own_x (h : RRig c (g 216) D N Q) {x w k : Int32} {F : Nat} (hF : 120 < F) : rights_ownerOf F x w k c = some (ownS c x w k D) := ownXL h D 0 F (by omega) (by have := h.hD; omega)
theorem dOf0 (h : RRig c (g 216) D N Q) {d : Nat} (hd : d < 120) : m_deedOf_k0 (nn d) g = some (c 24 d) := by
  rw [← h.d0 d hd]
  exact deedOf_y hd (k := 0) (by decide)
theorem dOf1 (h : RRig c (g 216) D N Q) {d : Nat} (hd : d < 120) : m_deedOf_k1 (nn d) g = some (c 25 d) := by
  rw [← h.d1 d hd]
  exact deedOf_y hd (k := 1) (by decide)
theorem dOf2 (h : RRig c (g 216) D N Q) {d : Nat} (hd : d < 120) : m_deedOf_k2 (nn d) g = some (c 26 d) := by
  rw [← h.d2 d hd]
  exact deedOf_y hd (k := 2) (by decide)
theorem dOf3 (h : RRig c (g 216) D N Q) {d : Nat} (hd : d < 120) : m_deedOf_k3 (nn d) g = some (c 27 d) := by
  rw [← h.d3 d hd]
  exact deedOf_y hd (k := 3) (by decide)
theorem dOf4 (h : RRig c (g 216) D N Q) {d : Nat} (hd : d < 120) : m_deedOf_k4 (nn d) g = some (c 28 d) := by
  rw [← h.d4 d hd]
  exact deedOf_y hd (k := 4) (by decide)
theorem dOf5 (h : RRig c (g 216) D N Q) {d : Nat} (hd : d < 120) : m_deedOf_k5 (nn d) g = some (c 29 d) := by
  rw [← h.d5 d hd]
  exact deedOf_y hd (k := 5) (by decide)
theorem ownML (h : RRig c (g 216) D N Q) (hQ : Q ≤ 9599) {x w k : Int32} (hk : 0 ≤ k) : ∀ m d F, d + m = D → m < F → m_owns_6 F x w k (oN (ownB c x w k d)) (nn d) g = some (ownS c x w k D) := by
  have hD := h.hD
  intro m
  induction m with
  | zero =>
    intro d F hd hF
    obtain ⟨F, rfl⟩ : ∃ F2, F = F2 + 1 := ⟨F - 1, by omega⟩
    have : d = D := by omega
    subst this
    unfold m_owns_6
    rw [h.aD]
    refine st_t (by simp (disch := first | omega | decide) only [lt1, nnMl, nnMr, nnAl, nnAr, nnA, nnM, nnB, nnT, nnP, nnE, nnEl, nnEr, nnL, nnLl, nnLr, nnQ, nnQr, nnN, Nat.add_zero, if_false, if_true, Option.bind_some, not_true, not_false_iff, not_true_eq_false, not_false_eq_true, eq_self, Nat.not_lt_zero, z10, z01, or_true, true_or, or_false, false_or, true_and, false_and, Nat.le_refl]) ?_
    unfold ownS
    cases hb : ownB c x w k d with
    | none => exact st_f (by decide) rfl
    | some b =>
      have := (ownB_ok hb).1
      exact st_t (show (0 : Int32) ≤ nn b from Int32.not_lt.mp (by rw [nnP (by omega)]; exact id)) (st_b (dOf2 h (by omega)) rfl)
  | succ m ih =>
    intro d F hd hF
    obtain ⟨F, rfl⟩ : ∃ F2, F = F2 + 1 := ⟨F - 1, by omega⟩
    have h2 : ¬ D ≤ d := by omega
    have h1 : d < 120 := by omega
    have e1 : nn d + 1 = nn (d + 1) := nnA d 1
    have IH := ih (d + 1) F (by omega) (by omega)
    have keep : ownB c x w k (d + 1) = ownB c x w k d → m_owns_6 F x w k (oN (ownB c x w k d)) (nn d + 1) g = some (ownS c x w k D) := fun e => by
      rw [e] at IH
      rw [e1]
      exact IH
    unfold m_owns_6
    rw [h.aD]
    refine st_f (by simp (disch := first | omega | decide) only [lt1, nnMl, nnMr, nnAl, nnAr, nnA, nnM, nnB, nnT, nnP, nnE, nnEl, nnEr, nnL, nnLl, nnLr, nnQ, nnQr, nnN, Nat.add_zero, if_false, if_true, Option.bind_some, not_true, not_false_iff, not_true_eq_false, not_false_eq_true, eq_self, Nat.not_lt_zero, z10, z01, or_true, true_or, or_false, false_or, true_and, false_and, h2]) (st_b (dOf0 h h1) (st_b (dOf1 h h1) (st_b (isIn_eq _ _ _ _) ?_)))
    by_cases q1 : c 24 d ≤ x ∧ x ≤ c 25 d
    rotate_left
    · refine st_t (by rw [if_neg q1]) ?_
      exact keep (ownB_n (fun e => q1 ⟨e.1, e.2.1⟩))
    refine st_f (by rw [if_pos q1]; decide) (st_b (dOf3 h h1) ?_)
    by_cases q3 : w < c 27 d
    · refine st_t q3 ?_
      exact keep (ownB_n (fun e => absurd q3 (Int32.not_lt.mpr e.2.2.1)))
    refine st_f q3 (st_b (dOf4 h h1) ?_)
    by_cases q4 : k < c 28 d
    · refine st_t q4 ?_
      exact keep (ownB_n (fun e => absurd q4 (Int32.not_lt.mpr e.2.2.2.1)))
    refine st_f q4 (st_b (dOf5 h h1) ?_)
    have fin : (c 29 d = -1 ∨ k < c 29 d) → m_owns_84 (fun v1 v2 v3 v4 v5 g0 => m_owns_6 F v1 v2 v3 v4 v5 g0) x w k (oN (ownB c x w k d)) (nn d) g = some (ownS c x w k D) := fun q5 => by
      have ok : okD c x w k d := ⟨q1.1, q1.2, Int32.not_lt.mp q3, Int32.not_lt.mp q4, q5⟩
      unfold m_owns_84
      cases hb : ownB c x w k d with
      | none =>
        refine st_t (by decide) ?_
        have e : ownB c x w k (d + 1) = some d := by
          refine ownB_y ok ?_
          rw [hb]
          obtain ⟨s, hs, es⟩ := h.dS d (by omega)
          rw [es]
          show ¬ nn s < 0
          rw [nnP (by omega)]
          exact id
        rw [e] at IH
        rw [e1]
        exact IH
      | some b =>
        have hbd := (ownB_ok hb).1
        refine st_f (show ¬ nn b < 0 by rw [nnP (by omega)]; exact id) (st_b (dOf3 h h1) (st_b (dOf3 h (show b < 120 by omega)) ?_))
        by_cases q6 : c 27 d < c 27 b
        · refine st_t q6 ?_
          rw [ownB_k hb q6] at IH
          rw [e1]
          exact IH
        · refine st_f q6 ?_
          rw [ownB_y ok (by rw [hb]; exact q6)] at IH
          rw [e1]
          exact IH
    rcases h.dV d (by omega) with e | ⟨z, hz, e⟩
    · exact st_t (by rw [e]; decide) (fin (Or.inl e))
    · refine st_f (by rw [e, nnP (by have := h.hD; omega)]; exact id) (st_b (dOf5 h h1) ?_)
      by_cases q5 : k < c 29 d
      · exact st_t q5 (fin (Or.inr q5))
      · refine st_f q5 ?_
        refine keep (ownB_n (fun e9 => ?_))
        rcases e9.2.2.2.2 with e8 | e8
        · rw [e] at e8
          rw [nnN (by omega)] at e8
          exact e8
        · exact q5 e8
theorem own_m (h : RRig c (g 216) D N Q) (hQ : Q ≤ 9599) {x w k : Int32} (hk : 0 ≤ k) {F : Nat} (hF : 120 < F) : m_owns F x w k g = some (ownS c x w k D) := ownML h hQ hk D 0 F (by omega) (by have := h.hD; omega)
end SK
theorem sim_owner {TS : Sg → Prop} : Sim_owner (RR TS) := by
  intro v1 v2 v3 g hR
  obtain ⟨N, C, Q, D, T, L, G, h⟩ := hR.now
  have hQ := h.net.hQ
  rcases chk v1 167 167 rfl (by decide) with ⟨a, ha, rfl, x1, m1⟩ | ⟨x1, m1⟩
  rotate_left
  · refine ⟨0, 0, -2, g, g, ?_, ?_, hR, rfl, rfl⟩
    · unfold x_owner
      exact st_b (x1 g) (st_t rfl rfl)
    · unfold m_owner
      exact st_b (m1 g) (st_t rfl rfl)
  rcases chk v2 99 99 rfl (by decide) with ⟨w, hw, rfl, x2, m2⟩ | ⟨x2, m2⟩
  rotate_left
  · refine ⟨0, 0, -2, g, g, ?_, ?_, hR, rfl, rfl⟩
    · unfold x_owner
      exact st_b (x1 g) (st_f (by decide) (st_b (week_of (Or.inl rfl) x2) (st_t rfl rfl)))
    · unfold m_owner
      exact st_b (m1 g) (st_f (by decide) (st_b (m2 g) (st_t rfl rfl)))
  rcases chk v3 (Q / 96) (nn (Q / 96)) rfl (by omega) with ⟨k, hk, rfl, x3, m3⟩ | ⟨x3, m3⟩
  rotate_left
  · refine ⟨0, 0, -2, g, g, ?_, ?_, hR, rfl, rfl⟩
    · unfold x_owner
      exact st_b (x1 g) (st_f (by decide) (st_b (week_of (Or.inr rfl) x2) (st_f (by decide) (st_b (today_x h.net) (st_b (x3 g) (st_f (by decide) rfl))))))
    · unfold m_owner
      exact st_b (m1 g) (st_f (by decide) (st_b (m2 g) (st_f (by decide) (st_b (today_m h.net.aQ hQ) (st_b (m3 g) (st_t rfl rfl))))))
  · refine ⟨121, 121, ownS g (nn a) (nn w) (nn k) D, g, g, ?_, ?_, hR, rfl, rfl⟩
    · unfold x_owner
      exact st_b (x1 g) (st_f (by decide) (st_b (week_of (Or.inr rfl) x2) (st_f (by decide) (st_b (today_x h.net) (st_b (x3 g) (st_t (by decide) (st_b (own_x h.rig (by decide)) rfl)))))))
    · unfold m_owner
      exact st_b (m1 g) (st_f (by decide) (st_b (m2 g) (st_f (by decide) (st_b (today_m h.net.aQ hQ) (st_b (m3 g) (st_f (by decide) (st_b (own_m h.rig hQ (by rw [show (0 : Int32) = nn 0 from rfl, nnE (by decide) (by omega)]; omega) (by decide)) rfl)))))))
end
section
/-! owed -/
/-- one row set anew -/
def sc (g : Sg) (a : Nat) (f : Nat → Int32) : Sg := fun c => if c = a then f else g c
theorem sc_n {g : Sg} {a b : Nat} {f : Nat → Int32} (h : b ≠ a) : sc g a f b = g b := if_neg h
theorem sc_e {g : Sg} {a : Nat} {f : Nat → Int32} : sc g a f a = f := if_pos rfl
theorem sc_u {g : Sg} {a i : Nat} {f : Nat → Int32} {v : Int32} : up2 (sc g a f) a i v = sc g a (up1 f i v) := by
  funext c k
  unfold up2 sc up1
  by_cases h : c = a
  · subst h
    rw [if_pos rfl, if_pos rfl]
    by_cases e : k = i
    · rw [if_pos ⟨rfl, e⟩, if_pos e]
    · rw [if_neg (fun q => e q.2), if_neg e]
  · rw [if_neg (fun q => h q.1), if_neg h, if_neg h]
theorem sc_s {g : Sg} {a : Nat} : sc g a (g a) = g := by
  funext c
  unfold sc
  by_cases h : c = a
  · rw [if_pos h, h]
  · rw [if_neg h]
theorem sc_c {g : Sg} {a b : Nat} {f f2 : Nat → Int32} (h : a ≠ b) : sc (sc g a f) b f2 = sc (sc g b f2) a f := by
  funext c
  unfold sc
  by_cases h1 : c = a
  · rw [if_neg (fun q => h (h1.symm.trans q)), if_pos h1, if_pos h1]
  · by_cases h2 : c = b
    · rw [if_pos h2, if_neg h1, if_pos h2]
    · rw [if_neg h2, if_neg h1, if_neg h1, if_neg h2]
theorem sc_k {g : Sg} {a : Nat} {f f2 : Nat → Int32} : sc (sc g a f) a f2 = sc g a f2 := by
  funext c
  unfold sc
  by_cases h1 : c = a
  · rw [if_pos h1, if_pos h1]
  · rw [if_neg h1, if_neg h1, if_neg h1]
/-- the last deed of just this week, not void, that has the hour -/
def lastD (c : Sg) (h w : Int32) : Nat → Option Nat
  | 0 => none
  | d + 1 => if c 27 d = w ∧ c 29 d = -1 ∧ c 24 d ≤ h ∧ h ≤ c 25 d then some d else lastD c h w d
section SL
variable {c g : Sg} {D N Q : Nat}
theorem nnE0 {a : Nat} (h : a < 2147483648) : (0 : Int32) ≤ nn a := by
  rw [show (0 : Int32) = nn 0 from rfl, nnE (by decide) h]
  exact Nat.zero_le _
/-- known today is: not void -/
theorem okD_t (h : RRig c (g 216) D N Q) (hQ : Q ≤ 9599) {d : Nat} (hd : d < D) {x w : Int32} : okD c x w (nn (Q / 96)) d ↔ (c 24 d ≤ x ∧ x ≤ c 25 d ∧ c 27 d ≤ w ∧ c 29 d = -1) := by
  obtain ⟨y, hy, ey⟩ := h.dY d hd
  have h1 : c 28 d ≤ nn (Q / 96) := by
    rw [ey, nnE (by omega) (by omega)]
    exact hy
  constructor
  · rintro ⟨e1, e2, e3, e4, e5⟩
    refine ⟨e1, e2, e3, ?_⟩
    rcases e5 with e5 | e5
    · exact e5
    · rcases h.dV d hd with e | ⟨z, hz, e⟩
      · exact e
      · rw [e, nnL (by omega) (by omega)] at e5
        omega
  · rintro ⟨e1, e2, e3, e4⟩
    exact ⟨e1, e2, e3, h1, Or.inl e4⟩
/-- p is the week before w -/
theorem ownB_step (h : RRig c (g 216) D N Q) (hQ : Q ≤ 9599) {x w p : Int32} (hp : ∀ d, d < D → (c 27 d ≤ w ↔ c 27 d = w ∨ c 27 d ≤ p)) (hpw : p < w) : ∀ d, d ≤ D → ownB c x w (nn (Q / 96)) d = (match lastD c x w d with
    | some b => some b
    | none => ownB c x p (nn (Q / 96)) d) ∧ ∀ b, lastD c x w d = some b → b < d ∧ c 27 b = w := by
  intro d
  induction d with
  | zero => exact fun _ => ⟨rfl, fun b e => by cases e⟩
  | succ d ih =>
    intro hd
    obtain ⟨ih, ih2⟩ := ih (by omega)
    by_cases q : c 27 d = w ∧ c 29 d = -1 ∧ c 24 d ≤ x ∧ x ≤ c 25 d
    · have e1 : lastD c x w (d + 1) = some d := if_pos q
      rw [e1]
      refine ⟨?_, fun b e => by cases e; exact ⟨Nat.lt_succ_self _, q.1⟩⟩
      refine ownB_y ((okD_t h hQ (by omega)).mpr ⟨q.2.2.1, q.2.2.2, by rw [q.1]; exact Int32.le_refl _, q.2.1⟩) ?_
      cases hb : ownB c x w (nn (Q / 96)) d with
      | none =>
        obtain ⟨s, hs, es⟩ := h.dS d (by omega)
        show ¬ c 27 d < 0
        rw [es, nnP (by omega)]
        exact id
      | some b =>
        have := (ownB_ok hb).2.2.2.1
        show ¬ c 27 d < c 27 b
        rw [q.1]
        exact Int32.not_lt.mpr this
    · have e1 : lastD c x w (d + 1) = lastD c x w d := if_neg q
      rw [e1]
      refine ⟨?_, fun b e => by have := ih2 b e; exact ⟨by omega, this.2⟩⟩
      by_cases ok : okD c x w (nn (Q / 96)) d
      · have ok2 := (okD_t h hQ (by omega)).mp ok
        have sp : c 27 d ≤ p := by
          rcases (hp d (by omega)).mp ok2.2.2.1 with e | e
          · exact absurd ⟨e, ok2.2.2.2, ok2.1, ok2.2.1⟩ q
          · exact e
        have okp : okD c x p (nn (Q / 96)) d := (okD_t h hQ (by omega)).mpr ⟨ok2.1, ok2.2.1, sp, ok2.2.2.2⟩
        cases hl : lastD c x w d with
        | some b =>
          rw [hl] at ih
          refine ownB_k ih ?_
          rw [(ih2 b hl).2]
          exact Int32.lt_of_le_of_lt sp hpw
        | none =>
          rw [hl] at ih
          have ih : ownB c x w (nn (Q / 96)) d = ownB c x p (nn (Q / 96)) d := ih
          show ownB c x w (nn (Q / 96)) (d + 1) = ownB c x p (nn (Q / 96)) (d + 1)
          by_cases e2 : c 27 d < oF c (ownB c x w (nn (Q / 96)) d)
          · cases hb : ownB c x w (nn (Q / 96)) d with
            | none =>
              rw [hb] at e2
              obtain ⟨s, hs, es⟩ := h.dS d (by omega)
              rw [es] at e2
              have e2 : nn s < 0 := e2
              rw [nnP (by omega)] at e2
              exact absurd e2 id
            | some b =>
              rw [hb] at e2
              rw [ownB_k hb e2, ownB_k (ih.symm.trans hb) e2]
          · rw [ownB_y ok e2, ownB_y okp (by rw [← ih]; exact e2)]
      · have okp : ¬ okD c x p (nn (Q / 96)) d := fun e => by
          have e := (okD_t h hQ (by omega)).mp e
          exact ok ((okD_t h hQ (by omega)).mpr ⟨e.1, e.2.1, (hp d (by omega)).mpr (Or.inr e.2.2.1), e.2.2.2⟩)
        rw [ownB_n ok, ownB_n okp]
        exact ih
/-- the owners' row, deed by deed of one week -/
def layf (c : Sg) (w : Int32) (f : Nat → Int32) : Nat → Nat → Int32
  | 0 => f
  | d + 1 => if c 27 d = w ∧ c 29 d = -1 then (fun i => if Int32.toNatClampNeg (c 24 d) ≤ i ∧ i ≤ Int32.toNatClampNeg (c 25 d) then c 26 d else layf c w f d i) else layf c w f d
theorem layf_eq (h : RRig c (g 216) D N Q) {w : Int32} {f : Nat → Int32} {i : Nat} (hi : i < 168) : ∀ d, d ≤ D → layf c w f d i = match lastD c (nn i) w d with
    | some b => c 26 b
    | none => f i := by
  intro d
  induction d with
  | zero => exact fun _ => rfl
  | succ d ih =>
    intro hd
    have ih := ih (by omega)
    obtain ⟨a, b, hab, hb, ea, eb⟩ := h.dFL d (by omega)
    have k1 : (c 24 d ≤ nn i ∧ nn i ≤ c 25 d) ↔ (Int32.toNatClampNeg (c 24 d) ≤ i ∧ i ≤ Int32.toNatClampNeg (c 25 d)) := by
      rw [ea, eb, nnT (by omega), nnT (by omega), nnE (by omega) (by omega), nnE (by omega) (by omega)]
    by_cases q : c 27 d = w ∧ c 29 d = -1
    · have e1 : layf c w f (d + 1) i = if Int32.toNatClampNeg (c 24 d) ≤ i ∧ i ≤ Int32.toNatClampNeg (c 25 d) then c 26 d else layf c w f d i := by
        show (if c 27 d = w ∧ c 29 d = -1 then (fun i => if Int32.toNatClampNeg (c 24 d) ≤ i ∧ i ≤ Int32.toNatClampNeg (c 25 d) then c 26 d else layf c w f d i) else layf c w f d) i = _
        rw [if_pos q]
      rw [e1]
      by_cases q2 : c 24 d ≤ nn i ∧ nn i ≤ c 25 d
      · rw [if_pos (k1.mp q2), show lastD c (nn i) w (d + 1) = some d from if_pos ⟨q.1, q.2, q2⟩]
      · rw [if_neg (fun e => q2 (k1.mpr e)), show lastD c (nn i) w (d + 1) = lastD c (nn i) w d from if_neg (fun e => q2 e.2.2)]
        exact ih
    · have e1 : layf c w f (d + 1) i = layf c w f d i := by
        show (if c 27 d = w ∧ c 29 d = -1 then (fun i => if Int32.toNatClampNeg (c 24 d) ≤ i ∧ i ≤ Int32.toNatClampNeg (c 25 d) then c 26 d else layf c w f d i) else layf c w f d) i = _
        rw [if_neg q]
      rw [e1, show lastD c (nn i) w (d + 1) = lastD c (nn i) w d from if_neg (fun e => q ⟨e.1, e.2.1⟩)]
      exact ih
theorem layIn {K : Int32 → Int32 → Sg → Option Sg} {v1 : Int32} {d l : Nat} {s : Sg} (hd : d < 120) (hl : l < 168) (el : s 25 d = nn l) : ∀ m x F f, x + m = l + 1 → m < F → rights_layOver_38 K F v1 (nn d) (nn x) (sc s 207 f) = K v1 (nn (d + 1)) (sc s 207 (fun i => if x ≤ i ∧ i ≤ l then s 26 d else f i)) := by
  intro m
  induction m with
  | zero =>
    intro x F f hx hF
    obtain ⟨F, rfl⟩ : ∃ F2, F = F2 + 1 := ⟨F - 1, by omega⟩
    have h2 : l < x := by omega
    unfold rights_layOver_38
    refine st_t (by simp (disch := first | omega | decide) only [lt1, nnMl, nnMr, nnAl, nnAr, nnA, nnM, nnB, nnT, nnP, nnE, nnEl, nnEr, nnL, nnLl, nnLr, nnQ, nnQr, nnN, Nat.add_zero, if_false, if_true, Option.bind_some, not_true, not_false_iff, not_true_eq_false, not_false_eq_true, eq_self, Nat.not_lt_zero, z10, z01, or_true, true_or, or_false, false_or, true_and, false_and, hd]) (st_t ?_ ?_)
    · rw [nnT (by omega), sc_n (by omega), el]
      simp (disch := first | omega | decide) only [lt1, nnMl, nnMr, nnAl, nnAr, nnA, nnM, nnB, nnT, nnP, nnE, nnEl, nnEr, nnL, nnLl, nnLr, nnQ, nnQr, nnN, Nat.add_zero, if_false, if_true, Option.bind_some, not_true, not_false_iff, not_true_eq_false, not_false_eq_true, eq_self, Nat.not_lt_zero, z10, z01, or_true, true_or, or_false, false_or, true_and, false_and, h2]
    · rw [show nn d + 1 = nn (d + 1) from nnA d 1]
      congr 2
      funext i
      exact (if_neg (by omega)).symm
  | succ m ih =>
    intro x F f hx hF
    obtain ⟨F, rfl⟩ : ∃ F2, F = F2 + 1 := ⟨F - 1, by omega⟩
    have h2 : ¬ l < x := by omega
    have h3 : ¬ 168 ≤ x := by omega
    have h4 : x < 168 := by omega
    unfold rights_layOver_38
    refine st_t (by simp (disch := first | omega | decide) only [lt1, nnMl, nnMr, nnAl, nnAr, nnA, nnM, nnB, nnT, nnP, nnE, nnEl, nnEr, nnL, nnLl, nnLr, nnQ, nnQr, nnN, Nat.add_zero, if_false, if_true, Option.bind_some, not_true, not_false_iff, not_true_eq_false, not_false_eq_true, eq_self, Nat.not_lt_zero, z10, z01, or_true, true_or, or_false, false_or, true_and, false_and, hd]) (st_f ?_ (st_f (by simp (disch := first | omega | decide) only [lt1, nnMl, nnMr, nnAl, nnAr, nnA, nnM, nnB, nnT, nnP, nnE, nnEl, nnEr, nnL, nnLl, nnLr, nnQ, nnQr, nnN, Nat.add_zero, if_false, if_true, Option.bind_some, not_true, not_false_iff, not_true_eq_false, not_false_eq_true, eq_self, Nat.not_lt_zero, z10, z01, or_true, true_or, or_false, false_or, true_and, false_and, h3]) (st_t (by simp (disch := first | omega | decide) only [lt1, nnMl, nnMr, nnAl, nnAr, nnA, nnM, nnB, nnT, nnP, nnE, nnEl, nnEr, nnL, nnLl, nnLr, nnQ, nnQr, nnN, Nat.add_zero, if_false, if_true, Option.bind_some, not_true, not_false_iff, not_true_eq_false, not_false_eq_true, eq_self, Nat.not_lt_zero, z10, z01, or_true, true_or, or_false, false_or, true_and, false_and, hd]) (st_w (by simp (disch := first | omega | decide) only [lt1, nnMl, nnMr, nnAl, nnAr, nnA, nnM, nnB, nnT, nnP, nnE, nnEl, nnEr, nnL, nnLl, nnLr, nnQ, nnQr, nnN, Nat.add_zero, if_false, if_true, Option.bind_some, not_true, not_false_iff, not_true_eq_false, not_false_eq_true, eq_self, Nat.not_lt_zero, z10, z01, or_true, true_or, or_false, false_or, true_and, false_and, h4]) ?_))))
    · rw [nnT (by omega), sc_n (by omega), el]
      simp (disch := first | omega | decide) only [lt1, nnMl, nnMr, nnAl, nnAr, nnA, nnM, nnB, nnT, nnP, nnE, nnEl, nnEr, nnL, nnLl, nnLr, nnQ, nnQr, nnN, Nat.add_zero, if_false, if_true, Option.bind_some, not_true, not_false_iff, not_true_eq_false, not_false_eq_true, eq_self, Nat.not_lt_zero, z10, z01, or_true, true_or, or_false, false_or, true_and, false_and, h2]
    · rw [nnT (by omega), nnT (by omega), sc_n (by omega), sc_u, show nn x + 1 = nn (x + 1) from nnA x 1]
      rw [ih (x + 1) F _ (by omega) (by omega)]
      congr 2
      funext i
      by_cases e : i = x
      · subst e
        rw [if_neg (by omega), up1_eq, if_pos (by omega)]
      · rw [up1_ne e]
        by_cases e2 : x + 1 ≤ i ∧ i ≤ l
        · rw [if_pos e2, if_pos (by omega)]
        · rw [if_neg e2, if_neg (by omega)]
theorem layL (h : RRig c (g 216) D N Q) {s : Sg} (hs : ∀ i, 22 ≤ i → i ≤ 30 → s i = c i) {w : Int32} {F0 : Nat} (hF0 : 200 < F0) (f : Nat → Int32) : ∀ m d F, d + m = D → m < F → rights_layOver_2 F0 F w (nn d) (sc s 207 (layf c w f d)) = some (sc s 207 (layf c w f D)) := by
  have hD := h.hD
  have hh : ∀ i, 22 ≤ i → i ≤ 30 → ∀ f, sc s 207 f i = c i := fun i e1 e2 f => by rw [sc_n (by omega), hs i e1 e2]
  intro m
  induction m with
  | zero =>
    intro d F hd hF
    obtain ⟨F, rfl⟩ : ∃ F2, F = F2 + 1 := ⟨F - 1, by omega⟩
    have : d = D := by omega
    subst this
    unfold rights_layOver_2
    rw [hh 22 (by decide) (by decide), h.cD]
    exact if_pos (by simp (disch := first | omega | decide) only [lt1, nnMl, nnMr, nnAl, nnAr, nnA, nnM, nnB, nnT, nnP, nnE, nnEl, nnEr, nnL, nnLl, nnLr, nnQ, nnQr, nnN, Nat.add_zero, if_false, if_true, Option.bind_some, not_true, not_false_iff, not_true_eq_false, not_false_eq_true, eq_self, Nat.not_lt_zero, z10, z01, or_true, true_or, or_false, false_or, true_and, false_and, Nat.le_refl])
  | succ m ih =>
    intro d F hd hF
    obtain ⟨F, rfl⟩ : ∃ F2, F = F2 + 1 := ⟨F - 1, by omega⟩
    have h2 : ¬ D ≤ d := by omega
    have h1 : d < 120 := by omega
    have hi : inb (nn d) 120 = true := by simp (disch := first | omega | decide) only [lt1, nnMl, nnMr, nnAl, nnAr, nnA, nnM, nnB, nnT, nnP, nnE, nnEl, nnEr, nnL, nnLl, nnLr, nnQ, nnQr, nnN, Nat.add_zero, if_false, if_true, Option.bind_some, not_true, not_false_iff, not_true_eq_false, not_false_eq_true, eq_self, Nat.not_lt_zero, z10, z01, or_true, true_or, or_false, false_or, true_and, false_and, h1]
    have IH := ih (d + 1) F (by omega) (by omega)
    unfold rights_layOver_2
    rw [hh 22 (by decide) (by decide), h.cD, hh 27 (by decide) (by decide), hh 29 (by decide) (by decide), hh 24 (by decide) (by decide), nnT (by omega), show nn d + 1 = nn (d + 1) from nnA d 1]
    refine st_f (by simp (disch := first | omega | decide) only [lt1, nnMl, nnMr, nnAl, nnAr, nnA, nnM, nnB, nnT, nnP, nnE, nnEl, nnEr, nnL, nnLl, nnLr, nnQ, nnQr, nnN, Nat.add_zero, if_false, if_true, Option.bind_some, not_true, not_false_iff, not_true_eq_false, not_false_eq_true, eq_self, Nat.not_lt_zero, z10, z01, or_true, true_or, or_false, false_or, true_and, false_and, h2]) (st_t hi ?_)
    by_cases q1 : c 27 d = w
    rotate_left
    · refine st_t q1 ?_
      rw [show layf c w f (d + 1) = layf c w f d from if_neg (fun e => q1 e.1)] at IH
      exact IH
    refine st_f (fun e => e q1) (st_t hi ?_)
    by_cases q2 : c 29 d = -1
    rotate_left
    · refine st_t q2 ?_
      rw [show layf c w f (d + 1) = layf c w f d from if_neg (fun e => q2 e.2)] at IH
      exact IH
    refine st_f (fun e => e q2) (st_t hi (st_l ?_))
    obtain ⟨a, b, hab, hb, ea, eb⟩ := h.dFL d (by omega)
    rw [ea, layIn (s := s) h1 hb (by rw [hs 25 (by decide) (by decide), eb]) (b + 1 - a) a F0 _ (by omega) (by omega)]
    have e : (fun i => if a ≤ i ∧ i ≤ b then s 26 d else layf c w f d i) = layf c w f (d + 1) := by
      rw [show layf c w f (d + 1) = _ from if_pos ⟨q1, q2⟩, hs 26 (by decide) (by decide), ea, eb, nnT (by omega), nnT (by omega)]
    rw [e]
    exact IH
/-- the owners' row behind the weeks up to p becomes that behind the weeks up to w -/
theorem lay_y (h : RRig c (g 216) D N Q) (hQ : Q ≤ 9599) {s : Sg} (hs : ∀ i, 22 ≤ i → i ≤ 30 → s i = c i) {w p : Int32} (hp : ∀ d, d < D → (c 27 d ≤ w ↔ c 27 d = w ∨ c 27 d ≤ p)) (hpw : p < w) {F : Nat} (hF : 200 < F) {f : Nat → Int32} (hf : ∀ i, i < 168 → f i = ownS c (nn i) p (nn (Q / 96)) D) : ∃ f2, rights_layOver F w (sc s 207 f) = some (sc s 207 f2) ∧ ∀ i, i < 168 → f2 i = ownS c (nn i) w (nn (Q / 96)) D := by
  refine ⟨layf c w f D, layL h hs hF f D 0 F (by omega) (by have := h.hD; omega), fun i hi => ?_⟩
  rw [layf_eq h hi D (Nat.le_refl _)]
  unfold ownS
  rw [(ownB_step h hQ hp hpw D (Nat.le_refl _)).1, hf i hi]
  cases lastD c (nn i) w D <;> rfl
theorem prev_w (h : RRig c (g 216) D N Q) {w : Nat} (hw : w < 100) : ∀ d, d < D → (c 27 d ≤ nn w ↔ c 27 d = nn w ∨ c 27 d ≤ nn w - 1) := by
  intro d hd
  obtain ⟨s, hs, es⟩ := h.dS d hd
  rw [es, nnE (by omega) (by omega), nnQ (by omega) (by omega), le_lt1 (by omega), nnL (by omega) (by omega)]
  omega
theorem prev_lt {w : Nat} (hw : w < 100) : nn w - 1 < nn w := by
  rw [← le_lt1 (by omega)]
  exact Int32.le_refl _
theorem own_neg (h : RRig c (g 216) D N Q) {x k : Int32} : ownS c x (-1) k D = -1 := by
  unfold ownS
  cases hb : ownB c x (-1) k D with
  | none => rfl
  | some b =>
    obtain ⟨h1, h2⟩ := ownB_ok hb
    obtain ⟨s, hs, es⟩ := h.dS b h1
    have h3 := h2.2.2.1
    rw [es] at h3
    exact absurd (Int32.le_trans (nnE0 (by omega)) h3) (by decide)
end SL
end
section
/-! owed, both sides -/
theorem jA_fill_L {v : Int32} {s : Sg} : ∀ m x F f, x + m = 10 → m < F → (∀ j, j < x → f j = v) → ∃ f2, (∀ j, j < 10 → f2 j = v) ∧ jA_fill_5 F v (nn x) (sc s 190 f) = some (sc s 190 f2) := by
  intro m
  induction m with
  | zero =>
    intro x F f hx hF hf
    obtain ⟨F, rfl⟩ : ∃ F2, F = F2 + 1 := ⟨F - 1, by omega⟩
    have : x = 10 := by omega
    subst this
    refine ⟨f, hf, ?_⟩
    unfold jA_fill_5
    exact if_pos (by decide)
  | succ m ih =>
    intro x F f hx hF hf
    obtain ⟨F, rfl⟩ : ∃ F2, F = F2 + 1 := ⟨F - 1, by omega⟩
    have h2 : ¬ 10 ≤ x := by omega
    have h1 : x < 10 := by omega
    obtain ⟨f2, h3, h4⟩ := ih (x + 1) F (up1 f x v) (by omega) (by omega) (fun j hj => by
      by_cases e : j = x
      · rw [e, up1_eq]
      · rw [up1_ne e]; exact hf j (by omega))
    refine ⟨f2, h3, ?_⟩
    unfold jA_fill_5
    refine st_f (by simp (disch := first | omega | decide) only [lt1, nnMl, nnMr, nnAl, nnAr, nnA, nnM, nnB, nnT, nnP, nnE, nnEl, nnEr, nnL, nnLl, nnLr, nnQ, nnQr, nnN, Nat.add_zero, if_false, if_true, Option.bind_some, not_true, not_false_iff, not_true_eq_false, not_false_eq_true, eq_self, Nat.not_lt_zero, z10, z01, or_true, true_or, or_false, false_or, true_and, false_and, h2]) (st_w (by simp (disch := first | omega | decide) only [lt1, nnMl, nnMr, nnAl, nnAr, nnA, nnM, nnB, nnT, nnP, nnE, nnEl, nnEr, nnL, nnLl, nnLr, nnQ, nnQr, nnN, Nat.add_zero, if_false, if_true, Option.bind_some, not_true, not_false_iff, not_true_eq_false, not_false_eq_true, eq_self, Nat.not_lt_zero, z10, z01, or_true, true_or, or_false, false_or, true_and, false_and, h1]) ?_)
    rw [nnT (by omega), sc_u, show nn x + 1 = nn (x + 1) from nnA x 1]
    exact h4
theorem jA_fill_y {v : Int32} {s : Sg} {F : Nat} (hF : 10 < F) : ∃ f2, (∀ j, j < 10 → f2 j = v) ∧ jA_fill F v s = some (sc s 190 f2) := by
  obtain ⟨f2, h1, h2⟩ := jA_fill_L (v := v) (s := s) 10 0 F (s 190) (by omega) hF (fun j hj => absurd hj (by omega))
  rw [sc_s] at h2
  exact ⟨f2, h1, h2⟩
theorem jA_fill_c1_L {v : Int32} {s : Sg} : ∀ m x F f, x + m = 8 → m < F → (∀ j, j < x → f j = v) → ∃ f2, (∀ j, j < 8 → f2 j = v) ∧ jA_fill_c1_5 F v (nn x) (sc s 201 f) = some (sc s 201 f2) := by
  intro m
  induction m with
  | zero =>
    intro x F f hx hF hf
    obtain ⟨F, rfl⟩ : ∃ F2, F = F2 + 1 := ⟨F - 1, by omega⟩
    have : x = 8 := by omega
    subst this
    refine ⟨f, hf, ?_⟩
    unfold jA_fill_c1_5
    exact if_pos (by decide)
  | succ m ih =>
    intro x F f hx hF hf
    obtain ⟨F, rfl⟩ : ∃ F2, F = F2 + 1 := ⟨F - 1, by omega⟩
    have h2 : ¬ 8 ≤ x := by omega
    have h1 : x < 8 := by omega
    obtain ⟨f2, h3, h4⟩ := ih (x + 1) F (up1 f x v) (by omega) (by omega) (fun j hj => by
      by_cases e : j = x
      · rw [e, up1_eq]
      · rw [up1_ne e]; exact hf j (by omega))
    refine ⟨f2, h3, ?_⟩
    unfold jA_fill_c1_5
    refine st_f (by simp (disch := first | omega | decide) only [lt1, nnMl, nnMr, nnAl, nnAr, nnA, nnM, nnB, nnT, nnP, nnE, nnEl, nnEr, nnL, nnLl, nnLr, nnQ, nnQr, nnN, Nat.add_zero, if_false, if_true, Option.bind_some, not_true, not_false_iff, not_true_eq_false, not_false_eq_true, eq_self, Nat.not_lt_zero, z10, z01, or_true, true_or, or_false, false_or, true_and, false_and, h2]) (st_w (by simp (disch := first | omega | decide) only [lt1, nnMl, nnMr, nnAl, nnAr, nnA, nnM, nnB, nnT, nnP, nnE, nnEl, nnEr, nnL, nnLl, nnLr, nnQ, nnQr, nnN, Nat.add_zero, if_false, if_true, Option.bind_some, not_true, not_false_iff, not_true_eq_false, not_false_eq_true, eq_self, Nat.not_lt_zero, z10, z01, or_true, true_or, or_false, false_or, true_and, false_and, h1]) ?_)
    rw [nnT (by omega), sc_u, show nn x + 1 = nn (x + 1) from nnA x 1]
    exact h4
theorem jA_fill_c1_y {v : Int32} {s : Sg} {F : Nat} (hF : 8 < F) : ∃ f2, (∀ j, j < 8 → f2 j = v) ∧ jA_fill_c1 F v s = some (sc s 201 f2) := by
  obtain ⟨f2, h1, h2⟩ := jA_fill_c1_L (v := v) (s := s) 8 0 F (s 201) (by omega) hF (fun j hj => absurd hj (by omega))
  rw [sc_s] at h2
  exact ⟨f2, h1, h2⟩
theorem jA_fill_c2_L {v : Int32} {s : Sg} : ∀ m x F f, x + m = 168 → m < F → (∀ j, j < x → f j = v) → ∃ f2, (∀ j, j < 168 → f2 j = v) ∧ jA_fill_c2_5 F v (nn x) (sc s 207 f) = some (sc s 207 f2) := by
  intro m
  induction m with
  | zero =>
    intro x F f hx hF hf
    obtain ⟨F, rfl⟩ : ∃ F2, F = F2 + 1 := ⟨F - 1, by omega⟩
    have : x = 168 := by omega
    subst this
    refine ⟨f, hf, ?_⟩
    unfold jA_fill_c2_5
    exact if_pos (by decide)
  | succ m ih =>
    intro x F f hx hF hf
    obtain ⟨F, rfl⟩ : ∃ F2, F = F2 + 1 := ⟨F - 1, by omega⟩
    have h2 : ¬ 168 ≤ x := by omega
    have h1 : x < 168 := by omega
    obtain ⟨f2, h3, h4⟩ := ih (x + 1) F (up1 f x v) (by omega) (by omega) (fun j hj => by
      by_cases e : j = x
      · rw [e, up1_eq]
      · rw [up1_ne e]; exact hf j (by omega))
    refine ⟨f2, h3, ?_⟩
    unfold jA_fill_c2_5
    refine st_f (by simp (disch := first | omega | decide) only [lt1, nnMl, nnMr, nnAl, nnAr, nnA, nnM, nnB, nnT, nnP, nnE, nnEl, nnEr, nnL, nnLl, nnLr, nnQ, nnQr, nnN, Nat.add_zero, if_false, if_true, Option.bind_some, not_true, not_false_iff, not_true_eq_false, not_false_eq_true, eq_self, Nat.not_lt_zero, z10, z01, or_true, true_or, or_false, false_or, true_and, false_and, h2]) (st_w (by simp (disch := first | omega | decide) only [lt1, nnMl, nnMr, nnAl, nnAr, nnA, nnM, nnB, nnT, nnP, nnE, nnEl, nnEr, nnL, nnLl, nnLr, nnQ, nnQr, nnN, Nat.add_zero, if_false, if_true, Option.bind_some, not_true, not_false_iff, not_true_eq_false, not_false_eq_true, eq_self, Nat.not_lt_zero, z10, z01, or_true, true_or, or_false, false_or, true_and, false_and, h1]) ?_)
    rw [nnT (by omega), sc_u, show nn x + 1 = nn (x + 1) from nnA x 1]
    exact h4
theorem jA_fill_c2_y {v : Int32} {s : Sg} {F : Nat} (hF : 168 < F) : ∃ f2, (∀ j, j < 168 → f2 j = v) ∧ jA_fill_c2 F v s = some (sc s 207 f2) := by
  obtain ⟨f2, h1, h2⟩ := jA_fill_c2_L (v := v) (s := s) 168 0 F (s 207) (by omega) hF (fun j hj => absurd hj (by omega))
  rw [sc_s] at h2
  exact ⟨f2, h1, h2⟩
theorem jA_fill_c3_L {v : Int32} {s : Sg} : ∀ m x F f, x + m = 8 → m < F → (∀ j, j < x → f j = v) → ∃ f2, (∀ j, j < 8 → f2 j = v) ∧ jA_fill_c3_5 F v (nn x) (sc s 202 f) = some (sc s 202 f2) := by
  intro m
  induction m with
  | zero =>
    intro x F f hx hF hf
    obtain ⟨F, rfl⟩ : ∃ F2, F = F2 + 1 := ⟨F - 1, by omega⟩
    have : x = 8 := by omega
    subst this
    refine ⟨f, hf, ?_⟩
    unfold jA_fill_c3_5
    exact if_pos (by decide)
  | succ m ih =>
    intro x F f hx hF hf
    obtain ⟨F, rfl⟩ : ∃ F2, F = F2 + 1 := ⟨F - 1, by omega⟩
    have h2 : ¬ 8 ≤ x := by omega
    have h1 : x < 8 := by omega
    obtain ⟨f2, h3, h4⟩ := ih (x + 1) F (up1 f x v) (by omega) (by omega) (fun j hj => by
      by_cases e : j = x
      · rw [e, up1_eq]
      · rw [up1_ne e]; exact hf j (by omega))
    refine ⟨f2, h3, ?_⟩
    unfold jA_fill_c3_5
    refine st_f (by simp (disch := first | omega | decide) only [lt1, nnMl, nnMr, nnAl, nnAr, nnA, nnM, nnB, nnT, nnP, nnE, nnEl, nnEr, nnL, nnLl, nnLr, nnQ, nnQr, nnN, Nat.add_zero, if_false, if_true, Option.bind_some, not_true, not_false_iff, not_true_eq_false, not_false_eq_true, eq_self, Nat.not_lt_zero, z10, z01, or_true, true_or, or_false, false_or, true_and, false_and, h2]) (st_w (by simp (disch := first | omega | decide) only [lt1, nnMl, nnMr, nnAl, nnAr, nnA, nnM, nnB, nnT, nnP, nnE, nnEl, nnEr, nnL, nnLl, nnLr, nnQ, nnQr, nnN, Nat.add_zero, if_false, if_true, Option.bind_some, not_true, not_false_iff, not_true_eq_false, not_false_eq_true, eq_self, Nat.not_lt_zero, z10, z01, or_true, true_or, or_false, false_or, true_and, false_and, h1]) ?_)
    rw [nnT (by omega), sc_u, show nn x + 1 = nn (x + 1) from nnA x 1]
    exact h4
theorem jA_fill_c3_y {v : Int32} {s : Sg} {F : Nat} (hF : 8 < F) : ∃ f2, (∀ j, j < 8 → f2 j = v) ∧ jA_fill_c3 F v s = some (sc s 202 f2) := by
  obtain ⟨f2, h1, h2⟩ := jA_fill_c3_L (v := v) (s := s) 8 0 F (s 202) (by omega) hF (fun j hj => absurd hj (by omega))
  rw [sc_s] at h2
  exact ⟨f2, h1, h2⟩
theorem jA_fill_c4_L {v : Int32} {s : Sg} : ∀ m x F f, x + m = 8 → m < F → (∀ j, j < x → f j = v) → ∃ f2, (∀ j, j < 8 → f2 j = v) ∧ jA_fill_c4_5 F v (nn x) (sc s 203 f) = some (sc s 203 f2) := by
  intro m
  induction m with
  | zero =>
    intro x F f hx hF hf
    obtain ⟨F, rfl⟩ : ∃ F2, F = F2 + 1 := ⟨F - 1, by omega⟩
    have : x = 8 := by omega
    subst this
    refine ⟨f, hf, ?_⟩
    unfold jA_fill_c4_5
    exact if_pos (by decide)
  | succ m ih =>
    intro x F f hx hF hf
    obtain ⟨F, rfl⟩ : ∃ F2, F = F2 + 1 := ⟨F - 1, by omega⟩
    have h2 : ¬ 8 ≤ x := by omega
    have h1 : x < 8 := by omega
    obtain ⟨f2, h3, h4⟩ := ih (x + 1) F (up1 f x v) (by omega) (by omega) (fun j hj => by
      by_cases e : j = x
      · rw [e, up1_eq]
      · rw [up1_ne e]; exact hf j (by omega))
    refine ⟨f2, h3, ?_⟩
    unfold jA_fill_c4_5
    refine st_f (by simp (disch := first | omega | decide) only [lt1, nnMl, nnMr, nnAl, nnAr, nnA, nnM, nnB, nnT, nnP, nnE, nnEl, nnEr, nnL, nnLl, nnLr, nnQ, nnQr, nnN, Nat.add_zero, if_false, if_true, Option.bind_some, not_true, not_false_iff, not_true_eq_false, not_false_eq_true, eq_self, Nat.not_lt_zero, z10, z01, or_true, true_or, or_false, false_or, true_and, false_and, h2]) (st_w (by simp (disch := first | omega | decide) only [lt1, nnMl, nnMr, nnAl, nnAr, nnA, nnM, nnB, nnT, nnP, nnE, nnEl, nnEr, nnL, nnLl, nnLr, nnQ, nnQr, nnN, Nat.add_zero, if_false, if_true, Option.bind_some, not_true, not_false_iff, not_true_eq_false, not_false_eq_true, eq_self, Nat.not_lt_zero, z10, z01, or_true, true_or, or_false, false_or, true_and, false_and, h1]) ?_)
    rw [nnT (by omega), sc_u, show nn x + 1 = nn (x + 1) from nnA x 1]
    exact h4
theorem jA_fill_c4_y {v : Int32} {s : Sg} {F : Nat} (hF : 8 < F) : ∃ f2, (∀ j, j < 8 → f2 j = v) ∧ jA_fill_c4 F v s = some (sc s 203 f2) := by
  obtain ⟨f2, h1, h2⟩ := jA_fill_c4_L (v := v) (s := s) 8 0 F (s 203) (by omega) hF (fun j hj => absurd hj (by omega))
  rw [sc_s] at h2
  exact ⟨f2, h1, h2⟩
theorem jA_fill_c5_L {v : Int32} {s : Sg} : ∀ m x F f, x + m = 4 → m < F → (∀ j, j < x → f j = v) → ∃ f2, (∀ j, j < 4 → f2 j = v) ∧ jA_fill_c5_5 F v (nn x) (sc s 212 f) = some (sc s 212 f2) := by
  intro m
  induction m with
  | zero =>
    intro x F f hx hF hf
    obtain ⟨F, rfl⟩ : ∃ F2, F = F2 + 1 := ⟨F - 1, by omega⟩
    have : x = 4 := by omega
    subst this
    refine ⟨f, hf, ?_⟩
    unfold jA_fill_c5_5
    exact if_pos (by decide)
  | succ m ih =>
    intro x F f hx hF hf
    obtain ⟨F, rfl⟩ : ∃ F2, F = F2 + 1 := ⟨F - 1, by omega⟩
    have h2 : ¬ 4 ≤ x := by omega
    have h1 : x < 4 := by omega
    obtain ⟨f2, h3, h4⟩ := ih (x + 1) F (up1 f x v) (by omega) (by omega) (fun j hj => by
      by_cases e : j = x
      · rw [e, up1_eq]
      · rw [up1_ne e]; exact hf j (by omega))
    refine ⟨f2, h3, ?_⟩
    unfold jA_fill_c5_5
    refine st_f (by simp (disch := first | omega | decide) only [lt1, nnMl, nnMr, nnAl, nnAr, nnA, nnM, nnB, nnT, nnP, nnE, nnEl, nnEr, nnL, nnLl, nnLr, nnQ, nnQr, nnN, Nat.add_zero, if_false, if_true, Option.bind_some, not_true, not_false_iff, not_true_eq_false, not_false_eq_true, eq_self, Nat.not_lt_zero, z10, z01, or_true, true_or, or_false, false_or, true_and, false_and, h2]) (st_w (by simp (disch := first | omega | decide) only [lt1, nnMl, nnMr, nnAl, nnAr, nnA, nnM, nnB, nnT, nnP, nnE, nnEl, nnEr, nnL, nnLl, nnLr, nnQ, nnQr, nnN, Nat.add_zero, if_false, if_true, Option.bind_some, not_true, not_false_iff, not_true_eq_false, not_false_eq_true, eq_self, Nat.not_lt_zero, z10, z01, or_true, true_or, or_false, false_or, true_and, false_and, h1]) ?_)
    rw [nnT (by omega), sc_u, show nn x + 1 = nn (x + 1) from nnA x 1]
    exact h4
theorem jA_fill_c5_y {v : Int32} {s : Sg} {F : Nat} (hF : 4 < F) : ∃ f2, (∀ j, j < 4 → f2 j = v) ∧ jA_fill_c5 F v s = some (sc s 212 f2) := by
  obtain ⟨f2, h1, h2⟩ := jA_fill_c5_L (v := v) (s := s) 4 0 F (s 212) (by omega) hF (fun j hj => absurd hj (by omega))
  rw [sc_s] at h2
  exact ⟨f2, h1, h2⟩
theorem jA_fill_c6_L {v : Int32} {s : Sg} : ∀ m x F f, x + m = 4 → m < F → (∀ j, j < x → f j = v) → ∃ f2, (∀ j, j < 4 → f2 j = v) ∧ jA_fill_c6_5 F v (nn x) (sc s 213 f) = some (sc s 213 f2) := by
  intro m
  induction m with
  | zero =>
    intro x F f hx hF hf
    obtain ⟨F, rfl⟩ : ∃ F2, F = F2 + 1 := ⟨F - 1, by omega⟩
    have : x = 4 := by omega
    subst this
    refine ⟨f, hf, ?_⟩
    unfold jA_fill_c6_5
    exact if_pos (by decide)
  | succ m ih =>
    intro x F f hx hF hf
    obtain ⟨F, rfl⟩ : ∃ F2, F = F2 + 1 := ⟨F - 1, by omega⟩
    have h2 : ¬ 4 ≤ x := by omega
    have h1 : x < 4 := by omega
    obtain ⟨f2, h3, h4⟩ := ih (x + 1) F (up1 f x v) (by omega) (by omega) (fun j hj => by
      by_cases e : j = x
      · rw [e, up1_eq]
      · rw [up1_ne e]; exact hf j (by omega))
    refine ⟨f2, h3, ?_⟩
    unfold jA_fill_c6_5
    refine st_f (by simp (disch := first | omega | decide) only [lt1, nnMl, nnMr, nnAl, nnAr, nnA, nnM, nnB, nnT, nnP, nnE, nnEl, nnEr, nnL, nnLl, nnLr, nnQ, nnQr, nnN, Nat.add_zero, if_false, if_true, Option.bind_some, not_true, not_false_iff, not_true_eq_false, not_false_eq_true, eq_self, Nat.not_lt_zero, z10, z01, or_true, true_or, or_false, false_or, true_and, false_and, h2]) (st_w (by simp (disch := first | omega | decide) only [lt1, nnMl, nnMr, nnAl, nnAr, nnA, nnM, nnB, nnT, nnP, nnE, nnEl, nnEr, nnL, nnLl, nnLr, nnQ, nnQr, nnN, Nat.add_zero, if_false, if_true, Option.bind_some, not_true, not_false_iff, not_true_eq_false, not_false_eq_true, eq_self, Nat.not_lt_zero, z10, z01, or_true, true_or, or_false, false_or, true_and, false_and, h1]) ?_)
    rw [nnT (by omega), sc_u, show nn x + 1 = nn (x + 1) from nnA x 1]
    exact h4
theorem jA_fill_c6_y {v : Int32} {s : Sg} {F : Nat} (hF : 4 < F) : ∃ f2, (∀ j, j < 4 → f2 j = v) ∧ jA_fill_c6 F v s = some (sc s 213 f2) := by
  obtain ⟨f2, h1, h2⟩ := jA_fill_c6_L (v := v) (s := s) 4 0 F (s 213) (by omega) hF (fun j hj => absurd hj (by omega))
  rw [sc_s] at h2
  exact ⟨f2, h1, h2⟩
theorem jA_fill_c7_L {v : Int32} {s : Sg} : ∀ m x F f, x + m = 4 → m < F → (∀ j, j < x → f j = v) → ∃ f2, (∀ j, j < 4 → f2 j = v) ∧ jA_fill_c7_5 F v (nn x) (sc s 214 f) = some (sc s 214 f2) := by
  intro m
  induction m with
  | zero =>
    intro x F f hx hF hf
    obtain ⟨F, rfl⟩ : ∃ F2, F = F2 + 1 := ⟨F - 1, by omega⟩
    have : x = 4 := by omega
    subst this
    refine ⟨f, hf, ?_⟩
    unfold jA_fill_c7_5
    exact if_pos (by decide)
  | succ m ih =>
    intro x F f hx hF hf
    obtain ⟨F, rfl⟩ : ∃ F2, F = F2 + 1 := ⟨F - 1, by omega⟩
    have h2 : ¬ 4 ≤ x := by omega
    have h1 : x < 4 := by omega
    obtain ⟨f2, h3, h4⟩ := ih (x + 1) F (up1 f x v) (by omega) (by omega) (fun j hj => by
      by_cases e : j = x
      · rw [e, up1_eq]
      · rw [up1_ne e]; exact hf j (by omega))
    refine ⟨f2, h3, ?_⟩
    unfold jA_fill_c7_5
    refine st_f (by simp (disch := first | omega | decide) only [lt1, nnMl, nnMr, nnAl, nnAr, nnA, nnM, nnB, nnT, nnP, nnE, nnEl, nnEr, nnL, nnLl, nnLr, nnQ, nnQr, nnN, Nat.add_zero, if_false, if_true, Option.bind_some, not_true, not_false_iff, not_true_eq_false, not_false_eq_true, eq_self, Nat.not_lt_zero, z10, z01, or_true, true_or, or_false, false_or, true_and, false_and, h2]) (st_w (by simp (disch := first | omega | decide) only [lt1, nnMl, nnMr, nnAl, nnAr, nnA, nnM, nnB, nnT, nnP, nnE, nnEl, nnEr, nnL, nnLl, nnLr, nnQ, nnQr, nnN, Nat.add_zero, if_false, if_true, Option.bind_some, not_true, not_false_iff, not_true_eq_false, not_false_eq_true, eq_self, Nat.not_lt_zero, z10, z01, or_true, true_or, or_false, false_or, true_and, false_and, h1]) ?_)
    rw [nnT (by omega), sc_u, show nn x + 1 = nn (x + 1) from nnA x 1]
    exact h4
theorem jA_fill_c7_y {v : Int32} {s : Sg} {F : Nat} (hF : 4 < F) : ∃ f2, (∀ j, j < 4 → f2 j = v) ∧ jA_fill_c7 F v s = some (sc s 214 f2) := by
  obtain ⟨f2, h1, h2⟩ := jA_fill_c7_L (v := v) (s := s) 4 0 F (s 214) (by omega) hF (fun j hj => absurd hj (by omega))
  rw [sc_s] at h2
  exact ⟨f2, h1, h2⟩
def ctr (o r j : Int32) : Int32 := if o = j ∧ ¬ r = j then 1 else if ¬ o = j ∧ r = j then -1 else 0
theorem ctr_o {o r j : Int32} (h1 : o = j) (h2 : ¬ r = j) : ctr o r j = 1 := if_pos ⟨h1, h2⟩
theorem ctr_r {o r j : Int32} (h1 : ¬ o = j) (h2 : r = j) : ctr o r j = -1 := (if_neg (fun e => h1 e.1)).trans (if_pos ⟨h1, h2⟩)
theorem ctr_n {o r j : Int32} (h1 : ¬ o = j) (h2 : ¬ r = j) : ctr o r j = 0 := (if_neg (fun e => h1 e.1)).trans (if_neg (fun e => h2 e.2))
theorem ctr_e {o r j : Int32} (h : o = r) : ctr o r j = 0 := by
  subst h
  exact (if_neg (fun e => e.2 e.1)).trans (if_neg (fun e => e.1 e.2))
theorem nnNe {a b : Nat} (ha : a < 2147483648) (hb : b < 2147483648) (h : a ≠ b) : ¬ nn a = nn b := fun e => h (by rwa [nnQ ha hb] at e)
theorem nnN1 {a : Nat} (ha : a < 2147483648) : ¬ (-1 : Int32) = nn a := fun e => by
  have := e.symm
  rw [nnN ha] at this
  exact this
theorem holder_neg {g : Sg} : x_isHolder (-1) g = some 0 := rfl
theorem cmp23 {s : Sg} {o r : Int32} {f : Nat → Int32} (hor : ¬ o = r) (hr : r = -1 ∨ ∃ n, n < 8 ∧ r = nn n) : ∃ f2, (∀ j, j < 8 → f2 j = f j + (if r = nn j then -1 else 0)) ∧ reckoning_compareHour_23 r (sc s 201 f) = some (sc s 201 f2) := by
  rcases hr with rfl | ⟨n, hn, rfl⟩
  · refine ⟨f, fun j hj => ?_, ?_⟩
    · rw [if_neg (nnN1 (by omega)), Int32.add_zero]
    · unfold reckoning_compareHour_23
      exact st_b holder_neg (st_t rfl rfl)
  · refine ⟨up1 f n (f n - 1), fun j hj => ?_, ?_⟩
    · by_cases e : j = n
      · subst e
        rw [up1_eq, if_pos rfl, Int32.sub_eq_add_neg]
      · rw [up1_ne e, if_neg (nnNe (by omega) (by omega) (fun q => e q.symm)), Int32.add_zero]
    · unfold reckoning_compareHour_23
      refine st_b (holder_y hn) (st_f (by decide) (st_t (by simp (disch := first | omega | decide) only [lt1, nnMl, nnMr, nnAl, nnAr, nnA, nnM, nnB, nnT, nnP, nnE, nnEl, nnEr, nnL, nnLl, nnLr, nnQ, nnQr, nnN, Nat.add_zero, if_false, if_true, Option.bind_some, not_true, not_false_iff, not_true_eq_false, not_false_eq_true, eq_self, Nat.not_lt_zero, z10, z01, or_true, true_or, or_false, false_or, true_and, false_and, hn]) (st_w (by simp (disch := first | omega | decide) only [lt1, nnMl, nnMr, nnAl, nnAr, nnA, nnM, nnB, nnT, nnP, nnE, nnEl, nnEr, nnL, nnLl, nnLr, nnQ, nnQr, nnN, Nat.add_zero, if_false, if_true, Option.bind_some, not_true, not_false_iff, not_true_eq_false, not_false_eq_true, eq_self, Nat.not_lt_zero, z10, z01, or_true, true_or, or_false, false_or, true_and, false_and, hn]) ?_)))
      rw [nnT (by omega), sc_e, sc_u]
theorem cmp_y {s : Sg} {o r : Int32} {f : Nat → Int32} (ho : o = -1 ∨ ∃ n, n < 8 ∧ o = nn n) (hr : r = -1 ∨ ∃ n, n < 8 ∧ r = nn n) : ∃ f2, (∀ j, j < 8 → f2 j = f j + ctr o r (nn j)) ∧ reckoning_compareHour o r (sc s 201 f) = some (sc s 201 f2) := by
  by_cases hor : o = r
  · refine ⟨f, fun j hj => ?_, ?_⟩
    · rw [ctr_e hor, Int32.add_zero]
    · unfold reckoning_compareHour
      exact st_f (fun e => e hor) rfl
  · rcases ho with rfl | ⟨n, hn, rfl⟩
    · obtain ⟨f2, h1, h2⟩ := cmp23 (s := s) (f := f) hor hr
      refine ⟨f2, fun j hj => ?_, ?_⟩
      · rw [h1 j hj]
        by_cases e : r = nn j
        · rw [if_pos e, ctr_r (nnN1 (by omega)) e]
        · rw [if_neg e, ctr_n (nnN1 (by omega)) e]
      · unfold reckoning_compareHour
        exact st_t hor (st_b holder_neg (st_t rfl h2))
    · obtain ⟨f2, h1, h2⟩ := cmp23 (s := s) (f := up1 f n (f n + 1)) hor hr
      refine ⟨f2, fun j hj => ?_, ?_⟩
      · rw [h1 j hj]
        by_cases e : j = n
        · subst e
          have hr2 : ¬ r = nn j := fun q => hor q.symm
          rw [up1_eq, if_neg hr2, ctr_o rfl hr2, Int32.add_zero]
        · have hn2 : ¬ nn n = nn j := nnNe (by omega) (by omega) (fun q => e q.symm)
          rw [up1_ne e]
          by_cases e2 : r = nn j
          · rw [if_pos e2, ctr_r hn2 e2]
          · rw [if_neg e2, ctr_n hn2 e2]
      · unfold reckoning_compareHour
        refine st_t hor (st_b (holder_y hn) (st_f (by decide) (st_t (by simp (disch := first | omega | decide) only [lt1, nnMl, nnMr, nnAl, nnAr, nnA, nnM, nnB, nnT, nnP, nnE, nnEl, nnEr, nnL, nnLl, nnLr, nnQ, nnQr, nnN, Nat.add_zero, if_false, if_true, Option.bind_some, not_true, not_false_iff, not_true_eq_false, not_false_eq_true, eq_self, Nat.not_lt_zero, z10, z01, or_true, true_or, or_false, false_or, true_and, false_and, hn]) (st_w (by simp (disch := first | omega | decide) only [lt1, nnMl, nnMr, nnAl, nnAr, nnA, nnM, nnB, nnT, nnP, nnE, nnEl, nnEr, nnL, nnLl, nnLr, nnQ, nnQr, nnN, Nat.add_zero, if_false, if_true, Option.bind_some, not_true, not_false_iff, not_true_eq_false, not_false_eq_true, eq_self, Nat.not_lt_zero, z10, z01, or_true, true_or, or_false, false_or, true_and, false_and, hn]) ?_))))
        rw [nnT (by omega), sc_e, sc_u]
        exact h2
section SM
variable {c g : Sg} {D N Q : Nat}
/-- what is owed to j of the first m hours -/
noncomputable def ow (c : Sg) (Q D m j : Nat) : Int32 := sumTo (fun i => ctr (ownS c (nn (i % 168)) (nn (i / 168)) (nn (Q / 96)) D) (c 30 i) (nn j)) m
theorem hoursL (h : RRig c (g 216) D N Q) (hQ : Q ≤ 9599) {s : Sg} (hs : ∀ i, 22 ≤ i → i ≤ 30 → s i = c i) {K : Int32 → Sg → Option Sg} {w : Nat} (hw : w < 100) {f : Nat → Int32} (hf : ∀ i, i < 168 → f i = ownS c (nn i) (nn w) (nn (Q / 96)) D) : ∀ m x F o, x + m = 168 → m < F → (∀ j, j < 8 → o j = ow c Q D (min (w * 168 + x) ((Q + 3) / 4)) j) → ∃ o2, (∀ j, j < 8 → o2 j = ow c Q D (min ((w + 1) * 168) ((Q + 3) / 4)) j) ∧ reckoning_reckonOwed_47 K F (nn w) (nn x) (sc (sc s 207 f) 201 o) = K (nn (w + 1)) (sc (sc s 207 f) 201 o2) := by
  intro m
  induction m with
  | zero =>
    intro x F o hx hF ho
    obtain ⟨F, rfl⟩ : ∃ F2, F = F2 + 1 := ⟨F - 1, by omega⟩
    have : x = 168 := by omega
    subst this
    refine ⟨o, fun j hj => by rw [ho j hj, show w * 168 + 168 = (w + 1) * 168 by omega], ?_⟩
    unfold reckoning_reckonOwed_47
    refine st_t (by decide) ?_
    rw [show nn w + 1 = nn (w + 1) from nnA w 1]
  | succ m ih =>
    intro x F o hx hF ho
    obtain ⟨F, rfl⟩ : ∃ F2, F = F2 + 1 := ⟨F - 1, by omega⟩
    have h2 : ¬ 168 ≤ x := by omega
    have h1 : x < 168 := by omega
    have e1 : nn w * 168 + nn x = nn (w * 168 + x) := by simp (disch := first | omega | decide) only [lt1, nnMl, nnMr, nnAl, nnAr, nnA, nnM, nnB, nnT, nnP, nnE, nnEl, nnEr, nnL, nnLl, nnLr, nnQ, nnQr, nnN, Nat.add_zero, if_false, if_true, Option.bind_some, not_true, not_false_iff, not_true_eq_false, not_false_eq_true, eq_self, Nat.not_lt_zero, z10, z01, or_true, true_or, or_false, false_or, true_and, false_and]
    have e2 : nn x + 1 = nn (x + 1) := nnA x 1
    have e3 : sc (sc s 207 f) 201 o 22 8 = nn ((Q + 3) / 4) := by rw [sc_n (by omega), sc_n (by omega), hs 22 (by omega) (by omega), h.cR]
    by_cases q : (Q + 3) / 4 ≤ w * 168 + x
    · obtain ⟨o2, r1, r2⟩ := ih (x + 1) F o (by omega) (by omega) (fun j hj => by
        rw [ho j hj, Nat.min_eq_right q, Nat.min_eq_right (by omega)])
      refine ⟨o2, r1, ?_⟩
      unfold reckoning_reckonOwed_47
      rw [e3, e1, e2]
      exact st_f (by simp (disch := first | omega | decide) only [lt1, nnMl, nnMr, nnAl, nnAr, nnA, nnM, nnB, nnT, nnP, nnE, nnEl, nnEr, nnL, nnLl, nnLr, nnQ, nnQr, nnN, Nat.add_zero, if_false, if_true, Option.bind_some, not_true, not_false_iff, not_true_eq_false, not_false_eq_true, eq_self, Nat.not_lt_zero, z10, z01, or_true, true_or, or_false, false_or, true_and, false_and, h2]) (st_l (st_t (by rw [nnE (by omega) (by omega)]; exact q) r2))
    · have q3 : ¬ 2400 ≤ w * 168 + x := by omega
      have q4 : w * 168 + x < 2400 := by omega
      obtain ⟨o3, h3, h4⟩ := cmp_y (s := sc s 207 f) (f := o) (ownS_v h (x := nn x) (w := nn w) (k := nn (Q / 96))) (h.runV _ q4)
      obtain ⟨o2, r1, r2⟩ := ih (x + 1) F o3 (by omega) (by omega) (fun j hj => by
        rw [h3 j hj, ho j hj, Nat.min_eq_left (by omega), Nat.min_eq_left (by omega)]
        show _ = ow c Q D (w * 168 + x) j + ctr (ownS c (nn ((w * 168 + x) % 168)) (nn ((w * 168 + x) / 168)) (nn (Q / 96)) D) (c 30 (w * 168 + x)) (nn j)
        rw [show (w * 168 + x) % 168 = x by omega, show (w * 168 + x) / 168 = w by omega])
      refine ⟨o2, r1, ?_⟩
      unfold reckoning_reckonOwed_47
      rw [e3, e1, e2]
      refine st_f (by simp (disch := first | omega | decide) only [lt1, nnMl, nnMr, nnAl, nnAr, nnA, nnM, nnB, nnT, nnP, nnE, nnEl, nnEr, nnL, nnLl, nnLr, nnQ, nnQr, nnN, Nat.add_zero, if_false, if_true, Option.bind_some, not_true, not_false_iff, not_true_eq_false, not_false_eq_true, eq_self, Nat.not_lt_zero, z10, z01, or_true, true_or, or_false, false_or, true_and, false_and, h2]) (st_l (st_f (by rw [nnE (by omega) (by omega)]; exact q) (st_f (by simp (disch := first | omega | decide) only [lt1, nnMl, nnMr, nnAl, nnAr, nnA, nnM, nnB, nnT, nnP, nnE, nnEl, nnEr, nnL, nnLl, nnLr, nnQ, nnQr, nnN, Nat.add_zero, if_false, if_true, Option.bind_some, not_true, not_false_iff, not_true_eq_false, not_false_eq_true, eq_self, Nat.not_lt_zero, z10, z01, or_true, true_or, or_false, false_or, true_and, false_and, q3]) (st_t (by simp (disch := first | omega | decide) only [lt1, nnMl, nnMr, nnAl, nnAr, nnA, nnM, nnB, nnT, nnP, nnE, nnEl, nnEr, nnL, nnLl, nnLr, nnQ, nnQr, nnN, Nat.add_zero, if_false, if_true, Option.bind_some, not_true, not_false_iff, not_true_eq_false, not_false_eq_true, eq_self, Nat.not_lt_zero, z10, z01, or_true, true_or, or_false, false_or, true_and, false_and, h1]) (st_t (by simp (disch := first | omega | decide) only [lt1, nnMl, nnMr, nnAl, nnAr, nnA, nnM, nnB, nnT, nnP, nnE, nnEl, nnEr, nnL, nnLl, nnLr, nnQ, nnQr, nnN, Nat.add_zero, if_false, if_true, Option.bind_some, not_true, not_false_iff, not_true_eq_false, not_false_eq_true, eq_self, Nat.not_lt_zero, z10, z01, or_true, true_or, or_false, false_or, true_and, false_and, q4]) (st_b ?_ r2))))))
      rw [nnT (by omega), nnT (by omega), sc_n (by omega), sc_e, sc_n (by omega), sc_n (by omega), hs 30 (by omega) (by omega), hf x h1]
      exact h4
theorem weeksL (h : RRig c (g 216) D N Q) (hQ : Q ≤ 9599) {s : Sg} (hs : ∀ i, 22 ≤ i → i ≤ 30 → s i = c i) {F0 : Nat} (hF0 : 200 < F0) : ∀ m w F o f, w + m = 100 → m < F → (∀ j, j < 8 → o j = ow c Q D (min (w * 168) ((Q + 3) / 4)) j) → (∀ i, i < 168 → f i = ownS c (nn i) (nn w - 1) (nn (Q / 96)) D) → ∃ o2 f2, (∀ j, j < 8 → o2 j = ow c Q D ((Q + 3) / 4) j) ∧ reckoning_reckonOwed_18 F0 F (nn w) (sc (sc s 207 f) 201 o) = some (sc (sc s 207 f2) 201 o2) := by
  intro m
  induction m with
  | zero =>
    intro w F o f hw hF ho hf
    obtain ⟨F, rfl⟩ : ∃ F2, F = F2 + 1 := ⟨F - 1, by omega⟩
    have : w = 100 := by omega
    subst this
    refine ⟨o, f, fun j hj => by rw [ho j hj, Nat.min_eq_right (by omega)], ?_⟩
    unfold reckoning_reckonOwed_18
    exact st_t (by decide) rfl
  | succ m ih =>
    intro w F o f hw hF ho hf
    obtain ⟨F, rfl⟩ : ∃ F2, F = F2 + 1 := ⟨F - 1, by omega⟩
    have h2 : ¬ 100 ≤ w := by omega
    have e1 : nn w * 168 = nn (w * 168) := by simp (disch := first | omega | decide) only [lt1, nnMl, nnMr, nnAl, nnAr, nnA, nnM, nnB, nnT, nnP, nnE, nnEl, nnEr, nnL, nnLl, nnLr, nnQ, nnQr, nnN, Nat.add_zero, if_false, if_true, Option.bind_some, not_true, not_false_iff, not_true_eq_false, not_false_eq_true, eq_self, Nat.not_lt_zero, z10, z01, or_true, true_or, or_false, false_or, true_and, false_and]
    unfold reckoning_reckonOwed_18
    rw [sc_n (by omega), sc_n (by omega), hs 22 (by omega) (by omega), h.cR, e1]
    by_cases q : (Q + 3) / 4 ≤ w * 168
    · refine ⟨o, f, fun j hj => by rw [ho j hj, Nat.min_eq_right q], ?_⟩
      exact st_f (by simp (disch := first | omega | decide) only [lt1, nnMl, nnMr, nnAl, nnAr, nnA, nnM, nnB, nnT, nnP, nnE, nnEl, nnEr, nnL, nnLl, nnLr, nnQ, nnQr, nnN, Nat.add_zero, if_false, if_true, Option.bind_some, not_true, not_false_iff, not_true_eq_false, not_false_eq_true, eq_self, Nat.not_lt_zero, z10, z01, or_true, true_or, or_false, false_or, true_and, false_and, h2]) (st_t (by rw [nnE (by omega) (by omega)]; exact q) rfl)
    · obtain ⟨f3, l2', l2⟩ := lay_y h hQ (s := sc s 201 o) (fun i e1 e2 => by rw [sc_n (by omega)]; exact hs i e1 e2) (prev_w h (show w < 100 by omega)) (prev_lt (by omega)) hF0 hf
      obtain ⟨o3, r1, r2⟩ := hoursL h hQ hs (K := fun v2 g0 => reckoning_reckonOwed_18 F0 F v2 g0) (show w < 100 by omega) l2 168 0 F0 o (by omega) (by omega) (fun j hj => by rw [ho j hj]; rfl)
      obtain ⟨o2, f2, s1, s2⟩ := ih (w + 1) F o3 f3 (by omega) (by omega) r1 (fun i hi => by rw [nnS1]; exact l2 i hi)
      refine ⟨o2, f2, s1, ?_⟩
      refine st_f (by simp (disch := first | omega | decide) only [lt1, nnMl, nnMr, nnAl, nnAr, nnA, nnM, nnB, nnT, nnP, nnE, nnEl, nnEr, nnL, nnLl, nnLr, nnQ, nnQr, nnN, Nat.add_zero, if_false, if_true, Option.bind_some, not_true, not_false_iff, not_true_eq_false, not_false_eq_true, eq_self, Nat.not_lt_zero, z10, z01, or_true, true_or, or_false, false_or, true_and, false_and, h2]) (st_f (by rw [nnE (by omega) (by omega)]; exact q) ?_)
      rw [sc_c (by decide)]
      refine st_b l2' ?_
      rw [sc_c (by decide)]
      exact r2.trans s2
theorem reckonOwed_y (h : RRig c (g 216) D N Q) (hQ : Q ≤ 9599) {s : Sg} (hs : ∀ i, 22 ≤ i → i ≤ 30 → s i = c i) {F : Nat} (hF : 200 < F) : ∃ o f, (∀ j, j < 8 → o j = ow c Q D ((Q + 3) / 4) j) ∧ reckoning_reckonOwed F s = some (sc (sc s 207 f) 201 o) := by
  obtain ⟨o, p1, p2⟩ := jA_fill_c1_y (v := 0) (s := s) (F := F) (by omega)
  obtain ⟨f, p3, p4⟩ := jA_fill_c2_y (v := -1) (s := sc s 201 o) (F := F) (by omega)
  obtain ⟨o2, f2, r1, r2⟩ := weeksL h hQ hs hF 100 0 F o f (by omega) (by omega) (fun j hj => by rw [p1 j hj, Nat.zero_mul, Nat.zero_min]; rfl) (fun i hi => by rw [p3 i hi]; exact (own_neg h).symm)
  refine ⟨o2, f2, r1, ?_⟩
  unfold reckoning_reckonOwed
  refine st_b p2 (st_b p4 ?_)
  rw [sc_c (by decide)]
  exact r2
theorem owedML (h : RRig c (g 216) D N Q) (hQ : Q ≤ 9599) (h3 : g 216 3 = nn Q) {n : Nat} (hn : n < 8) {F0 : Nat} (hF0 : 120 < F0) : ∀ m i F, i + m = (Q + 3) / 4 → m < F → m_owedTo_4 F0 F (nn n) (ow c Q D i n) (nn i) g = some (ow c Q D ((Q + 3) / 4) n) := by
  intro m
  induction m with
  | zero =>
    intro i F hi hF
    obtain ⟨F, rfl⟩ : ∃ F2, F = F2 + 1 := ⟨F - 1, by omega⟩
    have : i = (Q + 3) / 4 := by omega
    unfold m_owedTo_4
    rw [h.aR, this]
    exact if_pos (Int32.le_refl _)
  | succ m ih =>
    intro i F hi hF
    obtain ⟨F, rfl⟩ : ∃ F2, F = F2 + 1 := ⟨F - 1, by omega⟩
    have h2 : ¬ (Q + 3) / 4 ≤ i := by omega
    have i1 : 1870 + i < 20360 := by omega
    have e0 : nn i - nn i / 168 * 168 = nn (i % 168) := by
      have e : nn i / 168 * 168 = nn (i / 168 * 168) := by simp (disch := first | omega | decide) only [lt1, nnMl, nnMr, nnAl, nnAr, nnA, nnM, nnB, nnT, nnP, nnE, nnEl, nnEr, nnL, nnLl, nnLr, nnQ, nnQr, nnN, Nat.add_zero, if_false, if_true, Option.bind_some, not_true, not_false_iff, not_true_eq_false, not_false_eq_true, eq_self, Nat.not_lt_zero, z10, z01, or_true, true_or, or_false, false_or, true_and, false_and, nnDr]
      rw [e, nnS (a := i) (b := i / 168 * 168) (by omega), show i - i / 168 * 168 = i % 168 by omega]
    have e1 : nn i / 168 = nn (i / 168) := by simp (disch := first | omega | decide) only [lt1, nnMl, nnMr, nnAl, nnAr, nnA, nnM, nnB, nnT, nnP, nnE, nnEl, nnEr, nnL, nnLl, nnLr, nnQ, nnQr, nnN, Nat.add_zero, if_false, if_true, Option.bind_some, not_true, not_false_iff, not_true_eq_false, not_false_eq_true, eq_self, Nat.not_lt_zero, z10, z01, or_true, true_or, or_false, false_or, true_and, false_and, nnDr]
    have e2 : nn i + 1 = nn (i + 1) := nnA i 1
    have e3 : Int32.toNatClampNeg (1870 + nn i) = 1870 + i := by simp (disch := first | omega | decide) only [lt1, nnMl, nnMr, nnAl, nnAr, nnA, nnM, nnB, nnT, nnP, nnE, nnEl, nnEr, nnL, nnLl, nnLr, nnQ, nnQr, nnN, Nat.add_zero, if_false, if_true, Option.bind_some, not_true, not_false_iff, not_true_eq_false, not_false_eq_true, eq_self, Nat.not_lt_zero, z10, z01, or_true, true_or, or_false, false_or, true_and, false_and]
    have e4 : inb (1870 + nn i) 20360 = true := by simp (disch := first | omega | decide) only [lt1, nnMl, nnMr, nnAl, nnAr, nnA, nnM, nnB, nnT, nnP, nnE, nnEl, nnEr, nnL, nnLl, nnLr, nnQ, nnQr, nnN, Nat.add_zero, if_false, if_true, Option.bind_some, not_true, not_false_iff, not_true_eq_false, not_false_eq_true, eq_self, Nat.not_lt_zero, z10, z01, or_true, true_or, or_false, false_or, true_and, false_and, i1]
    have IH := ih (i + 1) F (by omega) (by omega)
    have IH2 : m_owedTo_4 F0 F (nn n) (ow c Q D i n + ctr (ownS c (nn (i % 168)) (nn (i / 168)) (nn (Q / 96)) D) (c 30 i) (nn n)) (nn (i + 1)) g = some (ow c Q D ((Q + 3) / 4) n) := IH
    unfold m_owedTo_4
    rw [h.aR, e0, e1, e2, e3]
    refine st_f (by rw [nnE (by omega) (by omega)]; exact h2) (st_b (today_m h3 hQ) (st_b (own_m h hQ (nnE0 (by omega)) hF0) ?_))
    rw [h.runs i (by omega)]
    by_cases q1 : ownS c (nn (i % 168)) (nn (i / 168)) (nn (Q / 96)) D = nn n
    · refine st_f (fun e => e q1) (st_t e4 ?_)
      by_cases q2 : c 30 i = nn n
      · refine st_t q2 ?_
        unfold m_owedTo_60
        rw [ctr_e (q1.trans q2.symm)] at IH2
        refine st_t q1 (st_l ?_)
        rw [e2]
        exact IH2
      · refine st_f q2 (st_l ?_)
        rw [ctr_o q1 q2] at IH2
        exact IH2
    · refine st_t q1 ?_
      unfold m_owedTo_60
      rw [e2, e3, h.runs i (by omega)]
      refine st_f q1 (st_t e4 ?_)
      by_cases q2 : c 30 i = nn n
      · refine st_f (fun e => e q2) (st_l ?_)
        rw [ctr_r q1 q2] at IH2
        exact IH2
      · refine st_t q2 (st_l ?_)
        rw [ctr_n q1 q2] at IH2
        exact IH2
theorem owed_m (h : RRig c (g 216) D N Q) (hQ : Q ≤ 9599) (h3 : g 216 3 = nn Q) {n : Nat} (hn : n < 8) {F : Nat} (hF : 2400 < F) : m_owedTo F (nn n) g = some (ow c Q D ((Q + 3) / 4) n) := owedML h hQ h3 hn (by omega) _ 0 F (Nat.zero_add _) (by omega)
end SM
theorem sim_owed {TS : Sg → Prop} (hT : TSf TS) : Sim_owed (RR TS) := by
  intro v1 g hR
  obtain ⟨N, C, Q, D, T, L, G, h⟩ := hR.now
  have hQ := h.net.hQ
  rcases chk v1 7 7 rfl (by decide) with ⟨n, hn, rfl, x1, m1⟩ | ⟨x1, m1⟩
  · have hn8 : n < 8 := by omega
    obtain ⟨o, f, r1, r2⟩ := reckonOwed_y h.rig hQ (s := g) (fun i _ _ => rfl) (F := 201) (by decide)
    have E : ∀ i, i ≠ 201 → i ≠ 207 → sc (sc g 207 f) 201 o i = g i := fun i e1 e2 => by rw [sc_n e1, sc_n e2]
    refine ⟨201, 2401, ow g Q D ((Q + 3) / 4) n, sc (sc g 207 f) 201 o, sc (sc g 207 f) 201 o, ?_, ?_, ?_, rfl⟩
    · unfold x_owed
      refine st_b (holder_of (Or.inr rfl) x1) (st_t (by decide) (st_b r2 (st_t (by simp (disch := first | omega | decide) only [lt1, nnMl, nnMr, nnAl, nnAr, nnA, nnM, nnB, nnT, nnP, nnE, nnEl, nnEr, nnL, nnLl, nnLr, nnQ, nnQr, nnN, Nat.add_zero, if_false, if_true, Option.bind_some, not_true, not_false_iff, not_true_eq_false, not_false_eq_true, eq_self, Nat.not_lt_zero, z10, z01, or_true, true_or, or_false, false_or, true_and, false_and, hn8]) ?_)))
      rw [nnT (by omega), sc_e, r1 n hn8]
    · unfold m_owed
      refine st_b (m1 _) (st_f (by decide) (st_b (owed_m (g := sc (sc g 207 f) 201 o) (c := g) (N := N) (D := D) (Q := Q) ?_ hQ ?_ hn8 (by decide)) rfl))
      · rw [E 216 (by decide) (by decide)]
        exact h.rig
      · rw [E 216 (by decide) (by decide)]
        exact h.net.aQ
    · exact RR.scr hT hR (fun i e1 e2 => E i (by omega) (by omega)) (fun i e1 e2 => E i (by omega) (by omega)) (E 216 (by decide) (by decide)) (E 217 (by decide) (by decide))
  · refine ⟨0, 0, -100000, g, g, ?_, ?_, hR, rfl⟩
    · unfold x_owed
      exact st_b (holder_of (Or.inl rfl) x1) (st_f (by decide) rfl)
    · unfold m_owed
      exact st_b (m1 g) (st_t rfl rfl)
end
section
/-! broken -/
theorem RNet.brkU {c c' : Sg} {a a' : Nat → Int32} {N C Q n : Nat} {v : Int32} (h : RNet c a N C Q) (hn : n < C) (hv : v = 0 ∨ v = 1) (hc : ∀ i, 2 ≤ i → i ≤ 21 → i ≠ 15 → c' i = c i) (e15 : c' 15 = up1 (c 15) n v) (b6 : a' (190 + 7 * n + 6) = v) (ha : ∀ j, iNet j → j ≠ 190 + 7 * n + 6 → a' j = a j) : RNet c' a' N C Q := by
  have hC := h.hC
  have e2 := hc 2 (by decide) (by decide) (by decide)
  have e3 := hc 3 (by decide) (by decide) (by decide)
  have e4 := hc 4 (by decide) (by decide) (by decide)
  have e5 := hc 5 (by decide) (by decide) (by decide)
  have e7 := hc 7 (by decide) (by decide) (by decide)
  have e8 := hc 8 (by decide) (by decide) (by decide)
  have e9 := hc 9 (by decide) (by decide) (by decide)
  have e10 := hc 10 (by decide) (by decide) (by decide)
  have e11 := hc 11 (by decide) (by decide) (by decide)
  have e12 := hc 12 (by decide) (by decide) (by decide)
  have e13 := hc 13 (by decide) (by decide) (by decide)
  have e14 := hc 14 (by decide) (by decide) (by decide)
  have e17 := hc 17 (by decide) (by decide) (by decide)
  have e18 := hc 18 (by decide) (by decide) (by decide)
  have e19 := hc 19 (by decide) (by decide) (by decide)
  have e20 := hc 20 (by decide) (by decide) (by decide)
  have e21 := hc 21 (by decide) (by decide) (by decide)
  have A := ha
  apply RNet.mk
  case hN => exact h.hN
  case hC => exact h.hC
  case hQ => exact h.hQ
  case cN => rw [e2]; exact h.cN
  case aN => rw [A _ (by unfold iNet; omega) (by omega)]; exact h.aN
  case cC => rw [e2]; exact h.cC
  case aC => rw [A _ (by unfold iNet; omega) (by omega)]; exact h.aC
  case cQ => rw [e2]; exact h.cQ
  case aQ => rw [A _ (by unfold iNet; omega) (by omega)]; exact h.aQ
  case kind => intro n hn; rw [A _ (by unfold iNet; omega) (by omega), e3]; exact h.kind n hn
  case size => intro n hn; rw [A _ (by unfold iNet; omega) (by omega), e4]; exact h.size n hn
  case gate => intro n hn; rw [A _ (by unfold iNet; omega) (by omega), e5]; exact h.gate n hn
  case kep0 => intro n hn; rw [A _ (by unfold iNet; omega) (by omega), e7]; exact h.kep0 n hn
  case kep1 => intro n hn; rw [A _ (by unfold iNet; omega) (by omega), e8]; exact h.kep1 n hn
  case frm => intro n hn; rw [A _ (by unfold iNet; omega) (by omega), e9]; exact h.frm n hn
  case to => intro n hn; rw [A _ (by unfold iNet; omega) (by omega), e10]; exact h.to n hn
  case low => intro n hn; rw [A _ (by unfold iNet; omega) (by omega), e11]; exact h.low n hn
  case hig => intro n hn; rw [A _ (by unfold iNet; omega) (by omega), e12]; exact h.hig n hn
  case trv => intro n hn; rw [A _ (by unfold iNet; omega) (by omega), e13]; exact h.trv n hn
  case brd => intro n hn; rw [A _ (by unfold iNet; omega) (by omega), e14]; exact h.brd n hn
  case brk => 
    intro m hm
    rw [e15]
    by_cases e : m = n
    · subst e; rw [up1_eq]; exact b6
    · rw [up1_ne e, A _ (by unfold iNet; omega) (by omega)]; exact h.brk m hm
  case way0 => intro n hn; rw [A _ (by unfold iNet; omega) (by omega), e17]; exact h.way0 n hn
  case way1 => intro n hn; rw [A _ (by unfold iNet; omega) (by omega), e18]; exact h.way1 n hn
  case gateV => rw [e5, e9]; exact h.gateV
  case ends => rw [e9, e10]; exact h.ends
  case lowV => rw [e11]; exact h.lowV
  case higV => rw [e12]; exact h.higV
  case trvV => rw [e13]; exact h.trvV
  case brdV => rw [e14]; exact h.brdV
  case brkV => 
    intro m hm
    rw [e15]
    by_cases e : m = n
    · subst e; rw [up1_eq]; exact hv
    · rw [up1_ne e]; exact h.brkV m hm
  case kindV => rw [e3]; exact h.kindV
  case kepZ => rw [e7, e8]; exact h.kepZ
  case brkZ => intro m hm h9; rw [e15, up1_ne (by omega)]; exact h.brkZ m hm h9
  case wayZ => rw [e17, e18]; exact h.wayZ
  case su00 => rw [A _ (by unfold iNet; omega) (by omega), e3, e7]; exact h.su00
  case su01 => rw [A _ (by unfold iNet; omega) (by omega), e3, e7]; exact h.su01
  case su02 => rw [A _ (by unfold iNet; omega) (by omega), e3, e7]; exact h.su02
  case su03 => rw [A _ (by unfold iNet; omega) (by omega), e17]; exact h.su03
  case su04 => rw [A _ (by unfold iNet; omega) (by omega), e19]; exact h.su04
  case su05 => rw [A _ (by unfold iNet; omega) (by omega), e20]; exact h.su05
  case su06 => rw [A _ (by unfold iNet; omega) (by omega), e21]; exact h.su06
  case su10 => rw [A _ (by unfold iNet; omega) (by omega), e3, e8]; exact h.su10
  case su11 => rw [A _ (by unfold iNet; omega) (by omega), e3, e8]; exact h.su11
  case su12 => rw [A _ (by unfold iNet; omega) (by omega), e3, e8]; exact h.su12
  case su13 => rw [A _ (by unfold iNet; omega) (by omega), e18]; exact h.su13
  case su14 => rw [A _ (by unfold iNet; omega) (by omega), e19]; exact h.su14
  case su15 => rw [A _ (by unfold iNet; omega) (by omega), e20]; exact h.su15
  case su16 => rw [A _ (by unfold iNet; omega) (by omega), e21]; exact h.su16
theorem sum_zero {f f2 : Nat → Int32} {n : Nat} (hn : n < 14) (h1 : ∀ i, n * 9 ≤ i → i < n * 9 + 9 → f2 i = 0) (h2 : ∀ i, i < n * 9 ∨ n * 9 + 9 ≤ i → f2 i = f i) : sumTo f2 126 = sumTo f 126 - sumTo (fun i => f (n * 9 + i)) 9 := by
  have e : 126 = n * 9 + 9 + (117 - n * 9) := by omega
  rw [e, sumTo_add f, sumTo_add f, sumTo_add f2, sumTo_add f2]
  rw [sumTo_congr (f := f2) (f' := f) (n := n * 9) (fun i hi => h2 i (by omega)), sumTo_z (f := fun i => f2 (n * 9 + i)) (fun i hi => h1 _ (by omega) (by omega)), sumTo_congr (f := fun i => f2 (n * 9 + 9 + i)) (f' := fun i => f (n * 9 + 9 + i)) (fun i hi => h2 _ (by omega)), Int32.add_zero, Int32.add_assoc (sumTo f (n * 9)) (sumTo (fun i => f (n * 9 + i)) 9), Int32.add_comm (sumTo (fun i => f (n * 9 + i)) 9), ← Int32.add_assoc, Int32.add_sub_cancel]
theorem RNet.lose0 {c c' : Sg} {a a' : Nat → Int32} {N C Q n : Nat} (h : RNet c a N C Q) (hn : n < C) (hc : ∀ i, 2 ≤ i → i ≤ 21 → i ≠ 17 → i ≠ 21 → c' i = c i) (z1 : ∀ i, n * 9 ≤ i → i < n * 9 + 9 → c' 17 i = 0) (z2 : ∀ i, i < n * 9 ∨ n * 9 + 9 ≤ i → c' 17 i = c 17 i) (e21 : c' 21 = up1 (c 21) 0 (c 21 0 + sumTo (fun i => c 17 (n * 9 + i)) 9)) (b3 : a' 13 = a 13 - sumTo (fun i => a (290 + n * 9 + i)) 9) (b6 : a' 16 = a 16 + sumTo (fun i => a (290 + n * 9 + i)) 9) (y1 : ∀ j, 290 + n * 9 ≤ j → j < 290 + n * 9 + 9 → a' j = 0) (ha : ∀ j, j ≠ 13 → j ≠ 16 → (j < 290 + n * 9 ∨ 290 + n * 9 + 9 ≤ j) → a' j = a j) : RNet c' a' N C Q := by
  have hC := h.hC
  have eS : sumTo (fun i => a (290 + n * 9 + i)) 9 = sumTo (fun i => c 17 (n * 9 + i)) 9 := sumTo_congr (fun i hi => by
    show a (290 + n * 9 + i) = _
    rw [Nat.add_assoc]
    exact h.way0 _ (by omega))
  rw [eS] at b3 b6
  have e2 := hc 2 (by decide) (by decide) (by decide) (by decide)
  have e3 := hc 3 (by decide) (by decide) (by decide) (by decide)
  have e4 := hc 4 (by decide) (by decide) (by decide) (by decide)
  have e5 := hc 5 (by decide) (by decide) (by decide) (by decide)
  have e7 := hc 7 (by decide) (by decide) (by decide) (by decide)
  have e8 := hc 8 (by decide) (by decide) (by decide) (by decide)
  have e9 := hc 9 (by decide) (by decide) (by decide) (by decide)
  have e10 := hc 10 (by decide) (by decide) (by decide) (by decide)
  have e11 := hc 11 (by decide) (by decide) (by decide) (by decide)
  have e12 := hc 12 (by decide) (by decide) (by decide) (by decide)
  have e13 := hc 13 (by decide) (by decide) (by decide) (by decide)
  have e14 := hc 14 (by decide) (by decide) (by decide) (by decide)
  have e15 := hc 15 (by decide) (by decide) (by decide) (by decide)
  have e18 := hc 18 (by decide) (by decide) (by decide) (by decide)
  have e19 := hc 19 (by decide) (by decide) (by decide) (by decide)
  have e20 := hc 20 (by decide) (by decide) (by decide) (by decide)
  have A := ha
  apply RNet.mk
  case hN => exact h.hN
  case hC => exact h.hC
  case hQ => exact h.hQ
  case cN => rw [e2]; exact h.cN
  case aN => rw [A _ (by omega) (by omega) (by omega)]; exact h.aN
  case cC => rw [e2]; exact h.cC
  case aC => rw [A _ (by omega) (by omega) (by omega)]; exact h.aC
  case cQ => rw [e2]; exact h.cQ
  case aQ => rw [A _ (by omega) (by omega) (by omega)]; exact h.aQ
  case kind => intro n hn; rw [A _ (by omega) (by omega) (by omega), e3]; exact h.kind n hn
  case size => intro n hn; rw [A _ (by omega) (by omega) (by omega), e4]; exact h.size n hn
  case gate => intro n hn; rw [A _ (by omega) (by omega) (by omega), e5]; exact h.gate n hn
  case kep0 => intro n hn; rw [A _ (by omega) (by omega) (by omega), e7]; exact h.kep0 n hn
  case kep1 => intro n hn; rw [A _ (by omega) (by omega) (by omega), e8]; exact h.kep1 n hn
  case frm => intro n hn; rw [A _ (by omega) (by omega) (by omega), e9]; exact h.frm n hn
  case to => intro n hn; rw [A _ (by omega) (by omega) (by omega), e10]; exact h.to n hn
  case low => intro n hn; rw [A _ (by omega) (by omega) (by omega), e11]; exact h.low n hn
  case hig => intro n hn; rw [A _ (by omega) (by omega) (by omega), e12]; exact h.hig n hn
  case trv => intro n hn; rw [A _ (by omega) (by omega) (by omega), e13]; exact h.trv n hn
  case brd => intro n hn; rw [A _ (by omega) (by omega) (by omega), e14]; exact h.brd n hn
  case brk => intro n hn; rw [A _ (by omega) (by omega) (by omega), e15]; exact h.brk n hn
  case way0 => 
    intro i hi
    by_cases e : n * 9 ≤ i ∧ i < n * 9 + 9
    · rw [z1 i e.1 e.2, y1 _ (by omega) (by omega)]
    · rw [z2 i (by omega), A _ (by omega) (by omega) (by omega)]
      exact h.way0 i hi
  case way1 => intro i hi; rw [A _ (by omega) (by omega) (by omega), e18]; exact h.way1 i hi
  case gateV => rw [e5, e9]; exact h.gateV
  case ends => rw [e9, e10]; exact h.ends
  case lowV => rw [e11]; exact h.lowV
  case higV => rw [e12]; exact h.higV
  case trvV => rw [e13]; exact h.trvV
  case brdV => rw [e14]; exact h.brdV
  case brkV => rw [e15]; exact h.brkV
  case kindV => rw [e3]; exact h.kindV
  case kepZ => rw [e7, e8]; exact h.kepZ
  case brkZ => rw [e15]; exact h.brkZ
  case wayZ => 
    intro i h1 h2
    rw [z2 i (by omega), e18]
    exact h.wayZ i h1 h2
  case su00 => rw [A _ (by omega) (by omega) (by omega), e3, e7]; exact h.su00
  case su01 => rw [A _ (by omega) (by omega) (by omega), e3, e7]; exact h.su01
  case su02 => rw [A _ (by omega) (by omega) (by omega), e3, e7]; exact h.su02
  case su03 => rw [b3, h.su03]; exact (sum_zero (by omega) z1 z2).symm
  case su04 => rw [A _ (by omega) (by omega) (by omega), e19]; exact h.su04
  case su05 => rw [A _ (by omega) (by omega) (by omega), e20]; exact h.su05
  case su06 => rw [b6, e21, up1_eq, h.su06]
  case su10 => rw [A _ (by omega) (by omega) (by omega), e3, e8]; exact h.su10
  case su11 => rw [A _ (by omega) (by omega) (by omega), e3, e8]; exact h.su11
  case su12 => rw [A _ (by omega) (by omega) (by omega), e3, e8]; exact h.su12
  case su13 => rw [A _ (by omega) (by omega) (by omega), e18]; exact h.su13
  case su14 => rw [A _ (by omega) (by omega) (by omega), e19]; exact h.su14
  case su15 => rw [A _ (by omega) (by omega) (by omega), e20]; exact h.su15
  case su16 => rw [A _ (by omega) (by omega) (by omega), e21, up1_ne (by decide)]; exact h.su16
theorem RNet.lose1 {c c' : Sg} {a a' : Nat → Int32} {N C Q n : Nat} (h : RNet c a N C Q) (hn : n < C) (hc : ∀ i, 2 ≤ i → i ≤ 21 → i ≠ 18 → i ≠ 21 → c' i = c i) (z1 : ∀ i, n * 9 ≤ i → i < n * 9 + 9 → c' 18 i = 0) (z2 : ∀ i, i < n * 9 ∨ n * 9 + 9 ≤ i → c' 18 i = c 18 i) (e21 : c' 21 = up1 (c 21) 1 (c 21 1 + sumTo (fun i => c 18 (n * 9 + i)) 9)) (b3 : a' 20 = a 20 - sumTo (fun i => a (416 + n * 9 + i)) 9) (b6 : a' 23 = a 23 + sumTo (fun i => a (416 + n * 9 + i)) 9) (y1 : ∀ j, 416 + n * 9 ≤ j → j < 416 + n * 9 + 9 → a' j = 0) (ha : ∀ j, j ≠ 20 → j ≠ 23 → (j < 416 + n * 9 ∨ 416 + n * 9 + 9 ≤ j) → a' j = a j) : RNet c' a' N C Q := by
  have hC := h.hC
  have eS : sumTo (fun i => a (416 + n * 9 + i)) 9 = sumTo (fun i => c 18 (n * 9 + i)) 9 := sumTo_congr (fun i hi => by
    show a (416 + n * 9 + i) = _
    rw [Nat.add_assoc]
    exact h.way1 _ (by omega))
  rw [eS] at b3 b6
  have e2 := hc 2 (by decide) (by decide) (by decide) (by decide)
  have e3 := hc 3 (by decide) (by decide) (by decide) (by decide)
  have e4 := hc 4 (by decide) (by decide) (by decide) (by decide)
  have e5 := hc 5 (by decide) (by decide) (by decide) (by decide)
  have e7 := hc 7 (by decide) (by decide) (by decide) (by decide)
  have e8 := hc 8 (by decide) (by decide) (by decide) (by decide)
  have e9 := hc 9 (by decide) (by decide) (by decide) (by decide)
  have e10 := hc 10 (by decide) (by decide) (by decide) (by decide)
  have e11 := hc 11 (by decide) (by decide) (by decide) (by decide)
  have e12 := hc 12 (by decide) (by decide) (by decide) (by decide)
  have e13 := hc 13 (by decide) (by decide) (by decide) (by decide)
  have e14 := hc 14 (by decide) (by decide) (by decide) (by decide)
  have e15 := hc 15 (by decide) (by decide) (by decide) (by decide)
  have e17 := hc 17 (by decide) (by decide) (by decide) (by decide)
  have e19 := hc 19 (by decide) (by decide) (by decide) (by decide)
  have e20 := hc 20 (by decide) (by decide) (by decide) (by decide)
  have A := ha
  apply RNet.mk
  case hN => exact h.hN
  case hC => exact h.hC
  case hQ => exact h.hQ
  case cN => rw [e2]; exact h.cN
  case aN => rw [A _ (by omega) (by omega) (by omega)]; exact h.aN
  case cC => rw [e2]; exact h.cC
  case aC => rw [A _ (by omega) (by omega) (by omega)]; exact h.aC
  case cQ => rw [e2]; exact h.cQ
  case aQ => rw [A _ (by omega) (by omega) (by omega)]; exact h.aQ
  case kind => intro n hn; rw [A _ (by omega) (by omega) (by omega), e3]; exact h.kind n hn
  case size => intro n hn; rw [A _ (by omega) (by omega) (by omega), e4]; exact h.size n hn
  case gate => intro n hn; rw [A _ (by omega) (by omega) (by omega), e5]; exact h.gate n hn
  case kep0 => intro n hn; rw [A _ (by omega) (by omega) (by omega), e7]; exact h.kep0 n hn
  case kep1 => intro n hn; rw [A _ (by omega) (by omega) (by omega), e8]; exact h.kep1 n hn
  case frm => intro n hn; rw [A _ (by omega) (by omega) (by omega), e9]; exact h.frm n hn
  case to => intro n hn; rw [A _ (by omega) (by omega) (by omega), e10]; exact h.to n hn
  case low => intro n hn; rw [A _ (by omega) (by omega) (by omega), e11]; exact h.low n hn
  case hig => intro n hn; rw [A _ (by omega) (by omega) (by omega), e12]; exact h.hig n hn
  case trv => intro n hn; rw [A _ (by omega) (by omega) (by omega), e13]; exact h.trv n hn
  case brd => intro n hn; rw [A _ (by omega) (by omega) (by omega), e14]; exact h.brd n hn
  case brk => intro n hn; rw [A _ (by omega) (by omega) (by omega), e15]; exact h.brk n hn
  case way0 => intro i hi; rw [A _ (by omega) (by omega) (by omega), e17]; exact h.way0 i hi
  case way1 => 
    intro i hi
    by_cases e : n * 9 ≤ i ∧ i < n * 9 + 9
    · rw [z1 i e.1 e.2, y1 _ (by omega) (by omega)]
    · rw [z2 i (by omega), A _ (by omega) (by omega) (by omega)]
      exact h.way1 i hi
  case gateV => rw [e5, e9]; exact h.gateV
  case ends => rw [e9, e10]; exact h.ends
  case lowV => rw [e11]; exact h.lowV
  case higV => rw [e12]; exact h.higV
  case trvV => rw [e13]; exact h.trvV
  case brdV => rw [e14]; exact h.brdV
  case brkV => rw [e15]; exact h.brkV
  case kindV => rw [e3]; exact h.kindV
  case kepZ => rw [e7, e8]; exact h.kepZ
  case brkZ => rw [e15]; exact h.brkZ
  case wayZ => 
    intro i h1 h2
    rw [z2 i (by omega), e17]
    exact h.wayZ i h1 h2
  case su00 => rw [A _ (by omega) (by omega) (by omega), e3, e7]; exact h.su00
  case su01 => rw [A _ (by omega) (by omega) (by omega), e3, e7]; exact h.su01
  case su02 => rw [A _ (by omega) (by omega) (by omega), e3, e7]; exact h.su02
  case su03 => rw [A _ (by omega) (by omega) (by omega), e17]; exact h.su03
  case su04 => rw [A _ (by omega) (by omega) (by omega), e19]; exact h.su04
  case su05 => rw [A _ (by omega) (by omega) (by omega), e20]; exact h.su05
  case su06 => rw [A _ (by omega) (by omega) (by omega), e21, up1_ne (by decide)]; exact h.su06
  case su10 => rw [A _ (by omega) (by omega) (by omega), e3, e8]; exact h.su10
  case su11 => rw [A _ (by omega) (by omega) (by omega), e3, e8]; exact h.su11
  case su12 => rw [A _ (by omega) (by omega) (by omega), e3, e8]; exact h.su12
  case su13 => rw [b3, h.su13]; exact (sum_zero (by omega) z1 z2).symm
  case su14 => rw [A _ (by omega) (by omega) (by omega), e19]; exact h.su14
  case su15 => rw [A _ (by omega) (by omega) (by omega), e20]; exact h.su15
  case su16 => rw [b6, e21, up1_eq, h.su16]
section SN
variable {s : Sg}
theorem zeroL1 {n : Nat} (hn : n < 14) : ∀ m x F f, x + m = 9 → m < F → ∃ f2, net_loseUnderWay_24_2 F (nn n) (nn x) (sc s 18 f) = some (sc s 18 f2) ∧ (∀ i, n * 9 + x ≤ i → i < n * 9 + 9 → f2 i = 0) ∧ ∀ i, i < n * 9 + x ∨ n * 9 + 9 ≤ i → f2 i = f i := by
  intro m
  induction m with
  | zero =>
    intro x F f hx hF
    obtain ⟨F, rfl⟩ : ∃ F2, F = F2 + 1 := ⟨F - 1, by omega⟩
    have : x = 9 := by omega
    subst this
    refine ⟨f, ?_, fun i h1 h2 => absurd h1 (by omega), fun i _ => rfl⟩
    unfold net_loseUnderWay_24_2
    exact if_pos (by decide)
  | succ m ih =>
    intro x F f hx hF
    obtain ⟨F, rfl⟩ : ∃ F2, F = F2 + 1 := ⟨F - 1, by omega⟩
    have h2 : ¬ 9 ≤ x := by omega
    have h1 : n * 9 + x < 126 := by omega
    obtain ⟨f2, r1, r2, r3⟩ := ih (x + 1) F (up1 f (n * 9 + x) 0) (by omega) (by omega)
    refine ⟨f2, ?_, fun i q1 q2 => ?_, fun i q => ?_⟩
    · unfold net_loseUnderWay_24_2
      have e1 : nn n * 9 + nn x = nn (n * 9 + x) := by simp (disch := first | omega | decide) only [lt1, nnMl, nnMr, nnAl, nnAr, nnA, nnM, nnB, nnT, nnP, nnE, nnEl, nnEr, nnL, nnLl, nnLr, nnQ, nnQr, nnN, Nat.add_zero, if_false, if_true, Option.bind_some, not_true, not_false_iff, not_true_eq_false, not_false_eq_true, eq_self, Nat.not_lt_zero, z10, z01, or_true, true_or, or_false, false_or, true_and, false_and]
      rw [e1]
      refine st_f (by simp (disch := first | omega | decide) only [lt1, nnMl, nnMr, nnAl, nnAr, nnA, nnM, nnB, nnT, nnP, nnE, nnEl, nnEr, nnL, nnLl, nnLr, nnQ, nnQr, nnN, Nat.add_zero, if_false, if_true, Option.bind_some, not_true, not_false_iff, not_true_eq_false, not_false_eq_true, eq_self, Nat.not_lt_zero, z10, z01, or_true, true_or, or_false, false_or, true_and, false_and, h2]) (st_w (by simp (disch := first | omega | decide) only [lt1, nnMl, nnMr, nnAl, nnAr, nnA, nnM, nnB, nnT, nnP, nnE, nnEl, nnEr, nnL, nnLl, nnLr, nnQ, nnQr, nnN, Nat.add_zero, if_false, if_true, Option.bind_some, not_true, not_false_iff, not_true_eq_false, not_false_eq_true, eq_self, Nat.not_lt_zero, z10, z01, or_true, true_or, or_false, false_or, true_and, false_and, h1]) ?_)
      rw [nnT (by omega), sc_u, show nn x + 1 = nn (x + 1) from nnA x 1]
      exact r1
    · by_cases e : i = n * 9 + x
      · rw [r3 i (by omega), e, up1_eq]
      · exact r2 i (by omega) q2
    · rw [r3 i (by omega), up1_ne (by omega)]
theorem zeroL0 {n : Nat} (hn : n < 14) {F0 : Nat} : ∀ m x F f, x + m = 9 → m < F → ∃ f2, net_loseUnderWay_24 F0 F (nn n) (nn x) (sc s 17 f) = Option.bind (net_underWay_k1 F0 (nn n) (sc s 17 f2)) (fun x1 => lt1 (up2 (sc s 17 f2) 21 1 (((sc s 17 f2) 21 1) + x1)) (fun g2 => (net_loseUnderWay_24_2 F0 (nn n) 0 g2))) ∧ (∀ i, n * 9 + x ≤ i → i < n * 9 + 9 → f2 i = 0) ∧ ∀ i, i < n * 9 + x ∨ n * 9 + 9 ≤ i → f2 i = f i := by
  intro m
  induction m with
  | zero =>
    intro x F f hx hF
    obtain ⟨F, rfl⟩ : ∃ F2, F = F2 + 1 := ⟨F - 1, by omega⟩
    have : x = 9 := by omega
    subst this
    refine ⟨f, ?_, fun i h1 h2 => absurd h1 (by omega), fun i _ => rfl⟩
    unfold net_loseUnderWay_24
    exact if_pos (by decide)
  | succ m ih =>
    intro x F f hx hF
    obtain ⟨F, rfl⟩ : ∃ F2, F = F2 + 1 := ⟨F - 1, by omega⟩
    have h2 : ¬ 9 ≤ x := by omega
    have h1 : n * 9 + x < 126 := by omega
    obtain ⟨f2, r1, r2, r3⟩ := ih (x + 1) F (up1 f (n * 9 + x) 0) (by omega) (by omega)
    refine ⟨f2, ?_, fun i q1 q2 => ?_, fun i q => ?_⟩
    · unfold net_loseUnderWay_24
      have e1 : nn n * 9 + nn x = nn (n * 9 + x) := by simp (disch := first | omega | decide) only [lt1, nnMl, nnMr, nnAl, nnAr, nnA, nnM, nnB, nnT, nnP, nnE, nnEl, nnEr, nnL, nnLl, nnLr, nnQ, nnQr, nnN, Nat.add_zero, if_false, if_true, Option.bind_some, not_true, not_false_iff, not_true_eq_false, not_false_eq_true, eq_self, Nat.not_lt_zero, z10, z01, or_true, true_or, or_false, false_or, true_and, false_and]
      rw [e1]
      refine st_f (by simp (disch := first | omega | decide) only [lt1, nnMl, nnMr, nnAl, nnAr, nnA, nnM, nnB, nnT, nnP, nnE, nnEl, nnEr, nnL, nnLl, nnLr, nnQ, nnQr, nnN, Nat.add_zero, if_false, if_true, Option.bind_some, not_true, not_false_iff, not_true_eq_false, not_false_eq_true, eq_self, Nat.not_lt_zero, z10, z01, or_true, true_or, or_false, false_or, true_and, false_and, h2]) (st_w (by simp (disch := first | omega | decide) only [lt1, nnMl, nnMr, nnAl, nnAr, nnA, nnM, nnB, nnT, nnP, nnE, nnEl, nnEr, nnL, nnLl, nnLr, nnQ, nnQr, nnN, Nat.add_zero, if_false, if_true, Option.bind_some, not_true, not_false_iff, not_true_eq_false, not_false_eq_true, eq_self, Nat.not_lt_zero, z10, z01, or_true, true_or, or_false, false_or, true_and, false_and, h1]) ?_)
      rw [nnT (by omega), sc_u, show nn x + 1 = nn (x + 1) from nnA x 1]
      exact r1
    · by_cases e : i = n * 9 + x
      · rw [r3 i (by omega), e, up1_eq]
      · exact r2 i (by omega) q2
    · rw [r3 i (by omega), up1_ne (by omega)]
theorem mLose0 {n : Nat} (hn : n < 14) {v2 : Int32} {F0 : Nat} : ∀ m x F (a : Nat → Int32), x + m = 9 → m < F → ∃ a2, m_broken_70 F0 F (nn n) v2 (nn x) (sc s 216 a) = (if v2 = 0 then some (1, sc s 216 a2) else m_broken_70_2 F0 (nn n) v2 0 (sc s 216 a2)) ∧ a2 16 = a 16 + sumTo (fun i => a (290 + n * 9 + x + i)) m ∧ a2 13 = a 13 - sumTo (fun i => a (290 + n * 9 + x + i)) m ∧ (∀ j, 290 + n * 9 + x ≤ j → j < 290 + n * 9 + 9 → a2 j = 0) ∧ (∀ j, j ≠ 13 → j ≠ 16 → (j < 290 + n * 9 + x ∨ 290 + n * 9 + 9 ≤ j) → a2 j = a j) := by
  intro m
  induction m with
  | zero =>
    intro x F a hx hF
    obtain ⟨F, rfl⟩ : ∃ F2, F = F2 + 1 := ⟨F - 1, by omega⟩
    have : x = 9 := by omega
    subst this
    refine ⟨a, ?_, (Int32.add_zero _).symm, (Int32.sub_zero _).symm, fun j h1 h2 => absurd h1 (by omega), fun j _ _ _ => rfl⟩
    unfold m_broken_70
    exact if_pos (by decide)
  | succ m ih =>
    intro x F a hx hF
    obtain ⟨F, rfl⟩ : ∃ F2, F = F2 + 1 := ⟨F - 1, by omega⟩
    have h2 : ¬ 9 ≤ x := by omega
    have h1 : 290 + n * 9 + x < 20360 := by omega
    have h3 : x - x / 9 * 9 = x := by omega
    have e1 : m_wayAt_k0 (nn n) (nn x) (sc s 216 a) = some (nn (290 + n * 9 + x)) := by
      unfold m_wayAt_k0
      rw [show 290 + n * 9 + x = 290 + 9 * (0 + n) + x by omega]
      simp (disch := first | omega | decide) only [lt1, nnMl, nnMr, nnAl, nnAr, nnA, nnM, nnB, nnT, nnP, nnE, nnEl, nnEr, nnL, nnLl, nnLr, nnQ, nnQr, nnN, Nat.add_zero, if_false, if_true, Option.bind_some, not_true, not_false_iff, not_true_eq_false, not_false_eq_true, eq_self, Nat.not_lt_zero, z10, z01, or_true, true_or, or_false, false_or, true_and, false_and, nnDr, nnS, h3]
    have ea : ∀ j, j ≠ 13 → j ≠ 16 → j ≠ 290 + n * 9 + x → up1 (up1 (up1 a 16 (a 16 + a (290 + n * 9 + x))) 13 (a 13 - a (290 + n * 9 + x))) (290 + n * 9 + x) 0 j = a j := fun j p1 p2 p3 => by
      rw [up1_ne p3, up1_ne p1, up1_ne p2]
    have es : sumTo (fun i => up1 (up1 (up1 a 16 (a 16 + a (290 + n * 9 + x))) 13 (a 13 - a (290 + n * 9 + x))) (290 + n * 9 + x) 0 (290 + n * 9 + (x + 1) + i)) m = sumTo (fun i => a (290 + n * 9 + x + (1 + i))) m := sumTo_congr (fun i hi => by
      show up1 _ _ _ _ = a (290 + n * 9 + x + (1 + i))
      rw [show 290 + n * 9 + (x + 1) + i = 290 + n * 9 + x + (1 + i) by omega]
      exact ea _ (by omega) (by omega) (by omega))
    have e9 : sumTo (fun i => a (290 + n * 9 + x + i)) (m + 1) = a (290 + n * 9 + x) + sumTo (fun i => a (290 + n * 9 + x + (1 + i))) m := by
      rw [Nat.add_comm m 1, sumTo_add]
      show 0 + a (290 + n * 9 + x + 0) + _ = _
      rw [Int32.zero_add, Nat.add_zero]
    obtain ⟨a2, r1, r2, r3, r4, r5⟩ := ih (x + 1) F (up1 (up1 (up1 a 16 (a 16 + a (290 + n * 9 + x))) 13 (a 13 - a (290 + n * 9 + x))) (290 + n * 9 + x) 0) (by omega) (by omega)
    rw [es] at r2 r3
    refine ⟨a2, ?_, ?_, ?_, fun j q1 q2 => ?_, fun j p1 p2 q => ?_⟩
    · unfold m_broken_70
      refine st_f (by simp (disch := first | omega | decide) only [lt1, nnMl, nnMr, nnAl, nnAr, nnA, nnM, nnB, nnT, nnP, nnE, nnEl, nnEr, nnL, nnLl, nnLr, nnQ, nnQr, nnN, Nat.add_zero, if_false, if_true, Option.bind_some, not_true, not_false_iff, not_true_eq_false, not_false_eq_true, eq_self, Nat.not_lt_zero, z10, z01, or_true, true_or, or_false, false_or, true_and, false_and, h2]) (st_b e1 (st_w (by simp (disch := first | omega | decide) only [lt1, nnMl, nnMr, nnAl, nnAr, nnA, nnM, nnB, nnT, nnP, nnE, nnEl, nnEr, nnL, nnLl, nnLr, nnQ, nnQr, nnN, Nat.add_zero, if_false, if_true, Option.bind_some, not_true, not_false_iff, not_true_eq_false, not_false_eq_true, eq_self, Nat.not_lt_zero, z10, z01, or_true, true_or, or_false, false_or, true_and, false_and, h1]) (st_w (by simp (disch := first | omega | decide) only [lt1, nnMl, nnMr, nnAl, nnAr, nnA, nnM, nnB, nnT, nnP, nnE, nnEl, nnEr, nnL, nnLl, nnLr, nnQ, nnQr, nnN, Nat.add_zero, if_false, if_true, Option.bind_some, not_true, not_false_iff, not_true_eq_false, not_false_eq_true, eq_self, Nat.not_lt_zero, z10, z01, or_true, true_or, or_false, false_or, true_and, false_and, h1]) (st_w (by simp (disch := first | omega | decide) only [lt1, nnMl, nnMr, nnAl, nnAr, nnA, nnM, nnB, nnT, nnP, nnE, nnEl, nnEr, nnL, nnLl, nnLr, nnQ, nnQr, nnN, Nat.add_zero, if_false, if_true, Option.bind_some, not_true, not_false_iff, not_true_eq_false, not_false_eq_true, eq_self, Nat.not_lt_zero, z10, z01, or_true, true_or, or_false, false_or, true_and, false_and, h1]) ?_))))
      rw [nnT (by omega), sc_e, sc_u, sc_e, sc_u, sc_u, show nn x + 1 = nn (x + 1) from nnA x 1, up1_ne (f := a) (show 13 ≠ 16 by decide), up1_ne (f := a) (show 290 + n * 9 + x ≠ 16 by omega)]
      exact r1
    · rw [r2, up1_ne (by omega), up1_ne (by omega), up1_eq, e9, Int32.add_assoc]
    · rw [r3, up1_ne (by omega), up1_eq, e9, Int32.sub_eq_add_neg, Int32.sub_eq_add_neg, Int32.sub_eq_add_neg, Int32.neg_add, Int32.add_assoc, Int32.sub_eq_add_neg]
    · by_cases e : j = 290 + n * 9 + x
      · rw [r5 j (by omega) (by omega) (by omega), e, up1_eq]
      · exact r4 j (by omega) q2
    · rw [r5 j p1 p2 (by omega)]
      exact ea j p1 p2 (by omega)
theorem mLose1 {n : Nat} (hn : n < 14) {v2 : Int32} {F0 : Nat} : ∀ m x F (a : Nat → Int32), x + m = 9 → m < F → ∃ a2, m_broken_70_2 F (nn n) v2 (nn x) (sc s 216 a) = some (1, sc s 216 a2) ∧ a2 23 = a 23 + sumTo (fun i => a (416 + n * 9 + x + i)) m ∧ a2 20 = a 20 - sumTo (fun i => a (416 + n * 9 + x + i)) m ∧ (∀ j, 416 + n * 9 + x ≤ j → j < 416 + n * 9 + 9 → a2 j = 0) ∧ (∀ j, j ≠ 20 → j ≠ 23 → (j < 416 + n * 9 + x ∨ 416 + n * 9 + 9 ≤ j) → a2 j = a j) := by
  intro m
  induction m with
  | zero =>
    intro x F a hx hF
    obtain ⟨F, rfl⟩ : ∃ F2, F = F2 + 1 := ⟨F - 1, by omega⟩
    have : x = 9 := by omega
    subst this
    refine ⟨a, ?_, (Int32.add_zero _).symm, (Int32.sub_zero _).symm, fun j h1 h2 => absurd h1 (by omega), fun j _ _ _ => rfl⟩
    unfold m_broken_70_2
    exact if_pos (by decide)
  | succ m ih =>
    intro x F a hx hF
    obtain ⟨F, rfl⟩ : ∃ F2, F = F2 + 1 := ⟨F - 1, by omega⟩
    have h2 : ¬ 9 ≤ x := by omega
    have h1 : 416 + n * 9 + x < 20360 := by omega
    have h3 : x - x / 9 * 9 = x := by omega
    have e1 : m_wayAt_k1 (nn n) (nn x) (sc s 216 a) = some (nn (416 + n * 9 + x)) := by
      unfold m_wayAt_k1
      rw [show 416 + n * 9 + x = 290 + 9 * (14 + n) + x by omega]
      simp (disch := first | omega | decide) only [lt1, nnMl, nnMr, nnAl, nnAr, nnA, nnM, nnB, nnT, nnP, nnE, nnEl, nnEr, nnL, nnLl, nnLr, nnQ, nnQr, nnN, Nat.add_zero, if_false, if_true, Option.bind_some, not_true, not_false_iff, not_true_eq_false, not_false_eq_true, eq_self, Nat.not_lt_zero, z10, z01, or_true, true_or, or_false, false_or, true_and, false_and, nnDr, nnS, h3]
    have ea : ∀ j, j ≠ 20 → j ≠ 23 → j ≠ 416 + n * 9 + x → up1 (up1 (up1 a 23 (a 23 + a (416 + n * 9 + x))) 20 (a 20 - a (416 + n * 9 + x))) (416 + n * 9 + x) 0 j = a j := fun j p1 p2 p3 => by
      rw [up1_ne p3, up1_ne p1, up1_ne p2]
    have es : sumTo (fun i => up1 (up1 (up1 a 23 (a 23 + a (416 + n * 9 + x))) 20 (a 20 - a (416 + n * 9 + x))) (416 + n * 9 + x) 0 (416 + n * 9 + (x + 1) + i)) m = sumTo (fun i => a (416 + n * 9 + x + (1 + i))) m := sumTo_congr (fun i hi => by
      show up1 _ _ _ _ = a (416 + n * 9 + x + (1 + i))
      rw [show 416 + n * 9 + (x + 1) + i = 416 + n * 9 + x + (1 + i) by omega]
      exact ea _ (by omega) (by omega) (by omega))
    have e9 : sumTo (fun i => a (416 + n * 9 + x + i)) (m + 1) = a (416 + n * 9 + x) + sumTo (fun i => a (416 + n * 9 + x + (1 + i))) m := by
      rw [Nat.add_comm m 1, sumTo_add]
      show 0 + a (416 + n * 9 + x + 0) + _ = _
      rw [Int32.zero_add, Nat.add_zero]
    obtain ⟨a2, r1, r2, r3, r4, r5⟩ := ih (x + 1) F (up1 (up1 (up1 a 23 (a 23 + a (416 + n * 9 + x))) 20 (a 20 - a (416 + n * 9 + x))) (416 + n * 9 + x) 0) (by omega) (by omega)
    rw [es] at r2 r3
    refine ⟨a2, ?_, ?_, ?_, fun j q1 q2 => ?_, fun j p1 p2 q => ?_⟩
    · unfold m_broken_70_2
      refine st_f (by simp (disch := first | omega | decide) only [lt1, nnMl, nnMr, nnAl, nnAr, nnA, nnM, nnB, nnT, nnP, nnE, nnEl, nnEr, nnL, nnLl, nnLr, nnQ, nnQr, nnN, Nat.add_zero, if_false, if_true, Option.bind_some, not_true, not_false_iff, not_true_eq_false, not_false_eq_true, eq_self, Nat.not_lt_zero, z10, z01, or_true, true_or, or_false, false_or, true_and, false_and, h2]) (st_b e1 (st_w (by simp (disch := first | omega | decide) only [lt1, nnMl, nnMr, nnAl, nnAr, nnA, nnM, nnB, nnT, nnP, nnE, nnEl, nnEr, nnL, nnLl, nnLr, nnQ, nnQr, nnN, Nat.add_zero, if_false, if_true, Option.bind_some, not_true, not_false_iff, not_true_eq_false, not_false_eq_true, eq_self, Nat.not_lt_zero, z10, z01, or_true, true_or, or_false, false_or, true_and, false_and, h1]) (st_w (by simp (disch := first | omega | decide) only [lt1, nnMl, nnMr, nnAl, nnAr, nnA, nnM, nnB, nnT, nnP, nnE, nnEl, nnEr, nnL, nnLl, nnLr, nnQ, nnQr, nnN, Nat.add_zero, if_false, if_true, Option.bind_some, not_true, not_false_iff, not_true_eq_false, not_false_eq_true, eq_self, Nat.not_lt_zero, z10, z01, or_true, true_or, or_false, false_or, true_and, false_and, h1]) (st_w (by simp (disch := first | omega | decide) only [lt1, nnMl, nnMr, nnAl, nnAr, nnA, nnM, nnB, nnT, nnP, nnE, nnEl, nnEr, nnL, nnLl, nnLr, nnQ, nnQr, nnN, Nat.add_zero, if_false, if_true, Option.bind_some, not_true, not_false_iff, not_true_eq_false, not_false_eq_true, eq_self, Nat.not_lt_zero, z10, z01, or_true, true_or, or_false, false_or, true_and, false_and, h1]) ?_))))
      rw [nnT (by omega), sc_e, sc_u, sc_e, sc_u, sc_u, show nn x + 1 = nn (x + 1) from nnA x 1, up1_ne (f := a) (show 20 ≠ 23 by decide), up1_ne (f := a) (show 416 + n * 9 + x ≠ 23 by omega)]
      exact r1
    · rw [r2, up1_ne (by omega), up1_ne (by omega), up1_eq, e9, Int32.add_assoc]
    · rw [r3, up1_ne (by omega), up1_eq, e9, Int32.sub_eq_add_neg, Int32.sub_eq_add_neg, Int32.sub_eq_add_neg, Int32.neg_add, Int32.add_assoc, Int32.sub_eq_add_neg]
    · by_cases e : j = 416 + n * 9 + x
      · rw [r5 j (by omega) (by omega) (by omega), e, up1_eq]
      · exact r4 j (by omega) q2
    · rw [r5 j p1 p2 (by omega)]
      exact ea j p1 p2 (by omega)
end SN
section SO
theorem sim_broken {TS : Sg → Prop} (hT : TSf TS) : Sim_broken (RR TS) := by
  intro v1 v2 g hR hb
  obtain ⟨N, C, Q, D, T, L, G, h⟩ := hR.now
  have hC := h.net.hC
  by_cases hn : ∃ n, n < C ∧ v1 = nn n
  rotate_left
  · refine ⟨0, 0, 0, g, g, ?_, ?_, hR⟩
    · unfold x_broken
      exact st_b (hasChan_n h.net hn) (st_t rfl rfl)
    · unfold m_broken
      exact st_b (isOf1_n h.net hn) (st_t rfl rfl)
  obtain ⟨n, hn, rfl⟩ := hn
  have hn14 : n < 14 := by omega
  have k6 : ∀ g1 : Sg, g1 216 = g 216 → m_channelOf_k6 (nn n) g1 = some (g 15 n) := fun g1 e => (chanOf_y (g := g1) hn14 (k := 6) (by decide)).trans (by rw [e, h.net.brk n hn14])
  have of1 : ∀ g1 : Sg, g1 216 = g 216 → m_isOf_k1 (nn n) g1 = some 1 := fun g1 e1 => by
    rw [← isOf1_y h.net hn]; unfold m_isOf_k1 m_isIn; rw [e1]
  have hbv := h.net.brkV n hn14
  by_cases q : g 15 n = v2
  · refine ⟨0, 0, 0, g, g, ?_, ?_, hR⟩
    · unfold x_broken
      refine st_b (hasChan_y h.net hn) (st_f (by decide) (st_t (by simp (disch := first | omega | decide) only [lt1, nnMl, nnMr, nnAl, nnAr, nnA, nnM, nnB, nnT, nnP, nnE, nnEl, nnEr, nnL, nnLl, nnLr, nnQ, nnQr, nnN, Nat.add_zero, if_false, if_true, Option.bind_some, not_true, not_false_iff, not_true_eq_false, not_false_eq_true, eq_self, Nat.not_lt_zero, z10, z01, or_true, true_or, or_false, false_or, true_and, false_and, hn14]) (st_f ?_ rfl)))
      rw [nnT (by omega)]
      exact fun e => e q
    · unfold m_broken
      refine st_b (of1 g rfl) (st_f (by decide) (st_b (k6 g rfl) ?_))
      unfold m_broken_25
      rw [q]
      rcases hb with rfl | rfl
      · exact st_t (by decide) (st_f (fun e => e rfl) rfl)
      · exact st_f (fun e => e rfl) (st_f (fun e => e rfl) rfl)
  have q2 : ¬ g 15 n = v2 := q
  have ev : v2 &&& 1 = v2 := by rcases hb with rfl | rfl <;> rfl
  have j6 : 190 + 7 * n + 6 < 20360 := by omega
  have e6 : (190 + 7 * nn n + 6 : Int32) = nn (190 + 7 * n + 6) := by simp (disch := first | omega | decide) only [lt1, nnMl, nnMr, nnAl, nnAr, nnA, nnM, nnB, nnT, nnP, nnE, nnEl, nnEr, nnL, nnLl, nnLr, nnQ, nnQr, nnN, Nat.add_zero, if_false, if_true, Option.bind_some, not_true, not_false_iff, not_true_eq_false, not_false_eq_true, eq_self, Nat.not_lt_zero, z10, z01, or_true, true_or, or_false, false_or, true_and, false_and]
  have hR0 := h.net.brkU (c' := up2 g 15 n v2) (a' := up1 (g 216) (190 + 7 * n + 6) v2) hn hb (fun i _ _ e => u2n e) u2e up1_eq (fun j _ e => up1_ne e)
  rcases hb with rfl | rfl
  · have hx : x_broken 0 (nn n) 0 g = some (1, up2 g 15 n 0) := by
      unfold x_broken
      refine st_b (hasChan_y h.net hn) (st_f (by decide) (st_t (by simp (disch := first | omega | decide) only [lt1, nnMl, nnMr, nnAl, nnAr, nnA, nnM, nnB, nnT, nnP, nnE, nnEl, nnEr, nnL, nnLl, nnLr, nnQ, nnQr, nnN, Nat.add_zero, if_false, if_true, Option.bind_some, not_true, not_false_iff, not_true_eq_false, not_false_eq_true, eq_self, Nat.not_lt_zero, z10, z01, or_true, true_or, or_false, false_or, true_and, false_and, hn14]) (st_t (by rw [nnT (by omega)]; exact q2) (st_w (by simp (disch := first | omega | decide) only [lt1, nnMl, nnMr, nnAl, nnAr, nnA, nnM, nnB, nnT, nnP, nnE, nnEl, nnEr, nnL, nnLl, nnLr, nnQ, nnQr, nnN, Nat.add_zero, if_false, if_true, Option.bind_some, not_true, not_false_iff, not_true_eq_false, not_false_eq_true, eq_self, Nat.not_lt_zero, z10, z01, or_true, true_or, or_false, false_or, true_and, false_and, hn14]) (st_t rfl ?_)))))
      rw [ev, nnT (by omega)]
    have hm : m_broken 0 (nn n) 0 (up2 g 15 n 0) = some (1, sc (up2 g 15 n 0) 216 (up1 (g 216) (190 + 7 * n + 6) 0)) := by
      unfold m_broken
      refine st_b (of1 _ (u2n (by decide))) (st_f (by decide) (st_b (k6 _ (u2n (by decide))) ?_))
      unfold m_broken_25 m_broken_55
      rw [hbv.resolve_left q2]
      refine st_f (fun e => e rfl) (st_t (by decide) (st_t rfl ?_))
      rw [e6]
      refine st_w (by simp (disch := first | omega | decide) only [lt1, nnMl, nnMr, nnAl, nnAr, nnA, nnM, nnB, nnT, nnP, nnE, nnEl, nnEr, nnL, nnLl, nnLr, nnQ, nnQr, nnN, Nat.add_zero, if_false, if_true, Option.bind_some, not_true, not_false_iff, not_true_eq_false, not_false_eq_true, eq_self, Nat.not_lt_zero, z10, z01, or_true, true_or, or_false, false_or, true_and, false_and, j6]) (st_t rfl ?_)
      rw [nnT (by omega)]
      congr 2
      have := sc_u (g := up2 g 15 n 0) (a := 216) (i := 190 + 7 * n + 6) (f := g 216) (v := 0)
      rw [← this, show sc (up2 g 15 n 0) 216 (g 216) = up2 g 15 n 0 from (congrArg (sc (up2 g 15 n 0) 216) (u2n (g := g) (a := 15) (b := 216) (by decide)).symm).trans sc_s]
    refine ⟨0, 0, 1, _, _, hx, hm, ?_⟩
    refine RR.put hT hR ⟨N, C, Q, D, T, L, G, ?_, ?_, ?_, ?_⟩ ?_ ?_ ?_ ?_
    · rw [sc_e]; exact hR0.fr (fun i _ _ => sc_n (by omega)) (fun j _ => rfl)
    · exact h.rig.fr (fun i _ _ => by rw [sc_n (by omega), u2n (by omega)]) (fun j hj => by rw [sc_e, up1_ne (by unfold iRig at hj; omega)])
    · exact h.law.fr (fun i _ _ => by rw [sc_n (by omega), u2n (by omega)]) (fun j hj => by rw [sc_e, up1_ne (by unfold iLaw at hj; omega)])
    · exact h.gau.fr (fun i _ _ => by rw [sc_n (by omega), u2n (by omega)]) (fun j hj => by rw [sc_e, up1_ne (by unfold iGau at hj; omega)])
    · exact fun i _ _ => by rw [sc_n (by omega), u2n (by omega)]
    · exact fun j _ => by rw [sc_e, up1_ne (by omega)]
    · rw [sc_n (by omega), u2n (by omega)]
    · exact fun i _ _ => by rw [sc_n (by omega), u2n (by omega)]
  · -- class
    obtain ⟨f0, p1, p2, p3⟩ := zeroL0 (s := up2 (up2 g 15 n 1) 21 0 (g 21 0 + sumTo (fun i => g 17 (n * 9 + i)) 9)) hn14 (F0 := 20) 9 0 20 (g 17) (by omega) (by omega)
    obtain ⟨f1, p4, p5, p6⟩ := zeroL1 (s := up2 (sc (up2 (up2 g 15 n 1) 21 0 (g 21 0 + sumTo (fun i => g 17 (n * 9 + i)) 9)) 17 f0) 21 1 (g 21 1 + sumTo (fun i => g 18 (n * 9 + i)) 9)) hn14 9 0 20 (g 18) (by omega) (by omega)
    rw [Nat.add_zero] at p2 p3 p5 p6
    have hx : x_broken 20 (nn n) 1 g = some (1, sc (up2 (sc (up2 (up2 g 15 n 1) 21 0 (g 21 0 + sumTo (fun i => g 17 (n * 9 + i)) 9)) 17 f0) 21 1 (g 21 1 + sumTo (fun i => g 18 (n * 9 + i)) 9)) 18 f1) := by
      unfold x_broken
      refine st_b (hasChan_y h.net hn) (st_f (by decide) (st_t (by simp (disch := first | omega | decide) only [lt1, nnMl, nnMr, nnAl, nnAr, nnA, nnM, nnB, nnT, nnP, nnE, nnEl, nnEr, nnL, nnLl, nnLr, nnQ, nnQr, nnN, Nat.add_zero, if_false, if_true, Option.bind_some, not_true, not_false_iff, not_true_eq_false, not_false_eq_true, eq_self, Nat.not_lt_zero, z10, z01, or_true, true_or, or_false, false_or, true_and, false_and, hn14]) (st_t (by rw [nnT (by omega)]; exact q2) (st_w (by simp (disch := first | omega | decide) only [lt1, nnMl, nnMr, nnAl, nnAr, nnA, nnM, nnB, nnT, nnP, nnE, nnEl, nnEr, nnL, nnLl, nnLr, nnQ, nnQr, nnN, Nat.add_zero, if_false, if_true, Option.bind_some, not_true, not_false_iff, not_true_eq_false, not_false_eq_true, eq_self, Nat.not_lt_zero, z10, z01, or_true, true_or, or_false, false_or, true_and, false_and, hn14]) (st_f (by decide) (st_b ?_ rfl))))))
      rw [ev, nnT (by omega)]
      unfold net_loseUnderWay
      refine st_b (uw0 hn14 (by decide)) (st_l ?_)
      rw [u2n (show 17 ≠ 15 by decide), u2n (show 21 ≠ 15 by decide)]
      have e17 : sc (up2 (up2 g 15 n 1) 21 0 (g 21 0 + sumTo (fun i => g 17 (n * 9 + i)) 9)) 17 (g 17) = up2 (up2 g 15 n 1) 21 0 (g 21 0 + sumTo (fun i => g 17 (n * 9 + i)) 9) := by
        rw [show g 17 = up2 (up2 g 15 n 1) 21 0 (g 21 0 + sumTo (fun i => g 17 (n * 9 + i)) 9) 17 by rw [u2n (by decide), u2n (by decide)]]
        exact sc_s
      rw [e17] at p1
      refine p1.trans (st_b (uw1 hn14 (by decide)) (st_l ?_))
      rw [sc_n (show 18 ≠ 17 by decide), u2n (show 18 ≠ 21 by decide), u2n (show 18 ≠ 15 by decide), sc_n (show 21 ≠ 17 by decide), u2e, up1_ne (show 1 ≠ 0 by decide), u2n (show 21 ≠ 15 by decide)]
      have e18 : sc (up2 (sc (up2 (up2 g 15 n 1) 21 0 (g 21 0 + sumTo (fun i => g 17 (n * 9 + i)) 9)) 17 f0) 21 1 (g 21 1 + sumTo (fun i => g 18 (n * 9 + i)) 9)) 18 (g 18) = up2 (sc (up2 (up2 g 15 n 1) 21 0 (g 21 0 + sumTo (fun i => g 17 (n * 9 + i)) 9)) 17 f0) 21 1 (g 21 1 + sumTo (fun i => g 18 (n * 9 + i)) 9) := by
        rw [show g 18 = up2 (sc (up2 (up2 g 15 n 1) 21 0 (g 21 0 + sumTo (fun i => g 17 (n * 9 + i)) 9)) 17 f0) 21 1 (g 21 1 + sumTo (fun i => g 18 (n * 9 + i)) 9) 18 by rw [u2n (by decide), sc_n (by decide), u2n (by decide), u2n (by decide)]]
        exact sc_s
      rw [e18] at p4
      exact p4
    generalize hg1 : sc (up2 (sc (up2 (up2 g 15 n 1) 21 0 (g 21 0 + sumTo (fun i => g 17 (n * 9 + i)) 9)) 17 f0) 21 1 (g 21 1 + sumTo (fun i => g 18 (n * 9 + i)) 9)) 18 f1 = g1 at hx
    have E : ∀ i, i ≠ 15 → i ≠ 17 → i ≠ 18 → i ≠ 21 → g1 i = g i := fun i e1 e2 e3 e4 => by
      rw [← hg1, sc_n e3, u2n e4, sc_n e2, u2n e4, u2n e1]
    -- model
    obtain ⟨a2, m1, m2, m3, m4, m5⟩ := mLose0 (s := g1) hn14 (v2 := 1) (F0 := 20) 9 0 20 (up1 (g 216) (190 + 7 * n + 6) 1) (by omega) (by omega)
    obtain ⟨a3, m6, m7, m8, m9, m10⟩ := mLose1 (s := g1) hn14 (v2 := 1) (F0 := 20) 9 0 20 a2 (by omega) (by omega)
    have hm : m_broken 20 (nn n) 1 g1 = some (1, sc g1 216 a3) := by
      have e216 := E 216 (by decide) (by decide) (by decide) (by decide)
      unfold m_broken
      refine st_b (of1 _ e216) (st_f (by decide) (st_b (k6 _ e216) ?_))
      unfold m_broken_25 m_broken_55
      rw [hbv.resolve_right q2]
      refine st_t (by decide) (st_t (by decide) (st_f (by decide) ?_))
      rw [e6]
      refine st_w (by simp (disch := first | omega | decide) only [lt1, nnMl, nnMr, nnAl, nnAr, nnA, nnM, nnB, nnT, nnP, nnE, nnEl, nnEr, nnL, nnLl, nnLr, nnQ, nnQr, nnN, Nat.add_zero, if_false, if_true, Option.bind_some, not_true, not_false_iff, not_true_eq_false, not_false_eq_true, eq_self, Nat.not_lt_zero, z10, z01, or_true, true_or, or_false, false_or, true_and, false_and, j6]) (st_f (by decide) ?_)
      rw [nnT (by omega)]
      have e9 : up2 g1 216 (190 + 7 * n + 6) 1 = sc g1 216 (up1 (g 216) (190 + 7 * n + 6) 1) := by
        rw [← e216, ← sc_u, sc_s]
      rw [e9]
      exact m1.trans ((if_neg (by decide)).trans m6)
    refine ⟨20, 20, 1, _, _, hx, hm, ?_⟩
    have R1 := hR0.lose0 (c' := sc (up2 (up2 g 15 n 1) 21 0 (g 21 0 + sumTo (fun i => g 17 (n * 9 + i)) 9)) 17 f0) (a' := a2) hn (fun i _ _ e1 e2 => by rw [sc_n e1, u2n e2]) (by rw [sc_e]; exact p2) (by rw [sc_e, u2n (by decide)]; exact p3) (by rw [sc_n (by decide), u2e, u2n (show 21 ≠ 15 by decide), u2n (show 17 ≠ 15 by decide)]) m3 m2 m4 m5
    have R2 := R1.lose1 (c' := g1) (a' := a3) hn (fun i _ _ e1 e2 => by rw [← hg1, sc_n e1, u2n e2]) (by rw [← hg1, sc_e]; exact p5) (by rw [← hg1, sc_e, sc_n (by decide), u2n (by decide), u2n (by decide)]; exact p6) (by rw [← hg1, sc_n (by decide), u2e, sc_n (show 21 ≠ 17 by decide), sc_n (show 18 ≠ 17 by decide), u2n (show 18 ≠ 21 by decide), u2n (show 18 ≠ 15 by decide), u2e, up1_ne (show 1 ≠ 0 by decide), u2n (show 21 ≠ 15 by decide)]) m8 m7 m9 m10
    have A3 : ∀ j, j ≠ 13 → j ≠ 16 → j ≠ 20 → j ≠ 23 → (j < 190 ∨ 542 ≤ j) → a3 j = g 216 j := fun j e1 e2 e3 e4 e5 => by
      rw [m10 j e3 e4 (by omega), m5 j e1 e2 (by omega), up1_ne (by omega)]
    refine RR.put hT hR ⟨N, C, Q, D, T, L, G, ?_, ?_, ?_, ?_⟩ ?_ ?_ ?_ ?_
    · rw [sc_e]; exact R2.fr (fun i _ _ => sc_n (by omega)) (fun j _ => rfl)
    · exact h.rig.fr (fun i _ _ => by rw [sc_n (by omega), E i (by omega) (by omega) (by omega) (by omega)]) (fun j hj => by unfold iRig at hj; rw [sc_e, A3 j (by omega) (by omega) (by omega) (by omega) (by omega)])
    · exact h.law.fr (fun i _ _ => by rw [sc_n (by omega), E i (by omega) (by omega) (by omega) (by omega)]) (fun j hj => by unfold iLaw at hj; rw [sc_e, A3 j (by omega) (by omega) (by omega) (by omega) (by omega)])
    · exact h.gau.fr (fun i _ _ => by rw [sc_n (by omega), E i (by omega) (by omega) (by omega) (by omega)]) (fun j hj => by unfold iGau at hj; rw [sc_e, A3 j (by omega) (by omega) (by omega) (by omega) (by omega)])
    · exact fun i _ _ => by rw [sc_n (by omega), E i (by omega) (by omega) (by omega) (by omega)]
    · exact fun j _ => by rw [sc_e, A3 j (by omega) (by omega) (by omega) (by omega) (by omega)]
    · rw [sc_n (by omega), E 217 (by omega) (by omega) (by omega) (by omega)]
    · exact fun i _ _ => by rw [sc_n (by omega), E i (by omega) (by omega) (by omega) (by omega)]
end SO
end
