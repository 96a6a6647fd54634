/-! node and channel -/
theorem sumTo_congr {f f' : Nat → Int32} {n : Nat} (h : ∀ i, i < n → f i = f' i) : sumTo f n = sumTo f' n := by
  induction n with
  | zero => rfl
  | succ n ih =>
    show sumTo f n + f n = sumTo f' n + f' n
    rw [ih (fun i hi => h i (by omega)), h n (by omega)]
theorem st_w {α β : Type} {c : Prop} {d : Decidable c} {x : α} {k : α → Option β} {r : Option β} (hc : c) (h : k x = r) : (@ite _ c d (lt1 x k) none) = r := (if_pos hc).trans h
theorem st_l {α β : Type} {x : α} {k : α → Option β} {r : Option β} (h : k x = r) : lt1 x k = r := h
theorem st_b {α β : Type} {o : Option α} {x : α} {k : α → Option β} {r : Option β} (ho : o = some x) (h : k x = r) : Option.bind o k = r := by rw [ho]; exact h
theorem st_t {β : Type} {c : Prop} {d : Decidable c} {x y r : β} (hc : c) (h : x = r) : (@ite _ c d x y) = r := (if_pos hc).trans h
theorem st_f {β : Type} {c : Prop} {d : Decidable c} {x y r : β} (hc : ¬ c) (h : y = r) : (@ite _ c d x y) = r := (if_neg hc).trans h
theorem maySize_g (k v : Int32) (g g' : Sg) : m_maySize k v g = m_maySize k v g' := rfl
theorem RNet.pushN {c c' : Sg} {a a' : Nat → Int32} {N C Q : Nat} {v0 v1 : Int32} (h : RNet c a N C Q) (hN : N < 10) (wkindV : ∃ k, k ≤ 4 ∧ v0 = nn k) (hc : ∀ i, 2 ≤ i → i ≤ 21 → i ≠ 2 → i ≠ 3 → i ≠ 4 → i ≠ 5 → c' i = c i) (e2 : c' 2 = up1 (c 2) 1 (nn (N + 1))) (e3 : c' 3 = up1 (c 3) N v0) (e4 : c' 4 = up1 (c 4) N v1) (e5 : c' 5 = up1 (c 5) N (-1)) (a0 : a' 0 = nn (N + 1)) (b0 : a' (140 + 5 * N) = v0) (b1 : a' (140 + 5 * N + 1) = v1) (b2 : a' (140 + 5 * N + 2) = -1) (b3 : a' (140 + 5 * N + 3) = 0) (b4 : a' (140 + 5 * N + 4) = 0) (ha : ∀ j, iNet j → j ≠ 0 → j < 140 + 5 * N ∨ 140 + 5 * N + 5 ≤ j → a' j = a j) : RNet c' a' (N + 1) C Q := by
  have e7 := hc 7 (by decide) (by decide) (by decide) (by decide) (by decide) (by decide)
  have e8 := hc 8 (by decide) (by decide) (by decide) (by decide) (by decide) (by decide)
  have e9 := hc 9 (by decide) (by decide) (by decide) (by decide) (by decide) (by decide)
  have e10 := hc 10 (by decide) (by decide) (by decide) (by decide) (by decide) (by decide)
  have e11 := hc 11 (by decide) (by decide) (by decide) (by decide) (by decide) (by decide)
  have e12 := hc 12 (by decide) (by decide) (by decide) (by decide) (by decide) (by decide)
  have e13 := hc 13 (by decide) (by decide) (by decide) (by decide) (by decide) (by decide)
  have e14 := hc 14 (by decide) (by decide) (by decide) (by decide) (by decide) (by decide)
  have e15 := hc 15 (by decide) (by decide) (by decide) (by decide) (by decide) (by decide)
  have e17 := hc 17 (by decide) (by decide) (by decide) (by decide) (by decide) (by decide)
  have e18 := hc 18 (by decide) (by decide) (by decide) (by decide) (by decide) (by decide)
  have e19 := hc 19 (by decide) (by decide) (by decide) (by decide) (by decide) (by decide)
  have e20 := hc 20 (by decide) (by decide) (by decide) (by decide) (by decide) (by decide)
  have e21 := hc 21 (by decide) (by decide) (by decide) (by decide) (by decide) (by decide)
  have A := ha
  apply RNet.mk
  case hN => omega
  case hC => exact h.hC
  case hQ => exact h.hQ
  case cN => rw [e2, up1_eq]
  case aN => exact a0
  case cC => rw [e2, up1_ne (by decide)]; exact h.cC
  case aC => rw [A _ (by unfold iNet; omega) (by omega) (by omega)]; exact h.aC
  case cQ => rw [e2, up1_ne (by decide)]; exact h.cQ
  case aQ => rw [A _ (by unfold iNet; omega) (by omega) (by omega)]; exact h.aQ
  case kind => 
    intro n hn
    rw [e3]
    by_cases e : n = N
    · subst e; rw [up1_eq]; exact b0
    · rw [up1_ne e, A _ (by unfold iNet; omega) (by omega) (by omega)]; exact h.kind n hn
  case size => 
    intro n hn
    rw [e4]
    by_cases e : n = N
    · subst e; rw [up1_eq]; exact b1
    · rw [up1_ne e, A _ (by unfold iNet; omega) (by omega) (by omega)]; exact h.size n hn
  case gate => 
    intro n hn
    rw [e5]
    by_cases e : n = N
    · subst e; rw [up1_eq]; exact b2
    · rw [up1_ne e, A _ (by unfold iNet; omega) (by omega) (by omega)]; exact h.gate n hn
  case kep0 => 
    intro n hn
    rw [e7]
    by_cases e : n = N
    · subst e; rw [b3, (h.kepZ n (Nat.le_refl n) hn).1]
    · rw [A _ (by unfold iNet; omega) (by omega) (by omega)]; exact h.kep0 n hn
  case kep1 => 
    intro n hn
    rw [e8]
    by_cases e : n = N
    · subst e; rw [b4, (h.kepZ n (Nat.le_refl n) hn).2]
    · rw [A _ (by unfold iNet; omega) (by omega) (by omega)]; exact h.kep1 n hn
  case frm => intro n hn; rw [A _ (by unfold iNet; omega) (by omega) (by omega), e9]; exact h.frm n hn
  case to => intro n hn; rw [A _ (by unfold iNet; omega) (by omega) (by omega), e10]; exact h.to n hn
  case low => intro n hn; rw [A _ (by unfold iNet; omega) (by omega) (by omega), e11]; exact h.low n hn
  case hig => intro n hn; rw [A _ (by unfold iNet; omega) (by omega) (by omega), e12]; exact h.hig n hn
  case trv => intro n hn; rw [A _ (by unfold iNet; omega) (by omega) (by omega), e13]; exact h.trv n hn
  case brd => intro n hn; rw [A _ (by unfold iNet; omega) (by omega) (by omega), e14]; exact h.brd n hn
  case brk => intro n hn; rw [A _ (by unfold iNet; omega) (by omega) (by omega), e15]; exact h.brk n hn
  case way0 => intro n hn; rw [A _ (by unfold iNet; omega) (by omega) (by omega), e17]; exact h.way0 n hn
  case way1 => intro n hn; rw [A _ (by unfold iNet; omega) (by omega) (by omega), e18]; exact h.way1 n hn
  case gateV => 
    intro n hn
    rw [e5, e9]
    by_cases e : n = N
    · subst e; rw [up1_eq]; exact Or.inl rfl
    · rw [up1_ne e]; exact h.gateV n (by omega)
  case ends => 
    intro j hj
    rw [e9, e10]
    obtain ⟨f, t, h1, h2, h3⟩ := h.ends j hj
    exact ⟨f, t, h1, by omega, h3⟩
  case lowV => rw [e11]; exact h.lowV
  case higV => rw [e12]; exact h.higV
  case trvV => rw [e13]; exact h.trvV
  case brdV => rw [e14]; exact h.brdV
  case brkV => rw [e15]; exact h.brkV
  case kindV => 
    intro n hn
    rw [e3]
    by_cases e : n = N
    · subst e; rw [up1_eq]; exact wkindV
    · rw [up1_ne e]; exact h.kindV n (by omega)
  case kepZ => intro n hn h9; rw [e7, e8]; exact h.kepZ n (by omega) h9
  case brkZ => rw [e15]; exact h.brkZ
  case wayZ => rw [e17, e18]; exact h.wayZ
  case su00 => 
    rw [A _ (by unfold iNet; omega) (by omega) (by omega), h.su00]
    refine sumTo_congr (fun i hi => ?_)
    rw [e3, e7]
    by_cases e : i = N
    · subst e; rw [up1_eq, (h.kepZ i (Nat.le_refl i) hi).1]; simp only [ite_self]
    · rw [up1_ne e]
  case su01 => 
    rw [A _ (by unfold iNet; omega) (by omega) (by omega), h.su01]
    refine sumTo_congr (fun i hi => ?_)
    rw [e3, e7]
    by_cases e : i = N
    · subst e; rw [up1_eq, (h.kepZ i (Nat.le_refl i) hi).1]; simp only [ite_self]
    · rw [up1_ne e]
  case su02 => 
    rw [A _ (by unfold iNet; omega) (by omega) (by omega), h.su02]
    refine sumTo_congr (fun i hi => ?_)
    rw [e3, e7]
    by_cases e : i = N
    · subst e; rw [up1_eq, (h.kepZ i (Nat.le_refl i) hi).1]; simp only [ite_self]
    · rw [up1_ne e]
  case su03 => rw [A _ (by unfold iNet; omega) (by omega) (by omega), e17]; exact h.su03
  case su04 => rw [A _ (by unfold iNet; omega) (by omega) (by omega), e19]; exact h.su04
  case su05 => rw [A _ (by unfold iNet; omega) (by omega) (by omega), e20]; exact h.su05
  case su06 => rw [A _ (by unfold iNet; omega) (by omega) (by omega), e21]; exact h.su06
  case su10 => 
    rw [A _ (by unfold iNet; omega) (by omega) (by omega), h.su10]
    refine sumTo_congr (fun i hi => ?_)
    rw [e3, e8]
    by_cases e : i = N
    · subst e; rw [up1_eq, (h.kepZ i (Nat.le_refl i) hi).2]; simp only [ite_self]
    · rw [up1_ne e]
  case su11 => 
    rw [A _ (by unfold iNet; omega) (by omega) (by omega), h.su11]
    refine sumTo_congr (fun i hi => ?_)
    rw [e3, e8]
    by_cases e : i = N
    · subst e; rw [up1_eq, (h.kepZ i (Nat.le_refl i) hi).2]; simp only [ite_self]
    · rw [up1_ne e]
  case su12 => 
    rw [A _ (by unfold iNet; omega) (by omega) (by omega), h.su12]
    refine sumTo_congr (fun i hi => ?_)
    rw [e3, e8]
    by_cases e : i = N
    · subst e; rw [up1_eq, (h.kepZ i (Nat.le_refl i) hi).2]; simp only [ite_self]
    · rw [up1_ne e]
  case su13 => rw [A _ (by unfold iNet; omega) (by omega) (by omega), e18]; exact h.su13
  case su14 => rw [A _ (by unfold iNet; omega) (by omega) (by omega), e19]; exact h.su14
  case su15 => rw [A _ (by unfold iNet; omega) (by omega) (by omega), e20]; exact h.su15
  case su16 => rw [A _ (by unfold iNet; omega) (by omega) (by omega), e21]; exact h.su16
theorem RRig.growN {c : Sg} {a : Nat → Int32} {D N Q : Nat} (h : RRig c a D N Q) : RRig c a D (N + 1) Q := by
  apply RRig.mk
  case hD => exact h.hD
  case cD => exact h.cD
  case aD => exact h.aD
  case home => exact h.home
  case homeV => 
    intro k hk
    rcases h.homeV k hk with e | ⟨n, h1, h2⟩
    · exact Or.inl e
    · exact Or.inr ⟨n, by omega, h2⟩
  case d0 => exact h.d0
  case d1 => exact h.d1
  case d2 => exact h.d2
  case d3 => exact h.d3
  case d4 => exact h.d4
  case d5 => exact h.d5
  case dFL => exact h.dFL
  case dW => exact h.dW
  case dS => exact h.dS
  case dY => exact h.dY
  case dV => exact h.dV
  case cR => exact h.cR
  case aR => exact h.aR
  case runs => exact h.runs
  case runV => exact h.runV
section SF
theorem sim_node {TS : Sg → Prop} (hT : TSf TS) : Sim_node (RR TS) := by
  intro v1 v2 g hR
  obtain ⟨N, C, Q, D, T, L, G, h⟩ := hR.now
  have hN := h.net.hN
  by_cases hn : N = 10
  · subst hn
    refine ⟨0, 0, -1, g, g, ?_, ?_, hR⟩
    · unfold x_node
      rw [h.net.cN, if_pos (show (10 : Int32) ≤ nn 10 by decide)]
    · unfold m_node
      rw [h.net.aN, if_pos (show nn 10 = 10 from rfl)]
  have hn1 : ¬ 10 ≤ N := by omega
  have hn2 : N < 10 := by omega
  obtain ⟨b, hb, f1, f2, hk⟩ := fits_eq v1 v2 g g
  rcases hb with rfl | rfl
  · refine ⟨0, 0, -1, g, g, ?_, ?_, hR⟩
    · unfold x_node
      rw [h.net.cN]
      simp (disch := first | omega | decide) only [lt1, nnMl, nnMr, nnAl, nnAr, nnA, nnM, nnB, nnT, nnP, nnE, nnEl, nnEr, nnL, nnLl, nnLr, nnQ, nnQr, nnN, Nat.add_zero, if_false, if_true, Option.bind_some, not_true, not_false_iff, not_true_eq_false, not_false_eq_true, eq_self, Nat.not_lt_zero, z10, z01, or_true, true_or, or_false, false_or, true_and, false_and, f1, hn1]
    · unfold m_node
      rw [h.net.aN]
      simp (disch := first | omega | decide) only [lt1, nnMl, nnMr, nnAl, nnAr, nnA, nnM, nnB, nnT, nnP, nnE, nnEl, nnEr, nnL, nnLl, nnLr, nnQ, nnQr, nnN, Nat.add_zero, if_false, if_true, Option.bind_some, not_true, not_false_iff, not_true_eq_false, not_false_eq_true, eq_self, Nat.not_lt_zero, z10, z01, or_true, true_or, or_false, false_or, true_and, false_and, f2, hn]
  · obtain ⟨k, hk4, rfl⟩ := hk rfl
    have j0 : 140 + 5 * N < 20360 := by omega
    have j1 : 140 + 5 * N + 1 < 20360 := by omega
    have j2 : 140 + 5 * N + 2 < 20360 := by omega
    have j3 : 140 + 5 * N + 3 < 20360 := by omega
    have j4 : 140 + 5 * N + 4 < 20360 := by omega
    have hm : ∀ g1 : Sg, g1 216 = g 216 → m_node (nn k) v2 g1 = some (nn N, up2 (up2 (up2 (up2 (up2 (up2 g1 216 (140 + 5 * N) (nn k)) 216 (140 + 5 * N + 1) v2) 216 (140 + 5 * N + 2) (-1)) 216 (140 + 5 * N + 3) 0) 216 (140 + 5 * N + 4) 0) 216 0 (nn (N + 1))) := by
      intro g1 e1
      unfold m_node
      rw [e1, h.net.aN, maySize_g _ _ g1 g, f2]
      refine st_f (fun e => hn ((nnQ (a := N) (b := 10) (by omega) (by decide)).mp e)) ?_
      refine st_b rfl (st_t (by decide) (st_l ?_))
      have e5 : (140 + 5 * nn N : Int32) = nn (140 + 5 * N) := by simp (disch := first | omega | decide) only [lt1, nnMl, nnMr, nnAl, nnAr, nnA, nnM, nnB, nnT, nnP, nnE, nnEl, nnEr, nnL, nnLl, nnLr, nnQ, nnQr, nnN, Nat.add_zero, if_false, if_true, Option.bind_some, not_true, not_false_iff, not_true_eq_false, not_false_eq_true, eq_self, Nat.not_lt_zero, z10, z01, or_true, true_or, or_false, false_or, true_and, false_and]
      rw [e5]
      refine st_w (by simp (disch := first | omega | decide) only [lt1, nnMl, nnMr, nnAl, nnAr, nnA, nnM, nnB, nnT, nnP, nnE, nnEl, nnEr, nnL, nnLl, nnLr, nnQ, nnQr, nnN, Nat.add_zero, if_false, if_true, Option.bind_some, not_true, not_false_iff, not_true_eq_false, not_false_eq_true, eq_self, Nat.not_lt_zero, z10, z01, or_true, true_or, or_false, false_or, true_and, false_and, j0]) (st_w (by simp (disch := first | omega | decide) only [lt1, nnMl, nnMr, nnAl, nnAr, nnA, nnM, nnB, nnT, nnP, nnE, nnEl, nnEr, nnL, nnLl, nnLr, nnQ, nnQr, nnN, Nat.add_zero, if_false, if_true, Option.bind_some, not_true, not_false_iff, not_true_eq_false, not_false_eq_true, eq_self, Nat.not_lt_zero, z10, z01, or_true, true_or, or_false, false_or, true_and, false_and, j1]) (st_w (by simp (disch := first | omega | decide) only [lt1, nnMl, nnMr, nnAl, nnAr, nnA, nnM, nnB, nnT, nnP, nnE, nnEl, nnEr, nnL, nnLl, nnLr, nnQ, nnQr, nnN, Nat.add_zero, if_false, if_true, Option.bind_some, not_true, not_false_iff, not_true_eq_false, not_false_eq_true, eq_self, Nat.not_lt_zero, z10, z01, or_true, true_or, or_false, false_or, true_and, false_and, j2]) (st_w (by simp (disch := first | omega | decide) only [lt1, nnMl, nnMr, nnAl, nnAr, nnA, nnM, nnB, nnT, nnP, nnE, nnEl, nnEr, nnL, nnLl, nnLr, nnQ, nnQr, nnN, Nat.add_zero, if_false, if_true, Option.bind_some, not_true, not_false_iff, not_true_eq_false, not_false_eq_true, eq_self, Nat.not_lt_zero, z10, z01, or_true, true_or, or_false, false_or, true_and, false_and, j3]) (st_w (by simp (disch := first | omega | decide) only [lt1, nnMl, nnMr, nnAl, nnAr, nnA, nnM, nnB, nnT, nnP, nnE, nnEl, nnEr, nnL, nnLl, nnLr, nnQ, nnQr, nnN, Nat.add_zero, if_false, if_true, Option.bind_some, not_true, not_false_iff, not_true_eq_false, not_false_eq_true, eq_self, Nat.not_lt_zero, z10, z01, or_true, true_or, or_false, false_or, true_and, false_and, j4]) (st_l ?_)))))
      simp (disch := first | omega | decide) only [lt1, nnMl, nnMr, nnAl, nnAr, nnA, nnM, nnB, nnT, nnP, nnE, nnEl, nnEr, nnL, nnLl, nnLr, nnQ, nnQr, nnN, Nat.add_zero, if_false, if_true, Option.bind_some, not_true, not_false_iff, not_true_eq_false, not_false_eq_true, eq_self, Nat.not_lt_zero, z10, z01, or_true, true_or, or_false, false_or, true_and, false_and, u2e, u2n, up1_eq, up1_ne, ne_eq, nnS1, e1, h.net.aN]
    refine ⟨0, 0, nn N, up2 (up2 (up2 (up2 g 3 N (nn k)) 4 N v2) 5 N (-1)) 2 1 (nn (N + 1)), _, ?_, hm _ (by simp (disch := first | omega | decide) only [u2e, u2n, up1_eq, up1_ne, ne_eq]), ?_⟩
    · unfold x_node net_addNode
      simp (disch := first | omega | decide) only [lt1, nnMl, nnMr, nnAl, nnAr, nnA, nnM, nnB, nnT, nnP, nnE, nnEl, nnEr, nnL, nnLl, nnLr, nnQ, nnQr, nnN, Nat.add_zero, if_false, if_true, Option.bind_some, not_true, not_false_iff, not_true_eq_false, not_false_eq_true, eq_self, Nat.not_lt_zero, z10, z01, or_true, true_or, or_false, false_or, true_and, false_and, u2e, u2n, up1_eq, up1_ne, ne_eq, hn1, hn2, f1, h.net.cN]
    · exact RR.put hT hR ⟨N + 1, C, Q, D, T, L, G, h.net.pushN (v1 := v2) hn2 ⟨k, hk4, rfl⟩ (fun i e1 e2 e3 e4 e5 e6 => by simp (disch := first | omega | decide) only [u2e, u2n, up1_eq, up1_ne, ne_eq]) (by simp (disch := first | omega | decide) only [u2e, u2n, up1_eq, up1_ne, ne_eq]) (by simp (disch := first | omega | decide) only [u2e, u2n, up1_eq, up1_ne, ne_eq]) (by simp (disch := first | omega | decide) only [u2e, u2n, up1_eq, up1_ne, ne_eq]) (by simp (disch := first | omega | decide) only [u2e, u2n, up1_eq, up1_ne, ne_eq]) (by simp (disch := first | omega | decide) only [u2e, u2n, up1_eq, up1_ne, ne_eq]) (by simp (disch := first | omega | decide) only [u2e, u2n, up1_eq, up1_ne, ne_eq]) (by simp (disch := first | omega | decide) only [u2e, u2n, up1_eq, up1_ne, ne_eq]) (by simp (disch := first | omega | decide) only [u2e, u2n, up1_eq, up1_ne, ne_eq]) (by simp (disch := first | omega | decide) only [u2e, u2n, up1_eq, up1_ne, ne_eq]) (by simp (disch := first | omega | decide) only [u2e, u2n, up1_eq, up1_ne, ne_eq]) (fun j hj e1 e2 => by simp (disch := first | omega | decide) only [u2e, u2n, up1_eq, up1_ne, ne_eq]), h.rig.growN.fr (fun i e1 e2 => by simp (disch := first | omega | decide) only [u2e, u2n, up1_eq, up1_ne, ne_eq]) (fun j hj => by unfold iRig at hj; simp (disch := first | omega | decide) only [u2e, u2n, up1_eq, up1_ne, ne_eq]), h.law.fr (fun i e1 e2 => by simp (disch := first | omega | decide) only [u2e, u2n, up1_eq, up1_ne, ne_eq]) (fun j hj => by unfold iLaw at hj; simp (disch := first | omega | decide) only [u2e, u2n, up1_eq, up1_ne, ne_eq]), h.gau.fr (fun i e1 e2 => by simp (disch := first | omega | decide) only [u2e, u2n, up1_eq, up1_ne, ne_eq]) (fun j hj => by unfold iGau at hj; simp (disch := first | omega | decide) only [u2e, u2n, up1_eq, up1_ne, ne_eq])⟩ (fun i e1 e2 => by simp (disch := first | omega | decide) only [u2e, u2n, up1_eq, up1_ne, ne_eq]) (fun j e1 => by simp (disch := first | omega | decide) only [u2e, u2n, up1_eq, up1_ne, ne_eq]) (by simp (disch := first | omega | decide) only [u2e, u2n, up1_eq, up1_ne, ne_eq]) (fun i e1 e2 => by simp (disch := first | omega | decide) only [u2e, u2n, up1_eq, up1_ne, ne_eq])
end SF
