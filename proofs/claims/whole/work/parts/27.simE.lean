theorem RRig.push {c c' : Sg} {a a' : Nat → Int32} {D N Q : Nat} {v0 v1 v2 v3 v4 v5 : Int32} (h : RRig c a D N Q) (hD : D < 120) (wdFL : ∃ f l, f ≤ l ∧ l < 168 ∧ v0 = nn f ∧ v1 = nn l) (wdW : ∃ w, w < 8 ∧ v2 = nn w) (wdS : ∃ s, s < 100 ∧ v3 = nn s) (wdY : ∃ y, y ≤ Q / 96 ∧ v4 = nn y) (wdV : v5 = -1 ∨ ∃ z, z ≤ Q / 96 ∧ v5 = nn z) (h22 : c' 22 = up1 (c 22) 1 (nn (D + 1))) (h23 : c' 23 = c 23) (h24 : c' 24 = up1 (c 24) D v0) (h25 : c' 25 = up1 (c 25) D v1) (h26 : c' 26 = up1 (c 26) D v2) (h27 : c' 27 = up1 (c 27) D v3) (h28 : c' 28 = up1 (c 28) D v4) (h29 : c' 29 = up1 (c 29) D v5) (h30 : c' 30 = c 30) (a2 : a' 2 = nn (D + 1)) (b0 : a' (550 + 6 * D) = v0) (b1 : a' (550 + 6 * D + 1) = v1) (b2 : a' (550 + 6 * D + 2) = v2) (b3 : a' (550 + 6 * D + 3) = v3) (b4 : a' (550 + 6 * D + 4) = v4) (b5 : a' (550 + 6 * D + 5) = v5) (ha : ∀ j, iRig j → j ≠ 2 → j < 550 + 6 * D ∨ 550 + 6 * D + 6 ≤ j → a' j = a j) : RRig c' a' (D + 1) N Q := by
  apply RRig.mk
  case hD => omega
  case cD => rw [h22, up1_eq]
  case aD => exact a2
  case home => intro n hn; rw [ha _ (by unfold iRig; omega) (by omega) (by omega), h23]; exact h.home n hn
  case homeV => rw [h23]; exact h.homeV
  case d0 => 
    intro n hn
    rw [h24]
    by_cases e : n = D
    · subst e; rw [up1_eq]; exact b0
    · rw [up1_ne e, ha _ (by unfold iRig; omega) (by omega) (by omega)]; exact h.d0 n hn
  case d1 => 
    intro n hn
    rw [h25]
    by_cases e : n = D
    · subst e; rw [up1_eq]; exact b1
    · rw [up1_ne e, ha _ (by unfold iRig; omega) (by omega) (by omega)]; exact h.d1 n hn
  case d2 => 
    intro n hn
    rw [h26]
    by_cases e : n = D
    · subst e; rw [up1_eq]; exact b2
    · rw [up1_ne e, ha _ (by unfold iRig; omega) (by omega) (by omega)]; exact h.d2 n hn
  case d3 => 
    intro n hn
    rw [h27]
    by_cases e : n = D
    · subst e; rw [up1_eq]; exact b3
    · rw [up1_ne e, ha _ (by unfold iRig; omega) (by omega) (by omega)]; exact h.d3 n hn
  case d4 => 
    intro n hn
    rw [h28]
    by_cases e : n = D
    · subst e; rw [up1_eq]; exact b4
    · rw [up1_ne e, ha _ (by unfold iRig; omega) (by omega) (by omega)]; exact h.d4 n hn
  case d5 => 
    intro n hn
    rw [h29]
    by_cases e : n = D
    · subst e; rw [up1_eq]; exact b5
    · rw [up1_ne e, ha _ (by unfold iRig; omega) (by omega) (by omega)]; exact h.d5 n hn
  case dFL => 
    intro n hn
    rw [h24, h25]
    by_cases e : n = D
    · subst e; rw [up1_eq, up1_eq]; exact wdFL
    · rw [up1_ne e, up1_ne e]; exact h.dFL n (by omega)
  case dW => 
    intro n hn
    rw [h26]
    by_cases e : n = D
    · subst e; rw [up1_eq]; exact wdW
    · rw [up1_ne e]; exact h.dW n (by omega)
  case dS => 
    intro n hn
    rw [h27]
    by_cases e : n = D
    · subst e; rw [up1_eq]; exact wdS
    · rw [up1_ne e]; exact h.dS n (by omega)
  case dY => 
    intro n hn
    rw [h28]
    by_cases e : n = D
    · subst e; rw [up1_eq]; exact wdY
    · rw [up1_ne e]; exact h.dY n (by omega)
  case dV => 
    intro n hn
    rw [h29]
    by_cases e : n = D
    · subst e; rw [up1_eq]; exact wdV
    · rw [up1_ne e]; exact h.dV n (by omega)
  case cR => rw [h22, up1_ne (by decide)]; exact h.cR
  case aR => rw [ha _ (by unfold iRig; omega) (by omega) (by omega)]; exact h.aR
  case runs => intro n hn; rw [ha _ (by unfold iRig; omega) (by omega) (by omega), h30]; exact h.runs n hn
  case runV => rw [h30]; exact h.runV
theorem lt1B {α β : Type} {a : α} {k : α → β} : lt1 a k = k a := rfl
theorem nnS1 (a : Nat) : nn (a + 1) - 1 = nn a := nnS (a := a + 1) (b := 1) (by omega)
theorem week_of {v b : Int32} {g : Sg} (hb : b = 0 ∨ b = 1) (x : ∀ g : Sg, x_within v 0 99 g = some b) : x_isWeek v g = some b := by
  unfold x_isWeek
  rw [x, Option.bind_some, if_pos hb]
theorem holder_of {v b : Int32} {g : Sg} (hb : b = 0 ∨ b = 1) (x : ∀ g : Sg, x_within v 0 7 g = some b) : x_isHolder v g = some b := by
  unfold x_isHolder
  rw [x, Option.bind_some, if_pos hb]
theorem chkB (v : Int32) (a K : Nat) (w : Int32) (hw : w = nn K) (hK : K + 1 < 2147483648) (ha : a ≤ K) : (∃ b, a ≤ b ∧ b ≤ K ∧ v = nn b ∧ (∀ g : Sg, x_within v (nn a) w g = some 1) ∧ ∀ g : Sg, m_isIn v (nn a) w g = some 1) ∨ ((∀ g : Sg, x_within v (nn a) w g = some 0) ∧ ∀ g : Sg, m_isIn v (nn a) w g = some 0) := by
  by_cases h : nn a ≤ v ∧ v ≤ w
  · have h0 : (0 : Int32) ≤ nn a := by rw [show (0 : Int32) = nn 0 from rfl, nnE (by decide) (by omega)]; exact Nat.zero_le _
    obtain ⟨b, hb, rfl⟩ := (rgK (K := K) hK).mp ⟨Int32.le_trans h0 h.1, by rw [← hw]; exact h.2⟩
    have h1 := h.1
    rw [nnE (by omega) (by omega)] at h1
    exact Or.inl ⟨b, h1, by omega, rfl, fun g => by rw [within_eq, if_pos h], fun g => by rw [isIn_eq, if_pos h]⟩
  · exact Or.inr ⟨fun g => by rw [within_eq, if_neg h], fun g => by rw [isIn_eq, if_neg h]⟩
section SE
set_option maxHeartbeats 8000000 in
theorem sim_deed {TS : Sg → Prop} (hT : TSf TS) : Sim_deed (RR TS) := by
  intro v1 v2 v3 v4 g hR
  obtain ⟨N, C, Q, D, T, L, G, h⟩ := hR.now
  have hD := h.rig.hD
  have hQ := h.net.hQ
  by_cases hd : D = 120
  · subst hd
    refine ⟨0, 0, -1, g, g, ?_, ?_, hR⟩
    · unfold x_deed
      rw [h.rig.cD, if_pos (show (120 : Int32) ≤ nn 120 by decide)]
    · unfold m_deed
      rw [h.rig.aD, if_pos (show nn 120 = 120 from rfl)]
  have hd1 : ¬ 120 ≤ D := by omega
  rcases chk v1 167 167 rfl (by decide) with ⟨a, ha, rfl, x1, m1⟩ | ⟨x1, m1⟩
  · rcases chk v3 7 7 rfl (by decide) with ⟨w, hw, rfl, x3, m3⟩ | ⟨x3, m3⟩
    · rcases chk v4 99 99 rfl (by decide) with ⟨s, hs, rfl, x4, m4⟩ | ⟨x4, m4⟩
      · rcases chkB v2 a 167 167 rfl (by decide) ha with ⟨b, hab, hb, rfl, x2, m2⟩ | ⟨x2, m2⟩
        · have hi5 : D < 120 := by omega
          have k1 : ¬ D + 1 ≤ D := by omega
          have j0 : 550 + 6 * D < 20360 := by omega
          have j1 : 550 + 6 * D + 1 < 20360 := by omega
          have j2 : 550 + 6 * D + 2 < 20360 := by omega
          have j3 : 550 + 6 * D + 3 < 20360 := by omega
          have j4 : 550 + 6 * D + 4 < 20360 := by omega
          have j5 : 550 + 6 * D + 5 < 20360 := by omega
          have hm : ∀ g1 : Sg, g1 216 = g 216 → m_deed (nn a) (nn b) (nn w) (nn s) g1 = some (nn D, up2 (up2 (up2 (up2 (up2 (up2 (up2 g1 216 (550 + 6 * D) (nn a)) 216 (550 + 6 * D + 1) (nn b)) 216 (550 + 6 * D + 2) (nn w)) 216 (550 + 6 * D + 3) (nn s)) 216 (550 + 6 * D + 4) (nn (Q / 96))) 216 (550 + 6 * D + 5) (-1)) 216 2 (nn (D + 1))) := by
            intro g1 e1
            unfold m_deed m_today
            rw [e1, h.rig.aD, if_neg (show ¬ nn D = 120 from fun e => hd ((nnQ (a := D) (b := 120) (by omega) (by decide)).mp e)), m1, Option.bind_some, if_neg (show ¬ (1 : Int32) = 0 by decide), m2, Option.bind_some, if_neg (show ¬ (1 : Int32) = 0 by decide), m3, Option.bind_some, if_neg (show ¬ (1 : Int32) = 0 by decide), m4, Option.bind_some, if_pos (show ¬ (1 : Int32) = 0 by decide)]
            have e5 : (550 + 6 * nn D : Int32) = nn (550 + 6 * D) := by simp (disch := first | omega | decide) only [lt1, nnMl, nnMr, nnAl, nnAr, nnA, nnM, nnB, nnT, nnP, nnE, nnEl, nnEr, nnL, nnLl, nnLr, nnQ, nnQr, nnN, Nat.add_zero, if_false, if_true, Option.bind_some, not_true, not_false_iff, not_true_eq_false, not_false_eq_true, eq_self, Nat.not_lt_zero, z10, z01, or_true, true_or, or_false, false_or, true_and, false_and]
            rw [e5]
            refine lt1B.trans ?_
            refine (if_pos (by simp (disch := first | omega | decide) only [lt1, nnMl, nnMr, nnAl, nnAr, nnA, nnM, nnB, nnT, nnP, nnE, nnEl, nnEr, nnL, nnLl, nnLr, nnQ, nnQr, nnN, Nat.add_zero, if_false, if_true, Option.bind_some, not_true, not_false_iff, not_true_eq_false, not_false_eq_true, eq_self, Nat.not_lt_zero, z10, z01, or_true, true_or, or_false, false_or, true_and, false_and, j0])).trans ?_
            refine lt1B.trans ?_
            refine (if_pos (by simp (disch := first | omega | decide) only [lt1, nnMl, nnMr, nnAl, nnAr, nnA, nnM, nnB, nnT, nnP, nnE, nnEl, nnEr, nnL, nnLl, nnLr, nnQ, nnQr, nnN, Nat.add_zero, if_false, if_true, Option.bind_some, not_true, not_false_iff, not_true_eq_false, not_false_eq_true, eq_self, Nat.not_lt_zero, z10, z01, or_true, true_or, or_false, false_or, true_and, false_and, j1])).trans ?_
            refine lt1B.trans ?_
            refine (if_pos (by simp (disch := first | omega | decide) only [lt1, nnMl, nnMr, nnAl, nnAr, nnA, nnM, nnB, nnT, nnP, nnE, nnEl, nnEr, nnL, nnLl, nnLr, nnQ, nnQr, nnN, Nat.add_zero, if_false, if_true, Option.bind_some, not_true, not_false_iff, not_true_eq_false, not_false_eq_true, eq_self, Nat.not_lt_zero, z10, z01, or_true, true_or, or_false, false_or, true_and, false_and, j2])).trans ?_
            refine lt1B.trans ?_
            refine (if_pos (by simp (disch := first | omega | decide) only [lt1, nnMl, nnMr, nnAl, nnAr, nnA, nnM, nnB, nnT, nnP, nnE, nnEl, nnEr, nnL, nnLl, nnLr, nnQ, nnQr, nnN, Nat.add_zero, if_false, if_true, Option.bind_some, not_true, not_false_iff, not_true_eq_false, not_false_eq_true, eq_self, Nat.not_lt_zero, z10, z01, or_true, true_or, or_false, false_or, true_and, false_and, j3])).trans ?_
            refine lt1B.trans ?_
            simp (disch := first | omega | decide) only [lt1, nnMl, nnMr, nnAl, nnAr, nnA, nnM, nnB, nnT, nnP, nnE, nnEl, nnEr, nnL, nnLl, nnLr, nnQ, nnQr, nnN, Nat.add_zero, if_false, if_true, Option.bind_some, not_true, not_false_iff, not_true_eq_false, not_false_eq_true, eq_self, Nat.not_lt_zero, z10, z01, or_true, true_or, or_false, false_or, true_and, false_and, j4, j5, nnDr, nnS1, u2n, u2e, up1_eq, up1_ne, ne_eq, nnT, e1, h.rig.aD, h.net.aQ]
          refine ⟨0, 0, nn D, up2 (up2 (up2 (up2 (up2 (up2 (up2 g 24 D (nn a)) 25 D (nn b)) 22 1 (nn (D + 1))) 26 D (nn w)) 27 D (nn s)) 28 D (nn (Q / 96))) 29 D (-1), up2 (up2 (up2 (up2 (up2 (up2 (up2 (up2 (up2 (up2 (up2 (up2 (up2 (up2 g 24 D (nn a)) 25 D (nn b)) 22 1 (nn (D + 1))) 26 D (nn w)) 27 D (nn s)) 28 D (nn (Q / 96))) 29 D (-1)) 216 (550 + 6 * D) (nn a)) 216 (550 + 6 * D + 1) (nn b)) 216 (550 + 6 * D + 2) (nn w)) 216 (550 + 6 * D + 3) (nn s)) 216 (550 + 6 * D + 4) (nn (Q / 96))) 216 (550 + 6 * D + 5) (-1)) 216 2 (nn (D + 1)), ?_, hm _ (by simp (disch := first | omega | decide) only [u2e, u2n, up1_eq, up1_ne, ne_eq]), ?_⟩
          · unfold x_deed rights_addDeed x_isHolder x_isWeek rights_hasDeed x_today
            simp (disch := first | omega | decide) only [lt1, nnMl, nnMr, nnAl, nnAr, nnA, nnM, nnB, nnT, nnP, nnE, nnEl, nnEr, nnL, nnLl, nnLr, nnQ, nnQr, nnN, Nat.add_zero, if_false, if_true, Option.bind_some, not_true, not_false_iff, not_true_eq_false, not_false_eq_true, eq_self, Nat.not_lt_zero, z10, z01, or_true, true_or, or_false, false_or, true_and, false_and, hd1, hi5, x1, x2, x3, x4, k1, nnDr, u2n, u2e, up1_eq, up1_ne, ne_eq, h.rig.cD, h.net.cQ]
          · exact RR.put hT hR ⟨N, C, Q, D + 1, T, L, G, h.net.fr (fun i e1 e2 => by simp (disch := first | omega | decide) only [u2e, u2n, up1_eq, up1_ne, ne_eq]) (fun j hj => by unfold iNet at hj; simp (disch := first | omega | decide) only [u2e, u2n, up1_eq, up1_ne, ne_eq]), h.rig.push hi5 ⟨a, b, hab, by omega, rfl, rfl⟩ ⟨w, by omega, rfl⟩ ⟨s, by omega, rfl⟩ ⟨Q / 96, Nat.le_refl _, rfl⟩ (Or.inl rfl) (by simp (disch := first | omega | decide) only [u2e, u2n, up1_eq, up1_ne, ne_eq]) (by simp (disch := first | omega | decide) only [u2e, u2n, up1_eq, up1_ne, ne_eq]) (by simp (disch := first | omega | decide) only [u2e, u2n, up1_eq, up1_ne, ne_eq]) (by simp (disch := first | omega | decide) only [u2e, u2n, up1_eq, up1_ne, ne_eq]) (by simp (disch := first | omega | decide) only [u2e, u2n, up1_eq, up1_ne, ne_eq]) (by simp (disch := first | omega | decide) only [u2e, u2n, up1_eq, up1_ne, ne_eq]) (by simp (disch := first | omega | decide) only [u2e, u2n, up1_eq, up1_ne, ne_eq]) (by simp (disch := first | omega | decide) only [u2e, u2n, up1_eq, up1_ne, ne_eq]) (by simp (disch := first | omega | decide) only [u2e, u2n, up1_eq, up1_ne, ne_eq]) (by simp (disch := first | omega | decide) only [u2e, u2n, up1_eq, up1_ne, ne_eq]) (by simp (disch := first | omega | decide) only [u2e, u2n, up1_eq, up1_ne, ne_eq]) (by simp (disch := first | omega | decide) only [u2e, u2n, up1_eq, up1_ne, ne_eq]) (by simp (disch := first | omega | decide) only [u2e, u2n, up1_eq, up1_ne, ne_eq]) (by simp (disch := first | omega | decide) only [u2e, u2n, up1_eq, up1_ne, ne_eq]) (by simp (disch := first | omega | decide) only [u2e, u2n, up1_eq, up1_ne, ne_eq]) (by simp (disch := first | omega | decide) only [u2e, u2n, up1_eq, up1_ne, ne_eq]) (fun j hj e2 e3 => by unfold iRig at hj; simp (disch := first | omega | decide) only [u2e, u2n, up1_eq, up1_ne, ne_eq]), h.law.fr (fun i e1 e2 => by simp (disch := first | omega | decide) only [u2e, u2n, up1_eq, up1_ne, ne_eq]) (fun j hj => by unfold iLaw at hj; simp (disch := first | omega | decide) only [u2e, u2n, up1_eq, up1_ne, ne_eq]), h.gau.fr (fun i e1 e2 => by simp (disch := first | omega | decide) only [u2e, u2n, up1_eq, up1_ne, ne_eq]) (fun j hj => by unfold iGau at hj; simp (disch := first | omega | decide) only [u2e, u2n, up1_eq, up1_ne, ne_eq])⟩ (fun i e1 e2 => by simp (disch := first | omega | decide) only [u2e, u2n, up1_eq, up1_ne, ne_eq]) (fun j hj => by simp (disch := first | omega | decide) only [u2e, u2n, up1_eq, up1_ne, ne_eq]) (by simp (disch := first | omega | decide) only [u2e, u2n, up1_eq, up1_ne, ne_eq]) (fun i e1 e2 => by simp (disch := first | omega | decide) only [u2e, u2n, up1_eq, up1_ne, ne_eq])
        · refine ⟨0, 0, -1, g, g, ?_, ?_, hR⟩
          · unfold x_deed x_isHolder x_isWeek
            rw [h.rig.cD]
            simp (disch := first | omega | decide) only [lt1, nnMl, nnMr, nnAl, nnAr, nnA, nnM, nnB, nnT, nnP, nnE, nnEl, nnEr, nnL, nnLl, nnLr, nnQ, nnQr, nnN, Nat.add_zero, if_false, if_true, Option.bind_some, not_true, not_false_iff, not_true_eq_false, not_false_eq_true, eq_self, Nat.not_lt_zero, z10, z01, or_true, true_or, or_false, false_or, true_and, false_and, hd1, x1, x2, x3, x4]
          · unfold m_deed
            rw [h.rig.aD, if_neg (show ¬ nn D = 120 from fun e => hd ((nnQ (a := D) (b := 120) (by omega) (by decide)).mp e)), m1, Option.bind_some, if_neg (show ¬ (1 : Int32) = 0 by decide), m2, Option.bind_some, if_pos rfl]
      · rcases chkB v2 a 167 167 rfl (by decide) ha with ⟨b, hab, hb, rfl, x2, m2⟩ | ⟨x2, m2⟩
        · refine ⟨0, 0, -1, g, g, ?_, ?_, hR⟩
          · unfold x_deed x_isHolder x_isWeek
            rw [h.rig.cD]
            simp (disch := first | omega | decide) only [lt1, nnMl, nnMr, nnAl, nnAr, nnA, nnM, nnB, nnT, nnP, nnE, nnEl, nnEr, nnL, nnLl, nnLr, nnQ, nnQr, nnN, Nat.add_zero, if_false, if_true, Option.bind_some, not_true, not_false_iff, not_true_eq_false, not_false_eq_true, eq_self, Nat.not_lt_zero, z10, z01, or_true, true_or, or_false, false_or, true_and, false_and, hd1, x1, x2, x3, x4]
          · unfold m_deed
            rw [h.rig.aD, if_neg (show ¬ nn D = 120 from fun e => hd ((nnQ (a := D) (b := 120) (by omega) (by decide)).mp e)), m1, Option.bind_some, if_neg (show ¬ (1 : Int32) = 0 by decide), m2, Option.bind_some, if_neg (show ¬ (1 : Int32) = 0 by decide), m3, Option.bind_some, if_neg (show ¬ (1 : Int32) = 0 by decide), m4, Option.bind_some, if_neg (show ¬ ¬ (0 : Int32) = 0 from not_not_intro rfl)]
        · refine ⟨0, 0, -1, g, g, ?_, ?_, hR⟩
          · unfold x_deed x_isHolder x_isWeek
            rw [h.rig.cD]
            simp (disch := first | omega | decide) only [lt1, nnMl, nnMr, nnAl, nnAr, nnA, nnM, nnB, nnT, nnP, nnE, nnEl, nnEr, nnL, nnLl, nnLr, nnQ, nnQr, nnN, Nat.add_zero, if_false, if_true, Option.bind_some, not_true, not_false_iff, not_true_eq_false, not_false_eq_true, eq_self, Nat.not_lt_zero, z10, z01, or_true, true_or, or_false, false_or, true_and, false_and, hd1, x1, x2, x3, x4]
          · unfold m_deed
            rw [h.rig.aD, if_neg (show ¬ nn D = 120 from fun e => hd ((nnQ (a := D) (b := 120) (by omega) (by decide)).mp e)), m1, Option.bind_some, if_neg (show ¬ (1 : Int32) = 0 by decide), m2, Option.bind_some, if_pos rfl]
    · rcases chkB v2 a 167 167 rfl (by decide) ha with ⟨b, hab, hb, rfl, x2, m2⟩ | ⟨x2, m2⟩
      · refine ⟨0, 0, -1, g, g, ?_, ?_, hR⟩
        · unfold x_deed x_isHolder x_isWeek
          rw [h.rig.cD]
          simp (disch := first | omega | decide) only [lt1, nnMl, nnMr, nnAl, nnAr, nnA, nnM, nnB, nnT, nnP, nnE, nnEl, nnEr, nnL, nnLl, nnLr, nnQ, nnQr, nnN, Nat.add_zero, if_false, if_true, Option.bind_some, not_true, not_false_iff, not_true_eq_false, not_false_eq_true, eq_self, Nat.not_lt_zero, z10, z01, or_true, true_or, or_false, false_or, true_and, false_and, hd1, x1, x2, x3]
        · unfold m_deed
          rw [h.rig.aD, if_neg (show ¬ nn D = 120 from fun e => hd ((nnQ (a := D) (b := 120) (by omega) (by decide)).mp e)), m1, Option.bind_some, if_neg (show ¬ (1 : Int32) = 0 by decide), m2, Option.bind_some, if_neg (show ¬ (1 : Int32) = 0 by decide), m3, Option.bind_some, if_pos rfl]
      · refine ⟨0, 0, -1, g, g, ?_, ?_, hR⟩
        · unfold x_deed x_isHolder x_isWeek
          rw [h.rig.cD]
          simp (disch := first | omega | decide) only [lt1, nnMl, nnMr, nnAl, nnAr, nnA, nnM, nnB, nnT, nnP, nnE, nnEl, nnEr, nnL, nnLl, nnLr, nnQ, nnQr, nnN, Nat.add_zero, if_false, if_true, Option.bind_some, not_true, not_false_iff, not_true_eq_false, not_false_eq_true, eq_self, Nat.not_lt_zero, z10, z01, or_true, true_or, or_false, false_or, true_and, false_and, hd1, x1, x2, x3]
        · unfold m_deed
          rw [h.rig.aD, if_neg (show ¬ nn D = 120 from fun e => hd ((nnQ (a := D) (b := 120) (by omega) (by decide)).mp e)), m1, Option.bind_some, if_neg (show ¬ (1 : Int32) = 0 by decide), m2, Option.bind_some, if_pos rfl]
  · rcases chk v3 7 7 rfl (by decide) with ⟨w, hw, rfl, x3, m3⟩ | ⟨x3, m3⟩
    · rcases chk v4 99 99 rfl (by decide) with ⟨s, hs, rfl, x4, m4⟩ | ⟨x4, m4⟩
      · refine ⟨0, 0, -1, g, g, ?_, ?_, hR⟩
        · unfold x_deed
          rw [h.rig.cD, if_neg (show ¬ (120 : Int32) ≤ nn D from fun e => hd1 ((nnE (a := 120) (b := D) (by decide) (by omega)).mp e)), holder_of (Or.inr rfl) x3, Option.bind_some, if_neg (show ¬ (1 : Int32) = 0 by decide), week_of (Or.inr rfl) x4, Option.bind_some, if_pos (show ¬ (1 : Int32) = 0 by decide), x1, Option.bind_some, if_pos rfl]
        · unfold m_deed
          rw [h.rig.aD, if_neg (show ¬ nn D = 120 from fun e => hd ((nnQ (a := D) (b := 120) (by omega) (by decide)).mp e)), m1, Option.bind_some, if_pos rfl]
      · refine ⟨0, 0, -1, g, g, ?_, ?_, hR⟩
        · unfold x_deed
          rw [h.rig.cD, if_neg (show ¬ (120 : Int32) ≤ nn D from fun e => hd1 ((nnE (a := 120) (b := D) (by decide) (by omega)).mp e)), holder_of (Or.inr rfl) x3, Option.bind_some, if_neg (show ¬ (1 : Int32) = 0 by decide), week_of (Or.inl rfl) x4, Option.bind_some, if_neg (show ¬ ¬ (0 : Int32) = 0 from not_not_intro rfl)]
        · unfold m_deed
          rw [h.rig.aD, if_neg (show ¬ nn D = 120 from fun e => hd ((nnQ (a := D) (b := 120) (by omega) (by decide)).mp e)), m1, Option.bind_some, if_pos rfl]
    · refine ⟨0, 0, -1, g, g, ?_, ?_, hR⟩
      · unfold x_deed
        rw [h.rig.cD, if_neg (show ¬ (120 : Int32) ≤ nn D from fun e => hd1 ((nnE (a := 120) (b := D) (by decide) (by omega)).mp e)), holder_of (Or.inl rfl) x3, Option.bind_some, if_pos rfl]
      · unfold m_deed
        rw [h.rig.aD, if_neg (show ¬ nn D = 120 from fun e => hd ((nnQ (a := D) (b := 120) (by omega) (by decide)).mp e)), m1, Option.bind_some, if_pos rfl]
end SE
