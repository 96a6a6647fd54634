/-! a quarter -/
section WF
variable {N C Q : Nat}
theorem node_y0 {g M : Sg} {v : Nat} (h0 : RNet g (M 216) N C Q) (hv : v < N) {F G : Nat} (hF : 14 < F) (hG : 14 < G) : ∃ g2 M2, net_passNode_k0 F (nn v) g = some g2 ∧ m_steps_k0 G (nn v) M = some M2 ∧ RNet g2 (M2 216) N C Q ∧ FrG g g2 ∧ FrM M M2 := by
  have hC := h0.hC
  have hN := h0.hN
  have hv10 : v < 10 := by omega
  obtain ⟨x, f2, a2, p1, p2, p3, p4, p5, p6, p7⟩ := arr_y0 h0 (v := v) C 0 F G 0 (g 17) (M 216) (by omega) (by omega) (by omega) (fun _ _ _ => rfl) rfl h0.way0
  rw [sc_s] at p1 p2
  have h : RNet (sc g 17 f2) ((sc M 216 a2) 216) N C Q := by
    rw [sc_e]
    exact h0.arr0 (x := x) (fun i e1 e2 e3 => sc_n e3) (fun i hi => by rw [sc_e]; exact p5 i hi) (fun i e => by rw [sc_e]; exact p6 i e) (by rw [sc_e, p7, Int32.add_zero]) p4 (fun j _ e2 e3 => p3 j e2 e3)
  have f1 : FrG g (sc g 17 f2) := fun i e1 e2 e3 e4 e5 e6 e7 => sc_n (by omega)
  have f2' : FrM M (sc M 216 a2) := ⟨fun i e => sc_n e, fun j e => by rw [sc_e]; exact p3 j (by unfold iNet at e; omega) (by unfold iNet at e; omega)⟩
  have i0 : 140 + 5 * v < 20360 := by omega
  have i1 : 140 + 5 * v + 1 < 20360 := by omega
  have i3 : 140 + 5 * v + 3 < 20360 := by omega
  have e0 : 140 + 5 * nn v = nn (140 + 5 * v) := by simp (disch := first | omega | decide) only [lt1, nnMl, nnMr, nnAl, nnAr, nnA, nnM, nnB, nnT, nnP, nnE, nnEl, nnEr, nnL, nnLl, nnLr, nnQ, nnQr, nnN, Nat.add_zero, if_false, if_true, Option.bind_some, not_true, not_false_iff, not_true_eq_false, not_false_eq_true, eq_self, Nat.not_lt_zero, z10, z01, or_true, true_or, or_false, false_or, true_and, false_and]
  have e1 : nn (140 + 5 * v) + 1 = nn (140 + 5 * v + 1) := nnA _ 1
  have e3 : nn (140 + 5 * v) + 3 + 0 = nn (140 + 5 * v + 3) := by simp (disch := first | omega | decide) only [lt1, nnMl, nnMr, nnAl, nnAr, nnA, nnM, nnB, nnT, nnP, nnE, nnEl, nnEr, nnL, nnLl, nnLr, nnQ, nnQr, nnN, Nat.add_zero, if_false, if_true, Option.bind_some, not_true, not_false_iff, not_true_eq_false, not_false_eq_true, eq_self, Nat.not_lt_zero, z10, z01, or_true, true_or, or_false, false_or, true_and, false_and]
  generalize sc g 17 f2 = g1 at *
  generalize sc M 216 a2 = M1 at *
  obtain ⟨k, k4, hk⟩ := h.kindV v hv
  have hkM : M1 216 (140 + 5 * v) = nn k := (h.kind v hv10).trans hk
  have hsz : M1 216 (140 + 5 * v + 1) = g1 4 v := h.size v hv10
  have hkp : M1 216 (140 + 5 * v + 3) = g1 7 v := h.kep0 v hv10
  -- the model behind the arrivals
  have mm : ∀ r, (if ¬ nn k = 0 then m_steps_k0_65 (nn (140 + 5 * v)) x M1 else m_steps_k0_65 (nn (140 + 5 * v)) (x + g1 4 v) (up2 (up2 M1 216 10 (M1 216 10 + g1 4 v)) 216 (140 + 5 * v + 3) (g1 7 v + g1 4 v))) = r → m_steps_k0 G (nn v) M = r := fun r hr => by
    unfold m_steps_k0 m_adds_k0_0
    rw [e0]
    refine st_l (st_b (o := m_comes_k0 G (nn v) M) (x := (x, M1)) p2 (st_t (by simp (disch := first | omega | decide) only [lt1, nnMl, nnMr, nnAl, nnAr, nnA, nnM, nnB, nnT, nnP, nnE, nnEl, nnEr, nnL, nnLl, nnLr, nnQ, nnQr, nnN, Nat.add_zero, if_false, if_true, Option.bind_some, not_true, not_false_iff, not_true_eq_false, not_false_eq_true, eq_self, Nat.not_lt_zero, z10, z01, or_true, true_or, or_false, false_or, true_and, false_and, i0]) ?_))
    rw [e1, e3, nnT (show 140 + 5 * v < 2147483648 by omega), nnT (show 140 + 5 * v + 1 < 2147483648 by omega), nnT (show 140 + 5 * v + 3 < 2147483648 by omega), hkM, hsz, ← hr]
    by_cases q : nn k = 0
    · refine Eq.trans ?_ (if_neg (fun e => e q)).symm
      refine st_f (fun e => e q) ?_
      refine st_t (by simp (disch := first | omega | decide) only [lt1, nnMl, nnMr, nnAl, nnAr, nnA, nnM, nnB, nnT, nnP, nnE, nnEl, nnEr, nnL, nnLl, nnLr, nnQ, nnQr, nnN, Nat.add_zero, if_false, if_true, Option.bind_some, not_true, not_false_iff, not_true_eq_false, not_false_eq_true, eq_self, Nat.not_lt_zero, z10, z01, or_true, true_or, or_false, false_or, true_and, false_and, i1]) (st_b (st_l rfl) (st_l (st_t (by simp (disch := first | omega | decide) only [lt1, nnMl, nnMr, nnAl, nnAr, nnA, nnM, nnB, nnT, nnP, nnE, nnEl, nnEr, nnL, nnLl, nnLr, nnQ, nnQr, nnN, Nat.add_zero, if_false, if_true, Option.bind_some, not_true, not_false_iff, not_true_eq_false, not_false_eq_true, eq_self, Nat.not_lt_zero, z10, z01, or_true, true_or, or_false, false_or, true_and, false_and, i3]) (st_t (by simp (disch := first | omega | decide) only [lt1, nnMl, nnMr, nnAl, nnAr, nnA, nnM, nnB, nnT, nnP, nnE, nnEl, nnEr, nnL, nnLl, nnLr, nnQ, nnQr, nnN, Nat.add_zero, if_false, if_true, Option.bind_some, not_true, not_false_iff, not_true_eq_false, not_false_eq_true, eq_self, Nat.not_lt_zero, z10, z01, or_true, true_or, or_false, false_or, true_and, false_and, i1]) (st_w (by simp (disch := first | omega | decide) only [lt1, nnMl, nnMr, nnAl, nnAr, nnA, nnM, nnB, nnT, nnP, nnE, nnEl, nnEr, nnL, nnLl, nnLr, nnQ, nnQr, nnN, Nat.add_zero, if_false, if_true, Option.bind_some, not_true, not_false_iff, not_true_eq_false, not_false_eq_true, eq_self, Nat.not_lt_zero, z10, z01, or_true, true_or, or_false, false_or, true_and, false_and, i3]) ?_)))))
      rw [u2e, up1_ne (show 140 + 5 * v + 3 ≠ 10 by omega), up1_ne (show 140 + 5 * v + 1 ≠ 10 by omega), hkp, hsz]
    · rw [if_pos q, if_pos q]
  have xx : ∀ r, (if nn k = 0 then Option.bind (net_passOn_k0 (nn v) (x + g1 4 v) (up2 g1 7 v (g1 7 v + g1 4 v))) (fun g5 => some g5) else if nn k = 1 then Option.bind (net_passOn_k0 (nn v) x g1) (fun g5 => some g5) else if nn k = 2 then Option.bind (net_passTank_k0 (nn v) x g1) (fun g5 => some g5) else if nn k = 3 then Option.bind (net_passOn_k0 (nn v) x (up2 g1 7 v (g1 7 v + ov g1 v x * g1 4 v / 100))) (fun g5 => some g5) else if nn k = 4 then some (up2 g1 7 v (g1 7 v + x)) else Option.bind (net_passOn_k0 (nn v) x g1) (fun g5 => some g5)) = r → net_passNode_k0 F (nn v) g = r := fun r hr => by
    have hi : inb (nn v) 10 = true := by simp (disch := first | omega | decide) only [lt1, nnMl, nnMr, nnAl, nnAr, nnA, nnM, nnB, nnT, nnP, nnE, nnEl, nnEr, nnL, nnLl, nnLr, nnQ, nnQr, nnN, Nat.add_zero, if_false, if_true, Option.bind_some, not_true, not_false_iff, not_true_eq_false, not_false_eq_true, eq_self, Nat.not_lt_zero, z10, z01, or_true, true_or, or_false, false_or, true_and, false_and, hv10]
    unfold net_passNode_k0
    refine st_b (o := net_takeArrivals_k0 F (nn v) g) (x := (x, g1)) p1 (st_t hi (st_l ?_))
    rw [nnT (show v < 2147483648 by omega), hk, ← hr]
    by_cases q0 : nn k = 0
    · rw [if_pos q0, if_pos q0]
      refine st_t hi (st_t hi (st_w hi (st_t hi ?_)))
      rw [u2n (show 4 ≠ 7 by decide)]
    rw [if_neg q0, if_neg q0]
    by_cases q1 : nn k = 1
    · rw [if_pos q1, if_pos q1]
    rw [if_neg q1, if_neg q1]
    by_cases q2 : nn k = 2
    · rw [if_pos q2, if_pos q2]
    rw [if_neg q2, if_neg q2]
    by_cases q3 : nn k = 3
    · rw [if_pos q3, if_pos q3]
      exact st_t hi (st_b (out_x h hv) (st_t hi (st_w hi rfl)))
    rw [if_neg q3, if_neg q3]
    by_cases q4 : nn k = 4
    · rw [if_pos q4, if_pos q4]
      exact st_t hi (st_w hi rfl)
    rw [if_neg q4, if_neg q4]
  have c5 : k = 0 ∨ k = 1 ∨ k = 2 ∨ k = 3 ∨ k = 4 := by omega
  rcases c5 with rfl | rfl | rfl | rfl | rfl
  · have hR : RNet (up2 g1 7 v (g1 7 v + g1 4 v)) ((up2 (up2 M1 216 10 (M1 216 10 + g1 4 v)) 216 (140 + 5 * v + 3) (g1 7 v + g1 4 v)) 216) N C Q := h.node0 hv (k2 := g1 7 v + g1 4 v) (sp := 0) (fun i e1 e2 e3 e4 => by simp (disch := first | omega | decide) only [u2e, u2n, up1_eq, up1_ne, ne_eq]) (fun n hn => by
        rw [u2e]
        by_cases e : n = v
        · rw [if_pos e, e, up1_eq]
        · rw [if_neg e, up1_ne e]) (by simp (disch := first | omega | decide) only [u2e, u2n, up1_eq, up1_ne, ne_eq, Int32.add_zero]) (by simp (disch := first | omega | decide) only [u2e, u2n, up1_eq, up1_ne, ne_eq]) (by simp (disch := first | omega | decide) only [u2e, u2n, up1_eq, up1_ne, ne_eq]) (by simp (disch := first | omega | decide) only [u2e, u2n, up1_eq, up1_ne, ne_eq, Int32.add_zero]) (by simp (disch := first | omega | decide) only [u2e, u2n, up1_eq, up1_ne, ne_eq]; rw [hk, if_pos (show nn 0 = 0 from rfl), Int32.add_comm (g1 7 v), Int32.add_sub_cancel]) (by simp (disch := first | omega | decide) only [u2e, u2n, up1_eq, up1_ne, ne_eq]; rw [hk, if_neg (by decide), Int32.add_zero]) (by simp (disch := first | omega | decide) only [u2e, u2n, up1_eq, up1_ne, ne_eq]; rw [hk, if_neg (by decide), Int32.add_zero]) (fun i e1 e2 e3 e4 e5 e6 => by simp (disch := first | omega | decide) only [u2e, u2n, up1_eq, up1_ne, ne_eq])
    obtain ⟨g2, M2, r1, r2, r3, r4, r5⟩ := pass_y0 hR hv (x := x + g1 4 v) (k := nn 0) (by simp (disch := first | omega | decide) only [u2e, u2n, up1_eq, up1_ne, ne_eq]; exact hk) (by decide) (by decide)
    refine ⟨g2, M2, xx _ ((if_pos rfl).trans (st_b r1 rfl)), mm _ ((if_neg (fun e => e rfl)).trans ?_), r3, (f1.t (FrG.w (by omega))).t r4, ((f2'.t (FrM.w (by unfold iNet; omega))).t (FrM.w (by unfold iNet; omega))).t r5⟩
    rw [m65_0 (k := nn 0) hv10 (by simp (disch := first | omega | decide) only [u2e, u2n, up1_eq, up1_ne, ne_eq]; exact hkM) (by decide) (by decide)]
    exact r2
  · obtain ⟨g2, M2, r1, r2, r3, r4, r5⟩ := pass_y0 h hv (x := x) (k := nn 1) hk (by decide) (by decide)
    refine ⟨g2, M2, xx _ ((if_neg (by decide)).trans ((if_pos rfl).trans (st_b r1 rfl))), mm _ ((if_pos (by decide)).trans ?_), r3, f1.t r4, f2'.t r5⟩
    rw [m65_0 (k := nn 1) hv10 hkM (by decide) (by decide)]
    exact r2
  · obtain ⟨g2, M2, r1, r2, r3, r4, r5⟩ := tank_y0 h hv (x := x) hk
    exact ⟨g2, M2, xx _ ((if_neg (by decide)).trans ((if_neg (by decide)).trans ((if_pos rfl).trans (st_b r1 rfl)))), mm _ ((if_pos (by decide)).trans r2), r3, f1.t r4, f2'.t r5⟩
  · obtain ⟨g2, M2, r1, r2, r3, r4, r5⟩ := wheel_y0 h hv (x := x) hk
    refine ⟨g2, M2, xx _ ((if_neg (by decide)).trans ((if_neg (by decide)).trans ((if_neg (by decide)).trans ((if_pos rfl).trans (st_b r1 rfl))))), mm _ ((if_pos (by decide)).trans ?_), r3, f1.t r4, f2'.t r5⟩
    rw [m65_0 (k := nn 3) hv10 hkM (by decide) (by decide)]
    exact r2
  · have hR : RNet (up2 g1 7 v (g1 7 v + x)) ((up2 (up2 M1 216 11 (M1 216 11 + x)) 216 (140 + 5 * v + 3) (g1 7 v + x)) 216) N C Q := h.node0 hv (k2 := g1 7 v + x) (sp := 0) (fun i e1 e2 e3 e4 => by simp (disch := first | omega | decide) only [u2e, u2n, up1_eq, up1_ne, ne_eq]) (fun n hn => by
        rw [u2e]
        by_cases e : n = v
        · rw [if_pos e, e, up1_eq]
        · rw [if_neg e, up1_ne e]) (by simp (disch := first | omega | decide) only [u2e, u2n, up1_eq, up1_ne, ne_eq, Int32.add_zero]) (by simp (disch := first | omega | decide) only [u2e, u2n, up1_eq, up1_ne, ne_eq]) (by simp (disch := first | omega | decide) only [u2e, u2n, up1_eq, up1_ne, ne_eq]) (by simp (disch := first | omega | decide) only [u2e, u2n, up1_eq, up1_ne, ne_eq, Int32.add_zero]) (by simp (disch := first | omega | decide) only [u2e, u2n, up1_eq, up1_ne, ne_eq]; rw [hk, if_neg (by decide), Int32.add_zero]) (by simp (disch := first | omega | decide) only [u2e, u2n, up1_eq, up1_ne, ne_eq]; rw [hk, if_pos (show nn 4 = 4 from rfl), Int32.add_comm (g1 7 v), Int32.add_sub_cancel]) (by simp (disch := first | omega | decide) only [u2e, u2n, up1_eq, up1_ne, ne_eq]; rw [hk, if_neg (by decide), Int32.add_zero]) (fun i e1 e2 e3 e4 e5 e6 => by simp (disch := first | omega | decide) only [u2e, u2n, up1_eq, up1_ne, ne_eq])
    refine ⟨_, _, xx _ ((if_neg (by decide)).trans ((if_neg (by decide)).trans ((if_neg (by decide)).trans ((if_neg (by decide)).trans (if_pos rfl))))), mm _ ((if_pos (by decide)).trans ?_), hR, f1.t (FrG.w (by omega)), (f2'.t (FrM.w (by unfold iNet; omega))).t (FrM.w (by unfold iNet; omega))⟩
    unfold m_steps_k0_65 m_adds_k0_1
    rw [e3, nnT (show 140 + 5 * v < 2147483648 by omega), nnT (show 140 + 5 * v + 3 < 2147483648 by omega), hkM, hkp]
    exact st_t (by simp (disch := first | omega | decide) only [lt1, nnMl, nnMr, nnAl, nnAr, nnA, nnM, nnB, nnT, nnP, nnE, nnEl, nnEr, nnL, nnLl, nnLr, nnQ, nnQr, nnN, Nat.add_zero, if_false, if_true, Option.bind_some, not_true, not_false_iff, not_true_eq_false, not_false_eq_true, eq_self, Nat.not_lt_zero, z10, z01, or_true, true_or, or_false, false_or, true_and, false_and, i0]) (st_f (by decide) (st_t (by simp (disch := first | omega | decide) only [lt1, nnMl, nnMr, nnAl, nnAr, nnA, nnM, nnB, nnT, nnP, nnE, nnEl, nnEr, nnL, nnLl, nnLr, nnQ, nnQr, nnN, Nat.add_zero, if_false, if_true, Option.bind_some, not_true, not_false_iff, not_true_eq_false, not_false_eq_true, eq_self, Nat.not_lt_zero, z10, z01, or_true, true_or, or_false, false_or, true_and, false_and, i3]) (st_b (st_l rfl) (st_w (by simp (disch := first | omega | decide) only [lt1, nnMl, nnMr, nnAl, nnAr, nnA, nnM, nnB, nnT, nnP, nnE, nnEl, nnEr, nnL, nnLl, nnLr, nnQ, nnQr, nnN, Nat.add_zero, if_false, if_true, Option.bind_some, not_true, not_false_iff, not_true_eq_false, not_false_eq_true, eq_self, Nat.not_lt_zero, z10, z01, or_true, true_or, or_false, false_or, true_and, false_and, i3]) rfl))))
theorem node_y1 {g M : Sg} {v : Nat} (h0 : RNet g (M 216) N C Q) (hv : v < N) {F G : Nat} (hF : 14 < F) (hG : 14 < G) : ∃ g2 M2, net_passNode_k1 F (nn v) g = some g2 ∧ m_steps_k1 G (nn v) M = some M2 ∧ RNet g2 (M2 216) N C Q ∧ FrG g g2 ∧ FrM M M2 := by
  have hC := h0.hC
  have hN := h0.hN
  have hv10 : v < 10 := by omega
  obtain ⟨x, f2, a2, p1, p2, p3, p4, p5, p6, p7⟩ := arr_y1 h0 (v := v) C 0 F G 0 (g 18) (M 216) (by omega) (by omega) (by omega) (fun _ _ _ => rfl) rfl h0.way1
  rw [sc_s] at p1 p2
  have h : RNet (sc g 18 f2) ((sc M 216 a2) 216) N C Q := by
    rw [sc_e]
    exact h0.arr1 (x := x) (fun i e1 e2 e3 => sc_n e3) (fun i hi => by rw [sc_e]; exact p5 i hi) (fun i e => by rw [sc_e]; exact p6 i e) (by rw [sc_e, p7, Int32.add_zero]) p4 (fun j _ e2 e3 => p3 j e2 e3)
  have f1 : FrG g (sc g 18 f2) := fun i e1 e2 e3 e4 e5 e6 e7 => sc_n (by omega)
  have f2' : FrM M (sc M 216 a2) := ⟨fun i e => sc_n e, fun j e => by rw [sc_e]; exact p3 j (by unfold iNet at e; omega) (by unfold iNet at e; omega)⟩
  have i0 : 140 + 5 * v < 20360 := by omega
  have i1 : 140 + 5 * v + 1 < 20360 := by omega
  have i3 : 140 + 5 * v + 4 < 20360 := by omega
  have e0 : 140 + 5 * nn v = nn (140 + 5 * v) := by simp (disch := first | omega | decide) only [lt1, nnMl, nnMr, nnAl, nnAr, nnA, nnM, nnB, nnT, nnP, nnE, nnEl, nnEr, nnL, nnLl, nnLr, nnQ, nnQr, nnN, Nat.add_zero, if_false, if_true, Option.bind_some, not_true, not_false_iff, not_true_eq_false, not_false_eq_true, eq_self, Nat.not_lt_zero, z10, z01, or_true, true_or, or_false, false_or, true_and, false_and]
  have e1 : nn (140 + 5 * v) + 1 = nn (140 + 5 * v + 1) := nnA _ 1
  have e3 : nn (140 + 5 * v) + 3 + 1 = nn (140 + 5 * v + 4) := by simp (disch := first | omega | decide) only [lt1, nnMl, nnMr, nnAl, nnAr, nnA, nnM, nnB, nnT, nnP, nnE, nnEl, nnEr, nnL, nnLl, nnLr, nnQ, nnQr, nnN, Nat.add_zero, if_false, if_true, Option.bind_some, not_true, not_false_iff, not_true_eq_false, not_false_eq_true, eq_self, Nat.not_lt_zero, z10, z01, or_true, true_or, or_false, false_or, true_and, false_and]
  generalize sc g 18 f2 = g1 at *
  generalize sc M 216 a2 = M1 at *
  obtain ⟨k, k4, hk⟩ := h.kindV v hv
  have hkM : M1 216 (140 + 5 * v) = nn k := (h.kind v hv10).trans hk
  have hsz : M1 216 (140 + 5 * v + 1) = g1 4 v := h.size v hv10
  have hkp : M1 216 (140 + 5 * v + 4) = g1 8 v := h.kep1 v hv10
  -- the model behind the arrivals
  have mm : ∀ r, (if ¬ nn k = 0 then m_steps_k1_65 (nn (140 + 5 * v)) x M1 else m_steps_k1_65 (nn (140 + 5 * v)) (x + g1 4 v) (up2 (up2 M1 216 17 (M1 216 17 + g1 4 v)) 216 (140 + 5 * v + 4) (g1 8 v + g1 4 v))) = r → m_steps_k1 G (nn v) M = r := fun r hr => by
    unfold m_steps_k1 m_adds_k1_0
    rw [e0]
    refine st_l (st_b (o := m_comes_k1 G (nn v) M) (x := (x, M1)) p2 (st_t (by simp (disch := first | omega | decide) only [lt1, nnMl, nnMr, nnAl, nnAr, nnA, nnM, nnB, nnT, nnP, nnE, nnEl, nnEr, nnL, nnLl, nnLr, nnQ, nnQr, nnN, Nat.add_zero, if_false, if_true, Option.bind_some, not_true, not_false_iff, not_true_eq_false, not_false_eq_true, eq_self, Nat.not_lt_zero, z10, z01, or_true, true_or, or_false, false_or, true_and, false_and, i0]) ?_))
    rw [e1, e3, nnT (show 140 + 5 * v < 2147483648 by omega), nnT (show 140 + 5 * v + 1 < 2147483648 by omega), nnT (show 140 + 5 * v + 4 < 2147483648 by omega), hkM, hsz, ← hr]
    by_cases q : nn k = 0
    · refine Eq.trans ?_ (if_neg (fun e => e q)).symm
      refine st_f (fun e => e q) ?_
      refine st_t (by simp (disch := first | omega | decide) only [lt1, nnMl, nnMr, nnAl, nnAr, nnA, nnM, nnB, nnT, nnP, nnE, nnEl, nnEr, nnL, nnLl, nnLr, nnQ, nnQr, nnN, Nat.add_zero, if_false, if_true, Option.bind_some, not_true, not_false_iff, not_true_eq_false, not_false_eq_true, eq_self, Nat.not_lt_zero, z10, z01, or_true, true_or, or_false, false_or, true_and, false_and, i1]) (st_b (st_l rfl) (st_l (st_t (by simp (disch := first | omega | decide) only [lt1, nnMl, nnMr, nnAl, nnAr, nnA, nnM, nnB, nnT, nnP, nnE, nnEl, nnEr, nnL, nnLl, nnLr, nnQ, nnQr, nnN, Nat.add_zero, if_false, if_true, Option.bind_some, not_true, not_false_iff, not_true_eq_false, not_false_eq_true, eq_self, Nat.not_lt_zero, z10, z01, or_true, true_or, or_false, false_or, true_and, false_and, i3]) (st_t (by simp (disch := first | omega | decide) only [lt1, nnMl, nnMr, nnAl, nnAr, nnA, nnM, nnB, nnT, nnP, nnE, nnEl, nnEr, nnL, nnLl, nnLr, nnQ, nnQr, nnN, Nat.add_zero, if_false, if_true, Option.bind_some, not_true, not_false_iff, not_true_eq_false, not_false_eq_true, eq_self, Nat.not_lt_zero, z10, z01, or_true, true_or, or_false, false_or, true_and, false_and, i1]) (st_w (by simp (disch := first | omega | decide) only [lt1, nnMl, nnMr, nnAl, nnAr, nnA, nnM, nnB, nnT, nnP, nnE, nnEl, nnEr, nnL, nnLl, nnLr, nnQ, nnQr, nnN, Nat.add_zero, if_false, if_true, Option.bind_some, not_true, not_false_iff, not_true_eq_false, not_false_eq_true, eq_self, Nat.not_lt_zero, z10, z01, or_true, true_or, or_false, false_or, true_and, false_and, i3]) ?_)))))
      rw [u2e, up1_ne (show 140 + 5 * v + 4 ≠ 17 by omega), up1_ne (show 140 + 5 * v + 1 ≠ 17 by omega), hkp, hsz]
    · rw [if_pos q, if_pos q]
  have xx : ∀ r, (if nn k = 0 then Option.bind (net_passOn_k1 (nn v) (x + g1 4 v) (up2 g1 8 v (g1 8 v + g1 4 v))) (fun g5 => some g5) else if nn k = 1 then Option.bind (net_passOn_k1 (nn v) x g1) (fun g5 => some g5) else if nn k = 2 then Option.bind (net_passTank_k1 (nn v) x g1) (fun g5 => some g5) else if nn k = 3 then Option.bind (net_passOn_k1 (nn v) x (up2 g1 8 v (g1 8 v + ov g1 v x * g1 4 v / 100))) (fun g5 => some g5) else if nn k = 4 then some (up2 g1 8 v (g1 8 v + x)) else Option.bind (net_passOn_k1 (nn v) x g1) (fun g5 => some g5)) = r → net_passNode_k1 F (nn v) g = r := fun r hr => by
    have hi : inb (nn v) 10 = true := by simp (disch := first | omega | decide) only [lt1, nnMl, nnMr, nnAl, nnAr, nnA, nnM, nnB, nnT, nnP, nnE, nnEl, nnEr, nnL, nnLl, nnLr, nnQ, nnQr, nnN, Nat.add_zero, if_false, if_true, Option.bind_some, not_true, not_false_iff, not_true_eq_false, not_false_eq_true, eq_self, Nat.not_lt_zero, z10, z01, or_true, true_or, or_false, false_or, true_and, false_and, hv10]
    unfold net_passNode_k1
    refine st_b (o := net_takeArrivals_k1 F (nn v) g) (x := (x, g1)) p1 (st_t hi (st_l ?_))
    rw [nnT (show v < 2147483648 by omega), hk, ← hr]
    by_cases q0 : nn k = 0
    · rw [if_pos q0, if_pos q0]
      refine st_t hi (st_t hi (st_w hi (st_t hi ?_)))
      rw [u2n (show 4 ≠ 8 by decide)]
    rw [if_neg q0, if_neg q0]
    by_cases q1 : nn k = 1
    · rw [if_pos q1, if_pos q1]
    rw [if_neg q1, if_neg q1]
    by_cases q2 : nn k = 2
    · rw [if_pos q2, if_pos q2]
    rw [if_neg q2, if_neg q2]
    by_cases q3 : nn k = 3
    · rw [if_pos q3, if_pos q3]
      exact st_t hi (st_b (out_x h hv) (st_t hi (st_w hi rfl)))
    rw [if_neg q3, if_neg q3]
    by_cases q4 : nn k = 4
    · rw [if_pos q4, if_pos q4]
      exact st_t hi (st_w hi rfl)
    rw [if_neg q4, if_neg q4]
  have c5 : k = 0 ∨ k = 1 ∨ k = 2 ∨ k = 3 ∨ k = 4 := by omega
  rcases c5 with rfl | rfl | rfl | rfl | rfl
  · have hR : RNet (up2 g1 8 v (g1 8 v + g1 4 v)) ((up2 (up2 M1 216 17 (M1 216 17 + g1 4 v)) 216 (140 + 5 * v + 4) (g1 8 v + g1 4 v)) 216) N C Q := h.node1 hv (k2 := g1 8 v + g1 4 v) (sp := 0) (fun i e1 e2 e3 e4 => by simp (disch := first | omega | decide) only [u2e, u2n, up1_eq, up1_ne, ne_eq]) (fun n hn => by
        rw [u2e]
        by_cases e : n = v
        · rw [if_pos e, e, up1_eq]
        · rw [if_neg e, up1_ne e]) (by simp (disch := first | omega | decide) only [u2e, u2n, up1_eq, up1_ne, ne_eq, Int32.add_zero]) (by simp (disch := first | omega | decide) only [u2e, u2n, up1_eq, up1_ne, ne_eq]) (by simp (disch := first | omega | decide) only [u2e, u2n, up1_eq, up1_ne, ne_eq]) (by simp (disch := first | omega | decide) only [u2e, u2n, up1_eq, up1_ne, ne_eq, Int32.add_zero]) (by simp (disch := first | omega | decide) only [u2e, u2n, up1_eq, up1_ne, ne_eq]; rw [hk, if_pos (show nn 0 = 0 from rfl), Int32.add_comm (g1 8 v), Int32.add_sub_cancel]) (by simp (disch := first | omega | decide) only [u2e, u2n, up1_eq, up1_ne, ne_eq]; rw [hk, if_neg (by decide), Int32.add_zero]) (by simp (disch := first | omega | decide) only [u2e, u2n, up1_eq, up1_ne, ne_eq]; rw [hk, if_neg (by decide), Int32.add_zero]) (fun i e1 e2 e3 e4 e5 e6 => by simp (disch := first | omega | decide) only [u2e, u2n, up1_eq, up1_ne, ne_eq])
    obtain ⟨g2, M2, r1, r2, r3, r4, r5⟩ := pass_y1 hR hv (x := x + g1 4 v) (k := nn 0) (by simp (disch := first | omega | decide) only [u2e, u2n, up1_eq, up1_ne, ne_eq]; exact hk) (by decide) (by decide)
    refine ⟨g2, M2, xx _ ((if_pos rfl).trans (st_b r1 rfl)), mm _ ((if_neg (fun e => e rfl)).trans ?_), r3, (f1.t (FrG.w (by omega))).t r4, ((f2'.t (FrM.w (by unfold iNet; omega))).t (FrM.w (by unfold iNet; omega))).t r5⟩
    rw [m65_1 (k := nn 0) hv10 (by simp (disch := first | omega | decide) only [u2e, u2n, up1_eq, up1_ne, ne_eq]; exact hkM) (by decide) (by decide)]
    exact r2
  · obtain ⟨g2, M2, r1, r2, r3, r4, r5⟩ := pass_y1 h hv (x := x) (k := nn 1) hk (by decide) (by decide)
    refine ⟨g2, M2, xx _ ((if_neg (by decide)).trans ((if_pos rfl).trans (st_b r1 rfl))), mm _ ((if_pos (by decide)).trans ?_), r3, f1.t r4, f2'.t r5⟩
    rw [m65_1 (k := nn 1) hv10 hkM (by decide) (by decide)]
    exact r2
  · obtain ⟨g2, M2, r1, r2, r3, r4, r5⟩ := tank_y1 h hv (x := x) hk
    exact ⟨g2, M2, xx _ ((if_neg (by decide)).trans ((if_neg (by decide)).trans ((if_pos rfl).trans (st_b r1 rfl)))), mm _ ((if_pos (by decide)).trans r2), r3, f1.t r4, f2'.t r5⟩
  · obtain ⟨g2, M2, r1, r2, r3, r4, r5⟩ := wheel_y1 h hv (x := x) hk
    refine ⟨g2, M2, xx _ ((if_neg (by decide)).trans ((if_neg (by decide)).trans ((if_neg (by decide)).trans ((if_pos rfl).trans (st_b r1 rfl))))), mm _ ((if_pos (by decide)).trans ?_), r3, f1.t r4, f2'.t r5⟩
    rw [m65_1 (k := nn 3) hv10 hkM (by decide) (by decide)]
    exact r2
  · have hR : RNet (up2 g1 8 v (g1 8 v + x)) ((up2 (up2 M1 216 18 (M1 216 18 + x)) 216 (140 + 5 * v + 4) (g1 8 v + x)) 216) N C Q := h.node1 hv (k2 := g1 8 v + x) (sp := 0) (fun i e1 e2 e3 e4 => by simp (disch := first | omega | decide) only [u2e, u2n, up1_eq, up1_ne, ne_eq]) (fun n hn => by
        rw [u2e]
        by_cases e : n = v
        · rw [if_pos e, e, up1_eq]
        · rw [if_neg e, up1_ne e]) (by simp (disch := first | omega | decide) only [u2e, u2n, up1_eq, up1_ne, ne_eq, Int32.add_zero]) (by simp (disch := first | omega | decide) only [u2e, u2n, up1_eq, up1_ne, ne_eq]) (by simp (disch := first | omega | decide) only [u2e, u2n, up1_eq, up1_ne, ne_eq]) (by simp (disch := first | omega | decide) only [u2e, u2n, up1_eq, up1_ne, ne_eq, Int32.add_zero]) (by simp (disch := first | omega | decide) only [u2e, u2n, up1_eq, up1_ne, ne_eq]; rw [hk, if_neg (by decide), Int32.add_zero]) (by simp (disch := first | omega | decide) only [u2e, u2n, up1_eq, up1_ne, ne_eq]; rw [hk, if_pos (show nn 4 = 4 from rfl), Int32.add_comm (g1 8 v), Int32.add_sub_cancel]) (by simp (disch := first | omega | decide) only [u2e, u2n, up1_eq, up1_ne, ne_eq]; rw [hk, if_neg (by decide), Int32.add_zero]) (fun i e1 e2 e3 e4 e5 e6 => by simp (disch := first | omega | decide) only [u2e, u2n, up1_eq, up1_ne, ne_eq])
    refine ⟨_, _, xx _ ((if_neg (by decide)).trans ((if_neg (by decide)).trans ((if_neg (by decide)).trans ((if_neg (by decide)).trans (if_pos rfl))))), mm _ ((if_pos (by decide)).trans ?_), hR, f1.t (FrG.w (by omega)), (f2'.t (FrM.w (by unfold iNet; omega))).t (FrM.w (by unfold iNet; omega))⟩
    unfold m_steps_k1_65 m_adds_k1_1
    rw [e3, nnT (show 140 + 5 * v < 2147483648 by omega), nnT (show 140 + 5 * v + 4 < 2147483648 by omega), hkM, hkp]
    exact st_t (by simp (disch := first | omega | decide) only [lt1, nnMl, nnMr, nnAl, nnAr, nnA, nnM, nnB, nnT, nnP, nnE, nnEl, nnEr, nnL, nnLl, nnLr, nnQ, nnQr, nnN, Nat.add_zero, if_false, if_true, Option.bind_some, not_true, not_false_iff, not_true_eq_false, not_false_eq_true, eq_self, Nat.not_lt_zero, z10, z01, or_true, true_or, or_false, false_or, true_and, false_and, i0]) (st_f (by decide) (st_t (by simp (disch := first | omega | decide) only [lt1, nnMl, nnMr, nnAl, nnAr, nnA, nnM, nnB, nnT, nnP, nnE, nnEl, nnEr, nnL, nnLl, nnLr, nnQ, nnQr, nnN, Nat.add_zero, if_false, if_true, Option.bind_some, not_true, not_false_iff, not_true_eq_false, not_false_eq_true, eq_self, Nat.not_lt_zero, z10, z01, or_true, true_or, or_false, false_or, true_and, false_and, i3]) (st_b (st_l rfl) (st_w (by simp (disch := first | omega | decide) only [lt1, nnMl, nnMr, nnAl, nnAr, nnA, nnM, nnB, nnT, nnP, nnE, nnEl, nnEr, nnL, nnLl, nnLr, nnQ, nnQr, nnN, Nat.add_zero, if_false, if_true, Option.bind_some, not_true, not_false_iff, not_true_eq_false, not_false_eq_true, eq_self, Nat.not_lt_zero, z10, z01, or_true, true_or, or_false, false_or, true_and, false_and, i3]) rfl))))
theorem RNet.tick {c c' : Sg} {a a' : Nat → Int32} (h : RNet c a N C Q) (hQ9 : Q < 9599) (hc : ∀ i, 2 ≤ i → i ≤ 21 → i ≠ 2 → c' i = c i) (e2 : c' 2 = up1 (c 2) 0 (nn (Q + 1))) (a3 : a' 3 = nn (Q + 1)) (ha : ∀ j, iNet j → j ≠ 3 → a' j = a j) : RNet c' a' N C (Q + 1) := by
  have e3 := hc 3 (by decide) (by decide) (by decide)
  have e4 := hc 4 (by decide) (by decide) (by decide)
  have e5 := hc 5 (by decide) (by decide) (by decide)
  have e7 := hc 7 (by decide) (by decide) (by decide)
  have e8 := hc 8 (by decide) (by decide) (by decide)
  have e9 := hc 9 (by decide) (by decide) (by decide)
  have e10 := hc 10 (by decide) (by decide) (by decide)
  have e11 := hc 11 (by decide) (by decide) (by decide)
  have e12 := hc 12 (by decide) (by decide) (by decide)
  have e13 := hc 13 (by decide) (by decide) (by decide)
  have e14 := hc 14 (by decide) (by decide) (by decide)
  have e15 := hc 15 (by decide) (by decide) (by decide)
  have e17 := hc 17 (by decide) (by decide) (by decide)
  have e18 := hc 18 (by decide) (by decide) (by decide)
  have e19 := hc 19 (by decide) (by decide) (by decide)
  have e20 := hc 20 (by decide) (by decide) (by decide)
  have e21 := hc 21 (by decide) (by decide) (by decide)
  have A := ha
  apply RNet.mk
  case hN => exact h.hN
  case hC => exact h.hC
  case hQ => omega
  case cN => rw [e2, up1_ne (by decide)]; exact h.cN
  case aN => rw [A _ (by unfold iNet; omega) (by omega)]; exact h.aN
  case cC => rw [e2, up1_ne (by decide)]; exact h.cC
  case aC => rw [A _ (by unfold iNet; omega) (by omega)]; exact h.aC
  case cQ => rw [e2, up1_eq]
  case aQ => exact a3
  case kind => intro n hn; rw [A _ (by unfold iNet; omega) (by omega), e3]; exact h.kind n hn
  case size => intro n hn; rw [A _ (by unfold iNet; omega) (by omega), e4]; exact h.size n hn
  case gate => intro n hn; rw [A _ (by unfold iNet; omega) (by omega), e5]; exact h.gate n hn
  case kep0 => intro n hn; rw [A _ (by unfold iNet; omega) (by omega), e7]; exact h.kep0 n hn
  case kep1 => intro n hn; rw [A _ (by unfold iNet; omega) (by omega), e8]; exact h.kep1 n hn
  case frm => intro n hn; rw [A _ (by unfold iNet; omega) (by omega), e9]; exact h.frm n hn
  case to => intro n hn; rw [A _ (by unfold iNet; omega) (by omega), e10]; exact h.to n hn
  case low => intro n hn; rw [A _ (by unfold iNet; omega) (by omega), e11]; exact h.low n hn
  case hig => intro n hn; rw [A _ (by unfold iNet; omega) (by omega), e12]; exact h.hig n hn
  case trv => intro n hn; rw [A _ (by unfold iNet; omega) (by omega), e13]; exact h.trv n hn
  case brd => intro n hn; rw [A _ (by unfold iNet; omega) (by omega), e14]; exact h.brd n hn
  case brk => intro n hn; rw [A _ (by unfold iNet; omega) (by omega), e15]; exact h.brk n hn
  case way0 => intro n hn; rw [A _ (by unfold iNet; omega) (by omega), e17]; exact h.way0 n hn
  case way1 => intro n hn; rw [A _ (by unfold iNet; omega) (by omega), e18]; exact h.way1 n hn
  case gateV => rw [e5, e9]; exact h.gateV
  case ends => rw [e9, e10]; exact h.ends
  case lowV => rw [e11]; exact h.lowV
  case higV => rw [e12]; exact h.higV
  case trvV => rw [e13]; exact h.trvV
  case brdV => rw [e14]; exact h.brdV
  case brkV => rw [e15]; exact h.brkV
  case kindV => rw [e3]; exact h.kindV
  case kepZ => rw [e7, e8]; exact h.kepZ
  case brkZ => rw [e15]; exact h.brkZ
  case wayZ => rw [e17, e18]; exact h.wayZ
  case su00 => rw [A _ (by unfold iNet; omega) (by omega), e3, e7]; exact h.su00
  case su01 => rw [A _ (by unfold iNet; omega) (by omega), e3, e7]; exact h.su01
  case su02 => rw [A _ (by unfold iNet; omega) (by omega), e3, e7]; exact h.su02
  case su03 => rw [A _ (by unfold iNet; omega) (by omega), e17]; exact h.su03
  case su04 => rw [A _ (by unfold iNet; omega) (by omega), e19]; exact h.su04
  case su05 => rw [A _ (by unfold iNet; omega) (by omega), e20]; exact h.su05
  case su06 => rw [A _ (by unfold iNet; omega) (by omega), e21]; exact h.su06
  case su10 => rw [A _ (by unfold iNet; omega) (by omega), e3, e8]; exact h.su10
  case su11 => rw [A _ (by unfold iNet; omega) (by omega), e3, e8]; exact h.su11
  case su12 => rw [A _ (by unfold iNet; omega) (by omega), e3, e8]; exact h.su12
  case su13 => rw [A _ (by unfold iNet; omega) (by omega), e18]; exact h.su13
  case su14 => rw [A _ (by unfold iNet; omega) (by omega), e19]; exact h.su14
  case su15 => rw [A _ (by unfold iNet; omega) (by omega), e20]; exact h.su15
  case su16 => rw [A _ (by unfold iNet; omega) (by omega), e21]; exact h.su16
theorem qua1 {v1 v2 : Int32} {F0 F1 : Nat} (hF0 : 14 < F0) (hF1 : 14 < F1) {K : Int32 → Int32 → Sg → Option (Int32 × Sg)} : ∀ m v F G (g M : Sg), v + m = N → m < F → m < G → RNet g (M 216) N C Q → ∃ g2 M2, net_passQuarter_9_2 F0 F (nn v) g = some (up2 g2 2 0 (nn (Q + 1))) ∧ m_go_58_2 F1 K G v1 v2 (nn v) M = K v1 (v2 + 1) (up2 M2 216 3 (nn (Q + 1))) ∧ RNet g2 (M2 216) N C Q ∧ FrG g g2 ∧ FrM M M2 := by
  intro m
  induction m with
  | zero =>
    intro v F G g M hv hF hG h
    obtain ⟨F, rfl⟩ : ∃ F2, F = F2 + 1 := ⟨F - 1, by omega⟩
    obtain ⟨G, rfl⟩ : ∃ F2, G = F2 + 1 := ⟨G - 1, by omega⟩
    have : v = N := by omega
    subst this
    refine ⟨g, M, ?_, ?_, h, FrG.r, FrM.r⟩
    · unfold net_passQuarter_9_2
      rw [h.cN, h.cQ, show nn Q + 1 = nn (Q + 1) from nnA Q 1]
      exact st_t (Int32.le_refl _) (st_l rfl)
    · unfold m_go_58_2
      rw [h.aN, h.aQ, show nn Q + 1 = nn (Q + 1) from nnA Q 1]
      exact st_t (Int32.le_refl _) (st_l rfl)
  | succ m ih =>
    intro v F G g M hv hF hG h
    obtain ⟨F, rfl⟩ : ∃ F2, F = F2 + 1 := ⟨F - 1, by omega⟩
    obtain ⟨G, rfl⟩ : ∃ F2, G = F2 + 1 := ⟨G - 1, by omega⟩
    have hN := h.hN
    obtain ⟨g1, M1, r1, r2, r3, r4, r5⟩ := node_y1 h (show v < N by omega) hF0 hF1
    obtain ⟨g2, M2, s1, s2, s3, s4, s5⟩ := ih (v + 1) F G g1 M1 (by omega) (by omega) (by omega) r3
    have hle : ¬ nn N ≤ nn v := by rw [nnE (by omega) (by omega)]; omega
    refine ⟨g2, M2, ?_, ?_, s3, r4.t s4, r5.t s5⟩
    · unfold net_passQuarter_9_2
      rw [h.cN, show nn v + 1 = nn (v + 1) from nnA v 1]
      exact st_f hle (st_b r1 s1)
    · unfold m_go_58_2
      rw [h.aN, show nn v + 1 = nn (v + 1) from nnA v 1]
      exact st_f hle (st_b r2 s2)
theorem qua0 {v1 v2 : Int32} {F0 F1 : Nat} (hF0 : 14 < F0) (hF1 : 14 < F1) {K : Int32 → Int32 → Sg → Option (Int32 × Sg)} : ∀ m v F G (g M : Sg), v + m = N → m < F → m < G → RNet g (M 216) N C Q → ∃ g2 M2, net_passQuarter_9 F0 F (nn v) g = some (up2 g2 2 0 (nn (Q + 1))) ∧ m_go_58 F1 K G v1 v2 (nn v) M = K v1 (v2 + 1) (up2 M2 216 3 (nn (Q + 1))) ∧ RNet g2 (M2 216) N C Q ∧ FrG g g2 ∧ FrM M M2 := by
  intro m
  induction m with
  | zero =>
    intro v F G g M hv hF hG h
    obtain ⟨F, rfl⟩ : ∃ F2, F = F2 + 1 := ⟨F - 1, by omega⟩
    obtain ⟨G, rfl⟩ : ∃ F2, G = F2 + 1 := ⟨G - 1, by omega⟩
    have hN := h.hN
    have : v = N := by omega
    subst this
    obtain ⟨g2, M2, s1, s2, s3⟩ := qua1 (v1 := v1) (v2 := v2) hF0 hF1 (K := K) v 0 F0 F1 g M (by omega) (by omega) (by omega) h
    refine ⟨g2, M2, ?_, ?_, s3⟩
    · unfold net_passQuarter_9
      rw [h.cN]
      exact st_t (Int32.le_refl _) s1
    · unfold m_go_58
      rw [h.aN]
      exact st_t (Int32.le_refl _) s2
  | succ m ih =>
    intro v F G g M hv hF hG h
    obtain ⟨F, rfl⟩ : ∃ F2, F = F2 + 1 := ⟨F - 1, by omega⟩
    obtain ⟨G, rfl⟩ : ∃ F2, G = F2 + 1 := ⟨G - 1, by omega⟩
    have hN := h.hN
    obtain ⟨g1, M1, r1, r2, r3, r4, r5⟩ := node_y0 h (show v < N by omega) hF0 hF1
    obtain ⟨g2, M2, s1, s2, s3, s4, s5⟩ := ih (v + 1) F G g1 M1 (by omega) (by omega) (by omega) r3
    have hle : ¬ nn N ≤ nn v := by rw [nnE (by omega) (by omega)]; omega
    refine ⟨g2, M2, ?_, ?_, s3, r4.t s4, r5.t s5⟩
    · unfold net_passQuarter_9
      rw [h.cN, show nn v + 1 = nn (v + 1) from nnA v 1]
      exact st_f hle (st_b r1 s1)
    · unfold m_go_58
      rw [h.aN, show nn v + 1 = nn (v + 1) from nnA v 1]
      exact st_f hle (st_b r2 s2)
/-- a quarter, both sides -/
theorem qua {v1 v2 : Int32} {F0 F1 : Nat} (hF0 : 14 < F0) (hF1 : 14 < F1) {K : Int32 → Int32 → Sg → Option (Int32 × Sg)} {g M : Sg} (h : RNet g (M 216) N C Q) (hQ : Q < 9599) : ∃ g2 M2, net_passQuarter F0 g = some g2 ∧ m_go_48 F1 K v1 v2 M = K v1 (v2 + 1) M2 ∧ RNet g2 (M2 216) N C (Q + 1) ∧ (∀ i, 22 ≤ i → g2 i = g i) ∧ FrM M M2 := by
  have hN := h.hN
  obtain ⟨g2, M2, s1, s2, s3, s4, s5⟩ := qua0 (v1 := v1) (v2 := v2) hF0 hF1 (K := K) N 0 F0 F1 g M (by omega) (by omega) (by omega) h
  refine ⟨_, _, s1, s2, ?_, fun i hi => ?_, s5.t (FrM.w (by unfold iNet; omega))⟩
  · exact s3.tick hQ (fun i e1 e2 e3 => u2n e3) u2e (by rw [u2e, up1_eq]) (fun j e1 e2 => by rw [u2e, up1_ne e2])
  · rw [u2n (by omega)]
    exact s4 i (by omega) (by omega) (by omega) (by omega) (by omega) (by omega) (by omega)
end WF
