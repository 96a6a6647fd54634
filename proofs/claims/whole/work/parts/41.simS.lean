/-! one node's quarter -/
def FrG (g g2 : Sg) : Prop := ∀ i, i ≠ 7 → i ≠ 8 → i ≠ 17 → i ≠ 18 → i ≠ 19 → i ≠ 20 → i ≠ 21 → g2 i = g i
def FrM (M M2 : Sg) : Prop := (∀ i, i ≠ 216 → M2 i = M i) ∧ ∀ j, ¬ iNet j → M2 216 j = M 216 j
theorem FrG.r {g : Sg} : FrG g g := fun _ _ _ _ _ _ _ _ => rfl
theorem FrG.t {g g2 g3 : Sg} (h : FrG g g2) (h2 : FrG g2 g3) : FrG g g3 := fun i a b c d e f k => (h2 i a b c d e f k).trans (h i a b c d e f k)
theorem FrM.r {g : Sg} : FrM g g := ⟨fun _ _ => rfl, fun _ _ => rfl⟩
theorem FrM.t {g g2 g3 : Sg} (h : FrM g g2) (h2 : FrM g2 g3) : FrM g g3 := ⟨fun i a => (h2.1 i a).trans (h.1 i a), fun j a => (h2.2 j a).trans (h.2 j a)⟩
theorem FrM.w {M : Sg} {i : Nat} {v : Int32} (h : iNet i) : FrM M (up2 M 216 i v) := ⟨fun j e => u2n e, fun j e => by rw [u2e, up1_ne (fun q => e (by rw [q]; exact h))]⟩
theorem FrG.w {g : Sg} {c i : Nat} {v : Int32} (h : c = 7 ∨ c = 8 ∨ c = 17 ∨ c = 18 ∨ c = 19 ∨ c = 20 ∨ c = 21) : FrG g (up2 g c i v) := fun j a b d e f k l => u2n (by omega)
/-- what goes out of a node -/
def ov (g : Sg) (v : Nat) (x : Int32) : Int32 := if g 5 v = -1 then 0 else if g 14 (cn g 5 v) < x then g 14 (cn g 5 v) else x
theorem tank_sum (A x k h o : Int32) : A + x + -(k + x - h) + -o = A + (h - o - k) := by
  rw [Int32.neg_sub]
  simp only [Int32.sub_eq_add_neg, Int32.neg_add]
  have e : A + x + (h + (-k + -x)) + -o = (x + -x) + (A + (h + -o + -k)) := by ac_rfl
  rw [e, Int32.add_right_neg, Int32.zero_add]
section WE
variable {g M : Sg} {N C Q v : Nat}
theorem gate_v (h : RNet g (M 216) N C Q) (hv : v < N) : g 5 v = -1 ∨ (∃ j, j < C ∧ g 5 v = nn j ∧ cn g 5 v = j ∧ ¬ nn j = (-1 : Int32)) := by
  have hC := h.hC
  rcases h.gateV v hv with e | ⟨j, h1, h2, h3⟩
  · exact Or.inl e
  · refine Or.inr ⟨j, h1, h2, ?_, fun e => nnN1 (by omega) e.symm⟩
    unfold cn
    rw [h2, nnT (by omega)]
theorem out_x (h : RNet g (M 216) N C Q) (hv : v < N) {x : Int32} : net_outOf (nn v) x g = some (ov g v x) := by
  have hN := h.hN
  have hC := h.hC
  have hv10 : v < 10 := by omega
  unfold net_outOf
  refine st_t (by simp (disch := first | omega | decide) only [lt1, nnMl, nnMr, nnAl, nnAr, nnA, nnM, nnB, nnT, nnP, nnE, nnEl, nnEr, nnL, nnLl, nnLr, nnQ, nnQr, nnN, Nat.add_zero, if_false, if_true, Option.bind_some, not_true, not_false_iff, not_true_eq_false, not_false_eq_true, eq_self, Nat.not_lt_zero, z10, z01, or_true, true_or, or_false, false_or, true_and, false_and, hv10]) (st_l ?_)
  rw [nnT (by omega)]
  unfold ov
  rcases gate_v h hv with e | ⟨j, h1, h2, h3, h4⟩
  · rw [e, if_pos rfl]
    exact st_b hC_neg (st_t rfl rfl)
  · have hj14 : j < 14 := by omega
    rw [h3, h2, if_neg h4]
    refine st_b (hC_y h.cC hC h1) (st_f (by decide) (st_t (by simp (disch := first | omega | decide) only [lt1, nnMl, nnMr, nnAl, nnAr, nnA, nnM, nnB, nnT, nnP, nnE, nnEl, nnEr, nnL, nnLl, nnLr, nnQ, nnQr, nnN, Nat.add_zero, if_false, if_true, Option.bind_some, not_true, not_false_iff, not_true_eq_false, not_false_eq_true, eq_self, Nat.not_lt_zero, z10, z01, or_true, true_or, or_false, false_or, true_and, false_and, hj14]) ?_))
    rw [nnT (by omega)]
theorem send_y0 (h : RNet g (M 216) N C Q) {w out : Int32} (hw : w = -1 ∨ ∃ j, j < C ∧ w = nn j) : ∃ g2 M2, net_send_k0 w out g = some g2 ∧ m_steps_k0_316 w out M = some M2 ∧ RNet g2 (M2 216) N C Q ∧ FrG g g2 ∧ FrM M M2 := by
  have hC := h.hC
  have hQ := h.hQ
  rcases hw with rfl | ⟨j, hj, rfl⟩
  · refine ⟨g, M, ?_, ?_, h, FrG.r, FrM.r⟩
    · unfold net_send_k0
      exact st_b hC_neg (st_f (by decide) rfl)
    · unfold m_steps_k0_316
      exact st_t (by decide) rfl
  have hj14 : j < 14 := by omega
  have h0 : ¬ nn j < 0 := by rw [nnP (by omega)]; exact id
  rcases h.brkV j hj14 with q | q
  · obtain ⟨tv, tv8, etv⟩ := h.trvV j hj
    have hp : j * 9 + (Q + tv) % 9 < 126 := by omega
    have hp2 : 290 + (j * 9 + (Q + tv) % 9) < 20360 := by omega
    have er : nn (Q + tv) - nn (Q + tv) / 9 * 9 = nn ((Q + tv) % 9) := by
      have e : nn (Q + tv) / 9 * 9 = nn ((Q + tv) / 9 * 9) := by simp (disch := first | omega | decide) only [lt1, nnMl, nnMr, nnAl, nnAr, nnA, nnM, nnB, nnT, nnP, nnE, nnEl, nnEr, nnL, nnLl, nnLr, nnQ, nnQr, nnN, Nat.add_zero, if_false, if_true, Option.bind_some, not_true, not_false_iff, not_true_eq_false, not_false_eq_true, eq_self, Nat.not_lt_zero, z10, z01, or_true, true_or, or_false, false_or, true_and, false_and, nnDr]
      rw [e, nnS (a := Q + tv) (b := (Q + tv) / 9 * 9) (by omega), show Q + tv - (Q + tv) / 9 * 9 = (Q + tv) % 9 by omega]
    generalize hlk : out * g 12 j / 1000 = lk at *
    refine ⟨up2 (up2 g 20 0 (g 20 0 + lk)) 17 (j * 9 + (Q + tv) % 9) (g 17 (j * 9 + (Q + tv) % 9) + (out - lk)), up2 (up2 (up2 M 216 15 (M 216 15 + lk)) 216 13 (M 216 13 + (out - lk))) 216 (290 + (j * 9 + (Q + tv) % 9)) (M 216 (290 + (j * 9 + (Q + tv) % 9)) + (out - lk)), ?_, ?_, ?_, ?_, ?_⟩
    · unfold net_send_k0 net_send_k0_49 net_placeAt
      refine st_b (hC_y h.cC hC hj) (st_t (by decide) (st_t (by simp (disch := first | omega | decide) only [lt1, nnMl, nnMr, nnAl, nnAr, nnA, nnM, nnB, nnT, nnP, nnE, nnEl, nnEr, nnL, nnLl, nnLr, nnQ, nnQr, nnN, Nat.add_zero, if_false, if_true, Option.bind_some, not_true, not_false_iff, not_true_eq_false, not_false_eq_true, eq_self, Nat.not_lt_zero, z10, z01, or_true, true_or, or_false, false_or, true_and, false_and, hj14]) ?_))
      rw [nnT (by omega), q, hlk]
      refine st_t rfl (st_t (by simp (disch := first | omega | decide) only [lt1, nnMl, nnMr, nnAl, nnAr, nnA, nnM, nnB, nnT, nnP, nnE, nnEl, nnEr, nnL, nnLl, nnLr, nnQ, nnQr, nnN, Nat.add_zero, if_false, if_true, Option.bind_some, not_true, not_false_iff, not_true_eq_false, not_false_eq_true, eq_self, Nat.not_lt_zero, z10, z01, or_true, true_or, or_false, false_or, true_and, false_and, hj14]) (st_l (st_l (st_t (by simp (disch := first | omega | decide) only [lt1, nnMl, nnMr, nnAl, nnAr, nnA, nnM, nnB, nnT, nnP, nnE, nnEl, nnEr, nnL, nnLl, nnLr, nnQ, nnQr, nnN, Nat.add_zero, if_false, if_true, Option.bind_some, not_true, not_false_iff, not_true_eq_false, not_false_eq_true, eq_self, Nat.not_lt_zero, z10, z01, or_true, true_or, or_false, false_or, true_and, false_and, hj14]) (st_b rfl ?_)))))
      rw [u2n (show 2 ≠ 20 by decide), u2n (show 13 ≠ 20 by decide), h.cQ, etv, nnA, er, show nn j * 9 + nn ((Q + tv) % 9) = nn (j * 9 + (Q + tv) % 9) by simp (disch := first | omega | decide) only [lt1, nnMl, nnMr, nnAl, nnAr, nnA, nnM, nnB, nnT, nnP, nnE, nnEl, nnEr, nnL, nnLl, nnLr, nnQ, nnQr, nnN, Nat.add_zero, if_false, if_true, Option.bind_some, not_true, not_false_iff, not_true_eq_false, not_false_eq_true, eq_self, Nat.not_lt_zero, z10, z01, or_true, true_or, or_false, false_or, true_and, false_and]]
      refine st_t (by simp (disch := first | omega | decide) only [lt1, nnMl, nnMr, nnAl, nnAr, nnA, nnM, nnB, nnT, nnP, nnE, nnEl, nnEr, nnL, nnLl, nnLr, nnQ, nnQr, nnN, Nat.add_zero, if_false, if_true, Option.bind_some, not_true, not_false_iff, not_true_eq_false, not_false_eq_true, eq_self, Nat.not_lt_zero, z10, z01, or_true, true_or, or_false, false_or, true_and, false_and, hp]) (st_w (by simp (disch := first | omega | decide) only [lt1, nnMl, nnMr, nnAl, nnAr, nnA, nnM, nnB, nnT, nnP, nnE, nnEl, nnEr, nnL, nnLl, nnLr, nnQ, nnQr, nnN, Nat.add_zero, if_false, if_true, Option.bind_some, not_true, not_false_iff, not_true_eq_false, not_false_eq_true, eq_self, Nat.not_lt_zero, z10, z01, or_true, true_or, or_false, false_or, true_and, false_and, hp]) ?_)
      rw [nnT (by omega), u2n (show 17 ≠ 20 by decide)]
    · have k6 : m_channelOf_k6 (nn j) M = some 0 := by rw [← q]; exact mch6 h hj14
      unfold m_steps_k0_316 m_sends_k0
      refine st_f h0 (st_b (st_b k6 (st_t (by decide) ?_)) rfl)
      unfold m_sends_k0_36
      refine st_b (x := g 12 j) ?_ ?_
      · rw [← h.hig j hj14]
        exact chanOf_y (g := M) hj14 (k := 3) (by decide)
      · rw [hlk]
        refine st_b (x := (lk, up2 M 216 15 (M 216 15 + lk))) ?_ ?_
        · unfold m_adds
          exact st_t rfl (st_w rfl rfl)
        · have e4 : m_channelOf_k4 (nn j) (up2 M 216 15 (M 216 15 + lk)) = some (nn tv) := by
            have := chanOf_y (g := up2 M 216 15 (M 216 15 + lk)) hj14 (k := 4) (by decide)
            rw [u2e, up1_ne (by omega), h.trv j hj14, etv] at this
            exact this
          refine st_b e4 (st_b rfl ?_)
          rw [u2e, up1_ne (show 3 ≠ 15 by decide), h.aQ, nnA, er, show 290 + 9 * (0 + nn j) + nn ((Q + tv) % 9) = nn (290 + (j * 9 + (Q + tv) % 9)) by
            rw [show 290 + (j * 9 + (Q + tv) % 9) = 290 + 9 * (0 + j) + (Q + tv) % 9 by omega]
            simp (disch := first | omega | decide) only [lt1, nnMl, nnMr, nnAl, nnAr, nnA, nnM, nnB, nnT, nnP, nnE, nnEl, nnEr, nnL, nnLl, nnLr, nnQ, nnQr, nnN, Nat.add_zero, if_false, if_true, Option.bind_some, not_true, not_false_iff, not_true_eq_false, not_false_eq_true, eq_self, Nat.not_lt_zero, z10, z01, or_true, true_or, or_false, false_or, true_and, false_and]]
          unfold m_adds_k0_3
          refine st_t (by simp (disch := first | omega | decide) only [lt1, nnMl, nnMr, nnAl, nnAr, nnA, nnM, nnB, nnT, nnP, nnE, nnEl, nnEr, nnL, nnLl, nnLr, nnQ, nnQr, nnN, Nat.add_zero, if_false, if_true, Option.bind_some, not_true, not_false_iff, not_true_eq_false, not_false_eq_true, eq_self, Nat.not_lt_zero, z10, z01, or_true, true_or, or_false, false_or, true_and, false_and, hp2]) (st_b (st_l rfl) (st_w (by simp (disch := first | omega | decide) only [lt1, nnMl, nnMr, nnAl, nnAr, nnA, nnM, nnB, nnT, nnP, nnE, nnEl, nnEr, nnL, nnLl, nnLr, nnQ, nnQr, nnN, Nat.add_zero, if_false, if_true, Option.bind_some, not_true, not_false_iff, not_true_eq_false, not_false_eq_true, eq_self, Nat.not_lt_zero, z10, z01, or_true, true_or, or_false, false_or, true_and, false_and, hp2]) ?_))
          rw [nnT (by omega), u2e, up1_ne (show 13 ≠ 15 by decide), up1_ne (show 290 + (j * 9 + (Q + tv) % 9) ≠ 15 by omega)]
    · exact h.send0 hj (p := j * 9 + (Q + tv) % 9) (by omega) (by omega) (lk := lk) (y := out - lk) (fun i e1 e2 e3 e4 => by simp (disch := first | omega | decide) only [u2e, u2n, up1_eq, up1_ne, ne_eq]) (by simp (disch := first | omega | decide) only [u2e, u2n, up1_eq, up1_ne, ne_eq]) (by simp (disch := first | omega | decide) only [u2e, u2n, up1_eq, up1_ne, ne_eq]) (by simp (disch := first | omega | decide) only [u2e, u2n, up1_eq, up1_ne, ne_eq]) (by simp (disch := first | omega | decide) only [u2e, u2n, up1_eq, up1_ne, ne_eq]) (by simp (disch := first | omega | decide) only [u2e, u2n, up1_eq, up1_ne, ne_eq]) (by simp (disch := first | omega | decide) only [u2e, u2n, up1_eq, up1_ne, ne_eq]) (fun i e1 e2 e3 e4 => by simp (disch := first | omega | decide) only [u2e, u2n, up1_eq, up1_ne, ne_eq])
    · exact (FrG.w (by omega)).t (FrG.w (by omega))
    · exact ((FrM.w (by unfold iNet; omega)).t (FrM.w (by unfold iNet; omega))).t (FrM.w (by unfold iNet; omega))
  · refine ⟨up2 g 21 0 (g 21 0 + out), up2 M 216 16 (M 216 16 + out), ?_, ?_, ?_, ?_, ?_⟩
    · unfold net_send_k0
      refine st_b (hC_y h.cC hC hj) (st_t (by decide) (st_t (by simp (disch := first | omega | decide) only [lt1, nnMl, nnMr, nnAl, nnAr, nnA, nnM, nnB, nnT, nnP, nnE, nnEl, nnEr, nnL, nnLl, nnLr, nnQ, nnQr, nnN, Nat.add_zero, if_false, if_true, Option.bind_some, not_true, not_false_iff, not_true_eq_false, not_false_eq_true, eq_self, Nat.not_lt_zero, z10, z01, or_true, true_or, or_false, false_or, true_and, false_and, hj14]) ?_))
      rw [nnT (by omega), q]
      exact st_f (by decide) rfl
    · have k6 : m_channelOf_k6 (nn j) M = some 1 := by rw [← q]; exact mch6 h hj14
      unfold m_steps_k0_316 m_sends_k0 m_adds_k0_6
      exact st_f h0 (st_b (st_b k6 (st_f (by decide) (st_b (st_l rfl) rfl))) rfl)
    · exact h.lost0 (x := out) (fun i e1 e2 e3 => by simp (disch := first | omega | decide) only [u2e, u2n, up1_eq, up1_ne, ne_eq]) (by simp (disch := first | omega | decide) only [u2e, u2n, up1_eq, up1_ne, ne_eq]) (by simp (disch := first | omega | decide) only [u2e, u2n, up1_eq, up1_ne, ne_eq]) (by simp (disch := first | omega | decide) only [u2e, u2n, up1_eq, up1_ne, ne_eq]) (fun i e1 e2 => by simp (disch := first | omega | decide) only [u2e, u2n, up1_eq, up1_ne, ne_eq])
    · exact FrG.w (by omega)
    · exact FrM.w (by unfold iNet; omega)
theorem m184w_0 {a : Nat → Int32} (h : RNet g a N C Q) (hv : v < N) (hg : M 216 (140 + 5 * v + 2) = g 5 v) (h14 : ∀ j, j < 14 → M 216 (190 + 7 * j + 5) = g 14 j) {x : Int32} : m_steps_k0_184 (nn (140 + 5 * v)) x M = m_steps_k0_227 (nn (140 + 5 * v)) x (g 5 v) (ov g v x) M := by
  have hN := h.hN
  have hC := h.hC
  have hv10 : v < 10 := by omega
  have i2 : 140 + 5 * v + 2 < 20360 := by omega
  have e2 : nn (140 + 5 * v) + 2 = nn (140 + 5 * v + 2) := nnA _ 2
  have mch : ∀ j, j < 14 → m_channelOf_k5 (nn j) M = some (g 14 j) := fun j hj => by
    rw [← h14 j hj]
    exact chanOf_y (g := M) hj (k := 5) (by decide)
  unfold m_steps_k0_184
  rw [e2, nnT (by omega), hg]
  refine st_t (by simp (disch := first | omega | decide) only [lt1, nnMl, nnMr, nnAl, nnAr, nnA, nnM, nnB, nnT, nnP, nnE, nnEl, nnEr, nnL, nnLl, nnLr, nnQ, nnQr, nnN, Nat.add_zero, if_false, if_true, Option.bind_some, not_true, not_false_iff, not_true_eq_false, not_false_eq_true, eq_self, Nat.not_lt_zero, z10, z01, or_true, true_or, or_false, false_or, true_and, false_and, i2]) (st_l ?_)
  unfold ov
  rcases gate_v (M := fun _ => a) h hv with e | ⟨j, h1, h2, h3, h4⟩
  · rw [e, if_pos rfl]
    exact st_f (by decide) rfl
  · have hj14 : j < 14 := by omega
    rw [h3, h2, if_neg h4]
    refine st_t (nnE0 (by omega)) (st_b (mch j hj14) ?_)
    by_cases q : g 14 j ≤ x
    · refine st_t q (st_b (mch j hj14) ?_)
      by_cases q2 : g 14 j < x
      · rw [if_pos q2]
      · rw [if_neg q2, Int32.le_antisymm (Int32.not_lt.mp q2) q]
    · refine st_f q ?_
      rw [if_neg (fun e => q (Int32.le_of_lt e))]
theorem m184_0 (h : RNet g (M 216) N C Q) (hv : v < N) {x : Int32} : m_steps_k0_184 (nn (140 + 5 * v)) x M = m_steps_k0_227 (nn (140 + 5 * v)) x (g 5 v) (ov g v x) M := m184w_0 h hv (h.gate v (by have := h.hN; omega)) (fun j hj => h.brd j hj)
theorem m65_0 {x k : Int32} (hv : v < 10) (hk : M 216 (140 + 5 * v) = k) (k4 : ¬ k = 4) (k2 : ¬ k = 2) : m_steps_k0_65 (nn (140 + 5 * v)) x M = m_steps_k0_184 (nn (140 + 5 * v)) x M := by
  have i0 : 140 + 5 * v < 20360 := by omega
  unfold m_steps_k0_65
  rw [nnT (by omega), hk]
  exact st_t (by simp (disch := first | omega | decide) only [lt1, nnMl, nnMr, nnAl, nnAr, nnA, nnM, nnB, nnT, nnP, nnE, nnEl, nnEr, nnL, nnLl, nnLr, nnQ, nnQr, nnN, Nat.add_zero, if_false, if_true, Option.bind_some, not_true, not_false_iff, not_true_eq_false, not_false_eq_true, eq_self, Nat.not_lt_zero, z10, z01, or_true, true_or, or_false, false_or, true_and, false_and, i0]) (st_t k4 (st_t (by simp (disch := first | omega | decide) only [lt1, nnMl, nnMr, nnAl, nnAr, nnA, nnM, nnB, nnT, nnP, nnE, nnEl, nnEr, nnL, nnLl, nnLr, nnQ, nnQr, nnN, Nat.add_zero, if_false, if_true, Option.bind_some, not_true, not_false_iff, not_true_eq_false, not_false_eq_true, eq_self, Nat.not_lt_zero, z10, z01, or_true, true_or, or_false, false_or, true_and, false_and, i0]) (st_t k2 rfl)))
theorem m227_0 {x w out k : Int32} (hv : v < 10) (hk : M 216 (140 + 5 * v) = k) (k2 : ¬ k = 2) : m_steps_k0_227 (nn (140 + 5 * v)) x w out M = m_steps_k0_279 (nn (140 + 5 * v)) w out (up2 M 216 14 (M 216 14 + (x - out))) := by
  have i0 : 140 + 5 * v < 20360 := by omega
  unfold m_steps_k0_227 m_adds_k0_4
  rw [nnT (by omega), hk]
  exact st_t (by simp (disch := first | omega | decide) only [lt1, nnMl, nnMr, nnAl, nnAr, nnA, nnM, nnB, nnT, nnP, nnE, nnEl, nnEr, nnL, nnLl, nnLr, nnQ, nnQr, nnN, Nat.add_zero, if_false, if_true, Option.bind_some, not_true, not_false_iff, not_true_eq_false, not_false_eq_true, eq_self, Nat.not_lt_zero, z10, z01, or_true, true_or, or_false, false_or, true_and, false_and, i0]) (st_t k2 (st_b (st_l rfl) rfl))
theorem m279_0 {w out k : Int32} (hv : v < 10) (hk : M 216 (140 + 5 * v) = k) (k3 : ¬ k = 3) : m_steps_k0_279 (nn (140 + 5 * v)) w out M = m_steps_k0_316 w out M := by
  have i0 : 140 + 5 * v < 20360 := by omega
  unfold m_steps_k0_279
  rw [nnT (by omega), hk]
  exact st_t (by simp (disch := first | omega | decide) only [lt1, nnMl, nnMr, nnAl, nnAr, nnA, nnM, nnB, nnT, nnP, nnE, nnEl, nnEr, nnL, nnLl, nnLr, nnQ, nnQr, nnN, Nat.add_zero, if_false, if_true, Option.bind_some, not_true, not_false_iff, not_true_eq_false, not_false_eq_true, eq_self, Nat.not_lt_zero, z10, z01, or_true, true_or, or_false, false_or, true_and, false_and, i0]) (st_t k3 rfl)
theorem m279y_0 {w out : Int32} (hv : v < 10) (hk : M 216 (140 + 5 * v) = 3) : m_steps_k0_279 (nn (140 + 5 * v)) w out M = m_steps_k0_316 w out (up2 M 216 (140 + 5 * v + 3) (M 216 (140 + 5 * v + 3) + out * M 216 (140 + 5 * v + 1) / 100)) := by
  have i0 : 140 + 5 * v < 20360 := by omega
  have i1 : 140 + 5 * v + 1 < 20360 := by omega
  have i3 : 140 + 5 * v + 3 < 20360 := by omega
  have e3 : nn (140 + 5 * v) + 3 + 0 = nn (140 + 5 * v + 3) := by simp (disch := first | omega | decide) only [lt1, nnMl, nnMr, nnAl, nnAr, nnA, nnM, nnB, nnT, nnP, nnE, nnEl, nnEr, nnL, nnLl, nnLr, nnQ, nnQr, nnN, Nat.add_zero, if_false, if_true, Option.bind_some, not_true, not_false_iff, not_true_eq_false, not_false_eq_true, eq_self, Nat.not_lt_zero, z10, z01, or_true, true_or, or_false, false_or, true_and, false_and]
  have e1 : nn (140 + 5 * v) + 1 = nn (140 + 5 * v + 1) := nnA _ 1
  unfold m_steps_k0_279
  rw [nnT (show 140 + 5 * v < 2147483648 by omega), hk, e3, e1, nnT (show 140 + 5 * v + 3 < 2147483648 by omega), nnT (show 140 + 5 * v + 1 < 2147483648 by omega)]
  exact st_t (by simp (disch := first | omega | decide) only [lt1, nnMl, nnMr, nnAl, nnAr, nnA, nnM, nnB, nnT, nnP, nnE, nnEl, nnEr, nnL, nnLl, nnLr, nnQ, nnQr, nnN, Nat.add_zero, if_false, if_true, Option.bind_some, not_true, not_false_iff, not_true_eq_false, not_false_eq_true, eq_self, Nat.not_lt_zero, z10, z01, or_true, true_or, or_false, false_or, true_and, false_and, i0]) (st_f (by decide) (st_t (by simp (disch := first | omega | decide) only [lt1, nnMl, nnMr, nnAl, nnAr, nnA, nnM, nnB, nnT, nnP, nnE, nnEl, nnEr, nnL, nnLl, nnLr, nnQ, nnQr, nnN, Nat.add_zero, if_false, if_true, Option.bind_some, not_true, not_false_iff, not_true_eq_false, not_false_eq_true, eq_self, Nat.not_lt_zero, z10, z01, or_true, true_or, or_false, false_or, true_and, false_and, i3]) (st_t (by simp (disch := first | omega | decide) only [lt1, nnMl, nnMr, nnAl, nnAr, nnA, nnM, nnB, nnT, nnP, nnE, nnEl, nnEr, nnL, nnLl, nnLr, nnQ, nnQr, nnN, Nat.add_zero, if_false, if_true, Option.bind_some, not_true, not_false_iff, not_true_eq_false, not_false_eq_true, eq_self, Nat.not_lt_zero, z10, z01, or_true, true_or, or_false, false_or, true_and, false_and, i1]) (st_w (by simp (disch := first | omega | decide) only [lt1, nnMl, nnMr, nnAl, nnAr, nnA, nnM, nnB, nnT, nnP, nnE, nnEl, nnEr, nnL, nnLl, nnLr, nnQ, nnQr, nnN, Nat.add_zero, if_false, if_true, Option.bind_some, not_true, not_false_iff, not_true_eq_false, not_false_eq_true, eq_self, Nat.not_lt_zero, z10, z01, or_true, true_or, or_false, false_or, true_and, false_and, i3]) rfl))))
theorem passOn_x0 (h : RNet g (M 216) N C Q) (hv : v < N) {x : Int32} {g2 : Sg} (hs : net_send_k0 (g 5 v) (ov g v x) (up2 g 19 0 (g 19 0 + (x - ov g v x))) = some g2) : net_passOn_k0 (nn v) x g = some g2 := by
  have hN := h.hN
  have hv10 : v < 10 := by omega
  unfold net_passOn_k0
  refine st_b (out_x h hv) (st_l (st_t (by simp (disch := first | omega | decide) only [lt1, nnMl, nnMr, nnAl, nnAr, nnA, nnM, nnB, nnT, nnP, nnE, nnEl, nnEr, nnL, nnLl, nnLr, nnQ, nnQr, nnN, Nat.add_zero, if_false, if_true, Option.bind_some, not_true, not_false_iff, not_true_eq_false, not_false_eq_true, eq_self, Nat.not_lt_zero, z10, z01, or_true, true_or, or_false, false_or, true_and, false_and, hv10]) (st_b (x := g2) ?_ rfl)))
  rw [u2n (by decide), nnT (by omega)]
  exact hs
/-- on from the arrivals: kinds but tanks and fields -/
theorem pass_y0 (h : RNet g (M 216) N C Q) (hv : v < N) {x k : Int32} (hk : g 3 v = k) (k2 : ¬ k = 2) (k3 : ¬ k = 3) : ∃ g2 M2, net_passOn_k0 (nn v) x g = some g2 ∧ m_steps_k0_184 (nn (140 + 5 * v)) x M = some M2 ∧ RNet g2 (M2 216) N C Q ∧ FrG g g2 ∧ FrM M M2 := by
  have hN := h.hN
  have hv10 : v < 10 := by omega
  have hkM : M 216 (140 + 5 * v) = k := (h.kind v hv10).trans hk
  have hR : RNet (up2 g 19 0 (g 19 0 + (x - ov g v x))) ((up2 M 216 14 (M 216 14 + (x - ov g v x))) 216) N C Q := h.node0 hv (k2 := g 7 v) (sp := x - ov g v x) (fun i e1 e2 e3 e4 => by simp (disch := first | omega | decide) only [u2e, u2n, up1_eq, up1_ne, ne_eq]) (fun n hn => by
      rw [u2n (by decide)]
      by_cases e : n = v
      · rw [if_pos e, e]
      · rw [if_neg e]) (by simp (disch := first | omega | decide) only [u2e, u2n, up1_eq, up1_ne, ne_eq]) (by simp (disch := first | omega | decide) only [u2e, u2n, up1_eq, up1_ne, ne_eq]) (by simp (disch := first | omega | decide) only [u2e, u2n, up1_eq, up1_ne, ne_eq]; exact h.kep0 v hv10) (by simp (disch := first | omega | decide) only [u2e, u2n, up1_eq, up1_ne, ne_eq]) (by simp (disch := first | omega | decide) only [u2e, u2n, up1_eq, up1_ne, ne_eq]; rw [Int32.sub_self, ite_self, Int32.add_zero]) (by simp (disch := first | omega | decide) only [u2e, u2n, up1_eq, up1_ne, ne_eq]; rw [Int32.sub_self, ite_self, Int32.add_zero]) (by simp (disch := first | omega | decide) only [u2e, u2n, up1_eq, up1_ne, ne_eq]; rw [Int32.sub_self, ite_self, Int32.add_zero]) (fun i e1 e2 e3 e4 e5 e6 => by simp (disch := first | omega | decide) only [u2e, u2n, up1_eq, up1_ne, ne_eq])
  obtain ⟨g2, M2, r1, r2, r3, r4, r5⟩ := send_y0 hR (w := g 5 v) (out := ov g v x) (by
    rcases gate_v h hv with e | ⟨j, h1, h2, _⟩
    · exact Or.inl e
    · exact Or.inr ⟨j, h1, h2⟩)
  refine ⟨g2, M2, passOn_x0 h hv r1, ?_, r3, (FrG.w (by omega)).t r4, (FrM.w (by unfold iNet; omega)).t r5⟩
  rw [m184_0 h hv, m227_0 hv10 hkM k2, m279_0 hv10 (k := k) (by simp (disch := first | omega | decide) only [u2e, u2n, up1_eq, up1_ne, ne_eq]; exact hkM) k3]
  exact r2
theorem wheel_y0 (h : RNet g (M 216) N C Q) (hv : v < N) {x : Int32} (hk : g 3 v = 3) : ∃ g2 M2, net_passOn_k0 (nn v) x (up2 g 7 v (g 7 v + ov g v x * g 4 v / 100)) = some g2 ∧ m_steps_k0_184 (nn (140 + 5 * v)) x M = some M2 ∧ RNet g2 (M2 216) N C Q ∧ FrG g g2 ∧ FrM M M2 := by
  have hN := h.hN
  have hv10 : v < 10 := by omega
  have hkM : M 216 (140 + 5 * v) = 3 := (h.kind v hv10).trans hk
  generalize hd : ov g v x * g 4 v / 100 = dl at *
  have eov : ov (up2 g 7 v (g 7 v + dl)) v x = ov g v x := by
    unfold ov cn
    rw [u2n (by decide), u2n (by decide)]
  have hR : RNet (up2 (up2 g 7 v (g 7 v + dl)) 19 0 ((up2 g 7 v (g 7 v + dl)) 19 0 + (x - ov g v x))) ((up2 (up2 M 216 14 (M 216 14 + (x - ov g v x))) 216 (140 + 5 * v + 3) (M 216 (140 + 5 * v + 3) + dl)) 216) N C Q := h.node0 hv (k2 := g 7 v + dl) (sp := x - ov g v x) (fun i e1 e2 e3 e4 => by simp (disch := first | omega | decide) only [u2e, u2n, up1_eq, up1_ne, ne_eq]) (fun n hn => by
      rw [u2n (by decide), u2e]
      by_cases e : n = v
      · rw [if_pos e, e, up1_eq]
      · rw [if_neg e, up1_ne e]) (by simp (disch := first | omega | decide) only [u2e, u2n, up1_eq, up1_ne, ne_eq]) (by simp (disch := first | omega | decide) only [u2e, u2n, up1_eq, up1_ne, ne_eq]) (by simp (disch := first | omega | decide) only [u2e, u2n, up1_eq, up1_ne, ne_eq]; rw [h.kep0 v hv10]) (by simp (disch := first | omega | decide) only [u2e, u2n, up1_eq, up1_ne, ne_eq]) (by simp (disch := first | omega | decide) only [u2e, u2n, up1_eq, up1_ne, ne_eq]; rw [hk, if_neg (by decide), Int32.add_zero]) (by simp (disch := first | omega | decide) only [u2e, u2n, up1_eq, up1_ne, ne_eq]; rw [hk, if_neg (by decide), Int32.add_zero]) (by simp (disch := first | omega | decide) only [u2e, u2n, up1_eq, up1_ne, ne_eq]; rw [hk, if_neg (by decide), Int32.add_zero]) (fun i e1 e2 e3 e4 e5 e6 => by simp (disch := first | omega | decide) only [u2e, u2n, up1_eq, up1_ne, ne_eq])
  obtain ⟨g2, M2, r1, r2, r3, r4, r5⟩ := send_y0 hR (w := g 5 v) (out := ov g v x) (by
    rcases gate_v h hv with e | ⟨j, h1, h2, _⟩
    · exact Or.inl e
    · exact Or.inr ⟨j, h1, h2⟩)
  have h5 : RNet (up2 g 7 v (g 7 v + dl)) ((up2 (up2 M 216 14 (M 216 14 + (x - ov g v x))) 216 (140 + 5 * v + 3) (M 216 (140 + 5 * v + 3) + dl)) 216) N C Q → True := fun _ => trivial
  refine ⟨g2, M2, ?_, ?_, r3, ((FrG.w (by omega)).t (FrG.w (by omega))).t r4, ((FrM.w (by unfold iNet; omega)).t (FrM.w (by unfold iNet; omega))).t r5⟩
  · unfold net_passOn_k0
    refine st_b (x := ov g v x) ?_ (st_l (st_t (by simp (disch := first | omega | decide) only [lt1, nnMl, nnMr, nnAl, nnAr, nnA, nnM, nnB, nnT, nnP, nnE, nnEl, nnEr, nnL, nnLl, nnLr, nnQ, nnQr, nnN, Nat.add_zero, if_false, if_true, Option.bind_some, not_true, not_false_iff, not_true_eq_false, not_false_eq_true, eq_self, Nat.not_lt_zero, z10, z01, or_true, true_or, or_false, false_or, true_and, false_and, hv10]) (st_b (x := g2) ?_ rfl)))
    · have := out_x h hv (x := x)
      unfold net_outOf net_hasChannel at this ⊢
      rw [u2n (show 5 ≠ 7 by decide), u2n (show 2 ≠ 7 by decide), u2n (show 14 ≠ 7 by decide)]
      exact this
    · rw [u2n (by decide), u2n (by decide), nnT (by omega)]
      exact r1
  · rw [m184_0 h hv, m227_0 hv10 hkM (by decide), m279y_0 hv10 (by simp (disch := first | omega | decide) only [u2e, u2n, up1_eq, up1_ne, ne_eq]; exact hkM), u2e, up1_ne (show 140 + 5 * v + 3 ≠ 14 by omega), up1_ne (show 140 + 5 * v + 1 ≠ 14 by omega), h.size v hv10, hd]
    exact r2
theorem tank_y0 (h : RNet g (M 216) N C Q) (hv : v < N) {x : Int32} (hk : g 3 v = 2) : ∃ g2 M2, net_passTank_k0 (nn v) x g = some g2 ∧ m_steps_k0_65 (nn (140 + 5 * v)) x M = some M2 ∧ RNet g2 (M2 216) N C Q ∧ FrG g g2 ∧ FrM M M2 := by
  have hN := h.hN
  have hv10 : v < 10 := by omega
  have hkM : M 216 (140 + 5 * v) = 2 := (h.kind v hv10).trans hk
  have i0 : 140 + 5 * v < 20360 := by omega
  have i1 : 140 + 5 * v + 1 < 20360 := by omega
  have i3 : 140 + 5 * v + 3 < 20360 := by omega
  have e3 : nn (140 + 5 * v) + 3 + 0 = nn (140 + 5 * v + 3) := by simp (disch := first | omega | decide) only [lt1, nnMl, nnMr, nnAl, nnAr, nnA, nnM, nnB, nnT, nnP, nnE, nnEl, nnEr, nnL, nnLl, nnLr, nnQ, nnQr, nnN, Nat.add_zero, if_false, if_true, Option.bind_some, not_true, not_false_iff, not_true_eq_false, not_false_eq_true, eq_self, Nat.not_lt_zero, z10, z01, or_true, true_or, or_false, false_or, true_and, false_and]
  have e1 : nn (140 + 5 * v) + 1 = nn (140 + 5 * v + 1) := nnA _ 1
  generalize hal : g 7 v + x = al
  generalize hhd : (if g 4 v < al then g 4 v else al) = hd
  have hov : al - (al - hd) = hd := by
    rw [Int32.sub_eq_add_neg, Int32.neg_sub, i_addsub]
  have hR : RNet (up2 (up2 g 19 0 (g 19 0 + (al - hd))) 7 v (hd - ov g v hd)) ((up2 (up2 (up2 (up2 (up2 M 216 12 (M 216 12 + x)) 216 14 (M 216 14 + (al - hd))) 216 12 (M 216 12 + x + -(al - hd))) 216 12 (M 216 12 + x + -(al - hd) + -(ov g v hd))) 216 (140 + 5 * v + 3) (hd - ov g v hd)) 216) N C Q := h.node0 hv (k2 := hd - ov g v hd) (sp := al - hd) (fun i e1 e2 e3 e4 => by simp (disch := first | omega | decide) only [u2e, u2n, up1_eq, up1_ne, ne_eq]) (fun n hn => by
      rw [u2e]
      by_cases e : n = v
      · rw [if_pos e, e, up1_eq]
      · rw [if_neg e, up1_ne e, u2n (by decide)]) (by simp (disch := first | omega | decide) only [u2e, u2n, up1_eq, up1_ne, ne_eq]) (by simp (disch := first | omega | decide) only [u2e, u2n, up1_eq, up1_ne, ne_eq]) (by simp (disch := first | omega | decide) only [u2e, u2n, up1_eq, up1_ne, ne_eq]) (by simp (disch := first | omega | decide) only [u2e, u2n, up1_eq, up1_ne, ne_eq]) (by simp (disch := first | omega | decide) only [u2e, u2n, up1_eq, up1_ne, ne_eq]; rw [hk, if_neg (by decide), Int32.add_zero]) (by simp (disch := first | omega | decide) only [u2e, u2n, up1_eq, up1_ne, ne_eq]; rw [hk, if_neg (by decide), Int32.add_zero]) (by
      simp (disch := first | omega | decide) only [u2e, u2n, up1_eq, up1_ne, ne_eq]
      rw [hk, if_pos rfl, ← hal]
      exact tank_sum _ _ _ _ _) (fun i e1 e2 e3 e4 e5 e6 => by simp (disch := first | omega | decide) only [u2e, u2n, up1_eq, up1_ne, ne_eq])
  obtain ⟨g2, M2, r1, r2, r3, r4, r5⟩ := send_y0 hR (w := g 5 v) (out := ov g v hd) (by
    rcases gate_v h hv with e | ⟨j, h1, h2, _⟩
    · exact Or.inl e
    · exact Or.inr ⟨j, h1, h2⟩)
  refine ⟨g2, M2, ?_, ?_, r3, ((FrG.w (by omega)).t (FrG.w (by omega))).t r4, (((((FrM.w (by unfold iNet; omega)).t (FrM.w (by unfold iNet; omega))).t (FrM.w (by unfold iNet; omega))).t (FrM.w (by unfold iNet; omega))).t (FrM.w (by unfold iNet; omega))).t r5⟩
  · unfold net_passTank_k0
    rw [nnT (by omega), hal]
    refine st_w (by simp (disch := first | omega | decide) only [lt1, nnMl, nnMr, nnAl, nnAr, nnA, nnM, nnB, nnT, nnP, nnE, nnEl, nnEr, nnL, nnLl, nnLr, nnQ, nnQr, nnN, Nat.add_zero, if_false, if_true, Option.bind_some, not_true, not_false_iff, not_true_eq_false, not_false_eq_true, eq_self, Nat.not_lt_zero, z10, z01, or_true, true_or, or_false, false_or, true_and, false_and, hv10]) (st_w (by simp (disch := first | omega | decide) only [lt1, nnMl, nnMr, nnAl, nnAr, nnA, nnM, nnB, nnT, nnP, nnE, nnEl, nnEr, nnL, nnLl, nnLr, nnQ, nnQr, nnN, Nat.add_zero, if_false, if_true, Option.bind_some, not_true, not_false_iff, not_true_eq_false, not_false_eq_true, eq_self, Nat.not_lt_zero, z10, z01, or_true, true_or, or_false, false_or, true_and, false_and, hv10]) ?_)
    rw [hhd]
    refine st_b (out_x h hv) (st_l (st_w (by simp (disch := first | omega | decide) only [lt1, nnMl, nnMr, nnAl, nnAr, nnA, nnM, nnB, nnT, nnP, nnE, nnEl, nnEr, nnL, nnLl, nnLr, nnQ, nnQr, nnN, Nat.add_zero, if_false, if_true, Option.bind_some, not_true, not_false_iff, not_true_eq_false, not_false_eq_true, eq_self, Nat.not_lt_zero, z10, z01, or_true, true_or, or_false, false_or, true_and, false_and, hv10]) (st_t (by simp (disch := first | omega | decide) only [lt1, nnMl, nnMr, nnAl, nnAr, nnA, nnM, nnB, nnT, nnP, nnE, nnEl, nnEr, nnL, nnLl, nnLr, nnQ, nnQr, nnN, Nat.add_zero, if_false, if_true, Option.bind_some, not_true, not_false_iff, not_true_eq_false, not_false_eq_true, eq_self, Nat.not_lt_zero, z10, z01, or_true, true_or, or_false, false_or, true_and, false_and, hv10]) (st_b (x := g2) ?_ rfl))))
    rw [u2n (by decide), u2n (by decide)]
    exact r1
  · have es : (if al ≤ g 4 v then m_steps_k0_159 (nn (140 + 5 * v)) al 0 (up2 M 216 12 (M 216 12 + x)) else (if inb (nn (140 + 5 * v + 1)) 20360 = true then m_steps_k0_159 (nn (140 + 5 * v)) al (al - g 4 v) (up2 M 216 12 (M 216 12 + x)) else none)) = m_steps_k0_159 (nn (140 + 5 * v)) al (al - hd) (up2 M 216 12 (M 216 12 + x)) := by
      rw [← hhd]
      by_cases q : g 4 v < al
      · rw [if_pos q]
        exact st_f (Int32.not_le.mpr q) (st_t (by simp (disch := first | omega | decide) only [lt1, nnMl, nnMr, nnAl, nnAr, nnA, nnM, nnB, nnT, nnP, nnE, nnEl, nnEr, nnL, nnLl, nnLr, nnQ, nnQr, nnN, Nat.add_zero, if_false, if_true, Option.bind_some, not_true, not_false_iff, not_true_eq_false, not_false_eq_true, eq_self, Nat.not_lt_zero, z10, z01, or_true, true_or, or_false, false_or, true_and, false_and, i1]) rfl)
      · rw [if_neg q, Int32.sub_self]
        exact st_t (Int32.not_lt.mp q) rfl
    unfold m_steps_k0_65
    rw [nnT (show 140 + 5 * v < 2147483648 by omega), hkM, e3, e1]
    refine st_t (by simp (disch := first | omega | decide) only [lt1, nnMl, nnMr, nnAl, nnAr, nnA, nnM, nnB, nnT, nnP, nnE, nnEl, nnEr, nnL, nnLl, nnLr, nnQ, nnQr, nnN, Nat.add_zero, if_false, if_true, Option.bind_some, not_true, not_false_iff, not_true_eq_false, not_false_eq_true, eq_self, Nat.not_lt_zero, z10, z01, or_true, true_or, or_false, false_or, true_and, false_and, i0]) (st_t (by decide) (st_t (by simp (disch := first | omega | decide) only [lt1, nnMl, nnMr, nnAl, nnAr, nnA, nnM, nnB, nnT, nnP, nnE, nnEl, nnEr, nnL, nnLl, nnLr, nnQ, nnQr, nnN, Nat.add_zero, if_false, if_true, Option.bind_some, not_true, not_false_iff, not_true_eq_false, not_false_eq_true, eq_self, Nat.not_lt_zero, z10, z01, or_true, true_or, or_false, false_or, true_and, false_and, i0]) (st_f (by decide) (st_b (st_l rfl) (st_w (by simp (disch := first | omega | decide) only [lt1, nnMl, nnMr, nnAl, nnAr, nnA, nnM, nnB, nnT, nnP, nnE, nnEl, nnEr, nnL, nnLl, nnLr, nnQ, nnQr, nnN, Nat.add_zero, if_false, if_true, Option.bind_some, not_true, not_false_iff, not_true_eq_false, not_false_eq_true, eq_self, Nat.not_lt_zero, z10, z01, or_true, true_or, or_false, false_or, true_and, false_and, i3]) (st_t (by simp (disch := first | omega | decide) only [lt1, nnMl, nnMr, nnAl, nnAr, nnA, nnM, nnB, nnT, nnP, nnE, nnEl, nnEr, nnL, nnLl, nnLr, nnQ, nnQr, nnN, Nat.add_zero, if_false, if_true, Option.bind_some, not_true, not_false_iff, not_true_eq_false, not_false_eq_true, eq_self, Nat.not_lt_zero, z10, z01, or_true, true_or, or_false, false_or, true_and, false_and, i1]) ?_))))))
    rw [nnT (show 140 + 5 * v + 3 < 2147483648 by omega), nnT (show 140 + 5 * v + 1 < 2147483648 by omega), u2e, up1_ne (show 140 + 5 * v + 3 ≠ 12 by omega), up1_ne (show 140 + 5 * v + 1 ≠ 12 by omega), h.kep0 v hv10, h.size v hv10, Int32.add_comm x, hal, es]
    unfold m_steps_k0_159 m_adds_k0_4 m_adds_k0_2
    refine st_b (st_l rfl) (st_b (st_l rfl) (st_l ?_))
    rw [hov, m184w_0 (g := g) (v := v) h hv (by simp (disch := first | omega | decide) only [u2e, u2n, up1_eq, up1_ne, ne_eq]; exact h.gate v hv10) (fun j hj => by simp (disch := first | omega | decide) only [u2e, u2n, up1_eq, up1_ne, ne_eq]; exact h.brd j hj)]
    unfold m_steps_k0_227 m_adds_k0_2
    rw [nnT (show 140 + 5 * v < 2147483648 by omega), e3, nnT (show 140 + 5 * v + 3 < 2147483648 by omega)]
    refine st_t (by simp (disch := first | omega | decide) only [lt1, nnMl, nnMr, nnAl, nnAr, nnA, nnM, nnB, nnT, nnP, nnE, nnEl, nnEr, nnL, nnLl, nnLr, nnQ, nnQr, nnN, Nat.add_zero, if_false, if_true, Option.bind_some, not_true, not_false_iff, not_true_eq_false, not_false_eq_true, eq_self, Nat.not_lt_zero, z10, z01, or_true, true_or, or_false, false_or, true_and, false_and, i0]) (st_f (by simp (disch := first | omega | decide) only [u2e, u2n, up1_eq, up1_ne, ne_eq]; rw [hkM]; decide) (st_b (st_l rfl) (st_w (by simp (disch := first | omega | decide) only [lt1, nnMl, nnMr, nnAl, nnAr, nnA, nnM, nnB, nnT, nnP, nnE, nnEl, nnEr, nnL, nnLl, nnLr, nnQ, nnQr, nnN, Nat.add_zero, if_false, if_true, Option.bind_some, not_true, not_false_iff, not_true_eq_false, not_false_eq_true, eq_self, Nat.not_lt_zero, z10, z01, or_true, true_or, or_false, false_or, true_and, false_and, i3]) ?_)))
    rw [m279_0 hv10 (k := 2) (by simp (disch := first | omega | decide) only [u2e, u2n, up1_eq, up1_ne, ne_eq]; exact hkM) (by decide)]
    simp (disch := first | omega | decide) only [u2e, u2n, up1_eq, up1_ne, ne_eq]
    exact r2
theorem send_y1 (h : RNet g (M 216) N C Q) {w out : Int32} (hw : w = -1 ∨ ∃ j, j < C ∧ w = nn j) : ∃ g2 M2, net_send_k1 w out g = some g2 ∧ m_steps_k1_316 w out M = some M2 ∧ RNet g2 (M2 216) N C Q ∧ FrG g g2 ∧ FrM M M2 := by
  have hC := h.hC
  have hQ := h.hQ
  rcases hw with rfl | ⟨j, hj, rfl⟩
  · refine ⟨g, M, ?_, ?_, h, FrG.r, FrM.r⟩
    · unfold net_send_k1
      exact st_b hC_neg (st_f (by decide) rfl)
    · unfold m_steps_k1_316
      exact st_t (by decide) rfl
  have hj14 : j < 14 := by omega
  have h0 : ¬ nn j < 0 := by rw [nnP (by omega)]; exact id
  rcases h.brkV j hj14 with q | q
  · obtain ⟨tv, tv8, etv⟩ := h.trvV j hj
    have hp : j * 9 + (Q + tv) % 9 < 126 := by omega
    have hp2 : 416 + (j * 9 + (Q + tv) % 9) < 20360 := by omega
    have er : nn (Q + tv) - nn (Q + tv) / 9 * 9 = nn ((Q + tv) % 9) := by
      have e : nn (Q + tv) / 9 * 9 = nn ((Q + tv) / 9 * 9) := by simp (disch := first | omega | decide) only [lt1, nnMl, nnMr, nnAl, nnAr, nnA, nnM, nnB, nnT, nnP, nnE, nnEl, nnEr, nnL, nnLl, nnLr, nnQ, nnQr, nnN, Nat.add_zero, if_false, if_true, Option.bind_some, not_true, not_false_iff, not_true_eq_false, not_false_eq_true, eq_self, Nat.not_lt_zero, z10, z01, or_true, true_or, or_false, false_or, true_and, false_and, nnDr]
      rw [e, nnS (a := Q + tv) (b := (Q + tv) / 9 * 9) (by omega), show Q + tv - (Q + tv) / 9 * 9 = (Q + tv) % 9 by omega]
    generalize hlk : out * g 11 j / 1000 = lk at *
    refine ⟨up2 (up2 g 20 1 (g 20 1 + lk)) 18 (j * 9 + (Q + tv) % 9) (g 18 (j * 9 + (Q + tv) % 9) + (out - lk)), up2 (up2 (up2 M 216 22 (M 216 22 + lk)) 216 20 (M 216 20 + (out - lk))) 216 (416 + (j * 9 + (Q + tv) % 9)) (M 216 (416 + (j * 9 + (Q + tv) % 9)) + (out - lk)), ?_, ?_, ?_, ?_, ?_⟩
    · unfold net_send_k1 net_send_k1_49 net_placeAt
      refine st_b (hC_y h.cC hC hj) (st_t (by decide) (st_t (by simp (disch := first | omega | decide) only [lt1, nnMl, nnMr, nnAl, nnAr, nnA, nnM, nnB, nnT, nnP, nnE, nnEl, nnEr, nnL, nnLl, nnLr, nnQ, nnQr, nnN, Nat.add_zero, if_false, if_true, Option.bind_some, not_true, not_false_iff, not_true_eq_false, not_false_eq_true, eq_self, Nat.not_lt_zero, z10, z01, or_true, true_or, or_false, false_or, true_and, false_and, hj14]) ?_))
      rw [nnT (by omega), q, hlk]
      refine st_t rfl (st_t (by simp (disch := first | omega | decide) only [lt1, nnMl, nnMr, nnAl, nnAr, nnA, nnM, nnB, nnT, nnP, nnE, nnEl, nnEr, nnL, nnLl, nnLr, nnQ, nnQr, nnN, Nat.add_zero, if_false, if_true, Option.bind_some, not_true, not_false_iff, not_true_eq_false, not_false_eq_true, eq_self, Nat.not_lt_zero, z10, z01, or_true, true_or, or_false, false_or, true_and, false_and, hj14]) (st_l (st_l (st_t (by simp (disch := first | omega | decide) only [lt1, nnMl, nnMr, nnAl, nnAr, nnA, nnM, nnB, nnT, nnP, nnE, nnEl, nnEr, nnL, nnLl, nnLr, nnQ, nnQr, nnN, Nat.add_zero, if_false, if_true, Option.bind_some, not_true, not_false_iff, not_true_eq_false, not_false_eq_true, eq_self, Nat.not_lt_zero, z10, z01, or_true, true_or, or_false, false_or, true_and, false_and, hj14]) (st_b rfl ?_)))))
      rw [u2n (show 2 ≠ 20 by decide), u2n (show 13 ≠ 20 by decide), h.cQ, etv, nnA, er, show nn j * 9 + nn ((Q + tv) % 9) = nn (j * 9 + (Q + tv) % 9) by simp (disch := first | omega | decide) only [lt1, nnMl, nnMr, nnAl, nnAr, nnA, nnM, nnB, nnT, nnP, nnE, nnEl, nnEr, nnL, nnLl, nnLr, nnQ, nnQr, nnN, Nat.add_zero, if_false, if_true, Option.bind_some, not_true, not_false_iff, not_true_eq_false, not_false_eq_true, eq_self, Nat.not_lt_zero, z10, z01, or_true, true_or, or_false, false_or, true_and, false_and]]
      refine st_t (by simp (disch := first | omega | decide) only [lt1, nnMl, nnMr, nnAl, nnAr, nnA, nnM, nnB, nnT, nnP, nnE, nnEl, nnEr, nnL, nnLl, nnLr, nnQ, nnQr, nnN, Nat.add_zero, if_false, if_true, Option.bind_some, not_true, not_false_iff, not_true_eq_false, not_false_eq_true, eq_self, Nat.not_lt_zero, z10, z01, or_true, true_or, or_false, false_or, true_and, false_and, hp]) (st_w (by simp (disch := first | omega | decide) only [lt1, nnMl, nnMr, nnAl, nnAr, nnA, nnM, nnB, nnT, nnP, nnE, nnEl, nnEr, nnL, nnLl, nnLr, nnQ, nnQr, nnN, Nat.add_zero, if_false, if_true, Option.bind_some, not_true, not_false_iff, not_true_eq_false, not_false_eq_true, eq_self, Nat.not_lt_zero, z10, z01, or_true, true_or, or_false, false_or, true_and, false_and, hp]) ?_)
      rw [nnT (by omega), u2n (show 18 ≠ 20 by decide)]
    · have k6 : m_channelOf_k6 (nn j) M = some 0 := by rw [← q]; exact mch6 h hj14
      unfold m_steps_k1_316 m_sends_k1
      refine st_f h0 (st_b (st_b k6 (st_t (by decide) ?_)) rfl)
      unfold m_sends_k1_36
      refine st_b (x := g 11 j) ?_ ?_
      · rw [← h.low j hj14]
        exact chanOf_y (g := M) hj14 (k := 2) (by decide)
      · rw [hlk]
        refine st_b (x := (lk, up2 M 216 22 (M 216 22 + lk))) ?_ ?_
        · unfold m_adds
          exact st_t rfl (st_w rfl rfl)
        · have e4 : m_channelOf_k4 (nn j) (up2 M 216 22 (M 216 22 + lk)) = some (nn tv) := by
            have := chanOf_y (g := up2 M 216 22 (M 216 22 + lk)) hj14 (k := 4) (by decide)
            rw [u2e, up1_ne (by omega), h.trv j hj14, etv] at this
            exact this
          refine st_b e4 (st_b rfl ?_)
          rw [u2e, up1_ne (show 3 ≠ 22 by decide), h.aQ, nnA, er, show 290 + 9 * (14 + nn j) + nn ((Q + tv) % 9) = nn (416 + (j * 9 + (Q + tv) % 9)) by
            rw [show 416 + (j * 9 + (Q + tv) % 9) = 290 + 9 * (14 + j) + (Q + tv) % 9 by omega]
            simp (disch := first | omega | decide) only [lt1, nnMl, nnMr, nnAl, nnAr, nnA, nnM, nnB, nnT, nnP, nnE, nnEl, nnEr, nnL, nnLl, nnLr, nnQ, nnQr, nnN, Nat.add_zero, if_false, if_true, Option.bind_some, not_true, not_false_iff, not_true_eq_false, not_false_eq_true, eq_self, Nat.not_lt_zero, z10, z01, or_true, true_or, or_false, false_or, true_and, false_and]]
          unfold m_adds_k1_3
          refine st_t (by simp (disch := first | omega | decide) only [lt1, nnMl, nnMr, nnAl, nnAr, nnA, nnM, nnB, nnT, nnP, nnE, nnEl, nnEr, nnL, nnLl, nnLr, nnQ, nnQr, nnN, Nat.add_zero, if_false, if_true, Option.bind_some, not_true, not_false_iff, not_true_eq_false, not_false_eq_true, eq_self, Nat.not_lt_zero, z10, z01, or_true, true_or, or_false, false_or, true_and, false_and, hp2]) (st_b (st_l rfl) (st_w (by simp (disch := first | omega | decide) only [lt1, nnMl, nnMr, nnAl, nnAr, nnA, nnM, nnB, nnT, nnP, nnE, nnEl, nnEr, nnL, nnLl, nnLr, nnQ, nnQr, nnN, Nat.add_zero, if_false, if_true, Option.bind_some, not_true, not_false_iff, not_true_eq_false, not_false_eq_true, eq_self, Nat.not_lt_zero, z10, z01, or_true, true_or, or_false, false_or, true_and, false_and, hp2]) ?_))
          rw [nnT (by omega), u2e, up1_ne (show 20 ≠ 22 by decide), up1_ne (show 416 + (j * 9 + (Q + tv) % 9) ≠ 22 by omega)]
    · exact h.send1 hj (p := j * 9 + (Q + tv) % 9) (by omega) (by omega) (lk := lk) (y := out - lk) (fun i e1 e2 e3 e4 => by simp (disch := first | omega | decide) only [u2e, u2n, up1_eq, up1_ne, ne_eq]) (by simp (disch := first | omega | decide) only [u2e, u2n, up1_eq, up1_ne, ne_eq]) (by simp (disch := first | omega | decide) only [u2e, u2n, up1_eq, up1_ne, ne_eq]) (by simp (disch := first | omega | decide) only [u2e, u2n, up1_eq, up1_ne, ne_eq]) (by simp (disch := first | omega | decide) only [u2e, u2n, up1_eq, up1_ne, ne_eq]) (by simp (disch := first | omega | decide) only [u2e, u2n, up1_eq, up1_ne, ne_eq]) (by simp (disch := first | omega | decide) only [u2e, u2n, up1_eq, up1_ne, ne_eq]) (fun i e1 e2 e3 e4 => by simp (disch := first | omega | decide) only [u2e, u2n, up1_eq, up1_ne, ne_eq])
    · exact (FrG.w (by omega)).t (FrG.w (by omega))
    · exact ((FrM.w (by unfold iNet; omega)).t (FrM.w (by unfold iNet; omega))).t (FrM.w (by unfold iNet; omega))
  · refine ⟨up2 g 21 1 (g 21 1 + out), up2 M 216 23 (M 216 23 + out), ?_, ?_, ?_, ?_, ?_⟩
    · unfold net_send_k1
      refine st_b (hC_y h.cC hC hj) (st_t (by decide) (st_t (by simp (disch := first | omega | decide) only [lt1, nnMl, nnMr, nnAl, nnAr, nnA, nnM, nnB, nnT, nnP, nnE, nnEl, nnEr, nnL, nnLl, nnLr, nnQ, nnQr, nnN, Nat.add_zero, if_false, if_true, Option.bind_some, not_true, not_false_iff, not_true_eq_false, not_false_eq_true, eq_self, Nat.not_lt_zero, z10, z01, or_true, true_or, or_false, false_or, true_and, false_and, hj14]) ?_))
      rw [nnT (by omega), q]
      exact st_f (by decide) rfl
    · have k6 : m_channelOf_k6 (nn j) M = some 1 := by rw [← q]; exact mch6 h hj14
      unfold m_steps_k1_316 m_sends_k1 m_adds_k1_6
      exact st_f h0 (st_b (st_b k6 (st_f (by decide) (st_b (st_l rfl) rfl))) rfl)
    · exact h.lost1 (x := out) (fun i e1 e2 e3 => by simp (disch := first | omega | decide) only [u2e, u2n, up1_eq, up1_ne, ne_eq]) (by simp (disch := first | omega | decide) only [u2e, u2n, up1_eq, up1_ne, ne_eq]) (by simp (disch := first | omega | decide) only [u2e, u2n, up1_eq, up1_ne, ne_eq]) (by simp (disch := first | omega | decide) only [u2e, u2n, up1_eq, up1_ne, ne_eq]) (fun i e1 e2 => by simp (disch := first | omega | decide) only [u2e, u2n, up1_eq, up1_ne, ne_eq])
    · exact FrG.w (by omega)
    · exact FrM.w (by unfold iNet; omega)
theorem m184w_1 {a : Nat → Int32} (h : RNet g a N C Q) (hv : v < N) (hg : M 216 (140 + 5 * v + 2) = g 5 v) (h14 : ∀ j, j < 14 → M 216 (190 + 7 * j + 5) = g 14 j) {x : Int32} : m_steps_k1_184 (nn (140 + 5 * v)) x M = m_steps_k1_227 (nn (140 + 5 * v)) x (g 5 v) (ov g v x) M := by
  have hN := h.hN
  have hC := h.hC
  have hv10 : v < 10 := by omega
  have i2 : 140 + 5 * v + 2 < 20360 := by omega
  have e2 : nn (140 + 5 * v) + 2 = nn (140 + 5 * v + 2) := nnA _ 2
  have mch : ∀ j, j < 14 → m_channelOf_k5 (nn j) M = some (g 14 j) := fun j hj => by
    rw [← h14 j hj]
    exact chanOf_y (g := M) hj (k := 5) (by decide)
  unfold m_steps_k1_184
  rw [e2, nnT (by omega), hg]
  refine st_t (by simp (disch := first | omega | decide) only [lt1, nnMl, nnMr, nnAl, nnAr, nnA, nnM, nnB, nnT, nnP, nnE, nnEl, nnEr, nnL, nnLl, nnLr, nnQ, nnQr, nnN, Nat.add_zero, if_false, if_true, Option.bind_some, not_true, not_false_iff, not_true_eq_false, not_false_eq_true, eq_self, Nat.not_lt_zero, z10, z01, or_true, true_or, or_false, false_or, true_and, false_and, i2]) (st_l ?_)
  unfold ov
  rcases gate_v (M := fun _ => a) h hv with e | ⟨j, h1, h2, h3, h4⟩
  · rw [e, if_pos rfl]
    exact st_f (by decide) rfl
  · have hj14 : j < 14 := by omega
    rw [h3, h2, if_neg h4]
    refine st_t (nnE0 (by omega)) (st_b (mch j hj14) ?_)
    by_cases q : g 14 j ≤ x
    · refine st_t q (st_b (mch j hj14) ?_)
      by_cases q2 : g 14 j < x
      · rw [if_pos q2]
      · rw [if_neg q2, Int32.le_antisymm (Int32.not_lt.mp q2) q]
    · refine st_f q ?_
      rw [if_neg (fun e => q (Int32.le_of_lt e))]
theorem m184_1 (h : RNet g (M 216) N C Q) (hv : v < N) {x : Int32} : m_steps_k1_184 (nn (140 + 5 * v)) x M = m_steps_k1_227 (nn (140 + 5 * v)) x (g 5 v) (ov g v x) M := m184w_1 h hv (h.gate v (by have := h.hN; omega)) (fun j hj => h.brd j hj)
theorem m65_1 {x k : Int32} (hv : v < 10) (hk : M 216 (140 + 5 * v) = k) (k4 : ¬ k = 4) (k2 : ¬ k = 2) : m_steps_k1_65 (nn (140 + 5 * v)) x M = m_steps_k1_184 (nn (140 + 5 * v)) x M := by
  have i0 : 140 + 5 * v < 20360 := by omega
  unfold m_steps_k1_65
  rw [nnT (by omega), hk]
  exact st_t (by simp (disch := first | omega | decide) only [lt1, nnMl, nnMr, nnAl, nnAr, nnA, nnM, nnB, nnT, nnP, nnE, nnEl, nnEr, nnL, nnLl, nnLr, nnQ, nnQr, nnN, Nat.add_zero, if_false, if_true, Option.bind_some, not_true, not_false_iff, not_true_eq_false, not_false_eq_true, eq_self, Nat.not_lt_zero, z10, z01, or_true, true_or, or_false, false_or, true_and, false_and, i0]) (st_t k4 (st_t (by simp (disch := first | omega | decide) only [lt1, nnMl, nnMr, nnAl, nnAr, nnA, nnM, nnB, nnT, nnP, nnE, nnEl, nnEr, nnL, nnLl, nnLr, nnQ, nnQr, nnN, Nat.add_zero, if_false, if_true, Option.bind_some, not_true, not_false_iff, not_true_eq_false, not_false_eq_true, eq_self, Nat.not_lt_zero, z10, z01, or_true, true_or, or_false, false_or, true_and, false_and, i0]) (st_t k2 rfl)))
theorem m227_1 {x w out k : Int32} (hv : v < 10) (hk : M 216 (140 + 5 * v) = k) (k2 : ¬ k = 2) : m_steps_k1_227 (nn (140 + 5 * v)) x w out M = m_steps_k1_279 (nn (140 + 5 * v)) w out (up2 M 216 21 (M 216 21 + (x - out))) := by
  have i0 : 140 + 5 * v < 20360 := by omega
  unfold m_steps_k1_227 m_adds_k1_4
  rw [nnT (by omega), hk]
  exact st_t (by simp (disch := first | omega | decide) only [lt1, nnMl, nnMr, nnAl, nnAr, nnA, nnM, nnB, nnT, nnP, nnE, nnEl, nnEr, nnL, nnLl, nnLr, nnQ, nnQr, nnN, Nat.add_zero, if_false, if_true, Option.bind_some, not_true, not_false_iff, not_true_eq_false, not_false_eq_true, eq_self, Nat.not_lt_zero, z10, z01, or_true, true_or, or_false, false_or, true_and, false_and, i0]) (st_t k2 (st_b (st_l rfl) rfl))
theorem m279_1 {w out k : Int32} (hv : v < 10) (hk : M 216 (140 + 5 * v) = k) (k3 : ¬ k = 3) : m_steps_k1_279 (nn (140 + 5 * v)) w out M = m_steps_k1_316 w out M := by
  have i0 : 140 + 5 * v < 20360 := by omega
  unfold m_steps_k1_279
  rw [nnT (by omega), hk]
  exact st_t (by simp (disch := first | omega | decide) only [lt1, nnMl, nnMr, nnAl, nnAr, nnA, nnM, nnB, nnT, nnP, nnE, nnEl, nnEr, nnL, nnLl, nnLr, nnQ, nnQr, nnN, Nat.add_zero, if_false, if_true, Option.bind_some, not_true, not_false_iff, not_true_eq_false, not_false_eq_true, eq_self, Nat.not_lt_zero, z10, z01, or_true, true_or, or_false, false_or, true_and, false_and, i0]) (st_t k3 rfl)
theorem m279y_1 {w out : Int32} (hv : v < 10) (hk : M 216 (140 + 5 * v) = 3) : m_steps_k1_279 (nn (140 + 5 * v)) w out M = m_steps_k1_316 w out (up2 M 216 (140 + 5 * v + 4) (M 216 (140 + 5 * v + 4) + out * M 216 (140 + 5 * v + 1) / 100)) := by
  have i0 : 140 + 5 * v < 20360 := by omega
  have i1 : 140 + 5 * v + 1 < 20360 := by omega
  have i3 : 140 + 5 * v + 4 < 20360 := by omega
  have e3 : nn (140 + 5 * v) + 3 + 1 = nn (140 + 5 * v + 4) := by simp (disch := first | omega | decide) only [lt1, nnMl, nnMr, nnAl, nnAr, nnA, nnM, nnB, nnT, nnP, nnE, nnEl, nnEr, nnL, nnLl, nnLr, nnQ, nnQr, nnN, Nat.add_zero, if_false, if_true, Option.bind_some, not_true, not_false_iff, not_true_eq_false, not_false_eq_true, eq_self, Nat.not_lt_zero, z10, z01, or_true, true_or, or_false, false_or, true_and, false_and]
  have e1 : nn (140 + 5 * v) + 1 = nn (140 + 5 * v + 1) := nnA _ 1
  unfold m_steps_k1_279
  rw [nnT (show 140 + 5 * v < 2147483648 by omega), hk, e3, e1, nnT (show 140 + 5 * v + 4 < 2147483648 by omega), nnT (show 140 + 5 * v + 1 < 2147483648 by omega)]
  exact st_t (by simp (disch := first | omega | decide) only [lt1, nnMl, nnMr, nnAl, nnAr, nnA, nnM, nnB, nnT, nnP, nnE, nnEl, nnEr, nnL, nnLl, nnLr, nnQ, nnQr, nnN, Nat.add_zero, if_false, if_true, Option.bind_some, not_true, not_false_iff, not_true_eq_false, not_false_eq_true, eq_self, Nat.not_lt_zero, z10, z01, or_true, true_or, or_false, false_or, true_and, false_and, i0]) (st_f (by decide) (st_t (by simp (disch := first | omega | decide) only [lt1, nnMl, nnMr, nnAl, nnAr, nnA, nnM, nnB, nnT, nnP, nnE, nnEl, nnEr, nnL, nnLl, nnLr, nnQ, nnQr, nnN, Nat.add_zero, if_false, if_true, Option.bind_some, not_true, not_false_iff, not_true_eq_false, not_false_eq_true, eq_self, Nat.not_lt_zero, z10, z01, or_true, true_or, or_false, false_or, true_and, false_and, i3]) (st_t (by simp (disch := first | omega | decide) only [lt1, nnMl, nnMr, nnAl, nnAr, nnA, nnM, nnB, nnT, nnP, nnE, nnEl, nnEr, nnL, nnLl, nnLr, nnQ, nnQr, nnN, Nat.add_zero, if_false, if_true, Option.bind_some, not_true, not_false_iff, not_true_eq_false, not_false_eq_true, eq_self, Nat.not_lt_zero, z10, z01, or_true, true_or, or_false, false_or, true_and, false_and, i1]) (st_w (by simp (disch := first | omega | decide) only [lt1, nnMl, nnMr, nnAl, nnAr, nnA, nnM, nnB, nnT, nnP, nnE, nnEl, nnEr, nnL, nnLl, nnLr, nnQ, nnQr, nnN, Nat.add_zero, if_false, if_true, Option.bind_some, not_true, not_false_iff, not_true_eq_false, not_false_eq_true, eq_self, Nat.not_lt_zero, z10, z01, or_true, true_or, or_false, false_or, true_and, false_and, i3]) rfl))))
theorem passOn_x1 (h : RNet g (M 216) N C Q) (hv : v < N) {x : Int32} {g2 : Sg} (hs : net_send_k1 (g 5 v) (ov g v x) (up2 g 19 1 (g 19 1 + (x - ov g v x))) = some g2) : net_passOn_k1 (nn v) x g = some g2 := by
  have hN := h.hN
  have hv10 : v < 10 := by omega
  unfold net_passOn_k1
  refine st_b (out_x h hv) (st_l (st_t (by simp (disch := first | omega | decide) only [lt1, nnMl, nnMr, nnAl, nnAr, nnA, nnM, nnB, nnT, nnP, nnE, nnEl, nnEr, nnL, nnLl, nnLr, nnQ, nnQr, nnN, Nat.add_zero, if_false, if_true, Option.bind_some, not_true, not_false_iff, not_true_eq_false, not_false_eq_true, eq_self, Nat.not_lt_zero, z10, z01, or_true, true_or, or_false, false_or, true_and, false_and, hv10]) (st_b (x := g2) ?_ rfl)))
  rw [u2n (by decide), nnT (by omega)]
  exact hs
/-- on from the arrivals: kinds but tanks and fields -/
theorem pass_y1 (h : RNet g (M 216) N C Q) (hv : v < N) {x k : Int32} (hk : g 3 v = k) (k2 : ¬ k = 2) (k3 : ¬ k = 3) : ∃ g2 M2, net_passOn_k1 (nn v) x g = some g2 ∧ m_steps_k1_184 (nn (140 + 5 * v)) x M = some M2 ∧ RNet g2 (M2 216) N C Q ∧ FrG g g2 ∧ FrM M M2 := by
  have hN := h.hN
  have hv10 : v < 10 := by omega
  have hkM : M 216 (140 + 5 * v) = k := (h.kind v hv10).trans hk
  have hR : RNet (up2 g 19 1 (g 19 1 + (x - ov g v x))) ((up2 M 216 21 (M 216 21 + (x - ov g v x))) 216) N C Q := h.node1 hv (k2 := g 8 v) (sp := x - ov g v x) (fun i e1 e2 e3 e4 => by simp (disch := first | omega | decide) only [u2e, u2n, up1_eq, up1_ne, ne_eq]) (fun n hn => by
      rw [u2n (by decide)]
      by_cases e : n = v
      · rw [if_pos e, e]
      · rw [if_neg e]) (by simp (disch := first | omega | decide) only [u2e, u2n, up1_eq, up1_ne, ne_eq]) (by simp (disch := first | omega | decide) only [u2e, u2n, up1_eq, up1_ne, ne_eq]) (by simp (disch := first | omega | decide) only [u2e, u2n, up1_eq, up1_ne, ne_eq]; exact h.kep1 v hv10) (by simp (disch := first | omega | decide) only [u2e, u2n, up1_eq, up1_ne, ne_eq]) (by simp (disch := first | omega | decide) only [u2e, u2n, up1_eq, up1_ne, ne_eq]; rw [Int32.sub_self, ite_self, Int32.add_zero]) (by simp (disch := first | omega | decide) only [u2e, u2n, up1_eq, up1_ne, ne_eq]; rw [Int32.sub_self, ite_self, Int32.add_zero]) (by simp (disch := first | omega | decide) only [u2e, u2n, up1_eq, up1_ne, ne_eq]; rw [Int32.sub_self, ite_self, Int32.add_zero]) (fun i e1 e2 e3 e4 e5 e6 => by simp (disch := first | omega | decide) only [u2e, u2n, up1_eq, up1_ne, ne_eq])
  obtain ⟨g2, M2, r1, r2, r3, r4, r5⟩ := send_y1 hR (w := g 5 v) (out := ov g v x) (by
    rcases gate_v h hv with e | ⟨j, h1, h2, _⟩
    · exact Or.inl e
    · exact Or.inr ⟨j, h1, h2⟩)
  refine ⟨g2, M2, passOn_x1 h hv r1, ?_, r3, (FrG.w (by omega)).t r4, (FrM.w (by unfold iNet; omega)).t r5⟩
  rw [m184_1 h hv, m227_1 hv10 hkM k2, m279_1 hv10 (k := k) (by simp (disch := first | omega | decide) only [u2e, u2n, up1_eq, up1_ne, ne_eq]; exact hkM) k3]
  exact r2
theorem wheel_y1 (h : RNet g (M 216) N C Q) (hv : v < N) {x : Int32} (hk : g 3 v = 3) : ∃ g2 M2, net_passOn_k1 (nn v) x (up2 g 8 v (g 8 v + ov g v x * g 4 v / 100)) = some g2 ∧ m_steps_k1_184 (nn (140 + 5 * v)) x M = some M2 ∧ RNet g2 (M2 216) N C Q ∧ FrG g g2 ∧ FrM M M2 := by
  have hN := h.hN
  have hv10 : v < 10 := by omega
  have hkM : M 216 (140 + 5 * v) = 3 := (h.kind v hv10).trans hk
  generalize hd : ov g v x * g 4 v / 100 = dl at *
  have eov : ov (up2 g 8 v (g 8 v + dl)) v x = ov g v x := by
    unfold ov cn
    rw [u2n (by decide), u2n (by decide)]
  have hR : RNet (up2 (up2 g 8 v (g 8 v + dl)) 19 1 ((up2 g 8 v (g 8 v + dl)) 19 1 + (x - ov g v x))) ((up2 (up2 M 216 21 (M 216 21 + (x - ov g v x))) 216 (140 + 5 * v + 4) (M 216 (140 + 5 * v + 4) + dl)) 216) N C Q := h.node1 hv (k2 := g 8 v + dl) (sp := x - ov g v x) (fun i e1 e2 e3 e4 => by simp (disch := first | omega | decide) only [u2e, u2n, up1_eq, up1_ne, ne_eq]) (fun n hn => by
      rw [u2n (by decide), u2e]
      by_cases e : n = v
      · rw [if_pos e, e, up1_eq]
      · rw [if_neg e, up1_ne e]) (by simp (disch := first | omega | decide) only [u2e, u2n, up1_eq, up1_ne, ne_eq]) (by simp (disch := first | omega | decide) only [u2e, u2n, up1_eq, up1_ne, ne_eq]) (by simp (disch := first | omega | decide) only [u2e, u2n, up1_eq, up1_ne, ne_eq]; rw [h.kep1 v hv10]) (by simp (disch := first | omega | decide) only [u2e, u2n, up1_eq, up1_ne, ne_eq]) (by simp (disch := first | omega | decide) only [u2e, u2n, up1_eq, up1_ne, ne_eq]; rw [hk, if_neg (by decide), Int32.add_zero]) (by simp (disch := first | omega | decide) only [u2e, u2n, up1_eq, up1_ne, ne_eq]; rw [hk, if_neg (by decide), Int32.add_zero]) (by simp (disch := first | omega | decide) only [u2e, u2n, up1_eq, up1_ne, ne_eq]; rw [hk, if_neg (by decide), Int32.add_zero]) (fun i e1 e2 e3 e4 e5 e6 => by simp (disch := first | omega | decide) only [u2e, u2n, up1_eq, up1_ne, ne_eq])
  obtain ⟨g2, M2, r1, r2, r3, r4, r5⟩ := send_y1 hR (w := g 5 v) (out := ov g v x) (by
    rcases gate_v h hv with e | ⟨j, h1, h2, _⟩
    · exact Or.inl e
    · exact Or.inr ⟨j, h1, h2⟩)
  have h5 : RNet (up2 g 8 v (g 8 v + dl)) ((up2 (up2 M 216 21 (M 216 21 + (x - ov g v x))) 216 (140 + 5 * v + 4) (M 216 (140 + 5 * v + 4) + dl)) 216) N C Q → True := fun _ => trivial
  refine ⟨g2, M2, ?_, ?_, r3, ((FrG.w (by omega)).t (FrG.w (by omega))).t r4, ((FrM.w (by unfold iNet; omega)).t (FrM.w (by unfold iNet; omega))).t r5⟩
  · unfold net_passOn_k1
    refine st_b (x := ov g v x) ?_ (st_l (st_t (by simp (disch := first | omega | decide) only [lt1, nnMl, nnMr, nnAl, nnAr, nnA, nnM, nnB, nnT, nnP, nnE, nnEl, nnEr, nnL, nnLl, nnLr, nnQ, nnQr, nnN, Nat.add_zero, if_false, if_true, Option.bind_some, not_true, not_false_iff, not_true_eq_false, not_false_eq_true, eq_self, Nat.not_lt_zero, z10, z01, or_true, true_or, or_false, false_or, true_and, false_and, hv10]) (st_b (x := g2) ?_ rfl)))
    · have := out_x h hv (x := x)
      unfold net_outOf net_hasChannel at this ⊢
      rw [u2n (show 5 ≠ 8 by decide), u2n (show 2 ≠ 8 by decide), u2n (show 14 ≠ 8 by decide)]
      exact this
    · rw [u2n (by decide), u2n (by decide), nnT (by omega)]
      exact r1
  · rw [m184_1 h hv, m227_1 hv10 hkM (by decide), m279y_1 hv10 (by simp (disch := first | omega | decide) only [u2e, u2n, up1_eq, up1_ne, ne_eq]; exact hkM), u2e, up1_ne (show 140 + 5 * v + 4 ≠ 21 by omega), up1_ne (show 140 + 5 * v + 1 ≠ 21 by omega), h.size v hv10, hd]
    exact r2
theorem tank_y1 (h : RNet g (M 216) N C Q) (hv : v < N) {x : Int32} (hk : g 3 v = 2) : ∃ g2 M2, net_passTank_k1 (nn v) x g = some g2 ∧ m_steps_k1_65 (nn (140 + 5 * v)) x M = some M2 ∧ RNet g2 (M2 216) N C Q ∧ FrG g g2 ∧ FrM M M2 := by
  have hN := h.hN
  have hv10 : v < 10 := by omega
  have hkM : M 216 (140 + 5 * v) = 2 := (h.kind v hv10).trans hk
  have i0 : 140 + 5 * v < 20360 := by omega
  have i1 : 140 + 5 * v + 1 < 20360 := by omega
  have i3 : 140 + 5 * v + 4 < 20360 := by omega
  have e3 : nn (140 + 5 * v) + 3 + 1 = nn (140 + 5 * v + 4) := by simp (disch := first | omega | decide) only [lt1, nnMl, nnMr, nnAl, nnAr, nnA, nnM, nnB, nnT, nnP, nnE, nnEl, nnEr, nnL, nnLl, nnLr, nnQ, nnQr, nnN, Nat.add_zero, if_false, if_true, Option.bind_some, not_true, not_false_iff, not_true_eq_false, not_false_eq_true, eq_self, Nat.not_lt_zero, z10, z01, or_true, true_or, or_false, false_or, true_and, false_and]
  have e1 : nn (140 + 5 * v) + 1 = nn (140 + 5 * v + 1) := nnA _ 1
  generalize hal : g 8 v + x = al
  generalize hhd : (if g 4 v < al then g 4 v else al) = hd
  have hov : al - (al - hd) = hd := by
    rw [Int32.sub_eq_add_neg, Int32.neg_sub, i_addsub]
  have hR : RNet (up2 (up2 g 19 1 (g 19 1 + (al - hd))) 8 v (hd - ov g v hd)) ((up2 (up2 (up2 (up2 (up2 M 216 19 (M 216 19 + x)) 216 21 (M 216 21 + (al - hd))) 216 19 (M 216 19 + x + -(al - hd))) 216 19 (M 216 19 + x + -(al - hd) + -(ov g v hd))) 216 (140 + 5 * v + 4) (hd - ov g v hd)) 216) N C Q := h.node1 hv (k2 := hd - ov g v hd) (sp := al - hd) (fun i e1 e2 e3 e4 => by simp (disch := first | omega | decide) only [u2e, u2n, up1_eq, up1_ne, ne_eq]) (fun n hn => by
      rw [u2e]
      by_cases e : n = v
      · rw [if_pos e, e, up1_eq]
      · rw [if_neg e, up1_ne e, u2n (by decide)]) (by simp (disch := first | omega | decide) only [u2e, u2n, up1_eq, up1_ne, ne_eq]) (by simp (disch := first | omega | decide) only [u2e, u2n, up1_eq, up1_ne, ne_eq]) (by simp (disch := first | omega | decide) only [u2e, u2n, up1_eq, up1_ne, ne_eq]) (by simp (disch := first | omega | decide) only [u2e, u2n, up1_eq, up1_ne, ne_eq]) (by simp (disch := first | omega | decide) only [u2e, u2n, up1_eq, up1_ne, ne_eq]; rw [hk, if_neg (by decide), Int32.add_zero]) (by simp (disch := first | omega | decide) only [u2e, u2n, up1_eq, up1_ne, ne_eq]; rw [hk, if_neg (by decide), Int32.add_zero]) (by
      simp (disch := first | omega | decide) only [u2e, u2n, up1_eq, up1_ne, ne_eq]
      rw [hk, if_pos rfl, ← hal]
      exact tank_sum _ _ _ _ _) (fun i e1 e2 e3 e4 e5 e6 => by simp (disch := first | omega | decide) only [u2e, u2n, up1_eq, up1_ne, ne_eq])
  obtain ⟨g2, M2, r1, r2, r3, r4, r5⟩ := send_y1 hR (w := g 5 v) (out := ov g v hd) (by
    rcases gate_v h hv with e | ⟨j, h1, h2, _⟩
    · exact Or.inl e
    · exact Or.inr ⟨j, h1, h2⟩)
  refine ⟨g2, M2, ?_, ?_, r3, ((FrG.w (by omega)).t (FrG.w (by omega))).t r4, (((((FrM.w (by unfold iNet; omega)).t (FrM.w (by unfold iNet; omega))).t (FrM.w (by unfold iNet; omega))).t (FrM.w (by unfold iNet; omega))).t (FrM.w (by unfold iNet; omega))).t r5⟩
  · unfold net_passTank_k1
    rw [nnT (by omega), hal]
    refine st_w (by simp (disch := first | omega | decide) only [lt1, nnMl, nnMr, nnAl, nnAr, nnA, nnM, nnB, nnT, nnP, nnE, nnEl, nnEr, nnL, nnLl, nnLr, nnQ, nnQr, nnN, Nat.add_zero, if_false, if_true, Option.bind_some, not_true, not_false_iff, not_true_eq_false, not_false_eq_true, eq_self, Nat.not_lt_zero, z10, z01, or_true, true_or, or_false, false_or, true_and, false_and, hv10]) (st_w (by simp (disch := first | omega | decide) only [lt1, nnMl, nnMr, nnAl, nnAr, nnA, nnM, nnB, nnT, nnP, nnE, nnEl, nnEr, nnL, nnLl, nnLr, nnQ, nnQr, nnN, Nat.add_zero, if_false, if_true, Option.bind_some, not_true, not_false_iff, not_true_eq_false, not_false_eq_true, eq_self, Nat.not_lt_zero, z10, z01, or_true, true_or, or_false, false_or, true_and, false_and, hv10]) ?_)
    rw [hhd]
    refine st_b (out_x h hv) (st_l (st_w (by simp (disch := first | omega | decide) only [lt1, nnMl, nnMr, nnAl, nnAr, nnA, nnM, nnB, nnT, nnP, nnE, nnEl, nnEr, nnL, nnLl, nnLr, nnQ, nnQr, nnN, Nat.add_zero, if_false, if_true, Option.bind_some, not_true, not_false_iff, not_true_eq_false, not_false_eq_true, eq_self, Nat.not_lt_zero, z10, z01, or_true, true_or, or_false, false_or, true_and, false_and, hv10]) (st_t (by simp (disch := first | omega | decide) only [lt1, nnMl, nnMr, nnAl, nnAr, nnA, nnM, nnB, nnT, nnP, nnE, nnEl, nnEr, nnL, nnLl, nnLr, nnQ, nnQr, nnN, Nat.add_zero, if_false, if_true, Option.bind_some, not_true, not_false_iff, not_true_eq_false, not_false_eq_true, eq_self, Nat.not_lt_zero, z10, z01, or_true, true_or, or_false, false_or, true_and, false_and, hv10]) (st_b (x := g2) ?_ rfl))))
    rw [u2n (by decide), u2n (by decide)]
    exact r1
  · have es : (if al ≤ g 4 v then m_steps_k1_159 (nn (140 + 5 * v)) al 0 (up2 M 216 19 (M 216 19 + x)) else (if inb (nn (140 + 5 * v + 1)) 20360 = true then m_steps_k1_159 (nn (140 + 5 * v)) al (al - g 4 v) (up2 M 216 19 (M 216 19 + x)) else none)) = m_steps_k1_159 (nn (140 + 5 * v)) al (al - hd) (up2 M 216 19 (M 216 19 + x)) := by
      rw [← hhd]
      by_cases q : g 4 v < al
      · rw [if_pos q]
        exact st_f (Int32.not_le.mpr q) (st_t (by simp (disch := first | omega | decide) only [lt1, nnMl, nnMr, nnAl, nnAr, nnA, nnM, nnB, nnT, nnP, nnE, nnEl, nnEr, nnL, nnLl, nnLr, nnQ, nnQr, nnN, Nat.add_zero, if_false, if_true, Option.bind_some, not_true, not_false_iff, not_true_eq_false, not_false_eq_true, eq_self, Nat.not_lt_zero, z10, z01, or_true, true_or, or_false, false_or, true_and, false_and, i1]) rfl)
      · rw [if_neg q, Int32.sub_self]
        exact st_t (Int32.not_lt.mp q) rfl
    unfold m_steps_k1_65
    rw [nnT (show 140 + 5 * v < 2147483648 by omega), hkM, e3, e1]
    refine st_t (by simp (disch := first | omega | decide) only [lt1, nnMl, nnMr, nnAl, nnAr, nnA, nnM, nnB, nnT, nnP, nnE, nnEl, nnEr, nnL, nnLl, nnLr, nnQ, nnQr, nnN, Nat.add_zero, if_false, if_true, Option.bind_some, not_true, not_false_iff, not_true_eq_false, not_false_eq_true, eq_self, Nat.not_lt_zero, z10, z01, or_true, true_or, or_false, false_or, true_and, false_and, i0]) (st_t (by decide) (st_t (by simp (disch := first | omega | decide) only [lt1, nnMl, nnMr, nnAl, nnAr, nnA, nnM, nnB, nnT, nnP, nnE, nnEl, nnEr, nnL, nnLl, nnLr, nnQ, nnQr, nnN, Nat.add_zero, if_false, if_true, Option.bind_some, not_true, not_false_iff, not_true_eq_false, not_false_eq_true, eq_self, Nat.not_lt_zero, z10, z01, or_true, true_or, or_false, false_or, true_and, false_and, i0]) (st_f (by decide) (st_b (st_l rfl) (st_w (by simp (disch := first | omega | decide) only [lt1, nnMl, nnMr, nnAl, nnAr, nnA, nnM, nnB, nnT, nnP, nnE, nnEl, nnEr, nnL, nnLl, nnLr, nnQ, nnQr, nnN, Nat.add_zero, if_false, if_true, Option.bind_some, not_true, not_false_iff, not_true_eq_false, not_false_eq_true, eq_self, Nat.not_lt_zero, z10, z01, or_true, true_or, or_false, false_or, true_and, false_and, i3]) (st_t (by simp (disch := first | omega | decide) only [lt1, nnMl, nnMr, nnAl, nnAr, nnA, nnM, nnB, nnT, nnP, nnE, nnEl, nnEr, nnL, nnLl, nnLr, nnQ, nnQr, nnN, Nat.add_zero, if_false, if_true, Option.bind_some, not_true, not_false_iff, not_true_eq_false, not_false_eq_true, eq_self, Nat.not_lt_zero, z10, z01, or_true, true_or, or_false, false_or, true_and, false_and, i1]) ?_))))))
    rw [nnT (show 140 + 5 * v + 4 < 2147483648 by omega), nnT (show 140 + 5 * v + 1 < 2147483648 by omega), u2e, up1_ne (show 140 + 5 * v + 4 ≠ 19 by omega), up1_ne (show 140 + 5 * v + 1 ≠ 19 by omega), h.kep1 v hv10, h.size v hv10, Int32.add_comm x, hal, es]
    unfold m_steps_k1_159 m_adds_k1_4 m_adds_k1_2
    refine st_b (st_l rfl) (st_b (st_l rfl) (st_l ?_))
    rw [hov, m184w_1 (g := g) (v := v) h hv (by simp (disch := first | omega | decide) only [u2e, u2n, up1_eq, up1_ne, ne_eq]; exact h.gate v hv10) (fun j hj => by simp (disch := first | omega | decide) only [u2e, u2n, up1_eq, up1_ne, ne_eq]; exact h.brd j hj)]
    unfold m_steps_k1_227 m_adds_k1_2
    rw [nnT (show 140 + 5 * v < 2147483648 by omega), e3, nnT (show 140 + 5 * v + 4 < 2147483648 by omega)]
    refine st_t (by simp (disch := first | omega | decide) only [lt1, nnMl, nnMr, nnAl, nnAr, nnA, nnM, nnB, nnT, nnP, nnE, nnEl, nnEr, nnL, nnLl, nnLr, nnQ, nnQr, nnN, Nat.add_zero, if_false, if_true, Option.bind_some, not_true, not_false_iff, not_true_eq_false, not_false_eq_true, eq_self, Nat.not_lt_zero, z10, z01, or_true, true_or, or_false, false_or, true_and, false_and, i0]) (st_f (by simp (disch := first | omega | decide) only [u2e, u2n, up1_eq, up1_ne, ne_eq]; rw [hkM]; decide) (st_b (st_l rfl) (st_w (by simp (disch := first | omega | decide) only [lt1, nnMl, nnMr, nnAl, nnAr, nnA, nnM, nnB, nnT, nnP, nnE, nnEl, nnEr, nnL, nnLl, nnLr, nnQ, nnQr, nnN, Nat.add_zero, if_false, if_true, Option.bind_some, not_true, not_false_iff, not_true_eq_false, not_false_eq_true, eq_self, Nat.not_lt_zero, z10, z01, or_true, true_or, or_false, false_or, true_and, false_and, i3]) ?_)))
    rw [m279_1 hv10 (k := 2) (by simp (disch := first | omega | decide) only [u2e, u2n, up1_eq, up1_ne, ne_eq]; exact hkM) (by decide)]
    simp (disch := first | omega | decide) only [u2e, u2n, up1_eq, up1_ne, ne_eq]
    exact r2
end WE
