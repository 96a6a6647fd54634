/-! path, along -/
section WD
variable {c s : Sg} {a0 : Nat → Int32} {N C Q : Nat}
/-- the rows from node f on, as the whole table -/
def CF (c : Sg) (C t f : Nat) (a b d : Nat → Int32) : Prop := ∀ u, f ≤ u → u < 10 → d u = oN (tab c C t t u).1 ∧ ((tab c C t t u).2 < 1000000 → a u = nn ((tab c C t t u).2 / 100) ∧ b u = nn ((tab c C t t u).2 % 100))
theorem onw {e : Nat → Int32} (h : RNet c (s 216) N C Q) {t p i : Nat} (ht : t < 10) (hp : p < t) (he : ∀ x, x < 10 → e x = nn (tab c C t t x).2) (hs : s 218 = e) (hi : i < C) (h9 : c 9 i = nn p) (h15 : c 15 i = 0) (hv : (tab c C t t p).2 = 100 * cn c 13 i + 1 + (tab c C t t (cn c 10 i)).2) (hfirst : ∀ i2, i2 < i → c 9 i2 = nn p → c 15 i2 = 0 → (tab c C t t p).2 < 100 * cn c 13 i2 + 1 + (tab c C t t (cn c 10 i2)).2) : ∀ m j F, j + m = i → m < F → m_onward_2 F (nn p) (nn j) s = some (nn i) := by
  have hC := h.hC
  have hN := h.hN
  have ok := (tab_ok h ht t (Nat.le_refl _)).1
  have hp10 : p < 10 := by omega
  have val : ∀ j, j < C → (100 * c 13 j + 1 + e (cn c 10 j)) = nn (100 * cn c 13 j + 1 + (tab c C t t (cn c 10 j)).2) := fun j hj => by
    obtain ⟨v1, v2, v3, v4, v5, v6⟩ := chan_v h hj
    rw [he _ (by omega), v3]
    unfold cn
    simp (disch := first | omega | decide) only [lt1, nnMl, nnMr, nnAl, nnAr, nnA, nnM, nnB, nnT, nnP, nnE, nnEl, nnEr, nnL, nnLl, nnLr, nnQ, nnQr, nnN, Nat.add_zero, if_false, if_true, Option.bind_some, not_true, not_false_iff, not_true_eq_false, not_false_eq_true, eq_self, Nat.not_lt_zero, z10, z01, or_true, true_or, or_false, false_or, true_and, false_and]
  intro m
  induction m with
  | zero =>
    intro j F hj hF
    obtain ⟨F, rfl⟩ : ∃ F2, F = F2 + 1 := ⟨F - 1, by omega⟩
    have : j = i := by omega
    subst this
    have hj14 : j < 14 := by omega
    have h2 : ¬ C ≤ j := by omega
    obtain ⟨v1, v2, v3, v4, v5, v6⟩ := chan_v h hi
    have hw10 : cn c 10 j < 10 := by omega
    unfold m_onward_2
    rw [h.aC]
    refine st_f (by simp (disch := first | omega | decide) only [lt1, nnMl, nnMr, nnAl, nnAr, nnA, nnM, nnB, nnT, nnP, nnE, nnEl, nnEr, nnL, nnLl, nnLr, nnQ, nnQr, nnN, Nat.add_zero, if_false, if_true, Option.bind_some, not_true, not_false_iff, not_true_eq_false, not_false_eq_true, eq_self, Nat.not_lt_zero, z10, z01, or_true, true_or, or_false, false_or, true_and, false_and, h2]) (st_b (mch0 h hj14) (st_f (fun q => q h9) (st_b (mch6 h hj14) (st_f (fun q => q h15) (st_b (mch4 h hj14) (st_b (mch1 h hj14) (st_t (by rw [v2]; simp (disch := first | omega | decide) only [lt1, nnMl, nnMr, nnAl, nnAr, nnA, nnM, nnB, nnT, nnP, nnE, nnEl, nnEr, nnL, nnLl, nnLr, nnQ, nnQr, nnN, Nat.add_zero, if_false, if_true, Option.bind_some, not_true, not_false_iff, not_true_eq_false, not_false_eq_true, eq_self, Nat.not_lt_zero, z10, z01, or_true, true_or, or_false, false_or, true_and, false_and, hw10]) (st_t (by simp (disch := first | omega | decide) only [lt1, nnMl, nnMr, nnAl, nnAr, nnA, nnM, nnB, nnT, nnP, nnE, nnEl, nnEr, nnL, nnLl, nnLr, nnQ, nnQr, nnN, Nat.add_zero, if_false, if_true, Option.bind_some, not_true, not_false_iff, not_true_eq_false, not_false_eq_true, eq_self, Nat.not_lt_zero, z10, z01, or_true, true_or, or_false, false_or, true_and, false_and, hp10]) (st_f ?_ rfl)))))))))
    rw [hs, val j hi, nnT (by omega), he p hp10, hv]
    exact fun q => q rfl
  | succ m ih =>
    intro j F hj hF
    obtain ⟨F, rfl⟩ : ∃ F2, F = F2 + 1 := ⟨F - 1, by omega⟩
    have hj14 : j < 14 := by omega
    have h2 : ¬ C ≤ j := by omega
    obtain ⟨v1, v2, v3, v4, v5, v6⟩ := chan_v h (show j < C by omega)
    have hw10 : cn c 10 j < 10 := by omega
    have IH := ih (j + 1) F (by omega) (by omega)
    unfold m_onward_2
    rw [h.aC, show nn j + 1 = nn (j + 1) from nnA j 1]
    refine st_f (by simp (disch := first | omega | decide) only [lt1, nnMl, nnMr, nnAl, nnAr, nnA, nnM, nnB, nnT, nnP, nnE, nnEl, nnEr, nnL, nnLl, nnLr, nnQ, nnQr, nnN, Nat.add_zero, if_false, if_true, Option.bind_some, not_true, not_false_iff, not_true_eq_false, not_false_eq_true, eq_self, Nat.not_lt_zero, z10, z01, or_true, true_or, or_false, false_or, true_and, false_and, h2]) (st_b (mch0 h hj14) ?_)
    by_cases q1 : c 9 j = nn p
    rotate_left
    · exact st_t q1 IH
    refine st_f (fun q => q q1) (st_b (mch6 h hj14) ?_)
    by_cases q2 : c 15 j = 0
    rotate_left
    · exact st_t q2 IH
    refine st_f (fun q => q q2) (st_b (mch4 h hj14) (st_b (mch1 h hj14) (st_t (by rw [v2]; simp (disch := first | omega | decide) only [lt1, nnMl, nnMr, nnAl, nnAr, nnA, nnM, nnB, nnT, nnP, nnE, nnEl, nnEr, nnL, nnLl, nnLr, nnQ, nnQr, nnN, Nat.add_zero, if_false, if_true, Option.bind_some, not_true, not_false_iff, not_true_eq_false, not_false_eq_true, eq_self, Nat.not_lt_zero, z10, z01, or_true, true_or, or_false, false_or, true_and, false_and, hw10]) (st_t (by simp (disch := first | omega | decide) only [lt1, nnMl, nnMr, nnAl, nnAr, nnA, nnM, nnB, nnT, nnP, nnE, nnEl, nnEr, nnL, nnLl, nnLr, nnQ, nnQr, nnN, Nat.add_zero, if_false, if_true, Option.bind_some, not_true, not_false_iff, not_true_eq_false, not_false_eq_true, eq_self, Nat.not_lt_zero, z10, z01, or_true, true_or, or_false, false_or, true_and, false_and, hp10]) (st_t ?_ IH)))))
    have k1 := hfirst j (by omega) q1 q2
    have k2 : (tab c C t t (cn c 10 j)).2 ≤ 1000000 := (ok (cn c 10 j)).2
    rw [hs, val j (by omega), nnT (show p < 2147483648 by omega), he p hp10]
    exact nnNe (by omega) (by omega) (by omega)
/-- a node on the way: its channel, and what follows -/
theorem way_st (h : RNet c (s 216) N C Q) {t p : Nat} (ht : t < 10) (hp : p < t) (hr : (tab c C t t p).2 < 1000000) : ∃ i, i < C ∧ (tab c C t t p).1 = some i ∧ c 9 i = nn p ∧ cn c 10 i ≤ t ∧ p < cn c 10 i ∧ c 10 i = nn (cn c 10 i) ∧ (tab c C t t (cn c 10 i)).2 < 1000000 ∧ (tab c C t t p).2 % 100 = (tab c C t t (cn c 10 i)).2 % 100 + 1 ∧ ∀ {s2 : Sg} {e : Nat → Int32} {F : Nat}, RNet c (s2 216) N C Q → (∀ x, x < 10 → e x = nn (tab c C t t x).2) → s2 218 = e → 14 < F → m_onward F (nn p) s2 = some (nn i) := by
  obtain ⟨i, r1, r2, r3, r4, r5, r6, r7, r8, r9⟩ := tab_y h ht hp hr
  obtain ⟨v1, v2, v3, v4, v5, v6⟩ := chan_v h r1
  have hC := h.hC
  have ok := ((tab_ok h ht t (Nat.le_refl _)).1 (cn c 10 i)).1 r7
  have ok2 : (tab c C t t (cn c 10 i)).2 % 100 + cn c 10 i ≤ t := ok.1
  refine ⟨i, r1, r2, r3, r5, r6, v2, r7, ?_, fun hs2 he hs F1 => onw hs2 ht hp he hs r1 r3 r4 r8 r9 i 0 _ (by omega) (by omega)⟩
  rw [r8, (split_v _ _ (by omega)).1]
theorem tab_t0 (h : RNet c (s 216) N C Q) {t : Nat} (ht : t < 10) : (tab c C t t t).2 = 0 := (tab_ok h ht t (Nat.le_refl _)).2.2.1
theorem alY {s2 : Sg} {e : Nat → Int32} {t f : Nat} (h : RNet c (s 216) N C Q) (hs : ∀ i, 2 ≤ i → i ≤ 21 → s i = c i) (h2 : RNet c (s2 216) N C Q) (he : ∀ x, x < 10 → e x = nn (tab c C t t x).2) (hse : s2 218 = e) (htN : t < N) {a b d : Nat → Int32} (hR : CF c C t f a b d) {F0 : Nat} (hF0 : 14 < F0) {i : Nat} (hi : i < 100) : ∀ m k p F G, k + m = i → f ≤ p → p < t → (tab c C t t p).2 < 1000000 → m < (tab c C t t p).2 % 100 → m < F → m < G → ∃ r, r < C ∧ ways_channelAt_39 F (nn i) (d p) (nn k) (ss s a b d) = some (nn r) ∧ m_along_21 F0 G (nn t) (nn i) (nn p) (nn k) s2 = some (nn r, s2) := by
  have hC := h.hC
  have hN := h.hN
  intro m
  induction m with
  | zero =>
    intro k p F G hk hf hp hr hm hF hG
    obtain ⟨F, rfl⟩ : ∃ F2, F = F2 + 1 := ⟨F - 1, by omega⟩
    obtain ⟨G, rfl⟩ : ∃ F2, G = F2 + 1 := ⟨G - 1, by omega⟩
    obtain ⟨j, j1, j2, j3, j4, j5, j6, j7, j8, j9⟩ := way_st h (show t < 10 by omega) hp hr
    have : k = i := by omega
    subst this
    refine ⟨j, j1, ?_, ?_⟩
    · unfold ways_channelAt_39
      refine st_t (Int32.le_refl _) ?_
      rw [(hR p hf (by omega)).1, j2]
      rfl
    · unfold m_along_21
      exact st_f (nnNe (by omega) (by omega) (by omega)) (st_b (j9 h2 he hse hF0) (st_f (fun q => q rfl) rfl))
  | succ m ih =>
    intro k p F G hk hf hp hr hm hF hG
    obtain ⟨F, rfl⟩ : ∃ F2, F = F2 + 1 := ⟨F - 1, by omega⟩
    obtain ⟨G, rfl⟩ : ∃ F2, G = F2 + 1 := ⟨G - 1, by omega⟩
    obtain ⟨j, j1, j2, j3, j4, j5, j6, j7, j8, j9⟩ := way_st h (show t < 10 by omega) hp hr
    have hw : cn c 10 j < t := by
      by_cases q : cn c 10 j = t
      · rw [q, tab_t0 h (by omega)] at j8
        omega
      · omega
    have hj14 : j < 14 := by omega
    have hw10 : cn c 10 j < 10 := by omega
    obtain ⟨r, r1, r2, r3⟩ := ih (k + 1) (cn c 10 j) F G (by omega) (by omega) hw j7 (by omega) (by omega) (by omega)
    have ho : ∀ i, 2 ≤ i → i ≤ 21 → ss s a b d i = c i := fun i p1 p2 => by rw [ss_o (by omega) (by omega) (by omega), hs i p1 p2]
    refine ⟨r, r1, ?_, ?_⟩
    · unfold ways_channelAt_39
      rw [(hR p hf (by omega)).1, j2, show nn k + 1 = nn (k + 1) from nnA k 1, show oN (some j) = nn j from rfl]
      refine st_f (by rw [nnE (by omega) (by omega)]; omega) (st_b (hC_y (by rw [ho 2 (by decide) (by decide), h.cC]) hC j1) (st_f (by decide) (st_t (by simp (disch := first | omega | decide) only [lt1, nnMl, nnMr, nnAl, nnAr, nnA, nnM, nnB, nnT, nnP, nnE, nnEl, nnEr, nnL, nnLl, nnLr, nnQ, nnQr, nnN, Nat.add_zero, if_false, if_true, Option.bind_some, not_true, not_false_iff, not_true_eq_false, not_false_eq_true, eq_self, Nat.not_lt_zero, z10, z01, or_true, true_or, or_false, false_or, true_and, false_and, hj14]) (st_l ?_))))
      rw [ho 10 (by decide) (by decide), nnT (by omega), j6]
      refine st_b (hN_y (by rw [ho 2 (by decide) (by decide), h.cN]) hN (by omega)) (st_f (by decide) (st_t (by simp (disch := first | omega | decide) only [lt1, nnMl, nnMr, nnAl, nnAr, nnA, nnM, nnB, nnT, nnP, nnE, nnEl, nnEr, nnL, nnLl, nnLr, nnQ, nnQr, nnN, Nat.add_zero, if_false, if_true, Option.bind_some, not_true, not_false_iff, not_true_eq_false, not_false_eq_true, eq_self, Nat.not_lt_zero, z10, z01, or_true, true_or, or_false, false_or, true_and, false_and, hw10]) (st_l ?_)))
      rw [ss_d, nnT (by omega)]
      exact r2
    · unfold m_along_21
      refine st_f (nnNe (by omega) (by omega) (by omega)) (st_b (j9 h2 he hse hF0) (st_t (nnNe (by omega) (by omega) (by omega)) (st_b (mch1 h2 hj14) ?_)))
      rw [j6, show nn k + 1 = nn (k + 1) from nnA k 1]
      exact r3
theorem alN {s2 : Sg} {e : Nat → Int32} {t : Nat} (h2 : RNet c (s2 216) N C Q) (he : ∀ x, x < 10 → e x = nn (tab c C t t x).2) (hse : s2 218 = e) (htN : t < N) {F0 : Nat} (hF0 : 14 < F0) {v : Int32} : ∀ m k p G, p ≤ t → (tab c C t t p).2 < 1000000 → m = (tab c C t t p).2 % 100 → m < G → (∀ x, k ≤ x → x < k + m → ¬ nn x = v) → m_along_21 F0 G (nn t) v (nn p) (nn k) s2 = some (-1, s2) := by
  have hC := h2.hC
  have hN := h2.hN
  intro m
  induction m with
  | zero =>
    intro k p G hp hr hm hG hv
    obtain ⟨G, rfl⟩ : ∃ F2, G = F2 + 1 := ⟨G - 1, by omega⟩
    have : p = t := by
      by_cases q : p < t
      · obtain ⟨j, j1, j2, j3, j4, j5, j6, j7, j8, j9⟩ := way_st (s := s2) h2 (show t < 10 by omega) q hr
        omega
      · omega
    subst this
    unfold m_along_21
    exact st_t rfl rfl
  | succ m ih =>
    intro k p G hp hr hm hG hv
    obtain ⟨G, rfl⟩ : ∃ F2, G = F2 + 1 := ⟨G - 1, by omega⟩
    have hpt : p < t := by
      by_cases q : p = t
      · rw [q, tab_t0 h2 (by omega)] at hm
        omega
      · omega
    obtain ⟨j, j1, j2, j3, j4, j5, j6, j7, j8, j9⟩ := way_st (s := s2) h2 (show t < 10 by omega) hpt hr
    have hj14 : j < 14 := by omega
    have IH := ih (k + 1) (cn c 10 j) G j4 j7 (by omega) (by omega) (fun x p1 p2 => hv x (by omega) (by omega))
    unfold m_along_21
    refine st_f (nnNe (by omega) (by omega) (by omega)) (st_b (j9 h2 he hse hF0) (st_t (hv k (Nat.le_refl _) (by omega)) (st_b (mch1 h2 hj14) ?_)))
    rw [j6, show nn k + 1 = nn (k + 1) from nnA k 1]
    exact IH
end WD
theorem find_cases (N : Nat) (v1 v2 : Int32) : noWay N v1 v2 ∨ ∃ f t, f < t ∧ t < N ∧ v1 = nn f ∧ v2 = nn t := by
  by_cases h : ∃ f t, f < t ∧ t < N ∧ v1 = nn f ∧ v2 = nn t
  · exact Or.inr h
  · exact Or.inl h
/-- scratch behind a search: class's rows and the model's -/
theorem scrW {TS : Sg → Prop} (hT : TSf TS) {g : Sg} (hR : RR TS g) {t : Nat} {a b d e : Nat → Int32} : RR TS (sc (ss (up2 g 187 3 (nn t)) a b d) 218 e) := by
  have E : ∀ i, i ≠ 187 → i ≠ 188 → i ≠ 189 → i ≠ 190 → i ≠ 218 → sc (ss (up2 g 187 3 (nn t)) a b d) 218 e i = g i := fun i e1 e2 e3 e4 e5 => by
    rw [sc_n e5, ss_o e2 e3 e4, u2n e1]
  exact RR.scr hT hR (fun i _ _ => E i (by omega) (by omega) (by omega) (by omega) (by omega)) (fun i _ _ => E i (by omega) (by omega) (by omega) (by omega) (by omega)) (E 216 (by decide) (by decide) (by decide) (by decide) (by decide)) (E 217 (by decide) (by decide) (by decide) (by decide) (by decide))
section SP
theorem sim_path {TS : Sg → Prop} (hT : TSf TS) : Sim_path (RR TS) := by
  intro v1 v2 g hR
  obtain ⟨N, C, Q, D, T, L, G, h⟩ := hR.now
  have hN := h.net.hN
  rcases find_cases N v1 v2 with hn | ⟨f, t, hft, htN, rfl, rfl⟩
  · refine ⟨0, 0, -1, g, g, ?_, ?_, hR⟩
    · unfold x_path
      exact st_b (find_n h.net.cN hN hn) (st_t rfl rfl)
    · unfold m_path
      exact st_b (leads_n h.net.aN hN hn) (st_t rfl rfl)
  · have hf10 : f < 10 := by omega
    obtain ⟨a, b, d, r1, r2⟩ := find_y h.net (s := g) (fun _ _ _ => rfl) hft htN (F := 21) (by decide)
    have e216 : (ss (up2 g 187 3 (nn t)) a b d) 216 = g 216 := by rw [ss_o (by decide) (by decide) (by decide), u2n (by decide)]
    obtain ⟨e, l1, l2⟩ := leads_y (s := ss (up2 g 187 3 (nn t)) a b d) (c := g) (by rw [e216]; exact h.net) hft htN (F := 21) (by decide)
    by_cases q : (tab g C t t f).2 < 1000000
    · have w1 : wyR g C f t = 1 := if_pos q
      rw [w1] at r1 l1
      refine ⟨21, 21, nn ((tab g C t t f).2 / 100), ss (up2 g 187 3 (nn t)) a b d, sc (ss (up2 g 187 3 (nn t)) a b d) 218 e, ?_, ?_, scrW hT hR⟩
      · unfold x_path
        refine st_b r1 (st_f (by decide) (st_b (x := nn ((tab g C t t f).2 / 100)) ?_ rfl))
        unfold ways_travelFrom
        refine st_b (wthK_y (K := 9) rfl (by decide) (by omega)) (st_f (by decide) (st_t (by simp (disch := first | omega | decide) only [lt1, nnMl, nnMr, nnAl, nnAr, nnA, nnM, nnB, nnT, nnP, nnE, nnEl, nnEr, nnL, nnLl, nnLr, nnQ, nnQr, nnN, Nat.add_zero, if_false, if_true, Option.bind_some, not_true, not_false_iff, not_true_eq_false, not_false_eq_true, eq_self, Nat.not_lt_zero, z10, z01, or_true, true_or, or_false, false_or, true_and, false_and, hf10]) ?_))
        rw [ss_a, nnT (by omega), ((r2 f (Nat.le_refl _) hf10).2 q).1]
      · unfold m_path
        refine st_b l1 (st_f (by decide) (st_t (by simp (disch := first | omega | decide) only [lt1, nnMl, nnMr, nnAl, nnAr, nnA, nnM, nnB, nnT, nnP, nnE, nnEl, nnEr, nnL, nnLl, nnLr, nnQ, nnQr, nnN, Nat.add_zero, if_false, if_true, Option.bind_some, not_true, not_false_iff, not_true_eq_false, not_false_eq_true, eq_self, Nat.not_lt_zero, z10, z01, or_true, true_or, or_false, false_or, true_and, false_and, hf10]) ?_))
        rw [sc_e, nnT (by omega), l2 f hf10]
        simp (disch := first | omega | decide) only [lt1, nnMl, nnMr, nnAl, nnAr, nnA, nnM, nnB, nnT, nnP, nnE, nnEl, nnEr, nnL, nnLl, nnLr, nnQ, nnQr, nnN, Nat.add_zero, if_false, if_true, Option.bind_some, not_true, not_false_iff, not_true_eq_false, not_false_eq_true, eq_self, Nat.not_lt_zero, z10, z01, or_true, true_or, or_false, false_or, true_and, false_and, nnDr]
    · have w1 : wyR g C f t = 0 := if_neg q
      rw [w1] at r1 l1
      refine ⟨21, 21, -1, ss (up2 g 187 3 (nn t)) a b d, sc (ss (up2 g 187 3 (nn t)) a b d) 218 e, ?_, ?_, scrW hT hR⟩
      · unfold x_path
        exact st_b r1 (st_t rfl rfl)
      · unfold m_path
        exact st_b l1 (st_t rfl rfl)
theorem sim_along {TS : Sg → Prop} (hT : TSf TS) : Sim_along (RR TS) := by
  intro v1 v2 v3 g hR
  obtain ⟨N, C, Q, D, T, L, G, h⟩ := hR.now
  have hN := h.net.hN
  rcases find_cases N v1 v2 with hn | ⟨f, t, hft, htN, rfl, rfl⟩
  · refine ⟨0, 0, -1, g, g, ?_, ?_, hR⟩
    · unfold x_along
      exact st_b (find_n h.net.cN hN hn) (st_t rfl rfl)
    · unfold m_along
      exact st_b (leads_n h.net.aN hN hn) (st_t rfl rfl)
  · have hf10 : f < 10 := by omega
    obtain ⟨a, b, d, r1, r2⟩ := find_y h.net (s := g) (fun _ _ _ => rfl) hft htN (F := 200) (by decide)
    have e216 : (ss (up2 g 187 3 (nn t)) a b d) 216 = g 216 := by rw [ss_o (by decide) (by decide) (by decide), u2n (by decide)]
    obtain ⟨e, l1, l2⟩ := leads_y (s := ss (up2 g 187 3 (nn t)) a b d) (c := g) (by rw [e216]; exact h.net) hft htN (F := 200) (by decide)
    have hm2 : RNet g ((sc (ss (up2 g 187 3 (nn t)) a b d) 218 e) 216) N C Q := by rw [sc_n (by decide), e216]; exact h.net
    by_cases q : (tab g C t t f).2 < 1000000
    · have w1 : wyR g C f t = 1 := if_pos q
      rw [w1] at r1 l1
      have hb := ((r2 f (Nat.le_refl _) hf10).2 q).2
      by_cases hi : ∃ i, i < (tab g C t t f).2 % 100 ∧ v3 = nn i
      · obtain ⟨i, hi, rfl⟩ := hi
        obtain ⟨r, k1, k2, k3⟩ := alY (s := up2 g 187 3 (nn t)) (by rw [u2n (by decide)]; exact h.net) (fun i p1 p2 => u2n (by omega)) hm2 l2 (sc_e) htN r2 (F0 := 200) (by decide) (show i < 100 by omega) i 0 f 200 200 (by omega) (Nat.le_refl _) hft q hi (by omega) (by omega)
        refine ⟨200, 200, nn r, ss (up2 g 187 3 (nn t)) a b d, sc (ss (up2 g 187 3 (nn t)) a b d) 218 e, ?_, ?_, scrW hT hR⟩
        · unfold x_along
          refine st_b r1 (st_f (by decide) (st_b (x := nn r) ?_ rfl))
          unfold ways_channelAt
          refine st_b (wthK_y (K := 9) rfl (by decide) (by omega)) (st_f (by decide) (st_t (by simp (disch := first | omega | decide) only [lt1, nnMl, nnMr, nnAl, nnAr, nnA, nnM, nnB, nnT, nnP, nnE, nnEl, nnEr, nnL, nnLl, nnLr, nnQ, nnQr, nnN, Nat.add_zero, if_false, if_true, Option.bind_some, not_true, not_false_iff, not_true_eq_false, not_false_eq_true, eq_self, Nat.not_lt_zero, z10, z01, or_true, true_or, or_false, false_or, true_and, false_and, hf10]) ?_))
          rw [ss_b, nnT (by omega), hb]
          refine st_b (x := 1) ?_ (st_t (by decide) (st_t (by simp (disch := first | omega | decide) only [lt1, nnMl, nnMr, nnAl, nnAr, nnA, nnM, nnB, nnT, nnP, nnE, nnEl, nnEr, nnL, nnLl, nnLr, nnQ, nnQr, nnN, Nat.add_zero, if_false, if_true, Option.bind_some, not_true, not_false_iff, not_true_eq_false, not_false_eq_true, eq_self, Nat.not_lt_zero, z10, z01, or_true, true_or, or_false, false_or, true_and, false_and, hf10]) (st_l ?_)))
          · rw [within_eq, if_pos ((rg1 (by omega)).mpr ⟨i, hi, rfl⟩)]
          · rw [ss_d]
            exact k2
        · unfold m_along
          exact st_b l1 (st_f (by decide) (st_t (nnE0 (by omega)) k3))
      · refine ⟨200, 200, -1, ss (up2 g 187 3 (nn t)) a b d, sc (ss (up2 g 187 3 (nn t)) a b d) 218 e, ?_, ?_, scrW hT hR⟩
        · unfold x_along
          refine st_b r1 (st_f (by decide) (st_b (x := -1) ?_ rfl))
          unfold ways_channelAt
          refine st_b (wthK_y (K := 9) rfl (by decide) (by omega)) (st_f (by decide) (st_t (by simp (disch := first | omega | decide) only [lt1, nnMl, nnMr, nnAl, nnAr, nnA, nnM, nnB, nnT, nnP, nnE, nnEl, nnEr, nnL, nnLl, nnLr, nnQ, nnQr, nnN, Nat.add_zero, if_false, if_true, Option.bind_some, not_true, not_false_iff, not_true_eq_false, not_false_eq_true, eq_self, Nat.not_lt_zero, z10, z01, or_true, true_or, or_false, false_or, true_and, false_and, hf10]) ?_))
          rw [ss_b, nnT (by omega), hb]
          refine st_b (x := 0) ?_ (st_f (by decide) rfl)
          rw [within_eq, if_neg (fun e => hi ((rg1 (by omega)).mp e))]
        · unfold m_along
          refine st_b l1 (st_f (by decide) ?_)
          by_cases q0 : 0 ≤ v3
          · refine st_t q0 ?_
            exact alN hm2 l2 sc_e htN (by decide) _ 0 f 200 (by omega) q rfl (by omega) (fun x p1 p2 e => hi ⟨x, by omega, e.symm⟩)
          · exact st_f q0 rfl
    · have w1 : wyR g C f t = 0 := if_neg q
      rw [w1] at r1 l1
      refine ⟨200, 200, -1, ss (up2 g 187 3 (nn t)) a b d, sc (ss (up2 g 187 3 (nn t)) a b d) 218 e, ?_, ?_, scrW hT hR⟩
      · unfold x_along
        exact st_b r1 (st_t rfl rfl)
      · unfold m_along
        exact st_b l1 (st_t rfl rfl)
end SP
