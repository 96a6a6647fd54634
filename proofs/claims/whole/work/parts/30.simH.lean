/-! sums: look, all, count -/
theorem sumTo_add (f : Nat → Int32) (m : Nat) : ∀ k, sumTo f (m + k) = sumTo f m + sumTo (fun i => f (m + i)) k
  | 0 => (Int32.add_zero _).symm
  | k + 1 => by
    show sumTo f (m + k) + f (m + k) = sumTo f m + (sumTo (fun i => f (m + i)) k + f (m + k))
    rw [sumTo_add f m k, Int32.add_assoc]
theorem sumTo_blk (f : Nat → Int32) : ∀ C, sumTo (fun c => sumTo (fun i => f (c * 9 + i)) 9) C = sumTo f (C * 9)
  | 0 => rfl
  | C + 1 => by
    show sumTo (fun c => sumTo (fun i => f (c * 9 + i)) 9) C + sumTo (fun i => f (C * 9 + i)) 9 = _
    rw [sumTo_blk f C, Nat.succ_mul, sumTo_add]
theorem sumTo_z {f : Nat → Int32} : ∀ {n : Nat}, (∀ i, i < n → f i = 0) → sumTo f n = 0
  | 0, _ => rfl
  | n + 1, h => by
    show sumTo f n + f n = 0
    rw [sumTo_z (fun i hi => h i (by omega)), h n (by omega)]
    rfl
theorem sumTo_ext {f : Nat → Int32} {n m : Nat} (h : n ≤ m) (hz : ∀ i, n ≤ i → i < m → f i = 0) : sumTo f n = sumTo f m := by
  obtain ⟨k, rfl⟩ : ∃ k, m = n + k := ⟨m - n, by omega⟩
  rw [sumTo_add, sumTo_z (fun i hi => hz (n + i) (by omega) (by omega)), Int32.add_zero]
section SH
variable {g : Sg} {N C Q : Nat}
theorem uwL0 {c : Nat} (hc : c < 14) : ∀ k j F, j + k = 9 → k < F → net_underWay_k0_5 F (nn c) (sumTo (fun i => g 17 (c * 9 + i)) j) (nn j) g = some (sumTo (fun i => g 17 (c * 9 + i)) 9) := by
  intro k
  induction k with
  | zero =>
    intro j F hj hF
    obtain ⟨F, rfl⟩ : ∃ F2, F = F2 + 1 := ⟨F - 1, by omega⟩
    have : j = 9 := by omega
    subst this
    unfold net_underWay_k0_5
    exact if_pos (by decide)
  | succ k ih =>
    intro j F hj hF
    obtain ⟨F, rfl⟩ : ∃ F2, F = F2 + 1 := ⟨F - 1, by omega⟩
    have h1 : c * 9 + j < 126 := by omega
    have h2 : ¬ 9 ≤ j := by omega
    unfold net_underWay_k0_5
    refine st_f (by simp (disch := first | omega | decide) only [lt1, nnMl, nnMr, nnAl, nnAr, nnA, nnM, nnB, nnT, nnP, nnE, nnEl, nnEr, nnL, nnLl, nnLr, nnQ, nnQr, nnN, Nat.add_zero, if_false, if_true, Option.bind_some, not_true, not_false_iff, not_true_eq_false, not_false_eq_true, eq_self, Nat.not_lt_zero, z10, z01, or_true, true_or, or_false, false_or, true_and, false_and, h2]) (st_w (by simp (disch := first | omega | decide) only [lt1, nnMl, nnMr, nnAl, nnAr, nnA, nnM, nnB, nnT, nnP, nnE, nnEl, nnEr, nnL, nnLl, nnLr, nnQ, nnQr, nnN, Nat.add_zero, if_false, if_true, Option.bind_some, not_true, not_false_iff, not_true_eq_false, not_false_eq_true, eq_self, Nat.not_lt_zero, z10, z01, or_true, true_or, or_false, false_or, true_and, false_and, h1]) ?_)
    refine Eq.trans ?_ (ih (j + 1) F (by omega) (by omega))
    simp (disch := first | omega | decide) only [lt1, nnMl, nnMr, nnAl, nnAr, nnA, nnM, nnB, nnT, nnP, nnE, nnEl, nnEr, nnL, nnLl, nnLr, nnQ, nnQr, nnN, Nat.add_zero, if_false, if_true, Option.bind_some, not_true, not_false_iff, not_true_eq_false, not_false_eq_true, eq_self, Nat.not_lt_zero, z10, z01, or_true, true_or, or_false, false_or, true_and, false_and, sumTo]
theorem uw0 {c F : Nat} (hc : c < 14) (hF : 9 < F) : net_underWay_k0 F (nn c) g = some (sumTo (fun i => g 17 (c * 9 + i)) 9) := uwL0 hc 9 0 F rfl hF
theorem auwL0 (h : RNet g (g 216) N C Q) {F0 : Nat} (hF0 : 9 < F0) : ∀ k j F, j + k = C → k < F → net_allUnderWay_k0_4 F0 F (sumTo (fun c => sumTo (fun i => g 17 (c * 9 + i)) 9) j) (nn j) g = some (sumTo (fun c => sumTo (fun i => g 17 (c * 9 + i)) 9) C) := by
  have hC := h.hC
  intro k
  induction k with
  | zero =>
    intro j F hj hF
    obtain ⟨F, rfl⟩ : ∃ F2, F = F2 + 1 := ⟨F - 1, by omega⟩
    have : j = C := by omega
    subst this
    unfold net_allUnderWay_k0_4
    rw [h.cC]
    exact if_pos (by simp (disch := first | omega | decide) only [lt1, nnMl, nnMr, nnAl, nnAr, nnA, nnM, nnB, nnT, nnP, nnE, nnEl, nnEr, nnL, nnLl, nnLr, nnQ, nnQr, nnN, Nat.add_zero, if_false, if_true, Option.bind_some, not_true, not_false_iff, not_true_eq_false, not_false_eq_true, eq_self, Nat.not_lt_zero, z10, z01, or_true, true_or, or_false, false_or, true_and, false_and, Nat.le_refl])
  | succ k ih =>
    intro j F hj hF
    obtain ⟨F, rfl⟩ : ∃ F2, F = F2 + 1 := ⟨F - 1, by omega⟩
    have h2 : ¬ C ≤ j := by omega
    unfold net_allUnderWay_k0_4
    rw [h.cC]
    refine st_f (by simp (disch := first | omega | decide) only [lt1, nnMl, nnMr, nnAl, nnAr, nnA, nnM, nnB, nnT, nnP, nnE, nnEl, nnEr, nnL, nnLl, nnLr, nnQ, nnQr, nnN, Nat.add_zero, if_false, if_true, Option.bind_some, not_true, not_false_iff, not_true_eq_false, not_false_eq_true, eq_self, Nat.not_lt_zero, z10, z01, or_true, true_or, or_false, false_or, true_and, false_and, h2]) (st_b (uw0 (by omega) hF0) (st_l ?_))
    refine Eq.trans ?_ (ih (j + 1) F (by omega) (by omega))
    simp (disch := first | omega | decide) only [lt1, nnMl, nnMr, nnAl, nnAr, nnA, nnM, nnB, nnT, nnP, nnE, nnEl, nnEr, nnL, nnLl, nnLr, nnQ, nnQr, nnN, Nat.add_zero, if_false, if_true, Option.bind_some, not_true, not_false_iff, not_true_eq_false, not_false_eq_true, eq_self, Nat.not_lt_zero, z10, z01, or_true, true_or, or_false, false_or, true_and, false_and, sumTo]
theorem auw0 (h : RNet g (g 216) N C Q) {F : Nat} (hF : 20 < F) : net_allUnderWay_k0 F g = some (sumTo (g 17) 126) := by
  have hC := h.hC
  refine (auwL0 h (F0 := F) (by omega) C 0 F (by omega) (by omega)).trans ?_
  rw [sumTo_blk, sumTo_ext (by omega) (fun i h1 h2 => (h.wayZ i (by omega) h2).1)]
theorem skL0_0 (h : RNet g (g 216) N C Q) : ∀ k j F, j + k = N → k < F → net_sumOfKind_k0_0_5 F (sumTo (fun n => if g 3 n = 0 then g 7 n else 0) j) (nn j) g = some (sumTo (fun n => if g 3 n = 0 then g 7 n else 0) N) := by
  have hN := h.hN
  intro k
  induction k with
  | zero =>
    intro j F hj hF
    obtain ⟨F, rfl⟩ : ∃ F2, F = F2 + 1 := ⟨F - 1, by omega⟩
    have : j = N := by omega
    subst this
    unfold net_sumOfKind_k0_0_5
    rw [h.cN]
    exact if_pos (by simp (disch := first | omega | decide) only [lt1, nnMl, nnMr, nnAl, nnAr, nnA, nnM, nnB, nnT, nnP, nnE, nnEl, nnEr, nnL, nnLl, nnLr, nnQ, nnQr, nnN, Nat.add_zero, if_false, if_true, Option.bind_some, not_true, not_false_iff, not_true_eq_false, not_false_eq_true, eq_self, Nat.not_lt_zero, z10, z01, or_true, true_or, or_false, false_or, true_and, false_and, Nat.le_refl])
  | succ k ih =>
    intro j F hj hF
    obtain ⟨F, rfl⟩ : ∃ F2, F = F2 + 1 := ⟨F - 1, by omega⟩
    have h2 : ¬ N ≤ j := by omega
    have h1 : j < 10 := by omega
    unfold net_sumOfKind_k0_0_5
    rw [h.cN]
    refine st_f (by simp (disch := first | omega | decide) only [lt1, nnMl, nnMr, nnAl, nnAr, nnA, nnM, nnB, nnT, nnP, nnE, nnEl, nnEr, nnL, nnLl, nnLr, nnQ, nnQr, nnN, Nat.add_zero, if_false, if_true, Option.bind_some, not_true, not_false_iff, not_true_eq_false, not_false_eq_true, eq_self, Nat.not_lt_zero, z10, z01, or_true, true_or, or_false, false_or, true_and, false_and, h2]) (st_t (by simp (disch := first | omega | decide) only [lt1, nnMl, nnMr, nnAl, nnAr, nnA, nnM, nnB, nnT, nnP, nnE, nnEl, nnEr, nnL, nnLl, nnLr, nnQ, nnQr, nnN, Nat.add_zero, if_false, if_true, Option.bind_some, not_true, not_false_iff, not_true_eq_false, not_false_eq_true, eq_self, Nat.not_lt_zero, z10, z01, or_true, true_or, or_false, false_or, true_and, false_and, h1]) ?_)
    by_cases e : g 3 j = 0
    · refine st_f (by simp (disch := first | omega | decide) only [lt1, nnMl, nnMr, nnAl, nnAr, nnA, nnM, nnB, nnT, nnP, nnE, nnEl, nnEr, nnL, nnLl, nnLr, nnQ, nnQr, nnN, Nat.add_zero, if_false, if_true, Option.bind_some, not_true, not_false_iff, not_true_eq_false, not_false_eq_true, eq_self, Nat.not_lt_zero, z10, z01, or_true, true_or, or_false, false_or, true_and, false_and, e]) (st_w (by simp (disch := first | omega | decide) only [lt1, nnMl, nnMr, nnAl, nnAr, nnA, nnM, nnB, nnT, nnP, nnE, nnEl, nnEr, nnL, nnLl, nnLr, nnQ, nnQr, nnN, Nat.add_zero, if_false, if_true, Option.bind_some, not_true, not_false_iff, not_true_eq_false, not_false_eq_true, eq_self, Nat.not_lt_zero, z10, z01, or_true, true_or, or_false, false_or, true_and, false_and, h1]) ?_)
      refine Eq.trans ?_ (ih (j + 1) F (by omega) (by omega))
      simp (disch := first | omega | decide) only [lt1, nnMl, nnMr, nnAl, nnAr, nnA, nnM, nnB, nnT, nnP, nnE, nnEl, nnEr, nnL, nnLl, nnLr, nnQ, nnQr, nnN, Nat.add_zero, if_false, if_true, Option.bind_some, not_true, not_false_iff, not_true_eq_false, not_false_eq_true, eq_self, Nat.not_lt_zero, z10, z01, or_true, true_or, or_false, false_or, true_and, false_and, sumTo, e]
    · refine st_t (by simp (disch := first | omega | decide) only [lt1, nnMl, nnMr, nnAl, nnAr, nnA, nnM, nnB, nnT, nnP, nnE, nnEl, nnEr, nnL, nnLl, nnLr, nnQ, nnQr, nnN, Nat.add_zero, if_false, if_true, Option.bind_some, not_true, not_false_iff, not_true_eq_false, not_false_eq_true, eq_self, Nat.not_lt_zero, z10, z01, or_true, true_or, or_false, false_or, true_and, false_and, e]) ?_
      refine Eq.trans ?_ (ih (j + 1) F (by omega) (by omega))
      simp (disch := first | omega | decide) only [lt1, nnMl, nnMr, nnAl, nnAr, nnA, nnM, nnB, nnT, nnP, nnE, nnEl, nnEr, nnL, nnLl, nnLr, nnQ, nnQr, nnN, Nat.add_zero, if_false, if_true, Option.bind_some, not_true, not_false_iff, not_true_eq_false, not_false_eq_true, eq_self, Nat.not_lt_zero, z10, z01, or_true, true_or, or_false, false_or, true_and, false_and, sumTo, e, Int32.add_zero]
theorem sk0_0 (h : RNet g (g 216) N C Q) {F : Nat} (hF : 20 < F) : net_sumOfKind_k0_0 F g = some (sumTo (fun n => if g 3 n = 0 then g 7 n else 0) 10) := by
  have hN := h.hN
  refine (skL0_0 h N 0 F (by omega) (by omega)).trans ?_
  rw [sumTo_ext hN (fun i h1 h2 => by simp only [(h.kepZ i h1 h2).1, ite_self])]
theorem skL0_4 (h : RNet g (g 216) N C Q) : ∀ k j F, j + k = N → k < F → net_sumOfKind_k0_4_5 F (sumTo (fun n => if g 3 n = 4 then g 7 n else 0) j) (nn j) g = some (sumTo (fun n => if g 3 n = 4 then g 7 n else 0) N) := by
  have hN := h.hN
  intro k
  induction k with
  | zero =>
    intro j F hj hF
    obtain ⟨F, rfl⟩ : ∃ F2, F = F2 + 1 := ⟨F - 1, by omega⟩
    have : j = N := by omega
    subst this
    unfold net_sumOfKind_k0_4_5
    rw [h.cN]
    exact if_pos (by simp (disch := first | omega | decide) only [lt1, nnMl, nnMr, nnAl, nnAr, nnA, nnM, nnB, nnT, nnP, nnE, nnEl, nnEr, nnL, nnLl, nnLr, nnQ, nnQr, nnN, Nat.add_zero, if_false, if_true, Option.bind_some, not_true, not_false_iff, not_true_eq_false, not_false_eq_true, eq_self, Nat.not_lt_zero, z10, z01, or_true, true_or, or_false, false_or, true_and, false_and, Nat.le_refl])
  | succ k ih =>
    intro j F hj hF
    obtain ⟨F, rfl⟩ : ∃ F2, F = F2 + 1 := ⟨F - 1, by omega⟩
    have h2 : ¬ N ≤ j := by omega
    have h1 : j < 10 := by omega
    unfold net_sumOfKind_k0_4_5
    rw [h.cN]
    refine st_f (by simp (disch := first | omega | decide) only [lt1, nnMl, nnMr, nnAl, nnAr, nnA, nnM, nnB, nnT, nnP, nnE, nnEl, nnEr, nnL, nnLl, nnLr, nnQ, nnQr, nnN, Nat.add_zero, if_false, if_true, Option.bind_some, not_true, not_false_iff, not_true_eq_false, not_false_eq_true, eq_self, Nat.not_lt_zero, z10, z01, or_true, true_or, or_false, false_or, true_and, false_and, h2]) (st_t (by simp (disch := first | omega | decide) only [lt1, nnMl, nnMr, nnAl, nnAr, nnA, nnM, nnB, nnT, nnP, nnE, nnEl, nnEr, nnL, nnLl, nnLr, nnQ, nnQr, nnN, Nat.add_zero, if_false, if_true, Option.bind_some, not_true, not_false_iff, not_true_eq_false, not_false_eq_true, eq_self, Nat.not_lt_zero, z10, z01, or_true, true_or, or_false, false_or, true_and, false_and, h1]) ?_)
    by_cases e : g 3 j = 4
    · refine st_f (by simp (disch := first | omega | decide) only [lt1, nnMl, nnMr, nnAl, nnAr, nnA, nnM, nnB, nnT, nnP, nnE, nnEl, nnEr, nnL, nnLl, nnLr, nnQ, nnQr, nnN, Nat.add_zero, if_false, if_true, Option.bind_some, not_true, not_false_iff, not_true_eq_false, not_false_eq_true, eq_self, Nat.not_lt_zero, z10, z01, or_true, true_or, or_false, false_or, true_and, false_and, e]) (st_w (by simp (disch := first | omega | decide) only [lt1, nnMl, nnMr, nnAl, nnAr, nnA, nnM, nnB, nnT, nnP, nnE, nnEl, nnEr, nnL, nnLl, nnLr, nnQ, nnQr, nnN, Nat.add_zero, if_false, if_true, Option.bind_some, not_true, not_false_iff, not_true_eq_false, not_false_eq_true, eq_self, Nat.not_lt_zero, z10, z01, or_true, true_or, or_false, false_or, true_and, false_and, h1]) ?_)
      refine Eq.trans ?_ (ih (j + 1) F (by omega) (by omega))
      simp (disch := first | omega | decide) only [lt1, nnMl, nnMr, nnAl, nnAr, nnA, nnM, nnB, nnT, nnP, nnE, nnEl, nnEr, nnL, nnLl, nnLr, nnQ, nnQr, nnN, Nat.add_zero, if_false, if_true, Option.bind_some, not_true, not_false_iff, not_true_eq_false, not_false_eq_true, eq_self, Nat.not_lt_zero, z10, z01, or_true, true_or, or_false, false_or, true_and, false_and, sumTo, e]
    · refine st_t (by simp (disch := first | omega | decide) only [lt1, nnMl, nnMr, nnAl, nnAr, nnA, nnM, nnB, nnT, nnP, nnE, nnEl, nnEr, nnL, nnLl, nnLr, nnQ, nnQr, nnN, Nat.add_zero, if_false, if_true, Option.bind_some, not_true, not_false_iff, not_true_eq_false, not_false_eq_true, eq_self, Nat.not_lt_zero, z10, z01, or_true, true_or, or_false, false_or, true_and, false_and, e]) ?_
      refine Eq.trans ?_ (ih (j + 1) F (by omega) (by omega))
      simp (disch := first | omega | decide) only [lt1, nnMl, nnMr, nnAl, nnAr, nnA, nnM, nnB, nnT, nnP, nnE, nnEl, nnEr, nnL, nnLl, nnLr, nnQ, nnQr, nnN, Nat.add_zero, if_false, if_true, Option.bind_some, not_true, not_false_iff, not_true_eq_false, not_false_eq_true, eq_self, Nat.not_lt_zero, z10, z01, or_true, true_or, or_false, false_or, true_and, false_and, sumTo, e, Int32.add_zero]
theorem sk0_4 (h : RNet g (g 216) N C Q) {F : Nat} (hF : 20 < F) : net_sumOfKind_k0_4 F g = some (sumTo (fun n => if g 3 n = 4 then g 7 n else 0) 10) := by
  have hN := h.hN
  refine (skL0_4 h N 0 F (by omega) (by omega)).trans ?_
  rw [sumTo_ext hN (fun i h1 h2 => by simp only [(h.kepZ i h1 h2).1, ite_self])]
theorem skL0_2 (h : RNet g (g 216) N C Q) : ∀ k j F, j + k = N → k < F → net_sumOfKind_k0_2_5 F (sumTo (fun n => if g 3 n = 2 then g 7 n else 0) j) (nn j) g = some (sumTo (fun n => if g 3 n = 2 then g 7 n else 0) N) := by
  have hN := h.hN
  intro k
  induction k with
  | zero =>
    intro j F hj hF
    obtain ⟨F, rfl⟩ : ∃ F2, F = F2 + 1 := ⟨F - 1, by omega⟩
    have : j = N := by omega
    subst this
    unfold net_sumOfKind_k0_2_5
    rw [h.cN]
    exact if_pos (by simp (disch := first | omega | decide) only [lt1, nnMl, nnMr, nnAl, nnAr, nnA, nnM, nnB, nnT, nnP, nnE, nnEl, nnEr, nnL, nnLl, nnLr, nnQ, nnQr, nnN, Nat.add_zero, if_false, if_true, Option.bind_some, not_true, not_false_iff, not_true_eq_false, not_false_eq_true, eq_self, Nat.not_lt_zero, z10, z01, or_true, true_or, or_false, false_or, true_and, false_and, Nat.le_refl])
  | succ k ih =>
    intro j F hj hF
    obtain ⟨F, rfl⟩ : ∃ F2, F = F2 + 1 := ⟨F - 1, by omega⟩
    have h2 : ¬ N ≤ j := by omega
    have h1 : j < 10 := by omega
    unfold net_sumOfKind_k0_2_5
    rw [h.cN]
    refine st_f (by simp (disch := first | omega | decide) only [lt1, nnMl, nnMr, nnAl, nnAr, nnA, nnM, nnB, nnT, nnP, nnE, nnEl, nnEr, nnL, nnLl, nnLr, nnQ, nnQr, nnN, Nat.add_zero, if_false, if_true, Option.bind_some, not_true, not_false_iff, not_true_eq_false, not_false_eq_true, eq_self, Nat.not_lt_zero, z10, z01, or_true, true_or, or_false, false_or, true_and, false_and, h2]) (st_t (by simp (disch := first | omega | decide) only [lt1, nnMl, nnMr, nnAl, nnAr, nnA, nnM, nnB, nnT, nnP, nnE, nnEl, nnEr, nnL, nnLl, nnLr, nnQ, nnQr, nnN, Nat.add_zero, if_false, if_true, Option.bind_some, not_true, not_false_iff, not_true_eq_false, not_false_eq_true, eq_self, Nat.not_lt_zero, z10, z01, or_true, true_or, or_false, false_or, true_and, false_and, h1]) ?_)
    by_cases e : g 3 j = 2
    · refine st_f (by simp (disch := first | omega | decide) only [lt1, nnMl, nnMr, nnAl, nnAr, nnA, nnM, nnB, nnT, nnP, nnE, nnEl, nnEr, nnL, nnLl, nnLr, nnQ, nnQr, nnN, Nat.add_zero, if_false, if_true, Option.bind_some, not_true, not_false_iff, not_true_eq_false, not_false_eq_true, eq_self, Nat.not_lt_zero, z10, z01, or_true, true_or, or_false, false_or, true_and, false_and, e]) (st_w (by simp (disch := first | omega | decide) only [lt1, nnMl, nnMr, nnAl, nnAr, nnA, nnM, nnB, nnT, nnP, nnE, nnEl, nnEr, nnL, nnLl, nnLr, nnQ, nnQr, nnN, Nat.add_zero, if_false, if_true, Option.bind_some, not_true, not_false_iff, not_true_eq_false, not_false_eq_true, eq_self, Nat.not_lt_zero, z10, z01, or_true, true_or, or_false, false_or, true_and, false_and, h1]) ?_)
      refine Eq.trans ?_ (ih (j + 1) F (by omega) (by omega))
      simp (disch := first | omega | decide) only [lt1, nnMl, nnMr, nnAl, nnAr, nnA, nnM, nnB, nnT, nnP, nnE, nnEl, nnEr, nnL, nnLl, nnLr, nnQ, nnQr, nnN, Nat.add_zero, if_false, if_true, Option.bind_some, not_true, not_false_iff, not_true_eq_false, not_false_eq_true, eq_self, Nat.not_lt_zero, z10, z01, or_true, true_or, or_false, false_or, true_and, false_and, sumTo, e]
    · refine st_t (by simp (disch := first | omega | decide) only [lt1, nnMl, nnMr, nnAl, nnAr, nnA, nnM, nnB, nnT, nnP, nnE, nnEl, nnEr, nnL, nnLl, nnLr, nnQ, nnQr, nnN, Nat.add_zero, if_false, if_true, Option.bind_some, not_true, not_false_iff, not_true_eq_false, not_false_eq_true, eq_self, Nat.not_lt_zero, z10, z01, or_true, true_or, or_false, false_or, true_and, false_and, e]) ?_
      refine Eq.trans ?_ (ih (j + 1) F (by omega) (by omega))
      simp (disch := first | omega | decide) only [lt1, nnMl, nnMr, nnAl, nnAr, nnA, nnM, nnB, nnT, nnP, nnE, nnEl, nnEr, nnL, nnLl, nnLr, nnQ, nnQr, nnN, Nat.add_zero, if_false, if_true, Option.bind_some, not_true, not_false_iff, not_true_eq_false, not_false_eq_true, eq_self, Nat.not_lt_zero, z10, z01, or_true, true_or, or_false, false_or, true_and, false_and, sumTo, e, Int32.add_zero]
theorem sk0_2 (h : RNet g (g 216) N C Q) {F : Nat} (hF : 20 < F) : net_sumOfKind_k0_2 F g = some (sumTo (fun n => if g 3 n = 2 then g 7 n else 0) 10) := by
  have hN := h.hN
  refine (skL0_2 h N 0 F (by omega) (by omega)).trans ?_
  rw [sumTo_ext hN (fun i h1 h2 => by simp only [(h.kepZ i h1 h2).1, ite_self])]
theorem uwL1 {c : Nat} (hc : c < 14) : ∀ k j F, j + k = 9 → k < F → net_underWay_k1_5 F (nn c) (sumTo (fun i => g 18 (c * 9 + i)) j) (nn j) g = some (sumTo (fun i => g 18 (c * 9 + i)) 9) := by
  intro k
  induction k with
  | zero =>
    intro j F hj hF
    obtain ⟨F, rfl⟩ : ∃ F2, F = F2 + 1 := ⟨F - 1, by omega⟩
    have : j = 9 := by omega
    subst this
    unfold net_underWay_k1_5
    exact if_pos (by decide)
  | succ k ih =>
    intro j F hj hF
    obtain ⟨F, rfl⟩ : ∃ F2, F = F2 + 1 := ⟨F - 1, by omega⟩
    have h1 : c * 9 + j < 126 := by omega
    have h2 : ¬ 9 ≤ j := by omega
    unfold net_underWay_k1_5
    refine st_f (by simp (disch := first | omega | decide) only [lt1, nnMl, nnMr, nnAl, nnAr, nnA, nnM, nnB, nnT, nnP, nnE, nnEl, nnEr, nnL, nnLl, nnLr, nnQ, nnQr, nnN, Nat.add_zero, if_false, if_true, Option.bind_some, not_true, not_false_iff, not_true_eq_false, not_false_eq_true, eq_self, Nat.not_lt_zero, z10, z01, or_true, true_or, or_false, false_or, true_and, false_and, h2]) (st_w (by simp (disch := first | omega | decide) only [lt1, nnMl, nnMr, nnAl, nnAr, nnA, nnM, nnB, nnT, nnP, nnE, nnEl, nnEr, nnL, nnLl, nnLr, nnQ, nnQr, nnN, Nat.add_zero, if_false, if_true, Option.bind_some, not_true, not_false_iff, not_true_eq_false, not_false_eq_true, eq_self, Nat.not_lt_zero, z10, z01, or_true, true_or, or_false, false_or, true_and, false_and, h1]) ?_)
    refine Eq.trans ?_ (ih (j + 1) F (by omega) (by omega))
    simp (disch := first | omega | decide) only [lt1, nnMl, nnMr, nnAl, nnAr, nnA, nnM, nnB, nnT, nnP, nnE, nnEl, nnEr, nnL, nnLl, nnLr, nnQ, nnQr, nnN, Nat.add_zero, if_false, if_true, Option.bind_some, not_true, not_false_iff, not_true_eq_false, not_false_eq_true, eq_self, Nat.not_lt_zero, z10, z01, or_true, true_or, or_false, false_or, true_and, false_and, sumTo]
theorem uw1 {c F : Nat} (hc : c < 14) (hF : 9 < F) : net_underWay_k1 F (nn c) g = some (sumTo (fun i => g 18 (c * 9 + i)) 9) := uwL1 hc 9 0 F rfl hF
theorem auwL1 (h : RNet g (g 216) N C Q) {F0 : Nat} (hF0 : 9 < F0) : ∀ k j F, j + k = C → k < F → net_allUnderWay_k1_4 F0 F (sumTo (fun c => sumTo (fun i => g 18 (c * 9 + i)) 9) j) (nn j) g = some (sumTo (fun c => sumTo (fun i => g 18 (c * 9 + i)) 9) C) := by
  have hC := h.hC
  intro k
  induction k with
  | zero =>
    intro j F hj hF
    obtain ⟨F, rfl⟩ : ∃ F2, F = F2 + 1 := ⟨F - 1, by omega⟩
    have : j = C := by omega
    subst this
    unfold net_allUnderWay_k1_4
    rw [h.cC]
    exact if_pos (by simp (disch := first | omega | decide) only [lt1, nnMl, nnMr, nnAl, nnAr, nnA, nnM, nnB, nnT, nnP, nnE, nnEl, nnEr, nnL, nnLl, nnLr, nnQ, nnQr, nnN, Nat.add_zero, if_false, if_true, Option.bind_some, not_true, not_false_iff, not_true_eq_false, not_false_eq_true, eq_self, Nat.not_lt_zero, z10, z01, or_true, true_or, or_false, false_or, true_and, false_and, Nat.le_refl])
  | succ k ih =>
    intro j F hj hF
    obtain ⟨F, rfl⟩ : ∃ F2, F = F2 + 1 := ⟨F - 1, by omega⟩
    have h2 : ¬ C ≤ j := by omega
    unfold net_allUnderWay_k1_4
    rw [h.cC]
    refine st_f (by simp (disch := first | omega | decide) only [lt1, nnMl, nnMr, nnAl, nnAr, nnA, nnM, nnB, nnT, nnP, nnE, nnEl, nnEr, nnL, nnLl, nnLr, nnQ, nnQr, nnN, Nat.add_zero, if_false, if_true, Option.bind_some, not_true, not_false_iff, not_true_eq_false, not_false_eq_true, eq_self, Nat.not_lt_zero, z10, z01, or_true, true_or, or_false, false_or, true_and, false_and, h2]) (st_b (uw1 (by omega) hF0) (st_l ?_))
    refine Eq.trans ?_ (ih (j + 1) F (by omega) (by omega))
    simp (disch := first | omega | decide) only [lt1, nnMl, nnMr, nnAl, nnAr, nnA, nnM, nnB, nnT, nnP, nnE, nnEl, nnEr, nnL, nnLl, nnLr, nnQ, nnQr, nnN, Nat.add_zero, if_false, if_true, Option.bind_some, not_true, not_false_iff, not_true_eq_false, not_false_eq_true, eq_self, Nat.not_lt_zero, z10, z01, or_true, true_or, or_false, false_or, true_and, false_and, sumTo]
theorem auw1 (h : RNet g (g 216) N C Q) {F : Nat} (hF : 20 < F) : net_allUnderWay_k1 F g = some (sumTo (g 18) 126) := by
  have hC := h.hC
  refine (auwL1 h (F0 := F) (by omega) C 0 F (by omega) (by omega)).trans ?_
  rw [sumTo_blk, sumTo_ext (by omega) (fun i h1 h2 => (h.wayZ i (by omega) h2).2)]
theorem skL1_0 (h : RNet g (g 216) N C Q) : ∀ k j F, j + k = N → k < F → net_sumOfKind_k1_0_5 F (sumTo (fun n => if g 3 n = 0 then g 8 n else 0) j) (nn j) g = some (sumTo (fun n => if g 3 n = 0 then g 8 n else 0) N) := by
  have hN := h.hN
  intro k
  induction k with
  | zero =>
    intro j F hj hF
    obtain ⟨F, rfl⟩ : ∃ F2, F = F2 + 1 := ⟨F - 1, by omega⟩
    have : j = N := by omega
    subst this
    unfold net_sumOfKind_k1_0_5
    rw [h.cN]
    exact if_pos (by simp (disch := first | omega | decide) only [lt1, nnMl, nnMr, nnAl, nnAr, nnA, nnM, nnB, nnT, nnP, nnE, nnEl, nnEr, nnL, nnLl, nnLr, nnQ, nnQr, nnN, Nat.add_zero, if_false, if_true, Option.bind_some, not_true, not_false_iff, not_true_eq_false, not_false_eq_true, eq_self, Nat.not_lt_zero, z10, z01, or_true, true_or, or_false, false_or, true_and, false_and, Nat.le_refl])
  | succ k ih =>
    intro j F hj hF
    obtain ⟨F, rfl⟩ : ∃ F2, F = F2 + 1 := ⟨F - 1, by omega⟩
    have h2 : ¬ N ≤ j := by omega
    have h1 : j < 10 := by omega
    unfold net_sumOfKind_k1_0_5
    rw [h.cN]
    refine st_f (by simp (disch := first | omega | decide) only [lt1, nnMl, nnMr, nnAl, nnAr, nnA, nnM, nnB, nnT, nnP, nnE, nnEl, nnEr, nnL, nnLl, nnLr, nnQ, nnQr, nnN, Nat.add_zero, if_false, if_true, Option.bind_some, not_true, not_false_iff, not_true_eq_false, not_false_eq_true, eq_self, Nat.not_lt_zero, z10, z01, or_true, true_or, or_false, false_or, true_and, false_and, h2]) (st_t (by simp (disch := first | omega | decide) only [lt1, nnMl, nnMr, nnAl, nnAr, nnA, nnM, nnB, nnT, nnP, nnE, nnEl, nnEr, nnL, nnLl, nnLr, nnQ, nnQr, nnN, Nat.add_zero, if_false, if_true, Option.bind_some, not_true, not_false_iff, not_true_eq_false, not_false_eq_true, eq_self, Nat.not_lt_zero, z10, z01, or_true, true_or, or_false, false_or, true_and, false_and, h1]) ?_)
    by_cases e : g 3 j = 0
    · refine st_f (by simp (disch := first | omega | decide) only [lt1, nnMl, nnMr, nnAl, nnAr, nnA, nnM, nnB, nnT, nnP, nnE, nnEl, nnEr, nnL, nnLl, nnLr, nnQ, nnQr, nnN, Nat.add_zero, if_false, if_true, Option.bind_some, not_true, not_false_iff, not_true_eq_false, not_false_eq_true, eq_self, Nat.not_lt_zero, z10, z01, or_true, true_or, or_false, false_or, true_and, false_and, e]) (st_w (by simp (disch := first | omega | decide) only [lt1, nnMl, nnMr, nnAl, nnAr, nnA, nnM, nnB, nnT, nnP, nnE, nnEl, nnEr, nnL, nnLl, nnLr, nnQ, nnQr, nnN, Nat.add_zero, if_false, if_true, Option.bind_some, not_true, not_false_iff, not_true_eq_false, not_false_eq_true, eq_self, Nat.not_lt_zero, z10, z01, or_true, true_or, or_false, false_or, true_and, false_and, h1]) ?_)
      refine Eq.trans ?_ (ih (j + 1) F (by omega) (by omega))
      simp (disch := first | omega | decide) only [lt1, nnMl, nnMr, nnAl, nnAr, nnA, nnM, nnB, nnT, nnP, nnE, nnEl, nnEr, nnL, nnLl, nnLr, nnQ, nnQr, nnN, Nat.add_zero, if_false, if_true, Option.bind_some, not_true, not_false_iff, not_true_eq_false, not_false_eq_true, eq_self, Nat.not_lt_zero, z10, z01, or_true, true_or, or_false, false_or, true_and, false_and, sumTo, e]
    · refine st_t (by simp (disch := first | omega | decide) only [lt1, nnMl, nnMr, nnAl, nnAr, nnA, nnM, nnB, nnT, nnP, nnE, nnEl, nnEr, nnL, nnLl, nnLr, nnQ, nnQr, nnN, Nat.add_zero, if_false, if_true, Option.bind_some, not_true, not_false_iff, not_true_eq_false, not_false_eq_true, eq_self, Nat.not_lt_zero, z10, z01, or_true, true_or, or_false, false_or, true_and, false_and, e]) ?_
      refine Eq.trans ?_ (ih (j + 1) F (by omega) (by omega))
      simp (disch := first | omega | decide) only [lt1, nnMl, nnMr, nnAl, nnAr, nnA, nnM, nnB, nnT, nnP, nnE, nnEl, nnEr, nnL, nnLl, nnLr, nnQ, nnQr, nnN, Nat.add_zero, if_false, if_true, Option.bind_some, not_true, not_false_iff, not_true_eq_false, not_false_eq_true, eq_self, Nat.not_lt_zero, z10, z01, or_true, true_or, or_false, false_or, true_and, false_and, sumTo, e, Int32.add_zero]
theorem sk1_0 (h : RNet g (g 216) N C Q) {F : Nat} (hF : 20 < F) : net_sumOfKind_k1_0 F g = some (sumTo (fun n => if g 3 n = 0 then g 8 n else 0) 10) := by
  have hN := h.hN
  refine (skL1_0 h N 0 F (by omega) (by omega)).trans ?_
  rw [sumTo_ext hN (fun i h1 h2 => by simp only [(h.kepZ i h1 h2).2, ite_self])]
theorem skL1_4 (h : RNet g (g 216) N C Q) : ∀ k j F, j + k = N → k < F → net_sumOfKind_k1_4_5 F (sumTo (fun n => if g 3 n = 4 then g 8 n else 0) j) (nn j) g = some (sumTo (fun n => if g 3 n = 4 then g 8 n else 0) N) := by
  have hN := h.hN
  intro k
  induction k with
  | zero =>
    intro j F hj hF
    obtain ⟨F, rfl⟩ : ∃ F2, F = F2 + 1 := ⟨F - 1, by omega⟩
    have : j = N := by omega
    subst this
    unfold net_sumOfKind_k1_4_5
    rw [h.cN]
    exact if_pos (by simp (disch := first | omega | decide) only [lt1, nnMl, nnMr, nnAl, nnAr, nnA, nnM, nnB, nnT, nnP, nnE, nnEl, nnEr, nnL, nnLl, nnLr, nnQ, nnQr, nnN, Nat.add_zero, if_false, if_true, Option.bind_some, not_true, not_false_iff, not_true_eq_false, not_false_eq_true, eq_self, Nat.not_lt_zero, z10, z01, or_true, true_or, or_false, false_or, true_and, false_and, Nat.le_refl])
  | succ k ih =>
    intro j F hj hF
    obtain ⟨F, rfl⟩ : ∃ F2, F = F2 + 1 := ⟨F - 1, by omega⟩
    have h2 : ¬ N ≤ j := by omega
    have h1 : j < 10 := by omega
    unfold net_sumOfKind_k1_4_5
    rw [h.cN]
    refine st_f (by simp (disch := first | omega | decide) only [lt1, nnMl, nnMr, nnAl, nnAr, nnA, nnM, nnB, nnT, nnP, nnE, nnEl, nnEr, nnL, nnLl, nnLr, nnQ, nnQr, nnN, Nat.add_zero, if_false, if_true, Option.bind_some, not_true, not_false_iff, not_true_eq_false, not_false_eq_true, eq_self, Nat.not_lt_zero, z10, z01, or_true, true_or, or_false, false_or, true_and, false_and, h2]) (st_t (by simp (disch := first | omega | decide) only [lt1, nnMl, nnMr, nnAl, nnAr, nnA, nnM, nnB, nnT, nnP, nnE, nnEl, nnEr, nnL, nnLl, nnLr, nnQ, nnQr, nnN, Nat.add_zero, if_false, if_true, Option.bind_some, not_true, not_false_iff, not_true_eq_false, not_false_eq_true, eq_self, Nat.not_lt_zero, z10, z01, or_true, true_or, or_false, false_or, true_and, false_and, h1]) ?_)
    by_cases e : g 3 j = 4
    · refine st_f (by simp (disch := first | omega | decide) only [lt1, nnMl, nnMr, nnAl, nnAr, nnA, nnM, nnB, nnT, nnP, nnE, nnEl, nnEr, nnL, nnLl, nnLr, nnQ, nnQr, nnN, Nat.add_zero, if_false, if_true, Option.bind_some, not_true, not_false_iff, not_true_eq_false, not_false_eq_true, eq_self, Nat.not_lt_zero, z10, z01, or_true, true_or, or_false, false_or, true_and, false_and, e]) (st_w (by simp (disch := first | omega | decide) only [lt1, nnMl, nnMr, nnAl, nnAr, nnA, nnM, nnB, nnT, nnP, nnE, nnEl, nnEr, nnL, nnLl, nnLr, nnQ, nnQr, nnN, Nat.add_zero, if_false, if_true, Option.bind_some, not_true, not_false_iff, not_true_eq_false, not_false_eq_true, eq_self, Nat.not_lt_zero, z10, z01, or_true, true_or, or_false, false_or, true_and, false_and, h1]) ?_)
      refine Eq.trans ?_ (ih (j + 1) F (by omega) (by omega))
      simp (disch := first | omega | decide) only [lt1, nnMl, nnMr, nnAl, nnAr, nnA, nnM, nnB, nnT, nnP, nnE, nnEl, nnEr, nnL, nnLl, nnLr, nnQ, nnQr, nnN, Nat.add_zero, if_false, if_true, Option.bind_some, not_true, not_false_iff, not_true_eq_false, not_false_eq_true, eq_self, Nat.not_lt_zero, z10, z01, or_true, true_or, or_false, false_or, true_and, false_and, sumTo, e]
    · refine st_t (by simp (disch := first | omega | decide) only [lt1, nnMl, nnMr, nnAl, nnAr, nnA, nnM, nnB, nnT, nnP, nnE, nnEl, nnEr, nnL, nnLl, nnLr, nnQ, nnQr, nnN, Nat.add_zero, if_false, if_true, Option.bind_some, not_true, not_false_iff, not_true_eq_false, not_false_eq_true, eq_self, Nat.not_lt_zero, z10, z01, or_true, true_or, or_false, false_or, true_and, false_and, e]) ?_
      refine Eq.trans ?_ (ih (j + 1) F (by omega) (by omega))
      simp (disch := first | omega | decide) only [lt1, nnMl, nnMr, nnAl, nnAr, nnA, nnM, nnB, nnT, nnP, nnE, nnEl, nnEr, nnL, nnLl, nnLr, nnQ, nnQr, nnN, Nat.add_zero, if_false, if_true, Option.bind_some, not_true, not_false_iff, not_true_eq_false, not_false_eq_true, eq_self, Nat.not_lt_zero, z10, z01, or_true, true_or, or_false, false_or, true_and, false_and, sumTo, e, Int32.add_zero]
theorem sk1_4 (h : RNet g (g 216) N C Q) {F : Nat} (hF : 20 < F) : net_sumOfKind_k1_4 F g = some (sumTo (fun n => if g 3 n = 4 then g 8 n else 0) 10) := by
  have hN := h.hN
  refine (skL1_4 h N 0 F (by omega) (by omega)).trans ?_
  rw [sumTo_ext hN (fun i h1 h2 => by simp only [(h.kepZ i h1 h2).2, ite_self])]
theorem skL1_2 (h : RNet g (g 216) N C Q) : ∀ k j F, j + k = N → k < F → net_sumOfKind_k1_2_5 F (sumTo (fun n => if g 3 n = 2 then g 8 n else 0) j) (nn j) g = some (sumTo (fun n => if g 3 n = 2 then g 8 n else 0) N) := by
  have hN := h.hN
  intro k
  induction k with
  | zero =>
    intro j F hj hF
    obtain ⟨F, rfl⟩ : ∃ F2, F = F2 + 1 := ⟨F - 1, by omega⟩
    have : j = N := by omega
    subst this
    unfold net_sumOfKind_k1_2_5
    rw [h.cN]
    exact if_pos (by simp (disch := first | omega | decide) only [lt1, nnMl, nnMr, nnAl, nnAr, nnA, nnM, nnB, nnT, nnP, nnE, nnEl, nnEr, nnL, nnLl, nnLr, nnQ, nnQr, nnN, Nat.add_zero, if_false, if_true, Option.bind_some, not_true, not_false_iff, not_true_eq_false, not_false_eq_true, eq_self, Nat.not_lt_zero, z10, z01, or_true, true_or, or_false, false_or, true_and, false_and, Nat.le_refl])
  | succ k ih =>
    intro j F hj hF
    obtain ⟨F, rfl⟩ : ∃ F2, F = F2 + 1 := ⟨F - 1, by omega⟩
    have h2 : ¬ N ≤ j := by omega
    have h1 : j < 10 := by omega
    unfold net_sumOfKind_k1_2_5
    rw [h.cN]
    refine st_f (by simp (disch := first | omega | decide) only [lt1, nnMl, nnMr, nnAl, nnAr, nnA, nnM, nnB, nnT, nnP, nnE, nnEl, nnEr, nnL, nnLl, nnLr, nnQ, nnQr, nnN, Nat.add_zero, if_false, if_true, Option.bind_some, not_true, not_false_iff, not_true_eq_false, not_false_eq_true, eq_self, Nat.not_lt_zero, z10, z01, or_true, true_or, or_false, false_or, true_and, false_and, h2]) (st_t (by simp (disch := first | omega | decide) only [lt1, nnMl, nnMr, nnAl, nnAr, nnA, nnM, nnB, nnT, nnP, nnE, nnEl, nnEr, nnL, nnLl, nnLr, nnQ, nnQr, nnN, Nat.add_zero, if_false, if_true, Option.bind_some, not_true, not_false_iff, not_true_eq_false, not_false_eq_true, eq_self, Nat.not_lt_zero, z10, z01, or_true, true_or, or_false, false_or, true_and, false_and, h1]) ?_)
    by_cases e : g 3 j = 2
    · refine st_f (by simp (disch := first | omega | decide) only [lt1, nnMl, nnMr, nnAl, nnAr, nnA, nnM, nnB, nnT, nnP, nnE, nnEl, nnEr, nnL, nnLl, nnLr, nnQ, nnQr, nnN, Nat.add_zero, if_false, if_true, Option.bind_some, not_true, not_false_iff, not_true_eq_false, not_false_eq_true, eq_self, Nat.not_lt_zero, z10, z01, or_true, true_or, or_false, false_or, true_and, false_and, e]) (st_w (by simp (disch := first | omega | decide) only [lt1, nnMl, nnMr, nnAl, nnAr, nnA, nnM, nnB, nnT, nnP, nnE, nnEl, nnEr, nnL, nnLl, nnLr, nnQ, nnQr, nnN, Nat.add_zero, if_false, if_true, Option.bind_some, not_true, not_false_iff, not_true_eq_false, not_false_eq_true, eq_self, Nat.not_lt_zero, z10, z01, or_true, true_or, or_false, false_or, true_and, false_and, h1]) ?_)
      refine Eq.trans ?_ (ih (j + 1) F (by omega) (by omega))
      simp (disch := first | omega | decide) only [lt1, nnMl, nnMr, nnAl, nnAr, nnA, nnM, nnB, nnT, nnP, nnE, nnEl, nnEr, nnL, nnLl, nnLr, nnQ, nnQr, nnN, Nat.add_zero, if_false, if_true, Option.bind_some, not_true, not_false_iff, not_true_eq_false, not_false_eq_true, eq_self, Nat.not_lt_zero, z10, z01, or_true, true_or, or_false, false_or, true_and, false_and, sumTo, e]
    · refine st_t (by simp (disch := first | omega | decide) only [lt1, nnMl, nnMr, nnAl, nnAr, nnA, nnM, nnB, nnT, nnP, nnE, nnEl, nnEr, nnL, nnLl, nnLr, nnQ, nnQr, nnN, Nat.add_zero, if_false, if_true, Option.bind_some, not_true, not_false_iff, not_true_eq_false, not_false_eq_true, eq_self, Nat.not_lt_zero, z10, z01, or_true, true_or, or_false, false_or, true_and, false_and, e]) ?_
      refine Eq.trans ?_ (ih (j + 1) F (by omega) (by omega))
      simp (disch := first | omega | decide) only [lt1, nnMl, nnMr, nnAl, nnAr, nnA, nnM, nnB, nnT, nnP, nnE, nnEl, nnEr, nnL, nnLl, nnLr, nnQ, nnQr, nnN, Nat.add_zero, if_false, if_true, Option.bind_some, not_true, not_false_iff, not_true_eq_false, not_false_eq_true, eq_self, Nat.not_lt_zero, z10, z01, or_true, true_or, or_false, false_or, true_and, false_and, sumTo, e, Int32.add_zero]
theorem sk1_2 (h : RNet g (g 216) N C Q) {F : Nat} (hF : 20 < F) : net_sumOfKind_k1_2 F g = some (sumTo (fun n => if g 3 n = 2 then g 8 n else 0) 10) := by
  have hN := h.hN
  refine (skL1_2 h N 0 F (by omega) (by omega)).trans ?_
  rw [sumTo_ext hN (fun i h1 h2 => by simp only [(h.kepZ i h1 h2).2, ite_self])]
theorem muwL {r c : Nat} (hr : r < 2) (hc : c < 14) : ∀ k j F, j + k = 9 → k < F → m_underWay_5 F (nn r) (nn c) (sumTo (fun i => g 216 (290 + 9 * (14 * r + c) + i)) j) (nn j) g = some (sumTo (fun i => g 216 (290 + 9 * (14 * r + c) + i)) 9) := by
  intro k
  induction k with
  | zero =>
    intro j F hj hF
    obtain ⟨F, rfl⟩ : ∃ F2, F = F2 + 1 := ⟨F - 1, by omega⟩
    have : j = 9 := by omega
    subst this
    unfold m_underWay_5
    exact if_pos (by decide)
  | succ k ih =>
    intro j F hj hF
    obtain ⟨F, rfl⟩ : ∃ F2, F = F2 + 1 := ⟨F - 1, by omega⟩
    have h1 : 290 + 9 * (14 * r + c) + j < 20360 := by omega
    have h2 : ¬ 9 ≤ j := by omega
    have h3 : j - j / 9 * 9 = j := by omega
    unfold m_underWay_5 m_wayAt
    refine st_f (by simp (disch := first | omega | decide) only [lt1, nnMl, nnMr, nnAl, nnAr, nnA, nnM, nnB, nnT, nnP, nnE, nnEl, nnEr, nnL, nnLl, nnLr, nnQ, nnQr, nnN, Nat.add_zero, if_false, if_true, Option.bind_some, not_true, not_false_iff, not_true_eq_false, not_false_eq_true, eq_self, Nat.not_lt_zero, z10, z01, or_true, true_or, or_false, false_or, true_and, false_and, h2]) (st_b rfl (st_w (by simp (disch := first | omega | decide) only [lt1, nnMl, nnMr, nnAl, nnAr, nnA, nnM, nnB, nnT, nnP, nnE, nnEl, nnEr, nnL, nnLl, nnLr, nnQ, nnQr, nnN, Nat.add_zero, if_false, if_true, Option.bind_some, not_true, not_false_iff, not_true_eq_false, not_false_eq_true, eq_self, Nat.not_lt_zero, z10, z01, or_true, true_or, or_false, false_or, true_and, false_and, nnDr, nnS, h3, h1]) ?_))
    refine Eq.trans ?_ (ih (j + 1) F (by omega) (by omega))
    simp (disch := first | omega | decide) only [lt1, nnMl, nnMr, nnAl, nnAr, nnA, nnM, nnB, nnT, nnP, nnE, nnEl, nnEr, nnL, nnLl, nnLr, nnQ, nnQr, nnN, Nat.add_zero, if_false, if_true, Option.bind_some, not_true, not_false_iff, not_true_eq_false, not_false_eq_true, eq_self, Nat.not_lt_zero, z10, z01, or_true, true_or, or_false, false_or, true_and, false_and, nnDr, nnS, h3, sumTo]
theorem muw {r c F : Nat} (hr : r < 2) (hc : c < 14) (hF : 9 < F) : m_underWay F (nn r) (nn c) g = some (sumTo (fun i => g 216 (290 + 9 * (14 * r + c) + i)) 9) := muwL hr hc 9 0 F rfl hF
theorem chanOf_y {n k : Nat} (hn : n < 14) (hk : k < 7) : m_channelOf (nn n) (nn k) g = some (g 216 (190 + 7 * n + k)) := by
  have h : 190 + 7 * n + k < 20360 := by omega
  unfold m_channelOf
  simp (disch := first | omega | decide) only [lt1, nnMl, nnMr, nnAl, nnAr, nnA, nnM, nnB, nnT, nnP, nnE, nnEl, nnEr, nnL, nnLl, nnLr, nnQ, nnQr, nnN, Nat.add_zero, if_false, if_true, Option.bind_some, not_true, not_false_iff, not_true_eq_false, not_false_eq_true, eq_self, Nat.not_lt_zero, z10, z01, or_true, true_or, or_false, false_or, true_and, false_and, h]
theorem brL (h : RNet g (g 216) N C Q) : ∀ k j F, j + k = C → k < F → net_brokenChannels_4 F (sumTo (g 15) j) (nn j) g = some (sumTo (g 15) C) := by
  have hC := h.hC
  intro k
  induction k with
  | zero =>
    intro j F hj hF
    obtain ⟨F, rfl⟩ : ∃ F2, F = F2 + 1 := ⟨F - 1, by omega⟩
    have : j = C := by omega
    subst this
    unfold net_brokenChannels_4
    rw [h.cC]
    exact if_pos (by simp (disch := first | omega | decide) only [lt1, nnMl, nnMr, nnAl, nnAr, nnA, nnM, nnB, nnT, nnP, nnE, nnEl, nnEr, nnL, nnLl, nnLr, nnQ, nnQr, nnN, Nat.add_zero, if_false, if_true, Option.bind_some, not_true, not_false_iff, not_true_eq_false, not_false_eq_true, eq_self, Nat.not_lt_zero, z10, z01, or_true, true_or, or_false, false_or, true_and, false_and, Nat.le_refl])
  | succ k ih =>
    intro j F hj hF
    obtain ⟨F, rfl⟩ : ∃ F2, F = F2 + 1 := ⟨F - 1, by omega⟩
    have h2 : ¬ C ≤ j := by omega
    have h1 : j < 14 := by omega
    unfold net_brokenChannels_4
    rw [h.cC]
    refine st_f (by simp (disch := first | omega | decide) only [lt1, nnMl, nnMr, nnAl, nnAr, nnA, nnM, nnB, nnT, nnP, nnE, nnEl, nnEr, nnL, nnLl, nnLr, nnQ, nnQr, nnN, Nat.add_zero, if_false, if_true, Option.bind_some, not_true, not_false_iff, not_true_eq_false, not_false_eq_true, eq_self, Nat.not_lt_zero, z10, z01, or_true, true_or, or_false, false_or, true_and, false_and, h2]) (st_t (by simp (disch := first | omega | decide) only [lt1, nnMl, nnMr, nnAl, nnAr, nnA, nnM, nnB, nnT, nnP, nnE, nnEl, nnEr, nnL, nnLl, nnLr, nnQ, nnQr, nnN, Nat.add_zero, if_false, if_true, Option.bind_some, not_true, not_false_iff, not_true_eq_false, not_false_eq_true, eq_self, Nat.not_lt_zero, z10, z01, or_true, true_or, or_false, false_or, true_and, false_and, h1]) ?_)
    rcases h.brkV j h1 with e | e
    · refine st_t (by simp (disch := first | omega | decide) only [lt1, nnMl, nnMr, nnAl, nnAr, nnA, nnM, nnB, nnT, nnP, nnE, nnEl, nnEr, nnL, nnLl, nnLr, nnQ, nnQr, nnN, Nat.add_zero, if_false, if_true, Option.bind_some, not_true, not_false_iff, not_true_eq_false, not_false_eq_true, eq_self, Nat.not_lt_zero, z10, z01, or_true, true_or, or_false, false_or, true_and, false_and, e]) ?_
      refine Eq.trans ?_ (ih (j + 1) F (by omega) (by omega))
      simp (disch := first | omega | decide) only [lt1, nnMl, nnMr, nnAl, nnAr, nnA, nnM, nnB, nnT, nnP, nnE, nnEl, nnEr, nnL, nnLl, nnLr, nnQ, nnQr, nnN, Nat.add_zero, if_false, if_true, Option.bind_some, not_true, not_false_iff, not_true_eq_false, not_false_eq_true, eq_self, Nat.not_lt_zero, z10, z01, or_true, true_or, or_false, false_or, true_and, false_and, sumTo, e, Int32.add_zero]
    · refine st_f (by simp (disch := first | omega | decide) only [lt1, nnMl, nnMr, nnAl, nnAr, nnA, nnM, nnB, nnT, nnP, nnE, nnEl, nnEr, nnL, nnLl, nnLr, nnQ, nnQr, nnN, Nat.add_zero, if_false, if_true, Option.bind_some, not_true, not_false_iff, not_true_eq_false, not_false_eq_true, eq_self, Nat.not_lt_zero, z10, z01, or_true, true_or, or_false, false_or, true_and, false_and, e]) ?_
      refine Eq.trans ?_ (ih (j + 1) F (by omega) (by omega))
      simp (disch := first | omega | decide) only [lt1, nnMl, nnMr, nnAl, nnAr, nnA, nnM, nnB, nnT, nnP, nnE, nnEl, nnEr, nnL, nnLl, nnLr, nnQ, nnQr, nnN, Nat.add_zero, if_false, if_true, Option.bind_some, not_true, not_false_iff, not_true_eq_false, not_false_eq_true, eq_self, Nat.not_lt_zero, z10, z01, or_true, true_or, or_false, false_or, true_and, false_and, sumTo, e]
theorem dryL {T L : Nat} (h : RLaw g (g 216) T L) : ∀ k j F, j + k = 100 → k < F → law_countDry_4 F (sumTo (g 41) j) (nn j) g = some (sumTo (g 41) 100) := by
  intro k
  induction k with
  | zero =>
    intro j F hj hF
    obtain ⟨F, rfl⟩ : ∃ F2, F = F2 + 1 := ⟨F - 1, by omega⟩
    have : j = 100 := by omega
    subst this
    unfold law_countDry_4
    exact if_pos (by decide)
  | succ k ih =>
    intro j F hj hF
    obtain ⟨F, rfl⟩ : ∃ F2, F = F2 + 1 := ⟨F - 1, by omega⟩
    have h2 : ¬ 100 ≤ j := by omega
    have h1 : j < 100 := by omega
    unfold law_countDry_4
    refine st_f (by simp (disch := first | omega | decide) only [lt1, nnMl, nnMr, nnAl, nnAr, nnA, nnM, nnB, nnT, nnP, nnE, nnEl, nnEr, nnL, nnLl, nnLr, nnQ, nnQr, nnN, Nat.add_zero, if_false, if_true, Option.bind_some, not_true, not_false_iff, not_true_eq_false, not_false_eq_true, eq_self, Nat.not_lt_zero, z10, z01, or_true, true_or, or_false, false_or, true_and, false_and, h2]) (st_t (by simp (disch := first | omega | decide) only [lt1, nnMl, nnMr, nnAl, nnAr, nnA, nnM, nnB, nnT, nnP, nnE, nnEl, nnEr, nnL, nnLl, nnLr, nnQ, nnQr, nnN, Nat.add_zero, if_false, if_true, Option.bind_some, not_true, not_false_iff, not_true_eq_false, not_false_eq_true, eq_self, Nat.not_lt_zero, z10, z01, or_true, true_or, or_false, false_or, true_and, false_and, h1]) ?_)
    rcases h.dryV j h1 with e | e
    · refine st_t (by simp (disch := first | omega | decide) only [lt1, nnMl, nnMr, nnAl, nnAr, nnA, nnM, nnB, nnT, nnP, nnE, nnEl, nnEr, nnL, nnLl, nnLr, nnQ, nnQr, nnN, Nat.add_zero, if_false, if_true, Option.bind_some, not_true, not_false_iff, not_true_eq_false, not_false_eq_true, eq_self, Nat.not_lt_zero, z10, z01, or_true, true_or, or_false, false_or, true_and, false_and, e]) ?_
      refine Eq.trans ?_ (ih (j + 1) F (by omega) (by omega))
      simp (disch := first | omega | decide) only [lt1, nnMl, nnMr, nnAl, nnAr, nnA, nnM, nnB, nnT, nnP, nnE, nnEl, nnEr, nnL, nnLl, nnLr, nnQ, nnQr, nnN, Nat.add_zero, if_false, if_true, Option.bind_some, not_true, not_false_iff, not_true_eq_false, not_false_eq_true, eq_self, Nat.not_lt_zero, z10, z01, or_true, true_or, or_false, false_or, true_and, false_and, sumTo, e, Int32.add_zero]
    · refine st_f (by simp (disch := first | omega | decide) only [lt1, nnMl, nnMr, nnAl, nnAr, nnA, nnM, nnB, nnT, nnP, nnE, nnEl, nnEr, nnL, nnLl, nnLr, nnQ, nnQr, nnN, Nat.add_zero, if_false, if_true, Option.bind_some, not_true, not_false_iff, not_true_eq_false, not_false_eq_true, eq_self, Nat.not_lt_zero, z10, z01, or_true, true_or, or_false, false_or, true_and, false_and, e]) ?_
      refine Eq.trans ?_ (ih (j + 1) F (by omega) (by omega))
      simp (disch := first | omega | decide) only [lt1, nnMl, nnMr, nnAl, nnAr, nnA, nnM, nnB, nnT, nnP, nnE, nnEl, nnEr, nnL, nnLl, nnLr, nnQ, nnQr, nnN, Nat.add_zero, if_false, if_true, Option.bind_some, not_true, not_false_iff, not_true_eq_false, not_false_eq_true, eq_self, Nat.not_lt_zero, z10, z01, or_true, true_or, or_false, false_or, true_and, false_and, sumTo, e]
def cntR (g : Sg) (C Q : Nat) (v : Int32) : Option Int32 := if v = 0 then some (g 216 0) else if v = 1 then some (g 216 1) else if v = 2 then some (g 216 2) else if v = 3 then some (g 216 3) else if v = 4 then some (nn (Q / 96)) else if v = 5 then some ((g 216 3) / 672) else if v = 6 then some (g 216 6) else if v = 7 then some (g 216 4) else if v = 8 then some (g 216 5) else if v = 9 then some (sumTo (g 15) C) else if v = 10 then some (sumTo (g 41) 100) else some (-1)
theorem mct38 {T L : Nat} (h : RNet g (g 216) N C Q) (hl : RLaw g (g 216) T L) {v : Int32} : ∀ k j F, j + k = 100 → k < F → m_count_38 F v (sumTo (g 15) C) (sumTo (g 41) j) (nn j) g = cntR g C Q v := by
  intro k
  induction k with
  | zero =>
    intro j F hj hF
    obtain ⟨F, rfl⟩ : ∃ F2, F = F2 + 1 := ⟨F - 1, by omega⟩
    have : j = 100 := by omega
    subst this
    unfold m_count_38
    refine st_t (by decide) ?_
    rw [today_m h.aQ h.hQ]
    rfl
  | succ k ih =>
    intro j F hj hF
    obtain ⟨F, rfl⟩ : ∃ F2, F = F2 + 1 := ⟨F - 1, by omega⟩
    have h2 : ¬ 100 ≤ j := by omega
    have h1 : j < 100 := by omega
    have h3 : 40 + j < 20360 := by omega
    unfold m_count_38
    refine st_f (by simp (disch := first | omega | decide) only [lt1, nnMl, nnMr, nnAl, nnAr, nnA, nnM, nnB, nnT, nnP, nnE, nnEl, nnEr, nnL, nnLl, nnLr, nnQ, nnQr, nnN, Nat.add_zero, if_false, if_true, Option.bind_some, not_true, not_false_iff, not_true_eq_false, not_false_eq_true, eq_self, Nat.not_lt_zero, z10, z01, or_true, true_or, or_false, false_or, true_and, false_and, h2]) (st_w (by simp (disch := first | omega | decide) only [lt1, nnMl, nnMr, nnAl, nnAr, nnA, nnM, nnB, nnT, nnP, nnE, nnEl, nnEr, nnL, nnLl, nnLr, nnQ, nnQr, nnN, Nat.add_zero, if_false, if_true, Option.bind_some, not_true, not_false_iff, not_true_eq_false, not_false_eq_true, eq_self, Nat.not_lt_zero, z10, z01, or_true, true_or, or_false, false_or, true_and, false_and, h3]) ?_)
    refine Eq.trans ?_ (ih (j + 1) F (by omega) (by omega))
    simp (disch := first | omega | decide) only [lt1, nnMl, nnMr, nnAl, nnAr, nnA, nnM, nnB, nnT, nnP, nnE, nnEl, nnEr, nnL, nnLl, nnLr, nnQ, nnQr, nnN, Nat.add_zero, if_false, if_true, Option.bind_some, not_true, not_false_iff, not_true_eq_false, not_false_eq_true, eq_self, Nat.not_lt_zero, z10, z01, or_true, true_or, or_false, false_or, true_and, false_and, sumTo, hl.dry j h1]
theorem mct7 {T L : Nat} (h : RNet g (g 216) N C Q) (hl : RLaw g (g 216) T L) {v : Int32} {F0 : Nat} (hF0 : 100 < F0) : ∀ k j F, j + k = C → k < F → m_count_7 F0 F v (sumTo (g 15) j) (nn j) g = cntR g C Q v := by
  have hC := h.hC
  intro k
  induction k with
  | zero =>
    intro j F hj hF
    obtain ⟨F, rfl⟩ : ∃ F2, F = F2 + 1 := ⟨F - 1, by omega⟩
    have : j = C := by omega
    subst this
    unfold m_count_7
    rw [h.aC]
    refine st_t (by simp (disch := first | omega | decide) only [lt1, nnMl, nnMr, nnAl, nnAr, nnA, nnM, nnB, nnT, nnP, nnE, nnEl, nnEr, nnL, nnLl, nnLr, nnQ, nnQr, nnN, Nat.add_zero, if_false, if_true, Option.bind_some, not_true, not_false_iff, not_true_eq_false, not_false_eq_true, eq_self, Nat.not_lt_zero, z10, z01, or_true, true_or, or_false, false_or, true_and, false_and, Nat.le_refl]) ?_
    exact mct38 h hl 100 0 F0 (by omega) hF0
  | succ k ih =>
    intro j F hj hF
    obtain ⟨F, rfl⟩ : ∃ F2, F = F2 + 1 := ⟨F - 1, by omega⟩
    have h2 : ¬ C ≤ j := by omega
    have h1 : j < 14 := by omega
    unfold m_count_7
    rw [h.aC]
    have h3 : m_channelOf_k6 (nn j) g = some (g 15 j) := (chanOf_y (g := g) h1 (k := 6) (by decide)).trans (by rw [h.brk j h1])
    refine st_f (by simp (disch := first | omega | decide) only [lt1, nnMl, nnMr, nnAl, nnAr, nnA, nnM, nnB, nnT, nnP, nnE, nnEl, nnEr, nnL, nnLl, nnLr, nnQ, nnQr, nnN, Nat.add_zero, if_false, if_true, Option.bind_some, not_true, not_false_iff, not_true_eq_false, not_false_eq_true, eq_self, Nat.not_lt_zero, z10, z01, or_true, true_or, or_false, false_or, true_and, false_and, h2]) (st_b h3 (st_l ?_))
    refine Eq.trans ?_ (ih (j + 1) F (by omega) (by omega))
    simp (disch := first | omega | decide) only [lt1, nnMl, nnMr, nnAl, nnAr, nnA, nnM, nnB, nnT, nnP, nnE, nnEl, nnEr, nnL, nnLl, nnLr, nnQ, nnQr, nnN, Nat.add_zero, if_false, if_true, Option.bind_some, not_true, not_false_iff, not_true_eq_false, not_false_eq_true, eq_self, Nat.not_lt_zero, z10, z01, or_true, true_or, or_false, false_or, true_and, false_and, sumTo]
end SH
theorem sim_count {TS : Sg → Prop} : Sim_count (RR TS) := by
  intro v1 g hR
  obtain ⟨N, C, Q, D, T, L, G, h⟩ := hR.now
  have hm : m_count 200 v1 g = cntR g C Q v1 := mct7 h.net h.law (by decide) C 0 200 (by omega) (by have := h.net.hC; omega)
  have hx : x_count 200 v1 g = cntR g C Q v1 := by
    have hC := h.net.hC
    have b1 : net_brokenChannels 200 g = some (sumTo (g 15) C) := brL h.net C 0 200 (by omega) (by omega)
    have b2 : law_countDry 200 g = some (sumTo (g 41) 100) := dryL h.law 100 0 200 (by omega) (by omega)
    unfold x_count cntR
    rw [b1, b2, today_x h.net, h.net.cN, h.net.aN, h.net.cC, h.net.aC, h.rig.cD, h.rig.aD, h.net.cQ, h.net.aQ, h.rig.cR, h.rig.aR, h.law.cL, h.law.aL, h.gau.cG, h.gau.aG]
    rfl
  obtain ⟨r, hr⟩ : ∃ r, cntR g C Q v1 = some r := by
    unfold cntR
    repeat (split; exact ⟨_, rfl⟩)
    exact ⟨_, rfl⟩
  exact ⟨200, 200, r, g, g, hx.trans hr, hm.trans hr, hR, rfl, rfl⟩
theorem sim_all {TS : Sg → Prop} : Sim_all (RR TS) := by
  intro v1 v2 g hR hb
  obtain ⟨N, C, Q, D, T, L, G, h⟩ := hR.now
  have c6 : ∀ k : Nat, k ≤ 6 → k = 0 ∨ k = 1 ∨ k = 2 ∨ k = 3 ∨ k = 4 ∨ k = 5 ∨ k = 6 := by omega
  rcases chk v1 6 6 rfl (by decide) with ⟨k, hk, rfl, x1, m1⟩ | ⟨x1, m1⟩
  · rcases hb with rfl | rfl
    · refine ⟨100, 0, g 216 (10 + k), g, g, ?_, ?_, hR, rfl, rfl⟩
      · unfold x_all
        refine st_t rfl ?_
        unfold x_all_17
        rw [sk0_0 h.net (by decide), sk0_4 h.net (by decide), sk0_2 h.net (by decide), auw0 h.net (by decide)]
        rcases c6 k hk with rfl | rfl | rfl | rfl | rfl | rfl | rfl
        · exact congrArg some h.net.su00.symm
        · exact congrArg some h.net.su01.symm
        · exact congrArg some h.net.su02.symm
        · exact congrArg some h.net.su03.symm
        · exact congrArg some h.net.su04.symm
        · exact congrArg some h.net.su05.symm
        · exact congrArg some h.net.su06.symm
      · unfold m_all
        have h1 : 10 + k < 20360 := by omega
        refine st_b (m1 _) (st_f (by decide) (st_t rfl ?_))
        simp (disch := first | omega | decide) only [lt1, nnMl, nnMr, nnAl, nnAr, nnA, nnM, nnB, nnT, nnP, nnE, nnEl, nnEr, nnL, nnLl, nnLr, nnQ, nnQr, nnN, Nat.add_zero, if_false, if_true, Option.bind_some, not_true, not_false_iff, not_true_eq_false, not_false_eq_true, eq_self, Nat.not_lt_zero, z10, z01, or_true, true_or, or_false, false_or, true_and, false_and, h1]
    · refine ⟨100, 0, g 216 (17 + k), g, g, ?_, ?_, hR, rfl, rfl⟩
      · unfold x_all
        refine st_f (by decide) ?_
        unfold x_all_17_2
        rw [sk1_0 h.net (by decide), sk1_4 h.net (by decide), sk1_2 h.net (by decide), auw1 h.net (by decide)]
        rcases c6 k hk with rfl | rfl | rfl | rfl | rfl | rfl | rfl
        · exact congrArg some h.net.su10.symm
        · exact congrArg some h.net.su11.symm
        · exact congrArg some h.net.su12.symm
        · exact congrArg some h.net.su13.symm
        · exact congrArg some h.net.su14.symm
        · exact congrArg some h.net.su15.symm
        · exact congrArg some h.net.su16.symm
      · unfold m_all
        have h1 : 17 + k < 20360 := by omega
        refine st_b (m1 _) (st_f (by decide) (st_f (by decide) ?_))
        simp (disch := first | omega | decide) only [lt1, nnMl, nnMr, nnAl, nnAr, nnA, nnM, nnB, nnT, nnP, nnE, nnEl, nnEr, nnL, nnLl, nnLr, nnQ, nnQr, nnN, Nat.add_zero, if_false, if_true, Option.bind_some, not_true, not_false_iff, not_true_eq_false, not_false_eq_true, eq_self, Nat.not_lt_zero, z10, z01, or_true, true_or, or_false, false_or, true_and, false_and, h1]
  · have ne : ∀ k : Nat, k ≤ 6 → ¬ v1 = nn k := fun k hk e => by
      have := x1 g
      rw [e] at this
      rw [show x_within (nn k) 0 6 g = some 1 from wthK_y (K := 6) rfl (by decide) hk] at this
      exact absurd (Option.some.inj this) (by decide)
    have n0 : ¬ v1 = 0 := ne 0 (by decide)
    have n1 : ¬ v1 = 1 := ne 1 (by decide)
    have n2 : ¬ v1 = 2 := ne 2 (by decide)
    have n3 : ¬ v1 = 3 := ne 3 (by decide)
    have n4 : ¬ v1 = 4 := ne 4 (by decide)
    have n5 : ¬ v1 = 5 := ne 5 (by decide)
    have n6 : ¬ v1 = 6 := ne 6 (by decide)
    refine ⟨100, 0, -1, g, g, ?_, ?_, hR, rfl, rfl⟩
    · unfold x_all x_all_17 x_all_17_2
      simp only [n0, n1, n2, n3, n4, n5, n6, if_false, ite_self]
    · unfold m_all
      exact st_b (m1 _) (st_t rfl rfl)
theorem sim_look {TS : Sg → Prop} : Sim_look (RR TS) := by
  intro v1 v2 g hR
  obtain ⟨N, C, Q, D, T, L, G, h⟩ := hR.now
  have hC := h.net.hC
  by_cases hn : ∃ n, n < C ∧ v1 = nn n
  rotate_left
  · refine ⟨0, 0, -2, g, g, ?_, ?_, hR, rfl, rfl⟩
    · unfold x_look
      exact st_b (hasChan_n h.net hn) (st_f (by decide) rfl)
    · unfold m_look
      exact st_b (isOf1_n h.net hn) (st_f (by decide) rfl)
  obtain ⟨n, hn, rfl⟩ := hn
  have hn14 : n < 14 := by omega
  rcases chk v2 8 8 rfl (by decide) with ⟨k, hk, rfl, x1, m1⟩ | ⟨x1, m1⟩
  · by_cases h6 : k ≤ 6
    · refine ⟨20, 20, g 216 (190 + 7 * n + k), g, g, ?_, ?_, hR, rfl, rfl⟩
      · unfold x_look
        refine st_b (hasChan_y h.net hn) (st_t (by decide) ?_)
        have c6 : k = 0 ∨ k = 1 ∨ k = 2 ∨ k = 3 ∨ k = 4 ∨ k = 5 ∨ k = 6 := by omega
        rcases c6 with rfl | rfl | rfl | rfl | rfl | rfl | rfl
        · exact st_t rfl (st_t (by simp (disch := first | omega | decide) only [lt1, nnMl, nnMr, nnAl, nnAr, nnA, nnM, nnB, nnT, nnP, nnE, nnEl, nnEr, nnL, nnLl, nnLr, nnQ, nnQr, nnN, Nat.add_zero, if_false, if_true, Option.bind_some, not_true, not_false_iff, not_true_eq_false, not_false_eq_true, eq_self, Nat.not_lt_zero, z10, z01, or_true, true_or, or_false, false_or, true_and, false_and, hn14]) (by rw [nnT (by omega)]; exact congrArg some (h.net.frm n hn14).symm))
        · exact st_f (by decide) (st_t rfl (st_t (by simp (disch := first | omega | decide) only [lt1, nnMl, nnMr, nnAl, nnAr, nnA, nnM, nnB, nnT, nnP, nnE, nnEl, nnEr, nnL, nnLl, nnLr, nnQ, nnQr, nnN, Nat.add_zero, if_false, if_true, Option.bind_some, not_true, not_false_iff, not_true_eq_false, not_false_eq_true, eq_self, Nat.not_lt_zero, z10, z01, or_true, true_or, or_false, false_or, true_and, false_and, hn14]) (by rw [nnT (by omega)]; exact congrArg some (h.net.to n hn14).symm)))
        · exact st_f (by decide) (st_f (by decide) (st_t rfl (st_t (by simp (disch := first | omega | decide) only [lt1, nnMl, nnMr, nnAl, nnAr, nnA, nnM, nnB, nnT, nnP, nnE, nnEl, nnEr, nnL, nnLl, nnLr, nnQ, nnQr, nnN, Nat.add_zero, if_false, if_true, Option.bind_some, not_true, not_false_iff, not_true_eq_false, not_false_eq_true, eq_self, Nat.not_lt_zero, z10, z01, or_true, true_or, or_false, false_or, true_and, false_and, hn14]) (by rw [nnT (by omega)]; exact congrArg some (h.net.low n hn14).symm))))
        · exact st_f (by decide) (st_f (by decide) (st_f (by decide) (st_t rfl (st_t (by simp (disch := first | omega | decide) only [lt1, nnMl, nnMr, nnAl, nnAr, nnA, nnM, nnB, nnT, nnP, nnE, nnEl, nnEr, nnL, nnLl, nnLr, nnQ, nnQr, nnN, Nat.add_zero, if_false, if_true, Option.bind_some, not_true, not_false_iff, not_true_eq_false, not_false_eq_true, eq_self, Nat.not_lt_zero, z10, z01, or_true, true_or, or_false, false_or, true_and, false_and, hn14]) (by rw [nnT (by omega)]; exact congrArg some (h.net.hig n hn14).symm)))))
        · exact st_f (by decide) (st_f (by decide) (st_f (by decide) (st_f (by decide) (st_t rfl (st_t (by simp (disch := first | omega | decide) only [lt1, nnMl, nnMr, nnAl, nnAr, nnA, nnM, nnB, nnT, nnP, nnE, nnEl, nnEr, nnL, nnLl, nnLr, nnQ, nnQr, nnN, Nat.add_zero, if_false, if_true, Option.bind_some, not_true, not_false_iff, not_true_eq_false, not_false_eq_true, eq_self, Nat.not_lt_zero, z10, z01, or_true, true_or, or_false, false_or, true_and, false_and, hn14]) (by rw [nnT (by omega)]; exact congrArg some (h.net.trv n hn14).symm))))))
        · exact st_f (by decide) (st_f (by decide) (st_f (by decide) (st_f (by decide) (st_f (by decide) (st_t rfl (st_t (by simp (disch := first | omega | decide) only [lt1, nnMl, nnMr, nnAl, nnAr, nnA, nnM, nnB, nnT, nnP, nnE, nnEl, nnEr, nnL, nnLl, nnLr, nnQ, nnQr, nnN, Nat.add_zero, if_false, if_true, Option.bind_some, not_true, not_false_iff, not_true_eq_false, not_false_eq_true, eq_self, Nat.not_lt_zero, z10, z01, or_true, true_or, or_false, false_or, true_and, false_and, hn14]) (by rw [nnT (by omega)]; exact congrArg some (h.net.brd n hn14).symm)))))))
        · refine st_f (by decide) (st_f (by decide) (st_f (by decide) (st_f (by decide) (st_f (by decide) (st_f (by decide) (st_t rfl (st_t (by simp (disch := first | omega | decide) only [lt1, nnMl, nnMr, nnAl, nnAr, nnA, nnM, nnB, nnT, nnP, nnE, nnEl, nnEr, nnL, nnLl, nnLr, nnQ, nnQr, nnN, Nat.add_zero, if_false, if_true, Option.bind_some, not_true, not_false_iff, not_true_eq_false, not_false_eq_true, eq_self, Nat.not_lt_zero, z10, z01, or_true, true_or, or_false, false_or, true_and, false_and, hn14]) ?_)))))))
          rw [nnT (by omega), h.net.brk n hn14]
          rcases h.net.brkV n hn14 with e | e <;> rw [e] <;> rfl
      · unfold m_look
        refine st_b (isOf1_y h.net hn) (st_t (by decide) ?_)
        refine st_b (isInK_y (K := 6) rfl (by decide) h6) (st_f (by decide) ?_)
        exact st_b (chanOf_y hn14 (by omega)) rfl
    · have c6 : k = 7 ∨ k = 8 := by omega
      have m7 : ∀ k : Nat, k = 7 ∨ k = 8 → m_isIn (nn k) 0 6 g = some 0 ∧ m_isIn (nn k) 7 8 g = some 1 := by
        intro k hk
        rcases hk with rfl | rfl <;> exact ⟨rfl, rfl⟩
      rcases c6 with rfl | rfl
      · refine ⟨20, 20, sumTo (fun i => g 17 (n * 9 + i)) 9, g, g, ?_, ?_, hR, rfl, rfl⟩
        · unfold x_look
          refine st_b (hasChan_y h.net hn) (st_t (by decide) ?_)
          refine st_f (by decide) (st_f (by decide) (st_f (by decide) (st_f (by decide) (st_f (by decide) (st_f (by decide) (st_f (by decide) (st_t rfl ?_)))))))
          exact st_b (uw0 hn14 (by decide)) rfl
        · unfold m_look
          refine st_b (isOf1_y h.net hn) (st_t (by decide) ?_)
          refine st_b (m7 7 (Or.inl rfl)).1 (st_t rfl (st_b (m7 7 (Or.inl rfl)).2 (st_f (by decide) ?_)))
          refine st_b ((muw (r := 0) (by decide) hn14 (by decide)).trans ?_) rfl
          refine congrArg some (sumTo_congr (fun i hi => ?_))
          rw [show 290 + 9 * (14 * 0 + n) + i = 290 + (n * 9 + i) by omega]
          exact h.net.way0 _ (by omega)
      · refine ⟨20, 20, sumTo (fun i => g 18 (n * 9 + i)) 9, g, g, ?_, ?_, hR, rfl, rfl⟩
        · unfold x_look
          refine st_b (hasChan_y h.net hn) (st_t (by decide) ?_)
          refine st_f (by decide) (st_f (by decide) (st_f (by decide) (st_f (by decide) (st_f (by decide) (st_f (by decide) (st_f (by decide) (st_f (by decide) (st_t rfl ?_))))))))
          exact st_b (uw1 hn14 (by decide)) rfl
        · unfold m_look
          refine st_b (isOf1_y h.net hn) (st_t (by decide) ?_)
          refine st_b (m7 8 (Or.inr rfl)).1 (st_t rfl (st_b (m7 8 (Or.inr rfl)).2 (st_f (by decide) ?_)))
          refine st_b ((muw (r := 1) (by decide) hn14 (by decide)).trans ?_) rfl
          refine congrArg some (sumTo_congr (fun i hi => ?_))
          rw [show 290 + 9 * (14 * 1 + n) + i = 416 + (n * 9 + i) by omega]
          exact h.net.way1 _ (by omega)
  · have ne : ∀ k : Nat, k ≤ 8 → ¬ v2 = nn k := fun k hk e => by
      have := x1 g
      rw [e] at this
      rw [show x_within (nn k) 0 8 g = some 1 from wthK_y (K := 8) rfl (by decide) hk] at this
      exact absurd (Option.some.inj this) (by decide)
    have n0 : ¬ v2 = 0 := ne 0 (by decide)
    have n1 : ¬ v2 = 1 := ne 1 (by decide)
    have n2 : ¬ v2 = 2 := ne 2 (by decide)
    have n3 : ¬ v2 = 3 := ne 3 (by decide)
    have n4 : ¬ v2 = 4 := ne 4 (by decide)
    have n5 : ¬ v2 = 5 := ne 5 (by decide)
    have n6 : ¬ v2 = 6 := ne 6 (by decide)
    have n7 : ¬ v2 = 7 := ne 7 (by decide)
    have n8 : ¬ v2 = 8 := ne 8 (by decide)
    have hx : ¬ (0 ≤ v2 ∧ v2 ≤ 8) := fun e => by
      have := x1 g
      rw [within_eq, if_pos e] at this
      exact absurd (Option.some.inj this) (by decide)
    refine ⟨100, 0, -2, g, g, ?_, ?_, hR, rfl, rfl⟩
    · unfold x_look
      refine st_b (hasChan_y h.net hn) (st_t (by decide) ?_)
      simp only [n0, n1, n2, n3, n4, n5, n6, n7, n8, if_false]
    · unfold m_look
      refine st_b (isOf1_y h.net hn) (st_t (by decide) ?_)
      refine st_b (x := 0) ?_ (st_t rfl (st_b (x := 0) ?_ (st_t rfl rfl)))
      · rw [isIn_eq, if_neg (fun e => hx ⟨e.1, Int32.le_trans e.2 (by decide)⟩)]
      · rw [isIn_eq, if_neg (fun e => hx ⟨Int32.le_trans (by decide) e.1, e.2⟩)]
