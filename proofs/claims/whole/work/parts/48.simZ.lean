/-! what is reckoned of all holders in a week: the class's side -/
def ntI (i : Nat) : Int32 := if i % 24 < 6 then 1 else if i % 24 < 18 then 0 else 1
def hrI (f : Nat → Int32) (i j : Nat) : Int32 := if f i = nn j then 1 else 0
def niI (f : Nat → Int32) (i j : Nat) : Int32 := if f i = nn j then ntI i else 0
noncomputable def hrs (c : Sg) (D Q W j : Nat) : Int32 := sumTo (fun i => hrI (fun i => ownS c (nn i) (nn W) (nn (Q / 96)) D) i j) 168
noncomputable def ngt (c : Sg) (D Q W j : Nat) : Int32 := sumTo (fun i => niI (fun i => ownS c (nn i) (nn W) (nn (Q / 96)) D) i j) 168
noncomputable def FVh (c : Sg) (D Q W : Nat) (fv : Nat → Int32) (j : Nat) : Nat → Int32 := FVf (c 41 W) (hrs c D Q W j) (ngt c D Q W j) (fv j) (nn j) (ow c Q D ((Q + 3) / 4) j)
section WM
variable {c g : Sg} {D N Q : Nat}
theorem hcL {s : Sg} {f : Nat → Int32} (hf : ∀ i, i < 168 → f i = -1 ∨ ∃ n, n < 8 ∧ f i = nn n) (hs : s 207 = f) : ∀ m x F a b, x + m = 168 → m < F → (∀ j, j < 8 → a j = sumTo (fun i => hrI f i j) x ∧ b j = sumTo (fun i => niI f i j) x) → ∃ a2 b2, reckoning_reckonHours_54 F (nn x) (sc (sc s 202 a) 203 b) = some (sc (sc s 202 a2) 203 b2) ∧ ∀ j, j < 8 → a2 j = sumTo (fun i => hrI f i j) 168 ∧ b2 j = sumTo (fun i => niI f i j) 168 := by
  intro m
  induction m with
  | zero =>
    intro x F a b hx hF h
    obtain ⟨F, rfl⟩ : ∃ F2, F = F2 + 1 := ⟨F - 1, by omega⟩
    have : x = 168 := by omega
    subst this
    refine ⟨a, b, ?_, h⟩
    unfold reckoning_reckonHours_54
    exact if_pos (by decide)
  | succ m ih =>
    intro x F a b hx hF h
    obtain ⟨F, rfl⟩ : ∃ F2, F = F2 + 1 := ⟨F - 1, by omega⟩
    have h2 : ¬ 168 ≤ x := by omega
    have h1 : x < 168 := by omega
    have hi : inb (nn x) 168 = true := by simp (disch := first | omega | decide) only [lt1, nnMl, nnMr, nnAl, nnAr, nnA, nnM, nnB, nnT, nnP, nnE, nnEl, nnEr, nnL, nnLl, nnLr, nnQ, nnQr, nnN, Nat.add_zero, if_false, if_true, Option.bind_some, not_true, not_false_iff, not_true_eq_false, not_false_eq_true, eq_self, Nat.not_lt_zero, z10, z01, or_true, true_or, or_false, false_or, true_and, false_and, h1]
    have e7 : sc (sc s 202 a) 203 b 207 (Int32.toNatClampNeg (nn x)) = f x := by rw [sc_n (by decide), sc_n (by decide), hs, nnT (by omega)]
    rcases hf x h1 with e | ⟨v, hv, e⟩
    · obtain ⟨a2, b2, r1, r2⟩ := ih (x + 1) F a b (by omega) (by omega) (fun j hj => by
        have ne : ¬ f x = nn j := by rw [e]; exact nnN1 (by omega)
        refine ⟨?_, ?_⟩
        · show a j = sumTo (fun i => hrI f i j) x + (if f x = nn j then 1 else 0)
          rw [if_neg ne, Int32.add_zero]; exact (h j hj).1
        · show b j = sumTo (fun i => niI f i j) x + (if f x = nn j then ntI x else 0)
          rw [if_neg ne, Int32.add_zero]; exact (h j hj).2)
      refine ⟨a2, b2, ?_, r2⟩
      unfold reckoning_reckonHours_54
      rw [e7, e, show nn x + 1 = nn (x + 1) from nnA x 1]
      exact st_f (by simp (disch := first | omega | decide) only [lt1, nnMl, nnMr, nnAl, nnAr, nnA, nnM, nnB, nnT, nnP, nnE, nnEl, nnEr, nnL, nnLl, nnLr, nnQ, nnQr, nnN, Nat.add_zero, if_false, if_true, Option.bind_some, not_true, not_false_iff, not_true_eq_false, not_false_eq_true, eq_self, Nat.not_lt_zero, z10, z01, or_true, true_or, or_false, false_or, true_and, false_and, h2]) (st_w hi (st_b holder_neg (st_t rfl r1)))
    · have hv8 : inb (nn v) 8 = true := by simp (disch := first | omega | decide) only [lt1, nnMl, nnMr, nnAl, nnAr, nnA, nnM, nnB, nnT, nnP, nnE, nnEl, nnEr, nnL, nnLl, nnLr, nnQ, nnQr, nnN, Nat.add_zero, if_false, if_true, Option.bind_some, not_true, not_false_iff, not_true_eq_false, not_false_eq_true, eq_self, Nat.not_lt_zero, z10, z01, or_true, true_or, or_false, false_or, true_and, false_and, hv]
      obtain ⟨a2, b2, r1, r2⟩ := ih (x + 1) F (up1 a v (a v + 1)) (up1 b v (b v + ntI x)) (by omega) (by omega) (fun j hj => by
        by_cases ej : j = v
        · subst ej
          rw [up1_eq, up1_eq]
          refine ⟨?_, ?_⟩
          · show _ = sumTo (fun i => hrI f i j) x + (if f x = nn j then 1 else 0)
            rw [if_pos e, (h j hj).1]
          · show _ = sumTo (fun i => niI f i j) x + (if f x = nn j then ntI x else 0)
            rw [if_pos e, (h j hj).2]
        · have ne : ¬ f x = nn j := by rw [e]; exact nnNe (by omega) (by omega) (fun q => ej q.symm)
          rw [up1_ne ej, up1_ne ej]
          refine ⟨?_, ?_⟩
          · show a j = sumTo (fun i => hrI f i j) x + (if f x = nn j then 1 else 0)
            rw [if_neg ne, Int32.add_zero]; exact (h j hj).1
          · show b j = sumTo (fun i => niI f i j) x + (if f x = nn j then ntI x else 0)
            rw [if_neg ne, Int32.add_zero]; exact (h j hj).2)
      refine ⟨a2, b2, ?_, r2⟩
      have em : nn x - nn x / 24 * 24 = nn (x % 24) := by
        have e : nn x / 24 * 24 = nn (x / 24 * 24) := by simp (disch := first | omega | decide) only [lt1, nnMl, nnMr, nnAl, nnAr, nnA, nnM, nnB, nnT, nnP, nnE, nnEl, nnEr, nnL, nnLl, nnLr, nnQ, nnQr, nnN, Nat.add_zero, if_false, if_true, Option.bind_some, not_true, not_false_iff, not_true_eq_false, not_false_eq_true, eq_self, Nat.not_lt_zero, z10, z01, or_true, true_or, or_false, false_or, true_and, false_and, nnDr]
        rw [e, nnS (a := x) (b := x / 24 * 24) (by omega), show x - x / 24 * 24 = x % 24 by omega]
      unfold reckoning_reckonHours_54
      rw [e7, e, show nn x + 1 = nn (x + 1) from nnA x 1, em]
      refine st_f (by simp (disch := first | omega | decide) only [lt1, nnMl, nnMr, nnAl, nnAr, nnA, nnM, nnB, nnT, nnP, nnE, nnEl, nnEr, nnL, nnLl, nnLr, nnQ, nnQr, nnN, Nat.add_zero, if_false, if_true, Option.bind_some, not_true, not_false_iff, not_true_eq_false, not_false_eq_true, eq_self, Nat.not_lt_zero, z10, z01, or_true, true_or, or_false, false_or, true_and, false_and, h2]) (st_w hi (st_b (holder_y hv) (st_f (by decide) (st_l (st_t hv8 (st_w hv8 (st_t hv8 ?_)))))))
      rw [nnT (show v < 2147483648 by omega), sc_v (show 202 ≠ 203 by decide), sc_u, sc_n (show 202 ≠ 203 by decide), sc_e, sc_e, sc_u, sc_u]
      unfold ntI at r1
      by_cases q1 : x % 24 < 6
      · rw [if_pos q1] at r1
        exact st_t (by simp (disch := first | omega | decide) only [lt1, nnMl, nnMr, nnAl, nnAr, nnA, nnM, nnB, nnT, nnP, nnE, nnEl, nnEr, nnL, nnLl, nnLr, nnQ, nnQr, nnN, Nat.add_zero, if_false, if_true, Option.bind_some, not_true, not_false_iff, not_true_eq_false, not_false_eq_true, eq_self, Nat.not_lt_zero, z10, z01, or_true, true_or, or_false, false_or, true_and, false_and, q1]) (st_w hv8 r1)
      · rw [if_neg q1] at r1
        by_cases q2 : x % 24 < 18
        · rw [if_pos q2] at r1
          exact st_f (by simp (disch := first | omega | decide) only [lt1, nnMl, nnMr, nnAl, nnAr, nnA, nnM, nnB, nnT, nnP, nnE, nnEl, nnEr, nnL, nnLl, nnLr, nnQ, nnQr, nnN, Nat.add_zero, if_false, if_true, Option.bind_some, not_true, not_false_iff, not_true_eq_false, not_false_eq_true, eq_self, Nat.not_lt_zero, z10, z01, or_true, true_or, or_false, false_or, true_and, false_and, q1]) (st_t (by simp (disch := first | omega | decide) only [lt1, nnMl, nnMr, nnAl, nnAr, nnA, nnM, nnB, nnT, nnP, nnE, nnEl, nnEr, nnL, nnLl, nnLr, nnQ, nnQr, nnN, Nat.add_zero, if_false, if_true, Option.bind_some, not_true, not_false_iff, not_true_eq_false, not_false_eq_true, eq_self, Nat.not_lt_zero, z10, z01, or_true, true_or, or_false, false_or, true_and, false_and, q2]) (st_w hv8 r1))
        · rw [if_neg q2] at r1
          exact st_f (by simp (disch := first | omega | decide) only [lt1, nnMl, nnMr, nnAl, nnAr, nnA, nnM, nnB, nnT, nnP, nnE, nnEl, nnEr, nnL, nnLl, nnLr, nnQ, nnQr, nnN, Nat.add_zero, if_false, if_true, Option.bind_some, not_true, not_false_iff, not_true_eq_false, not_false_eq_true, eq_self, Nat.not_lt_zero, z10, z01, or_true, true_or, or_false, false_or, true_and, false_and, q1]) (st_f (by simp (disch := first | omega | decide) only [lt1, nnMl, nnMr, nnAl, nnAr, nnA, nnM, nnB, nnT, nnP, nnE, nnEl, nnEr, nnL, nnLl, nnLr, nnQ, nnQr, nnN, Nat.add_zero, if_false, if_true, Option.bind_some, not_true, not_false_iff, not_true_eq_false, not_false_eq_true, eq_self, Nat.not_lt_zero, z10, z01, or_true, true_or, or_false, false_or, true_and, false_and, q2]) (st_w hv8 r1))
theorem wkL (h : RRig c (g 216) D N Q) (hQ : Q ≤ 9599) {s : Sg} (hs : ∀ i, 22 ≤ i → i ≤ 30 → s i = c i) {W : Nat} (hW : W < 100) {F0 : Nat} (hF0 : 200 < F0) : ∀ m w F f, w + m = W + 1 → m < F → (∀ i, i < 168 → f i = ownS c (nn i) (nn w - 1) (nn (Q / 96)) D) → ∃ f2, reckoning_reckonHours_26 F0 F (nn W) (nn w) (sc s 207 f) = reckoning_reckonHours_54 F0 0 (sc s 207 f2) ∧ ∀ i, i < 168 → f2 i = ownS c (nn i) (nn W) (nn (Q / 96)) D := by
  intro m
  induction m with
  | zero =>
    intro w F f hw hF hf
    obtain ⟨F, rfl⟩ : ∃ F2, F = F2 + 1 := ⟨F - 1, by omega⟩
    have : w = W + 1 := by omega
    subst this
    refine ⟨f, ?_, fun i hi => by rw [hf i hi, nnS1]⟩
    unfold reckoning_reckonHours_26
    exact st_t (by rw [nnL (by omega) (by omega)]; omega) rfl
  | succ m ih =>
    intro w F f hw hF hf
    obtain ⟨F, rfl⟩ : ∃ F2, F = F2 + 1 := ⟨F - 1, by omega⟩
    have h2 : ¬ 100 ≤ w := by omega
    obtain ⟨f1, l1, l2⟩ := lay_y h hQ (s := s) hs (prev_w h (show w < 100 by omega)) (prev_lt (by omega)) hF0 hf
    obtain ⟨f2, r1, r2⟩ := ih (w + 1) F f1 (by omega) (by omega) (fun i hi => by rw [nnS1]; exact l2 i hi)
    refine ⟨f2, ?_, r2⟩
    unfold reckoning_reckonHours_26
    rw [show nn w + 1 = nn (w + 1) from nnA w 1]
    exact st_f (by rw [nnL (by omega) (by omega)]; omega) (st_f (by simp (disch := first | omega | decide) only [lt1, nnMl, nnMr, nnAl, nnAr, nnA, nnM, nnB, nnT, nnP, nnE, nnEl, nnEr, nnL, nnLl, nnLr, nnQ, nnQr, nnN, Nat.add_zero, if_false, if_true, Option.bind_some, not_true, not_false_iff, not_true_eq_false, not_false_eq_true, eq_self, Nat.not_lt_zero, z10, z01, or_true, true_or, or_false, false_or, true_and, false_and, h2]) (st_b l1 r1))
theorem reckonHours_y (h : RRig c (g 216) D N Q) (hQ : Q ≤ 9599) {s : Sg} (hs : ∀ i, 22 ≤ i → i ≤ 30 → s i = c i) {W : Nat} (hW : W < 100) {F : Nat} (hF : 200 < F) : ∃ f a b, reckoning_reckonHours F (nn W) s = some (sc (sc (sc s 207 f) 202 a) 203 b) ∧ ∀ j, j < 8 → a j = hrs c D Q W j ∧ b j = ngt c D Q W j := by
  obtain ⟨a, p1, p2⟩ := jA_fill_c3_y (v := 0) (s := s) (F := F) (by omega)
  obtain ⟨b, p3, p4⟩ := jA_fill_c4_y (v := 0) (s := sc s 202 a) (F := F) (by omega)
  obtain ⟨f, p5, p6⟩ := jA_fill_c2_y (v := -1) (s := sc (sc s 202 a) 203 b) (F := F) (by omega)
  obtain ⟨f2, q1, q2⟩ := wkL h hQ (s := sc (sc s 202 a) 203 b) (fun i e1 e2 => by rw [sc_n (by omega), sc_n (by omega)]; exact hs i e1 e2) hW hF (W + 1) 0 F f (by omega) (by omega) (fun i hi => by rw [p5 i hi]; exact (own_neg h).symm)
  have hv : ∀ i, i < 168 → f2 i = -1 ∨ ∃ n, n < 8 ∧ f2 i = nn n := fun i hi => by rw [q2 i hi]; exact ownS_v h
  obtain ⟨a2, b2, r1, r2⟩ := hcL (s := sc s 207 f2) (f := f2) hv sc_e 168 0 F a b (by omega) (by omega) (fun j hj => ⟨p1 j hj, p3 j hj⟩)
  refine ⟨f2, a2, b2, ?_, fun j hj => ⟨(r2 j hj).1.trans (sumTo_congr (fun i hi => ?_)), (r2 j hj).2.trans (sumTo_congr (fun i hi => ?_))⟩⟩
  · unfold reckoning_reckonHours
    refine st_b p2 (st_b p4 (st_b p6 (Eq.trans q1 ?_)))
    rw [sc_c (g := sc s 202 a) (a := 203) (b := 207) (by decide), sc_c (g := s) (a := 202) (b := 207) (by decide)]
    exact r1
  · unfold hrI
    rw [q2 i hi]
  · unfold niI
    rw [q2 i hi]
end WM
section WN
variable {c : Sg} {a0 : Nat → Int32} {N C Q D T L : Nat}
/-- how far a holder's field is, on both sides -/
def farP (c : Sg) (N C Q h : Nat) (fv : Int32) : Prop := (∀ (S : Sg) (F : Nat), 20 < F → (∀ i, 2 ≤ i → i ≤ 21 → S i = c i) → ∃ r S2, ways_find F 0 (c 23 h) S = some (r, S2) ∧ (∀ i, i ≠ 187 → i ≠ 188 → i ≠ 189 → i ≠ 190 → S2 i = S i) ∧ ((r = 0 ∧ fv = 999) ∨ (r = 1 ∧ ways_travelFrom 0 S2 = some fv))) ∧ ∀ (M : Sg) (F : Nat), 20 < F → RNet c (M 216) N C Q → (c 23 h < 0 ∧ fv = 999) ∨ (¬ c 23 h < 0 ∧ ∃ r M2, m_leads F 0 (c 23 h) M = some (r, M2) ∧ (∀ i, i ≠ 218 → M2 i = M i) ∧ ((r = 0 ∧ fv = 999) ∨ (r = 1 ∧ M2 218 0 / 100 = fv)))
theorem far_ex (h0 : RNet c a0 N C Q) (r0 : RRig c a0 D N Q) {h : Nat} (hh : h < 8) : ∃ fv, farP c N C Q h fv := by
  have hN := h0.hN
  have noW : noWay N 0 (c 23 h) → ((c 23 h < 0 ∧ (999 : Int32) = 999) ∨ ¬ c 23 h < 0) → ∃ fv, farP c N C Q h fv := fun hn hneg => by
    refine ⟨999, fun S F hF hS => ⟨0, S, ?_, fun _ _ _ _ _ => rfl, Or.inl ⟨rfl, rfl⟩⟩, fun M F hF hM => ?_⟩
    · exact find_n (by rw [hS 2 (by decide) (by decide)]; exact h0.cN) hN hn
    · rcases hneg with e | e
      · exact Or.inl e
      · exact Or.inr ⟨e, 0, M, leads_n hM.aN hN hn, fun _ _ => rfl, Or.inl ⟨rfl, rfl⟩⟩
  rcases r0.homeV h hh with e | ⟨t, ht, e⟩
  · refine noW (fun q => ?_) (Or.inl ⟨by rw [e]; decide, rfl⟩)
    obtain ⟨f, t, h1, h2, h3, h5⟩ := q
    rw [e] at h5
    exact nnN1 (by omega) h5
  have hpos : ¬ c 23 h < 0 := by rw [e, nnP (by omega)]; exact id
  by_cases ht0 : t = 0
  · refine noW (fun q => ?_) (Or.inr hpos)
    obtain ⟨f, t2, h1, h2, h3, h5⟩ := q
    rw [e, nnQ (by omega) (by omega)] at h5
    omega
  have ht1 : 0 < t := by omega
  have F1 : ∀ (S : Sg) (F : Nat), 20 < F → (∀ i, 2 ≤ i → i ≤ 21 → S i = c i) → ∃ a b d, ways_find F 0 (nn t) S = some (wyR c C 0 t, ss (up2 S 187 3 (nn t)) a b d) ∧ ∀ u, 0 ≤ u → u < 10 → d u = oN (tab c C t t u).1 ∧ ((tab c C t t u).2 < 1000000 → a u = nn ((tab c C t t u).2 / 100) ∧ b u = nn ((tab c C t t u).2 % 100)) := fun S F hF hS => find_y (g := fun _ => a0) h0 hS ht1 ht hF
  have L1 : ∀ (M : Sg) (F : Nat), 20 < F → RNet c (M 216) N C Q → ∃ e2, m_leads F 0 (nn t) M = some (wyR c C 0 t, sc M 218 e2) ∧ ∀ x, x < 10 → e2 x = nn (tab c C t t x).2 := fun M F hF hM => leads_y hM ht1 ht hF
  have fss : ∀ (S : Sg) (a b d : Nat → Int32) (i : Nat), i ≠ 187 → i ≠ 188 → i ≠ 189 → i ≠ 190 → ss (up2 S 187 3 (nn t)) a b d i = S i := fun S a b d i p1 p2 p3 p4 => by rw [ss_o p2 p3 p4, u2n p1]
  by_cases q : (tab c C t t 0).2 < 1000000
  · have w1 : wyR c C 0 t = 1 := if_pos q
    rw [w1] at F1 L1
    refine ⟨nn ((tab c C t t 0).2 / 100), fun S F hF hS => ?_, fun M F hF hM => Or.inr ⟨hpos, ?_⟩⟩
    · obtain ⟨a, b, d, f1, f2⟩ := F1 S F hF hS
      rw [e]
      refine ⟨1, _, f1, fss S a b d, Or.inr ⟨rfl, ?_⟩⟩
      unfold ways_travelFrom
      refine st_b (x := 1) rfl (st_f (by decide) (st_t rfl ?_))
      rw [ss_a]
      exact congrArg some ((f2 0 (Nat.le_refl _) (by decide)).2 q).1
    · obtain ⟨e2, l1, l2⟩ := L1 M F hF hM
      rw [e]
      refine ⟨1, _, l1, fun i hi => sc_n hi, Or.inr ⟨rfl, ?_⟩⟩
      rw [sc_e, l2 0 (by decide)]
      simp (disch := first | omega | decide) only [lt1, nnMl, nnMr, nnAl, nnAr, nnA, nnM, nnB, nnT, nnP, nnE, nnEl, nnEr, nnL, nnLl, nnLr, nnQ, nnQr, nnN, Nat.add_zero, if_false, if_true, Option.bind_some, not_true, not_false_iff, not_true_eq_false, not_false_eq_true, eq_self, Nat.not_lt_zero, z10, z01, or_true, true_or, or_false, false_or, true_and, false_and, nnDr]
  · have w1 : wyR c C 0 t = 0 := if_neg q
    rw [w1] at F1 L1
    refine ⟨999, fun S F hF hS => ?_, fun M F hF hM => Or.inr ⟨hpos, ?_⟩⟩
    · obtain ⟨a, b, d, f1, f2⟩ := F1 S F hF hS
      rw [e]
      exact ⟨0, _, f1, fss S a b d, Or.inl ⟨rfl, rfl⟩⟩
    · obtain ⟨e2, l1, l2⟩ := L1 M F hF hM
      rw [e]
      exact ⟨0, _, l1, fun i hi => sc_n hi, Or.inl ⟨rfl, rfl⟩⟩
/-- the class's scratch when k holders are through -/
def rkI (c S : Sg) (D Q W L : Nat) (fv : Nat → Int32) (k : Nat) : Prop := (∀ i, 2 ≤ i → i ≤ 46 → S i = c i) ∧ (if S 200 7 = 0 then (0 : Int32) else 1) = c 41 W ∧ (∀ j, j < 8 → S 202 j = hrs c D Q W j ∧ S 203 j = ngt c D Q W j ∧ S 201 j = ow c Q D ((Q + 3) / 4) j) ∧ ∀ j, j < k → S 204 j = fv j ∧ S 205 j = (jg c (FVh c D Q W fv j) L 0 0 0).1 ∧ S 206 j = (jg c (FVh c D Q W fv j) L 0 0 0).2
def rkF (S S2 : Sg) : Prop := ∀ i, i ≠ 187 → i ≠ 188 → i ≠ 189 → i ≠ 190 → i ≠ 204 → i ≠ 205 → i ≠ 206 → S2 i = S i
theorem rk48 (hl : RLaw c a0 T L) {W : Nat} {fv : Nat → Int32} (hfv : ∀ h, h < 8 → farP c N C Q h (fv h)) {F0 : Nat} (hF0 : 20 < F0) : ∀ m k F S, k + m = 8 → m < F → rkI c S D Q W L fv k → ∃ S2, reckoning_reckon_48 F0 F (nn k) S = some S2 ∧ rkI c S2 D Q W L fv 8 ∧ rkF S S2 := by
  intro m
  induction m with
  | zero =>
    intro k F S hk hF hI
    obtain ⟨F, rfl⟩ : ∃ F2, F = F2 + 1 := ⟨F - 1, by omega⟩
    have : k = 8 := by omega
    subst this
    refine ⟨S, ?_, hI, fun _ _ _ _ _ _ _ _ => rfl⟩
    unfold reckoning_reckon_48
    exact if_pos (by decide)
  | succ m ih =>
    intro k F S hk hF hI
    obtain ⟨F, rfl⟩ : ∃ F2, F = F2 + 1 := ⟨F - 1, by omega⟩
    obtain ⟨i1, i2, i3, i4⟩ := hI
    have hk8 : k < 8 := by omega
    have h2 : ¬ 8 ≤ k := by omega
    have hi : inb (nn k) 8 = true := by simp (disch := first | omega | decide) only [lt1, nnMl, nnMr, nnAl, nnAr, nnA, nnM, nnB, nnT, nnP, nnE, nnEl, nnEr, nnL, nnLl, nnLr, nnQ, nnQr, nnN, Nat.add_zero, if_false, if_true, Option.bind_some, not_true, not_false_iff, not_true_eq_false, not_false_eq_true, eq_self, Nat.not_lt_zero, z10, z01, or_true, true_or, or_false, false_or, true_and, false_and, hk8]
    obtain ⟨r, S1, f1, f2, f3⟩ := (hfv k hk8).1 S F0 hF0 (fun i p1 p2 => i1 i p1 (by omega))
    -- the far is written, the holder is judged
    have hS : CSt c (up2 S1 204 k (fv k)) (FVh c D Q W fv k) k := by
      have hv := i3 k hk8
      refine ⟨fun i p1 p2 => by rw [u2n (by omega), f2 i (by omega) (by omega) (by omega) (by omega)]; exact i1 i (by omega) (by omega), ?_, ?_, ?_, ?_, rfl, ?_⟩
      · rw [u2n (by decide), f2 200 (by decide) (by decide) (by decide) (by decide)]; exact i2.symm
      · rw [u2n (by decide), f2 202 (by decide) (by decide) (by decide) (by decide)]; exact hv.1.symm
      · rw [u2n (by decide), f2 203 (by decide) (by decide) (by decide) (by decide)]; exact hv.2.1.symm
      · rw [u2e, up1_eq]; rfl
      · rw [u2n (by decide), f2 201 (by decide) (by decide) (by decide) (by decide), hv.2.2]; rfl
    obtain ⟨f5, e5, j1, j2, j3, j4⟩ := jud_x hS hk8 hl hF0
    have E : ∀ i, i ≠ 187 → i ≠ 188 → i ≠ 189 → i ≠ 190 → i ≠ 204 → i ≠ 205 → i ≠ 206 → sc (sc (up2 S1 204 k (fv k)) 205 f5) 206 e5 i = S i := fun i p1 p2 p3 p4 p5 p6 p7 => by
      rw [sc_n p7, sc_n p6, u2n p5, f2 i p1 p2 p3 p4]
    obtain ⟨S2, r1, r2, r3⟩ := ih (k + 1) F (sc (sc (up2 S1 204 k (fv k)) 205 f5) 206 e5) (by omega) (by omega) (by
      refine ⟨fun i p1 p2 => (E i (by omega) (by omega) (by omega) (by omega) (by omega) (by omega) (by omega)).trans (i1 i p1 p2), ?_, fun j hj => ?_, fun j hj => ?_⟩
      · rw [E 200 (by decide) (by decide) (by decide) (by decide) (by decide) (by decide) (by decide)]; exact i2
      · rw [E 202 (by decide) (by decide) (by decide) (by decide) (by decide) (by decide) (by decide), E 203 (by decide) (by decide) (by decide) (by decide) (by decide) (by decide) (by decide), E 201 (by decide) (by decide) (by decide) (by decide) (by decide) (by decide) (by decide)]; exact i3 j hj
      · rw [sc_n (show 204 ≠ 206 by decide), sc_n (show 204 ≠ 205 by decide), u2e, sc_n (show 205 ≠ 206 by decide), sc_e, sc_e]
        by_cases ej : j = k
        · subst ej
          rw [up1_eq]
          exact ⟨rfl, j2, j3⟩
        · have := i4 j (by omega)
          have h4 := j4 j ej
          rw [up1_ne ej, f2 204 (by decide) (by decide) (by decide) (by decide), h4.1, h4.2, u2n (by decide), u2n (by decide), f2 205 (by decide) (by decide) (by decide) (by decide), f2 206 (by decide) (by decide) (by decide) (by decide)]
          exact this)
    refine ⟨S2, ?_, r2, fun i p1 p2 p3 p4 p5 p6 p7 => (r3 i p1 p2 p3 p4 p5 p6 p7).trans (E i p1 p2 p3 p4 p5 p6 p7)⟩
    have k98 : reckoning_reckon_98 F0 (fun v4 g0 => reckoning_reckon_48 F0 F v4 g0) (nn k) (fv k) (nn k) S1 = some S2 := by
      unfold reckoning_reckon_98
      rw [nnT (by omega), show nn k + 1 = nn (k + 1) from nnA k 1]
      exact st_w hi (st_b j1 r1)
    unfold reckoning_reckon_48
    rw [nnT (by omega), i1 23 (by decide) (by decide)]
    refine st_f (by simp (disch := first | omega | decide) only [lt1, nnMl, nnMr, nnAl, nnAr, nnA, nnM, nnB, nnT, nnP, nnE, nnEl, nnEr, nnL, nnLl, nnLr, nnQ, nnQr, nnN, Nat.add_zero, if_false, if_true, Option.bind_some, not_true, not_false_iff, not_true_eq_false, not_false_eq_true, eq_self, Nat.not_lt_zero, z10, z01, or_true, true_or, or_false, false_or, true_and, false_and, h2]) (st_t hi (st_b f1 ?_))
    rcases f3 with ⟨e1, e2⟩ | ⟨e1, e2⟩
    · rw [e2] at k98
      exact st_t e1 k98
    · exact st_f (by rw [e1]; decide) (st_b e2 k98)
theorem reckon_y {s : Sg} (hl : RLaw c a0 T L) (r0 : RRig c a0 D N Q) (hQ : Q ≤ 9599) (hs : ∀ i, 2 ≤ i → i ≤ 46 → s i = c i) {W : Nat} (hW : W < 100) {fv : Nat → Int32} (hfv : ∀ h, h < 8 → farP c N C Q h (fv h)) {F : Nat} (hF : 200 < F) : ∃ S, reckoning_reckon F (nn W) s = some S ∧ rkI c S D Q W L fv 8 ∧ ∀ i, (i < 187 ∨ 190 < i) → (i < 200 ∨ 207 < i) → S i = s i := by
  obtain ⟨o, f, p1, p2⟩ := reckonOwed_y (g := fun _ => a0) r0 hQ (s := s) (fun i e1 e2 => hs i (by omega) (by omega)) hF
  have hs1 : ∀ i, 2 ≤ i → i ≤ 46 → sc (sc s 207 f) 201 o i = c i := fun i e1 e2 => by rw [sc_n (by omega), sc_n (by omega)]; exact hs i e1 e2
  obtain ⟨f2, a, b, p3, p4⟩ := reckonHours_y (g := fun _ => a0) r0 hQ (s := sc (sc s 207 f) 201 o) (fun i e1 e2 => hs1 i (by omega) (by omega)) hW hF
  have hdr := hl.dryV W hW
  have fin : ∀ v : Int32, (if v = 0 then (0 : Int32) else 1) = c 41 W → ∃ S, reckoning_reckon_48 F F 0 (up2 (sc (sc (sc (sc (sc s 207 f) 201 o) 207 f2) 202 a) 203 b) 200 7 v) = some S ∧ rkI c S D Q W L fv 8 ∧ ∀ i, (i < 187 ∨ 190 < i) → (i < 200 ∨ 207 < i) → S i = s i := fun v hv => by
    obtain ⟨S, q1, q2, q3⟩ := rk48 hl (W := W) (D := D) hfv (F0 := F) (by omega) 8 0 F (up2 (sc (sc (sc (sc (sc s 207 f) 201 o) 207 f2) 202 a) 203 b) 200 7 v) (by omega) (by omega) (by
      refine ⟨fun i e1 e2 => ?_, ?_, fun j hj => ?_, fun j hj => absurd hj (by omega)⟩
      · rw [u2n (by omega), sc_n (by omega), sc_n (by omega), sc_n (by omega)]
        exact hs1 i e1 e2
      · rw [u2e, up1_eq]
        exact hv
      · rw [u2n (by decide), u2n (by decide), u2n (by decide), sc_n (show 202 ≠ 203 by decide), sc_e, sc_e, sc_n (show 201 ≠ 203 by decide), sc_n (show 201 ≠ 202 by decide), sc_n (show 201 ≠ 207 by decide), sc_e]
        exact ⟨(p4 j hj).1, (p4 j hj).2, p1 j hj⟩)
    refine ⟨S, q1, q2, fun i e1 e2 => ?_⟩
    rw [q3 i (by omega) (by omega) (by omega) (by omega) (by omega) (by omega) (by omega), u2n (by omega), sc_n (by omega), sc_n (by omega), sc_n (by omega), sc_n (by omega), sc_n (by omega)]
  have hw : x_isWeek (nn W) (sc (sc (sc (sc (sc s 207 f) 201 o) 207 f2) 202 a) 203 b) = some 1 := week_of (Or.inr rfl) (fun g => wthK_y (K := 99) rfl (by decide) (by omega))
  have e41 : sc (sc (sc (sc (sc s 207 f) 201 o) 207 f2) 202 a) 203 b 41 W = c 41 W := by
    rw [sc_n (by decide), sc_n (by decide), sc_n (by decide)]
    rw [hs1 41 (by decide) (by decide)]
  rcases hdr with e | e
  · obtain ⟨S, q1, q2⟩ := fin 0 (by rw [e]; rfl)
    refine ⟨S, ?_, q2⟩
    unfold reckoning_reckon
    refine st_b p2 (st_b p3 (st_b hw (st_f (by decide) (st_t (by simp (disch := first | omega | decide) only [lt1, nnMl, nnMr, nnAl, nnAr, nnA, nnM, nnB, nnT, nnP, nnE, nnEl, nnEr, nnL, nnLl, nnLr, nnQ, nnQr, nnN, Nat.add_zero, if_false, if_true, Option.bind_some, not_true, not_false_iff, not_true_eq_false, not_false_eq_true, eq_self, Nat.not_lt_zero, z10, z01, or_true, true_or, or_false, false_or, true_and, false_and, hW]) ?_))))
    rw [nnT (by omega), e41]
    exact st_t e (st_l q1)
  · obtain ⟨S, q1, q2⟩ := fin 1 (by rw [e]; rfl)
    refine ⟨S, ?_, q2⟩
    unfold reckoning_reckon
    refine st_b p2 (st_b p3 (st_b hw (st_f (by decide) (st_t (by simp (disch := first | omega | decide) only [lt1, nnMl, nnMr, nnAl, nnAr, nnA, nnM, nnB, nnT, nnP, nnE, nnEl, nnEr, nnL, nnLl, nnLr, nnQ, nnQr, nnN, Nat.add_zero, if_false, if_true, Option.bind_some, not_true, not_false_iff, not_true_eq_false, not_false_eq_true, eq_self, Nat.not_lt_zero, z10, z01, or_true, true_or, or_false, false_or, true_and, false_and, hW]) ?_))))
    rw [nnT (by omega), e41]
    exact st_f (by rw [e]; decide) (st_l q1)
end WN
