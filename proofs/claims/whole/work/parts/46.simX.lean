/-! stolen, both sides -/
def BST (S : Nat → Prop) (run : Nat → Nat → Prop) (q : Nat → Nat) (m L s : Nat) : Prop := L ≤ 150 ∧ s ≤ 9599 ∧ ((L = 0 ∧ ∀ i, i < m → ¬ S i) ∨ (1 ≤ L ∧ (∃ i, i < m ∧ S i ∧ run i (L - 1) ∧ q i = s) ∧ ∀ i, i < m → S i → ∃ l, run i l ∧ (l + 1 < L ∨ (l + 1 = L ∧ s ≤ q i))))
def oB (L s : Nat) : Int32 := if L = 0 then -1 else nn s
theorem BST.n {S : Nat → Prop} {run : Nat → Nat → Prop} {q : Nat → Nat} {m L s : Nat} (h : BST S run q m L s) (hS : ¬ S m) : BST S run q (m + 1) L s := by
  obtain ⟨h1, h2, h3⟩ := h
  refine ⟨h1, h2, ?_⟩
  rcases h3 with ⟨h3, h4⟩ | ⟨h3, ⟨i, i1, i2⟩, h4⟩
  · refine Or.inl ⟨h3, fun i hi => ?_⟩
    by_cases e : i = m
    · rw [e]; exact hS
    · exact h4 i (by omega)
  · refine Or.inr ⟨h3, ⟨i, by omega, i2⟩, fun i hi hs => ?_⟩
    by_cases e : i = m
    · rw [e] at hs; exact absurd hs hS
    · exact h4 i (by omega) hs
theorem BST.y {S : Nat → Prop} {run : Nat → Nat → Prop} {q : Nat → Nat} {m L s l : Nat} (h : BST S run q m L s) (hS : S m) (hr : run m l) (hl : l ≤ 149) (hq : q m ≤ 9599) (K : Int32 → Int32 → Option Int32) : ∃ L2 s2, BST S run q (m + 1) L2 s2 ∧ (if nn L < nn (l + 1) then K (nn (l + 1)) (nn (q m)) else (if ¬ nn (l + 1) = nn L then K (nn L) (oB L s) else (if oB L s ≤ nn (q m) then K (nn L) (oB L s) else K (nn (l + 1)) (nn (q m))))) = K (nn L2) (oB L2 s2) := by
  obtain ⟨h1, h2, h3⟩ := h
  have hnew : (L < l + 1 ∨ (l + 1 = L ∧ q m < s)) → BST S run q (m + 1) (l + 1) (q m) := fun hlt => by
    refine ⟨by omega, hq, Or.inr ⟨by omega, ⟨m, Nat.lt_succ_self _, hS, hr, rfl⟩, fun i hi hs => ?_⟩⟩
    by_cases e : i = m
    · rw [e]; exact ⟨l, hr, Or.inr ⟨rfl, Nat.le_refl _⟩⟩
    · rcases h3 with ⟨_, h4⟩ | ⟨_, _, h4⟩
      · exact absurd hs (h4 i (by omega))
      · obtain ⟨l2, r1, r2⟩ := h4 i (by omega) hs
        exact ⟨l2, r1, by omega⟩
  have hold : 1 ≤ L → (l + 1 < L ∨ (l + 1 = L ∧ s ≤ q m)) → BST S run q (m + 1) L s := fun hL hlt => by
    refine ⟨h1, h2, Or.inr ⟨hL, ?_, fun i hi hs => ?_⟩⟩
    · rcases h3 with ⟨h5, _⟩ | ⟨_, ⟨i, i1, i2⟩, _⟩
      · omega
      · exact ⟨i, by omega, i2⟩
    · by_cases e : i = m
      · rw [e]; exact ⟨l, hr, hlt⟩
      · rcases h3 with ⟨_, h4⟩ | ⟨_, _, h4⟩
        · exact absurd hs (h4 i (by omega))
        · exact h4 i (by omega) hs
  have e9 : oB (l + 1) (q m) = nn (q m) := if_neg (by omega)
  by_cases a : L < l + 1
  · refine ⟨l + 1, q m, hnew (Or.inl a), ?_⟩
    rw [e9]
    exact if_pos (by rw [nnL (by omega) (by omega)]; exact a)
  · have hL : 1 ≤ L := by omega
    have e8 : oB L s = nn s := if_neg (by omega)
    rw [if_neg (show ¬ nn L < nn (l + 1) by rw [nnL (by omega) (by omega)]; exact a)]
    by_cases b : l + 1 = L
    · rw [if_neg (fun e => e (by rw [b]))]
      by_cases d : s ≤ q m
      · refine ⟨L, s, hold hL (Or.inr ⟨b, d⟩), if_pos ?_⟩
        rw [e8, nnE (by omega) (by omega)]; exact d
      · refine ⟨l + 1, q m, hnew (Or.inr ⟨b, by omega⟩), ?_⟩
        rw [e9]
        refine if_neg ?_
        rw [e8, nnE (by omega) (by omega)]; exact d
    · exact ⟨L, s, hold hL (Or.inl (by omega)), if_pos (nnNe (by omega) (by omega) b)⟩
section WK
variable {g : Sg} {N C Q G : Nat}
def rE (g : Sg) (x t : Int32) (G i : Nat) : Prop := CNT g x G i ∧ STO g t i
def rE2 (g : Sg) (x t : Int32) (G i : Nat) : Prop := CNT g x G i ∧ STO g t i ∧ ¬ SA g x t G (g 44 i - 1)
def rRun (g : Sg) (x t : Int32) (G i l : Nat) : Prop := isRun g x t G (cn g 44 i) l
theorem row_q (r : RGau g (g 216) G C Q) {i : Nat} (hQ : Q ≤ 9599) (hi : i < G) : g 44 i = nn (cn g 44 i) ∧ cn g 44 i ≤ 9599 := by
  obtain ⟨q, q1, q2⟩ := r.gQ i hi
  unfold cn
  rw [q2, nnT (by omega)]
  exact ⟨rfl, by omega⟩
theorem rE_sa (r : RGau g (g 216) G C Q) (hQ : Q ≤ 9599) {x t : Int32} {i : Nat} (hi : i < G) (h : rE g x t G i) : SA g x t G (nn (cn g 44 i)) := by
  rw [← (row_q r hQ hi).1]
  exact ⟨i, h.1.2, h.2⟩
theorem BST_u (h : RNet g (g 216) N C Q) (r : RGau g (g 216) G C Q) {x t : Int32} {L s L2 s2 : Nat} (b1 : BST (rE g x t G) (rRun g x t G) (cn g 44) G L s) (b2 : BST (rE2 g x t G) (rRun g x t G) (cn g 44) G L2 s2) : L = L2 ∧ oB L s = oB L2 s2 := by
  have hQ := h.hQ
  obtain ⟨_, _, b1⟩ := b1
  obtain ⟨_, _, b2⟩ := b2
  have sub : ∀ i, rE2 g x t G i → rE g x t G i := fun i e => ⟨e.1, e.2.1⟩
  rcases b1 with ⟨hL, h4⟩ | ⟨hL, ⟨i, i1, i2, i3, i4⟩, h4⟩
  · rcases b2 with ⟨hL2, _⟩ | ⟨_, ⟨j, j1, j2, _⟩, _⟩
    · rw [hL, hL2]
      exact ⟨rfl, rfl⟩
    · exact absurd (sub j j2) (h4 j j1)
  · -- the best row begins a run
    have i5 : rE2 g x t G i := by
      refine ⟨i2.1, i2.2, fun hsa => ?_⟩
      obtain ⟨q1, q2⟩ := row_q r hQ i1
      obtain ⟨j, j1, j2⟩ := hsa
      obtain ⟨p1, p2, p3⟩ := lstR_p j1
      obtain ⟨w1, w2⟩ := row_q r hQ p1
      have hpos : cn g 44 i = cn g 44 j + 1 := by
        by_cases e0 : cn g 44 i = 0
        · exfalso
          rw [w1, q1, e0] at p3
          exact nnN1 (show cn g 44 j < 2147483648 by omega) p3.symm
        · rw [w1, q1, nnM1 (by omega), nnQ (by omega) (by omega)] at p3
          omega
      have jE : rE g x t G j := ⟨⟨p2, by rw [p3]; exact j1⟩, j2⟩
      obtain ⟨l, l1, l2⟩ := h4 j p1 jE
      have i3 : isRun g x t G (cn g 44 i) (L - 1) := i3
      rw [hpos] at i3
      have k1 := i3.p (by rw [← hpos]; exact rE_sa r hQ i1 i2)
      have k2 := isRun.u l1 k1
      omega
    rcases b2 with ⟨hL2, h5⟩ | ⟨hL2, ⟨j, j1, j2, j3, j4⟩, h5⟩
    · exact absurd i5 (h5 i i1)
    · obtain ⟨l, l1, l2⟩ := h5 i i1 i5
      obtain ⟨l3, l4, l5⟩ := h4 j j1 (sub j j2)
      have e1 := isRun.u l1 i3
      have e2 := isRun.u l4 j3
      have e3 : L = L2 := by omega
      have e4 : s = s2 := by omega
      rw [e3, e4]
      exact ⟨rfl, rfl⟩
noncomputable def sC (g : Sg) (x : Int32) (G m : Nat) : Int32 := sumTo (fun i => b01 (CNT g x G i)) m
noncomputable def sK (g : Sg) (x t : Int32) (G m : Nat) : Int32 := sumTo (fun i => b01 (CNT g x G i ∧ ¬ STO g t i ∧ ¬ moI g t i < g 46 i)) m
noncomputable def sM (g : Sg) (x t : Int32) (G m : Nat) : Int32 := sumTo (fun i => b01 (rE g x t G i)) m
noncomputable def sL (g : Sg) (x t : Int32) (G m : Nat) : Int32 := sumTo (fun i => b01 (rE g x t G i) * lkI g t i) m
theorem b01v (P : Prop) : b01 P = 0 ∨ b01 P = 1 := by
  by_cases h : P
  · exact Or.inr (b01_y h)
  · exact Or.inl (b01_n h)
theorem cntL (h : RNet g (g 216) N C Q) (r : RGau g (g 216) G C Q) {x : Int32} {F0 : Nat} (hF0 : 150 < F0) : ∀ k m F, m + k = G → k < F → gauges_rowsThatCount_4 F0 F x (sC g x G m) (nn m) g = some (sC g x G G) := by
  have hG := r.hG
  intro k
  induction k with
  | zero =>
    intro m F hm hF
    obtain ⟨F, rfl⟩ : ∃ F2, F = F2 + 1 := ⟨F - 1, by omega⟩
    have : m = G := by omega
    subst this
    unfold gauges_rowsThatCount_4
    rw [r.cG]
    exact if_pos (Int32.le_refl _)
  | succ k ih =>
    intro m F hm hF
    obtain ⟨F, rfl⟩ : ∃ F2, F = F2 + 1 := ⟨F - 1, by omega⟩
    have h3 : ¬ G ≤ m := by omega
    have hm5 : m < 150 := by omega
    have IH := ih (m + 1) F (by omega) (by omega)
    unfold gauges_rowsThatCount_4
    rw [r.cG, show nn m + 1 = nn (m + 1) from nnA m 1]
    refine st_f (by simp (disch := first | omega | decide) only [lt1, nnMl, nnMr, nnAl, nnAr, nnA, nnM, nnB, nnT, nnP, nnE, nnEl, nnEr, nnL, nnLl, nnLr, nnQ, nnQr, nnN, Nat.add_zero, if_false, if_true, Option.bind_some, not_true, not_false_iff, not_true_eq_false, not_false_eq_true, eq_self, Nat.not_lt_zero, z10, z01, or_true, true_or, or_false, false_or, true_and, false_and, h3]) (st_b (cnt_x r (show m < G by omega) hF0) ?_)
    by_cases e : CNT g x G m
    · refine st_f (by rw [b01_y e]; decide) ?_
      have e1 : sC g x G (m + 1) = sC g x G m + 1 := by show sC g x G m + b01 (CNT g x G m) = _; rw [b01_y e]
      rw [← e1]; exact IH
    · refine st_t (b01_n e) ?_
      have e1 : sC g x G (m + 1) = sC g x G m := by show sC g x G m + b01 (CNT g x G m) = _; rw [b01_n e, Int32.add_zero]
      rw [← e1]; exact IH
theorem stoL (h : RNet g (g 216) N C Q) (r : RGau g (g 216) G C Q) {x t : Int32} {F0 : Nat} (hF0 : 150 < F0) : ∀ k m F, m + k = G → k < F → gauges_rowsStolen_6 F0 F x t (sM g x t G m) (nn m) g = some (sM g x t G G) := by
  have hG := r.hG
  intro k
  induction k with
  | zero =>
    intro m F hm hF
    obtain ⟨F, rfl⟩ : ∃ F2, F = F2 + 1 := ⟨F - 1, by omega⟩
    have : m = G := by omega
    subst this
    unfold gauges_rowsStolen_6
    rw [r.cG]
    exact if_pos (Int32.le_refl _)
  | succ k ih =>
    intro m F hm hF
    obtain ⟨F, rfl⟩ : ∃ F2, F = F2 + 1 := ⟨F - 1, by omega⟩
    have h3 : ¬ G ≤ m := by omega
    have hm5 : m < 150 := by omega
    have IH := ih (m + 1) F (by omega) (by omega)
    unfold gauges_rowsStolen_6
    rw [r.cG, show nn m + 1 = nn (m + 1) from nnA m 1]
    refine st_f (by simp (disch := first | omega | decide) only [lt1, nnMl, nnMr, nnAl, nnAr, nnA, nnM, nnB, nnT, nnP, nnE, nnEl, nnEr, nnL, nnLl, nnLr, nnQ, nnQr, nnN, Nat.add_zero, if_false, if_true, Option.bind_some, not_true, not_false_iff, not_true_eq_false, not_false_eq_true, eq_self, Nat.not_lt_zero, z10, z01, or_true, true_or, or_false, false_or, true_and, false_and, h3]) (st_b (cnt_x r (show m < G by omega) hF0) ?_)
    by_cases e : CNT g x G m
    · refine st_f (by rw [b01_y e]; decide) ?_
      refine st_b (lack_x h r (show m < G by omega)) ?_
      by_cases e2 : 0 < lkI g t m
      · have e1 : sM g x t G (m + 1) = sM g x t G m + 1 := by show sM g x t G m + b01 (rE g x t G m) = _; rw [b01_y ⟨e, e2⟩]
        refine st_f (fun q => (lackle.mp q) e2) ?_
        rw [← e1]; exact IH
      · have e1 : sM g x t G (m + 1) = sM g x t G m := by show sM g x t G m + b01 (rE g x t G m) = _; rw [b01_n (fun q => e2 q.2), Int32.add_zero]
        refine st_t (lackle.mpr e2) ?_
        rw [← e1]; exact IH
    · refine st_t (b01_n e) ?_
      have e1 : sM g x t G (m + 1) = sM g x t G m := by show sM g x t G m + b01 (rE g x t G m) = _; rw [b01_n (fun q => e q.1), Int32.add_zero]
      rw [← e1]; exact IH
theorem litL (h : RNet g (g 216) N C Q) (r : RGau g (g 216) G C Q) {x t : Int32} {F0 : Nat} (hF0 : 150 < F0) : ∀ k m F, m + k = G → k < F → gauges_litresLacking_6 F0 F x t (sL g x t G m) (nn m) g = some (sL g x t G G) := by
  have hG := r.hG
  intro k
  induction k with
  | zero =>
    intro m F hm hF
    obtain ⟨F, rfl⟩ : ∃ F2, F = F2 + 1 := ⟨F - 1, by omega⟩
    have : m = G := by omega
    subst this
    unfold gauges_litresLacking_6
    rw [r.cG]
    exact if_pos (Int32.le_refl _)
  | succ k ih =>
    intro m F hm hF
    obtain ⟨F, rfl⟩ : ∃ F2, F = F2 + 1 := ⟨F - 1, by omega⟩
    have h3 : ¬ G ≤ m := by omega
    have hm5 : m < 150 := by omega
    have IH := ih (m + 1) F (by omega) (by omega)
    unfold gauges_litresLacking_6
    rw [r.cG, show nn m + 1 = nn (m + 1) from nnA m 1]
    refine st_f (by simp (disch := first | omega | decide) only [lt1, nnMl, nnMr, nnAl, nnAr, nnA, nnM, nnB, nnT, nnP, nnE, nnEl, nnEr, nnL, nnLl, nnLr, nnQ, nnQr, nnN, Nat.add_zero, if_false, if_true, Option.bind_some, not_true, not_false_iff, not_true_eq_false, not_false_eq_true, eq_self, Nat.not_lt_zero, z10, z01, or_true, true_or, or_false, false_or, true_and, false_and, h3]) (st_b (cnt_x r (show m < G by omega) hF0) ?_)
    by_cases e : CNT g x G m
    · refine st_f (by rw [b01_y e]; decide) ?_
      refine st_b (lack_x h r (show m < G by omega)) (st_l ?_)
      have e1 : sL g x t G (m + 1) = sL g x t G m + (if 0 < lkI g t m then lkI g t m else 0) := by
        show sL g x t G m + b01 (rE g x t G m) * lkI g t m = _
        by_cases e2 : 0 < lkI g t m
        · rw [b01_y ⟨e, e2⟩, if_pos e2, Int32.one_mul]
        · rw [b01_n (fun q => e2 q.2), if_neg e2, Int32.zero_mul]
      rw [← e1]; exact IH
    · refine st_t (b01_n e) ?_
      have e1 : sL g x t G (m + 1) = sL g x t G m := by show sL g x t G m + b01 (rE g x t G m) * lkI g t m = _; rw [b01_n (fun q => e q.1), Int32.zero_mul, Int32.add_zero]
      rw [← e1]; exact IH
theorem cloL (h : RNet g (g 216) N C Q) (r : RGau g (g 216) G C Q) {x t : Int32} {tt : Nat} (ht : t = nn tt) (htt : tt ≤ 999) {F0 : Nat} (hF0 : 150 < F0) : ∀ k m F, m + k = G → k < F → gauges_rowsThatClose_6 F0 F x t (sK g x t G m) (nn m) g = some (sK g x t G G) := by
  have hG := r.hG
  intro k
  induction k with
  | zero =>
    intro m F hm hF
    obtain ⟨F, rfl⟩ : ∃ F2, F = F2 + 1 := ⟨F - 1, by omega⟩
    have : m = G := by omega
    subst this
    unfold gauges_rowsThatClose_6
    rw [r.cG]
    exact if_pos (Int32.le_refl _)
  | succ k ih =>
    intro m F hm hF
    obtain ⟨F, rfl⟩ : ∃ F2, F = F2 + 1 := ⟨F - 1, by omega⟩
    have h3 : ¬ G ≤ m := by omega
    have hm5 : m < 150 := by omega
    have IH := ih (m + 1) F (by omega) (by omega)
    unfold gauges_rowsThatClose_6
    rw [r.cG, show nn m + 1 = nn (m + 1) from nnA m 1]
    refine st_f (by simp (disch := first | omega | decide) only [lt1, nnMl, nnMr, nnAl, nnAr, nnA, nnM, nnB, nnT, nnP, nnE, nnEl, nnEr, nnL, nnLl, nnLr, nnQ, nnQr, nnN, Nat.add_zero, if_false, if_true, Option.bind_some, not_true, not_false_iff, not_true_eq_false, not_false_eq_true, eq_self, Nat.not_lt_zero, z10, z01, or_true, true_or, or_false, false_or, true_and, false_and, h3]) (st_b (cnt_x r (show m < G by omega) hF0) ?_)
    by_cases e : CNT g x G m
    · refine st_f (by rw [b01_y e]; decide) ?_
      have hin : inb (nn m) 150 = true := by simp (disch := first | omega | decide) only [lt1, nnMl, nnMr, nnAl, nnAr, nnA, nnM, nnB, nnT, nnP, nnE, nnEl, nnEr, nnL, nnLl, nnLr, nnQ, nnQr, nnN, Nat.add_zero, if_false, if_true, Option.bind_some, not_true, not_false_iff, not_true_eq_false, not_false_eq_true, eq_self, Nat.not_lt_zero, z10, z01, or_true, true_or, or_false, false_or, true_and, false_and, hm5]
      have key := lack_lt (tt := tt) h r (show m < G by omega) htt
      rw [← ht] at key
      refine st_t hin (st_b (lst_x h r (show m < G by omega)).1 ?_)
      rw [nnT (by omega)]
      by_cases e2 : 0 < lkI g t m
      · have e1 : sK g x t G (m + 1) = sK g x t G m + 0 := by show sK g x t G m + b01 _ = _; rw [b01_n (fun q => q.2.1 e2)]
        refine st_t (key.mpr e2) ?_
        unfold gauges_rowsThatClose_48
        rw [show nn m + 1 = nn (m + 1) from nnA m 1]
        refine st_t rfl (st_l ?_)
        rw [← e1]; exact IH
      · refine st_f (fun q => e2 (key.mp q)) ?_
        unfold gauges_rowsThatClose_48
        rw [show nn m + 1 = nn (m + 1) from nnA m 1, nnT (by omega)]
        refine st_f (by decide) (st_t hin (st_b (lst_x h r (show m < G by omega)).2 ?_))
        by_cases e3 : moI g t m < g 46 m
        · have e1 : sK g x t G (m + 1) = sK g x t G m + 0 := by show sK g x t G m + b01 _ = _; rw [b01_n (fun q => q.2.2 e3)]
          refine st_t e3 (st_l ?_)
          rw [← e1]; exact IH
        · have e1 : sK g x t G (m + 1) = sK g x t G m + 1 := by show sK g x t G m + b01 _ = _; rw [b01_y ⟨e, e2, e3⟩]
          refine st_f e3 (st_l ?_)
          rw [← e1]; exact IH
    · refine st_t (b01_n e) ?_
      have e1 : sK g x t G (m + 1) = sK g x t G m := by show sK g x t G m + b01 _ = _; rw [b01_n (fun q => e q.1), Int32.add_zero]
      rw [← e1]; exact IH
theorem run65 (h : RNet g (g 216) N C Q) (r : RGau g (g 216) G C Q) {x t v4 v5 v6 v7 : Int32} {q l : Nat} (hq : q ≤ 9599) (hl : l ≤ 149) (hr : isRun g x t G q l) {F0 : Nat} (hF0 : 150 < F0) {K : Int32 → Int32 → Int32 → Int32 → Int32 → Int32 → Sg → Option Int32} : ∀ y z F, z + y = l + 1 → 1 ≤ z → y < F → gauges_longestRun_65 F0 K F x t v4 v5 v6 v7 (nn q) (nn z) g = gauges_longestRun_94 K x t v4 v5 v6 v7 (nn q) (nn (l + 1)) g := by
  intro y
  induction y with
  | zero =>
    intro z F hz hz1 hF
    obtain ⟨F, rfl⟩ : ∃ F2, F = F2 + 1 := ⟨F - 1, by omega⟩
    have : z = l + 1 := by omega
    subst this
    unfold gauges_longestRun_65
    by_cases e : (150 : Int32) ≤ nn (l + 1)
    · exact st_t e rfl
    · refine st_f e (st_b (lacksAt_x h r hF0) (st_t ?_ rfl))
      rw [nnA]
      exact b01_n hr.2
  | succ y ih =>
    intro z F hz hz1 hF
    obtain ⟨F, rfl⟩ : ∃ F2, F = F2 + 1 := ⟨F - 1, by omega⟩
    have h3 : ¬ 150 ≤ z := by omega
    unfold gauges_longestRun_65
    rw [show nn z + 1 = nn (z + 1) from nnA z 1]
    refine st_f (by simp (disch := first | omega | decide) only [lt1, nnMl, nnMr, nnAl, nnAr, nnA, nnM, nnB, nnT, nnP, nnE, nnEl, nnEr, nnL, nnLl, nnLr, nnQ, nnQr, nnN, Nat.add_zero, if_false, if_true, Option.bind_some, not_true, not_false_iff, not_true_eq_false, not_false_eq_true, eq_self, Nat.not_lt_zero, z10, z01, or_true, true_or, or_false, false_or, true_and, false_and, h3]) (st_b (lacksAt_x h r hF0) (st_f ?_ (ih (z + 1) F (by omega) (by omega) (by omega))))
    rw [nnA, b01_y (hr.1 z hz1 (by omega))]
    decide
theorem longL (h : RNet g (g 216) N C Q) (r : RGau g (g 216) G C Q) {x t v4 : Int32} {F0 : Nat} (hF0 : 200 < F0) : ∀ k m F L s, m + k = G → k < F → BST (rE2 g x t G) (rRun g x t G) (cn g 44) m L s → ∃ L2 s2, BST (rE2 g x t G) (rRun g x t G) (cn g 44) G L2 s2 ∧ gauges_longestRun_9 F0 F x t v4 (nn L) (oB L s) (nn m) g = some (if v4 = 0 then nn L2 else oB L2 s2) := by
  have hG := r.hG
  have hQ := h.hQ
  intro k
  induction k with
  | zero =>
    intro m F L s hm hF hb
    obtain ⟨F, rfl⟩ : ∃ F2, F = F2 + 1 := ⟨F - 1, by omega⟩
    have : m = G := by omega
    subst this
    refine ⟨L, s, hb, ?_⟩
    unfold gauges_longestRun_9
    rw [r.cG]
    refine st_t (Int32.le_refl _) ?_
    by_cases e : v4 = 0
    · rw [if_pos e, if_pos e]
    · rw [if_neg e, if_neg e]
  | succ k ih =>
    intro m F L s hm hF hb
    obtain ⟨F, rfl⟩ : ∃ F2, F = F2 + 1 := ⟨F - 1, by omega⟩
    have h3 : ¬ G ≤ m := by omega
    have hm5 : m < 150 := by omega
    have hmG : m < G := by omega
    obtain ⟨q1, q2⟩ := row_q r hQ hmG
    have hin : inb (nn m) 150 = true := by simp (disch := first | omega | decide) only [lt1, nnMl, nnMr, nnAl, nnAr, nnA, nnM, nnB, nnT, nnP, nnE, nnEl, nnEr, nnL, nnLl, nnLr, nnQ, nnQr, nnN, Nat.add_zero, if_false, if_true, Option.bind_some, not_true, not_false_iff, not_true_eq_false, not_false_eq_true, eq_self, Nat.not_lt_zero, z10, z01, or_true, true_or, or_false, false_or, true_and, false_and, hm5]
    have skip : ¬ rE2 g x t G m → ∃ L2 s2, BST (rE2 g x t G) (rRun g x t G) (cn g 44) G L2 s2 ∧ gauges_longestRun_9 F0 F x t v4 (nn L) (oB L s) (nn (m + 1)) g = some (if v4 = 0 then nn L2 else oB L2 s2) := fun e => ih (m + 1) F L s (by omega) (by omega) (hb.n e)
    by_cases e : CNT g x G m
    rotate_left
    · obtain ⟨L2, s2, b1, b2⟩ := skip (fun q => e q.1)
      refine ⟨L2, s2, b1, ?_⟩
      unfold gauges_longestRun_9
      rw [r.cG, show nn m + 1 = nn (m + 1) from nnA m 1]
      exact st_f (by simp (disch := first | omega | decide) only [lt1, nnMl, nnMr, nnAl, nnAr, nnA, nnM, nnB, nnT, nnP, nnE, nnEl, nnEr, nnL, nnLl, nnLr, nnQ, nnQr, nnN, Nat.add_zero, if_false, if_true, Option.bind_some, not_true, not_false_iff, not_true_eq_false, not_false_eq_true, eq_self, Nat.not_lt_zero, z10, z01, or_true, true_or, or_false, false_or, true_and, false_and, h3]) (st_w hin (st_b (cnt_x r hmG (by omega)) (st_t (b01_n e) b2)))
    have ec : ¬ b01 (CNT g x G m) = 0 := by rw [b01_y e]; decide
    by_cases e2 : 0 < lkI g t m
    rotate_left
    · obtain ⟨L2, s2, b1, b2⟩ := skip (fun q => e2 q.2.1)
      refine ⟨L2, s2, b1, ?_⟩
      unfold gauges_longestRun_9
      rw [r.cG, show nn m + 1 = nn (m + 1) from nnA m 1]
      exact st_f (by simp (disch := first | omega | decide) only [lt1, nnMl, nnMr, nnAl, nnAr, nnA, nnM, nnB, nnT, nnP, nnE, nnEl, nnEr, nnL, nnLl, nnLr, nnQ, nnQr, nnN, Nat.add_zero, if_false, if_true, Option.bind_some, not_true, not_false_iff, not_true_eq_false, not_false_eq_true, eq_self, Nat.not_lt_zero, z10, z01, or_true, true_or, or_false, false_or, true_and, false_and, h3]) (st_w hin (st_b (cnt_x r hmG (by omega)) (st_f ec (st_b (lack_x h r hmG) (st_t (lackle.mpr e2) b2)))))
    by_cases e3 : SA g x t G (g 44 m - 1)
    · obtain ⟨L2, s2, b1, b2⟩ := skip (fun q => q.2.2 e3)
      refine ⟨L2, s2, b1, ?_⟩
      unfold gauges_longestRun_9
      rw [r.cG, show nn m + 1 = nn (m + 1) from nnA m 1]
      refine st_f (by simp (disch := first | omega | decide) only [lt1, nnMl, nnMr, nnAl, nnAr, nnA, nnM, nnB, nnT, nnP, nnE, nnEl, nnEr, nnL, nnLl, nnLr, nnQ, nnQr, nnN, Nat.add_zero, if_false, if_true, Option.bind_some, not_true, not_false_iff, not_true_eq_false, not_false_eq_true, eq_self, Nat.not_lt_zero, z10, z01, or_true, true_or, or_false, false_or, true_and, false_and, h3]) (st_w hin (st_b (cnt_x r hmG (by omega)) (st_f ec (st_b (lack_x h r hmG) (st_f (fun q => (lackle.mp q) e2) (st_b (lacksAt_x h r (by omega)) (st_t ?_ b2)))))))
      rw [nnT (by omega), b01_y e3]
      decide
    · obtain ⟨l, l1, l2⟩ := run_ex hG q2 (rE_sa r hQ hmG ⟨e, e2⟩)
      obtain ⟨L1, s1, b1, b2⟩ := hb.y (l := l) ⟨e, e2, e3⟩ l2 l1 q2 (fun a b => gauges_longestRun_9 F0 F x t v4 a b (nn (m + 1)) g)
      obtain ⟨L2, s2, b3, b4⟩ := ih (m + 1) F L1 s1 (by omega) (by omega) b1
      refine ⟨L2, s2, b3, ?_⟩
      unfold gauges_longestRun_9
      rw [r.cG, show nn m + 1 = nn (m + 1) from nnA m 1]
      refine st_f (by simp (disch := first | omega | decide) only [lt1, nnMl, nnMr, nnAl, nnAr, nnA, nnM, nnB, nnT, nnP, nnE, nnEl, nnEr, nnL, nnLl, nnLr, nnQ, nnQr, nnN, Nat.add_zero, if_false, if_true, Option.bind_some, not_true, not_false_iff, not_true_eq_false, not_false_eq_true, eq_self, Nat.not_lt_zero, z10, z01, or_true, true_or, or_false, false_or, true_and, false_and, h3]) (st_w hin (st_b (cnt_x r hmG (by omega)) (st_f ec (st_b (lack_x h r hmG) (st_f (fun q => (lackle.mp q) e2) (st_b (lacksAt_x h r (by omega)) (st_f ?_ ?_)))))))
      · rw [nnT (by omega), b01_n e3]
        exact fun q => q rfl
      · rw [nnT (by omega), q1, show (1 : Int32) = nn 1 from rfl, run65 h r q2 l1 l2 (by omega) l 1 F0 (by omega) (by omega) (by omega)]
        unfold gauges_longestRun_94
        rw [show nn m + 1 = nn (m + 1) from nnA m 1]
        exact b2.trans b4
theorem run157 (h : RNet g (g 216) N C Q) (r : RGau g (g 216) G C Q) {v1 v2 v3 v4 v5 v6 v7 v8 v9 v10 : Int32} {q l : Nat} (hq : q ≤ 9599) (hl : l ≤ 149) (hr : isRun g v1 v2 G q l) {F0 : Nat} (hF0 : 150 < F0) {K : Int32 → Int32 → Int32 → Int32 → Int32 → Int32 → Int32 → Int32 → Int32 → Int32 → Sg → Option Int32} : ∀ y z F, z + y = l + 1 → 1 ≤ z → y < F → m_stolen_157 F0 K F v1 v2 v3 v4 v5 v6 v7 v8 v9 v10 (nn q) (nn z) g = (if v7 < nn (l + 1) then K v1 v2 v3 v4 v5 v6 (nn (l + 1)) (nn q) v9 (v10 + 1) g else (if ¬ nn (l + 1) = v7 then K v1 v2 v3 v4 v5 v6 v7 v8 v9 (v10 + 1) g else (if v8 ≤ nn q then K v1 v2 v3 v4 v5 v6 v7 v8 v9 (v10 + 1) g else K v1 v2 v3 v4 v5 v6 (nn (l + 1)) (nn q) v9 (v10 + 1) g))) := by
  intro y
  induction y with
  | zero =>
    intro z F hz hz1 hF
    obtain ⟨F, rfl⟩ : ∃ F2, F = F2 + 1 := ⟨F - 1, by omega⟩
    have : z = l + 1 := by omega
    subst this
    unfold m_stolen_157
    refine st_b (isSto_m h r hF0) (st_t ?_ rfl)
    rw [nnA]
    exact b01_n hr.2
  | succ y ih =>
    intro z F hz hz1 hF
    obtain ⟨F, rfl⟩ : ∃ F2, F = F2 + 1 := ⟨F - 1, by omega⟩
    unfold m_stolen_157
    rw [show nn z + 1 = nn (z + 1) from nnA z 1]
    refine st_b (isSto_m h r hF0) (st_f ?_ (ih (z + 1) F (by omega) (by omega) (by omega)))
    rw [nnA, b01_y (hr.1 z hz1 (by omega))]
    decide
theorem stoML (h : RNet g (g 216) N C Q) (r : RGau g (g 216) G C Q) {x t v3 : Int32} {F0 : Nat} (hF0 : 200 < F0) : ∀ k m F L s, m + k = G → k < F → BST (rE g x t G) (rRun g x t G) (cn g 44) m L s → ∃ L2 s2, BST (rE g x t G) (rRun g x t G) (cn g 44) G L2 s2 ∧ m_stolen_43 F0 F x t v3 (sC g x G m) (sK g x t G m) (sM g x t G m) (nn L) (oB L s) (sL g x t G m) (nn m) g = (if v3 = 0 then some (sC g x G G) else if v3 = 1 then some (sK g x t G G) else if v3 = 2 then some (sM g x t G G) else if v3 = 3 then some (nn L2) else if v3 = 4 then some (oB L2 s2) else if v3 = 5 then some (sL g x t G G) else some (-1)) := by
  have hG := r.hG
  have hQ := h.hQ
  intro k
  induction k with
  | zero =>
    intro m F L s hm hF hb
    obtain ⟨F, rfl⟩ : ∃ F2, F = F2 + 1 := ⟨F - 1, by omega⟩
    have : m = G := by omega
    subst this
    refine ⟨L, s, hb, ?_⟩
    unfold m_stolen_43
    rw [r.aG]
    exact st_t (Int32.le_refl _) rfl
  | succ k ih =>
    intro m F L s hm hF hb
    obtain ⟨F, rfl⟩ : ∃ F2, F = F2 + 1 := ⟨F - 1, by omega⟩
    have h3 : ¬ G ≤ m := by omega
    have hm5 : m < 150 := by omega
    have hmG : m < G := by omega
    obtain ⟨q1, q2⟩ := row_q r hQ hmG
    have i0 : 1270 + 4 * m < 20360 := by omega
    have i1 : 1270 + 4 * m + 1 < 20360 := by omega
    obtain ⟨x0, x1, _, _⟩ := rowIx m
    have aC : sC g x G (m + 1) = sC g x G m + b01 (CNT g x G m) := rfl
    have aK : sK g x t G (m + 1) = sK g x t G m + b01 (CNT g x G m ∧ ¬ STO g t m ∧ ¬ moI g t m < g 46 m) := rfl
    have aM : sM g x t G (m + 1) = sM g x t G m + b01 (rE g x t G m) := rfl
    have aL : sL g x t G (m + 1) = sL g x t G m + b01 (rE g x t G m) * lkI g t m := rfl
    by_cases e : CNT g x G m
    rotate_left
    · obtain ⟨L2, s2, b1, b2⟩ := ih (m + 1) F L s (by omega) (by omega) (hb.n (fun q => e q.1))
      rw [aC, aK, aM, aL, b01_n e, b01_n (fun q => e q.1), b01_n (fun q => e q.1), Int32.zero_mul, Int32.add_zero, Int32.add_zero, Int32.add_zero, Int32.add_zero] at b2
      refine ⟨L2, s2, b1, ?_⟩
      unfold m_stolen_43
      rw [r.aG, x0, x1, nnT (show 1270 + 4 * m < 2147483648 by omega), nnT (show 1270 + 4 * m + 1 < 2147483648 by omega), r.g0 m hm5, r.g1 m hm5, show nn m + 1 = nn (m + 1) from nnA m 1]
      refine st_f (by simp (disch := first | omega | decide) only [lt1, nnMl, nnMr, nnAl, nnAr, nnA, nnM, nnB, nnT, nnP, nnE, nnEl, nnEr, nnL, nnLl, nnLr, nnQ, nnQr, nnN, Nat.add_zero, if_false, if_true, Option.bind_some, not_true, not_false_iff, not_true_eq_false, not_false_eq_true, eq_self, Nat.not_lt_zero, z10, z01, or_true, true_or, or_false, false_or, true_and, false_and, h3]) (st_w (by simp (disch := first | omega | decide) only [lt1, nnMl, nnMr, nnAl, nnAr, nnA, nnM, nnB, nnT, nnP, nnE, nnEl, nnEr, nnL, nnLl, nnLr, nnQ, nnQr, nnN, Nat.add_zero, if_false, if_true, Option.bind_some, not_true, not_false_iff, not_true_eq_false, not_false_eq_true, eq_self, Nat.not_lt_zero, z10, z01, or_true, true_or, or_false, false_or, true_and, false_and, i1]) (st_t (by simp (disch := first | omega | decide) only [lt1, nnMl, nnMr, nnAl, nnAr, nnA, nnM, nnB, nnT, nnP, nnE, nnEl, nnEr, nnL, nnLl, nnLr, nnQ, nnQr, nnN, Nat.add_zero, if_false, if_true, Option.bind_some, not_true, not_false_iff, not_true_eq_false, not_false_eq_true, eq_self, Nat.not_lt_zero, z10, z01, or_true, true_or, or_false, false_or, true_and, false_and, i0]) ?_))
      by_cases e1 : g 43 m = x
      · refine st_f (fun q => q e1) (st_b (row_m r (by omega)) (st_f ?_ b2))
        rw [oN_eq (o := lstR g x (g 44 m) G) (i := m) (by omega) (fun j hj => by have := (lstR_p hj).1; omega)]
        exact fun q => e ⟨e1, q⟩
      · exact st_t e1 b2
    have pre : ∀ rr, (Option.bind (m_closes (nn m) t g) (fun x9 => (if x9 = 0 then (m_stolen_123 F0 (fun v1 v2 v3 v4 v5 v6 v7 v8 v9 v10 g0 => m_stolen_43 F0 F v1 v2 v3 v4 v5 v6 v7 v8 v9 v10 g0) x t v3 (sC g x G m + 1) (sM g x t G m) (nn L) (oB L s) (sL g x t G m) (nn m) (g 44 m) 0 (sK g x t G m) g) else (m_stolen_123 F0 (fun v1 v2 v3 v4 v5 v6 v7 v8 v9 v10 g0 => m_stolen_43 F0 F v1 v2 v3 v4 v5 v6 v7 v8 v9 v10 g0) x t v3 (sC g x G m + 1) (sM g x t G m) (nn L) (oB L s) (sL g x t G m) (nn m) (g 44 m) 1 (sK g x t G m) g)))) = rr → m_stolen_43 F0 (F + 1) x t v3 (sC g x G m) (sK g x t G m) (sM g x t G m) (nn L) (oB L s) (sL g x t G m) (nn m) g = rr := fun rr hrr => by
      unfold m_stolen_43
      rw [r.aG, x0, x1, nnT (show 1270 + 4 * m < 2147483648 by omega), nnT (show 1270 + 4 * m + 1 < 2147483648 by omega), r.g0 m hm5, r.g1 m hm5]
      refine st_f (by simp (disch := first | omega | decide) only [lt1, nnMl, nnMr, nnAl, nnAr, nnA, nnM, nnB, nnT, nnP, nnE, nnEl, nnEr, nnL, nnLl, nnLr, nnQ, nnQr, nnN, Nat.add_zero, if_false, if_true, Option.bind_some, not_true, not_false_iff, not_true_eq_false, not_false_eq_true, eq_self, Nat.not_lt_zero, z10, z01, or_true, true_or, or_false, false_or, true_and, false_and, h3]) (st_w (by simp (disch := first | omega | decide) only [lt1, nnMl, nnMr, nnAl, nnAr, nnA, nnM, nnB, nnT, nnP, nnE, nnEl, nnEr, nnL, nnLl, nnLr, nnQ, nnQr, nnN, Nat.add_zero, if_false, if_true, Option.bind_some, not_true, not_false_iff, not_true_eq_false, not_false_eq_true, eq_self, Nat.not_lt_zero, z10, z01, or_true, true_or, or_false, false_or, true_and, false_and, i1]) (st_t (by simp (disch := first | omega | decide) only [lt1, nnMl, nnMr, nnAl, nnAr, nnA, nnM, nnB, nnT, nnP, nnE, nnEl, nnEr, nnL, nnLl, nnLr, nnQ, nnQr, nnN, Nat.add_zero, if_false, if_true, Option.bind_some, not_true, not_false_iff, not_true_eq_false, not_false_eq_true, eq_self, Nat.not_lt_zero, z10, z01, or_true, true_or, or_false, false_or, true_and, false_and, i0]) (st_f (fun q => q e.1) (st_b (row_m r (by omega)) (st_t ?_ hrr)))))
      exact (oN_eq (o := lstR g x (g 44 m) G) (i := m) (by omega) (fun j hj => by have := (lstR_p hj).1; omega)).mpr e.2
    have pre2 : ∀ rr, m_stolen_123 F0 (fun v1 v2 v3 v4 v5 v6 v7 v8 v9 v10 g0 => m_stolen_43 F0 F v1 v2 v3 v4 v5 v6 v7 v8 v9 v10 g0) x t v3 (sC g x G m + 1) (sM g x t G m) (nn L) (oB L s) (sL g x t G m) (nn m) (g 44 m) (b01 (¬ STO g t m ∧ ¬ moI g t m < g 46 m)) (sK g x t G m) g = rr → m_stolen_43 F0 (F + 1) x t v3 (sC g x G m) (sK g x t G m) (sM g x t G m) (nn L) (oB L s) (sL g x t G m) (nn m) g = rr := fun rr hrr => by
      refine pre rr (st_b (closes_m h r hmG) ?_)
      rcases b01v (¬ STO g t m ∧ ¬ moI g t m < g 46 m) with e9 | e9
      · rw [e9] at hrr ⊢
        exact st_t rfl hrr
      · rw [e9] at hrr ⊢
        exact st_f (by decide) hrr
    have eK : sK g x t G (m + 1) = sK g x t G m + b01 (¬ STO g t m ∧ ¬ moI g t m < g 46 m) := by
      rw [aK]
      by_cases e9 : ¬ STO g t m ∧ ¬ moI g t m < g 46 m
      · rw [b01_y e9, b01_y ⟨e, e9⟩]
      · rw [b01_n e9, b01_n (fun q => e9 q.2)]
    by_cases e2 : 0 < lkI g t m
    · obtain ⟨l, l1, l2⟩ := run_ex hG q2 (rE_sa r hQ hmG ⟨e, e2⟩)
      obtain ⟨L1, s1, b1, b2⟩ := hb.y (l := l) ⟨e, e2⟩ l2 l1 q2 (fun a b => m_stolen_43 F0 F x t v3 (sC g x G (m + 1)) (sK g x t G (m + 1)) (sM g x t G (m + 1)) a b (sL g x t G (m + 1)) (nn (m + 1)) g)
      obtain ⟨L2, s2, b3, b4⟩ := ih (m + 1) F L1 s1 (by omega) (by omega) b1
      refine ⟨L2, s2, b3, pre2 _ ?_⟩
      have b5 := b2.trans b4
      rw [aC, eK, aM, aL, b01_y e, b01_y (show rE g x t G m from ⟨e, e2⟩), Int32.one_mul] at b5
      unfold m_stolen_123
      refine st_l (st_b (lacks_m h r hmG) (st_t e2 (st_b (lacks_m h r hmG) (st_l ?_))))
      rw [q1]
      refine Eq.trans (run157 h r q2 l1 l2 (by omega) l 1 F0 (by omega) (by omega) (by omega)) ?_
      rw [show nn m + 1 = nn (m + 1) from nnA m 1]
      exact b5
    · obtain ⟨L2, s2, b1, b2⟩ := ih (m + 1) F L s (by omega) (by omega) (hb.n (fun q => e2 q.2))
      rw [aC, eK, aM, aL, b01_y e, b01_n (show ¬ rE g x t G m from fun q => e2 q.2), Int32.zero_mul, Int32.add_zero, Int32.add_zero] at b2
      refine ⟨L2, s2, b1, pre2 _ ?_⟩
      unfold m_stolen_123
      rw [show nn m + 1 = nn (m + 1) from nnA m 1]
      exact st_l (st_b (lacks_m h r hmG) (st_f e2 b2))
end WK
theorem sim_stolen {TS : Sg → Prop} : Sim_stolen (RR TS) := by
  intro v1 v2 v3 g hR
  obtain ⟨N, C, Q, D, T, L, G, h⟩ := hR.now
  have hG := h.gau.hG
  by_cases hn : ∃ n, n < C ∧ v1 = nn n
  rotate_left
  · refine ⟨0, 0, -1, g, g, ?_, ?_, hR, rfl, rfl⟩
    · unfold x_stolen
      exact st_b (hasChan_n h.net hn) (st_t rfl rfl)
    · unfold m_stolen
      exact st_b (isOf1_n h.net hn) (st_t rfl rfl)
  obtain ⟨n, hn, rfl⟩ := hn
  rcases chk v2 999 999 rfl (by decide) with ⟨tt, htt, rfl, x1, m1⟩ | ⟨x1, m1⟩
  rotate_left
  · refine ⟨0, 0, -1, g, g, ?_, ?_, hR, rfl, rfl⟩
    · unfold x_stolen
      exact st_b (hasChan_y h.net hn) (st_f (by decide) (st_b (x1 g) (st_f (by decide) rfl)))
    · unfold m_stolen
      exact st_b (isOf1_y h.net hn) (st_f (by decide) (st_b (m1 g) (st_f (by decide) rfl)))
  have z1 : BST (rE g (nn n) (nn tt) G) (rRun g (nn n) (nn tt) G) (cn g 44) 0 0 0 := ⟨by omega, by omega, Or.inl ⟨rfl, fun i hi => absurd hi (by omega)⟩⟩
  have z2 : BST (rE2 g (nn n) (nn tt) G) (rRun g (nn n) (nn tt) G) (cn g 44) 0 0 0 := ⟨by omega, by omega, Or.inl ⟨rfl, fun i hi => absurd hi (by omega)⟩⟩
  obtain ⟨L1, s1, b1, b2⟩ := stoML h.net h.gau (x := nn n) (t := nn tt) (v3 := v3) (F0 := 400) (by decide) G 0 400 0 0 (by omega) (by omega) z1
  obtain ⟨L2, s2, b3, b4⟩ := longL h.net h.gau (x := nn n) (t := nn tt) (v4 := 0) (F0 := 400) (by decide) G 0 400 0 0 (by omega) (by omega) z2
  obtain ⟨L3, s3, b5, b6⟩ := longL h.net h.gau (x := nn n) (t := nn tt) (v4 := 1) (F0 := 400) (by decide) G 0 400 0 0 (by omega) (by omega) z2
  obtain ⟨e1, e2⟩ := BST_u h.net h.gau b1 b3
  obtain ⟨e3, e4⟩ := BST_u h.net h.gau b1 b5
  rw [if_pos rfl, ← e1] at b4
  rw [if_neg (by decide), ← e4] at b6
  have c0 : gauges_rowsThatCount 400 (nn n) g = some (sC g (nn n) G G) := cntL h.net h.gau (by decide) G 0 400 (by omega) (by omega)
  have c1 : gauges_rowsThatClose 400 (nn n) (nn tt) g = some (sK g (nn n) (nn tt) G G) := cloL h.net h.gau rfl htt (by decide) G 0 400 (by omega) (by omega)
  have c2 : gauges_rowsStolen 400 (nn n) (nn tt) g = some (sM g (nn n) (nn tt) G G) := stoL h.net h.gau (by decide) G 0 400 (by omega) (by omega)
  have c3 : gauges_longestRun 400 (nn n) (nn tt) 0 g = some (nn L1) := b4
  have c4 : gauges_longestRun 400 (nn n) (nn tt) 1 g = some (oB L1 s1) := b6
  have c5 : gauges_litresLacking 400 (nn n) (nn tt) g = some (sL g (nn n) (nn tt) G G) := litL h.net h.gau (by decide) G 0 400 (by omega) (by omega)
  have hx : x_stolen 400 (nn n) (nn tt) v3 g = (if v3 = 0 then some (sC g (nn n) G G) else if v3 = 1 then some (sK g (nn n) (nn tt) G G) else if v3 = 2 then some (sM g (nn n) (nn tt) G G) else if v3 = 3 then some (nn L1) else if v3 = 4 then some (oB L1 s1) else if v3 = 5 then some (sL g (nn n) (nn tt) G G) else some (-1)) := by
    unfold x_stolen
    rw [c0, c1, c2, c3, c4, c5]
    exact st_b (hasChan_y h.net hn) (st_f (by decide) (st_b (x1 g) (st_t (by decide) rfl)))
  have hm : m_stolen 400 (nn n) (nn tt) v3 g = (if v3 = 0 then some (sC g (nn n) G G) else if v3 = 1 then some (sK g (nn n) (nn tt) G G) else if v3 = 2 then some (sM g (nn n) (nn tt) G G) else if v3 = 3 then some (nn L1) else if v3 = 4 then some (oB L1 s1) else if v3 = 5 then some (sL g (nn n) (nn tt) G G) else some (-1)) := by
    unfold m_stolen
    exact st_b (isOf1_y h.net hn) (st_f (by decide) (st_b (m1 g) (st_t (by decide) b2)))
  obtain ⟨v, hv⟩ : ∃ v, (if v3 = 0 then some (sC g (nn n) G G) else if v3 = 1 then some (sK g (nn n) (nn tt) G G) else if v3 = 2 then some (sM g (nn n) (nn tt) G G) else if v3 = 3 then some (nn L1) else if v3 = 4 then some (oB L1 s1) else if v3 = 5 then some (sL g (nn n) (nn tt) G G) else some (-1) : Option Int32) = some v := by
    repeat (split; exact ⟨_, rfl⟩)
    exact ⟨_, rfl⟩
  exact ⟨400, 400, v, g, g, hx.trans hv, hm.trans hv, hR, rfl, rfl⟩
