/-! what is reckoned of a holder in a week: the model's side; holder -/
theorem FV6 {dr H Nn Fa who o : Int32} : ¬ FVf dr H Nn Fa who o 6 < 0 := by
  show ¬ (if 0 < o then o else 0) < 0
  by_cases e : 0 < o
  · rw [if_pos e]
    exact fun q => Int32.lt_irrefl (Int32.lt_trans e q)
  · rw [if_neg e]
    decide
section WP
variable {c : Sg} {A : Nat → Int32} {N C Q D T L : Nat}
def PMx (X : Sg) (A : Nat → Int32) (FV : Nat → Int32) : Prop := X 216 = A ∧ X 215 14 = FV 2 ∧ X 215 15 = FV 3 ∧ X 215 16 = FV 4 ∧ (X 215 17 = -1 ∨ X 215 17 = FV 6)
def XF (X X2 : Sg) : Prop := (∀ i, i ≠ 215 → X2 i = X i) ∧ ∀ j, j ≠ 17 → X2 215 j = X 215 j
theorem XF.r {X : Sg} : XF X X := ⟨fun _ _ => rfl, fun _ _ => rfl⟩
theorem XF.t {X Y Z : Sg} (h : XF X Y) (h2 : XF Y Z) : XF X Z := ⟨fun i e => (h2.1 i e).trans (h.1 i e), fun j e => (h2.2 j e).trans (h.2 j e)⟩
theorem asked_m (r : RRig c A D N Q) (hl : RLaw c A T L) (hQ : Q ≤ 9599) (hA3 : A 3 = nn Q) {h W w : Nat} (hh : h < 8) (hW : W < 100) (h1 : 1 ≤ w) (h6 : w ≤ 6) {fv : Nat → Int32} {X : Sg} (hX : PMx X A (FVh c D Q W fv h)) {F : Nat} (hF : 2400 < F) : ∃ X2, m_asked F (nn w) (nn h) (nn W) X = some (FVh c D Q W fv h w, X2) ∧ PMx X2 A (FVh c D Q W fv h) ∧ XF X X2 := by
  obtain ⟨x0, x1, x2, x3, x4⟩ := hX
  have i1 : 40 + W < 20360 := by omega
  have e1 : (40 + nn W : Int32) = nn (40 + W) := by simp (disch := first | omega | decide) only [lt1, nnMl, nnMr, nnAl, nnAr, nnA, nnM, nnB, nnT, nnP, nnE, nnEl, nnEr, nnL, nnLl, nnLr, nnQ, nnQr, nnN, Nat.add_zero, if_false, if_true, Option.bind_some, not_true, not_false_iff, not_true_eq_false, not_false_eq_true, eq_self, Nat.not_lt_zero, z10, z01, or_true, true_or, or_false, false_or, true_and, false_and]
  have c6 : w = 1 ∨ w = 2 ∨ w = 3 ∨ w = 4 ∨ w = 5 ∨ w = 6 := by omega
  unfold m_asked
  rcases c6 with rfl | rfl | rfl | rfl | rfl | rfl
  · refine ⟨X, st_t rfl ?_, ⟨x0, x1, x2, x3, x4⟩, XF.r⟩
    rw [e1, nnT (by omega), x0, hl.dry W hW]
    exact st_t (by simp (disch := first | omega | decide) only [lt1, nnMl, nnMr, nnAl, nnAr, nnA, nnM, nnB, nnT, nnP, nnE, nnEl, nnEr, nnL, nnLl, nnLr, nnQ, nnQr, nnN, Nat.add_zero, if_false, if_true, Option.bind_some, not_true, not_false_iff, not_true_eq_false, not_false_eq_true, eq_self, Nat.not_lt_zero, z10, z01, or_true, true_or, or_false, false_or, true_and, false_and, i1]) rfl
  · exact ⟨X, st_f (by decide) (st_t rfl (by rw [x1])), ⟨x0, x1, x2, x3, x4⟩, XF.r⟩
  · exact ⟨X, st_f (by decide) (st_f (by decide) (st_t rfl (by rw [x2]))), ⟨x0, x1, x2, x3, x4⟩, XF.r⟩
  · exact ⟨X, st_f (by decide) (st_f (by decide) (st_f (by decide) (st_t rfl (by rw [x3])))), ⟨x0, x1, x2, x3, x4⟩, XF.r⟩
  · exact ⟨X, st_f (by decide) (st_f (by decide) (st_f (by decide) (st_f (by decide) (st_t rfl rfl)))), ⟨x0, x1, x2, x3, x4⟩, XF.r⟩
  · have pm : PMx (up2 X 215 17 (FVh c D Q W fv h 6)) A (FVh c D Q W fv h) := ⟨by rw [u2n (by decide)]; exact x0, by rw [u2e, up1_ne (by decide)]; exact x1, by rw [u2e, up1_ne (by decide)]; exact x2, by rw [u2e, up1_ne (by decide)]; exact x3, Or.inr (by rw [u2e, up1_eq])⟩
    have xf : XF X (up2 X 215 17 (FVh c D Q W fv h 6)) := ⟨fun i e => u2n e, fun j e => by rw [u2e, up1_ne e]⟩
    have go : ∀ X2, m_owes F (nn h) X = some (FVh c D Q W fv h 6, X2) → (if nn 6 = 1 then (if inb (40 + nn W) 20360 = true then (some ((X 216 (Int32.toNatClampNeg (40 + nn W))), X)) else none) else (if nn 6 = 2 then (some ((X 215 14), X)) else (if nn 6 = 3 then (some ((X 215 15), X)) else (if nn 6 = 4 then (some ((X 215 16), X)) else (if nn 6 = 5 then (some (nn h, X)) else Option.bind (m_owes F (nn h) X) (fun (x6, g7) => (some (x6, g7)))))))) = some (FVh c D Q W fv h 6, X2) := fun X2 hx => st_f (by decide) (st_f (by decide) (st_f (by decide) (st_f (by decide) (st_f (by decide) (st_b hx rfl)))))
    rcases x4 with e | e
    · have ho : m_owedTo F (nn h) X = some (ow c Q D ((Q + 3) / 4) h) := owed_m (g := X) (c := c) (by rw [x0]; exact r) hQ (by rw [x0]; exact hA3) hh hF
      refine ⟨up2 X 215 17 (FVh c D Q W fv h 6), go _ ?_, pm, xf⟩
      unfold m_owes
      refine st_t (by rw [e]; decide) (st_b ho ?_)
      by_cases q : ow c Q D ((Q + 3) / 4) h ≤ 0
      · have e6 : FVh c D Q W fv h 6 = 0 := if_neg (Int32.not_lt.mpr q)
        rw [e6]
        exact st_t q (st_l (by rw [u2e, up1_eq]))
      · have e6 : FVh c D Q W fv h 6 = ow c Q D ((Q + 3) / 4) h := if_pos (Int32.not_le.mp q)
        rw [e6]
        exact st_f q (st_l (by rw [u2e, up1_eq]))
    · refine ⟨X, go _ ?_, ⟨x0, x1, x2, x3, Or.inr e⟩, XF.r⟩
      unfold m_owes
      refine st_f (by rw [e]; exact FV6) ?_
      rw [e]
theorem m130 {K : Int32 → Int32 → Int32 → Int32 → Int32 → Sg → Option (Int32 × Sg)} {v1 v2 v3 b : Int32} {X : Sg} {t i : Nat} {P : Prop} {nt : Int32} (hi : i < 20360) (hx : X 216 i = nt) (hn : nt = 0 ∨ nt = 1) (hb : b = b01 P) : m_holds_130 K v1 v2 v3 (nn t) (nn i) b X = K v1 v2 v3 (b01 (P ↔ ¬ nt = 1)) (nn (t + 1)) X := by
  unfold m_holds_130 m_holds_150
  rw [nnT (by omega), hx, hb, show nn t + 1 = nn (t + 1) from nnA t 1]
  refine st_t (by simp (disch := first | omega | decide) only [lt1, nnMl, nnMr, nnAl, nnAr, nnA, nnM, nnB, nnT, nnP, nnE, nnEl, nnEr, nnL, nnLl, nnLr, nnQ, nnQr, nnN, Nat.add_zero, if_false, if_true, Option.bind_some, not_true, not_false_iff, not_true_eq_false, not_false_eq_true, eq_self, Nat.not_lt_zero, z10, z01, or_true, true_or, or_false, false_or, true_and, false_and, hi]) ?_
  rcases hn with e | e
  · refine st_t (by rw [e]; decide) ?_
    by_cases hP : P
    · rw [b01_y hP, b01_y ⟨fun _ => by rw [e]; decide, fun _ => hP⟩]
      exact st_f (by decide) rfl
    · rw [b01_n hP, b01_n (fun q => hP (q.mpr (by rw [e]; decide)))]
      exact st_t rfl rfl
  · refine st_f (fun q => q e) ?_
    by_cases hP : P
    · rw [b01_y hP, b01_n (fun q => q.mp hP e)]
      exact st_t rfl rfl
    · rw [b01_n hP, b01_y ⟨fun q => absurd q hP, fun q => absurd e q⟩]
      exact st_f (by decide) rfl
theorem mhL (r : RRig c A D N Q) (hl : RLaw c A T L) (hQ : Q ≤ 9599) (hA3 : A 3 = nn Q) {h W k n : Nat} (hh : h < 8) (hW : W < 100) (hk : k < 16) (hn : n ≤ 4) (hrow : A (4270 + 20 * k) = nn n) {fv : Nat → Int32} (hts : ∀ t, t < n → tTest (c 37 (4 * k + t)) (c 38 (4 * k + t)) (c 39 (4 * k + t)) (c 40 (4 * k + t)) A (4270 + 20 * k + 1 + 4 * t)) {F0 : Nat} (hF0 : 2400 < F0) : ∀ m t F X, t + m = n → m < F → PMx X A (FVh c D Q W fv h) → ∃ X2, m_holds_6 F0 F (nn (4270 + 20 * k)) (nn h) (nn W) (b01 (∀ t2, t2 < t → okTt c (FVh c D Q W fv h) (4 * k + t2))) (nn t) X = some (b01 (∀ t2, t2 < n → okTt c (FVh c D Q W fv h) (4 * k + t2)), X2) ∧ PMx X2 A (FVh c D Q W fv h) ∧ XF X X2 := by
  have ir : 4270 + 20 * k < 20360 := by omega
  intro m
  induction m with
  | zero =>
    intro t F X hm hF hX
    obtain ⟨F, rfl⟩ : ∃ F2, F = F2 + 1 := ⟨F - 1, by omega⟩
    have : t = n := by omega
    subst this
    refine ⟨X, ?_, hX, XF.r⟩
    unfold m_holds_6
    rw [nnT (by omega), hX.1, hrow]
    exact st_t (by simp (disch := first | omega | decide) only [lt1, nnMl, nnMr, nnAl, nnAr, nnA, nnM, nnB, nnT, nnP, nnE, nnEl, nnEr, nnL, nnLl, nnLr, nnQ, nnQr, nnN, Nat.add_zero, if_false, if_true, Option.bind_some, not_true, not_false_iff, not_true_eq_false, not_false_eq_true, eq_self, Nat.not_lt_zero, z10, z01, or_true, true_or, or_false, false_or, true_and, false_and, ir]) (st_t (Int32.le_refl _) (st_t (b01v _) rfl))
  | succ m ih =>
    intro t F X hm hF hX
    obtain ⟨F, rfl⟩ : ∃ F2, F = F2 + 1 := ⟨F - 1, by omega⟩
    have h3 : ¬ n ≤ t := by omega
    by_cases q : ∀ t2, t2 < t → okTt c (FVh c D Q W fv h) (4 * k + t2)
    rotate_left
    · refine ⟨X, ?_, hX, XF.r⟩
      rw [b01_n q, b01_n (fun p => q (fun t2 p2 => p t2 (by omega)))]
      unfold m_holds_6
      rw [nnT (by omega), hX.1, hrow]
      exact st_t (by simp (disch := first | omega | decide) only [lt1, nnMl, nnMr, nnAl, nnAr, nnA, nnM, nnB, nnT, nnP, nnE, nnEl, nnEr, nnL, nnLl, nnLr, nnQ, nnQr, nnN, Nat.add_zero, if_false, if_true, Option.bind_some, not_true, not_false_iff, not_true_eq_false, not_false_eq_true, eq_self, Nat.not_lt_zero, z10, z01, or_true, true_or, or_false, false_or, true_and, false_and, ir]) (st_f (by simp (disch := first | omega | decide) only [lt1, nnMl, nnMr, nnAl, nnAr, nnA, nnM, nnB, nnT, nnP, nnE, nnEl, nnEr, nnL, nnLl, nnLr, nnQ, nnQr, nnN, Nat.add_zero, if_false, if_true, Option.bind_some, not_true, not_false_iff, not_true_eq_false, not_false_eq_true, eq_self, Nat.not_lt_zero, z10, z01, or_true, true_or, or_false, false_or, true_and, false_and, h3]) (st_t rfl (st_t (Or.inl rfl) rfl)))
    obtain ⟨g1, g2, ⟨w, w1, w6, hf, g3⟩, g4, g5⟩ := hts t (by omega)
    obtain ⟨X1, a1, a2, a3⟩ := asked_m r hl hQ hA3 hh hW w1 w6 hX hF0
    have ew : cn c 38 (4 * k + t) - 6 = w := by
      unfold cn
      rw [hf, nnT (by omega)]
      omega
    have ok : okTt c (FVh c D Q W fv h) (4 * k + t) = (isT (FVh c D Q W fv h w) (c 39 (4 * k + t)) (c 40 (4 * k + t)) ↔ ¬ c 37 (4 * k + t) = 1) := by
      unfold okTt
      rw [ew]
    have eb : b01 (∀ t2, t2 < t + 1 → okTt c (FVh c D Q W fv h) (4 * k + t2)) = b01 (isT (FVh c D Q W fv h w) (c 39 (4 * k + t)) (c 40 (4 * k + t)) ↔ ¬ c 37 (4 * k + t) = 1) := by
      rw [← ok]
      by_cases p : okTt c (FVh c D Q W fv h) (4 * k + t)
      · rw [b01_y p, b01_y (fun t2 p2 => by
          by_cases e : t2 = t
          · rw [e]; exact p
          · exact q t2 (by omega))]
      · rw [b01_n p, b01_n (fun p2 => p (p2 t (Nat.lt_succ_self _)))]
    obtain ⟨X2, r1, r2, r3⟩ := ih (t + 1) F X1 (by omega) (by omega) a2
    rw [eb] at r1
    refine ⟨X2, ?_, r2, a3.t r3⟩
    have j0 : 4270 + 20 * k + 1 + 4 * t < 20360 := by omega
    have j1 : 4270 + 20 * k + 1 + 4 * t + 1 < 20360 := by omega
    have j2 : 4270 + 20 * k + 1 + 4 * t + 2 < 20360 := by omega
    have j3 : 4270 + 20 * k + 1 + 4 * t + 3 < 20360 := by omega
    have y0 : nn (4270 + 20 * k) + 1 + 4 * nn t = nn (4270 + 20 * k + 1 + 4 * t) := by simp (disch := first | omega | decide) only [lt1, nnMl, nnMr, nnAl, nnAr, nnA, nnM, nnB, nnT, nnP, nnE, nnEl, nnEr, nnL, nnLl, nnLr, nnQ, nnQr, nnN, Nat.add_zero, if_false, if_true, Option.bind_some, not_true, not_false_iff, not_true_eq_false, not_false_eq_true, eq_self, Nat.not_lt_zero, z10, z01, or_true, true_or, or_false, false_or, true_and, false_and]
    have y1 : nn (4270 + 20 * k + 1 + 4 * t) + 1 = nn (4270 + 20 * k + 1 + 4 * t + 1) := nnA _ 1
    have y2 : nn (4270 + 20 * k + 1 + 4 * t) + 2 = nn (4270 + 20 * k + 1 + 4 * t + 2) := nnA _ 2
    have y3 : nn (4270 + 20 * k + 1 + 4 * t) + 3 = nn (4270 + 20 * k + 1 + 4 * t + 3) := nnA _ 3
    have m13 : ∀ (b : Int32), b = b01 (isT (FVh c D Q W fv h w) (c 39 (4 * k + t)) (c 40 (4 * k + t))) → m_holds_130 (fun v1 v2 v3 v4 v5 g0 => m_holds_6 F0 F v1 v2 v3 v4 v5 g0) (nn (4270 + 20 * k)) (nn h) (nn W) (nn t) (nn (4270 + 20 * k + 1 + 4 * t)) b X1 = some (b01 (∀ t2, t2 < n → okTt c (FVh c D Q W fv h) (4 * k + t2)), X2) := fun b hb => (m130 j0 (by rw [a2.1]; exact g2) g1 hb).trans r1
    rw [b01_y q]
    unfold m_holds_6
    rw [nnT (show 4270 + 20 * k < 2147483648 by omega), hX.1, hrow, y0]
    refine st_t (by simp (disch := first | omega | decide) only [lt1, nnMl, nnMr, nnAl, nnAr, nnA, nnM, nnB, nnT, nnP, nnE, nnEl, nnEr, nnL, nnLl, nnLr, nnQ, nnQr, nnN, Nat.add_zero, if_false, if_true, Option.bind_some, not_true, not_false_iff, not_true_eq_false, not_false_eq_true, eq_self, Nat.not_lt_zero, z10, z01, or_true, true_or, or_false, false_or, true_and, false_and, ir]) (st_f (by simp (disch := first | omega | decide) only [lt1, nnMl, nnMr, nnAl, nnAr, nnA, nnM, nnB, nnT, nnP, nnE, nnEl, nnEr, nnL, nnLl, nnLr, nnQ, nnQr, nnN, Nat.add_zero, if_false, if_true, Option.bind_some, not_true, not_false_iff, not_true_eq_false, not_false_eq_true, eq_self, Nat.not_lt_zero, z10, z01, or_true, true_or, or_false, false_or, true_and, false_and, h3]) (st_f (by decide) (st_l ?_)))
    rw [y1, y2, y3, nnT (show 4270 + 20 * k + 1 + 4 * t + 1 < 2147483648 by omega), nnT (show 4270 + 20 * k + 1 + 4 * t + 2 < 2147483648 by omega), nnT (show 4270 + 20 * k + 1 + 4 * t + 3 < 2147483648 by omega), g3]
    refine st_t (by simp (disch := first | omega | decide) only [lt1, nnMl, nnMr, nnAl, nnAr, nnA, nnM, nnB, nnT, nnP, nnE, nnEl, nnEr, nnL, nnLl, nnLr, nnQ, nnQr, nnN, Nat.add_zero, if_false, if_true, Option.bind_some, not_true, not_false_iff, not_true_eq_false, not_false_eq_true, eq_self, Nat.not_lt_zero, z10, z01, or_true, true_or, or_false, false_or, true_and, false_and, j1]) (st_b a1 ?_)
    show (if inb (nn (4270 + 20 * k + 1 + 4 * t + 3)) 20360 = true then lt1 (X1 216 (4270 + 20 * k + 1 + 4 * t + 3)) _ else none) = _
    rw [a2.1, g5]
    refine st_w (by simp (disch := first | omega | decide) only [lt1, nnMl, nnMr, nnAl, nnAr, nnA, nnM, nnB, nnT, nnP, nnE, nnEl, nnEr, nnL, nnLl, nnLr, nnQ, nnQr, nnN, Nat.add_zero, if_false, if_true, Option.bind_some, not_true, not_false_iff, not_true_eq_false, not_false_eq_true, eq_self, Nat.not_lt_zero, z10, z01, or_true, true_or, or_false, false_or, true_and, false_and, j3]) (st_t (by simp (disch := first | omega | decide) only [lt1, nnMl, nnMr, nnAl, nnAr, nnA, nnM, nnB, nnT, nnP, nnE, nnEl, nnEr, nnL, nnLl, nnLr, nnQ, nnQr, nnN, Nat.add_zero, if_false, if_true, Option.bind_some, not_true, not_false_iff, not_true_eq_false, not_false_eq_true, eq_self, Nat.not_lt_zero, z10, z01, or_true, true_or, or_false, false_or, true_and, false_and, j2]) ?_)
    unfold tSign at g4
    rcases g4 with ⟨e, e2⟩ | ⟨e, e2⟩ | ⟨e, e2⟩
    · rw [e2]
      refine st_f (by decide) ?_
      rw [e] at m13
      by_cases p : c 40 (4 * k + t) ≤ FVh c D Q W fv h w
      · exact st_t p (m13 0 (b01_n (fun z => absurd (isT_15.mp z) (Int32.not_lt.mpr p))).symm)
      · exact st_f p (m13 1 (b01_y (isT_15.mpr (Int32.not_le.mp p))).symm)
    · rw [e2]
      refine st_t (by decide) (st_t (by simp (disch := first | omega | decide) only [lt1, nnMl, nnMr, nnAl, nnAr, nnA, nnM, nnB, nnT, nnP, nnE, nnEl, nnEr, nnL, nnLl, nnLr, nnQ, nnQr, nnN, Nat.add_zero, if_false, if_true, Option.bind_some, not_true, not_false_iff, not_true_eq_false, not_false_eq_true, eq_self, Nat.not_lt_zero, z10, z01, or_true, true_or, or_false, false_or, true_and, false_and, j2]) (st_f (by decide) ?_))
      rw [e] at m13
      by_cases p : FVh c D Q W fv h w ≤ c 40 (4 * k + t)
      · exact st_t p (m13 0 (b01_n (fun z => absurd (isT_16.mp z) (Int32.not_lt.mpr p))).symm)
      · exact st_f p (m13 1 (b01_y (isT_16.mpr (Int32.not_le.mp p))).symm)
    · rw [e2]
      refine st_t (by decide) (st_t (by simp (disch := first | omega | decide) only [lt1, nnMl, nnMr, nnAl, nnAr, nnA, nnM, nnB, nnT, nnP, nnE, nnEl, nnEr, nnL, nnLl, nnLr, nnQ, nnQr, nnN, Nat.add_zero, if_false, if_true, Option.bind_some, not_true, not_false_iff, not_true_eq_false, not_false_eq_true, eq_self, Nat.not_lt_zero, z10, z01, or_true, true_or, or_false, false_or, true_and, false_and, j2]) (st_t (by decide) ?_))
      rw [e] at m13
      by_cases p : FVh c D Q W fv h w = c 40 (4 * k + t)
      · exact st_f (fun z => z p) (m13 1 (b01_y (isT_17.mpr p)).symm)
      · exact st_t p (m13 0 (b01_n (fun z => p (isT_17.mp z))).symm)
theorem holds_m (r : RRig c A D N Q) (hl : RLaw c A T L) (hQ : Q ≤ 9599) (hA3 : A 3 = nn Q) {h W k : Nat} (hh : h < 8) (hW : W < 100) (hk : k < L) {fv : Nat → Int32} {X : Sg} (hX : PMx X A (FVh c D Q W fv h)) {F : Nat} (hF : 2400 < F) : ∃ X2, m_holds F (nn (4270 + 20 * k)) (nn h) (nn W) X = some (b01 (lineOk c (FVh c D Q W fv h) k), X2) ∧ PMx X2 A (FVh c D Q W fv h) ∧ XF X X2 := by
  have hL := hl.hL
  obtain ⟨⟨n, n4, h36, hrow, hts⟩, _⟩ := hl.ln k hk
  obtain ⟨X2, r1, r2, r3⟩ := mhL r hl hQ hA3 hh hW (show k < 16 by omega) n4 hrow hts hF n 0 F X (by omega) (by omega) hX
  refine ⟨X2, ?_, r2, r3⟩
  have e0 : b01 (∀ t2, t2 < 0 → okTt c (FVh c D Q W fv h) (4 * k + t2)) = 1 := b01_y (fun t2 p => absurd p (by omega))
  have ec : cn c 36 k = n := by unfold cn; rw [h36, nnT (by omega)]
  have e1 : lineOk c (FVh c D Q W fv h) k = ∀ t2, t2 < n → okTt c (FVh c D Q W fv h) (4 * k + t2) := by
    unfold lineOk
    rw [ec]
  rw [e0] at r1
  rw [e1]
  exact r1
theorem wghL (r : RRig c A D N Q) (hl : RLaw c A T L) (hQ : Q ≤ 9599) (hA3 : A 3 = nn Q) {h W : Nat} (hh : h < 8) (hW : W < 100) {fv : Nat → Int32} {F0 : Nat} (hF0 : 2400 < F0) : ∀ m k F X, k + m = L → m < F → PMx X A (FVh c D Q W fv h) → ∃ X2, m_weighs_18 F0 F (nn h) (nn W) (nn k) X = some X2 ∧ PMx X2 A (FVh c D Q W fv h) ∧ X2 215 18 = (jg c (FVh c D Q W fv h) m k (X 215 18) (X 215 19)).1 ∧ X2 215 19 = (jg c (FVh c D Q W fv h) m k (X 215 18) (X 215 19)).2 ∧ ∀ i, i ≠ 215 → X2 i = X i := by
  have hL := hl.hL
  intro m
  induction m with
  | zero =>
    intro k F X hk hF hX
    obtain ⟨F, rfl⟩ : ∃ F2, F = F2 + 1 := ⟨F - 1, by omega⟩
    have : k = L := by omega
    subst this
    refine ⟨X, ?_, hX, rfl, rfl, fun _ _ => rfl⟩
    unfold m_weighs_18
    rw [hX.1, hl.aL]
    exact if_pos (Int32.le_refl _)
  | succ m ih =>
    intro k F X hk hF hX
    obtain ⟨F, rfl⟩ : ∃ F2, F = F2 + 1 := ⟨F - 1, by omega⟩
    have h3 : ¬ L ≤ k := by omega
    have hkL : k < L := by omega
    have i17 : 4270 + 20 * k + 17 < 20360 := by omega
    have i18 : 4270 + 20 * k + 18 < 20360 := by omega
    have y0 : (4270 + 20 * nn k : Int32) = nn (4270 + 20 * k) := by simp (disch := first | omega | decide) only [lt1, nnMl, nnMr, nnAl, nnAr, nnA, nnM, nnB, nnT, nnP, nnE, nnEl, nnEr, nnL, nnLl, nnLr, nnQ, nnQr, nnN, Nat.add_zero, if_false, if_true, Option.bind_some, not_true, not_false_iff, not_true_eq_false, not_false_eq_true, eq_self, Nat.not_lt_zero, z10, z01, or_true, true_or, or_false, false_or, true_and, false_and]
    have y17 : nn (4270 + 20 * k) + 17 = nn (4270 + 20 * k + 17) := nnA _ 17
    have y18 : nn (4270 + 20 * k) + 18 = nn (4270 + 20 * k + 18) := nnA _ 18
    obtain ⟨_, hact, h35, _⟩ := hl.ln k hkL
    obtain ⟨X1, a1, a2, a3⟩ := holds_m r hl hQ hA3 hh hW hkL hX hF0
    have hl1 : inb (nn (4270 + 20 * k + 17)) 20360 = true := by simp (disch := first | omega | decide) only [lt1, nnMl, nnMr, nnAl, nnAr, nnA, nnM, nnB, nnT, nnP, nnE, nnEl, nnEr, nnL, nnLl, nnLr, nnQ, nnQr, nnN, Nat.add_zero, if_false, if_true, Option.bind_some, not_true, not_false_iff, not_true_eq_false, not_false_eq_true, eq_self, Nat.not_lt_zero, z10, z01, or_true, true_or, or_false, false_or, true_and, false_and, i17]
    have hl2 : inb (nn (4270 + 20 * k + 18)) 20360 = true := by simp (disch := first | omega | decide) only [lt1, nnMl, nnMr, nnAl, nnAr, nnA, nnM, nnB, nnT, nnP, nnE, nnEl, nnEr, nnL, nnLl, nnLr, nnQ, nnQr, nnN, Nat.add_zero, if_false, if_true, Option.bind_some, not_true, not_false_iff, not_true_eq_false, not_false_eq_true, eq_self, Nat.not_lt_zero, z10, z01, or_true, true_or, or_false, false_or, true_and, false_and, i18]
    have pmw : ∀ (j : Nat) (v : Int32) (Y : Sg), (j = 18 ∨ j = 19) → PMx Y A (FVh c D Q W fv h) → PMx (up2 Y 215 j v) A (FVh c D Q W fv h) := fun j v Y hj ⟨x0, x1, x2, x3, x4⟩ => ⟨by rw [u2n (by decide)]; exact x0, by rw [u2e, up1_ne (by omega)]; exact x1, by rw [u2e, up1_ne (by omega)]; exact x2, by rw [u2e, up1_ne (by omega)]; exact x3, by rw [u2e, up1_ne (by omega)]; exact x4⟩
    have e18 : X1 215 18 = X 215 18 := a3.2 18 (by decide)
    have e19 : X1 215 19 = X 215 19 := a3.2 19 (by decide)
    by_cases q : lineOk c (FVh c D Q W fv h) k
    rotate_left
    · obtain ⟨X2, r1, r2, r3, r4, r5⟩ := ih (k + 1) F X1 (by omega) (by omega) a2
      rw [e18, e19] at r3 r4
      refine ⟨X2, ?_, r2, ?_, ?_, fun i e => (r5 i e).trans (a3.1 i e)⟩
      · unfold m_weighs_18
        rw [hX.1, hl.aL, y0, show nn k + 1 = nn (k + 1) from nnA k 1]
        exact st_f (by simp (disch := first | omega | decide) only [lt1, nnMl, nnMr, nnAl, nnAr, nnA, nnM, nnB, nnT, nnP, nnE, nnEl, nnEr, nnL, nnLl, nnLr, nnQ, nnQr, nnN, Nat.add_zero, if_false, if_true, Option.bind_some, not_true, not_false_iff, not_true_eq_false, not_false_eq_true, eq_self, Nat.not_lt_zero, z10, z01, or_true, true_or, or_false, false_or, true_and, false_and, h3]) (st_l (st_b a1 (st_f (by rw [b01_n q]; exact fun p => p rfl) r1)))
      · rw [jg_n q]; exact r3
      · rw [jg_n q]; exact r4
    have pre : ∀ rr, (if ¬ A (4270 + 20 * k + 17) = 20 then (m_weighs_86 (fun v1 v2 v3 g0 => m_weighs_18 F0 F v1 v2 v3 g0) (nn h) (nn W) (nn k) (nn (4270 + 20 * k)) X1) else (m_weighs_86 (fun v1 v2 v3 g0 => m_weighs_18 F0 F v1 v2 v3 g0) (nn h) (nn W) (nn k) (nn (4270 + 20 * k)) (up2 X1 215 18 (X1 215 18 + A (4270 + 20 * k + 18))))) = rr → m_weighs_18 F0 (F + 1) (nn h) (nn W) (nn k) X = rr := fun rr hr => by
      unfold m_weighs_18
      rw [hX.1, hl.aL, y0]
      refine st_f (by simp (disch := first | omega | decide) only [lt1, nnMl, nnMr, nnAl, nnAr, nnA, nnM, nnB, nnT, nnP, nnE, nnEl, nnEr, nnL, nnLl, nnLr, nnQ, nnQr, nnN, Nat.add_zero, if_false, if_true, Option.bind_some, not_true, not_false_iff, not_true_eq_false, not_false_eq_true, eq_self, Nat.not_lt_zero, z10, z01, or_true, true_or, or_false, false_or, true_and, false_and, h3]) (st_l (st_b a1 (st_t (by rw [b01_y q]; decide) ?_)))
      rw [y17, y18, nnT (show 4270 + 20 * k + 17 < 2147483648 by omega), nnT (show 4270 + 20 * k + 18 < 2147483648 by omega), a2.1, ← hr]
      by_cases p : A (4270 + 20 * k + 17) = 20
      · refine Eq.trans ?_ (if_neg (fun z => z p)).symm
        exact st_t hl1 (st_f (fun z => z p) (st_w hl2 rfl))
      · refine Eq.trans ?_ (if_pos p).symm
        exact st_t hl1 (st_t p rfl)
    have m86 : ∀ (Y : Sg) (rr : Option Sg), Y 216 = A → ((¬ A (4270 + 20 * k + 17) = 21 ∧ ¬ A (4270 + 20 * k + 17) = 22 ∧ m_weighs_18 F0 F (nn h) (nn W) (nn (k + 1)) Y = rr) ∨ (A (4270 + 20 * k + 17) = 21 ∧ m_weighs_18 F0 F (nn h) (nn W) (nn (k + 1)) (up2 Y 215 19 (A (4270 + 20 * k + 18))) = rr) ∨ (A (4270 + 20 * k + 17) = 22 ∧ some (up2 Y 215 18 0) = rr)) → m_weighs_86 (fun v1 v2 v3 g0 => m_weighs_18 F0 F v1 v2 v3 g0) (nn h) (nn W) (nn k) (nn (4270 + 20 * k)) Y = rr := fun Y rr hY hc => by
      unfold m_weighs_86 m_weighs_115
      rw [y17, y18, nnT (show 4270 + 20 * k + 17 < 2147483648 by omega), nnT (show 4270 + 20 * k + 18 < 2147483648 by omega), hY, show nn k + 1 = nn (k + 1) from nnA k 1]
      refine st_t hl1 ?_
      rcases hc with ⟨p1, p2, p3⟩ | ⟨p1, p3⟩ | ⟨p1, p3⟩
      · exact st_t p1 (st_t hl1 (st_f p2 p3))
      · refine st_f (fun z => z p1) (st_w hl2 (st_t hl1 (st_f ?_ p3)))
        rw [u2n (show 216 ≠ 215 by decide), hY, p1]
        decide
      · exact st_t (by rw [p1]; decide) (st_t hl1 (st_t p1 p3))
    rcases hact with ⟨e4, e20⟩ | ⟨e4, e20⟩ | ⟨e4, e20⟩
    · obtain ⟨X2, r1, r2, r3, r4, r5⟩ := ih (k + 1) F (up2 X1 215 18 (X1 215 18 + A (4270 + 20 * k + 18))) (by omega) (by omega) (pmw 18 _ _ (Or.inl rfl) a2)
      rw [u2e, up1_eq, up1_ne (by decide), h35, e18, e19] at r3 r4
      refine ⟨X2, pre _ ((if_neg (fun z => z e20)).trans (m86 _ _ (by rw [u2n (by decide)]; exact a2.1) (Or.inl ⟨by rw [e20]; decide, by rw [e20]; decide, r1⟩))), r2, ?_, ?_, fun i e => (r5 i e).trans ((u2n e).trans (a3.1 i e))⟩
      · rw [jg_4 q e4]; exact r3
      · rw [jg_4 q e4]; exact r4
    · obtain ⟨X2, r1, r2, r3, r4, r5⟩ := ih (k + 1) F (up2 X1 215 19 (A (4270 + 20 * k + 18))) (by omega) (by omega) (pmw 19 _ _ (Or.inr rfl) a2)
      rw [u2e, up1_eq, up1_ne (by decide), h35, e18] at r3 r4
      refine ⟨X2, pre _ ((if_pos (by rw [e20]; decide)).trans (m86 _ _ a2.1 (Or.inr (Or.inl ⟨e20, r1⟩)))), r2, ?_, ?_, fun i e => (r5 i e).trans ((u2n e).trans (a3.1 i e))⟩
      · rw [jg_5 q e4]; exact r3
      · rw [jg_5 q e4]; exact r4
    · refine ⟨up2 X1 215 18 0, pre _ ((if_pos (by rw [e20]; decide)).trans (m86 _ _ a2.1 (Or.inr (Or.inr ⟨e20, rfl⟩)))), pmw 18 _ _ (Or.inl rfl) a2, ?_, ?_, fun i e => (u2n e).trans (a3.1 i e)⟩
      · rw [jg_6 q e4, u2e, up1_eq]
      · rw [jg_6 q e4, u2e, up1_ne (by decide)]; exact e19
theorem cntsL {M : Sg} (hM : RNet c (M 216) N C Q) (r : RRig c (M 216) D N Q) {h W : Nat} (hh : h < 8) (hW : W < 100) {fv : Int32} (hfv : farP c N C Q h fv) {F0 : Nat} (hF0 : 200 < F0) : ∀ m x F p, x + m = 168 → m < F → p 14 = sumTo (fun i => hrI (fun i => ownS c (nn i) (nn W) (nn (Q / 96)) D) i h) x → p 15 = sumTo (fun i => niI (fun i => ownS c (nn i) (nn W) (nn (Q / 96)) D) i h) x → ∃ M2, m_counts_12 F0 F (nn h) (nn W) (nn x) (sc M 215 p) = some M2 ∧ M2 215 14 = hrs c D Q W h ∧ M2 215 15 = ngt c D Q W h ∧ M2 215 16 = fv ∧ M2 215 17 = -1 ∧ ∀ i, i ≠ 215 → i ≠ 218 → M2 i = M i := by
  have hQ := hM.hQ
  intro m
  induction m with
  | zero =>
    intro x F p hx hF h14 h15
    obtain ⟨F, rfl⟩ : ∃ F2, F = F2 + 1 := ⟨F - 1, by omega⟩
    have : x = 168 := by omega
    subst this
    have i3 : 30 + h < 20360 := by omega
    have e3 : (30 + nn h : Int32) = nn (30 + h) := by simp (disch := first | omega | decide) only [lt1, nnMl, nnMr, nnAl, nnAr, nnA, nnM, nnB, nnT, nnP, nnE, nnEl, nnEr, nnL, nnLl, nnLr, nnQ, nnQr, nnN, Nat.add_zero, if_false, if_true, Option.bind_some, not_true, not_false_iff, not_true_eq_false, not_false_eq_true, eq_self, Nat.not_lt_zero, z10, z01, or_true, true_or, or_false, false_or, true_and, false_and]
    have e216 : (sc M 215 p) 216 = M 216 := sc_n (by decide)
    have pre : ∀ rr, (if c 23 h < 0 then some (up2 (up2 (sc M 215 p) 215 16 999) 215 17 (-1)) else Option.bind (m_leads F0 0 (c 23 h) (sc M 215 p)) (fun (x4, g5) => (if x4 = 0 then lt1 (up2 g5 215 16 999) (fun g6 => lt1 (up2 g6 215 17 (-1)) (fun g7 => (some g7))) else lt1 (up2 g5 215 16 ((g5 218 0) / 100)) (fun g8 => lt1 (up2 g8 215 17 (-1)) (fun g9 => (some g9)))))) = rr → m_counts_12 F0 (F + 1) (nn h) (nn W) (nn 168) (sc M 215 p) = rr := fun rr hr => by
      unfold m_counts_12
      rw [e3, nnT (by omega), e216, r.home h hh]
      refine st_t (by decide) (st_w (by simp (disch := first | omega | decide) only [lt1, nnMl, nnMr, nnAl, nnAr, nnA, nnM, nnB, nnT, nnP, nnE, nnEl, nnEr, nnL, nnLl, nnLr, nnQ, nnQr, nnN, Nat.add_zero, if_false, if_true, Option.bind_some, not_true, not_false_iff, not_true_eq_false, not_false_eq_true, eq_self, Nat.not_lt_zero, z10, z01, or_true, true_or, or_false, false_or, true_and, false_and, i3]) ?_)
      rw [← hr]
      by_cases q : c 23 h < 0
      · refine Eq.trans ?_ (if_pos q).symm
        exact st_t q (st_l (st_l rfl))
      · refine Eq.trans ?_ (if_neg q).symm
        exact st_f q rfl
    have fin : ∀ (Y : Sg) (v : Int32), (∀ i, i ≠ 218 → Y i = (sc M 215 p) i) → v = fv → ((up2 (up2 Y 215 16 v) 215 17 (-1)) 215 14 = hrs c D Q W h ∧ (up2 (up2 Y 215 16 v) 215 17 (-1)) 215 15 = ngt c D Q W h ∧ (up2 (up2 Y 215 16 v) 215 17 (-1)) 215 16 = fv ∧ (up2 (up2 Y 215 16 v) 215 17 (-1)) 215 17 = -1 ∧ ∀ i, i ≠ 215 → i ≠ 218 → (up2 (up2 Y 215 16 v) 215 17 (-1)) i = M i) := fun Y v hY hv => by
      refine ⟨?_, ?_, ?_, ?_, fun i e1 e2 => ?_⟩
      · rw [u2e, up1_ne (by decide), u2e, up1_ne (by decide), hY 215 (by decide), sc_e, h14]; rfl
      · rw [u2e, up1_ne (by decide), u2e, up1_ne (by decide), hY 215 (by decide), sc_e, h15]; rfl
      · rw [u2e, up1_ne (by decide), u2e, up1_eq, hv]
      · rw [u2e, up1_eq]
      · rw [u2n e1, u2n e1, hY i e2, sc_n e1]
    rcases hfv.2 (sc M 215 p) F0 (by omega) (by rw [e216]; exact hM) with ⟨q1, q2⟩ | ⟨q1, rr, M2, q2, q3, q4⟩
    · exact ⟨_, pre _ (if_pos q1), fin _ 999 (fun _ _ => rfl) q2.symm⟩
    · rcases q4 with ⟨e1, e2⟩ | ⟨e1, e2⟩
      · exact ⟨_, pre _ ((if_neg q1).trans (st_b q2 (st_t e1 (st_l (st_l rfl))))), fin M2 999 q3 e2.symm⟩
      · exact ⟨_, pre _ ((if_neg q1).trans (st_b q2 (st_f (by rw [e1]; decide) (st_l (st_l rfl))))), fin M2 _ q3 e2⟩
  | succ m ih =>
    intro x F p hx hF h14 h15
    obtain ⟨F, rfl⟩ : ∃ F2, F = F2 + 1 := ⟨F - 1, by omega⟩
    have h2 : ¬ 168 ≤ x := by omega
    have e216 : (sc M 215 p) 216 = M 216 := sc_n (by decide)
    have em : nn x - nn x / 24 * 24 = nn (x % 24) := by
      have e : nn x / 24 * 24 = nn (x / 24 * 24) := by simp (disch := first | omega | decide) only [lt1, nnMl, nnMr, nnAl, nnAr, nnA, nnM, nnB, nnT, nnP, nnE, nnEl, nnEr, nnL, nnLl, nnLr, nnQ, nnQr, nnN, Nat.add_zero, if_false, if_true, Option.bind_some, not_true, not_false_iff, not_true_eq_false, not_false_eq_true, eq_self, Nat.not_lt_zero, z10, z01, or_true, true_or, or_false, false_or, true_and, false_and, nnDr]
      rw [e, nnS (a := x) (b := x / 24 * 24) (by omega), show x - x / 24 * 24 = x % 24 by omega]
    have ot : m_today (sc M 215 p) = some (nn (Q / 96)) := today_m (by rw [e216]; exact hM.aQ) hQ
    have om : m_owns F0 (nn x) (nn W) (nn (Q / 96)) (sc M 215 p) = some (ownS c (nn x) (nn W) (nn (Q / 96)) D) := own_m (by rw [e216]; exact r) hQ (nnE0 (by omega)) (by omega)
    by_cases e : ownS c (nn x) (nn W) (nn (Q / 96)) D = nn h
    · obtain ⟨M2, r1, r2⟩ := ih (x + 1) F (up1 (up1 p 14 (p 14 + 1)) 15 (p 15 + ntI x)) (by omega) (by omega) (by
        rw [up1_ne (by decide), up1_eq, h14]
        show _ = sumTo _ x + (if ownS c (nn x) (nn W) (nn (Q / 96)) D = nn h then 1 else 0)
        rw [if_pos e]) (by
        rw [up1_eq, h15]
        show _ = sumTo _ x + (if ownS c (nn x) (nn W) (nn (Q / 96)) D = nn h then ntI x else 0)
        rw [if_pos e])
      refine ⟨M2, ?_, r2⟩
      unfold m_counts_12
      rw [em, show nn x + 1 = nn (x + 1) from nnA x 1]
      refine st_f (by simp (disch := first | omega | decide) only [lt1, nnMl, nnMr, nnAl, nnAr, nnA, nnM, nnB, nnT, nnP, nnE, nnEl, nnEr, nnL, nnLl, nnLr, nnQ, nnQr, nnN, Nat.add_zero, if_false, if_true, Option.bind_some, not_true, not_false_iff, not_true_eq_false, not_false_eq_true, eq_self, Nat.not_lt_zero, z10, z01, or_true, true_or, or_false, false_or, true_and, false_and, h2]) (st_b ot (st_b om (st_t e (st_l ?_))))
      rw [sc_e, sc_u, sc_e, up1_ne (show 15 ≠ 14 by decide), sc_u, sc_u]
      unfold ntI at r1
      by_cases q1 : x % 24 < 6
      · rw [if_pos q1] at r1
        exact st_t (by simp (disch := first | omega | decide) only [lt1, nnMl, nnMr, nnAl, nnAr, nnA, nnM, nnB, nnT, nnP, nnE, nnEl, nnEr, nnL, nnLl, nnLr, nnQ, nnQr, nnN, Nat.add_zero, if_false, if_true, Option.bind_some, not_true, not_false_iff, not_true_eq_false, not_false_eq_true, eq_self, Nat.not_lt_zero, z10, z01, or_true, true_or, or_false, false_or, true_and, false_and, q1]) (st_l r1)
      · rw [if_neg q1] at r1
        by_cases q2 : x % 24 < 18
        · rw [if_pos q2] at r1
          exact st_f (by simp (disch := first | omega | decide) only [lt1, nnMl, nnMr, nnAl, nnAr, nnA, nnM, nnB, nnT, nnP, nnE, nnEl, nnEr, nnL, nnLl, nnLr, nnQ, nnQr, nnN, Nat.add_zero, if_false, if_true, Option.bind_some, not_true, not_false_iff, not_true_eq_false, not_false_eq_true, eq_self, Nat.not_lt_zero, z10, z01, or_true, true_or, or_false, false_or, true_and, false_and, q1]) (st_t (by simp (disch := first | omega | decide) only [lt1, nnMl, nnMr, nnAl, nnAr, nnA, nnM, nnB, nnT, nnP, nnE, nnEl, nnEr, nnL, nnLl, nnLr, nnQ, nnQr, nnN, Nat.add_zero, if_false, if_true, Option.bind_some, not_true, not_false_iff, not_true_eq_false, not_false_eq_true, eq_self, Nat.not_lt_zero, z10, z01, or_true, true_or, or_false, false_or, true_and, false_and, q2]) (st_l r1))
        · rw [if_neg q2] at r1
          exact st_f (by simp (disch := first | omega | decide) only [lt1, nnMl, nnMr, nnAl, nnAr, nnA, nnM, nnB, nnT, nnP, nnE, nnEl, nnEr, nnL, nnLl, nnLr, nnQ, nnQr, nnN, Nat.add_zero, if_false, if_true, Option.bind_some, not_true, not_false_iff, not_true_eq_false, not_false_eq_true, eq_self, Nat.not_lt_zero, z10, z01, or_true, true_or, or_false, false_or, true_and, false_and, q1]) (st_f (by simp (disch := first | omega | decide) only [lt1, nnMl, nnMr, nnAl, nnAr, nnA, nnM, nnB, nnT, nnP, nnE, nnEl, nnEr, nnL, nnLl, nnLr, nnQ, nnQr, nnN, Nat.add_zero, if_false, if_true, Option.bind_some, not_true, not_false_iff, not_true_eq_false, not_false_eq_true, eq_self, Nat.not_lt_zero, z10, z01, or_true, true_or, or_false, false_or, true_and, false_and, q2]) (st_l r1))
    · obtain ⟨M2, r1, r2⟩ := ih (x + 1) F p (by omega) (by omega) (by
        rw [h14]
        show _ = sumTo _ x + (if ownS c (nn x) (nn W) (nn (Q / 96)) D = nn h then 1 else 0)
        rw [if_neg e, Int32.add_zero]) (by
        rw [h15]
        show _ = sumTo _ x + (if ownS c (nn x) (nn W) (nn (Q / 96)) D = nn h then ntI x else 0)
        rw [if_neg e, Int32.add_zero])
      refine ⟨M2, ?_, r2⟩
      unfold m_counts_12
      rw [show nn x + 1 = nn (x + 1) from nnA x 1]
      exact st_f (by simp (disch := first | omega | decide) only [lt1, nnMl, nnMr, nnAl, nnAr, nnA, nnM, nnB, nnT, nnP, nnE, nnEl, nnEr, nnL, nnLl, nnLr, nnQ, nnQr, nnN, Nat.add_zero, if_false, if_true, Option.bind_some, not_true, not_false_iff, not_true_eq_false, not_false_eq_true, eq_self, Nat.not_lt_zero, z10, z01, or_true, true_or, or_false, false_or, true_and, false_and, h2]) (st_b ot (st_b om (st_f e r1)))
theorem weighs_m {M : Sg} (hM : RNet c (M 216) N C Q) (r : RRig c (M 216) D N Q) (hl : RLaw c (M 216) T L) {h W : Nat} (hh : h < 8) (hW : W < 100) {fv : Nat → Int32} (hfv : farP c N C Q h (fv h)) {F : Nat} (hF : 2400 < F) : ∃ M2, m_weighs F (nn h) (nn W) M = some M2 ∧ M2 215 14 = hrs c D Q W h ∧ M2 215 15 = ngt c D Q W h ∧ M2 215 16 = fv h ∧ M2 215 18 = (jg c (FVh c D Q W fv h) L 0 0 0).1 ∧ M2 215 19 = (jg c (FVh c D Q W fv h) L 0 0 0).2 ∧ ∀ i, i ≠ 215 → i ≠ 218 → M2 i = M i := by
  have hL := hl.hL
  obtain ⟨M1, c1, c2, c3, c4, c5, c6⟩ := cntsL hM r hh hW hfv (F0 := F) (by omega) 168 0 F (up1 (up1 (M 215) 14 0) 15 0) (by omega) (by omega) (by rw [up1_ne (by decide), up1_eq]; rfl) (by rw [up1_eq]; rfl)
  have e215 : sc M 215 (up1 (up1 (M 215) 14 0) 15 0) = up2 (up2 M 215 14 0) 215 15 0 := by
    have := sc_u (g := M) (a := 215) (i := 14) (f := M 215) (v := 0)
    rw [sc_s] at this
    rw [this, sc_u]
  rw [e215] at c1
  have hPM : PMx (up2 (up2 M1 215 18 0) 215 19 0) (M 216) (FVh c D Q W fv h) := by
    refine ⟨?_, ?_, ?_, ?_, Or.inl ?_⟩
    · rw [u2n (by decide), u2n (by decide)]; exact c6 216 (by decide) (by decide)
    · rw [u2e, up1_ne (by decide), u2e, up1_ne (by decide)]; exact c2
    · rw [u2e, up1_ne (by decide), u2e, up1_ne (by decide)]; exact c3
    · rw [u2e, up1_ne (by decide), u2e, up1_ne (by decide)]; exact c4
    · rw [u2e, up1_ne (by decide), u2e, up1_ne (by decide)]; exact c5
  obtain ⟨X2, r1, r2, r3, r4, r5⟩ := wghL r hl hM.hQ hM.aQ hh hW (fv := fv) (F0 := F) hF L 0 F _ (by omega) (by omega) hPM
  rw [show (up2 (up2 M1 215 18 0) 215 19 0) 215 18 = 0 by rw [u2e, up1_ne (by decide), u2e, up1_eq], show (up2 (up2 M1 215 18 0) 215 19 0) 215 19 = 0 by rw [u2e, up1_eq]] at r3 r4
  refine ⟨X2, ?_, r2.2.1, r2.2.2.1, r2.2.2.2.1, r3, r4, fun i e1 e2 => ?_⟩
  · unfold m_weighs m_counts
    exact st_b (x := M1) (st_l (st_l c1)) (st_l (st_l r1))
  · rw [r5 i e1, u2n e1, u2n e1]
    exact c6 i e1 e2
end WP
section SV
theorem sim_holder {TS : Sg → Prop} (hT : TSf TS) : Sim_holder (RR TS) := by
  intro v1 v2 v3 g hR
  obtain ⟨N, C, Q, D, T, L, G, h⟩ := hR.now
  have hQ := h.net.hQ
  rcases chk v1 7 7 rfl (by decide) with ⟨n, hn, rfl, x1, m1⟩ | ⟨x1, m1⟩
  rotate_left
  · refine ⟨0, 0, -1, g, g, ?_, ?_, hR⟩
    · unfold x_holder
      exact st_b (holder_of (Or.inl rfl) x1) (st_t rfl rfl)
    · unfold m_holder
      exact st_b (m1 g) (st_t rfl rfl)
  rcases chk v2 99 99 rfl (by decide) with ⟨W, hW, rfl, x2, m2⟩ | ⟨x2, m2⟩
  rotate_left
  · refine ⟨0, 0, -1, g, g, ?_, ?_, hR⟩
    · unfold x_holder
      exact st_b (holder_of (Or.inr rfl) x1) (st_f (by decide) (st_b (week_of (Or.inl rfl) x2) (st_t rfl rfl)))
    · unfold m_holder
      exact st_b (m1 g) (st_f (by decide) (st_b (m2 g) (st_f (by decide) rfl)))
  have hn8 : n < 8 := by omega
  have hW100 : W < 100 := by omega
  obtain ⟨fv, hfv⟩ := Classical.axiomOfChoice (fun k => (by
    by_cases e : k < 8
    · obtain ⟨v, hv⟩ := far_ex h.net h.rig e
      exact ⟨v, fun _ => hv⟩
    · exact ⟨0, fun e2 => absurd e2 e⟩ : ∃ v, k < 8 → farP g N C Q k v))
  rcases chk v3 5 5 rfl (by decide) with ⟨wh, hwh, rfl, x3, m3⟩ | ⟨x3, m3⟩
  rotate_left
  · obtain ⟨M2, w1, w2, w3, w4, w5, w6, w7⟩ := weighs_m (M := g) h.net h.rig h.law hn8 hW100 (fv := fv) (hfv n hn8) (F := 2401) (by decide)
    have ne : ∀ k : Nat, k ≤ 5 → ¬ v3 = nn k := fun k hk e => by
      have := x3 g
      rw [e] at this
      rw [show x_within (nn k) 0 5 g = some 1 from wthK_y (K := 5) rfl (by decide) hk] at this
      exact absurd (Option.some.inj this) (by decide)
    refine ⟨0, 2401, -1, g, M2, ?_, ?_, ?_⟩
    · unfold x_holder
      exact st_b (holder_of (Or.inr rfl) x1) (st_f (by decide) (st_b (week_of (Or.inr rfl) x2) (st_f (by decide) (st_b (x3 g) (st_f (by decide) rfl)))))
    · unfold m_holder
      refine st_b (m1 g) (st_f (by decide) (st_b (m2 g) (st_t (by decide) (st_b w1 ?_))))
      exact st_f (ne 0 (by decide)) (st_f (ne 1 (by decide)) (st_f (ne 2 (by decide)) (st_f (ne 3 (by decide)) (st_f (ne 4 (by decide)) (st_f (ne 5 (by decide)) rfl)))))
    · exact RR.scr hT hR (fun i e1 e2 => w7 i (by omega) (by omega)) (fun i e1 e2 => w7 i (by omega) (by omega)) (w7 216 (by decide) (by decide)) (w7 217 (by decide) (by decide))
  obtain ⟨S, s1, ⟨s2, s3, s4, s5⟩, s6⟩ := reckon_y (s := g) h.law h.rig hQ (fun _ _ _ => rfl) hW100 hfv (F := 2401) (by decide)
  have e216 : S 216 = g 216 := s6 216 (by omega) (by omega)
  obtain ⟨M2, w1, w2, w3, w4, w5, w6, w7⟩ := weighs_m (c := g) (M := S) (by rw [e216]; exact h.net) (by rw [e216]; exact h.rig) (by rw [e216]; exact h.law) hn8 hW100 (fv := fv) (hfv n hn8) (F := 2401) (by decide)
  have a1 := s4 n hn8
  have a2 := s5 n hn8
  have hi : inb (nn n) 8 = true := by simp (disch := first | omega | decide) only [lt1, nnMl, nnMr, nnAl, nnAr, nnA, nnM, nnB, nnT, nnP, nnE, nnEl, nnEr, nnL, nnLl, nnLr, nnQ, nnQr, nnN, Nat.add_zero, if_false, if_true, Option.bind_some, not_true, not_false_iff, not_true_eq_false, not_false_eq_true, eq_self, Nat.not_lt_zero, z10, z01, or_true, true_or, or_false, false_or, true_and, false_and, hn8]
  have hx : ∀ v, (if nn wh = 0 then (if inb (nn n) 8 = true then (some ((S 202 (Int32.toNatClampNeg (nn n))), S)) else none) else (if nn wh = 1 then (if inb (nn n) 8 = true then (some ((S 203 (Int32.toNatClampNeg (nn n))), S)) else none) else (if nn wh = 2 then (if inb (nn n) 8 = true then (some ((S 205 (Int32.toNatClampNeg (nn n))), S)) else none) else (if nn wh = 3 then (if inb (nn n) 8 = true then (some ((S 206 (Int32.toNatClampNeg (nn n))), S)) else none) else (if nn wh = 4 then Option.bind (reckoning_leftTo (nn n) S) (fun x9 => (some (x9, S))) else (if inb (nn n) 8 = true then (some ((S 204 (Int32.toNatClampNeg (nn n))), S)) else none)))))) = some (v, S) → x_holder 2401 (nn n) (nn W) (nn wh) g = some (v, S) := fun v hv => by
    unfold x_holder
    exact st_b (holder_of (Or.inr rfl) x1) (st_f (by decide) (st_b (week_of (Or.inr rfl) x2) (st_f (by decide) (st_b (x3 g) (st_t (by decide) (st_b s1 hv))))))
  have hm : ∀ v, (if nn wh = 0 then (some ((M2 215 14), M2)) else (if nn wh = 1 then (some ((M2 215 15), M2)) else (if nn wh = 2 then (some ((M2 215 18), M2)) else (if nn wh = 3 then (some ((M2 215 19), M2)) else (if nn wh = 4 then (some (((M2 215 14) - (((M2 215 14) * (M2 215 19)) / 100)), M2)) else (if nn wh = 5 then (some ((M2 215 16), M2)) else (some ((-1), M2)))))))) = some (v, M2) → m_holder 2401 (nn n) (nn W) (nn wh) S = some (v, M2) := fun v hv => by
    unfold m_holder
    exact st_b (m1 S) (st_f (by decide) (st_b (m2 S) (st_t (by decide) (st_b w1 hv))))
  have hR2 : RR TS M2 := RR.scr hT hR (fun i e1 e2 => by
    rw [w7 i (by omega) (by omega)]
    by_cases e : i ≤ 46
    · exact s2 i e1 e
    · exact s6 i (by omega) (by omega)) (fun i e1 e2 => by rw [w7 i (by omega) (by omega)]; exact s6 i (by omega) (by omega)) (by rw [w7 216 (by decide) (by decide)]; exact e216) (by rw [w7 217 (by decide) (by decide)]; exact s6 217 (by omega) (by omega))
  have c6 : wh = 0 ∨ wh = 1 ∨ wh = 2 ∨ wh = 3 ∨ wh = 4 ∨ wh = 5 := by omega
  rcases c6 with rfl | rfl | rfl | rfl | rfl | rfl
  · refine ⟨2401, 2401, hrs g D Q W n, S, M2, hx _ (st_t rfl (st_t hi ?_)), hm _ (st_t rfl (by rw [w2])), hR2⟩
    rw [nnT (by omega), a1.1]
  · refine ⟨2401, 2401, ngt g D Q W n, S, M2, hx _ (st_f (by decide) (st_t rfl (st_t hi ?_))), hm _ (st_f (by decide) (st_t rfl (by rw [w3]))), hR2⟩
    rw [nnT (by omega), a1.2.1]
  · refine ⟨2401, 2401, (jg g (FVh g D Q W fv n) L 0 0 0).1, S, M2, hx _ (st_f (by decide) (st_f (by decide) (st_t rfl (st_t hi ?_)))), hm _ (st_f (by decide) (st_f (by decide) (st_t rfl (by rw [w5])))), hR2⟩
    rw [nnT (by omega), a2.2.1]
  · refine ⟨2401, 2401, (jg g (FVh g D Q W fv n) L 0 0 0).2, S, M2, hx _ (st_f (by decide) (st_f (by decide) (st_f (by decide) (st_t rfl (st_t hi ?_))))), hm _ (st_f (by decide) (st_f (by decide) (st_f (by decide) (st_t rfl (by rw [w6]))))), hR2⟩
    rw [nnT (by omega), a2.2.2]
  · refine ⟨2401, 2401, hrs g D Q W n - hrs g D Q W n * (jg g (FVh g D Q W fv n) L 0 0 0).2 / 100, S, M2, hx _ (st_f (by decide) (st_f (by decide) (st_f (by decide) (st_f (by decide) (st_t rfl (st_b ?_ rfl)))))), hm _ (st_f (by decide) (st_f (by decide) (st_f (by decide) (st_f (by decide) (st_t rfl (by rw [w2, w6])))))), hR2⟩
    unfold reckoning_leftTo
    rw [nnT (by omega), a1.1, a2.2.2]
    exact st_t hi (st_t hi (st_t hi rfl))
  · refine ⟨2401, 2401, fv n, S, M2, hx _ (st_f (by decide) (st_f (by decide) (st_f (by decide) (st_f (by decide) (st_f (by decide) (st_t hi ?_)))))), hm _ (st_f (by decide) (st_f (by decide) (st_f (by decide) (st_f (by decide) (st_f (by decide) (st_t rfl (by rw [w4]))))))), hR2⟩
    rw [nnT (by omega), a2.1]
end SV
