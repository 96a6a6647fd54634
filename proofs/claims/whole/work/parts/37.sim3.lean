section
/-! ways: what both sides look for -/
abbrev cn (c : Sg) (i j : Nat) : Nat := Int32.toNatClampNeg (c i j)
abbrev Tb : Type := Nat → Option Nat × Nat
def bst (c : Sg) (V : Nat → Nat) (t v : Nat) : Nat → Option Nat × Nat
  | 0 => (none, 1000000)
  | j + 1 => if c 9 j = nn v ∧ c 15 j = 0 ∧ cn c 10 j ≤ t ∧ V (cn c 10 j) < 1000000 ∧ 100 * cn c 13 j + 1 + V (cn c 10 j) < (bst c V t v j).2 then (some j, 100 * cn c 13 j + 1 + V (cn c 10 j)) else bst c V t v j
def upT (T : Tb) (v : Nat) (p : Option Nat × Nat) : Tb := fun u => if u = v then p else T u
theorem upT_e {T : Tb} {v : Nat} {p : Option Nat × Nat} : upT T v p v = p := if_pos rfl
theorem upT_n {T : Tb} {v u : Nat} {p : Option Nat × Nat} (h : u ≠ v) : upT T v p u = T u := if_neg h
def tab (c : Sg) (C t : Nat) : Nat → Tb
  | 0 => fun u => (none, if u = t then 0 else 1000000)
  | k + 1 => upT (tab c C t k) (t - (k + 1)) (bst c (fun u => (tab c C t k u).2) t (t - (k + 1)) C)
/-- values that can be split -/
def okV (V : Nat → Nat) (t : Nat) : Prop := ∀ w, (V w < 1000000 → V w % 100 + w ≤ t ∧ V w / 100 ≤ 8 * (V w % 100)) ∧ V w ≤ 1000000
theorem okV.le {V : Nat → Nat} {t : Nat} (h : okV V t) {w : Nat} (hw : t < w) : V w = 1000000 := by
  have := h w
  by_cases e : V w < 1000000
  · have := this.1 e
    omega
  · omega
theorem split_v (l m : Nat) (h : m % 100 + 1 < 100) : (100 * l + 1 + m) % 100 = m % 100 + 1 ∧ (100 * l + 1 + m) / 100 = l + m / 100 := by omega
section WA
variable {c g : Sg} {N C Q : Nat}
theorem chan_v (h : RNet c (g 216) N C Q) {j : Nat} (hj : j < C) : c 9 j = nn (cn c 9 j) ∧ c 10 j = nn (cn c 10 j) ∧ c 13 j = nn (cn c 13 j) ∧ cn c 9 j < cn c 10 j ∧ cn c 10 j < N ∧ cn c 13 j ≤ 8 := by
  obtain ⟨f, t, h1, h2, h3, h4⟩ := h.ends j hj
  obtain ⟨v, h5, h6⟩ := h.trvV j hj
  have hN := h.hN
  unfold cn
  rw [h3, h4, h6, nnT (by omega), nnT (by omega), nnT (by omega)]
  exact ⟨rfl, rfl, rfl, h1, h2, h5⟩
def chOk (c : Sg) (V : Nat → Nat) (v i : Nat) : Prop := c 9 i = nn v ∧ c 15 i = 0
theorem bst_p (h : RNet c (g 216) N C Q) {V : Nat → Nat} {t v : Nat} (ht : t < 10) (hv : v < t) (hV : okV V t) : ∀ j, j ≤ C → ((bst c V t v j).1 = none ∧ (bst c V t v j).2 = 1000000 ∨ ∃ i, i < j ∧ (bst c V t v j).1 = some i ∧ c 9 i = nn v ∧ c 15 i = 0 ∧ cn c 10 i ≤ t ∧ V (cn c 10 i) < 1000000 ∧ (bst c V t v j).2 = 100 * cn c 13 i + 1 + V (cn c 10 i) ∧ (bst c V t v j).2 < 1000000 ∧ (bst c V t v j).2 % 100 + v ≤ t ∧ (bst c V t v j).2 / 100 ≤ 8 * ((bst c V t v j).2 % 100) ∧ (∀ i2, i2 < i → c 9 i2 = nn v → c 15 i2 = 0 → (bst c V t v j).2 < 100 * cn c 13 i2 + 1 + V (cn c 10 i2))) ∧ (∀ i2, i2 < j → c 9 i2 = nn v → c 15 i2 = 0 → (bst c V t v j).2 ≤ 100 * cn c 13 i2 + 1 + V (cn c 10 i2)) := by
  intro j
  induction j with
  | zero => exact fun _ => ⟨Or.inl ⟨rfl, rfl⟩, fun i2 h2 => absurd h2 (Nat.not_lt_zero _)⟩
  | succ j ih =>
    intro hj
    obtain ⟨ih1, ih2⟩ := ih (by omega)
    obtain ⟨v1, v2, v3, v4, v5, v6⟩ := chan_v h (show j < C by omega)
    by_cases q : c 9 j = nn v ∧ c 15 j = 0 ∧ cn c 10 j ≤ t ∧ V (cn c 10 j) < 1000000 ∧ 100 * cn c 13 j + 1 + V (cn c 10 j) < (bst c V t v j).2
    · have e : bst c V t v (j + 1) = (some j, 100 * cn c 13 j + 1 + V (cn c 10 j)) := if_pos q
      rw [e]
      obtain ⟨q1, q2, q3, q4, q5⟩ := q
      have hle : (bst c V t v j).2 ≤ 1000000 := by
        rcases ih1 with e | ⟨i, _, _, _, _, _, _, _, e, _⟩ <;> omega
      have hw := (hV (cn c 10 j)).1 q4
      have e9 : cn c 9 j = v := by
        have := q1.symm.trans v1
        rw [nnQ (by omega) (by omega)] at this
        exact this.symm
      refine ⟨Or.inr ⟨j, Nat.lt_succ_self _, rfl, q1, q2, q3, q4, rfl, ?_, ?_, ?_, ?_⟩, ?_⟩
      · show 100 * cn c 13 j + 1 + V (cn c 10 j) < 1000000
        omega
      · show (100 * cn c 13 j + 1 + V (cn c 10 j)) % 100 + v ≤ t
        omega
      · show (100 * cn c 13 j + 1 + V (cn c 10 j)) / 100 ≤ 8 * ((100 * cn c 13 j + 1 + V (cn c 10 j)) % 100)
        have := split_v (cn c 13 j) (V (cn c 10 j)) (by omega)
        rw [this.1, this.2]
        omega
      · intro i2 h2 p1 p2
        exact Nat.lt_of_lt_of_le q5 (ih2 i2 h2 p1 p2)
      · intro i2 h2 p1 p2
        by_cases e2 : i2 = j
        · subst e2; exact Nat.le_refl _
        · exact Nat.le_of_lt (Nat.lt_of_lt_of_le q5 (ih2 i2 (by omega) p1 p2))
    · have e : bst c V t v (j + 1) = bst c V t v j := if_neg q
      rw [e]
      refine ⟨?_, ?_⟩
      · rcases ih1 with e | ⟨i, r1, r2, r3, r4, r5⟩
        · exact Or.inl e
        · exact Or.inr ⟨i, by omega, r2, r3, r4, r5⟩
      · intro i2 h2 p1 p2
        by_cases e2 : i2 = j
        · subst e2
          have hle : (bst c V t v i2).2 ≤ 1000000 := by
            rcases ih1 with e | ⟨i, _, _, _, _, _, _, _, e, _⟩ <;> omega
          by_cases q3 : cn c 10 i2 ≤ t ∧ V (cn c 10 i2) < 1000000
          · exact Nat.not_lt.mp (fun q4 => q ⟨p1, p2, q3.1, q3.2, q4⟩)
          · have : 1000000 ≤ V (cn c 10 i2) := by
              by_cases q5 : cn c 10 i2 ≤ t
              · exact Nat.not_lt.mp (fun q6 => q3 ⟨q5, q6⟩)
              · rw [hV.le (by omega)]
                exact Nat.le_refl _
            omega
        · exact ih2 i2 (by omega) p1 p2
/-- a table as far as it has come: nothing known of t and beyond, nor before v0 -/
def okT (T : Tb) (t v0 : Nat) : Prop := okV (fun u => (T u).2) t ∧ (∀ u, (u < v0 ∨ t ≤ u) → (T u).1 = none) ∧ (T t).2 = 0 ∧ (∀ u, u ≠ t → ((T u).1 = none ↔ (T u).2 = 1000000)) ∧ (∀ u, u < v0 → (T u).2 = 1000000) ∧ ∀ u i, (T u).1 = some i → i < 14
theorem tab_ok (h : RNet c (g 216) N C Q) {t : Nat} (ht : t < 10) : ∀ k, k ≤ t → okT (tab c C t k) t (t - k) := by
  intro k
  induction k with
  | zero =>
    intro _
    refine ⟨fun w => ?_, fun u _ => rfl, if_pos rfl, fun u hu => ?_, fun u hu => if_neg (by omega), fun u i e => by cases e⟩
    · show ((if w = t then 0 else 1000000) < 1000000 → (if w = t then 0 else 1000000) % 100 + w ≤ t ∧ (if w = t then 0 else 1000000) / 100 ≤ 8 * ((if w = t then 0 else 1000000) % 100)) ∧ (if w = t then 0 else 1000000) ≤ 1000000
      split <;> omega
    · show (none = none ↔ (if u = t then 0 else 1000000) = 1000000)
      rw [if_neg hu]
      exact ⟨fun _ => rfl, fun _ => rfl⟩
  | succ k ih =>
    intro hk
    obtain ⟨i1, i2, i3, i4, i5, i6⟩ := ih (by omega)
    have hC := h.hC
    obtain ⟨b1, b2⟩ := bst_p h ht (v := t - (k + 1)) (by omega) i1 C (Nat.le_refl _)
    have en : ∀ u, u ≠ t - (k + 1) → tab c C t (k + 1) u = tab c C t k u := fun u hu => upT_n hu
    have ee : tab c C t (k + 1) (t - (k + 1)) = bst c (fun u => (tab c C t k u).2) t (t - (k + 1)) C := upT_e
    refine ⟨fun w => ?_, fun u hu => ?_, ?_, fun u hu => ?_, fun u hu => ?_, fun u i e9 => ?_⟩
    · show ((tab c C t (k + 1) w).2 < 1000000 → (tab c C t (k + 1) w).2 % 100 + w ≤ t ∧ (tab c C t (k + 1) w).2 / 100 ≤ 8 * ((tab c C t (k + 1) w).2 % 100)) ∧ (tab c C t (k + 1) w).2 ≤ 1000000
      by_cases e : w = t - (k + 1)
      · rw [e, ee]
        rcases b1 with ⟨_, e2⟩ | ⟨i, _, _, _, _, _, _, _, e2, e3, e4, _⟩
        · rw [e2]; omega
        · exact ⟨fun _ => ⟨e3, e4⟩, by omega⟩
      · rw [en w e]; exact i1 w
    · rw [en u (by omega)]; exact i2 u (by omega)
    · rw [en t (by omega)]; exact i3
    · by_cases e : u = t - (k + 1)
      · rw [e, ee]
        rcases b1 with ⟨e1, e2⟩ | ⟨i, _, e1, _, _, _, _, _, e2, _⟩
        · exact ⟨fun _ => e2, fun _ => e1⟩
        · exact ⟨fun e => (by rw [e1] at e; cases e), fun e => (by omega)⟩
      · rw [en u e]; exact i4 u hu
    · rw [en u (by omega)]; exact i5 u (by omega)
    · by_cases e : u = t - (k + 1)
      · rw [e, ee] at e9
        rcases b1 with ⟨e1, e2⟩ | ⟨i2, h2, e1, _⟩
        · rw [e1] at e9; cases e9
        · rw [e1] at e9; cases e9; omega
      · rw [en u e] at e9; exact i6 u i e9
theorem tab_st {t : Nat} : ∀ m k, k + m ≤ t → ∀ u, t - k ≤ u → tab c C t (k + m) u = tab c C t k u := by
  intro m
  induction m with
  | zero => intro k _ u _; rfl
  | succ m ih =>
    intro k hk u hu
    rw [show k + (m + 1) = (k + m) + 1 by omega]
    exact (upT_n (by omega)).trans (ih k (by omega) u hu)
/-- the whole table, and how it holds together -/
theorem tab_y (h : RNet c (g 216) N C Q) {t v : Nat} (ht : t < 10) (hv : v < t) (hr : (tab c C t t v).2 < 1000000) : ∃ i, i < C ∧ (tab c C t t v).1 = some i ∧ c 9 i = nn v ∧ c 15 i = 0 ∧ cn c 10 i ≤ t ∧ v < cn c 10 i ∧ (tab c C t t (cn c 10 i)).2 < 1000000 ∧ (tab c C t t v).2 = 100 * cn c 13 i + 1 + (tab c C t t (cn c 10 i)).2 ∧ ∀ i2, i2 < i → c 9 i2 = nn v → c 15 i2 = 0 → (tab c C t t v).2 < 100 * cn c 13 i2 + 1 + (tab c C t t (cn c 10 i2)).2 := by
  have hN := h.hN
  have e0 : tab c C t t v = tab c C t (t - v) v := by
    have := tab_st (c := c) (C := C) (t := t) v (t - v) (by omega) v (by omega)
    rwa [show t - v + v = t by omega] at this
  have e1 : tab c C t (t - v) v = bst c (fun u => (tab c C t (t - v - 1) u).2) t v C := by
    have : tab c C t (t - v - 1 + 1) (t - (t - v - 1 + 1)) = bst c (fun u => (tab c C t (t - v - 1) u).2) t (t - (t - v - 1 + 1)) C := upT_e
    rwa [show t - v - 1 + 1 = t - v by omega, show t - (t - v) = v by omega] at this
  have e2 : ∀ u, v < u → tab c C t (t - v - 1) u = tab c C t t u := fun u hu => by
    have := tab_st (c := c) (C := C) (t := t) (v + 1) (t - v - 1) (by omega) u (by omega)
    rw [show t - v - 1 + (v + 1) = t by omega] at this
    exact this.symm
  rw [e0, e1] at hr
  obtain ⟨b1, b2⟩ := bst_p h ht hv (tab_ok h ht (t - v - 1) (by omega)).1 C (Nat.le_refl _)
  rw [e0, e1]
  rcases b1 with ⟨_, e⟩ | ⟨i, r1, r2, r3, r4, r5, r6, r7, r8, r9, r10, r11⟩
  · omega
  · have hgt : ∀ i, i < C → c 9 i = nn v → v < cn c 10 i := fun i hi e => by
      obtain ⟨v1, v2, v3, v4, v5, v6⟩ := chan_v h hi
      have := e.symm.trans v1
      rw [nnQ (by omega) (by omega)] at this
      omega
    refine ⟨i, r1, r2, r3, r4, r5, hgt i r1 r3, ?_, ?_, fun i2 p1 p2 p3 => ?_⟩
    · rw [← e2 _ (hgt i r1 r3)]; exact r6
    · rw [← e2 _ (hgt i r1 r3)]; exact r7
    · rw [← e2 _ (hgt i2 (by omega) p2)]; exact r11 i2 p1 p2 p3
end WA
/-- the class's three rows -/
def ss (s : Sg) (a b d : Nat → Int32) : Sg := sc (sc (sc s 188 a) 189 b) 190 d
theorem ss_o {s : Sg} {a b d : Nat → Int32} {i : Nat} (h1 : i ≠ 188) (h2 : i ≠ 189) (h3 : i ≠ 190) : ss s a b d i = s i := by
  unfold ss; rw [sc_n h3, sc_n h2, sc_n h1]
theorem ss_a {s : Sg} {a b d : Nat → Int32} : ss s a b d 188 = a := by
  unfold ss; rw [sc_n (by decide), sc_n (by decide), sc_e]
theorem ss_b {s : Sg} {a b d : Nat → Int32} : ss s a b d 189 = b := by
  unfold ss; rw [sc_n (by decide), sc_e]
theorem ss_d {s : Sg} {a b d : Nat → Int32} : ss s a b d 190 = d := by
  unfold ss; rw [sc_e]
theorem ss_ua {s : Sg} {a b d : Nat → Int32} {i : Nat} {v : Int32} : up2 (ss s a b d) 188 i v = ss s (up1 a i v) b d := by
  unfold ss
  rw [sc_c (g := sc s 188 a) (a := 189) (b := 190) (by decide), sc_c (g := s) (a := 188) (b := 190) (by decide), sc_c (g := sc s 190 d) (a := 188) (b := 189) (by decide), sc_u, sc_c (g := sc s 190 d) (a := 189) (b := 188) (by decide), sc_c (g := s) (a := 190) (b := 188) (by decide), sc_c (g := sc s 188 (up1 a i v)) (a := 190) (b := 189) (by decide)]
theorem ss_ub {s : Sg} {a b d : Nat → Int32} {i : Nat} {v : Int32} : up2 (ss s a b d) 189 i v = ss s a (up1 b i v) d := by
  unfold ss
  rw [sc_c (g := sc s 188 a) (a := 189) (b := 190) (by decide), sc_u, sc_c (g := sc s 188 a) (a := 190) (b := 189) (by decide)]
theorem ss_ud {s : Sg} {a b d : Nat → Int32} {i : Nat} {v : Int32} : up2 (ss s a b d) 190 i v = ss s a b (up1 d i v) := by
  unfold ss; rw [sc_u]
theorem ss_s {s : Sg} : ss s (s 188) (s 189) (s 190) = s := by
  unfold ss
  rw [sc_s, sc_s, sc_s]
theorem ss_k {s : Sg} {a b d : Nat → Int32} : sc (ss s a b d) 190 = fun f => ss s a b f := by
  funext f
  unfold ss
  rw [sc_k]
/-- the rows say what the table says -/
def CR (a b d : Nat → Int32) (T : Tb) : Prop := ∀ u, u < 10 → d u = oN (T u).1 ∧ ((T u).2 < 1000000 → a u = nn ((T u).2 / 100) ∧ b u = nn ((T u).2 % 100))
section WB
variable {c g s : Sg} {N C Q : Nat}
theorem reach_y {t w : Nat} {a b d : Nat → Int32} {T : Tb} (hs : s 187 3 = nn t) (hw : w < 10) (ht : t < 10) (hT : ∀ u, u ≠ t → ((T u).1 = none ↔ (T u).2 = 1000000)) (h14 : ∀ u i, (T u).1 = some i → i < 14) (hR : CR a b d T) (h : (T w).2 < 1000000) : ways_reaches (nn w) (ss s a b d) = some 1 := by
  unfold ways_reaches
  rw [ss_o (by decide) (by decide) (by decide), hs, ss_d, nnT (by omega)]
  by_cases e : w = t
  · exact st_t (by rw [e]) rfl
  · refine st_f (nnNe (by omega) (by omega) e) (st_b (wthK_y (K := 9) rfl (by decide) (by omega)) (st_f (by decide) (st_t (by simp (disch := first | omega | decide) only [lt1, nnMl, nnMr, nnAl, nnAr, nnA, nnM, nnB, nnT, nnP, nnE, nnEl, nnEr, nnL, nnLl, nnLr, nnQ, nnQr, nnN, Nat.add_zero, if_false, if_true, Option.bind_some, not_true, not_false_iff, not_true_eq_false, not_false_eq_true, eq_self, Nat.not_lt_zero, z10, z01, or_true, true_or, or_false, false_or, true_and, false_and, hw]) ?_)))
    rw [(hR w hw).1]
    cases hb : (T w).1 with
    | none =>
      have := (hT w e).mp hb
      omega
    | some i =>
      have := h14 w i hb
      exact st_f (show ¬ nn i = -1 from fun e => nnN1 (by omega) e.symm) rfl
theorem reach_n {t w : Nat} {a b d : Nat → Int32} {T : Tb} (hs : s 187 3 = nn t) (hw : w < 10) (ht : t < 10) (h0 : (T t).2 = 0) (hT : ∀ u, u ≠ t → ((T u).1 = none ↔ (T u).2 = 1000000)) (hR : CR a b d T) (hle : (T w).2 ≤ 1000000) (h : ¬ (T w).2 < 1000000) : ways_reaches (nn w) (ss s a b d) = some 0 := by
  unfold ways_reaches
  rw [ss_o (by decide) (by decide) (by decide), hs, ss_d, nnT (by omega)]
  have e : w ≠ t := fun e => by rw [e, h0] at h; omega
  refine st_f (nnNe (by omega) (by omega) e) (st_b (wthK_y (K := 9) rfl (by decide) (by omega)) (st_f (by decide) (st_t (by simp (disch := first | omega | decide) only [lt1, nnMl, nnMr, nnAl, nnAr, nnA, nnM, nnB, nnT, nnP, nnE, nnEl, nnEr, nnL, nnLl, nnLr, nnQ, nnQr, nnN, Nat.add_zero, if_false, if_true, Option.bind_some, not_true, not_false_iff, not_true_eq_false, not_false_eq_true, eq_self, Nat.not_lt_zero, z10, z01, or_true, true_or, or_false, false_or, true_and, false_and, hw]) ?_)))
  rw [(hR w hw).1, (hT w e).mpr (by omega)]
  exact st_t rfl rfl
theorem fN115y {K : Int32 → Int32 → Sg → Option Sg} {v j : Nat} {x y s0 : Int32} {a b d : Nat → Int32} (hv : v < 10) (h : d v = -1 ∨ ¬ s0 = 0) : ways_findNext_115 K (nn v) (nn j) x y s0 (ss s a b d) = K (nn v) (nn (j + 1)) (ss s (up1 a v x) (up1 b v y) (up1 d v (nn j))) := by
  have e : ways_findNext_132 K (nn v) (nn j) x y (ss s a b d) = K (nn v) (nn (j + 1)) (ss s (up1 a v x) (up1 b v y) (up1 d v (nn j))) := by
    unfold ways_findNext_132
    rw [nnT (by omega), show nn j + 1 = nn (j + 1) from nnA j 1]
    refine st_w (by simp (disch := first | omega | decide) only [lt1, nnMl, nnMr, nnAl, nnAr, nnA, nnM, nnB, nnT, nnP, nnE, nnEl, nnEr, nnL, nnLl, nnLr, nnQ, nnQr, nnN, Nat.add_zero, if_false, if_true, Option.bind_some, not_true, not_false_iff, not_true_eq_false, not_false_eq_true, eq_self, Nat.not_lt_zero, z10, z01, or_true, true_or, or_false, false_or, true_and, false_and, hv]) (st_w (by simp (disch := first | omega | decide) only [lt1, nnMl, nnMr, nnAl, nnAr, nnA, nnM, nnB, nnT, nnP, nnE, nnEl, nnEr, nnL, nnLl, nnLr, nnQ, nnQr, nnN, Nat.add_zero, if_false, if_true, Option.bind_some, not_true, not_false_iff, not_true_eq_false, not_false_eq_true, eq_self, Nat.not_lt_zero, z10, z01, or_true, true_or, or_false, false_or, true_and, false_and, hv]) (st_w (by simp (disch := first | omega | decide) only [lt1, nnMl, nnMr, nnAl, nnAr, nnA, nnM, nnB, nnT, nnP, nnE, nnEl, nnEr, nnL, nnLl, nnLr, nnQ, nnQr, nnN, Nat.add_zero, if_false, if_true, Option.bind_some, not_true, not_false_iff, not_true_eq_false, not_false_eq_true, eq_self, Nat.not_lt_zero, z10, z01, or_true, true_or, or_false, false_or, true_and, false_and, hv]) ?_))
    rw [ss_ud, ss_ua, ss_ub]
  unfold ways_findNext_115
  rw [nnT (by omega), ss_d, e]
  refine st_t (by simp (disch := first | omega | decide) only [lt1, nnMl, nnMr, nnAl, nnAr, nnA, nnM, nnB, nnT, nnP, nnE, nnEl, nnEr, nnL, nnLl, nnLr, nnQ, nnQr, nnN, Nat.add_zero, if_false, if_true, Option.bind_some, not_true, not_false_iff, not_true_eq_false, not_false_eq_true, eq_self, Nat.not_lt_zero, z10, z01, or_true, true_or, or_false, false_or, true_and, false_and, hv]) ?_
  by_cases q : d v = -1
  · exact st_t q rfl
  · exact st_f q (st_f (h.resolve_left q) rfl)
theorem fN115n {K : Int32 → Int32 → Sg → Option Sg} {v j : Nat} {x y : Int32} {a b d : Nat → Int32} (hv : v < 10) (h : ¬ d v = -1) : ways_findNext_115 K (nn v) (nn j) x y 0 (ss s a b d) = K (nn v) (nn (j + 1)) (ss s a b d) := by
  unfold ways_findNext_115
  rw [nnT (by omega), ss_d, show nn j + 1 = nn (j + 1) from nnA j 1]
  exact st_t (by simp (disch := first | omega | decide) only [lt1, nnMl, nnMr, nnAl, nnAr, nnA, nnM, nnB, nnT, nnP, nnE, nnEl, nnEr, nnL, nnLl, nnLr, nnQ, nnQr, nnN, Nat.add_zero, if_false, if_true, Option.bind_some, not_true, not_false_iff, not_true_eq_false, not_false_eq_true, eq_self, Nat.not_lt_zero, z10, z01, or_true, true_or, or_false, false_or, true_and, false_and, hv]) (st_f h (st_t rfl rfl))
theorem fNL (h : RNet c (g 216) N C Q) (hs : ∀ i, 2 ≤ i → i ≤ 21 → s i = c i) {t v : Nat} (ht : t < 10) (hv : v < t) (hst : s 187 3 = nn t) {T : Tb} (hT : okT T t (v + 1)) : ∀ m j F a b d, j + m = C → m < F → CR a b d (upT T v (bst c (fun u => (T u).2) t v j)) → ∃ a2 b2 d2, ways_findNext_2 F (nn v) (nn j) (ss s a b d) = some (ss s a2 b2 d2) ∧ CR a2 b2 d2 (upT T v (bst c (fun u => (T u).2) t v C)) := by
  have hC := h.hC
  have hN := h.hN
  intro m
  induction m with
  | zero =>
    intro j F a b d hj hF hR
    obtain ⟨F, rfl⟩ : ∃ F2, F = F2 + 1 := ⟨F - 1, by omega⟩
    have : j = C := by omega
    subst this
    refine ⟨a, b, d, ?_, hR⟩
    unfold ways_findNext_2
    rw [ss_o (by decide) (by decide) (by decide), hs 2 (by decide) (by decide), h.cC]
    exact if_pos (Int32.le_refl _)
  | succ m ih =>
    intro j F a b d hj hF hR
    obtain ⟨F, rfl⟩ : ∃ F2, F = F2 + 1 := ⟨F - 1, by omega⟩
    obtain ⟨v1, v2, v3, v4, v5, v6⟩ := chan_v h (show j < C by omega)
    have hj14 : j < 14 := by omega
    have hv10 : v < 10 := by omega
    have hi : inb (nn j) 14 = true := by simp (disch := first | omega | decide) only [lt1, nnMl, nnMr, nnAl, nnAr, nnA, nnM, nnB, nnT, nnP, nnE, nnEl, nnEr, nnL, nnLl, nnLr, nnQ, nnQr, nnN, Nat.add_zero, if_false, if_true, Option.bind_some, not_true, not_false_iff, not_true_eq_false, not_false_eq_true, eq_self, Nat.not_lt_zero, z10, z01, or_true, true_or, or_false, false_or, true_and, false_and, hj14]
    have hiv : inb (nn v) 10 = true := by simp (disch := first | omega | decide) only [lt1, nnMl, nnMr, nnAl, nnAr, nnA, nnM, nnB, nnT, nnP, nnE, nnEl, nnEr, nnL, nnLl, nnLr, nnQ, nnQr, nnN, Nat.add_zero, if_false, if_true, Option.bind_some, not_true, not_false_iff, not_true_eq_false, not_false_eq_true, eq_self, Nat.not_lt_zero, z10, z01, or_true, true_or, or_false, false_or, true_and, false_and, hv10]
    have h2 : ¬ C ≤ j := by omega
    have e1 : nn j + 1 = nn (j + 1) := nnA j 1
    have IH := ih (j + 1) F a b d (by omega) (by omega)
    have o2 : ∀ i, 2 ≤ i → i ≤ 21 → ss s a b d i = c i := fun i p1 p2 => by rw [ss_o (by omega) (by omega) (by omega), hs i p1 p2]
    have hw10 : cn c 10 j < 10 := by omega
    have hiw : inb (nn (cn c 10 j)) 10 = true := by simp (disch := first | omega | decide) only [lt1, nnMl, nnMr, nnAl, nnAr, nnA, nnM, nnB, nnT, nnP, nnE, nnEl, nnEr, nnL, nnLl, nnLr, nnQ, nnQr, nnN, Nat.add_zero, if_false, if_true, Option.bind_some, not_true, not_false_iff, not_true_eq_false, not_false_eq_true, eq_self, Nat.not_lt_zero, z10, z01, or_true, true_or, or_false, false_or, true_and, false_and, hw10]
    obtain ⟨t1, t2, t3, t4, t5, t6⟩ := hT
    have bp := (bst_p h ht hv t1 j (by omega)).1
    have reach : v < cn c 10 j → ways_reaches (nn (cn c 10 j)) (ss s a b d) = some (if (T (cn c 10 j)).2 < 1000000 then 1 else 0) := fun hgt => by
      have eT : ∀ u, u ≠ v → upT T v (bst c (fun u => (T u).2) t v j) u = T u := fun u hu => upT_n hu
      have hT2 : ∀ u, u ≠ t → ((upT T v (bst c (fun u => (T u).2) t v j) u).1 = none ↔ (upT T v (bst c (fun u => (T u).2) t v j) u).2 = 1000000) := fun u hu => by
        by_cases e : u = v
        · rw [e, upT_e]
          rcases bp with ⟨p1, p2⟩ | ⟨i, _, p1, _, _, _, _, _, p2, _⟩
          · exact ⟨fun _ => p2, fun _ => p1⟩
          · exact ⟨fun e => (by rw [p1] at e; cases e), fun e => (by omega)⟩
        · rw [eT u e]; exact t4 u hu
      have hT6 : ∀ u i, (upT T v (bst c (fun u => (T u).2) t v j) u).1 = some i → i < 14 := fun u i e9 => by
        by_cases e : u = v
        · rw [e, upT_e] at e9
          rcases bp with ⟨p1, p2⟩ | ⟨i2, h9, p1, _⟩
          · rw [p1] at e9; cases e9
          · rw [p1] at e9; cases e9; omega
        · rw [eT u e] at e9; exact t6 u i e9
      by_cases q : (T (cn c 10 j)).2 < 1000000
      · rw [if_pos q]
        exact reach_y hst hw10 ht hT2 hT6 hR (by rw [eT _ (by omega)]; exact q)
      · rw [if_neg q]
        exact reach_n hst hw10 ht (by rw [eT _ (by omega)]; exact t3) hT2 hR (by rw [eT _ (by omega)]; exact (t1 _).2) (by rw [eT _ (by omega)]; exact q)
    have keep : bst c (fun u => (T u).2) t v (j + 1) = bst c (fun u => (T u).2) t v j → ∃ a2 b2 d2, ways_findNext_2 F (nn v) (nn (j + 1)) (ss s a b d) = some (ss s a2 b2 d2) ∧ CR a2 b2 d2 (upT T v (bst c (fun u => (T u).2) t v C)) := fun e => IH (by rw [e]; exact hR)
    by_cases q1 : c 9 j = nn v
    rotate_left
    · obtain ⟨a2, b2, d2, r1, r2⟩ := keep (if_neg (fun e => q1 e.1))
      refine ⟨a2, b2, d2, ?_, r2⟩
      unfold ways_findNext_2
      rw [o2 2 (by decide) (by decide), h.cC, o2 9 (by decide) (by decide), nnT (by omega), e1]
      exact st_f (by simp (disch := first | omega | decide) only [lt1, nnMl, nnMr, nnAl, nnAr, nnA, nnM, nnB, nnT, nnP, nnE, nnEl, nnEr, nnL, nnLl, nnLr, nnQ, nnQr, nnN, Nat.add_zero, if_false, if_true, Option.bind_some, not_true, not_false_iff, not_true_eq_false, not_false_eq_true, eq_self, Nat.not_lt_zero, z10, z01, or_true, true_or, or_false, false_or, true_and, false_and, h2]) (st_t hi (st_t q1 r1))
    by_cases q2 : c 15 j = 0
    rotate_left
    · obtain ⟨a2, b2, d2, r1, r2⟩ := keep (if_neg (fun e => q2 e.2.1))
      refine ⟨a2, b2, d2, ?_, r2⟩
      unfold ways_findNext_2
      rw [o2 2 (by decide) (by decide), h.cC, o2 9 (by decide) (by decide), o2 15 (by decide) (by decide), nnT (by omega), e1]
      exact st_f (by simp (disch := first | omega | decide) only [lt1, nnMl, nnMr, nnAl, nnAr, nnA, nnM, nnB, nnT, nnP, nnE, nnEl, nnEr, nnL, nnLl, nnLr, nnQ, nnQr, nnN, Nat.add_zero, if_false, if_true, Option.bind_some, not_true, not_false_iff, not_true_eq_false, not_false_eq_true, eq_self, Nat.not_lt_zero, z10, z01, or_true, true_or, or_false, false_or, true_and, false_and, h2]) (st_t hi (st_f (fun e => e q1) (st_t hi (st_t q2 r1))))
    have hgt : v < cn c 10 j := by
      have := q1.symm.trans v1
      rw [nnQ (by omega) (by omega)] at this
      omega
    by_cases q3 : (T (cn c 10 j)).2 < 1000000
    rotate_left
    · obtain ⟨a2, b2, d2, r1, r2⟩ := keep (if_neg (fun e => q3 e.2.2.2.1))
      refine ⟨a2, b2, d2, ?_, r2⟩
      unfold ways_findNext_2
      rw [o2 2 (by decide) (by decide), h.cC, o2 9 (by decide) (by decide), o2 15 (by decide) (by decide), o2 10 (by decide) (by decide), nnT (by omega), e1, v2, reach hgt, if_neg q3]
      exact st_f (by simp (disch := first | omega | decide) only [lt1, nnMl, nnMr, nnAl, nnAr, nnA, nnM, nnB, nnT, nnP, nnE, nnEl, nnEr, nnL, nnLl, nnLr, nnQ, nnQr, nnN, Nat.add_zero, if_false, if_true, Option.bind_some, not_true, not_false_iff, not_true_eq_false, not_false_eq_true, eq_self, Nat.not_lt_zero, z10, z01, or_true, true_or, or_false, false_or, true_and, false_and, h2]) (st_t hi (st_f (fun e => e q1) (st_t hi (st_f (fun e => e q2) (st_t hi (st_b rfl (st_t rfl r1)))))))
    have hle : cn c 10 j ≤ t := by
      have := (t1 (cn c 10 j)).1 q3
      have := this.1
      omega
    have hw1 : (T (cn c 10 j)).2 % 100 + cn c 10 j ≤ t ∧ (T (cn c 10 j)).2 / 100 ≤ 8 * ((T (cn c 10 j)).2 % 100) := (t1 (cn c 10 j)).1 q3
    have hw2 := (hR (cn c 10 j) hw10).2 (by rw [upT_n (by omega)]; exact q3)
    rw [upT_n (by omega)] at hw2
    have sp := split_v (cn c 13 j) (T (cn c 10 j)).2 (by have := hw1.1; omega)
    -- the state behind the test
    have go : ∀ r, (if (a (cn c 10 j) + c 13 j) < a v then ways_findNext_110 (fun v2 v3 g0 => ways_findNext_2 F v2 v3 g0) (nn v) (nn j) (a (cn c 10 j) + c 13 j) (b (cn c 10 j) + 1) (ss s a b d) else (if inb (nn v) 10 = true then (if ¬ (a (cn c 10 j) + c 13 j) = a v then ways_findNext_114 (fun v2 v3 g0 => ways_findNext_2 F v2 v3 g0) (nn v) (nn j) (a (cn c 10 j) + c 13 j) (b (cn c 10 j) + 1) (ss s a b d) else (if inb (nn v) 10 = true then (if b v ≤ (b (cn c 10 j) + 1) then ways_findNext_114 (fun v2 v3 g0 => ways_findNext_2 F v2 v3 g0) (nn v) (nn j) (a (cn c 10 j) + c 13 j) (b (cn c 10 j) + 1) (ss s a b d) else ways_findNext_110 (fun v2 v3 g0 => ways_findNext_2 F v2 v3 g0) (nn v) (nn j) (a (cn c 10 j) + c 13 j) (b (cn c 10 j) + 1) (ss s a b d)) else none)) else none)) = some r → ways_findNext_2 (F + 1) (nn v) (nn j) (ss s a b d) = some r := fun r hr => by
      unfold ways_findNext_2
      rw [o2 2 (by decide) (by decide), h.cC, o2 9 (by decide) (by decide), o2 15 (by decide) (by decide), o2 10 (by decide) (by decide), nnT (show j < 2147483648 by omega), e1, v2, reach hgt, if_pos q3, o2 13 (by decide) (by decide), ss_a, ss_b, nnT (show v < 2147483648 by omega)]
      refine st_f (by simp (disch := first | omega | decide) only [lt1, nnMl, nnMr, nnAl, nnAr, nnA, nnM, nnB, nnT, nnP, nnE, nnEl, nnEr, nnL, nnLl, nnLr, nnQ, nnQr, nnN, Nat.add_zero, if_false, if_true, Option.bind_some, not_true, not_false_iff, not_true_eq_false, not_false_eq_true, eq_self, Nat.not_lt_zero, z10, z01, or_true, true_or, or_false, false_or, true_and, false_and, h2]) (st_t hi (st_f (fun e => e q1) (st_t hi (st_f (fun e => e q2) (st_t hi (st_b rfl (st_f (by decide) (st_t hi (st_l (st_t hiw (st_t hi (st_l ?_))))))))))))
      rw [nnT (show cn c 10 j < 2147483648 by omega)]
      exact st_t hiw (st_l (st_t hiv hr))
    have ea : a (cn c 10 j) + c 13 j = nn ((100 * cn c 13 j + 1 + (T (cn c 10 j)).2) / 100) := by
      rw [hw2.1, v3, nnA, sp.2, Nat.add_comm]
    have eb : b (cn c 10 j) + 1 = nn ((100 * cn c 13 j + 1 + (T (cn c 10 j)).2) % 100) := by
      rw [hw2.2, sp.1]
      exact nnA _ 1
    have hev := (hR v hv10).1
    rw [upT_e] at hev
    by_cases q4 : 100 * cn c 13 j + 1 + (T (cn c 10 j)).2 < (bst c (fun u => (T u).2) t v j).2
    · -- taken
      have eb2 : bst c (fun u => (T u).2) t v (j + 1) = (some j, 100 * cn c 13 j + 1 + (T (cn c 10 j)).2) := if_pos ⟨q1, q2, hle, q3, q4⟩
      obtain ⟨a2, b2, d2, r1, r2⟩ := ih (j + 1) F (up1 a v (a (cn c 10 j) + c 13 j)) (up1 b v (b (cn c 10 j) + 1)) (up1 d v (nn j)) (by omega) (by omega) (by
        rw [eb2]
        intro u hu
        by_cases e : u = v
        · subst e
          rw [upT_e, up1_eq, up1_eq, up1_eq]
          exact ⟨rfl, fun _ => ⟨ea, eb⟩⟩
        · have := hR u hu
          rw [upT_n e] at this
          rw [upT_n e, up1_ne e, up1_ne e, up1_ne e]
          exact this)
      refine ⟨a2, b2, d2, go _ ?_, r2⟩
      unfold ways_findNext_110 ways_findNext_114
      by_cases k1 : (a (cn c 10 j) + c 13 j) < a v
      · refine st_t k1 ?_
        rw [fN115y hv10 (Or.inr (by decide))]
        exact r1
      refine st_f k1 (st_t hiv ?_)
      rcases bp with ⟨p1, p2⟩ | ⟨i, _, p1, _, _, _, _, _, p2, p3, p4, _⟩
      · rw [p1] at hev
        rw [fN115y hv10 (Or.inl hev), fN115y hv10 (Or.inl hev)]
        by_cases k2 : (a (cn c 10 j) + c 13 j) = a v
        · refine st_f (fun e => e k2) (st_t hiv ?_)
          by_cases k3 : b v ≤ (b (cn c 10 j) + 1)
          · exact st_t k3 r1
          · exact st_f k3 r1
        · exact st_t k2 r1
      · have hc := (hR v hv10).2 (by rw [upT_e]; exact p2)
        rw [upT_e] at hc
        rw [ea, hc.1] at k1
        rw [nnL (by omega) (by omega)] at k1
        have k2 : (a (cn c 10 j) + c 13 j) = a v := by
          rw [ea, hc.1]
          congr 1
          omega
        refine st_f (fun e => e k2) (st_t hiv (st_f ?_ ?_))
        · rw [eb, hc.2, nnE (by omega) (by omega)]
          have : (100 * cn c 13 j + 1 + (T (cn c 10 j)).2) / 100 = (bst c (fun u => (T u).2) t v j).2 / 100 := by omega
          omega
        · rw [fN115y hv10 (Or.inr (by decide))]
          exact r1
    · have eb2 : bst c (fun u => (T u).2) t v (j + 1) = bst c (fun u => (T u).2) t v j := if_neg (fun e => q4 e.2.2.2.2)
      obtain ⟨a2, b2, d2, r1, r2⟩ := keep eb2
      refine ⟨a2, b2, d2, go _ ?_, r2⟩
      rcases bp with ⟨p1, p2⟩ | ⟨i, hi2, p1, _, _, _, _, _, p2, p3, p4, _⟩
      · have := (hw1.1)
        have h8 := hw1.2
        omega
      · have hc := (hR v hv10).2 (by rw [upT_e]; exact p2)
        rw [upT_e] at hc
        have hd : ¬ d v = -1 := by
          rw [hev, p1]
          exact fun e => nnN1 (by omega) e.symm
        unfold ways_findNext_110 ways_findNext_114
        rw [fN115n hv10 hd, ea, eb, hc.1, hc.2]
        refine st_f ?_ (st_t hiv ?_)
        · rw [nnL (by omega) (by omega)]
          omega
        · by_cases k2 : nn ((100 * cn c 13 j + 1 + (T (cn c 10 j)).2) / 100) = nn ((bst c (fun u => (T u).2) t v j).2 / 100)
          · refine st_f (fun e => e k2) (st_t hiv (st_t ?_ r1))
            rw [nnQ (by omega) (by omega)] at k2
            rw [nnE (by omega) (by omega)]
            omega
          · exact st_t k2 r1
end WB
end
section
/-! ways: find, leads, path, along -/
theorem sc_v {g : Sg} {a b i : Nat} {f : Nat → Int32} {v : Int32} (h : b ≠ a) : up2 (sc g a f) b i v = sc (up2 g b i v) a f := by
  funext c k
  unfold up2 sc
  by_cases h1 : c = a
  · rw [if_pos h1, if_neg (fun q => h (q.1.symm.trans h1)), if_pos h1]
  · rw [if_neg h1, if_neg h1]
theorem nnM1 {u : Nat} (h : 0 < u) : nn u - 1 = nn (u - 1) := nnS (a := u) (b := 1) h
section WC
variable {c s : Sg} {a0 : Nat → Int32} {N C Q : Nat}
theorem hN_y {n : Nat} (hs : s 2 1 = nn N) (hN : N ≤ 10) (hn : n < N) : net_hasNode (nn n) s = some 1 := by
  unfold net_hasNode
  rw [hs]
  refine st_f (by rw [nnP (by omega)]; exact id) (st_f ?_ (st_f ?_ rfl))
  · rw [nnE (by omega) (by omega)]; omega
  · rw [show (10 : Int32) = nn 10 from rfl, nnE (by omega) (by omega)]; omega
theorem hN_n {v : Int32} (hs : s 2 1 = nn N) (hN : N ≤ 10) (hn : ¬ ∃ n, n < N ∧ v = nn n) : net_hasNode v s = some 0 := by
  unfold net_hasNode
  rw [hs]
  by_cases h1 : v < 0
  · exact st_t h1 rfl
  · refine st_f h1 ?_
    by_cases h2 : nn N ≤ v
    · exact st_t h2 rfl
    · exact absurd ((rg (by omega)).mp ⟨h1, Int32.not_le.mp h2⟩) hn
theorem hC_y {n : Nat} (hs : s 2 6 = nn C) (hC : C ≤ 14) (hn : n < C) : net_hasChannel (nn n) s = some 1 := by
  unfold net_hasChannel
  rw [hs]
  refine st_f (by rw [nnP (by omega)]; exact id) (st_f ?_ (st_f ?_ rfl))
  · rw [nnE (by omega) (by omega)]; omega
  · rw [show (14 : Int32) = nn 14 from rfl, nnE (by omega) (by omega)]; omega
theorem hC_neg : net_hasChannel (-1) s = some 0 := rfl
theorem fiL {g : Sg} (h : RNet c (g 216) N C Q) (hs : ∀ i, 2 ≤ i → i ≤ 21 → s i = c i) {t f : Nat} (ht : t < 10) (hst : s 187 3 = nn t) {F0 : Nat} (hF0 : 14 < F0) : ∀ m u F a b d, u = f + m → u ≤ t → m < F → CR a b d (tab c C t (t - u)) → ∃ a2 b2 d2, ways_find_55 F0 F (nn f) (nn u - 1) (ss s a b d) = some (if (tab c C t (t - f) f).1 = none then 0 else 1, ss s a2 b2 d2) ∧ CR a2 b2 d2 (tab c C t (t - f)) := by
  have hC := h.hC
  intro m
  induction m with
  | zero =>
    intro u F a b d hu hut hF hR
    obtain ⟨F, rfl⟩ : ∃ F2, F = F2 + 1 := ⟨F - 1, by omega⟩
    have : u = f := by omega
    subst this
    refine ⟨a, b, d, ?_, hR⟩
    have hu10 : u < 10 := by omega
    unfold ways_find_55
    rw [ss_d, nnT (by omega)]
    refine st_t ?_ (st_t (by simp (disch := first | omega | decide) only [lt1, nnMl, nnMr, nnAl, nnAr, nnA, nnM, nnB, nnT, nnP, nnE, nnEl, nnEr, nnL, nnLl, nnLr, nnQ, nnQr, nnN, Nat.add_zero, if_false, if_true, Option.bind_some, not_true, not_false_iff, not_true_eq_false, not_false_eq_true, eq_self, Nat.not_lt_zero, z10, z01, or_true, true_or, or_false, false_or, true_and, false_and, hu10]) ?_)
    · rw [← le_lt1 (by omega)]; exact Int32.le_refl _
    · have := (hR u hu10).1
      rw [this]
      cases hb : (tab c C t (t - u) u).1 with
      | none => exact st_t rfl rfl
      | some i =>
        have := (tab_ok h ht (t - u) (by omega)).2.2.2.2.2 u i hb
        exact st_f (show ¬ nn i = -1 from fun e => nnN1 (by omega) e.symm) rfl
  | succ m ih =>
    intro u F a b d hu hut hF hR
    obtain ⟨F, rfl⟩ : ∃ F2, F = F2 + 1 := ⟨F - 1, by omega⟩
    have hv : u - 1 < t := by omega
    obtain ⟨o1, o2, o3, o4, o5, o6⟩ := tab_ok h ht (t - u) (by omega)
    rw [show t - (t - u) = u by omega] at o2 o5
    have okt : okT (tab c C t (t - u)) t (u - 1 + 1) := by
      rw [show u - 1 + 1 = u by omega]
      exact ⟨o1, o2, o3, o4, o5, o6⟩
    obtain ⟨a1, b1, d1, r1, r2⟩ := fNL h hs ht hv hst okt C 0 F0 a b d (by omega) (by omega) (by
      intro x hx
      by_cases e : x = u - 1
      · have := hR x hx
        rw [o2 x (Or.inl (by omega)), o5 x (by omega)] at this
        rw [e, upT_e]
        rw [e] at this
        exact this
      · rw [upT_n e]; exact hR x hx)
    have e : upT (tab c C t (t - u)) (u - 1) (bst c (fun x => (tab c C t (t - u) x).2) t (u - 1) C) = tab c C t (t - (u - 1)) := by
      rw [show t - (u - 1) = t - u + 1 by omega]
      show _ = upT (tab c C t (t - u)) (t - (t - u + 1)) (bst c (fun x => (tab c C t (t - u) x).2) t (t - (t - u + 1)) C)
      rw [show t - (t - u + 1) = u - 1 by omega]
    rw [e] at r2
    obtain ⟨a2, b2, d2, r3, r4⟩ := ih (u - 1) F a1 b1 d1 (by omega) (by omega) (by omega) r2
    refine ⟨a2, b2, d2, ?_, r4⟩
    unfold ways_find_55
    rw [nnM1 (by omega)]
    refine st_f ?_ (st_b (x := ss s a1 b1 d1) ?_ ?_)
    · rw [nnL (by omega) (by omega)]; omega
    · exact r1
    · rw [← Int32.sub_eq_add_neg]
      exact r3
/-- what find and leads say -/
def wyR (c : Sg) (C f t : Nat) : Int32 := if (tab c C t t f).2 < 1000000 then 1 else 0
theorem wy_one {f t : Nat} : wyR c C f t = 0 ∨ wyR c C f t = 1 := by
  unfold wyR
  split
  · exact Or.inr rfl
  · exact Or.inl rfl
theorem tab_f {t v f : Nat} (hv : f ≤ v) (hft : f ≤ t) : tab c C t (t - f) v = tab c C t t v := by
  have := tab_st (c := c) (C := C) (t := t) f (t - f) (by omega) v (by omega)
  rw [show t - f + f = t by omega] at this
  exact this.symm
theorem find_y {g : Sg} (h : RNet c (g 216) N C Q) (hs : ∀ i, 2 ≤ i → i ≤ 21 → s i = c i) {t f : Nat} (hft : f < t) (htN : t < N) {F : Nat} (hF : 20 < F) : ∃ a b d, ways_find F (nn f) (nn t) s = some (wyR c C f t, ss (up2 s 187 3 (nn t)) a b d) ∧ ∀ u, f ≤ u → u < 10 → d u = oN (tab c C t t u).1 ∧ ((tab c C t t u).2 < 1000000 → a u = nn ((tab c C t t u).2 / 100) ∧ b u = nn ((tab c C t t u).2 % 100)) := by
  have hN := h.hN
  have ht10 : t < 10 := by omega
  have h21 : s 2 1 = nn N := by rw [hs 2 (by decide) (by decide), h.cN]
  obtain ⟨d0, p1, p2⟩ := jA_fill_y (v := -1) (s := s) (F := F) (by omega)
  have eS : up2 (up2 (up2 (sc s 190 d0) 187 3 (nn t)) 188 t 0) 189 t 0 = ss (up2 s 187 3 (nn t)) (up1 (s 188) t 0) (up1 (s 189) t 0) d0 := by
    rw [sc_v (by decide)]
    have : sc (up2 s 187 3 (nn t)) 190 d0 = ss (up2 s 187 3 (nn t)) (s 188) (s 189) d0 := by
      unfold ss
      have e1 : sc (up2 s 187 3 (nn t)) 188 (s 188) = up2 s 187 3 (nn t) := by
        have := sc_s (g := up2 s 187 3 (nn t)) (a := 188)
        rwa [u2n (by decide)] at this
      have e2 : sc (up2 s 187 3 (nn t)) 189 (s 189) = up2 s 187 3 (nn t) := by
        have := sc_s (g := up2 s 187 3 (nn t)) (a := 189)
        rwa [u2n (by decide)] at this
      rw [e1, e2]
    rw [this, ss_ua, ss_ub]
  have hT0 : ∀ u, tab c C t (t - t) u = (none, if u = t then 0 else 1000000) := fun u => by
    rw [Nat.sub_self]; rfl
  obtain ⟨a2, b2, d2, r1, r2⟩ := fiL h (s := up2 s 187 3 (nn t)) (fun i e1 e2 => by rw [u2n (by omega)]; exact hs i e1 e2) ht10 (f := f) (by rw [u2e, up1_eq]) (F0 := F) (by omega) (t - f) t F (up1 (s 188) t 0) (up1 (s 189) t 0) d0 (by omega) (Nat.le_refl _) (by omega) (by
    intro u hu
    rw [hT0 u]
    refine ⟨p1 u hu, fun e => ?_⟩
    have : u = t := by
      by_cases q : u = t
      · exact q
      · have e : (if u = t then 0 else 1000000) < 1000000 := e
        rw [if_neg q] at e
        omega
    subst this
    show up1 (s 188) u 0 u = nn ((if u = u then 0 else 1000000) / 100) ∧ up1 (s 189) u 0 u = nn ((if u = u then 0 else 1000000) % 100)
    rw [up1_eq, up1_eq, if_pos rfl]
    exact ⟨rfl, rfl⟩)
  have e9 : (if (tab c C t (t - f) f).1 = none then 0 else 1 : Int32) = wyR c C f t := by
    obtain ⟨o1, o2, o3, o4, o5, o6⟩ := tab_ok h ht10 t (Nat.le_refl _)
    rw [tab_f (Nat.le_refl _) (by omega)]
    unfold wyR
    have h4 := o4 f (by omega)
    have h5 := (o1 f).2
    by_cases q : (tab c C t t f).1 = none
    · have := h4.mp q
      rw [if_pos q, if_neg (by omega)]
    · rw [if_neg q, if_pos]
      by_cases q2 : (tab c C t t f).2 = 1000000
      · exact absurd (h4.mpr q2) q
      · have h5 : (tab c C t t f).2 ≤ 1000000 := h5
        omega
  rw [e9] at r1
  refine ⟨a2, b2, d2, ?_, fun u hu1 hu2 => ?_⟩
  · unfold ways_find
    refine st_b (hN_y h21 hN (show f < N by omega)) (st_f (by decide) (st_b (hN_y h21 hN htN) (st_f (by decide) (st_t ?_ (st_b p2 (st_l ?_))))))
    · rw [nnL (by omega) (by omega)]; exact hft
    · refine st_w (by simp (disch := first | omega | decide) only [lt1, nnMl, nnMr, nnAl, nnAr, nnA, nnM, nnB, nnT, nnP, nnE, nnEl, nnEr, nnL, nnLl, nnLr, nnQ, nnQr, nnN, Nat.add_zero, if_false, if_true, Option.bind_some, not_true, not_false_iff, not_true_eq_false, not_false_eq_true, eq_self, Nat.not_lt_zero, z10, z01, or_true, true_or, or_false, false_or, true_and, false_and, ht10]) (st_w (by simp (disch := first | omega | decide) only [lt1, nnMl, nnMr, nnAl, nnAr, nnA, nnM, nnB, nnT, nnP, nnE, nnEl, nnEr, nnL, nnLl, nnLr, nnQ, nnQr, nnN, Nat.add_zero, if_false, if_true, Option.bind_some, not_true, not_false_iff, not_true_eq_false, not_false_eq_true, eq_self, Nat.not_lt_zero, z10, z01, or_true, true_or, or_false, false_or, true_and, false_and, ht10]) (st_l ?_))
      rw [nnT (by omega), eS]
      exact r1
  · have := r2 u hu2
    rw [tab_f hu1 (by omega)] at this
    exact this
/-- no such two nodes -/
def noWay (N : Nat) (v1 v2 : Int32) : Prop := ¬ ∃ f t, f < t ∧ t < N ∧ v1 = nn f ∧ v2 = nn t
theorem find_n {v1 v2 : Int32} (h21 : s 2 1 = nn N) (hN : N ≤ 10) (hn : noWay N v1 v2) {F : Nat} : ways_find F v1 v2 s = some (0, s) := by
  unfold ways_find
  by_cases h1 : ∃ n, n < N ∧ v1 = nn n
  · obtain ⟨f, hf, rfl⟩ := h1
    refine st_b (hN_y h21 hN hf) (st_f (by decide) ?_)
    by_cases h2 : ∃ n, n < N ∧ v2 = nn n
    · obtain ⟨t, ht, rfl⟩ := h2
      refine st_b (hN_y h21 hN ht) (st_f (by decide) (st_f ?_ rfl))
      rw [nnL (by omega) (by omega)]
      exact fun e => hn ⟨f, t, e, ht, rfl, rfl⟩
    · exact st_b (hN_n h21 hN h2) (st_t rfl rfl)
  · exact st_b (hN_n h21 hN h1) (st_t rfl rfl)
theorem iO_y {n : Nat} (hs : s 216 0 = nn N) (hN : N ≤ 10) (hn : n < N) : m_isOf_k0 (nn n) s = some 1 := by
  unfold m_isOf_k0
  exact st_b (isOf_y hs (by omega) hn) (st_t (Or.inr rfl) rfl)
theorem iO_n {v : Int32} (hs : s 216 0 = nn N) (hN : N ≤ 10) (hn : ¬ ∃ n, n < N ∧ v = nn n) : m_isOf_k0 v s = some 0 := by
  unfold m_isOf_k0
  exact st_b (isOf_n hs (by omega) hn) (st_t (Or.inl rfl) rfl)
theorem leads_n {v1 v2 : Int32} (h21 : s 216 0 = nn N) (hN : N ≤ 10) (hn : noWay N v1 v2) {F : Nat} : m_leads F v1 v2 s = some (0, s) := by
  unfold m_leads
  by_cases h1 : ∃ n, n < N ∧ v1 = nn n
  · obtain ⟨f, hf, rfl⟩ := h1
    refine st_b (iO_y h21 hN hf) (st_f (by decide) ?_)
    by_cases h2 : ∃ n, n < N ∧ v2 = nn n
    · obtain ⟨t, ht, rfl⟩ := h2
      refine st_b (iO_y h21 hN ht) (st_f (by decide) (st_f ?_ rfl))
      rw [nnL (by omega) (by omega)]
      exact fun e => hn ⟨f, t, e, ht, rfl, rfl⟩
    · exact st_b (iO_n h21 hN h2) (st_t rfl rfl)
  · exact st_b (iO_n h21 hN h1) (st_t rfl rfl)
theorem mch0 (h : RNet c (s 216) N C Q) {j : Nat} (hj : j < 14) : m_channelOf_k0 (nn j) s = some (c 9 j) := by
  rw [← h.frm j hj]
  exact chanOf_y (g := s) hj (k := 0) (by decide)
theorem mch1 (h : RNet c (s 216) N C Q) {j : Nat} (hj : j < 14) : m_channelOf_k1 (nn j) s = some (c 10 j) := by
  rw [← h.to j hj]
  exact chanOf_y (g := s) hj (k := 1) (by decide)
theorem mch2 (h : RNet c (s 216) N C Q) {j : Nat} (hj : j < 14) : m_channelOf_k2 (nn j) s = some (c 11 j) := by
  rw [← h.low j hj]
  exact chanOf_y (g := s) hj (k := 2) (by decide)
theorem mch3 (h : RNet c (s 216) N C Q) {j : Nat} (hj : j < 14) : m_channelOf_k3 (nn j) s = some (c 12 j) := by
  rw [← h.hig j hj]
  exact chanOf_y (g := s) hj (k := 3) (by decide)
theorem mch4 (h : RNet c (s 216) N C Q) {j : Nat} (hj : j < 14) : m_channelOf_k4 (nn j) s = some (c 13 j) := by
  rw [← h.trv j hj]
  exact chanOf_y (g := s) hj (k := 4) (by decide)
theorem mch5 (h : RNet c (s 216) N C Q) {j : Nat} (hj : j < 14) : m_channelOf_k5 (nn j) s = some (c 14 j) := by
  rw [← h.brd j hj]
  exact chanOf_y (g := s) hj (k := 5) (by decide)
theorem mch6 (h : RNet c (s 216) N C Q) {j : Nat} (hj : j < 14) : m_channelOf_k6 (nn j) s = some (c 15 j) := by
  rw [← h.brk j hj]
  exact chanOf_y (g := s) hj (k := 6) (by decide)
theorem bst_cg (hv : Nat) {t : Nat} {V V2 : Nat → Nat} (hV : ∀ j, j < C → c 9 j = nn hv → V (cn c 10 j) = V2 (cn c 10 j)) : ∀ j, j ≤ C → bst c V t hv j = bst c V2 t hv j := by
  intro j
  induction j with
  | zero => exact fun _ => rfl
  | succ j ih =>
    intro hj
    have ih := ih (by omega)
    by_cases q : c 9 j = nn hv
    · show (if c 9 j = nn hv ∧ c 15 j = 0 ∧ cn c 10 j ≤ t ∧ V (cn c 10 j) < 1000000 ∧ 100 * cn c 13 j + 1 + V (cn c 10 j) < (bst c V t hv j).2 then (some j, 100 * cn c 13 j + 1 + V (cn c 10 j)) else bst c V t hv j) = (if c 9 j = nn hv ∧ c 15 j = 0 ∧ cn c 10 j ≤ t ∧ V2 (cn c 10 j) < 1000000 ∧ 100 * cn c 13 j + 1 + V2 (cn c 10 j) < (bst c V2 t hv j).2 then (some j, 100 * cn c 13 j + 1 + V2 (cn c 10 j)) else bst c V2 t hv j)
      rw [hV j (by omega) q, ih]
    · exact (if_neg (fun e => q e.1)).trans (ih.trans (if_neg (fun e => q e.1)).symm)
theorem tab_b (h : RNet c a0 N C Q) {t v : Nat} (ht : t < 10) (hv : v < t) : tab c C t t v = bst c (fun u => (tab c C t t u).2) t v C := by
  have h9 : RNet c ((fun _ => a0 : Sg) 216) N C Q := h
  have e0 : tab c C t t v = tab c C t (t - v) v := (tab_f (Nat.le_refl _) (by omega)).symm
  have e1 : tab c C t (t - v) v = bst c (fun u => (tab c C t (t - v - 1) u).2) t v C := by
    have : tab c C t (t - v - 1 + 1) (t - (t - v - 1 + 1)) = bst c (fun u => (tab c C t (t - v - 1) u).2) t (t - (t - v - 1 + 1)) C := upT_e
    rwa [show t - v - 1 + 1 = t - v by omega, show t - (t - v) = v by omega] at this
  rw [e0, e1]
  refine bst_cg v (fun j hj hq => ?_) C (Nat.le_refl _)
  obtain ⟨v1, v2, v3, v4, v5, v6⟩ := chan_v (g := fun _ => a0) h hj
  have hN := h.hN
  have := hq.symm.trans v1
  rw [nnQ (by omega) (by omega)] at this
  show (tab c C t (t - v - 1) (cn c 10 j)).2 = (tab c C t t (cn c 10 j)).2
  rw [show t - v - 1 = t - (v + 1) by omega, tab_f (by omega) (by omega)]
theorem skIn (h : RNet c (s 216) N C Q) {t n : Nat} (ht : t < 10) (hn : n < t) {V : Nat → Nat} (hV : okV V t) {K : Int32 → Int32 → Sg → Option Sg} : ∀ m j F e, j + m = C → m < F → e n = nn (bst c V t n j).2 → (∀ x, n < x → x < 10 → e x = nn (V x)) → ∃ e2, m_seeks_26 K F (nn t) (nn n) (nn j) (sc s 218 e) = K (nn t) (nn n + (-1)) (sc s 218 e2) ∧ e2 n = nn (bst c V t n C).2 ∧ ∀ x, x ≠ n → e2 x = e x := by
  have hC := h.hC
  have hN := h.hN
  intro m
  induction m with
  | zero =>
    intro j F e hj hF he hx
    obtain ⟨F, rfl⟩ : ∃ F2, F = F2 + 1 := ⟨F - 1, by omega⟩
    have : j = C := by omega
    subst this
    refine ⟨e, ?_, he, fun x _ => rfl⟩
    unfold m_seeks_26
    rw [sc_n (by decide), h.aC]
    exact if_pos (Int32.le_refl _)
  | succ m ih =>
    intro j F e hj hF he hx
    obtain ⟨F, rfl⟩ : ∃ F2, F = F2 + 1 := ⟨F - 1, by omega⟩
    have hs : RNet c ((sc s 218 e) 216) N C Q := by rw [sc_n (by decide)]; exact h
    obtain ⟨v1, v2, v3, v4, v5, v6⟩ := chan_v h (show j < C by omega)
    have hj14 : j < 14 := by omega
    have hn10 : n < 10 := by omega
    have h2 : ¬ C ≤ j := by omega
    have h3 : ¬ t ≤ n := by omega
    have e1 : nn j + 1 = nn (j + 1) := nnA j 1
    have keep : bst c V t n (j + 1) = bst c V t n j → ∃ e2, m_seeks_26 K F (nn t) (nn n) (nn (j + 1)) (sc s 218 e) = K (nn t) (nn n + (-1)) (sc s 218 e2) ∧ e2 n = nn (bst c V t n C).2 ∧ ∀ x, x ≠ n → e2 x = e x := fun q => ih (j + 1) F e (by omega) (by omega) (by rw [q]; exact he) hx
    by_cases q1 : c 9 j = nn n
    rotate_left
    · obtain ⟨e2, r1, r2⟩ := keep (if_neg (fun q => q1 q.1))
      refine ⟨e2, ?_, r2⟩
      unfold m_seeks_26
      rw [sc_n (by decide), h.aC, e1]
      exact st_f (by simp (disch := first | omega | decide) only [lt1, nnMl, nnMr, nnAl, nnAr, nnA, nnM, nnB, nnT, nnP, nnE, nnEl, nnEr, nnL, nnLl, nnLr, nnQ, nnQr, nnN, Nat.add_zero, if_false, if_true, Option.bind_some, not_true, not_false_iff, not_true_eq_false, not_false_eq_true, eq_self, Nat.not_lt_zero, z10, z01, or_true, true_or, or_false, false_or, true_and, false_and, h2]) (st_f (by simp (disch := first | omega | decide) only [lt1, nnMl, nnMr, nnAl, nnAr, nnA, nnM, nnB, nnT, nnP, nnE, nnEl, nnEr, nnL, nnLl, nnLr, nnQ, nnQr, nnN, Nat.add_zero, if_false, if_true, Option.bind_some, not_true, not_false_iff, not_true_eq_false, not_false_eq_true, eq_self, Nat.not_lt_zero, z10, z01, or_true, true_or, or_false, false_or, true_and, false_and, h3]) (st_b (mch0 hs hj14) (st_t q1 r1)))
    by_cases q2 : c 15 j = 0
    rotate_left
    · obtain ⟨e2, r1, r2⟩ := keep (if_neg (fun q => q2 q.2.1))
      refine ⟨e2, ?_, r2⟩
      unfold m_seeks_26
      rw [sc_n (by decide), h.aC, e1]
      exact st_f (by simp (disch := first | omega | decide) only [lt1, nnMl, nnMr, nnAl, nnAr, nnA, nnM, nnB, nnT, nnP, nnE, nnEl, nnEr, nnL, nnLl, nnLr, nnQ, nnQr, nnN, Nat.add_zero, if_false, if_true, Option.bind_some, not_true, not_false_iff, not_true_eq_false, not_false_eq_true, eq_self, Nat.not_lt_zero, z10, z01, or_true, true_or, or_false, false_or, true_and, false_and, h2]) (st_f (by simp (disch := first | omega | decide) only [lt1, nnMl, nnMr, nnAl, nnAr, nnA, nnM, nnB, nnT, nnP, nnE, nnEl, nnEr, nnL, nnLl, nnLr, nnQ, nnQr, nnN, Nat.add_zero, if_false, if_true, Option.bind_some, not_true, not_false_iff, not_true_eq_false, not_false_eq_true, eq_self, Nat.not_lt_zero, z10, z01, or_true, true_or, or_false, false_or, true_and, false_and, h3]) (st_b (mch0 hs hj14) (st_f (fun q => q q1) (st_b (mch6 hs hj14) (st_t ((h.brkV j hj14).resolve_left q2) r1)))))
    have q2n : ¬ c 15 j = 1 := by rw [q2]; decide
    by_cases q3 : cn c 10 j ≤ t
    rotate_left
    · obtain ⟨e2, r1, r2⟩ := keep (if_neg (fun q => q3 q.2.2.1))
      refine ⟨e2, ?_, r2⟩
      unfold m_seeks_26
      rw [sc_n (by decide), h.aC, e1]
      exact st_f (by simp (disch := first | omega | decide) only [lt1, nnMl, nnMr, nnAl, nnAr, nnA, nnM, nnB, nnT, nnP, nnE, nnEl, nnEr, nnL, nnLl, nnLr, nnQ, nnQr, nnN, Nat.add_zero, if_false, if_true, Option.bind_some, not_true, not_false_iff, not_true_eq_false, not_false_eq_true, eq_self, Nat.not_lt_zero, z10, z01, or_true, true_or, or_false, false_or, true_and, false_and, h2]) (st_f (by simp (disch := first | omega | decide) only [lt1, nnMl, nnMr, nnAl, nnAr, nnA, nnM, nnB, nnT, nnP, nnE, nnEl, nnEr, nnL, nnLl, nnLr, nnQ, nnQr, nnN, Nat.add_zero, if_false, if_true, Option.bind_some, not_true, not_false_iff, not_true_eq_false, not_false_eq_true, eq_self, Nat.not_lt_zero, z10, z01, or_true, true_or, or_false, false_or, true_and, false_and, h3]) (st_b (mch0 hs hj14) (st_f (fun q => q q1) (st_b (mch6 hs hj14) (st_f q2n (st_b (mch1 hs hj14) (st_f (by rw [v2, nnE (by omega) (by omega)]; exact q3) r1)))))))
    have hgt : n < cn c 10 j := by
      have := q1.symm.trans v1
      rw [nnQ (by omega) (by omega)] at this
      omega
    have hw10 : cn c 10 j < 10 := by omega
    have hVw := hV (cn c 10 j)
    have hb := (bst_p h ht hn hV j (by omega)).1
    have hb2 : (bst c V t n j).2 ≤ 1000000 := by
      rcases hb with ⟨_, q⟩ | ⟨i, _, _, _, _, _, _, _, q, _⟩ <;> omega
    have ex : 100 * c 13 j + 1 + e (cn c 10 j) = nn (100 * cn c 13 j + 1 + V (cn c 10 j)) := by
      rw [hx _ hgt hw10, v3]
      unfold cn
      simp (disch := first | omega | decide) only [lt1, nnMl, nnMr, nnAl, nnAr, nnA, nnM, nnB, nnT, nnP, nnE, nnEl, nnEr, nnL, nnLl, nnLr, nnQ, nnQr, nnN, Nat.add_zero, if_false, if_true, Option.bind_some, not_true, not_false_iff, not_true_eq_false, not_false_eq_true, eq_self, Nat.not_lt_zero, z10, z01, or_true, true_or, or_false, false_or, true_and, false_and]
    have go : ∀ r, (if e n ≤ nn (100 * cn c 13 j + 1 + V (cn c 10 j)) then m_seeks_26 K F (nn t) (nn n) (nn (j + 1)) (sc s 218 e) else m_seeks_26 K F (nn t) (nn n) (nn (j + 1)) (sc s 218 (up1 e n (nn (100 * cn c 13 j + 1 + V (cn c 10 j)))))) = r → m_seeks_26 K (F + 1) (nn t) (nn n) (nn j) (sc s 218 e) = r := fun r hr => by
      unfold m_seeks_26
      rw [sc_n (by decide), h.aC, e1]
      refine st_f (by simp (disch := first | omega | decide) only [lt1, nnMl, nnMr, nnAl, nnAr, nnA, nnM, nnB, nnT, nnP, nnE, nnEl, nnEr, nnL, nnLl, nnLr, nnQ, nnQr, nnN, Nat.add_zero, if_false, if_true, Option.bind_some, not_true, not_false_iff, not_true_eq_false, not_false_eq_true, eq_self, Nat.not_lt_zero, z10, z01, or_true, true_or, or_false, false_or, true_and, false_and, h2]) (st_f (by simp (disch := first | omega | decide) only [lt1, nnMl, nnMr, nnAl, nnAr, nnA, nnM, nnB, nnT, nnP, nnE, nnEl, nnEr, nnL, nnLl, nnLr, nnQ, nnQr, nnN, Nat.add_zero, if_false, if_true, Option.bind_some, not_true, not_false_iff, not_true_eq_false, not_false_eq_true, eq_self, Nat.not_lt_zero, z10, z01, or_true, true_or, or_false, false_or, true_and, false_and, h3]) (st_b (mch0 hs hj14) (st_f (fun q => q q1) (st_b (mch6 hs hj14) (st_f q2n (st_b (mch1 hs hj14) (st_t (by rw [v2, nnE (by omega) (by omega)]; exact q3) (st_b (mch4 hs hj14) (st_b (mch1 hs hj14) (st_t (by rw [v2]; simp (disch := first | omega | decide) only [lt1, nnMl, nnMr, nnAl, nnAr, nnA, nnM, nnB, nnT, nnP, nnE, nnEl, nnEr, nnL, nnLl, nnLr, nnQ, nnQr, nnN, Nat.add_zero, if_false, if_true, Option.bind_some, not_true, not_false_iff, not_true_eq_false, not_false_eq_true, eq_self, Nat.not_lt_zero, z10, z01, or_true, true_or, or_false, false_or, true_and, false_and, hw10]) (st_l (st_t (by simp (disch := first | omega | decide) only [lt1, nnMl, nnMr, nnAl, nnAr, nnA, nnM, nnB, nnT, nnP, nnE, nnEl, nnEr, nnL, nnLl, nnLr, nnQ, nnQr, nnN, Nat.add_zero, if_false, if_true, Option.bind_some, not_true, not_false_iff, not_true_eq_false, not_false_eq_true, eq_self, Nat.not_lt_zero, z10, z01, or_true, true_or, or_false, false_or, true_and, false_and, hn10]) ?_))))))))))))
      rw [sc_e, v2, nnT (show cn c 10 j < 2147483648 by omega), nnT (show n < 2147483648 by omega), ex, sc_u]
      rw [← hr]
      by_cases q : e n ≤ nn (100 * cn c 13 j + 1 + V (cn c 10 j))
      · rw [if_pos q, if_pos q]
      · rw [if_neg q, if_neg q]
        exact if_pos (by simp (disch := first | omega | decide) only [lt1, nnMl, nnMr, nnAl, nnAr, nnA, nnM, nnB, nnT, nnP, nnE, nnEl, nnEr, nnL, nnLl, nnLr, nnQ, nnQr, nnN, Nat.add_zero, if_false, if_true, Option.bind_some, not_true, not_false_iff, not_true_eq_false, not_false_eq_true, eq_self, Nat.not_lt_zero, z10, z01, or_true, true_or, or_false, false_or, true_and, false_and, hn10])
    by_cases q4 : V (cn c 10 j) < 1000000 ∧ 100 * cn c 13 j + 1 + V (cn c 10 j) < (bst c V t n j).2
    · have eb : bst c V t n (j + 1) = (some j, 100 * cn c 13 j + 1 + V (cn c 10 j)) := if_pos ⟨q1, q2, q3, q4⟩
      obtain ⟨e2, r1, r2, r3⟩ := ih (j + 1) F (up1 e n (nn (100 * cn c 13 j + 1 + V (cn c 10 j)))) (by omega) (by omega) (by rw [eb, up1_eq]) (fun x p1 p2 => by rw [up1_ne (by omega)]; exact hx x p1 p2)
      refine ⟨e2, go _ ?_, r2, fun x hx => by rw [r3 x hx, up1_ne hx]⟩
      refine st_f ?_ r1
      rw [he, nnE (by omega) (by omega)]
      omega
    · obtain ⟨e2, r1, r2⟩ := keep (if_neg (fun q => q4 q.2.2.2))
      refine ⟨e2, go _ (st_t ?_ r1), r2⟩
      rw [he, nnE (by omega) (by omega)]
      omega
theorem skOut (h : RNet c (s 216) N C Q) {t n : Nat} (ht : t < 10) (hn : t ≤ n) (hn2 : n < 10) {K : Int32 → Int32 → Sg → Option Sg} {e : Nat → Int32} {F : Nat} (hF : 0 < F) : m_seeks_26 K F (nn t) (nn n) 0 (sc s 218 e) = K (nn t) (nn n + (-1)) (sc s 218 e) := by
  obtain ⟨F, rfl⟩ : ∃ F2, F = F2 + 1 := ⟨F - 1, by omega⟩
  unfold m_seeks_26
  by_cases q : (sc s 218 e) 216 1 ≤ 0
  · exact st_t q rfl
  · exact st_f q (st_t (by rw [nnE (by omega) (by omega)]; exact hn) rfl)
theorem seL (h : RNet c (s 216) N C Q) {t : Nat} (ht : t < 10) {F0 : Nat} (hF0 : 14 < F0) : ∀ u F e, u ≤ 10 → u < F → (∀ x, u ≤ x → x < 10 → e x = nn (tab c C t t x).2) → ∃ e2, m_seeks_3 F0 F (nn t) (nn u - 1) (sc s 218 e) = some (sc s 218 e2) ∧ ∀ x, x < 10 → e2 x = nn (tab c C t t x).2 := by
  have hC := h.hC
  have h9 : RNet c (s 216) N C Q := h
  obtain ⟨o1, o2, o3, o4, o5, o6⟩ := tab_ok h ht t (Nat.le_refl _)
  intro u
  induction u with
  | zero =>
    intro F e hu hF he
    obtain ⟨F, rfl⟩ : ∃ F2, F = F2 + 1 := ⟨F - 1, by omega⟩
    refine ⟨e, ?_, fun x hx => he x (Nat.zero_le _) hx⟩
    unfold m_seeks_3
    exact st_t (by decide) rfl
  | succ n ih =>
    intro F e hu hF he
    obtain ⟨F, rfl⟩ : ∃ F2, F = F2 + 1 := ⟨F - 1, by omega⟩
    have hn10 : n < 10 := by omega
    have em : nn n + (-1) = nn n - 1 := (Int32.sub_eq_add_neg _ _).symm
    unfold m_seeks_3
    rw [nnS1, nnT (by omega), sc_u, sc_u]
    by_cases q : n < t
    · obtain ⟨e1, r1, r2, r3⟩ := skIn (K := fun v1 v2 g0 => m_seeks_3 F0 F v1 v2 g0) h ht q o1 C 0 F0 (up1 e n 1000000) (by omega) (by omega) (by rw [up1_eq]; rfl) (fun x p1 p2 => by rw [up1_ne (by omega)]; exact he x (by omega) p2)
      rw [em] at r1
      obtain ⟨e2, r4, r5⟩ := ih F e1 (by omega) (by omega) (fun x p1 p2 => by
        by_cases qx : x = n
        · rw [qx, r2, tab_b h ht q]
        · rw [r3 x qx, up1_ne qx]; exact he x (by omega) p2)
      refine ⟨e2, ?_, r5⟩
      refine st_f (by rw [nnP (by omega)]; exact id) (st_t (nnNe (by omega) (by omega) (by omega)) (st_w (by simp (disch := first | omega | decide) only [lt1, nnMl, nnMr, nnAl, nnAr, nnA, nnM, nnB, nnT, nnP, nnE, nnEl, nnEr, nnL, nnLl, nnLr, nnQ, nnQr, nnN, Nat.add_zero, if_false, if_true, Option.bind_some, not_true, not_false_iff, not_true_eq_false, not_false_eq_true, eq_self, Nat.not_lt_zero, z10, z01, or_true, true_or, or_false, false_or, true_and, false_and, hn10]) ?_))
      exact r1.trans r4
    · by_cases q2 : n = t
      · obtain ⟨e2, r4, r5⟩ := ih F (up1 e n 0) (by omega) (by omega) (fun x p1 p2 => by
          by_cases qx : x = n
          · rw [qx, up1_eq, q2, o3]; rfl
          · rw [up1_ne qx]; exact he x (by omega) p2)
        refine ⟨e2, ?_, r5⟩
        refine st_f (by rw [nnP (by omega)]; exact id) (st_f (fun q => q (by rw [q2])) (st_w (by simp (disch := first | omega | decide) only [lt1, nnMl, nnMr, nnAl, nnAr, nnA, nnM, nnB, nnT, nnP, nnE, nnEl, nnEr, nnL, nnLl, nnLr, nnQ, nnQr, nnN, Nat.add_zero, if_false, if_true, Option.bind_some, not_true, not_false_iff, not_true_eq_false, not_false_eq_true, eq_self, Nat.not_lt_zero, z10, z01, or_true, true_or, or_false, false_or, true_and, false_and, hn10]) ?_))
        rw [skOut h ht (by omega) hn10 (by omega), em]
        exact r4
      · obtain ⟨e2, r4, r5⟩ := ih F (up1 e n 1000000) (by omega) (by omega) (fun x p1 p2 => by
          by_cases qx : x = n
          · rw [qx, up1_eq, (o4 n q2).mp (o2 n (Or.inr (by omega)))]; rfl
          · rw [up1_ne qx]; exact he x (by omega) p2)
        refine ⟨e2, ?_, r5⟩
        refine st_f (by rw [nnP (by omega)]; exact id) (st_t (nnNe (by omega) (by omega) q2) (st_w (by simp (disch := first | omega | decide) only [lt1, nnMl, nnMr, nnAl, nnAr, nnA, nnM, nnB, nnT, nnP, nnE, nnEl, nnEr, nnL, nnLl, nnLr, nnQ, nnQr, nnN, Nat.add_zero, if_false, if_true, Option.bind_some, not_true, not_false_iff, not_true_eq_false, not_false_eq_true, eq_self, Nat.not_lt_zero, z10, z01, or_true, true_or, or_false, false_or, true_and, false_and, hn10]) ?_))
        rw [skOut h ht (by omega) hn10 (by omega), em]
        exact r4
theorem leads_y (h : RNet c (s 216) N C Q) {t f : Nat} (hft : f < t) (htN : t < N) {F : Nat} (hF : 20 < F) : ∃ e, m_leads F (nn f) (nn t) s = some (wyR c C f t, sc s 218 e) ∧ ∀ x, x < 10 → e x = nn (tab c C t t x).2 := by
  have hN := h.hN
  have hf10 : f < 10 := by omega
  obtain ⟨e, r1, r2⟩ := seL h (show t < 10 by omega) (F0 := F) (by omega) 10 F (s 218) (Nat.le_refl _) (by omega) (fun x p1 p2 => absurd p1 (by omega))
  rw [sc_s] at r1
  refine ⟨e, ?_, r2⟩
  obtain ⟨o1, o2, o3, o4, o5, o6⟩ := tab_ok h (show t < 10 by omega) t (Nat.le_refl _)
  have hle : (tab c C t t f).2 ≤ 1000000 := (o1 f).2
  unfold m_leads
  refine st_b (iO_y h.aN hN (show f < N by omega)) (st_f (by decide) (st_b (iO_y h.aN hN htN) (st_f (by decide) (st_t (by rw [nnL (by omega) (by omega)]; exact hft) (st_b (x := sc s 218 e) ?_ (st_t (by simp (disch := first | omega | decide) only [lt1, nnMl, nnMr, nnAl, nnAr, nnA, nnM, nnB, nnT, nnP, nnE, nnEl, nnEr, nnL, nnLl, nnLr, nnQ, nnQr, nnN, Nat.add_zero, if_false, if_true, Option.bind_some, not_true, not_false_iff, not_true_eq_false, not_false_eq_true, eq_self, Nat.not_lt_zero, z10, z01, or_true, true_or, or_false, false_or, true_and, false_and, hf10]) ?_))))))
  · exact r1
  · rw [sc_e, nnT (by omega), r2 f hf10]
    unfold wyR
    by_cases q : (tab c C t t f).2 < 1000000
    · rw [if_pos q]
      refine st_f ?_ rfl
      rw [show (1000000 : Int32) = nn 1000000 from rfl, nnE (by omega) (by omega)]
      omega
    · rw [if_neg q]
      refine st_t ?_ rfl
      rw [show (1000000 : Int32) = nn 1000000 from rfl, nnE (by omega) (by omega)]
      omega
end WC
end
section
/-! path, along -/
section WD
variable {c s : Sg} {a0 : Nat → Int32} {N C Q : Nat}
/-- the rows from node f on, as the whole table -/
def CF (c : Sg) (C t f : Nat) (a b d : Nat → Int32) : Prop := ∀ u, f ≤ u → u < 10 → d u = oN (tab c C t t u).1 ∧ ((tab c C t t u).2 < 1000000 → a u = nn ((tab c C t t u).2 / 100) ∧ b u = nn ((tab c C t t u).2 % 100))
theorem onw {e : Nat → Int32} (h : RNet c (s 216) N C Q) {t p i : Nat} (ht : t < 10) (hp : p < t) (he : ∀ x, x < 10 → e x = nn (tab c C t t x).2) (hs : s 218 = e) (hi : i < C) (h9 : c 9 i = nn p) (h15 : c 15 i = 0) (hv : (tab c C t t p).2 = 100 * cn c 13 i + 1 + (tab c C t t (cn c 10 i)).2) (hfirst : ∀ i2, i2 < i → c 9 i2 = nn p → c 15 i2 = 0 → (tab c C t t p).2 < 100 * cn c 13 i2 + 1 + (tab c C t t (cn c 10 i2)).2) : ∀ m j F, j + m = i → m < F → m_onward_2 F (nn p) (nn j) s = some (nn i) := by
  have hC := h.hC
  have hN := h.hN
  have ok := (tab_ok h ht t (Nat.le_refl _)).1
  have hp10 : p < 10 := by omega
  have val : ∀ j, j < C → (100 * c 13 j + 1 + e (cn c 10 j)) = nn (100 * cn c 13 j + 1 + (tab c C t t (cn c 10 j)).2) := fun j hj => by
    obtain ⟨v1, v2, v3, v4, v5, v6⟩ := chan_v h hj
    rw [he _ (by omega), v3]
    unfold cn
    simp (disch := first | omega | decide) only [lt1, nnMl, nnMr, nnAl, nnAr, nnA, nnM, nnB, nnT, nnP, nnE, nnEl, nnEr, nnL, nnLl, nnLr, nnQ, nnQr, nnN, Nat.add_zero, if_false, if_true, Option.bind_some, not_true, not_false_iff, not_true_eq_false, not_false_eq_true, eq_self, Nat.not_lt_zero, z10, z01, or_true, true_or, or_false, false_or, true_and, false_and]
  intro m
  induction m with
  | zero =>
    intro j F hj hF
    obtain ⟨F, rfl⟩ : ∃ F2, F = F2 + 1 := ⟨F - 1, by omega⟩
    have : j = i := by omega
    subst this
    have hj14 : j < 14 := by omega
    have h2 : ¬ C ≤ j := by omega
    obtain ⟨v1, v2, v3, v4, v5, v6⟩ := chan_v h hi
    have hw10 : cn c 10 j < 10 := by omega
    unfold m_onward_2
    rw [h.aC]
    refine st_f (by simp (disch := first | omega | decide) only [lt1, nnMl, nnMr, nnAl, nnAr, nnA, nnM, nnB, nnT, nnP, nnE, nnEl, nnEr, nnL, nnLl, nnLr, nnQ, nnQr, nnN, Nat.add_zero, if_false, if_true, Option.bind_some, not_true, not_false_iff, not_true_eq_false, not_false_eq_true, eq_self, Nat.not_lt_zero, z10, z01, or_true, true_or, or_false, false_or, true_and, false_and, h2]) (st_b (mch0 h hj14) (st_f (fun q => q h9) (st_b (mch6 h hj14) (st_f (fun q => q h15) (st_b (mch4 h hj14) (st_b (mch1 h hj14) (st_t (by rw [v2]; simp (disch := first | omega | decide) only [lt1, nnMl, nnMr, nnAl, nnAr, nnA, nnM, nnB, nnT, nnP, nnE, nnEl, nnEr, nnL, nnLl, nnLr, nnQ, nnQr, nnN, Nat.add_zero, if_false, if_true, Option.bind_some, not_true, not_false_iff, not_true_eq_false, not_false_eq_true, eq_self, Nat.not_lt_zero, z10, z01, or_true, true_or, or_false, false_or, true_and, false_and, hw10]) (st_t (by simp (disch := first | omega | decide) only [lt1, nnMl, nnMr, nnAl, nnAr, nnA, nnM, nnB, nnT, nnP, nnE, nnEl, nnEr, nnL, nnLl, nnLr, nnQ, nnQr, nnN, Nat.add_zero, if_false, if_true, Option.bind_some, not_true, not_false_iff, not_true_eq_false, not_false_eq_true, eq_self, Nat.not_lt_zero, z10, z01, or_true, true_or, or_false, false_or, true_and, false_and, hp10]) (st_f ?_ rfl)))))))))
    rw [hs, val j hi, nnT (by omega), he p hp10, hv]
    exact fun q => q rfl
  | succ m ih =>
    intro j F hj hF
    obtain ⟨F, rfl⟩ : ∃ F2, F = F2 + 1 := ⟨F - 1, by omega⟩
    have hj14 : j < 14 := by omega
    have h2 : ¬ C ≤ j := by omega
    obtain ⟨v1, v2, v3, v4, v5, v6⟩ := chan_v h (show j < C by omega)
    have hw10 : cn c 10 j < 10 := by omega
    have IH := ih (j + 1) F (by omega) (by omega)
    unfold m_onward_2
    rw [h.aC, show nn j + 1 = nn (j + 1) from nnA j 1]
    refine st_f (by simp (disch := first | omega | decide) only [lt1, nnMl, nnMr, nnAl, nnAr, nnA, nnM, nnB, nnT, nnP, nnE, nnEl, nnEr, nnL, nnLl, nnLr, nnQ, nnQr, nnN, Nat.add_zero, if_false, if_true, Option.bind_some, not_true, not_false_iff, not_true_eq_false, not_false_eq_true, eq_self, Nat.not_lt_zero, z10, z01, or_true, true_or, or_false, false_or, true_and, false_and, h2]) (st_b (mch0 h hj14) ?_)
    by_cases q1 : c 9 j = nn p
    rotate_left
    · exact st_t q1 IH
    refine st_f (fun q => q q1) (st_b (mch6 h hj14) ?_)
    by_cases q2 : c 15 j = 0
    rotate_left
    · exact st_t q2 IH
    refine st_f (fun q => q q2) (st_b (mch4 h hj14) (st_b (mch1 h hj14) (st_t (by rw [v2]; simp (disch := first | omega | decide) only [lt1, nnMl, nnMr, nnAl, nnAr, nnA, nnM, nnB, nnT, nnP, nnE, nnEl, nnEr, nnL, nnLl, nnLr, nnQ, nnQr, nnN, Nat.add_zero, if_false, if_true, Option.bind_some, not_true, not_false_iff, not_true_eq_false, not_false_eq_true, eq_self, Nat.not_lt_zero, z10, z01, or_true, true_or, or_false, false_or, true_and, false_and, hw10]) (st_t (by simp (disch := first | omega | decide) only [lt1, nnMl, nnMr, nnAl, nnAr, nnA, nnM, nnB, nnT, nnP, nnE, nnEl, nnEr, nnL, nnLl, nnLr, nnQ, nnQr, nnN, Nat.add_zero, if_false, if_true, Option.bind_some, not_true, not_false_iff, not_true_eq_false, not_false_eq_true, eq_self, Nat.not_lt_zero, z10, z01, or_true, true_or, or_false, false_or, true_and, false_and, hp10]) (st_t ?_ IH)))))
    have k1 := hfirst j (by omega) q1 q2
    have k2 : (tab c C t t (cn c 10 j)).2 ≤ 1000000 := (ok (cn c 10 j)).2
    rw [hs, val j (by omega), nnT (show p < 2147483648 by omega), he p hp10]
    exact nnNe (by omega) (by omega) (by omega)
/-- a node on the way: its channel, and what follows -/
theorem way_st (h : RNet c (s 216) N C Q) {t p : Nat} (ht : t < 10) (hp : p < t) (hr : (tab c C t t p).2 < 1000000) : ∃ i, i < C ∧ (tab c C t t p).1 = some i ∧ c 9 i = nn p ∧ cn c 10 i ≤ t ∧ p < cn c 10 i ∧ c 10 i = nn (cn c 10 i) ∧ (tab c C t t (cn c 10 i)).2 < 1000000 ∧ (tab c C t t p).2 % 100 = (tab c C t t (cn c 10 i)).2 % 100 + 1 ∧ ∀ {s2 : Sg} {e : Nat → Int32} {F : Nat}, RNet c (s2 216) N C Q → (∀ x, x < 10 → e x = nn (tab c C t t x).2) → s2 218 = e → 14 < F → m_onward F (nn p) s2 = some (nn i) := by
  obtain ⟨i, r1, r2, r3, r4, r5, r6, r7, r8, r9⟩ := tab_y h ht hp hr
  obtain ⟨v1, v2, v3, v4, v5, v6⟩ := chan_v h r1
  have hC := h.hC
  have ok := ((tab_ok h ht t (Nat.le_refl _)).1 (cn c 10 i)).1 r7
  have ok2 : (tab c C t t (cn c 10 i)).2 % 100 + cn c 10 i ≤ t := ok.1
  refine ⟨i, r1, r2, r3, r5, r6, v2, r7, ?_, fun hs2 he hs F1 => onw hs2 ht hp he hs r1 r3 r4 r8 r9 i 0 _ (by omega) (by omega)⟩
  rw [r8, (split_v _ _ (by omega)).1]
theorem tab_t0 (h : RNet c (s 216) N C Q) {t : Nat} (ht : t < 10) : (tab c C t t t).2 = 0 := (tab_ok h ht t (Nat.le_refl _)).2.2.1
theorem alY {s2 : Sg} {e : Nat → Int32} {t f : Nat} (h : RNet c (s 216) N C Q) (hs : ∀ i, 2 ≤ i → i ≤ 21 → s i = c i) (h2 : RNet c (s2 216) N C Q) (he : ∀ x, x < 10 → e x = nn (tab c C t t x).2) (hse : s2 218 = e) (htN : t < N) {a b d : Nat → Int32} (hR : CF c C t f a b d) {F0 : Nat} (hF0 : 14 < F0) {i : Nat} (hi : i < 100) : ∀ m k p F G, k + m = i → f ≤ p → p < t → (tab c C t t p).2 < 1000000 → m < (tab c C t t p).2 % 100 → m < F → m < G → ∃ r, r < C ∧ ways_channelAt_39 F (nn i) (d p) (nn k) (ss s a b d) = some (nn r) ∧ m_along_21 F0 G (nn t) (nn i) (nn p) (nn k) s2 = some (nn r, s2) := by
  have hC := h.hC
  have hN := h.hN
  intro m
  induction m with
  | zero =>
    intro k p F G hk hf hp hr hm hF hG
    obtain ⟨F, rfl⟩ : ∃ F2, F = F2 + 1 := ⟨F - 1, by omega⟩
    obtain ⟨G, rfl⟩ : ∃ F2, G = F2 + 1 := ⟨G - 1, by omega⟩
    obtain ⟨j, j1, j2, j3, j4, j5, j6, j7, j8, j9⟩ := way_st h (show t < 10 by omega) hp hr
    have : k = i := by omega
    subst this
    refine ⟨j, j1, ?_, ?_⟩
    · unfold ways_channelAt_39
      refine st_t (Int32.le_refl _) ?_
      rw [(hR p hf (by omega)).1, j2]
      rfl
    · unfold m_along_21
      exact st_f (nnNe (by omega) (by omega) (by omega)) (st_b (j9 h2 he hse hF0) (st_f (fun q => q rfl) rfl))
  | succ m ih =>
    intro k p F G hk hf hp hr hm hF hG
    obtain ⟨F, rfl⟩ : ∃ F2, F = F2 + 1 := ⟨F - 1, by omega⟩
    obtain ⟨G, rfl⟩ : ∃ F2, G = F2 + 1 := ⟨G - 1, by omega⟩
    obtain ⟨j, j1, j2, j3, j4, j5, j6, j7, j8, j9⟩ := way_st h (show t < 10 by omega) hp hr
    have hw : cn c 10 j < t := by
      by_cases q : cn c 10 j = t
      · rw [q, tab_t0 h (by omega)] at j8
        omega
      · omega
    have hj14 : j < 14 := by omega
    have hw10 : cn c 10 j < 10 := by omega
    obtain ⟨r, r1, r2, r3⟩ := ih (k + 1) (cn c 10 j) F G (by omega) (by omega) hw j7 (by omega) (by omega) (by omega)
    have ho : ∀ i, 2 ≤ i → i ≤ 21 → ss s a b d i = c i := fun i p1 p2 => by rw [ss_o (by omega) (by omega) (by omega), hs i p1 p2]
    refine ⟨r, r1, ?_, ?_⟩
    · unfold ways_channelAt_39
      rw [(hR p hf (by omega)).1, j2, show nn k + 1 = nn (k + 1) from nnA k 1, show oN (some j) = nn j from rfl]
      refine st_f (by rw [nnE (by omega) (by omega)]; omega) (st_b (hC_y (by rw [ho 2 (by decide) (by decide), h.cC]) hC j1) (st_f (by decide) (st_t (by simp (disch := first | omega | decide) only [lt1, nnMl, nnMr, nnAl, nnAr, nnA, nnM, nnB, nnT, nnP, nnE, nnEl, nnEr, nnL, nnLl, nnLr, nnQ, nnQr, nnN, Nat.add_zero, if_false, if_true, Option.bind_some, not_true, not_false_iff, not_true_eq_false, not_false_eq_true, eq_self, Nat.not_lt_zero, z10, z01, or_true, true_or, or_false, false_or, true_and, false_and, hj14]) (st_l ?_))))
      rw [ho 10 (by decide) (by decide), nnT (by omega), j6]
      refine st_b (hN_y (by rw [ho 2 (by decide) (by decide), h.cN]) hN (by omega)) (st_f (by decide) (st_t (by simp (disch := first | omega | decide) only [lt1, nnMl, nnMr, nnAl, nnAr, nnA, nnM, nnB, nnT, nnP, nnE, nnEl, nnEr, nnL, nnLl, nnLr, nnQ, nnQr, nnN, Nat.add_zero, if_false, if_true, Option.bind_some, not_true, not_false_iff, not_true_eq_false, not_false_eq_true, eq_self, Nat.not_lt_zero, z10, z01, or_true, true_or, or_false, false_or, true_and, false_and, hw10]) (st_l ?_)))
      rw [ss_d, nnT (by omega)]
      exact r2
    · unfold m_along_21
      refine st_f (nnNe (by omega) (by omega) (by omega)) (st_b (j9 h2 he hse hF0) (st_t (nnNe (by omega) (by omega) (by omega)) (st_b (mch1 h2 hj14) ?_)))
      rw [j6, show nn k + 1 = nn (k + 1) from nnA k 1]
      exact r3
theorem alN {s2 : Sg} {e : Nat → Int32} {t : Nat} (h2 : RNet c (s2 216) N C Q) (he : ∀ x, x < 10 → e x = nn (tab c C t t x).2) (hse : s2 218 = e) (htN : t < N) {F0 : Nat} (hF0 : 14 < F0) {v : Int32} : ∀ m k p G, p ≤ t → (tab c C t t p).2 < 1000000 → m = (tab c C t t p).2 % 100 → m < G → (∀ x, k ≤ x → x < k + m → ¬ nn x = v) → m_along_21 F0 G (nn t) v (nn p) (nn k) s2 = some (-1, s2) := by
  have hC := h2.hC
  have hN := h2.hN
  intro m
  induction m with
  | zero =>
    intro k p G hp hr hm hG hv
    obtain ⟨G, rfl⟩ : ∃ F2, G = F2 + 1 := ⟨G - 1, by omega⟩
    have : p = t := by
      by_cases q : p < t
      · obtain ⟨j, j1, j2, j3, j4, j5, j6, j7, j8, j9⟩ := way_st (s := s2) h2 (show t < 10 by omega) q hr
        omega
      · omega
    subst this
    unfold m_along_21
    exact st_t rfl rfl
  | succ m ih =>
    intro k p G hp hr hm hG hv
    obtain ⟨G, rfl⟩ : ∃ F2, G = F2 + 1 := ⟨G - 1, by omega⟩
    have hpt : p < t := by
      by_cases q : p = t
      · rw [q, tab_t0 h2 (by omega)] at hm
        omega
      · omega
    obtain ⟨j, j1, j2, j3, j4, j5, j6, j7, j8, j9⟩ := way_st (s := s2) h2 (show t < 10 by omega) hpt hr
    have hj14 : j < 14 := by omega
    have IH := ih (k + 1) (cn c 10 j) G j4 j7 (by omega) (by omega) (fun x p1 p2 => hv x (by omega) (by omega))
    unfold m_along_21
    refine st_f (nnNe (by omega) (by omega) (by omega)) (st_b (j9 h2 he hse hF0) (st_t (hv k (Nat.le_refl _) (by omega)) (st_b (mch1 h2 hj14) ?_)))
    rw [j6, show nn k + 1 = nn (k + 1) from nnA k 1]
    exact IH
end WD
theorem find_cases (N : Nat) (v1 v2 : Int32) : noWay N v1 v2 ∨ ∃ f t, f < t ∧ t < N ∧ v1 = nn f ∧ v2 = nn t := by
  by_cases h : ∃ f t, f < t ∧ t < N ∧ v1 = nn f ∧ v2 = nn t
  · exact Or.inr h
  · exact Or.inl h
/-- scratch behind a search: class's rows and the model's -/
theorem scrW {TS : Sg → Prop} (hT : TSf TS) {g : Sg} (hR : RR TS g) {t : Nat} {a b d e : Nat → Int32} : RR TS (sc (ss (up2 g 187 3 (nn t)) a b d) 218 e) := by
  have E : ∀ i, i ≠ 187 → i ≠ 188 → i ≠ 189 → i ≠ 190 → i ≠ 218 → sc (ss (up2 g 187 3 (nn t)) a b d) 218 e i = g i := fun i e1 e2 e3 e4 e5 => by
    rw [sc_n e5, ss_o e2 e3 e4, u2n e1]
  exact RR.scr hT hR (fun i _ _ => E i (by omega) (by omega) (by omega) (by omega) (by omega)) (fun i _ _ => E i (by omega) (by omega) (by omega) (by omega) (by omega)) (E 216 (by decide) (by decide) (by decide) (by decide) (by decide)) (E 217 (by decide) (by decide) (by decide) (by decide) (by decide))
section SP
theorem sim_path {TS : Sg → Prop} (hT : TSf TS) : Sim_path (RR TS) := by
  intro v1 v2 g hR
  obtain ⟨N, C, Q, D, T, L, G, h⟩ := hR.now
  have hN := h.net.hN
  rcases find_cases N v1 v2 with hn | ⟨f, t, hft, htN, rfl, rfl⟩
  · refine ⟨0, 0, -1, g, g, ?_, ?_, hR⟩
    · unfold x_path
      exact st_b (find_n h.net.cN hN hn) (st_t rfl rfl)
    · unfold m_path
      exact st_b (leads_n h.net.aN hN hn) (st_t rfl rfl)
  · have hf10 : f < 10 := by omega
    obtain ⟨a, b, d, r1, r2⟩ := find_y h.net (s := g) (fun _ _ _ => rfl) hft htN (F := 21) (by decide)
    have e216 : (ss (up2 g 187 3 (nn t)) a b d) 216 = g 216 := by rw [ss_o (by decide) (by decide) (by decide), u2n (by decide)]
    obtain ⟨e, l1, l2⟩ := leads_y (s := ss (up2 g 187 3 (nn t)) a b d) (c := g) (by rw [e216]; exact h.net) hft htN (F := 21) (by decide)
    by_cases q : (tab g C t t f).2 < 1000000
    · have w1 : wyR g C f t = 1 := if_pos q
      rw [w1] at r1 l1
      refine ⟨21, 21, nn ((tab g C t t f).2 / 100), ss (up2 g 187 3 (nn t)) a b d, sc (ss (up2 g 187 3 (nn t)) a b d) 218 e, ?_, ?_, scrW hT hR⟩
      · unfold x_path
        refine st_b r1 (st_f (by decide) (st_b (x := nn ((tab g C t t f).2 / 100)) ?_ rfl))
        unfold ways_travelFrom
        refine st_b (wthK_y (K := 9) rfl (by decide) (by omega)) (st_f (by decide) (st_t (by simp (disch := first | omega | decide) only [lt1, nnMl, nnMr, nnAl, nnAr, nnA, nnM, nnB, nnT, nnP, nnE, nnEl, nnEr, nnL, nnLl, nnLr, nnQ, nnQr, nnN, Nat.add_zero, if_false, if_true, Option.bind_some, not_true, not_false_iff, not_true_eq_false, not_false_eq_true, eq_self, Nat.not_lt_zero, z10, z01, or_true, true_or, or_false, false_or, true_and, false_and, hf10]) ?_))
        rw [ss_a, nnT (by omega), ((r2 f (Nat.le_refl _) hf10).2 q).1]
      · unfold m_path
        refine st_b l1 (st_f (by decide) (st_t (by simp (disch := first | omega | decide) only [lt1, nnMl, nnMr, nnAl, nnAr, nnA, nnM, nnB, nnT, nnP, nnE, nnEl, nnEr, nnL, nnLl, nnLr, nnQ, nnQr, nnN, Nat.add_zero, if_false, if_true, Option.bind_some, not_true, not_false_iff, not_true_eq_false, not_false_eq_true, eq_self, Nat.not_lt_zero, z10, z01, or_true, true_or, or_false, false_or, true_and, false_and, hf10]) ?_))
        rw [sc_e, nnT (by omega), l2 f hf10]
        simp (disch := first | omega | decide) only [lt1, nnMl, nnMr, nnAl, nnAr, nnA, nnM, nnB, nnT, nnP, nnE, nnEl, nnEr, nnL, nnLl, nnLr, nnQ, nnQr, nnN, Nat.add_zero, if_false, if_true, Option.bind_some, not_true, not_false_iff, not_true_eq_false, not_false_eq_true, eq_self, Nat.not_lt_zero, z10, z01, or_true, true_or, or_false, false_or, true_and, false_and, nnDr]
    · have w1 : wyR g C f t = 0 := if_neg q
      rw [w1] at r1 l1
      refine ⟨21, 21, -1, ss (up2 g 187 3 (nn t)) a b d, sc (ss (up2 g 187 3 (nn t)) a b d) 218 e, ?_, ?_, scrW hT hR⟩
      · unfold x_path
        exact st_b r1 (st_t rfl rfl)
      · unfold m_path
        exact st_b l1 (st_t rfl rfl)
theorem sim_along {TS : Sg → Prop} (hT : TSf TS) : Sim_along (RR TS) := by
  intro v1 v2 v3 g hR
  obtain ⟨N, C, Q, D, T, L, G, h⟩ := hR.now
  have hN := h.net.hN
  rcases find_cases N v1 v2 with hn | ⟨f, t, hft, htN, rfl, rfl⟩
  · refine ⟨0, 0, -1, g, g, ?_, ?_, hR⟩
    · unfold x_along
      exact st_b (find_n h.net.cN hN hn) (st_t rfl rfl)
    · unfold m_along
      exact st_b (leads_n h.net.aN hN hn) (st_t rfl rfl)
  · have hf10 : f < 10 := by omega
    obtain ⟨a, b, d, r1, r2⟩ := find_y h.net (s := g) (fun _ _ _ => rfl) hft htN (F := 200) (by decide)
    have e216 : (ss (up2 g 187 3 (nn t)) a b d) 216 = g 216 := by rw [ss_o (by decide) (by decide) (by decide), u2n (by decide)]
    obtain ⟨e, l1, l2⟩ := leads_y (s := ss (up2 g 187 3 (nn t)) a b d) (c := g) (by rw [e216]; exact h.net) hft htN (F := 200) (by decide)
    have hm2 : RNet g ((sc (ss (up2 g 187 3 (nn t)) a b d) 218 e) 216) N C Q := by rw [sc_n (by decide), e216]; exact h.net
    by_cases q : (tab g C t t f).2 < 1000000
    · have w1 : wyR g C f t = 1 := if_pos q
      rw [w1] at r1 l1
      have hb := ((r2 f (Nat.le_refl _) hf10).2 q).2
      by_cases hi : ∃ i, i < (tab g C t t f).2 % 100 ∧ v3 = nn i
      · obtain ⟨i, hi, rfl⟩ := hi
        obtain ⟨r, k1, k2, k3⟩ := alY (s := up2 g 187 3 (nn t)) (by rw [u2n (by decide)]; exact h.net) (fun i p1 p2 => u2n (by omega)) hm2 l2 (sc_e) htN r2 (F0 := 200) (by decide) (show i < 100 by omega) i 0 f 200 200 (by omega) (Nat.le_refl _) hft q hi (by omega) (by omega)
        refine ⟨200, 200, nn r, ss (up2 g 187 3 (nn t)) a b d, sc (ss (up2 g 187 3 (nn t)) a b d) 218 e, ?_, ?_, scrW hT hR⟩
        · unfold x_along
          refine st_b r1 (st_f (by decide) (st_b (x := nn r) ?_ rfl))
          unfold ways_channelAt
          refine st_b (wthK_y (K := 9) rfl (by decide) (by omega)) (st_f (by decide) (st_t (by simp (disch := first | omega | decide) only [lt1, nnMl, nnMr, nnAl, nnAr, nnA, nnM, nnB, nnT, nnP, nnE, nnEl, nnEr, nnL, nnLl, nnLr, nnQ, nnQr, nnN, Nat.add_zero, if_false, if_true, Option.bind_some, not_true, not_false_iff, not_true_eq_false, not_false_eq_true, eq_self, Nat.not_lt_zero, z10, z01, or_true, true_or, or_false, false_or, true_and, false_and, hf10]) ?_))
          rw [ss_b, nnT (by omega), hb]
          refine st_b (x := 1) ?_ (st_t (by decide) (st_t (by simp (disch := first | omega | decide) only [lt1, nnMl, nnMr, nnAl, nnAr, nnA, nnM, nnB, nnT, nnP, nnE, nnEl, nnEr, nnL, nnLl, nnLr, nnQ, nnQr, nnN, Nat.add_zero, if_false, if_true, Option.bind_some, not_true, not_false_iff, not_true_eq_false, not_false_eq_true, eq_self, Nat.not_lt_zero, z10, z01, or_true, true_or, or_false, false_or, true_and, false_and, hf10]) (st_l ?_)))
          · rw [within_eq, if_pos ((rg1 (by omega)).mpr ⟨i, hi, rfl⟩)]
          · rw [ss_d]
            exact k2
        · unfold m_along
          exact st_b l1 (st_f (by decide) (st_t (nnE0 (by omega)) k3))
      · refine ⟨200, 200, -1, ss (up2 g 187 3 (nn t)) a b d, sc (ss (up2 g 187 3 (nn t)) a b d) 218 e, ?_, ?_, scrW hT hR⟩
        · unfold x_along
          refine st_b r1 (st_f (by decide) (st_b (x := -1) ?_ rfl))
          unfold ways_channelAt
          refine st_b (wthK_y (K := 9) rfl (by decide) (by omega)) (st_f (by decide) (st_t (by simp (disch := first | omega | decide) only [lt1, nnMl, nnMr, nnAl, nnAr, nnA, nnM, nnB, nnT, nnP, nnE, nnEl, nnEr, nnL, nnLl, nnLr, nnQ, nnQr, nnN, Nat.add_zero, if_false, if_true, Option.bind_some, not_true, not_false_iff, not_true_eq_false, not_false_eq_true, eq_self, Nat.not_lt_zero, z10, z01, or_true, true_or, or_false, false_or, true_and, false_and, hf10]) ?_))
          rw [ss_b, nnT (by omega), hb]
          refine st_b (x := 0) ?_ (st_f (by decide) rfl)
          rw [within_eq, if_neg (fun e => hi ((rg1 (by omega)).mp e))]
        · unfold m_along
          refine st_b l1 (st_f (by decide) ?_)
          by_cases q0 : 0 ≤ v3
          · refine st_t q0 ?_
            exact alN hm2 l2 sc_e htN (by decide) _ 0 f 200 (by omega) q rfl (by omega) (fun x p1 p2 e => hi ⟨x, by omega, e.symm⟩)
          · exact st_f q0 rfl
    · have w1 : wyR g C f t = 0 := if_neg q
      rw [w1] at r1 l1
      refine ⟨200, 200, -1, ss (up2 g 187 3 (nn t)) a b d, sc (ss (up2 g 187 3 (nn t)) a b d) 218 e, ?_, ?_, scrW hT hR⟩
      · unfold x_along
        exact st_b r1 (st_t rfl rfl)
      · unfold m_along
        exact st_b l1 (st_t rfl rfl)
end SP
end
section
/-! what a node does to the relation -/
theorem i_swap (a b d : Int32) : a + b + d = a + d + b := by rw [Int32.add_assoc, Int32.add_comm b, ← Int32.add_assoc]
theorem i_addsub (a b : Int32) : a + (b - a) = b := by rw [Int32.add_comm, Int32.sub_add_cancel]
theorem sumTo_u {f : Nat → Int32} {i : Nat} {v : Int32} : ∀ {n : Nat}, i < n → sumTo (up1 f i v) n = sumTo f n + (v - f i)
  | 0, h => absurd h (Nat.not_lt_zero _)
  | n + 1, h => by
    show sumTo (up1 f i v) n + up1 f i v n = sumTo f n + f n + (v - f i)
    by_cases e : i = n
    · subst e
      rw [up1_eq, sumTo_congr (f := up1 f i v) (f' := f) (fun j hj => up1_ne (by omega)), Int32.add_assoc, i_addsub]
    · rw [up1_ne (by omega), sumTo_u (show i < n by omega), i_swap]
theorem sumKind {f f2 k3 k3' : Nat → Int32} {v : Nat} {K k2 : Int32} (hv : v < 10) (h3 : k3' = k3) (h : ∀ n, n < 10 → f2 n = if n = v then k2 else f n) : sumTo (fun n => if k3' n = K then f2 n else 0) 10 = sumTo (fun n => if k3 n = K then f n else 0) 10 + (if k3 v = K then k2 - f v else 0) := by
  subst h3
  have e : sumTo (fun n => if k3' n = K then f2 n else 0) 10 = sumTo (up1 (fun n => if k3' n = K then f n else 0) v (if k3' v = K then k2 else 0)) 10 := sumTo_congr (fun n hn => by
    by_cases q : n = v
    · subst q
      rw [up1_eq]
      show (if k3' n = K then f2 n else 0) = _
      rw [h n hn, if_pos rfl]
    · rw [up1_ne q]
      show (if k3' n = K then f2 n else 0) = _
      rw [h n hn, if_neg q])
  rw [e, sumTo_u hv]
  congr 1
  show (if k3' v = K then k2 else 0) - (if k3' v = K then f v else 0) = _
  by_cases q : k3' v = K
  · rw [if_pos q, if_pos q, if_pos q]
  · rw [if_neg q, if_neg q, if_neg q]
    rfl
theorem i_asc (s f y : Int32) : s + (f + y - f) = s + y := by rw [Int32.add_comm f, Int32.add_sub_cancel]
theorem RNet.node0 {c c' : Sg} {a a' : Nat → Int32} {N C Q v : Nat} {k2 sp : Int32} (h : RNet c a N C Q) (hvN : v < N) (hc : ∀ i, 2 ≤ i → i ≤ 21 → i ≠ 7 → i ≠ 19 → c' i = c i) (k7 : ∀ n, n < 10 → c' 7 n = if n = v then k2 else c 7 n) (s0 : c' 19 0 = c 19 0 + sp) (s1 : c' 19 1 = c 19 1) (b3 : a' (140 + 5 * v + 3) = k2) (t14 : a' 14 = a 14 + sp) (t10 : a' 10 = a 10 + (if c 3 v = 0 then k2 - c 7 v else 0)) (t11 : a' 11 = a 11 + (if c 3 v = 4 then k2 - c 7 v else 0)) (t12 : a' 12 = a 12 + (if c 3 v = 2 then k2 - c 7 v else 0)) (ha : ∀ j, iNet j → j ≠ 140 + 5 * v + 3 → j ≠ 14 → j ≠ 10 → j ≠ 11 → j ≠ 12 → a' j = a j) : RNet c' a' N C Q := by
  have hN := h.hN
  have hv : v < 10 := by omega
  have e2 := hc 2 (by decide) (by decide) (by decide) (by decide)
  have e3 := hc 3 (by decide) (by decide) (by decide) (by decide)
  have e4 := hc 4 (by decide) (by decide) (by decide) (by decide)
  have e5 := hc 5 (by decide) (by decide) (by decide) (by decide)
  have e8 := hc 8 (by decide) (by decide) (by decide) (by decide)
  have e9 := hc 9 (by decide) (by decide) (by decide) (by decide)
  have e10 := hc 10 (by decide) (by decide) (by decide) (by decide)
  have e11 := hc 11 (by decide) (by decide) (by decide) (by decide)
  have e12 := hc 12 (by decide) (by decide) (by decide) (by decide)
  have e13 := hc 13 (by decide) (by decide) (by decide) (by decide)
  have e14 := hc 14 (by decide) (by decide) (by decide) (by decide)
  have e15 := hc 15 (by decide) (by decide) (by decide) (by decide)
  have e17 := hc 17 (by decide) (by decide) (by decide) (by decide)
  have e18 := hc 18 (by decide) (by decide) (by decide) (by decide)
  have e20 := hc 20 (by decide) (by decide) (by decide) (by decide)
  have e21 := hc 21 (by decide) (by decide) (by decide) (by decide)
  have A := ha
  apply RNet.mk
  case hN => exact h.hN
  case hC => exact h.hC
  case hQ => exact h.hQ
  case cN => rw [e2]; exact h.cN
  case aN => rw [A _ (by unfold iNet; omega) (by omega) (by omega) (by omega) (by omega) (by omega)]; exact h.aN
  case cC => rw [e2]; exact h.cC
  case aC => rw [A _ (by unfold iNet; omega) (by omega) (by omega) (by omega) (by omega) (by omega)]; exact h.aC
  case cQ => rw [e2]; exact h.cQ
  case aQ => rw [A _ (by unfold iNet; omega) (by omega) (by omega) (by omega) (by omega) (by omega)]; exact h.aQ
  case kind => intro n hn; rw [A _ (by unfold iNet; omega) (by omega) (by omega) (by omega) (by omega) (by omega), e3]; exact h.kind n hn
  case size => intro n hn; rw [A _ (by unfold iNet; omega) (by omega) (by omega) (by omega) (by omega) (by omega), e4]; exact h.size n hn
  case gate => intro n hn; rw [A _ (by unfold iNet; omega) (by omega) (by omega) (by omega) (by omega) (by omega), e5]; exact h.gate n hn
  case kep0 => 
    intro n hn
    rw [k7 n hn]
    by_cases e : n = v
    · rw [if_pos e, e]; exact b3
    · rw [if_neg e, A _ (by unfold iNet; omega) (by omega) (by omega) (by omega) (by omega) (by omega)]; exact h.kep0 n hn
  case kep1 => intro n hn; rw [A _ (by unfold iNet; omega) (by omega) (by omega) (by omega) (by omega) (by omega), e8]; exact h.kep1 n hn
  case frm => intro n hn; rw [A _ (by unfold iNet; omega) (by omega) (by omega) (by omega) (by omega) (by omega), e9]; exact h.frm n hn
  case to => intro n hn; rw [A _ (by unfold iNet; omega) (by omega) (by omega) (by omega) (by omega) (by omega), e10]; exact h.to n hn
  case low => intro n hn; rw [A _ (by unfold iNet; omega) (by omega) (by omega) (by omega) (by omega) (by omega), e11]; exact h.low n hn
  case hig => intro n hn; rw [A _ (by unfold iNet; omega) (by omega) (by omega) (by omega) (by omega) (by omega), e12]; exact h.hig n hn
  case trv => intro n hn; rw [A _ (by unfold iNet; omega) (by omega) (by omega) (by omega) (by omega) (by omega), e13]; exact h.trv n hn
  case brd => intro n hn; rw [A _ (by unfold iNet; omega) (by omega) (by omega) (by omega) (by omega) (by omega), e14]; exact h.brd n hn
  case brk => intro n hn; rw [A _ (by unfold iNet; omega) (by omega) (by omega) (by omega) (by omega) (by omega), e15]; exact h.brk n hn
  case way0 => intro n hn; rw [A _ (by unfold iNet; omega) (by omega) (by omega) (by omega) (by omega) (by omega), e17]; exact h.way0 n hn
  case way1 => intro n hn; rw [A _ (by unfold iNet; omega) (by omega) (by omega) (by omega) (by omega) (by omega), e18]; exact h.way1 n hn
  case gateV => rw [e5, e9]; exact h.gateV
  case ends => rw [e9, e10]; exact h.ends
  case lowV => rw [e11]; exact h.lowV
  case higV => rw [e12]; exact h.higV
  case trvV => rw [e13]; exact h.trvV
  case brdV => rw [e14]; exact h.brdV
  case brkV => rw [e15]; exact h.brkV
  case kindV => rw [e3]; exact h.kindV
  case kepZ => 
    intro n h1 h2
    rw [k7 n h2, if_neg (by omega), e8]
    exact h.kepZ n h1 h2
  case brkZ => rw [e15]; exact h.brkZ
  case wayZ => rw [e17, e18]; exact h.wayZ
  case su00 => rw [t10, h.su00]; exact (sumKind hv (k3' := c' 3) e3 k7).symm
  case su01 => rw [t11, h.su01]; exact (sumKind hv (k3' := c' 3) e3 k7).symm
  case su02 => rw [t12, h.su02]; exact (sumKind hv (k3' := c' 3) e3 k7).symm
  case su03 => rw [A _ (by unfold iNet; omega) (by omega) (by omega) (by omega) (by omega) (by omega), e17]; exact h.su03
  case su04 => rw [t14, s0, h.su04]
  case su05 => rw [A _ (by unfold iNet; omega) (by omega) (by omega) (by omega) (by omega) (by omega), e20]; exact h.su05
  case su06 => rw [A _ (by unfold iNet; omega) (by omega) (by omega) (by omega) (by omega) (by omega), e21]; exact h.su06
  case su10 => rw [A _ (by unfold iNet; omega) (by omega) (by omega) (by omega) (by omega) (by omega), e3, e8]; exact h.su10
  case su11 => rw [A _ (by unfold iNet; omega) (by omega) (by omega) (by omega) (by omega) (by omega), e3, e8]; exact h.su11
  case su12 => rw [A _ (by unfold iNet; omega) (by omega) (by omega) (by omega) (by omega) (by omega), e3, e8]; exact h.su12
  case su13 => rw [A _ (by unfold iNet; omega) (by omega) (by omega) (by omega) (by omega) (by omega), e18]; exact h.su13
  case su14 => rw [A _ (by unfold iNet; omega) (by omega) (by omega) (by omega) (by omega) (by omega), s1]; exact h.su14
  case su15 => rw [A _ (by unfold iNet; omega) (by omega) (by omega) (by omega) (by omega) (by omega), e20]; exact h.su15
  case su16 => rw [A _ (by unfold iNet; omega) (by omega) (by omega) (by omega) (by omega) (by omega), e21]; exact h.su16
theorem RNet.send0 {c c' : Sg} {a a' : Nat → Int32} {N C Q j p : Nat} {lk y : Int32} (h : RNet c a N C Q) (hj : j < C) (hp1 : j * 9 ≤ p) (hp2 : p < j * 9 + 9) (hc : ∀ i, 2 ≤ i → i ≤ 21 → i ≠ 17 → i ≠ 20 → c' i = c i) (e17 : c' 17 = up1 (c 17) p (c 17 p + y)) (s0 : c' 20 0 = c 20 0 + lk) (s1 : c' 20 1 = c 20 1) (b3 : a' (290 + p) = a (290 + p) + y) (t13 : a' 13 = a 13 + y) (t15 : a' 15 = a 15 + lk) (ha : ∀ j, iNet j → j ≠ 290 + p → j ≠ 13 → j ≠ 15 → a' j = a j) : RNet c' a' N C Q := by
  have hC := h.hC
  have e2 := hc 2 (by decide) (by decide) (by decide) (by decide)
  have e3 := hc 3 (by decide) (by decide) (by decide) (by decide)
  have e4 := hc 4 (by decide) (by decide) (by decide) (by decide)
  have e5 := hc 5 (by decide) (by decide) (by decide) (by decide)
  have e7 := hc 7 (by decide) (by decide) (by decide) (by decide)
  have e8 := hc 8 (by decide) (by decide) (by decide) (by decide)
  have e9 := hc 9 (by decide) (by decide) (by decide) (by decide)
  have e10 := hc 10 (by decide) (by decide) (by decide) (by decide)
  have e11 := hc 11 (by decide) (by decide) (by decide) (by decide)
  have e12 := hc 12 (by decide) (by decide) (by decide) (by decide)
  have e13 := hc 13 (by decide) (by decide) (by decide) (by decide)
  have e14 := hc 14 (by decide) (by decide) (by decide) (by decide)
  have e15 := hc 15 (by decide) (by decide) (by decide) (by decide)
  have e18 := hc 18 (by decide) (by decide) (by decide) (by decide)
  have e19 := hc 19 (by decide) (by decide) (by decide) (by decide)
  have e21 := hc 21 (by decide) (by decide) (by decide) (by decide)
  have A := ha
  apply RNet.mk
  case hN => exact h.hN
  case hC => exact h.hC
  case hQ => exact h.hQ
  case cN => rw [e2]; exact h.cN
  case aN => rw [A _ (by unfold iNet; omega) (by omega) (by omega) (by omega)]; exact h.aN
  case cC => rw [e2]; exact h.cC
  case aC => rw [A _ (by unfold iNet; omega) (by omega) (by omega) (by omega)]; exact h.aC
  case cQ => rw [e2]; exact h.cQ
  case aQ => rw [A _ (by unfold iNet; omega) (by omega) (by omega) (by omega)]; exact h.aQ
  case kind => intro n hn; rw [A _ (by unfold iNet; omega) (by omega) (by omega) (by omega), e3]; exact h.kind n hn
  case size => intro n hn; rw [A _ (by unfold iNet; omega) (by omega) (by omega) (by omega), e4]; exact h.size n hn
  case gate => intro n hn; rw [A _ (by unfold iNet; omega) (by omega) (by omega) (by omega), e5]; exact h.gate n hn
  case kep0 => intro n hn; rw [A _ (by unfold iNet; omega) (by omega) (by omega) (by omega), e7]; exact h.kep0 n hn
  case kep1 => intro n hn; rw [A _ (by unfold iNet; omega) (by omega) (by omega) (by omega), e8]; exact h.kep1 n hn
  case frm => intro n hn; rw [A _ (by unfold iNet; omega) (by omega) (by omega) (by omega), e9]; exact h.frm n hn
  case to => intro n hn; rw [A _ (by unfold iNet; omega) (by omega) (by omega) (by omega), e10]; exact h.to n hn
  case low => intro n hn; rw [A _ (by unfold iNet; omega) (by omega) (by omega) (by omega), e11]; exact h.low n hn
  case hig => intro n hn; rw [A _ (by unfold iNet; omega) (by omega) (by omega) (by omega), e12]; exact h.hig n hn
  case trv => intro n hn; rw [A _ (by unfold iNet; omega) (by omega) (by omega) (by omega), e13]; exact h.trv n hn
  case brd => intro n hn; rw [A _ (by unfold iNet; omega) (by omega) (by omega) (by omega), e14]; exact h.brd n hn
  case brk => intro n hn; rw [A _ (by unfold iNet; omega) (by omega) (by omega) (by omega), e15]; exact h.brk n hn
  case way0 => 
    intro i hi
    rw [e17]
    by_cases e : i = p
    · subst e; rw [up1_eq, b3, h.way0 i hi]
    · rw [up1_ne e, A _ (by unfold iNet; omega) (by omega) (by omega) (by omega)]; exact h.way0 i hi
  case way1 => intro n hn; rw [A _ (by unfold iNet; omega) (by omega) (by omega) (by omega), e18]; exact h.way1 n hn
  case gateV => rw [e5, e9]; exact h.gateV
  case ends => rw [e9, e10]; exact h.ends
  case lowV => rw [e11]; exact h.lowV
  case higV => rw [e12]; exact h.higV
  case trvV => rw [e13]; exact h.trvV
  case brdV => rw [e14]; exact h.brdV
  case brkV => rw [e15]; exact h.brkV
  case kindV => rw [e3]; exact h.kindV
  case kepZ => rw [e7, e8]; exact h.kepZ
  case brkZ => rw [e15]; exact h.brkZ
  case wayZ => 
    intro i h1 h2
    rw [e17, up1_ne (by omega), e18]
    exact h.wayZ i h1 h2
  case su00 => rw [A _ (by unfold iNet; omega) (by omega) (by omega) (by omega), e3, e7]; exact h.su00
  case su01 => rw [A _ (by unfold iNet; omega) (by omega) (by omega) (by omega), e3, e7]; exact h.su01
  case su02 => rw [A _ (by unfold iNet; omega) (by omega) (by omega) (by omega), e3, e7]; exact h.su02
  case su03 => rw [t13, e17, h.su03, sumTo_u (by omega), i_asc]
  case su04 => rw [A _ (by unfold iNet; omega) (by omega) (by omega) (by omega), e19]; exact h.su04
  case su05 => rw [t15, s0, h.su05]
  case su06 => rw [A _ (by unfold iNet; omega) (by omega) (by omega) (by omega), e21]; exact h.su06
  case su10 => rw [A _ (by unfold iNet; omega) (by omega) (by omega) (by omega), e3, e8]; exact h.su10
  case su11 => rw [A _ (by unfold iNet; omega) (by omega) (by omega) (by omega), e3, e8]; exact h.su11
  case su12 => rw [A _ (by unfold iNet; omega) (by omega) (by omega) (by omega), e3, e8]; exact h.su12
  case su13 => rw [A _ (by unfold iNet; omega) (by omega) (by omega) (by omega), e18]; exact h.su13
  case su14 => rw [A _ (by unfold iNet; omega) (by omega) (by omega) (by omega), e19]; exact h.su14
  case su15 => rw [A _ (by unfold iNet; omega) (by omega) (by omega) (by omega), s1]; exact h.su15
  case su16 => rw [A _ (by unfold iNet; omega) (by omega) (by omega) (by omega), e21]; exact h.su16
theorem RNet.lost0 {c c' : Sg} {a a' : Nat → Int32} {N C Q : Nat} {x : Int32} (h : RNet c a N C Q) (hc : ∀ i, 2 ≤ i → i ≤ 21 → i ≠ 21 → c' i = c i) (s0 : c' 21 0 = c 21 0 + x) (s1 : c' 21 1 = c 21 1) (t16 : a' 16 = a 16 + x) (ha : ∀ j, iNet j → j ≠ 16 → a' j = a j) : RNet c' a' N C Q := by
  have e2 := hc 2 (by decide) (by decide) (by decide)
  have e3 := hc 3 (by decide) (by decide) (by decide)
  have e4 := hc 4 (by decide) (by decide) (by decide)
  have e5 := hc 5 (by decide) (by decide) (by decide)
  have e7 := hc 7 (by decide) (by decide) (by decide)
  have e8 := hc 8 (by decide) (by decide) (by decide)
  have e9 := hc 9 (by decide) (by decide) (by decide)
  have e10 := hc 10 (by decide) (by decide) (by decide)
  have e11 := hc 11 (by decide) (by decide) (by decide)
  have e12 := hc 12 (by decide) (by decide) (by decide)
  have e13 := hc 13 (by decide) (by decide) (by decide)
  have e14 := hc 14 (by decide) (by decide) (by decide)
  have e15 := hc 15 (by decide) (by decide) (by decide)
  have e17 := hc 17 (by decide) (by decide) (by decide)
  have e18 := hc 18 (by decide) (by decide) (by decide)
  have e19 := hc 19 (by decide) (by decide) (by decide)
  have e20 := hc 20 (by decide) (by decide) (by decide)
  have A := ha
  apply RNet.mk
  case hN => exact h.hN
  case hC => exact h.hC
  case hQ => exact h.hQ
  case cN => rw [e2]; exact h.cN
  case aN => rw [A _ (by unfold iNet; omega) (by omega)]; exact h.aN
  case cC => rw [e2]; exact h.cC
  case aC => rw [A _ (by unfold iNet; omega) (by omega)]; exact h.aC
  case cQ => rw [e2]; exact h.cQ
  case aQ => rw [A _ (by unfold iNet; omega) (by omega)]; exact h.aQ
  case kind => intro n hn; rw [A _ (by unfold iNet; omega) (by omega), e3]; exact h.kind n hn
  case size => intro n hn; rw [A _ (by unfold iNet; omega) (by omega), e4]; exact h.size n hn
  case gate => intro n hn; rw [A _ (by unfold iNet; omega) (by omega), e5]; exact h.gate n hn
  case kep0 => intro n hn; rw [A _ (by unfold iNet; omega) (by omega), e7]; exact h.kep0 n hn
  case kep1 => intro n hn; rw [A _ (by unfold iNet; omega) (by omega), e8]; exact h.kep1 n hn
  case frm => intro n hn; rw [A _ (by unfold iNet; omega) (by omega), e9]; exact h.frm n hn
  case to => intro n hn; rw [A _ (by unfold iNet; omega) (by omega), e10]; exact h.to n hn
  case low => intro n hn; rw [A _ (by unfold iNet; omega) (by omega), e11]; exact h.low n hn
  case hig => intro n hn; rw [A _ (by unfold iNet; omega) (by omega), e12]; exact h.hig n hn
  case trv => intro n hn; rw [A _ (by unfold iNet; omega) (by omega), e13]; exact h.trv n hn
  case brd => intro n hn; rw [A _ (by unfold iNet; omega) (by omega), e14]; exact h.brd n hn
  case brk => intro n hn; rw [A _ (by unfold iNet; omega) (by omega), e15]; exact h.brk n hn
  case way0 => intro n hn; rw [A _ (by unfold iNet; omega) (by omega), e17]; exact h.way0 n hn
  case way1 => intro n hn; rw [A _ (by unfold iNet; omega) (by omega), e18]; exact h.way1 n hn
  case gateV => rw [e5, e9]; exact h.gateV
  case ends => rw [e9, e10]; exact h.ends
  case lowV => rw [e11]; exact h.lowV
  case higV => rw [e12]; exact h.higV
  case trvV => rw [e13]; exact h.trvV
  case brdV => rw [e14]; exact h.brdV
  case brkV => rw [e15]; exact h.brkV
  case kindV => rw [e3]; exact h.kindV
  case kepZ => rw [e7, e8]; exact h.kepZ
  case brkZ => rw [e15]; exact h.brkZ
  case wayZ => rw [e17, e18]; exact h.wayZ
  case su00 => rw [A _ (by unfold iNet; omega) (by omega), e3, e7]; exact h.su00
  case su01 => rw [A _ (by unfold iNet; omega) (by omega), e3, e7]; exact h.su01
  case su02 => rw [A _ (by unfold iNet; omega) (by omega), e3, e7]; exact h.su02
  case su03 => rw [A _ (by unfold iNet; omega) (by omega), e17]; exact h.su03
  case su04 => rw [A _ (by unfold iNet; omega) (by omega), e19]; exact h.su04
  case su05 => rw [A _ (by unfold iNet; omega) (by omega), e20]; exact h.su05
  case su06 => rw [t16, s0, h.su06]
  case su10 => rw [A _ (by unfold iNet; omega) (by omega), e3, e8]; exact h.su10
  case su11 => rw [A _ (by unfold iNet; omega) (by omega), e3, e8]; exact h.su11
  case su12 => rw [A _ (by unfold iNet; omega) (by omega), e3, e8]; exact h.su12
  case su13 => rw [A _ (by unfold iNet; omega) (by omega), e18]; exact h.su13
  case su14 => rw [A _ (by unfold iNet; omega) (by omega), e19]; exact h.su14
  case su15 => rw [A _ (by unfold iNet; omega) (by omega), e20]; exact h.su15
  case su16 => rw [A _ (by unfold iNet; omega) (by omega), s1]; exact h.su16
theorem RNet.arr0 {c c' : Sg} {a a' : Nat → Int32} {N C Q : Nat} {x : Int32} (h : RNet c a N C Q) (hc : ∀ i, 2 ≤ i → i ≤ 21 → i ≠ 17 → c' i = c i) (b3 : ∀ i, i < 126 → a' (290 + i) = c' 17 i) (hz : ∀ i, c 17 i = 0 → c' 17 i = 0) (hs : sumTo (c' 17) 126 + x = sumTo (c 17) 126) (t13 : a' 13 = a 13 + -x) (ha : ∀ j, iNet j → (j < 290 ∨ 290 + 126 ≤ j) → j ≠ 13 → a' j = a j) : RNet c' a' N C Q := by
  have hC := h.hC
  have e2 := hc 2 (by decide) (by decide) (by decide)
  have e3 := hc 3 (by decide) (by decide) (by decide)
  have e4 := hc 4 (by decide) (by decide) (by decide)
  have e5 := hc 5 (by decide) (by decide) (by decide)
  have e7 := hc 7 (by decide) (by decide) (by decide)
  have e8 := hc 8 (by decide) (by decide) (by decide)
  have e9 := hc 9 (by decide) (by decide) (by decide)
  have e10 := hc 10 (by decide) (by decide) (by decide)
  have e11 := hc 11 (by decide) (by decide) (by decide)
  have e12 := hc 12 (by decide) (by decide) (by decide)
  have e13 := hc 13 (by decide) (by decide) (by decide)
  have e14 := hc 14 (by decide) (by decide) (by decide)
  have e15 := hc 15 (by decide) (by decide) (by decide)
  have e18 := hc 18 (by decide) (by decide) (by decide)
  have e19 := hc 19 (by decide) (by decide) (by decide)
  have e20 := hc 20 (by decide) (by decide) (by decide)
  have e21 := hc 21 (by decide) (by decide) (by decide)
  have A := ha
  apply RNet.mk
  case hN => exact h.hN
  case hC => exact h.hC
  case hQ => exact h.hQ
  case cN => rw [e2]; exact h.cN
  case aN => rw [A _ (by unfold iNet; omega) (by omega) (by omega)]; exact h.aN
  case cC => rw [e2]; exact h.cC
  case aC => rw [A _ (by unfold iNet; omega) (by omega) (by omega)]; exact h.aC
  case cQ => rw [e2]; exact h.cQ
  case aQ => rw [A _ (by unfold iNet; omega) (by omega) (by omega)]; exact h.aQ
  case kind => intro n hn; rw [A _ (by unfold iNet; omega) (by omega) (by omega), e3]; exact h.kind n hn
  case size => intro n hn; rw [A _ (by unfold iNet; omega) (by omega) (by omega), e4]; exact h.size n hn
  case gate => intro n hn; rw [A _ (by unfold iNet; omega) (by omega) (by omega), e5]; exact h.gate n hn
  case kep0 => intro n hn; rw [A _ (by unfold iNet; omega) (by omega) (by omega), e7]; exact h.kep0 n hn
  case kep1 => intro n hn; rw [A _ (by unfold iNet; omega) (by omega) (by omega), e8]; exact h.kep1 n hn
  case frm => intro n hn; rw [A _ (by unfold iNet; omega) (by omega) (by omega), e9]; exact h.frm n hn
  case to => intro n hn; rw [A _ (by unfold iNet; omega) (by omega) (by omega), e10]; exact h.to n hn
  case low => intro n hn; rw [A _ (by unfold iNet; omega) (by omega) (by omega), e11]; exact h.low n hn
  case hig => intro n hn; rw [A _ (by unfold iNet; omega) (by omega) (by omega), e12]; exact h.hig n hn
  case trv => intro n hn; rw [A _ (by unfold iNet; omega) (by omega) (by omega), e13]; exact h.trv n hn
  case brd => intro n hn; rw [A _ (by unfold iNet; omega) (by omega) (by omega), e14]; exact h.brd n hn
  case brk => intro n hn; rw [A _ (by unfold iNet; omega) (by omega) (by omega), e15]; exact h.brk n hn
  case way0 => exact b3
  case way1 => intro n hn; rw [A _ (by unfold iNet; omega) (by omega) (by omega), e18]; exact h.way1 n hn
  case gateV => rw [e5, e9]; exact h.gateV
  case ends => rw [e9, e10]; exact h.ends
  case lowV => rw [e11]; exact h.lowV
  case higV => rw [e12]; exact h.higV
  case trvV => rw [e13]; exact h.trvV
  case brdV => rw [e14]; exact h.brdV
  case brkV => rw [e15]; exact h.brkV
  case kindV => rw [e3]; exact h.kindV
  case kepZ => rw [e7, e8]; exact h.kepZ
  case brkZ => rw [e15]; exact h.brkZ
  case wayZ => 
    intro i h1 h2
    rw [e18]
    exact ⟨hz i (h.wayZ i h1 h2).1, (h.wayZ i h1 h2).2⟩
  case su00 => rw [A _ (by unfold iNet; omega) (by omega) (by omega), e3, e7]; exact h.su00
  case su01 => rw [A _ (by unfold iNet; omega) (by omega) (by omega), e3, e7]; exact h.su01
  case su02 => rw [A _ (by unfold iNet; omega) (by omega) (by omega), e3, e7]; exact h.su02
  case su03 => rw [t13, h.su03, ← hs, ← Int32.sub_eq_add_neg, Int32.add_sub_cancel]
  case su04 => rw [A _ (by unfold iNet; omega) (by omega) (by omega), e19]; exact h.su04
  case su05 => rw [A _ (by unfold iNet; omega) (by omega) (by omega), e20]; exact h.su05
  case su06 => rw [A _ (by unfold iNet; omega) (by omega) (by omega), e21]; exact h.su06
  case su10 => rw [A _ (by unfold iNet; omega) (by omega) (by omega), e3, e8]; exact h.su10
  case su11 => rw [A _ (by unfold iNet; omega) (by omega) (by omega), e3, e8]; exact h.su11
  case su12 => rw [A _ (by unfold iNet; omega) (by omega) (by omega), e3, e8]; exact h.su12
  case su13 => rw [A _ (by unfold iNet; omega) (by omega) (by omega), e18]; exact h.su13
  case su14 => rw [A _ (by unfold iNet; omega) (by omega) (by omega), e19]; exact h.su14
  case su15 => rw [A _ (by unfold iNet; omega) (by omega) (by omega), e20]; exact h.su15
  case su16 => rw [A _ (by unfold iNet; omega) (by omega) (by omega), e21]; exact h.su16
theorem RNet.node1 {c c' : Sg} {a a' : Nat → Int32} {N C Q v : Nat} {k2 sp : Int32} (h : RNet c a N C Q) (hvN : v < N) (hc : ∀ i, 2 ≤ i → i ≤ 21 → i ≠ 8 → i ≠ 19 → c' i = c i) (k7 : ∀ n, n < 10 → c' 8 n = if n = v then k2 else c 8 n) (s0 : c' 19 1 = c 19 1 + sp) (s1 : c' 19 0 = c 19 0) (b3 : a' (140 + 5 * v + 4) = k2) (t14 : a' 21 = a 21 + sp) (t10 : a' 17 = a 17 + (if c 3 v = 0 then k2 - c 8 v else 0)) (t11 : a' 18 = a 18 + (if c 3 v = 4 then k2 - c 8 v else 0)) (t12 : a' 19 = a 19 + (if c 3 v = 2 then k2 - c 8 v else 0)) (ha : ∀ j, iNet j → j ≠ 140 + 5 * v + 4 → j ≠ 21 → j ≠ 17 → j ≠ 18 → j ≠ 19 → a' j = a j) : RNet c' a' N C Q := by
  have hN := h.hN
  have hv : v < 10 := by omega
  have e2 := hc 2 (by decide) (by decide) (by decide) (by decide)
  have e3 := hc 3 (by decide) (by decide) (by decide) (by decide)
  have e4 := hc 4 (by decide) (by decide) (by decide) (by decide)
  have e5 := hc 5 (by decide) (by decide) (by decide) (by decide)
  have e7 := hc 7 (by decide) (by decide) (by decide) (by decide)
  have e9 := hc 9 (by decide) (by decide) (by decide) (by decide)
  have e10 := hc 10 (by decide) (by decide) (by decide) (by decide)
  have e11 := hc 11 (by decide) (by decide) (by decide) (by decide)
  have e12 := hc 12 (by decide) (by decide) (by decide) (by decide)
  have e13 := hc 13 (by decide) (by decide) (by decide) (by decide)
  have e14 := hc 14 (by decide) (by decide) (by decide) (by decide)
  have e15 := hc 15 (by decide) (by decide) (by decide) (by decide)
  have e17 := hc 17 (by decide) (by decide) (by decide) (by decide)
  have e18 := hc 18 (by decide) (by decide) (by decide) (by decide)
  have e20 := hc 20 (by decide) (by decide) (by decide) (by decide)
  have e21 := hc 21 (by decide) (by decide) (by decide) (by decide)
  have A := ha
  apply RNet.mk
  case hN => exact h.hN
  case hC => exact h.hC
  case hQ => exact h.hQ
  case cN => rw [e2]; exact h.cN
  case aN => rw [A _ (by unfold iNet; omega) (by omega) (by omega) (by omega) (by omega) (by omega)]; exact h.aN
  case cC => rw [e2]; exact h.cC
  case aC => rw [A _ (by unfold iNet; omega) (by omega) (by omega) (by omega) (by omega) (by omega)]; exact h.aC
  case cQ => rw [e2]; exact h.cQ
  case aQ => rw [A _ (by unfold iNet; omega) (by omega) (by omega) (by omega) (by omega) (by omega)]; exact h.aQ
  case kind => intro n hn; rw [A _ (by unfold iNet; omega) (by omega) (by omega) (by omega) (by omega) (by omega), e3]; exact h.kind n hn
  case size => intro n hn; rw [A _ (by unfold iNet; omega) (by omega) (by omega) (by omega) (by omega) (by omega), e4]; exact h.size n hn
  case gate => intro n hn; rw [A _ (by unfold iNet; omega) (by omega) (by omega) (by omega) (by omega) (by omega), e5]; exact h.gate n hn
  case kep0 => intro n hn; rw [A _ (by unfold iNet; omega) (by omega) (by omega) (by omega) (by omega) (by omega), e7]; exact h.kep0 n hn
  case kep1 => 
    intro n hn
    rw [k7 n hn]
    by_cases e : n = v
    · rw [if_pos e, e]; exact b3
    · rw [if_neg e, A _ (by unfold iNet; omega) (by omega) (by omega) (by omega) (by omega) (by omega)]; exact h.kep1 n hn
  case frm => intro n hn; rw [A _ (by unfold iNet; omega) (by omega) (by omega) (by omega) (by omega) (by omega), e9]; exact h.frm n hn
  case to => intro n hn; rw [A _ (by unfold iNet; omega) (by omega) (by omega) (by omega) (by omega) (by omega), e10]; exact h.to n hn
  case low => intro n hn; rw [A _ (by unfold iNet; omega) (by omega) (by omega) (by omega) (by omega) (by omega), e11]; exact h.low n hn
  case hig => intro n hn; rw [A _ (by unfold iNet; omega) (by omega) (by omega) (by omega) (by omega) (by omega), e12]; exact h.hig n hn
  case trv => intro n hn; rw [A _ (by unfold iNet; omega) (by omega) (by omega) (by omega) (by omega) (by omega), e13]; exact h.trv n hn
  case brd => intro n hn; rw [A _ (by unfold iNet; omega) (by omega) (by omega) (by omega) (by omega) (by omega), e14]; exact h.brd n hn
  case brk => intro n hn; rw [A _ (by unfold iNet; omega) (by omega) (by omega) (by omega) (by omega) (by omega), e15]; exact h.brk n hn
  case way0 => intro n hn; rw [A _ (by unfold iNet; omega) (by omega) (by omega) (by omega) (by omega) (by omega), e17]; exact h.way0 n hn
  case way1 => intro n hn; rw [A _ (by unfold iNet; omega) (by omega) (by omega) (by omega) (by omega) (by omega), e18]; exact h.way1 n hn
  case gateV => rw [e5, e9]; exact h.gateV
  case ends => rw [e9, e10]; exact h.ends
  case lowV => rw [e11]; exact h.lowV
  case higV => rw [e12]; exact h.higV
  case trvV => rw [e13]; exact h.trvV
  case brdV => rw [e14]; exact h.brdV
  case brkV => rw [e15]; exact h.brkV
  case kindV => rw [e3]; exact h.kindV
  case kepZ => 
    intro n h1 h2
    rw [k7 n h2, if_neg (by omega), e7]
    exact h.kepZ n h1 h2
  case brkZ => rw [e15]; exact h.brkZ
  case wayZ => rw [e17, e18]; exact h.wayZ
  case su00 => rw [A _ (by unfold iNet; omega) (by omega) (by omega) (by omega) (by omega) (by omega), e3, e7]; exact h.su00
  case su01 => rw [A _ (by unfold iNet; omega) (by omega) (by omega) (by omega) (by omega) (by omega), e3, e7]; exact h.su01
  case su02 => rw [A _ (by unfold iNet; omega) (by omega) (by omega) (by omega) (by omega) (by omega), e3, e7]; exact h.su02
  case su03 => rw [A _ (by unfold iNet; omega) (by omega) (by omega) (by omega) (by omega) (by omega), e17]; exact h.su03
  case su04 => rw [A _ (by unfold iNet; omega) (by omega) (by omega) (by omega) (by omega) (by omega), s1]; exact h.su04
  case su05 => rw [A _ (by unfold iNet; omega) (by omega) (by omega) (by omega) (by omega) (by omega), e20]; exact h.su05
  case su06 => rw [A _ (by unfold iNet; omega) (by omega) (by omega) (by omega) (by omega) (by omega), e21]; exact h.su06
  case su10 => rw [t10, h.su10]; exact (sumKind hv (k3' := c' 3) e3 k7).symm
  case su11 => rw [t11, h.su11]; exact (sumKind hv (k3' := c' 3) e3 k7).symm
  case su12 => rw [t12, h.su12]; exact (sumKind hv (k3' := c' 3) e3 k7).symm
  case su13 => rw [A _ (by unfold iNet; omega) (by omega) (by omega) (by omega) (by omega) (by omega), e18]; exact h.su13
  case su14 => rw [t14, s0, h.su14]
  case su15 => rw [A _ (by unfold iNet; omega) (by omega) (by omega) (by omega) (by omega) (by omega), e20]; exact h.su15
  case su16 => rw [A _ (by unfold iNet; omega) (by omega) (by omega) (by omega) (by omega) (by omega), e21]; exact h.su16
theorem RNet.send1 {c c' : Sg} {a a' : Nat → Int32} {N C Q j p : Nat} {lk y : Int32} (h : RNet c a N C Q) (hj : j < C) (hp1 : j * 9 ≤ p) (hp2 : p < j * 9 + 9) (hc : ∀ i, 2 ≤ i → i ≤ 21 → i ≠ 18 → i ≠ 20 → c' i = c i) (e18 : c' 18 = up1 (c 18) p (c 18 p + y)) (s0 : c' 20 1 = c 20 1 + lk) (s1 : c' 20 0 = c 20 0) (b3 : a' (416 + p) = a (416 + p) + y) (t13 : a' 20 = a 20 + y) (t15 : a' 22 = a 22 + lk) (ha : ∀ j, iNet j → j ≠ 416 + p → j ≠ 20 → j ≠ 22 → a' j = a j) : RNet c' a' N C Q := by
  have hC := h.hC
  have e2 := hc 2 (by decide) (by decide) (by decide) (by decide)
  have e3 := hc 3 (by decide) (by decide) (by decide) (by decide)
  have e4 := hc 4 (by decide) (by decide) (by decide) (by decide)
  have e5 := hc 5 (by decide) (by decide) (by decide) (by decide)
  have e7 := hc 7 (by decide) (by decide) (by decide) (by decide)
  have e8 := hc 8 (by decide) (by decide) (by decide) (by decide)
  have e9 := hc 9 (by decide) (by decide) (by decide) (by decide)
  have e10 := hc 10 (by decide) (by decide) (by decide) (by decide)
  have e11 := hc 11 (by decide) (by decide) (by decide) (by decide)
  have e12 := hc 12 (by decide) (by decide) (by decide) (by decide)
  have e13 := hc 13 (by decide) (by decide) (by decide) (by decide)
  have e14 := hc 14 (by decide) (by decide) (by decide) (by decide)
  have e15 := hc 15 (by decide) (by decide) (by decide) (by decide)
  have e17 := hc 17 (by decide) (by decide) (by decide) (by decide)
  have e19 := hc 19 (by decide) (by decide) (by decide) (by decide)
  have e21 := hc 21 (by decide) (by decide) (by decide) (by decide)
  have A := ha
  apply RNet.mk
  case hN => exact h.hN
  case hC => exact h.hC
  case hQ => exact h.hQ
  case cN => rw [e2]; exact h.cN
  case aN => rw [A _ (by unfold iNet; omega) (by omega) (by omega) (by omega)]; exact h.aN
  case cC => rw [e2]; exact h.cC
  case aC => rw [A _ (by unfold iNet; omega) (by omega) (by omega) (by omega)]; exact h.aC
  case cQ => rw [e2]; exact h.cQ
  case aQ => rw [A _ (by unfold iNet; omega) (by omega) (by omega) (by omega)]; exact h.aQ
  case kind => intro n hn; rw [A _ (by unfold iNet; omega) (by omega) (by omega) (by omega), e3]; exact h.kind n hn
  case size => intro n hn; rw [A _ (by unfold iNet; omega) (by omega) (by omega) (by omega), e4]; exact h.size n hn
  case gate => intro n hn; rw [A _ (by unfold iNet; omega) (by omega) (by omega) (by omega), e5]; exact h.gate n hn
  case kep0 => intro n hn; rw [A _ (by unfold iNet; omega) (by omega) (by omega) (by omega), e7]; exact h.kep0 n hn
  case kep1 => intro n hn; rw [A _ (by unfold iNet; omega) (by omega) (by omega) (by omega), e8]; exact h.kep1 n hn
  case frm => intro n hn; rw [A _ (by unfold iNet; omega) (by omega) (by omega) (by omega), e9]; exact h.frm n hn
  case to => intro n hn; rw [A _ (by unfold iNet; omega) (by omega) (by omega) (by omega), e10]; exact h.to n hn
  case low => intro n hn; rw [A _ (by unfold iNet; omega) (by omega) (by omega) (by omega), e11]; exact h.low n hn
  case hig => intro n hn; rw [A _ (by unfold iNet; omega) (by omega) (by omega) (by omega), e12]; exact h.hig n hn
  case trv => intro n hn; rw [A _ (by unfold iNet; omega) (by omega) (by omega) (by omega), e13]; exact h.trv n hn
  case brd => intro n hn; rw [A _ (by unfold iNet; omega) (by omega) (by omega) (by omega), e14]; exact h.brd n hn
  case brk => intro n hn; rw [A _ (by unfold iNet; omega) (by omega) (by omega) (by omega), e15]; exact h.brk n hn
  case way0 => intro n hn; rw [A _ (by unfold iNet; omega) (by omega) (by omega) (by omega), e17]; exact h.way0 n hn
  case way1 => 
    intro i hi
    rw [e18]
    by_cases e : i = p
    · subst e; rw [up1_eq, b3, h.way1 i hi]
    · rw [up1_ne e, A _ (by unfold iNet; omega) (by omega) (by omega) (by omega)]; exact h.way1 i hi
  case gateV => rw [e5, e9]; exact h.gateV
  case ends => rw [e9, e10]; exact h.ends
  case lowV => rw [e11]; exact h.lowV
  case higV => rw [e12]; exact h.higV
  case trvV => rw [e13]; exact h.trvV
  case brdV => rw [e14]; exact h.brdV
  case brkV => rw [e15]; exact h.brkV
  case kindV => rw [e3]; exact h.kindV
  case kepZ => rw [e7, e8]; exact h.kepZ
  case brkZ => rw [e15]; exact h.brkZ
  case wayZ => 
    intro i h1 h2
    rw [e18, up1_ne (by omega), e17]
    exact h.wayZ i h1 h2
  case su00 => rw [A _ (by unfold iNet; omega) (by omega) (by omega) (by omega), e3, e7]; exact h.su00
  case su01 => rw [A _ (by unfold iNet; omega) (by omega) (by omega) (by omega), e3, e7]; exact h.su01
  case su02 => rw [A _ (by unfold iNet; omega) (by omega) (by omega) (by omega), e3, e7]; exact h.su02
  case su03 => rw [A _ (by unfold iNet; omega) (by omega) (by omega) (by omega), e17]; exact h.su03
  case su04 => rw [A _ (by unfold iNet; omega) (by omega) (by omega) (by omega), e19]; exact h.su04
  case su05 => rw [A _ (by unfold iNet; omega) (by omega) (by omega) (by omega), s1]; exact h.su05
  case su06 => rw [A _ (by unfold iNet; omega) (by omega) (by omega) (by omega), e21]; exact h.su06
  case su10 => rw [A _ (by unfold iNet; omega) (by omega) (by omega) (by omega), e3, e8]; exact h.su10
  case su11 => rw [A _ (by unfold iNet; omega) (by omega) (by omega) (by omega), e3, e8]; exact h.su11
  case su12 => rw [A _ (by unfold iNet; omega) (by omega) (by omega) (by omega), e3, e8]; exact h.su12
  case su13 => rw [t13, e18, h.su13, sumTo_u (by omega), i_asc]
  case su14 => rw [A _ (by unfold iNet; omega) (by omega) (by omega) (by omega), e19]; exact h.su14
  case su15 => rw [t15, s0, h.su15]
  case su16 => rw [A _ (by unfold iNet; omega) (by omega) (by omega) (by omega), e21]; exact h.su16
theorem RNet.lost1 {c c' : Sg} {a a' : Nat → Int32} {N C Q : Nat} {x : Int32} (h : RNet c a N C Q) (hc : ∀ i, 2 ≤ i → i ≤ 21 → i ≠ 21 → c' i = c i) (s0 : c' 21 1 = c 21 1 + x) (s1 : c' 21 0 = c 21 0) (t16 : a' 23 = a 23 + x) (ha : ∀ j, iNet j → j ≠ 23 → a' j = a j) : RNet c' a' N C Q := by
  have e2 := hc 2 (by decide) (by decide) (by decide)
  have e3 := hc 3 (by decide) (by decide) (by decide)
  have e4 := hc 4 (by decide) (by decide) (by decide)
  have e5 := hc 5 (by decide) (by decide) (by decide)
  have e7 := hc 7 (by decide) (by decide) (by decide)
  have e8 := hc 8 (by decide) (by decide) (by decide)
  have e9 := hc 9 (by decide) (by decide) (by decide)
  have e10 := hc 10 (by decide) (by decide) (by decide)
  have e11 := hc 11 (by decide) (by decide) (by decide)
  have e12 := hc 12 (by decide) (by decide) (by decide)
  have e13 := hc 13 (by decide) (by decide) (by decide)
  have e14 := hc 14 (by decide) (by decide) (by decide)
  have e15 := hc 15 (by decide) (by decide) (by decide)
  have e17 := hc 17 (by decide) (by decide) (by decide)
  have e18 := hc 18 (by decide) (by decide) (by decide)
  have e19 := hc 19 (by decide) (by decide) (by decide)
  have e20 := hc 20 (by decide) (by decide) (by decide)
  have A := ha
  apply RNet.mk
  case hN => exact h.hN
  case hC => exact h.hC
  case hQ => exact h.hQ
  case cN => rw [e2]; exact h.cN
  case aN => rw [A _ (by unfold iNet; omega) (by omega)]; exact h.aN
  case cC => rw [e2]; exact h.cC
  case aC => rw [A _ (by unfold iNet; omega) (by omega)]; exact h.aC
  case cQ => rw [e2]; exact h.cQ
  case aQ => rw [A _ (by unfold iNet; omega) (by omega)]; exact h.aQ
  case kind => intro n hn; rw [A _ (by unfold iNet; omega) (by omega), e3]; exact h.kind n hn
  case size => intro n hn; rw [A _ (by unfold iNet; omega) (by omega), e4]; exact h.size n hn
  case gate => intro n hn; rw [A _ (by unfold iNet; omega) (by omega), e5]; exact h.gate n hn
  case kep0 => intro n hn; rw [A _ (by unfold iNet; omega) (by omega), e7]; exact h.kep0 n hn
  case kep1 => intro n hn; rw [A _ (by unfold iNet; omega) (by omega), e8]; exact h.kep1 n hn
  case frm => intro n hn; rw [A _ (by unfold iNet; omega) (by omega), e9]; exact h.frm n hn
  case to => intro n hn; rw [A _ (by unfold iNet; omega) (by omega), e10]; exact h.to n hn
  case low => intro n hn; rw [A _ (by unfold iNet; omega) (by omega), e11]; exact h.low n hn
  case hig => intro n hn; rw [A _ (by unfold iNet; omega) (by omega), e12]; exact h.hig n hn
  case trv => intro n hn; rw [A _ (by unfold iNet; omega) (by omega), e13]; exact h.trv n hn
  case brd => intro n hn; rw [A _ (by unfold iNet; omega) (by omega), e14]; exact h.brd n hn
  case brk => intro n hn; rw [A _ (by unfold iNet; omega) (by omega), e15]; exact h.brk n hn
  case way0 => intro n hn; rw [A _ (by unfold iNet; omega) (by omega), e17]; exact h.way0 n hn
  case way1 => intro n hn; rw [A _ (by unfold iNet; omega) (by omega), e18]; exact h.way1 n hn
  case gateV => rw [e5, e9]; exact h.gateV
  case ends => rw [e9, e10]; exact h.ends
  case lowV => rw [e11]; exact h.lowV
  case higV => rw [e12]; exact h.higV
  case trvV => rw [e13]; exact h.trvV
  case brdV => rw [e14]; exact h.brdV
  case brkV => rw [e15]; exact h.brkV
  case kindV => rw [e3]; exact h.kindV
  case kepZ => rw [e7, e8]; exact h.kepZ
  case brkZ => rw [e15]; exact h.brkZ
  case wayZ => rw [e17, e18]; exact h.wayZ
  case su00 => rw [A _ (by unfold iNet; omega) (by omega), e3, e7]; exact h.su00
  case su01 => rw [A _ (by unfold iNet; omega) (by omega), e3, e7]; exact h.su01
  case su02 => rw [A _ (by unfold iNet; omega) (by omega), e3, e7]; exact h.su02
  case su03 => rw [A _ (by unfold iNet; omega) (by omega), e17]; exact h.su03
  case su04 => rw [A _ (by unfold iNet; omega) (by omega), e19]; exact h.su04
  case su05 => rw [A _ (by unfold iNet; omega) (by omega), e20]; exact h.su05
  case su06 => rw [A _ (by unfold iNet; omega) (by omega), s1]; exact h.su06
  case su10 => rw [A _ (by unfold iNet; omega) (by omega), e3, e8]; exact h.su10
  case su11 => rw [A _ (by unfold iNet; omega) (by omega), e3, e8]; exact h.su11
  case su12 => rw [A _ (by unfold iNet; omega) (by omega), e3, e8]; exact h.su12
  case su13 => rw [A _ (by unfold iNet; omega) (by omega), e18]; exact h.su13
  case su14 => rw [A _ (by unfold iNet; omega) (by omega), e19]; exact h.su14
  case su15 => rw [A _ (by unfold iNet; omega) (by omega), e20]; exact h.su15
  case su16 => rw [t16, s0, h.su16]
theorem RNet.arr1 {c c' : Sg} {a a' : Nat → Int32} {N C Q : Nat} {x : Int32} (h : RNet c a N C Q) (hc : ∀ i, 2 ≤ i → i ≤ 21 → i ≠ 18 → c' i = c i) (b3 : ∀ i, i < 126 → a' (416 + i) = c' 18 i) (hz : ∀ i, c 18 i = 0 → c' 18 i = 0) (hs : sumTo (c' 18) 126 + x = sumTo (c 18) 126) (t13 : a' 20 = a 20 + -x) (ha : ∀ j, iNet j → (j < 416 ∨ 416 + 126 ≤ j) → j ≠ 20 → a' j = a j) : RNet c' a' N C Q := by
  have hC := h.hC
  have e2 := hc 2 (by decide) (by decide) (by decide)
  have e3 := hc 3 (by decide) (by decide) (by decide)
  have e4 := hc 4 (by decide) (by decide) (by decide)
  have e5 := hc 5 (by decide) (by decide) (by decide)
  have e7 := hc 7 (by decide) (by decide) (by decide)
  have e8 := hc 8 (by decide) (by decide) (by decide)
  have e9 := hc 9 (by decide) (by decide) (by decide)
  have e10 := hc 10 (by decide) (by decide) (by decide)
  have e11 := hc 11 (by decide) (by decide) (by decide)
  have e12 := hc 12 (by decide) (by decide) (by decide)
  have e13 := hc 13 (by decide) (by decide) (by decide)
  have e14 := hc 14 (by decide) (by decide) (by decide)
  have e15 := hc 15 (by decide) (by decide) (by decide)
  have e17 := hc 17 (by decide) (by decide) (by decide)
  have e19 := hc 19 (by decide) (by decide) (by decide)
  have e20 := hc 20 (by decide) (by decide) (by decide)
  have e21 := hc 21 (by decide) (by decide) (by decide)
  have A := ha
  apply RNet.mk
  case hN => exact h.hN
  case hC => exact h.hC
  case hQ => exact h.hQ
  case cN => rw [e2]; exact h.cN
  case aN => rw [A _ (by unfold iNet; omega) (by omega) (by omega)]; exact h.aN
  case cC => rw [e2]; exact h.cC
  case aC => rw [A _ (by unfold iNet; omega) (by omega) (by omega)]; exact h.aC
  case cQ => rw [e2]; exact h.cQ
  case aQ => rw [A _ (by unfold iNet; omega) (by omega) (by omega)]; exact h.aQ
  case kind => intro n hn; rw [A _ (by unfold iNet; omega) (by omega) (by omega), e3]; exact h.kind n hn
  case size => intro n hn; rw [A _ (by unfold iNet; omega) (by omega) (by omega), e4]; exact h.size n hn
  case gate => intro n hn; rw [A _ (by unfold iNet; omega) (by omega) (by omega), e5]; exact h.gate n hn
  case kep0 => intro n hn; rw [A _ (by unfold iNet; omega) (by omega) (by omega), e7]; exact h.kep0 n hn
  case kep1 => intro n hn; rw [A _ (by unfold iNet; omega) (by omega) (by omega), e8]; exact h.kep1 n hn
  case frm => intro n hn; rw [A _ (by unfold iNet; omega) (by omega) (by omega), e9]; exact h.frm n hn
  case to => intro n hn; rw [A _ (by unfold iNet; omega) (by omega) (by omega), e10]; exact h.to n hn
  case low => intro n hn; rw [A _ (by unfold iNet; omega) (by omega) (by omega), e11]; exact h.low n hn
  case hig => intro n hn; rw [A _ (by unfold iNet; omega) (by omega) (by omega), e12]; exact h.hig n hn
  case trv => intro n hn; rw [A _ (by unfold iNet; omega) (by omega) (by omega), e13]; exact h.trv n hn
  case brd => intro n hn; rw [A _ (by unfold iNet; omega) (by omega) (by omega), e14]; exact h.brd n hn
  case brk => intro n hn; rw [A _ (by unfold iNet; omega) (by omega) (by omega), e15]; exact h.brk n hn
  case way0 => intro n hn; rw [A _ (by unfold iNet; omega) (by omega) (by omega), e17]; exact h.way0 n hn
  case way1 => exact b3
  case gateV => rw [e5, e9]; exact h.gateV
  case ends => rw [e9, e10]; exact h.ends
  case lowV => rw [e11]; exact h.lowV
  case higV => rw [e12]; exact h.higV
  case trvV => rw [e13]; exact h.trvV
  case brdV => rw [e14]; exact h.brdV
  case brkV => rw [e15]; exact h.brkV
  case kindV => rw [e3]; exact h.kindV
  case kepZ => rw [e7, e8]; exact h.kepZ
  case brkZ => rw [e15]; exact h.brkZ
  case wayZ => 
    intro i h1 h2
    rw [e17]
    exact ⟨(h.wayZ i h1 h2).1, hz i (h.wayZ i h1 h2).2⟩
  case su00 => rw [A _ (by unfold iNet; omega) (by omega) (by omega), e3, e7]; exact h.su00
  case su01 => rw [A _ (by unfold iNet; omega) (by omega) (by omega), e3, e7]; exact h.su01
  case su02 => rw [A _ (by unfold iNet; omega) (by omega) (by omega), e3, e7]; exact h.su02
  case su03 => rw [A _ (by unfold iNet; omega) (by omega) (by omega), e17]; exact h.su03
  case su04 => rw [A _ (by unfold iNet; omega) (by omega) (by omega), e19]; exact h.su04
  case su05 => rw [A _ (by unfold iNet; omega) (by omega) (by omega), e20]; exact h.su05
  case su06 => rw [A _ (by unfold iNet; omega) (by omega) (by omega), e21]; exact h.su06
  case su10 => rw [A _ (by unfold iNet; omega) (by omega) (by omega), e3, e8]; exact h.su10
  case su11 => rw [A _ (by unfold iNet; omega) (by omega) (by omega), e3, e8]; exact h.su11
  case su12 => rw [A _ (by unfold iNet; omega) (by omega) (by omega), e3, e8]; exact h.su12
  case su13 => rw [t13, h.su13, ← hs, ← Int32.sub_eq_add_neg, Int32.add_sub_cancel]
  case su14 => rw [A _ (by unfold iNet; omega) (by omega) (by omega), e19]; exact h.su14
  case su15 => rw [A _ (by unfold iNet; omega) (by omega) (by omega), e20]; exact h.su15
  case su16 => rw [A _ (by unfold iNet; omega) (by omega) (by omega), e21]; exact h.su16
theorem arr_y0 {g M : Sg} {N C Q v : Nat} (h : RNet g (M 216) N C Q) : ∀ m j F G came f a, j + m = C → m < F → m < G → (∀ i, (i < 290 ∨ 290 + 126 ≤ i) → i ≠ 13 → a i = M 216 i) → a 13 = M 216 13 → (∀ i, i < 126 → a (290 + i) = f i) → ∃ came2 f2 a2, net_takeArrivals_k0_5 F (nn v) came (nn j) (sc g 17 f) = some (came2, sc g 17 f2) ∧ m_comes_k0_5 G (nn v) came (nn j) (sc M 216 a) = some (came2, sc M 216 a2) ∧ (∀ i, (i < 290 ∨ 290 + 126 ≤ i) → i ≠ 13 → a2 i = M 216 i) ∧ a2 13 = M 216 13 + -came2 ∧ (∀ i, i < 126 → a2 (290 + i) = f2 i) ∧ (∀ i, f i = 0 → f2 i = 0) ∧ sumTo f2 126 + came2 = sumTo f 126 + came := by
  have hC := h.hC
  have hN := h.hN
  have hQ := h.hQ
  intro m
  induction m with
  | zero =>
    intro j F G came f a hj hF hG ha h13 hf
    obtain ⟨F, rfl⟩ : ∃ F2, F = F2 + 1 := ⟨F - 1, by omega⟩
    obtain ⟨G, rfl⟩ : ∃ F2, G = F2 + 1 := ⟨G - 1, by omega⟩
    have : j = C := by omega
    subst this
    refine ⟨came, f, up1 a 13 (a 13 + -came), ?_, ?_, ?_, ?_, ?_, fun _ e => e, rfl⟩
    · unfold net_takeArrivals_k0_5
      rw [sc_n (by decide), h.cC]
      exact if_pos (Int32.le_refl _)
    · unfold m_comes_k0_5 m_adds_k0_3
      rw [sc_e, ha 1 (by omega) (by omega), h.aC]
      refine st_t (Int32.le_refl _) (st_b (st_l rfl) ?_)
      rw [sc_u]
    · intro i h1 h2
      rw [up1_ne h2]; exact ha i h1 h2
    · rw [up1_eq, h13]
    · intro i hi
      rw [up1_ne (by omega)]; exact hf i hi
  | succ m ih =>
    intro j F G came f a hj hF hG ha h13 hf
    obtain ⟨F, rfl⟩ : ∃ F2, F = F2 + 1 := ⟨F - 1, by omega⟩
    obtain ⟨G, rfl⟩ : ∃ F2, G = F2 + 1 := ⟨G - 1, by omega⟩
    have hj14 : j < 14 := by omega
    have h2 : ¬ C ≤ j := by omega
    have e1 : nn j + 1 = nn (j + 1) := nnA j 1
    have hch : m_channelOf_k1 (nn j) (sc M 216 a) = some (g 10 j) := by
      rw [← h.to j hj14, ← ha (190 + 7 * j + 1) (by omega) (by omega)]
      exact (chanOf_y (g := sc M 216 a) hj14 (k := 1) (by decide)).trans (by rw [sc_e])
    by_cases q : g 10 j = nn v
    · have hp : j * 9 + Q % 9 < 126 := by omega
      have hp2 : 290 + (j * 9 + Q % 9) < 20360 := by omega
      obtain ⟨came2, f2, a2, r1, r2, r3, r4, r5, r6, r7⟩ := ih (j + 1) F G (came + f (j * 9 + Q % 9)) (up1 f (j * 9 + Q % 9) 0) (up1 a (290 + (j * 9 + Q % 9)) 0) (by omega) (by omega) (by omega) (fun i p1 p2 => by rw [up1_ne (by omega)]; exact ha i p1 p2) (by rw [up1_ne (by omega)]; exact h13) (fun i hi => by
        by_cases e : i = j * 9 + Q % 9
        · rw [e, up1_eq, up1_eq]
        · rw [up1_ne e, up1_ne (by omega)]; exact hf i hi)
      refine ⟨came2, f2, a2, ?_, ?_, r3, r4, r5, fun i e => r6 i ?_, ?_⟩
      · unfold net_takeArrivals_k0_5 net_placeAt
        rw [sc_n (by decide), h.cC, sc_n (by decide), nnT (by omega), h.cQ, e1]
        have ep : nn j * 9 + (nn Q - nn Q / 9 * 9) = nn (j * 9 + Q % 9) := by
          have e : nn Q / 9 * 9 = nn (Q / 9 * 9) := by simp (disch := first | omega | decide) only [lt1, nnMl, nnMr, nnAl, nnAr, nnA, nnM, nnB, nnT, nnP, nnE, nnEl, nnEr, nnL, nnLl, nnLr, nnQ, nnQr, nnN, Nat.add_zero, if_false, if_true, Option.bind_some, not_true, not_false_iff, not_true_eq_false, not_false_eq_true, eq_self, Nat.not_lt_zero, z10, z01, or_true, true_or, or_false, false_or, true_and, false_and, nnDr]
          rw [e, nnS (a := Q) (b := Q / 9 * 9) (by omega), show Q - Q / 9 * 9 = Q % 9 by omega]
          simp (disch := first | omega | decide) only [lt1, nnMl, nnMr, nnAl, nnAr, nnA, nnM, nnB, nnT, nnP, nnE, nnEl, nnEr, nnL, nnLl, nnLr, nnQ, nnQr, nnN, Nat.add_zero, if_false, if_true, Option.bind_some, not_true, not_false_iff, not_true_eq_false, not_false_eq_true, eq_self, Nat.not_lt_zero, z10, z01, or_true, true_or, or_false, false_or, true_and, false_and]
        refine st_f (by simp (disch := first | omega | decide) only [lt1, nnMl, nnMr, nnAl, nnAr, nnA, nnM, nnB, nnT, nnP, nnE, nnEl, nnEr, nnL, nnLl, nnLr, nnQ, nnQr, nnN, Nat.add_zero, if_false, if_true, Option.bind_some, not_true, not_false_iff, not_true_eq_false, not_false_eq_true, eq_self, Nat.not_lt_zero, z10, z01, or_true, true_or, or_false, false_or, true_and, false_and, h2]) (st_t (by simp (disch := first | omega | decide) only [lt1, nnMl, nnMr, nnAl, nnAr, nnA, nnM, nnB, nnT, nnP, nnE, nnEl, nnEr, nnL, nnLl, nnLr, nnQ, nnQr, nnN, Nat.add_zero, if_false, if_true, Option.bind_some, not_true, not_false_iff, not_true_eq_false, not_false_eq_true, eq_self, Nat.not_lt_zero, z10, z01, or_true, true_or, or_false, false_or, true_and, false_and, hj14]) (st_f (fun e => e q) (st_b rfl ?_)))
        rw [ep]
        refine st_w (by simp (disch := first | omega | decide) only [lt1, nnMl, nnMr, nnAl, nnAr, nnA, nnM, nnB, nnT, nnP, nnE, nnEl, nnEr, nnL, nnLl, nnLr, nnQ, nnQr, nnN, Nat.add_zero, if_false, if_true, Option.bind_some, not_true, not_false_iff, not_true_eq_false, not_false_eq_true, eq_self, Nat.not_lt_zero, z10, z01, or_true, true_or, or_false, false_or, true_and, false_and, hp]) (st_w (by simp (disch := first | omega | decide) only [lt1, nnMl, nnMr, nnAl, nnAr, nnA, nnM, nnB, nnT, nnP, nnE, nnEl, nnEr, nnL, nnLl, nnLr, nnQ, nnQr, nnN, Nat.add_zero, if_false, if_true, Option.bind_some, not_true, not_false_iff, not_true_eq_false, not_false_eq_true, eq_self, Nat.not_lt_zero, z10, z01, or_true, true_or, or_false, false_or, true_and, false_and, hp]) ?_)
        rw [sc_e, nnT (by omega), sc_u]
        exact r1
      · unfold m_comes_k0_5 m_wayAt_k0
        rw [sc_e, ha 1 (by omega) (by omega), h.aC, ha 3 (by omega) (by omega), h.aQ, e1]
        have ep : 290 + 9 * (0 + nn j) + (nn Q - nn Q / 9 * 9) = nn (290 + (j * 9 + Q % 9)) := by
          have e : nn Q / 9 * 9 = nn (Q / 9 * 9) := by simp (disch := first | omega | decide) only [lt1, nnMl, nnMr, nnAl, nnAr, nnA, nnM, nnB, nnT, nnP, nnE, nnEl, nnEr, nnL, nnLl, nnLr, nnQ, nnQr, nnN, Nat.add_zero, if_false, if_true, Option.bind_some, not_true, not_false_iff, not_true_eq_false, not_false_eq_true, eq_self, Nat.not_lt_zero, z10, z01, or_true, true_or, or_false, false_or, true_and, false_and, nnDr]
          rw [e, nnS (a := Q) (b := Q / 9 * 9) (by omega), show Q - Q / 9 * 9 = Q % 9 by omega, show 290 + (j * 9 + Q % 9) = 290 + 9 * (0 + j) + Q % 9 by omega]
          simp (disch := first | omega | decide) only [lt1, nnMl, nnMr, nnAl, nnAr, nnA, nnM, nnB, nnT, nnP, nnE, nnEl, nnEr, nnL, nnLl, nnLr, nnQ, nnQr, nnN, Nat.add_zero, if_false, if_true, Option.bind_some, not_true, not_false_iff, not_true_eq_false, not_false_eq_true, eq_self, Nat.not_lt_zero, z10, z01, or_true, true_or, or_false, false_or, true_and, false_and]
        refine st_f (by simp (disch := first | omega | decide) only [lt1, nnMl, nnMr, nnAl, nnAr, nnA, nnM, nnB, nnT, nnP, nnE, nnEl, nnEr, nnL, nnLl, nnLr, nnQ, nnQr, nnN, Nat.add_zero, if_false, if_true, Option.bind_some, not_true, not_false_iff, not_true_eq_false, not_false_eq_true, eq_self, Nat.not_lt_zero, z10, z01, or_true, true_or, or_false, false_or, true_and, false_and, h2]) (st_b hch (st_t q (st_b rfl ?_)))
        rw [ep]
        refine st_w (by simp (disch := first | omega | decide) only [lt1, nnMl, nnMr, nnAl, nnAr, nnA, nnM, nnB, nnT, nnP, nnE, nnEl, nnEr, nnL, nnLl, nnLr, nnQ, nnQr, nnN, Nat.add_zero, if_false, if_true, Option.bind_some, not_true, not_false_iff, not_true_eq_false, not_false_eq_true, eq_self, Nat.not_lt_zero, z10, z01, or_true, true_or, or_false, false_or, true_and, false_and, hp2]) (st_w (by simp (disch := first | omega | decide) only [lt1, nnMl, nnMr, nnAl, nnAr, nnA, nnM, nnB, nnT, nnP, nnE, nnEl, nnEr, nnL, nnLl, nnLr, nnQ, nnQr, nnN, Nat.add_zero, if_false, if_true, Option.bind_some, not_true, not_false_iff, not_true_eq_false, not_false_eq_true, eq_self, Nat.not_lt_zero, z10, z01, or_true, true_or, or_false, false_or, true_and, false_and, hp2]) ?_)
        rw [nnT (by omega), sc_u, hf _ hp]
        exact r2
      · by_cases e2 : i = j * 9 + Q % 9
        · rw [e2, up1_eq]
        · rw [up1_ne e2]; exact e
      · rw [r7, sumTo_u hp, Int32.add_assoc, show (0 : Int32) - f (j * 9 + Q % 9) + (came + f (j * 9 + Q % 9)) = came by rw [Int32.add_comm came, ← Int32.add_assoc, Int32.sub_add_cancel, Int32.zero_add]]
    · obtain ⟨came2, f2, a2, r1, r2, r3⟩ := ih (j + 1) F G came f a (by omega) (by omega) (by omega) ha h13 hf
      refine ⟨came2, f2, a2, ?_, ?_, r3⟩
      · unfold net_takeArrivals_k0_5
        rw [sc_n (by decide), h.cC, sc_n (by decide), nnT (by omega), e1]
        exact st_f (by simp (disch := first | omega | decide) only [lt1, nnMl, nnMr, nnAl, nnAr, nnA, nnM, nnB, nnT, nnP, nnE, nnEl, nnEr, nnL, nnLl, nnLr, nnQ, nnQr, nnN, Nat.add_zero, if_false, if_true, Option.bind_some, not_true, not_false_iff, not_true_eq_false, not_false_eq_true, eq_self, Nat.not_lt_zero, z10, z01, or_true, true_or, or_false, false_or, true_and, false_and, h2]) (st_t (by simp (disch := first | omega | decide) only [lt1, nnMl, nnMr, nnAl, nnAr, nnA, nnM, nnB, nnT, nnP, nnE, nnEl, nnEr, nnL, nnLl, nnLr, nnQ, nnQr, nnN, Nat.add_zero, if_false, if_true, Option.bind_some, not_true, not_false_iff, not_true_eq_false, not_false_eq_true, eq_self, Nat.not_lt_zero, z10, z01, or_true, true_or, or_false, false_or, true_and, false_and, hj14]) (st_t q r1))
      · unfold m_comes_k0_5
        rw [sc_e, ha 1 (by omega) (by omega), h.aC, e1]
        exact st_f (by simp (disch := first | omega | decide) only [lt1, nnMl, nnMr, nnAl, nnAr, nnA, nnM, nnB, nnT, nnP, nnE, nnEl, nnEr, nnL, nnLl, nnLr, nnQ, nnQr, nnN, Nat.add_zero, if_false, if_true, Option.bind_some, not_true, not_false_iff, not_true_eq_false, not_false_eq_true, eq_self, Nat.not_lt_zero, z10, z01, or_true, true_or, or_false, false_or, true_and, false_and, h2]) (st_b hch (st_f q r2))
theorem arr_y1 {g M : Sg} {N C Q v : Nat} (h : RNet g (M 216) N C Q) : ∀ m j F G came f a, j + m = C → m < F → m < G → (∀ i, (i < 416 ∨ 416 + 126 ≤ i) → i ≠ 20 → a i = M 216 i) → a 20 = M 216 20 → (∀ i, i < 126 → a (416 + i) = f i) → ∃ came2 f2 a2, net_takeArrivals_k1_5 F (nn v) came (nn j) (sc g 18 f) = some (came2, sc g 18 f2) ∧ m_comes_k1_5 G (nn v) came (nn j) (sc M 216 a) = some (came2, sc M 216 a2) ∧ (∀ i, (i < 416 ∨ 416 + 126 ≤ i) → i ≠ 20 → a2 i = M 216 i) ∧ a2 20 = M 216 20 + -came2 ∧ (∀ i, i < 126 → a2 (416 + i) = f2 i) ∧ (∀ i, f i = 0 → f2 i = 0) ∧ sumTo f2 126 + came2 = sumTo f 126 + came := by
  have hC := h.hC
  have hN := h.hN
  have hQ := h.hQ
  intro m
  induction m with
  | zero =>
    intro j F G came f a hj hF hG ha h13 hf
    obtain ⟨F, rfl⟩ : ∃ F2, F = F2 + 1 := ⟨F - 1, by omega⟩
    obtain ⟨G, rfl⟩ : ∃ F2, G = F2 + 1 := ⟨G - 1, by omega⟩
    have : j = C := by omega
    subst this
    refine ⟨came, f, up1 a 20 (a 20 + -came), ?_, ?_, ?_, ?_, ?_, fun _ e => e, rfl⟩
    · unfold net_takeArrivals_k1_5
      rw [sc_n (by decide), h.cC]
      exact if_pos (Int32.le_refl _)
    · unfold m_comes_k1_5 m_adds_k1_3
      rw [sc_e, ha 1 (by omega) (by omega), h.aC]
      refine st_t (Int32.le_refl _) (st_b (st_l rfl) ?_)
      rw [sc_u]
    · intro i h1 h2
      rw [up1_ne h2]; exact ha i h1 h2
    · rw [up1_eq, h13]
    · intro i hi
      rw [up1_ne (by omega)]; exact hf i hi
  | succ m ih =>
    intro j F G came f a hj hF hG ha h13 hf
    obtain ⟨F, rfl⟩ : ∃ F2, F = F2 + 1 := ⟨F - 1, by omega⟩
    obtain ⟨G, rfl⟩ : ∃ F2, G = F2 + 1 := ⟨G - 1, by omega⟩
    have hj14 : j < 14 := by omega
    have h2 : ¬ C ≤ j := by omega
    have e1 : nn j + 1 = nn (j + 1) := nnA j 1
    have hch : m_channelOf_k1 (nn j) (sc M 216 a) = some (g 10 j) := by
      rw [← h.to j hj14, ← ha (190 + 7 * j + 1) (by omega) (by omega)]
      exact (chanOf_y (g := sc M 216 a) hj14 (k := 1) (by decide)).trans (by rw [sc_e])
    by_cases q : g 10 j = nn v
    · have hp : j * 9 + Q % 9 < 126 := by omega
      have hp2 : 416 + (j * 9 + Q % 9) < 20360 := by omega
      obtain ⟨came2, f2, a2, r1, r2, r3, r4, r5, r6, r7⟩ := ih (j + 1) F G (came + f (j * 9 + Q % 9)) (up1 f (j * 9 + Q % 9) 0) (up1 a (416 + (j * 9 + Q % 9)) 0) (by omega) (by omega) (by omega) (fun i p1 p2 => by rw [up1_ne (by omega)]; exact ha i p1 p2) (by rw [up1_ne (by omega)]; exact h13) (fun i hi => by
        by_cases e : i = j * 9 + Q % 9
        · rw [e, up1_eq, up1_eq]
        · rw [up1_ne e, up1_ne (by omega)]; exact hf i hi)
      refine ⟨came2, f2, a2, ?_, ?_, r3, r4, r5, fun i e => r6 i ?_, ?_⟩
      · unfold net_takeArrivals_k1_5 net_placeAt
        rw [sc_n (by decide), h.cC, sc_n (by decide), nnT (by omega), h.cQ, e1]
        have ep : nn j * 9 + (nn Q - nn Q / 9 * 9) = nn (j * 9 + Q % 9) := by
          have e : nn Q / 9 * 9 = nn (Q / 9 * 9) := by simp (disch := first | omega | decide) only [lt1, nnMl, nnMr, nnAl, nnAr, nnA, nnM, nnB, nnT, nnP, nnE, nnEl, nnEr, nnL, nnLl, nnLr, nnQ, nnQr, nnN, Nat.add_zero, if_false, if_true, Option.bind_some, not_true, not_false_iff, not_true_eq_false, not_false_eq_true, eq_self, Nat.not_lt_zero, z10, z01, or_true, true_or, or_false, false_or, true_and, false_and, nnDr]
          rw [e, nnS (a := Q) (b := Q / 9 * 9) (by omega), show Q - Q / 9 * 9 = Q % 9 by omega]
          simp (disch := first | omega | decide) only [lt1, nnMl, nnMr, nnAl, nnAr, nnA, nnM, nnB, nnT, nnP, nnE, nnEl, nnEr, nnL, nnLl, nnLr, nnQ, nnQr, nnN, Nat.add_zero, if_false, if_true, Option.bind_some, not_true, not_false_iff, not_true_eq_false, not_false_eq_true, eq_self, Nat.not_lt_zero, z10, z01, or_true, true_or, or_false, false_or, true_and, false_and]
        refine st_f (by simp (disch := first | omega | decide) only [lt1, nnMl, nnMr, nnAl, nnAr, nnA, nnM, nnB, nnT, nnP, nnE, nnEl, nnEr, nnL, nnLl, nnLr, nnQ, nnQr, nnN, Nat.add_zero, if_false, if_true, Option.bind_some, not_true, not_false_iff, not_true_eq_false, not_false_eq_true, eq_self, Nat.not_lt_zero, z10, z01, or_true, true_or, or_false, false_or, true_and, false_and, h2]) (st_t (by simp (disch := first | omega | decide) only [lt1, nnMl, nnMr, nnAl, nnAr, nnA, nnM, nnB, nnT, nnP, nnE, nnEl, nnEr, nnL, nnLl, nnLr, nnQ, nnQr, nnN, Nat.add_zero, if_false, if_true, Option.bind_some, not_true, not_false_iff, not_true_eq_false, not_false_eq_true, eq_self, Nat.not_lt_zero, z10, z01, or_true, true_or, or_false, false_or, true_and, false_and, hj14]) (st_f (fun e => e q) (st_b rfl ?_)))
        rw [ep]
        refine st_w (by simp (disch := first | omega | decide) only [lt1, nnMl, nnMr, nnAl, nnAr, nnA, nnM, nnB, nnT, nnP, nnE, nnEl, nnEr, nnL, nnLl, nnLr, nnQ, nnQr, nnN, Nat.add_zero, if_false, if_true, Option.bind_some, not_true, not_false_iff, not_true_eq_false, not_false_eq_true, eq_self, Nat.not_lt_zero, z10, z01, or_true, true_or, or_false, false_or, true_and, false_and, hp]) (st_w (by simp (disch := first | omega | decide) only [lt1, nnMl, nnMr, nnAl, nnAr, nnA, nnM, nnB, nnT, nnP, nnE, nnEl, nnEr, nnL, nnLl, nnLr, nnQ, nnQr, nnN, Nat.add_zero, if_false, if_true, Option.bind_some, not_true, not_false_iff, not_true_eq_false, not_false_eq_true, eq_self, Nat.not_lt_zero, z10, z01, or_true, true_or, or_false, false_or, true_and, false_and, hp]) ?_)
        rw [sc_e, nnT (by omega), sc_u]
        exact r1
      · unfold m_comes_k1_5 m_wayAt_k1
        rw [sc_e, ha 1 (by omega) (by omega), h.aC, ha 3 (by omega) (by omega), h.aQ, e1]
        have ep : 290 + 9 * (14 + nn j) + (nn Q - nn Q / 9 * 9) = nn (416 + (j * 9 + Q % 9)) := by
          have e : nn Q / 9 * 9 = nn (Q / 9 * 9) := by simp (disch := first | omega | decide) only [lt1, nnMl, nnMr, nnAl, nnAr, nnA, nnM, nnB, nnT, nnP, nnE, nnEl, nnEr, nnL, nnLl, nnLr, nnQ, nnQr, nnN, Nat.add_zero, if_false, if_true, Option.bind_some, not_true, not_false_iff, not_true_eq_false, not_false_eq_true, eq_self, Nat.not_lt_zero, z10, z01, or_true, true_or, or_false, false_or, true_and, false_and, nnDr]
          rw [e, nnS (a := Q) (b := Q / 9 * 9) (by omega), show Q - Q / 9 * 9 = Q % 9 by omega, show 416 + (j * 9 + Q % 9) = 290 + 9 * (14 + j) + Q % 9 by omega]
          simp (disch := first | omega | decide) only [lt1, nnMl, nnMr, nnAl, nnAr, nnA, nnM, nnB, nnT, nnP, nnE, nnEl, nnEr, nnL, nnLl, nnLr, nnQ, nnQr, nnN, Nat.add_zero, if_false, if_true, Option.bind_some, not_true, not_false_iff, not_true_eq_false, not_false_eq_true, eq_self, Nat.not_lt_zero, z10, z01, or_true, true_or, or_false, false_or, true_and, false_and]
        refine st_f (by simp (disch := first | omega | decide) only [lt1, nnMl, nnMr, nnAl, nnAr, nnA, nnM, nnB, nnT, nnP, nnE, nnEl, nnEr, nnL, nnLl, nnLr, nnQ, nnQr, nnN, Nat.add_zero, if_false, if_true, Option.bind_some, not_true, not_false_iff, not_true_eq_false, not_false_eq_true, eq_self, Nat.not_lt_zero, z10, z01, or_true, true_or, or_false, false_or, true_and, false_and, h2]) (st_b hch (st_t q (st_b rfl ?_)))
        rw [ep]
        refine st_w (by simp (disch := first | omega | decide) only [lt1, nnMl, nnMr, nnAl, nnAr, nnA, nnM, nnB, nnT, nnP, nnE, nnEl, nnEr, nnL, nnLl, nnLr, nnQ, nnQr, nnN, Nat.add_zero, if_false, if_true, Option.bind_some, not_true, not_false_iff, not_true_eq_false, not_false_eq_true, eq_self, Nat.not_lt_zero, z10, z01, or_true, true_or, or_false, false_or, true_and, false_and, hp2]) (st_w (by simp (disch := first | omega | decide) only [lt1, nnMl, nnMr, nnAl, nnAr, nnA, nnM, nnB, nnT, nnP, nnE, nnEl, nnEr, nnL, nnLl, nnLr, nnQ, nnQr, nnN, Nat.add_zero, if_false, if_true, Option.bind_some, not_true, not_false_iff, not_true_eq_false, not_false_eq_true, eq_self, Nat.not_lt_zero, z10, z01, or_true, true_or, or_false, false_or, true_and, false_and, hp2]) ?_)
        rw [nnT (by omega), sc_u, hf _ hp]
        exact r2
      · by_cases e2 : i = j * 9 + Q % 9
        · rw [e2, up1_eq]
        · rw [up1_ne e2]; exact e
      · rw [r7, sumTo_u hp, Int32.add_assoc, show (0 : Int32) - f (j * 9 + Q % 9) + (came + f (j * 9 + Q % 9)) = came by rw [Int32.add_comm came, ← Int32.add_assoc, Int32.sub_add_cancel, Int32.zero_add]]
    · obtain ⟨came2, f2, a2, r1, r2, r3⟩ := ih (j + 1) F G came f a (by omega) (by omega) (by omega) ha h13 hf
      refine ⟨came2, f2, a2, ?_, ?_, r3⟩
      · unfold net_takeArrivals_k1_5
        rw [sc_n (by decide), h.cC, sc_n (by decide), nnT (by omega), e1]
        exact st_f (by simp (disch := first | omega | decide) only [lt1, nnMl, nnMr, nnAl, nnAr, nnA, nnM, nnB, nnT, nnP, nnE, nnEl, nnEr, nnL, nnLl, nnLr, nnQ, nnQr, nnN, Nat.add_zero, if_false, if_true, Option.bind_some, not_true, not_false_iff, not_true_eq_false, not_false_eq_true, eq_self, Nat.not_lt_zero, z10, z01, or_true, true_or, or_false, false_or, true_and, false_and, h2]) (st_t (by simp (disch := first | omega | decide) only [lt1, nnMl, nnMr, nnAl, nnAr, nnA, nnM, nnB, nnT, nnP, nnE, nnEl, nnEr, nnL, nnLl, nnLr, nnQ, nnQr, nnN, Nat.add_zero, if_false, if_true, Option.bind_some, not_true, not_false_iff, not_true_eq_false, not_false_eq_true, eq_self, Nat.not_lt_zero, z10, z01, or_true, true_or, or_false, false_or, true_and, false_and, hj14]) (st_t q r1))
      · unfold m_comes_k1_5
        rw [sc_e, ha 1 (by omega) (by omega), h.aC, e1]
        exact st_f (by simp (disch := first | omega | decide) only [lt1, nnMl, nnMr, nnAl, nnAr, nnA, nnM, nnB, nnT, nnP, nnE, nnEl, nnEr, nnL, nnLl, nnLr, nnQ, nnQr, nnN, Nat.add_zero, if_false, if_true, Option.bind_some, not_true, not_false_iff, not_true_eq_false, not_false_eq_true, eq_self, Nat.not_lt_zero, z10, z01, or_true, true_or, or_false, false_or, true_and, false_and, h2]) (st_b hch (st_f q r2))
end
section
/-! one node's quarter -/
def FrG (g g2 : Sg) : Prop := ∀ i, i ≠ 7 → i ≠ 8 → i ≠ 17 → i ≠ 18 → i ≠ 19 → i ≠ 20 → i ≠ 21 → g2 i = g i
def FrM (M M2 : Sg) : Prop := (∀ i, i ≠ 216 → M2 i = M i) ∧ ∀ j, ¬ iNet j → M2 216 j = M 216 j
theorem FrG.r {g : Sg} : FrG g g := fun _ _ _ _ _ _ _ _ => rfl
theorem FrG.t {g g2 g3 : Sg} (h : FrG g g2) (h2 : FrG g2 g3) : FrG g g3 := fun i a b c d e f k => (h2 i a b c d e f k).trans (h i a b c d e f k)
theorem FrM.r {g : Sg} : FrM g g := ⟨fun _ _ => rfl, fun _ _ => rfl⟩
theorem FrM.t {g g2 g3 : Sg} (h : FrM g g2) (h2 : FrM g2 g3) : FrM g g3 := ⟨fun i a => (h2.1 i a).trans (h.1 i a), fun j a => (h2.2 j a).trans (h.2 j a)⟩
theorem FrM.w {M : Sg} {i : Nat} {v : Int32} (h : iNet i) : FrM M (up2 M 216 i v) := ⟨fun j e => u2n e, fun j e => by rw [u2e, up1_ne (fun q => e (by rw [q]; exact h))]⟩
theorem FrG.w {g : Sg} {c i : Nat} {v : Int32} (h : c = 7 ∨ c = 8 ∨ c = 17 ∨ c = 18 ∨ c = 19 ∨ c = 20 ∨ c = 21) : FrG g (up2 g c i v) := fun j a b d e f k l => u2n (by omega)
/-- what goes out of a node -/
def ov (g : Sg) (v : Nat) (x : Int32) : Int32 := if g 5 v = -1 then 0 else if g 14 (cn g 5 v) < x then g 14 (cn g 5 v) else x
theorem tank_sum (A x k h o : Int32) : A + x + -(k + x - h) + -o = A + (h - o - k) := by
  rw [Int32.neg_sub]
  simp only [Int32.sub_eq_add_neg, Int32.neg_add]
  have e : A + x + (h + (-k + -x)) + -o = (x + -x) + (A + (h + -o + -k)) := by ac_rfl
  rw [e, Int32.add_right_neg, Int32.zero_add]
section WE
variable {g M : Sg} {N C Q v : Nat}
theorem gate_v (h : RNet g (M 216) N C Q) (hv : v < N) : g 5 v = -1 ∨ (∃ j, j < C ∧ g 5 v = nn j ∧ cn g 5 v = j ∧ ¬ nn j = (-1 : Int32)) := by
  have hC := h.hC
  rcases h.gateV v hv with e | ⟨j, h1, h2, h3⟩
  · exact Or.inl e
  · refine Or.inr ⟨j, h1, h2, ?_, fun e => nnN1 (by omega) e.symm⟩
    unfold cn
    rw [h2, nnT (by omega)]
theorem out_x (h : RNet g (M 216) N C Q) (hv : v < N) {x : Int32} : net_outOf (nn v) x g = some (ov g v x) := by
  have hN := h.hN
  have hC := h.hC
  have hv10 : v < 10 := by omega
  unfold net_outOf
  refine st_t (by simp (disch := first | omega | decide) only [lt1, nnMl, nnMr, nnAl, nnAr, nnA, nnM, nnB, nnT, nnP, nnE, nnEl, nnEr, nnL, nnLl, nnLr, nnQ, nnQr, nnN, Nat.add_zero, if_false, if_true, Option.bind_some, not_true, not_false_iff, not_true_eq_false, not_false_eq_true, eq_self, Nat.not_lt_zero, z10, z01, or_true, true_or, or_false, false_or, true_and, false_and, hv10]) (st_l ?_)
  rw [nnT (by omega)]
  unfold ov
  rcases gate_v h hv with e | ⟨j, h1, h2, h3, h4⟩
  · rw [e, if_pos rfl]
    exact st_b hC_neg (st_t rfl rfl)
  · have hj14 : j < 14 := by omega
    rw [h3, h2, if_neg h4]
    refine st_b (hC_y h.cC hC h1) (st_f (by decide) (st_t (by simp (disch := first | omega | decide) only [lt1, nnMl, nnMr, nnAl, nnAr, nnA, nnM, nnB, nnT, nnP, nnE, nnEl, nnEr, nnL, nnLl, nnLr, nnQ, nnQr, nnN, Nat.add_zero, if_false, if_true, Option.bind_some, not_true, not_false_iff, not_true_eq_false, not_false_eq_true, eq_self, Nat.not_lt_zero, z10, z01, or_true, true_or, or_false, false_or, true_and, false_and, hj14]) ?_))
    rw [nnT (by omega)]
theorem send_y0 (h : RNet g (M 216) N C Q) {w out : Int32} (hw : w = -1 ∨ ∃ j, j < C ∧ w = nn j) : ∃ g2 M2, net_send_k0 w out g = some g2 ∧ m_steps_k0_316 w out M = some M2 ∧ RNet g2 (M2 216) N C Q ∧ FrG g g2 ∧ FrM M M2 := by
  have hC := h.hC
  have hQ := h.hQ
  rcases hw with rfl | ⟨j, hj, rfl⟩
  · refine ⟨g, M, ?_, ?_, h, FrG.r, FrM.r⟩
    · unfold net_send_k0
      exact st_b hC_neg (st_f (by decide) rfl)
    · unfold m_steps_k0_316
      exact st_t (by decide) rfl
  have hj14 : j < 14 := by omega
  have h0 : ¬ nn j < 0 := by rw [nnP (by omega)]; exact id
  rcases h.brkV j hj14 with q | q
  · obtain ⟨tv, tv8, etv⟩ := h.trvV j hj
    have hp : j * 9 + (Q + tv) % 9 < 126 := by omega
    have hp2 : 290 + (j * 9 + (Q + tv) % 9) < 20360 := by omega
    have er : nn (Q + tv) - nn (Q + tv) / 9 * 9 = nn ((Q + tv) % 9) := by
      have e : nn (Q + tv) / 9 * 9 = nn ((Q + tv) / 9 * 9) := by simp (disch := first | omega | decide) only [lt1, nnMl, nnMr, nnAl, nnAr, nnA, nnM, nnB, nnT, nnP, nnE, nnEl, nnEr, nnL, nnLl, nnLr, nnQ, nnQr, nnN, Nat.add_zero, if_false, if_true, Option.bind_some, not_true, not_false_iff, not_true_eq_false, not_false_eq_true, eq_self, Nat.not_lt_zero, z10, z01, or_true, true_or, or_false, false_or, true_and, false_and, nnDr]
      rw [e, nnS (a := Q + tv) (b := (Q + tv) / 9 * 9) (by omega), show Q + tv - (Q + tv) / 9 * 9 = (Q + tv) % 9 by omega]
    generalize hlk : out * g 12 j / 1000 = lk at *
    refine ⟨up2 (up2 g 20 0 (g 20 0 + lk)) 17 (j * 9 + (Q + tv) % 9) (g 17 (j * 9 + (Q + tv) % 9) + (out - lk)), up2 (up2 (up2 M 216 15 (M 216 15 + lk)) 216 13 (M 216 13 + (out - lk))) 216 (290 + (j * 9 + (Q + tv) % 9)) (M 216 (290 + (j * 9 + (Q + tv) % 9)) + (out - lk)), ?_, ?_, ?_, ?_, ?_⟩
    · unfold net_send_k0 net_send_k0_49 net_placeAt
      refine st_b (hC_y h.cC hC hj) (st_t (by decide) (st_t (by simp (disch := first | omega | decide) only [lt1, nnMl, nnMr, nnAl, nnAr, nnA, nnM, nnB, nnT, nnP, nnE, nnEl, nnEr, nnL, nnLl, nnLr, nnQ, nnQr, nnN, Nat.add_zero, if_false, if_true, Option.bind_some, not_true, not_false_iff, not_true_eq_false, not_false_eq_true, eq_self, Nat.not_lt_zero, z10, z01, or_true, true_or, or_false, false_or, true_and, false_and, hj14]) ?_))
      rw [nnT (by omega), q, hlk]
      refine st_t rfl (st_t (by simp (disch := first | omega | decide) only [lt1, nnMl, nnMr, nnAl, nnAr, nnA, nnM, nnB, nnT, nnP, nnE, nnEl, nnEr, nnL, nnLl, nnLr, nnQ, nnQr, nnN, Nat.add_zero, if_false, if_true, Option.bind_some, not_true, not_false_iff, not_true_eq_false, not_false_eq_true, eq_self, Nat.not_lt_zero, z10, z01, or_true, true_or, or_false, false_or, true_and, false_and, hj14]) (st_l (st_l (st_t (by simp (disch := first | omega | decide) only [lt1, nnMl, nnMr, nnAl, nnAr, nnA, nnM, nnB, nnT, nnP, nnE, nnEl, nnEr, nnL, nnLl, nnLr, nnQ, nnQr, nnN, Nat.add_zero, if_false, if_true, Option.bind_some, not_true, not_false_iff, not_true_eq_false, not_false_eq_true, eq_self, Nat.not_lt_zero, z10, z01, or_true, true_or, or_false, false_or, true_and, false_and, hj14]) (st_b rfl ?_)))))
      rw [u2n (show 2 ≠ 20 by decide), u2n (show 13 ≠ 20 by decide), h.cQ, etv, nnA, er, show nn j * 9 + nn ((Q + tv) % 9) = nn (j * 9 + (Q + tv) % 9) by simp (disch := first | omega | decide) only [lt1, nnMl, nnMr, nnAl, nnAr, nnA, nnM, nnB, nnT, nnP, nnE, nnEl, nnEr, nnL, nnLl, nnLr, nnQ, nnQr, nnN, Nat.add_zero, if_false, if_true, Option.bind_some, not_true, not_false_iff, not_true_eq_false, not_false_eq_true, eq_self, Nat.not_lt_zero, z10, z01, or_true, true_or, or_false, false_or, true_and, false_and]]
      refine st_t (by simp (disch := first | omega | decide) only [lt1, nnMl, nnMr, nnAl, nnAr, nnA, nnM, nnB, nnT, nnP, nnE, nnEl, nnEr, nnL, nnLl, nnLr, nnQ, nnQr, nnN, Nat.add_zero, if_false, if_true, Option.bind_some, not_true, not_false_iff, not_true_eq_false, not_false_eq_true, eq_self, Nat.not_lt_zero, z10, z01, or_true, true_or, or_false, false_or, true_and, false_and, hp]) (st_w (by simp (disch := first | omega | decide) only [lt1, nnMl, nnMr, nnAl, nnAr, nnA, nnM, nnB, nnT, nnP, nnE, nnEl, nnEr, nnL, nnLl, nnLr, nnQ, nnQr, nnN, Nat.add_zero, if_false, if_true, Option.bind_some, not_true, not_false_iff, not_true_eq_false, not_false_eq_true, eq_self, Nat.not_lt_zero, z10, z01, or_true, true_or, or_false, false_or, true_and, false_and, hp]) ?_)
      rw [nnT (by omega), u2n (show 17 ≠ 20 by decide)]
    · have k6 : m_channelOf_k6 (nn j) M = some 0 := by rw [← q]; exact mch6 h hj14
      unfold m_steps_k0_316 m_sends_k0
      refine st_f h0 (st_b (st_b k6 (st_t (by decide) ?_)) rfl)
      unfold m_sends_k0_36
      refine st_b (x := g 12 j) ?_ ?_
      · rw [← h.hig j hj14]
        exact chanOf_y (g := M) hj14 (k := 3) (by decide)
      · rw [hlk]
        refine st_b (x := (lk, up2 M 216 15 (M 216 15 + lk))) ?_ ?_
        · unfold m_adds
          exact st_t rfl (st_w rfl rfl)
        · have e4 : m_channelOf_k4 (nn j) (up2 M 216 15 (M 216 15 + lk)) = some (nn tv) := by
            have := chanOf_y (g := up2 M 216 15 (M 216 15 + lk)) hj14 (k := 4) (by decide)
            rw [u2e, up1_ne (by omega), h.trv j hj14, etv] at this
            exact this
          refine st_b e4 (st_b rfl ?_)
          rw [u2e, up1_ne (show 3 ≠ 15 by decide), h.aQ, nnA, er, show 290 + 9 * (0 + nn j) + nn ((Q + tv) % 9) = nn (290 + (j * 9 + (Q + tv) % 9)) by
            rw [show 290 + (j * 9 + (Q + tv) % 9) = 290 + 9 * (0 + j) + (Q + tv) % 9 by omega]
            simp (disch := first | omega | decide) only [lt1, nnMl, nnMr, nnAl, nnAr, nnA, nnM, nnB, nnT, nnP, nnE, nnEl, nnEr, nnL, nnLl, nnLr, nnQ, nnQr, nnN, Nat.add_zero, if_false, if_true, Option.bind_some, not_true, not_false_iff, not_true_eq_false, not_false_eq_true, eq_self, Nat.not_lt_zero, z10, z01, or_true, true_or, or_false, false_or, true_and, false_and]]
          unfold m_adds_k0_3
          refine st_t (by simp (disch := first | omega | decide) only [lt1, nnMl, nnMr, nnAl, nnAr, nnA, nnM, nnB, nnT, nnP, nnE, nnEl, nnEr, nnL, nnLl, nnLr, nnQ, nnQr, nnN, Nat.add_zero, if_false, if_true, Option.bind_some, not_true, not_false_iff, not_true_eq_false, not_false_eq_true, eq_self, Nat.not_lt_zero, z10, z01, or_true, true_or, or_false, false_or, true_and, false_and, hp2]) (st_b (st_l rfl) (st_w (by simp (disch := first | omega | decide) only [lt1, nnMl, nnMr, nnAl, nnAr, nnA, nnM, nnB, nnT, nnP, nnE, nnEl, nnEr, nnL, nnLl, nnLr, nnQ, nnQr, nnN, Nat.add_zero, if_false, if_true, Option.bind_some, not_true, not_false_iff, not_true_eq_false, not_false_eq_true, eq_self, Nat.not_lt_zero, z10, z01, or_true, true_or, or_false, false_or, true_and, false_and, hp2]) ?_))
          rw [nnT (by omega), u2e, up1_ne (show 13 ≠ 15 by decide), up1_ne (show 290 + (j * 9 + (Q + tv) % 9) ≠ 15 by omega)]
    · exact h.send0 hj (p := j * 9 + (Q + tv) % 9) (by omega) (by omega) (lk := lk) (y := out - lk) (fun i e1 e2 e3 e4 => by simp (disch := first | omega | decide) only [u2e, u2n, up1_eq, up1_ne, ne_eq]) (by simp (disch := first | omega | decide) only [u2e, u2n, up1_eq, up1_ne, ne_eq]) (by simp (disch := first | omega | decide) only [u2e, u2n, up1_eq, up1_ne, ne_eq]) (by simp (disch := first | omega | decide) only [u2e, u2n, up1_eq, up1_ne, ne_eq]) (by simp (disch := first | omega | decide) only [u2e, u2n, up1_eq, up1_ne, ne_eq]) (by simp (disch := first | omega | decide) only [u2e, u2n, up1_eq, up1_ne, ne_eq]) (by simp (disch := first | omega | decide) only [u2e, u2n, up1_eq, up1_ne, ne_eq]) (fun i e1 e2 e3 e4 => by simp (disch := first | omega | decide) only [u2e, u2n, up1_eq, up1_ne, ne_eq])
    · exact (FrG.w (by omega)).t (FrG.w (by omega))
    · exact ((FrM.w (by unfold iNet; omega)).t (FrM.w (by unfold iNet; omega))).t (FrM.w (by unfold iNet; omega))
  · refine ⟨up2 g 21 0 (g 21 0 + out), up2 M 216 16 (M 216 16 + out), ?_, ?_, ?_, ?_, ?_⟩
    · unfold net_send_k0
      refine st_b (hC_y h.cC hC hj) (st_t (by decide) (st_t (by simp (disch := first | omega | decide) only [lt1, nnMl, nnMr, nnAl, nnAr, nnA, nnM, nnB, nnT, nnP, nnE, nnEl, nnEr, nnL, nnLl, nnLr, nnQ, nnQr, nnN, Nat.add_zero, if_false, if_true, Option.bind_some, not_true, not_false_iff, not_true_eq_false, not_false_eq_true, eq_self, Nat.not_lt_zero, z10, z01, or_true, true_or, or_false, false_or, true_and, false_and, hj14]) ?_))
      rw [nnT (by omega), q]
      exact st_f (by decide) rfl
    · have k6 : m_channelOf_k6 (nn j) M = some 1 := by rw [← q]; exact mch6 h hj14
      unfold m_steps_k0_316 m_sends_k0 m_adds_k0_6
      exact st_f h0 (st_b (st_b k6 (st_f (by decide) (st_b (st_l rfl) rfl))) rfl)
    · exact h.lost0 (x := out) (fun i e1 e2 e3 => by simp (disch := first | omega | decide) only [u2e, u2n, up1_eq, up1_ne, ne_eq]) (by simp (disch := first | omega | decide) only [u2e, u2n, up1_eq, up1_ne, ne_eq]) (by simp (disch := first | omega | decide) only [u2e, u2n, up1_eq, up1_ne, ne_eq]) (by simp (disch := first | omega | decide) only [u2e, u2n, up1_eq, up1_ne, ne_eq]) (fun i e1 e2 => by simp (disch := first | omega | decide) only [u2e, u2n, up1_eq, up1_ne, ne_eq])
    · exact FrG.w (by omega)
    · exact FrM.w (by unfold iNet; omega)
theorem m184w_0 {a : Nat → Int32} (h : RNet g a N C Q) (hv : v < N) (hg : M 216 (140 + 5 * v + 2) = g 5 v) (h14 : ∀ j, j < 14 → M 216 (190 + 7 * j + 5) = g 14 j) {x : Int32} : m_steps_k0_184 (nn (140 + 5 * v)) x M = m_steps_k0_227 (nn (140 + 5 * v)) x (g 5 v) (ov g v x) M := by
  have hN := h.hN
  have hC := h.hC
  have hv10 : v < 10 := by omega
  have i2 : 140 + 5 * v + 2 < 20360 := by omega
  have e2 : nn (140 + 5 * v) + 2 = nn (140 + 5 * v + 2) := nnA _ 2
  have mch : ∀ j, j < 14 → m_channelOf_k5 (nn j) M = some (g 14 j) := fun j hj => by
    rw [← h14 j hj]
    exact chanOf_y (g := M) hj (k := 5) (by decide)
  unfold m_steps_k0_184
  rw [e2, nnT (by omega), hg]
  refine st_t (by simp (disch := first | omega | decide) only [lt1, nnMl, nnMr, nnAl, nnAr, nnA, nnM, nnB, nnT, nnP, nnE, nnEl, nnEr, nnL, nnLl, nnLr, nnQ, nnQr, nnN, Nat.add_zero, if_false, if_true, Option.bind_some, not_true, not_false_iff, not_true_eq_false, not_false_eq_true, eq_self, Nat.not_lt_zero, z10, z01, or_true, true_or, or_false, false_or, true_and, false_and, i2]) (st_l ?_)
  unfold ov
  rcases gate_v (M := fun _ => a) h hv with e | ⟨j, h1, h2, h3, h4⟩
  · rw [e, if_pos rfl]
    exact st_f (by decide) rfl
  · have hj14 : j < 14 := by omega
    rw [h3, h2, if_neg h4]
    refine st_t (nnE0 (by omega)) (st_b (mch j hj14) ?_)
    by_cases q : g 14 j ≤ x
    · refine st_t q (st_b (mch j hj14) ?_)
      by_cases q2 : g 14 j < x
      · rw [if_pos q2]
      · rw [if_neg q2, Int32.le_antisymm (Int32.not_lt.mp q2) q]
    · refine st_f q ?_
      rw [if_neg (fun e => q (Int32.le_of_lt e))]
theorem m184_0 (h : RNet g (M 216) N C Q) (hv : v < N) {x : Int32} : m_steps_k0_184 (nn (140 + 5 * v)) x M = m_steps_k0_227 (nn (140 + 5 * v)) x (g 5 v) (ov g v x) M := m184w_0 h hv (h.gate v (by have := h.hN; omega)) (fun j hj => h.brd j hj)
theorem m65_0 {x k : Int32} (hv : v < 10) (hk : M 216 (140 + 5 * v) = k) (k4 : ¬ k = 4) (k2 : ¬ k = 2) : m_steps_k0_65 (nn (140 + 5 * v)) x M = m_steps_k0_184 (nn (140 + 5 * v)) x M := by
  have i0 : 140 + 5 * v < 20360 := by omega
  unfold m_steps_k0_65
  rw [nnT (by omega), hk]
  exact st_t (by simp (disch := first | omega | decide) only [lt1, nnMl, nnMr, nnAl, nnAr, nnA, nnM, nnB, nnT, nnP, nnE, nnEl, nnEr, nnL, nnLl, nnLr, nnQ, nnQr, nnN, Nat.add_zero, if_false, if_true, Option.bind_some, not_true, not_false_iff, not_true_eq_false, not_false_eq_true, eq_self, Nat.not_lt_zero, z10, z01, or_true, true_or, or_false, false_or, true_and, false_and, i0]) (st_t k4 (st_t (by simp (disch := first | omega | decide) only [lt1, nnMl, nnMr, nnAl, nnAr, nnA, nnM, nnB, nnT, nnP, nnE, nnEl, nnEr, nnL, nnLl, nnLr, nnQ, nnQr, nnN, Nat.add_zero, if_false, if_true, Option.bind_some, not_true, not_false_iff, not_true_eq_false, not_false_eq_true, eq_self, Nat.not_lt_zero, z10, z01, or_true, true_or, or_false, false_or, true_and, false_and, i0]) (st_t k2 rfl)))
theorem m227_0 {x w out k : Int32} (hv : v < 10) (hk : M 216 (140 + 5 * v) = k) (k2 : ¬ k = 2) : m_steps_k0_227 (nn (140 + 5 * v)) x w out M = m_steps_k0_279 (nn (140 + 5 * v)) w out (up2 M 216 14 (M 216 14 + (x - out))) := by
  have i0 : 140 + 5 * v < 20360 := by omega
  unfold m_steps_k0_227 m_adds_k0_4
  rw [nnT (by omega), hk]
  exact st_t (by simp (disch := first | omega | decide) only [lt1, nnMl, nnMr, nnAl, nnAr, nnA, nnM, nnB, nnT, nnP, nnE, nnEl, nnEr, nnL, nnLl, nnLr, nnQ, nnQr, nnN, Nat.add_zero, if_false, if_true, Option.bind_some, not_true, not_false_iff, not_true_eq_false, not_false_eq_true, eq_self, Nat.not_lt_zero, z10, z01, or_true, true_or, or_false, false_or, true_and, false_and, i0]) (st_t k2 (st_b (st_l rfl) rfl))
theorem m279_0 {w out k : Int32} (hv : v < 10) (hk : M 216 (140 + 5 * v) = k) (k3 : ¬ k = 3) : m_steps_k0_279 (nn (140 + 5 * v)) w out M = m_steps_k0_316 w out M := by
  have i0 : 140 + 5 * v < 20360 := by omega
  unfold m_steps_k0_279
  rw [nnT (by omega), hk]
  exact st_t (by simp (disch := first | omega | decide) only [lt1, nnMl, nnMr, nnAl, nnAr, nnA, nnM, nnB, nnT, nnP, nnE, nnEl, nnEr, nnL, nnLl, nnLr, nnQ, nnQr, nnN, Nat.add_zero, if_false, if_true, Option.bind_some, not_true, not_false_iff, not_true_eq_false, not_false_eq_true, eq_self, Nat.not_lt_zero, z10, z01, or_true, true_or, or_false, false_or, true_and, false_and, i0]) (st_t k3 rfl)
theorem m279y_0 {w out : Int32} (hv : v < 10) (hk : M 216 (140 + 5 * v) = 3) : m_steps_k0_279 (nn (140 + 5 * v)) w out M = m_steps_k0_316 w out (up2 M 216 (140 + 5 * v + 3) (M 216 (140 + 5 * v + 3) + out * M 216 (140 + 5 * v + 1) / 100)) := by
  have i0 : 140 + 5 * v < 20360 := by omega
  have i1 : 140 + 5 * v + 1 < 20360 := by omega
  have i3 : 140 + 5 * v + 3 < 20360 := by omega
  have e3 : nn (140 + 5 * v) + 3 + 0 = nn (140 + 5 * v + 3) := by simp (disch := first | omega | decide) only [lt1, nnMl, nnMr, nnAl, nnAr, nnA, nnM, nnB, nnT, nnP, nnE, nnEl, nnEr, nnL, nnLl, nnLr, nnQ, nnQr, nnN, Nat.add_zero, if_false, if_true, Option.bind_some, not_true, not_false_iff, not_true_eq_false, not_false_eq_true, eq_self, Nat.not_lt_zero, z10, z01, or_true, true_or, or_false, false_or, true_and, false_and]
  have e1 : nn (140 + 5 * v) + 1 = nn (140 + 5 * v + 1) := nnA _ 1
  unfold m_steps_k0_279
  rw [nnT (show 140 + 5 * v < 2147483648 by omega), hk, e3, e1, nnT (show 140 + 5 * v + 3 < 2147483648 by omega), nnT (show 140 + 5 * v + 1 < 2147483648 by omega)]
  exact st_t (by simp (disch := first | omega | decide) only [lt1, nnMl, nnMr, nnAl, nnAr, nnA, nnM, nnB, nnT, nnP, nnE, nnEl, nnEr, nnL, nnLl, nnLr, nnQ, nnQr, nnN, Nat.add_zero, if_false, if_true, Option.bind_some, not_true, not_false_iff, not_true_eq_false, not_false_eq_true, eq_self, Nat.not_lt_zero, z10, z01, or_true, true_or, or_false, false_or, true_and, false_and, i0]) (st_f (by decide) (st_t (by simp (disch := first | omega | decide) only [lt1, nnMl, nnMr, nnAl, nnAr, nnA, nnM, nnB, nnT, nnP, nnE, nnEl, nnEr, nnL, nnLl, nnLr, nnQ, nnQr, nnN, Nat.add_zero, if_false, if_true, Option.bind_some, not_true, not_false_iff, not_true_eq_false, not_false_eq_true, eq_self, Nat.not_lt_zero, z10, z01, or_true, true_or, or_false, false_or, true_and, false_and, i3]) (st_t (by simp (disch := first | omega | decide) only [lt1, nnMl, nnMr, nnAl, nnAr, nnA, nnM, nnB, nnT, nnP, nnE, nnEl, nnEr, nnL, nnLl, nnLr, nnQ, nnQr, nnN, Nat.add_zero, if_false, if_true, Option.bind_some, not_true, not_false_iff, not_true_eq_false, not_false_eq_true, eq_self, Nat.not_lt_zero, z10, z01, or_true, true_or, or_false, false_or, true_and, false_and, i1]) (st_w (by simp (disch := first | omega | decide) only [lt1, nnMl, nnMr, nnAl, nnAr, nnA, nnM, nnB, nnT, nnP, nnE, nnEl, nnEr, nnL, nnLl, nnLr, nnQ, nnQr, nnN, Nat.add_zero, if_false, if_true, Option.bind_some, not_true, not_false_iff, not_true_eq_false, not_false_eq_true, eq_self, Nat.not_lt_zero, z10, z01, or_true, true_or, or_false, false_or, true_and, false_and, i3]) rfl))))
theorem passOn_x0 (h : RNet g (M 216) N C Q) (hv : v < N) {x : Int32} {g2 : Sg} (hs : net_send_k0 (g 5 v) (ov g v x) (up2 g 19 0 (g 19 0 + (x - ov g v x))) = some g2) : net_passOn_k0 (nn v) x g = some g2 := by
  have hN := h.hN
  have hv10 : v < 10 := by omega
  unfold net_passOn_k0
  refine st_b (out_x h hv) (st_l (st_t (by simp (disch := first | omega | decide) only [lt1, nnMl, nnMr, nnAl, nnAr, nnA, nnM, nnB, nnT, nnP, nnE, nnEl, nnEr, nnL, nnLl, nnLr, nnQ, nnQr, nnN, Nat.add_zero, if_false, if_true, Option.bind_some, not_true, not_false_iff, not_true_eq_false, not_false_eq_true, eq_self, Nat.not_lt_zero, z10, z01, or_true, true_or, or_false, false_or, true_and, false_and, hv10]) (st_b (x := g2) ?_ rfl)))
  rw [u2n (by decide), nnT (by omega)]
  exact hs
/-- on from the arrivals: kinds but tanks and fields -/
theorem pass_y0 (h : RNet g (M 216) N C Q) (hv : v < N) {x k : Int32} (hk : g 3 v = k) (k2 : ¬ k = 2) (k3 : ¬ k = 3) : ∃ g2 M2, net_passOn_k0 (nn v) x g = some g2 ∧ m_steps_k0_184 (nn (140 + 5 * v)) x M = some M2 ∧ RNet g2 (M2 216) N C Q ∧ FrG g g2 ∧ FrM M M2 := by
  have hN := h.hN
  have hv10 : v < 10 := by omega
  have hkM : M 216 (140 + 5 * v) = k := (h.kind v hv10).trans hk
  have hR : RNet (up2 g 19 0 (g 19 0 + (x - ov g v x))) ((up2 M 216 14 (M 216 14 + (x - ov g v x))) 216) N C Q := h.node0 hv (k2 := g 7 v) (sp := x - ov g v x) (fun i e1 e2 e3 e4 => by simp (disch := first | omega | decide) only [u2e, u2n, up1_eq, up1_ne, ne_eq]) (fun n hn => by
      rw [u2n (by decide)]
      by_cases e : n = v
      · rw [if_pos e, e]
      · rw [if_neg e]) (by simp (disch := first | omega | decide) only [u2e, u2n, up1_eq, up1_ne, ne_eq]) (by simp (disch := first | omega | decide) only [u2e, u2n, up1_eq, up1_ne, ne_eq]) (by simp (disch := first | omega | decide) only [u2e, u2n, up1_eq, up1_ne, ne_eq]; exact h.kep0 v hv10) (by simp (disch := first | omega | decide) only [u2e, u2n, up1_eq, up1_ne, ne_eq]) (by simp (disch := first | omega | decide) only [u2e, u2n, up1_eq, up1_ne, ne_eq]; rw [Int32.sub_self, ite_self, Int32.add_zero]) (by simp (disch := first | omega | decide) only [u2e, u2n, up1_eq, up1_ne, ne_eq]; rw [Int32.sub_self, ite_self, Int32.add_zero]) (by simp (disch := first | omega | decide) only [u2e, u2n, up1_eq, up1_ne, ne_eq]; rw [Int32.sub_self, ite_self, Int32.add_zero]) (fun i e1 e2 e3 e4 e5 e6 => by simp (disch := first | omega | decide) only [u2e, u2n, up1_eq, up1_ne, ne_eq])
  obtain ⟨g2, M2, r1, r2, r3, r4, r5⟩ := send_y0 hR (w := g 5 v) (out := ov g v x) (by
    rcases gate_v h hv with e | ⟨j, h1, h2, _⟩
    · exact Or.inl e
    · exact Or.inr ⟨j, h1, h2⟩)
  refine ⟨g2, M2, passOn_x0 h hv r1, ?_, r3, (FrG.w (by omega)).t r4, (FrM.w (by unfold iNet; omega)).t r5⟩
  rw [m184_0 h hv, m227_0 hv10 hkM k2, m279_0 hv10 (k := k) (by simp (disch := first | omega | decide) only [u2e, u2n, up1_eq, up1_ne, ne_eq]; exact hkM) k3]
  exact r2
theorem wheel_y0 (h : RNet g (M 216) N C Q) (hv : v < N) {x : Int32} (hk : g 3 v = 3) : ∃ g2 M2, net_passOn_k0 (nn v) x (up2 g 7 v (g 7 v + ov g v x * g 4 v / 100)) = some g2 ∧ m_steps_k0_184 (nn (140 + 5 * v)) x M = some M2 ∧ RNet g2 (M2 216) N C Q ∧ FrG g g2 ∧ FrM M M2 := by
  have hN := h.hN
  have hv10 : v < 10 := by omega
  have hkM : M 216 (140 + 5 * v) = 3 := (h.kind v hv10).trans hk
  generalize hd : ov g v x * g 4 v / 100 = dl at *
  have eov : ov (up2 g 7 v (g 7 v + dl)) v x = ov g v x := by
    unfold ov cn
    rw [u2n (by decide), u2n (by decide)]
  have hR : RNet (up2 (up2 g 7 v (g 7 v + dl)) 19 0 ((up2 g 7 v (g 7 v + dl)) 19 0 + (x - ov g v x))) ((up2 (up2 M 216 14 (M 216 14 + (x - ov g v x))) 216 (140 + 5 * v + 3) (M 216 (140 + 5 * v + 3) + dl)) 216) N C Q := h.node0 hv (k2 := g 7 v + dl) (sp := x - ov g v x) (fun i e1 e2 e3 e4 => by simp (disch := first | omega | decide) only [u2e, u2n, up1_eq, up1_ne, ne_eq]) (fun n hn => by
      rw [u2n (by decide), u2e]
      by_cases e : n = v
      · rw [if_pos e, e, up1_eq]
      · rw [if_neg e, up1_ne e]) (by simp (disch := first | omega | decide) only [u2e, u2n, up1_eq, up1_ne, ne_eq]) (by simp (disch := first | omega | decide) only [u2e, u2n, up1_eq, up1_ne, ne_eq]) (by simp (disch := first | omega | decide) only [u2e, u2n, up1_eq, up1_ne, ne_eq]; rw [h.kep0 v hv10]) (by simp (disch := first | omega | decide) only [u2e, u2n, up1_eq, up1_ne, ne_eq]) (by simp (disch := first | omega | decide) only [u2e, u2n, up1_eq, up1_ne, ne_eq]; rw [hk, if_neg (by decide), Int32.add_zero]) (by simp (disch := first | omega | decide) only [u2e, u2n, up1_eq, up1_ne, ne_eq]; rw [hk, if_neg (by decide), Int32.add_zero]) (by simp (disch := first | omega | decide) only [u2e, u2n, up1_eq, up1_ne, ne_eq]; rw [hk, if_neg (by decide), Int32.add_zero]) (fun i e1 e2 e3 e4 e5 e6 => by simp (disch := first | omega | decide) only [u2e, u2n, up1_eq, up1_ne, ne_eq])
  obtain ⟨g2, M2, r1, r2, r3, r4, r5⟩ := send_y0 hR (w := g 5 v) (out := ov g v x) (by
    rcases gate_v h hv with e | ⟨j, h1, h2, _⟩
    · exact Or.inl e
    · exact Or.inr ⟨j, h1, h2⟩)
  have h5 : RNet (up2 g 7 v (g 7 v + dl)) ((up2 (up2 M 216 14 (M 216 14 + (x - ov g v x))) 216 (140 + 5 * v + 3) (M 216 (140 + 5 * v + 3) + dl)) 216) N C Q → True := fun _ => trivial
  refine ⟨g2, M2, ?_, ?_, r3, ((FrG.w (by omega)).t (FrG.w (by omega))).t r4, ((FrM.w (by unfold iNet; omega)).t (FrM.w (by unfold iNet; omega))).t r5⟩
  · unfold net_passOn_k0
    refine st_b (x := ov g v x) ?_ (st_l (st_t (by simp (disch := first | omega | decide) only [lt1, nnMl, nnMr, nnAl, nnAr, nnA, nnM, nnB, nnT, nnP, nnE, nnEl, nnEr, nnL, nnLl, nnLr, nnQ, nnQr, nnN, Nat.add_zero, if_false, if_true, Option.bind_some, not_true, not_false_iff, not_true_eq_false, not_false_eq_true, eq_self, Nat.not_lt_zero, z10, z01, or_true, true_or, or_false, false_or, true_and, false_and, hv10]) (st_b (x := g2) ?_ rfl)))
    · have := out_x h hv (x := x)
      unfold net_outOf net_hasChannel at this ⊢
      rw [u2n (show 5 ≠ 7 by decide), u2n (show 2 ≠ 7 by decide), u2n (show 14 ≠ 7 by decide)]
      exact this
    · rw [u2n (by decide), u2n (by decide), nnT (by omega)]
      exact r1
  · rw [m184_0 h hv, m227_0 hv10 hkM (by decide), m279y_0 hv10 (by simp (disch := first | omega | decide) only [u2e, u2n, up1_eq, up1_ne, ne_eq]; exact hkM), u2e, up1_ne (show 140 + 5 * v + 3 ≠ 14 by omega), up1_ne (show 140 + 5 * v + 1 ≠ 14 by omega), h.size v hv10, hd]
    exact r2
theorem tank_y0 (h : RNet g (M 216) N C Q) (hv : v < N) {x : Int32} (hk : g 3 v = 2) : ∃ g2 M2, net_passTank_k0 (nn v) x g = some g2 ∧ m_steps_k0_65 (nn (140 + 5 * v)) x M = some M2 ∧ RNet g2 (M2 216) N C Q ∧ FrG g g2 ∧ FrM M M2 := by
  have hN := h.hN
  have hv10 : v < 10 := by omega
  have hkM : M 216 (140 + 5 * v) = 2 := (h.kind v hv10).trans hk
  have i0 : 140 + 5 * v < 20360 := by omega
  have i1 : 140 + 5 * v + 1 < 20360 := by omega
  have i3 : 140 + 5 * v + 3 < 20360 := by omega
  have e3 : nn (140 + 5 * v) + 3 + 0 = nn (140 + 5 * v + 3) := by simp (disch := first | omega | decide) only [lt1, nnMl, nnMr, nnAl, nnAr, nnA, nnM, nnB, nnT, nnP, nnE, nnEl, nnEr, nnL, nnLl, nnLr, nnQ, nnQr, nnN, Nat.add_zero, if_false, if_true, Option.bind_some, not_true, not_false_iff, not_true_eq_false, not_false_eq_true, eq_self, Nat.not_lt_zero, z10, z01, or_true, true_or, or_false, false_or, true_and, false_and]
  have e1 : nn (140 + 5 * v) + 1 = nn (140 + 5 * v + 1) := nnA _ 1
  generalize hal : g 7 v + x = al
  generalize hhd : (if g 4 v < al then g 4 v else al) = hd
  have hov : al - (al - hd) = hd := by
    rw [Int32.sub_eq_add_neg, Int32.neg_sub, i_addsub]
  have hR : RNet (up2 (up2 g 19 0 (g 19 0 + (al - hd))) 7 v (hd - ov g v hd)) ((up2 (up2 (up2 (up2 (up2 M 216 12 (M 216 12 + x)) 216 14 (M 216 14 + (al - hd))) 216 12 (M 216 12 + x + -(al - hd))) 216 12 (M 216 12 + x + -(al - hd) + -(ov g v hd))) 216 (140 + 5 * v + 3) (hd - ov g v hd)) 216) N C Q := h.node0 hv (k2 := hd - ov g v hd) (sp := al - hd) (fun i e1 e2 e3 e4 => by simp (disch := first | omega | decide) only [u2e, u2n, up1_eq, up1_ne, ne_eq]) (fun n hn => by
      rw [u2e]
      by_cases e : n = v
      · rw [if_pos e, e, up1_eq]
      · rw [if_neg e, up1_ne e, u2n (by decide)]) (by simp (disch := first | omega | decide) only [u2e, u2n, up1_eq, up1_ne, ne_eq]) (by simp (disch := first | omega | decide) only [u2e, u2n, up1_eq, up1_ne, ne_eq]) (by simp (disch := first | omega | decide) only [u2e, u2n, up1_eq, up1_ne, ne_eq]) (by simp (disch := first | omega | decide) only [u2e, u2n, up1_eq, up1_ne, ne_eq]) (by simp (disch := first | omega | decide) only [u2e, u2n, up1_eq, up1_ne, ne_eq]; rw [hk, if_neg (by decide), Int32.add_zero]) (by simp (disch := first | omega | decide) only [u2e, u2n, up1_eq, up1_ne, ne_eq]; rw [hk, if_neg (by decide), Int32.add_zero]) (by
      simp (disch := first | omega | decide) only [u2e, u2n, up1_eq, up1_ne, ne_eq]
      rw [hk, if_pos rfl, ← hal]
      exact tank_sum _ _ _ _ _) (fun i e1 e2 e3 e4 e5 e6 => by simp (disch := first | omega | decide) only [u2e, u2n, up1_eq, up1_ne, ne_eq])
  obtain ⟨g2, M2, r1, r2, r3, r4, r5⟩ := send_y0 hR (w := g 5 v) (out := ov g v hd) (by
    rcases gate_v h hv with e | ⟨j, h1, h2, _⟩
    · exact Or.inl e
    · exact Or.inr ⟨j, h1, h2⟩)
  refine ⟨g2, M2, ?_, ?_, r3, ((FrG.w (by omega)).t (FrG.w (by omega))).t r4, (((((FrM.w (by unfold iNet; omega)).t (FrM.w (by unfold iNet; omega))).t (FrM.w (by unfold iNet; omega))).t (FrM.w (by unfold iNet; omega))).t (FrM.w (by unfold iNet; omega))).t r5⟩
  · unfold net_passTank_k0
    rw [nnT (by omega), hal]
    refine st_w (by simp (disch := first | omega | decide) only [lt1, nnMl, nnMr, nnAl, nnAr, nnA, nnM, nnB, nnT, nnP, nnE, nnEl, nnEr, nnL, nnLl, nnLr, nnQ, nnQr, nnN, Nat.add_zero, if_false, if_true, Option.bind_some, not_true, not_false_iff, not_true_eq_false, not_false_eq_true, eq_self, Nat.not_lt_zero, z10, z01, or_true, true_or, or_false, false_or, true_and, false_and, hv10]) (st_w (by simp (disch := first | omega | decide) only [lt1, nnMl, nnMr, nnAl, nnAr, nnA, nnM, nnB, nnT, nnP, nnE, nnEl, nnEr, nnL, nnLl, nnLr, nnQ, nnQr, nnN, Nat.add_zero, if_false, if_true, Option.bind_some, not_true, not_false_iff, not_true_eq_false, not_false_eq_true, eq_self, Nat.not_lt_zero, z10, z01, or_true, true_or, or_false, false_or, true_and, false_and, hv10]) ?_)
    rw [hhd]
    refine st_b (out_x h hv) (st_l (st_w (by simp (disch := first | omega | decide) only [lt1, nnMl, nnMr, nnAl, nnAr, nnA, nnM, nnB, nnT, nnP, nnE, nnEl, nnEr, nnL, nnLl, nnLr, nnQ, nnQr, nnN, Nat.add_zero, if_false, if_true, Option.bind_some, not_true, not_false_iff, not_true_eq_false, not_false_eq_true, eq_self, Nat.not_lt_zero, z10, z01, or_true, true_or, or_false, false_or, true_and, false_and, hv10]) (st_t (by simp (disch := first | omega | decide) only [lt1, nnMl, nnMr, nnAl, nnAr, nnA, nnM, nnB, nnT, nnP, nnE, nnEl, nnEr, nnL, nnLl, nnLr, nnQ, nnQr, nnN, Nat.add_zero, if_false, if_true, Option.bind_some, not_true, not_false_iff, not_true_eq_false, not_false_eq_true, eq_self, Nat.not_lt_zero, z10, z01, or_true, true_or, or_false, false_or, true_and, false_and, hv10]) (st_b (x := g2) ?_ rfl))))
    rw [u2n (by decide), u2n (by decide)]
    exact r1
  · have es : (if al ≤ g 4 v then m_steps_k0_159 (nn (140 + 5 * v)) al 0 (up2 M 216 12 (M 216 12 + x)) else (if inb (nn (140 + 5 * v + 1)) 20360 = true then m_steps_k0_159 (nn (140 + 5 * v)) al (al - g 4 v) (up2 M 216 12 (M 216 12 + x)) else none)) = m_steps_k0_159 (nn (140 + 5 * v)) al (al - hd) (up2 M 216 12 (M 216 12 + x)) := by
      rw [← hhd]
      by_cases q : g 4 v < al
      · rw [if_pos q]
        exact st_f (Int32.not_le.mpr q) (st_t (by simp (disch := first | omega | decide) only [lt1, nnMl, nnMr, nnAl, nnAr, nnA, nnM, nnB, nnT, nnP, nnE, nnEl, nnEr, nnL, nnLl, nnLr, nnQ, nnQr, nnN, Nat.add_zero, if_false, if_true, Option.bind_some, not_true, not_false_iff, not_true_eq_false, not_false_eq_true, eq_self, Nat.not_lt_zero, z10, z01, or_true, true_or, or_false, false_or, true_and, false_and, i1]) rfl)
      · rw [if_neg q, Int32.sub_self]
        exact st_t (Int32.not_lt.mp q) rfl
    unfold m_steps_k0_65
    rw [nnT (show 140 + 5 * v < 2147483648 by omega), hkM, e3, e1]
    refine st_t (by simp (disch := first | omega | decide) only [lt1, nnMl, nnMr, nnAl, nnAr, nnA, nnM, nnB, nnT, nnP, nnE, nnEl, nnEr, nnL, nnLl, nnLr, nnQ, nnQr, nnN, Nat.add_zero, if_false, if_true, Option.bind_some, not_true, not_false_iff, not_true_eq_false, not_false_eq_true, eq_self, Nat.not_lt_zero, z10, z01, or_true, true_or, or_false, false_or, true_and, false_and, i0]) (st_t (by decide) (st_t (by simp (disch := first | omega | decide) only [lt1, nnMl, nnMr, nnAl, nnAr, nnA, nnM, nnB, nnT, nnP, nnE, nnEl, nnEr, nnL, nnLl, nnLr, nnQ, nnQr, nnN, Nat.add_zero, if_false, if_true, Option.bind_some, not_true, not_false_iff, not_true_eq_false, not_false_eq_true, eq_self, Nat.not_lt_zero, z10, z01, or_true, true_or, or_false, false_or, true_and, false_and, i0]) (st_f (by decide) (st_b (st_l rfl) (st_w (by simp (disch := first | omega | decide) only [lt1, nnMl, nnMr, nnAl, nnAr, nnA, nnM, nnB, nnT, nnP, nnE, nnEl, nnEr, nnL, nnLl, nnLr, nnQ, nnQr, nnN, Nat.add_zero, if_false, if_true, Option.bind_some, not_true, not_false_iff, not_true_eq_false, not_false_eq_true, eq_self, Nat.not_lt_zero, z10, z01, or_true, true_or, or_false, false_or, true_and, false_and, i3]) (st_t (by simp (disch := first | omega | decide) only [lt1, nnMl, nnMr, nnAl, nnAr, nnA, nnM, nnB, nnT, nnP, nnE, nnEl, nnEr, nnL, nnLl, nnLr, nnQ, nnQr, nnN, Nat.add_zero, if_false, if_true, Option.bind_some, not_true, not_false_iff, not_true_eq_false, not_false_eq_true, eq_self, Nat.not_lt_zero, z10, z01, or_true, true_or, or_false, false_or, true_and, false_and, i1]) ?_))))))
    rw [nnT (show 140 + 5 * v + 3 < 2147483648 by omega), nnT (show 140 + 5 * v + 1 < 2147483648 by omega), u2e, up1_ne (show 140 + 5 * v + 3 ≠ 12 by omega), up1_ne (show 140 + 5 * v + 1 ≠ 12 by omega), h.kep0 v hv10, h.size v hv10, Int32.add_comm x, hal, es]
    unfold m_steps_k0_159 m_adds_k0_4 m_adds_k0_2
    refine st_b (st_l rfl) (st_b (st_l rfl) (st_l ?_))
    rw [hov, m184w_0 (g := g) (v := v) h hv (by simp (disch := first | omega | decide) only [u2e, u2n, up1_eq, up1_ne, ne_eq]; exact h.gate v hv10) (fun j hj => by simp (disch := first | omega | decide) only [u2e, u2n, up1_eq, up1_ne, ne_eq]; exact h.brd j hj)]
    unfold m_steps_k0_227 m_adds_k0_2
    rw [nnT (show 140 + 5 * v < 2147483648 by omega), e3, nnT (show 140 + 5 * v + 3 < 2147483648 by omega)]
    refine st_t (by simp (disch := first | omega | decide) only [lt1, nnMl, nnMr, nnAl, nnAr, nnA, nnM, nnB, nnT, nnP, nnE, nnEl, nnEr, nnL, nnLl, nnLr, nnQ, nnQr, nnN, Nat.add_zero, if_false, if_true, Option.bind_some, not_true, not_false_iff, not_true_eq_false, not_false_eq_true, eq_self, Nat.not_lt_zero, z10, z01, or_true, true_or, or_false, false_or, true_and, false_and, i0]) (st_f (by simp (disch := first | omega | decide) only [u2e, u2n, up1_eq, up1_ne, ne_eq]; rw [hkM]; decide) (st_b (st_l rfl) (st_w (by simp (disch := first | omega | decide) only [lt1, nnMl, nnMr, nnAl, nnAr, nnA, nnM, nnB, nnT, nnP, nnE, nnEl, nnEr, nnL, nnLl, nnLr, nnQ, nnQr, nnN, Nat.add_zero, if_false, if_true, Option.bind_some, not_true, not_false_iff, not_true_eq_false, not_false_eq_true, eq_self, Nat.not_lt_zero, z10, z01, or_true, true_or, or_false, false_or, true_and, false_and, i3]) ?_)))
    rw [m279_0 hv10 (k := 2) (by simp (disch := first | omega | decide) only [u2e, u2n, up1_eq, up1_ne, ne_eq]; exact hkM) (by decide)]
    simp (disch := first | omega | decide) only [u2e, u2n, up1_eq, up1_ne, ne_eq]
    exact r2
theorem send_y1 (h : RNet g (M 216) N C Q) {w out : Int32} (hw : w = -1 ∨ ∃ j, j < C ∧ w = nn j) : ∃ g2 M2, net_send_k1 w out g = some g2 ∧ m_steps_k1_316 w out M = some M2 ∧ RNet g2 (M2 216) N C Q ∧ FrG g g2 ∧ FrM M M2 := by
  have hC := h.hC
  have hQ := h.hQ
  rcases hw with rfl | ⟨j, hj, rfl⟩
  · refine ⟨g, M, ?_, ?_, h, FrG.r, FrM.r⟩
    · unfold net_send_k1
      exact st_b hC_neg (st_f (by decide) rfl)
    · unfold m_steps_k1_316
      exact st_t (by decide) rfl
  have hj14 : j < 14 := by omega
  have h0 : ¬ nn j < 0 := by rw [nnP (by omega)]; exact id
  rcases h.brkV j hj14 with q | q
  · obtain ⟨tv, tv8, etv⟩ := h.trvV j hj
    have hp : j * 9 + (Q + tv) % 9 < 126 := by omega
    have hp2 : 416 + (j * 9 + (Q + tv) % 9) < 20360 := by omega
    have er : nn (Q + tv) - nn (Q + tv) / 9 * 9 = nn ((Q + tv) % 9) := by
      have e : nn (Q + tv) / 9 * 9 = nn ((Q + tv) / 9 * 9) := by simp (disch := first | omega | decide) only [lt1, nnMl, nnMr, nnAl, nnAr, nnA, nnM, nnB, nnT, nnP, nnE, nnEl, nnEr, nnL, nnLl, nnLr, nnQ, nnQr, nnN, Nat.add_zero, if_false, if_true, Option.bind_some, not_true, not_false_iff, not_true_eq_false, not_false_eq_true, eq_self, Nat.not_lt_zero, z10, z01, or_true, true_or, or_false, false_or, true_and, false_and, nnDr]
      rw [e, nnS (a := Q + tv) (b := (Q + tv) / 9 * 9) (by omega), show Q + tv - (Q + tv) / 9 * 9 = (Q + tv) % 9 by omega]
    generalize hlk : out * g 11 j / 1000 = lk at *
    refine ⟨up2 (up2 g 20 1 (g 20 1 + lk)) 18 (j * 9 + (Q + tv) % 9) (g 18 (j * 9 + (Q + tv) % 9) + (out - lk)), up2 (up2 (up2 M 216 22 (M 216 22 + lk)) 216 20 (M 216 20 + (out - lk))) 216 (416 + (j * 9 + (Q + tv) % 9)) (M 216 (416 + (j * 9 + (Q + tv) % 9)) + (out - lk)), ?_, ?_, ?_, ?_, ?_⟩
    · unfold net_send_k1 net_send_k1_49 net_placeAt
      refine st_b (hC_y h.cC hC hj) (st_t (by decide) (st_t (by simp (disch := first | omega | decide) only [lt1, nnMl, nnMr, nnAl, nnAr, nnA, nnM, nnB, nnT, nnP, nnE, nnEl, nnEr, nnL, nnLl, nnLr, nnQ, nnQr, nnN, Nat.add_zero, if_false, if_true, Option.bind_some, not_true, not_false_iff, not_true_eq_false, not_false_eq_true, eq_self, Nat.not_lt_zero, z10, z01, or_true, true_or, or_false, false_or, true_and, false_and, hj14]) ?_))
      rw [nnT (by omega), q, hlk]
      refine st_t rfl (st_t (by simp (disch := first | omega | decide) only [lt1, nnMl, nnMr, nnAl, nnAr, nnA, nnM, nnB, nnT, nnP, nnE, nnEl, nnEr, nnL, nnLl, nnLr, nnQ, nnQr, nnN, Nat.add_zero, if_false, if_true, Option.bind_some, not_true, not_false_iff, not_true_eq_false, not_false_eq_true, eq_self, Nat.not_lt_zero, z10, z01, or_true, true_or, or_false, false_or, true_and, false_and, hj14]) (st_l (st_l (st_t (by simp (disch := first | omega | decide) only [lt1, nnMl, nnMr, nnAl, nnAr, nnA, nnM, nnB, nnT, nnP, nnE, nnEl, nnEr, nnL, nnLl, nnLr, nnQ, nnQr, nnN, Nat.add_zero, if_false, if_true, Option.bind_some, not_true, not_false_iff, not_true_eq_false, not_false_eq_true, eq_self, Nat.not_lt_zero, z10, z01, or_true, true_or, or_false, false_or, true_and, false_and, hj14]) (st_b rfl ?_)))))
      rw [u2n (show 2 ≠ 20 by decide), u2n (show 13 ≠ 20 by decide), h.cQ, etv, nnA, er, show nn j * 9 + nn ((Q + tv) % 9) = nn (j * 9 + (Q + tv) % 9) by simp (disch := first | omega | decide) only [lt1, nnMl, nnMr, nnAl, nnAr, nnA, nnM, nnB, nnT, nnP, nnE, nnEl, nnEr, nnL, nnLl, nnLr, nnQ, nnQr, nnN, Nat.add_zero, if_false, if_true, Option.bind_some, not_true, not_false_iff, not_true_eq_false, not_false_eq_true, eq_self, Nat.not_lt_zero, z10, z01, or_true, true_or, or_false, false_or, true_and, false_and]]
      refine st_t (by simp (disch := first | omega | decide) only [lt1, nnMl, nnMr, nnAl, nnAr, nnA, nnM, nnB, nnT, nnP, nnE, nnEl, nnEr, nnL, nnLl, nnLr, nnQ, nnQr, nnN, Nat.add_zero, if_false, if_true, Option.bind_some, not_true, not_false_iff, not_true_eq_false, not_false_eq_true, eq_self, Nat.not_lt_zero, z10, z01, or_true, true_or, or_false, false_or, true_and, false_and, hp]) (st_w (by simp (disch := first | omega | decide) only [lt1, nnMl, nnMr, nnAl, nnAr, nnA, nnM, nnB, nnT, nnP, nnE, nnEl, nnEr, nnL, nnLl, nnLr, nnQ, nnQr, nnN, Nat.add_zero, if_false, if_true, Option.bind_some, not_true, not_false_iff, not_true_eq_false, not_false_eq_true, eq_self, Nat.not_lt_zero, z10, z01, or_true, true_or, or_false, false_or, true_and, false_and, hp]) ?_)
      rw [nnT (by omega), u2n (show 18 ≠ 20 by decide)]
    · have k6 : m_channelOf_k6 (nn j) M = some 0 := by rw [← q]; exact mch6 h hj14
      unfold m_steps_k1_316 m_sends_k1
      refine st_f h0 (st_b (st_b k6 (st_t (by decide) ?_)) rfl)
      unfold m_sends_k1_36
      refine st_b (x := g 11 j) ?_ ?_
      · rw [← h.low j hj14]
        exact chanOf_y (g := M) hj14 (k := 2) (by decide)
      · rw [hlk]
        refine st_b (x := (lk, up2 M 216 22 (M 216 22 + lk))) ?_ ?_
        · unfold m_adds
          exact st_t rfl (st_w rfl rfl)
        · have e4 : m_channelOf_k4 (nn j) (up2 M 216 22 (M 216 22 + lk)) = some (nn tv) := by
            have := chanOf_y (g := up2 M 216 22 (M 216 22 + lk)) hj14 (k := 4) (by decide)
            rw [u2e, up1_ne (by omega), h.trv j hj14, etv] at this
            exact this
          refine st_b e4 (st_b rfl ?_)
          rw [u2e, up1_ne (show 3 ≠ 22 by decide), h.aQ, nnA, er, show 290 + 9 * (14 + nn j) + nn ((Q + tv) % 9) = nn (416 + (j * 9 + (Q + tv) % 9)) by
            rw [show 416 + (j * 9 + (Q + tv) % 9) = 290 + 9 * (14 + j) + (Q + tv) % 9 by omega]
            simp (disch := first | omega | decide) only [lt1, nnMl, nnMr, nnAl, nnAr, nnA, nnM, nnB, nnT, nnP, nnE, nnEl, nnEr, nnL, nnLl, nnLr, nnQ, nnQr, nnN, Nat.add_zero, if_false, if_true, Option.bind_some, not_true, not_false_iff, not_true_eq_false, not_false_eq_true, eq_self, Nat.not_lt_zero, z10, z01, or_true, true_or, or_false, false_or, true_and, false_and]]
          unfold m_adds_k1_3
          refine st_t (by simp (disch := first | omega | decide) only [lt1, nnMl, nnMr, nnAl, nnAr, nnA, nnM, nnB, nnT, nnP, nnE, nnEl, nnEr, nnL, nnLl, nnLr, nnQ, nnQr, nnN, Nat.add_zero, if_false, if_true, Option.bind_some, not_true, not_false_iff, not_true_eq_false, not_false_eq_true, eq_self, Nat.not_lt_zero, z10, z01, or_true, true_or, or_false, false_or, true_and, false_and, hp2]) (st_b (st_l rfl) (st_w (by simp (disch := first | omega | decide) only [lt1, nnMl, nnMr, nnAl, nnAr, nnA, nnM, nnB, nnT, nnP, nnE, nnEl, nnEr, nnL, nnLl, nnLr, nnQ, nnQr, nnN, Nat.add_zero, if_false, if_true, Option.bind_some, not_true, not_false_iff, not_true_eq_false, not_false_eq_true, eq_self, Nat.not_lt_zero, z10, z01, or_true, true_or, or_false, false_or, true_and, false_and, hp2]) ?_))
          rw [nnT (by omega), u2e, up1_ne (show 20 ≠ 22 by decide), up1_ne (show 416 + (j * 9 + (Q + tv) % 9) ≠ 22 by omega)]
    · exact h.send1 hj (p := j * 9 + (Q + tv) % 9) (by omega) (by omega) (lk := lk) (y := out - lk) (fun i e1 e2 e3 e4 => by simp (disch := first | omega | decide) only [u2e, u2n, up1_eq, up1_ne, ne_eq]) (by simp (disch := first | omega | decide) only [u2e, u2n, up1_eq, up1_ne, ne_eq]) (by simp (disch := first | omega | decide) only [u2e, u2n, up1_eq, up1_ne, ne_eq]) (by simp (disch := first | omega | decide) only [u2e, u2n, up1_eq, up1_ne, ne_eq]) (by simp (disch := first | omega | decide) only [u2e, u2n, up1_eq, up1_ne, ne_eq]) (by simp (disch := first | omega | decide) only [u2e, u2n, up1_eq, up1_ne, ne_eq]) (by simp (disch := first | omega | decide) only [u2e, u2n, up1_eq, up1_ne, ne_eq]) (fun i e1 e2 e3 e4 => by simp (disch := first | omega | decide) only [u2e, u2n, up1_eq, up1_ne, ne_eq])
    · exact (FrG.w (by omega)).t (FrG.w (by omega))
    · exact ((FrM.w (by unfold iNet; omega)).t (FrM.w (by unfold iNet; omega))).t (FrM.w (by unfold iNet; omega))
  · refine ⟨up2 g 21 1 (g 21 1 + out), up2 M 216 23 (M 216 23 + out), ?_, ?_, ?_, ?_, ?_⟩
    · unfold net_send_k1
      refine st_b (hC_y h.cC hC hj) (st_t (by decide) (st_t (by simp (disch := first | omega | decide) only [lt1, nnMl, nnMr, nnAl, nnAr, nnA, nnM, nnB, nnT, nnP, nnE, nnEl, nnEr, nnL, nnLl, nnLr, nnQ, nnQr, nnN, Nat.add_zero, if_false, if_true, Option.bind_some, not_true, not_false_iff, not_true_eq_false, not_false_eq_true, eq_self, Nat.not_lt_zero, z10, z01, or_true, true_or, or_false, false_or, true_and, false_and, hj14]) ?_))
      rw [nnT (by omega), q]
      exact st_f (by decide) rfl
    · have k6 : m_channelOf_k6 (nn j) M = some 1 := by rw [← q]; exact mch6 h hj14
      unfold m_steps_k1_316 m_sends_k1 m_adds_k1_6
      exact st_f h0 (st_b (st_b k6 (st_f (by decide) (st_b (st_l rfl) rfl))) rfl)
    · exact h.lost1 (x := out) (fun i e1 e2 e3 => by simp (disch := first | omega | decide) only [u2e, u2n, up1_eq, up1_ne, ne_eq]) (by simp (disch := first | omega | decide) only [u2e, u2n, up1_eq, up1_ne, ne_eq]) (by simp (disch := first | omega | decide) only [u2e, u2n, up1_eq, up1_ne, ne_eq]) (by simp (disch := first | omega | decide) only [u2e, u2n, up1_eq, up1_ne, ne_eq]) (fun i e1 e2 => by simp (disch := first | omega | decide) only [u2e, u2n, up1_eq, up1_ne, ne_eq])
    · exact FrG.w (by omega)
    · exact FrM.w (by unfold iNet; omega)
theorem m184w_1 {a : Nat → Int32} (h : RNet g a N C Q) (hv : v < N) (hg : M 216 (140 + 5 * v + 2) = g 5 v) (h14 : ∀ j, j < 14 → M 216 (190 + 7 * j + 5) = g 14 j) {x : Int32} : m_steps_k1_184 (nn (140 + 5 * v)) x M = m_steps_k1_227 (nn (140 + 5 * v)) x (g 5 v) (ov g v x) M := by
  have hN := h.hN
  have hC := h.hC
  have hv10 : v < 10 := by omega
  have i2 : 140 + 5 * v + 2 < 20360 := by omega
  have e2 : nn (140 + 5 * v) + 2 = nn (140 + 5 * v + 2) := nnA _ 2
  have mch : ∀ j, j < 14 → m_channelOf_k5 (nn j) M = some (g 14 j) := fun j hj => by
    rw [← h14 j hj]
    exact chanOf_y (g := M) hj (k := 5) (by decide)
  unfold m_steps_k1_184
  rw [e2, nnT (by omega), hg]
  refine st_t (by simp (disch := first | omega | decide) only [lt1, nnMl, nnMr, nnAl, nnAr, nnA, nnM, nnB, nnT, nnP, nnE, nnEl, nnEr, nnL, nnLl, nnLr, nnQ, nnQr, nnN, Nat.add_zero, if_false, if_true, Option.bind_some, not_true, not_false_iff, not_true_eq_false, not_false_eq_true, eq_self, Nat.not_lt_zero, z10, z01, or_true, true_or, or_false, false_or, true_and, false_and, i2]) (st_l ?_)
  unfold ov
  rcases gate_v (M := fun _ => a) h hv with e | ⟨j, h1, h2, h3, h4⟩
  · rw [e, if_pos rfl]
    exact st_f (by decide) rfl
  · have hj14 : j < 14 := by omega
    rw [h3, h2, if_neg h4]
    refine st_t (nnE0 (by omega)) (st_b (mch j hj14) ?_)
    by_cases q : g 14 j ≤ x
    · refine st_t q (st_b (mch j hj14) ?_)
      by_cases q2 : g 14 j < x
      · rw [if_pos q2]
      · rw [if_neg q2, Int32.le_antisymm (Int32.not_lt.mp q2) q]
    · refine st_f q ?_
      rw [if_neg (fun e => q (Int32.le_of_lt e))]
theorem m184_1 (h : RNet g (M 216) N C Q) (hv : v < N) {x : Int32} : m_steps_k1_184 (nn (140 + 5 * v)) x M = m_steps_k1_227 (nn (140 + 5 * v)) x (g 5 v) (ov g v x) M := m184w_1 h hv (h.gate v (by have := h.hN; omega)) (fun j hj => h.brd j hj)
theorem m65_1 {x k : Int32} (hv : v < 10) (hk : M 216 (140 + 5 * v) = k) (k4 : ¬ k = 4) (k2 : ¬ k = 2) : m_steps_k1_65 (nn (140 + 5 * v)) x M = m_steps_k1_184 (nn (140 + 5 * v)) x M := by
  have i0 : 140 + 5 * v < 20360 := by omega
  unfold m_steps_k1_65
  rw [nnT (by omega), hk]
  exact st_t (by simp (disch := first | omega | decide) only [lt1, nnMl, nnMr, nnAl, nnAr, nnA, nnM, nnB, nnT, nnP, nnE, nnEl, nnEr, nnL, nnLl, nnLr, nnQ, nnQr, nnN, Nat.add_zero, if_false, if_true, Option.bind_some, not_true, not_false_iff, not_true_eq_false, not_false_eq_true, eq_self, Nat.not_lt_zero, z10, z01, or_true, true_or, or_false, false_or, true_and, false_and, i0]) (st_t k4 (st_t (by simp (disch := first | omega | decide) only [lt1, nnMl, nnMr, nnAl, nnAr, nnA, nnM, nnB, nnT, nnP, nnE, nnEl, nnEr, nnL, nnLl, nnLr, nnQ, nnQr, nnN, Nat.add_zero, if_false, if_true, Option.bind_some, not_true, not_false_iff, not_true_eq_false, not_false_eq_true, eq_self, Nat.not_lt_zero, z10, z01, or_true, true_or, or_false, false_or, true_and, false_and, i0]) (st_t k2 rfl)))
theorem m227_1 {x w out k : Int32} (hv : v < 10) (hk : M 216 (140 + 5 * v) = k) (k2 : ¬ k = 2) : m_steps_k1_227 (nn (140 + 5 * v)) x w out M = m_steps_k1_279 (nn (140 + 5 * v)) w out (up2 M 216 21 (M 216 21 + (x - out))) := by
  have i0 : 140 + 5 * v < 20360 := by omega
  unfold m_steps_k1_227 m_adds_k1_4
  rw [nnT (by omega), hk]
  exact st_t (by simp (disch := first | omega | decide) only [lt1, nnMl, nnMr, nnAl, nnAr, nnA, nnM, nnB, nnT, nnP, nnE, nnEl, nnEr, nnL, nnLl, nnLr, nnQ, nnQr, nnN, Nat.add_zero, if_false, if_true, Option.bind_some, not_true, not_false_iff, not_true_eq_false, not_false_eq_true, eq_self, Nat.not_lt_zero, z10, z01, or_true, true_or, or_false, false_or, true_and, false_and, i0]) (st_t k2 (st_b (st_l rfl) rfl))
theorem m279_1 {w out k : Int32} (hv : v < 10) (hk : M 216 (140 + 5 * v) = k) (k3 : ¬ k = 3) : m_steps_k1_279 (nn (140 + 5 * v)) w out M = m_steps_k1_316 w out M := by
  have i0 : 140 + 5 * v < 20360 := by omega
  unfold m_steps_k1_279
  rw [nnT (by omega), hk]
  exact st_t (by simp (disch := first | omega | decide) only [lt1, nnMl, nnMr, nnAl, nnAr, nnA, nnM, nnB, nnT, nnP, nnE, nnEl, nnEr, nnL, nnLl, nnLr, nnQ, nnQr, nnN, Nat.add_zero, if_false, if_true, Option.bind_some, not_true, not_false_iff, not_true_eq_false, not_false_eq_true, eq_self, Nat.not_lt_zero, z10, z01, or_true, true_or, or_false, false_or, true_and, false_and, i0]) (st_t k3 rfl)
theorem m279y_1 {w out : Int32} (hv : v < 10) (hk : M 216 (140 + 5 * v) = 3) : m_steps_k1_279 (nn (140 + 5 * v)) w out M = m_steps_k1_316 w out (up2 M 216 (140 + 5 * v + 4) (M 216 (140 + 5 * v + 4) + out * M 216 (140 + 5 * v + 1) / 100)) := by
  have i0 : 140 + 5 * v < 20360 := by omega
  have i1 : 140 + 5 * v + 1 < 20360 := by omega
  have i3 : 140 + 5 * v + 4 < 20360 := by omega
  have e3 : nn (140 + 5 * v) + 3 + 1 = nn (140 + 5 * v + 4) := by simp (disch := first | omega | decide) only [lt1, nnMl, nnMr, nnAl, nnAr, nnA, nnM, nnB, nnT, nnP, nnE, nnEl, nnEr, nnL, nnLl, nnLr, nnQ, nnQr, nnN, Nat.add_zero, if_false, if_true, Option.bind_some, not_true, not_false_iff, not_true_eq_false, not_false_eq_true, eq_self, Nat.not_lt_zero, z10, z01, or_true, true_or, or_false, false_or, true_and, false_and]
  have e1 : nn (140 + 5 * v) + 1 = nn (140 + 5 * v + 1) := nnA _ 1
  unfold m_steps_k1_279
  rw [nnT (show 140 + 5 * v < 2147483648 by omega), hk, e3, e1, nnT (show 140 + 5 * v + 4 < 2147483648 by omega), nnT (show 140 + 5 * v + 1 < 2147483648 by omega)]
  exact st_t (by simp (disch := first | omega | decide) only [lt1, nnMl, nnMr, nnAl, nnAr, nnA, nnM, nnB, nnT, nnP, nnE, nnEl, nnEr, nnL, nnLl, nnLr, nnQ, nnQr, nnN, Nat.add_zero, if_false, if_true, Option.bind_some, not_true, not_false_iff, not_true_eq_false, not_false_eq_true, eq_self, Nat.not_lt_zero, z10, z01, or_true, true_or, or_false, false_or, true_and, false_and, i0]) (st_f (by decide) (st_t (by simp (disch := first | omega | decide) only [lt1, nnMl, nnMr, nnAl, nnAr, nnA, nnM, nnB, nnT, nnP, nnE, nnEl, nnEr, nnL, nnLl, nnLr, nnQ, nnQr, nnN, Nat.add_zero, if_false, if_true, Option.bind_some, not_true, not_false_iff, not_true_eq_false, not_false_eq_true, eq_self, Nat.not_lt_zero, z10, z01, or_true, true_or, or_false, false_or, true_and, false_and, i3]) (st_t (by simp (disch := first | omega | decide) only [lt1, nnMl, nnMr, nnAl, nnAr, nnA, nnM, nnB, nnT, nnP, nnE, nnEl, nnEr, nnL, nnLl, nnLr, nnQ, nnQr, nnN, Nat.add_zero, if_false, if_true, Option.bind_some, not_true, not_false_iff, not_true_eq_false, not_false_eq_true, eq_self, Nat.not_lt_zero, z10, z01, or_true, true_or, or_false, false_or, true_and, false_and, i1]) (st_w (by simp (disch := first | omega | decide) only [lt1, nnMl, nnMr, nnAl, nnAr, nnA, nnM, nnB, nnT, nnP, nnE, nnEl, nnEr, nnL, nnLl, nnLr, nnQ, nnQr, nnN, Nat.add_zero, if_false, if_true, Option.bind_some, not_true, not_false_iff, not_true_eq_false, not_false_eq_true, eq_self, Nat.not_lt_zero, z10, z01, or_true, true_or, or_false, false_or, true_and, false_and, i3]) rfl))))
theorem passOn_x1 (h : RNet g (M 216) N C Q) (hv : v < N) {x : Int32} {g2 : Sg} (hs : net_send_k1 (g 5 v) (ov g v x) (up2 g 19 1 (g 19 1 + (x - ov g v x))) = some g2) : net_passOn_k1 (nn v) x g = some g2 := by
  have hN := h.hN
  have hv10 : v < 10 := by omega
  unfold net_passOn_k1
  refine st_b (out_x h hv) (st_l (st_t (by simp (disch := first | omega | decide) only [lt1, nnMl, nnMr, nnAl, nnAr, nnA, nnM, nnB, nnT, nnP, nnE, nnEl, nnEr, nnL, nnLl, nnLr, nnQ, nnQr, nnN, Nat.add_zero, if_false, if_true, Option.bind_some, not_true, not_false_iff, not_true_eq_false, not_false_eq_true, eq_self, Nat.not_lt_zero, z10, z01, or_true, true_or, or_false, false_or, true_and, false_and, hv10]) (st_b (x := g2) ?_ rfl)))
  rw [u2n (by decide), nnT (by omega)]
  exact hs
/-- on from the arrivals: kinds but tanks and fields -/
theorem pass_y1 (h : RNet g (M 216) N C Q) (hv : v < N) {x k : Int32} (hk : g 3 v = k) (k2 : ¬ k = 2) (k3 : ¬ k = 3) : ∃ g2 M2, net_passOn_k1 (nn v) x g = some g2 ∧ m_steps_k1_184 (nn (140 + 5 * v)) x M = some M2 ∧ RNet g2 (M2 216) N C Q ∧ FrG g g2 ∧ FrM M M2 := by
  have hN := h.hN
  have hv10 : v < 10 := by omega
  have hkM : M 216 (140 + 5 * v) = k := (h.kind v hv10).trans hk
  have hR : RNet (up2 g 19 1 (g 19 1 + (x - ov g v x))) ((up2 M 216 21 (M 216 21 + (x - ov g v x))) 216) N C Q := h.node1 hv (k2 := g 8 v) (sp := x - ov g v x) (fun i e1 e2 e3 e4 => by simp (disch := first | omega | decide) only [u2e, u2n, up1_eq, up1_ne, ne_eq]) (fun n hn => by
      rw [u2n (by decide)]
      by_cases e : n = v
      · rw [if_pos e, e]
      · rw [if_neg e]) (by simp (disch := first | omega | decide) only [u2e, u2n, up1_eq, up1_ne, ne_eq]) (by simp (disch := first | omega | decide) only [u2e, u2n, up1_eq, up1_ne, ne_eq]) (by simp (disch := first | omega | decide) only [u2e, u2n, up1_eq, up1_ne, ne_eq]; exact h.kep1 v hv10) (by simp (disch := first | omega | decide) only [u2e, u2n, up1_eq, up1_ne, ne_eq]) (by simp (disch := first | omega | decide) only [u2e, u2n, up1_eq, up1_ne, ne_eq]; rw [Int32.sub_self, ite_self, Int32.add_zero]) (by simp (disch := first | omega | decide) only [u2e, u2n, up1_eq, up1_ne, ne_eq]; rw [Int32.sub_self, ite_self, Int32.add_zero]) (by simp (disch := first | omega | decide) only [u2e, u2n, up1_eq, up1_ne, ne_eq]; rw [Int32.sub_self, ite_self, Int32.add_zero]) (fun i e1 e2 e3 e4 e5 e6 => by simp (disch := first | omega | decide) only [u2e, u2n, up1_eq, up1_ne, ne_eq])
  obtain ⟨g2, M2, r1, r2, r3, r4, r5⟩ := send_y1 hR (w := g 5 v) (out := ov g v x) (by
    rcases gate_v h hv with e | ⟨j, h1, h2, _⟩
    · exact Or.inl e
    · exact Or.inr ⟨j, h1, h2⟩)
  refine ⟨g2, M2, passOn_x1 h hv r1, ?_, r3, (FrG.w (by omega)).t r4, (FrM.w (by unfold iNet; omega)).t r5⟩
  rw [m184_1 h hv, m227_1 hv10 hkM k2, m279_1 hv10 (k := k) (by simp (disch := first | omega | decide) only [u2e, u2n, up1_eq, up1_ne, ne_eq]; exact hkM) k3]
  exact r2
theorem wheel_y1 (h : RNet g (M 216) N C Q) (hv : v < N) {x : Int32} (hk : g 3 v = 3) : ∃ g2 M2, net_passOn_k1 (nn v) x (up2 g 8 v (g 8 v + ov g v x * g 4 v / 100)) = some g2 ∧ m_steps_k1_184 (nn (140 + 5 * v)) x M = some M2 ∧ RNet g2 (M2 216) N C Q ∧ FrG g g2 ∧ FrM M M2 := by
  have hN := h.hN
  have hv10 : v < 10 := by omega
  have hkM : M 216 (140 + 5 * v) = 3 := (h.kind v hv10).trans hk
  generalize hd : ov g v x * g 4 v / 100 = dl at *
  have eov : ov (up2 g 8 v (g 8 v + dl)) v x = ov g v x := by
    unfold ov cn
    rw [u2n (by decide), u2n (by decide)]
  have hR : RNet (up2 (up2 g 8 v (g 8 v + dl)) 19 1 ((up2 g 8 v (g 8 v + dl)) 19 1 + (x - ov g v x))) ((up2 (up2 M 216 21 (M 216 21 + (x - ov g v x))) 216 (140 + 5 * v + 4) (M 216 (140 + 5 * v + 4) + dl)) 216) N C Q := h.node1 hv (k2 := g 8 v + dl) (sp := x - ov g v x) (fun i e1 e2 e3 e4 => by simp (disch := first | omega | decide) only [u2e, u2n, up1_eq, up1_ne, ne_eq]) (fun n hn => by
      rw [u2n (by decide), u2e]
      by_cases e : n = v
      · rw [if_pos e, e, up1_eq]
      · rw [if_neg e, up1_ne e]) (by simp (disch := first | omega | decide) only [u2e, u2n, up1_eq, up1_ne, ne_eq]) (by simp (disch := first | omega | decide) only [u2e, u2n, up1_eq, up1_ne, ne_eq]) (by simp (disch := first | omega | decide) only [u2e, u2n, up1_eq, up1_ne, ne_eq]; rw [h.kep1 v hv10]) (by simp (disch := first | omega | decide) only [u2e, u2n, up1_eq, up1_ne, ne_eq]) (by simp (disch := first | omega | decide) only [u2e, u2n, up1_eq, up1_ne, ne_eq]; rw [hk, if_neg (by decide), Int32.add_zero]) (by simp (disch := first | omega | decide) only [u2e, u2n, up1_eq, up1_ne, ne_eq]; rw [hk, if_neg (by decide), Int32.add_zero]) (by simp (disch := first | omega | decide) only [u2e, u2n, up1_eq, up1_ne, ne_eq]; rw [hk, if_neg (by decide), Int32.add_zero]) (fun i e1 e2 e3 e4 e5 e6 => by simp (disch := first | omega | decide) only [u2e, u2n, up1_eq, up1_ne, ne_eq])
  obtain ⟨g2, M2, r1, r2, r3, r4, r5⟩ := send_y1 hR (w := g 5 v) (out := ov g v x) (by
    rcases gate_v h hv with e | ⟨j, h1, h2, _⟩
    · exact Or.inl e
    · exact Or.inr ⟨j, h1, h2⟩)
  have h5 : RNet (up2 g 8 v (g 8 v + dl)) ((up2 (up2 M 216 21 (M 216 21 + (x - ov g v x))) 216 (140 + 5 * v + 4) (M 216 (140 + 5 * v + 4) + dl)) 216) N C Q → True := fun _ => trivial
  refine ⟨g2, M2, ?_, ?_, r3, ((FrG.w (by omega)).t (FrG.w (by omega))).t r4, ((FrM.w (by unfold iNet; omega)).t (FrM.w (by unfold iNet; omega))).t r5⟩
  · unfold net_passOn_k1
    refine st_b (x := ov g v x) ?_ (st_l (st_t (by simp (disch := first | omega | decide) only [lt1, nnMl, nnMr, nnAl, nnAr, nnA, nnM, nnB, nnT, nnP, nnE, nnEl, nnEr, nnL, nnLl, nnLr, nnQ, nnQr, nnN, Nat.add_zero, if_false, if_true, Option.bind_some, not_true, not_false_iff, not_true_eq_false, not_false_eq_true, eq_self, Nat.not_lt_zero, z10, z01, or_true, true_or, or_false, false_or, true_and, false_and, hv10]) (st_b (x := g2) ?_ rfl)))
    · have := out_x h hv (x := x)
      unfold net_outOf net_hasChannel at this ⊢
      rw [u2n (show 5 ≠ 8 by decide), u2n (show 2 ≠ 8 by decide), u2n (show 14 ≠ 8 by decide)]
      exact this
    · rw [u2n (by decide), u2n (by decide), nnT (by omega)]
      exact r1
  · rw [m184_1 h hv, m227_1 hv10 hkM (by decide), m279y_1 hv10 (by simp (disch := first | omega | decide) only [u2e, u2n, up1_eq, up1_ne, ne_eq]; exact hkM), u2e, up1_ne (show 140 + 5 * v + 4 ≠ 21 by omega), up1_ne (show 140 + 5 * v + 1 ≠ 21 by omega), h.size v hv10, hd]
    exact r2
theorem tank_y1 (h : RNet g (M 216) N C Q) (hv : v < N) {x : Int32} (hk : g 3 v = 2) : ∃ g2 M2, net_passTank_k1 (nn v) x g = some g2 ∧ m_steps_k1_65 (nn (140 + 5 * v)) x M = some M2 ∧ RNet g2 (M2 216) N C Q ∧ FrG g g2 ∧ FrM M M2 := by
  have hN := h.hN
  have hv10 : v < 10 := by omega
  have hkM : M 216 (140 + 5 * v) = 2 := (h.kind v hv10).trans hk
  have i0 : 140 + 5 * v < 20360 := by omega
  have i1 : 140 + 5 * v + 1 < 20360 := by omega
  have i3 : 140 + 5 * v + 4 < 20360 := by omega
  have e3 : nn (140 + 5 * v) + 3 + 1 = nn (140 + 5 * v + 4) := by simp (disch := first | omega | decide) only [lt1, nnMl, nnMr, nnAl, nnAr, nnA, nnM, nnB, nnT, nnP, nnE, nnEl, nnEr, nnL, nnLl, nnLr, nnQ, nnQr, nnN, Nat.add_zero, if_false, if_true, Option.bind_some, not_true, not_false_iff, not_true_eq_false, not_false_eq_true, eq_self, Nat.not_lt_zero, z10, z01, or_true, true_or, or_false, false_or, true_and, false_and]
  have e1 : nn (140 + 5 * v) + 1 = nn (140 + 5 * v + 1) := nnA _ 1
  generalize hal : g 8 v + x = al
  generalize hhd : (if g 4 v < al then g 4 v else al) = hd
  have hov : al - (al - hd) = hd := by
    rw [Int32.sub_eq_add_neg, Int32.neg_sub, i_addsub]
  have hR : RNet (up2 (up2 g 19 1 (g 19 1 + (al - hd))) 8 v (hd - ov g v hd)) ((up2 (up2 (up2 (up2 (up2 M 216 19 (M 216 19 + x)) 216 21 (M 216 21 + (al - hd))) 216 19 (M 216 19 + x + -(al - hd))) 216 19 (M 216 19 + x + -(al - hd) + -(ov g v hd))) 216 (140 + 5 * v + 4) (hd - ov g v hd)) 216) N C Q := h.node1 hv (k2 := hd - ov g v hd) (sp := al - hd) (fun i e1 e2 e3 e4 => by simp (disch := first | omega | decide) only [u2e, u2n, up1_eq, up1_ne, ne_eq]) (fun n hn => by
      rw [u2e]
      by_cases e : n = v
      · rw [if_pos e, e, up1_eq]
      · rw [if_neg e, up1_ne e, u2n (by decide)]) (by simp (disch := first | omega | decide) only [u2e, u2n, up1_eq, up1_ne, ne_eq]) (by simp (disch := first | omega | decide) only [u2e, u2n, up1_eq, up1_ne, ne_eq]) (by simp (disch := first | omega | decide) only [u2e, u2n, up1_eq, up1_ne, ne_eq]) (by simp (disch := first | omega | decide) only [u2e, u2n, up1_eq, up1_ne, ne_eq]) (by simp (disch := first | omega | decide) only [u2e, u2n, up1_eq, up1_ne, ne_eq]; rw [hk, if_neg (by decide), Int32.add_zero]) (by simp (disch := first | omega | decide) only [u2e, u2n, up1_eq, up1_ne, ne_eq]; rw [hk, if_neg (by decide), Int32.add_zero]) (by
      simp (disch := first | omega | decide) only [u2e, u2n, up1_eq, up1_ne, ne_eq]
      rw [hk, if_pos rfl, ← hal]
      exact tank_sum _ _ _ _ _) (fun i e1 e2 e3 e4 e5 e6 => by simp (disch := first | omega | decide) only [u2e, u2n, up1_eq, up1_ne, ne_eq])
  obtain ⟨g2, M2, r1, r2, r3, r4, r5⟩ := send_y1 hR (w := g 5 v) (out := ov g v hd) (by
    rcases gate_v h hv with e | ⟨j, h1, h2, _⟩
    · exact Or.inl e
    · exact Or.inr ⟨j, h1, h2⟩)
  refine ⟨g2, M2, ?_, ?_, r3, ((FrG.w (by omega)).t (FrG.w (by omega))).t r4, (((((FrM.w (by unfold iNet; omega)).t (FrM.w (by unfold iNet; omega))).t (FrM.w (by unfold iNet; omega))).t (FrM.w (by unfold iNet; omega))).t (FrM.w (by unfold iNet; omega))).t r5⟩
  · unfold net_passTank_k1
    rw [nnT (by omega), hal]
    refine st_w (by simp (disch := first | omega | decide) only [lt1, nnMl, nnMr, nnAl, nnAr, nnA, nnM, nnB, nnT, nnP, nnE, nnEl, nnEr, nnL, nnLl, nnLr, nnQ, nnQr, nnN, Nat.add_zero, if_false, if_true, Option.bind_some, not_true, not_false_iff, not_true_eq_false, not_false_eq_true, eq_self, Nat.not_lt_zero, z10, z01, or_true, true_or, or_false, false_or, true_and, false_and, hv10]) (st_w (by simp (disch := first | omega | decide) only [lt1, nnMl, nnMr, nnAl, nnAr, nnA, nnM, nnB, nnT, nnP, nnE, nnEl, nnEr, nnL, nnLl, nnLr, nnQ, nnQr, nnN, Nat.add_zero, if_false, if_true, Option.bind_some, not_true, not_false_iff, not_true_eq_false, not_false_eq_true, eq_self, Nat.not_lt_zero, z10, z01, or_true, true_or, or_false, false_or, true_and, false_and, hv10]) ?_)
    rw [hhd]
    refine st_b (out_x h hv) (st_l (st_w (by simp (disch := first | omega | decide) only [lt1, nnMl, nnMr, nnAl, nnAr, nnA, nnM, nnB, nnT, nnP, nnE, nnEl, nnEr, nnL, nnLl, nnLr, nnQ, nnQr, nnN, Nat.add_zero, if_false, if_true, Option.bind_some, not_true, not_false_iff, not_true_eq_false, not_false_eq_true, eq_self, Nat.not_lt_zero, z10, z01, or_true, true_or, or_false, false_or, true_and, false_and, hv10]) (st_t (by simp (disch := first | omega | decide) only [lt1, nnMl, nnMr, nnAl, nnAr, nnA, nnM, nnB, nnT, nnP, nnE, nnEl, nnEr, nnL, nnLl, nnLr, nnQ, nnQr, nnN, Nat.add_zero, if_false, if_true, Option.bind_some, not_true, not_false_iff, not_true_eq_false, not_false_eq_true, eq_self, Nat.not_lt_zero, z10, z01, or_true, true_or, or_false, false_or, true_and, false_and, hv10]) (st_b (x := g2) ?_ rfl))))
    rw [u2n (by decide), u2n (by decide)]
    exact r1
  · have es : (if al ≤ g 4 v then m_steps_k1_159 (nn (140 + 5 * v)) al 0 (up2 M 216 19 (M 216 19 + x)) else (if inb (nn (140 + 5 * v + 1)) 20360 = true then m_steps_k1_159 (nn (140 + 5 * v)) al (al - g 4 v) (up2 M 216 19 (M 216 19 + x)) else none)) = m_steps_k1_159 (nn (140 + 5 * v)) al (al - hd) (up2 M 216 19 (M 216 19 + x)) := by
      rw [← hhd]
      by_cases q : g 4 v < al
      · rw [if_pos q]
        exact st_f (Int32.not_le.mpr q) (st_t (by simp (disch := first | omega | decide) only [lt1, nnMl, nnMr, nnAl, nnAr, nnA, nnM, nnB, nnT, nnP, nnE, nnEl, nnEr, nnL, nnLl, nnLr, nnQ, nnQr, nnN, Nat.add_zero, if_false, if_true, Option.bind_some, not_true, not_false_iff, not_true_eq_false, not_false_eq_true, eq_self, Nat.not_lt_zero, z10, z01, or_true, true_or, or_false, false_or, true_and, false_and, i1]) rfl)
      · rw [if_neg q, Int32.sub_self]
        exact st_t (Int32.not_lt.mp q) rfl
    unfold m_steps_k1_65
    rw [nnT (show 140 + 5 * v < 2147483648 by omega), hkM, e3, e1]
    refine st_t (by simp (disch := first | omega | decide) only [lt1, nnMl, nnMr, nnAl, nnAr, nnA, nnM, nnB, nnT, nnP, nnE, nnEl, nnEr, nnL, nnLl, nnLr, nnQ, nnQr, nnN, Nat.add_zero, if_false, if_true, Option.bind_some, not_true, not_false_iff, not_true_eq_false, not_false_eq_true, eq_self, Nat.not_lt_zero, z10, z01, or_true, true_or, or_false, false_or, true_and, false_and, i0]) (st_t (by decide) (st_t (by simp (disch := first | omega | decide) only [lt1, nnMl, nnMr, nnAl, nnAr, nnA, nnM, nnB, nnT, nnP, nnE, nnEl, nnEr, nnL, nnLl, nnLr, nnQ, nnQr, nnN, Nat.add_zero, if_false, if_true, Option.bind_some, not_true, not_false_iff, not_true_eq_false, not_false_eq_true, eq_self, Nat.not_lt_zero, z10, z01, or_true, true_or, or_false, false_or, true_and, false_and, i0]) (st_f (by decide) (st_b (st_l rfl) (st_w (by simp (disch := first | omega | decide) only [lt1, nnMl, nnMr, nnAl, nnAr, nnA, nnM, nnB, nnT, nnP, nnE, nnEl, nnEr, nnL, nnLl, nnLr, nnQ, nnQr, nnN, Nat.add_zero, if_false, if_true, Option.bind_some, not_true, not_false_iff, not_true_eq_false, not_false_eq_true, eq_self, Nat.not_lt_zero, z10, z01, or_true, true_or, or_false, false_or, true_and, false_and, i3]) (st_t (by simp (disch := first | omega | decide) only [lt1, nnMl, nnMr, nnAl, nnAr, nnA, nnM, nnB, nnT, nnP, nnE, nnEl, nnEr, nnL, nnLl, nnLr, nnQ, nnQr, nnN, Nat.add_zero, if_false, if_true, Option.bind_some, not_true, not_false_iff, not_true_eq_false, not_false_eq_true, eq_self, Nat.not_lt_zero, z10, z01, or_true, true_or, or_false, false_or, true_and, false_and, i1]) ?_))))))
    rw [nnT (show 140 + 5 * v + 4 < 2147483648 by omega), nnT (show 140 + 5 * v + 1 < 2147483648 by omega), u2e, up1_ne (show 140 + 5 * v + 4 ≠ 19 by omega), up1_ne (show 140 + 5 * v + 1 ≠ 19 by omega), h.kep1 v hv10, h.size v hv10, Int32.add_comm x, hal, es]
    unfold m_steps_k1_159 m_adds_k1_4 m_adds_k1_2
    refine st_b (st_l rfl) (st_b (st_l rfl) (st_l ?_))
    rw [hov, m184w_1 (g := g) (v := v) h hv (by simp (disch := first | omega | decide) only [u2e, u2n, up1_eq, up1_ne, ne_eq]; exact h.gate v hv10) (fun j hj => by simp (disch := first | omega | decide) only [u2e, u2n, up1_eq, up1_ne, ne_eq]; exact h.brd j hj)]
    unfold m_steps_k1_227 m_adds_k1_2
    rw [nnT (show 140 + 5 * v < 2147483648 by omega), e3, nnT (show 140 + 5 * v + 4 < 2147483648 by omega)]
    refine st_t (by simp (disch := first | omega | decide) only [lt1, nnMl, nnMr, nnAl, nnAr, nnA, nnM, nnB, nnT, nnP, nnE, nnEl, nnEr, nnL, nnLl, nnLr, nnQ, nnQr, nnN, Nat.add_zero, if_false, if_true, Option.bind_some, not_true, not_false_iff, not_true_eq_false, not_false_eq_true, eq_self, Nat.not_lt_zero, z10, z01, or_true, true_or, or_false, false_or, true_and, false_and, i0]) (st_f (by simp (disch := first | omega | decide) only [u2e, u2n, up1_eq, up1_ne, ne_eq]; rw [hkM]; decide) (st_b (st_l rfl) (st_w (by simp (disch := first | omega | decide) only [lt1, nnMl, nnMr, nnAl, nnAr, nnA, nnM, nnB, nnT, nnP, nnE, nnEl, nnEr, nnL, nnLl, nnLr, nnQ, nnQr, nnN, Nat.add_zero, if_false, if_true, Option.bind_some, not_true, not_false_iff, not_true_eq_false, not_false_eq_true, eq_self, Nat.not_lt_zero, z10, z01, or_true, true_or, or_false, false_or, true_and, false_and, i3]) ?_)))
    rw [m279_1 hv10 (k := 2) (by simp (disch := first | omega | decide) only [u2e, u2n, up1_eq, up1_ne, ne_eq]; exact hkM) (by decide)]
    simp (disch := first | omega | decide) only [u2e, u2n, up1_eq, up1_ne, ne_eq]
    exact r2
end WE
end
section
/-! a quarter -/
section WF
variable {N C Q : Nat}
theorem node_y0 {g M : Sg} {v : Nat} (h0 : RNet g (M 216) N C Q) (hv : v < N) {F G : Nat} (hF : 14 < F) (hG : 14 < G) : ∃ g2 M2, net_passNode_k0 F (nn v) g = some g2 ∧ m_steps_k0 G (nn v) M = some M2 ∧ RNet g2 (M2 216) N C Q ∧ FrG g g2 ∧ FrM M M2 := by
  have hC := h0.hC
  have hN := h0.hN
  have hv10 : v < 10 := by omega
  obtain ⟨x, f2, a2, p1, p2, p3, p4, p5, p6, p7⟩ := arr_y0 h0 (v := v) C 0 F G 0 (g 17) (M 216) (by omega) (by omega) (by omega) (fun _ _ _ => rfl) rfl h0.way0
  rw [sc_s] at p1 p2
  have h : RNet (sc g 17 f2) ((sc M 216 a2) 216) N C Q := by
    rw [sc_e]
    exact h0.arr0 (x := x) (fun i e1 e2 e3 => sc_n e3) (fun i hi => by rw [sc_e]; exact p5 i hi) (fun i e => by rw [sc_e]; exact p6 i e) (by rw [sc_e, p7, Int32.add_zero]) p4 (fun j _ e2 e3 => p3 j e2 e3)
  have f1 : FrG g (sc g 17 f2) := fun i e1 e2 e3 e4 e5 e6 e7 => sc_n (by omega)
  have f2' : FrM M (sc M 216 a2) := ⟨fun i e => sc_n e, fun j e => by rw [sc_e]; exact p3 j (by unfold iNet at e; omega) (by unfold iNet at e; omega)⟩
  have i0 : 140 + 5 * v < 20360 := by omega
  have i1 : 140 + 5 * v + 1 < 20360 := by omega
  have i3 : 140 + 5 * v + 3 < 20360 := by omega
  have e0 : 140 + 5 * nn v = nn (140 + 5 * v) := by simp (disch := first | omega | decide) only [lt1, nnMl, nnMr, nnAl, nnAr, nnA, nnM, nnB, nnT, nnP, nnE, nnEl, nnEr, nnL, nnLl, nnLr, nnQ, nnQr, nnN, Nat.add_zero, if_false, if_true, Option.bind_some, not_true, not_false_iff, not_true_eq_false, not_false_eq_true, eq_self, Nat.not_lt_zero, z10, z01, or_true, true_or, or_false, false_or, true_and, false_and]
  have e1 : nn (140 + 5 * v) + 1 = nn (140 + 5 * v + 1) := nnA _ 1
  have e3 : nn (140 + 5 * v) + 3 + 0 = nn (140 + 5 * v + 3) := by simp (disch := first | omega | decide) only [lt1, nnMl, nnMr, nnAl, nnAr, nnA, nnM, nnB, nnT, nnP, nnE, nnEl, nnEr, nnL, nnLl, nnLr, nnQ, nnQr, nnN, Nat.add_zero, if_false, if_true, Option.bind_some, not_true, not_false_iff, not_true_eq_false, not_false_eq_true, eq_self, Nat.not_lt_zero, z10, z01, or_true, true_or, or_false, false_or, true_and, false_and]
  generalize sc g 17 f2 = g1 at *
  generalize sc M 216 a2 = M1 at *
  obtain ⟨k, k4, hk⟩ := h.kindV v hv
  have hkM : M1 216 (140 + 5 * v) = nn k := (h.kind v hv10).trans hk
  have hsz : M1 216 (140 + 5 * v + 1) = g1 4 v := h.size v hv10
  have hkp : M1 216 (140 + 5 * v + 3) = g1 7 v := h.kep0 v hv10
  -- the model behind the arrivals
  have mm : ∀ r, (if ¬ nn k = 0 then m_steps_k0_65 (nn (140 + 5 * v)) x M1 else m_steps_k0_65 (nn (140 + 5 * v)) (x + g1 4 v) (up2 (up2 M1 216 10 (M1 216 10 + g1 4 v)) 216 (140 + 5 * v + 3) (g1 7 v + g1 4 v))) = r → m_steps_k0 G (nn v) M = r := fun r hr => by
    unfold m_steps_k0 m_adds_k0_0
    rw [e0]
    refine st_l (st_b (o := m_comes_k0 G (nn v) M) (x := (x, M1)) p2 (st_t (by simp (disch := first | omega | decide) only [lt1, nnMl, nnMr, nnAl, nnAr, nnA, nnM, nnB, nnT, nnP, nnE, nnEl, nnEr, nnL, nnLl, nnLr, nnQ, nnQr, nnN, Nat.add_zero, if_false, if_true, Option.bind_some, not_true, not_false_iff, not_true_eq_false, not_false_eq_true, eq_self, Nat.not_lt_zero, z10, z01, or_true, true_or, or_false, false_or, true_and, false_and, i0]) ?_))
    rw [e1, e3, nnT (show 140 + 5 * v < 2147483648 by omega), nnT (show 140 + 5 * v + 1 < 2147483648 by omega), nnT (show 140 + 5 * v + 3 < 2147483648 by omega), hkM, hsz, ← hr]
    by_cases q : nn k = 0
    · refine Eq.trans ?_ (if_neg (fun e => e q)).symm
      refine st_f (fun e => e q) ?_
      refine st_t (by simp (disch := first | omega | decide) only [lt1, nnMl, nnMr, nnAl, nnAr, nnA, nnM, nnB, nnT, nnP, nnE, nnEl, nnEr, nnL, nnLl, nnLr, nnQ, nnQr, nnN, Nat.add_zero, if_false, if_true, Option.bind_some, not_true, not_false_iff, not_true_eq_false, not_false_eq_true, eq_self, Nat.not_lt_zero, z10, z01, or_true, true_or, or_false, false_or, true_and, false_and, i1]) (st_b (st_l rfl) (st_l (st_t (by simp (disch := first | omega | decide) only [lt1, nnMl, nnMr, nnAl, nnAr, nnA, nnM, nnB, nnT, nnP, nnE, nnEl, nnEr, nnL, nnLl, nnLr, nnQ, nnQr, nnN, Nat.add_zero, if_false, if_true, Option.bind_some, not_true, not_false_iff, not_true_eq_false, not_false_eq_true, eq_self, Nat.not_lt_zero, z10, z01, or_true, true_or, or_false, false_or, true_and, false_and, i3]) (st_t (by simp (disch := first | omega | decide) only [lt1, nnMl, nnMr, nnAl, nnAr, nnA, nnM, nnB, nnT, nnP, nnE, nnEl, nnEr, nnL, nnLl, nnLr, nnQ, nnQr, nnN, Nat.add_zero, if_false, if_true, Option.bind_some, not_true, not_false_iff, not_true_eq_false, not_false_eq_true, eq_self, Nat.not_lt_zero, z10, z01, or_true, true_or, or_false, false_or, true_and, false_and, i1]) (st_w (by simp (disch := first | omega | decide) only [lt1, nnMl, nnMr, nnAl, nnAr, nnA, nnM, nnB, nnT, nnP, nnE, nnEl, nnEr, nnL, nnLl, nnLr, nnQ, nnQr, nnN, Nat.add_zero, if_false, if_true, Option.bind_some, not_true, not_false_iff, not_true_eq_false, not_false_eq_true, eq_self, Nat.not_lt_zero, z10, z01, or_true, true_or, or_false, false_or, true_and, false_and, i3]) ?_)))))
      rw [u2e, up1_ne (show 140 + 5 * v + 3 ≠ 10 by omega), up1_ne (show 140 + 5 * v + 1 ≠ 10 by omega), hkp, hsz]
    · rw [if_pos q, if_pos q]
  have xx : ∀ r, (if nn k = 0 then Option.bind (net_passOn_k0 (nn v) (x + g1 4 v) (up2 g1 7 v (g1 7 v + g1 4 v))) (fun g5 => some g5) else if nn k = 1 then Option.bind (net_passOn_k0 (nn v) x g1) (fun g5 => some g5) else if nn k = 2 then Option.bind (net_passTank_k0 (nn v) x g1) (fun g5 => some g5) else if nn k = 3 then Option.bind (net_passOn_k0 (nn v) x (up2 g1 7 v (g1 7 v + ov g1 v x * g1 4 v / 100))) (fun g5 => some g5) else if nn k = 4 then some (up2 g1 7 v (g1 7 v + x)) else Option.bind (net_passOn_k0 (nn v) x g1) (fun g5 => some g5)) = r → net_passNode_k0 F (nn v) g = r := fun r hr => by
    have hi : inb (nn v) 10 = true := by simp (disch := first | omega | decide) only [lt1, nnMl, nnMr, nnAl, nnAr, nnA, nnM, nnB, nnT, nnP, nnE, nnEl, nnEr, nnL, nnLl, nnLr, nnQ, nnQr, nnN, Nat.add_zero, if_false, if_true, Option.bind_some, not_true, not_false_iff, not_true_eq_false, not_false_eq_true, eq_self, Nat.not_lt_zero, z10, z01, or_true, true_or, or_false, false_or, true_and, false_and, hv10]
    unfold net_passNode_k0
    refine st_b (o := net_takeArrivals_k0 F (nn v) g) (x := (x, g1)) p1 (st_t hi (st_l ?_))
    rw [nnT (show v < 2147483648 by omega), hk, ← hr]
    by_cases q0 : nn k = 0
    · rw [if_pos q0, if_pos q0]
      refine st_t hi (st_t hi (st_w hi (st_t hi ?_)))
      rw [u2n (show 4 ≠ 7 by decide)]
    rw [if_neg q0, if_neg q0]
    by_cases q1 : nn k = 1
    · rw [if_pos q1, if_pos q1]
    rw [if_neg q1, if_neg q1]
    by_cases q2 : nn k = 2
    · rw [if_pos q2, if_pos q2]
    rw [if_neg q2, if_neg q2]
    by_cases q3 : nn k = 3
    · rw [if_pos q3, if_pos q3]
      exact st_t hi (st_b (out_x h hv) (st_t hi (st_w hi rfl)))
    rw [if_neg q3, if_neg q3]
    by_cases q4 : nn k = 4
    · rw [if_pos q4, if_pos q4]
      exact st_t hi (st_w hi rfl)
    rw [if_neg q4, if_neg q4]
  have c5 : k = 0 ∨ k = 1 ∨ k = 2 ∨ k = 3 ∨ k = 4 := by omega
  rcases c5 with rfl | rfl | rfl | rfl | rfl
  · have hR : RNet (up2 g1 7 v (g1 7 v + g1 4 v)) ((up2 (up2 M1 216 10 (M1 216 10 + g1 4 v)) 216 (140 + 5 * v + 3) (g1 7 v + g1 4 v)) 216) N C Q := h.node0 hv (k2 := g1 7 v + g1 4 v) (sp := 0) (fun i e1 e2 e3 e4 => by simp (disch := first | omega | decide) only [u2e, u2n, up1_eq, up1_ne, ne_eq]) (fun n hn => by
        rw [u2e]
        by_cases e : n = v
        · rw [if_pos e, e, up1_eq]
        · rw [if_neg e, up1_ne e]) (by simp (disch := first | omega | decide) only [u2e, u2n, up1_eq, up1_ne, ne_eq, Int32.add_zero]) (by simp (disch := first | omega | decide) only [u2e, u2n, up1_eq, up1_ne, ne_eq]) (by simp (disch := first | omega | decide) only [u2e, u2n, up1_eq, up1_ne, ne_eq]) (by simp (disch := first | omega | decide) only [u2e, u2n, up1_eq, up1_ne, ne_eq, Int32.add_zero]) (by simp (disch := first | omega | decide) only [u2e, u2n, up1_eq, up1_ne, ne_eq]; rw [hk, if_pos (show nn 0 = 0 from rfl), Int32.add_comm (g1 7 v), Int32.add_sub_cancel]) (by simp (disch := first | omega | decide) only [u2e, u2n, up1_eq, up1_ne, ne_eq]; rw [hk, if_neg (by decide), Int32.add_zero]) (by simp (disch := first | omega | decide) only [u2e, u2n, up1_eq, up1_ne, ne_eq]; rw [hk, if_neg (by decide), Int32.add_zero]) (fun i e1 e2 e3 e4 e5 e6 => by simp (disch := first | omega | decide) only [u2e, u2n, up1_eq, up1_ne, ne_eq])
    obtain ⟨g2, M2, r1, r2, r3, r4, r5⟩ := pass_y0 hR hv (x := x + g1 4 v) (k := nn 0) (by simp (disch := first | omega | decide) only [u2e, u2n, up1_eq, up1_ne, ne_eq]; exact hk) (by decide) (by decide)
    refine ⟨g2, M2, xx _ ((if_pos rfl).trans (st_b r1 rfl)), mm _ ((if_neg (fun e => e rfl)).trans ?_), r3, (f1.t (FrG.w (by omega))).t r4, ((f2'.t (FrM.w (by unfold iNet; omega))).t (FrM.w (by unfold iNet; omega))).t r5⟩
    rw [m65_0 (k := nn 0) hv10 (by simp (disch := first | omega | decide) only [u2e, u2n, up1_eq, up1_ne, ne_eq]; exact hkM) (by decide) (by decide)]
    exact r2
  · obtain ⟨g2, M2, r1, r2, r3, r4, r5⟩ := pass_y0 h hv (x := x) (k := nn 1) hk (by decide) (by decide)
    refine ⟨g2, M2, xx _ ((if_neg (by decide)).trans ((if_pos rfl).trans (st_b r1 rfl))), mm _ ((if_pos (by decide)).trans ?_), r3, f1.t r4, f2'.t r5⟩
    rw [m65_0 (k := nn 1) hv10 hkM (by decide) (by decide)]
    exact r2
  · obtain ⟨g2, M2, r1, r2, r3, r4, r5⟩ := tank_y0 h hv (x := x) hk
    exact ⟨g2, M2, xx _ ((if_neg (by decide)).trans ((if_neg (by decide)).trans ((if_pos rfl).trans (st_b r1 rfl)))), mm _ ((if_pos (by decide)).trans r2), r3, f1.t r4, f2'.t r5⟩
  · obtain ⟨g2, M2, r1, r2, r3, r4, r5⟩ := wheel_y0 h hv (x := x) hk
    refine ⟨g2, M2, xx _ ((if_neg (by decide)).trans ((if_neg (by decide)).trans ((if_neg (by decide)).trans ((if_pos rfl).trans (st_b r1 rfl))))), mm _ ((if_pos (by decide)).trans ?_), r3, f1.t r4, f2'.t r5⟩
    rw [m65_0 (k := nn 3) hv10 hkM (by decide) (by decide)]
    exact r2
  · have hR : RNet (up2 g1 7 v (g1 7 v + x)) ((up2 (up2 M1 216 11 (M1 216 11 + x)) 216 (140 + 5 * v + 3) (g1 7 v + x)) 216) N C Q := h.node0 hv (k2 := g1 7 v + x) (sp := 0) (fun i e1 e2 e3 e4 => by simp (disch := first | omega | decide) only [u2e, u2n, up1_eq, up1_ne, ne_eq]) (fun n hn => by
        rw [u2e]
        by_cases e : n = v
        · rw [if_pos e, e, up1_eq]
        · rw [if_neg e, up1_ne e]) (by simp (disch := first | omega | decide) only [u2e, u2n, up1_eq, up1_ne, ne_eq, Int32.add_zero]) (by simp (disch := first | omega | decide) only [u2e, u2n, up1_eq, up1_ne, ne_eq]) (by simp (disch := first | omega | decide) only [u2e, u2n, up1_eq, up1_ne, ne_eq]) (by simp (disch := first | omega | decide) only [u2e, u2n, up1_eq, up1_ne, ne_eq, Int32.add_zero]) (by simp (disch := first | omega | decide) only [u2e, u2n, up1_eq, up1_ne, ne_eq]; rw [hk, if_neg (by decide), Int32.add_zero]) (by simp (disch := first | omega | decide) only [u2e, u2n, up1_eq, up1_ne, ne_eq]; rw [hk, if_pos (show nn 4 = 4 from rfl), Int32.add_comm (g1 7 v), Int32.add_sub_cancel]) (by simp (disch := first | omega | decide) only [u2e, u2n, up1_eq, up1_ne, ne_eq]; rw [hk, if_neg (by decide), Int32.add_zero]) (fun i e1 e2 e3 e4 e5 e6 => by simp (disch := first | omega | decide) only [u2e, u2n, up1_eq, up1_ne, ne_eq])
    refine ⟨_, _, xx _ ((if_neg (by decide)).trans ((if_neg (by decide)).trans ((if_neg (by decide)).trans ((if_neg (by decide)).trans (if_pos rfl))))), mm _ ((if_pos (by decide)).trans ?_), hR, f1.t (FrG.w (by omega)), (f2'.t (FrM.w (by unfold iNet; omega))).t (FrM.w (by unfold iNet; omega))⟩
    unfold m_steps_k0_65 m_adds_k0_1
    rw [e3, nnT (show 140 + 5 * v < 2147483648 by omega), nnT (show 140 + 5 * v + 3 < 2147483648 by omega), hkM, hkp]
    exact st_t (by simp (disch := first | omega | decide) only [lt1, nnMl, nnMr, nnAl, nnAr, nnA, nnM, nnB, nnT, nnP, nnE, nnEl, nnEr, nnL, nnLl, nnLr, nnQ, nnQr, nnN, Nat.add_zero, if_false, if_true, Option.bind_some, not_true, not_false_iff, not_true_eq_false, not_false_eq_true, eq_self, Nat.not_lt_zero, z10, z01, or_true, true_or, or_false, false_or, true_and, false_and, i0]) (st_f (by decide) (st_t (by simp (disch := first | omega | decide) only [lt1, nnMl, nnMr, nnAl, nnAr, nnA, nnM, nnB, nnT, nnP, nnE, nnEl, nnEr, nnL, nnLl, nnLr, nnQ, nnQr, nnN, Nat.add_zero, if_false, if_true, Option.bind_some, not_true, not_false_iff, not_true_eq_false, not_false_eq_true, eq_self, Nat.not_lt_zero, z10, z01, or_true, true_or, or_false, false_or, true_and, false_and, i3]) (st_b (st_l rfl) (st_w (by simp (disch := first | omega | decide) only [lt1, nnMl, nnMr, nnAl, nnAr, nnA, nnM, nnB, nnT, nnP, nnE, nnEl, nnEr, nnL, nnLl, nnLr, nnQ, nnQr, nnN, Nat.add_zero, if_false, if_true, Option.bind_some, not_true, not_false_iff, not_true_eq_false, not_false_eq_true, eq_self, Nat.not_lt_zero, z10, z01, or_true, true_or, or_false, false_or, true_and, false_and, i3]) rfl))))
theorem node_y1 {g M : Sg} {v : Nat} (h0 : RNet g (M 216) N C Q) (hv : v < N) {F G : Nat} (hF : 14 < F) (hG : 14 < G) : ∃ g2 M2, net_passNode_k1 F (nn v) g = some g2 ∧ m_steps_k1 G (nn v) M = some M2 ∧ RNet g2 (M2 216) N C Q ∧ FrG g g2 ∧ FrM M M2 := by
  have hC := h0.hC
  have hN := h0.hN
  have hv10 : v < 10 := by omega
  obtain ⟨x, f2, a2, p1, p2, p3, p4, p5, p6, p7⟩ := arr_y1 h0 (v := v) C 0 F G 0 (g 18) (M 216) (by omega) (by omega) (by omega) (fun _ _ _ => rfl) rfl h0.way1
  rw [sc_s] at p1 p2
  have h : RNet (sc g 18 f2) ((sc M 216 a2) 216) N C Q := by
    rw [sc_e]
    exact h0.arr1 (x := x) (fun i e1 e2 e3 => sc_n e3) (fun i hi => by rw [sc_e]; exact p5 i hi) (fun i e => by rw [sc_e]; exact p6 i e) (by rw [sc_e, p7, Int32.add_zero]) p4 (fun j _ e2 e3 => p3 j e2 e3)
  have f1 : FrG g (sc g 18 f2) := fun i e1 e2 e3 e4 e5 e6 e7 => sc_n (by omega)
  have f2' : FrM M (sc M 216 a2) := ⟨fun i e => sc_n e, fun j e => by rw [sc_e]; exact p3 j (by unfold iNet at e; omega) (by unfold iNet at e; omega)⟩
  have i0 : 140 + 5 * v < 20360 := by omega
  have i1 : 140 + 5 * v + 1 < 20360 := by omega
  have i3 : 140 + 5 * v + 4 < 20360 := by omega
  have e0 : 140 + 5 * nn v = nn (140 + 5 * v) := by simp (disch := first | omega | decide) only [lt1, nnMl, nnMr, nnAl, nnAr, nnA, nnM, nnB, nnT, nnP, nnE, nnEl, nnEr, nnL, nnLl, nnLr, nnQ, nnQr, nnN, Nat.add_zero, if_false, if_true, Option.bind_some, not_true, not_false_iff, not_true_eq_false, not_false_eq_true, eq_self, Nat.not_lt_zero, z10, z01, or_true, true_or, or_false, false_or, true_and, false_and]
  have e1 : nn (140 + 5 * v) + 1 = nn (140 + 5 * v + 1) := nnA _ 1
  have e3 : nn (140 + 5 * v) + 3 + 1 = nn (140 + 5 * v + 4) := by simp (disch := first | omega | decide) only [lt1, nnMl, nnMr, nnAl, nnAr, nnA, nnM, nnB, nnT, nnP, nnE, nnEl, nnEr, nnL, nnLl, nnLr, nnQ, nnQr, nnN, Nat.add_zero, if_false, if_true, Option.bind_some, not_true, not_false_iff, not_true_eq_false, not_false_eq_true, eq_self, Nat.not_lt_zero, z10, z01, or_true, true_or, or_false, false_or, true_and, false_and]
  generalize sc g 18 f2 = g1 at *
  generalize sc M 216 a2 = M1 at *
  obtain ⟨k, k4, hk⟩ := h.kindV v hv
  have hkM : M1 216 (140 + 5 * v) = nn k := (h.kind v hv10).trans hk
  have hsz : M1 216 (140 + 5 * v + 1) = g1 4 v := h.size v hv10
  have hkp : M1 216 (140 + 5 * v + 4) = g1 8 v := h.kep1 v hv10
  -- the model behind the arrivals
  have mm : ∀ r, (if ¬ nn k = 0 then m_steps_k1_65 (nn (140 + 5 * v)) x M1 else m_steps_k1_65 (nn (140 + 5 * v)) (x + g1 4 v) (up2 (up2 M1 216 17 (M1 216 17 + g1 4 v)) 216 (140 + 5 * v + 4) (g1 8 v + g1 4 v))) = r → m_steps_k1 G (nn v) M = r := fun r hr => by
    unfold m_steps_k1 m_adds_k1_0
    rw [e0]
    refine st_l (st_b (o := m_comes_k1 G (nn v) M) (x := (x, M1)) p2 (st_t (by simp (disch := first | omega | decide) only [lt1, nnMl, nnMr, nnAl, nnAr, nnA, nnM, nnB, nnT, nnP, nnE, nnEl, nnEr, nnL, nnLl, nnLr, nnQ, nnQr, nnN, Nat.add_zero, if_false, if_true, Option.bind_some, not_true, not_false_iff, not_true_eq_false, not_false_eq_true, eq_self, Nat.not_lt_zero, z10, z01, or_true, true_or, or_false, false_or, true_and, false_and, i0]) ?_))
    rw [e1, e3, nnT (show 140 + 5 * v < 2147483648 by omega), nnT (show 140 + 5 * v + 1 < 2147483648 by omega), nnT (show 140 + 5 * v + 4 < 2147483648 by omega), hkM, hsz, ← hr]
    by_cases q : nn k = 0
    · refine Eq.trans ?_ (if_neg (fun e => e q)).symm
      refine st_f (fun e => e q) ?_
      refine st_t (by simp (disch := first | omega | decide) only [lt1, nnMl, nnMr, nnAl, nnAr, nnA, nnM, nnB, nnT, nnP, nnE, nnEl, nnEr, nnL, nnLl, nnLr, nnQ, nnQr, nnN, Nat.add_zero, if_false, if_true, Option.bind_some, not_true, not_false_iff, not_true_eq_false, not_false_eq_true, eq_self, Nat.not_lt_zero, z10, z01, or_true, true_or, or_false, false_or, true_and, false_and, i1]) (st_b (st_l rfl) (st_l (st_t (by simp (disch := first | omega | decide) only [lt1, nnMl, nnMr, nnAl, nnAr, nnA, nnM, nnB, nnT, nnP, nnE, nnEl, nnEr, nnL, nnLl, nnLr, nnQ, nnQr, nnN, Nat.add_zero, if_false, if_true, Option.bind_some, not_true, not_false_iff, not_true_eq_false, not_false_eq_true, eq_self, Nat.not_lt_zero, z10, z01, or_true, true_or, or_false, false_or, true_and, false_and, i3]) (st_t (by simp (disch := first | omega | decide) only [lt1, nnMl, nnMr, nnAl, nnAr, nnA, nnM, nnB, nnT, nnP, nnE, nnEl, nnEr, nnL, nnLl, nnLr, nnQ, nnQr, nnN, Nat.add_zero, if_false, if_true, Option.bind_some, not_true, not_false_iff, not_true_eq_false, not_false_eq_true, eq_self, Nat.not_lt_zero, z10, z01, or_true, true_or, or_false, false_or, true_and, false_and, i1]) (st_w (by simp (disch := first | omega | decide) only [lt1, nnMl, nnMr, nnAl, nnAr, nnA, nnM, nnB, nnT, nnP, nnE, nnEl, nnEr, nnL, nnLl, nnLr, nnQ, nnQr, nnN, Nat.add_zero, if_false, if_true, Option.bind_some, not_true, not_false_iff, not_true_eq_false, not_false_eq_true, eq_self, Nat.not_lt_zero, z10, z01, or_true, true_or, or_false, false_or, true_and, false_and, i3]) ?_)))))
      rw [u2e, up1_ne (show 140 + 5 * v + 4 ≠ 17 by omega), up1_ne (show 140 + 5 * v + 1 ≠ 17 by omega), hkp, hsz]
    · rw [if_pos q, if_pos q]
  have xx : ∀ r, (if nn k = 0 then Option.bind (net_passOn_k1 (nn v) (x + g1 4 v) (up2 g1 8 v (g1 8 v + g1 4 v))) (fun g5 => some g5) else if nn k = 1 then Option.bind (net_passOn_k1 (nn v) x g1) (fun g5 => some g5) else if nn k = 2 then Option.bind (net_passTank_k1 (nn v) x g1) (fun g5 => some g5) else if nn k = 3 then Option.bind (net_passOn_k1 (nn v) x (up2 g1 8 v (g1 8 v + ov g1 v x * g1 4 v / 100))) (fun g5 => some g5) else if nn k = 4 then some (up2 g1 8 v (g1 8 v + x)) else Option.bind (net_passOn_k1 (nn v) x g1) (fun g5 => some g5)) = r → net_passNode_k1 F (nn v) g = r := fun r hr => by
    have hi : inb (nn v) 10 = true := by simp (disch := first | omega | decide) only [lt1, nnMl, nnMr, nnAl, nnAr, nnA, nnM, nnB, nnT, nnP, nnE, nnEl, nnEr, nnL, nnLl, nnLr, nnQ, nnQr, nnN, Nat.add_zero, if_false, if_true, Option.bind_some, not_true, not_false_iff, not_true_eq_false, not_false_eq_true, eq_self, Nat.not_lt_zero, z10, z01, or_true, true_or, or_false, false_or, true_and, false_and, hv10]
    unfold net_passNode_k1
    refine st_b (o := net_takeArrivals_k1 F (nn v) g) (x := (x, g1)) p1 (st_t hi (st_l ?_))
    rw [nnT (show v < 2147483648 by omega), hk, ← hr]
    by_cases q0 : nn k = 0
    · rw [if_pos q0, if_pos q0]
      refine st_t hi (st_t hi (st_w hi (st_t hi ?_)))
      rw [u2n (show 4 ≠ 8 by decide)]
    rw [if_neg q0, if_neg q0]
    by_cases q1 : nn k = 1
    · rw [if_pos q1, if_pos q1]
    rw [if_neg q1, if_neg q1]
    by_cases q2 : nn k = 2
    · rw [if_pos q2, if_pos q2]
    rw [if_neg q2, if_neg q2]
    by_cases q3 : nn k = 3
    · rw [if_pos q3, if_pos q3]
      exact st_t hi (st_b (out_x h hv) (st_t hi (st_w hi rfl)))
    rw [if_neg q3, if_neg q3]
    by_cases q4 : nn k = 4
    · rw [if_pos q4, if_pos q4]
      exact st_t hi (st_w hi rfl)
    rw [if_neg q4, if_neg q4]
  have c5 : k = 0 ∨ k = 1 ∨ k = 2 ∨ k = 3 ∨ k = 4 := by omega
  rcases c5 with rfl | rfl | rfl | rfl | rfl
  · have hR : RNet (up2 g1 8 v (g1 8 v + g1 4 v)) ((up2 (up2 M1 216 17 (M1 216 17 + g1 4 v)) 216 (140 + 5 * v + 4) (g1 8 v + g1 4 v)) 216) N C Q := h.node1 hv (k2 := g1 8 v + g1 4 v) (sp := 0) (fun i e1 e2 e3 e4 => by simp (disch := first | omega | decide) only [u2e, u2n, up1_eq, up1_ne, ne_eq]) (fun n hn => by
        rw [u2e]
        by_cases e : n = v
        · rw [if_pos e, e, up1_eq]
        · rw [if_neg e, up1_ne e]) (by simp (disch := first | omega | decide) only [u2e, u2n, up1_eq, up1_ne, ne_eq, Int32.add_zero]) (by simp (disch := first | omega | decide) only [u2e, u2n, up1_eq, up1_ne, ne_eq]) (by simp (disch := first | omega | decide) only [u2e, u2n, up1_eq, up1_ne, ne_eq]) (by simp (disch := first | omega | decide) only [u2e, u2n, up1_eq, up1_ne, ne_eq, Int32.add_zero]) (by simp (disch := first | omega | decide) only [u2e, u2n, up1_eq, up1_ne, ne_eq]; rw [hk, if_pos (show nn 0 = 0 from rfl), Int32.add_comm (g1 8 v), Int32.add_sub_cancel]) (by simp (disch := first | omega | decide) only [u2e, u2n, up1_eq, up1_ne, ne_eq]; rw [hk, if_neg (by decide), Int32.add_zero]) (by simp (disch := first | omega | decide) only [u2e, u2n, up1_eq, up1_ne, ne_eq]; rw [hk, if_neg (by decide), Int32.add_zero]) (fun i e1 e2 e3 e4 e5 e6 => by simp (disch := first | omega | decide) only [u2e, u2n, up1_eq, up1_ne, ne_eq])
    obtain ⟨g2, M2, r1, r2, r3, r4, r5⟩ := pass_y1 hR hv (x := x + g1 4 v) (k := nn 0) (by simp (disch := first | omega | decide) only [u2e, u2n, up1_eq, up1_ne, ne_eq]; exact hk) (by decide) (by decide)
    refine ⟨g2, M2, xx _ ((if_pos rfl).trans (st_b r1 rfl)), mm _ ((if_neg (fun e => e rfl)).trans ?_), r3, (f1.t (FrG.w (by omega))).t r4, ((f2'.t (FrM.w (by unfold iNet; omega))).t (FrM.w (by unfold iNet; omega))).t r5⟩
    rw [m65_1 (k := nn 0) hv10 (by simp (disch := first | omega | decide) only [u2e, u2n, up1_eq, up1_ne, ne_eq]; exact hkM) (by decide) (by decide)]
    exact r2
  · obtain ⟨g2, M2, r1, r2, r3, r4, r5⟩ := pass_y1 h hv (x := x) (k := nn 1) hk (by decide) (by decide)
    refine ⟨g2, M2, xx _ ((if_neg (by decide)).trans ((if_pos rfl).trans (st_b r1 rfl))), mm _ ((if_pos (by decide)).trans ?_), r3, f1.t r4, f2'.t r5⟩
    rw [m65_1 (k := nn 1) hv10 hkM (by decide) (by decide)]
    exact r2
  · obtain ⟨g2, M2, r1, r2, r3, r4, r5⟩ := tank_y1 h hv (x := x) hk
    exact ⟨g2, M2, xx _ ((if_neg (by decide)).trans ((if_neg (by decide)).trans ((if_pos rfl).trans (st_b r1 rfl)))), mm _ ((if_pos (by decide)).trans r2), r3, f1.t r4, f2'.t r5⟩
  · obtain ⟨g2, M2, r1, r2, r3, r4, r5⟩ := wheel_y1 h hv (x := x) hk
    refine ⟨g2, M2, xx _ ((if_neg (by decide)).trans ((if_neg (by decide)).trans ((if_neg (by decide)).trans ((if_pos rfl).trans (st_b r1 rfl))))), mm _ ((if_pos (by decide)).trans ?_), r3, f1.t r4, f2'.t r5⟩
    rw [m65_1 (k := nn 3) hv10 hkM (by decide) (by decide)]
    exact r2
  · have hR : RNet (up2 g1 8 v (g1 8 v + x)) ((up2 (up2 M1 216 18 (M1 216 18 + x)) 216 (140 + 5 * v + 4) (g1 8 v + x)) 216) N C Q := h.node1 hv (k2 := g1 8 v + x) (sp := 0) (fun i e1 e2 e3 e4 => by simp (disch := first | omega | decide) only [u2e, u2n, up1_eq, up1_ne, ne_eq]) (fun n hn => by
        rw [u2e]
        by_cases e : n = v
        · rw [if_pos e, e, up1_eq]
        · rw [if_neg e, up1_ne e]) (by simp (disch := first | omega | decide) only [u2e, u2n, up1_eq, up1_ne, ne_eq, Int32.add_zero]) (by simp (disch := first | omega | decide) only [u2e, u2n, up1_eq, up1_ne, ne_eq]) (by simp (disch := first | omega | decide) only [u2e, u2n, up1_eq, up1_ne, ne_eq]) (by simp (disch := first | omega | decide) only [u2e, u2n, up1_eq, up1_ne, ne_eq, Int32.add_zero]) (by simp (disch := first | omega | decide) only [u2e, u2n, up1_eq, up1_ne, ne_eq]; rw [hk, if_neg (by decide), Int32.add_zero]) (by simp (disch := first | omega | decide) only [u2e, u2n, up1_eq, up1_ne, ne_eq]; rw [hk, if_pos (show nn 4 = 4 from rfl), Int32.add_comm (g1 8 v), Int32.add_sub_cancel]) (by simp (disch := first | omega | decide) only [u2e, u2n, up1_eq, up1_ne, ne_eq]; rw [hk, if_neg (by decide), Int32.add_zero]) (fun i e1 e2 e3 e4 e5 e6 => by simp (disch := first | omega | decide) only [u2e, u2n, up1_eq, up1_ne, ne_eq])
    refine ⟨_, _, xx _ ((if_neg (by decide)).trans ((if_neg (by decide)).trans ((if_neg (by decide)).trans ((if_neg (by decide)).trans (if_pos rfl))))), mm _ ((if_pos (by decide)).trans ?_), hR, f1.t (FrG.w (by omega)), (f2'.t (FrM.w (by unfold iNet; omega))).t (FrM.w (by unfold iNet; omega))⟩
    unfold m_steps_k1_65 m_adds_k1_1
    rw [e3, nnT (show 140 + 5 * v < 2147483648 by omega), nnT (show 140 + 5 * v + 4 < 2147483648 by omega), hkM, hkp]
    exact st_t (by simp (disch := first | omega | decide) only [lt1, nnMl, nnMr, nnAl, nnAr, nnA, nnM, nnB, nnT, nnP, nnE, nnEl, nnEr, nnL, nnLl, nnLr, nnQ, nnQr, nnN, Nat.add_zero, if_false, if_true, Option.bind_some, not_true, not_false_iff, not_true_eq_false, not_false_eq_true, eq_self, Nat.not_lt_zero, z10, z01, or_true, true_or, or_false, false_or, true_and, false_and, i0]) (st_f (by decide) (st_t (by simp (disch := first | omega | decide) only [lt1, nnMl, nnMr, nnAl, nnAr, nnA, nnM, nnB, nnT, nnP, nnE, nnEl, nnEr, nnL, nnLl, nnLr, nnQ, nnQr, nnN, Nat.add_zero, if_false, if_true, Option.bind_some, not_true, not_false_iff, not_true_eq_false, not_false_eq_true, eq_self, Nat.not_lt_zero, z10, z01, or_true, true_or, or_false, false_or, true_and, false_and, i3]) (st_b (st_l rfl) (st_w (by simp (disch := first | omega | decide) only [lt1, nnMl, nnMr, nnAl, nnAr, nnA, nnM, nnB, nnT, nnP, nnE, nnEl, nnEr, nnL, nnLl, nnLr, nnQ, nnQr, nnN, Nat.add_zero, if_false, if_true, Option.bind_some, not_true, not_false_iff, not_true_eq_false, not_false_eq_true, eq_self, Nat.not_lt_zero, z10, z01, or_true, true_or, or_false, false_or, true_and, false_and, i3]) rfl))))
theorem RNet.tick {c c' : Sg} {a a' : Nat → Int32} (h : RNet c a N C Q) (hQ9 : Q < 9599) (hc : ∀ i, 2 ≤ i → i ≤ 21 → i ≠ 2 → c' i = c i) (e2 : c' 2 = up1 (c 2) 0 (nn (Q + 1))) (a3 : a' 3 = nn (Q + 1)) (ha : ∀ j, iNet j → j ≠ 3 → a' j = a j) : RNet c' a' N C (Q + 1) := by
  have e3 := hc 3 (by decide) (by decide) (by decide)
  have e4 := hc 4 (by decide) (by decide) (by decide)
  have e5 := hc 5 (by decide) (by decide) (by decide)
  have e7 := hc 7 (by decide) (by decide) (by decide)
  have e8 := hc 8 (by decide) (by decide) (by decide)
  have e9 := hc 9 (by decide) (by decide) (by decide)
  have e10 := hc 10 (by decide) (by decide) (by decide)
  have e11 := hc 11 (by decide) (by decide) (by decide)
  have e12 := hc 12 (by decide) (by decide) (by decide)
  have e13 := hc 13 (by decide) (by decide) (by decide)
  have e14 := hc 14 (by decide) (by decide) (by decide)
  have e15 := hc 15 (by decide) (by decide) (by decide)
  have e17 := hc 17 (by decide) (by decide) (by decide)
  have e18 := hc 18 (by decide) (by decide) (by decide)
  have e19 := hc 19 (by decide) (by decide) (by decide)
  have e20 := hc 20 (by decide) (by decide) (by decide)
  have e21 := hc 21 (by decide) (by decide) (by decide)
  have A := ha
  apply RNet.mk
  case hN => exact h.hN
  case hC => exact h.hC
  case hQ => omega
  case cN => rw [e2, up1_ne (by decide)]; exact h.cN
  case aN => rw [A _ (by unfold iNet; omega) (by omega)]; exact h.aN
  case cC => rw [e2, up1_ne (by decide)]; exact h.cC
  case aC => rw [A _ (by unfold iNet; omega) (by omega)]; exact h.aC
  case cQ => rw [e2, up1_eq]
  case aQ => exact a3
  case kind => intro n hn; rw [A _ (by unfold iNet; omega) (by omega), e3]; exact h.kind n hn
  case size => intro n hn; rw [A _ (by unfold iNet; omega) (by omega), e4]; exact h.size n hn
  case gate => intro n hn; rw [A _ (by unfold iNet; omega) (by omega), e5]; exact h.gate n hn
  case kep0 => intro n hn; rw [A _ (by unfold iNet; omega) (by omega), e7]; exact h.kep0 n hn
  case kep1 => intro n hn; rw [A _ (by unfold iNet; omega) (by omega), e8]; exact h.kep1 n hn
  case frm => intro n hn; rw [A _ (by unfold iNet; omega) (by omega), e9]; exact h.frm n hn
  case to => intro n hn; rw [A _ (by unfold iNet; omega) (by omega), e10]; exact h.to n hn
  case low => intro n hn; rw [A _ (by unfold iNet; omega) (by omega), e11]; exact h.low n hn
  case hig => intro n hn; rw [A _ (by unfold iNet; omega) (by omega), e12]; exact h.hig n hn
  case trv => intro n hn; rw [A _ (by unfold iNet; omega) (by omega), e13]; exact h.trv n hn
  case brd => intro n hn; rw [A _ (by unfold iNet; omega) (by omega), e14]; exact h.brd n hn
  case brk => intro n hn; rw [A _ (by unfold iNet; omega) (by omega), e15]; exact h.brk n hn
  case way0 => intro n hn; rw [A _ (by unfold iNet; omega) (by omega), e17]; exact h.way0 n hn
  case way1 => intro n hn; rw [A _ (by unfold iNet; omega) (by omega), e18]; exact h.way1 n hn
  case gateV => rw [e5, e9]; exact h.gateV
  case ends => rw [e9, e10]; exact h.ends
  case lowV => rw [e11]; exact h.lowV
  case higV => rw [e12]; exact h.higV
  case trvV => rw [e13]; exact h.trvV
  case brdV => rw [e14]; exact h.brdV
  case brkV => rw [e15]; exact h.brkV
  case kindV => rw [e3]; exact h.kindV
  case kepZ => rw [e7, e8]; exact h.kepZ
  case brkZ => rw [e15]; exact h.brkZ
  case wayZ => rw [e17, e18]; exact h.wayZ
  case su00 => rw [A _ (by unfold iNet; omega) (by omega), e3, e7]; exact h.su00
  case su01 => rw [A _ (by unfold iNet; omega) (by omega), e3, e7]; exact h.su01
  case su02 => rw [A _ (by unfold iNet; omega) (by omega), e3, e7]; exact h.su02
  case su03 => rw [A _ (by unfold iNet; omega) (by omega), e17]; exact h.su03
  case su04 => rw [A _ (by unfold iNet; omega) (by omega), e19]; exact h.su04
  case su05 => rw [A _ (by unfold iNet; omega) (by omega), e20]; exact h.su05
  case su06 => rw [A _ (by unfold iNet; omega) (by omega), e21]; exact h.su06
  case su10 => rw [A _ (by unfold iNet; omega) (by omega), e3, e8]; exact h.su10
  case su11 => rw [A _ (by unfold iNet; omega) (by omega), e3, e8]; exact h.su11
  case su12 => rw [A _ (by unfold iNet; omega) (by omega), e3, e8]; exact h.su12
  case su13 => rw [A _ (by unfold iNet; omega) (by omega), e18]; exact h.su13
  case su14 => rw [A _ (by unfold iNet; omega) (by omega), e19]; exact h.su14
  case su15 => rw [A _ (by unfold iNet; omega) (by omega), e20]; exact h.su15
  case su16 => rw [A _ (by unfold iNet; omega) (by omega), e21]; exact h.su16
theorem qua1 {v1 v2 : Int32} {F0 F1 : Nat} (hF0 : 14 < F0) (hF1 : 14 < F1) {K : Int32 → Int32 → Sg → Option (Int32 × Sg)} : ∀ m v F G (g M : Sg), v + m = N → m < F → m < G → RNet g (M 216) N C Q → ∃ g2 M2, net_passQuarter_9_2 F0 F (nn v) g = some (up2 g2 2 0 (nn (Q + 1))) ∧ m_go_58_2 F1 K G v1 v2 (nn v) M = K v1 (v2 + 1) (up2 M2 216 3 (nn (Q + 1))) ∧ RNet g2 (M2 216) N C Q ∧ FrG g g2 ∧ FrM M M2 := by
  intro m
  induction m with
  | zero =>
    intro v F G g M hv hF hG h
    obtain ⟨F, rfl⟩ : ∃ F2, F = F2 + 1 := ⟨F - 1, by omega⟩
    obtain ⟨G, rfl⟩ : ∃ F2, G = F2 + 1 := ⟨G - 1, by omega⟩
    have : v = N := by omega
    subst this
    refine ⟨g, M, ?_, ?_, h, FrG.r, FrM.r⟩
    · unfold net_passQuarter_9_2
      rw [h.cN, h.cQ, show nn Q + 1 = nn (Q + 1) from nnA Q 1]
      exact st_t (Int32.le_refl _) (st_l rfl)
    · unfold m_go_58_2
      rw [h.aN, h.aQ, show nn Q + 1 = nn (Q + 1) from nnA Q 1]
      exact st_t (Int32.le_refl _) (st_l rfl)
  | succ m ih =>
    intro v F G g M hv hF hG h
    obtain ⟨F, rfl⟩ : ∃ F2, F = F2 + 1 := ⟨F - 1, by omega⟩
    obtain ⟨G, rfl⟩ : ∃ F2, G = F2 + 1 := ⟨G - 1, by omega⟩
    have hN := h.hN
    obtain ⟨g1, M1, r1, r2, r3, r4, r5⟩ := node_y1 h (show v < N by omega) hF0 hF1
    obtain ⟨g2, M2, s1, s2, s3, s4, s5⟩ := ih (v + 1) F G g1 M1 (by omega) (by omega) (by omega) r3
    have hle : ¬ nn N ≤ nn v := by rw [nnE (by omega) (by omega)]; omega
    refine ⟨g2, M2, ?_, ?_, s3, r4.t s4, r5.t s5⟩
    · unfold net_passQuarter_9_2
      rw [h.cN, show nn v + 1 = nn (v + 1) from nnA v 1]
      exact st_f hle (st_b r1 s1)
    · unfold m_go_58_2
      rw [h.aN, show nn v + 1 = nn (v + 1) from nnA v 1]
      exact st_f hle (st_b r2 s2)
theorem qua0 {v1 v2 : Int32} {F0 F1 : Nat} (hF0 : 14 < F0) (hF1 : 14 < F1) {K : Int32 → Int32 → Sg → Option (Int32 × Sg)} : ∀ m v F G (g M : Sg), v + m = N → m < F → m < G → RNet g (M 216) N C Q → ∃ g2 M2, net_passQuarter_9 F0 F (nn v) g = some (up2 g2 2 0 (nn (Q + 1))) ∧ m_go_58 F1 K G v1 v2 (nn v) M = K v1 (v2 + 1) (up2 M2 216 3 (nn (Q + 1))) ∧ RNet g2 (M2 216) N C Q ∧ FrG g g2 ∧ FrM M M2 := by
  intro m
  induction m with
  | zero =>
    intro v F G g M hv hF hG h
    obtain ⟨F, rfl⟩ : ∃ F2, F = F2 + 1 := ⟨F - 1, by omega⟩
    obtain ⟨G, rfl⟩ : ∃ F2, G = F2 + 1 := ⟨G - 1, by omega⟩
    have hN := h.hN
    have : v = N := by omega
    subst this
    obtain ⟨g2, M2, s1, s2, s3⟩ := qua1 (v1 := v1) (v2 := v2) hF0 hF1 (K := K) v 0 F0 F1 g M (by omega) (by omega) (by omega) h
    refine ⟨g2, M2, ?_, ?_, s3⟩
    · unfold net_passQuarter_9
      rw [h.cN]
      exact st_t (Int32.le_refl _) s1
    · unfold m_go_58
      rw [h.aN]
      exact st_t (Int32.le_refl _) s2
  | succ m ih =>
    intro v F G g M hv hF hG h
    obtain ⟨F, rfl⟩ : ∃ F2, F = F2 + 1 := ⟨F - 1, by omega⟩
    obtain ⟨G, rfl⟩ : ∃ F2, G = F2 + 1 := ⟨G - 1, by omega⟩
    have hN := h.hN
    obtain ⟨g1, M1, r1, r2, r3, r4, r5⟩ := node_y0 h (show v < N by omega) hF0 hF1
    obtain ⟨g2, M2, s1, s2, s3, s4, s5⟩ := ih (v + 1) F G g1 M1 (by omega) (by omega) (by omega) r3
    have hle : ¬ nn N ≤ nn v := by rw [nnE (by omega) (by omega)]; omega
    refine ⟨g2, M2, ?_, ?_, s3, r4.t s4, r5.t s5⟩
    · unfold net_passQuarter_9
      rw [h.cN, show nn v + 1 = nn (v + 1) from nnA v 1]
      exact st_f hle (st_b r1 s1)
    · unfold m_go_58
      rw [h.aN, show nn v + 1 = nn (v + 1) from nnA v 1]
      exact st_f hle (st_b r2 s2)
/-- a quarter, both sides -/
theorem qua {v1 v2 : Int32} {F0 F1 : Nat} (hF0 : 14 < F0) (hF1 : 14 < F1) {K : Int32 → Int32 → Sg → Option (Int32 × Sg)} {g M : Sg} (h : RNet g (M 216) N C Q) (hQ : Q < 9599) : ∃ g2 M2, net_passQuarter F0 g = some g2 ∧ m_go_48 F1 K v1 v2 M = K v1 (v2 + 1) M2 ∧ RNet g2 (M2 216) N C (Q + 1) ∧ (∀ i, 22 ≤ i → g2 i = g i) ∧ FrM M M2 := by
  have hN := h.hN
  obtain ⟨g2, M2, s1, s2, s3, s4, s5⟩ := qua0 (v1 := v1) (v2 := v2) hF0 hF1 (K := K) N 0 F0 F1 g M (by omega) (by omega) (by omega) h
  refine ⟨_, _, s1, s2, ?_, fun i hi => ?_, s5.t (FrM.w (by unfold iNet; omega))⟩
  · exact s3.tick hQ (fun i e1 e2 e3 => u2n e3) u2e (by rw [u2e, up1_eq]) (fun j e1 e2 => by rw [u2e, up1_ne e2])
  · rw [u2n (by omega)]
    exact s4 i (by omega) (by omega) (by omega) (by omega) (by omega) (by omega) (by omega)
end WF
end
section
/-! the beginning of an hour -/
theorem bst_5 {c : Sg} {f : Nat → Int32} {V : Nat → Nat} {t v : Nat} : ∀ j, bst (sc c 5 f) V t v j = bst c V t v j
  | 0 => rfl
  | j + 1 => by
    have ih := bst_5 (c := c) (f := f) (V := V) (t := t) (v := v) j
    show (if sc c 5 f 9 j = nn v ∧ sc c 5 f 15 j = 0 ∧ cn (sc c 5 f) 10 j ≤ t ∧ V (cn (sc c 5 f) 10 j) < 1000000 ∧ 100 * cn (sc c 5 f) 13 j + 1 + V (cn (sc c 5 f) 10 j) < (bst (sc c 5 f) V t v j).2 then (some j, 100 * cn (sc c 5 f) 13 j + 1 + V (cn (sc c 5 f) 10 j)) else bst (sc c 5 f) V t v j) = _
    rw [ih]
    rfl
theorem tab_5 {c : Sg} {f : Nat → Int32} {C t : Nat} : ∀ k, tab (sc c 5 f) C t k = tab c C t k
  | 0 => rfl
  | k + 1 => by
    show upT (tab (sc c 5 f) C t k) (t - (k + 1)) (bst (sc c 5 f) (fun u => (tab (sc c 5 f) C t k u).2) t (t - (k + 1)) C) = _
    rw [tab_5 k, bst_5]
    rfl
section WG
variable {N C Q D : Nat}
theorem gates_y {c S M : Sg} {t : Nat} (htN : t < N) (hS : ∀ i, 2 ≤ i → i ≤ 21 → i ≠ 5 → S i = c i) (hst : S 187 3 = nn t) (hS9 : ∀ u, u < 10 → S 190 u = oN (tab c C t t u).1) (hM : ∀ u, u < 10 → M 218 u = nn (tab c C t t u).2) {F0 : Nat} (hF0 : 14 < F0) : ∀ m p k f A F G, m = (tab c C t t p).2 % 100 → p ≤ t → (tab c C t t p).2 < 1000000 → k + m ≤ 10 → m < F → m < G → RNet (sc c 5 f) A N C Q → ∃ f2 A2, ways_turnGates_5 F (nn p) (nn k) (sc S 5 f) = some (sc S 5 f2) ∧ m_opens_16 F0 G (nn t) (nn p) (sc M 216 A) = some (sc M 216 A2) ∧ RNet (sc c 5 f2) A2 N C Q ∧ ∀ j, ¬ iNet j → A2 j = A j := by
  intro m
  induction m with
  | zero =>
    intro p k f A F G hm hp hr hk hF hG h
    obtain ⟨F, rfl⟩ : ∃ F2, F = F2 + 1 := ⟨F - 1, by omega⟩
    obtain ⟨G, rfl⟩ : ∃ F2, G = F2 + 1 := ⟨G - 1, by omega⟩
    have hN := h.hN
    have hw : RNet (sc c 5 f) ((sc M 216 A) 216) N C Q := by rw [sc_e]; exact h
    have : p = t := by
      by_cases q : p < t
      · obtain ⟨j, j1, j2, j3, j4, j5, j6, j7, j8, j9⟩ := way_st (s := sc M 216 A) hw (show t < 10 by omega) q (by rw [tab_5]; exact hr)
        rw [tab_5] at j8
        omega
      · omega
    subst this
    refine ⟨f, A, ?_, ?_, h, fun _ _ => rfl⟩
    · unfold ways_turnGates_5
      rw [sc_n (show 187 ≠ 5 by decide), hst]
      by_cases q : 10 ≤ nn k
      · exact st_t q rfl
      · exact st_f q (st_t rfl rfl)
    · unfold m_opens_16
      exact st_t rfl rfl
  | succ m ih =>
    intro p k f A F G hm hp hr hk hF hG h
    obtain ⟨F, rfl⟩ : ∃ F2, F = F2 + 1 := ⟨F - 1, by omega⟩
    obtain ⟨G, rfl⟩ : ∃ F2, G = F2 + 1 := ⟨G - 1, by omega⟩
    have hN := h.hN
    have hC := h.hC
    have hw : RNet (sc c 5 f) ((sc M 216 A) 216) N C Q := by rw [sc_e]; exact h
    have hpt : p < t := by
      by_cases q : p = t
      · have := tab_t0 (s := sc M 216 A) hw (show t < 10 by omega)
        rw [tab_5] at this
        rw [q, this] at hm
        omega
      · omega
    obtain ⟨j, j1, j2, j3, j4, j5, j6, j7, j8, j9⟩ := way_st (s := sc M 216 A) hw (show t < 10 by omega) hpt (by rw [tab_5]; exact hr)
    rw [tab_5] at j2 j7 j8
    have e10 : cn (sc c 5 f) 10 j = cn c 10 j := rfl
    rw [e10] at j4 j5 j6 j7 j8
    have hj14 : j < 14 := by omega
    have hp10 : p < 10 := by omega
    have i2 : 140 + 5 * p + 2 < 20360 := by omega
    have hR : RNet (sc c 5 (up1 f p (nn j))) (up1 A (140 + 5 * p + 2) (nn j)) N C Q := h.gateU (n := p) (v := nn j) hp10 (Or.inr ⟨j, j1, rfl, j3⟩) (fun i e1 e2 e3 => by rw [sc_n e3, sc_n e3]) (by rw [sc_e, sc_e]) (fun i e1 e2 => up1_ne e2) up1_eq
    obtain ⟨f2, A2, r1, r2, r3, r4⟩ := ih (cn c 10 j) (k + 1) (up1 f p (nn j)) (up1 A (140 + 5 * p + 2) (nn j)) F G (by omega) j4 j7 (by omega) (by omega) (by omega) hR
    have hk10 : ¬ 10 ≤ k := by omega
    refine ⟨f2, A2, ?_, ?_, r3, fun i e => by rw [r4 i e, up1_ne (by unfold iNet at e; omega)]⟩
    · unfold ways_turnGates_5
      rw [sc_n (show 187 ≠ 5 by decide), hst, sc_n (show 190 ≠ 5 by decide), nnT (show p < 2147483648 by omega), hS9 p hp10, j2, show oN (some j) = nn j from rfl, show nn k + 1 = nn (k + 1) from nnA k 1]
      refine st_f (by simp (disch := first | omega | decide) only [lt1, nnMl, nnMr, nnAl, nnAr, nnA, nnM, nnB, nnT, nnP, nnE, nnEl, nnEr, nnL, nnLl, nnLr, nnQ, nnQr, nnN, Nat.add_zero, if_false, if_true, Option.bind_some, not_true, not_false_iff, not_true_eq_false, not_false_eq_true, eq_self, Nat.not_lt_zero, z10, z01, or_true, true_or, or_false, false_or, true_and, false_and, hk10]) (st_f (nnNe (by omega) (by omega) (by omega)) (st_b (hN_y (by rw [sc_n (by decide), hS 2 (by decide) (by decide) (by decide)]; exact h.cN) hN (by omega)) (st_f (by decide) (st_w (by simp (disch := first | omega | decide) only [lt1, nnMl, nnMr, nnAl, nnAr, nnA, nnM, nnB, nnT, nnP, nnE, nnEl, nnEr, nnL, nnLl, nnLr, nnQ, nnQr, nnN, Nat.add_zero, if_false, if_true, Option.bind_some, not_true, not_false_iff, not_true_eq_false, not_false_eq_true, eq_self, Nat.not_lt_zero, z10, z01, or_true, true_or, or_false, false_or, true_and, false_and, hp10]) ?_))))
      rw [sc_u]
      refine (st_w (by simp (disch := first | omega | decide) only [lt1, nnMl, nnMr, nnAl, nnAr, nnA, nnM, nnB, nnT, nnP, nnE, nnEl, nnEr, nnL, nnLl, nnLr, nnQ, nnQr, nnN, Nat.add_zero, if_false, if_true, Option.bind_some, not_true, not_false_iff, not_true_eq_false, not_false_eq_true, eq_self, Nat.not_lt_zero, z10, z01, or_true, true_or, or_false, false_or, true_and, false_and, hp10]) (st_b (hC_y (by rw [sc_n (by decide), hS 2 (by decide) (by decide) (by decide)]; exact h.cC) hC j1) (st_f (by decide) (st_w (by simp (disch := first | omega | decide) only [lt1, nnMl, nnMr, nnAl, nnAr, nnA, nnM, nnB, nnT, nnP, nnE, nnEl, nnEr, nnL, nnLl, nnLr, nnQ, nnQr, nnN, Nat.add_zero, if_false, if_true, Option.bind_some, not_true, not_false_iff, not_true_eq_false, not_false_eq_true, eq_self, Nat.not_lt_zero, z10, z01, or_true, true_or, or_false, false_or, true_and, false_and, hj14]) ?_))))
      rw [sc_n (show 10 ≠ 5 by decide), hS 10 (by decide) (by decide) (by decide), nnT (show j < 2147483648 by omega), show c 10 j = nn (cn c 10 j) from j6]
      exact r1
    · have e2 : 140 + 5 * nn p + 2 = nn (140 + 5 * p + 2) := by simp (disch := first | omega | decide) only [lt1, nnMl, nnMr, nnAl, nnAr, nnA, nnM, nnB, nnT, nnP, nnE, nnEl, nnEr, nnL, nnLl, nnLr, nnQ, nnQr, nnN, Nat.add_zero, if_false, if_true, Option.bind_some, not_true, not_false_iff, not_true_eq_false, not_false_eq_true, eq_self, Nat.not_lt_zero, z10, z01, or_true, true_or, or_false, false_or, true_and, false_and]
      unfold m_opens_16
      rw [e2, nnT (show 140 + 5 * p + 2 < 2147483648 by omega)]
      refine st_f (nnNe (by omega) (by omega) (by omega)) (st_b (j9 hw (e := M 218) (fun x hx => by rw [tab_5]; exact hM x hx) (sc_n (by decide)) hF0) ?_)
      rw [sc_u]
      refine (st_w (by simp (disch := first | omega | decide) only [lt1, nnMl, nnMr, nnAl, nnAr, nnA, nnM, nnB, nnT, nnP, nnE, nnEl, nnEr, nnL, nnLl, nnLr, nnQ, nnQr, nnN, Nat.add_zero, if_false, if_true, Option.bind_some, not_true, not_false_iff, not_true_eq_false, not_false_eq_true, eq_self, Nat.not_lt_zero, z10, z01, or_true, true_or, or_false, false_or, true_and, false_and, i2]) ?_)
      refine st_b (mch1 (c := sc c 5 (up1 f p (nn j))) (s := sc M 216 (up1 A (140 + 5 * p + 2) (nn j))) (by rw [sc_e]; exact hR) hj14) ?_
      rw [show (sc c 5 (up1 f p (nn j))) 10 j = nn (cn c 10 j) from j6]
      exact r2
theorem RRig.tick {c : Sg} {a : Nat → Int32} (h : RRig c a D N Q) (hq : ¬ Q % 4 = 0) : RRig c a D N (Q + 1) := by
  apply RRig.mk
  case hD => exact h.hD
  case cD => exact h.cD
  case aD => exact h.aD
  case home => exact h.home
  case homeV => exact h.homeV
  case d0 => exact h.d0
  case d1 => exact h.d1
  case d2 => exact h.d2
  case d3 => exact h.d3
  case d4 => exact h.d4
  case d5 => exact h.d5
  case dFL => exact h.dFL
  case dW => exact h.dW
  case dS => exact h.dS
  case dY => 
    intro d hd
    obtain ⟨y, h1, h2⟩ := h.dY d hd
    exact ⟨y, by omega, h2⟩
  case dV => 
    intro d hd
    rcases h.dV d hd with e | ⟨y, h1, h2⟩
    · exact Or.inl e
    · exact Or.inr ⟨y, by omega, h2⟩
  case cR => rw [show (Q + 1 + 3) / 4 = (Q + 3) / 4 by omega]; exact h.cR
  case aR => rw [show (Q + 1 + 3) / 4 = (Q + 3) / 4 by omega]; exact h.aR
  case runs => exact h.runs
  case runV => exact h.runV
theorem RRig.hour {c c' : Sg} {a a' : Nat → Int32} {w : Int32} (h : RRig c a D N Q) (hq : Q % 4 = 0) (hQ : Q < 9599) (hw : w = -1 ∨ ∃ n, n < 8 ∧ w = nn n) (hc : ∀ i, 22 ≤ i → i ≤ 30 → i ≠ 22 → i ≠ 30 → c' i = c i) (e22 : c' 22 = up1 (c 22) 8 (nn (Q / 4 + 1))) (e30 : c' 30 = up1 (c 30) (Q / 4) w) (a6 : a' 6 = nn (Q / 4 + 1)) (b : a' (1870 + Q / 4) = w) (ha : ∀ j, iRig j → j ≠ 6 → j ≠ 1870 + Q / 4 → a' j = a j) : RRig c' a' D N (Q + 1) := by
  have e23 := hc 23 (by decide) (by decide) (by decide) (by decide)
  have e24 := hc 24 (by decide) (by decide) (by decide) (by decide)
  have e25 := hc 25 (by decide) (by decide) (by decide) (by decide)
  have e26 := hc 26 (by decide) (by decide) (by decide) (by decide)
  have e27 := hc 27 (by decide) (by decide) (by decide) (by decide)
  have e28 := hc 28 (by decide) (by decide) (by decide) (by decide)
  have e29 := hc 29 (by decide) (by decide) (by decide) (by decide)
  have A := ha
  apply RRig.mk
  case hD => exact h.hD
  case cD => rw [e22, up1_ne (by decide)]; exact h.cD
  case aD => rw [A _ (by unfold iRig; omega) (by omega) (by omega)]; exact h.aD
  case home => intro n hn; rw [A _ (by unfold iRig; omega) (by omega) (by omega), e23]; exact h.home n hn
  case homeV => rw [e23]; exact h.homeV
  case d0 => intro n hn; rw [A _ (by unfold iRig; omega) (by omega) (by omega), e24]; exact h.d0 n hn
  case d1 => intro n hn; rw [A _ (by unfold iRig; omega) (by omega) (by omega), e25]; exact h.d1 n hn
  case d2 => intro n hn; rw [A _ (by unfold iRig; omega) (by omega) (by omega), e26]; exact h.d2 n hn
  case d3 => intro n hn; rw [A _ (by unfold iRig; omega) (by omega) (by omega), e27]; exact h.d3 n hn
  case d4 => intro n hn; rw [A _ (by unfold iRig; omega) (by omega) (by omega), e28]; exact h.d4 n hn
  case d5 => intro n hn; rw [A _ (by unfold iRig; omega) (by omega) (by omega), e29]; exact h.d5 n hn
  case dFL => rw [e24, e25]; exact h.dFL
  case dW => rw [e26]; exact h.dW
  case dS => rw [e27]; exact h.dS
  case dY => 
    intro d hd
    rw [e28]
    obtain ⟨y, h1, h2⟩ := h.dY d hd
    exact ⟨y, by omega, h2⟩
  case dV => 
    intro d hd
    rw [e29]
    rcases h.dV d hd with e | ⟨y, h1, h2⟩
    · exact Or.inl e
    · exact Or.inr ⟨y, by omega, h2⟩
  case cR => rw [e22, up1_eq, show (Q + 1 + 3) / 4 = Q / 4 + 1 by omega]
  case aR => rw [a6, show (Q + 1 + 3) / 4 = Q / 4 + 1 by omega]
  case runs => 
    intro i hi
    rw [e30]
    by_cases e : i = Q / 4
    · subst e; rw [up1_eq]; exact b
    · rw [up1_ne e, A _ (by unfold iRig; omega) (by omega) (by omega)]; exact h.runs i hi
  case runV => 
    intro i hi
    rw [e30]
    by_cases e : i = Q / 4
    · subst e; rw [up1_eq]; exact hw
    · rw [up1_ne e]; exact h.runV i hi
theorem byte_own {w : Int32} (hw : w = -1 ∨ ∃ n, n < 8 ∧ w = nn n) : w.toInt8.toInt32.toInt8.toInt32 = w := by
  rcases hw with rfl | ⟨n, hn, rfl⟩
  · rfl
  · have : n = 0 ∨ n = 1 ∨ n = 2 ∨ n = 3 ∨ n = 4 ∨ n = 5 ∨ n = 6 ∨ n = 7 := by omega
    rcases this with rfl | rfl | rfl | rfl | rfl | rfl | rfl | rfl <;> rfl
theorem today_x2 {g : Sg} {a : Nat → Int32} {N C Q : Nat} (h : RNet g a N C Q) : x_today g = some (nn (Q / 96)) := by
  have := h.hQ
  unfold x_today
  rw [h.cQ]
  simp (disch := first | omega | decide) only [lt1, nnMl, nnMr, nnAl, nnAr, nnA, nnM, nnB, nnT, nnP, nnE, nnEl, nnEr, nnL, nnLl, nnLr, nnQ, nnQr, nnN, Nat.add_zero, if_false, if_true, Option.bind_some, not_true, not_false_iff, not_true_eq_false, not_false_eq_true, eq_self, Nat.not_lt_zero, z10, z01, or_true, true_or, or_false, false_or, true_and, false_and, nnDr]
def FrB (M M2 : Sg) : Prop := (∀ i, i ≠ 216 → i ≠ 218 → M2 i = M i) ∧ ∀ j, ¬ iNet j → ¬ iRig j → M2 216 j = M 216 j
theorem FrB.t {g g2 g3 : Sg} (h : FrB g g2) (h2 : FrB g2 g3) : FrB g g3 := ⟨fun i a b => (h2.1 i a b).trans (h.1 i a b), fun j a b => (h2.2 j a b).trans (h.2 j a b)⟩
theorem FrM.b {g g2 : Sg} (h : FrM g g2) : FrB g g2 := ⟨fun i a _ => h.1 i a, fun j a _ => h.2 j a⟩
def FrX (g g2 : Sg) : Prop := ∀ i, 31 ≤ i → i ≠ 187 → i ≠ 188 → i ≠ 189 → i ≠ 190 → g2 i = g i
theorem hour_y {g M : Sg} (h : RNet g (M 216) N C Q) (r : RRig g (M 216) D N Q) (hq : Q % 4 = 0) (hQ : Q < 9599) {F G : Nat} (hF : 200 < F) (hG : 200 < G) : ∃ g2 M2, x_beginHour F g = some g2 ∧ m_begins G M = some M2 ∧ RNet g2 (M2 216) N C Q ∧ RRig g2 (M2 216) D N (Q + 1) ∧ FrX g g2 ∧ FrB M M2 := by
  have hN := h.hN
  have hC := h.hC
  have hD := r.hD
  have eH : (Q + 3) / 4 = Q / 4 := by omega
  have hH : Q / 4 < 2400 := by omega
  have hH2 : 1870 + Q / 4 < 20360 := by omega
  have hH3 : ¬ 2400 ≤ Q / 4 := by omega
  have e1 : nn Q / 4 = nn (Q / 4) := by simp (disch := first | omega | decide) only [lt1, nnMl, nnMr, nnAl, nnAr, nnA, nnM, nnB, nnT, nnP, nnE, nnEl, nnEr, nnL, nnLl, nnLr, nnQ, nnQr, nnN, Nat.add_zero, if_false, if_true, Option.bind_some, not_true, not_false_iff, not_true_eq_false, not_false_eq_true, eq_self, Nat.not_lt_zero, z10, z01, or_true, true_or, or_false, false_or, true_and, false_and, nnDr]
  have e2 : nn (Q / 4) - nn (Q / 4) / 168 * 168 = nn (Q / 4 % 168) := by
    have e : nn (Q / 4) / 168 * 168 = nn (Q / 4 / 168 * 168) := by simp (disch := first | omega | decide) only [lt1, nnMl, nnMr, nnAl, nnAr, nnA, nnM, nnB, nnT, nnP, nnE, nnEl, nnEr, nnL, nnLl, nnLr, nnQ, nnQr, nnN, Nat.add_zero, if_false, if_true, Option.bind_some, not_true, not_false_iff, not_true_eq_false, not_false_eq_true, eq_self, Nat.not_lt_zero, z10, z01, or_true, true_or, or_false, false_or, true_and, false_and, nnDr]
    rw [e, nnS (a := Q / 4) (b := Q / 4 / 168 * 168) (by omega), show Q / 4 - Q / 4 / 168 * 168 = Q / 4 % 168 by omega]
  have e3 : nn (Q / 4) / 168 = nn (Q / 4 / 168) := by simp (disch := first | omega | decide) only [lt1, nnMl, nnMr, nnAl, nnAr, nnA, nnM, nnB, nnT, nnP, nnE, nnEl, nnEr, nnL, nnLl, nnLr, nnQ, nnQr, nnN, Nat.add_zero, if_false, if_true, Option.bind_some, not_true, not_false_iff, not_true_eq_false, not_false_eq_true, eq_self, Nat.not_lt_zero, z10, z01, or_true, true_or, or_false, false_or, true_and, false_and, nnDr]
  have hw := ownS_v r (x := nn (Q / 4 % 168)) (w := nn (Q / 4 / 168)) (k := nn (Q / 96))
  have ox := own_x r (x := nn (Q / 4 % 168)) (w := nn (Q / 4 / 168)) (k := nn (Q / 96)) (F := F) (by omega)
  have om := own_m r h.hQ (x := nn (Q / 4 % 168)) (w := nn (Q / 4 / 168)) (k := nn (Q / 96)) (nnE0 (by omega)) (F := G) (by omega)
  generalize ownS g (nn (Q / 4 % 168)) (nn (Q / 4 / 168)) (nn (Q / 96)) D = w at *
  generalize hg4 : up2 (up2 g 30 (Q / 4) w) 22 8 (nn (Q / 4 + 1)) = g4
  generalize hM5 : up2 (up2 M 216 (1870 + Q / 4) w) 216 6 (nn (Q / 4 + 1)) = M5
  have kx : rights_keepRun w g = some g4 := by
    unfold rights_keepRun
    rw [r.cR, eH, byte_own hw]
    refine st_f (by simp (disch := first | omega | decide) only [lt1, nnMl, nnMr, nnAl, nnAr, nnA, nnM, nnB, nnT, nnP, nnE, nnEl, nnEr, nnL, nnLl, nnLr, nnQ, nnQr, nnN, Nat.add_zero, if_false, if_true, Option.bind_some, not_true, not_false_iff, not_true_eq_false, not_false_eq_true, eq_self, Nat.not_lt_zero, z10, z01, or_true, true_or, or_false, false_or, true_and, false_and, hH3]) (st_w (by simp (disch := first | omega | decide) only [lt1, nnMl, nnMr, nnAl, nnAr, nnA, nnM, nnB, nnT, nnP, nnE, nnEl, nnEr, nnL, nnLl, nnLr, nnQ, nnQr, nnN, Nat.add_zero, if_false, if_true, Option.bind_some, not_true, not_false_iff, not_true_eq_false, not_false_eq_true, eq_self, Nat.not_lt_zero, z10, z01, or_true, true_or, or_false, false_or, true_and, false_and, hH]) (st_l ?_))
    rw [nnT (by omega), u2n (show 22 ≠ 30 by decide), r.cR, eH, show nn (Q / 4) + 1 = nn (Q / 4 + 1) from nnA _ 1, hg4]
  have fg4 : ∀ i, i ≠ 22 → i ≠ 30 → g4 i = g i := fun i p1 p2 => by rw [← hg4, u2n p1, u2n p2]
  have fM5 : FrB M M5 := by
    rw [← hM5]
    exact ⟨fun i p1 _ => by rw [u2n p1, u2n p1], fun j p1 p2 => by rw [u2e, up1_ne (by unfold iRig at p2; omega), u2e, up1_ne (by unfold iRig at p2; omega)]⟩
  have h4 : RNet g4 (M5 216) N C Q := h.fr (fun i p1 p2 => fg4 i (by omega) (by omega)) (fun j hj => by rw [← hM5, u2e, up1_ne (by unfold iNet at hj; omega), u2e, up1_ne (by unfold iNet at hj; omega)])
  have r4 : RRig g4 (M5 216) D N (Q + 1) := r.hour hq hQ hw (fun i _ _ p1 p2 => fg4 i p1 p2) (by rw [← hg4, u2e, u2n (by decide)]) (by rw [← hg4, u2n (by decide), u2e]) (by rw [← hM5, u2e, up1_eq]) (by rw [← hM5, u2e, up1_ne (by omega), u2e, up1_eq]) (fun j _ p1 p2 => by rw [← hM5, u2e, up1_ne p1, u2e, up1_ne p2])
  -- the two sides so far
  have X : ∀ r2, (Option.bind (x_isHolder w g4) (fun x5 => (if x5 = 0 then (some g4) else (if inb w 8 = true then Option.bind (ways_find F 0 (g4 23 (Int32.toNatClampNeg w)) g4) (fun (x6, g7) => (if x6 = 0 then (some g7) else Option.bind (ways_turnGates F 0 g7) (fun g8 => (some g8)))) else none)))) = some r2 → x_beginHour F g = some r2 := fun r2 hr => by
    unfold x_beginHour
    rw [h.cQ, e1]
    refine st_l ?_
    rw [e2, e3]
    exact (st_b (today_x2 h) (st_b ox (st_b kx hr)))
  have Y : ∀ r2, (if w < 0 then some M5 else (if inb (30 + w) 20360 = true then Option.bind (m_opens G (M5 216 (Int32.toNatClampNeg (30 + w))) M5) (fun g6 => (some g6)) else none)) = some r2 → m_begins G M = some r2 := fun r2 hr => by
    unfold m_begins
    have e9 : (1870 + nn (Q / 4) : Int32) = nn (1870 + Q / 4) := by simp (disch := first | omega | decide) only [lt1, nnMl, nnMr, nnAl, nnAr, nnA, nnM, nnB, nnT, nnP, nnE, nnEl, nnEr, nnL, nnLl, nnLr, nnQ, nnQr, nnN, Nat.add_zero, if_false, if_true, Option.bind_some, not_true, not_false_iff, not_true_eq_false, not_false_eq_true, eq_self, Nat.not_lt_zero, z10, z01, or_true, true_or, or_false, false_or, true_and, false_and]
    rw [h.aQ, e1]
    refine st_l ?_
    rw [e2, e3, e9]
    refine st_b (today_m h.aQ h.hQ) (st_b om (st_w (by simp (disch := first | omega | decide) only [lt1, nnMl, nnMr, nnAl, nnAr, nnA, nnM, nnB, nnT, nnP, nnE, nnEl, nnEr, nnL, nnLl, nnLr, nnQ, nnQr, nnN, Nat.add_zero, if_false, if_true, Option.bind_some, not_true, not_false_iff, not_true_eq_false, not_false_eq_true, eq_self, Nat.not_lt_zero, z10, z01, or_true, true_or, or_false, false_or, true_and, false_and, hH2]) (st_l ?_)))
    rw [ nnT (by omega), show nn (Q / 4) + 1 = nn (Q / 4 + 1) from nnA _ 1, hM5]
    exact hr
  have fx4 : FrX g g4 := fun i p1 _ _ _ _ => fg4 i (by omega) (by omega)
  rcases hw with rfl | ⟨o, ho, rfl⟩
  · exact ⟨g4, M5, X _ (st_b holder_neg (st_t rfl rfl)), Y _ (st_t (by decide) rfl), h4, r4, fx4, fM5⟩
  have ho9 : 30 + o < 20360 := by omega
  have e30 : (30 + nn o : Int32) = nn (30 + o) := by simp (disch := first | omega | decide) only [lt1, nnMl, nnMr, nnAl, nnAr, nnA, nnM, nnB, nnT, nnP, nnE, nnEl, nnEr, nnL, nnLl, nnLr, nnQ, nnQr, nnN, Nat.add_zero, if_false, if_true, Option.bind_some, not_true, not_false_iff, not_true_eq_false, not_false_eq_true, eq_self, Nat.not_lt_zero, z10, z01, or_true, true_or, or_false, false_or, true_and, false_and]
  have hhome : M5 216 (30 + o) = g4 23 o := r4.home o ho
  have h0 : ¬ nn o < 0 := by rw [nnP (by omega)]; exact id
  have none_case : ∀ v, g4 23 o = v → noWay N 0 v → ∃ g2 M2, x_beginHour F g = some g2 ∧ m_begins G M = some M2 ∧ RNet g2 (M2 216) N C Q ∧ RRig g2 (M2 216) D N (Q + 1) ∧ FrX g g2 ∧ FrB M M2 := fun v hv hn => by
    refine ⟨g4, M5, X _ (st_b (holder_y ho) (st_f (by decide) (st_t (by simp (disch := first | omega | decide) only [lt1, nnMl, nnMr, nnAl, nnAr, nnA, nnM, nnB, nnT, nnP, nnE, nnEl, nnEr, nnL, nnLl, nnLr, nnQ, nnQr, nnN, Nat.add_zero, if_false, if_true, Option.bind_some, not_true, not_false_iff, not_true_eq_false, not_false_eq_true, eq_self, Nat.not_lt_zero, z10, z01, or_true, true_or, or_false, false_or, true_and, false_and, ho]) ?_))), Y _ (st_f h0 ?_), h4, r4, fx4, fM5⟩
    · rw [nnT (by omega), hv]
      exact st_b (find_n h4.cN hN hn) (st_t rfl rfl)
    · rw [e30, nnT (by omega), hhome, hv]
      refine st_t (by simp (disch := first | omega | decide) only [lt1, nnMl, nnMr, nnAl, nnAr, nnA, nnM, nnB, nnT, nnP, nnE, nnEl, nnEr, nnL, nnLl, nnLr, nnQ, nnQr, nnN, Nat.add_zero, if_false, if_true, Option.bind_some, not_true, not_false_iff, not_true_eq_false, not_false_eq_true, eq_self, Nat.not_lt_zero, z10, z01, or_true, true_or, or_false, false_or, true_and, false_and, ho9]) (st_b (x := M5) ?_ rfl)
      unfold m_opens
      by_cases q : v < 0
      · exact st_t q rfl
      · exact st_f q (st_b (leads_n h4.aN hN hn) (st_f (by decide) rfl))
  rcases r4.homeV o ho with e | ⟨t, ht, e⟩
  · refine none_case _ e (fun hh => ?_)
    obtain ⟨f, t, h1, h2, h3, h5⟩ := hh
    exact nnN1 (by omega) h5
  by_cases ht0 : t = 0
  · refine none_case _ e (fun hh => ?_)
    obtain ⟨f, t2, h1, h2, h3, h5⟩ := hh
    rw [nnQ (by omega) (by omega)] at h5
    omega
  have ht1 : 0 < t := by omega
  obtain ⟨a, b, d, f1, f2⟩ := find_y h4 (s := g4) (fun _ _ _ => rfl) ht1 ht (F := F) (by omega)
  obtain ⟨e9, l1, l2⟩ := leads_y (s := M5) (c := g4) h4 ht1 ht (F := G) (by omega)
  have f1 : ways_find F 0 (nn t) g4 = some (wyR g4 C 0 t, ss (up2 g4 187 3 (nn t)) a b d) := f1
  have l1 : m_leads G 0 (nn t) M5 = some (wyR g4 C 0 t, sc M5 218 e9) := l1
  have ht_neg : ¬ nn t < 0 := by rw [nnP (by omega)]; exact id
  have fss : ∀ i, i ≠ 187 → i ≠ 188 → i ≠ 189 → i ≠ 190 → ss (up2 g4 187 3 (nn t)) a b d i = g4 i := fun i p1 p2 p3 p4 => by rw [ss_o p2 p3 p4, u2n p1]
  have X2 : ∀ r2, (if wyR g4 C 0 t = 0 then (some (ss (up2 g4 187 3 (nn t)) a b d)) else Option.bind (ways_turnGates F 0 (ss (up2 g4 187 3 (nn t)) a b d)) (fun g8 => (some g8))) = some r2 → x_beginHour F g = some r2 := fun r2 hr => X _ (st_b (holder_y ho) (st_f (by decide) (st_t (by simp (disch := first | omega | decide) only [lt1, nnMl, nnMr, nnAl, nnAr, nnA, nnM, nnB, nnT, nnP, nnE, nnEl, nnEr, nnL, nnLl, nnLr, nnQ, nnQr, nnN, Nat.add_zero, if_false, if_true, Option.bind_some, not_true, not_false_iff, not_true_eq_false, not_false_eq_true, eq_self, Nat.not_lt_zero, z10, z01, or_true, true_or, or_false, false_or, true_and, false_and, ho]) (by rw [nnT (by omega), e]; exact st_b f1 hr))))
  have Y2 : ∀ r2, (if ¬ wyR g4 C 0 t = 0 then (m_opens_16 G G (nn t) 0 (sc M5 218 e9)) else (some (sc M5 218 e9))) = some r2 → m_begins G M = some r2 := fun r2 hr => Y _ (st_f h0 (by
    rw [e30, nnT (by omega), hhome, e]
    refine st_t (by simp (disch := first | omega | decide) only [lt1, nnMl, nnMr, nnAl, nnAr, nnA, nnM, nnB, nnT, nnP, nnE, nnEl, nnEr, nnL, nnLl, nnLr, nnQ, nnQr, nnN, Nat.add_zero, if_false, if_true, Option.bind_some, not_true, not_false_iff, not_true_eq_false, not_false_eq_true, eq_self, Nat.not_lt_zero, z10, z01, or_true, true_or, or_false, false_or, true_and, false_and, ho9]) (st_b (x := r2) ?_ rfl)
    unfold m_opens
    exact st_f ht_neg (st_b l1 hr)))
  have fMe : FrB M (sc M5 218 e9) := fM5.t ⟨fun i p1 p2 => sc_n p2, fun j _ _ => by rw [sc_n (by decide)]⟩
  by_cases q : (tab g4 C t t 0).2 < 1000000
  rotate_left
  · have w0 : wyR g4 C 0 t = 0 := if_neg q
    refine ⟨_, _, X2 _ (st_t w0 rfl), Y2 _ (st_f (fun e => e w0) rfl), ?_, ?_, fun i p1 p2 p3 p4 p5 => (fss i p2 p3 p4 p5).trans (fx4 i p1 p2 p3 p4 p5), fMe⟩
    · rw [sc_n (by decide)]
      exact h4.fr (fun i p1 p2 => fss i (by omega) (by omega) (by omega) (by omega)) (fun j _ => rfl)
    · rw [sc_n (by decide)]
      exact r4.fr (fun i p1 p2 => fss i (by omega) (by omega) (by omega) (by omega)) (fun j _ => rfl)
  have w1 : wyR g4 C 0 t = 1 := if_pos q
  have okt := (tab_ok h4 (show t < 10 by omega) t (Nat.le_refl _)).1 0
  have okt2 : (tab g4 C t t 0).2 % 100 + 0 ≤ t := (okt.1 q).1
  obtain ⟨f3, A3, s1, s2, s3, s4⟩ := gates_y (c := g4) (S := ss (up2 g4 187 3 (nn t)) a b d) (M := sc M5 218 e9) ht (fun i p1 p2 p3 => fss i (by omega) (by omega) (by omega) (by omega)) (by rw [ss_o (by decide) (by decide) (by decide), u2e, up1_eq]) (fun u hu => by rw [ss_d]; exact (f2 u (Nat.zero_le _) hu).1) (fun u hu => by rw [sc_e]; exact l2 u hu) (F0 := G) (by omega) ((tab g4 C t t 0).2 % 100) 0 0 (g4 5) (M5 216) F G rfl (Nat.zero_le _) q (by omega) (by omega) (by omega) (by rw [sc_s]; exact h4)
  have es1 : sc (ss (up2 g4 187 3 (nn t)) a b d) 5 (g4 5) = ss (up2 g4 187 3 (nn t)) a b d := by
    rw [← fss 5 (by decide) (by decide) (by decide) (by decide)]
    exact sc_s
  have es2 : sc (sc M5 218 e9) 216 (M5 216) = sc M5 218 e9 := by
    have : sc (sc M5 218 e9) 216 ((sc M5 218 e9) 216) = sc M5 218 e9 := sc_s
    rwa [sc_n (show 216 ≠ 218 by decide)] at this
  rw [es1] at s1
  rw [es2] at s2
  refine ⟨sc (ss (up2 g4 187 3 (nn t)) a b d) 5 f3, sc (sc M5 218 e9) 216 A3, X2 _ (st_f (by rw [w1]; decide) (st_b (o := ways_turnGates F 0 _) s1 rfl)), Y2 _ (st_t (by rw [w1]; decide) s2), ?_, ?_, fun i p1 p2 p3 p4 p5 => ?_, ?_⟩
  · rw [sc_e]
    refine s3.fr (fun i p1 p2 => ?_) (fun j _ => rfl)
    by_cases e5 : i = 5
    · rw [e5, sc_e, sc_e]
    · rw [sc_n e5, sc_n e5]
      exact fss i (by omega) (by omega) (by omega) (by omega)
  · rw [sc_e]
    exact r4.fr (fun i p1 p2 => by rw [sc_n (by omega)]; exact fss i (by omega) (by omega) (by omega) (by omega)) (fun j hj => s4 j (by unfold iRig at hj; unfold iNet; omega))
  · rw [sc_n (by omega)]
    exact (fss i p2 p3 p4 p5).trans (fx4 i p1 p2 p3 p4 p5)
  · exact fMe.t ⟨fun i p1 p2 => sc_n p1, fun j p1 p2 => by rw [sc_e, s4 j p1, sc_n (by decide)]⟩
end WG
end
section
/-! go -/
theorem RGau.later {c : Sg} {a : Nat → Int32} {G C Q : Nat} (h : RGau c a G C Q) (n : Nat) : RGau c a G C (Q + n) := by
  apply RGau.mk
  case hG => exact h.hG
  case cG => exact h.cG
  case aG => exact h.aG
  case g0 => exact h.g0
  case g1 => exact h.g1
  case g2 => exact h.g2
  case g3 => exact h.g3
  case gC => exact h.gC
  case gQ => 
    intro k hk
    obtain ⟨q, h1, h2⟩ := h.gQ k hk
    exact ⟨q, by omega, h2⟩
  case gI => exact h.gI
  case gO => exact h.gO
section WH
variable {N C D : Nat}
theorem goL {n : Nat} {F0 G0 : Nat} (hF0 : 200 < F0) (hG0 : 200 < G0) (hn96 : n ≤ 96) : ∀ m i Q F G (g M : Sg), i + m = n → m < F → m < G → Q + m ≤ 9599 → RNet g (M 216) N C Q → RRig g (M 216) D N Q → ∃ g2 M2, x_go_34 F0 F (nn n) (nn i) g = some (nn (Q + m), g2) ∧ m_go_28 G0 G (nn n) (nn i) M = some (nn (Q + m), M2) ∧ RNet g2 (M2 216) N C (Q + m) ∧ RRig g2 (M2 216) D N (Q + m) ∧ FrX g g2 ∧ FrB M M2 := by
  intro m
  induction m with
  | zero =>
    intro i Q F G g M hi hF hG hQ h r
    obtain ⟨F, rfl⟩ : ∃ F2, F = F2 + 1 := ⟨F - 1, by omega⟩
    obtain ⟨G, rfl⟩ : ∃ F2, G = F2 + 1 := ⟨G - 1, by omega⟩
    have : i = n := by omega
    subst this
    refine ⟨g, M, ?_, ?_, h, r, fun _ _ _ _ _ _ => rfl, fun _ _ _ => rfl, fun _ _ _ => rfl⟩
    · unfold x_go_34
      rw [h.cQ]
      exact st_t (Int32.le_refl _) rfl
    · unfold m_go_28
      rw [h.aQ]
      exact st_t (Int32.le_refl _) rfl
  | succ m ih =>
    intro i Q F G g M hi hF hG hQ h r
    obtain ⟨F, rfl⟩ : ∃ F2, F = F2 + 1 := ⟨F - 1, by omega⟩
    obtain ⟨G, rfl⟩ : ∃ F2, G = F2 + 1 := ⟨G - 1, by omega⟩
    have hle : ¬ nn n ≤ nn i := by rw [nnE (by omega) (by omega)]; omega
    have em : nn Q - nn Q / 4 * 4 = nn (Q % 4) := by
      have e : nn Q / 4 * 4 = nn (Q / 4 * 4) := by simp (disch := first | omega | decide) only [lt1, nnMl, nnMr, nnAl, nnAr, nnA, nnM, nnB, nnT, nnP, nnE, nnEl, nnEr, nnL, nnLl, nnLr, nnQ, nnQr, nnN, Nat.add_zero, if_false, if_true, Option.bind_some, not_true, not_false_iff, not_true_eq_false, not_false_eq_true, eq_self, Nat.not_lt_zero, z10, z01, or_true, true_or, or_false, false_or, true_and, false_and, nnDr]
      rw [e, nnS (a := Q) (b := Q / 4 * 4) (by omega), show Q - Q / 4 * 4 = Q % 4 by omega]
    have ei : nn i + 1 = nn (i + 1) := nnA i 1
    have eQ : Q + 1 + m = Q + (m + 1) := by omega
    -- on from a state in which the hour has begun
    have on : ∀ g M : Sg, RNet g (M 216) N C Q → RRig g (M 216) D N (Q + 1) → ∃ g2 M2, Option.bind (net_passQuarter F0 g) (fun g1 => (x_go_34 F0 F (nn n) (nn (i + 1)) g1)) = some (nn (Q + (m + 1)), g2) ∧ m_go_48 G0 (fun v1 v2 g0 => m_go_28 G0 G v1 v2 g0) (nn n) (nn i) M = some (nn (Q + (m + 1)), M2) ∧ RNet g2 (M2 216) N C (Q + (m + 1)) ∧ RRig g2 (M2 216) D N (Q + (m + 1)) ∧ FrX g g2 ∧ FrB M M2 := fun g M h r => by
      obtain ⟨g1, M1, q1, q2, q3, q4, q5⟩ := qua (v1 := nn n) (v2 := nn i) (F0 := F0) (F1 := G0) (by omega) (by omega) (K := fun v1 v2 g0 => m_go_28 G0 G v1 v2 g0) h (by omega)
      have r1 : RRig g1 (M1 216) D N (Q + 1) := r.fr (fun i p1 p2 => q4 i p1) (fun j hj => q5.2 j (by unfold iRig at hj; unfold iNet; omega))
      obtain ⟨g2, M2, s1, s2, s3, s4, s5, s6⟩ := ih (i + 1) (Q + 1) F G g1 M1 (by omega) (by omega) (by omega) (by omega) q3 r1
      rw [eQ] at s1 s2 s3 s4
      refine ⟨g2, M2, st_b q1 s1, ?_, s3, s4, fun j p1 p2 p3 p4 p5 => (s5 j p1 p2 p3 p4 p5).trans (q4 j (by omega)), (FrM.b q5).t s6⟩
      rw [ei] at q2
      exact q2.trans s2
    by_cases q : Q % 4 = 0
    · obtain ⟨g1, M1, b1, b2, b3, b4, b5, b6⟩ := hour_y h r q (by omega) hF0 hG0
      obtain ⟨g2, M2, s1, s2, s3, s4, s5, s6⟩ := on g1 M1 b3 b4
      refine ⟨g2, M2, ?_, ?_, s3, s4, fun j p1 p2 p3 p4 p5 => (s5 j p1 p2 p3 p4 p5).trans (b5 j p1 p2 p3 p4 p5), b6.t s6⟩
      · unfold x_go_34
        rw [h.cQ, em, ei, q]
        exact st_f hle (st_f (fun e => e rfl) (st_b b1 s1))
      · unfold m_go_28
        rw [h.aQ, em, q]
        exact st_f hle (st_f (fun e => e rfl) (st_b b2 s2))
    · obtain ⟨g2, M2, s1, s2, s3, s4, s5, s6⟩ := on g M h (r.tick q)
      have hq : ¬ nn (Q % 4) = 0 := nnNe (b := 0) (by omega) (by decide) q
      refine ⟨g2, M2, ?_, ?_, s3, s4, s5, s6⟩
      · unfold x_go_34
        rw [h.cQ, em, ei]
        exact st_f hle (st_t hq s1)
      · unfold m_go_28
        rw [h.aQ, em]
        exact st_f hle (st_t hq s2)
end WH
section SU
theorem sim_go {TS : Sg → Prop} (hT : TSf TS) : Sim_go (RR TS) := by
  intro v1 g hR
  obtain ⟨N, C, Q, D, T, L, G, h⟩ := hR.now
  have hQ := h.net.hQ
  rcases chkB v1 1 96 96 rfl (by decide) (by decide) with ⟨n, hn1, hn2, rfl, x1, m1⟩ | ⟨x1, m1⟩
  rotate_left
  · have x1 : ∀ g : Sg, x_within v1 1 96 g = some 0 := x1
    have m1 : ∀ g : Sg, m_isIn v1 1 96 g = some 0 := m1
    refine ⟨0, 0, -1, g, g, ?_, ?_, hR⟩
    · unfold x_go
      exact st_b (x1 g) (st_t rfl rfl)
    · unfold m_go
      exact st_b (m1 g) (st_t rfl rfl)
  have x1 : ∀ g : Sg, x_within (nn n) 1 96 g = some 1 := x1
  have m1 : ∀ g : Sg, m_isIn (nn n) 1 96 g = some 1 := m1
  by_cases hq : Q + n ≤ 9599
  rotate_left
  · refine ⟨0, 0, -1, g, g, ?_, ?_, hR⟩
    · unfold x_go
      rw [h.net.cQ]
      exact st_b (x1 g) (st_f (by decide) (st_f (by simp (disch := first | omega | decide) only [lt1, nnMl, nnMr, nnAl, nnAr, nnA, nnM, nnB, nnT, nnP, nnE, nnEl, nnEr, nnL, nnLl, nnLr, nnQ, nnQr, nnN, Nat.add_zero, if_false, if_true, Option.bind_some, not_true, not_false_iff, not_true_eq_false, not_false_eq_true, eq_self, Nat.not_lt_zero, z10, z01, or_true, true_or, or_false, false_or, true_and, false_and, hq]) rfl))
    · unfold m_go
      rw [h.net.aQ]
      exact st_b (m1 g) (st_f (by decide) (st_f (by simp (disch := first | omega | decide) only [lt1, nnMl, nnMr, nnAl, nnAr, nnA, nnM, nnB, nnT, nnP, nnE, nnEl, nnEr, nnL, nnLl, nnLr, nnQ, nnQr, nnN, Nat.add_zero, if_false, if_true, Option.bind_some, not_true, not_false_iff, not_true_eq_false, not_false_eq_true, eq_self, Nat.not_lt_zero, z10, z01, or_true, true_or, or_false, false_or, true_and, false_and, hq]) rfl))
  obtain ⟨g1, _, s1, _, _, _, s5, _⟩ := goL (F0 := 201) (G0 := 201) (by decide) (by decide) hn2 n 0 Q 201 201 g g (by omega) (by omega) (by omega) hq h.net h.rig
  have e216 : g1 216 = g 216 := s5 216 (by omega) (by omega) (by omega) (by omega) (by omega)
  obtain ⟨g2, M2, r1, r2, r3, r4, r5, r6⟩ := goL (F0 := 201) (G0 := 201) (by decide) (by decide) hn2 n 0 Q 201 201 g g1 (by omega) (by omega) (by omega) hq (by rw [e216]; exact h.net) (by rw [e216]; exact h.rig)
  have eg : g2 = g1 := by
    have := r1.symm.trans s1
    exact congrArg Prod.snd (Option.some.inj this)
  subst eg
  refine ⟨201, 201, nn (Q + n), g2, M2, ?_, ?_, ?_⟩
  · unfold x_go
    rw [h.net.cQ]
    exact st_b (x1 g) (st_f (by decide) (st_t (by simp (disch := first | omega | decide) only [lt1, nnMl, nnMr, nnAl, nnAr, nnA, nnM, nnB, nnT, nnP, nnE, nnEl, nnEr, nnL, nnLl, nnLr, nnQ, nnQr, nnN, Nat.add_zero, if_false, if_true, Option.bind_some, not_true, not_false_iff, not_true_eq_false, not_false_eq_true, eq_self, Nat.not_lt_zero, z10, z01, or_true, true_or, or_false, false_or, true_and, false_and, hq]) r1))
  · unfold m_go
    rw [e216, h.net.aQ]
    exact st_b (m1 g2) (st_f (by decide) (st_t (by simp (disch := first | omega | decide) only [lt1, nnMl, nnMr, nnAl, nnAr, nnA, nnM, nnB, nnT, nnP, nnE, nnEl, nnEr, nnL, nnLl, nnLr, nnQ, nnQr, nnN, Nat.add_zero, if_false, if_true, Option.bind_some, not_true, not_false_iff, not_true_eq_false, not_false_eq_true, eq_self, Nat.not_lt_zero, z10, z01, or_true, true_or, or_false, false_or, true_and, false_and, hq]) r2))
  · have fA : ∀ j, ¬ iNet j → ¬ iRig j → M2 216 j = g 216 j := fun j p1 p2 => by rw [r6.2 j p1 p2, e216]
    have fC : ∀ i, 31 ≤ i → i ≠ 187 → i ≠ 188 → i ≠ 189 → i ≠ 190 → i ≠ 216 → i ≠ 218 → M2 i = g i := fun i p1 p2 p3 p4 p5 p6 p7 => (r6.1 i p6 p7).trans (r5 i p1 p2 p3 p4 p5)
    refine RR.put hT hR ⟨N, C, Q + n, D, T, L, G, ?_, ?_, ?_, ?_⟩ ?_ ?_ ?_ ?_
    · exact r3.fr (fun i p1 p2 => r6.1 i (by omega) (by omega)) (fun j _ => rfl)
    · exact r4.fr (fun i p1 p2 => r6.1 i (by omega) (by omega)) (fun j _ => rfl)
    · exact h.law.fr (fun i p1 p2 => fC i (by omega) (by omega) (by omega) (by omega) (by omega) (by omega) (by omega)) (fun j hj => fA j (by unfold iLaw at hj; unfold iNet; omega) (by unfold iLaw at hj; unfold iRig; omega))
    · exact (h.gau.later n).fr (fun i p1 p2 => fC i (by omega) (by omega) (by omega) (by omega) (by omega) (by omega) (by omega)) (fun j hj => fA j (by unfold iGau at hj; unfold iNet; omega) (by unfold iGau at hj; unfold iRig; omega))
    · exact fun i p1 p2 => fC i (by omega) (by omega) (by omega) (by omega) (by omega) (by omega) (by omega)
    · exact fun j p1 => fA j (by unfold iNet; omega) (by unfold iRig; omega)
    · exact fC 217 (by omega) (by omega) (by omega) (by omega) (by omega) (by omega) (by omega)
    · exact fun i p1 p2 => fC i (by omega) (by omega) (by omega) (by omega) (by omega) (by omega) (by omega)
end SU
end
section
/-! stolen: what both sides reckon -/
theorem pigeon : ∀ (n m : Nat) (f : Nat → Nat), (∀ i, i < m → f i < n) → (∀ i j, i < m → j < m → f i = f j → i = j) → m ≤ n := by
  intro n
  induction n with
  | zero =>
    intro m f h _
    by_cases e : m = 0
    · omega
    · exact absurd (h 0 (by omega)) (by omega)
  | succ n ih =>
    intro m f h hi
    by_cases e : m = 0
    · omega
    obtain ⟨k, rfl⟩ : ∃ k, m = k + 1 := ⟨m - 1, by omega⟩
    have := ih k (fun i => if f k < f i then f i - 1 else f i) (fun i hk => by
      show (if f k < f i then f i - 1 else f i) < n
      have h1 := h i (by omega)
      have h2 := h k (by omega)
      have h3 : f i ≠ f k := fun q => by
        have := hi i k (by omega) (by omega) q
        omega
      split <;> omega) (fun i j h1 h2 h3 => by
      have h3 : (if f k < f i then f i - 1 else f i) = (if f k < f j then f j - 1 else f j) := h3
      have h4 : f i ≠ f k := fun q => by
        have := hi i k (by omega) (by omega) q
        omega
      have h5 : f j ≠ f k := fun q => by
        have := hi j k (by omega) (by omega) q
        omega
      refine hi i j (by omega) (by omega) ?_
      split at h3 <;> split at h3 <;> omega)
    omega
def lstR (c : Sg) (x q : Int32) : Nat → Option Nat
  | 0 => none
  | r + 1 => if c 43 r = x ∧ c 44 r = q then some r else lstR c x q r
theorem lstR_p {c : Sg} {x q : Int32} : ∀ {n r : Nat}, lstR c x q n = some r → r < n ∧ c 43 r = x ∧ c 44 r = q
  | 0, r, h => by cases h
  | n + 1, r, h => by
    by_cases e : c 43 n = x ∧ c 44 n = q
    · rw [show lstR c x q (n + 1) = some n from if_pos e] at h
      cases h
      exact ⟨Nat.lt_succ_self _, e⟩
    · rw [show lstR c x q (n + 1) = lstR c x q n from if_neg e] at h
      have := lstR_p h
      exact ⟨by omega, this.2⟩
def leI (c : Sg) (t : Int32) (r : Nat) : Int32 := c 45 r - c 45 r * c 12 (cn c 43 r) / 1000 - t
def moI (c : Sg) (t : Int32) (r : Nat) : Int32 := c 45 r - c 45 r * c 11 (cn c 43 r) / 1000 + t
def lkI (c : Sg) (t : Int32) (r : Nat) : Int32 := leI c t r - c 46 r
def CNT (c : Sg) (x : Int32) (G r : Nat) : Prop := c 43 r = x ∧ lstR c x (c 44 r) G = some r
def STO (c : Sg) (t : Int32) (r : Nat) : Prop := 0 < lkI c t r
def SA (c : Sg) (x t : Int32) (G : Nat) (q : Int32) : Prop := ∃ r, lstR c x q G = some r ∧ STO c t r
theorem ofI_lt {a b : Int} (ha : -100000 < a) (ha2 : a < 100000) (hb : -100000 < b) (hb2 : b < 100000) : Int32.ofInt a < Int32.ofInt b ↔ a < b := by
  rw [Int32.lt_iff_toInt_lt, Int32.toInt_ofInt, Int32.toInt_ofInt, Int.bmod_def, Int.bmod_def, show Int32.size = 4294967296 from rfl]
  omega
theorem nn_ofI (n : Nat) : nn n = Int32.ofInt n := rfl
section WI
variable {c : Sg} {a0 : Nat → Int32} {N C Q G : Nat}
theorem row_v (h : RNet c a0 N C Q) (r : RGau c a0 G C Q) {i : Nat} (hi : i < G) : ∃ k q v o lo hi, k < C ∧ q ≤ Q ∧ v ≤ 9999 ∧ o ≤ 9999 ∧ lo ≤ 500 ∧ hi ≤ 500 ∧ c 43 i = nn k ∧ cn c 43 i = k ∧ c 44 i = nn q ∧ c 45 i = nn v ∧ c 46 i = nn o ∧ c 11 k = nn lo ∧ c 12 k = nn hi := by
  have hC := h.hC
  obtain ⟨k, k1, k2⟩ := r.gC i hi
  obtain ⟨q, q1, q2⟩ := r.gQ i hi
  obtain ⟨v, v1, v2⟩ := r.gI i hi
  obtain ⟨o, o1, o2⟩ := r.gO i hi
  obtain ⟨lo, l1, l2⟩ := h.lowV k k1
  obtain ⟨hi, h1, h2⟩ := h.higV k k1
  exact ⟨k, q, v, o, lo, hi, k1, q1, v1, o1, l1, h1, k2, by unfold cn; rw [k2, nnT (by omega)], q2, v2, o2, l2, h2⟩
theorem lack_lt (h : RNet c a0 N C Q) (r : RGau c a0 G C Q) {i tt : Nat} (hi : i < G) (ht : tt ≤ 999) : c 46 i < leI c (nn tt) i ↔ STO c (nn tt) i := by
  obtain ⟨k, q, v, o, lo, hh, _, _, v1, o1, _, h1, e1, e2, e3, e4, e5, e6, e7⟩ := row_v h r hi
  unfold STO lkI leI
  rw [e2, e4, e5, e7, nnM]
  have e8 : nn (v * hh) / 1000 = nn (v * hh / 1000) := by
    have : v * hh ≤ 9999 * 500 := Nat.mul_le_mul v1 h1
    simp (disch := first | omega | decide) only [lt1, nnMl, nnMr, nnAl, nnAr, nnA, nnM, nnB, nnT, nnP, nnE, nnEl, nnEr, nnL, nnLl, nnLr, nnQ, nnQr, nnN, Nat.add_zero, if_false, if_true, Option.bind_some, not_true, not_false_iff, not_true_eq_false, not_false_eq_true, eq_self, Nat.not_lt_zero, z10, z01, or_true, true_or, or_false, false_or, true_and, false_and, nnDr]
  have e9 : v * hh / 1000 ≤ v := by
    have : v * hh ≤ v * 500 := Nat.mul_le_mul (Nat.le_refl v) h1
    omega
  rw [e8, nnS e9]
  have hw : v - v * hh / 1000 ≤ 9999 := by omega
  generalize v - v * hh / 1000 = w at *
  rw [nn_ofI, nn_ofI, nn_ofI, ← Int32.ofInt_sub, ← Int32.ofInt_sub, show (0 : Int32) = Int32.ofInt 0 from rfl, ofI_lt (by omega) (by omega) (by omega) (by omega), ofI_lt (by omega) (by omega) (by omega) (by omega)]
  omega
end WI
/-- runs of quarters -/
def isRun (c : Sg) (x t : Int32) (G q L : Nat) : Prop := (∀ i, 1 ≤ i → i ≤ L → SA c x t G (nn (q + i))) ∧ ¬ SA c x t G (nn (q + L + 1))
theorem isRun.u {c : Sg} {x t : Int32} {G q L L2 : Nat} (h : isRun c x t G q L) (h2 : isRun c x t G q L2) : L = L2 := by
  by_cases e : L < L2
  · exact absurd (h2.1 (L + 1) (by omega) (by omega)) h.2
  · by_cases e2 : L2 < L
    · exact absurd (h.1 (L2 + 1) (by omega) (by omega)) h2.2
    · omega
theorem isRun.p {c : Sg} {x t : Int32} {G q L : Nat} (h : isRun c x t G (q + 1) L) (h2 : SA c x t G (nn (q + 1))) : isRun c x t G q (L + 1) := by
  refine ⟨fun i h3 h4 => ?_, ?_⟩
  · by_cases e : i = 1
    · rw [e]; exact h2
    · have := h.1 (i - 1) (by omega) (by omega)
      rwa [show q + 1 + (i - 1) = q + i by omega] at this
  · have := h.2
    rwa [show q + 1 + L + 1 = q + (L + 1) + 1 by omega] at this
theorem run_ex {c : Sg} {x t : Int32} {G q : Nat} (hG : G ≤ 150) (hq : q ≤ 9599) (h : SA c x t G (nn q)) : ∃ L, L ≤ 149 ∧ isRun c x t G q L := by
  have step : ∀ k, (∀ i, 1 ≤ i → i ≤ k → SA c x t G (nn (q + i))) ∨ ∃ L, L < k ∧ isRun c x t G q L := by
    intro k
    induction k with
    | zero => exact Or.inl (fun i h1 h2 => absurd h1 (by omega))
    | succ k ih =>
      rcases ih with ih | ⟨L, h1, h2⟩
      · by_cases e : SA c x t G (nn (q + k + 1))
        · refine Or.inl (fun i h1 h2 => ?_)
          by_cases e2 : i = k + 1
          · rw [e2]; exact e
          · exact ih i h1 (by omega)
        · exact Or.inr ⟨k, Nat.lt_succ_self _, ih, e⟩
      · exact Or.inr ⟨L, by omega, h2⟩
  rcases step 150 with h1 | ⟨L, h1, h2⟩
  · exfalso
    have hh : ∀ i, ∃ r, i < 151 → r < G ∧ c 44 r = nn (q + i) := fun i => by
      by_cases e : i < 151
      · have : SA c x t G (nn (q + i)) := by
          by_cases e0 : i = 0
          · rw [e0]; exact h
          · exact h1 i (by omega) (by omega)
        obtain ⟨r, r1, _⟩ := this
        have := lstR_p r1
        exact ⟨r, fun _ => ⟨this.1, this.2.2⟩⟩
      · exact ⟨0, fun e2 => absurd e2 e⟩
    obtain ⟨f, hf⟩ := Classical.axiomOfChoice hh
    have := pigeon G 151 f (fun i hi => (hf i hi).1) (fun i j hi hj e => by
      have e1 := (hf i hi).2
      have e2 := (hf j hj).2
      rw [e, e2, nnQ (by omega) (by omega)] at e1
      omega)
    omega
  · exact ⟨L, by omega, h2⟩
noncomputable def b01 (P : Prop) : Int32 := by
  classical
  exact if P then 1 else 0
theorem b01_y {P : Prop} (h : P) : b01 P = 1 := if_pos h
theorem b01_n {P : Prop} (h : ¬ P) : b01 P = 0 := if_neg h
section WJ
variable {g : Sg} {N C Q G : Nat}
theorem latL (r : RGau g (g 216) G C Q) {x q : Int32} : ∀ n F, n ≤ G → n < F → gauges_latestRow_7 F x q (nn n - 1) g = some (oN (lstR g x q n)) := by
  have hG := r.hG
  intro n
  induction n with
  | zero =>
    intro F h1 h2
    obtain ⟨F, rfl⟩ : ∃ F2, F = F2 + 1 := ⟨F - 1, by omega⟩
    unfold gauges_latestRow_7
    exact st_t (by decide) rfl
  | succ n ih =>
    intro F h1 h2
    obtain ⟨F, rfl⟩ : ∃ F2, F = F2 + 1 := ⟨F - 1, by omega⟩
    have hn : n < 150 := by omega
    have hi : inb (nn n) 150 = true := by simp (disch := first | omega | decide) only [lt1, nnMl, nnMr, nnAl, nnAr, nnA, nnM, nnB, nnT, nnP, nnE, nnEl, nnEr, nnL, nnLl, nnLr, nnQ, nnQr, nnN, Nat.add_zero, if_false, if_true, Option.bind_some, not_true, not_false_iff, not_true_eq_false, not_false_eq_true, eq_self, Nat.not_lt_zero, z10, z01, or_true, true_or, or_false, false_or, true_and, false_and, hn]
    have em : nn n + (-1) = nn n - 1 := (Int32.sub_eq_add_neg _ _).symm
    have IH := ih F (by omega) (by omega)
    unfold gauges_latestRow_7
    rw [nnS1, nnT (by omega), em]
    refine st_f (by rw [nnP (by omega)]; exact id) (st_t hi ?_)
    by_cases e1 : g 43 n = x
    · refine st_f (fun e => e e1) (st_t hi ?_)
      by_cases e2 : g 44 n = q
      · rw [show lstR g x q (n + 1) = some n from if_pos ⟨e1, e2⟩]
        exact st_f (fun e => e e2) rfl
      · rw [show lstR g x q (n + 1) = lstR g x q n from if_neg (fun e => e2 e.2)]
        exact st_t e2 IH
    · rw [show lstR g x q (n + 1) = lstR g x q n from if_neg (fun e => e1 e.1)]
      exact st_t e1 IH
theorem lat_x (r : RGau g (g 216) G C Q) {x q : Int32} {F : Nat} (hF : 150 < F) : gauges_latestRow F x q g = some (oN (lstR g x q G)) := by
  unfold gauges_latestRow
  rw [r.cG]
  exact st_l (latL r G F (Nat.le_refl _) (by have := r.hG; omega))
theorem rowML (r : RGau g (g 216) G C Q) {x q : Int32} : ∀ m n F, n + m = G → m < F → m_rowOf_5 F x q (oN (lstR g x q n)) (nn n) g = some (oN (lstR g x q G)) := by
  have hG := r.hG
  intro m
  induction m with
  | zero =>
    intro n F h1 h2
    obtain ⟨F, rfl⟩ : ∃ F2, F = F2 + 1 := ⟨F - 1, by omega⟩
    have : n = G := by omega
    subst this
    unfold m_rowOf_5
    rw [r.aG]
    exact if_pos (Int32.le_refl _)
  | succ m ih =>
    intro n F h1 h2
    obtain ⟨F, rfl⟩ : ∃ F2, F = F2 + 1 := ⟨F - 1, by omega⟩
    have hn : n < 150 := by omega
    have i0 : 1270 + 4 * n < 20360 := by omega
    have i1 : 1270 + 4 * n + 1 < 20360 := by omega
    have h3 : ¬ G ≤ n := by omega
    have x0 : (1270 + 4 * nn n : Int32) = nn (1270 + 4 * n) := by simp (disch := first | omega | decide) only [lt1, nnMl, nnMr, nnAl, nnAr, nnA, nnM, nnB, nnT, nnP, nnE, nnEl, nnEr, nnL, nnLl, nnLr, nnQ, nnQr, nnN, Nat.add_zero, if_false, if_true, Option.bind_some, not_true, not_false_iff, not_true_eq_false, not_false_eq_true, eq_self, Nat.not_lt_zero, z10, z01, or_true, true_or, or_false, false_or, true_and, false_and]
    have x1 : nn (1270 + 4 * n) + 1 = nn (1270 + 4 * n + 1) := nnA _ 1
    have IH := ih (n + 1) F (by omega) (by omega)
    unfold m_rowOf_5
    rw [r.aG, x0, x1, nnT (show 1270 + 4 * n < 2147483648 by omega), nnT (show 1270 + 4 * n + 1 < 2147483648 by omega), r.g0 n hn, r.g1 n hn, show nn n + 1 = nn (n + 1) from nnA n 1]
    refine st_f (by simp (disch := first | omega | decide) only [lt1, nnMl, nnMr, nnAl, nnAr, nnA, nnM, nnB, nnT, nnP, nnE, nnEl, nnEr, nnL, nnLl, nnLr, nnQ, nnQr, nnN, Nat.add_zero, if_false, if_true, Option.bind_some, not_true, not_false_iff, not_true_eq_false, not_false_eq_true, eq_self, Nat.not_lt_zero, z10, z01, or_true, true_or, or_false, false_or, true_and, false_and, h3]) (st_t (by simp (disch := first | omega | decide) only [lt1, nnMl, nnMr, nnAl, nnAr, nnA, nnM, nnB, nnT, nnP, nnE, nnEl, nnEr, nnL, nnLl, nnLr, nnQ, nnQr, nnN, Nat.add_zero, if_false, if_true, Option.bind_some, not_true, not_false_iff, not_true_eq_false, not_false_eq_true, eq_self, Nat.not_lt_zero, z10, z01, or_true, true_or, or_false, false_or, true_and, false_and, i0]) ?_)
    by_cases e1 : g 43 n = x
    · refine st_f (fun e => e e1) (st_t (by simp (disch := first | omega | decide) only [lt1, nnMl, nnMr, nnAl, nnAr, nnA, nnM, nnB, nnT, nnP, nnE, nnEl, nnEr, nnL, nnLl, nnLr, nnQ, nnQr, nnN, Nat.add_zero, if_false, if_true, Option.bind_some, not_true, not_false_iff, not_true_eq_false, not_false_eq_true, eq_self, Nat.not_lt_zero, z10, z01, or_true, true_or, or_false, false_or, true_and, false_and, i1]) ?_)
      by_cases e2 : g 44 n = q
      · rw [show lstR g x q (n + 1) = some n from if_pos ⟨e1, e2⟩] at IH
        exact st_f (fun e => e e2) IH
      · rw [show lstR g x q (n + 1) = lstR g x q n from if_neg (fun e => e2 e.2)] at IH
        exact st_t e2 IH
    · rw [show lstR g x q (n + 1) = lstR g x q n from if_neg (fun e => e1 e.1)] at IH
      exact st_t e1 IH
theorem row_m (r : RGau g (g 216) G C Q) {x q : Int32} {F : Nat} (hF : 150 < F) : m_rowOf F x q g = some (oN (lstR g x q G)) := rowML r G 0 F (Nat.zero_add _) (by have := r.hG; omega)
theorem oN_eq {o : Option Nat} {i : Nat} (hi : i < 2147483648) (h : ∀ j, o = some j → j < 2147483648) : oN o = nn i ↔ o = some i := by
  cases o with
  | none => exact ⟨fun e => absurd e (nnN1 hi), fun e => by cases e⟩
  | some j =>
    have hj := h j rfl
    constructor
    · intro e
      have e : nn j = nn i := e
      rw [nnQ hj hi] at e
      rw [e]
    · intro e
      cases e
      rfl
theorem cnt_x (r : RGau g (g 216) G C Q) {i : Nat} (hi : i < G) {x : Int32} {F : Nat} (hF : 150 < F) : gauges_counts F (nn i) x g = some (b01 (CNT g x G i)) := by
  have hG := r.hG
  have hi5 : i < 150 := by omega
  unfold gauges_counts
  rw [nnT (by omega)]
  refine st_t (by simp (disch := first | omega | decide) only [lt1, nnMl, nnMr, nnAl, nnAr, nnA, nnM, nnB, nnT, nnP, nnE, nnEl, nnEr, nnL, nnLl, nnLr, nnQ, nnQr, nnN, Nat.add_zero, if_false, if_true, Option.bind_some, not_true, not_false_iff, not_true_eq_false, not_false_eq_true, eq_self, Nat.not_lt_zero, z10, z01, or_true, true_or, or_false, false_or, true_and, false_and, hi5]) ?_
  by_cases e : g 43 i = x
  · refine st_f (fun q => q e) (st_t (by simp (disch := first | omega | decide) only [lt1, nnMl, nnMr, nnAl, nnAr, nnA, nnM, nnB, nnT, nnP, nnE, nnEl, nnEr, nnL, nnLl, nnLr, nnQ, nnQr, nnN, Nat.add_zero, if_false, if_true, Option.bind_some, not_true, not_false_iff, not_true_eq_false, not_false_eq_true, eq_self, Nat.not_lt_zero, z10, z01, or_true, true_or, or_false, false_or, true_and, false_and, hi5]) (st_b (lat_x r hF) ?_))
    have k := oN_eq (o := lstR g x (g 44 i) G) (i := i) (by omega) (fun j hj => by have := (lstR_p hj).1; omega)
    by_cases e2 : lstR g x (g 44 i) G = some i
    · rw [b01_y ⟨e, e2⟩]
      exact st_f (fun q => q (k.mpr e2)) rfl
    · rw [b01_n (fun q => e2 q.2)]
      exact st_t (fun q => e2 (k.mp q)) rfl
  · rw [b01_n (fun q => e q.1)]
    exact st_t e rfl
theorem lst_x (h : RNet g (g 216) N C Q) (r : RGau g (g 216) G C Q) {i : Nat} (hi : i < G) {t : Int32} : gauges_leastThatCloses (nn i) t g = some (leI g t i) ∧ gauges_mostThatCloses (nn i) t g = some (moI g t i) := by
  have hG := r.hG
  have hC := h.hC
  have hi5 : i < 150 := by omega
  have hin : inb (nn i) 150 = true := by simp (disch := first | omega | decide) only [lt1, nnMl, nnMr, nnAl, nnAr, nnA, nnM, nnB, nnT, nnP, nnE, nnEl, nnEr, nnL, nnLl, nnLr, nnQ, nnQr, nnN, Nat.add_zero, if_false, if_true, Option.bind_some, not_true, not_false_iff, not_true_eq_false, not_false_eq_true, eq_self, Nat.not_lt_zero, z10, z01, or_true, true_or, or_false, false_or, true_and, false_and, hi5]
  obtain ⟨k, k1, k2⟩ := r.gC i hi
  have hk14 : k < 14 := by omega
  have ek : cn g 43 i = k := by unfold cn; rw [k2, nnT (by omega)]
  constructor
  · unfold gauges_leastThatCloses leI
    rw [nnT (show i < 2147483648 by omega), k2, ek]
    refine st_w hin (st_b (hC_y h.cC hC k1) (st_f (by decide) (st_t hin (st_t hin (st_t (by simp (disch := first | omega | decide) only [lt1, nnMl, nnMr, nnAl, nnAr, nnA, nnM, nnB, nnT, nnP, nnE, nnEl, nnEr, nnL, nnLl, nnLr, nnQ, nnQr, nnN, Nat.add_zero, if_false, if_true, Option.bind_some, not_true, not_false_iff, not_true_eq_false, not_false_eq_true, eq_self, Nat.not_lt_zero, z10, z01, or_true, true_or, or_false, false_or, true_and, false_and, hk14]) ?_)))))
    rw [nnT (show k < 2147483648 by omega)]
  · unfold gauges_mostThatCloses moI
    rw [nnT (show i < 2147483648 by omega), k2, ek]
    refine st_w hin (st_b (hC_y h.cC hC k1) (st_f (by decide) (st_t hin (st_t hin (st_t (by simp (disch := first | omega | decide) only [lt1, nnMl, nnMr, nnAl, nnAr, nnA, nnM, nnB, nnT, nnP, nnE, nnEl, nnEr, nnL, nnLl, nnLr, nnQ, nnQr, nnN, Nat.add_zero, if_false, if_true, Option.bind_some, not_true, not_false_iff, not_true_eq_false, not_false_eq_true, eq_self, Nat.not_lt_zero, z10, z01, or_true, true_or, or_false, false_or, true_and, false_and, hk14]) ?_)))))
    rw [nnT (show k < 2147483648 by omega)]
theorem lack_x (h : RNet g (g 216) N C Q) (r : RGau g (g 216) G C Q) {i : Nat} (hi : i < G) {t : Int32} : gauges_lack (nn i) t g = some (if 0 < lkI g t i then lkI g t i else 0) := by
  have hG := r.hG
  have hi5 : i < 150 := by omega
  unfold gauges_lack
  rw [nnT (show i < 2147483648 by omega)]
  exact st_b (lst_x h r hi).1 (st_t (by simp (disch := first | omega | decide) only [lt1, nnMl, nnMr, nnAl, nnAr, nnA, nnM, nnB, nnT, nnP, nnE, nnEl, nnEr, nnL, nnLl, nnLr, nnQ, nnQr, nnN, Nat.add_zero, if_false, if_true, Option.bind_some, not_true, not_false_iff, not_true_eq_false, not_false_eq_true, eq_self, Nat.not_lt_zero, z10, z01, or_true, true_or, or_false, false_or, true_and, false_and, hi5]) rfl)
theorem lackle {v : Int32} : ((if 0 < v then v else 0) ≤ 0) ↔ ¬ 0 < v := by
  by_cases e : 0 < v
  · rw [if_pos e]
    exact ⟨fun q => absurd e (Int32.not_lt.mpr q), fun q => absurd e q⟩
  · rw [if_neg e]
    exact ⟨fun _ => e, fun _ => Int32.le_refl _⟩
theorem lacksAt_x (h : RNet g (g 216) N C Q) (r : RGau g (g 216) G C Q) {x q t : Int32} {F : Nat} (hF : 150 < F) : gauges_lacksAt F x q t g = some (b01 (SA g x t G q)) := by
  have hG := r.hG
  unfold gauges_lacksAt
  refine st_b (lat_x r hF) ?_
  cases e : lstR g x q G with
  | none =>
    rw [b01_n (fun ⟨r, q1, _⟩ => by rw [e] at q1; cases q1)]
    exact st_t rfl rfl
  | some i =>
    have hi := (lstR_p e).1
    refine st_f (show ¬ nn i = -1 from fun q => nnN1 (by omega) q.symm) (st_b (lack_x h r hi) ?_)
    by_cases e2 : 0 < lkI g t i
    · rw [b01_y ⟨i, e, e2⟩]
      exact st_f (fun q => (lackle.mp q) e2) rfl
    · rw [b01_n (fun ⟨r2, q1, q2⟩ => by rw [e] at q1; cases q1; exact e2 q2)]
      exact st_t (lackle.mpr e2) rfl
theorem rowIx (i : Nat) : (1270 + 4 * nn i : Int32) = nn (1270 + 4 * i) ∧ nn (1270 + 4 * i) + 1 = nn (1270 + 4 * i + 1) ∧ nn (1270 + 4 * i) + 2 = nn (1270 + 4 * i + 2) ∧ nn (1270 + 4 * i) + 3 = nn (1270 + 4 * i + 3) := by
  refine ⟨?_, nnA _ 1, nnA _ 2, nnA _ 3⟩
  simp (disch := first | omega | decide) only [lt1, nnMl, nnMr, nnAl, nnAr, nnA, nnM, nnB, nnT, nnP, nnE, nnEl, nnEr, nnL, nnLl, nnLr, nnQ, nnQr, nnN, Nat.add_zero, if_false, if_true, Option.bind_some, not_true, not_false_iff, not_true_eq_false, not_false_eq_true, eq_self, Nat.not_lt_zero, z10, z01, or_true, true_or, or_false, false_or, true_and, false_and]
theorem lacks_m (h : RNet g (g 216) N C Q) (r : RGau g (g 216) G C Q) {i : Nat} (hi : i < G) {t : Int32} : m_lacks (nn i) t g = some (lkI g t i) := by
  have hG := r.hG
  have hC := h.hC
  have hi5 : i < 150 := by omega
  have i0 : 1270 + 4 * i < 20360 := by omega
  have i2 : 1270 + 4 * i + 2 < 20360 := by omega
  have i3 : 1270 + 4 * i + 3 < 20360 := by omega
  obtain ⟨x0, x1, x2, x3⟩ := rowIx i
  obtain ⟨k, k1, k2⟩ := r.gC i hi
  have ek : cn g 43 i = k := by unfold cn; rw [k2, nnT (by omega)]
  unfold m_lacks lkI leI
  rw [x0, x2, x3, nnT (show 1270 + 4 * i < 2147483648 by omega), nnT (show 1270 + 4 * i + 2 < 2147483648 by omega), nnT (show 1270 + 4 * i + 3 < 2147483648 by omega), r.g0 i hi5, r.g2 i hi5, r.g3 i hi5, k2, ek]
  exact st_w (by simp (disch := first | omega | decide) only [lt1, nnMl, nnMr, nnAl, nnAr, nnA, nnM, nnB, nnT, nnP, nnE, nnEl, nnEr, nnL, nnLl, nnLr, nnQ, nnQr, nnN, Nat.add_zero, if_false, if_true, Option.bind_some, not_true, not_false_iff, not_true_eq_false, not_false_eq_true, eq_self, Nat.not_lt_zero, z10, z01, or_true, true_or, or_false, false_or, true_and, false_and, i2]) (st_t (by simp (disch := first | omega | decide) only [lt1, nnMl, nnMr, nnAl, nnAr, nnA, nnM, nnB, nnT, nnP, nnE, nnEl, nnEr, nnL, nnLl, nnLr, nnQ, nnQr, nnN, Nat.add_zero, if_false, if_true, Option.bind_some, not_true, not_false_iff, not_true_eq_false, not_false_eq_true, eq_self, Nat.not_lt_zero, z10, z01, or_true, true_or, or_false, false_or, true_and, false_and, i0]) (st_b (mch3 h (show k < 14 by omega)) (st_t (by simp (disch := first | omega | decide) only [lt1, nnMl, nnMr, nnAl, nnAr, nnA, nnM, nnB, nnT, nnP, nnE, nnEl, nnEr, nnL, nnLl, nnLr, nnQ, nnQr, nnN, Nat.add_zero, if_false, if_true, Option.bind_some, not_true, not_false_iff, not_true_eq_false, not_false_eq_true, eq_self, Nat.not_lt_zero, z10, z01, or_true, true_or, or_false, false_or, true_and, false_and, i3]) rfl)))
theorem closes_m (h : RNet g (g 216) N C Q) (r : RGau g (g 216) G C Q) {i : Nat} (hi : i < G) {t : Int32} : m_closes (nn i) t g = some (b01 (¬ STO g t i ∧ ¬ moI g t i < g 46 i)) := by
  have hG := r.hG
  have hC := h.hC
  have hi5 : i < 150 := by omega
  have i0 : 1270 + 4 * i < 20360 := by omega
  have i2 : 1270 + 4 * i + 2 < 20360 := by omega
  have i3 : 1270 + 4 * i + 3 < 20360 := by omega
  obtain ⟨x0, x1, x2, x3⟩ := rowIx i
  obtain ⟨k, k1, k2⟩ := r.gC i hi
  have ek : cn g 43 i = k := by unfold cn; rw [k2, nnT (by omega)]
  unfold m_closes
  rw [x0, x2, x3, nnT (show 1270 + 4 * i < 2147483648 by omega), nnT (show 1270 + 4 * i + 2 < 2147483648 by omega), nnT (show 1270 + 4 * i + 3 < 2147483648 by omega), r.g0 i hi5, r.g2 i hi5, r.g3 i hi5, k2]
  refine st_w (by simp (disch := first | omega | decide) only [lt1, nnMl, nnMr, nnAl, nnAr, nnA, nnM, nnB, nnT, nnP, nnE, nnEl, nnEr, nnL, nnLl, nnLr, nnQ, nnQr, nnN, Nat.add_zero, if_false, if_true, Option.bind_some, not_true, not_false_iff, not_true_eq_false, not_false_eq_true, eq_self, Nat.not_lt_zero, z10, z01, or_true, true_or, or_false, false_or, true_and, false_and, i2]) (st_b (lacks_m h r hi) ?_)
  by_cases e : 0 < lkI g t i
  · rw [b01_n (fun q => q.1 e)]
    exact st_t e rfl
  · refine st_f e (st_t (by simp (disch := first | omega | decide) only [lt1, nnMl, nnMr, nnAl, nnAr, nnA, nnM, nnB, nnT, nnP, nnE, nnEl, nnEr, nnL, nnLl, nnLr, nnQ, nnQr, nnN, Nat.add_zero, if_false, if_true, Option.bind_some, not_true, not_false_iff, not_true_eq_false, not_false_eq_true, eq_self, Nat.not_lt_zero, z10, z01, or_true, true_or, or_false, false_or, true_and, false_and, i3]) (st_t (by simp (disch := first | omega | decide) only [lt1, nnMl, nnMr, nnAl, nnAr, nnA, nnM, nnB, nnT, nnP, nnE, nnEl, nnEr, nnL, nnLl, nnLr, nnQ, nnQr, nnN, Nat.add_zero, if_false, if_true, Option.bind_some, not_true, not_false_iff, not_true_eq_false, not_false_eq_true, eq_self, Nat.not_lt_zero, z10, z01, or_true, true_or, or_false, false_or, true_and, false_and, i0]) (st_b (mch2 h (show k < 14 by omega)) ?_)))
    have em : g 45 i - g 45 i * g 11 k / 1000 + t = moI g t i := by unfold moI; rw [ek]
    rw [em]
    by_cases e2 : moI g t i < g 46 i
    · rw [b01_n (fun q => q.2 e2)]
      exact st_t e2 rfl
    · rw [b01_y ⟨e, e2⟩]
      exact st_f e2 rfl
theorem isSto_m (h : RNet g (g 216) N C Q) (r : RGau g (g 216) G C Q) {x q t : Int32} {F : Nat} (hF : 150 < F) : m_isStolen F x q t g = some (b01 (SA g x t G q)) := by
  have hG := r.hG
  unfold m_isStolen
  refine st_b (row_m r hF) ?_
  cases e : lstR g x q G with
  | none =>
    rw [b01_n (fun ⟨r, q1, _⟩ => by rw [e] at q1; cases q1)]
    exact st_t (show (-1 : Int32) < 0 by decide) rfl
  | some i =>
    have hi := (lstR_p e).1
    refine st_f (show ¬ nn i < 0 by rw [nnP (by omega)]; exact id) (st_b (lacks_m h r hi) ?_)
    by_cases e2 : 0 < lkI g t i
    · rw [b01_y ⟨i, e, e2⟩]
      exact st_f (Int32.not_le.mpr e2) rfl
    · rw [b01_n (fun ⟨r2, q1, q2⟩ => by rw [e] at q1; cases q1; exact e2 q2)]
      exact st_t (Int32.not_lt.mp e2) rfl
end WJ
end
section
/-! stolen, both sides -/
def BST (S : Nat → Prop) (run : Nat → Nat → Prop) (q : Nat → Nat) (m L s : Nat) : Prop := L ≤ 150 ∧ s ≤ 9599 ∧ ((L = 0 ∧ ∀ i, i < m → ¬ S i) ∨ (1 ≤ L ∧ (∃ i, i < m ∧ S i ∧ run i (L - 1) ∧ q i = s) ∧ ∀ i, i < m → S i → ∃ l, run i l ∧ (l + 1 < L ∨ (l + 1 = L ∧ s ≤ q i))))
def oB (L s : Nat) : Int32 := if L = 0 then -1 else nn s
theorem BST.n {S : Nat → Prop} {run : Nat → Nat → Prop} {q : Nat → Nat} {m L s : Nat} (h : BST S run q m L s) (hS : ¬ S m) : BST S run q (m + 1) L s := by
  obtain ⟨h1, h2, h3⟩ := h
  refine ⟨h1, h2, ?_⟩
  rcases h3 with ⟨h3, h4⟩ | ⟨h3, ⟨i, i1, i2⟩, h4⟩
  · refine Or.inl ⟨h3, fun i hi => ?_⟩
    by_cases e : i = m
    · rw [e]; exact hS
    · exact h4 i (by omega)
  · refine Or.inr ⟨h3, ⟨i, by omega, i2⟩, fun i hi hs => ?_⟩
    by_cases e : i = m
    · rw [e] at hs; exact absurd hs hS
    · exact h4 i (by omega) hs
theorem BST.y {S : Nat → Prop} {run : Nat → Nat → Prop} {q : Nat → Nat} {m L s l : Nat} (h : BST S run q m L s) (hS : S m) (hr : run m l) (hl : l ≤ 149) (hq : q m ≤ 9599) (K : Int32 → Int32 → Option Int32) : ∃ L2 s2, BST S run q (m + 1) L2 s2 ∧ (if nn L < nn (l + 1) then K (nn (l + 1)) (nn (q m)) else (if ¬ nn (l + 1) = nn L then K (nn L) (oB L s) else (if oB L s ≤ nn (q m) then K (nn L) (oB L s) else K (nn (l + 1)) (nn (q m))))) = K (nn L2) (oB L2 s2) := by
  obtain ⟨h1, h2, h3⟩ := h
  have hnew : (L < l + 1 ∨ (l + 1 = L ∧ q m < s)) → BST S run q (m + 1) (l + 1) (q m) := fun hlt => by
    refine ⟨by omega, hq, Or.inr ⟨by omega, ⟨m, Nat.lt_succ_self _, hS, hr, rfl⟩, fun i hi hs => ?_⟩⟩
    by_cases e : i = m
    · rw [e]; exact ⟨l, hr, Or.inr ⟨rfl, Nat.le_refl _⟩⟩
    · rcases h3 with ⟨_, h4⟩ | ⟨_, _, h4⟩
      · exact absurd hs (h4 i (by omega))
      · obtain ⟨l2, r1, r2⟩ := h4 i (by omega) hs
        exact ⟨l2, r1, by omega⟩
  have hold : 1 ≤ L → (l + 1 < L ∨ (l + 1 = L ∧ s ≤ q m)) → BST S run q (m + 1) L s := fun hL hlt => by
    refine ⟨h1, h2, Or.inr ⟨hL, ?_, fun i hi hs => ?_⟩⟩
    · rcases h3 with ⟨h5, _⟩ | ⟨_, ⟨i, i1, i2⟩, _⟩
      · omega
      · exact ⟨i, by omega, i2⟩
    · by_cases e : i = m
      · rw [e]; exact ⟨l, hr, hlt⟩
      · rcases h3 with ⟨_, h4⟩ | ⟨_, _, h4⟩
        · exact absurd hs (h4 i (by omega))
        · exact h4 i (by omega) hs
  have e9 : oB (l + 1) (q m) = nn (q m) := if_neg (by omega)
  by_cases a : L < l + 1
  · refine ⟨l + 1, q m, hnew (Or.inl a), ?_⟩
    rw [e9]
    exact if_pos (by rw [nnL (by omega) (by omega)]; exact a)
  · have hL : 1 ≤ L := by omega
    have e8 : oB L s = nn s := if_neg (by omega)
    rw [if_neg (show ¬ nn L < nn (l + 1) by rw [nnL (by omega) (by omega)]; exact a)]
    by_cases b : l + 1 = L
    · rw [if_neg (fun e => e (by rw [b]))]
      by_cases d : s ≤ q m
      · refine ⟨L, s, hold hL (Or.inr ⟨b, d⟩), if_pos ?_⟩
        rw [e8, nnE (by omega) (by omega)]; exact d
      · refine ⟨l + 1, q m, hnew (Or.inr ⟨b, by omega⟩), ?_⟩
        rw [e9]
        refine if_neg ?_
        rw [e8, nnE (by omega) (by omega)]; exact d
    · exact ⟨L, s, hold hL (Or.inl (by omega)), if_pos (nnNe (by omega) (by omega) b)⟩
section WK
variable {g : Sg} {N C Q G : Nat}
def rE (g : Sg) (x t : Int32) (G i : Nat) : Prop := CNT g x G i ∧ STO g t i
def rE2 (g : Sg) (x t : Int32) (G i : Nat) : Prop := CNT g x G i ∧ STO g t i ∧ ¬ SA g x t G (g 44 i - 1)
def rRun (g : Sg) (x t : Int32) (G i l : Nat) : Prop := isRun g x t G (cn g 44 i) l
theorem row_q (r : RGau g (g 216) G C Q) {i : Nat} (hQ : Q ≤ 9599) (hi : i < G) : g 44 i = nn (cn g 44 i) ∧ cn g 44 i ≤ 9599 := by
  obtain ⟨q, q1, q2⟩ := r.gQ i hi
  unfold cn
  rw [q2, nnT (by omega)]
  exact ⟨rfl, by omega⟩
theorem rE_sa (r : RGau g (g 216) G C Q) (hQ : Q ≤ 9599) {x t : Int32} {i : Nat} (hi : i < G) (h : rE g x t G i) : SA g x t G (nn (cn g 44 i)) := by
  rw [← (row_q r hQ hi).1]
  exact ⟨i, h.1.2, h.2⟩
theorem BST_u (h : RNet g (g 216) N C Q) (r : RGau g (g 216) G C Q) {x t : Int32} {L s L2 s2 : Nat} (b1 : BST (rE g x t G) (rRun g x t G) (cn g 44) G L s) (b2 : BST (rE2 g x t G) (rRun g x t G) (cn g 44) G L2 s2) : L = L2 ∧ oB L s = oB L2 s2 := by
  have hQ := h.hQ
  obtain ⟨_, _, b1⟩ := b1
  obtain ⟨_, _, b2⟩ := b2
  have sub : ∀ i, rE2 g x t G i → rE g x t G i := fun i e => ⟨e.1, e.2.1⟩
  rcases b1 with ⟨hL, h4⟩ | ⟨hL, ⟨i, i1, i2, i3, i4⟩, h4⟩
  · rcases b2 with ⟨hL2, _⟩ | ⟨_, ⟨j, j1, j2, _⟩, _⟩
    · rw [hL, hL2]
      exact ⟨rfl, rfl⟩
    · exact absurd (sub j j2) (h4 j j1)
  · -- the best row begins a run
    have i5 : rE2 g x t G i := by
      refine ⟨i2.1, i2.2, fun hsa => ?_⟩
      obtain ⟨q1, q2⟩ := row_q r hQ i1
      obtain ⟨j, j1, j2⟩ := hsa
      obtain ⟨p1, p2, p3⟩ := lstR_p j1
      obtain ⟨w1, w2⟩ := row_q r hQ p1
      have hpos : cn g 44 i = cn g 44 j + 1 := by
        by_cases e0 : cn g 44 i = 0
        · exfalso
          rw [w1, q1, e0] at p3
          exact nnN1 (show cn g 44 j < 2147483648 by omega) p3.symm
        · rw [w1, q1, nnM1 (by omega), nnQ (by omega) (by omega)] at p3
          omega
      have jE : rE g x t G j := ⟨⟨p2, by rw [p3]; exact j1⟩, j2⟩
      obtain ⟨l, l1, l2⟩ := h4 j p1 jE
      have i3 : isRun g x t G (cn g 44 i) (L - 1) := i3
      rw [hpos] at i3
      have k1 := i3.p (by rw [← hpos]; exact rE_sa r hQ i1 i2)
      have k2 := isRun.u l1 k1
      omega
    rcases b2 with ⟨hL2, h5⟩ | ⟨hL2, ⟨j, j1, j2, j3, j4⟩, h5⟩
    · exact absurd i5 (h5 i i1)
    · obtain ⟨l, l1, l2⟩ := h5 i i1 i5
      obtain ⟨l3, l4, l5⟩ := h4 j j1 (sub j j2)
      have e1 := isRun.u l1 i3
      have e2 := isRun.u l4 j3
      have e3 : L = L2 := by omega
      have e4 : s = s2 := by omega
      rw [e3, e4]
      exact ⟨rfl, rfl⟩
noncomputable def sC (g : Sg) (x : Int32) (G m : Nat) : Int32 := sumTo (fun i => b01 (CNT g x G i)) m
noncomputable def sK (g : Sg) (x t : Int32) (G m : Nat) : Int32 := sumTo (fun i => b01 (CNT g x G i ∧ ¬ STO g t i ∧ ¬ moI g t i < g 46 i)) m
noncomputable def sM (g : Sg) (x t : Int32) (G m : Nat) : Int32 := sumTo (fun i => b01 (rE g x t G i)) m
noncomputable def sL (g : Sg) (x t : Int32) (G m : Nat) : Int32 := sumTo (fun i => b01 (rE g x t G i) * lkI g t i) m
theorem b01v (P : Prop) : b01 P = 0 ∨ b01 P = 1 := by
  by_cases h : P
  · exact Or.inr (b01_y h)
  · exact Or.inl (b01_n h)
theorem cntL (h : RNet g (g 216) N C Q) (r : RGau g (g 216) G C Q) {x : Int32} {F0 : Nat} (hF0 : 150 < F0) : ∀ k m F, m + k = G → k < F → gauges_rowsThatCount_4 F0 F x (sC g x G m) (nn m) g = some (sC g x G G) := by
  have hG := r.hG
  intro k
  induction k with
  | zero =>
    intro m F hm hF
    obtain ⟨F, rfl⟩ : ∃ F2, F = F2 + 1 := ⟨F - 1, by omega⟩
    have : m = G := by omega
    subst this
    unfold gauges_rowsThatCount_4
    rw [r.cG]
    exact if_pos (Int32.le_refl _)
  | succ k ih =>
    intro m F hm hF
    obtain ⟨F, rfl⟩ : ∃ F2, F = F2 + 1 := ⟨F - 1, by omega⟩
    have h3 : ¬ G ≤ m := by omega
    have hm5 : m < 150 := by omega
    have IH := ih (m + 1) F (by omega) (by omega)
    unfold gauges_rowsThatCount_4
    rw [r.cG, show nn m + 1 = nn (m + 1) from nnA m 1]
    refine st_f (by simp (disch := first | omega | decide) only [lt1, nnMl, nnMr, nnAl, nnAr, nnA, nnM, nnB, nnT, nnP, nnE, nnEl, nnEr, nnL, nnLl, nnLr, nnQ, nnQr, nnN, Nat.add_zero, if_false, if_true, Option.bind_some, not_true, not_false_iff, not_true_eq_false, not_false_eq_true, eq_self, Nat.not_lt_zero, z10, z01, or_true, true_or, or_false, false_or, true_and, false_and, h3]) (st_b (cnt_x r (show m < G by omega) hF0) ?_)
    by_cases e : CNT g x G m
    · refine st_f (by rw [b01_y e]; decide) ?_
      have e1 : sC g x G (m + 1) = sC g x G m + 1 := by show sC g x G m + b01 (CNT g x G m) = _; rw [b01_y e]
      rw [← e1]; exact IH
    · refine st_t (b01_n e) ?_
      have e1 : sC g x G (m + 1) = sC g x G m := by show sC g x G m + b01 (CNT g x G m) = _; rw [b01_n e, Int32.add_zero]
      rw [← e1]; exact IH
theorem stoL (h : RNet g (g 216) N C Q) (r : RGau g (g 216) G C Q) {x t : Int32} {F0 : Nat} (hF0 : 150 < F0) : ∀ k m F, m + k = G → k < F → gauges_rowsStolen_6 F0 F x t (sM g x t G m) (nn m) g = some (sM g x t G G) := by
  have hG := r.hG
  intro k
  induction k with
  | zero =>
    intro m F hm hF
    obtain ⟨F, rfl⟩ : ∃ F2, F = F2 + 1 := ⟨F - 1, by omega⟩
    have : m = G := by omega
    subst this
    unfold gauges_rowsStolen_6
    rw [r.cG]
    exact if_pos (Int32.le_refl _)
  | succ k ih =>
    intro m F hm hF
    obtain ⟨F, rfl⟩ : ∃ F2, F = F2 + 1 := ⟨F - 1, by omega⟩
    have h3 : ¬ G ≤ m := by omega
    have hm5 : m < 150 := by omega
    have IH := ih (m + 1) F (by omega) (by omega)
    unfold gauges_rowsStolen_6
    rw [r.cG, show nn m + 1 = nn (m + 1) from nnA m 1]
    refine st_f (by simp (disch := first | omega | decide) only [lt1, nnMl, nnMr, nnAl, nnAr, nnA, nnM, nnB, nnT, nnP, nnE, nnEl, nnEr, nnL, nnLl, nnLr, nnQ, nnQr, nnN, Nat.add_zero, if_false, if_true, Option.bind_some, not_true, not_false_iff, not_true_eq_false, not_false_eq_true, eq_self, Nat.not_lt_zero, z10, z01, or_true, true_or, or_false, false_or, true_and, false_and, h3]) (st_b (cnt_x r (show m < G by omega) hF0) ?_)
    by_cases e : CNT g x G m
    · refine st_f (by rw [b01_y e]; decide) ?_
      refine st_b (lack_x h r (show m < G by omega)) ?_
      by_cases e2 : 0 < lkI g t m
      · have e1 : sM g x t G (m + 1) = sM g x t G m + 1 := by show sM g x t G m + b01 (rE g x t G m) = _; rw [b01_y ⟨e, e2⟩]
        refine st_f (fun q => (lackle.mp q) e2) ?_
        rw [← e1]; exact IH
      · have e1 : sM g x t G (m + 1) = sM g x t G m := by show sM g x t G m + b01 (rE g x t G m) = _; rw [b01_n (fun q => e2 q.2), Int32.add_zero]
        refine st_t (lackle.mpr e2) ?_
        rw [← e1]; exact IH
    · refine st_t (b01_n e) ?_
      have e1 : sM g x t G (m + 1) = sM g x t G m := by show sM g x t G m + b01 (rE g x t G m) = _; rw [b01_n (fun q => e q.1), Int32.add_zero]
      rw [← e1]; exact IH
theorem litL (h : RNet g (g 216) N C Q) (r : RGau g (g 216) G C Q) {x t : Int32} {F0 : Nat} (hF0 : 150 < F0) : ∀ k m F, m + k = G → k < F → gauges_litresLacking_6 F0 F x t (sL g x t G m) (nn m) g = some (sL g x t G G) := by
  have hG := r.hG
  intro k
  induction k with
  | zero =>
    intro m F hm hF
    obtain ⟨F, rfl⟩ : ∃ F2, F = F2 + 1 := ⟨F - 1, by omega⟩
    have : m = G := by omega
    subst this
    unfold gauges_litresLacking_6
    rw [r.cG]
    exact if_pos (Int32.le_refl _)
  | succ k ih =>
    intro m F hm hF
    obtain ⟨F, rfl⟩ : ∃ F2, F = F2 + 1 := ⟨F - 1, by omega⟩
    have h3 : ¬ G ≤ m := by omega
    have hm5 : m < 150 := by omega
    have IH := ih (m + 1) F (by omega) (by omega)
    unfold gauges_litresLacking_6
    rw [r.cG, show nn m + 1 = nn (m + 1) from nnA m 1]
    refine st_f (by simp (disch := first | omega | decide) only [lt1, nnMl, nnMr, nnAl, nnAr, nnA, nnM, nnB, nnT, nnP, nnE, nnEl, nnEr, nnL, nnLl, nnLr, nnQ, nnQr, nnN, Nat.add_zero, if_false, if_true, Option.bind_some, not_true, not_false_iff, not_true_eq_false, not_false_eq_true, eq_self, Nat.not_lt_zero, z10, z01, or_true, true_or, or_false, false_or, true_and, false_and, h3]) (st_b (cnt_x r (show m < G by omega) hF0) ?_)
    by_cases e : CNT g x G m
    · refine st_f (by rw [b01_y e]; decide) ?_
      refine st_b (lack_x h r (show m < G by omega)) (st_l ?_)
      have e1 : sL g x t G (m + 1) = sL g x t G m + (if 0 < lkI g t m then lkI g t m else 0) := by
        show sL g x t G m + b01 (rE g x t G m) * lkI g t m = _
        by_cases e2 : 0 < lkI g t m
        · rw [b01_y ⟨e, e2⟩, if_pos e2, Int32.one_mul]
        · rw [b01_n (fun q => e2 q.2), if_neg e2, Int32.zero_mul]
      rw [← e1]; exact IH
    · refine st_t (b01_n e) ?_
      have e1 : sL g x t G (m + 1) = sL g x t G m := by show sL g x t G m + b01 (rE g x t G m) * lkI g t m = _; rw [b01_n (fun q => e q.1), Int32.zero_mul, Int32.add_zero]
      rw [← e1]; exact IH
theorem cloL (h : RNet g (g 216) N C Q) (r : RGau g (g 216) G C Q) {x t : Int32} {tt : Nat} (ht : t = nn tt) (htt : tt ≤ 999) {F0 : Nat} (hF0 : 150 < F0) : ∀ k m F, m + k = G → k < F → gauges_rowsThatClose_6 F0 F x t (sK g x t G m) (nn m) g = some (sK g x t G G) := by
  have hG := r.hG
  intro k
  induction k with
  | zero =>
    intro m F hm hF
    obtain ⟨F, rfl⟩ : ∃ F2, F = F2 + 1 := ⟨F - 1, by omega⟩
    have : m = G := by omega
    subst this
    unfold gauges_rowsThatClose_6
    rw [r.cG]
    exact if_pos (Int32.le_refl _)
  | succ k ih =>
    intro m F hm hF
    obtain ⟨F, rfl⟩ : ∃ F2, F = F2 + 1 := ⟨F - 1, by omega⟩
    have h3 : ¬ G ≤ m := by omega
    have hm5 : m < 150 := by omega
    have IH := ih (m + 1) F (by omega) (by omega)
    unfold gauges_rowsThatClose_6
    rw [r.cG, show nn m + 1 = nn (m + 1) from nnA m 1]
    refine st_f (by simp (disch := first | omega | decide) only [lt1, nnMl, nnMr, nnAl, nnAr, nnA, nnM, nnB, nnT, nnP, nnE, nnEl, nnEr, nnL, nnLl, nnLr, nnQ, nnQr, nnN, Nat.add_zero, if_false, if_true, Option.bind_some, not_true, not_false_iff, not_true_eq_false, not_false_eq_true, eq_self, Nat.not_lt_zero, z10, z01, or_true, true_or, or_false, false_or, true_and, false_and, h3]) (st_b (cnt_x r (show m < G by omega) hF0) ?_)
    by_cases e : CNT g x G m
    · refine st_f (by rw [b01_y e]; decide) ?_
      have hin : inb (nn m) 150 = true := by simp (disch := first | omega | decide) only [lt1, nnMl, nnMr, nnAl, nnAr, nnA, nnM, nnB, nnT, nnP, nnE, nnEl, nnEr, nnL, nnLl, nnLr, nnQ, nnQr, nnN, Nat.add_zero, if_false, if_true, Option.bind_some, not_true, not_false_iff, not_true_eq_false, not_false_eq_true, eq_self, Nat.not_lt_zero, z10, z01, or_true, true_or, or_false, false_or, true_and, false_and, hm5]
      have key := lack_lt (tt := tt) h r (show m < G by omega) htt
      rw [← ht] at key
      refine st_t hin (st_b (lst_x h r (show m < G by omega)).1 ?_)
      rw [nnT (by omega)]
      by_cases e2 : 0 < lkI g t m
      · have e1 : sK g x t G (m + 1) = sK g x t G m + 0 := by show sK g x t G m + b01 _ = _; rw [b01_n (fun q => q.2.1 e2)]
        refine st_t (key.mpr e2) ?_
        unfold gauges_rowsThatClose_48
        rw [show nn m + 1 = nn (m + 1) from nnA m 1]
        refine st_t rfl (st_l ?_)
        rw [← e1]; exact IH
      · refine st_f (fun q => e2 (key.mp q)) ?_
        unfold gauges_rowsThatClose_48
        rw [show nn m + 1 = nn (m + 1) from nnA m 1, nnT (by omega)]
        refine st_f (by decide) (st_t hin (st_b (lst_x h r (show m < G by omega)).2 ?_))
        by_cases e3 : moI g t m < g 46 m
        · have e1 : sK g x t G (m + 1) = sK g x t G m + 0 := by show sK g x t G m + b01 _ = _; rw [b01_n (fun q => q.2.2 e3)]
          refine st_t e3 (st_l ?_)
          rw [← e1]; exact IH
        · have e1 : sK g x t G (m + 1) = sK g x t G m + 1 := by show sK g x t G m + b01 _ = _; rw [b01_y ⟨e, e2, e3⟩]
          refine st_f e3 (st_l ?_)
          rw [← e1]; exact IH
    · refine st_t (b01_n e) ?_
      have e1 : sK g x t G (m + 1) = sK g x t G m := by show sK g x t G m + b01 _ = _; rw [b01_n (fun q => e q.1), Int32.add_zero]
      rw [← e1]; exact IH
theorem run65 (h : RNet g (g 216) N C Q) (r : RGau g (g 216) G C Q) {x t v4 v5 v6 v7 : Int32} {q l : Nat} (hq : q ≤ 9599) (hl : l ≤ 149) (hr : isRun g x t G q l) {F0 : Nat} (hF0 : 150 < F0) {K : Int32 → Int32 → Int32 → Int32 → Int32 → Int32 → Sg → Option Int32} : ∀ y z F, z + y = l + 1 → 1 ≤ z → y < F → gauges_longestRun_65 F0 K F x t v4 v5 v6 v7 (nn q) (nn z) g = gauges_longestRun_94 K x t v4 v5 v6 v7 (nn q) (nn (l + 1)) g := by
  intro y
  induction y with
  | zero =>
    intro z F hz hz1 hF
    obtain ⟨F, rfl⟩ : ∃ F2, F = F2 + 1 := ⟨F - 1, by omega⟩
    have : z = l + 1 := by omega
    subst this
    unfold gauges_longestRun_65
    by_cases e : (150 : Int32) ≤ nn (l + 1)
    · exact st_t e rfl
    · refine st_f e (st_b (lacksAt_x h r hF0) (st_t ?_ rfl))
      rw [nnA]
      exact b01_n hr.2
  | succ y ih =>
    intro z F hz hz1 hF
    obtain ⟨F, rfl⟩ : ∃ F2, F = F2 + 1 := ⟨F - 1, by omega⟩
    have h3 : ¬ 150 ≤ z := by omega
    unfold gauges_longestRun_65
    rw [show nn z + 1 = nn (z + 1) from nnA z 1]
    refine st_f (by simp (disch := first | omega | decide) only [lt1, nnMl, nnMr, nnAl, nnAr, nnA, nnM, nnB, nnT, nnP, nnE, nnEl, nnEr, nnL, nnLl, nnLr, nnQ, nnQr, nnN, Nat.add_zero, if_false, if_true, Option.bind_some, not_true, not_false_iff, not_true_eq_false, not_false_eq_true, eq_self, Nat.not_lt_zero, z10, z01, or_true, true_or, or_false, false_or, true_and, false_and, h3]) (st_b (lacksAt_x h r hF0) (st_f ?_ (ih (z + 1) F (by omega) (by omega) (by omega))))
    rw [nnA, b01_y (hr.1 z hz1 (by omega))]
    decide
theorem longL (h : RNet g (g 216) N C Q) (r : RGau g (g 216) G C Q) {x t v4 : Int32} {F0 : Nat} (hF0 : 200 < F0) : ∀ k m F L s, m + k = G → k < F → BST (rE2 g x t G) (rRun g x t G) (cn g 44) m L s → ∃ L2 s2, BST (rE2 g x t G) (rRun g x t G) (cn g 44) G L2 s2 ∧ gauges_longestRun_9 F0 F x t v4 (nn L) (oB L s) (nn m) g = some (if v4 = 0 then nn L2 else oB L2 s2) := by
  have hG := r.hG
  have hQ := h.hQ
  intro k
  induction k with
  | zero =>
    intro m F L s hm hF hb
    obtain ⟨F, rfl⟩ : ∃ F2, F = F2 + 1 := ⟨F - 1, by omega⟩
    have : m = G := by omega
    subst this
    refine ⟨L, s, hb, ?_⟩
    unfold gauges_longestRun_9
    rw [r.cG]
    refine st_t (Int32.le_refl _) ?_
    by_cases e : v4 = 0
    · rw [if_pos e, if_pos e]
    · rw [if_neg e, if_neg e]
  | succ k ih =>
    intro m F L s hm hF hb
    obtain ⟨F, rfl⟩ : ∃ F2, F = F2 + 1 := ⟨F - 1, by omega⟩
    have h3 : ¬ G ≤ m := by omega
    have hm5 : m < 150 := by omega
    have hmG : m < G := by omega
    obtain ⟨q1, q2⟩ := row_q r hQ hmG
    have hin : inb (nn m) 150 = true := by simp (disch := first | omega | decide) only [lt1, nnMl, nnMr, nnAl, nnAr, nnA, nnM, nnB, nnT, nnP, nnE, nnEl, nnEr, nnL, nnLl, nnLr, nnQ, nnQr, nnN, Nat.add_zero, if_false, if_true, Option.bind_some, not_true, not_false_iff, not_true_eq_false, not_false_eq_true, eq_self, Nat.not_lt_zero, z10, z01, or_true, true_or, or_false, false_or, true_and, false_and, hm5]
    have skip : ¬ rE2 g x t G m → ∃ L2 s2, BST (rE2 g x t G) (rRun g x t G) (cn g 44) G L2 s2 ∧ gauges_longestRun_9 F0 F x t v4 (nn L) (oB L s) (nn (m + 1)) g = some (if v4 = 0 then nn L2 else oB L2 s2) := fun e => ih (m + 1) F L s (by omega) (by omega) (hb.n e)
    by_cases e : CNT g x G m
    rotate_left
    · obtain ⟨L2, s2, b1, b2⟩ := skip (fun q => e q.1)
      refine ⟨L2, s2, b1, ?_⟩
      unfold gauges_longestRun_9
      rw [r.cG, show nn m + 1 = nn (m + 1) from nnA m 1]
      exact st_f (by simp (disch := first | omega | decide) only [lt1, nnMl, nnMr, nnAl, nnAr, nnA, nnM, nnB, nnT, nnP, nnE, nnEl, nnEr, nnL, nnLl, nnLr, nnQ, nnQr, nnN, Nat.add_zero, if_false, if_true, Option.bind_some, not_true, not_false_iff, not_true_eq_false, not_false_eq_true, eq_self, Nat.not_lt_zero, z10, z01, or_true, true_or, or_false, false_or, true_and, false_and, h3]) (st_w hin (st_b (cnt_x r hmG (by omega)) (st_t (b01_n e) b2)))
    have ec : ¬ b01 (CNT g x G m) = 0 := by rw [b01_y e]; decide
    by_cases e2 : 0 < lkI g t m
    rotate_left
    · obtain ⟨L2, s2, b1, b2⟩ := skip (fun q => e2 q.2.1)
      refine ⟨L2, s2, b1, ?_⟩
      unfold gauges_longestRun_9
      rw [r.cG, show nn m + 1 = nn (m + 1) from nnA m 1]
      exact st_f (by simp (disch := first | omega | decide) only [lt1, nnMl, nnMr, nnAl, nnAr, nnA, nnM, nnB, nnT, nnP, nnE, nnEl, nnEr, nnL, nnLl, nnLr, nnQ, nnQr, nnN, Nat.add_zero, if_false, if_true, Option.bind_some, not_true, not_false_iff, not_true_eq_false, not_false_eq_true, eq_self, Nat.not_lt_zero, z10, z01, or_true, true_or, or_false, false_or, true_and, false_and, h3]) (st_w hin (st_b (cnt_x r hmG (by omega)) (st_f ec (st_b (lack_x h r hmG) (st_t (lackle.mpr e2) b2)))))
    by_cases e3 : SA g x t G (g 44 m - 1)
    · obtain ⟨L2, s2, b1, b2⟩ := skip (fun q => q.2.2 e3)
      refine ⟨L2, s2, b1, ?_⟩
      unfold gauges_longestRun_9
      rw [r.cG, show nn m + 1 = nn (m + 1) from nnA m 1]
      refine st_f (by simp (disch := first | omega | decide) only [lt1, nnMl, nnMr, nnAl, nnAr, nnA, nnM, nnB, nnT, nnP, nnE, nnEl, nnEr, nnL, nnLl, nnLr, nnQ, nnQr, nnN, Nat.add_zero, if_false, if_true, Option.bind_some, not_true, not_false_iff, not_true_eq_false, not_false_eq_true, eq_self, Nat.not_lt_zero, z10, z01, or_true, true_or, or_false, false_or, true_and, false_and, h3]) (st_w hin (st_b (cnt_x r hmG (by omega)) (st_f ec (st_b (lack_x h r hmG) (st_f (fun q => (lackle.mp q) e2) (st_b (lacksAt_x h r (by omega)) (st_t ?_ b2)))))))
      rw [nnT (by omega), b01_y e3]
      decide
    · obtain ⟨l, l1, l2⟩ := run_ex hG q2 (rE_sa r hQ hmG ⟨e, e2⟩)
      obtain ⟨L1, s1, b1, b2⟩ := hb.y (l := l) ⟨e, e2, e3⟩ l2 l1 q2 (fun a b => gauges_longestRun_9 F0 F x t v4 a b (nn (m + 1)) g)
      obtain ⟨L2, s2, b3, b4⟩ := ih (m + 1) F L1 s1 (by omega) (by omega) b1
      refine ⟨L2, s2, b3, ?_⟩
      unfold gauges_longestRun_9
      rw [r.cG, show nn m + 1 = nn (m + 1) from nnA m 1]
      refine st_f (by simp (disch := first | omega | decide) only [lt1, nnMl, nnMr, nnAl, nnAr, nnA, nnM, nnB, nnT, nnP, nnE, nnEl, nnEr, nnL, nnLl, nnLr, nnQ, nnQr, nnN, Nat.add_zero, if_false, if_true, Option.bind_some, not_true, not_false_iff, not_true_eq_false, not_false_eq_true, eq_self, Nat.not_lt_zero, z10, z01, or_true, true_or, or_false, false_or, true_and, false_and, h3]) (st_w hin (st_b (cnt_x r hmG (by omega)) (st_f ec (st_b (lack_x h r hmG) (st_f (fun q => (lackle.mp q) e2) (st_b (lacksAt_x h r (by omega)) (st_f ?_ ?_)))))))
      · rw [nnT (by omega), b01_n e3]
        exact fun q => q rfl
      · rw [nnT (by omega), q1, show (1 : Int32) = nn 1 from rfl, run65 h r q2 l1 l2 (by omega) l 1 F0 (by omega) (by omega) (by omega)]
        unfold gauges_longestRun_94
        rw [show nn m + 1 = nn (m + 1) from nnA m 1]
        exact b2.trans b4
theorem run157 (h : RNet g (g 216) N C Q) (r : RGau g (g 216) G C Q) {v1 v2 v3 v4 v5 v6 v7 v8 v9 v10 : Int32} {q l : Nat} (hq : q ≤ 9599) (hl : l ≤ 149) (hr : isRun g v1 v2 G q l) {F0 : Nat} (hF0 : 150 < F0) {K : Int32 → Int32 → Int32 → Int32 → Int32 → Int32 → Int32 → Int32 → Int32 → Int32 → Sg → Option Int32} : ∀ y z F, z + y = l + 1 → 1 ≤ z → y < F → m_stolen_157 F0 K F v1 v2 v3 v4 v5 v6 v7 v8 v9 v10 (nn q) (nn z) g = (if v7 < nn (l + 1) then K v1 v2 v3 v4 v5 v6 (nn (l + 1)) (nn q) v9 (v10 + 1) g else (if ¬ nn (l + 1) = v7 then K v1 v2 v3 v4 v5 v6 v7 v8 v9 (v10 + 1) g else (if v8 ≤ nn q then K v1 v2 v3 v4 v5 v6 v7 v8 v9 (v10 + 1) g else K v1 v2 v3 v4 v5 v6 (nn (l + 1)) (nn q) v9 (v10 + 1) g))) := by
  intro y
  induction y with
  | zero =>
    intro z F hz hz1 hF
    obtain ⟨F, rfl⟩ : ∃ F2, F = F2 + 1 := ⟨F - 1, by omega⟩
    have : z = l + 1 := by omega
    subst this
    unfold m_stolen_157
    refine st_b (isSto_m h r hF0) (st_t ?_ rfl)
    rw [nnA]
    exact b01_n hr.2
  | succ y ih =>
    intro z F hz hz1 hF
    obtain ⟨F, rfl⟩ : ∃ F2, F = F2 + 1 := ⟨F - 1, by omega⟩
    unfold m_stolen_157
    rw [show nn z + 1 = nn (z + 1) from nnA z 1]
    refine st_b (isSto_m h r hF0) (st_f ?_ (ih (z + 1) F (by omega) (by omega) (by omega)))
    rw [nnA, b01_y (hr.1 z hz1 (by omega))]
    decide
theorem stoML (h : RNet g (g 216) N C Q) (r : RGau g (g 216) G C Q) {x t v3 : Int32} {F0 : Nat} (hF0 : 200 < F0) : ∀ k m F L s, m + k = G → k < F → BST (rE g x t G) (rRun g x t G) (cn g 44) m L s → ∃ L2 s2, BST (rE g x t G) (rRun g x t G) (cn g 44) G L2 s2 ∧ m_stolen_43 F0 F x t v3 (sC g x G m) (sK g x t G m) (sM g x t G m) (nn L) (oB L s) (sL g x t G m) (nn m) g = (if v3 = 0 then some (sC g x G G) else if v3 = 1 then some (sK g x t G G) else if v3 = 2 then some (sM g x t G G) else if v3 = 3 then some (nn L2) else if v3 = 4 then some (oB L2 s2) else if v3 = 5 then some (sL g x t G G) else some (-1)) := by
  have hG := r.hG
  have hQ := h.hQ
  intro k
  induction k with
  | zero =>
    intro m F L s hm hF hb
    obtain ⟨F, rfl⟩ : ∃ F2, F = F2 + 1 := ⟨F - 1, by omega⟩
    have : m = G := by omega
    subst this
    refine ⟨L, s, hb, ?_⟩
    unfold m_stolen_43
    rw [r.aG]
    exact st_t (Int32.le_refl _) rfl
  | succ k ih =>
    intro m F L s hm hF hb
    obtain ⟨F, rfl⟩ : ∃ F2, F = F2 + 1 := ⟨F - 1, by omega⟩
    have h3 : ¬ G ≤ m := by omega
    have hm5 : m < 150 := by omega
    have hmG : m < G := by omega
    obtain ⟨q1, q2⟩ := row_q r hQ hmG
    have i0 : 1270 + 4 * m < 20360 := by omega
    have i1 : 1270 + 4 * m + 1 < 20360 := by omega
    obtain ⟨x0, x1, _, _⟩ := rowIx m
    have aC : sC g x G (m + 1) = sC g x G m + b01 (CNT g x G m) := rfl
    have aK : sK g x t G (m + 1) = sK g x t G m + b01 (CNT g x G m ∧ ¬ STO g t m ∧ ¬ moI g t m < g 46 m) := rfl
    have aM : sM g x t G (m + 1) = sM g x t G m + b01 (rE g x t G m) := rfl
    have aL : sL g x t G (m + 1) = sL g x t G m + b01 (rE g x t G m) * lkI g t m := rfl
    by_cases e : CNT g x G m
    rotate_left
    · obtain ⟨L2, s2, b1, b2⟩ := ih (m + 1) F L s (by omega) (by omega) (hb.n (fun q => e q.1))
      rw [aC, aK, aM, aL, b01_n e, b01_n (fun q => e q.1), b01_n (fun q => e q.1), Int32.zero_mul, Int32.add_zero, Int32.add_zero, Int32.add_zero, Int32.add_zero] at b2
      refine ⟨L2, s2, b1, ?_⟩
      unfold m_stolen_43
      rw [r.aG, x0, x1, nnT (show 1270 + 4 * m < 2147483648 by omega), nnT (show 1270 + 4 * m + 1 < 2147483648 by omega), r.g0 m hm5, r.g1 m hm5, show nn m + 1 = nn (m + 1) from nnA m 1]
      refine st_f (by simp (disch := first | omega | decide) only [lt1, nnMl, nnMr, nnAl, nnAr, nnA, nnM, nnB, nnT, nnP, nnE, nnEl, nnEr, nnL, nnLl, nnLr, nnQ, nnQr, nnN, Nat.add_zero, if_false, if_true, Option.bind_some, not_true, not_false_iff, not_true_eq_false, not_false_eq_true, eq_self, Nat.not_lt_zero, z10, z01, or_true, true_or, or_false, false_or, true_and, false_and, h3]) (st_w (by simp (disch := first | omega | decide) only [lt1, nnMl, nnMr, nnAl, nnAr, nnA, nnM, nnB, nnT, nnP, nnE, nnEl, nnEr, nnL, nnLl, nnLr, nnQ, nnQr, nnN, Nat.add_zero, if_false, if_true, Option.bind_some, not_true, not_false_iff, not_true_eq_false, not_false_eq_true, eq_self, Nat.not_lt_zero, z10, z01, or_true, true_or, or_false, false_or, true_and, false_and, i1]) (st_t (by simp (disch := first | omega | decide) only [lt1, nnMl, nnMr, nnAl, nnAr, nnA, nnM, nnB, nnT, nnP, nnE, nnEl, nnEr, nnL, nnLl, nnLr, nnQ, nnQr, nnN, Nat.add_zero, if_false, if_true, Option.bind_some, not_true, not_false_iff, not_true_eq_false, not_false_eq_true, eq_self, Nat.not_lt_zero, z10, z01, or_true, true_or, or_false, false_or, true_and, false_and, i0]) ?_))
      by_cases e1 : g 43 m = x
      · refine st_f (fun q => q e1) (st_b (row_m r (by omega)) (st_f ?_ b2))
        rw [oN_eq (o := lstR g x (g 44 m) G) (i := m) (by omega) (fun j hj => by have := (lstR_p hj).1; omega)]
        exact fun q => e ⟨e1, q⟩
      · exact st_t e1 b2
    have pre : ∀ rr, (Option.bind (m_closes (nn m) t g) (fun x9 => (if x9 = 0 then (m_stolen_123 F0 (fun v1 v2 v3 v4 v5 v6 v7 v8 v9 v10 g0 => m_stolen_43 F0 F v1 v2 v3 v4 v5 v6 v7 v8 v9 v10 g0) x t v3 (sC g x G m + 1) (sM g x t G m) (nn L) (oB L s) (sL g x t G m) (nn m) (g 44 m) 0 (sK g x t G m) g) else (m_stolen_123 F0 (fun v1 v2 v3 v4 v5 v6 v7 v8 v9 v10 g0 => m_stolen_43 F0 F v1 v2 v3 v4 v5 v6 v7 v8 v9 v10 g0) x t v3 (sC g x G m + 1) (sM g x t G m) (nn L) (oB L s) (sL g x t G m) (nn m) (g 44 m) 1 (sK g x t G m) g)))) = rr → m_stolen_43 F0 (F + 1) x t v3 (sC g x G m) (sK g x t G m) (sM g x t G m) (nn L) (oB L s) (sL g x t G m) (nn m) g = rr := fun rr hrr => by
      unfold m_stolen_43
      rw [r.aG, x0, x1, nnT (show 1270 + 4 * m < 2147483648 by omega), nnT (show 1270 + 4 * m + 1 < 2147483648 by omega), r.g0 m hm5, r.g1 m hm5]
      refine st_f (by simp (disch := first | omega | decide) only [lt1, nnMl, nnMr, nnAl, nnAr, nnA, nnM, nnB, nnT, nnP, nnE, nnEl, nnEr, nnL, nnLl, nnLr, nnQ, nnQr, nnN, Nat.add_zero, if_false, if_true, Option.bind_some, not_true, not_false_iff, not_true_eq_false, not_false_eq_true, eq_self, Nat.not_lt_zero, z10, z01, or_true, true_or, or_false, false_or, true_and, false_and, h3]) (st_w (by simp (disch := first | omega | decide) only [lt1, nnMl, nnMr, nnAl, nnAr, nnA, nnM, nnB, nnT, nnP, nnE, nnEl, nnEr, nnL, nnLl, nnLr, nnQ, nnQr, nnN, Nat.add_zero, if_false, if_true, Option.bind_some, not_true, not_false_iff, not_true_eq_false, not_false_eq_true, eq_self, Nat.not_lt_zero, z10, z01, or_true, true_or, or_false, false_or, true_and, false_and, i1]) (st_t (by simp (disch := first | omega | decide) only [lt1, nnMl, nnMr, nnAl, nnAr, nnA, nnM, nnB, nnT, nnP, nnE, nnEl, nnEr, nnL, nnLl, nnLr, nnQ, nnQr, nnN, Nat.add_zero, if_false, if_true, Option.bind_some, not_true, not_false_iff, not_true_eq_false, not_false_eq_true, eq_self, Nat.not_lt_zero, z10, z01, or_true, true_or, or_false, false_or, true_and, false_and, i0]) (st_f (fun q => q e.1) (st_b (row_m r (by omega)) (st_t ?_ hrr)))))
      exact (oN_eq (o := lstR g x (g 44 m) G) (i := m) (by omega) (fun j hj => by have := (lstR_p hj).1; omega)).mpr e.2
    have pre2 : ∀ rr, m_stolen_123 F0 (fun v1 v2 v3 v4 v5 v6 v7 v8 v9 v10 g0 => m_stolen_43 F0 F v1 v2 v3 v4 v5 v6 v7 v8 v9 v10 g0) x t v3 (sC g x G m + 1) (sM g x t G m) (nn L) (oB L s) (sL g x t G m) (nn m) (g 44 m) (b01 (¬ STO g t m ∧ ¬ moI g t m < g 46 m)) (sK g x t G m) g = rr → m_stolen_43 F0 (F + 1) x t v3 (sC g x G m) (sK g x t G m) (sM g x t G m) (nn L) (oB L s) (sL g x t G m) (nn m) g = rr := fun rr hrr => by
      refine pre rr (st_b (closes_m h r hmG) ?_)
      rcases b01v (¬ STO g t m ∧ ¬ moI g t m < g 46 m) with e9 | e9
      · rw [e9] at hrr ⊢
        exact st_t rfl hrr
      · rw [e9] at hrr ⊢
        exact st_f (by decide) hrr
    have eK : sK g x t G (m + 1) = sK g x t G m + b01 (¬ STO g t m ∧ ¬ moI g t m < g 46 m) := by
      rw [aK]
      by_cases e9 : ¬ STO g t m ∧ ¬ moI g t m < g 46 m
      · rw [b01_y e9, b01_y ⟨e, e9⟩]
      · rw [b01_n e9, b01_n (fun q => e9 q.2)]
    by_cases e2 : 0 < lkI g t m
    · obtain ⟨l, l1, l2⟩ := run_ex hG q2 (rE_sa r hQ hmG ⟨e, e2⟩)
      obtain ⟨L1, s1, b1, b2⟩ := hb.y (l := l) ⟨e, e2⟩ l2 l1 q2 (fun a b => m_stolen_43 F0 F x t v3 (sC g x G (m + 1)) (sK g x t G (m + 1)) (sM g x t G (m + 1)) a b (sL g x t G (m + 1)) (nn (m + 1)) g)
      obtain ⟨L2, s2, b3, b4⟩ := ih (m + 1) F L1 s1 (by omega) (by omega) b1
      refine ⟨L2, s2, b3, pre2 _ ?_⟩
      have b5 := b2.trans b4
      rw [aC, eK, aM, aL, b01_y e, b01_y (show rE g x t G m from ⟨e, e2⟩), Int32.one_mul] at b5
      unfold m_stolen_123
      refine st_l (st_b (lacks_m h r hmG) (st_t e2 (st_b (lacks_m h r hmG) (st_l ?_))))
      rw [q1]
      refine Eq.trans (run157 h r q2 l1 l2 (by omega) l 1 F0 (by omega) (by omega) (by omega)) ?_
      rw [show nn m + 1 = nn (m + 1) from nnA m 1]
      exact b5
    · obtain ⟨L2, s2, b1, b2⟩ := ih (m + 1) F L s (by omega) (by omega) (hb.n (fun q => e2 q.2))
      rw [aC, eK, aM, aL, b01_y e, b01_n (show ¬ rE g x t G m from fun q => e2 q.2), Int32.zero_mul, Int32.add_zero, Int32.add_zero] at b2
      refine ⟨L2, s2, b1, pre2 _ ?_⟩
      unfold m_stolen_123
      rw [show nn m + 1 = nn (m + 1) from nnA m 1]
      exact st_l (st_b (lacks_m h r hmG) (st_f e2 b2))
end WK
theorem sim_stolen {TS : Sg → Prop} : Sim_stolen (RR TS) := by
  intro v1 v2 v3 g hR
  obtain ⟨N, C, Q, D, T, L, G, h⟩ := hR.now
  have hG := h.gau.hG
  by_cases hn : ∃ n, n < C ∧ v1 = nn n
  rotate_left
  · refine ⟨0, 0, -1, g, g, ?_, ?_, hR, rfl, rfl⟩
    · unfold x_stolen
      exact st_b (hasChan_n h.net hn) (st_t rfl rfl)
    · unfold m_stolen
      exact st_b (isOf1_n h.net hn) (st_t rfl rfl)
  obtain ⟨n, hn, rfl⟩ := hn
  rcases chk v2 999 999 rfl (by decide) with ⟨tt, htt, rfl, x1, m1⟩ | ⟨x1, m1⟩
  rotate_left
  · refine ⟨0, 0, -1, g, g, ?_, ?_, hR, rfl, rfl⟩
    · unfold x_stolen
      exact st_b (hasChan_y h.net hn) (st_f (by decide) (st_b (x1 g) (st_f (by decide) rfl)))
    · unfold m_stolen
      exact st_b (isOf1_y h.net hn) (st_f (by decide) (st_b (m1 g) (st_f (by decide) rfl)))
  have z1 : BST (rE g (nn n) (nn tt) G) (rRun g (nn n) (nn tt) G) (cn g 44) 0 0 0 := ⟨by omega, by omega, Or.inl ⟨rfl, fun i hi => absurd hi (by omega)⟩⟩
  have z2 : BST (rE2 g (nn n) (nn tt) G) (rRun g (nn n) (nn tt) G) (cn g 44) 0 0 0 := ⟨by omega, by omega, Or.inl ⟨rfl, fun i hi => absurd hi (by omega)⟩⟩
  obtain ⟨L1, s1, b1, b2⟩ := stoML h.net h.gau (x := nn n) (t := nn tt) (v3 := v3) (F0 := 400) (by decide) G 0 400 0 0 (by omega) (by omega) z1
  obtain ⟨L2, s2, b3, b4⟩ := longL h.net h.gau (x := nn n) (t := nn tt) (v4 := 0) (F0 := 400) (by decide) G 0 400 0 0 (by omega) (by omega) z2
  obtain ⟨L3, s3, b5, b6⟩ := longL h.net h.gau (x := nn n) (t := nn tt) (v4 := 1) (F0 := 400) (by decide) G 0 400 0 0 (by omega) (by omega) z2
  obtain ⟨e1, e2⟩ := BST_u h.net h.gau b1 b3
  obtain ⟨e3, e4⟩ := BST_u h.net h.gau b1 b5
  rw [if_pos rfl, ← e1] at b4
  rw [if_neg (by decide), ← e4] at b6
  have c0 : gauges_rowsThatCount 400 (nn n) g = some (sC g (nn n) G G) := cntL h.net h.gau (by decide) G 0 400 (by omega) (by omega)
  have c1 : gauges_rowsThatClose 400 (nn n) (nn tt) g = some (sK g (nn n) (nn tt) G G) := cloL h.net h.gau rfl htt (by decide) G 0 400 (by omega) (by omega)
  have c2 : gauges_rowsStolen 400 (nn n) (nn tt) g = some (sM g (nn n) (nn tt) G G) := stoL h.net h.gau (by decide) G 0 400 (by omega) (by omega)
  have c3 : gauges_longestRun 400 (nn n) (nn tt) 0 g = some (nn L1) := b4
  have c4 : gauges_longestRun 400 (nn n) (nn tt) 1 g = some (oB L1 s1) := b6
  have c5 : gauges_litresLacking 400 (nn n) (nn tt) g = some (sL g (nn n) (nn tt) G G) := litL h.net h.gau (by decide) G 0 400 (by omega) (by omega)
  have hx : x_stolen 400 (nn n) (nn tt) v3 g = (if v3 = 0 then some (sC g (nn n) G G) else if v3 = 1 then some (sK g (nn n) (nn tt) G G) else if v3 = 2 then some (sM g (nn n) (nn tt) G G) else if v3 = 3 then some (nn L1) else if v3 = 4 then some (oB L1 s1) else if v3 = 5 then some (sL g (nn n) (nn tt) G G) else some (-1)) := by
    unfold x_stolen
    rw [c0, c1, c2, c3, c4, c5]
    exact st_b (hasChan_y h.net hn) (st_f (by decide) (st_b (x1 g) (st_t (by decide) rfl)))
  have hm : m_stolen 400 (nn n) (nn tt) v3 g = (if v3 = 0 then some (sC g (nn n) G G) else if v3 = 1 then some (sK g (nn n) (nn tt) G G) else if v3 = 2 then some (sM g (nn n) (nn tt) G G) else if v3 = 3 then some (nn L1) else if v3 = 4 then some (oB L1 s1) else if v3 = 5 then some (sL g (nn n) (nn tt) G G) else some (-1)) := by
    unfold m_stolen
    exact st_b (isOf1_y h.net hn) (st_f (by decide) (st_b (m1 g) (st_t (by decide) b2)))
  obtain ⟨v, hv⟩ : ∃ v, (if v3 = 0 then some (sC g (nn n) G G) else if v3 = 1 then some (sK g (nn n) (nn tt) G G) else if v3 = 2 then some (sM g (nn n) (nn tt) G G) else if v3 = 3 then some (nn L1) else if v3 = 4 then some (oB L1 s1) else if v3 = 5 then some (sL g (nn n) (nn tt) G G) else some (-1) : Option Int32) = some v := by
    repeat (split; exact ⟨_, rfl⟩)
    exact ⟨_, rfl⟩
  exact ⟨400, 400, v, g, g, hx.trans hv, hm.trans hv, hR, rfl, rfl⟩
end
section
/-! the statute's lines over a holder: what is reckoned, and the class's side -/
def FVf (dr H Nn Fa who ow : Int32) (w : Nat) : Int32 := if w = 1 then dr else if w = 2 then H else if w = 3 then Nn else if w = 4 then Fa else if w = 5 then who else (if 0 < ow then ow else 0)
def isT (v s l : Int32) : Prop := if s = 15 then v < l else if s = 16 then l < v else v = l
def okTt (c : Sg) (FV : Nat → Int32) (tt : Nat) : Prop := isT (FV (cn c 38 tt - 6)) (c 39 tt) (c 40 tt) ↔ ¬ c 37 tt = 1
def lineOk (c : Sg) (FV : Nat → Int32) (k : Nat) : Prop := ∀ t, t < cn c 36 k → okTt c FV (4 * k + t)
noncomputable def jg (c : Sg) (FV : Nat → Int32) : Nat → Nat → Int32 → Int32 → Int32 × Int32
  | 0, _, w, u => (w, u)
  | m + 1, k, w, u => by
    classical
    exact if lineOk c FV k then (if c 34 k = 4 then jg c FV m (k + 1) (w + c 35 k) u else if c 34 k = 5 then jg c FV m (k + 1) w (c 35 k) else (0, u)) else jg c FV m (k + 1) w u
theorem jg_n {c : Sg} {FV : Nat → Int32} {m k : Nat} {w u : Int32} (h : ¬ lineOk c FV k) : jg c FV (m + 1) k w u = jg c FV m (k + 1) w u := if_neg h
theorem jg_4 {c : Sg} {FV : Nat → Int32} {m k : Nat} {w u : Int32} (h : lineOk c FV k) (h4 : c 34 k = 4) : jg c FV (m + 1) k w u = jg c FV m (k + 1) (w + c 35 k) u := (if_pos h).trans (if_pos h4)
theorem jg_5 {c : Sg} {FV : Nat → Int32} {m k : Nat} {w u : Int32} (h : lineOk c FV k) (h5 : c 34 k = 5) : jg c FV (m + 1) k w u = jg c FV m (k + 1) w (c 35 k) := (if_pos h).trans ((if_neg (by rw [h5]; decide)).trans (if_pos h5))
theorem jg_6 {c : Sg} {FV : Nat → Int32} {m k : Nat} {w u : Int32} (h : lineOk c FV k) (h6 : c 34 k = 6) : jg c FV (m + 1) k w u = (0, u) := (if_pos h).trans ((if_neg (by rw [h6]; decide)).trans (if_neg (by rw [h6]; decide)))
section WL
variable {c S : Sg} {a0 : Nat → Int32} {T L : Nat}
/-- the class's scratch of one holder -/
def CSt (c S : Sg) (FV : Nat → Int32) (who : Nat) : Prop := (∀ i, 33 ≤ i → i ≤ 40 → S i = c i) ∧ FV 1 = (if S 200 7 = 0 then 0 else 1) ∧ FV 2 = S 202 who ∧ FV 3 = S 203 who ∧ FV 4 = S 204 who ∧ FV 5 = nn who ∧ FV 6 = (if 0 < S 201 who then S 201 who else 0)
theorem fact_x {FV : Nat → Int32} {who w : Nat} (hS : CSt c S FV who) (hw : who < 8) (h1 : 1 ≤ w) (h6 : w ≤ 6) : reckoning_factOf (nn (6 + w)) (nn who) S = some (FV w) := by
  obtain ⟨_, f1, f2, f3, f4, f5, f6⟩ := hS
  have hi : inb (nn who) 8 = true := by simp (disch := first | omega | decide) only [lt1, nnMl, nnMr, nnAl, nnAr, nnA, nnM, nnB, nnT, nnP, nnE, nnEl, nnEr, nnL, nnLl, nnLr, nnQ, nnQr, nnN, Nat.add_zero, if_false, if_true, Option.bind_some, not_true, not_false_iff, not_true_eq_false, not_false_eq_true, eq_self, Nat.not_lt_zero, z10, z01, or_true, true_or, or_false, false_or, true_and, false_and, hw]
  have c6 : w = 1 ∨ w = 2 ∨ w = 3 ∨ w = 4 ∨ w = 5 ∨ w = 6 := by omega
  unfold reckoning_factOf
  rw [nnT (by omega)]
  rcases c6 with rfl | rfl | rfl | rfl | rfl | rfl
  · refine st_f (by decide) (st_f (by decide) (st_f (by decide) (st_f (by decide) (st_f (by decide) ?_))))
    rw [f1]
    by_cases e : S 200 7 = 0
    · rw [if_pos e, if_pos e]
    · rw [if_neg e, if_neg e]
  · exact st_t rfl (st_t hi (by rw [f2]))
  · exact st_f (by decide) (st_t rfl (st_t hi (by rw [f3])))
  · exact st_f (by decide) (st_f (by decide) (st_t rfl (st_t hi (by rw [f4]))))
  · exact st_f (by decide) (st_f (by decide) (st_f (by decide) (st_t rfl (by rw [f5]))))
  · exact st_f (by decide) (st_f (by decide) (st_f (by decide) (st_f (by decide) (st_t rfl (st_t hi (by rw [f6]))))))
theorem isT_15 {v l : Int32} : isT v 15 l ↔ v < l := by
  unfold isT
  rw [if_pos rfl]
theorem isT_16 {v l : Int32} : isT v 16 l ↔ l < v := by
  unfold isT
  rw [if_neg (by decide), if_pos rfl]
theorem isT_17 {v l : Int32} : isT v 17 l ↔ v = l := by
  unfold isT
  rw [if_neg (by decide), if_neg (by decide)]
theorem h100 {tt : Nat} (ht : tt < 64) {P : Prop} {b : Int32} (h37 : S 37 tt = 0 ∨ S 37 tt = 1) (hb : b = b01 P) : reckoning_holds_100 (nn tt) b S = some (b01 (P ↔ ¬ S 37 tt = 1)) := by
  unfold reckoning_holds_100
  rw [nnT (by omega), hb]
  refine st_t (by simp (disch := first | omega | decide) only [lt1, nnMl, nnMr, nnAl, nnAr, nnA, nnM, nnB, nnT, nnP, nnE, nnEl, nnEr, nnL, nnLl, nnLr, nnQ, nnQr, nnN, Nat.add_zero, if_false, if_true, Option.bind_some, not_true, not_false_iff, not_true_eq_false, not_false_eq_true, eq_self, Nat.not_lt_zero, z10, z01, or_true, true_or, or_false, false_or, true_and, false_and, ht]) ?_
  by_cases hP : P
  · rw [b01_y hP]
    rcases h37 with e | e
    · rw [e, b01_y ⟨fun _ => by decide, fun _ => hP⟩]
      exact st_f (by decide) rfl
    · rw [e, b01_n (fun q => q.mp hP rfl)]
      exact st_t rfl rfl
  · rw [b01_n hP]
    rcases h37 with e | e
    · rw [e, b01_n (fun q => hP (q.mpr (by decide)))]
      exact st_t rfl rfl
    · rw [e, b01_y ⟨fun q => absurd q hP, fun q => absurd rfl q⟩]
      exact st_f (by decide) rfl
theorem holds_x {FV : Nat → Int32} {who tt i : Nat} {a : Nat → Int32} (hS : CSt c S FV who) (hw : who < 8) (ht : tt < 64) (h : tTest (c 37 tt) (c 38 tt) (c 39 tt) (c 40 tt) a i) : reckoning_holds (nn tt) (nn who) S = some (b01 (okTt c FV tt)) := by
  obtain ⟨h1, h2, ⟨w, w1, w6, hf, h3⟩, h4, h5⟩ := h
  have hi : inb (nn tt) 64 = true := by simp (disch := first | omega | decide) only [lt1, nnMl, nnMr, nnAl, nnAr, nnA, nnM, nnB, nnT, nnP, nnE, nnEl, nnEr, nnL, nnLl, nnLr, nnQ, nnQr, nnN, Nat.add_zero, if_false, if_true, Option.bind_some, not_true, not_false_iff, not_true_eq_false, not_false_eq_true, eq_self, Nat.not_lt_zero, z10, z01, or_true, true_or, or_false, false_or, true_and, false_and, ht]
  have e37 : S 37 = c 37 := hS.1 37 (by decide) (by decide)
  have ew : cn c 38 tt - 6 = w := by
    unfold cn
    rw [hf, nnT (by omega)]
    omega
  have ok : okTt c FV tt = (isT (FV w) (c 39 tt) (c 40 tt) ↔ ¬ S 37 tt = 1) := by
    unfold okTt
    rw [ew, e37]
  rw [ok]
  unfold reckoning_holds
  rw [nnT (show tt < 2147483648 by omega), hS.1 38 (by decide) (by decide), hS.1 39 (by decide) (by decide), hS.1 40 (by decide) (by decide), hf]
  refine st_t hi (st_b (fact_x hS hw w1 w6) (st_w hi (st_w hi ?_)))
  have h37 : S 37 tt = 0 ∨ S 37 tt = 1 := by rw [e37]; exact h1
  unfold tSign at h4
  unfold reckoning_holds_64 reckoning_holds_81 reckoning_holds_98
  rcases h4 with ⟨e, _⟩ | ⟨e, _⟩ | ⟨e, _⟩
  · rw [e]
    refine st_t rfl ?_
    by_cases q : c 40 tt ≤ FV w
    · exact st_t q (h100 ht h37 (b01_n (fun p => absurd (isT_15.mp p) (Int32.not_lt.mpr q))).symm)
    · exact st_f q (h100 ht h37 (b01_y (isT_15.mpr (Int32.not_le.mp q))).symm)
  · rw [e]
    refine st_f (by decide) (st_t rfl ?_)
    by_cases q : FV w ≤ c 40 tt
    · exact st_t q (h100 ht h37 (b01_n (fun p => absurd (isT_16.mp p) (Int32.not_lt.mpr q))).symm)
    · exact st_f q (h100 ht h37 (b01_y (isT_16.mpr (Int32.not_le.mp q))).symm)
  · rw [e]
    refine st_f (by decide) (st_f (by decide) ?_)
    by_cases q : FV w = c 40 tt
    · exact st_f (fun p => p q) (h100 ht h37 (b01_y (isT_17.mpr q)).symm)
    · exact st_t q (h100 ht h37 (b01_n (fun p => q (isT_17.mp p))).symm)
theorem allL {FV : Nat → Int32} {who k n : Nat} {a : Nat → Int32} {b : Nat} (hS : CSt c S FV who) (hw : who < 8) (hk : k < 16) (hn : n ≤ 4) (h36 : c 36 k = nn n) (h : ∀ t, t < n → tTest (c 37 (4 * k + t)) (c 38 (4 * k + t)) (c 39 (4 * k + t)) (c 40 (4 * k + t)) a (b + 4 * t)) : ∀ m t F, t + m = n → m < F → reckoning_allHold_3 F (nn k) (nn who) (nn t) S = some (b01 (∀ t2, t ≤ t2 → t2 < n → okTt c FV (4 * k + t2))) := by
  have e36 : S 36 = c 36 := hS.1 36 (by decide) (by decide)
  intro m
  induction m with
  | zero =>
    intro t F hm hF
    obtain ⟨F, rfl⟩ : ∃ F2, F = F2 + 1 := ⟨F - 1, by omega⟩
    have : t = n := by omega
    subst this
    rw [b01_y (fun t2 q1 q2 => absurd q1 (by omega))]
    unfold reckoning_allHold_3
    rw [nnT (by omega), e36, h36]
    exact st_t (by simp (disch := first | omega | decide) only [lt1, nnMl, nnMr, nnAl, nnAr, nnA, nnM, nnB, nnT, nnP, nnE, nnEl, nnEr, nnL, nnLl, nnLr, nnQ, nnQr, nnN, Nat.add_zero, if_false, if_true, Option.bind_some, not_true, not_false_iff, not_true_eq_false, not_false_eq_true, eq_self, Nat.not_lt_zero, z10, z01, or_true, true_or, or_false, false_or, true_and, false_and, hk]) (st_t (Int32.le_refl _) rfl)
  | succ m ih =>
    intro t F hm hF
    obtain ⟨F, rfl⟩ : ∃ F2, F = F2 + 1 := ⟨F - 1, by omega⟩
    have h3 : ¬ n ≤ t := by omega
    have h4 : ¬ 4 ≤ t := by omega
    have ei : nn k * 4 + nn t = nn (4 * k + t) := by rw [show 4 * k + t = k * 4 + t by omega]; simp (disch := first | omega | decide) only [lt1, nnMl, nnMr, nnAl, nnAr, nnA, nnM, nnB, nnT, nnP, nnE, nnEl, nnEr, nnL, nnLl, nnLr, nnQ, nnQr, nnN, Nat.add_zero, if_false, if_true, Option.bind_some, not_true, not_false_iff, not_true_eq_false, not_false_eq_true, eq_self, Nat.not_lt_zero, z10, z01, or_true, true_or, or_false, false_or, true_and, false_and]
    unfold reckoning_allHold_3
    rw [nnT (show k < 2147483648 by omega), e36, h36, ei, show nn t + 1 = nn (t + 1) from nnA t 1]
    refine st_t (by simp (disch := first | omega | decide) only [lt1, nnMl, nnMr, nnAl, nnAr, nnA, nnM, nnB, nnT, nnP, nnE, nnEl, nnEr, nnL, nnLl, nnLr, nnQ, nnQr, nnN, Nat.add_zero, if_false, if_true, Option.bind_some, not_true, not_false_iff, not_true_eq_false, not_false_eq_true, eq_self, Nat.not_lt_zero, z10, z01, or_true, true_or, or_false, false_or, true_and, false_and, hk]) (st_f (by simp (disch := first | omega | decide) only [lt1, nnMl, nnMr, nnAl, nnAr, nnA, nnM, nnB, nnT, nnP, nnE, nnEl, nnEr, nnL, nnLl, nnLr, nnQ, nnQr, nnN, Nat.add_zero, if_false, if_true, Option.bind_some, not_true, not_false_iff, not_true_eq_false, not_false_eq_true, eq_self, Nat.not_lt_zero, z10, z01, or_true, true_or, or_false, false_or, true_and, false_and, h3]) (st_f (by simp (disch := first | omega | decide) only [lt1, nnMl, nnMr, nnAl, nnAr, nnA, nnM, nnB, nnT, nnP, nnE, nnEl, nnEr, nnL, nnLl, nnLr, nnQ, nnQr, nnN, Nat.add_zero, if_false, if_true, Option.bind_some, not_true, not_false_iff, not_true_eq_false, not_false_eq_true, eq_self, Nat.not_lt_zero, z10, z01, or_true, true_or, or_false, false_or, true_and, false_and, h4]) (st_b (holds_x hS hw (by omega) (h t (by omega))) ?_)))
    by_cases q : okTt c FV (4 * k + t)
    · refine st_t (by rw [b01_y q]; decide) ((ih (t + 1) F (by omega) (by omega)).trans ?_)
      congr 1
      by_cases q2 : ∀ t2, t + 1 ≤ t2 → t2 < n → okTt c FV (4 * k + t2)
      · rw [b01_y q2, b01_y (fun t2 p1 p2 => by
          by_cases e : t2 = t
          · rw [e]; exact q
          · exact q2 t2 (by omega) p2)]
      · rw [b01_n q2, b01_n (fun p => q2 (fun t2 p1 p2 => p t2 (by omega) p2))]
    · refine st_f (by rw [b01_n q]; decide) ?_
      rw [b01_n (fun p => q (p t (Nat.le_refl _) (by omega)))]
theorem all_x {FV : Nat → Int32} {who k : Nat} (hS : CSt c S FV who) (hw : who < 8) (hl : RLaw c a0 T L) (hk : k < L) {F : Nat} (hF : 5 < F) : reckoning_allHold F (nn k) (nn who) S = some (b01 (lineOk c FV k)) := by
  have hL := hl.hL
  obtain ⟨⟨n, n4, h36, _, h⟩, _⟩ := hl.ln k hk
  have := allL hS hw (show k < 16 by omega) n4 h36 h n 0 F (by omega) (by omega)
  unfold reckoning_allHold
  refine Eq.trans this ?_
  congr 1
  have ec : cn c 36 k = n := by unfold cn; rw [h36, nnT (by omega)]
  by_cases q : lineOk c FV k
  · rw [b01_y q, b01_y (fun t2 _ p2 => q t2 (by rw [ec]; exact p2))]
  · rw [b01_n q, b01_n (fun p => q (fun t2 p2 => p t2 (Nat.zero_le _) (by rw [ec] at p2; exact p2)))]
theorem CSt.sc {FV : Nat → Int32} {who : Nat} {f e : Nat → Int32} (h : CSt c S FV who) : CSt c (sc (sc S 205 f) 206 e) FV who := by
  obtain ⟨f0, f1, f2, f3, f4, f5, f6⟩ := h
  refine ⟨fun i p1 p2 => by rw [sc_n (by omega), sc_n (by omega)]; exact f0 i p1 p2, ?_, ?_, ?_, ?_, f5, ?_⟩
  · rw [sc_n (by decide), sc_n (by decide)]; exact f1
  · rw [sc_n (by decide), sc_n (by decide)]; exact f2
  · rw [sc_n (by decide), sc_n (by decide)]; exact f3
  · rw [sc_n (by decide), sc_n (by decide)]; exact f4
  · rw [sc_n (by decide), sc_n (by decide)]; exact f6
theorem judL {FV : Nat → Int32} {who : Nat} (hS : CSt c S FV who) (hw : who < 8) (hl : RLaw c a0 T L) {F0 : Nat} (hF0 : 5 < F0) : ∀ m k F f e, k + m = L → m < F → ∃ f2 e2, reckoning_judge_16 F0 F (nn who) (nn k) (sc (sc S 205 f) 206 e) = some (sc (sc S 205 f2) 206 e2) ∧ f2 who = (jg c FV m k (f who) (e who)).1 ∧ e2 who = (jg c FV m k (f who) (e who)).2 ∧ ∀ j, j ≠ who → f2 j = f j ∧ e2 j = e j := by
  have hL := hl.hL
  have hi : inb (nn who) 8 = true := by simp (disch := first | omega | decide) only [lt1, nnMl, nnMr, nnAl, nnAr, nnA, nnM, nnB, nnT, nnP, nnE, nnEl, nnEr, nnL, nnLl, nnLr, nnQ, nnQr, nnN, Nat.add_zero, if_false, if_true, Option.bind_some, not_true, not_false_iff, not_true_eq_false, not_false_eq_true, eq_self, Nat.not_lt_zero, z10, z01, or_true, true_or, or_false, false_or, true_and, false_and, hw]
  intro m
  induction m with
  | zero =>
    intro k F f e hk hF
    obtain ⟨F, rfl⟩ : ∃ F2, F = F2 + 1 := ⟨F - 1, by omega⟩
    have : k = L := by omega
    subst this
    refine ⟨f, e, ?_, rfl, rfl, fun j _ => ⟨rfl, rfl⟩⟩
    unfold reckoning_judge_16
    rw [(hS.sc).1 33 (by decide) (by decide), hl.cL]
    exact st_t (Int32.le_refl _) rfl
  | succ m ih =>
    intro k F f e hk hF
    obtain ⟨F, rfl⟩ : ∃ F2, F = F2 + 1 := ⟨F - 1, by omega⟩
    have h3 : ¬ L ≤ k := by omega
    have h16 : ¬ 16 ≤ k := by omega
    have hk16 : k < 16 := by omega
    have hik : inb (nn k) 16 = true := by simp (disch := first | omega | decide) only [lt1, nnMl, nnMr, nnAl, nnAr, nnA, nnM, nnB, nnT, nnP, nnE, nnEl, nnEr, nnL, nnLl, nnLr, nnQ, nnQr, nnN, Nat.add_zero, if_false, if_true, Option.bind_some, not_true, not_false_iff, not_true_eq_false, not_false_eq_true, eq_self, Nat.not_lt_zero, z10, z01, or_true, true_or, or_false, false_or, true_and, false_and, hk16]
    have pre : ∀ rr, (if b01 (lineOk c FV k) = 0 then reckoning_judge_16 F0 F (nn who) (nn (k + 1)) (sc (sc S 205 f) 206 e) else (if c 34 k = 4 then reckoning_judge_16 F0 F (nn who) (nn (k + 1)) (sc (sc S 205 (up1 f who (f who + c 35 k))) 206 e) else (if c 34 k = 5 then reckoning_judge_16 F0 F (nn who) (nn (k + 1)) (sc (sc S 205 f) 206 (up1 e who (c 35 k))) else some (sc (sc S 205 (up1 f who 0)) 206 e)))) = rr → reckoning_judge_16 F0 (F + 1) (nn who) (nn k) (sc (sc S 205 f) 206 e) = rr := fun rr hr => by
      unfold reckoning_judge_16
      rw [(hS.sc).1 33 (by decide) (by decide), hl.cL, (hS.sc).1 34 (by decide) (by decide), (hS.sc).1 35 (by decide) (by decide), nnT (show k < 2147483648 by omega), nnT (show who < 2147483648 by omega), show nn k + 1 = nn (k + 1) from nnA k 1]
      refine st_f (by simp (disch := first | omega | decide) only [lt1, nnMl, nnMr, nnAl, nnAr, nnA, nnM, nnB, nnT, nnP, nnE, nnEl, nnEr, nnL, nnLl, nnLr, nnQ, nnQr, nnN, Nat.add_zero, if_false, if_true, Option.bind_some, not_true, not_false_iff, not_true_eq_false, not_false_eq_true, eq_self, Nat.not_lt_zero, z10, z01, or_true, true_or, or_false, false_or, true_and, false_and, h3]) (st_f (by simp (disch := first | omega | decide) only [lt1, nnMl, nnMr, nnAl, nnAr, nnA, nnM, nnB, nnT, nnP, nnE, nnEl, nnEr, nnL, nnLl, nnLr, nnQ, nnQr, nnN, Nat.add_zero, if_false, if_true, Option.bind_some, not_true, not_false_iff, not_true_eq_false, not_false_eq_true, eq_self, Nat.not_lt_zero, z10, z01, or_true, true_or, or_false, false_or, true_and, false_and, h16]) (st_b (all_x hS.sc hw hl (by omega) hF0) ?_))
      rw [← hr]
      by_cases q : b01 (lineOk c FV k) = 0
      · rw [if_pos q, if_pos q]
      · rw [if_neg q, if_neg q]
        refine st_w hik ?_
        by_cases q4 : c 34 k = 4
        · rw [if_pos q4, if_pos q4]
          refine st_t hi (st_t hik (st_w hi ?_))
          rw [sc_v (by decide), sc_u, sc_n (show 205 ≠ 206 by decide), sc_e]
        · rw [if_neg q4, if_neg q4]
          by_cases q5 : c 34 k = 5
          · rw [if_pos q5, if_pos q5]
            refine st_t hik (st_w hi ?_)
            rw [sc_u]
          · rw [if_neg q5, if_neg q5]
            refine st_w hi ?_
            rw [sc_v (by decide), sc_u]
    obtain ⟨_, hact, _⟩ := hl.ln k (by omega)
    by_cases q : lineOk c FV k
    · have q0 : ¬ b01 (lineOk c FV k) = 0 := by rw [b01_y q]; decide
      rcases hact with ⟨e4, _⟩ | ⟨e4, _⟩ | ⟨e4, _⟩
      · obtain ⟨f2, e2, r1, r2, r3, r4⟩ := ih (k + 1) F (up1 f who (f who + c 35 k)) e (by omega) (by omega)
        rw [up1_eq] at r2 r3
        refine ⟨f2, e2, pre _ ((if_neg q0).trans ((if_pos e4).trans r1)), ?_, ?_, fun j hj => ⟨(r4 j hj).1.trans (up1_ne hj), (r4 j hj).2⟩⟩
        · rw [jg_4 q e4]; exact r2
        · rw [jg_4 q e4]; exact r3
      · obtain ⟨f2, e2, r1, r2, r3, r4⟩ := ih (k + 1) F f (up1 e who (c 35 k)) (by omega) (by omega)
        rw [up1_eq] at r2 r3
        refine ⟨f2, e2, pre _ ((if_neg q0).trans ((if_neg (by rw [e4]; decide)).trans ((if_pos e4).trans r1))), ?_, ?_, fun j hj => ⟨(r4 j hj).1, (r4 j hj).2.trans (up1_ne hj)⟩⟩
        · rw [jg_5 q e4]; exact r2
        · rw [jg_5 q e4]; exact r3
      · refine ⟨up1 f who 0, e, pre _ ((if_neg q0).trans ((if_neg (by rw [e4]; decide)).trans (if_neg (by rw [e4]; decide)))), ?_, ?_, fun j hj => ⟨up1_ne hj, rfl⟩⟩
        · rw [jg_6 q e4, up1_eq]
        · rw [jg_6 q e4]
    · obtain ⟨f2, e2, r1, r2, r3, r4⟩ := ih (k + 1) F f e (by omega) (by omega)
      refine ⟨f2, e2, pre _ ((if_pos (b01_n q)).trans r1), ?_, ?_, r4⟩
      · rw [jg_n q]; exact r2
      · rw [jg_n q]; exact r3
theorem jud_x {FV : Nat → Int32} {who : Nat} (hS : CSt c S FV who) (hw : who < 8) (hl : RLaw c a0 T L) {F : Nat} (hF : 20 < F) : ∃ f2 e2, reckoning_judge F (nn who) S = some (sc (sc S 205 f2) 206 e2) ∧ f2 who = (jg c FV L 0 0 0).1 ∧ e2 who = (jg c FV L 0 0 0).2 ∧ ∀ j, j ≠ who → f2 j = S 205 j ∧ e2 j = S 206 j := by
  have hL := hl.hL
  have hi : inb (nn who) 8 = true := by simp (disch := first | omega | decide) only [lt1, nnMl, nnMr, nnAl, nnAr, nnA, nnM, nnB, nnT, nnP, nnE, nnEl, nnEr, nnL, nnLl, nnLr, nnQ, nnQr, nnN, Nat.add_zero, if_false, if_true, Option.bind_some, not_true, not_false_iff, not_true_eq_false, not_false_eq_true, eq_self, Nat.not_lt_zero, z10, z01, or_true, true_or, or_false, false_or, true_and, false_and, hw]
  obtain ⟨f2, e2, r1, r2, r3, r4⟩ := judL hS hw hl (F0 := F) (by omega) L 0 F (up1 (S 205) who 0) (up1 (S 206) who 0) (by omega) (by omega)
  rw [up1_eq, up1_eq] at r2 r3
  refine ⟨f2, e2, ?_, r2, r3, fun j hj => ⟨(r4 j hj).1.trans (up1_ne hj), (r4 j hj).2.trans (up1_ne hj)⟩⟩
  unfold reckoning_judge
  rw [nnT (by omega)]
  refine st_w hi (st_w hi ?_)
  have e : up2 (up2 S 205 who 0) 206 who 0 = sc (sc S 205 (up1 (S 205) who 0)) 206 (up1 (S 206) who 0) := by
    funext i j
    unfold up2 sc up1
    by_cases h6 : i = 206
    · subst h6
      by_cases hj : j = who
      · rw [if_pos ⟨rfl, hj⟩, if_pos rfl, if_pos hj]
      · rw [if_neg (fun q => hj q.2), if_neg (fun q => hj q.2), if_pos rfl, if_neg hj]
    · rw [if_neg (fun q => h6 q.1), if_neg h6]
      by_cases h5 : i = 205
      · subst h5
        by_cases hj : j = who
        · rw [if_pos ⟨rfl, hj⟩, if_pos rfl, if_pos hj]
        · rw [if_neg (fun q => hj q.2), if_pos rfl, if_neg hj]
      · rw [if_neg (fun q => h5 q.1), if_neg h5]
  rw [e]
  exact r1
end WL
end
section
/-! what is reckoned of all holders in a week: the class's side -/
def ntI (i : Nat) : Int32 := if i % 24 < 6 then 1 else if i % 24 < 18 then 0 else 1
def hrI (f : Nat → Int32) (i j : Nat) : Int32 := if f i = nn j then 1 else 0
def niI (f : Nat → Int32) (i j : Nat) : Int32 := if f i = nn j then ntI i else 0
noncomputable def hrs (c : Sg) (D Q W j : Nat) : Int32 := sumTo (fun i => hrI (fun i => ownS c (nn i) (nn W) (nn (Q / 96)) D) i j) 168
noncomputable def ngt (c : Sg) (D Q W j : Nat) : Int32 := sumTo (fun i => niI (fun i => ownS c (nn i) (nn W) (nn (Q / 96)) D) i j) 168
noncomputable def FVh (c : Sg) (D Q W : Nat) (fv : Nat → Int32) (j : Nat) : Nat → Int32 := FVf (c 41 W) (hrs c D Q W j) (ngt c D Q W j) (fv j) (nn j) (ow c Q D ((Q + 3) / 4) j)
section WM
variable {c g : Sg} {D N Q : Nat}
theorem hcL {s : Sg} {f : Nat → Int32} (hf : ∀ i, i < 168 → f i = -1 ∨ ∃ n, n < 8 ∧ f i = nn n) (hs : s 207 = f) : ∀ m x F a b, x + m = 168 → m < F → (∀ j, j < 8 → a j = sumTo (fun i => hrI f i j) x ∧ b j = sumTo (fun i => niI f i j) x) → ∃ a2 b2, reckoning_reckonHours_54 F (nn x) (sc (sc s 202 a) 203 b) = some (sc (sc s 202 a2) 203 b2) ∧ ∀ j, j < 8 → a2 j = sumTo (fun i => hrI f i j) 168 ∧ b2 j = sumTo (fun i => niI f i j) 168 := by
  intro m
  induction m with
  | zero =>
    intro x F a b hx hF h
    obtain ⟨F, rfl⟩ : ∃ F2, F = F2 + 1 := ⟨F - 1, by omega⟩
    have : x = 168 := by omega
    subst this
    refine ⟨a, b, ?_, h⟩
    unfold reckoning_reckonHours_54
    exact if_pos (by decide)
  | succ m ih =>
    intro x F a b hx hF h
    obtain ⟨F, rfl⟩ : ∃ F2, F = F2 + 1 := ⟨F - 1, by omega⟩
    have h2 : ¬ 168 ≤ x := by omega
    have h1 : x < 168 := by omega
    have hi : inb (nn x) 168 = true := by simp (disch := first | omega | decide) only [lt1, nnMl, nnMr, nnAl, nnAr, nnA, nnM, nnB, nnT, nnP, nnE, nnEl, nnEr, nnL, nnLl, nnLr, nnQ, nnQr, nnN, Nat.add_zero, if_false, if_true, Option.bind_some, not_true, not_false_iff, not_true_eq_false, not_false_eq_true, eq_self, Nat.not_lt_zero, z10, z01, or_true, true_or, or_false, false_or, true_and, false_and, h1]
    have e7 : sc (sc s 202 a) 203 b 207 (Int32.toNatClampNeg (nn x)) = f x := by rw [sc_n (by decide), sc_n (by decide), hs, nnT (by omega)]
    rcases hf x h1 with e | ⟨v, hv, e⟩
    · obtain ⟨a2, b2, r1, r2⟩ := ih (x + 1) F a b (by omega) (by omega) (fun j hj => by
        have ne : ¬ f x = nn j := by rw [e]; exact nnN1 (by omega)
        refine ⟨?_, ?_⟩
        · show a j = sumTo (fun i => hrI f i j) x + (if f x = nn j then 1 else 0)
          rw [if_neg ne, Int32.add_zero]; exact (h j hj).1
        · show b j = sumTo (fun i => niI f i j) x + (if f x = nn j then ntI x else 0)
          rw [if_neg ne, Int32.add_zero]; exact (h j hj).2)
      refine ⟨a2, b2, ?_, r2⟩
      unfold reckoning_reckonHours_54
      rw [e7, e, show nn x + 1 = nn (x + 1) from nnA x 1]
      exact st_f (by simp (disch := first | omega | decide) only [lt1, nnMl, nnMr, nnAl, nnAr, nnA, nnM, nnB, nnT, nnP, nnE, nnEl, nnEr, nnL, nnLl, nnLr, nnQ, nnQr, nnN, Nat.add_zero, if_false, if_true, Option.bind_some, not_true, not_false_iff, not_true_eq_false, not_false_eq_true, eq_self, Nat.not_lt_zero, z10, z01, or_true, true_or, or_false, false_or, true_and, false_and, h2]) (st_w hi (st_b holder_neg (st_t rfl r1)))
    · have hv8 : inb (nn v) 8 = true := by simp (disch := first | omega | decide) only [lt1, nnMl, nnMr, nnAl, nnAr, nnA, nnM, nnB, nnT, nnP, nnE, nnEl, nnEr, nnL, nnLl, nnLr, nnQ, nnQr, nnN, Nat.add_zero, if_false, if_true, Option.bind_some, not_true, not_false_iff, not_true_eq_false, not_false_eq_true, eq_self, Nat.not_lt_zero, z10, z01, or_true, true_or, or_false, false_or, true_and, false_and, hv]
      obtain ⟨a2, b2, r1, r2⟩ := ih (x + 1) F (up1 a v (a v + 1)) (up1 b v (b v + ntI x)) (by omega) (by omega) (fun j hj => by
        by_cases ej : j = v
        · subst ej
          rw [up1_eq, up1_eq]
          refine ⟨?_, ?_⟩
          · show _ = sumTo (fun i => hrI f i j) x + (if f x = nn j then 1 else 0)
            rw [if_pos e, (h j hj).1]
          · show _ = sumTo (fun i => niI f i j) x + (if f x = nn j then ntI x else 0)
            rw [if_pos e, (h j hj).2]
        · have ne : ¬ f x = nn j := by rw [e]; exact nnNe (by omega) (by omega) (fun q => ej q.symm)
          rw [up1_ne ej, up1_ne ej]
          refine ⟨?_, ?_⟩
          · show a j = sumTo (fun i => hrI f i j) x + (if f x = nn j then 1 else 0)
            rw [if_neg ne, Int32.add_zero]; exact (h j hj).1
          · show b j = sumTo (fun i => niI f i j) x + (if f x = nn j then ntI x else 0)
            rw [if_neg ne, Int32.add_zero]; exact (h j hj).2)
      refine ⟨a2, b2, ?_, r2⟩
      have em : nn x - nn x / 24 * 24 = nn (x % 24) := by
        have e : nn x / 24 * 24 = nn (x / 24 * 24) := by simp (disch := first | omega | decide) only [lt1, nnMl, nnMr, nnAl, nnAr, nnA, nnM, nnB, nnT, nnP, nnE, nnEl, nnEr, nnL, nnLl, nnLr, nnQ, nnQr, nnN, Nat.add_zero, if_false, if_true, Option.bind_some, not_true, not_false_iff, not_true_eq_false, not_false_eq_true, eq_self, Nat.not_lt_zero, z10, z01, or_true, true_or, or_false, false_or, true_and, false_and, nnDr]
        rw [e, nnS (a := x) (b := x / 24 * 24) (by omega), show x - x / 24 * 24 = x % 24 by omega]
      unfold reckoning_reckonHours_54
      rw [e7, e, show nn x + 1 = nn (x + 1) from nnA x 1, em]
      refine st_f (by simp (disch := first | omega | decide) only [lt1, nnMl, nnMr, nnAl, nnAr, nnA, nnM, nnB, nnT, nnP, nnE, nnEl, nnEr, nnL, nnLl, nnLr, nnQ, nnQr, nnN, Nat.add_zero, if_false, if_true, Option.bind_some, not_true, not_false_iff, not_true_eq_false, not_false_eq_true, eq_self, Nat.not_lt_zero, z10, z01, or_true, true_or, or_false, false_or, true_and, false_and, h2]) (st_w hi (st_b (holder_y hv) (st_f (by decide) (st_l (st_t hv8 (st_w hv8 (st_t hv8 ?_)))))))
      rw [nnT (show v < 2147483648 by omega), sc_v (show 202 ≠ 203 by decide), sc_u, sc_n (show 202 ≠ 203 by decide), sc_e, sc_e, sc_u, sc_u]
      unfold ntI at r1
      by_cases q1 : x % 24 < 6
      · rw [if_pos q1] at r1
        exact st_t (by simp (disch := first | omega | decide) only [lt1, nnMl, nnMr, nnAl, nnAr, nnA, nnM, nnB, nnT, nnP, nnE, nnEl, nnEr, nnL, nnLl, nnLr, nnQ, nnQr, nnN, Nat.add_zero, if_false, if_true, Option.bind_some, not_true, not_false_iff, not_true_eq_false, not_false_eq_true, eq_self, Nat.not_lt_zero, z10, z01, or_true, true_or, or_false, false_or, true_and, false_and, q1]) (st_w hv8 r1)
      · rw [if_neg q1] at r1
        by_cases q2 : x % 24 < 18
        · rw [if_pos q2] at r1
          exact st_f (by simp (disch := first | omega | decide) only [lt1, nnMl, nnMr, nnAl, nnAr, nnA, nnM, nnB, nnT, nnP, nnE, nnEl, nnEr, nnL, nnLl, nnLr, nnQ, nnQr, nnN, Nat.add_zero, if_false, if_true, Option.bind_some, not_true, not_false_iff, not_true_eq_false, not_false_eq_true, eq_self, Nat.not_lt_zero, z10, z01, or_true, true_or, or_false, false_or, true_and, false_and, q1]) (st_t (by simp (disch := first | omega | decide) only [lt1, nnMl, nnMr, nnAl, nnAr, nnA, nnM, nnB, nnT, nnP, nnE, nnEl, nnEr, nnL, nnLl, nnLr, nnQ, nnQr, nnN, Nat.add_zero, if_false, if_true, Option.bind_some, not_true, not_false_iff, not_true_eq_false, not_false_eq_true, eq_self, Nat.not_lt_zero, z10, z01, or_true, true_or, or_false, false_or, true_and, false_and, q2]) (st_w hv8 r1))
        · rw [if_neg q2] at r1
          exact st_f (by simp (disch := first | omega | decide) only [lt1, nnMl, nnMr, nnAl, nnAr, nnA, nnM, nnB, nnT, nnP, nnE, nnEl, nnEr, nnL, nnLl, nnLr, nnQ, nnQr, nnN, Nat.add_zero, if_false, if_true, Option.bind_some, not_true, not_false_iff, not_true_eq_false, not_false_eq_true, eq_self, Nat.not_lt_zero, z10, z01, or_true, true_or, or_false, false_or, true_and, false_and, q1]) (st_f (by simp (disch := first | omega | decide) only [lt1, nnMl, nnMr, nnAl, nnAr, nnA, nnM, nnB, nnT, nnP, nnE, nnEl, nnEr, nnL, nnLl, nnLr, nnQ, nnQr, nnN, Nat.add_zero, if_false, if_true, Option.bind_some, not_true, not_false_iff, not_true_eq_false, not_false_eq_true, eq_self, Nat.not_lt_zero, z10, z01, or_true, true_or, or_false, false_or, true_and, false_and, q2]) (st_w hv8 r1))
theorem wkL (h : RRig c (g 216) D N Q) (hQ : Q ≤ 9599) {s : Sg} (hs : ∀ i, 22 ≤ i → i ≤ 30 → s i = c i) {W : Nat} (hW : W < 100) {F0 : Nat} (hF0 : 200 < F0) : ∀ m w F f, w + m = W + 1 → m < F → (∀ i, i < 168 → f i = ownS c (nn i) (nn w - 1) (nn (Q / 96)) D) → ∃ f2, reckoning_reckonHours_26 F0 F (nn W) (nn w) (sc s 207 f) = reckoning_reckonHours_54 F0 0 (sc s 207 f2) ∧ ∀ i, i < 168 → f2 i = ownS c (nn i) (nn W) (nn (Q / 96)) D := by
  intro m
  induction m with
  | zero =>
    intro w F f hw hF hf
    obtain ⟨F, rfl⟩ : ∃ F2, F = F2 + 1 := ⟨F - 1, by omega⟩
    have : w = W + 1 := by omega
    subst this
    refine ⟨f, ?_, fun i hi => by rw [hf i hi, nnS1]⟩
    unfold reckoning_reckonHours_26
    exact st_t (by rw [nnL (by omega) (by omega)]; omega) rfl
  | succ m ih =>
    intro w F f hw hF hf
    obtain ⟨F, rfl⟩ : ∃ F2, F = F2 + 1 := ⟨F - 1, by omega⟩
    have h2 : ¬ 100 ≤ w := by omega
    obtain ⟨f1, l1, l2⟩ := lay_y h hQ (s := s) hs (prev_w h (show w < 100 by omega)) (prev_lt (by omega)) hF0 hf
    obtain ⟨f2, r1, r2⟩ := ih (w + 1) F f1 (by omega) (by omega) (fun i hi => by rw [nnS1]; exact l2 i hi)
    refine ⟨f2, ?_, r2⟩
    unfold reckoning_reckonHours_26
    rw [show nn w + 1 = nn (w + 1) from nnA w 1]
    exact st_f (by rw [nnL (by omega) (by omega)]; omega) (st_f (by simp (disch := first | omega | decide) only [lt1, nnMl, nnMr, nnAl, nnAr, nnA, nnM, nnB, nnT, nnP, nnE, nnEl, nnEr, nnL, nnLl, nnLr, nnQ, nnQr, nnN, Nat.add_zero, if_false, if_true, Option.bind_some, not_true, not_false_iff, not_true_eq_false, not_false_eq_true, eq_self, Nat.not_lt_zero, z10, z01, or_true, true_or, or_false, false_or, true_and, false_and, h2]) (st_b l1 r1))
theorem reckonHours_y (h : RRig c (g 216) D N Q) (hQ : Q ≤ 9599) {s : Sg} (hs : ∀ i, 22 ≤ i → i ≤ 30 → s i = c i) {W : Nat} (hW : W < 100) {F : Nat} (hF : 200 < F) : ∃ f a b, reckoning_reckonHours F (nn W) s = some (sc (sc (sc s 207 f) 202 a) 203 b) ∧ ∀ j, j < 8 → a j = hrs c D Q W j ∧ b j = ngt c D Q W j := by
  obtain ⟨a, p1, p2⟩ := jA_fill_c3_y (v := 0) (s := s) (F := F) (by omega)
  obtain ⟨b, p3, p4⟩ := jA_fill_c4_y (v := 0) (s := sc s 202 a) (F := F) (by omega)
  obtain ⟨f, p5, p6⟩ := jA_fill_c2_y (v := -1) (s := sc (sc s 202 a) 203 b) (F := F) (by omega)
  obtain ⟨f2, q1, q2⟩ := wkL h hQ (s := sc (sc s 202 a) 203 b) (fun i e1 e2 => by rw [sc_n (by omega), sc_n (by omega)]; exact hs i e1 e2) hW hF (W + 1) 0 F f (by omega) (by omega) (fun i hi => by rw [p5 i hi]; exact (own_neg h).symm)
  have hv : ∀ i, i < 168 → f2 i = -1 ∨ ∃ n, n < 8 ∧ f2 i = nn n := fun i hi => by rw [q2 i hi]; exact ownS_v h
  obtain ⟨a2, b2, r1, r2⟩ := hcL (s := sc s 207 f2) (f := f2) hv sc_e 168 0 F a b (by omega) (by omega) (fun j hj => ⟨p1 j hj, p3 j hj⟩)
  refine ⟨f2, a2, b2, ?_, fun j hj => ⟨(r2 j hj).1.trans (sumTo_congr (fun i hi => ?_)), (r2 j hj).2.trans (sumTo_congr (fun i hi => ?_))⟩⟩
  · unfold reckoning_reckonHours
    refine st_b p2 (st_b p4 (st_b p6 (Eq.trans q1 ?_)))
    rw [sc_c (g := sc s 202 a) (a := 203) (b := 207) (by decide), sc_c (g := s) (a := 202) (b := 207) (by decide)]
    exact r1
  · unfold hrI
    rw [q2 i hi]
  · unfold niI
    rw [q2 i hi]
end WM
section WN
variable {c : Sg} {a0 : Nat → Int32} {N C Q D T L : Nat}
/-- how far a holder's field is, on both sides -/
def farP (c : Sg) (N C Q h : Nat) (fv : Int32) : Prop := (∀ (S : Sg) (F : Nat), 20 < F → (∀ i, 2 ≤ i → i ≤ 21 → S i = c i) → ∃ r S2, ways_find F 0 (c 23 h) S = some (r, S2) ∧ (∀ i, i ≠ 187 → i ≠ 188 → i ≠ 189 → i ≠ 190 → S2 i = S i) ∧ ((r = 0 ∧ fv = 999) ∨ (r = 1 ∧ ways_travelFrom 0 S2 = some fv))) ∧ ∀ (M : Sg) (F : Nat), 20 < F → RNet c (M 216) N C Q → (c 23 h < 0 ∧ fv = 999) ∨ (¬ c 23 h < 0 ∧ ∃ r M2, m_leads F 0 (c 23 h) M = some (r, M2) ∧ (∀ i, i ≠ 218 → M2 i = M i) ∧ ((r = 0 ∧ fv = 999) ∨ (r = 1 ∧ M2 218 0 / 100 = fv)))
theorem far_ex (h0 : RNet c a0 N C Q) (r0 : RRig c a0 D N Q) {h : Nat} (hh : h < 8) : ∃ fv, farP c N C Q h fv := by
  have hN := h0.hN
  have noW : noWay N 0 (c 23 h) → ((c 23 h < 0 ∧ (999 : Int32) = 999) ∨ ¬ c 23 h < 0) → ∃ fv, farP c N C Q h fv := fun hn hneg => by
    refine ⟨999, fun S F hF hS => ⟨0, S, ?_, fun _ _ _ _ _ => rfl, Or.inl ⟨rfl, rfl⟩⟩, fun M F hF hM => ?_⟩
    · exact find_n (by rw [hS 2 (by decide) (by decide)]; exact h0.cN) hN hn
    · rcases hneg with e | e
      · exact Or.inl e
      · exact Or.inr ⟨e, 0, M, leads_n hM.aN hN hn, fun _ _ => rfl, Or.inl ⟨rfl, rfl⟩⟩
  rcases r0.homeV h hh with e | ⟨t, ht, e⟩
  · refine noW (fun q => ?_) (Or.inl ⟨by rw [e]; decide, rfl⟩)
    obtain ⟨f, t, h1, h2, h3, h5⟩ := q
    rw [e] at h5
    exact nnN1 (by omega) h5
  have hpos : ¬ c 23 h < 0 := by rw [e, nnP (by omega)]; exact id
  by_cases ht0 : t = 0
  · refine noW (fun q => ?_) (Or.inr hpos)
    obtain ⟨f, t2, h1, h2, h3, h5⟩ := q
    rw [e, nnQ (by omega) (by omega)] at h5
    omega
  have ht1 : 0 < t := by omega
  have F1 : ∀ (S : Sg) (F : Nat), 20 < F → (∀ i, 2 ≤ i → i ≤ 21 → S i = c i) → ∃ a b d, ways_find F 0 (nn t) S = some (wyR c C 0 t, ss (up2 S 187 3 (nn t)) a b d) ∧ ∀ u, 0 ≤ u → u < 10 → d u = oN (tab c C t t u).1 ∧ ((tab c C t t u).2 < 1000000 → a u = nn ((tab c C t t u).2 / 100) ∧ b u = nn ((tab c C t t u).2 % 100)) := fun S F hF hS => find_y (g := fun _ => a0) h0 hS ht1 ht hF
  have L1 : ∀ (M : Sg) (F : Nat), 20 < F → RNet c (M 216) N C Q → ∃ e2, m_leads F 0 (nn t) M = some (wyR c C 0 t, sc M 218 e2) ∧ ∀ x, x < 10 → e2 x = nn (tab c C t t x).2 := fun M F hF hM => leads_y hM ht1 ht hF
  have fss : ∀ (S : Sg) (a b d : Nat → Int32) (i : Nat), i ≠ 187 → i ≠ 188 → i ≠ 189 → i ≠ 190 → ss (up2 S 187 3 (nn t)) a b d i = S i := fun S a b d i p1 p2 p3 p4 => by rw [ss_o p2 p3 p4, u2n p1]
  by_cases q : (tab c C t t 0).2 < 1000000
  · have w1 : wyR c C 0 t = 1 := if_pos q
    rw [w1] at F1 L1
    refine ⟨nn ((tab c C t t 0).2 / 100), fun S F hF hS => ?_, fun M F hF hM => Or.inr ⟨hpos, ?_⟩⟩
    · obtain ⟨a, b, d, f1, f2⟩ := F1 S F hF hS
      rw [e]
      refine ⟨1, _, f1, fss S a b d, Or.inr ⟨rfl, ?_⟩⟩
      unfold ways_travelFrom
      refine st_b (x := 1) rfl (st_f (by decide) (st_t rfl ?_))
      rw [ss_a]
      exact congrArg some ((f2 0 (Nat.le_refl _) (by decide)).2 q).1
    · obtain ⟨e2, l1, l2⟩ := L1 M F hF hM
      rw [e]
      refine ⟨1, _, l1, fun i hi => sc_n hi, Or.inr ⟨rfl, ?_⟩⟩
      rw [sc_e, l2 0 (by decide)]
      simp (disch := first | omega | decide) only [lt1, nnMl, nnMr, nnAl, nnAr, nnA, nnM, nnB, nnT, nnP, nnE, nnEl, nnEr, nnL, nnLl, nnLr, nnQ, nnQr, nnN, Nat.add_zero, if_false, if_true, Option.bind_some, not_true, not_false_iff, not_true_eq_false, not_false_eq_true, eq_self, Nat.not_lt_zero, z10, z01, or_true, true_or, or_false, false_or, true_and, false_and, nnDr]
  · have w1 : wyR c C 0 t = 0 := if_neg q
    rw [w1] at F1 L1
    refine ⟨999, fun S F hF hS => ?_, fun M F hF hM => Or.inr ⟨hpos, ?_⟩⟩
    · obtain ⟨a, b, d, f1, f2⟩ := F1 S F hF hS
      rw [e]
      exact ⟨0, _, f1, fss S a b d, Or.inl ⟨rfl, rfl⟩⟩
    · obtain ⟨e2, l1, l2⟩ := L1 M F hF hM
      rw [e]
      exact ⟨0, _, l1, fun i hi => sc_n hi, Or.inl ⟨rfl, rfl⟩⟩
/-- the class's scratch when k holders are through -/
def rkI (c S : Sg) (D Q W L : Nat) (fv : Nat → Int32) (k : Nat) : Prop := (∀ i, 2 ≤ i → i ≤ 46 → S i = c i) ∧ (if S 200 7 = 0 then (0 : Int32) else 1) = c 41 W ∧ (∀ j, j < 8 → S 202 j = hrs c D Q W j ∧ S 203 j = ngt c D Q W j ∧ S 201 j = ow c Q D ((Q + 3) / 4) j) ∧ ∀ j, j < k → S 204 j = fv j ∧ S 205 j = (jg c (FVh c D Q W fv j) L 0 0 0).1 ∧ S 206 j = (jg c (FVh c D Q W fv j) L 0 0 0).2
def rkF (S S2 : Sg) : Prop := ∀ i, i ≠ 187 → i ≠ 188 → i ≠ 189 → i ≠ 190 → i ≠ 204 → i ≠ 205 → i ≠ 206 → S2 i = S i
theorem rk48 (hl : RLaw c a0 T L) {W : Nat} {fv : Nat → Int32} (hfv : ∀ h, h < 8 → farP c N C Q h (fv h)) {F0 : Nat} (hF0 : 20 < F0) : ∀ m k F S, k + m = 8 → m < F → rkI c S D Q W L fv k → ∃ S2, reckoning_reckon_48 F0 F (nn k) S = some S2 ∧ rkI c S2 D Q W L fv 8 ∧ rkF S S2 := by
  intro m
  induction m with
  | zero =>
    intro k F S hk hF hI
    obtain ⟨F, rfl⟩ : ∃ F2, F = F2 + 1 := ⟨F - 1, by omega⟩
    have : k = 8 := by omega
    subst this
    refine ⟨S, ?_, hI, fun _ _ _ _ _ _ _ _ => rfl⟩
    unfold reckoning_reckon_48
    exact if_pos (by decide)
  | succ m ih =>
    intro k F S hk hF hI
    obtain ⟨F, rfl⟩ : ∃ F2, F = F2 + 1 := ⟨F - 1, by omega⟩
    obtain ⟨i1, i2, i3, i4⟩ := hI
    have hk8 : k < 8 := by omega
    have h2 : ¬ 8 ≤ k := by omega
    have hi : inb (nn k) 8 = true := by simp (disch := first | omega | decide) only [lt1, nnMl, nnMr, nnAl, nnAr, nnA, nnM, nnB, nnT, nnP, nnE, nnEl, nnEr, nnL, nnLl, nnLr, nnQ, nnQr, nnN, Nat.add_zero, if_false, if_true, Option.bind_some, not_true, not_false_iff, not_true_eq_false, not_false_eq_true, eq_self, Nat.not_lt_zero, z10, z01, or_true, true_or, or_false, false_or, true_and, false_and, hk8]
    obtain ⟨r, S1, f1, f2, f3⟩ := (hfv k hk8).1 S F0 hF0 (fun i p1 p2 => i1 i p1 (by omega))
    -- the far is written, the holder is judged
    have hS : CSt c (up2 S1 204 k (fv k)) (FVh c D Q W fv k) k := by
      have hv := i3 k hk8
      refine ⟨fun i p1 p2 => by rw [u2n (by omega), f2 i (by omega) (by omega) (by omega) (by omega)]; exact i1 i (by omega) (by omega), ?_, ?_, ?_, ?_, rfl, ?_⟩
      · rw [u2n (by decide), f2 200 (by decide) (by decide) (by decide) (by decide)]; exact i2.symm
      · rw [u2n (by decide), f2 202 (by decide) (by decide) (by decide) (by decide)]; exact hv.1.symm
      · rw [u2n (by decide), f2 203 (by decide) (by decide) (by decide) (by decide)]; exact hv.2.1.symm
      · rw [u2e, up1_eq]; rfl
      · rw [u2n (by decide), f2 201 (by decide) (by decide) (by decide) (by decide), hv.2.2]; rfl
    obtain ⟨f5, e5, j1, j2, j3, j4⟩ := jud_x hS hk8 hl hF0
    have E : ∀ i, i ≠ 187 → i ≠ 188 → i ≠ 189 → i ≠ 190 → i ≠ 204 → i ≠ 205 → i ≠ 206 → sc (sc (up2 S1 204 k (fv k)) 205 f5) 206 e5 i = S i := fun i p1 p2 p3 p4 p5 p6 p7 => by
      rw [sc_n p7, sc_n p6, u2n p5, f2 i p1 p2 p3 p4]
    obtain ⟨S2, r1, r2, r3⟩ := ih (k + 1) F (sc (sc (up2 S1 204 k (fv k)) 205 f5) 206 e5) (by omega) (by omega) (by
      refine ⟨fun i p1 p2 => (E i (by omega) (by omega) (by omega) (by omega) (by omega) (by omega) (by omega)).trans (i1 i p1 p2), ?_, fun j hj => ?_, fun j hj => ?_⟩
      · rw [E 200 (by decide) (by decide) (by decide) (by decide) (by decide) (by decide) (by decide)]; exact i2
      · rw [E 202 (by decide) (by decide) (by decide) (by decide) (by decide) (by decide) (by decide), E 203 (by decide) (by decide) (by decide) (by decide) (by decide) (by decide) (by decide), E 201 (by decide) (by decide) (by decide) (by decide) (by decide) (by decide) (by decide)]; exact i3 j hj
      · rw [sc_n (show 204 ≠ 206 by decide), sc_n (show 204 ≠ 205 by decide), u2e, sc_n (show 205 ≠ 206 by decide), sc_e, sc_e]
        by_cases ej : j = k
        · subst ej
          rw [up1_eq]
          exact ⟨rfl, j2, j3⟩
        · have := i4 j (by omega)
          have h4 := j4 j ej
          rw [up1_ne ej, f2 204 (by decide) (by decide) (by decide) (by decide), h4.1, h4.2, u2n (by decide), u2n (by decide), f2 205 (by decide) (by decide) (by decide) (by decide), f2 206 (by decide) (by decide) (by decide) (by decide)]
          exact this)
    refine ⟨S2, ?_, r2, fun i p1 p2 p3 p4 p5 p6 p7 => (r3 i p1 p2 p3 p4 p5 p6 p7).trans (E i p1 p2 p3 p4 p5 p6 p7)⟩
    have k98 : reckoning_reckon_98 F0 (fun v4 g0 => reckoning_reckon_48 F0 F v4 g0) (nn k) (fv k) (nn k) S1 = some S2 := by
      unfold reckoning_reckon_98
      rw [nnT (by omega), show nn k + 1 = nn (k + 1) from nnA k 1]
      exact st_w hi (st_b j1 r1)
    unfold reckoning_reckon_48
    rw [nnT (by omega), i1 23 (by decide) (by decide)]
    refine st_f (by simp (disch := first | omega | decide) only [lt1, nnMl, nnMr, nnAl, nnAr, nnA, nnM, nnB, nnT, nnP, nnE, nnEl, nnEr, nnL, nnLl, nnLr, nnQ, nnQr, nnN, Nat.add_zero, if_false, if_true, Option.bind_some, not_true, not_false_iff, not_true_eq_false, not_false_eq_true, eq_self, Nat.not_lt_zero, z10, z01, or_true, true_or, or_false, false_or, true_and, false_and, h2]) (st_t hi (st_b f1 ?_))
    rcases f3 with ⟨e1, e2⟩ | ⟨e1, e2⟩
    · rw [e2] at k98
      exact st_t e1 k98
    · exact st_f (by rw [e1]; decide) (st_b e2 k98)
theorem reckon_y {s : Sg} (hl : RLaw c a0 T L) (r0 : RRig c a0 D N Q) (hQ : Q ≤ 9599) (hs : ∀ i, 2 ≤ i → i ≤ 46 → s i = c i) {W : Nat} (hW : W < 100) {fv : Nat → Int32} (hfv : ∀ h, h < 8 → farP c N C Q h (fv h)) {F : Nat} (hF : 200 < F) : ∃ S, reckoning_reckon F (nn W) s = some S ∧ rkI c S D Q W L fv 8 ∧ ∀ i, (i < 187 ∨ 190 < i) → (i < 200 ∨ 207 < i) → S i = s i := by
  obtain ⟨o, f, p1, p2⟩ := reckonOwed_y (g := fun _ => a0) r0 hQ (s := s) (fun i e1 e2 => hs i (by omega) (by omega)) hF
  have hs1 : ∀ i, 2 ≤ i → i ≤ 46 → sc (sc s 207 f) 201 o i = c i := fun i e1 e2 => by rw [sc_n (by omega), sc_n (by omega)]; exact hs i e1 e2
  obtain ⟨f2, a, b, p3, p4⟩ := reckonHours_y (g := fun _ => a0) r0 hQ (s := sc (sc s 207 f) 201 o) (fun i e1 e2 => hs1 i (by omega) (by omega)) hW hF
  have hdr := hl.dryV W hW
  have fin : ∀ v : Int32, (if v = 0 then (0 : Int32) else 1) = c 41 W → ∃ S, reckoning_reckon_48 F F 0 (up2 (sc (sc (sc (sc (sc s 207 f) 201 o) 207 f2) 202 a) 203 b) 200 7 v) = some S ∧ rkI c S D Q W L fv 8 ∧ ∀ i, (i < 187 ∨ 190 < i) → (i < 200 ∨ 207 < i) → S i = s i := fun v hv => by
    obtain ⟨S, q1, q2, q3⟩ := rk48 hl (W := W) (D := D) hfv (F0 := F) (by omega) 8 0 F (up2 (sc (sc (sc (sc (sc s 207 f) 201 o) 207 f2) 202 a) 203 b) 200 7 v) (by omega) (by omega) (by
      refine ⟨fun i e1 e2 => ?_, ?_, fun j hj => ?_, fun j hj => absurd hj (by omega)⟩
      · rw [u2n (by omega), sc_n (by omega), sc_n (by omega), sc_n (by omega)]
        exact hs1 i e1 e2
      · rw [u2e, up1_eq]
        exact hv
      · rw [u2n (by decide), u2n (by decide), u2n (by decide), sc_n (show 202 ≠ 203 by decide), sc_e, sc_e, sc_n (show 201 ≠ 203 by decide), sc_n (show 201 ≠ 202 by decide), sc_n (show 201 ≠ 207 by decide), sc_e]
        exact ⟨(p4 j hj).1, (p4 j hj).2, p1 j hj⟩)
    refine ⟨S, q1, q2, fun i e1 e2 => ?_⟩
    rw [q3 i (by omega) (by omega) (by omega) (by omega) (by omega) (by omega) (by omega), u2n (by omega), sc_n (by omega), sc_n (by omega), sc_n (by omega), sc_n (by omega), sc_n (by omega)]
  have hw : x_isWeek (nn W) (sc (sc (sc (sc (sc s 207 f) 201 o) 207 f2) 202 a) 203 b) = some 1 := week_of (Or.inr rfl) (fun g => wthK_y (K := 99) rfl (by decide) (by omega))
  have e41 : sc (sc (sc (sc (sc s 207 f) 201 o) 207 f2) 202 a) 203 b 41 W = c 41 W := by
    rw [sc_n (by decide), sc_n (by decide), sc_n (by decide)]
    rw [hs1 41 (by decide) (by decide)]
  rcases hdr with e | e
  · obtain ⟨S, q1, q2⟩ := fin 0 (by rw [e]; rfl)
    refine ⟨S, ?_, q2⟩
    unfold reckoning_reckon
    refine st_b p2 (st_b p3 (st_b hw (st_f (by decide) (st_t (by simp (disch := first | omega | decide) only [lt1, nnMl, nnMr, nnAl, nnAr, nnA, nnM, nnB, nnT, nnP, nnE, nnEl, nnEr, nnL, nnLl, nnLr, nnQ, nnQr, nnN, Nat.add_zero, if_false, if_true, Option.bind_some, not_true, not_false_iff, not_true_eq_false, not_false_eq_true, eq_self, Nat.not_lt_zero, z10, z01, or_true, true_or, or_false, false_or, true_and, false_and, hW]) ?_))))
    rw [nnT (by omega), e41]
    exact st_t e (st_l q1)
  · obtain ⟨S, q1, q2⟩ := fin 1 (by rw [e]; rfl)
    refine ⟨S, ?_, q2⟩
    unfold reckoning_reckon
    refine st_b p2 (st_b p3 (st_b hw (st_f (by decide) (st_t (by simp (disch := first | omega | decide) only [lt1, nnMl, nnMr, nnAl, nnAr, nnA, nnM, nnB, nnT, nnP, nnE, nnEl, nnEr, nnL, nnLl, nnLr, nnQ, nnQr, nnN, Nat.add_zero, if_false, if_true, Option.bind_some, not_true, not_false_iff, not_true_eq_false, not_false_eq_true, eq_self, Nat.not_lt_zero, z10, z01, or_true, true_or, or_false, false_or, true_and, false_and, hW]) ?_))))
    rw [nnT (by omega), e41]
    exact st_f (by rw [e]; decide) (st_l q1)
end WN
end
section
/-! what is reckoned of a holder in a week: the model's side; holder -/
theorem FV6 {dr H Nn Fa who o : Int32} : ¬ FVf dr H Nn Fa who o 6 < 0 := by
  show ¬ (if 0 < o then o else 0) < 0
  by_cases e : 0 < o
  · rw [if_pos e]
    exact fun q => Int32.lt_irrefl (Int32.lt_trans e q)
  · rw [if_neg e]
    decide
section WP
variable {c : Sg} {A : Nat → Int32} {N C Q D T L : Nat}
def PMx (X : Sg) (A : Nat → Int32) (FV : Nat → Int32) : Prop := X 216 = A ∧ X 215 14 = FV 2 ∧ X 215 15 = FV 3 ∧ X 215 16 = FV 4 ∧ (X 215 17 = -1 ∨ X 215 17 = FV 6)
def XF (X X2 : Sg) : Prop := (∀ i, i ≠ 215 → X2 i = X i) ∧ ∀ j, j ≠ 17 → X2 215 j = X 215 j
theorem XF.r {X : Sg} : XF X X := ⟨fun _ _ => rfl, fun _ _ => rfl⟩
theorem XF.t {X Y Z : Sg} (h : XF X Y) (h2 : XF Y Z) : XF X Z := ⟨fun i e => (h2.1 i e).trans (h.1 i e), fun j e => (h2.2 j e).trans (h.2 j e)⟩
theorem asked_m (r : RRig c A D N Q) (hl : RLaw c A T L) (hQ : Q ≤ 9599) (hA3 : A 3 = nn Q) {h W w : Nat} (hh : h < 8) (hW : W < 100) (h1 : 1 ≤ w) (h6 : w ≤ 6) {fv : Nat → Int32} {X : Sg} (hX : PMx X A (FVh c D Q W fv h)) {F : Nat} (hF : 2400 < F) : ∃ X2, m_asked F (nn w) (nn h) (nn W) X = some (FVh c D Q W fv h w, X2) ∧ PMx X2 A (FVh c D Q W fv h) ∧ XF X X2 := by
  obtain ⟨x0, x1, x2, x3, x4⟩ := hX
  have i1 : 40 + W < 20360 := by omega
  have e1 : (40 + nn W : Int32) = nn (40 + W) := by simp (disch := first | omega | decide) only [lt1, nnMl, nnMr, nnAl, nnAr, nnA, nnM, nnB, nnT, nnP, nnE, nnEl, nnEr, nnL, nnLl, nnLr, nnQ, nnQr, nnN, Nat.add_zero, if_false, if_true, Option.bind_some, not_true, not_false_iff, not_true_eq_false, not_false_eq_true, eq_self, Nat.not_lt_zero, z10, z01, or_true, true_or, or_false, false_or, true_and, false_and]
  have c6 : w = 1 ∨ w = 2 ∨ w = 3 ∨ w = 4 ∨ w = 5 ∨ w = 6 := by omega
  unfold m_asked
  rcases c6 with rfl | rfl | rfl | rfl | rfl | rfl
  · refine ⟨X, st_t rfl ?_, ⟨x0, x1, x2, x3, x4⟩, XF.r⟩
    rw [e1, nnT (by omega), x0, hl.dry W hW]
    exact st_t (by simp (disch := first | omega | decide) only [lt1, nnMl, nnMr, nnAl, nnAr, nnA, nnM, nnB, nnT, nnP, nnE, nnEl, nnEr, nnL, nnLl, nnLr, nnQ, nnQr, nnN, Nat.add_zero, if_false, if_true, Option.bind_some, not_true, not_false_iff, not_true_eq_false, not_false_eq_true, eq_self, Nat.not_lt_zero, z10, z01, or_true, true_or, or_false, false_or, true_and, false_and, i1]) rfl
  · exact ⟨X, st_f (by decide) (st_t rfl (by rw [x1])), ⟨x0, x1, x2, x3, x4⟩, XF.r⟩
  · exact ⟨X, st_f (by decide) (st_f (by decide) (st_t rfl (by rw [x2]))), ⟨x0, x1, x2, x3, x4⟩, XF.r⟩
  · exact ⟨X, st_f (by decide) (st_f (by decide) (st_f (by decide) (st_t rfl (by rw [x3])))), ⟨x0, x1, x2, x3, x4⟩, XF.r⟩
  · exact ⟨X, st_f (by decide) (st_f (by decide) (st_f (by decide) (st_f (by decide) (st_t rfl rfl)))), ⟨x0, x1, x2, x3, x4⟩, XF.r⟩
  · have pm : PMx (up2 X 215 17 (FVh c D Q W fv h 6)) A (FVh c D Q W fv h) := ⟨by rw [u2n (by decide)]; exact x0, by rw [u2e, up1_ne (by decide)]; exact x1, by rw [u2e, up1_ne (by decide)]; exact x2, by rw [u2e, up1_ne (by decide)]; exact x3, Or.inr (by rw [u2e, up1_eq])⟩
    have xf : XF X (up2 X 215 17 (FVh c D Q W fv h 6)) := ⟨fun i e => u2n e, fun j e => by rw [u2e, up1_ne e]⟩
    have go : ∀ X2, m_owes F (nn h) X = some (FVh c D Q W fv h 6, X2) → (if nn 6 = 1 then (if inb (40 + nn W) 20360 = true then (some ((X 216 (Int32.toNatClampNeg (40 + nn W))), X)) else none) else (if nn 6 = 2 then (some ((X 215 14), X)) else (if nn 6 = 3 then (some ((X 215 15), X)) else (if nn 6 = 4 then (some ((X 215 16), X)) else (if nn 6 = 5 then (some (nn h, X)) else Option.bind (m_owes F (nn h) X) (fun (x6, g7) => (some (x6, g7)))))))) = some (FVh c D Q W fv h 6, X2) := fun X2 hx => st_f (by decide) (st_f (by decide) (st_f (by decide) (st_f (by decide) (st_f (by decide) (st_b hx rfl)))))
    rcases x4 with e | e
    · have ho : m_owedTo F (nn h) X = some (ow c Q D ((Q + 3) / 4) h) := owed_m (g := X) (c := c) (by rw [x0]; exact r) hQ (by rw [x0]; exact hA3) hh hF
      refine ⟨up2 X 215 17 (FVh c D Q W fv h 6), go _ ?_, pm, xf⟩
      unfold m_owes
      refine st_t (by rw [e]; decide) (st_b ho ?_)
      by_cases q : ow c Q D ((Q + 3) / 4) h ≤ 0
      · have e6 : FVh c D Q W fv h 6 = 0 := if_neg (Int32.not_lt.mpr q)
        rw [e6]
        exact st_t q (st_l (by rw [u2e, up1_eq]))
      · have e6 : FVh c D Q W fv h 6 = ow c Q D ((Q + 3) / 4) h := if_pos (Int32.not_le.mp q)
        rw [e6]
        exact st_f q (st_l (by rw [u2e, up1_eq]))
    · refine ⟨X, go _ ?_, ⟨x0, x1, x2, x3, Or.inr e⟩, XF.r⟩
      unfold m_owes
      refine st_f (by rw [e]; exact FV6) ?_
      rw [e]
theorem m130 {K : Int32 → Int32 → Int32 → Int32 → Int32 → Sg → Option (Int32 × Sg)} {v1 v2 v3 b : Int32} {X : Sg} {t i : Nat} {P : Prop} {nt : Int32} (hi : i < 20360) (hx : X 216 i = nt) (hn : nt = 0 ∨ nt = 1) (hb : b = b01 P) : m_holds_130 K v1 v2 v3 (nn t) (nn i) b X = K v1 v2 v3 (b01 (P ↔ ¬ nt = 1)) (nn (t + 1)) X := by
  unfold m_holds_130 m_holds_150
  rw [nnT (by omega), hx, hb, show nn t + 1 = nn (t + 1) from nnA t 1]
  refine st_t (by simp (disch := first | omega | decide) only [lt1, nnMl, nnMr, nnAl, nnAr, nnA, nnM, nnB, nnT, nnP, nnE, nnEl, nnEr, nnL, nnLl, nnLr, nnQ, nnQr, nnN, Nat.add_zero, if_false, if_true, Option.bind_some, not_true, not_false_iff, not_true_eq_false, not_false_eq_true, eq_self, Nat.not_lt_zero, z10, z01, or_true, true_or, or_false, false_or, true_and, false_and, hi]) ?_
  rcases hn with e | e
  · refine st_t (by rw [e]; decide) ?_
    by_cases hP : P
    · rw [b01_y hP, b01_y ⟨fun _ => by rw [e]; decide, fun _ => hP⟩]
      exact st_f (by decide) rfl
    · rw [b01_n hP, b01_n (fun q => hP (q.mpr (by rw [e]; decide)))]
      exact st_t rfl rfl
  · refine st_f (fun q => q e) ?_
    by_cases hP : P
    · rw [b01_y hP, b01_n (fun q => q.mp hP e)]
      exact st_t rfl rfl
    · rw [b01_n hP, b01_y ⟨fun q => absurd q hP, fun q => absurd e q⟩]
      exact st_f (by decide) rfl
theorem mhL (r : RRig c A D N Q) (hl : RLaw c A T L) (hQ : Q ≤ 9599) (hA3 : A 3 = nn Q) {h W k n : Nat} (hh : h < 8) (hW : W < 100) (hk : k < 16) (hn : n ≤ 4) (hrow : A (4270 + 20 * k) = nn n) {fv : Nat → Int32} (hts : ∀ t, t < n → tTest (c 37 (4 * k + t)) (c 38 (4 * k + t)) (c 39 (4 * k + t)) (c 40 (4 * k + t)) A (4270 + 20 * k + 1 + 4 * t)) {F0 : Nat} (hF0 : 2400 < F0) : ∀ m t F X, t + m = n → m < F → PMx X A (FVh c D Q W fv h) → ∃ X2, m_holds_6 F0 F (nn (4270 + 20 * k)) (nn h) (nn W) (b01 (∀ t2, t2 < t → okTt c (FVh c D Q W fv h) (4 * k + t2))) (nn t) X = some (b01 (∀ t2, t2 < n → okTt c (FVh c D Q W fv h) (4 * k + t2)), X2) ∧ PMx X2 A (FVh c D Q W fv h) ∧ XF X X2 := by
  have ir : 4270 + 20 * k < 20360 := by omega
  intro m
  induction m with
  | zero =>
    intro t F X hm hF hX
    obtain ⟨F, rfl⟩ : ∃ F2, F = F2 + 1 := ⟨F - 1, by omega⟩
    have : t = n := by omega
    subst this
    refine ⟨X, ?_, hX, XF.r⟩
    unfold m_holds_6
    rw [nnT (by omega), hX.1, hrow]
    exact st_t (by simp (disch := first | omega | decide) only [lt1, nnMl, nnMr, nnAl, nnAr, nnA, nnM, nnB, nnT, nnP, nnE, nnEl, nnEr, nnL, nnLl, nnLr, nnQ, nnQr, nnN, Nat.add_zero, if_false, if_true, Option.bind_some, not_true, not_false_iff, not_true_eq_false, not_false_eq_true, eq_self, Nat.not_lt_zero, z10, z01, or_true, true_or, or_false, false_or, true_and, false_and, ir]) (st_t (Int32.le_refl _) (st_t (b01v _) rfl))
  | succ m ih =>
    intro t F X hm hF hX
    obtain ⟨F, rfl⟩ : ∃ F2, F = F2 + 1 := ⟨F - 1, by omega⟩
    have h3 : ¬ n ≤ t := by omega
    by_cases q : ∀ t2, t2 < t → okTt c (FVh c D Q W fv h) (4 * k + t2)
    rotate_left
    · refine ⟨X, ?_, hX, XF.r⟩
      rw [b01_n q, b01_n (fun p => q (fun t2 p2 => p t2 (by omega)))]
      unfold m_holds_6
      rw [nnT (by omega), hX.1, hrow]
      exact st_t (by simp (disch := first | omega | decide) only [lt1, nnMl, nnMr, nnAl, nnAr, nnA, nnM, nnB, nnT, nnP, nnE, nnEl, nnEr, nnL, nnLl, nnLr, nnQ, nnQr, nnN, Nat.add_zero, if_false, if_true, Option.bind_some, not_true, not_false_iff, not_true_eq_false, not_false_eq_true, eq_self, Nat.not_lt_zero, z10, z01, or_true, true_or, or_false, false_or, true_and, false_and, ir]) (st_f (by simp (disch := first | omega | decide) only [lt1, nnMl, nnMr, nnAl, nnAr, nnA, nnM, nnB, nnT, nnP, nnE, nnEl, nnEr, nnL, nnLl, nnLr, nnQ, nnQr, nnN, Nat.add_zero, if_false, if_true, Option.bind_some, not_true, not_false_iff, not_true_eq_false, not_false_eq_true, eq_self, Nat.not_lt_zero, z10, z01, or_true, true_or, or_false, false_or, true_and, false_and, h3]) (st_t rfl (st_t (Or.inl rfl) rfl)))
    obtain ⟨g1, g2, ⟨w, w1, w6, hf, g3⟩, g4, g5⟩ := hts t (by omega)
    obtain ⟨X1, a1, a2, a3⟩ := asked_m r hl hQ hA3 hh hW w1 w6 hX hF0
    have ew : cn c 38 (4 * k + t) - 6 = w := by
      unfold cn
      rw [hf, nnT (by omega)]
      omega
    have ok : okTt c (FVh c D Q W fv h) (4 * k + t) = (isT (FVh c D Q W fv h w) (c 39 (4 * k + t)) (c 40 (4 * k + t)) ↔ ¬ c 37 (4 * k + t) = 1) := by
      unfold okTt
      rw [ew]
    have eb : b01 (∀ t2, t2 < t + 1 → okTt c (FVh c D Q W fv h) (4 * k + t2)) = b01 (isT (FVh c D Q W fv h w) (c 39 (4 * k + t)) (c 40 (4 * k + t)) ↔ ¬ c 37 (4 * k + t) = 1) := by
      rw [← ok]
      by_cases p : okTt c (FVh c D Q W fv h) (4 * k + t)
      · rw [b01_y p, b01_y (fun t2 p2 => by
          by_cases e : t2 = t
          · rw [e]; exact p
          · exact q t2 (by omega))]
      · rw [b01_n p, b01_n (fun p2 => p (p2 t (Nat.lt_succ_self _)))]
    obtain ⟨X2, r1, r2, r3⟩ := ih (t + 1) F X1 (by omega) (by omega) a2
    rw [eb] at r1
    refine ⟨X2, ?_, r2, a3.t r3⟩
    have j0 : 4270 + 20 * k + 1 + 4 * t < 20360 := by omega
    have j1 : 4270 + 20 * k + 1 + 4 * t + 1 < 20360 := by omega
    have j2 : 4270 + 20 * k + 1 + 4 * t + 2 < 20360 := by omega
    have j3 : 4270 + 20 * k + 1 + 4 * t + 3 < 20360 := by omega
    have y0 : nn (4270 + 20 * k) + 1 + 4 * nn t = nn (4270 + 20 * k + 1 + 4 * t) := by simp (disch := first | omega | decide) only [lt1, nnMl, nnMr, nnAl, nnAr, nnA, nnM, nnB, nnT, nnP, nnE, nnEl, nnEr, nnL, nnLl, nnLr, nnQ, nnQr, nnN, Nat.add_zero, if_false, if_true, Option.bind_some, not_true, not_false_iff, not_true_eq_false, not_false_eq_true, eq_self, Nat.not_lt_zero, z10, z01, or_true, true_or, or_false, false_or, true_and, false_and]
    have y1 : nn (4270 + 20 * k + 1 + 4 * t) + 1 = nn (4270 + 20 * k + 1 + 4 * t + 1) := nnA _ 1
    have y2 : nn (4270 + 20 * k + 1 + 4 * t) + 2 = nn (4270 + 20 * k + 1 + 4 * t + 2) := nnA _ 2
    have y3 : nn (4270 + 20 * k + 1 + 4 * t) + 3 = nn (4270 + 20 * k + 1 + 4 * t + 3) := nnA _ 3
    have m13 : ∀ (b : Int32), b = b01 (isT (FVh c D Q W fv h w) (c 39 (4 * k + t)) (c 40 (4 * k + t))) → m_holds_130 (fun v1 v2 v3 v4 v5 g0 => m_holds_6 F0 F v1 v2 v3 v4 v5 g0) (nn (4270 + 20 * k)) (nn h) (nn W) (nn t) (nn (4270 + 20 * k + 1 + 4 * t)) b X1 = some (b01 (∀ t2, t2 < n → okTt c (FVh c D Q W fv h) (4 * k + t2)), X2) := fun b hb => (m130 j0 (by rw [a2.1]; exact g2) g1 hb).trans r1
    rw [b01_y q]
    unfold m_holds_6
    rw [nnT (show 4270 + 20 * k < 2147483648 by omega), hX.1, hrow, y0]
    refine st_t (by simp (disch := first | omega | decide) only [lt1, nnMl, nnMr, nnAl, nnAr, nnA, nnM, nnB, nnT, nnP, nnE, nnEl, nnEr, nnL, nnLl, nnLr, nnQ, nnQr, nnN, Nat.add_zero, if_false, if_true, Option.bind_some, not_true, not_false_iff, not_true_eq_false, not_false_eq_true, eq_self, Nat.not_lt_zero, z10, z01, or_true, true_or, or_false, false_or, true_and, false_and, ir]) (st_f (by simp (disch := first | omega | decide) only [lt1, nnMl, nnMr, nnAl, nnAr, nnA, nnM, nnB, nnT, nnP, nnE, nnEl, nnEr, nnL, nnLl, nnLr, nnQ, nnQr, nnN, Nat.add_zero, if_false, if_true, Option.bind_some, not_true, not_false_iff, not_true_eq_false, not_false_eq_true, eq_self, Nat.not_lt_zero, z10, z01, or_true, true_or, or_false, false_or, true_and, false_and, h3]) (st_f (by decide) (st_l ?_)))
    rw [y1, y2, y3, nnT (show 4270 + 20 * k + 1 + 4 * t + 1 < 2147483648 by omega), nnT (show 4270 + 20 * k + 1 + 4 * t + 2 < 2147483648 by omega), nnT (show 4270 + 20 * k + 1 + 4 * t + 3 < 2147483648 by omega), g3]
    refine st_t (by simp (disch := first | omega | decide) only [lt1, nnMl, nnMr, nnAl, nnAr, nnA, nnM, nnB, nnT, nnP, nnE, nnEl, nnEr, nnL, nnLl, nnLr, nnQ, nnQr, nnN, Nat.add_zero, if_false, if_true, Option.bind_some, not_true, not_false_iff, not_true_eq_false, not_false_eq_true, eq_self, Nat.not_lt_zero, z10, z01, or_true, true_or, or_false, false_or, true_and, false_and, j1]) (st_b a1 ?_)
    show (if inb (nn (4270 + 20 * k + 1 + 4 * t + 3)) 20360 = true then lt1 (X1 216 (4270 + 20 * k + 1 + 4 * t + 3)) _ else none) = _
    rw [a2.1, g5]
    refine st_w (by simp (disch := first | omega | decide) only [lt1, nnMl, nnMr, nnAl, nnAr, nnA, nnM, nnB, nnT, nnP, nnE, nnEl, nnEr, nnL, nnLl, nnLr, nnQ, nnQr, nnN, Nat.add_zero, if_false, if_true, Option.bind_some, not_true, not_false_iff, not_true_eq_false, not_false_eq_true, eq_self, Nat.not_lt_zero, z10, z01, or_true, true_or, or_false, false_or, true_and, false_and, j3]) (st_t (by simp (disch := first | omega | decide) only [lt1, nnMl, nnMr, nnAl, nnAr, nnA, nnM, nnB, nnT, nnP, nnE, nnEl, nnEr, nnL, nnLl, nnLr, nnQ, nnQr, nnN, Nat.add_zero, if_false, if_true, Option.bind_some, not_true, not_false_iff, not_true_eq_false, not_false_eq_true, eq_self, Nat.not_lt_zero, z10, z01, or_true, true_or, or_false, false_or, true_and, false_and, j2]) ?_)
    unfold tSign at g4
    rcases g4 with ⟨e, e2⟩ | ⟨e, e2⟩ | ⟨e, e2⟩
    · rw [e2]
      refine st_f (by decide) ?_
      rw [e] at m13
      by_cases p : c 40 (4 * k + t) ≤ FVh c D Q W fv h w
      · exact st_t p (m13 0 (b01_n (fun z => absurd (isT_15.mp z) (Int32.not_lt.mpr p))).symm)
      · exact st_f p (m13 1 (b01_y (isT_15.mpr (Int32.not_le.mp p))).symm)
    · rw [e2]
      refine st_t (by decide) (st_t (by simp (disch := first | omega | decide) only [lt1, nnMl, nnMr, nnAl, nnAr, nnA, nnM, nnB, nnT, nnP, nnE, nnEl, nnEr, nnL, nnLl, nnLr, nnQ, nnQr, nnN, Nat.add_zero, if_false, if_true, Option.bind_some, not_true, not_false_iff, not_true_eq_false, not_false_eq_true, eq_self, Nat.not_lt_zero, z10, z01, or_true, true_or, or_false, false_or, true_and, false_and, j2]) (st_f (by decide) ?_))
      rw [e] at m13
      by_cases p : FVh c D Q W fv h w ≤ c 40 (4 * k + t)
      · exact st_t p (m13 0 (b01_n (fun z => absurd (isT_16.mp z) (Int32.not_lt.mpr p))).symm)
      · exact st_f p (m13 1 (b01_y (isT_16.mpr (Int32.not_le.mp p))).symm)
    · rw [e2]
      refine st_t (by decide) (st_t (by simp (disch := first | omega | decide) only [lt1, nnMl, nnMr, nnAl, nnAr, nnA, nnM, nnB, nnT, nnP, nnE, nnEl, nnEr, nnL, nnLl, nnLr, nnQ, nnQr, nnN, Nat.add_zero, if_false, if_true, Option.bind_some, not_true, not_false_iff, not_true_eq_false, not_false_eq_true, eq_self, Nat.not_lt_zero, z10, z01, or_true, true_or, or_false, false_or, true_and, false_and, j2]) (st_t (by decide) ?_))
      rw [e] at m13
      by_cases p : FVh c D Q W fv h w = c 40 (4 * k + t)
      · exact st_f (fun z => z p) (m13 1 (b01_y (isT_17.mpr p)).symm)
      · exact st_t p (m13 0 (b01_n (fun z => p (isT_17.mp z))).symm)
theorem holds_m (r : RRig c A D N Q) (hl : RLaw c A T L) (hQ : Q ≤ 9599) (hA3 : A 3 = nn Q) {h W k : Nat} (hh : h < 8) (hW : W < 100) (hk : k < L) {fv : Nat → Int32} {X : Sg} (hX : PMx X A (FVh c D Q W fv h)) {F : Nat} (hF : 2400 < F) : ∃ X2, m_holds F (nn (4270 + 20 * k)) (nn h) (nn W) X = some (b01 (lineOk c (FVh c D Q W fv h) k), X2) ∧ PMx X2 A (FVh c D Q W fv h) ∧ XF X X2 := by
  have hL := hl.hL
  obtain ⟨⟨n, n4, h36, hrow, hts⟩, _⟩ := hl.ln k hk
  obtain ⟨X2, r1, r2, r3⟩ := mhL r hl hQ hA3 hh hW (show k < 16 by omega) n4 hrow hts hF n 0 F X (by omega) (by omega) hX
  refine ⟨X2, ?_, r2, r3⟩
  have e0 : b01 (∀ t2, t2 < 0 → okTt c (FVh c D Q W fv h) (4 * k + t2)) = 1 := b01_y (fun t2 p => absurd p (by omega))
  have ec : cn c 36 k = n := by unfold cn; rw [h36, nnT (by omega)]
  have e1 : lineOk c (FVh c D Q W fv h) k = ∀ t2, t2 < n → okTt c (FVh c D Q W fv h) (4 * k + t2) := by
    unfold lineOk
    rw [ec]
  rw [e0] at r1
  rw [e1]
  exact r1
theorem wghL (r : RRig c A D N Q) (hl : RLaw c A T L) (hQ : Q ≤ 9599) (hA3 : A 3 = nn Q) {h W : Nat} (hh : h < 8) (hW : W < 100) {fv : Nat → Int32} {F0 : Nat} (hF0 : 2400 < F0) : ∀ m k F X, k + m = L → m < F → PMx X A (FVh c D Q W fv h) → ∃ X2, m_weighs_18 F0 F (nn h) (nn W) (nn k) X = some X2 ∧ PMx X2 A (FVh c D Q W fv h) ∧ X2 215 18 = (jg c (FVh c D Q W fv h) m k (X 215 18) (X 215 19)).1 ∧ X2 215 19 = (jg c (FVh c D Q W fv h) m k (X 215 18) (X 215 19)).2 ∧ ∀ i, i ≠ 215 → X2 i = X i := by
  have hL := hl.hL
  intro m
  induction m with
  | zero =>
    intro k F X hk hF hX
    obtain ⟨F, rfl⟩ : ∃ F2, F = F2 + 1 := ⟨F - 1, by omega⟩
    have : k = L := by omega
    subst this
    refine ⟨X, ?_, hX, rfl, rfl, fun _ _ => rfl⟩
    unfold m_weighs_18
    rw [hX.1, hl.aL]
    exact if_pos (Int32.le_refl _)
  | succ m ih =>
    intro k F X hk hF hX
    obtain ⟨F, rfl⟩ : ∃ F2, F = F2 + 1 := ⟨F - 1, by omega⟩
    have h3 : ¬ L ≤ k := by omega
    have hkL : k < L := by omega
    have i17 : 4270 + 20 * k + 17 < 20360 := by omega
    have i18 : 4270 + 20 * k + 18 < 20360 := by omega
    have y0 : (4270 + 20 * nn k : Int32) = nn (4270 + 20 * k) := by simp (disch := first | omega | decide) only [lt1, nnMl, nnMr, nnAl, nnAr, nnA, nnM, nnB, nnT, nnP, nnE, nnEl, nnEr, nnL, nnLl, nnLr, nnQ, nnQr, nnN, Nat.add_zero, if_false, if_true, Option.bind_some, not_true, not_false_iff, not_true_eq_false, not_false_eq_true, eq_self, Nat.not_lt_zero, z10, z01, or_true, true_or, or_false, false_or, true_and, false_and]
    have y17 : nn (4270 + 20 * k) + 17 = nn (4270 + 20 * k + 17) := nnA _ 17
    have y18 : nn (4270 + 20 * k) + 18 = nn (4270 + 20 * k + 18) := nnA _ 18
    obtain ⟨_, hact, h35, _⟩ := hl.ln k hkL
    obtain ⟨X1, a1, a2, a3⟩ := holds_m r hl hQ hA3 hh hW hkL hX hF0
    have hl1 : inb (nn (4270 + 20 * k + 17)) 20360 = true := by simp (disch := first | omega | decide) only [lt1, nnMl, nnMr, nnAl, nnAr, nnA, nnM, nnB, nnT, nnP, nnE, nnEl, nnEr, nnL, nnLl, nnLr, nnQ, nnQr, nnN, Nat.add_zero, if_false, if_true, Option.bind_some, not_true, not_false_iff, not_true_eq_false, not_false_eq_true, eq_self, Nat.not_lt_zero, z10, z01, or_true, true_or, or_false, false_or, true_and, false_and, i17]
    have hl2 : inb (nn (4270 + 20 * k + 18)) 20360 = true := by simp (disch := first | omega | decide) only [lt1, nnMl, nnMr, nnAl, nnAr, nnA, nnM, nnB, nnT, nnP, nnE, nnEl, nnEr, nnL, nnLl, nnLr, nnQ, nnQr, nnN, Nat.add_zero, if_false, if_true, Option.bind_some, not_true, not_false_iff, not_true_eq_false, not_false_eq_true, eq_self, Nat.not_lt_zero, z10, z01, or_true, true_or, or_false, false_or, true_and, false_and, i18]
    have pmw : ∀ (j : Nat) (v : Int32) (Y : Sg), (j = 18 ∨ j = 19) → PMx Y A (FVh c D Q W fv h) → PMx (up2 Y 215 j v) A (FVh c D Q W fv h) := fun j v Y hj ⟨x0, x1, x2, x3, x4⟩ => ⟨by rw [u2n (by decide)]; exact x0, by rw [u2e, up1_ne (by omega)]; exact x1, by rw [u2e, up1_ne (by omega)]; exact x2, by rw [u2e, up1_ne (by omega)]; exact x3, by rw [u2e, up1_ne (by omega)]; exact x4⟩
    have e18 : X1 215 18 = X 215 18 := a3.2 18 (by decide)
    have e19 : X1 215 19 = X 215 19 := a3.2 19 (by decide)
    by_cases q : lineOk c (FVh c D Q W fv h) k
    rotate_left
    · obtain ⟨X2, r1, r2, r3, r4, r5⟩ := ih (k + 1) F X1 (by omega) (by omega) a2
      rw [e18, e19] at r3 r4
      refine ⟨X2, ?_, r2, ?_, ?_, fun i e => (r5 i e).trans (a3.1 i e)⟩
      · unfold m_weighs_18
        rw [hX.1, hl.aL, y0, show nn k + 1 = nn (k + 1) from nnA k 1]
        exact st_f (by simp (disch := first | omega | decide) only [lt1, nnMl, nnMr, nnAl, nnAr, nnA, nnM, nnB, nnT, nnP, nnE, nnEl, nnEr, nnL, nnLl, nnLr, nnQ, nnQr, nnN, Nat.add_zero, if_false, if_true, Option.bind_some, not_true, not_false_iff, not_true_eq_false, not_false_eq_true, eq_self, Nat.not_lt_zero, z10, z01, or_true, true_or, or_false, false_or, true_and, false_and, h3]) (st_l (st_b a1 (st_f (by rw [b01_n q]; exact fun p => p rfl) r1)))
      · rw [jg_n q]; exact r3
      · rw [jg_n q]; exact r4
    have pre : ∀ rr, (if ¬ A (4270 + 20 * k + 17) = 20 then (m_weighs_86 (fun v1 v2 v3 g0 => m_weighs_18 F0 F v1 v2 v3 g0) (nn h) (nn W) (nn k) (nn (4270 + 20 * k)) X1) else (m_weighs_86 (fun v1 v2 v3 g0 => m_weighs_18 F0 F v1 v2 v3 g0) (nn h) (nn W) (nn k) (nn (4270 + 20 * k)) (up2 X1 215 18 (X1 215 18 + A (4270 + 20 * k + 18))))) = rr → m_weighs_18 F0 (F + 1) (nn h) (nn W) (nn k) X = rr := fun rr hr => by
      unfold m_weighs_18
      rw [hX.1, hl.aL, y0]
      refine st_f (by simp (disch := first | omega | decide) only [lt1, nnMl, nnMr, nnAl, nnAr, nnA, nnM, nnB, nnT, nnP, nnE, nnEl, nnEr, nnL, nnLl, nnLr, nnQ, nnQr, nnN, Nat.add_zero, if_false, if_true, Option.bind_some, not_true, not_false_iff, not_true_eq_false, not_false_eq_true, eq_self, Nat.not_lt_zero, z10, z01, or_true, true_or, or_false, false_or, true_and, false_and, h3]) (st_l (st_b a1 (st_t (by rw [b01_y q]; decide) ?_)))
      rw [y17, y18, nnT (show 4270 + 20 * k + 17 < 2147483648 by omega), nnT (show 4270 + 20 * k + 18 < 2147483648 by omega), a2.1, ← hr]
      by_cases p : A (4270 + 20 * k + 17) = 20
      · refine Eq.trans ?_ (if_neg (fun z => z p)).symm
        exact st_t hl1 (st_f (fun z => z p) (st_w hl2 rfl))
      · refine Eq.trans ?_ (if_pos p).symm
        exact st_t hl1 (st_t p rfl)
    have m86 : ∀ (Y : Sg) (rr : Option Sg), Y 216 = A → ((¬ A (4270 + 20 * k + 17) = 21 ∧ ¬ A (4270 + 20 * k + 17) = 22 ∧ m_weighs_18 F0 F (nn h) (nn W) (nn (k + 1)) Y = rr) ∨ (A (4270 + 20 * k + 17) = 21 ∧ m_weighs_18 F0 F (nn h) (nn W) (nn (k + 1)) (up2 Y 215 19 (A (4270 + 20 * k + 18))) = rr) ∨ (A (4270 + 20 * k + 17) = 22 ∧ some (up2 Y 215 18 0) = rr)) → m_weighs_86 (fun v1 v2 v3 g0 => m_weighs_18 F0 F v1 v2 v3 g0) (nn h) (nn W) (nn k) (nn (4270 + 20 * k)) Y = rr := fun Y rr hY hc => by
      unfold m_weighs_86 m_weighs_115
      rw [y17, y18, nnT (show 4270 + 20 * k + 17 < 2147483648 by omega), nnT (show 4270 + 20 * k + 18 < 2147483648 by omega), hY, show nn k + 1 = nn (k + 1) from nnA k 1]
      refine st_t hl1 ?_
      rcases hc with ⟨p1, p2, p3⟩ | ⟨p1, p3⟩ | ⟨p1, p3⟩
      · exact st_t p1 (st_t hl1 (st_f p2 p3))
      · refine st_f (fun z => z p1) (st_w hl2 (st_t hl1 (st_f ?_ p3)))
        rw [u2n (show 216 ≠ 215 by decide), hY, p1]
        decide
      · exact st_t (by rw [p1]; decide) (st_t hl1 (st_t p1 p3))
    rcases hact with ⟨e4, e20⟩ | ⟨e4, e20⟩ | ⟨e4, e20⟩
    · obtain ⟨X2, r1, r2, r3, r4, r5⟩ := ih (k + 1) F (up2 X1 215 18 (X1 215 18 + A (4270 + 20 * k + 18))) (by omega) (by omega) (pmw 18 _ _ (Or.inl rfl) a2)
      rw [u2e, up1_eq, up1_ne (by decide), h35, e18, e19] at r3 r4
      refine ⟨X2, pre _ ((if_neg (fun z => z e20)).trans (m86 _ _ (by rw [u2n (by decide)]; exact a2.1) (Or.inl ⟨by rw [e20]; decide, by rw [e20]; decide, r1⟩))), r2, ?_, ?_, fun i e => (r5 i e).trans ((u2n e).trans (a3.1 i e))⟩
      · rw [jg_4 q e4]; exact r3
      · rw [jg_4 q e4]; exact r4
    · obtain ⟨X2, r1, r2, r3, r4, r5⟩ := ih (k + 1) F (up2 X1 215 19 (A (4270 + 20 * k + 18))) (by omega) (by omega) (pmw 19 _ _ (Or.inr rfl) a2)
      rw [u2e, up1_eq, up1_ne (by decide), h35, e18] at r3 r4
      refine ⟨X2, pre _ ((if_pos (by rw [e20]; decide)).trans (m86 _ _ a2.1 (Or.inr (Or.inl ⟨e20, r1⟩)))), r2, ?_, ?_, fun i e => (r5 i e).trans ((u2n e).trans (a3.1 i e))⟩
      · rw [jg_5 q e4]; exact r3
      · rw [jg_5 q e4]; exact r4
    · refine ⟨up2 X1 215 18 0, pre _ ((if_pos (by rw [e20]; decide)).trans (m86 _ _ a2.1 (Or.inr (Or.inr ⟨e20, rfl⟩)))), pmw 18 _ _ (Or.inl rfl) a2, ?_, ?_, fun i e => (u2n e).trans (a3.1 i e)⟩
      · rw [jg_6 q e4, u2e, up1_eq]
      · rw [jg_6 q e4, u2e, up1_ne (by decide)]; exact e19
theorem cntsL {M : Sg} (hM : RNet c (M 216) N C Q) (r : RRig c (M 216) D N Q) {h W : Nat} (hh : h < 8) (hW : W < 100) {fv : Int32} (hfv : farP c N C Q h fv) {F0 : Nat} (hF0 : 200 < F0) : ∀ m x F p, x + m = 168 → m < F → p 14 = sumTo (fun i => hrI (fun i => ownS c (nn i) (nn W) (nn (Q / 96)) D) i h) x → p 15 = sumTo (fun i => niI (fun i => ownS c (nn i) (nn W) (nn (Q / 96)) D) i h) x → ∃ M2, m_counts_12 F0 F (nn h) (nn W) (nn x) (sc M 215 p) = some M2 ∧ M2 215 14 = hrs c D Q W h ∧ M2 215 15 = ngt c D Q W h ∧ M2 215 16 = fv ∧ M2 215 17 = -1 ∧ ∀ i, i ≠ 215 → i ≠ 218 → M2 i = M i := by
  have hQ := hM.hQ
  intro m
  induction m with
  | zero =>
    intro x F p hx hF h14 h15
    obtain ⟨F, rfl⟩ : ∃ F2, F = F2 + 1 := ⟨F - 1, by omega⟩
    have : x = 168 := by omega
    subst this
    have i3 : 30 + h < 20360 := by omega
    have e3 : (30 + nn h : Int32) = nn (30 + h) := by simp (disch := first | omega | decide) only [lt1, nnMl, nnMr, nnAl, nnAr, nnA, nnM, nnB, nnT, nnP, nnE, nnEl, nnEr, nnL, nnLl, nnLr, nnQ, nnQr, nnN, Nat.add_zero, if_false, if_true, Option.bind_some, not_true, not_false_iff, not_true_eq_false, not_false_eq_true, eq_self, Nat.not_lt_zero, z10, z01, or_true, true_or, or_false, false_or, true_and, false_and]
    have e216 : (sc M 215 p) 216 = M 216 := sc_n (by decide)
    have pre : ∀ rr, (if c 23 h < 0 then some (up2 (up2 (sc M 215 p) 215 16 999) 215 17 (-1)) else Option.bind (m_leads F0 0 (c 23 h) (sc M 215 p)) (fun (x4, g5) => (if x4 = 0 then lt1 (up2 g5 215 16 999) (fun g6 => lt1 (up2 g6 215 17 (-1)) (fun g7 => (some g7))) else lt1 (up2 g5 215 16 ((g5 218 0) / 100)) (fun g8 => lt1 (up2 g8 215 17 (-1)) (fun g9 => (some g9)))))) = rr → m_counts_12 F0 (F + 1) (nn h) (nn W) (nn 168) (sc M 215 p) = rr := fun rr hr => by
      unfold m_counts_12
      rw [e3, nnT (by omega), e216, r.home h hh]
      refine st_t (by decide) (st_w (by simp (disch := first | omega | decide) only [lt1, nnMl, nnMr, nnAl, nnAr, nnA, nnM, nnB, nnT, nnP, nnE, nnEl, nnEr, nnL, nnLl, nnLr, nnQ, nnQr, nnN, Nat.add_zero, if_false, if_true, Option.bind_some, not_true, not_false_iff, not_true_eq_false, not_false_eq_true, eq_self, Nat.not_lt_zero, z10, z01, or_true, true_or, or_false, false_or, true_and, false_and, i3]) ?_)
      rw [← hr]
      by_cases q : c 23 h < 0
      · refine Eq.trans ?_ (if_pos q).symm
        exact st_t q (st_l (st_l rfl))
      · refine Eq.trans ?_ (if_neg q).symm
        exact st_f q rfl
    have fin : ∀ (Y : Sg) (v : Int32), (∀ i, i ≠ 218 → Y i = (sc M 215 p) i) → v = fv → ((up2 (up2 Y 215 16 v) 215 17 (-1)) 215 14 = hrs c D Q W h ∧ (up2 (up2 Y 215 16 v) 215 17 (-1)) 215 15 = ngt c D Q W h ∧ (up2 (up2 Y 215 16 v) 215 17 (-1)) 215 16 = fv ∧ (up2 (up2 Y 215 16 v) 215 17 (-1)) 215 17 = -1 ∧ ∀ i, i ≠ 215 → i ≠ 218 → (up2 (up2 Y 215 16 v) 215 17 (-1)) i = M i) := fun Y v hY hv => by
      refine ⟨?_, ?_, ?_, ?_, fun i e1 e2 => ?_⟩
      · rw [u2e, up1_ne (by decide), u2e, up1_ne (by decide), hY 215 (by decide), sc_e, h14]; rfl
      · rw [u2e, up1_ne (by decide), u2e, up1_ne (by decide), hY 215 (by decide), sc_e, h15]; rfl
      · rw [u2e, up1_ne (by decide), u2e, up1_eq, hv]
      · rw [u2e, up1_eq]
      · rw [u2n e1, u2n e1, hY i e2, sc_n e1]
    rcases hfv.2 (sc M 215 p) F0 (by omega) (by rw [e216]; exact hM) with ⟨q1, q2⟩ | ⟨q1, rr, M2, q2, q3, q4⟩
    · exact ⟨_, pre _ (if_pos q1), fin _ 999 (fun _ _ => rfl) q2.symm⟩
    · rcases q4 with ⟨e1, e2⟩ | ⟨e1, e2⟩
      · exact ⟨_, pre _ ((if_neg q1).trans (st_b q2 (st_t e1 (st_l (st_l rfl))))), fin M2 999 q3 e2.symm⟩
      · exact ⟨_, pre _ ((if_neg q1).trans (st_b q2 (st_f (by rw [e1]; decide) (st_l (st_l rfl))))), fin M2 _ q3 e2⟩
  | succ m ih =>
    intro x F p hx hF h14 h15
    obtain ⟨F, rfl⟩ : ∃ F2, F = F2 + 1 := ⟨F - 1, by omega⟩
    have h2 : ¬ 168 ≤ x := by omega
    have e216 : (sc M 215 p) 216 = M 216 := sc_n (by decide)
    have em : nn x - nn x / 24 * 24 = nn (x % 24) := by
      have e : nn x / 24 * 24 = nn (x / 24 * 24) := by simp (disch := first | omega | decide) only [lt1, nnMl, nnMr, nnAl, nnAr, nnA, nnM, nnB, nnT, nnP, nnE, nnEl, nnEr, nnL, nnLl, nnLr, nnQ, nnQr, nnN, Nat.add_zero, if_false, if_true, Option.bind_some, not_true, not_false_iff, not_true_eq_false, not_false_eq_true, eq_self, Nat.not_lt_zero, z10, z01, or_true, true_or, or_false, false_or, true_and, false_and, nnDr]
      rw [e, nnS (a := x) (b := x / 24 * 24) (by omega), show x - x / 24 * 24 = x % 24 by omega]
    have ot : m_today (sc M 215 p) = some (nn (Q / 96)) := today_m (by rw [e216]; exact hM.aQ) hQ
    have om : m_owns F0 (nn x) (nn W) (nn (Q / 96)) (sc M 215 p) = some (ownS c (nn x) (nn W) (nn (Q / 96)) D) := own_m (by rw [e216]; exact r) hQ (nnE0 (by omega)) (by omega)
    by_cases e : ownS c (nn x) (nn W) (nn (Q / 96)) D = nn h
    · obtain ⟨M2, r1, r2⟩ := ih (x + 1) F (up1 (up1 p 14 (p 14 + 1)) 15 (p 15 + ntI x)) (by omega) (by omega) (by
        rw [up1_ne (by decide), up1_eq, h14]
        show _ = sumTo _ x + (if ownS c (nn x) (nn W) (nn (Q / 96)) D = nn h then 1 else 0)
        rw [if_pos e]) (by
        rw [up1_eq, h15]
        show _ = sumTo _ x + (if ownS c (nn x) (nn W) (nn (Q / 96)) D = nn h then ntI x else 0)
        rw [if_pos e])
      refine ⟨M2, ?_, r2⟩
      unfold m_counts_12
      rw [em, show nn x + 1 = nn (x + 1) from nnA x 1]
      refine st_f (by simp (disch := first | omega | decide) only [lt1, nnMl, nnMr, nnAl, nnAr, nnA, nnM, nnB, nnT, nnP, nnE, nnEl, nnEr, nnL, nnLl, nnLr, nnQ, nnQr, nnN, Nat.add_zero, if_false, if_true, Option.bind_some, not_true, not_false_iff, not_true_eq_false, not_false_eq_true, eq_self, Nat.not_lt_zero, z10, z01, or_true, true_or, or_false, false_or, true_and, false_and, h2]) (st_b ot (st_b om (st_t e (st_l ?_))))
      rw [sc_e, sc_u, sc_e, up1_ne (show 15 ≠ 14 by decide), sc_u, sc_u]
      unfold ntI at r1
      by_cases q1 : x % 24 < 6
      · rw [if_pos q1] at r1
        exact st_t (by simp (disch := first | omega | decide) only [lt1, nnMl, nnMr, nnAl, nnAr, nnA, nnM, nnB, nnT, nnP, nnE, nnEl, nnEr, nnL, nnLl, nnLr, nnQ, nnQr, nnN, Nat.add_zero, if_false, if_true, Option.bind_some, not_true, not_false_iff, not_true_eq_false, not_false_eq_true, eq_self, Nat.not_lt_zero, z10, z01, or_true, true_or, or_false, false_or, true_and, false_and, q1]) (st_l r1)
      · rw [if_neg q1] at r1
        by_cases q2 : x % 24 < 18
        · rw [if_pos q2] at r1
          exact st_f (by simp (disch := first | omega | decide) only [lt1, nnMl, nnMr, nnAl, nnAr, nnA, nnM, nnB, nnT, nnP, nnE, nnEl, nnEr, nnL, nnLl, nnLr, nnQ, nnQr, nnN, Nat.add_zero, if_false, if_true, Option.bind_some, not_true, not_false_iff, not_true_eq_false, not_false_eq_true, eq_self, Nat.not_lt_zero, z10, z01, or_true, true_or, or_false, false_or, true_and, false_and, q1]) (st_t (by simp (disch := first | omega | decide) only [lt1, nnMl, nnMr, nnAl, nnAr, nnA, nnM, nnB, nnT, nnP, nnE, nnEl, nnEr, nnL, nnLl, nnLr, nnQ, nnQr, nnN, Nat.add_zero, if_false, if_true, Option.bind_some, not_true, not_false_iff, not_true_eq_false, not_false_eq_true, eq_self, Nat.not_lt_zero, z10, z01, or_true, true_or, or_false, false_or, true_and, false_and, q2]) (st_l r1))
        · rw [if_neg q2] at r1
          exact st_f (by simp (disch := first | omega | decide) only [lt1, nnMl, nnMr, nnAl, nnAr, nnA, nnM, nnB, nnT, nnP, nnE, nnEl, nnEr, nnL, nnLl, nnLr, nnQ, nnQr, nnN, Nat.add_zero, if_false, if_true, Option.bind_some, not_true, not_false_iff, not_true_eq_false, not_false_eq_true, eq_self, Nat.not_lt_zero, z10, z01, or_true, true_or, or_false, false_or, true_and, false_and, q1]) (st_f (by simp (disch := first | omega | decide) only [lt1, nnMl, nnMr, nnAl, nnAr, nnA, nnM, nnB, nnT, nnP, nnE, nnEl, nnEr, nnL, nnLl, nnLr, nnQ, nnQr, nnN, Nat.add_zero, if_false, if_true, Option.bind_some, not_true, not_false_iff, not_true_eq_false, not_false_eq_true, eq_self, Nat.not_lt_zero, z10, z01, or_true, true_or, or_false, false_or, true_and, false_and, q2]) (st_l r1))
    · obtain ⟨M2, r1, r2⟩ := ih (x + 1) F p (by omega) (by omega) (by
        rw [h14]
        show _ = sumTo _ x + (if ownS c (nn x) (nn W) (nn (Q / 96)) D = nn h then 1 else 0)
        rw [if_neg e, Int32.add_zero]) (by
        rw [h15]
        show _ = sumTo _ x + (if ownS c (nn x) (nn W) (nn (Q / 96)) D = nn h then ntI x else 0)
        rw [if_neg e, Int32.add_zero])
      refine ⟨M2, ?_, r2⟩
      unfold m_counts_12
      rw [show nn x + 1 = nn (x + 1) from nnA x 1]
      exact st_f (by simp (disch := first | omega | decide) only [lt1, nnMl, nnMr, nnAl, nnAr, nnA, nnM, nnB, nnT, nnP, nnE, nnEl, nnEr, nnL, nnLl, nnLr, nnQ, nnQr, nnN, Nat.add_zero, if_false, if_true, Option.bind_some, not_true, not_false_iff, not_true_eq_false, not_false_eq_true, eq_self, Nat.not_lt_zero, z10, z01, or_true, true_or, or_false, false_or, true_and, false_and, h2]) (st_b ot (st_b om (st_f e r1)))
theorem weighs_m {M : Sg} (hM : RNet c (M 216) N C Q) (r : RRig c (M 216) D N Q) (hl : RLaw c (M 216) T L) {h W : Nat} (hh : h < 8) (hW : W < 100) {fv : Nat → Int32} (hfv : farP c N C Q h (fv h)) {F : Nat} (hF : 2400 < F) : ∃ M2, m_weighs F (nn h) (nn W) M = some M2 ∧ M2 215 14 = hrs c D Q W h ∧ M2 215 15 = ngt c D Q W h ∧ M2 215 16 = fv h ∧ M2 215 18 = (jg c (FVh c D Q W fv h) L 0 0 0).1 ∧ M2 215 19 = (jg c (FVh c D Q W fv h) L 0 0 0).2 ∧ ∀ i, i ≠ 215 → i ≠ 218 → M2 i = M i := by
  have hL := hl.hL
  obtain ⟨M1, c1, c2, c3, c4, c5, c6⟩ := cntsL hM r hh hW hfv (F0 := F) (by omega) 168 0 F (up1 (up1 (M 215) 14 0) 15 0) (by omega) (by omega) (by rw [up1_ne (by decide), up1_eq]; rfl) (by rw [up1_eq]; rfl)
  have e215 : sc M 215 (up1 (up1 (M 215) 14 0) 15 0) = up2 (up2 M 215 14 0) 215 15 0 := by
    have := sc_u (g := M) (a := 215) (i := 14) (f := M 215) (v := 0)
    rw [sc_s] at this
    rw [this, sc_u]
  rw [e215] at c1
  have hPM : PMx (up2 (up2 M1 215 18 0) 215 19 0) (M 216) (FVh c D Q W fv h) := by
    refine ⟨?_, ?_, ?_, ?_, Or.inl ?_⟩
    · rw [u2n (by decide), u2n (by decide)]; exact c6 216 (by decide) (by decide)
    · rw [u2e, up1_ne (by decide), u2e, up1_ne (by decide)]; exact c2
    · rw [u2e, up1_ne (by decide), u2e, up1_ne (by decide)]; exact c3
    · rw [u2e, up1_ne (by decide), u2e, up1_ne (by decide)]; exact c4
    · rw [u2e, up1_ne (by decide), u2e, up1_ne (by decide)]; exact c5
  obtain ⟨X2, r1, r2, r3, r4, r5⟩ := wghL r hl hM.hQ hM.aQ hh hW (fv := fv) (F0 := F) hF L 0 F _ (by omega) (by omega) hPM
  rw [show (up2 (up2 M1 215 18 0) 215 19 0) 215 18 = 0 by rw [u2e, up1_ne (by decide), u2e, up1_eq], show (up2 (up2 M1 215 18 0) 215 19 0) 215 19 = 0 by rw [u2e, up1_eq]] at r3 r4
  refine ⟨X2, ?_, r2.2.1, r2.2.2.1, r2.2.2.2.1, r3, r4, fun i e1 e2 => ?_⟩
  · unfold m_weighs m_counts
    exact st_b (x := M1) (st_l (st_l c1)) (st_l (st_l r1))
  · rw [r5 i e1, u2n e1, u2n e1]
    exact c6 i e1 e2
end WP
section SV
theorem sim_holder {TS : Sg → Prop} (hT : TSf TS) : Sim_holder (RR TS) := by
  intro v1 v2 v3 g hR
  obtain ⟨N, C, Q, D, T, L, G, h⟩ := hR.now
  have hQ := h.net.hQ
  rcases chk v1 7 7 rfl (by decide) with ⟨n, hn, rfl, x1, m1⟩ | ⟨x1, m1⟩
  rotate_left
  · refine ⟨0, 0, -1, g, g, ?_, ?_, hR⟩
    · unfold x_holder
      exact st_b (holder_of (Or.inl rfl) x1) (st_t rfl rfl)
    · unfold m_holder
      exact st_b (m1 g) (st_t rfl rfl)
  rcases chk v2 99 99 rfl (by decide) with ⟨W, hW, rfl, x2, m2⟩ | ⟨x2, m2⟩
  rotate_left
  · refine ⟨0, 0, -1, g, g, ?_, ?_, hR⟩
    · unfold x_holder
      exact st_b (holder_of (Or.inr rfl) x1) (st_f (by decide) (st_b (week_of (Or.inl rfl) x2) (st_t rfl rfl)))
    · unfold m_holder
      exact st_b (m1 g) (st_f (by decide) (st_b (m2 g) (st_f (by decide) rfl)))
  have hn8 : n < 8 := by omega
  have hW100 : W < 100 := by omega
  obtain ⟨fv, hfv⟩ := Classical.axiomOfChoice (fun k => (by
    by_cases e : k < 8
    · obtain ⟨v, hv⟩ := far_ex h.net h.rig e
      exact ⟨v, fun _ => hv⟩
    · exact ⟨0, fun e2 => absurd e2 e⟩ : ∃ v, k < 8 → farP g N C Q k v))
  rcases chk v3 5 5 rfl (by decide) with ⟨wh, hwh, rfl, x3, m3⟩ | ⟨x3, m3⟩
  rotate_left
  · obtain ⟨M2, w1, w2, w3, w4, w5, w6, w7⟩ := weighs_m (M := g) h.net h.rig h.law hn8 hW100 (fv := fv) (hfv n hn8) (F := 2401) (by decide)
    have ne : ∀ k : Nat, k ≤ 5 → ¬ v3 = nn k := fun k hk e => by
      have := x3 g
      rw [e] at this
      rw [show x_within (nn k) 0 5 g = some 1 from wthK_y (K := 5) rfl (by decide) hk] at this
      exact absurd (Option.some.inj this) (by decide)
    refine ⟨0, 2401, -1, g, M2, ?_, ?_, ?_⟩
    · unfold x_holder
      exact st_b (holder_of (Or.inr rfl) x1) (st_f (by decide) (st_b (week_of (Or.inr rfl) x2) (st_f (by decide) (st_b (x3 g) (st_f (by decide) rfl)))))
    · unfold m_holder
      refine st_b (m1 g) (st_f (by decide) (st_b (m2 g) (st_t (by decide) (st_b w1 ?_))))
      exact st_f (ne 0 (by decide)) (st_f (ne 1 (by decide)) (st_f (ne 2 (by decide)) (st_f (ne 3 (by decide)) (st_f (ne 4 (by decide)) (st_f (ne 5 (by decide)) rfl)))))
    · exact RR.scr hT hR (fun i e1 e2 => w7 i (by omega) (by omega)) (fun i e1 e2 => w7 i (by omega) (by omega)) (w7 216 (by decide) (by decide)) (w7 217 (by decide) (by decide))
  obtain ⟨S, s1, ⟨s2, s3, s4, s5⟩, s6⟩ := reckon_y (s := g) h.law h.rig hQ (fun _ _ _ => rfl) hW100 hfv (F := 2401) (by decide)
  have e216 : S 216 = g 216 := s6 216 (by omega) (by omega)
  obtain ⟨M2, w1, w2, w3, w4, w5, w6, w7⟩ := weighs_m (c := g) (M := S) (by rw [e216]; exact h.net) (by rw [e216]; exact h.rig) (by rw [e216]; exact h.law) hn8 hW100 (fv := fv) (hfv n hn8) (F := 2401) (by decide)
  have a1 := s4 n hn8
  have a2 := s5 n hn8
  have hi : inb (nn n) 8 = true := by simp (disch := first | omega | decide) only [lt1, nnMl, nnMr, nnAl, nnAr, nnA, nnM, nnB, nnT, nnP, nnE, nnEl, nnEr, nnL, nnLl, nnLr, nnQ, nnQr, nnN, Nat.add_zero, if_false, if_true, Option.bind_some, not_true, not_false_iff, not_true_eq_false, not_false_eq_true, eq_self, Nat.not_lt_zero, z10, z01, or_true, true_or, or_false, false_or, true_and, false_and, hn8]
  have hx : ∀ v, (if nn wh = 0 then (if inb (nn n) 8 = true then (some ((S 202 (Int32.toNatClampNeg (nn n))), S)) else none) else (if nn wh = 1 then (if inb (nn n) 8 = true then (some ((S 203 (Int32.toNatClampNeg (nn n))), S)) else none) else (if nn wh = 2 then (if inb (nn n) 8 = true then (some ((S 205 (Int32.toNatClampNeg (nn n))), S)) else none) else (if nn wh = 3 then (if inb (nn n) 8 = true then (some ((S 206 (Int32.toNatClampNeg (nn n))), S)) else none) else (if nn wh = 4 then Option.bind (reckoning_leftTo (nn n) S) (fun x9 => (some (x9, S))) else (if inb (nn n) 8 = true then (some ((S 204 (Int32.toNatClampNeg (nn n))), S)) else none)))))) = some (v, S) → x_holder 2401 (nn n) (nn W) (nn wh) g = some (v, S) := fun v hv => by
    unfold x_holder
    exact st_b (holder_of (Or.inr rfl) x1) (st_f (by decide) (st_b (week_of (Or.inr rfl) x2) (st_f (by decide) (st_b (x3 g) (st_t (by decide) (st_b s1 hv))))))
  have hm : ∀ v, (if nn wh = 0 then (some ((M2 215 14), M2)) else (if nn wh = 1 then (some ((M2 215 15), M2)) else (if nn wh = 2 then (some ((M2 215 18), M2)) else (if nn wh = 3 then (some ((M2 215 19), M2)) else (if nn wh = 4 then (some (((M2 215 14) - (((M2 215 14) * (M2 215 19)) / 100)), M2)) else (if nn wh = 5 then (some ((M2 215 16), M2)) else (some ((-1), M2)))))))) = some (v, M2) → m_holder 2401 (nn n) (nn W) (nn wh) S = some (v, M2) := fun v hv => by
    unfold m_holder
    exact st_b (m1 S) (st_f (by decide) (st_b (m2 S) (st_t (by decide) (st_b w1 hv))))
  have hR2 : RR TS M2 := RR.scr hT hR (fun i e1 e2 => by
    rw [w7 i (by omega) (by omega)]
    by_cases e : i ≤ 46
    · exact s2 i e1 e
    · exact s6 i (by omega) (by omega)) (fun i e1 e2 => by rw [w7 i (by omega) (by omega)]; exact s6 i (by omega) (by omega)) (by rw [w7 216 (by decide) (by decide)]; exact e216) (by rw [w7 217 (by decide) (by decide)]; exact s6 217 (by omega) (by omega))
  have c6 : wh = 0 ∨ wh = 1 ∨ wh = 2 ∨ wh = 3 ∨ wh = 4 ∨ wh = 5 := by omega
  rcases c6 with rfl | rfl | rfl | rfl | rfl | rfl
  · refine ⟨2401, 2401, hrs g D Q W n, S, M2, hx _ (st_t rfl (st_t hi ?_)), hm _ (st_t rfl (by rw [w2])), hR2⟩
    rw [nnT (by omega), a1.1]
  · refine ⟨2401, 2401, ngt g D Q W n, S, M2, hx _ (st_f (by decide) (st_t rfl (st_t hi ?_))), hm _ (st_f (by decide) (st_t rfl (by rw [w3]))), hR2⟩
    rw [nnT (by omega), a1.2.1]
  · refine ⟨2401, 2401, (jg g (FVh g D Q W fv n) L 0 0 0).1, S, M2, hx _ (st_f (by decide) (st_f (by decide) (st_t rfl (st_t hi ?_)))), hm _ (st_f (by decide) (st_f (by decide) (st_t rfl (by rw [w5])))), hR2⟩
    rw [nnT (by omega), a2.2.1]
  · refine ⟨2401, 2401, (jg g (FVh g D Q W fv n) L 0 0 0).2, S, M2, hx _ (st_f (by decide) (st_f (by decide) (st_f (by decide) (st_t rfl (st_t hi ?_))))), hm _ (st_f (by decide) (st_f (by decide) (st_f (by decide) (st_t rfl (by rw [w6]))))), hR2⟩
    rw [nnT (by omega), a2.2.2]
  · refine ⟨2401, 2401, hrs g D Q W n - hrs g D Q W n * (jg g (FVh g D Q W fv n) L 0 0 0).2 / 100, S, M2, hx _ (st_f (by decide) (st_f (by decide) (st_f (by decide) (st_f (by decide) (st_t rfl (st_b ?_ rfl)))))), hm _ (st_f (by decide) (st_f (by decide) (st_f (by decide) (st_f (by decide) (st_t rfl (by rw [w2, w6])))))), hR2⟩
    unfold reckoning_leftTo
    rw [nnT (by omega), a1.1, a2.2.2]
    exact st_t hi (st_t hi (st_t hi rfl))
  · refine ⟨2401, 2401, fv n, S, M2, hx _ (st_f (by decide) (st_f (by decide) (st_f (by decide) (st_f (by decide) (st_f (by decide) (st_t hi ?_)))))), hm _ (st_f (by decide) (st_f (by decide) (st_f (by decide) (st_f (by decide) (st_f (by decide) (st_t rfl (by rw [w4]))))))), hR2⟩
    rw [nnT (by omega), a2.1]
end SV
end
section
/-! duty -/
def LI (z : Int) : Int64 := Int64.ofInt z
theorem LI_i {z : Int} (h1 : -4000000000000000000 < z) (h2 : z < 4000000000000000000) : (LI z).toInt = z := by
  unfold LI
  rw [Int64.toInt_ofInt, Int.bmod_def, show Int64.size = 18446744073709551616 from rfl]
  omega
theorem LI_e {a b : Int64} (h : a.toInt = b.toInt) : a = b := Int64.toInt_inj.mp h
theorem LI_a (a b : Int) : LI a + LI b = LI (a + b) := (Int64.ofInt_add a b).symm
theorem LI_s (a b : Int) : LI a - LI b = LI (a - b) := (Int64.ofInt_sub a b).symm
theorem LI_m (a b : Int) : LI a * LI b = LI (a * b) := (Int64.ofInt_mul a b).symm
theorem LI_d {a b : Nat} (h1 : a < 4000000000000000000) (h2 : b < 4000000000000000000) : LI (a : Int) / LI (b : Int) = LI ((a / b : Nat) : Int) := by
  apply LI_e
  have hq : a / b ≤ a := Nat.div_le_self a b
  have hq0 : (0 : Int) ≤ ((a / b : Nat) : Int) := Int.natCast_nonneg _
  have hq1 : ((a / b : Nat) : Int) < 4000000000000000000 := Int.ofNat_lt.mpr (Nat.lt_of_le_of_lt hq h1)
  rw [Int64.toInt_div, LI_i (by omega) (by omega), LI_i (by omega) (by omega), LI_i (by omega) (by omega), ← Int.ofNat_tdiv, Int.bmod_def, show (2 : Nat) ^ 64 = 18446744073709551616 from rfl]
  generalize a / b = q at *
  split <;> omega
theorem LI_n {a : Nat} (h : a < 2147483648) : (nn a).toInt64 = LI (a : Int) := by
  apply LI_e
  rw [Int32.toInt_toInt64, nnI h, LI_i (by omega) (by omega)]
theorem LI_32 {a : Nat} (h : a < 2147483648) : (LI (a : Int)).toInt32 = nn a := by
  apply Int32.toInt_inj.mp
  rw [Int64.toInt_toInt32, LI_i (by omega) (by omega), nnI h, Int.bmod_def, show (2 : Nat) ^ 32 = 4294967296 from rfl]
  omega
theorem LI_lt {a b : Int} (h1 : -4000000000000000000 < a) (h2 : a < 4000000000000000000) (h3 : -4000000000000000000 < b) (h4 : b < 4000000000000000000) : LI a < LI b ↔ a < b := by
  rw [Int64.lt_iff_toInt_lt, LI_i h1 h2, LI_i h3 h4]
theorem LI_q {a b : Int} (h1 : -4000000000000000000 < a) (h2 : a < 4000000000000000000) (h3 : -4000000000000000000 < b) (h4 : b < 4000000000000000000) : LI a = LI b ↔ a = b := by
  constructor
  · intro e
    have := congrArg Int64.toInt e
    rwa [LI_i h1 h2, LI_i h3 h4] at this
  · intro e
    rw [e]
theorem cmp_gt {a b : Int} (h1 : -4000000000000000000 < a) (h2 : a < 4000000000000000000) (h3 : -4000000000000000000 < b) (h4 : b < 4000000000000000000) : (0 < lg_cmp (LI a) (LI b)) ↔ b < a := by
  unfold lg_cmp
  by_cases e : LI b < LI a
  · rw [if_pos e]
    exact ⟨fun _ => (LI_lt h3 h4 h1 h2).mp e, fun _ => by decide⟩
  · rw [if_neg e]
    refine ⟨fun q => ?_, fun q => absurd ((LI_lt h3 h4 h1 h2).mpr q) e⟩
    by_cases e2 : LI a = LI b
    · rw [if_pos e2] at q; exact absurd q (by decide)
    · rw [if_neg e2] at q; exact absurd q (by decide)
theorem cmp_eq {a b : Int} (h1 : -4000000000000000000 < a) (h2 : a < 4000000000000000000) (h3 : -4000000000000000000 < b) (h4 : b < 4000000000000000000) : (lg_cmp (LI a) (LI b) = 0) ↔ a = b := by
  unfold lg_cmp
  by_cases e : LI b < LI a
  · rw [if_pos e]
    have := (LI_lt h3 h4 h1 h2).mp e
    exact ⟨fun q => absurd q (by decide), fun q => by omega⟩
  · rw [if_neg e]
    by_cases e2 : LI a = LI b
    · rw [if_pos e2]
      exact ⟨fun _ => (LI_q h1 h2 h3 h4).mp e2, fun _ => rfl⟩
    · rw [if_neg e2]
      exact ⟨fun q => absurd q (by decide), fun q => absurd ((LI_q h1 h2 h3 h4).mpr q) e2⟩
theorem cmp_ge {a b : Int} (h1 : -4000000000000000000 < a) (h2 : a < 4000000000000000000) (h3 : -4000000000000000000 < b) (h4 : b < 4000000000000000000) : (0 ≤ lg_cmp (LI a) (LI b)) ↔ b ≤ a := by
  unfold lg_cmp
  by_cases e : LI b < LI a
  · rw [if_pos e]
    have := (LI_lt h3 h4 h1 h2).mp e
    exact ⟨fun _ => by omega, fun _ => by decide⟩
  · rw [if_neg e]
    have hn : ¬ b < a := fun q => e ((LI_lt h3 h4 h1 h2).mpr q)
    by_cases e2 : LI a = LI b
    · rw [if_pos e2]
      have := (LI_q h1 h2 h3 h4).mp e2
      exact ⟨fun _ => by omega, fun _ => by decide⟩
    · rw [if_neg e2]
      have hq : ¬ a = b := fun q => e2 ((LI_q h1 h2 h3 h4).mpr q)
      exact ⟨fun q => absurd q (by decide), fun q => absurd q (by omega)⟩
def sN (f : Nat → Nat) : Nat → Nat
  | 0 => 0
  | k + 1 => sN f k + f k
theorem sN_le {f : Nat → Nat} {b : Nat} (h : ∀ i, i < 8 → f i ≤ b) : ∀ k, k ≤ 8 → sN f k ≤ k * b
  | 0, _ => Nat.zero_le _
  | k + 1, hk => by
    have h1 := sN_le h k (by omega)
    have h2 := h k (by omega)
    show sN f k + f k ≤ (k + 1) * b
    rw [Nat.succ_mul]
    omega
theorem sN_mem {f : Nat → Nat} : ∀ k i, i < k → f i ≤ sN f k
  | 0, _, h => absurd h (Nat.not_lt_zero _)
  | k + 1, i, h => by
    show f i ≤ sN f k + f k
    by_cases e : i = k
    · rw [e]; omega
    · have := sN_mem (f := f) k i (by omega)
      omega
/-- the others' rests that stand before one's own -/
def aH (r : Nat → Nat) (w i : Nat) : Nat := if r w < r i then 1 else if ¬ r i = r w then 0 else if w ≤ i then 0 else 1
section WQ
variable {S : Sg} {wv : Nat → Nat} {y who : Nat}
def flo (wv : Nat → Nat) (y i : Nat) : Nat := y * wv i / sN wv 8
def rst2 (wv : Nat → Nat) (y i : Nat) : Nat := y * wv i % sN wv 8
theorem jgW {c : Sg} {FV : Nat → Int32} {a0 : Nat → Int32} {T L : Nat} (hl : RLaw c a0 T L) : ∀ m k w u x, k + m = L → w = nn x → x ≤ 9999 * k → ∃ z, (jg c FV m k w u).1 = nn z ∧ z ≤ 9999 * 16 := by
  have hL := hl.hL
  intro m
  induction m with
  | zero =>
    intro k w u x hk hw hx
    exact ⟨x, hw, by omega⟩
  | succ m ih =>
    intro k w u x hk hw hx
    obtain ⟨_, hact, _, v, v1, v2⟩ := hl.ln k (by omega)
    by_cases q : lineOk c FV k
    · rcases hact with ⟨e, _⟩ | ⟨e, _⟩ | ⟨e, _⟩
      · rw [jg_4 q e]
        exact ih (k + 1) _ u (x + v) (by omega) (by rw [hw, v2, nnA]) (by omega)
      · rw [jg_5 q e]
        exact ih (k + 1) w _ x (by omega) hw (by omega)
      · rw [jg_6 q e]
        exact ⟨0, rfl, by omega⟩
    · rw [jg_n q]
      exact ih (k + 1) w u x (by omega) hw (by omega)
theorem mul_le2 {y w : Nat} (hy : y ≤ 9999) (hw : w ≤ 159984) : y * w ≤ 1599680016 := Nat.le_trans (Nat.mul_le_mul hy hw) (by decide)
theorem ydiv {y w s : Nat} (hy : y ≤ 9999) (hw : w ≤ 159984) (hs : s < 4000000000) : LI (y : Int) * LI (w : Int) / LI (s : Int) = LI ((y * w / s : Nat) : Int) := by
  have := mul_le2 hy hw
  rw [LI_m, ← Int.natCast_mul, LI_d (by omega) (by omega)]
theorem yrem {y w s : Nat} (hy : y ≤ 9999) (hw : w ≤ 159984) (hs : s < 4000000000) : LI (y : Int) * LI (w : Int) - LI (y : Int) * LI (w : Int) / LI (s : Int) * LI (s : Int) = LI ((y * w % s : Nat) : Int) := by
  rw [ydiv hy hw hs, LI_m, LI_m, LI_s, ← Int.natCast_mul, ← Int.natCast_mul]
  congr 1
  have h1 := Nat.div_add_mod (y * w) s
  have h2 : y * w / s * s = s * (y * w / s) := Nat.mul_comm _ _
  omega
theorem flo_le (hw : ∀ i, i < 8 → wv i ≤ 159984) {i : Nat} (hi : i < 8) : flo wv y i ≤ y := by
  unfold flo
  have h1 := sN_mem (f := wv) 8 i hi
  have h2 : y * wv i ≤ y * sN wv 8 := Nat.mul_le_mul (Nat.le_refl _) h1
  exact Nat.le_trans (Nat.div_le_div_right h2) (Nat.div_le_of_le_mul (by rw [Nat.mul_comm]; exact Nat.le_refl _))
theorem sh61 (hS : ∀ j, j < 8 → S 205 j = nn (wv j)) (hw : ∀ i, i < 8 → wv i ≤ 159984) (hy : y ≤ 9999) (hwho : who < 8) (hpos : 0 < sN wv 8) : ∀ m k F, k + m = 8 → m < F → reckoning_shareOf_61 F (nn y) (nn who) (LI (sN wv 8 : Nat)) (LI ((y : Int) - (sN (flo wv y) k : Nat))) (nn (sN (aH (rst2 wv y) who) k)) (LI (rst2 wv y who : Nat)) (nn k) S = some (if (y : Int) - (sN (flo wv y) 8 : Nat) ≤ (sN (aH (rst2 wv y) who) 8 : Nat) then nn (flo wv y who) else nn (flo wv y who) + 1) := by
  have hs8 : sN wv 8 ≤ 8 * 159984 := sN_le hw 8 (Nat.le_refl _)
  have hfl : ∀ k, k ≤ 8 → sN (flo wv y) k ≤ k * y := sN_le (fun i hi => flo_le hw hi)
  have hrs : ∀ i, rst2 wv y i < 1279872 + 1 := fun i => by
    have := Nat.mod_lt (y * wv i) hpos
    unfold rst2
    omega
  have hah : ∀ i, aH (rst2 wv y) who i ≤ 1 := fun i => by
    unfold aH
    split
    · omega
    · split
      · omega
      · split <;> omega
  have hac : ∀ k, k ≤ 8 → sN (aH (rst2 wv y) who) k ≤ k * 1 := sN_le (fun i _ => hah i)
  have hz : ¬ LI (sN wv 8 : Nat) = 0 := fun e => by
    have := (LI_q (a := ((sN wv 8 : Nat) : Int)) (b := 0) (by omega) (by omega) (by omega) (by omega)).mp e
    omega
  intro m
  induction m with
  | zero =>
    intro k F hk hF
    obtain ⟨F, rfl⟩ : ∃ F2, F = F2 + 1 := ⟨F - 1, by omega⟩
    have : k = 8 := by omega
    subst this
    have hi : inb (nn who) 8 = true := by simp (disch := first | omega | decide) only [lt1, nnMl, nnMr, nnAl, nnAr, nnA, nnM, nnB, nnT, nnP, nnE, nnEl, nnEr, nnL, nnLl, nnLr, nnQ, nnQr, nnN, Nat.add_zero, if_false, if_true, Option.bind_some, not_true, not_false_iff, not_true_eq_false, not_false_eq_true, eq_self, Nat.not_lt_zero, z10, z01, or_true, true_or, or_false, false_or, true_and, false_and, hwho]
    have h1 := hfl 8 (Nat.le_refl _)
    have h2 := hac 8 (Nat.le_refl _)
    have h3 := flo_le (y := y) hw hwho
    unfold reckoning_shareOf_61
    rw [nnT (by omega), hS who hwho, LI_n (by omega), LI_n (by have := hw who hwho; omega), ydiv hy (hw who hwho) (by omega), LI_n (by omega)]
    refine st_t (by decide) (st_t hi (st_f hz (st_l ?_)))
    rw [show y * wv who / sN wv 8 = flo wv y who from rfl, LI_32 (by omega)]
    by_cases q : (y : Int) - (sN (flo wv y) 8 : Nat) ≤ (sN (aH (rst2 wv y) who) 8 : Nat)
    · rw [if_pos q]
      exact st_t ((cmp_ge (by omega) (by omega) (by omega) (by omega)).mpr q) rfl
    · rw [if_neg q]
      exact st_f (fun e => q ((cmp_ge (by omega) (by omega) (by omega) (by omega)).mp e)) rfl
  | succ m ih =>
    intro k F hk hF
    obtain ⟨F, rfl⟩ : ∃ F2, F = F2 + 1 := ⟨F - 1, by omega⟩
    have hk8 : k < 8 := by omega
    have h3 : ¬ 8 ≤ k := by omega
    have hi : inb (nn k) 8 = true := by simp (disch := first | omega | decide) only [lt1, nnMl, nnMr, nnAl, nnAr, nnA, nnM, nnB, nnT, nnP, nnE, nnEl, nnEr, nnL, nnLl, nnLr, nnQ, nnQr, nnN, Nat.add_zero, if_false, if_true, Option.bind_some, not_true, not_false_iff, not_true_eq_false, not_false_eq_true, eq_self, Nat.not_lt_zero, z10, z01, or_true, true_or, or_false, false_or, true_and, false_and, hk8]
    have e1 : LI ((y : Int) - (sN (flo wv y) k : Nat)) - LI (flo wv y k : Nat) = LI ((y : Int) - (sN (flo wv y) (k + 1) : Nat)) := by
      rw [LI_s]
      congr 1
      show _ = (y : Int) - ((sN (flo wv y) k + flo wv y k : Nat) : Int)
      omega
    have hr1 := hrs k
    have hr2 := hrs who
    have IH := ih (k + 1) F (by omega) (by omega)
    have eA : sN (aH (rst2 wv y) who) (k + 1) = sN (aH (rst2 wv y) who) k + aH (rst2 wv y) who k := rfl
    unfold reckoning_shareOf_61
    rw [nnT (show k < 2147483648 by omega), hS k hk8, LI_n (show y < 2147483648 by omega), LI_n (show wv k < 2147483648 by have := hw k hk8; omega), yrem hy (hw k hk8) (by omega), ydiv hy (hw k hk8) (by omega), show nn k + 1 = nn (k + 1) from nnA k 1, show y * wv k / sN wv 8 = flo wv y k from rfl, e1, show y * wv k % sN wv 8 = rst2 wv y k from rfl]
    refine st_f (by simp (disch := first | omega | decide) only [lt1, nnMl, nnMr, nnAl, nnAr, nnA, nnM, nnB, nnT, nnP, nnE, nnEl, nnEr, nnL, nnLl, nnLr, nnQ, nnQr, nnN, Nat.add_zero, if_false, if_true, Option.bind_some, not_true, not_false_iff, not_true_eq_false, not_false_eq_true, eq_self, Nat.not_lt_zero, z10, z01, or_true, true_or, or_false, false_or, true_and, false_and, h3]) (st_t hi (st_f hz (st_l (st_t hi (st_f hz (st_l ?_))))))
    by_cases q1 : rst2 wv y who < rst2 wv y k
    · have ea : aH (rst2 wv y) who k = 1 := if_pos q1
      rw [eA, ea] at IH
      refine st_t ((cmp_gt (by omega) (by omega) (by omega) (by omega)).mpr (by omega)) ?_
      rw [show nn (sN (aH (rst2 wv y) who) k) + 1 = nn (sN (aH (rst2 wv y) who) k + 1) from nnA _ 1]
      exact IH
    refine st_f (fun e => q1 (by have := (cmp_gt (by omega) (by omega) (by omega) (by omega)).mp e; omega)) ?_
    by_cases q2 : rst2 wv y k = rst2 wv y who
    · refine st_f (fun e => e ((cmp_eq (by omega) (by omega) (by omega) (by omega)).mpr (by omega))) ?_
      by_cases q3 : who ≤ k
      · have ea : aH (rst2 wv y) who k = 0 := (if_neg q1).trans ((if_neg (fun e => e q2)).trans (if_pos q3))
        rw [eA, ea, Nat.add_zero] at IH
        exact st_t (by rw [nnE (by omega) (by omega)]; exact q3) IH
      · have ea : aH (rst2 wv y) who k = 1 := (if_neg q1).trans ((if_neg (fun e => e q2)).trans (if_neg q3))
        rw [eA, ea] at IH
        refine st_f (by rw [nnE (by omega) (by omega)]; exact q3) ?_
        rw [show nn (sN (aH (rst2 wv y) who) k) + 1 = nn (sN (aH (rst2 wv y) who) k + 1) from nnA _ 1]
        exact IH
    · have ea : aH (rst2 wv y) who k = 0 := (if_neg q1).trans (if_pos q2)
      rw [eA, ea, Nat.add_zero] at IH
      exact st_t (fun e => q2 (by have := (cmp_eq (by omega) (by omega) (by omega) (by omega)).mp e; omega)) IH
/-- the answer of both -/
def dutA (wv : Nat → Nat) (y who : Nat) : Int32 := if sN wv 8 = 0 then 0 else if (y : Int) - (sN (flo wv y) 8 : Nat) ≤ (sN (aH (rst2 wv y) who) 8 : Nat) then nn (flo wv y who) else nn (flo wv y who) + 1
theorem sh5 (hS : ∀ j, j < 8 → S 205 j = nn (wv j)) (hw : ∀ i, i < 8 → wv i ≤ 159984) (hy : y ≤ 9999) (hwho : who < 8) {F0 : Nat} (hF0 : 10 < F0) : ∀ m k F, k + m = 8 → m < F → reckoning_shareOf_5 F0 F (nn y) (nn who) (LI (sN wv k : Nat)) (nn k) S = some (dutA wv y who) := by
  have hs8 : ∀ k, k ≤ 8 → sN wv k ≤ k * 159984 := sN_le hw
  intro m
  induction m with
  | zero =>
    intro k F hk hF
    obtain ⟨F, rfl⟩ : ∃ F2, F = F2 + 1 := ⟨F - 1, by omega⟩
    have : k = 8 := by omega
    subst this
    have h8 := hs8 8 (Nat.le_refl _)
    have hi : inb (nn who) 8 = true := by simp (disch := first | omega | decide) only [lt1, nnMl, nnMr, nnAl, nnAr, nnA, nnM, nnB, nnT, nnP, nnE, nnEl, nnEr, nnL, nnLl, nnLr, nnQ, nnQr, nnN, Nat.add_zero, if_false, if_true, Option.bind_some, not_true, not_false_iff, not_true_eq_false, not_false_eq_true, eq_self, Nat.not_lt_zero, z10, z01, or_true, true_or, or_false, false_or, true_and, false_and, hwho]
    unfold reckoning_shareOf_5
    refine st_t (by decide) ?_
    by_cases q : sN wv 8 = 0
    · rw [show dutA wv y who = 0 from if_pos q, q]
      exact st_f (by decide) rfl
    · have hz : ¬ LI (sN wv 8 : Nat) = 0 := fun e => by
        have := (LI_q (a := ((sN wv 8 : Nat) : Int)) (b := 0) (by omega) (by omega) (by omega) (by omega)).mp e
        omega
      rw [show dutA wv y who = _ from if_neg q]
      refine st_t ((cmp_gt (a := ((sN wv 8 : Nat) : Int)) (b := 0) (by omega) (by omega) (by omega) (by omega)).mpr (by omega)) (st_l (st_t hi (st_f hz (st_l ?_))))
      rw [nnT (by omega), hS who hwho, LI_n (show y < 2147483648 by omega), LI_n (show wv who < 2147483648 by have := hw who hwho; omega), yrem hy (hw who hwho) (by omega)]
      have := sh61 hS hw hy hwho (by omega) 8 0 F0 (by omega) (by omega)
      rw [show ((y : Int) - ((sN (flo wv y) 0 : Nat) : Int)) = (y : Int) by show (y : Int) - ((0 : Nat) : Int) = y; omega] at this
      exact this
  | succ m ih =>
    intro k F hk hF
    obtain ⟨F, rfl⟩ : ∃ F2, F = F2 + 1 := ⟨F - 1, by omega⟩
    have hk8 : k < 8 := by omega
    have h3 : ¬ 8 ≤ k := by omega
    unfold reckoning_shareOf_5
    rw [nnT (show k < 2147483648 by omega), hS k hk8, LI_n (show wv k < 2147483648 by have := hw k hk8; omega), LI_a, ← Int.natCast_add, show nn k + 1 = nn (k + 1) from nnA k 1]
    exact st_f (by simp (disch := first | omega | decide) only [lt1, nnMl, nnMr, nnAl, nnAr, nnA, nnM, nnB, nnT, nnP, nnE, nnEl, nnEr, nnL, nnLl, nnLr, nnQ, nnQr, nnN, Nat.add_zero, if_false, if_true, Option.bind_some, not_true, not_false_iff, not_true_eq_false, not_false_eq_true, eq_self, Nat.not_lt_zero, z10, z01, or_true, true_or, or_false, false_or, true_and, false_and, h3]) (st_t (by simp (disch := first | omega | decide) only [lt1, nnMl, nnMr, nnAl, nnAr, nnA, nnM, nnB, nnT, nnP, nnE, nnEl, nnEr, nnL, nnLl, nnLr, nnQ, nnQr, nnN, Nat.add_zero, if_false, if_true, Option.bind_some, not_true, not_false_iff, not_true_eq_false, not_false_eq_true, eq_self, Nat.not_lt_zero, z10, z01, or_true, true_or, or_false, false_or, true_and, false_and, hk8]) (st_l (ih (k + 1) F (by omega) (by omega))))
theorem du163 {X : Sg} (hS : ∀ j, j < 8 → X 221 j = nn (wv j)) (hsh : X 222 who = nn (flo wv y who)) (hw : ∀ i, i < 8 → wv i ≤ 159984) (hy : y ≤ 9999) (hwho : who < 8) (hpos : 0 < sN wv 8) : ∀ m k F, k + m = 8 → m < F → m_duty_163 F (nn y) (nn who) (LI (sN wv 8 : Nat)) (Int32.ofInt ((y : Int) - (sN (flo wv y) 8 : Nat))) (LI (rst2 wv y who : Nat)) (nn (sN (aH (rst2 wv y) who) k)) (nn k) X = some (if (y : Int) - (sN (flo wv y) 8 : Nat) ≤ (sN (aH (rst2 wv y) who) 8 : Nat) then nn (flo wv y who) else nn (flo wv y who) + 1, X) := by
  have hs8 : sN wv 8 ≤ 8 * 159984 := sN_le hw 8 (Nat.le_refl _)
  have hfl : ∀ k, k ≤ 8 → sN (flo wv y) k ≤ k * y := sN_le (fun i hi => flo_le hw hi)
  have hrs : ∀ i, rst2 wv y i < 1279872 + 1 := fun i => by
    have := Nat.mod_lt (y * wv i) hpos
    unfold rst2
    omega
  have hah : ∀ i, aH (rst2 wv y) who i ≤ 1 := fun i => by
    unfold aH
    split
    · omega
    · split
      · omega
      · split <;> omega
  have hac : ∀ k, k ≤ 8 → sN (aH (rst2 wv y) who) k ≤ k * 1 := sN_le (fun i _ => hah i)
  have hz : ¬ LI (sN wv 8 : Nat) = 0 := fun e => by
    have := (LI_q (a := ((sN wv 8 : Nat) : Int)) (b := 0) (by omega) (by omega) (by omega) (by omega)).mp e
    omega
  intro m
  induction m with
  | zero =>
    intro k F hk hF
    obtain ⟨F, rfl⟩ : ∃ F2, F = F2 + 1 := ⟨F - 1, by omega⟩
    have : k = 8 := by omega
    subst this
    have hi : inb (nn who) 8 = true := by simp (disch := first | omega | decide) only [lt1, nnMl, nnMr, nnAl, nnAr, nnA, nnM, nnB, nnT, nnP, nnE, nnEl, nnEr, nnL, nnLl, nnLr, nnQ, nnQr, nnN, Nat.add_zero, if_false, if_true, Option.bind_some, not_true, not_false_iff, not_true_eq_false, not_false_eq_true, eq_self, Nat.not_lt_zero, z10, z01, or_true, true_or, or_false, false_or, true_and, false_and, hwho]
    have h1 := hfl 8 (Nat.le_refl _)
    have h2 := hac 8 (Nat.le_refl _)
    unfold m_duty_163
    rw [nnT (by omega), hsh]
    refine st_t (by decide) (st_t hi ?_)
    have key : Int32.ofInt ((y : Int) - (sN (flo wv y) 8 : Nat)) ≤ nn (sN (aH (rst2 wv y) who) 8) ↔ (y : Int) - (sN (flo wv y) 8 : Nat) ≤ (sN (aH (rst2 wv y) who) 8 : Nat) := by
      rw [← Int32.not_lt, nn_ofI, ofI_lt (by omega) (by omega) (by omega) (by omega)]
      omega
    by_cases q : (y : Int) - (sN (flo wv y) 8 : Nat) ≤ (sN (aH (rst2 wv y) who) 8 : Nat)
    · rw [if_pos q]
      refine st_t (key.mpr q) ?_
      rw [Int32.add_zero]
    · rw [if_neg q]
      exact st_f (fun e => q (key.mp e)) rfl
  | succ m ih =>
    intro k F hk hF
    obtain ⟨F, rfl⟩ : ∃ F2, F = F2 + 1 := ⟨F - 1, by omega⟩
    have hk8 : k < 8 := by omega
    have h3 : ¬ 8 ≤ k := by omega
    have hi : inb (nn k) 8 = true := by simp (disch := first | omega | decide) only [lt1, nnMl, nnMr, nnAl, nnAr, nnA, nnM, nnB, nnT, nnP, nnE, nnEl, nnEr, nnL, nnLl, nnLr, nnQ, nnQr, nnN, Nat.add_zero, if_false, if_true, Option.bind_some, not_true, not_false_iff, not_true_eq_false, not_false_eq_true, eq_self, Nat.not_lt_zero, z10, z01, or_true, true_or, or_false, false_or, true_and, false_and, hk8]
    have hr1 := hrs k
    have hr2 := hrs who
    have IH := ih (k + 1) F (by omega) (by omega)
    have eA : sN (aH (rst2 wv y) who) (k + 1) = sN (aH (rst2 wv y) who) k + aH (rst2 wv y) who k := rfl
    unfold m_duty_163
    rw [nnT (show k < 2147483648 by omega), hS k hk8, LI_n (show y < 2147483648 by omega), LI_n (show wv k < 2147483648 by have := hw k hk8; omega), yrem hy (hw k hk8) (by omega), show nn k + 1 = nn (k + 1) from nnA k 1, show y * wv k % sN wv 8 = rst2 wv y k from rfl, Int32.add_zero, Int32.add_zero]
    refine st_f (by simp (disch := first | omega | decide) only [lt1, nnMl, nnMr, nnAl, nnAr, nnA, nnM, nnB, nnT, nnP, nnE, nnEl, nnEr, nnL, nnLl, nnLr, nnQ, nnQr, nnN, Nat.add_zero, if_false, if_true, Option.bind_some, not_true, not_false_iff, not_true_eq_false, not_false_eq_true, eq_self, Nat.not_lt_zero, z10, z01, or_true, true_or, or_false, false_or, true_and, false_and, h3]) (st_t hi (st_f hz (st_l ?_)))
    by_cases q1 : rst2 wv y who < rst2 wv y k
    · have ea : aH (rst2 wv y) who k = 1 := if_pos q1
      rw [eA, ea] at IH
      refine st_t ((cmp_gt (by omega) (by omega) (by omega) (by omega)).mpr (by omega)) (st_l ?_)
      rw [show nn (sN (aH (rst2 wv y) who) k) + 1 = nn (sN (aH (rst2 wv y) who) k + 1) from nnA _ 1]
      exact IH
    refine st_f (fun e => q1 (by have := (cmp_gt (by omega) (by omega) (by omega) (by omega)).mp e; omega)) ?_
    by_cases q2 : rst2 wv y k = rst2 wv y who
    · refine st_f (fun e => e ((cmp_eq (by omega) (by omega) (by omega) (by omega)).mpr (by omega))) ?_
      by_cases q3 : who ≤ k
      · have ea : aH (rst2 wv y) who k = 0 := (if_neg q1).trans ((if_neg (fun e => e q2)).trans (if_pos q3))
        rw [eA, ea, Nat.add_zero] at IH
        exact st_t (by rw [nnE (by omega) (by omega)]; exact q3) (st_l IH)
      · have ea : aH (rst2 wv y) who k = 1 := (if_neg q1).trans ((if_neg (fun e => e q2)).trans (if_neg q3))
        rw [eA, ea] at IH
        refine st_f (by rw [nnE (by omega) (by omega)]; exact q3) (st_l ?_)
        rw [show nn (sN (aH (rst2 wv y) who) k) + 1 = nn (sN (aH (rst2 wv y) who) k + 1) from nnA _ 1]
        exact IH
    · have ea : aH (rst2 wv y) who k = 0 := (if_neg q1).trans (if_pos q2)
      rw [eA, ea, Nat.add_zero] at IH
      exact st_t (fun e => q2 (by have := (cmp_eq (by omega) (by omega) (by omega) (by omega)).mp e; omega)) (st_l IH)
theorem du95 (hw : ∀ i, i < 8 → wv i ≤ 159984) (hy : y ≤ 9999) (hwho : who < 8) (hpos : 0 < sN wv 8) {F0 : Nat} (hF0 : 10 < F0) : ∀ m k F (X : Sg), k + m = 8 → m < F → (∀ j, j < 8 → X 221 j = nn (wv j)) → (∀ j, j < k → X 222 j = nn (flo wv y j)) → ∃ X2, m_duty_95 F0 F (nn y) (nn who) (LI (sN wv 8 : Nat)) (Int32.ofInt ((y : Int) - (sN (flo wv y) k : Nat))) (nn k) X = some (dutA wv y who, X2) ∧ ∀ i, i ≠ 222 → X2 i = X i := by
  have hs8 : sN wv 8 ≤ 8 * 159984 := sN_le hw 8 (Nat.le_refl _)
  have hz : ¬ LI (sN wv 8 : Nat) = 0 := fun e => by
    have := (LI_q (a := ((sN wv 8 : Nat) : Int)) (b := 0) (by omega) (by omega) (by omega) (by omega)).mp e
    omega
  intro m
  induction m with
  | zero =>
    intro k F X hk hF h1 h2
    obtain ⟨F, rfl⟩ : ∃ F2, F = F2 + 1 := ⟨F - 1, by omega⟩
    have : k = 8 := by omega
    subst this
    have hi : inb (nn who) 8 = true := by simp (disch := first | omega | decide) only [lt1, nnMl, nnMr, nnAl, nnAr, nnA, nnM, nnB, nnT, nnP, nnE, nnEl, nnEr, nnL, nnLl, nnLr, nnQ, nnQr, nnN, Nat.add_zero, if_false, if_true, Option.bind_some, not_true, not_false_iff, not_true_eq_false, not_false_eq_true, eq_self, Nat.not_lt_zero, z10, z01, or_true, true_or, or_false, false_or, true_and, false_and, hwho]
    have e9 := du163 (X := X) h1 (h2 who hwho) hw hy hwho hpos 8 0 F0 (by omega) (by omega)
    refine ⟨X, ?_, fun _ _ => rfl⟩
    unfold m_duty_95
    rw [nnT (by omega), h1 who hwho, LI_n (show y < 2147483648 by omega), LI_n (show wv who < 2147483648 by have := hw who hwho; omega), yrem hy (hw who hwho) (by omega)]
    refine st_t (by decide) (st_t hi (st_f hz (st_l ?_)))
    rw [show dutA wv y who = _ from if_neg (by omega)]
    exact e9
  | succ m ih =>
    intro k F X hk hF h1 h2
    obtain ⟨F, rfl⟩ : ∃ F2, F = F2 + 1 := ⟨F - 1, by omega⟩
    have hk8 : k < 8 := by omega
    have h3 : ¬ 8 ≤ k := by omega
    have hi : inb (nn k) 8 = true := by simp (disch := first | omega | decide) only [lt1, nnMl, nnMr, nnAl, nnAr, nnA, nnM, nnB, nnT, nnP, nnE, nnEl, nnEr, nnL, nnLl, nnLr, nnQ, nnQr, nnN, Nat.add_zero, if_false, if_true, Option.bind_some, not_true, not_false_iff, not_true_eq_false, not_false_eq_true, eq_self, Nat.not_lt_zero, z10, z01, or_true, true_or, or_false, false_or, true_and, false_and, hk8]
    have hf := flo_le (y := y) hw hk8
    obtain ⟨X2, r1, r2⟩ := ih (k + 1) F (up2 X 222 k (nn (flo wv y k))) (by omega) (by omega) (fun j hj => by rw [u2n (by decide)]; exact h1 j hj) (fun j hj => by
      rw [u2e]
      by_cases e : j = k
      · rw [e, up1_eq]
      · rw [up1_ne e]; exact h2 j (by omega))
    refine ⟨X2, ?_, fun i e => (r2 i e).trans (u2n e)⟩
    unfold m_duty_95
    rw [nnT (show k < 2147483648 by omega), h1 k hk8, LI_n (show y < 2147483648 by omega), LI_n (show wv k < 2147483648 by have := hw k hk8; omega), ydiv hy (hw k hk8) (by omega), show y * wv k / sN wv 8 = flo wv y k from rfl, LI_32 (by omega), show nn k + 1 = nn (k + 1) from nnA k 1]
    refine st_f (by simp (disch := first | omega | decide) only [lt1, nnMl, nnMr, nnAl, nnAr, nnA, nnM, nnB, nnT, nnP, nnE, nnEl, nnEr, nnL, nnLl, nnLr, nnQ, nnQr, nnN, Nat.add_zero, if_false, if_true, Option.bind_some, not_true, not_false_iff, not_true_eq_false, not_false_eq_true, eq_self, Nat.not_lt_zero, z10, z01, or_true, true_or, or_false, false_or, true_and, false_and, h3]) (st_t hi (st_f hz (st_w hi (st_t hi (st_l ?_)))))
    have e5 : Int32.ofInt ((y : Int) - (sN (flo wv y) k : Nat)) - nn (flo wv y k) = Int32.ofInt ((y : Int) - (sN (flo wv y) k : Nat) - (flo wv y k : Nat)) := by
      rw [nn_ofI (flo wv y k)]
      exact (Int32.ofInt_sub _ _).symm
    rw [u2e, up1_eq, e5]
    have e : (y : Int) - (sN (flo wv y) k : Nat) - (flo wv y k : Nat) = (y : Int) - (sN (flo wv y) (k + 1) : Nat) := by
      show _ = (y : Int) - ((sN (flo wv y) k + flo wv y k : Nat) : Int)
      omega
    rw [e]
    exact r1
theorem du39 {c : Sg} {N C Q D T L W : Nat} {fv : Nat → Int32} {A : Nat → Int32} (hM : RNet c A N C Q) (r : RRig c A D N Q) (hl : RLaw c A T L) (hW : W < 100) (hfv : ∀ k, k < 8 → farP c N C Q k (fv k)) (hwv : ∀ j, j < 8 → (jg c (FVh c D Q W fv j) L 0 0 0).1 = nn (wv j)) (hw : ∀ i, i < 8 → wv i ≤ 159984) (hy : y ≤ 9999) (hwho : who < 8) {F0 : Nat} (hF0 : 2400 < F0) : ∀ m k F (X : Sg), k + m = 8 → m < F → X 216 = A → (∀ j, j < k → X 221 j = nn (wv j)) → ∃ X2, m_duty_39 F0 F (nn y) (nn W) (nn who) (LI (sN wv k : Nat)) (nn k) X = some (dutA wv y who, X2) ∧ ∀ i, i ≠ 215 → i ≠ 218 → i ≠ 221 → i ≠ 222 → X2 i = X i := by
  have hs8 : ∀ k, k ≤ 8 → sN wv k ≤ k * 159984 := sN_le hw
  intro m
  induction m with
  | zero =>
    intro k F X hk hF hX h1
    obtain ⟨F, rfl⟩ : ∃ F2, F = F2 + 1 := ⟨F - 1, by omega⟩
    have : k = 8 := by omega
    subst this
    have h8 := hs8 8 (Nat.le_refl _)
    by_cases q : sN wv 8 = 0
    · refine ⟨X, ?_, fun _ _ _ _ _ => rfl⟩
      unfold m_duty_39
      rw [show dutA wv y who = 0 from if_pos q, q]
      exact st_t (by decide) (st_f (fun e => e (by decide)) rfl)
    · obtain ⟨X2, r1, r2⟩ := du95 hw hy hwho (show 0 < sN wv 8 by omega) (F0 := F0) (by omega) 8 0 F0 X (by omega) (by omega) h1 (fun j hj => absurd hj (by omega))
      refine ⟨X2, ?_, fun i _ _ _ e => r2 i e⟩
      unfold m_duty_39
      refine st_t (by decide) (st_t (fun e => q (by have := (cmp_eq (a := ((sN wv 8 : Nat) : Int)) (b := 0) (by omega) (by omega) (by omega) (by omega)).mp e; omega)) ?_)
      rw [show ((y : Int) - ((sN (flo wv y) 0 : Nat) : Int)) = (y : Int) by show (y : Int) - ((0 : Nat) : Int) = y; omega] at r1
      exact r1
  | succ m ih =>
    intro k F X hk hF hX h1
    obtain ⟨F, rfl⟩ : ∃ F2, F = F2 + 1 := ⟨F - 1, by omega⟩
    have hk8 : k < 8 := by omega
    have h3 : ¬ 8 ≤ k := by omega
    obtain ⟨M2, w1, w2, w3, w4, w5, w6, w7⟩ := weighs_m (c := c) (M := X) (by rw [hX]; exact hM) (by rw [hX]; exact r) (by rw [hX]; exact hl) hk8 hW (fv := fv) (hfv k hk8) hF0
    rw [hwv k hk8] at w5
    obtain ⟨X2, r1, r2⟩ := ih (k + 1) F (up2 M2 221 k (nn (wv k))) (by omega) (by omega) (by rw [u2n (by decide), w7 216 (by decide) (by decide)]; exact hX) (fun j hj => by
      rw [u2e]
      by_cases e : j = k
      · rw [e, up1_eq]
      · rw [up1_ne e, w7 221 (by decide) (by decide)]; exact h1 j (by omega))
    refine ⟨X2, ?_, fun i e1 e2 e3 e4 => by rw [r2 i e1 e2 e3 e4, u2n e3, w7 i e1 e2]⟩
    unfold m_duty_39
    rw [nnT (by omega), show nn k + 1 = nn (k + 1) from nnA k 1]
    refine st_f (by simp (disch := first | omega | decide) only [lt1, nnMl, nnMr, nnAl, nnAr, nnA, nnM, nnB, nnT, nnP, nnE, nnEl, nnEr, nnL, nnLl, nnLr, nnQ, nnQr, nnN, Nat.add_zero, if_false, if_true, Option.bind_some, not_true, not_false_iff, not_true_eq_false, not_false_eq_true, eq_self, Nat.not_lt_zero, z10, z01, or_true, true_or, or_false, false_or, true_and, false_and, h3]) (st_b w1 (st_w (by simp (disch := first | omega | decide) only [lt1, nnMl, nnMr, nnAl, nnAr, nnA, nnM, nnB, nnT, nnP, nnE, nnEl, nnEr, nnL, nnLl, nnLr, nnQ, nnQr, nnN, Nat.add_zero, if_false, if_true, Option.bind_some, not_true, not_false_iff, not_true_eq_false, not_false_eq_true, eq_self, Nat.not_lt_zero, z10, z01, or_true, true_or, or_false, false_or, true_and, false_and, hk8]) (st_l ?_)))
    rw [u2n (show 215 ≠ 221 by decide), w5, LI_n (show wv k < 2147483648 by have := hw k hk8; omega), LI_a, ← Int.natCast_add]
    exact r1
end WQ
section SW
theorem sim_duty {TS : Sg → Prop} (hT : TSf TS) : Sim_duty (RR TS) := by
  intro v1 v2 v3 g hR
  obtain ⟨N, C, Q, D, T, L, G, h⟩ := hR.now
  have hQ := h.net.hQ
  rcases chk v1 9999 9999 rfl (by decide) with ⟨y, hy, rfl, x1, m1⟩ | ⟨x1, m1⟩
  rotate_left
  · refine ⟨0, 0, -1, g, g, ?_, ?_, hR⟩
    · unfold x_duty
      exact st_b (x1 g) (st_t rfl rfl)
    · unfold m_duty
      exact st_b (m1 g) (st_t rfl rfl)
  rcases chk v2 99 99 rfl (by decide) with ⟨W, hW, rfl, x2, m2⟩ | ⟨x2, m2⟩
  rotate_left
  · refine ⟨0, 0, -1, g, g, ?_, ?_, hR⟩
    · unfold x_duty
      exact st_b (x1 g) (st_f (by decide) (st_b (week_of (Or.inl rfl) x2) (st_t rfl rfl)))
    · unfold m_duty
      exact st_b (m1 g) (st_f (by decide) (st_b (m2 g) (st_t rfl rfl)))
  rcases chk v3 7 7 rfl (by decide) with ⟨n, hn, rfl, x3, m3⟩ | ⟨x3, m3⟩
  rotate_left
  · refine ⟨0, 0, -1, g, g, ?_, ?_, hR⟩
    · unfold x_duty
      exact st_b (x1 g) (st_f (by decide) (st_b (week_of (Or.inr rfl) x2) (st_f (by decide) (st_b (holder_of (Or.inl rfl) x3) (st_f (by decide) rfl)))))
    · unfold m_duty
      exact st_b (m1 g) (st_f (by decide) (st_b (m2 g) (st_f (by decide) (st_b (m3 g) (st_f (by decide) rfl)))))
  have hn8 : n < 8 := by omega
  have hW100 : W < 100 := by omega
  obtain ⟨fv, hfv⟩ := Classical.axiomOfChoice (fun k => (by
    by_cases e : k < 8
    · obtain ⟨v, hv⟩ := far_ex h.net h.rig e
      exact ⟨v, fun _ => hv⟩
    · exact ⟨0, fun e2 => absurd e2 e⟩ : ∃ v, k < 8 → farP g N C Q k v))
  obtain ⟨wv, hwv⟩ := Classical.axiomOfChoice (fun j => jgW (FV := FVh g D Q W fv j) h.law L 0 0 0 0 (by omega) rfl (by omega))
  obtain ⟨S, s1, ⟨s2, s3, s4, s5⟩, s6⟩ := reckon_y (s := g) h.law h.rig hQ (fun _ _ _ => rfl) hW100 hfv (F := 2401) (by decide)
  have e216 : S 216 = g 216 := s6 216 (by omega) (by omega)
  obtain ⟨X2, r1, r2⟩ := du39 h.net h.rig h.law hW100 hfv (fun j _ => (hwv j).1) (fun i _ => (hwv i).2) hy hn8 (F0 := 2401) (by decide) 8 0 2401 S (by omega) (by omega) e216 (fun j hj => absurd hj (by omega))
  refine ⟨2401, 2401, dutA wv y n, S, X2, ?_, ?_, ?_⟩
  · unfold x_duty
    refine st_b (x1 g) (st_f (by decide) (st_b (week_of (Or.inr rfl) x2) (st_f (by decide) (st_b (holder_of (Or.inr rfl) x3) (st_t (by decide) (st_b s1 (st_b (x := dutA wv y n) ?_ rfl)))))))
    unfold reckoning_shareOf
    exact sh5 (fun j hj => (s5 j hj).2.1.trans (hwv j).1) (fun i _ => (hwv i).2) hy hn8 (by decide) 8 0 2401 (by omega) (by omega)
  · unfold m_duty
    exact st_b (m1 S) (st_f (by decide) (st_b (m2 S) (st_f (by decide) (st_b (m3 S) (st_t (by decide) r1)))))
  · exact RR.scr hT hR (fun i e1 e2 => by
      rw [r2 i (by omega) (by omega) (by omega) (by omega)]
      by_cases e : i ≤ 46
      · exact s2 i e1 e
      · exact s6 i (by omega) (by omega)) (fun i e1 e2 => by rw [r2 i (by omega) (by omega) (by omega) (by omega)]; exact s6 i (by omega) (by omega)) (by rw [r2 216 (by decide) (by decide) (by decide) (by decide)]; exact e216) (by rw [r2 217 (by decide) (by decide) (by decide) (by decide)]; exact s6 217 (by omega) (by omega))
end SW
end
