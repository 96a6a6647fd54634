/-! ways: what both sides look for -/
abbrev cn (c : Sg) (i j : Nat) : Nat := Int32.toNatClampNeg (c i j)
abbrev Tb : Type := Nat → Option Nat × Nat
def bst (c : Sg) (V : Nat → Nat) (t v : Nat) : Nat → Option Nat × Nat
  | 0 => (none, 1000000)
  | j + 1 => if c 9 j = nn v ∧ c 15 j = 0 ∧ cn c 10 j ≤ t ∧ V (cn c 10 j) < 1000000 ∧ 100 * cn c 13 j + 1 + V (cn c 10 j) < (bst c V t v j).2 then (some j, 100 * cn c 13 j + 1 + V (cn c 10 j)) else bst c V t v j
def upT (T : Tb) (v : Nat) (p : Option Nat × Nat) : Tb := fun u => if u = v then p else T u
theorem upT_e {T : Tb} {v : Nat} {p : Option Nat × Nat} : upT T v p v = p := if_pos rfl
theorem upT_n {T : Tb} {v u : Nat} {p : Option Nat × Nat} (h : u ≠ v) : upT T v p u = T u := if_neg h
def tab (c : Sg) (C t : Nat) : Nat → Tb
  | 0 => fun u => (none, if u = t then 0 else 1000000)
  | k + 1 => upT (tab c C t k) (t - (k + 1)) (bst c (fun u => (tab c C t k u).2) t (t - (k + 1)) C)
/-- values that can be split -/
def okV (V : Nat → Nat) (t : Nat) : Prop := ∀ w, (V w < 1000000 → V w % 100 + w ≤ t ∧ V w / 100 ≤ 8 * (V w % 100)) ∧ V w ≤ 1000000
theorem okV.le {V : Nat → Nat} {t : Nat} (h : okV V t) {w : Nat} (hw : t < w) : V w = 1000000 := by
  have := h w
  by_cases e : V w < 1000000
  · have := this.1 e
    omega
  · omega
theorem split_v (l m : Nat) (h : m % 100 + 1 < 100) : (100 * l + 1 + m) % 100 = m % 100 + 1 ∧ (100 * l + 1 + m) / 100 = l + m / 100 := by omega
section WA
variable {c g : Sg} {N C Q : Nat}
theorem chan_v (h : RNet c (g 216) N C Q) {j : Nat} (hj : j < C) : c 9 j = nn (cn c 9 j) ∧ c 10 j = nn (cn c 10 j) ∧ c 13 j = nn (cn c 13 j) ∧ cn c 9 j < cn c 10 j ∧ cn c 10 j < N ∧ cn c 13 j ≤ 8 := by
  obtain ⟨f, t, h1, h2, h3, h4⟩ := h.ends j hj
  obtain ⟨v, h5, h6⟩ := h.trvV j hj
  have hN := h.hN
  unfold cn
  rw [h3, h4, h6, nnT (by omega), nnT (by omega), nnT (by omega)]
  exact ⟨rfl, rfl, rfl, h1, h2, h5⟩
def chOk (c : Sg) (V : Nat → Nat) (v i : Nat) : Prop := c 9 i = nn v ∧ c 15 i = 0
theorem bst_p (h : RNet c (g 216) N C Q) {V : Nat → Nat} {t v : Nat} (ht : t < 10) (hv : v < t) (hV : okV V t) : ∀ j, j ≤ C → ((bst c V t v j).1 = none ∧ (bst c V t v j).2 = 1000000 ∨ ∃ i, i < j ∧ (bst c V t v j).1 = some i ∧ c 9 i = nn v ∧ c 15 i = 0 ∧ cn c 10 i ≤ t ∧ V (cn c 10 i) < 1000000 ∧ (bst c V t v j).2 = 100 * cn c 13 i + 1 + V (cn c 10 i) ∧ (bst c V t v j).2 < 1000000 ∧ (bst c V t v j).2 % 100 + v ≤ t ∧ (bst c V t v j).2 / 100 ≤ 8 * ((bst c V t v j).2 % 100) ∧ (∀ i2, i2 < i → c 9 i2 = nn v → c 15 i2 = 0 → (bst c V t v j).2 < 100 * cn c 13 i2 + 1 + V (cn c 10 i2))) ∧ (∀ i2, i2 < j → c 9 i2 = nn v → c 15 i2 = 0 → (bst c V t v j).2 ≤ 100 * cn c 13 i2 + 1 + V (cn c 10 i2)) := by
  intro j
  induction j with
  | zero => exact fun _ => ⟨Or.inl ⟨rfl, rfl⟩, fun i2 h2 => absurd h2 (Nat.not_lt_zero _)⟩
  | succ j ih =>
    intro hj
    obtain ⟨ih1, ih2⟩ := ih (by omega)
    obtain ⟨v1, v2, v3, v4, v5, v6⟩ := chan_v h (show j < C by omega)
    by_cases q : c 9 j = nn v ∧ c 15 j = 0 ∧ cn c 10 j ≤ t ∧ V (cn c 10 j) < 1000000 ∧ 100 * cn c 13 j + 1 + V (cn c 10 j) < (bst c V t v j).2
    · have e : bst c V t v (j + 1) = (some j, 100 * cn c 13 j + 1 + V (cn c 10 j)) := if_pos q
      rw [e]
      obtain ⟨q1, q2, q3, q4, q5⟩ := q
      have hle : (bst c V t v j).2 ≤ 1000000 := by
        rcases ih1 with e | ⟨i, _, _, _, _, _, _, _, e, _⟩ <;> omega
      have hw := (hV (cn c 10 j)).1 q4
      have e9 : cn c 9 j = v := by
        have := q1.symm.trans v1
        rw [nnQ (by omega) (by omega)] at this
        exact this.symm
      refine ⟨Or.inr ⟨j, Nat.lt_succ_self _, rfl, q1, q2, q3, q4, rfl, ?_, ?_, ?_, ?_⟩, ?_⟩
      · show 100 * cn c 13 j + 1 + V (cn c 10 j) < 1000000
        omega
      · show (100 * cn c 13 j + 1 + V (cn c 10 j)) % 100 + v ≤ t
        omega
      · show (100 * cn c 13 j + 1 + V (cn c 10 j)) / 100 ≤ 8 * ((100 * cn c 13 j + 1 + V (cn c 10 j)) % 100)
        have := split_v (cn c 13 j) (V (cn c 10 j)) (by omega)
        rw [this.1, this.2]
        omega
      · intro i2 h2 p1 p2
        exact Nat.lt_of_lt_of_le q5 (ih2 i2 h2 p1 p2)
      · intro i2 h2 p1 p2
        by_cases e2 : i2 = j
        · subst e2; exact Nat.le_refl _
        · exact Nat.le_of_lt (Nat.lt_of_lt_of_le q5 (ih2 i2 (by omega) p1 p2))
    · have e : bst c V t v (j + 1) = bst c V t v j := if_neg q
      rw [e]
      refine ⟨?_, ?_⟩
      · rcases ih1 with e | ⟨i, r1, r2, r3, r4, r5⟩
        · exact Or.inl e
        · exact Or.inr ⟨i, by omega, r2, r3, r4, r5⟩
      · intro i2 h2 p1 p2
        by_cases e2 : i2 = j
        · subst e2
          have hle : (bst c V t v i2).2 ≤ 1000000 := by
            rcases ih1 with e | ⟨i, _, _, _, _, _, _, _, e, _⟩ <;> omega
          by_cases q3 : cn c 10 i2 ≤ t ∧ V (cn c 10 i2) < 1000000
          · exact Nat.not_lt.mp (fun q4 => q ⟨p1, p2, q3.1, q3.2, q4⟩)
          · have : 1000000 ≤ V (cn c 10 i2) := by
              by_cases q5 : cn c 10 i2 ≤ t
              · exact Nat.not_lt.mp (fun q6 => q3 ⟨q5, q6⟩)
              · rw [hV.le (by omega)]
                exact Nat.le_refl _
            omega
        · exact ih2 i2 (by omega) p1 p2
/-- a table as far as it has come: nothing known of t and beyond, nor before v0 -/
def okT (T : Tb) (t v0 : Nat) : Prop := okV (fun u => (T u).2) t ∧ (∀ u, (u < v0 ∨ t ≤ u) → (T u).1 = none) ∧ (T t).2 = 0 ∧ (∀ u, u ≠ t → ((T u).1 = none ↔ (T u).2 = 1000000)) ∧ (∀ u, u < v0 → (T u).2 = 1000000) ∧ ∀ u i, (T u).1 = some i → i < 14
theorem tab_ok (h : RNet c (g 216) N C Q) {t : Nat} (ht : t < 10) : ∀ k, k ≤ t → okT (tab c C t k) t (t - k) := by
  intro k
  induction k with
  | zero =>
    intro _
    refine ⟨fun w => ?_, fun u _ => rfl, if_pos rfl, fun u hu => ?_, fun u hu => if_neg (by omega), fun u i e => by cases e⟩
    · show ((if w = t then 0 else 1000000) < 1000000 → (if w = t then 0 else 1000000) % 100 + w ≤ t ∧ (if w = t then 0 else 1000000) / 100 ≤ 8 * ((if w = t then 0 else 1000000) % 100)) ∧ (if w = t then 0 else 1000000) ≤ 1000000
      split <;> omega
    · show (none = none ↔ (if u = t then 0 else 1000000) = 1000000)
      rw [if_neg hu]
      exact ⟨fun _ => rfl, fun _ => rfl⟩
  | succ k ih =>
    intro hk
    obtain ⟨i1, i2, i3, i4, i5, i6⟩ := ih (by omega)
    have hC := h.hC
    obtain ⟨b1, b2⟩ := bst_p h ht (v := t - (k + 1)) (by omega) i1 C (Nat.le_refl _)
    have en : ∀ u, u ≠ t - (k + 1) → tab c C t (k + 1) u = tab c C t k u := fun u hu => upT_n hu
    have ee : tab c C t (k + 1) (t - (k + 1)) = bst c (fun u => (tab c C t k u).2) t (t - (k + 1)) C := upT_e
    refine ⟨fun w => ?_, fun u hu => ?_, ?_, fun u hu => ?_, fun u hu => ?_, fun u i e9 => ?_⟩
    · show ((tab c C t (k + 1) w).2 < 1000000 → (tab c C t (k + 1) w).2 % 100 + w ≤ t ∧ (tab c C t (k + 1) w).2 / 100 ≤ 8 * ((tab c C t (k + 1) w).2 % 100)) ∧ (tab c C t (k + 1) w).2 ≤ 1000000
      by_cases e : w = t - (k + 1)
      · rw [e, ee]
        rcases b1 with ⟨_, e2⟩ | ⟨i, _, _, _, _, _, _, _, e2, e3, e4, _⟩
        · rw [e2]; omega
        · exact ⟨fun _ => ⟨e3, e4⟩, by omega⟩
      · rw [en w e]; exact i1 w
    · rw [en u (by omega)]; exact i2 u (by omega)
    · rw [en t (by omega)]; exact i3
    · by_cases e : u = t - (k + 1)
      · rw [e, ee]
        rcases b1 with ⟨e1, e2⟩ | ⟨i, _, e1, _, _, _, _, _, e2, _⟩
        · exact ⟨fun _ => e2, fun _ => e1⟩
        · exact ⟨fun e => (by rw [e1] at e; cases e), fun e => (by omega)⟩
      · rw [en u e]; exact i4 u hu
    · rw [en u (by omega)]; exact i5 u (by omega)
    · by_cases e : u = t - (k + 1)
      · rw [e, ee] at e9
        rcases b1 with ⟨e1, e2⟩ | ⟨i2, h2, e1, _⟩
        · rw [e1] at e9; cases e9
        · rw [e1] at e9; cases e9; omega
      · rw [en u e] at e9; exact i6 u i e9
theorem tab_st {t : Nat} : ∀ m k, k + m ≤ t → ∀ u, t - k ≤ u → tab c C t (k + m) u = tab c C t k u := by
  intro m
  induction m with
  | zero => intro k _ u _; rfl
  | succ m ih =>
    intro k hk u hu
    rw [show k + (m + 1) = (k + m) + 1 by omega]
    exact (upT_n (by omega)).trans (ih k (by omega) u hu)
/-- the whole table, and how it holds together -/
theorem tab_y (h : RNet c (g 216) N C Q) {t v : Nat} (ht : t < 10) (hv : v < t) (hr : (tab c C t t v).2 < 1000000) : ∃ i, i < C ∧ (tab c C t t v).1 = some i ∧ c 9 i = nn v ∧ c 15 i = 0 ∧ cn c 10 i ≤ t ∧ v < cn c 10 i ∧ (tab c C t t (cn c 10 i)).2 < 1000000 ∧ (tab c C t t v).2 = 100 * cn c 13 i + 1 + (tab c C t t (cn c 10 i)).2 ∧ ∀ i2, i2 < i → c 9 i2 = nn v → c 15 i2 = 0 → (tab c C t t v).2 < 100 * cn c 13 i2 + 1 + (tab c C t t (cn c 10 i2)).2 := by
  have hN := h.hN
  have e0 : tab c C t t v = tab c C t (t - v) v := by
    have := tab_st (c := c) (C := C) (t := t) v (t - v) (by omega) v (by omega)
    rwa [show t - v + v = t by omega] at this
  have e1 : tab c C t (t - v) v = bst c (fun u => (tab c C t (t - v - 1) u).2) t v C := by
    have : tab c C t (t - v - 1 + 1) (t - (t - v - 1 + 1)) = bst c (fun u => (tab c C t (t - v - 1) u).2) t (t - (t - v - 1 + 1)) C := upT_e
    rwa [show t - v - 1 + 1 = t - v by omega, show t - (t - v) = v by omega] at this
  have e2 : ∀ u, v < u → tab c C t (t - v - 1) u = tab c C t t u := fun u hu => by
    have := tab_st (c := c) (C := C) (t := t) (v + 1) (t - v - 1) (by omega) u (by omega)
    rw [show t - v - 1 + (v + 1) = t by omega] at this
    exact this.symm
  rw [e0, e1] at hr
  obtain ⟨b1, b2⟩ := bst_p h ht hv (tab_ok h ht (t - v - 1) (by omega)).1 C (Nat.le_refl _)
  rw [e0, e1]
  rcases b1 with ⟨_, e⟩ | ⟨i, r1, r2, r3, r4, r5, r6, r7, r8, r9, r10, r11⟩
  · omega
  · have hgt : ∀ i, i < C → c 9 i = nn v → v < cn c 10 i := fun i hi e => by
      obtain ⟨v1, v2, v3, v4, v5, v6⟩ := chan_v h hi
      have := e.symm.trans v1
      rw [nnQ (by omega) (by omega)] at this
      omega
    refine ⟨i, r1, r2, r3, r4, r5, hgt i r1 r3, ?_, ?_, fun i2 p1 p2 p3 => ?_⟩
    · rw [← e2 _ (hgt i r1 r3)]; exact r6
    · rw [← e2 _ (hgt i r1 r3)]; exact r7
    · rw [← e2 _ (hgt i2 (by omega) p2)]; exact r11 i2 p1 p2 p3
end WA
/-- the class's three rows -/
def ss (s : Sg) (a b d : Nat → Int32) : Sg := sc (sc (sc s 188 a) 189 b) 190 d
theorem ss_o {s : Sg} {a b d : Nat → Int32} {i : Nat} (h1 : i ≠ 188) (h2 : i ≠ 189) (h3 : i ≠ 190) : ss s a b d i = s i := by
  unfold ss; rw [sc_n h3, sc_n h2, sc_n h1]
theorem ss_a {s : Sg} {a b d : Nat → Int32} : ss s a b d 188 = a := by
  unfold ss; rw [sc_n (by decide), sc_n (by decide), sc_e]
theorem ss_b {s : Sg} {a b d : Nat → Int32} : ss s a b d 189 = b := by
  unfold ss; rw [sc_n (by decide), sc_e]
theorem ss_d {s : Sg} {a b d : Nat → Int32} : ss s a b d 190 = d := by
  unfold ss; rw [sc_e]
theorem ss_ua {s : Sg} {a b d : Nat → Int32} {i : Nat} {v : Int32} : up2 (ss s a b d) 188 i v = ss s (up1 a i v) b d := by
  unfold ss
  rw [sc_c (g := sc s 188 a) (a := 189) (b := 190) (by decide), sc_c (g := s) (a := 188) (b := 190) (by decide), sc_c (g := sc s 190 d) (a := 188) (b := 189) (by decide), sc_u, sc_c (g := sc s 190 d) (a := 189) (b := 188) (by decide), sc_c (g := s) (a := 190) (b := 188) (by decide), sc_c (g := sc s 188 (up1 a i v)) (a := 190) (b := 189) (by decide)]
theorem ss_ub {s : Sg} {a b d : Nat → Int32} {i : Nat} {v : Int32} : up2 (ss s a b d) 189 i v = ss s a (up1 b i v) d := by
  unfold ss
  rw [sc_c (g := sc s 188 a) (a := 189) (b := 190) (by decide), sc_u, sc_c (g := sc s 188 a) (a := 190) (b := 189) (by decide)]
theorem ss_ud {s : Sg} {a b d : Nat → Int32} {i : Nat} {v : Int32} : up2 (ss s a b d) 190 i v = ss s a b (up1 d i v) := by
  unfold ss; rw [sc_u]
theorem ss_s {s : Sg} : ss s (s 188) (s 189) (s 190) = s := by
  unfold ss
  rw [sc_s, sc_s, sc_s]
theorem ss_k {s : Sg} {a b d : Nat → Int32} : sc (ss s a b d) 190 = fun f => ss s a b f := by
  funext f
  unfold ss
  rw [sc_k]
/-- the rows say what the table says -/
def CR (a b d : Nat → Int32) (T : Tb) : Prop := ∀ u, u < 10 → d u = oN (T u).1 ∧ ((T u).2 < 1000000 → a u = nn ((T u).2 / 100) ∧ b u = nn ((T u).2 % 100))
section WB
variable {c g s : Sg} {N C Q : Nat}
theorem reach_y {t w : Nat} {a b d : Nat → Int32} {T : Tb} (hs : s 187 3 = nn t) (hw : w < 10) (ht : t < 10) (hT : ∀ u, u ≠ t → ((T u).1 = none ↔ (T u).2 = 1000000)) (h14 : ∀ u i, (T u).1 = some i → i < 14) (hR : CR a b d T) (h : (T w).2 < 1000000) : ways_reaches (nn w) (ss s a b d) = some 1 := by
  unfold ways_reaches
  rw [ss_o (by decide) (by decide) (by decide), hs, ss_d, nnT (by omega)]
  by_cases e : w = t
  · exact st_t (by rw [e]) rfl
  · refine st_f (nnNe (by omega) (by omega) e) (st_b (wthK_y (K := 9) rfl (by decide) (by omega)) (st_f (by decide) (st_t (by simp (disch := first | omega | decide) only [lt1, nnMl, nnMr, nnAl, nnAr, nnA, nnM, nnB, nnT, nnP, nnE, nnEl, nnEr, nnL, nnLl, nnLr, nnQ, nnQr, nnN, Nat.add_zero, if_false, if_true, Option.bind_some, not_true, not_false_iff, not_true_eq_false, not_false_eq_true, eq_self, Nat.not_lt_zero, z10, z01, or_true, true_or, or_false, false_or, true_and, false_and, hw]) ?_)))
    rw [(hR w hw).1]
    cases hb : (T w).1 with
    | none =>
      have := (hT w e).mp hb
      omega
    | some i =>
      have := h14 w i hb
      exact st_f (show ¬ nn i = -1 from fun e => nnN1 (by omega) e.symm) rfl
theorem reach_n {t w : Nat} {a b d : Nat → Int32} {T : Tb} (hs : s 187 3 = nn t) (hw : w < 10) (ht : t < 10) (h0 : (T t).2 = 0) (hT : ∀ u, u ≠ t → ((T u).1 = none ↔ (T u).2 = 1000000)) (hR : CR a b d T) (hle : (T w).2 ≤ 1000000) (h : ¬ (T w).2 < 1000000) : ways_reaches (nn w) (ss s a b d) = some 0 := by
  unfold ways_reaches
  rw [ss_o (by decide) (by decide) (by decide), hs, ss_d, nnT (by omega)]
  have e : w ≠ t := fun e => by rw [e, h0] at h; omega
  refine st_f (nnNe (by omega) (by omega) e) (st_b (wthK_y (K := 9) rfl (by decide) (by omega)) (st_f (by decide) (st_t (by simp (disch := first | omega | decide) only [lt1, nnMl, nnMr, nnAl, nnAr, nnA, nnM, nnB, nnT, nnP, nnE, nnEl, nnEr, nnL, nnLl, nnLr, nnQ, nnQr, nnN, Nat.add_zero, if_false, if_true, Option.bind_some, not_true, not_false_iff, not_true_eq_false, not_false_eq_true, eq_self, Nat.not_lt_zero, z10, z01, or_true, true_or, or_false, false_or, true_and, false_and, hw]) ?_)))
  rw [(hR w hw).1, (hT w e).mpr (by omega)]
  exact st_t rfl rfl
theorem fN115y {K : Int32 → Int32 → Sg → Option Sg} {v j : Nat} {x y s0 : Int32} {a b d : Nat → Int32} (hv : v < 10) (h : d v = -1 ∨ ¬ s0 = 0) : ways_findNext_115 K (nn v) (nn j) x y s0 (ss s a b d) = K (nn v) (nn (j + 1)) (ss s (up1 a v x) (up1 b v y) (up1 d v (nn j))) := by
  have e : ways_findNext_132 K (nn v) (nn j) x y (ss s a b d) = K (nn v) (nn (j + 1)) (ss s (up1 a v x) (up1 b v y) (up1 d v (nn j))) := by
    unfold ways_findNext_132
    rw [nnT (by omega), show nn j + 1 = nn (j + 1) from nnA j 1]
    refine st_w (by simp (disch := first | omega | decide) only [lt1, nnMl, nnMr, nnAl, nnAr, nnA, nnM, nnB, nnT, nnP, nnE, nnEl, nnEr, nnL, nnLl, nnLr, nnQ, nnQr, nnN, Nat.add_zero, if_false, if_true, Option.bind_some, not_true, not_false_iff, not_true_eq_false, not_false_eq_true, eq_self, Nat.not_lt_zero, z10, z01, or_true, true_or, or_false, false_or, true_and, false_and, hv]) (st_w (by simp (disch := first | omega | decide) only [lt1, nnMl, nnMr, nnAl, nnAr, nnA, nnM, nnB, nnT, nnP, nnE, nnEl, nnEr, nnL, nnLl, nnLr, nnQ, nnQr, nnN, Nat.add_zero, if_false, if_true, Option.bind_some, not_true, not_false_iff, not_true_eq_false, not_false_eq_true, eq_self, Nat.not_lt_zero, z10, z01, or_true, true_or, or_false, false_or, true_and, false_and, hv]) (st_w (by simp (disch := first | omega | decide) only [lt1, nnMl, nnMr, nnAl, nnAr, nnA, nnM, nnB, nnT, nnP, nnE, nnEl, nnEr, nnL, nnLl, nnLr, nnQ, nnQr, nnN, Nat.add_zero, if_false, if_true, Option.bind_some, not_true, not_false_iff, not_true_eq_false, not_false_eq_true, eq_self, Nat.not_lt_zero, z10, z01, or_true, true_or, or_false, false_or, true_and, false_and, hv]) ?_))
    rw [ss_ud, ss_ua, ss_ub]
  unfold ways_findNext_115
  rw [nnT (by omega), ss_d, e]
  refine st_t (by simp (disch := first | omega | decide) only [lt1, nnMl, nnMr, nnAl, nnAr, nnA, nnM, nnB, nnT, nnP, nnE, nnEl, nnEr, nnL, nnLl, nnLr, nnQ, nnQr, nnN, Nat.add_zero, if_false, if_true, Option.bind_some, not_true, not_false_iff, not_true_eq_false, not_false_eq_true, eq_self, Nat.not_lt_zero, z10, z01, or_true, true_or, or_false, false_or, true_and, false_and, hv]) ?_
  by_cases q : d v = -1
  · exact st_t q rfl
  · exact st_f q (st_f (h.resolve_left q) rfl)
theorem fN115n {K : Int32 → Int32 → Sg → Option Sg} {v j : Nat} {x y : Int32} {a b d : Nat → Int32} (hv : v < 10) (h : ¬ d v = -1) : ways_findNext_115 K (nn v) (nn j) x y 0 (ss s a b d) = K (nn v) (nn (j + 1)) (ss s a b d) := by
  unfold ways_findNext_115
  rw [nnT (by omega), ss_d, show nn j + 1 = nn (j + 1) from nnA j 1]
  exact st_t (by simp (disch := first | omega | decide) only [lt1, nnMl, nnMr, nnAl, nnAr, nnA, nnM, nnB, nnT, nnP, nnE, nnEl, nnEr, nnL, nnLl, nnLr, nnQ, nnQr, nnN, Nat.add_zero, if_false, if_true, Option.bind_some, not_true, not_false_iff, not_true_eq_false, not_false_eq_true, eq_self, Nat.not_lt_zero, z10, z01, or_true, true_or, or_false, false_or, true_and, false_and, hv]) (st_f h (st_t rfl rfl))
theorem fNL (h : RNet c (g 216) N C Q) (hs : ∀ i, 2 ≤ i → i ≤ 21 → s i = c i) {t v : Nat} (ht : t < 10) (hv : v < t) (hst : s 187 3 = nn t) {T : Tb} (hT : okT T t (v + 1)) : ∀ m j F a b d, j + m = C → m < F → CR a b d (upT T v (bst c (fun u => (T u).2) t v j)) → ∃ a2 b2 d2, ways_findNext_2 F (nn v) (nn j) (ss s a b d) = some (ss s a2 b2 d2) ∧ CR a2 b2 d2 (upT T v (bst c (fun u => (T u).2) t v C)) := by
  have hC := h.hC
  have hN := h.hN
  intro m
  induction m with
  | zero =>
    intro j F a b d hj hF hR
    obtain ⟨F, rfl⟩ : ∃ F2, F = F2 + 1 := ⟨F - 1, by omega⟩
    have : j = C := by omega
    subst this
    refine ⟨a, b, d, ?_, hR⟩
    unfold ways_findNext_2
    rw [ss_o (by decide) (by decide) (by decide), hs 2 (by decide) (by decide), h.cC]
    exact if_pos (Int32.le_refl _)
  | succ m ih =>
    intro j F a b d hj hF hR
    obtain ⟨F, rfl⟩ : ∃ F2, F = F2 + 1 := ⟨F - 1, by omega⟩
    obtain ⟨v1, v2, v3, v4, v5, v6⟩ := chan_v h (show j < C by omega)
    have hj14 : j < 14 := by omega
    have hv10 : v < 10 := by omega
    have hi : inb (nn j) 14 = true := by simp (disch := first | omega | decide) only [lt1, nnMl, nnMr, nnAl, nnAr, nnA, nnM, nnB, nnT, nnP, nnE, nnEl, nnEr, nnL, nnLl, nnLr, nnQ, nnQr, nnN, Nat.add_zero, if_false, if_true, Option.bind_some, not_true, not_false_iff, not_true_eq_false, not_false_eq_true, eq_self, Nat.not_lt_zero, z10, z01, or_true, true_or, or_false, false_or, true_and, false_and, hj14]
    have hiv : inb (nn v) 10 = true := by simp (disch := first | omega | decide) only [lt1, nnMl, nnMr, nnAl, nnAr, nnA, nnM, nnB, nnT, nnP, nnE, nnEl, nnEr, nnL, nnLl, nnLr, nnQ, nnQr, nnN, Nat.add_zero, if_false, if_true, Option.bind_some, not_true, not_false_iff, not_true_eq_false, not_false_eq_true, eq_self, Nat.not_lt_zero, z10, z01, or_true, true_or, or_false, false_or, true_and, false_and, hv10]
    have h2 : ¬ C ≤ j := by omega
    have e1 : nn j + 1 = nn (j + 1) := nnA j 1
    have IH := ih (j + 1) F a b d (by omega) (by omega)
    have o2 : ∀ i, 2 ≤ i → i ≤ 21 → ss s a b d i = c i := fun i p1 p2 => by rw [ss_o (by omega) (by omega) (by omega), hs i p1 p2]
    have hw10 : cn c 10 j < 10 := by omega
    have hiw : inb (nn (cn c 10 j)) 10 = true := by simp (disch := first | omega | decide) only [lt1, nnMl, nnMr, nnAl, nnAr, nnA, nnM, nnB, nnT, nnP, nnE, nnEl, nnEr, nnL, nnLl, nnLr, nnQ, nnQr, nnN, Nat.add_zero, if_false, if_true, Option.bind_some, not_true, not_false_iff, not_true_eq_false, not_false_eq_true, eq_self, Nat.not_lt_zero, z10, z01, or_true, true_or, or_false, false_or, true_and, false_and, hw10]
    obtain ⟨t1, t2, t3, t4, t5, t6⟩ := hT
    have bp := (bst_p h ht hv t1 j (by omega)).1
    have reach : v < cn c 10 j → ways_reaches (nn (cn c 10 j)) (ss s a b d) = some (if (T (cn c 10 j)).2 < 1000000 then 1 else 0) := fun hgt => by
      have eT : ∀ u, u ≠ v → upT T v (bst c (fun u => (T u).2) t v j) u = T u := fun u hu => upT_n hu
      have hT2 : ∀ u, u ≠ t → ((upT T v (bst c (fun u => (T u).2) t v j) u).1 = none ↔ (upT T v (bst c (fun u => (T u).2) t v j) u).2 = 1000000) := fun u hu => by
        by_cases e : u = v
        · rw [e, upT_e]
          rcases bp with ⟨p1, p2⟩ | ⟨i, _, p1, _, _, _, _, _, p2, _⟩
          · exact ⟨fun _ => p2, fun _ => p1⟩
          · exact ⟨fun e => (by rw [p1] at e; cases e), fun e => (by omega)⟩
        · rw [eT u e]; exact t4 u hu
      have hT6 : ∀ u i, (upT T v (bst c (fun u => (T u).2) t v j) u).1 = some i → i < 14 := fun u i e9 => by
        by_cases e : u = v
        · rw [e, upT_e] at e9
          rcases bp with ⟨p1, p2⟩ | ⟨i2, h9, p1, _⟩
          · rw [p1] at e9; cases e9
          · rw [p1] at e9; cases e9; omega
        · rw [eT u e] at e9; exact t6 u i e9
      by_cases q : (T (cn c 10 j)).2 < 1000000
      · rw [if_pos q]
        exact reach_y hst hw10 ht hT2 hT6 hR (by rw [eT _ (by omega)]; exact q)
      · rw [if_neg q]
        exact reach_n hst hw10 ht (by rw [eT _ (by omega)]; exact t3) hT2 hR (by rw [eT _ (by omega)]; exact (t1 _).2) (by rw [eT _ (by omega)]; exact q)
    have keep : bst c (fun u => (T u).2) t v (j + 1) = bst c (fun u => (T u).2) t v j → ∃ a2 b2 d2, ways_findNext_2 F (nn v) (nn (j + 1)) (ss s a b d) = some (ss s a2 b2 d2) ∧ CR a2 b2 d2 (upT T v (bst c (fun u => (T u).2) t v C)) := fun e => IH (by rw [e]; exact hR)
    by_cases q1 : c 9 j = nn v
    rotate_left
    · obtain ⟨a2, b2, d2, r1, r2⟩ := keep (if_neg (fun e => q1 e.1))
      refine ⟨a2, b2, d2, ?_, r2⟩
      unfold ways_findNext_2
      rw [o2 2 (by decide) (by decide), h.cC, o2 9 (by decide) (by decide), nnT (by omega), e1]
      exact st_f (by simp (disch := first | omega | decide) only [lt1, nnMl, nnMr, nnAl, nnAr, nnA, nnM, nnB, nnT, nnP, nnE, nnEl, nnEr, nnL, nnLl, nnLr, nnQ, nnQr, nnN, Nat.add_zero, if_false, if_true, Option.bind_some, not_true, not_false_iff, not_true_eq_false, not_false_eq_true, eq_self, Nat.not_lt_zero, z10, z01, or_true, true_or, or_false, false_or, true_and, false_and, h2]) (st_t hi (st_t q1 r1))
    by_cases q2 : c 15 j = 0
    rotate_left
    · obtain ⟨a2, b2, d2, r1, r2⟩ := keep (if_neg (fun e => q2 e.2.1))
      refine ⟨a2, b2, d2, ?_, r2⟩
      unfold ways_findNext_2
      rw [o2 2 (by decide) (by decide), h.cC, o2 9 (by decide) (by decide), o2 15 (by decide) (by decide), nnT (by omega), e1]
      exact st_f (by simp (disch := first | omega | decide) only [lt1, nnMl, nnMr, nnAl, nnAr, nnA, nnM, nnB, nnT, nnP, nnE, nnEl, nnEr, nnL, nnLl, nnLr, nnQ, nnQr, nnN, Nat.add_zero, if_false, if_true, Option.bind_some, not_true, not_false_iff, not_true_eq_false, not_false_eq_true, eq_self, Nat.not_lt_zero, z10, z01, or_true, true_or, or_false, false_or, true_and, false_and, h2]) (st_t hi (st_f (fun e => e q1) (st_t hi (st_t q2 r1))))
    have hgt : v < cn c 10 j := by
      have := q1.symm.trans v1
      rw [nnQ (by omega) (by omega)] at this
      omega
    by_cases q3 : (T (cn c 10 j)).2 < 1000000
    rotate_left
    · obtain ⟨a2, b2, d2, r1, r2⟩ := keep (if_neg (fun e => q3 e.2.2.2.1))
      refine ⟨a2, b2, d2, ?_, r2⟩
      unfold ways_findNext_2
      rw [o2 2 (by decide) (by decide), h.cC, o2 9 (by decide) (by decide), o2 15 (by decide) (by decide), o2 10 (by decide) (by decide), nnT (by omega), e1, v2, reach hgt, if_neg q3]
      exact st_f (by simp (disch := first | omega | decide) only [lt1, nnMl, nnMr, nnAl, nnAr, nnA, nnM, nnB, nnT, nnP, nnE, nnEl, nnEr, nnL, nnLl, nnLr, nnQ, nnQr, nnN, Nat.add_zero, if_false, if_true, Option.bind_some, not_true, not_false_iff, not_true_eq_false, not_false_eq_true, eq_self, Nat.not_lt_zero, z10, z01, or_true, true_or, or_false, false_or, true_and, false_and, h2]) (st_t hi (st_f (fun e => e q1) (st_t hi (st_f (fun e => e q2) (st_t hi (st_b rfl (st_t rfl r1)))))))
    have hle : cn c 10 j ≤ t := by
      have := (t1 (cn c 10 j)).1 q3
      have := this.1
      omega
    have hw1 : (T (cn c 10 j)).2 % 100 + cn c 10 j ≤ t ∧ (T (cn c 10 j)).2 / 100 ≤ 8 * ((T (cn c 10 j)).2 % 100) := (t1 (cn c 10 j)).1 q3
    have hw2 := (hR (cn c 10 j) hw10).2 (by rw [upT_n (by omega)]; exact q3)
    rw [upT_n (by omega)] at hw2
    have sp := split_v (cn c 13 j) (T (cn c 10 j)).2 (by have := hw1.1; omega)
    -- the state behind the test
    have go : ∀ r, (if (a (cn c 10 j) + c 13 j) < a v then ways_findNext_110 (fun v2 v3 g0 => ways_findNext_2 F v2 v3 g0) (nn v) (nn j) (a (cn c 10 j) + c 13 j) (b (cn c 10 j) + 1) (ss s a b d) else (if inb (nn v) 10 = true then (if ¬ (a (cn c 10 j) + c 13 j) = a v then ways_findNext_114 (fun v2 v3 g0 => ways_findNext_2 F v2 v3 g0) (nn v) (nn j) (a (cn c 10 j) + c 13 j) (b (cn c 10 j) + 1) (ss s a b d) else (if inb (nn v) 10 = true then (if b v ≤ (b (cn c 10 j) + 1) then ways_findNext_114 (fun v2 v3 g0 => ways_findNext_2 F v2 v3 g0) (nn v) (nn j) (a (cn c 10 j) + c 13 j) (b (cn c 10 j) + 1) (ss s a b d) else ways_findNext_110 (fun v2 v3 g0 => ways_findNext_2 F v2 v3 g0) (nn v) (nn j) (a (cn c 10 j) + c 13 j) (b (cn c 10 j) + 1) (ss s a b d)) else none)) else none)) = some r → ways_findNext_2 (F + 1) (nn v) (nn j) (ss s a b d) = some r := fun r hr => by
      unfold ways_findNext_2
      rw [o2 2 (by decide) (by decide), h.cC, o2 9 (by decide) (by decide), o2 15 (by decide) (by decide), o2 10 (by decide) (by decide), nnT (show j < 2147483648 by omega), e1, v2, reach hgt, if_pos q3, o2 13 (by decide) (by decide), ss_a, ss_b, nnT (show v < 2147483648 by omega)]
      refine st_f (by simp (disch := first | omega | decide) only [lt1, nnMl, nnMr, nnAl, nnAr, nnA, nnM, nnB, nnT, nnP, nnE, nnEl, nnEr, nnL, nnLl, nnLr, nnQ, nnQr, nnN, Nat.add_zero, if_false, if_true, Option.bind_some, not_true, not_false_iff, not_true_eq_false, not_false_eq_true, eq_self, Nat.not_lt_zero, z10, z01, or_true, true_or, or_false, false_or, true_and, false_and, h2]) (st_t hi (st_f (fun e => e q1) (st_t hi (st_f (fun e => e q2) (st_t hi (st_b rfl (st_f (by decide) (st_t hi (st_l (st_t hiw (st_t hi (st_l ?_))))))))))))
      rw [nnT (show cn c 10 j < 2147483648 by omega)]
      exact st_t hiw (st_l (st_t hiv hr))
    have ea : a (cn c 10 j) + c 13 j = nn ((100 * cn c 13 j + 1 + (T (cn c 10 j)).2) / 100) := by
      rw [hw2.1, v3, nnA, sp.2, Nat.add_comm]
    have eb : b (cn c 10 j) + 1 = nn ((100 * cn c 13 j + 1 + (T (cn c 10 j)).2) % 100) := by
      rw [hw2.2, sp.1]
      exact nnA _ 1
    have hev := (hR v hv10).1
    rw [upT_e] at hev
    by_cases q4 : 100 * cn c 13 j + 1 + (T (cn c 10 j)).2 < (bst c (fun u => (T u).2) t v j).2
    · -- taken
      have eb2 : bst c (fun u => (T u).2) t v (j + 1) = (some j, 100 * cn c 13 j + 1 + (T (cn c 10 j)).2) := if_pos ⟨q1, q2, hle, q3, q4⟩
      obtain ⟨a2, b2, d2, r1, r2⟩ := ih (j + 1) F (up1 a v (a (cn c 10 j) + c 13 j)) (up1 b v (b (cn c 10 j) + 1)) (up1 d v (nn j)) (by omega) (by omega) (by
        rw [eb2]
        intro u hu
        by_cases e : u = v
        · subst e
          rw [upT_e, up1_eq, up1_eq, up1_eq]
          exact ⟨rfl, fun _ => ⟨ea, eb⟩⟩
        · have := hR u hu
          rw [upT_n e] at this
          rw [upT_n e, up1_ne e, up1_ne e, up1_ne e]
          exact this)
      refine ⟨a2, b2, d2, go _ ?_, r2⟩
      unfold ways_findNext_110 ways_findNext_114
      by_cases k1 : (a (cn c 10 j) + c 13 j) < a v
      · refine st_t k1 ?_
        rw [fN115y hv10 (Or.inr (by decide))]
        exact r1
      refine st_f k1 (st_t hiv ?_)
      rcases bp with ⟨p1, p2⟩ | ⟨i, _, p1, _, _, _, _, _, p2, p3, p4, _⟩
      · rw [p1] at hev
        rw [fN115y hv10 (Or.inl hev), fN115y hv10 (Or.inl hev)]
        by_cases k2 : (a (cn c 10 j) + c 13 j) = a v
        · refine st_f (fun e => e k2) (st_t hiv ?_)
          by_cases k3 : b v ≤ (b (cn c 10 j) + 1)
          · exact st_t k3 r1
          · exact st_f k3 r1
        · exact st_t k2 r1
      · have hc := (hR v hv10).2 (by rw [upT_e]; exact p2)
        rw [upT_e] at hc
        rw [ea, hc.1] at k1
        rw [nnL (by omega) (by omega)] at k1
        have k2 : (a (cn c 10 j) + c 13 j) = a v := by
          rw [ea, hc.1]
          congr 1
          omega
        refine st_f (fun e => e k2) (st_t hiv (st_f ?_ ?_))
        · rw [eb, hc.2, nnE (by omega) (by omega)]
          have : (100 * cn c 13 j + 1 + (T (cn c 10 j)).2) / 100 = (bst c (fun u => (T u).2) t v j).2 / 100 := by omega
          omega
        · rw [fN115y hv10 (Or.inr (by decide))]
          exact r1
    · have eb2 : bst c (fun u => (T u).2) t v (j + 1) = bst c (fun u => (T u).2) t v j := if_neg (fun e => q4 e.2.2.2.2)
      obtain ⟨a2, b2, d2, r1, r2⟩ := keep eb2
      refine ⟨a2, b2, d2, go _ ?_, r2⟩
      rcases bp with ⟨p1, p2⟩ | ⟨i, hi2, p1, _, _, _, _, _, p2, p3, p4, _⟩
      · have := (hw1.1)
        have h8 := hw1.2
        omega
      · have hc := (hR v hv10).2 (by rw [upT_e]; exact p2)
        rw [upT_e] at hc
        have hd : ¬ d v = -1 := by
          rw [hev, p1]
          exact fun e => nnN1 (by omega) e.symm
        unfold ways_findNext_110 ways_findNext_114
        rw [fN115n hv10 hd, ea, eb, hc.1, hc.2]
        refine st_f ?_ (st_t hiv ?_)
        · rw [nnL (by omega) (by omega)]
          omega
        · by_cases k2 : nn ((100 * cn c 13 j + 1 + (T (cn c 10 j)).2) / 100) = nn ((bst c (fun u => (T u).2) t v j).2 / 100)
          · refine st_f (fun e => e k2) (st_t hiv (st_t ?_ r1))
            rw [nnQ (by omega) (by omega)] at k2
            rw [nnE (by omega) (by omega)]
            omega
          · exact st_t k2 r1
end WB
