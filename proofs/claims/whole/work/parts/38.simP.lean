/-! ways: find, leads, path, along -/
theorem sc_v {g : Sg} {a b i : Nat} {f : Nat → Int32} {v : Int32} (h : b ≠ a) : up2 (sc g a f) b i v = sc (up2 g b i v) a f := by
  funext c k
  unfold up2 sc
  by_cases h1 : c = a
  · rw [if_pos h1, if_neg (fun q => h (q.1.symm.trans h1)), if_pos h1]
  · rw [if_neg h1, if_neg h1]
theorem nnM1 {u : Nat} (h : 0 < u) : nn u - 1 = nn (u - 1) := nnS (a := u) (b := 1) h
section WC
variable {c s : Sg} {a0 : Nat → Int32} {N C Q : Nat}
theorem hN_y {n : Nat} (hs : s 2 1 = nn N) (hN : N ≤ 10) (hn : n < N) : net_hasNode (nn n) s = some 1 := by
  unfold net_hasNode
  rw [hs]
  refine st_f (by rw [nnP (by omega)]; exact id) (st_f ?_ (st_f ?_ rfl))
  · rw [nnE (by omega) (by omega)]; omega
  · rw [show (10 : Int32) = nn 10 from rfl, nnE (by omega) (by omega)]; omega
theorem hN_n {v : Int32} (hs : s 2 1 = nn N) (hN : N ≤ 10) (hn : ¬ ∃ n, n < N ∧ v = nn n) : net_hasNode v s = some 0 := by
  unfold net_hasNode
  rw [hs]
  by_cases h1 : v < 0
  · exact st_t h1 rfl
  · refine st_f h1 ?_
    by_cases h2 : nn N ≤ v
    · exact st_t h2 rfl
    · exact absurd ((rg (by omega)).mp ⟨h1, Int32.not_le.mp h2⟩) hn
theorem hC_y {n : Nat} (hs : s 2 6 = nn C) (hC : C ≤ 14) (hn : n < C) : net_hasChannel (nn n) s = some 1 := by
  unfold net_hasChannel
  rw [hs]
  refine st_f (by rw [nnP (by omega)]; exact id) (st_f ?_ (st_f ?_ rfl))
  · rw [nnE (by omega) (by omega)]; omega
  · rw [show (14 : Int32) = nn 14 from rfl, nnE (by omega) (by omega)]; omega
theorem hC_neg : net_hasChannel (-1) s = some 0 := rfl
theorem fiL {g : Sg} (h : RNet c (g 216) N C Q) (hs : ∀ i, 2 ≤ i → i ≤ 21 → s i = c i) {t f : Nat} (ht : t < 10) (hst : s 187 3 = nn t) {F0 : Nat} (hF0 : 14 < F0) : ∀ m u F a b d, u = f + m → u ≤ t → m < F → CR a b d (tab c C t (t - u)) → ∃ a2 b2 d2, ways_find_55 F0 F (nn f) (nn u - 1) (ss s a b d) = some (if (tab c C t (t - f) f).1 = none then 0 else 1, ss s a2 b2 d2) ∧ CR a2 b2 d2 (tab c C t (t - f)) := by
  have hC := h.hC
  intro m
  induction m with
  | zero =>
    intro u F a b d hu hut hF hR
    obtain ⟨F, rfl⟩ : ∃ F2, F = F2 + 1 := ⟨F - 1, by omega⟩
    have : u = f := by omega
    subst this
    refine ⟨a, b, d, ?_, hR⟩
    have hu10 : u < 10 := by omega
    unfold ways_find_55
    rw [ss_d, nnT (by omega)]
    refine st_t ?_ (st_t (by simp (disch := first | omega | decide) only [lt1, nnMl, nnMr, nnAl, nnAr, nnA, nnM, nnB, nnT, nnP, nnE, nnEl, nnEr, nnL, nnLl, nnLr, nnQ, nnQr, nnN, Nat.add_zero, if_false, if_true, Option.bind_some, not_true, not_false_iff, not_true_eq_false, not_false_eq_true, eq_self, Nat.not_lt_zero, z10, z01, or_true, true_or, or_false, false_or, true_and, false_and, hu10]) ?_)
    · rw [← le_lt1 (by omega)]; exact Int32.le_refl _
    · have := (hR u hu10).1
      rw [this]
      cases hb : (tab c C t (t - u) u).1 with
      | none => exact st_t rfl rfl
      | some i =>
        have := (tab_ok h ht (t - u) (by omega)).2.2.2.2.2 u i hb
        exact st_f (show ¬ nn i = -1 from fun e => nnN1 (by omega) e.symm) rfl
  | succ m ih =>
    intro u F a b d hu hut hF hR
    obtain ⟨F, rfl⟩ : ∃ F2, F = F2 + 1 := ⟨F - 1, by omega⟩
    have hv : u - 1 < t := by omega
    obtain ⟨o1, o2, o3, o4, o5, o6⟩ := tab_ok h ht (t - u) (by omega)
    rw [show t - (t - u) = u by omega] at o2 o5
    have okt : okT (tab c C t (t - u)) t (u - 1 + 1) := by
      rw [show u - 1 + 1 = u by omega]
      exact ⟨o1, o2, o3, o4, o5, o6⟩
    obtain ⟨a1, b1, d1, r1, r2⟩ := fNL h hs ht hv hst okt C 0 F0 a b d (by omega) (by omega) (by
      intro x hx
      by_cases e : x = u - 1
      · have := hR x hx
        rw [o2 x (Or.inl (by omega)), o5 x (by omega)] at this
        rw [e, upT_e]
        rw [e] at this
        exact this
      · rw [upT_n e]; exact hR x hx)
    have e : upT (tab c C t (t - u)) (u - 1) (bst c (fun x => (tab c C t (t - u) x).2) t (u - 1) C) = tab c C t (t - (u - 1)) := by
      rw [show t - (u - 1) = t - u + 1 by omega]
      show _ = upT (tab c C t (t - u)) (t - (t - u + 1)) (bst c (fun x => (tab c C t (t - u) x).2) t (t - (t - u + 1)) C)
      rw [show t - (t - u + 1) = u - 1 by omega]
    rw [e] at r2
    obtain ⟨a2, b2, d2, r3, r4⟩ := ih (u - 1) F a1 b1 d1 (by omega) (by omega) (by omega) r2
    refine ⟨a2, b2, d2, ?_, r4⟩
    unfold ways_find_55
    rw [nnM1 (by omega)]
    refine st_f ?_ (st_b (x := ss s a1 b1 d1) ?_ ?_)
    · rw [nnL (by omega) (by omega)]; omega
    · exact r1
    · rw [← Int32.sub_eq_add_neg]
      exact r3
/-- what find and leads say -/
def wyR (c : Sg) (C f t : Nat) : Int32 := if (tab c C t t f).2 < 1000000 then 1 else 0
theorem wy_one {f t : Nat} : wyR c C f t = 0 ∨ wyR c C f t = 1 := by
  unfold wyR
  split
  · exact Or.inr rfl
  · exact Or.inl rfl
theorem tab_f {t v f : Nat} (hv : f ≤ v) (hft : f ≤ t) : tab c C t (t - f) v = tab c C t t v := by
  have := tab_st (c := c) (C := C) (t := t) f (t - f) (by omega) v (by omega)
  rw [show t - f + f = t by omega] at this
  exact this.symm
theorem find_y {g : Sg} (h : RNet c (g 216) N C Q) (hs : ∀ i, 2 ≤ i → i ≤ 21 → s i = c i) {t f : Nat} (hft : f < t) (htN : t < N) {F : Nat} (hF : 20 < F) : ∃ a b d, ways_find F (nn f) (nn t) s = some (wyR c C f t, ss (up2 s 187 3 (nn t)) a b d) ∧ ∀ u, f ≤ u → u < 10 → d u = oN (tab c C t t u).1 ∧ ((tab c C t t u).2 < 1000000 → a u = nn ((tab c C t t u).2 / 100) ∧ b u = nn ((tab c C t t u).2 % 100)) := by
  have hN := h.hN
  have ht10 : t < 10 := by omega
  have h21 : s 2 1 = nn N := by rw [hs 2 (by decide) (by decide), h.cN]
  obtain ⟨d0, p1, p2⟩ := jA_fill_y (v := -1) (s := s) (F := F) (by omega)
  have eS : up2 (up2 (up2 (sc s 190 d0) 187 3 (nn t)) 188 t 0) 189 t 0 = ss (up2 s 187 3 (nn t)) (up1 (s 188) t 0) (up1 (s 189) t 0) d0 := by
    rw [sc_v (by decide)]
    have : sc (up2 s 187 3 (nn t)) 190 d0 = ss (up2 s 187 3 (nn t)) (s 188) (s 189) d0 := by
      unfold ss
      have e1 : sc (up2 s 187 3 (nn t)) 188 (s 188) = up2 s 187 3 (nn t) := by
        have := sc_s (g := up2 s 187 3 (nn t)) (a := 188)
        rwa [u2n (by decide)] at this
      have e2 : sc (up2 s 187 3 (nn t)) 189 (s 189) = up2 s 187 3 (nn t) := by
        have := sc_s (g := up2 s 187 3 (nn t)) (a := 189)
        rwa [u2n (by decide)] at this
      rw [e1, e2]
    rw [this, ss_ua, ss_ub]
  have hT0 : ∀ u, tab c C t (t - t) u = (none, if u = t then 0 else 1000000) := fun u => by
    rw [Nat.sub_self]; rfl
  obtain ⟨a2, b2, d2, r1, r2⟩ := fiL h (s := up2 s 187 3 (nn t)) (fun i e1 e2 => by rw [u2n (by omega)]; exact hs i e1 e2) ht10 (f := f) (by rw [u2e, up1_eq]) (F0 := F) (by omega) (t - f) t F (up1 (s 188) t 0) (up1 (s 189) t 0) d0 (by omega) (Nat.le_refl _) (by omega) (by
    intro u hu
    rw [hT0 u]
    refine ⟨p1 u hu, fun e => ?_⟩
    have : u = t := by
      by_cases q : u = t
      · exact q
      · have e : (if u = t then 0 else 1000000) < 1000000 := e
        rw [if_neg q] at e
        omega
    subst this
    show up1 (s 188) u 0 u = nn ((if u = u then 0 else 1000000) / 100) ∧ up1 (s 189) u 0 u = nn ((if u = u then 0 else 1000000) % 100)
    rw [up1_eq, up1_eq, if_pos rfl]
    exact ⟨rfl, rfl⟩)
  have e9 : (if (tab c C t (t - f) f).1 = none then 0 else 1 : Int32) = wyR c C f t := by
    obtain ⟨o1, o2, o3, o4, o5, o6⟩ := tab_ok h ht10 t (Nat.le_refl _)
    rw [tab_f (Nat.le_refl _) (by omega)]
    unfold wyR
    have h4 := o4 f (by omega)
    have h5 := (o1 f).2
    by_cases q : (tab c C t t f).1 = none
    · have := h4.mp q
      rw [if_pos q, if_neg (by omega)]
    · rw [if_neg q, if_pos]
      by_cases q2 : (tab c C t t f).2 = 1000000
      · exact absurd (h4.mpr q2) q
      · have h5 : (tab c C t t f).2 ≤ 1000000 := h5
        omega
  rw [e9] at r1
  refine ⟨a2, b2, d2, ?_, fun u hu1 hu2 => ?_⟩
  · unfold ways_find
    refine st_b (hN_y h21 hN (show f < N by omega)) (st_f (by decide) (st_b (hN_y h21 hN htN) (st_f (by decide) (st_t ?_ (st_b p2 (st_l ?_))))))
    · rw [nnL (by omega) (by omega)]; exact hft
    · refine st_w (by simp (disch := first | omega | decide) only [lt1, nnMl, nnMr, nnAl, nnAr, nnA, nnM, nnB, nnT, nnP, nnE, nnEl, nnEr, nnL, nnLl, nnLr, nnQ, nnQr, nnN, Nat.add_zero, if_false, if_true, Option.bind_some, not_true, not_false_iff, not_true_eq_false, not_false_eq_true, eq_self, Nat.not_lt_zero, z10, z01, or_true, true_or, or_false, false_or, true_and, false_and, ht10]) (st_w (by simp (disch := first | omega | decide) only [lt1, nnMl, nnMr, nnAl, nnAr, nnA, nnM, nnB, nnT, nnP, nnE, nnEl, nnEr, nnL, nnLl, nnLr, nnQ, nnQr, nnN, Nat.add_zero, if_false, if_true, Option.bind_some, not_true, not_false_iff, not_true_eq_false, not_false_eq_true, eq_self, Nat.not_lt_zero, z10, z01, or_true, true_or, or_false, false_or, true_and, false_and, ht10]) (st_l ?_))
      rw [nnT (by omega), eS]
      exact r1
  · have := r2 u hu2
    rw [tab_f hu1 (by omega)] at this
    exact this
/-- no such two nodes -/
def noWay (N : Nat) (v1 v2 : Int32) : Prop := ¬ ∃ f t, f < t ∧ t < N ∧ v1 = nn f ∧ v2 = nn t
theorem find_n {v1 v2 : Int32} (h21 : s 2 1 = nn N) (hN : N ≤ 10) (hn : noWay N v1 v2) {F : Nat} : ways_find F v1 v2 s = some (0, s) := by
  unfold ways_find
  by_cases h1 : ∃ n, n < N ∧ v1 = nn n
  · obtain ⟨f, hf, rfl⟩ := h1
    refine st_b (hN_y h21 hN hf) (st_f (by decide) ?_)
    by_cases h2 : ∃ n, n < N ∧ v2 = nn n
    · obtain ⟨t, ht, rfl⟩ := h2
      refine st_b (hN_y h21 hN ht) (st_f (by decide) (st_f ?_ rfl))
      rw [nnL (by omega) (by omega)]
      exact fun e => hn ⟨f, t, e, ht, rfl, rfl⟩
    · exact st_b (hN_n h21 hN h2) (st_t rfl rfl)
  · exact st_b (hN_n h21 hN h1) (st_t rfl rfl)
theorem iO_y {n : Nat} (hs : s 216 0 = nn N) (hN : N ≤ 10) (hn : n < N) : m_isOf_k0 (nn n) s = some 1 := by
  unfold m_isOf_k0
  exact st_b (isOf_y hs (by omega) hn) (st_t (Or.inr rfl) rfl)
theorem iO_n {v : Int32} (hs : s 216 0 = nn N) (hN : N ≤ 10) (hn : ¬ ∃ n, n < N ∧ v = nn n) : m_isOf_k0 v s = some 0 := by
  unfold m_isOf_k0
  exact st_b (isOf_n hs (by omega) hn) (st_t (Or.inl rfl) rfl)
theorem leads_n {v1 v2 : Int32} (h21 : s 216 0 = nn N) (hN : N ≤ 10) (hn : noWay N v1 v2) {F : Nat} : m_leads F v1 v2 s = some (0, s) := by
  unfold m_leads
  by_cases h1 : ∃ n, n < N ∧ v1 = nn n
  · obtain ⟨f, hf, rfl⟩ := h1
    refine st_b (iO_y h21 hN hf) (st_f (by decide) ?_)
    by_cases h2 : ∃ n, n < N ∧ v2 = nn n
    · obtain ⟨t, ht, rfl⟩ := h2
      refine st_b (iO_y h21 hN ht) (st_f (by decide) (st_f ?_ rfl))
      rw [nnL (by omega) (by omega)]
      exact fun e => hn ⟨f, t, e, ht, rfl, rfl⟩
    · exact st_b (iO_n h21 hN h2) (st_t rfl rfl)
  · exact st_b (iO_n h21 hN h1) (st_t rfl rfl)
theorem mch0 (h : RNet c (s 216) N C Q) {j : Nat} (hj : j < 14) : m_channelOf_k0 (nn j) s = some (c 9 j) := by
  rw [← h.frm j hj]
  exact chanOf_y (g := s) hj (k := 0) (by decide)
theorem mch1 (h : RNet c (s 216) N C Q) {j : Nat} (hj : j < 14) : m_channelOf_k1 (nn j) s = some (c 10 j) := by
  rw [← h.to j hj]
  exact chanOf_y (g := s) hj (k := 1) (by decide)
theorem mch2 (h : RNet c (s 216) N C Q) {j : Nat} (hj : j < 14) : m_channelOf_k2 (nn j) s = some (c 11 j) := by
  rw [← h.low j hj]
  exact chanOf_y (g := s) hj (k := 2) (by decide)
theorem mch3 (h : RNet c (s 216) N C Q) {j : Nat} (hj : j < 14) : m_channelOf_k3 (nn j) s = some (c 12 j) := by
  rw [← h.hig j hj]
  exact chanOf_y (g := s) hj (k := 3) (by decide)
theorem mch4 (h : RNet c (s 216) N C Q) {j : Nat} (hj : j < 14) : m_channelOf_k4 (nn j) s = some (c 13 j) := by
  rw [← h.trv j hj]
  exact chanOf_y (g := s) hj (k := 4) (by decide)
theorem mch5 (h : RNet c (s 216) N C Q) {j : Nat} (hj : j < 14) : m_channelOf_k5 (nn j) s = some (c 14 j) := by
  rw [← h.brd j hj]
  exact chanOf_y (g := s) hj (k := 5) (by decide)
theorem mch6 (h : RNet c (s 216) N C Q) {j : Nat} (hj : j < 14) : m_channelOf_k6 (nn j) s = some (c 15 j) := by
  rw [← h.brk j hj]
  exact chanOf_y (g := s) hj (k := 6) (by decide)
theorem bst_cg (hv : Nat) {t : Nat} {V V2 : Nat → Nat} (hV : ∀ j, j < C → c 9 j = nn hv → V (cn c 10 j) = V2 (cn c 10 j)) : ∀ j, j ≤ C → bst c V t hv j = bst c V2 t hv j := by
  intro j
  induction j with
  | zero => exact fun _ => rfl
  | succ j ih =>
    intro hj
    have ih := ih (by omega)
    by_cases q : c 9 j = nn hv
    · show (if c 9 j = nn hv ∧ c 15 j = 0 ∧ cn c 10 j ≤ t ∧ V (cn c 10 j) < 1000000 ∧ 100 * cn c 13 j + 1 + V (cn c 10 j) < (bst c V t hv j).2 then (some j, 100 * cn c 13 j + 1 + V (cn c 10 j)) else bst c V t hv j) = (if c 9 j = nn hv ∧ c 15 j = 0 ∧ cn c 10 j ≤ t ∧ V2 (cn c 10 j) < 1000000 ∧ 100 * cn c 13 j + 1 + V2 (cn c 10 j) < (bst c V2 t hv j).2 then (some j, 100 * cn c 13 j + 1 + V2 (cn c 10 j)) else bst c V2 t hv j)
      rw [hV j (by omega) q, ih]
    · exact (if_neg (fun e => q e.1)).trans (ih.trans (if_neg (fun e => q e.1)).symm)
theorem tab_b (h : RNet c a0 N C Q) {t v : Nat} (ht : t < 10) (hv : v < t) : tab c C t t v = bst c (fun u => (tab c C t t u).2) t v C := by
  have h9 : RNet c ((fun _ => a0 : Sg) 216) N C Q := h
  have e0 : tab c C t t v = tab c C t (t - v) v := (tab_f (Nat.le_refl _) (by omega)).symm
  have e1 : tab c C t (t - v) v = bst c (fun u => (tab c C t (t - v - 1) u).2) t v C := by
    have : tab c C t (t - v - 1 + 1) (t - (t - v - 1 + 1)) = bst c (fun u => (tab c C t (t - v - 1) u).2) t (t - (t - v - 1 + 1)) C := upT_e
    rwa [show t - v - 1 + 1 = t - v by omega, show t - (t - v) = v by omega] at this
  rw [e0, e1]
  refine bst_cg v (fun j hj hq => ?_) C (Nat.le_refl _)
  obtain ⟨v1, v2, v3, v4, v5, v6⟩ := chan_v (g := fun _ => a0) h hj
  have hN := h.hN
  have := hq.symm.trans v1
  rw [nnQ (by omega) (by omega)] at this
  show (tab c C t (t - v - 1) (cn c 10 j)).2 = (tab c C t t (cn c 10 j)).2
  rw [show t - v - 1 = t - (v + 1) by omega, tab_f (by omega) (by omega)]
theorem skIn (h : RNet c (s 216) N C Q) {t n : Nat} (ht : t < 10) (hn : n < t) {V : Nat → Nat} (hV : okV V t) {K : Int32 → Int32 → Sg → Option Sg} : ∀ m j F e, j + m = C → m < F → e n = nn (bst c V t n j).2 → (∀ x, n < x → x < 10 → e x = nn (V x)) → ∃ e2, m_seeks_26 K F (nn t) (nn n) (nn j) (sc s 218 e) = K (nn t) (nn n + (-1)) (sc s 218 e2) ∧ e2 n = nn (bst c V t n C).2 ∧ ∀ x, x ≠ n → e2 x = e x := by
  have hC := h.hC
  have hN := h.hN
  intro m
  induction m with
  | zero =>
    intro j F e hj hF he hx
    obtain ⟨F, rfl⟩ : ∃ F2, F = F2 + 1 := ⟨F - 1, by omega⟩
    have : j = C := by omega
    subst this
    refine ⟨e, ?_, he, fun x _ => rfl⟩
    unfold m_seeks_26
    rw [sc_n (by decide), h.aC]
    exact if_pos (Int32.le_refl _)
  | succ m ih =>
    intro j F e hj hF he hx
    obtain ⟨F, rfl⟩ : ∃ F2, F = F2 + 1 := ⟨F - 1, by omega⟩
    have hs : RNet c ((sc s 218 e) 216) N C Q := by rw [sc_n (by decide)]; exact h
    obtain ⟨v1, v2, v3, v4, v5, v6⟩ := chan_v h (show j < C by omega)
    have hj14 : j < 14 := by omega
    have hn10 : n < 10 := by omega
    have h2 : ¬ C ≤ j := by omega
    have h3 : ¬ t ≤ n := by omega
    have e1 : nn j + 1 = nn (j + 1) := nnA j 1
    have keep : bst c V t n (j + 1) = bst c V t n j → ∃ e2, m_seeks_26 K F (nn t) (nn n) (nn (j + 1)) (sc s 218 e) = K (nn t) (nn n + (-1)) (sc s 218 e2) ∧ e2 n = nn (bst c V t n C).2 ∧ ∀ x, x ≠ n → e2 x = e x := fun q => ih (j + 1) F e (by omega) (by omega) (by rw [q]; exact he) hx
    by_cases q1 : c 9 j = nn n
    rotate_left
    · obtain ⟨e2, r1, r2⟩ := keep (if_neg (fun q => q1 q.1))
      refine ⟨e2, ?_, r2⟩
      unfold m_seeks_26
      rw [sc_n (by decide), h.aC, e1]
      exact st_f (by simp (disch := first | omega | decide) only [lt1, nnMl, nnMr, nnAl, nnAr, nnA, nnM, nnB, nnT, nnP, nnE, nnEl, nnEr, nnL, nnLl, nnLr, nnQ, nnQr, nnN, Nat.add_zero, if_false, if_true, Option.bind_some, not_true, not_false_iff, not_true_eq_false, not_false_eq_true, eq_self, Nat.not_lt_zero, z10, z01, or_true, true_or, or_false, false_or, true_and, false_and, h2]) (st_f (by simp (disch := first | omega | decide) only [lt1, nnMl, nnMr, nnAl, nnAr, nnA, nnM, nnB, nnT, nnP, nnE, nnEl, nnEr, nnL, nnLl, nnLr, nnQ, nnQr, nnN, Nat.add_zero, if_false, if_true, Option.bind_some, not_true, not_false_iff, not_true_eq_false, not_false_eq_true, eq_self, Nat.not_lt_zero, z10, z01, or_true, true_or, or_false, false_or, true_and, false_and, h3]) (st_b (mch0 hs hj14) (st_t q1 r1)))
    by_cases q2 : c 15 j = 0
    rotate_left
    · obtain ⟨e2, r1, r2⟩ := keep (if_neg (fun q => q2 q.2.1))
      refine ⟨e2, ?_, r2⟩
      unfold m_seeks_26
      rw [sc_n (by decide), h.aC, e1]
      exact st_f (by simp (disch := first | omega | decide) only [lt1, nnMl, nnMr, nnAl, nnAr, nnA, nnM, nnB, nnT, nnP, nnE, nnEl, nnEr, nnL, nnLl, nnLr, nnQ, nnQr, nnN, Nat.add_zero, if_false, if_true, Option.bind_some, not_true, not_false_iff, not_true_eq_false, not_false_eq_true, eq_self, Nat.not_lt_zero, z10, z01, or_true, true_or, or_false, false_or, true_and, false_and, h2]) (st_f (by simp (disch := first | omega | decide) only [lt1, nnMl, nnMr, nnAl, nnAr, nnA, nnM, nnB, nnT, nnP, nnE, nnEl, nnEr, nnL, nnLl, nnLr, nnQ, nnQr, nnN, Nat.add_zero, if_false, if_true, Option.bind_some, not_true, not_false_iff, not_true_eq_false, not_false_eq_true, eq_self, Nat.not_lt_zero, z10, z01, or_true, true_or, or_false, false_or, true_and, false_and, h3]) (st_b (mch0 hs hj14) (st_f (fun q => q q1) (st_b (mch6 hs hj14) (st_t ((h.brkV j hj14).resolve_left q2) r1)))))
    have q2n : ¬ c 15 j = 1 := by rw [q2]; decide
    by_cases q3 : cn c 10 j ≤ t
    rotate_left
    · obtain ⟨e2, r1, r2⟩ := keep (if_neg (fun q => q3 q.2.2.1))
      refine ⟨e2, ?_, r2⟩
      unfold m_seeks_26
      rw [sc_n (by decide), h.aC, e1]
      exact st_f (by simp (disch := first | omega | decide) only [lt1, nnMl, nnMr, nnAl, nnAr, nnA, nnM, nnB, nnT, nnP, nnE, nnEl, nnEr, nnL, nnLl, nnLr, nnQ, nnQr, nnN, Nat.add_zero, if_false, if_true, Option.bind_some, not_true, not_false_iff, not_true_eq_false, not_false_eq_true, eq_self, Nat.not_lt_zero, z10, z01, or_true, true_or, or_false, false_or, true_and, false_and, h2]) (st_f (by simp (disch := first | omega | decide) only [lt1, nnMl, nnMr, nnAl, nnAr, nnA, nnM, nnB, nnT, nnP, nnE, nnEl, nnEr, nnL, nnLl, nnLr, nnQ, nnQr, nnN, Nat.add_zero, if_false, if_true, Option.bind_some, not_true, not_false_iff, not_true_eq_false, not_false_eq_true, eq_self, Nat.not_lt_zero, z10, z01, or_true, true_or, or_false, false_or, true_and, false_and, h3]) (st_b (mch0 hs hj14) (st_f (fun q => q q1) (st_b (mch6 hs hj14) (st_f q2n (st_b (mch1 hs hj14) (st_f (by rw [v2, nnE (by omega) (by omega)]; exact q3) r1)))))))
    have hgt : n < cn c 10 j := by
      have := q1.symm.trans v1
      rw [nnQ (by omega) (by omega)] at this
      omega
    have hw10 : cn c 10 j < 10 := by omega
    have hVw := hV (cn c 10 j)
    have hb := (bst_p h ht hn hV j (by omega)).1
    have hb2 : (bst c V t n j).2 ≤ 1000000 := by
      rcases hb with ⟨_, q⟩ | ⟨i, _, _, _, _, _, _, _, q, _⟩ <;> omega
    have ex : 100 * c 13 j + 1 + e (cn c 10 j) = nn (100 * cn c 13 j + 1 + V (cn c 10 j)) := by
      rw [hx _ hgt hw10, v3]
      unfold cn
      simp (disch := first | omega | decide) only [lt1, nnMl, nnMr, nnAl, nnAr, nnA, nnM, nnB, nnT, nnP, nnE, nnEl, nnEr, nnL, nnLl, nnLr, nnQ, nnQr, nnN, Nat.add_zero, if_false, if_true, Option.bind_some, not_true, not_false_iff, not_true_eq_false, not_false_eq_true, eq_self, Nat.not_lt_zero, z10, z01, or_true, true_or, or_false, false_or, true_and, false_and]
    have go : ∀ r, (if e n ≤ nn (100 * cn c 13 j + 1 + V (cn c 10 j)) then m_seeks_26 K F (nn t) (nn n) (nn (j + 1)) (sc s 218 e) else m_seeks_26 K F (nn t) (nn n) (nn (j + 1)) (sc s 218 (up1 e n (nn (100 * cn c 13 j + 1 + V (cn c 10 j)))))) = r → m_seeks_26 K (F + 1) (nn t) (nn n) (nn j) (sc s 218 e) = r := fun r hr => by
      unfold m_seeks_26
      rw [sc_n (by decide), h.aC, e1]
      refine st_f (by simp (disch := first | omega | decide) only [lt1, nnMl, nnMr, nnAl, nnAr, nnA, nnM, nnB, nnT, nnP, nnE, nnEl, nnEr, nnL, nnLl, nnLr, nnQ, nnQr, nnN, Nat.add_zero, if_false, if_true, Option.bind_some, not_true, not_false_iff, not_true_eq_false, not_false_eq_true, eq_self, Nat.not_lt_zero, z10, z01, or_true, true_or, or_false, false_or, true_and, false_and, h2]) (st_f (by simp (disch := first | omega | decide) only [lt1, nnMl, nnMr, nnAl, nnAr, nnA, nnM, nnB, nnT, nnP, nnE, nnEl, nnEr, nnL, nnLl, nnLr, nnQ, nnQr, nnN, Nat.add_zero, if_false, if_true, Option.bind_some, not_true, not_false_iff, not_true_eq_false, not_false_eq_true, eq_self, Nat.not_lt_zero, z10, z01, or_true, true_or, or_false, false_or, true_and, false_and, h3]) (st_b (mch0 hs hj14) (st_f (fun q => q q1) (st_b (mch6 hs hj14) (st_f q2n (st_b (mch1 hs hj14) (st_t (by rw [v2, nnE (by omega) (by omega)]; exact q3) (st_b (mch4 hs hj14) (st_b (mch1 hs hj14) (st_t (by rw [v2]; simp (disch := first | omega | decide) only [lt1, nnMl, nnMr, nnAl, nnAr, nnA, nnM, nnB, nnT, nnP, nnE, nnEl, nnEr, nnL, nnLl, nnLr, nnQ, nnQr, nnN, Nat.add_zero, if_false, if_true, Option.bind_some, not_true, not_false_iff, not_true_eq_false, not_false_eq_true, eq_self, Nat.not_lt_zero, z10, z01, or_true, true_or, or_false, false_or, true_and, false_and, hw10]) (st_l (st_t (by simp (disch := first | omega | decide) only [lt1, nnMl, nnMr, nnAl, nnAr, nnA, nnM, nnB, nnT, nnP, nnE, nnEl, nnEr, nnL, nnLl, nnLr, nnQ, nnQr, nnN, Nat.add_zero, if_false, if_true, Option.bind_some, not_true, not_false_iff, not_true_eq_false, not_false_eq_true, eq_self, Nat.not_lt_zero, z10, z01, or_true, true_or, or_false, false_or, true_and, false_and, hn10]) ?_))))))))))))
      rw [sc_e, v2, nnT (show cn c 10 j < 2147483648 by omega), nnT (show n < 2147483648 by omega), ex, sc_u]
      rw [← hr]
      by_cases q : e n ≤ nn (100 * cn c 13 j + 1 + V (cn c 10 j))
      · rw [if_pos q, if_pos q]
      · rw [if_neg q, if_neg q]
        exact if_pos (by simp (disch := first | omega | decide) only [lt1, nnMl, nnMr, nnAl, nnAr, nnA, nnM, nnB, nnT, nnP, nnE, nnEl, nnEr, nnL, nnLl, nnLr, nnQ, nnQr, nnN, Nat.add_zero, if_false, if_true, Option.bind_some, not_true, not_false_iff, not_true_eq_false, not_false_eq_true, eq_self, Nat.not_lt_zero, z10, z01, or_true, true_or, or_false, false_or, true_and, false_and, hn10])
    by_cases q4 : V (cn c 10 j) < 1000000 ∧ 100 * cn c 13 j + 1 + V (cn c 10 j) < (bst c V t n j).2
    · have eb : bst c V t n (j + 1) = (some j, 100 * cn c 13 j + 1 + V (cn c 10 j)) := if_pos ⟨q1, q2, q3, q4⟩
      obtain ⟨e2, r1, r2, r3⟩ := ih (j + 1) F (up1 e n (nn (100 * cn c 13 j + 1 + V (cn c 10 j)))) (by omega) (by omega) (by rw [eb, up1_eq]) (fun x p1 p2 => by rw [up1_ne (by omega)]; exact hx x p1 p2)
      refine ⟨e2, go _ ?_, r2, fun x hx => by rw [r3 x hx, up1_ne hx]⟩
      refine st_f ?_ r1
      rw [he, nnE (by omega) (by omega)]
      omega
    · obtain ⟨e2, r1, r2⟩ := keep (if_neg (fun q => q4 q.2.2.2))
      refine ⟨e2, go _ (st_t ?_ r1), r2⟩
      rw [he, nnE (by omega) (by omega)]
      omega
theorem skOut (h : RNet c (s 216) N C Q) {t n : Nat} (ht : t < 10) (hn : t ≤ n) (hn2 : n < 10) {K : Int32 → Int32 → Sg → Option Sg} {e : Nat → Int32} {F : Nat} (hF : 0 < F) : m_seeks_26 K F (nn t) (nn n) 0 (sc s 218 e) = K (nn t) (nn n + (-1)) (sc s 218 e) := by
  obtain ⟨F, rfl⟩ : ∃ F2, F = F2 + 1 := ⟨F - 1, by omega⟩
  unfold m_seeks_26
  by_cases q : (sc s 218 e) 216 1 ≤ 0
  · exact st_t q rfl
  · exact st_f q (st_t (by rw [nnE (by omega) (by omega)]; exact hn) rfl)
theorem seL (h : RNet c (s 216) N C Q) {t : Nat} (ht : t < 10) {F0 : Nat} (hF0 : 14 < F0) : ∀ u F e, u ≤ 10 → u < F → (∀ x, u ≤ x → x < 10 → e x = nn (tab c C t t x).2) → ∃ e2, m_seeks_3 F0 F (nn t) (nn u - 1) (sc s 218 e) = some (sc s 218 e2) ∧ ∀ x, x < 10 → e2 x = nn (tab c C t t x).2 := by
  have hC := h.hC
  have h9 : RNet c (s 216) N C Q := h
  obtain ⟨o1, o2, o3, o4, o5, o6⟩ := tab_ok h ht t (Nat.le_refl _)
  intro u
  induction u with
  | zero =>
    intro F e hu hF he
    obtain ⟨F, rfl⟩ : ∃ F2, F = F2 + 1 := ⟨F - 1, by omega⟩
    refine ⟨e, ?_, fun x hx => he x (Nat.zero_le _) hx⟩
    unfold m_seeks_3
    exact st_t (by decide) rfl
  | succ n ih =>
    intro F e hu hF he
    obtain ⟨F, rfl⟩ : ∃ F2, F = F2 + 1 := ⟨F - 1, by omega⟩
    have hn10 : n < 10 := by omega
    have em : nn n + (-1) = nn n - 1 := (Int32.sub_eq_add_neg _ _).symm
    unfold m_seeks_3
    rw [nnS1, nnT (by omega), sc_u, sc_u]
    by_cases q : n < t
    · obtain ⟨e1, r1, r2, r3⟩ := skIn (K := fun v1 v2 g0 => m_seeks_3 F0 F v1 v2 g0) h ht q o1 C 0 F0 (up1 e n 1000000) (by omega) (by omega) (by rw [up1_eq]; rfl) (fun x p1 p2 => by rw [up1_ne (by omega)]; exact he x (by omega) p2)
      rw [em] at r1
      obtain ⟨e2, r4, r5⟩ := ih F e1 (by omega) (by omega) (fun x p1 p2 => by
        by_cases qx : x = n
        · rw [qx, r2, tab_b h ht q]
        · rw [r3 x qx, up1_ne qx]; exact he x (by omega) p2)
      refine ⟨e2, ?_, r5⟩
      refine st_f (by rw [nnP (by omega)]; exact id) (st_t (nnNe (by omega) (by omega) (by omega)) (st_w (by simp (disch := first | omega | decide) only [lt1, nnMl, nnMr, nnAl, nnAr, nnA, nnM, nnB, nnT, nnP, nnE, nnEl, nnEr, nnL, nnLl, nnLr, nnQ, nnQr, nnN, Nat.add_zero, if_false, if_true, Option.bind_some, not_true, not_false_iff, not_true_eq_false, not_false_eq_true, eq_self, Nat.not_lt_zero, z10, z01, or_true, true_or, or_false, false_or, true_and, false_and, hn10]) ?_))
      exact r1.trans r4
    · by_cases q2 : n = t
      · obtain ⟨e2, r4, r5⟩ := ih F (up1 e n 0) (by omega) (by omega) (fun x p1 p2 => by
          by_cases qx : x = n
          · rw [qx, up1_eq, q2, o3]; rfl
          · rw [up1_ne qx]; exact he x (by omega) p2)
        refine ⟨e2, ?_, r5⟩
        refine st_f (by rw [nnP (by omega)]; exact id) (st_f (fun q => q (by rw [q2])) (st_w (by simp (disch := first | omega | decide) only [lt1, nnMl, nnMr, nnAl, nnAr, nnA, nnM, nnB, nnT, nnP, nnE, nnEl, nnEr, nnL, nnLl, nnLr, nnQ, nnQr, nnN, Nat.add_zero, if_false, if_true, Option.bind_some, not_true, not_false_iff, not_true_eq_false, not_false_eq_true, eq_self, Nat.not_lt_zero, z10, z01, or_true, true_or, or_false, false_or, true_and, false_and, hn10]) ?_))
        rw [skOut h ht (by omega) hn10 (by omega), em]
        exact r4
      · obtain ⟨e2, r4, r5⟩ := ih F (up1 e n 1000000) (by omega) (by omega) (fun x p1 p2 => by
          by_cases qx : x = n
          · rw [qx, up1_eq, (o4 n q2).mp (o2 n (Or.inr (by omega)))]; rfl
          · rw [up1_ne qx]; exact he x (by omega) p2)
        refine ⟨e2, ?_, r5⟩
        refine st_f (by rw [nnP (by omega)]; exact id) (st_t (nnNe (by omega) (by omega) q2) (st_w (by simp (disch := first | omega | decide) only [lt1, nnMl, nnMr, nnAl, nnAr, nnA, nnM, nnB, nnT, nnP, nnE, nnEl, nnEr, nnL, nnLl, nnLr, nnQ, nnQr, nnN, Nat.add_zero, if_false, if_true, Option.bind_some, not_true, not_false_iff, not_true_eq_false, not_false_eq_true, eq_self, Nat.not_lt_zero, z10, z01, or_true, true_or, or_false, false_or, true_and, false_and, hn10]) ?_))
        rw [skOut h ht (by omega) hn10 (by omega), em]
        exact r4
theorem leads_y (h : RNet c (s 216) N C Q) {t f : Nat} (hft : f < t) (htN : t < N) {F : Nat} (hF : 20 < F) : ∃ e, m_leads F (nn f) (nn t) s = some (wyR c C f t, sc s 218 e) ∧ ∀ x, x < 10 → e x = nn (tab c C t t x).2 := by
  have hN := h.hN
  have hf10 : f < 10 := by omega
  obtain ⟨e, r1, r2⟩ := seL h (show t < 10 by omega) (F0 := F) (by omega) 10 F (s 218) (Nat.le_refl _) (by omega) (fun x p1 p2 => absurd p1 (by omega))
  rw [sc_s] at r1
  refine ⟨e, ?_, r2⟩
  obtain ⟨o1, o2, o3, o4, o5, o6⟩ := tab_ok h (show t < 10 by omega) t (Nat.le_refl _)
  have hle : (tab c C t t f).2 ≤ 1000000 := (o1 f).2
  unfold m_leads
  refine st_b (iO_y h.aN hN (show f < N by omega)) (st_f (by decide) (st_b (iO_y h.aN hN htN) (st_f (by decide) (st_t (by rw [nnL (by omega) (by omega)]; exact hft) (st_b (x := sc s 218 e) ?_ (st_t (by simp (disch := first | omega | decide) only [lt1, nnMl, nnMr, nnAl, nnAr, nnA, nnM, nnB, nnT, nnP, nnE, nnEl, nnEr, nnL, nnLl, nnLr, nnQ, nnQr, nnN, Nat.add_zero, if_false, if_true, Option.bind_some, not_true, not_false_iff, not_true_eq_false, not_false_eq_true, eq_self, Nat.not_lt_zero, z10, z01, or_true, true_or, or_false, false_or, true_and, false_and, hf10]) ?_))))))
  · exact r1
  · rw [sc_e, nnT (by omega), r2 f hf10]
    unfold wyR
    by_cases q : (tab c C t t f).2 < 1000000
    · rw [if_pos q]
      refine st_f ?_ rfl
      rw [show (1000000 : Int32) = nn 1000000 from rfl, nnE (by omega) (by omega)]
      omega
    · rw [if_neg q]
      refine st_t ?_ rfl
      rw [show (1000000 : Int32) = nn 1000000 from rfl, nnE (by omega) (by omega)]
      omega
end WC
