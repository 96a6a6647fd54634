/-! stolen: what both sides reckon -/
theorem pigeon : ∀ (n m : Nat) (f : Nat → Nat), (∀ i, i < m → f i < n) → (∀ i j, i < m → j < m → f i = f j → i = j) → m ≤ n := by
  intro n
  induction n with
  | zero =>
    intro m f h _
    by_cases e : m = 0
    · omega
    · exact absurd (h 0 (by omega)) (by omega)
  | succ n ih =>
    intro m f h hi
    by_cases e : m = 0
    · omega
    obtain ⟨k, rfl⟩ : ∃ k, m = k + 1 := ⟨m - 1, by omega⟩
    have := ih k (fun i => if f k < f i then f i - 1 else f i) (fun i hk => by
      show (if f k < f i then f i - 1 else f i) < n
      have h1 := h i (by omega)
      have h2 := h k (by omega)
      have h3 : f i ≠ f k := fun q => by
        have := hi i k (by omega) (by omega) q
        omega
      split <;> omega) (fun i j h1 h2 h3 => by
      have h3 : (if f k < f i then f i - 1 else f i) = (if f k < f j then f j - 1 else f j) := h3
      have h4 : f i ≠ f k := fun q => by
        have := hi i k (by omega) (by omega) q
        omega
      have h5 : f j ≠ f k := fun q => by
        have := hi j k (by omega) (by omega) q
        omega
      refine hi i j (by omega) (by omega) ?_
      split at h3 <;> split at h3 <;> omega)
    omega
def lstR (c : Sg) (x q : Int32) : Nat → Option Nat
  | 0 => none
  | r + 1 => if c 43 r = x ∧ c 44 r = q then some r else lstR c x q r
theorem lstR_p {c : Sg} {x q : Int32} : ∀ {n r : Nat}, lstR c x q n = some r → r < n ∧ c 43 r = x ∧ c 44 r = q
  | 0, r, h => by cases h
  | n + 1, r, h => by
    by_cases e : c 43 n = x ∧ c 44 n = q
    · rw [show lstR c x q (n + 1) = some n from if_pos e] at h
      cases h
      exact ⟨Nat.lt_succ_self _, e⟩
    · rw [show lstR c x q (n + 1) = lstR c x q n from if_neg e] at h
      have := lstR_p h
      exact ⟨by omega, this.2⟩
def leI (c : Sg) (t : Int32) (r : Nat) : Int32 := c 45 r - c 45 r * c 12 (cn c 43 r) / 1000 - t
def moI (c : Sg) (t : Int32) (r : Nat) : Int32 := c 45 r - c 45 r * c 11 (cn c 43 r) / 1000 + t
def lkI (c : Sg) (t : Int32) (r : Nat) : Int32 := leI c t r - c 46 r
def CNT (c : Sg) (x : Int32) (G r : Nat) : Prop := c 43 r = x ∧ lstR c x (c 44 r) G = some r
def STO (c : Sg) (t : Int32) (r : Nat) : Prop := 0 < lkI c t r
def SA (c : Sg) (x t : Int32) (G : Nat) (q : Int32) : Prop := ∃ r, lstR c x q G = some r ∧ STO c t r
theorem ofI_lt {a b : Int} (ha : -100000 < a) (ha2 : a < 100000) (hb : -100000 < b) (hb2 : b < 100000) : Int32.ofInt a < Int32.ofInt b ↔ a < b := by
  rw [Int32.lt_iff_toInt_lt, Int32.toInt_ofInt, Int32.toInt_ofInt, Int.bmod_def, Int.bmod_def, show Int32.size = 4294967296 from rfl]
  omega
theorem nn_ofI (n : Nat) : nn n = Int32.ofInt n := rfl
section WI
variable {c : Sg} {a0 : Nat → Int32} {N C Q G : Nat}
theorem row_v (h : RNet c a0 N C Q) (r : RGau c a0 G C Q) {i : Nat} (hi : i < G) : ∃ k q v o lo hi, k < C ∧ q ≤ Q ∧ v ≤ 9999 ∧ o ≤ 9999 ∧ lo ≤ 500 ∧ hi ≤ 500 ∧ c 43 i = nn k ∧ cn c 43 i = k ∧ c 44 i = nn q ∧ c 45 i = nn v ∧ c 46 i = nn o ∧ c 11 k = nn lo ∧ c 12 k = nn hi := by
  have hC := h.hC
  obtain ⟨k, k1, k2⟩ := r.gC i hi
  obtain ⟨q, q1, q2⟩ := r.gQ i hi
  obtain ⟨v, v1, v2⟩ := r.gI i hi
  obtain ⟨o, o1, o2⟩ := r.gO i hi
  obtain ⟨lo, l1, l2⟩ := h.lowV k k1
  obtain ⟨hi, h1, h2⟩ := h.higV k k1
  exact ⟨k, q, v, o, lo, hi, k1, q1, v1, o1, l1, h1, k2, by unfold cn; rw [k2, nnT (by omega)], q2, v2, o2, l2, h2⟩
theorem lack_lt (h : RNet c a0 N C Q) (r : RGau c a0 G C Q) {i tt : Nat} (hi : i < G) (ht : tt ≤ 999) : c 46 i < leI c (nn tt) i ↔ STO c (nn tt) i := by
  obtain ⟨k, q, v, o, lo, hh, _, _, v1, o1, _, h1, e1, e2, e3, e4, e5, e6, e7⟩ := row_v h r hi
  unfold STO lkI leI
  rw [e2, e4, e5, e7, nnM]
  have e8 : nn (v * hh) / 1000 = nn (v * hh / 1000) := by
    have : v * hh ≤ 9999 * 500 := Nat.mul_le_mul v1 h1
    simp (disch := first | omega | decide) only [lt1, nnMl, nnMr, nnAl, nnAr, nnA, nnM, nnB, nnT, nnP, nnE, nnEl, nnEr, nnL, nnLl, nnLr, nnQ, nnQr, nnN, Nat.add_zero, if_false, if_true, Option.bind_some, not_true, not_false_iff, not_true_eq_false, not_false_eq_true, eq_self, Nat.not_lt_zero, z10, z01, or_true, true_or, or_false, false_or, true_and, false_and, nnDr]
  have e9 : v * hh / 1000 ≤ v := by
    have : v * hh ≤ v * 500 := Nat.mul_le_mul (Nat.le_refl v) h1
    omega
  rw [e8, nnS e9]
  have hw : v - v * hh / 1000 ≤ 9999 := by omega
  generalize v - v * hh / 1000 = w at *
  rw [nn_ofI, nn_ofI, nn_ofI, ← Int32.ofInt_sub, ← Int32.ofInt_sub, show (0 : Int32) = Int32.ofInt 0 from rfl, ofI_lt (by omega) (by omega) (by omega) (by omega), ofI_lt (by omega) (by omega) (by omega) (by omega)]
  omega
end WI
/-- runs of quarters -/
def isRun (c : Sg) (x t : Int32) (G q L : Nat) : Prop := (∀ i, 1 ≤ i → i ≤ L → SA c x t G (nn (q + i))) ∧ ¬ SA c x t G (nn (q + L + 1))
theorem isRun.u {c : Sg} {x t : Int32} {G q L L2 : Nat} (h : isRun c x t G q L) (h2 : isRun c x t G q L2) : L = L2 := by
  by_cases e : L < L2
  · exact absurd (h2.1 (L + 1) (by omega) (by omega)) h.2
  · by_cases e2 : L2 < L
    · exact absurd (h.1 (L2 + 1) (by omega) (by omega)) h2.2
    · omega
theorem isRun.p {c : Sg} {x t : Int32} {G q L : Nat} (h : isRun c x t G (q + 1) L) (h2 : SA c x t G (nn (q + 1))) : isRun c x t G q (L + 1) := by
  refine ⟨fun i h3 h4 => ?_, ?_⟩
  · by_cases e : i = 1
    · rw [e]; exact h2
    · have := h.1 (i - 1) (by omega) (by omega)
      rwa [show q + 1 + (i - 1) = q + i by omega] at this
  · have := h.2
    rwa [show q + 1 + L + 1 = q + (L + 1) + 1 by omega] at this
theorem run_ex {c : Sg} {x t : Int32} {G q : Nat} (hG : G ≤ 150) (hq : q ≤ 9599) (h : SA c x t G (nn q)) : ∃ L, L ≤ 149 ∧ isRun c x t G q L := by
  have step : ∀ k, (∀ i, 1 ≤ i → i ≤ k → SA c x t G (nn (q + i))) ∨ ∃ L, L < k ∧ isRun c x t G q L := by
    intro k
    induction k with
    | zero => exact Or.inl (fun i h1 h2 => absurd h1 (by omega))
    | succ k ih =>
      rcases ih with ih | ⟨L, h1, h2⟩
      · by_cases e : SA c x t G (nn (q + k + 1))
        · refine Or.inl (fun i h1 h2 => ?_)
          by_cases e2 : i = k + 1
          · rw [e2]; exact e
          · exact ih i h1 (by omega)
        · exact Or.inr ⟨k, Nat.lt_succ_self _, ih, e⟩
      · exact Or.inr ⟨L, by omega, h2⟩
  rcases step 150 with h1 | ⟨L, h1, h2⟩
  · exfalso
    have hh : ∀ i, ∃ r, i < 151 → r < G ∧ c 44 r = nn (q + i) := fun i => by
      by_cases e : i < 151
      · have : SA c x t G (nn (q + i)) := by
          by_cases e0 : i = 0
          · rw [e0]; exact h
          · exact h1 i (by omega) (by omega)
        obtain ⟨r, r1, _⟩ := this
        have := lstR_p r1
        exact ⟨r, fun _ => ⟨this.1, this.2.2⟩⟩
      · exact ⟨0, fun e2 => absurd e2 e⟩
    obtain ⟨f, hf⟩ := Classical.axiomOfChoice hh
    have := pigeon G 151 f (fun i hi => (hf i hi).1) (fun i j hi hj e => by
      have e1 := (hf i hi).2
      have e2 := (hf j hj).2
      rw [e, e2, nnQ (by omega) (by omega)] at e1
      omega)
    omega
  · exact ⟨L, by omega, h2⟩
noncomputable def b01 (P : Prop) : Int32 := by
  classical
  exact if P then 1 else 0
theorem b01_y {P : Prop} (h : P) : b01 P = 1 := if_pos h
theorem b01_n {P : Prop} (h : ¬ P) : b01 P = 0 := if_neg h
section WJ
variable {g : Sg} {N C Q G : Nat}
theorem latL (r : RGau g (g 216) G C Q) {x q : Int32} : ∀ n F, n ≤ G → n < F → gauges_latestRow_7 F x q (nn n - 1) g = some (oN (lstR g x q n)) := by
  have hG := r.hG
  intro n
  induction n with
  | zero =>
    intro F h1 h2
    obtain ⟨F, rfl⟩ : ∃ F2, F = F2 + 1 := ⟨F - 1, by omega⟩
    unfold gauges_latestRow_7
    exact st_t (by decide) rfl
  | succ n ih =>
    intro F h1 h2
    obtain ⟨F, rfl⟩ : ∃ F2, F = F2 + 1 := ⟨F - 1, by omega⟩
    have hn : n < 150 := by omega
    have hi : inb (nn n) 150 = true := by simp (disch := first | omega | decide) only [lt1, nnMl, nnMr, nnAl, nnAr, nnA, nnM, nnB, nnT, nnP, nnE, nnEl, nnEr, nnL, nnLl, nnLr, nnQ, nnQr, nnN, Nat.add_zero, if_false, if_true, Option.bind_some, not_true, not_false_iff, not_true_eq_false, not_false_eq_true, eq_self, Nat.not_lt_zero, z10, z01, or_true, true_or, or_false, false_or, true_and, false_and, hn]
    have em : nn n + (-1) = nn n - 1 := (Int32.sub_eq_add_neg _ _).symm
    have IH := ih F (by omega) (by omega)
    unfold gauges_latestRow_7
    rw [nnS1, nnT (by omega), em]
    refine st_f (by rw [nnP (by omega)]; exact id) (st_t hi ?_)
    by_cases e1 : g 43 n = x
    · refine st_f (fun e => e e1) (st_t hi ?_)
      by_cases e2 : g 44 n = q
      · rw [show lstR g x q (n + 1) = some n from if_pos ⟨e1, e2⟩]
        exact st_f (fun e => e e2) rfl
      · rw [show lstR g x q (n + 1) = lstR g x q n from if_neg (fun e => e2 e.2)]
        exact st_t e2 IH
    · rw [show lstR g x q (n + 1) = lstR g x q n from if_neg (fun e => e1 e.1)]
      exact st_t e1 IH
theorem lat_x (r : RGau g (g 216) G C Q) {x q : Int32} {F : Nat} (hF : 150 < F) : gauges_latestRow F x q g = some (oN (lstR g x q G)) := by
  unfold gauges_latestRow
  rw [r.cG]
  exact st_l (latL r G F (Nat.le_refl _) (by have := r.hG; omega))
theorem rowML (r : RGau g (g 216) G C Q) {x q : Int32} : ∀ m n F, n + m = G → m < F → m_rowOf_5 F x q (oN (lstR g x q n)) (nn n) g = some (oN (lstR g x q G)) := by
  have hG := r.hG
  intro m
  induction m with
  | zero =>
    intro n F h1 h2
    obtain ⟨F, rfl⟩ : ∃ F2, F = F2 + 1 := ⟨F - 1, by omega⟩
    have : n = G := by omega
    subst this
    unfold m_rowOf_5
    rw [r.aG]
    exact if_pos (Int32.le_refl _)
  | succ m ih =>
    intro n F h1 h2
    obtain ⟨F, rfl⟩ : ∃ F2, F = F2 + 1 := ⟨F - 1, by omega⟩
    have hn : n < 150 := by omega
    have i0 : 1270 + 4 * n < 20360 := by omega
    have i1 : 1270 + 4 * n + 1 < 20360 := by omega
    have h3 : ¬ G ≤ n := by omega
    have x0 : (1270 + 4 * nn n : Int32) = nn (1270 + 4 * n) := by simp (disch := first | omega | decide) only [lt1, nnMl, nnMr, nnAl, nnAr, nnA, nnM, nnB, nnT, nnP, nnE, nnEl, nnEr, nnL, nnLl, nnLr, nnQ, nnQr, nnN, Nat.add_zero, if_false, if_true, Option.bind_some, not_true, not_false_iff, not_true_eq_false, not_false_eq_true, eq_self, Nat.not_lt_zero, z10, z01, or_true, true_or, or_false, false_or, true_and, false_and]
    have x1 : nn (1270 + 4 * n) + 1 = nn (1270 + 4 * n + 1) := nnA _ 1
    have IH := ih (n + 1) F (by omega) (by omega)
    unfold m_rowOf_5
    rw [r.aG, x0, x1, nnT (show 1270 + 4 * n < 2147483648 by omega), nnT (show 1270 + 4 * n + 1 < 2147483648 by omega), r.g0 n hn, r.g1 n hn, show nn n + 1 = nn (n + 1) from nnA n 1]
    refine st_f (by simp (disch := first | omega | decide) only [lt1, nnMl, nnMr, nnAl, nnAr, nnA, nnM, nnB, nnT, nnP, nnE, nnEl, nnEr, nnL, nnLl, nnLr, nnQ, nnQr, nnN, Nat.add_zero, if_false, if_true, Option.bind_some, not_true, not_false_iff, not_true_eq_false, not_false_eq_true, eq_self, Nat.not_lt_zero, z10, z01, or_true, true_or, or_false, false_or, true_and, false_and, h3]) (st_t (by simp (disch := first | omega | decide) only [lt1, nnMl, nnMr, nnAl, nnAr, nnA, nnM, nnB, nnT, nnP, nnE, nnEl, nnEr, nnL, nnLl, nnLr, nnQ, nnQr, nnN, Nat.add_zero, if_false, if_true, Option.bind_some, not_true, not_false_iff, not_true_eq_false, not_false_eq_true, eq_self, Nat.not_lt_zero, z10, z01, or_true, true_or, or_false, false_or, true_and, false_and, i0]) ?_)
    by_cases e1 : g 43 n = x
    · refine st_f (fun e => e e1) (st_t (by simp (disch := first | omega | decide) only [lt1, nnMl, nnMr, nnAl, nnAr, nnA, nnM, nnB, nnT, nnP, nnE, nnEl, nnEr, nnL, nnLl, nnLr, nnQ, nnQr, nnN, Nat.add_zero, if_false, if_true, Option.bind_some, not_true, not_false_iff, not_true_eq_false, not_false_eq_true, eq_self, Nat.not_lt_zero, z10, z01, or_true, true_or, or_false, false_or, true_and, false_and, i1]) ?_)
      by_cases e2 : g 44 n = q
      · rw [show lstR g x q (n + 1) = some n from if_pos ⟨e1, e2⟩] at IH
        exact st_f (fun e => e e2) IH
      · rw [show lstR g x q (n + 1) = lstR g x q n from if_neg (fun e => e2 e.2)] at IH
        exact st_t e2 IH
    · rw [show lstR g x q (n + 1) = lstR g x q n from if_neg (fun e => e1 e.1)] at IH
      exact st_t e1 IH
theorem row_m (r : RGau g (g 216) G C Q) {x q : Int32} {F : Nat} (hF : 150 < F) : m_rowOf F x q g = some (oN (lstR g x q G)) := rowML r G 0 F (Nat.zero_add _) (by have := r.hG; omega)
theorem oN_eq {o : Option Nat} {i : Nat} (hi : i < 2147483648) (h : ∀ j, o = some j → j < 2147483648) : oN o = nn i ↔ o = some i := by
  cases o with
  | none => exact ⟨fun e => absurd e (nnN1 hi), fun e => by cases e⟩
  | some j =>
    have hj := h j rfl
    constructor
    · intro e
      have e : nn j = nn i := e
      rw [nnQ hj hi] at e
      rw [e]
    · intro e
      cases e
      rfl
theorem cnt_x (r : RGau g (g 216) G C Q) {i : Nat} (hi : i < G) {x : Int32} {F : Nat} (hF : 150 < F) : gauges_counts F (nn i) x g = some (b01 (CNT g x G i)) := by
  have hG := r.hG
  have hi5 : i < 150 := by omega
  unfold gauges_counts
  rw [nnT (by omega)]
  refine st_t (by simp (disch := first | omega | decide) only [lt1, nnMl, nnMr, nnAl, nnAr, nnA, nnM, nnB, nnT, nnP, nnE, nnEl, nnEr, nnL, nnLl, nnLr, nnQ, nnQr, nnN, Nat.add_zero, if_false, if_true, Option.bind_some, not_true, not_false_iff, not_true_eq_false, not_false_eq_true, eq_self, Nat.not_lt_zero, z10, z01, or_true, true_or, or_false, false_or, true_and, false_and, hi5]) ?_
  by_cases e : g 43 i = x
  · refine st_f (fun q => q e) (st_t (by simp (disch := first | omega | decide) only [lt1, nnMl, nnMr, nnAl, nnAr, nnA, nnM, nnB, nnT, nnP, nnE, nnEl, nnEr, nnL, nnLl, nnLr, nnQ, nnQr, nnN, Nat.add_zero, if_false, if_true, Option.bind_some, not_true, not_false_iff, not_true_eq_false, not_false_eq_true, eq_self, Nat.not_lt_zero, z10, z01, or_true, true_or, or_false, false_or, true_and, false_and, hi5]) (st_b (lat_x r hF) ?_))
    have k := oN_eq (o := lstR g x (g 44 i) G) (i := i) (by omega) (fun j hj => by have := (lstR_p hj).1; omega)
    by_cases e2 : lstR g x (g 44 i) G = some i
    · rw [b01_y ⟨e, e2⟩]
      exact st_f (fun q => q (k.mpr e2)) rfl
    · rw [b01_n (fun q => e2 q.2)]
      exact st_t (fun q => e2 (k.mp q)) rfl
  · rw [b01_n (fun q => e q.1)]
    exact st_t e rfl
theorem lst_x (h : RNet g (g 216) N C Q) (r : RGau g (g 216) G C Q) {i : Nat} (hi : i < G) {t : Int32} : gauges_leastThatCloses (nn i) t g = some (leI g t i) ∧ gauges_mostThatCloses (nn i) t g = some (moI g t i) := by
  have hG := r.hG
  have hC := h.hC
  have hi5 : i < 150 := by omega
  have hin : inb (nn i) 150 = true := by simp (disch := first | omega | decide) only [lt1, nnMl, nnMr, nnAl, nnAr, nnA, nnM, nnB, nnT, nnP, nnE, nnEl, nnEr, nnL, nnLl, nnLr, nnQ, nnQr, nnN, Nat.add_zero, if_false, if_true, Option.bind_some, not_true, not_false_iff, not_true_eq_false, not_false_eq_true, eq_self, Nat.not_lt_zero, z10, z01, or_true, true_or, or_false, false_or, true_and, false_and, hi5]
  obtain ⟨k, k1, k2⟩ := r.gC i hi
  have hk14 : k < 14 := by omega
  have ek : cn g 43 i = k := by unfold cn; rw [k2, nnT (by omega)]
  constructor
  · unfold gauges_leastThatCloses leI
    rw [nnT (show i < 2147483648 by omega), k2, ek]
    refine st_w hin (st_b (hC_y h.cC hC k1) (st_f (by decide) (st_t hin (st_t hin (st_t (by simp (disch := first | omega | decide) only [lt1, nnMl, nnMr, nnAl, nnAr, nnA, nnM, nnB, nnT, nnP, nnE, nnEl, nnEr, nnL, nnLl, nnLr, nnQ, nnQr, nnN, Nat.add_zero, if_false, if_true, Option.bind_some, not_true, not_false_iff, not_true_eq_false, not_false_eq_true, eq_self, Nat.not_lt_zero, z10, z01, or_true, true_or, or_false, false_or, true_and, false_and, hk14]) ?_)))))
    rw [nnT (show k < 2147483648 by omega)]
  · unfold gauges_mostThatCloses moI
    rw [nnT (show i < 2147483648 by omega), k2, ek]
    refine st_w hin (st_b (hC_y h.cC hC k1) (st_f (by decide) (st_t hin (st_t hin (st_t (by simp (disch := first | omega | decide) only [lt1, nnMl, nnMr, nnAl, nnAr, nnA, nnM, nnB, nnT, nnP, nnE, nnEl, nnEr, nnL, nnLl, nnLr, nnQ, nnQr, nnN, Nat.add_zero, if_false, if_true, Option.bind_some, not_true, not_false_iff, not_true_eq_false, not_false_eq_true, eq_self, Nat.not_lt_zero, z10, z01, or_true, true_or, or_false, false_or, true_and, false_and, hk14]) ?_)))))
    rw [nnT (show k < 2147483648 by omega)]
theorem lack_x (h : RNet g (g 216) N C Q) (r : RGau g (g 216) G C Q) {i : Nat} (hi : i < G) {t : Int32} : gauges_lack (nn i) t g = some (if 0 < lkI g t i then lkI g t i else 0) := by
  have hG := r.hG
  have hi5 : i < 150 := by omega
  unfold gauges_lack
  rw [nnT (show i < 2147483648 by omega)]
  exact st_b (lst_x h r hi).1 (st_t (by simp (disch := first | omega | decide) only [lt1, nnMl, nnMr, nnAl, nnAr, nnA, nnM, nnB, nnT, nnP, nnE, nnEl, nnEr, nnL, nnLl, nnLr, nnQ, nnQr, nnN, Nat.add_zero, if_false, if_true, Option.bind_some, not_true, not_false_iff, not_true_eq_false, not_false_eq_true, eq_self, Nat.not_lt_zero, z10, z01, or_true, true_or, or_false, false_or, true_and, false_and, hi5]) rfl)
theorem lackle {v : Int32} : ((if 0 < v then v else 0) ≤ 0) ↔ ¬ 0 < v := by
  by_cases e : 0 < v
  · rw [if_pos e]
    exact ⟨fun q => absurd e (Int32.not_lt.mpr q), fun q => absurd e q⟩
  · rw [if_neg e]
    exact ⟨fun _ => e, fun _ => Int32.le_refl _⟩
theorem lacksAt_x (h : RNet g (g 216) N C Q) (r : RGau g (g 216) G C Q) {x q t : Int32} {F : Nat} (hF : 150 < F) : gauges_lacksAt F x q t g = some (b01 (SA g x t G q)) := by
  have hG := r.hG
  unfold gauges_lacksAt
  refine st_b (lat_x r hF) ?_
  cases e : lstR g x q G with
  | none =>
    rw [b01_n (fun ⟨r, q1, _⟩ => by rw [e] at q1; cases q1)]
    exact st_t rfl rfl
  | some i =>
    have hi := (lstR_p e).1
    refine st_f (show ¬ nn i = -1 from fun q => nnN1 (by omega) q.symm) (st_b (lack_x h r hi) ?_)
    by_cases e2 : 0 < lkI g t i
    · rw [b01_y ⟨i, e, e2⟩]
      exact st_f (fun q => (lackle.mp q) e2) rfl
    · rw [b01_n (fun ⟨r2, q1, q2⟩ => by rw [e] at q1; cases q1; exact e2 q2)]
      exact st_t (lackle.mpr e2) rfl
theorem rowIx (i : Nat) : (1270 + 4 * nn i : Int32) = nn (1270 + 4 * i) ∧ nn (1270 + 4 * i) + 1 = nn (1270 + 4 * i + 1) ∧ nn (1270 + 4 * i) + 2 = nn (1270 + 4 * i + 2) ∧ nn (1270 + 4 * i) + 3 = nn (1270 + 4 * i + 3) := by
  refine ⟨?_, nnA _ 1, nnA _ 2, nnA _ 3⟩
  simp (disch := first | omega | decide) only [lt1, nnMl, nnMr, nnAl, nnAr, nnA, nnM, nnB, nnT, nnP, nnE, nnEl, nnEr, nnL, nnLl, nnLr, nnQ, nnQr, nnN, Nat.add_zero, if_false, if_true, Option.bind_some, not_true, not_false_iff, not_true_eq_false, not_false_eq_true, eq_self, Nat.not_lt_zero, z10, z01, or_true, true_or, or_false, false_or, true_and, false_and]
theorem lacks_m (h : RNet g (g 216) N C Q) (r : RGau g (g 216) G C Q) {i : Nat} (hi : i < G) {t : Int32} : m_lacks (nn i) t g = some (lkI g t i) := by
  have hG := r.hG
  have hC := h.hC
  have hi5 : i < 150 := by omega
  have i0 : 1270 + 4 * i < 20360 := by omega
  have i2 : 1270 + 4 * i + 2 < 20360 := by omega
  have i3 : 1270 + 4 * i + 3 < 20360 := by omega
  obtain ⟨x0, x1, x2, x3⟩ := rowIx i
  obtain ⟨k, k1, k2⟩ := r.gC i hi
  have ek : cn g 43 i = k := by unfold cn; rw [k2, nnT (by omega)]
  unfold m_lacks lkI leI
  rw [x0, x2, x3, nnT (show 1270 + 4 * i < 2147483648 by omega), nnT (show 1270 + 4 * i + 2 < 2147483648 by omega), nnT (show 1270 + 4 * i + 3 < 2147483648 by omega), r.g0 i hi5, r.g2 i hi5, r.g3 i hi5, k2, ek]
  exact st_w (by simp (disch := first | omega | decide) only [lt1, nnMl, nnMr, nnAl, nnAr, nnA, nnM, nnB, nnT, nnP, nnE, nnEl, nnEr, nnL, nnLl, nnLr, nnQ, nnQr, nnN, Nat.add_zero, if_false, if_true, Option.bind_some, not_true, not_false_iff, not_true_eq_false, not_false_eq_true, eq_self, Nat.not_lt_zero, z10, z01, or_true, true_or, or_false, false_or, true_and, false_and, i2]) (st_t (by simp (disch := first | omega | decide) only [lt1, nnMl, nnMr, nnAl, nnAr, nnA, nnM, nnB, nnT, nnP, nnE, nnEl, nnEr, nnL, nnLl, nnLr, nnQ, nnQr, nnN, Nat.add_zero, if_false, if_true, Option.bind_some, not_true, not_false_iff, not_true_eq_false, not_false_eq_true, eq_self, Nat.not_lt_zero, z10, z01, or_true, true_or, or_false, false_or, true_and, false_and, i0]) (st_b (mch3 h (show k < 14 by omega)) (st_t (by simp (disch := first | omega | decide) only [lt1, nnMl, nnMr, nnAl, nnAr, nnA, nnM, nnB, nnT, nnP, nnE, nnEl, nnEr, nnL, nnLl, nnLr, nnQ, nnQr, nnN, Nat.add_zero, if_false, if_true, Option.bind_some, not_true, not_false_iff, not_true_eq_false, not_false_eq_true, eq_self, Nat.not_lt_zero, z10, z01, or_true, true_or, or_false, false_or, true_and, false_and, i3]) rfl)))
theorem closes_m (h : RNet g (g 216) N C Q) (r : RGau g (g 216) G C Q) {i : Nat} (hi : i < G) {t : Int32} : m_closes (nn i) t g = some (b01 (¬ STO g t i ∧ ¬ moI g t i < g 46 i)) := by
  have hG := r.hG
  have hC := h.hC
  have hi5 : i < 150 := by omega
  have i0 : 1270 + 4 * i < 20360 := by omega
  have i2 : 1270 + 4 * i + 2 < 20360 := by omega
  have i3 : 1270 + 4 * i + 3 < 20360 := by omega
  obtain ⟨x0, x1, x2, x3⟩ := rowIx i
  obtain ⟨k, k1, k2⟩ := r.gC i hi
  have ek : cn g 43 i = k := by unfold cn; rw [k2, nnT (by omega)]
  unfold m_closes
  rw [x0, x2, x3, nnT (show 1270 + 4 * i < 2147483648 by omega), nnT (show 1270 + 4 * i + 2 < 2147483648 by omega), nnT (show 1270 + 4 * i + 3 < 2147483648 by omega), r.g0 i hi5, r.g2 i hi5, r.g3 i hi5, k2]
  refine st_w (by simp (disch := first | omega | decide) only [lt1, nnMl, nnMr, nnAl, nnAr, nnA, nnM, nnB, nnT, nnP, nnE, nnEl, nnEr, nnL, nnLl, nnLr, nnQ, nnQr, nnN, Nat.add_zero, if_false, if_true, Option.bind_some, not_true, not_false_iff, not_true_eq_false, not_false_eq_true, eq_self, Nat.not_lt_zero, z10, z01, or_true, true_or, or_false, false_or, true_and, false_and, i2]) (st_b (lacks_m h r hi) ?_)
  by_cases e : 0 < lkI g t i
  · rw [b01_n (fun q => q.1 e)]
    exact st_t e rfl
  · refine st_f e (st_t (by simp (disch := first | omega | decide) only [lt1, nnMl, nnMr, nnAl, nnAr, nnA, nnM, nnB, nnT, nnP, nnE, nnEl, nnEr, nnL, nnLl, nnLr, nnQ, nnQr, nnN, Nat.add_zero, if_false, if_true, Option.bind_some, not_true, not_false_iff, not_true_eq_false, not_false_eq_true, eq_self, Nat.not_lt_zero, z10, z01, or_true, true_or, or_false, false_or, true_and, false_and, i3]) (st_t (by simp (disch := first | omega | decide) only [lt1, nnMl, nnMr, nnAl, nnAr, nnA, nnM, nnB, nnT, nnP, nnE, nnEl, nnEr, nnL, nnLl, nnLr, nnQ, nnQr, nnN, Nat.add_zero, if_false, if_true, Option.bind_some, not_true, not_false_iff, not_true_eq_false, not_false_eq_true, eq_self, Nat.not_lt_zero, z10, z01, or_true, true_or, or_false, false_or, true_and, false_and, i0]) (st_b (mch2 h (show k < 14 by omega)) ?_)))
    have em : g 45 i - g 45 i * g 11 k / 1000 + t = moI g t i := by unfold moI; rw [ek]
    rw [em]
    by_cases e2 : moI g t i < g 46 i
    · rw [b01_n (fun q => q.2 e2)]
      exact st_t e2 rfl
    · rw [b01_y ⟨e, e2⟩]
      exact st_f e2 rfl
theorem isSto_m (h : RNet g (g 216) N C Q) (r : RGau g (g 216) G C Q) {x q t : Int32} {F : Nat} (hF : 150 < F) : m_isStolen F x q t g = some (b01 (SA g x t G q)) := by
  have hG := r.hG
  unfold m_isStolen
  refine st_b (row_m r hF) ?_
  cases e : lstR g x q G with
  | none =>
    rw [b01_n (fun ⟨r, q1, _⟩ => by rw [e] at q1; cases q1)]
    exact st_t (show (-1 : Int32) < 0 by decide) rfl
  | some i =>
    have hi := (lstR_p e).1
    refine st_f (show ¬ nn i < 0 by rw [nnP (by omega)]; exact id) (st_b (lacks_m h r hi) ?_)
    by_cases e2 : 0 < lkI g t i
    · rw [b01_y ⟨i, e, e2⟩]
      exact st_f (Int32.not_le.mpr e2) rfl
    · rw [b01_n (fun ⟨r2, q1, q2⟩ => by rw [e] at q1; cases q1; exact e2 q2)]
      exact st_t (Int32.not_lt.mp e2) rfl
end WJ
