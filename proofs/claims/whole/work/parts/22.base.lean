/-! Small numbers, and the small tests of both sides -/
theorem nnI {n : Nat} (h : n < 2147483648) : (nn n).toInt = n := (n32 h).2
theorem nnT {n : Nat} (h : n < 2147483648) : (nn n).toNatClampNeg = n := (n32 h).1
theorem nnB {n k : Nat} (h : n < 2147483648) : (inb (nn n) k = true) = (n < k) := by
  refine propext ⟨fun e => ?_, fun e => n32_inb h e⟩
  unfold inb at e
  rw [nnT h] at e
  simp at e
  exact e.2
theorem nnA (a b : Nat) : nn a + nn b = nn (a + b) := (Int32.ofNat_add a b).symm
theorem nnM (a b : Nat) : nn a * nn b = nn (a * b) := (Int32.ofNat_mul a b).symm
theorem nnAl (a b : Nat) : (no_index (OfNat.ofNat a : Int32)) + nn b = nn (a + b) := nnA a b
theorem nnAr (a b : Nat) : nn a + (no_index (OfNat.ofNat b : Int32)) = nn (a + b) := nnA a b
theorem nnMl (a b : Nat) : (no_index (OfNat.ofNat a : Int32)) * nn b = nn (a * b) := nnM a b
theorem nnMr (a b : Nat) : nn a * (no_index (OfNat.ofNat b : Int32)) = nn (a * b) := nnM a b
theorem nnS {a b : Nat} (h : b ≤ a) : nn a - nn b = nn (a - b) := by
  have : nn a = nn (a - b) + nn b := by rw [nnA, Nat.sub_add_cancel h]
  rw [this, Int32.add_sub_cancel]
theorem nnSr {a b : Nat} (h : b ≤ a) : nn a - (no_index (OfNat.ofNat b : Int32)) = nn (a - b) := nnS h
theorem nnL {a b : Nat} (ha : a < 2147483648) (hb : b < 2147483648) : (nn a < nn b) = (a < b) := by
  rw [Int32.lt_iff_toInt_lt, nnI ha, nnI hb]
  exact propext Int.ofNat_lt
theorem nnE {a b : Nat} (ha : a < 2147483648) (hb : b < 2147483648) : (nn a ≤ nn b) = (a ≤ b) := by
  rw [Int32.le_iff_toInt_le, nnI ha, nnI hb]
  exact propext Int.ofNat_le
theorem nnQ {a b : Nat} (ha : a < 2147483648) (hb : b < 2147483648) : (nn a = nn b) = (a = b) := by
  refine propext ⟨fun e => ?_, fun e => by rw [e]⟩
  have := congrArg Int32.toInt e
  rw [nnI ha, nnI hb] at this
  exact Int.ofNat.inj this
theorem nnLl {a b : Nat} (ha : a < 2147483648) (hb : b < 2147483648) : ((no_index (OfNat.ofNat a : Int32)) < nn b) = (a < b) := nnL ha hb
theorem nnLr {a b : Nat} (ha : a < 2147483648) (hb : b < 2147483648) : (nn a < (no_index (OfNat.ofNat b : Int32))) = (a < b) := nnL ha hb
theorem nnEl {a b : Nat} (ha : a < 2147483648) (hb : b < 2147483648) : ((no_index (OfNat.ofNat a : Int32)) ≤ nn b) = (a ≤ b) := nnE ha hb
theorem nnEr {a b : Nat} (ha : a < 2147483648) (hb : b < 2147483648) : (nn a ≤ (no_index (OfNat.ofNat b : Int32))) = (a ≤ b) := nnE ha hb
theorem nnQr {a b : Nat} (ha : a < 2147483648) (hb : b < 2147483648) : (nn a = (no_index (OfNat.ofNat b : Int32))) = (a = b) := nnQ ha hb
theorem nnN {a : Nat} (ha : a < 2147483648) : (nn a = (-1 : Int32)) = False := by
  refine propext ⟨fun e => ?_, False.elim⟩
  have := congrArg Int32.toInt e
  rw [nnI ha] at this
  have e1 : (-1 : Int32).toInt = -1 := by decide
  omega
theorem nnP {a : Nat} (ha : a < 2147483648) : (nn a < (0 : Int32)) = False := by
  rw [show (0 : Int32) = nn 0 from rfl, nnL ha (by decide)]
  simp
theorem nnD {a b : Nat} (ha : a < 2147483648) (hb : b < 2147483648) : nn a / nn b = nn (a / b) := by
  apply Int32.toInt_inj.mp
  have hq : a / b ≤ a := Nat.div_le_self a b
  have hq0 : (0 : Int) ≤ ((a / b : Nat) : Int) := Int.natCast_nonneg _
  rw [Int32.toInt_div, nnI ha, nnI hb, nnI (by omega), ← Int.ofNat_tdiv, Int.bmod_def, show (2 : Nat) ^ 32 = 4294967296 from rfl]
  generalize a / b = q at *
  split <;> omega
theorem nnDr {a b : Nat} (ha : a < 2147483648) (hb : b < 2147483648) : nn a / (no_index (OfNat.ofNat b : Int32)) = nn (a / b) := nnD ha hb
theorem z10 : ((1 : Int32) = 0) = False := by decide
theorem z01 : ((0 : Int32) = 1) = False := by decide
/-- a value in 0 .. N-1 -/
theorem rg {v : Int32} {N : Nat} (hN : N < 2147483648) : (¬ v < 0 ∧ v < nn N) ↔ ∃ n, n < N ∧ v = nn n := by
  constructor
  · rintro ⟨h1, h2⟩
    have h1 : ¬ v.toInt < 0 := fun e => h1 (Int32.lt_iff_toInt_lt.mpr e)
    have h2 : v.toInt < N := by have := Int32.lt_iff_toInt_lt.mp h2; rwa [nnI hN] at this
    refine ⟨v.toInt.toNat, by omega, ?_⟩
    apply Int32.toInt_inj.mp
    rw [nnI (by omega)]
    omega
  · rintro ⟨n, hn, rfl⟩
    exact ⟨by rw [nnP (by omega)]; exact id, by rw [nnL (by omega) hN]; exact hn⟩
theorem le_lt1 {v : Int32} {N : Nat} (hN : N < 2147483648) : v ≤ nn N - 1 ↔ v < nn N := by
  rw [Int32.le_iff_toInt_le, Int32.lt_iff_toInt_lt, nnI hN]
  have e : (nn N - 1).toInt = (N : Int) - 1 := by
    have e : nn N - 1 = Int32.ofInt ((N : Int) - 1) := by rw [Int32.ofInt_sub]; rfl
    rw [e, Int32.toInt_ofInt, Int.bmod_def, show Int32.size = 4294967296 from rfl]
    omega
  rw [e]
  omega
theorem within_eq (a b c : Int32) (g : Sg) : x_within a b c g = some (if b ≤ a ∧ a ≤ c then 1 else 0) := by
  unfold x_within
  by_cases h1 : a < b
  · rw [if_pos h1, if_neg (fun e => absurd h1 (Int32.not_lt.mpr e.1))]
  · rw [if_neg h1]
    by_cases h2 : c < a
    · rw [if_pos h2, if_neg (fun e => absurd h2 (Int32.not_lt.mpr e.2))]
    · rw [if_neg h2, if_pos ⟨Int32.not_lt.mp h1, Int32.not_lt.mp h2⟩]
theorem isIn_eq (a b c : Int32) (g : Sg) : m_isIn a b c g = some (if b ≤ a ∧ a ≤ c then 1 else 0) := within_eq a b c g
/-- v in 0 .. N-1, of the model's counts -/
theorem rg1 {v : Int32} {N : Nat} (hN : N < 2147483648) : (0 ≤ v ∧ v ≤ nn N - 1) ↔ ∃ n, n < N ∧ v = nn n := by
  rw [← rg hN, le_lt1 hN, Int32.not_lt]
theorem rgK {v : Int32} {K : Nat} (hK : K + 1 < 2147483648) : (0 ≤ v ∧ v ≤ nn K) ↔ ∃ n, n < K + 1 ∧ v = nn n := by
  rw [← rg1 hK]
  have : nn (K + 1) - 1 = nn K := nnS (a := K + 1) (b := 1) (by omega)
  rw [this]
theorem isOf_y {n N : Nat} {w : Int32} {g : Sg} (hw : w = nn N) (hN : N < 2147483648) (h : n < N) : m_isIn (nn n) 0 (w - 1) g = some 1 := by
  rw [isIn_eq, hw, if_pos ((rg1 hN).mpr ⟨n, h, rfl⟩)]
theorem isOf_n {v : Int32} {N : Nat} {w : Int32} {g : Sg} (hw : w = nn N) (hN : N < 2147483648) (h : ¬ ∃ n, n < N ∧ v = nn n) : m_isIn v 0 (w - 1) g = some 0 := by
  rw [isIn_eq, hw, if_neg (fun e => h ((rg1 hN).mp e))]
theorem isInK_y {n K : Nat} {w : Int32} {g : Sg} (hw : w = nn K) (hK : K + 1 < 2147483648) (h : n ≤ K) : m_isIn (nn n) 0 w g = some 1 := by
  rw [isIn_eq, hw, if_pos ((rgK hK).mpr ⟨n, by omega, rfl⟩)]
theorem isInK_n {v : Int32} {K : Nat} {w : Int32} {g : Sg} (hw : w = nn K) (hK : K + 1 < 2147483648) (h : ¬ ∃ n, n < K + 1 ∧ v = nn n) : m_isIn v 0 w g = some 0 := by
  rw [isIn_eq, hw, if_neg (fun e => h ((rgK hK).mp e))]
theorem wthK_y {n K : Nat} {w : Int32} {g : Sg} (hw : w = nn K) (hK : K + 1 < 2147483648) (h : n ≤ K) : x_within (nn n) 0 w g = some 1 := isInK_y (g := g) hw hK h
theorem wthK_n {v : Int32} {K : Nat} {w : Int32} {g : Sg} (hw : w = nn K) (hK : K + 1 < 2147483648) (h : ¬ ∃ n, n < K + 1 ∧ v = nn n) : x_within v 0 w g = some 0 := isInK_n (g := g) hw hK h
section RN
variable {g : Sg} {N C Q D T L G : Nat} {v : Int32}
theorem hasNode_y (h : RNet g (g 216) N C Q) {n : Nat} (hn : n < N) : net_hasNode (nn n) g = some 1 := by
  have := h.hN
  unfold net_hasNode
  rw [h.cN]
  simp (disch := first | omega | decide) only [nnP, nnE, nnEl, if_false]
  rw [if_neg (show ¬ N ≤ n by omega), if_neg (show ¬ 10 ≤ n by omega)]
theorem hasNode_n (h : RNet g (g 216) N C Q) (hn : ¬ ∃ n, n < N ∧ v = nn n) : net_hasNode v g = some 0 := by
  have := h.hN
  unfold net_hasNode
  rw [h.cN]
  by_cases h1 : v < 0
  · rw [if_pos h1]
  · rw [if_neg h1]
    by_cases h2 : nn N ≤ v
    · rw [if_pos h2]
    · exact absurd ((rg (by omega)).mp ⟨h1, Int32.not_le.mp h2⟩) hn
theorem hasChan_y (h : RNet g (g 216) N C Q) {n : Nat} (hn : n < C) : net_hasChannel (nn n) g = some 1 := by
  have := h.hC
  unfold net_hasChannel
  rw [h.cC]
  simp (disch := first | omega | decide) only [nnP, nnE, nnEl, if_false]
  rw [if_neg (show ¬ C ≤ n by omega), if_neg (show ¬ 14 ≤ n by omega)]
theorem hasChan_n (h : RNet g (g 216) N C Q) (hn : ¬ ∃ n, n < C ∧ v = nn n) : net_hasChannel v g = some 0 := by
  have := h.hC
  unfold net_hasChannel
  rw [h.cC]
  by_cases h1 : v < 0
  · rw [if_pos h1]
  · rw [if_neg h1]
    by_cases h2 : nn C ≤ v
    · rw [if_pos h2]
    · exact absurd ((rg (by omega)).mp ⟨h1, Int32.not_le.mp h2⟩) hn
theorem isOf0_y (h : RNet g (g 216) N C Q) {n : Nat} (hn : n < N) : m_isOf_k0 (nn n) g = some 1 := by
  unfold m_isOf_k0
  rw [isOf_y h.aN (by have := h.hN; omega) hn]
  rfl
theorem isOf0_n (h : RNet g (g 216) N C Q) (hn : ¬ ∃ n, n < N ∧ v = nn n) : m_isOf_k0 v g = some 0 := by
  unfold m_isOf_k0
  rw [isOf_n h.aN (by have := h.hN; omega) hn]
  rfl
theorem isOf1_y (h : RNet g (g 216) N C Q) {n : Nat} (hn : n < C) : m_isOf_k1 (nn n) g = some 1 := by
  unfold m_isOf_k1
  rw [isOf_y h.aC (by have := h.hC; omega) hn]
  rfl
theorem isOf1_n (h : RNet g (g 216) N C Q) (hn : ¬ ∃ n, n < C ∧ v = nn n) : m_isOf_k1 v g = some 0 := by
  unfold m_isOf_k1
  rw [isOf_n h.aC (by have := h.hC; omega) hn]
  rfl
end RN
