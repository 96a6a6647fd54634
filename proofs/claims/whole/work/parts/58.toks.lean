/-! the statute: tokens -/
theorem nlE {a b : Nat} (c : Int32) (hc : c = nn a) (ha : a < 2147483648) (hb : b < 2147483648) : (c ≤ nn b) = (a ≤ b) := by rw [hc, nnE ha hb]
theorem nlL {a b : Nat} (c : Int32) (hc : c = nn a) (ha : a < 2147483648) (hb : b < 2147483648) : (c < nn b) = (a < b) := by rw [hc, nnL ha hb]
theorem nrE {a b : Nat} (c : Int32) (hc : c = nn b) (ha : a < 2147483648) (hb : b < 2147483648) : (nn a ≤ c) = (a ≤ b) := by rw [hc, nnE ha hb]
theorem nrQ {a b : Nat} (c : Int32) (hc : c = nn b) (ha : a < 2147483648) (hb : b < 2147483648) : (nn a = c) = (a = b) := by rw [hc, nnQ ha hb]
theorem nrS {a b : Nat} (c : Int32) (hc : c = nn b) (h : b ≤ a) : nn a - c = nn (a - b) := by rw [hc, nnS h]
def StC (c c2 : Sg) : Prop := (∀ i, i ≠ 191 → c2 i = c i) ∧ ∀ j, (j < 4 ∨ 7 < j) → c2 191 j = c 191 j
theorem StC.r {c : Sg} : StC c c := ⟨fun _ _ => rfl, fun _ _ => rfl⟩
theorem StC.t {c c2 c3 : Sg} (h : StC c c2) (h2 : StC c2 c3) : StC c c3 := ⟨fun i a => (h2.1 i a).trans (h.1 i a), fun j a => (h2.2 j a).trans (h.2 j a)⟩
theorem StC.w {c : Sg} {i : Nat} {v : Int32} (h : 4 ≤ i ∧ i ≤ 7) : StC c (up2 c 191 i v) := ⟨fun j a => u2n a, fun j a => by rw [u2e, up1_ne (by omega)]⟩
def StM (c c2 : Sg) : Prop := (∀ i, i ≠ 215 → c2 i = c i) ∧ ∀ j, (j < 4 ∨ 9 < j) → c2 215 j = c 215 j
theorem StM.r {c : Sg} : StM c c := ⟨fun _ _ => rfl, fun _ _ => rfl⟩
theorem StM.t {c c2 c3 : Sg} (h : StM c c2) (h2 : StM c2 c3) : StM c c3 := ⟨fun i a => (h2.1 i a).trans (h.1 i a), fun j a => (h2.2 j a).trans (h.2 j a)⟩
theorem StM.w {c : Sg} {i : Nat} {v : Int32} (h : 4 ≤ i ∧ i ≤ 9) : StM c (up2 c 215 i v) := ⟨fun j a => u2n a, fun j a => by rw [u2e, up1_ne (by omega)]⟩
theorem up_e {g : Sg} {a i : Nat} {v : Int32} : up2 g a i v a i = v := by rw [u2e, up1_eq]
theorem up_n {g : Sg} {a i j : Nat} {v : Int32} (h : j ≠ i) : up2 g a i v a j = g a j := by rw [u2e, up1_ne h]
def mb (b : Nat → Int32) (len p : Nat) : Int32 := if p < len then b p &&& 255 else -1
def MB (M : Sg) (b : Nat → Int32) (len : Nat) : Prop := M 215 3 = nn len ∧ ∀ i, i < 500 → M 216 (4590 + i) = b i &&& 255
theorem MB.t {M M2 : Sg} {b : Nat → Int32} {len : Nat} (h : MB M b len) (h2 : StM M M2) : MB M2 b len := ⟨(h2.2 3 (by decide)).trans h.1, fun i hi => by rw [h2.1 216 (by decide)]; exact h.2 i hi⟩
theorem mb_e {M : Sg} {b : Nat → Int32} {len p : Nat} (hM : MB M b len) (hp : p ≤ len) (hl : len ≤ 500) : m_byteAt (nn p) M = some (mb b len p) := by
  unfold m_byteAt mb
  rw [hM.1]
  by_cases z : p < len
  · rw [if_pos z]
    refine st_f (by rw [nnE (by omega) (by omega)]; omega) (st_t (by rw [show (4590 : Int32) + nn p = nn (4590 + p) from nnA 4590 p, nnB (by omega)]; omega) ?_)
    rw [show (4590 : Int32) + nn p = nn (4590 + p) from nnA 4590 p, nnT (by omega), hM.2 p (by omega)]
  · rw [if_neg z]
    exact st_t (by rw [nnE (by omega) (by omega)]; omega) rfl
def VB (b : Nat → Int32) : Prop := ∀ i, i < 500 → ∃ x : Int8, b i = x.toInt32
theorem bu {b : Nat → Int32} (hV : VB b) {i : Nat} (hi : i < 500) : bL (b i &&& 255) = bL (b i) ∧ bD (b i &&& 255) = bD (b i) ∧ bB (b i &&& 255) = bB (b i) ∧ bS (b i &&& 255) = bS (b i) ∧ (0 ≤ b i → b i &&& 255 = b i) ∧ 0 ≤ b i &&& 255 := by
  obtain ⟨x, e⟩ := hV i hi
  rw [e]
  exact bt x
theorem blC {b : Nat → Int32} {len q F : Nat} (hq : q ≤ len) (hl : len ≤ 500) (h2 : q < len → bB (b q) = false) : ∀ m p n c, p + m = q → m < n → c 32 = b → c 191 4 = nn p → (∀ i, p ≤ i → i < q → bB (b i) = true) → ∃ c2, reader_nextToken_0 F n (nn len) c = reader_nextToken_33 F (nn len) c2 ∧ StC c c2 ∧ c2 191 4 = nn q
  | 0, p, n, c, h, hn, h32, h4, hb => by
    obtain ⟨n, rfl⟩ : ∃ k, n = k + 1 := ⟨n - 1, by omega⟩
    obtain rfl : p = q := by omega
    refine ⟨c, ?_, StC.r, h4⟩
    rw [reader_nextToken_0, h4, h32]
    by_cases z : p = len
    · exact st_t (by rw [nnE (by omega) (by omega)]; omega) rfl
    · refine st_f (by rw [nnE (by omega) (by omega)]; omega) (st_t (by rw [nnB (by omega)]; omega) (st_b ((bla_e _ _).trans (congrArg some (if_neg ?_))) (st_t rfl rfl)))
      rw [nnT (by omega), h2 (by omega)]
      decide
  | m + 1, p, n, c, h, hn, h32, h4, hb => by
    obtain ⟨n, rfl⟩ : ∃ k, n = k + 1 := ⟨n - 1, by omega⟩
    obtain ⟨c2, g1, g2, g3⟩ := blC (F := F) hq hl h2 m (p + 1) n (up2 c 191 4 (nn p + 1)) (by omega) (by omega) (by rw [u2n (by decide)]; exact h32) (by rw [up_e]; exact nnAr p 1) (fun i x y => hb i (by omega) y)
    refine ⟨c2, ?_, (StC.w (by decide)).t g2, g3⟩
    rw [reader_nextToken_0, h4, h32]
    refine st_f (by rw [nnE (by omega) (by omega)]; omega) (st_t (by rw [nnB (by omega)]; omega) (st_b ((bla_e _ _).trans (congrArg some (if_pos ?_))) (st_f (by decide) g1)))
    rw [nnT (by omega)]
    exact hb p (Nat.le_refl p) (by omega)
theorem blM {b : Nat → Int32} {len q F : Nat} (hV : VB b) (hq : q ≤ len) (hl : len ≤ 500) : ∀ m p n M, p + m = q → m < n → MB M b len → M 215 4 = nn p → (∀ i, p ≤ i → i < q → bB (b i) = true) → ∃ n2 M2, m_advance_0 F n M = m_advance_0 F (n2 + 1) M2 ∧ StM M M2 ∧ M2 215 4 = nn q
  | 0, p, n, M, h, hn, hM, h4, hb => by
    obtain ⟨n, rfl⟩ : ∃ k, n = k + 1 := ⟨n - 1, by omega⟩
    obtain rfl : p = q := by omega
    exact ⟨n, M, rfl, StM.r, h4⟩
  | m + 1, p, n, M, h, hn, hM, h4, hb => by
    obtain ⟨n, rfl⟩ : ∃ k, n = k + 1 := ⟨n - 1, by omega⟩
    have fr : StM M (up2 M 215 4 (M 215 4 + 1)) := StM.w (by decide)
    obtain ⟨n2, M2, g1, g2, g3⟩ := blM (F := F) hV hq hl m (p + 1) n (up2 M 215 4 (M 215 4 + 1)) (by omega) (by omega) (hM.t fr) (by rw [up_e, h4]; exact nnAr p 1) (fun i x y => hb i (by omega) y)
    refine ⟨n2, M2, ?_, fr.t g2, g3⟩
    have hbp := hb p (Nat.le_refl p) (by omega)
    rw [← (bu hV (i := p) (by omega)).2.2.1] at hbp
    have hby : m_byteAt (M 215 4) M = some (b p &&& 255) := by rw [h4, mb_e hM (by omega) hl]; unfold mb; rw [if_pos (by omega)]
    rw [m_advance_0]
    refine st_b hby ?_
    by_cases z : b p &&& 255 = 10
    · exact st_t z g1
    · have z2 : b p &&& 255 = 32 := (of_decide_eq_true hbp).resolve_left z
      exact st_f z (st_b hby (st_f (fun y => y z2) g1))
theorem woC {b : Nat → Int32} {len q : Nat} (hq : q ≤ len) (hl : len ≤ 500) (h2 : q < len → bL (b q) = false) : ∀ m p n c, p + m = q → m < n → c 32 = b → c 191 4 = nn p → (∀ i, p ≤ i → i < q → bL (b i) = true) → ∃ c2, reader_takeWord_0 n (nn len) c = reader_takeWord_33 c2 ∧ StC c c2 ∧ c2 191 4 = nn q ∧ c2 191 5 = c 191 5
  | 0, p, n, c, h, hn, h32, h4, hb => by
    obtain ⟨n, rfl⟩ : ∃ k, n = k + 1 := ⟨n - 1, by omega⟩
    obtain rfl : p = q := by omega
    refine ⟨c, ?_, StC.r, h4, rfl⟩
    rw [reader_takeWord_0, h4, h32]
    by_cases z : p = len
    · exact st_t (by rw [nnE (by omega) (by omega)]; omega) rfl
    · refine st_f (by rw [nnE (by omega) (by omega)]; omega) (st_t (by rw [nnB (by omega)]; omega) (st_b ((let_e _ _).trans (congrArg some (if_neg ?_))) (st_t rfl rfl)))
      rw [nnT (by omega), h2 (by omega)]
      decide
  | m + 1, p, n, c, h, hn, h32, h4, hb => by
    obtain ⟨n, rfl⟩ : ∃ k, n = k + 1 := ⟨n - 1, by omega⟩
    obtain ⟨c2, g1, g2, g3, g4⟩ := woC hq hl h2 m (p + 1) n (up2 c 191 4 (nn p + 1)) (by omega) (by omega) (by rw [u2n (by decide)]; exact h32) (by rw [up_e]; exact nnAr p 1) (fun i x y => hb i (by omega) y)
    refine ⟨c2, ?_, (StC.w (by decide)).t g2, g3, g4.trans (up_n (by decide))⟩
    rw [reader_takeWord_0, h4, h32]
    refine st_f (by rw [nnE (by omega) (by omega)]; omega) (st_t (by rw [nnB (by omega)]; omega) (st_b ((let_e _ _).trans (congrArg some (if_pos ?_))) (st_f (by decide) g1)))
    rw [nnT (by omega)]
    exact hb p (Nat.le_refl p) (by omega)
theorem woM {b : Nat → Int32} {len s q : Nat} {y : Nat → Nat} (hV : VB b) (hsq : s ≤ q) (hq : q ≤ len) (hl : len ≤ 500) (hy : ∀ i, i < q - s → b (s + i) = nn (96 + y i) ∧ 1 ≤ y i ∧ y i ≤ 26) (hy2 : ∀ i, i < q - s → bL (b (s + i)) = true) : ∀ m k n M, k + m = q - s → m < n → MB M b len → M 215 4 = nn (s + k) → M 215 5 = nn s → ∃ n2 M2, m_advance_77 n (LI (wN y (min k 7) : Int)) M = m_advance_77 (n2 + 1) (LI (wN y (min (q - s) 7) : Int)) M2 ∧ StM M M2 ∧ M2 215 4 = nn q ∧ M2 215 5 = nn s
  | 0, k, n, M, h, hn, hM, h4, h5 => by
    obtain ⟨n, rfl⟩ : ∃ k, n = k + 1 := ⟨n - 1, by omega⟩
    obtain rfl : k = q - s := by omega
    exact ⟨n, M, rfl, StM.r, by rw [h4, show s + (q - s) = q by omega], h5⟩
  | m + 1, k, n, M, h, hn, hM, h4, h5 => by
    obtain ⟨n, rfl⟩ : ∃ k, n = k + 1 := ⟨n - 1, by omega⟩
    have fr : StM M (up2 M 215 4 (M 215 4 + 1)) := StM.w (by decide)
    obtain ⟨n2, M2, g1, g2, g3, g4⟩ := woM hV hsq hq hl hy hy2 m (k + 1) n (up2 M 215 4 (M 215 4 + 1)) (by omega) (by omega) (hM.t fr) (by rw [up_e, h4]; exact nnAr (s + k) 1) (by rw [up_n (by decide)]; exact h5)
    refine ⟨n2, M2, ?_, fr.t g2, g3, g4⟩
    obtain ⟨e1, e2, e3⟩ := hy k (by omega)
    have e0 := hy2 k (by omega)
    have hu := bu hV (i := s + k) (by omega)
    rw [e1] at hu
    have hu2 := hu.2.2.2.2.1 (show (0 : Int32) ≤ nn (96 + y k) by rw [nlE (a := 0) 0 rfl (by decide) (by omega)]; omega)
    have hby : m_byteAt (M 215 4) M = some (nn (96 + y k)) := by rw [h4, mb_e hM (by omega) hl]; unfold mb; rw [if_pos (by omega), e1, hu2]
    rw [m_advance_77]
    refine st_b hby (st_b ((mle_e _ _).trans (congrArg some (if_pos (by rw [← e1]; exact e0)))) (st_f (by decide) ?_))
    by_cases z : 7 ≤ k
    · refine st_t ?_ ?_
      · rw [h4, h5, nnS (by omega), nlE (a := 7) 7 rfl (by decide) (by omega)]; omega
      · rw [show min k 7 = min (k + 1) 7 by omega]
        exact g1
    · refine st_f ?_ (st_b hby (st_l ?_))
      · rw [h4, h5, nnS (by omega), nlE (a := 7) 7 rfl (by decide) (by omega)]; omega
      · have ew : 32 * LI (wN y (min k 7) : Int) + Int32.toInt64 (nn (96 + y k)) - 96 = LI (wN y (min (k + 1) 7) : Int) := by
          rw [show min k 7 = k by omega, show min (k + 1) 7 = k + 1 by omega, LI_n (by omega), show (32 : Int64) = LI 32 from rfl, show (96 : Int64) = LI 96 from rfl, LI_m, LI_a, LI_s]
          congr 1
          simp only [wN]
          omega
        rw [ew]
        exact g1
def dN (y : Nat → Nat) : Nat → Nat
  | 0 => 0
  | k + 1 => 10 * dN y k + y k
theorem nuC {b : Nat → Int32} {len s q : Nat} {y : Nat → Nat} (hsq : s ≤ q) (hq : q ≤ len) (hl : len ≤ 500) (h2 : q < len → bD (b q) = false) (hy : ∀ i, i < q - s → b (s + i) = nn (48 + y i) ∧ y i ≤ 9) (hy2 : ∀ i, i < q - s → bD (b (s + i)) = true) : ∀ m k n c, k + m = q - s → m < n → c 32 = b → c 191 4 = nn (s + k) → c 191 5 = nn s → c 191 7 = nn (dN y (min k 4)) → ∃ c2, reader_takeNumber_5 n (nn len) c = reader_takeNumber_72 c2 ∧ StC c c2 ∧ c2 191 4 = nn q ∧ c2 191 5 = nn s ∧ c2 191 7 = nn (dN y (min (q - s) 4))
  | 0, k, n, c, h, hn, h32, h4, h5, h7 => by
    obtain ⟨n, rfl⟩ : ∃ k, n = k + 1 := ⟨n - 1, by omega⟩
    obtain rfl : k = q - s := by omega
    rw [show s + (q - s) = q by omega] at h4
    refine ⟨c, ?_, StC.r, h4, h5, h7⟩
    rw [reader_takeNumber_5, h4, h32]
    by_cases z : q = len
    · exact st_t (by rw [nnE (by omega) (by omega)]; omega) rfl
    · refine st_f (by rw [nnE (by omega) (by omega)]; omega) (st_t (by rw [nnB (by omega)]; omega) (st_b ((dig_e _ _).trans (congrArg some (if_neg ?_))) (st_t rfl rfl)))
      rw [nnT (by omega), h2 (by omega)]
      decide
  | m + 1, k, n, c, h, hn, h32, h4, h5, h7 => by
    obtain ⟨n, rfl⟩ : ∃ k, n = k + 1 := ⟨n - 1, by omega⟩
    obtain ⟨e1, e2⟩ := hy k (by omega)
    have e0 := hy2 k (by omega)
    have hd : ∀ g : Sg, tokens_isDigit (c 32 (Int32.toNatClampNeg (c 191 4))) g = some 1 := fun g => (dig_e _ _).trans (congrArg some (if_pos (by rw [h32, h4, nnT (by omega)]; exact e0)))
    have hin : inb (c 191 4) 500 = true := by rw [h4, nnB (by omega)]; omega
    rw [reader_takeNumber_5]
    by_cases z : 4 ≤ k
    · obtain ⟨c2, g1, g2, g3⟩ := nuC hsq hq hl h2 hy hy2 m (k + 1) n (up2 c 191 4 (c 191 4 + 1)) (by omega) (by omega) (by rw [u2n (by decide)]; exact h32) (by rw [up_e, h4]; exact nnAr (s + k) 1) (by rw [up_n (by decide)]; exact h5) (by rw [up_n (by decide), h7, show min (k + 1) 4 = min k 4 by omega])
      refine ⟨c2, ?_, (StC.w (by decide)).t g2, g3⟩
      exact st_f (by rw [h4, nnE (by omega) (by omega)]; omega) (st_t hin (st_b (hd _) (st_f (by decide) (st_t (by rw [h4, h5, nnS (by omega), nlE (a := 4) 4 rfl (by decide) (by omega)]; omega) g1))))
    · obtain ⟨c1, hc1⟩ : ∃ c1, c1 = up2 c 191 7 ((((c 191 7) * 10) + (c 32 (Int32.toNatClampNeg (c 191 4)))) - 48) := ⟨_, rfl⟩
      have f4 : c1 191 4 = nn (s + k) := by rw [hc1, up_n (by decide)]; exact h4
      have f5 : c1 191 5 = nn s := by rw [hc1, up_n (by decide)]; exact h5
      have f32 : c1 32 = b := by rw [hc1, u2n (by decide)]; exact h32
      have f7 : c1 191 7 = nn (dN y (min (k + 1) 4)) := by
        rw [hc1, up_e, h7, h32, h4, nnT (by omega), e1, show min k 4 = k by omega, show min (k + 1) 4 = k + 1 by omega, show nn (dN y k) * 10 = nn (dN y k * 10) from nnM _ 10, nnA, nrS (b := 48) 48 rfl (by omega)]
        congr 1
        simp only [dN]
        omega
      obtain ⟨c2, g1, g2, g3⟩ := nuC hsq hq hl h2 hy hy2 m (k + 1) n (up2 c1 191 4 (c1 191 4 + 1)) (by omega) (by omega) (by rw [u2n (by decide)]; exact f32) (by rw [up_e, f4]; exact nnAr (s + k) 1) (by rw [up_n (by decide)]; exact f5) (by rw [up_n (by decide)]; exact f7)
      refine ⟨c2, ?_, ((hc1 ▸ StC.w (by decide) : StC c c1).t (StC.w (by decide))).t g2, g3⟩
      refine st_f (by rw [h4, nnE (by omega) (by omega)]; omega) (st_t hin (st_b (hd _) (st_f (by decide) (st_f (by rw [h4, h5, nnS (by omega), nlE (a := 4) 4 rfl (by decide) (by omega)]; omega) (st_t hin (st_l ?_))))))
      rw [← hc1]
      exact g1
theorem nuM {b : Nat → Int32} {len s q : Nat} {y : Nat → Nat} (hV : VB b) (hsq : s ≤ q) (hq : q ≤ len) (hl : len ≤ 500) (hy : ∀ i, i < q - s → b (s + i) = nn (48 + y i) ∧ y i ≤ 9) (hy2 : ∀ i, i < q - s → bD (b (s + i)) = true) : ∀ m k n M, k + m = q - s → m < n → MB M b len → M 215 4 = nn (s + k) → M 215 5 = nn s → M 215 7 = nn (dN y (min k 4)) → ∃ n2 M2, m_advance_198 n M = m_advance_198 (n2 + 1) M2 ∧ StM M M2 ∧ M2 215 4 = nn q ∧ M2 215 5 = nn s ∧ M2 215 7 = nn (dN y (min (q - s) 4))
  | 0, k, n, M, h, hn, hM, h4, h5, h7 => by
    obtain ⟨n, rfl⟩ : ∃ k, n = k + 1 := ⟨n - 1, by omega⟩
    obtain rfl : k = q - s := by omega
    exact ⟨n, M, rfl, StM.r, by rw [h4, show s + (q - s) = q by omega], h5, h7⟩
  | m + 1, k, n, M, h, hn, hM, h4, h5, h7 => by
    obtain ⟨n, rfl⟩ : ∃ k, n = k + 1 := ⟨n - 1, by omega⟩
    obtain ⟨e1, e2⟩ := hy k (by omega)
    have e0 := hy2 k (by omega)
    have hu := bu hV (i := s + k) (by omega)
    rw [e1] at hu
    have hu2 := hu.2.2.2.2.1 (show (0 : Int32) ≤ nn (48 + y k) by rw [nlE (a := 0) 0 rfl (by decide) (by omega)]; omega)
    have hby : m_byteAt (M 215 4) M = some (nn (48 + y k)) := by rw [h4, mb_e hM (by omega) hl]; unfold mb; rw [if_pos (by omega), e1, hu2]
    rw [m_advance_198]
    by_cases z : 4 ≤ k
    · have fr : StM M (up2 M 215 4 (M 215 4 + 1)) := StM.w (by decide)
      obtain ⟨n2, M2, g1, g2, g3⟩ := nuM hV hsq hq hl hy hy2 m (k + 1) n (up2 M 215 4 (M 215 4 + 1)) (by omega) (by omega) (hM.t fr) (by rw [up_e, h4]; exact nnAr (s + k) 1) (by rw [up_n (by decide)]; exact h5) (by rw [up_n (by decide), h7, show min (k + 1) 4 = min k 4 by omega])
      refine ⟨n2, M2, ?_, fr.t g2, g3⟩
      exact st_b hby (st_b ((mdi_e _ _).trans (congrArg some (if_pos (by rw [← e1]; exact e0)))) (st_f (by decide) (st_t (by rw [h4, h5, nnS (by omega), nlE (a := 4) 4 rfl (by decide) (by omega)]; omega) g1)))
    · obtain ⟨c1, hc1⟩ : ∃ c1, c1 = up2 M 215 7 (((10 * (M 215 7)) + nn (48 + y k)) - 48) := ⟨_, rfl⟩
      have f4 : c1 215 4 = nn (s + k) := by rw [hc1, up_n (by decide)]; exact h4
      have f5 : c1 215 5 = nn s := by rw [hc1, up_n (by decide)]; exact h5
      have f7 : c1 215 7 = nn (dN y (min (k + 1) 4)) := by
        rw [hc1, up_e, h7, show min k 4 = k by omega, show min (k + 1) 4 = k + 1 by omega, show 10 * nn (dN y k) = nn (10 * dN y k) from nnM 10 _, nnA, nrS (b := 48) 48 rfl (by omega)]
        congr 1
        simp only [dN]
        omega
      have fr1 : StM M c1 := hc1 ▸ StM.w (by decide)
      have fr : StM M (up2 c1 215 4 (c1 215 4 + 1)) := fr1.t (StM.w (by decide))
      obtain ⟨n2, M2, g1, g2, g3⟩ := nuM hV hsq hq hl hy hy2 m (k + 1) n (up2 c1 215 4 (c1 215 4 + 1)) (by omega) (by omega) (hM.t fr) (by rw [up_e, f4]; exact nnAr (s + k) 1) (by rw [up_n (by decide)]; exact f5) (by rw [up_n (by decide)]; exact f7)
      refine ⟨n2, M2, ?_, fr.t g2, g3⟩
      refine st_b hby (st_b ((mdi_e _ _).trans (congrArg some (if_pos (by rw [← e1]; exact e0)))) (st_f (by decide) (st_f (by rw [h4, h5, nnS (by omega), nlE (a := 4) 4 rfl (by decide) (by omega)]; omega) (st_b hby (st_l ?_)))))
      rw [← hc1]
      exact g1
