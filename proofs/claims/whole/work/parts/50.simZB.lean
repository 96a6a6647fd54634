/-! duty -/
def LI (z : Int) : Int64 := Int64.ofInt z
theorem LI_i {z : Int} (h1 : -4000000000000000000 < z) (h2 : z < 4000000000000000000) : (LI z).toInt = z := by
  unfold LI
  rw [Int64.toInt_ofInt, Int.bmod_def, show Int64.size = 18446744073709551616 from rfl]
  omega
theorem LI_e {a b : Int64} (h : a.toInt = b.toInt) : a = b := Int64.toInt_inj.mp h
theorem LI_a (a b : Int) : LI a + LI b = LI (a + b) := (Int64.ofInt_add a b).symm
theorem LI_s (a b : Int) : LI a - LI b = LI (a - b) := (Int64.ofInt_sub a b).symm
theorem LI_m (a b : Int) : LI a * LI b = LI (a * b) := (Int64.ofInt_mul a b).symm
theorem LI_d {a b : Nat} (h1 : a < 4000000000000000000) (h2 : b < 4000000000000000000) : LI (a : Int) / LI (b : Int) = LI ((a / b : Nat) : Int) := by
  apply LI_e
  have hq : a / b ≤ a := Nat.div_le_self a b
  have hq0 : (0 : Int) ≤ ((a / b : Nat) : Int) := Int.natCast_nonneg _
  have hq1 : ((a / b : Nat) : Int) < 4000000000000000000 := Int.ofNat_lt.mpr (Nat.lt_of_le_of_lt hq h1)
  rw [Int64.toInt_div, LI_i (by omega) (by omega), LI_i (by omega) (by omega), LI_i (by omega) (by omega), ← Int.ofNat_tdiv, Int.bmod_def, show (2 : Nat) ^ 64 = 18446744073709551616 from rfl]
  generalize a / b = q at *
  split <;> omega
theorem LI_n {a : Nat} (h : a < 2147483648) : (nn a).toInt64 = LI (a : Int) := by
  apply LI_e
  rw [Int32.toInt_toInt64, nnI h, LI_i (by omega) (by omega)]
theorem LI_32 {a : Nat} (h : a < 2147483648) : (LI (a : Int)).toInt32 = nn a := by
  apply Int32.toInt_inj.mp
  rw [Int64.toInt_toInt32, LI_i (by omega) (by omega), nnI h, Int.bmod_def, show (2 : Nat) ^ 32 = 4294967296 from rfl]
  omega
theorem LI_lt {a b : Int} (h1 : -4000000000000000000 < a) (h2 : a < 4000000000000000000) (h3 : -4000000000000000000 < b) (h4 : b < 4000000000000000000) : LI a < LI b ↔ a < b := by
  rw [Int64.lt_iff_toInt_lt, LI_i h1 h2, LI_i h3 h4]
theorem LI_q {a b : Int} (h1 : -4000000000000000000 < a) (h2 : a < 4000000000000000000) (h3 : -4000000000000000000 < b) (h4 : b < 4000000000000000000) : LI a = LI b ↔ a = b := by
  constructor
  · intro e
    have := congrArg Int64.toInt e
    rwa [LI_i h1 h2, LI_i h3 h4] at this
  · intro e
    rw [e]
theorem cmp_gt {a b : Int} (h1 : -4000000000000000000 < a) (h2 : a < 4000000000000000000) (h3 : -4000000000000000000 < b) (h4 : b < 4000000000000000000) : (0 < lg_cmp (LI a) (LI b)) ↔ b < a := by
  unfold lg_cmp
  by_cases e : LI b < LI a
  · rw [if_pos e]
    exact ⟨fun _ => (LI_lt h3 h4 h1 h2).mp e, fun _ => by decide⟩
  · rw [if_neg e]
    refine ⟨fun q => ?_, fun q => absurd ((LI_lt h3 h4 h1 h2).mpr q) e⟩
    by_cases e2 : LI a = LI b
    · rw [if_pos e2] at q; exact absurd q (by decide)
    · rw [if_neg e2] at q; exact absurd q (by decide)
theorem cmp_eq {a b : Int} (h1 : -4000000000000000000 < a) (h2 : a < 4000000000000000000) (h3 : -4000000000000000000 < b) (h4 : b < 4000000000000000000) : (lg_cmp (LI a) (LI b) = 0) ↔ a = b := by
  unfold lg_cmp
  by_cases e : LI b < LI a
  · rw [if_pos e]
    have := (LI_lt h3 h4 h1 h2).mp e
    exact ⟨fun q => absurd q (by decide), fun q => by omega⟩
  · rw [if_neg e]
    by_cases e2 : LI a = LI b
    · rw [if_pos e2]
      exact ⟨fun _ => (LI_q h1 h2 h3 h4).mp e2, fun _ => rfl⟩
    · rw [if_neg e2]
      exact ⟨fun q => absurd q (by decide), fun q => absurd ((LI_q h1 h2 h3 h4).mpr q) e2⟩
theorem cmp_ge {a b : Int} (h1 : -4000000000000000000 < a) (h2 : a < 4000000000000000000) (h3 : -4000000000000000000 < b) (h4 : b < 4000000000000000000) : (0 ≤ lg_cmp (LI a) (LI b)) ↔ b ≤ a := by
  unfold lg_cmp
  by_cases e : LI b < LI a
  · rw [if_pos e]
    have := (LI_lt h3 h4 h1 h2).mp e
    exact ⟨fun _ => by omega, fun _ => by decide⟩
  · rw [if_neg e]
    have hn : ¬ b < a := fun q => e ((LI_lt h3 h4 h1 h2).mpr q)
    by_cases e2 : LI a = LI b
    · rw [if_pos e2]
      have := (LI_q h1 h2 h3 h4).mp e2
      exact ⟨fun _ => by omega, fun _ => by decide⟩
    · rw [if_neg e2]
      have hq : ¬ a = b := fun q => e2 ((LI_q h1 h2 h3 h4).mpr q)
      exact ⟨fun q => absurd q (by decide), fun q => absurd q (by omega)⟩
def sN (f : Nat → Nat) : Nat → Nat
  | 0 => 0
  | k + 1 => sN f k + f k
theorem sN_le {f : Nat → Nat} {b : Nat} (h : ∀ i, i < 8 → f i ≤ b) : ∀ k, k ≤ 8 → sN f k ≤ k * b
  | 0, _ => Nat.zero_le _
  | k + 1, hk => by
    have h1 := sN_le h k (by omega)
    have h2 := h k (by omega)
    show sN f k + f k ≤ (k + 1) * b
    rw [Nat.succ_mul]
    omega
theorem sN_mem {f : Nat → Nat} : ∀ k i, i < k → f i ≤ sN f k
  | 0, _, h => absurd h (Nat.not_lt_zero _)
  | k + 1, i, h => by
    show f i ≤ sN f k + f k
    by_cases e : i = k
    · rw [e]; omega
    · have := sN_mem (f := f) k i (by omega)
      omega
/-- the others' rests that stand before one's own -/
def aH (r : Nat → Nat) (w i : Nat) : Nat := if r w < r i then 1 else if ¬ r i = r w then 0 else if w ≤ i then 0 else 1
section WQ
variable {S : Sg} {wv : Nat → Nat} {y who : Nat}
def flo (wv : Nat → Nat) (y i : Nat) : Nat := y * wv i / sN wv 8
def rst2 (wv : Nat → Nat) (y i : Nat) : Nat := y * wv i % sN wv 8
theorem jgW {c : Sg} {FV : Nat → Int32} {a0 : Nat → Int32} {T L : Nat} (hl : RLaw c a0 T L) : ∀ m k w u x, k + m = L → w = nn x → x ≤ 9999 * k → ∃ z, (jg c FV m k w u).1 = nn z ∧ z ≤ 9999 * 16 := by
  have hL := hl.hL
  intro m
  induction m with
  | zero =>
    intro k w u x hk hw hx
    exact ⟨x, hw, by omega⟩
  | succ m ih =>
    intro k w u x hk hw hx
    obtain ⟨_, hact, _, v, v1, v2⟩ := hl.ln k (by omega)
    by_cases q : lineOk c FV k
    · rcases hact with ⟨e, _⟩ | ⟨e, _⟩ | ⟨e, _⟩
      · rw [jg_4 q e]
        exact ih (k + 1) _ u (x + v) (by omega) (by rw [hw, v2, nnA]) (by omega)
      · rw [jg_5 q e]
        exact ih (k + 1) w _ x (by omega) hw (by omega)
      · rw [jg_6 q e]
        exact ⟨0, rfl, by omega⟩
    · rw [jg_n q]
      exact ih (k + 1) w u x (by omega) hw (by omega)
theorem mul_le2 {y w : Nat} (hy : y ≤ 9999) (hw : w ≤ 159984) : y * w ≤ 1599680016 := Nat.le_trans (Nat.mul_le_mul hy hw) (by decide)
theorem ydiv {y w s : Nat} (hy : y ≤ 9999) (hw : w ≤ 159984) (hs : s < 4000000000) : LI (y : Int) * LI (w : Int) / LI (s : Int) = LI ((y * w / s : Nat) : Int) := by
  have := mul_le2 hy hw
  rw [LI_m, ← Int.natCast_mul, LI_d (by omega) (by omega)]
theorem yrem {y w s : Nat} (hy : y ≤ 9999) (hw : w ≤ 159984) (hs : s < 4000000000) : LI (y : Int) * LI (w : Int) - LI (y : Int) * LI (w : Int) / LI (s : Int) * LI (s : Int) = LI ((y * w % s : Nat) : Int) := by
  rw [ydiv hy hw hs, LI_m, LI_m, LI_s, ← Int.natCast_mul, ← Int.natCast_mul]
  congr 1
  have h1 := Nat.div_add_mod (y * w) s
  have h2 : y * w / s * s = s * (y * w / s) := Nat.mul_comm _ _
  omega
theorem flo_le (hw : ∀ i, i < 8 → wv i ≤ 159984) {i : Nat} (hi : i < 8) : flo wv y i ≤ y := by
  unfold flo
  have h1 := sN_mem (f := wv) 8 i hi
  have h2 : y * wv i ≤ y * sN wv 8 := Nat.mul_le_mul (Nat.le_refl _) h1
  exact Nat.le_trans (Nat.div_le_div_right h2) (Nat.div_le_of_le_mul (by rw [Nat.mul_comm]; exact Nat.le_refl _))
theorem sh61 (hS : ∀ j, j < 8 → S 205 j = nn (wv j)) (hw : ∀ i, i < 8 → wv i ≤ 159984) (hy : y ≤ 9999) (hwho : who < 8) (hpos : 0 < sN wv 8) : ∀ m k F, k + m = 8 → m < F → reckoning_shareOf_61 F (nn y) (nn who) (LI (sN wv 8 : Nat)) (LI ((y : Int) - (sN (flo wv y) k : Nat))) (nn (sN (aH (rst2 wv y) who) k)) (LI (rst2 wv y who : Nat)) (nn k) S = some (if (y : Int) - (sN (flo wv y) 8 : Nat) ≤ (sN (aH (rst2 wv y) who) 8 : Nat) then nn (flo wv y who) else nn (flo wv y who) + 1) := by
  have hs8 : sN wv 8 ≤ 8 * 159984 := sN_le hw 8 (Nat.le_refl _)
  have hfl : ∀ k, k ≤ 8 → sN (flo wv y) k ≤ k * y := sN_le (fun i hi => flo_le hw hi)
  have hrs : ∀ i, rst2 wv y i < 1279872 + 1 := fun i => by
    have := Nat.mod_lt (y * wv i) hpos
    unfold rst2
    omega
  have hah : ∀ i, aH (rst2 wv y) who i ≤ 1 := fun i => by
    unfold aH
    split
    · omega
    · split
      · omega
      · split <;> omega
  have hac : ∀ k, k ≤ 8 → sN (aH (rst2 wv y) who) k ≤ k * 1 := sN_le (fun i _ => hah i)
  have hz : ¬ LI (sN wv 8 : Nat) = 0 := fun e => by
    have := (LI_q (a := ((sN wv 8 : Nat) : Int)) (b := 0) (by omega) (by omega) (by omega) (by omega)).mp e
    omega
  intro m
  induction m with
  | zero =>
    intro k F hk hF
    obtain ⟨F, rfl⟩ : ∃ F2, F = F2 + 1 := ⟨F - 1, by omega⟩
    have : k = 8 := by omega
    subst this
    have hi : inb (nn who) 8 = true := by simp (disch := first | omega | decide) only [lt1, nnMl, nnMr, nnAl, nnAr, nnA, nnM, nnB, nnT, nnP, nnE, nnEl, nnEr, nnL, nnLl, nnLr, nnQ, nnQr, nnN, Nat.add_zero, if_false, if_true, Option.bind_some, not_true, not_false_iff, not_true_eq_false, not_false_eq_true, eq_self, Nat.not_lt_zero, z10, z01, or_true, true_or, or_false, false_or, true_and, false_and, hwho]
    have h1 := hfl 8 (Nat.le_refl _)
    have h2 := hac 8 (Nat.le_refl _)
    have h3 := flo_le (y := y) hw hwho
    unfold reckoning_shareOf_61
    rw [nnT (by omega), hS who hwho, LI_n (by omega), LI_n (by have := hw who hwho; omega), ydiv hy (hw who hwho) (by omega), LI_n (by omega)]
    refine st_t (by decide) (st_t hi (st_f hz (st_l ?_)))
    rw [show y * wv who / sN wv 8 = flo wv y who from rfl, LI_32 (by omega)]
    by_cases q : (y : Int) - (sN (flo wv y) 8 : Nat) ≤ (sN (aH (rst2 wv y) who) 8 : Nat)
    · rw [if_pos q]
      exact st_t ((cmp_ge (by omega) (by omega) (by omega) (by omega)).mpr q) rfl
    · rw [if_neg q]
      exact st_f (fun e => q ((cmp_ge (by omega) (by omega) (by omega) (by omega)).mp e)) rfl
  | succ m ih =>
    intro k F hk hF
    obtain ⟨F, rfl⟩ : ∃ F2, F = F2 + 1 := ⟨F - 1, by omega⟩
    have hk8 : k < 8 := by omega
    have h3 : ¬ 8 ≤ k := by omega
    have hi : inb (nn k) 8 = true := by simp (disch := first | omega | decide) only [lt1, nnMl, nnMr, nnAl, nnAr, nnA, nnM, nnB, nnT, nnP, nnE, nnEl, nnEr, nnL, nnLl, nnLr, nnQ, nnQr, nnN, Nat.add_zero, if_false, if_true, Option.bind_some, not_true, not_false_iff, not_true_eq_false, not_false_eq_true, eq_self, Nat.not_lt_zero, z10, z01, or_true, true_or, or_false, false_or, true_and, false_and, hk8]
    have e1 : LI ((y : Int) - (sN (flo wv y) k : Nat)) - LI (flo wv y k : Nat) = LI ((y : Int) - (sN (flo wv y) (k + 1) : Nat)) := by
      rw [LI_s]
      congr 1
      show _ = (y : Int) - ((sN (flo wv y) k + flo wv y k : Nat) : Int)
      omega
    have hr1 := hrs k
    have hr2 := hrs who
    have IH := ih (k + 1) F (by omega) (by omega)
    have eA : sN (aH (rst2 wv y) who) (k + 1) = sN (aH (rst2 wv y) who) k + aH (rst2 wv y) who k := rfl
    unfold reckoning_shareOf_61
    rw [nnT (show k < 2147483648 by omega), hS k hk8, LI_n (show y < 2147483648 by omega), LI_n (show wv k < 2147483648 by have := hw k hk8; omega), yrem hy (hw k hk8) (by omega), ydiv hy (hw k hk8) (by omega), show nn k + 1 = nn (k + 1) from nnA k 1, show y * wv k / sN wv 8 = flo wv y k from rfl, e1, show y * wv k % sN wv 8 = rst2 wv y k from rfl]
    refine st_f (by simp (disch := first | omega | decide) only [lt1, nnMl, nnMr, nnAl, nnAr, nnA, nnM, nnB, nnT, nnP, nnE, nnEl, nnEr, nnL, nnLl, nnLr, nnQ, nnQr, nnN, Nat.add_zero, if_false, if_true, Option.bind_some, not_true, not_false_iff, not_true_eq_false, not_false_eq_true, eq_self, Nat.not_lt_zero, z10, z01, or_true, true_or, or_false, false_or, true_and, false_and, h3]) (st_t hi (st_f hz (st_l (st_t hi (st_f hz (st_l ?_))))))
    by_cases q1 : rst2 wv y who < rst2 wv y k
    · have ea : aH (rst2 wv y) who k = 1 := if_pos q1
      rw [eA, ea] at IH
      refine st_t ((cmp_gt (by omega) (by omega) (by omega) (by omega)).mpr (by omega)) ?_
      rw [show nn (sN (aH (rst2 wv y) who) k) + 1 = nn (sN (aH (rst2 wv y) who) k + 1) from nnA _ 1]
      exact IH
    refine st_f (fun e => q1 (by have := (cmp_gt (by omega) (by omega) (by omega) (by omega)).mp e; omega)) ?_
    by_cases q2 : rst2 wv y k = rst2 wv y who
    · refine st_f (fun e => e ((cmp_eq (by omega) (by omega) (by omega) (by omega)).mpr (by omega))) ?_
      by_cases q3 : who ≤ k
      · have ea : aH (rst2 wv y) who k = 0 := (if_neg q1).trans ((if_neg (fun e => e q2)).trans (if_pos q3))
        rw [eA, ea, Nat.add_zero] at IH
        exact st_t (by rw [nnE (by omega) (by omega)]; exact q3) IH
      · have ea : aH (rst2 wv y) who k = 1 := (if_neg q1).trans ((if_neg (fun e => e q2)).trans (if_neg q3))
        rw [eA, ea] at IH
        refine st_f (by rw [nnE (by omega) (by omega)]; exact q3) ?_
        rw [show nn (sN (aH (rst2 wv y) who) k) + 1 = nn (sN (aH (rst2 wv y) who) k + 1) from nnA _ 1]
        exact IH
    · have ea : aH (rst2 wv y) who k = 0 := (if_neg q1).trans (if_pos q2)
      rw [eA, ea, Nat.add_zero] at IH
      exact st_t (fun e => q2 (by have := (cmp_eq (by omega) (by omega) (by omega) (by omega)).mp e; omega)) IH
/-- the answer of both -/
def dutA (wv : Nat → Nat) (y who : Nat) : Int32 := if sN wv 8 = 0 then 0 else if (y : Int) - (sN (flo wv y) 8 : Nat) ≤ (sN (aH (rst2 wv y) who) 8 : Nat) then nn (flo wv y who) else nn (flo wv y who) + 1
theorem sh5 (hS : ∀ j, j < 8 → S 205 j = nn (wv j)) (hw : ∀ i, i < 8 → wv i ≤ 159984) (hy : y ≤ 9999) (hwho : who < 8) {F0 : Nat} (hF0 : 10 < F0) : ∀ m k F, k + m = 8 → m < F → reckoning_shareOf_5 F0 F (nn y) (nn who) (LI (sN wv k : Nat)) (nn k) S = some (dutA wv y who) := by
  have hs8 : ∀ k, k ≤ 8 → sN wv k ≤ k * 159984 := sN_le hw
  intro m
  induction m with
  | zero =>
    intro k F hk hF
    obtain ⟨F, rfl⟩ : ∃ F2, F = F2 + 1 := ⟨F - 1, by omega⟩
    have : k = 8 := by omega
    subst this
    have h8 := hs8 8 (Nat.le_refl _)
    have hi : inb (nn who) 8 = true := by simp (disch := first | omega | decide) only [lt1, nnMl, nnMr, nnAl, nnAr, nnA, nnM, nnB, nnT, nnP, nnE, nnEl, nnEr, nnL, nnLl, nnLr, nnQ, nnQr, nnN, Nat.add_zero, if_false, if_true, Option.bind_some, not_true, not_false_iff, not_true_eq_false, not_false_eq_true, eq_self, Nat.not_lt_zero, z10, z01, or_true, true_or, or_false, false_or, true_and, false_and, hwho]
    unfold reckoning_shareOf_5
    refine st_t (by decide) ?_
    by_cases q : sN wv 8 = 0
    · rw [show dutA wv y who = 0 from if_pos q, q]
      exact st_f (by decide) rfl
    · have hz : ¬ LI (sN wv 8 : Nat) = 0 := fun e => by
        have := (LI_q (a := ((sN wv 8 : Nat) : Int)) (b := 0) (by omega) (by omega) (by omega) (by omega)).mp e
        omega
      rw [show dutA wv y who = _ from if_neg q]
      refine st_t ((cmp_gt (a := ((sN wv 8 : Nat) : Int)) (b := 0) (by omega) (by omega) (by omega) (by omega)).mpr (by omega)) (st_l (st_t hi (st_f hz (st_l ?_))))
      rw [nnT (by omega), hS who hwho, LI_n (show y < 2147483648 by omega), LI_n (show wv who < 2147483648 by have := hw who hwho; omega), yrem hy (hw who hwho) (by omega)]
      have := sh61 hS hw hy hwho (by omega) 8 0 F0 (by omega) (by omega)
      rw [show ((y : Int) - ((sN (flo wv y) 0 : Nat) : Int)) = (y : Int) by show (y : Int) - ((0 : Nat) : Int) = y; omega] at this
      exact this
  | succ m ih =>
    intro k F hk hF
    obtain ⟨F, rfl⟩ : ∃ F2, F = F2 + 1 := ⟨F - 1, by omega⟩
    have hk8 : k < 8 := by omega
    have h3 : ¬ 8 ≤ k := by omega
    unfold reckoning_shareOf_5
    rw [nnT (show k < 2147483648 by omega), hS k hk8, LI_n (show wv k < 2147483648 by have := hw k hk8; omega), LI_a, ← Int.natCast_add, show nn k + 1 = nn (k + 1) from nnA k 1]
    exact st_f (by simp (disch := first | omega | decide) only [lt1, nnMl, nnMr, nnAl, nnAr, nnA, nnM, nnB, nnT, nnP, nnE, nnEl, nnEr, nnL, nnLl, nnLr, nnQ, nnQr, nnN, Nat.add_zero, if_false, if_true, Option.bind_some, not_true, not_false_iff, not_true_eq_false, not_false_eq_true, eq_self, Nat.not_lt_zero, z10, z01, or_true, true_or, or_false, false_or, true_and, false_and, h3]) (st_t (by simp (disch := first | omega | decide) only [lt1, nnMl, nnMr, nnAl, nnAr, nnA, nnM, nnB, nnT, nnP, nnE, nnEl, nnEr, nnL, nnLl, nnLr, nnQ, nnQr, nnN, Nat.add_zero, if_false, if_true, Option.bind_some, not_true, not_false_iff, not_true_eq_false, not_false_eq_true, eq_self, Nat.not_lt_zero, z10, z01, or_true, true_or, or_false, false_or, true_and, false_and, hk8]) (st_l (ih (k + 1) F (by omega) (by omega))))
theorem du163 {X : Sg} (hS : ∀ j, j < 8 → X 221 j = nn (wv j)) (hsh : X 222 who = nn (flo wv y who)) (hw : ∀ i, i < 8 → wv i ≤ 159984) (hy : y ≤ 9999) (hwho : who < 8) (hpos : 0 < sN wv 8) : ∀ m k F, k + m = 8 → m < F → m_duty_163 F (nn y) (nn who) (LI (sN wv 8 : Nat)) (Int32.ofInt ((y : Int) - (sN (flo wv y) 8 : Nat))) (LI (rst2 wv y who : Nat)) (nn (sN (aH (rst2 wv y) who) k)) (nn k) X = some (if (y : Int) - (sN (flo wv y) 8 : Nat) ≤ (sN (aH (rst2 wv y) who) 8 : Nat) then nn (flo wv y who) else nn (flo wv y who) + 1, X) := by
  have hs8 : sN wv 8 ≤ 8 * 159984 := sN_le hw 8 (Nat.le_refl _)
  have hfl : ∀ k, k ≤ 8 → sN (flo wv y) k ≤ k * y := sN_le (fun i hi => flo_le hw hi)
  have hrs : ∀ i, rst2 wv y i < 1279872 + 1 := fun i => by
    have := Nat.mod_lt (y * wv i) hpos
    unfold rst2
    omega
  have hah : ∀ i, aH (rst2 wv y) who i ≤ 1 := fun i => by
    unfold aH
    split
    · omega
    · split
      · omega
      · split <;> omega
  have hac : ∀ k, k ≤ 8 → sN (aH (rst2 wv y) who) k ≤ k * 1 := sN_le (fun i _ => hah i)
  have hz : ¬ LI (sN wv 8 : Nat) = 0 := fun e => by
    have := (LI_q (a := ((sN wv 8 : Nat) : Int)) (b := 0) (by omega) (by omega) (by omega) (by omega)).mp e
    omega
  intro m
  induction m with
  | zero =>
    intro k F hk hF
    obtain ⟨F, rfl⟩ : ∃ F2, F = F2 + 1 := ⟨F - 1, by omega⟩
    have : k = 8 := by omega
    subst this
    have hi : inb (nn who) 8 = true := by simp (disch := first | omega | decide) only [lt1, nnMl, nnMr, nnAl, nnAr, nnA, nnM, nnB, nnT, nnP, nnE, nnEl, nnEr, nnL, nnLl, nnLr, nnQ, nnQr, nnN, Nat.add_zero, if_false, if_true, Option.bind_some, not_true, not_false_iff, not_true_eq_false, not_false_eq_true, eq_self, Nat.not_lt_zero, z10, z01, or_true, true_or, or_false, false_or, true_and, false_and, hwho]
    have h1 := hfl 8 (Nat.le_refl _)
    have h2 := hac 8 (Nat.le_refl _)
    unfold m_duty_163
    rw [nnT (by omega), hsh]
    refine st_t (by decide) (st_t hi ?_)
    have key : Int32.ofInt ((y : Int) - (sN (flo wv y) 8 : Nat)) ≤ nn (sN (aH (rst2 wv y) who) 8) ↔ (y : Int) - (sN (flo wv y) 8 : Nat) ≤ (sN (aH (rst2 wv y) who) 8 : Nat) := by
      rw [← Int32.not_lt, nn_ofI, ofI_lt (by omega) (by omega) (by omega) (by omega)]
      omega
    by_cases q : (y : Int) - (sN (flo wv y) 8 : Nat) ≤ (sN (aH (rst2 wv y) who) 8 : Nat)
    · rw [if_pos q]
      refine st_t (key.mpr q) ?_
      rw [Int32.add_zero]
    · rw [if_neg q]
      exact st_f (fun e => q (key.mp e)) rfl
  | succ m ih =>
    intro k F hk hF
    obtain ⟨F, rfl⟩ : ∃ F2, F = F2 + 1 := ⟨F - 1, by omega⟩
    have hk8 : k < 8 := by omega
    have h3 : ¬ 8 ≤ k := by omega
    have hi : inb (nn k) 8 = true := by simp (disch := first | omega | decide) only [lt1, nnMl, nnMr, nnAl, nnAr, nnA, nnM, nnB, nnT, nnP, nnE, nnEl, nnEr, nnL, nnLl, nnLr, nnQ, nnQr, nnN, Nat.add_zero, if_false, if_true, Option.bind_some, not_true, not_false_iff, not_true_eq_false, not_false_eq_true, eq_self, Nat.not_lt_zero, z10, z01, or_true, true_or, or_false, false_or, true_and, false_and, hk8]
    have hr1 := hrs k
    have hr2 := hrs who
    have IH := ih (k + 1) F (by omega) (by omega)
    have eA : sN (aH (rst2 wv y) who) (k + 1) = sN (aH (rst2 wv y) who) k + aH (rst2 wv y) who k := rfl
    unfold m_duty_163
    rw [nnT (show k < 2147483648 by omega), hS k hk8, LI_n (show y < 2147483648 by omega), LI_n (show wv k < 2147483648 by have := hw k hk8; omega), yrem hy (hw k hk8) (by omega), show nn k + 1 = nn (k + 1) from nnA k 1, show y * wv k % sN wv 8 = rst2 wv y k from rfl, Int32.add_zero, Int32.add_zero]
    refine st_f (by simp (disch := first | omega | decide) only [lt1, nnMl, nnMr, nnAl, nnAr, nnA, nnM, nnB, nnT, nnP, nnE, nnEl, nnEr, nnL, nnLl, nnLr, nnQ, nnQr, nnN, Nat.add_zero, if_false, if_true, Option.bind_some, not_true, not_false_iff, not_true_eq_false, not_false_eq_true, eq_self, Nat.not_lt_zero, z10, z01, or_true, true_or, or_false, false_or, true_and, false_and, h3]) (st_t hi (st_f hz (st_l ?_)))
    by_cases q1 : rst2 wv y who < rst2 wv y k
    · have ea : aH (rst2 wv y) who k = 1 := if_pos q1
      rw [eA, ea] at IH
      refine st_t ((cmp_gt (by omega) (by omega) (by omega) (by omega)).mpr (by omega)) (st_l ?_)
      rw [show nn (sN (aH (rst2 wv y) who) k) + 1 = nn (sN (aH (rst2 wv y) who) k + 1) from nnA _ 1]
      exact IH
    refine st_f (fun e => q1 (by have := (cmp_gt (by omega) (by omega) (by omega) (by omega)).mp e; omega)) ?_
    by_cases q2 : rst2 wv y k = rst2 wv y who
    · refine st_f (fun e => e ((cmp_eq (by omega) (by omega) (by omega) (by omega)).mpr (by omega))) ?_
      by_cases q3 : who ≤ k
      · have ea : aH (rst2 wv y) who k = 0 := (if_neg q1).trans ((if_neg (fun e => e q2)).trans (if_pos q3))
        rw [eA, ea, Nat.add_zero] at IH
        exact st_t (by rw [nnE (by omega) (by omega)]; exact q3) (st_l IH)
      · have ea : aH (rst2 wv y) who k = 1 := (if_neg q1).trans ((if_neg (fun e => e q2)).trans (if_neg q3))
        rw [eA, ea] at IH
        refine st_f (by rw [nnE (by omega) (by omega)]; exact q3) (st_l ?_)
        rw [show nn (sN (aH (rst2 wv y) who) k) + 1 = nn (sN (aH (rst2 wv y) who) k + 1) from nnA _ 1]
        exact IH
    · have ea : aH (rst2 wv y) who k = 0 := (if_neg q1).trans (if_pos q2)
      rw [eA, ea, Nat.add_zero] at IH
      exact st_t (fun e => q2 (by have := (cmp_eq (by omega) (by omega) (by omega) (by omega)).mp e; omega)) (st_l IH)
theorem du95 (hw : ∀ i, i < 8 → wv i ≤ 159984) (hy : y ≤ 9999) (hwho : who < 8) (hpos : 0 < sN wv 8) {F0 : Nat} (hF0 : 10 < F0) : ∀ m k F (X : Sg), k + m = 8 → m < F → (∀ j, j < 8 → X 221 j = nn (wv j)) → (∀ j, j < k → X 222 j = nn (flo wv y j)) → ∃ X2, m_duty_95 F0 F (nn y) (nn who) (LI (sN wv 8 : Nat)) (Int32.ofInt ((y : Int) - (sN (flo wv y) k : Nat))) (nn k) X = some (dutA wv y who, X2) ∧ ∀ i, i ≠ 222 → X2 i = X i := by
  have hs8 : sN wv 8 ≤ 8 * 159984 := sN_le hw 8 (Nat.le_refl _)
  have hz : ¬ LI (sN wv 8 : Nat) = 0 := fun e => by
    have := (LI_q (a := ((sN wv 8 : Nat) : Int)) (b := 0) (by omega) (by omega) (by omega) (by omega)).mp e
    omega
  intro m
  induction m with
  | zero =>
    intro k F X hk hF h1 h2
    obtain ⟨F, rfl⟩ : ∃ F2, F = F2 + 1 := ⟨F - 1, by omega⟩
    have : k = 8 := by omega
    subst this
    have hi : inb (nn who) 8 = true := by simp (disch := first | omega | decide) only [lt1, nnMl, nnMr, nnAl, nnAr, nnA, nnM, nnB, nnT, nnP, nnE, nnEl, nnEr, nnL, nnLl, nnLr, nnQ, nnQr, nnN, Nat.add_zero, if_false, if_true, Option.bind_some, not_true, not_false_iff, not_true_eq_false, not_false_eq_true, eq_self, Nat.not_lt_zero, z10, z01, or_true, true_or, or_false, false_or, true_and, false_and, hwho]
    have e9 := du163 (X := X) h1 (h2 who hwho) hw hy hwho hpos 8 0 F0 (by omega) (by omega)
    refine ⟨X, ?_, fun _ _ => rfl⟩
    unfold m_duty_95
    rw [nnT (by omega), h1 who hwho, LI_n (show y < 2147483648 by omega), LI_n (show wv who < 2147483648 by have := hw who hwho; omega), yrem hy (hw who hwho) (by omega)]
    refine st_t (by decide) (st_t hi (st_f hz (st_l ?_)))
    rw [show dutA wv y who = _ from if_neg (by omega)]
    exact e9
  | succ m ih =>
    intro k F X hk hF h1 h2
    obtain ⟨F, rfl⟩ : ∃ F2, F = F2 + 1 := ⟨F - 1, by omega⟩
    have hk8 : k < 8 := by omega
    have h3 : ¬ 8 ≤ k := by omega
    have hi : inb (nn k) 8 = true := by simp (disch := first | omega | decide) only [lt1, nnMl, nnMr, nnAl, nnAr, nnA, nnM, nnB, nnT, nnP, nnE, nnEl, nnEr, nnL, nnLl, nnLr, nnQ, nnQr, nnN, Nat.add_zero, if_false, if_true, Option.bind_some, not_true, not_false_iff, not_true_eq_false, not_false_eq_true, eq_self, Nat.not_lt_zero, z10, z01, or_true, true_or, or_false, false_or, true_and, false_and, hk8]
    have hf := flo_le (y := y) hw hk8
    obtain ⟨X2, r1, r2⟩ := ih (k + 1) F (up2 X 222 k (nn (flo wv y k))) (by omega) (by omega) (fun j hj => by rw [u2n (by decide)]; exact h1 j hj) (fun j hj => by
      rw [u2e]
      by_cases e : j = k
      · rw [e, up1_eq]
      · rw [up1_ne e]; exact h2 j (by omega))
    refine ⟨X2, ?_, fun i e => (r2 i e).trans (u2n e)⟩
    unfold m_duty_95
    rw [nnT (show k < 2147483648 by omega), h1 k hk8, LI_n (show y < 2147483648 by omega), LI_n (show wv k < 2147483648 by have := hw k hk8; omega), ydiv hy (hw k hk8) (by omega), show y * wv k / sN wv 8 = flo wv y k from rfl, LI_32 (by omega), show nn k + 1 = nn (k + 1) from nnA k 1]
    refine st_f (by simp (disch := first | omega | decide) only [lt1, nnMl, nnMr, nnAl, nnAr, nnA, nnM, nnB, nnT, nnP, nnE, nnEl, nnEr, nnL, nnLl, nnLr, nnQ, nnQr, nnN, Nat.add_zero, if_false, if_true, Option.bind_some, not_true, not_false_iff, not_true_eq_false, not_false_eq_true, eq_self, Nat.not_lt_zero, z10, z01, or_true, true_or, or_false, false_or, true_and, false_and, h3]) (st_t hi (st_f hz (st_w hi (st_t hi (st_l ?_)))))
    have e5 : Int32.ofInt ((y : Int) - (sN (flo wv y) k : Nat)) - nn (flo wv y k) = Int32.ofInt ((y : Int) - (sN (flo wv y) k : Nat) - (flo wv y k : Nat)) := by
      rw [nn_ofI (flo wv y k)]
      exact (Int32.ofInt_sub _ _).symm
    rw [u2e, up1_eq, e5]
    have e : (y : Int) - (sN (flo wv y) k : Nat) - (flo wv y k : Nat) = (y : Int) - (sN (flo wv y) (k + 1) : Nat) := by
      show _ = (y : Int) - ((sN (flo wv y) k + flo wv y k : Nat) : Int)
      omega
    rw [e]
    exact r1
theorem du39 {c : Sg} {N C Q D T L W : Nat} {fv : Nat → Int32} {A : Nat → Int32} (hM : RNet c A N C Q) (r : RRig c A D N Q) (hl : RLaw c A T L) (hW : W < 100) (hfv : ∀ k, k < 8 → farP c N C Q k (fv k)) (hwv : ∀ j, j < 8 → (jg c (FVh c D Q W fv j) L 0 0 0).1 = nn (wv j)) (hw : ∀ i, i < 8 → wv i ≤ 159984) (hy : y ≤ 9999) (hwho : who < 8) {F0 : Nat} (hF0 : 2400 < F0) : ∀ m k F (X : Sg), k + m = 8 → m < F → X 216 = A → (∀ j, j < k → X 221 j = nn (wv j)) → ∃ X2, m_duty_39 F0 F (nn y) (nn W) (nn who) (LI (sN wv k : Nat)) (nn k) X = some (dutA wv y who, X2) ∧ ∀ i, i ≠ 215 → i ≠ 218 → i ≠ 221 → i ≠ 222 → X2 i = X i := by
  have hs8 : ∀ k, k ≤ 8 → sN wv k ≤ k * 159984 := sN_le hw
  intro m
  induction m with
  | zero =>
    intro k F X hk hF hX h1
    obtain ⟨F, rfl⟩ : ∃ F2, F = F2 + 1 := ⟨F - 1, by omega⟩
    have : k = 8 := by omega
    subst this
    have h8 := hs8 8 (Nat.le_refl _)
    by_cases q : sN wv 8 = 0
    · refine ⟨X, ?_, fun _ _ _ _ _ => rfl⟩
      unfold m_duty_39
      rw [show dutA wv y who = 0 from if_pos q, q]
      exact st_t (by decide) (st_f (fun e => e (by decide)) rfl)
    · obtain ⟨X2, r1, r2⟩ := du95 hw hy hwho (show 0 < sN wv 8 by omega) (F0 := F0) (by omega) 8 0 F0 X (by omega) (by omega) h1 (fun j hj => absurd hj (by omega))
      refine ⟨X2, ?_, fun i _ _ _ e => r2 i e⟩
      unfold m_duty_39
      refine st_t (by decide) (st_t (fun e => q (by have := (cmp_eq (a := ((sN wv 8 : Nat) : Int)) (b := 0) (by omega) (by omega) (by omega) (by omega)).mp e; omega)) ?_)
      rw [show ((y : Int) - ((sN (flo wv y) 0 : Nat) : Int)) = (y : Int) by show (y : Int) - ((0 : Nat) : Int) = y; omega] at r1
      exact r1
  | succ m ih =>
    intro k F X hk hF hX h1
    obtain ⟨F, rfl⟩ : ∃ F2, F = F2 + 1 := ⟨F - 1, by omega⟩
    have hk8 : k < 8 := by omega
    have h3 : ¬ 8 ≤ k := by omega
    obtain ⟨M2, w1, w2, w3, w4, w5, w6, w7⟩ := weighs_m (c := c) (M := X) (by rw [hX]; exact hM) (by rw [hX]; exact r) (by rw [hX]; exact hl) hk8 hW (fv := fv) (hfv k hk8) hF0
    rw [hwv k hk8] at w5
    obtain ⟨X2, r1, r2⟩ := ih (k + 1) F (up2 M2 221 k (nn (wv k))) (by omega) (by omega) (by rw [u2n (by decide), w7 216 (by decide) (by decide)]; exact hX) (fun j hj => by
      rw [u2e]
      by_cases e : j = k
      · rw [e, up1_eq]
      · rw [up1_ne e, w7 221 (by decide) (by decide)]; exact h1 j (by omega))
    refine ⟨X2, ?_, fun i e1 e2 e3 e4 => by rw [r2 i e1 e2 e3 e4, u2n e3, w7 i e1 e2]⟩
    unfold m_duty_39
    rw [nnT (by omega), show nn k + 1 = nn (k + 1) from nnA k 1]
    refine st_f (by simp (disch := first | omega | decide) only [lt1, nnMl, nnMr, nnAl, nnAr, nnA, nnM, nnB, nnT, nnP, nnE, nnEl, nnEr, nnL, nnLl, nnLr, nnQ, nnQr, nnN, Nat.add_zero, if_false, if_true, Option.bind_some, not_true, not_false_iff, not_true_eq_false, not_false_eq_true, eq_self, Nat.not_lt_zero, z10, z01, or_true, true_or, or_false, false_or, true_and, false_and, h3]) (st_b w1 (st_w (by simp (disch := first | omega | decide) only [lt1, nnMl, nnMr, nnAl, nnAr, nnA, nnM, nnB, nnT, nnP, nnE, nnEl, nnEr, nnL, nnLl, nnLr, nnQ, nnQr, nnN, Nat.add_zero, if_false, if_true, Option.bind_some, not_true, not_false_iff, not_true_eq_false, not_false_eq_true, eq_self, Nat.not_lt_zero, z10, z01, or_true, true_or, or_false, false_or, true_and, false_and, hk8]) (st_l ?_)))
    rw [u2n (show 215 ≠ 221 by decide), w5, LI_n (show wv k < 2147483648 by have := hw k hk8; omega), LI_a, ← Int.natCast_add]
    exact r1
end WQ
section SW
theorem sim_duty {TS : Sg → Prop} (hT : TSf TS) : Sim_duty (RR TS) := by
  intro v1 v2 v3 g hR
  obtain ⟨N, C, Q, D, T, L, G, h⟩ := hR.now
  have hQ := h.net.hQ
  rcases chk v1 9999 9999 rfl (by decide) with ⟨y, hy, rfl, x1, m1⟩ | ⟨x1, m1⟩
  rotate_left
  · refine ⟨0, 0, -1, g, g, ?_, ?_, hR⟩
    · unfold x_duty
      exact st_b (x1 g) (st_t rfl rfl)
    · unfold m_duty
      exact st_b (m1 g) (st_t rfl rfl)
  rcases chk v2 99 99 rfl (by decide) with ⟨W, hW, rfl, x2, m2⟩ | ⟨x2, m2⟩
  rotate_left
  · refine ⟨0, 0, -1, g, g, ?_, ?_, hR⟩
    · unfold x_duty
      exact st_b (x1 g) (st_f (by decide) (st_b (week_of (Or.inl rfl) x2) (st_t rfl rfl)))
    · unfold m_duty
      exact st_b (m1 g) (st_f (by decide) (st_b (m2 g) (st_t rfl rfl)))
  rcases chk v3 7 7 rfl (by decide) with ⟨n, hn, rfl, x3, m3⟩ | ⟨x3, m3⟩
  rotate_left
  · refine ⟨0, 0, -1, g, g, ?_, ?_, hR⟩
    · unfold x_duty
      exact st_b (x1 g) (st_f (by decide) (st_b (week_of (Or.inr rfl) x2) (st_f (by decide) (st_b (holder_of (Or.inl rfl) x3) (st_f (by decide) rfl)))))
    · unfold m_duty
      exact st_b (m1 g) (st_f (by decide) (st_b (m2 g) (st_f (by decide) (st_b (m3 g) (st_f (by decide) rfl)))))
  have hn8 : n < 8 := by omega
  have hW100 : W < 100 := by omega
  obtain ⟨fv, hfv⟩ := Classical.axiomOfChoice (fun k => (by
    by_cases e : k < 8
    · obtain ⟨v, hv⟩ := far_ex h.net h.rig e
      exact ⟨v, fun _ => hv⟩
    · exact ⟨0, fun e2 => absurd e2 e⟩ : ∃ v, k < 8 → farP g N C Q k v))
  obtain ⟨wv, hwv⟩ := Classical.axiomOfChoice (fun j => jgW (FV := FVh g D Q W fv j) h.law L 0 0 0 0 (by omega) rfl (by omega))
  obtain ⟨S, s1, ⟨s2, s3, s4, s5⟩, s6⟩ := reckon_y (s := g) h.law h.rig hQ (fun _ _ _ => rfl) hW100 hfv (F := 2401) (by decide)
  have e216 : S 216 = g 216 := s6 216 (by omega) (by omega)
  obtain ⟨X2, r1, r2⟩ := du39 h.net h.rig h.law hW100 hfv (fun j _ => (hwv j).1) (fun i _ => (hwv i).2) hy hn8 (F0 := 2401) (by decide) 8 0 2401 S (by omega) (by omega) e216 (fun j hj => absurd hj (by omega))
  refine ⟨2401, 2401, dutA wv y n, S, X2, ?_, ?_, ?_⟩
  · unfold x_duty
    refine st_b (x1 g) (st_f (by decide) (st_b (week_of (Or.inr rfl) x2) (st_f (by decide) (st_b (holder_of (Or.inr rfl) x3) (st_t (by decide) (st_b s1 (st_b (x := dutA wv y n) ?_ rfl)))))))
    unfold reckoning_shareOf
    exact sh5 (fun j hj => (s5 j hj).2.1.trans (hwv j).1) (fun i _ => (hwv i).2) hy hn8 (by decide) 8 0 2401 (by omega) (by omega)
  · unfold m_duty
    exact st_b (m1 S) (st_f (by decide) (st_b (m2 S) (st_f (by decide) (st_b (m3 S) (st_t (by decide) r1)))))
  · exact RR.scr hT hR (fun i e1 e2 => by
      rw [r2 i (by omega) (by omega) (by omega) (by omega)]
      by_cases e : i ≤ 46
      · exact s2 i e1 e
      · exact s6 i (by omega) (by omega)) (fun i e1 e2 => by rw [r2 i (by omega) (by omega) (by omega) (by omega)]; exact s6 i (by omega) (by omega)) (by rw [r2 216 (by decide) (by decide) (by decide) (by decide)]; exact e216) (by rw [r2 217 (by decide) (by decide) (by decide) (by decide)]; exact s6 217 (by omega) (by omega))
end SW
