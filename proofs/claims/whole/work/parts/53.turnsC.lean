/-! laid turns: the class's search -/
def ARep (S : Sg) (n : Nat) (acc : Acc) : Prop := (acc = none ∧ S 208 6 = 0) ∨ ∃ a, acc = some a ∧ S 208 6 = 1 ∧ S 208 0 = nn a.1 ∧ S 208 1 = nn a.2.1 ∧ (∀ i, i < n → S 211 i = nn (a.2.2 i)) ∧ a.1 ≤ 8 ∧ a.2.1 ≤ 8
def CI (S : Sg) (n n0 gp P : Nat) (r : Nat → Nat) (s : Nat) (acc : Acc) : Prop := S 208 2 = nn n ∧ S 208 4 = nn n0 ∧ S 208 5 = nn gp ∧ S 208 7 = nn P ∧ ARep S n acc ∧ (∀ i, i < s → S 210 i = nn (r i)) ∧ ∀ q, q < P → S 212 q = nn (hld r q s) ∧ S 213 q = nn (ngs r q s) ∧ S 214 q = Int32.ofInt ((s : Int) - 1 - gon r q s)
def FT (S S2 : Sg) : Prop := (∀ i, i ≠ 208 → i ≠ 210 → i ≠ 211 → i ≠ 212 → i ≠ 213 → i ≠ 214 → S2 i = S i) ∧ ∀ j, j ≠ 0 → j ≠ 1 → j ≠ 6 → S2 208 j = S 208 j
theorem FT.r {S : Sg} : FT S S := ⟨fun _ _ _ _ _ _ _ => rfl, fun _ _ _ _ => rfl⟩
theorem FT.t {S S2 S3 : Sg} (h : FT S S2) (h2 : FT S2 S3) : FT S S3 := ⟨fun i a b c d e f => (h2.1 i a b c d e f).trans (h.1 i a b c d e f), fun j a b c => (h2.2 j a b c).trans (h.2 j a b c)⟩
theorem FT.w {S : Sg} {c i : Nat} {v : Int32} (h : c = 210 ∨ c = 211 ∨ c = 212 ∨ c = 213 ∨ c = 214) : FT S (up2 S c i v) := ⟨fun j a b c d e f => u2n (by omega), fun j _ _ _ => by rw [u2n (by omega)]⟩
theorem FT.w8 {S : Sg} {i : Nat} {v : Int32} (h : i = 0 ∨ i = 1 ∨ i = 6) : FT S (up2 S 208 i v) := ⟨fun j a _ _ _ _ _ => u2n a, fun j a b c => by rw [u2e, up1_ne (by omega)]⟩
def pot (acc : Acc) (c w m : Nat) : Prop := acc = none ∨ ∃ a, acc = some a ∧ (c < a.1 ∨ (c = a.1 ∧ a.2.1 < w + m))
def mnF (f : Nat → Nat) : Nat → Nat
  | 0 => 8
  | k + 1 => if f k < mnF f k then f k else mnF f k
def mxF (f : Nat → Nat) : Nat → Nat
  | 0 => 0
  | k + 1 => if mxF f k < f k then f k else mxF f k
theorem mn_p {f : Nat → Nat} : ∀ k, (∀ q, q < k → mnF f k ≤ f q) ∧ (mnF f k = 8 ∨ ∃ q, q < k ∧ mnF f k = f q) ∧ mnF f k ≤ 8
  | 0 => ⟨fun q h => absurd h (Nat.not_lt_zero _), Or.inl rfl, Nat.le_refl _⟩
  | k + 1 => by
    obtain ⟨h1, h2, h3⟩ := mn_p (f := f) k
    by_cases e : f k < mnF f k
    · rw [show mnF f (k + 1) = f k from if_pos e]
      refine ⟨fun q hq => ?_, Or.inr ⟨k, Nat.lt_succ_self _, rfl⟩, by omega⟩
      by_cases e2 : q = k
      · rw [e2]; exact Nat.le_refl _
      · have := h1 q (by omega)
        omega
    · rw [show mnF f (k + 1) = mnF f k from if_neg e]
      refine ⟨fun q hq => ?_, ?_, h3⟩
      · by_cases e2 : q = k
        · rw [e2]; omega
        · exact h1 q (by omega)
      · rcases h2 with h2 | ⟨q, q1, q2⟩
        · exact Or.inl h2
        · exact Or.inr ⟨q, by omega, q2⟩
theorem mx_p {f : Nat → Nat} : ∀ k, (∀ q, q < k → f q ≤ mxF f k) ∧ (mxF f k = 0 ∨ ∃ q, q < k ∧ mxF f k = f q)
  | 0 => ⟨fun q h => absurd h (Nat.not_lt_zero _), Or.inl rfl⟩
  | k + 1 => by
    obtain ⟨h1, h2⟩ := mx_p (f := f) k
    by_cases e : mxF f k < f k
    · rw [show mxF f (k + 1) = f k from if_pos e]
      refine ⟨fun q hq => ?_, Or.inr ⟨k, Nat.lt_succ_self _, rfl⟩⟩
      by_cases e2 : q = k
      · rw [e2]; exact Nat.le_refl _
      · have := h1 q (by omega)
        omega
    · rw [show mxF f (k + 1) = mxF f k from if_neg e]
      refine ⟨fun q hq => ?_, ?_⟩
      · by_cases e2 : q = k
        · rw [e2]; omega
        · exact h1 q (by omega)
      · rcases h2 with h2 | ⟨q, q1, q2⟩
        · exact Or.inl h2
        · exact Or.inr ⟨q, by omega, q2⟩
theorem even_mm {r : Nat → Nat} {P n : Nat} (hP : 0 < P) (hn : n ≤ 8) : even r P n ↔ mxF (fun q => ngs r q n) P ≤ mnF (fun q => ngs r q n) P + 1 := by
  obtain ⟨h1, h2, h3⟩ := mn_p (f := fun q => ngs r q n) P
  obtain ⟨k1, k2⟩ := mx_p (f := fun q => ngs r q n) P
  have hb : ∀ q, ngs r q n ≤ 8 := fun q => by
    have h1 := ngs_le (r := r) (q := q) n
    have h2 := hld_le0 (r := r) (q := q) (k := n)
    omega
  constructor
  · intro e
    rcases k2 with k2 | ⟨q, q1, q2⟩
    · omega
    · rcases h2 with h2 | ⟨q3, q4, q5⟩
      · have := hb q
        have q2 : mxF (fun q => ngs r q n) P = ngs r q n := q2
        omega
      · have := e q q3 q1 q4
        have q2 : mxF (fun q => ngs r q n) P = ngs r q n := q2
        have q5 : mnF (fun q => ngs r q n) P = ngs r q3 n := q5
        omega
  · intro e q q2 hq hq2
    have a1 : ngs r q n ≤ mxF (fun q => ngs r q n) P := k1 q hq
    have a2 : mnF (fun q => ngs r q n) P ≤ ngs r q2 n := h1 q2 hq2
    omega
section WR
variable {n n0 gp P : Nat}
theorem keepL {S : Sg} {f : Nat → Nat} (hP : P ≤ 4) (h7 : S 208 7 = nn P) (hf : ∀ q, q < P → S 213 q = nn (f q) ∧ f q ≤ 8) {c w : Int32} : ∀ m k F, k + m = P → m < F → turns_keep_9 F c w (nn (mnF f k)) (nn (mxF f k)) (nn k) S = if mxF f P ≤ mnF f P + 1 then some (cp2 (up2 (up2 (up2 S 208 6 1) 208 0 c) 208 1 w) 210 0 211 0 8) else some S := by
  have hb1 : ∀ k, mnF f k ≤ 8 := fun k => (mn_p k).2.2
  have hb2 : ∀ k, k ≤ P → mxF f k ≤ 8 := fun k hk => by
    rcases (mx_p (f := f) k).2 with e | ⟨q, q1, q2⟩
    · omega
    · have := (hf q (by omega)).2
      omega
  intro m
  induction m with
  | zero =>
    intro k F hk hF
    obtain ⟨F, rfl⟩ : ∃ F2, F = F2 + 1 := ⟨F - 1, by omega⟩
    have : k = P := by omega
    subst this
    have h1 := hb1 k
    have h2 := hb2 k (Nat.le_refl _)
    unfold turns_keep_9
    rw [h7]
    refine st_t (Int32.le_refl _) ?_
    have e : (1 : Int32) < nn (mxF f k) - nn (mnF f k) ↔ mnF f k + 1 < mxF f k := by
      rw [nn_ofI, nn_ofI, ← Int32.ofInt_sub, show (1 : Int32) = Int32.ofInt 1 from rfl, ofI_lt (by omega) (by omega) (by omega) (by omega)]
      omega
    by_cases q : mxF f k ≤ mnF f k + 1
    · rw [if_pos q]
      exact st_f (fun z => by have := e.mp z; omega) rfl
    · rw [if_neg q]
      exact st_t (e.mpr (by omega)) rfl
  | succ m ih =>
    intro k F hk hF
    obtain ⟨F, rfl⟩ : ∃ F2, F = F2 + 1 := ⟨F - 1, by omega⟩
    have h3 : ¬ P ≤ k := by omega
    have hk4 : k < 4 := by omega
    have hi : inb (nn k) 4 = true := by simp (disch := first | omega | decide) only [lt1, nnMl, nnMr, nnAl, nnAr, nnA, nnM, nnB, nnT, nnP, nnE, nnEl, nnEr, nnL, nnLl, nnLr, nnQ, nnQr, nnN, Nat.add_zero, if_false, if_true, Option.bind_some, not_true, not_false_iff, not_true_eq_false, not_false_eq_true, eq_self, Nat.not_lt_zero, z10, z01, or_true, true_or, or_false, false_or, true_and, false_and, hk4]
    obtain ⟨f1, f2⟩ := hf k (by omega)
    have h1 := hb1 k
    have h2 := hb2 k (by omega)
    have IH := ih (k + 1) F (by omega) (by omega)
    have e1 : (if nn (f k) < nn (mnF f k) then nn (f k) else nn (mnF f k)) = nn (mnF f (k + 1)) := by
      by_cases q : f k < mnF f k
      · rw [show mnF f (k + 1) = f k from if_pos q, if_pos (by rw [nnL (by omega) (by omega)]; exact q)]
      · rw [show mnF f (k + 1) = mnF f k from if_neg q, if_neg (by rw [nnL (by omega) (by omega)]; exact q)]
    have e2 : (if nn (mxF f k) < nn (f k) then nn (f k) else nn (mxF f k)) = nn (mxF f (k + 1)) := by
      by_cases q : mxF f k < f k
      · rw [show mxF f (k + 1) = f k from if_pos q, if_pos (by rw [nnL (by omega) (by omega)]; exact q)]
      · rw [show mxF f (k + 1) = mxF f k from if_neg q, if_neg (by rw [nnL (by omega) (by omega)]; exact q)]
    unfold turns_keep_9
    rw [h7, nnT (by omega), f1, e1, e2, show nn k + 1 = nn (k + 1) from nnA k 1]
    exact st_f (by simp (disch := first | omega | decide) only [lt1, nnMl, nnMr, nnAl, nnAr, nnA, nnM, nnB, nnT, nnP, nnE, nnEl, nnEr, nnL, nnLl, nnLr, nnQ, nnQr, nnN, Nat.add_zero, if_false, if_true, Option.bind_some, not_true, not_false_iff, not_true_eq_false, not_false_eq_true, eq_self, Nat.not_lt_zero, z10, z01, or_true, true_or, or_false, false_or, true_and, false_and, h3]) (st_w hi (st_w hi IH))
theorem keep_x {S : Sg} {r : Nat → Nat} {acc : Acc} (hP0 : 0 < P) (hP : P ≤ 4) (hn : n ≤ 8) (hS : CI S n n0 gp P r n acc) (hg : okg r P gp n) (hm : mis r n0 n P = 0) (hb : btr acc (chg r n) (hld r P n)) {F : Nat} (hF : 5 < F) : ∃ S2, turns_keep F (nn (chg r n)) (nn (hld r P n)) S = some S2 ∧ CI S2 n n0 gp P r n (updA P n0 gp n r acc) ∧ FT S S2 := by
  obtain ⟨c1, c2, c3, c4, c5, c6, c7⟩ := hS
  have hk := keepL (S := S) (f := fun q => ngs r q n) hP c4 (fun q hq => ⟨(c7 q hq).2.1, by
    have h1 := ngs_le (r := r) (q := q) n
    have h2 := hld_le0 (r := r) (q := q) (k := n)
    show ngs r q n ≤ 8
    omega⟩) (c := nn (chg r n)) (w := nn (hld r P n)) P 0 F (by omega) (by omega)
  have hk : turns_keep F (nn (chg r n)) (nn (hld r P n)) S = _ := hk
  by_cases q : mxF (fun q => ngs r q n) P ≤ mnF (fun q => ngs r q n) P + 1
  · rw [if_pos q] at hk
    have ok : okR r P n0 gp n := ⟨hg, (mis_0 P).mp hm, (even_mm hP0 hn).mpr q⟩
    refine ⟨_, hk, ?_, ?_⟩
    · rw [updA_y ⟨ok, hb⟩]
      have hcl := chg_le (r := r) n
      have hhl := hld_le0 (r := r) (q := P) (k := n)
      refine ⟨?_, ?_, ?_, ?_, Or.inr ⟨_, rfl, ?_, ?_, ?_, fun i hi => ?_, Nat.le_trans hcl hn, Nat.le_trans hhl hn⟩, fun i hi => ?_, fun q hq => ?_⟩
      · rw [cp_c (by decide)]; simp (disch := first | omega | decide) only [u2e, u2n, up1_eq, up1_ne, ne_eq, c1]
      · rw [cp_c (by decide)]; simp (disch := first | omega | decide) only [u2e, u2n, up1_eq, up1_ne, ne_eq, c2]
      · rw [cp_c (by decide)]; simp (disch := first | omega | decide) only [u2e, u2n, up1_eq, up1_ne, ne_eq, c3]
      · rw [cp_c (by decide)]; simp (disch := first | omega | decide) only [u2e, u2n, up1_eq, up1_ne, ne_eq, c4]
      · rw [cp_c (by decide)]; simp (disch := first | omega | decide) only [u2e, u2n, up1_eq, up1_ne, ne_eq]
      · rw [cp_c (by decide)]; simp (disch := first | omega | decide) only [u2e, u2n, up1_eq, up1_ne, ne_eq]
      · rw [cp_c (by decide)]; simp (disch := first | omega | decide) only [u2e, u2n, up1_eq, up1_ne, ne_eq]
      · have := cp_i (g := up2 (up2 (up2 S 208 6 1) 208 0 (nn (chg r n))) 208 1 (nn (hld r P n))) (a := 210) (i := 0) (b := 211) (j := 0) (n := 8) (k := i) (by omega)
        rw [Nat.zero_add] at this
        rw [this, u2n (by decide), u2n (by decide), u2n (by decide), c6 i hi]
        show nn (r i) = nn (row0 r n i)
        rw [show row0 r n i = r i from if_pos hi]
      · rw [cp_c (by decide), u2n (by decide), u2n (by decide), u2n (by decide)]; exact c6 i hi
      · rw [cp_c (by decide), cp_c (by decide), cp_c (by decide), u2n (by decide), u2n (by decide), u2n (by decide), u2n (by decide), u2n (by decide), u2n (by decide), u2n (by decide), u2n (by decide), u2n (by decide)]; exact c7 q hq
    · refine FT.t (FT.t (FT.t (FT.w8 (by omega)) (FT.w8 (by omega))) (FT.w8 (by omega))) ⟨fun i a b c d e f => cp_c c, fun j _ _ _ => by rw [cp_c (by decide)]⟩
  · rw [if_neg q] at hk
    refine ⟨S, hk, ?_, FT.r⟩
    rw [updA_n (fun h => q ((even_mm hP0 hn).mp h.1.2.2))]
    exact ⟨c1, c2, c3, c4, c5, c6, c7⟩
theorem cbb_x {S : Sg} {acc : Acc} {s c w m : Nat} (h2 : S 208 2 = nn n) (hA : ARep S n acc) (hs : s + 1 + m = n) (hn : n ≤ 8) (hc : c ≤ 9) (hw : w ≤ 9) : (pot acc c w m → turns_canBeBetter (nn s) (nn c) (nn w) S = some 1) ∧ (¬ pot acc c w m → turns_canBeBetter (nn s) (nn c) (nn w) S = some 0) := by
  unfold turns_canBeBetter
  rw [h2]
  rcases hA with ⟨rfl, e⟩ | ⟨a, rfl, e1, e2, e3, _, e4, e5⟩
  · exact ⟨fun _ => st_t e rfl, fun h => absurd (Or.inl rfl) h⟩
  · have hp : pot (some a) c w m ↔ (c < a.1 ∨ (c = a.1 ∧ a.2.1 < w + m)) := by
      constructor
      · rintro (h | ⟨a2, h, h3⟩)
        · cases h
        · cases h; exact h3
      · exact fun h => Or.inr ⟨a, rfl, h⟩
    rw [hp, e1, e2, e3]
    have ew : nn w + nn n - 1 - nn s = nn (w + m) := by
      rw [nnA, show (1 : Int32) = nn 1 from rfl, nnS (by omega), nnS (by omega)]
      congr 1
      omega
    rw [ew]
    constructor
    · intro h
      refine st_f (by decide) ?_
      by_cases q : a.1 ≤ c
      · refine st_t (by rw [nnE (by omega) (by omega)]; exact q) (st_f ?_ (st_f ?_ rfl))
        · rw [nnQ (by omega) (by omega)]; omega
        · rw [nnE (by omega) (by omega)]; omega
      · exact st_f (by rw [nnE (by omega) (by omega)]; exact q) rfl
    · intro h
      refine st_f (by decide) (st_t (by rw [nnE (by omega) (by omega)]; omega) ?_)
      by_cases q : c = a.1
      · exact st_f (fun z => z (by rw [q])) (st_t (by rw [nnE (by omega) (by omega)]; omega) rfl)
      · exact st_t (nnNe (by omega) (by omega) q) rfl
theorem suL {S : Sg} {r : Nat → Nat} {acc : Acc} {s m0 : Nat} (hP : P ≤ 4) (hn0 : n0 ≤ 4) (hgp : gp ≤ 7) (hS : CI S n n0 gp P r (s + 1) acc) (hs : s + 1 + m0 = n) (hn : n ≤ 8) : ∀ m k F, k + m = P → m < F → ((∀ q, k ≤ q → q < P → gon r q (s + 1) ≤ gp) ∧ mis r n0 (s + 1) P ≤ m0 → turns_standsUpTo_4 F (nn s) (nn (mis r n0 (s + 1) k)) (nn k) S = some 1) ∧ (¬ ((∀ q, k ≤ q → q < P → gon r q (s + 1) ≤ gp) ∧ mis r n0 (s + 1) P ≤ m0) → turns_standsUpTo_4 F (nn s) (nn (mis r n0 (s + 1) k)) (nn k) S = some 0) := by
  obtain ⟨c1, c2, c3, c4, c5, c6, c7⟩ := hS
  have hmis : ∀ k, mis r n0 (s + 1) k ≤ k * n0 := fun k => by
    induction k with
    | zero => exact Nat.zero_le _
    | succ k ih =>
      show mis r n0 (s + 1) k + (n0 - hld r k (s + 1)) ≤ (k + 1) * n0
      rw [Nat.succ_mul]
      omega
  have hmb : ∀ k, k ≤ 4 → mis r n0 (s + 1) k ≤ 16 := fun k hk => Nat.le_trans (hmis k) (Nat.le_trans (Nat.mul_le_mul hk hn0) (by decide))
  intro m
  induction m with
  | zero =>
    intro k F hk hF
    obtain ⟨F, rfl⟩ : ∃ F2, F = F2 + 1 := ⟨F - 1, by omega⟩
    have : k = P := by omega
    subst this
    have hb := hmb k hP
    unfold turns_standsUpTo_4
    rw [c4, c1]
    have e : nn n - 1 - nn s = nn m0 := by
      rw [show (1 : Int32) = nn 1 from rfl, nnS (by omega), nnS (by omega)]
      congr 1
      omega
    rw [e]
    constructor
    · rintro ⟨_, h⟩
      exact st_t (Int32.le_refl _) (st_f (by rw [nnL (by omega) (by omega)]; omega) rfl)
    · intro h
      refine st_t (Int32.le_refl _) (st_t ?_ rfl)
      rw [nnL (by omega) (by omega)]
      exact Nat.not_le.mp (fun q => h ⟨fun q h1 h2 => absurd h1 (by omega), q⟩)
  | succ m ih =>
    intro k F hk hF
    obtain ⟨F, rfl⟩ : ∃ F2, F = F2 + 1 := ⟨F - 1, by omega⟩
    have h3 : ¬ P ≤ k := by omega
    have hk4 : k < 4 := by omega
    have hi : inb (nn k) 4 = true := by simp (disch := first | omega | decide) only [lt1, nnMl, nnMr, nnAl, nnAr, nnA, nnM, nnB, nnT, nnP, nnE, nnEl, nnEr, nnL, nnLl, nnLr, nnQ, nnQr, nnN, Nat.add_zero, if_false, if_true, Option.bind_some, not_true, not_false_iff, not_true_eq_false, not_false_eq_true, eq_self, Nat.not_lt_zero, z10, z01, or_true, true_or, or_false, false_or, true_and, false_and, hk4]
    obtain ⟨d1, d2, d3⟩ := c7 k (by omega)
    have hgl := gon_le (r := r) (q := k) (s + 1)
    have hhl := hld_le0 (r := r) (q := k) (k := s + 1)
    have e1 : nn s - Int32.ofInt ((((s + 1 : Nat) : Int)) - 1 - gon r k (s + 1)) = nn (gon r k (s + 1)) := by
      rw [nn_ofI s, ← Int32.ofInt_sub, nn_ofI]
      congr 1
      omega
    have e2 : (if 0 < nn n0 - nn (hld r k (s + 1)) then nn n0 - nn (hld r k (s + 1)) else 0) = nn (n0 - hld r k (s + 1)) := by
      have e3 : nn n0 - nn (hld r k (s + 1)) = Int32.ofInt ((n0 : Int) - (hld r k (s + 1) : Nat)) := by
        rw [nn_ofI, nn_ofI, ← Int32.ofInt_sub]
      rw [e3]
      by_cases q : hld r k (s + 1) < n0
      · rw [if_pos (by rw [show (0 : Int32) = Int32.ofInt 0 from rfl, ofI_lt (by omega) (by omega) (by omega) (by omega)]; omega), nn_ofI]
        congr 1
        exact (Int.ofNat_sub (Nat.le_of_lt q)).symm
      · rw [if_neg (by rw [show (0 : Int32) = Int32.ofInt 0 from rfl, ofI_lt (by omega) (by omega) (by omega) (by omega)]; omega), show n0 - hld r k (s + 1) = 0 by omega]
        rfl
    obtain ⟨i1, i2⟩ := ih (k + 1) F (by omega) (by omega)
    unfold turns_standsUpTo_4
    rw [c4, c3, c2, nnT (show k < 2147483648 by omega), d1, d3, e1, e2, nnA, show nn k + 1 = nn (k + 1) from nnA k 1]
    by_cases q : gon r k (s + 1) ≤ gp
    · constructor
      · rintro ⟨h1, h2⟩
        exact st_f (by simp (disch := first | omega | decide) only [lt1, nnMl, nnMr, nnAl, nnAr, nnA, nnM, nnB, nnT, nnP, nnE, nnEl, nnEr, nnL, nnLl, nnLr, nnQ, nnQr, nnN, Nat.add_zero, if_false, if_true, Option.bind_some, not_true, not_false_iff, not_true_eq_false, not_false_eq_true, eq_self, Nat.not_lt_zero, z10, z01, or_true, true_or, or_false, false_or, true_and, false_and, h3]) (st_t hi (st_t (by rw [nnE (by omega) (by omega)]; exact q) (st_t hi (st_l (i1 ⟨fun q2 a b => h1 q2 (by omega) b, h2⟩)))))
      · intro h
        refine st_f (by simp (disch := first | omega | decide) only [lt1, nnMl, nnMr, nnAl, nnAr, nnA, nnM, nnB, nnT, nnP, nnE, nnEl, nnEr, nnL, nnLl, nnLr, nnQ, nnQr, nnN, Nat.add_zero, if_false, if_true, Option.bind_some, not_true, not_false_iff, not_true_eq_false, not_false_eq_true, eq_self, Nat.not_lt_zero, z10, z01, or_true, true_or, or_false, false_or, true_and, false_and, h3]) (st_t hi (st_t (by rw [nnE (by omega) (by omega)]; exact q) (st_t hi (st_l (i2 (fun h2 => h ⟨fun q2 a b => ?_, h2.2⟩))))))
        by_cases e : q2 = k
        · rw [e]; exact q
        · exact h2.1 q2 (by omega) b
    · constructor
      · rintro ⟨h1, h2⟩
        exact absurd (h1 k (Nat.le_refl _) (by omega)) q
      · intro h
        exact st_f (by simp (disch := first | omega | decide) only [lt1, nnMl, nnMr, nnAl, nnAr, nnA, nnM, nnB, nnT, nnP, nnE, nnEl, nnEr, nnL, nnLl, nnLr, nnQ, nnQr, nnN, Nat.add_zero, if_false, if_true, Option.bind_some, not_true, not_false_iff, not_true_eq_false, not_false_eq_true, eq_self, Nat.not_lt_zero, z10, z01, or_true, true_or, or_false, false_or, true_and, false_and, h3]) (st_t hi (st_f (by rw [nnE (by omega) (by omega)]; exact q) rfl))
theorem wP_y {ch : Nat} {g : Sg} (h : ch < P) (hP : P ≤ 4) : x_within (nn ch) 0 (nn P - 1) g = some 1 := by
  rw [within_eq, if_pos ((rg1 (by omega)).mpr ⟨ch, h, rfl⟩)]
theorem wP_n {ch : Nat} {g : Sg} (h : P ≤ ch) (hch : ch ≤ 4) (hP : P ≤ 4) : x_within (nn ch) 0 (nn P - 1) g = some 0 := by
  rw [within_eq, if_neg (fun e => by
    obtain ⟨k, h1, h2⟩ := (rg1 (by omega)).mp e
    rw [nnQ (by omega) (by omega)] at h2
    omega)]
theorem ARep.cg {S S2 : Sg} {acc : Acc} (h : ARep S n acc) (h8 : S2 208 = S 208) (h11 : S2 211 = S 211) : ARep S2 n acc := by
  unfold ARep at *
  rw [h8, h11]
  exact h
theorem put_x {S : Sg} {r : Nat → Nat} {acc : Acc} {s ch : Nat} (hP : P ≤ 4) (hs : s < 8) (hch : ch ≤ P) (hS : CI S n n0 gp P r s acc) : ∃ b S2, turns_put (nn s) (nn ch) S = some (b, S2) ∧ CI S2 n n0 gp P (upr r s ch) (s + 1) acc ∧ FT S S2 ∧ S2 211 = S 211 ∧ (ch < P → b = Int32.ofInt ((s : Int) - 1 - gon r ch s)) := by
  obtain ⟨c1, c2, c3, c4, c5, c6, c7⟩ := hS
  have hi : inb (nn s) 8 = true := by simp (disch := first | omega | decide) only [lt1, nnMl, nnMr, nnAl, nnAr, nnA, nnM, nnB, nnT, nnP, nnE, nnEl, nnEr, nnL, nnLl, nnLr, nnQ, nnQr, nnN, Nat.add_zero, if_false, if_true, Option.bind_some, not_true, not_false_iff, not_true_eq_false, not_false_eq_true, eq_self, Nat.not_lt_zero, z10, z01, or_true, true_or, or_false, false_or, true_and, false_and, hs]
  have er : ∀ i, i < s → upr r s ch i = r i := fun i hi => upr_n (by omega)
  have ehl : ∀ q, hld (upr r s ch) q (s + 1) = hld r q s + (if ch = q then 1 else 0) := fun q => by
    show hld (upr r s ch) q s + (if upr r s ch s = q then 1 else 0) = _
    rw [hld_cg s er, upr_e]
  have eng : ∀ q, ngs (upr r s ch) q (s + 1) = ngs r q s + (if ch = q then s % 2 else 0) := fun q => by
    show ngs (upr r s ch) q s + (if upr r s ch s = q then s % 2 else 0) = _
    rw [ngs_cg s er, upr_e]
  have ego : ∀ q, gon (upr r s ch) q (s + 1) = if ch = q then 0 else gon r q s + 1 := fun q => by
    show (if upr r s ch s = q then 0 else gon (upr r s ch) q s + 1) = _
    rw [gon_cg s er, upr_e]
  have e10 : ∀ (X : Sg), X 210 = up1 (S 210) s (nn ch) → ∀ i, i < s + 1 → X 210 i = nn (upr r s ch i) := fun X hX i hi => by
    rw [hX]
    by_cases e : i = s
    · rw [e, up1_eq, upr_e]
    · rw [up1_ne e, upr_n e]; exact c6 i (by omega)
  by_cases hp : ch < P
  · obtain ⟨d1, d2, d3⟩ := c7 ch hp
    have h4 : ch < 4 := by omega
    have hi4 : inb (nn ch) 4 = true := by simp (disch := first | omega | decide) only [lt1, nnMl, nnMr, nnAl, nnAr, nnA, nnM, nnB, nnT, nnP, nnE, nnEl, nnEr, nnL, nnLl, nnLr, nnQ, nnQr, nnN, Nat.add_zero, if_false, if_true, Option.bind_some, not_true, not_false_iff, not_true_eq_false, not_false_eq_true, eq_self, Nat.not_lt_zero, z10, z01, or_true, true_or, or_false, false_or, true_and, false_and, h4]
    have em : nn s - nn s / 2 * 2 = nn (s % 2) := by
      have e : nn s / 2 * 2 = nn (s / 2 * 2) := by simp (disch := first | omega | decide) only [lt1, nnMl, nnMr, nnAl, nnAr, nnA, nnM, nnB, nnT, nnP, nnE, nnEl, nnEr, nnL, nnLl, nnLr, nnQ, nnQr, nnN, Nat.add_zero, if_false, if_true, Option.bind_some, not_true, not_false_iff, not_true_eq_false, not_false_eq_true, eq_self, Nat.not_lt_zero, z10, z01, or_true, true_or, or_false, false_or, true_and, false_and, nnDr]
      rw [e, nnS (a := s) (b := s / 2 * 2) (by omega), show s - s / 2 * 2 = s % 2 by omega]
    refine ⟨S 214 ch, up2 (up2 (up2 (up2 S 210 s (nn ch)) 214 ch (nn s)) 212 ch (S 212 ch + 1)) 213 ch (S 213 ch + nn (s % 2)), ?_, ⟨?_, ?_, ?_, ?_, ?_, ?_, ?_⟩, ?_, ?_, fun _ => d3⟩
    · unfold turns_put
      rw [nnT (show s < 2147483648 by omega), em]
      refine st_w hi (st_b (x := 1) ?_ (st_t (by decide) ?_))
      · rw [u2n (show 208 ≠ 210 by decide), c4]
        exact wP_y hp hP
      · rw [nnT (show ch < 2147483648 by omega), u2n (show 214 ≠ 210 by decide)]
        refine st_w hi4 (st_w hi4 (st_t hi4 (st_w hi4 (st_t hi4 (st_w hi4 ?_)))))
        rw [u2n (show 212 ≠ 214 by decide), u2n (show 212 ≠ 210 by decide), u2n (show 213 ≠ 212 by decide), u2n (show 213 ≠ 214 by decide), u2n (show 213 ≠ 210 by decide)]
    · simp (disch := first | omega | decide) only [u2e, u2n, up1_eq, up1_ne, ne_eq, c1]
    · simp (disch := first | omega | decide) only [u2e, u2n, up1_eq, up1_ne, ne_eq, c2]
    · simp (disch := first | omega | decide) only [u2e, u2n, up1_eq, up1_ne, ne_eq, c3]
    · simp (disch := first | omega | decide) only [u2e, u2n, up1_eq, up1_ne, ne_eq, c4]
    · exact c5.cg (by simp (disch := first | omega | decide) only [u2e, u2n, up1_eq, up1_ne, ne_eq]) (by simp (disch := first | omega | decide) only [u2e, u2n, up1_eq, up1_ne, ne_eq])
    · exact e10 _ (by simp (disch := first | omega | decide) only [u2e, u2n, up1_eq, up1_ne, ne_eq])
    · intro q hq
      obtain ⟨q1, q2, q3⟩ := c7 q hq
      have g1 := gon_le (r := r) (q := q) s
      rw [ehl, eng, ego, u2n (show 212 ≠ 213 by decide), u2e, u2e, u2n (show 214 ≠ 213 by decide), u2n (show 214 ≠ 212 by decide), u2e]
      by_cases e : q = ch
      · subst e
        rw [up1_eq, up1_eq, up1_eq, if_pos rfl, if_pos rfl, if_pos rfl, q1, q2]
        refine ⟨nnA _ 1, nnA _ _, ?_⟩
        rw [nn_ofI]
        congr 1
        omega
      · rw [up1_ne e, up1_ne e, up1_ne e, if_neg (fun z => e z.symm), if_neg (fun z => e z.symm), if_neg (fun z => e z.symm), u2n (show 212 ≠ 214 by decide), u2n (show 212 ≠ 210 by decide), u2n (show 213 ≠ 212 by decide), u2n (show 213 ≠ 214 by decide), u2n (show 213 ≠ 210 by decide), u2n (show 214 ≠ 210 by decide), q1, q2, q3]
        refine ⟨rfl, rfl, ?_⟩
        congr 1
        omega
    · exact ((FT.w (by omega)).t (FT.w (by omega))).t ((FT.w (by omega)).t (FT.w (by omega)))
    · simp (disch := first | omega | decide) only [u2e, u2n, up1_eq, up1_ne, ne_eq]
  · have hcP : ch = P := by omega
    refine ⟨-1, up2 S 210 s (nn ch), ?_, ⟨?_, ?_, ?_, ?_, ?_, ?_, ?_⟩, FT.w (by omega), u2n (by decide), fun h => absurd h hp⟩
    · unfold turns_put
      rw [nnT (show s < 2147483648 by omega)]
      refine st_w hi (st_b (x := 0) ?_ (st_f (by decide) rfl))
      rw [u2n (show 208 ≠ 210 by decide), c4]
      exact wP_n (by omega) (by omega) hP
    · simp (disch := first | omega | decide) only [u2e, u2n, up1_eq, up1_ne, ne_eq, c1]
    · simp (disch := first | omega | decide) only [u2e, u2n, up1_eq, up1_ne, ne_eq, c2]
    · simp (disch := first | omega | decide) only [u2e, u2n, up1_eq, up1_ne, ne_eq, c3]
    · simp (disch := first | omega | decide) only [u2e, u2n, up1_eq, up1_ne, ne_eq, c4]
    · exact c5.cg (by simp (disch := first | omega | decide) only [u2e, u2n, up1_eq, up1_ne, ne_eq]) (by simp (disch := first | omega | decide) only [u2e, u2n, up1_eq, up1_ne, ne_eq])
    · exact e10 _ u2e
    · intro q hq
      obtain ⟨q1, q2, q3⟩ := c7 q hq
      have e : ¬ ch = q := by omega
      rw [ehl, eng, ego, if_neg e, if_neg e, if_neg e, u2n (by decide), u2n (by decide), u2n (by decide), q1, q2, q3]
      refine ⟨rfl, rfl, ?_⟩
      congr 1
      omega
theorem back_x {S : Sg} {r : Nat → Nat} {acc : Acc} {s ch : Nat} {b : Int32} (hP : P ≤ 4) (hs : s < 8) (hch : ch ≤ P) (hS : CI S n n0 gp P (upr r s ch) (s + 1) acc) (hb : ch < P → b = Int32.ofInt ((s : Int) - 1 - gon r ch s)) : ∃ S2, turns_takeBack (nn s) (nn ch) b S = some S2 ∧ CI S2 n n0 gp P r s acc ∧ FT S S2 := by
  obtain ⟨c1, c2, c3, c4, c5, c6, c7⟩ := hS
  have er : ∀ i, i < s → upr r s ch i = r i := fun i hi => upr_n (by omega)
  have ehl : ∀ q, hld (upr r s ch) q (s + 1) = hld r q s + (if ch = q then 1 else 0) := fun q => by
    show hld (upr r s ch) q s + (if upr r s ch s = q then 1 else 0) = _
    rw [hld_cg s er, upr_e]
  have eng : ∀ q, ngs (upr r s ch) q (s + 1) = ngs r q s + (if ch = q then s % 2 else 0) := fun q => by
    show ngs (upr r s ch) q s + (if upr r s ch s = q then s % 2 else 0) = _
    rw [ngs_cg s er, upr_e]
  have ego : ∀ q, gon (upr r s ch) q (s + 1) = if ch = q then 0 else gon r q s + 1 := fun q => by
    show (if upr r s ch s = q then 0 else gon (upr r s ch) q s + 1) = _
    rw [gon_cg s er, upr_e]
  have e10 : ∀ i, i < s → S 210 i = nn (r i) := fun i hi => by
    have := c6 i (by omega)
    rw [upr_n (by omega)] at this
    exact this
  by_cases hp : ch < P
  · obtain ⟨d1, d2, d3⟩ := c7 ch hp
    have h4 : ch < 4 := by omega
    have hi4 : inb (nn ch) 4 = true := by simp (disch := first | omega | decide) only [lt1, nnMl, nnMr, nnAl, nnAr, nnA, nnM, nnB, nnT, nnP, nnE, nnEl, nnEr, nnL, nnLl, nnLr, nnQ, nnQr, nnN, Nat.add_zero, if_false, if_true, Option.bind_some, not_true, not_false_iff, not_true_eq_false, not_false_eq_true, eq_self, Nat.not_lt_zero, z10, z01, or_true, true_or, or_false, false_or, true_and, false_and, h4]
    have em : nn s - nn s / 2 * 2 = nn (s % 2) := by
      have e : nn s / 2 * 2 = nn (s / 2 * 2) := by simp (disch := first | omega | decide) only [lt1, nnMl, nnMr, nnAl, nnAr, nnA, nnM, nnB, nnT, nnP, nnE, nnEl, nnEr, nnL, nnLl, nnLr, nnQ, nnQr, nnN, Nat.add_zero, if_false, if_true, Option.bind_some, not_true, not_false_iff, not_true_eq_false, not_false_eq_true, eq_self, Nat.not_lt_zero, z10, z01, or_true, true_or, or_false, false_or, true_and, false_and, nnDr]
      rw [e, nnS (a := s) (b := s / 2 * 2) (by omega), show s - s / 2 * 2 = s % 2 by omega]
    refine ⟨up2 (up2 (up2 S 214 ch b) 212 ch (S 212 ch - 1)) 213 ch (S 213 ch - nn (s % 2)), ?_, ⟨?_, ?_, ?_, ?_, ?_, ?_, ?_⟩, ?_⟩
    · unfold turns_takeBack
      rw [c4, em, nnT (show ch < 2147483648 by omega)]
      refine st_b (wP_y hp hP) (st_f (by decide) (st_w hi4 (st_t hi4 (st_w hi4 (st_t hi4 (st_w hi4 ?_))))))
      rw [u2n (show 212 ≠ 214 by decide), u2n (show 213 ≠ 212 by decide), u2n (show 213 ≠ 214 by decide)]
    · simp (disch := first | omega | decide) only [u2e, u2n, up1_eq, up1_ne, ne_eq, c1]
    · simp (disch := first | omega | decide) only [u2e, u2n, up1_eq, up1_ne, ne_eq, c2]
    · simp (disch := first | omega | decide) only [u2e, u2n, up1_eq, up1_ne, ne_eq, c3]
    · simp (disch := first | omega | decide) only [u2e, u2n, up1_eq, up1_ne, ne_eq, c4]
    · exact c5.cg (by simp (disch := first | omega | decide) only [u2e, u2n, up1_eq, up1_ne, ne_eq]) (by simp (disch := first | omega | decide) only [u2e, u2n, up1_eq, up1_ne, ne_eq])
    · exact fun i hi => by rw [u2n (by decide), u2n (by decide), u2n (by decide)]; exact e10 i hi
    · intro q hq
      obtain ⟨q1, q2, q3⟩ := c7 q hq
      have g1 := gon_le (r := r) (q := q) s
      rw [ehl] at q1
      rw [eng] at q2
      rw [ego] at q3
      rw [u2n (show 212 ≠ 213 by decide), u2e, u2e, u2n (show 214 ≠ 213 by decide), u2n (show 214 ≠ 212 by decide), u2e]
      by_cases e : q = ch
      · subst e
        rw [if_pos rfl] at q1 q2
        rw [up1_eq, up1_eq, up1_eq, q1, q2, hb hp]
        refine ⟨nnS1 _, ?_, rfl⟩
        rw [nnS (by omega), Nat.add_sub_cancel]
      · rw [if_neg (fun z => e z.symm)] at q1 q2 q3
        rw [up1_ne e, up1_ne e, up1_ne e, u2n (show 212 ≠ 214 by decide), u2n (show 213 ≠ 212 by decide), u2n (show 213 ≠ 214 by decide), q1, q2, q3]
        refine ⟨rfl, rfl, ?_⟩
        congr 1
        omega
    · exact ((FT.w (by omega)).t (FT.w (by omega))).t (FT.w (by omega))
  · refine ⟨S, ?_, ⟨c1, c2, c3, c4, c5, e10, fun q hq => ?_⟩, FT.r⟩
    · unfold turns_takeBack
      rw [c4]
      exact st_b (wP_n (by omega) (by omega) hP) (st_t rfl rfl)
    · obtain ⟨q1, q2, q3⟩ := c7 q hq
      have e : ¬ ch = q := by omega
      rw [ehl, if_neg e] at q1
      rw [eng, if_neg e] at q2
      rw [ego, if_neg e] at q3
      refine ⟨q1, q2, q3.trans ?_⟩
      congr 1
      omega
theorem place_y (hP0 : 0 < P) (hP : P ≤ 4) (hn : n ≤ 8) (hn1 : 0 < n) (hn0 : n0 ≤ 4) (hgp : gp ≤ 7) {F : Nat} (hF : 10 < F) : ∀ m s r acc S D, s + m = n → m < D → CI S n n0 gp P r s acc → (∀ i, i < s → r i ≤ P) → okg r P gp s → (s = 0 ∨ mis r n0 s P ≤ m) → (0 < m ∨ pot acc (chg r s) (hld r P s) 0) → ∃ S2, turns_place F D (nn s) (nn (chg r s)) (nn (hld r P s)) S = some S2 ∧ CI S2 n n0 gp P r s (full P n0 gp n m s r acc) ∧ FT S S2 := by
  intro m
  induction m with
  | zero =>
    intro s r acc S D hs hD hS hr hg hm hp
    obtain ⟨D, rfl⟩ : ∃ F2, D = F2 + 1 := ⟨D - 1, by omega⟩
    have : s = n := by omega
    subst this
    have hb : btr acc (chg r s) (hld r P s) := by
      rcases hp with h | h | ⟨a, h, h2⟩
      · omega
      · rw [h]; exact True.intro
      · rw [h]
        show chg r s < a.1 ∨ (chg r s = a.1 ∧ a.2.1 < hld r P s)
        omega
    obtain ⟨S2, r1, r2, r3⟩ := keep_x hP0 hP hn hS hg (by omega) hb (F := F) (by omega)
    refine ⟨S2, ?_, r2, r3⟩
    unfold turns_place
    refine st_l ?_
    rw [hS.1]
    exact st_t (Int32.le_refl _) (st_b r1 rfl)
  | succ m ih =>
    intro s r acc S D hs hD hS hr hg hm hp
    obtain ⟨D, rfl⟩ : ∃ F2, D = F2 + 1 := ⟨D - 1, by omega⟩
    have hs8 : s < 8 := by omega
    have hcl := chg_le (r := r) s
    have hhl := hld_le0 (r := r) (q := P) (k := s)
    -- over the choices
    have loop : ∀ k ch acc S G, ch + k = P + 1 → k < G → CI S n n0 gp P r s acc → ∃ S2, turns_place_24 F (turns_place F D) G (nn s) (nn (chg r s)) (nn (hld r P s)) (nn ch) S = some S2 ∧ CI S2 n n0 gp P r s (fcs (fun ch a => full P n0 gp n m (s + 1) (upr r s ch) a) k ch acc) ∧ FT S S2 := by
      intro k
      induction k with
      | zero =>
        intro ch acc S G hc hG hS
        obtain ⟨G, rfl⟩ : ∃ F2, G = F2 + 1 := ⟨G - 1, by omega⟩
        refine ⟨S, ?_, hS, FT.r⟩
        unfold turns_place_24
        rw [hS.2.2.2.1]
        exact if_pos (by rw [nnL (by omega) (by omega)]; omega)
      | succ k ihk =>
        intro ch acc S G hc hG hS
        obtain ⟨G, rfl⟩ : ∃ F2, G = F2 + 1 := ⟨G - 1, by omega⟩
        have hch : ch ≤ P := by omega
        have er : ∀ i, i < s → upr r s ch i = r i := fun i hi => upr_n (by omega)
        have ecg : chg (upr r s ch) (s + 1) = chg r s + (if 0 < s ∧ ¬ ch = r (s - 1) then 1 else 0) := by
          show chg (upr r s ch) s + (if 0 < s ∧ ¬ upr r s ch s = upr r s ch (s - 1) then 1 else 0) = _
          rw [chg_cg s er, upr_e]
          by_cases e : 0 < s
          · rw [upr_n (show s - 1 ≠ s by omega)]
          · rw [if_neg (fun z => e z.1), if_neg (fun z => e z.1)]
        have ehl : hld (upr r s ch) P (s + 1) = hld r P s + (if ch = P then 1 else 0) := by
          show hld (upr r s ch) P s + (if upr r s ch s = P then 1 else 0) = _
          rw [hld_cg s er, upr_e]
        have hcl2 := chg_le (r := upr r s ch) (s + 1)
        have hhl2 := hld_le0 (r := upr r s ch) (q := P) (k := s + 1)
        -- what the code does with one choice, once changes and wheels are reckoned
        have one : ∃ S2, turns_place_87 F (turns_place F D) (fun v1 v2 v3 v4 g0 => turns_place_24 F (turns_place F D) G v1 v2 v3 v4 g0) (nn s) (nn (chg r s)) (nn (hld r P s)) (nn ch) (nn (chg (upr r s ch) (s + 1))) (nn (hld (upr r s ch) P (s + 1))) S = some S2 ∧ CI S2 n n0 gp P r s (fcs (fun ch a => full P n0 gp n m (s + 1) (upr r s ch) a) k (ch + 1) (full P n0 gp n m (s + 1) (upr r s ch) acc)) ∧ FT S S2 := by
          obtain ⟨b1, b2⟩ := cbb_x (s := s) (c := chg (upr r s ch) (s + 1)) (w := hld (upr r s ch) P (s + 1)) (m := m) hS.1 hS.2.2.2.2.1 (by omega) hn (by omega) (by omega)
          have e1 : nn ch + 1 = nn (ch + 1) := nnA ch 1
          by_cases q : pot acc (chg (upr r s ch) (s + 1)) (hld (upr r s ch) P (s + 1)) m
          rotate_left
          · have hk : full P n0 gp n m (s + 1) (upr r s ch) acc = acc := by
              refine keep_b (by omega) ?_
              cases acc with
              | none => exact absurd (Or.inl rfl) q
              | some a =>
                refine ⟨a, rfl, ?_⟩
                have : ¬ (chg (upr r s ch) (s + 1) < a.1 ∨ (chg (upr r s ch) (s + 1) = a.1 ∧ a.2.1 < hld (upr r s ch) P (s + 1) + m)) := fun z => q (Or.inr ⟨a, rfl, z⟩)
                omega
            rw [hk]
            obtain ⟨S2, r1, r2, r3⟩ := ihk (ch + 1) acc S G (by omega) (by omega) hS
            refine ⟨S2, ?_, r2, r3⟩
            unfold turns_place_87
            rw [e1]
            exact st_b (b2 q) (st_t rfl r1)
          obtain ⟨b, S1, p1, p2, p3, _, p5⟩ := put_x hP hs8 hch hS
          obtain ⟨u1, u2⟩ := suL hP hn0 hgp p2 (show s + 1 + m = n by omega) hn P 0 F (by omega) (by omega)
          by_cases q2 : (∀ q, 0 ≤ q → q < P → gon (upr r s ch) q (s + 1) ≤ gp) ∧ mis (upr r s ch) n0 (s + 1) P ≤ m
          · obtain ⟨S2, r1, r2, r3⟩ := ih (s + 1) (upr r s ch) acc S1 D (by omega) (by omega) p2 (fun i hi => by
              by_cases e : i = s
              · rw [e, upr_e]; exact hch
              · rw [upr_n e]; exact hr i (by omega)) (fun i hi q hq => by
              by_cases e : i = s
              · rw [e]; exact q2.1 q (Nat.zero_le _) hq
              · rw [gon_cg (i + 1) (fun j hj => upr_n (by omega))]; exact hg i (by omega) q hq) (Or.inr q2.2) (by
              by_cases e : 0 < m
              · exact Or.inl e
              · rw [show m = 0 by omega] at q
                exact Or.inr q)
            obtain ⟨S3, t1, t2, t3⟩ := back_x hP hs8 hch r2 p5
            obtain ⟨S4, v1, v2, v3⟩ := ihk (ch + 1) _ S3 G (by omega) (by omega) t2
            refine ⟨S4, ?_, v2, ((p3.t r3).t t3).t v3⟩
            unfold turns_place_87 turns_place_129
            rw [e1, show nn s + 1 = nn (s + 1) from nnA s 1]
            exact st_b (b1 q) (st_f (by decide) (st_b p1 (st_b (o := turns_standsUpTo F (nn s) S1) (u1 q2) (st_f (by decide) (st_b r1 (st_b t1 v1))))))
          · have hk : full P n0 gp n m (s + 1) (upr r s ch) acc = acc := by
              by_cases q3 : mis (upr r s ch) n0 (s + 1) P ≤ m
              · have : ∃ q, q < P ∧ gp < gon (upr r s ch) q (s + 1) := by
                  refine Classical.byContradiction (fun z => q2 ⟨fun q _ hq => ?_, q3⟩)
                  exact Nat.not_lt.mp (fun z2 => z ⟨q, hq, z2⟩)
                obtain ⟨q, hq1, hq2⟩ := this
                exact keep_g (by omega) (by omega) hq1 hq2
              · exact keep_m (by omega) (by omega)
            rw [hk]
            obtain ⟨S3, t1, t2, t3⟩ := back_x hP hs8 hch p2 p5
            obtain ⟨S4, v1, v2, v3⟩ := ihk (ch + 1) acc S3 G (by omega) (by omega) t2
            refine ⟨S4, ?_, v2, (p3.t t3).t v3⟩
            unfold turns_place_87 turns_place_129
            rw [e1]
            exact st_b (b1 q) (st_f (by decide) (st_b p1 (st_b (o := turns_standsUpTo F (nn s) S1) (u2 q2) (st_t rfl (st_b t1 v1)))))
        obtain ⟨S2, o1, o2, o3⟩ := one
        refine ⟨S2, ?_, o2, o3⟩
        have o69 : ∀ z : Nat, z = chg (upr r s ch) (s + 1) → turns_place_69 F (turns_place F D) (fun v1 v2 v3 v4 g0 => turns_place_24 F (turns_place F D) G v1 v2 v3 v4 g0) (nn s) (nn (chg r s)) (nn (hld r P s)) (nn ch) (nn z) S = some S2 := fun z hz => by
          subst hz
          unfold turns_place_69
          rw [hS.2.2.2.1]
          by_cases e : ch = P
          · rw [ehl, if_pos e] at o1
            refine st_f (fun z => z (by rw [e])) ?_
            rw [show nn (hld r P s) + 1 = nn (hld r P s + 1) from nnA _ 1]
            exact o1
          · rw [ehl, if_neg e, Nat.add_zero] at o1
            exact st_t (nnNe (by omega) (by omega) e) o1
        unfold turns_place_24
        rw [hS.2.2.2.1]
        refine st_f (by rw [nnL (by omega) (by omega)]; omega) ?_
        unfold turns_place_54 turns_place_55
        by_cases e0 : s = 0
        · refine st_t (by rw [show (0 : Int32) = nn 0 from rfl, nnE (by omega) (by omega)]; omega) (st_t rfl ?_)
          exact o69 (chg r s) (by rw [ecg, if_neg (fun z => by omega), Nat.add_zero])
        · have hi : s - 1 < 8 := by omega
          refine st_f (by rw [show (0 : Int32) = nn 0 from rfl, nnE (by omega) (by omega)]; omega) ?_
          rw [nnM1 (by omega), nnT (by omega), hS.2.2.2.2.2.1 (s - 1) (by omega)]
          have hrb := hr (s - 1) (by omega)
          refine st_t (by simp (disch := first | omega | decide) only [lt1, nnMl, nnMr, nnAl, nnAr, nnA, nnM, nnB, nnT, nnP, nnE, nnEl, nnEr, nnL, nnLl, nnLr, nnQ, nnQr, nnN, Nat.add_zero, if_false, if_true, Option.bind_some, not_true, not_false_iff, not_true_eq_false, not_false_eq_true, eq_self, Nat.not_lt_zero, z10, z01, or_true, true_or, or_false, false_or, true_and, false_and, hi]) ?_
          by_cases e1 : ch = r (s - 1)
          · refine st_t (by rw [e1]) (st_t rfl ?_)
            exact o69 (chg r s) (by rw [ecg, if_neg (fun z => z.2 e1), Nat.add_zero])
          · refine st_f (nnNe (by omega) (by omega) (fun z => e1 z.symm)) (st_f (by decide) ?_)
            rw [show nn (chg r s) + 1 = nn (chg r s + 1) from nnA _ 1]
            exact o69 (chg r s + 1) (by rw [ecg, if_pos ⟨by omega, e1⟩])
    obtain ⟨S2, r1, r2, r3⟩ := loop (P + 1) 0 acc S F (by omega) (by omega) hS
    refine ⟨S2, ?_, r2, r3⟩
    unfold turns_place
    refine st_l ?_
    rw [hS.1]
    exact st_f (by rw [nnE (by omega) (by omega)]; omega) (st_t (by simp (disch := first | omega | decide) only [lt1, nnMl, nnMr, nnAl, nnAr, nnA, nnM, nnB, nnT, nnP, nnE, nnEl, nnEr, nnL, nnLl, nnLr, nnQ, nnQr, nnN, Nat.add_zero, if_false, if_true, Option.bind_some, not_true, not_false_iff, not_true_eq_false, not_false_eq_true, eq_self, Nat.not_lt_zero, z10, z01, or_true, true_or, or_false, false_or, true_and, false_and, hs8]) r1)
end WR
