/-! laid turns: the model's search -/
def bestC (acc : Acc) : Nat := match acc with
  | none => 100
  | some a => a.1
def MRep (M : Sg) (n : Nat) (acc : Acc) : Prop := (acc = none ∧ M 215 31 = nn 100 ∧ M 215 32 = nn 0) ∨ ∃ a, acc = some a ∧ M 215 31 = nn a.1 ∧ M 215 32 = nn a.2.1 ∧ (∀ j, j < n → M 225 j = nn (a.2.2 j)) ∧ a.1 ≤ 8 ∧ a.2.1 ≤ 8
/-- rows of the prefix of length i, and of the next as far as p -/
def EI (M : Sg) (n P : Nat) (r : Nat → Nat) (i p : Nat) (acc : Acc) : Prop := M 215 30 = nn P ∧ MRep M n acc ∧ (∀ j, j < i → M 224 j = nn (r j)) ∧ (∀ k, k ≤ i → M 229 k = nn (chg r k) ∧ M 230 k = nn (hld r P k)) ∧ (∀ k q, k < i → q < P → M 226 (4 * k + q) = nn (gon r q k) ∧ M 227 (4 * k + q) = nn (hld r q k) ∧ M 228 (4 * k + q) = nn (ngs r q k)) ∧ ∀ q, q < p → M 226 (4 * i + q) = nn (gon r q i) ∧ M 227 (4 * i + q) = nn (hld r q i) ∧ M 228 (4 * i + q) = nn (ngs r q i)
def FTM (M M2 : Sg) : Prop := ∀ i, i ≠ 215 → (i < 224 ∨ 230 < i) → M2 i = M i
theorem FTM.r {M : Sg} : FTM M M := fun _ _ _ => rfl
theorem FTM.t {M M2 M3 : Sg} (h : FTM M M2) (h2 : FTM M2 M3) : FTM M M3 := fun i a b => (h2 i a b).trans (h i a b)
theorem FTM.w {M : Sg} {c i : Nat} {v : Int32} (h : c = 215 ∨ (224 ≤ c ∧ c ≤ 230)) : FTM M (up2 M c i v) := fun j a b => u2n (by omega)
def mn9 (f : Nat → Nat) : Nat → Nat
  | 0 => 9
  | k + 1 => if mn9 f k ≤ f k then mn9 f k else f k
def mx9 (f : Nat → Nat) : Nat → Nat
  | 0 => 0
  | k + 1 => if f k ≤ mx9 f k then mx9 f k else f k
theorem mn9_p {f : Nat → Nat} : ∀ k, (∀ q, q < k → mn9 f k ≤ f q) ∧ (mn9 f k = 9 ∨ ∃ q, q < k ∧ mn9 f k = f q) ∧ mn9 f k ≤ 9
  | 0 => ⟨fun q h => absurd h (Nat.not_lt_zero _), Or.inl rfl, Nat.le_refl _⟩
  | k + 1 => by
    obtain ⟨h1, h2, h3⟩ := mn9_p (f := f) k
    by_cases e : mn9 f k ≤ f k
    · rw [show mn9 f (k + 1) = mn9 f k from if_pos e]
      refine ⟨fun q hq => ?_, ?_, h3⟩
      · by_cases e2 : q = k
        · rw [e2]; exact e
        · exact h1 q (by omega)
      · rcases h2 with h2 | ⟨q, q1, q2⟩
        · exact Or.inl h2
        · exact Or.inr ⟨q, by omega, q2⟩
    · rw [show mn9 f (k + 1) = f k from if_neg e]
      refine ⟨fun q hq => ?_, Or.inr ⟨k, Nat.lt_succ_self _, rfl⟩, by omega⟩
      by_cases e2 : q = k
      · rw [e2]; exact Nat.le_refl _
      · have := h1 q (by omega)
        omega
theorem mx9_p {f : Nat → Nat} : ∀ k, (∀ q, q < k → f q ≤ mx9 f k) ∧ (mx9 f k = 0 ∨ ∃ q, q < k ∧ mx9 f k = f q)
  | 0 => ⟨fun q h => absurd h (Nat.not_lt_zero _), Or.inl rfl⟩
  | k + 1 => by
    obtain ⟨h1, h2⟩ := mx9_p (f := f) k
    by_cases e : f k ≤ mx9 f k
    · rw [show mx9 f (k + 1) = mx9 f k from if_pos e]
      refine ⟨fun q hq => ?_, ?_⟩
      · by_cases e2 : q = k
        · rw [e2]; exact e
        · exact h1 q (by omega)
      · rcases h2 with h2 | ⟨q, q1, q2⟩
        · exact Or.inl h2
        · exact Or.inr ⟨q, by omega, q2⟩
    · rw [show mx9 f (k + 1) = f k from if_neg e]
      refine ⟨fun q hq => ?_, Or.inr ⟨k, Nat.lt_succ_self _, rfl⟩⟩
      by_cases e2 : q = k
      · rw [e2]; exact Nat.le_refl _
      · have := h1 q (by omega)
        omega
theorem even_m9 {r : Nat → Nat} {P n : Nat} (hP : 0 < P) (hn : n ≤ 8) : even r P n ↔ mx9 (fun q => ngs r q n) P ≤ mn9 (fun q => ngs r q n) P + 1 := by
  obtain ⟨h1, h2, h3⟩ := mn9_p (f := fun q => ngs r q n) P
  obtain ⟨k1, k2⟩ := mx9_p (f := fun q => ngs r q n) P
  have hb : ∀ q, ngs r q n ≤ 8 := fun q => by
    have h1 := ngs_le (r := r) (q := q) n
    have h2 := hld_le0 (r := r) (q := q) (k := n)
    omega
  constructor
  · intro e
    rcases k2 with k2 | ⟨q, q1, q2⟩
    · omega
    · rcases h2 with h2 | ⟨q3, q4, q5⟩
      · have := hb q
        have q2 : mx9 (fun q => ngs r q n) P = ngs r q n := q2
        omega
      · have := e q q3 q1 q4
        have q2 : mx9 (fun q => ngs r q n) P = ngs r q n := q2
        have q5 : mn9 (fun q => ngs r q n) P = ngs r q3 n := q5
        omega
  · intro e q q2 hq hq2
    have a1 : ngs r q n ≤ mx9 (fun q => ngs r q n) P := k1 q hq
    have a2 : mn9 (fun q => ngs r q n) P ≤ ngs r q2 n := h1 q2 hq2
    omega
def stepB : Nat → Nat → Nat
  | 0, k => k + 1
  | m + 1, k => k * (stepB m 5 + 1) + 1
theorem stepB_k {m k k2 : Nat} (h : k ≤ k2) : stepB m k ≤ stepB m k2 := by
  cases m with
  | zero => exact Nat.succ_le_succ h
  | succ m => exact Nat.succ_le_succ (Nat.mul_le_mul_right _ h)
section WS
variable {n n0 gp P : Nat}
theorem MRep.cg {M M2 : Sg} {acc : Acc} (h : MRep M n acc) (h1 : M2 215 31 = M 215 31) (h2 : M2 215 32 = M 215 32) (h3 : M2 225 = M 225) : MRep M2 n acc := by
  unfold MRep at *
  rw [h1, h2, h3]
  exact h
theorem entL {r : Nat → Nat} {acc : Acc} {i ch : Nat} {A : Prop} (hP : P ≤ 4) (hi : i < 8) (hgp : gp ≤ 7) (hri : r i = ch) (hch : ch ≤ 4) : ∀ m p F (M : Sg), p + m = P → m < F → EI M n P r (i + 1) p acc → ∃ M2, m_enters_98 F (nn i) (nn gp) (b01 (A ∧ ∀ q, q < p → gon r q (i + 1) ≤ gp)) (nn p) M = some (b01 (A ∧ ∀ q, q < P → gon r q (i + 1) ≤ gp), M2) ∧ EI M2 n P r (i + 1) P acc ∧ FTM M M2 := by
  intro m
  induction m with
  | zero =>
    intro p F M hp hF hE
    obtain ⟨F, rfl⟩ : ∃ F2, F = F2 + 1 := ⟨F - 1, by omega⟩
    have : p = P := by omega
    subst this
    refine ⟨M, ?_, hE, FTM.r⟩
    unfold m_enters_98
    rw [hE.1]
    exact st_t (Int32.le_refl _) (st_t (b01v _) rfl)
  | succ m ih =>
    intro p F M hp hF hE
    obtain ⟨F, rfl⟩ : ∃ F2, F = F2 + 1 := ⟨F - 1, by omega⟩
    obtain ⟨c1, c2, c3, c4, c5, c6⟩ := hE
    have h3 : ¬ P ≤ p := by omega
    have x0 : 4 * i + p < 36 := by omega
    have x4 : 4 * (i + 1) + p < 36 := by omega
    obtain ⟨d1, d2, d3⟩ := c5 i p (by omega) (by omega)
    have e1 : 4 * nn i + nn p = nn (4 * i + p) := by simp (disch := first | omega | decide) only [lt1, nnMl, nnMr, nnAl, nnAr, nnA, nnM, nnB, nnT, nnP, nnE, nnEl, nnEr, nnL, nnLl, nnLr, nnQ, nnQr, nnN, Nat.add_zero, if_false, if_true, Option.bind_some, not_true, not_false_iff, not_true_eq_false, not_false_eq_true, eq_self, Nat.not_lt_zero, z10, z01, or_true, true_or, or_false, false_or, true_and, false_and]
    have e4 : nn (4 * i + p) + 4 = nn (4 * (i + 1) + p) := by rw [show 4 * (i + 1) + p = 4 * i + p + 4 by omega]; exact nnA _ 4
    have j0 : inb (nn (4 * i + p)) 36 = true := by simp (disch := first | omega | decide) only [lt1, nnMl, nnMr, nnAl, nnAr, nnA, nnM, nnB, nnT, nnP, nnE, nnEl, nnEr, nnL, nnLl, nnLr, nnQ, nnQr, nnN, Nat.add_zero, if_false, if_true, Option.bind_some, not_true, not_false_iff, not_true_eq_false, not_false_eq_true, eq_self, Nat.not_lt_zero, z10, z01, or_true, true_or, or_false, false_or, true_and, false_and, x0]
    have j4 : inb (nn (4 * (i + 1) + p)) 36 = true := by simp (disch := first | omega | decide) only [lt1, nnMl, nnMr, nnAl, nnAr, nnA, nnM, nnB, nnT, nnP, nnE, nnEl, nnEr, nnL, nnLl, nnLr, nnQ, nnQr, nnN, Nat.add_zero, if_false, if_true, Option.bind_some, not_true, not_false_iff, not_true_eq_false, not_false_eq_true, eq_self, Nat.not_lt_zero, z10, z01, or_true, true_or, or_false, false_or, true_and, false_and, x4]
    have em : nn i - nn i / 2 * 2 = nn (i % 2) := by
      have e : nn i / 2 * 2 = nn (i / 2 * 2) := by simp (disch := first | omega | decide) only [lt1, nnMl, nnMr, nnAl, nnAr, nnA, nnM, nnB, nnT, nnP, nnE, nnEl, nnEr, nnL, nnLl, nnLr, nnQ, nnQr, nnN, Nat.add_zero, if_false, if_true, Option.bind_some, not_true, not_false_iff, not_true_eq_false, not_false_eq_true, eq_self, Nat.not_lt_zero, z10, z01, or_true, true_or, or_false, false_or, true_and, false_and, nnDr]
      rw [e, nnS (a := i) (b := i / 2 * 2) (by omega), show i - i / 2 * 2 = i % 2 by omega]
    have ego : gon r p (i + 1) = if ch = p then 0 else gon r p i + 1 := by
      show (if r i = p then 0 else gon r p i + 1) = _
      rw [hri]
    have ehl : hld r p (i + 1) = hld r p i + (if ch = p then 1 else 0) := by
      show hld r p i + (if r i = p then 1 else 0) = _
      rw [hri]
    have eng : ngs r p (i + 1) = ngs r p i + (if ch = p then i % 2 else 0) := by
      show ngs r p i + (if r i = p then i % 2 else 0) = _
      rw [hri]
    have hgl := gon_le (r := r) (q := p) (i + 1)
    have hgl0 := gon_le (r := r) (q := p) i
    -- the state behind this member
    have hE2 : EI (up2 (up2 (up2 M 226 (4 * (i + 1) + p) (nn (gon r p (i + 1)))) 227 (4 * (i + 1) + p) (nn (hld r p (i + 1)))) 228 (4 * (i + 1) + p) (nn (ngs r p (i + 1)))) n P r (i + 1) (p + 1) acc := by
      refine ⟨?_, c2.cg (by simp (disch := first | omega | decide) only [u2e, u2n, up1_eq, up1_ne, ne_eq]) (by simp (disch := first | omega | decide) only [u2e, u2n, up1_eq, up1_ne, ne_eq]) (by simp (disch := first | omega | decide) only [u2e, u2n, up1_eq, up1_ne, ne_eq]), fun j hj => ?_, fun k hk => ?_, fun k q hk hq => ?_, fun q hq => ?_⟩
      · simp (disch := first | omega | decide) only [u2e, u2n, up1_eq, up1_ne, ne_eq, c1]
      · rw [u2n (by decide), u2n (by decide), u2n (by decide)]; exact c3 j hj
      · rw [u2n (by decide), u2n (by decide), u2n (by decide), u2n (by decide), u2n (by decide), u2n (by decide)]; exact c4 k hk
      · rw [u2n (show 226 ≠ 228 by decide), u2n (show 226 ≠ 227 by decide), u2e, up1_ne (by omega), u2n (show 227 ≠ 228 by decide), u2e, up1_ne (by omega), u2n (show 227 ≠ 226 by decide), u2e, up1_ne (by omega), u2n (show 228 ≠ 227 by decide), u2n (show 228 ≠ 226 by decide)]; exact c5 k q hk hq
      · rw [u2n (show 226 ≠ 228 by decide), u2n (show 226 ≠ 227 by decide), u2e, u2n (show 227 ≠ 228 by decide), u2e, u2n (show 227 ≠ 226 by decide), u2e, u2n (show 228 ≠ 227 by decide), u2n (show 228 ≠ 226 by decide)]
        by_cases e : q = p
        · rw [e, up1_eq, up1_eq, up1_eq]
          exact ⟨rfl, rfl, rfl⟩
        · rw [up1_ne (by omega), up1_ne (by omega), up1_ne (by omega)]
          exact c6 q (by omega)
    obtain ⟨M2, r1, r2, r3⟩ := ih (p + 1) F _ (by omega) (by omega) hE2
    have fr : FTM M M2 := (((FTM.w (by omega)).t (FTM.w (by omega))).t (FTM.w (by omega))).t r3
    refine ⟨M2, ?_, r2, fr⟩
    have fin : ∀ (b : Int32), b = b01 (A ∧ ∀ q, q < p → gon r q (i + 1) ≤ gp) → (if b = 0 then m_enters_98 F (nn i) (nn gp) 0 (nn (p + 1)) (up2 (up2 (up2 M 226 (4 * (i + 1) + p) (nn (gon r p (i + 1)))) 227 (4 * (i + 1) + p) (nn (hld r p (i + 1)))) 228 (4 * (i + 1) + p) (nn (ngs r p (i + 1)))) else (if inb (nn (4 * (i + 1) + p)) 36 = true then (if nn gp < nn (gon r p (i + 1)) then m_enters_98 F (nn i) (nn gp) 0 (nn (p + 1)) (up2 (up2 (up2 M 226 (4 * (i + 1) + p) (nn (gon r p (i + 1)))) 227 (4 * (i + 1) + p) (nn (hld r p (i + 1)))) 228 (4 * (i + 1) + p) (nn (ngs r p (i + 1)))) else m_enters_98 F (nn i) (nn gp) 1 (nn (p + 1)) (up2 (up2 (up2 M 226 (4 * (i + 1) + p) (nn (gon r p (i + 1)))) 227 (4 * (i + 1) + p) (nn (hld r p (i + 1)))) 228 (4 * (i + 1) + p) (nn (ngs r p (i + 1))))) else none)) = some (b01 (A ∧ ∀ q, q < P → gon r q (i + 1) ≤ gp), M2) := fun b hb => by
      by_cases q : A ∧ ∀ q, q < p → gon r q (i + 1) ≤ gp
      · rw [b01_y q] at hb
        refine st_f (by rw [hb]; decide) (st_t j4 ?_)
        by_cases q2 : gp < gon r p (i + 1)
        · rw [b01_n (show ¬ (A ∧ ∀ q, q < p + 1 → gon r q (i + 1) ≤ gp) from fun z => by have := z.2 p (Nat.lt_succ_self _); omega)] at r1
          exact st_t (by rw [nnL (by omega) (by omega)]; exact q2) r1
        · rw [b01_y (show A ∧ ∀ q, q < p + 1 → gon r q (i + 1) ≤ gp from ⟨q.1, fun q3 h => by
            by_cases e : q3 = p
            · rw [e]; omega
            · exact q.2 q3 (by omega)⟩)] at r1
          exact st_f (by rw [nnL (by omega) (by omega)]; exact q2) r1
      · rw [b01_n q] at hb
        rw [b01_n (show ¬ (A ∧ ∀ q, q < p + 1 → gon r q (i + 1) ≤ gp) from fun z => q ⟨z.1, fun q3 h => z.2 q3 (by omega)⟩)] at r1
        exact st_t hb r1
    have fin2 := fin _ rfl
    have h224 : M 224 (Int32.toNatClampNeg (nn i)) = nn ch := by rw [nnT (by omega), c3 i (by omega), hri]
    unfold m_enters_98
    rw [c1, h224]
    refine st_f (by simp (disch := first | omega | decide) only [lt1, nnMl, nnMr, nnAl, nnAr, nnA, nnM, nnB, nnT, nnP, nnE, nnEl, nnEr, nnL, nnLl, nnLr, nnQ, nnQr, nnN, Nat.add_zero, if_false, if_true, Option.bind_some, not_true, not_false_iff, not_true_eq_false, not_false_eq_true, eq_self, Nat.not_lt_zero, z10, z01, or_true, true_or, or_false, false_or, true_and, false_and, h3]) (st_t (by simp (disch := first | omega | decide) only [lt1, nnMl, nnMr, nnAl, nnAr, nnA, nnM, nnB, nnT, nnP, nnE, nnEl, nnEr, nnL, nnLl, nnLr, nnQ, nnQr, nnN, Nat.add_zero, if_false, if_true, Option.bind_some, not_true, not_false_iff, not_true_eq_false, not_false_eq_true, eq_self, Nat.not_lt_zero, z10, z01, or_true, true_or, or_false, false_or, true_and, false_and, hi]) ?_)
    by_cases e : ch = p
    · refine st_f (fun z => z (by rw [e])) ?_
      rw [if_pos e] at ego ehl eng
      unfold m_enters_123
      rw [e1]
      refine st_l (st_f (by decide) ?_)
      unfold m_enters_159
      rw [e4]
      refine st_w j4 (st_t j0 (st_f (by decide) ?_))
      unfold m_enters_185
      rw [nnT (show 4 * i + p < 2147483648 by omega), nnT (show 4 * (i + 1) + p < 2147483648 by omega), u2n (show 227 ≠ 226 by decide), d2, e4, em]
      refine st_w j4 (st_t j0 (st_f (by decide) ?_))
      rw [u2n (show 228 ≠ 227 by decide), u2n (show 228 ≠ 226 by decide), d3]
      rw [ego] at fin2
      rw [ehl, eng] at fin2
      by_cases e2 : i % 2 = 1
      · refine st_f (fun z => z (by rw [e2]; rfl)) ?_
        unfold m_enters_219
        rw [e4, nnT (show 4 * (i + 1) + p < 2147483648 by omega), show nn p + 1 = nn (p + 1) from nnA p 1]
        rw [e2, ← nnA (hld r p i) 1, ← nnA (ngs r p i) 1] at fin2
        refine st_w j4 ?_
        rw [u2n (show 226 ≠ 228 by decide), u2n (show 226 ≠ 227 by decide), u2e, up1_eq]
        exact fin2
      · have e3 : i % 2 = 0 := by omega
        refine st_t (by rw [e3]; decide) ?_
        unfold m_enters_218 m_enters_219
        rw [e4, nnT (show 4 * (i + 1) + p < 2147483648 by omega), show nn p + 1 = nn (p + 1) from nnA p 1]
        rw [e3, ← nnA (hld r p i) 1, ← nnA (ngs r p i) 0] at fin2
        refine st_w j4 ?_
        rw [u2n (show 226 ≠ 228 by decide), u2n (show 226 ≠ 227 by decide), u2e, up1_eq]
        exact fin2
    · refine st_t (nnNe (by omega) (by omega) e) ?_
      rw [if_neg e] at ego ehl eng
      unfold m_enters_123
      rw [e1]
      refine st_l (st_t rfl (st_t j0 ?_))
      unfold m_enters_159
      rw [e4, nnT (show 4 * i + p < 2147483648 by omega), d1]
      refine st_w j4 (st_t j0 (st_t rfl ?_))
      unfold m_enters_185
      rw [nnT (show 4 * i + p < 2147483648 by omega), nnT (show 4 * (i + 1) + p < 2147483648 by omega), u2n (show 227 ≠ 226 by decide), d2, e4]
      refine st_w j4 (st_t j0 (st_t rfl ?_))
      rw [u2n (show 228 ≠ 227 by decide), u2n (show 228 ≠ 226 by decide), d3]
      unfold m_enters_218 m_enters_219
      rw [e4, nnT (show 4 * (i + 1) + p < 2147483648 by omega), show nn p + 1 = nn (p + 1) from nnA p 1]
      rw [ego] at fin2
      rw [ehl, eng, ← nnA (gon r p i) 1, ← nnA (hld r p i) 0, ← nnA (ngs r p i) 0] at fin2
      refine st_w j4 ?_
      rw [u2n (show 226 ≠ 228 by decide), u2n (show 226 ≠ 227 by decide), u2e, up1_eq]
      exact fin2
theorem ent_y {M : Sg} {r : Nat → Nat} {acc : Acc} {i ch : Nat} (hP : P ≤ 4) (hi : i < 8) (hgp : gp ≤ 7) (hch : ch ≤ P) (hr : ∀ j, j < i → r j ≤ 4) (hE : EI M n P r i P acc) {F : Nat} (hF : 5 < F) : ∃ M2, m_enters F (nn i) (nn gp) (up2 M 224 i (nn ch)) = some (b01 (chg (upr r i ch) (i + 1) ≤ bestC acc ∧ ∀ q, q < P → gon (upr r i ch) q (i + 1) ≤ gp), M2) ∧ EI M2 n P (upr r i ch) (i + 1) P acc ∧ FTM M M2 := by
  obtain ⟨c1, c2, c3, c4, c5, c6⟩ := hE
  have er : ∀ j, j < i → upr r i ch j = r j := fun j hj => upr_n (by omega)
  have ecg : chg (upr r i ch) (i + 1) = chg r i + (if 0 < i ∧ ¬ ch = r (i - 1) then 1 else 0) := by
    show chg (upr r i ch) i + (if 0 < i ∧ ¬ upr r i ch i = upr r i ch (i - 1) then 1 else 0) = _
    rw [chg_cg i er, upr_e]
    by_cases e : 0 < i
    · rw [upr_n (show i - 1 ≠ i by omega)]
    · rw [if_neg (fun z => e z.1), if_neg (fun z => e z.1)]
  have ehl : hld (upr r i ch) P (i + 1) = hld r P i + (if ch = P then 1 else 0) := by
    show hld (upr r i ch) P i + (if upr r i ch i = P then 1 else 0) = _
    rw [hld_cg i er, upr_e]
  have hcl := chg_le (r := upr r i ch) (i + 1)
  have hi9 : i < 9 := by omega
  have hi1 : i + 1 < 9 := by omega
  have e1 : nn i + 1 = nn (i + 1) := nnA i 1
  have cv := c4 i (Nat.le_refl _)
  -- the state before the members are looked at
  have hE0 : EI (up2 (up2 (up2 M 224 i (nn ch)) 229 (i + 1) (nn (chg (upr r i ch) (i + 1)))) 230 (i + 1) (nn (hld (upr r i ch) P (i + 1)))) n P (upr r i ch) (i + 1) 0 acc := by
    refine ⟨?_, c2.cg (by simp (disch := first | omega | decide) only [u2e, u2n, up1_eq, up1_ne, ne_eq]) (by simp (disch := first | omega | decide) only [u2e, u2n, up1_eq, up1_ne, ne_eq]) (by simp (disch := first | omega | decide) only [u2e, u2n, up1_eq, up1_ne, ne_eq]), fun j hj => ?_, fun k hk => ?_, fun k q hk hq => ?_, fun q hq => absurd hq (Nat.not_lt_zero _)⟩
    · simp (disch := first | omega | decide) only [u2e, u2n, up1_eq, up1_ne, ne_eq, c1]
    · rw [u2n (by decide), u2n (by decide), u2e]
      by_cases e : j = i
      · rw [e, up1_eq, upr_e]
      · rw [up1_ne e, upr_n e]; exact c3 j (by omega)
    · rw [u2n (show 229 ≠ 230 by decide), u2e, u2n (show 229 ≠ 224 by decide), u2e, u2n (show 230 ≠ 229 by decide), u2n (show 230 ≠ 224 by decide)]
      by_cases e : k = i + 1
      · rw [e, up1_eq, up1_eq]
        exact ⟨rfl, rfl⟩
      · rw [up1_ne e, up1_ne e, chg_cg k (fun j hj => upr_n (by omega)), hld_cg k (fun j hj => upr_n (by omega))]
        exact c4 k (by omega)
    · rw [u2n (by decide), u2n (by decide), u2n (by decide), u2n (by decide), u2n (by decide), u2n (by decide), u2n (by decide), u2n (by decide), u2n (by decide), gon_cg k (fun j hj => upr_n (by omega)), hld_cg k (fun j hj => upr_n (by omega)), ngs_cg k (fun j hj => upr_n (by omega))]
      by_cases e : k = i
      · rw [e]; exact c6 q hq
      · exact c5 k q (by omega) hq
  obtain ⟨M2, r1, r2, r3⟩ := entL (A := chg (upr r i ch) (i + 1) ≤ bestC acc) hP hi hgp upr_e (show ch ≤ 4 by omega) P 0 F _ (by omega) (by omega) hE0
  refine ⟨M2, ?_, r2, (((FTM.w (by omega)).t (FTM.w (by omega))).t (FTM.w (by omega))).t r3⟩
  have e31 : (up2 (up2 (up2 M 224 i (nn ch)) 229 (i + 1) (nn (chg (upr r i ch) (i + 1)))) 230 (i + 1) (nn (hld (upr r i ch) P (i + 1)))) 215 31 = nn (bestC acc) := by
    rw [u2n (by decide), u2n (by decide), u2n (by decide)]
    rcases c2 with ⟨rfl, h, _⟩ | ⟨a, rfl, h, _⟩
    · exact h
    · exact h
  have hbest : bestC acc ≤ 100 := by
    rcases c2 with ⟨rfl, h, _⟩ | ⟨a, rfl, h, _, _, h8, _⟩
    · exact Nat.le_refl _
    · show a.1 ≤ 100
      omega
  have f72 : m_enters_72 F (nn i) (nn gp) (nn (if ch = P then 1 else 0)) (nn (hld r P i)) (nn (i + 1)) (up2 (up2 M 224 i (nn ch)) 229 (i + 1) (nn (chg (upr r i ch) (i + 1)))) = some (b01 (chg (upr r i ch) (i + 1) ≤ bestC acc ∧ ∀ q, q < P → gon (upr r i ch) q (i + 1) ≤ gp), M2) := by
    unfold m_enters_72
    rw [nnT (show i + 1 < 2147483648 by omega), nnA, ← ehl, e1]
    refine st_w (by simp (disch := first | omega | decide) only [lt1, nnMl, nnMr, nnAl, nnAr, nnA, nnM, nnB, nnT, nnP, nnE, nnEl, nnEr, nnL, nnLl, nnLr, nnQ, nnQr, nnN, Nat.add_zero, if_false, if_true, Option.bind_some, not_true, not_false_iff, not_true_eq_false, not_false_eq_true, eq_self, Nat.not_lt_zero, z10, z01, or_true, true_or, or_false, false_or, true_and, false_and, hi1]) (st_t (by simp (disch := first | omega | decide) only [lt1, nnMl, nnMr, nnAl, nnAr, nnA, nnM, nnB, nnT, nnP, nnE, nnEl, nnEr, nnL, nnLl, nnLr, nnQ, nnQr, nnN, Nat.add_zero, if_false, if_true, Option.bind_some, not_true, not_false_iff, not_true_eq_false, not_false_eq_true, eq_self, Nat.not_lt_zero, z10, z01, or_true, true_or, or_false, false_or, true_and, false_and, hi1]) ?_)
    rw [e31, nnT (show i + 1 < 2147483648 by omega), u2n (show 229 ≠ 230 by decide), u2e, up1_eq]
    by_cases q : chg (upr r i ch) (i + 1) ≤ bestC acc
    · rw [b01_y (show chg (upr r i ch) (i + 1) ≤ bestC acc ∧ ∀ q, q < 0 → gon (upr r i ch) q (i + 1) ≤ gp from ⟨q, fun q h => absurd h (Nat.not_lt_zero _)⟩)] at r1
      exact st_f (by rw [nnL (by omega) (by omega)]; omega) r1
    · rw [b01_n (show ¬ (chg (upr r i ch) (i + 1) ≤ bestC acc ∧ ∀ q, q < 0 → gon (upr r i ch) q (i + 1) ≤ gp) from fun z => q z.1)] at r1
      exact st_t (by rw [nnL (by omega) (by omega)]; omega) r1
  have f39 : ∀ z : Nat, z = (if 0 < i ∧ ¬ ch = r (i - 1) then 1 else 0) → m_enters_39 F (nn i) (nn gp) (nn z) (nn (chg r i)) (nn (i + 1)) (up2 M 224 i (nn ch)) = some (b01 (chg (upr r i ch) (i + 1) ≤ bestC acc ∧ ∀ q, q < P → gon (upr r i ch) q (i + 1) ≤ gp), M2) := fun z hz => by
    subst hz
    unfold m_enters_39
    rw [nnT (show i + 1 < 2147483648 by omega), nnA, ← ecg, nnT (show i < 2147483648 by omega), e1]
    refine st_w (by simp (disch := first | omega | decide) only [lt1, nnMl, nnMr, nnAl, nnAr, nnA, nnM, nnB, nnT, nnP, nnE, nnEl, nnEr, nnL, nnLl, nnLr, nnQ, nnQr, nnN, Nat.add_zero, if_false, if_true, Option.bind_some, not_true, not_false_iff, not_true_eq_false, not_false_eq_true, eq_self, Nat.not_lt_zero, z10, z01, or_true, true_or, or_false, false_or, true_and, false_and, hi1]) (st_t (by simp (disch := first | omega | decide) only [lt1, nnMl, nnMr, nnAl, nnAr, nnA, nnM, nnB, nnT, nnP, nnE, nnEl, nnEr, nnL, nnLl, nnLr, nnQ, nnQr, nnN, Nat.add_zero, if_false, if_true, Option.bind_some, not_true, not_false_iff, not_true_eq_false, not_false_eq_true, eq_self, Nat.not_lt_zero, z10, z01, or_true, true_or, or_false, false_or, true_and, false_and, hi9]) (st_t (by simp (disch := first | omega | decide) only [lt1, nnMl, nnMr, nnAl, nnAr, nnA, nnM, nnB, nnT, nnP, nnE, nnEl, nnEr, nnL, nnLl, nnLr, nnQ, nnQr, nnN, Nat.add_zero, if_false, if_true, Option.bind_some, not_true, not_false_iff, not_true_eq_false, not_false_eq_true, eq_self, Nat.not_lt_zero, z10, z01, or_true, true_or, or_false, false_or, true_and, false_and, hi]) ?_))
    rw [u2n (show 224 ≠ 229 by decide), u2e, up1_eq, u2n (show 215 ≠ 229 by decide), u2n (show 215 ≠ 224 by decide), c1, u2n (show 230 ≠ 229 by decide), u2n (show 230 ≠ 224 by decide), cv.2]
    by_cases e : ch = P
    · rw [if_pos e] at f72
      exact st_f (fun z => z (by rw [e])) f72
    · rw [if_neg e] at f72
      exact st_t (nnNe (by omega) (by omega) e) f72
  unfold m_enters
  rw [nnT (show i < 2147483648 by omega), u2n (show 229 ≠ 224 by decide), cv.1, e1, u2e, up1_eq]
  refine st_t (by simp (disch := first | omega | decide) only [lt1, nnMl, nnMr, nnAl, nnAr, nnA, nnM, nnB, nnT, nnP, nnE, nnEl, nnEr, nnL, nnLl, nnLr, nnQ, nnQr, nnN, Nat.add_zero, if_false, if_true, Option.bind_some, not_true, not_false_iff, not_true_eq_false, not_false_eq_true, eq_self, Nat.not_lt_zero, z10, z01, or_true, true_or, or_false, false_or, true_and, false_and, hi9]) ?_
  by_cases e0 : i = 0
  · refine st_t (by rw [show (0 : Int32) = nn 0 from rfl, nnE (by omega) (by omega)]; omega) ?_
    exact f39 0 (by rw [if_neg (fun z => by omega)])
  · have h1 : i - 1 < 8 := by omega
    refine st_f (by rw [show (0 : Int32) = nn 0 from rfl, nnE (by omega) (by omega)]; omega) ?_
    rw [nnM1 (by omega), nnT (by omega), up1_ne (show i - 1 ≠ i by omega), c3 (i - 1) (by omega)]
    have := hr (i - 1) (by omega)
    refine st_t (by simp (disch := first | omega | decide) only [lt1, nnMl, nnMr, nnAl, nnAr, nnA, nnM, nnB, nnT, nnP, nnE, nnEl, nnEr, nnL, nnLl, nnLr, nnQ, nnQr, nnN, Nat.add_zero, if_false, if_true, Option.bind_some, not_true, not_false_iff, not_true_eq_false, not_false_eq_true, eq_self, Nat.not_lt_zero, z10, z01, or_true, true_or, or_false, false_or, true_and, false_and, hi]) (st_t (by simp (disch := first | omega | decide) only [lt1, nnMl, nnMr, nnAl, nnAr, nnA, nnM, nnB, nnT, nnP, nnE, nnEl, nnEr, nnL, nnLl, nnLr, nnQ, nnQr, nnN, Nat.add_zero, if_false, if_true, Option.bind_some, not_true, not_false_iff, not_true_eq_false, not_false_eq_true, eq_self, Nat.not_lt_zero, z10, z01, or_true, true_or, or_false, false_or, true_and, false_and, h1]) ?_)
    by_cases e2 : ch = r (i - 1)
    · exact st_t (by rw [e2]) (f39 0 (by rw [if_neg (fun z => z.2 e2)]))
    · exact st_f (nnNe (by omega) (by omega) e2) (f39 1 (by rw [if_pos ⟨by omega, e2⟩]))
theorem wayL {M : Sg} {r : Nat → Nat} {acc : Acc} (hP : P ≤ 4) (hn : n ≤ 8) (hn0 : n0 ≤ 4) (hE : EI M n P r n P acc) : ∀ m p F, p + m = P → m < F → m_isWay_12 F (nn n) (nn n0) (nn (mn9 (fun q => ngs r q n) p)) (nn (mx9 (fun q => ngs r q n) p)) (b01 (∀ q, q < p → n0 ≤ hld r q n)) (nn p) M = some (b01 ((∀ q, q < P → n0 ≤ hld r q n) ∧ mx9 (fun q => ngs r q n) P ≤ mn9 (fun q => ngs r q n) P + 1)) := by
  obtain ⟨c1, c2, c3, c4, c5, c6⟩ := hE
  have hb : ∀ q, ngs r q n ≤ 8 := fun q => by
    have h1 := ngs_le (r := r) (q := q) n
    have h2 := hld_le0 (r := r) (q := q) (k := n)
    omega
  have hb1 : ∀ p, mn9 (fun q => ngs r q n) p ≤ 9 := fun p => (mn9_p p).2.2
  have hb2 : ∀ p, mx9 (fun q => ngs r q n) p ≤ 8 := fun p => by
    rcases (mx9_p (f := fun q => ngs r q n) p).2 with e | ⟨q, _, e⟩
    · omega
    · rw [e]; exact hb q
  intro m
  induction m with
  | zero =>
    intro p F hp hF
    obtain ⟨F, rfl⟩ : ∃ F2, F = F2 + 1 := ⟨F - 1, by omega⟩
    have : p = P := by omega
    subst this
    have h1 := hb1 p
    have h2 := hb2 p
    unfold m_isWay_12
    rw [c1]
    refine st_t (Int32.le_refl _) ?_
    have e : (1 : Int32) < nn (mx9 (fun q => ngs r q n) p) - nn (mn9 (fun q => ngs r q n) p) ↔ mn9 (fun q => ngs r q n) p + 1 < mx9 (fun q => ngs r q n) p := by
      rw [nn_ofI, nn_ofI, ← Int32.ofInt_sub, show (1 : Int32) = Int32.ofInt 1 from rfl, ofI_lt (by omega) (by omega) (by omega) (by omega)]
      omega
    by_cases q1 : ∀ q, q < p → n0 ≤ hld r q n
    · refine st_f (by rw [b01_y q1]; decide) ?_
      by_cases q2 : mx9 (fun q => ngs r q n) p ≤ mn9 (fun q => ngs r q n) p + 1
      · rw [b01_y ⟨q1, q2⟩]
        exact st_f (fun z => by have := e.mp z; omega) rfl
      · rw [b01_n (fun z => q2 z.2)]
        exact st_t (e.mpr (by omega)) rfl
    · rw [b01_n (show ¬ ((∀ q, q < p → n0 ≤ hld r q n) ∧ _) from fun z => q1 z.1)]
      exact st_t (b01_n q1) rfl
  | succ m ih =>
    intro p F hp hF
    obtain ⟨F, rfl⟩ : ∃ F2, F = F2 + 1 := ⟨F - 1, by omega⟩
    have h3 : ¬ P ≤ p := by omega
    have x0 : 4 * n + p < 36 := by omega
    have e1 : 4 * nn n + nn p = nn (4 * n + p) := by simp (disch := first | omega | decide) only [lt1, nnMl, nnMr, nnAl, nnAr, nnA, nnM, nnB, nnT, nnP, nnE, nnEl, nnEr, nnL, nnLl, nnLr, nnQ, nnQr, nnN, Nat.add_zero, if_false, if_true, Option.bind_some, not_true, not_false_iff, not_true_eq_false, not_false_eq_true, eq_self, Nat.not_lt_zero, z10, z01, or_true, true_or, or_false, false_or, true_and, false_and]
    have j0 : inb (nn (4 * n + p)) 36 = true := by simp (disch := first | omega | decide) only [lt1, nnMl, nnMr, nnAl, nnAr, nnA, nnM, nnB, nnT, nnP, nnE, nnEl, nnEr, nnL, nnLl, nnLr, nnQ, nnQr, nnN, Nat.add_zero, if_false, if_true, Option.bind_some, not_true, not_false_iff, not_true_eq_false, not_false_eq_true, eq_self, Nat.not_lt_zero, z10, z01, or_true, true_or, or_false, false_or, true_and, false_and, x0]
    obtain ⟨d1, d2, d3⟩ := c6 p (by omega)
    have h1 := hb1 p
    have h2 := hb2 p
    have h4 := hb p
    have hhl := hld_le0 (r := r) (q := p) (k := n)
    have IH := ih (p + 1) F (by omega) (by omega)
    have f59 : ∀ b : Int32, b = b01 (∀ q, q < p + 1 → n0 ≤ hld r q n) → m_isWay_59 (fun v1 v2 v3 v4 v5 v6 g0 => m_isWay_12 F v1 v2 v3 v4 v5 v6 g0) (nn n) (nn n0) (nn (mn9 (fun q => ngs r q n) p)) (nn (mx9 (fun q => ngs r q n) p)) (nn p) (nn (ngs r p n)) b M = some (b01 ((∀ q, q < P → n0 ≤ hld r q n) ∧ mx9 (fun q => ngs r q n) P ≤ mn9 (fun q => ngs r q n) P + 1)) := fun b hbb => by
      subst hbb
      unfold m_isWay_59 m_isWay_73
      rw [show nn p + 1 = nn (p + 1) from nnA p 1]
      have g1 : ∀ z, z = mn9 (fun q => ngs r q n) (p + 1) → (if nn (ngs r p n) ≤ nn (mx9 (fun q => ngs r q n) p) then m_isWay_12 F (nn n) (nn n0) (nn z) (nn (mx9 (fun q => ngs r q n) p)) (b01 (∀ q, q < p + 1 → n0 ≤ hld r q n)) (nn (p + 1)) M else m_isWay_12 F (nn n) (nn n0) (nn z) (nn (ngs r p n)) (b01 (∀ q, q < p + 1 → n0 ≤ hld r q n)) (nn (p + 1)) M) = some (b01 ((∀ q, q < P → n0 ≤ hld r q n) ∧ mx9 (fun q => ngs r q n) P ≤ mn9 (fun q => ngs r q n) P + 1)) := fun z hz => by
        subst hz
        by_cases e : ngs r p n ≤ mx9 (fun q => ngs r q n) p
        · rw [show mx9 (fun q => ngs r q n) (p + 1) = mx9 (fun q => ngs r q n) p from if_pos e] at IH
          exact st_t (by rw [nnE (by omega) (by omega)]; exact e) IH
        · rw [show mx9 (fun q => ngs r q n) (p + 1) = ngs r p n from if_neg e] at IH
          exact st_f (by rw [nnE (by omega) (by omega)]; exact e) IH
      by_cases e : mn9 (fun q => ngs r q n) p ≤ ngs r p n
      · exact st_t (by rw [nnE (by omega) (by omega)]; exact e) (g1 _ (if_pos e).symm)
      · exact st_f (by rw [nnE (by omega) (by omega)]; exact e) (g1 _ (if_neg e).symm)
    unfold m_isWay_12
    rw [c1, e1, nnT (show 4 * n + p < 2147483648 by omega), d2, d3]
    refine st_f (by simp (disch := first | omega | decide) only [lt1, nnMl, nnMr, nnAl, nnAr, nnA, nnM, nnB, nnT, nnP, nnE, nnEl, nnEr, nnL, nnLl, nnLr, nnQ, nnQr, nnN, Nat.add_zero, if_false, if_true, Option.bind_some, not_true, not_false_iff, not_true_eq_false, not_false_eq_true, eq_self, Nat.not_lt_zero, z10, z01, or_true, true_or, or_false, false_or, true_and, false_and, h3]) (st_w j0 ?_)
    unfold m_isWay_58
    by_cases q1 : ∀ q, q < p → n0 ≤ hld r q n
    · refine st_f (by rw [b01_y q1]; decide) (st_t j0 ?_)
      by_cases q2 : hld r p n < n0
      · exact st_t (by rw [nnL (by omega) (by omega)]; exact q2) (f59 0 (b01_n (fun z => by have := z p (Nat.lt_succ_self _); omega)).symm)
      · exact st_f (by rw [nnL (by omega) (by omega)]; exact q2) (f59 1 (b01_y (fun q h => by
          by_cases e : q = p
          · rw [e]; omega
          · exact q1 q (by omega))).symm)
    · exact st_t (b01_n q1) (f59 0 (b01_n (fun z => q1 (fun q h => z q (by omega)))).symm)
theorem kpL {M : Sg} (hn : n ≤ 8) : ∀ m k F f, k + m = n → m < F → (∀ j, j < k → f j = M 224 j) → ∃ f2, m_keeps_49 F (nn n) (nn k) (sc M 225 f) = some (sc M 225 f2) ∧ ∀ j, j < n → f2 j = M 224 j := by
  intro m
  induction m with
  | zero =>
    intro k F f hk hF hf
    obtain ⟨F, rfl⟩ : ∃ F2, F = F2 + 1 := ⟨F - 1, by omega⟩
    have : k = n := by omega
    subst this
    refine ⟨f, ?_, hf⟩
    unfold m_keeps_49
    exact if_pos (Int32.le_refl _)
  | succ m ih =>
    intro k F f hk hF hf
    obtain ⟨F, rfl⟩ : ∃ F2, F = F2 + 1 := ⟨F - 1, by omega⟩
    have hk8 : k < 8 := by omega
    have hi : inb (nn k) 8 = true := by simp (disch := first | omega | decide) only [lt1, nnMl, nnMr, nnAl, nnAr, nnA, nnM, nnB, nnT, nnP, nnE, nnEl, nnEr, nnL, nnLl, nnLr, nnQ, nnQr, nnN, Nat.add_zero, if_false, if_true, Option.bind_some, not_true, not_false_iff, not_true_eq_false, not_false_eq_true, eq_self, Nat.not_lt_zero, z10, z01, or_true, true_or, or_false, false_or, true_and, false_and, hk8]
    obtain ⟨f2, r1, r2⟩ := ih (k + 1) F (up1 f k (M 224 k)) (by omega) (by omega) (fun j hj => by
      by_cases e : j = k
      · rw [e, up1_eq]
      · rw [up1_ne e]; exact hf j (by omega))
    refine ⟨f2, ?_, r2⟩
    unfold m_keeps_49
    rw [nnT (by omega), sc_n (show 224 ≠ 225 by decide), show nn k + 1 = nn (k + 1) from nnA k 1]
    refine st_f (by rw [nnE (by omega) (by omega)]; omega) (st_t hi (st_w hi ?_))
    rw [sc_u]
    exact r1
theorem kp_y {M : Sg} {r : Nat → Nat} {acc : Acc} (hn : n ≤ 8) (hE : EI M n P r n P acc) (hc : chg r n ≤ bestC acc) {F : Nat} (hF : 9 < F) : ∃ M2, m_keeps F (nn n) M = some M2 ∧ ((btr acc (chg r n) (hld r P n) → EI M2 n P r n P (some (chg r n, hld r P n, row0 r n))) ∧ (¬ btr acc (chg r n) (hld r P n) → EI M2 n P r n P acc)) ∧ FTM M M2 := by
  obtain ⟨c1, c2, c3, c4, c5, c6⟩ := hE
  have hn9 : n < 9 := by omega
  have hi : inb (nn n) 9 = true := by simp (disch := first | omega | decide) only [lt1, nnMl, nnMr, nnAl, nnAr, nnA, nnM, nnB, nnT, nnP, nnE, nnEl, nnEr, nnL, nnLl, nnLr, nnQ, nnQr, nnN, Nat.add_zero, if_false, if_true, Option.bind_some, not_true, not_false_iff, not_true_eq_false, not_false_eq_true, eq_self, Nat.not_lt_zero, z10, z01, or_true, true_or, or_false, false_or, true_and, false_and, hn9]
  obtain ⟨v1, v2⟩ := c4 n (Nat.le_refl _)
  have hcl := chg_le (r := r) n
  have hhl := hld_le0 (r := r) (q := P) (k := n)
  obtain ⟨f2, k1, k2⟩ := kpL (M := up2 (up2 M 215 31 (nn (chg r n))) 215 32 (nn (hld r P n))) hn n 0 F (M 225) (by omega) (by omega) (fun j hj => absurd hj (Nat.not_lt_zero _))
  have e25 : sc (up2 (up2 M 215 31 (nn (chg r n))) 215 32 (nn (hld r P n))) 225 (M 225) = up2 (up2 M 215 31 (nn (chg r n))) 215 32 (nn (hld r P n)) := by
    have := sc_s (g := up2 (up2 M 215 31 (nn (chg r n))) 215 32 (nn (hld r P n))) (a := 225)
    rwa [u2n (by decide), u2n (by decide)] at this
  rw [e25] at k1
  have k27 : m_keeps_27 F (nn n) M = some (sc (up2 (up2 M 215 31 (nn (chg r n))) 215 32 (nn (hld r P n))) 225 f2) := by
    unfold m_keeps_27
    rw [nnT (by omega), v1]
    refine st_w hi ?_
    rw [u2n (show 230 ≠ 215 by decide), v2]
    exact st_w hi k1
  have hE2 : EI (sc (up2 (up2 M 215 31 (nn (chg r n))) 215 32 (nn (hld r P n))) 225 f2) n P r n P (some (chg r n, hld r P n, row0 r n)) := by
    have en : ∀ i, i ≠ 225 → i ≠ 215 → sc (up2 (up2 M 215 31 (nn (chg r n))) 215 32 (nn (hld r P n))) 225 f2 i = M i := fun i a b => by rw [sc_n a, u2n b, u2n b]
    refine ⟨?_, Or.inr ⟨_, rfl, ?_, ?_, fun j hj => ?_, Nat.le_trans hcl hn, Nat.le_trans hhl hn⟩, ?_, ?_, ?_, ?_⟩
    · rw [sc_n (by decide)]; simp (disch := first | omega | decide) only [u2e, u2n, up1_eq, up1_ne, ne_eq, c1]
    · rw [sc_n (by decide)]; simp (disch := first | omega | decide) only [u2e, u2n, up1_eq, up1_ne, ne_eq]
    · rw [sc_n (by decide)]; simp (disch := first | omega | decide) only [u2e, u2n, up1_eq, up1_ne, ne_eq]
    · rw [sc_e, k2 j hj, u2n (by decide), u2n (by decide), c3 j hj]
      show nn (r j) = nn (row0 r n j)
      rw [show row0 r n j = r j from if_pos hj]
    · rw [en 224 (by decide) (by decide)]; exact c3
    · rw [en 229 (by decide) (by decide), en 230 (by decide) (by decide)]; exact c4
    · rw [en 226 (by decide) (by decide), en 227 (by decide) (by decide), en 228 (by decide) (by decide)]; exact c5
    · rw [en 226 (by decide) (by decide), en 227 (by decide) (by decide), en 228 (by decide) (by decide)]; exact c6
  have ft2 : FTM M (sc (up2 (up2 M 215 31 (nn (chg r n))) 215 32 (nn (hld r P n))) 225 f2) := fun i a b => by rw [sc_n (by omega), u2n a, u2n a]
  rcases c2 with ⟨rfl, h1, h2⟩ | ⟨a, rfl, h1, h2, h3, h4, h5⟩
  · refine ⟨_, ?_, ⟨fun _ => hE2, fun h => absurd True.intro h⟩, ft2⟩
    unfold m_keeps
    rw [nnT (by omega), v1, h1]
    exact st_t hi (st_t (nnNe (by omega) (by omega) (by omega)) k27)
  · have hc : chg r n ≤ a.1 := hc
    have hbt : btr (some a) (chg r n) (hld r P n) ↔ (chg r n < a.1 ∨ (chg r n = a.1 ∧ a.2.1 < hld r P n)) := Iff.rfl
    by_cases q : chg r n = a.1
    · by_cases q2 : a.2.1 < hld r P n
      · refine ⟨_, ?_, ⟨fun _ => hE2, fun h => absurd (hbt.mpr (Or.inr ⟨q, q2⟩)) h⟩, ft2⟩
        unfold m_keeps
        rw [nnT (by omega), v1, v2, h1, h2]
        exact st_t hi (st_f (fun z => z (by rw [q])) (st_t hi (st_t (by rw [nnL (by omega) (by omega)]; exact q2) k27)))
      · refine ⟨M, ?_, ⟨fun h => ?_, fun _ => ⟨c1, Or.inr ⟨a, rfl, h1, h2, h3, h4, h5⟩, c3, c4, c5, c6⟩⟩, FTM.r⟩
        · unfold m_keeps
          rw [nnT (by omega), v1, v2, h1, h2]
          exact st_t hi (st_f (fun z => z (by rw [q])) (st_t hi (st_f (by rw [nnL (by omega) (by omega)]; exact q2) rfl)))
        · have := hbt.mp h
          omega
    · refine ⟨_, ?_, ⟨fun _ => hE2, fun h => absurd (hbt.mpr (Or.inl (by omega))) h⟩, ft2⟩
      unfold m_keeps
      rw [nnT (by omega), v1, h1]
      exact st_t hi (st_t (nnNe (by omega) (by omega) q) k27)
theorem layLv (hP0 : 0 < P) (hP : P ≤ 4) (hn : n ≤ 8) (hn0 : n0 ≤ 4) (hgp : gp ≤ 7) {F0 : Nat} (hF0 : 10 < F0) : ∀ m i, i + 1 + m = n → ∀ k ch r acc M, ch + k = P + 1 → EI M n P r i P acc → M 224 i = Int32.ofInt ((ch : Int) - 1) → okg r P gp i → (∀ j, j < i → r j ≤ 4) → ∃ K M2, K ≤ stepB m k ∧ (∀ F, m_lays_100 F0 (F + K) (nn n) (nn n0) (nn gp) (nn i) M = m_lays_100 F0 F (nn n) (nn n0) (nn gp) (nn i + (-1)) M2) ∧ EI M2 n P r i P (fcs (fun ch a => full P n0 gp n m (i + 1) (upr r i ch) a) k ch acc) ∧ FTM M M2 := by
  intro m
  induction m with
  | zero =>
    intro i hi k
    induction k with
    | zero =>
      intro ch r acc M hc hE h24 hg hr
      have hi8 : i < 8 := by omega
      have hin : inb (nn i) 8 = true := by simp (disch := first | omega | decide) only [lt1, nnMl, nnMr, nnAl, nnAr, nnA, nnM, nnB, nnT, nnP, nnE, nnEl, nnEr, nnL, nnLl, nnLr, nnQ, nnQr, nnN, Nat.add_zero, if_false, if_true, Option.bind_some, not_true, not_false_iff, not_true_eq_false, not_false_eq_true, eq_self, Nat.not_lt_zero, z10, z01, or_true, true_or, or_false, false_or, true_and, false_and, hi8]
      obtain ⟨c1, c2, c3, c4, c5, c6⟩ := hE
      refine ⟨1, up2 M 224 i (Int32.ofInt ((ch : Int) - 1) + 1), Nat.le_refl _, fun F => ?_, ⟨?_, c2.cg (by simp (disch := first | omega | decide) only [u2e, u2n, up1_eq, up1_ne, ne_eq]) (by simp (disch := first | omega | decide) only [u2e, u2n, up1_eq, up1_ne, ne_eq]) (by simp (disch := first | omega | decide) only [u2e, u2n, up1_eq, up1_ne, ne_eq]), fun j hj => ?_, ?_, ?_, ?_⟩, FTM.w (by omega)⟩
      · show m_lays_100 F0 (F + 1) _ _ _ _ _ = _
        rw [m_lays_100]
        rw [nnT (by omega), h24]
        refine st_f (by rw [nnP (by omega)]; exact id) (st_t hin (st_w hin (st_t hin (st_f ?_ rfl))))
        rw [u2e, up1_eq, u2n (by decide), c1, show (1 : Int32) = Int32.ofInt 1 from rfl, ← Int32.ofInt_add, show (ch : Int) - 1 + 1 = (ch : Int) by omega, ← nn_ofI, nnE (by omega) (by omega)]
        omega
      · simp (disch := first | omega | decide) only [u2e, u2n, up1_eq, up1_ne, ne_eq, c1]
      · rw [u2e, up1_ne (by omega)]; exact c3 j hj
      · rw [u2n (by decide), u2n (by decide)]; exact c4
      · rw [u2n (by decide), u2n (by decide), u2n (by decide)]; exact c5
      · rw [u2n (by decide), u2n (by decide), u2n (by decide)]; exact c6
    | succ k ihk =>
      intro ch r acc M hc hE h24 hg hr
      have hi8 : i < 8 := by omega
      have hin : inb (nn i) 8 = true := by simp (disch := first | omega | decide) only [lt1, nnMl, nnMr, nnAl, nnAr, nnA, nnM, nnB, nnT, nnP, nnE, nnEl, nnEr, nnL, nnLl, nnLr, nnQ, nnQr, nnN, Nat.add_zero, if_false, if_true, Option.bind_some, not_true, not_false_iff, not_true_eq_false, not_false_eq_true, eq_self, Nat.not_lt_zero, z10, z01, or_true, true_or, or_false, false_or, true_and, false_and, hi8]
      have hch : ch ≤ P := by omega
      obtain ⟨M3, e1, e2, e3⟩ := ent_y hP hi8 hgp hch hr hE (F := F0) (by omega)
      have er : ∀ j, j < i → upr r i ch j = r j := fun j hj => upr_n (by omega)
      have en1 : n = i + 1 := by omega
      have ew : (Int32.ofInt ((ch : Int) - 1) + 1) = nn ch := by
        rw [show (1 : Int32) = Int32.ofInt 1 from rfl, ← Int32.ofInt_add, nn_ofI]
        congr 1
        omega
      -- back to this level, from a state whose prefix is r' of length i + 1
      have down : ∀ M4 acc4, EI M4 n P (upr r i ch) (i + 1) P acc4 → EI M4 n P r i P acc4 ∧ M4 224 i = Int32.ofInt (((ch + 1 : Nat) : Int) - 1) := fun M4 acc4 ⟨d1, d2, d3, d4, d5, d6⟩ => by
        refine ⟨⟨d1, d2, fun j hj => ?_, fun k hk => ?_, fun k q hk hq => ?_, fun q hq => ?_⟩, ?_⟩
        · rw [d3 j (by omega), upr_n (by omega)]
        · rw [(d4 k (by omega)).1, (d4 k (by omega)).2, chg_cg k (fun j hj => upr_n (by omega)), hld_cg k (fun j hj => upr_n (by omega))]
          exact ⟨rfl, rfl⟩
        · have := d5 k q (by omega) hq
          rw [gon_cg k (fun j hj => upr_n (by omega)), hld_cg k (fun j hj => upr_n (by omega)), ngs_cg k (fun j hj => upr_n (by omega))] at this
          exact this
        · have := d5 i q (by omega) hq
          rw [gon_cg i er, hld_cg i er, ngs_cg i er] at this
          exact this
        · rw [d3 i (by omega), upr_e, nn_ofI]
          congr 1
          omega
      have step : ∀ (M4 : Sg) (acc4 : Acc), (∀ F, m_lays_100 F0 (F + 1) (nn n) (nn n0) (nn gp) (nn i) M = m_lays_100 F0 F (nn n) (nn n0) (nn gp) (nn i) M4) → EI M4 n P (upr r i ch) (i + 1) P acc4 → FTM M M4 → acc4 = full P n0 gp n 0 (i + 1) (upr r i ch) acc → ∃ K M2, K ≤ stepB 0 (k + 1) ∧ (∀ F, m_lays_100 F0 (F + K) (nn n) (nn n0) (nn gp) (nn i) M = m_lays_100 F0 F (nn n) (nn n0) (nn gp) (nn i + (-1)) M2) ∧ EI M2 n P r i P (fcs (fun ch a => full P n0 gp n 0 (i + 1) (upr r i ch) a) (k + 1) ch acc) ∧ FTM M M2 := fun M4 acc4 h1 h2 h3 h4 => by
        obtain ⟨d1, d2⟩ := down M4 acc4 h2
        obtain ⟨K, M2, s0, s1, s2, s3⟩ := ihk (ch + 1) r acc4 M4 (by omega) d1 d2 hg hr
        subst h4
        refine ⟨K + 1, M2, (by show K + 1 ≤ k + 1 + 1; exact Nat.succ_le_succ s0), fun F => ?_, s2, h3.t s3⟩
        rw [← Nat.add_assoc, h1, s1]
      have pre : ∀ (F : Nat) (rr : Option (Int32 × Sg)), (if ¬ b01 (chg (upr r i ch) (i + 1) ≤ bestC acc ∧ ∀ q, q < P → gon (upr r i ch) q (i + 1) ≤ gp) = 0 then Option.bind (m_isWay F0 (nn n) (nn n0) M3) (fun x4 => (if x4 = 0 then m_lays_100 F0 F (nn n) (nn n0) (nn gp) (nn i) M3 else Option.bind (m_keeps F0 (nn n) M3) (fun g5 => m_lays_100 F0 F (nn n) (nn n0) (nn gp) (nn i) g5))) else m_lays_100 F0 F (nn n) (nn n0) (nn gp) (nn i) M3) = rr → m_lays_100 F0 (F + 1) (nn n) (nn n0) (nn gp) (nn i) M = rr := fun F rr hrr => by
        rw [m_lays_100]
        rw [nnT (by omega), h24, ew]
        refine st_f (by rw [nnP (by omega)]; exact id) (st_t hin (st_w hin (st_t hin (st_t ?_ (st_b e1 ?_)))))
        · rw [u2e, up1_eq, u2n (by decide), hE.1, nnE (by omega) (by omega)]; exact hch
        · rw [← hrr]
          by_cases q : b01 (chg (upr r i ch) (i + 1) ≤ bestC acc ∧ ∀ q, q < P → gon (upr r i ch) q (i + 1) ≤ gp) = 0
          · refine Eq.trans ?_ (if_neg (fun z => z q)).symm
            exact st_f (fun z => z q) rfl
          · refine Eq.trans ?_ (if_pos q).symm
            exact st_t q (st_t (by rw [nnM1 (by omega), nnE (by omega) (by omega)]; omega) rfl)
      by_cases q : chg (upr r i ch) (i + 1) ≤ bestC acc ∧ ∀ q, q < P → gon (upr r i ch) q (i + 1) ≤ gp
      · have q0 : ¬ b01 (chg (upr r i ch) (i + 1) ≤ bestC acc ∧ ∀ q, q < P → gon (upr r i ch) q (i + 1) ≤ gp) = 0 := by rw [b01_y q]; decide
        have eE : EI M3 n P (upr r i ch) n P acc := by rw [en1]; rw [en1] at e2; exact e2
        have hok : okg (upr r i ch) P gp n := fun j hj q2 hq2 => by
          by_cases e : j = i
          · rw [e]; exact q.2 q2 hq2
          · rw [gon_cg (j + 1) (fun j2 hj2 => upr_n (by omega))]; exact hg j (by omega) q2 hq2
        have hw := wayL hP hn hn0 eE P 0 F0 (by omega) (by omega)
        have hw : m_isWay F0 (nn n) (nn n0) M3 = some (b01 ((∀ q, q < P → n0 ≤ hld (upr r i ch) q n) ∧ mx9 (fun q => ngs (upr r i ch) q n) P ≤ mn9 (fun q => ngs (upr r i ch) q n) P + 1)) := by
          rw [b01_y (show ∀ q, q < 0 → n0 ≤ hld (upr r i ch) q n from fun q h => absurd h (Nat.not_lt_zero _))] at hw
          exact hw
        by_cases w : (∀ q, q < P → n0 ≤ hld (upr r i ch) q n) ∧ mx9 (fun q => ngs (upr r i ch) q n) P ≤ mn9 (fun q => ngs (upr r i ch) q n) P + 1
        · have ok : okR (upr r i ch) P n0 gp n := ⟨hok, w.1, (even_m9 hP0 hn).mpr w.2⟩
          obtain ⟨M4, k1, ⟨k2, k3⟩, k4⟩ := kp_y hn eE (by rw [en1]; exact q.1) (F := F0) (by omega)
          by_cases bt : btr acc (chg (upr r i ch) n) (hld (upr r i ch) P n)
          · refine step M4 (some (chg (upr r i ch) n, hld (upr r i ch) P n, row0 (upr r i ch) n)) (fun F => pre F _ ((if_pos q0).trans (st_b hw (st_f (by rw [b01_y w]; decide) (st_b k1 rfl))))) (by have := k2 bt; rw [en1] at this ⊢; exact this) (e3.t k4) ?_
            exact (updA_y ⟨ok, bt⟩).symm
          · refine step M4 acc (fun F => pre F _ ((if_pos q0).trans (st_b hw (st_f (by rw [b01_y w]; decide) (st_b k1 rfl))))) (by have := k3 bt; rw [en1] at this ⊢; exact this) (e3.t k4) ?_
            exact (updA_n (fun z => bt z.2)).symm
        · refine step M3 acc (fun F => pre F _ ((if_pos q0).trans (st_b hw (st_t (b01_n w) rfl)))) e2 e3 ?_
          exact (updA_n (fun z => w ⟨z.1.2.1, (even_m9 hP0 hn).mp z.1.2.2⟩)).symm
      · have q0 : b01 (chg (upr r i ch) (i + 1) ≤ bestC acc ∧ ∀ q, q < P → gon (upr r i ch) q (i + 1) ≤ gp) = 0 := b01_n q
        refine step M3 acc (fun F => pre F _ (if_neg (fun z => z q0))) e2 e3 ?_
        by_cases q1 : chg (upr r i ch) (i + 1) ≤ bestC acc
        · have : ∃ p, p < P ∧ gp < gon (upr r i ch) p (i + 1) := by
            refine Classical.byContradiction (fun z => q ⟨q1, fun p hp => ?_⟩)
            exact Nat.not_lt.mp (fun z2 => z ⟨p, hp, z2⟩)
          obtain ⟨p, p1, p2⟩ := this
          exact (keep_g (by omega) (by omega) p1 p2).symm
        · refine (keep_b (by omega) ?_).symm
          cases acc with
          | none =>
            exfalso
            have := chg_le (r := upr r i ch) (i + 1)
            exact q1 (Nat.le_trans this (by show i + 1 ≤ 100; omega))
          | some a => exact ⟨a, rfl, Or.inl (Nat.not_le.mp q1)⟩
  | succ m ihm =>
    intro i hi k
    induction k with
    | zero =>
      intro ch r acc M hc hE h24 hg hr
      have hi8 : i < 8 := by omega
      have hin : inb (nn i) 8 = true := by simp (disch := first | omega | decide) only [lt1, nnMl, nnMr, nnAl, nnAr, nnA, nnM, nnB, nnT, nnP, nnE, nnEl, nnEr, nnL, nnLl, nnLr, nnQ, nnQr, nnN, Nat.add_zero, if_false, if_true, Option.bind_some, not_true, not_false_iff, not_true_eq_false, not_false_eq_true, eq_self, Nat.not_lt_zero, z10, z01, or_true, true_or, or_false, false_or, true_and, false_and, hi8]
      obtain ⟨c1, c2, c3, c4, c5, c6⟩ := hE
      refine ⟨1, up2 M 224 i (Int32.ofInt ((ch : Int) - 1) + 1), (by show 1 ≤ 0 * (stepB m 5 + 1) + 1; omega), fun F => ?_, ⟨?_, c2.cg (by simp (disch := first | omega | decide) only [u2e, u2n, up1_eq, up1_ne, ne_eq]) (by simp (disch := first | omega | decide) only [u2e, u2n, up1_eq, up1_ne, ne_eq]) (by simp (disch := first | omega | decide) only [u2e, u2n, up1_eq, up1_ne, ne_eq]), fun j hj => ?_, ?_, ?_, ?_⟩, FTM.w (by omega)⟩
      · show m_lays_100 F0 (F + 1) _ _ _ _ _ = _
        rw [m_lays_100]
        rw [nnT (by omega), h24]
        refine st_f (by rw [nnP (by omega)]; exact id) (st_t hin (st_w hin (st_t hin (st_f ?_ rfl))))
        rw [u2e, up1_eq, u2n (by decide), c1, show (1 : Int32) = Int32.ofInt 1 from rfl, ← Int32.ofInt_add, show (ch : Int) - 1 + 1 = (ch : Int) by omega, ← nn_ofI, nnE (by omega) (by omega)]
        omega
      · simp (disch := first | omega | decide) only [u2e, u2n, up1_eq, up1_ne, ne_eq, c1]
      · rw [u2e, up1_ne (by omega)]; exact c3 j hj
      · rw [u2n (by decide), u2n (by decide)]; exact c4
      · rw [u2n (by decide), u2n (by decide), u2n (by decide)]; exact c5
      · rw [u2n (by decide), u2n (by decide), u2n (by decide)]; exact c6
    | succ k ihk =>
      intro ch r acc M hc hE h24 hg hr
      have hi8 : i < 8 := by omega
      have hi18 : i + 1 < 8 := by omega
      have hin : inb (nn i) 8 = true := by simp (disch := first | omega | decide) only [lt1, nnMl, nnMr, nnAl, nnAr, nnA, nnM, nnB, nnT, nnP, nnE, nnEl, nnEr, nnL, nnLl, nnLr, nnQ, nnQr, nnN, Nat.add_zero, if_false, if_true, Option.bind_some, not_true, not_false_iff, not_true_eq_false, not_false_eq_true, eq_self, Nat.not_lt_zero, z10, z01, or_true, true_or, or_false, false_or, true_and, false_and, hi8]
      have hch : ch ≤ P := by omega
      obtain ⟨M3, e1, e2, e3⟩ := ent_y hP hi8 hgp hch hr hE (F := F0) (by omega)
      have er : ∀ j, j < i → upr r i ch j = r j := fun j hj => upr_n (by omega)
      have ew : (Int32.ofInt ((ch : Int) - 1) + 1) = nn ch := by
        rw [show (1 : Int32) = Int32.ofInt 1 from rfl, ← Int32.ofInt_add, nn_ofI]
        congr 1
        omega
      have down : ∀ M4 acc4, EI M4 n P (upr r i ch) (i + 1) P acc4 → EI M4 n P r i P acc4 ∧ M4 224 i = Int32.ofInt (((ch + 1 : Nat) : Int) - 1) := fun M4 acc4 ⟨d1, d2, d3, d4, d5, d6⟩ => by
        refine ⟨⟨d1, d2, fun j hj => ?_, fun k hk => ?_, fun k q hk hq => ?_, fun q hq => ?_⟩, ?_⟩
        · rw [d3 j (by omega), upr_n (by omega)]
        · rw [(d4 k (by omega)).1, (d4 k (by omega)).2, chg_cg k (fun j hj => upr_n (by omega)), hld_cg k (fun j hj => upr_n (by omega))]
          exact ⟨rfl, rfl⟩
        · have := d5 k q (by omega) hq
          rw [gon_cg k (fun j hj => upr_n (by omega)), hld_cg k (fun j hj => upr_n (by omega)), ngs_cg k (fun j hj => upr_n (by omega))] at this
          exact this
        · have := d5 i q (by omega) hq
          rw [gon_cg i er, hld_cg i er, ngs_cg i er] at this
          exact this
        · rw [d3 i (by omega), upr_e, nn_ofI]
          congr 1
          omega
      have step : ∀ (K1 : Nat) (M4 : Sg) (acc4 : Acc), K1 ≤ stepB m 5 + 1 → (∀ F, m_lays_100 F0 (F + K1) (nn n) (nn n0) (nn gp) (nn i) M = m_lays_100 F0 F (nn n) (nn n0) (nn gp) (nn i) M4) → EI M4 n P (upr r i ch) (i + 1) P acc4 → FTM M M4 → acc4 = full P n0 gp n (m + 1) (i + 1) (upr r i ch) acc → ∃ K M2, K ≤ stepB (m + 1) (k + 1) ∧ (∀ F, m_lays_100 F0 (F + K) (nn n) (nn n0) (nn gp) (nn i) M = m_lays_100 F0 F (nn n) (nn n0) (nn gp) (nn i + (-1)) M2) ∧ EI M2 n P r i P (fcs (fun ch a => full P n0 gp n (m + 1) (i + 1) (upr r i ch) a) (k + 1) ch acc) ∧ FTM M M2 := fun K1 M4 acc4 h0 h1 h2 h3 h4 => by
        obtain ⟨d1, d2⟩ := down M4 acc4 h2
        obtain ⟨K, M2, s0, s1, s2, s3⟩ := ihk (ch + 1) r acc4 M4 (by omega) d1 d2 hg hr
        subst h4
        refine ⟨K + K1, M2, (by
          show K + K1 ≤ (k + 1) * (stepB m 5 + 1) + 1
          have s0 : K ≤ k * (stepB m 5 + 1) + 1 := s0
          rw [Nat.succ_mul]
          omega), fun F => ?_, s2, h3.t s3⟩
        rw [← Nat.add_assoc, h1, s1]
      have pre : ∀ (F : Nat) (rr : Option (Int32 × Sg)), (if ¬ b01 (chg (upr r i ch) (i + 1) ≤ bestC acc ∧ ∀ q, q < P → gon (upr r i ch) q (i + 1) ≤ gp) = 0 then m_lays_100 F0 F (nn n) (nn n0) (nn gp) (nn (i + 1)) (up2 M3 224 (i + 1) (-1)) else m_lays_100 F0 F (nn n) (nn n0) (nn gp) (nn i) M3) = rr → m_lays_100 F0 (F + 1) (nn n) (nn n0) (nn gp) (nn i) M = rr := fun F rr hrr => by
        rw [m_lays_100]
        rw [nnT (by omega), h24, ew]
        refine st_f (by rw [nnP (by omega)]; exact id) (st_t hin (st_w hin (st_t hin (st_t ?_ (st_b e1 ?_)))))
        · rw [u2e, up1_eq, u2n (by decide), hE.1, nnE (by omega) (by omega)]; exact hch
        · rw [← hrr]
          by_cases q : b01 (chg (upr r i ch) (i + 1) ≤ bestC acc ∧ ∀ q, q < P → gon (upr r i ch) q (i + 1) ≤ gp) = 0
          · refine Eq.trans ?_ (if_neg (fun z => z q)).symm
            exact st_f (fun z => z q) rfl
          · refine Eq.trans ?_ (if_pos q).symm
            refine st_t q (st_f (by rw [nnM1 (by omega), nnE (by omega) (by omega)]; omega) ?_)
            rw [show nn i + 1 = nn (i + 1) from nnA i 1, nnT (by omega)]
            exact st_w (by simp (disch := first | omega | decide) only [lt1, nnMl, nnMr, nnAl, nnAr, nnA, nnM, nnB, nnT, nnP, nnE, nnEl, nnEr, nnL, nnLl, nnLr, nnQ, nnQr, nnN, Nat.add_zero, if_false, if_true, Option.bind_some, not_true, not_false_iff, not_true_eq_false, not_false_eq_true, eq_self, Nat.not_lt_zero, z10, z01, or_true, true_or, or_false, false_or, true_and, false_and, hi18]) rfl
      by_cases q : chg (upr r i ch) (i + 1) ≤ bestC acc ∧ ∀ q, q < P → gon (upr r i ch) q (i + 1) ≤ gp
      · have q0 : ¬ b01 (chg (upr r i ch) (i + 1) ≤ bestC acc ∧ ∀ q, q < P → gon (upr r i ch) q (i + 1) ≤ gp) = 0 := by rw [b01_y q]; decide
        have hok : okg (upr r i ch) P gp (i + 1) := fun j hj q2 hq2 => by
          by_cases e : j = i
          · rw [e]; exact q.2 q2 hq2
          · rw [gon_cg (j + 1) (fun j2 hj2 => upr_n (by omega))]; exact hg j (by omega) q2 hq2
        have hE3 : EI (up2 M3 224 (i + 1) (-1)) n P (upr r i ch) (i + 1) P acc := by
          obtain ⟨d1, d2, d3, d4, d5, d6⟩ := e2
          refine ⟨?_, d2.cg (by simp (disch := first | omega | decide) only [u2e, u2n, up1_eq, up1_ne, ne_eq]) (by simp (disch := first | omega | decide) only [u2e, u2n, up1_eq, up1_ne, ne_eq]) (by simp (disch := first | omega | decide) only [u2e, u2n, up1_eq, up1_ne, ne_eq]), fun j hj => ?_, ?_, ?_, ?_⟩
          · simp (disch := first | omega | decide) only [u2e, u2n, up1_eq, up1_ne, ne_eq, d1]
          · rw [u2e, up1_ne (by omega)]; exact d3 j hj
          · rw [u2n (by decide), u2n (by decide)]; exact d4
          · rw [u2n (by decide), u2n (by decide), u2n (by decide)]; exact d5
          · rw [u2n (by decide), u2n (by decide), u2n (by decide)]; exact d6
        obtain ⟨K, M4, s0, s1, s2, s3⟩ := ihm (i + 1) (by omega) (P + 1) 0 (upr r i ch) acc (up2 M3 224 (i + 1) (-1)) (by omega) hE3 (by rw [u2e, up1_eq]; rfl) hok (fun j hj => by
          by_cases e : j = i
          · rw [e, upr_e]; omega
          · rw [upr_n e]; exact hr j (by omega))
        refine step (K + 1) M4 _ (Nat.succ_le_succ (Nat.le_trans s0 (stepB_k (by omega)))) (fun F => ?_) s2 (e3.t ((FTM.w (by omega)).t s3)) rfl
        rw [← Nat.add_assoc]
        refine pre (F + K) _ ((if_pos q0).trans ((s1 F).trans ?_))
        rw [← Int32.sub_eq_add_neg, nnS1]
      · have q0 : b01 (chg (upr r i ch) (i + 1) ≤ bestC acc ∧ ∀ q, q < P → gon (upr r i ch) q (i + 1) ≤ gp) = 0 := b01_n q
        refine step 1 M3 acc (Nat.succ_le_succ (Nat.zero_le _)) (fun F => pre F _ (if_neg (fun z => z q0))) e2 e3 ?_
        by_cases q1 : chg (upr r i ch) (i + 1) ≤ bestC acc
        · have : ∃ p, p < P ∧ gp < gon (upr r i ch) p (i + 1) := by
            refine Classical.byContradiction (fun z => q ⟨q1, fun p hp => ?_⟩)
            exact Nat.not_lt.mp (fun z2 => z ⟨p, hp, z2⟩)
          obtain ⟨p, p1, p2⟩ := this
          exact (keep_g (by omega) (by omega) p1 p2).symm
        · refine (keep_b (by omega) ?_).symm
          cases acc with
          | none =>
            exfalso
            have := chg_le (r := upr r i ch) (i + 1)
            exact q1 (Nat.le_trans this (by show i + 1 ≤ 100; omega))
          | some a => exact ⟨a, rfl, Or.inl (Nat.not_le.mp q1)⟩
end WS
