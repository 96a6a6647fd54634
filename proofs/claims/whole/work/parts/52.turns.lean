/-! laid turns: all rows in their order, and what is kept -/
def upr (r : Nat → Nat) (i v : Nat) : Nat → Nat := fun j => if j = i then v else r j
theorem upr_e {r : Nat → Nat} {i v : Nat} : upr r i v i = v := if_pos rfl
theorem upr_n {r : Nat → Nat} {i j v : Nat} (h : j ≠ i) : upr r i v j = r j := if_neg h
/-- in the first k slots: changes, slots of q, nights of q, slots since the last of q -/
def chg (r : Nat → Nat) : Nat → Nat
  | 0 => 0
  | k + 1 => chg r k + (if 0 < k ∧ ¬ r k = r (k - 1) then 1 else 0)
def hld (r : Nat → Nat) (q : Nat) : Nat → Nat
  | 0 => 0
  | k + 1 => hld r q k + (if r k = q then 1 else 0)
def ngs (r : Nat → Nat) (q : Nat) : Nat → Nat
  | 0 => 0
  | k + 1 => ngs r q k + (if r k = q then k % 2 else 0)
def gon (r : Nat → Nat) (q : Nat) : Nat → Nat
  | 0 => 0
  | k + 1 => if r k = q then 0 else gon r q k + 1
theorem chg_cg {r r2 : Nat → Nat} : ∀ k, (∀ i, i < k → r2 i = r i) → chg r2 k = chg r k
  | 0, _ => rfl
  | k + 1, h => by
    show chg r2 k + (if 0 < k ∧ ¬ r2 k = r2 (k - 1) then 1 else 0) = _
    rw [chg_cg k (fun i hi => h i (by omega)), h k (by omega), h (k - 1) (by omega)]
    rfl
theorem hld_cg {r r2 : Nat → Nat} {q : Nat} : ∀ k, (∀ i, i < k → r2 i = r i) → hld r2 q k = hld r q k
  | 0, _ => rfl
  | k + 1, h => by
    show hld r2 q k + (if r2 k = q then 1 else 0) = _
    rw [hld_cg k (fun i hi => h i (by omega)), h k (by omega)]
    rfl
theorem ngs_cg {r r2 : Nat → Nat} {q : Nat} : ∀ k, (∀ i, i < k → r2 i = r i) → ngs r2 q k = ngs r q k
  | 0, _ => rfl
  | k + 1, h => by
    show ngs r2 q k + (if r2 k = q then k % 2 else 0) = _
    rw [ngs_cg k (fun i hi => h i (by omega)), h k (by omega)]
    rfl
theorem gon_cg {r r2 : Nat → Nat} {q : Nat} : ∀ k, (∀ i, i < k → r2 i = r i) → gon r2 q k = gon r q k
  | 0, _ => rfl
  | k + 1, h => by
    show (if r2 k = q then 0 else gon r2 q k + 1) = _
    rw [gon_cg k (fun i hi => h i (by omega)), h k (by omega)]
    rfl
theorem chg_mono {r : Nat → Nat} {k : Nat} : ∀ m, chg r k ≤ chg r (k + m)
  | 0 => Nat.le_refl _
  | m + 1 => Nat.le_trans (chg_mono m) (Nat.le_add_right _ _)
theorem hld_le {r : Nat → Nat} {q k : Nat} : ∀ m, hld r q (k + m) ≤ hld r q k + m
  | 0 => Nat.le_refl _
  | m + 1 => by
    have := hld_le (r := r) (q := q) (k := k) m
    show hld r q (k + m) + (if r (k + m) = q then 1 else 0) ≤ _
    split <;> omega
theorem chg_le {r : Nat → Nat} : ∀ k, chg r k ≤ k
  | 0 => Nat.le_refl _
  | k + 1 => by
    have := chg_le (r := r) k
    show chg r k + (if 0 < k ∧ ¬ r k = r (k - 1) then 1 else 0) ≤ _
    split <;> omega
theorem hld_le0 {r : Nat → Nat} {q k : Nat} : hld r q k ≤ k := by
  have := hld_le (r := r) (q := q) (k := 0) k
  rw [Nat.zero_add] at this
  have e : hld r q 0 = 0 := rfl
  omega
theorem ngs_le {r : Nat → Nat} {q : Nat} : ∀ k, ngs r q k ≤ hld r q k
  | 0 => Nat.le_refl _
  | k + 1 => by
    have := ngs_le (r := r) (q := q) k
    show ngs r q k + (if r k = q then k % 2 else 0) ≤ hld r q k + (if r k = q then 1 else 0)
    split <;> omega
theorem gon_le {r : Nat → Nat} {q : Nat} : ∀ k, gon r q k ≤ k
  | 0 => Nat.le_refl _
  | k + 1 => by
    have := gon_le (r := r) (q := q) k
    show (if r k = q then 0 else gon r q k + 1) ≤ _
    split <;> omega
/-- what is missing to the needs of the first m members -/
def mis (r : Nat → Nat) (n0 k : Nat) : Nat → Nat
  | 0 => 0
  | m + 1 => mis r n0 k m + (n0 - hld r m k)
theorem mis_cg {r r2 : Nat → Nat} {n0 k : Nat} (h : ∀ i, i < k → r2 i = r i) : ∀ m, mis r2 n0 k m = mis r n0 k m
  | 0 => rfl
  | m + 1 => by
    show mis r2 n0 k m + (n0 - hld r2 m k) = _
    rw [mis_cg h m, hld_cg k h]
    rfl
theorem mis_st {r : Nat → Nat} {n0 k : Nat} : ∀ m, mis r n0 k m ≤ mis r n0 (k + 1) m + (if r k < m then 1 else 0)
  | 0 => by
    show 0 ≤ _
    exact Nat.zero_le _
  | m + 1 => by
    have ih := mis_st (r := r) (n0 := n0) (k := k) m
    show mis r n0 k m + (n0 - hld r m k) ≤ mis r n0 (k + 1) m + (n0 - (hld r m k + (if r k = m then 1 else 0))) + (if r k < m + 1 then 1 else 0)
    by_cases e : r k = m
    · rw [if_neg (show ¬ r k < m by omega)] at ih
      rw [if_pos e, if_pos (show r k < m + 1 by omega)]
      omega
    · rw [if_neg e]
      by_cases e2 : r k < m
      · rw [if_pos e2] at ih
        rw [if_pos (show r k < m + 1 by omega)]
        omega
      · rw [if_neg e2] at ih
        rw [if_neg (show ¬ r k < m + 1 by omega)]
        omega
theorem mis_mono {r : Nat → Nat} {n0 k m : Nat} : ∀ j, mis r n0 k m ≤ mis r n0 (k + j) m + j
  | 0 => Nat.le_refl _
  | j + 1 => by
    have h1 := mis_mono (r := r) (n0 := n0) (k := k) (m := m) j
    have h2 := mis_st (r := r) (n0 := n0) (k := k + j) m
    have h3 : (if r (k + j) < m then 1 else 0) ≤ 1 := by split <;> omega
    rw [show k + (j + 1) = k + j + 1 by omega]
    omega
theorem mis_0 {r : Nat → Nat} {n0 k : Nat} : ∀ m, (mis r n0 k m = 0 ↔ ∀ q, q < m → n0 ≤ hld r q k)
  | 0 => ⟨fun _ q h => absurd h (Nat.not_lt_zero _), fun _ => rfl⟩
  | m + 1 => by
    have ih := mis_0 (r := r) (n0 := n0) (k := k) m
    show mis r n0 k m + (n0 - hld r m k) = 0 ↔ _
    constructor
    · intro h q hq
      by_cases e : q = m
      · rw [e]; omega
      · exact ih.mp (by omega) q (by omega)
    · intro h
      have h1 := ih.mpr (fun q hq => h q (by omega))
      have h2 := h m (by omega)
      omega
/-- no field too long dry in the first k slots -/
def okg (r : Nat → Nat) (P gp k : Nat) : Prop := ∀ i, i < k → ∀ q, q < P → gon r q (i + 1) ≤ gp
def even (r : Nat → Nat) (P n : Nat) : Prop := ∀ q q2, q < P → q2 < P → ngs r q n ≤ ngs r q2 n + 1
def okR (r : Nat → Nat) (P n0 gp n : Nat) : Prop := okg r P gp n ∧ (∀ q, q < P → n0 ≤ hld r q n) ∧ even r P n
abbrev Acc : Type := Option (Nat × Nat × (Nat → Nat))
def btr (acc : Acc) (c w : Nat) : Prop := match acc with
  | none => True
  | some a => c < a.1 ∨ (c = a.1 ∧ a.2.1 < w)
def row0 (r : Nat → Nat) (n : Nat) : Nat → Nat := fun i => if i < n then r i else 0
noncomputable def updA (P n0 gp n : Nat) (r : Nat → Nat) (acc : Acc) : Acc := by
  classical
  exact if okR r P n0 gp n ∧ btr acc (chg r n) (hld r P n) then some (chg r n, hld r P n, row0 r n) else acc
def fcs (f : Nat → Acc → Acc) : Nat → Nat → Acc → Acc
  | 0, _, acc => acc
  | k + 1, ch, acc => fcs f k (ch + 1) (f ch acc)
noncomputable def full (P n0 gp n : Nat) : Nat → Nat → (Nat → Nat) → Acc → Acc
  | 0, _, r, acc => updA P n0 gp n r acc
  | m + 1, s, r, acc => fcs (fun ch a => full P n0 gp n m (s + 1) (upr r s ch) a) (P + 1) 0 acc
theorem updA_n {P n0 gp n : Nat} {r : Nat → Nat} {acc : Acc} (h : ¬ (okR r P n0 gp n ∧ btr acc (chg r n) (hld r P n))) : updA P n0 gp n r acc = acc := if_neg h
theorem updA_y {P n0 gp n : Nat} {r : Nat → Nat} {acc : Acc} (h : okR r P n0 gp n ∧ btr acc (chg r n) (hld r P n)) : updA P n0 gp n r acc = some (chg r n, hld r P n, row0 r n) := if_pos h
theorem fcs_keep {f : Nat → Acc → Acc} {acc : Acc} : ∀ k ch, (∀ c2, ch ≤ c2 → c2 < ch + k → f c2 acc = acc) → fcs f k ch acc = acc
  | 0, _, _ => rfl
  | k + 1, ch, h => by
    show fcs f k (ch + 1) (f ch acc) = acc
    rw [h ch (Nat.le_refl _) (by omega)]
    exact fcs_keep k (ch + 1) (fun c2 h1 h2 => h c2 (by omega) (by omega))
theorem full_keep {P n0 gp n : Nat} {acc : Acc} : ∀ m s r, s + m = n → (∀ r2, (∀ i, i < s → r2 i = r i) → ¬ (okR r2 P n0 gp n ∧ btr acc (chg r2 n) (hld r2 P n))) → full P n0 gp n m s r acc = acc
  | 0, s, r, _, h => updA_n (h r (fun _ _ => rfl))
  | m + 1, s, r, hs, h => by
    refine fcs_keep (P + 1) 0 (fun c2 _ _ => ?_)
    exact full_keep m (s + 1) (upr r s c2) (by omega) (fun r2 hr => h r2 (fun i hi => by
      have := hr i (by omega)
      rw [upr_n (by omega)] at this
      exact this))
/-- not better any more -/
theorem keep_b {P n0 gp n m s : Nat} {r : Nat → Nat} {acc : Acc} (hs : s + m = n) (h : ∃ a, acc = some a ∧ (a.1 < chg r s ∨ (a.1 = chg r s ∧ hld r P s + m ≤ a.2.1))) : full P n0 gp n m s r acc = acc := by
  refine full_keep m s r hs (fun r2 hr hx => ?_)
  obtain ⟨a, rfl, h⟩ := h
  have h1 : chg r s ≤ chg r2 n := by
    rw [← chg_cg s hr, ← hs]
    exact chg_mono m
  have h2 : hld r2 P n ≤ hld r P s + m := by
    rw [← hld_cg s hr, ← hs]
    exact hld_le m
  rcases hx.2 with h3 | ⟨h3, h4⟩ <;> omega
theorem keep_g {P n0 gp n m s q : Nat} {r : Nat → Nat} {acc : Acc} (hs : s + m = n) (h0 : 0 < s) (hq : q < P) (h : gp < gon r q s) : full P n0 gp n m s r acc = acc := by
  refine full_keep m s r hs (fun r2 hr hx => ?_)
  have h1 := hx.1.1 (s - 1) (by omega) q hq
  rw [show s - 1 + 1 = s by omega, gon_cg s hr] at h1
  omega
theorem keep_m {P n0 gp n m s : Nat} {r : Nat → Nat} {acc : Acc} (hs : s + m = n) (h : m < mis r n0 s P) : full P n0 gp n m s r acc = acc := by
  refine full_keep m s r hs (fun r2 hr hx => ?_)
  have h1 := (mis_0 (r := r2) (n0 := n0) (k := n) P).mpr hx.1.2.1
  have h2 := mis_mono (r := r2) (n0 := n0) (k := s) (m := P) m
  rw [hs, mis_cg hr] at h2
  omega
