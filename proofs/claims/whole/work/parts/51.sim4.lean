section
/-! the start is related -/
section SX
set_option maxRecDepth 100000 in
theorem RT_start : RT g00 (g00 216) := by
  have z17 : ∀ i, i < 126 → g00 17 i = 0 := by decide +kernel
  have z18 : ∀ i, i < 126 → g00 18 i = 0 := by decide +kernel
  have z7 : ∀ i, i < 10 → g00 7 i = 0 ∧ g00 8 i = 0 := by decide +kernel
  have su : ∀ (k3 f : Nat → Int32) (K : Int32), (∀ i, i < 10 → f i = 0) → (0 : Int32) = sumTo (fun n => if k3 n = K then f n else 0) 10 := fun k3 f K h => (sumTo_z (fun i hi => by rw [h i hi, ite_self])).symm
  refine ⟨0, 0, 0, 0, 0, 0, 0, RTn.mk ?_ ?_ ?_ ?_⟩
  · apply RNet.mk
    case hN => decide +kernel
    case hC => decide +kernel
    case hQ => decide +kernel
    case cN => decide +kernel
    case aN => decide +kernel
    case cC => decide +kernel
    case aC => decide +kernel
    case cQ => decide +kernel
    case aQ => decide +kernel
    case kind => decide +kernel
    case size => decide +kernel
    case gate => decide +kernel
    case kep0 => decide +kernel
    case kep1 => decide +kernel
    case frm => decide +kernel
    case to => decide +kernel
    case low => decide +kernel
    case hig => decide +kernel
    case trv => decide +kernel
    case brd => decide +kernel
    case brk => decide +kernel
    case way0 => decide +kernel
    case way1 => decide +kernel
    case gateV => exact fun n hn => absurd hn (by omega)
    case ends => exact fun n hn => absurd hn (by omega)
    case lowV => exact fun n hn => absurd hn (by omega)
    case higV => exact fun n hn => absurd hn (by omega)
    case trvV => exact fun n hn => absurd hn (by omega)
    case brdV => exact fun n hn => absurd hn (by omega)
    case brkV => decide +kernel
    case kindV => exact fun n hn => absurd hn (by omega)
    case kepZ => exact fun n _ hn => z7 n hn
    case brkZ => exact fun n _ hn => (show ∀ n, n < 14 → g00 15 n = 0 by decide +kernel) n hn
    case wayZ => exact fun n _ hn => ⟨z17 n hn, z18 n hn⟩
    case su00 => exact (show g00 216 10 = 0 by decide +kernel).trans (su _ _ _ (fun i hi => (z7 i hi).1))
    case su01 => exact (show g00 216 11 = 0 by decide +kernel).trans (su _ _ _ (fun i hi => (z7 i hi).1))
    case su02 => exact (show g00 216 12 = 0 by decide +kernel).trans (su _ _ _ (fun i hi => (z7 i hi).1))
    case su03 => exact (show g00 216 13 = 0 by decide +kernel).trans (sumTo_z z17).symm
    case su04 => decide +kernel
    case su05 => decide +kernel
    case su06 => decide +kernel
    case su10 => exact (show g00 216 17 = 0 by decide +kernel).trans (su _ _ _ (fun i hi => (z7 i hi).2))
    case su11 => exact (show g00 216 18 = 0 by decide +kernel).trans (su _ _ _ (fun i hi => (z7 i hi).2))
    case su12 => exact (show g00 216 19 = 0 by decide +kernel).trans (su _ _ _ (fun i hi => (z7 i hi).2))
    case su13 => exact (show g00 216 20 = 0 by decide +kernel).trans (sumTo_z z18).symm
    case su14 => decide +kernel
    case su15 => decide +kernel
    case su16 => decide +kernel
  · apply RRig.mk
    case hD => decide +kernel
    case cD => decide +kernel
    case aD => decide +kernel
    case home => decide +kernel
    case homeV => exact fun n hn => Or.inl ((show ∀ n, n < 8 → g00 23 n = -1 by decide +kernel) n hn)
    case d0 => decide +kernel
    case d1 => decide +kernel
    case d2 => decide +kernel
    case d3 => decide +kernel
    case d4 => decide +kernel
    case d5 => decide +kernel
    case dFL => exact fun n hn => absurd hn (by omega)
    case dW => exact fun n hn => absurd hn (by omega)
    case dS => exact fun n hn => absurd hn (by omega)
    case dY => exact fun n hn => absurd hn (by omega)
    case dV => exact fun n hn => absurd hn (by omega)
    case cR => decide +kernel
    case aR => decide +kernel
    case runs => decide +kernel
    case runV => exact fun n hn => Or.inr ⟨0, by decide, (show ∀ n, n < 2400 → g00 30 n = nn 0 by decide +kernel) n hn⟩
  · apply RLaw.mk
    case hT => decide +kernel
    case hL => decide +kernel
    case cT => decide +kernel
    case aT => decide +kernel
    case tape => decide +kernel
    case tapeV => exact fun n hn => ⟨0, (show ∀ n, n < 500 → g00 32 n = Int8.toInt32 0 by decide +kernel) n hn⟩
    case fk => decide +kernel
    case fp => decide +kernel
    case dry => decide +kernel
    case dryV => decide +kernel
    case cL => decide +kernel
    case aL => decide +kernel
    case ln => exact fun n hn => absurd hn (by omega)
  · apply RGau.mk
    case hG => decide +kernel
    case cG => decide +kernel
    case aG => decide +kernel
    case g0 => decide +kernel
    case g1 => decide +kernel
    case g2 => decide +kernel
    case g3 => decide +kernel
    case gC => exact fun n hn => absurd hn (by omega)
    case gQ => exact fun n hn => absurd hn (by omega)
    case gI => exact fun n hn => absurd hn (by omega)
    case gO => exact fun n hn => absurd hn (by omega)
theorem RI_start : RI g00 := by
  intro k hk
  have h1 : ∀ k, k < 3 → g00 217 k = g00 186 k := by decide +kernel
  have h2 : ∀ k, k < 3 → g00 186 k = 0 := by decide +kernel
  refine ⟨h1 k hk, Or.inl (h2 k hk), fun e => ?_⟩
  rw [h2 k hk] at e
  exact absurd e (by decide)
end SX
end
section
/-! laid turns: all rows in their order, and what is kept -/
def upr (r : Nat → Nat) (i v : Nat) : Nat → Nat := fun j => if j = i then v else r j
theorem upr_e {r : Nat → Nat} {i v : Nat} : upr r i v i = v := if_pos rfl
theorem upr_n {r : Nat → Nat} {i j v : Nat} (h : j ≠ i) : upr r i v j = r j := if_neg h
/-- in the first k slots: changes, slots of q, nights of q, slots since the last of q -/
def chg (r : Nat → Nat) : Nat → Nat
  | 0 => 0
  | k + 1 => chg r k + (if 0 < k ∧ ¬ r k = r (k - 1) then 1 else 0)
def hld (r : Nat → Nat) (q : Nat) : Nat → Nat
  | 0 => 0
  | k + 1 => hld r q k + (if r k = q then 1 else 0)
def ngs (r : Nat → Nat) (q : Nat) : Nat → Nat
  | 0 => 0
  | k + 1 => ngs r q k + (if r k = q then k % 2 else 0)
def gon (r : Nat → Nat) (q : Nat) : Nat → Nat
  | 0 => 0
  | k + 1 => if r k = q then 0 else gon r q k + 1
theorem chg_cg {r r2 : Nat → Nat} : ∀ k, (∀ i, i < k → r2 i = r i) → chg r2 k = chg r k
  | 0, _ => rfl
  | k + 1, h => by
    show chg r2 k + (if 0 < k ∧ ¬ r2 k = r2 (k - 1) then 1 else 0) = _
    rw [chg_cg k (fun i hi => h i (by omega)), h k (by omega), h (k - 1) (by omega)]
    rfl
theorem hld_cg {r r2 : Nat → Nat} {q : Nat} : ∀ k, (∀ i, i < k → r2 i = r i) → hld r2 q k = hld r q k
  | 0, _ => rfl
  | k + 1, h => by
    show hld r2 q k + (if r2 k = q then 1 else 0) = _
    rw [hld_cg k (fun i hi => h i (by omega)), h k (by omega)]
    rfl
theorem ngs_cg {r r2 : Nat → Nat} {q : Nat} : ∀ k, (∀ i, i < k → r2 i = r i) → ngs r2 q k = ngs r q k
  | 0, _ => rfl
  | k + 1, h => by
    show ngs r2 q k + (if r2 k = q then k % 2 else 0) = _
    rw [ngs_cg k (fun i hi => h i (by omega)), h k (by omega)]
    rfl
theorem gon_cg {r r2 : Nat → Nat} {q : Nat} : ∀ k, (∀ i, i < k → r2 i = r i) → gon r2 q k = gon r q k
  | 0, _ => rfl
  | k + 1, h => by
    show (if r2 k = q then 0 else gon r2 q k + 1) = _
    rw [gon_cg k (fun i hi => h i (by omega)), h k (by omega)]
    rfl
theorem chg_mono {r : Nat → Nat} {k : Nat} : ∀ m, chg r k ≤ chg r (k + m)
  | 0 => Nat.le_refl _
  | m + 1 => Nat.le_trans (chg_mono m) (Nat.le_add_right _ _)
theorem hld_le {r : Nat → Nat} {q k : Nat} : ∀ m, hld r q (k + m) ≤ hld r q k + m
  | 0 => Nat.le_refl _
  | m + 1 => by
    have := hld_le (r := r) (q := q) (k := k) m
    show hld r q (k + m) + (if r (k + m) = q then 1 else 0) ≤ _
    split <;> omega
theorem chg_le {r : Nat → Nat} : ∀ k, chg r k ≤ k
  | 0 => Nat.le_refl _
  | k + 1 => by
    have := chg_le (r := r) k
    show chg r k + (if 0 < k ∧ ¬ r k = r (k - 1) then 1 else 0) ≤ _
    split <;> omega
theorem hld_le0 {r : Nat → Nat} {q k : Nat} : hld r q k ≤ k := by
  have := hld_le (r := r) (q := q) (k := 0) k
  rw [Nat.zero_add] at this
  have e : hld r q 0 = 0 := rfl
  omega
theorem ngs_le {r : Nat → Nat} {q : Nat} : ∀ k, ngs r q k ≤ hld r q k
  | 0 => Nat.le_refl _
  | k + 1 => by
    have := ngs_le (r := r) (q := q) k
    show ngs r q k + (if r k = q then k % 2 else 0) ≤ hld r q k + (if r k = q then 1 else 0)
    split <;> omega
theorem gon_le {r : Nat → Nat} {q : Nat} : ∀ k, gon r q k ≤ k
  | 0 => Nat.le_refl _
  | k + 1 => by
    have := gon_le (r := r) (q := q) k
    show (if r k = q then 0 else gon r q k + 1) ≤ _
    split <;> omega
/-- what is missing to the needs of the first m members -/
def mis (r : Nat → Nat) (n0 k : Nat) : Nat → Nat
  | 0 => 0
  | m + 1 => mis r n0 k m + (n0 - hld r m k)
theorem mis_cg {r r2 : Nat → Nat} {n0 k : Nat} (h : ∀ i, i < k → r2 i = r i) : ∀ m, mis r2 n0 k m = mis r n0 k m
  | 0 => rfl
  | m + 1 => by
    show mis r2 n0 k m + (n0 - hld r2 m k) = _
    rw [mis_cg h m, hld_cg k h]
    rfl
theorem mis_st {r : Nat → Nat} {n0 k : Nat} : ∀ m, mis r n0 k m ≤ mis r n0 (k + 1) m + (if r k < m then 1 else 0)
  | 0 => by
    show 0 ≤ _
    exact Nat.zero_le _
  | m + 1 => by
    have ih := mis_st (r := r) (n0 := n0) (k := k) m
    show mis r n0 k m + (n0 - hld r m k) ≤ mis r n0 (k + 1) m + (n0 - (hld r m k + (if r k = m then 1 else 0))) + (if r k < m + 1 then 1 else 0)
    by_cases e : r k = m
    · rw [if_neg (show ¬ r k < m by omega)] at ih
      rw [if_pos e, if_pos (show r k < m + 1 by omega)]
      omega
    · rw [if_neg e]
      by_cases e2 : r k < m
      · rw [if_pos e2] at ih
        rw [if_pos (show r k < m + 1 by omega)]
        omega
      · rw [if_neg e2] at ih
        rw [if_neg (show ¬ r k < m + 1 by omega)]
        omega
theorem mis_mono {r : Nat → Nat} {n0 k m : Nat} : ∀ j, mis r n0 k m ≤ mis r n0 (k + j) m + j
  | 0 => Nat.le_refl _
  | j + 1 => by
    have h1 := mis_mono (r := r) (n0 := n0) (k := k) (m := m) j
    have h2 := mis_st (r := r) (n0 := n0) (k := k + j) m
    have h3 : (if r (k + j) < m then 1 else 0) ≤ 1 := by split <;> omega
    rw [show k + (j + 1) = k + j + 1 by omega]
    omega
theorem mis_0 {r : Nat → Nat} {n0 k : Nat} : ∀ m, (mis r n0 k m = 0 ↔ ∀ q, q < m → n0 ≤ hld r q k)
  | 0 => ⟨fun _ q h => absurd h (Nat.not_lt_zero _), fun _ => rfl⟩
  | m + 1 => by
    have ih := mis_0 (r := r) (n0 := n0) (k := k) m
    show mis r n0 k m + (n0 - hld r m k) = 0 ↔ _
    constructor
    · intro h q hq
      by_cases e : q = m
      · rw [e]; omega
      · exact ih.mp (by omega) q (by omega)
    · intro h
      have h1 := ih.mpr (fun q hq => h q (by omega))
      have h2 := h m (by omega)
      omega
/-- no field too long dry in the first k slots -/
def okg (r : Nat → Nat) (P gp k : Nat) : Prop := ∀ i, i < k → ∀ q, q < P → gon r q (i + 1) ≤ gp
def even (r : Nat → Nat) (P n : Nat) : Prop := ∀ q q2, q < P → q2 < P → ngs r q n ≤ ngs r q2 n + 1
def okR (r : Nat → Nat) (P n0 gp n : Nat) : Prop := okg r P gp n ∧ (∀ q, q < P → n0 ≤ hld r q n) ∧ even r P n
abbrev Acc : Type := Option (Nat × Nat × (Nat → Nat))
def btr (acc : Acc) (c w : Nat) : Prop := match acc with
  | none => True
  | some a => c < a.1 ∨ (c = a.1 ∧ a.2.1 < w)
def row0 (r : Nat → Nat) (n : Nat) : Nat → Nat := fun i => if i < n then r i else 0
noncomputable def updA (P n0 gp n : Nat) (r : Nat → Nat) (acc : Acc) : Acc := by
  classical
  exact if okR r P n0 gp n ∧ btr acc (chg r n) (hld r P n) then some (chg r n, hld r P n, row0 r n) else acc
def fcs (f : Nat → Acc → Acc) : Nat → Nat → Acc → Acc
  | 0, _, acc => acc
  | k + 1, ch, acc => fcs f k (ch + 1) (f ch acc)
noncomputable def full (P n0 gp n : Nat) : Nat → Nat → (Nat → Nat) → Acc → Acc
  | 0, _, r, acc => updA P n0 gp n r acc
  | m + 1, s, r, acc => fcs (fun ch a => full P n0 gp n m (s + 1) (upr r s ch) a) (P + 1) 0 acc
theorem updA_n {P n0 gp n : Nat} {r : Nat → Nat} {acc : Acc} (h : ¬ (okR r P n0 gp n ∧ btr acc (chg r n) (hld r P n))) : updA P n0 gp n r acc = acc := if_neg h
theorem updA_y {P n0 gp n : Nat} {r : Nat → Nat} {acc : Acc} (h : okR r P n0 gp n ∧ btr acc (chg r n) (hld r P n)) : updA P n0 gp n r acc = some (chg r n, hld r P n, row0 r n) := if_pos h
theorem fcs_keep {f : Nat → Acc → Acc} {acc : Acc} : ∀ k ch, (∀ c2, ch ≤ c2 → c2 < ch + k → f c2 acc = acc) → fcs f k ch acc = acc
  | 0, _, _ => rfl
  | k + 1, ch, h => by
    show fcs f k (ch + 1) (f ch acc) = acc
    rw [h ch (Nat.le_refl _) (by omega)]
    exact fcs_keep k (ch + 1) (fun c2 h1 h2 => h c2 (by omega) (by omega))
theorem full_keep {P n0 gp n : Nat} {acc : Acc} : ∀ m s r, s + m = n → (∀ r2, (∀ i, i < s → r2 i = r i) → ¬ (okR r2 P n0 gp n ∧ btr acc (chg r2 n) (hld r2 P n))) → full P n0 gp n m s r acc = acc
  | 0, s, r, _, h => updA_n (h r (fun _ _ => rfl))
  | m + 1, s, r, hs, h => by
    refine fcs_keep (P + 1) 0 (fun c2 _ _ => ?_)
    exact full_keep m (s + 1) (upr r s c2) (by omega) (fun r2 hr => h r2 (fun i hi => by
      have := hr i (by omega)
      rw [upr_n (by omega)] at this
      exact this))
/-- not better any more -/
theorem keep_b {P n0 gp n m s : Nat} {r : Nat → Nat} {acc : Acc} (hs : s + m = n) (h : ∃ a, acc = some a ∧ (a.1 < chg r s ∨ (a.1 = chg r s ∧ hld r P s + m ≤ a.2.1))) : full P n0 gp n m s r acc = acc := by
  refine full_keep m s r hs (fun r2 hr hx => ?_)
  obtain ⟨a, rfl, h⟩ := h
  have h1 : chg r s ≤ chg r2 n := by
    rw [← chg_cg s hr, ← hs]
    exact chg_mono m
  have h2 : hld r2 P n ≤ hld r P s + m := by
    rw [← hld_cg s hr, ← hs]
    exact hld_le m
  rcases hx.2 with h3 | ⟨h3, h4⟩ <;> omega
theorem keep_g {P n0 gp n m s q : Nat} {r : Nat → Nat} {acc : Acc} (hs : s + m = n) (h0 : 0 < s) (hq : q < P) (h : gp < gon r q s) : full P n0 gp n m s r acc = acc := by
  refine full_keep m s r hs (fun r2 hr hx => ?_)
  have h1 := hx.1.1 (s - 1) (by omega) q hq
  rw [show s - 1 + 1 = s by omega, gon_cg s hr] at h1
  omega
theorem keep_m {P n0 gp n m s : Nat} {r : Nat → Nat} {acc : Acc} (hs : s + m = n) (h : m < mis r n0 s P) : full P n0 gp n m s r acc = acc := by
  refine full_keep m s r hs (fun r2 hr hx => ?_)
  have h1 := (mis_0 (r := r2) (n0 := n0) (k := n) P).mpr hx.1.2.1
  have h2 := mis_mono (r := r2) (n0 := n0) (k := s) (m := P) m
  rw [hs, mis_cg hr] at h2
  omega
end
section
/-! laid turns: the class's search -/
def ARep (S : Sg) (n : Nat) (acc : Acc) : Prop := (acc = none ∧ S 208 6 = 0) ∨ ∃ a, acc = some a ∧ S 208 6 = 1 ∧ S 208 0 = nn a.1 ∧ S 208 1 = nn a.2.1 ∧ (∀ i, i < n → S 211 i = nn (a.2.2 i)) ∧ a.1 ≤ 8 ∧ a.2.1 ≤ 8
def CI (S : Sg) (n n0 gp P : Nat) (r : Nat → Nat) (s : Nat) (acc : Acc) : Prop := S 208 2 = nn n ∧ S 208 4 = nn n0 ∧ S 208 5 = nn gp ∧ S 208 7 = nn P ∧ ARep S n acc ∧ (∀ i, i < s → S 210 i = nn (r i)) ∧ ∀ q, q < P → S 212 q = nn (hld r q s) ∧ S 213 q = nn (ngs r q s) ∧ S 214 q = Int32.ofInt ((s : Int) - 1 - gon r q s)
def FT (S S2 : Sg) : Prop := (∀ i, i ≠ 208 → i ≠ 210 → i ≠ 211 → i ≠ 212 → i ≠ 213 → i ≠ 214 → S2 i = S i) ∧ ∀ j, j ≠ 0 → j ≠ 1 → j ≠ 6 → S2 208 j = S 208 j
theorem FT.r {S : Sg} : FT S S := ⟨fun _ _ _ _ _ _ _ => rfl, fun _ _ _ _ => rfl⟩
theorem FT.t {S S2 S3 : Sg} (h : FT S S2) (h2 : FT S2 S3) : FT S S3 := ⟨fun i a b c d e f => (h2.1 i a b c d e f).trans (h.1 i a b c d e f), fun j a b c => (h2.2 j a b c).trans (h.2 j a b c)⟩
theorem FT.w {S : Sg} {c i : Nat} {v : Int32} (h : c = 210 ∨ c = 211 ∨ c = 212 ∨ c = 213 ∨ c = 214) : FT S (up2 S c i v) := ⟨fun j a b c d e f => u2n (by omega), fun j _ _ _ => by rw [u2n (by omega)]⟩
theorem FT.w8 {S : Sg} {i : Nat} {v : Int32} (h : i = 0 ∨ i = 1 ∨ i = 6) : FT S (up2 S 208 i v) := ⟨fun j a _ _ _ _ _ => u2n a, fun j a b c => by rw [u2e, up1_ne (by omega)]⟩
def pot (acc : Acc) (c w m : Nat) : Prop := acc = none ∨ ∃ a, acc = some a ∧ (c < a.1 ∨ (c = a.1 ∧ a.2.1 < w + m))
def mnF (f : Nat → Nat) : Nat → Nat
  | 0 => 8
  | k + 1 => if f k < mnF f k then f k else mnF f k
def mxF (f : Nat → Nat) : Nat → Nat
  | 0 => 0
  | k + 1 => if mxF f k < f k then f k else mxF f k
theorem mn_p {f : Nat → Nat} : ∀ k, (∀ q, q < k → mnF f k ≤ f q) ∧ (mnF f k = 8 ∨ ∃ q, q < k ∧ mnF f k = f q) ∧ mnF f k ≤ 8
  | 0 => ⟨fun q h => absurd h (Nat.not_lt_zero _), Or.inl rfl, Nat.le_refl _⟩
  | k + 1 => by
    obtain ⟨h1, h2, h3⟩ := mn_p (f := f) k
    by_cases e : f k < mnF f k
    · rw [show mnF f (k + 1) = f k from if_pos e]
      refine ⟨fun q hq => ?_, Or.inr ⟨k, Nat.lt_succ_self _, rfl⟩, by omega⟩
      by_cases e2 : q = k
      · rw [e2]; exact Nat.le_refl _
      · have := h1 q (by omega)
        omega
    · rw [show mnF f (k + 1) = mnF f k from if_neg e]
      refine ⟨fun q hq => ?_, ?_, h3⟩
      · by_cases e2 : q = k
        · rw [e2]; omega
        · exact h1 q (by omega)
      · rcases h2 with h2 | ⟨q, q1, q2⟩
        · exact Or.inl h2
        · exact Or.inr ⟨q, by omega, q2⟩
theorem mx_p {f : Nat → Nat} : ∀ k, (∀ q, q < k → f q ≤ mxF f k) ∧ (mxF f k = 0 ∨ ∃ q, q < k ∧ mxF f k = f q)
  | 0 => ⟨fun q h => absurd h (Nat.not_lt_zero _), Or.inl rfl⟩
  | k + 1 => by
    obtain ⟨h1, h2⟩ := mx_p (f := f) k
    by_cases e : mxF f k < f k
    · rw [show mxF f (k + 1) = f k from if_pos e]
      refine ⟨fun q hq => ?_, Or.inr ⟨k, Nat.lt_succ_self _, rfl⟩⟩
      by_cases e2 : q = k
      · rw [e2]; exact Nat.le_refl _
      · have := h1 q (by omega)
        omega
    · rw [show mxF f (k + 1) = mxF f k from if_neg e]
      refine ⟨fun q hq => ?_, ?_⟩
      · by_cases e2 : q = k
        · rw [e2]; omega
        · exact h1 q (by omega)
      · rcases h2 with h2 | ⟨q, q1, q2⟩
        · exact Or.inl h2
        · exact Or.inr ⟨q, by omega, q2⟩
theorem even_mm {r : Nat → Nat} {P n : Nat} (hP : 0 < P) (hn : n ≤ 8) : even r P n ↔ mxF (fun q => ngs r q n) P ≤ mnF (fun q => ngs r q n) P + 1 := by
  obtain ⟨h1, h2, h3⟩ := mn_p (f := fun q => ngs r q n) P
  obtain ⟨k1, k2⟩ := mx_p (f := fun q => ngs r q n) P
  have hb : ∀ q, ngs r q n ≤ 8 := fun q => by
    have h1 := ngs_le (r := r) (q := q) n
    have h2 := hld_le0 (r := r) (q := q) (k := n)
    omega
  constructor
  · intro e
    rcases k2 with k2 | ⟨q, q1, q2⟩
    · omega
    · rcases h2 with h2 | ⟨q3, q4, q5⟩
      · have := hb q
        have q2 : mxF (fun q => ngs r q n) P = ngs r q n := q2
        omega
      · have := e q q3 q1 q4
        have q2 : mxF (fun q => ngs r q n) P = ngs r q n := q2
        have q5 : mnF (fun q => ngs r q n) P = ngs r q3 n := q5
        omega
  · intro e q q2 hq hq2
    have a1 : ngs r q n ≤ mxF (fun q => ngs r q n) P := k1 q hq
    have a2 : mnF (fun q => ngs r q n) P ≤ ngs r q2 n := h1 q2 hq2
    omega
section WR
variable {n n0 gp P : Nat}
theorem keepL {S : Sg} {f : Nat → Nat} (hP : P ≤ 4) (h7 : S 208 7 = nn P) (hf : ∀ q, q < P → S 213 q = nn (f q) ∧ f q ≤ 8) {c w : Int32} : ∀ m k F, k + m = P → m < F → turns_keep_9 F c w (nn (mnF f k)) (nn (mxF f k)) (nn k) S = if mxF f P ≤ mnF f P + 1 then some (cp2 (up2 (up2 (up2 S 208 6 1) 208 0 c) 208 1 w) 210 0 211 0 8) else some S := by
  have hb1 : ∀ k, mnF f k ≤ 8 := fun k => (mn_p k).2.2
  have hb2 : ∀ k, k ≤ P → mxF f k ≤ 8 := fun k hk => by
    rcases (mx_p (f := f) k).2 with e | ⟨q, q1, q2⟩
    · omega
    · have := (hf q (by omega)).2
      omega
  intro m
  induction m with
  | zero =>
    intro k F hk hF
    obtain ⟨F, rfl⟩ : ∃ F2, F = F2 + 1 := ⟨F - 1, by omega⟩
    have : k = P := by omega
    subst this
    have h1 := hb1 k
    have h2 := hb2 k (Nat.le_refl _)
    unfold turns_keep_9
    rw [h7]
    refine st_t (Int32.le_refl _) ?_
    have e : (1 : Int32) < nn (mxF f k) - nn (mnF f k) ↔ mnF f k + 1 < mxF f k := by
      rw [nn_ofI, nn_ofI, ← Int32.ofInt_sub, show (1 : Int32) = Int32.ofInt 1 from rfl, ofI_lt (by omega) (by omega) (by omega) (by omega)]
      omega
    by_cases q : mxF f k ≤ mnF f k + 1
    · rw [if_pos q]
      exact st_f (fun z => by have := e.mp z; omega) rfl
    · rw [if_neg q]
      exact st_t (e.mpr (by omega)) rfl
  | succ m ih =>
    intro k F hk hF
    obtain ⟨F, rfl⟩ : ∃ F2, F = F2 + 1 := ⟨F - 1, by omega⟩
    have h3 : ¬ P ≤ k := by omega
    have hk4 : k < 4 := by omega
    have hi : inb (nn k) 4 = true := by simp (disch := first | omega | decide) only [lt1, nnMl, nnMr, nnAl, nnAr, nnA, nnM, nnB, nnT, nnP, nnE, nnEl, nnEr, nnL, nnLl, nnLr, nnQ, nnQr, nnN, Nat.add_zero, if_false, if_true, Option.bind_some, not_true, not_false_iff, not_true_eq_false, not_false_eq_true, eq_self, Nat.not_lt_zero, z10, z01, or_true, true_or, or_false, false_or, true_and, false_and, hk4]
    obtain ⟨f1, f2⟩ := hf k (by omega)
    have h1 := hb1 k
    have h2 := hb2 k (by omega)
    have IH := ih (k + 1) F (by omega) (by omega)
    have e1 : (if nn (f k) < nn (mnF f k) then nn (f k) else nn (mnF f k)) = nn (mnF f (k + 1)) := by
      by_cases q : f k < mnF f k
      · rw [show mnF f (k + 1) = f k from if_pos q, if_pos (by rw [nnL (by omega) (by omega)]; exact q)]
      · rw [show mnF f (k + 1) = mnF f k from if_neg q, if_neg (by rw [nnL (by omega) (by omega)]; exact q)]
    have e2 : (if nn (mxF f k) < nn (f k) then nn (f k) else nn (mxF f k)) = nn (mxF f (k + 1)) := by
      by_cases q : mxF f k < f k
      · rw [show mxF f (k + 1) = f k from if_pos q, if_pos (by rw [nnL (by omega) (by omega)]; exact q)]
      · rw [show mxF f (k + 1) = mxF f k from if_neg q, if_neg (by rw [nnL (by omega) (by omega)]; exact q)]
    unfold turns_keep_9
    rw [h7, nnT (by omega), f1, e1, e2, show nn k + 1 = nn (k + 1) from nnA k 1]
    exact st_f (by simp (disch := first | omega | decide) only [lt1, nnMl, nnMr, nnAl, nnAr, nnA, nnM, nnB, nnT, nnP, nnE, nnEl, nnEr, nnL, nnLl, nnLr, nnQ, nnQr, nnN, Nat.add_zero, if_false, if_true, Option.bind_some, not_true, not_false_iff, not_true_eq_false, not_false_eq_true, eq_self, Nat.not_lt_zero, z10, z01, or_true, true_or, or_false, false_or, true_and, false_and, h3]) (st_w hi (st_w hi IH))
theorem keep_x {S : Sg} {r : Nat → Nat} {acc : Acc} (hP0 : 0 < P) (hP : P ≤ 4) (hn : n ≤ 8) (hS : CI S n n0 gp P r n acc) (hg : okg r P gp n) (hm : mis r n0 n P = 0) (hb : btr acc (chg r n) (hld r P n)) {F : Nat} (hF : 5 < F) : ∃ S2, turns_keep F (nn (chg r n)) (nn (hld r P n)) S = some S2 ∧ CI S2 n n0 gp P r n (updA P n0 gp n r acc) ∧ FT S S2 := by
  obtain ⟨c1, c2, c3, c4, c5, c6, c7⟩ := hS
  have hk := keepL (S := S) (f := fun q => ngs r q n) hP c4 (fun q hq => ⟨(c7 q hq).2.1, by
    have h1 := ngs_le (r := r) (q := q) n
    have h2 := hld_le0 (r := r) (q := q) (k := n)
    show ngs r q n ≤ 8
    omega⟩) (c := nn (chg r n)) (w := nn (hld r P n)) P 0 F (by omega) (by omega)
  have hk : turns_keep F (nn (chg r n)) (nn (hld r P n)) S = _ := hk
  by_cases q : mxF (fun q => ngs r q n) P ≤ mnF (fun q => ngs r q n) P + 1
  · rw [if_pos q] at hk
    have ok : okR r P n0 gp n := ⟨hg, (mis_0 P).mp hm, (even_mm hP0 hn).mpr q⟩
    refine ⟨_, hk, ?_, ?_⟩
    · rw [updA_y ⟨ok, hb⟩]
      have hcl := chg_le (r := r) n
      have hhl := hld_le0 (r := r) (q := P) (k := n)
      refine ⟨?_, ?_, ?_, ?_, Or.inr ⟨_, rfl, ?_, ?_, ?_, fun i hi => ?_, Nat.le_trans hcl hn, Nat.le_trans hhl hn⟩, fun i hi => ?_, fun q hq => ?_⟩
      · rw [cp_c (by decide)]; simp (disch := first | omega | decide) only [u2e, u2n, up1_eq, up1_ne, ne_eq, c1]
      · rw [cp_c (by decide)]; simp (disch := first | omega | decide) only [u2e, u2n, up1_eq, up1_ne, ne_eq, c2]
      · rw [cp_c (by decide)]; simp (disch := first | omega | decide) only [u2e, u2n, up1_eq, up1_ne, ne_eq, c3]
      · rw [cp_c (by decide)]; simp (disch := first | omega | decide) only [u2e, u2n, up1_eq, up1_ne, ne_eq, c4]
      · rw [cp_c (by decide)]; simp (disch := first | omega | decide) only [u2e, u2n, up1_eq, up1_ne, ne_eq]
      · rw [cp_c (by decide)]; simp (disch := first | omega | decide) only [u2e, u2n, up1_eq, up1_ne, ne_eq]
      · rw [cp_c (by decide)]; simp (disch := first | omega | decide) only [u2e, u2n, up1_eq, up1_ne, ne_eq]
      · have := cp_i (g := up2 (up2 (up2 S 208 6 1) 208 0 (nn (chg r n))) 208 1 (nn (hld r P n))) (a := 210) (i := 0) (b := 211) (j := 0) (n := 8) (k := i) (by omega)
        rw [Nat.zero_add] at this
        rw [this, u2n (by decide), u2n (by decide), u2n (by decide), c6 i hi]
        show nn (r i) = nn (row0 r n i)
        rw [show row0 r n i = r i from if_pos hi]
      · rw [cp_c (by decide), u2n (by decide), u2n (by decide), u2n (by decide)]; exact c6 i hi
      · rw [cp_c (by decide), cp_c (by decide), cp_c (by decide), u2n (by decide), u2n (by decide), u2n (by decide), u2n (by decide), u2n (by decide), u2n (by decide), u2n (by decide), u2n (by decide), u2n (by decide)]; exact c7 q hq
    · refine FT.t (FT.t (FT.t (FT.w8 (by omega)) (FT.w8 (by omega))) (FT.w8 (by omega))) ⟨fun i a b c d e f => cp_c c, fun j _ _ _ => by rw [cp_c (by decide)]⟩
  · rw [if_neg q] at hk
    refine ⟨S, hk, ?_, FT.r⟩
    rw [updA_n (fun h => q ((even_mm hP0 hn).mp h.1.2.2))]
    exact ⟨c1, c2, c3, c4, c5, c6, c7⟩
theorem cbb_x {S : Sg} {acc : Acc} {s c w m : Nat} (h2 : S 208 2 = nn n) (hA : ARep S n acc) (hs : s + 1 + m = n) (hn : n ≤ 8) (hc : c ≤ 9) (hw : w ≤ 9) : (pot acc c w m → turns_canBeBetter (nn s) (nn c) (nn w) S = some 1) ∧ (¬ pot acc c w m → turns_canBeBetter (nn s) (nn c) (nn w) S = some 0) := by
  unfold turns_canBeBetter
  rw [h2]
  rcases hA with ⟨rfl, e⟩ | ⟨a, rfl, e1, e2, e3, _, e4, e5⟩
  · exact ⟨fun _ => st_t e rfl, fun h => absurd (Or.inl rfl) h⟩
  · have hp : pot (some a) c w m ↔ (c < a.1 ∨ (c = a.1 ∧ a.2.1 < w + m)) := by
      constructor
      · rintro (h | ⟨a2, h, h3⟩)
        · cases h
        · cases h; exact h3
      · exact fun h => Or.inr ⟨a, rfl, h⟩
    rw [hp, e1, e2, e3]
    have ew : nn w + nn n - 1 - nn s = nn (w + m) := by
      rw [nnA, show (1 : Int32) = nn 1 from rfl, nnS (by omega), nnS (by omega)]
      congr 1
      omega
    rw [ew]
    constructor
    · intro h
      refine st_f (by decide) ?_
      by_cases q : a.1 ≤ c
      · refine st_t (by rw [nnE (by omega) (by omega)]; exact q) (st_f ?_ (st_f ?_ rfl))
        · rw [nnQ (by omega) (by omega)]; omega
        · rw [nnE (by omega) (by omega)]; omega
      · exact st_f (by rw [nnE (by omega) (by omega)]; exact q) rfl
    · intro h
      refine st_f (by decide) (st_t (by rw [nnE (by omega) (by omega)]; omega) ?_)
      by_cases q : c = a.1
      · exact st_f (fun z => z (by rw [q])) (st_t (by rw [nnE (by omega) (by omega)]; omega) rfl)
      · exact st_t (nnNe (by omega) (by omega) q) rfl
theorem suL {S : Sg} {r : Nat → Nat} {acc : Acc} {s m0 : Nat} (hP : P ≤ 4) (hn0 : n0 ≤ 4) (hgp : gp ≤ 7) (hS : CI S n n0 gp P r (s + 1) acc) (hs : s + 1 + m0 = n) (hn : n ≤ 8) : ∀ m k F, k + m = P → m < F → ((∀ q, k ≤ q → q < P → gon r q (s + 1) ≤ gp) ∧ mis r n0 (s + 1) P ≤ m0 → turns_standsUpTo_4 F (nn s) (nn (mis r n0 (s + 1) k)) (nn k) S = some 1) ∧ (¬ ((∀ q, k ≤ q → q < P → gon r q (s + 1) ≤ gp) ∧ mis r n0 (s + 1) P ≤ m0) → turns_standsUpTo_4 F (nn s) (nn (mis r n0 (s + 1) k)) (nn k) S = some 0) := by
  obtain ⟨c1, c2, c3, c4, c5, c6, c7⟩ := hS
  have hmis : ∀ k, mis r n0 (s + 1) k ≤ k * n0 := fun k => by
    induction k with
    | zero => exact Nat.zero_le _
    | succ k ih =>
      show mis r n0 (s + 1) k + (n0 - hld r k (s + 1)) ≤ (k + 1) * n0
      rw [Nat.succ_mul]
      omega
  have hmb : ∀ k, k ≤ 4 → mis r n0 (s + 1) k ≤ 16 := fun k hk => Nat.le_trans (hmis k) (Nat.le_trans (Nat.mul_le_mul hk hn0) (by decide))
  intro m
  induction m with
  | zero =>
    intro k F hk hF
    obtain ⟨F, rfl⟩ : ∃ F2, F = F2 + 1 := ⟨F - 1, by omega⟩
    have : k = P := by omega
    subst this
    have hb := hmb k hP
    unfold turns_standsUpTo_4
    rw [c4, c1]
    have e : nn n - 1 - nn s = nn m0 := by
      rw [show (1 : Int32) = nn 1 from rfl, nnS (by omega), nnS (by omega)]
      congr 1
      omega
    rw [e]
    constructor
    · rintro ⟨_, h⟩
      exact st_t (Int32.le_refl _) (st_f (by rw [nnL (by omega) (by omega)]; omega) rfl)
    · intro h
      refine st_t (Int32.le_refl _) (st_t ?_ rfl)
      rw [nnL (by omega) (by omega)]
      exact Nat.not_le.mp (fun q => h ⟨fun q h1 h2 => absurd h1 (by omega), q⟩)
  | succ m ih =>
    intro k F hk hF
    obtain ⟨F, rfl⟩ : ∃ F2, F = F2 + 1 := ⟨F - 1, by omega⟩
    have h3 : ¬ P ≤ k := by omega
    have hk4 : k < 4 := by omega
    have hi : inb (nn k) 4 = true := by simp (disch := first | omega | decide) only [lt1, nnMl, nnMr, nnAl, nnAr, nnA, nnM, nnB, nnT, nnP, nnE, nnEl, nnEr, nnL, nnLl, nnLr, nnQ, nnQr, nnN, Nat.add_zero, if_false, if_true, Option.bind_some, not_true, not_false_iff, not_true_eq_false, not_false_eq_true, eq_self, Nat.not_lt_zero, z10, z01, or_true, true_or, or_false, false_or, true_and, false_and, hk4]
    obtain ⟨d1, d2, d3⟩ := c7 k (by omega)
    have hgl := gon_le (r := r) (q := k) (s + 1)
    have hhl := hld_le0 (r := r) (q := k) (k := s + 1)
    have e1 : nn s - Int32.ofInt ((((s + 1 : Nat) : Int)) - 1 - gon r k (s + 1)) = nn (gon r k (s + 1)) := by
      rw [nn_ofI s, ← Int32.ofInt_sub, nn_ofI]
      congr 1
      omega
    have e2 : (if 0 < nn n0 - nn (hld r k (s + 1)) then nn n0 - nn (hld r k (s + 1)) else 0) = nn (n0 - hld r k (s + 1)) := by
      have e3 : nn n0 - nn (hld r k (s + 1)) = Int32.ofInt ((n0 : Int) - (hld r k (s + 1) : Nat)) := by
        rw [nn_ofI, nn_ofI, ← Int32.ofInt_sub]
      rw [e3]
      by_cases q : hld r k (s + 1) < n0
      · rw [if_pos (by rw [show (0 : Int32) = Int32.ofInt 0 from rfl, ofI_lt (by omega) (by omega) (by omega) (by omega)]; omega), nn_ofI]
        congr 1
        exact (Int.ofNat_sub (Nat.le_of_lt q)).symm
      · rw [if_neg (by rw [show (0 : Int32) = Int32.ofInt 0 from rfl, ofI_lt (by omega) (by omega) (by omega) (by omega)]; omega), show n0 - hld r k (s + 1) = 0 by omega]
        rfl
    obtain ⟨i1, i2⟩ := ih (k + 1) F (by omega) (by omega)
    unfold turns_standsUpTo_4
    rw [c4, c3, c2, nnT (show k < 2147483648 by omega), d1, d3, e1, e2, nnA, show nn k + 1 = nn (k + 1) from nnA k 1]
    by_cases q : gon r k (s + 1) ≤ gp
    · constructor
      · rintro ⟨h1, h2⟩
        exact st_f (by simp (disch := first | omega | decide) only [lt1, nnMl, nnMr, nnAl, nnAr, nnA, nnM, nnB, nnT, nnP, nnE, nnEl, nnEr, nnL, nnLl, nnLr, nnQ, nnQr, nnN, Nat.add_zero, if_false, if_true, Option.bind_some, not_true, not_false_iff, not_true_eq_false, not_false_eq_true, eq_self, Nat.not_lt_zero, z10, z01, or_true, true_or, or_false, false_or, true_and, false_and, h3]) (st_t hi (st_t (by rw [nnE (by omega) (by omega)]; exact q) (st_t hi (st_l (i1 ⟨fun q2 a b => h1 q2 (by omega) b, h2⟩)))))
      · intro h
        refine st_f (by simp (disch := first | omega | decide) only [lt1, nnMl, nnMr, nnAl, nnAr, nnA, nnM, nnB, nnT, nnP, nnE, nnEl, nnEr, nnL, nnLl, nnLr, nnQ, nnQr, nnN, Nat.add_zero, if_false, if_true, Option.bind_some, not_true, not_false_iff, not_true_eq_false, not_false_eq_true, eq_self, Nat.not_lt_zero, z10, z01, or_true, true_or, or_false, false_or, true_and, false_and, h3]) (st_t hi (st_t (by rw [nnE (by omega) (by omega)]; exact q) (st_t hi (st_l (i2 (fun h2 => h ⟨fun q2 a b => ?_, h2.2⟩))))))
        by_cases e : q2 = k
        · rw [e]; exact q
        · exact h2.1 q2 (by omega) b
    · constructor
      · rintro ⟨h1, h2⟩
        exact absurd (h1 k (Nat.le_refl _) (by omega)) q
      · intro h
        exact st_f (by simp (disch := first | omega | decide) only [lt1, nnMl, nnMr, nnAl, nnAr, nnA, nnM, nnB, nnT, nnP, nnE, nnEl, nnEr, nnL, nnLl, nnLr, nnQ, nnQr, nnN, Nat.add_zero, if_false, if_true, Option.bind_some, not_true, not_false_iff, not_true_eq_false, not_false_eq_true, eq_self, Nat.not_lt_zero, z10, z01, or_true, true_or, or_false, false_or, true_and, false_and, h3]) (st_t hi (st_f (by rw [nnE (by omega) (by omega)]; exact q) rfl))
theorem wP_y {ch : Nat} {g : Sg} (h : ch < P) (hP : P ≤ 4) : x_within (nn ch) 0 (nn P - 1) g = some 1 := by
  rw [within_eq, if_pos ((rg1 (by omega)).mpr ⟨ch, h, rfl⟩)]
theorem wP_n {ch : Nat} {g : Sg} (h : P ≤ ch) (hch : ch ≤ 4) (hP : P ≤ 4) : x_within (nn ch) 0 (nn P - 1) g = some 0 := by
  rw [within_eq, if_neg (fun e => by
    obtain ⟨k, h1, h2⟩ := (rg1 (by omega)).mp e
    rw [nnQ (by omega) (by omega)] at h2
    omega)]
theorem ARep.cg {S S2 : Sg} {acc : Acc} (h : ARep S n acc) (h8 : S2 208 = S 208) (h11 : S2 211 = S 211) : ARep S2 n acc := by
  unfold ARep at *
  rw [h8, h11]
  exact h
theorem put_x {S : Sg} {r : Nat → Nat} {acc : Acc} {s ch : Nat} (hP : P ≤ 4) (hs : s < 8) (hch : ch ≤ P) (hS : CI S n n0 gp P r s acc) : ∃ b S2, turns_put (nn s) (nn ch) S = some (b, S2) ∧ CI S2 n n0 gp P (upr r s ch) (s + 1) acc ∧ FT S S2 ∧ S2 211 = S 211 ∧ (ch < P → b = Int32.ofInt ((s : Int) - 1 - gon r ch s)) := by
  obtain ⟨c1, c2, c3, c4, c5, c6, c7⟩ := hS
  have hi : inb (nn s) 8 = true := by simp (disch := first | omega | decide) only [lt1, nnMl, nnMr, nnAl, nnAr, nnA, nnM, nnB, nnT, nnP, nnE, nnEl, nnEr, nnL, nnLl, nnLr, nnQ, nnQr, nnN, Nat.add_zero, if_false, if_true, Option.bind_some, not_true, not_false_iff, not_true_eq_false, not_false_eq_true, eq_self, Nat.not_lt_zero, z10, z01, or_true, true_or, or_false, false_or, true_and, false_and, hs]
  have er : ∀ i, i < s → upr r s ch i = r i := fun i hi => upr_n (by omega)
  have ehl : ∀ q, hld (upr r s ch) q (s + 1) = hld r q s + (if ch = q then 1 else 0) := fun q => by
    show hld (upr r s ch) q s + (if upr r s ch s = q then 1 else 0) = _
    rw [hld_cg s er, upr_e]
  have eng : ∀ q, ngs (upr r s ch) q (s + 1) = ngs r q s + (if ch = q then s % 2 else 0) := fun q => by
    show ngs (upr r s ch) q s + (if upr r s ch s = q then s % 2 else 0) = _
    rw [ngs_cg s er, upr_e]
  have ego : ∀ q, gon (upr r s ch) q (s + 1) = if ch = q then 0 else gon r q s + 1 := fun q => by
    show (if upr r s ch s = q then 0 else gon (upr r s ch) q s + 1) = _
    rw [gon_cg s er, upr_e]
  have e10 : ∀ (X : Sg), X 210 = up1 (S 210) s (nn ch) → ∀ i, i < s + 1 → X 210 i = nn (upr r s ch i) := fun X hX i hi => by
    rw [hX]
    by_cases e : i = s
    · rw [e, up1_eq, upr_e]
    · rw [up1_ne e, upr_n e]; exact c6 i (by omega)
  by_cases hp : ch < P
  · obtain ⟨d1, d2, d3⟩ := c7 ch hp
    have h4 : ch < 4 := by omega
    have hi4 : inb (nn ch) 4 = true := by simp (disch := first | omega | decide) only [lt1, nnMl, nnMr, nnAl, nnAr, nnA, nnM, nnB, nnT, nnP, nnE, nnEl, nnEr, nnL, nnLl, nnLr, nnQ, nnQr, nnN, Nat.add_zero, if_false, if_true, Option.bind_some, not_true, not_false_iff, not_true_eq_false, not_false_eq_true, eq_self, Nat.not_lt_zero, z10, z01, or_true, true_or, or_false, false_or, true_and, false_and, h4]
    have em : nn s - nn s / 2 * 2 = nn (s % 2) := by
      have e : nn s / 2 * 2 = nn (s / 2 * 2) := by simp (disch := first | omega | decide) only [lt1, nnMl, nnMr, nnAl, nnAr, nnA, nnM, nnB, nnT, nnP, nnE, nnEl, nnEr, nnL, nnLl, nnLr, nnQ, nnQr, nnN, Nat.add_zero, if_false, if_true, Option.bind_some, not_true, not_false_iff, not_true_eq_false, not_false_eq_true, eq_self, Nat.not_lt_zero, z10, z01, or_true, true_or, or_false, false_or, true_and, false_and, nnDr]
      rw [e, nnS (a := s) (b := s / 2 * 2) (by omega), show s - s / 2 * 2 = s % 2 by omega]
    refine ⟨S 214 ch, up2 (up2 (up2 (up2 S 210 s (nn ch)) 214 ch (nn s)) 212 ch (S 212 ch + 1)) 213 ch (S 213 ch + nn (s % 2)), ?_, ⟨?_, ?_, ?_, ?_, ?_, ?_, ?_⟩, ?_, ?_, fun _ => d3⟩
    · unfold turns_put
      rw [nnT (show s < 2147483648 by omega), em]
      refine st_w hi (st_b (x := 1) ?_ (st_t (by decide) ?_))
      · rw [u2n (show 208 ≠ 210 by decide), c4]
        exact wP_y hp hP
      · rw [nnT (show ch < 2147483648 by omega), u2n (show 214 ≠ 210 by decide)]
        refine st_w hi4 (st_w hi4 (st_t hi4 (st_w hi4 (st_t hi4 (st_w hi4 ?_)))))
        rw [u2n (show 212 ≠ 214 by decide), u2n (show 212 ≠ 210 by decide), u2n (show 213 ≠ 212 by decide), u2n (show 213 ≠ 214 by decide), u2n (show 213 ≠ 210 by decide)]
    · simp (disch := first | omega | decide) only [u2e, u2n, up1_eq, up1_ne, ne_eq, c1]
    · simp (disch := first | omega | decide) only [u2e, u2n, up1_eq, up1_ne, ne_eq, c2]
    · simp (disch := first | omega | decide) only [u2e, u2n, up1_eq, up1_ne, ne_eq, c3]
    · simp (disch := first | omega | decide) only [u2e, u2n, up1_eq, up1_ne, ne_eq, c4]
    · exact c5.cg (by simp (disch := first | omega | decide) only [u2e, u2n, up1_eq, up1_ne, ne_eq]) (by simp (disch := first | omega | decide) only [u2e, u2n, up1_eq, up1_ne, ne_eq])
    · exact e10 _ (by simp (disch := first | omega | decide) only [u2e, u2n, up1_eq, up1_ne, ne_eq])
    · intro q hq
      obtain ⟨q1, q2, q3⟩ := c7 q hq
      have g1 := gon_le (r := r) (q := q) s
      rw [ehl, eng, ego, u2n (show 212 ≠ 213 by decide), u2e, u2e, u2n (show 214 ≠ 213 by decide), u2n (show 214 ≠ 212 by decide), u2e]
      by_cases e : q = ch
      · subst e
        rw [up1_eq, up1_eq, up1_eq, if_pos rfl, if_pos rfl, if_pos rfl, q1, q2]
        refine ⟨nnA _ 1, nnA _ _, ?_⟩
        rw [nn_ofI]
        congr 1
        omega
      · rw [up1_ne e, up1_ne e, up1_ne e, if_neg (fun z => e z.symm), if_neg (fun z => e z.symm), if_neg (fun z => e z.symm), u2n (show 212 ≠ 214 by decide), u2n (show 212 ≠ 210 by decide), u2n (show 213 ≠ 212 by decide), u2n (show 213 ≠ 214 by decide), u2n (show 213 ≠ 210 by decide), u2n (show 214 ≠ 210 by decide), q1, q2, q3]
        refine ⟨rfl, rfl, ?_⟩
        congr 1
        omega
    · exact ((FT.w (by omega)).t (FT.w (by omega))).t ((FT.w (by omega)).t (FT.w (by omega)))
    · simp (disch := first | omega | decide) only [u2e, u2n, up1_eq, up1_ne, ne_eq]
  · have hcP : ch = P := by omega
    refine ⟨-1, up2 S 210 s (nn ch), ?_, ⟨?_, ?_, ?_, ?_, ?_, ?_, ?_⟩, FT.w (by omega), u2n (by decide), fun h => absurd h hp⟩
    · unfold turns_put
      rw [nnT (show s < 2147483648 by omega)]
      refine st_w hi (st_b (x := 0) ?_ (st_f (by decide) rfl))
      rw [u2n (show 208 ≠ 210 by decide), c4]
      exact wP_n (by omega) (by omega) hP
    · simp (disch := first | omega | decide) only [u2e, u2n, up1_eq, up1_ne, ne_eq, c1]
    · simp (disch := first | omega | decide) only [u2e, u2n, up1_eq, up1_ne, ne_eq, c2]
    · simp (disch := first | omega | decide) only [u2e, u2n, up1_eq, up1_ne, ne_eq, c3]
    · simp (disch := first | omega | decide) only [u2e, u2n, up1_eq, up1_ne, ne_eq, c4]
    · exact c5.cg (by simp (disch := first | omega | decide) only [u2e, u2n, up1_eq, up1_ne, ne_eq]) (by simp (disch := first | omega | decide) only [u2e, u2n, up1_eq, up1_ne, ne_eq])
    · exact e10 _ u2e
    · intro q hq
      obtain ⟨q1, q2, q3⟩ := c7 q hq
      have e : ¬ ch = q := by omega
      rw [ehl, eng, ego, if_neg e, if_neg e, if_neg e, u2n (by decide), u2n (by decide), u2n (by decide), q1, q2, q3]
      refine ⟨rfl, rfl, ?_⟩
      congr 1
      omega
theorem back_x {S : Sg} {r : Nat → Nat} {acc : Acc} {s ch : Nat} {b : Int32} (hP : P ≤ 4) (hs : s < 8) (hch : ch ≤ P) (hS : CI S n n0 gp P (upr r s ch) (s + 1) acc) (hb : ch < P → b = Int32.ofInt ((s : Int) - 1 - gon r ch s)) : ∃ S2, turns_takeBack (nn s) (nn ch) b S = some S2 ∧ CI S2 n n0 gp P r s acc ∧ FT S S2 := by
  obtain ⟨c1, c2, c3, c4, c5, c6, c7⟩ := hS
  have er : ∀ i, i < s → upr r s ch i = r i := fun i hi => upr_n (by omega)
  have ehl : ∀ q, hld (upr r s ch) q (s + 1) = hld r q s + (if ch = q then 1 else 0) := fun q => by
    show hld (upr r s ch) q s + (if upr r s ch s = q then 1 else 0) = _
    rw [hld_cg s er, upr_e]
  have eng : ∀ q, ngs (upr r s ch) q (s + 1) = ngs r q s + (if ch = q then s % 2 else 0) := fun q => by
    show ngs (upr r s ch) q s + (if upr r s ch s = q then s % 2 else 0) = _
    rw [ngs_cg s er, upr_e]
  have ego : ∀ q, gon (upr r s ch) q (s + 1) = if ch = q then 0 else gon r q s + 1 := fun q => by
    show (if upr r s ch s = q then 0 else gon (upr r s ch) q s + 1) = _
    rw [gon_cg s er, upr_e]
  have e10 : ∀ i, i < s → S 210 i = nn (r i) := fun i hi => by
    have := c6 i (by omega)
    rw [upr_n (by omega)] at this
    exact this
  by_cases hp : ch < P
  · obtain ⟨d1, d2, d3⟩ := c7 ch hp
    have h4 : ch < 4 := by omega
    have hi4 : inb (nn ch) 4 = true := by simp (disch := first | omega | decide) only [lt1, nnMl, nnMr, nnAl, nnAr, nnA, nnM, nnB, nnT, nnP, nnE, nnEl, nnEr, nnL, nnLl, nnLr, nnQ, nnQr, nnN, Nat.add_zero, if_false, if_true, Option.bind_some, not_true, not_false_iff, not_true_eq_false, not_false_eq_true, eq_self, Nat.not_lt_zero, z10, z01, or_true, true_or, or_false, false_or, true_and, false_and, h4]
    have em : nn s - nn s / 2 * 2 = nn (s % 2) := by
      have e : nn s / 2 * 2 = nn (s / 2 * 2) := by simp (disch := first | omega | decide) only [lt1, nnMl, nnMr, nnAl, nnAr, nnA, nnM, nnB, nnT, nnP, nnE, nnEl, nnEr, nnL, nnLl, nnLr, nnQ, nnQr, nnN, Nat.add_zero, if_false, if_true, Option.bind_some, not_true, not_false_iff, not_true_eq_false, not_false_eq_true, eq_self, Nat.not_lt_zero, z10, z01, or_true, true_or, or_false, false_or, true_and, false_and, nnDr]
      rw [e, nnS (a := s) (b := s / 2 * 2) (by omega), show s - s / 2 * 2 = s % 2 by omega]
    refine ⟨up2 (up2 (up2 S 214 ch b) 212 ch (S 212 ch - 1)) 213 ch (S 213 ch - nn (s % 2)), ?_, ⟨?_, ?_, ?_, ?_, ?_, ?_, ?_⟩, ?_⟩
    · unfold turns_takeBack
      rw [c4, em, nnT (show ch < 2147483648 by omega)]
      refine st_b (wP_y hp hP) (st_f (by decide) (st_w hi4 (st_t hi4 (st_w hi4 (st_t hi4 (st_w hi4 ?_))))))
      rw [u2n (show 212 ≠ 214 by decide), u2n (show 213 ≠ 212 by decide), u2n (show 213 ≠ 214 by decide)]
    · simp (disch := first | omega | decide) only [u2e, u2n, up1_eq, up1_ne, ne_eq, c1]
    · simp (disch := first | omega | decide) only [u2e, u2n, up1_eq, up1_ne, ne_eq, c2]
    · simp (disch := first | omega | decide) only [u2e, u2n, up1_eq, up1_ne, ne_eq, c3]
    · simp (disch := first | omega | decide) only [u2e, u2n, up1_eq, up1_ne, ne_eq, c4]
    · exact c5.cg (by simp (disch := first | omega | decide) only [u2e, u2n, up1_eq, up1_ne, ne_eq]) (by simp (disch := first | omega | decide) only [u2e, u2n, up1_eq, up1_ne, ne_eq])
    · exact fun i hi => by rw [u2n (by decide), u2n (by decide), u2n (by decide)]; exact e10 i hi
    · intro q hq
      obtain ⟨q1, q2, q3⟩ := c7 q hq
      have g1 := gon_le (r := r) (q := q) s
      rw [ehl] at q1
      rw [eng] at q2
      rw [ego] at q3
      rw [u2n (show 212 ≠ 213 by decide), u2e, u2e, u2n (show 214 ≠ 213 by decide), u2n (show 214 ≠ 212 by decide), u2e]
      by_cases e : q = ch
      · subst e
        rw [if_pos rfl] at q1 q2
        rw [up1_eq, up1_eq, up1_eq, q1, q2, hb hp]
        refine ⟨nnS1 _, ?_, rfl⟩
        rw [nnS (by omega), Nat.add_sub_cancel]
      · rw [if_neg (fun z => e z.symm)] at q1 q2 q3
        rw [up1_ne e, up1_ne e, up1_ne e, u2n (show 212 ≠ 214 by decide), u2n (show 213 ≠ 212 by decide), u2n (show 213 ≠ 214 by decide), q1, q2, q3]
        refine ⟨rfl, rfl, ?_⟩
        congr 1
        omega
    · exact ((FT.w (by omega)).t (FT.w (by omega))).t (FT.w (by omega))
  · refine ⟨S, ?_, ⟨c1, c2, c3, c4, c5, e10, fun q hq => ?_⟩, FT.r⟩
    · unfold turns_takeBack
      rw [c4]
      exact st_b (wP_n (by omega) (by omega) hP) (st_t rfl rfl)
    · obtain ⟨q1, q2, q3⟩ := c7 q hq
      have e : ¬ ch = q := by omega
      rw [ehl, if_neg e] at q1
      rw [eng, if_neg e] at q2
      rw [ego, if_neg e] at q3
      refine ⟨q1, q2, q3.trans ?_⟩
      congr 1
      omega
theorem place_y (hP0 : 0 < P) (hP : P ≤ 4) (hn : n ≤ 8) (hn1 : 0 < n) (hn0 : n0 ≤ 4) (hgp : gp ≤ 7) {F : Nat} (hF : 10 < F) : ∀ m s r acc S D, s + m = n → m < D → CI S n n0 gp P r s acc → (∀ i, i < s → r i ≤ P) → okg r P gp s → (s = 0 ∨ mis r n0 s P ≤ m) → (0 < m ∨ pot acc (chg r s) (hld r P s) 0) → ∃ S2, turns_place F D (nn s) (nn (chg r s)) (nn (hld r P s)) S = some S2 ∧ CI S2 n n0 gp P r s (full P n0 gp n m s r acc) ∧ FT S S2 := by
  intro m
  induction m with
  | zero =>
    intro s r acc S D hs hD hS hr hg hm hp
    obtain ⟨D, rfl⟩ : ∃ F2, D = F2 + 1 := ⟨D - 1, by omega⟩
    have : s = n := by omega
    subst this
    have hb : btr acc (chg r s) (hld r P s) := by
      rcases hp with h | h | ⟨a, h, h2⟩
      · omega
      · rw [h]; exact True.intro
      · rw [h]
        show chg r s < a.1 ∨ (chg r s = a.1 ∧ a.2.1 < hld r P s)
        omega
    obtain ⟨S2, r1, r2, r3⟩ := keep_x hP0 hP hn hS hg (by omega) hb (F := F) (by omega)
    refine ⟨S2, ?_, r2, r3⟩
    unfold turns_place
    refine st_l ?_
    rw [hS.1]
    exact st_t (Int32.le_refl _) (st_b r1 rfl)
  | succ m ih =>
    intro s r acc S D hs hD hS hr hg hm hp
    obtain ⟨D, rfl⟩ : ∃ F2, D = F2 + 1 := ⟨D - 1, by omega⟩
    have hs8 : s < 8 := by omega
    have hcl := chg_le (r := r) s
    have hhl := hld_le0 (r := r) (q := P) (k := s)
    -- over the choices
    have loop : ∀ k ch acc S G, ch + k = P + 1 → k < G → CI S n n0 gp P r s acc → ∃ S2, turns_place_24 F (turns_place F D) G (nn s) (nn (chg r s)) (nn (hld r P s)) (nn ch) S = some S2 ∧ CI S2 n n0 gp P r s (fcs (fun ch a => full P n0 gp n m (s + 1) (upr r s ch) a) k ch acc) ∧ FT S S2 := by
      intro k
      induction k with
      | zero =>
        intro ch acc S G hc hG hS
        obtain ⟨G, rfl⟩ : ∃ F2, G = F2 + 1 := ⟨G - 1, by omega⟩
        refine ⟨S, ?_, hS, FT.r⟩
        unfold turns_place_24
        rw [hS.2.2.2.1]
        exact if_pos (by rw [nnL (by omega) (by omega)]; omega)
      | succ k ihk =>
        intro ch acc S G hc hG hS
        obtain ⟨G, rfl⟩ : ∃ F2, G = F2 + 1 := ⟨G - 1, by omega⟩
        have hch : ch ≤ P := by omega
        have er : ∀ i, i < s → upr r s ch i = r i := fun i hi => upr_n (by omega)
        have ecg : chg (upr r s ch) (s + 1) = chg r s + (if 0 < s ∧ ¬ ch = r (s - 1) then 1 else 0) := by
          show chg (upr r s ch) s + (if 0 < s ∧ ¬ upr r s ch s = upr r s ch (s - 1) then 1 else 0) = _
          rw [chg_cg s er, upr_e]
          by_cases e : 0 < s
          · rw [upr_n (show s - 1 ≠ s by omega)]
          · rw [if_neg (fun z => e z.1), if_neg (fun z => e z.1)]
        have ehl : hld (upr r s ch) P (s + 1) = hld r P s + (if ch = P then 1 else 0) := by
          show hld (upr r s ch) P s + (if upr r s ch s = P then 1 else 0) = _
          rw [hld_cg s er, upr_e]
        have hcl2 := chg_le (r := upr r s ch) (s + 1)
        have hhl2 := hld_le0 (r := upr r s ch) (q := P) (k := s + 1)
        -- what the code does with one choice, once changes and wheels are reckoned
        have one : ∃ S2, turns_place_87 F (turns_place F D) (fun v1 v2 v3 v4 g0 => turns_place_24 F (turns_place F D) G v1 v2 v3 v4 g0) (nn s) (nn (chg r s)) (nn (hld r P s)) (nn ch) (nn (chg (upr r s ch) (s + 1))) (nn (hld (upr r s ch) P (s + 1))) S = some S2 ∧ CI S2 n n0 gp P r s (fcs (fun ch a => full P n0 gp n m (s + 1) (upr r s ch) a) k (ch + 1) (full P n0 gp n m (s + 1) (upr r s ch) acc)) ∧ FT S S2 := by
          obtain ⟨b1, b2⟩ := cbb_x (s := s) (c := chg (upr r s ch) (s + 1)) (w := hld (upr r s ch) P (s + 1)) (m := m) hS.1 hS.2.2.2.2.1 (by omega) hn (by omega) (by omega)
          have e1 : nn ch + 1 = nn (ch + 1) := nnA ch 1
          by_cases q : pot acc (chg (upr r s ch) (s + 1)) (hld (upr r s ch) P (s + 1)) m
          rotate_left
          · have hk : full P n0 gp n m (s + 1) (upr r s ch) acc = acc := by
              refine keep_b (by omega) ?_
              cases acc with
              | none => exact absurd (Or.inl rfl) q
              | some a =>
                refine ⟨a, rfl, ?_⟩
                have : ¬ (chg (upr r s ch) (s + 1) < a.1 ∨ (chg (upr r s ch) (s + 1) = a.1 ∧ a.2.1 < hld (upr r s ch) P (s + 1) + m)) := fun z => q (Or.inr ⟨a, rfl, z⟩)
                omega
            rw [hk]
            obtain ⟨S2, r1, r2, r3⟩ := ihk (ch + 1) acc S G (by omega) (by omega) hS
            refine ⟨S2, ?_, r2, r3⟩
            unfold turns_place_87
            rw [e1]
            exact st_b (b2 q) (st_t rfl r1)
          obtain ⟨b, S1, p1, p2, p3, _, p5⟩ := put_x hP hs8 hch hS
          obtain ⟨u1, u2⟩ := suL hP hn0 hgp p2 (show s + 1 + m = n by omega) hn P 0 F (by omega) (by omega)
          by_cases q2 : (∀ q, 0 ≤ q → q < P → gon (upr r s ch) q (s + 1) ≤ gp) ∧ mis (upr r s ch) n0 (s + 1) P ≤ m
          · obtain ⟨S2, r1, r2, r3⟩ := ih (s + 1) (upr r s ch) acc S1 D (by omega) (by omega) p2 (fun i hi => by
              by_cases e : i = s
              · rw [e, upr_e]; exact hch
              · rw [upr_n e]; exact hr i (by omega)) (fun i hi q hq => by
              by_cases e : i = s
              · rw [e]; exact q2.1 q (Nat.zero_le _) hq
              · rw [gon_cg (i + 1) (fun j hj => upr_n (by omega))]; exact hg i (by omega) q hq) (Or.inr q2.2) (by
              by_cases e : 0 < m
              · exact Or.inl e
              · rw [show m = 0 by omega] at q
                exact Or.inr q)
            obtain ⟨S3, t1, t2, t3⟩ := back_x hP hs8 hch r2 p5
            obtain ⟨S4, v1, v2, v3⟩ := ihk (ch + 1) _ S3 G (by omega) (by omega) t2
            refine ⟨S4, ?_, v2, ((p3.t r3).t t3).t v3⟩
            unfold turns_place_87 turns_place_129
            rw [e1, show nn s + 1 = nn (s + 1) from nnA s 1]
            exact st_b (b1 q) (st_f (by decide) (st_b p1 (st_b (o := turns_standsUpTo F (nn s) S1) (u1 q2) (st_f (by decide) (st_b r1 (st_b t1 v1))))))
          · have hk : full P n0 gp n m (s + 1) (upr r s ch) acc = acc := by
              by_cases q3 : mis (upr r s ch) n0 (s + 1) P ≤ m
              · have : ∃ q, q < P ∧ gp < gon (upr r s ch) q (s + 1) := by
                  refine Classical.byContradiction (fun z => q2 ⟨fun q _ hq => ?_, q3⟩)
                  exact Nat.not_lt.mp (fun z2 => z ⟨q, hq, z2⟩)
                obtain ⟨q, hq1, hq2⟩ := this
                exact keep_g (by omega) (by omega) hq1 hq2
              · exact keep_m (by omega) (by omega)
            rw [hk]
            obtain ⟨S3, t1, t2, t3⟩ := back_x hP hs8 hch p2 p5
            obtain ⟨S4, v1, v2, v3⟩ := ihk (ch + 1) acc S3 G (by omega) (by omega) t2
            refine ⟨S4, ?_, v2, (p3.t t3).t v3⟩
            unfold turns_place_87 turns_place_129
            rw [e1]
            exact st_b (b1 q) (st_f (by decide) (st_b p1 (st_b (o := turns_standsUpTo F (nn s) S1) (u2 q2) (st_t rfl (st_b t1 v1)))))
        obtain ⟨S2, o1, o2, o3⟩ := one
        refine ⟨S2, ?_, o2, o3⟩
        have o69 : ∀ z : Nat, z = chg (upr r s ch) (s + 1) → turns_place_69 F (turns_place F D) (fun v1 v2 v3 v4 g0 => turns_place_24 F (turns_place F D) G v1 v2 v3 v4 g0) (nn s) (nn (chg r s)) (nn (hld r P s)) (nn ch) (nn z) S = some S2 := fun z hz => by
          subst hz
          unfold turns_place_69
          rw [hS.2.2.2.1]
          by_cases e : ch = P
          · rw [ehl, if_pos e] at o1
            refine st_f (fun z => z (by rw [e])) ?_
            rw [show nn (hld r P s) + 1 = nn (hld r P s + 1) from nnA _ 1]
            exact o1
          · rw [ehl, if_neg e, Nat.add_zero] at o1
            exact st_t (nnNe (by omega) (by omega) e) o1
        unfold turns_place_24
        rw [hS.2.2.2.1]
        refine st_f (by rw [nnL (by omega) (by omega)]; omega) ?_
        unfold turns_place_54 turns_place_55
        by_cases e0 : s = 0
        · refine st_t (by rw [show (0 : Int32) = nn 0 from rfl, nnE (by omega) (by omega)]; omega) (st_t rfl ?_)
          exact o69 (chg r s) (by rw [ecg, if_neg (fun z => by omega), Nat.add_zero])
        · have hi : s - 1 < 8 := by omega
          refine st_f (by rw [show (0 : Int32) = nn 0 from rfl, nnE (by omega) (by omega)]; omega) ?_
          rw [nnM1 (by omega), nnT (by omega), hS.2.2.2.2.2.1 (s - 1) (by omega)]
          have hrb := hr (s - 1) (by omega)
          refine st_t (by simp (disch := first | omega | decide) only [lt1, nnMl, nnMr, nnAl, nnAr, nnA, nnM, nnB, nnT, nnP, nnE, nnEl, nnEr, nnL, nnLl, nnLr, nnQ, nnQr, nnN, Nat.add_zero, if_false, if_true, Option.bind_some, not_true, not_false_iff, not_true_eq_false, not_false_eq_true, eq_self, Nat.not_lt_zero, z10, z01, or_true, true_or, or_false, false_or, true_and, false_and, hi]) ?_
          by_cases e1 : ch = r (s - 1)
          · refine st_t (by rw [e1]) (st_t rfl ?_)
            exact o69 (chg r s) (by rw [ecg, if_neg (fun z => z.2 e1), Nat.add_zero])
          · refine st_f (nnNe (by omega) (by omega) (fun z => e1 z.symm)) (st_f (by decide) ?_)
            rw [show nn (chg r s) + 1 = nn (chg r s + 1) from nnA _ 1]
            exact o69 (chg r s + 1) (by rw [ecg, if_pos ⟨by omega, e1⟩])
    obtain ⟨S2, r1, r2, r3⟩ := loop (P + 1) 0 acc S F (by omega) (by omega) hS
    refine ⟨S2, ?_, r2, r3⟩
    unfold turns_place
    refine st_l ?_
    rw [hS.1]
    exact st_f (by rw [nnE (by omega) (by omega)]; omega) (st_t (by simp (disch := first | omega | decide) only [lt1, nnMl, nnMr, nnAl, nnAr, nnA, nnM, nnB, nnT, nnP, nnE, nnEl, nnEr, nnL, nnLl, nnLr, nnQ, nnQr, nnN, Nat.add_zero, if_false, if_true, Option.bind_some, not_true, not_false_iff, not_true_eq_false, not_false_eq_true, eq_self, Nat.not_lt_zero, z10, z01, or_true, true_or, or_false, false_or, true_and, false_and, hs8]) r1)
end WR
end
section
/-! laid turns: the model's search -/
def bestC (acc : Acc) : Nat := match acc with
  | none => 100
  | some a => a.1
def MRep (M : Sg) (n : Nat) (acc : Acc) : Prop := (acc = none ∧ M 215 31 = nn 100 ∧ M 215 32 = nn 0) ∨ ∃ a, acc = some a ∧ M 215 31 = nn a.1 ∧ M 215 32 = nn a.2.1 ∧ (∀ j, j < n → M 225 j = nn (a.2.2 j)) ∧ a.1 ≤ 8 ∧ a.2.1 ≤ 8
/-- rows of the prefix of length i, and of the next as far as p -/
def EI (M : Sg) (n P : Nat) (r : Nat → Nat) (i p : Nat) (acc : Acc) : Prop := M 215 30 = nn P ∧ MRep M n acc ∧ (∀ j, j < i → M 224 j = nn (r j)) ∧ (∀ k, k ≤ i → M 229 k = nn (chg r k) ∧ M 230 k = nn (hld r P k)) ∧ (∀ k q, k < i → q < P → M 226 (4 * k + q) = nn (gon r q k) ∧ M 227 (4 * k + q) = nn (hld r q k) ∧ M 228 (4 * k + q) = nn (ngs r q k)) ∧ ∀ q, q < p → M 226 (4 * i + q) = nn (gon r q i) ∧ M 227 (4 * i + q) = nn (hld r q i) ∧ M 228 (4 * i + q) = nn (ngs r q i)
def FTM (M M2 : Sg) : Prop := ∀ i, i ≠ 215 → (i < 224 ∨ 230 < i) → M2 i = M i
theorem FTM.r {M : Sg} : FTM M M := fun _ _ _ => rfl
theorem FTM.t {M M2 M3 : Sg} (h : FTM M M2) (h2 : FTM M2 M3) : FTM M M3 := fun i a b => (h2 i a b).trans (h i a b)
theorem FTM.w {M : Sg} {c i : Nat} {v : Int32} (h : c = 215 ∨ (224 ≤ c ∧ c ≤ 230)) : FTM M (up2 M c i v) := fun j a b => u2n (by omega)
def mn9 (f : Nat → Nat) : Nat → Nat
  | 0 => 9
  | k + 1 => if mn9 f k ≤ f k then mn9 f k else f k
def mx9 (f : Nat → Nat) : Nat → Nat
  | 0 => 0
  | k + 1 => if f k ≤ mx9 f k then mx9 f k else f k
theorem mn9_p {f : Nat → Nat} : ∀ k, (∀ q, q < k → mn9 f k ≤ f q) ∧ (mn9 f k = 9 ∨ ∃ q, q < k ∧ mn9 f k = f q) ∧ mn9 f k ≤ 9
  | 0 => ⟨fun q h => absurd h (Nat.not_lt_zero _), Or.inl rfl, Nat.le_refl _⟩
  | k + 1 => by
    obtain ⟨h1, h2, h3⟩ := mn9_p (f := f) k
    by_cases e : mn9 f k ≤ f k
    · rw [show mn9 f (k + 1) = mn9 f k from if_pos e]
      refine ⟨fun q hq => ?_, ?_, h3⟩
      · by_cases e2 : q = k
        · rw [e2]; exact e
        · exact h1 q (by omega)
      · rcases h2 with h2 | ⟨q, q1, q2⟩
        · exact Or.inl h2
        · exact Or.inr ⟨q, by omega, q2⟩
    · rw [show mn9 f (k + 1) = f k from if_neg e]
      refine ⟨fun q hq => ?_, Or.inr ⟨k, Nat.lt_succ_self _, rfl⟩, by omega⟩
      by_cases e2 : q = k
      · rw [e2]; exact Nat.le_refl _
      · have := h1 q (by omega)
        omega
theorem mx9_p {f : Nat → Nat} : ∀ k, (∀ q, q < k → f q ≤ mx9 f k) ∧ (mx9 f k = 0 ∨ ∃ q, q < k ∧ mx9 f k = f q)
  | 0 => ⟨fun q h => absurd h (Nat.not_lt_zero _), Or.inl rfl⟩
  | k + 1 => by
    obtain ⟨h1, h2⟩ := mx9_p (f := f) k
    by_cases e : f k ≤ mx9 f k
    · rw [show mx9 f (k + 1) = mx9 f k from if_pos e]
      refine ⟨fun q hq => ?_, ?_⟩
      · by_cases e2 : q = k
        · rw [e2]; exact e
        · exact h1 q (by omega)
      · rcases h2 with h2 | ⟨q, q1, q2⟩
        · exact Or.inl h2
        · exact Or.inr ⟨q, by omega, q2⟩
    · rw [show mx9 f (k + 1) = f k from if_neg e]
      refine ⟨fun q hq => ?_, Or.inr ⟨k, Nat.lt_succ_self _, rfl⟩⟩
      by_cases e2 : q = k
      · rw [e2]; exact Nat.le_refl _
      · have := h1 q (by omega)
        omega
theorem even_m9 {r : Nat → Nat} {P n : Nat} (hP : 0 < P) (hn : n ≤ 8) : even r P n ↔ mx9 (fun q => ngs r q n) P ≤ mn9 (fun q => ngs r q n) P + 1 := by
  obtain ⟨h1, h2, h3⟩ := mn9_p (f := fun q => ngs r q n) P
  obtain ⟨k1, k2⟩ := mx9_p (f := fun q => ngs r q n) P
  have hb : ∀ q, ngs r q n ≤ 8 := fun q => by
    have h1 := ngs_le (r := r) (q := q) n
    have h2 := hld_le0 (r := r) (q := q) (k := n)
    omega
  constructor
  · intro e
    rcases k2 with k2 | ⟨q, q1, q2⟩
    · omega
    · rcases h2 with h2 | ⟨q3, q4, q5⟩
      · have := hb q
        have q2 : mx9 (fun q => ngs r q n) P = ngs r q n := q2
        omega
      · have := e q q3 q1 q4
        have q2 : mx9 (fun q => ngs r q n) P = ngs r q n := q2
        have q5 : mn9 (fun q => ngs r q n) P = ngs r q3 n := q5
        omega
  · intro e q q2 hq hq2
    have a1 : ngs r q n ≤ mx9 (fun q => ngs r q n) P := k1 q hq
    have a2 : mn9 (fun q => ngs r q n) P ≤ ngs r q2 n := h1 q2 hq2
    omega
def stepB : Nat → Nat → Nat
  | 0, k => k + 1
  | m + 1, k => k * (stepB m 5 + 1) + 1
theorem stepB_k {m k k2 : Nat} (h : k ≤ k2) : stepB m k ≤ stepB m k2 := by
  cases m with
  | zero => exact Nat.succ_le_succ h
  | succ m => exact Nat.succ_le_succ (Nat.mul_le_mul_right _ h)
section WS
variable {n n0 gp P : Nat}
theorem MRep.cg {M M2 : Sg} {acc : Acc} (h : MRep M n acc) (h1 : M2 215 31 = M 215 31) (h2 : M2 215 32 = M 215 32) (h3 : M2 225 = M 225) : MRep M2 n acc := by
  unfold MRep at *
  rw [h1, h2, h3]
  exact h
theorem entL {r : Nat → Nat} {acc : Acc} {i ch : Nat} {A : Prop} (hP : P ≤ 4) (hi : i < 8) (hgp : gp ≤ 7) (hri : r i = ch) (hch : ch ≤ 4) : ∀ m p F (M : Sg), p + m = P → m < F → EI M n P r (i + 1) p acc → ∃ M2, m_enters_98 F (nn i) (nn gp) (b01 (A ∧ ∀ q, q < p → gon r q (i + 1) ≤ gp)) (nn p) M = some (b01 (A ∧ ∀ q, q < P → gon r q (i + 1) ≤ gp), M2) ∧ EI M2 n P r (i + 1) P acc ∧ FTM M M2 := by
  intro m
  induction m with
  | zero =>
    intro p F M hp hF hE
    obtain ⟨F, rfl⟩ : ∃ F2, F = F2 + 1 := ⟨F - 1, by omega⟩
    have : p = P := by omega
    subst this
    refine ⟨M, ?_, hE, FTM.r⟩
    unfold m_enters_98
    rw [hE.1]
    exact st_t (Int32.le_refl _) (st_t (b01v _) rfl)
  | succ m ih =>
    intro p F M hp hF hE
    obtain ⟨F, rfl⟩ : ∃ F2, F = F2 + 1 := ⟨F - 1, by omega⟩
    obtain ⟨c1, c2, c3, c4, c5, c6⟩ := hE
    have h3 : ¬ P ≤ p := by omega
    have x0 : 4 * i + p < 36 := by omega
    have x4 : 4 * (i + 1) + p < 36 := by omega
    obtain ⟨d1, d2, d3⟩ := c5 i p (by omega) (by omega)
    have e1 : 4 * nn i + nn p = nn (4 * i + p) := by simp (disch := first | omega | decide) only [lt1, nnMl, nnMr, nnAl, nnAr, nnA, nnM, nnB, nnT, nnP, nnE, nnEl, nnEr, nnL, nnLl, nnLr, nnQ, nnQr, nnN, Nat.add_zero, if_false, if_true, Option.bind_some, not_true, not_false_iff, not_true_eq_false, not_false_eq_true, eq_self, Nat.not_lt_zero, z10, z01, or_true, true_or, or_false, false_or, true_and, false_and]
    have e4 : nn (4 * i + p) + 4 = nn (4 * (i + 1) + p) := by rw [show 4 * (i + 1) + p = 4 * i + p + 4 by omega]; exact nnA _ 4
    have j0 : inb (nn (4 * i + p)) 36 = true := by simp (disch := first | omega | decide) only [lt1, nnMl, nnMr, nnAl, nnAr, nnA, nnM, nnB, nnT, nnP, nnE, nnEl, nnEr, nnL, nnLl, nnLr, nnQ, nnQr, nnN, Nat.add_zero, if_false, if_true, Option.bind_some, not_true, not_false_iff, not_true_eq_false, not_false_eq_true, eq_self, Nat.not_lt_zero, z10, z01, or_true, true_or, or_false, false_or, true_and, false_and, x0]
    have j4 : inb (nn (4 * (i + 1) + p)) 36 = true := by simp (disch := first | omega | decide) only [lt1, nnMl, nnMr, nnAl, nnAr, nnA, nnM, nnB, nnT, nnP, nnE, nnEl, nnEr, nnL, nnLl, nnLr, nnQ, nnQr, nnN, Nat.add_zero, if_false, if_true, Option.bind_some, not_true, not_false_iff, not_true_eq_false, not_false_eq_true, eq_self, Nat.not_lt_zero, z10, z01, or_true, true_or, or_false, false_or, true_and, false_and, x4]
    have em : nn i - nn i / 2 * 2 = nn (i % 2) := by
      have e : nn i / 2 * 2 = nn (i / 2 * 2) := by simp (disch := first | omega | decide) only [lt1, nnMl, nnMr, nnAl, nnAr, nnA, nnM, nnB, nnT, nnP, nnE, nnEl, nnEr, nnL, nnLl, nnLr, nnQ, nnQr, nnN, Nat.add_zero, if_false, if_true, Option.bind_some, not_true, not_false_iff, not_true_eq_false, not_false_eq_true, eq_self, Nat.not_lt_zero, z10, z01, or_true, true_or, or_false, false_or, true_and, false_and, nnDr]
      rw [e, nnS (a := i) (b := i / 2 * 2) (by omega), show i - i / 2 * 2 = i % 2 by omega]
    have ego : gon r p (i + 1) = if ch = p then 0 else gon r p i + 1 := by
      show (if r i = p then 0 else gon r p i + 1) = _
      rw [hri]
    have ehl : hld r p (i + 1) = hld r p i + (if ch = p then 1 else 0) := by
      show hld r p i + (if r i = p then 1 else 0) = _
      rw [hri]
    have eng : ngs r p (i + 1) = ngs r p i + (if ch = p then i % 2 else 0) := by
      show ngs r p i + (if r i = p then i % 2 else 0) = _
      rw [hri]
    have hgl := gon_le (r := r) (q := p) (i + 1)
    have hgl0 := gon_le (r := r) (q := p) i
    -- the state behind this member
    have hE2 : EI (up2 (up2 (up2 M 226 (4 * (i + 1) + p) (nn (gon r p (i + 1)))) 227 (4 * (i + 1) + p) (nn (hld r p (i + 1)))) 228 (4 * (i + 1) + p) (nn (ngs r p (i + 1)))) n P r (i + 1) (p + 1) acc := by
      refine ⟨?_, c2.cg (by simp (disch := first | omega | decide) only [u2e, u2n, up1_eq, up1_ne, ne_eq]) (by simp (disch := first | omega | decide) only [u2e, u2n, up1_eq, up1_ne, ne_eq]) (by simp (disch := first | omega | decide) only [u2e, u2n, up1_eq, up1_ne, ne_eq]), fun j hj => ?_, fun k hk => ?_, fun k q hk hq => ?_, fun q hq => ?_⟩
      · simp (disch := first | omega | decide) only [u2e, u2n, up1_eq, up1_ne, ne_eq, c1]
      · rw [u2n (by decide), u2n (by decide), u2n (by decide)]; exact c3 j hj
      · rw [u2n (by decide), u2n (by decide), u2n (by decide), u2n (by decide), u2n (by decide), u2n (by decide)]; exact c4 k hk
      · rw [u2n (show 226 ≠ 228 by decide), u2n (show 226 ≠ 227 by decide), u2e, up1_ne (by omega), u2n (show 227 ≠ 228 by decide), u2e, up1_ne (by omega), u2n (show 227 ≠ 226 by decide), u2e, up1_ne (by omega), u2n (show 228 ≠ 227 by decide), u2n (show 228 ≠ 226 by decide)]; exact c5 k q hk hq
      · rw [u2n (show 226 ≠ 228 by decide), u2n (show 226 ≠ 227 by decide), u2e, u2n (show 227 ≠ 228 by decide), u2e, u2n (show 227 ≠ 226 by decide), u2e, u2n (show 228 ≠ 227 by decide), u2n (show 228 ≠ 226 by decide)]
        by_cases e : q = p
        · rw [e, up1_eq, up1_eq, up1_eq]
          exact ⟨rfl, rfl, rfl⟩
        · rw [up1_ne (by omega), up1_ne (by omega), up1_ne (by omega)]
          exact c6 q (by omega)
    obtain ⟨M2, r1, r2, r3⟩ := ih (p + 1) F _ (by omega) (by omega) hE2
    have fr : FTM M M2 := (((FTM.w (by omega)).t (FTM.w (by omega))).t (FTM.w (by omega))).t r3
    refine ⟨M2, ?_, r2, fr⟩
    have fin : ∀ (b : Int32), b = b01 (A ∧ ∀ q, q < p → gon r q (i + 1) ≤ gp) → (if b = 0 then m_enters_98 F (nn i) (nn gp) 0 (nn (p + 1)) (up2 (up2 (up2 M 226 (4 * (i + 1) + p) (nn (gon r p (i + 1)))) 227 (4 * (i + 1) + p) (nn (hld r p (i + 1)))) 228 (4 * (i + 1) + p) (nn (ngs r p (i + 1)))) else (if inb (nn (4 * (i + 1) + p)) 36 = true then (if nn gp < nn (gon r p (i + 1)) then m_enters_98 F (nn i) (nn gp) 0 (nn (p + 1)) (up2 (up2 (up2 M 226 (4 * (i + 1) + p) (nn (gon r p (i + 1)))) 227 (4 * (i + 1) + p) (nn (hld r p (i + 1)))) 228 (4 * (i + 1) + p) (nn (ngs r p (i + 1)))) else m_enters_98 F (nn i) (nn gp) 1 (nn (p + 1)) (up2 (up2 (up2 M 226 (4 * (i + 1) + p) (nn (gon r p (i + 1)))) 227 (4 * (i + 1) + p) (nn (hld r p (i + 1)))) 228 (4 * (i + 1) + p) (nn (ngs r p (i + 1))))) else none)) = some (b01 (A ∧ ∀ q, q < P → gon r q (i + 1) ≤ gp), M2) := fun b hb => by
      by_cases q : A ∧ ∀ q, q < p → gon r q (i + 1) ≤ gp
      · rw [b01_y q] at hb
        refine st_f (by rw [hb]; decide) (st_t j4 ?_)
        by_cases q2 : gp < gon r p (i + 1)
        · rw [b01_n (show ¬ (A ∧ ∀ q, q < p + 1 → gon r q (i + 1) ≤ gp) from fun z => by have := z.2 p (Nat.lt_succ_self _); omega)] at r1
          exact st_t (by rw [nnL (by omega) (by omega)]; exact q2) r1
        · rw [b01_y (show A ∧ ∀ q, q < p + 1 → gon r q (i + 1) ≤ gp from ⟨q.1, fun q3 h => by
            by_cases e : q3 = p
            · rw [e]; omega
            · exact q.2 q3 (by omega)⟩)] at r1
          exact st_f (by rw [nnL (by omega) (by omega)]; exact q2) r1
      · rw [b01_n q] at hb
        rw [b01_n (show ¬ (A ∧ ∀ q, q < p + 1 → gon r q (i + 1) ≤ gp) from fun z => q ⟨z.1, fun q3 h => z.2 q3 (by omega)⟩)] at r1
        exact st_t hb r1
    have fin2 := fin _ rfl
    have h224 : M 224 (Int32.toNatClampNeg (nn i)) = nn ch := by rw [nnT (by omega), c3 i (by omega), hri]
    unfold m_enters_98
    rw [c1, h224]
    refine st_f (by simp (disch := first | omega | decide) only [lt1, nnMl, nnMr, nnAl, nnAr, nnA, nnM, nnB, nnT, nnP, nnE, nnEl, nnEr, nnL, nnLl, nnLr, nnQ, nnQr, nnN, Nat.add_zero, if_false, if_true, Option.bind_some, not_true, not_false_iff, not_true_eq_false, not_false_eq_true, eq_self, Nat.not_lt_zero, z10, z01, or_true, true_or, or_false, false_or, true_and, false_and, h3]) (st_t (by simp (disch := first | omega | decide) only [lt1, nnMl, nnMr, nnAl, nnAr, nnA, nnM, nnB, nnT, nnP, nnE, nnEl, nnEr, nnL, nnLl, nnLr, nnQ, nnQr, nnN, Nat.add_zero, if_false, if_true, Option.bind_some, not_true, not_false_iff, not_true_eq_false, not_false_eq_true, eq_self, Nat.not_lt_zero, z10, z01, or_true, true_or, or_false, false_or, true_and, false_and, hi]) ?_)
    by_cases e : ch = p
    · refine st_f (fun z => z (by rw [e])) ?_
      rw [if_pos e] at ego ehl eng
      unfold m_enters_123
      rw [e1]
      refine st_l (st_f (by decide) ?_)
      unfold m_enters_159
      rw [e4]
      refine st_w j4 (st_t j0 (st_f (by decide) ?_))
      unfold m_enters_185
      rw [nnT (show 4 * i + p < 2147483648 by omega), nnT (show 4 * (i + 1) + p < 2147483648 by omega), u2n (show 227 ≠ 226 by decide), d2, e4, em]
      refine st_w j4 (st_t j0 (st_f (by decide) ?_))
      rw [u2n (show 228 ≠ 227 by decide), u2n (show 228 ≠ 226 by decide), d3]
      rw [ego] at fin2
      rw [ehl, eng] at fin2
      by_cases e2 : i % 2 = 1
      · refine st_f (fun z => z (by rw [e2]; rfl)) ?_
        unfold m_enters_219
        rw [e4, nnT (show 4 * (i + 1) + p < 2147483648 by omega), show nn p + 1 = nn (p + 1) from nnA p 1]
        rw [e2, ← nnA (hld r p i) 1, ← nnA (ngs r p i) 1] at fin2
        refine st_w j4 ?_
        rw [u2n (show 226 ≠ 228 by decide), u2n (show 226 ≠ 227 by decide), u2e, up1_eq]
        exact fin2
      · have e3 : i % 2 = 0 := by omega
        refine st_t (by rw [e3]; decide) ?_
        unfold m_enters_218 m_enters_219
        rw [e4, nnT (show 4 * (i + 1) + p < 2147483648 by omega), show nn p + 1 = nn (p + 1) from nnA p 1]
        rw [e3, ← nnA (hld r p i) 1, ← nnA (ngs r p i) 0] at fin2
        refine st_w j4 ?_
        rw [u2n (show 226 ≠ 228 by decide), u2n (show 226 ≠ 227 by decide), u2e, up1_eq]
        exact fin2
    · refine st_t (nnNe (by omega) (by omega) e) ?_
      rw [if_neg e] at ego ehl eng
      unfold m_enters_123
      rw [e1]
      refine st_l (st_t rfl (st_t j0 ?_))
      unfold m_enters_159
      rw [e4, nnT (show 4 * i + p < 2147483648 by omega), d1]
      refine st_w j4 (st_t j0 (st_t rfl ?_))
      unfold m_enters_185
      rw [nnT (show 4 * i + p < 2147483648 by omega), nnT (show 4 * (i + 1) + p < 2147483648 by omega), u2n (show 227 ≠ 226 by decide), d2, e4]
      refine st_w j4 (st_t j0 (st_t rfl ?_))
      rw [u2n (show 228 ≠ 227 by decide), u2n (show 228 ≠ 226 by decide), d3]
      unfold m_enters_218 m_enters_219
      rw [e4, nnT (show 4 * (i + 1) + p < 2147483648 by omega), show nn p + 1 = nn (p + 1) from nnA p 1]
      rw [ego] at fin2
      rw [ehl, eng, ← nnA (gon r p i) 1, ← nnA (hld r p i) 0, ← nnA (ngs r p i) 0] at fin2
      refine st_w j4 ?_
      rw [u2n (show 226 ≠ 228 by decide), u2n (show 226 ≠ 227 by decide), u2e, up1_eq]
      exact fin2
theorem ent_y {M : Sg} {r : Nat → Nat} {acc : Acc} {i ch : Nat} (hP : P ≤ 4) (hi : i < 8) (hgp : gp ≤ 7) (hch : ch ≤ P) (hr : ∀ j, j < i → r j ≤ 4) (hE : EI M n P r i P acc) {F : Nat} (hF : 5 < F) : ∃ M2, m_enters F (nn i) (nn gp) (up2 M 224 i (nn ch)) = some (b01 (chg (upr r i ch) (i + 1) ≤ bestC acc ∧ ∀ q, q < P → gon (upr r i ch) q (i + 1) ≤ gp), M2) ∧ EI M2 n P (upr r i ch) (i + 1) P acc ∧ FTM M M2 := by
  obtain ⟨c1, c2, c3, c4, c5, c6⟩ := hE
  have er : ∀ j, j < i → upr r i ch j = r j := fun j hj => upr_n (by omega)
  have ecg : chg (upr r i ch) (i + 1) = chg r i + (if 0 < i ∧ ¬ ch = r (i - 1) then 1 else 0) := by
    show chg (upr r i ch) i + (if 0 < i ∧ ¬ upr r i ch i = upr r i ch (i - 1) then 1 else 0) = _
    rw [chg_cg i er, upr_e]
    by_cases e : 0 < i
    · rw [upr_n (show i - 1 ≠ i by omega)]
    · rw [if_neg (fun z => e z.1), if_neg (fun z => e z.1)]
  have ehl : hld (upr r i ch) P (i + 1) = hld r P i + (if ch = P then 1 else 0) := by
    show hld (upr r i ch) P i + (if upr r i ch i = P then 1 else 0) = _
    rw [hld_cg i er, upr_e]
  have hcl := chg_le (r := upr r i ch) (i + 1)
  have hi9 : i < 9 := by omega
  have hi1 : i + 1 < 9 := by omega
  have e1 : nn i + 1 = nn (i + 1) := nnA i 1
  have cv := c4 i (Nat.le_refl _)
  -- the state before the members are looked at
  have hE0 : EI (up2 (up2 (up2 M 224 i (nn ch)) 229 (i + 1) (nn (chg (upr r i ch) (i + 1)))) 230 (i + 1) (nn (hld (upr r i ch) P (i + 1)))) n P (upr r i ch) (i + 1) 0 acc := by
    refine ⟨?_, c2.cg (by simp (disch := first | omega | decide) only [u2e, u2n, up1_eq, up1_ne, ne_eq]) (by simp (disch := first | omega | decide) only [u2e, u2n, up1_eq, up1_ne, ne_eq]) (by simp (disch := first | omega | decide) only [u2e, u2n, up1_eq, up1_ne, ne_eq]), fun j hj => ?_, fun k hk => ?_, fun k q hk hq => ?_, fun q hq => absurd hq (Nat.not_lt_zero _)⟩
    · simp (disch := first | omega | decide) only [u2e, u2n, up1_eq, up1_ne, ne_eq, c1]
    · rw [u2n (by decide), u2n (by decide), u2e]
      by_cases e : j = i
      · rw [e, up1_eq, upr_e]
      · rw [up1_ne e, upr_n e]; exact c3 j (by omega)
    · rw [u2n (show 229 ≠ 230 by decide), u2e, u2n (show 229 ≠ 224 by decide), u2e, u2n (show 230 ≠ 229 by decide), u2n (show 230 ≠ 224 by decide)]
      by_cases e : k = i + 1
      · rw [e, up1_eq, up1_eq]
        exact ⟨rfl, rfl⟩
      · rw [up1_ne e, up1_ne e, chg_cg k (fun j hj => upr_n (by omega)), hld_cg k (fun j hj => upr_n (by omega))]
        exact c4 k (by omega)
    · rw [u2n (by decide), u2n (by decide), u2n (by decide), u2n (by decide), u2n (by decide), u2n (by decide), u2n (by decide), u2n (by decide), u2n (by decide), gon_cg k (fun j hj => upr_n (by omega)), hld_cg k (fun j hj => upr_n (by omega)), ngs_cg k (fun j hj => upr_n (by omega))]
      by_cases e : k = i
      · rw [e]; exact c6 q hq
      · exact c5 k q (by omega) hq
  obtain ⟨M2, r1, r2, r3⟩ := entL (A := chg (upr r i ch) (i + 1) ≤ bestC acc) hP hi hgp upr_e (show ch ≤ 4 by omega) P 0 F _ (by omega) (by omega) hE0
  refine ⟨M2, ?_, r2, (((FTM.w (by omega)).t (FTM.w (by omega))).t (FTM.w (by omega))).t r3⟩
  have e31 : (up2 (up2 (up2 M 224 i (nn ch)) 229 (i + 1) (nn (chg (upr r i ch) (i + 1)))) 230 (i + 1) (nn (hld (upr r i ch) P (i + 1)))) 215 31 = nn (bestC acc) := by
    rw [u2n (by decide), u2n (by decide), u2n (by decide)]
    rcases c2 with ⟨rfl, h, _⟩ | ⟨a, rfl, h, _⟩
    · exact h
    · exact h
  have hbest : bestC acc ≤ 100 := by
    rcases c2 with ⟨rfl, h, _⟩ | ⟨a, rfl, h, _, _, h8, _⟩
    · exact Nat.le_refl _
    · show a.1 ≤ 100
      omega
  have f72 : m_enters_72 F (nn i) (nn gp) (nn (if ch = P then 1 else 0)) (nn (hld r P i)) (nn (i + 1)) (up2 (up2 M 224 i (nn ch)) 229 (i + 1) (nn (chg (upr r i ch) (i + 1)))) = some (b01 (chg (upr r i ch) (i + 1) ≤ bestC acc ∧ ∀ q, q < P → gon (upr r i ch) q (i + 1) ≤ gp), M2) := by
    unfold m_enters_72
    rw [nnT (show i + 1 < 2147483648 by omega), nnA, ← ehl, e1]
    refine st_w (by simp (disch := first | omega | decide) only [lt1, nnMl, nnMr, nnAl, nnAr, nnA, nnM, nnB, nnT, nnP, nnE, nnEl, nnEr, nnL, nnLl, nnLr, nnQ, nnQr, nnN, Nat.add_zero, if_false, if_true, Option.bind_some, not_true, not_false_iff, not_true_eq_false, not_false_eq_true, eq_self, Nat.not_lt_zero, z10, z01, or_true, true_or, or_false, false_or, true_and, false_and, hi1]) (st_t (by simp (disch := first | omega | decide) only [lt1, nnMl, nnMr, nnAl, nnAr, nnA, nnM, nnB, nnT, nnP, nnE, nnEl, nnEr, nnL, nnLl, nnLr, nnQ, nnQr, nnN, Nat.add_zero, if_false, if_true, Option.bind_some, not_true, not_false_iff, not_true_eq_false, not_false_eq_true, eq_self, Nat.not_lt_zero, z10, z01, or_true, true_or, or_false, false_or, true_and, false_and, hi1]) ?_)
    rw [e31, nnT (show i + 1 < 2147483648 by omega), u2n (show 229 ≠ 230 by decide), u2e, up1_eq]
    by_cases q : chg (upr r i ch) (i + 1) ≤ bestC acc
    · rw [b01_y (show chg (upr r i ch) (i + 1) ≤ bestC acc ∧ ∀ q, q < 0 → gon (upr r i ch) q (i + 1) ≤ gp from ⟨q, fun q h => absurd h (Nat.not_lt_zero _)⟩)] at r1
      exact st_f (by rw [nnL (by omega) (by omega)]; omega) r1
    · rw [b01_n (show ¬ (chg (upr r i ch) (i + 1) ≤ bestC acc ∧ ∀ q, q < 0 → gon (upr r i ch) q (i + 1) ≤ gp) from fun z => q z.1)] at r1
      exact st_t (by rw [nnL (by omega) (by omega)]; omega) r1
  have f39 : ∀ z : Nat, z = (if 0 < i ∧ ¬ ch = r (i - 1) then 1 else 0) → m_enters_39 F (nn i) (nn gp) (nn z) (nn (chg r i)) (nn (i + 1)) (up2 M 224 i (nn ch)) = some (b01 (chg (upr r i ch) (i + 1) ≤ bestC acc ∧ ∀ q, q < P → gon (upr r i ch) q (i + 1) ≤ gp), M2) := fun z hz => by
    subst hz
    unfold m_enters_39
    rw [nnT (show i + 1 < 2147483648 by omega), nnA, ← ecg, nnT (show i < 2147483648 by omega), e1]
    refine st_w (by simp (disch := first | omega | decide) only [lt1, nnMl, nnMr, nnAl, nnAr, nnA, nnM, nnB, nnT, nnP, nnE, nnEl, nnEr, nnL, nnLl, nnLr, nnQ, nnQr, nnN, Nat.add_zero, if_false, if_true, Option.bind_some, not_true, not_false_iff, not_true_eq_false, not_false_eq_true, eq_self, Nat.not_lt_zero, z10, z01, or_true, true_or, or_false, false_or, true_and, false_and, hi1]) (st_t (by simp (disch := first | omega | decide) only [lt1, nnMl, nnMr, nnAl, nnAr, nnA, nnM, nnB, nnT, nnP, nnE, nnEl, nnEr, nnL, nnLl, nnLr, nnQ, nnQr, nnN, Nat.add_zero, if_false, if_true, Option.bind_some, not_true, not_false_iff, not_true_eq_false, not_false_eq_true, eq_self, Nat.not_lt_zero, z10, z01, or_true, true_or, or_false, false_or, true_and, false_and, hi9]) (st_t (by simp (disch := first | omega | decide) only [lt1, nnMl, nnMr, nnAl, nnAr, nnA, nnM, nnB, nnT, nnP, nnE, nnEl, nnEr, nnL, nnLl, nnLr, nnQ, nnQr, nnN, Nat.add_zero, if_false, if_true, Option.bind_some, not_true, not_false_iff, not_true_eq_false, not_false_eq_true, eq_self, Nat.not_lt_zero, z10, z01, or_true, true_or, or_false, false_or, true_and, false_and, hi]) ?_))
    rw [u2n (show 224 ≠ 229 by decide), u2e, up1_eq, u2n (show 215 ≠ 229 by decide), u2n (show 215 ≠ 224 by decide), c1, u2n (show 230 ≠ 229 by decide), u2n (show 230 ≠ 224 by decide), cv.2]
    by_cases e : ch = P
    · rw [if_pos e] at f72
      exact st_f (fun z => z (by rw [e])) f72
    · rw [if_neg e] at f72
      exact st_t (nnNe (by omega) (by omega) e) f72
  unfold m_enters
  rw [nnT (show i < 2147483648 by omega), u2n (show 229 ≠ 224 by decide), cv.1, e1, u2e, up1_eq]
  refine st_t (by simp (disch := first | omega | decide) only [lt1, nnMl, nnMr, nnAl, nnAr, nnA, nnM, nnB, nnT, nnP, nnE, nnEl, nnEr, nnL, nnLl, nnLr, nnQ, nnQr, nnN, Nat.add_zero, if_false, if_true, Option.bind_some, not_true, not_false_iff, not_true_eq_false, not_false_eq_true, eq_self, Nat.not_lt_zero, z10, z01, or_true, true_or, or_false, false_or, true_and, false_and, hi9]) ?_
  by_cases e0 : i = 0
  · refine st_t (by rw [show (0 : Int32) = nn 0 from rfl, nnE (by omega) (by omega)]; omega) ?_
    exact f39 0 (by rw [if_neg (fun z => by omega)])
  · have h1 : i - 1 < 8 := by omega
    refine st_f (by rw [show (0 : Int32) = nn 0 from rfl, nnE (by omega) (by omega)]; omega) ?_
    rw [nnM1 (by omega), nnT (by omega), up1_ne (show i - 1 ≠ i by omega), c3 (i - 1) (by omega)]
    have := hr (i - 1) (by omega)
    refine st_t (by simp (disch := first | omega | decide) only [lt1, nnMl, nnMr, nnAl, nnAr, nnA, nnM, nnB, nnT, nnP, nnE, nnEl, nnEr, nnL, nnLl, nnLr, nnQ, nnQr, nnN, Nat.add_zero, if_false, if_true, Option.bind_some, not_true, not_false_iff, not_true_eq_false, not_false_eq_true, eq_self, Nat.not_lt_zero, z10, z01, or_true, true_or, or_false, false_or, true_and, false_and, hi]) (st_t (by simp (disch := first | omega | decide) only [lt1, nnMl, nnMr, nnAl, nnAr, nnA, nnM, nnB, nnT, nnP, nnE, nnEl, nnEr, nnL, nnLl, nnLr, nnQ, nnQr, nnN, Nat.add_zero, if_false, if_true, Option.bind_some, not_true, not_false_iff, not_true_eq_false, not_false_eq_true, eq_self, Nat.not_lt_zero, z10, z01, or_true, true_or, or_false, false_or, true_and, false_and, h1]) ?_)
    by_cases e2 : ch = r (i - 1)
    · exact st_t (by rw [e2]) (f39 0 (by rw [if_neg (fun z => z.2 e2)]))
    · exact st_f (nnNe (by omega) (by omega) e2) (f39 1 (by rw [if_pos ⟨by omega, e2⟩]))
theorem wayL {M : Sg} {r : Nat → Nat} {acc : Acc} (hP : P ≤ 4) (hn : n ≤ 8) (hn0 : n0 ≤ 4) (hE : EI M n P r n P acc) : ∀ m p F, p + m = P → m < F → m_isWay_12 F (nn n) (nn n0) (nn (mn9 (fun q => ngs r q n) p)) (nn (mx9 (fun q => ngs r q n) p)) (b01 (∀ q, q < p → n0 ≤ hld r q n)) (nn p) M = some (b01 ((∀ q, q < P → n0 ≤ hld r q n) ∧ mx9 (fun q => ngs r q n) P ≤ mn9 (fun q => ngs r q n) P + 1)) := by
  obtain ⟨c1, c2, c3, c4, c5, c6⟩ := hE
  have hb : ∀ q, ngs r q n ≤ 8 := fun q => by
    have h1 := ngs_le (r := r) (q := q) n
    have h2 := hld_le0 (r := r) (q := q) (k := n)
    omega
  have hb1 : ∀ p, mn9 (fun q => ngs r q n) p ≤ 9 := fun p => (mn9_p p).2.2
  have hb2 : ∀ p, mx9 (fun q => ngs r q n) p ≤ 8 := fun p => by
    rcases (mx9_p (f := fun q => ngs r q n) p).2 with e | ⟨q, _, e⟩
    · omega
    · rw [e]; exact hb q
  intro m
  induction m with
  | zero =>
    intro p F hp hF
    obtain ⟨F, rfl⟩ : ∃ F2, F = F2 + 1 := ⟨F - 1, by omega⟩
    have : p = P := by omega
    subst this
    have h1 := hb1 p
    have h2 := hb2 p
    unfold m_isWay_12
    rw [c1]
    refine st_t (Int32.le_refl _) ?_
    have e : (1 : Int32) < nn (mx9 (fun q => ngs r q n) p) - nn (mn9 (fun q => ngs r q n) p) ↔ mn9 (fun q => ngs r q n) p + 1 < mx9 (fun q => ngs r q n) p := by
      rw [nn_ofI, nn_ofI, ← Int32.ofInt_sub, show (1 : Int32) = Int32.ofInt 1 from rfl, ofI_lt (by omega) (by omega) (by omega) (by omega)]
      omega
    by_cases q1 : ∀ q, q < p → n0 ≤ hld r q n
    · refine st_f (by rw [b01_y q1]; decide) ?_
      by_cases q2 : mx9 (fun q => ngs r q n) p ≤ mn9 (fun q => ngs r q n) p + 1
      · rw [b01_y ⟨q1, q2⟩]
        exact st_f (fun z => by have := e.mp z; omega) rfl
      · rw [b01_n (fun z => q2 z.2)]
        exact st_t (e.mpr (by omega)) rfl
    · rw [b01_n (show ¬ ((∀ q, q < p → n0 ≤ hld r q n) ∧ _) from fun z => q1 z.1)]
      exact st_t (b01_n q1) rfl
  | succ m ih =>
    intro p F hp hF
    obtain ⟨F, rfl⟩ : ∃ F2, F = F2 + 1 := ⟨F - 1, by omega⟩
    have h3 : ¬ P ≤ p := by omega
    have x0 : 4 * n + p < 36 := by omega
    have e1 : 4 * nn n + nn p = nn (4 * n + p) := by simp (disch := first | omega | decide) only [lt1, nnMl, nnMr, nnAl, nnAr, nnA, nnM, nnB, nnT, nnP, nnE, nnEl, nnEr, nnL, nnLl, nnLr, nnQ, nnQr, nnN, Nat.add_zero, if_false, if_true, Option.bind_some, not_true, not_false_iff, not_true_eq_false, not_false_eq_true, eq_self, Nat.not_lt_zero, z10, z01, or_true, true_or, or_false, false_or, true_and, false_and]
    have j0 : inb (nn (4 * n + p)) 36 = true := by simp (disch := first | omega | decide) only [lt1, nnMl, nnMr, nnAl, nnAr, nnA, nnM, nnB, nnT, nnP, nnE, nnEl, nnEr, nnL, nnLl, nnLr, nnQ, nnQr, nnN, Nat.add_zero, if_false, if_true, Option.bind_some, not_true, not_false_iff, not_true_eq_false, not_false_eq_true, eq_self, Nat.not_lt_zero, z10, z01, or_true, true_or, or_false, false_or, true_and, false_and, x0]
    obtain ⟨d1, d2, d3⟩ := c6 p (by omega)
    have h1 := hb1 p
    have h2 := hb2 p
    have h4 := hb p
    have hhl := hld_le0 (r := r) (q := p) (k := n)
    have IH := ih (p + 1) F (by omega) (by omega)
    have f59 : ∀ b : Int32, b = b01 (∀ q, q < p + 1 → n0 ≤ hld r q n) → m_isWay_59 (fun v1 v2 v3 v4 v5 v6 g0 => m_isWay_12 F v1 v2 v3 v4 v5 v6 g0) (nn n) (nn n0) (nn (mn9 (fun q => ngs r q n) p)) (nn (mx9 (fun q => ngs r q n) p)) (nn p) (nn (ngs r p n)) b M = some (b01 ((∀ q, q < P → n0 ≤ hld r q n) ∧ mx9 (fun q => ngs r q n) P ≤ mn9 (fun q => ngs r q n) P + 1)) := fun b hbb => by
      subst hbb
      unfold m_isWay_59 m_isWay_73
      rw [show nn p + 1 = nn (p + 1) from nnA p 1]
      have g1 : ∀ z, z = mn9 (fun q => ngs r q n) (p + 1) → (if nn (ngs r p n) ≤ nn (mx9 (fun q => ngs r q n) p) then m_isWay_12 F (nn n) (nn n0) (nn z) (nn (mx9 (fun q => ngs r q n) p)) (b01 (∀ q, q < p + 1 → n0 ≤ hld r q n)) (nn (p + 1)) M else m_isWay_12 F (nn n) (nn n0) (nn z) (nn (ngs r p n)) (b01 (∀ q, q < p + 1 → n0 ≤ hld r q n)) (nn (p + 1)) M) = some (b01 ((∀ q, q < P → n0 ≤ hld r q n) ∧ mx9 (fun q => ngs r q n) P ≤ mn9 (fun q => ngs r q n) P + 1)) := fun z hz => by
        subst hz
        by_cases e : ngs r p n ≤ mx9 (fun q => ngs r q n) p
        · rw [show mx9 (fun q => ngs r q n) (p + 1) = mx9 (fun q => ngs r q n) p from if_pos e] at IH
          exact st_t (by rw [nnE (by omega) (by omega)]; exact e) IH
        · rw [show mx9 (fun q => ngs r q n) (p + 1) = ngs r p n from if_neg e] at IH
          exact st_f (by rw [nnE (by omega) (by omega)]; exact e) IH
      by_cases e : mn9 (fun q => ngs r q n) p ≤ ngs r p n
      · exact st_t (by rw [nnE (by omega) (by omega)]; exact e) (g1 _ (if_pos e).symm)
      · exact st_f (by rw [nnE (by omega) (by omega)]; exact e) (g1 _ (if_neg e).symm)
    unfold m_isWay_12
    rw [c1, e1, nnT (show 4 * n + p < 2147483648 by omega), d2, d3]
    refine st_f (by simp (disch := first | omega | decide) only [lt1, nnMl, nnMr, nnAl, nnAr, nnA, nnM, nnB, nnT, nnP, nnE, nnEl, nnEr, nnL, nnLl, nnLr, nnQ, nnQr, nnN, Nat.add_zero, if_false, if_true, Option.bind_some, not_true, not_false_iff, not_true_eq_false, not_false_eq_true, eq_self, Nat.not_lt_zero, z10, z01, or_true, true_or, or_false, false_or, true_and, false_and, h3]) (st_w j0 ?_)
    unfold m_isWay_58
    by_cases q1 : ∀ q, q < p → n0 ≤ hld r q n
    · refine st_f (by rw [b01_y q1]; decide) (st_t j0 ?_)
      by_cases q2 : hld r p n < n0
      · exact st_t (by rw [nnL (by omega) (by omega)]; exact q2) (f59 0 (b01_n (fun z => by have := z p (Nat.lt_succ_self _); omega)).symm)
      · exact st_f (by rw [nnL (by omega) (by omega)]; exact q2) (f59 1 (b01_y (fun q h => by
          by_cases e : q = p
          · rw [e]; omega
          · exact q1 q (by omega))).symm)
    · exact st_t (b01_n q1) (f59 0 (b01_n (fun z => q1 (fun q h => z q (by omega)))).symm)
theorem kpL {M : Sg} (hn : n ≤ 8) : ∀ m k F f, k + m = n → m < F → (∀ j, j < k → f j = M 224 j) → ∃ f2, m_keeps_49 F (nn n) (nn k) (sc M 225 f) = some (sc M 225 f2) ∧ ∀ j, j < n → f2 j = M 224 j := by
  intro m
  induction m with
  | zero =>
    intro k F f hk hF hf
    obtain ⟨F, rfl⟩ : ∃ F2, F = F2 + 1 := ⟨F - 1, by omega⟩
    have : k = n := by omega
    subst this
    refine ⟨f, ?_, hf⟩
    unfold m_keeps_49
    exact if_pos (Int32.le_refl _)
  | succ m ih =>
    intro k F f hk hF hf
    obtain ⟨F, rfl⟩ : ∃ F2, F = F2 + 1 := ⟨F - 1, by omega⟩
    have hk8 : k < 8 := by omega
    have hi : inb (nn k) 8 = true := by simp (disch := first | omega | decide) only [lt1, nnMl, nnMr, nnAl, nnAr, nnA, nnM, nnB, nnT, nnP, nnE, nnEl, nnEr, nnL, nnLl, nnLr, nnQ, nnQr, nnN, Nat.add_zero, if_false, if_true, Option.bind_some, not_true, not_false_iff, not_true_eq_false, not_false_eq_true, eq_self, Nat.not_lt_zero, z10, z01, or_true, true_or, or_false, false_or, true_and, false_and, hk8]
    obtain ⟨f2, r1, r2⟩ := ih (k + 1) F (up1 f k (M 224 k)) (by omega) (by omega) (fun j hj => by
      by_cases e : j = k
      · rw [e, up1_eq]
      · rw [up1_ne e]; exact hf j (by omega))
    refine ⟨f2, ?_, r2⟩
    unfold m_keeps_49
    rw [nnT (by omega), sc_n (show 224 ≠ 225 by decide), show nn k + 1 = nn (k + 1) from nnA k 1]
    refine st_f (by rw [nnE (by omega) (by omega)]; omega) (st_t hi (st_w hi ?_))
    rw [sc_u]
    exact r1
theorem kp_y {M : Sg} {r : Nat → Nat} {acc : Acc} (hn : n ≤ 8) (hE : EI M n P r n P acc) (hc : chg r n ≤ bestC acc) {F : Nat} (hF : 9 < F) : ∃ M2, m_keeps F (nn n) M = some M2 ∧ ((btr acc (chg r n) (hld r P n) → EI M2 n P r n P (some (chg r n, hld r P n, row0 r n))) ∧ (¬ btr acc (chg r n) (hld r P n) → EI M2 n P r n P acc)) ∧ FTM M M2 := by
  obtain ⟨c1, c2, c3, c4, c5, c6⟩ := hE
  have hn9 : n < 9 := by omega
  have hi : inb (nn n) 9 = true := by simp (disch := first | omega | decide) only [lt1, nnMl, nnMr, nnAl, nnAr, nnA, nnM, nnB, nnT, nnP, nnE, nnEl, nnEr, nnL, nnLl, nnLr, nnQ, nnQr, nnN, Nat.add_zero, if_false, if_true, Option.bind_some, not_true, not_false_iff, not_true_eq_false, not_false_eq_true, eq_self, Nat.not_lt_zero, z10, z01, or_true, true_or, or_false, false_or, true_and, false_and, hn9]
  obtain ⟨v1, v2⟩ := c4 n (Nat.le_refl _)
  have hcl := chg_le (r := r) n
  have hhl := hld_le0 (r := r) (q := P) (k := n)
  obtain ⟨f2, k1, k2⟩ := kpL (M := up2 (up2 M 215 31 (nn (chg r n))) 215 32 (nn (hld r P n))) hn n 0 F (M 225) (by omega) (by omega) (fun j hj => absurd hj (Nat.not_lt_zero _))
  have e25 : sc (up2 (up2 M 215 31 (nn (chg r n))) 215 32 (nn (hld r P n))) 225 (M 225) = up2 (up2 M 215 31 (nn (chg r n))) 215 32 (nn (hld r P n)) := by
    have := sc_s (g := up2 (up2 M 215 31 (nn (chg r n))) 215 32 (nn (hld r P n))) (a := 225)
    rwa [u2n (by decide), u2n (by decide)] at this
  rw [e25] at k1
  have k27 : m_keeps_27 F (nn n) M = some (sc (up2 (up2 M 215 31 (nn (chg r n))) 215 32 (nn (hld r P n))) 225 f2) := by
    unfold m_keeps_27
    rw [nnT (by omega), v1]
    refine st_w hi ?_
    rw [u2n (show 230 ≠ 215 by decide), v2]
    exact st_w hi k1
  have hE2 : EI (sc (up2 (up2 M 215 31 (nn (chg r n))) 215 32 (nn (hld r P n))) 225 f2) n P r n P (some (chg r n, hld r P n, row0 r n)) := by
    have en : ∀ i, i ≠ 225 → i ≠ 215 → sc (up2 (up2 M 215 31 (nn (chg r n))) 215 32 (nn (hld r P n))) 225 f2 i = M i := fun i a b => by rw [sc_n a, u2n b, u2n b]
    refine ⟨?_, Or.inr ⟨_, rfl, ?_, ?_, fun j hj => ?_, Nat.le_trans hcl hn, Nat.le_trans hhl hn⟩, ?_, ?_, ?_, ?_⟩
    · rw [sc_n (by decide)]; simp (disch := first | omega | decide) only [u2e, u2n, up1_eq, up1_ne, ne_eq, c1]
    · rw [sc_n (by decide)]; simp (disch := first | omega | decide) only [u2e, u2n, up1_eq, up1_ne, ne_eq]
    · rw [sc_n (by decide)]; simp (disch := first | omega | decide) only [u2e, u2n, up1_eq, up1_ne, ne_eq]
    · rw [sc_e, k2 j hj, u2n (by decide), u2n (by decide), c3 j hj]
      show nn (r j) = nn (row0 r n j)
      rw [show row0 r n j = r j from if_pos hj]
    · rw [en 224 (by decide) (by decide)]; exact c3
    · rw [en 229 (by decide) (by decide), en 230 (by decide) (by decide)]; exact c4
    · rw [en 226 (by decide) (by decide), en 227 (by decide) (by decide), en 228 (by decide) (by decide)]; exact c5
    · rw [en 226 (by decide) (by decide), en 227 (by decide) (by decide), en 228 (by decide) (by decide)]; exact c6
  have ft2 : FTM M (sc (up2 (up2 M 215 31 (nn (chg r n))) 215 32 (nn (hld r P n))) 225 f2) := fun i a b => by rw [sc_n (by omega), u2n a, u2n a]
  rcases c2 with ⟨rfl, h1, h2⟩ | ⟨a, rfl, h1, h2, h3, h4, h5⟩
  · refine ⟨_, ?_, ⟨fun _ => hE2, fun h => absurd True.intro h⟩, ft2⟩
    unfold m_keeps
    rw [nnT (by omega), v1, h1]
    exact st_t hi (st_t (nnNe (by omega) (by omega) (by omega)) k27)
  · have hc : chg r n ≤ a.1 := hc
    have hbt : btr (some a) (chg r n) (hld r P n) ↔ (chg r n < a.1 ∨ (chg r n = a.1 ∧ a.2.1 < hld r P n)) := Iff.rfl
    by_cases q : chg r n = a.1
    · by_cases q2 : a.2.1 < hld r P n
      · refine ⟨_, ?_, ⟨fun _ => hE2, fun h => absurd (hbt.mpr (Or.inr ⟨q, q2⟩)) h⟩, ft2⟩
        unfold m_keeps
        rw [nnT (by omega), v1, v2, h1, h2]
        exact st_t hi (st_f (fun z => z (by rw [q])) (st_t hi (st_t (by rw [nnL (by omega) (by omega)]; exact q2) k27)))
      · refine ⟨M, ?_, ⟨fun h => ?_, fun _ => ⟨c1, Or.inr ⟨a, rfl, h1, h2, h3, h4, h5⟩, c3, c4, c5, c6⟩⟩, FTM.r⟩
        · unfold m_keeps
          rw [nnT (by omega), v1, v2, h1, h2]
          exact st_t hi (st_f (fun z => z (by rw [q])) (st_t hi (st_f (by rw [nnL (by omega) (by omega)]; exact q2) rfl)))
        · have := hbt.mp h
          omega
    · refine ⟨_, ?_, ⟨fun _ => hE2, fun h => absurd (hbt.mpr (Or.inl (by omega))) h⟩, ft2⟩
      unfold m_keeps
      rw [nnT (by omega), v1, h1]
      exact st_t hi (st_t (nnNe (by omega) (by omega) q) k27)
theorem layLv (hP0 : 0 < P) (hP : P ≤ 4) (hn : n ≤ 8) (hn0 : n0 ≤ 4) (hgp : gp ≤ 7) {F0 : Nat} (hF0 : 10 < F0) : ∀ m i, i + 1 + m = n → ∀ k ch r acc M, ch + k = P + 1 → EI M n P r i P acc → M 224 i = Int32.ofInt ((ch : Int) - 1) → okg r P gp i → (∀ j, j < i → r j ≤ 4) → ∃ K M2, K ≤ stepB m k ∧ (∀ F, m_lays_100 F0 (F + K) (nn n) (nn n0) (nn gp) (nn i) M = m_lays_100 F0 F (nn n) (nn n0) (nn gp) (nn i + (-1)) M2) ∧ EI M2 n P r i P (fcs (fun ch a => full P n0 gp n m (i + 1) (upr r i ch) a) k ch acc) ∧ FTM M M2 := by
  intro m
  induction m with
  | zero =>
    intro i hi k
    induction k with
    | zero =>
      intro ch r acc M hc hE h24 hg hr
      have hi8 : i < 8 := by omega
      have hin : inb (nn i) 8 = true := by simp (disch := first | omega | decide) only [lt1, nnMl, nnMr, nnAl, nnAr, nnA, nnM, nnB, nnT, nnP, nnE, nnEl, nnEr, nnL, nnLl, nnLr, nnQ, nnQr, nnN, Nat.add_zero, if_false, if_true, Option.bind_some, not_true, not_false_iff, not_true_eq_false, not_false_eq_true, eq_self, Nat.not_lt_zero, z10, z01, or_true, true_or, or_false, false_or, true_and, false_and, hi8]
      obtain ⟨c1, c2, c3, c4, c5, c6⟩ := hE
      refine ⟨1, up2 M 224 i (Int32.ofInt ((ch : Int) - 1) + 1), Nat.le_refl _, fun F => ?_, ⟨?_, c2.cg (by simp (disch := first | omega | decide) only [u2e, u2n, up1_eq, up1_ne, ne_eq]) (by simp (disch := first | omega | decide) only [u2e, u2n, up1_eq, up1_ne, ne_eq]) (by simp (disch := first | omega | decide) only [u2e, u2n, up1_eq, up1_ne, ne_eq]), fun j hj => ?_, ?_, ?_, ?_⟩, FTM.w (by omega)⟩
      · show m_lays_100 F0 (F + 1) _ _ _ _ _ = _
        rw [m_lays_100]
        rw [nnT (by omega), h24]
        refine st_f (by rw [nnP (by omega)]; exact id) (st_t hin (st_w hin (st_t hin (st_f ?_ rfl))))
        rw [u2e, up1_eq, u2n (by decide), c1, show (1 : Int32) = Int32.ofInt 1 from rfl, ← Int32.ofInt_add, show (ch : Int) - 1 + 1 = (ch : Int) by omega, ← nn_ofI, nnE (by omega) (by omega)]
        omega
      · simp (disch := first | omega | decide) only [u2e, u2n, up1_eq, up1_ne, ne_eq, c1]
      · rw [u2e, up1_ne (by omega)]; exact c3 j hj
      · rw [u2n (by decide), u2n (by decide)]; exact c4
      · rw [u2n (by decide), u2n (by decide), u2n (by decide)]; exact c5
      · rw [u2n (by decide), u2n (by decide), u2n (by decide)]; exact c6
    | succ k ihk =>
      intro ch r acc M hc hE h24 hg hr
      have hi8 : i < 8 := by omega
      have hin : inb (nn i) 8 = true := by simp (disch := first | omega | decide) only [lt1, nnMl, nnMr, nnAl, nnAr, nnA, nnM, nnB, nnT, nnP, nnE, nnEl, nnEr, nnL, nnLl, nnLr, nnQ, nnQr, nnN, Nat.add_zero, if_false, if_true, Option.bind_some, not_true, not_false_iff, not_true_eq_false, not_false_eq_true, eq_self, Nat.not_lt_zero, z10, z01, or_true, true_or, or_false, false_or, true_and, false_and, hi8]
      have hch : ch ≤ P := by omega
      obtain ⟨M3, e1, e2, e3⟩ := ent_y hP hi8 hgp hch hr hE (F := F0) (by omega)
      have er : ∀ j, j < i → upr r i ch j = r j := fun j hj => upr_n (by omega)
      have en1 : n = i + 1 := by omega
      have ew : (Int32.ofInt ((ch : Int) - 1) + 1) = nn ch := by
        rw [show (1 : Int32) = Int32.ofInt 1 from rfl, ← Int32.ofInt_add, nn_ofI]
        congr 1
        omega
      -- back to this level, from a state whose prefix is r' of length i + 1
      have down : ∀ M4 acc4, EI M4 n P (upr r i ch) (i + 1) P acc4 → EI M4 n P r i P acc4 ∧ M4 224 i = Int32.ofInt (((ch + 1 : Nat) : Int) - 1) := fun M4 acc4 ⟨d1, d2, d3, d4, d5, d6⟩ => by
        refine ⟨⟨d1, d2, fun j hj => ?_, fun k hk => ?_, fun k q hk hq => ?_, fun q hq => ?_⟩, ?_⟩
        · rw [d3 j (by omega), upr_n (by omega)]
        · rw [(d4 k (by omega)).1, (d4 k (by omega)).2, chg_cg k (fun j hj => upr_n (by omega)), hld_cg k (fun j hj => upr_n (by omega))]
          exact ⟨rfl, rfl⟩
        · have := d5 k q (by omega) hq
          rw [gon_cg k (fun j hj => upr_n (by omega)), hld_cg k (fun j hj => upr_n (by omega)), ngs_cg k (fun j hj => upr_n (by omega))] at this
          exact this
        · have := d5 i q (by omega) hq
          rw [gon_cg i er, hld_cg i er, ngs_cg i er] at this
          exact this
        · rw [d3 i (by omega), upr_e, nn_ofI]
          congr 1
          omega
      have step : ∀ (M4 : Sg) (acc4 : Acc), (∀ F, m_lays_100 F0 (F + 1) (nn n) (nn n0) (nn gp) (nn i) M = m_lays_100 F0 F (nn n) (nn n0) (nn gp) (nn i) M4) → EI M4 n P (upr r i ch) (i + 1) P acc4 → FTM M M4 → acc4 = full P n0 gp n 0 (i + 1) (upr r i ch) acc → ∃ K M2, K ≤ stepB 0 (k + 1) ∧ (∀ F, m_lays_100 F0 (F + K) (nn n) (nn n0) (nn gp) (nn i) M = m_lays_100 F0 F (nn n) (nn n0) (nn gp) (nn i + (-1)) M2) ∧ EI M2 n P r i P (fcs (fun ch a => full P n0 gp n 0 (i + 1) (upr r i ch) a) (k + 1) ch acc) ∧ FTM M M2 := fun M4 acc4 h1 h2 h3 h4 => by
        obtain ⟨d1, d2⟩ := down M4 acc4 h2
        obtain ⟨K, M2, s0, s1, s2, s3⟩ := ihk (ch + 1) r acc4 M4 (by omega) d1 d2 hg hr
        subst h4
        refine ⟨K + 1, M2, (by show K + 1 ≤ k + 1 + 1; exact Nat.succ_le_succ s0), fun F => ?_, s2, h3.t s3⟩
        rw [← Nat.add_assoc, h1, s1]
      have pre : ∀ (F : Nat) (rr : Option (Int32 × Sg)), (if ¬ b01 (chg (upr r i ch) (i + 1) ≤ bestC acc ∧ ∀ q, q < P → gon (upr r i ch) q (i + 1) ≤ gp) = 0 then Option.bind (m_isWay F0 (nn n) (nn n0) M3) (fun x4 => (if x4 = 0 then m_lays_100 F0 F (nn n) (nn n0) (nn gp) (nn i) M3 else Option.bind (m_keeps F0 (nn n) M3) (fun g5 => m_lays_100 F0 F (nn n) (nn n0) (nn gp) (nn i) g5))) else m_lays_100 F0 F (nn n) (nn n0) (nn gp) (nn i) M3) = rr → m_lays_100 F0 (F + 1) (nn n) (nn n0) (nn gp) (nn i) M = rr := fun F rr hrr => by
        rw [m_lays_100]
        rw [nnT (by omega), h24, ew]
        refine st_f (by rw [nnP (by omega)]; exact id) (st_t hin (st_w hin (st_t hin (st_t ?_ (st_b e1 ?_)))))
        · rw [u2e, up1_eq, u2n (by decide), hE.1, nnE (by omega) (by omega)]; exact hch
        · rw [← hrr]
          by_cases q : b01 (chg (upr r i ch) (i + 1) ≤ bestC acc ∧ ∀ q, q < P → gon (upr r i ch) q (i + 1) ≤ gp) = 0
          · refine Eq.trans ?_ (if_neg (fun z => z q)).symm
            exact st_f (fun z => z q) rfl
          · refine Eq.trans ?_ (if_pos q).symm
            exact st_t q (st_t (by rw [nnM1 (by omega), nnE (by omega) (by omega)]; omega) rfl)
      by_cases q : chg (upr r i ch) (i + 1) ≤ bestC acc ∧ ∀ q, q < P → gon (upr r i ch) q (i + 1) ≤ gp
      · have q0 : ¬ b01 (chg (upr r i ch) (i + 1) ≤ bestC acc ∧ ∀ q, q < P → gon (upr r i ch) q (i + 1) ≤ gp) = 0 := by rw [b01_y q]; decide
        have eE : EI M3 n P (upr r i ch) n P acc := by rw [en1]; rw [en1] at e2; exact e2
        have hok : okg (upr r i ch) P gp n := fun j hj q2 hq2 => by
          by_cases e : j = i
          · rw [e]; exact q.2 q2 hq2
          · rw [gon_cg (j + 1) (fun j2 hj2 => upr_n (by omega))]; exact hg j (by omega) q2 hq2
        have hw := wayL hP hn hn0 eE P 0 F0 (by omega) (by omega)
        have hw : m_isWay F0 (nn n) (nn n0) M3 = some (b01 ((∀ q, q < P → n0 ≤ hld (upr r i ch) q n) ∧ mx9 (fun q => ngs (upr r i ch) q n) P ≤ mn9 (fun q => ngs (upr r i ch) q n) P + 1)) := by
          rw [b01_y (show ∀ q, q < 0 → n0 ≤ hld (upr r i ch) q n from fun q h => absurd h (Nat.not_lt_zero _))] at hw
          exact hw
        by_cases w : (∀ q, q < P → n0 ≤ hld (upr r i ch) q n) ∧ mx9 (fun q => ngs (upr r i ch) q n) P ≤ mn9 (fun q => ngs (upr r i ch) q n) P + 1
        · have ok : okR (upr r i ch) P n0 gp n := ⟨hok, w.1, (even_m9 hP0 hn).mpr w.2⟩
          obtain ⟨M4, k1, ⟨k2, k3⟩, k4⟩ := kp_y hn eE (by rw [en1]; exact q.1) (F := F0) (by omega)
          by_cases bt : btr acc (chg (upr r i ch) n) (hld (upr r i ch) P n)
          · refine step M4 (some (chg (upr r i ch) n, hld (upr r i ch) P n, row0 (upr r i ch) n)) (fun F => pre F _ ((if_pos q0).trans (st_b hw (st_f (by rw [b01_y w]; decide) (st_b k1 rfl))))) (by have := k2 bt; rw [en1] at this ⊢; exact this) (e3.t k4) ?_
            exact (updA_y ⟨ok, bt⟩).symm
          · refine step M4 acc (fun F => pre F _ ((if_pos q0).trans (st_b hw (st_f (by rw [b01_y w]; decide) (st_b k1 rfl))))) (by have := k3 bt; rw [en1] at this ⊢; exact this) (e3.t k4) ?_
            exact (updA_n (fun z => bt z.2)).symm
        · refine step M3 acc (fun F => pre F _ ((if_pos q0).trans (st_b hw (st_t (b01_n w) rfl)))) e2 e3 ?_
          exact (updA_n (fun z => w ⟨z.1.2.1, (even_m9 hP0 hn).mp z.1.2.2⟩)).symm
      · have q0 : b01 (chg (upr r i ch) (i + 1) ≤ bestC acc ∧ ∀ q, q < P → gon (upr r i ch) q (i + 1) ≤ gp) = 0 := b01_n q
        refine step M3 acc (fun F => pre F _ (if_neg (fun z => z q0))) e2 e3 ?_
        by_cases q1 : chg (upr r i ch) (i + 1) ≤ bestC acc
        · have : ∃ p, p < P ∧ gp < gon (upr r i ch) p (i + 1) := by
            refine Classical.byContradiction (fun z => q ⟨q1, fun p hp => ?_⟩)
            exact Nat.not_lt.mp (fun z2 => z ⟨p, hp, z2⟩)
          obtain ⟨p, p1, p2⟩ := this
          exact (keep_g (by omega) (by omega) p1 p2).symm
        · refine (keep_b (by omega) ?_).symm
          cases acc with
          | none =>
            exfalso
            have := chg_le (r := upr r i ch) (i + 1)
            exact q1 (Nat.le_trans this (by show i + 1 ≤ 100; omega))
          | some a => exact ⟨a, rfl, Or.inl (Nat.not_le.mp q1)⟩
  | succ m ihm =>
    intro i hi k
    induction k with
    | zero =>
      intro ch r acc M hc hE h24 hg hr
      have hi8 : i < 8 := by omega
      have hin : inb (nn i) 8 = true := by simp (disch := first | omega | decide) only [lt1, nnMl, nnMr, nnAl, nnAr, nnA, nnM, nnB, nnT, nnP, nnE, nnEl, nnEr, nnL, nnLl, nnLr, nnQ, nnQr, nnN, Nat.add_zero, if_false, if_true, Option.bind_some, not_true, not_false_iff, not_true_eq_false, not_false_eq_true, eq_self, Nat.not_lt_zero, z10, z01, or_true, true_or, or_false, false_or, true_and, false_and, hi8]
      obtain ⟨c1, c2, c3, c4, c5, c6⟩ := hE
      refine ⟨1, up2 M 224 i (Int32.ofInt ((ch : Int) - 1) + 1), (by show 1 ≤ 0 * (stepB m 5 + 1) + 1; omega), fun F => ?_, ⟨?_, c2.cg (by simp (disch := first | omega | decide) only [u2e, u2n, up1_eq, up1_ne, ne_eq]) (by simp (disch := first | omega | decide) only [u2e, u2n, up1_eq, up1_ne, ne_eq]) (by simp (disch := first | omega | decide) only [u2e, u2n, up1_eq, up1_ne, ne_eq]), fun j hj => ?_, ?_, ?_, ?_⟩, FTM.w (by omega)⟩
      · show m_lays_100 F0 (F + 1) _ _ _ _ _ = _
        rw [m_lays_100]
        rw [nnT (by omega), h24]
        refine st_f (by rw [nnP (by omega)]; exact id) (st_t hin (st_w hin (st_t hin (st_f ?_ rfl))))
        rw [u2e, up1_eq, u2n (by decide), c1, show (1 : Int32) = Int32.ofInt 1 from rfl, ← Int32.ofInt_add, show (ch : Int) - 1 + 1 = (ch : Int) by omega, ← nn_ofI, nnE (by omega) (by omega)]
        omega
      · simp (disch := first | omega | decide) only [u2e, u2n, up1_eq, up1_ne, ne_eq, c1]
      · rw [u2e, up1_ne (by omega)]; exact c3 j hj
      · rw [u2n (by decide), u2n (by decide)]; exact c4
      · rw [u2n (by decide), u2n (by decide), u2n (by decide)]; exact c5
      · rw [u2n (by decide), u2n (by decide), u2n (by decide)]; exact c6
    | succ k ihk =>
      intro ch r acc M hc hE h24 hg hr
      have hi8 : i < 8 := by omega
      have hi18 : i + 1 < 8 := by omega
      have hin : inb (nn i) 8 = true := by simp (disch := first | omega | decide) only [lt1, nnMl, nnMr, nnAl, nnAr, nnA, nnM, nnB, nnT, nnP, nnE, nnEl, nnEr, nnL, nnLl, nnLr, nnQ, nnQr, nnN, Nat.add_zero, if_false, if_true, Option.bind_some, not_true, not_false_iff, not_true_eq_false, not_false_eq_true, eq_self, Nat.not_lt_zero, z10, z01, or_true, true_or, or_false, false_or, true_and, false_and, hi8]
      have hch : ch ≤ P := by omega
      obtain ⟨M3, e1, e2, e3⟩ := ent_y hP hi8 hgp hch hr hE (F := F0) (by omega)
      have er : ∀ j, j < i → upr r i ch j = r j := fun j hj => upr_n (by omega)
      have ew : (Int32.ofInt ((ch : Int) - 1) + 1) = nn ch := by
        rw [show (1 : Int32) = Int32.ofInt 1 from rfl, ← Int32.ofInt_add, nn_ofI]
        congr 1
        omega
      have down : ∀ M4 acc4, EI M4 n P (upr r i ch) (i + 1) P acc4 → EI M4 n P r i P acc4 ∧ M4 224 i = Int32.ofInt (((ch + 1 : Nat) : Int) - 1) := fun M4 acc4 ⟨d1, d2, d3, d4, d5, d6⟩ => by
        refine ⟨⟨d1, d2, fun j hj => ?_, fun k hk => ?_, fun k q hk hq => ?_, fun q hq => ?_⟩, ?_⟩
        · rw [d3 j (by omega), upr_n (by omega)]
        · rw [(d4 k (by omega)).1, (d4 k (by omega)).2, chg_cg k (fun j hj => upr_n (by omega)), hld_cg k (fun j hj => upr_n (by omega))]
          exact ⟨rfl, rfl⟩
        · have := d5 k q (by omega) hq
          rw [gon_cg k (fun j hj => upr_n (by omega)), hld_cg k (fun j hj => upr_n (by omega)), ngs_cg k (fun j hj => upr_n (by omega))] at this
          exact this
        · have := d5 i q (by omega) hq
          rw [gon_cg i er, hld_cg i er, ngs_cg i er] at this
          exact this
        · rw [d3 i (by omega), upr_e, nn_ofI]
          congr 1
          omega
      have step : ∀ (K1 : Nat) (M4 : Sg) (acc4 : Acc), K1 ≤ stepB m 5 + 1 → (∀ F, m_lays_100 F0 (F + K1) (nn n) (nn n0) (nn gp) (nn i) M = m_lays_100 F0 F (nn n) (nn n0) (nn gp) (nn i) M4) → EI M4 n P (upr r i ch) (i + 1) P acc4 → FTM M M4 → acc4 = full P n0 gp n (m + 1) (i + 1) (upr r i ch) acc → ∃ K M2, K ≤ stepB (m + 1) (k + 1) ∧ (∀ F, m_lays_100 F0 (F + K) (nn n) (nn n0) (nn gp) (nn i) M = m_lays_100 F0 F (nn n) (nn n0) (nn gp) (nn i + (-1)) M2) ∧ EI M2 n P r i P (fcs (fun ch a => full P n0 gp n (m + 1) (i + 1) (upr r i ch) a) (k + 1) ch acc) ∧ FTM M M2 := fun K1 M4 acc4 h0 h1 h2 h3 h4 => by
        obtain ⟨d1, d2⟩ := down M4 acc4 h2
        obtain ⟨K, M2, s0, s1, s2, s3⟩ := ihk (ch + 1) r acc4 M4 (by omega) d1 d2 hg hr
        subst h4
        refine ⟨K + K1, M2, (by
          show K + K1 ≤ (k + 1) * (stepB m 5 + 1) + 1
          have s0 : K ≤ k * (stepB m 5 + 1) + 1 := s0
          rw [Nat.succ_mul]
          omega), fun F => ?_, s2, h3.t s3⟩
        rw [← Nat.add_assoc, h1, s1]
      have pre : ∀ (F : Nat) (rr : Option (Int32 × Sg)), (if ¬ b01 (chg (upr r i ch) (i + 1) ≤ bestC acc ∧ ∀ q, q < P → gon (upr r i ch) q (i + 1) ≤ gp) = 0 then m_lays_100 F0 F (nn n) (nn n0) (nn gp) (nn (i + 1)) (up2 M3 224 (i + 1) (-1)) else m_lays_100 F0 F (nn n) (nn n0) (nn gp) (nn i) M3) = rr → m_lays_100 F0 (F + 1) (nn n) (nn n0) (nn gp) (nn i) M = rr := fun F rr hrr => by
        rw [m_lays_100]
        rw [nnT (by omega), h24, ew]
        refine st_f (by rw [nnP (by omega)]; exact id) (st_t hin (st_w hin (st_t hin (st_t ?_ (st_b e1 ?_)))))
        · rw [u2e, up1_eq, u2n (by decide), hE.1, nnE (by omega) (by omega)]; exact hch
        · rw [← hrr]
          by_cases q : b01 (chg (upr r i ch) (i + 1) ≤ bestC acc ∧ ∀ q, q < P → gon (upr r i ch) q (i + 1) ≤ gp) = 0
          · refine Eq.trans ?_ (if_neg (fun z => z q)).symm
            exact st_f (fun z => z q) rfl
          · refine Eq.trans ?_ (if_pos q).symm
            refine st_t q (st_f (by rw [nnM1 (by omega), nnE (by omega) (by omega)]; omega) ?_)
            rw [show nn i + 1 = nn (i + 1) from nnA i 1, nnT (by omega)]
            exact st_w (by simp (disch := first | omega | decide) only [lt1, nnMl, nnMr, nnAl, nnAr, nnA, nnM, nnB, nnT, nnP, nnE, nnEl, nnEr, nnL, nnLl, nnLr, nnQ, nnQr, nnN, Nat.add_zero, if_false, if_true, Option.bind_some, not_true, not_false_iff, not_true_eq_false, not_false_eq_true, eq_self, Nat.not_lt_zero, z10, z01, or_true, true_or, or_false, false_or, true_and, false_and, hi18]) rfl
      by_cases q : chg (upr r i ch) (i + 1) ≤ bestC acc ∧ ∀ q, q < P → gon (upr r i ch) q (i + 1) ≤ gp
      · have q0 : ¬ b01 (chg (upr r i ch) (i + 1) ≤ bestC acc ∧ ∀ q, q < P → gon (upr r i ch) q (i + 1) ≤ gp) = 0 := by rw [b01_y q]; decide
        have hok : okg (upr r i ch) P gp (i + 1) := fun j hj q2 hq2 => by
          by_cases e : j = i
          · rw [e]; exact q.2 q2 hq2
          · rw [gon_cg (j + 1) (fun j2 hj2 => upr_n (by omega))]; exact hg j (by omega) q2 hq2
        have hE3 : EI (up2 M3 224 (i + 1) (-1)) n P (upr r i ch) (i + 1) P acc := by
          obtain ⟨d1, d2, d3, d4, d5, d6⟩ := e2
          refine ⟨?_, d2.cg (by simp (disch := first | omega | decide) only [u2e, u2n, up1_eq, up1_ne, ne_eq]) (by simp (disch := first | omega | decide) only [u2e, u2n, up1_eq, up1_ne, ne_eq]) (by simp (disch := first | omega | decide) only [u2e, u2n, up1_eq, up1_ne, ne_eq]), fun j hj => ?_, ?_, ?_, ?_⟩
          · simp (disch := first | omega | decide) only [u2e, u2n, up1_eq, up1_ne, ne_eq, d1]
          · rw [u2e, up1_ne (by omega)]; exact d3 j hj
          · rw [u2n (by decide), u2n (by decide)]; exact d4
          · rw [u2n (by decide), u2n (by decide), u2n (by decide)]; exact d5
          · rw [u2n (by decide), u2n (by decide), u2n (by decide)]; exact d6
        obtain ⟨K, M4, s0, s1, s2, s3⟩ := ihm (i + 1) (by omega) (P + 1) 0 (upr r i ch) acc (up2 M3 224 (i + 1) (-1)) (by omega) hE3 (by rw [u2e, up1_eq]; rfl) hok (fun j hj => by
          by_cases e : j = i
          · rw [e, upr_e]; omega
          · rw [upr_n e]; exact hr j (by omega))
        refine step (K + 1) M4 _ (Nat.succ_le_succ (Nat.le_trans s0 (stepB_k (by omega)))) (fun F => ?_) s2 (e3.t ((FTM.w (by omega)).t s3)) rfl
        rw [← Nat.add_assoc]
        refine pre (F + K) _ ((if_pos q0).trans ((s1 F).trans ?_))
        rw [← Int32.sub_eq_add_neg, nnS1]
      · have q0 : b01 (chg (upr r i ch) (i + 1) ≤ bestC acc ∧ ∀ q, q < P → gon (upr r i ch) q (i + 1) ≤ gp) = 0 := b01_n q
        refine step 1 M3 acc (Nat.succ_le_succ (Nat.zero_le _)) (fun F => pre F _ (if_neg (fun z => z q0))) e2 e3 ?_
        by_cases q1 : chg (upr r i ch) (i + 1) ≤ bestC acc
        · have : ∃ p, p < P ∧ gp < gon (upr r i ch) p (i + 1) := by
            refine Classical.byContradiction (fun z => q ⟨q1, fun p hp => ?_⟩)
            exact Nat.not_lt.mp (fun z2 => z ⟨p, hp, z2⟩)
          obtain ⟨p, p1, p2⟩ := this
          exact (keep_g (by omega) (by omega) p1 p2).symm
        · refine (keep_b (by omega) ?_).symm
          cases acc with
          | none =>
            exfalso
            have := chg_le (r := upr r i ch) (i + 1)
            exact q1 (Nat.le_trans this (by show i + 1 ≤ 100; omega))
          | some a => exact ⟨a, rfl, Or.inl (Nat.not_le.mp q1)⟩
end WS
end
section
/-! laid turns: who takes part -/
def bitA (f v : Nat) : Int32 := (nn f >>> (nn v &&& 31)) &&& 1
def cntB (f : Nat) : Nat → Nat
  | 0 => 0
  | v + 1 => cntB f v + (if f / 2 ^ v % 2 = 1 then 1 else 0)
section BT
set_option maxRecDepth 100000 in
theorem bit_n : ∀ f, f < 1024 → ∀ v, v < 10 → (f / 2 ^ v % 2 = 1 ∧ bitA f v = 1) ∨ (¬ f / 2 ^ v % 2 = 1 ∧ bitA f v = 0) := by decide +kernel
set_option maxRecDepth 100000 in
theorem bcnt : ∀ f, f < 1024 → jI_bitCount (nn f) (fun _ _ => 0) = some (nn (cntB f 10)) := by decide +kernel
set_option maxRecDepth 100000 in
theorem cnt0 : ∀ f, f < 1024 → (cntB f 10 = 0 ↔ f = 0) := by decide +kernel
set_option maxRecDepth 100000 in
theorem pow_b : ∀ N, N < 11 → ∀ f, f < 1024 → (f < 2 ^ N ↔ ∀ v, v < 10 → f / 2 ^ v % 2 = 1 → v < N) := by decide +kernel
set_option maxRecDepth 100000 in
theorem shl_p : ∀ N, N < 11 → ((1 : Int32) <<< (nn N &&& 31)) = nn (2 ^ N) ∧ 2 ^ N ≤ 1024 := by decide +kernel
end BT
theorem cntB_m {f v : Nat} : ∀ m, cntB f v ≤ cntB f (v + m)
  | 0 => Nat.le_refl _
  | m + 1 => Nat.le_trans (cntB_m m) (Nat.le_add_right _ _)
theorem cntB_e {f v : Nat} : ∀ m, (∀ x, v ≤ x → x < v + m → ¬ f / 2 ^ x % 2 = 1) → cntB f (v + m) = cntB f v
  | 0, _ => rfl
  | m + 1, h => by
    show cntB f (v + m) + (if f / 2 ^ (v + m) % 2 = 1 then 1 else 0) = _
    rw [if_neg (h (v + m) (by omega) (by omega)), cntB_e m (fun x h1 h2 => h x h1 (by omega))]
    rfl
theorem cntB_ex {f : Nat} : ∀ v p, p < cntB f v → ∃ x, x < v ∧ f / 2 ^ x % 2 = 1 ∧ cntB f x = p
  | 0, _, h => absurd h (Nat.not_lt_zero _)
  | v + 1, p, h => by
    by_cases e : f / 2 ^ v % 2 = 1
    · have h : p < cntB f v + (if f / 2 ^ v % 2 = 1 then 1 else 0) := h
      rw [if_pos e] at h
      by_cases e2 : p = cntB f v
      · exact ⟨v, Nat.lt_succ_self _, e, e2.symm⟩
      · obtain ⟨x, h1, h2⟩ := cntB_ex (f := f) v p (by omega)
        exact ⟨x, by omega, h2⟩
    · have h : p < cntB f v + (if f / 2 ^ v % 2 = 1 then 1 else 0) := h
      rw [if_neg e] at h
      obtain ⟨x, h1, h2⟩ := cntB_ex (f := f) v p (by omega)
      exact ⟨x, by omega, h2⟩
section WT
variable {g : Sg} {N C Q f : Nat}
theorem arL (h : RNet g (g 216) N C Q) (hf : f < 1024) : ∀ m v F, v + m = 10 → m < F → net_areFields_15 F (nn f) (nn v) g = some (b01 (∀ x, v ≤ x → x < 10 → f / 2 ^ x % 2 = 1 → x < N ∧ g 3 x = 4)) := by
  have hN := h.hN
  intro m
  induction m with
  | zero =>
    intro v F hv hF
    obtain ⟨F, rfl⟩ : ∃ F2, F = F2 + 1 := ⟨F - 1, by omega⟩
    have : v = 10 := by omega
    subst this
    rw [b01_y (fun x h1 h2 => absurd h1 (by omega))]
    unfold net_areFields_15
    exact if_pos (by decide)
  | succ m ih =>
    intro v F hv hF
    obtain ⟨F, rfl⟩ : ∃ F2, F = F2 + 1 := ⟨F - 1, by omega⟩
    have h3 : ¬ 10 ≤ v := by omega
    have IH := ih (v + 1) F (by omega) (by omega)
    have eb : (nn f >>> (nn v &&& 31)) &&& 1 = bitA f v := rfl
    unfold net_areFields_15
    rw [eb, show nn v + 1 = nn (v + 1) from nnA v 1]
    refine st_f (by simp (disch := first | omega | decide) only [lt1, nnMl, nnMr, nnAl, nnAr, nnA, nnM, nnB, nnT, nnP, nnE, nnEl, nnEr, nnL, nnLl, nnLr, nnQ, nnQr, nnN, Nat.add_zero, if_false, if_true, Option.bind_some, not_true, not_false_iff, not_true_eq_false, not_false_eq_true, eq_self, Nat.not_lt_zero, z10, z01, or_true, true_or, or_false, false_or, true_and, false_and, h3]) ?_
    have ext : (v < N ∧ g 3 v = 4 ∨ ¬ f / 2 ^ v % 2 = 1) → b01 (∀ x, v + 1 ≤ x → x < 10 → f / 2 ^ x % 2 = 1 → x < N ∧ g 3 x = 4) = b01 (∀ x, v ≤ x → x < 10 → f / 2 ^ x % 2 = 1 → x < N ∧ g 3 x = 4) := fun hv2 => by
      by_cases q : ∀ x, v + 1 ≤ x → x < 10 → f / 2 ^ x % 2 = 1 → x < N ∧ g 3 x = 4
      · rw [b01_y q, b01_y (fun x h1 h2 h4 => by
          by_cases e : x = v
          · rw [e] at h4 ⊢
            rcases hv2 with h5 | h5
            · exact h5
            · exact absurd h4 h5
          · exact q x (by omega) h2 h4)]
      · rw [b01_n q, b01_n (fun z => q (fun x h1 h2 => z x (by omega) h2))]
    rcases bit_n f hf v (by omega) with ⟨b1, b2⟩ | ⟨b1, b2⟩
    · refine st_f (fun z => z b2) ?_
      by_cases q : v < N
      · by_cases q2 : g 3 v = 4
        · refine st_b (isField_y h q q2) (st_t (by decide) ?_)
          rw [← ext (Or.inl ⟨q, q2⟩)]
          exact IH
        · refine st_b (isField_k h q q2) (st_f (fun z => z rfl) ?_)
          rw [b01_n (fun z => q2 (z v (Nat.le_refl _) (by omega) b1).2)]
      · refine st_b (isField_n h (fun ⟨n, h1, h2⟩ => by rw [nnQ (by omega) (by omega)] at h2; omega)) (st_f (fun z => z rfl) ?_)
        rw [b01_n (fun z => q (z v (Nat.le_refl _) (by omega) b1).1)]
    · refine st_t (by rw [b2]; decide) ?_
      rw [← ext (Or.inr b1)]
      exact IH
theorem lmL {P : Nat} (hf : f < 1024) (hP : cntB f 10 = P) (hP4 : P ≤ 4) : ∀ m v F (S : Sg), v + m = 10 → m < F → S 208 7 = nn (cntB f v) → S 208 3 = nn f → (∀ x, x < v → f / 2 ^ x % 2 = 1 → S 209 (cntB f x) = nn x) → ∃ S2, turns_listMembers_7 F (nn v) S = some S2 ∧ S2 208 7 = nn P ∧ (∀ x, x < 10 → f / 2 ^ x % 2 = 1 → S2 209 (cntB f x) = nn x) ∧ (∀ i, i ≠ 208 → i ≠ 209 → S2 i = S i) ∧ ∀ j, j ≠ 7 → S2 208 j = S 208 j := by
  intro m
  induction m with
  | zero =>
    intro v F S hv hF h7 h3 hm
    obtain ⟨F, rfl⟩ : ∃ F2, F = F2 + 1 := ⟨F - 1, by omega⟩
    have : v = 10 := by omega
    subst this
    refine ⟨S, ?_, by rw [h7, hP], hm, fun _ _ _ => rfl, fun _ _ => rfl⟩
    unfold turns_listMembers_7
    exact if_pos (by decide)
  | succ m ih =>
    intro v F S hv hF h7 h3 hm
    obtain ⟨F, rfl⟩ : ∃ F2, F = F2 + 1 := ⟨F - 1, by omega⟩
    have hv3 : ¬ 10 ≤ v := by omega
    have hcv : cntB f v ≤ P := by
      have := cntB_m (f := f) (v := v) (m + 1)
      rw [hv, hP] at this
      exact this
    have eb : (nn f >>> (nn v &&& 31)) &&& 1 = bitA f v := rfl
    unfold turns_listMembers_7
    rw [h7, h3, eb, show nn v + 1 = nn (v + 1) from nnA v 1]
    by_cases q : 4 ≤ cntB f v
    · have hno : ∀ x, v ≤ x → x < 10 → ¬ f / 2 ^ x % 2 = 1 := fun x h1 h2 e => by
        have a1 := cntB_m (f := f) (v := v) (x - v)
        rw [show v + (x - v) = x by omega] at a1
        have a2 := cntB_m (f := f) (v := x + 1) (10 - (x + 1))
        rw [show x + 1 + (10 - (x + 1)) = 10 by omega, hP] at a2
        have a3 : cntB f (x + 1) = cntB f x + 1 := by
          show cntB f x + (if f / 2 ^ x % 2 = 1 then 1 else 0) = _
          rw [if_pos e]
        omega
      refine ⟨S, st_f (by simp (disch := first | omega | decide) only [lt1, nnMl, nnMr, nnAl, nnAr, nnA, nnM, nnB, nnT, nnP, nnE, nnEl, nnEr, nnL, nnLl, nnLr, nnQ, nnQr, nnN, Nat.add_zero, if_false, if_true, Option.bind_some, not_true, not_false_iff, not_true_eq_false, not_false_eq_true, eq_self, Nat.not_lt_zero, z10, z01, or_true, true_or, or_false, false_or, true_and, false_and, hv3]) (st_t (by rw [show (4 : Int32) = nn 4 from rfl, nnE (by omega) (by omega)]; exact q) rfl), ?_, fun x h1 h2 => ?_, fun _ _ _ => rfl, fun _ _ => rfl⟩
      · rw [h7]
        congr 1
        omega
      · by_cases e : x < v
        · exact hm x e h2
        · exact absurd h2 (hno x (by omega) h1)
    · have hc4 : cntB f v < 4 := by omega
      rcases bit_n f hf v (by omega) with ⟨b1, b2⟩ | ⟨b1, b2⟩
      · have ec : cntB f (v + 1) = cntB f v + 1 := by
          show cntB f v + (if f / 2 ^ v % 2 = 1 then 1 else 0) = _
          rw [if_pos b1]
        obtain ⟨S2, r1, r2, r3, r4, r5⟩ := ih (v + 1) F (up2 (up2 S 209 (cntB f v) (nn v)) 208 7 (nn (cntB f v + 1))) (by omega) (by omega) (by rw [u2e, up1_eq, ec]) (by rw [u2e, up1_ne (by decide), u2n (by decide)]; exact h3) (fun x h1 h2 => by
          rw [u2n (by decide), u2e]
          by_cases e : x = v
          · rw [e, up1_eq]
          · have a1 := cntB_m (f := f) (v := x + 1) (v - (x + 1))
            rw [show x + 1 + (v - (x + 1)) = v by omega] at a1
            have a3 : cntB f (x + 1) = cntB f x + 1 := by
              show cntB f x + (if f / 2 ^ x % 2 = 1 then 1 else 0) = _
              rw [if_pos h2]
            rw [up1_ne (by omega)]
            exact hm x (by omega) h2)
        refine ⟨S2, st_f (by simp (disch := first | omega | decide) only [lt1, nnMl, nnMr, nnAl, nnAr, nnA, nnM, nnB, nnT, nnP, nnE, nnEl, nnEr, nnL, nnLl, nnLr, nnQ, nnQr, nnN, Nat.add_zero, if_false, if_true, Option.bind_some, not_true, not_false_iff, not_true_eq_false, not_false_eq_true, eq_self, Nat.not_lt_zero, z10, z01, or_true, true_or, or_false, false_or, true_and, false_and, hv3]) (st_f (by rw [show (4 : Int32) = nn 4 from rfl, nnE (by omega) (by omega)]; exact q) (st_f (fun z => z b2) (st_w (by simp (disch := first | omega | decide) only [lt1, nnMl, nnMr, nnAl, nnAr, nnA, nnM, nnB, nnT, nnP, nnE, nnEl, nnEr, nnL, nnLl, nnLr, nnQ, nnQr, nnN, Nat.add_zero, if_false, if_true, Option.bind_some, not_true, not_false_iff, not_true_eq_false, not_false_eq_true, eq_self, Nat.not_lt_zero, z10, z01, or_true, true_or, or_false, false_or, true_and, false_and, hc4]) (st_l ?_)))), r2, r3, fun i h1 h2 => by rw [r4 i h1 h2, u2n h1, u2n h2], fun j h1 => by rw [r5 j h1, u2e, up1_ne h1, u2n (by decide)]⟩
        rw [nnT (by omega), u2n (show 208 ≠ 209 by decide), h7, show nn (cntB f v) + 1 = nn (cntB f v + 1) from nnA _ 1]
        exact r1
      · have ec : cntB f (v + 1) = cntB f v := by
          show cntB f v + (if f / 2 ^ v % 2 = 1 then 1 else 0) = _
          rw [if_neg b1, Nat.add_zero]
        obtain ⟨S2, r1, r2, r3, r4⟩ := ih (v + 1) F S (by omega) (by omega) (by rw [ec]; exact h7) h3 (fun x h1 h2 => by
          by_cases e : x = v
          · rw [e] at h2; exact absurd h2 b1
          · exact hm x (by omega) h2)
        exact ⟨S2, st_f (by simp (disch := first | omega | decide) only [lt1, nnMl, nnMr, nnAl, nnAr, nnA, nnM, nnB, nnT, nnP, nnE, nnEl, nnEr, nnL, nnLl, nnLr, nnQ, nnQr, nnN, Nat.add_zero, if_false, if_true, Option.bind_some, not_true, not_false_iff, not_true_eq_false, not_false_eq_true, eq_self, Nat.not_lt_zero, z10, z01, or_true, true_or, or_false, false_or, true_and, false_and, hv3]) (st_f (by rw [show (4 : Int32) = nn 4 from rfl, nnE (by omega) (by omega)]; exact q) (st_t (by rw [b2]; decide) r1)), r2, r3, r4⟩
theorem tpL {c : Sg} {a0 : Nat → Int32} (h : RNet c a0 N C Q) (hf : f < 1024) : ∀ m v F (M : Sg), v + m = N → m < F → M 216 = a0 → M 215 30 = nn (cntB f v) → cntB f v ≤ 4 → (∀ x, x < v → f / 2 ^ x % 2 = 1 → M 223 (cntB f x) = nn x) → ((∀ x, v ≤ x → x < N → f / 2 ^ x % 2 = 1 → c 3 x = 4) ∧ cntB f N ≤ 4 → ∃ M2, m_takesPart_25 F (nn f) (nn v) M = some (1, M2) ∧ M2 215 30 = nn (cntB f N) ∧ (∀ x, x < N → f / 2 ^ x % 2 = 1 → M2 223 (cntB f x) = nn x) ∧ ∀ i, i ≠ 215 → i ≠ 223 → M2 i = M i) ∧ (¬ ((∀ x, v ≤ x → x < N → f / 2 ^ x % 2 = 1 → c 3 x = 4) ∧ cntB f N ≤ 4) → ∃ M2, m_takesPart_25 F (nn f) (nn v) M = some (0, M2) ∧ ∀ i, i ≠ 215 → i ≠ 223 → M2 i = M i) := by
  have hN := h.hN
  intro m
  induction m with
  | zero =>
    intro v F M hv hF hA h30 hc4 hm
    obtain ⟨F, rfl⟩ : ∃ F2, F = F2 + 1 := ⟨F - 1, by omega⟩
    have : v = N := by omega
    subst this
    have e : m_takesPart_25 (F + 1) (nn f) (nn v) M = some (1, M) := by
      unfold m_takesPart_25
      rw [hA, h.aN]
      exact if_pos (Int32.le_refl _)
    exact ⟨fun _ => ⟨M, e, h30, hm, fun _ _ _ => rfl⟩, fun q => absurd ⟨fun x h1 h2 => absurd h1 (by omega), hc4⟩ q⟩
  | succ m ih =>
    intro v F M hv hF hA h30 hc4 hm
    obtain ⟨F, rfl⟩ : ∃ F2, F = F2 + 1 := ⟨F - 1, by omega⟩
    have hv3 : ¬ N ≤ v := by omega
    have hv10 : v < 10 := by omega
    have eb : (nn f >>> (nn v &&& 31)) &&& 1 = bitA f v := rfl
    have hk : m_nodeOf_k0 (nn v) M = some (c 3 v) := by
      rw [← h.kind v hv10, ← hA]
      exact nodeOf0_y hv10
    have hex : ∀ x, x < v → f / 2 ^ x % 2 = 1 → cntB f x < cntB f v := fun x h1 h2 => by
      have a1 := cntB_m (f := f) (v := x + 1) (v - (x + 1))
      rw [show x + 1 + (v - (x + 1)) = v by omega] at a1
      have a3 : cntB f (x + 1) = cntB f x + 1 := by
        show cntB f x + (if f / 2 ^ x % 2 = 1 then 1 else 0) = _
        rw [if_pos h2]
      omega
    unfold m_takesPart_25
    rw [hA, h.aN, eb, show nn v + 1 = nn (v + 1) from nnA v 1]
    rcases bit_n f hf v (by omega) with ⟨b1, b2⟩ | ⟨b1, b2⟩
    · have ec : cntB f (v + 1) = cntB f v + 1 := by
        show cntB f v + (if f / 2 ^ v % 2 = 1 then 1 else 0) = _
        rw [if_pos b1]
      have hcN : cntB f (v + 1) ≤ cntB f N := by
        have := cntB_m (f := f) (v := v + 1) m
        rw [show v + 1 + m = N by omega] at this
        exact this
      by_cases q : c 3 v = 4
      rotate_left
      · exact ⟨fun z => absurd (z.1 v (Nat.le_refl _) (by omega) b1) q, fun _ => ⟨M, st_f (by simp (disch := first | omega | decide) only [lt1, nnMl, nnMr, nnAl, nnAr, nnA, nnM, nnB, nnT, nnP, nnE, nnEl, nnEr, nnL, nnLl, nnLr, nnQ, nnQr, nnN, Nat.add_zero, if_false, if_true, Option.bind_some, not_true, not_false_iff, not_true_eq_false, not_false_eq_true, eq_self, Nat.not_lt_zero, z10, z01, or_true, true_or, or_false, false_or, true_and, false_and, hv3]) (st_t (by rw [b2]; decide) (st_b hk (st_t q rfl))), fun _ _ _ => rfl⟩⟩
      by_cases q4 : cntB f v = 4
      · exact ⟨fun z => by have := z.2; omega, fun _ => ⟨M, st_f (by simp (disch := first | omega | decide) only [lt1, nnMl, nnMr, nnAl, nnAr, nnA, nnM, nnB, nnT, nnP, nnE, nnEl, nnEr, nnL, nnLl, nnLr, nnQ, nnQr, nnN, Nat.add_zero, if_false, if_true, Option.bind_some, not_true, not_false_iff, not_true_eq_false, not_false_eq_true, eq_self, Nat.not_lt_zero, z10, z01, or_true, true_or, or_false, false_or, true_and, false_and, hv3]) (st_t (by rw [b2]; decide) (st_b hk (st_f (fun z => z q) (st_f (fun z => z (by rw [h30, q4]; rfl)) rfl)))), fun _ _ _ => rfl⟩⟩
      have hc : cntB f v < 4 := by omega
      obtain ⟨i1, i2⟩ := ih (v + 1) F (up2 (up2 M 223 (cntB f v) (nn v)) 215 30 (nn (cntB f v + 1))) (by omega) (by omega) (by rw [u2n (by decide), u2n (by decide)]; exact hA) (by rw [u2e, up1_eq, ec]) (by omega) (fun x h1 h2 => by
        rw [u2n (by decide), u2e]
        by_cases e : x = v
        · rw [e, up1_eq]
        · have := hex x (by omega) h2
          rw [up1_ne (by omega)]
          exact hm x (by omega) h2)
      have pre : ∀ rr, m_takesPart_25 F (nn f) (nn (v + 1)) (up2 (up2 M 223 (cntB f v) (nn v)) 215 30 (nn (cntB f v + 1))) = rr → (if nn N ≤ nn v then some (1, M) else (if ¬ bitA f v = 0 then Option.bind (m_nodeOf_k0 (nn v) M) (fun x1 => (if ¬ x1 = 4 then (some (0, M)) else (if ¬ (M 215 30) = 4 then (if inb (M 215 30) 4 = true then lt1 (up2 M 223 (Int32.toNatClampNeg (M 215 30)) (nn v)) (fun g2 => lt1 (up2 g2 215 30 ((g2 215 30) + 1)) (fun g3 => (m_takesPart_25 F (nn f) (nn (v + 1)) g3))) else none) else (some (0, M))))) else (m_takesPart_25 F (nn f) (nn (v + 1)) M))) = rr := fun rr hr => by
        refine st_f (by simp (disch := first | omega | decide) only [lt1, nnMl, nnMr, nnAl, nnAr, nnA, nnM, nnB, nnT, nnP, nnE, nnEl, nnEr, nnL, nnLl, nnLr, nnQ, nnQr, nnN, Nat.add_zero, if_false, if_true, Option.bind_some, not_true, not_false_iff, not_true_eq_false, not_false_eq_true, eq_self, Nat.not_lt_zero, z10, z01, or_true, true_or, or_false, false_or, true_and, false_and, hv3]) (st_t (by rw [b2]; decide) (st_b hk (st_f (fun z => z q) (st_t ?_ ?_))))
        · rw [h30]; exact nnNe (b := 4) (by omega) (by decide) q4
        · rw [h30]
          refine st_w (by simp (disch := first | omega | decide) only [lt1, nnMl, nnMr, nnAl, nnAr, nnA, nnM, nnB, nnT, nnP, nnE, nnEl, nnEr, nnL, nnLl, nnLr, nnQ, nnQr, nnN, Nat.add_zero, if_false, if_true, Option.bind_some, not_true, not_false_iff, not_true_eq_false, not_false_eq_true, eq_self, Nat.not_lt_zero, z10, z01, or_true, true_or, or_false, false_or, true_and, false_and, hc]) (st_l ?_)
          rw [nnT (by omega), u2n (show 215 ≠ 223 by decide), h30, show nn (cntB f v) + 1 = nn (cntB f v + 1) from nnA _ 1]
          exact hr
      refine ⟨fun z => ?_, fun z => ?_⟩
      · obtain ⟨M2, r1, r2, r3, r4⟩ := i1 ⟨fun x h1 h2 => z.1 x (by omega) h2, z.2⟩
        exact ⟨M2, pre _ r1, r2, r3, fun i h1 h2 => by rw [r4 i h1 h2, u2n h1, u2n h2]⟩
      · obtain ⟨M2, r1, r4⟩ := i2 (fun z2 => z ⟨fun x h1 h2 h5 => by
          by_cases e : x = v
          · rw [e]; exact q
          · exact z2.1 x (by omega) h2 h5, z2.2⟩)
        exact ⟨M2, pre _ r1, fun i h1 h2 => by rw [r4 i h1 h2, u2n h1, u2n h2]⟩
    · have ec : cntB f (v + 1) = cntB f v := by
        show cntB f v + (if f / 2 ^ v % 2 = 1 then 1 else 0) = _
        rw [if_neg b1, Nat.add_zero]
      obtain ⟨i1, i2⟩ := ih (v + 1) F M (by omega) (by omega) hA (by rw [ec]; exact h30) (by rw [ec]; exact hc4) (fun x h1 h2 => by
        by_cases e : x = v
        · rw [e] at h2; exact absurd h2 b1
        · exact hm x (by omega) h2)
      refine ⟨fun z => ?_, fun z => ?_⟩
      · obtain ⟨M2, r1, r2⟩ := i1 ⟨fun x h1 h2 => z.1 x (by omega) h2, z.2⟩
        exact ⟨M2, st_f (by simp (disch := first | omega | decide) only [lt1, nnMl, nnMr, nnAl, nnAr, nnA, nnM, nnB, nnT, nnP, nnE, nnEl, nnEr, nnL, nnLl, nnLr, nnQ, nnQr, nnN, Nat.add_zero, if_false, if_true, Option.bind_some, not_true, not_false_iff, not_true_eq_false, not_false_eq_true, eq_self, Nat.not_lt_zero, z10, z01, or_true, true_or, or_false, false_or, true_and, false_and, hv3]) (st_f (fun z => z b2) r1), r2⟩
      · obtain ⟨M2, r1, r4⟩ := i2 (fun z2 => z ⟨fun x h1 h2 h5 => by
          by_cases e : x = v
          · rw [e] at h5; exact absurd h5 b1
          · exact z2.1 x (by omega) h2 h5, z2.2⟩)
        exact ⟨M2, st_f (by simp (disch := first | omega | decide) only [lt1, nnMl, nnMr, nnAl, nnAr, nnA, nnM, nnB, nnT, nnP, nnE, nnEl, nnEr, nnL, nnLl, nnLr, nnQ, nnQr, nnN, Nat.add_zero, if_false, if_true, Option.bind_some, not_true, not_false_iff, not_true_eq_false, not_false_eq_true, eq_self, Nat.not_lt_zero, z10, z01, or_true, true_or, or_false, false_or, true_and, false_and, hv3]) (st_f (fun z => z b2) r1), r4⟩
end WT
/-- rows stay within the choices -/
def accB (n P : Nat) (acc : Acc) : Prop := ∀ a, acc = some a → ∀ i, i < n → a.2.2 i ≤ P
theorem fcs_b {n P : Nat} {f : Nat → Acc → Acc} : ∀ k ch acc, (∀ c2 a, ch ≤ c2 → c2 < ch + k → accB n P a → accB n P (f c2 a)) → accB n P acc → accB n P (fcs f k ch acc)
  | 0, _, _, _, h => h
  | k + 1, ch, acc, hf, h => fcs_b k (ch + 1) (f ch acc) (fun c2 a h1 h2 => hf c2 a (by omega) (by omega)) (hf ch acc (Nat.le_refl _) (by omega) h)
theorem full_b {P n0 gp n : Nat} : ∀ m s r acc, s + m = n → (∀ i, i < s → r i ≤ P) → accB n P acc → accB n P (full P n0 gp n m s r acc)
  | 0, s, r, acc, hs, hr, h => by
    show accB n P (updA P n0 gp n r acc)
    by_cases q : okR r P n0 gp n ∧ btr acc (chg r n) (hld r P n)
    · rw [updA_y q]
      intro a e i hi
      cases e
      show (if i < n then r i else 0) ≤ P
      rw [if_pos hi]
      exact hr i (by omega)
    · rw [updA_n q]; exact h
  | m + 1, s, r, acc, hs, hr, h => by
    refine fcs_b (P + 1) 0 acc (fun c2 a _ h2 ha => ?_) h
    exact full_b m (s + 1) (upr r s c2) a (by omega) (fun i hi => by
      by_cases e : i = s
      · rw [e, upr_e]; omega
      · rw [upr_n e]; exact hr i (by omega)) ha
end
section
/-! lay, laid -/
/-- what the class keeps of the turns asked for last; and the model's first places -/
def TSd (g : Sg) : Prop := g 229 0 = 0 ∧ g 230 0 = 0 ∧ (g 208 2 = 0 ∨ ∃ n f n0 gp, 1 ≤ n ∧ n ≤ 8 ∧ f < 1024 ∧ n0 ≤ 4 ∧ gp ≤ 7 ∧ 1 ≤ cntB f 10 ∧ cntB f 10 ≤ 4 ∧ g 208 2 = nn n ∧ g 208 3 = nn f ∧ g 208 4 = nn n0 ∧ g 208 5 = nn gp ∧ g 208 7 = nn (cntB f 10) ∧ ARep g n (full (cntB f 10) n0 gp n n 0 (fun _ => 0) none) ∧ ∀ x, x < 10 → f / 2 ^ x % 2 = 1 → g 209 (cntB f x) = nn x)
theorem TSd_f : TSf TSd := by
  intro g g2 h ht
  obtain ⟨h1, h2, h3⟩ := ht
  have e8 := h 208 (by omega) (by omega)
  have e9 := h 209 (by omega) (by omega)
  have e11 := h 211 (by omega) (by omega)
  refine ⟨by rw [h 229 (by omega) (by omega)]; exact h1, by rw [h 230 (by omega) (by omega)]; exact h2, ?_⟩
  rw [e8, e9]
  rcases h3 with h3 | ⟨n, f, n0, gp, q1, q2, q3, q4, q5, q6, q7, q8, q9, q10, q11, q12, q13, q14⟩
  · exact Or.inl h3
  · exact Or.inr ⟨n, f, n0, gp, q1, q2, q3, q4, q5, q6, q7, q8, q9, q10, q11, q12, q13.cg e8 e11, q14⟩
/-- turns may be looked for -/
def fOk (g : Sg) (N : Nat) (v1 v2 v3 v4 : Int32) (n f n0 gp : Nat) : Prop := v1 = nn n ∧ 1 ≤ n ∧ n ≤ 8 ∧ v2 = nn f ∧ f < 1024 ∧ v3 = nn n0 ∧ 1 ≤ n0 ∧ n0 ≤ 4 ∧ v4 = nn gp ∧ gp ≤ 7 ∧ 1 ≤ cntB f 10 ∧ cntB f 10 ≤ 4 ∧ ∀ x, x < 10 → f / 2 ^ x % 2 = 1 → x < N ∧ g 3 x = 4
def fAcc (f n0 gp n : Nat) : Acc → Acc := fun _ => none
noncomputable def tAcc (f n0 gp n : Nat) : Acc := full (cntB f 10) n0 gp n n 0 (fun _ => 0) none
def found (acc : Acc) : Int32 := match acc with
  | none => 0
  | some _ => 1
section WU
variable {g : Sg} {N C Q : Nat}
theorem ARep_f {S : Sg} {n : Nat} {acc : Acc} (h : ARep S n acc) : S 208 6 = found acc := by
  rcases h with ⟨rfl, e⟩ | ⟨a, rfl, e, _⟩
  · exact e
  · exact e
theorem found01 (acc : Acc) : found acc = 0 ∨ found acc = 1 := by
  cases acc
  · exact Or.inl rfl
  · exact Or.inr rfl
/-- the class's cells behind a search -/
def TR (S : Sg) (n f n0 gp : Nat) : Prop := S 208 2 = nn n ∧ S 208 3 = nn f ∧ S 208 4 = nn n0 ∧ S 208 5 = nn gp ∧ S 208 7 = nn (cntB f 10) ∧ ARep S n (tAcc f n0 gp n) ∧ ∀ x, x < 10 → f / 2 ^ x % 2 = 1 → S 209 (cntB f x) = nn x
theorem sea_x {S : Sg} {n f n0 gp : Nat} (h1 : 1 ≤ n) (h2 : n ≤ 8) (hf : f < 1024) (hn0 : n0 ≤ 4) (hgp : gp ≤ 7) (hc1 : 1 ≤ cntB f 10) (hc4 : cntB f 10 ≤ 4) {F : Nat} (hF : 20 < F) : ∃ S2, turns_search_38 F (nn n) (nn f) (nn n0) (nn gp) S = some (found (tAcc f n0 gp n), S2) ∧ TR S2 n f n0 gp ∧ ∀ i, (i < 208 ∨ 214 < i) → S2 i = S i := by
  obtain ⟨L2, l1, l2, l3, l4, l5⟩ := lmL hf rfl hc4 10 0 F (up2 (up2 (up2 (up2 (up2 (up2 S 208 2 (nn n)) 208 3 (nn f)) 208 4 (nn n0)) 208 5 (nn gp)) 208 6 0) 208 7 0) (by omega) (by omega) (by simp (disch := first | omega | decide) only [u2e, u2n, up1_eq, up1_ne, ne_eq]; rfl) (by simp (disch := first | omega | decide) only [u2e, u2n, up1_eq, up1_ne, ne_eq]) (fun x hx => absurd hx (Nat.not_lt_zero _))
  obtain ⟨a, a1, a2⟩ := jA_fill_c5_y (v := 0) (s := L2) (F := F) (by omega)
  obtain ⟨b, b1, b2⟩ := jA_fill_c6_y (v := 0) (s := sc L2 212 a) (F := F) (by omega)
  obtain ⟨d, d1, d2⟩ := jA_fill_c7_y (v := -1) (s := sc (sc L2 212 a) 213 b) (F := F) (by omega)
  have e8 : ∀ j, sc (sc (sc L2 212 a) 213 b) 214 d 208 j = L2 208 j := fun j => by rw [sc_n (by decide), sc_n (by decide), sc_n (by decide)]
  have hCI : CI (sc (sc (sc L2 212 a) 213 b) 214 d) n n0 gp (cntB f 10) (fun _ => 0) 0 none := by
    refine ⟨?_, ?_, ?_, ?_, Or.inl ⟨rfl, ?_⟩, fun i hi => absurd hi (Nat.not_lt_zero _), fun q hq => ⟨?_, ?_, ?_⟩⟩
    · rw [e8, l5 2 (by decide)]; simp (disch := first | omega | decide) only [u2e, u2n, up1_eq, up1_ne, ne_eq]
    · rw [e8, l5 4 (by decide)]; simp (disch := first | omega | decide) only [u2e, u2n, up1_eq, up1_ne, ne_eq]
    · rw [e8, l5 5 (by decide)]; simp (disch := first | omega | decide) only [u2e, u2n, up1_eq, up1_ne, ne_eq]
    · rw [e8, l2]
    · rw [e8, l5 6 (by decide)]; simp (disch := first | omega | decide) only [u2e, u2n, up1_eq, up1_ne, ne_eq]
    · rw [sc_n (by decide), sc_n (by decide), sc_e, a1 q (by omega)]; rfl
    · rw [sc_n (by decide), sc_e, b1 q (by omega)]; rfl
    · rw [sc_e, d1 q (by omega)]; rfl
  obtain ⟨S2, p1, p2, p3⟩ := place_y (by omega) hc4 h2 (by omega) hn0 hgp (F := F) (by omega) n 0 (fun _ => 0) none _ 10 (by omega) (by omega) hCI (fun i hi => absurd hi (Nat.not_lt_zero _)) (fun i hi => absurd hi (Nat.not_lt_zero _)) (Or.inl rfl) (Or.inl (by omega))
  have eA := ARep_f p2.2.2.2.2.1
  refine ⟨S2, ?_, ⟨p2.1, ?_, p2.2.1, p2.2.2.1, p2.2.2.2.1, p2.2.2.2.2.1, fun x hx hb => ?_⟩, fun i hi => ?_⟩
  · unfold turns_search_38
    refine st_l (st_l (st_l (st_l (st_l (st_b (x := L2) ?_ (st_b a2 (st_b b2 (st_b d2 (st_b (x := S2) p1 ?_)))))))))
    · unfold turns_listMembers
      exact st_l l1
    · rw [eA]
      exact st_t (found01 _) rfl
  · rw [p3.2 3 (by decide) (by decide) (by decide), e8, l5 3 (by decide)]; simp (disch := first | omega | decide) only [u2e, u2n, up1_eq, up1_ne, ne_eq]
  · rw [p3.1 209 (by decide) (by decide) (by decide) (by decide) (by decide) (by decide), sc_n (by decide), sc_n (by decide), sc_n (by decide)]; exact l3 x hx hb
  · rw [p3.1 i (by omega) (by omega) (by omega) (by omega) (by omega) (by omega), sc_n (by omega), sc_n (by omega), sc_n (by omega), l4 i (by omega) (by omega)]
    rw [u2n (by omega), u2n (by omega), u2n (by omega), u2n (by omega), u2n (by omega), u2n (by omega)]
theorem find_x (h : RNet g (g 216) N C Q) (hT : TSd g) {v1 v2 v3 v4 : Int32} {F : Nat} (hF : 20 < F) : (∀ n f n0 gp, fOk g N v1 v2 v3 v4 n f n0 gp → ∃ S2, x_findTurns F v1 v2 v3 v4 g = some (found (tAcc f n0 gp n), S2) ∧ TR S2 n f n0 gp ∧ ∀ i, (i < 208 ∨ 214 < i) → S2 i = g i) ∧ ((¬ ∃ n f n0 gp, fOk g N v1 v2 v3 v4 n f n0 gp) → x_findTurns F v1 v2 v3 v4 g = some (0, g)) := by
  have hN := h.hN
  have bc : ∀ f, f < 1024 → jI_bitCount (nn f) g = some (nn (cntB f 10)) := fun f hf => bcnt f hf
  have af : ∀ f, f < 1024 → net_areFields F (nn f) g = some (b01 (∀ x, 0 ≤ x → x < 10 → f / 2 ^ x % 2 = 1 → x < N ∧ g 3 x = 4)) := fun f hf => by
    unfold net_areFields
    refine st_f (by rw [nnP (by omega)]; exact id) (st_t (by rw [show (1024 : Int32) = nn 1024 from rfl, nnL (by omega) (by omega)]; exact hf) ?_)
    exact arL h hf 10 0 F (by omega) (by omega)
  constructor
  · rintro n f n0 gp ⟨rfl, n1, n8, rfl, hf, rfl, k1, k4, rfl, hgp, c1, c4, hm⟩
    have srch : ∃ S2, turns_search F (nn n) (nn f) (nn n0) (nn gp) g = some (found (tAcc f n0 gp n), S2) ∧ TR S2 n f n0 gp ∧ ∀ i, (i < 208 ∨ 214 < i) → S2 i = g i := by
      have miss : ∀ P : Option (Int32 × Sg), P = turns_search_38 F (nn n) (nn f) (nn n0) (nn gp) g → ∃ S2, P = some (found (tAcc f n0 gp n), S2) ∧ TR S2 n f n0 gp ∧ ∀ i, (i < 208 ∨ 214 < i) → S2 i = g i := fun P hP => by
        obtain ⟨S2, r1, r2⟩ := sea_x (S := g) n1 n8 hf k4 hgp c1 c4 hF
        exact ⟨S2, hP.trans r1, r2⟩
      unfold turns_search
      by_cases e1 : nn n = g 208 2
      rotate_left
      · exact miss _ (if_pos e1)
      rw [if_neg (fun z => z e1)]
      by_cases e2 : nn f = g 208 3
      rotate_left
      · exact miss _ (if_pos e2)
      rw [if_neg (fun z => z e2)]
      by_cases e3 : nn n0 = g 208 4
      rotate_left
      · exact miss _ (if_pos e3)
      rw [if_neg (fun z => z e3)]
      by_cases e4 : nn gp = g 208 5
      rotate_left
      · exact miss _ (if_pos e4)
      rw [if_neg (fun z => z e4)]
      rcases hT.2.2 with h0 | ⟨n', f', n0', gp', q1, q2, q3, q4, q5, q6, q7, q8, q9, q10, q11, q12, q13, q14⟩
      · rw [h0] at e1
        exact absurd e1 (nnNe (b := 0) (by omega) (by decide) (by omega))
      · have a1 : n = n' := by rw [q8, nnQ (by omega) (by omega)] at e1; exact e1
        have a2 : f = f' := by rw [q9, nnQ (by omega) (by omega)] at e2; exact e2
        have a3 : n0 = n0' := by rw [q10, nnQ (by omega) (by omega)] at e3; exact e3
        have a4 : gp = gp' := by rw [q11, nnQ (by omega) (by omega)] at e4; exact e4
        subst a1 a2 a3 a4
        refine ⟨g, ?_, ⟨q8, q9, q10, q11, q12, q13, q14⟩, fun _ _ => rfl⟩
        rw [ARep_f q13]
        exact st_t (found01 _) rfl
    obtain ⟨S2, r1, r2⟩ := srch
    refine ⟨S2, ?_, r2⟩
    have w1 : x_within (nn n) 1 8 g = some 1 := by
      rw [within_eq, if_pos ⟨by rw [show (1 : Int32) = nn 1 from rfl, nnE (by omega) (by omega)]; exact n1, by rw [show (8 : Int32) = nn 8 from rfl, nnE (by omega) (by omega)]; exact n8⟩]
    have w2 : x_within (nn n0) 1 4 g = some 1 := by
      rw [within_eq, if_pos ⟨by rw [show (1 : Int32) = nn 1 from rfl, nnE (by omega) (by omega)]; exact k1, by rw [show (4 : Int32) = nn 4 from rfl, nnE (by omega) (by omega)]; exact k4⟩]
    have w3 : x_within (nn gp) 0 7 g = some 1 := wthK_y (K := 7) rfl (by decide) hgp
    have w4 : x_within (nn (cntB f 10)) 1 4 g = some 1 := by
      rw [within_eq, if_pos ⟨by rw [show (1 : Int32) = nn 1 from rfl, nnE (by omega) (by omega)]; exact c1, by rw [show (4 : Int32) = nn 4 from rfl, nnE (by omega) (by omega)]; exact c4⟩]
    unfold x_findTurns
    refine st_b w1 (st_f (by decide) (st_b w2 (st_f (by decide) (st_b w3 (st_t (by decide) (st_b (bc f hf) (st_b w4 (st_f (by decide) (st_b (af f hf) (st_t ?_ (st_b r1 (st_t (found01 _) rfl))))))))))))
    rw [b01_y (fun x _ h1 h2 => hm x h1 h2)]
    decide
  · intro hno
    unfold x_findTurns
    rcases chkB v1 1 8 8 rfl (by decide) (by decide) with ⟨n, n1, n8, rfl, x1, _⟩ | ⟨x1, _⟩
    rotate_left
    · exact st_b (x1 g) (st_t rfl rfl)
    refine st_b (x1 g) (st_f (by decide) ?_)
    rcases chkB v3 1 4 4 rfl (by decide) (by decide) with ⟨n0, k1, k4, rfl, x3, _⟩ | ⟨x3, _⟩
    rotate_left
    · exact st_b (x3 g) (st_t rfl rfl)
    refine st_b (x3 g) (st_f (by decide) ?_)
    rcases chk v4 7 7 rfl (by decide) with ⟨gp, hgp, rfl, x4, _⟩ | ⟨x4, _⟩
    rotate_left
    · exact st_b (x4 g) (st_f (by decide) rfl)
    refine st_b (x4 g) (st_t (by decide) ?_)
    by_cases hv : ∃ f, f < 1024 ∧ v2 = nn f
    · obtain ⟨f, hf, rfl⟩ := hv
      refine st_b (bc f hf) ?_
      rcases chkB (nn (cntB f 10)) 1 4 4 rfl (by decide) (by decide) with ⟨k, c1, c4, ek, x5, _⟩ | ⟨x5, _⟩
      rotate_left
      · exact st_b (x5 g) (st_t rfl rfl)
      refine st_b (x5 g) (st_f (by decide) (st_b (af f hf) (st_f ?_ rfl)))
      have hcb : cntB f 10 ≤ 10 := by
        have : ∀ v, cntB f v ≤ v := fun v => by
          induction v with
          | zero => exact Nat.le_refl _
          | succ v ih =>
            show cntB f v + (if f / 2 ^ v % 2 = 1 then 1 else 0) ≤ v + 1
            split <;> omega
        exact this 10
      rw [nnQ (by omega) (by omega)] at ek
      rw [b01_n (fun z => hno ⟨n, f, n0, gp, rfl, n1, n8, rfl, hf, rfl, k1, k4, rfl, hgp, by omega, by omega, fun x h1 h2 => z x (Nat.zero_le _) h1 h2⟩)]
      exact fun z => z rfl
    · have ar0 : net_areFields F v2 g = some 0 := by
        unfold net_areFields
        by_cases q : v2 < 0
        · exact st_t q rfl
        · refine st_f q (st_f (fun q2 => ?_) rfl)
          exact hv ((rg (N := 1024) (by decide)).mp ⟨q, q2⟩)
      obtain ⟨bx, hbx⟩ : ∃ b, jI_bitCount v2 g = some b := ⟨_, rfl⟩
      refine st_b hbx ?_
      have hw : ∃ b, (b = 0 ∨ b = 1) ∧ x_within bx 1 4 g = some b := by
        rw [within_eq]
        by_cases q : (1 : Int32) ≤ bx ∧ bx ≤ 4
        · exact ⟨1, Or.inr rfl, by rw [if_pos q]⟩
        · exact ⟨0, Or.inl rfl, by rw [if_neg q]⟩
      obtain ⟨b, hb, hbe⟩ := hw
      refine st_b hbe ?_
      rcases hb with rfl | rfl
      · exact st_t rfl rfl
      · exact st_f (by decide) (st_b ar0 (st_f (fun z => z rfl) rfl))
/-- the model's cells behind a search -/
def MR (M : Sg) (n f n0 gp : Nat) : Prop := M 215 30 = nn (cntB f 10) ∧ MRep M n (tAcc f n0 gp n) ∧ ∀ x, x < 10 → f / 2 ^ x % 2 = 1 → M 223 (cntB f x) = nn x
def MFr (M M2 : Sg) : Prop := (∀ i, i ≠ 215 → i ≠ 223 → (i < 224 ∨ 230 < i) → M2 i = M i) ∧ M2 229 0 = 0 ∧ M2 230 0 = 0
theorem ini4 {P n : Nat} {v1 v3 v4 : Int32} {F0 : Nat} : ∀ m v F (M : Sg), v + m = 4 → m < F → (∀ q, q < v → M 226 q = 0 ∧ M 227 q = 0 ∧ M 228 q = 0) → ∃ M2, m_lays_54 F0 F v1 v3 v4 (nn v) M = m_lays_100 F0 F0 v1 v3 v4 0 (up2 M2 224 0 (-1)) ∧ (∀ q, q < 4 → M2 226 q = 0 ∧ M2 227 q = 0 ∧ M2 228 q = 0) ∧ ∀ i, i ≠ 226 → i ≠ 227 → i ≠ 228 → M2 i = M i := by
  intro m
  induction m with
  | zero =>
    intro v F M hv hF hq
    obtain ⟨F, rfl⟩ : ∃ F2, F = F2 + 1 := ⟨F - 1, by omega⟩
    have : v = 4 := by omega
    subst this
    refine ⟨M, ?_, hq, fun _ _ _ _ => rfl⟩
    unfold m_lays_54
    exact st_t (by decide) rfl
  | succ m ih =>
    intro v F M hv hF hq
    obtain ⟨F, rfl⟩ : ∃ F2, F = F2 + 1 := ⟨F - 1, by omega⟩
    have h4 : ¬ 4 ≤ v := by omega
    have h36 : v < 36 := by omega
    have hi : inb (nn v) 36 = true := by simp (disch := first | omega | decide) only [lt1, nnMl, nnMr, nnAl, nnAr, nnA, nnM, nnB, nnT, nnP, nnE, nnEl, nnEr, nnL, nnLl, nnLr, nnQ, nnQr, nnN, Nat.add_zero, if_false, if_true, Option.bind_some, not_true, not_false_iff, not_true_eq_false, not_false_eq_true, eq_self, Nat.not_lt_zero, z10, z01, or_true, true_or, or_false, false_or, true_and, false_and, h36]
    obtain ⟨M2, r1, r2, r3⟩ := ih (v + 1) F (up2 (up2 (up2 M 226 v 0) 227 v 0) 228 v 0) (by omega) (by omega) (fun q h => by
      rw [u2n (show 226 ≠ 228 by decide), u2n (show 226 ≠ 227 by decide), u2e, u2n (show 227 ≠ 228 by decide), u2e, u2n (show 227 ≠ 226 by decide), u2e, u2n (show 228 ≠ 227 by decide), u2n (show 228 ≠ 226 by decide)]
      by_cases e : q = v
      · rw [e, up1_eq, up1_eq, up1_eq]; exact ⟨rfl, rfl, rfl⟩
      · rw [up1_ne e, up1_ne e, up1_ne e]; exact hq q (by omega))
    refine ⟨M2, ?_, r2, fun i a b d => by rw [r3 i a b d, u2n d, u2n b, u2n a]⟩
    unfold m_lays_54
    rw [nnT (by omega), show nn v + 1 = nn (v + 1) from nnA v 1]
    exact st_f (by simp (disch := first | omega | decide) only [lt1, nnMl, nnMr, nnAl, nnAr, nnA, nnM, nnB, nnT, nnP, nnE, nnEl, nnEr, nnL, nnLl, nnLr, nnQ, nnQr, nnN, Nat.add_zero, if_false, if_true, Option.bind_some, not_true, not_false_iff, not_true_eq_false, not_false_eq_true, eq_self, Nat.not_lt_zero, z10, z01, or_true, true_or, or_false, false_or, true_and, false_and, h4]) (st_w hi (st_w hi (st_w hi r1)))
theorem lays_y {c M : Sg} {n f n0 gp : Nat} {v1 v2 v3 v4 : Int32} (h : RNet c (M 216) N C Q) (h9 : M 229 0 = 0) (h30 : M 230 0 = 0) (ok : fOk c N v1 v2 v3 v4 n f n0 gp) {F : Nat} (hF : stepB 8 5 + 100 < F) : ∃ M2, m_lays F v1 v2 v3 v4 M = some (found (tAcc f n0 gp n), M2) ∧ MR M2 n f n0 gp ∧ MFr M M2 := by
  have hN := h.hN
  obtain ⟨rfl, n1, n8, rfl, hf, rfl, k1, k4, rfl, hgp, c1, c4, hm⟩ := ok
  have hF8 : 100 < F := by omega
  have ecN : cntB f N = cntB f 10 := by
    have := cntB_e (f := f) (v := N) (10 - N) (fun x h1 h2 h3 => by have := (hm x (by omega) h3).1; omega)
    rw [show N + (10 - N) = 10 by omega] at this
    exact this.symm
  have f0 : ¬ f = 0 := fun e => by have := (cnt0 f hf).mpr e; omega
  have fN : f < 2 ^ N := (pow_b N (by omega) f hf).mpr (fun x h1 h2 => (hm x h1 h2).1)
  obtain ⟨sp1, sp2⟩ := shl_p N (by omega)
  obtain ⟨t1, _⟩ := tpL h hf N 0 F (up2 M 215 30 0) (by omega) (by omega) (u2n (by decide)) (by rw [u2e, up1_eq]; rfl) (Nat.zero_le _) (fun x hx => absurd hx (Nat.not_lt_zero _))
  obtain ⟨M2, r1, r2, r3, r4⟩ := t1 ⟨fun x h1 h2 h3 => (hm x (by omega) h3).2, by omega⟩
  obtain ⟨M3, i1, i2, i3⟩ := ini4 (P := 0) (n := 0) (v1 := nn n) (v3 := nn n0) (v4 := nn gp) (F0 := F) 4 0 F (up2 (up2 M2 215 31 100) 215 32 0) (by omega) (by omega) (fun q h => absurd h (Nat.not_lt_zero _))
  have f3 : ∀ i, i ≠ 215 → i ≠ 223 → i ≠ 226 → i ≠ 227 → i ≠ 228 → M3 i = M i := fun i a b d e f => by rw [i3 i d e f, u2n a, u2n a, r4 i a b, u2n a]
  have e15 : M3 215 = up1 (up1 (M2 215) 31 100) 32 0 := by rw [i3 215 (by decide) (by decide) (by decide), u2e, u2e]
  have hE : EI (up2 M3 224 0 (-1)) n (cntB f 10) (fun _ => 0) 0 (cntB f 10) none := by
    refine ⟨?_, Or.inl ⟨rfl, ?_, ?_⟩, fun j hj => absurd hj (Nat.not_lt_zero _), fun k hk => ?_, fun k q hk => absurd hk (Nat.not_lt_zero _), fun q hq => ?_⟩
    · rw [u2n (by decide), e15, up1_ne (by decide), up1_ne (by decide), r2, ecN]
    · rw [u2n (by decide), e15, up1_ne (by decide), up1_eq]; rfl
    · rw [u2n (by decide), e15, up1_eq]; rfl
    · have : k = 0 := by omega
      subst this
      rw [u2n (by decide), u2n (by decide), f3 229 (by decide) (by decide) (by decide) (by decide) (by decide), f3 230 (by decide) (by decide) (by decide) (by decide) (by decide)]
      exact ⟨h9, h30⟩
    · rw [u2n (by decide), u2n (by decide), u2n (by decide), Nat.mul_zero, Nat.zero_add]
      exact i2 q (by omega)
  obtain ⟨K, M4, s0, s1, s2, s3⟩ := layLv (by omega) c4 n8 k4 hgp (F0 := F) (by omega) (n - 1) 0 (by omega) (cntB f 10 + 1) 0 (fun _ => 0) none (up2 M3 224 0 (-1)) (by omega) hE (by rw [u2e, up1_eq]; rfl) (fun i hi => absurd hi (Nat.not_lt_zero _)) (fun j hj => absurd hj (Nat.not_lt_zero _))
  have sB : ∀ a b k, a ≤ b → k ≤ 5 → stepB a k ≤ stepB b 5 := by
    intro a b
    induction b with
    | zero =>
      intro k h1 h2
      have : a = 0 := by omega
      rw [this]
      exact stepB_k h2
    | succ b ih =>
      intro k h1 h2
      by_cases e : a = b + 1
      · rw [e]; exact stepB_k h2
      · refine Nat.le_trans (ih k (by omega) h2) ?_
        show stepB b 5 ≤ 5 * (stepB b 5 + 1) + 1
        omega
  have hK : K ≤ stepB 8 5 := Nat.le_trans s0 (sB (n - 1) 8 _ (by omega) (by omega))
  have eacc : fcs (fun ch a => full (cntB f 10) n0 gp n (n - 1) (0 + 1) (upr (fun _ => 0) 0 ch) a) (cntB f 10 + 1) 0 none = tAcc f n0 gp n := by
    unfold tAcc
    obtain ⟨k, rfl⟩ : ∃ k, n = k + 1 := ⟨n - 1, by omega⟩
    rfl
  rw [eacc] at s2
  have fin : m_lays_100 F F (nn n) (nn n0) (nn gp) 0 (up2 M3 224 0 (-1)) = some (found (tAcc f n0 gp n), M4) := by
    obtain ⟨F', hF'⟩ : ∃ F', F = (F' + 1) + K := ⟨F - K - 1, by omega⟩
    have e : m_lays_100 F F (nn n) (nn n0) (nn gp) 0 (up2 M3 224 0 (-1)) = m_lays_100 F (F' + 1) (nn n) (nn n0) (nn gp) (nn 0 + (-1)) M4 := by
      rw [← s1 (F' + 1), ← hF']
      rfl
    rw [e, m_lays_100]
    refine st_t (by decide) ?_
    rcases s2.2.1 with ⟨e1, e2, _⟩ | ⟨a, e1, e2, _, _, e8, _⟩
    · rw [e1, e2]
      exact st_t (by decide) rfl
    · rw [e1, e2]
      exact st_f (by rw [show (100 : Int32) = nn 100 from rfl, nnE (by omega) (by omega)]; omega) rfl
  have g9 := s2.2.2.2.1 0 (Nat.le_refl _)
  refine ⟨M4, ?_, ⟨s2.1, s2.2.1, fun x hx hb => ?_⟩, ⟨fun i a b d => ?_, g9.1, g9.2⟩⟩
  · have w1 : m_isIn (nn n) 1 8 M = some 1 := by
      rw [isIn_eq, if_pos ⟨by rw [show (1 : Int32) = nn 1 from rfl, nnE (by omega) (by omega)]; exact n1, by rw [show (8 : Int32) = nn 8 from rfl, nnE (by omega) (by omega)]; exact n8⟩]
    have w2 : m_isIn (nn n0) 1 4 M = some 1 := by
      rw [isIn_eq, if_pos ⟨by rw [show (1 : Int32) = nn 1 from rfl, nnE (by omega) (by omega)]; exact k1, by rw [show (4 : Int32) = nn 4 from rfl, nnE (by omega) (by omega)]; exact k4⟩]
    have w3 : m_isIn (nn gp) 0 7 M = some 1 := isInK_y (K := 7) rfl (by decide) hgp
    have tp : m_takesPart F (nn f) M = some (1, M2) := by
      unfold m_takesPart
      refine st_l ?_
      rw [u2n (show 216 ≠ 215 by decide), h.aN, sp1]
      refine (st_f ?_ (st_t ?_ r1))
      · rw [show (0 : Int32) = nn 0 from rfl, nnE (by omega) (by omega)]; omega
      · rw [nnL (by omega) (by omega)]; exact fN
    unfold m_lays
    exact st_b w1 (st_f (by decide) (st_b w2 (st_f (by decide) (st_b w3 (st_f (by decide) (st_b tp (st_t (by decide) (st_l (st_l (i1.trans fin))))))))))
  · rw [s3 223 (by decide) (by omega), u2n (by decide), i3 223 (by decide) (by decide) (by decide), u2n (by decide), u2n (by decide)]
    exact r3 x (hm x hx hb).1 hb
  · rw [s3 i a d, u2n (by omega), f3 i a b (by omega) (by omega) (by omega)]
theorem lays_n {c M : Sg} {v1 v2 v3 v4 : Int32} (h : RNet c (M 216) N C Q) (h9 : M 229 0 = 0) (h30 : M 230 0 = 0) (hno : ¬ ∃ n f n0 gp, fOk c N v1 v2 v3 v4 n f n0 gp) {F : Nat} (hF : 20 < F) : ∃ M2, m_lays F v1 v2 v3 v4 M = some (0, M2) ∧ MFr M M2 := by
  have hN := h.hN
  have keep : MFr M M := ⟨fun _ _ _ _ => rfl, h9, h30⟩
  rcases chkB v1 1 8 8 rfl (by decide) (by decide) with ⟨n, n1, n8, rfl, _, x1⟩ | ⟨_, x1⟩
  rotate_left
  · exact ⟨M, by unfold m_lays; exact st_b (x1 M) (st_t rfl rfl), keep⟩
  rcases chkB v3 1 4 4 rfl (by decide) (by decide) with ⟨n0, k1, k4, rfl, _, x3⟩ | ⟨_, x3⟩
  rotate_left
  · exact ⟨M, by unfold m_lays; exact st_b (x1 M) (st_f (by decide) (st_b (x3 M) (st_t rfl rfl))), keep⟩
  rcases chk v4 7 7 rfl (by decide) with ⟨gp, hgp, rfl, _, x4⟩ | ⟨_, x4⟩
  rotate_left
  · exact ⟨M, by unfold m_lays; exact st_b (x1 M) (st_f (by decide) (st_b (x3 M) (st_f (by decide) (st_b (x4 M) (st_t rfl rfl))))), keep⟩
  have tp : ∃ M2, m_takesPart F v2 M = some (0, M2) ∧ ∀ i, i ≠ 215 → i ≠ 223 → M2 i = M i := by
    obtain ⟨sp1, sp2⟩ := shl_p N (by omega)
    have et : m_takesPart F v2 M = (if v2 ≤ 0 then some (0, up2 M 215 30 0) else if v2 < nn (2 ^ N) then m_takesPart_25 F v2 0 (up2 M 215 30 0) else some (0, up2 M 215 30 0)) := by
      unfold m_takesPart
      refine st_l ?_
      rw [u2n (show 216 ≠ 215 by decide), h.aN, sp1]
    rw [et]
    by_cases q : v2 ≤ 0
    · exact ⟨_, st_t q rfl, fun i a _ => u2n a⟩
    by_cases q2 : v2 < nn (2 ^ N)
    rotate_left
    · exact ⟨_, st_f q (st_f q2 rfl), fun i a _ => u2n a⟩
    obtain ⟨f, hf, rfl⟩ := (rg (N := 2 ^ N) (by omega)).mp ⟨fun z => q (Int32.le_of_lt z), q2⟩
    have hf10 : f < 1024 := by omega
    have hbits := (pow_b N (by omega) f hf10).mp hf
    have ecN : cntB f N = cntB f 10 := by
      have := cntB_e (f := f) (v := N) (10 - N) (fun x h1 h2 h3 => by have := hbits x (by omega) h3; omega)
      rw [show N + (10 - N) = 10 by omega] at this
      exact this.symm
    have f0 : ¬ f = 0 := fun e => q (by rw [e]; exact Int32.le_refl _)
    have c1 : ¬ cntB f 10 = 0 := fun e => f0 ((cnt0 f hf10).mp e)
    obtain ⟨_, t2⟩ := tpL h hf10 N 0 F (up2 M 215 30 0) (by omega) (by omega) (u2n (by decide)) (by rw [u2e, up1_eq]; rfl) (Nat.zero_le _) (fun x hx => absurd hx (Nat.not_lt_zero _))
    obtain ⟨M2, r1, r2⟩ := t2 (fun z => hno ⟨n, f, n0, gp, rfl, n1, n8, rfl, hf10, rfl, k1, k4, rfl, hgp, by omega, by omega, fun x h1 h2 => ⟨hbits x h1 h2, z.1 x (Nat.zero_le _) (hbits x h1 h2) h2⟩⟩)
    exact ⟨M2, st_f q (st_t q2 r1), fun i a b => by rw [r2 i a b, u2n a]⟩
  obtain ⟨M2, r1, r2⟩ := tp
  refine ⟨M2, ?_, ⟨fun i a b _ => r2 i a b, by rw [r2 229 (by decide) (by decide)]; exact h9, by rw [r2 230 (by decide) (by decide)]; exact h30⟩⟩
  unfold m_lays
  exact st_b (x1 M) (st_f (by decide) (st_b (x3 M) (st_f (by decide) (st_b (x4 M) (st_f (by decide) (st_b r1 (st_f (fun z => z rfl) rfl)))))))
theorem RR_t {S2 M2 : Sg} (hR : RR TSd g) (h1 : ∀ i, (i < 208 ∨ 214 < i) → S2 i = g i) (h2 : MFr S2 M2) (ht : S2 = g ∨ ∃ n f n0 gp, 1 ≤ n ∧ n ≤ 8 ∧ f < 1024 ∧ n0 ≤ 4 ∧ gp ≤ 7 ∧ 1 ≤ cntB f 10 ∧ cntB f 10 ≤ 4 ∧ TR S2 n f n0 gp) : RR TSd M2 := by
  obtain ⟨f1, f2, f3⟩ := h2
  have fr : ∀ i, (i < 208 ∨ 214 < i) → i ≠ 215 → i ≠ 223 → (i < 224 ∨ 230 < i) → M2 i = g i := fun i a b d e => (f1 i b d e).trans (h1 i a)
  refine RR.mk ?_ ?_ ⟨f2, f3, ?_⟩
  · exact hR.now.fr (fun i a b => fr i (by omega) (by omega) (by omega) (by omega)) (fun j _ => by rw [fr 216 (by omega) (by omega) (by omega) (by omega)])
  · exact hR.img.fr (fun i a b => fr i (by omega) (by omega) (by omega) (by omega)) (fun j _ => by rw [fr 216 (by omega) (by omega) (by omega) (by omega)]) (fr 217 (by omega) (by omega) (by omega) (by omega))
  · have e8 : M2 208 = S2 208 := f1 208 (by decide) (by decide) (by omega)
    have e9 : M2 209 = S2 209 := f1 209 (by decide) (by decide) (by omega)
    have e11 : M2 211 = S2 211 := f1 211 (by decide) (by decide) (by omega)
    rw [e8, e9]
    rcases ht with rfl | ⟨n, f, n0, gp, q1, q2, q3, q4, q5, q6, q7, r1, r2, r3, r4, r5, r6, r7⟩
    · rcases hR.trn.2.2 with h3 | ⟨n, f, n0, gp, q1, q2, q3, q4, q5, q6, q7, q8, q9, q10, q11, q12, q13, q14⟩
      · exact Or.inl h3
      · exact Or.inr ⟨n, f, n0, gp, q1, q2, q3, q4, q5, q6, q7, q8, q9, q10, q11, q12, q13.cg e8 e11, q14⟩
    · exact Or.inr ⟨n, f, n0, gp, q1, q2, q3, q4, q5, q6, q7, r1, r2, r3, r4, r5, r6.cg e8 e11, r7⟩
end WU
theorem sim_lay : Sim_lay (RR TSd) := by
  intro v1 v2 v3 v4 v5 g hR
  obtain ⟨N, C, Q, D, T, L, G, h⟩ := hR.now
  have hTS := hR.trn
  rcases chk v5 1 1 rfl (by decide) with ⟨w, hw, rfl, x5, m5⟩ | ⟨x5, m5⟩
  rotate_left
  · refine ⟨0, 0, -1, g, g, ?_, ?_, hR⟩
    · unfold x_lay
      exact st_b (x5 g) (st_t rfl rfl)
    · unfold m_lay
      exact st_b (m5 g) (st_t rfl rfl)
  obtain ⟨fx1, fx2⟩ := find_x h.net hTS (v1 := v1) (v2 := v2) (v3 := v3) (v4 := v4) (F := 21) (by decide)
  by_cases hok : ∃ n f n0 gp, fOk g N v1 v2 v3 v4 n f n0 gp
  rotate_left
  · obtain ⟨M2, l1, l2⟩ := lays_n (c := g) (M := g) h.net hTS.1 hTS.2.1 hok (F := 21) (by decide)
    refine ⟨21, 21, -1, g, M2, ?_, ?_, RR_t hR (fun _ _ => rfl) l2 (Or.inl rfl)⟩
    · unfold x_lay
      exact st_b (x5 g) (st_f (by decide) (st_b (fx2 hok) (st_f (fun z => z rfl) rfl)))
    · unfold m_lay
      exact st_b (m5 g) (st_f (by decide) (st_b l1 (st_t rfl rfl)))
  obtain ⟨n, f, n0, gp, ok⟩ := hok
  obtain ⟨S2, s1, s2, s3⟩ := fx1 n f n0 gp ok
  have e216 : S2 216 = g 216 := s3 216 (by omega)
  obtain ⟨M2, l1, l2, l3⟩ := lays_y (c := g) (M := S2) (by rw [e216]; exact h.net) (by rw [s3 229 (by omega)]; exact hTS.1) (by rw [s3 230 (by omega)]; exact hTS.2.1) ok (F := stepB 8 5 + 101) (by omega)
  have hRR : RR TSd M2 := RR_t hR s3 l3 (Or.inr ⟨n, f, n0, gp, ok.2.1, ok.2.2.1, ok.2.2.2.2.1, ok.2.2.2.2.2.2.2.1, ok.2.2.2.2.2.2.2.2.2.1, ok.2.2.2.2.2.2.2.2.2.2.1, ok.2.2.2.2.2.2.2.2.2.2.2.1, s2⟩)
  rcases s2.2.2.2.2.2.1 with ⟨e0, _⟩ | ⟨a, e0, a1, a2, a3, _, _, _⟩
  · rw [e0] at s1 l1
    refine ⟨21, stepB 8 5 + 101, -1, S2, M2, ?_, ?_, hRR⟩
    · unfold x_lay
      exact st_b (x5 g) (st_f (by decide) (st_b s1 (st_f (fun z => z rfl) rfl)))
    · unfold m_lay
      exact st_b (m5 S2) (st_f (by decide) (st_b l1 (st_t rfl rfl)))
  · have hm := l2.2.1
    rw [e0] at s1 l1 hm
    rw [show found (some a) = 1 from rfl] at s1 l1
    rcases hm with ⟨z, _⟩ | ⟨a', z, b1, b2, _⟩
    · cases z
    · cases z
      have c2 : w = 0 ∨ w = 1 := by omega
      rcases c2 with rfl | rfl
      · refine ⟨21, stepB 8 5 + 101, nn a.1, S2, M2, ?_, ?_, hRR⟩
        · unfold x_lay
          exact st_b (x5 g) (st_f (by decide) (st_b s1 (st_t (by decide) (st_f (fun z => z rfl) (by rw [a2])))))
        · unfold m_lay
          exact st_b (m5 S2) (st_f (by decide) (st_b l1 (st_f (by decide) (st_f (fun z => z rfl) (by rw [b1])))))
      · refine ⟨21, stepB 8 5 + 101, nn a.2.1, S2, M2, ?_, ?_, hRR⟩
        · unfold x_lay
          exact st_b (x5 g) (st_f (by decide) (st_b s1 (st_t (by decide) (st_t (by decide) (by rw [a3])))))
        · unfold m_lay
          exact st_b (m5 S2) (st_f (by decide) (st_b l1 (st_f (by decide) (st_t (by decide) (by rw [b2])))))
theorem sim_laid : Sim_laid (RR TSd) := by
  intro v1 v2 v3 v4 v5 g hR
  obtain ⟨N, C, Q, D, T, L, G, h⟩ := hR.now
  have hTS := hR.trn
  obtain ⟨fx1, fx2⟩ := find_x h.net hTS (v1 := v1) (v2 := v2) (v3 := v3) (v4 := v4) (F := 21) (by decide)
  by_cases hok : ∃ n f n0 gp, fOk g N v1 v2 v3 v4 n f n0 gp
  rotate_left
  · obtain ⟨M2, l1, l2⟩ := lays_n (c := g) (M := g) h.net hTS.1 hTS.2.1 hok (F := 21) (by decide)
    refine ⟨21, 21, -1, g, M2, ?_, ?_, RR_t hR (fun _ _ => rfl) l2 (Or.inl rfl)⟩
    · unfold x_laid
      rw [within_eq]
      refine st_b rfl ?_
      by_cases q : 0 ≤ v5 ∧ v5 ≤ v1 - 1
      · exact st_f (by rw [if_pos q]; decide) (st_b (fx2 hok) (st_f (fun z => z rfl) rfl))
      · exact st_t (by rw [if_neg q]) rfl
    · unfold m_laid
      exact st_b l1 (st_t rfl rfl)
  obtain ⟨n, f, n0, gp, ok⟩ := hok
  have hok' := ok
  obtain ⟨rfl, n1, n8, rfl, hf, rfl, k1, k4, rfl, hgp, c1, c4, hm⟩ := ok
  by_cases hv : ∃ i, i < n ∧ v5 = nn i
  rotate_left
  · obtain ⟨M2, l1, l2, l3⟩ := lays_y (c := g) (M := g) h.net hTS.1 hTS.2.1 hok' (F := stepB 8 5 + 101) (by omega)
    have hnv : ¬ (0 ≤ v5 ∧ v5 ≤ nn n - 1) := fun e => hv ((rg1 (by omega)).mp e)
    refine ⟨21, stepB 8 5 + 101, -1, g, M2, ?_, ?_, RR_t hR (fun _ _ => rfl) l3 (Or.inl rfl)⟩
    · unfold x_laid
      exact st_b (by rw [within_eq, if_neg hnv]) (st_t rfl rfl)
    · unfold m_laid
      refine st_b l1 ?_
      rcases found01 (tAcc f n0 gp n) with e | e
      · exact st_t e rfl
      · exact st_f (by rw [e]; decide) (st_b (by rw [isIn_eq, if_neg hnv]) (st_f (fun z => z rfl) rfl))
  obtain ⟨i, hi, rfl⟩ := hv
  have hi8 : i < 8 := by omega
  have hin : inb (nn i) 8 = true := by simp (disch := first | omega | decide) only [lt1, nnMl, nnMr, nnAl, nnAr, nnA, nnM, nnB, nnT, nnP, nnE, nnEl, nnEr, nnL, nnLl, nnLr, nnQ, nnQr, nnN, Nat.add_zero, if_false, if_true, Option.bind_some, not_true, not_false_iff, not_true_eq_false, not_false_eq_true, eq_self, Nat.not_lt_zero, z10, z01, or_true, true_or, or_false, false_or, true_and, false_and, hi8]
  have w5 : ∀ g : Sg, x_within (nn i) 0 (nn n - 1) g = some 1 := fun g => by rw [within_eq, if_pos ((rg1 (by omega)).mpr ⟨i, hi, rfl⟩)]
  have m5 : ∀ g : Sg, m_isIn (nn i) 0 (nn n - 1) g = some 1 := w5
  obtain ⟨S2, s1, s2, s3⟩ := fx1 n f n0 gp hok'
  have e216 : S2 216 = g 216 := s3 216 (by omega)
  obtain ⟨M2, l1, l2, l3⟩ := lays_y (c := g) (M := S2) (by rw [e216]; exact h.net) (by rw [s3 229 (by omega)]; exact hTS.1) (by rw [s3 230 (by omega)]; exact hTS.2.1) hok' (F := stepB 8 5 + 101) (by omega)
  have hRR : RR TSd M2 := RR_t hR s3 l3 (Or.inr ⟨n, f, n0, gp, n1, n8, hf, k4, hgp, c1, c4, s2⟩)
  have hb := full_b (P := cntB f 10) (n0 := n0) (gp := gp) (n := n) n 0 (fun _ => 0) none (by omega) (fun i hi => absurd hi (Nat.not_lt_zero _)) (fun a e => by cases e)
  have hb : accB n (cntB f 10) (tAcc f n0 gp n) := hb
  rcases s2.2.2.2.2.2.1 with ⟨e0, _⟩ | ⟨a, e0, a1, a2, a3, a4, _, _⟩
  · rw [e0] at s1 l1
    refine ⟨21, stepB 8 5 + 101, -1, S2, M2, ?_, ?_, hRR⟩
    · unfold x_laid
      exact st_b (w5 g) (st_f (by decide) (st_b s1 (st_f (fun z => z rfl) rfl)))
    · unfold m_laid
      exact st_b l1 (st_t rfl rfl)
  · have hbi := hb a e0 i hi
    have hm2 := l2.2.1
    rw [e0] at s1 l1 hm2
    rw [show found (some a) = 1 from rfl] at s1 l1
    rcases hm2 with ⟨z, _⟩ | ⟨a', z, b1, b2, b3, _⟩
    · cases z
    · cases z
      have b3i := b3 i hi
      have a4i := a4 i hi
      by_cases q : a.2.2 i < cntB f 10
      · obtain ⟨x, x1, x2, x3⟩ := cntB_ex (f := f) 10 (a.2.2 i) q
        have q4 : a.2.2 i < 4 := by omega
        have hq4 : inb (nn (a.2.2 i)) 4 = true := by simp (disch := first | omega | decide) only [lt1, nnMl, nnMr, nnAl, nnAr, nnA, nnM, nnB, nnT, nnP, nnE, nnEl, nnEr, nnL, nnLl, nnLr, nnQ, nnQr, nnN, Nat.add_zero, if_false, if_true, Option.bind_some, not_true, not_false_iff, not_true_eq_false, not_false_eq_true, eq_self, Nat.not_lt_zero, z10, z01, or_true, true_or, or_false, false_or, true_and, false_and, q4]
        refine ⟨21, stepB 8 5 + 101, nn x, S2, M2, ?_, ?_, hRR⟩
        · unfold x_laid
          refine st_b (w5 g) (st_f (by decide) (st_b s1 (st_t (by decide) (st_b (x := nn x) ?_ rfl))))
          unfold turns_nodeAt
          rw [a1, s2.1, s2.2.2.2.2.1, nnT (by omega), a4i]
          refine st_f (by decide) (st_b (w5 S2) (st_f (by decide) (st_t (by simp (disch := first | omega | decide) only [lt1, nnMl, nnMr, nnAl, nnAr, nnA, nnM, nnB, nnT, nnP, nnE, nnEl, nnEr, nnL, nnLl, nnLr, nnQ, nnQr, nnN, Nat.add_zero, if_false, if_true, Option.bind_some, not_true, not_false_iff, not_true_eq_false, not_false_eq_true, eq_self, Nat.not_lt_zero, z10, z01, or_true, true_or, or_false, false_or, true_and, false_and, hi8]) (st_w hin (st_b (wP_y q c4) (st_f (by decide) (st_t hq4 ?_)))))))
          rw [nnT (by omega), ← x3, s2.2.2.2.2.2.2 x x1 x2]
        · unfold m_laid
          refine st_b l1 (st_f (by decide) (st_b (m5 M2) (st_t (by decide) (st_t hin ?_))))
          rw [nnT (show i < 2147483648 by omega), b3i, l2.1]
          refine st_t (nnNe (by omega) (by omega) (by omega)) (st_t hin (st_t hq4 ?_))
          rw [nnT (by omega), ← x3, l2.2.2 x x1 x2]
      · have qe : a.2.2 i = cntB f 10 := by omega
        refine ⟨21, stepB 8 5 + 101, 99, S2, M2, ?_, ?_, hRR⟩
        · unfold x_laid
          refine st_b (w5 g) (st_f (by decide) (st_b s1 (st_t (by decide) (st_b (x := 99) ?_ rfl))))
          unfold turns_nodeAt
          rw [a1, s2.1, s2.2.2.2.2.1, nnT (by omega), a4i]
          exact st_f (by decide) (st_b (w5 S2) (st_f (by decide) (st_t (by simp (disch := first | omega | decide) only [lt1, nnMl, nnMr, nnAl, nnAr, nnA, nnM, nnB, nnT, nnP, nnE, nnEl, nnEr, nnL, nnLl, nnLr, nnQ, nnQr, nnN, Nat.add_zero, if_false, if_true, Option.bind_some, not_true, not_false_iff, not_true_eq_false, not_false_eq_true, eq_self, Nat.not_lt_zero, z10, z01, or_true, true_or, or_false, false_or, true_and, false_and, hi8]) (st_w hin (st_b (wP_n (by omega) (by omega) c4) (st_t rfl rfl))))))
        · unfold m_laid
          refine st_b l1 (st_f (by decide) (st_b (m5 M2) (st_t (by decide) (st_t hin ?_))))
          rw [nnT (show i < 2147483648 by omega), b3i, l2.1]
          exact st_f (fun z => z (by rw [qe])) rfl
end
