section
/-! the statute: bytes, words -/
theorem i8 (P : Int8 → Prop) (h : ∀ n : Fin 256, P (Int8.ofBitVec (BitVec.ofFin n))) (x : Int8) : P x := h x.toBitVec.toFin
def bL (v : Int32) : Bool := decide (97 ≤ v ∧ v ≤ 122)
def bD (v : Int32) : Bool := decide (48 ≤ v ∧ v ≤ 57)
def bB (v : Int32) : Bool := decide (v = 10 ∨ v = 32)
def bS (v : Int32) : Bool := decide (58 ≤ v ∧ v ≤ 62)
theorem bt (x : Int8) : bL (x.toInt32 &&& 255) = bL x.toInt32 ∧ bD (x.toInt32 &&& 255) = bD x.toInt32 ∧ bB (x.toInt32 &&& 255) = bB x.toInt32 ∧ bS (x.toInt32 &&& 255) = bS x.toInt32 ∧ (0 ≤ x.toInt32 → x.toInt32 &&& 255 = x.toInt32) ∧ 0 ≤ x.toInt32 &&& 255 :=
  i8 (fun x => bL (x.toInt32 &&& 255) = bL x.toInt32 ∧ bD (x.toInt32 &&& 255) = bD x.toInt32 ∧ bB (x.toInt32 &&& 255) = bB x.toInt32 ∧ bS (x.toInt32 &&& 255) = bS x.toInt32 ∧ (0 ≤ x.toInt32 → x.toInt32 &&& 255 = x.toInt32) ∧ 0 ≤ x.toInt32 &&& 255) (by decide +kernel) x
theorem rng_e {v lo hi : Int32} {b : Bool} (hb : b = decide (lo ≤ v ∧ v ≤ hi)) : (if v < lo then some (0 : Int32) else if hi < v then some 0 else some 1) = some (if b = true then 1 else 0) := by
  subst hb
  by_cases h1 : v < lo
  · rw [if_pos h1, if_neg]
    intro z
    exact absurd h1 (Int32.not_lt.mpr (of_decide_eq_true z).1)
  · by_cases h2 : hi < v
    · rw [if_neg h1, if_pos h2, if_neg]
      intro z
      exact absurd h2 (Int32.not_lt.mpr (of_decide_eq_true z).2)
    · rw [if_neg h1, if_neg h2, if_pos]
      exact decide_eq_true ⟨Int32.not_lt.mp h1, Int32.not_lt.mp h2⟩
theorem let_e (v : Int32) (g : Sg) : tokens_isLetter v g = some (if bL v = true then 1 else 0) := rng_e rfl
theorem dig_e (v : Int32) (g : Sg) : tokens_isDigit v g = some (if bD v = true then 1 else 0) := rng_e rfl
theorem mle_e (v : Int32) (g : Sg) : m_isLetter v g = some (if bL v = true then 1 else 0) := rng_e rfl
theorem mdi_e (v : Int32) (g : Sg) : m_isDigit v g = some (if bD v = true then 1 else 0) := rng_e rfl
theorem bla_e (v : Int32) (g : Sg) : tokens_isBlank v g = some (if bB v = true then 1 else 0) := by
  unfold tokens_isBlank bB
  by_cases h1 : v = 10
  · rw [if_pos h1, if_pos (decide_eq_true (Or.inl h1))]
  · by_cases h2 : v = 32
    · rw [if_neg h1, if_neg (fun z => z h2), if_pos (decide_eq_true (Or.inr h2))]
    · rw [if_neg h1, if_pos h2, if_neg]
      intro z
      rcases of_decide_eq_true z with e | e
      · exact h1 e
      · exact h2 e
theorem bL_y {v : Int32} (h : bL v = true) : ∃ y, 1 ≤ y ∧ y ≤ 26 ∧ v = nn (96 + y) := by
  have h := of_decide_eq_true h
  obtain ⟨n, h1, rfl⟩ := (rgK (K := 122) (by decide)).mp ⟨Int32.le_trans (by decide) h.1, h.2⟩
  have h2 : 97 ≤ n := by have := h.1; rwa [nnEl (by decide) (by omega)] at this
  exact ⟨n - 96, by omega, by omega, by rw [show 96 + (n - 96) = n by omega]⟩
theorem bD_y {v : Int32} (h : bD v = true) : ∃ y, y ≤ 9 ∧ v = nn (48 + y) := by
  have h := of_decide_eq_true h
  obtain ⟨n, h1, rfl⟩ := (rgK (K := 57) (by decide)).mp ⟨Int32.le_trans (by decide) h.1, h.2⟩
  have h2 : 48 ≤ n := by have := h.1; rwa [nnEl (by decide) (by omega)] at this
  exact ⟨n - 48, by omega, by rw [show 48 + (n - 48) = n by omega]⟩
theorem scan (P : Nat → Bool) (len : Nat) : ∀ m p, p + m = len → ∃ q, p ≤ q ∧ q ≤ len ∧ (∀ i, p ≤ i → i < q → P i = true) ∧ (q < len → P q = false)
  | 0, p, h => ⟨p, Nat.le_refl p, by omega, fun i a b => absurd b (by omega), fun z => absurd z (by omega)⟩
  | m + 1, p, h => by
    by_cases e : P p = true
    · obtain ⟨q, a, b, c, d⟩ := scan P len m (p + 1) (by omega)
      refine ⟨q, by omega, b, fun i x y => ?_, d⟩
      by_cases z : i = p
      · rw [z]; exact e
      · exact c i (by omega) y
    · exact ⟨p, Nat.le_refl p, by omega, fun i a b => absurd b (by omega), fun _ => by simpa using e⟩
/-- the words -/
def wN (y : Nat → Nat) : Nat → Nat
  | 0 => 0
  | k + 1 => 32 * wN y k + y k
def cyk (c : Sg) (s : Int32) : List (Int32 × Int32) → Option Int32
  | [] => some 1
  | (i, v) :: r => if inb (s + i) 500 = true then (if c 32 (Int32.toNatClampNeg (s + i)) = v then cyk c s r else some 0) else none
def mt (y : Nat → Nat) : Nat → List Nat → Prop
  | _, [] => True
  | i, a :: r => y i = a ∧ mt y (i + 1) r
def chl : Nat → List Nat → List (Int32 × Int32)
  | _, [] => []
  | i, a :: r => (nn i, nn (96 + a)) :: chl (i + 1) r
theorem cyk_e {c : Sg} {s k : Nat} {y : Nat → Nat} (hs : s + k ≤ 500) (hy : ∀ i, i < k → c 32 (s + i) = nn (96 + y i) ∧ y i ≤ 26) : ∀ (l : List Nat) (i : Nat), i + l.length = k → (∀ a, a ∈ l → a ≤ 26) → (mt y i l → cyk c (nn s) (chl i l) = some 1) ∧ (¬ mt y i l → cyk c (nn s) (chl i l) = some 0)
  | [], i, _, _ => ⟨fun _ => rfl, fun z => absurd trivial z⟩
  | a :: r, i, h, ha => by
    have hl : i + (r.length + 1) = k := h
    have ih := cyk_e hs hy r (i + 1) (by omega) (fun x hx => ha x (List.mem_cons_of_mem _ hx))
    obtain ⟨e1, e2⟩ := hy i (by omega)
    have e3 := ha a List.mem_cons_self
    show (mt y i (a :: r) → (if inb (nn s + nn i) 500 = true then (if c 32 (Int32.toNatClampNeg (nn s + nn i)) = nn (96 + a) then cyk c (nn s) (chl (i + 1) r) else some 0) else none) = some 1) ∧ (¬ mt y i (a :: r) → (if inb (nn s + nn i) 500 = true then (if c 32 (Int32.toNatClampNeg (nn s + nn i)) = nn (96 + a) then cyk c (nn s) (chl (i + 1) r) else some 0) else none) = some 0)
    rw [nnA, nnT (by omega), e1]
    have hin : inb (nn (s + i)) 500 = true := by rw [nnB (by omega)]; omega
    constructor
    · intro z
      exact st_t hin (st_t (by rw [show y i = a from z.1]) (ih.1 z.2))
    · intro z
      refine st_t hin ?_
      by_cases e : y i = a
      · exact st_t (by rw [e]) (ih.2 (fun q => z ⟨e, q⟩))
      · exact st_f (by rw [nnQ (by omega) (by omega)]; omega) rfl
theorem iw_g {c : Sg} {s k n : Nat} {y : Nat → Nat} {l : List Nat} {C : Nat} {fn : Option Int32} (hf : fn = (if ¬ (nn (s + k) - nn s) = nn n then some 0 else if nn s < 0 then some 0 else if nn (s + k) ≤ 500 then cyk c (nn s) (chl 0 l) else some 0)) (hn : l.length = n) (hn6 : n ≤ 6) (hl : ∀ a, a ∈ l → a ≤ 26) (hs : s + k ≤ 500) (hy : ∀ i, i < k → c 32 (s + i) = nn (96 + y i) ∧ 1 ≤ y i ∧ y i ≤ 26) (hC : k = n → (wN y k = C ↔ mt y 0 l)) (hC2 : k ≤ 6 → k ≠ n → wN y k ≠ C) : fn = some (if k ≤ 6 ∧ wN y k = C then 1 else 0) := by
  rw [hf, nnS (by omega), Nat.add_sub_cancel_left]
  by_cases e : k = n
  · refine st_f (fun z => z (by rw [e])) (st_f (by rw [nnP (by omega)]; exact id) (st_t (by rw [nnEr (by omega) (by decide)]; omega) ?_))
    have ck := cyk_e hs (fun i hi => ⟨(hy i hi).1, (hy i hi).2.2⟩) l 0 (by omega) hl
    by_cases q : mt y 0 l
    · rw [ck.1 q, if_pos ⟨by omega, (hC e).mpr q⟩]
    · rw [ck.2 q, if_neg (fun z => q ((hC e).mp z.2))]
  · exact st_t (by rw [nnQ (by omega) (by omega)]; exact e) (by rw [if_neg (fun z => hC2 z.1 e z.2)])
theorem iw1 {c : Sg} {s k : Nat} {y : Nat → Nat} (hs : s + k ≤ 500) (hy : ∀ i, i < k → c 32 (s + i) = nn (96 + y i) ∧ 1 ≤ y i ∧ y i ≤ 26) : tokens_isWord (nn s) (nn (s + k)) c = some (if k ≤ 6 ∧ wN y k = 294 then 1 else 0) := by
  refine iw_g (n := 2) (l := [9, 6]) rfl rfl (by decide) (by decide) hs hy (fun e => ?_) (fun h6 e => ?_)
  · subst e
    simp only [wN, mt, Nat.zero_add, Nat.reduceAdd, and_true]
    have b0 := (hy 0 (by decide)).2; have b1 := (hy 1 (by decide)).2
    omega
  · rcases (show k = 0 ∨ k = 1 ∨ k = 2 ∨ k = 3 ∨ k = 4 ∨ k = 5 ∨ k = 6 by omega) with rfl | rfl | rfl | rfl | rfl | rfl | rfl
    · simp only [wN]; omega
    · have b0 := (hy 0 (by decide)).2; simp only [wN]; omega
    · have b0 := (hy 0 (by decide)).2; have b1 := (hy 1 (by decide)).2; simp only [wN]; omega
    · have b0 := (hy 0 (by decide)).2; have b1 := (hy 1 (by decide)).2; have b2 := (hy 2 (by decide)).2; simp only [wN]; omega
    · have b0 := (hy 0 (by decide)).2; have b1 := (hy 1 (by decide)).2; have b2 := (hy 2 (by decide)).2; have b3 := (hy 3 (by decide)).2; simp only [wN]; omega
    · have b0 := (hy 0 (by decide)).2; have b1 := (hy 1 (by decide)).2; have b2 := (hy 2 (by decide)).2; have b3 := (hy 3 (by decide)).2; have b4 := (hy 4 (by decide)).2; simp only [wN]; omega
    · have b0 := (hy 0 (by decide)).2; have b1 := (hy 1 (by decide)).2; have b2 := (hy 2 (by decide)).2; have b3 := (hy 3 (by decide)).2; have b4 := (hy 4 (by decide)).2; have b5 := (hy 5 (by decide)).2; simp only [wN]; omega
theorem iw2 {c : Sg} {s k : Nat} {y : Nat → Nat} (hs : s + k ≤ 500) (hy : ∀ i, i < k → c 32 (s + i) = nn (96 + y i) ∧ 1 ≤ y i ∧ y i ≤ 26) : tokens_isWord_c1 (nn s) (nn (s + k)) c = some (if k ≤ 6 ∧ wN y k = 1476 then 1 else 0) := by
  refine iw_g (n := 3) (l := [1, 14, 4]) rfl rfl (by decide) (by decide) hs hy (fun e => ?_) (fun h6 e => ?_)
  · subst e
    simp only [wN, mt, Nat.zero_add, Nat.reduceAdd, and_true]
    have b0 := (hy 0 (by decide)).2; have b1 := (hy 1 (by decide)).2; have b2 := (hy 2 (by decide)).2
    omega
  · rcases (show k = 0 ∨ k = 1 ∨ k = 2 ∨ k = 3 ∨ k = 4 ∨ k = 5 ∨ k = 6 by omega) with rfl | rfl | rfl | rfl | rfl | rfl | rfl
    · simp only [wN]; omega
    · have b0 := (hy 0 (by decide)).2; simp only [wN]; omega
    · have b0 := (hy 0 (by decide)).2; have b1 := (hy 1 (by decide)).2; simp only [wN]; omega
    · have b0 := (hy 0 (by decide)).2; have b1 := (hy 1 (by decide)).2; have b2 := (hy 2 (by decide)).2; simp only [wN]; omega
    · have b0 := (hy 0 (by decide)).2; have b1 := (hy 1 (by decide)).2; have b2 := (hy 2 (by decide)).2; have b3 := (hy 3 (by decide)).2; simp only [wN]; omega
    · have b0 := (hy 0 (by decide)).2; have b1 := (hy 1 (by decide)).2; have b2 := (hy 2 (by decide)).2; have b3 := (hy 3 (by decide)).2; have b4 := (hy 4 (by decide)).2; simp only [wN]; omega
    · have b0 := (hy 0 (by decide)).2; have b1 := (hy 1 (by decide)).2; have b2 := (hy 2 (by decide)).2; have b3 := (hy 3 (by decide)).2; have b4 := (hy 4 (by decide)).2; have b5 := (hy 5 (by decide)).2; simp only [wN]; omega
theorem iw3 {c : Sg} {s k : Nat} {y : Nat → Nat} (hs : s + k ≤ 500) (hy : ∀ i, i < k → c 32 (s + i) = nn (96 + y i) ∧ 1 ≤ y i ∧ y i ≤ 26) : tokens_isWord_c2 (nn s) (nn (s + k)) c = some (if k ≤ 6 ∧ wN y k = 14836 then 1 else 0) := by
  refine iw_g (n := 3) (l := [14, 15, 20]) rfl rfl (by decide) (by decide) hs hy (fun e => ?_) (fun h6 e => ?_)
  · subst e
    simp only [wN, mt, Nat.zero_add, Nat.reduceAdd, and_true]
    have b0 := (hy 0 (by decide)).2; have b1 := (hy 1 (by decide)).2; have b2 := (hy 2 (by decide)).2
    omega
  · rcases (show k = 0 ∨ k = 1 ∨ k = 2 ∨ k = 3 ∨ k = 4 ∨ k = 5 ∨ k = 6 by omega) with rfl | rfl | rfl | rfl | rfl | rfl | rfl
    · simp only [wN]; omega
    · have b0 := (hy 0 (by decide)).2; simp only [wN]; omega
    · have b0 := (hy 0 (by decide)).2; have b1 := (hy 1 (by decide)).2; simp only [wN]; omega
    · have b0 := (hy 0 (by decide)).2; have b1 := (hy 1 (by decide)).2; have b2 := (hy 2 (by decide)).2; simp only [wN]; omega
    · have b0 := (hy 0 (by decide)).2; have b1 := (hy 1 (by decide)).2; have b2 := (hy 2 (by decide)).2; have b3 := (hy 3 (by decide)).2; simp only [wN]; omega
    · have b0 := (hy 0 (by decide)).2; have b1 := (hy 1 (by decide)).2; have b2 := (hy 2 (by decide)).2; have b3 := (hy 3 (by decide)).2; have b4 := (hy 4 (by decide)).2; simp only [wN]; omega
    · have b0 := (hy 0 (by decide)).2; have b1 := (hy 1 (by decide)).2; have b2 := (hy 2 (by decide)).2; have b3 := (hy 3 (by decide)).2; have b4 := (hy 4 (by decide)).2; have b5 := (hy 5 (by decide)).2; simp only [wN]; omega
theorem iw4 {c : Sg} {s k : Nat} {y : Nat → Nat} (hs : s + k ≤ 500) (hy : ∀ i, i < k → c 32 (s + i) = nn (96 + y i) ∧ 1 ≤ y i ∧ y i ≤ 26) : tokens_isWord_c3 (nn s) (nn (s + k)) c = some (if k ≤ 6 ∧ wN y k = 777297172 then 1 else 0) := by
  refine iw_g (n := 6) (l := [23, 5, 9, 7, 8, 20]) rfl rfl (by decide) (by decide) hs hy (fun e => ?_) (fun h6 e => ?_)
  · subst e
    simp only [wN, mt, Nat.zero_add, Nat.reduceAdd, and_true]
    have b0 := (hy 0 (by decide)).2; have b1 := (hy 1 (by decide)).2; have b2 := (hy 2 (by decide)).2; have b3 := (hy 3 (by decide)).2; have b4 := (hy 4 (by decide)).2; have b5 := (hy 5 (by decide)).2
    omega
  · rcases (show k = 0 ∨ k = 1 ∨ k = 2 ∨ k = 3 ∨ k = 4 ∨ k = 5 ∨ k = 6 by omega) with rfl | rfl | rfl | rfl | rfl | rfl | rfl
    · simp only [wN]; omega
    · have b0 := (hy 0 (by decide)).2; simp only [wN]; omega
    · have b0 := (hy 0 (by decide)).2; have b1 := (hy 1 (by decide)).2; simp only [wN]; omega
    · have b0 := (hy 0 (by decide)).2; have b1 := (hy 1 (by decide)).2; have b2 := (hy 2 (by decide)).2; simp only [wN]; omega
    · have b0 := (hy 0 (by decide)).2; have b1 := (hy 1 (by decide)).2; have b2 := (hy 2 (by decide)).2; have b3 := (hy 3 (by decide)).2; simp only [wN]; omega
    · have b0 := (hy 0 (by decide)).2; have b1 := (hy 1 (by decide)).2; have b2 := (hy 2 (by decide)).2; have b3 := (hy 3 (by decide)).2; have b4 := (hy 4 (by decide)).2; simp only [wN]; omega
    · have b0 := (hy 0 (by decide)).2; have b1 := (hy 1 (by decide)).2; have b2 := (hy 2 (by decide)).2; have b3 := (hy 3 (by decide)).2; have b4 := (hy 4 (by decide)).2; have b5 := (hy 5 (by decide)).2; simp only [wN]; omega
theorem iw5 {c : Sg} {s k : Nat} {y : Nat → Nat} (hs : s + k ≤ 500) (hy : ∀ i, i < k → c 32 (s + i) = nn (96 + y i) ∧ 1 ≤ y i ∧ y i ≤ 26) : tokens_isWord_c4 (nn s) (nn (s + k)) c = some (if k ≤ 6 ∧ wN y k = 3764 then 1 else 0) := by
  refine iw_g (n := 3) (l := [3, 21, 20]) rfl rfl (by decide) (by decide) hs hy (fun e => ?_) (fun h6 e => ?_)
  · subst e
    simp only [wN, mt, Nat.zero_add, Nat.reduceAdd, and_true]
    have b0 := (hy 0 (by decide)).2; have b1 := (hy 1 (by decide)).2; have b2 := (hy 2 (by decide)).2
    omega
  · rcases (show k = 0 ∨ k = 1 ∨ k = 2 ∨ k = 3 ∨ k = 4 ∨ k = 5 ∨ k = 6 by omega) with rfl | rfl | rfl | rfl | rfl | rfl | rfl
    · simp only [wN]; omega
    · have b0 := (hy 0 (by decide)).2; simp only [wN]; omega
    · have b0 := (hy 0 (by decide)).2; have b1 := (hy 1 (by decide)).2; simp only [wN]; omega
    · have b0 := (hy 0 (by decide)).2; have b1 := (hy 1 (by decide)).2; have b2 := (hy 2 (by decide)).2; simp only [wN]; omega
    · have b0 := (hy 0 (by decide)).2; have b1 := (hy 1 (by decide)).2; have b2 := (hy 2 (by decide)).2; have b3 := (hy 3 (by decide)).2; simp only [wN]; omega
    · have b0 := (hy 0 (by decide)).2; have b1 := (hy 1 (by decide)).2; have b2 := (hy 2 (by decide)).2; have b3 := (hy 3 (by decide)).2; have b4 := (hy 4 (by decide)).2; simp only [wN]; omega
    · have b0 := (hy 0 (by decide)).2; have b1 := (hy 1 (by decide)).2; have b2 := (hy 2 (by decide)).2; have b3 := (hy 3 (by decide)).2; have b4 := (hy 4 (by decide)).2; have b5 := (hy 5 (by decide)).2; simp only [wN]; omega
theorem iw6 {c : Sg} {s k : Nat} {y : Nat → Nat} (hs : s + k ≤ 500) (hy : ∀ i, i < k → c 32 (s + i) = nn (96 + y i) ∧ 1 ≤ y i ∧ y i ≤ 26) : tokens_isWord_c5 (nn s) (nn (s + k)) c = some (if k ≤ 6 ∧ wN y k = 215205 then 1 else 0) := by
  refine iw_g (n := 4) (l := [6, 18, 5, 5]) rfl rfl (by decide) (by decide) hs hy (fun e => ?_) (fun h6 e => ?_)
  · subst e
    simp only [wN, mt, Nat.zero_add, Nat.reduceAdd, and_true]
    have b0 := (hy 0 (by decide)).2; have b1 := (hy 1 (by decide)).2; have b2 := (hy 2 (by decide)).2; have b3 := (hy 3 (by decide)).2
    omega
  · rcases (show k = 0 ∨ k = 1 ∨ k = 2 ∨ k = 3 ∨ k = 4 ∨ k = 5 ∨ k = 6 by omega) with rfl | rfl | rfl | rfl | rfl | rfl | rfl
    · simp only [wN]; omega
    · have b0 := (hy 0 (by decide)).2; simp only [wN]; omega
    · have b0 := (hy 0 (by decide)).2; have b1 := (hy 1 (by decide)).2; simp only [wN]; omega
    · have b0 := (hy 0 (by decide)).2; have b1 := (hy 1 (by decide)).2; have b2 := (hy 2 (by decide)).2; simp only [wN]; omega
    · have b0 := (hy 0 (by decide)).2; have b1 := (hy 1 (by decide)).2; have b2 := (hy 2 (by decide)).2; have b3 := (hy 3 (by decide)).2; simp only [wN]; omega
    · have b0 := (hy 0 (by decide)).2; have b1 := (hy 1 (by decide)).2; have b2 := (hy 2 (by decide)).2; have b3 := (hy 3 (by decide)).2; have b4 := (hy 4 (by decide)).2; simp only [wN]; omega
    · have b0 := (hy 0 (by decide)).2; have b1 := (hy 1 (by decide)).2; have b2 := (hy 2 (by decide)).2; have b3 := (hy 3 (by decide)).2; have b4 := (hy 4 (by decide)).2; have b5 := (hy 5 (by decide)).2; simp only [wN]; omega
theorem iw7 {c : Sg} {s k : Nat} {y : Nat → Nat} (hs : s + k ≤ 500) (hy : ∀ i, i < k → c 32 (s + i) = nn (96 + y i) ∧ 1 ≤ y i ∧ y i ≤ 26) : tokens_isWord_c6 (nn s) (nn (s + k)) c = some (if k ≤ 6 ∧ wN y k = 4697 then 1 else 0) := by
  refine iw_g (n := 3) (l := [4, 18, 25]) rfl rfl (by decide) (by decide) hs hy (fun e => ?_) (fun h6 e => ?_)
  · subst e
    simp only [wN, mt, Nat.zero_add, Nat.reduceAdd, and_true]
    have b0 := (hy 0 (by decide)).2; have b1 := (hy 1 (by decide)).2; have b2 := (hy 2 (by decide)).2
    omega
  · rcases (show k = 0 ∨ k = 1 ∨ k = 2 ∨ k = 3 ∨ k = 4 ∨ k = 5 ∨ k = 6 by omega) with rfl | rfl | rfl | rfl | rfl | rfl | rfl
    · simp only [wN]; omega
    · have b0 := (hy 0 (by decide)).2; simp only [wN]; omega
    · have b0 := (hy 0 (by decide)).2; have b1 := (hy 1 (by decide)).2; simp only [wN]; omega
    · have b0 := (hy 0 (by decide)).2; have b1 := (hy 1 (by decide)).2; have b2 := (hy 2 (by decide)).2; simp only [wN]; omega
    · have b0 := (hy 0 (by decide)).2; have b1 := (hy 1 (by decide)).2; have b2 := (hy 2 (by decide)).2; have b3 := (hy 3 (by decide)).2; simp only [wN]; omega
    · have b0 := (hy 0 (by decide)).2; have b1 := (hy 1 (by decide)).2; have b2 := (hy 2 (by decide)).2; have b3 := (hy 3 (by decide)).2; have b4 := (hy 4 (by decide)).2; simp only [wN]; omega
    · have b0 := (hy 0 (by decide)).2; have b1 := (hy 1 (by decide)).2; have b2 := (hy 2 (by decide)).2; have b3 := (hy 3 (by decide)).2; have b4 := (hy 4 (by decide)).2; have b5 := (hy 5 (by decide)).2; simp only [wN]; omega
theorem iw8 {c : Sg} {s k : Nat} {y : Nat → Nat} (hs : s + k ≤ 500) (hy : ∀ i, i < k → c 32 (s + i) = nn (96 + y i) ∧ 1 ≤ y i ∧ y i ≤ 26) : tokens_isWord_c7 (nn s) (nn (s + k)) c = some (if k ≤ 6 ∧ wN y k = 8902227 then 1 else 0) := by
  refine iw_g (n := 5) (l := [8, 15, 21, 18, 19]) rfl rfl (by decide) (by decide) hs hy (fun e => ?_) (fun h6 e => ?_)
  · subst e
    simp only [wN, mt, Nat.zero_add, Nat.reduceAdd, and_true]
    have b0 := (hy 0 (by decide)).2; have b1 := (hy 1 (by decide)).2; have b2 := (hy 2 (by decide)).2; have b3 := (hy 3 (by decide)).2; have b4 := (hy 4 (by decide)).2
    omega
  · rcases (show k = 0 ∨ k = 1 ∨ k = 2 ∨ k = 3 ∨ k = 4 ∨ k = 5 ∨ k = 6 by omega) with rfl | rfl | rfl | rfl | rfl | rfl | rfl
    · simp only [wN]; omega
    · have b0 := (hy 0 (by decide)).2; simp only [wN]; omega
    · have b0 := (hy 0 (by decide)).2; have b1 := (hy 1 (by decide)).2; simp only [wN]; omega
    · have b0 := (hy 0 (by decide)).2; have b1 := (hy 1 (by decide)).2; have b2 := (hy 2 (by decide)).2; simp only [wN]; omega
    · have b0 := (hy 0 (by decide)).2; have b1 := (hy 1 (by decide)).2; have b2 := (hy 2 (by decide)).2; have b3 := (hy 3 (by decide)).2; simp only [wN]; omega
    · have b0 := (hy 0 (by decide)).2; have b1 := (hy 1 (by decide)).2; have b2 := (hy 2 (by decide)).2; have b3 := (hy 3 (by decide)).2; have b4 := (hy 4 (by decide)).2; simp only [wN]; omega
    · have b0 := (hy 0 (by decide)).2; have b1 := (hy 1 (by decide)).2; have b2 := (hy 2 (by decide)).2; have b3 := (hy 3 (by decide)).2; have b4 := (hy 4 (by decide)).2; have b5 := (hy 5 (by decide)).2; simp only [wN]; omega
theorem iw9 {c : Sg} {s k : Nat} {y : Nat → Nat} (hs : s + k ≤ 500) (hy : ∀ i, i < k → c 32 (s + i) = nn (96 + y i) ∧ 1 ≤ y i ∧ y i ≤ 26) : tokens_isWord_c8 (nn s) (nn (s + k)) c = some (if k ≤ 6 ∧ wN y k = 14982420 then 1 else 0) := by
  refine iw_g (n := 5) (l := [14, 9, 7, 8, 20]) rfl rfl (by decide) (by decide) hs hy (fun e => ?_) (fun h6 e => ?_)
  · subst e
    simp only [wN, mt, Nat.zero_add, Nat.reduceAdd, and_true]
    have b0 := (hy 0 (by decide)).2; have b1 := (hy 1 (by decide)).2; have b2 := (hy 2 (by decide)).2; have b3 := (hy 3 (by decide)).2; have b4 := (hy 4 (by decide)).2
    omega
  · rcases (show k = 0 ∨ k = 1 ∨ k = 2 ∨ k = 3 ∨ k = 4 ∨ k = 5 ∨ k = 6 by omega) with rfl | rfl | rfl | rfl | rfl | rfl | rfl
    · simp only [wN]; omega
    · have b0 := (hy 0 (by decide)).2; simp only [wN]; omega
    · have b0 := (hy 0 (by decide)).2; have b1 := (hy 1 (by decide)).2; simp only [wN]; omega
    · have b0 := (hy 0 (by decide)).2; have b1 := (hy 1 (by decide)).2; have b2 := (hy 2 (by decide)).2; simp only [wN]; omega
    · have b0 := (hy 0 (by decide)).2; have b1 := (hy 1 (by decide)).2; have b2 := (hy 2 (by decide)).2; have b3 := (hy 3 (by decide)).2; simp only [wN]; omega
    · have b0 := (hy 0 (by decide)).2; have b1 := (hy 1 (by decide)).2; have b2 := (hy 2 (by decide)).2; have b3 := (hy 3 (by decide)).2; have b4 := (hy 4 (by decide)).2; simp only [wN]; omega
    · have b0 := (hy 0 (by decide)).2; have b1 := (hy 1 (by decide)).2; have b2 := (hy 2 (by decide)).2; have b3 := (hy 3 (by decide)).2; have b4 := (hy 4 (by decide)).2; have b5 := (hy 5 (by decide)).2; simp only [wN]; omega
theorem iw10 {c : Sg} {s k : Nat} {y : Nat → Nat} (hs : s + k ≤ 500) (hy : ∀ i, i < k → c 32 (s + i) = nn (96 + y i) ∧ 1 ≤ y i ∧ y i ≤ 26) : tokens_isWord_c9 (nn s) (nn (s + k)) c = some (if k ≤ 6 ∧ wN y k = 6194 then 1 else 0) := by
  refine iw_g (n := 3) (l := [6, 1, 18]) rfl rfl (by decide) (by decide) hs hy (fun e => ?_) (fun h6 e => ?_)
  · subst e
    simp only [wN, mt, Nat.zero_add, Nat.reduceAdd, and_true]
    have b0 := (hy 0 (by decide)).2; have b1 := (hy 1 (by decide)).2; have b2 := (hy 2 (by decide)).2
    omega
  · rcases (show k = 0 ∨ k = 1 ∨ k = 2 ∨ k = 3 ∨ k = 4 ∨ k = 5 ∨ k = 6 by omega) with rfl | rfl | rfl | rfl | rfl | rfl | rfl
    · simp only [wN]; omega
    · have b0 := (hy 0 (by decide)).2; simp only [wN]; omega
    · have b0 := (hy 0 (by decide)).2; have b1 := (hy 1 (by decide)).2; simp only [wN]; omega
    · have b0 := (hy 0 (by decide)).2; have b1 := (hy 1 (by decide)).2; have b2 := (hy 2 (by decide)).2; simp only [wN]; omega
    · have b0 := (hy 0 (by decide)).2; have b1 := (hy 1 (by decide)).2; have b2 := (hy 2 (by decide)).2; have b3 := (hy 3 (by decide)).2; simp only [wN]; omega
    · have b0 := (hy 0 (by decide)).2; have b1 := (hy 1 (by decide)).2; have b2 := (hy 2 (by decide)).2; have b3 := (hy 3 (by decide)).2; have b4 := (hy 4 (by decide)).2; simp only [wN]; omega
    · have b0 := (hy 0 (by decide)).2; have b1 := (hy 1 (by decide)).2; have b2 := (hy 2 (by decide)).2; have b3 := (hy 3 (by decide)).2; have b4 := (hy 4 (by decide)).2; have b5 := (hy 5 (by decide)).2; simp only [wN]; omega
theorem iw11 {c : Sg} {s k : Nat} {y : Nat → Nat} (hs : s + k ≤ 500) (hy : ∀ i, i < k → c 32 (s + i) = nn (96 + y i) ∧ 1 ≤ y i ∧ y i ≤ 26) : tokens_isWord_c10 (nn s) (nn (s + k)) c = some (if k ≤ 6 ∧ wN y k = 284561586 then 1 else 0) := by
  refine iw_g (n := 6) (l := [8, 15, 12, 4, 5, 18]) rfl rfl (by decide) (by decide) hs hy (fun e => ?_) (fun h6 e => ?_)
  · subst e
    simp only [wN, mt, Nat.zero_add, Nat.reduceAdd, and_true]
    have b0 := (hy 0 (by decide)).2; have b1 := (hy 1 (by decide)).2; have b2 := (hy 2 (by decide)).2; have b3 := (hy 3 (by decide)).2; have b4 := (hy 4 (by decide)).2; have b5 := (hy 5 (by decide)).2
    omega
  · rcases (show k = 0 ∨ k = 1 ∨ k = 2 ∨ k = 3 ∨ k = 4 ∨ k = 5 ∨ k = 6 by omega) with rfl | rfl | rfl | rfl | rfl | rfl | rfl
    · simp only [wN]; omega
    · have b0 := (hy 0 (by decide)).2; simp only [wN]; omega
    · have b0 := (hy 0 (by decide)).2; have b1 := (hy 1 (by decide)).2; simp only [wN]; omega
    · have b0 := (hy 0 (by decide)).2; have b1 := (hy 1 (by decide)).2; have b2 := (hy 2 (by decide)).2; simp only [wN]; omega
    · have b0 := (hy 0 (by decide)).2; have b1 := (hy 1 (by decide)).2; have b2 := (hy 2 (by decide)).2; have b3 := (hy 3 (by decide)).2; simp only [wN]; omega
    · have b0 := (hy 0 (by decide)).2; have b1 := (hy 1 (by decide)).2; have b2 := (hy 2 (by decide)).2; have b3 := (hy 3 (by decide)).2; have b4 := (hy 4 (by decide)).2; simp only [wN]; omega
    · have b0 := (hy 0 (by decide)).2; have b1 := (hy 1 (by decide)).2; have b2 := (hy 2 (by decide)).2; have b3 := (hy 3 (by decide)).2; have b4 := (hy 4 (by decide)).2; have b5 := (hy 5 (by decide)).2; simp only [wN]; omega
theorem iw12 {c : Sg} {s k : Nat} {y : Nat → Nat} (hs : s + k ≤ 500) (hy : ∀ i, i < k → c 32 (s + i) = nn (96 + y i) ∧ 1 ≤ y i ∧ y i ≤ 26) : tokens_isWord_c11 (nn s) (nn (s + k)) c = some (if k ≤ 6 ∧ wN y k = 515236 then 1 else 0) := by
  refine iw_g (n := 4) (l := [15, 23, 5, 4]) rfl rfl (by decide) (by decide) hs hy (fun e => ?_) (fun h6 e => ?_)
  · subst e
    simp only [wN, mt, Nat.zero_add, Nat.reduceAdd, and_true]
    have b0 := (hy 0 (by decide)).2; have b1 := (hy 1 (by decide)).2; have b2 := (hy 2 (by decide)).2; have b3 := (hy 3 (by decide)).2
    omega
  · rcases (show k = 0 ∨ k = 1 ∨ k = 2 ∨ k = 3 ∨ k = 4 ∨ k = 5 ∨ k = 6 by omega) with rfl | rfl | rfl | rfl | rfl | rfl | rfl
    · simp only [wN]; omega
    · have b0 := (hy 0 (by decide)).2; simp only [wN]; omega
    · have b0 := (hy 0 (by decide)).2; have b1 := (hy 1 (by decide)).2; simp only [wN]; omega
    · have b0 := (hy 0 (by decide)).2; have b1 := (hy 1 (by decide)).2; have b2 := (hy 2 (by decide)).2; simp only [wN]; omega
    · have b0 := (hy 0 (by decide)).2; have b1 := (hy 1 (by decide)).2; have b2 := (hy 2 (by decide)).2; have b3 := (hy 3 (by decide)).2; simp only [wN]; omega
    · have b0 := (hy 0 (by decide)).2; have b1 := (hy 1 (by decide)).2; have b2 := (hy 2 (by decide)).2; have b3 := (hy 3 (by decide)).2; have b4 := (hy 4 (by decide)).2; simp only [wN]; omega
    · have b0 := (hy 0 (by decide)).2; have b1 := (hy 1 (by decide)).2; have b2 := (hy 2 (by decide)).2; have b3 := (hy 3 (by decide)).2; have b4 := (hy 4 (by decide)).2; have b5 := (hy 5 (by decide)).2; simp only [wN]; omega
def mW (K : Nat) : Int32 := if K = 0 then 99 else if K = 1 then 30 else if K = 2 then 31 else if K = 3 then 32 else if K ≤ 6 then nn (16 + K) else nn (K - 6)
theorem wl {b : Nat → Int32} {s k : Nat} {y : Nat → Nat} (hs : s + k ≤ 500) (hy : ∀ i, i < k → b (s + i) = nn (96 + y i) ∧ 1 ≤ y i ∧ y i ≤ 26) : ∃ K, K ≤ 12 ∧ (∀ c : Sg, c 32 = b → tokens_wordOf (nn s) (nn (s + k)) c = some (nn K)) ∧ (∀ M : Sg, k ≤ 6 → m_wordOf (LI (wN y k : Int)) M = some (mW K)) ∧ (6 < k → K = 0) := by
  by_cases h1 : k ≤ 6 ∧ wN y k = 294
  · refine ⟨1, by decide, fun c hc => ?_, fun M _ => ?_, fun z => absurd h1.1 (by omega)⟩
    · subst hc
      unfold tokens_wordOf
      exact st_b ((iw1 hs hy).trans (congrArg some (if_pos h1))) (st_f (by decide) rfl)
    · rw [h1.2]
      show m_wordOf (LI ((294 : Nat) : Int)) (fun _ _ => 0) = some (mW 1)
      decide +kernel
  by_cases h2 : k ≤ 6 ∧ wN y k = 1476
  · refine ⟨2, by decide, fun c hc => ?_, fun M _ => ?_, fun z => absurd h2.1 (by omega)⟩
    · subst hc
      unfold tokens_wordOf
      exact st_b ((iw1 hs hy).trans (congrArg some (if_neg h1))) (st_t rfl (st_b ((iw2 hs hy).trans (congrArg some (if_pos h2))) (st_f (by decide) rfl)))
    · rw [h2.2]
      show m_wordOf (LI ((1476 : Nat) : Int)) (fun _ _ => 0) = some (mW 2)
      decide +kernel
  by_cases h3 : k ≤ 6 ∧ wN y k = 14836
  · refine ⟨3, by decide, fun c hc => ?_, fun M _ => ?_, fun z => absurd h3.1 (by omega)⟩
    · subst hc
      unfold tokens_wordOf
      exact st_b ((iw1 hs hy).trans (congrArg some (if_neg h1))) (st_t rfl (st_b ((iw2 hs hy).trans (congrArg some (if_neg h2))) (st_t rfl (st_b ((iw3 hs hy).trans (congrArg some (if_pos h3))) (st_f (by decide) rfl)))))
    · rw [h3.2]
      show m_wordOf (LI ((14836 : Nat) : Int)) (fun _ _ => 0) = some (mW 3)
      decide +kernel
  by_cases h4 : k ≤ 6 ∧ wN y k = 777297172
  · refine ⟨4, by decide, fun c hc => ?_, fun M _ => ?_, fun z => absurd h4.1 (by omega)⟩
    · subst hc
      unfold tokens_wordOf
      exact st_b ((iw1 hs hy).trans (congrArg some (if_neg h1))) (st_t rfl (st_b ((iw2 hs hy).trans (congrArg some (if_neg h2))) (st_t rfl (st_b ((iw3 hs hy).trans (congrArg some (if_neg h3))) (st_t rfl (st_b ((iw4 hs hy).trans (congrArg some (if_pos h4))) (st_f (by decide) rfl)))))))
    · rw [h4.2]
      show m_wordOf (LI ((777297172 : Nat) : Int)) (fun _ _ => 0) = some (mW 4)
      decide +kernel
  by_cases h5 : k ≤ 6 ∧ wN y k = 3764
  · refine ⟨5, by decide, fun c hc => ?_, fun M _ => ?_, fun z => absurd h5.1 (by omega)⟩
    · subst hc
      unfold tokens_wordOf
      exact st_b ((iw1 hs hy).trans (congrArg some (if_neg h1))) (st_t rfl (st_b ((iw2 hs hy).trans (congrArg some (if_neg h2))) (st_t rfl (st_b ((iw3 hs hy).trans (congrArg some (if_neg h3))) (st_t rfl (st_b ((iw4 hs hy).trans (congrArg some (if_neg h4))) (st_t rfl (st_b ((iw5 hs hy).trans (congrArg some (if_pos h5))) (st_f (by decide) rfl)))))))))
    · rw [h5.2]
      show m_wordOf (LI ((3764 : Nat) : Int)) (fun _ _ => 0) = some (mW 5)
      decide +kernel
  by_cases h6 : k ≤ 6 ∧ wN y k = 215205
  · refine ⟨6, by decide, fun c hc => ?_, fun M _ => ?_, fun z => absurd h6.1 (by omega)⟩
    · subst hc
      unfold tokens_wordOf
      exact st_b ((iw1 hs hy).trans (congrArg some (if_neg h1))) (st_t rfl (st_b ((iw2 hs hy).trans (congrArg some (if_neg h2))) (st_t rfl (st_b ((iw3 hs hy).trans (congrArg some (if_neg h3))) (st_t rfl (st_b ((iw4 hs hy).trans (congrArg some (if_neg h4))) (st_t rfl (st_b ((iw5 hs hy).trans (congrArg some (if_neg h5))) (st_t rfl (st_b ((iw6 hs hy).trans (congrArg some (if_pos h6))) (st_f (by decide) rfl)))))))))))
    · rw [h6.2]
      show m_wordOf (LI ((215205 : Nat) : Int)) (fun _ _ => 0) = some (mW 6)
      decide +kernel
  by_cases h7 : k ≤ 6 ∧ wN y k = 4697
  · refine ⟨7, by decide, fun c hc => ?_, fun M _ => ?_, fun z => absurd h7.1 (by omega)⟩
    · subst hc
      unfold tokens_wordOf
      exact st_b ((iw1 hs hy).trans (congrArg some (if_neg h1))) (st_t rfl (st_b ((iw2 hs hy).trans (congrArg some (if_neg h2))) (st_t rfl (st_b ((iw3 hs hy).trans (congrArg some (if_neg h3))) (st_t rfl (st_b ((iw4 hs hy).trans (congrArg some (if_neg h4))) (st_t rfl (st_b ((iw5 hs hy).trans (congrArg some (if_neg h5))) (st_t rfl (st_b ((iw6 hs hy).trans (congrArg some (if_neg h6))) (st_t rfl (st_b ((iw7 hs hy).trans (congrArg some (if_pos h7))) (st_f (by decide) rfl)))))))))))))
    · rw [h7.2]
      show m_wordOf (LI ((4697 : Nat) : Int)) (fun _ _ => 0) = some (mW 7)
      decide +kernel
  by_cases h8 : k ≤ 6 ∧ wN y k = 8902227
  · refine ⟨8, by decide, fun c hc => ?_, fun M _ => ?_, fun z => absurd h8.1 (by omega)⟩
    · subst hc
      unfold tokens_wordOf
      exact st_b ((iw1 hs hy).trans (congrArg some (if_neg h1))) (st_t rfl (st_b ((iw2 hs hy).trans (congrArg some (if_neg h2))) (st_t rfl (st_b ((iw3 hs hy).trans (congrArg some (if_neg h3))) (st_t rfl (st_b ((iw4 hs hy).trans (congrArg some (if_neg h4))) (st_t rfl (st_b ((iw5 hs hy).trans (congrArg some (if_neg h5))) (st_t rfl (st_b ((iw6 hs hy).trans (congrArg some (if_neg h6))) (st_t rfl (st_b ((iw7 hs hy).trans (congrArg some (if_neg h7))) (st_t rfl (st_b ((iw8 hs hy).trans (congrArg some (if_pos h8))) (st_f (by decide) rfl)))))))))))))))
    · rw [h8.2]
      show m_wordOf (LI ((8902227 : Nat) : Int)) (fun _ _ => 0) = some (mW 8)
      decide +kernel
  by_cases h9 : k ≤ 6 ∧ wN y k = 14982420
  · refine ⟨9, by decide, fun c hc => ?_, fun M _ => ?_, fun z => absurd h9.1 (by omega)⟩
    · subst hc
      unfold tokens_wordOf
      exact st_b ((iw1 hs hy).trans (congrArg some (if_neg h1))) (st_t rfl (st_b ((iw2 hs hy).trans (congrArg some (if_neg h2))) (st_t rfl (st_b ((iw3 hs hy).trans (congrArg some (if_neg h3))) (st_t rfl (st_b ((iw4 hs hy).trans (congrArg some (if_neg h4))) (st_t rfl (st_b ((iw5 hs hy).trans (congrArg some (if_neg h5))) (st_t rfl (st_b ((iw6 hs hy).trans (congrArg some (if_neg h6))) (st_t rfl (st_b ((iw7 hs hy).trans (congrArg some (if_neg h7))) (st_t rfl (st_b ((iw8 hs hy).trans (congrArg some (if_neg h8))) (st_t rfl (st_b ((iw9 hs hy).trans (congrArg some (if_pos h9))) (st_f (by decide) rfl)))))))))))))))))
    · rw [h9.2]
      show m_wordOf (LI ((14982420 : Nat) : Int)) (fun _ _ => 0) = some (mW 9)
      decide +kernel
  by_cases h10 : k ≤ 6 ∧ wN y k = 6194
  · refine ⟨10, by decide, fun c hc => ?_, fun M _ => ?_, fun z => absurd h10.1 (by omega)⟩
    · subst hc
      unfold tokens_wordOf
      exact st_b ((iw1 hs hy).trans (congrArg some (if_neg h1))) (st_t rfl (st_b ((iw2 hs hy).trans (congrArg some (if_neg h2))) (st_t rfl (st_b ((iw3 hs hy).trans (congrArg some (if_neg h3))) (st_t rfl (st_b ((iw4 hs hy).trans (congrArg some (if_neg h4))) (st_t rfl (st_b ((iw5 hs hy).trans (congrArg some (if_neg h5))) (st_t rfl (st_b ((iw6 hs hy).trans (congrArg some (if_neg h6))) (st_t rfl (st_b ((iw7 hs hy).trans (congrArg some (if_neg h7))) (st_t rfl (st_b ((iw8 hs hy).trans (congrArg some (if_neg h8))) (st_t rfl (st_b ((iw9 hs hy).trans (congrArg some (if_neg h9))) (st_t rfl (st_b ((iw10 hs hy).trans (congrArg some (if_pos h10))) (st_f (by decide) rfl)))))))))))))))))))
    · rw [h10.2]
      show m_wordOf (LI ((6194 : Nat) : Int)) (fun _ _ => 0) = some (mW 10)
      decide +kernel
  by_cases h11 : k ≤ 6 ∧ wN y k = 284561586
  · refine ⟨11, by decide, fun c hc => ?_, fun M _ => ?_, fun z => absurd h11.1 (by omega)⟩
    · subst hc
      unfold tokens_wordOf
      exact st_b ((iw1 hs hy).trans (congrArg some (if_neg h1))) (st_t rfl (st_b ((iw2 hs hy).trans (congrArg some (if_neg h2))) (st_t rfl (st_b ((iw3 hs hy).trans (congrArg some (if_neg h3))) (st_t rfl (st_b ((iw4 hs hy).trans (congrArg some (if_neg h4))) (st_t rfl (st_b ((iw5 hs hy).trans (congrArg some (if_neg h5))) (st_t rfl (st_b ((iw6 hs hy).trans (congrArg some (if_neg h6))) (st_t rfl (st_b ((iw7 hs hy).trans (congrArg some (if_neg h7))) (st_t rfl (st_b ((iw8 hs hy).trans (congrArg some (if_neg h8))) (st_t rfl (st_b ((iw9 hs hy).trans (congrArg some (if_neg h9))) (st_t rfl (st_b ((iw10 hs hy).trans (congrArg some (if_neg h10))) (st_t rfl (st_b ((iw11 hs hy).trans (congrArg some (if_pos h11))) (st_f (by decide) rfl)))))))))))))))))))))
    · rw [h11.2]
      show m_wordOf (LI ((284561586 : Nat) : Int)) (fun _ _ => 0) = some (mW 11)
      decide +kernel
  by_cases h12 : k ≤ 6 ∧ wN y k = 515236
  · refine ⟨12, by decide, fun c hc => ?_, fun M _ => ?_, fun z => absurd h12.1 (by omega)⟩
    · subst hc
      unfold tokens_wordOf
      exact st_b ((iw1 hs hy).trans (congrArg some (if_neg h1))) (st_t rfl (st_b ((iw2 hs hy).trans (congrArg some (if_neg h2))) (st_t rfl (st_b ((iw3 hs hy).trans (congrArg some (if_neg h3))) (st_t rfl (st_b ((iw4 hs hy).trans (congrArg some (if_neg h4))) (st_t rfl (st_b ((iw5 hs hy).trans (congrArg some (if_neg h5))) (st_t rfl (st_b ((iw6 hs hy).trans (congrArg some (if_neg h6))) (st_t rfl (st_b ((iw7 hs hy).trans (congrArg some (if_neg h7))) (st_t rfl (st_b ((iw8 hs hy).trans (congrArg some (if_neg h8))) (st_t rfl (st_b ((iw9 hs hy).trans (congrArg some (if_neg h9))) (st_t rfl (st_b ((iw10 hs hy).trans (congrArg some (if_neg h10))) (st_t rfl (st_b ((iw11 hs hy).trans (congrArg some (if_neg h11))) (st_t rfl (st_b ((iw12 hs hy).trans (congrArg some (if_pos h12))) (st_f (by decide) rfl)))))))))))))))))))))))
    · rw [h12.2]
      show m_wordOf (LI ((515236 : Nat) : Int)) (fun _ _ => 0) = some (mW 12)
      decide +kernel
  refine ⟨0, by decide, fun c hc => ?_, fun M hk6 => ?_, fun _ => rfl⟩
  · subst hc
    unfold tokens_wordOf
    exact st_b ((iw1 hs hy).trans (congrArg some (if_neg h1))) (st_t rfl (st_b ((iw2 hs hy).trans (congrArg some (if_neg h2))) (st_t rfl (st_b ((iw3 hs hy).trans (congrArg some (if_neg h3))) (st_t rfl (st_b ((iw4 hs hy).trans (congrArg some (if_neg h4))) (st_t rfl (st_b ((iw5 hs hy).trans (congrArg some (if_neg h5))) (st_t rfl (st_b ((iw6 hs hy).trans (congrArg some (if_neg h6))) (st_t rfl (st_b ((iw7 hs hy).trans (congrArg some (if_neg h7))) (st_t rfl (st_b ((iw8 hs hy).trans (congrArg some (if_neg h8))) (st_t rfl (st_b ((iw9 hs hy).trans (congrArg some (if_neg h9))) (st_t rfl (st_b ((iw10 hs hy).trans (congrArg some (if_neg h10))) (st_t rfl (st_b ((iw11 hs hy).trans (congrArg some (if_neg h11))) (st_t rfl (st_b ((iw12 hs hy).trans (congrArg some (if_neg h12))) (st_t rfl (rfl))))))))))))))))))))))))
  · have hw : wN y k < 4000000000 := by
      rcases (show k = 0 ∨ k = 1 ∨ k = 2 ∨ k = 3 ∨ k = 4 ∨ k = 5 ∨ k = 6 by omega) with rfl | rfl | rfl | rfl | rfl | rfl | rfl
      · simp only [wN]; omega
      · have b0 := (hy 0 (by decide)).2; simp only [wN]; omega
      · have b0 := (hy 0 (by decide)).2; have b1 := (hy 1 (by decide)).2; simp only [wN]; omega
      · have b0 := (hy 0 (by decide)).2; have b1 := (hy 1 (by decide)).2; have b2 := (hy 2 (by decide)).2; simp only [wN]; omega
      · have b0 := (hy 0 (by decide)).2; have b1 := (hy 1 (by decide)).2; have b2 := (hy 2 (by decide)).2; have b3 := (hy 3 (by decide)).2; simp only [wN]; omega
      · have b0 := (hy 0 (by decide)).2; have b1 := (hy 1 (by decide)).2; have b2 := (hy 2 (by decide)).2; have b3 := (hy 3 (by decide)).2; have b4 := (hy 4 (by decide)).2; simp only [wN]; omega
      · have b0 := (hy 0 (by decide)).2; have b1 := (hy 1 (by decide)).2; have b2 := (hy 2 (by decide)).2; have b3 := (hy 3 (by decide)).2; have b4 := (hy 4 (by decide)).2; have b5 := (hy 5 (by decide)).2; simp only [wN]; omega
    have hq : ∀ C : Nat, C < 4000000000 → ¬ (k ≤ 6 ∧ wN y k = C) → ¬ lg_cmp (LI (wN y k : Int)) (LI (C : Int)) = 0 := fun C hC h z => h ⟨hk6, Int.ofNat.inj ((cmp_eq (a := (wN y k : Int)) (b := (C : Int)) (by omega) (by omega) (by omega) (by omega)).mp z)⟩
    unfold m_wordOf
    exact st_t (hq 4697 (by decide) h7) (st_t (hq 8902227 (by decide) h8) (st_t (hq 14982420 (by decide) h9) (st_t (hq 6194 (by decide) h10) (st_t (hq 284561586 (by decide) h11) (st_t (hq 515236 (by decide) h12) (st_t (hq 777297172 (by decide) h4) (st_t (hq 3764 (by decide) h5) (st_t (hq 215205 (by decide) h6) (st_t (hq 294 (by decide) h1) (st_t (hq 1476 (by decide) h2) (st_t (hq 14836 (by decide) h3) (rfl))))))))))))
end
section
/-! the statute: tokens -/
theorem nlE {a b : Nat} (c : Int32) (hc : c = nn a) (ha : a < 2147483648) (hb : b < 2147483648) : (c ≤ nn b) = (a ≤ b) := by rw [hc, nnE ha hb]
theorem nlL {a b : Nat} (c : Int32) (hc : c = nn a) (ha : a < 2147483648) (hb : b < 2147483648) : (c < nn b) = (a < b) := by rw [hc, nnL ha hb]
theorem nrE {a b : Nat} (c : Int32) (hc : c = nn b) (ha : a < 2147483648) (hb : b < 2147483648) : (nn a ≤ c) = (a ≤ b) := by rw [hc, nnE ha hb]
theorem nrQ {a b : Nat} (c : Int32) (hc : c = nn b) (ha : a < 2147483648) (hb : b < 2147483648) : (nn a = c) = (a = b) := by rw [hc, nnQ ha hb]
theorem nrS {a b : Nat} (c : Int32) (hc : c = nn b) (h : b ≤ a) : nn a - c = nn (a - b) := by rw [hc, nnS h]
def StC (c c2 : Sg) : Prop := (∀ i, i ≠ 191 → c2 i = c i) ∧ ∀ j, (j < 4 ∨ 7 < j) → c2 191 j = c 191 j
theorem StC.r {c : Sg} : StC c c := ⟨fun _ _ => rfl, fun _ _ => rfl⟩
theorem StC.t {c c2 c3 : Sg} (h : StC c c2) (h2 : StC c2 c3) : StC c c3 := ⟨fun i a => (h2.1 i a).trans (h.1 i a), fun j a => (h2.2 j a).trans (h.2 j a)⟩
theorem StC.w {c : Sg} {i : Nat} {v : Int32} (h : 4 ≤ i ∧ i ≤ 7) : StC c (up2 c 191 i v) := ⟨fun j a => u2n a, fun j a => by rw [u2e, up1_ne (by omega)]⟩
def StM (c c2 : Sg) : Prop := (∀ i, i ≠ 215 → c2 i = c i) ∧ ∀ j, (j < 4 ∨ 9 < j) → c2 215 j = c 215 j
theorem StM.r {c : Sg} : StM c c := ⟨fun _ _ => rfl, fun _ _ => rfl⟩
theorem StM.t {c c2 c3 : Sg} (h : StM c c2) (h2 : StM c2 c3) : StM c c3 := ⟨fun i a => (h2.1 i a).trans (h.1 i a), fun j a => (h2.2 j a).trans (h.2 j a)⟩
theorem StM.w {c : Sg} {i : Nat} {v : Int32} (h : 4 ≤ i ∧ i ≤ 9) : StM c (up2 c 215 i v) := ⟨fun j a => u2n a, fun j a => by rw [u2e, up1_ne (by omega)]⟩
theorem up_e {g : Sg} {a i : Nat} {v : Int32} : up2 g a i v a i = v := by rw [u2e, up1_eq]
theorem up_n {g : Sg} {a i j : Nat} {v : Int32} (h : j ≠ i) : up2 g a i v a j = g a j := by rw [u2e, up1_ne h]
def mb (b : Nat → Int32) (len p : Nat) : Int32 := if p < len then b p &&& 255 else -1
def MB (M : Sg) (b : Nat → Int32) (len : Nat) : Prop := M 215 3 = nn len ∧ ∀ i, i < 500 → M 216 (4590 + i) = b i &&& 255
theorem MB.t {M M2 : Sg} {b : Nat → Int32} {len : Nat} (h : MB M b len) (h2 : StM M M2) : MB M2 b len := ⟨(h2.2 3 (by decide)).trans h.1, fun i hi => by rw [h2.1 216 (by decide)]; exact h.2 i hi⟩
theorem mb_e {M : Sg} {b : Nat → Int32} {len p : Nat} (hM : MB M b len) (hp : p ≤ len) (hl : len ≤ 500) : m_byteAt (nn p) M = some (mb b len p) := by
  unfold m_byteAt mb
  rw [hM.1]
  by_cases z : p < len
  · rw [if_pos z]
    refine st_f (by rw [nnE (by omega) (by omega)]; omega) (st_t (by rw [show (4590 : Int32) + nn p = nn (4590 + p) from nnA 4590 p, nnB (by omega)]; omega) ?_)
    rw [show (4590 : Int32) + nn p = nn (4590 + p) from nnA 4590 p, nnT (by omega), hM.2 p (by omega)]
  · rw [if_neg z]
    exact st_t (by rw [nnE (by omega) (by omega)]; omega) rfl
def VB (b : Nat → Int32) : Prop := ∀ i, i < 500 → ∃ x : Int8, b i = x.toInt32
theorem bu {b : Nat → Int32} (hV : VB b) {i : Nat} (hi : i < 500) : bL (b i &&& 255) = bL (b i) ∧ bD (b i &&& 255) = bD (b i) ∧ bB (b i &&& 255) = bB (b i) ∧ bS (b i &&& 255) = bS (b i) ∧ (0 ≤ b i → b i &&& 255 = b i) ∧ 0 ≤ b i &&& 255 := by
  obtain ⟨x, e⟩ := hV i hi
  rw [e]
  exact bt x
theorem blC {b : Nat → Int32} {len q F : Nat} (hq : q ≤ len) (hl : len ≤ 500) (h2 : q < len → bB (b q) = false) : ∀ m p n c, p + m = q → m < n → c 32 = b → c 191 4 = nn p → (∀ i, p ≤ i → i < q → bB (b i) = true) → ∃ c2, reader_nextToken_0 F n (nn len) c = reader_nextToken_33 F (nn len) c2 ∧ StC c c2 ∧ c2 191 4 = nn q
  | 0, p, n, c, h, hn, h32, h4, hb => by
    obtain ⟨n, rfl⟩ : ∃ k, n = k + 1 := ⟨n - 1, by omega⟩
    obtain rfl : p = q := by omega
    refine ⟨c, ?_, StC.r, h4⟩
    rw [reader_nextToken_0, h4, h32]
    by_cases z : p = len
    · exact st_t (by rw [nnE (by omega) (by omega)]; omega) rfl
    · refine st_f (by rw [nnE (by omega) (by omega)]; omega) (st_t (by rw [nnB (by omega)]; omega) (st_b ((bla_e _ _).trans (congrArg some (if_neg ?_))) (st_t rfl rfl)))
      rw [nnT (by omega), h2 (by omega)]
      decide
  | m + 1, p, n, c, h, hn, h32, h4, hb => by
    obtain ⟨n, rfl⟩ : ∃ k, n = k + 1 := ⟨n - 1, by omega⟩
    obtain ⟨c2, g1, g2, g3⟩ := blC (F := F) hq hl h2 m (p + 1) n (up2 c 191 4 (nn p + 1)) (by omega) (by omega) (by rw [u2n (by decide)]; exact h32) (by rw [up_e]; exact nnAr p 1) (fun i x y => hb i (by omega) y)
    refine ⟨c2, ?_, (StC.w (by decide)).t g2, g3⟩
    rw [reader_nextToken_0, h4, h32]
    refine st_f (by rw [nnE (by omega) (by omega)]; omega) (st_t (by rw [nnB (by omega)]; omega) (st_b ((bla_e _ _).trans (congrArg some (if_pos ?_))) (st_f (by decide) g1)))
    rw [nnT (by omega)]
    exact hb p (Nat.le_refl p) (by omega)
theorem blM {b : Nat → Int32} {len q F : Nat} (hV : VB b) (hq : q ≤ len) (hl : len ≤ 500) : ∀ m p n M, p + m = q → m < n → MB M b len → M 215 4 = nn p → (∀ i, p ≤ i → i < q → bB (b i) = true) → ∃ n2 M2, m_advance_0 F n M = m_advance_0 F (n2 + 1) M2 ∧ StM M M2 ∧ M2 215 4 = nn q
  | 0, p, n, M, h, hn, hM, h4, hb => by
    obtain ⟨n, rfl⟩ : ∃ k, n = k + 1 := ⟨n - 1, by omega⟩
    obtain rfl : p = q := by omega
    exact ⟨n, M, rfl, StM.r, h4⟩
  | m + 1, p, n, M, h, hn, hM, h4, hb => by
    obtain ⟨n, rfl⟩ : ∃ k, n = k + 1 := ⟨n - 1, by omega⟩
    have fr : StM M (up2 M 215 4 (M 215 4 + 1)) := StM.w (by decide)
    obtain ⟨n2, M2, g1, g2, g3⟩ := blM (F := F) hV hq hl m (p + 1) n (up2 M 215 4 (M 215 4 + 1)) (by omega) (by omega) (hM.t fr) (by rw [up_e, h4]; exact nnAr p 1) (fun i x y => hb i (by omega) y)
    refine ⟨n2, M2, ?_, fr.t g2, g3⟩
    have hbp := hb p (Nat.le_refl p) (by omega)
    rw [← (bu hV (i := p) (by omega)).2.2.1] at hbp
    have hby : m_byteAt (M 215 4) M = some (b p &&& 255) := by rw [h4, mb_e hM (by omega) hl]; unfold mb; rw [if_pos (by omega)]
    rw [m_advance_0]
    refine st_b hby ?_
    by_cases z : b p &&& 255 = 10
    · exact st_t z g1
    · have z2 : b p &&& 255 = 32 := (of_decide_eq_true hbp).resolve_left z
      exact st_f z (st_b hby (st_f (fun y => y z2) g1))
theorem woC {b : Nat → Int32} {len q : Nat} (hq : q ≤ len) (hl : len ≤ 500) (h2 : q < len → bL (b q) = false) : ∀ m p n c, p + m = q → m < n → c 32 = b → c 191 4 = nn p → (∀ i, p ≤ i → i < q → bL (b i) = true) → ∃ c2, reader_takeWord_0 n (nn len) c = reader_takeWord_33 c2 ∧ StC c c2 ∧ c2 191 4 = nn q ∧ c2 191 5 = c 191 5
  | 0, p, n, c, h, hn, h32, h4, hb => by
    obtain ⟨n, rfl⟩ : ∃ k, n = k + 1 := ⟨n - 1, by omega⟩
    obtain rfl : p = q := by omega
    refine ⟨c, ?_, StC.r, h4, rfl⟩
    rw [reader_takeWord_0, h4, h32]
    by_cases z : p = len
    · exact st_t (by rw [nnE (by omega) (by omega)]; omega) rfl
    · refine st_f (by rw [nnE (by omega) (by omega)]; omega) (st_t (by rw [nnB (by omega)]; omega) (st_b ((let_e _ _).trans (congrArg some (if_neg ?_))) (st_t rfl rfl)))
      rw [nnT (by omega), h2 (by omega)]
      decide
  | m + 1, p, n, c, h, hn, h32, h4, hb => by
    obtain ⟨n, rfl⟩ : ∃ k, n = k + 1 := ⟨n - 1, by omega⟩
    obtain ⟨c2, g1, g2, g3, g4⟩ := woC hq hl h2 m (p + 1) n (up2 c 191 4 (nn p + 1)) (by omega) (by omega) (by rw [u2n (by decide)]; exact h32) (by rw [up_e]; exact nnAr p 1) (fun i x y => hb i (by omega) y)
    refine ⟨c2, ?_, (StC.w (by decide)).t g2, g3, g4.trans (up_n (by decide))⟩
    rw [reader_takeWord_0, h4, h32]
    refine st_f (by rw [nnE (by omega) (by omega)]; omega) (st_t (by rw [nnB (by omega)]; omega) (st_b ((let_e _ _).trans (congrArg some (if_pos ?_))) (st_f (by decide) g1)))
    rw [nnT (by omega)]
    exact hb p (Nat.le_refl p) (by omega)
theorem woM {b : Nat → Int32} {len s q : Nat} {y : Nat → Nat} (hV : VB b) (hsq : s ≤ q) (hq : q ≤ len) (hl : len ≤ 500) (hy : ∀ i, i < q - s → b (s + i) = nn (96 + y i) ∧ 1 ≤ y i ∧ y i ≤ 26) (hy2 : ∀ i, i < q - s → bL (b (s + i)) = true) : ∀ m k n M, k + m = q - s → m < n → MB M b len → M 215 4 = nn (s + k) → M 215 5 = nn s → ∃ n2 M2, m_advance_77 n (LI (wN y (min k 7) : Int)) M = m_advance_77 (n2 + 1) (LI (wN y (min (q - s) 7) : Int)) M2 ∧ StM M M2 ∧ M2 215 4 = nn q ∧ M2 215 5 = nn s
  | 0, k, n, M, h, hn, hM, h4, h5 => by
    obtain ⟨n, rfl⟩ : ∃ k, n = k + 1 := ⟨n - 1, by omega⟩
    obtain rfl : k = q - s := by omega
    exact ⟨n, M, rfl, StM.r, by rw [h4, show s + (q - s) = q by omega], h5⟩
  | m + 1, k, n, M, h, hn, hM, h4, h5 => by
    obtain ⟨n, rfl⟩ : ∃ k, n = k + 1 := ⟨n - 1, by omega⟩
    have fr : StM M (up2 M 215 4 (M 215 4 + 1)) := StM.w (by decide)
    obtain ⟨n2, M2, g1, g2, g3, g4⟩ := woM hV hsq hq hl hy hy2 m (k + 1) n (up2 M 215 4 (M 215 4 + 1)) (by omega) (by omega) (hM.t fr) (by rw [up_e, h4]; exact nnAr (s + k) 1) (by rw [up_n (by decide)]; exact h5)
    refine ⟨n2, M2, ?_, fr.t g2, g3, g4⟩
    obtain ⟨e1, e2, e3⟩ := hy k (by omega)
    have e0 := hy2 k (by omega)
    have hu := bu hV (i := s + k) (by omega)
    rw [e1] at hu
    have hu2 := hu.2.2.2.2.1 (show (0 : Int32) ≤ nn (96 + y k) by rw [nlE (a := 0) 0 rfl (by decide) (by omega)]; omega)
    have hby : m_byteAt (M 215 4) M = some (nn (96 + y k)) := by rw [h4, mb_e hM (by omega) hl]; unfold mb; rw [if_pos (by omega), e1, hu2]
    rw [m_advance_77]
    refine st_b hby (st_b ((mle_e _ _).trans (congrArg some (if_pos (by rw [← e1]; exact e0)))) (st_f (by decide) ?_))
    by_cases z : 7 ≤ k
    · refine st_t ?_ ?_
      · rw [h4, h5, nnS (by omega), nlE (a := 7) 7 rfl (by decide) (by omega)]; omega
      · rw [show min k 7 = min (k + 1) 7 by omega]
        exact g1
    · refine st_f ?_ (st_b hby (st_l ?_))
      · rw [h4, h5, nnS (by omega), nlE (a := 7) 7 rfl (by decide) (by omega)]; omega
      · have ew : 32 * LI (wN y (min k 7) : Int) + Int32.toInt64 (nn (96 + y k)) - 96 = LI (wN y (min (k + 1) 7) : Int) := by
          rw [show min k 7 = k by omega, show min (k + 1) 7 = k + 1 by omega, LI_n (by omega), show (32 : Int64) = LI 32 from rfl, show (96 : Int64) = LI 96 from rfl, LI_m, LI_a, LI_s]
          congr 1
          simp only [wN]
          omega
        rw [ew]
        exact g1
def dN (y : Nat → Nat) : Nat → Nat
  | 0 => 0
  | k + 1 => 10 * dN y k + y k
theorem nuC {b : Nat → Int32} {len s q : Nat} {y : Nat → Nat} (hsq : s ≤ q) (hq : q ≤ len) (hl : len ≤ 500) (h2 : q < len → bD (b q) = false) (hy : ∀ i, i < q - s → b (s + i) = nn (48 + y i) ∧ y i ≤ 9) (hy2 : ∀ i, i < q - s → bD (b (s + i)) = true) : ∀ m k n c, k + m = q - s → m < n → c 32 = b → c 191 4 = nn (s + k) → c 191 5 = nn s → c 191 7 = nn (dN y (min k 4)) → ∃ c2, reader_takeNumber_5 n (nn len) c = reader_takeNumber_72 c2 ∧ StC c c2 ∧ c2 191 4 = nn q ∧ c2 191 5 = nn s ∧ c2 191 7 = nn (dN y (min (q - s) 4))
  | 0, k, n, c, h, hn, h32, h4, h5, h7 => by
    obtain ⟨n, rfl⟩ : ∃ k, n = k + 1 := ⟨n - 1, by omega⟩
    obtain rfl : k = q - s := by omega
    rw [show s + (q - s) = q by omega] at h4
    refine ⟨c, ?_, StC.r, h4, h5, h7⟩
    rw [reader_takeNumber_5, h4, h32]
    by_cases z : q = len
    · exact st_t (by rw [nnE (by omega) (by omega)]; omega) rfl
    · refine st_f (by rw [nnE (by omega) (by omega)]; omega) (st_t (by rw [nnB (by omega)]; omega) (st_b ((dig_e _ _).trans (congrArg some (if_neg ?_))) (st_t rfl rfl)))
      rw [nnT (by omega), h2 (by omega)]
      decide
  | m + 1, k, n, c, h, hn, h32, h4, h5, h7 => by
    obtain ⟨n, rfl⟩ : ∃ k, n = k + 1 := ⟨n - 1, by omega⟩
    obtain ⟨e1, e2⟩ := hy k (by omega)
    have e0 := hy2 k (by omega)
    have hd : ∀ g : Sg, tokens_isDigit (c 32 (Int32.toNatClampNeg (c 191 4))) g = some 1 := fun g => (dig_e _ _).trans (congrArg some (if_pos (by rw [h32, h4, nnT (by omega)]; exact e0)))
    have hin : inb (c 191 4) 500 = true := by rw [h4, nnB (by omega)]; omega
    rw [reader_takeNumber_5]
    by_cases z : 4 ≤ k
    · obtain ⟨c2, g1, g2, g3⟩ := nuC hsq hq hl h2 hy hy2 m (k + 1) n (up2 c 191 4 (c 191 4 + 1)) (by omega) (by omega) (by rw [u2n (by decide)]; exact h32) (by rw [up_e, h4]; exact nnAr (s + k) 1) (by rw [up_n (by decide)]; exact h5) (by rw [up_n (by decide), h7, show min (k + 1) 4 = min k 4 by omega])
      refine ⟨c2, ?_, (StC.w (by decide)).t g2, g3⟩
      exact st_f (by rw [h4, nnE (by omega) (by omega)]; omega) (st_t hin (st_b (hd _) (st_f (by decide) (st_t (by rw [h4, h5, nnS (by omega), nlE (a := 4) 4 rfl (by decide) (by omega)]; omega) g1))))
    · obtain ⟨c1, hc1⟩ : ∃ c1, c1 = up2 c 191 7 ((((c 191 7) * 10) + (c 32 (Int32.toNatClampNeg (c 191 4)))) - 48) := ⟨_, rfl⟩
      have f4 : c1 191 4 = nn (s + k) := by rw [hc1, up_n (by decide)]; exact h4
      have f5 : c1 191 5 = nn s := by rw [hc1, up_n (by decide)]; exact h5
      have f32 : c1 32 = b := by rw [hc1, u2n (by decide)]; exact h32
      have f7 : c1 191 7 = nn (dN y (min (k + 1) 4)) := by
        rw [hc1, up_e, h7, h32, h4, nnT (by omega), e1, show min k 4 = k by omega, show min (k + 1) 4 = k + 1 by omega, show nn (dN y k) * 10 = nn (dN y k * 10) from nnM _ 10, nnA, nrS (b := 48) 48 rfl (by omega)]
        congr 1
        simp only [dN]
        omega
      obtain ⟨c2, g1, g2, g3⟩ := nuC hsq hq hl h2 hy hy2 m (k + 1) n (up2 c1 191 4 (c1 191 4 + 1)) (by omega) (by omega) (by rw [u2n (by decide)]; exact f32) (by rw [up_e, f4]; exact nnAr (s + k) 1) (by rw [up_n (by decide)]; exact f5) (by rw [up_n (by decide)]; exact f7)
      refine ⟨c2, ?_, ((hc1 ▸ StC.w (by decide) : StC c c1).t (StC.w (by decide))).t g2, g3⟩
      refine st_f (by rw [h4, nnE (by omega) (by omega)]; omega) (st_t hin (st_b (hd _) (st_f (by decide) (st_f (by rw [h4, h5, nnS (by omega), nlE (a := 4) 4 rfl (by decide) (by omega)]; omega) (st_t hin (st_l ?_))))))
      rw [← hc1]
      exact g1
theorem nuM {b : Nat → Int32} {len s q : Nat} {y : Nat → Nat} (hV : VB b) (hsq : s ≤ q) (hq : q ≤ len) (hl : len ≤ 500) (hy : ∀ i, i < q - s → b (s + i) = nn (48 + y i) ∧ y i ≤ 9) (hy2 : ∀ i, i < q - s → bD (b (s + i)) = true) : ∀ m k n M, k + m = q - s → m < n → MB M b len → M 215 4 = nn (s + k) → M 215 5 = nn s → M 215 7 = nn (dN y (min k 4)) → ∃ n2 M2, m_advance_198 n M = m_advance_198 (n2 + 1) M2 ∧ StM M M2 ∧ M2 215 4 = nn q ∧ M2 215 5 = nn s ∧ M2 215 7 = nn (dN y (min (q - s) 4))
  | 0, k, n, M, h, hn, hM, h4, h5, h7 => by
    obtain ⟨n, rfl⟩ : ∃ k, n = k + 1 := ⟨n - 1, by omega⟩
    obtain rfl : k = q - s := by omega
    exact ⟨n, M, rfl, StM.r, by rw [h4, show s + (q - s) = q by omega], h5, h7⟩
  | m + 1, k, n, M, h, hn, hM, h4, h5, h7 => by
    obtain ⟨n, rfl⟩ : ∃ k, n = k + 1 := ⟨n - 1, by omega⟩
    obtain ⟨e1, e2⟩ := hy k (by omega)
    have e0 := hy2 k (by omega)
    have hu := bu hV (i := s + k) (by omega)
    rw [e1] at hu
    have hu2 := hu.2.2.2.2.1 (show (0 : Int32) ≤ nn (48 + y k) by rw [nlE (a := 0) 0 rfl (by decide) (by omega)]; omega)
    have hby : m_byteAt (M 215 4) M = some (nn (48 + y k)) := by rw [h4, mb_e hM (by omega) hl]; unfold mb; rw [if_pos (by omega), e1, hu2]
    rw [m_advance_198]
    by_cases z : 4 ≤ k
    · have fr : StM M (up2 M 215 4 (M 215 4 + 1)) := StM.w (by decide)
      obtain ⟨n2, M2, g1, g2, g3⟩ := nuM hV hsq hq hl hy hy2 m (k + 1) n (up2 M 215 4 (M 215 4 + 1)) (by omega) (by omega) (hM.t fr) (by rw [up_e, h4]; exact nnAr (s + k) 1) (by rw [up_n (by decide)]; exact h5) (by rw [up_n (by decide), h7, show min (k + 1) 4 = min k 4 by omega])
      refine ⟨n2, M2, ?_, fr.t g2, g3⟩
      exact st_b hby (st_b ((mdi_e _ _).trans (congrArg some (if_pos (by rw [← e1]; exact e0)))) (st_f (by decide) (st_t (by rw [h4, h5, nnS (by omega), nlE (a := 4) 4 rfl (by decide) (by omega)]; omega) g1)))
    · obtain ⟨c1, hc1⟩ : ∃ c1, c1 = up2 M 215 7 (((10 * (M 215 7)) + nn (48 + y k)) - 48) := ⟨_, rfl⟩
      have f4 : c1 215 4 = nn (s + k) := by rw [hc1, up_n (by decide)]; exact h4
      have f5 : c1 215 5 = nn s := by rw [hc1, up_n (by decide)]; exact h5
      have f7 : c1 215 7 = nn (dN y (min (k + 1) 4)) := by
        rw [hc1, up_e, h7, show min k 4 = k by omega, show min (k + 1) 4 = k + 1 by omega, show 10 * nn (dN y k) = nn (10 * dN y k) from nnM 10 _, nnA, nrS (b := 48) 48 rfl (by omega)]
        congr 1
        simp only [dN]
        omega
      have fr1 : StM M c1 := hc1 ▸ StM.w (by decide)
      have fr : StM M (up2 c1 215 4 (c1 215 4 + 1)) := fr1.t (StM.w (by decide))
      obtain ⟨n2, M2, g1, g2, g3⟩ := nuM hV hsq hq hl hy hy2 m (k + 1) n (up2 c1 215 4 (c1 215 4 + 1)) (by omega) (by omega) (hM.t fr) (by rw [up_e, f4]; exact nnAr (s + k) 1) (by rw [up_n (by decide)]; exact f5) (by rw [up_n (by decide)]; exact f7)
      refine ⟨n2, M2, ?_, fr.t g2, g3⟩
      refine st_b hby (st_b ((mdi_e _ _).trans (congrArg some (if_pos (by rw [← e1]; exact e0)))) (st_f (by decide) (st_f (by rw [h4, h5, nnS (by omega), nlE (a := 4) 4 rfl (by decide) (by omega)]; omega) (st_b hby (st_l ?_)))))
      rw [← hc1]
      exact g1
end
section
/-! the statute: a token of both sides -/
def kM (k : Nat) : Int32 := if k = 19 then 0 else if k = 18 then 1 else if 13 ≤ k then 2 else if k = 0 then 4 else 3
def sgM (k : Nat) : Int32 := if k = 13 then 58 else if k = 14 then 59 else if k = 15 then 60 else if k = 16 then 62 else 61
def sk (v : Int32) : Nat := if v = 58 then 13 else if v = 59 then 14 else if v = 60 then 15 else if v = 61 then 17 else if v = 62 then 16 else 0
theorem sk_e (v : Int32) (g : Sg) : tokens_signOf v g = some (nn (sk v)) := by
  unfold tokens_signOf sk
  by_cases h1 : v = 58
  · rw [if_pos h1, if_pos h1]; rfl
  rw [if_neg h1, if_neg h1]
  by_cases h2 : v = 59
  · rw [if_pos h2, if_pos h2]; rfl
  rw [if_neg h2, if_neg h2]
  by_cases h3 : v = 60
  · rw [if_pos h3, if_pos h3]; rfl
  rw [if_neg h3, if_neg h3]
  by_cases h4 : v = 61
  · rw [if_pos h4, if_pos h4]; rfl
  rw [if_neg h4, if_neg h4]
  by_cases h5 : v = 62
  · rw [if_pos h5, if_pos h5]; rfl
  rw [if_neg h5, if_neg h5]
  rfl
theorem bs (x : Int8) : (sk x.toInt32 = 0 ∧ m_isSignByte (x.toInt32 &&& 255) (fun _ _ => 0) = some 0) ∨ (13 ≤ sk x.toInt32 ∧ sk x.toInt32 ≤ 17 ∧ m_isSignByte (x.toInt32 &&& 255) (fun _ _ => 0) = some 1 ∧ x.toInt32 &&& 255 = sgM (sk x.toInt32)) :=
  i8 (fun x => (sk x.toInt32 = 0 ∧ m_isSignByte (x.toInt32 &&& 255) (fun _ _ => 0) = some 0) ∨ (13 ≤ sk x.toInt32 ∧ sk x.toInt32 ≤ 17 ∧ m_isSignByte (x.toInt32 &&& 255) (fun _ _ => 0) = some 1 ∧ x.toInt32 &&& 255 = sgM (sk x.toInt32))) (by decide +kernel) x
theorem mW_ne : ∀ K : Fin 13, K.1 ≠ 0 → mW K.1 ≠ 99 ∧ kM K.1 = 3 := by decide
theorem a162 {K : Nat} (hK : K ≤ 12) (M : Sg) : m_advance_162 (mW K) M = some (up2 (up2 M 215 9 (mW K)) 215 6 (kM K)) := by
  unfold m_advance_162
  refine st_l ?_
  by_cases e : K = 0
  · subst e
    exact st_f (by rw [up_e]; decide) rfl
  · obtain ⟨h1, h2⟩ := mW_ne ⟨K, by omega⟩ e
    have h1 : mW K ≠ 99 := h1
    have h2 : kM K = 3 := h2
    rw [h2]
    exact st_t (by rw [up_e]; exact h1) rfl
def TM (M : Sg) (k nu : Nat) : Prop := M 215 6 = kM k ∧ (1 ≤ k → k ≤ 12 → M 215 9 = mW k) ∧ (13 ≤ k → k ≤ 17 → M 215 8 = sgM k) ∧ (k = 18 → M 215 7 = nn nu)
def TK (F : Nat) (b : Nat → Int32) (len p k s e nu : Nat) : Prop := k ≤ 19 ∧ p ≤ s ∧ s ≤ e ∧ e ≤ len ∧ (k ≠ 19 → s < e) ∧ nu ≤ 9999 ∧ (∀ c : Sg, c 32 = b → c 191 4 = nn p → ∃ c2, reader_nextToken F (nn len) c = some c2 ∧ StC c c2 ∧ c2 191 4 = nn e ∧ c2 191 5 = nn s ∧ c2 191 6 = nn k ∧ (k = 18 → c2 191 7 = nn nu)) ∧ (∀ M : Sg, MB M b len → M 215 4 = nn p → ∃ M2, m_advance F M = some M2 ∧ StM M M2 ∧ M2 215 4 = nn e ∧ M2 215 5 = nn s ∧ TM M2 k nu)
theorem dN_le {y : Nat → Nat} {k : Nat} (hy : ∀ i, i < k → y i ≤ 9) : dN y (min k 4) ≤ 9999 := by
  rcases (show k = 0 ∨ k = 1 ∨ k = 2 ∨ k = 3 ∨ 4 ≤ k by omega) with rfl | rfl | rfl | rfl | h
  · exact Nat.zero_le _
  · have h0 := hy 0 (by omega); show 10 * 0 + y 0 ≤ 9999; omega
  · have h0 := hy 0 (by omega); have h1 := hy 1 (by omega); show 10 * (10 * 0 + y 0) + y 1 ≤ 9999; omega
  · have h0 := hy 0 (by omega); have h1 := hy 1 (by omega); have h2 := hy 2 (by omega); show 10 * (10 * (10 * 0 + y 0) + y 1) + y 2 ≤ 9999; omega
  · rw [show min k 4 = 4 by omega]
    have h0 := hy 0 (by omega); have h1 := hy 1 (by omega); have h2 := hy 2 (by omega); have h3 := hy 3 (by omega); show 10 * (10 * (10 * (10 * 0 + y 0) + y 1) + y 2) + y 3 ≤ 9999; omega
theorem tk_ex {b : Nat → Int32} {len p F : Nat} (hV : VB b) (hl : len ≤ 500) (hF : 600 ≤ F) (hp : p ≤ len) : ∃ k s e nu, TK F b len p k s e nu := by
  obtain ⟨s, a1, a2, a3, a4⟩ := scan (fun i => bB (b i)) len (len - p) p (by omega)
  have a3 : ∀ i, p ≤ i → i < s → bB (b i) = true := a3
  have a4 : s < len → bB (b s) = false := a4
  have hc : ∀ c : Sg, c 32 = b → c 191 4 = nn p → ∃ c2, reader_nextToken F (nn len) c = reader_nextToken_33 F (nn len) c2 ∧ StC c c2 ∧ c2 191 4 = nn s := fun c h1 h2 => blC a2 hl a4 (s - p) p F c (by omega) (by omega) h1 h2 a3
  have hm : ∀ M : Sg, MB M b len → M 215 4 = nn p → ∃ n2 M2, m_advance F M = m_advance_0 F (n2 + 1) M2 ∧ StM M M2 ∧ M2 215 4 = nn s := fun M h1 h2 => blM hV a2 hl (s - p) p F M (by omega) (by omega) h1 h2 a3
  by_cases hs : s = len
  · subst hs
    have hmb : mb b s s = -1 := if_neg (by omega)
    refine ⟨19, s, s, 0, by decide, a1, Nat.le_refl s, Nat.le_refl s, fun z => absurd rfl z, by decide, fun c h1 h2 => ?_, fun M h1 h2 => ?_⟩
    · skip
      obtain ⟨c2, g1, g2, g3⟩ := hc c h1 h2
      obtain ⟨c3, hc3⟩ : ∃ c3, c3 = up2 c2 191 5 (c2 191 4) := ⟨_, rfl⟩
      have f32 : c3 32 = b := by rw [hc3, u2n (by decide), g2.1 32 (by decide)]; exact h1
      have f4 : c3 191 4 = nn s := by rw [hc3, up_n (by decide)]; exact g3
      have f5 : c3 191 5 = nn s := by rw [hc3, up_e]; exact g3
      have fS : StC c c3 := g2.t (hc3 ▸ StC.w (by decide))

      refine ⟨up2 c3 191 6 19, g1.trans ?_, fS.t (StC.w (by decide)), by rw [up_n (by decide)]; exact f4, by rw [up_n (by decide)]; exact f5, up_e, fun z => absurd z (by decide)⟩
      unfold reader_nextToken_33
      refine st_l ?_
      rw [← hc3]
      exact st_f (by rw [f4, nnL (by omega) (by omega)]; omega) rfl
    · skip
      obtain ⟨n2, M2, g1, g2, g3⟩ := hm M h1 h2
      obtain ⟨M3, hM3⟩ : ∃ M3, M3 = up2 M2 215 5 (M2 215 4) := ⟨_, rfl⟩
      have f4 : M3 215 4 = nn s := by rw [hM3, up_n (by decide)]; exact g3
      have f5 : M3 215 5 = nn s := by rw [hM3, up_e]; exact g3
      have fS : StM M M3 := g2.t (hM3 ▸ StM.w (by decide))
      have by2 : m_byteAt (M2 215 4) M2 = some (mb b s s) := by rw [g3]; exact mb_e (h1.t g2) a2 hl
      have by3 : m_byteAt (M3 215 4) M3 = some (mb b s s) := by rw [f4]; exact mb_e (h1.t fS) a2 hl

      refine ⟨up2 M3 215 6 0, g1.trans ?_, fS.t (StM.w (by decide)), by rw [up_n (by decide)]; exact f4, by rw [up_n (by decide)]; exact f5, up_e, fun z1 z2 => absurd z2 (by decide), fun z1 z2 => absurd z2 (by decide), fun z => absurd z (by decide)⟩
      rw [hmb] at by2 by3
      rw [m_advance_0]
      refine st_b by2 (st_f (by decide) (st_b by2 (st_t (by decide) (st_l ?_))))
      rw [← hM3]
      exact st_b by3 (st_f (by decide) rfl)
  have hs : s < len := by omega
  have hu := bu hV (i := s) (by omega)
  have hmb : mb b len s = b s &&& 255 := if_pos hs
  have n10 : ¬ mb b len s = 10 := fun z => by
    have := hu.2.2.1.trans (a4 hs)
    rw [← hmb, z] at this
    exact absurd this (by decide)
  have n32' : ¬ mb b len s = 32 := fun z => by
    have := hu.2.2.1.trans (a4 hs)
    rw [← hmb, z] at this
    exact absurd this (by decide)
  have h0u : 0 ≤ mb b len s := by rw [hmb]; exact hu.2.2.2.2.2
  by_cases hL : bL (b s) = true
  · obtain ⟨q, b1, b2, b3, b4⟩ := scan (fun i => bL (b i)) len (len - s) s (by omega)
    have b3 : ∀ i, s ≤ i → i < q → bL (b i) = true := b3
    have b4 : q < len → bL (b q) = false := b4
    have hsq : s < q := by
      rcases Nat.lt_or_ge s q with z | z
      · exact z
      · have e : q = s := by omega
        rw [e] at b4
        rw [b4 hs] at hL
        exact absurd hL (by decide)
    have hy : ∀ i, i < q - s → b (s + i) = nn (96 + ((b (s + i)).toNatClampNeg - 96)) ∧ 1 ≤ (b (s + i)).toNatClampNeg - 96 ∧ (b (s + i)).toNatClampNeg - 96 ≤ 26 := fun i hi => by
      obtain ⟨y, y1, y2, y3⟩ := bL_y (b3 (s + i) (by omega) (by omega))
      rw [y3, nnT (by omega), show 96 + y - 96 = y by omega]
      exact ⟨rfl, y1, y2⟩
    obtain ⟨K, k1, k2, k3, k4⟩ := wl (b := b) (s := s) (k := q - s) (y := fun i => (b (s + i)).toNatClampNeg - 96) (by omega) hy
    rw [show s + (q - s) = q by omega] at k2
    refine ⟨K, s, q, 0, by omega, a1, by omega, b2, fun _ => hsq, by decide, fun c h1 h2 => ?_, fun M h1 h2 => ?_⟩
    · skip
      obtain ⟨c2, g1, g2, g3⟩ := hc c h1 h2
      obtain ⟨c3, hc3⟩ : ∃ c3, c3 = up2 c2 191 5 (c2 191 4) := ⟨_, rfl⟩
      have f32 : c3 32 = b := by rw [hc3, u2n (by decide), g2.1 32 (by decide)]; exact h1
      have f4 : c3 191 4 = nn s := by rw [hc3, up_n (by decide)]; exact g3
      have f5 : c3 191 5 = nn s := by rw [hc3, up_e]; exact g3
      have fS : StC c c3 := g2.t (hc3 ▸ StC.w (by decide))

      obtain ⟨c4, i1, i2, i3, i4⟩ := woC b2 hl b4 (q - s) s F c3 (by omega) (by omega) f32 f4 b3
      refine ⟨up2 c4 191 6 (nn K), g1.trans ?_, (fS.t i2).t (StC.w (by decide)), by rw [up_n (by decide)]; exact i3, by rw [up_n (by decide), i4]; exact f5, up_e, fun z => absurd z (by omega)⟩
      have r : reader_takeWord F (nn len) c3 = some (up2 c4 191 6 (nn K)) := by
        unfold reader_takeWord
        rw [i1]
        unfold reader_takeWord_33
        rw [i3, i4, f5]
        exact st_b (k2 c4 ((i2.1 32 (by decide)).trans f32)) rfl
      unfold reader_nextToken_33
      refine st_l ?_
      rw [← hc3, f4, f32, nnT (by omega)]
      exact st_t (by rw [nnL (by omega) (by omega)]; omega) (st_t (by rw [nnB (by omega)]; omega) (st_b ((let_e _ _).trans (congrArg some (if_pos hL))) (st_f (by decide) (st_b r rfl))))
    · skip
      obtain ⟨n2, M2, g1, g2, g3⟩ := hm M h1 h2
      obtain ⟨M3, hM3⟩ : ∃ M3, M3 = up2 M2 215 5 (M2 215 4) := ⟨_, rfl⟩
      have f4 : M3 215 4 = nn s := by rw [hM3, up_n (by decide)]; exact g3
      have f5 : M3 215 5 = nn s := by rw [hM3, up_e]; exact g3
      have fS : StM M M3 := g2.t (hM3 ▸ StM.w (by decide))
      have by2 : m_byteAt (M2 215 4) M2 = some (mb b len s) := by rw [g3]; exact mb_e (h1.t g2) a2 hl
      have by3 : m_byteAt (M3 215 4) M3 = some (mb b len s) := by rw [f4]; exact mb_e (h1.t fS) a2 hl

      obtain ⟨n4, M4, i1, i2, i3, i4⟩ := woM (y := fun i => (b (s + i)).toNatClampNeg - 96) hV (by omega) b2 hl hy (fun i hi => b3 (s + i) (by omega) (by omega)) (q - s) 0 F M3 (by omega) (by omega) (h1.t fS) f4 f5
      refine ⟨up2 (up2 M4 215 9 (mW K)) 215 6 (kM K), g1.trans ?_, ((fS.t i2).t (StM.w (by decide))).t (StM.w (by decide)), by rw [up_n (by decide), up_n (by decide)]; exact i3, by rw [up_n (by decide), up_n (by decide)]; exact i4, up_e, fun _ _ => by rw [up_n (by decide), up_e], fun z1 z2 => absurd z1 (by omega), fun z => absurd z (by omega)⟩
      have hq : bL (mb b len q) = false := by
        unfold mb
        by_cases z : q < len
        · rw [if_pos z, (bu hV (i := q) (by omega)).1]; exact b4 z
        · rw [if_neg z]; decide
      have by4 : m_byteAt (M4 215 4) M4 = some (mb b len q) := by rw [i3]; exact mb_e (h1.t (fS.t i2)) b2 hl
      have r : m_advance_77 F 0 M3 = some (up2 (up2 M4 215 9 (mW K)) 215 6 (kM K)) := by
        refine Eq.trans i1 ?_
        rw [m_advance_77]
        refine st_b by4 (st_b ((mle_e _ _).trans (congrArg some (if_neg (by rw [hq]; decide)))) (st_t rfl ?_))
        by_cases z : q - s ≤ 6
        · refine st_t (by rw [i3, i4, nnS (by omega), nrE (b := 6) 6 rfl (by omega) (by decide)]; exact z) (st_b ?_ (a162 k1 M4))
          rw [show min (q - s) 7 = q - s by omega]
          exact k3 M4 z
        · refine st_f (by rw [i3, i4, nnS (by omega), nrE (b := 6) 6 rfl (by omega) (by decide)]; exact z) ?_
          rw [← a162 k1 M4, k4 (by omega)]
          rfl
      rw [m_advance_0]
      refine st_b by2 (st_f n10 (st_b by2 (st_t n32' (st_l ?_))))
      rw [← hM3]
      exact st_b by3 (st_t h0u (st_b ((mle_e _ _).trans (congrArg some (if_pos (by rw [hmb, hu.1]; exact hL)))) (st_f (by decide) r)))
  by_cases hD : bD (b s) = true
  · obtain ⟨q, b1, b2, b3, b4⟩ := scan (fun i => bD (b i)) len (len - s) s (by omega)
    have b3 : ∀ i, s ≤ i → i < q → bD (b i) = true := b3
    have b4 : q < len → bD (b q) = false := b4
    have hsq : s < q := by
      rcases Nat.lt_or_ge s q with z | z
      · exact z
      · have e : q = s := by omega
        rw [e] at b4
        rw [b4 hs] at hD
        exact absurd hD (by decide)
    have hy : ∀ i, i < q - s → b (s + i) = nn (48 + ((b (s + i)).toNatClampNeg - 48)) ∧ (b (s + i)).toNatClampNeg - 48 ≤ 9 := fun i hi => by
      obtain ⟨y, y2, y3⟩ := bD_y (b3 (s + i) (by omega) (by omega))
      rw [y3, nnT (by omega), show 48 + y - 48 = y by omega]
      exact ⟨rfl, y2⟩
    have hy2 : ∀ i, i < q - s → bD (b (s + i)) = true := fun i hi => b3 (s + i) (by omega) (by omega)
    refine ⟨if 4 < q - s then 0 else 18, s, q, dN (fun i => (b (s + i)).toNatClampNeg - 48) (min (q - s) 4), by split <;> decide, a1, by omega, b2, fun _ => hsq, dN_le (fun i hi => (hy i hi).2), fun c h1 h2 => ?_, fun M h1 h2 => ?_⟩
    · skip
      obtain ⟨c2, g1, g2, g3⟩ := hc c h1 h2
      obtain ⟨c3, hc3⟩ : ∃ c3, c3 = up2 c2 191 5 (c2 191 4) := ⟨_, rfl⟩
      have f32 : c3 32 = b := by rw [hc3, u2n (by decide), g2.1 32 (by decide)]; exact h1
      have f4 : c3 191 4 = nn s := by rw [hc3, up_n (by decide)]; exact g3
      have f5 : c3 191 5 = nn s := by rw [hc3, up_e]; exact g3
      have fS : StC c c3 := g2.t (hc3 ▸ StC.w (by decide))

      obtain ⟨c4, i1, i2, i3, i4, i5⟩ := nuC (y := fun i => (b (s + i)).toNatClampNeg - 48) (by omega) b2 hl b4 hy hy2 (q - s) 0 F (up2 c3 191 7 0) (by omega) (by omega) (by rw [u2n (by decide)]; exact f32) (by rw [up_n (by decide)]; exact f4) (by rw [up_n (by decide)]; exact f5) (by rw [up_e]; rfl)
      have r : reader_takeNumber F (nn len) c3 = some (up2 c4 191 6 (nn (if 4 < q - s then 0 else 18))) := by
        unfold reader_takeNumber
        refine st_l (i1.trans ?_)
        unfold reader_takeNumber_72
        rw [i3, i4, nnS (by omega)]
        by_cases z : 4 < q - s
        · rw [if_pos z]
          exact st_t (by rw [nlL (a := 4) 4 rfl (by decide) (by omega)]; exact z) rfl
        · rw [if_neg z]
          exact st_f (by rw [nlL (a := 4) 4 rfl (by decide) (by omega)]; exact z) rfl
      refine ⟨_, g1.trans ?_, ((fS.t (StC.w (by decide))).t i2).t (StC.w (i := 6) (by decide)), by rw [up_n (by decide)]; exact i3, by rw [up_n (by decide)]; exact i4, up_e, fun z => by rw [up_n (by decide)]; exact i5⟩
      unfold reader_nextToken_33
      refine st_l ?_
      rw [← hc3, f4, f32, nnT (by omega)]
      exact st_t (by rw [nnL (by omega) (by omega)]; omega) (st_t (by rw [nnB (by omega)]; omega) (st_b ((let_e _ _).trans (congrArg some (if_neg hL))) (st_t rfl (st_t (by rw [nnB (by omega)]; omega) (st_b ((dig_e _ _).trans (congrArg some (if_pos hD))) (st_f (by decide) (st_b r rfl)))))))
    · skip
      obtain ⟨n2, M2, g1, g2, g3⟩ := hm M h1 h2
      obtain ⟨M3, hM3⟩ : ∃ M3, M3 = up2 M2 215 5 (M2 215 4) := ⟨_, rfl⟩
      have f4 : M3 215 4 = nn s := by rw [hM3, up_n (by decide)]; exact g3
      have f5 : M3 215 5 = nn s := by rw [hM3, up_e]; exact g3
      have fS : StM M M3 := g2.t (hM3 ▸ StM.w (by decide))
      have by2 : m_byteAt (M2 215 4) M2 = some (mb b len s) := by rw [g3]; exact mb_e (h1.t g2) a2 hl
      have by3 : m_byteAt (M3 215 4) M3 = some (mb b len s) := by rw [f4]; exact mb_e (h1.t fS) a2 hl

      obtain ⟨n4, M4, i1, i2, i3, i4, i5⟩ := nuM (y := fun i => (b (s + i)).toNatClampNeg - 48) hV (by omega) b2 hl hy hy2 (q - s) 0 F (up2 M3 215 7 0) (by omega) (by omega) (h1.t (fS.t (StM.w (by decide)))) (by rw [up_n (by decide)]; exact f4) (by rw [up_n (by decide)]; exact f5) (by rw [up_e]; rfl)
      have hq : bD (mb b len q) = false := by
        unfold mb
        by_cases z : q < len
        · rw [if_pos z, (bu hV (i := q) (by omega)).2.1]; exact b4 z
        · rw [if_neg z]; decide
      have by4 : m_byteAt (M4 215 4) M4 = some (mb b len q) := by rw [i3]; exact mb_e (h1.t ((fS.t (StM.w (by decide))).t i2)) b2 hl
      have r : m_advance_198 F (up2 M3 215 7 0) = some (up2 M4 215 6 (kM (if 4 < q - s then 0 else 18))) := by
        refine Eq.trans i1 ?_
        rw [m_advance_198]
        refine st_b by4 (st_b ((mdi_e _ _).trans (congrArg some (if_neg (by rw [hq]; decide)))) (st_t rfl ?_))
        by_cases z : 4 < q - s
        · rw [if_pos z]
          exact st_f (by rw [i3, i4, nnS (by omega), nrE (b := 4) 4 rfl (by omega) (by decide)]; omega) rfl
        · rw [if_neg z]
          exact st_t (by rw [i3, i4, nnS (by omega), nrE (b := 4) 4 rfl (by omega) (by decide)]; omega) rfl
      refine ⟨up2 M4 215 6 (kM (if 4 < q - s then 0 else 18)), g1.trans ?_, ((fS.t (StM.w (by decide))).t i2).t (StM.w (i := 6) (by decide)), by rw [up_n (by decide)]; exact i3, by rw [up_n (by decide)]; exact i4, up_e, fun z1 z2 => ?_, fun z1 z2 => ?_, fun z => by rw [up_n (by decide)]; exact i5⟩
      · rw [m_advance_0]
        refine st_b by2 (st_f n10 (st_b by2 (st_t n32' (st_l ?_))))
        rw [← hM3]
        exact st_b by3 (st_t h0u (st_b ((mle_e _ _).trans (congrArg some (if_neg (by rw [hmb, hu.1]; exact hL)))) (st_t rfl (st_b ((mdi_e _ _).trans (congrArg some (if_pos (by rw [hmb, hu.2.1]; exact hD)))) (st_f (by decide) (st_l r))))))
      · exfalso
        by_cases z : 4 < q - s
        · rw [if_pos z] at z1; omega
        · rw [if_neg z] at z2; omega
      · exfalso
        by_cases z : 4 < q - s
        · rw [if_pos z] at z1; omega
        · rw [if_neg z] at z2; omega
  obtain ⟨x, hx⟩ := hV s (by omega)
  have hb := bs x
  rw [← hx] at hb
  refine ⟨sk (b s), s, s + 1, 0, by rcases hb with z | z <;> omega, a1, by omega, by omega, fun _ => by omega, by decide, fun c h1 h2 => ?_, fun M h1 h2 => ?_⟩
  · skip
    obtain ⟨c2, g1, g2, g3⟩ := hc c h1 h2
    obtain ⟨c3, hc3⟩ : ∃ c3, c3 = up2 c2 191 5 (c2 191 4) := ⟨_, rfl⟩
    have f32 : c3 32 = b := by rw [hc3, u2n (by decide), g2.1 32 (by decide)]; exact h1
    have f4 : c3 191 4 = nn s := by rw [hc3, up_n (by decide)]; exact g3
    have f5 : c3 191 5 = nn s := by rw [hc3, up_e]; exact g3
    have fS : StC c c3 := g2.t (hc3 ▸ StC.w (by decide))

    refine ⟨up2 (up2 c3 191 6 (nn (sk (b s)))) 191 4 ((up2 c3 191 6 (nn (sk (b s)))) 191 4 + 1), g1.trans ?_, (fS.t (StC.w (by decide))).t (StC.w (by decide)), by rw [up_e, up_n (by decide), f4]; exact nnAr s 1, by rw [up_n (by decide), up_n (by decide)]; exact f5, by rw [up_n (by decide), up_e], fun z => by rcases hb with y | y <;> omega⟩
    unfold reader_nextToken_33
    refine st_l ?_
    rw [← hc3, f4, f32, nnT (by omega)]
    exact st_t (by rw [nnL (by omega) (by omega)]; omega) (st_t (by rw [nnB (by omega)]; omega) (st_b ((let_e _ _).trans (congrArg some (if_neg hL))) (st_t rfl (st_t (by rw [nnB (by omega)]; omega) (st_b ((dig_e _ _).trans (congrArg some (if_neg hD))) (st_t rfl (st_t (by rw [nnB (by omega)]; omega) (st_b (sk_e _ _) rfl))))))))
  · skip
    obtain ⟨n2, M2, g1, g2, g3⟩ := hm M h1 h2
    obtain ⟨M3, hM3⟩ : ∃ M3, M3 = up2 M2 215 5 (M2 215 4) := ⟨_, rfl⟩
    have f4 : M3 215 4 = nn s := by rw [hM3, up_n (by decide)]; exact g3
    have f5 : M3 215 5 = nn s := by rw [hM3, up_e]; exact g3
    have fS : StM M M3 := g2.t (hM3 ▸ StM.w (by decide))
    have by2 : m_byteAt (M2 215 4) M2 = some (mb b len s) := by rw [g3]; exact mb_e (h1.t g2) a2 hl
    have by3 : m_byteAt (M3 215 4) M3 = some (mb b len s) := by rw [f4]; exact mb_e (h1.t fS) a2 hl

    obtain ⟨M4, hM4⟩ : ∃ M4, M4 = up2 (up2 M3 215 4 (M3 215 4 + 1)) 215 8 (mb b len s) := ⟨_, rfl⟩
    have j4 : M4 215 4 = nn (s + 1) := by rw [hM4, up_n (by decide), up_e, f4]; exact nnAr s 1
    have j5 : M4 215 5 = nn s := by rw [hM4, up_n (by decide), up_n (by decide)]; exact f5
    have j8 : M4 215 8 = mb b len s := by rw [hM4, up_e]
    have jS : StM M M4 := (fS.t (StM.w (i := 4) (by decide))).t (hM4 ▸ StM.w (by decide))
    have r : ∀ z v : Int32, (m_isSignByte (mb b len s) M4 = some z) → (if z = 0 then v = 4 else v = 2) → m_advance F M = some (up2 M4 215 6 v) := by
      intro z v hz hv
      refine g1.trans ?_
      rw [m_advance_0]
      refine st_b by2 (st_f n10 (st_b by2 (st_t n32' (st_l ?_))))
      rw [← hM3]
      refine st_b by3 (st_t h0u (st_b ((mle_e _ _).trans (congrArg some (if_neg (by rw [hmb, hu.1]; exact hL)))) (st_t rfl (st_b ((mdi_e _ _).trans (congrArg some (if_neg (by rw [hmb, hu.2.1]; exact hD)))) (st_t rfl (st_l (st_l ?_)))))))
      rw [← hM4]
      refine st_b hz ?_
      by_cases e : z = 0
      · rw [if_pos e] at hv ⊢
        rw [hv]
        rfl
      · rw [if_neg e] at hv ⊢
        rw [hv]
        rfl
    rcases hb with ⟨y1, y2⟩ | ⟨y1, y2, y3, y4⟩
    · rw [← hmb] at y2
      rw [y1]
      exact ⟨_, r 0 4 y2 rfl, jS.t (StM.w (by decide)), by rw [up_n (by decide)]; exact j4, by rw [up_n (by decide)]; exact j5, up_e, fun z1 z2 => absurd z1 (by decide), fun z1 z2 => absurd z1 (by decide), fun z => absurd z (by decide)⟩
    · rw [← hmb] at y3 y4
      refine ⟨_, r 1 2 y3 rfl, jS.t (StM.w (by decide)), by rw [up_n (by decide)]; exact j4, by rw [up_n (by decide)]; exact j5, ?_, fun z1 z2 => absurd z2 (by omega), fun z1 z2 => by rw [up_n (by decide), j8, y4], fun z => absurd z (by omega)⟩
      rw [up_e]
      unfold kM
      rw [if_neg (by omega), if_neg (by omega), if_pos (by omega)]
end
section
/-! the statute: steps of the reader, faults -/
def FIN (F len : Nat) (c r : Sg) (p : Nat) : Prop := ∀ n v, v ≤ p → len + 1 ≤ n + v → reader_read_38 F n (nn len) (nn v) c = some r
theorem fin_ok {F len p e k : Nat} {c c1 c2 r : Sg} (hp : p ≤ len) (hl : len ≤ 500) (he : p < e) (h1 : reader_nextToken F (nn len) c = some c1) (hk : c1 191 6 = nn k) (hk2 : k ≤ 19) (hz : k ≠ 19 ∨ c1 191 3 ≠ 0) (hg : reader_goesOn c1 = some (1, c2)) (hr : FIN F len c2 r e) : FIN F len c r p := by
  intro n v hv hn
  obtain ⟨n, rfl⟩ : ∃ m, n = m + 1 := ⟨n - 1, by omega⟩
  have h67 : reader_read_67 (fun v3 v4 g0 => reader_read_38 F n v3 v4 g0) (nn len) (nn v) c1 = some r := by
    unfold reader_read_67
    refine st_b hg (st_t (by decide) ?_)
    show reader_read_38 F n (nn len) (nn v + 1) c2 = some r
    rw [show nn v + 1 = nn (v + 1) from nnA v 1]
    exact hr n (v + 1) (by omega) (by omega)
  rw [reader_read_38]
  refine st_f (by rw [nnL (by omega) (by omega)]; omega) (st_b h1 ?_)
  by_cases z : c1 191 6 = 19
  · refine st_f (fun y => y z) (st_t (hz.resolve_left (fun y => y ?_)) h67)
    rw [hk, nrQ (b := 19) 19 rfl (by omega) (by decide)] at z
    exact z
  · exact st_t z h67
theorem fin_bad {F len p k : Nat} {c c1 c2 : Sg} (hp : p ≤ len) (hl : len ≤ 500) (h1 : reader_nextToken F (nn len) c = some c1) (hk : c1 191 6 = nn k) (hk2 : k ≤ 19) (hz : k ≠ 19 ∨ c1 191 3 ≠ 0) (hg : reader_goesOn c1 = some (0, c2)) : FIN F len c (up2 (up2 c2 191 1 1) 191 2 (c2 191 5)) p := by
  intro n v hv hn
  obtain ⟨n, rfl⟩ : ∃ m, n = m + 1 := ⟨n - 1, by omega⟩
  have h67 : reader_read_67 (fun v3 v4 g0 => reader_read_38 F n v3 v4 g0) (nn len) (nn v) c1 = some (up2 (up2 c2 191 1 1) 191 2 (c2 191 5)) := by
    unfold reader_read_67
    refine st_b hg (st_f (fun y => y rfl) (st_l (st_l ?_)))
    rw [up_n (show 5 ≠ 1 by decide)]
  rw [reader_read_38]
  refine st_f (by rw [nnL (by omega) (by omega)]; omega) (st_b h1 ?_)
  by_cases z : c1 191 6 = 19
  · refine st_f (fun y => y z) (st_t (hz.resolve_left (fun y => y ?_)) h67)
    rw [hk, nrQ (b := 19) 19 rfl (by omega) (by decide)] at z
    exact z
  · exact st_t z h67
theorem fin_end {F len p : Nat} {c c1 : Sg} (hp : p ≤ len) (hl : len ≤ 500) (h1 : reader_nextToken F (nn len) c = some c1) (hk : c1 191 6 = 19) (h3 : c1 191 3 = 0) : FIN F len c c1 p := by
  intro n v hv hn
  obtain ⟨n, rfl⟩ : ∃ m, n = m + 1 := ⟨n - 1, by omega⟩
  rw [reader_read_38]
  exact st_f (by rw [nnL (by omega) (by omega)]; omega) (st_b h1 (st_f (fun y => y hk) (st_f (fun y => y h3) rfl)))
theorem bnd01 {x : Int32} {d : Sg} {o : Option (Int32 × Sg)} (h : o = some (x, d)) (hx : x = 0 ∨ x = 1) : Option.bind o (fun (x1, g2) => (if x1 = 0 ∨ x1 = 1 then (some (x1, g2)) else none)) = some (x, d) := st_b h (st_t hx rfl)
theorem go0 {c d : Sg} {x : Int32} (h : c 191 3 = 0) (hf : reader_beginLine c = some (x, d)) (hx : x = 0 ∨ x = 1) : reader_goesOn c = some (x, d) := by
  unfold reader_goesOn
  refine st_l ?_
  rw [h]
  exact st_t rfl (bnd01 hf hx)
theorem go1 {c d : Sg} {x : Int32} (h : c 191 3 = 1) (hf : reader_beginTest c = some (x, d)) (hx : x = 0 ∨ x = 1) : reader_goesOn c = some (x, d) := by
  unfold reader_goesOn
  refine st_l ?_
  rw [h]
  exact st_f (by decide) (st_t rfl (bnd01 hf hx))
theorem go2 {c d : Sg} {x : Int32} (h : c 191 3 = 2) (hf : reader_takeFact c = some (x, d)) (hx : x = 0 ∨ x = 1) : reader_goesOn c = some (x, d) := by
  unfold reader_goesOn
  refine st_l ?_
  rw [h]
  exact st_f (by decide) (st_f (by decide) (st_t rfl (bnd01 hf hx)))
theorem go3 {c d : Sg} {x : Int32} (h : c 191 3 = 3) (hf : reader_takeSign c = some (x, d)) (hx : x = 0 ∨ x = 1) : reader_goesOn c = some (x, d) := by
  unfold reader_goesOn
  refine st_l ?_
  rw [h]
  exact st_f (by decide) (st_f (by decide) (st_f (by decide) (st_t rfl (bnd01 hf hx))))
theorem go4 {c d : Sg} {x : Int32} (h : c 191 3 = 4) (hf : reader_takeLimit c = some (x, d)) (hx : x = 0 ∨ x = 1) : reader_goesOn c = some (x, d) := by
  unfold reader_goesOn
  refine st_l ?_
  rw [h]
  exact st_f (by decide) (st_f (by decide) (st_f (by decide) (st_f (by decide) (st_t rfl (bnd01 hf hx)))))
theorem go5 {c d : Sg} {x : Int32} (h : c 191 3 = 5) (hf : reader_takeAnd c = some (x, d)) (hx : x = 0 ∨ x = 1) : reader_goesOn c = some (x, d) := by
  unfold reader_goesOn
  refine st_l ?_
  rw [h]
  exact st_f (by decide) (st_f (by decide) (st_f (by decide) (st_f (by decide) (st_f (by decide) (st_t rfl (bnd01 hf hx))))))
theorem go6 {c d : Sg} {x : Int32} (h : c 191 3 = 6) (hf : reader_takeAct c = some (x, d)) (hx : x = 0 ∨ x = 1) : reader_goesOn c = some (x, d) := by
  unfold reader_goesOn
  refine st_l ?_
  rw [h]
  exact st_f (by decide) (st_f (by decide) (st_f (by decide) (st_f (by decide) (st_f (by decide) (st_f (by decide) (st_t rfl (bnd01 hf hx)))))))
theorem go7 {c d : Sg} {x : Int32} (h : c 191 3 = 7) (hf : reader_takeActNumber c = some (x, d)) (hx : x = 0 ∨ x = 1) : reader_goesOn c = some (x, d) := by
  unfold reader_goesOn
  refine st_l ?_
  rw [h]
  exact st_f (by decide) (st_f (by decide) (st_f (by decide) (st_f (by decide) (st_f (by decide) (st_f (by decide) (st_f (by decide) (st_t rfl (bnd01 hf hx))))))))
theorem go8 {c : Sg} (h : c 191 3 = 8) : reader_goesOn c = some (if c 191 6 = 14 then 1 else 0, up2 c 191 3 0) := by
  unfold reader_goesOn
  refine st_l ?_
  rw [h]
  refine st_f (by decide) (st_f (by decide) (st_f (by decide) (st_f (by decide) (st_f (by decide) (st_f (by decide) (st_f (by decide) (st_f (by decide) (st_l ?_))))))))
  rw [up_n (show 6 ≠ 3 by decide)]
  by_cases z : c 191 6 = 14
  · exact st_f (fun y => y z) (by rw [if_pos z])
  · exact st_t z (by rw [if_neg z])
def ntC (K : Int32) (d : Sg) : Sg := if d 191 1 = 0 then up2 (up2 d 191 1 K) 191 2 (d 191 5) else d
def ntM (K P : Int32) (M : Sg) : Sg := if M 216 8 = 0 then up2 (up2 M 216 8 K) 216 9 P else M
theorem ntC_e (K : Int32) (d : Sg) : reader_noteFault K d = some (ntC K d) := by
  unfold reader_noteFault ntC
  by_cases z : d 191 1 = 0
  · rw [if_pos z]
    refine st_f (fun y => y z) (st_l (st_l ?_))
    rw [up_n (show 5 ≠ 1 by decide)]
  · rw [if_neg z]
    exact st_t z rfl
theorem ntM_e (K P : Int32) {M : Sg} (h : M 215 10 = 0) : m_also K P M = some (ntM K P M) := by
  unfold m_also ntM
  refine st_f (fun y => y h) ?_
  by_cases z : M 216 8 = 0
  · rw [if_pos z, if_pos z]
    rfl
  · rw [if_neg z, if_neg z]
theorem dd_stops {M : Sg} (h : M 215 10 ≠ 0) : m_stops M = some M := by
  unfold m_stops
  exact st_f h rfl
theorem dd_also {M : Sg} {K P : Int32} (h : M 215 10 ≠ 0) : m_also K P M = some M := by
  unfold m_also
  exact st_t h rfl
theorem dd_must {M : Sg} {F : Nat} {v : Int32} (h : M 215 10 ≠ 0) : m_must F v M = some M := by
  unfold m_must
  exact st_t h (st_b (dd_stops h) rfl)
theorem dd_takes {M : Sg} {F : Nat} {v : Int32} (h : M 215 10 ≠ 0) : m_takes F v M = some (0, M) := by
  unfold m_takes
  exact st_t h rfl
theorem dd_num {M : Sg} {F : Nat} (h : M 215 10 ≠ 0) : m_numbered F M = some (M 215 7, M) := by
  unfold m_numbered
  exact st_l (st_t h (st_b (dd_stops h) rfl))
theorem dd_107 {M : Sg} {F : Nat} {v : Int32} (h : M 215 10 ≠ 0) : m_aLine_107 F v M = some M := by
  unfold m_aLine_107
  exact st_t h (st_b (dd_stops h) rfl)
def stp (M : Sg) : Sg := up2 (up2 (up2 M 215 10 1) 216 8 1) 216 9 (M 215 5)
theorem stp_e {M : Sg} (h : M 215 10 = 0) : m_stops M = some (stp M) := by
  unfold m_stops stp
  refine st_t h (st_l (st_l (st_l ?_)))
  rw [u2n (show 215 ≠ 216 by decide), up_n (show 5 ≠ 10 by decide)]
def puM (L v : Nat) (x : Int32) (M : Sg) : Sg := if L < 16 then up2 M 219 (20 * L + v) x else M
theorem puM_e {M : Sg} {L v : Nat} {x : Int32} (h : M 215 11 = nn L) (hL : L ≤ 1000) (hv : v < 20) : m_puts (nn v) x M = some (puM L v x M) := by
  unfold m_puts puM
  rw [h]
  by_cases z : L < 16
  · rw [if_pos z]
    refine st_f (by rw [nlE (a := 16) 16 rfl (by decide) (by omega)]; omega) ?_
    rw [show 20 * nn L + nn v = nn (20 * L + v) from (congrArg (· + nn v) (nnM 20 L)).trans (nnA _ _), nnT (by omega)]
    exact st_t (by rw [nnB (by omega)]; omega) rfl
  · rw [if_neg z]
    exact st_t (by rw [nlE (a := 16) 16 rfl (by decide) (by omega)]; omega) rfl
/-- what the reader may change -/
def KC (c c2 : Sg) : Prop := ∀ i, (i < 191 ∨ 199 < i) → c2 i = c i
def KM (M M2 : Sg) : Prop := (∀ i, i ≠ 215 → i ≠ 216 → i ≠ 219 → i ≠ 220 → M2 i = M i) ∧ (∀ j, j ≠ 8 → j ≠ 9 → M2 216 j = M 216 j) ∧ M2 215 3 = M 215 3
theorem KC.r {c : Sg} : KC c c := fun _ _ => rfl
theorem KC.t {c c2 c3 : Sg} (h : KC c c2) (h2 : KC c2 c3) : KC c c3 := fun i a => (h2 i a).trans (h i a)
theorem KC.w {c : Sg} {a i : Nat} {v : Int32} (h : 191 ≤ a ∧ a ≤ 199) : KC c (up2 c a i v) := fun j z => u2n (by omega)
theorem StC.k {c c2 : Sg} (h : StC c c2) : KC c c2 := fun i a => h.1 i (by omega)
theorem KM.r {c : Sg} : KM c c := ⟨fun _ _ _ _ _ => rfl, fun _ _ _ => rfl, rfl⟩
theorem KM.t {c c2 c3 : Sg} (h : KM c c2) (h2 : KM c2 c3) : KM c c3 := ⟨fun i a b d e => (h2.1 i a b d e).trans (h.1 i a b d e), fun j a b => (h2.2.1 j a b).trans (h.2.1 j a b), h2.2.2.trans h.2.2⟩
theorem KM.w5 {c : Sg} {i : Nat} {v : Int32} (h : i ≠ 3) : KM c (up2 c 215 i v) := ⟨fun j a b d e => u2n a, fun j a b => by rw [u2n (by decide)], up_n (Ne.symm h)⟩
theorem KM.w6 {c : Sg} {i : Nat} {v : Int32} (h : i = 8 ∨ i = 9) : KM c (up2 c 216 i v) := ⟨fun j a b d e => u2n b, fun j a b => by rw [up_n (by omega)], by rw [u2n (by decide)]⟩
theorem KM.w9 {c : Sg} {i : Nat} {v : Int32} : KM c (up2 c 219 i v) := ⟨fun j a b d e => u2n d, fun j a b => by rw [u2n (by decide)], by rw [u2n (by decide)]⟩
theorem KM.w20 {c : Sg} {i : Nat} {v : Int32} : KM c (up2 c 220 i v) := ⟨fun j a b d e => u2n e, fun j a b => by rw [u2n (by decide)], by rw [u2n (by decide)]⟩
theorem StM.k {c c2 : Sg} (h : StM c c2) : KM c c2 := ⟨fun i a b d e => h.1 i a, fun j a b => by rw [h.1 216 (by decide)], h.2 3 (by decide)⟩
theorem KM.stp {M : Sg} : KM M (stp M) := ((KM.w5 (by decide)).t (KM.w6 (by decide))).t (KM.w6 (by decide))
theorem KM.pu {M : Sg} {L v : Nat} {x : Int32} : KM M (puM L v x M) := by
  unfold puM
  by_cases z : L < 16
  · rw [if_pos z]; exact KM.w9
  · rw [if_neg z]; exact KM.r
theorem KM.nt {M : Sg} {K P : Int32} : KM M (ntM K P M) := by
  unfold ntM
  by_cases z : M 216 8 = 0
  · rw [if_pos z]; exact (KM.w6 (by decide)).t (KM.w6 (by decide))
  · rw [if_neg z]; exact KM.r
theorem MB.km {M M2 : Sg} {b : Nat → Int32} {len : Nat} (h : MB M b len) (h2 : KM M M2) : MB M2 b len := ⟨h2.2.2.trans h.1, fun i hi => by rw [h2.2.1 _ (by omega) (by omega)]; exact h.2 i hi⟩
/-- between two lines, and within a line -/
def LNs (c M : Sg) (L : Nat) : Prop := ∀ i, i < L → tLine (c 193) (c 194) (c 195) (c 196) (c 197) (c 198) (c 199) i (M 219) (20 * i)
def BLt (c M : Sg) (L : Nat) : Prop := c 192 0 = nn (min L 16) ∧ M 215 11 = nn L ∧ M 215 10 = 0 ∧ c 191 1 = M 216 8 ∧ c 191 2 = M 216 9 ∧ (c 191 1 = 0 → L ≤ 16 ∧ LNs c M L)
def ILt (c M : Sg) (L v : Nat) : Prop := c 192 0 = nn (min (L + 1) 16) ∧ M 215 11 = nn L ∧ M 215 10 = 0 ∧ c 191 1 = M 216 8 ∧ c 191 2 = M 216 9 ∧ (c 191 1 = 0 → L < 16 ∧ v ≤ 4 ∧ c 195 L = nn v ∧ LNs c M L ∧ ∀ t, t < v → tTest (c 196 (4 * L + t)) (c 197 (4 * L + t)) (c 198 (4 * L + t)) (c 199 (4 * L + t)) (M 219) (20 * L + 1 + 4 * t))
theorem ILt.cg {c c2 M M2 : Sg} {L v : Nat} (h : ILt c M L v) (h1 : c2 191 1 = c 191 1) (h2 : c2 191 2 = c 191 2) (hc : ∀ i, 192 ≤ i → i ≤ 199 → c2 i = c i) (m1 : M2 215 10 = M 215 10) (m2 : M2 215 11 = M 215 11) (m3 : M2 216 = M 216) (m4 : M2 219 = M 219) : ILt c2 M2 L v := by
  unfold ILt LNs at *
  rw [h1, h2, hc 192 (by decide) (by decide), hc 193 (by decide) (by decide), hc 194 (by decide) (by decide), hc 195 (by decide) (by decide), hc 196 (by decide) (by decide), hc 197 (by decide) (by decide), hc 198 (by decide) (by decide), hc 199 (by decide) (by decide), m1, m2, m3, m4]
  exact h
theorem BLt.cg {c c2 M M2 : Sg} {L : Nat} (h : BLt c M L) (h1 : c2 191 1 = c 191 1) (h2 : c2 191 2 = c 191 2) (hc : ∀ i, 192 ≤ i → i ≤ 199 → c2 i = c i) (m1 : M2 215 10 = M 215 10) (m2 : M2 215 11 = M 215 11) (m3 : M2 216 = M 216) (m4 : M2 219 = M 219) : BLt c2 M2 L := by
  unfold BLt LNs at *
  rw [h1, h2, hc 192 (by decide) (by decide), hc 193 (by decide) (by decide), hc 194 (by decide) (by decide), hc 195 (by decide) (by decide), hc 196 (by decide) (by decide), hc 197 (by decide) (by decide), hc 198 (by decide) (by decide), hc 199 (by decide) (by decide), m1, m2, m3, m4]
  exact h
theorem ILt.nt {c M : Sg} {L v v2 s : Nat} {K : Int32} (h : ILt c M L v) (h5 : c 191 5 = nn s) (hK : K ≠ 0) : ILt (ntC K c) (ntM K (nn s) M) L v2 ∧ (ntC K c) 191 1 ≠ 0 := by
  obtain ⟨a1, a2, a3, a4, a5, a6⟩ := h
  unfold ntC ntM
  by_cases z : c 191 1 = 0
  · rw [if_pos z, if_pos (a4.symm.trans z)]
    have e1 : (up2 (up2 c 191 1 K) 191 2 (c 191 5)) 191 1 = K := by rw [up_n (by decide), up_e]
    have e2 : (up2 (up2 M 216 8 K) 216 9 (nn s)) 216 8 = K := by rw [up_n (by decide), up_e]
    refine ⟨⟨?_, ?_, ?_, e1.trans e2.symm, ?_, fun y => absurd (e1.symm.trans y) hK⟩, fun y => hK (e1.symm.trans y)⟩
    · rw [u2n (by decide), u2n (by decide)]; exact a1
    · rw [u2n (by decide), u2n (by decide)]; exact a2
    · rw [u2n (by decide), u2n (by decide)]; exact a3
    · rw [up_e, up_e]; exact h5
  · rw [if_neg z, if_neg (fun y => z (a4.trans y))]
    exact ⟨⟨a1, a2, a3, a4, a5, fun y => absurd y z⟩, z⟩
end
section
/-! the statute: the next token, a test is kept -/
def PM (b : Nat → Int32) (len k s e nu : Nat) (M : Sg) : Prop := MB M b len ∧ M 215 4 = nn e ∧ M 215 5 = nn s ∧ TM M k nu
theorem adv {b : Nat → Int32} {F len k s e nu : Nat} {M : Sg} (hV : VB b) (hl : len ≤ 500) (hF : 600 ≤ F) (hP : PM b len k s e nu M) (he : e ≤ len) : ∃ k2 s2 e2 nu2 M2, TK F b len e k2 s2 e2 nu2 ∧ m_advance F M = some M2 ∧ StM M M2 ∧ PM b len k2 s2 e2 nu2 M2 := by
  obtain ⟨k2, s2, e2, nu2, hT⟩ := tk_ex hV hl hF he
  obtain ⟨M2, m1, m2, m3, m4, m5⟩ := hT.2.2.2.2.2.2.2 M hP.1 hP.2.1
  exact ⟨k2, s2, e2, nu2, M2, hT, m1, m2, hP.1.t m2, m3, m4, m5⟩
theorem tLine_lc {ac nu te no fa si li ac' nu' te' no' fa' si' li' : Nat → Int32} {k i : Nat} {a : Nat → Int32} (h1 : ac' k = ac k) (h2 : nu' k = nu k) (h3 : te' k = te k) (h4 : ∀ t, t < 4 → no' (4 * k + t) = no (4 * k + t) ∧ fa' (4 * k + t) = fa (4 * k + t) ∧ si' (4 * k + t) = si (4 * k + t) ∧ li' (4 * k + t) = li (4 * k + t)) (h : tLine ac nu te no fa si li k a i) : tLine ac' nu' te' no' fa' si' li' k a i := by
  obtain ⟨⟨n, n4, n1, n2, n3⟩, n5, n6, n7⟩ := h
  refine ⟨⟨n, n4, h3.trans n1, n2, fun t ht => ?_⟩, by rw [h1]; exact n5, n6.trans h2.symm, by rw [h2]; exact n7⟩
  obtain ⟨e1, e2, e3, e4⟩ := h4 t (by omega)
  rw [e1, e2, e3, e4]
  exact n3 t ht
def ktO (d : Sg) (x w : Nat) (lim : Int32) : Sg := up2 (up2 (up2 (up2 (up2 d 196 (4 * x + w) (d 191 8 &&& 1)) 197 (4 * x + w) (d 191 9)) 198 (4 * x + w) (d 191 10)) 199 (4 * x + w) lim) 195 x (nn (w + 1))
theorem kt_e {d : Sg} {x : Nat} {lim : Int32} (h0 : d 192 0 = nn (x + 1)) (hx : x < 16) : (∃ w, w < 4 ∧ d 195 x = nn w ∧ reader_keepTest lim d = some (ktO d x w lim)) ∨ ((¬ ∃ w, w < 4 ∧ d 195 x = nn w) ∧ reader_keepTest lim d = some d) := by
  have h1 : d 192 0 - 1 = nn x := by rw [h0, nrS (b := 1) 1 rfl (by omega)]; rfl
  have w1 : ∀ g : Sg, x_within (nn x) 0 15 g = some 1 := fun g => (within_eq _ _ _ g).trans (congrArg some (if_pos ((rgK (K := 15) (by decide)).mpr ⟨x, hx, rfl⟩)))
  have hin : inb (nn x) 16 = true := by rw [nnB (by omega)]; exact hx
  by_cases z : ∃ w, w < 4 ∧ d 195 x = nn w
  · obtain ⟨w, hw, e⟩ := z
    refine Or.inl ⟨w, hw, e, ?_⟩
    have w2 : ∀ g : Sg, x_within (nn w) 0 3 g = some 1 := fun g => (within_eq _ _ _ g).trans (congrArg some (if_pos ((rgK (K := 3) (by decide)).mpr ⟨w, hw, rfl⟩)))
    unfold reader_keepTest
    refine st_l ?_
    rw [h1]
    refine st_b (w1 d) (st_f (by decide) (st_t hin ?_))
    rw [nnT (by omega), e]
    refine st_b (w2 d) (st_t (by decide) (st_t hin (st_l ?_)))
    rw [show nn x * 4 + nn w = nn (4 * x + w) from ((congrArg (· + nn w) (nnM x 4)).trans (nnA _ _)).trans (by rw [Nat.mul_comm])]
    have hin2 : inb (nn (4 * x + w)) 64 = true := by rw [nnB (by omega)]; omega
    rw [nnT (show 4 * x + w < 2147483648 by omega)]
    refine st_t hin2 (st_l (st_t hin2 (st_l (st_t hin2 (st_l (st_t hin2 (st_l (st_t hin (st_t hin (st_l ?_))))))))))
    unfold ktO
    rw [u2n (show 195 ≠ 199 by decide), u2n (show 195 ≠ 198 by decide), u2n (show 195 ≠ 197 by decide), u2n (show 195 ≠ 196 by decide), e, u2n (show 191 ≠ 197 by decide), u2n (show 191 ≠ 196 by decide), show nn w + 1 = nn (w + 1) from nnA w 1]
  · refine Or.inr ⟨z, ?_⟩
    unfold reader_keepTest
    refine st_l ?_
    rw [h1]
    refine st_b (w1 d) (st_f (by decide) (st_t hin ?_))
    rw [nnT (by omega)]
    refine st_b (x := 0) ?_ (st_f (by decide) rfl)
    rw [within_eq, if_neg]
    intro y
    obtain ⟨w, hw, e⟩ := (rgK (K := 3) (by decide)).mp y
    exact z ⟨w, hw, e⟩
def IT5 (c M : Sg) (L v : Nat) : Prop := c 192 0 = nn (min (L + 1) 16) ∧ M 215 11 = nn L ∧ M 215 10 = 0 ∧ c 191 1 = M 216 8 ∧ c 191 2 = M 216 9 ∧ (c 191 1 = 0 → L < 16 ∧ v < 4 ∧ c 195 L = nn (v + 1) ∧ LNs c M L ∧ (∀ t, t < v → tTest (c 196 (4 * L + t)) (c 197 (4 * L + t)) (c 198 (4 * L + t)) (c 199 (4 * L + t)) (M 219) (20 * L + 1 + 4 * t)) ∧ tTest (c 196 (4 * L + v)) (c 197 (4 * L + v)) (c 198 (4 * L + v)) (c 199 (4 * L + v)) (M 220) 0)
theorem kt {d M : Sg} {L v : Nat} {lim : Int32} (h : ILt d M L v) (hv : d 191 1 = 0 → v < 4) (h8 : d 191 8 = 0 ∨ d 191 8 = 1) (q0 : M 220 0 = d 191 8) (q1 : ∃ w, 1 ≤ w ∧ w ≤ 6 ∧ d 191 9 = nn (6 + w) ∧ M 220 1 = nn w) (q2 : tSign (d 191 10) (M 220 2)) (q3 : M 220 3 = lim) : ∃ d2, reader_keepTest lim d = some d2 ∧ d2 191 = d 191 ∧ KC d d2 ∧ IT5 d2 M L v := by
  obtain ⟨a1, a2, a3, a4, a5, a6⟩ := h
  rcases kt_e (d := d) (x := min L 15) (lim := lim) (by rw [a1]; congr 1; omega) (by omega) with ⟨w, hw, e, hk⟩ | ⟨hn, hk⟩
  · have e191 : (ktO d (min L 15) w lim) 191 = d 191 := by unfold ktO; rw [u2n (by decide), u2n (by decide), u2n (by decide), u2n (by decide), u2n (by decide)]
    have e192 : (ktO d (min L 15) w lim) 192 = d 192 := by unfold ktO; rw [u2n (by decide), u2n (by decide), u2n (by decide), u2n (by decide), u2n (by decide)]
    have e193 : (ktO d (min L 15) w lim) 193 = d 193 := by unfold ktO; rw [u2n (by decide), u2n (by decide), u2n (by decide), u2n (by decide), u2n (by decide)]
    have e194 : (ktO d (min L 15) w lim) 194 = d 194 := by unfold ktO; rw [u2n (by decide), u2n (by decide), u2n (by decide), u2n (by decide), u2n (by decide)]
    have e195 : (ktO d (min L 15) w lim) 195 = up1 (d 195) (min L 15) (nn (w + 1)) := by unfold ktO; rw [u2e, u2n (by decide), u2n (by decide), u2n (by decide), u2n (by decide)]
    have e196 : (ktO d (min L 15) w lim) 196 = up1 (d 196) (4 * min L 15 + w) (d 191 8 &&& 1) := by unfold ktO; rw [u2n (by decide), u2n (by decide), u2n (by decide), u2n (by decide), u2e]
    have e197 : (ktO d (min L 15) w lim) 197 = up1 (d 197) (4 * min L 15 + w) (d 191 9) := by unfold ktO; rw [u2n (by decide), u2n (by decide), u2n (by decide), u2e, u2n (by decide)]
    have e198 : (ktO d (min L 15) w lim) 198 = up1 (d 198) (4 * min L 15 + w) (d 191 10) := by unfold ktO; rw [u2n (by decide), u2n (by decide), u2e, u2n (by decide), u2n (by decide)]
    have e199 : (ktO d (min L 15) w lim) 199 = up1 (d 199) (4 * min L 15 + w) lim := by unfold ktO; rw [u2n (by decide), u2e, u2n (by decide), u2n (by decide), u2n (by decide)]
    refine ⟨_, hk, e191, fun i hi => by unfold ktO; rw [u2n (by omega), u2n (by omega), u2n (by omega), u2n (by omega), u2n (by omega)], ?_⟩
    unfold IT5
    rw [e191, e192]
    refine ⟨a1, a2, a3, a4, a5, fun z => ?_⟩
    obtain ⟨f1, f2, f3, f4, f5⟩ := a6 z
    have hv := hv z
    rw [show min L 15 = L by omega] at *
    have ew : w = v := by
      have := e.symm.trans f3
      rw [nnQ (by omega) (by omega)] at this
      exact this
    subst ew
    rw [e195, e196, e197, e198, e199]
    refine ⟨f1, hv, up1_eq, ?_, ?_, ?_⟩
    · unfold LNs
      rw [e193, e194, e195, e196, e197, e198, e199]
      intro i hi
      refine tLine_lc rfl rfl (up1_ne (by omega)) (fun t ht => ⟨up1_ne (by omega), up1_ne (by omega), up1_ne (by omega), up1_ne (by omega)⟩) (f4 i hi)
    · intro t ht
      rw [up1_ne (by omega), up1_ne (by omega), up1_ne (by omega), up1_ne (by omega)]
      exact f5 t ht
    · rw [up1_eq, up1_eq, up1_eq, up1_eq]
      have e8 : d 191 8 &&& 1 = d 191 8 := by rcases h8 with y | y <;> rw [y] <;> decide
      rw [e8]
      exact ⟨h8, q0, q1, q2, q3⟩
  · refine ⟨d, hk, rfl, KC.r, a1, a2, a3, a4, a5, fun z => ?_⟩
    obtain ⟨f1, f2, f3, f4, f5⟩ := a6 z
    have hv := hv z
    rw [show min L 15 = L by omega] at hn
    exact absurd ⟨v, hv, f3⟩ hn
end
section
/-! the statute: a test -/
theorem kMf : ∀ k : Fin 20, (kM k.1 = 1 ↔ k.1 = 18) ∧ (kM k.1 = 2 ↔ 13 ≤ k.1 ∧ k.1 ≤ 17) ∧ (kM k.1 = 3 ↔ 1 ≤ k.1 ∧ k.1 ≤ 12) ∧ (kM k.1 = 0 ↔ k.1 = 19) := by decide
theorem mWf : ∀ k : Fin 13, (mW k.1 = 30 ↔ k.1 = 1) ∧ (mW k.1 = 31 ↔ k.1 = 2) ∧ (mW k.1 = 32 ↔ k.1 = 3) ∧ ((20 ≤ mW k.1 ∧ mW k.1 ≤ 22) ↔ 4 ≤ k.1 ∧ k.1 ≤ 6) ∧ ((1 ≤ mW k.1 ∧ mW k.1 ≤ 6) ↔ 7 ≤ k.1) ∧ (mW k.1 = 22 ↔ k.1 = 6) ∧ (mW k.1 = 21 ↔ k.1 = 5) ∧ (mW k.1 = 1 ↔ k.1 = 7) ∧ (7 ≤ k.1 → mW k.1 = nn (k.1 - 6)) := by decide
theorem sgf : ∀ k : Fin 18, 13 ≤ k.1 → (sgM k.1 = 58 ↔ k.1 = 13) ∧ (sgM k.1 = 59 ↔ k.1 = 14) ∧ (15 ≤ k.1 → (k.1 = 15 ∧ sgM k.1 = 60) ∨ (k.1 = 16 ∧ sgM k.1 = 62) ∨ (k.1 = 17 ∧ sgM k.1 = 61)) := by decide
def BAD (F len : Nat) (c : Sg) (p : Nat) (M2 : Sg) (L : Nat) : Prop := ∃ r s, FIN F len c r p ∧ KC c r ∧ r 191 1 = 1 ∧ r 191 2 = nn s ∧ M2 215 10 ≠ 0 ∧ M2 215 11 = nn L ∧ M2 216 8 = 1 ∧ M2 216 9 = nn s
def NXT (F : Nat) (b : Nat → Int32) (len : Nat) (c : Sg) (p : Nat) (st : Int32) (R : Sg → Prop) (M2 : Sg) : Prop := ∃ c2 p2 k s e nu, (∀ r, FIN F len c2 r p2 → FIN F len c r p) ∧ KC c c2 ∧ p < p2 ∧ p2 ≤ len ∧ TK F b len p2 k s e nu ∧ c2 32 = b ∧ c2 191 4 = nn p2 ∧ c2 191 3 = st ∧ PM b len k s e nu M2 ∧ R c2
theorem BAD.t {F len p p2 L : Nat} {c c2 M2 : Sg} (h : BAD F len c2 p2 M2 L) (h1 : ∀ r, FIN F len c2 r p2 → FIN F len c r p) (h2 : KC c c2) : BAD F len c p M2 L := by
  obtain ⟨r, s, a1, a2, a3⟩ := h
  exact ⟨r, s, h1 r a1, h2.t a2, a3⟩
theorem NXT.t {F len p p2 : Nat} {b : Nat → Int32} {st : Int32} {R : Sg → Prop} {c c2 M2 : Sg} (h : NXT F b len c2 p2 st R M2) (h1 : ∀ r, FIN F len c2 r p2 → FIN F len c r p) (h2 : KC c c2) (h3 : p ≤ p2) : NXT F b len c p st R M2 := by
  obtain ⟨c3, p3, k, s, e, nu, a1, a2, a3, a4⟩ := h
  exact ⟨c3, p3, k, s, e, nu, fun r hr => h1 r (a1 r hr), h2.t a2, by omega, a4⟩
theorem BAD.cg {F len p L : Nat} {c M M2 : Sg} (h : BAD F len c p M L) (h1 : M2 215 10 = M 215 10) (h2 : M2 215 11 = M 215 11) (h3 : M2 216 = M 216) : BAD F len c p M2 L := by
  unfold BAD at *
  rw [h1, h2, h3]
  exact h
theorem PM.cg {b : Nat → Int32} {len k s e nu : Nat} {M M2 : Sg} (h : PM b len k s e nu M) (h1 : M2 215 = M 215) (h2 : M2 216 = M 216) : PM b len k s e nu M2 := by
  unfold PM MB TM at *
  rw [h1, h2]
  exact h
theorem IT5.cg {c c2 M M2 : Sg} {L v : Nat} (h : IT5 c M L v) (h1 : c2 191 1 = c 191 1) (h2 : c2 191 2 = c 191 2) (hc : ∀ i, 192 ≤ i → i ≤ 199 → c2 i = c i) (m1 : M2 215 10 = M 215 10) (m2 : M2 215 11 = M 215 11) (m3 : M2 216 = M 216) (m4 : M2 219 = M 219) (m5 : M2 220 = M 220) : IT5 c2 M2 L v := by
  unfold IT5 LNs at *
  rw [h1, h2, hc 192 (by decide) (by decide), hc 193 (by decide) (by decide), hc 194 (by decide) (by decide), hc 195 (by decide) (by decide), hc 196 (by decide) (by decide), hc 197 (by decide) (by decide), hc 198 (by decide) (by decide), hc 199 (by decide) (by decide), m1, m2, m3, m4, m5]
  exact h
theorem bad_i {F len p k s L : Nat} {c c1 c2 M : Sg} (hp : p ≤ len) (hl : len ≤ 500) (h1 : reader_nextToken F (nn len) c = some c1) (h6 : c1 191 6 = nn k) (hk : k ≤ 19) (hz : k ≠ 19 ∨ c1 191 3 ≠ 0) (hg : reader_goesOn c1 = some (0, c2)) (h5 : c2 191 5 = nn s) (hK : KC c c2) (m5 : M 215 5 = nn s) (mL : M 215 11 = nn L) : BAD F len c p (stp M) L := by
  refine ⟨_, s, fin_bad hp hl h1 h6 hk hz hg, hK.t ((KC.w (by decide)).t (KC.w (by decide))), by rw [up_n (by decide), up_e], by rw [up_e]; exact h5, ?_, ?_, ?_, ?_⟩ <;> unfold stp
  · rw [u2n (by decide), u2n (by decide), up_e]; decide
  · rw [u2n (by decide), u2n (by decide), up_n (by decide)]; exact mL
  · rw [up_n (by decide), up_e]
  · rw [up_e]; exact m5
theorem lim_e {b : Nat → Int32} {F len p k s e nu L v : Nat} {c M : Sg} (hV : VB b) (hl : len ≤ 500) (hF : 600 ≤ F) (hp : p ≤ len) (hT : TK F b len p k s e nu) (h32 : c 32 = b) (h4 : c 191 4 = nn p) (h3 : c 191 3 = 4) (hP : PM b len k s e nu M) (hI : ILt c M L v) (hv : c 191 1 = 0 → v < 4) (h8 : c 191 8 = 0 ∨ c 191 8 = 1) (q0 : M 220 0 = c 191 8) (q1 : ∃ w, 1 ≤ w ∧ w ≤ 6 ∧ c 191 9 = nn (6 + w) ∧ M 220 1 = nn w) (q2 : tSign (c 191 10) (M 220 2)) : ∃ x M2, m_numbered F M = some (x, M2) ∧ KM M (up2 M2 220 3 x) ∧ (BAD F len c p (up2 M2 220 3 x) L ∨ NXT F b len c p 5 (fun c2 => IT5 c2 (up2 M2 220 3 x) L v) (up2 M2 220 3 x)) := by
  obtain ⟨c1, r1, r2, r3, r4, r5, r6⟩ := hT.2.2.2.2.2.2.1 c h32 h4
  have g3 : c1 191 3 = 4 := (r2.2 3 (by decide)).trans h3
  have I1 : ILt c1 M L v := hI.cg (r2.2 1 (by decide)) (r2.2 2 (by decide)) (fun i a b => r2.1 i (by omega)) rfl rfl rfl rfl
  have hkM := kMf ⟨k, by have := hT.1; omega⟩
  by_cases hk : k = 18
  · obtain ⟨k2, s2, e2, nu2, M2, T2, m1, m2, m3⟩ := adv hV hl hF hP hT.2.2.2.1
    refine ⟨nn nu, M2, ?_, m2.k.t KM.w20, Or.inr ?_⟩
    · unfold m_numbered
      refine st_l (st_f (fun y => y hI.2.2.1) (st_f (by rw [hP.2.2.2.1, hk]; decide) (st_b m1 ?_)))
      rw [hP.2.2.2.2.2.2 hk]
    · have e220 : M2 220 = M 220 := m2.1 220 (by decide)
      obtain ⟨d2, t1, t2, t3, t4⟩ := kt (d := c1) (M := up2 M2 220 3 (nn nu)) (lim := nn nu) (I1.cg rfl rfl (fun _ _ _ => rfl) (by rw [u2n (by decide)]; exact m2.2 10 (by decide)) (by rw [u2n (by decide)]; exact m2.2 11 (by decide)) (by rw [u2n (by decide)]; exact m2.1 216 (by decide)) (by rw [u2n (by decide)]; exact m2.1 219 (by decide))) (by rw [r2.2 1 (by decide)]; exact hv) (by rw [r2.2 8 (by decide)]; exact h8) (by rw [up_n (by decide), e220, r2.2 8 (by decide)]; exact q0) (by rw [up_n (by decide), e220, r2.2 9 (by decide)]; exact q1) (by rw [up_n (by decide), e220, r2.2 10 (by decide)]; exact q2) up_e
      have hgo := go4 (d := up2 d2 191 3 5) (x := 1) g3 (by
        unfold reader_takeLimit
        refine st_t (by rw [r5, hk]; rfl) ?_
        rw [r6 hk]
        exact st_b t1 rfl) (Or.inr rfl)
      have hpe : p < e := by have := hT.2.1; have := hT.2.2.2.2.1 (by omega); omega
      refine ⟨up2 d2 191 3 5, e, k2, s2, e2, nu2, fun r hr => fin_ok hp hl hpe r1 r5 hT.1 (Or.inl (by omega)) hgo hr, r2.k.t (t3.t (KC.w (by decide))), hpe, hT.2.2.2.1, T2, ?_, ?_, up_e, ?_, ?_⟩
      · rw [u2n (by decide), t3 32 (by decide), r2.1 32 (by decide)]; exact h32
      · rw [up_n (by decide), t2]; exact r3
      · exact m3.cg (u2n (by decide)) (u2n (by decide))
      · exact t4.cg (up_n (by decide)) (up_n (by decide)) (fun i a b => u2n (by omega)) rfl rfl rfl rfl rfl
  · refine ⟨M 215 7, stp M, ?_, KM.stp.t KM.w20, Or.inl ?_⟩
    · unfold m_numbered
      exact st_l (st_f (fun y => y hI.2.2.1) (st_t (by rw [hP.2.2.2.1]; exact fun y => hk (hkM.1.mp y)) (st_b (stp_e hI.2.2.1) rfl)))
    · have hgo := go4 (d := c1) (x := 0) g3 (by
        unfold reader_takeLimit
        exact st_f (by rw [r5, nrQ (b := 18) 18 rfl (by have := hT.1; omega) (by decide)]; exact hk) rfl) (Or.inl rfl)
      exact (bad_i hp hl r1 r5 hT.1 (Or.inr (by rw [g3]; decide)) hgo r4 r2.k hP.2.2.1 hI.2.1).cg (by rw [u2n (by decide)]) (by rw [u2n (by decide)]) (u2n (by decide))
/-- the model after the test's first word -/
def tst2 (F : Nat) (g8 : Sg) : Option Sg := lt1 (up2 g8 220 2 (g8 215 8)) (fun g9 => (if ¬ (g9 215 6) = 2 then Option.bind (m_stops g9) (fun g10 => (some g10)) else (if (g9 215 8) = 58 then Option.bind (m_stops g9) (fun g11 => (some g11)) else (if ¬ (g9 215 8) = 59 then Option.bind (m_advance F g9) (fun g12 => Option.bind (m_numbered F g12) (fun (x13, g14) => lt1 (up2 g14 220 3 x13) (fun g15 => (some g15)))) else Option.bind (m_stops g9) (fun g16 => (some g16))))))
theorem sig_e {b : Nat → Int32} {F len p k s e nu L v : Nat} {c M : Sg} (hV : VB b) (hl : len ≤ 500) (hF : 600 ≤ F) (hp : p ≤ len) (hT : TK F b len p k s e nu) (h32 : c 32 = b) (h4 : c 191 4 = nn p) (h3 : c 191 3 = 3) (hP : PM b len k s e nu M) (hI : ILt c M L v) (hv : c 191 1 = 0 → v < 4) (h8 : c 191 8 = 0 ∨ c 191 8 = 1) (q0 : M 220 0 = c 191 8) (q1 : ∃ w, 1 ≤ w ∧ w ≤ 6 ∧ c 191 9 = nn (6 + w) ∧ M 220 1 = nn w) : ∃ M2, tst2 F M = some M2 ∧ KM M M2 ∧ (BAD F len c p M2 L ∨ NXT F b len c p 5 (fun c2 => IT5 c2 M2 L v) M2) := by
  obtain ⟨c1, r1, r2, r3, r4, r5, r6⟩ := hT.2.2.2.2.2.2.1 c h32 h4
  have hk19 := hT.1
  have g3 : c1 191 3 = 3 := (r2.2 3 (by decide)).trans h3
  have hkM := kMf ⟨k, by omega⟩
  have hP1 : PM b len k s e nu (up2 M 220 2 (M 215 8)) := hP.cg (u2n (by decide)) (u2n (by decide))
  have I1 : ILt c1 (up2 M 220 2 (M 215 8)) L v := hI.cg (r2.2 1 (by decide)) (r2.2 2 (by decide)) (fun i a b => r2.1 i (by omega)) (by rw [u2n (by decide)]) (by rw [u2n (by decide)]) (u2n (by decide)) (u2n (by decide))
  obtain ⟨c2, hc2⟩ : ∃ c2, c2 = up2 (up2 c1 191 10 (c1 191 6)) 191 3 4 := ⟨_, rfl⟩
  have c2j : ∀ j, j ≠ 10 → j ≠ 3 → c2 191 j = c1 191 j := fun j a b => by rw [hc2, up_n b, up_n a]
  have c2i : ∀ i, i ≠ 191 → c2 i = c1 i := fun i a => by rw [hc2, u2n a, u2n a]
  have c210 : c2 191 10 = nn k := by rw [hc2, up_n (by decide), up_e]; exact r5
  have hgo : reader_goesOn c1 = some (if 15 ≤ k ∧ k ≤ 17 then 1 else 0, c2) := by
    refine go3 g3 ?_ (by split <;> decide)
    unfold reader_takeSign
    refine st_l (st_l ?_)
    rw [← hc2, c2j 6 (by decide) (by decide), r5]
    have hs : tokens_isSign (nn k) c2 = some (if 15 ≤ k ∧ k ≤ 17 then 1 else 0) := by
      unfold tokens_isSign
      by_cases z1 : k = 15
      · subst z1; exact st_t rfl rfl
      refine st_f (by rw [nrQ (b := 15) 15 rfl (by omega) (by decide)]; exact z1) ?_
      by_cases z2 : k = 16
      · subst z2; exact st_t rfl rfl
      refine st_f (by rw [nrQ (b := 16) 16 rfl (by omega) (by decide)]; exact z2) ?_
      by_cases z3 : k = 17
      · subst z3; exact st_f (fun y => y rfl) rfl
      · rw [if_neg (show ¬ (15 ≤ k ∧ k ≤ 17) by omega)]
        exact st_t (by rw [nrQ (b := 17) 17 rfl (by omega) (by decide)]; exact z3) rfl
    exact st_b hs (st_t (by split <;> decide) rfl)
  have k2 : KC c c2 := fun i a => (c2i i (by omega)).trans (r2.1 i (by omega))
  by_cases hk : 15 ≤ k ∧ k ≤ 17
  · rw [if_pos hk] at hgo
    have hsg := sgf ⟨k, by omega⟩ (show 13 ≤ k by omega)
    obtain ⟨k2', s2, e2, nu2, M2, T2, m1, m2, m3⟩ := adv hV hl hF hP1 hT.2.2.2.1
    have hpe : p < e := by have := hT.2.1; have := hT.2.2.2.2.1 (by omega); omega
    have e220 : M2 220 = up1 (M 220) 2 (M 215 8) := (m2.1 220 (by decide)).trans u2e
    have h8s : M 215 8 = sgM k := hP.2.2.2.2.2.1 (by omega) hk.2
    obtain ⟨x, M3, n1, n2, n3⟩ := lim_e (c := c2) (M := M2) (v := v) (L := L) hV hl hF hT.2.2.2.1 T2 (by rw [c2i 32 (by decide), r2.1 32 (by decide)]; exact h32) (by rw [c2j 4 (by decide) (by decide)]; exact r3) (by rw [hc2, up_e]) m3 (I1.cg (c2j 1 (by decide) (by decide)) (c2j 2 (by decide) (by decide)) (fun i a b => c2i i (by omega)) (m2.2 10 (by decide)) (m2.2 11 (by decide)) (m2.1 216 (by decide)) (m2.1 219 (by decide))) (by rw [c2j 1 (by decide) (by decide), r2.2 1 (by decide)]; exact hv) (by rw [c2j 8 (by decide) (by decide), r2.2 8 (by decide)]; exact h8) (by rw [c2j 8 (by decide) (by decide), r2.2 8 (by decide), e220, up1_ne (by decide)]; exact q0) (by rw [c2j 9 (by decide) (by decide), r2.2 9 (by decide), e220, up1_ne (by decide)]; exact q1) (by
      rw [c210, e220, up1_eq, h8s]
      rcases hsg.2.2 hk.1 with ⟨y1, y2⟩ | ⟨y1, y2⟩ | ⟨y1, y2⟩
      · have y1 : k = 15 := y1
        have y2 : sgM k = 60 := y2
        rw [y2, y1]; exact Or.inl ⟨rfl, rfl⟩
      · have y1 : k = 16 := y1
        have y2 : sgM k = 62 := y2
        rw [y2, y1]; exact Or.inr (Or.inl ⟨rfl, rfl⟩)
      · have y1 : k = 17 := y1
        have y2 : sgM k = 61 := y2
        rw [y2, y1]; exact Or.inr (Or.inr ⟨rfl, rfl⟩))
    refine ⟨up2 M3 220 3 x, ?_, (KM.w20.t m2.k).t n2, ?_⟩
    · unfold tst2
      refine st_l (st_f ?_ (st_f ?_ (st_t ?_ (st_b m1 (st_b n1 rfl)))))
      · rw [hP1.2.2.2.1]
        exact fun y => y (hkM.2.1.mpr (show 13 ≤ k ∧ k ≤ 17 by omega))
      · rw [hP1.2.2.2.2.2.1 (by omega) hk.2]
        intro y
        have : k = 13 := hsg.1.mp y
        omega
      · rw [hP1.2.2.2.2.2.1 (by omega) hk.2]
        intro y
        have : k = 14 := hsg.2.1.mp y
        omega
    · have hfin : ∀ r, FIN F len c2 r e → FIN F len c r p := fun r hr => fin_ok hp hl hpe r1 r5 hk19 (Or.inl (by omega)) hgo hr
      rcases n3 with z | z
      · exact Or.inl (z.t hfin k2)
      · exact Or.inr (z.t hfin k2 (by omega))
  · rw [if_neg hk] at hgo
    refine ⟨stp (up2 M 220 2 (M 215 8)), ?_, KM.w20.t KM.stp, Or.inl (bad_i hp hl r1 r5 hk19 (Or.inr (by rw [g3]; decide)) hgo (by rw [c2j 5 (by decide) (by decide)]; exact r4) k2 hP1.2.2.1 I1.2.1)⟩
    unfold tst2
    refine st_l ?_
    have hst := stp_e I1.2.2.1
    by_cases y1 : 13 ≤ k ∧ k ≤ 17
    · have hsg := sgf ⟨k, by omega⟩ y1.1
      refine st_f (by rw [hP1.2.2.2.1]; exact fun y => y (hkM.2.1.mpr y1)) ?_
      rw [hP1.2.2.2.2.2.1 y1.1 y1.2]
      by_cases y2 : k = 13
      · exact st_t (hsg.1.mpr y2) (st_b hst rfl)
      · exact st_f (fun y => y2 (hsg.1.mp y)) (st_f (fun y => y (hsg.2.1.mpr (show k = 14 by omega))) (st_b hst rfl))
    · exact st_t (by rw [hP1.2.2.2.1]; exact fun y => y1 (hkM.2.1.mp y)) (st_b hst rfl)
end
section
/-! the statute: a whole test -/
theorem isFact_e {k : Nat} (hk : k ≤ 19) (g : Sg) : tokens_isFact (nn k) g = some (if 7 ≤ k ∧ k ≤ 12 then 1 else 0) := by
  unfold tokens_isFact
  by_cases z1 : k < 7
  · rw [if_neg (show ¬ (7 ≤ k ∧ k ≤ 12) by omega)]
    exact st_t (by rw [show (7 : Int32) = nn 7 from rfl, nnL (by omega) (by decide)]; exact z1) rfl
  by_cases z2 : 12 < k
  · rw [if_neg (show ¬ (7 ≤ k ∧ k ≤ 12) by omega)]
    exact st_f (by rw [show (7 : Int32) = nn 7 from rfl, nnL (by omega) (by decide)]; exact z1) (st_t (by rw [nlL (a := 12) 12 rfl (by decide) (by omega)]; exact z2) rfl)
  · rw [if_pos (show 7 ≤ k ∧ k ≤ 12 by omega)]
    exact st_f (by rw [show (7 : Int32) = nn 7 from rfl, nnL (by omega) (by decide)]; exact z1) (st_f (by rw [nlL (a := 12) 12 rfl (by decide) (by omega)]; exact z2) rfl)
theorem fact_e {b : Nat → Int32} {F len p k s e nu L v : Nat} {c c1 d M : Sg} {n : Int32} (hV : VB b) (hl : len ≤ 500) (hF : 600 ≤ F) (hp : p ≤ len) (hT : TK F b len p k s e nu) (r1 : reader_nextToken F (nn len) c = some c1) (r5 : c1 191 6 = nn k) (hz : c1 191 3 ≠ 0) (d32 : d 32 = b) (d4 : d 191 4 = nn e) (d5 : d 191 5 = nn s) (d6 : d 191 6 = nn k) (dK : KC c d) (hgo : ∀ x d2, reader_takeFact d = some (x, d2) → (x = 0 ∨ x = 1) → reader_goesOn c1 = some (x, d2)) (hP : PM b len k s e nu M) (hI : ILt d M L v) (hv : d 191 1 = 0 → v < 4) (h8 : d 191 8 = n) (hn : n = 0 ∨ n = 1) : ∃ M2, m_aTest_19 F n 0 M = some M2 ∧ KM M M2 ∧ (BAD F len c p M2 L ∨ NXT F b len c p 5 (fun c2 => IT5 c2 M2 L v) M2) := by
  have hk19 := hT.1
  have hkM := kMf ⟨k, by omega⟩
  obtain ⟨M1, hM1⟩ : ∃ M1, M1 = up2 (up2 (up2 (up2 M 220 (Int32.toNatClampNeg 0) n) 220 1 ((up2 M 220 (Int32.toNatClampNeg 0) n) 215 9)) 220 2 61) 220 3 1 := ⟨_, rfl⟩
  have mi : ∀ i, i ≠ 220 → M1 i = M i := fun i h => by rw [hM1, u2n h, u2n h, u2n h, u2n h]
  have m0 : M1 220 0 = n := by rw [hM1, up_n (by decide), up_n (by decide), up_n (by decide)]; exact up_e
  have m1' : M1 220 1 = M 215 9 := by rw [hM1, up_n (by decide), up_n (by decide), up_e, u2n (by decide)]
  have m2' : M1 220 2 = 61 := by rw [hM1, up_n (by decide), up_e]
  have m3' : M1 220 3 = 1 := by rw [hM1, up_e]
  have hP1 : PM b len k s e nu M1 := hP.cg (mi 215 (by decide)) (mi 216 (by decide))
  have hI1 : ILt d M1 L v := hI.cg rfl rfl (fun _ _ _ => rfl) (by rw [mi 215 (by decide)]) (by rw [mi 215 (by decide)]) (mi 216 (by decide)) (mi 219 (by decide))
  have kM1 : KM M M1 := hM1 ▸ ((KM.w20.t KM.w20).t KM.w20).t KM.w20
  have hst := stp_e hI1.2.2.1
  have h810 : ¬ ¬ M1 215 10 = 0 := fun y => y hI1.2.2.1
  by_cases hk : 7 ≤ k ∧ k ≤ 12
  · have hmw := mWf ⟨k, by omega⟩
    have hpe : p < e := by have := hT.2.1; have := hT.2.2.2.2.1 (by omega); omega
    have h9 : M 215 9 = mW k := hP.2.2.2.2.1 (by omega) hk.2
    have h9n : mW k = nn (k - 6) := hmw.2.2.2.2.2.2.2.2 hk.1
    obtain ⟨k2, s2, e2, nu2, M2, T2, g1, g2, g3⟩ := adv hV hl hF hP1 hT.2.2.2.1
    have j220 : M2 220 = M1 220 := g2.1 220 (by decide)
    have hin : m_isIn (M1 215 9) 1 6 M1 = some 1 := (isIn_eq _ _ _ _).trans (congrArg some (if_pos (by rw [hP1.2.2.2.2.1 (by omega) hk.2]; exact hmw.2.2.2.2.1.mpr hk.1)))
    have hfa := (isFact_e hk19 d).trans (congrArg some (if_pos hk))
    by_cases h7 : k = 7
    · have i1 : (up2 (up2 d 191 9 (d 191 6)) 191 10 17) 191 = up1 (up1 (d 191) 9 (d 191 6)) 10 17 := by rw [u2e, u2e]
      obtain ⟨d2, t1, t2, t3, t4⟩ := kt (d := up2 (up2 d 191 9 (d 191 6)) 191 10 17) (M := M2) (L := L) (v := v) (lim := 1) (hI1.cg (by rw [up_n (by decide), up_n (by decide)]) (by rw [up_n (by decide), up_n (by decide)]) (fun i a b => by rw [u2n (by omega), u2n (by omega)]) (g2.2 10 (by decide)) (g2.2 11 (by decide)) (g2.1 216 (by decide)) (g2.1 219 (by decide))) (by rw [up_n (by decide), up_n (by decide)]; exact hv) (by rw [up_n (by decide), up_n (by decide), h8]; exact hn) (by rw [up_n (by decide), up_n (by decide), h8, j220]; exact m0) ⟨1, by decide, by decide, by rw [up_n (by decide), up_e, d6, h7], by rw [j220, m1', h9, h7]; rfl⟩ (by rw [up_e, j220, m2']; exact Or.inr (Or.inr ⟨rfl, rfl⟩)) (by rw [j220]; exact m3')
      have hgo := hgo 1 (up2 d2 191 3 5) (by
        unfold reader_takeFact
        rw [d6]
        refine st_b hfa (st_t (by decide) (st_l (st_f ?_ (st_l (st_b ?_ rfl)))))
        · rw [up_e, h7]; exact fun y => y rfl
        · rw [← d6]; exact t1) (Or.inr rfl)
      refine ⟨M2, ?_, kM1.t g2.k, Or.inr ⟨up2 d2 191 3 5, e, k2, s2, e2, nu2, fun r hr => fin_ok hp hl hpe r1 r5 hk19 (Or.inr hz) hgo hr, (dK.t ((KC.w (by decide)).t (KC.w (by decide)))).t (t3.t (KC.w (by decide))), hpe, hT.2.2.2.1, T2, ?_, ?_, up_e, g3, t4.cg (up_n (by decide)) (up_n (by decide)) (fun i a b => u2n (by omega)) rfl rfl rfl rfl rfl⟩⟩
      · unfold m_aTest_19
        refine st_t (by decide) (st_l (st_l (st_l (st_l ?_))))
        rw [← hM1]
        exact st_f h810 (st_f (by rw [hP1.2.2.2.1]; exact fun y => y (hkM.2.2.1.mpr (show 1 ≤ k ∧ k ≤ 12 by omega))) (st_b hin (st_t (by decide) (st_b g1 (st_f (by rw [j220, m1', h9, h7]; exact fun y => y rfl) rfl)))))
      · rw [u2n (by decide), t3 32 (by decide), u2n (by decide), u2n (by decide)]; exact d32
      · rw [up_n (by decide), t2, up_n (by decide), up_n (by decide)]; exact d4
    · obtain ⟨c2, hc2⟩ : ∃ c2, c2 = up2 (up2 d 191 9 (d 191 6)) 191 3 3 := ⟨_, rfl⟩
      have c2j : ∀ j, j ≠ 9 → j ≠ 3 → c2 191 j = d 191 j := fun j a b => by rw [hc2, up_n b, up_n a]
      have c2i : ∀ i, i ≠ 191 → c2 i = d i := fun i a => by rw [hc2, u2n a, u2n a]
      have hgo := hgo 1 c2 (by
        unfold reader_takeFact
        rw [d6]
        refine st_b hfa (st_t (by decide) (st_l (st_t ?_ (st_l ?_))))
        · rw [up_e, nrQ (b := 7) 7 rfl (by omega) (by decide)]; exact h7
        · rw [hc2, d6]) (Or.inr rfl)
      obtain ⟨M3, n1, n2, n3⟩ := sig_e (c := c2) (M := M2) (L := L) (v := v) hV hl hF hT.2.2.2.1 T2 (by rw [c2i 32 (by decide)]; exact d32) (by rw [c2j 4 (by decide) (by decide)]; exact d4) (by rw [hc2, up_e]) g3 (hI1.cg (c2j 1 (by decide) (by decide)) (c2j 2 (by decide) (by decide)) (fun i a b => c2i i (by omega)) (g2.2 10 (by decide)) (g2.2 11 (by decide)) (g2.1 216 (by decide)) (g2.1 219 (by decide))) (by rw [c2j 1 (by decide) (by decide)]; exact hv) (by rw [c2j 8 (by decide) (by decide), h8]; exact hn) (by rw [c2j 8 (by decide) (by decide), h8, j220]; exact m0) ⟨k - 6, by omega, by omega, by rw [hc2, up_n (by decide), up_e, d6]; congr 1; omega, by rw [j220, m1', h9, h9n]⟩
      have hfin : ∀ r, FIN F len c2 r e → FIN F len c r p := fun r hr => fin_ok hp hl hpe r1 r5 hk19 (Or.inr hz) hgo hr
      have kc : KC c c2 := dK.t (fun i a => c2i i (by omega))
      refine ⟨M3, ?_, (kM1.t g2.k).t n2, ?_⟩
      · unfold m_aTest_19
        refine st_t (by decide) (st_l (st_l (st_l (st_l ?_))))
        rw [← hM1]
        refine st_f h810 (st_f (by rw [hP1.2.2.2.1]; exact fun y => y (hkM.2.2.1.mpr (show 1 ≤ k ∧ k ≤ 12 by omega))) (st_b hin (st_t (by decide) (st_b g1 (st_t (fun y => h7 (hmw.2.2.2.2.2.2.2.1.mp ?_)) n1)))))
        rw [j220, m1', h9] at y
        exact y
      · rcases n3 with z | z
        · exact Or.inl (z.t hfin kc)
        · exact Or.inr (z.t hfin kc (by omega))
  · have hgo := hgo 0 d (by
      unfold reader_takeFact
      rw [d6]
      exact st_b ((isFact_e hk19 d).trans (congrArg some (if_neg hk))) (st_f (by decide) rfl)) (Or.inl rfl)
    refine ⟨stp M1, ?_, kM1.t KM.stp, Or.inl (bad_i hp hl r1 r5 hk19 (Or.inr hz) hgo d5 dK hP1.2.2.1 hI1.2.1)⟩
    unfold m_aTest_19
    refine st_t (by decide) (st_l (st_l (st_l (st_l ?_))))
    rw [← hM1]
    refine st_f h810 ?_
    by_cases y1 : 1 ≤ k ∧ k ≤ 12
    · have hmw := mWf ⟨k, by omega⟩
      refine st_f (by rw [hP1.2.2.2.1]; exact fun y => y (hkM.2.2.1.mpr y1)) (st_b ((isIn_eq _ _ _ _).trans (congrArg some (if_neg ?_))) (st_f (by decide) (st_b hst rfl)))
      rw [hP1.2.2.2.2.1 y1.1 y1.2]
      intro y
      have : 7 ≤ k := hmw.2.2.2.2.1.mp y
      omega
    · exact st_t (by rw [hP1.2.2.2.1]; exact fun y => y1 (hkM.2.2.1.mp y)) (st_b hst rfl)
def mnn (v s : Nat) (M : Sg) : Sg := if v ≤ 3 then M else ntM 3 (nn s) M
theorem test_e {b : Nat → Int32} {F len p k s e nu L v : Nat} {c M : Sg} (hV : VB b) (hl : len ≤ 500) (hF : 600 ≤ F) (hp : p ≤ len) (hT : TK F b len p k s e nu) (h32 : c 32 = b) (h4 : c 191 4 = nn p) (h3 : c 191 3 = 1) (hP : PM b len k s e nu M) (hI : ILt c M L v) : ∃ M2, m_aTest F (mnn v s M) = some M2 ∧ KM M M2 ∧ (BAD F len c p M2 L ∨ NXT F b len c p 5 (fun c2 => IT5 c2 M2 L v) M2) := by
  obtain ⟨c1, r1, r2, r3, r4, r5, r6⟩ := hT.2.2.2.2.2.2.1 c h32 h4
  have hk19 := hT.1
  have g3 : c1 191 3 = 1 := (r2.2 3 (by decide)).trans h3
  have hkM := kMf ⟨k, by omega⟩
  have I1 : ILt c1 M L v := hI.cg (r2.2 1 (by decide)) (r2.2 2 (by decide)) (fun i a b => r2.1 i (by omega)) rfl rfl rfl rfl
  have kMn : KM M (mnn v s M) := by
    unfold mnn
    by_cases z : v ≤ 3
    · rw [if_pos z]; exact KM.r
    · rw [if_neg z]; exact KM.nt
  have hn215 : (mnn v s M) 215 = M 215 := by
    unfold mnn ntM
    by_cases z : v ≤ 3
    · rw [if_pos z]
    · rw [if_neg z]
      by_cases y : M 216 8 = 0
      · rw [if_pos y, u2n (by decide), u2n (by decide)]
      · rw [if_neg y]
  have hPn : PM b len k s e nu (mnn v s M) := ⟨hP.1.km kMn, by rw [hn215]; exact hP.2.1, by rw [hn215]; exact hP.2.2.1, by unfold TM; rw [hn215]; exact hP.2.2.2⟩
  obtain ⟨d0, o1, o2, o3, o4, o5⟩ : ∃ d0, reader_beginTest c1 = reader_beginTest_38 d0 ∧ ILt d0 (mnn v s M) L v ∧ (d0 191 1 = 0 → v < 4) ∧ (∀ i, i ≠ 191 → d0 i = c1 i) ∧ ∀ j, j ≠ 1 → j ≠ 2 → d0 191 j = c1 191 j := by
    have hx : c1 192 0 - 1 = nn (min L 15) := by rw [I1.1, nrS (b := 1) 1 rfl (by omega)]; congr 1; omega
    have w1 : x_within (nn (min L 15)) 0 15 c1 = some 1 := (within_eq _ _ _ _).trans (congrArg some (if_pos ((rgK (K := 15) (by decide)).mpr ⟨_, by omega, rfl⟩)))
    have hin : inb (nn (min L 15)) 16 = true := by rw [nnB (by omega)]; omega
    have nt := I1.nt (v2 := v) (K := 3) r4 (by decide)
    have nti : ∀ i, i ≠ 191 → (ntC 3 c1) i = c1 i := fun i a => by
      unfold ntC
      by_cases y : c1 191 1 = 0
      · rw [if_pos y, u2n a, u2n a]
      · rw [if_neg y]
    have ntj : ∀ j, j ≠ 1 → j ≠ 2 → (ntC 3 c1) 191 j = c1 191 j := fun j a a2 => by
      unfold ntC
      by_cases y : c1 191 1 = 0
      · rw [if_pos y, up_n a2, up_n a]
      · rw [if_neg y]
    have hb : reader_beginTest c1 = (if c1 195 (Int32.toNatClampNeg (nn (min L 15))) < 4 then reader_beginTest_38 c1 else reader_beginTest_38 (ntC 3 c1)) := by
      unfold reader_beginTest
      refine st_l ?_
      rw [hx]
      refine st_b w1 (st_f (by decide) (st_t hin ?_))
      rw [ntC_e]
      rfl
    have hnm : c1 191 1 ≠ 0 → mnn v s M = M ∧ ntC 3 c1 = c1 := fun y => by
      unfold mnn ntM ntC
      rw [if_neg y, if_neg (fun x => y (I1.2.2.2.1.trans x))]
      exact ⟨by split <;> rfl, rfl⟩
    rw [hb]
    by_cases z : c1 191 1 = 0
    · obtain ⟨f1, f2, f3, f4, f5⟩ := I1.2.2.2.2.2 z
      rw [nnT (by omega), show min L 15 = L by omega, f3]
      by_cases y : v ≤ 3
      · refine ⟨c1, if_pos (by rw [show (4 : Int32) = nn 4 from rfl, nnL (by omega) (by decide)]; omega), ?_, fun _ => by omega, fun _ _ => rfl, fun _ _ _ => rfl⟩
        unfold mnn
        rw [if_pos y]
        exact I1
      · refine ⟨ntC 3 c1, if_neg (by rw [show (4 : Int32) = nn 4 from rfl, nnL (by omega) (by decide)]; omega), ?_, fun x => absurd x nt.2, nti, ntj⟩
        unfold mnn
        rw [if_neg y]
        exact nt.1
    · obtain ⟨e1, e2⟩ := hnm z
      rw [e1, e2]
      refine ⟨c1, ?_, I1, fun x => absurd x z, fun _ _ => rfl, fun _ _ _ => rfl⟩
      split <;> rfl
  have d0K : KC c d0 := fun i a => (o4 i (by omega)).trans (r2.1 i (by omega))
  have h10 : (mnn v s M) 215 10 = 0 := o2.2.2.1
  by_cases hk : k = 3
  · obtain ⟨k2, s2, e2, nu2, M2, T2, m1, m2, m3⟩ := adv hV hl hF hPn hT.2.2.2.1
    have hpe : p < e := by have := hT.2.1; have := hT.2.2.2.2.1 (by omega); omega
    obtain ⟨c2, hc2⟩ : ∃ c2, c2 = up2 (up2 d0 191 8 1) 191 3 2 := ⟨_, rfl⟩
    have c2j : ∀ j, j ≠ 8 → j ≠ 3 → c2 191 j = d0 191 j := fun j a b => by rw [hc2, up_n b, up_n a]
    have c2i : ∀ i, i ≠ 191 → c2 i = d0 i := fun i a => by rw [hc2, u2n a, u2n a]
    have hgo : reader_goesOn c1 = some (1, c2) := by
      refine go1 g3 ?_ (Or.inr rfl)
      rw [o1]
      unfold reader_beginTest_38
      refine st_f (by rw [o5 6 (by decide) (by decide), r5, hk]; exact fun y => y rfl) ?_
      unfold reader_beginTest_52
      refine st_t (Or.inr rfl) (st_l (st_f (by rw [up_e]; decide) (st_l ?_)))
      rw [hc2]
    have hfin : ∀ r, FIN F len c2 r e → FIN F len c r p := fun r hr => fin_ok hp hl hpe r1 r5 hk19 (Or.inl (by omega)) hgo hr
    have kc : KC c c2 := d0K.t (fun i a => c2i i (by omega))
    have c232 : c2 32 = b := by rw [c2i 32 (by decide), o4 32 (by decide), r2.1 32 (by decide)]; exact h32
    have c24 : c2 191 4 = nn e := by rw [c2j 4 (by decide) (by decide), o5 4 (by decide) (by decide)]; exact r3
    obtain ⟨d1, y1, y2, y3, y4, y5, y6⟩ := T2.2.2.2.2.2.2.1 c2 c232 c24
    have y33 : d1 191 3 = 2 := by rw [y2.2 3 (by decide), hc2, up_e]
    obtain ⟨M3, n1, n2, n3⟩ := fact_e (c := c2) (c1 := d1) (d := d1) (M := M2) (n := 1) (L := L) (v := v) hV hl hF hT.2.2.2.1 T2 y1 y5 (by rw [y33]; decide) (by rw [y2.1 32 (by decide)]; exact c232) y3 y4 y5 y2.k (fun x d2 a b => go2 y33 a b) m3 (o2.cg (by rw [y2.2 1 (by decide), c2j 1 (by decide) (by decide)]) (by rw [y2.2 2 (by decide), c2j 2 (by decide) (by decide)]) (fun i a b => by rw [y2.1 i (by omega), c2i i (by omega)]) (m2.2 10 (by decide)) (m2.2 11 (by decide)) (m2.1 216 (by decide)) (m2.1 219 (by decide))) (by rw [y2.2 1 (by decide), c2j 1 (by decide) (by decide)]; exact o3) (by rw [y2.2 8 (by decide), hc2, up_n (by decide), up_e]) (Or.inr rfl)
    refine ⟨M3, ?_, (kMn.t m2.k).t n2, ?_⟩
    · unfold m_aTest
      refine st_b (x := (1, M2)) ?_ (st_f (by decide) n1)
      unfold m_takes
      exact st_f (fun y => y h10) (st_f (by rw [hPn.2.2.2.1]; exact fun y => y (hkM.2.2.1.mpr (show 1 ≤ k ∧ k ≤ 12 by omega))) (st_t (by rw [hPn.2.2.2.2.1 (by omega) (by omega), hk]; rfl) (st_b m1 rfl)))
    · rcases n3 with z | z
      · exact Or.inl (z.t hfin kc)
      · exact Or.inr (z.t hfin kc (by omega))
  · obtain ⟨M3, n1, n2, n3⟩ := fact_e (c := c) (c1 := c1) (d := up2 d0 191 8 0) (M := mnn v s M) (n := 0) (L := L) (v := v) hV hl hF hp hT r1 r5 (by rw [g3]; decide) (by rw [u2n (by decide), o4 32 (by decide), r2.1 32 (by decide)]; exact h32) (by rw [up_n (by decide), o5 4 (by decide) (by decide)]; exact r3) (by rw [up_n (by decide), o5 5 (by decide) (by decide)]; exact r4) (by rw [up_n (by decide), o5 6 (by decide) (by decide)]; exact r5) (d0K.t (KC.w (by decide))) (fun x d2 a b => go1 g3 (by
        rw [o1]
        unfold reader_beginTest_38
        refine st_t (by rw [o5 6 (by decide) (by decide), r5, nrQ (b := 3) 3 rfl (by omega) (by decide)]; exact hk) ?_
        unfold reader_beginTest_52
        exact st_t (Or.inl rfl) (st_l (st_t up_e (bnd01 a b)))) b) hPn (o2.cg (up_n (by decide)) (up_n (by decide)) (fun i a b => u2n (by omega)) rfl rfl rfl rfl) (by rw [up_n (by decide)]; exact o3) up_e (Or.inl rfl)
    refine ⟨M3, ?_, kMn.t n2, n3⟩
    unfold m_aTest
    refine st_b (x := (0, mnn v s M)) ?_ (st_t rfl n1)
    unfold m_takes
    refine st_f (fun y => y h10) ?_
    by_cases y1 : 1 ≤ k ∧ k ≤ 12
    · have hmw := mWf ⟨k, by omega⟩
      exact st_f (by rw [hPn.2.2.2.1]; exact fun y => y (hkM.2.2.1.mpr y1)) (st_f (by rw [hPn.2.2.2.2.1 y1.1 y1.2]; exact fun y => hk (hmw.2.2.1.mp y)) rfl)
    · exact st_t (by rw [hPn.2.2.2.1]; exact fun y => y1 (hkM.2.2.1.mp y)) rfl
end
section
/-! the statute: the act of a line, and its end -/
theorem puM_i {L v i : Nat} {x : Int32} {M : Sg} (h : i ≠ 219) : (puM L v x M) i = M i := by
  unfold puM
  by_cases z : L < 16
  · rw [if_pos z, u2n h]
  · rw [if_neg z]
def fi3 (L v : Nat) (x2 x4 : Int32) (M : Sg) : Sg := puM L 18 x4 (puM L 17 x2 (puM L 0 (nn v) M))
def fin190 (L v : Nat) (x2 x4 : Int32) (M : Sg) : Sg := up2 (fi3 L v x2 x4 M) 215 11 ((fi3 L v x2 x4 M) 215 11 + 1)
theorem fi3_i {L v i : Nat} {x2 x4 : Int32} {M : Sg} (h : i ≠ 219) : (fi3 L v x2 x4 M) i = M i := by
  unfold fi3
  rw [puM_i h, puM_i h, puM_i h]
theorem f190 {F L v : Nat} {x2 x4 : Int32} {M M2 : Sg} (hm : m_must F 59 M = some M2) (h11 : M2 215 11 = nn L) (hL : L ≤ 1000) : m_aLine_190 F (nn v) x2 x4 M = some (fin190 L v x2 x4 M2) := by
  unfold m_aLine_190
  refine st_b hm (st_b (puM_e (L := L) (v := 0) h11 hL (by decide)) (st_b (puM_e (L := L) (v := 17) ?_ hL (by decide)) (st_b (puM_e (L := L) (v := 18) ?_ hL (by decide)) rfl)))
  · rw [puM_i (by decide)]; exact h11
  · rw [puM_i (by decide), puM_i (by decide)]; exact h11
theorem fin_10 {L v : Nat} {x2 x4 : Int32} {M : Sg} : (fin190 L v x2 x4 M) 215 10 = M 215 10 := by
  unfold fin190
  rw [up_n (by decide), fi3_i (by decide)]
theorem fin_11 {L v : Nat} {x2 x4 : Int32} {M : Sg} (h : M 215 11 = nn L) : (fin190 L v x2 x4 M) 215 11 = nn (L + 1) := by
  unfold fin190
  rw [up_e, fi3_i (by decide), h]
  exact nnA L 1
theorem fin_i {L v i : Nat} {x2 x4 : Int32} {M : Sg} (h : i ≠ 215) (h2 : i ≠ 219) : (fin190 L v x2 x4 M) i = M i := by
  unfold fin190
  rw [u2n h, fi3_i h2]
theorem fin_k {L v : Nat} {x2 x4 : Int32} {M : Sg} : KM M (fin190 L v x2 x4 M) := ((KM.pu.t KM.pu).t KM.pu).t (KM.w5 (by decide))
theorem fin_5 {L v j : Nat} {x2 x4 : Int32} {M : Sg} (h : j ≠ 11) : (fin190 L v x2 x4 M) 215 j = M 215 j := by
  unfold fin190
  rw [up_n h, fi3_i (by decide)]
theorem BAD.fin {F len p L v : Nat} {x2 x4 : Int32} {c M : Sg} (h : BAD F len c p M L) : BAD F len c p (fin190 L v x2 x4 M) (L + 1) := by
  obtain ⟨r, s, a1, a2, a3, a4, a5, a6, a7, a8⟩ := h
  exact ⟨r, s, a1, a2, a3, a4, by rw [fin_10]; exact a5, fin_11 a6, by rw [fin_i (by decide) (by decide)]; exact a7, by rw [fin_i (by decide) (by decide)]; exact a8⟩
theorem PM.fin {b : Nat → Int32} {len k s e nu L v : Nat} {x2 x4 : Int32} {M : Sg} (h : PM b len k s e nu M) : PM b len k s e nu (fin190 L v x2 x4 M) := by
  refine ⟨h.1.km fin_k, by rw [fin_5 (by decide)]; exact h.2.1, by rw [fin_5 (by decide)]; exact h.2.2.1, ?_⟩
  unfold TM
  rw [fin_5 (by decide), fin_5 (by decide), fin_5 (by decide), fin_5 (by decide)]
  exact h.2.2.2
def LNO (F : Nat) (b : Nat → Int32) (len : Nat) (c : Sg) (p : Nat) (M2 : Sg) (L : Nat) : Prop := BAD F len c p M2 (L + 1) ∨ NXT F b len c p 0 (fun c2 => BLt c2 M2 (L + 1)) M2
theorem BLt.mk {c M : Sg} {L v : Nat} {x2 x4 : Int32} (h : ILt c M L v) (ha : c 191 1 = 0 → tAct (c 193 L) x2 ∧ x4 = c 194 L ∧ ∃ w, w ≤ 9999 ∧ c 194 L = nn w) : BLt c (fin190 L v x2 x4 M) (L + 1) := by
  obtain ⟨a1, a2, a3, a4, a5, a6⟩ := h
  refine ⟨a1, fin_11 a2, by rw [fin_10]; exact a3, by rw [fin_i (by decide) (by decide)]; exact a4, by rw [fin_i (by decide) (by decide)]; exact a5, fun z => ?_⟩
  obtain ⟨f1, f2, f3, f4, f5⟩ := a6 z
  obtain ⟨g1, g2, g3⟩ := ha z
  have e219 : (fin190 L v x2 x4 M) 219 = up1 (up1 (up1 (M 219) (20 * L + 0) (nn v)) (20 * L + 17) x2) (20 * L + 18) x4 := by
    unfold fin190 fi3 puM
    rw [if_pos f1, if_pos f1, if_pos f1, u2n (by decide), u2e, u2e, u2e]
  refine ⟨by omega, fun i hi => ?_⟩
  rw [e219]
  by_cases y : i = L
  · subst y
    refine ⟨⟨v, f2, f3, ?_, fun t ht => ?_⟩, ?_, ?_, ?_⟩
    · rw [up1_ne (by omega), up1_ne (by omega)]; exact up1_eq
    · obtain ⟨q1, q2, q3, q4, q5⟩ := f5 t ht
      unfold tTest
      rw [up1_ne (show 20 * i + 1 + 4 * t ≠ 20 * i + 18 by omega), up1_ne (show 20 * i + 1 + 4 * t ≠ 20 * i + 17 by omega), up1_ne (show 20 * i + 1 + 4 * t ≠ 20 * i + 0 by omega), up1_ne (show 20 * i + 1 + 4 * t + 1 ≠ 20 * i + 18 by omega), up1_ne (show 20 * i + 1 + 4 * t + 1 ≠ 20 * i + 17 by omega), up1_ne (show 20 * i + 1 + 4 * t + 1 ≠ 20 * i + 0 by omega), up1_ne (show 20 * i + 1 + 4 * t + 2 ≠ 20 * i + 18 by omega), up1_ne (show 20 * i + 1 + 4 * t + 2 ≠ 20 * i + 17 by omega), up1_ne (show 20 * i + 1 + 4 * t + 2 ≠ 20 * i + 0 by omega), up1_ne (show 20 * i + 1 + 4 * t + 3 ≠ 20 * i + 18 by omega), up1_ne (show 20 * i + 1 + 4 * t + 3 ≠ 20 * i + 17 by omega), up1_ne (show 20 * i + 1 + 4 * t + 3 ≠ 20 * i + 0 by omega)]
      exact ⟨q1, q2, q3, q4, q5⟩
    · rw [up1_ne (by omega), up1_eq]; exact g1
    · rw [up1_eq]; exact g2
    · exact g3
  · exact tLine_fr (fun j hj => by rw [up1_ne (by omega), up1_ne (by omega), up1_ne (by omega)]) (f4 i (by omega))
theorem stop_e {b : Nat → Int32} {F len p k s e nu L v : Nat} {x2 x4 : Int32} {c M : Sg} (hV : VB b) (hl : len ≤ 500) (hF : 600 ≤ F) (hp : p ≤ len) (hL : L ≤ 500) (hT : TK F b len p k s e nu) (h32 : c 32 = b) (h4 : c 191 4 = nn p) (h3 : c 191 3 = 8) (hP : PM b len k s e nu M) (hI : ILt c M L v) (ha : c 191 1 = 0 → tAct (c 193 L) x2 ∧ x4 = c 194 L ∧ ∃ w, w ≤ 9999 ∧ c 194 L = nn w) : ∃ M2, m_aLine_190 F (nn v) x2 x4 M = some M2 ∧ KM M M2 ∧ LNO F b len c p M2 L := by
  obtain ⟨c1, r1, r2, r3, r4, r5, r6⟩ := hT.2.2.2.2.2.2.1 c h32 h4
  have hk19 := hT.1
  have g3 : c1 191 3 = 8 := (r2.2 3 (by decide)).trans h3
  have hkM := kMf ⟨k, by omega⟩
  have hgo := go8 g3
  rw [r5] at hgo
  by_cases hk : k = 14
  · have hpe : p < e := by have := hT.2.1; have := hT.2.2.2.2.1 (by omega); omega
    rw [if_pos (by rw [hk]; rfl)] at hgo
    obtain ⟨k2, s2, e2, nu2, M2, T2, m1, m2, m3⟩ := adv hV hl hF hP hT.2.2.2.1
    have hmu : m_must F 59 M = some M2 := by
      unfold m_must
      exact st_f (fun y => y hI.2.2.1) (st_f (by rw [hP.2.2.2.1, hk]; decide) (st_f (by rw [hP.2.2.2.2.2.1 (by omega) (by omega), hk]; decide) (st_b m1 rfl)))
    have I2 : ILt (up2 c1 191 3 0) M2 L v := hI.cg (by rw [up_n (by decide)]; exact r2.2 1 (by decide)) (by rw [up_n (by decide)]; exact r2.2 2 (by decide)) (fun i a b => by rw [u2n (by omega)]; exact r2.1 i (by omega)) (m2.2 10 (by decide)) (m2.2 11 (by decide)) (m2.1 216 (by decide)) (m2.1 219 (by decide))
    refine ⟨_, f190 hmu I2.2.1 (by omega), m2.k.t fin_k, Or.inr ⟨up2 c1 191 3 0, e, k2, s2, e2, nu2, fun r hr => fin_ok hp hl hpe r1 r5 hk19 (Or.inl (by omega)) hgo hr, r2.k.t (KC.w (by decide)), hpe, hT.2.2.2.1, T2, ?_, ?_, up_e, m3.fin, BLt.mk I2 (fun z => ?_)⟩⟩
    · rw [u2n (by decide), r2.1 32 (by decide)]; exact h32
    · rw [up_n (by decide)]; exact r3
    · rw [up_n (by decide), r2.2 1 (by decide)] at z
      rw [u2n (by decide), u2n (by decide), r2.1 193 (by decide), r2.1 194 (by decide)]
      exact ha z
  · rw [if_neg (by rw [nrQ (b := 14) 14 rfl (by omega) (by decide)]; exact hk)] at hgo
    have hmu : m_must F 59 M = some (stp M) := by
      unfold m_must
      refine st_f (fun y => y hI.2.2.1) ?_
      by_cases y1 : 13 ≤ k ∧ k ≤ 17
      · have hsg := sgf ⟨k, by omega⟩ y1.1
        exact st_f (by rw [hP.2.2.2.1]; exact fun y => y (hkM.2.1.mpr y1)) (st_t (by rw [hP.2.2.2.2.2.1 y1.1 y1.2]; exact fun y => hk (hsg.2.1.mp y)) (st_b (stp_e hI.2.2.1) rfl))
      · exact st_t (by rw [hP.2.2.2.1]; exact fun y => y1 (hkM.2.1.mp y)) (st_b (stp_e hI.2.2.1) rfl)
    have hbad := bad_i hp hl r1 r5 hk19 (Or.inr (by rw [g3]; decide)) hgo (by rw [up_n (by decide)]; exact r4) (r2.k.t (KC.w (by decide))) hP.2.2.1 hI.2.1
    have h11 : (stp M) 215 11 = nn L := by unfold stp; rw [u2n (by decide), u2n (by decide), up_n (by decide)]; exact hI.2.1
    exact ⟨_, f190 hmu h11 (by omega), KM.stp.t fin_k, Or.inl hbad.fin⟩
end
section
/-! the statute: the act of a line -/
theorem ILt.w {c M : Sg} {L v a : Nat} {x : Int32} (h : ILt c M L v) (ha : a = 193 ∨ a = 194) : ILt (up2 c a (min L 15) x) M L v := by
  obtain ⟨a1, a2, a3, a4, a5, a6⟩ := h
  refine ⟨by rw [u2n (by omega)]; exact a1, a2, a3, by rw [u2n (by omega)]; exact a4, by rw [u2n (by omega)]; exact a5, fun z => ?_⟩
  rw [u2n (by omega)] at z
  obtain ⟨f1, f2, f3, f4, f5⟩ := a6 z
  rw [u2n (show 195 ≠ a by omega), u2n (show 196 ≠ a by omega), u2n (show 197 ≠ a by omega), u2n (show 198 ≠ a by omega), u2n (show 199 ≠ a by omega)]
  refine ⟨f1, f2, f3, ?_, f5⟩
  unfold LNs
  rw [u2n (show 195 ≠ a by omega), u2n (show 196 ≠ a by omega), u2n (show 197 ≠ a by omega), u2n (show 198 ≠ a by omega), u2n (show 199 ≠ a by omega)]
  intro i hi
  rcases ha with rfl | rfl
  · rw [u2e, u2n (show 194 ≠ 193 by decide)]
    exact tLine_lc (up1_ne (by omega)) rfl rfl (fun t ht => ⟨rfl, rfl, rfl, rfl⟩) (f4 i hi)
  · rw [u2e, u2n (show 193 ≠ 194 by decide)]
    exact tLine_lc rfl (up1_ne (by omega)) rfl (fun t ht => ⟨rfl, rfl, rfl, rfl⟩) (f4 i hi)
theorem nt_215 {K P : Int32} {M : Sg} : (ntM K P M) 215 = M 215 := by
  unfold ntM
  by_cases y : M 216 8 = 0
  · rw [if_pos y, u2n (by decide), u2n (by decide)]
  · rw [if_neg y]
theorem PM.nt {b : Nat → Int32} {len k s e nu : Nat} {K P : Int32} {M : Sg} (h : PM b len k s e nu M) : PM b len k s e nu (ntM K P M) := ⟨h.1.km KM.nt, by rw [nt_215]; exact h.2.1, by rw [nt_215]; exact h.2.2.1, by unfold TM; rw [nt_215]; exact h.2.2.2⟩
theorem ntC_i {K : Int32} {c : Sg} {i : Nat} (a : i ≠ 191) : (ntC K c) i = c i := by
  unfold ntC
  by_cases y : c 191 1 = 0
  · rw [if_pos y, u2n a, u2n a]
  · rw [if_neg y]
theorem ntC_j {K : Int32} {c : Sg} {j : Nat} (a : j ≠ 1) (a2 : j ≠ 2) : (ntC K c) 191 j = c 191 j := by
  unfold ntC
  by_cases y : c 191 1 = 0
  · rw [if_pos y, up_n a2, up_n a]
  · rw [if_neg y]
theorem aL_e {c M : Sg} {L v : Nat} (h : ILt c M L v) : c 192 0 - 1 = nn (min L 15) := by
  rw [h.1, nrS (b := 1) 1 rfl (by omega)]
  congr 1
  omega
theorem aL_w {L : Nat} (g : Sg) : x_within (nn (min L 15)) 0 15 g = some 1 := (within_eq _ _ _ g).trans (congrArg some (if_pos ((rgK (K := 15) (by decide)).mpr ⟨_, by omega, rfl⟩)))
theorem num_e {b : Nat → Int32} {F len p k s e nu L v a : Nat} {c M : Sg} (hV : VB b) (hl : len ≤ 500) (hF : 600 ≤ F) (hp : p ≤ len) (hL : L ≤ 500) (hT : TK F b len p k s e nu) (h32 : c 32 = b) (h4 : c 191 4 = nn p) (h3 : c 191 3 = 7) (hP : PM b len k s e nu M) (hI : ILt c M L v) (ha : a = 4 ∨ a = 5) (h193 : c 193 (min L 15) = nn a) : ∃ M2, Option.bind (m_numbered F M) (fun (x7, g8) => m_aLine_169 F (nn v) (mW a) (nn s) x7 g8) = some M2 ∧ KM M M2 ∧ LNO F b len c p M2 L := by
  obtain ⟨c1, r1, r2, r3, r4, r5, r6⟩ := hT.2.2.2.2.2.2.1 c h32 h4
  have hk19 := hT.1
  have g3 : c1 191 3 = 7 := (r2.2 3 (by decide)).trans h3
  have hkM := kMf ⟨k, by omega⟩
  have I1 : ILt c1 M L v := hI.cg (r2.2 1 (by decide)) (r2.2 2 (by decide)) (fun i a b => r2.1 i (by omega)) rfl rfl rfl rfl
  have hin : inb (nn (min L 15)) 16 = true := by rw [nnB (by omega)]; omega
  have e193 : c1 193 (min L 15) = nn a := by rw [r2.1 193 (by decide)]; exact h193
  by_cases hk : k = 18
  · have hpe : p < e := by have := hT.2.1; have := hT.2.2.2.2.1 (by omega); omega
    have hnu := hT.2.2.2.2.2.1
    obtain ⟨k2, s2, e2, nu2, M2, T2, m1, m2, m3⟩ := adv hV hl hF hP hT.2.2.2.1
    have hnum : m_numbered F M = some (nn nu, M2) := by
      unfold m_numbered
      refine st_l (st_f (fun y => y hI.2.2.1) (st_f (by rw [hP.2.2.2.1, hk]; decide) (st_b m1 ?_)))
      rw [hP.2.2.2.2.2.2 hk]
    have I2 : ILt c1 M2 L v := I1.cg rfl rfl (fun _ _ _ => rfl) (m2.2 10 (by decide)) (m2.2 11 (by decide)) (m2.1 216 (by decide)) (m2.1 219 (by decide))
    obtain ⟨d0, Mn, o1, o2, o3, o4, o5, o6, o7, o8⟩ : ∃ d0 Mn, (∀ r, reader_takeActNumber_58 (nn (min L 15)) d0 = some r → reader_takeActNumber c1 = some r) ∧ m_aLine_169 F (nn v) (mW a) (nn s) (nn nu) M2 = m_aLine_190 F (nn v) (mW a) (nn nu) Mn ∧ ILt d0 Mn L v ∧ (∀ i, i ≠ 191 → d0 i = c1 i) ∧ (∀ j, j ≠ 1 → j ≠ 2 → d0 191 j = c1 191 j) ∧ PM b len k2 s2 e2 nu2 Mn ∧ KM M2 Mn ∧ True := by
      by_cases z : a = 5 ∧ 100 < nu
      · refine ⟨ntC 2 c1, ntM 2 (nn s) M2, fun r hr => ?_, ?_, (I2.nt r4 (by decide)).1, fun i => ntC_i, fun j => ntC_j, m3.nt, KM.nt, trivial⟩
        · unfold reader_takeActNumber
          refine st_l (st_f (by rw [r5, hk]; exact fun y => y rfl) ?_)
          rw [aL_e I1]
          refine st_b (aL_w c1) (st_t (by decide) (st_t hin (st_f ?_ (st_f ?_ (st_b (ntC_e 2 c1) hr)))))
          · rw [nnT (by omega), e193, z.1]; exact fun y => y rfl
          · rw [r6 hk, nrE (b := 100) 100 rfl (by omega) (by decide)]; omega
        · unfold m_aLine_169
          refine st_f (by rw [z.1]; exact fun y => y rfl) (st_f (by rw [nrE (b := 100) 100 rfl (by omega) (by decide)]; omega) ?_)
          rw [ntM_e 2 (nn s) I2.2.2.1]
          rfl
      · refine ⟨c1, M2, fun r hr => ?_, ?_, I2, fun i _ => rfl, fun j _ _ => rfl, m3, KM.r, trivial⟩
        · unfold reader_takeActNumber
          refine st_l (st_f (by rw [r5, hk]; exact fun y => y rfl) ?_)
          rw [aL_e I1]
          refine st_b (aL_w c1) (st_t (by decide) (st_t hin ?_))
          by_cases y : a = 5
          · exact st_f (by rw [nnT (by omega), e193, y]; exact fun y => y rfl) (st_t (by rw [r6 hk, nrE (b := 100) 100 rfl (by omega) (by decide)]; omega) hr)
          · exact st_t (by rw [nnT (by omega), e193, nrQ (b := 5) 5 rfl (by omega) (by decide)]; exact y) hr
        · unfold m_aLine_169
          rcases ha with y | y
          · exact st_t (by rw [y]; decide) rfl
          · exact st_f (by rw [y]; exact fun y => y rfl) (st_t (by rw [nrE (b := 100) 100 rfl (by omega) (by decide)]; omega) rfl)
    obtain ⟨c2, hc2⟩ : ∃ c2, c2 = up2 (up2 d0 194 (min L 15) (d0 191 7)) 191 3 8 := ⟨_, rfl⟩
    have hgo : reader_goesOn c1 = some (1, c2) := go7 g3 (o1 _ (by
      unfold reader_takeActNumber_58
      refine st_t hin (st_l (st_l ?_))
      rw [nnT (by omega), hc2])) (Or.inr rfl)
    have c2i : ∀ i, i ≠ 191 → i ≠ 194 → c2 i = c1 i := fun i x y => by rw [hc2, u2n x, u2n y]; exact o4 i x
    have c2j : ∀ j, j ≠ 3 → c2 191 j = d0 191 j := fun j x => by rw [hc2, up_n x, u2n (by decide)]
    have hI2 : ILt c2 Mn L v := (ILt.w (x := d0 191 7) o3 (Or.inr rfl)).cg (by rw [hc2, up_n (by decide)]) (by rw [hc2, up_n (by decide)]) (fun i x y => by rw [hc2, u2n (by omega)]) rfl rfl rfl rfl
    obtain ⟨M3, n1, n2, n3⟩ := stop_e (c := c2) (M := Mn) (x2 := mW a) (x4 := nn nu) (L := L) (v := v) hV hl hF hT.2.2.2.1 hL T2 (by rw [c2i 32 (by decide) (by decide), r2.1 32 (by decide)]; exact h32) (by rw [c2j 4 (by decide), o5 4 (by decide) (by decide)]; exact r3) (by rw [hc2, up_e]) o6 hI2 (fun z => by
      have hL16 := (hI2.2.2.2.2.2 z).1
      have eL : min L 15 = L := by omega
      rw [eL] at e193 hc2
      rw [c2i 193 (by decide) (by decide), e193, hc2, u2n (by decide), up_e, o5 7 (by decide) (by decide), r6 hk]
      refine ⟨?_, rfl, nu, hnu, rfl⟩
      rcases ha with y | y <;> rw [y]
      · exact Or.inl ⟨rfl, rfl⟩
      · exact Or.inr (Or.inl ⟨rfl, rfl⟩))
    have hfin : ∀ r, FIN F len c2 r e → FIN F len c r p := fun r hr => fin_ok hp hl hpe r1 r5 hk19 (Or.inl (by omega)) hgo hr
    have kc : KC c c2 := fun i x => by rw [c2i i (by omega) (by omega), r2.1 i (by omega)]
    refine ⟨M3, st_b hnum (o2.trans n1), (m2.k.t o7).t n2, ?_⟩
    rcases n3 with z | z
    · exact Or.inl (z.t hfin kc)
    · exact Or.inr (z.t hfin kc (by omega))
  · have hgo := go7 (d := c1) (x := 0) g3 (by
      unfold reader_takeActNumber
      exact st_l (st_t (by rw [r5, nrQ (b := 18) 18 rfl (by omega) (by decide)]; exact hk) rfl)) (Or.inl rfl)
    have hnum : m_numbered F M = some (M 215 7, stp M) := by
      unfold m_numbered
      exact st_l (st_f (fun y => y hI.2.2.1) (st_t (by rw [hP.2.2.2.1]; exact fun y => hk (hkM.1.mp y)) (st_b (stp_e hI.2.2.1) rfl)))
    have hbad := bad_i hp hl r1 r5 hk19 (Or.inr (by rw [g3]; decide)) hgo r4 r2.k hP.2.2.1 hI.2.1
    have h11 : (stp M) 215 11 = nn L := by unfold stp; rw [u2n (by decide), u2n (by decide), up_n (by decide)]; exact hI.2.1
    have h10 : (stp M) 215 10 ≠ 0 := by unfold stp; rw [u2n (by decide), u2n (by decide), up_e]; decide
    refine ⟨_, st_b hnum (?_ : m_aLine_169 F (nn v) (mW a) (nn s) (M 215 7) (stp M) = some (fin190 L v (mW a) (M 215 7) (stp M))), KM.stp.t fin_k, Or.inl hbad.fin⟩
    have h190 := f190 (F := F) (v := v) (x2 := mW a) (x4 := M 215 7) (dd_must h10) h11 (by omega)
    unfold m_aLine_169
    by_cases y : mW a = 21
    · refine st_f (fun x => x y) ?_
      by_cases y2 : M 215 7 ≤ 100
      · exact st_t y2 h190
      · exact st_f y2 (st_b (dd_also h10) h190)
    · exact st_t y h190
theorem act_e {b : Nat → Int32} {F len p k s e nu L v : Nat} {c c1 d M : Sg} (hV : VB b) (hl : len ≤ 500) (hF : 600 ≤ F) (hp : p ≤ len) (hL : L ≤ 500) (hT : TK F b len p k s e nu) (r1 : reader_nextToken F (nn len) c = some c1) (r5 : c1 191 6 = nn k) (hz : k ≠ 19 ∨ c1 191 3 ≠ 0) (d32 : d 32 = b) (d4 : d 191 4 = nn e) (d5 : d 191 5 = nn s) (d6 : d 191 6 = nn k) (dK : KC c d) (hgo : ∀ x d2, reader_takeAct d = some (x, d2) → (x = 0 ∨ x = 1) → reader_goesOn c1 = some (x, d2)) (hP : PM b len k s e nu M) (hI : ILt d M L v) : ∃ M2, m_aLine_107 F (nn v) M = some M2 ∧ KM M M2 ∧ (LNO F b len c p M2 L ∨ BAD F len c p M2 L) := by
  have hk19 := hT.1
  have hkM := kMf ⟨k, by omega⟩
  have hin : inb (nn (min L 15)) 16 = true := by rw [nnB (by omega)]; omega
  obtain ⟨d1, hd1⟩ : ∃ d1, d1 = up2 (up2 d 193 (min L 15) (d 191 6)) 194 (min L 15) 0 := ⟨_, rfl⟩
  have d1i : ∀ i, i ≠ 193 → i ≠ 194 → d1 i = d i := fun i x y => by rw [hd1, u2n y, u2n x]
  have hI1 : ILt d1 M L v := hd1 ▸ (hI.w (Or.inl rfl)).w (Or.inr rfl)
  have hact : reader_takeAct d = some (if 4 ≤ k ∧ k ≤ 6 then 1 else 0, up2 d1 191 3 (if k = 6 then 8 else 7)) := by
    have h60 : ∀ s0 : Int32, reader_takeAct_60 s0 d1 = some (if 4 ≤ k ∧ k ≤ 6 then 1 else 0, up2 d1 191 3 s0) := fun s0 => by
      unfold reader_takeAct_60
      refine st_l ?_
      rw [up_n (show 6 ≠ 3 by decide), d1i 191 (by decide) (by decide), d6]
      by_cases z1 : k = 4
      · subst z1; exact st_t rfl rfl
      refine st_f (by rw [nrQ (b := 4) 4 rfl (by omega) (by decide)]; exact z1) ?_
      by_cases z2 : k = 5
      · subst z2; exact st_t rfl rfl
      refine st_f (by rw [nrQ (b := 5) 5 rfl (by omega) (by decide)]; exact z2) ?_
      by_cases z3 : k = 6
      · subst z3; exact st_f (fun y => y rfl) rfl
      · rw [if_neg (show ¬ (4 ≤ k ∧ k ≤ 6) by omega)]
        exact st_t (by rw [nrQ (b := 6) 6 rfl (by omega) (by decide)]; exact z3) rfl
    unfold reader_takeAct
    refine st_l ?_
    rw [aL_e hI]
    refine st_b (aL_w d) (st_f (by decide) (st_t hin (st_l (st_t hin (st_l ?_)))))
    rw [nnT (by omega), ← hd1]
    unfold reader_takeAct_43
    rw [d1i 191 (by decide) (by decide), d6]
    by_cases z : k = 6
    · rw [if_pos z]
      exact st_f (by rw [z]; exact fun y => y rfl) (h60 8)
    · rw [if_neg z]
      exact st_t (by rw [nrQ (b := 6) 6 rfl (by omega) (by decide)]; exact z) (h60 7)
  have hgo := hgo _ _ hact (by split <;> decide)
  have h10 : ¬ ¬ M 215 10 = 0 := fun y => y hI.2.2.1
  by_cases hk : 4 ≤ k ∧ k ≤ 6
  · rw [if_pos hk] at hgo
    have hmw := mWf ⟨k, by omega⟩
    have hpe : p < e := by have := hT.2.1; have := hT.2.2.2.2.1 (by omega); omega
    obtain ⟨k2, s2, e2, nu2, M2, T2, m1, m2, m3⟩ := adv hV hl hF hP hT.2.2.2.1
    have h9 : M 215 9 = mW k := hP.2.2.2.2.1 (by omega) (by omega)
    have hin2 : m_isIn (M 215 9) 20 22 M = some 1 := (isIn_eq _ _ _ _).trans (congrArg some (if_pos (by rw [h9]; exact hmw.2.2.2.1.mpr hk)))
    obtain ⟨c2, hc2⟩ : ∃ c2, c2 = up2 d1 191 3 (if k = 6 then 8 else 7) := ⟨_, rfl⟩
    rw [← hc2] at hgo
    have c2i : ∀ i, i ≠ 191 → c2 i = d1 i := fun i x => by rw [hc2, u2n x]
    have c2j : ∀ j, j ≠ 3 → c2 191 j = d 191 j := fun j x => by rw [hc2, up_n x, d1i 191 (by decide) (by decide)]
    have hfin : ∀ r, FIN F len c2 r e → FIN F len c r p := fun r hr => fin_ok hp hl hpe r1 r5 hk19 hz hgo hr
    have kc : KC c c2 := fun i x => by rw [c2i i (by omega), d1i i (by omega) (by omega)]; exact dK i x
    have hI2 : ILt c2 M2 L v := hI1.cg (by rw [hc2, up_n (by decide)]) (by rw [hc2, up_n (by decide)]) (fun i x y => c2i i (by omega)) (m2.2 10 (by decide)) (m2.2 11 (by decide)) (m2.1 216 (by decide)) (m2.1 219 (by decide))
    have c232 : c2 32 = b := by rw [c2i 32 (by decide), d1i 32 (by decide) (by decide)]; exact d32
    have c24 : c2 191 4 = nn e := (c2j 4 (by decide)).trans d4
    have m5 : M2 215 5 = nn s2 := m3.2.2.1
    have c193 : c2 193 (min L 15) = nn k := by rw [c2i 193 (by decide), hd1, u2n (by decide), up_e]; exact d6
    have c194 : c2 194 (min L 15) = 0 := by rw [c2i 194 (by decide), hd1, up_e]
    by_cases h6 : k = 6
    · rw [if_pos h6] at hc2
      obtain ⟨M3, n1, n2, n3⟩ := stop_e (c := c2) (M := M2) (x2 := mW k) (x4 := 0) (L := L) (v := v) hV hl hF hT.2.2.2.1 hL T2 c232 c24 (by rw [hc2, up_e]) m3 hI2 (fun z => by
        have hL16 := (hI2.2.2.2.2.2 z).1
        rw [show min L 15 = L by omega] at c193 c194
        rw [c193, c194, h6]
        exact ⟨Or.inr (Or.inr ⟨rfl, rfl⟩), rfl, 0, by decide, rfl⟩)
      refine ⟨M3, ?_, m2.k.t n2, ?_⟩
      · unfold m_aLine_107
        refine st_f h10 (st_f (by rw [hP.2.2.2.1]; exact fun y => y (hkM.2.2.1.mpr (show 1 ≤ k ∧ k ≤ 12 by omega))) (st_b hin2 (st_t (by decide) (st_l (st_b m1 (st_l ?_))))))
        rw [h9]
        refine st_f (fun y => y (hmw.2.2.2.2.2.1.mpr h6)) ?_
        unfold m_aLine_169
        exact st_t (by rw [h6]; decide) n1
      · rcases n3 with z | z
        · exact Or.inl (Or.inl (z.t hfin kc))
        · exact Or.inl (Or.inr (z.t hfin kc (by omega)))
    · rw [if_neg h6] at hc2
      obtain ⟨M3, n1, n2, n3⟩ := num_e (c := c2) (M := M2) (a := k) (L := L) (v := v) hV hl hF hT.2.2.2.1 hL T2 c232 c24 (by rw [hc2, up_e]) m3 hI2 (by omega) c193
      refine ⟨M3, ?_, m2.k.t n2, ?_⟩
      · unfold m_aLine_107
        refine st_f h10 (st_f (by rw [hP.2.2.2.1]; exact fun y => y (hkM.2.2.1.mpr (show 1 ≤ k ∧ k ≤ 12 by omega))) (st_b hin2 (st_t (by decide) (st_l (st_b m1 (st_l ?_))))))
        rw [h9, m5]
        exact st_t (fun y => h6 (hmw.2.2.2.2.2.1.mp y)) n1
      · rcases n3 with z | z
        · exact Or.inl (Or.inl (z.t hfin kc))
        · exact Or.inl (Or.inr (z.t hfin kc (by omega)))
  · rw [if_neg hk] at hgo
    refine ⟨stp M, ?_, KM.stp, Or.inr (bad_i hp hl r1 r5 hk19 hz hgo (by rw [up_n (by decide), d1i 191 (by decide) (by decide)]; exact d5) (fun i x => by rw [u2n (by omega), d1i i (by omega) (by omega)]; exact dK i x) hP.2.2.1 hI.2.1)⟩
    unfold m_aLine_107
    refine st_f h10 ?_
    have hst := stp_e hI.2.2.1
    by_cases y1 : 1 ≤ k ∧ k ≤ 12
    · have hmw := mWf ⟨k, by omega⟩
      refine st_f (by rw [hP.2.2.2.1]; exact fun y => y (hkM.2.2.1.mpr y1)) (st_b ((isIn_eq _ _ _ _).trans (congrArg some (if_neg ?_))) (st_f (by decide) (st_b hst rfl)))
      rw [hP.2.2.2.2.1 y1.1 y1.2]
      exact fun y => hk (hmw.2.2.2.1.mp y)
    · exact st_t (by rw [hP.2.2.2.1]; exact fun y => y1 (hkM.2.2.1.mp y)) (st_b hst rfl)
end
section
/-! the statute: lines -/
theorem cp55L {F L v : Nat} {kk : Int32 → Int32 → Sg → Option Sg} (hL : L ≤ 1000) (hv : v ≤ 3) : ∀ m j n M, j + m = 4 → m < n → M 215 11 = nn L → ∃ M2 : Sg, m_aLine_55 F kk n (nn v) (nn j) M = Option.bind (m_takes F 31 M2) (fun (x1, g2) => kk (nn v + 1) x1 g2) ∧ KM M M2 ∧ (∀ i, i ≠ 219 → M2 i = M i) ∧ (L < 16 → (∀ i, (i < 20 * L + 1 + 4 * v + j ∨ 20 * L + 1 + 4 * v + 4 ≤ i) → M2 219 i = M 219 i) ∧ ∀ i, j ≤ i → i < 4 → M2 219 (20 * L + 1 + 4 * v + i) = M 220 i)
  | 0, j, n, M, h, hn, h11 => by
    obtain ⟨n, rfl⟩ : ∃ k, n = k + 1 := ⟨n - 1, by omega⟩
    refine ⟨M, ?_, KM.r, fun _ _ => rfl, fun _ => ⟨fun _ _ => rfl, fun i a b => absurd a (by omega)⟩⟩
    rw [m_aLine_55]
    exact st_t (by rw [nlE (a := 4) 4 rfl (by decide) (by omega)]; omega) rfl
  | m + 1, j, n, M, h, hn, h11 => by
    obtain ⟨n, rfl⟩ : ∃ k, n = k + 1 := ⟨n - 1, by omega⟩
    have hpu := puM_e (L := L) (v := 1 + 4 * v + j) (x := M 220 j) h11 hL (by omega)
    obtain ⟨M2, e1, e2, e3, e4⟩ := cp55L (F := F) (kk := kk) hL hv m (j + 1) n (puM L (1 + 4 * v + j) (M 220 j) M) (by omega) (by omega) (by rw [puM_i (by decide)]; exact h11)
    refine ⟨M2, ?_, KM.pu.t e2, fun i a => (e3 i a).trans (puM_i a), fun hL2 => ?_⟩
    · rw [m_aLine_55]
      refine st_f (by rw [nlE (a := 4) 4 rfl (by decide) (by omega)]; omega) (st_f (by rw [nlE (a := 4) 4 rfl (by decide) (by omega)]; omega) (st_t (by rw [nnB (by omega)]; omega) ?_))
      rw [show (1 + 4 * nn v) + nn j = nn (1 + 4 * v + j) from (congrArg (fun z => 1 + z + nn j) (nnM 4 v)).trans ((congrArg (· + nn j) (nnA 1 (4 * v))).trans (nnA _ _)), nnT (show j < 2147483648 by omega)]
      refine st_b hpu ?_
      rw [show nn j + 1 = nn (j + 1) from nnA j 1]
      exact e1
    · obtain ⟨f1, f2⟩ := e4 hL2
      have hp219 : (puM L (1 + 4 * v + j) (M 220 j) M) 219 = up1 (M 219) (20 * L + (1 + 4 * v + j)) (M 220 j) := by unfold puM; rw [if_pos hL2, u2e]
      refine ⟨fun i hi => ?_, fun i a b => ?_⟩
      · rw [f1 i (by omega), hp219, up1_ne (by omega)]
      · by_cases y : i = j
        · subst y
          rw [f1 _ (by omega), hp219, show 20 * L + 1 + 4 * v + i = 20 * L + (1 + 4 * v + i) by omega, up1_eq]
        · rw [f2 i (by omega) b, puM_i (by decide)]
theorem cp55 {F L v n : Nat} {kk : Int32 → Int32 → Sg → Option Sg} {M : Sg} (hL : L ≤ 1000) (hv : v ≤ 1000) (hn : 5 ≤ n) (h11 : M 215 11 = nn L) : ∃ M2 : Sg, m_aLine_55 F kk n (nn v) 0 M = Option.bind (m_takes F 31 M2) (fun (x1, g2) => kk (nn (v + 1)) x1 g2) ∧ KM M M2 ∧ (∀ i, i ≠ 219 → M2 i = M i) ∧ (v ≤ 3 → L < 16 → (∀ i, (i < 20 * L + 1 + 4 * v ∨ 20 * L + 1 + 4 * v + 4 ≤ i) → M2 219 i = M 219 i) ∧ ∀ i, i < 4 → M2 219 (20 * L + 1 + 4 * v + i) = M 220 i) := by
  have e1 : nn v + 1 = nn (v + 1) := nnA v 1
  by_cases z : v ≤ 3
  · obtain ⟨M2, a1, a2, a3, a4⟩ := cp55L (F := F) (kk := kk) (L := L) (v := v) hL z 4 0 n M (by omega) (by omega) h11
    rw [e1] at a1
    exact ⟨M2, a1, a2, a3, fun _ y => ⟨fun i hi => (a4 y).1 i (by omega), fun i hi => (a4 y).2 i (by omega) hi⟩⟩
  · obtain ⟨n, rfl⟩ : ∃ k, n = k + 1 := ⟨n - 1, by omega⟩
    refine ⟨M, ?_, KM.r, fun _ _ => rfl, fun y => absurd y z⟩
    rw [m_aLine_55, ← e1]
    exact st_f (by decide) (st_t (by rw [nlE (a := 4) 4 rfl (by decide) (by omega)]; omega) rfl)
theorem IT5.up {c M M2 : Sg} {L v : Nat} (h : IT5 c M L v) (h1 : ∀ i, i ≠ 219 → M2 i = M i) (h2 : v ≤ 3 → L < 16 → (∀ i, (i < 20 * L + 1 + 4 * v ∨ 20 * L + 1 + 4 * v + 4 ≤ i) → M2 219 i = M 219 i) ∧ ∀ i, i < 4 → M2 219 (20 * L + 1 + 4 * v + i) = M 220 i) : ILt c M2 L (v + 1) := by
  obtain ⟨a1, a2, a3, a4, a5, a6⟩ := h
  refine ⟨a1, by rw [h1 215 (by decide)]; exact a2, by rw [h1 215 (by decide)]; exact a3, by rw [h1 216 (by decide)]; exact a4, by rw [h1 216 (by decide)]; exact a5, fun z => ?_⟩
  obtain ⟨f1, f2, f3, f4, f5, f6⟩ := a6 z
  obtain ⟨g1, g2⟩ := h2 (by omega) f1
  refine ⟨f1, by omega, f3, fun i hi => tLine_fr (fun j hj => g1 _ (by omega)) (f4 i hi), fun t ht => ?_⟩
  by_cases y : t = v
  · subst y
    obtain ⟨q1, q2, ⟨w, w1, w2, w3, w4⟩, q4, q5⟩ := f6
    have k0 := g2 0 (by decide)
    have k1 := g2 1 (by decide)
    have k2 := g2 2 (by decide)
    have k3 := g2 3 (by decide)
    exact ⟨q1, k0.trans q2, ⟨w, w1, w2, w3, k1.trans w4⟩, by rw [k2]; exact q4, k3.trans q5⟩
  · obtain ⟨q1, q2, q3, q4, q5⟩ := f5 t (by omega)
    unfold tTest
    rw [g1 (20 * L + 1 + 4 * t) (by omega), g1 (20 * L + 1 + 4 * t + 1) (by omega), g1 (20 * L + 1 + 4 * t + 2) (by omega), g1 (20 * L + 1 + 4 * t + 3) (by omega)]
    exact ⟨q1, q2, q3, q4, q5⟩
end
section
/-! the statute: the tests of a line; a line; all lines -/
theorem tk_n {b : Nat → Int32} {F len k s e nu : Nat} {x : Int32} {M : Sg} (hk19 : k ≤ 19) (hP : PM b len k s e nu M) (h10 : M 215 10 = 0) (h : 1 ≤ k → k ≤ 12 → mW k ≠ x) : m_takes F x M = some (0, M) := by
  have hkM := kMf ⟨k, by omega⟩
  unfold m_takes
  refine st_f (fun y => y h10) ?_
  by_cases y1 : 1 ≤ k ∧ k ≤ 12
  · exact st_f (by rw [hP.2.2.2.1]; exact fun y => y (hkM.2.2.1.mpr y1)) (st_f (by rw [hP.2.2.2.2.1 y1.1 y1.2]; exact h y1.1 y1.2) rfl)
  · exact st_t (by rw [hP.2.2.2.1]; exact fun y => y1 (hkM.2.2.1.mp y)) rfl
theorem tk_y {b : Nat → Int32} {F len k s e nu : Nat} {x : Int32} {M M2 : Sg} (hP : PM b len k s e nu M) (h10 : M 215 10 = 0) (h1 : 1 ≤ k) (h2 : k ≤ 12) (h : mW k = x) (hm : m_advance F M = some M2) : m_takes F x M = some (1, M2) := by
  have hkM := kMf ⟨k, by omega⟩
  unfold m_takes
  exact st_f (fun y => y h10) (st_f (by rw [hP.2.2.2.1]; exact fun y => y (hkM.2.2.1.mpr ⟨h1, h2⟩)) (st_t (by rw [hP.2.2.2.2.1 h1 h2]; exact h) (st_b hm rfl)))
theorem and_e {c1 : Sg} {k : Nat} (hk19 : k ≤ 19) (r5 : c1 191 6 = nn k) : reader_takeAnd c1 = some (if k = 2 ∨ k = 13 then 1 else 0, up2 c1 191 3 (if k = 2 then 1 else 6)) := by
  unfold reader_takeAnd
  by_cases z : k = 2
  · rw [if_pos z, if_pos (Or.inl z)]
    refine st_f (by rw [r5, z]; exact fun y => y rfl) ?_
    unfold reader_takeAnd_15
    exact st_l (st_t (by rw [up_n (by decide), r5, z]; rfl) rfl)
  · rw [if_neg z]
    refine st_t (by rw [r5, nrQ (b := 2) 2 rfl (by omega) (by decide)]; exact z) ?_
    unfold reader_takeAnd_15
    refine st_l (st_f (by rw [up_n (by decide), r5, nrQ (b := 2) 2 rfl (by omega) (by decide)]; exact z) ?_)
    by_cases y : k = 13
    · rw [if_pos (Or.inr y)]
      exact st_f (by rw [up_n (by decide), r5, y]; exact fun y => y rfl) rfl
    · rw [if_neg (show ¬ (k = 2 ∨ k = 13) by omega)]
      exact st_t (by rw [up_n (by decide), r5, nrQ (b := 13) 13 rfl (by omega) (by decide)]; exact y) rfl
theorem tests_e {b : Nat → Int32} {F len L : Nat} (hV : VB b) (hl : len ≤ 500) (hF : 600 ≤ F) (hL : L ≤ 500) : ∀ n p k s e nu v (c M : Sg), len - p + 1 < n → p ≤ len → v ≤ p → TK F b len p k s e nu → c 32 = b → c 191 4 = nn p → c 191 3 = 1 → PM b len k s e nu M → ILt c M L v → ∃ M2, m_aLine_31 F n (nn v) 1 M = some M2 ∧ KM M M2 ∧ (LNO F b len c p M2 L ∨ BAD F len c p M2 L) := by
  intro n
  induction n with
  | zero => intro p k s e nu v c M hn; omega
  | succ n ih =>
    intro p k s e nu v c M hn hp hvp hT h32 h4 h3 hP hI
    obtain ⟨M2, t1, t2, t3⟩ := test_e hV hl hF hp hT h32 h4 h3 hP hI
    have h31 : ∀ R, m_aLine_55 F (fun v1 v2 g0 => m_aLine_31 F n v1 v2 g0) F (nn v) 0 M2 = R → m_aLine_31 F (n + 1) (nn v) 1 M = R := by
      intro R hR
      rw [m_aLine_31]
      refine st_f (by decide) ?_
      unfold mnn at t1
      by_cases z : v ≤ 3
      · rw [if_pos z] at t1
        exact st_t (by rw [nrE (b := 3) 3 rfl (by omega) (by decide)]; exact z) (st_b t1 hR)
      · rw [if_neg z] at t1
        refine st_f (by rw [nrE (b := 3) 3 rfl (by omega) (by decide)]; exact z) ?_
        rw [hP.2.2.1]
        exact st_b (ntM_e 3 (nn s) hI.2.2.1) (st_b t1 hR)
    obtain ⟨n, rfl⟩ : ∃ k, n = k + 1 := ⟨n - 1, by omega⟩
    rcases t3 with z | z
    · have h11 : M2 215 11 = nn L := by obtain ⟨r, s', b1, b2, b3, b4, b5, b6, b7, b8⟩ := z; exact b6
      have h10 : M2 215 10 ≠ 0 := by obtain ⟨r, s', b1, b2, b3, b4, b5, b6, b7, b8⟩ := z; exact b5
      obtain ⟨M3, u1, u2, u3, u4⟩ := cp55 (F := F) (L := L) (v := v) (n := F) (kk := fun v1 v2 g0 => m_aLine_31 F (n + 1) v1 v2 g0) (M := M2) (by omega) (by omega) (by omega) h11
      have h103 : M3 215 10 ≠ 0 := by rw [u3 215 (by decide)]; exact h10
      refine ⟨M3, h31 _ (u1.trans (st_b (dd_takes h103) ?_)), t2.t u2, Or.inr (z.cg (by rw [u3 215 (by decide)]) (by rw [u3 215 (by decide)]) (u3 216 (by decide)))⟩
      show m_aLine_31 F (n + 1) (nn (v + 1)) 0 M3 = some M3
      rw [m_aLine_31]
      exact st_t rfl (st_b (dd_must h103) (dd_107 h103))
    · obtain ⟨c2, p2, k2, s2, e2, nu2, z1, z2, z3, z4, z5, z6, z7, z8, z9, z10⟩ := z
      obtain ⟨M3, u1, u2, u3, u4⟩ := cp55 (F := F) (L := L) (v := v) (n := F) (kk := fun v1 v2 g0 => m_aLine_31 F (n + 1) v1 v2 g0) (M := M2) (by omega) (by omega) (by omega) z10.2.1
      have I3 : ILt c2 M3 L (v + 1) := IT5.up z10 u3 u4
      have P3 : PM b len k2 s2 e2 nu2 M3 := z9.cg (u3 215 (by decide)) (u3 216 (by decide))
      obtain ⟨c1, r1, r2, r3, r4, r5, r6⟩ := z5.2.2.2.2.2.2.1 c2 z6 z7
      have hk19 := z5.1
      have g3 : c1 191 3 = 5 := (r2.2 3 (by decide)).trans z8
      have hgo := go5 g3 (and_e hk19 r5) (by split <;> decide)
      obtain ⟨c3, hc3⟩ : ∃ c3, c3 = up2 c1 191 3 (if k2 = 2 then 1 else 6) := ⟨_, rfl⟩
      rw [← hc3] at hgo
      have c3i : ∀ i, i ≠ 191 → c3 i = c1 i := fun i x => by rw [hc3, u2n x]
      have c3j : ∀ j, j ≠ 3 → c3 191 j = c1 191 j := fun j x => by rw [hc3, up_n x]
      have kc3 : KC c2 c3 := fun i x => by rw [c3i i (by omega), r2.1 i (by omega)]
      have I3c : ∀ M4 : Sg, StM M3 M4 → ILt c3 M4 L (v + 1) := fun M4 m2 => I3.cg (by rw [c3j 1 (by decide), r2.2 1 (by decide)]) (by rw [c3j 2 (by decide), r2.2 2 (by decide)]) (fun i x y => by rw [c3i i (by omega), r2.1 i (by omega)]) (m2.2 10 (by decide)) (m2.2 11 (by decide)) (m2.1 216 (by decide)) (m2.1 219 (by decide))
      have c332 : c3 32 = b := by rw [c3i 32 (by decide), r2.1 32 (by decide)]; exact z6
      have c34 : c3 191 4 = nn e2 := (c3j 4 (by decide)).trans r3
      have h103 : M3 215 10 = 0 := I3.2.2.1
      by_cases hk : k2 = 2 ∨ k2 = 13
      · rw [if_pos hk] at hgo
        have hpe : p2 < e2 := by have := z5.2.1; have := z5.2.2.2.2.1 (by omega); omega
        obtain ⟨k4, s4, e4, nu4, M4, T4, m1, m2, m3⟩ := adv hV hl hF P3 z5.2.2.2.1
        have hfin : ∀ r, FIN F len c3 r e2 → FIN F len c r p := fun r hr => z1 r (fin_ok z4 hl hpe r1 r5 hk19 (Or.inl (by omega)) hgo hr)
        have kc : KC c c3 := z2.t kc3
        by_cases h2 : k2 = 2
        · rw [if_pos h2] at hc3
          obtain ⟨M5, w1, w2, w3⟩ := ih e2 k4 s4 e4 nu4 (v + 1) c3 M4 (by have := z5.2.2.2.1; omega) z5.2.2.2.1 (by omega) T4 c332 c34 (by rw [hc3, up_e]) m3 (I3c M4 m2)
          refine ⟨M5, h31 _ (u1.trans (st_b (tk_y P3 h103 (by omega) (by omega) (by rw [h2]; rfl) m1) w1)), ((t2.t u2).t m2.k).t w2, ?_⟩
          rcases w3 with (x | x) | x
          · exact Or.inl (Or.inl (x.t hfin kc))
          · exact Or.inl (Or.inr (x.t hfin kc (by omega)))
          · exact Or.inr (x.t hfin kc)
        · rw [if_neg h2] at hc3
          have h13 : k2 = 13 := by omega
          obtain ⟨d, y1, y2, y3, y4, y5, y6⟩ := T4.2.2.2.2.2.2.1 c3 c332 c34
          have y33 : d 191 3 = 6 := by rw [y2.2 3 (by decide), hc3, up_e]
          obtain ⟨M5, w1, w2, w3⟩ := act_e (c := c3) (c1 := d) (d := d) (M := M4) (L := L) (v := v + 1) hV hl hF z5.2.2.2.1 hL T4 y1 y5 (Or.inr (by rw [y33]; decide)) (by rw [y2.1 32 (by decide)]; exact c332) y3 y4 y5 y2.k (fun x d2 a b => go6 y33 a b) m3 ((I3c M4 m2).cg (y2.2 1 (by decide)) (y2.2 2 (by decide)) (fun i x y => y2.1 i (by omega)) rfl rfl rfl rfl)
          have hmu : m_must F 58 M3 = some M4 := by
            unfold m_must
            exact st_f (fun y => y h103) (st_f (by rw [P3.2.2.2.1, h13]; decide) (st_f (by rw [P3.2.2.2.2.2.1 (by omega) (by omega), h13]; decide) (st_b m1 rfl)))
          refine ⟨M5, h31 _ (u1.trans (st_b (tk_n hk19 P3 h103 (fun _ x => by omega)) ?_)), ((t2.t u2).t m2.k).t w2, ?_⟩
          · show m_aLine_31 F (n + 1) (nn (v + 1)) 0 M3 = some M5
            rw [m_aLine_31]
            exact st_t rfl (st_b hmu w1)
          · rcases w3 with (x | x) | x
            · exact Or.inl (Or.inl (x.t hfin kc))
            · exact Or.inl (Or.inr (x.t hfin kc (by omega)))
            · exact Or.inr (x.t hfin kc)
      · rw [if_neg hk] at hgo
        have hkM := kMf ⟨k2, by omega⟩
        have hbad := bad_i z4 hl r1 r5 hk19 (Or.inr (by rw [g3]; decide)) hgo (by rw [c3j 5 (by decide)]; exact r4) kc3 P3.2.2.1 I3.2.1
        have h10s : (stp M3) 215 10 ≠ 0 := by unfold stp; rw [u2n (by decide), u2n (by decide), up_e]; decide
        have hmu : m_must F 58 M3 = some (stp M3) := by
          unfold m_must
          refine st_f (fun y => y h103) ?_
          by_cases y1 : 13 ≤ k2 ∧ k2 ≤ 17
          · have hsg := sgf ⟨k2, by omega⟩ y1.1
            exact st_f (by rw [P3.2.2.2.1]; exact fun y => y (hkM.2.1.mpr y1)) (st_t (by rw [P3.2.2.2.2.2.1 y1.1 y1.2]; exact fun y => hk (Or.inr (hsg.1.mp y))) (st_b (stp_e h103) rfl))
          · exact st_t (by rw [P3.2.2.2.1]; exact fun y => y1 (hkM.2.1.mp y)) (st_b (stp_e h103) rfl)
        refine ⟨stp M3, h31 _ (u1.trans (st_b (tk_n hk19 P3 h103 (fun x y => ?_)) ?_)), (t2.t u2).t KM.stp, Or.inr (hbad.t z1 z2)⟩
        · have hmw := mWf ⟨k2, by omega⟩
          exact fun q => hk (Or.inl (hmw.2.1.mp q))
        · show m_aLine_31 F (n + 1) (nn (v + 1)) 0 M3 = some (stp M3)
          rw [m_aLine_31]
          exact st_t rfl (st_b hmu (dd_107 h10s))
theorem BLt.nt {c M : Sg} {L v2 s : Nat} {K : Int32} (h : BLt c M L) (hL : 16 ≤ L) (h5 : c 191 5 = nn s) (hK : K ≠ 0) : ILt (ntC K c) (ntM K (nn s) M) L v2 := by
  obtain ⟨a1, a2, a3, a4, a5, a6⟩ := h
  rw [show min L 16 = min (L + 1) 16 by omega] at a1
  unfold ntC ntM
  by_cases z : c 191 1 = 0
  · rw [if_pos z, if_pos (a4.symm.trans z)]
    have e1 : (up2 (up2 c 191 1 K) 191 2 (c 191 5)) 191 1 = K := by rw [up_n (by decide), up_e]
    have e2 : (up2 (up2 M 216 8 K) 216 9 (nn s)) 216 8 = K := by rw [up_n (by decide), up_e]
    refine ⟨?_, ?_, ?_, e1.trans e2.symm, ?_, fun y => absurd (e1.symm.trans y) hK⟩
    · rw [u2n (by decide), u2n (by decide)]; exact a1
    · rw [u2n (by decide), u2n (by decide)]; exact a2
    · rw [u2n (by decide), u2n (by decide)]; exact a3
    · rw [up_e, up_e]; exact h5
  · rw [if_neg z, if_neg (fun y => z (a4.trans y))]
    exact ⟨a1, a2, a3, a4, a5, fun y => absurd y z⟩
theorem line_e {b : Nat → Int32} {F len p k s e nu L : Nat} {c M : Sg} (hV : VB b) (hl : len ≤ 500) (hF : 600 ≤ F) (hp : p ≤ len) (hL : L ≤ p) (hT : TK F b len p k s e nu) (h32 : c 32 = b) (h4 : c 191 4 = nn p) (h3 : c 191 3 = 0) (hk : k ≠ 19) (hP : PM b len k s e nu M) (hB : BLt c M L) : ∃ M2, m_aLine F M = some M2 ∧ KM M M2 ∧ (LNO F b len c p M2 L ∨ BAD F len c p M2 L) := by
  obtain ⟨c1, r1, r2, r3, r4, r5, r6⟩ := hT.2.2.2.2.2.2.1 c h32 h4
  have hk19 := hT.1
  have hpe : p < e := by have := hT.2.1; have := hT.2.2.2.2.1 hk; omega
  have g3 : c1 191 3 = 0 := (r2.2 3 (by decide)).trans h3
  have B1 : BLt c1 M L := hB.cg (r2.2 1 (by decide)) (r2.2 2 (by decide)) (fun i a b => r2.1 i (by omega)) rfl rfl rfl rfl
  obtain ⟨d0, Mn, o1, o2, o3, o4, o5, o6, o7⟩ : ∃ d0 Mn, (∀ r, reader_beginLine_49 d0 = some r → reader_beginLine c1 = some r) ∧ (∀ r, m_aLine_18 F Mn = some r → m_aLine F M = some r) ∧ ILt d0 Mn L 0 ∧ KC c1 d0 ∧ (∀ j, j ≠ 1 → j ≠ 2 → d0 191 j = c1 191 j) ∧ PM b len k s e nu Mn ∧ KM M Mn := by
    by_cases z : L < 16
    · have e192 : c1 192 0 = nn L := by rw [B1.1]; congr 1; omega
      refine ⟨up2 (up2 c1 195 L 0) 192 0 ((up2 c1 195 L 0) 192 0 + 1), M, fun r hr => ?_, fun r hr => ?_, ⟨?_, B1.2.1, B1.2.2.1, ?_, ?_, fun y => ?_⟩, (KC.w (by decide)).t (KC.w (by decide)), fun j _ _ => by rw [u2n (by decide), u2n (by decide)], hP, KM.r⟩
      · unfold reader_beginLine
        rw [e192]
        refine st_f (by rw [nlE (a := 16) 16 rfl (by decide) (by omega)]; omega) (st_t (by rw [nnB (by omega)]; exact z) (st_l (st_l ?_)))
        rw [nnT (by omega)]
        exact hr
      · unfold m_aLine
        rw [B1.2.1]
        exact st_t (by rw [show (16 : Int32) = nn 16 from rfl, nnL (by omega) (by decide)]; exact z) hr
      · rw [up_e, u2n (by decide), e192, show min (L + 1) 16 = L + 1 by omega]; exact nnA L 1
      · rw [u2n (by decide), u2n (by decide)]; exact B1.2.2.2.1
      · rw [u2n (by decide), u2n (by decide)]; exact B1.2.2.2.2.1
      · rw [u2n (by decide), u2n (by decide)] at y
        obtain ⟨f1, f2⟩ := B1.2.2.2.2.2 y
        refine ⟨z, by decide, by rw [u2n (by decide), up_e]; rfl, ?_, fun t ht => absurd ht (by omega)⟩
        unfold LNs
        intro i hi
        rw [u2n (show 193 ≠ 192 by decide), u2n (show 194 ≠ 192 by decide), u2n (show 195 ≠ 192 by decide), u2n (show 196 ≠ 192 by decide), u2n (show 197 ≠ 192 by decide), u2n (show 198 ≠ 192 by decide), u2n (show 199 ≠ 192 by decide), u2n (show 193 ≠ 195 by decide), u2n (show 194 ≠ 195 by decide), u2n (show 196 ≠ 195 by decide), u2n (show 197 ≠ 195 by decide), u2n (show 198 ≠ 195 by decide), u2n (show 199 ≠ 195 by decide), u2e]
        exact tLine_lc rfl rfl (up1_ne (by omega)) (fun t ht => ⟨rfl, rfl, rfl, rfl⟩) (f2 i hi)
    · refine ⟨ntC 3 c1, ntM 3 (nn s) M, fun r hr => ?_, fun r hr => ?_, B1.nt (by omega) r4 (by decide), fun i a => ntC_i (by omega), fun j => ntC_j, hP.nt, KM.nt⟩
      · unfold reader_beginLine
        rw [B1.1]
        exact st_t (by rw [nlE (a := 16) 16 rfl (by decide) (by omega)]; omega) (st_b (ntC_e 3 c1) hr)
      · unfold m_aLine
        rw [B1.2.1, hP.2.2.1]
        exact st_f (by rw [show (16 : Int32) = nn 16 from rfl, nnL (by omega) (by decide)]; exact z) (st_b (ntM_e 3 (nn s) B1.2.2.1) hr)
  have d6 : d0 191 6 = nn k := (o5 6 (by decide) (by decide)).trans r5
  have d4 : d0 191 4 = nn e := (o5 4 (by decide) (by decide)).trans r3
  have d5 : d0 191 5 = nn s := (o5 5 (by decide) (by decide)).trans r4
  have d32 : d0 32 = b := by rw [o4 32 (by decide), r2.1 32 (by decide)]; exact h32
  have dK : KC c d0 := r2.k.t o4
  by_cases h1 : k = 1
  · obtain ⟨k4, s4, e4, nu4, M4, T4, m1, m2, m3⟩ := adv hV hl hF o6 hT.2.2.2.1
    have hgo : reader_goesOn c1 = some (1, up2 d0 191 3 1) := go0 g3 (o1 _ (by
      unfold reader_beginLine_49
      exact st_f (by rw [d6, h1]; exact fun y => y rfl) (st_l rfl))) (Or.inr rfl)
    obtain ⟨M5, w1, w2, w3⟩ := tests_e (L := L) hV hl hF (by omega) F e k4 s4 e4 nu4 0 (up2 d0 191 3 1) M4 (by omega) hT.2.2.2.1 (by omega) T4 (by rw [u2n (by decide)]; exact d32) (by rw [up_n (by decide)]; exact d4) up_e m3 (o3.cg (up_n (by decide)) (up_n (by decide)) (fun i x y => u2n (by omega)) (m2.2 10 (by decide)) (m2.2 11 (by decide)) (m2.1 216 (by decide)) (m2.1 219 (by decide)))
    have hfin : ∀ r, FIN F len (up2 d0 191 3 1) r e → FIN F len c r p := fun r hr => fin_ok hp hl hpe r1 r5 hk19 (Or.inl hk) hgo hr
    have kc : KC c (up2 d0 191 3 1) := dK.t (KC.w (by decide))
    refine ⟨M5, o2 _ ?_, (o7.t m2.k).t w2, ?_⟩
    · unfold m_aLine_18
      exact st_b (tk_y o6 o3.2.2.1 (by omega) (by omega) (by rw [h1]; rfl) m1) (st_f (by decide) w1)
    · rcases w3 with (x | x) | x
      · exact Or.inl (Or.inl (x.t hfin kc))
      · exact Or.inl (Or.inr (x.t hfin kc (by omega)))
      · exact Or.inr (x.t hfin kc)
  · obtain ⟨M5, w1, w2, w3⟩ := act_e (c := c) (c1 := c1) (d := d0) (M := Mn) (L := L) (v := 0) hV hl hF hp (by omega) hT r1 r5 (Or.inl hk) d32 d4 d5 d6 dK (fun x d2 a b => go0 g3 (o1 _ (by
      unfold reader_beginLine_49
      exact st_t (by rw [d6, nrQ (b := 1) 1 rfl (by omega) (by decide)]; exact h1) (bnd01 a b))) b) o6 o3
    refine ⟨M5, o2 _ ?_, o7.t w2, w3⟩
    unfold m_aLine_18
    refine st_b (tk_n hk19 o6 o3.2.2.1 (fun x y => ?_)) (st_t rfl w1)
    have hmw := mWf ⟨k, by omega⟩
    exact fun q => h1 (hmw.1.mp q)
def FNs (r M : Sg) : Prop := r 191 1 = M 216 8 ∧ r 191 2 = M 216 9 ∧ (r 191 1 = 0 → ∃ L, L ≤ 16 ∧ r 192 0 = nn L ∧ M 215 11 = nn L ∧ LNs r M L)
theorem lines_e {b : Nat → Int32} {F len : Nat} (hV : VB b) (hl : len ≤ 500) (hF : 600 ≤ F) : ∀ n p k s e nu L (c M : Sg), len - p + 1 < n → p ≤ len → L ≤ p → TK F b len p k s e nu → c 32 = b → c 191 4 = nn p → c 191 3 = 0 → PM b len k s e nu M → BLt c M L → ∃ r M2, FIN F len c r p ∧ m_statute_54 F n M = m_statute_75 F M2 ∧ KM M M2 ∧ KC c r ∧ FNs r M2 := by
  intro n
  induction n with
  | zero => intro p k s e nu L c M hn; omega
  | succ n ih =>
    intro p k s e nu L c M hn hp hLp hT h32 h4 h3 hP hB
    obtain ⟨n, rfl⟩ : ∃ k, n = k + 1 := ⟨n - 1, by omega⟩
    have hk19 := hT.1
    have hkM := kMf ⟨k, by omega⟩
    by_cases hk : k = 19
    · obtain ⟨c1, r1, r2, r3, r4, r5, r6⟩ := hT.2.2.2.2.2.2.1 c h32 h4
      have g3 : c1 191 3 = 0 := (r2.2 3 (by decide)).trans h3
      have B1 : BLt c1 M L := hB.cg (r2.2 1 (by decide)) (r2.2 2 (by decide)) (fun i a b => r2.1 i (by omega)) rfl rfl rfl rfl
      refine ⟨c1, M, fin_end hp hl r1 (by rw [r5, hk]; rfl) g3, ?_, KM.r, r2.k, B1.2.2.2.1, B1.2.2.2.2.1, fun z => ?_⟩
      · rw [m_statute_54]
        exact st_f (fun y => y hB.2.2.1) (st_t (by rw [hP.2.2.2.1, hk]; rfl) rfl)
      · obtain ⟨f1, f2⟩ := B1.2.2.2.2.2 z
        exact ⟨L, f1, by rw [B1.1]; congr 1; omega, B1.2.1, f2⟩
    · obtain ⟨M2, t1, t2, t3⟩ := line_e hV hl hF hp hLp hT h32 h4 h3 hk hP hB
      have h54 : ∀ R, m_statute_54 F (n + 1) M2 = R → m_statute_54 F (n + 1 + 1) M = R := by
        intro R hR
        rw [m_statute_54]
        exact st_f (fun y => y hB.2.2.1) (st_f (by rw [hP.2.2.2.1]; exact fun y => hk (hkM.2.2.2.mp y)) (st_b t1 hR))
      have hbad : ∀ L', BAD F len c p M2 L' → ∃ r M2, FIN F len c r p ∧ m_statute_54 F (n + 1 + 1) M = m_statute_75 F M2 ∧ KM M M2 ∧ KC c r ∧ FNs r M2 := by
        rintro L' ⟨r, s', b1, b2, b3, b4, b5, b6, b7, b8⟩
        refine ⟨r, M2, b1, h54 _ ?_, t2, b2, b3.trans b7.symm, b4.trans b8.symm, fun z => absurd (b3.symm.trans z) (by decide)⟩
        rw [m_statute_54]
        exact st_t b5 rfl
      rcases t3 with (x | x) | x
      · exact hbad _ x
      · obtain ⟨c2, p2, k2, s2, e2, nu2, z1, z2, z3, z4, z5, z6, z7, z8, z9, z10⟩ := x
        obtain ⟨r, M3, y1, y2, y3, y4, y5⟩ := ih p2 k2 s2 e2 nu2 (L + 1) c2 M2 (by omega) z4 (by omega) z5 z6 z7 z8 z9 z10
        exact ⟨r, M3, z1 r y1, h54 _ y2, t2.t y3, z2.t y4, y5⟩
      · exact hbad _ x
end
section
/-! statute -/
theorem c2n {g : Sg} {a b x y n i : Nat} (h : i ≠ b) : cp2 g a x b y n i = g i := by
  funext k
  exact if_neg (fun z => h z.1)
theorem c2e {g : Sg} {a b n k : Nat} (h : k < n) : cp2 g a 0 b 0 n b k = g a k := by
  refine (if_pos ⟨rfl, Nat.zero_le k, by omega⟩).trans ?_
  rw [Nat.zero_add, Nat.sub_zero]
def copyO (g : Sg) : Sg := (cp2 (cp2 (cp2 (cp2 (cp2 (cp2 (cp2 (up2 g 33 0 (g 192 0)) 193 0 34 0 16) 194 0 35 0 16) 195 0 36 0 16) 196 0 37 0 64) 197 0 38 0 64) 198 0 39 0 64) 199 0 40 0 64)
theorem copy_e (g : Sg) : lines_copyFrom g = some (copyO g) := rfl
theorem copy_n {g : Sg} {i : Nat} (h : i < 33 ∨ 40 < i) : copyO g i = g i := by
  unfold copyO
  rw [c2n (by omega), c2n (by omega), c2n (by omega), c2n (by omega), c2n (by omega), c2n (by omega), c2n (by omega), u2n (by omega)]
theorem copy_0 {g : Sg} : copyO g 33 0 = g 192 0 := by
  unfold copyO
  rw [c2n (show 33 ≠ 40 by decide), c2n (show 33 ≠ 39 by decide), c2n (show 33 ≠ 38 by decide), c2n (show 33 ≠ 37 by decide), c2n (show 33 ≠ 36 by decide), c2n (show 33 ≠ 35 by decide), c2n (show 33 ≠ 34 by decide), up_e]
theorem copy_34 {g : Sg} {j : Nat} (h : j < 16) : copyO g 34 j = g 193 j := by
  unfold copyO
  rw [c2n (show 34 ≠ 40 by decide), c2n (show 34 ≠ 39 by decide), c2n (show 34 ≠ 38 by decide), c2n (show 34 ≠ 37 by decide), c2n (show 34 ≠ 36 by decide), c2n (show 34 ≠ 35 by decide), c2e h, u2n (show 193 ≠ 33 by decide)]
theorem copy_35 {g : Sg} {j : Nat} (h : j < 16) : copyO g 35 j = g 194 j := by
  unfold copyO
  rw [c2n (show 35 ≠ 40 by decide), c2n (show 35 ≠ 39 by decide), c2n (show 35 ≠ 38 by decide), c2n (show 35 ≠ 37 by decide), c2n (show 35 ≠ 36 by decide), c2e h, c2n (show 194 ≠ 34 by decide), u2n (show 194 ≠ 33 by decide)]
theorem copy_36 {g : Sg} {j : Nat} (h : j < 16) : copyO g 36 j = g 195 j := by
  unfold copyO
  rw [c2n (show 36 ≠ 40 by decide), c2n (show 36 ≠ 39 by decide), c2n (show 36 ≠ 38 by decide), c2n (show 36 ≠ 37 by decide), c2e h, c2n (show 195 ≠ 35 by decide), c2n (show 195 ≠ 34 by decide), u2n (show 195 ≠ 33 by decide)]
theorem copy_37 {g : Sg} {j : Nat} (h : j < 64) : copyO g 37 j = g 196 j := by
  unfold copyO
  rw [c2n (show 37 ≠ 40 by decide), c2n (show 37 ≠ 39 by decide), c2n (show 37 ≠ 38 by decide), c2e h, c2n (show 196 ≠ 36 by decide), c2n (show 196 ≠ 35 by decide), c2n (show 196 ≠ 34 by decide), u2n (show 196 ≠ 33 by decide)]
theorem copy_38 {g : Sg} {j : Nat} (h : j < 64) : copyO g 38 j = g 197 j := by
  unfold copyO
  rw [c2n (show 38 ≠ 40 by decide), c2n (show 38 ≠ 39 by decide), c2e h, c2n (show 197 ≠ 37 by decide), c2n (show 197 ≠ 36 by decide), c2n (show 197 ≠ 35 by decide), c2n (show 197 ≠ 34 by decide), u2n (show 197 ≠ 33 by decide)]
theorem copy_39 {g : Sg} {j : Nat} (h : j < 64) : copyO g 39 j = g 198 j := by
  unfold copyO
  rw [c2n (show 39 ≠ 40 by decide), c2e h, c2n (show 198 ≠ 38 by decide), c2n (show 198 ≠ 37 by decide), c2n (show 198 ≠ 36 by decide), c2n (show 198 ≠ 35 by decide), c2n (show 198 ≠ 34 by decide), u2n (show 198 ≠ 33 by decide)]
theorem copy_40 {g : Sg} {j : Nat} (h : j < 64) : copyO g 40 j = g 199 j := by
  unfold copyO
  rw [c2e h, c2n (show 199 ≠ 39 by decide), c2n (show 199 ≠ 38 by decide), c2n (show 199 ≠ 37 by decide), c2n (show 199 ≠ 36 by decide), c2n (show 199 ≠ 35 by decide), c2n (show 199 ≠ 34 by decide), u2n (show 199 ≠ 33 by decide)]
theorem s89 : ∀ m v n (M : Sg), v + m = 320 → m < n → ∃ M2, m_statute_89 n (nn v) M = some (M 215 11, M2) ∧ (∀ i, i ≠ 216 → M2 i = M i) ∧ M2 216 4 = M 215 11 ∧ (∀ j, v ≤ j → j < 320 → M2 216 (4270 + j) = M 219 j) ∧ ∀ j, j ≠ 4 → (j < 4270 + v ∨ 4590 ≤ j) → M2 216 j = M 216 j
  | 0, v, n, M, h, hn => by
    obtain ⟨n, rfl⟩ : ∃ k, n = k + 1 := ⟨n - 1, by omega⟩
    refine ⟨up2 M 216 4 (M 215 11), ?_, fun i a => u2n a, up_e, fun j a b => absurd a (by omega), fun j a b => up_n a⟩
    rw [m_statute_89]
    refine st_t (by rw [nlE (a := 320) 320 rfl (by decide) (by omega)]; omega) (st_l ?_)
    rw [u2n (show 215 ≠ 216 by decide)]
  | m + 1, v, n, M, h, hn => by
    obtain ⟨n, rfl⟩ : ∃ k, n = k + 1 := ⟨n - 1, by omega⟩
    obtain ⟨M2, e1, e2, e3, e4, e5⟩ := s89 m (v + 1) n (up2 M 216 (4270 + v) (M 219 v)) (by omega) (by omega)
    refine ⟨M2, ?_, fun i a => (e2 i a).trans (u2n a), e3.trans (by rw [u2n (by decide)]), fun j a b => ?_, fun j a b => (e5 j a (by omega)).trans (up_n (by omega))⟩
    · rw [m_statute_89]
      refine st_f (by rw [nlE (a := 320) 320 rfl (by decide) (by omega)]; omega) (st_t (by rw [nnB (by omega)]; omega) ?_)
      rw [show (4270 : Int32) + nn v = nn (4270 + v) from nnA 4270 v, nnT (show 4270 + v < 2147483648 by omega), nnT (show v < 2147483648 by omega)]
      refine st_t (by rw [nnB (by omega)]; omega) (st_l ?_)
      rw [show nn v + 1 = nn (v + 1) from nnA v 1, e1, u2n (show 215 ≠ 216 by decide)]
    · by_cases y : j = v
      · subst y
        rw [e5 _ (by omega) (by omega), up_e]
      · rw [e4 j (by omega) b, u2n (by decide)]
def sC0 (g : Sg) : Sg := up2 (up2 (up2 (up2 (up2 g 192 0 0) 191 1 0) 191 2 (-1)) 191 3 0) 191 4 0
theorem st_all {g M : Sg} {T L : Nat} (hl : RLaw g (g 216) T L) (hM : M 216 = g 216) : ∃ r M2, FIN 700 T (sC0 g) r 0 ∧ m_statute 700 M = m_statute_75 700 M2 ∧ (∀ i, i ≠ 215 → i ≠ 216 → i ≠ 219 → i ≠ 220 → M2 i = M i) ∧ (∀ j, j ≠ 7 → j ≠ 8 → j ≠ 9 → M2 216 j = M 216 j) ∧ M2 216 7 = 0 ∧ KC g r ∧ FNs r M2 := by
  have hT := hl.hT
  have hV : VB (g 32) := hl.tapeV
  obtain ⟨M0, hM0⟩ : ∃ M0, M0 = up2 (up2 (up2 (up2 (up2 (up2 (up2 M 215 3 ((M 216 7))) 216 7 0) 215 4 0) 216 8 0) 216 9 (-1)) 215 10 0) 215 11 0 := ⟨_, rfl⟩
  have f3 : M0 215 3 = nn T := by rw [hM0, up_n (by decide), up_n (by decide), u2n (by decide), u2n (by decide), up_n (by decide), u2n (by decide), up_e, hM]; exact hl.aT
  have f4 : M0 215 4 = nn 0 := by rw [hM0, up_n (by decide), up_n (by decide), u2n (by decide), u2n (by decide), up_e]; rfl
  have f10 : M0 215 10 = 0 := by rw [hM0, up_n (by decide), up_e]
  have f11 : M0 215 11 = 0 := by rw [hM0, up_e]
  have f7 : M0 216 7 = 0 := by rw [hM0, u2n (by decide), u2n (by decide), up_n (by decide), up_n (by decide), u2n (by decide), up_e]
  have f8 : M0 216 8 = 0 := by rw [hM0, u2n (by decide), u2n (by decide), up_n (by decide), up_e]
  have f9 : M0 216 9 = -1 := by rw [hM0, u2n (by decide), u2n (by decide), up_e]
  have fj : ∀ j, j ≠ 7 → j ≠ 8 → j ≠ 9 → M0 216 j = M 216 j := fun j a b c => by rw [hM0, u2n (by decide), u2n (by decide), up_n c, up_n b, u2n (by decide), up_n a, u2n (by decide)]
  have fi : ∀ i, i ≠ 215 → i ≠ 216 → M0 i = M i := fun i a b => by rw [hM0, u2n a, u2n a, u2n b, u2n b, u2n a, u2n b, u2n a]
  have hMB : MB M0 (g 32) T := ⟨f3, fun i hi => by rw [fj _ (by omega) (by omega) (by omega), hM]; exact hl.tape i hi⟩
  obtain ⟨k, s, e, nu, hK⟩ := tk_ex (F := 700) (p := 0) hV hT (by decide) (Nat.zero_le T)
  obtain ⟨M1, m1, m2, m3, m4, m5⟩ := hK.2.2.2.2.2.2.2 M0 hMB f4
  obtain ⟨r, M2, y1, y2, y3, y4, y5⟩ := lines_e hV hT (F := 700) (by decide) 700 0 k s e nu 0 (sC0 g) M1 (by omega) (Nat.zero_le _) (Nat.le_refl 0) hK (by unfold sC0; rw [u2n (by decide), u2n (by decide), u2n (by decide), u2n (by decide), u2n (by decide)]) (by unfold sC0; rw [up_e]; rfl) (by unfold sC0; rw [up_n (by decide), up_e]) ⟨hMB.t m2, m3, m4, m5⟩ ⟨by unfold sC0; rw [u2n (by decide), u2n (by decide), u2n (by decide), u2n (by decide), up_e]; rfl, by rw [m2.2 11 (by decide)]; exact f11, by rw [m2.2 10 (by decide)]; exact f10, by rw [m2.1 216 (by decide), f8]; unfold sC0; rw [up_n (by decide), up_n (by decide), up_n (by decide), up_e], by rw [m2.1 216 (by decide), f9]; unfold sC0; rw [up_n (by decide), up_n (by decide), up_e], fun _ => ⟨by decide, fun i hi => absurd hi (Nat.not_lt_zero i)⟩⟩
  refine ⟨r, M2, y1, ?_, fun i a b c d => (y3.1 i a b c d).trans ((m2.1 i a).trans (fi i a b)), fun j a b c => (y3.2.1 j b c).trans (by rw [m2.1 216 (by decide)]; exact fj j a b c), (y3.2.1 7 (by decide) (by decide)).trans (by rw [m2.1 216 (by decide)]; exact f7), KC.t (c2 := sC0 g) (fun i a => ?_) y4, y5⟩
  · unfold m_statute
    refine st_l (st_l (st_l (st_l (st_l (st_l (st_l ?_))))))
    rw [← hM0]
    exact st_b m1 y2
  · unfold sC0
    rw [u2n (by omega), u2n (by omega), u2n (by omega), u2n (by omega), u2n (by omega)]
theorem sim_statute {TS : Sg → Prop} (hT : TSf TS) : Sim_statute (RR TS) := by
  intro g hR
  obtain ⟨N, C, Q, D, T, L, G, h⟩ := hR.now
  have hl := h.law
  have hTl := hl.hT
  obtain ⟨r, M2, a1, a2, a3, a4, a5, a6, a7⟩ := st_all hl (M := g) rfl
  obtain ⟨r4, hr4⟩ : ∃ r4, r4 = up2 (up2 (up2 r 31 0 0) 31 2 ((up2 r 31 0 0) 191 1)) 31 3 ((up2 (up2 r 31 0 0) 31 2 ((up2 r 31 0 0) 191 1)) 191 2) := ⟨_, rfl⟩
  have k4 : ∀ i, i ≠ 31 → r4 i = r i := fun i a => by rw [hr4, u2n a, u2n a, u2n a]
  have k40 : r4 31 0 = 0 := by rw [hr4, up_n (by decide), up_n (by decide), up_e]
  have k42 : r4 31 2 = r 191 1 := by rw [hr4, up_n (by decide), up_e, u2n (by decide)]
  have k43 : r4 31 3 = r 191 2 := by rw [hr4, up_e, u2n (by decide), u2n (by decide)]
  have hread : reader_read 700 (g 31 0) g = some r := by
    unfold reader_read
    rw [hl.cT]
    refine st_l (st_l (st_l (st_l (st_l (st_l ?_)))))
    rw [if_neg (by rw [show (500 : Int32) = nn 500 from rfl, nnL (by decide) (by omega)]; omega)]
    exact a1 700 0 (Nat.zero_le _) (by omega)
  have det : ∀ r', FIN 700 T (sC0 g) r' 0 → r' = r := fun r' z => Option.some.inj ((z 700 0 (Nat.zero_le _) (by omega)).symm.trans (a1 700 0 (Nat.zero_le _) (by omega)))
  have ri : ∀ i, (i < 191 ∨ 199 < i) → r i = g i := a6
  by_cases hf : r 191 1 = 0
  · have g216 : (copyO r4) 216 = g 216 := by rw [copy_n (by decide), k4 216 (by decide), ri 216 (by decide)]
    obtain ⟨r', M3, b1, b2, b3, b4, b5, b6, b7⟩ := st_all hl (M := copyO r4) g216
    have er := det r' b1
    subst er
    obtain ⟨L2, l1, l2, l3, l4⟩ := b7.2.2 hf
    obtain ⟨M4, s1, s2, s3, s4, s5⟩ := s89 320 0 700 M3 (by decide) (by decide)
    have mi : ∀ i, i < 191 ∨ (199 < i ∧ i ≠ 215 ∧ i ≠ 216 ∧ i ≠ 219 ∧ i ≠ 220) → (i < 31 ∨ 40 < i ∨ i = 32) → M4 i = g i := fun i a b => by
      rw [s2 i (by omega), b3 i (by omega) (by omega) (by omega) (by omega), copy_n (by omega), k4 i (by omega), ri i (by omega)]
    have mj : ∀ j, j ≠ 4 → j ≠ 7 → j ≠ 8 → j ≠ 9 → (j < 4270 ∨ 4590 ≤ j) → M4 216 j = g 216 j := fun j a b c d e => by
      rw [s5 j a (by omega), b4 j b c d, g216]
    have mC : ∀ i, i ≤ 40 → M4 i = copyO r4 i := fun i a => by rw [s2 i (by omega), b3 i (by omega) (by omega) (by omega) (by omega)]
    refine ⟨700, 700, nn L2, copyO r4, M4, ?_, ?_, hR.put hT ⟨N, C, Q, D, 0, L2, G, ⟨h.net.fr (fun i x y => mi i (by omega) (by omega)) (fun j hj => mj j (by unfold iNet at hj; omega) (by unfold iNet at hj; omega) (by unfold iNet at hj; omega) (by unfold iNet at hj; omega) (by unfold iNet at hj; omega)), h.rig.fr (fun i x y => mi i (by omega) (by omega)) (fun j hj => mj j (by unfold iRig at hj; omega) (by unfold iRig at hj; omega) (by unfold iRig at hj; omega) (by unfold iRig at hj; omega) (by unfold iRig at hj; omega)), ?_, h.gau.fr (fun i x y => mi i (by omega) (by omega)) (fun j hj => mj j (by unfold iGau at hj; omega) (by unfold iGau at hj; omega) (by unfold iGau at hj; omega) (by unfold iGau at hj; omega) (by unfold iGau at hj; omega))⟩⟩ (fun i x y => mi i (by omega) (by omega)) (fun j hj => mj j (by omega) (by omega) (by omega) (by omega) (by omega)) (mi 217 (by omega) (by omega)) (fun i x y => mi i (by omega) (by omega))⟩
    · unfold x_statute
      refine st_b hread (st_l (st_l (st_l ?_)))
      rw [← hr4]
      refine st_t (by rw [k4 191 (by decide)]; exact hf) (st_b (copy_e r4) ?_)
      rw [copy_0, k4 192 (by decide), l2]
    · rw [b2]
      unfold m_statute_75
      refine st_t (by rw [← b7.1]; exact hf) ?_
      rw [← l3]
      exact s1
    · have e31 : M4 31 = r4 31 := (mC 31 (by decide)).trans (copy_n (by decide))
      apply RLaw.mk
      case hT => decide
      case hL => exact l1
      case cT => rw [e31, k40]; rfl
      case aT => rw [s5 7 (by decide) (by decide), b5]; rfl
      case tape => intro i hi; rw [mj _ (by omega) (by omega) (by omega) (by omega) (by omega), mi 32 (by omega) (by omega)]; exact hl.tape i hi
      case tapeV => rw [mi 32 (by omega) (by omega)]; exact hl.tapeV
      case fk => rw [s5 8 (by decide) (by decide), e31, k42]; exact b7.1.symm
      case fp => rw [s5 9 (by decide) (by decide), e31, k43]; exact b7.2.1.symm
      case dry => intro w hw; rw [mj _ (by omega) (by omega) (by omega) (by omega) (by omega), mi 41 (by omega) (by omega)]; exact hl.dry w hw
      case dryV => rw [mi 41 (by omega) (by omega)]; exact hl.dryV
      case cL => rw [mC 33 (by decide), copy_0, k4 192 (by decide)]; exact l2
      case aL => rw [s3]; exact l3
      case ln =>
        intro i hi
        rw [mC 34 (by decide), mC 35 (by decide), mC 36 (by decide), mC 37 (by decide), mC 38 (by decide), mC 39 (by decide), mC 40 (by decide)]
        have q := l4 i hi
        refine tLine_ag (by omega) (fun j hj => (copy_34 hj).trans (by rw [k4 193 (by decide)])) (fun j hj => (copy_35 hj).trans (by rw [k4 194 (by decide)])) (fun j hj => (copy_36 hj).trans (by rw [k4 195 (by decide)])) (fun j hj => (copy_37 hj).trans (by rw [k4 196 (by decide)])) (fun j hj => (copy_38 hj).trans (by rw [k4 197 (by decide)])) (fun j hj => (copy_39 hj).trans (by rw [k4 198 (by decide)])) (fun j hj => (copy_40 hj).trans (by rw [k4 199 (by decide)])) (tLine_fr (fun j hj => ?_) q)
        rw [show 4270 + 20 * i + j = 4270 + (20 * i + j) by omega]
        exact s4 _ (Nat.zero_le _) (by omega)
  · have g216 : r4 216 = g 216 := by rw [k4 216 (by decide), ri 216 (by decide)]
    obtain ⟨r', M3, b1, b2, b3, b4, b5, b6, b7⟩ := st_all hl (M := r4) g216
    have er := det r' b1
    subst er
    have mi : ∀ i, i < 191 ∨ (199 < i ∧ i ≠ 215 ∧ i ≠ 216 ∧ i ≠ 219 ∧ i ≠ 220) → i ≠ 31 → M3 i = g i := fun i a b => by
      rw [b3 i (by omega) (by omega) (by omega) (by omega), k4 i b, ri i (by omega)]
    have mj : ∀ j, j ≠ 7 → j ≠ 8 → j ≠ 9 → M3 216 j = g 216 j := fun j b c d => by
      rw [b4 j b c d, g216]
    have e31 : M3 31 = r4 31 := b3 31 (by decide) (by decide) (by decide) (by decide)
    refine ⟨700, 700, -1, r4, M3, ?_, ?_, hR.put hT ⟨N, C, Q, D, 0, L, G, ⟨h.net.fr (fun i x y => mi i (by omega) (by omega)) (fun j hj => mj j (by unfold iNet at hj; omega) (by unfold iNet at hj; omega) (by unfold iNet at hj; omega)), h.rig.fr (fun i x y => mi i (by omega) (by omega)) (fun j hj => mj j (by unfold iRig at hj; omega) (by unfold iRig at hj; omega) (by unfold iRig at hj; omega)), ?_, h.gau.fr (fun i x y => mi i (by omega) (by omega)) (fun j hj => mj j (by unfold iGau at hj; omega) (by unfold iGau at hj; omega) (by unfold iGau at hj; omega))⟩⟩ (fun i x y => mi i (by omega) (by omega)) (fun j hj => mj j (by omega) (by omega) (by omega)) (mi 217 (by omega) (by omega)) (fun i x y => mi i (by omega) (by omega))⟩
    · unfold x_statute
      refine st_b hread (st_l (st_l (st_l ?_)))
      rw [← hr4]
      exact st_f (by rw [k4 191 (by decide)]; exact hf) rfl
    · rw [b2]
      unfold m_statute_75
      exact st_f (by rw [← b7.1]; exact hf) rfl
    · apply RLaw.mk
      case hT => decide
      case hL => exact hl.hL
      case cT => rw [e31, k40]; rfl
      case aT => rw [b5]; rfl
      case tape => intro i hi; rw [mj _ (by omega) (by omega) (by omega), mi 32 (by omega) (by omega)]; exact hl.tape i hi
      case tapeV => rw [mi 32 (by omega) (by omega)]; exact hl.tapeV
      case fk => rw [e31, k42]; exact b7.1.symm
      case fp => rw [e31, k43]; exact b7.2.1.symm
      case dry => intro w hw; rw [mj _ (by omega) (by omega) (by omega), mi 41 (by omega) (by omega)]; exact hl.dry w hw
      case dryV => rw [mi 41 (by omega) (by omega)]; exact hl.dryV
      case cL => rw [mi 33 (by omega) (by omega)]; exact hl.cL
      case aL => rw [mj 4 (by decide) (by decide) (by decide)]; exact hl.aL
      case ln =>
        intro i hi
        have := hl.hL
        rw [mi 34 (by omega) (by omega), mi 35 (by omega) (by omega), mi 36 (by omega) (by omega), mi 37 (by omega) (by omega), mi 38 (by omega) (by omega), mi 39 (by omega) (by omega), mi 40 (by omega) (by omega)]
        exact tLine_fr (fun j hj => mj _ (by omega) (by omega) (by omega)) (hl.ln i hi)
end
section
theorem sims_d : SimAll (RR TSd) :=
  ⟨sim_node TSd_f, sim_channel TSd_f, sim_size TSd_f, sim_broken TSd_f, sim_open TSd_f, sim_path TSd_f, sim_along TSd_f, sim_go TSd_f, sim_about, sim_look, sim_all, sim_field TSd_f, sim_deed TSd_f, sim_annul TSd_f, sim_written, sim_owner, sim_ran, sim_owed TSd_f, sim_feed TSd_f, sim_end TSd_f, sim_statute TSd_f, sim_fault, sim_dry TSd_f, sim_holder TSd_f, sim_duty TSd_f, sim_lay, sim_laid, sim_gauge TSd_f, sim_stolen, sim_count, sim_image TSd_f, sim_again TSd_f⟩
theorem RR_start : RR TSd g00 := RR.mk RT_start RI_start ⟨by decide +kernel, by decide +kernel, Or.inl (by decide +kernel)⟩
theorem law_d : LawOk := law_of sims_d RR_start
end
