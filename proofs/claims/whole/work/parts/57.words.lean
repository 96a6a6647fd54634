/-! the statute: bytes, words -/
theorem i8 (P : Int8 → Prop) (h : ∀ n : Fin 256, P (Int8.ofBitVec (BitVec.ofFin n))) (x : Int8) : P x := h x.toBitVec.toFin
def bL (v : Int32) : Bool := decide (97 ≤ v ∧ v ≤ 122)
def bD (v : Int32) : Bool := decide (48 ≤ v ∧ v ≤ 57)
def bB (v : Int32) : Bool := decide (v = 10 ∨ v = 32)
def bS (v : Int32) : Bool := decide (58 ≤ v ∧ v ≤ 62)
theorem bt (x : Int8) : bL (x.toInt32 &&& 255) = bL x.toInt32 ∧ bD (x.toInt32 &&& 255) = bD x.toInt32 ∧ bB (x.toInt32 &&& 255) = bB x.toInt32 ∧ bS (x.toInt32 &&& 255) = bS x.toInt32 ∧ (0 ≤ x.toInt32 → x.toInt32 &&& 255 = x.toInt32) ∧ 0 ≤ x.toInt32 &&& 255 :=
  i8 (fun x => bL (x.toInt32 &&& 255) = bL x.toInt32 ∧ bD (x.toInt32 &&& 255) = bD x.toInt32 ∧ bB (x.toInt32 &&& 255) = bB x.toInt32 ∧ bS (x.toInt32 &&& 255) = bS x.toInt32 ∧ (0 ≤ x.toInt32 → x.toInt32 &&& 255 = x.toInt32) ∧ 0 ≤ x.toInt32 &&& 255) (by decide +kernel) x
theorem rng_e {v lo hi : Int32} {b : Bool} (hb : b = decide (lo ≤ v ∧ v ≤ hi)) : (if v < lo then some (0 : Int32) else if hi < v then some 0 else some 1) = some (if b = true then 1 else 0) := by
  subst hb
  by_cases h1 : v < lo
  · rw [if_pos h1, if_neg]
    intro z
    exact absurd h1 (Int32.not_lt.mpr (of_decide_eq_true z).1)
  · by_cases h2 : hi < v
    · rw [if_neg h1, if_pos h2, if_neg]
      intro z
      exact absurd h2 (Int32.not_lt.mpr (of_decide_eq_true z).2)
    · rw [if_neg h1, if_neg h2, if_pos]
      exact decide_eq_true ⟨Int32.not_lt.mp h1, Int32.not_lt.mp h2⟩
theorem let_e (v : Int32) (g : Sg) : tokens_isLetter v g = some (if bL v = true then 1 else 0) := rng_e rfl
theorem dig_e (v : Int32) (g : Sg) : tokens_isDigit v g = some (if bD v = true then 1 else 0) := rng_e rfl
theorem mle_e (v : Int32) (g : Sg) : m_isLetter v g = some (if bL v = true then 1 else 0) := rng_e rfl
theorem mdi_e (v : Int32) (g : Sg) : m_isDigit v g = some (if bD v = true then 1 else 0) := rng_e rfl
theorem bla_e (v : Int32) (g : Sg) : tokens_isBlank v g = some (if bB v = true then 1 else 0) := by
  unfold tokens_isBlank bB
  by_cases h1 : v = 10
  · rw [if_pos h1, if_pos (decide_eq_true (Or.inl h1))]
  · by_cases h2 : v = 32
    · rw [if_neg h1, if_neg (fun z => z h2), if_pos (decide_eq_true (Or.inr h2))]
    · rw [if_neg h1, if_pos h2, if_neg]
      intro z
      rcases of_decide_eq_true z with e | e
      · exact h1 e
      · exact h2 e
theorem bL_y {v : Int32} (h : bL v = true) : ∃ y, 1 ≤ y ∧ y ≤ 26 ∧ v = nn (96 + y) := by
  have h := of_decide_eq_true h
  obtain ⟨n, h1, rfl⟩ := (rgK (K := 122) (by decide)).mp ⟨Int32.le_trans (by decide) h.1, h.2⟩
  have h2 : 97 ≤ n := by have := h.1; rwa [nnEl (by decide) (by omega)] at this
  exact ⟨n - 96, by omega, by omega, by rw [show 96 + (n - 96) = n by omega]⟩
theorem bD_y {v : Int32} (h : bD v = true) : ∃ y, y ≤ 9 ∧ v = nn (48 + y) := by
  have h := of_decide_eq_true h
  obtain ⟨n, h1, rfl⟩ := (rgK (K := 57) (by decide)).mp ⟨Int32.le_trans (by decide) h.1, h.2⟩
  have h2 : 48 ≤ n := by have := h.1; rwa [nnEl (by decide) (by omega)] at this
  exact ⟨n - 48, by omega, by rw [show 48 + (n - 48) = n by omega]⟩
theorem scan (P : Nat → Bool) (len : Nat) : ∀ m p, p + m = len → ∃ q, p ≤ q ∧ q ≤ len ∧ (∀ i, p ≤ i → i < q → P i = true) ∧ (q < len → P q = false)
  | 0, p, h => ⟨p, Nat.le_refl p, by omega, fun i a b => absurd b (by omega), fun z => absurd z (by omega)⟩
  | m + 1, p, h => by
    by_cases e : P p = true
    · obtain ⟨q, a, b, c, d⟩ := scan P len m (p + 1) (by omega)
      refine ⟨q, by omega, b, fun i x y => ?_, d⟩
      by_cases z : i = p
      · rw [z]; exact e
      · exact c i (by omega) y
    · exact ⟨p, Nat.le_refl p, by omega, fun i a b => absurd b (by omega), fun _ => by simpa using e⟩
/-- the words -/
def wN (y : Nat → Nat) : Nat → Nat
  | 0 => 0
  | k + 1 => 32 * wN y k + y k
def cyk (c : Sg) (s : Int32) : List (Int32 × Int32) → Option Int32
  | [] => some 1
  | (i, v) :: r => if inb (s + i) 500 = true then (if c 32 (Int32.toNatClampNeg (s + i)) = v then cyk c s r else some 0) else none
def mt (y : Nat → Nat) : Nat → List Nat → Prop
  | _, [] => True
  | i, a :: r => y i = a ∧ mt y (i + 1) r
def chl : Nat → List Nat → List (Int32 × Int32)
  | _, [] => []
  | i, a :: r => (nn i, nn (96 + a)) :: chl (i + 1) r
theorem cyk_e {c : Sg} {s k : Nat} {y : Nat → Nat} (hs : s + k ≤ 500) (hy : ∀ i, i < k → c 32 (s + i) = nn (96 + y i) ∧ y i ≤ 26) : ∀ (l : List Nat) (i : Nat), i + l.length = k → (∀ a, a ∈ l → a ≤ 26) → (mt y i l → cyk c (nn s) (chl i l) = some 1) ∧ (¬ mt y i l → cyk c (nn s) (chl i l) = some 0)
  | [], i, _, _ => ⟨fun _ => rfl, fun z => absurd trivial z⟩
  | a :: r, i, h, ha => by
    have hl : i + (r.length + 1) = k := h
    have ih := cyk_e hs hy r (i + 1) (by omega) (fun x hx => ha x (List.mem_cons_of_mem _ hx))
    obtain ⟨e1, e2⟩ := hy i (by omega)
    have e3 := ha a List.mem_cons_self
    show (mt y i (a :: r) → (if inb (nn s + nn i) 500 = true then (if c 32 (Int32.toNatClampNeg (nn s + nn i)) = nn (96 + a) then cyk c (nn s) (chl (i + 1) r) else some 0) else none) = some 1) ∧ (¬ mt y i (a :: r) → (if inb (nn s + nn i) 500 = true then (if c 32 (Int32.toNatClampNeg (nn s + nn i)) = nn (96 + a) then cyk c (nn s) (chl (i + 1) r) else some 0) else none) = some 0)
    rw [nnA, nnT (by omega), e1]
    have hin : inb (nn (s + i)) 500 = true := by rw [nnB (by omega)]; omega
    constructor
    · intro z
      exact st_t hin (st_t (by rw [show y i = a from z.1]) (ih.1 z.2))
    · intro z
      refine st_t hin ?_
      by_cases e : y i = a
      · exact st_t (by rw [e]) (ih.2 (fun q => z ⟨e, q⟩))
      · exact st_f (by rw [nnQ (by omega) (by omega)]; omega) rfl
theorem iw_g {c : Sg} {s k n : Nat} {y : Nat → Nat} {l : List Nat} {C : Nat} {fn : Option Int32} (hf : fn = (if ¬ (nn (s + k) - nn s) = nn n then some 0 else if nn s < 0 then some 0 else if nn (s + k) ≤ 500 then cyk c (nn s) (chl 0 l) else some 0)) (hn : l.length = n) (hn6 : n ≤ 6) (hl : ∀ a, a ∈ l → a ≤ 26) (hs : s + k ≤ 500) (hy : ∀ i, i < k → c 32 (s + i) = nn (96 + y i) ∧ 1 ≤ y i ∧ y i ≤ 26) (hC : k = n → (wN y k = C ↔ mt y 0 l)) (hC2 : k ≤ 6 → k ≠ n → wN y k ≠ C) : fn = some (if k ≤ 6 ∧ wN y k = C then 1 else 0) := by
  rw [hf, nnS (by omega), Nat.add_sub_cancel_left]
  by_cases e : k = n
  · refine st_f (fun z => z (by rw [e])) (st_f (by rw [nnP (by omega)]; exact id) (st_t (by rw [nnEr (by omega) (by decide)]; omega) ?_))
    have ck := cyk_e hs (fun i hi => ⟨(hy i hi).1, (hy i hi).2.2⟩) l 0 (by omega) hl
    by_cases q : mt y 0 l
    · rw [ck.1 q, if_pos ⟨by omega, (hC e).mpr q⟩]
    · rw [ck.2 q, if_neg (fun z => q ((hC e).mp z.2))]
  · exact st_t (by rw [nnQ (by omega) (by omega)]; exact e) (by rw [if_neg (fun z => hC2 z.1 e z.2)])
theorem iw1 {c : Sg} {s k : Nat} {y : Nat → Nat} (hs : s + k ≤ 500) (hy : ∀ i, i < k → c 32 (s + i) = nn (96 + y i) ∧ 1 ≤ y i ∧ y i ≤ 26) : tokens_isWord (nn s) (nn (s + k)) c = some (if k ≤ 6 ∧ wN y k = 294 then 1 else 0) := by
  refine iw_g (n := 2) (l := [9, 6]) rfl rfl (by decide) (by decide) hs hy (fun e => ?_) (fun h6 e => ?_)
  · subst e
    simp only [wN, mt, Nat.zero_add, Nat.reduceAdd, and_true]
    have b0 := (hy 0 (by decide)).2; have b1 := (hy 1 (by decide)).2
    omega
  · rcases (show k = 0 ∨ k = 1 ∨ k = 2 ∨ k = 3 ∨ k = 4 ∨ k = 5 ∨ k = 6 by omega) with rfl | rfl | rfl | rfl | rfl | rfl | rfl
    · simp only [wN]; omega
    · have b0 := (hy 0 (by decide)).2; simp only [wN]; omega
    · have b0 := (hy 0 (by decide)).2; have b1 := (hy 1 (by decide)).2; simp only [wN]; omega
    · have b0 := (hy 0 (by decide)).2; have b1 := (hy 1 (by decide)).2; have b2 := (hy 2 (by decide)).2; simp only [wN]; omega
    · have b0 := (hy 0 (by decide)).2; have b1 := (hy 1 (by decide)).2; have b2 := (hy 2 (by decide)).2; have b3 := (hy 3 (by decide)).2; simp only [wN]; omega
    · have b0 := (hy 0 (by decide)).2; have b1 := (hy 1 (by decide)).2; have b2 := (hy 2 (by decide)).2; have b3 := (hy 3 (by decide)).2; have b4 := (hy 4 (by decide)).2; simp only [wN]; omega
    · have b0 := (hy 0 (by decide)).2; have b1 := (hy 1 (by decide)).2; have b2 := (hy 2 (by decide)).2; have b3 := (hy 3 (by decide)).2; have b4 := (hy 4 (by decide)).2; have b5 := (hy 5 (by decide)).2; simp only [wN]; omega
theorem iw2 {c : Sg} {s k : Nat} {y : Nat → Nat} (hs : s + k ≤ 500) (hy : ∀ i, i < k → c 32 (s + i) = nn (96 + y i) ∧ 1 ≤ y i ∧ y i ≤ 26) : tokens_isWord_c1 (nn s) (nn (s + k)) c = some (if k ≤ 6 ∧ wN y k = 1476 then 1 else 0) := by
  refine iw_g (n := 3) (l := [1, 14, 4]) rfl rfl (by decide) (by decide) hs hy (fun e => ?_) (fun h6 e => ?_)
  · subst e
    simp only [wN, mt, Nat.zero_add, Nat.reduceAdd, and_true]
    have b0 := (hy 0 (by decide)).2; have b1 := (hy 1 (by decide)).2; have b2 := (hy 2 (by decide)).2
    omega
  · rcases (show k = 0 ∨ k = 1 ∨ k = 2 ∨ k = 3 ∨ k = 4 ∨ k = 5 ∨ k = 6 by omega) with rfl | rfl | rfl | rfl | rfl | rfl | rfl
    · simp only [wN]; omega
    · have b0 := (hy 0 (by decide)).2; simp only [wN]; omega
    · have b0 := (hy 0 (by decide)).2; have b1 := (hy 1 (by decide)).2; simp only [wN]; omega
    · have b0 := (hy 0 (by decide)).2; have b1 := (hy 1 (by decide)).2; have b2 := (hy 2 (by decide)).2; simp only [wN]; omega
    · have b0 := (hy 0 (by decide)).2; have b1 := (hy 1 (by decide)).2; have b2 := (hy 2 (by decide)).2; have b3 := (hy 3 (by decide)).2; simp only [wN]; omega
    · have b0 := (hy 0 (by decide)).2; have b1 := (hy 1 (by decide)).2; have b2 := (hy 2 (by decide)).2; have b3 := (hy 3 (by decide)).2; have b4 := (hy 4 (by decide)).2; simp only [wN]; omega
    · have b0 := (hy 0 (by decide)).2; have b1 := (hy 1 (by decide)).2; have b2 := (hy 2 (by decide)).2; have b3 := (hy 3 (by decide)).2; have b4 := (hy 4 (by decide)).2; have b5 := (hy 5 (by decide)).2; simp only [wN]; omega
theorem iw3 {c : Sg} {s k : Nat} {y : Nat → Nat} (hs : s + k ≤ 500) (hy : ∀ i, i < k → c 32 (s + i) = nn (96 + y i) ∧ 1 ≤ y i ∧ y i ≤ 26) : tokens_isWord_c2 (nn s) (nn (s + k)) c = some (if k ≤ 6 ∧ wN y k = 14836 then 1 else 0) := by
  refine iw_g (n := 3) (l := [14, 15, 20]) rfl rfl (by decide) (by decide) hs hy (fun e => ?_) (fun h6 e => ?_)
  · subst e
    simp only [wN, mt, Nat.zero_add, Nat.reduceAdd, and_true]
    have b0 := (hy 0 (by decide)).2; have b1 := (hy 1 (by decide)).2; have b2 := (hy 2 (by decide)).2
    omega
  · rcases (show k = 0 ∨ k = 1 ∨ k = 2 ∨ k = 3 ∨ k = 4 ∨ k = 5 ∨ k = 6 by omega) with rfl | rfl | rfl | rfl | rfl | rfl | rfl
    · simp only [wN]; omega
    · have b0 := (hy 0 (by decide)).2; simp only [wN]; omega
    · have b0 := (hy 0 (by decide)).2; have b1 := (hy 1 (by decide)).2; simp only [wN]; omega
    · have b0 := (hy 0 (by decide)).2; have b1 := (hy 1 (by decide)).2; have b2 := (hy 2 (by decide)).2; simp only [wN]; omega
    · have b0 := (hy 0 (by decide)).2; have b1 := (hy 1 (by decide)).2; have b2 := (hy 2 (by decide)).2; have b3 := (hy 3 (by decide)).2; simp only [wN]; omega
    · have b0 := (hy 0 (by decide)).2; have b1 := (hy 1 (by decide)).2; have b2 := (hy 2 (by decide)).2; have b3 := (hy 3 (by decide)).2; have b4 := (hy 4 (by decide)).2; simp only [wN]; omega
    · have b0 := (hy 0 (by decide)).2; have b1 := (hy 1 (by decide)).2; have b2 := (hy 2 (by decide)).2; have b3 := (hy 3 (by decide)).2; have b4 := (hy 4 (by decide)).2; have b5 := (hy 5 (by decide)).2; simp only [wN]; omega
theorem iw4 {c : Sg} {s k : Nat} {y : Nat → Nat} (hs : s + k ≤ 500) (hy : ∀ i, i < k → c 32 (s + i) = nn (96 + y i) ∧ 1 ≤ y i ∧ y i ≤ 26) : tokens_isWord_c3 (nn s) (nn (s + k)) c = some (if k ≤ 6 ∧ wN y k = 777297172 then 1 else 0) := by
  refine iw_g (n := 6) (l := [23, 5, 9, 7, 8, 20]) rfl rfl (by decide) (by decide) hs hy (fun e => ?_) (fun h6 e => ?_)
  · subst e
    simp only [wN, mt, Nat.zero_add, Nat.reduceAdd, and_true]
    have b0 := (hy 0 (by decide)).2; have b1 := (hy 1 (by decide)).2; have b2 := (hy 2 (by decide)).2; have b3 := (hy 3 (by decide)).2; have b4 := (hy 4 (by decide)).2; have b5 := (hy 5 (by decide)).2
    omega
  · rcases (show k = 0 ∨ k = 1 ∨ k = 2 ∨ k = 3 ∨ k = 4 ∨ k = 5 ∨ k = 6 by omega) with rfl | rfl | rfl | rfl | rfl | rfl | rfl
    · simp only [wN]; omega
    · have b0 := (hy 0 (by decide)).2; simp only [wN]; omega
    · have b0 := (hy 0 (by decide)).2; have b1 := (hy 1 (by decide)).2; simp only [wN]; omega
    · have b0 := (hy 0 (by decide)).2; have b1 := (hy 1 (by decide)).2; have b2 := (hy 2 (by decide)).2; simp only [wN]; omega
    · have b0 := (hy 0 (by decide)).2; have b1 := (hy 1 (by decide)).2; have b2 := (hy 2 (by decide)).2; have b3 := (hy 3 (by decide)).2; simp only [wN]; omega
    · have b0 := (hy 0 (by decide)).2; have b1 := (hy 1 (by decide)).2; have b2 := (hy 2 (by decide)).2; have b3 := (hy 3 (by decide)).2; have b4 := (hy 4 (by decide)).2; simp only [wN]; omega
    · have b0 := (hy 0 (by decide)).2; have b1 := (hy 1 (by decide)).2; have b2 := (hy 2 (by decide)).2; have b3 := (hy 3 (by decide)).2; have b4 := (hy 4 (by decide)).2; have b5 := (hy 5 (by decide)).2; simp only [wN]; omega
theorem iw5 {c : Sg} {s k : Nat} {y : Nat → Nat} (hs : s + k ≤ 500) (hy : ∀ i, i < k → c 32 (s + i) = nn (96 + y i) ∧ 1 ≤ y i ∧ y i ≤ 26) : tokens_isWord_c4 (nn s) (nn (s + k)) c = some (if k ≤ 6 ∧ wN y k = 3764 then 1 else 0) := by
  refine iw_g (n := 3) (l := [3, 21, 20]) rfl rfl (by decide) (by decide) hs hy (fun e => ?_) (fun h6 e => ?_)
  · subst e
    simp only [wN, mt, Nat.zero_add, Nat.reduceAdd, and_true]
    have b0 := (hy 0 (by decide)).2; have b1 := (hy 1 (by decide)).2; have b2 := (hy 2 (by decide)).2
    omega
  · rcases (show k = 0 ∨ k = 1 ∨ k = 2 ∨ k = 3 ∨ k = 4 ∨ k = 5 ∨ k = 6 by omega) with rfl | rfl | rfl | rfl | rfl | rfl | rfl
    · simp only [wN]; omega
    · have b0 := (hy 0 (by decide)).2; simp only [wN]; omega
    · have b0 := (hy 0 (by decide)).2; have b1 := (hy 1 (by decide)).2; simp only [wN]; omega
    · have b0 := (hy 0 (by decide)).2; have b1 := (hy 1 (by decide)).2; have b2 := (hy 2 (by decide)).2; simp only [wN]; omega
    · have b0 := (hy 0 (by decide)).2; have b1 := (hy 1 (by decide)).2; have b2 := (hy 2 (by decide)).2; have b3 := (hy 3 (by decide)).2; simp only [wN]; omega
    · have b0 := (hy 0 (by decide)).2; have b1 := (hy 1 (by decide)).2; have b2 := (hy 2 (by decide)).2; have b3 := (hy 3 (by decide)).2; have b4 := (hy 4 (by decide)).2; simp only [wN]; omega
    · have b0 := (hy 0 (by decide)).2; have b1 := (hy 1 (by decide)).2; have b2 := (hy 2 (by decide)).2; have b3 := (hy 3 (by decide)).2; have b4 := (hy 4 (by decide)).2; have b5 := (hy 5 (by decide)).2; simp only [wN]; omega
theorem iw6 {c : Sg} {s k : Nat} {y : Nat → Nat} (hs : s + k ≤ 500) (hy : ∀ i, i < k → c 32 (s + i) = nn (96 + y i) ∧ 1 ≤ y i ∧ y i ≤ 26) : tokens_isWord_c5 (nn s) (nn (s + k)) c = some (if k ≤ 6 ∧ wN y k = 215205 then 1 else 0) := by
  refine iw_g (n := 4) (l := [6, 18, 5, 5]) rfl rfl (by decide) (by decide) hs hy (fun e => ?_) (fun h6 e => ?_)
  · subst e
    simp only [wN, mt, Nat.zero_add, Nat.reduceAdd, and_true]
    have b0 := (hy 0 (by decide)).2; have b1 := (hy 1 (by decide)).2; have b2 := (hy 2 (by decide)).2; have b3 := (hy 3 (by decide)).2
    omega
  · rcases (show k = 0 ∨ k = 1 ∨ k = 2 ∨ k = 3 ∨ k = 4 ∨ k = 5 ∨ k = 6 by omega) with rfl | rfl | rfl | rfl | rfl | rfl | rfl
    · simp only [wN]; omega
    · have b0 := (hy 0 (by decide)).2; simp only [wN]; omega
    · have b0 := (hy 0 (by decide)).2; have b1 := (hy 1 (by decide)).2; simp only [wN]; omega
    · have b0 := (hy 0 (by decide)).2; have b1 := (hy 1 (by decide)).2; have b2 := (hy 2 (by decide)).2; simp only [wN]; omega
    · have b0 := (hy 0 (by decide)).2; have b1 := (hy 1 (by decide)).2; have b2 := (hy 2 (by decide)).2; have b3 := (hy 3 (by decide)).2; simp only [wN]; omega
    · have b0 := (hy 0 (by decide)).2; have b1 := (hy 1 (by decide)).2; have b2 := (hy 2 (by decide)).2; have b3 := (hy 3 (by decide)).2; have b4 := (hy 4 (by decide)).2; simp only [wN]; omega
    · have b0 := (hy 0 (by decide)).2; have b1 := (hy 1 (by decide)).2; have b2 := (hy 2 (by decide)).2; have b3 := (hy 3 (by decide)).2; have b4 := (hy 4 (by decide)).2; have b5 := (hy 5 (by decide)).2; simp only [wN]; omega
theorem iw7 {c : Sg} {s k : Nat} {y : Nat → Nat} (hs : s + k ≤ 500) (hy : ∀ i, i < k → c 32 (s + i) = nn (96 + y i) ∧ 1 ≤ y i ∧ y i ≤ 26) : tokens_isWord_c6 (nn s) (nn (s + k)) c = some (if k ≤ 6 ∧ wN y k = 4697 then 1 else 0) := by
  refine iw_g (n := 3) (l := [4, 18, 25]) rfl rfl (by decide) (by decide) hs hy (fun e => ?_) (fun h6 e => ?_)
  · subst e
    simp only [wN, mt, Nat.zero_add, Nat.reduceAdd, and_true]
    have b0 := (hy 0 (by decide)).2; have b1 := (hy 1 (by decide)).2; have b2 := (hy 2 (by decide)).2
    omega
  · rcases (show k = 0 ∨ k = 1 ∨ k = 2 ∨ k = 3 ∨ k = 4 ∨ k = 5 ∨ k = 6 by omega) with rfl | rfl | rfl | rfl | rfl | rfl | rfl
    · simp only [wN]; omega
    · have b0 := (hy 0 (by decide)).2; simp only [wN]; omega
    · have b0 := (hy 0 (by decide)).2; have b1 := (hy 1 (by decide)).2; simp only [wN]; omega
    · have b0 := (hy 0 (by decide)).2; have b1 := (hy 1 (by decide)).2; have b2 := (hy 2 (by decide)).2; simp only [wN]; omega
    · have b0 := (hy 0 (by decide)).2; have b1 := (hy 1 (by decide)).2; have b2 := (hy 2 (by decide)).2; have b3 := (hy 3 (by decide)).2; simp only [wN]; omega
    · have b0 := (hy 0 (by decide)).2; have b1 := (hy 1 (by decide)).2; have b2 := (hy 2 (by decide)).2; have b3 := (hy 3 (by decide)).2; have b4 := (hy 4 (by decide)).2; simp only [wN]; omega
    · have b0 := (hy 0 (by decide)).2; have b1 := (hy 1 (by decide)).2; have b2 := (hy 2 (by decide)).2; have b3 := (hy 3 (by decide)).2; have b4 := (hy 4 (by decide)).2; have b5 := (hy 5 (by decide)).2; simp only [wN]; omega
theorem iw8 {c : Sg} {s k : Nat} {y : Nat → Nat} (hs : s + k ≤ 500) (hy : ∀ i, i < k → c 32 (s + i) = nn (96 + y i) ∧ 1 ≤ y i ∧ y i ≤ 26) : tokens_isWord_c7 (nn s) (nn (s + k)) c = some (if k ≤ 6 ∧ wN y k = 8902227 then 1 else 0) := by
  refine iw_g (n := 5) (l := [8, 15, 21, 18, 19]) rfl rfl (by decide) (by decide) hs hy (fun e => ?_) (fun h6 e => ?_)
  · subst e
    simp only [wN, mt, Nat.zero_add, Nat.reduceAdd, and_true]
    have b0 := (hy 0 (by decide)).2; have b1 := (hy 1 (by decide)).2; have b2 := (hy 2 (by decide)).2; have b3 := (hy 3 (by decide)).2; have b4 := (hy 4 (by decide)).2
    omega
  · rcases (show k = 0 ∨ k = 1 ∨ k = 2 ∨ k = 3 ∨ k = 4 ∨ k = 5 ∨ k = 6 by omega) with rfl | rfl | rfl | rfl | rfl | rfl | rfl
    · simp only [wN]; omega
    · have b0 := (hy 0 (by decide)).2; simp only [wN]; omega
    · have b0 := (hy 0 (by decide)).2; have b1 := (hy 1 (by decide)).2; simp only [wN]; omega
    · have b0 := (hy 0 (by decide)).2; have b1 := (hy 1 (by decide)).2; have b2 := (hy 2 (by decide)).2; simp only [wN]; omega
    · have b0 := (hy 0 (by decide)).2; have b1 := (hy 1 (by decide)).2; have b2 := (hy 2 (by decide)).2; have b3 := (hy 3 (by decide)).2; simp only [wN]; omega
    · have b0 := (hy 0 (by decide)).2; have b1 := (hy 1 (by decide)).2; have b2 := (hy 2 (by decide)).2; have b3 := (hy 3 (by decide)).2; have b4 := (hy 4 (by decide)).2; simp only [wN]; omega
    · have b0 := (hy 0 (by decide)).2; have b1 := (hy 1 (by decide)).2; have b2 := (hy 2 (by decide)).2; have b3 := (hy 3 (by decide)).2; have b4 := (hy 4 (by decide)).2; have b5 := (hy 5 (by decide)).2; simp only [wN]; omega
theorem iw9 {c : Sg} {s k : Nat} {y : Nat → Nat} (hs : s + k ≤ 500) (hy : ∀ i, i < k → c 32 (s + i) = nn (96 + y i) ∧ 1 ≤ y i ∧ y i ≤ 26) : tokens_isWord_c8 (nn s) (nn (s + k)) c = some (if k ≤ 6 ∧ wN y k = 14982420 then 1 else 0) := by
  refine iw_g (n := 5) (l := [14, 9, 7, 8, 20]) rfl rfl (by decide) (by decide) hs hy (fun e => ?_) (fun h6 e => ?_)
  · subst e
    simp only [wN, mt, Nat.zero_add, Nat.reduceAdd, and_true]
    have b0 := (hy 0 (by decide)).2; have b1 := (hy 1 (by decide)).2; have b2 := (hy 2 (by decide)).2; have b3 := (hy 3 (by decide)).2; have b4 := (hy 4 (by decide)).2
    omega
  · rcases (show k = 0 ∨ k = 1 ∨ k = 2 ∨ k = 3 ∨ k = 4 ∨ k = 5 ∨ k = 6 by omega) with rfl | rfl | rfl | rfl | rfl | rfl | rfl
    · simp only [wN]; omega
    · have b0 := (hy 0 (by decide)).2; simp only [wN]; omega
    · have b0 := (hy 0 (by decide)).2; have b1 := (hy 1 (by decide)).2; simp only [wN]; omega
    · have b0 := (hy 0 (by decide)).2; have b1 := (hy 1 (by decide)).2; have b2 := (hy 2 (by decide)).2; simp only [wN]; omega
    · have b0 := (hy 0 (by decide)).2; have b1 := (hy 1 (by decide)).2; have b2 := (hy 2 (by decide)).2; have b3 := (hy 3 (by decide)).2; simp only [wN]; omega
    · have b0 := (hy 0 (by decide)).2; have b1 := (hy 1 (by decide)).2; have b2 := (hy 2 (by decide)).2; have b3 := (hy 3 (by decide)).2; have b4 := (hy 4 (by decide)).2; simp only [wN]; omega
    · have b0 := (hy 0 (by decide)).2; have b1 := (hy 1 (by decide)).2; have b2 := (hy 2 (by decide)).2; have b3 := (hy 3 (by decide)).2; have b4 := (hy 4 (by decide)).2; have b5 := (hy 5 (by decide)).2; simp only [wN]; omega
theorem iw10 {c : Sg} {s k : Nat} {y : Nat → Nat} (hs : s + k ≤ 500) (hy : ∀ i, i < k → c 32 (s + i) = nn (96 + y i) ∧ 1 ≤ y i ∧ y i ≤ 26) : tokens_isWord_c9 (nn s) (nn (s + k)) c = some (if k ≤ 6 ∧ wN y k = 6194 then 1 else 0) := by
  refine iw_g (n := 3) (l := [6, 1, 18]) rfl rfl (by decide) (by decide) hs hy (fun e => ?_) (fun h6 e => ?_)
  · subst e
    simp only [wN, mt, Nat.zero_add, Nat.reduceAdd, and_true]
    have b0 := (hy 0 (by decide)).2; have b1 := (hy 1 (by decide)).2; have b2 := (hy 2 (by decide)).2
    omega
  · rcases (show k = 0 ∨ k = 1 ∨ k = 2 ∨ k = 3 ∨ k = 4 ∨ k = 5 ∨ k = 6 by omega) with rfl | rfl | rfl | rfl | rfl | rfl | rfl
    · simp only [wN]; omega
    · have b0 := (hy 0 (by decide)).2; simp only [wN]; omega
    · have b0 := (hy 0 (by decide)).2; have b1 := (hy 1 (by decide)).2; simp only [wN]; omega
    · have b0 := (hy 0 (by decide)).2; have b1 := (hy 1 (by decide)).2; have b2 := (hy 2 (by decide)).2; simp only [wN]; omega
    · have b0 := (hy 0 (by decide)).2; have b1 := (hy 1 (by decide)).2; have b2 := (hy 2 (by decide)).2; have b3 := (hy 3 (by decide)).2; simp only [wN]; omega
    · have b0 := (hy 0 (by decide)).2; have b1 := (hy 1 (by decide)).2; have b2 := (hy 2 (by decide)).2; have b3 := (hy 3 (by decide)).2; have b4 := (hy 4 (by decide)).2; simp only [wN]; omega
    · have b0 := (hy 0 (by decide)).2; have b1 := (hy 1 (by decide)).2; have b2 := (hy 2 (by decide)).2; have b3 := (hy 3 (by decide)).2; have b4 := (hy 4 (by decide)).2; have b5 := (hy 5 (by decide)).2; simp only [wN]; omega
theorem iw11 {c : Sg} {s k : Nat} {y : Nat → Nat} (hs : s + k ≤ 500) (hy : ∀ i, i < k → c 32 (s + i) = nn (96 + y i) ∧ 1 ≤ y i ∧ y i ≤ 26) : tokens_isWord_c10 (nn s) (nn (s + k)) c = some (if k ≤ 6 ∧ wN y k = 284561586 then 1 else 0) := by
  refine iw_g (n := 6) (l := [8, 15, 12, 4, 5, 18]) rfl rfl (by decide) (by decide) hs hy (fun e => ?_) (fun h6 e => ?_)
  · subst e
    simp only [wN, mt, Nat.zero_add, Nat.reduceAdd, and_true]
    have b0 := (hy 0 (by decide)).2; have b1 := (hy 1 (by decide)).2; have b2 := (hy 2 (by decide)).2; have b3 := (hy 3 (by decide)).2; have b4 := (hy 4 (by decide)).2; have b5 := (hy 5 (by decide)).2
    omega
  · rcases (show k = 0 ∨ k = 1 ∨ k = 2 ∨ k = 3 ∨ k = 4 ∨ k = 5 ∨ k = 6 by omega) with rfl | rfl | rfl | rfl | rfl | rfl | rfl
    · simp only [wN]; omega
    · have b0 := (hy 0 (by decide)).2; simp only [wN]; omega
    · have b0 := (hy 0 (by decide)).2; have b1 := (hy 1 (by decide)).2; simp only [wN]; omega
    · have b0 := (hy 0 (by decide)).2; have b1 := (hy 1 (by decide)).2; have b2 := (hy 2 (by decide)).2; simp only [wN]; omega
    · have b0 := (hy 0 (by decide)).2; have b1 := (hy 1 (by decide)).2; have b2 := (hy 2 (by decide)).2; have b3 := (hy 3 (by decide)).2; simp only [wN]; omega
    · have b0 := (hy 0 (by decide)).2; have b1 := (hy 1 (by decide)).2; have b2 := (hy 2 (by decide)).2; have b3 := (hy 3 (by decide)).2; have b4 := (hy 4 (by decide)).2; simp only [wN]; omega
    · have b0 := (hy 0 (by decide)).2; have b1 := (hy 1 (by decide)).2; have b2 := (hy 2 (by decide)).2; have b3 := (hy 3 (by decide)).2; have b4 := (hy 4 (by decide)).2; have b5 := (hy 5 (by decide)).2; simp only [wN]; omega
theorem iw12 {c : Sg} {s k : Nat} {y : Nat → Nat} (hs : s + k ≤ 500) (hy : ∀ i, i < k → c 32 (s + i) = nn (96 + y i) ∧ 1 ≤ y i ∧ y i ≤ 26) : tokens_isWord_c11 (nn s) (nn (s + k)) c = some (if k ≤ 6 ∧ wN y k = 515236 then 1 else 0) := by
  refine iw_g (n := 4) (l := [15, 23, 5, 4]) rfl rfl (by decide) (by decide) hs hy (fun e => ?_) (fun h6 e => ?_)
  · subst e
    simp only [wN, mt, Nat.zero_add, Nat.reduceAdd, and_true]
    have b0 := (hy 0 (by decide)).2; have b1 := (hy 1 (by decide)).2; have b2 := (hy 2 (by decide)).2; have b3 := (hy 3 (by decide)).2
    omega
  · rcases (show k = 0 ∨ k = 1 ∨ k = 2 ∨ k = 3 ∨ k = 4 ∨ k = 5 ∨ k = 6 by omega) with rfl | rfl | rfl | rfl | rfl | rfl | rfl
    · simp only [wN]; omega
    · have b0 := (hy 0 (by decide)).2; simp only [wN]; omega
    · have b0 := (hy 0 (by decide)).2; have b1 := (hy 1 (by decide)).2; simp only [wN]; omega
    · have b0 := (hy 0 (by decide)).2; have b1 := (hy 1 (by decide)).2; have b2 := (hy 2 (by decide)).2; simp only [wN]; omega
    · have b0 := (hy 0 (by decide)).2; have b1 := (hy 1 (by decide)).2; have b2 := (hy 2 (by decide)).2; have b3 := (hy 3 (by decide)).2; simp only [wN]; omega
    · have b0 := (hy 0 (by decide)).2; have b1 := (hy 1 (by decide)).2; have b2 := (hy 2 (by decide)).2; have b3 := (hy 3 (by decide)).2; have b4 := (hy 4 (by decide)).2; simp only [wN]; omega
    · have b0 := (hy 0 (by decide)).2; have b1 := (hy 1 (by decide)).2; have b2 := (hy 2 (by decide)).2; have b3 := (hy 3 (by decide)).2; have b4 := (hy 4 (by decide)).2; have b5 := (hy 5 (by decide)).2; simp only [wN]; omega
def mW (K : Nat) : Int32 := if K = 0 then 99 else if K = 1 then 30 else if K = 2 then 31 else if K = 3 then 32 else if K ≤ 6 then nn (16 + K) else nn (K - 6)
theorem wl {b : Nat → Int32} {s k : Nat} {y : Nat → Nat} (hs : s + k ≤ 500) (hy : ∀ i, i < k → b (s + i) = nn (96 + y i) ∧ 1 ≤ y i ∧ y i ≤ 26) : ∃ K, K ≤ 12 ∧ (∀ c : Sg, c 32 = b → tokens_wordOf (nn s) (nn (s + k)) c = some (nn K)) ∧ (∀ M : Sg, k ≤ 6 → m_wordOf (LI (wN y k : Int)) M = some (mW K)) ∧ (6 < k → K = 0) := by
  by_cases h1 : k ≤ 6 ∧ wN y k = 294
  · refine ⟨1, by decide, fun c hc => ?_, fun M _ => ?_, fun z => absurd h1.1 (by omega)⟩
    · subst hc
      unfold tokens_wordOf
      exact st_b ((iw1 hs hy).trans (congrArg some (if_pos h1))) (st_f (by decide) rfl)
    · rw [h1.2]
      show m_wordOf (LI ((294 : Nat) : Int)) (fun _ _ => 0) = some (mW 1)
      decide +kernel
  by_cases h2 : k ≤ 6 ∧ wN y k = 1476
  · refine ⟨2, by decide, fun c hc => ?_, fun M _ => ?_, fun z => absurd h2.1 (by omega)⟩
    · subst hc
      unfold tokens_wordOf
      exact st_b ((iw1 hs hy).trans (congrArg some (if_neg h1))) (st_t rfl (st_b ((iw2 hs hy).trans (congrArg some (if_pos h2))) (st_f (by decide) rfl)))
    · rw [h2.2]
      show m_wordOf (LI ((1476 : Nat) : Int)) (fun _ _ => 0) = some (mW 2)
      decide +kernel
  by_cases h3 : k ≤ 6 ∧ wN y k = 14836
  · refine ⟨3, by decide, fun c hc => ?_, fun M _ => ?_, fun z => absurd h3.1 (by omega)⟩
    · subst hc
      unfold tokens_wordOf
      exact st_b ((iw1 hs hy).trans (congrArg some (if_neg h1))) (st_t rfl (st_b ((iw2 hs hy).trans (congrArg some (if_neg h2))) (st_t rfl (st_b ((iw3 hs hy).trans (congrArg some (if_pos h3))) (st_f (by decide) rfl)))))
    · rw [h3.2]
      show m_wordOf (LI ((14836 : Nat) : Int)) (fun _ _ => 0) = some (mW 3)
      decide +kernel
  by_cases h4 : k ≤ 6 ∧ wN y k = 777297172
  · refine ⟨4, by decide, fun c hc => ?_, fun M _ => ?_, fun z => absurd h4.1 (by omega)⟩
    · subst hc
      unfold tokens_wordOf
      exact st_b ((iw1 hs hy).trans (congrArg some (if_neg h1))) (st_t rfl (st_b ((iw2 hs hy).trans (congrArg some (if_neg h2))) (st_t rfl (st_b ((iw3 hs hy).trans (congrArg some (if_neg h3))) (st_t rfl (st_b ((iw4 hs hy).trans (congrArg some (if_pos h4))) (st_f (by decide) rfl)))))))
    · rw [h4.2]
      show m_wordOf (LI ((777297172 : Nat) : Int)) (fun _ _ => 0) = some (mW 4)
      decide +kernel
  by_cases h5 : k ≤ 6 ∧ wN y k = 3764
  · refine ⟨5, by decide, fun c hc => ?_, fun M _ => ?_, fun z => absurd h5.1 (by omega)⟩
    · subst hc
      unfold tokens_wordOf
      exact st_b ((iw1 hs hy).trans (congrArg some (if_neg h1))) (st_t rfl (st_b ((iw2 hs hy).trans (congrArg some (if_neg h2))) (st_t rfl (st_b ((iw3 hs hy).trans (congrArg some (if_neg h3))) (st_t rfl (st_b ((iw4 hs hy).trans (congrArg some (if_neg h4))) (st_t rfl (st_b ((iw5 hs hy).trans (congrArg some (if_pos h5))) (st_f (by decide) rfl)))))))))
    · rw [h5.2]
      show m_wordOf (LI ((3764 : Nat) : Int)) (fun _ _ => 0) = some (mW 5)
      decide +kernel
  by_cases h6 : k ≤ 6 ∧ wN y k = 215205
  · refine ⟨6, by decide, fun c hc => ?_, fun M _ => ?_, fun z => absurd h6.1 (by omega)⟩
    · subst hc
      unfold tokens_wordOf
      exact st_b ((iw1 hs hy).trans (congrArg some (if_neg h1))) (st_t rfl (st_b ((iw2 hs hy).trans (congrArg some (if_neg h2))) (st_t rfl (st_b ((iw3 hs hy).trans (congrArg some (if_neg h3))) (st_t rfl (st_b ((iw4 hs hy).trans (congrArg some (if_neg h4))) (st_t rfl (st_b ((iw5 hs hy).trans (congrArg some (if_neg h5))) (st_t rfl (st_b ((iw6 hs hy).trans (congrArg some (if_pos h6))) (st_f (by decide) rfl)))))))))))
    · rw [h6.2]
      show m_wordOf (LI ((215205 : Nat) : Int)) (fun _ _ => 0) = some (mW 6)
      decide +kernel
  by_cases h7 : k ≤ 6 ∧ wN y k = 4697
  · refine ⟨7, by decide, fun c hc => ?_, fun M _ => ?_, fun z => absurd h7.1 (by omega)⟩
    · subst hc
      unfold tokens_wordOf
      exact st_b ((iw1 hs hy).trans (congrArg some (if_neg h1))) (st_t rfl (st_b ((iw2 hs hy).trans (congrArg some (if_neg h2))) (st_t rfl (st_b ((iw3 hs hy).trans (congrArg some (if_neg h3))) (st_t rfl (st_b ((iw4 hs hy).trans (congrArg some (if_neg h4))) (st_t rfl (st_b ((iw5 hs hy).trans (congrArg some (if_neg h5))) (st_t rfl (st_b ((iw6 hs hy).trans (congrArg some (if_neg h6))) (st_t rfl (st_b ((iw7 hs hy).trans (congrArg some (if_pos h7))) (st_f (by decide) rfl)))))))))))))
    · rw [h7.2]
      show m_wordOf (LI ((4697 : Nat) : Int)) (fun _ _ => 0) = some (mW 7)
      decide +kernel
  by_cases h8 : k ≤ 6 ∧ wN y k = 8902227
  · refine ⟨8, by decide, fun c hc => ?_, fun M _ => ?_, fun z => absurd h8.1 (by omega)⟩
    · subst hc
      unfold tokens_wordOf
      exact st_b ((iw1 hs hy).trans (congrArg some (if_neg h1))) (st_t rfl (st_b ((iw2 hs hy).trans (congrArg some (if_neg h2))) (st_t rfl (st_b ((iw3 hs hy).trans (congrArg some (if_neg h3))) (st_t rfl (st_b ((iw4 hs hy).trans (congrArg some (if_neg h4))) (st_t rfl (st_b ((iw5 hs hy).trans (congrArg some (if_neg h5))) (st_t rfl (st_b ((iw6 hs hy).trans (congrArg some (if_neg h6))) (st_t rfl (st_b ((iw7 hs hy).trans (congrArg some (if_neg h7))) (st_t rfl (st_b ((iw8 hs hy).trans (congrArg some (if_pos h8))) (st_f (by decide) rfl)))))))))))))))
    · rw [h8.2]
      show m_wordOf (LI ((8902227 : Nat) : Int)) (fun _ _ => 0) = some (mW 8)
      decide +kernel
  by_cases h9 : k ≤ 6 ∧ wN y k = 14982420
  · refine ⟨9, by decide, fun c hc => ?_, fun M _ => ?_, fun z => absurd h9.1 (by omega)⟩
    · subst hc
      unfold tokens_wordOf
      exact st_b ((iw1 hs hy).trans (congrArg some (if_neg h1))) (st_t rfl (st_b ((iw2 hs hy).trans (congrArg some (if_neg h2))) (st_t rfl (st_b ((iw3 hs hy).trans (congrArg some (if_neg h3))) (st_t rfl (st_b ((iw4 hs hy).trans (congrArg some (if_neg h4))) (st_t rfl (st_b ((iw5 hs hy).trans (congrArg some (if_neg h5))) (st_t rfl (st_b ((iw6 hs hy).trans (congrArg some (if_neg h6))) (st_t rfl (st_b ((iw7 hs hy).trans (congrArg some (if_neg h7))) (st_t rfl (st_b ((iw8 hs hy).trans (congrArg some (if_neg h8))) (st_t rfl (st_b ((iw9 hs hy).trans (congrArg some (if_pos h9))) (st_f (by decide) rfl)))))))))))))))))
    · rw [h9.2]
      show m_wordOf (LI ((14982420 : Nat) : Int)) (fun _ _ => 0) = some (mW 9)
      decide +kernel
  by_cases h10 : k ≤ 6 ∧ wN y k = 6194
  · refine ⟨10, by decide, fun c hc => ?_, fun M _ => ?_, fun z => absurd h10.1 (by omega)⟩
    · subst hc
      unfold tokens_wordOf
      exact st_b ((iw1 hs hy).trans (congrArg some (if_neg h1))) (st_t rfl (st_b ((iw2 hs hy).trans (congrArg some (if_neg h2))) (st_t rfl (st_b ((iw3 hs hy).trans (congrArg some (if_neg h3))) (st_t rfl (st_b ((iw4 hs hy).trans (congrArg some (if_neg h4))) (st_t rfl (st_b ((iw5 hs hy).trans (congrArg some (if_neg h5))) (st_t rfl (st_b ((iw6 hs hy).trans (congrArg some (if_neg h6))) (st_t rfl (st_b ((iw7 hs hy).trans (congrArg some (if_neg h7))) (st_t rfl (st_b ((iw8 hs hy).trans (congrArg some (if_neg h8))) (st_t rfl (st_b ((iw9 hs hy).trans (congrArg some (if_neg h9))) (st_t rfl (st_b ((iw10 hs hy).trans (congrArg some (if_pos h10))) (st_f (by decide) rfl)))))))))))))))))))
    · rw [h10.2]
      show m_wordOf (LI ((6194 : Nat) : Int)) (fun _ _ => 0) = some (mW 10)
      decide +kernel
  by_cases h11 : k ≤ 6 ∧ wN y k = 284561586
  · refine ⟨11, by decide, fun c hc => ?_, fun M _ => ?_, fun z => absurd h11.1 (by omega)⟩
    · subst hc
      unfold tokens_wordOf
      exact st_b ((iw1 hs hy).trans (congrArg some (if_neg h1))) (st_t rfl (st_b ((iw2 hs hy).trans (congrArg some (if_neg h2))) (st_t rfl (st_b ((iw3 hs hy).trans (congrArg some (if_neg h3))) (st_t rfl (st_b ((iw4 hs hy).trans (congrArg some (if_neg h4))) (st_t rfl (st_b ((iw5 hs hy).trans (congrArg some (if_neg h5))) (st_t rfl (st_b ((iw6 hs hy).trans (congrArg some (if_neg h6))) (st_t rfl (st_b ((iw7 hs hy).trans (congrArg some (if_neg h7))) (st_t rfl (st_b ((iw8 hs hy).trans (congrArg some (if_neg h8))) (st_t rfl (st_b ((iw9 hs hy).trans (congrArg some (if_neg h9))) (st_t rfl (st_b ((iw10 hs hy).trans (congrArg some (if_neg h10))) (st_t rfl (st_b ((iw11 hs hy).trans (congrArg some (if_pos h11))) (st_f (by decide) rfl)))))))))))))))))))))
    · rw [h11.2]
      show m_wordOf (LI ((284561586 : Nat) : Int)) (fun _ _ => 0) = some (mW 11)
      decide +kernel
  by_cases h12 : k ≤ 6 ∧ wN y k = 515236
  · refine ⟨12, by decide, fun c hc => ?_, fun M _ => ?_, fun z => absurd h12.1 (by omega)⟩
    · subst hc
      unfold tokens_wordOf
      exact st_b ((iw1 hs hy).trans (congrArg some (if_neg h1))) (st_t rfl (st_b ((iw2 hs hy).trans (congrArg some (if_neg h2))) (st_t rfl (st_b ((iw3 hs hy).trans (congrArg some (if_neg h3))) (st_t rfl (st_b ((iw4 hs hy).trans (congrArg some (if_neg h4))) (st_t rfl (st_b ((iw5 hs hy).trans (congrArg some (if_neg h5))) (st_t rfl (st_b ((iw6 hs hy).trans (congrArg some (if_neg h6))) (st_t rfl (st_b ((iw7 hs hy).trans (congrArg some (if_neg h7))) (st_t rfl (st_b ((iw8 hs hy).trans (congrArg some (if_neg h8))) (st_t rfl (st_b ((iw9 hs hy).trans (congrArg some (if_neg h9))) (st_t rfl (st_b ((iw10 hs hy).trans (congrArg some (if_neg h10))) (st_t rfl (st_b ((iw11 hs hy).trans (congrArg some (if_neg h11))) (st_t rfl (st_b ((iw12 hs hy).trans (congrArg some (if_pos h12))) (st_f (by decide) rfl)))))))))))))))))))))))
    · rw [h12.2]
      show m_wordOf (LI ((515236 : Nat) : Int)) (fun _ _ => 0) = some (mW 12)
      decide +kernel
  refine ⟨0, by decide, fun c hc => ?_, fun M hk6 => ?_, fun _ => rfl⟩
  · subst hc
    unfold tokens_wordOf
    exact st_b ((iw1 hs hy).trans (congrArg some (if_neg h1))) (st_t rfl (st_b ((iw2 hs hy).trans (congrArg some (if_neg h2))) (st_t rfl (st_b ((iw3 hs hy).trans (congrArg some (if_neg h3))) (st_t rfl (st_b ((iw4 hs hy).trans (congrArg some (if_neg h4))) (st_t rfl (st_b ((iw5 hs hy).trans (congrArg some (if_neg h5))) (st_t rfl (st_b ((iw6 hs hy).trans (congrArg some (if_neg h6))) (st_t rfl (st_b ((iw7 hs hy).trans (congrArg some (if_neg h7))) (st_t rfl (st_b ((iw8 hs hy).trans (congrArg some (if_neg h8))) (st_t rfl (st_b ((iw9 hs hy).trans (congrArg some (if_neg h9))) (st_t rfl (st_b ((iw10 hs hy).trans (congrArg some (if_neg h10))) (st_t rfl (st_b ((iw11 hs hy).trans (congrArg some (if_neg h11))) (st_t rfl (st_b ((iw12 hs hy).trans (congrArg some (if_neg h12))) (st_t rfl (rfl))))))))))))))))))))))))
  · have hw : wN y k < 4000000000 := by
      rcases (show k = 0 ∨ k = 1 ∨ k = 2 ∨ k = 3 ∨ k = 4 ∨ k = 5 ∨ k = 6 by omega) with rfl | rfl | rfl | rfl | rfl | rfl | rfl
      · simp only [wN]; omega
      · have b0 := (hy 0 (by decide)).2; simp only [wN]; omega
      · have b0 := (hy 0 (by decide)).2; have b1 := (hy 1 (by decide)).2; simp only [wN]; omega
      · have b0 := (hy 0 (by decide)).2; have b1 := (hy 1 (by decide)).2; have b2 := (hy 2 (by decide)).2; simp only [wN]; omega
      · have b0 := (hy 0 (by decide)).2; have b1 := (hy 1 (by decide)).2; have b2 := (hy 2 (by decide)).2; have b3 := (hy 3 (by decide)).2; simp only [wN]; omega
      · have b0 := (hy 0 (by decide)).2; have b1 := (hy 1 (by decide)).2; have b2 := (hy 2 (by decide)).2; have b3 := (hy 3 (by decide)).2; have b4 := (hy 4 (by decide)).2; simp only [wN]; omega
      · have b0 := (hy 0 (by decide)).2; have b1 := (hy 1 (by decide)).2; have b2 := (hy 2 (by decide)).2; have b3 := (hy 3 (by decide)).2; have b4 := (hy 4 (by decide)).2; have b5 := (hy 5 (by decide)).2; simp only [wN]; omega
    have hq : ∀ C : Nat, C < 4000000000 → ¬ (k ≤ 6 ∧ wN y k = C) → ¬ lg_cmp (LI (wN y k : Int)) (LI (C : Int)) = 0 := fun C hC h z => h ⟨hk6, Int.ofNat.inj ((cmp_eq (a := (wN y k : Int)) (b := (C : Int)) (by omega) (by omega) (by omega) (by omega)).mp z)⟩
    unfold m_wordOf
    exact st_t (hq 4697 (by decide) h7) (st_t (hq 8902227 (by decide) h8) (st_t (hq 14982420 (by decide) h9) (st_t (hq 6194 (by decide) h10) (st_t (hq 284561586 (by decide) h11) (st_t (hq 515236 (by decide) h12) (st_t (hq 777297172 (by decide) h4) (st_t (hq 3764 (by decide) h5) (st_t (hq 215205 (by decide) h6) (st_t (hq 294 (by decide) h1) (st_t (hq 1476 (by decide) h2) (st_t (hq 14836 (by decide) h3) (rfl))))))))))))
