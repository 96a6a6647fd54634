/-! laid turns: who takes part -/
def bitA (f v : Nat) : Int32 := (nn f >>> (nn v &&& 31)) &&& 1
def cntB (f : Nat) : Nat → Nat
  | 0 => 0
  | v + 1 => cntB f v + (if f / 2 ^ v % 2 = 1 then 1 else 0)
section BT
set_option maxRecDepth 100000 in
theorem bit_n : ∀ f, f < 1024 → ∀ v, v < 10 → (f / 2 ^ v % 2 = 1 ∧ bitA f v = 1) ∨ (¬ f / 2 ^ v % 2 = 1 ∧ bitA f v = 0) := by decide +kernel
set_option maxRecDepth 100000 in
theorem bcnt : ∀ f, f < 1024 → jI_bitCount (nn f) (fun _ _ => 0) = some (nn (cntB f 10)) := by decide +kernel
set_option maxRecDepth 100000 in
theorem cnt0 : ∀ f, f < 1024 → (cntB f 10 = 0 ↔ f = 0) := by decide +kernel
set_option maxRecDepth 100000 in
theorem pow_b : ∀ N, N < 11 → ∀ f, f < 1024 → (f < 2 ^ N ↔ ∀ v, v < 10 → f / 2 ^ v % 2 = 1 → v < N) := by decide +kernel
set_option maxRecDepth 100000 in
theorem shl_p : ∀ N, N < 11 → ((1 : Int32) <<< (nn N &&& 31)) = nn (2 ^ N) ∧ 2 ^ N ≤ 1024 := by decide +kernel
end BT
theorem cntB_m {f v : Nat} : ∀ m, cntB f v ≤ cntB f (v + m)
  | 0 => Nat.le_refl _
  | m + 1 => Nat.le_trans (cntB_m m) (Nat.le_add_right _ _)
theorem cntB_e {f v : Nat} : ∀ m, (∀ x, v ≤ x → x < v + m → ¬ f / 2 ^ x % 2 = 1) → cntB f (v + m) = cntB f v
  | 0, _ => rfl
  | m + 1, h => by
    show cntB f (v + m) + (if f / 2 ^ (v + m) % 2 = 1 then 1 else 0) = _
    rw [if_neg (h (v + m) (by omega) (by omega)), cntB_e m (fun x h1 h2 => h x h1 (by omega))]
    rfl
theorem cntB_ex {f : Nat} : ∀ v p, p < cntB f v → ∃ x, x < v ∧ f / 2 ^ x % 2 = 1 ∧ cntB f x = p
  | 0, _, h => absurd h (Nat.not_lt_zero _)
  | v + 1, p, h => by
    by_cases e : f / 2 ^ v % 2 = 1
    · have h : p < cntB f v + (if f / 2 ^ v % 2 = 1 then 1 else 0) := h
      rw [if_pos e] at h
      by_cases e2 : p = cntB f v
      · exact ⟨v, Nat.lt_succ_self _, e, e2.symm⟩
      · obtain ⟨x, h1, h2⟩ := cntB_ex (f := f) v p (by omega)
        exact ⟨x, by omega, h2⟩
    · have h : p < cntB f v + (if f / 2 ^ v % 2 = 1 then 1 else 0) := h
      rw [if_neg e] at h
      obtain ⟨x, h1, h2⟩ := cntB_ex (f := f) v p (by omega)
      exact ⟨x, by omega, h2⟩
section WT
variable {g : Sg} {N C Q f : Nat}
theorem arL (h : RNet g (g 216) N C Q) (hf : f < 1024) : ∀ m v F, v + m = 10 → m < F → net_areFields_15 F (nn f) (nn v) g = some (b01 (∀ x, v ≤ x → x < 10 → f / 2 ^ x % 2 = 1 → x < N ∧ g 3 x = 4)) := by
  have hN := h.hN
  intro m
  induction m with
  | zero =>
    intro v F hv hF
    obtain ⟨F, rfl⟩ : ∃ F2, F = F2 + 1 := ⟨F - 1, by omega⟩
    have : v = 10 := by omega
    subst this
    rw [b01_y (fun x h1 h2 => absurd h1 (by omega))]
    unfold net_areFields_15
    exact if_pos (by decide)
  | succ m ih =>
    intro v F hv hF
    obtain ⟨F, rfl⟩ : ∃ F2, F = F2 + 1 := ⟨F - 1, by omega⟩
    have h3 : ¬ 10 ≤ v := by omega
    have IH := ih (v + 1) F (by omega) (by omega)
    have eb : (nn f >>> (nn v &&& 31)) &&& 1 = bitA f v := rfl
    unfold net_areFields_15
    rw [eb, show nn v + 1 = nn (v + 1) from nnA v 1]
    refine st_f (by simp (disch := first | omega | decide) only [lt1, nnMl, nnMr, nnAl, nnAr, nnA, nnM, nnB, nnT, nnP, nnE, nnEl, nnEr, nnL, nnLl, nnLr, nnQ, nnQr, nnN, Nat.add_zero, if_false, if_true, Option.bind_some, not_true, not_false_iff, not_true_eq_false, not_false_eq_true, eq_self, Nat.not_lt_zero, z10, z01, or_true, true_or, or_false, false_or, true_and, false_and, h3]) ?_
    have ext : (v < N ∧ g 3 v = 4 ∨ ¬ f / 2 ^ v % 2 = 1) → b01 (∀ x, v + 1 ≤ x → x < 10 → f / 2 ^ x % 2 = 1 → x < N ∧ g 3 x = 4) = b01 (∀ x, v ≤ x → x < 10 → f / 2 ^ x % 2 = 1 → x < N ∧ g 3 x = 4) := fun hv2 => by
      by_cases q : ∀ x, v + 1 ≤ x → x < 10 → f / 2 ^ x % 2 = 1 → x < N ∧ g 3 x = 4
      · rw [b01_y q, b01_y (fun x h1 h2 h4 => by
          by_cases e : x = v
          · rw [e] at h4 ⊢
            rcases hv2 with h5 | h5
            · exact h5
            · exact absurd h4 h5
          · exact q x (by omega) h2 h4)]
      · rw [b01_n q, b01_n (fun z => q (fun x h1 h2 => z x (by omega) h2))]
    rcases bit_n f hf v (by omega) with ⟨b1, b2⟩ | ⟨b1, b2⟩
    · refine st_f (fun z => z b2) ?_
      by_cases q : v < N
      · by_cases q2 : g 3 v = 4
        · refine st_b (isField_y h q q2) (st_t (by decide) ?_)
          rw [← ext (Or.inl ⟨q, q2⟩)]
          exact IH
        · refine st_b (isField_k h q q2) (st_f (fun z => z rfl) ?_)
          rw [b01_n (fun z => q2 (z v (Nat.le_refl _) (by omega) b1).2)]
      · refine st_b (isField_n h (fun ⟨n, h1, h2⟩ => by rw [nnQ (by omega) (by omega)] at h2; omega)) (st_f (fun z => z rfl) ?_)
        rw [b01_n (fun z => q (z v (Nat.le_refl _) (by omega) b1).1)]
    · refine st_t (by rw [b2]; decide) ?_
      rw [← ext (Or.inr b1)]
      exact IH
theorem lmL {P : Nat} (hf : f < 1024) (hP : cntB f 10 = P) (hP4 : P ≤ 4) : ∀ m v F (S : Sg), v + m = 10 → m < F → S 208 7 = nn (cntB f v) → S 208 3 = nn f → (∀ x, x < v → f / 2 ^ x % 2 = 1 → S 209 (cntB f x) = nn x) → ∃ S2, turns_listMembers_7 F (nn v) S = some S2 ∧ S2 208 7 = nn P ∧ (∀ x, x < 10 → f / 2 ^ x % 2 = 1 → S2 209 (cntB f x) = nn x) ∧ (∀ i, i ≠ 208 → i ≠ 209 → S2 i = S i) ∧ ∀ j, j ≠ 7 → S2 208 j = S 208 j := by
  intro m
  induction m with
  | zero =>
    intro v F S hv hF h7 h3 hm
    obtain ⟨F, rfl⟩ : ∃ F2, F = F2 + 1 := ⟨F - 1, by omega⟩
    have : v = 10 := by omega
    subst this
    refine ⟨S, ?_, by rw [h7, hP], hm, fun _ _ _ => rfl, fun _ _ => rfl⟩
    unfold turns_listMembers_7
    exact if_pos (by decide)
  | succ m ih =>
    intro v F S hv hF h7 h3 hm
    obtain ⟨F, rfl⟩ : ∃ F2, F = F2 + 1 := ⟨F - 1, by omega⟩
    have hv3 : ¬ 10 ≤ v := by omega
    have hcv : cntB f v ≤ P := by
      have := cntB_m (f := f) (v := v) (m + 1)
      rw [hv, hP] at this
      exact this
    have eb : (nn f >>> (nn v &&& 31)) &&& 1 = bitA f v := rfl
    unfold turns_listMembers_7
    rw [h7, h3, eb, show nn v + 1 = nn (v + 1) from nnA v 1]
    by_cases q : 4 ≤ cntB f v
    · have hno : ∀ x, v ≤ x → x < 10 → ¬ f / 2 ^ x % 2 = 1 := fun x h1 h2 e => by
        have a1 := cntB_m (f := f) (v := v) (x - v)
        rw [show v + (x - v) = x by omega] at a1
        have a2 := cntB_m (f := f) (v := x + 1) (10 - (x + 1))
        rw [show x + 1 + (10 - (x + 1)) = 10 by omega, hP] at a2
        have a3 : cntB f (x + 1) = cntB f x + 1 := by
          show cntB f x + (if f / 2 ^ x % 2 = 1 then 1 else 0) = _
          rw [if_pos e]
        omega
      refine ⟨S, st_f (by simp (disch := first | omega | decide) only [lt1, nnMl, nnMr, nnAl, nnAr, nnA, nnM, nnB, nnT, nnP, nnE, nnEl, nnEr, nnL, nnLl, nnLr, nnQ, nnQr, nnN, Nat.add_zero, if_false, if_true, Option.bind_some, not_true, not_false_iff, not_true_eq_false, not_false_eq_true, eq_self, Nat.not_lt_zero, z10, z01, or_true, true_or, or_false, false_or, true_and, false_and, hv3]) (st_t (by rw [show (4 : Int32) = nn 4 from rfl, nnE (by omega) (by omega)]; exact q) rfl), ?_, fun x h1 h2 => ?_, fun _ _ _ => rfl, fun _ _ => rfl⟩
      · rw [h7]
        congr 1
        omega
      · by_cases e : x < v
        · exact hm x e h2
        · exact absurd h2 (hno x (by omega) h1)
    · have hc4 : cntB f v < 4 := by omega
      rcases bit_n f hf v (by omega) with ⟨b1, b2⟩ | ⟨b1, b2⟩
      · have ec : cntB f (v + 1) = cntB f v + 1 := by
          show cntB f v + (if f / 2 ^ v % 2 = 1 then 1 else 0) = _
          rw [if_pos b1]
        obtain ⟨S2, r1, r2, r3, r4, r5⟩ := ih (v + 1) F (up2 (up2 S 209 (cntB f v) (nn v)) 208 7 (nn (cntB f v + 1))) (by omega) (by omega) (by rw [u2e, up1_eq, ec]) (by rw [u2e, up1_ne (by decide), u2n (by decide)]; exact h3) (fun x h1 h2 => by
          rw [u2n (by decide), u2e]
          by_cases e : x = v
          · rw [e, up1_eq]
          · have a1 := cntB_m (f := f) (v := x + 1) (v - (x + 1))
            rw [show x + 1 + (v - (x + 1)) = v by omega] at a1
            have a3 : cntB f (x + 1) = cntB f x + 1 := by
              show cntB f x + (if f / 2 ^ x % 2 = 1 then 1 else 0) = _
              rw [if_pos h2]
            rw [up1_ne (by omega)]
            exact hm x (by omega) h2)
        refine ⟨S2, st_f (by simp (disch := first | omega | decide) only [lt1, nnMl, nnMr, nnAl, nnAr, nnA, nnM, nnB, nnT, nnP, nnE, nnEl, nnEr, nnL, nnLl, nnLr, nnQ, nnQr, nnN, Nat.add_zero, if_false, if_true, Option.bind_some, not_true, not_false_iff, not_true_eq_false, not_false_eq_true, eq_self, Nat.not_lt_zero, z10, z01, or_true, true_or, or_false, false_or, true_and, false_and, hv3]) (st_f (by rw [show (4 : Int32) = nn 4 from rfl, nnE (by omega) (by omega)]; exact q) (st_f (fun z => z b2) (st_w (by simp (disch := first | omega | decide) only [lt1, nnMl, nnMr, nnAl, nnAr, nnA, nnM, nnB, nnT, nnP, nnE, nnEl, nnEr, nnL, nnLl, nnLr, nnQ, nnQr, nnN, Nat.add_zero, if_false, if_true, Option.bind_some, not_true, not_false_iff, not_true_eq_false, not_false_eq_true, eq_self, Nat.not_lt_zero, z10, z01, or_true, true_or, or_false, false_or, true_and, false_and, hc4]) (st_l ?_)))), r2, r3, fun i h1 h2 => by rw [r4 i h1 h2, u2n h1, u2n h2], fun j h1 => by rw [r5 j h1, u2e, up1_ne h1, u2n (by decide)]⟩
        rw [nnT (by omega), u2n (show 208 ≠ 209 by decide), h7, show nn (cntB f v) + 1 = nn (cntB f v + 1) from nnA _ 1]
        exact r1
      · have ec : cntB f (v + 1) = cntB f v := by
          show cntB f v + (if f / 2 ^ v % 2 = 1 then 1 else 0) = _
          rw [if_neg b1, Nat.add_zero]
        obtain ⟨S2, r1, r2, r3, r4⟩ := ih (v + 1) F S (by omega) (by omega) (by rw [ec]; exact h7) h3 (fun x h1 h2 => by
          by_cases e : x = v
          · rw [e] at h2; exact absurd h2 b1
          · exact hm x (by omega) h2)
        exact ⟨S2, st_f (by simp (disch := first | omega | decide) only [lt1, nnMl, nnMr, nnAl, nnAr, nnA, nnM, nnB, nnT, nnP, nnE, nnEl, nnEr, nnL, nnLl, nnLr, nnQ, nnQr, nnN, Nat.add_zero, if_false, if_true, Option.bind_some, not_true, not_false_iff, not_true_eq_false, not_false_eq_true, eq_self, Nat.not_lt_zero, z10, z01, or_true, true_or, or_false, false_or, true_and, false_and, hv3]) (st_f (by rw [show (4 : Int32) = nn 4 from rfl, nnE (by omega) (by omega)]; exact q) (st_t (by rw [b2]; decide) r1)), r2, r3, r4⟩
theorem tpL {c : Sg} {a0 : Nat → Int32} (h : RNet c a0 N C Q) (hf : f < 1024) : ∀ m v F (M : Sg), v + m = N → m < F → M 216 = a0 → M 215 30 = nn (cntB f v) → cntB f v ≤ 4 → (∀ x, x < v → f / 2 ^ x % 2 = 1 → M 223 (cntB f x) = nn x) → ((∀ x, v ≤ x → x < N → f / 2 ^ x % 2 = 1 → c 3 x = 4) ∧ cntB f N ≤ 4 → ∃ M2, m_takesPart_25 F (nn f) (nn v) M = some (1, M2) ∧ M2 215 30 = nn (cntB f N) ∧ (∀ x, x < N → f / 2 ^ x % 2 = 1 → M2 223 (cntB f x) = nn x) ∧ ∀ i, i ≠ 215 → i ≠ 223 → M2 i = M i) ∧ (¬ ((∀ x, v ≤ x → x < N → f / 2 ^ x % 2 = 1 → c 3 x = 4) ∧ cntB f N ≤ 4) → ∃ M2, m_takesPart_25 F (nn f) (nn v) M = some (0, M2) ∧ ∀ i, i ≠ 215 → i ≠ 223 → M2 i = M i) := by
  have hN := h.hN
  intro m
  induction m with
  | zero =>
    intro v F M hv hF hA h30 hc4 hm
    obtain ⟨F, rfl⟩ : ∃ F2, F = F2 + 1 := ⟨F - 1, by omega⟩
    have : v = N := by omega
    subst this
    have e : m_takesPart_25 (F + 1) (nn f) (nn v) M = some (1, M) := by
      unfold m_takesPart_25
      rw [hA, h.aN]
      exact if_pos (Int32.le_refl _)
    exact ⟨fun _ => ⟨M, e, h30, hm, fun _ _ _ => rfl⟩, fun q => absurd ⟨fun x h1 h2 => absurd h1 (by omega), hc4⟩ q⟩
  | succ m ih =>
    intro v F M hv hF hA h30 hc4 hm
    obtain ⟨F, rfl⟩ : ∃ F2, F = F2 + 1 := ⟨F - 1, by omega⟩
    have hv3 : ¬ N ≤ v := by omega
    have hv10 : v < 10 := by omega
    have eb : (nn f >>> (nn v &&& 31)) &&& 1 = bitA f v := rfl
    have hk : m_nodeOf_k0 (nn v) M = some (c 3 v) := by
      rw [← h.kind v hv10, ← hA]
      exact nodeOf0_y hv10
    have hex : ∀ x, x < v → f / 2 ^ x % 2 = 1 → cntB f x < cntB f v := fun x h1 h2 => by
      have a1 := cntB_m (f := f) (v := x + 1) (v - (x + 1))
      rw [show x + 1 + (v - (x + 1)) = v by omega] at a1
      have a3 : cntB f (x + 1) = cntB f x + 1 := by
        show cntB f x + (if f / 2 ^ x % 2 = 1 then 1 else 0) = _
        rw [if_pos h2]
      omega
    unfold m_takesPart_25
    rw [hA, h.aN, eb, show nn v + 1 = nn (v + 1) from nnA v 1]
    rcases bit_n f hf v (by omega) with ⟨b1, b2⟩ | ⟨b1, b2⟩
    · have ec : cntB f (v + 1) = cntB f v + 1 := by
        show cntB f v + (if f / 2 ^ v % 2 = 1 then 1 else 0) = _
        rw [if_pos b1]
      have hcN : cntB f (v + 1) ≤ cntB f N := by
        have := cntB_m (f := f) (v := v + 1) m
        rw [show v + 1 + m = N by omega] at this
        exact this
      by_cases q : c 3 v = 4
      rotate_left
      · exact ⟨fun z => absurd (z.1 v (Nat.le_refl _) (by omega) b1) q, fun _ => ⟨M, st_f (by simp (disch := first | omega | decide) only [lt1, nnMl, nnMr, nnAl, nnAr, nnA, nnM, nnB, nnT, nnP, nnE, nnEl, nnEr, nnL, nnLl, nnLr, nnQ, nnQr, nnN, Nat.add_zero, if_false, if_true, Option.bind_some, not_true, not_false_iff, not_true_eq_false, not_false_eq_true, eq_self, Nat.not_lt_zero, z10, z01, or_true, true_or, or_false, false_or, true_and, false_and, hv3]) (st_t (by rw [b2]; decide) (st_b hk (st_t q rfl))), fun _ _ _ => rfl⟩⟩
      by_cases q4 : cntB f v = 4
      · exact ⟨fun z => by have := z.2; omega, fun _ => ⟨M, st_f (by simp (disch := first | omega | decide) only [lt1, nnMl, nnMr, nnAl, nnAr, nnA, nnM, nnB, nnT, nnP, nnE, nnEl, nnEr, nnL, nnLl, nnLr, nnQ, nnQr, nnN, Nat.add_zero, if_false, if_true, Option.bind_some, not_true, not_false_iff, not_true_eq_false, not_false_eq_true, eq_self, Nat.not_lt_zero, z10, z01, or_true, true_or, or_false, false_or, true_and, false_and, hv3]) (st_t (by rw [b2]; decide) (st_b hk (st_f (fun z => z q) (st_f (fun z => z (by rw [h30, q4]; rfl)) rfl)))), fun _ _ _ => rfl⟩⟩
      have hc : cntB f v < 4 := by omega
      obtain ⟨i1, i2⟩ := ih (v + 1) F (up2 (up2 M 223 (cntB f v) (nn v)) 215 30 (nn (cntB f v + 1))) (by omega) (by omega) (by rw [u2n (by decide), u2n (by decide)]; exact hA) (by rw [u2e, up1_eq, ec]) (by omega) (fun x h1 h2 => by
        rw [u2n (by decide), u2e]
        by_cases e : x = v
        · rw [e, up1_eq]
        · have := hex x (by omega) h2
          rw [up1_ne (by omega)]
          exact hm x (by omega) h2)
      have pre : ∀ rr, m_takesPart_25 F (nn f) (nn (v + 1)) (up2 (up2 M 223 (cntB f v) (nn v)) 215 30 (nn (cntB f v + 1))) = rr → (if nn N ≤ nn v then some (1, M) else (if ¬ bitA f v = 0 then Option.bind (m_nodeOf_k0 (nn v) M) (fun x1 => (if ¬ x1 = 4 then (some (0, M)) else (if ¬ (M 215 30) = 4 then (if inb (M 215 30) 4 = true then lt1 (up2 M 223 (Int32.toNatClampNeg (M 215 30)) (nn v)) (fun g2 => lt1 (up2 g2 215 30 ((g2 215 30) + 1)) (fun g3 => (m_takesPart_25 F (nn f) (nn (v + 1)) g3))) else none) else (some (0, M))))) else (m_takesPart_25 F (nn f) (nn (v + 1)) M))) = rr := fun rr hr => by
        refine st_f (by simp (disch := first | omega | decide) only [lt1, nnMl, nnMr, nnAl, nnAr, nnA, nnM, nnB, nnT, nnP, nnE, nnEl, nnEr, nnL, nnLl, nnLr, nnQ, nnQr, nnN, Nat.add_zero, if_false, if_true, Option.bind_some, not_true, not_false_iff, not_true_eq_false, not_false_eq_true, eq_self, Nat.not_lt_zero, z10, z01, or_true, true_or, or_false, false_or, true_and, false_and, hv3]) (st_t (by rw [b2]; decide) (st_b hk (st_f (fun z => z q) (st_t ?_ ?_))))
        · rw [h30]; exact nnNe (b := 4) (by omega) (by decide) q4
        · rw [h30]
          refine st_w (by simp (disch := first | omega | decide) only [lt1, nnMl, nnMr, nnAl, nnAr, nnA, nnM, nnB, nnT, nnP, nnE, nnEl, nnEr, nnL, nnLl, nnLr, nnQ, nnQr, nnN, Nat.add_zero, if_false, if_true, Option.bind_some, not_true, not_false_iff, not_true_eq_false, not_false_eq_true, eq_self, Nat.not_lt_zero, z10, z01, or_true, true_or, or_false, false_or, true_and, false_and, hc]) (st_l ?_)
          rw [nnT (by omega), u2n (show 215 ≠ 223 by decide), h30, show nn (cntB f v) + 1 = nn (cntB f v + 1) from nnA _ 1]
          exact hr
      refine ⟨fun z => ?_, fun z => ?_⟩
      · obtain ⟨M2, r1, r2, r3, r4⟩ := i1 ⟨fun x h1 h2 => z.1 x (by omega) h2, z.2⟩
        exact ⟨M2, pre _ r1, r2, r3, fun i h1 h2 => by rw [r4 i h1 h2, u2n h1, u2n h2]⟩
      · obtain ⟨M2, r1, r4⟩ := i2 (fun z2 => z ⟨fun x h1 h2 h5 => by
          by_cases e : x = v
          · rw [e]; exact q
          · exact z2.1 x (by omega) h2 h5, z2.2⟩)
        exact ⟨M2, pre _ r1, fun i h1 h2 => by rw [r4 i h1 h2, u2n h1, u2n h2]⟩
    · have ec : cntB f (v + 1) = cntB f v := by
        show cntB f v + (if f / 2 ^ v % 2 = 1 then 1 else 0) = _
        rw [if_neg b1, Nat.add_zero]
      obtain ⟨i1, i2⟩ := ih (v + 1) F M (by omega) (by omega) hA (by rw [ec]; exact h30) (by rw [ec]; exact hc4) (fun x h1 h2 => by
        by_cases e : x = v
        · rw [e] at h2; exact absurd h2 b1
        · exact hm x (by omega) h2)
      refine ⟨fun z => ?_, fun z => ?_⟩
      · obtain ⟨M2, r1, r2⟩ := i1 ⟨fun x h1 h2 => z.1 x (by omega) h2, z.2⟩
        exact ⟨M2, st_f (by simp (disch := first | omega | decide) only [lt1, nnMl, nnMr, nnAl, nnAr, nnA, nnM, nnB, nnT, nnP, nnE, nnEl, nnEr, nnL, nnLl, nnLr, nnQ, nnQr, nnN, Nat.add_zero, if_false, if_true, Option.bind_some, not_true, not_false_iff, not_true_eq_false, not_false_eq_true, eq_self, Nat.not_lt_zero, z10, z01, or_true, true_or, or_false, false_or, true_and, false_and, hv3]) (st_f (fun z => z b2) r1), r2⟩
      · obtain ⟨M2, r1, r4⟩ := i2 (fun z2 => z ⟨fun x h1 h2 h5 => by
          by_cases e : x = v
          · rw [e] at h5; exact absurd h5 b1
          · exact z2.1 x (by omega) h2 h5, z2.2⟩)
        exact ⟨M2, st_f (by simp (disch := first | omega | decide) only [lt1, nnMl, nnMr, nnAl, nnAr, nnA, nnM, nnB, nnT, nnP, nnE, nnEl, nnEr, nnL, nnLl, nnLr, nnQ, nnQr, nnN, Nat.add_zero, if_false, if_true, Option.bind_some, not_true, not_false_iff, not_true_eq_false, not_false_eq_true, eq_self, Nat.not_lt_zero, z10, z01, or_true, true_or, or_false, false_or, true_and, false_and, hv3]) (st_f (fun z => z b2) r1), r4⟩
end WT
/-- rows stay within the choices -/
def accB (n P : Nat) (acc : Acc) : Prop := ∀ a, acc = some a → ∀ i, i < n → a.2.2 i ≤ P
theorem fcs_b {n P : Nat} {f : Nat → Acc → Acc} : ∀ k ch acc, (∀ c2 a, ch ≤ c2 → c2 < ch + k → accB n P a → accB n P (f c2 a)) → accB n P acc → accB n P (fcs f k ch acc)
  | 0, _, _, _, h => h
  | k + 1, ch, acc, hf, h => fcs_b k (ch + 1) (f ch acc) (fun c2 a h1 h2 => hf c2 a (by omega) (by omega)) (hf ch acc (Nat.le_refl _) (by omega) h)
theorem full_b {P n0 gp n : Nat} : ∀ m s r acc, s + m = n → (∀ i, i < s → r i ≤ P) → accB n P acc → accB n P (full P n0 gp n m s r acc)
  | 0, s, r, acc, hs, hr, h => by
    show accB n P (updA P n0 gp n r acc)
    by_cases q : okR r P n0 gp n ∧ btr acc (chg r n) (hld r P n)
    · rw [updA_y q]
      intro a e i hi
      cases e
      show (if i < n then r i else 0) ≤ P
      rw [if_pos hi]
      exact hr i (by omega)
    · rw [updA_n q]; exact h
  | m + 1, s, r, acc, hs, hr, h => by
    refine fcs_b (P + 1) 0 acc (fun c2 a _ h2 ha => ?_) h
    exact full_b m (s + 1) (upr r s c2) a (by omega) (fun i hi => by
      by_cases e : i = s
      · rw [e, upr_e]; omega
      · rw [upr_n e]; exact hr i (by omega)) ha
