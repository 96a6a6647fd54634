/-! lay, laid -/
/-- what the class keeps of the turns asked for last; and the model's first places -/
def TSd (g : Sg) : Prop := g 229 0 = 0 ∧ g 230 0 = 0 ∧ (g 208 2 = 0 ∨ ∃ n f n0 gp, 1 ≤ n ∧ n ≤ 8 ∧ f < 1024 ∧ n0 ≤ 4 ∧ gp ≤ 7 ∧ 1 ≤ cntB f 10 ∧ cntB f 10 ≤ 4 ∧ g 208 2 = nn n ∧ g 208 3 = nn f ∧ g 208 4 = nn n0 ∧ g 208 5 = nn gp ∧ g 208 7 = nn (cntB f 10) ∧ ARep g n (full (cntB f 10) n0 gp n n 0 (fun _ => 0) none) ∧ ∀ x, x < 10 → f / 2 ^ x % 2 = 1 → g 209 (cntB f x) = nn x)
theorem TSd_f : TSf TSd := by
  intro g g2 h ht
  obtain ⟨h1, h2, h3⟩ := ht
  have e8 := h 208 (by omega) (by omega)
  have e9 := h 209 (by omega) (by omega)
  have e11 := h 211 (by omega) (by omega)
  refine ⟨by rw [h 229 (by omega) (by omega)]; exact h1, by rw [h 230 (by omega) (by omega)]; exact h2, ?_⟩
  rw [e8, e9]
  rcases h3 with h3 | ⟨n, f, n0, gp, q1, q2, q3, q4, q5, q6, q7, q8, q9, q10, q11, q12, q13, q14⟩
  · exact Or.inl h3
  · exact Or.inr ⟨n, f, n0, gp, q1, q2, q3, q4, q5, q6, q7, q8, q9, q10, q11, q12, q13.cg e8 e11, q14⟩
/-- turns may be looked for -/
def fOk (g : Sg) (N : Nat) (v1 v2 v3 v4 : Int32) (n f n0 gp : Nat) : Prop := v1 = nn n ∧ 1 ≤ n ∧ n ≤ 8 ∧ v2 = nn f ∧ f < 1024 ∧ v3 = nn n0 ∧ 1 ≤ n0 ∧ n0 ≤ 4 ∧ v4 = nn gp ∧ gp ≤ 7 ∧ 1 ≤ cntB f 10 ∧ cntB f 10 ≤ 4 ∧ ∀ x, x < 10 → f / 2 ^ x % 2 = 1 → x < N ∧ g 3 x = 4
def fAcc (f n0 gp n : Nat) : Acc → Acc := fun _ => none
noncomputable def tAcc (f n0 gp n : Nat) : Acc := full (cntB f 10) n0 gp n n 0 (fun _ => 0) none
def found (acc : Acc) : Int32 := match acc with
  | none => 0
  | some _ => 1
section WU
variable {g : Sg} {N C Q : Nat}
theorem ARep_f {S : Sg} {n : Nat} {acc : Acc} (h : ARep S n acc) : S 208 6 = found acc := by
  rcases h with ⟨rfl, e⟩ | ⟨a, rfl, e, _⟩
  · exact e
  · exact e
theorem found01 (acc : Acc) : found acc = 0 ∨ found acc = 1 := by
  cases acc
  · exact Or.inl rfl
  · exact Or.inr rfl
/-- the class's cells behind a search -/
def TR (S : Sg) (n f n0 gp : Nat) : Prop := S 208 2 = nn n ∧ S 208 3 = nn f ∧ S 208 4 = nn n0 ∧ S 208 5 = nn gp ∧ S 208 7 = nn (cntB f 10) ∧ ARep S n (tAcc f n0 gp n) ∧ ∀ x, x < 10 → f / 2 ^ x % 2 = 1 → S 209 (cntB f x) = nn x
theorem sea_x {S : Sg} {n f n0 gp : Nat} (h1 : 1 ≤ n) (h2 : n ≤ 8) (hf : f < 1024) (hn0 : n0 ≤ 4) (hgp : gp ≤ 7) (hc1 : 1 ≤ cntB f 10) (hc4 : cntB f 10 ≤ 4) {F : Nat} (hF : 20 < F) : ∃ S2, turns_search_38 F (nn n) (nn f) (nn n0) (nn gp) S = some (found (tAcc f n0 gp n), S2) ∧ TR S2 n f n0 gp ∧ ∀ i, (i < 208 ∨ 214 < i) → S2 i = S i := by
  obtain ⟨L2, l1, l2, l3, l4, l5⟩ := lmL hf rfl hc4 10 0 F (up2 (up2 (up2 (up2 (up2 (up2 S 208 2 (nn n)) 208 3 (nn f)) 208 4 (nn n0)) 208 5 (nn gp)) 208 6 0) 208 7 0) (by omega) (by omega) (by simp (disch := first | omega | decide) only [u2e, u2n, up1_eq, up1_ne, ne_eq]; rfl) (by simp (disch := first | omega | decide) only [u2e, u2n, up1_eq, up1_ne, ne_eq]) (fun x hx => absurd hx (Nat.not_lt_zero _))
  obtain ⟨a, a1, a2⟩ := jA_fill_c5_y (v := 0) (s := L2) (F := F) (by omega)
  obtain ⟨b, b1, b2⟩ := jA_fill_c6_y (v := 0) (s := sc L2 212 a) (F := F) (by omega)
  obtain ⟨d, d1, d2⟩ := jA_fill_c7_y (v := -1) (s := sc (sc L2 212 a) 213 b) (F := F) (by omega)
  have e8 : ∀ j, sc (sc (sc L2 212 a) 213 b) 214 d 208 j = L2 208 j := fun j => by rw [sc_n (by decide), sc_n (by decide), sc_n (by decide)]
  have hCI : CI (sc (sc (sc L2 212 a) 213 b) 214 d) n n0 gp (cntB f 10) (fun _ => 0) 0 none := by
    refine ⟨?_, ?_, ?_, ?_, Or.inl ⟨rfl, ?_⟩, fun i hi => absurd hi (Nat.not_lt_zero _), fun q hq => ⟨?_, ?_, ?_⟩⟩
    · rw [e8, l5 2 (by decide)]; simp (disch := first | omega | decide) only [u2e, u2n, up1_eq, up1_ne, ne_eq]
    · rw [e8, l5 4 (by decide)]; simp (disch := first | omega | decide) only [u2e, u2n, up1_eq, up1_ne, ne_eq]
    · rw [e8, l5 5 (by decide)]; simp (disch := first | omega | decide) only [u2e, u2n, up1_eq, up1_ne, ne_eq]
    · rw [e8, l2]
    · rw [e8, l5 6 (by decide)]; simp (disch := first | omega | decide) only [u2e, u2n, up1_eq, up1_ne, ne_eq]
    · rw [sc_n (by decide), sc_n (by decide), sc_e, a1 q (by omega)]; rfl
    · rw [sc_n (by decide), sc_e, b1 q (by omega)]; rfl
    · rw [sc_e, d1 q (by omega)]; rfl
  obtain ⟨S2, p1, p2, p3⟩ := place_y (by omega) hc4 h2 (by omega) hn0 hgp (F := F) (by omega) n 0 (fun _ => 0) none _ 10 (by omega) (by omega) hCI (fun i hi => absurd hi (Nat.not_lt_zero _)) (fun i hi => absurd hi (Nat.not_lt_zero _)) (Or.inl rfl) (Or.inl (by omega))
  have eA := ARep_f p2.2.2.2.2.1
  refine ⟨S2, ?_, ⟨p2.1, ?_, p2.2.1, p2.2.2.1, p2.2.2.2.1, p2.2.2.2.2.1, fun x hx hb => ?_⟩, fun i hi => ?_⟩
  · unfold turns_search_38
    refine st_l (st_l (st_l (st_l (st_l (st_b (x := L2) ?_ (st_b a2 (st_b b2 (st_b d2 (st_b (x := S2) p1 ?_)))))))))
    · unfold turns_listMembers
      exact st_l l1
    · rw [eA]
      exact st_t (found01 _) rfl
  · rw [p3.2 3 (by decide) (by decide) (by decide), e8, l5 3 (by decide)]; simp (disch := first | omega | decide) only [u2e, u2n, up1_eq, up1_ne, ne_eq]
  · rw [p3.1 209 (by decide) (by decide) (by decide) (by decide) (by decide) (by decide), sc_n (by decide), sc_n (by decide), sc_n (by decide)]; exact l3 x hx hb
  · rw [p3.1 i (by omega) (by omega) (by omega) (by omega) (by omega) (by omega), sc_n (by omega), sc_n (by omega), sc_n (by omega), l4 i (by omega) (by omega)]
    rw [u2n (by omega), u2n (by omega), u2n (by omega), u2n (by omega), u2n (by omega), u2n (by omega)]
theorem find_x (h : RNet g (g 216) N C Q) (hT : TSd g) {v1 v2 v3 v4 : Int32} {F : Nat} (hF : 20 < F) : (∀ n f n0 gp, fOk g N v1 v2 v3 v4 n f n0 gp → ∃ S2, x_findTurns F v1 v2 v3 v4 g = some (found (tAcc f n0 gp n), S2) ∧ TR S2 n f n0 gp ∧ ∀ i, (i < 208 ∨ 214 < i) → S2 i = g i) ∧ ((¬ ∃ n f n0 gp, fOk g N v1 v2 v3 v4 n f n0 gp) → x_findTurns F v1 v2 v3 v4 g = some (0, g)) := by
  have hN := h.hN
  have bc : ∀ f, f < 1024 → jI_bitCount (nn f) g = some (nn (cntB f 10)) := fun f hf => bcnt f hf
  have af : ∀ f, f < 1024 → net_areFields F (nn f) g = some (b01 (∀ x, 0 ≤ x → x < 10 → f / 2 ^ x % 2 = 1 → x < N ∧ g 3 x = 4)) := fun f hf => by
    unfold net_areFields
    refine st_f (by rw [nnP (by omega)]; exact id) (st_t (by rw [show (1024 : Int32) = nn 1024 from rfl, nnL (by omega) (by omega)]; exact hf) ?_)
    exact arL h hf 10 0 F (by omega) (by omega)
  constructor
  · rintro n f n0 gp ⟨rfl, n1, n8, rfl, hf, rfl, k1, k4, rfl, hgp, c1, c4, hm⟩
    have srch : ∃ S2, turns_search F (nn n) (nn f) (nn n0) (nn gp) g = some (found (tAcc f n0 gp n), S2) ∧ TR S2 n f n0 gp ∧ ∀ i, (i < 208 ∨ 214 < i) → S2 i = g i := by
      have miss : ∀ P : Option (Int32 × Sg), P = turns_search_38 F (nn n) (nn f) (nn n0) (nn gp) g → ∃ S2, P = some (found (tAcc f n0 gp n), S2) ∧ TR S2 n f n0 gp ∧ ∀ i, (i < 208 ∨ 214 < i) → S2 i = g i := fun P hP => by
        obtain ⟨S2, r1, r2⟩ := sea_x (S := g) n1 n8 hf k4 hgp c1 c4 hF
        exact ⟨S2, hP.trans r1, r2⟩
      unfold turns_search
      by_cases e1 : nn n = g 208 2
      rotate_left
      · exact miss _ (if_pos e1)
      rw [if_neg (fun z => z e1)]
      by_cases e2 : nn f = g 208 3
      rotate_left
      · exact miss _ (if_pos e2)
      rw [if_neg (fun z => z e2)]
      by_cases e3 : nn n0 = g 208 4
      rotate_left
      · exact miss _ (if_pos e3)
      rw [if_neg (fun z => z e3)]
      by_cases e4 : nn gp = g 208 5
      rotate_left
      · exact miss _ (if_pos e4)
      rw [if_neg (fun z => z e4)]
      rcases hT.2.2 with h0 | ⟨n', f', n0', gp', q1, q2, q3, q4, q5, q6, q7, q8, q9, q10, q11, q12, q13, q14⟩
      · rw [h0] at e1
        exact absurd e1 (nnNe (b := 0) (by omega) (by decide) (by omega))
      · have a1 : n = n' := by rw [q8, nnQ (by omega) (by omega)] at e1; exact e1
        have a2 : f = f' := by rw [q9, nnQ (by omega) (by omega)] at e2; exact e2
        have a3 : n0 = n0' := by rw [q10, nnQ (by omega) (by omega)] at e3; exact e3
        have a4 : gp = gp' := by rw [q11, nnQ (by omega) (by omega)] at e4; exact e4
        subst a1 a2 a3 a4
        refine ⟨g, ?_, ⟨q8, q9, q10, q11, q12, q13, q14⟩, fun _ _ => rfl⟩
        rw [ARep_f q13]
        exact st_t (found01 _) rfl
    obtain ⟨S2, r1, r2⟩ := srch
    refine ⟨S2, ?_, r2⟩
    have w1 : x_within (nn n) 1 8 g = some 1 := by
      rw [within_eq, if_pos ⟨by rw [show (1 : Int32) = nn 1 from rfl, nnE (by omega) (by omega)]; exact n1, by rw [show (8 : Int32) = nn 8 from rfl, nnE (by omega) (by omega)]; exact n8⟩]
    have w2 : x_within (nn n0) 1 4 g = some 1 := by
      rw [within_eq, if_pos ⟨by rw [show (1 : Int32) = nn 1 from rfl, nnE (by omega) (by omega)]; exact k1, by rw [show (4 : Int32) = nn 4 from rfl, nnE (by omega) (by omega)]; exact k4⟩]
    have w3 : x_within (nn gp) 0 7 g = some 1 := wthK_y (K := 7) rfl (by decide) hgp
    have w4 : x_within (nn (cntB f 10)) 1 4 g = some 1 := by
      rw [within_eq, if_pos ⟨by rw [show (1 : Int32) = nn 1 from rfl, nnE (by omega) (by omega)]; exact c1, by rw [show (4 : Int32) = nn 4 from rfl, nnE (by omega) (by omega)]; exact c4⟩]
    unfold x_findTurns
    refine st_b w1 (st_f (by decide) (st_b w2 (st_f (by decide) (st_b w3 (st_t (by decide) (st_b (bc f hf) (st_b w4 (st_f (by decide) (st_b (af f hf) (st_t ?_ (st_b r1 (st_t (found01 _) rfl))))))))))))
    rw [b01_y (fun x _ h1 h2 => hm x h1 h2)]
    decide
  · intro hno
    unfold x_findTurns
    rcases chkB v1 1 8 8 rfl (by decide) (by decide) with ⟨n, n1, n8, rfl, x1, _⟩ | ⟨x1, _⟩
    rotate_left
    · exact st_b (x1 g) (st_t rfl rfl)
    refine st_b (x1 g) (st_f (by decide) ?_)
    rcases chkB v3 1 4 4 rfl (by decide) (by decide) with ⟨n0, k1, k4, rfl, x3, _⟩ | ⟨x3, _⟩
    rotate_left
    · exact st_b (x3 g) (st_t rfl rfl)
    refine st_b (x3 g) (st_f (by decide) ?_)
    rcases chk v4 7 7 rfl (by decide) with ⟨gp, hgp, rfl, x4, _⟩ | ⟨x4, _⟩
    rotate_left
    · exact st_b (x4 g) (st_f (by decide) rfl)
    refine st_b (x4 g) (st_t (by decide) ?_)
    by_cases hv : ∃ f, f < 1024 ∧ v2 = nn f
    · obtain ⟨f, hf, rfl⟩ := hv
      refine st_b (bc f hf) ?_
      rcases chkB (nn (cntB f 10)) 1 4 4 rfl (by decide) (by decide) with ⟨k, c1, c4, ek, x5, _⟩ | ⟨x5, _⟩
      rotate_left
      · exact st_b (x5 g) (st_t rfl rfl)
      refine st_b (x5 g) (st_f (by decide) (st_b (af f hf) (st_f ?_ rfl)))
      have hcb : cntB f 10 ≤ 10 := by
        have : ∀ v, cntB f v ≤ v := fun v => by
          induction v with
          | zero => exact Nat.le_refl _
          | succ v ih =>
            show cntB f v + (if f / 2 ^ v % 2 = 1 then 1 else 0) ≤ v + 1
            split <;> omega
        exact this 10
      rw [nnQ (by omega) (by omega)] at ek
      rw [b01_n (fun z => hno ⟨n, f, n0, gp, rfl, n1, n8, rfl, hf, rfl, k1, k4, rfl, hgp, by omega, by omega, fun x h1 h2 => z x (Nat.zero_le _) h1 h2⟩)]
      exact fun z => z rfl
    · have ar0 : net_areFields F v2 g = some 0 := by
        unfold net_areFields
        by_cases q : v2 < 0
        · exact st_t q rfl
        · refine st_f q (st_f (fun q2 => ?_) rfl)
          exact hv ((rg (N := 1024) (by decide)).mp ⟨q, q2⟩)
      obtain ⟨bx, hbx⟩ : ∃ b, jI_bitCount v2 g = some b := ⟨_, rfl⟩
      refine st_b hbx ?_
      have hw : ∃ b, (b = 0 ∨ b = 1) ∧ x_within bx 1 4 g = some b := by
        rw [within_eq]
        by_cases q : (1 : Int32) ≤ bx ∧ bx ≤ 4
        · exact ⟨1, Or.inr rfl, by rw [if_pos q]⟩
        · exact ⟨0, Or.inl rfl, by rw [if_neg q]⟩
      obtain ⟨b, hb, hbe⟩ := hw
      refine st_b hbe ?_
      rcases hb with rfl | rfl
      · exact st_t rfl rfl
      · exact st_f (by decide) (st_b ar0 (st_f (fun z => z rfl) rfl))
/-- the model's cells behind a search -/
def MR (M : Sg) (n f n0 gp : Nat) : Prop := M 215 30 = nn (cntB f 10) ∧ MRep M n (tAcc f n0 gp n) ∧ ∀ x, x < 10 → f / 2 ^ x % 2 = 1 → M 223 (cntB f x) = nn x
def MFr (M M2 : Sg) : Prop := (∀ i, i ≠ 215 → i ≠ 223 → (i < 224 ∨ 230 < i) → M2 i = M i) ∧ M2 229 0 = 0 ∧ M2 230 0 = 0
theorem ini4 {P n : Nat} {v1 v3 v4 : Int32} {F0 : Nat} : ∀ m v F (M : Sg), v + m = 4 → m < F → (∀ q, q < v → M 226 q = 0 ∧ M 227 q = 0 ∧ M 228 q = 0) → ∃ M2, m_lays_54 F0 F v1 v3 v4 (nn v) M = m_lays_100 F0 F0 v1 v3 v4 0 (up2 M2 224 0 (-1)) ∧ (∀ q, q < 4 → M2 226 q = 0 ∧ M2 227 q = 0 ∧ M2 228 q = 0) ∧ ∀ i, i ≠ 226 → i ≠ 227 → i ≠ 228 → M2 i = M i := by
  intro m
  induction m with
  | zero =>
    intro v F M hv hF hq
    obtain ⟨F, rfl⟩ : ∃ F2, F = F2 + 1 := ⟨F - 1, by omega⟩
    have : v = 4 := by omega
    subst this
    refine ⟨M, ?_, hq, fun _ _ _ _ => rfl⟩
    unfold m_lays_54
    exact st_t (by decide) rfl
  | succ m ih =>
    intro v F M hv hF hq
    obtain ⟨F, rfl⟩ : ∃ F2, F = F2 + 1 := ⟨F - 1, by omega⟩
    have h4 : ¬ 4 ≤ v := by omega
    have h36 : v < 36 := by omega
    have hi : inb (nn v) 36 = true := by simp (disch := first | omega | decide) only [lt1, nnMl, nnMr, nnAl, nnAr, nnA, nnM, nnB, nnT, nnP, nnE, nnEl, nnEr, nnL, nnLl, nnLr, nnQ, nnQr, nnN, Nat.add_zero, if_false, if_true, Option.bind_some, not_true, not_false_iff, not_true_eq_false, not_false_eq_true, eq_self, Nat.not_lt_zero, z10, z01, or_true, true_or, or_false, false_or, true_and, false_and, h36]
    obtain ⟨M2, r1, r2, r3⟩ := ih (v + 1) F (up2 (up2 (up2 M 226 v 0) 227 v 0) 228 v 0) (by omega) (by omega) (fun q h => by
      rw [u2n (show 226 ≠ 228 by decide), u2n (show 226 ≠ 227 by decide), u2e, u2n (show 227 ≠ 228 by decide), u2e, u2n (show 227 ≠ 226 by decide), u2e, u2n (show 228 ≠ 227 by decide), u2n (show 228 ≠ 226 by decide)]
      by_cases e : q = v
      · rw [e, up1_eq, up1_eq, up1_eq]; exact ⟨rfl, rfl, rfl⟩
      · rw [up1_ne e, up1_ne e, up1_ne e]; exact hq q (by omega))
    refine ⟨M2, ?_, r2, fun i a b d => by rw [r3 i a b d, u2n d, u2n b, u2n a]⟩
    unfold m_lays_54
    rw [nnT (by omega), show nn v + 1 = nn (v + 1) from nnA v 1]
    exact st_f (by simp (disch := first | omega | decide) only [lt1, nnMl, nnMr, nnAl, nnAr, nnA, nnM, nnB, nnT, nnP, nnE, nnEl, nnEr, nnL, nnLl, nnLr, nnQ, nnQr, nnN, Nat.add_zero, if_false, if_true, Option.bind_some, not_true, not_false_iff, not_true_eq_false, not_false_eq_true, eq_self, Nat.not_lt_zero, z10, z01, or_true, true_or, or_false, false_or, true_and, false_and, h4]) (st_w hi (st_w hi (st_w hi r1)))
theorem lays_y {c M : Sg} {n f n0 gp : Nat} {v1 v2 v3 v4 : Int32} (h : RNet c (M 216) N C Q) (h9 : M 229 0 = 0) (h30 : M 230 0 = 0) (ok : fOk c N v1 v2 v3 v4 n f n0 gp) {F : Nat} (hF : stepB 8 5 + 100 < F) : ∃ M2, m_lays F v1 v2 v3 v4 M = some (found (tAcc f n0 gp n), M2) ∧ MR M2 n f n0 gp ∧ MFr M M2 := by
  have hN := h.hN
  obtain ⟨rfl, n1, n8, rfl, hf, rfl, k1, k4, rfl, hgp, c1, c4, hm⟩ := ok
  have hF8 : 100 < F := by omega
  have ecN : cntB f N = cntB f 10 := by
    have := cntB_e (f := f) (v := N) (10 - N) (fun x h1 h2 h3 => by have := (hm x (by omega) h3).1; omega)
    rw [show N + (10 - N) = 10 by omega] at this
    exact this.symm
  have f0 : ¬ f = 0 := fun e => by have := (cnt0 f hf).mpr e; omega
  have fN : f < 2 ^ N := (pow_b N (by omega) f hf).mpr (fun x h1 h2 => (hm x h1 h2).1)
  obtain ⟨sp1, sp2⟩ := shl_p N (by omega)
  obtain ⟨t1, _⟩ := tpL h hf N 0 F (up2 M 215 30 0) (by omega) (by omega) (u2n (by decide)) (by rw [u2e, up1_eq]; rfl) (Nat.zero_le _) (fun x hx => absurd hx (Nat.not_lt_zero _))
  obtain ⟨M2, r1, r2, r3, r4⟩ := t1 ⟨fun x h1 h2 h3 => (hm x (by omega) h3).2, by omega⟩
  obtain ⟨M3, i1, i2, i3⟩ := ini4 (P := 0) (n := 0) (v1 := nn n) (v3 := nn n0) (v4 := nn gp) (F0 := F) 4 0 F (up2 (up2 M2 215 31 100) 215 32 0) (by omega) (by omega) (fun q h => absurd h (Nat.not_lt_zero _))
  have f3 : ∀ i, i ≠ 215 → i ≠ 223 → i ≠ 226 → i ≠ 227 → i ≠ 228 → M3 i = M i := fun i a b d e f => by rw [i3 i d e f, u2n a, u2n a, r4 i a b, u2n a]
  have e15 : M3 215 = up1 (up1 (M2 215) 31 100) 32 0 := by rw [i3 215 (by decide) (by decide) (by decide), u2e, u2e]
  have hE : EI (up2 M3 224 0 (-1)) n (cntB f 10) (fun _ => 0) 0 (cntB f 10) none := by
    refine ⟨?_, Or.inl ⟨rfl, ?_, ?_⟩, fun j hj => absurd hj (Nat.not_lt_zero _), fun k hk => ?_, fun k q hk => absurd hk (Nat.not_lt_zero _), fun q hq => ?_⟩
    · rw [u2n (by decide), e15, up1_ne (by decide), up1_ne (by decide), r2, ecN]
    · rw [u2n (by decide), e15, up1_ne (by decide), up1_eq]; rfl
    · rw [u2n (by decide), e15, up1_eq]; rfl
    · have : k = 0 := by omega
      subst this
      rw [u2n (by decide), u2n (by decide), f3 229 (by decide) (by decide) (by decide) (by decide) (by decide), f3 230 (by decide) (by decide) (by decide) (by decide) (by decide)]
      exact ⟨h9, h30⟩
    · rw [u2n (by decide), u2n (by decide), u2n (by decide), Nat.mul_zero, Nat.zero_add]
      exact i2 q (by omega)
  obtain ⟨K, M4, s0, s1, s2, s3⟩ := layLv (by omega) c4 n8 k4 hgp (F0 := F) (by omega) (n - 1) 0 (by omega) (cntB f 10 + 1) 0 (fun _ => 0) none (up2 M3 224 0 (-1)) (by omega) hE (by rw [u2e, up1_eq]; rfl) (fun i hi => absurd hi (Nat.not_lt_zero _)) (fun j hj => absurd hj (Nat.not_lt_zero _))
  have sB : ∀ a b k, a ≤ b → k ≤ 5 → stepB a k ≤ stepB b 5 := by
    intro a b
    induction b with
    | zero =>
      intro k h1 h2
      have : a = 0 := by omega
      rw [this]
      exact stepB_k h2
    | succ b ih =>
      intro k h1 h2
      by_cases e : a = b + 1
      · rw [e]; exact stepB_k h2
      · refine Nat.le_trans (ih k (by omega) h2) ?_
        show stepB b 5 ≤ 5 * (stepB b 5 + 1) + 1
        omega
  have hK : K ≤ stepB 8 5 := Nat.le_trans s0 (sB (n - 1) 8 _ (by omega) (by omega))
  have eacc : fcs (fun ch a => full (cntB f 10) n0 gp n (n - 1) (0 + 1) (upr (fun _ => 0) 0 ch) a) (cntB f 10 + 1) 0 none = tAcc f n0 gp n := by
    unfold tAcc
    obtain ⟨k, rfl⟩ : ∃ k, n = k + 1 := ⟨n - 1, by omega⟩
    rfl
  rw [eacc] at s2
  have fin : m_lays_100 F F (nn n) (nn n0) (nn gp) 0 (up2 M3 224 0 (-1)) = some (found (tAcc f n0 gp n), M4) := by
    obtain ⟨F', hF'⟩ : ∃ F', F = (F' + 1) + K := ⟨F - K - 1, by omega⟩
    have e : m_lays_100 F F (nn n) (nn n0) (nn gp) 0 (up2 M3 224 0 (-1)) = m_lays_100 F (F' + 1) (nn n) (nn n0) (nn gp) (nn 0 + (-1)) M4 := by
      rw [← s1 (F' + 1), ← hF']
      rfl
    rw [e, m_lays_100]
    refine st_t (by decide) ?_
    rcases s2.2.1 with ⟨e1, e2, _⟩ | ⟨a, e1, e2, _, _, e8, _⟩
    · rw [e1, e2]
      exact st_t (by decide) rfl
    · rw [e1, e2]
      exact st_f (by rw [show (100 : Int32) = nn 100 from rfl, nnE (by omega) (by omega)]; omega) rfl
  have g9 := s2.2.2.2.1 0 (Nat.le_refl _)
  refine ⟨M4, ?_, ⟨s2.1, s2.2.1, fun x hx hb => ?_⟩, ⟨fun i a b d => ?_, g9.1, g9.2⟩⟩
  · have w1 : m_isIn (nn n) 1 8 M = some 1 := by
      rw [isIn_eq, if_pos ⟨by rw [show (1 : Int32) = nn 1 from rfl, nnE (by omega) (by omega)]; exact n1, by rw [show (8 : Int32) = nn 8 from rfl, nnE (by omega) (by omega)]; exact n8⟩]
    have w2 : m_isIn (nn n0) 1 4 M = some 1 := by
      rw [isIn_eq, if_pos ⟨by rw [show (1 : Int32) = nn 1 from rfl, nnE (by omega) (by omega)]; exact k1, by rw [show (4 : Int32) = nn 4 from rfl, nnE (by omega) (by omega)]; exact k4⟩]
    have w3 : m_isIn (nn gp) 0 7 M = some 1 := isInK_y (K := 7) rfl (by decide) hgp
    have tp : m_takesPart F (nn f) M = some (1, M2) := by
      unfold m_takesPart
      refine st_l ?_
      rw [u2n (show 216 ≠ 215 by decide), h.aN, sp1]
      refine (st_f ?_ (st_t ?_ r1))
      · rw [show (0 : Int32) = nn 0 from rfl, nnE (by omega) (by omega)]; omega
      · rw [nnL (by omega) (by omega)]; exact fN
    unfold m_lays
    exact st_b w1 (st_f (by decide) (st_b w2 (st_f (by decide) (st_b w3 (st_f (by decide) (st_b tp (st_t (by decide) (st_l (st_l (i1.trans fin))))))))))
  · rw [s3 223 (by decide) (by omega), u2n (by decide), i3 223 (by decide) (by decide) (by decide), u2n (by decide), u2n (by decide)]
    exact r3 x (hm x hx hb).1 hb
  · rw [s3 i a d, u2n (by omega), f3 i a b (by omega) (by omega) (by omega)]
theorem lays_n {c M : Sg} {v1 v2 v3 v4 : Int32} (h : RNet c (M 216) N C Q) (h9 : M 229 0 = 0) (h30 : M 230 0 = 0) (hno : ¬ ∃ n f n0 gp, fOk c N v1 v2 v3 v4 n f n0 gp) {F : Nat} (hF : 20 < F) : ∃ M2, m_lays F v1 v2 v3 v4 M = some (0, M2) ∧ MFr M M2 := by
  have hN := h.hN
  have keep : MFr M M := ⟨fun _ _ _ _ => rfl, h9, h30⟩
  rcases chkB v1 1 8 8 rfl (by decide) (by decide) with ⟨n, n1, n8, rfl, _, x1⟩ | ⟨_, x1⟩
  rotate_left
  · exact ⟨M, by unfold m_lays; exact st_b (x1 M) (st_t rfl rfl), keep⟩
  rcases chkB v3 1 4 4 rfl (by decide) (by decide) with ⟨n0, k1, k4, rfl, _, x3⟩ | ⟨_, x3⟩
  rotate_left
  · exact ⟨M, by unfold m_lays; exact st_b (x1 M) (st_f (by decide) (st_b (x3 M) (st_t rfl rfl))), keep⟩
  rcases chk v4 7 7 rfl (by decide) with ⟨gp, hgp, rfl, _, x4⟩ | ⟨_, x4⟩
  rotate_left
  · exact ⟨M, by unfold m_lays; exact st_b (x1 M) (st_f (by decide) (st_b (x3 M) (st_f (by decide) (st_b (x4 M) (st_t rfl rfl))))), keep⟩
  have tp : ∃ M2, m_takesPart F v2 M = some (0, M2) ∧ ∀ i, i ≠ 215 → i ≠ 223 → M2 i = M i := by
    obtain ⟨sp1, sp2⟩ := shl_p N (by omega)
    have et : m_takesPart F v2 M = (if v2 ≤ 0 then some (0, up2 M 215 30 0) else if v2 < nn (2 ^ N) then m_takesPart_25 F v2 0 (up2 M 215 30 0) else some (0, up2 M 215 30 0)) := by
      unfold m_takesPart
      refine st_l ?_
      rw [u2n (show 216 ≠ 215 by decide), h.aN, sp1]
    rw [et]
    by_cases q : v2 ≤ 0
    · exact ⟨_, st_t q rfl, fun i a _ => u2n a⟩
    by_cases q2 : v2 < nn (2 ^ N)
    rotate_left
    · exact ⟨_, st_f q (st_f q2 rfl), fun i a _ => u2n a⟩
    obtain ⟨f, hf, rfl⟩ := (rg (N := 2 ^ N) (by omega)).mp ⟨fun z => q (Int32.le_of_lt z), q2⟩
    have hf10 : f < 1024 := by omega
    have hbits := (pow_b N (by omega) f hf10).mp hf
    have ecN : cntB f N = cntB f 10 := by
      have := cntB_e (f := f) (v := N) (10 - N) (fun x h1 h2 h3 => by have := hbits x (by omega) h3; omega)
      rw [show N + (10 - N) = 10 by omega] at this
      exact this.symm
    have f0 : ¬ f = 0 := fun e => q (by rw [e]; exact Int32.le_refl _)
    have c1 : ¬ cntB f 10 = 0 := fun e => f0 ((cnt0 f hf10).mp e)
    obtain ⟨_, t2⟩ := tpL h hf10 N 0 F (up2 M 215 30 0) (by omega) (by omega) (u2n (by decide)) (by rw [u2e, up1_eq]; rfl) (Nat.zero_le _) (fun x hx => absurd hx (Nat.not_lt_zero _))
    obtain ⟨M2, r1, r2⟩ := t2 (fun z => hno ⟨n, f, n0, gp, rfl, n1, n8, rfl, hf10, rfl, k1, k4, rfl, hgp, by omega, by omega, fun x h1 h2 => ⟨hbits x h1 h2, z.1 x (Nat.zero_le _) (hbits x h1 h2) h2⟩⟩)
    exact ⟨M2, st_f q (st_t q2 r1), fun i a b => by rw [r2 i a b, u2n a]⟩
  obtain ⟨M2, r1, r2⟩ := tp
  refine ⟨M2, ?_, ⟨fun i a b _ => r2 i a b, by rw [r2 229 (by decide) (by decide)]; exact h9, by rw [r2 230 (by decide) (by decide)]; exact h30⟩⟩
  unfold m_lays
  exact st_b (x1 M) (st_f (by decide) (st_b (x3 M) (st_f (by decide) (st_b (x4 M) (st_f (by decide) (st_b r1 (st_f (fun z => z rfl) rfl)))))))
theorem RR_t {S2 M2 : Sg} (hR : RR TSd g) (h1 : ∀ i, (i < 208 ∨ 214 < i) → S2 i = g i) (h2 : MFr S2 M2) (ht : S2 = g ∨ ∃ n f n0 gp, 1 ≤ n ∧ n ≤ 8 ∧ f < 1024 ∧ n0 ≤ 4 ∧ gp ≤ 7 ∧ 1 ≤ cntB f 10 ∧ cntB f 10 ≤ 4 ∧ TR S2 n f n0 gp) : RR TSd M2 := by
  obtain ⟨f1, f2, f3⟩ := h2
  have fr : ∀ i, (i < 208 ∨ 214 < i) → i ≠ 215 → i ≠ 223 → (i < 224 ∨ 230 < i) → M2 i = g i := fun i a b d e => (f1 i b d e).trans (h1 i a)
  refine RR.mk ?_ ?_ ⟨f2, f3, ?_⟩
  · exact hR.now.fr (fun i a b => fr i (by omega) (by omega) (by omega) (by omega)) (fun j _ => by rw [fr 216 (by omega) (by omega) (by omega) (by omega)])
  · exact hR.img.fr (fun i a b => fr i (by omega) (by omega) (by omega) (by omega)) (fun j _ => by rw [fr 216 (by omega) (by omega) (by omega) (by omega)]) (fr 217 (by omega) (by omega) (by omega) (by omega))
  · have e8 : M2 208 = S2 208 := f1 208 (by decide) (by decide) (by omega)
    have e9 : M2 209 = S2 209 := f1 209 (by decide) (by decide) (by omega)
    have e11 : M2 211 = S2 211 := f1 211 (by decide) (by decide) (by omega)
    rw [e8, e9]
    rcases ht with rfl | ⟨n, f, n0, gp, q1, q2, q3, q4, q5, q6, q7, r1, r2, r3, r4, r5, r6, r7⟩
    · rcases hR.trn.2.2 with h3 | ⟨n, f, n0, gp, q1, q2, q3, q4, q5, q6, q7, q8, q9, q10, q11, q12, q13, q14⟩
      · exact Or.inl h3
      · exact Or.inr ⟨n, f, n0, gp, q1, q2, q3, q4, q5, q6, q7, q8, q9, q10, q11, q12, q13.cg e8 e11, q14⟩
    · exact Or.inr ⟨n, f, n0, gp, q1, q2, q3, q4, q5, q6, q7, r1, r2, r3, r4, r5, r6.cg e8 e11, r7⟩
end WU
theorem sim_lay : Sim_lay (RR TSd) := by
  intro v1 v2 v3 v4 v5 g hR
  obtain ⟨N, C, Q, D, T, L, G, h⟩ := hR.now
  have hTS := hR.trn
  rcases chk v5 1 1 rfl (by decide) with ⟨w, hw, rfl, x5, m5⟩ | ⟨x5, m5⟩
  rotate_left
  · refine ⟨0, 0, -1, g, g, ?_, ?_, hR⟩
    · unfold x_lay
      exact st_b (x5 g) (st_t rfl rfl)
    · unfold m_lay
      exact st_b (m5 g) (st_t rfl rfl)
  obtain ⟨fx1, fx2⟩ := find_x h.net hTS (v1 := v1) (v2 := v2) (v3 := v3) (v4 := v4) (F := 21) (by decide)
  by_cases hok : ∃ n f n0 gp, fOk g N v1 v2 v3 v4 n f n0 gp
  rotate_left
  · obtain ⟨M2, l1, l2⟩ := lays_n (c := g) (M := g) h.net hTS.1 hTS.2.1 hok (F := 21) (by decide)
    refine ⟨21, 21, -1, g, M2, ?_, ?_, RR_t hR (fun _ _ => rfl) l2 (Or.inl rfl)⟩
    · unfold x_lay
      exact st_b (x5 g) (st_f (by decide) (st_b (fx2 hok) (st_f (fun z => z rfl) rfl)))
    · unfold m_lay
      exact st_b (m5 g) (st_f (by decide) (st_b l1 (st_t rfl rfl)))
  obtain ⟨n, f, n0, gp, ok⟩ := hok
  obtain ⟨S2, s1, s2, s3⟩ := fx1 n f n0 gp ok
  have e216 : S2 216 = g 216 := s3 216 (by omega)
  obtain ⟨M2, l1, l2, l3⟩ := lays_y (c := g) (M := S2) (by rw [e216]; exact h.net) (by rw [s3 229 (by omega)]; exact hTS.1) (by rw [s3 230 (by omega)]; exact hTS.2.1) ok (F := stepB 8 5 + 101) (by omega)
  have hRR : RR TSd M2 := RR_t hR s3 l3 (Or.inr ⟨n, f, n0, gp, ok.2.1, ok.2.2.1, ok.2.2.2.2.1, ok.2.2.2.2.2.2.2.1, ok.2.2.2.2.2.2.2.2.2.1, ok.2.2.2.2.2.2.2.2.2.2.1, ok.2.2.2.2.2.2.2.2.2.2.2.1, s2⟩)
  rcases s2.2.2.2.2.2.1 with ⟨e0, _⟩ | ⟨a, e0, a1, a2, a3, _, _, _⟩
  · rw [e0] at s1 l1
    refine ⟨21, stepB 8 5 + 101, -1, S2, M2, ?_, ?_, hRR⟩
    · unfold x_lay
      exact st_b (x5 g) (st_f (by decide) (st_b s1 (st_f (fun z => z rfl) rfl)))
    · unfold m_lay
      exact st_b (m5 S2) (st_f (by decide) (st_b l1 (st_t rfl rfl)))
  · have hm := l2.2.1
    rw [e0] at s1 l1 hm
    rw [show found (some a) = 1 from rfl] at s1 l1
    rcases hm with ⟨z, _⟩ | ⟨a', z, b1, b2, _⟩
    · cases z
    · cases z
      have c2 : w = 0 ∨ w = 1 := by omega
      rcases c2 with rfl | rfl
      · refine ⟨21, stepB 8 5 + 101, nn a.1, S2, M2, ?_, ?_, hRR⟩
        · unfold x_lay
          exact st_b (x5 g) (st_f (by decide) (st_b s1 (st_t (by decide) (st_f (fun z => z rfl) (by rw [a2])))))
        · unfold m_lay
          exact st_b (m5 S2) (st_f (by decide) (st_b l1 (st_f (by decide) (st_f (fun z => z rfl) (by rw [b1])))))
      · refine ⟨21, stepB 8 5 + 101, nn a.2.1, S2, M2, ?_, ?_, hRR⟩
        · unfold x_lay
          exact st_b (x5 g) (st_f (by decide) (st_b s1 (st_t (by decide) (st_t (by decide) (by rw [a3])))))
        · unfold m_lay
          exact st_b (m5 S2) (st_f (by decide) (st_b l1 (st_f (by decide) (st_t (by decide) (by rw [b2])))))
theorem sim_laid : Sim_laid (RR TSd) := by
  intro v1 v2 v3 v4 v5 g hR
  obtain ⟨N, C, Q, D, T, L, G, h⟩ := hR.now
  have hTS := hR.trn
  obtain ⟨fx1, fx2⟩ := find_x h.net hTS (v1 := v1) (v2 := v2) (v3 := v3) (v4 := v4) (F := 21) (by decide)
  by_cases hok : ∃ n f n0 gp, fOk g N v1 v2 v3 v4 n f n0 gp
  rotate_left
  · obtain ⟨M2, l1, l2⟩ := lays_n (c := g) (M := g) h.net hTS.1 hTS.2.1 hok (F := 21) (by decide)
    refine ⟨21, 21, -1, g, M2, ?_, ?_, RR_t hR (fun _ _ => rfl) l2 (Or.inl rfl)⟩
    · unfold x_laid
      rw [within_eq]
      refine st_b rfl ?_
      by_cases q : 0 ≤ v5 ∧ v5 ≤ v1 - 1
      · exact st_f (by rw [if_pos q]; decide) (st_b (fx2 hok) (st_f (fun z => z rfl) rfl))
      · exact st_t (by rw [if_neg q]) rfl
    · unfold m_laid
      exact st_b l1 (st_t rfl rfl)
  obtain ⟨n, f, n0, gp, ok⟩ := hok
  have hok' := ok
  obtain ⟨rfl, n1, n8, rfl, hf, rfl, k1, k4, rfl, hgp, c1, c4, hm⟩ := ok
  by_cases hv : ∃ i, i < n ∧ v5 = nn i
  rotate_left
  · obtain ⟨M2, l1, l2, l3⟩ := lays_y (c := g) (M := g) h.net hTS.1 hTS.2.1 hok' (F := stepB 8 5 + 101) (by omega)
    have hnv : ¬ (0 ≤ v5 ∧ v5 ≤ nn n - 1) := fun e => hv ((rg1 (by omega)).mp e)
    refine ⟨21, stepB 8 5 + 101, -1, g, M2, ?_, ?_, RR_t hR (fun _ _ => rfl) l3 (Or.inl rfl)⟩
    · unfold x_laid
      exact st_b (by rw [within_eq, if_neg hnv]) (st_t rfl rfl)
    · unfold m_laid
      refine st_b l1 ?_
      rcases found01 (tAcc f n0 gp n) with e | e
      · exact st_t e rfl
      · exact st_f (by rw [e]; decide) (st_b (by rw [isIn_eq, if_neg hnv]) (st_f (fun z => z rfl) rfl))
  obtain ⟨i, hi, rfl⟩ := hv
  have hi8 : i < 8 := by omega
  have hin : inb (nn i) 8 = true := by simp (disch := first | omega | decide) only [lt1, nnMl, nnMr, nnAl, nnAr, nnA, nnM, nnB, nnT, nnP, nnE, nnEl, nnEr, nnL, nnLl, nnLr, nnQ, nnQr, nnN, Nat.add_zero, if_false, if_true, Option.bind_some, not_true, not_false_iff, not_true_eq_false, not_false_eq_true, eq_self, Nat.not_lt_zero, z10, z01, or_true, true_or, or_false, false_or, true_and, false_and, hi8]
  have w5 : ∀ g : Sg, x_within (nn i) 0 (nn n - 1) g = some 1 := fun g => by rw [within_eq, if_pos ((rg1 (by omega)).mpr ⟨i, hi, rfl⟩)]
  have m5 : ∀ g : Sg, m_isIn (nn i) 0 (nn n - 1) g = some 1 := w5
  obtain ⟨S2, s1, s2, s3⟩ := fx1 n f n0 gp hok'
  have e216 : S2 216 = g 216 := s3 216 (by omega)
  obtain ⟨M2, l1, l2, l3⟩ := lays_y (c := g) (M := S2) (by rw [e216]; exact h.net) (by rw [s3 229 (by omega)]; exact hTS.1) (by rw [s3 230 (by omega)]; exact hTS.2.1) hok' (F := stepB 8 5 + 101) (by omega)
  have hRR : RR TSd M2 := RR_t hR s3 l3 (Or.inr ⟨n, f, n0, gp, n1, n8, hf, k4, hgp, c1, c4, s2⟩)
  have hb := full_b (P := cntB f 10) (n0 := n0) (gp := gp) (n := n) n 0 (fun _ => 0) none (by omega) (fun i hi => absurd hi (Nat.not_lt_zero _)) (fun a e => by cases e)
  have hb : accB n (cntB f 10) (tAcc f n0 gp n) := hb
  rcases s2.2.2.2.2.2.1 with ⟨e0, _⟩ | ⟨a, e0, a1, a2, a3, a4, _, _⟩
  · rw [e0] at s1 l1
    refine ⟨21, stepB 8 5 + 101, -1, S2, M2, ?_, ?_, hRR⟩
    · unfold x_laid
      exact st_b (w5 g) (st_f (by decide) (st_b s1 (st_f (fun z => z rfl) rfl)))
    · unfold m_laid
      exact st_b l1 (st_t rfl rfl)
  · have hbi := hb a e0 i hi
    have hm2 := l2.2.1
    rw [e0] at s1 l1 hm2
    rw [show found (some a) = 1 from rfl] at s1 l1
    rcases hm2 with ⟨z, _⟩ | ⟨a', z, b1, b2, b3, _⟩
    · cases z
    · cases z
      have b3i := b3 i hi
      have a4i := a4 i hi
      by_cases q : a.2.2 i < cntB f 10
      · obtain ⟨x, x1, x2, x3⟩ := cntB_ex (f := f) 10 (a.2.2 i) q
        have q4 : a.2.2 i < 4 := by omega
        have hq4 : inb (nn (a.2.2 i)) 4 = true := by simp (disch := first | omega | decide) only [lt1, nnMl, nnMr, nnAl, nnAr, nnA, nnM, nnB, nnT, nnP, nnE, nnEl, nnEr, nnL, nnLl, nnLr, nnQ, nnQr, nnN, Nat.add_zero, if_false, if_true, Option.bind_some, not_true, not_false_iff, not_true_eq_false, not_false_eq_true, eq_self, Nat.not_lt_zero, z10, z01, or_true, true_or, or_false, false_or, true_and, false_and, q4]
        refine ⟨21, stepB 8 5 + 101, nn x, S2, M2, ?_, ?_, hRR⟩
        · unfold x_laid
          refine st_b (w5 g) (st_f (by decide) (st_b s1 (st_t (by decide) (st_b (x := nn x) ?_ rfl))))
          unfold turns_nodeAt
          rw [a1, s2.1, s2.2.2.2.2.1, nnT (by omega), a4i]
          refine st_f (by decide) (st_b (w5 S2) (st_f (by decide) (st_t (by simp (disch := first | omega | decide) only [lt1, nnMl, nnMr, nnAl, nnAr, nnA, nnM, nnB, nnT, nnP, nnE, nnEl, nnEr, nnL, nnLl, nnLr, nnQ, nnQr, nnN, Nat.add_zero, if_false, if_true, Option.bind_some, not_true, not_false_iff, not_true_eq_false, not_false_eq_true, eq_self, Nat.not_lt_zero, z10, z01, or_true, true_or, or_false, false_or, true_and, false_and, hi8]) (st_w hin (st_b (wP_y q c4) (st_f (by decide) (st_t hq4 ?_)))))))
          rw [nnT (by omega), ← x3, s2.2.2.2.2.2.2 x x1 x2]
        · unfold m_laid
          refine st_b l1 (st_f (by decide) (st_b (m5 M2) (st_t (by decide) (st_t hin ?_))))
          rw [nnT (show i < 2147483648 by omega), b3i, l2.1]
          refine st_t (nnNe (by omega) (by omega) (by omega)) (st_t hin (st_t hq4 ?_))
          rw [nnT (by omega), ← x3, l2.2.2 x x1 x2]
      · have qe : a.2.2 i = cntB f 10 := by omega
        refine ⟨21, stepB 8 5 + 101, 99, S2, M2, ?_, ?_, hRR⟩
        · unfold x_laid
          refine st_b (w5 g) (st_f (by decide) (st_b s1 (st_t (by decide) (st_b (x := 99) ?_ rfl))))
          unfold turns_nodeAt
          rw [a1, s2.1, s2.2.2.2.2.1, nnT (by omega), a4i]
          exact st_f (by decide) (st_b (w5 S2) (st_f (by decide) (st_t (by simp (disch := first | omega | decide) only [lt1, nnMl, nnMr, nnAl, nnAr, nnA, nnM, nnB, nnT, nnP, nnE, nnEl, nnEr, nnL, nnLl, nnLr, nnQ, nnQr, nnN, Nat.add_zero, if_false, if_true, Option.bind_some, not_true, not_false_iff, not_true_eq_false, not_false_eq_true, eq_self, Nat.not_lt_zero, z10, z01, or_true, true_or, or_false, false_or, true_and, false_and, hi8]) (st_w hin (st_b (wP_n (by omega) (by omega) c4) (st_t rfl rfl))))))
        · unfold m_laid
          refine st_b l1 (st_f (by decide) (st_b (m5 M2) (st_t (by decide) (st_t hin ?_))))
          rw [nnT (show i < 2147483648 by omega), b3i, l2.1]
          exact st_f (fun z => z (by rw [qe])) rfl
