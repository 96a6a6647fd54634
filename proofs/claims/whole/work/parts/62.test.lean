/-! the statute: a test -/
theorem kMf : ∀ k : Fin 20, (kM k.1 = 1 ↔ k.1 = 18) ∧ (kM k.1 = 2 ↔ 13 ≤ k.1 ∧ k.1 ≤ 17) ∧ (kM k.1 = 3 ↔ 1 ≤ k.1 ∧ k.1 ≤ 12) ∧ (kM k.1 = 0 ↔ k.1 = 19) := by decide
theorem mWf : ∀ k : Fin 13, (mW k.1 = 30 ↔ k.1 = 1) ∧ (mW k.1 = 31 ↔ k.1 = 2) ∧ (mW k.1 = 32 ↔ k.1 = 3) ∧ ((20 ≤ mW k.1 ∧ mW k.1 ≤ 22) ↔ 4 ≤ k.1 ∧ k.1 ≤ 6) ∧ ((1 ≤ mW k.1 ∧ mW k.1 ≤ 6) ↔ 7 ≤ k.1) ∧ (mW k.1 = 22 ↔ k.1 = 6) ∧ (mW k.1 = 21 ↔ k.1 = 5) ∧ (mW k.1 = 1 ↔ k.1 = 7) ∧ (7 ≤ k.1 → mW k.1 = nn (k.1 - 6)) := by decide
theorem sgf : ∀ k : Fin 18, 13 ≤ k.1 → (sgM k.1 = 58 ↔ k.1 = 13) ∧ (sgM k.1 = 59 ↔ k.1 = 14) ∧ (15 ≤ k.1 → (k.1 = 15 ∧ sgM k.1 = 60) ∨ (k.1 = 16 ∧ sgM k.1 = 62) ∨ (k.1 = 17 ∧ sgM k.1 = 61)) := by decide
def BAD (F len : Nat) (c : Sg) (p : Nat) (M2 : Sg) (L : Nat) : Prop := ∃ r s, FIN F len c r p ∧ KC c r ∧ r 191 1 = 1 ∧ r 191 2 = nn s ∧ M2 215 10 ≠ 0 ∧ M2 215 11 = nn L ∧ M2 216 8 = 1 ∧ M2 216 9 = nn s
def NXT (F : Nat) (b : Nat → Int32) (len : Nat) (c : Sg) (p : Nat) (st : Int32) (R : Sg → Prop) (M2 : Sg) : Prop := ∃ c2 p2 k s e nu, (∀ r, FIN F len c2 r p2 → FIN F len c r p) ∧ KC c c2 ∧ p < p2 ∧ p2 ≤ len ∧ TK F b len p2 k s e nu ∧ c2 32 = b ∧ c2 191 4 = nn p2 ∧ c2 191 3 = st ∧ PM b len k s e nu M2 ∧ R c2
theorem BAD.t {F len p p2 L : Nat} {c c2 M2 : Sg} (h : BAD F len c2 p2 M2 L) (h1 : ∀ r, FIN F len c2 r p2 → FIN F len c r p) (h2 : KC c c2) : BAD F len c p M2 L := by
  obtain ⟨r, s, a1, a2, a3⟩ := h
  exact ⟨r, s, h1 r a1, h2.t a2, a3⟩
theorem NXT.t {F len p p2 : Nat} {b : Nat → Int32} {st : Int32} {R : Sg → Prop} {c c2 M2 : Sg} (h : NXT F b len c2 p2 st R M2) (h1 : ∀ r, FIN F len c2 r p2 → FIN F len c r p) (h2 : KC c c2) (h3 : p ≤ p2) : NXT F b len c p st R M2 := by
  obtain ⟨c3, p3, k, s, e, nu, a1, a2, a3, a4⟩ := h
  exact ⟨c3, p3, k, s, e, nu, fun r hr => h1 r (a1 r hr), h2.t a2, by omega, a4⟩
theorem BAD.cg {F len p L : Nat} {c M M2 : Sg} (h : BAD F len c p M L) (h1 : M2 215 10 = M 215 10) (h2 : M2 215 11 = M 215 11) (h3 : M2 216 = M 216) : BAD F len c p M2 L := by
  unfold BAD at *
  rw [h1, h2, h3]
  exact h
theorem PM.cg {b : Nat → Int32} {len k s e nu : Nat} {M M2 : Sg} (h : PM b len k s e nu M) (h1 : M2 215 = M 215) (h2 : M2 216 = M 216) : PM b len k s e nu M2 := by
  unfold PM MB TM at *
  rw [h1, h2]
  exact h
theorem IT5.cg {c c2 M M2 : Sg} {L v : Nat} (h : IT5 c M L v) (h1 : c2 191 1 = c 191 1) (h2 : c2 191 2 = c 191 2) (hc : ∀ i, 192 ≤ i → i ≤ 199 → c2 i = c i) (m1 : M2 215 10 = M 215 10) (m2 : M2 215 11 = M 215 11) (m3 : M2 216 = M 216) (m4 : M2 219 = M 219) (m5 : M2 220 = M 220) : IT5 c2 M2 L v := by
  unfold IT5 LNs at *
  rw [h1, h2, hc 192 (by decide) (by decide), hc 193 (by decide) (by decide), hc 194 (by decide) (by decide), hc 195 (by decide) (by decide), hc 196 (by decide) (by decide), hc 197 (by decide) (by decide), hc 198 (by decide) (by decide), hc 199 (by decide) (by decide), m1, m2, m3, m4, m5]
  exact h
theorem bad_i {F len p k s L : Nat} {c c1 c2 M : Sg} (hp : p ≤ len) (hl : len ≤ 500) (h1 : reader_nextToken F (nn len) c = some c1) (h6 : c1 191 6 = nn k) (hk : k ≤ 19) (hz : k ≠ 19 ∨ c1 191 3 ≠ 0) (hg : reader_goesOn c1 = some (0, c2)) (h5 : c2 191 5 = nn s) (hK : KC c c2) (m5 : M 215 5 = nn s) (mL : M 215 11 = nn L) : BAD F len c p (stp M) L := by
  refine ⟨_, s, fin_bad hp hl h1 h6 hk hz hg, hK.t ((KC.w (by decide)).t (KC.w (by decide))), by rw [up_n (by decide), up_e], by rw [up_e]; exact h5, ?_, ?_, ?_, ?_⟩ <;> unfold stp
  · rw [u2n (by decide), u2n (by decide), up_e]; decide
  · rw [u2n (by decide), u2n (by decide), up_n (by decide)]; exact mL
  · rw [up_n (by decide), up_e]
  · rw [up_e]; exact m5
theorem lim_e {b : Nat → Int32} {F len p k s e nu L v : Nat} {c M : Sg} (hV : VB b) (hl : len ≤ 500) (hF : 600 ≤ F) (hp : p ≤ len) (hT : TK F b len p k s e nu) (h32 : c 32 = b) (h4 : c 191 4 = nn p) (h3 : c 191 3 = 4) (hP : PM b len k s e nu M) (hI : ILt c M L v) (hv : c 191 1 = 0 → v < 4) (h8 : c 191 8 = 0 ∨ c 191 8 = 1) (q0 : M 220 0 = c 191 8) (q1 : ∃ w, 1 ≤ w ∧ w ≤ 6 ∧ c 191 9 = nn (6 + w) ∧ M 220 1 = nn w) (q2 : tSign (c 191 10) (M 220 2)) : ∃ x M2, m_numbered F M = some (x, M2) ∧ KM M (up2 M2 220 3 x) ∧ (BAD F len c p (up2 M2 220 3 x) L ∨ NXT F b len c p 5 (fun c2 => IT5 c2 (up2 M2 220 3 x) L v) (up2 M2 220 3 x)) := by
  obtain ⟨c1, r1, r2, r3, r4, r5, r6⟩ := hT.2.2.2.2.2.2.1 c h32 h4
  have g3 : c1 191 3 = 4 := (r2.2 3 (by decide)).trans h3
  have I1 : ILt c1 M L v := hI.cg (r2.2 1 (by decide)) (r2.2 2 (by decide)) (fun i a b => r2.1 i (by omega)) rfl rfl rfl rfl
  have hkM := kMf ⟨k, by have := hT.1; omega⟩
  by_cases hk : k = 18
  · obtain ⟨k2, s2, e2, nu2, M2, T2, m1, m2, m3⟩ := adv hV hl hF hP hT.2.2.2.1
    refine ⟨nn nu, M2, ?_, m2.k.t KM.w20, Or.inr ?_⟩
    · unfold m_numbered
      refine st_l (st_f (fun y => y hI.2.2.1) (st_f (by rw [hP.2.2.2.1, hk]; decide) (st_b m1 ?_)))
      rw [hP.2.2.2.2.2.2 hk]
    · have e220 : M2 220 = M 220 := m2.1 220 (by decide)
      obtain ⟨d2, t1, t2, t3, t4⟩ := kt (d := c1) (M := up2 M2 220 3 (nn nu)) (lim := nn nu) (I1.cg rfl rfl (fun _ _ _ => rfl) (by rw [u2n (by decide)]; exact m2.2 10 (by decide)) (by rw [u2n (by decide)]; exact m2.2 11 (by decide)) (by rw [u2n (by decide)]; exact m2.1 216 (by decide)) (by rw [u2n (by decide)]; exact m2.1 219 (by decide))) (by rw [r2.2 1 (by decide)]; exact hv) (by rw [r2.2 8 (by decide)]; exact h8) (by rw [up_n (by decide), e220, r2.2 8 (by decide)]; exact q0) (by rw [up_n (by decide), e220, r2.2 9 (by decide)]; exact q1) (by rw [up_n (by decide), e220, r2.2 10 (by decide)]; exact q2) up_e
      have hgo := go4 (d := up2 d2 191 3 5) (x := 1) g3 (by
        unfold reader_takeLimit
        refine st_t (by rw [r5, hk]; rfl) ?_
        rw [r6 hk]
        exact st_b t1 rfl) (Or.inr rfl)
      have hpe : p < e := by have := hT.2.1; have := hT.2.2.2.2.1 (by omega); omega
      refine ⟨up2 d2 191 3 5, e, k2, s2, e2, nu2, fun r hr => fin_ok hp hl hpe r1 r5 hT.1 (Or.inl (by omega)) hgo hr, r2.k.t (t3.t (KC.w (by decide))), hpe, hT.2.2.2.1, T2, ?_, ?_, up_e, ?_, ?_⟩
      · rw [u2n (by decide), t3 32 (by decide), r2.1 32 (by decide)]; exact h32
      · rw [up_n (by decide), t2]; exact r3
      · exact m3.cg (u2n (by decide)) (u2n (by decide))
      · exact t4.cg (up_n (by decide)) (up_n (by decide)) (fun i a b => u2n (by omega)) rfl rfl rfl rfl rfl
  · refine ⟨M 215 7, stp M, ?_, KM.stp.t KM.w20, Or.inl ?_⟩
    · unfold m_numbered
      exact st_l (st_f (fun y => y hI.2.2.1) (st_t (by rw [hP.2.2.2.1]; exact fun y => hk (hkM.1.mp y)) (st_b (stp_e hI.2.2.1) rfl)))
    · have hgo := go4 (d := c1) (x := 0) g3 (by
        unfold reader_takeLimit
        exact st_f (by rw [r5, nrQ (b := 18) 18 rfl (by have := hT.1; omega) (by decide)]; exact hk) rfl) (Or.inl rfl)
      exact (bad_i hp hl r1 r5 hT.1 (Or.inr (by rw [g3]; decide)) hgo r4 r2.k hP.2.2.1 hI.2.1).cg (by rw [u2n (by decide)]) (by rw [u2n (by decide)]) (u2n (by decide))
/-- the model after the test's first word -/
def tst2 (F : Nat) (g8 : Sg) : Option Sg := lt1 (up2 g8 220 2 (g8 215 8)) (fun g9 => (if ¬ (g9 215 6) = 2 then Option.bind (m_stops g9) (fun g10 => (some g10)) else (if (g9 215 8) = 58 then Option.bind (m_stops g9) (fun g11 => (some g11)) else (if ¬ (g9 215 8) = 59 then Option.bind (m_advance F g9) (fun g12 => Option.bind (m_numbered F g12) (fun (x13, g14) => lt1 (up2 g14 220 3 x13) (fun g15 => (some g15)))) else Option.bind (m_stops g9) (fun g16 => (some g16))))))
theorem sig_e {b : Nat → Int32} {F len p k s e nu L v : Nat} {c M : Sg} (hV : VB b) (hl : len ≤ 500) (hF : 600 ≤ F) (hp : p ≤ len) (hT : TK F b len p k s e nu) (h32 : c 32 = b) (h4 : c 191 4 = nn p) (h3 : c 191 3 = 3) (hP : PM b len k s e nu M) (hI : ILt c M L v) (hv : c 191 1 = 0 → v < 4) (h8 : c 191 8 = 0 ∨ c 191 8 = 1) (q0 : M 220 0 = c 191 8) (q1 : ∃ w, 1 ≤ w ∧ w ≤ 6 ∧ c 191 9 = nn (6 + w) ∧ M 220 1 = nn w) : ∃ M2, tst2 F M = some M2 ∧ KM M M2 ∧ (BAD F len c p M2 L ∨ NXT F b len c p 5 (fun c2 => IT5 c2 M2 L v) M2) := by
  obtain ⟨c1, r1, r2, r3, r4, r5, r6⟩ := hT.2.2.2.2.2.2.1 c h32 h4
  have hk19 := hT.1
  have g3 : c1 191 3 = 3 := (r2.2 3 (by decide)).trans h3
  have hkM := kMf ⟨k, by omega⟩
  have hP1 : PM b len k s e nu (up2 M 220 2 (M 215 8)) := hP.cg (u2n (by decide)) (u2n (by decide))
  have I1 : ILt c1 (up2 M 220 2 (M 215 8)) L v := hI.cg (r2.2 1 (by decide)) (r2.2 2 (by decide)) (fun i a b => r2.1 i (by omega)) (by rw [u2n (by decide)]) (by rw [u2n (by decide)]) (u2n (by decide)) (u2n (by decide))
  obtain ⟨c2, hc2⟩ : ∃ c2, c2 = up2 (up2 c1 191 10 (c1 191 6)) 191 3 4 := ⟨_, rfl⟩
  have c2j : ∀ j, j ≠ 10 → j ≠ 3 → c2 191 j = c1 191 j := fun j a b => by rw [hc2, up_n b, up_n a]
  have c2i : ∀ i, i ≠ 191 → c2 i = c1 i := fun i a => by rw [hc2, u2n a, u2n a]
  have c210 : c2 191 10 = nn k := by rw [hc2, up_n (by decide), up_e]; exact r5
  have hgo : reader_goesOn c1 = some (if 15 ≤ k ∧ k ≤ 17 then 1 else 0, c2) := by
    refine go3 g3 ?_ (by split <;> decide)
    unfold reader_takeSign
    refine st_l (st_l ?_)
    rw [← hc2, c2j 6 (by decide) (by decide), r5]
    have hs : tokens_isSign (nn k) c2 = some (if 15 ≤ k ∧ k ≤ 17 then 1 else 0) := by
      unfold tokens_isSign
      by_cases z1 : k = 15
      · subst z1; exact st_t rfl rfl
      refine st_f (by rw [nrQ (b := 15) 15 rfl (by omega) (by decide)]; exact z1) ?_
      by_cases z2 : k = 16
      · subst z2; exact st_t rfl rfl
      refine st_f (by rw [nrQ (b := 16) 16 rfl (by omega) (by decide)]; exact z2) ?_
      by_cases z3 : k = 17
      · subst z3; exact st_f (fun y => y rfl) rfl
      · rw [if_neg (show ¬ (15 ≤ k ∧ k ≤ 17) by omega)]
        exact st_t (by rw [nrQ (b := 17) 17 rfl (by omega) (by decide)]; exact z3) rfl
    exact st_b hs (st_t (by split <;> decide) rfl)
  have k2 : KC c c2 := fun i a => (c2i i (by omega)).trans (r2.1 i (by omega))
  by_cases hk : 15 ≤ k ∧ k ≤ 17
  · rw [if_pos hk] at hgo
    have hsg := sgf ⟨k, by omega⟩ (show 13 ≤ k by omega)
    obtain ⟨k2', s2, e2, nu2, M2, T2, m1, m2, m3⟩ := adv hV hl hF hP1 hT.2.2.2.1
    have hpe : p < e := by have := hT.2.1; have := hT.2.2.2.2.1 (by omega); omega
    have e220 : M2 220 = up1 (M 220) 2 (M 215 8) := (m2.1 220 (by decide)).trans u2e
    have h8s : M 215 8 = sgM k := hP.2.2.2.2.2.1 (by omega) hk.2
    obtain ⟨x, M3, n1, n2, n3⟩ := lim_e (c := c2) (M := M2) (v := v) (L := L) hV hl hF hT.2.2.2.1 T2 (by rw [c2i 32 (by decide), r2.1 32 (by decide)]; exact h32) (by rw [c2j 4 (by decide) (by decide)]; exact r3) (by rw [hc2, up_e]) m3 (I1.cg (c2j 1 (by decide) (by decide)) (c2j 2 (by decide) (by decide)) (fun i a b => c2i i (by omega)) (m2.2 10 (by decide)) (m2.2 11 (by decide)) (m2.1 216 (by decide)) (m2.1 219 (by decide))) (by rw [c2j 1 (by decide) (by decide), r2.2 1 (by decide)]; exact hv) (by rw [c2j 8 (by decide) (by decide), r2.2 8 (by decide)]; exact h8) (by rw [c2j 8 (by decide) (by decide), r2.2 8 (by decide), e220, up1_ne (by decide)]; exact q0) (by rw [c2j 9 (by decide) (by decide), r2.2 9 (by decide), e220, up1_ne (by decide)]; exact q1) (by
      rw [c210, e220, up1_eq, h8s]
      rcases hsg.2.2 hk.1 with ⟨y1, y2⟩ | ⟨y1, y2⟩ | ⟨y1, y2⟩
      · have y1 : k = 15 := y1
        have y2 : sgM k = 60 := y2
        rw [y2, y1]; exact Or.inl ⟨rfl, rfl⟩
      · have y1 : k = 16 := y1
        have y2 : sgM k = 62 := y2
        rw [y2, y1]; exact Or.inr (Or.inl ⟨rfl, rfl⟩)
      · have y1 : k = 17 := y1
        have y2 : sgM k = 61 := y2
        rw [y2, y1]; exact Or.inr (Or.inr ⟨rfl, rfl⟩))
    refine ⟨up2 M3 220 3 x, ?_, (KM.w20.t m2.k).t n2, ?_⟩
    · unfold tst2
      refine st_l (st_f ?_ (st_f ?_ (st_t ?_ (st_b m1 (st_b n1 rfl)))))
      · rw [hP1.2.2.2.1]
        exact fun y => y (hkM.2.1.mpr (show 13 ≤ k ∧ k ≤ 17 by omega))
      · rw [hP1.2.2.2.2.2.1 (by omega) hk.2]
        intro y
        have : k = 13 := hsg.1.mp y
        omega
      · rw [hP1.2.2.2.2.2.1 (by omega) hk.2]
        intro y
        have : k = 14 := hsg.2.1.mp y
        omega
    · have hfin : ∀ r, FIN F len c2 r e → FIN F len c r p := fun r hr => fin_ok hp hl hpe r1 r5 hk19 (Or.inl (by omega)) hgo hr
      rcases n3 with z | z
      · exact Or.inl (z.t hfin k2)
      · exact Or.inr (z.t hfin k2 (by omega))
  · rw [if_neg hk] at hgo
    refine ⟨stp (up2 M 220 2 (M 215 8)), ?_, KM.w20.t KM.stp, Or.inl (bad_i hp hl r1 r5 hk19 (Or.inr (by rw [g3]; decide)) hgo (by rw [c2j 5 (by decide) (by decide)]; exact r4) k2 hP1.2.2.1 I1.2.1)⟩
    unfold tst2
    refine st_l ?_
    have hst := stp_e I1.2.2.1
    by_cases y1 : 13 ≤ k ∧ k ≤ 17
    · have hsg := sgf ⟨k, by omega⟩ y1.1
      refine st_f (by rw [hP1.2.2.2.1]; exact fun y => y (hkM.2.1.mpr y1)) ?_
      rw [hP1.2.2.2.2.2.1 y1.1 y1.2]
      by_cases y2 : k = 13
      · exact st_t (hsg.1.mpr y2) (st_b hst rfl)
      · exact st_f (fun y => y2 (hsg.1.mp y)) (st_f (fun y => y (hsg.2.1.mpr (show k = 14 by omega))) (st_b hst rfl))
    · exact st_t (by rw [hP1.2.2.2.1]; exact fun y => y1 (hkM.2.1.mp y)) (st_b hst rfl)
