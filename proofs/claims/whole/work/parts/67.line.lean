/-! the statute: the tests of a line; a line; all lines -/
theorem tk_n {b : Nat → Int32} {F len k s e nu : Nat} {x : Int32} {M : Sg} (hk19 : k ≤ 19) (hP : PM b len k s e nu M) (h10 : M 215 10 = 0) (h : 1 ≤ k → k ≤ 12 → mW k ≠ x) : m_takes F x M = some (0, M) := by
  have hkM := kMf ⟨k, by omega⟩
  unfold m_takes
  refine st_f (fun y => y h10) ?_
  by_cases y1 : 1 ≤ k ∧ k ≤ 12
  · exact st_f (by rw [hP.2.2.2.1]; exact fun y => y (hkM.2.2.1.mpr y1)) (st_f (by rw [hP.2.2.2.2.1 y1.1 y1.2]; exact h y1.1 y1.2) rfl)
  · exact st_t (by rw [hP.2.2.2.1]; exact fun y => y1 (hkM.2.2.1.mp y)) rfl
theorem tk_y {b : Nat → Int32} {F len k s e nu : Nat} {x : Int32} {M M2 : Sg} (hP : PM b len k s e nu M) (h10 : M 215 10 = 0) (h1 : 1 ≤ k) (h2 : k ≤ 12) (h : mW k = x) (hm : m_advance F M = some M2) : m_takes F x M = some (1, M2) := by
  have hkM := kMf ⟨k, by omega⟩
  unfold m_takes
  exact st_f (fun y => y h10) (st_f (by rw [hP.2.2.2.1]; exact fun y => y (hkM.2.2.1.mpr ⟨h1, h2⟩)) (st_t (by rw [hP.2.2.2.2.1 h1 h2]; exact h) (st_b hm rfl)))
theorem and_e {c1 : Sg} {k : Nat} (hk19 : k ≤ 19) (r5 : c1 191 6 = nn k) : reader_takeAnd c1 = some (if k = 2 ∨ k = 13 then 1 else 0, up2 c1 191 3 (if k = 2 then 1 else 6)) := by
  unfold reader_takeAnd
  by_cases z : k = 2
  · rw [if_pos z, if_pos (Or.inl z)]
    refine st_f (by rw [r5, z]; exact fun y => y rfl) ?_
    unfold reader_takeAnd_15
    exact st_l (st_t (by rw [up_n (by decide), r5, z]; rfl) rfl)
  · rw [if_neg z]
    refine st_t (by rw [r5, nrQ (b := 2) 2 rfl (by omega) (by decide)]; exact z) ?_
    unfold reader_takeAnd_15
    refine st_l (st_f (by rw [up_n (by decide), r5, nrQ (b := 2) 2 rfl (by omega) (by decide)]; exact z) ?_)
    by_cases y : k = 13
    · rw [if_pos (Or.inr y)]
      exact st_f (by rw [up_n (by decide), r5, y]; exact fun y => y rfl) rfl
    · rw [if_neg (show ¬ (k = 2 ∨ k = 13) by omega)]
      exact st_t (by rw [up_n (by decide), r5, nrQ (b := 13) 13 rfl (by omega) (by decide)]; exact y) rfl
theorem tests_e {b : Nat → Int32} {F len L : Nat} (hV : VB b) (hl : len ≤ 500) (hF : 600 ≤ F) (hL : L ≤ 500) : ∀ n p k s e nu v (c M : Sg), len - p + 1 < n → p ≤ len → v ≤ p → TK F b len p k s e nu → c 32 = b → c 191 4 = nn p → c 191 3 = 1 → PM b len k s e nu M → ILt c M L v → ∃ M2, m_aLine_31 F n (nn v) 1 M = some M2 ∧ KM M M2 ∧ (LNO F b len c p M2 L ∨ BAD F len c p M2 L) := by
  intro n
  induction n with
  | zero => intro p k s e nu v c M hn; omega
  | succ n ih =>
    intro p k s e nu v c M hn hp hvp hT h32 h4 h3 hP hI
    obtain ⟨M2, t1, t2, t3⟩ := test_e hV hl hF hp hT h32 h4 h3 hP hI
    have h31 : ∀ R, m_aLine_55 F (fun v1 v2 g0 => m_aLine_31 F n v1 v2 g0) F (nn v) 0 M2 = R → m_aLine_31 F (n + 1) (nn v) 1 M = R := by
      intro R hR
      rw [m_aLine_31]
      refine st_f (by decide) ?_
      unfold mnn at t1
      by_cases z : v ≤ 3
      · rw [if_pos z] at t1
        exact st_t (by rw [nrE (b := 3) 3 rfl (by omega) (by decide)]; exact z) (st_b t1 hR)
      · rw [if_neg z] at t1
        refine st_f (by rw [nrE (b := 3) 3 rfl (by omega) (by decide)]; exact z) ?_
        rw [hP.2.2.1]
        exact st_b (ntM_e 3 (nn s) hI.2.2.1) (st_b t1 hR)
    obtain ⟨n, rfl⟩ : ∃ k, n = k + 1 := ⟨n - 1, by omega⟩
    rcases t3 with z | z
    · have h11 : M2 215 11 = nn L := by obtain ⟨r, s', b1, b2, b3, b4, b5, b6, b7, b8⟩ := z; exact b6
      have h10 : M2 215 10 ≠ 0 := by obtain ⟨r, s', b1, b2, b3, b4, b5, b6, b7, b8⟩ := z; exact b5
      obtain ⟨M3, u1, u2, u3, u4⟩ := cp55 (F := F) (L := L) (v := v) (n := F) (kk := fun v1 v2 g0 => m_aLine_31 F (n + 1) v1 v2 g0) (M := M2) (by omega) (by omega) (by omega) h11
      have h103 : M3 215 10 ≠ 0 := by rw [u3 215 (by decide)]; exact h10
      refine ⟨M3, h31 _ (u1.trans (st_b (dd_takes h103) ?_)), t2.t u2, Or.inr (z.cg (by rw [u3 215 (by decide)]) (by rw [u3 215 (by decide)]) (u3 216 (by decide)))⟩
      show m_aLine_31 F (n + 1) (nn (v + 1)) 0 M3 = some M3
      rw [m_aLine_31]
      exact st_t rfl (st_b (dd_must h103) (dd_107 h103))
    · obtain ⟨c2, p2, k2, s2, e2, nu2, z1, z2, z3, z4, z5, z6, z7, z8, z9, z10⟩ := z
      obtain ⟨M3, u1, u2, u3, u4⟩ := cp55 (F := F) (L := L) (v := v) (n := F) (kk := fun v1 v2 g0 => m_aLine_31 F (n + 1) v1 v2 g0) (M := M2) (by omega) (by omega) (by omega) z10.2.1
      have I3 : ILt c2 M3 L (v + 1) := IT5.up z10 u3 u4
      have P3 : PM b len k2 s2 e2 nu2 M3 := z9.cg (u3 215 (by decide)) (u3 216 (by decide))
      obtain ⟨c1, r1, r2, r3, r4, r5, r6⟩ := z5.2.2.2.2.2.2.1 c2 z6 z7
      have hk19 := z5.1
      have g3 : c1 191 3 = 5 := (r2.2 3 (by decide)).trans z8
      have hgo := go5 g3 (and_e hk19 r5) (by split <;> decide)
      obtain ⟨c3, hc3⟩ : ∃ c3, c3 = up2 c1 191 3 (if k2 = 2 then 1 else 6) := ⟨_, rfl⟩
      rw [← hc3] at hgo
      have c3i : ∀ i, i ≠ 191 → c3 i = c1 i := fun i x => by rw [hc3, u2n x]
      have c3j : ∀ j, j ≠ 3 → c3 191 j = c1 191 j := fun j x => by rw [hc3, up_n x]
      have kc3 : KC c2 c3 := fun i x => by rw [c3i i (by omega), r2.1 i (by omega)]
      have I3c : ∀ M4 : Sg, StM M3 M4 → ILt c3 M4 L (v + 1) := fun M4 m2 => I3.cg (by rw [c3j 1 (by decide), r2.2 1 (by decide)]) (by rw [c3j 2 (by decide), r2.2 2 (by decide)]) (fun i x y => by rw [c3i i (by omega), r2.1 i (by omega)]) (m2.2 10 (by decide)) (m2.2 11 (by decide)) (m2.1 216 (by decide)) (m2.1 219 (by decide))
      have c332 : c3 32 = b := by rw [c3i 32 (by decide), r2.1 32 (by decide)]; exact z6
      have c34 : c3 191 4 = nn e2 := (c3j 4 (by decide)).trans r3
      have h103 : M3 215 10 = 0 := I3.2.2.1
      by_cases hk : k2 = 2 ∨ k2 = 13
      · rw [if_pos hk] at hgo
        have hpe : p2 < e2 := by have := z5.2.1; have := z5.2.2.2.2.1 (by omega); omega
        obtain ⟨k4, s4, e4, nu4, M4, T4, m1, m2, m3⟩ := adv hV hl hF P3 z5.2.2.2.1
        have hfin : ∀ r, FIN F len c3 r e2 → FIN F len c r p := fun r hr => z1 r (fin_ok z4 hl hpe r1 r5 hk19 (Or.inl (by omega)) hgo hr)
        have kc : KC c c3 := z2.t kc3
        by_cases h2 : k2 = 2
        · rw [if_pos h2] at hc3
          obtain ⟨M5, w1, w2, w3⟩ := ih e2 k4 s4 e4 nu4 (v + 1) c3 M4 (by have := z5.2.2.2.1; omega) z5.2.2.2.1 (by omega) T4 c332 c34 (by rw [hc3, up_e]) m3 (I3c M4 m2)
          refine ⟨M5, h31 _ (u1.trans (st_b (tk_y P3 h103 (by omega) (by omega) (by rw [h2]; rfl) m1) w1)), ((t2.t u2).t m2.k).t w2, ?_⟩
          rcases w3 with (x | x) | x
          · exact Or.inl (Or.inl (x.t hfin kc))
          · exact Or.inl (Or.inr (x.t hfin kc (by omega)))
          · exact Or.inr (x.t hfin kc)
        · rw [if_neg h2] at hc3
          have h13 : k2 = 13 := by omega
          obtain ⟨d, y1, y2, y3, y4, y5, y6⟩ := T4.2.2.2.2.2.2.1 c3 c332 c34
          have y33 : d 191 3 = 6 := by rw [y2.2 3 (by decide), hc3, up_e]
          obtain ⟨M5, w1, w2, w3⟩ := act_e (c := c3) (c1 := d) (d := d) (M := M4) (L := L) (v := v + 1) hV hl hF z5.2.2.2.1 hL T4 y1 y5 (Or.inr (by rw [y33]; decide)) (by rw [y2.1 32 (by decide)]; exact c332) y3 y4 y5 y2.k (fun x d2 a b => go6 y33 a b) m3 ((I3c M4 m2).cg (y2.2 1 (by decide)) (y2.2 2 (by decide)) (fun i x y => y2.1 i (by omega)) rfl rfl rfl rfl)
          have hmu : m_must F 58 M3 = some M4 := by
            unfold m_must
            exact st_f (fun y => y h103) (st_f (by rw [P3.2.2.2.1, h13]; decide) (st_f (by rw [P3.2.2.2.2.2.1 (by omega) (by omega), h13]; decide) (st_b m1 rfl)))
          refine ⟨M5, h31 _ (u1.trans (st_b (tk_n hk19 P3 h103 (fun _ x => by omega)) ?_)), ((t2.t u2).t m2.k).t w2, ?_⟩
          · show m_aLine_31 F (n + 1) (nn (v + 1)) 0 M3 = some M5
            rw [m_aLine_31]
            exact st_t rfl (st_b hmu w1)
          · rcases w3 with (x | x) | x
            · exact Or.inl (Or.inl (x.t hfin kc))
            · exact Or.inl (Or.inr (x.t hfin kc (by omega)))
            · exact Or.inr (x.t hfin kc)
      · rw [if_neg hk] at hgo
        have hkM := kMf ⟨k2, by omega⟩
        have hbad := bad_i z4 hl r1 r5 hk19 (Or.inr (by rw [g3]; decide)) hgo (by rw [c3j 5 (by decide)]; exact r4) kc3 P3.2.2.1 I3.2.1
        have h10s : (stp M3) 215 10 ≠ 0 := by unfold stp; rw [u2n (by decide), u2n (by decide), up_e]; decide
        have hmu : m_must F 58 M3 = some (stp M3) := by
          unfold m_must
          refine st_f (fun y => y h103) ?_
          by_cases y1 : 13 ≤ k2 ∧ k2 ≤ 17
          · have hsg := sgf ⟨k2, by omega⟩ y1.1
            exact st_f (by rw [P3.2.2.2.1]; exact fun y => y (hkM.2.1.mpr y1)) (st_t (by rw [P3.2.2.2.2.2.1 y1.1 y1.2]; exact fun y => hk (Or.inr (hsg.1.mp y))) (st_b (stp_e h103) rfl))
          · exact st_t (by rw [P3.2.2.2.1]; exact fun y => y1 (hkM.2.1.mp y)) (st_b (stp_e h103) rfl)
        refine ⟨stp M3, h31 _ (u1.trans (st_b (tk_n hk19 P3 h103 (fun x y => ?_)) ?_)), (t2.t u2).t KM.stp, Or.inr (hbad.t z1 z2)⟩
        · have hmw := mWf ⟨k2, by omega⟩
          exact fun q => hk (Or.inl (hmw.2.1.mp q))
        · show m_aLine_31 F (n + 1) (nn (v + 1)) 0 M3 = some (stp M3)
          rw [m_aLine_31]
          exact st_t rfl (st_b hmu (dd_107 h10s))
theorem BLt.nt {c M : Sg} {L v2 s : Nat} {K : Int32} (h : BLt c M L) (hL : 16 ≤ L) (h5 : c 191 5 = nn s) (hK : K ≠ 0) : ILt (ntC K c) (ntM K (nn s) M) L v2 := by
  obtain ⟨a1, a2, a3, a4, a5, a6⟩ := h
  rw [show min L 16 = min (L + 1) 16 by omega] at a1
  unfold ntC ntM
  by_cases z : c 191 1 = 0
  · rw [if_pos z, if_pos (a4.symm.trans z)]
    have e1 : (up2 (up2 c 191 1 K) 191 2 (c 191 5)) 191 1 = K := by rw [up_n (by decide), up_e]
    have e2 : (up2 (up2 M 216 8 K) 216 9 (nn s)) 216 8 = K := by rw [up_n (by decide), up_e]
    refine ⟨?_, ?_, ?_, e1.trans e2.symm, ?_, fun y => absurd (e1.symm.trans y) hK⟩
    · rw [u2n (by decide), u2n (by decide)]; exact a1
    · rw [u2n (by decide), u2n (by decide)]; exact a2
    · rw [u2n (by decide), u2n (by decide)]; exact a3
    · rw [up_e, up_e]; exact h5
  · rw [if_neg z, if_neg (fun y => z (a4.trans y))]
    exact ⟨a1, a2, a3, a4, a5, fun y => absurd y z⟩
theorem line_e {b : Nat → Int32} {F len p k s e nu L : Nat} {c M : Sg} (hV : VB b) (hl : len ≤ 500) (hF : 600 ≤ F) (hp : p ≤ len) (hL : L ≤ p) (hT : TK F b len p k s e nu) (h32 : c 32 = b) (h4 : c 191 4 = nn p) (h3 : c 191 3 = 0) (hk : k ≠ 19) (hP : PM b len k s e nu M) (hB : BLt c M L) : ∃ M2, m_aLine F M = some M2 ∧ KM M M2 ∧ (LNO F b len c p M2 L ∨ BAD F len c p M2 L) := by
  obtain ⟨c1, r1, r2, r3, r4, r5, r6⟩ := hT.2.2.2.2.2.2.1 c h32 h4
  have hk19 := hT.1
  have hpe : p < e := by have := hT.2.1; have := hT.2.2.2.2.1 hk; omega
  have g3 : c1 191 3 = 0 := (r2.2 3 (by decide)).trans h3
  have B1 : BLt c1 M L := hB.cg (r2.2 1 (by decide)) (r2.2 2 (by decide)) (fun i a b => r2.1 i (by omega)) rfl rfl rfl rfl
  obtain ⟨d0, Mn, o1, o2, o3, o4, o5, o6, o7⟩ : ∃ d0 Mn, (∀ r, reader_beginLine_49 d0 = some r → reader_beginLine c1 = some r) ∧ (∀ r, m_aLine_18 F Mn = some r → m_aLine F M = some r) ∧ ILt d0 Mn L 0 ∧ KC c1 d0 ∧ (∀ j, j ≠ 1 → j ≠ 2 → d0 191 j = c1 191 j) ∧ PM b len k s e nu Mn ∧ KM M Mn := by
    by_cases z : L < 16
    · have e192 : c1 192 0 = nn L := by rw [B1.1]; congr 1; omega
      refine ⟨up2 (up2 c1 195 L 0) 192 0 ((up2 c1 195 L 0) 192 0 + 1), M, fun r hr => ?_, fun r hr => ?_, ⟨?_, B1.2.1, B1.2.2.1, ?_, ?_, fun y => ?_⟩, (KC.w (by decide)).t (KC.w (by decide)), fun j _ _ => by rw [u2n (by decide), u2n (by decide)], hP, KM.r⟩
      · unfold reader_beginLine
        rw [e192]
        refine st_f (by rw [nlE (a := 16) 16 rfl (by decide) (by omega)]; omega) (st_t (by rw [nnB (by omega)]; exact z) (st_l (st_l ?_)))
        rw [nnT (by omega)]
        exact hr
      · unfold m_aLine
        rw [B1.2.1]
        exact st_t (by rw [show (16 : Int32) = nn 16 from rfl, nnL (by omega) (by decide)]; exact z) hr
      · rw [up_e, u2n (by decide), e192, show min (L + 1) 16 = L + 1 by omega]; exact nnA L 1
      · rw [u2n (by decide), u2n (by decide)]; exact B1.2.2.2.1
      · rw [u2n (by decide), u2n (by decide)]; exact B1.2.2.2.2.1
      · rw [u2n (by decide), u2n (by decide)] at y
        obtain ⟨f1, f2⟩ := B1.2.2.2.2.2 y
        refine ⟨z, by decide, by rw [u2n (by decide), up_e]; rfl, ?_, fun t ht => absurd ht (by omega)⟩
        unfold LNs
        intro i hi
        rw [u2n (show 193 ≠ 192 by decide), u2n (show 194 ≠ 192 by decide), u2n (show 195 ≠ 192 by decide), u2n (show 196 ≠ 192 by decide), u2n (show 197 ≠ 192 by decide), u2n (show 198 ≠ 192 by decide), u2n (show 199 ≠ 192 by decide), u2n (show 193 ≠ 195 by decide), u2n (show 194 ≠ 195 by decide), u2n (show 196 ≠ 195 by decide), u2n (show 197 ≠ 195 by decide), u2n (show 198 ≠ 195 by decide), u2n (show 199 ≠ 195 by decide), u2e]
        exact tLine_lc rfl rfl (up1_ne (by omega)) (fun t ht => ⟨rfl, rfl, rfl, rfl⟩) (f2 i hi)
    · refine ⟨ntC 3 c1, ntM 3 (nn s) M, fun r hr => ?_, fun r hr => ?_, B1.nt (by omega) r4 (by decide), fun i a => ntC_i (by omega), fun j => ntC_j, hP.nt, KM.nt⟩
      · unfold reader_beginLine
        rw [B1.1]
        exact st_t (by rw [nlE (a := 16) 16 rfl (by decide) (by omega)]; omega) (st_b (ntC_e 3 c1) hr)
      · unfold m_aLine
        rw [B1.2.1, hP.2.2.1]
        exact st_f (by rw [show (16 : Int32) = nn 16 from rfl, nnL (by omega) (by decide)]; exact z) (st_b (ntM_e 3 (nn s) B1.2.2.1) hr)
  have d6 : d0 191 6 = nn k := (o5 6 (by decide) (by decide)).trans r5
  have d4 : d0 191 4 = nn e := (o5 4 (by decide) (by decide)).trans r3
  have d5 : d0 191 5 = nn s := (o5 5 (by decide) (by decide)).trans r4
  have d32 : d0 32 = b := by rw [o4 32 (by decide), r2.1 32 (by decide)]; exact h32
  have dK : KC c d0 := r2.k.t o4
  by_cases h1 : k = 1
  · obtain ⟨k4, s4, e4, nu4, M4, T4, m1, m2, m3⟩ := adv hV hl hF o6 hT.2.2.2.1
    have hgo : reader_goesOn c1 = some (1, up2 d0 191 3 1) := go0 g3 (o1 _ (by
      unfold reader_beginLine_49
      exact st_f (by rw [d6, h1]; exact fun y => y rfl) (st_l rfl))) (Or.inr rfl)
    obtain ⟨M5, w1, w2, w3⟩ := tests_e (L := L) hV hl hF (by omega) F e k4 s4 e4 nu4 0 (up2 d0 191 3 1) M4 (by omega) hT.2.2.2.1 (by omega) T4 (by rw [u2n (by decide)]; exact d32) (by rw [up_n (by decide)]; exact d4) up_e m3 (o3.cg (up_n (by decide)) (up_n (by decide)) (fun i x y => u2n (by omega)) (m2.2 10 (by decide)) (m2.2 11 (by decide)) (m2.1 216 (by decide)) (m2.1 219 (by decide)))
    have hfin : ∀ r, FIN F len (up2 d0 191 3 1) r e → FIN F len c r p := fun r hr => fin_ok hp hl hpe r1 r5 hk19 (Or.inl hk) hgo hr
    have kc : KC c (up2 d0 191 3 1) := dK.t (KC.w (by decide))
    refine ⟨M5, o2 _ ?_, (o7.t m2.k).t w2, ?_⟩
    · unfold m_aLine_18
      exact st_b (tk_y o6 o3.2.2.1 (by omega) (by omega) (by rw [h1]; rfl) m1) (st_f (by decide) w1)
    · rcases w3 with (x | x) | x
      · exact Or.inl (Or.inl (x.t hfin kc))
      · exact Or.inl (Or.inr (x.t hfin kc (by omega)))
      · exact Or.inr (x.t hfin kc)
  · obtain ⟨M5, w1, w2, w3⟩ := act_e (c := c) (c1 := c1) (d := d0) (M := Mn) (L := L) (v := 0) hV hl hF hp (by omega) hT r1 r5 (Or.inl hk) d32 d4 d5 d6 dK (fun x d2 a b => go0 g3 (o1 _ (by
      unfold reader_beginLine_49
      exact st_t (by rw [d6, nrQ (b := 1) 1 rfl (by omega) (by decide)]; exact h1) (bnd01 a b))) b) o6 o3
    refine ⟨M5, o2 _ ?_, o7.t w2, w3⟩
    unfold m_aLine_18
    refine st_b (tk_n hk19 o6 o3.2.2.1 (fun x y => ?_)) (st_t rfl w1)
    have hmw := mWf ⟨k, by omega⟩
    exact fun q => h1 (hmw.1.mp q)
def FNs (r M : Sg) : Prop := r 191 1 = M 216 8 ∧ r 191 2 = M 216 9 ∧ (r 191 1 = 0 → ∃ L, L ≤ 16 ∧ r 192 0 = nn L ∧ M 215 11 = nn L ∧ LNs r M L)
theorem lines_e {b : Nat → Int32} {F len : Nat} (hV : VB b) (hl : len ≤ 500) (hF : 600 ≤ F) : ∀ n p k s e nu L (c M : Sg), len - p + 1 < n → p ≤ len → L ≤ p → TK F b len p k s e nu → c 32 = b → c 191 4 = nn p → c 191 3 = 0 → PM b len k s e nu M → BLt c M L → ∃ r M2, FIN F len c r p ∧ m_statute_54 F n M = m_statute_75 F M2 ∧ KM M M2 ∧ KC c r ∧ FNs r M2 := by
  intro n
  induction n with
  | zero => intro p k s e nu L c M hn; omega
  | succ n ih =>
    intro p k s e nu L c M hn hp hLp hT h32 h4 h3 hP hB
    obtain ⟨n, rfl⟩ : ∃ k, n = k + 1 := ⟨n - 1, by omega⟩
    have hk19 := hT.1
    have hkM := kMf ⟨k, by omega⟩
    by_cases hk : k = 19
    · obtain ⟨c1, r1, r2, r3, r4, r5, r6⟩ := hT.2.2.2.2.2.2.1 c h32 h4
      have g3 : c1 191 3 = 0 := (r2.2 3 (by decide)).trans h3
      have B1 : BLt c1 M L := hB.cg (r2.2 1 (by decide)) (r2.2 2 (by decide)) (fun i a b => r2.1 i (by omega)) rfl rfl rfl rfl
      refine ⟨c1, M, fin_end hp hl r1 (by rw [r5, hk]; rfl) g3, ?_, KM.r, r2.k, B1.2.2.2.1, B1.2.2.2.2.1, fun z => ?_⟩
      · rw [m_statute_54]
        exact st_f (fun y => y hB.2.2.1) (st_t (by rw [hP.2.2.2.1, hk]; rfl) rfl)
      · obtain ⟨f1, f2⟩ := B1.2.2.2.2.2 z
        exact ⟨L, f1, by rw [B1.1]; congr 1; omega, B1.2.1, f2⟩
    · obtain ⟨M2, t1, t2, t3⟩ := line_e hV hl hF hp hLp hT h32 h4 h3 hk hP hB
      have h54 : ∀ R, m_statute_54 F (n + 1) M2 = R → m_statute_54 F (n + 1 + 1) M = R := by
        intro R hR
        rw [m_statute_54]
        exact st_f (fun y => y hB.2.2.1) (st_f (by rw [hP.2.2.2.1]; exact fun y => hk (hkM.2.2.2.mp y)) (st_b t1 hR))
      have hbad : ∀ L', BAD F len c p M2 L' → ∃ r M2, FIN F len c r p ∧ m_statute_54 F (n + 1 + 1) M = m_statute_75 F M2 ∧ KM M M2 ∧ KC c r ∧ FNs r M2 := by
        rintro L' ⟨r, s', b1, b2, b3, b4, b5, b6, b7, b8⟩
        refine ⟨r, M2, b1, h54 _ ?_, t2, b2, b3.trans b7.symm, b4.trans b8.symm, fun z => absurd (b3.symm.trans z) (by decide)⟩
        rw [m_statute_54]
        exact st_t b5 rfl
      rcases t3 with (x | x) | x
      · exact hbad _ x
      · obtain ⟨c2, p2, k2, s2, e2, nu2, z1, z2, z3, z4, z5, z6, z7, z8, z9, z10⟩ := x
        obtain ⟨r, M3, y1, y2, y3, y4, y5⟩ := ih p2 k2 s2 e2 nu2 (L + 1) c2 M2 (by omega) z4 (by omega) z5 z6 z7 z8 z9 z10
        exact ⟨r, M3, z1 r y1, h54 _ y2, t2.t y3, z2.t y4, y5⟩
      · exact hbad _ x
