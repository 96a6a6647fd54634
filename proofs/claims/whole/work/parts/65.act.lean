/-! the statute: the act of a line -/
theorem ILt.w {c M : Sg} {L v a : Nat} {x : Int32} (h : ILt c M L v) (ha : a = 193 ∨ a = 194) : ILt (up2 c a (min L 15) x) M L v := by
  obtain ⟨a1, a2, a3, a4, a5, a6⟩ := h
  refine ⟨by rw [u2n (by omega)]; exact a1, a2, a3, by rw [u2n (by omega)]; exact a4, by rw [u2n (by omega)]; exact a5, fun z => ?_⟩
  rw [u2n (by omega)] at z
  obtain ⟨f1, f2, f3, f4, f5⟩ := a6 z
  rw [u2n (show 195 ≠ a by omega), u2n (show 196 ≠ a by omega), u2n (show 197 ≠ a by omega), u2n (show 198 ≠ a by omega), u2n (show 199 ≠ a by omega)]
  refine ⟨f1, f2, f3, ?_, f5⟩
  unfold LNs
  rw [u2n (show 195 ≠ a by omega), u2n (show 196 ≠ a by omega), u2n (show 197 ≠ a by omega), u2n (show 198 ≠ a by omega), u2n (show 199 ≠ a by omega)]
  intro i hi
  rcases ha with rfl | rfl
  · rw [u2e, u2n (show 194 ≠ 193 by decide)]
    exact tLine_lc (up1_ne (by omega)) rfl rfl (fun t ht => ⟨rfl, rfl, rfl, rfl⟩) (f4 i hi)
  · rw [u2e, u2n (show 193 ≠ 194 by decide)]
    exact tLine_lc rfl (up1_ne (by omega)) rfl (fun t ht => ⟨rfl, rfl, rfl, rfl⟩) (f4 i hi)
theorem nt_215 {K P : Int32} {M : Sg} : (ntM K P M) 215 = M 215 := by
  unfold ntM
  by_cases y : M 216 8 = 0
  · rw [if_pos y, u2n (by decide), u2n (by decide)]
  · rw [if_neg y]
theorem PM.nt {b : Nat → Int32} {len k s e nu : Nat} {K P : Int32} {M : Sg} (h : PM b len k s e nu M) : PM b len k s e nu (ntM K P M) := ⟨h.1.km KM.nt, by rw [nt_215]; exact h.2.1, by rw [nt_215]; exact h.2.2.1, by unfold TM; rw [nt_215]; exact h.2.2.2⟩
theorem ntC_i {K : Int32} {c : Sg} {i : Nat} (a : i ≠ 191) : (ntC K c) i = c i := by
  unfold ntC
  by_cases y : c 191 1 = 0
  · rw [if_pos y, u2n a, u2n a]
  · rw [if_neg y]
theorem ntC_j {K : Int32} {c : Sg} {j : Nat} (a : j ≠ 1) (a2 : j ≠ 2) : (ntC K c) 191 j = c 191 j := by
  unfold ntC
  by_cases y : c 191 1 = 0
  · rw [if_pos y, up_n a2, up_n a]
  · rw [if_neg y]
theorem aL_e {c M : Sg} {L v : Nat} (h : ILt c M L v) : c 192 0 - 1 = nn (min L 15) := by
  rw [h.1, nrS (b := 1) 1 rfl (by omega)]
  congr 1
  omega
theorem aL_w {L : Nat} (g : Sg) : x_within (nn (min L 15)) 0 15 g = some 1 := (within_eq _ _ _ g).trans (congrArg some (if_pos ((rgK (K := 15) (by decide)).mpr ⟨_, by omega, rfl⟩)))
theorem num_e {b : Nat → Int32} {F len p k s e nu L v a : Nat} {c M : Sg} (hV : VB b) (hl : len ≤ 500) (hF : 600 ≤ F) (hp : p ≤ len) (hL : L ≤ 500) (hT : TK F b len p k s e nu) (h32 : c 32 = b) (h4 : c 191 4 = nn p) (h3 : c 191 3 = 7) (hP : PM b len k s e nu M) (hI : ILt c M L v) (ha : a = 4 ∨ a = 5) (h193 : c 193 (min L 15) = nn a) : ∃ M2, Option.bind (m_numbered F M) (fun (x7, g8) => m_aLine_169 F (nn v) (mW a) (nn s) x7 g8) = some M2 ∧ KM M M2 ∧ LNO F b len c p M2 L := by
  obtain ⟨c1, r1, r2, r3, r4, r5, r6⟩ := hT.2.2.2.2.2.2.1 c h32 h4
  have hk19 := hT.1
  have g3 : c1 191 3 = 7 := (r2.2 3 (by decide)).trans h3
  have hkM := kMf ⟨k, by omega⟩
  have I1 : ILt c1 M L v := hI.cg (r2.2 1 (by decide)) (r2.2 2 (by decide)) (fun i a b => r2.1 i (by omega)) rfl rfl rfl rfl
  have hin : inb (nn (min L 15)) 16 = true := by rw [nnB (by omega)]; omega
  have e193 : c1 193 (min L 15) = nn a := by rw [r2.1 193 (by decide)]; exact h193
  by_cases hk : k = 18
  · have hpe : p < e := by have := hT.2.1; have := hT.2.2.2.2.1 (by omega); omega
    have hnu := hT.2.2.2.2.2.1
    obtain ⟨k2, s2, e2, nu2, M2, T2, m1, m2, m3⟩ := adv hV hl hF hP hT.2.2.2.1
    have hnum : m_numbered F M = some (nn nu, M2) := by
      unfold m_numbered
      refine st_l (st_f (fun y => y hI.2.2.1) (st_f (by rw [hP.2.2.2.1, hk]; decide) (st_b m1 ?_)))
      rw [hP.2.2.2.2.2.2 hk]
    have I2 : ILt c1 M2 L v := I1.cg rfl rfl (fun _ _ _ => rfl) (m2.2 10 (by decide)) (m2.2 11 (by decide)) (m2.1 216 (by decide)) (m2.1 219 (by decide))
    obtain ⟨d0, Mn, o1, o2, o3, o4, o5, o6, o7, o8⟩ : ∃ d0 Mn, (∀ r, reader_takeActNumber_58 (nn (min L 15)) d0 = some r → reader_takeActNumber c1 = some r) ∧ m_aLine_169 F (nn v) (mW a) (nn s) (nn nu) M2 = m_aLine_190 F (nn v) (mW a) (nn nu) Mn ∧ ILt d0 Mn L v ∧ (∀ i, i ≠ 191 → d0 i = c1 i) ∧ (∀ j, j ≠ 1 → j ≠ 2 → d0 191 j = c1 191 j) ∧ PM b len k2 s2 e2 nu2 Mn ∧ KM M2 Mn ∧ True := by
      by_cases z : a = 5 ∧ 100 < nu
      · refine ⟨ntC 2 c1, ntM 2 (nn s) M2, fun r hr => ?_, ?_, (I2.nt r4 (by decide)).1, fun i => ntC_i, fun j => ntC_j, m3.nt, KM.nt, trivial⟩
        · unfold reader_takeActNumber
          refine st_l (st_f (by rw [r5, hk]; exact fun y => y rfl) ?_)
          rw [aL_e I1]
          refine st_b (aL_w c1) (st_t (by decide) (st_t hin (st_f ?_ (st_f ?_ (st_b (ntC_e 2 c1) hr)))))
          · rw [nnT (by omega), e193, z.1]; exact fun y => y rfl
          · rw [r6 hk, nrE (b := 100) 100 rfl (by omega) (by decide)]; omega
        · unfold m_aLine_169
          refine st_f (by rw [z.1]; exact fun y => y rfl) (st_f (by rw [nrE (b := 100) 100 rfl (by omega) (by decide)]; omega) ?_)
          rw [ntM_e 2 (nn s) I2.2.2.1]
          rfl
      · refine ⟨c1, M2, fun r hr => ?_, ?_, I2, fun i _ => rfl, fun j _ _ => rfl, m3, KM.r, trivial⟩
        · unfold reader_takeActNumber
          refine st_l (st_f (by rw [r5, hk]; exact fun y => y rfl) ?_)
          rw [aL_e I1]
          refine st_b (aL_w c1) (st_t (by decide) (st_t hin ?_))
          by_cases y : a = 5
          · exact st_f (by rw [nnT (by omega), e193, y]; exact fun y => y rfl) (st_t (by rw [r6 hk, nrE (b := 100) 100 rfl (by omega) (by decide)]; omega) hr)
          · exact st_t (by rw [nnT (by omega), e193, nrQ (b := 5) 5 rfl (by omega) (by decide)]; exact y) hr
        · unfold m_aLine_169
          rcases ha with y | y
          · exact st_t (by rw [y]; decide) rfl
          · exact st_f (by rw [y]; exact fun y => y rfl) (st_t (by rw [nrE (b := 100) 100 rfl (by omega) (by decide)]; omega) rfl)
    obtain ⟨c2, hc2⟩ : ∃ c2, c2 = up2 (up2 d0 194 (min L 15) (d0 191 7)) 191 3 8 := ⟨_, rfl⟩
    have hgo : reader_goesOn c1 = some (1, c2) := go7 g3 (o1 _ (by
      unfold reader_takeActNumber_58
      refine st_t hin (st_l (st_l ?_))
      rw [nnT (by omega), hc2])) (Or.inr rfl)
    have c2i : ∀ i, i ≠ 191 → i ≠ 194 → c2 i = c1 i := fun i x y => by rw [hc2, u2n x, u2n y]; exact o4 i x
    have c2j : ∀ j, j ≠ 3 → c2 191 j = d0 191 j := fun j x => by rw [hc2, up_n x, u2n (by decide)]
    have hI2 : ILt c2 Mn L v := (ILt.w (x := d0 191 7) o3 (Or.inr rfl)).cg (by rw [hc2, up_n (by decide)]) (by rw [hc2, up_n (by decide)]) (fun i x y => by rw [hc2, u2n (by omega)]) rfl rfl rfl rfl
    obtain ⟨M3, n1, n2, n3⟩ := stop_e (c := c2) (M := Mn) (x2 := mW a) (x4 := nn nu) (L := L) (v := v) hV hl hF hT.2.2.2.1 hL T2 (by rw [c2i 32 (by decide) (by decide), r2.1 32 (by decide)]; exact h32) (by rw [c2j 4 (by decide), o5 4 (by decide) (by decide)]; exact r3) (by rw [hc2, up_e]) o6 hI2 (fun z => by
      have hL16 := (hI2.2.2.2.2.2 z).1
      have eL : min L 15 = L := by omega
      rw [eL] at e193 hc2
      rw [c2i 193 (by decide) (by decide), e193, hc2, u2n (by decide), up_e, o5 7 (by decide) (by decide), r6 hk]
      refine ⟨?_, rfl, nu, hnu, rfl⟩
      rcases ha with y | y <;> rw [y]
      · exact Or.inl ⟨rfl, rfl⟩
      · exact Or.inr (Or.inl ⟨rfl, rfl⟩))
    have hfin : ∀ r, FIN F len c2 r e → FIN F len c r p := fun r hr => fin_ok hp hl hpe r1 r5 hk19 (Or.inl (by omega)) hgo hr
    have kc : KC c c2 := fun i x => by rw [c2i i (by omega) (by omega), r2.1 i (by omega)]
    refine ⟨M3, st_b hnum (o2.trans n1), (m2.k.t o7).t n2, ?_⟩
    rcases n3 with z | z
    · exact Or.inl (z.t hfin kc)
    · exact Or.inr (z.t hfin kc (by omega))
  · have hgo := go7 (d := c1) (x := 0) g3 (by
      unfold reader_takeActNumber
      exact st_l (st_t (by rw [r5, nrQ (b := 18) 18 rfl (by omega) (by decide)]; exact hk) rfl)) (Or.inl rfl)
    have hnum : m_numbered F M = some (M 215 7, stp M) := by
      unfold m_numbered
      exact st_l (st_f (fun y => y hI.2.2.1) (st_t (by rw [hP.2.2.2.1]; exact fun y => hk (hkM.1.mp y)) (st_b (stp_e hI.2.2.1) rfl)))
    have hbad := bad_i hp hl r1 r5 hk19 (Or.inr (by rw [g3]; decide)) hgo r4 r2.k hP.2.2.1 hI.2.1
    have h11 : (stp M) 215 11 = nn L := by unfold stp; rw [u2n (by decide), u2n (by decide), up_n (by decide)]; exact hI.2.1
    have h10 : (stp M) 215 10 ≠ 0 := by unfold stp; rw [u2n (by decide), u2n (by decide), up_e]; decide
    refine ⟨_, st_b hnum (?_ : m_aLine_169 F (nn v) (mW a) (nn s) (M 215 7) (stp M) = some (fin190 L v (mW a) (M 215 7) (stp M))), KM.stp.t fin_k, Or.inl hbad.fin⟩
    have h190 := f190 (F := F) (v := v) (x2 := mW a) (x4 := M 215 7) (dd_must h10) h11 (by omega)
    unfold m_aLine_169
    by_cases y : mW a = 21
    · refine st_f (fun x => x y) ?_
      by_cases y2 : M 215 7 ≤ 100
      · exact st_t y2 h190
      · exact st_f y2 (st_b (dd_also h10) h190)
    · exact st_t y h190
theorem act_e {b : Nat → Int32} {F len p k s e nu L v : Nat} {c c1 d M : Sg} (hV : VB b) (hl : len ≤ 500) (hF : 600 ≤ F) (hp : p ≤ len) (hL : L ≤ 500) (hT : TK F b len p k s e nu) (r1 : reader_nextToken F (nn len) c = some c1) (r5 : c1 191 6 = nn k) (hz : k ≠ 19 ∨ c1 191 3 ≠ 0) (d32 : d 32 = b) (d4 : d 191 4 = nn e) (d5 : d 191 5 = nn s) (d6 : d 191 6 = nn k) (dK : KC c d) (hgo : ∀ x d2, reader_takeAct d = some (x, d2) → (x = 0 ∨ x = 1) → reader_goesOn c1 = some (x, d2)) (hP : PM b len k s e nu M) (hI : ILt d M L v) : ∃ M2, m_aLine_107 F (nn v) M = some M2 ∧ KM M M2 ∧ (LNO F b len c p M2 L ∨ BAD F len c p M2 L) := by
  have hk19 := hT.1
  have hkM := kMf ⟨k, by omega⟩
  have hin : inb (nn (min L 15)) 16 = true := by rw [nnB (by omega)]; omega
  obtain ⟨d1, hd1⟩ : ∃ d1, d1 = up2 (up2 d 193 (min L 15) (d 191 6)) 194 (min L 15) 0 := ⟨_, rfl⟩
  have d1i : ∀ i, i ≠ 193 → i ≠ 194 → d1 i = d i := fun i x y => by rw [hd1, u2n y, u2n x]
  have hI1 : ILt d1 M L v := hd1 ▸ (hI.w (Or.inl rfl)).w (Or.inr rfl)
  have hact : reader_takeAct d = some (if 4 ≤ k ∧ k ≤ 6 then 1 else 0, up2 d1 191 3 (if k = 6 then 8 else 7)) := by
    have h60 : ∀ s0 : Int32, reader_takeAct_60 s0 d1 = some (if 4 ≤ k ∧ k ≤ 6 then 1 else 0, up2 d1 191 3 s0) := fun s0 => by
      unfold reader_takeAct_60
      refine st_l ?_
      rw [up_n (show 6 ≠ 3 by decide), d1i 191 (by decide) (by decide), d6]
      by_cases z1 : k = 4
      · subst z1; exact st_t rfl rfl
      refine st_f (by rw [nrQ (b := 4) 4 rfl (by omega) (by decide)]; exact z1) ?_
      by_cases z2 : k = 5
      · subst z2; exact st_t rfl rfl
      refine st_f (by rw [nrQ (b := 5) 5 rfl (by omega) (by decide)]; exact z2) ?_
      by_cases z3 : k = 6
      · subst z3; exact st_f (fun y => y rfl) rfl
      · rw [if_neg (show ¬ (4 ≤ k ∧ k ≤ 6) by omega)]
        exact st_t (by rw [nrQ (b := 6) 6 rfl (by omega) (by decide)]; exact z3) rfl
    unfold reader_takeAct
    refine st_l ?_
    rw [aL_e hI]
    refine st_b (aL_w d) (st_f (by decide) (st_t hin (st_l (st_t hin (st_l ?_)))))
    rw [nnT (by omega), ← hd1]
    unfold reader_takeAct_43
    rw [d1i 191 (by decide) (by decide), d6]
    by_cases z : k = 6
    · rw [if_pos z]
      exact st_f (by rw [z]; exact fun y => y rfl) (h60 8)
    · rw [if_neg z]
      exact st_t (by rw [nrQ (b := 6) 6 rfl (by omega) (by decide)]; exact z) (h60 7)
  have hgo := hgo _ _ hact (by split <;> decide)
  have h10 : ¬ ¬ M 215 10 = 0 := fun y => y hI.2.2.1
  by_cases hk : 4 ≤ k ∧ k ≤ 6
  · rw [if_pos hk] at hgo
    have hmw := mWf ⟨k, by omega⟩
    have hpe : p < e := by have := hT.2.1; have := hT.2.2.2.2.1 (by omega); omega
    obtain ⟨k2, s2, e2, nu2, M2, T2, m1, m2, m3⟩ := adv hV hl hF hP hT.2.2.2.1
    have h9 : M 215 9 = mW k := hP.2.2.2.2.1 (by omega) (by omega)
    have hin2 : m_isIn (M 215 9) 20 22 M = some 1 := (isIn_eq _ _ _ _).trans (congrArg some (if_pos (by rw [h9]; exact hmw.2.2.2.1.mpr hk)))
    obtain ⟨c2, hc2⟩ : ∃ c2, c2 = up2 d1 191 3 (if k = 6 then 8 else 7) := ⟨_, rfl⟩
    rw [← hc2] at hgo
    have c2i : ∀ i, i ≠ 191 → c2 i = d1 i := fun i x => by rw [hc2, u2n x]
    have c2j : ∀ j, j ≠ 3 → c2 191 j = d 191 j := fun j x => by rw [hc2, up_n x, d1i 191 (by decide) (by decide)]
    have hfin : ∀ r, FIN F len c2 r e → FIN F len c r p := fun r hr => fin_ok hp hl hpe r1 r5 hk19 hz hgo hr
    have kc : KC c c2 := fun i x => by rw [c2i i (by omega), d1i i (by omega) (by omega)]; exact dK i x
    have hI2 : ILt c2 M2 L v := hI1.cg (by rw [hc2, up_n (by decide)]) (by rw [hc2, up_n (by decide)]) (fun i x y => c2i i (by omega)) (m2.2 10 (by decide)) (m2.2 11 (by decide)) (m2.1 216 (by decide)) (m2.1 219 (by decide))
    have c232 : c2 32 = b := by rw [c2i 32 (by decide), d1i 32 (by decide) (by decide)]; exact d32
    have c24 : c2 191 4 = nn e := (c2j 4 (by decide)).trans d4
    have m5 : M2 215 5 = nn s2 := m3.2.2.1
    have c193 : c2 193 (min L 15) = nn k := by rw [c2i 193 (by decide), hd1, u2n (by decide), up_e]; exact d6
    have c194 : c2 194 (min L 15) = 0 := by rw [c2i 194 (by decide), hd1, up_e]
    by_cases h6 : k = 6
    · rw [if_pos h6] at hc2
      obtain ⟨M3, n1, n2, n3⟩ := stop_e (c := c2) (M := M2) (x2 := mW k) (x4 := 0) (L := L) (v := v) hV hl hF hT.2.2.2.1 hL T2 c232 c24 (by rw [hc2, up_e]) m3 hI2 (fun z => by
        have hL16 := (hI2.2.2.2.2.2 z).1
        rw [show min L 15 = L by omega] at c193 c194
        rw [c193, c194, h6]
        exact ⟨Or.inr (Or.inr ⟨rfl, rfl⟩), rfl, 0, by decide, rfl⟩)
      refine ⟨M3, ?_, m2.k.t n2, ?_⟩
      · unfold m_aLine_107
        refine st_f h10 (st_f (by rw [hP.2.2.2.1]; exact fun y => y (hkM.2.2.1.mpr (show 1 ≤ k ∧ k ≤ 12 by omega))) (st_b hin2 (st_t (by decide) (st_l (st_b m1 (st_l ?_))))))
        rw [h9]
        refine st_f (fun y => y (hmw.2.2.2.2.2.1.mpr h6)) ?_
        unfold m_aLine_169
        exact st_t (by rw [h6]; decide) n1
      · rcases n3 with z | z
        · exact Or.inl (Or.inl (z.t hfin kc))
        · exact Or.inl (Or.inr (z.t hfin kc (by omega)))
    · rw [if_neg h6] at hc2
      obtain ⟨M3, n1, n2, n3⟩ := num_e (c := c2) (M := M2) (a := k) (L := L) (v := v) hV hl hF hT.2.2.2.1 hL T2 c232 c24 (by rw [hc2, up_e]) m3 hI2 (by omega) c193
      refine ⟨M3, ?_, m2.k.t n2, ?_⟩
      · unfold m_aLine_107
        refine st_f h10 (st_f (by rw [hP.2.2.2.1]; exact fun y => y (hkM.2.2.1.mpr (show 1 ≤ k ∧ k ≤ 12 by omega))) (st_b hin2 (st_t (by decide) (st_l (st_b m1 (st_l ?_))))))
        rw [h9, m5]
        exact st_t (fun y => h6 (hmw.2.2.2.2.2.1.mp y)) n1
      · rcases n3 with z | z
        · exact Or.inl (Or.inl (z.t hfin kc))
        · exact Or.inl (Or.inr (z.t hfin kc (by omega)))
  · rw [if_neg hk] at hgo
    refine ⟨stp M, ?_, KM.stp, Or.inr (bad_i hp hl r1 r5 hk19 hz hgo (by rw [up_n (by decide), d1i 191 (by decide) (by decide)]; exact d5) (fun i x => by rw [u2n (by omega), d1i i (by omega) (by omega)]; exact dK i x) hP.2.2.1 hI.2.1)⟩
    unfold m_aLine_107
    refine st_f h10 ?_
    have hst := stp_e hI.2.2.1
    by_cases y1 : 1 ≤ k ∧ k ≤ 12
    · have hmw := mWf ⟨k, by omega⟩
      refine st_f (by rw [hP.2.2.2.1]; exact fun y => y (hkM.2.2.1.mpr y1)) (st_b ((isIn_eq _ _ _ _).trans (congrArg some (if_neg ?_))) (st_f (by decide) (st_b hst rfl)))
      rw [hP.2.2.2.2.1 y1.1 y1.2]
      exact fun y => hk (hmw.2.2.2.1.mp y)
    · exact st_t (by rw [hP.2.2.2.1]; exact fun y => y1 (hkM.2.2.1.mp y)) (st_b hst rfl)
