/-! the statute: a whole test -/
theorem isFact_e {k : Nat} (hk : k ≤ 19) (g : Sg) : tokens_isFact (nn k) g = some (if 7 ≤ k ∧ k ≤ 12 then 1 else 0) := by
  unfold tokens_isFact
  by_cases z1 : k < 7
  · rw [if_neg (show ¬ (7 ≤ k ∧ k ≤ 12) by omega)]
    exact st_t (by rw [show (7 : Int32) = nn 7 from rfl, nnL (by omega) (by decide)]; exact z1) rfl
  by_cases z2 : 12 < k
  · rw [if_neg (show ¬ (7 ≤ k ∧ k ≤ 12) by omega)]
    exact st_f (by rw [show (7 : Int32) = nn 7 from rfl, nnL (by omega) (by decide)]; exact z1) (st_t (by rw [nlL (a := 12) 12 rfl (by decide) (by omega)]; exact z2) rfl)
  · rw [if_pos (show 7 ≤ k ∧ k ≤ 12 by omega)]
    exact st_f (by rw [show (7 : Int32) = nn 7 from rfl, nnL (by omega) (by decide)]; exact z1) (st_f (by rw [nlL (a := 12) 12 rfl (by decide) (by omega)]; exact z2) rfl)
theorem fact_e {b : Nat → Int32} {F len p k s e nu L v : Nat} {c c1 d M : Sg} {n : Int32} (hV : VB b) (hl : len ≤ 500) (hF : 600 ≤ F) (hp : p ≤ len) (hT : TK F b len p k s e nu) (r1 : reader_nextToken F (nn len) c = some c1) (r5 : c1 191 6 = nn k) (hz : c1 191 3 ≠ 0) (d32 : d 32 = b) (d4 : d 191 4 = nn e) (d5 : d 191 5 = nn s) (d6 : d 191 6 = nn k) (dK : KC c d) (hgo : ∀ x d2, reader_takeFact d = some (x, d2) → (x = 0 ∨ x = 1) → reader_goesOn c1 = some (x, d2)) (hP : PM b len k s e nu M) (hI : ILt d M L v) (hv : d 191 1 = 0 → v < 4) (h8 : d 191 8 = n) (hn : n = 0 ∨ n = 1) : ∃ M2, m_aTest_19 F n 0 M = some M2 ∧ KM M M2 ∧ (BAD F len c p M2 L ∨ NXT F b len c p 5 (fun c2 => IT5 c2 M2 L v) M2) := by
  have hk19 := hT.1
  have hkM := kMf ⟨k, by omega⟩
  obtain ⟨M1, hM1⟩ : ∃ M1, M1 = up2 (up2 (up2 (up2 M 220 (Int32.toNatClampNeg 0) n) 220 1 ((up2 M 220 (Int32.toNatClampNeg 0) n) 215 9)) 220 2 61) 220 3 1 := ⟨_, rfl⟩
  have mi : ∀ i, i ≠ 220 → M1 i = M i := fun i h => by rw [hM1, u2n h, u2n h, u2n h, u2n h]
  have m0 : M1 220 0 = n := by rw [hM1, up_n (by decide), up_n (by decide), up_n (by decide)]; exact up_e
  have m1' : M1 220 1 = M 215 9 := by rw [hM1, up_n (by decide), up_n (by decide), up_e, u2n (by decide)]
  have m2' : M1 220 2 = 61 := by rw [hM1, up_n (by decide), up_e]
  have m3' : M1 220 3 = 1 := by rw [hM1, up_e]
  have hP1 : PM b len k s e nu M1 := hP.cg (mi 215 (by decide)) (mi 216 (by decide))
  have hI1 : ILt d M1 L v := hI.cg rfl rfl (fun _ _ _ => rfl) (by rw [mi 215 (by decide)]) (by rw [mi 215 (by decide)]) (mi 216 (by decide)) (mi 219 (by decide))
  have kM1 : KM M M1 := hM1 ▸ ((KM.w20.t KM.w20).t KM.w20).t KM.w20
  have hst := stp_e hI1.2.2.1
  have h810 : ¬ ¬ M1 215 10 = 0 := fun y => y hI1.2.2.1
  by_cases hk : 7 ≤ k ∧ k ≤ 12
  · have hmw := mWf ⟨k, by omega⟩
    have hpe : p < e := by have := hT.2.1; have := hT.2.2.2.2.1 (by omega); omega
    have h9 : M 215 9 = mW k := hP.2.2.2.2.1 (by omega) hk.2
    have h9n : mW k = nn (k - 6) := hmw.2.2.2.2.2.2.2.2 hk.1
    obtain ⟨k2, s2, e2, nu2, M2, T2, g1, g2, g3⟩ := adv hV hl hF hP1 hT.2.2.2.1
    have j220 : M2 220 = M1 220 := g2.1 220 (by decide)
    have hin : m_isIn (M1 215 9) 1 6 M1 = some 1 := (isIn_eq _ _ _ _).trans (congrArg some (if_pos (by rw [hP1.2.2.2.2.1 (by omega) hk.2]; exact hmw.2.2.2.2.1.mpr hk.1)))
    have hfa := (isFact_e hk19 d).trans (congrArg some (if_pos hk))
    by_cases h7 : k = 7
    · have i1 : (up2 (up2 d 191 9 (d 191 6)) 191 10 17) 191 = up1 (up1 (d 191) 9 (d 191 6)) 10 17 := by rw [u2e, u2e]
      obtain ⟨d2, t1, t2, t3, t4⟩ := kt (d := up2 (up2 d 191 9 (d 191 6)) 191 10 17) (M := M2) (L := L) (v := v) (lim := 1) (hI1.cg (by rw [up_n (by decide), up_n (by decide)]) (by rw [up_n (by decide), up_n (by decide)]) (fun i a b => by rw [u2n (by omega), u2n (by omega)]) (g2.2 10 (by decide)) (g2.2 11 (by decide)) (g2.1 216 (by decide)) (g2.1 219 (by decide))) (by rw [up_n (by decide), up_n (by decide)]; exact hv) (by rw [up_n (by decide), up_n (by decide), h8]; exact hn) (by rw [up_n (by decide), up_n (by decide), h8, j220]; exact m0) ⟨1, by decide, by decide, by rw [up_n (by decide), up_e, d6, h7], by rw [j220, m1', h9, h7]; rfl⟩ (by rw [up_e, j220, m2']; exact Or.inr (Or.inr ⟨rfl, rfl⟩)) (by rw [j220]; exact m3')
      have hgo := hgo 1 (up2 d2 191 3 5) (by
        unfold reader_takeFact
        rw [d6]
        refine st_b hfa (st_t (by decide) (st_l (st_f ?_ (st_l (st_b ?_ rfl)))))
        · rw [up_e, h7]; exact fun y => y rfl
        · rw [← d6]; exact t1) (Or.inr rfl)
      refine ⟨M2, ?_, kM1.t g2.k, Or.inr ⟨up2 d2 191 3 5, e, k2, s2, e2, nu2, fun r hr => fin_ok hp hl hpe r1 r5 hk19 (Or.inr hz) hgo hr, (dK.t ((KC.w (by decide)).t (KC.w (by decide)))).t (t3.t (KC.w (by decide))), hpe, hT.2.2.2.1, T2, ?_, ?_, up_e, g3, t4.cg (up_n (by decide)) (up_n (by decide)) (fun i a b => u2n (by omega)) rfl rfl rfl rfl rfl⟩⟩
      · unfold m_aTest_19
        refine st_t (by decide) (st_l (st_l (st_l (st_l ?_))))
        rw [← hM1]
        exact st_f h810 (st_f (by rw [hP1.2.2.2.1]; exact fun y => y (hkM.2.2.1.mpr (show 1 ≤ k ∧ k ≤ 12 by omega))) (st_b hin (st_t (by decide) (st_b g1 (st_f (by rw [j220, m1', h9, h7]; exact fun y => y rfl) rfl)))))
      · rw [u2n (by decide), t3 32 (by decide), u2n (by decide), u2n (by decide)]; exact d32
      · rw [up_n (by decide), t2, up_n (by decide), up_n (by decide)]; exact d4
    · obtain ⟨c2, hc2⟩ : ∃ c2, c2 = up2 (up2 d 191 9 (d 191 6)) 191 3 3 := ⟨_, rfl⟩
      have c2j : ∀ j, j ≠ 9 → j ≠ 3 → c2 191 j = d 191 j := fun j a b => by rw [hc2, up_n b, up_n a]
      have c2i : ∀ i, i ≠ 191 → c2 i = d i := fun i a => by rw [hc2, u2n a, u2n a]
      have hgo := hgo 1 c2 (by
        unfold reader_takeFact
        rw [d6]
        refine st_b hfa (st_t (by decide) (st_l (st_t ?_ (st_l ?_))))
        · rw [up_e, nrQ (b := 7) 7 rfl (by omega) (by decide)]; exact h7
        · rw [hc2, d6]) (Or.inr rfl)
      obtain ⟨M3, n1, n2, n3⟩ := sig_e (c := c2) (M := M2) (L := L) (v := v) hV hl hF hT.2.2.2.1 T2 (by rw [c2i 32 (by decide)]; exact d32) (by rw [c2j 4 (by decide) (by decide)]; exact d4) (by rw [hc2, up_e]) g3 (hI1.cg (c2j 1 (by decide) (by decide)) (c2j 2 (by decide) (by decide)) (fun i a b => c2i i (by omega)) (g2.2 10 (by decide)) (g2.2 11 (by decide)) (g2.1 216 (by decide)) (g2.1 219 (by decide))) (by rw [c2j 1 (by decide) (by decide)]; exact hv) (by rw [c2j 8 (by decide) (by decide), h8]; exact hn) (by rw [c2j 8 (by decide) (by decide), h8, j220]; exact m0) ⟨k - 6, by omega, by omega, by rw [hc2, up_n (by decide), up_e, d6]; congr 1; omega, by rw [j220, m1', h9, h9n]⟩
      have hfin : ∀ r, FIN F len c2 r e → FIN F len c r p := fun r hr => fin_ok hp hl hpe r1 r5 hk19 (Or.inr hz) hgo hr
      have kc : KC c c2 := dK.t (fun i a => c2i i (by omega))
      refine ⟨M3, ?_, (kM1.t g2.k).t n2, ?_⟩
      · unfold m_aTest_19
        refine st_t (by decide) (st_l (st_l (st_l (st_l ?_))))
        rw [← hM1]
        refine st_f h810 (st_f (by rw [hP1.2.2.2.1]; exact fun y => y (hkM.2.2.1.mpr (show 1 ≤ k ∧ k ≤ 12 by omega))) (st_b hin (st_t (by decide) (st_b g1 (st_t (fun y => h7 (hmw.2.2.2.2.2.2.2.1.mp ?_)) n1)))))
        rw [j220, m1', h9] at y
        exact y
      · rcases n3 with z | z
        · exact Or.inl (z.t hfin kc)
        · exact Or.inr (z.t hfin kc (by omega))
  · have hgo := hgo 0 d (by
      unfold reader_takeFact
      rw [d6]
      exact st_b ((isFact_e hk19 d).trans (congrArg some (if_neg hk))) (st_f (by decide) rfl)) (Or.inl rfl)
    refine ⟨stp M1, ?_, kM1.t KM.stp, Or.inl (bad_i hp hl r1 r5 hk19 (Or.inr hz) hgo d5 dK hP1.2.2.1 hI1.2.1)⟩
    unfold m_aTest_19
    refine st_t (by decide) (st_l (st_l (st_l (st_l ?_))))
    rw [← hM1]
    refine st_f h810 ?_
    by_cases y1 : 1 ≤ k ∧ k ≤ 12
    · have hmw := mWf ⟨k, by omega⟩
      refine st_f (by rw [hP1.2.2.2.1]; exact fun y => y (hkM.2.2.1.mpr y1)) (st_b ((isIn_eq _ _ _ _).trans (congrArg some (if_neg ?_))) (st_f (by decide) (st_b hst rfl)))
      rw [hP1.2.2.2.2.1 y1.1 y1.2]
      intro y
      have : 7 ≤ k := hmw.2.2.2.2.1.mp y
      omega
    · exact st_t (by rw [hP1.2.2.2.1]; exact fun y => y1 (hkM.2.2.1.mp y)) (st_b hst rfl)
def mnn (v s : Nat) (M : Sg) : Sg := if v ≤ 3 then M else ntM 3 (nn s) M
theorem test_e {b : Nat → Int32} {F len p k s e nu L v : Nat} {c M : Sg} (hV : VB b) (hl : len ≤ 500) (hF : 600 ≤ F) (hp : p ≤ len) (hT : TK F b len p k s e nu) (h32 : c 32 = b) (h4 : c 191 4 = nn p) (h3 : c 191 3 = 1) (hP : PM b len k s e nu M) (hI : ILt c M L v) : ∃ M2, m_aTest F (mnn v s M) = some M2 ∧ KM M M2 ∧ (BAD F len c p M2 L ∨ NXT F b len c p 5 (fun c2 => IT5 c2 M2 L v) M2) := by
  obtain ⟨c1, r1, r2, r3, r4, r5, r6⟩ := hT.2.2.2.2.2.2.1 c h32 h4
  have hk19 := hT.1
  have g3 : c1 191 3 = 1 := (r2.2 3 (by decide)).trans h3
  have hkM := kMf ⟨k, by omega⟩
  have I1 : ILt c1 M L v := hI.cg (r2.2 1 (by decide)) (r2.2 2 (by decide)) (fun i a b => r2.1 i (by omega)) rfl rfl rfl rfl
  have kMn : KM M (mnn v s M) := by
    unfold mnn
    by_cases z : v ≤ 3
    · rw [if_pos z]; exact KM.r
    · rw [if_neg z]; exact KM.nt
  have hn215 : (mnn v s M) 215 = M 215 := by
    unfold mnn ntM
    by_cases z : v ≤ 3
    · rw [if_pos z]
    · rw [if_neg z]
      by_cases y : M 216 8 = 0
      · rw [if_pos y, u2n (by decide), u2n (by decide)]
      · rw [if_neg y]
  have hPn : PM b len k s e nu (mnn v s M) := ⟨hP.1.km kMn, by rw [hn215]; exact hP.2.1, by rw [hn215]; exact hP.2.2.1, by unfold TM; rw [hn215]; exact hP.2.2.2⟩
  obtain ⟨d0, o1, o2, o3, o4, o5⟩ : ∃ d0, reader_beginTest c1 = reader_beginTest_38 d0 ∧ ILt d0 (mnn v s M) L v ∧ (d0 191 1 = 0 → v < 4) ∧ (∀ i, i ≠ 191 → d0 i = c1 i) ∧ ∀ j, j ≠ 1 → j ≠ 2 → d0 191 j = c1 191 j := by
    have hx : c1 192 0 - 1 = nn (min L 15) := by rw [I1.1, nrS (b := 1) 1 rfl (by omega)]; congr 1; omega
    have w1 : x_within (nn (min L 15)) 0 15 c1 = some 1 := (within_eq _ _ _ _).trans (congrArg some (if_pos ((rgK (K := 15) (by decide)).mpr ⟨_, by omega, rfl⟩)))
    have hin : inb (nn (min L 15)) 16 = true := by rw [nnB (by omega)]; omega
    have nt := I1.nt (v2 := v) (K := 3) r4 (by decide)
    have nti : ∀ i, i ≠ 191 → (ntC 3 c1) i = c1 i := fun i a => by
      unfold ntC
      by_cases y : c1 191 1 = 0
      · rw [if_pos y, u2n a, u2n a]
      · rw [if_neg y]
    have ntj : ∀ j, j ≠ 1 → j ≠ 2 → (ntC 3 c1) 191 j = c1 191 j := fun j a a2 => by
      unfold ntC
      by_cases y : c1 191 1 = 0
      · rw [if_pos y, up_n a2, up_n a]
      · rw [if_neg y]
    have hb : reader_beginTest c1 = (if c1 195 (Int32.toNatClampNeg (nn (min L 15))) < 4 then reader_beginTest_38 c1 else reader_beginTest_38 (ntC 3 c1)) := by
      unfold reader_beginTest
      refine st_l ?_
      rw [hx]
      refine st_b w1 (st_f (by decide) (st_t hin ?_))
      rw [ntC_e]
      rfl
    have hnm : c1 191 1 ≠ 0 → mnn v s M = M ∧ ntC 3 c1 = c1 := fun y => by
      unfold mnn ntM ntC
      rw [if_neg y, if_neg (fun x => y (I1.2.2.2.1.trans x))]
      exact ⟨by split <;> rfl, rfl⟩
    rw [hb]
    by_cases z : c1 191 1 = 0
    · obtain ⟨f1, f2, f3, f4, f5⟩ := I1.2.2.2.2.2 z
      rw [nnT (by omega), show min L 15 = L by omega, f3]
      by_cases y : v ≤ 3
      · refine ⟨c1, if_pos (by rw [show (4 : Int32) = nn 4 from rfl, nnL (by omega) (by decide)]; omega), ?_, fun _ => by omega, fun _ _ => rfl, fun _ _ _ => rfl⟩
        unfold mnn
        rw [if_pos y]
        exact I1
      · refine ⟨ntC 3 c1, if_neg (by rw [show (4 : Int32) = nn 4 from rfl, nnL (by omega) (by decide)]; omega), ?_, fun x => absurd x nt.2, nti, ntj⟩
        unfold mnn
        rw [if_neg y]
        exact nt.1
    · obtain ⟨e1, e2⟩ := hnm z
      rw [e1, e2]
      refine ⟨c1, ?_, I1, fun x => absurd x z, fun _ _ => rfl, fun _ _ _ => rfl⟩
      split <;> rfl
  have d0K : KC c d0 := fun i a => (o4 i (by omega)).trans (r2.1 i (by omega))
  have h10 : (mnn v s M) 215 10 = 0 := o2.2.2.1
  by_cases hk : k = 3
  · obtain ⟨k2, s2, e2, nu2, M2, T2, m1, m2, m3⟩ := adv hV hl hF hPn hT.2.2.2.1
    have hpe : p < e := by have := hT.2.1; have := hT.2.2.2.2.1 (by omega); omega
    obtain ⟨c2, hc2⟩ : ∃ c2, c2 = up2 (up2 d0 191 8 1) 191 3 2 := ⟨_, rfl⟩
    have c2j : ∀ j, j ≠ 8 → j ≠ 3 → c2 191 j = d0 191 j := fun j a b => by rw [hc2, up_n b, up_n a]
    have c2i : ∀ i, i ≠ 191 → c2 i = d0 i := fun i a => by rw [hc2, u2n a, u2n a]
    have hgo : reader_goesOn c1 = some (1, c2) := by
      refine go1 g3 ?_ (Or.inr rfl)
      rw [o1]
      unfold reader_beginTest_38
      refine st_f (by rw [o5 6 (by decide) (by decide), r5, hk]; exact fun y => y rfl) ?_
      unfold reader_beginTest_52
      refine st_t (Or.inr rfl) (st_l (st_f (by rw [up_e]; decide) (st_l ?_)))
      rw [hc2]
    have hfin : ∀ r, FIN F len c2 r e → FIN F len c r p := fun r hr => fin_ok hp hl hpe r1 r5 hk19 (Or.inl (by omega)) hgo hr
    have kc : KC c c2 := d0K.t (fun i a => c2i i (by omega))
    have c232 : c2 32 = b := by rw [c2i 32 (by decide), o4 32 (by decide), r2.1 32 (by decide)]; exact h32
    have c24 : c2 191 4 = nn e := by rw [c2j 4 (by decide) (by decide), o5 4 (by decide) (by decide)]; exact r3
    obtain ⟨d1, y1, y2, y3, y4, y5, y6⟩ := T2.2.2.2.2.2.2.1 c2 c232 c24
    have y33 : d1 191 3 = 2 := by rw [y2.2 3 (by decide), hc2, up_e]
    obtain ⟨M3, n1, n2, n3⟩ := fact_e (c := c2) (c1 := d1) (d := d1) (M := M2) (n := 1) (L := L) (v := v) hV hl hF hT.2.2.2.1 T2 y1 y5 (by rw [y33]; decide) (by rw [y2.1 32 (by decide)]; exact c232) y3 y4 y5 y2.k (fun x d2 a b => go2 y33 a b) m3 (o2.cg (by rw [y2.2 1 (by decide), c2j 1 (by decide) (by decide)]) (by rw [y2.2 2 (by decide), c2j 2 (by decide) (by decide)]) (fun i a b => by rw [y2.1 i (by omega), c2i i (by omega)]) (m2.2 10 (by decide)) (m2.2 11 (by decide)) (m2.1 216 (by decide)) (m2.1 219 (by decide))) (by rw [y2.2 1 (by decide), c2j 1 (by decide) (by decide)]; exact o3) (by rw [y2.2 8 (by decide), hc2, up_n (by decide), up_e]) (Or.inr rfl)
    refine ⟨M3, ?_, (kMn.t m2.k).t n2, ?_⟩
    · unfold m_aTest
      refine st_b (x := (1, M2)) ?_ (st_f (by decide) n1)
      unfold m_takes
      exact st_f (fun y => y h10) (st_f (by rw [hPn.2.2.2.1]; exact fun y => y (hkM.2.2.1.mpr (show 1 ≤ k ∧ k ≤ 12 by omega))) (st_t (by rw [hPn.2.2.2.2.1 (by omega) (by omega), hk]; rfl) (st_b m1 rfl)))
    · rcases n3 with z | z
      · exact Or.inl (z.t hfin kc)
      · exact Or.inr (z.t hfin kc (by omega))
  · obtain ⟨M3, n1, n2, n3⟩ := fact_e (c := c) (c1 := c1) (d := up2 d0 191 8 0) (M := mnn v s M) (n := 0) (L := L) (v := v) hV hl hF hp hT r1 r5 (by rw [g3]; decide) (by rw [u2n (by decide), o4 32 (by decide), r2.1 32 (by decide)]; exact h32) (by rw [up_n (by decide), o5 4 (by decide) (by decide)]; exact r3) (by rw [up_n (by decide), o5 5 (by decide) (by decide)]; exact r4) (by rw [up_n (by decide), o5 6 (by decide) (by decide)]; exact r5) (d0K.t (KC.w (by decide))) (fun x d2 a b => go1 g3 (by
        rw [o1]
        unfold reader_beginTest_38
        refine st_t (by rw [o5 6 (by decide) (by decide), r5, nrQ (b := 3) 3 rfl (by omega) (by decide)]; exact hk) ?_
        unfold reader_beginTest_52
        exact st_t (Or.inl rfl) (st_l (st_t up_e (bnd01 a b)))) b) hPn (o2.cg (up_n (by decide)) (up_n (by decide)) (fun i a b => u2n (by omega)) rfl rfl rfl rfl) (by rw [up_n (by decide)]; exact o3) up_e (Or.inl rfl)
    refine ⟨M3, ?_, kMn.t n2, n3⟩
    unfold m_aTest
    refine st_b (x := (0, mnn v s M)) ?_ (st_t rfl n1)
    unfold m_takes
    refine st_f (fun y => y h10) ?_
    by_cases y1 : 1 ≤ k ∧ k ≤ 12
    · have hmw := mWf ⟨k, by omega⟩
      exact st_f (by rw [hPn.2.2.2.1]; exact fun y => y (hkM.2.2.1.mpr y1)) (st_f (by rw [hPn.2.2.2.2.1 y1.1 y1.2]; exact fun y => hk (hmw.2.2.1.mp y)) rfl)
    · exact st_t (by rw [hPn.2.2.2.1]; exact fun y => y1 (hkM.2.2.1.mp y)) rfl
