/-! the statute: the act of a line, and its end -/
theorem puM_i {L v i : Nat} {x : Int32} {M : Sg} (h : i ≠ 219) : (puM L v x M) i = M i := by
  unfold puM
  by_cases z : L < 16
  · rw [if_pos z, u2n h]
  · rw [if_neg z]
def fi3 (L v : Nat) (x2 x4 : Int32) (M : Sg) : Sg := puM L 18 x4 (puM L 17 x2 (puM L 0 (nn v) M))
def fin190 (L v : Nat) (x2 x4 : Int32) (M : Sg) : Sg := up2 (fi3 L v x2 x4 M) 215 11 ((fi3 L v x2 x4 M) 215 11 + 1)
theorem fi3_i {L v i : Nat} {x2 x4 : Int32} {M : Sg} (h : i ≠ 219) : (fi3 L v x2 x4 M) i = M i := by
  unfold fi3
  rw [puM_i h, puM_i h, puM_i h]
theorem f190 {F L v : Nat} {x2 x4 : Int32} {M M2 : Sg} (hm : m_must F 59 M = some M2) (h11 : M2 215 11 = nn L) (hL : L ≤ 1000) : m_aLine_190 F (nn v) x2 x4 M = some (fin190 L v x2 x4 M2) := by
  unfold m_aLine_190
  refine st_b hm (st_b (puM_e (L := L) (v := 0) h11 hL (by decide)) (st_b (puM_e (L := L) (v := 17) ?_ hL (by decide)) (st_b (puM_e (L := L) (v := 18) ?_ hL (by decide)) rfl)))
  · rw [puM_i (by decide)]; exact h11
  · rw [puM_i (by decide), puM_i (by decide)]; exact h11
theorem fin_10 {L v : Nat} {x2 x4 : Int32} {M : Sg} : (fin190 L v x2 x4 M) 215 10 = M 215 10 := by
  unfold fin190
  rw [up_n (by decide), fi3_i (by decide)]
theorem fin_11 {L v : Nat} {x2 x4 : Int32} {M : Sg} (h : M 215 11 = nn L) : (fin190 L v x2 x4 M) 215 11 = nn (L + 1) := by
  unfold fin190
  rw [up_e, fi3_i (by decide), h]
  exact nnA L 1
theorem fin_i {L v i : Nat} {x2 x4 : Int32} {M : Sg} (h : i ≠ 215) (h2 : i ≠ 219) : (fin190 L v x2 x4 M) i = M i := by
  unfold fin190
  rw [u2n h, fi3_i h2]
theorem fin_k {L v : Nat} {x2 x4 : Int32} {M : Sg} : KM M (fin190 L v x2 x4 M) := ((KM.pu.t KM.pu).t KM.pu).t (KM.w5 (by decide))
theorem fin_5 {L v j : Nat} {x2 x4 : Int32} {M : Sg} (h : j ≠ 11) : (fin190 L v x2 x4 M) 215 j = M 215 j := by
  unfold fin190
  rw [up_n h, fi3_i (by decide)]
theorem BAD.fin {F len p L v : Nat} {x2 x4 : Int32} {c M : Sg} (h : BAD F len c p M L) : BAD F len c p (fin190 L v x2 x4 M) (L + 1) := by
  obtain ⟨r, s, a1, a2, a3, a4, a5, a6, a7, a8⟩ := h
  exact ⟨r, s, a1, a2, a3, a4, by rw [fin_10]; exact a5, fin_11 a6, by rw [fin_i (by decide) (by decide)]; exact a7, by rw [fin_i (by decide) (by decide)]; exact a8⟩
theorem PM.fin {b : Nat → Int32} {len k s e nu L v : Nat} {x2 x4 : Int32} {M : Sg} (h : PM b len k s e nu M) : PM b len k s e nu (fin190 L v x2 x4 M) := by
  refine ⟨h.1.km fin_k, by rw [fin_5 (by decide)]; exact h.2.1, by rw [fin_5 (by decide)]; exact h.2.2.1, ?_⟩
  unfold TM
  rw [fin_5 (by decide), fin_5 (by decide), fin_5 (by decide), fin_5 (by decide)]
  exact h.2.2.2
def LNO (F : Nat) (b : Nat → Int32) (len : Nat) (c : Sg) (p : Nat) (M2 : Sg) (L : Nat) : Prop := BAD F len c p M2 (L + 1) ∨ NXT F b len c p 0 (fun c2 => BLt c2 M2 (L + 1)) M2
theorem BLt.mk {c M : Sg} {L v : Nat} {x2 x4 : Int32} (h : ILt c M L v) (ha : c 191 1 = 0 → tAct (c 193 L) x2 ∧ x4 = c 194 L ∧ ∃ w, w ≤ 9999 ∧ c 194 L = nn w) : BLt c (fin190 L v x2 x4 M) (L + 1) := by
  obtain ⟨a1, a2, a3, a4, a5, a6⟩ := h
  refine ⟨a1, fin_11 a2, by rw [fin_10]; exact a3, by rw [fin_i (by decide) (by decide)]; exact a4, by rw [fin_i (by decide) (by decide)]; exact a5, fun z => ?_⟩
  obtain ⟨f1, f2, f3, f4, f5⟩ := a6 z
  obtain ⟨g1, g2, g3⟩ := ha z
  have e219 : (fin190 L v x2 x4 M) 219 = up1 (up1 (up1 (M 219) (20 * L + 0) (nn v)) (20 * L + 17) x2) (20 * L + 18) x4 := by
    unfold fin190 fi3 puM
    rw [if_pos f1, if_pos f1, if_pos f1, u2n (by decide), u2e, u2e, u2e]
  refine ⟨by omega, fun i hi => ?_⟩
  rw [e219]
  by_cases y : i = L
  · subst y
    refine ⟨⟨v, f2, f3, ?_, fun t ht => ?_⟩, ?_, ?_, ?_⟩
    · rw [up1_ne (by omega), up1_ne (by omega)]; exact up1_eq
    · obtain ⟨q1, q2, q3, q4, q5⟩ := f5 t ht
      unfold tTest
      rw [up1_ne (show 20 * i + 1 + 4 * t ≠ 20 * i + 18 by omega), up1_ne (show 20 * i + 1 + 4 * t ≠ 20 * i + 17 by omega), up1_ne (show 20 * i + 1 + 4 * t ≠ 20 * i + 0 by omega), up1_ne (show 20 * i + 1 + 4 * t + 1 ≠ 20 * i + 18 by omega), up1_ne (show 20 * i + 1 + 4 * t + 1 ≠ 20 * i + 17 by omega), up1_ne (show 20 * i + 1 + 4 * t + 1 ≠ 20 * i + 0 by omega), up1_ne (show 20 * i + 1 + 4 * t + 2 ≠ 20 * i + 18 by omega), up1_ne (show 20 * i + 1 + 4 * t + 2 ≠ 20 * i + 17 by omega), up1_ne (show 20 * i + 1 + 4 * t + 2 ≠ 20 * i + 0 by omega), up1_ne (show 20 * i + 1 + 4 * t + 3 ≠ 20 * i + 18 by omega), up1_ne (show 20 * i + 1 + 4 * t + 3 ≠ 20 * i + 17 by omega), up1_ne (show 20 * i + 1 + 4 * t + 3 ≠ 20 * i + 0 by omega)]
      exact ⟨q1, q2, q3, q4, q5⟩
    · rw [up1_ne (by omega), up1_eq]; exact g1
    · rw [up1_eq]; exact g2
    · exact g3
  · exact tLine_fr (fun j hj => by rw [up1_ne (by omega), up1_ne (by omega), up1_ne (by omega)]) (f4 i (by omega))
theorem stop_e {b : Nat → Int32} {F len p k s e nu L v : Nat} {x2 x4 : Int32} {c M : Sg} (hV : VB b) (hl : len ≤ 500) (hF : 600 ≤ F) (hp : p ≤ len) (hL : L ≤ 500) (hT : TK F b len p k s e nu) (h32 : c 32 = b) (h4 : c 191 4 = nn p) (h3 : c 191 3 = 8) (hP : PM b len k s e nu M) (hI : ILt c M L v) (ha : c 191 1 = 0 → tAct (c 193 L) x2 ∧ x4 = c 194 L ∧ ∃ w, w ≤ 9999 ∧ c 194 L = nn w) : ∃ M2, m_aLine_190 F (nn v) x2 x4 M = some M2 ∧ KM M M2 ∧ LNO F b len c p M2 L := by
  obtain ⟨c1, r1, r2, r3, r4, r5, r6⟩ := hT.2.2.2.2.2.2.1 c h32 h4
  have hk19 := hT.1
  have g3 : c1 191 3 = 8 := (r2.2 3 (by decide)).trans h3
  have hkM := kMf ⟨k, by omega⟩
  have hgo := go8 g3
  rw [r5] at hgo
  by_cases hk : k = 14
  · have hpe : p < e := by have := hT.2.1; have := hT.2.2.2.2.1 (by omega); omega
    rw [if_pos (by rw [hk]; rfl)] at hgo
    obtain ⟨k2, s2, e2, nu2, M2, T2, m1, m2, m3⟩ := adv hV hl hF hP hT.2.2.2.1
    have hmu : m_must F 59 M = some M2 := by
      unfold m_must
      exact st_f (fun y => y hI.2.2.1) (st_f (by rw [hP.2.2.2.1, hk]; decide) (st_f (by rw [hP.2.2.2.2.2.1 (by omega) (by omega), hk]; decide) (st_b m1 rfl)))
    have I2 : ILt (up2 c1 191 3 0) M2 L v := hI.cg (by rw [up_n (by decide)]; exact r2.2 1 (by decide)) (by rw [up_n (by decide)]; exact r2.2 2 (by decide)) (fun i a b => by rw [u2n (by omega)]; exact r2.1 i (by omega)) (m2.2 10 (by decide)) (m2.2 11 (by decide)) (m2.1 216 (by decide)) (m2.1 219 (by decide))
    refine ⟨_, f190 hmu I2.2.1 (by omega), m2.k.t fin_k, Or.inr ⟨up2 c1 191 3 0, e, k2, s2, e2, nu2, fun r hr => fin_ok hp hl hpe r1 r5 hk19 (Or.inl (by omega)) hgo hr, r2.k.t (KC.w (by decide)), hpe, hT.2.2.2.1, T2, ?_, ?_, up_e, m3.fin, BLt.mk I2 (fun z => ?_)⟩⟩
    · rw [u2n (by decide), r2.1 32 (by decide)]; exact h32
    · rw [up_n (by decide)]; exact r3
    · rw [up_n (by decide), r2.2 1 (by decide)] at z
      rw [u2n (by decide), u2n (by decide), r2.1 193 (by decide), r2.1 194 (by decide)]
      exact ha z
  · rw [if_neg (by rw [nrQ (b := 14) 14 rfl (by omega) (by decide)]; exact hk)] at hgo
    have hmu : m_must F 59 M = some (stp M) := by
      unfold m_must
      refine st_f (fun y => y hI.2.2.1) ?_
      by_cases y1 : 13 ≤ k ∧ k ≤ 17
      · have hsg := sgf ⟨k, by omega⟩ y1.1
        exact st_f (by rw [hP.2.2.2.1]; exact fun y => y (hkM.2.1.mpr y1)) (st_t (by rw [hP.2.2.2.2.2.1 y1.1 y1.2]; exact fun y => hk (hsg.2.1.mp y)) (st_b (stp_e hI.2.2.1) rfl))
      · exact st_t (by rw [hP.2.2.2.1]; exact fun y => y1 (hkM.2.1.mp y)) (st_b (stp_e hI.2.2.1) rfl)
    have hbad := bad_i hp hl r1 r5 hk19 (Or.inr (by rw [g3]; decide)) hgo (by rw [up_n (by decide)]; exact r4) (r2.k.t (KC.w (by decide))) hP.2.2.1 hI.2.1
    have h11 : (stp M) 215 11 = nn L := by unfold stp; rw [u2n (by decide), u2n (by decide), up_n (by decide)]; exact hI.2.1
    exact ⟨_, f190 hmu h11 (by omega), KM.stp.t fin_k, Or.inl hbad.fin⟩
