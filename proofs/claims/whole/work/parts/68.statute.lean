/-! statute -/
theorem c2n {g : Sg} {a b x y n i : Nat} (h : i ≠ b) : cp2 g a x b y n i = g i := by
  funext k
  exact if_neg (fun z => h z.1)
theorem c2e {g : Sg} {a b n k : Nat} (h : k < n) : cp2 g a 0 b 0 n b k = g a k := by
  refine (if_pos ⟨rfl, Nat.zero_le k, by omega⟩).trans ?_
  rw [Nat.zero_add, Nat.sub_zero]
def copyO (g : Sg) : Sg := (cp2 (cp2 (cp2 (cp2 (cp2 (cp2 (cp2 (up2 g 33 0 (g 192 0)) 193 0 34 0 16) 194 0 35 0 16) 195 0 36 0 16) 196 0 37 0 64) 197 0 38 0 64) 198 0 39 0 64) 199 0 40 0 64)
theorem copy_e (g : Sg) : lines_copyFrom g = some (copyO g) := rfl
theorem copy_n {g : Sg} {i : Nat} (h : i < 33 ∨ 40 < i) : copyO g i = g i := by
  unfold copyO
  rw [c2n (by omega), c2n (by omega), c2n (by omega), c2n (by omega), c2n (by omega), c2n (by omega), c2n (by omega), u2n (by omega)]
theorem copy_0 {g : Sg} : copyO g 33 0 = g 192 0 := by
  unfold copyO
  rw [c2n (show 33 ≠ 40 by decide), c2n (show 33 ≠ 39 by decide), c2n (show 33 ≠ 38 by decide), c2n (show 33 ≠ 37 by decide), c2n (show 33 ≠ 36 by decide), c2n (show 33 ≠ 35 by decide), c2n (show 33 ≠ 34 by decide), up_e]
theorem copy_34 {g : Sg} {j : Nat} (h : j < 16) : copyO g 34 j = g 193 j := by
  unfold copyO
  rw [c2n (show 34 ≠ 40 by decide), c2n (show 34 ≠ 39 by decide), c2n (show 34 ≠ 38 by decide), c2n (show 34 ≠ 37 by decide), c2n (show 34 ≠ 36 by decide), c2n (show 34 ≠ 35 by decide), c2e h, u2n (show 193 ≠ 33 by decide)]
theorem copy_35 {g : Sg} {j : Nat} (h : j < 16) : copyO g 35 j = g 194 j := by
  unfold copyO
  rw [c2n (show 35 ≠ 40 by decide), c2n (show 35 ≠ 39 by decide), c2n (show 35 ≠ 38 by decide), c2n (show 35 ≠ 37 by decide), c2n (show 35 ≠ 36 by decide), c2e h, c2n (show 194 ≠ 34 by decide), u2n (show 194 ≠ 33 by decide)]
theorem copy_36 {g : Sg} {j : Nat} (h : j < 16) : copyO g 36 j = g 195 j := by
  unfold copyO
  rw [c2n (show 36 ≠ 40 by decide), c2n (show 36 ≠ 39 by decide), c2n (show 36 ≠ 38 by decide), c2n (show 36 ≠ 37 by decide), c2e h, c2n (show 195 ≠ 35 by decide), c2n (show 195 ≠ 34 by decide), u2n (show 195 ≠ 33 by decide)]
theorem copy_37 {g : Sg} {j : Nat} (h : j < 64) : copyO g 37 j = g 196 j := by
  unfold copyO
  rw [c2n (show 37 ≠ 40 by decide), c2n (show 37 ≠ 39 by decide), c2n (show 37 ≠ 38 by decide), c2e h, c2n (show 196 ≠ 36 by decide), c2n (show 196 ≠ 35 by decide), c2n (show 196 ≠ 34 by decide), u2n (show 196 ≠ 33 by decide)]
theorem copy_38 {g : Sg} {j : Nat} (h : j < 64) : copyO g 38 j = g 197 j := by
  unfold copyO
  rw [c2n (show 38 ≠ 40 by decide), c2n (show 38 ≠ 39 by decide), c2e h, c2n (show 197 ≠ 37 by decide), c2n (show 197 ≠ 36 by decide), c2n (show 197 ≠ 35 by decide), c2n (show 197 ≠ 34 by decide), u2n (show 197 ≠ 33 by decide)]
theorem copy_39 {g : Sg} {j : Nat} (h : j < 64) : copyO g 39 j = g 198 j := by
  unfold copyO
  rw [c2n (show 39 ≠ 40 by decide), c2e h, c2n (show 198 ≠ 38 by decide), c2n (show 198 ≠ 37 by decide), c2n (show 198 ≠ 36 by decide), c2n (show 198 ≠ 35 by decide), c2n (show 198 ≠ 34 by decide), u2n (show 198 ≠ 33 by decide)]
theorem copy_40 {g : Sg} {j : Nat} (h : j < 64) : copyO g 40 j = g 199 j := by
  unfold copyO
  rw [c2e h, c2n (show 199 ≠ 39 by decide), c2n (show 199 ≠ 38 by decide), c2n (show 199 ≠ 37 by decide), c2n (show 199 ≠ 36 by decide), c2n (show 199 ≠ 35 by decide), c2n (show 199 ≠ 34 by decide), u2n (show 199 ≠ 33 by decide)]
theorem s89 : ∀ m v n (M : Sg), v + m = 320 → m < n → ∃ M2, m_statute_89 n (nn v) M = some (M 215 11, M2) ∧ (∀ i, i ≠ 216 → M2 i = M i) ∧ M2 216 4 = M 215 11 ∧ (∀ j, v ≤ j → j < 320 → M2 216 (4270 + j) = M 219 j) ∧ ∀ j, j ≠ 4 → (j < 4270 + v ∨ 4590 ≤ j) → M2 216 j = M 216 j
  | 0, v, n, M, h, hn => by
    obtain ⟨n, rfl⟩ : ∃ k, n = k + 1 := ⟨n - 1, by omega⟩
    refine ⟨up2 M 216 4 (M 215 11), ?_, fun i a => u2n a, up_e, fun j a b => absurd a (by omega), fun j a b => up_n a⟩
    rw [m_statute_89]
    refine st_t (by rw [nlE (a := 320) 320 rfl (by decide) (by omega)]; omega) (st_l ?_)
    rw [u2n (show 215 ≠ 216 by decide)]
  | m + 1, v, n, M, h, hn => by
    obtain ⟨n, rfl⟩ : ∃ k, n = k + 1 := ⟨n - 1, by omega⟩
    obtain ⟨M2, e1, e2, e3, e4, e5⟩ := s89 m (v + 1) n (up2 M 216 (4270 + v) (M 219 v)) (by omega) (by omega)
    refine ⟨M2, ?_, fun i a => (e2 i a).trans (u2n a), e3.trans (by rw [u2n (by decide)]), fun j a b => ?_, fun j a b => (e5 j a (by omega)).trans (up_n (by omega))⟩
    · rw [m_statute_89]
      refine st_f (by rw [nlE (a := 320) 320 rfl (by decide) (by omega)]; omega) (st_t (by rw [nnB (by omega)]; omega) ?_)
      rw [show (4270 : Int32) + nn v = nn (4270 + v) from nnA 4270 v, nnT (show 4270 + v < 2147483648 by omega), nnT (show v < 2147483648 by omega)]
      refine st_t (by rw [nnB (by omega)]; omega) (st_l ?_)
      rw [show nn v + 1 = nn (v + 1) from nnA v 1, e1, u2n (show 215 ≠ 216 by decide)]
    · by_cases y : j = v
      · subst y
        rw [e5 _ (by omega) (by omega), up_e]
      · rw [e4 j (by omega) b, u2n (by decide)]
def sC0 (g : Sg) : Sg := up2 (up2 (up2 (up2 (up2 g 192 0 0) 191 1 0) 191 2 (-1)) 191 3 0) 191 4 0
theorem st_all {g M : Sg} {T L : Nat} (hl : RLaw g (g 216) T L) (hM : M 216 = g 216) : ∃ r M2, FIN 700 T (sC0 g) r 0 ∧ m_statute 700 M = m_statute_75 700 M2 ∧ (∀ i, i ≠ 215 → i ≠ 216 → i ≠ 219 → i ≠ 220 → M2 i = M i) ∧ (∀ j, j ≠ 7 → j ≠ 8 → j ≠ 9 → M2 216 j = M 216 j) ∧ M2 216 7 = 0 ∧ KC g r ∧ FNs r M2 := by
  have hT := hl.hT
  have hV : VB (g 32) := hl.tapeV
  obtain ⟨M0, hM0⟩ : ∃ M0, M0 = up2 (up2 (up2 (up2 (up2 (up2 (up2 M 215 3 ((M 216 7))) 216 7 0) 215 4 0) 216 8 0) 216 9 (-1)) 215 10 0) 215 11 0 := ⟨_, rfl⟩
  have f3 : M0 215 3 = nn T := by rw [hM0, up_n (by decide), up_n (by decide), u2n (by decide), u2n (by decide), up_n (by decide), u2n (by decide), up_e, hM]; exact hl.aT
  have f4 : M0 215 4 = nn 0 := by rw [hM0, up_n (by decide), up_n (by decide), u2n (by decide), u2n (by decide), up_e]; rfl
  have f10 : M0 215 10 = 0 := by rw [hM0, up_n (by decide), up_e]
  have f11 : M0 215 11 = 0 := by rw [hM0, up_e]
  have f7 : M0 216 7 = 0 := by rw [hM0, u2n (by decide), u2n (by decide), up_n (by decide), up_n (by decide), u2n (by decide), up_e]
  have f8 : M0 216 8 = 0 := by rw [hM0, u2n (by decide), u2n (by decide), up_n (by decide), up_e]
  have f9 : M0 216 9 = -1 := by rw [hM0, u2n (by decide), u2n (by decide), up_e]
  have fj : ∀ j, j ≠ 7 → j ≠ 8 → j ≠ 9 → M0 216 j = M 216 j := fun j a b c => by rw [hM0, u2n (by decide), u2n (by decide), up_n c, up_n b, u2n (by decide), up_n a, u2n (by decide)]
  have fi : ∀ i, i ≠ 215 → i ≠ 216 → M0 i = M i := fun i a b => by rw [hM0, u2n a, u2n a, u2n b, u2n b, u2n a, u2n b, u2n a]
  have hMB : MB M0 (g 32) T := ⟨f3, fun i hi => by rw [fj _ (by omega) (by omega) (by omega), hM]; exact hl.tape i hi⟩
  obtain ⟨k, s, e, nu, hK⟩ := tk_ex (F := 700) (p := 0) hV hT (by decide) (Nat.zero_le T)
  obtain ⟨M1, m1, m2, m3, m4, m5⟩ := hK.2.2.2.2.2.2.2 M0 hMB f4
  obtain ⟨r, M2, y1, y2, y3, y4, y5⟩ := lines_e hV hT (F := 700) (by decide) 700 0 k s e nu 0 (sC0 g) M1 (by omega) (Nat.zero_le _) (Nat.le_refl 0) hK (by unfold sC0; rw [u2n (by decide), u2n (by decide), u2n (by decide), u2n (by decide), u2n (by decide)]) (by unfold sC0; rw [up_e]; rfl) (by unfold sC0; rw [up_n (by decide), up_e]) ⟨hMB.t m2, m3, m4, m5⟩ ⟨by unfold sC0; rw [u2n (by decide), u2n (by decide), u2n (by decide), u2n (by decide), up_e]; rfl, by rw [m2.2 11 (by decide)]; exact f11, by rw [m2.2 10 (by decide)]; exact f10, by rw [m2.1 216 (by decide), f8]; unfold sC0; rw [up_n (by decide), up_n (by decide), up_n (by decide), up_e], by rw [m2.1 216 (by decide), f9]; unfold sC0; rw [up_n (by decide), up_n (by decide), up_e], fun _ => ⟨by decide, fun i hi => absurd hi (Nat.not_lt_zero i)⟩⟩
  refine ⟨r, M2, y1, ?_, fun i a b c d => (y3.1 i a b c d).trans ((m2.1 i a).trans (fi i a b)), fun j a b c => (y3.2.1 j b c).trans (by rw [m2.1 216 (by decide)]; exact fj j a b c), (y3.2.1 7 (by decide) (by decide)).trans (by rw [m2.1 216 (by decide)]; exact f7), KC.t (c2 := sC0 g) (fun i a => ?_) y4, y5⟩
  · unfold m_statute
    refine st_l (st_l (st_l (st_l (st_l (st_l (st_l ?_))))))
    rw [← hM0]
    exact st_b m1 y2
  · unfold sC0
    rw [u2n (by omega), u2n (by omega), u2n (by omega), u2n (by omega), u2n (by omega)]
theorem sim_statute {TS : Sg → Prop} (hT : TSf TS) : Sim_statute (RR TS) := by
  intro g hR
  obtain ⟨N, C, Q, D, T, L, G, h⟩ := hR.now
  have hl := h.law
  have hTl := hl.hT
  obtain ⟨r, M2, a1, a2, a3, a4, a5, a6, a7⟩ := st_all hl (M := g) rfl
  obtain ⟨r4, hr4⟩ : ∃ r4, r4 = up2 (up2 (up2 r 31 0 0) 31 2 ((up2 r 31 0 0) 191 1)) 31 3 ((up2 (up2 r 31 0 0) 31 2 ((up2 r 31 0 0) 191 1)) 191 2) := ⟨_, rfl⟩
  have k4 : ∀ i, i ≠ 31 → r4 i = r i := fun i a => by rw [hr4, u2n a, u2n a, u2n a]
  have k40 : r4 31 0 = 0 := by rw [hr4, up_n (by decide), up_n (by decide), up_e]
  have k42 : r4 31 2 = r 191 1 := by rw [hr4, up_n (by decide), up_e, u2n (by decide)]
  have k43 : r4 31 3 = r 191 2 := by rw [hr4, up_e, u2n (by decide), u2n (by decide)]
  have hread : reader_read 700 (g 31 0) g = some r := by
    unfold reader_read
    rw [hl.cT]
    refine st_l (st_l (st_l (st_l (st_l (st_l ?_)))))
    rw [if_neg (by rw [show (500 : Int32) = nn 500 from rfl, nnL (by decide) (by omega)]; omega)]
    exact a1 700 0 (Nat.zero_le _) (by omega)
  have det : ∀ r', FIN 700 T (sC0 g) r' 0 → r' = r := fun r' z => Option.some.inj ((z 700 0 (Nat.zero_le _) (by omega)).symm.trans (a1 700 0 (Nat.zero_le _) (by omega)))
  have ri : ∀ i, (i < 191 ∨ 199 < i) → r i = g i := a6
  by_cases hf : r 191 1 = 0
  · have g216 : (copyO r4) 216 = g 216 := by rw [copy_n (by decide), k4 216 (by decide), ri 216 (by decide)]
    obtain ⟨r', M3, b1, b2, b3, b4, b5, b6, b7⟩ := st_all hl (M := copyO r4) g216
    have er := det r' b1
    subst er
    obtain ⟨L2, l1, l2, l3, l4⟩ := b7.2.2 hf
    obtain ⟨M4, s1, s2, s3, s4, s5⟩ := s89 320 0 700 M3 (by decide) (by decide)
    have mi : ∀ i, i < 191 ∨ (199 < i ∧ i ≠ 215 ∧ i ≠ 216 ∧ i ≠ 219 ∧ i ≠ 220) → (i < 31 ∨ 40 < i ∨ i = 32) → M4 i = g i := fun i a b => by
      rw [s2 i (by omega), b3 i (by omega) (by omega) (by omega) (by omega), copy_n (by omega), k4 i (by omega), ri i (by omega)]
    have mj : ∀ j, j ≠ 4 → j ≠ 7 → j ≠ 8 → j ≠ 9 → (j < 4270 ∨ 4590 ≤ j) → M4 216 j = g 216 j := fun j a b c d e => by
      rw [s5 j a (by omega), b4 j b c d, g216]
    have mC : ∀ i, i ≤ 40 → M4 i = copyO r4 i := fun i a => by rw [s2 i (by omega), b3 i (by omega) (by omega) (by omega) (by omega)]
    refine ⟨700, 700, nn L2, copyO r4, M4, ?_, ?_, hR.put hT ⟨N, C, Q, D, 0, L2, G, ⟨h.net.fr (fun i x y => mi i (by omega) (by omega)) (fun j hj => mj j (by unfold iNet at hj; omega) (by unfold iNet at hj; omega) (by unfold iNet at hj; omega) (by unfold iNet at hj; omega) (by unfold iNet at hj; omega)), h.rig.fr (fun i x y => mi i (by omega) (by omega)) (fun j hj => mj j (by unfold iRig at hj; omega) (by unfold iRig at hj; omega) (by unfold iRig at hj; omega) (by unfold iRig at hj; omega) (by unfold iRig at hj; omega)), ?_, h.gau.fr (fun i x y => mi i (by omega) (by omega)) (fun j hj => mj j (by unfold iGau at hj; omega) (by unfold iGau at hj; omega) (by unfold iGau at hj; omega) (by unfold iGau at hj; omega) (by unfold iGau at hj; omega))⟩⟩ (fun i x y => mi i (by omega) (by omega)) (fun j hj => mj j (by omega) (by omega) (by omega) (by omega) (by omega)) (mi 217 (by omega) (by omega)) (fun i x y => mi i (by omega) (by omega))⟩
    · unfold x_statute
      refine st_b hread (st_l (st_l (st_l ?_)))
      rw [← hr4]
      refine st_t (by rw [k4 191 (by decide)]; exact hf) (st_b (copy_e r4) ?_)
      rw [copy_0, k4 192 (by decide), l2]
    · rw [b2]
      unfold m_statute_75
      refine st_t (by rw [← b7.1]; exact hf) ?_
      rw [← l3]
      exact s1
    · have e31 : M4 31 = r4 31 := (mC 31 (by decide)).trans (copy_n (by decide))
      apply RLaw.mk
      case hT => decide
      case hL => exact l1
      case cT => rw [e31, k40]; rfl
      case aT => rw [s5 7 (by decide) (by decide), b5]; rfl
      case tape => intro i hi; rw [mj _ (by omega) (by omega) (by omega) (by omega) (by omega), mi 32 (by omega) (by omega)]; exact hl.tape i hi
      case tapeV => rw [mi 32 (by omega) (by omega)]; exact hl.tapeV
      case fk => rw [s5 8 (by decide) (by decide), e31, k42]; exact b7.1.symm
      case fp => rw [s5 9 (by decide) (by decide), e31, k43]; exact b7.2.1.symm
      case dry => intro w hw; rw [mj _ (by omega) (by omega) (by omega) (by omega) (by omega), mi 41 (by omega) (by omega)]; exact hl.dry w hw
      case dryV => rw [mi 41 (by omega) (by omega)]; exact hl.dryV
      case cL => rw [mC 33 (by decide), copy_0, k4 192 (by decide)]; exact l2
      case aL => rw [s3]; exact l3
      case ln =>
        intro i hi
        rw [mC 34 (by decide), mC 35 (by decide), mC 36 (by decide), mC 37 (by decide), mC 38 (by decide), mC 39 (by decide), mC 40 (by decide)]
        have q := l4 i hi
        refine tLine_ag (by omega) (fun j hj => (copy_34 hj).trans (by rw [k4 193 (by decide)])) (fun j hj => (copy_35 hj).trans (by rw [k4 194 (by decide)])) (fun j hj => (copy_36 hj).trans (by rw [k4 195 (by decide)])) (fun j hj => (copy_37 hj).trans (by rw [k4 196 (by decide)])) (fun j hj => (copy_38 hj).trans (by rw [k4 197 (by decide)])) (fun j hj => (copy_39 hj).trans (by rw [k4 198 (by decide)])) (fun j hj => (copy_40 hj).trans (by rw [k4 199 (by decide)])) (tLine_fr (fun j hj => ?_) q)
        rw [show 4270 + 20 * i + j = 4270 + (20 * i + j) by omega]
        exact s4 _ (Nat.zero_le _) (by omega)
  · have g216 : r4 216 = g 216 := by rw [k4 216 (by decide), ri 216 (by decide)]
    obtain ⟨r', M3, b1, b2, b3, b4, b5, b6, b7⟩ := st_all hl (M := r4) g216
    have er := det r' b1
    subst er
    have mi : ∀ i, i < 191 ∨ (199 < i ∧ i ≠ 215 ∧ i ≠ 216 ∧ i ≠ 219 ∧ i ≠ 220) → i ≠ 31 → M3 i = g i := fun i a b => by
      rw [b3 i (by omega) (by omega) (by omega) (by omega), k4 i b, ri i (by omega)]
    have mj : ∀ j, j ≠ 7 → j ≠ 8 → j ≠ 9 → M3 216 j = g 216 j := fun j b c d => by
      rw [b4 j b c d, g216]
    have e31 : M3 31 = r4 31 := b3 31 (by decide) (by decide) (by decide) (by decide)
    refine ⟨700, 700, -1, r4, M3, ?_, ?_, hR.put hT ⟨N, C, Q, D, 0, L, G, ⟨h.net.fr (fun i x y => mi i (by omega) (by omega)) (fun j hj => mj j (by unfold iNet at hj; omega) (by unfold iNet at hj; omega) (by unfold iNet at hj; omega)), h.rig.fr (fun i x y => mi i (by omega) (by omega)) (fun j hj => mj j (by unfold iRig at hj; omega) (by unfold iRig at hj; omega) (by unfold iRig at hj; omega)), ?_, h.gau.fr (fun i x y => mi i (by omega) (by omega)) (fun j hj => mj j (by unfold iGau at hj; omega) (by unfold iGau at hj; omega) (by unfold iGau at hj; omega))⟩⟩ (fun i x y => mi i (by omega) (by omega)) (fun j hj => mj j (by omega) (by omega) (by omega)) (mi 217 (by omega) (by omega)) (fun i x y => mi i (by omega) (by omega))⟩
    · unfold x_statute
      refine st_b hread (st_l (st_l (st_l ?_)))
      rw [← hr4]
      exact st_f (by rw [k4 191 (by decide)]; exact hf) rfl
    · rw [b2]
      unfold m_statute_75
      exact st_f (by rw [← b7.1]; exact hf) rfl
    · apply RLaw.mk
      case hT => decide
      case hL => exact hl.hL
      case cT => rw [e31, k40]; rfl
      case aT => rw [b5]; rfl
      case tape => intro i hi; rw [mj _ (by omega) (by omega) (by omega), mi 32 (by omega) (by omega)]; exact hl.tape i hi
      case tapeV => rw [mi 32 (by omega) (by omega)]; exact hl.tapeV
      case fk => rw [e31, k42]; exact b7.1.symm
      case fp => rw [e31, k43]; exact b7.2.1.symm
      case dry => intro w hw; rw [mj _ (by omega) (by omega) (by omega), mi 41 (by omega) (by omega)]; exact hl.dry w hw
      case dryV => rw [mi 41 (by omega) (by omega)]; exact hl.dryV
      case cL => rw [mi 33 (by omega) (by omega)]; exact hl.cL
      case aL => rw [mj 4 (by decide) (by decide) (by decide)]; exact hl.aL
      case ln =>
        intro i hi
        have := hl.hL
        rw [mi 34 (by omega) (by omega), mi 35 (by omega) (by omega), mi 36 (by omega) (by omega), mi 37 (by omega) (by omega), mi 38 (by omega) (by omega), mi 39 (by omega) (by omega), mi 40 (by omega) (by omega)]
        exact tLine_fr (fun j hj => mj _ (by omega) (by omega) (by omega)) (hl.ln i hi)
