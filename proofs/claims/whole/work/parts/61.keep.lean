/-! the statute: the next token, a test is kept -/
def PM (b : Nat → Int32) (len k s e nu : Nat) (M : Sg) : Prop := MB M b len ∧ M 215 4 = nn e ∧ M 215 5 = nn s ∧ TM M k nu
theorem adv {b : Nat → Int32} {F len k s e nu : Nat} {M : Sg} (hV : VB b) (hl : len ≤ 500) (hF : 600 ≤ F) (hP : PM b len k s e nu M) (he : e ≤ len) : ∃ k2 s2 e2 nu2 M2, TK F b len e k2 s2 e2 nu2 ∧ m_advance F M = some M2 ∧ StM M M2 ∧ PM b len k2 s2 e2 nu2 M2 := by
  obtain ⟨k2, s2, e2, nu2, hT⟩ := tk_ex hV hl hF he
  obtain ⟨M2, m1, m2, m3, m4, m5⟩ := hT.2.2.2.2.2.2.2 M hP.1 hP.2.1
  exact ⟨k2, s2, e2, nu2, M2, hT, m1, m2, hP.1.t m2, m3, m4, m5⟩
theorem tLine_lc {ac nu te no fa si li ac' nu' te' no' fa' si' li' : Nat → Int32} {k i : Nat} {a : Nat → Int32} (h1 : ac' k = ac k) (h2 : nu' k = nu k) (h3 : te' k = te k) (h4 : ∀ t, t < 4 → no' (4 * k + t) = no (4 * k + t) ∧ fa' (4 * k + t) = fa (4 * k + t) ∧ si' (4 * k + t) = si (4 * k + t) ∧ li' (4 * k + t) = li (4 * k + t)) (h : tLine ac nu te no fa si li k a i) : tLine ac' nu' te' no' fa' si' li' k a i := by
  obtain ⟨⟨n, n4, n1, n2, n3⟩, n5, n6, n7⟩ := h
  refine ⟨⟨n, n4, h3.trans n1, n2, fun t ht => ?_⟩, by rw [h1]; exact n5, n6.trans h2.symm, by rw [h2]; exact n7⟩
  obtain ⟨e1, e2, e3, e4⟩ := h4 t (by omega)
  rw [e1, e2, e3, e4]
  exact n3 t ht
def ktO (d : Sg) (x w : Nat) (lim : Int32) : Sg := up2 (up2 (up2 (up2 (up2 d 196 (4 * x + w) (d 191 8 &&& 1)) 197 (4 * x + w) (d 191 9)) 198 (4 * x + w) (d 191 10)) 199 (4 * x + w) lim) 195 x (nn (w + 1))
theorem kt_e {d : Sg} {x : Nat} {lim : Int32} (h0 : d 192 0 = nn (x + 1)) (hx : x < 16) : (∃ w, w < 4 ∧ d 195 x = nn w ∧ reader_keepTest lim d = some (ktO d x w lim)) ∨ ((¬ ∃ w, w < 4 ∧ d 195 x = nn w) ∧ reader_keepTest lim d = some d) := by
  have h1 : d 192 0 - 1 = nn x := by rw [h0, nrS (b := 1) 1 rfl (by omega)]; rfl
  have w1 : ∀ g : Sg, x_within (nn x) 0 15 g = some 1 := fun g => (within_eq _ _ _ g).trans (congrArg some (if_pos ((rgK (K := 15) (by decide)).mpr ⟨x, hx, rfl⟩)))
  have hin : inb (nn x) 16 = true := by rw [nnB (by omega)]; exact hx
  by_cases z : ∃ w, w < 4 ∧ d 195 x = nn w
  · obtain ⟨w, hw, e⟩ := z
    refine Or.inl ⟨w, hw, e, ?_⟩
    have w2 : ∀ g : Sg, x_within (nn w) 0 3 g = some 1 := fun g => (within_eq _ _ _ g).trans (congrArg some (if_pos ((rgK (K := 3) (by decide)).mpr ⟨w, hw, rfl⟩)))
    unfold reader_keepTest
    refine st_l ?_
    rw [h1]
    refine st_b (w1 d) (st_f (by decide) (st_t hin ?_))
    rw [nnT (by omega), e]
    refine st_b (w2 d) (st_t (by decide) (st_t hin (st_l ?_)))
    rw [show nn x * 4 + nn w = nn (4 * x + w) from ((congrArg (· + nn w) (nnM x 4)).trans (nnA _ _)).trans (by rw [Nat.mul_comm])]
    have hin2 : inb (nn (4 * x + w)) 64 = true := by rw [nnB (by omega)]; omega
    rw [nnT (show 4 * x + w < 2147483648 by omega)]
    refine st_t hin2 (st_l (st_t hin2 (st_l (st_t hin2 (st_l (st_t hin2 (st_l (st_t hin (st_t hin (st_l ?_))))))))))
    unfold ktO
    rw [u2n (show 195 ≠ 199 by decide), u2n (show 195 ≠ 198 by decide), u2n (show 195 ≠ 197 by decide), u2n (show 195 ≠ 196 by decide), e, u2n (show 191 ≠ 197 by decide), u2n (show 191 ≠ 196 by decide), show nn w + 1 = nn (w + 1) from nnA w 1]
  · refine Or.inr ⟨z, ?_⟩
    unfold reader_keepTest
    refine st_l ?_
    rw [h1]
    refine st_b (w1 d) (st_f (by decide) (st_t hin ?_))
    rw [nnT (by omega)]
    refine st_b (x := 0) ?_ (st_f (by decide) rfl)
    rw [within_eq, if_neg]
    intro y
    obtain ⟨w, hw, e⟩ := (rgK (K := 3) (by decide)).mp y
    exact z ⟨w, hw, e⟩
def IT5 (c M : Sg) (L v : Nat) : Prop := c 192 0 = nn (min (L + 1) 16) ∧ M 215 11 = nn L ∧ M 215 10 = 0 ∧ c 191 1 = M 216 8 ∧ c 191 2 = M 216 9 ∧ (c 191 1 = 0 → L < 16 ∧ v < 4 ∧ c 195 L = nn (v + 1) ∧ LNs c M L ∧ (∀ t, t < v → tTest (c 196 (4 * L + t)) (c 197 (4 * L + t)) (c 198 (4 * L + t)) (c 199 (4 * L + t)) (M 219) (20 * L + 1 + 4 * t)) ∧ tTest (c 196 (4 * L + v)) (c 197 (4 * L + v)) (c 198 (4 * L + v)) (c 199 (4 * L + v)) (M 220) 0)
theorem kt {d M : Sg} {L v : Nat} {lim : Int32} (h : ILt d M L v) (hv : d 191 1 = 0 → v < 4) (h8 : d 191 8 = 0 ∨ d 191 8 = 1) (q0 : M 220 0 = d 191 8) (q1 : ∃ w, 1 ≤ w ∧ w ≤ 6 ∧ d 191 9 = nn (6 + w) ∧ M 220 1 = nn w) (q2 : tSign (d 191 10) (M 220 2)) (q3 : M 220 3 = lim) : ∃ d2, reader_keepTest lim d = some d2 ∧ d2 191 = d 191 ∧ KC d d2 ∧ IT5 d2 M L v := by
  obtain ⟨a1, a2, a3, a4, a5, a6⟩ := h
  rcases kt_e (d := d) (x := min L 15) (lim := lim) (by rw [a1]; congr 1; omega) (by omega) with ⟨w, hw, e, hk⟩ | ⟨hn, hk⟩
  · have e191 : (ktO d (min L 15) w lim) 191 = d 191 := by unfold ktO; rw [u2n (by decide), u2n (by decide), u2n (by decide), u2n (by decide), u2n (by decide)]
    have e192 : (ktO d (min L 15) w lim) 192 = d 192 := by unfold ktO; rw [u2n (by decide), u2n (by decide), u2n (by decide), u2n (by decide), u2n (by decide)]
    have e193 : (ktO d (min L 15) w lim) 193 = d 193 := by unfold ktO; rw [u2n (by decide), u2n (by decide), u2n (by decide), u2n (by decide), u2n (by decide)]
    have e194 : (ktO d (min L 15) w lim) 194 = d 194 := by unfold ktO; rw [u2n (by decide), u2n (by decide), u2n (by decide), u2n (by decide), u2n (by decide)]
    have e195 : (ktO d (min L 15) w lim) 195 = up1 (d 195) (min L 15) (nn (w + 1)) := by unfold ktO; rw [u2e, u2n (by decide), u2n (by decide), u2n (by decide), u2n (by decide)]
    have e196 : (ktO d (min L 15) w lim) 196 = up1 (d 196) (4 * min L 15 + w) (d 191 8 &&& 1) := by unfold ktO; rw [u2n (by decide), u2n (by decide), u2n (by decide), u2n (by decide), u2e]
    have e197 : (ktO d (min L 15) w lim) 197 = up1 (d 197) (4 * min L 15 + w) (d 191 9) := by unfold ktO; rw [u2n (by decide), u2n (by decide), u2n (by decide), u2e, u2n (by decide)]
    have e198 : (ktO d (min L 15) w lim) 198 = up1 (d 198) (4 * min L 15 + w) (d 191 10) := by unfold ktO; rw [u2n (by decide), u2n (by decide), u2e, u2n (by decide), u2n (by decide)]
    have e199 : (ktO d (min L 15) w lim) 199 = up1 (d 199) (4 * min L 15 + w) lim := by unfold ktO; rw [u2n (by decide), u2e, u2n (by decide), u2n (by decide), u2n (by decide)]
    refine ⟨_, hk, e191, fun i hi => by unfold ktO; rw [u2n (by omega), u2n (by omega), u2n (by omega), u2n (by omega), u2n (by omega)], ?_⟩
    unfold IT5
    rw [e191, e192]
    refine ⟨a1, a2, a3, a4, a5, fun z => ?_⟩
    obtain ⟨f1, f2, f3, f4, f5⟩ := a6 z
    have hv := hv z
    rw [show min L 15 = L by omega] at *
    have ew : w = v := by
      have := e.symm.trans f3
      rw [nnQ (by omega) (by omega)] at this
      exact this
    subst ew
    rw [e195, e196, e197, e198, e199]
    refine ⟨f1, hv, up1_eq, ?_, ?_, ?_⟩
    · unfold LNs
      rw [e193, e194, e195, e196, e197, e198, e199]
      intro i hi
      refine tLine_lc rfl rfl (up1_ne (by omega)) (fun t ht => ⟨up1_ne (by omega), up1_ne (by omega), up1_ne (by omega), up1_ne (by omega)⟩) (f4 i hi)
    · intro t ht
      rw [up1_ne (by omega), up1_ne (by omega), up1_ne (by omega), up1_ne (by omega)]
      exact f5 t ht
    · rw [up1_eq, up1_eq, up1_eq, up1_eq]
      have e8 : d 191 8 &&& 1 = d 191 8 := by rcases h8 with y | y <;> rw [y] <;> decide
      rw [e8]
      exact ⟨h8, q0, q1, q2, q3⟩
  · refine ⟨d, hk, rfl, KC.r, a1, a2, a3, a4, a5, fun z => ?_⟩
    obtain ⟨f1, f2, f3, f4, f5⟩ := a6 z
    have hv := hv z
    rw [show min L 15 = L by omega] at hn
    exact absurd ⟨v, hv, f3⟩ hn
