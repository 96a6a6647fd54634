/-! the statute: a token of both sides -/
def kM (k : Nat) : Int32 := if k = 19 then 0 else if k = 18 then 1 else if 13 ≤ k then 2 else if k = 0 then 4 else 3
def sgM (k : Nat) : Int32 := if k = 13 then 58 else if k = 14 then 59 else if k = 15 then 60 else if k = 16 then 62 else 61
def sk (v : Int32) : Nat := if v = 58 then 13 else if v = 59 then 14 else if v = 60 then 15 else if v = 61 then 17 else if v = 62 then 16 else 0
theorem sk_e (v : Int32) (g : Sg) : tokens_signOf v g = some (nn (sk v)) := by
  unfold tokens_signOf sk
  by_cases h1 : v = 58
  · rw [if_pos h1, if_pos h1]; rfl
  rw [if_neg h1, if_neg h1]
  by_cases h2 : v = 59
  · rw [if_pos h2, if_pos h2]; rfl
  rw [if_neg h2, if_neg h2]
  by_cases h3 : v = 60
  · rw [if_pos h3, if_pos h3]; rfl
  rw [if_neg h3, if_neg h3]
  by_cases h4 : v = 61
  · rw [if_pos h4, if_pos h4]; rfl
  rw [if_neg h4, if_neg h4]
  by_cases h5 : v = 62
  · rw [if_pos h5, if_pos h5]; rfl
  rw [if_neg h5, if_neg h5]
  rfl
theorem bs (x : Int8) : (sk x.toInt32 = 0 ∧ m_isSignByte (x.toInt32 &&& 255) (fun _ _ => 0) = some 0) ∨ (13 ≤ sk x.toInt32 ∧ sk x.toInt32 ≤ 17 ∧ m_isSignByte (x.toInt32 &&& 255) (fun _ _ => 0) = some 1 ∧ x.toInt32 &&& 255 = sgM (sk x.toInt32)) :=
  i8 (fun x => (sk x.toInt32 = 0 ∧ m_isSignByte (x.toInt32 &&& 255) (fun _ _ => 0) = some 0) ∨ (13 ≤ sk x.toInt32 ∧ sk x.toInt32 ≤ 17 ∧ m_isSignByte (x.toInt32 &&& 255) (fun _ _ => 0) = some 1 ∧ x.toInt32 &&& 255 = sgM (sk x.toInt32))) (by decide +kernel) x
theorem mW_ne : ∀ K : Fin 13, K.1 ≠ 0 → mW K.1 ≠ 99 ∧ kM K.1 = 3 := by decide
theorem a162 {K : Nat} (hK : K ≤ 12) (M : Sg) : m_advance_162 (mW K) M = some (up2 (up2 M 215 9 (mW K)) 215 6 (kM K)) := by
  unfold m_advance_162
  refine st_l ?_
  by_cases e : K = 0
  · subst e
    exact st_f (by rw [up_e]; decide) rfl
  · obtain ⟨h1, h2⟩ := mW_ne ⟨K, by omega⟩ e
    have h1 : mW K ≠ 99 := h1
    have h2 : kM K = 3 := h2
    rw [h2]
    exact st_t (by rw [up_e]; exact h1) rfl
def TM (M : Sg) (k nu : Nat) : Prop := M 215 6 = kM k ∧ (1 ≤ k → k ≤ 12 → M 215 9 = mW k) ∧ (13 ≤ k → k ≤ 17 → M 215 8 = sgM k) ∧ (k = 18 → M 215 7 = nn nu)
def TK (F : Nat) (b : Nat → Int32) (len p k s e nu : Nat) : Prop := k ≤ 19 ∧ p ≤ s ∧ s ≤ e ∧ e ≤ len ∧ (k ≠ 19 → s < e) ∧ nu ≤ 9999 ∧ (∀ c : Sg, c 32 = b → c 191 4 = nn p → ∃ c2, reader_nextToken F (nn len) c = some c2 ∧ StC c c2 ∧ c2 191 4 = nn e ∧ c2 191 5 = nn s ∧ c2 191 6 = nn k ∧ (k = 18 → c2 191 7 = nn nu)) ∧ (∀ M : Sg, MB M b len → M 215 4 = nn p → ∃ M2, m_advance F M = some M2 ∧ StM M M2 ∧ M2 215 4 = nn e ∧ M2 215 5 = nn s ∧ TM M2 k nu)
theorem dN_le {y : Nat → Nat} {k : Nat} (hy : ∀ i, i < k → y i ≤ 9) : dN y (min k 4) ≤ 9999 := by
  rcases (show k = 0 ∨ k = 1 ∨ k = 2 ∨ k = 3 ∨ 4 ≤ k by omega) with rfl | rfl | rfl | rfl | h
  · exact Nat.zero_le _
  · have h0 := hy 0 (by omega); show 10 * 0 + y 0 ≤ 9999; omega
  · have h0 := hy 0 (by omega); have h1 := hy 1 (by omega); show 10 * (10 * 0 + y 0) + y 1 ≤ 9999; omega
  · have h0 := hy 0 (by omega); have h1 := hy 1 (by omega); have h2 := hy 2 (by omega); show 10 * (10 * (10 * 0 + y 0) + y 1) + y 2 ≤ 9999; omega
  · rw [show min k 4 = 4 by omega]
    have h0 := hy 0 (by omega); have h1 := hy 1 (by omega); have h2 := hy 2 (by omega); have h3 := hy 3 (by omega); show 10 * (10 * (10 * (10 * 0 + y 0) + y 1) + y 2) + y 3 ≤ 9999; omega
theorem tk_ex {b : Nat → Int32} {len p F : Nat} (hV : VB b) (hl : len ≤ 500) (hF : 600 ≤ F) (hp : p ≤ len) : ∃ k s e nu, TK F b len p k s e nu := by
  obtain ⟨s, a1, a2, a3, a4⟩ := scan (fun i => bB (b i)) len (len - p) p (by omega)
  have a3 : ∀ i, p ≤ i → i < s → bB (b i) = true := a3
  have a4 : s < len → bB (b s) = false := a4
  have hc : ∀ c : Sg, c 32 = b → c 191 4 = nn p → ∃ c2, reader_nextToken F (nn len) c = reader_nextToken_33 F (nn len) c2 ∧ StC c c2 ∧ c2 191 4 = nn s := fun c h1 h2 => blC a2 hl a4 (s - p) p F c (by omega) (by omega) h1 h2 a3
  have hm : ∀ M : Sg, MB M b len → M 215 4 = nn p → ∃ n2 M2, m_advance F M = m_advance_0 F (n2 + 1) M2 ∧ StM M M2 ∧ M2 215 4 = nn s := fun M h1 h2 => blM hV a2 hl (s - p) p F M (by omega) (by omega) h1 h2 a3
  by_cases hs : s = len
  · subst hs
    have hmb : mb b s s = -1 := if_neg (by omega)
    refine ⟨19, s, s, 0, by decide, a1, Nat.le_refl s, Nat.le_refl s, fun z => absurd rfl z, by decide, fun c h1 h2 => ?_, fun M h1 h2 => ?_⟩
    · skip
      obtain ⟨c2, g1, g2, g3⟩ := hc c h1 h2
      obtain ⟨c3, hc3⟩ : ∃ c3, c3 = up2 c2 191 5 (c2 191 4) := ⟨_, rfl⟩
      have f32 : c3 32 = b := by rw [hc3, u2n (by decide), g2.1 32 (by decide)]; exact h1
      have f4 : c3 191 4 = nn s := by rw [hc3, up_n (by decide)]; exact g3
      have f5 : c3 191 5 = nn s := by rw [hc3, up_e]; exact g3
      have fS : StC c c3 := g2.t (hc3 ▸ StC.w (by decide))

      refine ⟨up2 c3 191 6 19, g1.trans ?_, fS.t (StC.w (by decide)), by rw [up_n (by decide)]; exact f4, by rw [up_n (by decide)]; exact f5, up_e, fun z => absurd z (by decide)⟩
      unfold reader_nextToken_33
      refine st_l ?_
      rw [← hc3]
      exact st_f (by rw [f4, nnL (by omega) (by omega)]; omega) rfl
    · skip
      obtain ⟨n2, M2, g1, g2, g3⟩ := hm M h1 h2
      obtain ⟨M3, hM3⟩ : ∃ M3, M3 = up2 M2 215 5 (M2 215 4) := ⟨_, rfl⟩
      have f4 : M3 215 4 = nn s := by rw [hM3, up_n (by decide)]; exact g3
      have f5 : M3 215 5 = nn s := by rw [hM3, up_e]; exact g3
      have fS : StM M M3 := g2.t (hM3 ▸ StM.w (by decide))
      have by2 : m_byteAt (M2 215 4) M2 = some (mb b s s) := by rw [g3]; exact mb_e (h1.t g2) a2 hl
      have by3 : m_byteAt (M3 215 4) M3 = some (mb b s s) := by rw [f4]; exact mb_e (h1.t fS) a2 hl

      refine ⟨up2 M3 215 6 0, g1.trans ?_, fS.t (StM.w (by decide)), by rw [up_n (by decide)]; exact f4, by rw [up_n (by decide)]; exact f5, up_e, fun z1 z2 => absurd z2 (by decide), fun z1 z2 => absurd z2 (by decide), fun z => absurd z (by decide)⟩
      rw [hmb] at by2 by3
      rw [m_advance_0]
      refine st_b by2 (st_f (by decide) (st_b by2 (st_t (by decide) (st_l ?_))))
      rw [← hM3]
      exact st_b by3 (st_f (by decide) rfl)
  have hs : s < len := by omega
  have hu := bu hV (i := s) (by omega)
  have hmb : mb b len s = b s &&& 255 := if_pos hs
  have n10 : ¬ mb b len s = 10 := fun z => by
    have := hu.2.2.1.trans (a4 hs)
    rw [← hmb, z] at this
    exact absurd this (by decide)
  have n32' : ¬ mb b len s = 32 := fun z => by
    have := hu.2.2.1.trans (a4 hs)
    rw [← hmb, z] at this
    exact absurd this (by decide)
  have h0u : 0 ≤ mb b len s := by rw [hmb]; exact hu.2.2.2.2.2
  by_cases hL : bL (b s) = true
  · obtain ⟨q, b1, b2, b3, b4⟩ := scan (fun i => bL (b i)) len (len - s) s (by omega)
    have b3 : ∀ i, s ≤ i → i < q → bL (b i) = true := b3
    have b4 : q < len → bL (b q) = false := b4
    have hsq : s < q := by
      rcases Nat.lt_or_ge s q with z | z
      · exact z
      · have e : q = s := by omega
        rw [e] at b4
        rw [b4 hs] at hL
        exact absurd hL (by decide)
    have hy : ∀ i, i < q - s → b (s + i) = nn (96 + ((b (s + i)).toNatClampNeg - 96)) ∧ 1 ≤ (b (s + i)).toNatClampNeg - 96 ∧ (b (s + i)).toNatClampNeg - 96 ≤ 26 := fun i hi => by
      obtain ⟨y, y1, y2, y3⟩ := bL_y (b3 (s + i) (by omega) (by omega))
      rw [y3, nnT (by omega), show 96 + y - 96 = y by omega]
      exact ⟨rfl, y1, y2⟩
    obtain ⟨K, k1, k2, k3, k4⟩ := wl (b := b) (s := s) (k := q - s) (y := fun i => (b (s + i)).toNatClampNeg - 96) (by omega) hy
    rw [show s + (q - s) = q by omega] at k2
    refine ⟨K, s, q, 0, by omega, a1, by omega, b2, fun _ => hsq, by decide, fun c h1 h2 => ?_, fun M h1 h2 => ?_⟩
    · skip
      obtain ⟨c2, g1, g2, g3⟩ := hc c h1 h2
      obtain ⟨c3, hc3⟩ : ∃ c3, c3 = up2 c2 191 5 (c2 191 4) := ⟨_, rfl⟩
      have f32 : c3 32 = b := by rw [hc3, u2n (by decide), g2.1 32 (by decide)]; exact h1
      have f4 : c3 191 4 = nn s := by rw [hc3, up_n (by decide)]; exact g3
      have f5 : c3 191 5 = nn s := by rw [hc3, up_e]; exact g3
      have fS : StC c c3 := g2.t (hc3 ▸ StC.w (by decide))

      obtain ⟨c4, i1, i2, i3, i4⟩ := woC b2 hl b4 (q - s) s F c3 (by omega) (by omega) f32 f4 b3
      refine ⟨up2 c4 191 6 (nn K), g1.trans ?_, (fS.t i2).t (StC.w (by decide)), by rw [up_n (by decide)]; exact i3, by rw [up_n (by decide), i4]; exact f5, up_e, fun z => absurd z (by omega)⟩
      have r : reader_takeWord F (nn len) c3 = some (up2 c4 191 6 (nn K)) := by
        unfold reader_takeWord
        rw [i1]
        unfold reader_takeWord_33
        rw [i3, i4, f5]
        exact st_b (k2 c4 ((i2.1 32 (by decide)).trans f32)) rfl
      unfold reader_nextToken_33
      refine st_l ?_
      rw [← hc3, f4, f32, nnT (by omega)]
      exact st_t (by rw [nnL (by omega) (by omega)]; omega) (st_t (by rw [nnB (by omega)]; omega) (st_b ((let_e _ _).trans (congrArg some (if_pos hL))) (st_f (by decide) (st_b r rfl))))
    · skip
      obtain ⟨n2, M2, g1, g2, g3⟩ := hm M h1 h2
      obtain ⟨M3, hM3⟩ : ∃ M3, M3 = up2 M2 215 5 (M2 215 4) := ⟨_, rfl⟩
      have f4 : M3 215 4 = nn s := by rw [hM3, up_n (by decide)]; exact g3
      have f5 : M3 215 5 = nn s := by rw [hM3, up_e]; exact g3
      have fS : StM M M3 := g2.t (hM3 ▸ StM.w (by decide))
      have by2 : m_byteAt (M2 215 4) M2 = some (mb b len s) := by rw [g3]; exact mb_e (h1.t g2) a2 hl
      have by3 : m_byteAt (M3 215 4) M3 = some (mb b len s) := by rw [f4]; exact mb_e (h1.t fS) a2 hl

      obtain ⟨n4, M4, i1, i2, i3, i4⟩ := woM (y := fun i => (b (s + i)).toNatClampNeg - 96) hV (by omega) b2 hl hy (fun i hi => b3 (s + i) (by omega) (by omega)) (q - s) 0 F M3 (by omega) (by omega) (h1.t fS) f4 f5
      refine ⟨up2 (up2 M4 215 9 (mW K)) 215 6 (kM K), g1.trans ?_, ((fS.t i2).t (StM.w (by decide))).t (StM.w (by decide)), by rw [up_n (by decide), up_n (by decide)]; exact i3, by rw [up_n (by decide), up_n (by decide)]; exact i4, up_e, fun _ _ => by rw [up_n (by decide), up_e], fun z1 z2 => absurd z1 (by omega), fun z => absurd z (by omega)⟩
      have hq : bL (mb b len q) = false := by
        unfold mb
        by_cases z : q < len
        · rw [if_pos z, (bu hV (i := q) (by omega)).1]; exact b4 z
        · rw [if_neg z]; decide
      have by4 : m_byteAt (M4 215 4) M4 = some (mb b len q) := by rw [i3]; exact mb_e (h1.t (fS.t i2)) b2 hl
      have r : m_advance_77 F 0 M3 = some (up2 (up2 M4 215 9 (mW K)) 215 6 (kM K)) := by
        refine Eq.trans i1 ?_
        rw [m_advance_77]
        refine st_b by4 (st_b ((mle_e _ _).trans (congrArg some (if_neg (by rw [hq]; decide)))) (st_t rfl ?_))
        by_cases z : q - s ≤ 6
        · refine st_t (by rw [i3, i4, nnS (by omega), nrE (b := 6) 6 rfl (by omega) (by decide)]; exact z) (st_b ?_ (a162 k1 M4))
          rw [show min (q - s) 7 = q - s by omega]
          exact k3 M4 z
        · refine st_f (by rw [i3, i4, nnS (by omega), nrE (b := 6) 6 rfl (by omega) (by decide)]; exact z) ?_
          rw [← a162 k1 M4, k4 (by omega)]
          rfl
      rw [m_advance_0]
      refine st_b by2 (st_f n10 (st_b by2 (st_t n32' (st_l ?_))))
      rw [← hM3]
      exact st_b by3 (st_t h0u (st_b ((mle_e _ _).trans (congrArg some (if_pos (by rw [hmb, hu.1]; exact hL)))) (st_f (by decide) r)))
  by_cases hD : bD (b s) = true
  · obtain ⟨q, b1, b2, b3, b4⟩ := scan (fun i => bD (b i)) len (len - s) s (by omega)
    have b3 : ∀ i, s ≤ i → i < q → bD (b i) = true := b3
    have b4 : q < len → bD (b q) = false := b4
    have hsq : s < q := by
      rcases Nat.lt_or_ge s q with z | z
      · exact z
      · have e : q = s := by omega
        rw [e] at b4
        rw [b4 hs] at hD
        exact absurd hD (by decide)
    have hy : ∀ i, i < q - s → b (s + i) = nn (48 + ((b (s + i)).toNatClampNeg - 48)) ∧ (b (s + i)).toNatClampNeg - 48 ≤ 9 := fun i hi => by
      obtain ⟨y, y2, y3⟩ := bD_y (b3 (s + i) (by omega) (by omega))
      rw [y3, nnT (by omega), show 48 + y - 48 = y by omega]
      exact ⟨rfl, y2⟩
    have hy2 : ∀ i, i < q - s → bD (b (s + i)) = true := fun i hi => b3 (s + i) (by omega) (by omega)
    refine ⟨if 4 < q - s then 0 else 18, s, q, dN (fun i => (b (s + i)).toNatClampNeg - 48) (min (q - s) 4), by split <;> decide, a1, by omega, b2, fun _ => hsq, dN_le (fun i hi => (hy i hi).2), fun c h1 h2 => ?_, fun M h1 h2 => ?_⟩
    · skip
      obtain ⟨c2, g1, g2, g3⟩ := hc c h1 h2
      obtain ⟨c3, hc3⟩ : ∃ c3, c3 = up2 c2 191 5 (c2 191 4) := ⟨_, rfl⟩
      have f32 : c3 32 = b := by rw [hc3, u2n (by decide), g2.1 32 (by decide)]; exact h1
      have f4 : c3 191 4 = nn s := by rw [hc3, up_n (by decide)]; exact g3
      have f5 : c3 191 5 = nn s := by rw [hc3, up_e]; exact g3
      have fS : StC c c3 := g2.t (hc3 ▸ StC.w (by decide))

      obtain ⟨c4, i1, i2, i3, i4, i5⟩ := nuC (y := fun i => (b (s + i)).toNatClampNeg - 48) (by omega) b2 hl b4 hy hy2 (q - s) 0 F (up2 c3 191 7 0) (by omega) (by omega) (by rw [u2n (by decide)]; exact f32) (by rw [up_n (by decide)]; exact f4) (by rw [up_n (by decide)]; exact f5) (by rw [up_e]; rfl)
      have r : reader_takeNumber F (nn len) c3 = some (up2 c4 191 6 (nn (if 4 < q - s then 0 else 18))) := by
        unfold reader_takeNumber
        refine st_l (i1.trans ?_)
        unfold reader_takeNumber_72
        rw [i3, i4, nnS (by omega)]
        by_cases z : 4 < q - s
        · rw [if_pos z]
          exact st_t (by rw [nlL (a := 4) 4 rfl (by decide) (by omega)]; exact z) rfl
        · rw [if_neg z]
          exact st_f (by rw [nlL (a := 4) 4 rfl (by decide) (by omega)]; exact z) rfl
      refine ⟨_, g1.trans ?_, ((fS.t (StC.w (by decide))).t i2).t (StC.w (i := 6) (by decide)), by rw [up_n (by decide)]; exact i3, by rw [up_n (by decide)]; exact i4, up_e, fun z => by rw [up_n (by decide)]; exact i5⟩
      unfold reader_nextToken_33
      refine st_l ?_
      rw [← hc3, f4, f32, nnT (by omega)]
      exact st_t (by rw [nnL (by omega) (by omega)]; omega) (st_t (by rw [nnB (by omega)]; omega) (st_b ((let_e _ _).trans (congrArg some (if_neg hL))) (st_t rfl (st_t (by rw [nnB (by omega)]; omega) (st_b ((dig_e _ _).trans (congrArg some (if_pos hD))) (st_f (by decide) (st_b r rfl)))))))
    · skip
      obtain ⟨n2, M2, g1, g2, g3⟩ := hm M h1 h2
      obtain ⟨M3, hM3⟩ : ∃ M3, M3 = up2 M2 215 5 (M2 215 4) := ⟨_, rfl⟩
      have f4 : M3 215 4 = nn s := by rw [hM3, up_n (by decide)]; exact g3
      have f5 : M3 215 5 = nn s := by rw [hM3, up_e]; exact g3
      have fS : StM M M3 := g2.t (hM3 ▸ StM.w (by decide))
      have by2 : m_byteAt (M2 215 4) M2 = some (mb b len s) := by rw [g3]; exact mb_e (h1.t g2) a2 hl
      have by3 : m_byteAt (M3 215 4) M3 = some (mb b len s) := by rw [f4]; exact mb_e (h1.t fS) a2 hl

      obtain ⟨n4, M4, i1, i2, i3, i4, i5⟩ := nuM (y := fun i => (b (s + i)).toNatClampNeg - 48) hV (by omega) b2 hl hy hy2 (q - s) 0 F (up2 M3 215 7 0) (by omega) (by omega) (h1.t (fS.t (StM.w (by decide)))) (by rw [up_n (by decide)]; exact f4) (by rw [up_n (by decide)]; exact f5) (by rw [up_e]; rfl)
      have hq : bD (mb b len q) = false := by
        unfold mb
        by_cases z : q < len
        · rw [if_pos z, (bu hV (i := q) (by omega)).2.1]; exact b4 z
        · rw [if_neg z]; decide
      have by4 : m_byteAt (M4 215 4) M4 = some (mb b len q) := by rw [i3]; exact mb_e (h1.t ((fS.t (StM.w (by decide))).t i2)) b2 hl
      have r : m_advance_198 F (up2 M3 215 7 0) = some (up2 M4 215 6 (kM (if 4 < q - s then 0 else 18))) := by
        refine Eq.trans i1 ?_
        rw [m_advance_198]
        refine st_b by4 (st_b ((mdi_e _ _).trans (congrArg some (if_neg (by rw [hq]; decide)))) (st_t rfl ?_))
        by_cases z : 4 < q - s
        · rw [if_pos z]
          exact st_f (by rw [i3, i4, nnS (by omega), nrE (b := 4) 4 rfl (by omega) (by decide)]; omega) rfl
        · rw [if_neg z]
          exact st_t (by rw [i3, i4, nnS (by omega), nrE (b := 4) 4 rfl (by omega) (by decide)]; omega) rfl
      refine ⟨up2 M4 215 6 (kM (if 4 < q - s then 0 else 18)), g1.trans ?_, ((fS.t (StM.w (by decide))).t i2).t (StM.w (i := 6) (by decide)), by rw [up_n (by decide)]; exact i3, by rw [up_n (by decide)]; exact i4, up_e, fun z1 z2 => ?_, fun z1 z2 => ?_, fun z => by rw [up_n (by decide)]; exact i5⟩
      · rw [m_advance_0]
        refine st_b by2 (st_f n10 (st_b by2 (st_t n32' (st_l ?_))))
        rw [← hM3]
        exact st_b by3 (st_t h0u (st_b ((mle_e _ _).trans (congrArg some (if_neg (by rw [hmb, hu.1]; exact hL)))) (st_t rfl (st_b ((mdi_e _ _).trans (congrArg some (if_pos (by rw [hmb, hu.2.1]; exact hD)))) (st_f (by decide) (st_l r))))))
      · exfalso
        by_cases z : 4 < q - s
        · rw [if_pos z] at z1; omega
        · rw [if_neg z] at z2; omega
      · exfalso
        by_cases z : 4 < q - s
        · rw [if_pos z] at z1; omega
        · rw [if_neg z] at z2; omega
  obtain ⟨x, hx⟩ := hV s (by omega)
  have hb := bs x
  rw [← hx] at hb
  refine ⟨sk (b s), s, s + 1, 0, by rcases hb with z | z <;> omega, a1, by omega, by omega, fun _ => by omega, by decide, fun c h1 h2 => ?_, fun M h1 h2 => ?_⟩
  · skip
    obtain ⟨c2, g1, g2, g3⟩ := hc c h1 h2
    obtain ⟨c3, hc3⟩ : ∃ c3, c3 = up2 c2 191 5 (c2 191 4) := ⟨_, rfl⟩
    have f32 : c3 32 = b := by rw [hc3, u2n (by decide), g2.1 32 (by decide)]; exact h1
    have f4 : c3 191 4 = nn s := by rw [hc3, up_n (by decide)]; exact g3
    have f5 : c3 191 5 = nn s := by rw [hc3, up_e]; exact g3
    have fS : StC c c3 := g2.t (hc3 ▸ StC.w (by decide))

    refine ⟨up2 (up2 c3 191 6 (nn (sk (b s)))) 191 4 ((up2 c3 191 6 (nn (sk (b s)))) 191 4 + 1), g1.trans ?_, (fS.t (StC.w (by decide))).t (StC.w (by decide)), by rw [up_e, up_n (by decide), f4]; exact nnAr s 1, by rw [up_n (by decide), up_n (by decide)]; exact f5, by rw [up_n (by decide), up_e], fun z => by rcases hb with y | y <;> omega⟩
    unfold reader_nextToken_33
    refine st_l ?_
    rw [← hc3, f4, f32, nnT (by omega)]
    exact st_t (by rw [nnL (by omega) (by omega)]; omega) (st_t (by rw [nnB (by omega)]; omega) (st_b ((let_e _ _).trans (congrArg some (if_neg hL))) (st_t rfl (st_t (by rw [nnB (by omega)]; omega) (st_b ((dig_e _ _).trans (congrArg some (if_neg hD))) (st_t rfl (st_t (by rw [nnB (by omega)]; omega) (st_b (sk_e _ _) rfl))))))))
  · skip
    obtain ⟨n2, M2, g1, g2, g3⟩ := hm M h1 h2
    obtain ⟨M3, hM3⟩ : ∃ M3, M3 = up2 M2 215 5 (M2 215 4) := ⟨_, rfl⟩
    have f4 : M3 215 4 = nn s := by rw [hM3, up_n (by decide)]; exact g3
    have f5 : M3 215 5 = nn s := by rw [hM3, up_e]; exact g3
    have fS : StM M M3 := g2.t (hM3 ▸ StM.w (by decide))
    have by2 : m_byteAt (M2 215 4) M2 = some (mb b len s) := by rw [g3]; exact mb_e (h1.t g2) a2 hl
    have by3 : m_byteAt (M3 215 4) M3 = some (mb b len s) := by rw [f4]; exact mb_e (h1.t fS) a2 hl

    obtain ⟨M4, hM4⟩ : ∃ M4, M4 = up2 (up2 M3 215 4 (M3 215 4 + 1)) 215 8 (mb b len s) := ⟨_, rfl⟩
    have j4 : M4 215 4 = nn (s + 1) := by rw [hM4, up_n (by decide), up_e, f4]; exact nnAr s 1
    have j5 : M4 215 5 = nn s := by rw [hM4, up_n (by decide), up_n (by decide)]; exact f5
    have j8 : M4 215 8 = mb b len s := by rw [hM4, up_e]
    have jS : StM M M4 := (fS.t (StM.w (i := 4) (by decide))).t (hM4 ▸ StM.w (by decide))
    have r : ∀ z v : Int32, (m_isSignByte (mb b len s) M4 = some z) → (if z = 0 then v = 4 else v = 2) → m_advance F M = some (up2 M4 215 6 v) := by
      intro z v hz hv
      refine g1.trans ?_
      rw [m_advance_0]
      refine st_b by2 (st_f n10 (st_b by2 (st_t n32' (st_l ?_))))
      rw [← hM3]
      refine st_b by3 (st_t h0u (st_b ((mle_e _ _).trans (congrArg some (if_neg (by rw [hmb, hu.1]; exact hL)))) (st_t rfl (st_b ((mdi_e _ _).trans (congrArg some (if_neg (by rw [hmb, hu.2.1]; exact hD)))) (st_t rfl (st_l (st_l ?_)))))))
      rw [← hM4]
      refine st_b hz ?_
      by_cases e : z = 0
      · rw [if_pos e] at hv ⊢
        rw [hv]
        rfl
      · rw [if_neg e] at hv ⊢
        rw [hv]
        rfl
    rcases hb with ⟨y1, y2⟩ | ⟨y1, y2, y3, y4⟩
    · rw [← hmb] at y2
      rw [y1]
      exact ⟨_, r 0 4 y2 rfl, jS.t (StM.w (by decide)), by rw [up_n (by decide)]; exact j4, by rw [up_n (by decide)]; exact j5, up_e, fun z1 z2 => absurd z1 (by decide), fun z1 z2 => absurd z1 (by decide), fun z => absurd z (by decide)⟩
    · rw [← hmb] at y3 y4
      refine ⟨_, r 1 2 y3 rfl, jS.t (StM.w (by decide)), by rw [up_n (by decide)]; exact j4, by rw [up_n (by decide)]; exact j5, ?_, fun z1 z2 => absurd z2 (by omega), fun z1 z2 => by rw [up_n (by decide), j8, y4], fun z => absurd z (by omega)⟩
      rw [up_e]
      unfold kM
      rw [if_neg (by omega), if_neg (by omega), if_pos (by omega)]
