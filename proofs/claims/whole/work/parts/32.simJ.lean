/-! feed -/
theorem byte_and (x : Int32) : x.toInt8.toInt32 &&& 255 = x &&& 255 := by
  apply Int32.toBitVec_inj.mp
  rw [Int32.toBitVec_and, Int32.toBitVec_and, Int8.toBitVec_toInt32, Int32.toBitVec_toInt8]
  apply BitVec.eq_of_getLsbD_eq_iff.mpr
  intro i hi
  have e : (Int32.toBitVec 255).getLsbD i = decide (i < 8) := by
    show (BitVec.ofNat 32 255).getLsbD i = _
    rw [BitVec.getLsbD_ofNat]
    show (decide (i < 32) && Nat.testBit (2 ^ 8 - 1) i) = _
    rw [Nat.testBit_two_pow_sub_one]
    simp [hi]
  rw [BitVec.getLsbD_and, BitVec.getLsbD_and, e]
  by_cases h : i < 8
  · rw [BitVec.getLsbD_signExtend, BitVec.getLsbD_signExtend, if_pos h, if_pos hi]
    simp only [hi, h, decide_true, Bool.true_and]
  · simp [h]
def app1 (c : Sg) (T : Nat) (b : Int32) : Sg := up2 (up2 c 32 T b) 31 0 (nn (T + 1))
def apAt (a : Nat → Int32) (T : Nat) (b : Int32) : Nat → Int32 := up1 (up1 a (4590 + T) b) 7 (nn (T + 1))
def appM (g : Sg) (T : Nat) (b : Int32) : Sg := up2 (up2 g 216 (4590 + T) b) 216 7 (nn (T + 1))
def wr : List Int32 → Nat → Sg → Sg
  | [], _, g => g
  | b :: l, T, g => wr l (T + 1) (app1 g T b)
def wrA : List Int32 → Nat → (Nat → Int32) → Nat → Int32
  | [], _, a => a
  | b :: l, T, a => wrA l (T + 1) (apAt a T b)
def wrM : List Int32 → Nat → Sg → Sg
  | [], _, g => g
  | b :: l, T, g => wrM l (T + 1) (appM g T b)
theorem wr_fr {c : Nat} (h1 : c ≠ 31) (h2 : c ≠ 32) : ∀ (l : List Int32) (T : Nat) (g : Sg), wr l T g c = g c
  | [], _, _ => rfl
  | b :: l, T, g => by
    refine (wr_fr h1 h2 l (T + 1) _).trans ?_
    unfold app1
    simp (disch := first | omega | decide) only [u2e, u2n, up1_eq, up1_ne, ne_eq]
theorem wrM_fr {c : Nat} (h1 : c ≠ 216) : ∀ (l : List Int32) (T : Nat) (g : Sg), wrM l T g c = g c
  | [], _, _ => rfl
  | b :: l, T, g => by
    refine (wrM_fr h1 l (T + 1) _).trans ?_
    unfold appM
    simp (disch := first | omega | decide) only [u2e, u2n, up1_eq, up1_ne, ne_eq]
theorem wrM_a : ∀ (l : List Int32) (T : Nat) (g : Sg), wrM l T g 216 = wrA l T (g 216)
  | [], _, _ => rfl
  | b :: l, T, g => by
    refine (wrM_a l (T + 1) _).trans ?_
    show wrA l (T + 1) (appM g T b 216) = wrA l (T + 1) (apAt (g 216) T b)
    unfold appM apAt
    rw [u2e, u2e]
theorem wrA_fr {j : Nat} (h : j ≠ 7) (h2 : j < 4590 ∨ 5090 ≤ j) : ∀ (l : List Int32) (T : Nat) (a : Nat → Int32), T + l.length ≤ 500 → wrA l T a j = a j
  | [], _, _, _ => rfl
  | b :: l, T, a, hT => by
    have e : (b :: l).length = l.length + 1 := rfl
    refine (wrA_fr h h2 l (T + 1) _ (by omega)).trans ?_
    unfold apAt
    rw [up1_ne h, up1_ne (by omega)]
theorem RLaw.byteU {c : Sg} {a : Nat → Int32} {T L : Nat} {b : Int32} (h : RLaw c a T L) (hT5 : T < 500) (hb : ∃ i : Int8, b = i.toInt32) : RLaw (app1 c T b) (apAt a T (b &&& 255)) (T + 1) L := by
  have hc : ∀ i, i ≠ 31 → i ≠ 32 → app1 c T b i = c i := fun i e1 e2 => by unfold app1; simp (disch := first | omega | decide) only [u2e, u2n, up1_eq, up1_ne, ne_eq]
  have ha : ∀ j, j ≠ 7 → j ≠ 4590 + T → apAt a T (b &&& 255) j = a j := fun j e1 e2 => by unfold apAt; simp (disch := first | omega | decide) only [u2e, u2n, up1_eq, up1_ne, ne_eq]
  have e31 : app1 c T b 31 = up1 (c 31) 0 (nn (T + 1)) := by unfold app1; simp (disch := first | omega | decide) only [u2e, u2n, up1_eq, up1_ne, ne_eq]
  have e32 : app1 c T b 32 = up1 (c 32) T b := by unfold app1; simp (disch := first | omega | decide) only [u2e, u2n, up1_eq, up1_ne, ne_eq]
  have a7 : apAt a T (b &&& 255) 7 = nn (T + 1) := by unfold apAt; simp (disch := first | omega | decide) only [u2e, u2n, up1_eq, up1_ne, ne_eq]
  have aT : apAt a T (b &&& 255) (4590 + T) = b &&& 255 := by unfold apAt; simp (disch := first | omega | decide) only [u2e, u2n, up1_eq, up1_ne, ne_eq]
  generalize app1 c T b = c' at *
  generalize apAt a T (b &&& 255) = a' at *
  apply RLaw.mk
  case hT => omega
  case hL => exact h.hL
  case cT => rw [e31, up1_eq]
  case aT => exact a7
  case tape =>
    intro n hn
    rw [e32]
    by_cases e : n = T
    · subst e; rw [up1_eq]; exact aT
    · rw [up1_ne e, ha _ (by omega) (by omega)]; exact h.tape n hn
  case tapeV =>
    intro n hn
    rw [e32]
    by_cases e : n = T
    · subst e; rw [up1_eq]; exact hb
    · rw [up1_ne e]; exact h.tapeV n hn
  case fk => rw [ha _ (by omega) (by omega), e31, up1_ne (by omega)]; exact h.fk
  case fp => rw [ha _ (by omega) (by omega), e31, up1_ne (by omega)]; exact h.fp
  case dry => intro n hn; rw [ha _ (by omega) (by omega), hc 41 (by decide) (by decide)]; exact h.dry n hn
  case dryV => rw [hc 41 (by decide) (by decide)]; exact h.dryV
  case cL => rw [hc 33 (by decide) (by decide)]; exact h.cL
  case aL => rw [ha _ (by omega) (by omega)]; exact h.aL
  case ln =>
    intro k hk
    have := h.hL
    rw [hc 34 (by decide) (by decide), hc 35 (by decide) (by decide), hc 36 (by decide) (by decide), hc 37 (by decide) (by decide), hc 38 (by decide) (by decide), hc 39 (by decide) (by decide), hc 40 (by decide) (by decide)]
    exact tLine_fr (fun j hj => ha _ (by omega) (by omega)) (h.ln k hk)
theorem RLaw.wrU {L : Nat} : ∀ (l : List Int32) (T : Nat) (c : Sg) (a : Nat → Int32), RLaw c a T L → T + l.length ≤ 500 → (∀ b, b ∈ l → ∃ i : Int8, b = i.toInt32) → RLaw (wr l T c) (wrA (l.map (fun b => b &&& 255)) T a) (T + l.length) L
  | [], T, c, a, h, _, _ => h
  | b :: l, T, c, a, h, hT, hl => by
    have e : (b :: l).length = l.length + 1 := rfl
    have := RLaw.wrU l (T + 1) _ _ (h.byteU (b := b) (by omega) (hl b List.mem_cons_self)) (by omega) (fun x hx => hl x (List.mem_cons_of_mem _ hx))
    rw [show T + (b :: l).length = T + 1 + l.length by omega]
    exact this
def by4 (v : Int32) : List Int32 := [(v >>> (24 &&& 31)).toInt8.toInt32.toInt8.toInt32, (v >>> (16 &&& 31)).toInt8.toInt32.toInt8.toInt32, (v >>> (8 &&& 31)).toInt8.toInt32.toInt8.toInt32, (v >>> (0 &&& 31)).toInt8.toInt32.toInt8.toInt32]
theorem by4_b (v : Int32) : ∀ b, b ∈ by4 v → ∃ i : Int8, b = i.toInt32 := by
  intro b hb
  unfold by4 at hb
  simp only [List.mem_cons, List.not_mem_nil, or_false] at hb
  rcases hb with rfl | rfl | rfl | rfl <;> exact ⟨_, rfl⟩
theorem by4_m (v : Int32) : (by4 v).map (fun b => b &&& 255) = [v >>> (24 &&& 31) &&& 255, v >>> (16 &&& 31) &&& 255, v >>> (8 &&& 31) &&& 255, v >>> (0 &&& 31) &&& 255] := by
  unfold by4
  simp only [List.map_cons, List.map_nil, byte_and]
theorem append_eq {g : Sg} {v : Int32} {T : Nat} (h : g 31 0 = nn T) (hT : T + 4 ≤ 500) : law_append v g = some (wr (by4 v) T g) := by
  have k0 : T < 500 := by omega
  have k1 : T + 1 < 500 := by omega
  have k2 : T + 2 < 500 := by omega
  have k3 : T + 3 < 500 := by omega
  have l0 : ¬ 500 ≤ T := by omega
  have l1 : ¬ 500 ≤ T + 1 := by omega
  have l2 : ¬ 500 ≤ T + 2 := by omega
  have l3 : ¬ 500 ≤ T + 3 := by omega
  have w1 : ∀ (g : Sg) (T : Nat) (b : Int32), app1 g T b 31 0 = nn (T + 1) := fun g T b => rfl
  have st : ∀ (g : Sg) (T : Nat) (b : Int32) (K : Sg → Option Sg) (r : Option Sg), g 31 0 = nn T → T < 500 → K (app1 g T b) = r → (if inb (g 31 0) 500 = true then lt1 (up2 g 32 (Int32.toNatClampNeg (g 31 0)) b) (fun g1 => lt1 (up2 g1 31 0 ((g1 31 0) + 1)) K) else none) = r := by
    intro g T b K r h hT hK
    rw [h]
    refine st_w (by simp (disch := first | omega | decide) only [lt1, nnMl, nnMr, nnAl, nnAr, nnA, nnM, nnB, nnT, nnP, nnE, nnEl, nnEr, nnL, nnLl, nnLr, nnQ, nnQr, nnN, Nat.add_zero, if_false, if_true, Option.bind_some, not_true, not_false_iff, not_true_eq_false, not_false_eq_true, eq_self, Nat.not_lt_zero, z10, z01, or_true, true_or, or_false, false_or, true_and, false_and, hT]) (st_l ?_)
    rw [nnT (by omega), show up2 g 32 T b 31 0 = g 31 0 by simp (disch := first | omega | decide) only [u2e, u2n, up1_eq, up1_ne, ne_eq], h]
    rw [show nn T + 1 = nn (T + 1) from nnA T 1]
    exact hK
  unfold law_append
  refine st_f (by rw [h]; simp (disch := first | omega | decide) only [lt1, nnMl, nnMr, nnAl, nnAr, nnA, nnM, nnB, nnT, nnP, nnE, nnEl, nnEr, nnL, nnLl, nnLr, nnQ, nnQr, nnN, Nat.add_zero, if_false, if_true, Option.bind_some, not_true, not_false_iff, not_true_eq_false, not_false_eq_true, eq_self, Nat.not_lt_zero, z10, z01, or_true, true_or, or_false, false_or, true_and, false_and, l0]) (st _ T _ _ _ h k0 ?_)
  refine st_f (by rw [w1]; simp (disch := first | omega | decide) only [lt1, nnMl, nnMr, nnAl, nnAr, nnA, nnM, nnB, nnT, nnP, nnE, nnEl, nnEr, nnL, nnLl, nnLr, nnQ, nnQr, nnN, Nat.add_zero, if_false, if_true, Option.bind_some, not_true, not_false_iff, not_true_eq_false, not_false_eq_true, eq_self, Nat.not_lt_zero, z10, z01, or_true, true_or, or_false, false_or, true_and, false_and, l1]) (st _ (T + 1) _ _ _ (w1 _ _ _) k1 ?_)
  refine st_f (by rw [w1]; simp (disch := first | omega | decide) only [lt1, nnMl, nnMr, nnAl, nnAr, nnA, nnM, nnB, nnT, nnP, nnE, nnEl, nnEr, nnL, nnLl, nnLr, nnQ, nnQr, nnN, Nat.add_zero, if_false, if_true, Option.bind_some, not_true, not_false_iff, not_true_eq_false, not_false_eq_true, eq_self, Nat.not_lt_zero, z10, z01, or_true, true_or, or_false, false_or, true_and, false_and, l2]) (st _ (T + 2) _ _ _ (w1 _ _ _) k2 ?_)
  exact st_f (by rw [w1]; simp (disch := first | omega | decide) only [lt1, nnMl, nnMr, nnAl, nnAr, nnA, nnM, nnB, nnT, nnP, nnE, nnEl, nnEr, nnL, nnLl, nnLr, nnQ, nnQr, nnN, Nat.add_zero, if_false, if_true, Option.bind_some, not_true, not_false_iff, not_true_eq_false, not_false_eq_true, eq_self, Nat.not_lt_zero, z10, z01, or_true, true_or, or_false, false_or, true_and, false_and, l3]) (st _ (T + 3) _ _ _ (w1 _ _ _) k3 rfl)
theorem feed_st {g : Sg} {T : Nat} {b : Int32} {K : Sg → Option (Int32 × Sg)} {r : Option (Int32 × Sg)} (h : g 216 7 = nn T) (hT : T < 500) (hK : K (appM g T b) = r) : (if inb (4590 + (g 216 7)) 20360 = true then lt1 (up2 g 216 (Int32.toNatClampNeg (4590 + (g 216 7))) b) (fun g1 => lt1 (up2 g1 216 7 ((g1 216 7) + 1)) K) else none) = r := by
  have h1 : 4590 + T < 20360 := by omega
  rw [h]
  refine st_w (by simp (disch := first | omega | decide) only [lt1, nnMl, nnMr, nnAl, nnAr, nnA, nnM, nnB, nnT, nnP, nnE, nnEl, nnEr, nnL, nnLl, nnLr, nnQ, nnQr, nnN, Nat.add_zero, if_false, if_true, Option.bind_some, not_true, not_false_iff, not_true_eq_false, not_false_eq_true, eq_self, Nat.not_lt_zero, z10, z01, or_true, true_or, or_false, false_or, true_and, false_and, h1]) (st_l ?_)
  have e : up2 g 216 (Int32.toNatClampNeg (4590 + nn T)) b = up2 g 216 (4590 + T) b := by simp (disch := first | omega | decide) only [lt1, nnMl, nnMr, nnAl, nnAr, nnA, nnM, nnB, nnT, nnP, nnE, nnEl, nnEr, nnL, nnLl, nnLr, nnQ, nnQr, nnN, Nat.add_zero, if_false, if_true, Option.bind_some, not_true, not_false_iff, not_true_eq_false, not_false_eq_true, eq_self, Nat.not_lt_zero, z10, z01, or_true, true_or, or_false, false_or, true_and, false_and]
  rw [e, show up2 g 216 (4590 + T) b 216 7 = nn T by simp (disch := first | omega | decide) only [u2e, u2n, up1_eq, up1_ne, ne_eq, h], show nn T + 1 = nn (T + 1) from nnA T 1]
  exact hK
theorem appM_7 {g : Sg} {T : Nat} {b : Int32} : appM g T b 216 7 = nn (T + 1) := rfl
theorem feedM {g : Sg} {v1 v2 v3 v4 v5 : Int32} {T : Nat} (h : g 216 7 = nn T) (hT : T + 20 ≤ 500) : m_feed v1 v2 v3 v4 v5 g = some (nn (T + 20), wrM ((by4 v1 ++ by4 v2 ++ by4 v3 ++ by4 v4 ++ by4 v5).map (fun b => b &&& 255)) T g) := by
  rw [List.map_append, List.map_append, List.map_append, List.map_append, by4_m, by4_m, by4_m, by4_m, by4_m]
  unfold m_feed
  refine st_t (by rw [h]; simp (disch := first | omega | decide) only [lt1, nnMl, nnMr, nnAl, nnAr, nnA, nnM, nnB, nnT, nnP, nnE, nnEl, nnEr, nnL, nnLl, nnLr, nnQ, nnQr, nnN, Nat.add_zero, if_false, if_true, Option.bind_some, not_true, not_false_iff, not_true_eq_false, not_false_eq_true, eq_self, Nat.not_lt_zero, z10, z01, or_true, true_or, or_false, false_or, true_and, false_and, hT]) ?_
  unfold m_feed_74
  refine feed_st (T := T) h (by omega) ?_
  unfold m_feed_74_2
  refine feed_st (T := T + 1) appM_7 (by omega) ?_
  unfold m_feed_74_3
  refine feed_st (T := T + 2) appM_7 (by omega) ?_
  unfold m_feed_74_4
  refine feed_st (T := T + 3) appM_7 (by omega) ?_
  unfold m_feed_74_5
  refine feed_st (T := T + 4) appM_7 (by omega) ?_
  unfold m_feed_74_6
  refine feed_st (T := T + 5) appM_7 (by omega) ?_
  unfold m_feed_74_7
  refine feed_st (T := T + 6) appM_7 (by omega) ?_
  unfold m_feed_74_8
  refine feed_st (T := T + 7) appM_7 (by omega) ?_
  unfold m_feed_74_9
  refine feed_st (T := T + 8) appM_7 (by omega) ?_
  unfold m_feed_74_10
  refine feed_st (T := T + 9) appM_7 (by omega) ?_
  unfold m_feed_74_11
  refine feed_st (T := T + 10) appM_7 (by omega) ?_
  unfold m_feed_74_12
  refine feed_st (T := T + 11) appM_7 (by omega) ?_
  unfold m_feed_74_13
  refine feed_st (T := T + 12) appM_7 (by omega) ?_
  unfold m_feed_74_14
  refine feed_st (T := T + 13) appM_7 (by omega) ?_
  unfold m_feed_74_15
  refine feed_st (T := T + 14) appM_7 (by omega) ?_
  unfold m_feed_74_16
  refine feed_st (T := T + 15) appM_7 (by omega) ?_
  unfold m_feed_74_17
  refine feed_st (T := T + 16) appM_7 (by omega) ?_
  unfold m_feed_74_18
  refine feed_st (T := T + 17) appM_7 (by omega) ?_
  unfold m_feed_74_19
  refine feed_st (T := T + 18) appM_7 (by omega) ?_
  unfold m_feed_74_20
  refine feed_st (T := T + 19) appM_7 (by omega) ?_
  rfl
section SJ
theorem sim_feed {TS : Sg → Prop} (hT : TSf TS) : Sim_feed (RR TS) := by
  intro v1 v2 v3 v4 v5 g hR
  obtain ⟨N, C, Q, D, T, L, G, h⟩ := hR.now
  by_cases hr : T + 20 ≤ 500
  · have hb : ∀ b, b ∈ by4 v1 ++ by4 v2 ++ by4 v3 ++ by4 v4 ++ by4 v5 → ∃ i : Int8, b = i.toInt32 := by
      intro b hb
      simp only [List.mem_append] at hb
      rcases hb with (((hb | hb) | hb) | hb) | hb <;> exact by4_b _ b hb
    have hl := RLaw.wrU (by4 v1 ++ by4 v2 ++ by4 v3 ++ by4 v4 ++ by4 v5) T g (g 216) h.law hr hb
    have E : ∀ c, c ≠ 31 → c ≠ 32 → c ≠ 216 → wrM ((by4 v1 ++ by4 v2 ++ by4 v3 ++ by4 v4 ++ by4 v5).map (fun b => b &&& 255)) T (wr (by4 v1 ++ by4 v2 ++ by4 v3 ++ by4 v4 ++ by4 v5) T g) c = g c := fun c e1 e2 e3 => by
      rw [wrM_fr e3, wr_fr e1 e2]
    have E2 : ∀ c, c ≠ 216 → wrM ((by4 v1 ++ by4 v2 ++ by4 v3 ++ by4 v4 ++ by4 v5).map (fun b => b &&& 255)) T (wr (by4 v1 ++ by4 v2 ++ by4 v3 ++ by4 v4 ++ by4 v5) T g) c = wr (by4 v1 ++ by4 v2 ++ by4 v3 ++ by4 v4 ++ by4 v5) T g c := fun c e3 => wrM_fr e3 _ _ _
    have E3 : wrM ((by4 v1 ++ by4 v2 ++ by4 v3 ++ by4 v4 ++ by4 v5).map (fun b => b &&& 255)) T (wr (by4 v1 ++ by4 v2 ++ by4 v3 ++ by4 v4 ++ by4 v5) T g) 216 = wrA ((by4 v1 ++ by4 v2 ++ by4 v3 ++ by4 v4 ++ by4 v5).map (fun b => b &&& 255)) T (g 216) := by
      rw [wrM_a, wr_fr (by decide) (by decide)]
    have E4 : ∀ j, j ≠ 7 → (j < 4590 ∨ 5090 ≤ j) → wrM ((by4 v1 ++ by4 v2 ++ by4 v3 ++ by4 v4 ++ by4 v5).map (fun b => b &&& 255)) T (wr (by4 v1 ++ by4 v2 ++ by4 v3 ++ by4 v4 ++ by4 v5) T g) 216 j = g 216 j := fun j e1 e2 => by
      rw [E3]
      exact wrA_fr e1 e2 _ _ _ (by rw [List.length_map]; exact hr)
    refine ⟨0, 0, nn (T + 20), wr (by4 v1 ++ by4 v2 ++ by4 v3 ++ by4 v4 ++ by4 v5) T g, _, ?_, feedM (by rw [wr_fr (by decide) (by decide)]; exact h.law.aT) hr, ?_⟩
    · unfold x_feed law_hasRoomFor
      rw [h.law.cT]
      have hr2 : ¬ 500 < T + 20 := by omega
      refine st_b (x := 1) (st_f (by simp (disch := first | omega | decide) only [lt1, nnMl, nnMr, nnAl, nnAr, nnA, nnM, nnB, nnT, nnP, nnE, nnEl, nnEr, nnL, nnLl, nnLr, nnQ, nnQr, nnN, Nat.add_zero, if_false, if_true, Option.bind_some, not_true, not_false_iff, not_true_eq_false, not_false_eq_true, eq_self, Nat.not_lt_zero, z10, z01, or_true, true_or, or_false, false_or, true_and, false_and, hr2]) rfl) (st_t (by decide) ?_)
      refine st_b (append_eq (T := T) h.law.cT (by omega)) ?_
      refine st_b (append_eq (T := T + 4) rfl (by omega)) ?_
      refine st_b (append_eq (T := T + 8) rfl (by omega)) ?_
      refine st_b (append_eq (T := T + 12) rfl (by omega)) ?_
      refine st_b (append_eq (T := T + 16) rfl (by omega)) ?_
      rfl
    · refine RR.put hT hR ⟨N, C, Q, D, T + 20, L, G, RTn.mk ?_ ?_ ?_ ?_⟩ ?_ ?_ ?_ ?_
      · exact h.net.fr (fun i e1 e2 => E i (by omega) (by omega) (by omega)) (fun j hj => E4 j (by unfold iNet at hj; omega) (by unfold iNet at hj; omega))
      · exact h.rig.fr (fun i e1 e2 => E i (by omega) (by omega) (by omega)) (fun j hj => E4 j (by unfold iRig at hj; omega) (by unfold iRig at hj; omega))
      · rw [E3]
        exact hl.fr (fun i e1 e2 => E2 i (by omega)) (fun j hj => rfl)
      · exact h.gau.fr (fun i e1 e2 => E i (by omega) (by omega) (by omega)) (fun j hj => E4 j (by unfold iGau at hj; omega) (by unfold iGau at hj; omega))
      · exact fun i e1 e2 => E i (by omega) (by omega) (by omega)
      · exact fun j e1 => E4 j (by omega) (by omega)
      · exact E 217 (by omega) (by omega) (by omega)
      · exact fun i e1 e2 => E i (by omega) (by omega) (by omega)
  · have hT5 := h.law.hT
    have hr2 : 500 < T + 20 := by omega
    refine ⟨0, 0, -1, g, g, ?_, ?_, hR⟩
    · unfold x_feed law_hasRoomFor
      rw [h.law.cT]
      exact st_b (x := 0) (st_t (by simp (disch := first | omega | decide) only [lt1, nnMl, nnMr, nnAl, nnAr, nnA, nnM, nnB, nnT, nnP, nnE, nnEl, nnEr, nnL, nnLl, nnLr, nnQ, nnQr, nnN, Nat.add_zero, if_false, if_true, Option.bind_some, not_true, not_false_iff, not_true_eq_false, not_false_eq_true, eq_self, Nat.not_lt_zero, z10, z01, or_true, true_or, or_false, false_or, true_and, false_and, hr2]) rfl) (st_f (by decide) rfl)
    · unfold m_feed
      rw [h.law.aT]
      exact st_f (by simp (disch := first | omega | decide) only [lt1, nnMl, nnMr, nnAl, nnAr, nnA, nnM, nnB, nnT, nnP, nnE, nnEl, nnEr, nnL, nnLl, nnLr, nnQ, nnQr, nnN, Nat.add_zero, if_false, if_true, Option.bind_some, not_true, not_false_iff, not_true_eq_false, not_false_eq_true, eq_self, Nat.not_lt_zero, z10, z01, or_true, true_or, or_false, false_or, true_and, false_and, hr]) rfl
end SJ
