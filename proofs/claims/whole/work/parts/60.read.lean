/-! the statute: steps of the reader, faults -/
def FIN (F len : Nat) (c r : Sg) (p : Nat) : Prop := ∀ n v, v ≤ p → len + 1 ≤ n + v → reader_read_38 F n (nn len) (nn v) c = some r
theorem fin_ok {F len p e k : Nat} {c c1 c2 r : Sg} (hp : p ≤ len) (hl : len ≤ 500) (he : p < e) (h1 : reader_nextToken F (nn len) c = some c1) (hk : c1 191 6 = nn k) (hk2 : k ≤ 19) (hz : k ≠ 19 ∨ c1 191 3 ≠ 0) (hg : reader_goesOn c1 = some (1, c2)) (hr : FIN F len c2 r e) : FIN F len c r p := by
  intro n v hv hn
  obtain ⟨n, rfl⟩ : ∃ m, n = m + 1 := ⟨n - 1, by omega⟩
  have h67 : reader_read_67 (fun v3 v4 g0 => reader_read_38 F n v3 v4 g0) (nn len) (nn v) c1 = some r := by
    unfold reader_read_67
    refine st_b hg (st_t (by decide) ?_)
    show reader_read_38 F n (nn len) (nn v + 1) c2 = some r
    rw [show nn v + 1 = nn (v + 1) from nnA v 1]
    exact hr n (v + 1) (by omega) (by omega)
  rw [reader_read_38]
  refine st_f (by rw [nnL (by omega) (by omega)]; omega) (st_b h1 ?_)
  by_cases z : c1 191 6 = 19
  · refine st_f (fun y => y z) (st_t (hz.resolve_left (fun y => y ?_)) h67)
    rw [hk, nrQ (b := 19) 19 rfl (by omega) (by decide)] at z
    exact z
  · exact st_t z h67
theorem fin_bad {F len p k : Nat} {c c1 c2 : Sg} (hp : p ≤ len) (hl : len ≤ 500) (h1 : reader_nextToken F (nn len) c = some c1) (hk : c1 191 6 = nn k) (hk2 : k ≤ 19) (hz : k ≠ 19 ∨ c1 191 3 ≠ 0) (hg : reader_goesOn c1 = some (0, c2)) : FIN F len c (up2 (up2 c2 191 1 1) 191 2 (c2 191 5)) p := by
  intro n v hv hn
  obtain ⟨n, rfl⟩ : ∃ m, n = m + 1 := ⟨n - 1, by omega⟩
  have h67 : reader_read_67 (fun v3 v4 g0 => reader_read_38 F n v3 v4 g0) (nn len) (nn v) c1 = some (up2 (up2 c2 191 1 1) 191 2 (c2 191 5)) := by
    unfold reader_read_67
    refine st_b hg (st_f (fun y => y rfl) (st_l (st_l ?_)))
    rw [up_n (show 5 ≠ 1 by decide)]
  rw [reader_read_38]
  refine st_f (by rw [nnL (by omega) (by omega)]; omega) (st_b h1 ?_)
  by_cases z : c1 191 6 = 19
  · refine st_f (fun y => y z) (st_t (hz.resolve_left (fun y => y ?_)) h67)
    rw [hk, nrQ (b := 19) 19 rfl (by omega) (by decide)] at z
    exact z
  · exact st_t z h67
theorem fin_end {F len p : Nat} {c c1 : Sg} (hp : p ≤ len) (hl : len ≤ 500) (h1 : reader_nextToken F (nn len) c = some c1) (hk : c1 191 6 = 19) (h3 : c1 191 3 = 0) : FIN F len c c1 p := by
  intro n v hv hn
  obtain ⟨n, rfl⟩ : ∃ m, n = m + 1 := ⟨n - 1, by omega⟩
  rw [reader_read_38]
  exact st_f (by rw [nnL (by omega) (by omega)]; omega) (st_b h1 (st_f (fun y => y hk) (st_f (fun y => y h3) rfl)))
theorem bnd01 {x : Int32} {d : Sg} {o : Option (Int32 × Sg)} (h : o = some (x, d)) (hx : x = 0 ∨ x = 1) : Option.bind o (fun (x1, g2) => (if x1 = 0 ∨ x1 = 1 then (some (x1, g2)) else none)) = some (x, d) := st_b h (st_t hx rfl)
theorem go0 {c d : Sg} {x : Int32} (h : c 191 3 = 0) (hf : reader_beginLine c = some (x, d)) (hx : x = 0 ∨ x = 1) : reader_goesOn c = some (x, d) := by
  unfold reader_goesOn
  refine st_l ?_
  rw [h]
  exact st_t rfl (bnd01 hf hx)
theorem go1 {c d : Sg} {x : Int32} (h : c 191 3 = 1) (hf : reader_beginTest c = some (x, d)) (hx : x = 0 ∨ x = 1) : reader_goesOn c = some (x, d) := by
  unfold reader_goesOn
  refine st_l ?_
  rw [h]
  exact st_f (by decide) (st_t rfl (bnd01 hf hx))
theorem go2 {c d : Sg} {x : Int32} (h : c 191 3 = 2) (hf : reader_takeFact c = some (x, d)) (hx : x = 0 ∨ x = 1) : reader_goesOn c = some (x, d) := by
  unfold reader_goesOn
  refine st_l ?_
  rw [h]
  exact st_f (by decide) (st_f (by decide) (st_t rfl (bnd01 hf hx)))
theorem go3 {c d : Sg} {x : Int32} (h : c 191 3 = 3) (hf : reader_takeSign c = some (x, d)) (hx : x = 0 ∨ x = 1) : reader_goesOn c = some (x, d) := by
  unfold reader_goesOn
  refine st_l ?_
  rw [h]
  exact st_f (by decide) (st_f (by decide) (st_f (by decide) (st_t rfl (bnd01 hf hx))))
theorem go4 {c d : Sg} {x : Int32} (h : c 191 3 = 4) (hf : reader_takeLimit c = some (x, d)) (hx : x = 0 ∨ x = 1) : reader_goesOn c = some (x, d) := by
  unfold reader_goesOn
  refine st_l ?_
  rw [h]
  exact st_f (by decide) (st_f (by decide) (st_f (by decide) (st_f (by decide) (st_t rfl (bnd01 hf hx)))))
theorem go5 {c d : Sg} {x : Int32} (h : c 191 3 = 5) (hf : reader_takeAnd c = some (x, d)) (hx : x = 0 ∨ x = 1) : reader_goesOn c = some (x, d) := by
  unfold reader_goesOn
  refine st_l ?_
  rw [h]
  exact st_f (by decide) (st_f (by decide) (st_f (by decide) (st_f (by decide) (st_f (by decide) (st_t rfl (bnd01 hf hx))))))
theorem go6 {c d : Sg} {x : Int32} (h : c 191 3 = 6) (hf : reader_takeAct c = some (x, d)) (hx : x = 0 ∨ x = 1) : reader_goesOn c = some (x, d) := by
  unfold reader_goesOn
  refine st_l ?_
  rw [h]
  exact st_f (by decide) (st_f (by decide) (st_f (by decide) (st_f (by decide) (st_f (by decide) (st_f (by decide) (st_t rfl (bnd01 hf hx)))))))
theorem go7 {c d : Sg} {x : Int32} (h : c 191 3 = 7) (hf : reader_takeActNumber c = some (x, d)) (hx : x = 0 ∨ x = 1) : reader_goesOn c = some (x, d) := by
  unfold reader_goesOn
  refine st_l ?_
  rw [h]
  exact st_f (by decide) (st_f (by decide) (st_f (by decide) (st_f (by decide) (st_f (by decide) (st_f (by decide) (st_f (by decide) (st_t rfl (bnd01 hf hx))))))))
theorem go8 {c : Sg} (h : c 191 3 = 8) : reader_goesOn c = some (if c 191 6 = 14 then 1 else 0, up2 c 191 3 0) := by
  unfold reader_goesOn
  refine st_l ?_
  rw [h]
  refine st_f (by decide) (st_f (by decide) (st_f (by decide) (st_f (by decide) (st_f (by decide) (st_f (by decide) (st_f (by decide) (st_f (by decide) (st_l ?_))))))))
  rw [up_n (show 6 ≠ 3 by decide)]
  by_cases z : c 191 6 = 14
  · exact st_f (fun y => y z) (by rw [if_pos z])
  · exact st_t z (by rw [if_neg z])
def ntC (K : Int32) (d : Sg) : Sg := if d 191 1 = 0 then up2 (up2 d 191 1 K) 191 2 (d 191 5) else d
def ntM (K P : Int32) (M : Sg) : Sg := if M 216 8 = 0 then up2 (up2 M 216 8 K) 216 9 P else M
theorem ntC_e (K : Int32) (d : Sg) : reader_noteFault K d = some (ntC K d) := by
  unfold reader_noteFault ntC
  by_cases z : d 191 1 = 0
  · rw [if_pos z]
    refine st_f (fun y => y z) (st_l (st_l ?_))
    rw [up_n (show 5 ≠ 1 by decide)]
  · rw [if_neg z]
    exact st_t z rfl
theorem ntM_e (K P : Int32) {M : Sg} (h : M 215 10 = 0) : m_also K P M = some (ntM K P M) := by
  unfold m_also ntM
  refine st_f (fun y => y h) ?_
  by_cases z : M 216 8 = 0
  · rw [if_pos z, if_pos z]
    rfl
  · rw [if_neg z, if_neg z]
theorem dd_stops {M : Sg} (h : M 215 10 ≠ 0) : m_stops M = some M := by
  unfold m_stops
  exact st_f h rfl
theorem dd_also {M : Sg} {K P : Int32} (h : M 215 10 ≠ 0) : m_also K P M = some M := by
  unfold m_also
  exact st_t h rfl
theorem dd_must {M : Sg} {F : Nat} {v : Int32} (h : M 215 10 ≠ 0) : m_must F v M = some M := by
  unfold m_must
  exact st_t h (st_b (dd_stops h) rfl)
theorem dd_takes {M : Sg} {F : Nat} {v : Int32} (h : M 215 10 ≠ 0) : m_takes F v M = some (0, M) := by
  unfold m_takes
  exact st_t h rfl
theorem dd_num {M : Sg} {F : Nat} (h : M 215 10 ≠ 0) : m_numbered F M = some (M 215 7, M) := by
  unfold m_numbered
  exact st_l (st_t h (st_b (dd_stops h) rfl))
theorem dd_107 {M : Sg} {F : Nat} {v : Int32} (h : M 215 10 ≠ 0) : m_aLine_107 F v M = some M := by
  unfold m_aLine_107
  exact st_t h (st_b (dd_stops h) rfl)
def stp (M : Sg) : Sg := up2 (up2 (up2 M 215 10 1) 216 8 1) 216 9 (M 215 5)
theorem stp_e {M : Sg} (h : M 215 10 = 0) : m_stops M = some (stp M) := by
  unfold m_stops stp
  refine st_t h (st_l (st_l (st_l ?_)))
  rw [u2n (show 215 ≠ 216 by decide), up_n (show 5 ≠ 10 by decide)]
def puM (L v : Nat) (x : Int32) (M : Sg) : Sg := if L < 16 then up2 M 219 (20 * L + v) x else M
theorem puM_e {M : Sg} {L v : Nat} {x : Int32} (h : M 215 11 = nn L) (hL : L ≤ 1000) (hv : v < 20) : m_puts (nn v) x M = some (puM L v x M) := by
  unfold m_puts puM
  rw [h]
  by_cases z : L < 16
  · rw [if_pos z]
    refine st_f (by rw [nlE (a := 16) 16 rfl (by decide) (by omega)]; omega) ?_
    rw [show 20 * nn L + nn v = nn (20 * L + v) from (congrArg (· + nn v) (nnM 20 L)).trans (nnA _ _), nnT (by omega)]
    exact st_t (by rw [nnB (by omega)]; omega) rfl
  · rw [if_neg z]
    exact st_t (by rw [nlE (a := 16) 16 rfl (by decide) (by omega)]; omega) rfl
/-- what the reader may change -/
def KC (c c2 : Sg) : Prop := ∀ i, (i < 191 ∨ 199 < i) → c2 i = c i
def KM (M M2 : Sg) : Prop := (∀ i, i ≠ 215 → i ≠ 216 → i ≠ 219 → i ≠ 220 → M2 i = M i) ∧ (∀ j, j ≠ 8 → j ≠ 9 → M2 216 j = M 216 j) ∧ M2 215 3 = M 215 3
theorem KC.r {c : Sg} : KC c c := fun _ _ => rfl
theorem KC.t {c c2 c3 : Sg} (h : KC c c2) (h2 : KC c2 c3) : KC c c3 := fun i a => (h2 i a).trans (h i a)
theorem KC.w {c : Sg} {a i : Nat} {v : Int32} (h : 191 ≤ a ∧ a ≤ 199) : KC c (up2 c a i v) := fun j z => u2n (by omega)
theorem StC.k {c c2 : Sg} (h : StC c c2) : KC c c2 := fun i a => h.1 i (by omega)
theorem KM.r {c : Sg} : KM c c := ⟨fun _ _ _ _ _ => rfl, fun _ _ _ => rfl, rfl⟩
theorem KM.t {c c2 c3 : Sg} (h : KM c c2) (h2 : KM c2 c3) : KM c c3 := ⟨fun i a b d e => (h2.1 i a b d e).trans (h.1 i a b d e), fun j a b => (h2.2.1 j a b).trans (h.2.1 j a b), h2.2.2.trans h.2.2⟩
theorem KM.w5 {c : Sg} {i : Nat} {v : Int32} (h : i ≠ 3) : KM c (up2 c 215 i v) := ⟨fun j a b d e => u2n a, fun j a b => by rw [u2n (by decide)], up_n (Ne.symm h)⟩
theorem KM.w6 {c : Sg} {i : Nat} {v : Int32} (h : i = 8 ∨ i = 9) : KM c (up2 c 216 i v) := ⟨fun j a b d e => u2n b, fun j a b => by rw [up_n (by omega)], by rw [u2n (by decide)]⟩
theorem KM.w9 {c : Sg} {i : Nat} {v : Int32} : KM c (up2 c 219 i v) := ⟨fun j a b d e => u2n d, fun j a b => by rw [u2n (by decide)], by rw [u2n (by decide)]⟩
theorem KM.w20 {c : Sg} {i : Nat} {v : Int32} : KM c (up2 c 220 i v) := ⟨fun j a b d e => u2n e, fun j a b => by rw [u2n (by decide)], by rw [u2n (by decide)]⟩
theorem StM.k {c c2 : Sg} (h : StM c c2) : KM c c2 := ⟨fun i a b d e => h.1 i a, fun j a b => by rw [h.1 216 (by decide)], h.2 3 (by decide)⟩
theorem KM.stp {M : Sg} : KM M (stp M) := ((KM.w5 (by decide)).t (KM.w6 (by decide))).t (KM.w6 (by decide))
theorem KM.pu {M : Sg} {L v : Nat} {x : Int32} : KM M (puM L v x M) := by
  unfold puM
  by_cases z : L < 16
  · rw [if_pos z]; exact KM.w9
  · rw [if_neg z]; exact KM.r
theorem KM.nt {M : Sg} {K P : Int32} : KM M (ntM K P M) := by
  unfold ntM
  by_cases z : M 216 8 = 0
  · rw [if_pos z]; exact (KM.w6 (by decide)).t (KM.w6 (by decide))
  · rw [if_neg z]; exact KM.r
theorem MB.km {M M2 : Sg} {b : Nat → Int32} {len : Nat} (h : MB M b len) (h2 : KM M M2) : MB M2 b len := ⟨h2.2.2.trans h.1, fun i hi => by rw [h2.2.1 _ (by omega) (by omega)]; exact h.2 i hi⟩
/-- between two lines, and within a line -/
def LNs (c M : Sg) (L : Nat) : Prop := ∀ i, i < L → tLine (c 193) (c 194) (c 195) (c 196) (c 197) (c 198) (c 199) i (M 219) (20 * i)
def BLt (c M : Sg) (L : Nat) : Prop := c 192 0 = nn (min L 16) ∧ M 215 11 = nn L ∧ M 215 10 = 0 ∧ c 191 1 = M 216 8 ∧ c 191 2 = M 216 9 ∧ (c 191 1 = 0 → L ≤ 16 ∧ LNs c M L)
def ILt (c M : Sg) (L v : Nat) : Prop := c 192 0 = nn (min (L + 1) 16) ∧ M 215 11 = nn L ∧ M 215 10 = 0 ∧ c 191 1 = M 216 8 ∧ c 191 2 = M 216 9 ∧ (c 191 1 = 0 → L < 16 ∧ v ≤ 4 ∧ c 195 L = nn v ∧ LNs c M L ∧ ∀ t, t < v → tTest (c 196 (4 * L + t)) (c 197 (4 * L + t)) (c 198 (4 * L + t)) (c 199 (4 * L + t)) (M 219) (20 * L + 1 + 4 * t))
theorem ILt.cg {c c2 M M2 : Sg} {L v : Nat} (h : ILt c M L v) (h1 : c2 191 1 = c 191 1) (h2 : c2 191 2 = c 191 2) (hc : ∀ i, 192 ≤ i → i ≤ 199 → c2 i = c i) (m1 : M2 215 10 = M 215 10) (m2 : M2 215 11 = M 215 11) (m3 : M2 216 = M 216) (m4 : M2 219 = M 219) : ILt c2 M2 L v := by
  unfold ILt LNs at *
  rw [h1, h2, hc 192 (by decide) (by decide), hc 193 (by decide) (by decide), hc 194 (by decide) (by decide), hc 195 (by decide) (by decide), hc 196 (by decide) (by decide), hc 197 (by decide) (by decide), hc 198 (by decide) (by decide), hc 199 (by decide) (by decide), m1, m2, m3, m4]
  exact h
theorem BLt.cg {c c2 M M2 : Sg} {L : Nat} (h : BLt c M L) (h1 : c2 191 1 = c 191 1) (h2 : c2 191 2 = c 191 2) (hc : ∀ i, 192 ≤ i → i ≤ 199 → c2 i = c i) (m1 : M2 215 10 = M 215 10) (m2 : M2 215 11 = M 215 11) (m3 : M2 216 = M 216) (m4 : M2 219 = M 219) : BLt c2 M2 L := by
  unfold BLt LNs at *
  rw [h1, h2, hc 192 (by decide) (by decide), hc 193 (by decide) (by decide), hc 194 (by decide) (by decide), hc 195 (by decide) (by decide), hc 196 (by decide) (by decide), hc 197 (by decide) (by decide), hc 198 (by decide) (by decide), hc 199 (by decide) (by decide), m1, m2, m3, m4]
  exact h
theorem ILt.nt {c M : Sg} {L v v2 s : Nat} {K : Int32} (h : ILt c M L v) (h5 : c 191 5 = nn s) (hK : K ≠ 0) : ILt (ntC K c) (ntM K (nn s) M) L v2 ∧ (ntC K c) 191 1 ≠ 0 := by
  obtain ⟨a1, a2, a3, a4, a5, a6⟩ := h
  unfold ntC ntM
  by_cases z : c 191 1 = 0
  · rw [if_pos z, if_pos (a4.symm.trans z)]
    have e1 : (up2 (up2 c 191 1 K) 191 2 (c 191 5)) 191 1 = K := by rw [up_n (by decide), up_e]
    have e2 : (up2 (up2 M 216 8 K) 216 9 (nn s)) 216 8 = K := by rw [up_n (by decide), up_e]
    refine ⟨⟨?_, ?_, ?_, e1.trans e2.symm, ?_, fun y => absurd (e1.symm.trans y) hK⟩, fun y => hK (e1.symm.trans y)⟩
    · rw [u2n (by decide), u2n (by decide)]; exact a1
    · rw [u2n (by decide), u2n (by decide)]; exact a2
    · rw [u2n (by decide), u2n (by decide)]; exact a3
    · rw [up_e, up_e]; exact h5
  · rw [if_neg z, if_neg (fun y => z (a4.trans y))]
    exact ⟨⟨a1, a2, a3, a4, a5, fun y => absurd y z⟩, z⟩
