/-! the statute: lines -/
theorem cp55L {F L v : Nat} {kk : Int32 → Int32 → Sg → Option Sg} (hL : L ≤ 1000) (hv : v ≤ 3) : ∀ m j n M, j + m = 4 → m < n → M 215 11 = nn L → ∃ M2 : Sg, m_aLine_55 F kk n (nn v) (nn j) M = Option.bind (m_takes F 31 M2) (fun (x1, g2) => kk (nn v + 1) x1 g2) ∧ KM M M2 ∧ (∀ i, i ≠ 219 → M2 i = M i) ∧ (L < 16 → (∀ i, (i < 20 * L + 1 + 4 * v + j ∨ 20 * L + 1 + 4 * v + 4 ≤ i) → M2 219 i = M 219 i) ∧ ∀ i, j ≤ i → i < 4 → M2 219 (20 * L + 1 + 4 * v + i) = M 220 i)
  | 0, j, n, M, h, hn, h11 => by
    obtain ⟨n, rfl⟩ : ∃ k, n = k + 1 := ⟨n - 1, by omega⟩
    refine ⟨M, ?_, KM.r, fun _ _ => rfl, fun _ => ⟨fun _ _ => rfl, fun i a b => absurd a (by omega)⟩⟩
    rw [m_aLine_55]
    exact st_t (by rw [nlE (a := 4) 4 rfl (by decide) (by omega)]; omega) rfl
  | m + 1, j, n, M, h, hn, h11 => by
    obtain ⟨n, rfl⟩ : ∃ k, n = k + 1 := ⟨n - 1, by omega⟩
    have hpu := puM_e (L := L) (v := 1 + 4 * v + j) (x := M 220 j) h11 hL (by omega)
    obtain ⟨M2, e1, e2, e3, e4⟩ := cp55L (F := F) (kk := kk) hL hv m (j + 1) n (puM L (1 + 4 * v + j) (M 220 j) M) (by omega) (by omega) (by rw [puM_i (by decide)]; exact h11)
    refine ⟨M2, ?_, KM.pu.t e2, fun i a => (e3 i a).trans (puM_i a), fun hL2 => ?_⟩
    · rw [m_aLine_55]
      refine st_f (by rw [nlE (a := 4) 4 rfl (by decide) (by omega)]; omega) (st_f (by rw [nlE (a := 4) 4 rfl (by decide) (by omega)]; omega) (st_t (by rw [nnB (by omega)]; omega) ?_))
      rw [show (1 + 4 * nn v) + nn j = nn (1 + 4 * v + j) from (congrArg (fun z => 1 + z + nn j) (nnM 4 v)).trans ((congrArg (· + nn j) (nnA 1 (4 * v))).trans (nnA _ _)), nnT (show j < 2147483648 by omega)]
      refine st_b hpu ?_
      rw [show nn j + 1 = nn (j + 1) from nnA j 1]
      exact e1
    · obtain ⟨f1, f2⟩ := e4 hL2
      have hp219 : (puM L (1 + 4 * v + j) (M 220 j) M) 219 = up1 (M 219) (20 * L + (1 + 4 * v + j)) (M 220 j) := by unfold puM; rw [if_pos hL2, u2e]
      refine ⟨fun i hi => ?_, fun i a b => ?_⟩
      · rw [f1 i (by omega), hp219, up1_ne (by omega)]
      · by_cases y : i = j
        · subst y
          rw [f1 _ (by omega), hp219, show 20 * L + 1 + 4 * v + i = 20 * L + (1 + 4 * v + i) by omega, up1_eq]
        · rw [f2 i (by omega) b, puM_i (by decide)]
theorem cp55 {F L v n : Nat} {kk : Int32 → Int32 → Sg → Option Sg} {M : Sg} (hL : L ≤ 1000) (hv : v ≤ 1000) (hn : 5 ≤ n) (h11 : M 215 11 = nn L) : ∃ M2 : Sg, m_aLine_55 F kk n (nn v) 0 M = Option.bind (m_takes F 31 M2) (fun (x1, g2) => kk (nn (v + 1)) x1 g2) ∧ KM M M2 ∧ (∀ i, i ≠ 219 → M2 i = M i) ∧ (v ≤ 3 → L < 16 → (∀ i, (i < 20 * L + 1 + 4 * v ∨ 20 * L + 1 + 4 * v + 4 ≤ i) → M2 219 i = M 219 i) ∧ ∀ i, i < 4 → M2 219 (20 * L + 1 + 4 * v + i) = M 220 i) := by
  have e1 : nn v + 1 = nn (v + 1) := nnA v 1
  by_cases z : v ≤ 3
  · obtain ⟨M2, a1, a2, a3, a4⟩ := cp55L (F := F) (kk := kk) (L := L) (v := v) hL z 4 0 n M (by omega) (by omega) h11
    rw [e1] at a1
    exact ⟨M2, a1, a2, a3, fun _ y => ⟨fun i hi => (a4 y).1 i (by omega), fun i hi => (a4 y).2 i (by omega) hi⟩⟩
  · obtain ⟨n, rfl⟩ : ∃ k, n = k + 1 := ⟨n - 1, by omega⟩
    refine ⟨M, ?_, KM.r, fun _ _ => rfl, fun y => absurd y z⟩
    rw [m_aLine_55, ← e1]
    exact st_f (by decide) (st_t (by rw [nlE (a := 4) 4 rfl (by decide) (by omega)]; omega) rfl)
theorem IT5.up {c M M2 : Sg} {L v : Nat} (h : IT5 c M L v) (h1 : ∀ i, i ≠ 219 → M2 i = M i) (h2 : v ≤ 3 → L < 16 → (∀ i, (i < 20 * L + 1 + 4 * v ∨ 20 * L + 1 + 4 * v + 4 ≤ i) → M2 219 i = M 219 i) ∧ ∀ i, i < 4 → M2 219 (20 * L + 1 + 4 * v + i) = M 220 i) : ILt c M2 L (v + 1) := by
  obtain ⟨a1, a2, a3, a4, a5, a6⟩ := h
  refine ⟨a1, by rw [h1 215 (by decide)]; exact a2, by rw [h1 215 (by decide)]; exact a3, by rw [h1 216 (by decide)]; exact a4, by rw [h1 216 (by decide)]; exact a5, fun z => ?_⟩
  obtain ⟨f1, f2, f3, f4, f5, f6⟩ := a6 z
  obtain ⟨g1, g2⟩ := h2 (by omega) f1
  refine ⟨f1, by omega, f3, fun i hi => tLine_fr (fun j hj => g1 _ (by omega)) (f4 i hi), fun t ht => ?_⟩
  by_cases y : t = v
  · subst y
    obtain ⟨q1, q2, ⟨w, w1, w2, w3, w4⟩, q4, q5⟩ := f6
    have k0 := g2 0 (by decide)
    have k1 := g2 1 (by decide)
    have k2 := g2 2 (by decide)
    have k3 := g2 3 (by decide)
    exact ⟨q1, k0.trans q2, ⟨w, w1, w2, w3, k1.trans w4⟩, by rw [k2]; exact q4, k3.trans q5⟩
  · obtain ⟨q1, q2, q3, q4, q5⟩ := f5 t (by omega)
    unfold tTest
    rw [g1 (20 * L + 1 + 4 * t) (by omega), g1 (20 * L + 1 + 4 * t + 1) (by omega), g1 (20 * L + 1 + 4 * t + 2) (by omega), g1 (20 * L + 1 + 4 * t + 3) (by omega)]
    exact ⟨q1, q2, q3, q4, q5⟩
