/-! printed by wip/whole/decomp.py -/
def m_again_22 : Nat → Int32 → Int32 → Sg → Option (Int32 × Sg)
  | 0, _, _, _ => none
  | n + 1, v1, v2, g =>
    (if 5090 ≤ v2 then
      (some (1, g))
    else
      (if inb ((5090 * (v1 + 1)) + v2) 20360 = true then (if inb v2 20360 = true then lt1 (up2 g 216 (Int32.toNatClampNeg v2) (g 216 (Int32.toNatClampNeg ((5090 * (v1 + 1)) + v2)))) (fun g1 => (m_again_22 n v1 (v2 + 1) g1)) else none) else none))
def m_again (F : Nat) (v1 : Int32) (g : Sg) : Option (Int32 × Sg) :=
  Option.bind (m_isIn v1 0 2 g) (fun x1 => (if x1 = 0 then
    (some (0, g))
  else
    (if inb v1 3 = true then (if ¬ (g 217 (Int32.toNatClampNeg v1)) = 0 then
      (m_again_22 F v1 0 g)
    else
      (some (0, g))) else none)))
theorem p_m_again_22 {X : Xx} {d : Nat} (hd : 1 ≤ d) : ∀ (n : Nat) (v1 : Int32) (v2 : Int32) (g : Sg), Lt X d (some .boolean) k_230 (fun r : Int32 × Sg => ((some (.int r.1), (SHF, r.2)) : Out)) 22 [some (.ref 215), some (.int v1), some (.int v2)] [] g (m_again_22 n v1 v2 g) := by
  intro n
  induction n with
  | zero => intros; exact L_none
  | succ n ih =>
    intro v1 v2 g
    show Lt X d (some .boolean) k_230 (fun r : Int32 × Sg => ((some (.int r.1), (SHF, r.2)) : Out)) 22 [some (.ref 215), some (.int v1), some (.int v2)] [] g (
      (if 5090 ≤ v2 then
        (some (1, g))
      else
        (if inb ((5090 * (v1 + 1)) + v2) 20360 = true then (if inb v2 20360 = true then lt1 (up2 g 216 (Int32.toNatClampNeg v2) (g 216 (Int32.toNatClampNeg ((5090 * (v1 + 1)) + v2)))) (fun g1 => (m_again_22 n v1 (v2 + 1) g1)) else none) else none)))
    refine L_s (pc' := 23) rfl rfl ?_
    refine L_si (pc' := 26) rfl q3_5090 rfl ?_
    refine L_br (t := 55) (n := 29) rfl rfl (fun _ => ?_) (fun _ => ?_)
    · refine L_ic (pc' := 56) rfl q1_1 rfl ?_
      exact L_ret rfl (ret_z (by decide)) rfl
    · refine L_s (pc' := 30) rfl rfl ?_
      refine L_gf (pc' := 33) rfl fr_215_0 rfl ?_
      refine L_s (pc' := 34) rfl rfl ?_
      refine L_s (pc' := 35) rfl rfl ?_
      refine L_gf (pc' := 38) rfl fr_215_0 rfl ?_
      refine L_si (pc' := 41) rfl q3_5090 rfl ?_
      refine L_s (pc' := 42) rfl rfl ?_
      refine L_ic (pc' := 43) rfl q1_1 rfl ?_
      refine L_s (pc' := 44) rfl rfl ?_
      refine L_s (pc' := 45) rfl rfl ?_
      refine L_s (pc' := 46) rfl rfl ?_
      refine L_s (pc' := 47) rfl rfl ?_
      refine L_rI (pc' := 48) rfl sh_216 (by decide) rfl ?_
      refine L_wI (pc' := 49) rfl sh_216 (by decide) rfl ?_
      refine L_let fun g1 _ => ?_
      refine L_ii (pc' := 52) (L' := [some (.ref 215), some (.int v1), some (.int (v2 + 1))]) rfl rfl q1_1 rfl rfl rfl ?_
      refine L_s (pc' := 22) rfl rfl ?_
      exact ih _ _ _
theorem e_m_again {X : Xx} {d : Nat} (hd : 2 ≤ d) (F : Nat) (v1 : Int32) (g : Sg) : ∀ r, m_again F v1 g = some r → EvM zft mtl X d 230 [.ref 215, .int v1] (SHF, g) ((fun r : Int32 × Sg => ((some (.int r.1), (SHF, r.2)) : Out)) r) := by
  obtain ⟨d, rfl⟩ : ∃ d0, d = d0 + 1 := ⟨d - 1, by omega⟩
  have hd : 1 ≤ d := by omega
  refine E_in (f := (fun r : Int32 × Sg => ((some (.int r.1), (SHF, r.2)) : Out))) rfl (Nat.le_of_ble_eq_true rfl) ?_
  unfold m_again
  change Lt X d (some .boolean) k_230 _ 0 [some (.ref 215), some (.int v1), none] [] g _
  refine L_s (pc' := 1) rfl rfl ?_
  refine L_ic (pc' := 2) rfl q1_0 rfl ?_
  refine L_ic (pc' := 3) rfl q1_2 rfl ?_
  refine L_ci (pc' := 6) (as := [.int v1, .int 0, .int 2]) (rest := []) rfl rfl (e_m_isIn (by omega) _ _ _ _) rfl fun x1 => ?_
  refine L_br (t := 18) (n := 9) rfl rfl (fun _ => ?_) (fun _ => ?_)
  · refine L_ic (pc' := 19) rfl q1_0 rfl ?_
    exact L_ret rfl (ret_z (by decide)) rfl
  · refine L_s (pc' := 10) rfl rfl ?_
    refine L_gf (pc' := 13) rfl fr_215_1 rfl ?_
    refine L_s (pc' := 14) rfl rfl ?_
    refine L_rB (pc' := 15) rfl sh_217 (by decide) (by decide) rfl ?_
    refine L_br (t := 20) (n := 18) rfl rfl (fun _ => ?_) (fun _ => ?_)
    · refine L_ic (pc' := 21) rfl q1_0 rfl ?_
      refine L_s (pc' := 22) (L' := [some (.ref 215), some (.int v1), some (.int 0)]) rfl rfl ?_
      exact p_m_again_22 hd F _ _ _
    · refine L_ic (pc' := 19) rfl q1_0 rfl ?_
      exact L_ret rfl (ret_z (by decide)) rfl
