/-! printed by wip/whole/decomp.py -/
def m_weighs_115 (k_18 : Int32 → Int32 → Int32 → Sg → Option (Sg)) (v1 : Int32) (v2 : Int32) (v3 : Int32) (v4 : Int32) (g : Sg) : Option (Sg) :=
  (if inb (v4 + 17) 20360 = true then (if (g 216 (Int32.toNatClampNeg (v4 + 17))) = 22 then
    lt1 (up2 g 215 18 0) (fun g1 => (some g1))
  else
    (k_18 v1 v2 (v3 + 1) g)) else none)
def m_weighs_86 (k_18 : Int32 → Int32 → Int32 → Sg → Option (Sg)) (v1 : Int32) (v2 : Int32) (v3 : Int32) (v4 : Int32) (g : Sg) : Option (Sg) :=
  (if inb (v4 + 17) 20360 = true then (if ¬ (g 216 (Int32.toNatClampNeg (v4 + 17))) = 21 then
    (m_weighs_115 k_18 v1 v2 v3 v4 g)
  else
    (if inb (v4 + 18) 20360 = true then lt1 (up2 g 215 19 (g 216 (Int32.toNatClampNeg (v4 + 18)))) (fun g1 => (m_weighs_115 k_18 v1 v2 v3 v4 g1)) else none)) else none)
def m_weighs_18 (F : Nat) : Nat → Int32 → Int32 → Int32 → Sg → Option (Sg)
  | 0, _, _, _, _ => none
  | n + 1, v1, v2, v3, g =>
    (if (g 216 4) ≤ v3 then
      (some g)
    else
      lt1 ((4270 + (20 * v3)) : Int32) (fun x1 => Option.bind (m_holds F x1 v1 v2 g) (fun (x2, g3) => (if ¬ x2 = 0 then
        (if inb (x1 + 17) 20360 = true then (if ¬ (g3 216 (Int32.toNatClampNeg (x1 + 17))) = 20 then
          (m_weighs_86 (fun v1 v2 v3 g0 => m_weighs_18 F n v1 v2 v3 g0) v1 v2 v3 x1 g3)
        else
          (if inb (x1 + 18) 20360 = true then lt1 (up2 g3 215 18 ((g3 215 18) + (g3 216 (Int32.toNatClampNeg (x1 + 18))))) (fun g4 => (m_weighs_86 (fun v1 v2 v3 g0 => m_weighs_18 F n v1 v2 v3 g0) v1 v2 v3 x1 g4)) else none)) else none)
      else
        (m_weighs_18 F n v1 v2 (v3 + 1) g3)))))
def m_weighs (F : Nat) (v1 : Int32) (v2 : Int32) (g : Sg) : Option (Sg) :=
  Option.bind (m_counts F v1 v2 g) (fun g1 => lt1 (up2 g1 215 18 0) (fun g2 => lt1 (up2 g2 215 19 0) (fun g3 => (m_weighs_18 F F v1 v2 0 g3))))
theorem p_m_weighs_115 {X : Xx} {d : Nat} {k_18 : Int32 → Int32 → Int32 → Sg → Option (Sg)} (hd : 6 ≤ d) (hk_18 : ∀ (v1 : Int32) (v2 : Int32) (v3 : Int32) (g : Sg), Lt X d none k_212 (fun r : Sg => ((none, (SHF, r)) : Out)) 18 [some (.ref 215), some (.int v1), some (.int v2), some (.int v3), none] [] g (k_18 v1 v2 v3 g)) (v1 : Int32) (v2 : Int32) (v3 : Int32) (v4 : Int32) (g : Sg) : Lt X d none k_212 (fun r : Sg => ((none, (SHF, r)) : Out)) 115 [some (.ref 215), some (.int v1), some (.int v2), some (.int v3), some (.int v4)] [] g (m_weighs_115 k_18 v1 v2 v3 v4 g) := by
  unfold m_weighs_115
  refine L_s (pc' := 116) rfl rfl ?_
  refine L_gf (pc' := 119) rfl fr_215_0 rfl ?_
  refine L_s (pc' := 121) rfl rfl ?_
  refine L_bi (pc' := 123) rfl q2_17 rfl ?_
  refine L_s (pc' := 124) rfl rfl ?_
  refine L_rI (pc' := 125) rfl sh_216 (by decide) rfl ?_
  refine L_bi (pc' := 127) rfl q2_22 rfl ?_
  refine L_br (t := 133) (n := 130) rfl rfl (fun _ => ?_) (fun _ => ?_)
  · refine L_s (pc' := 134) rfl rfl ?_
    refine L_ic (pc' := 135) rfl q1_0 rfl ?_
    refine L_pf (pc' := 138) rfl sh_215 (by decide) rfl rfl ?_
    refine L_let fun g1 _ => ?_
    exact L_ret rfl rfl rfl
  · refine L_s (pc' := 139) rfl rfl ?_
    refine L_ii (pc' := 142) (L' := [some (.ref 215), some (.int v1), some (.int v2), some (.int (v3 + 1)), some (.int v4)]) rfl rfl q1_1 rfl rfl rfl ?_
    refine L_s (pc' := 18) rfl rfl ?_
    refine L_wk (L' := [some (.ref 215), some (.int v1), some (.int v2), some (.int (v3 + 1)), none]) (wk_s (wk_s (wk_s (wk_s (wk_n wk_nil))))) ?_
    exact hk_18 _ _ _ _
theorem p_m_weighs_86 {X : Xx} {d : Nat} {k_18 : Int32 → Int32 → Int32 → Sg → Option (Sg)} (hd : 6 ≤ d) (hk_18 : ∀ (v1 : Int32) (v2 : Int32) (v3 : Int32) (g : Sg), Lt X d none k_212 (fun r : Sg => ((none, (SHF, r)) : Out)) 18 [some (.ref 215), some (.int v1), some (.int v2), some (.int v3), none] [] g (k_18 v1 v2 v3 g)) (v1 : Int32) (v2 : Int32) (v3 : Int32) (v4 : Int32) (g : Sg) : Lt X d none k_212 (fun r : Sg => ((none, (SHF, r)) : Out)) 86 [some (.ref 215), some (.int v1), some (.int v2), some (.int v3), some (.int v4)] [] g (m_weighs_86 k_18 v1 v2 v3 v4 g) := by
  unfold m_weighs_86
  refine L_s (pc' := 87) rfl rfl ?_
  refine L_gf (pc' := 90) rfl fr_215_0 rfl ?_
  refine L_s (pc' := 92) rfl rfl ?_
  refine L_bi (pc' := 94) rfl q2_17 rfl ?_
  refine L_s (pc' := 95) rfl rfl ?_
  refine L_rI (pc' := 96) rfl sh_216 (by decide) rfl ?_
  refine L_bi (pc' := 98) rfl q2_21 rfl ?_
  refine L_br (t := 115) (n := 101) rfl rfl (fun _ => ?_) (fun _ => ?_)
  · exact p_m_weighs_115 hd hk_18 _ _ _ _ _
  · refine L_s (pc' := 102) rfl rfl ?_
    refine L_s (pc' := 103) rfl rfl ?_
    refine L_gf (pc' := 106) rfl fr_215_0 rfl ?_
    refine L_s (pc' := 108) rfl rfl ?_
    refine L_bi (pc' := 110) rfl q2_18 rfl ?_
    refine L_s (pc' := 111) rfl rfl ?_
    refine L_rI (pc' := 112) rfl sh_216 (by decide) rfl ?_
    refine L_pf (pc' := 115) rfl sh_215 (by decide) rfl rfl ?_
    refine L_let fun g1 _ => ?_
    exact p_m_weighs_115 hd hk_18 _ _ _ _ _
theorem p_m_weighs_18 {X : Xx} {d : Nat} (hd : 6 ≤ d) (F : Nat) : ∀ (n : Nat) (v1 : Int32) (v2 : Int32) (v3 : Int32) (g : Sg), Lt X d none k_212 (fun r : Sg => ((none, (SHF, r)) : Out)) 18 [some (.ref 215), some (.int v1), some (.int v2), some (.int v3), none] [] g (m_weighs_18 F n v1 v2 v3 g) := by
  intro n
  induction n with
  | zero => intros; exact L_none
  | succ n ih =>
    intro v1 v2 v3 g
    show Lt X d none k_212 (fun r : Sg => ((none, (SHF, r)) : Out)) 18 [some (.ref 215), some (.int v1), some (.int v2), some (.int v3), none] [] g (
      (if (g 216 4) ≤ v3 then
        (some g)
      else
        lt1 ((4270 + (20 * v3)) : Int32) (fun x1 => Option.bind (m_holds F x1 v1 v2 g) (fun (x2, g3) => (if ¬ x2 = 0 then
          (if inb (x1 + 17) 20360 = true then (if ¬ (g3 216 (Int32.toNatClampNeg (x1 + 17))) = 20 then
            (m_weighs_86 (fun v1 v2 v3 g0 => m_weighs_18 F n v1 v2 v3 g0) v1 v2 v3 x1 g3)
          else
            (if inb (x1 + 18) 20360 = true then lt1 (up2 g3 215 18 ((g3 215 18) + (g3 216 (Int32.toNatClampNeg (x1 + 18))))) (fun g4 => (m_weighs_86 (fun v1 v2 v3 g0 => m_weighs_18 F n v1 v2 v3 g0) v1 v2 v3 x1 g4)) else none)) else none)
        else
          (m_weighs_18 F n v1 v2 (v3 + 1) g3))))))
    refine L_s (pc' := 19) rfl rfl ?_
    refine L_s (pc' := 20) rfl rfl ?_
    refine L_gf (pc' := 23) rfl fr_215_0 rfl ?_
    refine L_ic (pc' := 24) rfl q1_4 rfl ?_
    refine L_rIk (pc' := 25) (j := 4) rfl sh_216 (by decide) (by decide) (by decide) rfl ?_
    refine L_br (t := 145) (n := 28) rfl rfl (fun _ => ?_) (fun _ => ?_)
    · exact L_ret rfl rfl rfl
    · refine L_si (pc' := 31) rfl q3_4270 rfl ?_
      refine L_bi (pc' := 33) rfl q2_20 rfl ?_
      refine L_s (pc' := 34) rfl rfl ?_
      refine L_s (pc' := 35) rfl rfl ?_
      refine L_s (pc' := 36) rfl rfl ?_
      refine L_li fun x1 _ => ?_
      refine L_s (pc' := 38) (L' := [some (.ref 215), some (.int v1), some (.int v2), some (.int v3), some (.int x1)]) rfl rfl ?_
      refine L_s (pc' := 39) rfl rfl ?_
      refine L_s (pc' := 41) rfl rfl ?_
      refine L_s (pc' := 42) rfl rfl ?_
      refine L_s (pc' := 43) rfl rfl ?_
      refine L_cig (pc' := 46) (as := [.ref 215, .int x1, .int v1, .int v2]) (rest := []) rfl rfl (e_m_holds (by omega) F _ _ _ _) rfl fun x2 g3 => ?_
      refine L_br (t := 52) (n := 49) rfl rfl (fun _ => ?_) (fun _ => ?_)
      · refine L_s (pc' := 53) rfl rfl ?_
        refine L_gf (pc' := 56) rfl fr_215_0 rfl ?_
        refine L_s (pc' := 58) rfl rfl ?_
        refine L_bi (pc' := 60) rfl q2_17 rfl ?_
        refine L_s (pc' := 61) rfl rfl ?_
        refine L_rI (pc' := 62) rfl sh_216 (by decide) rfl ?_
        refine L_bi (pc' := 64) rfl q2_20 rfl ?_
        refine L_br (t := 86) (n := 67) rfl rfl (fun _ => ?_) (fun _ => ?_)
        · exact p_m_weighs_86 hd (fun _ _ _ _ => ih _ _ _ _) _ _ _ _ _
        · refine L_s (pc' := 68) rfl rfl ?_
          refine L_s (pc' := 69) rfl rfl ?_
          refine L_gf (pc' := 72) rfl fi_215_18 rfl ?_
          refine L_s (pc' := 73) rfl rfl ?_
          refine L_gf (pc' := 76) rfl fr_215_0 rfl ?_
          refine L_s (pc' := 78) rfl rfl ?_
          refine L_bi (pc' := 80) rfl q2_18 rfl ?_
          refine L_s (pc' := 81) rfl rfl ?_
          refine L_rI (pc' := 82) rfl sh_216 (by decide) rfl ?_
          refine L_s (pc' := 83) rfl rfl ?_
          refine L_pf (pc' := 86) rfl sh_215 (by decide) rfl rfl ?_
          refine L_let fun g4 _ => ?_
          exact p_m_weighs_86 hd (fun _ _ _ _ => ih _ _ _ _) _ _ _ _ _
      · refine L_s (pc' := 139) rfl rfl ?_
        refine L_ii (pc' := 142) (L' := [some (.ref 215), some (.int v1), some (.int v2), some (.int (v3 + 1)), some (.int x1)]) rfl rfl q1_1 rfl rfl rfl ?_
        refine L_s (pc' := 18) rfl rfl ?_
        refine L_wk (L' := [some (.ref 215), some (.int v1), some (.int v2), some (.int (v3 + 1)), none]) (wk_s (wk_s (wk_s (wk_s (wk_n wk_nil))))) ?_
        exact ih _ _ _ _
theorem e_m_weighs {X : Xx} {d : Nat} (hd : 7 ≤ d) (F : Nat) (v1 : Int32) (v2 : Int32) (g : Sg) : ∀ r, m_weighs F v1 v2 g = some r → EvM zft mtl X d 212 [.ref 215, .int v1, .int v2] (SHF, g) ((fun r : Sg => ((none, (SHF, r)) : Out)) r) := by
  obtain ⟨d, rfl⟩ : ∃ d0, d = d0 + 1 := ⟨d - 1, by omega⟩
  have hd : 6 ≤ d := by omega
  refine E_in (f := (fun r : Sg => ((none, (SHF, r)) : Out))) rfl (Nat.le_of_ble_eq_true rfl) ?_
  unfold m_weighs
  change Lt X d none k_212 _ 0 [some (.ref 215), some (.int v1), some (.int v2), none, none] [] g _
  refine L_s (pc' := 1) rfl rfl ?_
  refine L_s (pc' := 2) rfl rfl ?_
  refine L_s (pc' := 3) rfl rfl ?_
  refine L_cv (pc' := 6) (as := [.ref 215, .int v1, .int v2]) (rest := []) rfl rfl (e_m_counts (by omega) F _ _ _) rfl fun g1 => ?_
  refine L_s (pc' := 7) rfl rfl ?_
  refine L_ic (pc' := 8) rfl q1_0 rfl ?_
  refine L_pf (pc' := 11) rfl sh_215 (by decide) rfl rfl ?_
  refine L_let fun g2 _ => ?_
  refine L_s (pc' := 12) rfl rfl ?_
  refine L_ic (pc' := 13) rfl q1_0 rfl ?_
  refine L_pf (pc' := 16) rfl sh_215 (by decide) rfl rfl ?_
  refine L_let fun g3 _ => ?_
  refine L_ic (pc' := 17) rfl q1_0 rfl ?_
  refine L_s (pc' := 18) (L' := [some (.ref 215), some (.int v1), some (.int v2), some (.int 0), none]) rfl rfl ?_
  exact p_m_weighs_18 hd F F _ _ _ _
def m_holder (F : Nat) (v1 : Int32) (v2 : Int32) (v3 : Int32) (g : Sg) : Option (Int32 × Sg) :=
  Option.bind (m_isIn v1 0 7 g) (fun x1 => (if x1 = 0 then
    (some ((-1), g))
  else
    Option.bind (m_isIn v2 0 99 g) (fun x2 => (if ¬ x2 = 0 then
      Option.bind (m_weighs F v1 v2 g) (fun g3 => (if v3 = 0 then
        (some ((g3 215 14), g3))
      else (if v3 = 1 then
        (some ((g3 215 15), g3))
      else (if v3 = 2 then
        (some ((g3 215 18), g3))
      else (if v3 = 3 then
        (some ((g3 215 19), g3))
      else (if v3 = 4 then
        (some (((g3 215 14) - (((g3 215 14) * (g3 215 19)) / 100)), g3))
      else (if v3 = 5 then
        (some ((g3 215 16), g3))
      else (some ((-1), g3)))))))))
    else
      (some ((-1), g))))))
theorem e_m_holder {X : Xx} {d : Nat} (hd : 8 ≤ d) (F : Nat) (v1 : Int32) (v2 : Int32) (v3 : Int32) (g : Sg) : ∀ r, m_holder F v1 v2 v3 g = some r → EvM zft mtl X d 213 [.ref 215, .int v1, .int v2, .int v3] (SHF, g) ((fun r : Int32 × Sg => ((some (.int r.1), (SHF, r.2)) : Out)) r) := by
  obtain ⟨d, rfl⟩ : ∃ d0, d = d0 + 1 := ⟨d - 1, by omega⟩
  have hd : 7 ≤ d := by omega
  refine E_in (f := (fun r : Int32 × Sg => ((some (.int r.1), (SHF, r.2)) : Out))) rfl (Nat.le_of_ble_eq_true rfl) ?_
  unfold m_holder
  change Lt X d (some .int) k_213 _ 0 [some (.ref 215), some (.int v1), some (.int v2), some (.int v3)] [] g _
  refine L_s (pc' := 1) rfl rfl ?_
  refine L_ic (pc' := 2) rfl q1_0 rfl ?_
  refine L_bi (pc' := 4) rfl q2_7 rfl ?_
  refine L_ci (pc' := 7) (as := [.int v1, .int 0, .int 7]) (rest := []) rfl rfl (e_m_isIn (by omega) _ _ _ _) rfl fun x1 => ?_
  refine L_br (t := 20) (n := 10) rfl rfl (fun _ => ?_) (fun _ => ?_)
  · refine L_ic (pc' := 21) rfl q1_m1 rfl ?_
    exact L_ret rfl ret_i rfl
  · refine L_s (pc' := 11) rfl rfl ?_
    refine L_ic (pc' := 12) rfl q1_0 rfl ?_
    refine L_bi (pc' := 14) rfl q2_99 rfl ?_
    refine L_ci (pc' := 17) (as := [.int v2, .int 0, .int 99]) (rest := []) rfl rfl (e_m_isIn (by omega) _ _ _ _) rfl fun x2 => ?_
    refine L_br (t := 22) (n := 20) rfl rfl (fun _ => ?_) (fun _ => ?_)
    · refine L_s (pc' := 23) rfl rfl ?_
      refine L_s (pc' := 24) rfl rfl ?_
      refine L_s (pc' := 25) rfl rfl ?_
      refine L_cv (pc' := 28) (as := [.ref 215, .int v1, .int v2]) (rest := []) rfl rfl (e_m_weighs (by omega) F _ _ _) rfl fun g3 => ?_
      refine L_s (pc' := 29) rfl rfl ?_
      refine L_if (fun h4 => ?_) (fun h4 => ?_)
      · subst h4
        refine L_ts (t := 68) (off := 39) rfl (by decide) rfl ?_
        refine L_s (pc' := 69) rfl rfl ?_
        refine L_gf (pc' := 72) rfl fi_215_14 rfl ?_
        exact L_ret rfl ret_i rfl
      refine L_if (fun h5 => ?_) (fun h5 => ?_)
      · subst h5
        refine L_ts (t := 73) (off := 44) rfl (by decide) rfl ?_
        refine L_s (pc' := 74) rfl rfl ?_
        refine L_gf (pc' := 77) rfl fi_215_15 rfl ?_
        exact L_ret rfl ret_i rfl
      refine L_if (fun h6 => ?_) (fun h6 => ?_)
      · subst h6
        refine L_ts (t := 78) (off := 49) rfl (by decide) rfl ?_
        refine L_s (pc' := 79) rfl rfl ?_
        refine L_gf (pc' := 82) rfl fi_215_18 rfl ?_
        exact L_ret rfl ret_i rfl
      refine L_if (fun h7 => ?_) (fun h7 => ?_)
      · subst h7
        refine L_ts (t := 83) (off := 54) rfl (by decide) rfl ?_
        refine L_s (pc' := 84) rfl rfl ?_
        refine L_gf (pc' := 87) rfl fi_215_19 rfl ?_
        exact L_ret rfl ret_i rfl
      refine L_if (fun h8 => ?_) (fun h8 => ?_)
      · subst h8
        refine L_ts (t := 88) (off := 59) rfl (by decide) rfl ?_
        refine L_s (pc' := 89) rfl rfl ?_
        refine L_gf (pc' := 92) rfl fi_215_14 rfl ?_
        refine L_s (pc' := 93) rfl rfl ?_
        refine L_gf (pc' := 96) rfl fi_215_14 rfl ?_
        refine L_s (pc' := 97) rfl rfl ?_
        refine L_gf (pc' := 100) rfl fi_215_19 rfl ?_
        refine L_s (pc' := 101) rfl rfl ?_
        refine L_bi (pc' := 103) rfl q2_100 rfl ?_
        refine L_dvk (pc' := 104) rfl (by decide) rfl ?_
        refine L_s (pc' := 105) rfl rfl ?_
        exact L_ret rfl ret_i rfl
      refine L_if (fun h9 => ?_) (fun h9 => ?_)
      · subst h9
        refine L_ts (t := 106) (off := 77) rfl (by decide) rfl ?_
        refine L_s (pc' := 107) rfl rfl ?_
        refine L_gf (pc' := 110) rfl fi_215_16 rfl ?_
        exact L_ret rfl ret_i rfl
      refine L_ts (off := 82) (t := 111) rfl (twf_out (n := 6) (by decide) (by decide) (fun j hj => by
        match j, hj with
        | 0, _ => exact fun e => h4 (e.trans (by decide))
        | 1, _ => exact fun e => h5 (e.trans (by decide))
        | 2, _ => exact fun e => h6 (e.trans (by decide))
        | 3, _ => exact fun e => h7 (e.trans (by decide))
        | 4, _ => exact fun e => h8 (e.trans (by decide))
        | 5, _ => exact fun e => h9 (e.trans (by decide))
        | j + 6, hj => exact absurd hj (by omega))) rfl ?_
      refine L_ic (pc' := 112) rfl q1_m1 rfl ?_
      exact L_ret rfl ret_i rfl
    · refine L_ic (pc' := 21) rfl q1_m1 rfl ?_
      exact L_ret rfl ret_i rfl
def m_duty_163 : Nat → Int32 → Int32 → Int64 → Int32 → Int64 → Int32 → Int32 → Sg → Option (Int32 × Sg)
  | 0, _, _, _, _, _, _, _, _ => none
  | n + 1, v1, v3, v4, v6, v7, v9, v10, g =>
    (if 8 ≤ v10 then
      (if inb v3 8 = true then (if v6 ≤ v9 then
        (some (((g 222 (Int32.toNatClampNeg v3)) + 0), g))
      else
        (some (((g 222 (Int32.toNatClampNeg v3)) + 1), g))) else none)
    else
      (if inb v10 8 = true then (if v4 = 0 then none else lt1 ((((Int32.toInt64 v1) * (Int32.toInt64 (g 221 (Int32.toNatClampNeg v10)))) - ((Int32.toInt64 v1) * (Int32.toInt64 (g 221 (Int32.toNatClampNeg v10)))) / v4 * v4) : Int64) (fun x1 => (if 0 < (lg_cmp x1 v7) then
        lt1 ((v9 + 1) : Int32) (fun x2 => (m_duty_163 n v1 v3 v4 v6 v7 x2 (v10 + 1) g))
      else
        (if ¬ (lg_cmp x1 v7) = 0 then
          lt1 ((v9 + 0) : Int32) (fun x3 => (m_duty_163 n v1 v3 v4 v6 v7 x3 (v10 + 1) g))
        else
          (if v3 ≤ v10 then
            lt1 ((v9 + 0) : Int32) (fun x4 => (m_duty_163 n v1 v3 v4 v6 v7 x4 (v10 + 1) g))
          else
            lt1 ((v9 + 1) : Int32) (fun x5 => (m_duty_163 n v1 v3 v4 v6 v7 x5 (v10 + 1) g))))))) else none))
def m_duty_95 (F : Nat) : Nat → Int32 → Int32 → Int64 → Int32 → Int32 → Sg → Option (Int32 × Sg)
  | 0, _, _, _, _, _, _ => none
  | n + 1, v1, v3, v4, v6, v7, g =>
    (if 8 ≤ v7 then
      (if inb v3 8 = true then (if v4 = 0 then none else lt1 ((((Int32.toInt64 v1) * (Int32.toInt64 (g 221 (Int32.toNatClampNeg v3)))) - ((Int32.toInt64 v1) * (Int32.toInt64 (g 221 (Int32.toNatClampNeg v3)))) / v4 * v4) : Int64) (fun x1 => (m_duty_163 F v1 v3 v4 v6 x1 0 0 g))) else none)
    else
      (if inb v7 8 = true then (if v4 = 0 then none else (if inb v7 8 = true then lt1 (up2 g 222 (Int32.toNatClampNeg v7) (Int64.toInt32 (((Int32.toInt64 v1) * (Int32.toInt64 (g 221 (Int32.toNatClampNeg v7)))) / v4))) (fun g2 => (if inb v7 8 = true then lt1 ((v6 - (g2 222 (Int32.toNatClampNeg v7))) : Int32) (fun x3 => (m_duty_95 F n v1 v3 v4 x3 (v7 + 1) g2)) else none)) else none)) else none))
def m_duty_39 (F : Nat) : Nat → Int32 → Int32 → Int32 → Int64 → Int32 → Sg → Option (Int32 × Sg)
  | 0, _, _, _, _, _, _ => none
  | n + 1, v1, v2, v3, v4, v6, g =>
    (if 8 ≤ v6 then
      (if ¬ (lg_cmp v4 0) = 0 then
        (m_duty_95 F F v1 v3 v4 v1 0 g)
      else
        (some (0, g)))
    else
      Option.bind (m_weighs F v6 v2 g) (fun g1 => (if inb v6 8 = true then lt1 (up2 g1 221 (Int32.toNatClampNeg v6) (g1 215 18)) (fun g2 => lt1 ((v4 + (Int32.toInt64 (g2 215 18))) : Int64) (fun x3 => (m_duty_39 F n v1 v2 v3 x3 (v6 + 1) g2))) else none)))
def m_duty (F : Nat) (v1 : Int32) (v2 : Int32) (v3 : Int32) (g : Sg) : Option (Int32 × Sg) :=
  Option.bind (m_isIn v1 0 9999 g) (fun x1 => (if x1 = 0 then
    (some ((-1), g))
  else
    Option.bind (m_isIn v2 0 99 g) (fun x2 => (if x2 = 0 then
      (some ((-1), g))
    else
      Option.bind (m_isIn v3 0 7 g) (fun x3 => (if ¬ x3 = 0 then
        (m_duty_39 F F v1 v2 v3 0 0 g)
      else
        (some ((-1), g))))))))
set_option maxRecDepth 20000 in
theorem p_m_duty_163 {X : Xx} {d : Nat} (hd : 7 ≤ d) : ∀ (n : Nat) (v1 : Int32) (v3 : Int32) (v4 : Int64) (v6 : Int32) (v7 : Int64) (v9 : Int32) (v10 : Int32) (g : Sg), Lt X d (some .int) k_214 (fun r : Int32 × Sg => ((some (.int r.1), (SHF, r.2)) : Out)) 163 [some (.ref 215), some (.int v1), none, some (.int v3), some (.long v4), none, some (.int v6), some (.long v7), none, some (.int v9), some (.int v10), none, none] [] g (m_duty_163 n v1 v3 v4 v6 v7 v9 v10 g) := by
  intro n
  induction n with
  | zero => intros; exact L_none
  | succ n ih =>
    intro v1 v3 v4 v6 v7 v9 v10 g
    show Lt X d (some .int) k_214 (fun r : Int32 × Sg => ((some (.int r.1), (SHF, r.2)) : Out)) 163 [some (.ref 215), some (.int v1), none, some (.int v3), some (.long v4), none, some (.int v6), some (.long v7), none, some (.int v9), some (.int v10), none, none] [] g (
      (if 8 ≤ v10 then
        (if inb v3 8 = true then (if v6 ≤ v9 then
          (some (((g 222 (Int32.toNatClampNeg v3)) + 0), g))
        else
          (some (((g 222 (Int32.toNatClampNeg v3)) + 1), g))) else none)
      else
        (if inb v10 8 = true then (if v4 = 0 then none else lt1 ((((Int32.toInt64 v1) * (Int32.toInt64 (g 221 (Int32.toNatClampNeg v10)))) - ((Int32.toInt64 v1) * (Int32.toInt64 (g 221 (Int32.toNatClampNeg v10)))) / v4 * v4) : Int64) (fun x1 => (if 0 < (lg_cmp x1 v7) then
          lt1 ((v9 + 1) : Int32) (fun x2 => (m_duty_163 n v1 v3 v4 v6 v7 x2 (v10 + 1) g))
        else
          (if ¬ (lg_cmp x1 v7) = 0 then
            lt1 ((v9 + 0) : Int32) (fun x3 => (m_duty_163 n v1 v3 v4 v6 v7 x3 (v10 + 1) g))
          else
            (if v3 ≤ v10 then
              lt1 ((v9 + 0) : Int32) (fun x4 => (m_duty_163 n v1 v3 v4 v6 v7 x4 (v10 + 1) g))
            else
              lt1 ((v9 + 1) : Int32) (fun x5 => (m_duty_163 n v1 v3 v4 v6 v7 x5 (v10 + 1) g))))))) else none)))
    refine L_s (pc' := 165) rfl rfl ?_
    refine L_bi (pc' := 167) rfl q2_8 rfl ?_
    refine L_br (t := 224) (n := 170) rfl rfl (fun _ => ?_) (fun _ => ?_)
    · refine L_s (pc' := 225) rfl rfl ?_
      refine L_gf (pc' := 228) rfl fr_215_21 rfl ?_
      refine L_s (pc' := 229) rfl rfl ?_
      refine L_rI (pc' := 230) rfl sh_222 (by decide) rfl ?_
      refine L_s (pc' := 232) rfl rfl ?_
      refine L_s (pc' := 234) rfl rfl ?_
      refine L_br (t := 241) (n := 237) rfl rfl (fun _ => ?_) (fun _ => ?_)
      · refine L_ic (pc' := 242) rfl q1_0 rfl ?_
        refine L_s (pc' := 243) rfl rfl ?_
        exact L_ret rfl ret_i rfl
      · refine L_ic (pc' := 238) rfl q1_1 rfl ?_
        refine L_s (pc' := 242) rfl rfl ?_
        refine L_s (pc' := 243) rfl rfl ?_
        exact L_ret rfl ret_i rfl
    · refine L_s (pc' := 171) rfl rfl ?_
      refine L_s (pc' := 172) rfl rfl ?_
      refine L_s (pc' := 173) rfl rfl ?_
      refine L_gf (pc' := 176) rfl fr_215_20 rfl ?_
      refine L_s (pc' := 178) rfl rfl ?_
      refine L_rI (pc' := 179) rfl sh_221 (by decide) rfl ?_
      refine L_s (pc' := 180) rfl rfl ?_
      refine L_s (pc' := 181) rfl rfl ?_
      refine L_s (pc' := 183) rfl rfl ?_
      refine L_lrm (pc' := 184) rfl rfl ?_
      refine L_ll fun x1 _ => ?_
      refine L_s (pc' := 186) (L' := [some (.ref 215), some (.int v1), none, some (.int v3), some (.long v4), none, some (.int v6), some (.long v7), none, some (.int v9), some (.int v10), some (.long x1), none]) rfl rfl ?_
      refine L_s (pc' := 188) rfl rfl ?_
      refine L_s (pc' := 190) rfl rfl ?_
      refine L_s (pc' := 192) rfl rfl ?_
      refine L_s (pc' := 193) rfl rfl ?_
      refine L_br (t := 210) (n := 196) rfl rfl (fun _ => ?_) (fun _ => ?_)
      · refine L_ic (pc' := 211) rfl q1_1 rfl ?_
        refine L_s (pc' := 215) rfl rfl ?_
        refine L_s (pc' := 216) rfl rfl ?_
        refine L_li fun x2 _ => ?_
        refine L_s (pc' := 218) (L' := [some (.ref 215), some (.int v1), none, some (.int v3), some (.long v4), none, some (.int v6), some (.long v7), none, some (.int x2), some (.int v10), some (.long x1), none]) rfl rfl ?_
        refine L_ii (pc' := 221) (L' := [some (.ref 215), some (.int v1), none, some (.int v3), some (.long v4), none, some (.int v6), some (.long v7), none, some (.int x2), some (.int (v10 + 1)), some (.long x1), none]) rfl rfl q1_1 rfl rfl rfl ?_
        refine L_s (pc' := 163) rfl rfl ?_
        refine L_wk (L' := [some (.ref 215), some (.int v1), none, some (.int v3), some (.long v4), none, some (.int v6), some (.long v7), none, some (.int x2), some (.int (v10 + 1)), none, none]) (wk_s (wk_s (wk_s (wk_s (wk_s (wk_s (wk_s (wk_s (wk_s (wk_s (wk_s (wk_n (wk_s wk_nil))))))))))))) ?_
        exact ih _ _ _ _ _ _ _ _
      · refine L_s (pc' := 198) rfl rfl ?_
        refine L_s (pc' := 200) rfl rfl ?_
        refine L_s (pc' := 201) rfl rfl ?_
        refine L_br (t := 214) (n := 204) rfl rfl (fun _ => ?_) (fun _ => ?_)
        · refine L_ic (pc' := 215) rfl q1_0 rfl ?_
          refine L_s (pc' := 216) rfl rfl ?_
          refine L_li fun x3 _ => ?_
          refine L_s (pc' := 218) (L' := [some (.ref 215), some (.int v1), none, some (.int v3), some (.long v4), none, some (.int v6), some (.long v7), none, some (.int x3), some (.int v10), some (.long x1), none]) rfl rfl ?_
          refine L_ii (pc' := 221) (L' := [some (.ref 215), some (.int v1), none, some (.int v3), some (.long v4), none, some (.int v6), some (.long v7), none, some (.int x3), some (.int (v10 + 1)), some (.long x1), none]) rfl rfl q1_1 rfl rfl rfl ?_
          refine L_s (pc' := 163) rfl rfl ?_
          refine L_wk (L' := [some (.ref 215), some (.int v1), none, some (.int v3), some (.long v4), none, some (.int v6), some (.long v7), none, some (.int x3), some (.int (v10 + 1)), none, none]) (wk_s (wk_s (wk_s (wk_s (wk_s (wk_s (wk_s (wk_s (wk_s (wk_s (wk_s (wk_n (wk_s wk_nil))))))))))))) ?_
          exact ih _ _ _ _ _ _ _ _
        · refine L_s (pc' := 206) rfl rfl ?_
          refine L_s (pc' := 207) rfl rfl ?_
          refine L_br (t := 214) (n := 210) rfl rfl (fun _ => ?_) (fun _ => ?_)
          · refine L_ic (pc' := 215) rfl q1_0 rfl ?_
            refine L_s (pc' := 216) rfl rfl ?_
            refine L_li fun x4 _ => ?_
            refine L_s (pc' := 218) (L' := [some (.ref 215), some (.int v1), none, some (.int v3), some (.long v4), none, some (.int v6), some (.long v7), none, some (.int x4), some (.int v10), some (.long x1), none]) rfl rfl ?_
            refine L_ii (pc' := 221) (L' := [some (.ref 215), some (.int v1), none, some (.int v3), some (.long v4), none, some (.int v6), some (.long v7), none, some (.int x4), some (.int (v10 + 1)), some (.long x1), none]) rfl rfl q1_1 rfl rfl rfl ?_
            refine L_s (pc' := 163) rfl rfl ?_
            refine L_wk (L' := [some (.ref 215), some (.int v1), none, some (.int v3), some (.long v4), none, some (.int v6), some (.long v7), none, some (.int x4), some (.int (v10 + 1)), none, none]) (wk_s (wk_s (wk_s (wk_s (wk_s (wk_s (wk_s (wk_s (wk_s (wk_s (wk_s (wk_n (wk_s wk_nil))))))))))))) ?_
            exact ih _ _ _ _ _ _ _ _
          · refine L_ic (pc' := 211) rfl q1_1 rfl ?_
            refine L_s (pc' := 215) rfl rfl ?_
            refine L_s (pc' := 216) rfl rfl ?_
            refine L_li fun x5 _ => ?_
            refine L_s (pc' := 218) (L' := [some (.ref 215), some (.int v1), none, some (.int v3), some (.long v4), none, some (.int v6), some (.long v7), none, some (.int x5), some (.int v10), some (.long x1), none]) rfl rfl ?_
            refine L_ii (pc' := 221) (L' := [some (.ref 215), some (.int v1), none, some (.int v3), some (.long v4), none, some (.int v6), some (.long v7), none, some (.int x5), some (.int (v10 + 1)), some (.long x1), none]) rfl rfl q1_1 rfl rfl rfl ?_
            refine L_s (pc' := 163) rfl rfl ?_
            refine L_wk (L' := [some (.ref 215), some (.int v1), none, some (.int v3), some (.long v4), none, some (.int v6), some (.long v7), none, some (.int x5), some (.int (v10 + 1)), none, none]) (wk_s (wk_s (wk_s (wk_s (wk_s (wk_s (wk_s (wk_s (wk_s (wk_s (wk_s (wk_n (wk_s wk_nil))))))))))))) ?_
            exact ih _ _ _ _ _ _ _ _
theorem p_m_duty_95 {X : Xx} {d : Nat} (hd : 7 ≤ d) (F : Nat) : ∀ (n : Nat) (v1 : Int32) (v3 : Int32) (v4 : Int64) (v6 : Int32) (v7 : Int32) (g : Sg), Lt X d (some .int) k_214 (fun r : Int32 × Sg => ((some (.int r.1), (SHF, r.2)) : Out)) 95 [some (.ref 215), some (.int v1), none, some (.int v3), some (.long v4), none, some (.int v6), some (.int v7), none, none, none, none, none] [] g (m_duty_95 F n v1 v3 v4 v6 v7 g) := by
  intro n
  induction n with
  | zero => intros; exact L_none
  | succ n ih =>
    intro v1 v3 v4 v6 v7 g
    show Lt X d (some .int) k_214 (fun r : Int32 × Sg => ((some (.int r.1), (SHF, r.2)) : Out)) 95 [some (.ref 215), some (.int v1), none, some (.int v3), some (.long v4), none, some (.int v6), some (.int v7), none, none, none, none, none] [] g (
      (if 8 ≤ v7 then
        (if inb v3 8 = true then (if v4 = 0 then none else lt1 ((((Int32.toInt64 v1) * (Int32.toInt64 (g 221 (Int32.toNatClampNeg v3)))) - ((Int32.toInt64 v1) * (Int32.toInt64 (g 221 (Int32.toNatClampNeg v3)))) / v4 * v4) : Int64) (fun x1 => (m_duty_163 F v1 v3 v4 v6 x1 0 0 g))) else none)
      else
        (if inb v7 8 = true then (if v4 = 0 then none else (if inb v7 8 = true then lt1 (up2 g 222 (Int32.toNatClampNeg v7) (Int64.toInt32 (((Int32.toInt64 v1) * (Int32.toInt64 (g 221 (Int32.toNatClampNeg v7)))) / v4))) (fun g2 => (if inb v7 8 = true then lt1 ((v6 - (g2 222 (Int32.toNatClampNeg v7))) : Int32) (fun x3 => (m_duty_95 F n v1 v3 v4 x3 (v7 + 1) g2)) else none)) else none)) else none)))
    refine L_s (pc' := 97) rfl rfl ?_
    refine L_bi (pc' := 99) rfl q2_8 rfl ?_
    refine L_br (t := 142) (n := 102) rfl rfl (fun _ => ?_) (fun _ => ?_)
    · refine L_s (pc' := 143) rfl rfl ?_
      refine L_s (pc' := 144) rfl rfl ?_
      refine L_s (pc' := 145) rfl rfl ?_
      refine L_gf (pc' := 148) rfl fr_215_20 rfl ?_
      refine L_s (pc' := 149) rfl rfl ?_
      refine L_rI (pc' := 150) rfl sh_221 (by decide) rfl ?_
      refine L_s (pc' := 151) rfl rfl ?_
      refine L_s (pc' := 152) rfl rfl ?_
      refine L_s (pc' := 154) rfl rfl ?_
      refine L_lrm (pc' := 155) rfl rfl ?_
      refine L_ll fun x1 _ => ?_
      refine L_s (pc' := 157) (L' := [some (.ref 215), some (.int v1), none, some (.int v3), some (.long v4), none, some (.int v6), some (.long x1), none, none, none, none, none]) rfl rfl ?_
      refine L_ic (pc' := 158) rfl q1_0 rfl ?_
      refine L_s (pc' := 160) (L' := [some (.ref 215), some (.int v1), none, some (.int v3), some (.long v4), none, some (.int v6), some (.long x1), none, some (.int 0), none, none, none]) rfl rfl ?_
      refine L_ic (pc' := 161) rfl q1_0 rfl ?_
      refine L_s (pc' := 163) (L' := [some (.ref 215), some (.int v1), none, some (.int v3), some (.long v4), none, some (.int v6), some (.long x1), none, some (.int 0), some (.int 0), none, none]) rfl rfl ?_
      exact p_m_duty_163 hd F _ _ _ _ _ _ _ _
    · refine L_s (pc' := 103) rfl rfl ?_
      refine L_gf (pc' := 106) rfl fr_215_21 rfl ?_
      refine L_s (pc' := 108) rfl rfl ?_
      refine L_s (pc' := 109) rfl rfl ?_
      refine L_s (pc' := 110) rfl rfl ?_
      refine L_s (pc' := 111) rfl rfl ?_
      refine L_gf (pc' := 114) rfl fr_215_20 rfl ?_
      refine L_s (pc' := 116) rfl rfl ?_
      refine L_rI (pc' := 117) rfl sh_221 (by decide) rfl ?_
      refine L_s (pc' := 118) rfl rfl ?_
      refine L_s (pc' := 119) rfl rfl ?_
      refine L_s (pc' := 121) rfl rfl ?_
      refine L_ldv (pc' := 122) rfl rfl ?_
      refine L_s (pc' := 123) rfl rfl ?_
      refine L_wI (pc' := 124) rfl sh_222 (by decide) rfl ?_
      refine L_let fun g2 _ => ?_
      refine L_s (pc' := 126) rfl rfl ?_
      refine L_s (pc' := 127) rfl rfl ?_
      refine L_gf (pc' := 130) rfl fr_215_21 rfl ?_
      refine L_s (pc' := 132) rfl rfl ?_
      refine L_rI (pc' := 133) rfl sh_222 (by decide) rfl ?_
      refine L_s (pc' := 134) rfl rfl ?_
      refine L_li fun x3 _ => ?_
      refine L_s (pc' := 136) (L' := [some (.ref 215), some (.int v1), none, some (.int v3), some (.long v4), none, some (.int x3), some (.int v7), none, none, none, none, none]) rfl rfl ?_
      refine L_ii (pc' := 139) (L' := [some (.ref 215), some (.int v1), none, some (.int v3), some (.long v4), none, some (.int x3), some (.int (v7 + 1)), none, none, none, none, none]) rfl rfl q1_1 rfl rfl rfl ?_
      refine L_s (pc' := 95) rfl rfl ?_
      exact ih _ _ _ _ _ _
theorem p_m_duty_39 {X : Xx} {d : Nat} (hd : 7 ≤ d) (F : Nat) : ∀ (n : Nat) (v1 : Int32) (v2 : Int32) (v3 : Int32) (v4 : Int64) (v6 : Int32) (g : Sg), Lt X d (some .int) k_214 (fun r : Int32 × Sg => ((some (.int r.1), (SHF, r.2)) : Out)) 39 [some (.ref 215), some (.int v1), some (.int v2), some (.int v3), some (.long v4), none, some (.int v6), none, none, none, none, none, none] [] g (m_duty_39 F n v1 v2 v3 v4 v6 g) := by
  intro n
  induction n with
  | zero => intros; exact L_none
  | succ n ih =>
    intro v1 v2 v3 v4 v6 g
    show Lt X d (some .int) k_214 (fun r : Int32 × Sg => ((some (.int r.1), (SHF, r.2)) : Out)) 39 [some (.ref 215), some (.int v1), some (.int v2), some (.int v3), some (.long v4), none, some (.int v6), none, none, none, none, none, none] [] g (
      (if 8 ≤ v6 then
        (if ¬ (lg_cmp v4 0) = 0 then
          (m_duty_95 F F v1 v3 v4 v1 0 g)
        else
          (some (0, g)))
      else
        Option.bind (m_weighs F v6 v2 g) (fun g1 => (if inb v6 8 = true then lt1 (up2 g1 221 (Int32.toNatClampNeg v6) (g1 215 18)) (fun g2 => lt1 ((v4 + (Int32.toInt64 (g2 215 18))) : Int64) (fun x3 => (m_duty_39 F n v1 v2 v3 x3 (v6 + 1) g2))) else none))))
    refine L_s (pc' := 41) rfl rfl ?_
    refine L_bi (pc' := 43) rfl q2_8 rfl ?_
    refine L_br (t := 80) (n := 46) rfl rfl (fun _ => ?_) (fun _ => ?_)
    · refine L_s (pc' := 82) rfl rfl ?_
      refine L_s (pc' := 83) (st' := [.long 0, .long v4]) rfl rfl ?_
      refine L_s (pc' := 84) rfl rfl ?_
      refine L_br (t := 89) (n := 87) rfl rfl (fun _ => ?_) (fun _ => ?_)
      · refine L_s (pc' := 90) rfl rfl ?_
        refine L_s (pc' := 92) (L' := [some (.ref 215), some (.int v1), some (.int v2), some (.int v3), some (.long v4), none, some (.int v1), none, none, none, none, none, none]) rfl rfl ?_
        refine L_ic (pc' := 93) rfl q1_0 rfl ?_
        refine L_s (pc' := 95) (L' := [some (.ref 215), some (.int v1), some (.int v2), some (.int v3), some (.long v4), none, some (.int v1), some (.int 0), none, none, none, none, none]) rfl rfl ?_
        refine L_wk (L' := [some (.ref 215), some (.int v1), none, some (.int v3), some (.long v4), none, some (.int v1), some (.int 0), none, none, none, none, none]) (wk_s (wk_s (wk_n (wk_s (wk_s (wk_s (wk_s (wk_s (wk_s (wk_s (wk_s (wk_s (wk_s wk_nil))))))))))))) ?_
        exact p_m_duty_95 hd F F _ _ _ _ _ _
      · refine L_ic (pc' := 88) rfl q1_0 rfl ?_
        exact L_ret rfl ret_i rfl
    · refine L_s (pc' := 47) rfl rfl ?_
      refine L_s (pc' := 49) rfl rfl ?_
      refine L_s (pc' := 50) rfl rfl ?_
      refine L_cv (pc' := 53) (as := [.ref 215, .int v6, .int v2]) (rest := []) rfl rfl (e_m_weighs (by omega) F _ _ _) rfl fun g1 => ?_
      refine L_s (pc' := 54) rfl rfl ?_
      refine L_gf (pc' := 57) rfl fr_215_20 rfl ?_
      refine L_s (pc' := 59) rfl rfl ?_
      refine L_s (pc' := 60) rfl rfl ?_
      refine L_gf (pc' := 63) rfl fi_215_18 rfl ?_
      refine L_wI (pc' := 64) rfl sh_221 (by decide) rfl ?_
      refine L_let fun g2 _ => ?_
      refine L_s (pc' := 66) rfl rfl ?_
      refine L_s (pc' := 67) rfl rfl ?_
      refine L_gf (pc' := 70) rfl fi_215_18 rfl ?_
      refine L_s (pc' := 71) rfl rfl ?_
      refine L_s (pc' := 72) rfl rfl ?_
      refine L_ll fun x3 _ => ?_
      refine L_s (pc' := 74) (L' := [some (.ref 215), some (.int v1), some (.int v2), some (.int v3), some (.long x3), none, some (.int v6), none, none, none, none, none, none]) rfl rfl ?_
      refine L_ii (pc' := 77) (L' := [some (.ref 215), some (.int v1), some (.int v2), some (.int v3), some (.long x3), none, some (.int (v6 + 1)), none, none, none, none, none, none]) rfl rfl q1_1 rfl rfl rfl ?_
      refine L_s (pc' := 39) rfl rfl ?_
      exact ih _ _ _ _ _ _
theorem e_m_duty {X : Xx} {d : Nat} (hd : 8 ≤ d) (F : Nat) (v1 : Int32) (v2 : Int32) (v3 : Int32) (g : Sg) : ∀ r, m_duty F v1 v2 v3 g = some r → EvM zft mtl X d 214 [.ref 215, .int v1, .int v2, .int v3] (SHF, g) ((fun r : Int32 × Sg => ((some (.int r.1), (SHF, r.2)) : Out)) r) := by
  obtain ⟨d, rfl⟩ : ∃ d0, d = d0 + 1 := ⟨d - 1, by omega⟩
  have hd : 7 ≤ d := by omega
  refine E_in (f := (fun r : Int32 × Sg => ((some (.int r.1), (SHF, r.2)) : Out))) rfl (Nat.le_of_ble_eq_true rfl) ?_
  unfold m_duty
  change Lt X d (some .int) k_214 _ 0 [some (.ref 215), some (.int v1), some (.int v2), some (.int v3), none, none, none, none, none, none, none, none, none] [] g _
  refine L_s (pc' := 1) rfl rfl ?_
  refine L_ic (pc' := 2) rfl q1_0 rfl ?_
  refine L_si (pc' := 5) rfl q3_9999 rfl ?_
  refine L_ci (pc' := 8) (as := [.int v1, .int 0, .int 9999]) (rest := []) rfl rfl (e_m_isIn (by omega) _ _ _ _) rfl fun x1 => ?_
  refine L_br (t := 31) (n := 11) rfl rfl (fun _ => ?_) (fun _ => ?_)
  · refine L_ic (pc' := 32) rfl q1_m1 rfl ?_
    exact L_ret rfl ret_i rfl
  · refine L_s (pc' := 12) rfl rfl ?_
    refine L_ic (pc' := 13) rfl q1_0 rfl ?_
    refine L_bi (pc' := 15) rfl q2_99 rfl ?_
    refine L_ci (pc' := 18) (as := [.int v2, .int 0, .int 99]) (rest := []) rfl rfl (e_m_isIn (by omega) _ _ _ _) rfl fun x2 => ?_
    refine L_br (t := 31) (n := 21) rfl rfl (fun _ => ?_) (fun _ => ?_)
    · refine L_ic (pc' := 32) rfl q1_m1 rfl ?_
      exact L_ret rfl ret_i rfl
    · refine L_s (pc' := 22) rfl rfl ?_
      refine L_ic (pc' := 23) rfl q1_0 rfl ?_
      refine L_bi (pc' := 25) rfl q2_7 rfl ?_
      refine L_ci (pc' := 28) (as := [.int v3, .int 0, .int 7]) (rest := []) rfl rfl (e_m_isIn (by omega) _ _ _ _) rfl fun x3 => ?_
      refine L_br (t := 33) (n := 31) rfl rfl (fun _ => ?_) (fun _ => ?_)
      · refine L_s (pc' := 34) (st' := [.long 0]) rfl rfl ?_
        refine L_s (pc' := 36) (L' := [some (.ref 215), some (.int v1), some (.int v2), some (.int v3), some (.long 0), none, none, none, none, none, none, none, none]) rfl rfl ?_
        refine L_ic (pc' := 37) rfl q1_0 rfl ?_
        refine L_s (pc' := 39) (L' := [some (.ref 215), some (.int v1), some (.int v2), some (.int v3), some (.long 0), none, some (.int 0), none, none, none, none, none, none]) rfl rfl ?_
        exact p_m_duty_39 hd F F _ _ _ _ _ _
      · refine L_ic (pc' := 32) rfl q1_m1 rfl ?_
        exact L_ret rfl ret_i rfl
def m_takesPart_25 : Nat → Int32 → Int32 → Sg → Option (Int32 × Sg)
  | 0, _, _, _ => none
  | n + 1, v1, v2, g =>
    (if (g 216 0) ≤ v2 then
      (some (1, g))
    else
      (if ¬ ((v1 >>> (v2 &&& 31)) &&& 1) = 0 then
        Option.bind (m_nodeOf_k0 v2 g) (fun x1 => (if ¬ x1 = 4 then
          (some (0, g))
        else
          (if ¬ (g 215 30) = 4 then
            (if inb (g 215 30) 4 = true then lt1 (up2 g 223 (Int32.toNatClampNeg (g 215 30)) v2) (fun g2 => lt1 (up2 g2 215 30 ((g2 215 30) + 1)) (fun g3 => (m_takesPart_25 n v1 (v2 + 1) g3))) else none)
          else
            (some (0, g)))))
      else
        (m_takesPart_25 n v1 (v2 + 1) g)))
def m_takesPart (F : Nat) (v1 : Int32) (g : Sg) : Option (Int32 × Sg) :=
  lt1 (up2 g 215 30 0) (fun g1 => (if v1 ≤ 0 then
    (some (0, g1))
  else
    (if v1 < (1 <<< ((g1 216 0) &&& 31)) then
      (m_takesPart_25 F v1 0 g1)
    else
      (some (0, g1)))))
theorem p_m_takesPart_25 {X : Xx} {d : Nat} (hd : 1 ≤ d) : ∀ (n : Nat) (v1 : Int32) (v2 : Int32) (g : Sg), Lt X d (some .boolean) k_215 (fun r : Int32 × Sg => ((some (.int r.1), (SHF, r.2)) : Out)) 25 [some (.ref 215), some (.int v1), some (.int v2)] [] g (m_takesPart_25 n v1 v2 g) := by
  intro n
  induction n with
  | zero => intros; exact L_none
  | succ n ih =>
    intro v1 v2 g
    show Lt X d (some .boolean) k_215 (fun r : Int32 × Sg => ((some (.int r.1), (SHF, r.2)) : Out)) 25 [some (.ref 215), some (.int v1), some (.int v2)] [] g (
      (if (g 216 0) ≤ v2 then
        (some (1, g))
      else
        (if ¬ ((v1 >>> (v2 &&& 31)) &&& 1) = 0 then
          Option.bind (m_nodeOf_k0 v2 g) (fun x1 => (if ¬ x1 = 4 then
            (some (0, g))
          else
            (if ¬ (g 215 30) = 4 then
              (if inb (g 215 30) 4 = true then lt1 (up2 g 223 (Int32.toNatClampNeg (g 215 30)) v2) (fun g2 => lt1 (up2 g2 215 30 ((g2 215 30) + 1)) (fun g3 => (m_takesPart_25 n v1 (v2 + 1) g3))) else none)
            else
              (some (0, g)))))
        else
          (m_takesPart_25 n v1 (v2 + 1) g))))
    refine L_s (pc' := 26) rfl rfl ?_
    refine L_s (pc' := 27) rfl rfl ?_
    refine L_gf (pc' := 30) rfl fr_215_0 rfl ?_
    refine L_ic (pc' := 31) rfl q1_0 rfl ?_
    refine L_rIk (pc' := 32) (j := 0) rfl sh_216 (by decide) (by decide) (by decide) rfl ?_
    refine L_br (t := 92) (n := 35) rfl rfl (fun _ => ?_) (fun _ => ?_)
    · refine L_ic (pc' := 93) rfl q1_1 rfl ?_
      exact L_ret rfl (ret_z (by decide)) rfl
    · refine L_s (pc' := 36) rfl rfl ?_
      refine L_s (pc' := 37) rfl rfl ?_
      refine L_s (pc' := 38) rfl rfl ?_
      refine L_ic (pc' := 39) rfl q1_1 rfl ?_
      refine L_s (pc' := 40) rfl rfl ?_
      refine L_br (t := 46) (n := 43) rfl rfl (fun _ => ?_) (fun _ => ?_)
      · refine L_s (pc' := 47) rfl rfl ?_
        refine L_s (pc' := 48) rfl rfl ?_
        refine L_ic (pc' := 49) rfl q1_0 rfl ?_
        refine L_ci (pc' := 52) (as := [.ref 215, .int v2, .int 0]) (rest := []) rfl rfl (e_m_nodeOf_k0 (by omega) _ _) rfl fun x1 => ?_
        refine L_ic (pc' := 53) rfl q1_4 rfl ?_
        refine L_br (t := 64) (n := 56) rfl rfl (fun _ => ?_) (fun _ => ?_)
        · refine L_ic (pc' := 65) rfl q1_0 rfl ?_
          exact L_ret rfl (ret_z (by decide)) rfl
        · refine L_s (pc' := 57) rfl rfl ?_
          refine L_gf (pc' := 60) rfl fi_215_30 rfl ?_
          refine L_ic (pc' := 61) rfl q1_4 rfl ?_
          refine L_br (t := 66) (n := 64) rfl rfl (fun _ => ?_) (fun _ => ?_)
          · refine L_s (pc' := 67) rfl rfl ?_
            refine L_gf (pc' := 70) rfl fr_215_22 rfl ?_
            refine L_s (pc' := 71) rfl rfl ?_
            refine L_gf (pc' := 74) rfl fi_215_30 rfl ?_
            refine L_s (pc' := 75) rfl rfl ?_
            refine L_wI (pc' := 76) rfl sh_223 (by decide) rfl ?_
            refine L_let fun g2 _ => ?_
            refine L_s (pc' := 77) rfl rfl ?_
            refine L_s (pc' := 78) rfl rfl ?_
            refine L_gf (pc' := 81) rfl fi_215_30 rfl ?_
            refine L_ic (pc' := 82) rfl q1_1 rfl ?_
            refine L_s (pc' := 83) rfl rfl ?_
            refine L_pf (pc' := 86) rfl sh_215 (by decide) rfl rfl ?_
            refine L_let fun g3 _ => ?_
            refine L_ii (pc' := 89) (L' := [some (.ref 215), some (.int v1), some (.int (v2 + 1))]) rfl rfl q1_1 rfl rfl rfl ?_
            refine L_s (pc' := 25) rfl rfl ?_
            exact ih _ _ _
          · refine L_ic (pc' := 65) rfl q1_0 rfl ?_
            exact L_ret rfl (ret_z (by decide)) rfl
      · refine L_s (pc' := 86) rfl rfl ?_
        refine L_ii (pc' := 89) (L' := [some (.ref 215), some (.int v1), some (.int (v2 + 1))]) rfl rfl q1_1 rfl rfl rfl ?_
        refine L_s (pc' := 25) rfl rfl ?_
        exact ih _ _ _
theorem e_m_takesPart {X : Xx} {d : Nat} (hd : 2 ≤ d) (F : Nat) (v1 : Int32) (g : Sg) : ∀ r, m_takesPart F v1 g = some r → EvM zft mtl X d 215 [.ref 215, .int v1] (SHF, g) ((fun r : Int32 × Sg => ((some (.int r.1), (SHF, r.2)) : Out)) r) := by
  obtain ⟨d, rfl⟩ : ∃ d0, d = d0 + 1 := ⟨d - 1, by omega⟩
  have hd : 1 ≤ d := by omega
  refine E_in (f := (fun r : Int32 × Sg => ((some (.int r.1), (SHF, r.2)) : Out))) rfl (Nat.le_of_ble_eq_true rfl) ?_
  unfold m_takesPart
  change Lt X d (some .boolean) k_215 _ 0 [some (.ref 215), some (.int v1), none] [] g _
  refine L_s (pc' := 1) rfl rfl ?_
  refine L_ic (pc' := 2) rfl q1_0 rfl ?_
  refine L_pf (pc' := 5) rfl sh_215 (by decide) rfl rfl ?_
  refine L_let fun g1 _ => ?_
  refine L_s (pc' := 6) rfl rfl ?_
  refine L_br (t := 21) (n := 9) rfl rfl (fun _ => ?_) (fun _ => ?_)
  · refine L_ic (pc' := 22) rfl q1_0 rfl ?_
    exact L_ret rfl (ret_z (by decide)) rfl
  · refine L_s (pc' := 10) rfl rfl ?_
    refine L_ic (pc' := 11) rfl q1_1 rfl ?_
    refine L_s (pc' := 12) rfl rfl ?_
    refine L_gf (pc' := 15) rfl fr_215_0 rfl ?_
    refine L_ic (pc' := 16) rfl q1_0 rfl ?_
    refine L_rIk (pc' := 17) (j := 0) rfl sh_216 (by decide) (by decide) (by decide) rfl ?_
    refine L_s (pc' := 18) rfl rfl ?_
    refine L_br (t := 23) (n := 21) rfl rfl (fun _ => ?_) (fun _ => ?_)
    · refine L_ic (pc' := 24) rfl q1_0 rfl ?_
      refine L_s (pc' := 25) (L' := [some (.ref 215), some (.int v1), some (.int 0)]) rfl rfl ?_
      exact p_m_takesPart_25 hd F _ _ _
    · refine L_ic (pc' := 22) rfl q1_0 rfl ?_
      exact L_ret rfl (ret_z (by decide)) rfl
def m_enters_219 (k_98 : Int32 → Int32 → Int32 → Int32 → Sg → Option (Int32 × Sg)) (v1 : Int32) (v2 : Int32) (v3 : Int32) (v4 : Int32) (v6 : Int32) (s0 : Int32) (s1 : Int32) (s2 : Int32) (g : Sg) : Option (Int32 × Sg) :=
  (if inb s2 36 = true then lt1 (up2 g 228 (Int32.toNatClampNeg s2) (s1 + s0)) (fun g1 => (if v3 = 0 then
    (k_98 v1 v2 0 (v4 + 1) g1)
  else
    (if inb (v6 + 4) 36 = true then (if v2 < (g1 226 (Int32.toNatClampNeg (v6 + 4))) then
      (k_98 v1 v2 0 (v4 + 1) g1)
    else
      (k_98 v1 v2 1 (v4 + 1) g1)) else none))) else none)
def m_enters_218 (k_98 : Int32 → Int32 → Int32 → Int32 → Sg → Option (Int32 × Sg)) (v1 : Int32) (v2 : Int32) (v3 : Int32) (v4 : Int32) (v6 : Int32) (s0 : Int32) (s1 : Int32) (g : Sg) : Option (Int32 × Sg) :=
  (m_enters_219 k_98 v1 v2 v3 v4 v6 0 s0 s1 g)
def m_enters_185 (k_98 : Int32 → Int32 → Int32 → Int32 → Sg → Option (Int32 × Sg)) (v1 : Int32) (v2 : Int32) (v3 : Int32) (v4 : Int32) (v5 : Int32) (v6 : Int32) (s0 : Int32) (s1 : Int32) (s2 : Int32) (g : Sg) : Option (Int32 × Sg) :=
  (if inb s2 36 = true then lt1 (up2 g 227 (Int32.toNatClampNeg s2) (s1 + s0)) (fun g1 => (if inb v6 36 = true then (if v5 = 0 then
    (m_enters_218 k_98 v1 v2 v3 v4 v6 (g1 228 (Int32.toNatClampNeg v6)) (v6 + 4) g1)
  else
    (if ¬ (v1 - v1 / 2 * 2) = 1 then
      (m_enters_218 k_98 v1 v2 v3 v4 v6 (g1 228 (Int32.toNatClampNeg v6)) (v6 + 4) g1)
    else
      (m_enters_219 k_98 v1 v2 v3 v4 v6 1 (g1 228 (Int32.toNatClampNeg v6)) (v6 + 4) g1))) else none)) else none)
def m_enters_159 (k_98 : Int32 → Int32 → Int32 → Int32 → Sg → Option (Int32 × Sg)) (v1 : Int32) (v2 : Int32) (v3 : Int32) (v4 : Int32) (v5 : Int32) (v6 : Int32) (s0 : Int32) (s1 : Int32) (g : Sg) : Option (Int32 × Sg) :=
  (if inb s1 36 = true then lt1 (up2 g 226 (Int32.toNatClampNeg s1) s0) (fun g1 => (if inb v6 36 = true then (if v5 = 0 then
    (m_enters_185 k_98 v1 v2 v3 v4 v5 v6 0 (g1 227 (Int32.toNatClampNeg v6)) (v6 + 4) g1)
  else
    (m_enters_185 k_98 v1 v2 v3 v4 v5 v6 1 (g1 227 (Int32.toNatClampNeg v6)) (v6 + 4) g1)) else none)) else none)
def m_enters_123 (k_98 : Int32 → Int32 → Int32 → Int32 → Sg → Option (Int32 × Sg)) (v1 : Int32) (v2 : Int32) (v3 : Int32) (v4 : Int32) (s0 : Int32) (g : Sg) : Option (Int32 × Sg) :=
  lt1 (((4 * v1) + v4) : Int32) (fun x1 => (if s0 = 0 then
    (if inb x1 36 = true then (m_enters_159 k_98 v1 v2 v3 v4 s0 x1 ((g 226 (Int32.toNatClampNeg x1)) + 1) (x1 + 4) g) else none)
  else
    (m_enters_159 k_98 v1 v2 v3 v4 s0 x1 0 (x1 + 4) g)))
def m_enters_98 : Nat → Int32 → Int32 → Int32 → Int32 → Sg → Option (Int32 × Sg)
  | 0, _, _, _, _, _ => none
  | n + 1, v1, v2, v3, v4, g =>
    (if (g 215 30) ≤ v4 then
      (if v3 = 0 ∨ v3 = 1 then (some (v3, g)) else none)
    else
      (if inb v1 8 = true then (if ¬ (g 224 (Int32.toNatClampNeg v1)) = v4 then
        (m_enters_123 (fun v1 v2 v3 v4 g0 => m_enters_98 n v1 v2 v3 v4 g0) v1 v2 v3 v4 0 g)
      else
        (m_enters_123 (fun v1 v2 v3 v4 g0 => m_enters_98 n v1 v2 v3 v4 g0) v1 v2 v3 v4 1 g)) else none))
def m_enters_72 (F : Nat) (v1 : Int32) (v2 : Int32) (s0 : Int32) (s1 : Int32) (s2 : Int32) (g : Sg) : Option (Int32 × Sg) :=
  (if inb s2 9 = true then lt1 (up2 g 230 (Int32.toNatClampNeg s2) (s1 + s0)) (fun g1 => (if inb (v1 + 1) 9 = true then (if (g1 215 31) < (g1 229 (Int32.toNatClampNeg (v1 + 1))) then
    (m_enters_98 F v1 v2 0 0 g1)
  else
    (m_enters_98 F v1 v2 1 0 g1)) else none)) else none)
def m_enters_39 (F : Nat) (v1 : Int32) (v2 : Int32) (s0 : Int32) (s1 : Int32) (s2 : Int32) (g : Sg) : Option (Int32 × Sg) :=
  (if inb s2 9 = true then lt1 (up2 g 229 (Int32.toNatClampNeg s2) (s1 + s0)) (fun g1 => (if inb v1 9 = true then (if inb v1 8 = true then (if ¬ (g1 224 (Int32.toNatClampNeg v1)) = (g1 215 30) then
    (m_enters_72 F v1 v2 0 (g1 230 (Int32.toNatClampNeg v1)) (v1 + 1) g1)
  else
    (m_enters_72 F v1 v2 1 (g1 230 (Int32.toNatClampNeg v1)) (v1 + 1) g1)) else none) else none)) else none)
def m_enters_38 (F : Nat) (v1 : Int32) (v2 : Int32) (s0 : Int32) (s1 : Int32) (g : Sg) : Option (Int32 × Sg) :=
  (m_enters_39 F v1 v2 0 s0 s1 g)
def m_enters (F : Nat) (v1 : Int32) (v2 : Int32) (g : Sg) : Option (Int32 × Sg) :=
  (if inb v1 9 = true then (if v1 ≤ 0 then
    (m_enters_38 F v1 v2 (g 229 (Int32.toNatClampNeg v1)) (v1 + 1) g)
  else
    (if inb v1 8 = true then (if inb (v1 - 1) 8 = true then (if (g 224 (Int32.toNatClampNeg v1)) = (g 224 (Int32.toNatClampNeg (v1 - 1))) then
      (m_enters_38 F v1 v2 (g 229 (Int32.toNatClampNeg v1)) (v1 + 1) g)
    else
      (m_enters_39 F v1 v2 1 (g 229 (Int32.toNatClampNeg v1)) (v1 + 1) g)) else none) else none)) else none)
set_option maxRecDepth 20000 in
theorem p_m_enters_219 {X : Xx} {d : Nat} {k_98 : Int32 → Int32 → Int32 → Int32 → Sg → Option (Int32 × Sg)} (hd : 0 ≤ d) (hk_98 : ∀ (v1 : Int32) (v2 : Int32) (v3 : Int32) (v4 : Int32) (g : Sg), Lt X d (some .boolean) k_216 (fun r : Int32 × Sg => ((some (.int r.1), (SHF, r.2)) : Out)) 98 [some (.ref 215), some (.int v1), some (.int v2), some (.int v3), some (.int v4), none, none] [] g (k_98 v1 v2 v3 v4 g)) (v1 : Int32) (v2 : Int32) (v3 : Int32) (v4 : Int32) (v6 : Int32) (s0 : Int32) (s1 : Int32) (s2 : Int32) (g : Sg) : Lt X d (some .boolean) k_216 (fun r : Int32 × Sg => ((some (.int r.1), (SHF, r.2)) : Out)) 219 [some (.ref 215), some (.int v1), some (.int v2), some (.int v3), some (.int v4), none, some (.int v6)] [.int s0, .int s1, .int s2, .ref 228] g (m_enters_219 k_98 v1 v2 v3 v4 v6 s0 s1 s2 g) := by
  unfold m_enters_219
  refine L_s (pc' := 220) rfl rfl ?_
  refine L_wI (pc' := 221) rfl sh_228 (by decide) rfl ?_
  refine L_let fun g1 _ => ?_
  refine L_s (pc' := 222) rfl rfl ?_
  refine L_br (t := 242) (n := 225) rfl rfl (fun _ => ?_) (fun _ => ?_)
  · refine L_ic (pc' := 243) rfl q1_0 rfl ?_
    refine L_s (pc' := 244) (L' := [some (.ref 215), some (.int v1), some (.int v2), some (.int 0), some (.int v4), none, some (.int v6)]) rfl rfl ?_
    refine L_ii (pc' := 247) (L' := [some (.ref 215), some (.int v1), some (.int v2), some (.int 0), some (.int (v4 + 1)), none, some (.int v6)]) rfl rfl q1_1 rfl rfl rfl ?_
    refine L_s (pc' := 98) rfl rfl ?_
    refine L_wk (L' := [some (.ref 215), some (.int v1), some (.int v2), some (.int 0), some (.int (v4 + 1)), none, none]) (wk_s (wk_s (wk_s (wk_s (wk_s (wk_s (wk_n wk_nil))))))) ?_
    exact hk_98 _ _ _ _ _
  · refine L_s (pc' := 226) rfl rfl ?_
    refine L_gf (pc' := 229) rfl fr_215_25 rfl ?_
    refine L_s (pc' := 231) rfl rfl ?_
    refine L_ic (pc' := 232) rfl q1_4 rfl ?_
    refine L_s (pc' := 233) rfl rfl ?_
    refine L_rI (pc' := 234) rfl sh_226 (by decide) rfl ?_
    refine L_s (pc' := 235) rfl rfl ?_
    refine L_br (t := 242) (n := 238) rfl rfl (fun _ => ?_) (fun _ => ?_)
    · refine L_ic (pc' := 243) rfl q1_0 rfl ?_
      refine L_s (pc' := 244) (L' := [some (.ref 215), some (.int v1), some (.int v2), some (.int 0), some (.int v4), none, some (.int v6)]) rfl rfl ?_
      refine L_ii (pc' := 247) (L' := [some (.ref 215), some (.int v1), some (.int v2), some (.int 0), some (.int (v4 + 1)), none, some (.int v6)]) rfl rfl q1_1 rfl rfl rfl ?_
      refine L_s (pc' := 98) rfl rfl ?_
      refine L_wk (L' := [some (.ref 215), some (.int v1), some (.int v2), some (.int 0), some (.int (v4 + 1)), none, none]) (wk_s (wk_s (wk_s (wk_s (wk_s (wk_s (wk_n wk_nil))))))) ?_
      exact hk_98 _ _ _ _ _
    · refine L_ic (pc' := 239) rfl q1_1 rfl ?_
      refine L_s (pc' := 243) rfl rfl ?_
      refine L_s (pc' := 244) (L' := [some (.ref 215), some (.int v1), some (.int v2), some (.int 1), some (.int v4), none, some (.int v6)]) rfl rfl ?_
      refine L_ii (pc' := 247) (L' := [some (.ref 215), some (.int v1), some (.int v2), some (.int 1), some (.int (v4 + 1)), none, some (.int v6)]) rfl rfl q1_1 rfl rfl rfl ?_
      refine L_s (pc' := 98) rfl rfl ?_
      refine L_wk (L' := [some (.ref 215), some (.int v1), some (.int v2), some (.int 1), some (.int (v4 + 1)), none, none]) (wk_s (wk_s (wk_s (wk_s (wk_s (wk_s (wk_n wk_nil))))))) ?_
      exact hk_98 _ _ _ _ _
theorem p_m_enters_218 {X : Xx} {d : Nat} {k_98 : Int32 → Int32 → Int32 → Int32 → Sg → Option (Int32 × Sg)} (hd : 0 ≤ d) (hk_98 : ∀ (v1 : Int32) (v2 : Int32) (v3 : Int32) (v4 : Int32) (g : Sg), Lt X d (some .boolean) k_216 (fun r : Int32 × Sg => ((some (.int r.1), (SHF, r.2)) : Out)) 98 [some (.ref 215), some (.int v1), some (.int v2), some (.int v3), some (.int v4), none, none] [] g (k_98 v1 v2 v3 v4 g)) (v1 : Int32) (v2 : Int32) (v3 : Int32) (v4 : Int32) (v6 : Int32) (s0 : Int32) (s1 : Int32) (g : Sg) : Lt X d (some .boolean) k_216 (fun r : Int32 × Sg => ((some (.int r.1), (SHF, r.2)) : Out)) 218 [some (.ref 215), some (.int v1), some (.int v2), some (.int v3), some (.int v4), none, some (.int v6)] [.int s0, .int s1, .ref 228] g (m_enters_218 k_98 v1 v2 v3 v4 v6 s0 s1 g) := by
  unfold m_enters_218
  refine L_ic (pc' := 219) rfl q1_0 rfl ?_
  exact p_m_enters_219 hd hk_98 _ _ _ _ _ _ _ _ _
theorem p_m_enters_185 {X : Xx} {d : Nat} {k_98 : Int32 → Int32 → Int32 → Int32 → Sg → Option (Int32 × Sg)} (hd : 0 ≤ d) (hk_98 : ∀ (v1 : Int32) (v2 : Int32) (v3 : Int32) (v4 : Int32) (g : Sg), Lt X d (some .boolean) k_216 (fun r : Int32 × Sg => ((some (.int r.1), (SHF, r.2)) : Out)) 98 [some (.ref 215), some (.int v1), some (.int v2), some (.int v3), some (.int v4), none, none] [] g (k_98 v1 v2 v3 v4 g)) (v1 : Int32) (v2 : Int32) (v3 : Int32) (v4 : Int32) (v5 : Int32) (v6 : Int32) (s0 : Int32) (s1 : Int32) (s2 : Int32) (g : Sg) : Lt X d (some .boolean) k_216 (fun r : Int32 × Sg => ((some (.int r.1), (SHF, r.2)) : Out)) 185 [some (.ref 215), some (.int v1), some (.int v2), some (.int v3), some (.int v4), some (.int v5), some (.int v6)] [.int s0, .int s1, .int s2, .ref 227] g (m_enters_185 k_98 v1 v2 v3 v4 v5 v6 s0 s1 s2 g) := by
  unfold m_enters_185
  refine L_s (pc' := 186) rfl rfl ?_
  refine L_wI (pc' := 187) rfl sh_227 (by decide) rfl ?_
  refine L_let fun g1 _ => ?_
  refine L_s (pc' := 188) rfl rfl ?_
  refine L_gf (pc' := 191) rfl fr_215_27 rfl ?_
  refine L_s (pc' := 193) rfl rfl ?_
  refine L_ic (pc' := 194) rfl q1_4 rfl ?_
  refine L_s (pc' := 195) rfl rfl ?_
  refine L_s (pc' := 196) rfl rfl ?_
  refine L_gf (pc' := 199) rfl fr_215_27 rfl ?_
  refine L_s (pc' := 201) rfl rfl ?_
  refine L_rI (pc' := 202) rfl sh_228 (by decide) rfl ?_
  refine L_s (pc' := 204) rfl rfl ?_
  refine L_br (t := 218) (n := 207) rfl rfl (fun _ => ?_) (fun _ => ?_)
  · refine L_wk (L' := [some (.ref 215), some (.int v1), some (.int v2), some (.int v3), some (.int v4), none, some (.int v6)]) (wk_s (wk_s (wk_s (wk_s (wk_s (wk_n (wk_s wk_nil))))))) ?_
    exact p_m_enters_218 hd hk_98 _ _ _ _ _ _ _ _
  · refine L_s (pc' := 208) rfl rfl ?_
    refine L_ic (pc' := 209) rfl q1_2 rfl ?_
    refine L_rmk (pc' := 210) rfl (by decide) rfl ?_
    refine L_ic (pc' := 211) rfl q1_1 rfl ?_
    refine L_br (t := 218) (n := 214) rfl rfl (fun _ => ?_) (fun _ => ?_)
    · refine L_wk (L' := [some (.ref 215), some (.int v1), some (.int v2), some (.int v3), some (.int v4), none, some (.int v6)]) (wk_s (wk_s (wk_s (wk_s (wk_s (wk_n (wk_s wk_nil))))))) ?_
      exact p_m_enters_218 hd hk_98 _ _ _ _ _ _ _ _
    · refine L_ic (pc' := 215) rfl q1_1 rfl ?_
      refine L_s (pc' := 219) rfl rfl ?_
      refine L_wk (L' := [some (.ref 215), some (.int v1), some (.int v2), some (.int v3), some (.int v4), none, some (.int v6)]) (wk_s (wk_s (wk_s (wk_s (wk_s (wk_n (wk_s wk_nil))))))) ?_
      exact p_m_enters_219 hd hk_98 _ _ _ _ _ _ _ _ _
theorem p_m_enters_159 {X : Xx} {d : Nat} {k_98 : Int32 → Int32 → Int32 → Int32 → Sg → Option (Int32 × Sg)} (hd : 0 ≤ d) (hk_98 : ∀ (v1 : Int32) (v2 : Int32) (v3 : Int32) (v4 : Int32) (g : Sg), Lt X d (some .boolean) k_216 (fun r : Int32 × Sg => ((some (.int r.1), (SHF, r.2)) : Out)) 98 [some (.ref 215), some (.int v1), some (.int v2), some (.int v3), some (.int v4), none, none] [] g (k_98 v1 v2 v3 v4 g)) (v1 : Int32) (v2 : Int32) (v3 : Int32) (v4 : Int32) (v5 : Int32) (v6 : Int32) (s0 : Int32) (s1 : Int32) (g : Sg) : Lt X d (some .boolean) k_216 (fun r : Int32 × Sg => ((some (.int r.1), (SHF, r.2)) : Out)) 159 [some (.ref 215), some (.int v1), some (.int v2), some (.int v3), some (.int v4), some (.int v5), some (.int v6)] [.int s0, .int s1, .ref 226] g (m_enters_159 k_98 v1 v2 v3 v4 v5 v6 s0 s1 g) := by
  unfold m_enters_159
  refine L_wI (pc' := 160) rfl sh_226 (by decide) rfl ?_
  refine L_let fun g1 _ => ?_
  refine L_s (pc' := 161) rfl rfl ?_
  refine L_gf (pc' := 164) rfl fr_215_26 rfl ?_
  refine L_s (pc' := 166) rfl rfl ?_
  refine L_ic (pc' := 167) rfl q1_4 rfl ?_
  refine L_s (pc' := 168) rfl rfl ?_
  refine L_s (pc' := 169) rfl rfl ?_
  refine L_gf (pc' := 172) rfl fr_215_26 rfl ?_
  refine L_s (pc' := 174) rfl rfl ?_
  refine L_rI (pc' := 175) rfl sh_227 (by decide) rfl ?_
  refine L_s (pc' := 177) rfl rfl ?_
  refine L_br (t := 184) (n := 180) rfl rfl (fun _ => ?_) (fun _ => ?_)
  · refine L_ic (pc' := 185) rfl q1_0 rfl ?_
    exact p_m_enters_185 hd hk_98 _ _ _ _ _ _ _ _ _ _
  · refine L_ic (pc' := 181) rfl q1_1 rfl ?_
    refine L_s (pc' := 185) rfl rfl ?_
    exact p_m_enters_185 hd hk_98 _ _ _ _ _ _ _ _ _ _
theorem p_m_enters_123 {X : Xx} {d : Nat} {k_98 : Int32 → Int32 → Int32 → Int32 → Sg → Option (Int32 × Sg)} (hd : 0 ≤ d) (hk_98 : ∀ (v1 : Int32) (v2 : Int32) (v3 : Int32) (v4 : Int32) (g : Sg), Lt X d (some .boolean) k_216 (fun r : Int32 × Sg => ((some (.int r.1), (SHF, r.2)) : Out)) 98 [some (.ref 215), some (.int v1), some (.int v2), some (.int v3), some (.int v4), none, none] [] g (k_98 v1 v2 v3 v4 g)) (v1 : Int32) (v2 : Int32) (v3 : Int32) (v4 : Int32) (s0 : Int32) (g : Sg) : Lt X d (some .boolean) k_216 (fun r : Int32 × Sg => ((some (.int r.1), (SHF, r.2)) : Out)) 123 [some (.ref 215), some (.int v1), some (.int v2), some (.int v3), some (.int v4), none, none] [.int s0] g (m_enters_123 k_98 v1 v2 v3 v4 s0 g) := by
  unfold m_enters_123
  refine L_s (pc' := 125) (L' := [some (.ref 215), some (.int v1), some (.int v2), some (.int v3), some (.int v4), some (.int s0), none]) rfl rfl ?_
  refine L_ic (pc' := 126) rfl q1_4 rfl ?_
  refine L_s (pc' := 127) rfl rfl ?_
  refine L_s (pc' := 128) rfl rfl ?_
  refine L_s (pc' := 130) rfl rfl ?_
  refine L_s (pc' := 131) rfl rfl ?_
  refine L_li fun x1 _ => ?_
  refine L_s (pc' := 133) (L' := [some (.ref 215), some (.int v1), some (.int v2), some (.int v3), some (.int v4), some (.int s0), some (.int x1)]) rfl rfl ?_
  refine L_s (pc' := 134) rfl rfl ?_
  refine L_gf (pc' := 137) rfl fr_215_25 rfl ?_
  refine L_s (pc' := 139) rfl rfl ?_
  refine L_ic (pc' := 140) rfl q1_4 rfl ?_
  refine L_s (pc' := 141) rfl rfl ?_
  refine L_s (pc' := 143) rfl rfl ?_
  refine L_br (t := 150) (n := 146) rfl rfl (fun _ => ?_) (fun _ => ?_)
  · refine L_s (pc' := 151) rfl rfl ?_
    refine L_gf (pc' := 154) rfl fr_215_25 rfl ?_
    refine L_s (pc' := 156) rfl rfl ?_
    refine L_rI (pc' := 157) rfl sh_226 (by decide) rfl ?_
    refine L_ic (pc' := 158) rfl q1_1 rfl ?_
    refine L_s (pc' := 159) rfl rfl ?_
    exact p_m_enters_159 hd hk_98 _ _ _ _ _ _ _ _ _
  · refine L_ic (pc' := 147) rfl q1_0 rfl ?_
    refine L_s (pc' := 159) rfl rfl ?_
    exact p_m_enters_159 hd hk_98 _ _ _ _ _ _ _ _ _
set_option maxRecDepth 20000 in
theorem p_m_enters_98 {X : Xx} {d : Nat} (hd : 0 ≤ d) : ∀ (n : Nat) (v1 : Int32) (v2 : Int32) (v3 : Int32) (v4 : Int32) (g : Sg), Lt X d (some .boolean) k_216 (fun r : Int32 × Sg => ((some (.int r.1), (SHF, r.2)) : Out)) 98 [some (.ref 215), some (.int v1), some (.int v2), some (.int v3), some (.int v4), none, none] [] g (m_enters_98 n v1 v2 v3 v4 g) := by
  intro n
  induction n with
  | zero => intros; exact L_none
  | succ n ih =>
    intro v1 v2 v3 v4 g
    show Lt X d (some .boolean) k_216 (fun r : Int32 × Sg => ((some (.int r.1), (SHF, r.2)) : Out)) 98 [some (.ref 215), some (.int v1), some (.int v2), some (.int v3), some (.int v4), none, none] [] g (
      (if (g 215 30) ≤ v4 then
        (if v3 = 0 ∨ v3 = 1 then (some (v3, g)) else none)
      else
        (if inb v1 8 = true then (if ¬ (g 224 (Int32.toNatClampNeg v1)) = v4 then
          (m_enters_123 (fun v1 v2 v3 v4 g0 => m_enters_98 n v1 v2 v3 v4 g0) v1 v2 v3 v4 0 g)
        else
          (m_enters_123 (fun v1 v2 v3 v4 g0 => m_enters_98 n v1 v2 v3 v4 g0) v1 v2 v3 v4 1 g)) else none)))
    refine L_s (pc' := 100) rfl rfl ?_
    refine L_s (pc' := 101) rfl rfl ?_
    refine L_gf (pc' := 104) rfl fi_215_30 rfl ?_
    refine L_br (t := 250) (n := 107) rfl rfl (fun _ => ?_) (fun _ => ?_)
    · refine L_s (pc' := 251) rfl rfl ?_
      exact L_g fun h => L_ret rfl (ret_z h) rfl
    · refine L_s (pc' := 108) rfl rfl ?_
      refine L_gf (pc' := 111) rfl fr_215_23 rfl ?_
      refine L_s (pc' := 112) rfl rfl ?_
      refine L_rI (pc' := 113) rfl sh_224 (by decide) rfl ?_
      refine L_s (pc' := 115) rfl rfl ?_
      refine L_br (t := 122) (n := 118) rfl rfl (fun _ => ?_) (fun _ => ?_)
      · refine L_ic (pc' := 123) rfl q1_0 rfl ?_
        exact p_m_enters_123 hd (fun _ _ _ _ _ => ih _ _ _ _ _) _ _ _ _ _ _
      · refine L_ic (pc' := 119) rfl q1_1 rfl ?_
        refine L_s (pc' := 123) rfl rfl ?_
        exact p_m_enters_123 hd (fun _ _ _ _ _ => ih _ _ _ _ _) _ _ _ _ _ _
theorem p_m_enters_72 {X : Xx} {d : Nat} (hd : 0 ≤ d) (F : Nat) (v1 : Int32) (v2 : Int32) (s0 : Int32) (s1 : Int32) (s2 : Int32) (g : Sg) : Lt X d (some .boolean) k_216 (fun r : Int32 × Sg => ((some (.int r.1), (SHF, r.2)) : Out)) 72 [some (.ref 215), some (.int v1), some (.int v2), none, none, none, none] [.int s0, .int s1, .int s2, .ref 230] g (m_enters_72 F v1 v2 s0 s1 s2 g) := by
  unfold m_enters_72
  refine L_s (pc' := 73) rfl rfl ?_
  refine L_wI (pc' := 74) rfl sh_230 (by decide) rfl ?_
  refine L_let fun g1 _ => ?_
  refine L_s (pc' := 75) rfl rfl ?_
  refine L_gf (pc' := 78) rfl fr_215_28 rfl ?_
  refine L_s (pc' := 79) rfl rfl ?_
  refine L_ic (pc' := 80) rfl q1_1 rfl ?_
  refine L_s (pc' := 81) rfl rfl ?_
  refine L_rI (pc' := 82) rfl sh_229 (by decide) rfl ?_
  refine L_s (pc' := 83) rfl rfl ?_
  refine L_gf (pc' := 86) rfl fi_215_31 rfl ?_
  refine L_br (t := 93) (n := 89) rfl rfl (fun _ => ?_) (fun _ => ?_)
  · refine L_ic (pc' := 94) rfl q1_0 rfl ?_
    refine L_s (pc' := 95) (L' := [some (.ref 215), some (.int v1), some (.int v2), some (.int 0), none, none, none]) rfl rfl ?_
    refine L_ic (pc' := 96) rfl q1_0 rfl ?_
    refine L_s (pc' := 98) (L' := [some (.ref 215), some (.int v1), some (.int v2), some (.int 0), some (.int 0), none, none]) rfl rfl ?_
    exact p_m_enters_98 hd F _ _ _ _ _
  · refine L_ic (pc' := 90) rfl q1_1 rfl ?_
    refine L_s (pc' := 94) rfl rfl ?_
    refine L_s (pc' := 95) (L' := [some (.ref 215), some (.int v1), some (.int v2), some (.int 1), none, none, none]) rfl rfl ?_
    refine L_ic (pc' := 96) rfl q1_0 rfl ?_
    refine L_s (pc' := 98) (L' := [some (.ref 215), some (.int v1), some (.int v2), some (.int 1), some (.int 0), none, none]) rfl rfl ?_
    exact p_m_enters_98 hd F _ _ _ _ _
theorem p_m_enters_39 {X : Xx} {d : Nat} (hd : 0 ≤ d) (F : Nat) (v1 : Int32) (v2 : Int32) (s0 : Int32) (s1 : Int32) (s2 : Int32) (g : Sg) : Lt X d (some .boolean) k_216 (fun r : Int32 × Sg => ((some (.int r.1), (SHF, r.2)) : Out)) 39 [some (.ref 215), some (.int v1), some (.int v2), none, none, none, none] [.int s0, .int s1, .int s2, .ref 229] g (m_enters_39 F v1 v2 s0 s1 s2 g) := by
  unfold m_enters_39
  refine L_s (pc' := 40) rfl rfl ?_
  refine L_wI (pc' := 41) rfl sh_229 (by decide) rfl ?_
  refine L_let fun g1 _ => ?_
  refine L_s (pc' := 42) rfl rfl ?_
  refine L_gf (pc' := 45) rfl fr_215_29 rfl ?_
  refine L_s (pc' := 46) rfl rfl ?_
  refine L_ic (pc' := 47) rfl q1_1 rfl ?_
  refine L_s (pc' := 48) rfl rfl ?_
  refine L_s (pc' := 49) rfl rfl ?_
  refine L_gf (pc' := 52) rfl fr_215_29 rfl ?_
  refine L_s (pc' := 53) rfl rfl ?_
  refine L_rI (pc' := 54) rfl sh_230 (by decide) rfl ?_
  refine L_s (pc' := 55) rfl rfl ?_
  refine L_gf (pc' := 58) rfl fr_215_23 rfl ?_
  refine L_s (pc' := 59) rfl rfl ?_
  refine L_rI (pc' := 60) rfl sh_224 (by decide) rfl ?_
  refine L_s (pc' := 61) rfl rfl ?_
  refine L_gf (pc' := 64) rfl fi_215_30 rfl ?_
  refine L_br (t := 71) (n := 67) rfl rfl (fun _ => ?_) (fun _ => ?_)
  · refine L_ic (pc' := 72) rfl q1_0 rfl ?_
    exact p_m_enters_72 hd F _ _ _ _ _ _
  · refine L_ic (pc' := 68) rfl q1_1 rfl ?_
    refine L_s (pc' := 72) rfl rfl ?_
    exact p_m_enters_72 hd F _ _ _ _ _ _
theorem p_m_enters_38 {X : Xx} {d : Nat} (hd : 0 ≤ d) (F : Nat) (v1 : Int32) (v2 : Int32) (s0 : Int32) (s1 : Int32) (g : Sg) : Lt X d (some .boolean) k_216 (fun r : Int32 × Sg => ((some (.int r.1), (SHF, r.2)) : Out)) 38 [some (.ref 215), some (.int v1), some (.int v2), none, none, none, none] [.int s0, .int s1, .ref 229] g (m_enters_38 F v1 v2 s0 s1 g) := by
  unfold m_enters_38
  refine L_ic (pc' := 39) rfl q1_0 rfl ?_
  exact p_m_enters_39 hd F _ _ _ _ _ _
theorem e_m_enters {X : Xx} {d : Nat} (hd : 1 ≤ d) (F : Nat) (v1 : Int32) (v2 : Int32) (g : Sg) : ∀ r, m_enters F v1 v2 g = some r → EvM zft mtl X d 216 [.ref 215, .int v1, .int v2] (SHF, g) ((fun r : Int32 × Sg => ((some (.int r.1), (SHF, r.2)) : Out)) r) := by
  obtain ⟨d, rfl⟩ : ∃ d0, d = d0 + 1 := ⟨d - 1, by omega⟩
  have hd : 0 ≤ d := by omega
  refine E_in (f := (fun r : Int32 × Sg => ((some (.int r.1), (SHF, r.2)) : Out))) rfl (Nat.le_of_ble_eq_true rfl) ?_
  unfold m_enters
  change Lt X d (some .boolean) k_216 _ 0 [some (.ref 215), some (.int v1), some (.int v2), none, none, none, none] [] g _
  refine L_s (pc' := 1) rfl rfl ?_
  refine L_gf (pc' := 4) rfl fr_215_28 rfl ?_
  refine L_s (pc' := 5) rfl rfl ?_
  refine L_ic (pc' := 6) rfl q1_1 rfl ?_
  refine L_s (pc' := 7) rfl rfl ?_
  refine L_s (pc' := 8) rfl rfl ?_
  refine L_gf (pc' := 11) rfl fr_215_28 rfl ?_
  refine L_s (pc' := 12) rfl rfl ?_
  refine L_rI (pc' := 13) rfl sh_229 (by decide) rfl ?_
  refine L_s (pc' := 14) rfl rfl ?_
  refine L_br (t := 38) (n := 17) rfl rfl (fun _ => ?_) (fun _ => ?_)
  · exact p_m_enters_38 hd F _ _ _ _ _
  · refine L_s (pc' := 18) rfl rfl ?_
    refine L_gf (pc' := 21) rfl fr_215_23 rfl ?_
    refine L_s (pc' := 22) rfl rfl ?_
    refine L_rI (pc' := 23) rfl sh_224 (by decide) rfl ?_
    refine L_s (pc' := 24) rfl rfl ?_
    refine L_gf (pc' := 27) rfl fr_215_23 rfl ?_
    refine L_s (pc' := 28) rfl rfl ?_
    refine L_ic (pc' := 29) rfl q1_1 rfl ?_
    refine L_s (pc' := 30) rfl rfl ?_
    refine L_rI (pc' := 31) rfl sh_224 (by decide) rfl ?_
    refine L_br (t := 38) (n := 34) rfl rfl (fun _ => ?_) (fun _ => ?_)
    · exact p_m_enters_38 hd F _ _ _ _ _
    · refine L_ic (pc' := 35) rfl q1_1 rfl ?_
      refine L_s (pc' := 39) rfl rfl ?_
      exact p_m_enters_39 hd F _ _ _ _ _ _
def m_isWay_73 (k_12 : Int32 → Int32 → Int32 → Int32 → Int32 → Int32 → Sg → Option (Int32)) (v1 : Int32) (v2 : Int32) (v4 : Int32) (v5 : Int32) (v6 : Int32) (v7 : Int32) (s0 : Int32) (g : Sg) : Option (Int32) :=
  (if v7 ≤ v4 then
    (k_12 v1 v2 s0 v4 v5 (v6 + 1) g)
  else
    (k_12 v1 v2 s0 v7 v5 (v6 + 1) g))
def m_isWay_59 (k_12 : Int32 → Int32 → Int32 → Int32 → Int32 → Int32 → Sg → Option (Int32)) (v1 : Int32) (v2 : Int32) (v3 : Int32) (v4 : Int32) (v6 : Int32) (v7 : Int32) (s0 : Int32) (g : Sg) : Option (Int32) :=
  (if v3 ≤ v7 then
    (m_isWay_73 k_12 v1 v2 v4 s0 v6 v7 v3 g)
  else
    (m_isWay_73 k_12 v1 v2 v4 s0 v6 v7 v7 g))
def m_isWay_58 (k_12 : Int32 → Int32 → Int32 → Int32 → Int32 → Int32 → Sg → Option (Int32)) (v1 : Int32) (v2 : Int32) (v3 : Int32) (v4 : Int32) (v6 : Int32) (v7 : Int32) (g : Sg) : Option (Int32) :=
  (m_isWay_59 k_12 v1 v2 v3 v4 v6 v7 0 g)
def m_isWay_12 : Nat → Int32 → Int32 → Int32 → Int32 → Int32 → Int32 → Sg → Option (Int32)
  | 0, _, _, _, _, _, _, _ => none
  | n + 1, v1, v2, v3, v4, v5, v6, g =>
    (if (g 215 30) ≤ v6 then
      (if v5 = 0 then
        (some 0)
      else
        (if 1 < (v4 - v3) then
          (some 0)
        else
          (some 1)))
    else
      (if inb ((4 * v1) + v6) 36 = true then lt1 ((g 228 (Int32.toNatClampNeg ((4 * v1) + v6))) : Int32) (fun x1 => (if v5 = 0 then
        (m_isWay_58 (fun v1 v2 v3 v4 v5 v6 g0 => m_isWay_12 n v1 v2 v3 v4 v5 v6 g0) v1 v2 v3 v4 v6 x1 g)
      else
        (if inb ((4 * v1) + v6) 36 = true then (if (g 227 (Int32.toNatClampNeg ((4 * v1) + v6))) < v2 then
          (m_isWay_58 (fun v1 v2 v3 v4 v5 v6 g0 => m_isWay_12 n v1 v2 v3 v4 v5 v6 g0) v1 v2 v3 v4 v6 x1 g)
        else
          (m_isWay_59 (fun v1 v2 v3 v4 v5 v6 g0 => m_isWay_12 n v1 v2 v3 v4 v5 v6 g0) v1 v2 v3 v4 v6 x1 1 g)) else none))) else none))
def m_isWay (F : Nat) (v1 : Int32) (v2 : Int32) (g : Sg) : Option (Int32) :=
  (m_isWay_12 F v1 v2 9 0 1 0 g)
theorem p_m_isWay_73 {X : Xx} {d : Nat} {g : Sg} {k_12 : Int32 → Int32 → Int32 → Int32 → Int32 → Int32 → Sg → Option (Int32)} (hd : 0 ≤ d) (hk_12 : ∀ (v1 : Int32) (v2 : Int32) (v3 : Int32) (v4 : Int32) (v5 : Int32) (v6 : Int32), Lt X d (some .boolean) k_217 (fun r : Int32 => ((some (.int r), (SHF, g)) : Out)) 12 [some (.ref 215), some (.int v1), some (.int v2), some (.int v3), some (.int v4), some (.int v5), some (.int v6), none] [] g (k_12 v1 v2 v3 v4 v5 v6 g)) (v1 : Int32) (v2 : Int32) (v4 : Int32) (v5 : Int32) (v6 : Int32) (v7 : Int32) (s0 : Int32) : Lt X d (some .boolean) k_217 (fun r : Int32 => ((some (.int r), (SHF, g)) : Out)) 73 [some (.ref 215), some (.int v1), some (.int v2), none, some (.int v4), some (.int v5), some (.int v6), some (.int v7)] [.int s0] g (m_isWay_73 k_12 v1 v2 v4 v5 v6 v7 s0 g) := by
  unfold m_isWay_73
  refine L_s (pc' := 74) (L' := [some (.ref 215), some (.int v1), some (.int v2), some (.int s0), some (.int v4), some (.int v5), some (.int v6), some (.int v7)]) rfl rfl ?_
  refine L_s (pc' := 76) rfl rfl ?_
  refine L_s (pc' := 78) rfl rfl ?_
  refine L_br (t := 86) (n := 81) rfl rfl (fun _ => ?_) (fun _ => ?_)
  · refine L_s (pc' := 88) rfl rfl ?_
    refine L_s (pc' := 90) (L' := [some (.ref 215), some (.int v1), some (.int v2), some (.int s0), some (.int v4), some (.int v5), some (.int v6), some (.int v7)]) rfl rfl ?_
    refine L_ii (pc' := 93) (L' := [some (.ref 215), some (.int v1), some (.int v2), some (.int s0), some (.int v4), some (.int v5), some (.int (v6 + 1)), some (.int v7)]) rfl rfl q1_1 rfl rfl rfl ?_
    refine L_s (pc' := 12) rfl rfl ?_
    refine L_wk (L' := [some (.ref 215), some (.int v1), some (.int v2), some (.int s0), some (.int v4), some (.int v5), some (.int (v6 + 1)), none]) (wk_s (wk_s (wk_s (wk_s (wk_s (wk_s (wk_s (wk_n wk_nil)))))))) ?_
    exact hk_12 _ _ _ _ _ _
  · refine L_s (pc' := 83) rfl rfl ?_
    refine L_s (pc' := 88) rfl rfl ?_
    refine L_s (pc' := 90) (L' := [some (.ref 215), some (.int v1), some (.int v2), some (.int s0), some (.int v7), some (.int v5), some (.int v6), some (.int v7)]) rfl rfl ?_
    refine L_ii (pc' := 93) (L' := [some (.ref 215), some (.int v1), some (.int v2), some (.int s0), some (.int v7), some (.int v5), some (.int (v6 + 1)), some (.int v7)]) rfl rfl q1_1 rfl rfl rfl ?_
    refine L_s (pc' := 12) rfl rfl ?_
    refine L_wk (L' := [some (.ref 215), some (.int v1), some (.int v2), some (.int s0), some (.int v7), some (.int v5), some (.int (v6 + 1)), none]) (wk_s (wk_s (wk_s (wk_s (wk_s (wk_s (wk_s (wk_n wk_nil)))))))) ?_
    exact hk_12 _ _ _ _ _ _
theorem p_m_isWay_59 {X : Xx} {d : Nat} {g : Sg} {k_12 : Int32 → Int32 → Int32 → Int32 → Int32 → Int32 → Sg → Option (Int32)} (hd : 0 ≤ d) (hk_12 : ∀ (v1 : Int32) (v2 : Int32) (v3 : Int32) (v4 : Int32) (v5 : Int32) (v6 : Int32), Lt X d (some .boolean) k_217 (fun r : Int32 => ((some (.int r), (SHF, g)) : Out)) 12 [some (.ref 215), some (.int v1), some (.int v2), some (.int v3), some (.int v4), some (.int v5), some (.int v6), none] [] g (k_12 v1 v2 v3 v4 v5 v6 g)) (v1 : Int32) (v2 : Int32) (v3 : Int32) (v4 : Int32) (v6 : Int32) (v7 : Int32) (s0 : Int32) : Lt X d (some .boolean) k_217 (fun r : Int32 => ((some (.int r), (SHF, g)) : Out)) 59 [some (.ref 215), some (.int v1), some (.int v2), some (.int v3), some (.int v4), none, some (.int v6), some (.int v7)] [.int s0] g (m_isWay_59 k_12 v1 v2 v3 v4 v6 v7 s0 g) := by
  unfold m_isWay_59
  refine L_s (pc' := 61) (L' := [some (.ref 215), some (.int v1), some (.int v2), some (.int v3), some (.int v4), some (.int s0), some (.int v6), some (.int v7)]) rfl rfl ?_
  refine L_s (pc' := 63) rfl rfl ?_
  refine L_s (pc' := 64) rfl rfl ?_
  refine L_br (t := 72) (n := 67) rfl rfl (fun _ => ?_) (fun _ => ?_)
  · refine L_s (pc' := 73) rfl rfl ?_
    refine L_wk (L' := [some (.ref 215), some (.int v1), some (.int v2), none, some (.int v4), some (.int s0), some (.int v6), some (.int v7)]) (wk_s (wk_s (wk_s (wk_n (wk_s (wk_s (wk_s (wk_s wk_nil)))))))) ?_
    exact p_m_isWay_73 hd hk_12 _ _ _ _ _ _ _
  · refine L_s (pc' := 69) rfl rfl ?_
    refine L_s (pc' := 73) rfl rfl ?_
    refine L_wk (L' := [some (.ref 215), some (.int v1), some (.int v2), none, some (.int v4), some (.int s0), some (.int v6), some (.int v7)]) (wk_s (wk_s (wk_s (wk_n (wk_s (wk_s (wk_s (wk_s wk_nil)))))))) ?_
    exact p_m_isWay_73 hd hk_12 _ _ _ _ _ _ _
theorem p_m_isWay_58 {X : Xx} {d : Nat} {g : Sg} {k_12 : Int32 → Int32 → Int32 → Int32 → Int32 → Int32 → Sg → Option (Int32)} (hd : 0 ≤ d) (hk_12 : ∀ (v1 : Int32) (v2 : Int32) (v3 : Int32) (v4 : Int32) (v5 : Int32) (v6 : Int32), Lt X d (some .boolean) k_217 (fun r : Int32 => ((some (.int r), (SHF, g)) : Out)) 12 [some (.ref 215), some (.int v1), some (.int v2), some (.int v3), some (.int v4), some (.int v5), some (.int v6), none] [] g (k_12 v1 v2 v3 v4 v5 v6 g)) (v1 : Int32) (v2 : Int32) (v3 : Int32) (v4 : Int32) (v6 : Int32) (v7 : Int32) : Lt X d (some .boolean) k_217 (fun r : Int32 => ((some (.int r), (SHF, g)) : Out)) 58 [some (.ref 215), some (.int v1), some (.int v2), some (.int v3), some (.int v4), none, some (.int v6), some (.int v7)] [] g (m_isWay_58 k_12 v1 v2 v3 v4 v6 v7 g) := by
  unfold m_isWay_58
  refine L_ic (pc' := 59) rfl q1_0 rfl ?_
  exact p_m_isWay_59 hd hk_12 _ _ _ _ _ _ _
theorem p_m_isWay_12 {X : Xx} {d : Nat} {g : Sg} (hd : 0 ≤ d) : ∀ (n : Nat) (v1 : Int32) (v2 : Int32) (v3 : Int32) (v4 : Int32) (v5 : Int32) (v6 : Int32), Lt X d (some .boolean) k_217 (fun r : Int32 => ((some (.int r), (SHF, g)) : Out)) 12 [some (.ref 215), some (.int v1), some (.int v2), some (.int v3), some (.int v4), some (.int v5), some (.int v6), none] [] g (m_isWay_12 n v1 v2 v3 v4 v5 v6 g) := by
  intro n
  induction n with
  | zero => intros; exact L_none
  | succ n ih =>
    intro v1 v2 v3 v4 v5 v6
    show Lt X d (some .boolean) k_217 (fun r : Int32 => ((some (.int r), (SHF, g)) : Out)) 12 [some (.ref 215), some (.int v1), some (.int v2), some (.int v3), some (.int v4), some (.int v5), some (.int v6), none] [] g (
      (if (g 215 30) ≤ v6 then
        (if v5 = 0 then
          (some 0)
        else
          (if 1 < (v4 - v3) then
            (some 0)
          else
            (some 1)))
      else
        (if inb ((4 * v1) + v6) 36 = true then lt1 ((g 228 (Int32.toNatClampNeg ((4 * v1) + v6))) : Int32) (fun x1 => (if v5 = 0 then
          (m_isWay_58 (fun v1 v2 v3 v4 v5 v6 g0 => m_isWay_12 n v1 v2 v3 v4 v5 v6 g0) v1 v2 v3 v4 v6 x1 g)
        else
          (if inb ((4 * v1) + v6) 36 = true then (if (g 227 (Int32.toNatClampNeg ((4 * v1) + v6))) < v2 then
            (m_isWay_58 (fun v1 v2 v3 v4 v5 v6 g0 => m_isWay_12 n v1 v2 v3 v4 v5 v6 g0) v1 v2 v3 v4 v6 x1 g)
          else
            (m_isWay_59 (fun v1 v2 v3 v4 v5 v6 g0 => m_isWay_12 n v1 v2 v3 v4 v5 v6 g0) v1 v2 v3 v4 v6 x1 1 g)) else none))) else none)))
    refine L_s (pc' := 14) rfl rfl ?_
    refine L_s (pc' := 15) rfl rfl ?_
    refine L_gf (pc' := 18) rfl fi_215_30 rfl ?_
    refine L_br (t := 96) (n := 21) rfl rfl (fun _ => ?_) (fun _ => ?_)
    · refine L_s (pc' := 98) rfl rfl ?_
      refine L_br (t := 113) (n := 101) rfl rfl (fun _ => ?_) (fun _ => ?_)
      · refine L_ic (pc' := 114) rfl q1_0 rfl ?_
        exact L_ret rfl (ret_z (by decide)) rfl
      · refine L_s (pc' := 103) rfl rfl ?_
        refine L_s (pc' := 104) rfl rfl ?_
        refine L_s (pc' := 105) rfl rfl ?_
        refine L_ic (pc' := 106) rfl q1_1 rfl ?_
        refine L_br (t := 113) (n := 109) rfl rfl (fun _ => ?_) (fun _ => ?_)
        · refine L_ic (pc' := 114) rfl q1_0 rfl ?_
          exact L_ret rfl (ret_z (by decide)) rfl
        · refine L_ic (pc' := 110) rfl q1_1 rfl ?_
          refine L_s (pc' := 114) rfl rfl ?_
          exact L_ret rfl (ret_z (by decide)) rfl
    · refine L_s (pc' := 22) rfl rfl ?_
      refine L_gf (pc' := 25) rfl fr_215_27 rfl ?_
      refine L_ic (pc' := 26) rfl q1_4 rfl ?_
      refine L_s (pc' := 27) rfl rfl ?_
      refine L_s (pc' := 28) rfl rfl ?_
      refine L_s (pc' := 30) rfl rfl ?_
      refine L_s (pc' := 31) rfl rfl ?_
      refine L_rI (pc' := 32) rfl sh_228 (by decide) rfl ?_
      refine L_li fun x1 _ => ?_
      refine L_s (pc' := 34) (L' := [some (.ref 215), some (.int v1), some (.int v2), some (.int v3), some (.int v4), some (.int v5), some (.int v6), some (.int x1)]) rfl rfl ?_
      refine L_s (pc' := 36) rfl rfl ?_
      refine L_br (t := 58) (n := 39) rfl rfl (fun _ => ?_) (fun _ => ?_)
      · refine L_wk (L' := [some (.ref 215), some (.int v1), some (.int v2), some (.int v3), some (.int v4), none, some (.int v6), some (.int x1)]) (wk_s (wk_s (wk_s (wk_s (wk_s (wk_n (wk_s (wk_s wk_nil)))))))) ?_
        exact p_m_isWay_58 hd (fun _ _ _ _ _ _ => ih _ _ _ _ _ _) _ _ _ _ _ _
      · refine L_s (pc' := 40) rfl rfl ?_
        refine L_gf (pc' := 43) rfl fr_215_26 rfl ?_
        refine L_ic (pc' := 44) rfl q1_4 rfl ?_
        refine L_s (pc' := 45) rfl rfl ?_
        refine L_s (pc' := 46) rfl rfl ?_
        refine L_s (pc' := 48) rfl rfl ?_
        refine L_s (pc' := 49) rfl rfl ?_
        refine L_rI (pc' := 50) rfl sh_227 (by decide) rfl ?_
        refine L_s (pc' := 51) rfl rfl ?_
        refine L_br (t := 58) (n := 54) rfl rfl (fun _ => ?_) (fun _ => ?_)
        · refine L_wk (L' := [some (.ref 215), some (.int v1), some (.int v2), some (.int v3), some (.int v4), none, some (.int v6), some (.int x1)]) (wk_s (wk_s (wk_s (wk_s (wk_s (wk_n (wk_s (wk_s wk_nil)))))))) ?_
          exact p_m_isWay_58 hd (fun _ _ _ _ _ _ => ih _ _ _ _ _ _) _ _ _ _ _ _
        · refine L_ic (pc' := 55) rfl q1_1 rfl ?_
          refine L_s (pc' := 59) rfl rfl ?_
          refine L_wk (L' := [some (.ref 215), some (.int v1), some (.int v2), some (.int v3), some (.int v4), none, some (.int v6), some (.int x1)]) (wk_s (wk_s (wk_s (wk_s (wk_s (wk_n (wk_s (wk_s wk_nil)))))))) ?_
          exact p_m_isWay_59 hd (fun _ _ _ _ _ _ => ih _ _ _ _ _ _) _ _ _ _ _ _ _
theorem e_m_isWay {X : Xx} {d : Nat} (hd : 1 ≤ d) (F : Nat) (v1 : Int32) (v2 : Int32) (g : Sg) : ∀ r, m_isWay F v1 v2 g = some r → EvM zft mtl X d 217 [.ref 215, .int v1, .int v2] (SHF, g) ((fun r : Int32 => ((some (.int r), (SHF, g)) : Out)) r) := by
  obtain ⟨d, rfl⟩ : ∃ d0, d = d0 + 1 := ⟨d - 1, by omega⟩
  have hd : 0 ≤ d := by omega
  refine E_in (f := (fun r : Int32 => ((some (.int r), (SHF, g)) : Out))) rfl (Nat.le_of_ble_eq_true rfl) ?_
  unfold m_isWay
  change Lt X d (some .boolean) k_217 _ 0 [some (.ref 215), some (.int v1), some (.int v2), none, none, none, none, none] [] g _
  refine L_bi (pc' := 2) rfl q2_9 rfl ?_
  refine L_s (pc' := 3) (L' := [some (.ref 215), some (.int v1), some (.int v2), some (.int 9), none, none, none, none]) rfl rfl ?_
  refine L_ic (pc' := 4) rfl q1_0 rfl ?_
  refine L_s (pc' := 6) (L' := [some (.ref 215), some (.int v1), some (.int v2), some (.int 9), some (.int 0), none, none, none]) rfl rfl ?_
  refine L_ic (pc' := 7) rfl q1_1 rfl ?_
  refine L_s (pc' := 9) (L' := [some (.ref 215), some (.int v1), some (.int v2), some (.int 9), some (.int 0), some (.int 1), none, none]) rfl rfl ?_
  refine L_ic (pc' := 10) rfl q1_0 rfl ?_
  refine L_s (pc' := 12) (L' := [some (.ref 215), some (.int v1), some (.int v2), some (.int 9), some (.int 0), some (.int 1), some (.int 0), none]) rfl rfl ?_
  exact p_m_isWay_12 hd F _ _ _ _ _ _
def m_keeps_49 : Nat → Int32 → Int32 → Sg → Option (Sg)
  | 0, _, _, _ => none
  | n + 1, v1, v2, g =>
    (if v1 ≤ v2 then
      (some g)
    else
      (if inb v2 8 = true then (if inb v2 8 = true then lt1 (up2 g 225 (Int32.toNatClampNeg v2) (g 224 (Int32.toNatClampNeg v2))) (fun g1 => (m_keeps_49 n v1 (v2 + 1) g1)) else none) else none))
def m_keeps_27 (F : Nat) (v1 : Int32) (g : Sg) : Option (Sg) :=
  (if inb v1 9 = true then lt1 (up2 g 215 31 (g 229 (Int32.toNatClampNeg v1))) (fun g1 => (if inb v1 9 = true then lt1 (up2 g1 215 32 (g1 230 (Int32.toNatClampNeg v1))) (fun g2 => (m_keeps_49 F v1 0 g2)) else none)) else none)
def m_keeps (F : Nat) (v1 : Int32) (g : Sg) : Option (Sg) :=
  (if inb v1 9 = true then (if ¬ (g 229 (Int32.toNatClampNeg v1)) = (g 215 31) then
    (m_keeps_27 F v1 g)
  else
    (if inb v1 9 = true then (if (g 215 32) < (g 230 (Int32.toNatClampNeg v1)) then
      (m_keeps_27 F v1 g)
    else
      (some g)) else none)) else none)
theorem p_m_keeps_49 {X : Xx} {d : Nat} (hd : 0 ≤ d) : ∀ (n : Nat) (v1 : Int32) (v2 : Int32) (g : Sg), Lt X d none k_218 (fun r : Sg => ((none, (SHF, r)) : Out)) 49 [some (.ref 215), some (.int v1), some (.int v2)] [] g (m_keeps_49 n v1 v2 g) := by
  intro n
  induction n with
  | zero => intros; exact L_none
  | succ n ih =>
    intro v1 v2 g
    show Lt X d none k_218 (fun r : Sg => ((none, (SHF, r)) : Out)) 49 [some (.ref 215), some (.int v1), some (.int v2)] [] g (
      (if v1 ≤ v2 then
        (some g)
      else
        (if inb v2 8 = true then (if inb v2 8 = true then lt1 (up2 g 225 (Int32.toNatClampNeg v2) (g 224 (Int32.toNatClampNeg v2))) (fun g1 => (m_keeps_49 n v1 (v2 + 1) g1)) else none) else none)))
    refine L_s (pc' := 50) rfl rfl ?_
    refine L_s (pc' := 51) rfl rfl ?_
    refine L_br (t := 72) (n := 54) rfl rfl (fun _ => ?_) (fun _ => ?_)
    · exact L_ret rfl rfl rfl
    · refine L_s (pc' := 55) rfl rfl ?_
      refine L_gf (pc' := 58) rfl fr_215_24 rfl ?_
      refine L_s (pc' := 59) rfl rfl ?_
      refine L_s (pc' := 60) rfl rfl ?_
      refine L_gf (pc' := 63) rfl fr_215_23 rfl ?_
      refine L_s (pc' := 64) rfl rfl ?_
      refine L_rI (pc' := 65) rfl sh_224 (by decide) rfl ?_
      refine L_wI (pc' := 66) rfl sh_225 (by decide) rfl ?_
      refine L_let fun g1 _ => ?_
      refine L_ii (pc' := 69) (L' := [some (.ref 215), some (.int v1), some (.int (v2 + 1))]) rfl rfl q1_1 rfl rfl rfl ?_
      refine L_s (pc' := 49) rfl rfl ?_
      exact ih _ _ _
theorem p_m_keeps_27 {X : Xx} {d : Nat} (hd : 0 ≤ d) (F : Nat) (v1 : Int32) (g : Sg) : Lt X d none k_218 (fun r : Sg => ((none, (SHF, r)) : Out)) 27 [some (.ref 215), some (.int v1), none] [] g (m_keeps_27 F v1 g) := by
  unfold m_keeps_27
  refine L_s (pc' := 28) rfl rfl ?_
  refine L_s (pc' := 29) rfl rfl ?_
  refine L_gf (pc' := 32) rfl fr_215_28 rfl ?_
  refine L_s (pc' := 33) rfl rfl ?_
  refine L_rI (pc' := 34) rfl sh_229 (by decide) rfl ?_
  refine L_pf (pc' := 37) rfl sh_215 (by decide) rfl rfl ?_
  refine L_let fun g1 _ => ?_
  refine L_s (pc' := 38) rfl rfl ?_
  refine L_s (pc' := 39) rfl rfl ?_
  refine L_gf (pc' := 42) rfl fr_215_29 rfl ?_
  refine L_s (pc' := 43) rfl rfl ?_
  refine L_rI (pc' := 44) rfl sh_230 (by decide) rfl ?_
  refine L_pf (pc' := 47) rfl sh_215 (by decide) rfl rfl ?_
  refine L_let fun g2 _ => ?_
  refine L_ic (pc' := 48) rfl q1_0 rfl ?_
  refine L_s (pc' := 49) (L' := [some (.ref 215), some (.int v1), some (.int 0)]) rfl rfl ?_
  exact p_m_keeps_49 hd F _ _ _
theorem e_m_keeps {X : Xx} {d : Nat} (hd : 1 ≤ d) (F : Nat) (v1 : Int32) (g : Sg) : ∀ r, m_keeps F v1 g = some r → EvM zft mtl X d 218 [.ref 215, .int v1] (SHF, g) ((fun r : Sg => ((none, (SHF, r)) : Out)) r) := by
  obtain ⟨d, rfl⟩ : ∃ d0, d = d0 + 1 := ⟨d - 1, by omega⟩
  have hd : 0 ≤ d := by omega
  refine E_in (f := (fun r : Sg => ((none, (SHF, r)) : Out))) rfl (Nat.le_of_ble_eq_true rfl) ?_
  unfold m_keeps
  change Lt X d none k_218 _ 0 [some (.ref 215), some (.int v1), none] [] g _
  refine L_s (pc' := 1) rfl rfl ?_
  refine L_gf (pc' := 4) rfl fr_215_28 rfl ?_
  refine L_s (pc' := 5) rfl rfl ?_
  refine L_rI (pc' := 6) rfl sh_229 (by decide) rfl ?_
  refine L_s (pc' := 7) rfl rfl ?_
  refine L_gf (pc' := 10) rfl fi_215_31 rfl ?_
  refine L_br (t := 27) (n := 13) rfl rfl (fun _ => ?_) (fun _ => ?_)
  · exact p_m_keeps_27 hd F _ _
  · refine L_s (pc' := 14) rfl rfl ?_
    refine L_gf (pc' := 17) rfl fr_215_29 rfl ?_
    refine L_s (pc' := 18) rfl rfl ?_
    refine L_rI (pc' := 19) rfl sh_230 (by decide) rfl ?_
    refine L_s (pc' := 20) rfl rfl ?_
    refine L_gf (pc' := 23) rfl fi_215_32 rfl ?_
    refine L_br (t := 27) (n := 26) rfl rfl (fun _ => ?_) (fun _ => ?_)
    · exact p_m_keeps_27 hd F _ _
    · exact L_ret rfl rfl rfl
def m_lays_100 (F : Nat) : Nat → Int32 → Int32 → Int32 → Int32 → Sg → Option (Int32 × Sg)
  | 0, _, _, _, _, _ => none
  | n + 1, v1, v3, v4, v5, g =>
    (if v5 < 0 then
      (if 100 ≤ (g 215 31) then
        (some (0, g))
      else
        (some (1, g)))
    else
      (if inb v5 8 = true then (if inb v5 8 = true then lt1 (up2 g 224 (Int32.toNatClampNeg v5) ((g 224 (Int32.toNatClampNeg v5)) + 1)) (fun g1 => (if inb v5 8 = true then (if (g1 224 (Int32.toNatClampNeg v5)) ≤ (g1 215 30) then
        Option.bind (m_enters F v5 v4 g1) (fun (x2, g3) => (if ¬ x2 = 0 then
          (if (v1 - 1) ≤ v5 then
            Option.bind (m_isWay F v1 v3 g3) (fun x4 => (if x4 = 0 then
              (m_lays_100 F n v1 v3 v4 v5 g3)
            else
              Option.bind (m_keeps F v1 g3) (fun g5 => (m_lays_100 F n v1 v3 v4 v5 g5))))
          else
            (if inb (v5 + 1) 8 = true then lt1 (up2 g3 224 (Int32.toNatClampNeg (v5 + 1)) (-1)) (fun g6 => (m_lays_100 F n v1 v3 v4 (v5 + 1) g6)) else none))
        else
          (m_lays_100 F n v1 v3 v4 v5 g3)))
      else
        (m_lays_100 F n v1 v3 v4 (v5 + (-1)) g1)) else none)) else none) else none))
def m_lays_54 (F : Nat) : Nat → Int32 → Int32 → Int32 → Int32 → Sg → Option (Int32 × Sg)
  | 0, _, _, _, _, _ => none
  | n + 1, v1, v3, v4, v5, g =>
    (if 4 ≤ v5 then
      lt1 (up2 g 224 0 (-1)) (fun g1 => (m_lays_100 F F v1 v3 v4 0 g1))
    else
      (if inb v5 36 = true then lt1 (up2 g 226 (Int32.toNatClampNeg v5) 0) (fun g2 => (if inb v5 36 = true then lt1 (up2 g2 227 (Int32.toNatClampNeg v5) 0) (fun g3 => (if inb v5 36 = true then lt1 (up2 g3 228 (Int32.toNatClampNeg v5) 0) (fun g4 => (m_lays_54 F n v1 v3 v4 (v5 + 1) g4)) else none)) else none)) else none))
def m_lays (F : Nat) (v1 : Int32) (v2 : Int32) (v3 : Int32) (v4 : Int32) (g : Sg) : Option (Int32 × Sg) :=
  Option.bind (m_isIn v1 1 8 g) (fun x1 => (if x1 = 0 then
    (some (0, g))
  else
    Option.bind (m_isIn v3 1 4 g) (fun x2 => (if x2 = 0 then
      (some (0, g))
    else
      Option.bind (m_isIn v4 0 7 g) (fun x3 => (if x3 = 0 then
        (some (0, g))
      else
        Option.bind (m_takesPart F v2 g) (fun (x4, g5) => (if ¬ x4 = 0 then
          lt1 (up2 g5 215 31 100) (fun g6 => lt1 (up2 g6 215 32 0) (fun g7 => (m_lays_54 F F v1 v3 v4 0 g7)))
        else
          (some (0, g5))))))))))
theorem p_m_lays_100 {X : Xx} {d : Nat} (hd : 2 ≤ d) (F : Nat) : ∀ (n : Nat) (v1 : Int32) (v3 : Int32) (v4 : Int32) (v5 : Int32) (g : Sg), Lt X d (some .boolean) k_219 (fun r : Int32 × Sg => ((some (.int r.1), (SHF, r.2)) : Out)) 100 [some (.ref 215), some (.int v1), none, some (.int v3), some (.int v4), some (.int v5)] [] g (m_lays_100 F n v1 v3 v4 v5 g) := by
  intro n
  induction n with
  | zero => intros; exact L_none
  | succ n ih =>
    intro v1 v3 v4 v5 g
    show Lt X d (some .boolean) k_219 (fun r : Int32 × Sg => ((some (.int r.1), (SHF, r.2)) : Out)) 100 [some (.ref 215), some (.int v1), none, some (.int v3), some (.int v4), some (.int v5)] [] g (
      (if v5 < 0 then
        (if 100 ≤ (g 215 31) then
          (some (0, g))
        else
          (some (1, g)))
      else
        (if inb v5 8 = true then (if inb v5 8 = true then lt1 (up2 g 224 (Int32.toNatClampNeg v5) ((g 224 (Int32.toNatClampNeg v5)) + 1)) (fun g1 => (if inb v5 8 = true then (if (g1 224 (Int32.toNatClampNeg v5)) ≤ (g1 215 30) then
          Option.bind (m_enters F v5 v4 g1) (fun (x2, g3) => (if ¬ x2 = 0 then
            (if (v1 - 1) ≤ v5 then
              Option.bind (m_isWay F v1 v3 g3) (fun x4 => (if x4 = 0 then
                (m_lays_100 F n v1 v3 v4 v5 g3)
              else
                Option.bind (m_keeps F v1 g3) (fun g5 => (m_lays_100 F n v1 v3 v4 v5 g5))))
            else
              (if inb (v5 + 1) 8 = true then lt1 (up2 g3 224 (Int32.toNatClampNeg (v5 + 1)) (-1)) (fun g6 => (m_lays_100 F n v1 v3 v4 (v5 + 1) g6)) else none))
          else
            (m_lays_100 F n v1 v3 v4 v5 g3)))
        else
          (m_lays_100 F n v1 v3 v4 (v5 + (-1)) g1)) else none)) else none) else none)))
    refine L_s (pc' := 102) rfl rfl ?_
    refine L_br (t := 189) (n := 105) rfl rfl (fun _ => ?_) (fun _ => ?_)
    · refine L_s (pc' := 190) rfl rfl ?_
      refine L_gf (pc' := 193) rfl fi_215_31 rfl ?_
      refine L_bi (pc' := 195) rfl q2_100 rfl ?_
      refine L_br (t := 202) (n := 198) rfl rfl (fun _ => ?_) (fun _ => ?_)
      · refine L_ic (pc' := 203) rfl q1_0 rfl ?_
        exact L_ret rfl (ret_z (by decide)) rfl
      · refine L_ic (pc' := 199) rfl q1_1 rfl ?_
        refine L_s (pc' := 203) rfl rfl ?_
        exact L_ret rfl (ret_z (by decide)) rfl
    · refine L_s (pc' := 106) rfl rfl ?_
      refine L_gf (pc' := 109) rfl fr_215_23 rfl ?_
      refine L_s (pc' := 111) rfl rfl ?_
      refine L_s (pc' := 112) rfl rfl ?_
      refine L_rI (pc' := 113) rfl sh_224 (by decide) rfl ?_
      refine L_ic (pc' := 114) rfl q1_1 rfl ?_
      refine L_s (pc' := 115) rfl rfl ?_
      refine L_wI (pc' := 116) rfl sh_224 (by decide) rfl ?_
      refine L_let fun g1 _ => ?_
      refine L_s (pc' := 117) rfl rfl ?_
      refine L_gf (pc' := 120) rfl fr_215_23 rfl ?_
      refine L_s (pc' := 122) rfl rfl ?_
      refine L_rI (pc' := 123) rfl sh_224 (by decide) rfl ?_
      refine L_s (pc' := 124) rfl rfl ?_
      refine L_gf (pc' := 127) rfl fi_215_30 rfl ?_
      refine L_br (t := 136) (n := 130) rfl rfl (fun _ => ?_) (fun _ => ?_)
      · refine L_s (pc' := 137) rfl rfl ?_
        refine L_s (pc' := 139) rfl rfl ?_
        refine L_s (pc' := 141) rfl rfl ?_
        refine L_cig (pc' := 144) (as := [.ref 215, .int v5, .int v4]) (rest := []) rfl rfl (e_m_enters (by omega) F _ _ _) rfl fun x2 g3 => ?_
        refine L_br (t := 150) (n := 147) rfl rfl (fun _ => ?_) (fun _ => ?_)
        · refine L_s (pc' := 152) rfl rfl ?_
          refine L_s (pc' := 153) rfl rfl ?_
          refine L_ic (pc' := 154) rfl q1_1 rfl ?_
          refine L_s (pc' := 155) rfl rfl ?_
          refine L_br (t := 172) (n := 158) rfl rfl (fun _ => ?_) (fun _ => ?_)
          · refine L_s (pc' := 173) rfl rfl ?_
            refine L_s (pc' := 174) rfl rfl ?_
            refine L_s (pc' := 175) rfl rfl ?_
            refine L_ci (pc' := 178) (as := [.ref 215, .int v1, .int v3]) (rest := []) rfl rfl (e_m_isWay (by omega) F _ _ _) rfl fun x4 => ?_
            refine L_br (t := 100) (n := 181) rfl rfl (fun _ => ?_) (fun _ => ?_)
            · exact ih _ _ _ _ _
            · refine L_s (pc' := 182) rfl rfl ?_
              refine L_s (pc' := 183) rfl rfl ?_
              refine L_cv (pc' := 186) (as := [.ref 215, .int v1]) (rest := []) rfl rfl (e_m_keeps (by omega) F _ _) rfl fun g5 => ?_
              refine L_s (pc' := 100) rfl rfl ?_
              exact ih _ _ _ _ _
          · refine L_ii (pc' := 161) (L' := [some (.ref 215), some (.int v1), none, some (.int v3), some (.int v4), some (.int (v5 + 1))]) rfl rfl q1_1 rfl rfl rfl ?_
            refine L_s (pc' := 162) rfl rfl ?_
            refine L_gf (pc' := 165) rfl fr_215_23 rfl ?_
            refine L_s (pc' := 167) rfl rfl ?_
            refine L_ic (pc' := 168) rfl q1_m1 rfl ?_
            refine L_wI (pc' := 169) rfl sh_224 (by decide) rfl ?_
            refine L_let fun g6 _ => ?_
            refine L_s (pc' := 100) rfl rfl ?_
            exact ih _ _ _ _ _
        · refine L_s (pc' := 100) rfl rfl ?_
          exact ih _ _ _ _ _
      · refine L_ii (pc' := 133) (L' := [some (.ref 215), some (.int v1), none, some (.int v3), some (.int v4), some (.int (v5 + (-1)))]) rfl rfl q1_m1 rfl rfl rfl ?_
        refine L_s (pc' := 100) rfl rfl ?_
        exact ih _ _ _ _ _
theorem p_m_lays_54 {X : Xx} {d : Nat} (hd : 2 ≤ d) (F : Nat) : ∀ (n : Nat) (v1 : Int32) (v3 : Int32) (v4 : Int32) (v5 : Int32) (g : Sg), Lt X d (some .boolean) k_219 (fun r : Int32 × Sg => ((some (.int r.1), (SHF, r.2)) : Out)) 54 [some (.ref 215), some (.int v1), none, some (.int v3), some (.int v4), some (.int v5)] [] g (m_lays_54 F n v1 v3 v4 v5 g) := by
  intro n
  induction n with
  | zero => intros; exact L_none
  | succ n ih =>
    intro v1 v3 v4 v5 g
    show Lt X d (some .boolean) k_219 (fun r : Int32 × Sg => ((some (.int r.1), (SHF, r.2)) : Out)) 54 [some (.ref 215), some (.int v1), none, some (.int v3), some (.int v4), some (.int v5)] [] g (
      (if 4 ≤ v5 then
        lt1 (up2 g 224 0 (-1)) (fun g1 => (m_lays_100 F F v1 v3 v4 0 g1))
      else
        (if inb v5 36 = true then lt1 (up2 g 226 (Int32.toNatClampNeg v5) 0) (fun g2 => (if inb v5 36 = true then lt1 (up2 g2 227 (Int32.toNatClampNeg v5) 0) (fun g3 => (if inb v5 36 = true then lt1 (up2 g3 228 (Int32.toNatClampNeg v5) 0) (fun g4 => (m_lays_54 F n v1 v3 v4 (v5 + 1) g4)) else none)) else none)) else none)))
    refine L_s (pc' := 56) rfl rfl ?_
    refine L_ic (pc' := 57) rfl q1_4 rfl ?_
    refine L_br (t := 90) (n := 60) rfl rfl (fun _ => ?_) (fun _ => ?_)
    · refine L_ic (pc' := 91) rfl q1_0 rfl ?_
      refine L_s (pc' := 93) (L' := [some (.ref 215), some (.int v1), none, some (.int v3), some (.int v4), some (.int 0)]) rfl rfl ?_
      refine L_s (pc' := 94) rfl rfl ?_
      refine L_gf (pc' := 97) rfl fr_215_23 rfl ?_
      refine L_ic (pc' := 98) rfl q1_0 rfl ?_
      refine L_ic (pc' := 99) rfl q1_m1 rfl ?_
      refine L_wIk (pc' := 100) (j := 0) rfl sh_224 (by decide) (by decide) (by decide) rfl ?_
      refine L_let fun g1 _ => ?_
      exact p_m_lays_100 hd F F _ _ _ _ _
    · refine L_s (pc' := 61) rfl rfl ?_
      refine L_gf (pc' := 64) rfl fr_215_25 rfl ?_
      refine L_s (pc' := 66) rfl rfl ?_
      refine L_ic (pc' := 67) rfl q1_0 rfl ?_
      refine L_wI (pc' := 68) rfl sh_226 (by decide) rfl ?_
      refine L_let fun g2 _ => ?_
      refine L_s (pc' := 69) rfl rfl ?_
      refine L_gf (pc' := 72) rfl fr_215_26 rfl ?_
      refine L_s (pc' := 74) rfl rfl ?_
      refine L_ic (pc' := 75) rfl q1_0 rfl ?_
      refine L_wI (pc' := 76) rfl sh_227 (by decide) rfl ?_
      refine L_let fun g3 _ => ?_
      refine L_s (pc' := 77) rfl rfl ?_
      refine L_gf (pc' := 80) rfl fr_215_27 rfl ?_
      refine L_s (pc' := 82) rfl rfl ?_
      refine L_ic (pc' := 83) rfl q1_0 rfl ?_
      refine L_wI (pc' := 84) rfl sh_228 (by decide) rfl ?_
      refine L_let fun g4 _ => ?_
      refine L_ii (pc' := 87) (L' := [some (.ref 215), some (.int v1), none, some (.int v3), some (.int v4), some (.int (v5 + 1))]) rfl rfl q1_1 rfl rfl rfl ?_
      refine L_s (pc' := 54) rfl rfl ?_
      exact ih _ _ _ _ _
theorem e_m_lays {X : Xx} {d : Nat} (hd : 3 ≤ d) (F : Nat) (v1 : Int32) (v2 : Int32) (v3 : Int32) (v4 : Int32) (g : Sg) : ∀ r, m_lays F v1 v2 v3 v4 g = some r → EvM zft mtl X d 219 [.ref 215, .int v1, .int v2, .int v3, .int v4] (SHF, g) ((fun r : Int32 × Sg => ((some (.int r.1), (SHF, r.2)) : Out)) r) := by
  obtain ⟨d, rfl⟩ : ∃ d0, d = d0 + 1 := ⟨d - 1, by omega⟩
  have hd : 2 ≤ d := by omega
  refine E_in (f := (fun r : Int32 × Sg => ((some (.int r.1), (SHF, r.2)) : Out))) rfl (Nat.le_of_ble_eq_true rfl) ?_
  unfold m_lays
  change Lt X d (some .boolean) k_219 _ 0 [some (.ref 215), some (.int v1), some (.int v2), some (.int v3), some (.int v4), none] [] g _
  refine L_s (pc' := 1) rfl rfl ?_
  refine L_ic (pc' := 2) rfl q1_1 rfl ?_
  refine L_bi (pc' := 4) rfl q2_8 rfl ?_
  refine L_ci (pc' := 7) (as := [.int v1, .int 1, .int 8]) (rest := []) rfl rfl (e_m_isIn (by omega) _ _ _ _) rfl fun x1 => ?_
  refine L_br (t := 38) (n := 10) rfl rfl (fun _ => ?_) (fun _ => ?_)
  · refine L_ic (pc' := 39) rfl q1_0 rfl ?_
    exact L_ret rfl (ret_z (by decide)) rfl
  · refine L_s (pc' := 11) rfl rfl ?_
    refine L_ic (pc' := 12) rfl q1_1 rfl ?_
    refine L_ic (pc' := 13) rfl q1_4 rfl ?_
    refine L_ci (pc' := 16) (as := [.int v3, .int 1, .int 4]) (rest := []) rfl rfl (e_m_isIn (by omega) _ _ _ _) rfl fun x2 => ?_
    refine L_br (t := 38) (n := 19) rfl rfl (fun _ => ?_) (fun _ => ?_)
    · refine L_ic (pc' := 39) rfl q1_0 rfl ?_
      exact L_ret rfl (ret_z (by decide)) rfl
    · refine L_s (pc' := 21) rfl rfl ?_
      refine L_ic (pc' := 22) rfl q1_0 rfl ?_
      refine L_bi (pc' := 24) rfl q2_7 rfl ?_
      refine L_ci (pc' := 27) (as := [.int v4, .int 0, .int 7]) (rest := []) rfl rfl (e_m_isIn (by omega) _ _ _ _) rfl fun x3 => ?_
      refine L_br (t := 38) (n := 30) rfl rfl (fun _ => ?_) (fun _ => ?_)
      · refine L_ic (pc' := 39) rfl q1_0 rfl ?_
        exact L_ret rfl (ret_z (by decide)) rfl
      · refine L_s (pc' := 31) rfl rfl ?_
        refine L_s (pc' := 32) rfl rfl ?_
        refine L_cig (pc' := 35) (as := [.ref 215, .int v2]) (rest := []) rfl rfl (e_m_takesPart (by omega) F _ _) rfl fun x4 g5 => ?_
        refine L_br (t := 40) (n := 38) rfl rfl (fun _ => ?_) (fun _ => ?_)
        · refine L_s (pc' := 41) rfl rfl ?_
          refine L_bi (pc' := 43) rfl q2_100 rfl ?_
          refine L_pf (pc' := 46) rfl sh_215 (by decide) rfl rfl ?_
          refine L_let fun g6 _ => ?_
          refine L_s (pc' := 47) rfl rfl ?_
          refine L_ic (pc' := 48) rfl q1_0 rfl ?_
          refine L_pf (pc' := 51) rfl sh_215 (by decide) rfl rfl ?_
          refine L_let fun g7 _ => ?_
          refine L_ic (pc' := 52) rfl q1_0 rfl ?_
          refine L_s (pc' := 54) (L' := [some (.ref 215), some (.int v1), some (.int v2), some (.int v3), some (.int v4), some (.int 0)]) rfl rfl ?_
          refine L_wk (L' := [some (.ref 215), some (.int v1), none, some (.int v3), some (.int v4), some (.int 0)]) (wk_s (wk_s (wk_n (wk_s (wk_s (wk_s wk_nil)))))) ?_
          exact p_m_lays_54 hd F F _ _ _ _ _
        · refine L_ic (pc' := 39) rfl q1_0 rfl ?_
          exact L_ret rfl (ret_z (by decide)) rfl
def m_lay (F : Nat) (v1 : Int32) (v2 : Int32) (v3 : Int32) (v4 : Int32) (v5 : Int32) (g : Sg) : Option (Int32 × Sg) :=
  Option.bind (m_isIn v5 0 1 g) (fun x1 => (if x1 = 0 then
    (some ((-1), g))
  else
    Option.bind (m_lays F v1 v2 v3 v4 g) (fun (x2, g3) => (if x2 = 0 then
      (some ((-1), g3))
    else
      (if ¬ v5 = 0 then
        (some ((g3 215 32), g3))
      else
        (some ((g3 215 31), g3)))))))
theorem e_m_lay {X : Xx} {d : Nat} (hd : 4 ≤ d) (F : Nat) (v1 : Int32) (v2 : Int32) (v3 : Int32) (v4 : Int32) (v5 : Int32) (g : Sg) : ∀ r, m_lay F v1 v2 v3 v4 v5 g = some r → EvM zft mtl X d 220 [.ref 215, .int v1, .int v2, .int v3, .int v4, .int v5] (SHF, g) ((fun r : Int32 × Sg => ((some (.int r.1), (SHF, r.2)) : Out)) r) := by
  obtain ⟨d, rfl⟩ : ∃ d0, d = d0 + 1 := ⟨d - 1, by omega⟩
  have hd : 3 ≤ d := by omega
  refine E_in (f := (fun r : Int32 × Sg => ((some (.int r.1), (SHF, r.2)) : Out))) rfl (Nat.le_of_ble_eq_true rfl) ?_
  unfold m_lay
  change Lt X d (some .int) k_220 _ 0 [some (.ref 215), some (.int v1), some (.int v2), some (.int v3), some (.int v4), some (.int v5)] [] g _
  refine L_s (pc' := 2) rfl rfl ?_
  refine L_ic (pc' := 3) rfl q1_0 rfl ?_
  refine L_ic (pc' := 4) rfl q1_1 rfl ?_
  refine L_ci (pc' := 7) (as := [.int v5, .int 0, .int 1]) (rest := []) rfl rfl (e_m_isIn (by omega) _ _ _ _) rfl fun x1 => ?_
  refine L_br (t := 41) (n := 10) rfl rfl (fun _ => ?_) (fun _ => ?_)
  · refine L_ic (pc' := 42) rfl q1_m1 rfl ?_
    exact L_ret rfl ret_i rfl
  · refine L_s (pc' := 11) rfl rfl ?_
    refine L_s (pc' := 12) rfl rfl ?_
    refine L_s (pc' := 13) rfl rfl ?_
    refine L_s (pc' := 14) rfl rfl ?_
    refine L_s (pc' := 16) rfl rfl ?_
    refine L_cig (pc' := 19) (as := [.ref 215, .int v1, .int v2, .int v3, .int v4]) (rest := []) rfl rfl (e_m_lays (by omega) F _ _ _ _ _) rfl fun x2 g3 => ?_
    refine L_br (t := 41) (n := 22) rfl rfl (fun _ => ?_) (fun _ => ?_)
    · refine L_ic (pc' := 42) rfl q1_m1 rfl ?_
      exact L_ret rfl ret_i rfl
    · refine L_s (pc' := 24) rfl rfl ?_
      refine L_br (t := 34) (n := 27) rfl rfl (fun _ => ?_) (fun _ => ?_)
      · refine L_s (pc' := 35) rfl rfl ?_
        refine L_gf (pc' := 38) rfl fi_215_32 rfl ?_
        refine L_s (pc' := 42) rfl rfl ?_
        exact L_ret rfl ret_i rfl
      · refine L_s (pc' := 28) rfl rfl ?_
        refine L_gf (pc' := 31) rfl fi_215_31 rfl ?_
        refine L_s (pc' := 42) rfl rfl ?_
        exact L_ret rfl ret_i rfl
def m_laid (F : Nat) (v1 : Int32) (v2 : Int32) (v3 : Int32) (v4 : Int32) (v5 : Int32) (g : Sg) : Option (Int32 × Sg) :=
  Option.bind (m_lays F v1 v2 v3 v4 g) (fun (x1, g2) => (if x1 = 0 then
    (some ((-1), g2))
  else
    Option.bind (m_isIn v5 0 (v1 - 1) g2) (fun x3 => (if ¬ x3 = 0 then
      (if inb v5 8 = true then (if ¬ (g2 225 (Int32.toNatClampNeg v5)) = (g2 215 30) then
        (if inb v5 8 = true then (if inb (g2 225 (Int32.toNatClampNeg v5)) 4 = true then (some ((g2 223 (Int32.toNatClampNeg (g2 225 (Int32.toNatClampNeg v5)))), g2)) else none) else none)
      else
        (some (99, g2))) else none)
    else
      (some ((-1), g2))))))
theorem e_m_laid {X : Xx} {d : Nat} (hd : 4 ≤ d) (F : Nat) (v1 : Int32) (v2 : Int32) (v3 : Int32) (v4 : Int32) (v5 : Int32) (g : Sg) : ∀ r, m_laid F v1 v2 v3 v4 v5 g = some r → EvM zft mtl X d 221 [.ref 215, .int v1, .int v2, .int v3, .int v4, .int v5] (SHF, g) ((fun r : Int32 × Sg => ((some (.int r.1), (SHF, r.2)) : Out)) r) := by
  obtain ⟨d, rfl⟩ : ∃ d0, d = d0 + 1 := ⟨d - 1, by omega⟩
  have hd : 3 ≤ d := by omega
  refine E_in (f := (fun r : Int32 × Sg => ((some (.int r.1), (SHF, r.2)) : Out))) rfl (Nat.le_of_ble_eq_true rfl) ?_
  unfold m_laid
  change Lt X d (some .int) k_221 _ 0 [some (.ref 215), some (.int v1), some (.int v2), some (.int v3), some (.int v4), some (.int v5)] [] g _
  refine L_s (pc' := 1) rfl rfl ?_
  refine L_s (pc' := 2) rfl rfl ?_
  refine L_s (pc' := 3) rfl rfl ?_
  refine L_s (pc' := 4) rfl rfl ?_
  refine L_s (pc' := 6) rfl rfl ?_
  refine L_cig (pc' := 9) (as := [.ref 215, .int v1, .int v2, .int v3, .int v4]) (rest := []) rfl rfl (e_m_lays (by omega) F _ _ _ _ _) rfl fun x1 g2 => ?_
  refine L_br (t := 24) (n := 12) rfl rfl (fun _ => ?_) (fun _ => ?_)
  · refine L_ic (pc' := 25) rfl q1_m1 rfl ?_
    exact L_ret rfl ret_i rfl
  · refine L_s (pc' := 14) rfl rfl ?_
    refine L_ic (pc' := 15) rfl q1_0 rfl ?_
    refine L_s (pc' := 16) rfl rfl ?_
    refine L_ic (pc' := 17) rfl q1_1 rfl ?_
    refine L_s (pc' := 18) rfl rfl ?_
    refine L_ci (pc' := 21) (as := [.int v5, .int 0, .int (v1 - 1)]) (rest := []) rfl rfl (e_m_isIn (by omega) _ _ _ _) rfl fun x3 => ?_
    refine L_br (t := 26) (n := 24) rfl rfl (fun _ => ?_) (fun _ => ?_)
    · refine L_s (pc' := 27) rfl rfl ?_
      refine L_gf (pc' := 30) rfl fr_215_24 rfl ?_
      refine L_s (pc' := 32) rfl rfl ?_
      refine L_rI (pc' := 33) rfl sh_225 (by decide) rfl ?_
      refine L_s (pc' := 34) rfl rfl ?_
      refine L_gf (pc' := 37) rfl fi_215_30 rfl ?_
      refine L_br (t := 45) (n := 40) rfl rfl (fun _ => ?_) (fun _ => ?_)
      · refine L_s (pc' := 46) rfl rfl ?_
        refine L_gf (pc' := 49) rfl fr_215_22 rfl ?_
        refine L_s (pc' := 50) rfl rfl ?_
        refine L_gf (pc' := 53) rfl fr_215_24 rfl ?_
        refine L_s (pc' := 55) rfl rfl ?_
        refine L_rI (pc' := 56) rfl sh_225 (by decide) rfl ?_
        refine L_rI (pc' := 57) rfl sh_223 (by decide) rfl ?_
        exact L_ret rfl ret_i rfl
      · refine L_bi (pc' := 42) rfl q2_99 rfl ?_
        refine L_s (pc' := 57) rfl rfl ?_
        exact L_ret rfl ret_i rfl
    · refine L_ic (pc' := 25) rfl q1_m1 rfl ?_
      exact L_ret rfl ret_i rfl
def m_gauge (v1 : Int32) (v2 : Int32) (v3 : Int32) (v4 : Int32) (g : Sg) : Option (Int32 × Sg) :=
  (if (g 216 5) = 150 then
    (some ((-1), g))
  else
    Option.bind (m_isOf_k1 v1 g) (fun x1 => (if x1 = 0 then
      (some ((-1), g))
    else
      Option.bind (m_isIn v2 0 (g 216 3) g) (fun x2 => (if x2 = 0 then
        (some ((-1), g))
      else
        Option.bind (m_isIn v3 0 9999 g) (fun x3 => (if x3 = 0 then
          (some ((-1), g))
        else
          Option.bind (m_isIn v4 0 9999 g) (fun x4 => (if ¬ x4 = 0 then
            lt1 ((1270 + (4 * (g 216 5))) : Int32) (fun x5 => (if inb x5 20360 = true then lt1 (up2 g 216 (Int32.toNatClampNeg x5) v1) (fun g6 => (if inb (x5 + 1) 20360 = true then lt1 (up2 g6 216 (Int32.toNatClampNeg (x5 + 1)) v2) (fun g7 => (if inb (x5 + 2) 20360 = true then lt1 (up2 g7 216 (Int32.toNatClampNeg (x5 + 2)) v3) (fun g8 => (if inb (x5 + 3) 20360 = true then lt1 (up2 g8 216 (Int32.toNatClampNeg (x5 + 3)) v4) (fun g9 => lt1 (up2 g9 216 5 ((g9 216 5) + 1)) (fun g10 => (some ((g10 216 5), g10)))) else none)) else none)) else none)) else none))
          else
            (some ((-1), g)))))))))))
theorem e_m_gauge {X : Xx} {d : Nat} (hd : 3 ≤ d) (v1 : Int32) (v2 : Int32) (v3 : Int32) (v4 : Int32) (g : Sg) : ∀ r, m_gauge v1 v2 v3 v4 g = some r → EvM zft mtl X d 222 [.ref 215, .int v1, .int v2, .int v3, .int v4] (SHF, g) ((fun r : Int32 × Sg => ((some (.int r.1), (SHF, r.2)) : Out)) r) := by
  obtain ⟨d, rfl⟩ : ∃ d0, d = d0 + 1 := ⟨d - 1, by omega⟩
  have hd : 2 ≤ d := by omega
  refine E_in (f := (fun r : Int32 × Sg => ((some (.int r.1), (SHF, r.2)) : Out))) rfl (Nat.le_of_ble_eq_true rfl) ?_
  unfold m_gauge
  change Lt X d (some .int) k_222 _ 0 [some (.ref 215), some (.int v1), some (.int v2), some (.int v3), some (.int v4), none] [] g _
  refine L_s (pc' := 1) rfl rfl ?_
  refine L_gf (pc' := 4) rfl fr_215_0 rfl ?_
  refine L_ic (pc' := 5) rfl q1_5 rfl ?_
  refine L_rIk (pc' := 6) (j := 5) rfl sh_216 (by decide) (by decide) (by decide) rfl ?_
  refine L_si (pc' := 9) rfl q3_150 rfl ?_
  refine L_br (t := 58) (n := 12) rfl rfl (fun _ => ?_) (fun _ => ?_)
  · refine L_ic (pc' := 59) rfl q1_m1 rfl ?_
    exact L_ret rfl ret_i rfl
  · refine L_s (pc' := 13) rfl rfl ?_
    refine L_s (pc' := 14) rfl rfl ?_
    refine L_ic (pc' := 15) rfl q1_1 rfl ?_
    refine L_ci (pc' := 18) (as := [.ref 215, .int v1, .int 1]) (rest := []) rfl rfl (e_m_isOf_k1 (by omega) _ _) rfl fun x1 => ?_
    refine L_br (t := 58) (n := 21) rfl rfl (fun _ => ?_) (fun _ => ?_)
    · refine L_ic (pc' := 59) rfl q1_m1 rfl ?_
      exact L_ret rfl ret_i rfl
    · refine L_s (pc' := 22) rfl rfl ?_
      refine L_ic (pc' := 23) rfl q1_0 rfl ?_
      refine L_s (pc' := 24) rfl rfl ?_
      refine L_gf (pc' := 27) rfl fr_215_0 rfl ?_
      refine L_ic (pc' := 28) rfl q1_3 rfl ?_
      refine L_rIk (pc' := 29) (j := 3) rfl sh_216 (by decide) (by decide) (by decide) rfl ?_
      refine L_ci (pc' := 32) (as := [.int v2, .int 0, .int (g 216 3)]) (rest := []) rfl rfl (e_m_isIn (by omega) _ _ _ _) rfl fun x2 => ?_
      refine L_br (t := 58) (n := 35) rfl rfl (fun _ => ?_) (fun _ => ?_)
      · refine L_ic (pc' := 59) rfl q1_m1 rfl ?_
        exact L_ret rfl ret_i rfl
      · refine L_s (pc' := 36) rfl rfl ?_
        refine L_ic (pc' := 37) rfl q1_0 rfl ?_
        refine L_si (pc' := 40) rfl q3_9999 rfl ?_
        refine L_ci (pc' := 43) (as := [.int v3, .int 0, .int 9999]) (rest := []) rfl rfl (e_m_isIn (by omega) _ _ _ _) rfl fun x3 => ?_
        refine L_br (t := 58) (n := 46) rfl rfl (fun _ => ?_) (fun _ => ?_)
        · refine L_ic (pc' := 59) rfl q1_m1 rfl ?_
          exact L_ret rfl ret_i rfl
        · refine L_s (pc' := 48) rfl rfl ?_
          refine L_ic (pc' := 49) rfl q1_0 rfl ?_
          refine L_si (pc' := 52) rfl q3_9999 rfl ?_
          refine L_ci (pc' := 55) (as := [.int v4, .int 0, .int 9999]) (rest := []) rfl rfl (e_m_isIn (by omega) _ _ _ _) rfl fun x4 => ?_
          refine L_br (t := 60) (n := 58) rfl rfl (fun _ => ?_) (fun _ => ?_)
          · refine L_si (pc' := 63) rfl q3_1270 rfl ?_
            refine L_ic (pc' := 64) rfl q1_4 rfl ?_
            refine L_s (pc' := 65) rfl rfl ?_
            refine L_gf (pc' := 68) rfl fr_215_0 rfl ?_
            refine L_ic (pc' := 69) rfl q1_5 rfl ?_
            refine L_rIk (pc' := 70) (j := 5) rfl sh_216 (by decide) (by decide) (by decide) rfl ?_
            refine L_s (pc' := 71) rfl rfl ?_
            refine L_s (pc' := 72) rfl rfl ?_
            refine L_li fun x5 _ => ?_
            refine L_s (pc' := 74) (L' := [some (.ref 215), some (.int v1), some (.int v2), some (.int v3), some (.int v4), some (.int x5)]) rfl rfl ?_
            refine L_s (pc' := 75) rfl rfl ?_
            refine L_gf (pc' := 78) rfl fr_215_0 rfl ?_
            refine L_s (pc' := 80) rfl rfl ?_
            refine L_s (pc' := 81) rfl rfl ?_
            refine L_wI (pc' := 82) rfl sh_216 (by decide) rfl ?_
            refine L_let fun g6 _ => ?_
            refine L_s (pc' := 83) rfl rfl ?_
            refine L_gf (pc' := 86) rfl fr_215_0 rfl ?_
            refine L_s (pc' := 88) rfl rfl ?_
            refine L_ic (pc' := 89) rfl q1_1 rfl ?_
            refine L_s (pc' := 90) rfl rfl ?_
            refine L_s (pc' := 91) rfl rfl ?_
            refine L_wI (pc' := 92) rfl sh_216 (by decide) rfl ?_
            refine L_let fun g7 _ => ?_
            refine L_s (pc' := 93) rfl rfl ?_
            refine L_gf (pc' := 96) rfl fr_215_0 rfl ?_
            refine L_s (pc' := 98) rfl rfl ?_
            refine L_ic (pc' := 99) rfl q1_2 rfl ?_
            refine L_s (pc' := 100) rfl rfl ?_
            refine L_s (pc' := 101) rfl rfl ?_
            refine L_wI (pc' := 102) rfl sh_216 (by decide) rfl ?_
            refine L_let fun g8 _ => ?_
            refine L_s (pc' := 103) rfl rfl ?_
            refine L_gf (pc' := 106) rfl fr_215_0 rfl ?_
            refine L_s (pc' := 108) rfl rfl ?_
            refine L_ic (pc' := 109) rfl q1_3 rfl ?_
            refine L_s (pc' := 110) rfl rfl ?_
            refine L_s (pc' := 112) rfl rfl ?_
            refine L_wI (pc' := 113) rfl sh_216 (by decide) rfl ?_
            refine L_let fun g9 _ => ?_
            refine L_s (pc' := 114) rfl rfl ?_
            refine L_gf (pc' := 117) rfl fr_215_0 rfl ?_
            refine L_ic (pc' := 118) rfl q1_5 rfl ?_
            refine L_s (pc' := 119) rfl rfl ?_
            refine L_rIk (pc' := 120) (j := 5) rfl sh_216 (by decide) (by decide) (by decide) rfl ?_
            refine L_ic (pc' := 121) rfl q1_1 rfl ?_
            refine L_s (pc' := 122) rfl rfl ?_
            refine L_wIk (pc' := 123) (j := 5) rfl sh_216 (by decide) (by decide) (by decide) rfl ?_
            refine L_let fun g10 _ => ?_
            refine L_s (pc' := 124) rfl rfl ?_
            refine L_gf (pc' := 127) rfl fr_215_0 rfl ?_
            refine L_ic (pc' := 128) rfl q1_5 rfl ?_
            refine L_rIk (pc' := 129) (j := 5) rfl sh_216 (by decide) (by decide) (by decide) rfl ?_
            exact L_ret rfl ret_i rfl
          · refine L_ic (pc' := 59) rfl q1_m1 rfl ?_
            exact L_ret rfl ret_i rfl
def m_rowOf_5 : Nat → Int32 → Int32 → Int32 → Int32 → Sg → Option (Int32)
  | 0, _, _, _, _, _ => none
  | n + 1, v1, v2, v3, v4, g =>
    (if (g 216 5) ≤ v4 then
      (some v3)
    else
      (if inb (1270 + (4 * v4)) 20360 = true then (if ¬ (g 216 (Int32.toNatClampNeg (1270 + (4 * v4)))) = v1 then
        (m_rowOf_5 n v1 v2 v3 (v4 + 1) g)
      else
        (if inb ((1270 + (4 * v4)) + 1) 20360 = true then (if ¬ (g 216 (Int32.toNatClampNeg ((1270 + (4 * v4)) + 1))) = v2 then
          (m_rowOf_5 n v1 v2 v3 (v4 + 1) g)
        else
          (m_rowOf_5 n v1 v2 v4 (v4 + 1) g)) else none)) else none))
def m_rowOf (F : Nat) (v1 : Int32) (v2 : Int32) (g : Sg) : Option (Int32) :=
  (m_rowOf_5 F v1 v2 (-1) 0 g)
theorem p_m_rowOf_5 {X : Xx} {d : Nat} {g : Sg} (hd : 0 ≤ d) : ∀ (n : Nat) (v1 : Int32) (v2 : Int32) (v3 : Int32) (v4 : Int32), Lt X d (some .int) k_223 (fun r : Int32 => ((some (.int r), (SHF, g)) : Out)) 5 [some (.ref 215), some (.int v1), some (.int v2), some (.int v3), some (.int v4)] [] g (m_rowOf_5 n v1 v2 v3 v4 g) := by
  intro n
  induction n with
  | zero => intros; exact L_none
  | succ n ih =>
    intro v1 v2 v3 v4
    show Lt X d (some .int) k_223 (fun r : Int32 => ((some (.int r), (SHF, g)) : Out)) 5 [some (.ref 215), some (.int v1), some (.int v2), some (.int v3), some (.int v4)] [] g (
      (if (g 216 5) ≤ v4 then
        (some v3)
      else
        (if inb (1270 + (4 * v4)) 20360 = true then (if ¬ (g 216 (Int32.toNatClampNeg (1270 + (4 * v4)))) = v1 then
          (m_rowOf_5 n v1 v2 v3 (v4 + 1) g)
        else
          (if inb ((1270 + (4 * v4)) + 1) 20360 = true then (if ¬ (g 216 (Int32.toNatClampNeg ((1270 + (4 * v4)) + 1))) = v2 then
            (m_rowOf_5 n v1 v2 v3 (v4 + 1) g)
          else
            (m_rowOf_5 n v1 v2 v4 (v4 + 1) g)) else none)) else none)))
    refine L_s (pc' := 7) rfl rfl ?_
    refine L_s (pc' := 8) rfl rfl ?_
    refine L_gf (pc' := 11) rfl fr_215_0 rfl ?_
    refine L_ic (pc' := 12) rfl q1_5 rfl ?_
    refine L_rIk (pc' := 13) (j := 5) rfl sh_216 (by decide) (by decide) (by decide) rfl ?_
    refine L_br (t := 61) (n := 16) rfl rfl (fun _ => ?_) (fun _ => ?_)
    · refine L_s (pc' := 62) rfl rfl ?_
      exact L_ret rfl ret_i rfl
    · refine L_s (pc' := 17) rfl rfl ?_
      refine L_gf (pc' := 20) rfl fr_215_0 rfl ?_
      refine L_si (pc' := 23) rfl q3_1270 rfl ?_
      refine L_ic (pc' := 24) rfl q1_4 rfl ?_
      refine L_s (pc' := 26) rfl rfl ?_
      refine L_s (pc' := 27) rfl rfl ?_
      refine L_s (pc' := 28) rfl rfl ?_
      refine L_rI (pc' := 29) rfl sh_216 (by decide) rfl ?_
      refine L_s (pc' := 30) rfl rfl ?_
      refine L_br (t := 55) (n := 33) rfl rfl (fun _ => ?_) (fun _ => ?_)
      · refine L_ii (pc' := 58) (L' := [some (.ref 215), some (.int v1), some (.int v2), some (.int v3), some (.int (v4 + 1))]) rfl rfl q1_1 rfl rfl rfl ?_
        refine L_s (pc' := 5) rfl rfl ?_
        exact ih _ _ _ _
      · refine L_s (pc' := 34) rfl rfl ?_
        refine L_gf (pc' := 37) rfl fr_215_0 rfl ?_
        refine L_si (pc' := 40) rfl q3_1270 rfl ?_
        refine L_ic (pc' := 41) rfl q1_4 rfl ?_
        refine L_s (pc' := 43) rfl rfl ?_
        refine L_s (pc' := 44) rfl rfl ?_
        refine L_s (pc' := 45) rfl rfl ?_
        refine L_ic (pc' := 46) rfl q1_1 rfl ?_
        refine L_s (pc' := 47) rfl rfl ?_
        refine L_rI (pc' := 48) rfl sh_216 (by decide) rfl ?_
        refine L_s (pc' := 49) rfl rfl ?_
        refine L_br (t := 55) (n := 52) rfl rfl (fun _ => ?_) (fun _ => ?_)
        · refine L_ii (pc' := 58) (L' := [some (.ref 215), some (.int v1), some (.int v2), some (.int v3), some (.int (v4 + 1))]) rfl rfl q1_1 rfl rfl rfl ?_
          refine L_s (pc' := 5) rfl rfl ?_
          exact ih _ _ _ _
        · refine L_s (pc' := 54) rfl rfl ?_
          refine L_s (pc' := 55) (L' := [some (.ref 215), some (.int v1), some (.int v2), some (.int v4), some (.int v4)]) rfl rfl ?_
          refine L_ii (pc' := 58) (L' := [some (.ref 215), some (.int v1), some (.int v2), some (.int v4), some (.int (v4 + 1))]) rfl rfl q1_1 rfl rfl rfl ?_
          refine L_s (pc' := 5) rfl rfl ?_
          exact ih _ _ _ _
theorem e_m_rowOf {X : Xx} {d : Nat} (hd : 1 ≤ d) (F : Nat) (v1 : Int32) (v2 : Int32) (g : Sg) : ∀ r, m_rowOf F v1 v2 g = some r → EvM zft mtl X d 223 [.ref 215, .int v1, .int v2] (SHF, g) ((fun r : Int32 => ((some (.int r), (SHF, g)) : Out)) r) := by
  obtain ⟨d, rfl⟩ : ∃ d0, d = d0 + 1 := ⟨d - 1, by omega⟩
  have hd : 0 ≤ d := by omega
  refine E_in (f := (fun r : Int32 => ((some (.int r), (SHF, g)) : Out))) rfl (Nat.le_of_ble_eq_true rfl) ?_
  unfold m_rowOf
  change Lt X d (some .int) k_223 _ 0 [some (.ref 215), some (.int v1), some (.int v2), none, none] [] g _
  refine L_ic (pc' := 1) rfl q1_m1 rfl ?_
  refine L_s (pc' := 2) (L' := [some (.ref 215), some (.int v1), some (.int v2), some (.int (-1)), none]) rfl rfl ?_
  refine L_ic (pc' := 3) rfl q1_0 rfl ?_
  refine L_s (pc' := 5) (L' := [some (.ref 215), some (.int v1), some (.int v2), some (.int (-1)), some (.int 0)]) rfl rfl ?_
  exact p_m_rowOf_5 hd F _ _ _ _
def m_channelOf_k3 (v1 : Int32) (g : Sg) : Option (Int32) :=
  (if inb ((190 + (7 * v1)) + 3) 20360 = true then (some (g 216 (Int32.toNatClampNeg ((190 + (7 * v1)) + 3)))) else none)
theorem e_m_channelOf_k3 {X : Xx} {d : Nat} (hd : 1 ≤ d) (v1 : Int32) (g : Sg) : ∀ r, m_channelOf_k3 v1 g = some r → EvM zft mtl X d 153 [.ref 215, .int v1, .int 3] (SHF, g) ((fun r : Int32 => ((some (.int r), (SHF, g)) : Out)) r) := by
  obtain ⟨d, rfl⟩ : ∃ d0, d = d0 + 1 := ⟨d - 1, by omega⟩
  have hd : 0 ≤ d := by omega
  refine E_in (f := (fun r : Int32 => ((some (.int r), (SHF, g)) : Out))) rfl (Nat.le_of_ble_eq_true rfl) ?_
  unfold m_channelOf_k3
  change Lt X d (some .int) k_153 _ 0 [some (.ref 215), some (.int v1), some (.int 3)] [] g _
  refine L_s (pc' := 1) rfl rfl ?_
  refine L_gf (pc' := 4) rfl fr_215_0 rfl ?_
  refine L_si (pc' := 7) rfl q3_190 rfl ?_
  refine L_bi (pc' := 9) rfl q2_7 rfl ?_
  refine L_s (pc' := 10) rfl rfl ?_
  refine L_s (pc' := 11) rfl rfl ?_
  refine L_s (pc' := 12) rfl rfl ?_
  refine L_s (pc' := 13) rfl rfl ?_
  refine L_s (pc' := 14) rfl rfl ?_
  refine L_rI (pc' := 15) rfl sh_216 (by decide) rfl ?_
  exact L_ret rfl ret_i rfl
def m_lacks (v1 : Int32) (v2 : Int32) (g : Sg) : Option (Int32) :=
  (if inb ((1270 + (4 * v1)) + 2) 20360 = true then lt1 ((g 216 (Int32.toNatClampNeg ((1270 + (4 * v1)) + 2))) : Int32) (fun x1 => (if inb (1270 + (4 * v1)) 20360 = true then Option.bind (m_channelOf_k3 (g 216 (Int32.toNatClampNeg (1270 + (4 * v1)))) g) (fun x2 => (if inb ((1270 + (4 * v1)) + 3) 20360 = true then (some (((x1 - ((x1 * x2) / 1000)) - v2) - (g 216 (Int32.toNatClampNeg ((1270 + (4 * v1)) + 3))))) else none)) else none)) else none)
theorem e_m_lacks {X : Xx} {d : Nat} (hd : 2 ≤ d) (v1 : Int32) (v2 : Int32) (g : Sg) : ∀ r, m_lacks v1 v2 g = some r → EvM zft mtl X d 224 [.ref 215, .int v1, .int v2] (SHF, g) ((fun r : Int32 => ((some (.int r), (SHF, g)) : Out)) r) := by
  obtain ⟨d, rfl⟩ : ∃ d0, d = d0 + 1 := ⟨d - 1, by omega⟩
  have hd : 1 ≤ d := by omega
  refine E_in (f := (fun r : Int32 => ((some (.int r), (SHF, g)) : Out))) rfl (Nat.le_of_ble_eq_true rfl) ?_
  unfold m_lacks
  change Lt X d (some .int) k_224 _ 0 [some (.ref 215), some (.int v1), some (.int v2), none] [] g _
  refine L_s (pc' := 1) rfl rfl ?_
  refine L_gf (pc' := 4) rfl fr_215_0 rfl ?_
  refine L_si (pc' := 7) rfl q3_1270 rfl ?_
  refine L_ic (pc' := 8) rfl q1_4 rfl ?_
  refine L_s (pc' := 9) rfl rfl ?_
  refine L_s (pc' := 10) rfl rfl ?_
  refine L_s (pc' := 11) rfl rfl ?_
  refine L_ic (pc' := 12) rfl q1_2 rfl ?_
  refine L_s (pc' := 13) rfl rfl ?_
  refine L_rI (pc' := 14) rfl sh_216 (by decide) rfl ?_
  refine L_li fun x1 _ => ?_
  refine L_s (pc' := 15) (L' := [some (.ref 215), some (.int v1), some (.int v2), some (.int x1)]) rfl rfl ?_
  refine L_s (pc' := 16) rfl rfl ?_
  refine L_s (pc' := 17) rfl rfl ?_
  refine L_s (pc' := 18) rfl rfl ?_
  refine L_s (pc' := 19) rfl rfl ?_
  refine L_gf (pc' := 22) rfl fr_215_0 rfl ?_
  refine L_si (pc' := 25) rfl q3_1270 rfl ?_
  refine L_ic (pc' := 26) rfl q1_4 rfl ?_
  refine L_s (pc' := 27) rfl rfl ?_
  refine L_s (pc' := 28) rfl rfl ?_
  refine L_s (pc' := 29) rfl rfl ?_
  refine L_rI (pc' := 30) rfl sh_216 (by decide) rfl ?_
  refine L_ic (pc' := 31) rfl q1_3 rfl ?_
  refine L_ci (pc' := 34) (as := [.ref 215, .int (g 216 (Int32.toNatClampNeg (1270 + (4 * v1)))), .int 3]) (rest := [.int x1, .int x1]) rfl rfl (e_m_channelOf_k3 (by omega) _ _) rfl fun x2 => ?_
  refine L_s (pc' := 35) rfl rfl ?_
  refine L_si (pc' := 38) rfl q3_1000 rfl ?_
  refine L_dvk (pc' := 39) rfl (by decide) rfl ?_
  refine L_s (pc' := 40) rfl rfl ?_
  refine L_s (pc' := 41) rfl rfl ?_
  refine L_s (pc' := 42) rfl rfl ?_
  refine L_s (pc' := 43) rfl rfl ?_
  refine L_gf (pc' := 46) rfl fr_215_0 rfl ?_
  refine L_si (pc' := 49) rfl q3_1270 rfl ?_
  refine L_ic (pc' := 50) rfl q1_4 rfl ?_
  refine L_s (pc' := 51) rfl rfl ?_
  refine L_s (pc' := 52) rfl rfl ?_
  refine L_s (pc' := 53) rfl rfl ?_
  refine L_ic (pc' := 54) rfl q1_3 rfl ?_
  refine L_s (pc' := 55) rfl rfl ?_
  refine L_rI (pc' := 56) rfl sh_216 (by decide) rfl ?_
  refine L_s (pc' := 57) rfl rfl ?_
  exact L_ret rfl ret_i rfl
def m_channelOf_k2 (v1 : Int32) (g : Sg) : Option (Int32) :=
  (if inb ((190 + (7 * v1)) + 2) 20360 = true then (some (g 216 (Int32.toNatClampNeg ((190 + (7 * v1)) + 2)))) else none)
theorem e_m_channelOf_k2 {X : Xx} {d : Nat} (hd : 1 ≤ d) (v1 : Int32) (g : Sg) : ∀ r, m_channelOf_k2 v1 g = some r → EvM zft mtl X d 153 [.ref 215, .int v1, .int 2] (SHF, g) ((fun r : Int32 => ((some (.int r), (SHF, g)) : Out)) r) := by
  obtain ⟨d, rfl⟩ : ∃ d0, d = d0 + 1 := ⟨d - 1, by omega⟩
  have hd : 0 ≤ d := by omega
  refine E_in (f := (fun r : Int32 => ((some (.int r), (SHF, g)) : Out))) rfl (Nat.le_of_ble_eq_true rfl) ?_
  unfold m_channelOf_k2
  change Lt X d (some .int) k_153 _ 0 [some (.ref 215), some (.int v1), some (.int 2)] [] g _
  refine L_s (pc' := 1) rfl rfl ?_
  refine L_gf (pc' := 4) rfl fr_215_0 rfl ?_
  refine L_si (pc' := 7) rfl q3_190 rfl ?_
  refine L_bi (pc' := 9) rfl q2_7 rfl ?_
  refine L_s (pc' := 10) rfl rfl ?_
  refine L_s (pc' := 11) rfl rfl ?_
  refine L_s (pc' := 12) rfl rfl ?_
  refine L_s (pc' := 13) rfl rfl ?_
  refine L_s (pc' := 14) rfl rfl ?_
  refine L_rI (pc' := 15) rfl sh_216 (by decide) rfl ?_
  exact L_ret rfl ret_i rfl
def m_closes (v1 : Int32) (v2 : Int32) (g : Sg) : Option (Int32) :=
  (if inb ((1270 + (4 * v1)) + 2) 20360 = true then lt1 ((g 216 (Int32.toNatClampNeg ((1270 + (4 * v1)) + 2))) : Int32) (fun x1 => Option.bind (m_lacks v1 v2 g) (fun x2 => (if 0 < x2 then
    (some 0)
  else
    (if inb ((1270 + (4 * v1)) + 3) 20360 = true then (if inb (1270 + (4 * v1)) 20360 = true then Option.bind (m_channelOf_k2 (g 216 (Int32.toNatClampNeg (1270 + (4 * v1)))) g) (fun x3 => (if ((x1 - ((x1 * x3) / 1000)) + v2) < (g 216 (Int32.toNatClampNeg ((1270 + (4 * v1)) + 3))) then
      (some 0)
    else
      (some 1))) else none) else none)))) else none)
theorem e_m_closes {X : Xx} {d : Nat} (hd : 3 ≤ d) (v1 : Int32) (v2 : Int32) (g : Sg) : ∀ r, m_closes v1 v2 g = some r → EvM zft mtl X d 225 [.ref 215, .int v1, .int v2] (SHF, g) ((fun r : Int32 => ((some (.int r), (SHF, g)) : Out)) r) := by
  obtain ⟨d, rfl⟩ : ∃ d0, d = d0 + 1 := ⟨d - 1, by omega⟩
  have hd : 2 ≤ d := by omega
  refine E_in (f := (fun r : Int32 => ((some (.int r), (SHF, g)) : Out))) rfl (Nat.le_of_ble_eq_true rfl) ?_
  unfold m_closes
  change Lt X d (some .boolean) k_225 _ 0 [some (.ref 215), some (.int v1), some (.int v2), none] [] g _
  refine L_s (pc' := 1) rfl rfl ?_
  refine L_gf (pc' := 4) rfl fr_215_0 rfl ?_
  refine L_si (pc' := 7) rfl q3_1270 rfl ?_
  refine L_ic (pc' := 8) rfl q1_4 rfl ?_
  refine L_s (pc' := 9) rfl rfl ?_
  refine L_s (pc' := 10) rfl rfl ?_
  refine L_s (pc' := 11) rfl rfl ?_
  refine L_ic (pc' := 12) rfl q1_2 rfl ?_
  refine L_s (pc' := 13) rfl rfl ?_
  refine L_rI (pc' := 14) rfl sh_216 (by decide) rfl ?_
  refine L_li fun x1 _ => ?_
  refine L_s (pc' := 15) (L' := [some (.ref 215), some (.int v1), some (.int v2), some (.int x1)]) rfl rfl ?_
  refine L_s (pc' := 16) rfl rfl ?_
  refine L_s (pc' := 17) rfl rfl ?_
  refine L_s (pc' := 18) rfl rfl ?_
  refine L_ci (pc' := 21) (as := [.ref 215, .int v1, .int v2]) (rest := []) rfl rfl (e_m_lacks (by omega) _ _ _) rfl fun x2 => ?_
  refine L_br (t := 72) (n := 24) rfl rfl (fun _ => ?_) (fun _ => ?_)
  · refine L_ic (pc' := 73) rfl q1_0 rfl ?_
    exact L_ret rfl (ret_z (by decide)) rfl
  · refine L_s (pc' := 25) rfl rfl ?_
    refine L_gf (pc' := 28) rfl fr_215_0 rfl ?_
    refine L_si (pc' := 31) rfl q3_1270 rfl ?_
    refine L_ic (pc' := 32) rfl q1_4 rfl ?_
    refine L_s (pc' := 33) rfl rfl ?_
    refine L_s (pc' := 34) rfl rfl ?_
    refine L_s (pc' := 35) rfl rfl ?_
    refine L_ic (pc' := 36) rfl q1_3 rfl ?_
    refine L_s (pc' := 37) rfl rfl ?_
    refine L_rI (pc' := 38) rfl sh_216 (by decide) rfl ?_
    refine L_s (pc' := 39) rfl rfl ?_
    refine L_s (pc' := 40) rfl rfl ?_
    refine L_s (pc' := 41) rfl rfl ?_
    refine L_s (pc' := 42) rfl rfl ?_
    refine L_gf (pc' := 45) rfl fr_215_0 rfl ?_
    refine L_si (pc' := 48) rfl q3_1270 rfl ?_
    refine L_ic (pc' := 49) rfl q1_4 rfl ?_
    refine L_s (pc' := 50) rfl rfl ?_
    refine L_s (pc' := 51) rfl rfl ?_
    refine L_s (pc' := 52) rfl rfl ?_
    refine L_rI (pc' := 53) rfl sh_216 (by decide) rfl ?_
    refine L_ic (pc' := 54) rfl q1_2 rfl ?_
    refine L_ci (pc' := 57) (as := [.ref 215, .int (g 216 (Int32.toNatClampNeg (1270 + (4 * v1)))), .int 2]) (rest := [.int x1, .int x1, .int (g 216 (Int32.toNatClampNeg ((1270 + (4 * v1)) + 3)))]) rfl rfl (e_m_channelOf_k2 (by omega) _ _) rfl fun x3 => ?_
    refine L_s (pc' := 58) rfl rfl ?_
    refine L_si (pc' := 61) rfl q3_1000 rfl ?_
    refine L_dvk (pc' := 62) rfl (by decide) rfl ?_
    refine L_s (pc' := 63) rfl rfl ?_
    refine L_s (pc' := 64) rfl rfl ?_
    refine L_s (pc' := 65) rfl rfl ?_
    refine L_br (t := 72) (n := 68) rfl rfl (fun _ => ?_) (fun _ => ?_)
    · refine L_ic (pc' := 73) rfl q1_0 rfl ?_
      exact L_ret rfl (ret_z (by decide)) rfl
    · refine L_ic (pc' := 69) rfl q1_1 rfl ?_
      refine L_s (pc' := 73) rfl rfl ?_
      exact L_ret rfl (ret_z (by decide)) rfl
def m_isStolen (F : Nat) (v1 : Int32) (v2 : Int32) (v3 : Int32) (g : Sg) : Option (Int32) :=
  Option.bind (m_rowOf F v1 v2 g) (fun x1 => (if x1 < 0 then
    (some 0)
  else
    Option.bind (m_lacks x1 v3 g) (fun x2 => (if x2 ≤ 0 then
      (some 0)
    else
      (some 1)))))
theorem e_m_isStolen {X : Xx} {d : Nat} (hd : 3 ≤ d) (F : Nat) (v1 : Int32) (v2 : Int32) (v3 : Int32) (g : Sg) : ∀ r, m_isStolen F v1 v2 v3 g = some r → EvM zft mtl X d 226 [.ref 215, .int v1, .int v2, .int v3] (SHF, g) ((fun r : Int32 => ((some (.int r), (SHF, g)) : Out)) r) := by
  obtain ⟨d, rfl⟩ : ∃ d0, d = d0 + 1 := ⟨d - 1, by omega⟩
  have hd : 2 ≤ d := by omega
  refine E_in (f := (fun r : Int32 => ((some (.int r), (SHF, g)) : Out))) rfl (Nat.le_of_ble_eq_true rfl) ?_
  unfold m_isStolen
  change Lt X d (some .boolean) k_226 _ 0 [some (.ref 215), some (.int v1), some (.int v2), some (.int v3), none] [] g _
  refine L_s (pc' := 1) rfl rfl ?_
  refine L_s (pc' := 2) rfl rfl ?_
  refine L_s (pc' := 3) rfl rfl ?_
  refine L_ci (pc' := 6) (as := [.ref 215, .int v1, .int v2]) (rest := []) rfl rfl (e_m_rowOf (by omega) F _ _ _) rfl fun x1 => ?_
  refine L_s (pc' := 8) (L' := [some (.ref 215), some (.int v1), some (.int v2), some (.int v3), some (.int x1)]) rfl rfl ?_
  refine L_s (pc' := 10) rfl rfl ?_
  refine L_br (t := 27) (n := 13) rfl rfl (fun _ => ?_) (fun _ => ?_)
  · refine L_ic (pc' := 28) rfl q1_0 rfl ?_
    exact L_ret rfl (ret_z (by decide)) rfl
  · refine L_s (pc' := 14) rfl rfl ?_
    refine L_s (pc' := 16) rfl rfl ?_
    refine L_s (pc' := 17) rfl rfl ?_
    refine L_ci (pc' := 20) (as := [.ref 215, .int x1, .int v3]) (rest := []) rfl rfl (e_m_lacks (by omega) _ _ _) rfl fun x2 => ?_
    refine L_br (t := 27) (n := 23) rfl rfl (fun _ => ?_) (fun _ => ?_)
    · refine L_ic (pc' := 28) rfl q1_0 rfl ?_
      exact L_ret rfl (ret_z (by decide)) rfl
    · refine L_ic (pc' := 24) rfl q1_1 rfl ?_
      refine L_s (pc' := 28) rfl rfl ?_
      exact L_ret rfl (ret_z (by decide)) rfl
def m_stolen_157 (F : Nat) (k_43 : Int32 → Int32 → Int32 → Int32 → Int32 → Int32 → Int32 → Int32 → Int32 → Int32 → Sg → Option (Int32)) : Nat → Int32 → Int32 → Int32 → Int32 → Int32 → Int32 → Int32 → Int32 → Int32 → Int32 → Int32 → Int32 → Sg → Option (Int32)
  | 0, _, _, _, _, _, _, _, _, _, _, _, _, _ => none
  | n + 1, v1, v2, v3, v4, v5, v6, v7, v8, v9, v10, v11, v12, g =>
    Option.bind (m_isStolen F v1 (v11 + v12) v2 g) (fun x1 => (if x1 = 0 then
      (if v7 < v12 then
        (k_43 v1 v2 v3 v4 v5 v6 v12 v11 v9 (v10 + 1) g)
      else
        (if ¬ v12 = v7 then
          (k_43 v1 v2 v3 v4 v5 v6 v7 v8 v9 (v10 + 1) g)
        else
          (if v8 ≤ v11 then
            (k_43 v1 v2 v3 v4 v5 v6 v7 v8 v9 (v10 + 1) g)
          else
            (k_43 v1 v2 v3 v4 v5 v6 v12 v11 v9 (v10 + 1) g))))
    else
      (m_stolen_157 F k_43 n v1 v2 v3 v4 v5 v6 v7 v8 v9 v10 v11 (v12 + 1) g)))
def m_stolen_123 (F : Nat) (k_43 : Int32 → Int32 → Int32 → Int32 → Int32 → Int32 → Int32 → Int32 → Int32 → Int32 → Sg → Option (Int32)) (v1 : Int32) (v2 : Int32) (v3 : Int32) (v4 : Int32) (v6 : Int32) (v7 : Int32) (v8 : Int32) (v9 : Int32) (v10 : Int32) (v11 : Int32) (s0 : Int32) (s1 : Int32) (g : Sg) : Option (Int32) :=
  lt1 ((s1 + s0) : Int32) (fun x1 => Option.bind (m_lacks v10 v2 g) (fun x2 => (if 0 < x2 then
    Option.bind (m_lacks v10 v2 g) (fun x3 => lt1 ((v9 + x3) : Int32) (fun x4 => (m_stolen_157 F k_43 F v1 v2 v3 v4 x1 (v6 + 1) v7 v8 x4 v10 v11 1 g)))
  else
    (k_43 v1 v2 v3 v4 x1 v6 v7 v8 v9 (v10 + 1) g))))
def m_stolen_43 (F : Nat) : Nat → Int32 → Int32 → Int32 → Int32 → Int32 → Int32 → Int32 → Int32 → Int32 → Int32 → Sg → Option (Int32)
  | 0, _, _, _, _, _, _, _, _, _, _, _ => none
  | n + 1, v1, v2, v3, v4, v5, v6, v7, v8, v9, v10, g =>
    (if (g 216 5) ≤ v10 then
      (if v3 = 0 then
        (some v4)
      else (if v3 = 1 then
        (some v5)
      else (if v3 = 2 then
        (some v6)
      else (if v3 = 3 then
        (some v7)
      else (if v3 = 4 then
        (some v8)
      else (if v3 = 5 then
        (some v9)
      else (some (-1))))))))
    else
      (if inb ((1270 + (4 * v10)) + 1) 20360 = true then lt1 ((g 216 (Int32.toNatClampNeg ((1270 + (4 * v10)) + 1))) : Int32) (fun x7 => (if inb (1270 + (4 * v10)) 20360 = true then (if ¬ (g 216 (Int32.toNatClampNeg (1270 + (4 * v10)))) = v1 then
        (m_stolen_43 F n v1 v2 v3 v4 v5 v6 v7 v8 v9 (v10 + 1) g)
      else
        Option.bind (m_rowOf F v1 x7 g) (fun x8 => (if x8 = v10 then
          Option.bind (m_closes v10 v2 g) (fun x9 => (if x9 = 0 then
            (m_stolen_123 F (fun v1 v2 v3 v4 v5 v6 v7 v8 v9 v10 g0 => m_stolen_43 F n v1 v2 v3 v4 v5 v6 v7 v8 v9 v10 g0) v1 v2 v3 (v4 + 1) v6 v7 v8 v9 v10 x7 0 v5 g)
          else
            (m_stolen_123 F (fun v1 v2 v3 v4 v5 v6 v7 v8 v9 v10 g0 => m_stolen_43 F n v1 v2 v3 v4 v5 v6 v7 v8 v9 v10 g0) v1 v2 v3 (v4 + 1) v6 v7 v8 v9 v10 x7 1 v5 g)))
        else
          (m_stolen_43 F n v1 v2 v3 v4 v5 v6 v7 v8 v9 (v10 + 1) g)))) else none)) else none))
def m_stolen (F : Nat) (v1 : Int32) (v2 : Int32) (v3 : Int32) (g : Sg) : Option (Int32) :=
  Option.bind (m_isOf_k1 v1 g) (fun x1 => (if x1 = 0 then
    (some (-1))
  else
    Option.bind (m_isIn v2 0 999 g) (fun x2 => (if ¬ x2 = 0 then
      (m_stolen_43 F F v1 v2 v3 0 0 0 0 (-1) 0 0 g)
    else
      (some (-1))))))
theorem p_m_stolen_157 {X : Xx} {d : Nat} {g : Sg} {k_43 : Int32 → Int32 → Int32 → Int32 → Int32 → Int32 → Int32 → Int32 → Int32 → Int32 → Sg → Option (Int32)} (hd : 3 ≤ d) (hk_43 : ∀ (v1 : Int32) (v2 : Int32) (v3 : Int32) (v4 : Int32) (v5 : Int32) (v6 : Int32) (v7 : Int32) (v8 : Int32) (v9 : Int32) (v10 : Int32), Lt X d (some .int) k_227 (fun r : Int32 => ((some (.int r), (SHF, g)) : Out)) 43 [some (.ref 215), some (.int v1), some (.int v2), some (.int v3), some (.int v4), some (.int v5), some (.int v6), some (.int v7), some (.int v8), some (.int v9), some (.int v10), none, none] [] g (k_43 v1 v2 v3 v4 v5 v6 v7 v8 v9 v10 g)) (F : Nat) : ∀ (n : Nat) (v1 : Int32) (v2 : Int32) (v3 : Int32) (v4 : Int32) (v5 : Int32) (v6 : Int32) (v7 : Int32) (v8 : Int32) (v9 : Int32) (v10 : Int32) (v11 : Int32) (v12 : Int32), Lt X d (some .int) k_227 (fun r : Int32 => ((some (.int r), (SHF, g)) : Out)) 157 [some (.ref 215), some (.int v1), some (.int v2), some (.int v3), some (.int v4), some (.int v5), some (.int v6), some (.int v7), some (.int v8), some (.int v9), some (.int v10), some (.int v11), some (.int v12)] [] g (m_stolen_157 F k_43 n v1 v2 v3 v4 v5 v6 v7 v8 v9 v10 v11 v12 g) := by
  intro n
  induction n with
  | zero => intros; exact L_none
  | succ n ih =>
    intro v1 v2 v3 v4 v5 v6 v7 v8 v9 v10 v11 v12
    show Lt X d (some .int) k_227 (fun r : Int32 => ((some (.int r), (SHF, g)) : Out)) 157 [some (.ref 215), some (.int v1), some (.int v2), some (.int v3), some (.int v4), some (.int v5), some (.int v6), some (.int v7), some (.int v8), some (.int v9), some (.int v10), some (.int v11), some (.int v12)] [] g (
      Option.bind (m_isStolen F v1 (v11 + v12) v2 g) (fun x1 => (if x1 = 0 then
        (if v7 < v12 then
          (k_43 v1 v2 v3 v4 v5 v6 v12 v11 v9 (v10 + 1) g)
        else
          (if ¬ v12 = v7 then
            (k_43 v1 v2 v3 v4 v5 v6 v7 v8 v9 (v10 + 1) g)
          else
            (if v8 ≤ v11 then
              (k_43 v1 v2 v3 v4 v5 v6 v7 v8 v9 (v10 + 1) g)
            else
              (k_43 v1 v2 v3 v4 v5 v6 v12 v11 v9 (v10 + 1) g))))
      else
        (m_stolen_157 F k_43 n v1 v2 v3 v4 v5 v6 v7 v8 v9 v10 v11 (v12 + 1) g))))
    refine L_s (pc' := 158) rfl rfl ?_
    refine L_s (pc' := 159) rfl rfl ?_
    refine L_s (pc' := 161) rfl rfl ?_
    refine L_s (pc' := 163) rfl rfl ?_
    refine L_s (pc' := 164) rfl rfl ?_
    refine L_s (pc' := 165) rfl rfl ?_
    refine L_ci (pc' := 168) (as := [.ref 215, .int v1, .int (v11 + v12), .int v2]) (rest := []) rfl rfl (e_m_isStolen (by omega) F _ _ _ _) rfl fun x1 => ?_
    refine L_br (t := 177) (n := 171) rfl rfl (fun _ => ?_) (fun _ => ?_)
    · refine L_s (pc' := 179) rfl rfl ?_
      refine L_s (pc' := 181) rfl rfl ?_
      refine L_br (t := 198) (n := 184) rfl rfl (fun _ => ?_) (fun _ => ?_)
      · refine L_s (pc' := 200) rfl rfl ?_
        refine L_s (pc' := 202) (L' := [some (.ref 215), some (.int v1), some (.int v2), some (.int v3), some (.int v4), some (.int v5), some (.int v6), some (.int v12), some (.int v8), some (.int v9), some (.int v10), some (.int v11), some (.int v12)]) rfl rfl ?_
        refine L_s (pc' := 204) rfl rfl ?_
        refine L_s (pc' := 206) (L' := [some (.ref 215), some (.int v1), some (.int v2), some (.int v3), some (.int v4), some (.int v5), some (.int v6), some (.int v12), some (.int v11), some (.int v9), some (.int v10), some (.int v11), some (.int v12)]) rfl rfl ?_
        refine L_ii (pc' := 209) (L' := [some (.ref 215), some (.int v1), some (.int v2), some (.int v3), some (.int v4), some (.int v5), some (.int v6), some (.int v12), some (.int v11), some (.int v9), some (.int (v10 + 1)), some (.int v11), some (.int v12)]) rfl rfl q1_1 rfl rfl rfl ?_
        refine L_s (pc' := 43) rfl rfl ?_
        refine L_wk (L' := [some (.ref 215), some (.int v1), some (.int v2), some (.int v3), some (.int v4), some (.int v5), some (.int v6), some (.int v12), some (.int v11), some (.int v9), some (.int (v10 + 1)), none, none]) (wk_s (wk_s (wk_s (wk_s (wk_s (wk_s (wk_s (wk_s (wk_s (wk_s (wk_s (wk_n (wk_n wk_nil))))))))))))) ?_
        exact hk_43 _ _ _ _ _ _ _ _ _ _
      · refine L_s (pc' := 186) rfl rfl ?_
        refine L_s (pc' := 188) rfl rfl ?_
        refine L_br (t := 206) (n := 191) rfl rfl (fun _ => ?_) (fun _ => ?_)
        · refine L_ii (pc' := 209) (L' := [some (.ref 215), some (.int v1), some (.int v2), some (.int v3), some (.int v4), some (.int v5), some (.int v6), some (.int v7), some (.int v8), some (.int v9), some (.int (v10 + 1)), some (.int v11), some (.int v12)]) rfl rfl q1_1 rfl rfl rfl ?_
          refine L_s (pc' := 43) rfl rfl ?_
          refine L_wk (L' := [some (.ref 215), some (.int v1), some (.int v2), some (.int v3), some (.int v4), some (.int v5), some (.int v6), some (.int v7), some (.int v8), some (.int v9), some (.int (v10 + 1)), none, none]) (wk_s (wk_s (wk_s (wk_s (wk_s (wk_s (wk_s (wk_s (wk_s (wk_s (wk_s (wk_n (wk_n wk_nil))))))))))))) ?_
          exact hk_43 _ _ _ _ _ _ _ _ _ _
        · refine L_s (pc' := 193) rfl rfl ?_
          refine L_s (pc' := 195) rfl rfl ?_
          refine L_br (t := 206) (n := 198) rfl rfl (fun _ => ?_) (fun _ => ?_)
          · refine L_ii (pc' := 209) (L' := [some (.ref 215), some (.int v1), some (.int v2), some (.int v3), some (.int v4), some (.int v5), some (.int v6), some (.int v7), some (.int v8), some (.int v9), some (.int (v10 + 1)), some (.int v11), some (.int v12)]) rfl rfl q1_1 rfl rfl rfl ?_
            refine L_s (pc' := 43) rfl rfl ?_
            refine L_wk (L' := [some (.ref 215), some (.int v1), some (.int v2), some (.int v3), some (.int v4), some (.int v5), some (.int v6), some (.int v7), some (.int v8), some (.int v9), some (.int (v10 + 1)), none, none]) (wk_s (wk_s (wk_s (wk_s (wk_s (wk_s (wk_s (wk_s (wk_s (wk_s (wk_s (wk_n (wk_n wk_nil))))))))))))) ?_
            exact hk_43 _ _ _ _ _ _ _ _ _ _
          · refine L_s (pc' := 200) rfl rfl ?_
            refine L_s (pc' := 202) (L' := [some (.ref 215), some (.int v1), some (.int v2), some (.int v3), some (.int v4), some (.int v5), some (.int v6), some (.int v12), some (.int v8), some (.int v9), some (.int v10), some (.int v11), some (.int v12)]) rfl rfl ?_
            refine L_s (pc' := 204) rfl rfl ?_
            refine L_s (pc' := 206) (L' := [some (.ref 215), some (.int v1), some (.int v2), some (.int v3), some (.int v4), some (.int v5), some (.int v6), some (.int v12), some (.int v11), some (.int v9), some (.int v10), some (.int v11), some (.int v12)]) rfl rfl ?_
            refine L_ii (pc' := 209) (L' := [some (.ref 215), some (.int v1), some (.int v2), some (.int v3), some (.int v4), some (.int v5), some (.int v6), some (.int v12), some (.int v11), some (.int v9), some (.int (v10 + 1)), some (.int v11), some (.int v12)]) rfl rfl q1_1 rfl rfl rfl ?_
            refine L_s (pc' := 43) rfl rfl ?_
            refine L_wk (L' := [some (.ref 215), some (.int v1), some (.int v2), some (.int v3), some (.int v4), some (.int v5), some (.int v6), some (.int v12), some (.int v11), some (.int v9), some (.int (v10 + 1)), none, none]) (wk_s (wk_s (wk_s (wk_s (wk_s (wk_s (wk_s (wk_s (wk_s (wk_s (wk_s (wk_n (wk_n wk_nil))))))))))))) ?_
            exact hk_43 _ _ _ _ _ _ _ _ _ _
    · refine L_ii (pc' := 174) (L' := [some (.ref 215), some (.int v1), some (.int v2), some (.int v3), some (.int v4), some (.int v5), some (.int v6), some (.int v7), some (.int v8), some (.int v9), some (.int v10), some (.int v11), some (.int (v12 + 1))]) rfl rfl q1_1 rfl rfl rfl ?_
      refine L_s (pc' := 157) rfl rfl ?_
      exact ih _ _ _ _ _ _ _ _ _ _ _ _
theorem p_m_stolen_123 {X : Xx} {d : Nat} {g : Sg} {k_43 : Int32 → Int32 → Int32 → Int32 → Int32 → Int32 → Int32 → Int32 → Int32 → Int32 → Sg → Option (Int32)} (hd : 3 ≤ d) (hk_43 : ∀ (v1 : Int32) (v2 : Int32) (v3 : Int32) (v4 : Int32) (v5 : Int32) (v6 : Int32) (v7 : Int32) (v8 : Int32) (v9 : Int32) (v10 : Int32), Lt X d (some .int) k_227 (fun r : Int32 => ((some (.int r), (SHF, g)) : Out)) 43 [some (.ref 215), some (.int v1), some (.int v2), some (.int v3), some (.int v4), some (.int v5), some (.int v6), some (.int v7), some (.int v8), some (.int v9), some (.int v10), none, none] [] g (k_43 v1 v2 v3 v4 v5 v6 v7 v8 v9 v10 g)) (F : Nat) (v1 : Int32) (v2 : Int32) (v3 : Int32) (v4 : Int32) (v6 : Int32) (v7 : Int32) (v8 : Int32) (v9 : Int32) (v10 : Int32) (v11 : Int32) (s0 : Int32) (s1 : Int32) : Lt X d (some .int) k_227 (fun r : Int32 => ((some (.int r), (SHF, g)) : Out)) 123 [some (.ref 215), some (.int v1), some (.int v2), some (.int v3), some (.int v4), none, some (.int v6), some (.int v7), some (.int v8), some (.int v9), some (.int v10), some (.int v11), none] [.int s0, .int s1] g (m_stolen_123 F k_43 v1 v2 v3 v4 v6 v7 v8 v9 v10 v11 s0 s1 g) := by
  unfold m_stolen_123
  refine L_s (pc' := 124) rfl rfl ?_
  refine L_li fun x1 _ => ?_
  refine L_s (pc' := 126) (L' := [some (.ref 215), some (.int v1), some (.int v2), some (.int v3), some (.int v4), some (.int x1), some (.int v6), some (.int v7), some (.int v8), some (.int v9), some (.int v10), some (.int v11), none]) rfl rfl ?_
  refine L_s (pc' := 127) rfl rfl ?_
  refine L_s (pc' := 129) rfl rfl ?_
  refine L_s (pc' := 130) rfl rfl ?_
  refine L_ci (pc' := 133) (as := [.ref 215, .int v10, .int v2]) (rest := []) rfl rfl (e_m_lacks (by omega) _ _ _) rfl fun x2 => ?_
  refine L_br (t := 139) (n := 136) rfl rfl (fun _ => ?_) (fun _ => ?_)
  · refine L_ii (pc' := 142) (L' := [some (.ref 215), some (.int v1), some (.int v2), some (.int v3), some (.int v4), some (.int x1), some (.int (v6 + 1)), some (.int v7), some (.int v8), some (.int v9), some (.int v10), some (.int v11), none]) rfl rfl q1_1 rfl rfl rfl ?_
    refine L_s (pc' := 144) rfl rfl ?_
    refine L_s (pc' := 145) rfl rfl ?_
    refine L_s (pc' := 147) rfl rfl ?_
    refine L_s (pc' := 148) rfl rfl ?_
    refine L_ci (pc' := 151) (as := [.ref 215, .int v10, .int v2]) (rest := [.int v9]) rfl rfl (e_m_lacks (by omega) _ _ _) rfl fun x3 => ?_
    refine L_s (pc' := 152) rfl rfl ?_
    refine L_li fun x4 _ => ?_
    refine L_s (pc' := 154) (L' := [some (.ref 215), some (.int v1), some (.int v2), some (.int v3), some (.int v4), some (.int x1), some (.int (v6 + 1)), some (.int v7), some (.int v8), some (.int x4), some (.int v10), some (.int v11), none]) rfl rfl ?_
    refine L_ic (pc' := 155) rfl q1_1 rfl ?_
    refine L_s (pc' := 157) (L' := [some (.ref 215), some (.int v1), some (.int v2), some (.int v3), some (.int v4), some (.int x1), some (.int (v6 + 1)), some (.int v7), some (.int v8), some (.int x4), some (.int v10), some (.int v11), some (.int 1)]) rfl rfl ?_
    exact p_m_stolen_157 hd hk_43 F F _ _ _ _ _ _ _ _ _ _ _ _
  · refine L_s (pc' := 206) rfl rfl ?_
    refine L_ii (pc' := 209) (L' := [some (.ref 215), some (.int v1), some (.int v2), some (.int v3), some (.int v4), some (.int x1), some (.int v6), some (.int v7), some (.int v8), some (.int v9), some (.int (v10 + 1)), some (.int v11), none]) rfl rfl q1_1 rfl rfl rfl ?_
    refine L_s (pc' := 43) rfl rfl ?_
    refine L_wk (L' := [some (.ref 215), some (.int v1), some (.int v2), some (.int v3), some (.int v4), some (.int x1), some (.int v6), some (.int v7), some (.int v8), some (.int v9), some (.int (v10 + 1)), none, none]) (wk_s (wk_s (wk_s (wk_s (wk_s (wk_s (wk_s (wk_s (wk_s (wk_s (wk_s (wk_n (wk_s wk_nil))))))))))))) ?_
    exact hk_43 _ _ _ _ _ _ _ _ _ _
set_option maxRecDepth 20000 in
theorem p_m_stolen_43 {X : Xx} {d : Nat} {g : Sg} (hd : 3 ≤ d) (F : Nat) : ∀ (n : Nat) (v1 : Int32) (v2 : Int32) (v3 : Int32) (v4 : Int32) (v5 : Int32) (v6 : Int32) (v7 : Int32) (v8 : Int32) (v9 : Int32) (v10 : Int32), Lt X d (some .int) k_227 (fun r : Int32 => ((some (.int r), (SHF, g)) : Out)) 43 [some (.ref 215), some (.int v1), some (.int v2), some (.int v3), some (.int v4), some (.int v5), some (.int v6), some (.int v7), some (.int v8), some (.int v9), some (.int v10), none, none] [] g (m_stolen_43 F n v1 v2 v3 v4 v5 v6 v7 v8 v9 v10 g) := by
  intro n
  induction n with
  | zero => intros; exact L_none
  | succ n ih =>
    intro v1 v2 v3 v4 v5 v6 v7 v8 v9 v10
    show Lt X d (some .int) k_227 (fun r : Int32 => ((some (.int r), (SHF, g)) : Out)) 43 [some (.ref 215), some (.int v1), some (.int v2), some (.int v3), some (.int v4), some (.int v5), some (.int v6), some (.int v7), some (.int v8), some (.int v9), some (.int v10), none, none] [] g (
      (if (g 216 5) ≤ v10 then
        (if v3 = 0 then
          (some v4)
        else (if v3 = 1 then
          (some v5)
        else (if v3 = 2 then
          (some v6)
        else (if v3 = 3 then
          (some v7)
        else (if v3 = 4 then
          (some v8)
        else (if v3 = 5 then
          (some v9)
        else (some (-1))))))))
      else
        (if inb ((1270 + (4 * v10)) + 1) 20360 = true then lt1 ((g 216 (Int32.toNatClampNeg ((1270 + (4 * v10)) + 1))) : Int32) (fun x7 => (if inb (1270 + (4 * v10)) 20360 = true then (if ¬ (g 216 (Int32.toNatClampNeg (1270 + (4 * v10)))) = v1 then
          (m_stolen_43 F n v1 v2 v3 v4 v5 v6 v7 v8 v9 (v10 + 1) g)
        else
          Option.bind (m_rowOf F v1 x7 g) (fun x8 => (if x8 = v10 then
            Option.bind (m_closes v10 v2 g) (fun x9 => (if x9 = 0 then
              (m_stolen_123 F (fun v1 v2 v3 v4 v5 v6 v7 v8 v9 v10 g0 => m_stolen_43 F n v1 v2 v3 v4 v5 v6 v7 v8 v9 v10 g0) v1 v2 v3 (v4 + 1) v6 v7 v8 v9 v10 x7 0 v5 g)
            else
              (m_stolen_123 F (fun v1 v2 v3 v4 v5 v6 v7 v8 v9 v10 g0 => m_stolen_43 F n v1 v2 v3 v4 v5 v6 v7 v8 v9 v10 g0) v1 v2 v3 (v4 + 1) v6 v7 v8 v9 v10 x7 1 v5 g)))
          else
            (m_stolen_43 F n v1 v2 v3 v4 v5 v6 v7 v8 v9 (v10 + 1) g)))) else none)) else none)))
    refine L_s (pc' := 45) rfl rfl ?_
    refine L_s (pc' := 46) rfl rfl ?_
    refine L_gf (pc' := 49) rfl fr_215_0 rfl ?_
    refine L_ic (pc' := 50) rfl q1_5 rfl ?_
    refine L_rIk (pc' := 51) (j := 5) rfl sh_216 (by decide) (by decide) (by decide) rfl ?_
    refine L_br (t := 212) (n := 54) rfl rfl (fun _ => ?_) (fun _ => ?_)
    · refine L_s (pc' := 213) rfl rfl ?_
      refine L_if (fun h1 => ?_) (fun h1 => ?_)
      · subst h1
        refine L_ts (t := 252) (off := 39) rfl (by decide) rfl ?_
        refine L_s (pc' := 254) rfl rfl ?_
        exact L_ret rfl ret_i rfl
      refine L_if (fun h2 => ?_) (fun h2 => ?_)
      · subst h2
        refine L_ts (t := 255) (off := 42) rfl (by decide) rfl ?_
        refine L_s (pc' := 257) rfl rfl ?_
        exact L_ret rfl ret_i rfl
      refine L_if (fun h3 => ?_) (fun h3 => ?_)
      · subst h3
        refine L_ts (t := 258) (off := 45) rfl (by decide) rfl ?_
        refine L_s (pc' := 260) rfl rfl ?_
        exact L_ret rfl ret_i rfl
      refine L_if (fun h4 => ?_) (fun h4 => ?_)
      · subst h4
        refine L_ts (t := 261) (off := 48) rfl (by decide) rfl ?_
        refine L_s (pc' := 263) rfl rfl ?_
        exact L_ret rfl ret_i rfl
      refine L_if (fun h5 => ?_) (fun h5 => ?_)
      · subst h5
        refine L_ts (t := 264) (off := 51) rfl (by decide) rfl ?_
        refine L_s (pc' := 266) rfl rfl ?_
        exact L_ret rfl ret_i rfl
      refine L_if (fun h6 => ?_) (fun h6 => ?_)
      · subst h6
        refine L_ts (t := 267) (off := 54) rfl (by decide) rfl ?_
        refine L_s (pc' := 269) rfl rfl ?_
        exact L_ret rfl ret_i rfl
      refine L_ts (off := 57) (t := 270) rfl (twf_out (n := 6) (by decide) (by decide) (fun j hj => by
        match j, hj with
        | 0, _ => exact fun e => h1 (e.trans (by decide))
        | 1, _ => exact fun e => h2 (e.trans (by decide))
        | 2, _ => exact fun e => h3 (e.trans (by decide))
        | 3, _ => exact fun e => h4 (e.trans (by decide))
        | 4, _ => exact fun e => h5 (e.trans (by decide))
        | 5, _ => exact fun e => h6 (e.trans (by decide))
        | j + 6, hj => exact absurd hj (by omega))) rfl ?_
      refine L_ic (pc' := 271) rfl q1_m1 rfl ?_
      exact L_ret rfl ret_i rfl
    · refine L_s (pc' := 55) rfl rfl ?_
      refine L_gf (pc' := 58) rfl fr_215_0 rfl ?_
      refine L_si (pc' := 61) rfl q3_1270 rfl ?_
      refine L_ic (pc' := 62) rfl q1_4 rfl ?_
      refine L_s (pc' := 64) rfl rfl ?_
      refine L_s (pc' := 65) rfl rfl ?_
      refine L_s (pc' := 66) rfl rfl ?_
      refine L_ic (pc' := 67) rfl q1_1 rfl ?_
      refine L_s (pc' := 68) rfl rfl ?_
      refine L_rI (pc' := 69) rfl sh_216 (by decide) rfl ?_
      refine L_li fun x7 _ => ?_
      refine L_s (pc' := 71) (L' := [some (.ref 215), some (.int v1), some (.int v2), some (.int v3), some (.int v4), some (.int v5), some (.int v6), some (.int v7), some (.int v8), some (.int v9), some (.int v10), some (.int x7), none]) rfl rfl ?_
      refine L_s (pc' := 72) rfl rfl ?_
      refine L_gf (pc' := 75) rfl fr_215_0 rfl ?_
      refine L_si (pc' := 78) rfl q3_1270 rfl ?_
      refine L_ic (pc' := 79) rfl q1_4 rfl ?_
      refine L_s (pc' := 81) rfl rfl ?_
      refine L_s (pc' := 82) rfl rfl ?_
      refine L_s (pc' := 83) rfl rfl ?_
      refine L_rI (pc' := 84) rfl sh_216 (by decide) rfl ?_
      refine L_s (pc' := 85) rfl rfl ?_
      refine L_br (t := 206) (n := 88) rfl rfl (fun _ => ?_) (fun _ => ?_)
      · refine L_ii (pc' := 209) (L' := [some (.ref 215), some (.int v1), some (.int v2), some (.int v3), some (.int v4), some (.int v5), some (.int v6), some (.int v7), some (.int v8), some (.int v9), some (.int (v10 + 1)), some (.int x7), none]) rfl rfl q1_1 rfl rfl rfl ?_
        refine L_s (pc' := 43) rfl rfl ?_
        refine L_wk (L' := [some (.ref 215), some (.int v1), some (.int v2), some (.int v3), some (.int v4), some (.int v5), some (.int v6), some (.int v7), some (.int v8), some (.int v9), some (.int (v10 + 1)), none, none]) (wk_s (wk_s (wk_s (wk_s (wk_s (wk_s (wk_s (wk_s (wk_s (wk_s (wk_s (wk_n (wk_s wk_nil))))))))))))) ?_
        exact ih _ _ _ _ _ _ _ _ _ _
      · refine L_s (pc' := 89) rfl rfl ?_
        refine L_s (pc' := 90) rfl rfl ?_
        refine L_s (pc' := 92) rfl rfl ?_
        refine L_ci (pc' := 95) (as := [.ref 215, .int v1, .int x7]) (rest := []) rfl rfl (e_m_rowOf (by omega) F _ _ _) rfl fun x8 => ?_
        refine L_s (pc' := 97) rfl rfl ?_
        refine L_br (t := 103) (n := 100) rfl rfl (fun _ => ?_) (fun _ => ?_)
        · refine L_ii (pc' := 106) (L' := [some (.ref 215), some (.int v1), some (.int v2), some (.int v3), some (.int (v4 + 1)), some (.int v5), some (.int v6), some (.int v7), some (.int v8), some (.int v9), some (.int v10), some (.int x7), none]) rfl rfl q1_1 rfl rfl rfl ?_
          refine L_s (pc' := 108) rfl rfl ?_
          refine L_s (pc' := 109) rfl rfl ?_
          refine L_s (pc' := 111) rfl rfl ?_
          refine L_s (pc' := 112) rfl rfl ?_
          refine L_ci (pc' := 115) (as := [.ref 215, .int v10, .int v2]) (rest := [.int v5]) rfl rfl (e_m_closes (by omega) _ _ _) rfl fun x9 => ?_
          refine L_br (t := 122) (n := 118) rfl rfl (fun _ => ?_) (fun _ => ?_)
          · refine L_ic (pc' := 123) rfl q1_0 rfl ?_
            refine L_wk (L' := [some (.ref 215), some (.int v1), some (.int v2), some (.int v3), some (.int (v4 + 1)), none, some (.int v6), some (.int v7), some (.int v8), some (.int v9), some (.int v10), some (.int x7), none]) (wk_s (wk_s (wk_s (wk_s (wk_s (wk_n (wk_s (wk_s (wk_s (wk_s (wk_s (wk_s (wk_s wk_nil))))))))))))) ?_
            exact p_m_stolen_123 hd (fun _ _ _ _ _ _ _ _ _ _ => ih _ _ _ _ _ _ _ _ _ _) F _ _ _ _ _ _ _ _ _ _ _ _
          · refine L_ic (pc' := 119) rfl q1_1 rfl ?_
            refine L_s (pc' := 123) rfl rfl ?_
            refine L_wk (L' := [some (.ref 215), some (.int v1), some (.int v2), some (.int v3), some (.int (v4 + 1)), none, some (.int v6), some (.int v7), some (.int v8), some (.int v9), some (.int v10), some (.int x7), none]) (wk_s (wk_s (wk_s (wk_s (wk_s (wk_n (wk_s (wk_s (wk_s (wk_s (wk_s (wk_s (wk_s wk_nil))))))))))))) ?_
            exact p_m_stolen_123 hd (fun _ _ _ _ _ _ _ _ _ _ => ih _ _ _ _ _ _ _ _ _ _) F _ _ _ _ _ _ _ _ _ _ _ _
        · refine L_s (pc' := 206) rfl rfl ?_
          refine L_ii (pc' := 209) (L' := [some (.ref 215), some (.int v1), some (.int v2), some (.int v3), some (.int v4), some (.int v5), some (.int v6), some (.int v7), some (.int v8), some (.int v9), some (.int (v10 + 1)), some (.int x7), none]) rfl rfl q1_1 rfl rfl rfl ?_
          refine L_s (pc' := 43) rfl rfl ?_
          refine L_wk (L' := [some (.ref 215), some (.int v1), some (.int v2), some (.int v3), some (.int v4), some (.int v5), some (.int v6), some (.int v7), some (.int v8), some (.int v9), some (.int (v10 + 1)), none, none]) (wk_s (wk_s (wk_s (wk_s (wk_s (wk_s (wk_s (wk_s (wk_s (wk_s (wk_s (wk_n (wk_s wk_nil))))))))))))) ?_
          exact ih _ _ _ _ _ _ _ _ _ _
theorem e_m_stolen {X : Xx} {d : Nat} (hd : 4 ≤ d) (F : Nat) (v1 : Int32) (v2 : Int32) (v3 : Int32) (g : Sg) : ∀ r, m_stolen F v1 v2 v3 g = some r → EvM zft mtl X d 227 [.ref 215, .int v1, .int v2, .int v3] (SHF, g) ((fun r : Int32 => ((some (.int r), (SHF, g)) : Out)) r) := by
  obtain ⟨d, rfl⟩ : ∃ d0, d = d0 + 1 := ⟨d - 1, by omega⟩
  have hd : 3 ≤ d := by omega
  refine E_in (f := (fun r : Int32 => ((some (.int r), (SHF, g)) : Out))) rfl (Nat.le_of_ble_eq_true rfl) ?_
  unfold m_stolen
  change Lt X d (some .int) k_227 _ 0 [some (.ref 215), some (.int v1), some (.int v2), some (.int v3), none, none, none, none, none, none, none, none, none] [] g _
  refine L_s (pc' := 1) rfl rfl ?_
  refine L_s (pc' := 2) rfl rfl ?_
  refine L_ic (pc' := 3) rfl q1_1 rfl ?_
  refine L_ci (pc' := 6) (as := [.ref 215, .int v1, .int 1]) (rest := []) rfl rfl (e_m_isOf_k1 (by omega) _ _) rfl fun x1 => ?_
  refine L_br (t := 20) (n := 9) rfl rfl (fun _ => ?_) (fun _ => ?_)
  · refine L_ic (pc' := 21) rfl q1_m1 rfl ?_
    exact L_ret rfl ret_i rfl
  · refine L_s (pc' := 10) rfl rfl ?_
    refine L_ic (pc' := 11) rfl q1_0 rfl ?_
    refine L_si (pc' := 14) rfl q3_999 rfl ?_
    refine L_ci (pc' := 17) (as := [.int v2, .int 0, .int 999]) (rest := []) rfl rfl (e_m_isIn (by omega) _ _ _ _) rfl fun x2 => ?_
    refine L_br (t := 22) (n := 20) rfl rfl (fun _ => ?_) (fun _ => ?_)
    · refine L_ic (pc' := 23) rfl q1_0 rfl ?_
      refine L_s (pc' := 25) (L' := [some (.ref 215), some (.int v1), some (.int v2), some (.int v3), some (.int 0), none, none, none, none, none, none, none, none]) rfl rfl ?_
      refine L_ic (pc' := 26) rfl q1_0 rfl ?_
      refine L_s (pc' := 28) (L' := [some (.ref 215), some (.int v1), some (.int v2), some (.int v3), some (.int 0), some (.int 0), none, none, none, none, none, none, none]) rfl rfl ?_
      refine L_ic (pc' := 29) rfl q1_0 rfl ?_
      refine L_s (pc' := 31) (L' := [some (.ref 215), some (.int v1), some (.int v2), some (.int v3), some (.int 0), some (.int 0), some (.int 0), none, none, none, none, none, none]) rfl rfl ?_
      refine L_ic (pc' := 32) rfl q1_0 rfl ?_
      refine L_s (pc' := 34) (L' := [some (.ref 215), some (.int v1), some (.int v2), some (.int v3), some (.int 0), some (.int 0), some (.int 0), some (.int 0), none, none, none, none, none]) rfl rfl ?_
      refine L_ic (pc' := 35) rfl q1_m1 rfl ?_
      refine L_s (pc' := 37) (L' := [some (.ref 215), some (.int v1), some (.int v2), some (.int v3), some (.int 0), some (.int 0), some (.int 0), some (.int 0), some (.int (-1)), none, none, none, none]) rfl rfl ?_
      refine L_ic (pc' := 38) rfl q1_0 rfl ?_
      refine L_s (pc' := 40) (L' := [some (.ref 215), some (.int v1), some (.int v2), some (.int v3), some (.int 0), some (.int 0), some (.int 0), some (.int 0), some (.int (-1)), some (.int 0), none, none, none]) rfl rfl ?_
      refine L_ic (pc' := 41) rfl q1_0 rfl ?_
      refine L_s (pc' := 43) (L' := [some (.ref 215), some (.int v1), some (.int v2), some (.int v3), some (.int 0), some (.int 0), some (.int 0), some (.int 0), some (.int (-1)), some (.int 0), some (.int 0), none, none]) rfl rfl ?_
      exact p_m_stolen_43 hd F F _ _ _ _ _ _ _ _ _ _
    · refine L_ic (pc' := 21) rfl q1_m1 rfl ?_
      exact L_ret rfl ret_i rfl
