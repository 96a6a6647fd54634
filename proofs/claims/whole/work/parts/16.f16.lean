/-! printed by wip/whole/decomp.py -/
def m_count_38 : Nat → Int32 → Int32 → Int32 → Int32 → Sg → Option (Int32)
  | 0, _, _, _, _, _ => none
  | n + 1, v1, v2, v3, v4, g =>
    (if 100 ≤ v4 then
      (if v1 = 0 then
        (some (g 216 0))
      else (if v1 = 1 then
        (some (g 216 1))
      else (if v1 = 2 then
        (some (g 216 2))
      else (if v1 = 3 then
        (some (g 216 3))
      else (if v1 = 4 then
        Option.bind (m_today g) (fun x5 => (some x5))
      else (if v1 = 5 then
        (some ((g 216 3) / 672))
      else (if v1 = 6 then
        (some (g 216 6))
      else (if v1 = 7 then
        (some (g 216 4))
      else (if v1 = 8 then
        (some (g 216 5))
      else (if v1 = 9 then
        (some v2)
      else (if v1 = 10 then
        (some v3)
      else (some (-1)))))))))))))
    else
      (if inb (40 + v4) 20360 = true then lt1 ((v3 + (g 216 (Int32.toNatClampNeg (40 + v4)))) : Int32) (fun x13 => (m_count_38 n v1 v2 x13 (v4 + 1) g)) else none))
def m_count_7 (F : Nat) : Nat → Int32 → Int32 → Int32 → Sg → Option (Int32)
  | 0, _, _, _, _ => none
  | n + 1, v1, v2, v4, g =>
    (if (g 216 1) ≤ v4 then
      (m_count_38 F v1 v2 0 0 g)
    else
      Option.bind (m_channelOf_k6 v4 g) (fun x1 => lt1 ((v2 + x1) : Int32) (fun x2 => (m_count_7 F n v1 x2 (v4 + 1) g))))
def m_count (F : Nat) (v1 : Int32) (g : Sg) : Option (Int32) :=
  (m_count_7 F F v1 0 0 g)
theorem p_m_count_38 {X : Xx} {d : Nat} {g : Sg} (hd : 1 ≤ d) : ∀ (n : Nat) (v1 : Int32) (v2 : Int32) (v3 : Int32) (v4 : Int32), Lt X d (some .int) k_228 (fun r : Int32 => ((some (.int r), (SHF, g)) : Out)) 38 [some (.ref 215), some (.int v1), some (.int v2), some (.int v3), some (.int v4)] [] g (m_count_38 n v1 v2 v3 v4 g) := by
  intro n
  induction n with
  | zero => intros; exact L_none
  | succ n ih =>
    intro v1 v2 v3 v4
    show Lt X d (some .int) k_228 (fun r : Int32 => ((some (.int r), (SHF, g)) : Out)) 38 [some (.ref 215), some (.int v1), some (.int v2), some (.int v3), some (.int v4)] [] g (
      (if 100 ≤ v4 then
        (if v1 = 0 then
          (some (g 216 0))
        else (if v1 = 1 then
          (some (g 216 1))
        else (if v1 = 2 then
          (some (g 216 2))
        else (if v1 = 3 then
          (some (g 216 3))
        else (if v1 = 4 then
          Option.bind (m_today g) (fun x5 => (some x5))
        else (if v1 = 5 then
          (some ((g 216 3) / 672))
        else (if v1 = 6 then
          (some (g 216 6))
        else (if v1 = 7 then
          (some (g 216 4))
        else (if v1 = 8 then
          (some (g 216 5))
        else (if v1 = 9 then
          (some v2)
        else (if v1 = 10 then
          (some v3)
        else (some (-1)))))))))))))
      else
        (if inb (40 + v4) 20360 = true then lt1 ((v3 + (g 216 (Int32.toNatClampNeg (40 + v4)))) : Int32) (fun x13 => (m_count_38 n v1 v2 x13 (v4 + 1) g)) else none)))
    refine L_s (pc' := 40) rfl rfl ?_
    refine L_bi (pc' := 42) rfl q2_100 rfl ?_
    refine L_br (t := 64) (n := 45) rfl rfl (fun _ => ?_) (fun _ => ?_)
    · refine L_s (pc' := 65) rfl rfl ?_
      refine L_if (fun h1 => ?_) (fun h1 => ?_)
      · subst h1
        refine L_ts (t := 124) (off := 59) rfl (by decide) rfl ?_
        refine L_s (pc' := 125) rfl rfl ?_
        refine L_gf (pc' := 128) rfl fr_215_0 rfl ?_
        refine L_s (pc' := 129) rfl rfl ?_
        refine L_rIk (pc' := 130) (j := 0) rfl sh_216 (by decide) (by decide) (by decide) rfl ?_
        exact L_ret rfl ret_i rfl
      refine L_if (fun h2 => ?_) (fun h2 => ?_)
      · subst h2
        refine L_ts (t := 124) (off := 59) rfl (by decide) rfl ?_
        refine L_s (pc' := 125) rfl rfl ?_
        refine L_gf (pc' := 128) rfl fr_215_0 rfl ?_
        refine L_s (pc' := 129) rfl rfl ?_
        refine L_rIk (pc' := 130) (j := 1) rfl sh_216 (by decide) (by decide) (by decide) rfl ?_
        exact L_ret rfl ret_i rfl
      refine L_if (fun h3 => ?_) (fun h3 => ?_)
      · subst h3
        refine L_ts (t := 124) (off := 59) rfl (by decide) rfl ?_
        refine L_s (pc' := 125) rfl rfl ?_
        refine L_gf (pc' := 128) rfl fr_215_0 rfl ?_
        refine L_s (pc' := 129) rfl rfl ?_
        refine L_rIk (pc' := 130) (j := 2) rfl sh_216 (by decide) (by decide) (by decide) rfl ?_
        exact L_ret rfl ret_i rfl
      refine L_if (fun h4 => ?_) (fun h4 => ?_)
      · subst h4
        refine L_ts (t := 124) (off := 59) rfl (by decide) rfl ?_
        refine L_s (pc' := 125) rfl rfl ?_
        refine L_gf (pc' := 128) rfl fr_215_0 rfl ?_
        refine L_s (pc' := 129) rfl rfl ?_
        refine L_rIk (pc' := 130) (j := 3) rfl sh_216 (by decide) (by decide) (by decide) rfl ?_
        exact L_ret rfl ret_i rfl
      refine L_if (fun h6 => ?_) (fun h6 => ?_)
      · subst h6
        refine L_ts (t := 131) (off := 66) rfl (by decide) rfl ?_
        refine L_s (pc' := 132) rfl rfl ?_
        refine L_ci (pc' := 135) (as := [.ref 215]) (rest := []) rfl rfl (e_m_today (by omega) _) rfl fun x5 => ?_
        exact L_ret rfl ret_i rfl
      refine L_if (fun h7 => ?_) (fun h7 => ?_)
      · subst h7
        refine L_ts (t := 136) (off := 71) rfl (by decide) rfl ?_
        refine L_s (pc' := 137) rfl rfl ?_
        refine L_gf (pc' := 140) rfl fr_215_0 rfl ?_
        refine L_ic (pc' := 141) rfl q1_3 rfl ?_
        refine L_rIk (pc' := 142) (j := 3) rfl sh_216 (by decide) (by decide) (by decide) rfl ?_
        refine L_si (pc' := 145) rfl q3_672 rfl ?_
        refine L_dvk (pc' := 146) rfl (by decide) rfl ?_
        exact L_ret rfl ret_i rfl
      refine L_if (fun h8 => ?_) (fun h8 => ?_)
      · subst h8
        refine L_ts (t := 147) (off := 82) rfl (by decide) rfl ?_
        refine L_s (pc' := 148) rfl rfl ?_
        refine L_gf (pc' := 151) rfl fr_215_0 rfl ?_
        refine L_bi (pc' := 153) rfl q2_6 rfl ?_
        refine L_rIk (pc' := 154) (j := 6) rfl sh_216 (by decide) (by decide) (by decide) rfl ?_
        exact L_ret rfl ret_i rfl
      refine L_if (fun h9 => ?_) (fun h9 => ?_)
      · subst h9
        refine L_ts (t := 155) (off := 90) rfl (by decide) rfl ?_
        refine L_s (pc' := 156) rfl rfl ?_
        refine L_gf (pc' := 159) rfl fr_215_0 rfl ?_
        refine L_ic (pc' := 160) rfl q1_4 rfl ?_
        refine L_rIk (pc' := 161) (j := 4) rfl sh_216 (by decide) (by decide) (by decide) rfl ?_
        exact L_ret rfl ret_i rfl
      refine L_if (fun h10 => ?_) (fun h10 => ?_)
      · subst h10
        refine L_ts (t := 162) (off := 97) rfl (by decide) rfl ?_
        refine L_s (pc' := 163) rfl rfl ?_
        refine L_gf (pc' := 166) rfl fr_215_0 rfl ?_
        refine L_ic (pc' := 167) rfl q1_5 rfl ?_
        refine L_rIk (pc' := 168) (j := 5) rfl sh_216 (by decide) (by decide) (by decide) rfl ?_
        exact L_ret rfl ret_i rfl
      refine L_if (fun h11 => ?_) (fun h11 => ?_)
      · subst h11
        refine L_ts (t := 169) (off := 104) rfl (by decide) rfl ?_
        refine L_s (pc' := 170) rfl rfl ?_
        exact L_ret rfl ret_i rfl
      refine L_if (fun h12 => ?_) (fun h12 => ?_)
      · subst h12
        refine L_ts (t := 171) (off := 106) rfl (by decide) rfl ?_
        refine L_s (pc' := 172) rfl rfl ?_
        exact L_ret rfl ret_i rfl
      refine L_ts (off := 108) (t := 173) rfl (twf_out (n := 11) (by decide) (by decide) (fun j hj => by
        match j, hj with
        | 0, _ => exact fun e => h1 (e.trans (by decide))
        | 1, _ => exact fun e => h2 (e.trans (by decide))
        | 2, _ => exact fun e => h3 (e.trans (by decide))
        | 3, _ => exact fun e => h4 (e.trans (by decide))
        | 4, _ => exact fun e => h6 (e.trans (by decide))
        | 5, _ => exact fun e => h7 (e.trans (by decide))
        | 6, _ => exact fun e => h8 (e.trans (by decide))
        | 7, _ => exact fun e => h9 (e.trans (by decide))
        | 8, _ => exact fun e => h10 (e.trans (by decide))
        | 9, _ => exact fun e => h11 (e.trans (by decide))
        | 10, _ => exact fun e => h12 (e.trans (by decide))
        | j + 11, hj => exact absurd hj (by omega))) rfl ?_
      refine L_ic (pc' := 174) rfl q1_m1 rfl ?_
      exact L_ret rfl ret_i rfl
    · refine L_s (pc' := 46) rfl rfl ?_
      refine L_s (pc' := 47) rfl rfl ?_
      refine L_gf (pc' := 50) rfl fr_215_0 rfl ?_
      refine L_bi (pc' := 52) rfl q2_40 rfl ?_
      refine L_s (pc' := 54) rfl rfl ?_
      refine L_s (pc' := 55) rfl rfl ?_
      refine L_rI (pc' := 56) rfl sh_216 (by decide) rfl ?_
      refine L_s (pc' := 57) rfl rfl ?_
      refine L_li fun x13 _ => ?_
      refine L_s (pc' := 58) (L' := [some (.ref 215), some (.int v1), some (.int v2), some (.int x13), some (.int v4)]) rfl rfl ?_
      refine L_ii (pc' := 61) (L' := [some (.ref 215), some (.int v1), some (.int v2), some (.int x13), some (.int (v4 + 1))]) rfl rfl q1_1 rfl rfl rfl ?_
      refine L_s (pc' := 38) rfl rfl ?_
      exact ih _ _ _ _
theorem p_m_count_7 {X : Xx} {d : Nat} {g : Sg} (hd : 1 ≤ d) (F : Nat) : ∀ (n : Nat) (v1 : Int32) (v2 : Int32) (v4 : Int32), Lt X d (some .int) k_228 (fun r : Int32 => ((some (.int r), (SHF, g)) : Out)) 7 [some (.ref 215), some (.int v1), some (.int v2), some (.int 0), some (.int v4)] [] g (m_count_7 F n v1 v2 v4 g) := by
  intro n
  induction n with
  | zero => intros; exact L_none
  | succ n ih =>
    intro v1 v2 v4
    show Lt X d (some .int) k_228 (fun r : Int32 => ((some (.int r), (SHF, g)) : Out)) 7 [some (.ref 215), some (.int v1), some (.int v2), some (.int 0), some (.int v4)] [] g (
      (if (g 216 1) ≤ v4 then
        (m_count_38 F v1 v2 0 0 g)
      else
        Option.bind (m_channelOf_k6 v4 g) (fun x1 => lt1 ((v2 + x1) : Int32) (fun x2 => (m_count_7 F n v1 x2 (v4 + 1) g)))))
    refine L_s (pc' := 9) rfl rfl ?_
    refine L_s (pc' := 10) rfl rfl ?_
    refine L_gf (pc' := 13) rfl fr_215_0 rfl ?_
    refine L_ic (pc' := 14) rfl q1_1 rfl ?_
    refine L_rIk (pc' := 15) (j := 1) rfl sh_216 (by decide) (by decide) (by decide) rfl ?_
    refine L_br (t := 35) (n := 18) rfl rfl (fun _ => ?_) (fun _ => ?_)
    · refine L_ic (pc' := 36) rfl q1_0 rfl ?_
      refine L_s (pc' := 38) (L' := [some (.ref 215), some (.int v1), some (.int v2), some (.int 0), some (.int 0)]) rfl rfl ?_
      exact p_m_count_38 hd F _ _ _ _
    · refine L_s (pc' := 19) rfl rfl ?_
      refine L_s (pc' := 20) rfl rfl ?_
      refine L_s (pc' := 22) rfl rfl ?_
      refine L_bi (pc' := 24) rfl q2_6 rfl ?_
      refine L_ci (pc' := 27) (as := [.ref 215, .int v4, .int 6]) (rest := [.int v2]) rfl rfl (e_m_channelOf_k6 (by omega) _ _) rfl fun x1 => ?_
      refine L_s (pc' := 28) rfl rfl ?_
      refine L_li fun x2 _ => ?_
      refine L_s (pc' := 29) (L' := [some (.ref 215), some (.int v1), some (.int x2), some (.int 0), some (.int v4)]) rfl rfl ?_
      refine L_ii (pc' := 32) (L' := [some (.ref 215), some (.int v1), some (.int x2), some (.int 0), some (.int (v4 + 1))]) rfl rfl q1_1 rfl rfl rfl ?_
      refine L_s (pc' := 7) rfl rfl ?_
      exact ih _ _ _
theorem e_m_count {X : Xx} {d : Nat} (hd : 2 ≤ d) (F : Nat) (v1 : Int32) (g : Sg) : ∀ r, m_count F v1 g = some r → EvM zft mtl X d 228 [.ref 215, .int v1] (SHF, g) ((fun r : Int32 => ((some (.int r), (SHF, g)) : Out)) r) := by
  obtain ⟨d, rfl⟩ : ∃ d0, d = d0 + 1 := ⟨d - 1, by omega⟩
  have hd : 1 ≤ d := by omega
  refine E_in (f := (fun r : Int32 => ((some (.int r), (SHF, g)) : Out))) rfl (Nat.le_of_ble_eq_true rfl) ?_
  unfold m_count
  change Lt X d (some .int) k_228 _ 0 [some (.ref 215), some (.int v1), none, none, none] [] g _
  refine L_ic (pc' := 1) rfl q1_0 rfl ?_
  refine L_s (pc' := 2) (L' := [some (.ref 215), some (.int v1), some (.int 0), none, none]) rfl rfl ?_
  refine L_ic (pc' := 3) rfl q1_0 rfl ?_
  refine L_s (pc' := 4) (L' := [some (.ref 215), some (.int v1), some (.int 0), some (.int 0), none]) rfl rfl ?_
  refine L_ic (pc' := 5) rfl q1_0 rfl ?_
  refine L_s (pc' := 7) (L' := [some (.ref 215), some (.int v1), some (.int 0), some (.int 0), some (.int 0)]) rfl rfl ?_
  exact p_m_count_7 hd F F _ _ _
def m_image_20 : Nat → Int32 → Int32 → Sg → Option (Int32 × Sg)
  | 0, _, _, _ => none
  | n + 1, v1, v2, g =>
    (if 5090 ≤ v2 then
      (some (1, g))
    else
      (if inb v2 20360 = true then (if inb ((5090 * (v1 + 1)) + v2) 20360 = true then lt1 (up2 g 216 (Int32.toNatClampNeg ((5090 * (v1 + 1)) + v2)) (g 216 (Int32.toNatClampNeg v2))) (fun g1 => (m_image_20 n v1 (v2 + 1) g1)) else none) else none))
def m_image (F : Nat) (v1 : Int32) (g : Sg) : Option (Int32 × Sg) :=
  Option.bind (m_isIn v1 0 2 g) (fun x1 => (if ¬ x1 = 0 then
    (if inb v1 3 = true then lt1 (up2 g 217 (Int32.toNatClampNeg v1) (1 &&& 1)) (fun g2 => (m_image_20 F v1 0 g2)) else none)
  else
    (some (0, g))))
theorem p_m_image_20 {X : Xx} {d : Nat} (hd : 1 ≤ d) : ∀ (n : Nat) (v1 : Int32) (v2 : Int32) (g : Sg), Lt X d (some .boolean) k_229 (fun r : Int32 × Sg => ((some (.int r.1), (SHF, r.2)) : Out)) 20 [some (.ref 215), some (.int v1), some (.int v2)] [] g (m_image_20 n v1 v2 g) := by
  intro n
  induction n with
  | zero => intros; exact L_none
  | succ n ih =>
    intro v1 v2 g
    show Lt X d (some .boolean) k_229 (fun r : Int32 × Sg => ((some (.int r.1), (SHF, r.2)) : Out)) 20 [some (.ref 215), some (.int v1), some (.int v2)] [] g (
      (if 5090 ≤ v2 then
        (some (1, g))
      else
        (if inb v2 20360 = true then (if inb ((5090 * (v1 + 1)) + v2) 20360 = true then lt1 (up2 g 216 (Int32.toNatClampNeg ((5090 * (v1 + 1)) + v2)) (g 216 (Int32.toNatClampNeg v2))) (fun g1 => (m_image_20 n v1 (v2 + 1) g1)) else none) else none)))
    refine L_s (pc' := 21) rfl rfl ?_
    refine L_si (pc' := 24) rfl q3_5090 rfl ?_
    refine L_br (t := 53) (n := 27) rfl rfl (fun _ => ?_) (fun _ => ?_)
    · refine L_ic (pc' := 54) rfl q1_1 rfl ?_
      exact L_ret rfl (ret_z (by decide)) rfl
    · refine L_s (pc' := 28) rfl rfl ?_
      refine L_gf (pc' := 31) rfl fr_215_0 rfl ?_
      refine L_si (pc' := 34) rfl q3_5090 rfl ?_
      refine L_s (pc' := 35) rfl rfl ?_
      refine L_ic (pc' := 36) rfl q1_1 rfl ?_
      refine L_s (pc' := 37) rfl rfl ?_
      refine L_s (pc' := 38) rfl rfl ?_
      refine L_s (pc' := 39) rfl rfl ?_
      refine L_s (pc' := 40) rfl rfl ?_
      refine L_s (pc' := 41) rfl rfl ?_
      refine L_gf (pc' := 44) rfl fr_215_0 rfl ?_
      refine L_s (pc' := 45) rfl rfl ?_
      refine L_rI (pc' := 46) rfl sh_216 (by decide) rfl ?_
      refine L_wI (pc' := 47) rfl sh_216 (by decide) rfl ?_
      refine L_let fun g1 _ => ?_
      refine L_ii (pc' := 50) (L' := [some (.ref 215), some (.int v1), some (.int (v2 + 1))]) rfl rfl q1_1 rfl rfl rfl ?_
      refine L_s (pc' := 20) rfl rfl ?_
      exact ih _ _ _
theorem e_m_image {X : Xx} {d : Nat} (hd : 2 ≤ d) (F : Nat) (v1 : Int32) (g : Sg) : ∀ r, m_image F v1 g = some r → EvM zft mtl X d 229 [.ref 215, .int v1] (SHF, g) ((fun r : Int32 × Sg => ((some (.int r.1), (SHF, r.2)) : Out)) r) := by
  obtain ⟨d, rfl⟩ : ∃ d0, d = d0 + 1 := ⟨d - 1, by omega⟩
  have hd : 1 ≤ d := by omega
  refine E_in (f := (fun r : Int32 × Sg => ((some (.int r.1), (SHF, r.2)) : Out))) rfl (Nat.le_of_ble_eq_true rfl) ?_
  unfold m_image
  change Lt X d (some .boolean) k_229 _ 0 [some (.ref 215), some (.int v1), none] [] g _
  refine L_s (pc' := 1) rfl rfl ?_
  refine L_ic (pc' := 2) rfl q1_0 rfl ?_
  refine L_ic (pc' := 3) rfl q1_2 rfl ?_
  refine L_ci (pc' := 6) (as := [.int v1, .int 0, .int 2]) (rest := []) rfl rfl (e_m_isIn (by omega) _ _ _ _) rfl fun x1 => ?_
  refine L_br (t := 11) (n := 9) rfl rfl (fun _ => ?_) (fun _ => ?_)
  · refine L_s (pc' := 12) rfl rfl ?_
    refine L_gf (pc' := 15) rfl fr_215_1 rfl ?_
    refine L_s (pc' := 16) rfl rfl ?_
    refine L_ic (pc' := 17) rfl q1_1 rfl ?_
    refine L_wZ (pc' := 18) rfl sh_217 (by decide) rfl ?_
    refine L_let fun g2 _ => ?_
    refine L_ic (pc' := 19) rfl q1_0 rfl ?_
    refine L_s (pc' := 20) (L' := [some (.ref 215), some (.int v1), some (.int 0)]) rfl rfl ?_
    exact p_m_image_20 hd F _ _ _
  · refine L_ic (pc' := 10) rfl q1_0 rfl ?_
    exact L_ret rfl (ret_z (by decide)) rfl
def m_again_22 : Nat → Int32 → Int32 → Sg → Option (Int32 × Sg)
  | 0, _, _, _ => none
  | n + 1, v1, v2, g =>
    (if 5090 ≤ v2 then
      (some (1, g))
    else
      (if inb ((5090 * (v1 + 1)) + v2) 20360 = true then (if inb v2 20360 = true then lt1 (up2 g 216 (Int32.toNatClampNeg v2) (g 216 (Int32.toNatClampNeg ((5090 * (v1 + 1)) + v2)))) (fun g1 => (m_again_22 n v1 (v2 + 1) g1)) else none) else none))
def m_again (F : Nat) (v1 : Int32) (g : Sg) : Option (Int32 × Sg) :=
  Option.bind (m_isIn v1 0 2 g) (fun x1 => (if x1 = 0 then
    (some (0, g))
  else
    (if inb v1 3 = true then (if ¬ (g 217 (Int32.toNatClampNeg v1)) = 0 then
      (m_again_22 F v1 0 g)
    else
      (some (0, g))) else none)))
theorem p_m_again_22 {X : Xx} {d : Nat} (hd : 1 ≤ d) : ∀ (n : Nat) (v1 : Int32) (v2 : Int32) (g : Sg), Lt X d (some .boolean) k_230 (fun r : Int32 × Sg => ((some (.int r.1), (SHF, r.2)) : Out)) 22 [some (.ref 215), some (.int v1), some (.int v2)] [] g (m_again_22 n v1 v2 g) := by
  intro n
  induction n with
  | zero => intros; exact L_none
  | succ n ih =>
    intro v1 v2 g
    show Lt X d (some .boolean) k_230 (fun r : Int32 × Sg => ((some (.int r.1), (SHF, r.2)) : Out)) 22 [some (.ref 215), some (.int v1), some (.int v2)] [] g (
      (if 5090 ≤ v2 then
        (some (1, g))
      else
        (if inb ((5090 * (v1 + 1)) + v2) 20360 = true then (if inb v2 20360 = true then lt1 (up2 g 216 (Int32.toNatClampNeg v2) (g 216 (Int32.toNatClampNeg ((5090 * (v1 + 1)) + v2)))) (fun g1 => (m_again_22 n v1 (v2 + 1) g1)) else none) else none)))
    refine L_s (pc' := 23) rfl rfl ?_
    refine L_si (pc' := 26) rfl q3_5090 rfl ?_
    refine L_br (t := 55) (n := 29) rfl rfl (fun _ => ?_) (fun _ => ?_)
    · refine L_ic (pc' := 56) rfl q1_1 rfl ?_
      exact L_ret rfl (ret_z (by decide)) rfl
    · refine L_s (pc' := 30) rfl rfl ?_
      refine L_gf (pc' := 33) rfl fr_215_0 rfl ?_
      refine L_s (pc' := 34) rfl rfl ?_
      refine L_s (pc' := 35) rfl rfl ?_
      refine L_gf (pc' := 38) rfl fr_215_0 rfl ?_
      refine L_si (pc' := 41) rfl q3_5090 rfl ?_
      refine L_s (pc' := 42) rfl rfl ?_
      refine L_ic (pc' := 43) rfl q1_1 rfl ?_
      refine L_s (pc' := 44) rfl rfl ?_
      refine L_s (pc' := 45) rfl rfl ?_
      refine L_s (pc' := 46) rfl rfl ?_
      refine L_s (pc' := 47) rfl rfl ?_
      refine L_rI (pc' := 48) rfl sh_216 (by decide) rfl ?_
      refine L_wI (pc' := 49) rfl sh_216 (by decide) rfl ?_
      refine L_let fun g1 _ => ?_
      refine L_ii (pc' := 52) (L' := [some (.ref 215), some (.int v1), some (.int (v2 + 1))]) rfl rfl q1_1 rfl rfl rfl ?_
      refine L_s (pc' := 22) rfl rfl ?_
      exact ih _ _ _
theorem e_m_again {X : Xx} {d : Nat} (hd : 2 ≤ d) (F : Nat) (v1 : Int32) (g : Sg) : ∀ r, m_again F v1 g = some r → EvM zft mtl X d 230 [.ref 215, .int v1] (SHF, g) ((fun r : Int32 × Sg => ((some (.int r.1), (SHF, r.2)) : Out)) r) := by
  obtain ⟨d, rfl⟩ : ∃ d0, d = d0 + 1 := ⟨d - 1, by omega⟩
  have hd : 1 ≤ d := by omega
  refine E_in (f := (fun r : Int32 × Sg => ((some (.int r.1), (SHF, r.2)) : Out))) rfl (Nat.le_of_ble_eq_true rfl) ?_
  unfold m_again
  change Lt X d (some .boolean) k_230 _ 0 [some (.ref 215), some (.int v1), none] [] g _
  refine L_s (pc' := 1) rfl rfl ?_
  refine L_ic (pc' := 2) rfl q1_0 rfl ?_
  refine L_ic (pc' := 3) rfl q1_2 rfl ?_
  refine L_ci (pc' := 6) (as := [.int v1, .int 0, .int 2]) (rest := []) rfl rfl (e_m_isIn (by omega) _ _ _ _) rfl fun x1 => ?_
  refine L_br (t := 18) (n := 9) rfl rfl (fun _ => ?_) (fun _ => ?_)
  · refine L_ic (pc' := 19) rfl q1_0 rfl ?_
    exact L_ret rfl (ret_z (by decide)) rfl
  · refine L_s (pc' := 10) rfl rfl ?_
    refine L_gf (pc' := 13) rfl fr_215_1 rfl ?_
    refine L_s (pc' := 14) rfl rfl ?_
    refine L_rB (pc' := 15) rfl sh_217 (by decide) (by decide) rfl ?_
    refine L_br (t := 20) (n := 18) rfl rfl (fun _ => ?_) (fun _ => ?_)
    · refine L_ic (pc' := 21) rfl q1_0 rfl ?_
      refine L_s (pc' := 22) (L' := [some (.ref 215), some (.int v1), some (.int 0)]) rfl rfl ?_
      exact p_m_again_22 hd F _ _ _
    · refine L_ic (pc' := 19) rfl q1_0 rfl ?_
      exact L_ret rfl (ret_z (by decide)) rfl
