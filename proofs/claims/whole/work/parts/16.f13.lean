/-! printed by wip/whole/decomp.py -/
def m_look (F : Nat) (v1 : Int32) (v2 : Int32) (g : Sg) : Option (Int32) :=
  Option.bind (m_isOf_k1 v1 g) (fun x1 => (if ¬ x1 = 0 then
    Option.bind (m_isIn v2 0 6 g) (fun x2 => (if x2 = 0 then
      Option.bind (m_isIn v2 7 8 g) (fun x3 => (if x3 = 0 then
        (some (-2))
      else
        Option.bind (m_underWay F (v2 - 7) v1 g) (fun x4 => (some x4))))
    else
      Option.bind (m_channelOf v1 v2 g) (fun x5 => (some x5))))
  else
    (some (-2))))
theorem e_m_look {X : Xx} {d : Nat} (hd : 3 ≤ d) (F : Nat) (v1 : Int32) (v2 : Int32) (g : Sg) : ∀ r, m_look F v1 v2 g = some r → EvM zft mtl X d 175 [.ref 215, .int v1, .int v2] (SHF, g) ((fun r : Int32 => ((some (.int r), (SHF, g)) : Out)) r) := by
  obtain ⟨d, rfl⟩ : ∃ d0, d = d0 + 1 := ⟨d - 1, by omega⟩
  have hd : 2 ≤ d := by omega
  refine E_in (f := (fun r : Int32 => ((some (.int r), (SHF, g)) : Out))) rfl (Nat.le_of_ble_eq_true rfl) ?_
  unfold m_look
  change Lt X d (some .int) k_175 _ 0 [some (.ref 215), some (.int v1), some (.int v2)] [] g _
  refine L_s (pc' := 1) rfl rfl ?_
  refine L_s (pc' := 2) rfl rfl ?_
  refine L_ic (pc' := 3) rfl q1_1 rfl ?_
  refine L_ci (pc' := 6) (as := [.ref 215, .int v1, .int 1]) (rest := []) rfl rfl (e_m_isOf_k1 (by omega) _ _) rfl fun x1 => ?_
  refine L_br (t := 12) (n := 9) rfl rfl (fun _ => ?_) (fun _ => ?_)
  · refine L_s (pc' := 13) rfl rfl ?_
    refine L_ic (pc' := 14) rfl q1_0 rfl ?_
    refine L_bi (pc' := 16) rfl q2_6 rfl ?_
    refine L_ci (pc' := 19) (as := [.int v2, .int 0, .int 6]) (rest := []) rfl rfl (e_m_isIn (by omega) _ _ _ _) rfl fun x2 => ?_
    refine L_br (t := 31) (n := 22) rfl rfl (fun _ => ?_) (fun _ => ?_)
    · refine L_s (pc' := 32) rfl rfl ?_
      refine L_bi (pc' := 34) rfl q2_7 rfl ?_
      refine L_bi (pc' := 36) rfl q2_8 rfl ?_
      refine L_ci (pc' := 39) (as := [.int v2, .int 7, .int 8]) (rest := []) rfl rfl (e_m_isIn (by omega) _ _ _ _) rfl fun x3 => ?_
      refine L_br (t := 54) (n := 42) rfl rfl (fun _ => ?_) (fun _ => ?_)
      · refine L_bi (pc' := 56) rfl q2_m2 rfl ?_
        exact L_ret rfl ret_i rfl
      · refine L_s (pc' := 43) rfl rfl ?_
        refine L_s (pc' := 44) rfl rfl ?_
        refine L_bi (pc' := 46) rfl q2_7 rfl ?_
        refine L_s (pc' := 47) rfl rfl ?_
        refine L_s (pc' := 48) rfl rfl ?_
        refine L_ci (pc' := 51) (as := [.ref 215, .int (v2 - 7), .int v1]) (rest := []) rfl rfl (e_m_underWay (by omega) F _ _ _) rfl fun x4 => ?_
        refine L_s (pc' := 56) rfl rfl ?_
        exact L_ret rfl ret_i rfl
    · refine L_s (pc' := 23) rfl rfl ?_
      refine L_s (pc' := 24) rfl rfl ?_
      refine L_s (pc' := 25) rfl rfl ?_
      refine L_ci (pc' := 28) (as := [.ref 215, .int v1, .int v2]) (rest := []) rfl rfl (e_m_channelOf (by omega) _ _ _) rfl fun x5 => ?_
      refine L_s (pc' := 56) rfl rfl ?_
      exact L_ret rfl ret_i rfl
  · refine L_bi (pc' := 11) rfl q2_m2 rfl ?_
    exact L_ret rfl ret_i rfl
def m_all (v1 : Int32) (v2 : Int32) (g : Sg) : Option (Int32) :=
  Option.bind (m_isIn v1 0 6 g) (fun x1 => (if x1 = 0 then
    (some (-1))
  else
    (if v2 = 0 then
      (if inb (10 + v1) 20360 = true then (some (g 216 (Int32.toNatClampNeg (10 + v1)))) else none)
    else
      (if inb (17 + v1) 20360 = true then (some (g 216 (Int32.toNatClampNeg (17 + v1)))) else none))))
theorem e_m_all {X : Xx} {d : Nat} (hd : 2 ≤ d) (v1 : Int32) (v2 : Int32) (g : Sg) : ∀ r, m_all v1 v2 g = some r → EvM zft mtl X d 176 [.ref 215, .int v1, .int v2] (SHF, g) ((fun r : Int32 => ((some (.int r), (SHF, g)) : Out)) r) := by
  obtain ⟨d, rfl⟩ : ∃ d0, d = d0 + 1 := ⟨d - 1, by omega⟩
  have hd : 1 ≤ d := by omega
  refine E_in (f := (fun r : Int32 => ((some (.int r), (SHF, g)) : Out))) rfl (Nat.le_of_ble_eq_true rfl) ?_
  unfold m_all
  change Lt X d (some .int) k_176 _ 0 [some (.ref 215), some (.int v1), some (.int v2)] [] g _
  refine L_s (pc' := 1) rfl rfl ?_
  refine L_ic (pc' := 2) rfl q1_0 rfl ?_
  refine L_bi (pc' := 4) rfl q2_6 rfl ?_
  refine L_ci (pc' := 7) (as := [.int v1, .int 0, .int 6]) (rest := []) rfl rfl (e_m_isIn (by omega) _ _ _ _) rfl fun x1 => ?_
  refine L_br (t := 33) (n := 10) rfl rfl (fun _ => ?_) (fun _ => ?_)
  · refine L_ic (pc' := 34) rfl q1_m1 rfl ?_
    exact L_ret rfl ret_i rfl
  · refine L_s (pc' := 11) rfl rfl ?_
    refine L_gf (pc' := 14) rfl fr_215_0 rfl ?_
    refine L_bi (pc' := 16) rfl q2_10 rfl ?_
    refine L_s (pc' := 17) rfl rfl ?_
    refine L_br (t := 25) (n := 20) rfl rfl (fun _ => ?_) (fun _ => ?_)
    · refine L_ic (pc' := 26) rfl q1_0 rfl ?_
      refine L_s (pc' := 27) rfl rfl ?_
      refine L_e (b := 10) (by decide) ?_
      refine L_s (pc' := 28) rfl rfl ?_
      refine L_s (pc' := 29) rfl rfl ?_
      refine L_rI (pc' := 30) rfl sh_216 (by decide) rfl ?_
      refine L_s (pc' := 34) rfl rfl ?_
      exact L_ret rfl ret_i rfl
    · refine L_bi (pc' := 22) rfl q2_7 rfl ?_
      refine L_s (pc' := 26) rfl rfl ?_
      refine L_s (pc' := 27) rfl rfl ?_
      refine L_e (b := 17) (by decide) ?_
      refine L_s (pc' := 28) rfl rfl ?_
      refine L_s (pc' := 29) rfl rfl ?_
      refine L_rI (pc' := 30) rfl sh_216 (by decide) rfl ?_
      refine L_s (pc' := 34) rfl rfl ?_
      exact L_ret rfl ret_i rfl
def m_field_36 (v1 : Int32) (v2 : Int32) (g : Sg) : Option (Int32 × Sg) :=
  (if inb (30 + v1) 20360 = true then lt1 (up2 g 216 (Int32.toNatClampNeg (30 + v1)) v2) (fun g1 => (some (1, g1))) else none)
def m_field (v1 : Int32) (v2 : Int32) (g : Sg) : Option (Int32 × Sg) :=
  Option.bind (m_isIn v1 0 7 g) (fun x1 => (if x1 = 0 then
    (some (0, g))
  else
    (if v2 = (-1) then
      (m_field_36 v1 v2 g)
    else
      Option.bind (m_isOf_k0 v2 g) (fun x2 => (if x2 = 0 then
        (some (0, g))
      else
        Option.bind (m_nodeOf_k0 v2 g) (fun x3 => (if x3 = 4 then
          (m_field_36 v1 v2 g)
        else
          (some (0, g)))))))))
theorem p_m_field_36 {X : Xx} {d : Nat} (hd : 2 ≤ d) (v1 : Int32) (v2 : Int32) (g : Sg) : Lt X d (some .boolean) k_177 (fun r : Int32 × Sg => ((some (.int r.1), (SHF, r.2)) : Out)) 36 [some (.ref 215), some (.int v1), some (.int v2)] [] g (m_field_36 v1 v2 g) := by
  unfold m_field_36
  refine L_s (pc' := 37) rfl rfl ?_
  refine L_gf (pc' := 40) rfl fr_215_0 rfl ?_
  refine L_bi (pc' := 42) rfl q2_30 rfl ?_
  refine L_s (pc' := 43) rfl rfl ?_
  refine L_s (pc' := 44) rfl rfl ?_
  refine L_s (pc' := 45) rfl rfl ?_
  refine L_wI (pc' := 46) rfl sh_216 (by decide) rfl ?_
  refine L_let fun g1 _ => ?_
  refine L_ic (pc' := 47) rfl q1_1 rfl ?_
  exact L_ret rfl (ret_z (by decide)) rfl
theorem e_m_field {X : Xx} {d : Nat} (hd : 3 ≤ d) (v1 : Int32) (v2 : Int32) (g : Sg) : ∀ r, m_field v1 v2 g = some r → EvM zft mtl X d 177 [.ref 215, .int v1, .int v2] (SHF, g) ((fun r : Int32 × Sg => ((some (.int r.1), (SHF, r.2)) : Out)) r) := by
  obtain ⟨d, rfl⟩ : ∃ d0, d = d0 + 1 := ⟨d - 1, by omega⟩
  have hd : 2 ≤ d := by omega
  refine E_in (f := (fun r : Int32 × Sg => ((some (.int r.1), (SHF, r.2)) : Out))) rfl (Nat.le_of_ble_eq_true rfl) ?_
  unfold m_field
  change Lt X d (some .boolean) k_177 _ 0 [some (.ref 215), some (.int v1), some (.int v2)] [] g _
  refine L_s (pc' := 1) rfl rfl ?_
  refine L_ic (pc' := 2) rfl q1_0 rfl ?_
  refine L_bi (pc' := 4) rfl q2_7 rfl ?_
  refine L_ci (pc' := 7) (as := [.int v1, .int 0, .int 7]) (rest := []) rfl rfl (e_m_isIn (by omega) _ _ _ _) rfl fun x1 => ?_
  refine L_br (t := 34) (n := 10) rfl rfl (fun _ => ?_) (fun _ => ?_)
  · refine L_ic (pc' := 35) rfl q1_0 rfl ?_
    exact L_ret rfl (ret_z (by decide)) rfl
  · refine L_s (pc' := 11) rfl rfl ?_
    refine L_ic (pc' := 12) rfl q1_m1 rfl ?_
    refine L_br (t := 36) (n := 15) rfl rfl (fun _ => ?_) (fun _ => ?_)
    · exact p_m_field_36 hd _ _ _
    · refine L_s (pc' := 16) rfl rfl ?_
      refine L_s (pc' := 17) rfl rfl ?_
      refine L_ic (pc' := 18) rfl q1_0 rfl ?_
      refine L_ci (pc' := 21) (as := [.ref 215, .int v2, .int 0]) (rest := []) rfl rfl (e_m_isOf_k0 (by omega) _ _) rfl fun x2 => ?_
      refine L_br (t := 34) (n := 24) rfl rfl (fun _ => ?_) (fun _ => ?_)
      · refine L_ic (pc' := 35) rfl q1_0 rfl ?_
        exact L_ret rfl (ret_z (by decide)) rfl
      · refine L_s (pc' := 25) rfl rfl ?_
        refine L_s (pc' := 26) rfl rfl ?_
        refine L_ic (pc' := 27) rfl q1_0 rfl ?_
        refine L_ci (pc' := 30) (as := [.ref 215, .int v2, .int 0]) (rest := []) rfl rfl (e_m_nodeOf_k0 (by omega) _ _) rfl fun x3 => ?_
        refine L_ic (pc' := 31) rfl q1_4 rfl ?_
        refine L_br (t := 36) (n := 34) rfl rfl (fun _ => ?_) (fun _ => ?_)
        · exact p_m_field_36 hd _ _ _
        · refine L_ic (pc' := 35) rfl q1_0 rfl ?_
          exact L_ret rfl (ret_z (by decide)) rfl
def m_deed (v1 : Int32) (v2 : Int32) (v3 : Int32) (v4 : Int32) (g : Sg) : Option (Int32 × Sg) :=
  (if (g 216 2) = 120 then
    (some ((-1), g))
  else
    Option.bind (m_isIn v1 0 167 g) (fun x1 => (if x1 = 0 then
      (some ((-1), g))
    else
      Option.bind (m_isIn v2 v1 167 g) (fun x2 => (if x2 = 0 then
        (some ((-1), g))
      else
        Option.bind (m_isIn v3 0 7 g) (fun x3 => (if x3 = 0 then
          (some ((-1), g))
        else
          Option.bind (m_isIn v4 0 99 g) (fun x4 => (if ¬ x4 = 0 then
            lt1 ((550 + (6 * (g 216 2))) : Int32) (fun x5 => (if inb x5 20360 = true then lt1 (up2 g 216 (Int32.toNatClampNeg x5) v1) (fun g6 => (if inb (x5 + 1) 20360 = true then lt1 (up2 g6 216 (Int32.toNatClampNeg (x5 + 1)) v2) (fun g7 => (if inb (x5 + 2) 20360 = true then lt1 (up2 g7 216 (Int32.toNatClampNeg (x5 + 2)) v3) (fun g8 => (if inb (x5 + 3) 20360 = true then lt1 (up2 g8 216 (Int32.toNatClampNeg (x5 + 3)) v4) (fun g9 => Option.bind (m_today g9) (fun x10 => (if inb (x5 + 4) 20360 = true then lt1 (up2 g9 216 (Int32.toNatClampNeg (x5 + 4)) x10) (fun g11 => (if inb (x5 + 5) 20360 = true then lt1 (up2 g11 216 (Int32.toNatClampNeg (x5 + 5)) (-1)) (fun g12 => lt1 (up2 g12 216 2 ((g12 216 2) + 1)) (fun g13 => (some (((g13 216 2) - 1), g13)))) else none)) else none))) else none)) else none)) else none)) else none))
          else
            (some ((-1), g)))))))))))
theorem e_m_deed {X : Xx} {d : Nat} (hd : 2 ≤ d) (v1 : Int32) (v2 : Int32) (v3 : Int32) (v4 : Int32) (g : Sg) : ∀ r, m_deed v1 v2 v3 v4 g = some r → EvM zft mtl X d 178 [.ref 215, .int v1, .int v2, .int v3, .int v4] (SHF, g) ((fun r : Int32 × Sg => ((some (.int r.1), (SHF, r.2)) : Out)) r) := by
  obtain ⟨d, rfl⟩ : ∃ d0, d = d0 + 1 := ⟨d - 1, by omega⟩
  have hd : 1 ≤ d := by omega
  refine E_in (f := (fun r : Int32 × Sg => ((some (.int r.1), (SHF, r.2)) : Out))) rfl (Nat.le_of_ble_eq_true rfl) ?_
  unfold m_deed
  change Lt X d (some .int) k_178 _ 0 [some (.ref 215), some (.int v1), some (.int v2), some (.int v3), some (.int v4), none] [] g _
  refine L_s (pc' := 1) rfl rfl ?_
  refine L_gf (pc' := 4) rfl fr_215_0 rfl ?_
  refine L_ic (pc' := 5) rfl q1_2 rfl ?_
  refine L_rIk (pc' := 6) (j := 2) rfl sh_216 (by decide) (by decide) (by decide) rfl ?_
  refine L_bi (pc' := 8) rfl q2_120 rfl ?_
  refine L_br (t := 54) (n := 11) rfl rfl (fun _ => ?_) (fun _ => ?_)
  · refine L_ic (pc' := 55) rfl q1_m1 rfl ?_
    exact L_ret rfl ret_i rfl
  · refine L_s (pc' := 12) rfl rfl ?_
    refine L_ic (pc' := 13) rfl q1_0 rfl ?_
    refine L_si (pc' := 16) rfl q3_167 rfl ?_
    refine L_ci (pc' := 19) (as := [.int v1, .int 0, .int 167]) (rest := []) rfl rfl (e_m_isIn (by omega) _ _ _ _) rfl fun x1 => ?_
    refine L_br (t := 54) (n := 22) rfl rfl (fun _ => ?_) (fun _ => ?_)
    · refine L_ic (pc' := 55) rfl q1_m1 rfl ?_
      exact L_ret rfl ret_i rfl
    · refine L_s (pc' := 23) rfl rfl ?_
      refine L_s (pc' := 24) rfl rfl ?_
      refine L_si (pc' := 27) rfl q3_167 rfl ?_
      refine L_ci (pc' := 30) (as := [.int v2, .int v1, .int 167]) (rest := []) rfl rfl (e_m_isIn (by omega) _ _ _ _) rfl fun x2 => ?_
      refine L_br (t := 54) (n := 33) rfl rfl (fun _ => ?_) (fun _ => ?_)
      · refine L_ic (pc' := 55) rfl q1_m1 rfl ?_
        exact L_ret rfl ret_i rfl
      · refine L_s (pc' := 34) rfl rfl ?_
        refine L_ic (pc' := 35) rfl q1_0 rfl ?_
        refine L_bi (pc' := 37) rfl q2_7 rfl ?_
        refine L_ci (pc' := 40) (as := [.int v3, .int 0, .int 7]) (rest := []) rfl rfl (e_m_isIn (by omega) _ _ _ _) rfl fun x3 => ?_
        refine L_br (t := 54) (n := 43) rfl rfl (fun _ => ?_) (fun _ => ?_)
        · refine L_ic (pc' := 55) rfl q1_m1 rfl ?_
          exact L_ret rfl ret_i rfl
        · refine L_s (pc' := 45) rfl rfl ?_
          refine L_ic (pc' := 46) rfl q1_0 rfl ?_
          refine L_bi (pc' := 48) rfl q2_99 rfl ?_
          refine L_ci (pc' := 51) (as := [.int v4, .int 0, .int 99]) (rest := []) rfl rfl (e_m_isIn (by omega) _ _ _ _) rfl fun x4 => ?_
          refine L_br (t := 56) (n := 54) rfl rfl (fun _ => ?_) (fun _ => ?_)
          · refine L_si (pc' := 59) rfl q3_550 rfl ?_
            refine L_bi (pc' := 61) rfl q2_6 rfl ?_
            refine L_s (pc' := 62) rfl rfl ?_
            refine L_gf (pc' := 65) rfl fr_215_0 rfl ?_
            refine L_ic (pc' := 66) rfl q1_2 rfl ?_
            refine L_rIk (pc' := 67) (j := 2) rfl sh_216 (by decide) (by decide) (by decide) rfl ?_
            refine L_s (pc' := 68) rfl rfl ?_
            refine L_s (pc' := 69) rfl rfl ?_
            refine L_li fun x5 _ => ?_
            refine L_s (pc' := 71) (L' := [some (.ref 215), some (.int v1), some (.int v2), some (.int v3), some (.int v4), some (.int x5)]) rfl rfl ?_
            refine L_s (pc' := 72) rfl rfl ?_
            refine L_gf (pc' := 75) rfl fr_215_0 rfl ?_
            refine L_s (pc' := 77) rfl rfl ?_
            refine L_s (pc' := 78) rfl rfl ?_
            refine L_wI (pc' := 79) rfl sh_216 (by decide) rfl ?_
            refine L_let fun g6 _ => ?_
            refine L_s (pc' := 80) rfl rfl ?_
            refine L_gf (pc' := 83) rfl fr_215_0 rfl ?_
            refine L_s (pc' := 85) rfl rfl ?_
            refine L_ic (pc' := 86) rfl q1_1 rfl ?_
            refine L_s (pc' := 87) rfl rfl ?_
            refine L_s (pc' := 88) rfl rfl ?_
            refine L_wI (pc' := 89) rfl sh_216 (by decide) rfl ?_
            refine L_let fun g7 _ => ?_
            refine L_s (pc' := 90) rfl rfl ?_
            refine L_gf (pc' := 93) rfl fr_215_0 rfl ?_
            refine L_s (pc' := 95) rfl rfl ?_
            refine L_ic (pc' := 96) rfl q1_2 rfl ?_
            refine L_s (pc' := 97) rfl rfl ?_
            refine L_s (pc' := 98) rfl rfl ?_
            refine L_wI (pc' := 99) rfl sh_216 (by decide) rfl ?_
            refine L_let fun g8 _ => ?_
            refine L_s (pc' := 100) rfl rfl ?_
            refine L_gf (pc' := 103) rfl fr_215_0 rfl ?_
            refine L_s (pc' := 105) rfl rfl ?_
            refine L_ic (pc' := 106) rfl q1_3 rfl ?_
            refine L_s (pc' := 107) rfl rfl ?_
            refine L_s (pc' := 109) rfl rfl ?_
            refine L_wI (pc' := 110) rfl sh_216 (by decide) rfl ?_
            refine L_let fun g9 _ => ?_
            refine L_s (pc' := 111) rfl rfl ?_
            refine L_gf (pc' := 114) rfl fr_215_0 rfl ?_
            refine L_s (pc' := 116) rfl rfl ?_
            refine L_ic (pc' := 117) rfl q1_4 rfl ?_
            refine L_s (pc' := 118) rfl rfl ?_
            refine L_s (pc' := 119) rfl rfl ?_
            refine L_ci (pc' := 122) (as := [.ref 215]) (rest := [.int (x5 + 4), .ref 216]) rfl rfl (e_m_today (by omega) _) rfl fun x10 => ?_
            refine L_wI (pc' := 123) rfl sh_216 (by decide) rfl ?_
            refine L_let fun g11 _ => ?_
            refine L_s (pc' := 124) rfl rfl ?_
            refine L_gf (pc' := 127) rfl fr_215_0 rfl ?_
            refine L_s (pc' := 129) rfl rfl ?_
            refine L_ic (pc' := 130) rfl q1_5 rfl ?_
            refine L_s (pc' := 131) rfl rfl ?_
            refine L_ic (pc' := 132) rfl q1_m1 rfl ?_
            refine L_wI (pc' := 133) rfl sh_216 (by decide) rfl ?_
            refine L_let fun g12 _ => ?_
            refine L_s (pc' := 134) rfl rfl ?_
            refine L_gf (pc' := 137) rfl fr_215_0 rfl ?_
            refine L_ic (pc' := 138) rfl q1_2 rfl ?_
            refine L_s (pc' := 139) rfl rfl ?_
            refine L_rIk (pc' := 140) (j := 2) rfl sh_216 (by decide) (by decide) (by decide) rfl ?_
            refine L_ic (pc' := 141) rfl q1_1 rfl ?_
            refine L_s (pc' := 142) rfl rfl ?_
            refine L_wIk (pc' := 143) (j := 2) rfl sh_216 (by decide) (by decide) (by decide) rfl ?_
            refine L_let fun g13 _ => ?_
            refine L_s (pc' := 144) rfl rfl ?_
            refine L_gf (pc' := 147) rfl fr_215_0 rfl ?_
            refine L_ic (pc' := 148) rfl q1_2 rfl ?_
            refine L_rIk (pc' := 149) (j := 2) rfl sh_216 (by decide) (by decide) (by decide) rfl ?_
            refine L_ic (pc' := 150) rfl q1_1 rfl ?_
            refine L_s (pc' := 151) rfl rfl ?_
            exact L_ret rfl ret_i rfl
          · refine L_ic (pc' := 55) rfl q1_m1 rfl ?_
            exact L_ret rfl ret_i rfl
def m_isOf_k2 (v1 : Int32) (g : Sg) : Option (Int32) :=
  Option.bind (m_isIn v1 0 ((g 216 2) - 1) g) (fun x1 => (if x1 = 0 ∨ x1 = 1 then (some x1) else none))
theorem e_m_isOf_k2 {X : Xx} {d : Nat} (hd : 2 ≤ d) (v1 : Int32) (g : Sg) : ∀ r, m_isOf_k2 v1 g = some r → EvM zft mtl X d 150 [.ref 215, .int v1, .int 2] (SHF, g) ((fun r : Int32 => ((some (.int r), (SHF, g)) : Out)) r) := by
  obtain ⟨d, rfl⟩ : ∃ d0, d = d0 + 1 := ⟨d - 1, by omega⟩
  have hd : 1 ≤ d := by omega
  refine E_in (f := (fun r : Int32 => ((some (.int r), (SHF, g)) : Out))) rfl (Nat.le_of_ble_eq_true rfl) ?_
  unfold m_isOf_k2
  change Lt X d (some .boolean) k_150 _ 0 [some (.ref 215), some (.int v1), some (.int 2)] [] g _
  refine L_s (pc' := 1) rfl rfl ?_
  refine L_ic (pc' := 2) rfl q1_0 rfl ?_
  refine L_s (pc' := 3) rfl rfl ?_
  refine L_gf (pc' := 6) rfl fr_215_0 rfl ?_
  refine L_s (pc' := 7) rfl rfl ?_
  refine L_rIk (pc' := 8) (j := 2) rfl sh_216 (by decide) (by decide) (by decide) rfl ?_
  refine L_ic (pc' := 9) rfl q1_1 rfl ?_
  refine L_s (pc' := 10) rfl rfl ?_
  refine L_ci (pc' := 13) (as := [.int v1, .int 0, .int ((g 216 2) - 1)]) (rest := []) rfl rfl (e_m_isIn (by omega) _ _ _ _) rfl fun x1 => ?_
  exact L_g fun h => L_ret rfl (ret_z h) rfl
def m_annul (v1 : Int32) (g : Sg) : Option (Int32 × Sg) :=
  Option.bind (m_isOf_k2 v1 g) (fun x1 => (if x1 = 0 then
    (some (0, g))
  else
    Option.bind (m_deedOf_k5 v1 g) (fun x2 => (if x2 < 0 then
      Option.bind (m_today g) (fun x3 => (if inb ((550 + (6 * v1)) + 5) 20360 = true then lt1 (up2 g 216 (Int32.toNatClampNeg ((550 + (6 * v1)) + 5)) x3) (fun g4 => (some (1, g4))) else none))
    else
      (some (0, g))))))
theorem e_m_annul {X : Xx} {d : Nat} (hd : 3 ≤ d) (v1 : Int32) (g : Sg) : ∀ r, m_annul v1 g = some r → EvM zft mtl X d 180 [.ref 215, .int v1] (SHF, g) ((fun r : Int32 × Sg => ((some (.int r.1), (SHF, r.2)) : Out)) r) := by
  obtain ⟨d, rfl⟩ : ∃ d0, d = d0 + 1 := ⟨d - 1, by omega⟩
  have hd : 2 ≤ d := by omega
  refine E_in (f := (fun r : Int32 × Sg => ((some (.int r.1), (SHF, r.2)) : Out))) rfl (Nat.le_of_ble_eq_true rfl) ?_
  unfold m_annul
  change Lt X d (some .boolean) k_180 _ 0 [some (.ref 215), some (.int v1)] [] g _
  refine L_s (pc' := 1) rfl rfl ?_
  refine L_s (pc' := 2) rfl rfl ?_
  refine L_ic (pc' := 3) rfl q1_2 rfl ?_
  refine L_ci (pc' := 6) (as := [.ref 215, .int v1, .int 2]) (rest := []) rfl rfl (e_m_isOf_k2 (by omega) _ _) rfl fun x1 => ?_
  refine L_br (t := 18) (n := 9) rfl rfl (fun _ => ?_) (fun _ => ?_)
  · refine L_ic (pc' := 19) rfl q1_0 rfl ?_
    exact L_ret rfl (ret_z (by decide)) rfl
  · refine L_s (pc' := 10) rfl rfl ?_
    refine L_s (pc' := 11) rfl rfl ?_
    refine L_ic (pc' := 12) rfl q1_5 rfl ?_
    refine L_ci (pc' := 15) (as := [.ref 215, .int v1, .int 5]) (rest := []) rfl rfl (e_m_deedOf_k5 (by omega) _ _) rfl fun x2 => ?_
    refine L_br (t := 20) (n := 18) rfl rfl (fun _ => ?_) (fun _ => ?_)
    · refine L_s (pc' := 21) rfl rfl ?_
      refine L_gf (pc' := 24) rfl fr_215_0 rfl ?_
      refine L_si (pc' := 27) rfl q3_550 rfl ?_
      refine L_bi (pc' := 29) rfl q2_6 rfl ?_
      refine L_s (pc' := 30) rfl rfl ?_
      refine L_s (pc' := 31) rfl rfl ?_
      refine L_s (pc' := 32) rfl rfl ?_
      refine L_ic (pc' := 33) rfl q1_5 rfl ?_
      refine L_s (pc' := 34) rfl rfl ?_
      refine L_s (pc' := 35) rfl rfl ?_
      refine L_ci (pc' := 38) (as := [.ref 215]) (rest := [.int ((550 + (6 * v1)) + 5), .ref 216]) rfl rfl (e_m_today (by omega) _) rfl fun x3 => ?_
      refine L_wI (pc' := 39) rfl sh_216 (by decide) rfl ?_
      refine L_let fun g4 _ => ?_
      refine L_ic (pc' := 40) rfl q1_1 rfl ?_
      exact L_ret rfl (ret_z (by decide)) rfl
    · refine L_ic (pc' := 19) rfl q1_0 rfl ?_
      exact L_ret rfl (ret_z (by decide)) rfl
def m_deedOf (v1 : Int32) (v2 : Int32) (g : Sg) : Option (Int32) :=
  (if inb ((550 + (6 * v1)) + v2) 20360 = true then (some (g 216 (Int32.toNatClampNeg ((550 + (6 * v1)) + v2)))) else none)
theorem e_m_deedOf {X : Xx} {d : Nat} (hd : 1 ≤ d) (v1 : Int32) (v2 : Int32) (g : Sg) : ∀ r, m_deedOf v1 v2 g = some r → EvM zft mtl X d 179 [.ref 215, .int v1, .int v2] (SHF, g) ((fun r : Int32 => ((some (.int r), (SHF, g)) : Out)) r) := by
  obtain ⟨d, rfl⟩ : ∃ d0, d = d0 + 1 := ⟨d - 1, by omega⟩
  have hd : 0 ≤ d := by omega
  refine E_in (f := (fun r : Int32 => ((some (.int r), (SHF, g)) : Out))) rfl (Nat.le_of_ble_eq_true rfl) ?_
  unfold m_deedOf
  change Lt X d (some .int) k_179 _ 0 [some (.ref 215), some (.int v1), some (.int v2)] [] g _
  refine L_s (pc' := 1) rfl rfl ?_
  refine L_gf (pc' := 4) rfl fr_215_0 rfl ?_
  refine L_si (pc' := 7) rfl q3_550 rfl ?_
  refine L_bi (pc' := 9) rfl q2_6 rfl ?_
  refine L_s (pc' := 10) rfl rfl ?_
  refine L_s (pc' := 11) rfl rfl ?_
  refine L_s (pc' := 12) rfl rfl ?_
  refine L_s (pc' := 13) rfl rfl ?_
  refine L_s (pc' := 14) rfl rfl ?_
  refine L_rI (pc' := 15) rfl sh_216 (by decide) rfl ?_
  exact L_ret rfl ret_i rfl
def m_written (v1 : Int32) (v2 : Int32) (g : Sg) : Option (Int32) :=
  Option.bind (m_isOf_k2 v1 g) (fun x1 => (if x1 = 0 then
    (some (-2))
  else
    Option.bind (m_isIn v2 0 5 g) (fun x2 => (if x2 = 0 then
      (some (-2))
    else
      Option.bind (m_deedOf v1 v2 g) (fun x3 => (some x3))))))
theorem e_m_written {X : Xx} {d : Nat} (hd : 3 ≤ d) (v1 : Int32) (v2 : Int32) (g : Sg) : ∀ r, m_written v1 v2 g = some r → EvM zft mtl X d 181 [.ref 215, .int v1, .int v2] (SHF, g) ((fun r : Int32 => ((some (.int r), (SHF, g)) : Out)) r) := by
  obtain ⟨d, rfl⟩ : ∃ d0, d = d0 + 1 := ⟨d - 1, by omega⟩
  have hd : 2 ≤ d := by omega
  refine E_in (f := (fun r : Int32 => ((some (.int r), (SHF, g)) : Out))) rfl (Nat.le_of_ble_eq_true rfl) ?_
  unfold m_written
  change Lt X d (some .int) k_181 _ 0 [some (.ref 215), some (.int v1), some (.int v2)] [] g _
  refine L_s (pc' := 1) rfl rfl ?_
  refine L_s (pc' := 2) rfl rfl ?_
  refine L_ic (pc' := 3) rfl q1_2 rfl ?_
  refine L_ci (pc' := 6) (as := [.ref 215, .int v1, .int 2]) (rest := []) rfl rfl (e_m_isOf_k2 (by omega) _ _) rfl fun x1 => ?_
  refine L_br (t := 27) (n := 9) rfl rfl (fun _ => ?_) (fun _ => ?_)
  · refine L_bi (pc' := 29) rfl q2_m2 rfl ?_
    exact L_ret rfl ret_i rfl
  · refine L_s (pc' := 10) rfl rfl ?_
    refine L_ic (pc' := 11) rfl q1_0 rfl ?_
    refine L_ic (pc' := 12) rfl q1_5 rfl ?_
    refine L_ci (pc' := 15) (as := [.int v2, .int 0, .int 5]) (rest := []) rfl rfl (e_m_isIn (by omega) _ _ _ _) rfl fun x2 => ?_
    refine L_br (t := 27) (n := 18) rfl rfl (fun _ => ?_) (fun _ => ?_)
    · refine L_bi (pc' := 29) rfl q2_m2 rfl ?_
      exact L_ret rfl ret_i rfl
    · refine L_s (pc' := 19) rfl rfl ?_
      refine L_s (pc' := 20) rfl rfl ?_
      refine L_s (pc' := 21) rfl rfl ?_
      refine L_ci (pc' := 24) (as := [.ref 215, .int v1, .int v2]) (rest := []) rfl rfl (e_m_deedOf (by omega) _ _ _) rfl fun x3 => ?_
      refine L_s (pc' := 29) rfl rfl ?_
      exact L_ret rfl ret_i rfl
def m_owner (F : Nat) (v1 : Int32) (v2 : Int32) (v3 : Int32) (g : Sg) : Option (Int32) :=
  Option.bind (m_isIn v1 0 167 g) (fun x1 => (if x1 = 0 then
    (some (-2))
  else
    Option.bind (m_isIn v2 0 99 g) (fun x2 => (if x2 = 0 then
      (some (-2))
    else
      Option.bind (m_today g) (fun x3 => Option.bind (m_isIn v3 0 x3 g) (fun x4 => (if x4 = 0 then
        (some (-2))
      else
        Option.bind (m_owns F v1 v2 v3 g) (fun x5 => (some x5)))))))))
theorem e_m_owner {X : Xx} {d : Nat} (hd : 3 ≤ d) (F : Nat) (v1 : Int32) (v2 : Int32) (v3 : Int32) (g : Sg) : ∀ r, m_owner F v1 v2 v3 g = some r → EvM zft mtl X d 183 [.ref 215, .int v1, .int v2, .int v3] (SHF, g) ((fun r : Int32 => ((some (.int r), (SHF, g)) : Out)) r) := by
  obtain ⟨d, rfl⟩ : ∃ d0, d = d0 + 1 := ⟨d - 1, by omega⟩
  have hd : 2 ≤ d := by omega
  refine E_in (f := (fun r : Int32 => ((some (.int r), (SHF, g)) : Out))) rfl (Nat.le_of_ble_eq_true rfl) ?_
  unfold m_owner
  change Lt X d (some .int) k_183 _ 0 [some (.ref 215), some (.int v1), some (.int v2), some (.int v3)] [] g _
  refine L_s (pc' := 1) rfl rfl ?_
  refine L_ic (pc' := 2) rfl q1_0 rfl ?_
  refine L_si (pc' := 5) rfl q3_167 rfl ?_
  refine L_ci (pc' := 8) (as := [.int v1, .int 0, .int 167]) (rest := []) rfl rfl (e_m_isIn (by omega) _ _ _ _) rfl fun x1 => ?_
  refine L_br (t := 43) (n := 11) rfl rfl (fun _ => ?_) (fun _ => ?_)
  · refine L_bi (pc' := 45) rfl q2_m2 rfl ?_
    exact L_ret rfl ret_i rfl
  · refine L_s (pc' := 12) rfl rfl ?_
    refine L_ic (pc' := 13) rfl q1_0 rfl ?_
    refine L_bi (pc' := 15) rfl q2_99 rfl ?_
    refine L_ci (pc' := 18) (as := [.int v2, .int 0, .int 99]) (rest := []) rfl rfl (e_m_isIn (by omega) _ _ _ _) rfl fun x2 => ?_
    refine L_br (t := 43) (n := 21) rfl rfl (fun _ => ?_) (fun _ => ?_)
    · refine L_bi (pc' := 45) rfl q2_m2 rfl ?_
      exact L_ret rfl ret_i rfl
    · refine L_s (pc' := 22) rfl rfl ?_
      refine L_ic (pc' := 23) rfl q1_0 rfl ?_
      refine L_s (pc' := 24) rfl rfl ?_
      refine L_ci (pc' := 27) (as := [.ref 215]) (rest := [.int 0, .int v3]) rfl rfl (e_m_today (by omega) _) rfl fun x3 => ?_
      refine L_ci (pc' := 30) (as := [.int v3, .int 0, .int x3]) (rest := []) rfl rfl (e_m_isIn (by omega) _ _ _ _) rfl fun x4 => ?_
      refine L_br (t := 43) (n := 33) rfl rfl (fun _ => ?_) (fun _ => ?_)
      · refine L_bi (pc' := 45) rfl q2_m2 rfl ?_
        exact L_ret rfl ret_i rfl
      · refine L_s (pc' := 34) rfl rfl ?_
        refine L_s (pc' := 35) rfl rfl ?_
        refine L_s (pc' := 36) rfl rfl ?_
        refine L_s (pc' := 37) rfl rfl ?_
        refine L_ci (pc' := 40) (as := [.ref 215, .int v1, .int v2, .int v3]) (rest := []) rfl rfl (e_m_owns (by omega) F _ _ _ _) rfl fun x5 => ?_
        refine L_s (pc' := 45) rfl rfl ?_
        exact L_ret rfl ret_i rfl
def m_isOf_k6 (v1 : Int32) (g : Sg) : Option (Int32) :=
  Option.bind (m_isIn v1 0 ((g 216 6) - 1) g) (fun x1 => (if x1 = 0 ∨ x1 = 1 then (some x1) else none))
theorem e_m_isOf_k6 {X : Xx} {d : Nat} (hd : 2 ≤ d) (v1 : Int32) (g : Sg) : ∀ r, m_isOf_k6 v1 g = some r → EvM zft mtl X d 150 [.ref 215, .int v1, .int 6] (SHF, g) ((fun r : Int32 => ((some (.int r), (SHF, g)) : Out)) r) := by
  obtain ⟨d, rfl⟩ : ∃ d0, d = d0 + 1 := ⟨d - 1, by omega⟩
  have hd : 1 ≤ d := by omega
  refine E_in (f := (fun r : Int32 => ((some (.int r), (SHF, g)) : Out))) rfl (Nat.le_of_ble_eq_true rfl) ?_
  unfold m_isOf_k6
  change Lt X d (some .boolean) k_150 _ 0 [some (.ref 215), some (.int v1), some (.int 6)] [] g _
  refine L_s (pc' := 1) rfl rfl ?_
  refine L_ic (pc' := 2) rfl q1_0 rfl ?_
  refine L_s (pc' := 3) rfl rfl ?_
  refine L_gf (pc' := 6) rfl fr_215_0 rfl ?_
  refine L_s (pc' := 7) rfl rfl ?_
  refine L_rIk (pc' := 8) (j := 6) rfl sh_216 (by decide) (by decide) (by decide) rfl ?_
  refine L_ic (pc' := 9) rfl q1_1 rfl ?_
  refine L_s (pc' := 10) rfl rfl ?_
  refine L_ci (pc' := 13) (as := [.int v1, .int 0, .int ((g 216 6) - 1)]) (rest := []) rfl rfl (e_m_isIn (by omega) _ _ _ _) rfl fun x1 => ?_
  exact L_g fun h => L_ret rfl (ret_z h) rfl
def m_ran (v1 : Int32) (g : Sg) : Option (Int32) :=
  Option.bind (m_isOf_k6 v1 g) (fun x1 => (if x1 = 0 then
    (some (-2))
  else
    (if inb (1870 + v1) 20360 = true then (some (g 216 (Int32.toNatClampNeg (1870 + v1)))) else none)))
theorem e_m_ran {X : Xx} {d : Nat} (hd : 3 ≤ d) (v1 : Int32) (g : Sg) : ∀ r, m_ran v1 g = some r → EvM zft mtl X d 184 [.ref 215, .int v1] (SHF, g) ((fun r : Int32 => ((some (.int r), (SHF, g)) : Out)) r) := by
  obtain ⟨d, rfl⟩ : ∃ d0, d = d0 + 1 := ⟨d - 1, by omega⟩
  have hd : 2 ≤ d := by omega
  refine E_in (f := (fun r : Int32 => ((some (.int r), (SHF, g)) : Out))) rfl (Nat.le_of_ble_eq_true rfl) ?_
  unfold m_ran
  change Lt X d (some .int) k_184 _ 0 [some (.ref 215), some (.int v1)] [] g _
  refine L_s (pc' := 1) rfl rfl ?_
  refine L_s (pc' := 2) rfl rfl ?_
  refine L_bi (pc' := 4) rfl q2_6 rfl ?_
  refine L_ci (pc' := 7) (as := [.ref 215, .int v1, .int 6]) (rest := []) rfl rfl (e_m_isOf_k6 (by omega) _ _) rfl fun x1 => ?_
  refine L_br (t := 23) (n := 10) rfl rfl (fun _ => ?_) (fun _ => ?_)
  · refine L_bi (pc' := 25) rfl q2_m2 rfl ?_
    exact L_ret rfl ret_i rfl
  · refine L_s (pc' := 11) rfl rfl ?_
    refine L_gf (pc' := 14) rfl fr_215_0 rfl ?_
    refine L_si (pc' := 17) rfl q3_1870 rfl ?_
    refine L_s (pc' := 18) rfl rfl ?_
    refine L_s (pc' := 19) rfl rfl ?_
    refine L_rI (pc' := 20) rfl sh_216 (by decide) rfl ?_
    refine L_s (pc' := 25) rfl rfl ?_
    exact L_ret rfl ret_i rfl
def m_owedTo_60 (k_4 : Int32 → Int32 → Int32 → Sg → Option (Int32)) (v1 : Int32) (v3 : Int32) (v4 : Int32) (s0 : Int32) (g : Sg) : Option (Int32) :=
  (if v4 = v1 then
    lt1 ((s0 + 0) : Int32) (fun x1 => (k_4 v1 x1 (v3 + 1) g))
  else
    (if inb (1870 + v3) 20360 = true then (if ¬ (g 216 (Int32.toNatClampNeg (1870 + v3))) = v1 then
      lt1 ((s0 + 0) : Int32) (fun x2 => (k_4 v1 x2 (v3 + 1) g))
    else
      lt1 ((s0 + (-1)) : Int32) (fun x3 => (k_4 v1 x3 (v3 + 1) g))) else none))
def m_owedTo_4 (F : Nat) : Nat → Int32 → Int32 → Int32 → Sg → Option (Int32)
  | 0, _, _, _, _ => none
  | n + 1, v1, v2, v3, g =>
    (if (g 216 6) ≤ v3 then
      (some v2)
    else
      Option.bind (m_today g) (fun x1 => Option.bind (m_owns F (v3 - v3 / 168 * 168) (v3 / 168) x1 g) (fun x2 => (if ¬ x2 = v1 then
        (m_owedTo_60 (fun v1 v2 v3 g0 => m_owedTo_4 F n v1 v2 v3 g0) v1 v3 x2 v2 g)
      else
        (if inb (1870 + v3) 20360 = true then (if (g 216 (Int32.toNatClampNeg (1870 + v3))) = v1 then
          (m_owedTo_60 (fun v1 v2 v3 g0 => m_owedTo_4 F n v1 v2 v3 g0) v1 v3 x2 v2 g)
        else
          lt1 ((v2 + 1) : Int32) (fun x3 => (m_owedTo_4 F n v1 x3 (v3 + 1) g))) else none)))))
def m_owedTo (F : Nat) (v1 : Int32) (g : Sg) : Option (Int32) :=
  (m_owedTo_4 F F v1 0 0 g)
theorem p_m_owedTo_60 {X : Xx} {d : Nat} {g : Sg} {k_4 : Int32 → Int32 → Int32 → Sg → Option (Int32)} (hd : 2 ≤ d) (hk_4 : ∀ (v1 : Int32) (v2 : Int32) (v3 : Int32), Lt X d (some .int) k_185 (fun r : Int32 => ((some (.int r), (SHF, g)) : Out)) 4 [some (.ref 215), some (.int v1), some (.int v2), some (.int v3), none] [] g (k_4 v1 v2 v3 g)) (v1 : Int32) (v3 : Int32) (v4 : Int32) (s0 : Int32) : Lt X d (some .int) k_185 (fun r : Int32 => ((some (.int r), (SHF, g)) : Out)) 60 [some (.ref 215), some (.int v1), none, some (.int v3), some (.int v4)] [.int s0] g (m_owedTo_60 k_4 v1 v3 v4 s0 g) := by
  unfold m_owedTo_60
  refine L_s (pc' := 62) rfl rfl ?_
  refine L_s (pc' := 63) rfl rfl ?_
  refine L_br (t := 84) (n := 66) rfl rfl (fun _ => ?_) (fun _ => ?_)
  · refine L_ic (pc' := 85) rfl q1_0 rfl ?_
    refine L_s (pc' := 86) rfl rfl ?_
    refine L_li fun x1 _ => ?_
    refine L_s (pc' := 87) (L' := [some (.ref 215), some (.int v1), some (.int x1), some (.int v3), some (.int v4)]) rfl rfl ?_
    refine L_ii (pc' := 90) (L' := [some (.ref 215), some (.int v1), some (.int x1), some (.int (v3 + 1)), some (.int v4)]) rfl rfl q1_1 rfl rfl rfl ?_
    refine L_s (pc' := 4) rfl rfl ?_
    refine L_wk (L' := [some (.ref 215), some (.int v1), some (.int x1), some (.int (v3 + 1)), none]) (wk_s (wk_s (wk_s (wk_s (wk_n wk_nil))))) ?_
    exact hk_4 _ _ _
  · refine L_s (pc' := 67) rfl rfl ?_
    refine L_gf (pc' := 70) rfl fr_215_0 rfl ?_
    refine L_si (pc' := 73) rfl q3_1870 rfl ?_
    refine L_s (pc' := 74) rfl rfl ?_
    refine L_s (pc' := 75) rfl rfl ?_
    refine L_rI (pc' := 76) rfl sh_216 (by decide) rfl ?_
    refine L_s (pc' := 77) rfl rfl ?_
    refine L_br (t := 84) (n := 80) rfl rfl (fun _ => ?_) (fun _ => ?_)
    · refine L_ic (pc' := 85) rfl q1_0 rfl ?_
      refine L_s (pc' := 86) rfl rfl ?_
      refine L_li fun x2 _ => ?_
      refine L_s (pc' := 87) (L' := [some (.ref 215), some (.int v1), some (.int x2), some (.int v3), some (.int v4)]) rfl rfl ?_
      refine L_ii (pc' := 90) (L' := [some (.ref 215), some (.int v1), some (.int x2), some (.int (v3 + 1)), some (.int v4)]) rfl rfl q1_1 rfl rfl rfl ?_
      refine L_s (pc' := 4) rfl rfl ?_
      refine L_wk (L' := [some (.ref 215), some (.int v1), some (.int x2), some (.int (v3 + 1)), none]) (wk_s (wk_s (wk_s (wk_s (wk_n wk_nil))))) ?_
      exact hk_4 _ _ _
    · refine L_ic (pc' := 81) rfl q1_m1 rfl ?_
      refine L_s (pc' := 85) rfl rfl ?_
      refine L_s (pc' := 86) rfl rfl ?_
      refine L_li fun x3 _ => ?_
      refine L_s (pc' := 87) (L' := [some (.ref 215), some (.int v1), some (.int x3), some (.int v3), some (.int v4)]) rfl rfl ?_
      refine L_ii (pc' := 90) (L' := [some (.ref 215), some (.int v1), some (.int x3), some (.int (v3 + 1)), some (.int v4)]) rfl rfl q1_1 rfl rfl rfl ?_
      refine L_s (pc' := 4) rfl rfl ?_
      refine L_wk (L' := [some (.ref 215), some (.int v1), some (.int x3), some (.int (v3 + 1)), none]) (wk_s (wk_s (wk_s (wk_s (wk_n wk_nil))))) ?_
      exact hk_4 _ _ _
theorem p_m_owedTo_4 {X : Xx} {d : Nat} {g : Sg} (hd : 2 ≤ d) (F : Nat) : ∀ (n : Nat) (v1 : Int32) (v2 : Int32) (v3 : Int32), Lt X d (some .int) k_185 (fun r : Int32 => ((some (.int r), (SHF, g)) : Out)) 4 [some (.ref 215), some (.int v1), some (.int v2), some (.int v3), none] [] g (m_owedTo_4 F n v1 v2 v3 g) := by
  intro n
  induction n with
  | zero => intros; exact L_none
  | succ n ih =>
    intro v1 v2 v3
    show Lt X d (some .int) k_185 (fun r : Int32 => ((some (.int r), (SHF, g)) : Out)) 4 [some (.ref 215), some (.int v1), some (.int v2), some (.int v3), none] [] g (
      (if (g 216 6) ≤ v3 then
        (some v2)
      else
        Option.bind (m_today g) (fun x1 => Option.bind (m_owns F (v3 - v3 / 168 * 168) (v3 / 168) x1 g) (fun x2 => (if ¬ x2 = v1 then
          (m_owedTo_60 (fun v1 v2 v3 g0 => m_owedTo_4 F n v1 v2 v3 g0) v1 v3 x2 v2 g)
        else
          (if inb (1870 + v3) 20360 = true then (if (g 216 (Int32.toNatClampNeg (1870 + v3))) = v1 then
            (m_owedTo_60 (fun v1 v2 v3 g0 => m_owedTo_4 F n v1 v2 v3 g0) v1 v3 x2 v2 g)
          else
            lt1 ((v2 + 1) : Int32) (fun x3 => (m_owedTo_4 F n v1 x3 (v3 + 1) g))) else none))))))
    refine L_s (pc' := 5) rfl rfl ?_
    refine L_s (pc' := 6) rfl rfl ?_
    refine L_gf (pc' := 9) rfl fr_215_0 rfl ?_
    refine L_bi (pc' := 11) rfl q2_6 rfl ?_
    refine L_rIk (pc' := 12) (j := 6) rfl sh_216 (by decide) (by decide) (by decide) rfl ?_
    refine L_br (t := 93) (n := 15) rfl rfl (fun _ => ?_) (fun _ => ?_)
    · refine L_s (pc' := 94) rfl rfl ?_
      exact L_ret rfl ret_i rfl
    · refine L_s (pc' := 16) rfl rfl ?_
      refine L_s (pc' := 17) rfl rfl ?_
      refine L_si (pc' := 20) rfl q3_168 rfl ?_
      refine L_rmk (pc' := 21) rfl (by decide) rfl ?_
      refine L_s (pc' := 22) rfl rfl ?_
      refine L_si (pc' := 25) rfl q3_168 rfl ?_
      refine L_dvk (pc' := 26) rfl (by decide) rfl ?_
      refine L_s (pc' := 27) rfl rfl ?_
      refine L_ci (pc' := 30) (as := [.ref 215]) (rest := [.int (v3 / 168), .int (v3 - v3 / 168 * 168), .ref 215]) rfl rfl (e_m_today (by omega) _) rfl fun x1 => ?_
      refine L_ci (pc' := 33) (as := [.ref 215, .int (v3 - v3 / 168 * 168), .int (v3 / 168), .int x1]) (rest := []) rfl rfl (e_m_owns (by omega) F _ _ _ _) rfl fun x2 => ?_
      refine L_s (pc' := 35) (L' := [some (.ref 215), some (.int v1), some (.int v2), some (.int v3), some (.int x2)]) rfl rfl ?_
      refine L_s (pc' := 36) rfl rfl ?_
      refine L_s (pc' := 38) rfl rfl ?_
      refine L_s (pc' := 39) rfl rfl ?_
      refine L_br (t := 60) (n := 42) rfl rfl (fun _ => ?_) (fun _ => ?_)
      · refine L_wk (L' := [some (.ref 215), some (.int v1), none, some (.int v3), some (.int x2)]) (wk_s (wk_s (wk_n (wk_s (wk_s wk_nil))))) ?_
        exact p_m_owedTo_60 hd (fun _ _ _ => ih _ _ _) _ _ _ _
      · refine L_s (pc' := 43) rfl rfl ?_
        refine L_gf (pc' := 46) rfl fr_215_0 rfl ?_
        refine L_si (pc' := 49) rfl q3_1870 rfl ?_
        refine L_s (pc' := 50) rfl rfl ?_
        refine L_s (pc' := 51) rfl rfl ?_
        refine L_rI (pc' := 52) rfl sh_216 (by decide) rfl ?_
        refine L_s (pc' := 53) rfl rfl ?_
        refine L_br (t := 60) (n := 56) rfl rfl (fun _ => ?_) (fun _ => ?_)
        · refine L_wk (L' := [some (.ref 215), some (.int v1), none, some (.int v3), some (.int x2)]) (wk_s (wk_s (wk_n (wk_s (wk_s wk_nil))))) ?_
          exact p_m_owedTo_60 hd (fun _ _ _ => ih _ _ _) _ _ _ _
        · refine L_ic (pc' := 57) rfl q1_1 rfl ?_
          refine L_s (pc' := 85) rfl rfl ?_
          refine L_s (pc' := 86) rfl rfl ?_
          refine L_li fun x3 _ => ?_
          refine L_s (pc' := 87) (L' := [some (.ref 215), some (.int v1), some (.int x3), some (.int v3), some (.int x2)]) rfl rfl ?_
          refine L_ii (pc' := 90) (L' := [some (.ref 215), some (.int v1), some (.int x3), some (.int (v3 + 1)), some (.int x2)]) rfl rfl q1_1 rfl rfl rfl ?_
          refine L_s (pc' := 4) rfl rfl ?_
          refine L_wk (L' := [some (.ref 215), some (.int v1), some (.int x3), some (.int (v3 + 1)), none]) (wk_s (wk_s (wk_s (wk_s (wk_n wk_nil))))) ?_
          exact ih _ _ _
theorem e_m_owedTo {X : Xx} {d : Nat} (hd : 3 ≤ d) (F : Nat) (v1 : Int32) (g : Sg) : ∀ r, m_owedTo F v1 g = some r → EvM zft mtl X d 185 [.ref 215, .int v1] (SHF, g) ((fun r : Int32 => ((some (.int r), (SHF, g)) : Out)) r) := by
  obtain ⟨d, rfl⟩ : ∃ d0, d = d0 + 1 := ⟨d - 1, by omega⟩
  have hd : 2 ≤ d := by omega
  refine E_in (f := (fun r : Int32 => ((some (.int r), (SHF, g)) : Out))) rfl (Nat.le_of_ble_eq_true rfl) ?_
  unfold m_owedTo
  change Lt X d (some .int) k_185 _ 0 [some (.ref 215), some (.int v1), none, none, none] [] g _
  refine L_ic (pc' := 1) rfl q1_0 rfl ?_
  refine L_s (pc' := 2) (L' := [some (.ref 215), some (.int v1), some (.int 0), none, none]) rfl rfl ?_
  refine L_ic (pc' := 3) rfl q1_0 rfl ?_
  refine L_s (pc' := 4) (L' := [some (.ref 215), some (.int v1), some (.int 0), some (.int 0), none]) rfl rfl ?_
  exact p_m_owedTo_4 hd F F _ _ _
def m_owed (F : Nat) (v1 : Int32) (g : Sg) : Option (Int32) :=
  Option.bind (m_isIn v1 0 7 g) (fun x1 => (if x1 = 0 then
    (some (-100000))
  else
    Option.bind (m_owedTo F v1 g) (fun x2 => (some x2))))
theorem e_m_owed {X : Xx} {d : Nat} (hd : 4 ≤ d) (F : Nat) (v1 : Int32) (g : Sg) : ∀ r, m_owed F v1 g = some r → EvM zft mtl X d 186 [.ref 215, .int v1] (SHF, g) ((fun r : Int32 => ((some (.int r), (SHF, g)) : Out)) r) := by
  obtain ⟨d, rfl⟩ : ∃ d0, d = d0 + 1 := ⟨d - 1, by omega⟩
  have hd : 3 ≤ d := by omega
  refine E_in (f := (fun r : Int32 => ((some (.int r), (SHF, g)) : Out))) rfl (Nat.le_of_ble_eq_true rfl) ?_
  unfold m_owed
  change Lt X d (some .int) k_186 _ 0 [some (.ref 215), some (.int v1)] [] g _
  refine L_s (pc' := 1) rfl rfl ?_
  refine L_ic (pc' := 2) rfl q1_0 rfl ?_
  refine L_bi (pc' := 4) rfl q2_7 rfl ?_
  refine L_ci (pc' := 7) (as := [.int v1, .int 0, .int 7]) (rest := []) rfl rfl (e_m_isIn (by omega) _ _ _ _) rfl fun x1 => ?_
  refine L_br (t := 18) (n := 10) rfl rfl (fun _ => ?_) (fun _ => ?_)
  · refine L_ldc (pc' := 20) rfl q1_m100000 rfl ?_
    exact L_ret rfl ret_i rfl
  · refine L_s (pc' := 11) rfl rfl ?_
    refine L_s (pc' := 12) rfl rfl ?_
    refine L_ci (pc' := 15) (as := [.ref 215, .int v1]) (rest := []) rfl rfl (e_m_owedTo (by omega) F _ _) rfl fun x2 => ?_
    refine L_s (pc' := 20) rfl rfl ?_
    exact L_ret rfl ret_i rfl
def m_feed_74_20 (v1 : Int32) (v2 : Int32) (v3 : Int32) (v4 : Int32) (v5 : Int32) (s0 : Int32) (g : Sg) : Option (Int32 × Sg) :=
  (if inb (4590 + (g 216 7)) 20360 = true then lt1 (up2 g 216 (Int32.toNatClampNeg (4590 + (g 216 7))) ((s0 >>> (0 &&& 31)) &&& 255)) (fun g1 => lt1 (up2 g1 216 7 ((g1 216 7) + 1)) (fun g2 => (some ((g2 216 7), g2)))) else none)
def m_feed_74_19 (v1 : Int32) (v2 : Int32) (v3 : Int32) (v4 : Int32) (v5 : Int32) (s0 : Int32) (g : Sg) : Option (Int32 × Sg) :=
  (if inb (4590 + (g 216 7)) 20360 = true then lt1 (up2 g 216 (Int32.toNatClampNeg (4590 + (g 216 7))) ((s0 >>> (8 &&& 31)) &&& 255)) (fun g1 => lt1 (up2 g1 216 7 ((g1 216 7) + 1)) (fun g2 => (m_feed_74_20 v1 v2 v3 v4 v5 v5 g2))) else none)
def m_feed_74_18 (v1 : Int32) (v2 : Int32) (v3 : Int32) (v4 : Int32) (v5 : Int32) (s0 : Int32) (g : Sg) : Option (Int32 × Sg) :=
  (if inb (4590 + (g 216 7)) 20360 = true then lt1 (up2 g 216 (Int32.toNatClampNeg (4590 + (g 216 7))) ((s0 >>> (16 &&& 31)) &&& 255)) (fun g1 => lt1 (up2 g1 216 7 ((g1 216 7) + 1)) (fun g2 => (m_feed_74_19 v1 v2 v3 v4 v5 v5 g2))) else none)
def m_feed_74_17 (v1 : Int32) (v2 : Int32) (v3 : Int32) (v4 : Int32) (v5 : Int32) (s0 : Int32) (g : Sg) : Option (Int32 × Sg) :=
  (if inb (4590 + (g 216 7)) 20360 = true then lt1 (up2 g 216 (Int32.toNatClampNeg (4590 + (g 216 7))) ((s0 >>> (24 &&& 31)) &&& 255)) (fun g1 => lt1 (up2 g1 216 7 ((g1 216 7) + 1)) (fun g2 => (m_feed_74_18 v1 v2 v3 v4 v5 v5 g2))) else none)
def m_feed_74_16 (v1 : Int32) (v2 : Int32) (v3 : Int32) (v4 : Int32) (v5 : Int32) (s0 : Int32) (g : Sg) : Option (Int32 × Sg) :=
  (if inb (4590 + (g 216 7)) 20360 = true then lt1 (up2 g 216 (Int32.toNatClampNeg (4590 + (g 216 7))) ((s0 >>> (0 &&& 31)) &&& 255)) (fun g1 => lt1 (up2 g1 216 7 ((g1 216 7) + 1)) (fun g2 => (m_feed_74_17 v1 v2 v3 v4 v5 v5 g2))) else none)
def m_feed_74_15 (v1 : Int32) (v2 : Int32) (v3 : Int32) (v4 : Int32) (v5 : Int32) (s0 : Int32) (g : Sg) : Option (Int32 × Sg) :=
  (if inb (4590 + (g 216 7)) 20360 = true then lt1 (up2 g 216 (Int32.toNatClampNeg (4590 + (g 216 7))) ((s0 >>> (8 &&& 31)) &&& 255)) (fun g1 => lt1 (up2 g1 216 7 ((g1 216 7) + 1)) (fun g2 => (m_feed_74_16 v1 v2 v3 v4 v5 v4 g2))) else none)
def m_feed_74_14 (v1 : Int32) (v2 : Int32) (v3 : Int32) (v4 : Int32) (v5 : Int32) (s0 : Int32) (g : Sg) : Option (Int32 × Sg) :=
  (if inb (4590 + (g 216 7)) 20360 = true then lt1 (up2 g 216 (Int32.toNatClampNeg (4590 + (g 216 7))) ((s0 >>> (16 &&& 31)) &&& 255)) (fun g1 => lt1 (up2 g1 216 7 ((g1 216 7) + 1)) (fun g2 => (m_feed_74_15 v1 v2 v3 v4 v5 v4 g2))) else none)
def m_feed_74_13 (v1 : Int32) (v2 : Int32) (v3 : Int32) (v4 : Int32) (v5 : Int32) (s0 : Int32) (g : Sg) : Option (Int32 × Sg) :=
  (if inb (4590 + (g 216 7)) 20360 = true then lt1 (up2 g 216 (Int32.toNatClampNeg (4590 + (g 216 7))) ((s0 >>> (24 &&& 31)) &&& 255)) (fun g1 => lt1 (up2 g1 216 7 ((g1 216 7) + 1)) (fun g2 => (m_feed_74_14 v1 v2 v3 v4 v5 v4 g2))) else none)
def m_feed_74_12 (v1 : Int32) (v2 : Int32) (v3 : Int32) (v4 : Int32) (v5 : Int32) (s0 : Int32) (g : Sg) : Option (Int32 × Sg) :=
  (if inb (4590 + (g 216 7)) 20360 = true then lt1 (up2 g 216 (Int32.toNatClampNeg (4590 + (g 216 7))) ((s0 >>> (0 &&& 31)) &&& 255)) (fun g1 => lt1 (up2 g1 216 7 ((g1 216 7) + 1)) (fun g2 => (m_feed_74_13 v1 v2 v3 v4 v5 v4 g2))) else none)
def m_feed_74_11 (v1 : Int32) (v2 : Int32) (v3 : Int32) (v4 : Int32) (v5 : Int32) (s0 : Int32) (g : Sg) : Option (Int32 × Sg) :=
  (if inb (4590 + (g 216 7)) 20360 = true then lt1 (up2 g 216 (Int32.toNatClampNeg (4590 + (g 216 7))) ((s0 >>> (8 &&& 31)) &&& 255)) (fun g1 => lt1 (up2 g1 216 7 ((g1 216 7) + 1)) (fun g2 => (m_feed_74_12 v1 v2 v3 v4 v5 v3 g2))) else none)
def m_feed_74_10 (v1 : Int32) (v2 : Int32) (v3 : Int32) (v4 : Int32) (v5 : Int32) (s0 : Int32) (g : Sg) : Option (Int32 × Sg) :=
  (if inb (4590 + (g 216 7)) 20360 = true then lt1 (up2 g 216 (Int32.toNatClampNeg (4590 + (g 216 7))) ((s0 >>> (16 &&& 31)) &&& 255)) (fun g1 => lt1 (up2 g1 216 7 ((g1 216 7) + 1)) (fun g2 => (m_feed_74_11 v1 v2 v3 v4 v5 v3 g2))) else none)
def m_feed_74_9 (v1 : Int32) (v2 : Int32) (v3 : Int32) (v4 : Int32) (v5 : Int32) (s0 : Int32) (g : Sg) : Option (Int32 × Sg) :=
  (if inb (4590 + (g 216 7)) 20360 = true then lt1 (up2 g 216 (Int32.toNatClampNeg (4590 + (g 216 7))) ((s0 >>> (24 &&& 31)) &&& 255)) (fun g1 => lt1 (up2 g1 216 7 ((g1 216 7) + 1)) (fun g2 => (m_feed_74_10 v1 v2 v3 v4 v5 v3 g2))) else none)
def m_feed_74_8 (v1 : Int32) (v2 : Int32) (v3 : Int32) (v4 : Int32) (v5 : Int32) (s0 : Int32) (g : Sg) : Option (Int32 × Sg) :=
  (if inb (4590 + (g 216 7)) 20360 = true then lt1 (up2 g 216 (Int32.toNatClampNeg (4590 + (g 216 7))) ((s0 >>> (0 &&& 31)) &&& 255)) (fun g1 => lt1 (up2 g1 216 7 ((g1 216 7) + 1)) (fun g2 => (m_feed_74_9 v1 v2 v3 v4 v5 v3 g2))) else none)
def m_feed_74_7 (v1 : Int32) (v2 : Int32) (v3 : Int32) (v4 : Int32) (v5 : Int32) (s0 : Int32) (g : Sg) : Option (Int32 × Sg) :=
  (if inb (4590 + (g 216 7)) 20360 = true then lt1 (up2 g 216 (Int32.toNatClampNeg (4590 + (g 216 7))) ((s0 >>> (8 &&& 31)) &&& 255)) (fun g1 => lt1 (up2 g1 216 7 ((g1 216 7) + 1)) (fun g2 => (m_feed_74_8 v1 v2 v3 v4 v5 v2 g2))) else none)
def m_feed_74_6 (v1 : Int32) (v2 : Int32) (v3 : Int32) (v4 : Int32) (v5 : Int32) (s0 : Int32) (g : Sg) : Option (Int32 × Sg) :=
  (if inb (4590 + (g 216 7)) 20360 = true then lt1 (up2 g 216 (Int32.toNatClampNeg (4590 + (g 216 7))) ((s0 >>> (16 &&& 31)) &&& 255)) (fun g1 => lt1 (up2 g1 216 7 ((g1 216 7) + 1)) (fun g2 => (m_feed_74_7 v1 v2 v3 v4 v5 v2 g2))) else none)
def m_feed_74_5 (v1 : Int32) (v2 : Int32) (v3 : Int32) (v4 : Int32) (v5 : Int32) (s0 : Int32) (g : Sg) : Option (Int32 × Sg) :=
  (if inb (4590 + (g 216 7)) 20360 = true then lt1 (up2 g 216 (Int32.toNatClampNeg (4590 + (g 216 7))) ((s0 >>> (24 &&& 31)) &&& 255)) (fun g1 => lt1 (up2 g1 216 7 ((g1 216 7) + 1)) (fun g2 => (m_feed_74_6 v1 v2 v3 v4 v5 v2 g2))) else none)
def m_feed_74_4 (v1 : Int32) (v2 : Int32) (v3 : Int32) (v4 : Int32) (v5 : Int32) (s0 : Int32) (g : Sg) : Option (Int32 × Sg) :=
  (if inb (4590 + (g 216 7)) 20360 = true then lt1 (up2 g 216 (Int32.toNatClampNeg (4590 + (g 216 7))) ((s0 >>> (0 &&& 31)) &&& 255)) (fun g1 => lt1 (up2 g1 216 7 ((g1 216 7) + 1)) (fun g2 => (m_feed_74_5 v1 v2 v3 v4 v5 v2 g2))) else none)
def m_feed_74_3 (v1 : Int32) (v2 : Int32) (v3 : Int32) (v4 : Int32) (v5 : Int32) (s0 : Int32) (g : Sg) : Option (Int32 × Sg) :=
  (if inb (4590 + (g 216 7)) 20360 = true then lt1 (up2 g 216 (Int32.toNatClampNeg (4590 + (g 216 7))) ((s0 >>> (8 &&& 31)) &&& 255)) (fun g1 => lt1 (up2 g1 216 7 ((g1 216 7) + 1)) (fun g2 => (m_feed_74_4 v1 v2 v3 v4 v5 v1 g2))) else none)
def m_feed_74_2 (v1 : Int32) (v2 : Int32) (v3 : Int32) (v4 : Int32) (v5 : Int32) (s0 : Int32) (g : Sg) : Option (Int32 × Sg) :=
  (if inb (4590 + (g 216 7)) 20360 = true then lt1 (up2 g 216 (Int32.toNatClampNeg (4590 + (g 216 7))) ((s0 >>> (16 &&& 31)) &&& 255)) (fun g1 => lt1 (up2 g1 216 7 ((g1 216 7) + 1)) (fun g2 => (m_feed_74_3 v1 v2 v3 v4 v5 v1 g2))) else none)
def m_feed_74 (v1 : Int32) (v2 : Int32) (v3 : Int32) (v4 : Int32) (v5 : Int32) (s0 : Int32) (g : Sg) : Option (Int32 × Sg) :=
  (if inb (4590 + (g 216 7)) 20360 = true then lt1 (up2 g 216 (Int32.toNatClampNeg (4590 + (g 216 7))) ((s0 >>> (24 &&& 31)) &&& 255)) (fun g1 => lt1 (up2 g1 216 7 ((g1 216 7) + 1)) (fun g2 => (m_feed_74_2 v1 v2 v3 v4 v5 v1 g2))) else none)
def m_feed (v1 : Int32) (v2 : Int32) (v3 : Int32) (v4 : Int32) (v5 : Int32) (g : Sg) : Option (Int32 × Sg) :=
  (if ((g 216 7) + 20) ≤ 500 then
    (m_feed_74 v1 v2 v3 v4 v5 v1 g)
  else
    (some ((-1), g)))
theorem p_m_feed_74_20 {X : Xx} {d : Nat} (hd : 0 ≤ d) (v1 : Int32) (v2 : Int32) (v3 : Int32) (v4 : Int32) (v5 : Int32) (s0 : Int32) (g : Sg) : Lt X d (some .int) k_187 (fun r : Int32 × Sg => ((some (.int r.1), (SHF, r.2)) : Out)) 74 [some (.ref 215), some (.int v1), some (.int v2), some (.int v3), some (.int v4), some (.int v5), some (.int 19), none] [.int s0] g (m_feed_74_20 v1 v2 v3 v4 v5 s0 g) := by
  unfold m_feed_74_20
  refine L_s (pc' := 76) (L' := [some (.ref 215), some (.int v1), some (.int v2), some (.int v3), some (.int v4), some (.int v5), some (.int 19), some (.int s0)]) rfl rfl ?_
  refine L_s (pc' := 77) rfl rfl ?_
  refine L_gf (pc' := 80) rfl fr_215_0 rfl ?_
  refine L_si (pc' := 83) rfl q3_4590 rfl ?_
  refine L_s (pc' := 84) rfl rfl ?_
  refine L_gf (pc' := 87) rfl fr_215_0 rfl ?_
  refine L_bi (pc' := 89) rfl q2_7 rfl ?_
  refine L_rIk (pc' := 90) (j := 7) rfl sh_216 (by decide) (by decide) (by decide) rfl ?_
  refine L_s (pc' := 91) rfl rfl ?_
  refine L_s (pc' := 93) rfl rfl ?_
  refine L_bi (pc' := 95) rfl q2_24 rfl ?_
  refine L_bi (pc' := 97) rfl q2_8 rfl ?_
  refine L_s (pc' := 99) rfl rfl ?_
  refine L_ic (pc' := 100) rfl q1_4 rfl ?_
  refine L_rmk (pc' := 101) rfl (by decide) rfl ?_
  refine L_e (b := 3) (by decide) ?_
  refine L_s (pc' := 102) rfl rfl ?_
  refine L_e (b := 24) (by decide) ?_
  refine L_s (pc' := 103) rfl rfl ?_
  refine L_e (b := 0) (by decide) ?_
  refine L_s (pc' := 104) rfl rfl ?_
  refine L_si (pc' := 107) rfl q3_255 rfl ?_
  refine L_s (pc' := 108) rfl rfl ?_
  refine L_wI (pc' := 109) rfl sh_216 (by decide) rfl ?_
  refine L_let fun g1 _ => ?_
  refine L_s (pc' := 110) rfl rfl ?_
  refine L_gf (pc' := 113) rfl fr_215_0 rfl ?_
  refine L_bi (pc' := 115) rfl q2_7 rfl ?_
  refine L_s (pc' := 116) rfl rfl ?_
  refine L_rIk (pc' := 117) (j := 7) rfl sh_216 (by decide) (by decide) (by decide) rfl ?_
  refine L_ic (pc' := 118) rfl q1_1 rfl ?_
  refine L_s (pc' := 119) rfl rfl ?_
  refine L_wIk (pc' := 120) (j := 7) rfl sh_216 (by decide) (by decide) (by decide) rfl ?_
  refine L_let fun g2 _ => ?_
  refine L_ii (pc' := 123) (L' := [some (.ref 215), some (.int v1), some (.int v2), some (.int v3), some (.int v4), some (.int v5), some (.int 20), some (.int s0)]) rfl rfl q1_1 (by decide : (19 : Int32) + 1 = 20) rfl rfl ?_
  refine L_s (pc' := 21) rfl rfl ?_
  refine L_s (pc' := 23) rfl rfl ?_
  refine L_bi (pc' := 25) rfl q2_20 rfl ?_
  refine L_bt (c := (20 : Int32) ≤ 20) (t := 126) (n := 28) rfl rfl (by decide) ?_
  refine L_s (pc' := 127) rfl rfl ?_
  refine L_gf (pc' := 130) rfl fr_215_0 rfl ?_
  refine L_bi (pc' := 132) rfl q2_7 rfl ?_
  refine L_rIk (pc' := 133) (j := 7) rfl sh_216 (by decide) (by decide) (by decide) rfl ?_
  exact L_ret rfl ret_i rfl
theorem p_m_feed_74_19 {X : Xx} {d : Nat} (hd : 0 ≤ d) (v1 : Int32) (v2 : Int32) (v3 : Int32) (v4 : Int32) (v5 : Int32) (s0 : Int32) (g : Sg) : Lt X d (some .int) k_187 (fun r : Int32 × Sg => ((some (.int r.1), (SHF, r.2)) : Out)) 74 [some (.ref 215), some (.int v1), some (.int v2), some (.int v3), some (.int v4), some (.int v5), some (.int 18), none] [.int s0] g (m_feed_74_19 v1 v2 v3 v4 v5 s0 g) := by
  unfold m_feed_74_19
  refine L_s (pc' := 76) (L' := [some (.ref 215), some (.int v1), some (.int v2), some (.int v3), some (.int v4), some (.int v5), some (.int 18), some (.int s0)]) rfl rfl ?_
  refine L_s (pc' := 77) rfl rfl ?_
  refine L_gf (pc' := 80) rfl fr_215_0 rfl ?_
  refine L_si (pc' := 83) rfl q3_4590 rfl ?_
  refine L_s (pc' := 84) rfl rfl ?_
  refine L_gf (pc' := 87) rfl fr_215_0 rfl ?_
  refine L_bi (pc' := 89) rfl q2_7 rfl ?_
  refine L_rIk (pc' := 90) (j := 7) rfl sh_216 (by decide) (by decide) (by decide) rfl ?_
  refine L_s (pc' := 91) rfl rfl ?_
  refine L_s (pc' := 93) rfl rfl ?_
  refine L_bi (pc' := 95) rfl q2_24 rfl ?_
  refine L_bi (pc' := 97) rfl q2_8 rfl ?_
  refine L_s (pc' := 99) rfl rfl ?_
  refine L_ic (pc' := 100) rfl q1_4 rfl ?_
  refine L_rmk (pc' := 101) rfl (by decide) rfl ?_
  refine L_e (b := 2) (by decide) ?_
  refine L_s (pc' := 102) rfl rfl ?_
  refine L_e (b := 16) (by decide) ?_
  refine L_s (pc' := 103) rfl rfl ?_
  refine L_e (b := 8) (by decide) ?_
  refine L_s (pc' := 104) rfl rfl ?_
  refine L_si (pc' := 107) rfl q3_255 rfl ?_
  refine L_s (pc' := 108) rfl rfl ?_
  refine L_wI (pc' := 109) rfl sh_216 (by decide) rfl ?_
  refine L_let fun g1 _ => ?_
  refine L_s (pc' := 110) rfl rfl ?_
  refine L_gf (pc' := 113) rfl fr_215_0 rfl ?_
  refine L_bi (pc' := 115) rfl q2_7 rfl ?_
  refine L_s (pc' := 116) rfl rfl ?_
  refine L_rIk (pc' := 117) (j := 7) rfl sh_216 (by decide) (by decide) (by decide) rfl ?_
  refine L_ic (pc' := 118) rfl q1_1 rfl ?_
  refine L_s (pc' := 119) rfl rfl ?_
  refine L_wIk (pc' := 120) (j := 7) rfl sh_216 (by decide) (by decide) (by decide) rfl ?_
  refine L_let fun g2 _ => ?_
  refine L_ii (pc' := 123) (L' := [some (.ref 215), some (.int v1), some (.int v2), some (.int v3), some (.int v4), some (.int v5), some (.int 19), some (.int s0)]) rfl rfl q1_1 (by decide : (18 : Int32) + 1 = 19) rfl rfl ?_
  refine L_s (pc' := 21) rfl rfl ?_
  refine L_s (pc' := 23) rfl rfl ?_
  refine L_bi (pc' := 25) rfl q2_20 rfl ?_
  refine L_bf (c := (20 : Int32) ≤ 19) (t := 126) (n := 28) rfl rfl (by decide) ?_
  refine L_s (pc' := 30) rfl rfl ?_
  refine L_ic (pc' := 31) rfl q1_4 rfl ?_
  refine L_bt (c := (4 : Int32) ≤ 19) (t := 38) (n := 34) rfl rfl (by decide) ?_
  refine L_s (pc' := 40) rfl rfl ?_
  refine L_bi (pc' := 42) rfl q2_8 rfl ?_
  refine L_bt (c := (8 : Int32) ≤ 19) (t := 49) (n := 45) rfl rfl (by decide) ?_
  refine L_s (pc' := 51) rfl rfl ?_
  refine L_bi (pc' := 53) rfl q2_12 rfl ?_
  refine L_bt (c := (12 : Int32) ≤ 19) (t := 60) (n := 56) rfl rfl (by decide) ?_
  refine L_s (pc' := 62) rfl rfl ?_
  refine L_bi (pc' := 64) rfl q2_16 rfl ?_
  refine L_bt (c := (16 : Int32) ≤ 19) (t := 72) (n := 67) rfl rfl (by decide) ?_
  refine L_s (pc' := 74) rfl rfl ?_
  refine L_wk (L' := [some (.ref 215), some (.int v1), some (.int v2), some (.int v3), some (.int v4), some (.int v5), some (.int 19), none]) (wk_s (wk_s (wk_s (wk_s (wk_s (wk_s (wk_s (wk_n wk_nil)))))))) ?_
  exact p_m_feed_74_20 hd _ _ _ _ _ _ _
theorem p_m_feed_74_18 {X : Xx} {d : Nat} (hd : 0 ≤ d) (v1 : Int32) (v2 : Int32) (v3 : Int32) (v4 : Int32) (v5 : Int32) (s0 : Int32) (g : Sg) : Lt X d (some .int) k_187 (fun r : Int32 × Sg => ((some (.int r.1), (SHF, r.2)) : Out)) 74 [some (.ref 215), some (.int v1), some (.int v2), some (.int v3), some (.int v4), some (.int v5), some (.int 17), none] [.int s0] g (m_feed_74_18 v1 v2 v3 v4 v5 s0 g) := by
  unfold m_feed_74_18
  refine L_s (pc' := 76) (L' := [some (.ref 215), some (.int v1), some (.int v2), some (.int v3), some (.int v4), some (.int v5), some (.int 17), some (.int s0)]) rfl rfl ?_
  refine L_s (pc' := 77) rfl rfl ?_
  refine L_gf (pc' := 80) rfl fr_215_0 rfl ?_
  refine L_si (pc' := 83) rfl q3_4590 rfl ?_
  refine L_s (pc' := 84) rfl rfl ?_
  refine L_gf (pc' := 87) rfl fr_215_0 rfl ?_
  refine L_bi (pc' := 89) rfl q2_7 rfl ?_
  refine L_rIk (pc' := 90) (j := 7) rfl sh_216 (by decide) (by decide) (by decide) rfl ?_
  refine L_s (pc' := 91) rfl rfl ?_
  refine L_s (pc' := 93) rfl rfl ?_
  refine L_bi (pc' := 95) rfl q2_24 rfl ?_
  refine L_bi (pc' := 97) rfl q2_8 rfl ?_
  refine L_s (pc' := 99) rfl rfl ?_
  refine L_ic (pc' := 100) rfl q1_4 rfl ?_
  refine L_rmk (pc' := 101) rfl (by decide) rfl ?_
  refine L_e (b := 1) (by decide) ?_
  refine L_s (pc' := 102) rfl rfl ?_
  refine L_e (b := 8) (by decide) ?_
  refine L_s (pc' := 103) rfl rfl ?_
  refine L_e (b := 16) (by decide) ?_
  refine L_s (pc' := 104) rfl rfl ?_
  refine L_si (pc' := 107) rfl q3_255 rfl ?_
  refine L_s (pc' := 108) rfl rfl ?_
  refine L_wI (pc' := 109) rfl sh_216 (by decide) rfl ?_
  refine L_let fun g1 _ => ?_
  refine L_s (pc' := 110) rfl rfl ?_
  refine L_gf (pc' := 113) rfl fr_215_0 rfl ?_
  refine L_bi (pc' := 115) rfl q2_7 rfl ?_
  refine L_s (pc' := 116) rfl rfl ?_
  refine L_rIk (pc' := 117) (j := 7) rfl sh_216 (by decide) (by decide) (by decide) rfl ?_
  refine L_ic (pc' := 118) rfl q1_1 rfl ?_
  refine L_s (pc' := 119) rfl rfl ?_
  refine L_wIk (pc' := 120) (j := 7) rfl sh_216 (by decide) (by decide) (by decide) rfl ?_
  refine L_let fun g2 _ => ?_
  refine L_ii (pc' := 123) (L' := [some (.ref 215), some (.int v1), some (.int v2), some (.int v3), some (.int v4), some (.int v5), some (.int 18), some (.int s0)]) rfl rfl q1_1 (by decide : (17 : Int32) + 1 = 18) rfl rfl ?_
  refine L_s (pc' := 21) rfl rfl ?_
  refine L_s (pc' := 23) rfl rfl ?_
  refine L_bi (pc' := 25) rfl q2_20 rfl ?_
  refine L_bf (c := (20 : Int32) ≤ 18) (t := 126) (n := 28) rfl rfl (by decide) ?_
  refine L_s (pc' := 30) rfl rfl ?_
  refine L_ic (pc' := 31) rfl q1_4 rfl ?_
  refine L_bt (c := (4 : Int32) ≤ 18) (t := 38) (n := 34) rfl rfl (by decide) ?_
  refine L_s (pc' := 40) rfl rfl ?_
  refine L_bi (pc' := 42) rfl q2_8 rfl ?_
  refine L_bt (c := (8 : Int32) ≤ 18) (t := 49) (n := 45) rfl rfl (by decide) ?_
  refine L_s (pc' := 51) rfl rfl ?_
  refine L_bi (pc' := 53) rfl q2_12 rfl ?_
  refine L_bt (c := (12 : Int32) ≤ 18) (t := 60) (n := 56) rfl rfl (by decide) ?_
  refine L_s (pc' := 62) rfl rfl ?_
  refine L_bi (pc' := 64) rfl q2_16 rfl ?_
  refine L_bt (c := (16 : Int32) ≤ 18) (t := 72) (n := 67) rfl rfl (by decide) ?_
  refine L_s (pc' := 74) rfl rfl ?_
  refine L_wk (L' := [some (.ref 215), some (.int v1), some (.int v2), some (.int v3), some (.int v4), some (.int v5), some (.int 18), none]) (wk_s (wk_s (wk_s (wk_s (wk_s (wk_s (wk_s (wk_n wk_nil)))))))) ?_
  exact p_m_feed_74_19 hd _ _ _ _ _ _ _
theorem p_m_feed_74_17 {X : Xx} {d : Nat} (hd : 0 ≤ d) (v1 : Int32) (v2 : Int32) (v3 : Int32) (v4 : Int32) (v5 : Int32) (s0 : Int32) (g : Sg) : Lt X d (some .int) k_187 (fun r : Int32 × Sg => ((some (.int r.1), (SHF, r.2)) : Out)) 74 [some (.ref 215), some (.int v1), some (.int v2), some (.int v3), some (.int v4), some (.int v5), some (.int 16), none] [.int s0] g (m_feed_74_17 v1 v2 v3 v4 v5 s0 g) := by
  unfold m_feed_74_17
  refine L_s (pc' := 76) (L' := [some (.ref 215), some (.int v1), some (.int v2), some (.int v3), some (.int v4), some (.int v5), some (.int 16), some (.int s0)]) rfl rfl ?_
  refine L_s (pc' := 77) rfl rfl ?_
  refine L_gf (pc' := 80) rfl fr_215_0 rfl ?_
  refine L_si (pc' := 83) rfl q3_4590 rfl ?_
  refine L_s (pc' := 84) rfl rfl ?_
  refine L_gf (pc' := 87) rfl fr_215_0 rfl ?_
  refine L_bi (pc' := 89) rfl q2_7 rfl ?_
  refine L_rIk (pc' := 90) (j := 7) rfl sh_216 (by decide) (by decide) (by decide) rfl ?_
  refine L_s (pc' := 91) rfl rfl ?_
  refine L_s (pc' := 93) rfl rfl ?_
  refine L_bi (pc' := 95) rfl q2_24 rfl ?_
  refine L_bi (pc' := 97) rfl q2_8 rfl ?_
  refine L_s (pc' := 99) rfl rfl ?_
  refine L_ic (pc' := 100) rfl q1_4 rfl ?_
  refine L_rmk (pc' := 101) rfl (by decide) rfl ?_
  refine L_e (b := 0) (by decide) ?_
  refine L_s (pc' := 102) rfl rfl ?_
  refine L_e (b := 0) (by decide) ?_
  refine L_s (pc' := 103) rfl rfl ?_
  refine L_e (b := 24) (by decide) ?_
  refine L_s (pc' := 104) rfl rfl ?_
  refine L_si (pc' := 107) rfl q3_255 rfl ?_
  refine L_s (pc' := 108) rfl rfl ?_
  refine L_wI (pc' := 109) rfl sh_216 (by decide) rfl ?_
  refine L_let fun g1 _ => ?_
  refine L_s (pc' := 110) rfl rfl ?_
  refine L_gf (pc' := 113) rfl fr_215_0 rfl ?_
  refine L_bi (pc' := 115) rfl q2_7 rfl ?_
  refine L_s (pc' := 116) rfl rfl ?_
  refine L_rIk (pc' := 117) (j := 7) rfl sh_216 (by decide) (by decide) (by decide) rfl ?_
  refine L_ic (pc' := 118) rfl q1_1 rfl ?_
  refine L_s (pc' := 119) rfl rfl ?_
  refine L_wIk (pc' := 120) (j := 7) rfl sh_216 (by decide) (by decide) (by decide) rfl ?_
  refine L_let fun g2 _ => ?_
  refine L_ii (pc' := 123) (L' := [some (.ref 215), some (.int v1), some (.int v2), some (.int v3), some (.int v4), some (.int v5), some (.int 17), some (.int s0)]) rfl rfl q1_1 (by decide : (16 : Int32) + 1 = 17) rfl rfl ?_
  refine L_s (pc' := 21) rfl rfl ?_
  refine L_s (pc' := 23) rfl rfl ?_
  refine L_bi (pc' := 25) rfl q2_20 rfl ?_
  refine L_bf (c := (20 : Int32) ≤ 17) (t := 126) (n := 28) rfl rfl (by decide) ?_
  refine L_s (pc' := 30) rfl rfl ?_
  refine L_ic (pc' := 31) rfl q1_4 rfl ?_
  refine L_bt (c := (4 : Int32) ≤ 17) (t := 38) (n := 34) rfl rfl (by decide) ?_
  refine L_s (pc' := 40) rfl rfl ?_
  refine L_bi (pc' := 42) rfl q2_8 rfl ?_
  refine L_bt (c := (8 : Int32) ≤ 17) (t := 49) (n := 45) rfl rfl (by decide) ?_
  refine L_s (pc' := 51) rfl rfl ?_
  refine L_bi (pc' := 53) rfl q2_12 rfl ?_
  refine L_bt (c := (12 : Int32) ≤ 17) (t := 60) (n := 56) rfl rfl (by decide) ?_
  refine L_s (pc' := 62) rfl rfl ?_
  refine L_bi (pc' := 64) rfl q2_16 rfl ?_
  refine L_bt (c := (16 : Int32) ≤ 17) (t := 72) (n := 67) rfl rfl (by decide) ?_
  refine L_s (pc' := 74) rfl rfl ?_
  refine L_wk (L' := [some (.ref 215), some (.int v1), some (.int v2), some (.int v3), some (.int v4), some (.int v5), some (.int 17), none]) (wk_s (wk_s (wk_s (wk_s (wk_s (wk_s (wk_s (wk_n wk_nil)))))))) ?_
  exact p_m_feed_74_18 hd _ _ _ _ _ _ _
theorem p_m_feed_74_16 {X : Xx} {d : Nat} (hd : 0 ≤ d) (v1 : Int32) (v2 : Int32) (v3 : Int32) (v4 : Int32) (v5 : Int32) (s0 : Int32) (g : Sg) : Lt X d (some .int) k_187 (fun r : Int32 × Sg => ((some (.int r.1), (SHF, r.2)) : Out)) 74 [some (.ref 215), some (.int v1), some (.int v2), some (.int v3), some (.int v4), some (.int v5), some (.int 15), none] [.int s0] g (m_feed_74_16 v1 v2 v3 v4 v5 s0 g) := by
  unfold m_feed_74_16
  refine L_s (pc' := 76) (L' := [some (.ref 215), some (.int v1), some (.int v2), some (.int v3), some (.int v4), some (.int v5), some (.int 15), some (.int s0)]) rfl rfl ?_
  refine L_s (pc' := 77) rfl rfl ?_
  refine L_gf (pc' := 80) rfl fr_215_0 rfl ?_
  refine L_si (pc' := 83) rfl q3_4590 rfl ?_
  refine L_s (pc' := 84) rfl rfl ?_
  refine L_gf (pc' := 87) rfl fr_215_0 rfl ?_
  refine L_bi (pc' := 89) rfl q2_7 rfl ?_
  refine L_rIk (pc' := 90) (j := 7) rfl sh_216 (by decide) (by decide) (by decide) rfl ?_
  refine L_s (pc' := 91) rfl rfl ?_
  refine L_s (pc' := 93) rfl rfl ?_
  refine L_bi (pc' := 95) rfl q2_24 rfl ?_
  refine L_bi (pc' := 97) rfl q2_8 rfl ?_
  refine L_s (pc' := 99) rfl rfl ?_
  refine L_ic (pc' := 100) rfl q1_4 rfl ?_
  refine L_rmk (pc' := 101) rfl (by decide) rfl ?_
  refine L_e (b := 3) (by decide) ?_
  refine L_s (pc' := 102) rfl rfl ?_
  refine L_e (b := 24) (by decide) ?_
  refine L_s (pc' := 103) rfl rfl ?_
  refine L_e (b := 0) (by decide) ?_
  refine L_s (pc' := 104) rfl rfl ?_
  refine L_si (pc' := 107) rfl q3_255 rfl ?_
  refine L_s (pc' := 108) rfl rfl ?_
  refine L_wI (pc' := 109) rfl sh_216 (by decide) rfl ?_
  refine L_let fun g1 _ => ?_
  refine L_s (pc' := 110) rfl rfl ?_
  refine L_gf (pc' := 113) rfl fr_215_0 rfl ?_
  refine L_bi (pc' := 115) rfl q2_7 rfl ?_
  refine L_s (pc' := 116) rfl rfl ?_
  refine L_rIk (pc' := 117) (j := 7) rfl sh_216 (by decide) (by decide) (by decide) rfl ?_
  refine L_ic (pc' := 118) rfl q1_1 rfl ?_
  refine L_s (pc' := 119) rfl rfl ?_
  refine L_wIk (pc' := 120) (j := 7) rfl sh_216 (by decide) (by decide) (by decide) rfl ?_
  refine L_let fun g2 _ => ?_
  refine L_ii (pc' := 123) (L' := [some (.ref 215), some (.int v1), some (.int v2), some (.int v3), some (.int v4), some (.int v5), some (.int 16), some (.int s0)]) rfl rfl q1_1 (by decide : (15 : Int32) + 1 = 16) rfl rfl ?_
  refine L_s (pc' := 21) rfl rfl ?_
  refine L_s (pc' := 23) rfl rfl ?_
  refine L_bi (pc' := 25) rfl q2_20 rfl ?_
  refine L_bf (c := (20 : Int32) ≤ 16) (t := 126) (n := 28) rfl rfl (by decide) ?_
  refine L_s (pc' := 30) rfl rfl ?_
  refine L_ic (pc' := 31) rfl q1_4 rfl ?_
  refine L_bt (c := (4 : Int32) ≤ 16) (t := 38) (n := 34) rfl rfl (by decide) ?_
  refine L_s (pc' := 40) rfl rfl ?_
  refine L_bi (pc' := 42) rfl q2_8 rfl ?_
  refine L_bt (c := (8 : Int32) ≤ 16) (t := 49) (n := 45) rfl rfl (by decide) ?_
  refine L_s (pc' := 51) rfl rfl ?_
  refine L_bi (pc' := 53) rfl q2_12 rfl ?_
  refine L_bt (c := (12 : Int32) ≤ 16) (t := 60) (n := 56) rfl rfl (by decide) ?_
  refine L_s (pc' := 62) rfl rfl ?_
  refine L_bi (pc' := 64) rfl q2_16 rfl ?_
  refine L_bt (c := (16 : Int32) ≤ 16) (t := 72) (n := 67) rfl rfl (by decide) ?_
  refine L_s (pc' := 74) rfl rfl ?_
  refine L_wk (L' := [some (.ref 215), some (.int v1), some (.int v2), some (.int v3), some (.int v4), some (.int v5), some (.int 16), none]) (wk_s (wk_s (wk_s (wk_s (wk_s (wk_s (wk_s (wk_n wk_nil)))))))) ?_
  exact p_m_feed_74_17 hd _ _ _ _ _ _ _
theorem p_m_feed_74_15 {X : Xx} {d : Nat} (hd : 0 ≤ d) (v1 : Int32) (v2 : Int32) (v3 : Int32) (v4 : Int32) (v5 : Int32) (s0 : Int32) (g : Sg) : Lt X d (some .int) k_187 (fun r : Int32 × Sg => ((some (.int r.1), (SHF, r.2)) : Out)) 74 [some (.ref 215), some (.int v1), some (.int v2), some (.int v3), some (.int v4), some (.int v5), some (.int 14), none] [.int s0] g (m_feed_74_15 v1 v2 v3 v4 v5 s0 g) := by
  unfold m_feed_74_15
  refine L_s (pc' := 76) (L' := [some (.ref 215), some (.int v1), some (.int v2), some (.int v3), some (.int v4), some (.int v5), some (.int 14), some (.int s0)]) rfl rfl ?_
  refine L_s (pc' := 77) rfl rfl ?_
  refine L_gf (pc' := 80) rfl fr_215_0 rfl ?_
  refine L_si (pc' := 83) rfl q3_4590 rfl ?_
  refine L_s (pc' := 84) rfl rfl ?_
  refine L_gf (pc' := 87) rfl fr_215_0 rfl ?_
  refine L_bi (pc' := 89) rfl q2_7 rfl ?_
  refine L_rIk (pc' := 90) (j := 7) rfl sh_216 (by decide) (by decide) (by decide) rfl ?_
  refine L_s (pc' := 91) rfl rfl ?_
  refine L_s (pc' := 93) rfl rfl ?_
  refine L_bi (pc' := 95) rfl q2_24 rfl ?_
  refine L_bi (pc' := 97) rfl q2_8 rfl ?_
  refine L_s (pc' := 99) rfl rfl ?_
  refine L_ic (pc' := 100) rfl q1_4 rfl ?_
  refine L_rmk (pc' := 101) rfl (by decide) rfl ?_
  refine L_e (b := 2) (by decide) ?_
  refine L_s (pc' := 102) rfl rfl ?_
  refine L_e (b := 16) (by decide) ?_
  refine L_s (pc' := 103) rfl rfl ?_
  refine L_e (b := 8) (by decide) ?_
  refine L_s (pc' := 104) rfl rfl ?_
  refine L_si (pc' := 107) rfl q3_255 rfl ?_
  refine L_s (pc' := 108) rfl rfl ?_
  refine L_wI (pc' := 109) rfl sh_216 (by decide) rfl ?_
  refine L_let fun g1 _ => ?_
  refine L_s (pc' := 110) rfl rfl ?_
  refine L_gf (pc' := 113) rfl fr_215_0 rfl ?_
  refine L_bi (pc' := 115) rfl q2_7 rfl ?_
  refine L_s (pc' := 116) rfl rfl ?_
  refine L_rIk (pc' := 117) (j := 7) rfl sh_216 (by decide) (by decide) (by decide) rfl ?_
  refine L_ic (pc' := 118) rfl q1_1 rfl ?_
  refine L_s (pc' := 119) rfl rfl ?_
  refine L_wIk (pc' := 120) (j := 7) rfl sh_216 (by decide) (by decide) (by decide) rfl ?_
  refine L_let fun g2 _ => ?_
  refine L_ii (pc' := 123) (L' := [some (.ref 215), some (.int v1), some (.int v2), some (.int v3), some (.int v4), some (.int v5), some (.int 15), some (.int s0)]) rfl rfl q1_1 (by decide : (14 : Int32) + 1 = 15) rfl rfl ?_
  refine L_s (pc' := 21) rfl rfl ?_
  refine L_s (pc' := 23) rfl rfl ?_
  refine L_bi (pc' := 25) rfl q2_20 rfl ?_
  refine L_bf (c := (20 : Int32) ≤ 15) (t := 126) (n := 28) rfl rfl (by decide) ?_
  refine L_s (pc' := 30) rfl rfl ?_
  refine L_ic (pc' := 31) rfl q1_4 rfl ?_
  refine L_bt (c := (4 : Int32) ≤ 15) (t := 38) (n := 34) rfl rfl (by decide) ?_
  refine L_s (pc' := 40) rfl rfl ?_
  refine L_bi (pc' := 42) rfl q2_8 rfl ?_
  refine L_bt (c := (8 : Int32) ≤ 15) (t := 49) (n := 45) rfl rfl (by decide) ?_
  refine L_s (pc' := 51) rfl rfl ?_
  refine L_bi (pc' := 53) rfl q2_12 rfl ?_
  refine L_bt (c := (12 : Int32) ≤ 15) (t := 60) (n := 56) rfl rfl (by decide) ?_
  refine L_s (pc' := 62) rfl rfl ?_
  refine L_bi (pc' := 64) rfl q2_16 rfl ?_
  refine L_bf (c := (16 : Int32) ≤ 15) (t := 72) (n := 67) rfl rfl (by decide) ?_
  refine L_s (pc' := 69) rfl rfl ?_
  refine L_s (pc' := 74) rfl rfl ?_
  refine L_wk (L' := [some (.ref 215), some (.int v1), some (.int v2), some (.int v3), some (.int v4), some (.int v5), some (.int 15), none]) (wk_s (wk_s (wk_s (wk_s (wk_s (wk_s (wk_s (wk_n wk_nil)))))))) ?_
  exact p_m_feed_74_16 hd _ _ _ _ _ _ _
theorem p_m_feed_74_14 {X : Xx} {d : Nat} (hd : 0 ≤ d) (v1 : Int32) (v2 : Int32) (v3 : Int32) (v4 : Int32) (v5 : Int32) (s0 : Int32) (g : Sg) : Lt X d (some .int) k_187 (fun r : Int32 × Sg => ((some (.int r.1), (SHF, r.2)) : Out)) 74 [some (.ref 215), some (.int v1), some (.int v2), some (.int v3), some (.int v4), some (.int v5), some (.int 13), none] [.int s0] g (m_feed_74_14 v1 v2 v3 v4 v5 s0 g) := by
  unfold m_feed_74_14
  refine L_s (pc' := 76) (L' := [some (.ref 215), some (.int v1), some (.int v2), some (.int v3), some (.int v4), some (.int v5), some (.int 13), some (.int s0)]) rfl rfl ?_
  refine L_s (pc' := 77) rfl rfl ?_
  refine L_gf (pc' := 80) rfl fr_215_0 rfl ?_
  refine L_si (pc' := 83) rfl q3_4590 rfl ?_
  refine L_s (pc' := 84) rfl rfl ?_
  refine L_gf (pc' := 87) rfl fr_215_0 rfl ?_
  refine L_bi (pc' := 89) rfl q2_7 rfl ?_
  refine L_rIk (pc' := 90) (j := 7) rfl sh_216 (by decide) (by decide) (by decide) rfl ?_
  refine L_s (pc' := 91) rfl rfl ?_
  refine L_s (pc' := 93) rfl rfl ?_
  refine L_bi (pc' := 95) rfl q2_24 rfl ?_
  refine L_bi (pc' := 97) rfl q2_8 rfl ?_
  refine L_s (pc' := 99) rfl rfl ?_
  refine L_ic (pc' := 100) rfl q1_4 rfl ?_
  refine L_rmk (pc' := 101) rfl (by decide) rfl ?_
  refine L_e (b := 1) (by decide) ?_
  refine L_s (pc' := 102) rfl rfl ?_
  refine L_e (b := 8) (by decide) ?_
  refine L_s (pc' := 103) rfl rfl ?_
  refine L_e (b := 16) (by decide) ?_
  refine L_s (pc' := 104) rfl rfl ?_
  refine L_si (pc' := 107) rfl q3_255 rfl ?_
  refine L_s (pc' := 108) rfl rfl ?_
  refine L_wI (pc' := 109) rfl sh_216 (by decide) rfl ?_
  refine L_let fun g1 _ => ?_
  refine L_s (pc' := 110) rfl rfl ?_
  refine L_gf (pc' := 113) rfl fr_215_0 rfl ?_
  refine L_bi (pc' := 115) rfl q2_7 rfl ?_
  refine L_s (pc' := 116) rfl rfl ?_
  refine L_rIk (pc' := 117) (j := 7) rfl sh_216 (by decide) (by decide) (by decide) rfl ?_
  refine L_ic (pc' := 118) rfl q1_1 rfl ?_
  refine L_s (pc' := 119) rfl rfl ?_
  refine L_wIk (pc' := 120) (j := 7) rfl sh_216 (by decide) (by decide) (by decide) rfl ?_
  refine L_let fun g2 _ => ?_
  refine L_ii (pc' := 123) (L' := [some (.ref 215), some (.int v1), some (.int v2), some (.int v3), some (.int v4), some (.int v5), some (.int 14), some (.int s0)]) rfl rfl q1_1 (by decide : (13 : Int32) + 1 = 14) rfl rfl ?_
  refine L_s (pc' := 21) rfl rfl ?_
  refine L_s (pc' := 23) rfl rfl ?_
  refine L_bi (pc' := 25) rfl q2_20 rfl ?_
  refine L_bf (c := (20 : Int32) ≤ 14) (t := 126) (n := 28) rfl rfl (by decide) ?_
  refine L_s (pc' := 30) rfl rfl ?_
  refine L_ic (pc' := 31) rfl q1_4 rfl ?_
  refine L_bt (c := (4 : Int32) ≤ 14) (t := 38) (n := 34) rfl rfl (by decide) ?_
  refine L_s (pc' := 40) rfl rfl ?_
  refine L_bi (pc' := 42) rfl q2_8 rfl ?_
  refine L_bt (c := (8 : Int32) ≤ 14) (t := 49) (n := 45) rfl rfl (by decide) ?_
  refine L_s (pc' := 51) rfl rfl ?_
  refine L_bi (pc' := 53) rfl q2_12 rfl ?_
  refine L_bt (c := (12 : Int32) ≤ 14) (t := 60) (n := 56) rfl rfl (by decide) ?_
  refine L_s (pc' := 62) rfl rfl ?_
  refine L_bi (pc' := 64) rfl q2_16 rfl ?_
  refine L_bf (c := (16 : Int32) ≤ 14) (t := 72) (n := 67) rfl rfl (by decide) ?_
  refine L_s (pc' := 69) rfl rfl ?_
  refine L_s (pc' := 74) rfl rfl ?_
  refine L_wk (L' := [some (.ref 215), some (.int v1), some (.int v2), some (.int v3), some (.int v4), some (.int v5), some (.int 14), none]) (wk_s (wk_s (wk_s (wk_s (wk_s (wk_s (wk_s (wk_n wk_nil)))))))) ?_
  exact p_m_feed_74_15 hd _ _ _ _ _ _ _
theorem p_m_feed_74_13 {X : Xx} {d : Nat} (hd : 0 ≤ d) (v1 : Int32) (v2 : Int32) (v3 : Int32) (v4 : Int32) (v5 : Int32) (s0 : Int32) (g : Sg) : Lt X d (some .int) k_187 (fun r : Int32 × Sg => ((some (.int r.1), (SHF, r.2)) : Out)) 74 [some (.ref 215), some (.int v1), some (.int v2), some (.int v3), some (.int v4), some (.int v5), some (.int 12), none] [.int s0] g (m_feed_74_13 v1 v2 v3 v4 v5 s0 g) := by
  unfold m_feed_74_13
  refine L_s (pc' := 76) (L' := [some (.ref 215), some (.int v1), some (.int v2), some (.int v3), some (.int v4), some (.int v5), some (.int 12), some (.int s0)]) rfl rfl ?_
  refine L_s (pc' := 77) rfl rfl ?_
  refine L_gf (pc' := 80) rfl fr_215_0 rfl ?_
  refine L_si (pc' := 83) rfl q3_4590 rfl ?_
  refine L_s (pc' := 84) rfl rfl ?_
  refine L_gf (pc' := 87) rfl fr_215_0 rfl ?_
  refine L_bi (pc' := 89) rfl q2_7 rfl ?_
  refine L_rIk (pc' := 90) (j := 7) rfl sh_216 (by decide) (by decide) (by decide) rfl ?_
  refine L_s (pc' := 91) rfl rfl ?_
  refine L_s (pc' := 93) rfl rfl ?_
  refine L_bi (pc' := 95) rfl q2_24 rfl ?_
  refine L_bi (pc' := 97) rfl q2_8 rfl ?_
  refine L_s (pc' := 99) rfl rfl ?_
  refine L_ic (pc' := 100) rfl q1_4 rfl ?_
  refine L_rmk (pc' := 101) rfl (by decide) rfl ?_
  refine L_e (b := 0) (by decide) ?_
  refine L_s (pc' := 102) rfl rfl ?_
  refine L_e (b := 0) (by decide) ?_
  refine L_s (pc' := 103) rfl rfl ?_
  refine L_e (b := 24) (by decide) ?_
  refine L_s (pc' := 104) rfl rfl ?_
  refine L_si (pc' := 107) rfl q3_255 rfl ?_
  refine L_s (pc' := 108) rfl rfl ?_
  refine L_wI (pc' := 109) rfl sh_216 (by decide) rfl ?_
  refine L_let fun g1 _ => ?_
  refine L_s (pc' := 110) rfl rfl ?_
  refine L_gf (pc' := 113) rfl fr_215_0 rfl ?_
  refine L_bi (pc' := 115) rfl q2_7 rfl ?_
  refine L_s (pc' := 116) rfl rfl ?_
  refine L_rIk (pc' := 117) (j := 7) rfl sh_216 (by decide) (by decide) (by decide) rfl ?_
  refine L_ic (pc' := 118) rfl q1_1 rfl ?_
  refine L_s (pc' := 119) rfl rfl ?_
  refine L_wIk (pc' := 120) (j := 7) rfl sh_216 (by decide) (by decide) (by decide) rfl ?_
  refine L_let fun g2 _ => ?_
  refine L_ii (pc' := 123) (L' := [some (.ref 215), some (.int v1), some (.int v2), some (.int v3), some (.int v4), some (.int v5), some (.int 13), some (.int s0)]) rfl rfl q1_1 (by decide : (12 : Int32) + 1 = 13) rfl rfl ?_
  refine L_s (pc' := 21) rfl rfl ?_
  refine L_s (pc' := 23) rfl rfl ?_
  refine L_bi (pc' := 25) rfl q2_20 rfl ?_
  refine L_bf (c := (20 : Int32) ≤ 13) (t := 126) (n := 28) rfl rfl (by decide) ?_
  refine L_s (pc' := 30) rfl rfl ?_
  refine L_ic (pc' := 31) rfl q1_4 rfl ?_
  refine L_bt (c := (4 : Int32) ≤ 13) (t := 38) (n := 34) rfl rfl (by decide) ?_
  refine L_s (pc' := 40) rfl rfl ?_
  refine L_bi (pc' := 42) rfl q2_8 rfl ?_
  refine L_bt (c := (8 : Int32) ≤ 13) (t := 49) (n := 45) rfl rfl (by decide) ?_
  refine L_s (pc' := 51) rfl rfl ?_
  refine L_bi (pc' := 53) rfl q2_12 rfl ?_
  refine L_bt (c := (12 : Int32) ≤ 13) (t := 60) (n := 56) rfl rfl (by decide) ?_
  refine L_s (pc' := 62) rfl rfl ?_
  refine L_bi (pc' := 64) rfl q2_16 rfl ?_
  refine L_bf (c := (16 : Int32) ≤ 13) (t := 72) (n := 67) rfl rfl (by decide) ?_
  refine L_s (pc' := 69) rfl rfl ?_
  refine L_s (pc' := 74) rfl rfl ?_
  refine L_wk (L' := [some (.ref 215), some (.int v1), some (.int v2), some (.int v3), some (.int v4), some (.int v5), some (.int 13), none]) (wk_s (wk_s (wk_s (wk_s (wk_s (wk_s (wk_s (wk_n wk_nil)))))))) ?_
  exact p_m_feed_74_14 hd _ _ _ _ _ _ _
theorem p_m_feed_74_12 {X : Xx} {d : Nat} (hd : 0 ≤ d) (v1 : Int32) (v2 : Int32) (v3 : Int32) (v4 : Int32) (v5 : Int32) (s0 : Int32) (g : Sg) : Lt X d (some .int) k_187 (fun r : Int32 × Sg => ((some (.int r.1), (SHF, r.2)) : Out)) 74 [some (.ref 215), some (.int v1), some (.int v2), some (.int v3), some (.int v4), some (.int v5), some (.int 11), none] [.int s0] g (m_feed_74_12 v1 v2 v3 v4 v5 s0 g) := by
  unfold m_feed_74_12
  refine L_s (pc' := 76) (L' := [some (.ref 215), some (.int v1), some (.int v2), some (.int v3), some (.int v4), some (.int v5), some (.int 11), some (.int s0)]) rfl rfl ?_
  refine L_s (pc' := 77) rfl rfl ?_
  refine L_gf (pc' := 80) rfl fr_215_0 rfl ?_
  refine L_si (pc' := 83) rfl q3_4590 rfl ?_
  refine L_s (pc' := 84) rfl rfl ?_
  refine L_gf (pc' := 87) rfl fr_215_0 rfl ?_
  refine L_bi (pc' := 89) rfl q2_7 rfl ?_
  refine L_rIk (pc' := 90) (j := 7) rfl sh_216 (by decide) (by decide) (by decide) rfl ?_
  refine L_s (pc' := 91) rfl rfl ?_
  refine L_s (pc' := 93) rfl rfl ?_
  refine L_bi (pc' := 95) rfl q2_24 rfl ?_
  refine L_bi (pc' := 97) rfl q2_8 rfl ?_
  refine L_s (pc' := 99) rfl rfl ?_
  refine L_ic (pc' := 100) rfl q1_4 rfl ?_
  refine L_rmk (pc' := 101) rfl (by decide) rfl ?_
  refine L_e (b := 3) (by decide) ?_
  refine L_s (pc' := 102) rfl rfl ?_
  refine L_e (b := 24) (by decide) ?_
  refine L_s (pc' := 103) rfl rfl ?_
  refine L_e (b := 0) (by decide) ?_
  refine L_s (pc' := 104) rfl rfl ?_
  refine L_si (pc' := 107) rfl q3_255 rfl ?_
  refine L_s (pc' := 108) rfl rfl ?_
  refine L_wI (pc' := 109) rfl sh_216 (by decide) rfl ?_
  refine L_let fun g1 _ => ?_
  refine L_s (pc' := 110) rfl rfl ?_
  refine L_gf (pc' := 113) rfl fr_215_0 rfl ?_
  refine L_bi (pc' := 115) rfl q2_7 rfl ?_
  refine L_s (pc' := 116) rfl rfl ?_
  refine L_rIk (pc' := 117) (j := 7) rfl sh_216 (by decide) (by decide) (by decide) rfl ?_
  refine L_ic (pc' := 118) rfl q1_1 rfl ?_
  refine L_s (pc' := 119) rfl rfl ?_
  refine L_wIk (pc' := 120) (j := 7) rfl sh_216 (by decide) (by decide) (by decide) rfl ?_
  refine L_let fun g2 _ => ?_
  refine L_ii (pc' := 123) (L' := [some (.ref 215), some (.int v1), some (.int v2), some (.int v3), some (.int v4), some (.int v5), some (.int 12), some (.int s0)]) rfl rfl q1_1 (by decide : (11 : Int32) + 1 = 12) rfl rfl ?_
  refine L_s (pc' := 21) rfl rfl ?_
  refine L_s (pc' := 23) rfl rfl ?_
  refine L_bi (pc' := 25) rfl q2_20 rfl ?_
  refine L_bf (c := (20 : Int32) ≤ 12) (t := 126) (n := 28) rfl rfl (by decide) ?_
  refine L_s (pc' := 30) rfl rfl ?_
  refine L_ic (pc' := 31) rfl q1_4 rfl ?_
  refine L_bt (c := (4 : Int32) ≤ 12) (t := 38) (n := 34) rfl rfl (by decide) ?_
  refine L_s (pc' := 40) rfl rfl ?_
  refine L_bi (pc' := 42) rfl q2_8 rfl ?_
  refine L_bt (c := (8 : Int32) ≤ 12) (t := 49) (n := 45) rfl rfl (by decide) ?_
  refine L_s (pc' := 51) rfl rfl ?_
  refine L_bi (pc' := 53) rfl q2_12 rfl ?_
  refine L_bt (c := (12 : Int32) ≤ 12) (t := 60) (n := 56) rfl rfl (by decide) ?_
  refine L_s (pc' := 62) rfl rfl ?_
  refine L_bi (pc' := 64) rfl q2_16 rfl ?_
  refine L_bf (c := (16 : Int32) ≤ 12) (t := 72) (n := 67) rfl rfl (by decide) ?_
  refine L_s (pc' := 69) rfl rfl ?_
  refine L_s (pc' := 74) rfl rfl ?_
  refine L_wk (L' := [some (.ref 215), some (.int v1), some (.int v2), some (.int v3), some (.int v4), some (.int v5), some (.int 12), none]) (wk_s (wk_s (wk_s (wk_s (wk_s (wk_s (wk_s (wk_n wk_nil)))))))) ?_
  exact p_m_feed_74_13 hd _ _ _ _ _ _ _
theorem p_m_feed_74_11 {X : Xx} {d : Nat} (hd : 0 ≤ d) (v1 : Int32) (v2 : Int32) (v3 : Int32) (v4 : Int32) (v5 : Int32) (s0 : Int32) (g : Sg) : Lt X d (some .int) k_187 (fun r : Int32 × Sg => ((some (.int r.1), (SHF, r.2)) : Out)) 74 [some (.ref 215), some (.int v1), some (.int v2), some (.int v3), some (.int v4), some (.int v5), some (.int 10), none] [.int s0] g (m_feed_74_11 v1 v2 v3 v4 v5 s0 g) := by
  unfold m_feed_74_11
  refine L_s (pc' := 76) (L' := [some (.ref 215), some (.int v1), some (.int v2), some (.int v3), some (.int v4), some (.int v5), some (.int 10), some (.int s0)]) rfl rfl ?_
  refine L_s (pc' := 77) rfl rfl ?_
  refine L_gf (pc' := 80) rfl fr_215_0 rfl ?_
  refine L_si (pc' := 83) rfl q3_4590 rfl ?_
  refine L_s (pc' := 84) rfl rfl ?_
  refine L_gf (pc' := 87) rfl fr_215_0 rfl ?_
  refine L_bi (pc' := 89) rfl q2_7 rfl ?_
  refine L_rIk (pc' := 90) (j := 7) rfl sh_216 (by decide) (by decide) (by decide) rfl ?_
  refine L_s (pc' := 91) rfl rfl ?_
  refine L_s (pc' := 93) rfl rfl ?_
  refine L_bi (pc' := 95) rfl q2_24 rfl ?_
  refine L_bi (pc' := 97) rfl q2_8 rfl ?_
  refine L_s (pc' := 99) rfl rfl ?_
  refine L_ic (pc' := 100) rfl q1_4 rfl ?_
  refine L_rmk (pc' := 101) rfl (by decide) rfl ?_
  refine L_e (b := 2) (by decide) ?_
  refine L_s (pc' := 102) rfl rfl ?_
  refine L_e (b := 16) (by decide) ?_
  refine L_s (pc' := 103) rfl rfl ?_
  refine L_e (b := 8) (by decide) ?_
  refine L_s (pc' := 104) rfl rfl ?_
  refine L_si (pc' := 107) rfl q3_255 rfl ?_
  refine L_s (pc' := 108) rfl rfl ?_
  refine L_wI (pc' := 109) rfl sh_216 (by decide) rfl ?_
  refine L_let fun g1 _ => ?_
  refine L_s (pc' := 110) rfl rfl ?_
  refine L_gf (pc' := 113) rfl fr_215_0 rfl ?_
  refine L_bi (pc' := 115) rfl q2_7 rfl ?_
  refine L_s (pc' := 116) rfl rfl ?_
  refine L_rIk (pc' := 117) (j := 7) rfl sh_216 (by decide) (by decide) (by decide) rfl ?_
  refine L_ic (pc' := 118) rfl q1_1 rfl ?_
  refine L_s (pc' := 119) rfl rfl ?_
  refine L_wIk (pc' := 120) (j := 7) rfl sh_216 (by decide) (by decide) (by decide) rfl ?_
  refine L_let fun g2 _ => ?_
  refine L_ii (pc' := 123) (L' := [some (.ref 215), some (.int v1), some (.int v2), some (.int v3), some (.int v4), some (.int v5), some (.int 11), some (.int s0)]) rfl rfl q1_1 (by decide : (10 : Int32) + 1 = 11) rfl rfl ?_
  refine L_s (pc' := 21) rfl rfl ?_
  refine L_s (pc' := 23) rfl rfl ?_
  refine L_bi (pc' := 25) rfl q2_20 rfl ?_
  refine L_bf (c := (20 : Int32) ≤ 11) (t := 126) (n := 28) rfl rfl (by decide) ?_
  refine L_s (pc' := 30) rfl rfl ?_
  refine L_ic (pc' := 31) rfl q1_4 rfl ?_
  refine L_bt (c := (4 : Int32) ≤ 11) (t := 38) (n := 34) rfl rfl (by decide) ?_
  refine L_s (pc' := 40) rfl rfl ?_
  refine L_bi (pc' := 42) rfl q2_8 rfl ?_
  refine L_bt (c := (8 : Int32) ≤ 11) (t := 49) (n := 45) rfl rfl (by decide) ?_
  refine L_s (pc' := 51) rfl rfl ?_
  refine L_bi (pc' := 53) rfl q2_12 rfl ?_
  refine L_bf (c := (12 : Int32) ≤ 11) (t := 60) (n := 56) rfl rfl (by decide) ?_
  refine L_s (pc' := 57) rfl rfl ?_
  refine L_s (pc' := 74) rfl rfl ?_
  refine L_wk (L' := [some (.ref 215), some (.int v1), some (.int v2), some (.int v3), some (.int v4), some (.int v5), some (.int 11), none]) (wk_s (wk_s (wk_s (wk_s (wk_s (wk_s (wk_s (wk_n wk_nil)))))))) ?_
  exact p_m_feed_74_12 hd _ _ _ _ _ _ _
theorem p_m_feed_74_10 {X : Xx} {d : Nat} (hd : 0 ≤ d) (v1 : Int32) (v2 : Int32) (v3 : Int32) (v4 : Int32) (v5 : Int32) (s0 : Int32) (g : Sg) : Lt X d (some .int) k_187 (fun r : Int32 × Sg => ((some (.int r.1), (SHF, r.2)) : Out)) 74 [some (.ref 215), some (.int v1), some (.int v2), some (.int v3), some (.int v4), some (.int v5), some (.int 9), none] [.int s0] g (m_feed_74_10 v1 v2 v3 v4 v5 s0 g) := by
  unfold m_feed_74_10
  refine L_s (pc' := 76) (L' := [some (.ref 215), some (.int v1), some (.int v2), some (.int v3), some (.int v4), some (.int v5), some (.int 9), some (.int s0)]) rfl rfl ?_
  refine L_s (pc' := 77) rfl rfl ?_
  refine L_gf (pc' := 80) rfl fr_215_0 rfl ?_
  refine L_si (pc' := 83) rfl q3_4590 rfl ?_
  refine L_s (pc' := 84) rfl rfl ?_
  refine L_gf (pc' := 87) rfl fr_215_0 rfl ?_
  refine L_bi (pc' := 89) rfl q2_7 rfl ?_
  refine L_rIk (pc' := 90) (j := 7) rfl sh_216 (by decide) (by decide) (by decide) rfl ?_
  refine L_s (pc' := 91) rfl rfl ?_
  refine L_s (pc' := 93) rfl rfl ?_
  refine L_bi (pc' := 95) rfl q2_24 rfl ?_
  refine L_bi (pc' := 97) rfl q2_8 rfl ?_
  refine L_s (pc' := 99) rfl rfl ?_
  refine L_ic (pc' := 100) rfl q1_4 rfl ?_
  refine L_rmk (pc' := 101) rfl (by decide) rfl ?_
  refine L_e (b := 1) (by decide) ?_
  refine L_s (pc' := 102) rfl rfl ?_
  refine L_e (b := 8) (by decide) ?_
  refine L_s (pc' := 103) rfl rfl ?_
  refine L_e (b := 16) (by decide) ?_
  refine L_s (pc' := 104) rfl rfl ?_
  refine L_si (pc' := 107) rfl q3_255 rfl ?_
  refine L_s (pc' := 108) rfl rfl ?_
  refine L_wI (pc' := 109) rfl sh_216 (by decide) rfl ?_
  refine L_let fun g1 _ => ?_
  refine L_s (pc' := 110) rfl rfl ?_
  refine L_gf (pc' := 113) rfl fr_215_0 rfl ?_
  refine L_bi (pc' := 115) rfl q2_7 rfl ?_
  refine L_s (pc' := 116) rfl rfl ?_
  refine L_rIk (pc' := 117) (j := 7) rfl sh_216 (by decide) (by decide) (by decide) rfl ?_
  refine L_ic (pc' := 118) rfl q1_1 rfl ?_
  refine L_s (pc' := 119) rfl rfl ?_
  refine L_wIk (pc' := 120) (j := 7) rfl sh_216 (by decide) (by decide) (by decide) rfl ?_
  refine L_let fun g2 _ => ?_
  refine L_ii (pc' := 123) (L' := [some (.ref 215), some (.int v1), some (.int v2), some (.int v3), some (.int v4), some (.int v5), some (.int 10), some (.int s0)]) rfl rfl q1_1 (by decide : (9 : Int32) + 1 = 10) rfl rfl ?_
  refine L_s (pc' := 21) rfl rfl ?_
  refine L_s (pc' := 23) rfl rfl ?_
  refine L_bi (pc' := 25) rfl q2_20 rfl ?_
  refine L_bf (c := (20 : Int32) ≤ 10) (t := 126) (n := 28) rfl rfl (by decide) ?_
  refine L_s (pc' := 30) rfl rfl ?_
  refine L_ic (pc' := 31) rfl q1_4 rfl ?_
  refine L_bt (c := (4 : Int32) ≤ 10) (t := 38) (n := 34) rfl rfl (by decide) ?_
  refine L_s (pc' := 40) rfl rfl ?_
  refine L_bi (pc' := 42) rfl q2_8 rfl ?_
  refine L_bt (c := (8 : Int32) ≤ 10) (t := 49) (n := 45) rfl rfl (by decide) ?_
  refine L_s (pc' := 51) rfl rfl ?_
  refine L_bi (pc' := 53) rfl q2_12 rfl ?_
  refine L_bf (c := (12 : Int32) ≤ 10) (t := 60) (n := 56) rfl rfl (by decide) ?_
  refine L_s (pc' := 57) rfl rfl ?_
  refine L_s (pc' := 74) rfl rfl ?_
  refine L_wk (L' := [some (.ref 215), some (.int v1), some (.int v2), some (.int v3), some (.int v4), some (.int v5), some (.int 10), none]) (wk_s (wk_s (wk_s (wk_s (wk_s (wk_s (wk_s (wk_n wk_nil)))))))) ?_
  exact p_m_feed_74_11 hd _ _ _ _ _ _ _
theorem p_m_feed_74_9 {X : Xx} {d : Nat} (hd : 0 ≤ d) (v1 : Int32) (v2 : Int32) (v3 : Int32) (v4 : Int32) (v5 : Int32) (s0 : Int32) (g : Sg) : Lt X d (some .int) k_187 (fun r : Int32 × Sg => ((some (.int r.1), (SHF, r.2)) : Out)) 74 [some (.ref 215), some (.int v1), some (.int v2), some (.int v3), some (.int v4), some (.int v5), some (.int 8), none] [.int s0] g (m_feed_74_9 v1 v2 v3 v4 v5 s0 g) := by
  unfold m_feed_74_9
  refine L_s (pc' := 76) (L' := [some (.ref 215), some (.int v1), some (.int v2), some (.int v3), some (.int v4), some (.int v5), some (.int 8), some (.int s0)]) rfl rfl ?_
  refine L_s (pc' := 77) rfl rfl ?_
  refine L_gf (pc' := 80) rfl fr_215_0 rfl ?_
  refine L_si (pc' := 83) rfl q3_4590 rfl ?_
  refine L_s (pc' := 84) rfl rfl ?_
  refine L_gf (pc' := 87) rfl fr_215_0 rfl ?_
  refine L_bi (pc' := 89) rfl q2_7 rfl ?_
  refine L_rIk (pc' := 90) (j := 7) rfl sh_216 (by decide) (by decide) (by decide) rfl ?_
  refine L_s (pc' := 91) rfl rfl ?_
  refine L_s (pc' := 93) rfl rfl ?_
  refine L_bi (pc' := 95) rfl q2_24 rfl ?_
  refine L_bi (pc' := 97) rfl q2_8 rfl ?_
  refine L_s (pc' := 99) rfl rfl ?_
  refine L_ic (pc' := 100) rfl q1_4 rfl ?_
  refine L_rmk (pc' := 101) rfl (by decide) rfl ?_
  refine L_e (b := 0) (by decide) ?_
  refine L_s (pc' := 102) rfl rfl ?_
  refine L_e (b := 0) (by decide) ?_
  refine L_s (pc' := 103) rfl rfl ?_
  refine L_e (b := 24) (by decide) ?_
  refine L_s (pc' := 104) rfl rfl ?_
  refine L_si (pc' := 107) rfl q3_255 rfl ?_
  refine L_s (pc' := 108) rfl rfl ?_
  refine L_wI (pc' := 109) rfl sh_216 (by decide) rfl ?_
  refine L_let fun g1 _ => ?_
  refine L_s (pc' := 110) rfl rfl ?_
  refine L_gf (pc' := 113) rfl fr_215_0 rfl ?_
  refine L_bi (pc' := 115) rfl q2_7 rfl ?_
  refine L_s (pc' := 116) rfl rfl ?_
  refine L_rIk (pc' := 117) (j := 7) rfl sh_216 (by decide) (by decide) (by decide) rfl ?_
  refine L_ic (pc' := 118) rfl q1_1 rfl ?_
  refine L_s (pc' := 119) rfl rfl ?_
  refine L_wIk (pc' := 120) (j := 7) rfl sh_216 (by decide) (by decide) (by decide) rfl ?_
  refine L_let fun g2 _ => ?_
  refine L_ii (pc' := 123) (L' := [some (.ref 215), some (.int v1), some (.int v2), some (.int v3), some (.int v4), some (.int v5), some (.int 9), some (.int s0)]) rfl rfl q1_1 (by decide : (8 : Int32) + 1 = 9) rfl rfl ?_
  refine L_s (pc' := 21) rfl rfl ?_
  refine L_s (pc' := 23) rfl rfl ?_
  refine L_bi (pc' := 25) rfl q2_20 rfl ?_
  refine L_bf (c := (20 : Int32) ≤ 9) (t := 126) (n := 28) rfl rfl (by decide) ?_
  refine L_s (pc' := 30) rfl rfl ?_
  refine L_ic (pc' := 31) rfl q1_4 rfl ?_
  refine L_bt (c := (4 : Int32) ≤ 9) (t := 38) (n := 34) rfl rfl (by decide) ?_
  refine L_s (pc' := 40) rfl rfl ?_
  refine L_bi (pc' := 42) rfl q2_8 rfl ?_
  refine L_bt (c := (8 : Int32) ≤ 9) (t := 49) (n := 45) rfl rfl (by decide) ?_
  refine L_s (pc' := 51) rfl rfl ?_
  refine L_bi (pc' := 53) rfl q2_12 rfl ?_
  refine L_bf (c := (12 : Int32) ≤ 9) (t := 60) (n := 56) rfl rfl (by decide) ?_
  refine L_s (pc' := 57) rfl rfl ?_
  refine L_s (pc' := 74) rfl rfl ?_
  refine L_wk (L' := [some (.ref 215), some (.int v1), some (.int v2), some (.int v3), some (.int v4), some (.int v5), some (.int 9), none]) (wk_s (wk_s (wk_s (wk_s (wk_s (wk_s (wk_s (wk_n wk_nil)))))))) ?_
  exact p_m_feed_74_10 hd _ _ _ _ _ _ _
theorem p_m_feed_74_8 {X : Xx} {d : Nat} (hd : 0 ≤ d) (v1 : Int32) (v2 : Int32) (v3 : Int32) (v4 : Int32) (v5 : Int32) (s0 : Int32) (g : Sg) : Lt X d (some .int) k_187 (fun r : Int32 × Sg => ((some (.int r.1), (SHF, r.2)) : Out)) 74 [some (.ref 215), some (.int v1), some (.int v2), some (.int v3), some (.int v4), some (.int v5), some (.int 7), none] [.int s0] g (m_feed_74_8 v1 v2 v3 v4 v5 s0 g) := by
  unfold m_feed_74_8
  refine L_s (pc' := 76) (L' := [some (.ref 215), some (.int v1), some (.int v2), some (.int v3), some (.int v4), some (.int v5), some (.int 7), some (.int s0)]) rfl rfl ?_
  refine L_s (pc' := 77) rfl rfl ?_
  refine L_gf (pc' := 80) rfl fr_215_0 rfl ?_
  refine L_si (pc' := 83) rfl q3_4590 rfl ?_
  refine L_s (pc' := 84) rfl rfl ?_
  refine L_gf (pc' := 87) rfl fr_215_0 rfl ?_
  refine L_bi (pc' := 89) rfl q2_7 rfl ?_
  refine L_rIk (pc' := 90) (j := 7) rfl sh_216 (by decide) (by decide) (by decide) rfl ?_
  refine L_s (pc' := 91) rfl rfl ?_
  refine L_s (pc' := 93) rfl rfl ?_
  refine L_bi (pc' := 95) rfl q2_24 rfl ?_
  refine L_bi (pc' := 97) rfl q2_8 rfl ?_
  refine L_s (pc' := 99) rfl rfl ?_
  refine L_ic (pc' := 100) rfl q1_4 rfl ?_
  refine L_rmk (pc' := 101) rfl (by decide) rfl ?_
  refine L_e (b := 3) (by decide) ?_
  refine L_s (pc' := 102) rfl rfl ?_
  refine L_e (b := 24) (by decide) ?_
  refine L_s (pc' := 103) rfl rfl ?_
  refine L_e (b := 0) (by decide) ?_
  refine L_s (pc' := 104) rfl rfl ?_
  refine L_si (pc' := 107) rfl q3_255 rfl ?_
  refine L_s (pc' := 108) rfl rfl ?_
  refine L_wI (pc' := 109) rfl sh_216 (by decide) rfl ?_
  refine L_let fun g1 _ => ?_
  refine L_s (pc' := 110) rfl rfl ?_
  refine L_gf (pc' := 113) rfl fr_215_0 rfl ?_
  refine L_bi (pc' := 115) rfl q2_7 rfl ?_
  refine L_s (pc' := 116) rfl rfl ?_
  refine L_rIk (pc' := 117) (j := 7) rfl sh_216 (by decide) (by decide) (by decide) rfl ?_
  refine L_ic (pc' := 118) rfl q1_1 rfl ?_
  refine L_s (pc' := 119) rfl rfl ?_
  refine L_wIk (pc' := 120) (j := 7) rfl sh_216 (by decide) (by decide) (by decide) rfl ?_
  refine L_let fun g2 _ => ?_
  refine L_ii (pc' := 123) (L' := [some (.ref 215), some (.int v1), some (.int v2), some (.int v3), some (.int v4), some (.int v5), some (.int 8), some (.int s0)]) rfl rfl q1_1 (by decide : (7 : Int32) + 1 = 8) rfl rfl ?_
  refine L_s (pc' := 21) rfl rfl ?_
  refine L_s (pc' := 23) rfl rfl ?_
  refine L_bi (pc' := 25) rfl q2_20 rfl ?_
  refine L_bf (c := (20 : Int32) ≤ 8) (t := 126) (n := 28) rfl rfl (by decide) ?_
  refine L_s (pc' := 30) rfl rfl ?_
  refine L_ic (pc' := 31) rfl q1_4 rfl ?_
  refine L_bt (c := (4 : Int32) ≤ 8) (t := 38) (n := 34) rfl rfl (by decide) ?_
  refine L_s (pc' := 40) rfl rfl ?_
  refine L_bi (pc' := 42) rfl q2_8 rfl ?_
  refine L_bt (c := (8 : Int32) ≤ 8) (t := 49) (n := 45) rfl rfl (by decide) ?_
  refine L_s (pc' := 51) rfl rfl ?_
  refine L_bi (pc' := 53) rfl q2_12 rfl ?_
  refine L_bf (c := (12 : Int32) ≤ 8) (t := 60) (n := 56) rfl rfl (by decide) ?_
  refine L_s (pc' := 57) rfl rfl ?_
  refine L_s (pc' := 74) rfl rfl ?_
  refine L_wk (L' := [some (.ref 215), some (.int v1), some (.int v2), some (.int v3), some (.int v4), some (.int v5), some (.int 8), none]) (wk_s (wk_s (wk_s (wk_s (wk_s (wk_s (wk_s (wk_n wk_nil)))))))) ?_
  exact p_m_feed_74_9 hd _ _ _ _ _ _ _
theorem p_m_feed_74_7 {X : Xx} {d : Nat} (hd : 0 ≤ d) (v1 : Int32) (v2 : Int32) (v3 : Int32) (v4 : Int32) (v5 : Int32) (s0 : Int32) (g : Sg) : Lt X d (some .int) k_187 (fun r : Int32 × Sg => ((some (.int r.1), (SHF, r.2)) : Out)) 74 [some (.ref 215), some (.int v1), some (.int v2), some (.int v3), some (.int v4), some (.int v5), some (.int 6), none] [.int s0] g (m_feed_74_7 v1 v2 v3 v4 v5 s0 g) := by
  unfold m_feed_74_7
  refine L_s (pc' := 76) (L' := [some (.ref 215), some (.int v1), some (.int v2), some (.int v3), some (.int v4), some (.int v5), some (.int 6), some (.int s0)]) rfl rfl ?_
  refine L_s (pc' := 77) rfl rfl ?_
  refine L_gf (pc' := 80) rfl fr_215_0 rfl ?_
  refine L_si (pc' := 83) rfl q3_4590 rfl ?_
  refine L_s (pc' := 84) rfl rfl ?_
  refine L_gf (pc' := 87) rfl fr_215_0 rfl ?_
  refine L_bi (pc' := 89) rfl q2_7 rfl ?_
  refine L_rIk (pc' := 90) (j := 7) rfl sh_216 (by decide) (by decide) (by decide) rfl ?_
  refine L_s (pc' := 91) rfl rfl ?_
  refine L_s (pc' := 93) rfl rfl ?_
  refine L_bi (pc' := 95) rfl q2_24 rfl ?_
  refine L_bi (pc' := 97) rfl q2_8 rfl ?_
  refine L_s (pc' := 99) rfl rfl ?_
  refine L_ic (pc' := 100) rfl q1_4 rfl ?_
  refine L_rmk (pc' := 101) rfl (by decide) rfl ?_
  refine L_e (b := 2) (by decide) ?_
  refine L_s (pc' := 102) rfl rfl ?_
  refine L_e (b := 16) (by decide) ?_
  refine L_s (pc' := 103) rfl rfl ?_
  refine L_e (b := 8) (by decide) ?_
  refine L_s (pc' := 104) rfl rfl ?_
  refine L_si (pc' := 107) rfl q3_255 rfl ?_
  refine L_s (pc' := 108) rfl rfl ?_
  refine L_wI (pc' := 109) rfl sh_216 (by decide) rfl ?_
  refine L_let fun g1 _ => ?_
  refine L_s (pc' := 110) rfl rfl ?_
  refine L_gf (pc' := 113) rfl fr_215_0 rfl ?_
  refine L_bi (pc' := 115) rfl q2_7 rfl ?_
  refine L_s (pc' := 116) rfl rfl ?_
  refine L_rIk (pc' := 117) (j := 7) rfl sh_216 (by decide) (by decide) (by decide) rfl ?_
  refine L_ic (pc' := 118) rfl q1_1 rfl ?_
  refine L_s (pc' := 119) rfl rfl ?_
  refine L_wIk (pc' := 120) (j := 7) rfl sh_216 (by decide) (by decide) (by decide) rfl ?_
  refine L_let fun g2 _ => ?_
  refine L_ii (pc' := 123) (L' := [some (.ref 215), some (.int v1), some (.int v2), some (.int v3), some (.int v4), some (.int v5), some (.int 7), some (.int s0)]) rfl rfl q1_1 (by decide : (6 : Int32) + 1 = 7) rfl rfl ?_
  refine L_s (pc' := 21) rfl rfl ?_
  refine L_s (pc' := 23) rfl rfl ?_
  refine L_bi (pc' := 25) rfl q2_20 rfl ?_
  refine L_bf (c := (20 : Int32) ≤ 7) (t := 126) (n := 28) rfl rfl (by decide) ?_
  refine L_s (pc' := 30) rfl rfl ?_
  refine L_ic (pc' := 31) rfl q1_4 rfl ?_
  refine L_bt (c := (4 : Int32) ≤ 7) (t := 38) (n := 34) rfl rfl (by decide) ?_
  refine L_s (pc' := 40) rfl rfl ?_
  refine L_bi (pc' := 42) rfl q2_8 rfl ?_
  refine L_bf (c := (8 : Int32) ≤ 7) (t := 49) (n := 45) rfl rfl (by decide) ?_
  refine L_s (pc' := 46) rfl rfl ?_
  refine L_s (pc' := 74) rfl rfl ?_
  refine L_wk (L' := [some (.ref 215), some (.int v1), some (.int v2), some (.int v3), some (.int v4), some (.int v5), some (.int 7), none]) (wk_s (wk_s (wk_s (wk_s (wk_s (wk_s (wk_s (wk_n wk_nil)))))))) ?_
  exact p_m_feed_74_8 hd _ _ _ _ _ _ _
theorem p_m_feed_74_6 {X : Xx} {d : Nat} (hd : 0 ≤ d) (v1 : Int32) (v2 : Int32) (v3 : Int32) (v4 : Int32) (v5 : Int32) (s0 : Int32) (g : Sg) : Lt X d (some .int) k_187 (fun r : Int32 × Sg => ((some (.int r.1), (SHF, r.2)) : Out)) 74 [some (.ref 215), some (.int v1), some (.int v2), some (.int v3), some (.int v4), some (.int v5), some (.int 5), none] [.int s0] g (m_feed_74_6 v1 v2 v3 v4 v5 s0 g) := by
  unfold m_feed_74_6
  refine L_s (pc' := 76) (L' := [some (.ref 215), some (.int v1), some (.int v2), some (.int v3), some (.int v4), some (.int v5), some (.int 5), some (.int s0)]) rfl rfl ?_
  refine L_s (pc' := 77) rfl rfl ?_
  refine L_gf (pc' := 80) rfl fr_215_0 rfl ?_
  refine L_si (pc' := 83) rfl q3_4590 rfl ?_
  refine L_s (pc' := 84) rfl rfl ?_
  refine L_gf (pc' := 87) rfl fr_215_0 rfl ?_
  refine L_bi (pc' := 89) rfl q2_7 rfl ?_
  refine L_rIk (pc' := 90) (j := 7) rfl sh_216 (by decide) (by decide) (by decide) rfl ?_
  refine L_s (pc' := 91) rfl rfl ?_
  refine L_s (pc' := 93) rfl rfl ?_
  refine L_bi (pc' := 95) rfl q2_24 rfl ?_
  refine L_bi (pc' := 97) rfl q2_8 rfl ?_
  refine L_s (pc' := 99) rfl rfl ?_
  refine L_ic (pc' := 100) rfl q1_4 rfl ?_
  refine L_rmk (pc' := 101) rfl (by decide) rfl ?_
  refine L_e (b := 1) (by decide) ?_
  refine L_s (pc' := 102) rfl rfl ?_
  refine L_e (b := 8) (by decide) ?_
  refine L_s (pc' := 103) rfl rfl ?_
  refine L_e (b := 16) (by decide) ?_
  refine L_s (pc' := 104) rfl rfl ?_
  refine L_si (pc' := 107) rfl q3_255 rfl ?_
  refine L_s (pc' := 108) rfl rfl ?_
  refine L_wI (pc' := 109) rfl sh_216 (by decide) rfl ?_
  refine L_let fun g1 _ => ?_
  refine L_s (pc' := 110) rfl rfl ?_
  refine L_gf (pc' := 113) rfl fr_215_0 rfl ?_
  refine L_bi (pc' := 115) rfl q2_7 rfl ?_
  refine L_s (pc' := 116) rfl rfl ?_
  refine L_rIk (pc' := 117) (j := 7) rfl sh_216 (by decide) (by decide) (by decide) rfl ?_
  refine L_ic (pc' := 118) rfl q1_1 rfl ?_
  refine L_s (pc' := 119) rfl rfl ?_
  refine L_wIk (pc' := 120) (j := 7) rfl sh_216 (by decide) (by decide) (by decide) rfl ?_
  refine L_let fun g2 _ => ?_
  refine L_ii (pc' := 123) (L' := [some (.ref 215), some (.int v1), some (.int v2), some (.int v3), some (.int v4), some (.int v5), some (.int 6), some (.int s0)]) rfl rfl q1_1 (by decide : (5 : Int32) + 1 = 6) rfl rfl ?_
  refine L_s (pc' := 21) rfl rfl ?_
  refine L_s (pc' := 23) rfl rfl ?_
  refine L_bi (pc' := 25) rfl q2_20 rfl ?_
  refine L_bf (c := (20 : Int32) ≤ 6) (t := 126) (n := 28) rfl rfl (by decide) ?_
  refine L_s (pc' := 30) rfl rfl ?_
  refine L_ic (pc' := 31) rfl q1_4 rfl ?_
  refine L_bt (c := (4 : Int32) ≤ 6) (t := 38) (n := 34) rfl rfl (by decide) ?_
  refine L_s (pc' := 40) rfl rfl ?_
  refine L_bi (pc' := 42) rfl q2_8 rfl ?_
  refine L_bf (c := (8 : Int32) ≤ 6) (t := 49) (n := 45) rfl rfl (by decide) ?_
  refine L_s (pc' := 46) rfl rfl ?_
  refine L_s (pc' := 74) rfl rfl ?_
  refine L_wk (L' := [some (.ref 215), some (.int v1), some (.int v2), some (.int v3), some (.int v4), some (.int v5), some (.int 6), none]) (wk_s (wk_s (wk_s (wk_s (wk_s (wk_s (wk_s (wk_n wk_nil)))))))) ?_
  exact p_m_feed_74_7 hd _ _ _ _ _ _ _
theorem p_m_feed_74_5 {X : Xx} {d : Nat} (hd : 0 ≤ d) (v1 : Int32) (v2 : Int32) (v3 : Int32) (v4 : Int32) (v5 : Int32) (s0 : Int32) (g : Sg) : Lt X d (some .int) k_187 (fun r : Int32 × Sg => ((some (.int r.1), (SHF, r.2)) : Out)) 74 [some (.ref 215), some (.int v1), some (.int v2), some (.int v3), some (.int v4), some (.int v5), some (.int 4), none] [.int s0] g (m_feed_74_5 v1 v2 v3 v4 v5 s0 g) := by
  unfold m_feed_74_5
  refine L_s (pc' := 76) (L' := [some (.ref 215), some (.int v1), some (.int v2), some (.int v3), some (.int v4), some (.int v5), some (.int 4), some (.int s0)]) rfl rfl ?_
  refine L_s (pc' := 77) rfl rfl ?_
  refine L_gf (pc' := 80) rfl fr_215_0 rfl ?_
  refine L_si (pc' := 83) rfl q3_4590 rfl ?_
  refine L_s (pc' := 84) rfl rfl ?_
  refine L_gf (pc' := 87) rfl fr_215_0 rfl ?_
  refine L_bi (pc' := 89) rfl q2_7 rfl ?_
  refine L_rIk (pc' := 90) (j := 7) rfl sh_216 (by decide) (by decide) (by decide) rfl ?_
  refine L_s (pc' := 91) rfl rfl ?_
  refine L_s (pc' := 93) rfl rfl ?_
  refine L_bi (pc' := 95) rfl q2_24 rfl ?_
  refine L_bi (pc' := 97) rfl q2_8 rfl ?_
  refine L_s (pc' := 99) rfl rfl ?_
  refine L_ic (pc' := 100) rfl q1_4 rfl ?_
  refine L_rmk (pc' := 101) rfl (by decide) rfl ?_
  refine L_e (b := 0) (by decide) ?_
  refine L_s (pc' := 102) rfl rfl ?_
  refine L_e (b := 0) (by decide) ?_
  refine L_s (pc' := 103) rfl rfl ?_
  refine L_e (b := 24) (by decide) ?_
  refine L_s (pc' := 104) rfl rfl ?_
  refine L_si (pc' := 107) rfl q3_255 rfl ?_
  refine L_s (pc' := 108) rfl rfl ?_
  refine L_wI (pc' := 109) rfl sh_216 (by decide) rfl ?_
  refine L_let fun g1 _ => ?_
  refine L_s (pc' := 110) rfl rfl ?_
  refine L_gf (pc' := 113) rfl fr_215_0 rfl ?_
  refine L_bi (pc' := 115) rfl q2_7 rfl ?_
  refine L_s (pc' := 116) rfl rfl ?_
  refine L_rIk (pc' := 117) (j := 7) rfl sh_216 (by decide) (by decide) (by decide) rfl ?_
  refine L_ic (pc' := 118) rfl q1_1 rfl ?_
  refine L_s (pc' := 119) rfl rfl ?_
  refine L_wIk (pc' := 120) (j := 7) rfl sh_216 (by decide) (by decide) (by decide) rfl ?_
  refine L_let fun g2 _ => ?_
  refine L_ii (pc' := 123) (L' := [some (.ref 215), some (.int v1), some (.int v2), some (.int v3), some (.int v4), some (.int v5), some (.int 5), some (.int s0)]) rfl rfl q1_1 (by decide : (4 : Int32) + 1 = 5) rfl rfl ?_
  refine L_s (pc' := 21) rfl rfl ?_
  refine L_s (pc' := 23) rfl rfl ?_
  refine L_bi (pc' := 25) rfl q2_20 rfl ?_
  refine L_bf (c := (20 : Int32) ≤ 5) (t := 126) (n := 28) rfl rfl (by decide) ?_
  refine L_s (pc' := 30) rfl rfl ?_
  refine L_ic (pc' := 31) rfl q1_4 rfl ?_
  refine L_bt (c := (4 : Int32) ≤ 5) (t := 38) (n := 34) rfl rfl (by decide) ?_
  refine L_s (pc' := 40) rfl rfl ?_
  refine L_bi (pc' := 42) rfl q2_8 rfl ?_
  refine L_bf (c := (8 : Int32) ≤ 5) (t := 49) (n := 45) rfl rfl (by decide) ?_
  refine L_s (pc' := 46) rfl rfl ?_
  refine L_s (pc' := 74) rfl rfl ?_
  refine L_wk (L' := [some (.ref 215), some (.int v1), some (.int v2), some (.int v3), some (.int v4), some (.int v5), some (.int 5), none]) (wk_s (wk_s (wk_s (wk_s (wk_s (wk_s (wk_s (wk_n wk_nil)))))))) ?_
  exact p_m_feed_74_6 hd _ _ _ _ _ _ _
theorem p_m_feed_74_4 {X : Xx} {d : Nat} (hd : 0 ≤ d) (v1 : Int32) (v2 : Int32) (v3 : Int32) (v4 : Int32) (v5 : Int32) (s0 : Int32) (g : Sg) : Lt X d (some .int) k_187 (fun r : Int32 × Sg => ((some (.int r.1), (SHF, r.2)) : Out)) 74 [some (.ref 215), some (.int v1), some (.int v2), some (.int v3), some (.int v4), some (.int v5), some (.int 3), none] [.int s0] g (m_feed_74_4 v1 v2 v3 v4 v5 s0 g) := by
  unfold m_feed_74_4
  refine L_s (pc' := 76) (L' := [some (.ref 215), some (.int v1), some (.int v2), some (.int v3), some (.int v4), some (.int v5), some (.int 3), some (.int s0)]) rfl rfl ?_
  refine L_s (pc' := 77) rfl rfl ?_
  refine L_gf (pc' := 80) rfl fr_215_0 rfl ?_
  refine L_si (pc' := 83) rfl q3_4590 rfl ?_
  refine L_s (pc' := 84) rfl rfl ?_
  refine L_gf (pc' := 87) rfl fr_215_0 rfl ?_
  refine L_bi (pc' := 89) rfl q2_7 rfl ?_
  refine L_rIk (pc' := 90) (j := 7) rfl sh_216 (by decide) (by decide) (by decide) rfl ?_
  refine L_s (pc' := 91) rfl rfl ?_
  refine L_s (pc' := 93) rfl rfl ?_
  refine L_bi (pc' := 95) rfl q2_24 rfl ?_
  refine L_bi (pc' := 97) rfl q2_8 rfl ?_
  refine L_s (pc' := 99) rfl rfl ?_
  refine L_ic (pc' := 100) rfl q1_4 rfl ?_
  refine L_rmk (pc' := 101) rfl (by decide) rfl ?_
  refine L_e (b := 3) (by decide) ?_
  refine L_s (pc' := 102) rfl rfl ?_
  refine L_e (b := 24) (by decide) ?_
  refine L_s (pc' := 103) rfl rfl ?_
  refine L_e (b := 0) (by decide) ?_
  refine L_s (pc' := 104) rfl rfl ?_
  refine L_si (pc' := 107) rfl q3_255 rfl ?_
  refine L_s (pc' := 108) rfl rfl ?_
  refine L_wI (pc' := 109) rfl sh_216 (by decide) rfl ?_
  refine L_let fun g1 _ => ?_
  refine L_s (pc' := 110) rfl rfl ?_
  refine L_gf (pc' := 113) rfl fr_215_0 rfl ?_
  refine L_bi (pc' := 115) rfl q2_7 rfl ?_
  refine L_s (pc' := 116) rfl rfl ?_
  refine L_rIk (pc' := 117) (j := 7) rfl sh_216 (by decide) (by decide) (by decide) rfl ?_
  refine L_ic (pc' := 118) rfl q1_1 rfl ?_
  refine L_s (pc' := 119) rfl rfl ?_
  refine L_wIk (pc' := 120) (j := 7) rfl sh_216 (by decide) (by decide) (by decide) rfl ?_
  refine L_let fun g2 _ => ?_
  refine L_ii (pc' := 123) (L' := [some (.ref 215), some (.int v1), some (.int v2), some (.int v3), some (.int v4), some (.int v5), some (.int 4), some (.int s0)]) rfl rfl q1_1 (by decide : (3 : Int32) + 1 = 4) rfl rfl ?_
  refine L_s (pc' := 21) rfl rfl ?_
  refine L_s (pc' := 23) rfl rfl ?_
  refine L_bi (pc' := 25) rfl q2_20 rfl ?_
  refine L_bf (c := (20 : Int32) ≤ 4) (t := 126) (n := 28) rfl rfl (by decide) ?_
  refine L_s (pc' := 30) rfl rfl ?_
  refine L_ic (pc' := 31) rfl q1_4 rfl ?_
  refine L_bt (c := (4 : Int32) ≤ 4) (t := 38) (n := 34) rfl rfl (by decide) ?_
  refine L_s (pc' := 40) rfl rfl ?_
  refine L_bi (pc' := 42) rfl q2_8 rfl ?_
  refine L_bf (c := (8 : Int32) ≤ 4) (t := 49) (n := 45) rfl rfl (by decide) ?_
  refine L_s (pc' := 46) rfl rfl ?_
  refine L_s (pc' := 74) rfl rfl ?_
  refine L_wk (L' := [some (.ref 215), some (.int v1), some (.int v2), some (.int v3), some (.int v4), some (.int v5), some (.int 4), none]) (wk_s (wk_s (wk_s (wk_s (wk_s (wk_s (wk_s (wk_n wk_nil)))))))) ?_
  exact p_m_feed_74_5 hd _ _ _ _ _ _ _
theorem p_m_feed_74_3 {X : Xx} {d : Nat} (hd : 0 ≤ d) (v1 : Int32) (v2 : Int32) (v3 : Int32) (v4 : Int32) (v5 : Int32) (s0 : Int32) (g : Sg) : Lt X d (some .int) k_187 (fun r : Int32 × Sg => ((some (.int r.1), (SHF, r.2)) : Out)) 74 [some (.ref 215), some (.int v1), some (.int v2), some (.int v3), some (.int v4), some (.int v5), some (.int 2), none] [.int s0] g (m_feed_74_3 v1 v2 v3 v4 v5 s0 g) := by
  unfold m_feed_74_3
  refine L_s (pc' := 76) (L' := [some (.ref 215), some (.int v1), some (.int v2), some (.int v3), some (.int v4), some (.int v5), some (.int 2), some (.int s0)]) rfl rfl ?_
  refine L_s (pc' := 77) rfl rfl ?_
  refine L_gf (pc' := 80) rfl fr_215_0 rfl ?_
  refine L_si (pc' := 83) rfl q3_4590 rfl ?_
  refine L_s (pc' := 84) rfl rfl ?_
  refine L_gf (pc' := 87) rfl fr_215_0 rfl ?_
  refine L_bi (pc' := 89) rfl q2_7 rfl ?_
  refine L_rIk (pc' := 90) (j := 7) rfl sh_216 (by decide) (by decide) (by decide) rfl ?_
  refine L_s (pc' := 91) rfl rfl ?_
  refine L_s (pc' := 93) rfl rfl ?_
  refine L_bi (pc' := 95) rfl q2_24 rfl ?_
  refine L_bi (pc' := 97) rfl q2_8 rfl ?_
  refine L_s (pc' := 99) rfl rfl ?_
  refine L_ic (pc' := 100) rfl q1_4 rfl ?_
  refine L_rmk (pc' := 101) rfl (by decide) rfl ?_
  refine L_e (b := 2) (by decide) ?_
  refine L_s (pc' := 102) rfl rfl ?_
  refine L_e (b := 16) (by decide) ?_
  refine L_s (pc' := 103) rfl rfl ?_
  refine L_e (b := 8) (by decide) ?_
  refine L_s (pc' := 104) rfl rfl ?_
  refine L_si (pc' := 107) rfl q3_255 rfl ?_
  refine L_s (pc' := 108) rfl rfl ?_
  refine L_wI (pc' := 109) rfl sh_216 (by decide) rfl ?_
  refine L_let fun g1 _ => ?_
  refine L_s (pc' := 110) rfl rfl ?_
  refine L_gf (pc' := 113) rfl fr_215_0 rfl ?_
  refine L_bi (pc' := 115) rfl q2_7 rfl ?_
  refine L_s (pc' := 116) rfl rfl ?_
  refine L_rIk (pc' := 117) (j := 7) rfl sh_216 (by decide) (by decide) (by decide) rfl ?_
  refine L_ic (pc' := 118) rfl q1_1 rfl ?_
  refine L_s (pc' := 119) rfl rfl ?_
  refine L_wIk (pc' := 120) (j := 7) rfl sh_216 (by decide) (by decide) (by decide) rfl ?_
  refine L_let fun g2 _ => ?_
  refine L_ii (pc' := 123) (L' := [some (.ref 215), some (.int v1), some (.int v2), some (.int v3), some (.int v4), some (.int v5), some (.int 3), some (.int s0)]) rfl rfl q1_1 (by decide : (2 : Int32) + 1 = 3) rfl rfl ?_
  refine L_s (pc' := 21) rfl rfl ?_
  refine L_s (pc' := 23) rfl rfl ?_
  refine L_bi (pc' := 25) rfl q2_20 rfl ?_
  refine L_bf (c := (20 : Int32) ≤ 3) (t := 126) (n := 28) rfl rfl (by decide) ?_
  refine L_s (pc' := 30) rfl rfl ?_
  refine L_ic (pc' := 31) rfl q1_4 rfl ?_
  refine L_bf (c := (4 : Int32) ≤ 3) (t := 38) (n := 34) rfl rfl (by decide) ?_
  refine L_s (pc' := 35) rfl rfl ?_
  refine L_s (pc' := 74) rfl rfl ?_
  refine L_wk (L' := [some (.ref 215), some (.int v1), some (.int v2), some (.int v3), some (.int v4), some (.int v5), some (.int 3), none]) (wk_s (wk_s (wk_s (wk_s (wk_s (wk_s (wk_s (wk_n wk_nil)))))))) ?_
  exact p_m_feed_74_4 hd _ _ _ _ _ _ _
theorem p_m_feed_74_2 {X : Xx} {d : Nat} (hd : 0 ≤ d) (v1 : Int32) (v2 : Int32) (v3 : Int32) (v4 : Int32) (v5 : Int32) (s0 : Int32) (g : Sg) : Lt X d (some .int) k_187 (fun r : Int32 × Sg => ((some (.int r.1), (SHF, r.2)) : Out)) 74 [some (.ref 215), some (.int v1), some (.int v2), some (.int v3), some (.int v4), some (.int v5), some (.int 1), none] [.int s0] g (m_feed_74_2 v1 v2 v3 v4 v5 s0 g) := by
  unfold m_feed_74_2
  refine L_s (pc' := 76) (L' := [some (.ref 215), some (.int v1), some (.int v2), some (.int v3), some (.int v4), some (.int v5), some (.int 1), some (.int s0)]) rfl rfl ?_
  refine L_s (pc' := 77) rfl rfl ?_
  refine L_gf (pc' := 80) rfl fr_215_0 rfl ?_
  refine L_si (pc' := 83) rfl q3_4590 rfl ?_
  refine L_s (pc' := 84) rfl rfl ?_
  refine L_gf (pc' := 87) rfl fr_215_0 rfl ?_
  refine L_bi (pc' := 89) rfl q2_7 rfl ?_
  refine L_rIk (pc' := 90) (j := 7) rfl sh_216 (by decide) (by decide) (by decide) rfl ?_
  refine L_s (pc' := 91) rfl rfl ?_
  refine L_s (pc' := 93) rfl rfl ?_
  refine L_bi (pc' := 95) rfl q2_24 rfl ?_
  refine L_bi (pc' := 97) rfl q2_8 rfl ?_
  refine L_s (pc' := 99) rfl rfl ?_
  refine L_ic (pc' := 100) rfl q1_4 rfl ?_
  refine L_rmk (pc' := 101) rfl (by decide) rfl ?_
  refine L_e (b := 1) (by decide) ?_
  refine L_s (pc' := 102) rfl rfl ?_
  refine L_e (b := 8) (by decide) ?_
  refine L_s (pc' := 103) rfl rfl ?_
  refine L_e (b := 16) (by decide) ?_
  refine L_s (pc' := 104) rfl rfl ?_
  refine L_si (pc' := 107) rfl q3_255 rfl ?_
  refine L_s (pc' := 108) rfl rfl ?_
  refine L_wI (pc' := 109) rfl sh_216 (by decide) rfl ?_
  refine L_let fun g1 _ => ?_
  refine L_s (pc' := 110) rfl rfl ?_
  refine L_gf (pc' := 113) rfl fr_215_0 rfl ?_
  refine L_bi (pc' := 115) rfl q2_7 rfl ?_
  refine L_s (pc' := 116) rfl rfl ?_
  refine L_rIk (pc' := 117) (j := 7) rfl sh_216 (by decide) (by decide) (by decide) rfl ?_
  refine L_ic (pc' := 118) rfl q1_1 rfl ?_
  refine L_s (pc' := 119) rfl rfl ?_
  refine L_wIk (pc' := 120) (j := 7) rfl sh_216 (by decide) (by decide) (by decide) rfl ?_
  refine L_let fun g2 _ => ?_
  refine L_ii (pc' := 123) (L' := [some (.ref 215), some (.int v1), some (.int v2), some (.int v3), some (.int v4), some (.int v5), some (.int 2), some (.int s0)]) rfl rfl q1_1 (by decide : (1 : Int32) + 1 = 2) rfl rfl ?_
  refine L_s (pc' := 21) rfl rfl ?_
  refine L_s (pc' := 23) rfl rfl ?_
  refine L_bi (pc' := 25) rfl q2_20 rfl ?_
  refine L_bf (c := (20 : Int32) ≤ 2) (t := 126) (n := 28) rfl rfl (by decide) ?_
  refine L_s (pc' := 30) rfl rfl ?_
  refine L_ic (pc' := 31) rfl q1_4 rfl ?_
  refine L_bf (c := (4 : Int32) ≤ 2) (t := 38) (n := 34) rfl rfl (by decide) ?_
  refine L_s (pc' := 35) rfl rfl ?_
  refine L_s (pc' := 74) rfl rfl ?_
  refine L_wk (L' := [some (.ref 215), some (.int v1), some (.int v2), some (.int v3), some (.int v4), some (.int v5), some (.int 2), none]) (wk_s (wk_s (wk_s (wk_s (wk_s (wk_s (wk_s (wk_n wk_nil)))))))) ?_
  exact p_m_feed_74_3 hd _ _ _ _ _ _ _
theorem p_m_feed_74 {X : Xx} {d : Nat} (hd : 0 ≤ d) (v1 : Int32) (v2 : Int32) (v3 : Int32) (v4 : Int32) (v5 : Int32) (s0 : Int32) (g : Sg) : Lt X d (some .int) k_187 (fun r : Int32 × Sg => ((some (.int r.1), (SHF, r.2)) : Out)) 74 [some (.ref 215), some (.int v1), some (.int v2), some (.int v3), some (.int v4), some (.int v5), some (.int 0), none] [.int s0] g (m_feed_74 v1 v2 v3 v4 v5 s0 g) := by
  unfold m_feed_74
  refine L_s (pc' := 76) (L' := [some (.ref 215), some (.int v1), some (.int v2), some (.int v3), some (.int v4), some (.int v5), some (.int 0), some (.int s0)]) rfl rfl ?_
  refine L_s (pc' := 77) rfl rfl ?_
  refine L_gf (pc' := 80) rfl fr_215_0 rfl ?_
  refine L_si (pc' := 83) rfl q3_4590 rfl ?_
  refine L_s (pc' := 84) rfl rfl ?_
  refine L_gf (pc' := 87) rfl fr_215_0 rfl ?_
  refine L_bi (pc' := 89) rfl q2_7 rfl ?_
  refine L_rIk (pc' := 90) (j := 7) rfl sh_216 (by decide) (by decide) (by decide) rfl ?_
  refine L_s (pc' := 91) rfl rfl ?_
  refine L_s (pc' := 93) rfl rfl ?_
  refine L_bi (pc' := 95) rfl q2_24 rfl ?_
  refine L_bi (pc' := 97) rfl q2_8 rfl ?_
  refine L_s (pc' := 99) rfl rfl ?_
  refine L_ic (pc' := 100) rfl q1_4 rfl ?_
  refine L_rmk (pc' := 101) rfl (by decide) rfl ?_
  refine L_e (b := 0) (by decide) ?_
  refine L_s (pc' := 102) rfl rfl ?_
  refine L_e (b := 0) (by decide) ?_
  refine L_s (pc' := 103) rfl rfl ?_
  refine L_e (b := 24) (by decide) ?_
  refine L_s (pc' := 104) rfl rfl ?_
  refine L_si (pc' := 107) rfl q3_255 rfl ?_
  refine L_s (pc' := 108) rfl rfl ?_
  refine L_wI (pc' := 109) rfl sh_216 (by decide) rfl ?_
  refine L_let fun g1 _ => ?_
  refine L_s (pc' := 110) rfl rfl ?_
  refine L_gf (pc' := 113) rfl fr_215_0 rfl ?_
  refine L_bi (pc' := 115) rfl q2_7 rfl ?_
  refine L_s (pc' := 116) rfl rfl ?_
  refine L_rIk (pc' := 117) (j := 7) rfl sh_216 (by decide) (by decide) (by decide) rfl ?_
  refine L_ic (pc' := 118) rfl q1_1 rfl ?_
  refine L_s (pc' := 119) rfl rfl ?_
  refine L_wIk (pc' := 120) (j := 7) rfl sh_216 (by decide) (by decide) (by decide) rfl ?_
  refine L_let fun g2 _ => ?_
  refine L_ii (pc' := 123) (L' := [some (.ref 215), some (.int v1), some (.int v2), some (.int v3), some (.int v4), some (.int v5), some (.int 1), some (.int s0)]) rfl rfl q1_1 (by decide : (0 : Int32) + 1 = 1) rfl rfl ?_
  refine L_s (pc' := 21) rfl rfl ?_
  refine L_s (pc' := 23) rfl rfl ?_
  refine L_bi (pc' := 25) rfl q2_20 rfl ?_
  refine L_bf (c := (20 : Int32) ≤ 1) (t := 126) (n := 28) rfl rfl (by decide) ?_
  refine L_s (pc' := 30) rfl rfl ?_
  refine L_ic (pc' := 31) rfl q1_4 rfl ?_
  refine L_bf (c := (4 : Int32) ≤ 1) (t := 38) (n := 34) rfl rfl (by decide) ?_
  refine L_s (pc' := 35) rfl rfl ?_
  refine L_s (pc' := 74) rfl rfl ?_
  refine L_wk (L' := [some (.ref 215), some (.int v1), some (.int v2), some (.int v3), some (.int v4), some (.int v5), some (.int 1), none]) (wk_s (wk_s (wk_s (wk_s (wk_s (wk_s (wk_s (wk_n wk_nil)))))))) ?_
  exact p_m_feed_74_2 hd _ _ _ _ _ _ _
theorem e_m_feed {X : Xx} {d : Nat} (hd : 1 ≤ d) (v1 : Int32) (v2 : Int32) (v3 : Int32) (v4 : Int32) (v5 : Int32) (g : Sg) : ∀ r, m_feed v1 v2 v3 v4 v5 g = some r → EvM zft mtl X d 187 [.ref 215, .int v1, .int v2, .int v3, .int v4, .int v5] (SHF, g) ((fun r : Int32 × Sg => ((some (.int r.1), (SHF, r.2)) : Out)) r) := by
  obtain ⟨d, rfl⟩ : ∃ d0, d = d0 + 1 := ⟨d - 1, by omega⟩
  have hd : 0 ≤ d := by omega
  refine E_in (f := (fun r : Int32 × Sg => ((some (.int r.1), (SHF, r.2)) : Out))) rfl (Nat.le_of_ble_eq_true rfl) ?_
  unfold m_feed
  change Lt X d (some .int) k_187 _ 0 [some (.ref 215), some (.int v1), some (.int v2), some (.int v3), some (.int v4), some (.int v5), none, none] [] g _
  refine L_s (pc' := 1) rfl rfl ?_
  refine L_gf (pc' := 4) rfl fr_215_0 rfl ?_
  refine L_bi (pc' := 6) rfl q2_7 rfl ?_
  refine L_rIk (pc' := 7) (j := 7) rfl sh_216 (by decide) (by decide) (by decide) rfl ?_
  refine L_bi (pc' := 9) rfl q2_20 rfl ?_
  refine L_s (pc' := 10) rfl rfl ?_
  refine L_si (pc' := 13) rfl q3_500 rfl ?_
  refine L_br (t := 18) (n := 16) rfl rfl (fun _ => ?_) (fun _ => ?_)
  · refine L_ic (pc' := 19) rfl q1_0 rfl ?_
    refine L_s (pc' := 21) (L' := [some (.ref 215), some (.int v1), some (.int v2), some (.int v3), some (.int v4), some (.int v5), some (.int 0), none]) rfl rfl ?_
    refine L_s (pc' := 23) rfl rfl ?_
    refine L_bi (pc' := 25) rfl q2_20 rfl ?_
    refine L_bf (c := (20 : Int32) ≤ 0) (t := 126) (n := 28) rfl rfl (by decide) ?_
    refine L_s (pc' := 30) rfl rfl ?_
    refine L_ic (pc' := 31) rfl q1_4 rfl ?_
    refine L_bf (c := (4 : Int32) ≤ 0) (t := 38) (n := 34) rfl rfl (by decide) ?_
    refine L_s (pc' := 35) rfl rfl ?_
    refine L_s (pc' := 74) rfl rfl ?_
    exact p_m_feed_74 hd _ _ _ _ _ _ _
  · refine L_ic (pc' := 17) rfl q1_m1 rfl ?_
    exact L_ret rfl ret_i rfl
def m_end (v1 : Int32) (g : Sg) : Option (Int32 × Sg) :=
  (if v1 < 0 then
    (some ((-1), g))
  else
    (if v1 ≤ (g 216 7) then
      lt1 (up2 g 216 7 v1) (fun g1 => (some (v1, g1)))
    else
      (some ((-1), g))))
theorem e_m_end {X : Xx} {d : Nat} (hd : 1 ≤ d) (v1 : Int32) (g : Sg) : ∀ r, m_end v1 g = some r → EvM zft mtl X d 188 [.ref 215, .int v1] (SHF, g) ((fun r : Int32 × Sg => ((some (.int r.1), (SHF, r.2)) : Out)) r) := by
  obtain ⟨d, rfl⟩ : ∃ d0, d = d0 + 1 := ⟨d - 1, by omega⟩
  have hd : 0 ≤ d := by omega
  refine E_in (f := (fun r : Int32 × Sg => ((some (.int r.1), (SHF, r.2)) : Out))) rfl (Nat.le_of_ble_eq_true rfl) ?_
  unfold m_end
  change Lt X d (some .int) k_188 _ 0 [some (.ref 215), some (.int v1)] [] g _
  refine L_s (pc' := 1) rfl rfl ?_
  refine L_br (t := 15) (n := 4) rfl rfl (fun _ => ?_) (fun _ => ?_)
  · refine L_ic (pc' := 16) rfl q1_m1 rfl ?_
    exact L_ret rfl ret_i rfl
  · refine L_s (pc' := 5) rfl rfl ?_
    refine L_s (pc' := 6) rfl rfl ?_
    refine L_gf (pc' := 9) rfl fr_215_0 rfl ?_
    refine L_bi (pc' := 11) rfl q2_7 rfl ?_
    refine L_rIk (pc' := 12) (j := 7) rfl sh_216 (by decide) (by decide) (by decide) rfl ?_
    refine L_br (t := 17) (n := 15) rfl rfl (fun _ => ?_) (fun _ => ?_)
    · refine L_s (pc' := 18) rfl rfl ?_
      refine L_gf (pc' := 21) rfl fr_215_0 rfl ?_
      refine L_bi (pc' := 23) rfl q2_7 rfl ?_
      refine L_s (pc' := 24) rfl rfl ?_
      refine L_wIk (pc' := 25) (j := 7) rfl sh_216 (by decide) (by decide) (by decide) rfl ?_
      refine L_let fun g1 _ => ?_
      refine L_s (pc' := 26) rfl rfl ?_
      exact L_ret rfl ret_i rfl
    · refine L_ic (pc' := 16) rfl q1_m1 rfl ?_
      exact L_ret rfl ret_i rfl
def m_byteAt (v1 : Int32) (g : Sg) : Option (Int32) :=
  (if (g 215 3) ≤ v1 then
    (some (-1))
  else
    (if inb (4590 + v1) 20360 = true then (some (g 216 (Int32.toNatClampNeg (4590 + v1)))) else none))
theorem e_m_byteAt {X : Xx} {d : Nat} (hd : 1 ≤ d) (v1 : Int32) (g : Sg) : ∀ r, m_byteAt v1 g = some r → EvM zft mtl X d 189 [.ref 215, .int v1] (SHF, g) ((fun r : Int32 => ((some (.int r), (SHF, g)) : Out)) r) := by
  obtain ⟨d, rfl⟩ : ∃ d0, d = d0 + 1 := ⟨d - 1, by omega⟩
  have hd : 0 ≤ d := by omega
  refine E_in (f := (fun r : Int32 => ((some (.int r), (SHF, g)) : Out))) rfl (Nat.le_of_ble_eq_true rfl) ?_
  unfold m_byteAt
  change Lt X d (some .int) k_189 _ 0 [some (.ref 215), some (.int v1)] [] g _
  refine L_s (pc' := 1) rfl rfl ?_
  refine L_s (pc' := 2) rfl rfl ?_
  refine L_gf (pc' := 5) rfl fi_215_3 rfl ?_
  refine L_br (t := 21) (n := 8) rfl rfl (fun _ => ?_) (fun _ => ?_)
  · refine L_ic (pc' := 22) rfl q1_m1 rfl ?_
    exact L_ret rfl ret_i rfl
  · refine L_s (pc' := 9) rfl rfl ?_
    refine L_gf (pc' := 12) rfl fr_215_0 rfl ?_
    refine L_si (pc' := 15) rfl q3_4590 rfl ?_
    refine L_s (pc' := 16) rfl rfl ?_
    refine L_s (pc' := 17) rfl rfl ?_
    refine L_rI (pc' := 18) rfl sh_216 (by decide) rfl ?_
    refine L_s (pc' := 22) rfl rfl ?_
    exact L_ret rfl ret_i rfl
def m_isLetter (v0 : Int32) (g : Sg) : Option (Int32) :=
  (if v0 < 97 then
    (some 0)
  else
    (if 122 < v0 then
      (some 0)
    else
      (some 1)))
theorem e_m_isLetter {X : Xx} {d : Nat} (hd : 1 ≤ d) (v0 : Int32) (g : Sg) : ∀ r, m_isLetter v0 g = some r → EvM zft mtl X d 190 [.int v0] (SHF, g) ((fun r : Int32 => ((some (.int r), (SHF, g)) : Out)) r) := by
  obtain ⟨d, rfl⟩ : ∃ d0, d = d0 + 1 := ⟨d - 1, by omega⟩
  have hd : 0 ≤ d := by omega
  refine E_in (f := (fun r : Int32 => ((some (.int r), (SHF, g)) : Out))) rfl (Nat.le_of_ble_eq_true rfl) ?_
  unfold m_isLetter
  change Lt X d (some .boolean) k_190 _ 0 [some (.int v0)] [] g _
  refine L_s (pc' := 1) rfl rfl ?_
  refine L_bi (pc' := 3) rfl q2_97 rfl ?_
  refine L_br (t := 16) (n := 6) rfl rfl (fun _ => ?_) (fun _ => ?_)
  · refine L_ic (pc' := 17) rfl q1_0 rfl ?_
    exact L_ret rfl (ret_z (by decide)) rfl
  · refine L_s (pc' := 7) rfl rfl ?_
    refine L_bi (pc' := 9) rfl q2_122 rfl ?_
    refine L_br (t := 16) (n := 12) rfl rfl (fun _ => ?_) (fun _ => ?_)
    · refine L_ic (pc' := 17) rfl q1_0 rfl ?_
      exact L_ret rfl (ret_z (by decide)) rfl
    · refine L_ic (pc' := 13) rfl q1_1 rfl ?_
      refine L_s (pc' := 17) rfl rfl ?_
      exact L_ret rfl (ret_z (by decide)) rfl
def m_isDigit (v0 : Int32) (g : Sg) : Option (Int32) :=
  (if v0 < 48 then
    (some 0)
  else
    (if 57 < v0 then
      (some 0)
    else
      (some 1)))
theorem e_m_isDigit {X : Xx} {d : Nat} (hd : 1 ≤ d) (v0 : Int32) (g : Sg) : ∀ r, m_isDigit v0 g = some r → EvM zft mtl X d 191 [.int v0] (SHF, g) ((fun r : Int32 => ((some (.int r), (SHF, g)) : Out)) r) := by
  obtain ⟨d, rfl⟩ : ∃ d0, d = d0 + 1 := ⟨d - 1, by omega⟩
  have hd : 0 ≤ d := by omega
  refine E_in (f := (fun r : Int32 => ((some (.int r), (SHF, g)) : Out))) rfl (Nat.le_of_ble_eq_true rfl) ?_
  unfold m_isDigit
  change Lt X d (some .boolean) k_191 _ 0 [some (.int v0)] [] g _
  refine L_s (pc' := 1) rfl rfl ?_
  refine L_bi (pc' := 3) rfl q2_48 rfl ?_
  refine L_br (t := 16) (n := 6) rfl rfl (fun _ => ?_) (fun _ => ?_)
  · refine L_ic (pc' := 17) rfl q1_0 rfl ?_
    exact L_ret rfl (ret_z (by decide)) rfl
  · refine L_s (pc' := 7) rfl rfl ?_
    refine L_bi (pc' := 9) rfl q2_57 rfl ?_
    refine L_br (t := 16) (n := 12) rfl rfl (fun _ => ?_) (fun _ => ?_)
    · refine L_ic (pc' := 17) rfl q1_0 rfl ?_
      exact L_ret rfl (ret_z (by decide)) rfl
    · refine L_ic (pc' := 13) rfl q1_1 rfl ?_
      refine L_s (pc' := 17) rfl rfl ?_
      exact L_ret rfl (ret_z (by decide)) rfl
def m_isSignByte (v0 : Int32) (g : Sg) : Option (Int32) :=
  (if v0 = 58 then
    (some 1)
  else
    (if v0 = 59 then
      (some 1)
    else
      (if v0 = 60 then
        (some 1)
      else
        (if v0 = 62 then
          (some 1)
        else
          (if ¬ v0 = 61 then
            (some 0)
          else
            (some 1))))))
theorem e_m_isSignByte {X : Xx} {d : Nat} (hd : 1 ≤ d) (v0 : Int32) (g : Sg) : ∀ r, m_isSignByte v0 g = some r → EvM zft mtl X d 195 [.int v0] (SHF, g) ((fun r : Int32 => ((some (.int r), (SHF, g)) : Out)) r) := by
  obtain ⟨d, rfl⟩ : ∃ d0, d = d0 + 1 := ⟨d - 1, by omega⟩
  have hd : 0 ≤ d := by omega
  refine E_in (f := (fun r : Int32 => ((some (.int r), (SHF, g)) : Out))) rfl (Nat.le_of_ble_eq_true rfl) ?_
  unfold m_isSignByte
  change Lt X d (some .boolean) k_195 _ 0 [some (.int v0)] [] g _
  refine L_s (pc' := 1) rfl rfl ?_
  refine L_bi (pc' := 3) rfl q2_58 rfl ?_
  refine L_br (t := 30) (n := 6) rfl rfl (fun _ => ?_) (fun _ => ?_)
  · refine L_ic (pc' := 31) rfl q1_1 rfl ?_
    refine L_s (pc' := 35) rfl rfl ?_
    exact L_ret rfl (ret_z (by decide)) rfl
  · refine L_s (pc' := 7) rfl rfl ?_
    refine L_bi (pc' := 9) rfl q2_59 rfl ?_
    refine L_br (t := 30) (n := 12) rfl rfl (fun _ => ?_) (fun _ => ?_)
    · refine L_ic (pc' := 31) rfl q1_1 rfl ?_
      refine L_s (pc' := 35) rfl rfl ?_
      exact L_ret rfl (ret_z (by decide)) rfl
    · refine L_s (pc' := 13) rfl rfl ?_
      refine L_bi (pc' := 15) rfl q2_60 rfl ?_
      refine L_br (t := 30) (n := 18) rfl rfl (fun _ => ?_) (fun _ => ?_)
      · refine L_ic (pc' := 31) rfl q1_1 rfl ?_
        refine L_s (pc' := 35) rfl rfl ?_
        exact L_ret rfl (ret_z (by decide)) rfl
      · refine L_s (pc' := 19) rfl rfl ?_
        refine L_bi (pc' := 21) rfl q2_62 rfl ?_
        refine L_br (t := 30) (n := 24) rfl rfl (fun _ => ?_) (fun _ => ?_)
        · refine L_ic (pc' := 31) rfl q1_1 rfl ?_
          refine L_s (pc' := 35) rfl rfl ?_
          exact L_ret rfl (ret_z (by decide)) rfl
        · refine L_s (pc' := 25) rfl rfl ?_
          refine L_bi (pc' := 27) rfl q2_61 rfl ?_
          refine L_br (t := 34) (n := 30) rfl rfl (fun _ => ?_) (fun _ => ?_)
          · refine L_ic (pc' := 35) rfl q1_0 rfl ?_
            exact L_ret rfl (ret_z (by decide)) rfl
          · refine L_ic (pc' := 31) rfl q1_1 rfl ?_
            refine L_s (pc' := 35) rfl rfl ?_
            exact L_ret rfl (ret_z (by decide)) rfl
def m_three_k100_114_121  (g : Sg) : Option (Int64) :=
  (some 4697)
theorem e_m_three_k100_114_121 {X : Xx} {d : Nat} (hd : 1 ≤ d)  (g : Sg) : ∀ r, m_three_k100_114_121  g = some r → EvM zft mtl X d 192 [.int 100, .int 114, .int 121] (SHF, g) ((fun r : Int64 => ((some (.long r), (SHF, g)) : Out)) r) := by
  obtain ⟨d, rfl⟩ : ∃ d0, d = d0 + 1 := ⟨d - 1, by omega⟩
  have hd : 0 ≤ d := by omega
  refine E_in (f := (fun r : Int64 => ((some (.long r), (SHF, g)) : Out))) rfl (Nat.le_of_ble_eq_true rfl) ?_
  unfold m_three_k100_114_121
  change Lt X d (some .long) k_192 _ 0 [some (.int 100), some (.int 114), some (.int 121)] [] g _
  refine L_ld2 (pc' := 3) rfl q4_32 rfl ?_
  refine L_s (pc' := 4) rfl rfl ?_
  refine L_bi (pc' := 6) rfl q2_96 rfl ?_
  refine L_s (pc' := 7) rfl rfl ?_
  refine L_e (b := 4) (by decide) ?_
  refine L_s (pc' := 8) rfl rfl ?_
  refine L_le (b := 4) (by decide) ?_
  refine L_s (pc' := 9) rfl rfl ?_
  refine L_le (b := 128) (by decide) ?_
  refine L_s (pc' := 10) rfl rfl ?_
  refine L_s (pc' := 11) rfl rfl ?_
  refine L_le (b := 114) (by decide) ?_
  refine L_s (pc' := 12) rfl rfl ?_
  refine L_le (b := 242) (by decide) ?_
  refine L_ld2 (pc' := 15) rfl q4_96 rfl ?_
  refine L_s (pc' := 16) rfl rfl ?_
  refine L_le (b := 146) (by decide) ?_
  refine L_ld2 (pc' := 19) rfl q4_32 rfl ?_
  refine L_s (pc' := 20) rfl rfl ?_
  refine L_le (b := 4672) (by decide) ?_
  refine L_s (pc' := 21) rfl rfl ?_
  refine L_s (pc' := 22) rfl rfl ?_
  refine L_le (b := 121) (by decide) ?_
  refine L_s (pc' := 23) rfl rfl ?_
  refine L_le (b := 4793) (by decide) ?_
  refine L_ld2 (pc' := 26) rfl q4_96 rfl ?_
  refine L_s (pc' := 27) rfl rfl ?_
  refine L_le (b := 4697) (by decide) ?_
  exact L_ret rfl rfl rfl
def m_three_k104_111_117  (g : Sg) : Option (Int64) :=
  (some 8693)
theorem e_m_three_k104_111_117 {X : Xx} {d : Nat} (hd : 1 ≤ d)  (g : Sg) : ∀ r, m_three_k104_111_117  g = some r → EvM zft mtl X d 192 [.int 104, .int 111, .int 117] (SHF, g) ((fun r : Int64 => ((some (.long r), (SHF, g)) : Out)) r) := by
  obtain ⟨d, rfl⟩ : ∃ d0, d = d0 + 1 := ⟨d - 1, by omega⟩
  have hd : 0 ≤ d := by omega
  refine E_in (f := (fun r : Int64 => ((some (.long r), (SHF, g)) : Out))) rfl (Nat.le_of_ble_eq_true rfl) ?_
  unfold m_three_k104_111_117
  change Lt X d (some .long) k_192 _ 0 [some (.int 104), some (.int 111), some (.int 117)] [] g _
  refine L_ld2 (pc' := 3) rfl q4_32 rfl ?_
  refine L_s (pc' := 4) rfl rfl ?_
  refine L_bi (pc' := 6) rfl q2_96 rfl ?_
  refine L_s (pc' := 7) rfl rfl ?_
  refine L_e (b := 8) (by decide) ?_
  refine L_s (pc' := 8) rfl rfl ?_
  refine L_le (b := 8) (by decide) ?_
  refine L_s (pc' := 9) rfl rfl ?_
  refine L_le (b := 256) (by decide) ?_
  refine L_s (pc' := 10) rfl rfl ?_
  refine L_s (pc' := 11) rfl rfl ?_
  refine L_le (b := 111) (by decide) ?_
  refine L_s (pc' := 12) rfl rfl ?_
  refine L_le (b := 367) (by decide) ?_
  refine L_ld2 (pc' := 15) rfl q4_96 rfl ?_
  refine L_s (pc' := 16) rfl rfl ?_
  refine L_le (b := 271) (by decide) ?_
  refine L_ld2 (pc' := 19) rfl q4_32 rfl ?_
  refine L_s (pc' := 20) rfl rfl ?_
  refine L_le (b := 8672) (by decide) ?_
  refine L_s (pc' := 21) rfl rfl ?_
  refine L_s (pc' := 22) rfl rfl ?_
  refine L_le (b := 117) (by decide) ?_
  refine L_s (pc' := 23) rfl rfl ?_
  refine L_le (b := 8789) (by decide) ?_
  refine L_ld2 (pc' := 26) rfl q4_96 rfl ?_
  refine L_s (pc' := 27) rfl rfl ?_
  refine L_le (b := 8693) (by decide) ?_
  exact L_ret rfl rfl rfl
def m_four_k104_111_117_114  (g : Sg) : Option (Int64) :=
  (some 278194)
theorem e_m_four_k104_111_117_114 {X : Xx} {d : Nat} (hd : 2 ≤ d)  (g : Sg) : ∀ r, m_four_k104_111_117_114  g = some r → EvM zft mtl X d 193 [.int 104, .int 111, .int 117, .int 114] (SHF, g) ((fun r : Int64 => ((some (.long r), (SHF, g)) : Out)) r) := by
  obtain ⟨d, rfl⟩ : ∃ d0, d = d0 + 1 := ⟨d - 1, by omega⟩
  have hd : 1 ≤ d := by omega
  refine E_in (f := (fun r : Int64 => ((some (.long r), (SHF, g)) : Out))) rfl (Nat.le_of_ble_eq_true rfl) ?_
  unfold m_four_k104_111_117_114
  change Lt X d (some .long) k_193 _ 0 [some (.int 104), some (.int 111), some (.int 117), some (.int 114)] [] g _
  refine L_s (pc' := 1) rfl rfl ?_
  refine L_s (pc' := 2) rfl rfl ?_
  refine L_s (pc' := 3) rfl rfl ?_
  refine L_kj (pc' := 6) (as := [.int 104, .int 111, .int 117]) (rest := []) rfl rfl ((e_m_three_k104_111_117 (by omega) _) (8693) rfl) rfl ?_
  refine L_ld2 (pc' := 9) rfl q4_32 rfl ?_
  refine L_s (pc' := 10) rfl rfl ?_
  refine L_le (b := 278176) (by decide) ?_
  refine L_s (pc' := 11) rfl rfl ?_
  refine L_s (pc' := 12) rfl rfl ?_
  refine L_le (b := 114) (by decide) ?_
  refine L_s (pc' := 13) rfl rfl ?_
  refine L_le (b := 278290) (by decide) ?_
  refine L_ld2 (pc' := 16) rfl q4_96 rfl ?_
  refine L_s (pc' := 17) rfl rfl ?_
  refine L_le (b := 278194) (by decide) ?_
  exact L_ret rfl rfl rfl
def m_three_k110_105_103  (g : Sg) : Option (Int64) :=
  (some 14631)
theorem e_m_three_k110_105_103 {X : Xx} {d : Nat} (hd : 1 ≤ d)  (g : Sg) : ∀ r, m_three_k110_105_103  g = some r → EvM zft mtl X d 192 [.int 110, .int 105, .int 103] (SHF, g) ((fun r : Int64 => ((some (.long r), (SHF, g)) : Out)) r) := by
  obtain ⟨d, rfl⟩ : ∃ d0, d = d0 + 1 := ⟨d - 1, by omega⟩
  have hd : 0 ≤ d := by omega
  refine E_in (f := (fun r : Int64 => ((some (.long r), (SHF, g)) : Out))) rfl (Nat.le_of_ble_eq_true rfl) ?_
  unfold m_three_k110_105_103
  change Lt X d (some .long) k_192 _ 0 [some (.int 110), some (.int 105), some (.int 103)] [] g _
  refine L_ld2 (pc' := 3) rfl q4_32 rfl ?_
  refine L_s (pc' := 4) rfl rfl ?_
  refine L_bi (pc' := 6) rfl q2_96 rfl ?_
  refine L_s (pc' := 7) rfl rfl ?_
  refine L_e (b := 14) (by decide) ?_
  refine L_s (pc' := 8) rfl rfl ?_
  refine L_le (b := 14) (by decide) ?_
  refine L_s (pc' := 9) rfl rfl ?_
  refine L_le (b := 448) (by decide) ?_
  refine L_s (pc' := 10) rfl rfl ?_
  refine L_s (pc' := 11) rfl rfl ?_
  refine L_le (b := 105) (by decide) ?_
  refine L_s (pc' := 12) rfl rfl ?_
  refine L_le (b := 553) (by decide) ?_
  refine L_ld2 (pc' := 15) rfl q4_96 rfl ?_
  refine L_s (pc' := 16) rfl rfl ?_
  refine L_le (b := 457) (by decide) ?_
  refine L_ld2 (pc' := 19) rfl q4_32 rfl ?_
  refine L_s (pc' := 20) rfl rfl ?_
  refine L_le (b := 14624) (by decide) ?_
  refine L_s (pc' := 21) rfl rfl ?_
  refine L_s (pc' := 22) rfl rfl ?_
  refine L_le (b := 103) (by decide) ?_
  refine L_s (pc' := 23) rfl rfl ?_
  refine L_le (b := 14727) (by decide) ?_
  refine L_ld2 (pc' := 26) rfl q4_96 rfl ?_
  refine L_s (pc' := 27) rfl rfl ?_
  refine L_le (b := 14631) (by decide) ?_
  exact L_ret rfl rfl rfl
def m_four_k110_105_103_104  (g : Sg) : Option (Int64) :=
  (some 468200)
theorem e_m_four_k110_105_103_104 {X : Xx} {d : Nat} (hd : 2 ≤ d)  (g : Sg) : ∀ r, m_four_k110_105_103_104  g = some r → EvM zft mtl X d 193 [.int 110, .int 105, .int 103, .int 104] (SHF, g) ((fun r : Int64 => ((some (.long r), (SHF, g)) : Out)) r) := by
  obtain ⟨d, rfl⟩ : ∃ d0, d = d0 + 1 := ⟨d - 1, by omega⟩
  have hd : 1 ≤ d := by omega
  refine E_in (f := (fun r : Int64 => ((some (.long r), (SHF, g)) : Out))) rfl (Nat.le_of_ble_eq_true rfl) ?_
  unfold m_four_k110_105_103_104
  change Lt X d (some .long) k_193 _ 0 [some (.int 110), some (.int 105), some (.int 103), some (.int 104)] [] g _
  refine L_s (pc' := 1) rfl rfl ?_
  refine L_s (pc' := 2) rfl rfl ?_
  refine L_s (pc' := 3) rfl rfl ?_
  refine L_kj (pc' := 6) (as := [.int 110, .int 105, .int 103]) (rest := []) rfl rfl ((e_m_three_k110_105_103 (by omega) _) (14631) rfl) rfl ?_
  refine L_ld2 (pc' := 9) rfl q4_32 rfl ?_
  refine L_s (pc' := 10) rfl rfl ?_
  refine L_le (b := 468192) (by decide) ?_
  refine L_s (pc' := 11) rfl rfl ?_
  refine L_s (pc' := 12) rfl rfl ?_
  refine L_le (b := 104) (by decide) ?_
  refine L_s (pc' := 13) rfl rfl ?_
  refine L_le (b := 468296) (by decide) ?_
  refine L_ld2 (pc' := 16) rfl q4_96 rfl ?_
  refine L_s (pc' := 17) rfl rfl ?_
  refine L_le (b := 468200) (by decide) ?_
  exact L_ret rfl rfl rfl
