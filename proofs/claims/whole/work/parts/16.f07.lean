/-! printed by wip/whole/decomp.py -/
def turns_standsUpTo_4 : Nat → Int32 → Int32 → Int32 → Sg → Option (Int32)
  | 0, _, _, _, _ => none
  | n + 1, v1, v2, v3, g =>
    (if (g 208 7) ≤ v3 then
      (if (((g 208 2) - 1) - v1) < v2 then
        (some 0)
      else
        (some 1))
    else
      (if inb v3 4 = true then (if (v1 - (g 214 (Int32.toNatClampNeg v3))) ≤ (g 208 5) then
        (if inb v3 4 = true then lt1 ((v2 + (if 0 < ((g 208 4) - (g 212 (Int32.toNatClampNeg v3))) then ((g 208 4) - (g 212 (Int32.toNatClampNeg v3))) else 0)) : Int32) (fun x1 => (turns_standsUpTo_4 n v1 x1 (v3 + 1) g)) else none)
      else
        (some 0)) else none))
def turns_standsUpTo (F : Nat) (v1 : Int32) (g : Sg) : Option (Int32) :=
  (turns_standsUpTo_4 F v1 0 0 g)
theorem p_turns_standsUpTo_4 {X : Xx} {d : Nat} {g : Sg} (hd : 0 ≤ d) : ∀ (n : Nat) (v1 : Int32) (v2 : Int32) (v3 : Int32), Lt X d (some .boolean) k_97 (fun r : Int32 => ((some (.int r), (SHF, g)) : Out)) 4 [some (.ref 208), some (.int v1), some (.int v2), some (.int v3)] [] g (turns_standsUpTo_4 n v1 v2 v3 g) := by
  intro n
  induction n with
  | zero => intros; exact L_none
  | succ n ih =>
    intro v1 v2 v3
    show Lt X d (some .boolean) k_97 (fun r : Int32 => ((some (.int r), (SHF, g)) : Out)) 4 [some (.ref 208), some (.int v1), some (.int v2), some (.int v3)] [] g (
      (if (g 208 7) ≤ v3 then
        (if (((g 208 2) - 1) - v1) < v2 then
          (some 0)
        else
          (some 1))
      else
        (if inb v3 4 = true then (if (v1 - (g 214 (Int32.toNatClampNeg v3))) ≤ (g 208 5) then
          (if inb v3 4 = true then lt1 ((v2 + (if 0 < ((g 208 4) - (g 212 (Int32.toNatClampNeg v3))) then ((g 208 4) - (g 212 (Int32.toNatClampNeg v3))) else 0)) : Int32) (fun x1 => (turns_standsUpTo_4 n v1 x1 (v3 + 1) g)) else none)
        else
          (some 0)) else none)))
    refine L_s (pc' := 5) rfl rfl ?_
    refine L_s (pc' := 6) rfl rfl ?_
    refine L_gf (pc' := 9) rfl fi_208_7 rfl ?_
    refine L_br (t := 53) (n := 12) rfl rfl (fun _ => ?_) (fun _ => ?_)
    · refine L_s (pc' := 54) rfl rfl ?_
      refine L_s (pc' := 55) rfl rfl ?_
      refine L_gf (pc' := 58) rfl fi_208_2 rfl ?_
      refine L_ic (pc' := 59) rfl q1_1 rfl ?_
      refine L_s (pc' := 60) rfl rfl ?_
      refine L_s (pc' := 61) rfl rfl ?_
      refine L_s (pc' := 62) rfl rfl ?_
      refine L_br (t := 69) (n := 65) rfl rfl (fun _ => ?_) (fun _ => ?_)
      · refine L_ic (pc' := 70) rfl q1_0 rfl ?_
        exact L_ret rfl (ret_z (by decide)) rfl
      · refine L_ic (pc' := 66) rfl q1_1 rfl ?_
        refine L_s (pc' := 70) rfl rfl ?_
        exact L_ret rfl (ret_z (by decide)) rfl
    · refine L_s (pc' := 13) rfl rfl ?_
      refine L_s (pc' := 14) rfl rfl ?_
      refine L_gf (pc' := 17) rfl fr_208_13 rfl ?_
      refine L_s (pc' := 18) rfl rfl ?_
      refine L_rI (pc' := 19) rfl sh_214 (by decide) rfl ?_
      refine L_s (pc' := 20) rfl rfl ?_
      refine L_s (pc' := 21) rfl rfl ?_
      refine L_gf (pc' := 24) rfl fi_208_5 rfl ?_
      refine L_br (t := 29) (n := 27) rfl rfl (fun _ => ?_) (fun _ => ?_)
      · refine L_s (pc' := 30) rfl rfl ?_
        refine L_ic (pc' := 31) rfl q1_0 rfl ?_
        refine L_s (pc' := 32) rfl rfl ?_
        refine L_gf (pc' := 35) rfl fi_208_4 rfl ?_
        refine L_s (pc' := 36) rfl rfl ?_
        refine L_gf (pc' := 39) rfl fr_208_11 rfl ?_
        refine L_s (pc' := 40) rfl rfl ?_
        refine L_rI (pc' := 41) rfl sh_212 (by decide) rfl ?_
        refine L_s (pc' := 42) rfl rfl ?_
        refine L_s (pc' := 45) rfl rfl ?_
        refine L_s (pc' := 46) rfl rfl ?_
        refine L_li fun x1 _ => ?_
        refine L_s (pc' := 47) (L' := [some (.ref 208), some (.int v1), some (.int x1), some (.int v3)]) rfl rfl ?_
        refine L_ii (pc' := 50) (L' := [some (.ref 208), some (.int v1), some (.int x1), some (.int (v3 + 1))]) rfl rfl q1_1 rfl rfl rfl ?_
        refine L_s (pc' := 4) rfl rfl ?_
        exact ih _ _ _
      · refine L_ic (pc' := 28) rfl q1_0 rfl ?_
        exact L_ret rfl (ret_z (by decide)) rfl
theorem e_turns_standsUpTo {X : Xx} {d : Nat} (hd : 1 ≤ d) (F : Nat) (v1 : Int32) (g : Sg) : ∀ r, turns_standsUpTo F v1 g = some r → EvM zft mtl X d 97 [.ref 208, .int v1] (SHF, g) ((fun r : Int32 => ((some (.int r), (SHF, g)) : Out)) r) := by
  obtain ⟨d, rfl⟩ : ∃ d0, d = d0 + 1 := ⟨d - 1, by omega⟩
  have hd : 0 ≤ d := by omega
  refine E_in (f := (fun r : Int32 => ((some (.int r), (SHF, g)) : Out))) rfl (Nat.le_of_ble_eq_true rfl) ?_
  unfold turns_standsUpTo
  change Lt X d (some .boolean) k_97 _ 0 [some (.ref 208), some (.int v1), none, none] [] g _
  refine L_ic (pc' := 1) rfl q1_0 rfl ?_
  refine L_s (pc' := 2) (L' := [some (.ref 208), some (.int v1), some (.int 0), none]) rfl rfl ?_
  refine L_ic (pc' := 3) rfl q1_0 rfl ?_
  refine L_s (pc' := 4) (L' := [some (.ref 208), some (.int v1), some (.int 0), some (.int 0)]) rfl rfl ?_
  exact p_turns_standsUpTo_4 hd F _ _ _
def turns_takeBack (v1 : Int32) (v2 : Int32) (v3 : Int32) (g : Sg) : Option (Sg) :=
  Option.bind (x_within v2 0 ((g 208 7) - 1) g) (fun x1 => (if x1 = 0 then
    (some g)
  else
    (if inb v2 4 = true then lt1 (up2 g 214 (Int32.toNatClampNeg v2) v3) (fun g2 => (if inb v2 4 = true then (if inb v2 4 = true then lt1 (up2 g2 212 (Int32.toNatClampNeg v2) ((g2 212 (Int32.toNatClampNeg v2)) - 1)) (fun g3 => (if inb v2 4 = true then (if inb v2 4 = true then lt1 (up2 g3 213 (Int32.toNatClampNeg v2) ((g3 213 (Int32.toNatClampNeg v2)) - (v1 - v1 / 2 * 2))) (fun g4 => (some g4)) else none) else none)) else none) else none)) else none)))
theorem e_turns_takeBack {X : Xx} {d : Nat} (hd : 2 ≤ d) (v1 : Int32) (v2 : Int32) (v3 : Int32) (g : Sg) : ∀ r, turns_takeBack v1 v2 v3 g = some r → EvM zft mtl X d 96 [.ref 208, .int v1, .int v2, .int v3] (SHF, g) ((fun r : Sg => ((none, (SHF, r)) : Out)) r) := by
  obtain ⟨d, rfl⟩ : ∃ d0, d = d0 + 1 := ⟨d - 1, by omega⟩
  have hd : 1 ≤ d := by omega
  refine E_in (f := (fun r : Sg => ((none, (SHF, r)) : Out))) rfl (Nat.le_of_ble_eq_true rfl) ?_
  unfold turns_takeBack
  change Lt X d none k_96 _ 0 [some (.ref 208), some (.int v1), some (.int v2), some (.int v3)] [] g _
  refine L_s (pc' := 1) rfl rfl ?_
  refine L_ic (pc' := 2) rfl q1_0 rfl ?_
  refine L_s (pc' := 3) rfl rfl ?_
  refine L_gf (pc' := 6) rfl fi_208_7 rfl ?_
  refine L_ic (pc' := 7) rfl q1_1 rfl ?_
  refine L_s (pc' := 8) rfl rfl ?_
  refine L_ci (pc' := 11) (as := [.int v2, .int 0, .int ((g 208 7) - 1)]) (rest := []) rfl rfl (e_x_within (by omega) _ _ _ _) rfl fun x1 => ?_
  refine L_br (t := 43) (n := 14) rfl rfl (fun _ => ?_) (fun _ => ?_)
  · exact L_ret rfl rfl rfl
  · refine L_s (pc' := 15) rfl rfl ?_
    refine L_gf (pc' := 18) rfl fr_208_13 rfl ?_
    refine L_s (pc' := 19) rfl rfl ?_
    refine L_s (pc' := 20) rfl rfl ?_
    refine L_wI (pc' := 21) rfl sh_214 (by decide) rfl ?_
    refine L_let fun g2 _ => ?_
    refine L_s (pc' := 22) rfl rfl ?_
    refine L_gf (pc' := 25) rfl fr_208_11 rfl ?_
    refine L_s (pc' := 26) rfl rfl ?_
    refine L_s (pc' := 27) rfl rfl ?_
    refine L_rI (pc' := 28) rfl sh_212 (by decide) rfl ?_
    refine L_ic (pc' := 29) rfl q1_1 rfl ?_
    refine L_s (pc' := 30) rfl rfl ?_
    refine L_wI (pc' := 31) rfl sh_212 (by decide) rfl ?_
    refine L_let fun g3 _ => ?_
    refine L_s (pc' := 32) rfl rfl ?_
    refine L_gf (pc' := 35) rfl fr_208_12 rfl ?_
    refine L_s (pc' := 36) rfl rfl ?_
    refine L_s (pc' := 37) rfl rfl ?_
    refine L_rI (pc' := 38) rfl sh_213 (by decide) rfl ?_
    refine L_s (pc' := 39) rfl rfl ?_
    refine L_ic (pc' := 40) rfl q1_2 rfl ?_
    refine L_rmk (pc' := 41) rfl (by decide) rfl ?_
    refine L_s (pc' := 42) rfl rfl ?_
    refine L_wI (pc' := 43) rfl sh_213 (by decide) rfl ?_
    refine L_let fun g4 _ => ?_
    exact L_ret rfl rfl rfl
def turns_place_129 (k_24 : Int32 → Int32 → Int32 → Int32 → Sg → Option (Sg)) (v1 : Int32) (v2 : Int32) (v3 : Int32) (v4 : Int32) (v8 : Int32) (g : Sg) : Option (Sg) :=
  Option.bind (turns_takeBack v1 v4 v8 g) (fun g1 => (k_24 v1 v2 v3 (v4 + 1) g1))
def turns_place_87 (F : Nat) (rc : Int32 → Int32 → Int32 → Sg → Option (Sg)) (k_24 : Int32 → Int32 → Int32 → Int32 → Sg → Option (Sg)) (v1 : Int32) (v2 : Int32) (v3 : Int32) (v4 : Int32) (v6 : Int32) (s0 : Int32) (g : Sg) : Option (Sg) :=
  Option.bind (turns_canBeBetter v1 v6 s0 g) (fun x1 => (if x1 = 0 then
    (k_24 v1 v2 v3 (v4 + 1) g)
  else
    Option.bind (turns_put v1 v4 g) (fun (x2, g3) => Option.bind (turns_standsUpTo F v1 g3) (fun x4 => (if x4 = 0 then
      (turns_place_129 k_24 v1 v2 v3 v4 x2 g3)
    else
      Option.bind (rc (v1 + 1) v6 s0 g3) (fun g5 => (turns_place_129 k_24 v1 v2 v3 v4 x2 g5)))))))
def turns_place_69 (F : Nat) (rc : Int32 → Int32 → Int32 → Sg → Option (Sg)) (k_24 : Int32 → Int32 → Int32 → Int32 → Sg → Option (Sg)) (v1 : Int32) (v2 : Int32) (v3 : Int32) (v4 : Int32) (s0 : Int32) (g : Sg) : Option (Sg) :=
  (if ¬ v4 = (g 208 7) then
    (turns_place_87 F rc k_24 v1 v2 v3 v4 s0 v3 g)
  else
    (turns_place_87 F rc k_24 v1 v2 v3 v4 s0 (v3 + 1) g))
def turns_place_55 (F : Nat) (rc : Int32 → Int32 → Int32 → Sg → Option (Sg)) (k_24 : Int32 → Int32 → Int32 → Int32 → Sg → Option (Sg)) (v1 : Int32) (v2 : Int32) (v3 : Int32) (v4 : Int32) (s0 : Int32) (g : Sg) : Option (Sg) :=
  (if s0 = 0 then
    (turns_place_69 F rc k_24 v1 v2 v3 v4 v2 g)
  else
    (turns_place_69 F rc k_24 v1 v2 v3 v4 (v2 + 1) g))
def turns_place_54 (F : Nat) (rc : Int32 → Int32 → Int32 → Sg → Option (Sg)) (k_24 : Int32 → Int32 → Int32 → Int32 → Sg → Option (Sg)) (v1 : Int32) (v2 : Int32) (v3 : Int32) (v4 : Int32) (g : Sg) : Option (Sg) :=
  (turns_place_55 F rc k_24 v1 v2 v3 v4 0 g)
def turns_place_24 (F : Nat) (rc : Int32 → Int32 → Int32 → Sg → Option (Sg)) : Nat → Int32 → Int32 → Int32 → Int32 → Sg → Option (Sg)
  | 0, _, _, _, _, _ => none
  | n + 1, v1, v2, v3, v4, g =>
    (if (g 208 7) < v4 then
      (some g)
    else
      (if v1 ≤ 0 then
        (turns_place_54 F rc (fun v1 v2 v3 v4 g0 => turns_place_24 F rc n v1 v2 v3 v4 g0) v1 v2 v3 v4 g)
      else
        (if inb (v1 - 1) 8 = true then (if (g 210 (Int32.toNatClampNeg (v1 - 1))) = v4 then
          (turns_place_54 F rc (fun v1 v2 v3 v4 g0 => turns_place_24 F rc n v1 v2 v3 v4 g0) v1 v2 v3 v4 g)
        else
          (turns_place_55 F rc (fun v1 v2 v3 v4 g0 => turns_place_24 F rc n v1 v2 v3 v4 g0) v1 v2 v3 v4 1 g)) else none)))
def turns_place (F : Nat) : Nat → Int32 → Int32 → Int32 → Sg → Option (Sg)
  | 0, _, _, _, _ => none
  | D + 1, v1, v2, v3, g =>
    lt1 (turns_place F D) fun rc =>
    (if (g 208 2) ≤ v1 then
      Option.bind (turns_keep F v2 v3 g) (fun g1 => (some g1))
    else
      (if v1 < 8 then
        (turns_place_24 F rc F v1 v2 v3 0 g)
      else
        Option.bind (turns_keep F v2 v3 g) (fun g2 => (some g2))))
theorem p_turns_place_129 {X : Xx} {d : Nat} {k_24 : Int32 → Int32 → Int32 → Int32 → Sg → Option (Sg)} (hd : 2 ≤ d) (hk_24 : ∀ (v1 : Int32) (v2 : Int32) (v3 : Int32) (v4 : Int32) (g : Sg), Lt X d none k_93 (fun r : Sg => ((none, (SHF, r)) : Out)) 24 [some (.ref 208), some (.int v1), some (.int v2), some (.int v3), some (.int v4), none, none, none, none] [] g (k_24 v1 v2 v3 v4 g)) (v1 : Int32) (v2 : Int32) (v3 : Int32) (v4 : Int32) (v8 : Int32) (g : Sg) : Lt X d none k_93 (fun r : Sg => ((none, (SHF, r)) : Out)) 129 [some (.ref 208), some (.int v1), some (.int v2), some (.int v3), some (.int v4), none, none, none, some (.int v8)] [] g (turns_place_129 k_24 v1 v2 v3 v4 v8 g) := by
  unfold turns_place_129
  refine L_s (pc' := 130) rfl rfl ?_
  refine L_s (pc' := 131) rfl rfl ?_
  refine L_s (pc' := 133) rfl rfl ?_
  refine L_s (pc' := 135) rfl rfl ?_
  refine L_cv (pc' := 138) (as := [.ref 208, .int v1, .int v4, .int v8]) (rest := []) rfl rfl (e_turns_takeBack (by omega) _ _ _ _) rfl fun g1 => ?_
  refine L_ii (pc' := 141) (L' := [some (.ref 208), some (.int v1), some (.int v2), some (.int v3), some (.int (v4 + 1)), none, none, none, some (.int v8)]) rfl rfl q1_1 rfl rfl rfl ?_
  refine L_s (pc' := 24) rfl rfl ?_
  refine L_wk (L' := [some (.ref 208), some (.int v1), some (.int v2), some (.int v3), some (.int (v4 + 1)), none, none, none, none]) (wk_s (wk_s (wk_s (wk_s (wk_s (wk_s (wk_s (wk_s (wk_n wk_nil))))))))) ?_
  exact hk_24 _ _ _ _ _
theorem p_turns_place_87 {X : Xx} {d : Nat} {rc : Int32 → Int32 → Int32 → Sg → Option (Sg)} {k_24 : Int32 → Int32 → Int32 → Int32 → Sg → Option (Sg)} (hd : 2 ≤ d) (hrc : ∀ (a1 a2 a3 : Int32) (g : Sg), ∀ r, rc a1 a2 a3 g = some r → EvM zft mtl X d 93 [.ref 208, .int a1, .int a2, .int a3] (SHF, g) ((fun r : Sg => ((none, (SHF, r)) : Out)) r)) (hk_24 : ∀ (v1 : Int32) (v2 : Int32) (v3 : Int32) (v4 : Int32) (g : Sg), Lt X d none k_93 (fun r : Sg => ((none, (SHF, r)) : Out)) 24 [some (.ref 208), some (.int v1), some (.int v2), some (.int v3), some (.int v4), none, none, none, none] [] g (k_24 v1 v2 v3 v4 g)) (F : Nat) (v1 : Int32) (v2 : Int32) (v3 : Int32) (v4 : Int32) (v6 : Int32) (s0 : Int32) (g : Sg) : Lt X d none k_93 (fun r : Sg => ((none, (SHF, r)) : Out)) 87 [some (.ref 208), some (.int v1), some (.int v2), some (.int v3), some (.int v4), none, some (.int v6), none, none] [.int s0] g (turns_place_87 F rc k_24 v1 v2 v3 v4 v6 s0 g) := by
  unfold turns_place_87
  refine L_s (pc' := 89) (L' := [some (.ref 208), some (.int v1), some (.int v2), some (.int v3), some (.int v4), none, some (.int v6), some (.int s0), none]) rfl rfl ?_
  refine L_s (pc' := 90) rfl rfl ?_
  refine L_s (pc' := 91) rfl rfl ?_
  refine L_s (pc' := 93) rfl rfl ?_
  refine L_s (pc' := 95) rfl rfl ?_
  refine L_ci (pc' := 98) (as := [.ref 208, .int v1, .int v6, .int s0]) (rest := []) rfl rfl (e_turns_canBeBetter (by omega) _ _ _ _) rfl fun x1 => ?_
  refine L_br (t := 138) (n := 101) rfl rfl (fun _ => ?_) (fun _ => ?_)
  · refine L_ii (pc' := 141) (L' := [some (.ref 208), some (.int v1), some (.int v2), some (.int v3), some (.int (v4 + 1)), none, some (.int v6), some (.int s0), none]) rfl rfl q1_1 rfl rfl rfl ?_
    refine L_s (pc' := 24) rfl rfl ?_
    refine L_wk (L' := [some (.ref 208), some (.int v1), some (.int v2), some (.int v3), some (.int (v4 + 1)), none, none, none, none]) (wk_s (wk_s (wk_s (wk_s (wk_s (wk_s (wk_n (wk_n (wk_s wk_nil))))))))) ?_
    exact hk_24 _ _ _ _ _
  · refine L_s (pc' := 102) rfl rfl ?_
    refine L_s (pc' := 103) rfl rfl ?_
    refine L_s (pc' := 105) rfl rfl ?_
    refine L_cig (pc' := 108) (as := [.ref 208, .int v1, .int v4]) (rest := []) rfl rfl (e_turns_put (by omega) _ _ _) rfl fun x2 g3 => ?_
    refine L_s (pc' := 110) (L' := [some (.ref 208), some (.int v1), some (.int v2), some (.int v3), some (.int v4), none, some (.int v6), some (.int s0), some (.int x2)]) rfl rfl ?_
    refine L_s (pc' := 111) rfl rfl ?_
    refine L_s (pc' := 112) rfl rfl ?_
    refine L_ci (pc' := 115) (as := [.ref 208, .int v1]) (rest := []) rfl rfl (e_turns_standsUpTo (by omega) F _ _) rfl fun x4 => ?_
    refine L_br (t := 129) (n := 118) rfl rfl (fun _ => ?_) (fun _ => ?_)
    · refine L_wk (L' := [some (.ref 208), some (.int v1), some (.int v2), some (.int v3), some (.int v4), none, none, none, some (.int x2)]) (wk_s (wk_s (wk_s (wk_s (wk_s (wk_s (wk_n (wk_n (wk_s wk_nil))))))))) ?_
      exact p_turns_place_129 hd hk_24 _ _ _ _ _ _
    · refine L_s (pc' := 119) rfl rfl ?_
      refine L_s (pc' := 120) rfl rfl ?_
      refine L_ic (pc' := 121) rfl q1_1 rfl ?_
      refine L_s (pc' := 122) rfl rfl ?_
      refine L_s (pc' := 124) rfl rfl ?_
      refine L_s (pc' := 126) rfl rfl ?_
      refine L_cv (pc' := 129) (as := [.ref 208, .int (v1 + 1), .int v6, .int s0]) (rest := []) rfl rfl (hrc _ _ _ _) rfl fun g5 => ?_
      refine L_wk (L' := [some (.ref 208), some (.int v1), some (.int v2), some (.int v3), some (.int v4), none, none, none, some (.int x2)]) (wk_s (wk_s (wk_s (wk_s (wk_s (wk_s (wk_n (wk_n (wk_s wk_nil))))))))) ?_
      exact p_turns_place_129 hd hk_24 _ _ _ _ _ _
theorem p_turns_place_69 {X : Xx} {d : Nat} {rc : Int32 → Int32 → Int32 → Sg → Option (Sg)} {k_24 : Int32 → Int32 → Int32 → Int32 → Sg → Option (Sg)} (hd : 2 ≤ d) (hrc : ∀ (a1 a2 a3 : Int32) (g : Sg), ∀ r, rc a1 a2 a3 g = some r → EvM zft mtl X d 93 [.ref 208, .int a1, .int a2, .int a3] (SHF, g) ((fun r : Sg => ((none, (SHF, r)) : Out)) r)) (hk_24 : ∀ (v1 : Int32) (v2 : Int32) (v3 : Int32) (v4 : Int32) (g : Sg), Lt X d none k_93 (fun r : Sg => ((none, (SHF, r)) : Out)) 24 [some (.ref 208), some (.int v1), some (.int v2), some (.int v3), some (.int v4), none, none, none, none] [] g (k_24 v1 v2 v3 v4 g)) (F : Nat) (v1 : Int32) (v2 : Int32) (v3 : Int32) (v4 : Int32) (s0 : Int32) (g : Sg) : Lt X d none k_93 (fun r : Sg => ((none, (SHF, r)) : Out)) 69 [some (.ref 208), some (.int v1), some (.int v2), some (.int v3), some (.int v4), none, none, none, none] [.int s0] g (turns_place_69 F rc k_24 v1 v2 v3 v4 s0 g) := by
  unfold turns_place_69
  refine L_s (pc' := 71) (L' := [some (.ref 208), some (.int v1), some (.int v2), some (.int v3), some (.int v4), none, some (.int s0), none, none]) rfl rfl ?_
  refine L_s (pc' := 73) rfl rfl ?_
  refine L_s (pc' := 74) rfl rfl ?_
  refine L_gf (pc' := 77) rfl fi_208_7 rfl ?_
  refine L_br (t := 86) (n := 80) rfl rfl (fun _ => ?_) (fun _ => ?_)
  · refine L_s (pc' := 87) rfl rfl ?_
    exact p_turns_place_87 hd hrc hk_24 F _ _ _ _ _ _ _
  · refine L_s (pc' := 81) rfl rfl ?_
    refine L_ic (pc' := 82) rfl q1_1 rfl ?_
    refine L_s (pc' := 83) rfl rfl ?_
    refine L_s (pc' := 87) rfl rfl ?_
    exact p_turns_place_87 hd hrc hk_24 F _ _ _ _ _ _ _
theorem p_turns_place_55 {X : Xx} {d : Nat} {rc : Int32 → Int32 → Int32 → Sg → Option (Sg)} {k_24 : Int32 → Int32 → Int32 → Int32 → Sg → Option (Sg)} (hd : 2 ≤ d) (hrc : ∀ (a1 a2 a3 : Int32) (g : Sg), ∀ r, rc a1 a2 a3 g = some r → EvM zft mtl X d 93 [.ref 208, .int a1, .int a2, .int a3] (SHF, g) ((fun r : Sg => ((none, (SHF, r)) : Out)) r)) (hk_24 : ∀ (v1 : Int32) (v2 : Int32) (v3 : Int32) (v4 : Int32) (g : Sg), Lt X d none k_93 (fun r : Sg => ((none, (SHF, r)) : Out)) 24 [some (.ref 208), some (.int v1), some (.int v2), some (.int v3), some (.int v4), none, none, none, none] [] g (k_24 v1 v2 v3 v4 g)) (F : Nat) (v1 : Int32) (v2 : Int32) (v3 : Int32) (v4 : Int32) (s0 : Int32) (g : Sg) : Lt X d none k_93 (fun r : Sg => ((none, (SHF, r)) : Out)) 55 [some (.ref 208), some (.int v1), some (.int v2), some (.int v3), some (.int v4), none, none, none, none] [.int s0] g (turns_place_55 F rc k_24 v1 v2 v3 v4 s0 g) := by
  unfold turns_place_55
  refine L_s (pc' := 57) (L' := [some (.ref 208), some (.int v1), some (.int v2), some (.int v3), some (.int v4), some (.int s0), none, none, none]) rfl rfl ?_
  refine L_s (pc' := 59) rfl rfl ?_
  refine L_br (t := 68) (n := 62) rfl rfl (fun _ => ?_) (fun _ => ?_)
  · refine L_s (pc' := 69) rfl rfl ?_
    refine L_wk (L' := [some (.ref 208), some (.int v1), some (.int v2), some (.int v3), some (.int v4), none, none, none, none]) (wk_s (wk_s (wk_s (wk_s (wk_s (wk_n (wk_s (wk_s (wk_s wk_nil))))))))) ?_
    exact p_turns_place_69 hd hrc hk_24 F _ _ _ _ _ _
  · refine L_s (pc' := 63) rfl rfl ?_
    refine L_ic (pc' := 64) rfl q1_1 rfl ?_
    refine L_s (pc' := 65) rfl rfl ?_
    refine L_s (pc' := 69) rfl rfl ?_
    refine L_wk (L' := [some (.ref 208), some (.int v1), some (.int v2), some (.int v3), some (.int v4), none, none, none, none]) (wk_s (wk_s (wk_s (wk_s (wk_s (wk_n (wk_s (wk_s (wk_s wk_nil))))))))) ?_
    exact p_turns_place_69 hd hrc hk_24 F _ _ _ _ _ _
theorem p_turns_place_54 {X : Xx} {d : Nat} {rc : Int32 → Int32 → Int32 → Sg → Option (Sg)} {k_24 : Int32 → Int32 → Int32 → Int32 → Sg → Option (Sg)} (hd : 2 ≤ d) (hrc : ∀ (a1 a2 a3 : Int32) (g : Sg), ∀ r, rc a1 a2 a3 g = some r → EvM zft mtl X d 93 [.ref 208, .int a1, .int a2, .int a3] (SHF, g) ((fun r : Sg => ((none, (SHF, r)) : Out)) r)) (hk_24 : ∀ (v1 : Int32) (v2 : Int32) (v3 : Int32) (v4 : Int32) (g : Sg), Lt X d none k_93 (fun r : Sg => ((none, (SHF, r)) : Out)) 24 [some (.ref 208), some (.int v1), some (.int v2), some (.int v3), some (.int v4), none, none, none, none] [] g (k_24 v1 v2 v3 v4 g)) (F : Nat) (v1 : Int32) (v2 : Int32) (v3 : Int32) (v4 : Int32) (g : Sg) : Lt X d none k_93 (fun r : Sg => ((none, (SHF, r)) : Out)) 54 [some (.ref 208), some (.int v1), some (.int v2), some (.int v3), some (.int v4), none, none, none, none] [] g (turns_place_54 F rc k_24 v1 v2 v3 v4 g) := by
  unfold turns_place_54
  refine L_ic (pc' := 55) rfl q1_0 rfl ?_
  exact p_turns_place_55 hd hrc hk_24 F _ _ _ _ _ _
theorem p_turns_place_24 {X : Xx} {d : Nat} {rc : Int32 → Int32 → Int32 → Sg → Option (Sg)} (hd : 2 ≤ d) (hrc : ∀ (a1 a2 a3 : Int32) (g : Sg), ∀ r, rc a1 a2 a3 g = some r → EvM zft mtl X d 93 [.ref 208, .int a1, .int a2, .int a3] (SHF, g) ((fun r : Sg => ((none, (SHF, r)) : Out)) r)) (F : Nat) : ∀ (n : Nat) (v1 : Int32) (v2 : Int32) (v3 : Int32) (v4 : Int32) (g : Sg), Lt X d none k_93 (fun r : Sg => ((none, (SHF, r)) : Out)) 24 [some (.ref 208), some (.int v1), some (.int v2), some (.int v3), some (.int v4), none, none, none, none] [] g (turns_place_24 F rc n v1 v2 v3 v4 g) := by
  intro n
  induction n with
  | zero => intros; exact L_none
  | succ n ih =>
    intro v1 v2 v3 v4 g
    show Lt X d none k_93 (fun r : Sg => ((none, (SHF, r)) : Out)) 24 [some (.ref 208), some (.int v1), some (.int v2), some (.int v3), some (.int v4), none, none, none, none] [] g (
      (if (g 208 7) < v4 then
        (some g)
      else
        (if v1 ≤ 0 then
          (turns_place_54 F rc (fun v1 v2 v3 v4 g0 => turns_place_24 F rc n v1 v2 v3 v4 g0) v1 v2 v3 v4 g)
        else
          (if inb (v1 - 1) 8 = true then (if (g 210 (Int32.toNatClampNeg (v1 - 1))) = v4 then
            (turns_place_54 F rc (fun v1 v2 v3 v4 g0 => turns_place_24 F rc n v1 v2 v3 v4 g0) v1 v2 v3 v4 g)
          else
            (turns_place_55 F rc (fun v1 v2 v3 v4 g0 => turns_place_24 F rc n v1 v2 v3 v4 g0) v1 v2 v3 v4 1 g)) else none))))
    refine L_s (pc' := 26) rfl rfl ?_
    refine L_s (pc' := 27) rfl rfl ?_
    refine L_gf (pc' := 30) rfl fi_208_7 rfl ?_
    refine L_br (t := 144) (n := 33) rfl rfl (fun _ => ?_) (fun _ => ?_)
    · exact L_ret rfl rfl rfl
    · refine L_s (pc' := 34) rfl rfl ?_
      refine L_br (t := 54) (n := 37) rfl rfl (fun _ => ?_) (fun _ => ?_)
      · exact p_turns_place_54 hd hrc (fun _ _ _ _ _ => ih _ _ _ _ _) F _ _ _ _ _
      · refine L_s (pc' := 38) rfl rfl ?_
        refine L_gf (pc' := 41) rfl fr_208_9 rfl ?_
        refine L_s (pc' := 42) rfl rfl ?_
        refine L_ic (pc' := 43) rfl q1_1 rfl ?_
        refine L_s (pc' := 44) rfl rfl ?_
        refine L_rI (pc' := 45) rfl sh_210 (by decide) rfl ?_
        refine L_s (pc' := 47) rfl rfl ?_
        refine L_br (t := 54) (n := 50) rfl rfl (fun _ => ?_) (fun _ => ?_)
        · exact p_turns_place_54 hd hrc (fun _ _ _ _ _ => ih _ _ _ _ _) F _ _ _ _ _
        · refine L_ic (pc' := 51) rfl q1_1 rfl ?_
          refine L_s (pc' := 55) rfl rfl ?_
          exact p_turns_place_55 hd hrc (fun _ _ _ _ _ => ih _ _ _ _ _) F _ _ _ _ _ _
theorem e_turns_place {X : Xx} (F : Nat) : ∀ (D : Nat) {d : Nat} (hd : 3 + D ≤ d) (v1 : Int32) (v2 : Int32) (v3 : Int32) (g : Sg), ∀ r, turns_place F D v1 v2 v3 g = some r → EvM zft mtl X d 93 [.ref 208, .int v1, .int v2, .int v3] (SHF, g) ((fun r : Sg => ((none, (SHF, r)) : Out)) r) := by
  intro D
  induction D with
  | zero => intro d hd v1 v2 v3 g r h; cases h
  | succ D ihD =>
    intro d hd v1 v2 v3 g
    obtain ⟨d, rfl⟩ : ∃ d0, d = d0 + 1 := ⟨d - 1, by omega⟩
    have hrc := fun (v1 : Int32) (v2 : Int32) (v3 : Int32) (g : Sg) => ihD (d := d) (by omega) v1 v2 v3 g
    have hd : 2 ≤ d := by omega
    refine E_in (f := (fun r : Sg => ((none, (SHF, r)) : Out))) rfl (Nat.le_of_ble_eq_true rfl) ?_
    change Lt X d none k_93 _ 0 [some (.ref 208), some (.int v1), some (.int v2), some (.int v3), none, none, none, none, none] [] g (
      (if (g 208 2) ≤ v1 then
        Option.bind (turns_keep F v2 v3 g) (fun g1 => (some g1))
      else
        (if v1 < 8 then
          (turns_place_24 F (turns_place F D) F v1 v2 v3 0 g)
        else
          Option.bind (turns_keep F v2 v3 g) (fun g2 => (some g2)))))
    refine L_s (pc' := 1) rfl rfl ?_
    refine L_s (pc' := 2) rfl rfl ?_
    refine L_gf (pc' := 5) rfl fi_208_2 rfl ?_
    refine L_br (t := 14) (n := 8) rfl rfl (fun _ => ?_) (fun _ => ?_)
    · refine L_s (pc' := 15) rfl rfl ?_
      refine L_s (pc' := 16) rfl rfl ?_
      refine L_s (pc' := 17) rfl rfl ?_
      refine L_cv (pc' := 20) (as := [.ref 208, .int v2, .int v3]) (rest := []) rfl rfl (e_turns_keep (by omega) F _ _ _) rfl fun g1 => ?_
      exact L_ret rfl rfl rfl
    · refine L_s (pc' := 9) rfl rfl ?_
      refine L_bi (pc' := 11) rfl q2_8 rfl ?_
      refine L_br (t := 21) (n := 14) rfl rfl (fun _ => ?_) (fun _ => ?_)
      · refine L_ic (pc' := 22) rfl q1_0 rfl ?_
        refine L_s (pc' := 24) (L' := [some (.ref 208), some (.int v1), some (.int v2), some (.int v3), some (.int 0), none, none, none, none]) rfl rfl ?_
        exact p_turns_place_24 hd hrc F F _ _ _ _ _
      · refine L_s (pc' := 15) rfl rfl ?_
        refine L_s (pc' := 16) rfl rfl ?_
        refine L_s (pc' := 17) rfl rfl ?_
        refine L_cv (pc' := 20) (as := [.ref 208, .int v2, .int v3]) (rest := []) rfl rfl (e_turns_keep (by omega) F _ _ _) rfl fun g2 => ?_
        exact L_ret rfl rfl rfl
def turns_search_38 (F : Nat) (v1 : Int32) (v2 : Int32) (v3 : Int32) (v4 : Int32) (g : Sg) : Option (Int32 × Sg) :=
  lt1 (up2 g 208 2 v1) (fun g1 => lt1 (up2 g1 208 3 v2) (fun g2 => lt1 (up2 g2 208 4 v3) (fun g3 => lt1 (up2 g3 208 5 v4) (fun g4 => lt1 (up2 g4 208 6 0) (fun g5 => Option.bind (turns_listMembers F g5) (fun g6 => Option.bind (jA_fill_c5 F 0 g6) (fun g7 => Option.bind (jA_fill_c6 F 0 g7) (fun g8 => Option.bind (jA_fill_c7 F (-1) g8) (fun g9 => Option.bind (turns_place F 10 0 0 0 g9) (fun g10 => (if (g10 208 6) = 0 ∨ (g10 208 6) = 1 then (some ((g10 208 6), g10)) else none)))))))))))
def turns_search (F : Nat) (v1 : Int32) (v2 : Int32) (v3 : Int32) (v4 : Int32) (g : Sg) : Option (Int32 × Sg) :=
  (if ¬ v1 = (g 208 2) then
    (turns_search_38 F v1 v2 v3 v4 g)
  else
    (if ¬ v2 = (g 208 3) then
      (turns_search_38 F v1 v2 v3 v4 g)
    else
      (if ¬ v3 = (g 208 4) then
        (turns_search_38 F v1 v2 v3 v4 g)
      else
        (if ¬ v4 = (g 208 5) then
          (turns_search_38 F v1 v2 v3 v4 g)
        else
          (if (g 208 6) = 0 ∨ (g 208 6) = 1 then (some ((g 208 6), g)) else none)))))
theorem p_turns_search_38 {X : Xx} {d : Nat} (hd : 13 ≤ d) (F : Nat) (v1 : Int32) (v2 : Int32) (v3 : Int32) (v4 : Int32) (g : Sg) : Lt X d (some .boolean) k_90 (fun r : Int32 × Sg => ((some (.int r.1), (SHF, r.2)) : Out)) 38 [some (.ref 208), some (.int v1), some (.int v2), some (.int v3), some (.int v4)] [] g (turns_search_38 F v1 v2 v3 v4 g) := by
  unfold turns_search_38
  refine L_s (pc' := 39) rfl rfl ?_
  refine L_s (pc' := 40) rfl rfl ?_
  refine L_pf (pc' := 43) rfl sh_208 (by decide) rfl rfl ?_
  refine L_let fun g1 _ => ?_
  refine L_s (pc' := 44) rfl rfl ?_
  refine L_s (pc' := 45) rfl rfl ?_
  refine L_pf (pc' := 48) rfl sh_208 (by decide) rfl rfl ?_
  refine L_let fun g2 _ => ?_
  refine L_s (pc' := 49) rfl rfl ?_
  refine L_s (pc' := 50) rfl rfl ?_
  refine L_pf (pc' := 53) rfl sh_208 (by decide) rfl rfl ?_
  refine L_let fun g3 _ => ?_
  refine L_s (pc' := 54) rfl rfl ?_
  refine L_s (pc' := 56) rfl rfl ?_
  refine L_pf (pc' := 59) rfl sh_208 (by decide) rfl rfl ?_
  refine L_let fun g4 _ => ?_
  refine L_s (pc' := 60) rfl rfl ?_
  refine L_ic (pc' := 61) rfl q1_0 rfl ?_
  refine L_pz (pc' := 64) rfl sh_208 (by decide) rfl (by decide) rfl ?_
  refine L_let fun g5 _ => ?_
  refine L_s (pc' := 65) rfl rfl ?_
  refine L_cv (pc' := 68) (as := [.ref 208]) (rest := []) rfl rfl (e_turns_listMembers (by omega) F _) rfl fun g6 => ?_
  refine L_s (pc' := 69) rfl rfl ?_
  refine L_gf (pc' := 72) rfl fr_208_11 rfl ?_
  refine L_ic (pc' := 73) rfl q1_0 rfl ?_
  refine L_cv (pc' := 76) (as := [.ref 212, .int 0]) (rest := []) rfl rfl (e_jA_fill_c5 (by omega) F _ _) rfl fun g7 => ?_
  refine L_s (pc' := 77) rfl rfl ?_
  refine L_gf (pc' := 80) rfl fr_208_12 rfl ?_
  refine L_ic (pc' := 81) rfl q1_0 rfl ?_
  refine L_cv (pc' := 84) (as := [.ref 213, .int 0]) (rest := []) rfl rfl (e_jA_fill_c6 (by omega) F _ _) rfl fun g8 => ?_
  refine L_s (pc' := 85) rfl rfl ?_
  refine L_gf (pc' := 88) rfl fr_208_13 rfl ?_
  refine L_ic (pc' := 89) rfl q1_m1 rfl ?_
  refine L_cv (pc' := 92) (as := [.ref 214, .int (-1)]) (rest := []) rfl rfl (e_jA_fill_c7 (by omega) F _ _) rfl fun g9 => ?_
  refine L_s (pc' := 93) rfl rfl ?_
  refine L_ic (pc' := 94) rfl q1_0 rfl ?_
  refine L_ic (pc' := 95) rfl q1_0 rfl ?_
  refine L_ic (pc' := 96) rfl q1_0 rfl ?_
  refine L_cv (pc' := 99) (as := [.ref 208, .int 0, .int 0, .int 0]) (rest := []) rfl rfl (e_turns_place F 10 (by omega) _ _ _ _) rfl fun g10 => ?_
  refine L_s (pc' := 100) rfl rfl ?_
  refine L_gf (pc' := 103) rfl fi_208_6 rfl ?_
  exact L_g fun h => L_ret rfl (ret_z h) rfl
theorem e_turns_search {X : Xx} {d : Nat} (hd : 14 ≤ d) (F : Nat) (v1 : Int32) (v2 : Int32) (v3 : Int32) (v4 : Int32) (g : Sg) : ∀ r, turns_search F v1 v2 v3 v4 g = some r → EvM zft mtl X d 90 [.ref 208, .int v1, .int v2, .int v3, .int v4] (SHF, g) ((fun r : Int32 × Sg => ((some (.int r.1), (SHF, r.2)) : Out)) r) := by
  obtain ⟨d, rfl⟩ : ∃ d0, d = d0 + 1 := ⟨d - 1, by omega⟩
  have hd : 13 ≤ d := by omega
  refine E_in (f := (fun r : Int32 × Sg => ((some (.int r.1), (SHF, r.2)) : Out))) rfl (Nat.le_of_ble_eq_true rfl) ?_
  unfold turns_search
  change Lt X d (some .boolean) k_90 _ 0 [some (.ref 208), some (.int v1), some (.int v2), some (.int v3), some (.int v4)] [] g _
  refine L_s (pc' := 1) rfl rfl ?_
  refine L_s (pc' := 2) rfl rfl ?_
  refine L_gf (pc' := 5) rfl fi_208_2 rfl ?_
  refine L_br (t := 38) (n := 8) rfl rfl (fun _ => ?_) (fun _ => ?_)
  · exact p_turns_search_38 hd F _ _ _ _ _
  · refine L_s (pc' := 9) rfl rfl ?_
    refine L_s (pc' := 10) rfl rfl ?_
    refine L_gf (pc' := 13) rfl fi_208_3 rfl ?_
    refine L_br (t := 38) (n := 16) rfl rfl (fun _ => ?_) (fun _ => ?_)
    · exact p_turns_search_38 hd F _ _ _ _ _
    · refine L_s (pc' := 17) rfl rfl ?_
      refine L_s (pc' := 18) rfl rfl ?_
      refine L_gf (pc' := 21) rfl fi_208_4 rfl ?_
      refine L_br (t := 38) (n := 24) rfl rfl (fun _ => ?_) (fun _ => ?_)
      · exact p_turns_search_38 hd F _ _ _ _ _
      · refine L_s (pc' := 26) rfl rfl ?_
        refine L_s (pc' := 27) rfl rfl ?_
        refine L_gf (pc' := 30) rfl fi_208_5 rfl ?_
        refine L_br (t := 38) (n := 33) rfl rfl (fun _ => ?_) (fun _ => ?_)
        · exact p_turns_search_38 hd F _ _ _ _ _
        · refine L_s (pc' := 34) rfl rfl ?_
          refine L_gf (pc' := 37) rfl fi_208_6 rfl ?_
          exact L_g fun h => L_ret rfl (ret_z h) rfl
def x_findTurns (F : Nat) (v1 : Int32) (v2 : Int32) (v3 : Int32) (v4 : Int32) (g : Sg) : Option (Int32 × Sg) :=
  Option.bind (x_within v1 1 8 g) (fun x1 => (if x1 = 0 then
    (some (0, g))
  else
    Option.bind (x_within v3 1 4 g) (fun x2 => (if x2 = 0 then
      (some (0, g))
    else
      Option.bind (x_within v4 0 7 g) (fun x3 => (if ¬ x3 = 0 then
        Option.bind (jI_bitCount v2 g) (fun x4 => Option.bind (x_within x4 1 4 g) (fun x5 => (if x5 = 0 then
          (some (0, g))
        else
          Option.bind (net_areFields F v2 g) (fun x6 => (if ¬ x6 = 0 then
            Option.bind (turns_search F v1 v2 v3 v4 g) (fun (x7, g8) => (if x7 = 0 ∨ x7 = 1 then (some (x7, g8)) else none))
          else
            (some (0, g)))))))
      else
        (some (0, g))))))))
theorem e_x_findTurns {X : Xx} {d : Nat} (hd : 15 ≤ d) (F : Nat) (v1 : Int32) (v2 : Int32) (v3 : Int32) (v4 : Int32) (g : Sg) : ∀ r, x_findTurns F v1 v2 v3 v4 g = some r → EvM zft mtl X d 144 [.ref 0, .int v1, .int v2, .int v3, .int v4] (SHF, g) ((fun r : Int32 × Sg => ((some (.int r.1), (SHF, r.2)) : Out)) r) := by
  obtain ⟨d, rfl⟩ : ∃ d0, d = d0 + 1 := ⟨d - 1, by omega⟩
  have hd : 14 ≤ d := by omega
  refine E_in (f := (fun r : Int32 × Sg => ((some (.int r.1), (SHF, r.2)) : Out))) rfl (Nat.le_of_ble_eq_true rfl) ?_
  unfold x_findTurns
  change Lt X d (some .boolean) k_144 _ 0 [some (.ref 0), some (.int v1), some (.int v2), some (.int v3), some (.int v4), none] [] g _
  refine L_s (pc' := 1) rfl rfl ?_
  refine L_ic (pc' := 2) rfl q1_1 rfl ?_
  refine L_bi (pc' := 4) rfl q2_8 rfl ?_
  refine L_ci (pc' := 7) (as := [.int v1, .int 1, .int 8]) (rest := []) rfl rfl (e_x_within (by omega) _ _ _ _) rfl fun x1 => ?_
  refine L_br (t := 30) (n := 10) rfl rfl (fun _ => ?_) (fun _ => ?_)
  · refine L_ic (pc' := 31) rfl q1_0 rfl ?_
    exact L_ret rfl (ret_z (by decide)) rfl
  · refine L_s (pc' := 11) rfl rfl ?_
    refine L_ic (pc' := 12) rfl q1_1 rfl ?_
    refine L_ic (pc' := 13) rfl q1_4 rfl ?_
    refine L_ci (pc' := 16) (as := [.int v3, .int 1, .int 4]) (rest := []) rfl rfl (e_x_within (by omega) _ _ _ _) rfl fun x2 => ?_
    refine L_br (t := 30) (n := 19) rfl rfl (fun _ => ?_) (fun _ => ?_)
    · refine L_ic (pc' := 31) rfl q1_0 rfl ?_
      exact L_ret rfl (ret_z (by decide)) rfl
    · refine L_s (pc' := 21) rfl rfl ?_
      refine L_ic (pc' := 22) rfl q1_0 rfl ?_
      refine L_bi (pc' := 24) rfl q2_7 rfl ?_
      refine L_ci (pc' := 27) (as := [.int v4, .int 0, .int 7]) (rest := []) rfl rfl (e_x_within (by omega) _ _ _ _) rfl fun x3 => ?_
      refine L_br (t := 32) (n := 30) rfl rfl (fun _ => ?_) (fun _ => ?_)
      · refine L_s (pc' := 33) rfl rfl ?_
        refine L_ci (pc' := 36) (as := [.int v2]) (rest := []) rfl rfl (e_jI_bitCount (by omega) _ _) rfl fun x4 => ?_
        refine L_s (pc' := 38) (L' := [some (.ref 0), some (.int v1), some (.int v2), some (.int v3), some (.int v4), some (.int x4)]) rfl rfl ?_
        refine L_s (pc' := 40) rfl rfl ?_
        refine L_ic (pc' := 41) rfl q1_1 rfl ?_
        refine L_ic (pc' := 42) rfl q1_4 rfl ?_
        refine L_ci (pc' := 45) (as := [.int x4, .int 1, .int 4]) (rest := []) rfl rfl (e_x_within (by omega) _ _ _ _) rfl fun x5 => ?_
        refine L_br (t := 62) (n := 48) rfl rfl (fun _ => ?_) (fun _ => ?_)
        · refine L_ic (pc' := 63) rfl q1_0 rfl ?_
          exact L_ret rfl (ret_z (by decide)) rfl
        · refine L_s (pc' := 49) rfl rfl ?_
          refine L_gf (pc' := 52) rfl fr_0_0 rfl ?_
          refine L_gf (pc' := 55) rfl fr_1_0 rfl ?_
          refine L_s (pc' := 56) rfl rfl ?_
          refine L_ci (pc' := 59) (as := [.ref 2, .int v2]) (rest := []) rfl rfl (e_net_areFields (by omega) F _ _) rfl fun x6 => ?_
          refine L_br (t := 64) (n := 62) rfl rfl (fun _ => ?_) (fun _ => ?_)
          · refine L_s (pc' := 65) rfl rfl ?_
            refine L_gf (pc' := 68) rfl fr_0_6 rfl ?_
            refine L_s (pc' := 69) rfl rfl ?_
            refine L_s (pc' := 70) rfl rfl ?_
            refine L_s (pc' := 71) rfl rfl ?_
            refine L_s (pc' := 73) rfl rfl ?_
            refine L_cig (pc' := 76) (as := [.ref 208, .int v1, .int v2, .int v3, .int v4]) (rest := []) rfl rfl (e_turns_search (by omega) F _ _ _ _ _) rfl fun x7 g8 => ?_
            exact L_g fun h => L_ret rfl (ret_z h) rfl
          · refine L_ic (pc' := 63) rfl q1_0 rfl ?_
            exact L_ret rfl (ret_z (by decide)) rfl
      · refine L_ic (pc' := 31) rfl q1_0 rfl ?_
        exact L_ret rfl (ret_z (by decide)) rfl
def x_lay (F : Nat) (v1 : Int32) (v2 : Int32) (v3 : Int32) (v4 : Int32) (v5 : Int32) (g : Sg) : Option (Int32 × Sg) :=
  Option.bind (x_within v5 0 1 g) (fun x1 => (if x1 = 0 then
    (some ((-1), g))
  else
    Option.bind (x_findTurns F v1 v2 v3 v4 g) (fun (x2, g3) => (if ¬ x2 = 0 then
      (if ¬ v5 = 0 then
        (some ((g3 208 1), g3))
      else
        (some ((g3 208 0), g3)))
    else
      (some ((-1), g3))))))
theorem e_x_lay {X : Xx} {d : Nat} (hd : 16 ≤ d) (F : Nat) (v1 : Int32) (v2 : Int32) (v3 : Int32) (v4 : Int32) (v5 : Int32) (g : Sg) : ∀ r, x_lay F v1 v2 v3 v4 v5 g = some r → EvM zft mtl X d 132 [.ref 0, .int v1, .int v2, .int v3, .int v4, .int v5] (SHF, g) ((fun r : Int32 × Sg => ((some (.int r.1), (SHF, r.2)) : Out)) r) := by
  obtain ⟨d, rfl⟩ : ∃ d0, d = d0 + 1 := ⟨d - 1, by omega⟩
  have hd : 15 ≤ d := by omega
  refine E_in (f := (fun r : Int32 × Sg => ((some (.int r.1), (SHF, r.2)) : Out))) rfl (Nat.le_of_ble_eq_true rfl) ?_
  unfold x_lay
  change Lt X d (some .int) k_132 _ 0 [some (.ref 0), some (.int v1), some (.int v2), some (.int v3), some (.int v4), some (.int v5)] [] g _
  refine L_s (pc' := 2) rfl rfl ?_
  refine L_ic (pc' := 3) rfl q1_0 rfl ?_
  refine L_ic (pc' := 4) rfl q1_1 rfl ?_
  refine L_ci (pc' := 7) (as := [.int v5, .int 0, .int 1]) (rest := []) rfl rfl (e_x_within (by omega) _ _ _ _) rfl fun x1 => ?_
  refine L_br (t := 22) (n := 10) rfl rfl (fun _ => ?_) (fun _ => ?_)
  · refine L_ic (pc' := 23) rfl q1_m1 rfl ?_
    exact L_ret rfl ret_i rfl
  · refine L_s (pc' := 11) rfl rfl ?_
    refine L_s (pc' := 12) rfl rfl ?_
    refine L_s (pc' := 13) rfl rfl ?_
    refine L_s (pc' := 14) rfl rfl ?_
    refine L_s (pc' := 16) rfl rfl ?_
    refine L_cig (pc' := 19) (as := [.ref 0, .int v1, .int v2, .int v3, .int v4]) (rest := []) rfl rfl (e_x_findTurns (by omega) F _ _ _ _ _) rfl fun x2 g3 => ?_
    refine L_br (t := 24) (n := 22) rfl rfl (fun _ => ?_) (fun _ => ?_)
    · refine L_s (pc' := 26) rfl rfl ?_
      refine L_br (t := 39) (n := 29) rfl rfl (fun _ => ?_) (fun _ => ?_)
      · refine L_s (pc' := 40) rfl rfl ?_
        refine L_gf (pc' := 43) rfl fr_0_6 rfl ?_
        refine L_gf (pc' := 46) rfl fi_208_1 rfl ?_
        exact L_ret rfl ret_i rfl
      · refine L_s (pc' := 30) rfl rfl ?_
        refine L_gf (pc' := 33) rfl fr_0_6 rfl ?_
        refine L_gf (pc' := 36) rfl fi_208_0 rfl ?_
        refine L_s (pc' := 46) rfl rfl ?_
        exact L_ret rfl ret_i rfl
    · refine L_ic (pc' := 23) rfl q1_m1 rfl ?_
      exact L_ret rfl ret_i rfl
def turns_nodeAt (v1 : Int32) (g : Sg) : Option (Int32) :=
  (if (g 208 6) = 0 then
    (some (-1))
  else
    Option.bind (x_within v1 0 ((g 208 2) - 1) g) (fun x1 => (if x1 = 0 then
      (some (-1))
    else
      (if v1 < 8 then
        (if inb v1 8 = true then lt1 ((g 211 (Int32.toNatClampNeg v1)) : Int32) (fun x2 => Option.bind (x_within x2 0 ((g 208 7) - 1) g) (fun x3 => (if x3 = 0 then
          (some 99)
        else
          (if inb x2 4 = true then (some (g 209 (Int32.toNatClampNeg x2))) else none)))) else none)
      else
        (some (-1))))))
theorem e_turns_nodeAt {X : Xx} {d : Nat} (hd : 2 ≤ d) (v1 : Int32) (g : Sg) : ∀ r, turns_nodeAt v1 g = some r → EvM zft mtl X d 91 [.ref 208, .int v1] (SHF, g) ((fun r : Int32 => ((some (.int r), (SHF, g)) : Out)) r) := by
  obtain ⟨d, rfl⟩ : ∃ d0, d = d0 + 1 := ⟨d - 1, by omega⟩
  have hd : 1 ≤ d := by omega
  refine E_in (f := (fun r : Int32 => ((some (.int r), (SHF, g)) : Out))) rfl (Nat.le_of_ble_eq_true rfl) ?_
  unfold turns_nodeAt
  change Lt X d (some .int) k_91 _ 0 [some (.ref 208), some (.int v1), none] [] g _
  refine L_s (pc' := 1) rfl rfl ?_
  refine L_gf (pc' := 4) rfl fi_208_6 rfl ?_
  refine L_br (t := 27) (n := 7) rfl rfl (fun _ => ?_) (fun _ => ?_)
  · refine L_ic (pc' := 28) rfl q1_m1 rfl ?_
    exact L_ret rfl ret_i rfl
  · refine L_s (pc' := 8) rfl rfl ?_
    refine L_ic (pc' := 9) rfl q1_0 rfl ?_
    refine L_s (pc' := 10) rfl rfl ?_
    refine L_gf (pc' := 13) rfl fi_208_2 rfl ?_
    refine L_ic (pc' := 14) rfl q1_1 rfl ?_
    refine L_s (pc' := 15) rfl rfl ?_
    refine L_ci (pc' := 18) (as := [.int v1, .int 0, .int ((g 208 2) - 1)]) (rest := []) rfl rfl (e_x_within (by omega) _ _ _ _) rfl fun x1 => ?_
    refine L_br (t := 27) (n := 21) rfl rfl (fun _ => ?_) (fun _ => ?_)
    · refine L_ic (pc' := 28) rfl q1_m1 rfl ?_
      exact L_ret rfl ret_i rfl
    · refine L_s (pc' := 22) rfl rfl ?_
      refine L_bi (pc' := 24) rfl q2_8 rfl ?_
      refine L_br (t := 29) (n := 27) rfl rfl (fun _ => ?_) (fun _ => ?_)
      · refine L_s (pc' := 30) rfl rfl ?_
        refine L_gf (pc' := 33) rfl fr_208_10 rfl ?_
        refine L_s (pc' := 34) rfl rfl ?_
        refine L_rI (pc' := 35) rfl sh_211 (by decide) rfl ?_
        refine L_li fun x2 _ => ?_
        refine L_s (pc' := 36) (L' := [some (.ref 208), some (.int v1), some (.int x2)]) rfl rfl ?_
        refine L_s (pc' := 37) rfl rfl ?_
        refine L_ic (pc' := 38) rfl q1_0 rfl ?_
        refine L_s (pc' := 39) rfl rfl ?_
        refine L_gf (pc' := 42) rfl fi_208_7 rfl ?_
        refine L_ic (pc' := 43) rfl q1_1 rfl ?_
        refine L_s (pc' := 44) rfl rfl ?_
        refine L_ci (pc' := 47) (as := [.int x2, .int 0, .int ((g 208 7) - 1)]) (rest := []) rfl rfl (e_x_within (by omega) _ _ _ _) rfl fun x3 => ?_
        refine L_br (t := 59) (n := 50) rfl rfl (fun _ => ?_) (fun _ => ?_)
        · refine L_bi (pc' := 61) rfl q2_99 rfl ?_
          exact L_ret rfl ret_i rfl
        · refine L_s (pc' := 51) rfl rfl ?_
          refine L_gf (pc' := 54) rfl fr_208_8 rfl ?_
          refine L_s (pc' := 55) rfl rfl ?_
          refine L_rI (pc' := 56) rfl sh_209 (by decide) rfl ?_
          refine L_s (pc' := 61) rfl rfl ?_
          exact L_ret rfl ret_i rfl
      · refine L_ic (pc' := 28) rfl q1_m1 rfl ?_
        exact L_ret rfl ret_i rfl
def x_laid (F : Nat) (v1 : Int32) (v2 : Int32) (v3 : Int32) (v4 : Int32) (v5 : Int32) (g : Sg) : Option (Int32 × Sg) :=
  Option.bind (x_within v5 0 (v1 - 1) g) (fun x1 => (if x1 = 0 then
    (some ((-1), g))
  else
    Option.bind (x_findTurns F v1 v2 v3 v4 g) (fun (x2, g3) => (if ¬ x2 = 0 then
      Option.bind (turns_nodeAt v5 g3) (fun x4 => (some (x4, g3)))
    else
      (some ((-1), g3))))))
theorem e_x_laid {X : Xx} {d : Nat} (hd : 16 ≤ d) (F : Nat) (v1 : Int32) (v2 : Int32) (v3 : Int32) (v4 : Int32) (v5 : Int32) (g : Sg) : ∀ r, x_laid F v1 v2 v3 v4 v5 g = some r → EvM zft mtl X d 133 [.ref 0, .int v1, .int v2, .int v3, .int v4, .int v5] (SHF, g) ((fun r : Int32 × Sg => ((some (.int r.1), (SHF, r.2)) : Out)) r) := by
  obtain ⟨d, rfl⟩ : ∃ d0, d = d0 + 1 := ⟨d - 1, by omega⟩
  have hd : 15 ≤ d := by omega
  refine E_in (f := (fun r : Int32 × Sg => ((some (.int r.1), (SHF, r.2)) : Out))) rfl (Nat.le_of_ble_eq_true rfl) ?_
  unfold x_laid
  change Lt X d (some .int) k_133 _ 0 [some (.ref 0), some (.int v1), some (.int v2), some (.int v3), some (.int v4), some (.int v5)] [] g _
  refine L_s (pc' := 2) rfl rfl ?_
  refine L_ic (pc' := 3) rfl q1_0 rfl ?_
  refine L_s (pc' := 4) rfl rfl ?_
  refine L_ic (pc' := 5) rfl q1_1 rfl ?_
  refine L_s (pc' := 6) rfl rfl ?_
  refine L_ci (pc' := 9) (as := [.int v5, .int 0, .int (v1 - 1)]) (rest := []) rfl rfl (e_x_within (by omega) _ _ _ _) rfl fun x1 => ?_
  refine L_br (t := 24) (n := 12) rfl rfl (fun _ => ?_) (fun _ => ?_)
  · refine L_ic (pc' := 25) rfl q1_m1 rfl ?_
    exact L_ret rfl ret_i rfl
  · refine L_s (pc' := 13) rfl rfl ?_
    refine L_s (pc' := 14) rfl rfl ?_
    refine L_s (pc' := 15) rfl rfl ?_
    refine L_s (pc' := 16) rfl rfl ?_
    refine L_s (pc' := 18) rfl rfl ?_
    refine L_cig (pc' := 21) (as := [.ref 0, .int v1, .int v2, .int v3, .int v4]) (rest := []) rfl rfl (e_x_findTurns (by omega) F _ _ _ _ _) rfl fun x2 g3 => ?_
    refine L_br (t := 26) (n := 24) rfl rfl (fun _ => ?_) (fun _ => ?_)
    · refine L_s (pc' := 27) rfl rfl ?_
      refine L_gf (pc' := 30) rfl fr_0_6 rfl ?_
      refine L_s (pc' := 32) rfl rfl ?_
      refine L_ci (pc' := 35) (as := [.ref 208, .int v5]) (rest := []) rfl rfl (e_turns_nodeAt (by omega) _ _) rfl fun x4 => ?_
      exact L_ret rfl ret_i rfl
    · refine L_ic (pc' := 25) rfl q1_m1 rfl ?_
      exact L_ret rfl ret_i rfl
def gauges_addRow (v1 : Int32) (v2 : Int32) (v3 : Int32) (v4 : Int32) (g : Sg) : Option (Int32 × Sg) :=
  (if 150 ≤ (g 42 0) then
    (some ((g 42 0), g))
  else
    (if inb (g 42 0) 150 = true then lt1 (up2 g 43 (Int32.toNatClampNeg (g 42 0)) v1) (fun g1 => (if inb (g1 42 0) 150 = true then lt1 (up2 g1 44 (Int32.toNatClampNeg (g1 42 0)) v2) (fun g2 => (if inb (g2 42 0) 150 = true then lt1 (up2 g2 45 (Int32.toNatClampNeg (g2 42 0)) v3) (fun g3 => (if inb (g3 42 0) 150 = true then lt1 (up2 g3 46 (Int32.toNatClampNeg (g3 42 0)) v4) (fun g4 => lt1 (up2 g4 42 0 ((g4 42 0) + 1)) (fun g5 => (some ((g5 42 0), g5)))) else none)) else none)) else none)) else none))
theorem e_gauges_addRow {X : Xx} {d : Nat} (hd : 1 ≤ d) (v1 : Int32) (v2 : Int32) (v3 : Int32) (v4 : Int32) (g : Sg) : ∀ r, gauges_addRow v1 v2 v3 v4 g = some r → EvM zft mtl X d 1 [.ref 42, .int v1, .int v2, .int v3, .int v4] (SHF, g) ((fun r : Int32 × Sg => ((some (.int r.1), (SHF, r.2)) : Out)) r) := by
  obtain ⟨d, rfl⟩ : ∃ d0, d = d0 + 1 := ⟨d - 1, by omega⟩
  have hd : 0 ≤ d := by omega
  refine E_in (f := (fun r : Int32 × Sg => ((some (.int r.1), (SHF, r.2)) : Out))) rfl (Nat.le_of_ble_eq_true rfl) ?_
  unfold gauges_addRow
  change Lt X d (some .int) k_1 _ 0 [some (.ref 42), some (.int v1), some (.int v2), some (.int v3), some (.int v4)] [] g _
  refine L_s (pc' := 1) rfl rfl ?_
  refine L_gf (pc' := 4) rfl fi_42_0 rfl ?_
  refine L_si (pc' := 7) rfl q3_150 rfl ?_
  refine L_br (t := 61) (n := 10) rfl rfl (fun _ => ?_) (fun _ => ?_)
  · refine L_s (pc' := 62) rfl rfl ?_
    refine L_gf (pc' := 65) rfl fi_42_0 rfl ?_
    exact L_ret rfl ret_i rfl
  · refine L_s (pc' := 11) rfl rfl ?_
    refine L_gf (pc' := 14) rfl fr_42_1 rfl ?_
    refine L_s (pc' := 15) rfl rfl ?_
    refine L_gf (pc' := 18) rfl fi_42_0 rfl ?_
    refine L_s (pc' := 19) rfl rfl ?_
    refine L_wI (pc' := 20) rfl sh_43 (by decide) rfl ?_
    refine L_let fun g1 _ => ?_
    refine L_s (pc' := 21) rfl rfl ?_
    refine L_gf (pc' := 24) rfl fr_42_2 rfl ?_
    refine L_s (pc' := 25) rfl rfl ?_
    refine L_gf (pc' := 28) rfl fi_42_0 rfl ?_
    refine L_s (pc' := 29) rfl rfl ?_
    refine L_wI (pc' := 30) rfl sh_44 (by decide) rfl ?_
    refine L_let fun g2 _ => ?_
    refine L_s (pc' := 31) rfl rfl ?_
    refine L_gf (pc' := 34) rfl fr_42_3 rfl ?_
    refine L_s (pc' := 35) rfl rfl ?_
    refine L_gf (pc' := 38) rfl fi_42_0 rfl ?_
    refine L_s (pc' := 39) rfl rfl ?_
    refine L_wI (pc' := 40) rfl sh_45 (by decide) rfl ?_
    refine L_let fun g3 _ => ?_
    refine L_s (pc' := 41) rfl rfl ?_
    refine L_gf (pc' := 44) rfl fr_42_4 rfl ?_
    refine L_s (pc' := 45) rfl rfl ?_
    refine L_gf (pc' := 48) rfl fi_42_0 rfl ?_
    refine L_s (pc' := 50) rfl rfl ?_
    refine L_wI (pc' := 51) rfl sh_46 (by decide) rfl ?_
    refine L_let fun g4 _ => ?_
    refine L_s (pc' := 52) rfl rfl ?_
    refine L_s (pc' := 53) rfl rfl ?_
    refine L_gf (pc' := 56) rfl fi_42_0 rfl ?_
    refine L_ic (pc' := 57) rfl q1_1 rfl ?_
    refine L_s (pc' := 58) rfl rfl ?_
    refine L_pf (pc' := 61) rfl sh_42 (by decide) rfl rfl ?_
    refine L_let fun g5 _ => ?_
    refine L_s (pc' := 62) rfl rfl ?_
    refine L_gf (pc' := 65) rfl fi_42_0 rfl ?_
    exact L_ret rfl ret_i rfl
def x_gauge (v1 : Int32) (v2 : Int32) (v3 : Int32) (v4 : Int32) (g : Sg) : Option (Int32 × Sg) :=
  (if 150 ≤ (g 42 0) then
    (some ((-1), g))
  else
    Option.bind (net_hasChannel v1 g) (fun x1 => (if ¬ x1 = 0 then
      Option.bind (x_within v2 0 (g 2 0) g) (fun x2 => (if ¬ x2 = 0 then
        Option.bind (x_within v3 0 9999 g) (fun x3 => (if x3 = 0 then
          (some ((-1), g))
        else
          Option.bind (x_within v4 0 9999 g) (fun x4 => (if ¬ x4 = 0 then
            Option.bind (gauges_addRow v1 v2 v3 v4 g) (fun (x5, g6) => (some (x5, g6)))
          else
            (some ((-1), g))))))
      else
        (some ((-1), g))))
    else
      (some ((-1), g)))))
theorem e_x_gauge {X : Xx} {d : Nat} (hd : 2 ≤ d) (v1 : Int32) (v2 : Int32) (v3 : Int32) (v4 : Int32) (g : Sg) : ∀ r, x_gauge v1 v2 v3 v4 g = some r → EvM zft mtl X d 134 [.ref 0, .int v1, .int v2, .int v3, .int v4] (SHF, g) ((fun r : Int32 × Sg => ((some (.int r.1), (SHF, r.2)) : Out)) r) := by
  obtain ⟨d, rfl⟩ : ∃ d0, d = d0 + 1 := ⟨d - 1, by omega⟩
  have hd : 1 ≤ d := by omega
  refine E_in (f := (fun r : Int32 × Sg => ((some (.int r.1), (SHF, r.2)) : Out))) rfl (Nat.le_of_ble_eq_true rfl) ?_
  unfold x_gauge
  change Lt X d (some .int) k_134 _ 0 [some (.ref 0), some (.int v1), some (.int v2), some (.int v3), some (.int v4), none] [] g _
  refine L_s (pc' := 1) rfl rfl ?_
  refine L_gf (pc' := 4) rfl fr_0_0 rfl ?_
  refine L_gf (pc' := 7) rfl fr_1_3 rfl ?_
  refine L_s (pc' := 9) (L' := [some (.ref 0), some (.int v1), some (.int v2), some (.int v3), some (.int v4), some (.ref 42)]) rfl rfl ?_
  refine L_s (pc' := 11) rfl rfl ?_
  refine L_gf (pc' := 14) rfl fi_42_0 rfl ?_
  refine L_si (pc' := 17) rfl q3_150 rfl ?_
  refine L_br (t := 34) (n := 20) rfl rfl (fun _ => ?_) (fun _ => ?_)
  · refine L_ic (pc' := 35) rfl q1_m1 rfl ?_
    exact L_ret rfl ret_i rfl
  · refine L_s (pc' := 21) rfl rfl ?_
    refine L_gf (pc' := 24) rfl fr_0_0 rfl ?_
    refine L_gf (pc' := 27) rfl fr_1_0 rfl ?_
    refine L_s (pc' := 28) rfl rfl ?_
    refine L_ci (pc' := 31) (as := [.ref 2, .int v1]) (rest := []) rfl rfl (e_net_hasChannel (by omega) _ _) rfl fun x1 => ?_
    refine L_br (t := 36) (n := 34) rfl rfl (fun _ => ?_) (fun _ => ?_)
    · refine L_s (pc' := 37) rfl rfl ?_
      refine L_ic (pc' := 38) rfl q1_0 rfl ?_
      refine L_s (pc' := 39) rfl rfl ?_
      refine L_gf (pc' := 42) rfl fr_0_0 rfl ?_
      refine L_gf (pc' := 45) rfl fr_1_0 rfl ?_
      refine L_gf (pc' := 48) rfl fi_2_0 rfl ?_
      refine L_ci (pc' := 51) (as := [.int v2, .int 0, .int (g 2 0)]) (rest := []) rfl rfl (e_x_within (by omega) _ _ _ _) rfl fun x2 => ?_
      refine L_br (t := 56) (n := 54) rfl rfl (fun _ => ?_) (fun _ => ?_)
      · refine L_s (pc' := 57) rfl rfl ?_
        refine L_ic (pc' := 58) rfl q1_0 rfl ?_
        refine L_si (pc' := 61) rfl q3_9999 rfl ?_
        refine L_ci (pc' := 64) (as := [.int v3, .int 0, .int 9999]) (rest := []) rfl rfl (e_x_within (by omega) _ _ _ _) rfl fun x3 => ?_
        refine L_br (t := 79) (n := 67) rfl rfl (fun _ => ?_) (fun _ => ?_)
        · refine L_ic (pc' := 80) rfl q1_m1 rfl ?_
          exact L_ret rfl ret_i rfl
        · refine L_s (pc' := 69) rfl rfl ?_
          refine L_ic (pc' := 70) rfl q1_0 rfl ?_
          refine L_si (pc' := 73) rfl q3_9999 rfl ?_
          refine L_ci (pc' := 76) (as := [.int v4, .int 0, .int 9999]) (rest := []) rfl rfl (e_x_within (by omega) _ _ _ _) rfl fun x4 => ?_
          refine L_br (t := 81) (n := 79) rfl rfl (fun _ => ?_) (fun _ => ?_)
          · refine L_s (pc' := 83) rfl rfl ?_
            refine L_s (pc' := 84) rfl rfl ?_
            refine L_s (pc' := 85) rfl rfl ?_
            refine L_s (pc' := 86) rfl rfl ?_
            refine L_s (pc' := 88) rfl rfl ?_
            refine L_cig (pc' := 91) (as := [.ref 42, .int v1, .int v2, .int v3, .int v4]) (rest := []) rfl rfl (e_gauges_addRow (by omega) _ _ _ _ _) rfl fun x5 g6 => ?_
            exact L_ret rfl ret_i rfl
          · refine L_ic (pc' := 80) rfl q1_m1 rfl ?_
            exact L_ret rfl ret_i rfl
      · refine L_ic (pc' := 55) rfl q1_m1 rfl ?_
        exact L_ret rfl ret_i rfl
    · refine L_ic (pc' := 35) rfl q1_m1 rfl ?_
      exact L_ret rfl ret_i rfl
def gauges_latestRow_7 : Nat → Int32 → Int32 → Int32 → Sg → Option (Int32)
  | 0, _, _, _, _ => none
  | n + 1, v1, v2, v3, g =>
    (if v3 < 0 then
      (some (-1))
    else
      (if inb v3 150 = true then (if ¬ (g 43 (Int32.toNatClampNeg v3)) = v1 then
        (gauges_latestRow_7 n v1 v2 (v3 + (-1)) g)
      else
        (if inb v3 150 = true then (if ¬ (g 44 (Int32.toNatClampNeg v3)) = v2 then
          (gauges_latestRow_7 n v1 v2 (v3 + (-1)) g)
        else
          (some v3)) else none)) else none))
def gauges_latestRow (F : Nat) (v1 : Int32) (v2 : Int32) (g : Sg) : Option (Int32) :=
  lt1 (((g 42 0) - 1) : Int32) (fun x1 => (gauges_latestRow_7 F v1 v2 x1 g))
theorem p_gauges_latestRow_7 {X : Xx} {d : Nat} {g : Sg} (hd : 0 ≤ d) : ∀ (n : Nat) (v1 : Int32) (v2 : Int32) (v3 : Int32), Lt X d (some .int) k_2 (fun r : Int32 => ((some (.int r), (SHF, g)) : Out)) 7 [some (.ref 42), some (.int v1), some (.int v2), some (.int v3)] [] g (gauges_latestRow_7 n v1 v2 v3 g) := by
  intro n
  induction n with
  | zero => intros; exact L_none
  | succ n ih =>
    intro v1 v2 v3
    show Lt X d (some .int) k_2 (fun r : Int32 => ((some (.int r), (SHF, g)) : Out)) 7 [some (.ref 42), some (.int v1), some (.int v2), some (.int v3)] [] g (
      (if v3 < 0 then
        (some (-1))
      else
        (if inb v3 150 = true then (if ¬ (g 43 (Int32.toNatClampNeg v3)) = v1 then
          (gauges_latestRow_7 n v1 v2 (v3 + (-1)) g)
        else
          (if inb v3 150 = true then (if ¬ (g 44 (Int32.toNatClampNeg v3)) = v2 then
            (gauges_latestRow_7 n v1 v2 (v3 + (-1)) g)
          else
            (some v3)) else none)) else none)))
    refine L_s (pc' := 8) rfl rfl ?_
    refine L_br (t := 39) (n := 11) rfl rfl (fun _ => ?_) (fun _ => ?_)
    · refine L_ic (pc' := 40) rfl q1_m1 rfl ?_
      exact L_ret rfl ret_i rfl
    · refine L_s (pc' := 12) rfl rfl ?_
      refine L_gf (pc' := 15) rfl fr_42_1 rfl ?_
      refine L_s (pc' := 16) rfl rfl ?_
      refine L_rI (pc' := 17) rfl sh_43 (by decide) rfl ?_
      refine L_s (pc' := 18) rfl rfl ?_
      refine L_br (t := 33) (n := 21) rfl rfl (fun _ => ?_) (fun _ => ?_)
      · refine L_ii (pc' := 36) (L' := [some (.ref 42), some (.int v1), some (.int v2), some (.int (v3 + (-1)))]) rfl rfl q1_m1 rfl rfl rfl ?_
        refine L_s (pc' := 7) rfl rfl ?_
        exact ih _ _ _
      · refine L_s (pc' := 22) rfl rfl ?_
        refine L_gf (pc' := 25) rfl fr_42_2 rfl ?_
        refine L_s (pc' := 26) rfl rfl ?_
        refine L_rI (pc' := 27) rfl sh_44 (by decide) rfl ?_
        refine L_s (pc' := 28) rfl rfl ?_
        refine L_br (t := 33) (n := 31) rfl rfl (fun _ => ?_) (fun _ => ?_)
        · refine L_ii (pc' := 36) (L' := [some (.ref 42), some (.int v1), some (.int v2), some (.int (v3 + (-1)))]) rfl rfl q1_m1 rfl rfl rfl ?_
          refine L_s (pc' := 7) rfl rfl ?_
          exact ih _ _ _
        · refine L_s (pc' := 32) rfl rfl ?_
          exact L_ret rfl ret_i rfl
theorem e_gauges_latestRow {X : Xx} {d : Nat} (hd : 1 ≤ d) (F : Nat) (v1 : Int32) (v2 : Int32) (g : Sg) : ∀ r, gauges_latestRow F v1 v2 g = some r → EvM zft mtl X d 2 [.ref 42, .int v1, .int v2] (SHF, g) ((fun r : Int32 => ((some (.int r), (SHF, g)) : Out)) r) := by
  obtain ⟨d, rfl⟩ : ∃ d0, d = d0 + 1 := ⟨d - 1, by omega⟩
  have hd : 0 ≤ d := by omega
  refine E_in (f := (fun r : Int32 => ((some (.int r), (SHF, g)) : Out))) rfl (Nat.le_of_ble_eq_true rfl) ?_
  unfold gauges_latestRow
  change Lt X d (some .int) k_2 _ 0 [some (.ref 42), some (.int v1), some (.int v2), none] [] g _
  refine L_s (pc' := 1) rfl rfl ?_
  refine L_gf (pc' := 4) rfl fi_42_0 rfl ?_
  refine L_ic (pc' := 5) rfl q1_1 rfl ?_
  refine L_s (pc' := 6) rfl rfl ?_
  refine L_li fun x1 _ => ?_
  refine L_s (pc' := 7) (L' := [some (.ref 42), some (.int v1), some (.int v2), some (.int x1)]) rfl rfl ?_
  exact p_gauges_latestRow_7 hd F _ _ _
def gauges_counts (F : Nat) (v1 : Int32) (v2 : Int32) (g : Sg) : Option (Int32) :=
  (if inb v1 150 = true then (if ¬ (g 43 (Int32.toNatClampNeg v1)) = v2 then
    (some 0)
  else
    (if inb v1 150 = true then Option.bind (gauges_latestRow F v2 (g 44 (Int32.toNatClampNeg v1)) g) (fun x1 => (if ¬ x1 = v1 then
      (some 0)
    else
      (some 1))) else none)) else none)
theorem e_gauges_counts {X : Xx} {d : Nat} (hd : 2 ≤ d) (F : Nat) (v1 : Int32) (v2 : Int32) (g : Sg) : ∀ r, gauges_counts F v1 v2 g = some r → EvM zft mtl X d 3 [.ref 42, .int v1, .int v2] (SHF, g) ((fun r : Int32 => ((some (.int r), (SHF, g)) : Out)) r) := by
  obtain ⟨d, rfl⟩ : ∃ d0, d = d0 + 1 := ⟨d - 1, by omega⟩
  have hd : 1 ≤ d := by omega
  refine E_in (f := (fun r : Int32 => ((some (.int r), (SHF, g)) : Out))) rfl (Nat.le_of_ble_eq_true rfl) ?_
  unfold gauges_counts
  change Lt X d (some .boolean) k_3 _ 0 [some (.ref 42), some (.int v1), some (.int v2)] [] g _
  refine L_s (pc' := 1) rfl rfl ?_
  refine L_gf (pc' := 4) rfl fr_42_1 rfl ?_
  refine L_s (pc' := 5) rfl rfl ?_
  refine L_rI (pc' := 6) rfl sh_43 (by decide) rfl ?_
  refine L_s (pc' := 7) rfl rfl ?_
  refine L_br (t := 29) (n := 10) rfl rfl (fun _ => ?_) (fun _ => ?_)
  · refine L_ic (pc' := 30) rfl q1_0 rfl ?_
    exact L_ret rfl (ret_z (by decide)) rfl
  · refine L_s (pc' := 11) rfl rfl ?_
    refine L_s (pc' := 12) rfl rfl ?_
    refine L_s (pc' := 13) rfl rfl ?_
    refine L_gf (pc' := 16) rfl fr_42_2 rfl ?_
    refine L_s (pc' := 17) rfl rfl ?_
    refine L_rI (pc' := 18) rfl sh_44 (by decide) rfl ?_
    refine L_ci (pc' := 21) (as := [.ref 42, .int v2, .int (g 44 (Int32.toNatClampNeg v1))]) (rest := []) rfl rfl (e_gauges_latestRow (by omega) F _ _ _) rfl fun x1 => ?_
    refine L_s (pc' := 22) rfl rfl ?_
    refine L_br (t := 29) (n := 25) rfl rfl (fun _ => ?_) (fun _ => ?_)
    · refine L_ic (pc' := 30) rfl q1_0 rfl ?_
      exact L_ret rfl (ret_z (by decide)) rfl
    · refine L_ic (pc' := 26) rfl q1_1 rfl ?_
      refine L_s (pc' := 30) rfl rfl ?_
      exact L_ret rfl (ret_z (by decide)) rfl
def gauges_rowsThatCount_4 (F : Nat) : Nat → Int32 → Int32 → Int32 → Sg → Option (Int32)
  | 0, _, _, _, _ => none
  | n + 1, v1, v2, v3, g =>
    (if (g 42 0) ≤ v3 then
      (some v2)
    else
      Option.bind (gauges_counts F v3 v1 g) (fun x1 => (if x1 = 0 then
        (gauges_rowsThatCount_4 F n v1 v2 (v3 + 1) g)
      else
        (gauges_rowsThatCount_4 F n v1 (v2 + 1) (v3 + 1) g))))
def gauges_rowsThatCount (F : Nat) (v1 : Int32) (g : Sg) : Option (Int32) :=
  (gauges_rowsThatCount_4 F F v1 0 0 g)
theorem p_gauges_rowsThatCount_4 {X : Xx} {d : Nat} {g : Sg} (hd : 2 ≤ d) (F : Nat) : ∀ (n : Nat) (v1 : Int32) (v2 : Int32) (v3 : Int32), Lt X d (some .int) k_8 (fun r : Int32 => ((some (.int r), (SHF, g)) : Out)) 4 [some (.ref 42), some (.int v1), some (.int v2), some (.int v3)] [] g (gauges_rowsThatCount_4 F n v1 v2 v3 g) := by
  intro n
  induction n with
  | zero => intros; exact L_none
  | succ n ih =>
    intro v1 v2 v3
    show Lt X d (some .int) k_8 (fun r : Int32 => ((some (.int r), (SHF, g)) : Out)) 4 [some (.ref 42), some (.int v1), some (.int v2), some (.int v3)] [] g (
      (if (g 42 0) ≤ v3 then
        (some v2)
      else
        Option.bind (gauges_counts F v3 v1 g) (fun x1 => (if x1 = 0 then
          (gauges_rowsThatCount_4 F n v1 v2 (v3 + 1) g)
        else
          (gauges_rowsThatCount_4 F n v1 (v2 + 1) (v3 + 1) g)))))
    refine L_s (pc' := 5) rfl rfl ?_
    refine L_s (pc' := 6) rfl rfl ?_
    refine L_gf (pc' := 9) rfl fi_42_0 rfl ?_
    refine L_br (t := 30) (n := 12) rfl rfl (fun _ => ?_) (fun _ => ?_)
    · refine L_s (pc' := 31) rfl rfl ?_
      exact L_ret rfl ret_i rfl
    · refine L_s (pc' := 13) rfl rfl ?_
      refine L_s (pc' := 14) rfl rfl ?_
      refine L_s (pc' := 15) rfl rfl ?_
      refine L_ci (pc' := 18) (as := [.ref 42, .int v3, .int v1]) (rest := []) rfl rfl (e_gauges_counts (by omega) F _ _ _) rfl fun x1 => ?_
      refine L_br (t := 24) (n := 21) rfl rfl (fun _ => ?_) (fun _ => ?_)
      · refine L_ii (pc' := 27) (L' := [some (.ref 42), some (.int v1), some (.int v2), some (.int (v3 + 1))]) rfl rfl q1_1 rfl rfl rfl ?_
        refine L_s (pc' := 4) rfl rfl ?_
        exact ih _ _ _
      · refine L_ii (pc' := 24) (L' := [some (.ref 42), some (.int v1), some (.int (v2 + 1)), some (.int v3)]) rfl rfl q1_1 rfl rfl rfl ?_
        refine L_ii (pc' := 27) (L' := [some (.ref 42), some (.int v1), some (.int (v2 + 1)), some (.int (v3 + 1))]) rfl rfl q1_1 rfl rfl rfl ?_
        refine L_s (pc' := 4) rfl rfl ?_
        exact ih _ _ _
theorem e_gauges_rowsThatCount {X : Xx} {d : Nat} (hd : 3 ≤ d) (F : Nat) (v1 : Int32) (g : Sg) : ∀ r, gauges_rowsThatCount F v1 g = some r → EvM zft mtl X d 8 [.ref 42, .int v1] (SHF, g) ((fun r : Int32 => ((some (.int r), (SHF, g)) : Out)) r) := by
  obtain ⟨d, rfl⟩ : ∃ d0, d = d0 + 1 := ⟨d - 1, by omega⟩
  have hd : 2 ≤ d := by omega
  refine E_in (f := (fun r : Int32 => ((some (.int r), (SHF, g)) : Out))) rfl (Nat.le_of_ble_eq_true rfl) ?_
  unfold gauges_rowsThatCount
  change Lt X d (some .int) k_8 _ 0 [some (.ref 42), some (.int v1), none, none] [] g _
  refine L_ic (pc' := 1) rfl q1_0 rfl ?_
  refine L_s (pc' := 2) (L' := [some (.ref 42), some (.int v1), some (.int 0), none]) rfl rfl ?_
  refine L_ic (pc' := 3) rfl q1_0 rfl ?_
  refine L_s (pc' := 4) (L' := [some (.ref 42), some (.int v1), some (.int 0), some (.int 0)]) rfl rfl ?_
  exact p_gauges_rowsThatCount_4 hd F F _ _ _
def gauges_leastThatCloses (v2 : Int32) (v3 : Int32) (g : Sg) : Option (Int32) :=
  (if inb v2 150 = true then lt1 ((g 43 (Int32.toNatClampNeg v2)) : Int32) (fun x1 => Option.bind (net_hasChannel x1 g) (fun x2 => (if x2 = 0 then
    (some 0)
  else
    (if inb v2 150 = true then (if inb v2 150 = true then (if inb x1 14 = true then (some (((g 45 (Int32.toNatClampNeg v2)) - (((g 45 (Int32.toNatClampNeg v2)) * (g 12 (Int32.toNatClampNeg x1))) / 1000)) - v3)) else none) else none) else none)))) else none)
theorem e_gauges_leastThatCloses {X : Xx} {d : Nat} (hd : 2 ≤ d) (v2 : Int32) (v3 : Int32) (g : Sg) : ∀ r, gauges_leastThatCloses v2 v3 g = some r → EvM zft mtl X d 4 [.ref 42, .ref 2, .int v2, .int v3] (SHF, g) ((fun r : Int32 => ((some (.int r), (SHF, g)) : Out)) r) := by
  obtain ⟨d, rfl⟩ : ∃ d0, d = d0 + 1 := ⟨d - 1, by omega⟩
  have hd : 1 ≤ d := by omega
  refine E_in (f := (fun r : Int32 => ((some (.int r), (SHF, g)) : Out))) rfl (Nat.le_of_ble_eq_true rfl) ?_
  unfold gauges_leastThatCloses
  change Lt X d (some .int) k_4 _ 0 [some (.ref 42), some (.ref 2), some (.int v2), some (.int v3), none] [] g _
  refine L_s (pc' := 1) rfl rfl ?_
  refine L_gf (pc' := 4) rfl fr_42_1 rfl ?_
  refine L_s (pc' := 5) rfl rfl ?_
  refine L_rI (pc' := 6) rfl sh_43 (by decide) rfl ?_
  refine L_li fun x1 _ => ?_
  refine L_s (pc' := 8) (L' := [some (.ref 42), some (.ref 2), some (.int v2), some (.int v3), some (.int x1)]) rfl rfl ?_
  refine L_s (pc' := 9) rfl rfl ?_
  refine L_s (pc' := 11) rfl rfl ?_
  refine L_ci (pc' := 14) (as := [.ref 2, .int x1]) (rest := []) rfl rfl (e_net_hasChannel (by omega) _ _) rfl fun x2 => ?_
  refine L_br (t := 47) (n := 17) rfl rfl (fun _ => ?_) (fun _ => ?_)
  · refine L_ic (pc' := 48) rfl q1_0 rfl ?_
    exact L_ret rfl ret_i rfl
  · refine L_s (pc' := 18) rfl rfl ?_
    refine L_gf (pc' := 21) rfl fr_42_3 rfl ?_
    refine L_s (pc' := 22) rfl rfl ?_
    refine L_rI (pc' := 23) rfl sh_45 (by decide) rfl ?_
    refine L_s (pc' := 24) rfl rfl ?_
    refine L_gf (pc' := 27) rfl fr_42_3 rfl ?_
    refine L_s (pc' := 28) rfl rfl ?_
    refine L_rI (pc' := 29) rfl sh_45 (by decide) rfl ?_
    refine L_s (pc' := 30) rfl rfl ?_
    refine L_gf (pc' := 33) rfl fr_2_10 rfl ?_
    refine L_s (pc' := 35) rfl rfl ?_
    refine L_rI (pc' := 36) rfl sh_12 (by decide) rfl ?_
    refine L_s (pc' := 37) rfl rfl ?_
    refine L_si (pc' := 40) rfl q3_1000 rfl ?_
    refine L_dvk (pc' := 41) rfl (by decide) rfl ?_
    refine L_s (pc' := 42) rfl rfl ?_
    refine L_s (pc' := 43) rfl rfl ?_
    refine L_s (pc' := 44) rfl rfl ?_
    refine L_s (pc' := 48) rfl rfl ?_
    exact L_ret rfl ret_i rfl
def gauges_mostThatCloses (v2 : Int32) (v3 : Int32) (g : Sg) : Option (Int32) :=
  (if inb v2 150 = true then lt1 ((g 43 (Int32.toNatClampNeg v2)) : Int32) (fun x1 => Option.bind (net_hasChannel x1 g) (fun x2 => (if x2 = 0 then
    (some 0)
  else
    (if inb v2 150 = true then (if inb v2 150 = true then (if inb x1 14 = true then (some (((g 45 (Int32.toNatClampNeg v2)) - (((g 45 (Int32.toNatClampNeg v2)) * (g 11 (Int32.toNatClampNeg x1))) / 1000)) + v3)) else none) else none) else none)))) else none)
theorem e_gauges_mostThatCloses {X : Xx} {d : Nat} (hd : 2 ≤ d) (v2 : Int32) (v3 : Int32) (g : Sg) : ∀ r, gauges_mostThatCloses v2 v3 g = some r → EvM zft mtl X d 5 [.ref 42, .ref 2, .int v2, .int v3] (SHF, g) ((fun r : Int32 => ((some (.int r), (SHF, g)) : Out)) r) := by
  obtain ⟨d, rfl⟩ : ∃ d0, d = d0 + 1 := ⟨d - 1, by omega⟩
  have hd : 1 ≤ d := by omega
  refine E_in (f := (fun r : Int32 => ((some (.int r), (SHF, g)) : Out))) rfl (Nat.le_of_ble_eq_true rfl) ?_
  unfold gauges_mostThatCloses
  change Lt X d (some .int) k_5 _ 0 [some (.ref 42), some (.ref 2), some (.int v2), some (.int v3), none] [] g _
  refine L_s (pc' := 1) rfl rfl ?_
  refine L_gf (pc' := 4) rfl fr_42_1 rfl ?_
  refine L_s (pc' := 5) rfl rfl ?_
  refine L_rI (pc' := 6) rfl sh_43 (by decide) rfl ?_
  refine L_li fun x1 _ => ?_
  refine L_s (pc' := 8) (L' := [some (.ref 42), some (.ref 2), some (.int v2), some (.int v3), some (.int x1)]) rfl rfl ?_
  refine L_s (pc' := 9) rfl rfl ?_
  refine L_s (pc' := 11) rfl rfl ?_
  refine L_ci (pc' := 14) (as := [.ref 2, .int x1]) (rest := []) rfl rfl (e_net_hasChannel (by omega) _ _) rfl fun x2 => ?_
  refine L_br (t := 47) (n := 17) rfl rfl (fun _ => ?_) (fun _ => ?_)
  · refine L_ic (pc' := 48) rfl q1_0 rfl ?_
    exact L_ret rfl ret_i rfl
  · refine L_s (pc' := 18) rfl rfl ?_
    refine L_gf (pc' := 21) rfl fr_42_3 rfl ?_
    refine L_s (pc' := 22) rfl rfl ?_
    refine L_rI (pc' := 23) rfl sh_45 (by decide) rfl ?_
    refine L_s (pc' := 24) rfl rfl ?_
    refine L_gf (pc' := 27) rfl fr_42_3 rfl ?_
    refine L_s (pc' := 28) rfl rfl ?_
    refine L_rI (pc' := 29) rfl sh_45 (by decide) rfl ?_
    refine L_s (pc' := 30) rfl rfl ?_
    refine L_gf (pc' := 33) rfl fr_2_9 rfl ?_
    refine L_s (pc' := 35) rfl rfl ?_
    refine L_rI (pc' := 36) rfl sh_11 (by decide) rfl ?_
    refine L_s (pc' := 37) rfl rfl ?_
    refine L_si (pc' := 40) rfl q3_1000 rfl ?_
    refine L_dvk (pc' := 41) rfl (by decide) rfl ?_
    refine L_s (pc' := 42) rfl rfl ?_
    refine L_s (pc' := 43) rfl rfl ?_
    refine L_s (pc' := 44) rfl rfl ?_
    refine L_s (pc' := 48) rfl rfl ?_
    exact L_ret rfl ret_i rfl
def gauges_rowsThatClose_48 (k_6 : Int32 → Int32 → Int32 → Int32 → Sg → Option (Int32)) (v2 : Int32) (v3 : Int32) (v4 : Int32) (v5 : Int32) (s0 : Int32) (g : Sg) : Option (Int32) :=
  (if s0 = 0 then
    lt1 ((v4 + 0) : Int32) (fun x1 => (k_6 v2 v3 x1 (v5 + 1) g))
  else
    (if inb v5 150 = true then Option.bind (gauges_mostThatCloses v5 v3 g) (fun x2 => (if x2 < (g 46 (Int32.toNatClampNeg v5)) then
      lt1 ((v4 + 0) : Int32) (fun x3 => (k_6 v2 v3 x3 (v5 + 1) g))
    else
      lt1 ((v4 + 1) : Int32) (fun x4 => (k_6 v2 v3 x4 (v5 + 1) g)))) else none))
def gauges_rowsThatClose_6 (F : Nat) : Nat → Int32 → Int32 → Int32 → Int32 → Sg → Option (Int32)
  | 0, _, _, _, _, _ => none
  | n + 1, v2, v3, v4, v5, g =>
    (if (g 42 0) ≤ v5 then
      (some v4)
    else
      Option.bind (gauges_counts F v5 v2 g) (fun x1 => (if x1 = 0 then
        (gauges_rowsThatClose_6 F n v2 v3 v4 (v5 + 1) g)
      else
        (if inb v5 150 = true then Option.bind (gauges_leastThatCloses v5 v3 g) (fun x2 => (if (g 46 (Int32.toNatClampNeg v5)) < x2 then
          (gauges_rowsThatClose_48 (fun v2 v3 v4 v5 g0 => gauges_rowsThatClose_6 F n v2 v3 v4 v5 g0) v2 v3 v4 v5 0 g)
        else
          (gauges_rowsThatClose_48 (fun v2 v3 v4 v5 g0 => gauges_rowsThatClose_6 F n v2 v3 v4 v5 g0) v2 v3 v4 v5 1 g))) else none))))
def gauges_rowsThatClose (F : Nat) (v2 : Int32) (v3 : Int32) (g : Sg) : Option (Int32) :=
  (gauges_rowsThatClose_6 F F v2 v3 0 0 g)
theorem p_gauges_rowsThatClose_48 {X : Xx} {d : Nat} {g : Sg} {k_6 : Int32 → Int32 → Int32 → Int32 → Sg → Option (Int32)} (hd : 2 ≤ d) (hk_6 : ∀ (v2 : Int32) (v3 : Int32) (v4 : Int32) (v5 : Int32), Lt X d (some .int) k_9 (fun r : Int32 => ((some (.int r), (SHF, g)) : Out)) 6 [some (.ref 42), some (.ref 2), some (.int v2), some (.int v3), some (.int v4), some (.int v5), none] [] g (k_6 v2 v3 v4 v5 g)) (v2 : Int32) (v3 : Int32) (v4 : Int32) (v5 : Int32) (s0 : Int32) : Lt X d (some .int) k_9 (fun r : Int32 => ((some (.int r), (SHF, g)) : Out)) 48 [some (.ref 42), some (.ref 2), some (.int v2), some (.int v3), some (.int v4), some (.int v5), none] [.int s0] g (gauges_rowsThatClose_48 k_6 v2 v3 v4 v5 s0 g) := by
  unfold gauges_rowsThatClose_48
  refine L_s (pc' := 50) (L' := [some (.ref 42), some (.ref 2), some (.int v2), some (.int v3), some (.int v4), some (.int v5), some (.int s0)]) rfl rfl ?_
  refine L_s (pc' := 52) rfl rfl ?_
  refine L_s (pc' := 54) rfl rfl ?_
  refine L_br (t := 79) (n := 57) rfl rfl (fun _ => ?_) (fun _ => ?_)
  · refine L_ic (pc' := 80) rfl q1_0 rfl ?_
    refine L_s (pc' := 81) rfl rfl ?_
    refine L_li fun x1 _ => ?_
    refine L_s (pc' := 83) (L' := [some (.ref 42), some (.ref 2), some (.int v2), some (.int v3), some (.int x1), some (.int v5), some (.int s0)]) rfl rfl ?_
    refine L_ii (pc' := 86) (L' := [some (.ref 42), some (.ref 2), some (.int v2), some (.int v3), some (.int x1), some (.int (v5 + 1)), some (.int s0)]) rfl rfl q1_1 rfl rfl rfl ?_
    refine L_s (pc' := 6) rfl rfl ?_
    refine L_wk (L' := [some (.ref 42), some (.ref 2), some (.int v2), some (.int v3), some (.int x1), some (.int (v5 + 1)), none]) (wk_s (wk_s (wk_s (wk_s (wk_s (wk_s (wk_n wk_nil))))))) ?_
    exact hk_6 _ _ _ _
  · refine L_s (pc' := 58) rfl rfl ?_
    refine L_gf (pc' := 61) rfl fr_42_4 rfl ?_
    refine L_s (pc' := 63) rfl rfl ?_
    refine L_rI (pc' := 64) rfl sh_46 (by decide) rfl ?_
    refine L_s (pc' := 65) rfl rfl ?_
    refine L_s (pc' := 66) rfl rfl ?_
    refine L_s (pc' := 68) rfl rfl ?_
    refine L_s (pc' := 69) rfl rfl ?_
    refine L_ci (pc' := 72) (as := [.ref 42, .ref 2, .int v5, .int v3]) (rest := [.int (g 46 (Int32.toNatClampNeg v5)), .int v4]) rfl rfl (e_gauges_mostThatCloses (by omega) _ _ _) rfl fun x2 => ?_
    refine L_br (t := 79) (n := 75) rfl rfl (fun _ => ?_) (fun _ => ?_)
    · refine L_ic (pc' := 80) rfl q1_0 rfl ?_
      refine L_s (pc' := 81) rfl rfl ?_
      refine L_li fun x3 _ => ?_
      refine L_s (pc' := 83) (L' := [some (.ref 42), some (.ref 2), some (.int v2), some (.int v3), some (.int x3), some (.int v5), some (.int s0)]) rfl rfl ?_
      refine L_ii (pc' := 86) (L' := [some (.ref 42), some (.ref 2), some (.int v2), some (.int v3), some (.int x3), some (.int (v5 + 1)), some (.int s0)]) rfl rfl q1_1 rfl rfl rfl ?_
      refine L_s (pc' := 6) rfl rfl ?_
      refine L_wk (L' := [some (.ref 42), some (.ref 2), some (.int v2), some (.int v3), some (.int x3), some (.int (v5 + 1)), none]) (wk_s (wk_s (wk_s (wk_s (wk_s (wk_s (wk_n wk_nil))))))) ?_
      exact hk_6 _ _ _ _
    · refine L_ic (pc' := 76) rfl q1_1 rfl ?_
      refine L_s (pc' := 80) rfl rfl ?_
      refine L_s (pc' := 81) rfl rfl ?_
      refine L_li fun x4 _ => ?_
      refine L_s (pc' := 83) (L' := [some (.ref 42), some (.ref 2), some (.int v2), some (.int v3), some (.int x4), some (.int v5), some (.int s0)]) rfl rfl ?_
      refine L_ii (pc' := 86) (L' := [some (.ref 42), some (.ref 2), some (.int v2), some (.int v3), some (.int x4), some (.int (v5 + 1)), some (.int s0)]) rfl rfl q1_1 rfl rfl rfl ?_
      refine L_s (pc' := 6) rfl rfl ?_
      refine L_wk (L' := [some (.ref 42), some (.ref 2), some (.int v2), some (.int v3), some (.int x4), some (.int (v5 + 1)), none]) (wk_s (wk_s (wk_s (wk_s (wk_s (wk_s (wk_n wk_nil))))))) ?_
      exact hk_6 _ _ _ _
theorem p_gauges_rowsThatClose_6 {X : Xx} {d : Nat} {g : Sg} (hd : 2 ≤ d) (F : Nat) : ∀ (n : Nat) (v2 : Int32) (v3 : Int32) (v4 : Int32) (v5 : Int32), Lt X d (some .int) k_9 (fun r : Int32 => ((some (.int r), (SHF, g)) : Out)) 6 [some (.ref 42), some (.ref 2), some (.int v2), some (.int v3), some (.int v4), some (.int v5), none] [] g (gauges_rowsThatClose_6 F n v2 v3 v4 v5 g) := by
  intro n
  induction n with
  | zero => intros; exact L_none
  | succ n ih =>
    intro v2 v3 v4 v5
    show Lt X d (some .int) k_9 (fun r : Int32 => ((some (.int r), (SHF, g)) : Out)) 6 [some (.ref 42), some (.ref 2), some (.int v2), some (.int v3), some (.int v4), some (.int v5), none] [] g (
      (if (g 42 0) ≤ v5 then
        (some v4)
      else
        Option.bind (gauges_counts F v5 v2 g) (fun x1 => (if x1 = 0 then
          (gauges_rowsThatClose_6 F n v2 v3 v4 (v5 + 1) g)
        else
          (if inb v5 150 = true then Option.bind (gauges_leastThatCloses v5 v3 g) (fun x2 => (if (g 46 (Int32.toNatClampNeg v5)) < x2 then
            (gauges_rowsThatClose_48 (fun v2 v3 v4 v5 g0 => gauges_rowsThatClose_6 F n v2 v3 v4 v5 g0) v2 v3 v4 v5 0 g)
          else
            (gauges_rowsThatClose_48 (fun v2 v3 v4 v5 g0 => gauges_rowsThatClose_6 F n v2 v3 v4 v5 g0) v2 v3 v4 v5 1 g))) else none)))))
    refine L_s (pc' := 8) rfl rfl ?_
    refine L_s (pc' := 9) rfl rfl ?_
    refine L_gf (pc' := 12) rfl fi_42_0 rfl ?_
    refine L_br (t := 89) (n := 15) rfl rfl (fun _ => ?_) (fun _ => ?_)
    · refine L_s (pc' := 91) rfl rfl ?_
      exact L_ret rfl ret_i rfl
    · refine L_s (pc' := 16) rfl rfl ?_
      refine L_s (pc' := 18) rfl rfl ?_
      refine L_s (pc' := 19) rfl rfl ?_
      refine L_ci (pc' := 22) (as := [.ref 42, .int v5, .int v2]) (rest := []) rfl rfl (e_gauges_counts (by omega) F _ _ _) rfl fun x1 => ?_
      refine L_br (t := 83) (n := 25) rfl rfl (fun _ => ?_) (fun _ => ?_)
      · refine L_ii (pc' := 86) (L' := [some (.ref 42), some (.ref 2), some (.int v2), some (.int v3), some (.int v4), some (.int (v5 + 1)), none]) rfl rfl q1_1 rfl rfl rfl ?_
        refine L_s (pc' := 6) rfl rfl ?_
        exact ih _ _ _ _
      · refine L_s (pc' := 26) rfl rfl ?_
        refine L_gf (pc' := 29) rfl fr_42_4 rfl ?_
        refine L_s (pc' := 31) rfl rfl ?_
        refine L_rI (pc' := 32) rfl sh_46 (by decide) rfl ?_
        refine L_s (pc' := 33) rfl rfl ?_
        refine L_s (pc' := 34) rfl rfl ?_
        refine L_s (pc' := 36) rfl rfl ?_
        refine L_s (pc' := 37) rfl rfl ?_
        refine L_ci (pc' := 40) (as := [.ref 42, .ref 2, .int v5, .int v3]) (rest := [.int (g 46 (Int32.toNatClampNeg v5))]) rfl rfl (e_gauges_leastThatCloses (by omega) _ _ _) rfl fun x2 => ?_
        refine L_br (t := 47) (n := 43) rfl rfl (fun _ => ?_) (fun _ => ?_)
        · refine L_ic (pc' := 48) rfl q1_0 rfl ?_
          exact p_gauges_rowsThatClose_48 hd (fun _ _ _ _ => ih _ _ _ _) _ _ _ _ _
        · refine L_ic (pc' := 44) rfl q1_1 rfl ?_
          refine L_s (pc' := 48) rfl rfl ?_
          exact p_gauges_rowsThatClose_48 hd (fun _ _ _ _ => ih _ _ _ _) _ _ _ _ _
theorem e_gauges_rowsThatClose {X : Xx} {d : Nat} (hd : 3 ≤ d) (F : Nat) (v2 : Int32) (v3 : Int32) (g : Sg) : ∀ r, gauges_rowsThatClose F v2 v3 g = some r → EvM zft mtl X d 9 [.ref 42, .ref 2, .int v2, .int v3] (SHF, g) ((fun r : Int32 => ((some (.int r), (SHF, g)) : Out)) r) := by
  obtain ⟨d, rfl⟩ : ∃ d0, d = d0 + 1 := ⟨d - 1, by omega⟩
  have hd : 2 ≤ d := by omega
  refine E_in (f := (fun r : Int32 => ((some (.int r), (SHF, g)) : Out))) rfl (Nat.le_of_ble_eq_true rfl) ?_
  unfold gauges_rowsThatClose
  change Lt X d (some .int) k_9 _ 0 [some (.ref 42), some (.ref 2), some (.int v2), some (.int v3), none, none, none] [] g _
  refine L_ic (pc' := 1) rfl q1_0 rfl ?_
  refine L_s (pc' := 3) (L' := [some (.ref 42), some (.ref 2), some (.int v2), some (.int v3), some (.int 0), none, none]) rfl rfl ?_
  refine L_ic (pc' := 4) rfl q1_0 rfl ?_
  refine L_s (pc' := 6) (L' := [some (.ref 42), some (.ref 2), some (.int v2), some (.int v3), some (.int 0), some (.int 0), none]) rfl rfl ?_
  exact p_gauges_rowsThatClose_6 hd F F _ _ _ _
def gauges_lack (v2 : Int32) (v3 : Int32) (g : Sg) : Option (Int32) :=
  Option.bind (gauges_leastThatCloses v2 v3 g) (fun x1 => (if inb v2 150 = true then (some (if 0 < (x1 - (g 46 (Int32.toNatClampNeg v2))) then (x1 - (g 46 (Int32.toNatClampNeg v2))) else 0)) else none))
theorem e_gauges_lack {X : Xx} {d : Nat} (hd : 3 ≤ d) (v2 : Int32) (v3 : Int32) (g : Sg) : ∀ r, gauges_lack v2 v3 g = some r → EvM zft mtl X d 6 [.ref 42, .ref 2, .int v2, .int v3] (SHF, g) ((fun r : Int32 => ((some (.int r), (SHF, g)) : Out)) r) := by
  obtain ⟨d, rfl⟩ : ∃ d0, d = d0 + 1 := ⟨d - 1, by omega⟩
  have hd : 2 ≤ d := by omega
  refine E_in (f := (fun r : Int32 => ((some (.int r), (SHF, g)) : Out))) rfl (Nat.le_of_ble_eq_true rfl) ?_
  unfold gauges_lack
  change Lt X d (some .int) k_6 _ 0 [some (.ref 42), some (.ref 2), some (.int v2), some (.int v3)] [] g _
  refine L_ic (pc' := 1) rfl q1_0 rfl ?_
  refine L_s (pc' := 2) rfl rfl ?_
  refine L_s (pc' := 3) rfl rfl ?_
  refine L_s (pc' := 4) rfl rfl ?_
  refine L_s (pc' := 5) rfl rfl ?_
  refine L_ci (pc' := 8) (as := [.ref 42, .ref 2, .int v2, .int v3]) (rest := [.int 0]) rfl rfl (e_gauges_leastThatCloses (by omega) _ _ _) rfl fun x1 => ?_
  refine L_s (pc' := 9) rfl rfl ?_
  refine L_gf (pc' := 12) rfl fr_42_4 rfl ?_
  refine L_s (pc' := 13) rfl rfl ?_
  refine L_rI (pc' := 14) rfl sh_46 (by decide) rfl ?_
  refine L_s (pc' := 15) rfl rfl ?_
  refine L_s (pc' := 18) rfl rfl ?_
  exact L_ret rfl ret_i rfl
def gauges_rowsStolen_6 (F : Nat) : Nat → Int32 → Int32 → Int32 → Int32 → Sg → Option (Int32)
  | 0, _, _, _, _, _ => none
  | n + 1, v2, v3, v4, v5, g =>
    (if (g 42 0) ≤ v5 then
      (some v4)
    else
      Option.bind (gauges_counts F v5 v2 g) (fun x1 => (if x1 = 0 then
        (gauges_rowsStolen_6 F n v2 v3 v4 (v5 + 1) g)
      else
        Option.bind (gauges_lack v5 v3 g) (fun x2 => (if x2 ≤ 0 then
          (gauges_rowsStolen_6 F n v2 v3 v4 (v5 + 1) g)
        else
          (gauges_rowsStolen_6 F n v2 v3 (v4 + 1) (v5 + 1) g))))))
def gauges_rowsStolen (F : Nat) (v2 : Int32) (v3 : Int32) (g : Sg) : Option (Int32) :=
  (gauges_rowsStolen_6 F F v2 v3 0 0 g)
theorem p_gauges_rowsStolen_6 {X : Xx} {d : Nat} {g : Sg} (hd : 3 ≤ d) (F : Nat) : ∀ (n : Nat) (v2 : Int32) (v3 : Int32) (v4 : Int32) (v5 : Int32), Lt X d (some .int) k_10 (fun r : Int32 => ((some (.int r), (SHF, g)) : Out)) 6 [some (.ref 42), some (.ref 2), some (.int v2), some (.int v3), some (.int v4), some (.int v5)] [] g (gauges_rowsStolen_6 F n v2 v3 v4 v5 g) := by
  intro n
  induction n with
  | zero => intros; exact L_none
  | succ n ih =>
    intro v2 v3 v4 v5
    show Lt X d (some .int) k_10 (fun r : Int32 => ((some (.int r), (SHF, g)) : Out)) 6 [some (.ref 42), some (.ref 2), some (.int v2), some (.int v3), some (.int v4), some (.int v5)] [] g (
      (if (g 42 0) ≤ v5 then
        (some v4)
      else
        Option.bind (gauges_counts F v5 v2 g) (fun x1 => (if x1 = 0 then
          (gauges_rowsStolen_6 F n v2 v3 v4 (v5 + 1) g)
        else
          Option.bind (gauges_lack v5 v3 g) (fun x2 => (if x2 ≤ 0 then
            (gauges_rowsStolen_6 F n v2 v3 v4 (v5 + 1) g)
          else
            (gauges_rowsStolen_6 F n v2 v3 (v4 + 1) (v5 + 1) g)))))))
    refine L_s (pc' := 8) rfl rfl ?_
    refine L_s (pc' := 9) rfl rfl ?_
    refine L_gf (pc' := 12) rfl fi_42_0 rfl ?_
    refine L_br (t := 45) (n := 15) rfl rfl (fun _ => ?_) (fun _ => ?_)
    · refine L_s (pc' := 47) rfl rfl ?_
      exact L_ret rfl ret_i rfl
    · refine L_s (pc' := 16) rfl rfl ?_
      refine L_s (pc' := 18) rfl rfl ?_
      refine L_s (pc' := 19) rfl rfl ?_
      refine L_ci (pc' := 22) (as := [.ref 42, .int v5, .int v2]) (rest := []) rfl rfl (e_gauges_counts (by omega) F _ _ _) rfl fun x1 => ?_
      refine L_br (t := 39) (n := 25) rfl rfl (fun _ => ?_) (fun _ => ?_)
      · refine L_ii (pc' := 42) (L' := [some (.ref 42), some (.ref 2), some (.int v2), some (.int v3), some (.int v4), some (.int (v5 + 1))]) rfl rfl q1_1 rfl rfl rfl ?_
        refine L_s (pc' := 6) rfl rfl ?_
        exact ih _ _ _ _
      · refine L_s (pc' := 26) rfl rfl ?_
        refine L_s (pc' := 27) rfl rfl ?_
        refine L_s (pc' := 29) rfl rfl ?_
        refine L_s (pc' := 30) rfl rfl ?_
        refine L_ci (pc' := 33) (as := [.ref 42, .ref 2, .int v5, .int v3]) (rest := []) rfl rfl (e_gauges_lack (by omega) _ _ _) rfl fun x2 => ?_
        refine L_br (t := 39) (n := 36) rfl rfl (fun _ => ?_) (fun _ => ?_)
        · refine L_ii (pc' := 42) (L' := [some (.ref 42), some (.ref 2), some (.int v2), some (.int v3), some (.int v4), some (.int (v5 + 1))]) rfl rfl q1_1 rfl rfl rfl ?_
          refine L_s (pc' := 6) rfl rfl ?_
          exact ih _ _ _ _
        · refine L_ii (pc' := 39) (L' := [some (.ref 42), some (.ref 2), some (.int v2), some (.int v3), some (.int (v4 + 1)), some (.int v5)]) rfl rfl q1_1 rfl rfl rfl ?_
          refine L_ii (pc' := 42) (L' := [some (.ref 42), some (.ref 2), some (.int v2), some (.int v3), some (.int (v4 + 1)), some (.int (v5 + 1))]) rfl rfl q1_1 rfl rfl rfl ?_
          refine L_s (pc' := 6) rfl rfl ?_
          exact ih _ _ _ _
theorem e_gauges_rowsStolen {X : Xx} {d : Nat} (hd : 4 ≤ d) (F : Nat) (v2 : Int32) (v3 : Int32) (g : Sg) : ∀ r, gauges_rowsStolen F v2 v3 g = some r → EvM zft mtl X d 10 [.ref 42, .ref 2, .int v2, .int v3] (SHF, g) ((fun r : Int32 => ((some (.int r), (SHF, g)) : Out)) r) := by
  obtain ⟨d, rfl⟩ : ∃ d0, d = d0 + 1 := ⟨d - 1, by omega⟩
  have hd : 3 ≤ d := by omega
  refine E_in (f := (fun r : Int32 => ((some (.int r), (SHF, g)) : Out))) rfl (Nat.le_of_ble_eq_true rfl) ?_
  unfold gauges_rowsStolen
  change Lt X d (some .int) k_10 _ 0 [some (.ref 42), some (.ref 2), some (.int v2), some (.int v3), none, none] [] g _
  refine L_ic (pc' := 1) rfl q1_0 rfl ?_
  refine L_s (pc' := 3) (L' := [some (.ref 42), some (.ref 2), some (.int v2), some (.int v3), some (.int 0), none]) rfl rfl ?_
  refine L_ic (pc' := 4) rfl q1_0 rfl ?_
  refine L_s (pc' := 6) (L' := [some (.ref 42), some (.ref 2), some (.int v2), some (.int v3), some (.int 0), some (.int 0)]) rfl rfl ?_
  exact p_gauges_rowsStolen_6 hd F F _ _ _ _
def gauges_lacksAt (F : Nat) (v2 : Int32) (v3 : Int32) (v4 : Int32) (g : Sg) : Option (Int32) :=
  Option.bind (gauges_latestRow F v2 v3 g) (fun x1 => (if x1 = (-1) then
    (some 0)
  else
    Option.bind (gauges_lack x1 v4 g) (fun x2 => (if x2 ≤ 0 then
      (some 0)
    else
      (some 1)))))
theorem e_gauges_lacksAt {X : Xx} {d : Nat} (hd : 4 ≤ d) (F : Nat) (v2 : Int32) (v3 : Int32) (v4 : Int32) (g : Sg) : ∀ r, gauges_lacksAt F v2 v3 v4 g = some r → EvM zft mtl X d 7 [.ref 42, .ref 2, .int v2, .int v3, .int v4] (SHF, g) ((fun r : Int32 => ((some (.int r), (SHF, g)) : Out)) r) := by
  obtain ⟨d, rfl⟩ : ∃ d0, d = d0 + 1 := ⟨d - 1, by omega⟩
  have hd : 3 ≤ d := by omega
  refine E_in (f := (fun r : Int32 => ((some (.int r), (SHF, g)) : Out))) rfl (Nat.le_of_ble_eq_true rfl) ?_
  unfold gauges_lacksAt
  change Lt X d (some .boolean) k_7 _ 0 [some (.ref 42), some (.ref 2), some (.int v2), some (.int v3), some (.int v4), none] [] g _
  refine L_s (pc' := 1) rfl rfl ?_
  refine L_s (pc' := 2) rfl rfl ?_
  refine L_s (pc' := 3) rfl rfl ?_
  refine L_ci (pc' := 6) (as := [.ref 42, .int v2, .int v3]) (rest := []) rfl rfl (e_gauges_latestRow (by omega) F _ _ _) rfl fun x1 => ?_
  refine L_s (pc' := 8) (L' := [some (.ref 42), some (.ref 2), some (.int v2), some (.int v3), some (.int v4), some (.int x1)]) rfl rfl ?_
  refine L_s (pc' := 10) rfl rfl ?_
  refine L_ic (pc' := 11) rfl q1_m1 rfl ?_
  refine L_br (t := 30) (n := 14) rfl rfl (fun _ => ?_) (fun _ => ?_)
  · refine L_ic (pc' := 31) rfl q1_0 rfl ?_
    exact L_ret rfl (ret_z (by decide)) rfl
  · refine L_s (pc' := 15) rfl rfl ?_
    refine L_s (pc' := 16) rfl rfl ?_
    refine L_s (pc' := 18) rfl rfl ?_
    refine L_s (pc' := 20) rfl rfl ?_
    refine L_ci (pc' := 23) (as := [.ref 42, .ref 2, .int x1, .int v4]) (rest := []) rfl rfl (e_gauges_lack (by omega) _ _ _) rfl fun x2 => ?_
    refine L_br (t := 30) (n := 26) rfl rfl (fun _ => ?_) (fun _ => ?_)
    · refine L_ic (pc' := 31) rfl q1_0 rfl ?_
      exact L_ret rfl (ret_z (by decide)) rfl
    · refine L_ic (pc' := 27) rfl q1_1 rfl ?_
      refine L_s (pc' := 31) rfl rfl ?_
      exact L_ret rfl (ret_z (by decide)) rfl
def gauges_longestRun_94 (k_9 : Int32 → Int32 → Int32 → Int32 → Int32 → Int32 → Sg → Option (Int32)) (v2 : Int32) (v3 : Int32) (v4 : Int32) (v5 : Int32) (v6 : Int32) (v7 : Int32) (v8 : Int32) (v9 : Int32) (g : Sg) : Option (Int32) :=
  (if v5 < v9 then
    (k_9 v2 v3 v4 v9 v8 (v7 + 1) g)
  else
    (if ¬ v9 = v5 then
      (k_9 v2 v3 v4 v5 v6 (v7 + 1) g)
    else
      (if v6 ≤ v8 then
        (k_9 v2 v3 v4 v5 v6 (v7 + 1) g)
      else
        (k_9 v2 v3 v4 v9 v8 (v7 + 1) g))))
def gauges_longestRun_65 (F : Nat) (k_9 : Int32 → Int32 → Int32 → Int32 → Int32 → Int32 → Sg → Option (Int32)) : Nat → Int32 → Int32 → Int32 → Int32 → Int32 → Int32 → Int32 → Int32 → Sg → Option (Int32)
  | 0, _, _, _, _, _, _, _, _, _ => none
  | n + 1, v2, v3, v4, v5, v6, v7, v8, v9, g =>
    (if 150 ≤ v9 then
      (gauges_longestRun_94 k_9 v2 v3 v4 v5 v6 v7 v8 v9 g)
    else
      Option.bind (gauges_lacksAt F v2 (v8 + v9) v3 g) (fun x1 => (if x1 = 0 then
        (gauges_longestRun_94 k_9 v2 v3 v4 v5 v6 v7 v8 v9 g)
      else
        (gauges_longestRun_65 F k_9 n v2 v3 v4 v5 v6 v7 v8 (v9 + 1) g))))
def gauges_longestRun_9 (F : Nat) : Nat → Int32 → Int32 → Int32 → Int32 → Int32 → Int32 → Sg → Option (Int32)
  | 0, _, _, _, _, _, _, _ => none
  | n + 1, v2, v3, v4, v5, v6, v7, g =>
    (if (g 42 0) ≤ v7 then
      (if v4 = 0 then
        (some v5)
      else
        (some v6))
    else
      (if inb v7 150 = true then lt1 ((g 44 (Int32.toNatClampNeg v7)) : Int32) (fun x1 => Option.bind (gauges_counts F v7 v2 g) (fun x2 => (if x2 = 0 then
        (gauges_longestRun_9 F n v2 v3 v4 v5 v6 (v7 + 1) g)
      else
        Option.bind (gauges_lack v7 v3 g) (fun x3 => (if x3 ≤ 0 then
          (gauges_longestRun_9 F n v2 v3 v4 v5 v6 (v7 + 1) g)
        else
          Option.bind (gauges_lacksAt F v2 (x1 - 1) v3 g) (fun x4 => (if ¬ x4 = 0 then
            (gauges_longestRun_9 F n v2 v3 v4 v5 v6 (v7 + 1) g)
          else
            (gauges_longestRun_65 F (fun v2 v3 v4 v5 v6 v7 g0 => gauges_longestRun_9 F n v2 v3 v4 v5 v6 v7 g0) F v2 v3 v4 v5 v6 v7 x1 1 g)))))))) else none))
def gauges_longestRun (F : Nat) (v2 : Int32) (v3 : Int32) (v4 : Int32) (g : Sg) : Option (Int32) :=
  (gauges_longestRun_9 F F v2 v3 v4 0 (-1) 0 g)
theorem p_gauges_longestRun_94 {X : Xx} {d : Nat} {g : Sg} {k_9 : Int32 → Int32 → Int32 → Int32 → Int32 → Int32 → Sg → Option (Int32)} (hd : 4 ≤ d) (hk_9 : ∀ (v2 : Int32) (v3 : Int32) (v4 : Int32) (v5 : Int32) (v6 : Int32) (v7 : Int32), Lt X d (some .int) k_12 (fun r : Int32 => ((some (.int r), (SHF, g)) : Out)) 9 [some (.ref 42), some (.ref 2), some (.int v2), some (.int v3), some (.int v4), some (.int v5), some (.int v6), some (.int v7), none, none] [] g (k_9 v2 v3 v4 v5 v6 v7 g)) (v2 : Int32) (v3 : Int32) (v4 : Int32) (v5 : Int32) (v6 : Int32) (v7 : Int32) (v8 : Int32) (v9 : Int32) : Lt X d (some .int) k_12 (fun r : Int32 => ((some (.int r), (SHF, g)) : Out)) 94 [some (.ref 42), some (.ref 2), some (.int v2), some (.int v3), some (.int v4), some (.int v5), some (.int v6), some (.int v7), some (.int v8), some (.int v9)] [] g (gauges_longestRun_94 k_9 v2 v3 v4 v5 v6 v7 v8 v9 g) := by
  unfold gauges_longestRun_94
  refine L_s (pc' := 96) rfl rfl ?_
  refine L_s (pc' := 98) rfl rfl ?_
  refine L_br (t := 115) (n := 101) rfl rfl (fun _ => ?_) (fun _ => ?_)
  · refine L_s (pc' := 117) rfl rfl ?_
    refine L_s (pc' := 119) (L' := [some (.ref 42), some (.ref 2), some (.int v2), some (.int v3), some (.int v4), some (.int v9), some (.int v6), some (.int v7), some (.int v8), some (.int v9)]) rfl rfl ?_
    refine L_s (pc' := 121) rfl rfl ?_
    refine L_s (pc' := 123) (L' := [some (.ref 42), some (.ref 2), some (.int v2), some (.int v3), some (.int v4), some (.int v9), some (.int v8), some (.int v7), some (.int v8), some (.int v9)]) rfl rfl ?_
    refine L_ii (pc' := 126) (L' := [some (.ref 42), some (.ref 2), some (.int v2), some (.int v3), some (.int v4), some (.int v9), some (.int v8), some (.int (v7 + 1)), some (.int v8), some (.int v9)]) rfl rfl q1_1 rfl rfl rfl ?_
    refine L_s (pc' := 9) rfl rfl ?_
    refine L_wk (L' := [some (.ref 42), some (.ref 2), some (.int v2), some (.int v3), some (.int v4), some (.int v9), some (.int v8), some (.int (v7 + 1)), none, none]) (wk_s (wk_s (wk_s (wk_s (wk_s (wk_s (wk_s (wk_s (wk_n (wk_n wk_nil)))))))))) ?_
    exact hk_9 _ _ _ _ _ _
  · refine L_s (pc' := 103) rfl rfl ?_
    refine L_s (pc' := 105) rfl rfl ?_
    refine L_br (t := 123) (n := 108) rfl rfl (fun _ => ?_) (fun _ => ?_)
    · refine L_ii (pc' := 126) (L' := [some (.ref 42), some (.ref 2), some (.int v2), some (.int v3), some (.int v4), some (.int v5), some (.int v6), some (.int (v7 + 1)), some (.int v8), some (.int v9)]) rfl rfl q1_1 rfl rfl rfl ?_
      refine L_s (pc' := 9) rfl rfl ?_
      refine L_wk (L' := [some (.ref 42), some (.ref 2), some (.int v2), some (.int v3), some (.int v4), some (.int v5), some (.int v6), some (.int (v7 + 1)), none, none]) (wk_s (wk_s (wk_s (wk_s (wk_s (wk_s (wk_s (wk_s (wk_n (wk_n wk_nil)))))))))) ?_
      exact hk_9 _ _ _ _ _ _
    · refine L_s (pc' := 110) rfl rfl ?_
      refine L_s (pc' := 112) rfl rfl ?_
      refine L_br (t := 123) (n := 115) rfl rfl (fun _ => ?_) (fun _ => ?_)
      · refine L_ii (pc' := 126) (L' := [some (.ref 42), some (.ref 2), some (.int v2), some (.int v3), some (.int v4), some (.int v5), some (.int v6), some (.int (v7 + 1)), some (.int v8), some (.int v9)]) rfl rfl q1_1 rfl rfl rfl ?_
        refine L_s (pc' := 9) rfl rfl ?_
        refine L_wk (L' := [some (.ref 42), some (.ref 2), some (.int v2), some (.int v3), some (.int v4), some (.int v5), some (.int v6), some (.int (v7 + 1)), none, none]) (wk_s (wk_s (wk_s (wk_s (wk_s (wk_s (wk_s (wk_s (wk_n (wk_n wk_nil)))))))))) ?_
        exact hk_9 _ _ _ _ _ _
      · refine L_s (pc' := 117) rfl rfl ?_
        refine L_s (pc' := 119) (L' := [some (.ref 42), some (.ref 2), some (.int v2), some (.int v3), some (.int v4), some (.int v9), some (.int v6), some (.int v7), some (.int v8), some (.int v9)]) rfl rfl ?_
        refine L_s (pc' := 121) rfl rfl ?_
        refine L_s (pc' := 123) (L' := [some (.ref 42), some (.ref 2), some (.int v2), some (.int v3), some (.int v4), some (.int v9), some (.int v8), some (.int v7), some (.int v8), some (.int v9)]) rfl rfl ?_
        refine L_ii (pc' := 126) (L' := [some (.ref 42), some (.ref 2), some (.int v2), some (.int v3), some (.int v4), some (.int v9), some (.int v8), some (.int (v7 + 1)), some (.int v8), some (.int v9)]) rfl rfl q1_1 rfl rfl rfl ?_
        refine L_s (pc' := 9) rfl rfl ?_
        refine L_wk (L' := [some (.ref 42), some (.ref 2), some (.int v2), some (.int v3), some (.int v4), some (.int v9), some (.int v8), some (.int (v7 + 1)), none, none]) (wk_s (wk_s (wk_s (wk_s (wk_s (wk_s (wk_s (wk_s (wk_n (wk_n wk_nil)))))))))) ?_
        exact hk_9 _ _ _ _ _ _
theorem p_gauges_longestRun_65 {X : Xx} {d : Nat} {g : Sg} {k_9 : Int32 → Int32 → Int32 → Int32 → Int32 → Int32 → Sg → Option (Int32)} (hd : 4 ≤ d) (hk_9 : ∀ (v2 : Int32) (v3 : Int32) (v4 : Int32) (v5 : Int32) (v6 : Int32) (v7 : Int32), Lt X d (some .int) k_12 (fun r : Int32 => ((some (.int r), (SHF, g)) : Out)) 9 [some (.ref 42), some (.ref 2), some (.int v2), some (.int v3), some (.int v4), some (.int v5), some (.int v6), some (.int v7), none, none] [] g (k_9 v2 v3 v4 v5 v6 v7 g)) (F : Nat) : ∀ (n : Nat) (v2 : Int32) (v3 : Int32) (v4 : Int32) (v5 : Int32) (v6 : Int32) (v7 : Int32) (v8 : Int32) (v9 : Int32), Lt X d (some .int) k_12 (fun r : Int32 => ((some (.int r), (SHF, g)) : Out)) 65 [some (.ref 42), some (.ref 2), some (.int v2), some (.int v3), some (.int v4), some (.int v5), some (.int v6), some (.int v7), some (.int v8), some (.int v9)] [] g (gauges_longestRun_65 F k_9 n v2 v3 v4 v5 v6 v7 v8 v9 g) := by
  intro n
  induction n with
  | zero => intros; exact L_none
  | succ n ih =>
    intro v2 v3 v4 v5 v6 v7 v8 v9
    show Lt X d (some .int) k_12 (fun r : Int32 => ((some (.int r), (SHF, g)) : Out)) 65 [some (.ref 42), some (.ref 2), some (.int v2), some (.int v3), some (.int v4), some (.int v5), some (.int v6), some (.int v7), some (.int v8), some (.int v9)] [] g (
      (if 150 ≤ v9 then
        (gauges_longestRun_94 k_9 v2 v3 v4 v5 v6 v7 v8 v9 g)
      else
        Option.bind (gauges_lacksAt F v2 (v8 + v9) v3 g) (fun x1 => (if x1 = 0 then
          (gauges_longestRun_94 k_9 v2 v3 v4 v5 v6 v7 v8 v9 g)
        else
          (gauges_longestRun_65 F k_9 n v2 v3 v4 v5 v6 v7 v8 (v9 + 1) g)))))
    refine L_s (pc' := 67) rfl rfl ?_
    refine L_si (pc' := 70) rfl q3_150 rfl ?_
    refine L_br (t := 94) (n := 73) rfl rfl (fun _ => ?_) (fun _ => ?_)
    · exact p_gauges_longestRun_94 hd hk_9 _ _ _ _ _ _ _ _
    · refine L_s (pc' := 74) rfl rfl ?_
      refine L_s (pc' := 75) rfl rfl ?_
      refine L_s (pc' := 76) rfl rfl ?_
      refine L_s (pc' := 78) rfl rfl ?_
      refine L_s (pc' := 80) rfl rfl ?_
      refine L_s (pc' := 81) rfl rfl ?_
      refine L_s (pc' := 82) rfl rfl ?_
      refine L_ci (pc' := 85) (as := [.ref 42, .ref 2, .int v2, .int (v8 + v9), .int v3]) (rest := []) rfl rfl (e_gauges_lacksAt (by omega) F _ _ _ _) rfl fun x1 => ?_
      refine L_br (t := 94) (n := 88) rfl rfl (fun _ => ?_) (fun _ => ?_)
      · exact p_gauges_longestRun_94 hd hk_9 _ _ _ _ _ _ _ _
      · refine L_ii (pc' := 91) (L' := [some (.ref 42), some (.ref 2), some (.int v2), some (.int v3), some (.int v4), some (.int v5), some (.int v6), some (.int v7), some (.int v8), some (.int (v9 + 1))]) rfl rfl q1_1 rfl rfl rfl ?_
        refine L_s (pc' := 65) rfl rfl ?_
        exact ih _ _ _ _ _ _ _ _
theorem p_gauges_longestRun_9 {X : Xx} {d : Nat} {g : Sg} (hd : 4 ≤ d) (F : Nat) : ∀ (n : Nat) (v2 : Int32) (v3 : Int32) (v4 : Int32) (v5 : Int32) (v6 : Int32) (v7 : Int32), Lt X d (some .int) k_12 (fun r : Int32 => ((some (.int r), (SHF, g)) : Out)) 9 [some (.ref 42), some (.ref 2), some (.int v2), some (.int v3), some (.int v4), some (.int v5), some (.int v6), some (.int v7), none, none] [] g (gauges_longestRun_9 F n v2 v3 v4 v5 v6 v7 g) := by
  intro n
  induction n with
  | zero => intros; exact L_none
  | succ n ih =>
    intro v2 v3 v4 v5 v6 v7
    show Lt X d (some .int) k_12 (fun r : Int32 => ((some (.int r), (SHF, g)) : Out)) 9 [some (.ref 42), some (.ref 2), some (.int v2), some (.int v3), some (.int v4), some (.int v5), some (.int v6), some (.int v7), none, none] [] g (
      (if (g 42 0) ≤ v7 then
        (if v4 = 0 then
          (some v5)
        else
          (some v6))
      else
        (if inb v7 150 = true then lt1 ((g 44 (Int32.toNatClampNeg v7)) : Int32) (fun x1 => Option.bind (gauges_counts F v7 v2 g) (fun x2 => (if x2 = 0 then
          (gauges_longestRun_9 F n v2 v3 v4 v5 v6 (v7 + 1) g)
        else
          Option.bind (gauges_lack v7 v3 g) (fun x3 => (if x3 ≤ 0 then
            (gauges_longestRun_9 F n v2 v3 v4 v5 v6 (v7 + 1) g)
          else
            Option.bind (gauges_lacksAt F v2 (x1 - 1) v3 g) (fun x4 => (if ¬ x4 = 0 then
              (gauges_longestRun_9 F n v2 v3 v4 v5 v6 (v7 + 1) g)
            else
              (gauges_longestRun_65 F (fun v2 v3 v4 v5 v6 v7 g0 => gauges_longestRun_9 F n v2 v3 v4 v5 v6 v7 g0) F v2 v3 v4 v5 v6 v7 x1 1 g)))))))) else none)))
    refine L_s (pc' := 11) rfl rfl ?_
    refine L_s (pc' := 12) rfl rfl ?_
    refine L_gf (pc' := 15) rfl fi_42_0 rfl ?_
    refine L_br (t := 129) (n := 18) rfl rfl (fun _ => ?_) (fun _ => ?_)
    · refine L_s (pc' := 131) rfl rfl ?_
      refine L_br (t := 139) (n := 134) rfl rfl (fun _ => ?_) (fun _ => ?_)
      · refine L_s (pc' := 141) rfl rfl ?_
        exact L_ret rfl ret_i rfl
      · refine L_s (pc' := 136) rfl rfl ?_
        refine L_s (pc' := 141) rfl rfl ?_
        exact L_ret rfl ret_i rfl
    · refine L_s (pc' := 19) rfl rfl ?_
      refine L_gf (pc' := 22) rfl fr_42_2 rfl ?_
      refine L_s (pc' := 24) rfl rfl ?_
      refine L_rI (pc' := 25) rfl sh_44 (by decide) rfl ?_
      refine L_li fun x1 _ => ?_
      refine L_s (pc' := 27) (L' := [some (.ref 42), some (.ref 2), some (.int v2), some (.int v3), some (.int v4), some (.int v5), some (.int v6), some (.int v7), some (.int x1), none]) rfl rfl ?_
      refine L_s (pc' := 28) rfl rfl ?_
      refine L_s (pc' := 30) rfl rfl ?_
      refine L_s (pc' := 31) rfl rfl ?_
      refine L_ci (pc' := 34) (as := [.ref 42, .int v7, .int v2]) (rest := []) rfl rfl (e_gauges_counts (by omega) F _ _ _) rfl fun x2 => ?_
      refine L_br (t := 123) (n := 37) rfl rfl (fun _ => ?_) (fun _ => ?_)
      · refine L_ii (pc' := 126) (L' := [some (.ref 42), some (.ref 2), some (.int v2), some (.int v3), some (.int v4), some (.int v5), some (.int v6), some (.int (v7 + 1)), some (.int x1), none]) rfl rfl q1_1 rfl rfl rfl ?_
        refine L_s (pc' := 9) rfl rfl ?_
        refine L_wk (L' := [some (.ref 42), some (.ref 2), some (.int v2), some (.int v3), some (.int v4), some (.int v5), some (.int v6), some (.int (v7 + 1)), none, none]) (wk_s (wk_s (wk_s (wk_s (wk_s (wk_s (wk_s (wk_s (wk_n (wk_s wk_nil)))))))))) ?_
        exact ih _ _ _ _ _ _
      · refine L_s (pc' := 38) rfl rfl ?_
        refine L_s (pc' := 39) rfl rfl ?_
        refine L_s (pc' := 41) rfl rfl ?_
        refine L_s (pc' := 42) rfl rfl ?_
        refine L_ci (pc' := 45) (as := [.ref 42, .ref 2, .int v7, .int v3]) (rest := []) rfl rfl (e_gauges_lack (by omega) _ _ _) rfl fun x3 => ?_
        refine L_br (t := 123) (n := 48) rfl rfl (fun _ => ?_) (fun _ => ?_)
        · refine L_ii (pc' := 126) (L' := [some (.ref 42), some (.ref 2), some (.int v2), some (.int v3), some (.int v4), some (.int v5), some (.int v6), some (.int (v7 + 1)), some (.int x1), none]) rfl rfl q1_1 rfl rfl rfl ?_
          refine L_s (pc' := 9) rfl rfl ?_
          refine L_wk (L' := [some (.ref 42), some (.ref 2), some (.int v2), some (.int v3), some (.int v4), some (.int v5), some (.int v6), some (.int (v7 + 1)), none, none]) (wk_s (wk_s (wk_s (wk_s (wk_s (wk_s (wk_s (wk_s (wk_n (wk_s wk_nil)))))))))) ?_
          exact ih _ _ _ _ _ _
        · refine L_s (pc' := 49) rfl rfl ?_
          refine L_s (pc' := 50) rfl rfl ?_
          refine L_s (pc' := 51) rfl rfl ?_
          refine L_s (pc' := 53) rfl rfl ?_
          refine L_ic (pc' := 54) rfl q1_1 rfl ?_
          refine L_s (pc' := 55) rfl rfl ?_
          refine L_s (pc' := 56) rfl rfl ?_
          refine L_ci (pc' := 59) (as := [.ref 42, .ref 2, .int v2, .int (x1 - 1), .int v3]) (rest := []) rfl rfl (e_gauges_lacksAt (by omega) F _ _ _ _) rfl fun x4 => ?_
          refine L_br (t := 123) (n := 62) rfl rfl (fun _ => ?_) (fun _ => ?_)
          · refine L_ii (pc' := 126) (L' := [some (.ref 42), some (.ref 2), some (.int v2), some (.int v3), some (.int v4), some (.int v5), some (.int v6), some (.int (v7 + 1)), some (.int x1), none]) rfl rfl q1_1 rfl rfl rfl ?_
            refine L_s (pc' := 9) rfl rfl ?_
            refine L_wk (L' := [some (.ref 42), some (.ref 2), some (.int v2), some (.int v3), some (.int v4), some (.int v5), some (.int v6), some (.int (v7 + 1)), none, none]) (wk_s (wk_s (wk_s (wk_s (wk_s (wk_s (wk_s (wk_s (wk_n (wk_s wk_nil)))))))))) ?_
            exact ih _ _ _ _ _ _
          · refine L_ic (pc' := 63) rfl q1_1 rfl ?_
            refine L_s (pc' := 65) (L' := [some (.ref 42), some (.ref 2), some (.int v2), some (.int v3), some (.int v4), some (.int v5), some (.int v6), some (.int v7), some (.int x1), some (.int 1)]) rfl rfl ?_
            exact p_gauges_longestRun_65 hd (fun _ _ _ _ _ _ => ih _ _ _ _ _ _) F F _ _ _ _ _ _ _ _
theorem e_gauges_longestRun {X : Xx} {d : Nat} (hd : 5 ≤ d) (F : Nat) (v2 : Int32) (v3 : Int32) (v4 : Int32) (g : Sg) : ∀ r, gauges_longestRun F v2 v3 v4 g = some r → EvM zft mtl X d 12 [.ref 42, .ref 2, .int v2, .int v3, .int v4] (SHF, g) ((fun r : Int32 => ((some (.int r), (SHF, g)) : Out)) r) := by
  obtain ⟨d, rfl⟩ : ∃ d0, d = d0 + 1 := ⟨d - 1, by omega⟩
  have hd : 4 ≤ d := by omega
  refine E_in (f := (fun r : Int32 => ((some (.int r), (SHF, g)) : Out))) rfl (Nat.le_of_ble_eq_true rfl) ?_
  unfold gauges_longestRun
  change Lt X d (some .int) k_12 _ 0 [some (.ref 42), some (.ref 2), some (.int v2), some (.int v3), some (.int v4), none, none, none, none, none] [] g _
  refine L_ic (pc' := 1) rfl q1_0 rfl ?_
  refine L_s (pc' := 3) (L' := [some (.ref 42), some (.ref 2), some (.int v2), some (.int v3), some (.int v4), some (.int 0), none, none, none, none]) rfl rfl ?_
  refine L_ic (pc' := 4) rfl q1_m1 rfl ?_
  refine L_s (pc' := 6) (L' := [some (.ref 42), some (.ref 2), some (.int v2), some (.int v3), some (.int v4), some (.int 0), some (.int (-1)), none, none, none]) rfl rfl ?_
  refine L_ic (pc' := 7) rfl q1_0 rfl ?_
  refine L_s (pc' := 9) (L' := [some (.ref 42), some (.ref 2), some (.int v2), some (.int v3), some (.int v4), some (.int 0), some (.int (-1)), some (.int 0), none, none]) rfl rfl ?_
  exact p_gauges_longestRun_9 hd F F _ _ _ _ _ _
def gauges_litresLacking_6 (F : Nat) : Nat → Int32 → Int32 → Int32 → Int32 → Sg → Option (Int32)
  | 0, _, _, _, _, _ => none
  | n + 1, v2, v3, v4, v5, g =>
    (if (g 42 0) ≤ v5 then
      (some v4)
    else
      Option.bind (gauges_counts F v5 v2 g) (fun x1 => (if x1 = 0 then
        (gauges_litresLacking_6 F n v2 v3 v4 (v5 + 1) g)
      else
        Option.bind (gauges_lack v5 v3 g) (fun x2 => lt1 ((v4 + x2) : Int32) (fun x3 => (gauges_litresLacking_6 F n v2 v3 x3 (v5 + 1) g))))))
def gauges_litresLacking (F : Nat) (v2 : Int32) (v3 : Int32) (g : Sg) : Option (Int32) :=
  (gauges_litresLacking_6 F F v2 v3 0 0 g)
theorem p_gauges_litresLacking_6 {X : Xx} {d : Nat} {g : Sg} (hd : 3 ≤ d) (F : Nat) : ∀ (n : Nat) (v2 : Int32) (v3 : Int32) (v4 : Int32) (v5 : Int32), Lt X d (some .int) k_11 (fun r : Int32 => ((some (.int r), (SHF, g)) : Out)) 6 [some (.ref 42), some (.ref 2), some (.int v2), some (.int v3), some (.int v4), some (.int v5)] [] g (gauges_litresLacking_6 F n v2 v3 v4 v5 g) := by
  intro n
  induction n with
  | zero => intros; exact L_none
  | succ n ih =>
    intro v2 v3 v4 v5
    show Lt X d (some .int) k_11 (fun r : Int32 => ((some (.int r), (SHF, g)) : Out)) 6 [some (.ref 42), some (.ref 2), some (.int v2), some (.int v3), some (.int v4), some (.int v5)] [] g (
      (if (g 42 0) ≤ v5 then
        (some v4)
      else
        Option.bind (gauges_counts F v5 v2 g) (fun x1 => (if x1 = 0 then
          (gauges_litresLacking_6 F n v2 v3 v4 (v5 + 1) g)
        else
          Option.bind (gauges_lack v5 v3 g) (fun x2 => lt1 ((v4 + x2) : Int32) (fun x3 => (gauges_litresLacking_6 F n v2 v3 x3 (v5 + 1) g)))))))
    refine L_s (pc' := 8) rfl rfl ?_
    refine L_s (pc' := 9) rfl rfl ?_
    refine L_gf (pc' := 12) rfl fi_42_0 rfl ?_
    refine L_br (t := 44) (n := 15) rfl rfl (fun _ => ?_) (fun _ => ?_)
    · refine L_s (pc' := 46) rfl rfl ?_
      exact L_ret rfl ret_i rfl
    · refine L_s (pc' := 16) rfl rfl ?_
      refine L_s (pc' := 18) rfl rfl ?_
      refine L_s (pc' := 19) rfl rfl ?_
      refine L_ci (pc' := 22) (as := [.ref 42, .int v5, .int v2]) (rest := []) rfl rfl (e_gauges_counts (by omega) F _ _ _) rfl fun x1 => ?_
      refine L_br (t := 38) (n := 25) rfl rfl (fun _ => ?_) (fun _ => ?_)
      · refine L_ii (pc' := 41) (L' := [some (.ref 42), some (.ref 2), some (.int v2), some (.int v3), some (.int v4), some (.int (v5 + 1))]) rfl rfl q1_1 rfl rfl rfl ?_
        refine L_s (pc' := 6) rfl rfl ?_
        exact ih _ _ _ _
      · refine L_s (pc' := 27) rfl rfl ?_
        refine L_s (pc' := 28) rfl rfl ?_
        refine L_s (pc' := 29) rfl rfl ?_
        refine L_s (pc' := 31) rfl rfl ?_
        refine L_s (pc' := 32) rfl rfl ?_
        refine L_ci (pc' := 35) (as := [.ref 42, .ref 2, .int v5, .int v3]) (rest := [.int v4]) rfl rfl (e_gauges_lack (by omega) _ _ _) rfl fun x2 => ?_
        refine L_s (pc' := 36) rfl rfl ?_
        refine L_li fun x3 _ => ?_
        refine L_s (pc' := 38) (L' := [some (.ref 42), some (.ref 2), some (.int v2), some (.int v3), some (.int x3), some (.int v5)]) rfl rfl ?_
        refine L_ii (pc' := 41) (L' := [some (.ref 42), some (.ref 2), some (.int v2), some (.int v3), some (.int x3), some (.int (v5 + 1))]) rfl rfl q1_1 rfl rfl rfl ?_
        refine L_s (pc' := 6) rfl rfl ?_
        exact ih _ _ _ _
theorem e_gauges_litresLacking {X : Xx} {d : Nat} (hd : 4 ≤ d) (F : Nat) (v2 : Int32) (v3 : Int32) (g : Sg) : ∀ r, gauges_litresLacking F v2 v3 g = some r → EvM zft mtl X d 11 [.ref 42, .ref 2, .int v2, .int v3] (SHF, g) ((fun r : Int32 => ((some (.int r), (SHF, g)) : Out)) r) := by
  obtain ⟨d, rfl⟩ : ∃ d0, d = d0 + 1 := ⟨d - 1, by omega⟩
  have hd : 3 ≤ d := by omega
  refine E_in (f := (fun r : Int32 => ((some (.int r), (SHF, g)) : Out))) rfl (Nat.le_of_ble_eq_true rfl) ?_
  unfold gauges_litresLacking
  change Lt X d (some .int) k_11 _ 0 [some (.ref 42), some (.ref 2), some (.int v2), some (.int v3), none, none] [] g _
  refine L_ic (pc' := 1) rfl q1_0 rfl ?_
  refine L_s (pc' := 3) (L' := [some (.ref 42), some (.ref 2), some (.int v2), some (.int v3), some (.int 0), none]) rfl rfl ?_
  refine L_ic (pc' := 4) rfl q1_0 rfl ?_
  refine L_s (pc' := 6) (L' := [some (.ref 42), some (.ref 2), some (.int v2), some (.int v3), some (.int 0), some (.int 0)]) rfl rfl ?_
  exact p_gauges_litresLacking_6 hd F F _ _ _ _
def x_stolen (F : Nat) (v1 : Int32) (v2 : Int32) (v3 : Int32) (g : Sg) : Option (Int32) :=
  Option.bind (net_hasChannel v1 g) (fun x1 => (if x1 = 0 then
    (some (-1))
  else
    Option.bind (x_within v2 0 999 g) (fun x2 => (if ¬ x2 = 0 then
      (if v3 = 0 then
        Option.bind (gauges_rowsThatCount F v1 g) (fun x3 => (some x3))
      else (if v3 = 1 then
        Option.bind (gauges_rowsThatClose F v1 v2 g) (fun x5 => (some x5))
      else (if v3 = 2 then
        Option.bind (gauges_rowsStolen F v1 v2 g) (fun x7 => (some x7))
      else (if v3 = 3 then
        Option.bind (gauges_longestRun F v1 v2 0 g) (fun x9 => (some x9))
      else (if v3 = 4 then
        Option.bind (gauges_longestRun F v1 v2 1 g) (fun x11 => (some x11))
      else (if v3 = 5 then
        Option.bind (gauges_litresLacking F v1 v2 g) (fun x13 => (some x13))
      else (some (-1))))))))
    else
      (some (-1))))))
theorem e_x_stolen {X : Xx} {d : Nat} (hd : 6 ≤ d) (F : Nat) (v1 : Int32) (v2 : Int32) (v3 : Int32) (g : Sg) : ∀ r, x_stolen F v1 v2 v3 g = some r → EvM zft mtl X d 135 [.ref 0, .int v1, .int v2, .int v3] (SHF, g) ((fun r : Int32 => ((some (.int r), (SHF, g)) : Out)) r) := by
  obtain ⟨d, rfl⟩ : ∃ d0, d = d0 + 1 := ⟨d - 1, by omega⟩
  have hd : 5 ≤ d := by omega
  refine E_in (f := (fun r : Int32 => ((some (.int r), (SHF, g)) : Out))) rfl (Nat.le_of_ble_eq_true rfl) ?_
  unfold x_stolen
  change Lt X d (some .int) k_135 _ 0 [some (.ref 0), some (.int v1), some (.int v2), some (.int v3), none] [] g _
  refine L_s (pc' := 1) rfl rfl ?_
  refine L_gf (pc' := 4) rfl fr_0_0 rfl ?_
  refine L_gf (pc' := 7) rfl fr_1_0 rfl ?_
  refine L_s (pc' := 9) (L' := [some (.ref 0), some (.int v1), some (.int v2), some (.int v3), some (.ref 2)]) rfl rfl ?_
  refine L_s (pc' := 11) rfl rfl ?_
  refine L_s (pc' := 12) rfl rfl ?_
  refine L_ci (pc' := 15) (as := [.ref 2, .int v1]) (rest := []) rfl rfl (e_net_hasChannel (by omega) _ _) rfl fun x1 => ?_
  refine L_br (t := 29) (n := 18) rfl rfl (fun _ => ?_) (fun _ => ?_)
  · refine L_ic (pc' := 30) rfl q1_m1 rfl ?_
    exact L_ret rfl ret_i rfl
  · refine L_s (pc' := 19) rfl rfl ?_
    refine L_ic (pc' := 20) rfl q1_0 rfl ?_
    refine L_si (pc' := 23) rfl q3_999 rfl ?_
    refine L_ci (pc' := 26) (as := [.int v2, .int 0, .int 999]) (rest := []) rfl rfl (e_x_within (by omega) _ _ _ _) rfl fun x2 => ?_
    refine L_br (t := 31) (n := 29) rfl rfl (fun _ => ?_) (fun _ => ?_)
    · refine L_s (pc' := 32) rfl rfl ?_
      refine L_if (fun h4 => ?_) (fun h4 => ?_)
      · subst h4
        refine L_ts (t := 72) (off := 40) rfl (by decide) rfl ?_
        refine L_s (pc' := 73) rfl rfl ?_
        refine L_gf (pc' := 76) rfl fr_0_0 rfl ?_
        refine L_gf (pc' := 79) rfl fr_1_3 rfl ?_
        refine L_s (pc' := 80) rfl rfl ?_
        refine L_ci (pc' := 83) (as := [.ref 42, .int v1]) (rest := []) rfl rfl (e_gauges_rowsThatCount (by omega) F _ _) rfl fun x3 => ?_
        exact L_ret rfl ret_i rfl
      refine L_if (fun h6 => ?_) (fun h6 => ?_)
      · subst h6
        refine L_ts (t := 84) (off := 52) rfl (by decide) rfl ?_
        refine L_s (pc' := 85) rfl rfl ?_
        refine L_gf (pc' := 88) rfl fr_0_0 rfl ?_
        refine L_gf (pc' := 91) rfl fr_1_3 rfl ?_
        refine L_s (pc' := 93) rfl rfl ?_
        refine L_s (pc' := 94) rfl rfl ?_
        refine L_s (pc' := 95) rfl rfl ?_
        refine L_ci (pc' := 98) (as := [.ref 42, .ref 2, .int v1, .int v2]) (rest := []) rfl rfl (e_gauges_rowsThatClose (by omega) F _ _ _) rfl fun x5 => ?_
        exact L_ret rfl ret_i rfl
      refine L_if (fun h8 => ?_) (fun h8 => ?_)
      · subst h8
        refine L_ts (t := 99) (off := 67) rfl (by decide) rfl ?_
        refine L_s (pc' := 100) rfl rfl ?_
        refine L_gf (pc' := 103) rfl fr_0_0 rfl ?_
        refine L_gf (pc' := 106) rfl fr_1_3 rfl ?_
        refine L_s (pc' := 108) rfl rfl ?_
        refine L_s (pc' := 109) rfl rfl ?_
        refine L_s (pc' := 110) rfl rfl ?_
        refine L_ci (pc' := 113) (as := [.ref 42, .ref 2, .int v1, .int v2]) (rest := []) rfl rfl (e_gauges_rowsStolen (by omega) F _ _ _) rfl fun x7 => ?_
        exact L_ret rfl ret_i rfl
      refine L_if (fun h10 => ?_) (fun h10 => ?_)
      · subst h10
        refine L_ts (t := 114) (off := 82) rfl (by decide) rfl ?_
        refine L_s (pc' := 115) rfl rfl ?_
        refine L_gf (pc' := 118) rfl fr_0_0 rfl ?_
        refine L_gf (pc' := 121) rfl fr_1_3 rfl ?_
        refine L_s (pc' := 123) rfl rfl ?_
        refine L_s (pc' := 124) rfl rfl ?_
        refine L_s (pc' := 125) rfl rfl ?_
        refine L_ic (pc' := 126) rfl q1_0 rfl ?_
        refine L_ci (pc' := 129) (as := [.ref 42, .ref 2, .int v1, .int v2, .int 0]) (rest := []) rfl rfl (e_gauges_longestRun (by omega) F _ _ _ _) rfl fun x9 => ?_
        exact L_ret rfl ret_i rfl
      refine L_if (fun h12 => ?_) (fun h12 => ?_)
      · subst h12
        refine L_ts (t := 130) (off := 98) rfl (by decide) rfl ?_
        refine L_s (pc' := 131) rfl rfl ?_
        refine L_gf (pc' := 134) rfl fr_0_0 rfl ?_
        refine L_gf (pc' := 137) rfl fr_1_3 rfl ?_
        refine L_s (pc' := 139) rfl rfl ?_
        refine L_s (pc' := 140) rfl rfl ?_
        refine L_s (pc' := 141) rfl rfl ?_
        refine L_ic (pc' := 142) rfl q1_1 rfl ?_
        refine L_ci (pc' := 145) (as := [.ref 42, .ref 2, .int v1, .int v2, .int 1]) (rest := []) rfl rfl (e_gauges_longestRun (by omega) F _ _ _ _) rfl fun x11 => ?_
        exact L_ret rfl ret_i rfl
      refine L_if (fun h14 => ?_) (fun h14 => ?_)
      · subst h14
        refine L_ts (t := 146) (off := 114) rfl (by decide) rfl ?_
        refine L_s (pc' := 147) rfl rfl ?_
        refine L_gf (pc' := 150) rfl fr_0_0 rfl ?_
        refine L_gf (pc' := 153) rfl fr_1_3 rfl ?_
        refine L_s (pc' := 155) rfl rfl ?_
        refine L_s (pc' := 156) rfl rfl ?_
        refine L_s (pc' := 157) rfl rfl ?_
        refine L_ci (pc' := 160) (as := [.ref 42, .ref 2, .int v1, .int v2]) (rest := []) rfl rfl (e_gauges_litresLacking (by omega) F _ _ _) rfl fun x13 => ?_
        exact L_ret rfl ret_i rfl
      refine L_ts (off := 129) (t := 161) rfl (twf_out (n := 6) (by decide) (by decide) (fun j hj => by
        match j, hj with
        | 0, _ => exact fun e => h4 (e.trans (by decide))
        | 1, _ => exact fun e => h6 (e.trans (by decide))
        | 2, _ => exact fun e => h8 (e.trans (by decide))
        | 3, _ => exact fun e => h10 (e.trans (by decide))
        | 4, _ => exact fun e => h12 (e.trans (by decide))
        | 5, _ => exact fun e => h14 (e.trans (by decide))
        | j + 6, hj => exact absurd hj (by omega))) rfl ?_
      refine L_ic (pc' := 162) rfl q1_m1 rfl ?_
      exact L_ret rfl ret_i rfl
    · refine L_ic (pc' := 30) rfl q1_m1 rfl ?_
      exact L_ret rfl ret_i rfl
def net_brokenChannels_4 : Nat → Int32 → Int32 → Sg → Option (Int32)
  | 0, _, _, _ => none
  | n + 1, v1, v2, g =>
    (if (g 2 6) ≤ v2 then
      (some v1)
    else
      (if inb v2 14 = true then (if (g 15 (Int32.toNatClampNeg v2)) = 0 then
        (net_brokenChannels_4 n v1 (v2 + 1) g)
      else
        (net_brokenChannels_4 n (v1 + 1) (v2 + 1) g)) else none))
def net_brokenChannels (F : Nat)  (g : Sg) : Option (Int32) :=
  (net_brokenChannels_4 F 0 0 g)
theorem p_net_brokenChannels_4 {X : Xx} {d : Nat} {g : Sg} (hd : 0 ≤ d) : ∀ (n : Nat) (v1 : Int32) (v2 : Int32), Lt X d (some .int) k_32 (fun r : Int32 => ((some (.int r), (SHF, g)) : Out)) 4 [some (.ref 2), some (.int v1), some (.int v2)] [] g (net_brokenChannels_4 n v1 v2 g) := by
  intro n
  induction n with
  | zero => intros; exact L_none
  | succ n ih =>
    intro v1 v2
    show Lt X d (some .int) k_32 (fun r : Int32 => ((some (.int r), (SHF, g)) : Out)) 4 [some (.ref 2), some (.int v1), some (.int v2)] [] g (
      (if (g 2 6) ≤ v2 then
        (some v1)
      else
        (if inb v2 14 = true then (if (g 15 (Int32.toNatClampNeg v2)) = 0 then
          (net_brokenChannels_4 n v1 (v2 + 1) g)
        else
          (net_brokenChannels_4 n (v1 + 1) (v2 + 1) g)) else none)))
    refine L_s (pc' := 5) rfl rfl ?_
    refine L_s (pc' := 6) rfl rfl ?_
    refine L_gf (pc' := 9) rfl fi_2_6 rfl ?_
    refine L_br (t := 30) (n := 12) rfl rfl (fun _ => ?_) (fun _ => ?_)
    · refine L_s (pc' := 31) rfl rfl ?_
      exact L_ret rfl ret_i rfl
    · refine L_s (pc' := 13) rfl rfl ?_
      refine L_gf (pc' := 16) rfl fr_2_13 rfl ?_
      refine L_s (pc' := 17) rfl rfl ?_
      refine L_rB (pc' := 18) rfl sh_15 (by decide) (by decide) rfl ?_
      refine L_br (t := 24) (n := 21) rfl rfl (fun _ => ?_) (fun _ => ?_)
      · refine L_ii (pc' := 27) (L' := [some (.ref 2), some (.int v1), some (.int (v2 + 1))]) rfl rfl q1_1 rfl rfl rfl ?_
        refine L_s (pc' := 4) rfl rfl ?_
        exact ih _ _
      · refine L_ii (pc' := 24) (L' := [some (.ref 2), some (.int (v1 + 1)), some (.int v2)]) rfl rfl q1_1 rfl rfl rfl ?_
        refine L_ii (pc' := 27) (L' := [some (.ref 2), some (.int (v1 + 1)), some (.int (v2 + 1))]) rfl rfl q1_1 rfl rfl rfl ?_
        refine L_s (pc' := 4) rfl rfl ?_
        exact ih _ _
theorem e_net_brokenChannels {X : Xx} {d : Nat} (hd : 1 ≤ d) (F : Nat)  (g : Sg) : ∀ r, net_brokenChannels F  g = some r → EvM zft mtl X d 32 [.ref 2] (SHF, g) ((fun r : Int32 => ((some (.int r), (SHF, g)) : Out)) r) := by
  obtain ⟨d, rfl⟩ : ∃ d0, d = d0 + 1 := ⟨d - 1, by omega⟩
  have hd : 0 ≤ d := by omega
  refine E_in (f := (fun r : Int32 => ((some (.int r), (SHF, g)) : Out))) rfl (Nat.le_of_ble_eq_true rfl) ?_
  unfold net_brokenChannels
  change Lt X d (some .int) k_32 _ 0 [some (.ref 2), none, none] [] g _
  refine L_ic (pc' := 1) rfl q1_0 rfl ?_
  refine L_s (pc' := 2) (L' := [some (.ref 2), some (.int 0), none]) rfl rfl ?_
  refine L_ic (pc' := 3) rfl q1_0 rfl ?_
  refine L_s (pc' := 4) (L' := [some (.ref 2), some (.int 0), some (.int 0)]) rfl rfl ?_
  exact p_net_brokenChannels_4 hd F _ _
def law_countDry_4 : Nat → Int32 → Int32 → Sg → Option (Int32)
  | 0, _, _, _ => none
  | n + 1, v1, v2, g =>
    (if 100 ≤ v2 then
      (some v1)
    else
      (if inb v2 100 = true then (if (g 41 (Int32.toNatClampNeg v2)) = 0 then
        (law_countDry_4 n v1 (v2 + 1) g)
      else
        (law_countDry_4 n (v1 + 1) (v2 + 1) g)) else none))
def law_countDry (F : Nat)  (g : Sg) : Option (Int32) :=
  (law_countDry_4 F 0 0 g)
theorem p_law_countDry_4 {X : Xx} {d : Nat} {g : Sg} (hd : 0 ≤ d) : ∀ (n : Nat) (v1 : Int32) (v2 : Int32), Lt X d (some .int) k_17 (fun r : Int32 => ((some (.int r), (SHF, g)) : Out)) 4 [some (.ref 31), some (.int v1), some (.int v2)] [] g (law_countDry_4 n v1 v2 g) := by
  intro n
  induction n with
  | zero => intros; exact L_none
  | succ n ih =>
    intro v1 v2
    show Lt X d (some .int) k_17 (fun r : Int32 => ((some (.int r), (SHF, g)) : Out)) 4 [some (.ref 31), some (.int v1), some (.int v2)] [] g (
      (if 100 ≤ v2 then
        (some v1)
      else
        (if inb v2 100 = true then (if (g 41 (Int32.toNatClampNeg v2)) = 0 then
          (law_countDry_4 n v1 (v2 + 1) g)
        else
          (law_countDry_4 n (v1 + 1) (v2 + 1) g)) else none)))
    refine L_s (pc' := 5) rfl rfl ?_
    refine L_bi (pc' := 7) rfl q2_100 rfl ?_
    refine L_br (t := 28) (n := 10) rfl rfl (fun _ => ?_) (fun _ => ?_)
    · refine L_s (pc' := 29) rfl rfl ?_
      exact L_ret rfl ret_i rfl
    · refine L_s (pc' := 11) rfl rfl ?_
      refine L_gf (pc' := 14) rfl fr_31_5 rfl ?_
      refine L_s (pc' := 15) rfl rfl ?_
      refine L_rB (pc' := 16) rfl sh_41 (by decide) (by decide) rfl ?_
      refine L_br (t := 22) (n := 19) rfl rfl (fun _ => ?_) (fun _ => ?_)
      · refine L_ii (pc' := 25) (L' := [some (.ref 31), some (.int v1), some (.int (v2 + 1))]) rfl rfl q1_1 rfl rfl rfl ?_
        refine L_s (pc' := 4) rfl rfl ?_
        exact ih _ _
      · refine L_ii (pc' := 22) (L' := [some (.ref 31), some (.int (v1 + 1)), some (.int v2)]) rfl rfl q1_1 rfl rfl rfl ?_
        refine L_ii (pc' := 25) (L' := [some (.ref 31), some (.int (v1 + 1)), some (.int (v2 + 1))]) rfl rfl q1_1 rfl rfl rfl ?_
        refine L_s (pc' := 4) rfl rfl ?_
        exact ih _ _
theorem e_law_countDry {X : Xx} {d : Nat} (hd : 1 ≤ d) (F : Nat)  (g : Sg) : ∀ r, law_countDry F  g = some r → EvM zft mtl X d 17 [.ref 31] (SHF, g) ((fun r : Int32 => ((some (.int r), (SHF, g)) : Out)) r) := by
  obtain ⟨d, rfl⟩ : ∃ d0, d = d0 + 1 := ⟨d - 1, by omega⟩
  have hd : 0 ≤ d := by omega
  refine E_in (f := (fun r : Int32 => ((some (.int r), (SHF, g)) : Out))) rfl (Nat.le_of_ble_eq_true rfl) ?_
  unfold law_countDry
  change Lt X d (some .int) k_17 _ 0 [some (.ref 31), none, none] [] g _
  refine L_ic (pc' := 1) rfl q1_0 rfl ?_
  refine L_s (pc' := 2) (L' := [some (.ref 31), some (.int 0), none]) rfl rfl ?_
  refine L_ic (pc' := 3) rfl q1_0 rfl ?_
  refine L_s (pc' := 4) (L' := [some (.ref 31), some (.int 0), some (.int 0)]) rfl rfl ?_
  exact p_law_countDry_4 hd F _ _
def x_count (F : Nat) (v1 : Int32) (g : Sg) : Option (Int32) :=
  (if v1 = 0 then
    (some (g 2 1))
  else (if v1 = 1 then
    (some (g 2 6))
  else (if v1 = 2 then
    (some (g 22 1))
  else (if v1 = 3 then
    (some (g 2 0))
  else (if v1 = 4 then
    Option.bind (x_today g) (fun x5 => (some x5))
  else (if v1 = 5 then
    (some ((g 2 0) / 672))
  else (if v1 = 6 then
    (some (g 22 8))
  else (if v1 = 7 then
    (some (g 33 0))
  else (if v1 = 8 then
    (some (g 42 0))
  else (if v1 = 9 then
    Option.bind (net_brokenChannels F g) (fun x11 => (some x11))
  else (if v1 = 10 then
    Option.bind (law_countDry F g) (fun x13 => (some x13))
  else (some (-1)))))))))))))
theorem e_x_count {X : Xx} {d : Nat} (hd : 2 ≤ d) (F : Nat) (v1 : Int32) (g : Sg) : ∀ r, x_count F v1 g = some r → EvM zft mtl X d 136 [.ref 0, .int v1] (SHF, g) ((fun r : Int32 => ((some (.int r), (SHF, g)) : Out)) r) := by
  obtain ⟨d, rfl⟩ : ∃ d0, d = d0 + 1 := ⟨d - 1, by omega⟩
  have hd : 1 ≤ d := by omega
  refine E_in (f := (fun r : Int32 => ((some (.int r), (SHF, g)) : Out))) rfl (Nat.le_of_ble_eq_true rfl) ?_
  unfold x_count
  change Lt X d (some .int) k_136 _ 0 [some (.ref 0), some (.int v1)] [] g _
  refine L_s (pc' := 1) rfl rfl ?_
  refine L_if (fun h1 => ?_) (fun h1 => ?_)
  · subst h1
    refine L_ts (t := 60) (off := 59) rfl (by decide) rfl ?_
    refine L_s (pc' := 61) rfl rfl ?_
    refine L_gf (pc' := 64) rfl fr_0_0 rfl ?_
    refine L_gf (pc' := 67) rfl fr_1_0 rfl ?_
    refine L_gf (pc' := 70) rfl fi_2_1 rfl ?_
    exact L_ret rfl ret_i rfl
  refine L_if (fun h2 => ?_) (fun h2 => ?_)
  · subst h2
    refine L_ts (t := 71) (off := 70) rfl (by decide) rfl ?_
    refine L_s (pc' := 72) rfl rfl ?_
    refine L_gf (pc' := 75) rfl fr_0_0 rfl ?_
    refine L_gf (pc' := 78) rfl fr_1_0 rfl ?_
    refine L_gf (pc' := 81) rfl fi_2_6 rfl ?_
    exact L_ret rfl ret_i rfl
  refine L_if (fun h3 => ?_) (fun h3 => ?_)
  · subst h3
    refine L_ts (t := 82) (off := 81) rfl (by decide) rfl ?_
    refine L_s (pc' := 83) rfl rfl ?_
    refine L_gf (pc' := 86) rfl fr_0_0 rfl ?_
    refine L_gf (pc' := 89) rfl fr_1_1 rfl ?_
    refine L_gf (pc' := 92) rfl fi_22_1 rfl ?_
    exact L_ret rfl ret_i rfl
  refine L_if (fun h4 => ?_) (fun h4 => ?_)
  · subst h4
    refine L_ts (t := 93) (off := 92) rfl (by decide) rfl ?_
    refine L_s (pc' := 94) rfl rfl ?_
    refine L_gf (pc' := 97) rfl fr_0_0 rfl ?_
    refine L_gf (pc' := 100) rfl fr_1_0 rfl ?_
    refine L_gf (pc' := 103) rfl fi_2_0 rfl ?_
    exact L_ret rfl ret_i rfl
  refine L_if (fun h6 => ?_) (fun h6 => ?_)
  · subst h6
    refine L_ts (t := 104) (off := 103) rfl (by decide) rfl ?_
    refine L_s (pc' := 105) rfl rfl ?_
    refine L_ci (pc' := 108) (as := [.ref 0]) (rest := []) rfl rfl (e_x_today (by omega) _) rfl fun x5 => ?_
    exact L_ret rfl ret_i rfl
  refine L_if (fun h7 => ?_) (fun h7 => ?_)
  · subst h7
    refine L_ts (t := 109) (off := 108) rfl (by decide) rfl ?_
    refine L_s (pc' := 110) rfl rfl ?_
    refine L_gf (pc' := 113) rfl fr_0_0 rfl ?_
    refine L_gf (pc' := 116) rfl fr_1_0 rfl ?_
    refine L_gf (pc' := 119) rfl fi_2_0 rfl ?_
    refine L_si (pc' := 122) rfl q3_672 rfl ?_
    refine L_dvk (pc' := 123) rfl (by decide) rfl ?_
    exact L_ret rfl ret_i rfl
  refine L_if (fun h8 => ?_) (fun h8 => ?_)
  · subst h8
    refine L_ts (t := 124) (off := 123) rfl (by decide) rfl ?_
    refine L_s (pc' := 125) rfl rfl ?_
    refine L_gf (pc' := 128) rfl fr_0_0 rfl ?_
    refine L_gf (pc' := 131) rfl fr_1_1 rfl ?_
    refine L_gf (pc' := 134) rfl fi_22_8 rfl ?_
    exact L_ret rfl ret_i rfl
  refine L_if (fun h9 => ?_) (fun h9 => ?_)
  · subst h9
    refine L_ts (t := 135) (off := 134) rfl (by decide) rfl ?_
    refine L_s (pc' := 136) rfl rfl ?_
    refine L_gf (pc' := 139) rfl fr_0_0 rfl ?_
    refine L_gf (pc' := 142) rfl fr_1_2 rfl ?_
    refine L_gf (pc' := 145) rfl fr_31_4 rfl ?_
    refine L_gf (pc' := 148) rfl fi_33_0 rfl ?_
    exact L_ret rfl ret_i rfl
  refine L_if (fun h10 => ?_) (fun h10 => ?_)
  · subst h10
    refine L_ts (t := 149) (off := 148) rfl (by decide) rfl ?_
    refine L_s (pc' := 150) rfl rfl ?_
    refine L_gf (pc' := 153) rfl fr_0_0 rfl ?_
    refine L_gf (pc' := 156) rfl fr_1_3 rfl ?_
    refine L_gf (pc' := 159) rfl fi_42_0 rfl ?_
    exact L_ret rfl ret_i rfl
  refine L_if (fun h12 => ?_) (fun h12 => ?_)
  · subst h12
    refine L_ts (t := 160) (off := 159) rfl (by decide) rfl ?_
    refine L_s (pc' := 161) rfl rfl ?_
    refine L_gf (pc' := 164) rfl fr_0_0 rfl ?_
    refine L_gf (pc' := 167) rfl fr_1_0 rfl ?_
    refine L_ci (pc' := 170) (as := [.ref 2]) (rest := []) rfl rfl (e_net_brokenChannels (by omega) F _) rfl fun x11 => ?_
    exact L_ret rfl ret_i rfl
  refine L_if (fun h14 => ?_) (fun h14 => ?_)
  · subst h14
    refine L_ts (t := 171) (off := 170) rfl (by decide) rfl ?_
    refine L_s (pc' := 172) rfl rfl ?_
    refine L_gf (pc' := 175) rfl fr_0_0 rfl ?_
    refine L_gf (pc' := 178) rfl fr_1_2 rfl ?_
    refine L_ci (pc' := 181) (as := [.ref 31]) (rest := []) rfl rfl (e_law_countDry (by omega) F _) rfl fun x13 => ?_
    exact L_ret rfl ret_i rfl
  refine L_ts (off := 181) (t := 182) rfl (twf_out (n := 11) (by decide) (by decide) (fun j hj => by
    match j, hj with
    | 0, _ => exact fun e => h1 (e.trans (by decide))
    | 1, _ => exact fun e => h2 (e.trans (by decide))
    | 2, _ => exact fun e => h3 (e.trans (by decide))
    | 3, _ => exact fun e => h4 (e.trans (by decide))
    | 4, _ => exact fun e => h6 (e.trans (by decide))
    | 5, _ => exact fun e => h7 (e.trans (by decide))
    | 6, _ => exact fun e => h8 (e.trans (by decide))
    | 7, _ => exact fun e => h9 (e.trans (by decide))
    | 8, _ => exact fun e => h10 (e.trans (by decide))
    | 9, _ => exact fun e => h12 (e.trans (by decide))
    | 10, _ => exact fun e => h14 (e.trans (by decide))
    | j + 11, hj => exact absurd hj (by omega))) rfl ?_
  refine L_ic (pc' := 183) rfl q1_m1 rfl ?_
  exact L_ret rfl ret_i rfl
def x_copyInts_c7  (g : Sg) : Option (Sg) :=
  lt1 (cp2 g 3 0 50 0 (Int32.toNatClampNeg 10)) (fun g1 => (some g1))
theorem e_x_copyInts_c7 {X : Xx} {d : Nat} (hd : 1 ≤ d)  (g : Sg) : ∀ r, x_copyInts_c7  g = some r → EvM zft mtl X d 145 [.ref 3, .ref 50] (SHF, g) ((fun r : Sg => ((none, (SHF, r)) : Out)) r) := by
  obtain ⟨d, rfl⟩ : ∃ d0, d = d0 + 1 := ⟨d - 1, by omega⟩
  have hd : 0 ≤ d := by omega
  refine E_in (f := (fun r : Sg => ((none, (SHF, r)) : Out))) rfl (Nat.le_of_ble_eq_true rfl) ?_
  unfold x_copyInts_c7
  change Lt X d none k_145 _ 0 [some (.ref 3), some (.ref 50)] [] g _
  refine L_s (pc' := 1) rfl rfl ?_
  refine L_ic (pc' := 2) rfl q1_0 rfl ?_
  refine L_s (pc' := 3) rfl rfl ?_
  refine L_ic (pc' := 4) rfl q1_0 rfl ?_
  refine L_s (pc' := 5) rfl rfl ?_
  refine L_s (pc' := 6) (st' := [.int 10, .int 0, .ref 50, .int 0, .ref 3]) rfl rfl ?_
  refine L_s (pc' := 7) rfl rfl ?_
  refine L_s (pc' := 8) (st' := [.int 10, .int 10, .int 0, .ref 50, .int 0, .ref 3]) rfl rfl ?_
  refine L_s (pc' := 11) rfl rfl ?_
  refine L_e (b := 10) (by decide) ?_
  refine L_cp (pc' := 14) rfl sh_3 sh_50 (by decide) (by decide) (by decide) (by decide) rfl rfl ?_
  refine L_let fun g1 _ => ?_
  exact L_ret rfl rfl rfl
def x_copyInts_c8  (g : Sg) : Option (Sg) :=
  lt1 (cp2 g 4 0 51 0 (Int32.toNatClampNeg 10)) (fun g1 => (some g1))
theorem e_x_copyInts_c8 {X : Xx} {d : Nat} (hd : 1 ≤ d)  (g : Sg) : ∀ r, x_copyInts_c8  g = some r → EvM zft mtl X d 145 [.ref 4, .ref 51] (SHF, g) ((fun r : Sg => ((none, (SHF, r)) : Out)) r) := by
  obtain ⟨d, rfl⟩ : ∃ d0, d = d0 + 1 := ⟨d - 1, by omega⟩
  have hd : 0 ≤ d := by omega
  refine E_in (f := (fun r : Sg => ((none, (SHF, r)) : Out))) rfl (Nat.le_of_ble_eq_true rfl) ?_
  unfold x_copyInts_c8
  change Lt X d none k_145 _ 0 [some (.ref 4), some (.ref 51)] [] g _
  refine L_s (pc' := 1) rfl rfl ?_
  refine L_ic (pc' := 2) rfl q1_0 rfl ?_
  refine L_s (pc' := 3) rfl rfl ?_
  refine L_ic (pc' := 4) rfl q1_0 rfl ?_
  refine L_s (pc' := 5) rfl rfl ?_
  refine L_s (pc' := 6) (st' := [.int 10, .int 0, .ref 51, .int 0, .ref 4]) rfl rfl ?_
  refine L_s (pc' := 7) rfl rfl ?_
  refine L_s (pc' := 8) (st' := [.int 10, .int 10, .int 0, .ref 51, .int 0, .ref 4]) rfl rfl ?_
  refine L_s (pc' := 11) rfl rfl ?_
  refine L_e (b := 10) (by decide) ?_
  refine L_cp (pc' := 14) rfl sh_4 sh_51 (by decide) (by decide) (by decide) (by decide) rfl rfl ?_
  refine L_let fun g1 _ => ?_
  exact L_ret rfl rfl rfl
def x_copyInts_c9  (g : Sg) : Option (Sg) :=
  lt1 (cp2 g 5 0 52 0 (Int32.toNatClampNeg 10)) (fun g1 => (some g1))
theorem e_x_copyInts_c9 {X : Xx} {d : Nat} (hd : 1 ≤ d)  (g : Sg) : ∀ r, x_copyInts_c9  g = some r → EvM zft mtl X d 145 [.ref 5, .ref 52] (SHF, g) ((fun r : Sg => ((none, (SHF, r)) : Out)) r) := by
  obtain ⟨d, rfl⟩ : ∃ d0, d = d0 + 1 := ⟨d - 1, by omega⟩
  have hd : 0 ≤ d := by omega
  refine E_in (f := (fun r : Sg => ((none, (SHF, r)) : Out))) rfl (Nat.le_of_ble_eq_true rfl) ?_
  unfold x_copyInts_c9
  change Lt X d none k_145 _ 0 [some (.ref 5), some (.ref 52)] [] g _
  refine L_s (pc' := 1) rfl rfl ?_
  refine L_ic (pc' := 2) rfl q1_0 rfl ?_
  refine L_s (pc' := 3) rfl rfl ?_
  refine L_ic (pc' := 4) rfl q1_0 rfl ?_
  refine L_s (pc' := 5) rfl rfl ?_
  refine L_s (pc' := 6) (st' := [.int 10, .int 0, .ref 52, .int 0, .ref 5]) rfl rfl ?_
  refine L_s (pc' := 7) rfl rfl ?_
  refine L_s (pc' := 8) (st' := [.int 10, .int 10, .int 0, .ref 52, .int 0, .ref 5]) rfl rfl ?_
  refine L_s (pc' := 11) rfl rfl ?_
  refine L_e (b := 10) (by decide) ?_
  refine L_cp (pc' := 14) rfl sh_5 sh_52 (by decide) (by decide) (by decide) (by decide) rfl rfl ?_
  refine L_let fun g1 _ => ?_
  exact L_ret rfl rfl rfl
def x_copyInts_c10  (g : Sg) : Option (Sg) :=
  lt1 (cp2 g 9 0 56 0 (Int32.toNatClampNeg 14)) (fun g1 => (some g1))
theorem e_x_copyInts_c10 {X : Xx} {d : Nat} (hd : 1 ≤ d)  (g : Sg) : ∀ r, x_copyInts_c10  g = some r → EvM zft mtl X d 145 [.ref 9, .ref 56] (SHF, g) ((fun r : Sg => ((none, (SHF, r)) : Out)) r) := by
  obtain ⟨d, rfl⟩ : ∃ d0, d = d0 + 1 := ⟨d - 1, by omega⟩
  have hd : 0 ≤ d := by omega
  refine E_in (f := (fun r : Sg => ((none, (SHF, r)) : Out))) rfl (Nat.le_of_ble_eq_true rfl) ?_
  unfold x_copyInts_c10
  change Lt X d none k_145 _ 0 [some (.ref 9), some (.ref 56)] [] g _
  refine L_s (pc' := 1) rfl rfl ?_
  refine L_ic (pc' := 2) rfl q1_0 rfl ?_
  refine L_s (pc' := 3) rfl rfl ?_
  refine L_ic (pc' := 4) rfl q1_0 rfl ?_
  refine L_s (pc' := 5) rfl rfl ?_
  refine L_s (pc' := 6) (st' := [.int 14, .int 0, .ref 56, .int 0, .ref 9]) rfl rfl ?_
  refine L_s (pc' := 7) rfl rfl ?_
  refine L_s (pc' := 8) (st' := [.int 14, .int 14, .int 0, .ref 56, .int 0, .ref 9]) rfl rfl ?_
  refine L_s (pc' := 11) rfl rfl ?_
  refine L_e (b := 14) (by decide) ?_
  refine L_cp (pc' := 14) rfl sh_9 sh_56 (by decide) (by decide) (by decide) (by decide) rfl rfl ?_
  refine L_let fun g1 _ => ?_
  exact L_ret rfl rfl rfl
def x_copyInts_c11  (g : Sg) : Option (Sg) :=
  lt1 (cp2 g 10 0 57 0 (Int32.toNatClampNeg 14)) (fun g1 => (some g1))
theorem e_x_copyInts_c11 {X : Xx} {d : Nat} (hd : 1 ≤ d)  (g : Sg) : ∀ r, x_copyInts_c11  g = some r → EvM zft mtl X d 145 [.ref 10, .ref 57] (SHF, g) ((fun r : Sg => ((none, (SHF, r)) : Out)) r) := by
  obtain ⟨d, rfl⟩ : ∃ d0, d = d0 + 1 := ⟨d - 1, by omega⟩
  have hd : 0 ≤ d := by omega
  refine E_in (f := (fun r : Sg => ((none, (SHF, r)) : Out))) rfl (Nat.le_of_ble_eq_true rfl) ?_
  unfold x_copyInts_c11
  change Lt X d none k_145 _ 0 [some (.ref 10), some (.ref 57)] [] g _
  refine L_s (pc' := 1) rfl rfl ?_
  refine L_ic (pc' := 2) rfl q1_0 rfl ?_
  refine L_s (pc' := 3) rfl rfl ?_
  refine L_ic (pc' := 4) rfl q1_0 rfl ?_
  refine L_s (pc' := 5) rfl rfl ?_
  refine L_s (pc' := 6) (st' := [.int 14, .int 0, .ref 57, .int 0, .ref 10]) rfl rfl ?_
  refine L_s (pc' := 7) rfl rfl ?_
  refine L_s (pc' := 8) (st' := [.int 14, .int 14, .int 0, .ref 57, .int 0, .ref 10]) rfl rfl ?_
  refine L_s (pc' := 11) rfl rfl ?_
  refine L_e (b := 14) (by decide) ?_
  refine L_cp (pc' := 14) rfl sh_10 sh_57 (by decide) (by decide) (by decide) (by decide) rfl rfl ?_
  refine L_let fun g1 _ => ?_
  exact L_ret rfl rfl rfl
def x_copyInts_c12  (g : Sg) : Option (Sg) :=
  lt1 (cp2 g 11 0 58 0 (Int32.toNatClampNeg 14)) (fun g1 => (some g1))
theorem e_x_copyInts_c12 {X : Xx} {d : Nat} (hd : 1 ≤ d)  (g : Sg) : ∀ r, x_copyInts_c12  g = some r → EvM zft mtl X d 145 [.ref 11, .ref 58] (SHF, g) ((fun r : Sg => ((none, (SHF, r)) : Out)) r) := by
  obtain ⟨d, rfl⟩ : ∃ d0, d = d0 + 1 := ⟨d - 1, by omega⟩
  have hd : 0 ≤ d := by omega
  refine E_in (f := (fun r : Sg => ((none, (SHF, r)) : Out))) rfl (Nat.le_of_ble_eq_true rfl) ?_
  unfold x_copyInts_c12
  change Lt X d none k_145 _ 0 [some (.ref 11), some (.ref 58)] [] g _
  refine L_s (pc' := 1) rfl rfl ?_
  refine L_ic (pc' := 2) rfl q1_0 rfl ?_
  refine L_s (pc' := 3) rfl rfl ?_
  refine L_ic (pc' := 4) rfl q1_0 rfl ?_
  refine L_s (pc' := 5) rfl rfl ?_
  refine L_s (pc' := 6) (st' := [.int 14, .int 0, .ref 58, .int 0, .ref 11]) rfl rfl ?_
  refine L_s (pc' := 7) rfl rfl ?_
  refine L_s (pc' := 8) (st' := [.int 14, .int 14, .int 0, .ref 58, .int 0, .ref 11]) rfl rfl ?_
  refine L_s (pc' := 11) rfl rfl ?_
  refine L_e (b := 14) (by decide) ?_
  refine L_cp (pc' := 14) rfl sh_11 sh_58 (by decide) (by decide) (by decide) (by decide) rfl rfl ?_
  refine L_let fun g1 _ => ?_
  exact L_ret rfl rfl rfl
