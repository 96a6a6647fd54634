/-! printed by wip/whole/decomp.py -/
def gauges_litresLacking_6 (F : Nat) : Nat → Int32 → Int32 → Int32 → Int32 → Sg → Option (Int32)
  | 0, _, _, _, _, _ => none
  | n + 1, v2, v3, v4, v5, g =>
    (if (g 42 0) ≤ v5 then
      (some v4)
    else
      Option.bind (gauges_counts F v5 v2 g) (fun x1 => (if x1 = 0 then
        (gauges_litresLacking_6 F n v2 v3 v4 (v5 + 1) g)
      else
        Option.bind (gauges_lack v5 v3 g) (fun x2 => lt1 ((v4 + x2) : Int32) (fun x3 => (gauges_litresLacking_6 F n v2 v3 x3 (v5 + 1) g))))))
def gauges_litresLacking (F : Nat) (v2 : Int32) (v3 : Int32) (g : Sg) : Option (Int32) :=
  (gauges_litresLacking_6 F F v2 v3 0 0 g)
theorem p_gauges_litresLacking_6 {X : Xx} {d : Nat} {g : Sg} (hd : 3 ≤ d) (F : Nat) : ∀ (n : Nat) (v2 : Int32) (v3 : Int32) (v4 : Int32) (v5 : Int32), Lt X d (some .int) k_11 (fun r : Int32 => ((some (.int r), (SHF, g)) : Out)) 6 [some (.ref 42), some (.ref 2), some (.int v2), some (.int v3), some (.int v4), some (.int v5)] [] g (gauges_litresLacking_6 F n v2 v3 v4 v5 g) := by
  intro n
  induction n with
  | zero => intros; exact L_none
  | succ n ih =>
    intro v2 v3 v4 v5
    show Lt X d (some .int) k_11 (fun r : Int32 => ((some (.int r), (SHF, g)) : Out)) 6 [some (.ref 42), some (.ref 2), some (.int v2), some (.int v3), some (.int v4), some (.int v5)] [] g (
      (if (g 42 0) ≤ v5 then
        (some v4)
      else
        Option.bind (gauges_counts F v5 v2 g) (fun x1 => (if x1 = 0 then
          (gauges_litresLacking_6 F n v2 v3 v4 (v5 + 1) g)
        else
          Option.bind (gauges_lack v5 v3 g) (fun x2 => lt1 ((v4 + x2) : Int32) (fun x3 => (gauges_litresLacking_6 F n v2 v3 x3 (v5 + 1) g)))))))
    refine L_s (pc' := 8) rfl rfl ?_
    refine L_s (pc' := 9) rfl rfl ?_
    refine L_gf (pc' := 12) rfl fi_42_0 rfl ?_
    refine L_br (t := 44) (n := 15) rfl rfl (fun _ => ?_) (fun _ => ?_)
    · refine L_s (pc' := 46) rfl rfl ?_
      exact L_ret rfl ret_i rfl
    · refine L_s (pc' := 16) rfl rfl ?_
      refine L_s (pc' := 18) rfl rfl ?_
      refine L_s (pc' := 19) rfl rfl ?_
      refine L_ci (pc' := 22) (as := [.ref 42, .int v5, .int v2]) (rest := []) rfl rfl (e_gauges_counts (by omega) F _ _ _) rfl fun x1 => ?_
      refine L_br (t := 38) (n := 25) rfl rfl (fun _ => ?_) (fun _ => ?_)
      · refine L_ii (pc' := 41) (L' := [some (.ref 42), some (.ref 2), some (.int v2), some (.int v3), some (.int v4), some (.int (v5 + 1))]) rfl rfl q1_1 rfl rfl rfl ?_
        refine L_s (pc' := 6) rfl rfl ?_
        exact ih _ _ _ _
      · refine L_s (pc' := 27) rfl rfl ?_
        refine L_s (pc' := 28) rfl rfl ?_
        refine L_s (pc' := 29) rfl rfl ?_
        refine L_s (pc' := 31) rfl rfl ?_
        refine L_s (pc' := 32) rfl rfl ?_
        refine L_ci (pc' := 35) (as := [.ref 42, .ref 2, .int v5, .int v3]) (rest := [.int v4]) rfl rfl (e_gauges_lack (by omega) _ _ _) rfl fun x2 => ?_
        refine L_s (pc' := 36) rfl rfl ?_
        refine L_li fun x3 _ => ?_
        refine L_s (pc' := 38) (L' := [some (.ref 42), some (.ref 2), some (.int v2), some (.int v3), some (.int x3), some (.int v5)]) rfl rfl ?_
        refine L_ii (pc' := 41) (L' := [some (.ref 42), some (.ref 2), some (.int v2), some (.int v3), some (.int x3), some (.int (v5 + 1))]) rfl rfl q1_1 rfl rfl rfl ?_
        refine L_s (pc' := 6) rfl rfl ?_
        exact ih _ _ _ _
theorem e_gauges_litresLacking {X : Xx} {d : Nat} (hd : 4 ≤ d) (F : Nat) (v2 : Int32) (v3 : Int32) (g : Sg) : ∀ r, gauges_litresLacking F v2 v3 g = some r → EvM zft mtl X d 11 [.ref 42, .ref 2, .int v2, .int v3] (SHF, g) ((fun r : Int32 => ((some (.int r), (SHF, g)) : Out)) r) := by
  obtain ⟨d, rfl⟩ : ∃ d0, d = d0 + 1 := ⟨d - 1, by omega⟩
  have hd : 3 ≤ d := by omega
  refine E_in (f := (fun r : Int32 => ((some (.int r), (SHF, g)) : Out))) rfl (Nat.le_of_ble_eq_true rfl) ?_
  unfold gauges_litresLacking
  change Lt X d (some .int) k_11 _ 0 [some (.ref 42), some (.ref 2), some (.int v2), some (.int v3), none, none] [] g _
  refine L_ic (pc' := 1) rfl q1_0 rfl ?_
  refine L_s (pc' := 3) (L' := [some (.ref 42), some (.ref 2), some (.int v2), some (.int v3), some (.int 0), none]) rfl rfl ?_
  refine L_ic (pc' := 4) rfl q1_0 rfl ?_
  refine L_s (pc' := 6) (L' := [some (.ref 42), some (.ref 2), some (.int v2), some (.int v3), some (.int 0), some (.int 0)]) rfl rfl ?_
  exact p_gauges_litresLacking_6 hd F F _ _ _ _
def x_stolen (F : Nat) (v1 : Int32) (v2 : Int32) (v3 : Int32) (g : Sg) : Option (Int32) :=
  Option.bind (net_hasChannel v1 g) (fun x1 => (if x1 = 0 then
    (some (-1))
  else
    Option.bind (x_within v2 0 999 g) (fun x2 => (if ¬ x2 = 0 then
      (if v3 = 0 then
        Option.bind (gauges_rowsThatCount F v1 g) (fun x3 => (some x3))
      else (if v3 = 1 then
        Option.bind (gauges_rowsThatClose F v1 v2 g) (fun x5 => (some x5))
      else (if v3 = 2 then
        Option.bind (gauges_rowsStolen F v1 v2 g) (fun x7 => (some x7))
      else (if v3 = 3 then
        Option.bind (gauges_longestRun F v1 v2 0 g) (fun x9 => (some x9))
      else (if v3 = 4 then
        Option.bind (gauges_longestRun F v1 v2 1 g) (fun x11 => (some x11))
      else (if v3 = 5 then
        Option.bind (gauges_litresLacking F v1 v2 g) (fun x13 => (some x13))
      else (some (-1))))))))
    else
      (some (-1))))))
theorem e_x_stolen {X : Xx} {d : Nat} (hd : 6 ≤ d) (F : Nat) (v1 : Int32) (v2 : Int32) (v3 : Int32) (g : Sg) : ∀ r, x_stolen F v1 v2 v3 g = some r → EvM zft mtl X d 135 [.ref 0, .int v1, .int v2, .int v3] (SHF, g) ((fun r : Int32 => ((some (.int r), (SHF, g)) : Out)) r) := by
  obtain ⟨d, rfl⟩ : ∃ d0, d = d0 + 1 := ⟨d - 1, by omega⟩
  have hd : 5 ≤ d := by omega
  refine E_in (f := (fun r : Int32 => ((some (.int r), (SHF, g)) : Out))) rfl (Nat.le_of_ble_eq_true rfl) ?_
  unfold x_stolen
  change Lt X d (some .int) k_135 _ 0 [some (.ref 0), some (.int v1), some (.int v2), some (.int v3), none] [] g _
  refine L_s (pc' := 1) rfl rfl ?_
  refine L_gf (pc' := 4) rfl fr_0_0 rfl ?_
  refine L_gf (pc' := 7) rfl fr_1_0 rfl ?_
  refine L_s (pc' := 9) (L' := [some (.ref 0), some (.int v1), some (.int v2), some (.int v3), some (.ref 2)]) rfl rfl ?_
  refine L_s (pc' := 11) rfl rfl ?_
  refine L_s (pc' := 12) rfl rfl ?_
  refine L_ci (pc' := 15) (as := [.ref 2, .int v1]) (rest := []) rfl rfl (e_net_hasChannel (by omega) _ _) rfl fun x1 => ?_
  refine L_br (t := 29) (n := 18) rfl rfl (fun _ => ?_) (fun _ => ?_)
  · refine L_ic (pc' := 30) rfl q1_m1 rfl ?_
    exact L_ret rfl ret_i rfl
  · refine L_s (pc' := 19) rfl rfl ?_
    refine L_ic (pc' := 20) rfl q1_0 rfl ?_
    refine L_si (pc' := 23) rfl q3_999 rfl ?_
    refine L_ci (pc' := 26) (as := [.int v2, .int 0, .int 999]) (rest := []) rfl rfl (e_x_within (by omega) _ _ _ _) rfl fun x2 => ?_
    refine L_br (t := 31) (n := 29) rfl rfl (fun _ => ?_) (fun _ => ?_)
    · refine L_s (pc' := 32) rfl rfl ?_
      refine L_if (fun h4 => ?_) (fun h4 => ?_)
      · subst h4
        refine L_ts (t := 72) (off := 40) rfl (by decide) rfl ?_
        refine L_s (pc' := 73) rfl rfl ?_
        refine L_gf (pc' := 76) rfl fr_0_0 rfl ?_
        refine L_gf (pc' := 79) rfl fr_1_3 rfl ?_
        refine L_s (pc' := 80) rfl rfl ?_
        refine L_ci (pc' := 83) (as := [.ref 42, .int v1]) (rest := []) rfl rfl (e_gauges_rowsThatCount (by omega) F _ _) rfl fun x3 => ?_
        exact L_ret rfl ret_i rfl
      refine L_if (fun h6 => ?_) (fun h6 => ?_)
      · subst h6
        refine L_ts (t := 84) (off := 52) rfl (by decide) rfl ?_
        refine L_s (pc' := 85) rfl rfl ?_
        refine L_gf (pc' := 88) rfl fr_0_0 rfl ?_
        refine L_gf (pc' := 91) rfl fr_1_3 rfl ?_
        refine L_s (pc' := 93) rfl rfl ?_
        refine L_s (pc' := 94) rfl rfl ?_
        refine L_s (pc' := 95) rfl rfl ?_
        refine L_ci (pc' := 98) (as := [.ref 42, .ref 2, .int v1, .int v2]) (rest := []) rfl rfl (e_gauges_rowsThatClose (by omega) F _ _ _) rfl fun x5 => ?_
        exact L_ret rfl ret_i rfl
      refine L_if (fun h8 => ?_) (fun h8 => ?_)
      · subst h8
        refine L_ts (t := 99) (off := 67) rfl (by decide) rfl ?_
        refine L_s (pc' := 100) rfl rfl ?_
        refine L_gf (pc' := 103) rfl fr_0_0 rfl ?_
        refine L_gf (pc' := 106) rfl fr_1_3 rfl ?_
        refine L_s (pc' := 108) rfl rfl ?_
        refine L_s (pc' := 109) rfl rfl ?_
        refine L_s (pc' := 110) rfl rfl ?_
        refine L_ci (pc' := 113) (as := [.ref 42, .ref 2, .int v1, .int v2]) (rest := []) rfl rfl (e_gauges_rowsStolen (by omega) F _ _ _) rfl fun x7 => ?_
        exact L_ret rfl ret_i rfl
      refine L_if (fun h10 => ?_) (fun h10 => ?_)
      · subst h10
        refine L_ts (t := 114) (off := 82) rfl (by decide) rfl ?_
        refine L_s (pc' := 115) rfl rfl ?_
        refine L_gf (pc' := 118) rfl fr_0_0 rfl ?_
        refine L_gf (pc' := 121) rfl fr_1_3 rfl ?_
        refine L_s (pc' := 123) rfl rfl ?_
        refine L_s (pc' := 124) rfl rfl ?_
        refine L_s (pc' := 125) rfl rfl ?_
        refine L_ic (pc' := 126) rfl q1_0 rfl ?_
        refine L_ci (pc' := 129) (as := [.ref 42, .ref 2, .int v1, .int v2, .int 0]) (rest := []) rfl rfl (e_gauges_longestRun (by omega) F _ _ _ _) rfl fun x9 => ?_
        exact L_ret rfl ret_i rfl
      refine L_if (fun h12 => ?_) (fun h12 => ?_)
      · subst h12
        refine L_ts (t := 130) (off := 98) rfl (by decide) rfl ?_
        refine L_s (pc' := 131) rfl rfl ?_
        refine L_gf (pc' := 134) rfl fr_0_0 rfl ?_
        refine L_gf (pc' := 137) rfl fr_1_3 rfl ?_
        refine L_s (pc' := 139) rfl rfl ?_
        refine L_s (pc' := 140) rfl rfl ?_
        refine L_s (pc' := 141) rfl rfl ?_
        refine L_ic (pc' := 142) rfl q1_1 rfl ?_
        refine L_ci (pc' := 145) (as := [.ref 42, .ref 2, .int v1, .int v2, .int 1]) (rest := []) rfl rfl (e_gauges_longestRun (by omega) F _ _ _ _) rfl fun x11 => ?_
        exact L_ret rfl ret_i rfl
      refine L_if (fun h14 => ?_) (fun h14 => ?_)
      · subst h14
        refine L_ts (t := 146) (off := 114) rfl (by decide) rfl ?_
        refine L_s (pc' := 147) rfl rfl ?_
        refine L_gf (pc' := 150) rfl fr_0_0 rfl ?_
        refine L_gf (pc' := 153) rfl fr_1_3 rfl ?_
        refine L_s (pc' := 155) rfl rfl ?_
        refine L_s (pc' := 156) rfl rfl ?_
        refine L_s (pc' := 157) rfl rfl ?_
        refine L_ci (pc' := 160) (as := [.ref 42, .ref 2, .int v1, .int v2]) (rest := []) rfl rfl (e_gauges_litresLacking (by omega) F _ _ _) rfl fun x13 => ?_
        exact L_ret rfl ret_i rfl
      refine L_ts (off := 129) (t := 161) rfl (twf_out (n := 6) (by decide) (by decide) (fun j hj => by
        match j, hj with
        | 0, _ => exact fun e => h4 (e.trans (by decide))
        | 1, _ => exact fun e => h6 (e.trans (by decide))
        | 2, _ => exact fun e => h8 (e.trans (by decide))
        | 3, _ => exact fun e => h10 (e.trans (by decide))
        | 4, _ => exact fun e => h12 (e.trans (by decide))
        | 5, _ => exact fun e => h14 (e.trans (by decide))
        | j + 6, hj => exact absurd hj (by omega))) rfl ?_
      refine L_ic (pc' := 162) rfl q1_m1 rfl ?_
      exact L_ret rfl ret_i rfl
    · refine L_ic (pc' := 30) rfl q1_m1 rfl ?_
      exact L_ret rfl ret_i rfl
def net_brokenChannels_4 : Nat → Int32 → Int32 → Sg → Option (Int32)
  | 0, _, _, _ => none
  | n + 1, v1, v2, g =>
    (if (g 2 6) ≤ v2 then
      (some v1)
    else
      (if inb v2 14 = true then (if (g 15 (Int32.toNatClampNeg v2)) = 0 then
        (net_brokenChannels_4 n v1 (v2 + 1) g)
      else
        (net_brokenChannels_4 n (v1 + 1) (v2 + 1) g)) else none))
def net_brokenChannels (F : Nat)  (g : Sg) : Option (Int32) :=
  (net_brokenChannels_4 F 0 0 g)
theorem p_net_brokenChannels_4 {X : Xx} {d : Nat} {g : Sg} (hd : 0 ≤ d) : ∀ (n : Nat) (v1 : Int32) (v2 : Int32), Lt X d (some .int) k_32 (fun r : Int32 => ((some (.int r), (SHF, g)) : Out)) 4 [some (.ref 2), some (.int v1), some (.int v2)] [] g (net_brokenChannels_4 n v1 v2 g) := by
  intro n
  induction n with
  | zero => intros; exact L_none
  | succ n ih =>
    intro v1 v2
    show Lt X d (some .int) k_32 (fun r : Int32 => ((some (.int r), (SHF, g)) : Out)) 4 [some (.ref 2), some (.int v1), some (.int v2)] [] g (
      (if (g 2 6) ≤ v2 then
        (some v1)
      else
        (if inb v2 14 = true then (if (g 15 (Int32.toNatClampNeg v2)) = 0 then
          (net_brokenChannels_4 n v1 (v2 + 1) g)
        else
          (net_brokenChannels_4 n (v1 + 1) (v2 + 1) g)) else none)))
    refine L_s (pc' := 5) rfl rfl ?_
    refine L_s (pc' := 6) rfl rfl ?_
    refine L_gf (pc' := 9) rfl fi_2_6 rfl ?_
    refine L_br (t := 30) (n := 12) rfl rfl (fun _ => ?_) (fun _ => ?_)
    · refine L_s (pc' := 31) rfl rfl ?_
      exact L_ret rfl ret_i rfl
    · refine L_s (pc' := 13) rfl rfl ?_
      refine L_gf (pc' := 16) rfl fr_2_13 rfl ?_
      refine L_s (pc' := 17) rfl rfl ?_
      refine L_rB (pc' := 18) rfl sh_15 (by decide) (by decide) rfl ?_
      refine L_br (t := 24) (n := 21) rfl rfl (fun _ => ?_) (fun _ => ?_)
      · refine L_ii (pc' := 27) (L' := [some (.ref 2), some (.int v1), some (.int (v2 + 1))]) rfl rfl q1_1 rfl rfl rfl ?_
        refine L_s (pc' := 4) rfl rfl ?_
        exact ih _ _
      · refine L_ii (pc' := 24) (L' := [some (.ref 2), some (.int (v1 + 1)), some (.int v2)]) rfl rfl q1_1 rfl rfl rfl ?_
        refine L_ii (pc' := 27) (L' := [some (.ref 2), some (.int (v1 + 1)), some (.int (v2 + 1))]) rfl rfl q1_1 rfl rfl rfl ?_
        refine L_s (pc' := 4) rfl rfl ?_
        exact ih _ _
theorem e_net_brokenChannels {X : Xx} {d : Nat} (hd : 1 ≤ d) (F : Nat)  (g : Sg) : ∀ r, net_brokenChannels F  g = some r → EvM zft mtl X d 32 [.ref 2] (SHF, g) ((fun r : Int32 => ((some (.int r), (SHF, g)) : Out)) r) := by
  obtain ⟨d, rfl⟩ : ∃ d0, d = d0 + 1 := ⟨d - 1, by omega⟩
  have hd : 0 ≤ d := by omega
  refine E_in (f := (fun r : Int32 => ((some (.int r), (SHF, g)) : Out))) rfl (Nat.le_of_ble_eq_true rfl) ?_
  unfold net_brokenChannels
  change Lt X d (some .int) k_32 _ 0 [some (.ref 2), none, none] [] g _
  refine L_ic (pc' := 1) rfl q1_0 rfl ?_
  refine L_s (pc' := 2) (L' := [some (.ref 2), some (.int 0), none]) rfl rfl ?_
  refine L_ic (pc' := 3) rfl q1_0 rfl ?_
  refine L_s (pc' := 4) (L' := [some (.ref 2), some (.int 0), some (.int 0)]) rfl rfl ?_
  exact p_net_brokenChannels_4 hd F _ _
def law_countDry_4 : Nat → Int32 → Int32 → Sg → Option (Int32)
  | 0, _, _, _ => none
  | n + 1, v1, v2, g =>
    (if 100 ≤ v2 then
      (some v1)
    else
      (if inb v2 100 = true then (if (g 41 (Int32.toNatClampNeg v2)) = 0 then
        (law_countDry_4 n v1 (v2 + 1) g)
      else
        (law_countDry_4 n (v1 + 1) (v2 + 1) g)) else none))
def law_countDry (F : Nat)  (g : Sg) : Option (Int32) :=
  (law_countDry_4 F 0 0 g)
theorem p_law_countDry_4 {X : Xx} {d : Nat} {g : Sg} (hd : 0 ≤ d) : ∀ (n : Nat) (v1 : Int32) (v2 : Int32), Lt X d (some .int) k_17 (fun r : Int32 => ((some (.int r), (SHF, g)) : Out)) 4 [some (.ref 31), some (.int v1), some (.int v2)] [] g (law_countDry_4 n v1 v2 g) := by
  intro n
  induction n with
  | zero => intros; exact L_none
  | succ n ih =>
    intro v1 v2
    show Lt X d (some .int) k_17 (fun r : Int32 => ((some (.int r), (SHF, g)) : Out)) 4 [some (.ref 31), some (.int v1), some (.int v2)] [] g (
      (if 100 ≤ v2 then
        (some v1)
      else
        (if inb v2 100 = true then (if (g 41 (Int32.toNatClampNeg v2)) = 0 then
          (law_countDry_4 n v1 (v2 + 1) g)
        else
          (law_countDry_4 n (v1 + 1) (v2 + 1) g)) else none)))
    refine L_s (pc' := 5) rfl rfl ?_
    refine L_bi (pc' := 7) rfl q2_100 rfl ?_
    refine L_br (t := 28) (n := 10) rfl rfl (fun _ => ?_) (fun _ => ?_)
    · refine L_s (pc' := 29) rfl rfl ?_
      exact L_ret rfl ret_i rfl
    · refine L_s (pc' := 11) rfl rfl ?_
      refine L_gf (pc' := 14) rfl fr_31_5 rfl ?_
      refine L_s (pc' := 15) rfl rfl ?_
      refine L_rB (pc' := 16) rfl sh_41 (by decide) (by decide) rfl ?_
      refine L_br (t := 22) (n := 19) rfl rfl (fun _ => ?_) (fun _ => ?_)
      · refine L_ii (pc' := 25) (L' := [some (.ref 31), some (.int v1), some (.int (v2 + 1))]) rfl rfl q1_1 rfl rfl rfl ?_
        refine L_s (pc' := 4) rfl rfl ?_
        exact ih _ _
      · refine L_ii (pc' := 22) (L' := [some (.ref 31), some (.int (v1 + 1)), some (.int v2)]) rfl rfl q1_1 rfl rfl rfl ?_
        refine L_ii (pc' := 25) (L' := [some (.ref 31), some (.int (v1 + 1)), some (.int (v2 + 1))]) rfl rfl q1_1 rfl rfl rfl ?_
        refine L_s (pc' := 4) rfl rfl ?_
        exact ih _ _
theorem e_law_countDry {X : Xx} {d : Nat} (hd : 1 ≤ d) (F : Nat)  (g : Sg) : ∀ r, law_countDry F  g = some r → EvM zft mtl X d 17 [.ref 31] (SHF, g) ((fun r : Int32 => ((some (.int r), (SHF, g)) : Out)) r) := by
  obtain ⟨d, rfl⟩ : ∃ d0, d = d0 + 1 := ⟨d - 1, by omega⟩
  have hd : 0 ≤ d := by omega
  refine E_in (f := (fun r : Int32 => ((some (.int r), (SHF, g)) : Out))) rfl (Nat.le_of_ble_eq_true rfl) ?_
  unfold law_countDry
  change Lt X d (some .int) k_17 _ 0 [some (.ref 31), none, none] [] g _
  refine L_ic (pc' := 1) rfl q1_0 rfl ?_
  refine L_s (pc' := 2) (L' := [some (.ref 31), some (.int 0), none]) rfl rfl ?_
  refine L_ic (pc' := 3) rfl q1_0 rfl ?_
  refine L_s (pc' := 4) (L' := [some (.ref 31), some (.int 0), some (.int 0)]) rfl rfl ?_
  exact p_law_countDry_4 hd F _ _
def x_count (F : Nat) (v1 : Int32) (g : Sg) : Option (Int32) :=
  (if v1 = 0 then
    (some (g 2 1))
  else (if v1 = 1 then
    (some (g 2 6))
  else (if v1 = 2 then
    (some (g 22 1))
  else (if v1 = 3 then
    (some (g 2 0))
  else (if v1 = 4 then
    Option.bind (x_today g) (fun x5 => (some x5))
  else (if v1 = 5 then
    (some ((g 2 0) / 672))
  else (if v1 = 6 then
    (some (g 22 8))
  else (if v1 = 7 then
    (some (g 33 0))
  else (if v1 = 8 then
    (some (g 42 0))
  else (if v1 = 9 then
    Option.bind (net_brokenChannels F g) (fun x11 => (some x11))
  else (if v1 = 10 then
    Option.bind (law_countDry F g) (fun x13 => (some x13))
  else (some (-1)))))))))))))
theorem e_x_count {X : Xx} {d : Nat} (hd : 2 ≤ d) (F : Nat) (v1 : Int32) (g : Sg) : ∀ r, x_count F v1 g = some r → EvM zft mtl X d 136 [.ref 0, .int v1] (SHF, g) ((fun r : Int32 => ((some (.int r), (SHF, g)) : Out)) r) := by
  obtain ⟨d, rfl⟩ : ∃ d0, d = d0 + 1 := ⟨d - 1, by omega⟩
  have hd : 1 ≤ d := by omega
  refine E_in (f := (fun r : Int32 => ((some (.int r), (SHF, g)) : Out))) rfl (Nat.le_of_ble_eq_true rfl) ?_
  unfold x_count
  change Lt X d (some .int) k_136 _ 0 [some (.ref 0), some (.int v1)] [] g _
  refine L_s (pc' := 1) rfl rfl ?_
  refine L_if (fun h1 => ?_) (fun h1 => ?_)
  · subst h1
    refine L_ts (t := 60) (off := 59) rfl (by decide) rfl ?_
    refine L_s (pc' := 61) rfl rfl ?_
    refine L_gf (pc' := 64) rfl fr_0_0 rfl ?_
    refine L_gf (pc' := 67) rfl fr_1_0 rfl ?_
    refine L_gf (pc' := 70) rfl fi_2_1 rfl ?_
    exact L_ret rfl ret_i rfl
  refine L_if (fun h2 => ?_) (fun h2 => ?_)
  · subst h2
    refine L_ts (t := 71) (off := 70) rfl (by decide) rfl ?_
    refine L_s (pc' := 72) rfl rfl ?_
    refine L_gf (pc' := 75) rfl fr_0_0 rfl ?_
    refine L_gf (pc' := 78) rfl fr_1_0 rfl ?_
    refine L_gf (pc' := 81) rfl fi_2_6 rfl ?_
    exact L_ret rfl ret_i rfl
  refine L_if (fun h3 => ?_) (fun h3 => ?_)
  · subst h3
    refine L_ts (t := 82) (off := 81) rfl (by decide) rfl ?_
    refine L_s (pc' := 83) rfl rfl ?_
    refine L_gf (pc' := 86) rfl fr_0_0 rfl ?_
    refine L_gf (pc' := 89) rfl fr_1_1 rfl ?_
    refine L_gf (pc' := 92) rfl fi_22_1 rfl ?_
    exact L_ret rfl ret_i rfl
  refine L_if (fun h4 => ?_) (fun h4 => ?_)
  · subst h4
    refine L_ts (t := 93) (off := 92) rfl (by decide) rfl ?_
    refine L_s (pc' := 94) rfl rfl ?_
    refine L_gf (pc' := 97) rfl fr_0_0 rfl ?_
    refine L_gf (pc' := 100) rfl fr_1_0 rfl ?_
    refine L_gf (pc' := 103) rfl fi_2_0 rfl ?_
    exact L_ret rfl ret_i rfl
  refine L_if (fun h6 => ?_) (fun h6 => ?_)
  · subst h6
    refine L_ts (t := 104) (off := 103) rfl (by decide) rfl ?_
    refine L_s (pc' := 105) rfl rfl ?_
    refine L_ci (pc' := 108) (as := [.ref 0]) (rest := []) rfl rfl (e_x_today (by omega) _) rfl fun x5 => ?_
    exact L_ret rfl ret_i rfl
  refine L_if (fun h7 => ?_) (fun h7 => ?_)
  · subst h7
    refine L_ts (t := 109) (off := 108) rfl (by decide) rfl ?_
    refine L_s (pc' := 110) rfl rfl ?_
    refine L_gf (pc' := 113) rfl fr_0_0 rfl ?_
    refine L_gf (pc' := 116) rfl fr_1_0 rfl ?_
    refine L_gf (pc' := 119) rfl fi_2_0 rfl ?_
    refine L_si (pc' := 122) rfl q3_672 rfl ?_
    refine L_dvk (pc' := 123) rfl (by decide) rfl ?_
    exact L_ret rfl ret_i rfl
  refine L_if (fun h8 => ?_) (fun h8 => ?_)
  · subst h8
    refine L_ts (t := 124) (off := 123) rfl (by decide) rfl ?_
    refine L_s (pc' := 125) rfl rfl ?_
    refine L_gf (pc' := 128) rfl fr_0_0 rfl ?_
    refine L_gf (pc' := 131) rfl fr_1_1 rfl ?_
    refine L_gf (pc' := 134) rfl fi_22_8 rfl ?_
    exact L_ret rfl ret_i rfl
  refine L_if (fun h9 => ?_) (fun h9 => ?_)
  · subst h9
    refine L_ts (t := 135) (off := 134) rfl (by decide) rfl ?_
    refine L_s (pc' := 136) rfl rfl ?_
    refine L_gf (pc' := 139) rfl fr_0_0 rfl ?_
    refine L_gf (pc' := 142) rfl fr_1_2 rfl ?_
    refine L_gf (pc' := 145) rfl fr_31_4 rfl ?_
    refine L_gf (pc' := 148) rfl fi_33_0 rfl ?_
    exact L_ret rfl ret_i rfl
  refine L_if (fun h10 => ?_) (fun h10 => ?_)
  · subst h10
    refine L_ts (t := 149) (off := 148) rfl (by decide) rfl ?_
    refine L_s (pc' := 150) rfl rfl ?_
    refine L_gf (pc' := 153) rfl fr_0_0 rfl ?_
    refine L_gf (pc' := 156) rfl fr_1_3 rfl ?_
    refine L_gf (pc' := 159) rfl fi_42_0 rfl ?_
    exact L_ret rfl ret_i rfl
  refine L_if (fun h12 => ?_) (fun h12 => ?_)
  · subst h12
    refine L_ts (t := 160) (off := 159) rfl (by decide) rfl ?_
    refine L_s (pc' := 161) rfl rfl ?_
    refine L_gf (pc' := 164) rfl fr_0_0 rfl ?_
    refine L_gf (pc' := 167) rfl fr_1_0 rfl ?_
    refine L_ci (pc' := 170) (as := [.ref 2]) (rest := []) rfl rfl (e_net_brokenChannels (by omega) F _) rfl fun x11 => ?_
    exact L_ret rfl ret_i rfl
  refine L_if (fun h14 => ?_) (fun h14 => ?_)
  · subst h14
    refine L_ts (t := 171) (off := 170) rfl (by decide) rfl ?_
    refine L_s (pc' := 172) rfl rfl ?_
    refine L_gf (pc' := 175) rfl fr_0_0 rfl ?_
    refine L_gf (pc' := 178) rfl fr_1_2 rfl ?_
    refine L_ci (pc' := 181) (as := [.ref 31]) (rest := []) rfl rfl (e_law_countDry (by omega) F _) rfl fun x13 => ?_
    exact L_ret rfl ret_i rfl
  refine L_ts (off := 181) (t := 182) rfl (twf_out (n := 11) (by decide) (by decide) (fun j hj => by
    match j, hj with
    | 0, _ => exact fun e => h1 (e.trans (by decide))
    | 1, _ => exact fun e => h2 (e.trans (by decide))
    | 2, _ => exact fun e => h3 (e.trans (by decide))
    | 3, _ => exact fun e => h4 (e.trans (by decide))
    | 4, _ => exact fun e => h6 (e.trans (by decide))
    | 5, _ => exact fun e => h7 (e.trans (by decide))
    | 6, _ => exact fun e => h8 (e.trans (by decide))
    | 7, _ => exact fun e => h9 (e.trans (by decide))
    | 8, _ => exact fun e => h10 (e.trans (by decide))
    | 9, _ => exact fun e => h12 (e.trans (by decide))
    | 10, _ => exact fun e => h14 (e.trans (by decide))
    | j + 11, hj => exact absurd hj (by omega))) rfl ?_
  refine L_ic (pc' := 183) rfl q1_m1 rfl ?_
  exact L_ret rfl ret_i rfl
def x_copyInts_c7  (g : Sg) : Option (Sg) :=
  lt1 (cp2 g 3 0 50 0 (Int32.toNatClampNeg 10)) (fun g1 => (some g1))
theorem e_x_copyInts_c7 {X : Xx} {d : Nat} (hd : 1 ≤ d)  (g : Sg) : ∀ r, x_copyInts_c7  g = some r → EvM zft mtl X d 145 [.ref 3, .ref 50] (SHF, g) ((fun r : Sg => ((none, (SHF, r)) : Out)) r) := by
  obtain ⟨d, rfl⟩ : ∃ d0, d = d0 + 1 := ⟨d - 1, by omega⟩
  have hd : 0 ≤ d := by omega
  refine E_in (f := (fun r : Sg => ((none, (SHF, r)) : Out))) rfl (Nat.le_of_ble_eq_true rfl) ?_
  unfold x_copyInts_c7
  change Lt X d none k_145 _ 0 [some (.ref 3), some (.ref 50)] [] g _
  refine L_s (pc' := 1) rfl rfl ?_
  refine L_ic (pc' := 2) rfl q1_0 rfl ?_
  refine L_s (pc' := 3) rfl rfl ?_
  refine L_ic (pc' := 4) rfl q1_0 rfl ?_
  refine L_s (pc' := 5) rfl rfl ?_
  refine L_s (pc' := 6) (st' := [.int 10, .int 0, .ref 50, .int 0, .ref 3]) rfl rfl ?_
  refine L_s (pc' := 7) rfl rfl ?_
  refine L_s (pc' := 8) (st' := [.int 10, .int 10, .int 0, .ref 50, .int 0, .ref 3]) rfl rfl ?_
  refine L_s (pc' := 11) rfl rfl ?_
  refine L_e (b := 10) (by decide) ?_
  refine L_cp (pc' := 14) rfl sh_3 sh_50 (by decide) (by decide) (by decide) (by decide) rfl rfl ?_
  refine L_let fun g1 _ => ?_
  exact L_ret rfl rfl rfl
def x_copyInts_c8  (g : Sg) : Option (Sg) :=
  lt1 (cp2 g 4 0 51 0 (Int32.toNatClampNeg 10)) (fun g1 => (some g1))
theorem e_x_copyInts_c8 {X : Xx} {d : Nat} (hd : 1 ≤ d)  (g : Sg) : ∀ r, x_copyInts_c8  g = some r → EvM zft mtl X d 145 [.ref 4, .ref 51] (SHF, g) ((fun r : Sg => ((none, (SHF, r)) : Out)) r) := by
  obtain ⟨d, rfl⟩ : ∃ d0, d = d0 + 1 := ⟨d - 1, by omega⟩
  have hd : 0 ≤ d := by omega
  refine E_in (f := (fun r : Sg => ((none, (SHF, r)) : Out))) rfl (Nat.le_of_ble_eq_true rfl) ?_
  unfold x_copyInts_c8
  change Lt X d none k_145 _ 0 [some (.ref 4), some (.ref 51)] [] g _
  refine L_s (pc' := 1) rfl rfl ?_
  refine L_ic (pc' := 2) rfl q1_0 rfl ?_
  refine L_s (pc' := 3) rfl rfl ?_
  refine L_ic (pc' := 4) rfl q1_0 rfl ?_
  refine L_s (pc' := 5) rfl rfl ?_
  refine L_s (pc' := 6) (st' := [.int 10, .int 0, .ref 51, .int 0, .ref 4]) rfl rfl ?_
  refine L_s (pc' := 7) rfl rfl ?_
  refine L_s (pc' := 8) (st' := [.int 10, .int 10, .int 0, .ref 51, .int 0, .ref 4]) rfl rfl ?_
  refine L_s (pc' := 11) rfl rfl ?_
  refine L_e (b := 10) (by decide) ?_
  refine L_cp (pc' := 14) rfl sh_4 sh_51 (by decide) (by decide) (by decide) (by decide) rfl rfl ?_
  refine L_let fun g1 _ => ?_
  exact L_ret rfl rfl rfl
def x_copyInts_c9  (g : Sg) : Option (Sg) :=
  lt1 (cp2 g 5 0 52 0 (Int32.toNatClampNeg 10)) (fun g1 => (some g1))
theorem e_x_copyInts_c9 {X : Xx} {d : Nat} (hd : 1 ≤ d)  (g : Sg) : ∀ r, x_copyInts_c9  g = some r → EvM zft mtl X d 145 [.ref 5, .ref 52] (SHF, g) ((fun r : Sg => ((none, (SHF, r)) : Out)) r) := by
  obtain ⟨d, rfl⟩ : ∃ d0, d = d0 + 1 := ⟨d - 1, by omega⟩
  have hd : 0 ≤ d := by omega
  refine E_in (f := (fun r : Sg => ((none, (SHF, r)) : Out))) rfl (Nat.le_of_ble_eq_true rfl) ?_
  unfold x_copyInts_c9
  change Lt X d none k_145 _ 0 [some (.ref 5), some (.ref 52)] [] g _
  refine L_s (pc' := 1) rfl rfl ?_
  refine L_ic (pc' := 2) rfl q1_0 rfl ?_
  refine L_s (pc' := 3) rfl rfl ?_
  refine L_ic (pc' := 4) rfl q1_0 rfl ?_
  refine L_s (pc' := 5) rfl rfl ?_
  refine L_s (pc' := 6) (st' := [.int 10, .int 0, .ref 52, .int 0, .ref 5]) rfl rfl ?_
  refine L_s (pc' := 7) rfl rfl ?_
  refine L_s (pc' := 8) (st' := [.int 10, .int 10, .int 0, .ref 52, .int 0, .ref 5]) rfl rfl ?_
  refine L_s (pc' := 11) rfl rfl ?_
  refine L_e (b := 10) (by decide) ?_
  refine L_cp (pc' := 14) rfl sh_5 sh_52 (by decide) (by decide) (by decide) (by decide) rfl rfl ?_
  refine L_let fun g1 _ => ?_
  exact L_ret rfl rfl rfl
def x_copyInts_c10  (g : Sg) : Option (Sg) :=
  lt1 (cp2 g 9 0 56 0 (Int32.toNatClampNeg 14)) (fun g1 => (some g1))
theorem e_x_copyInts_c10 {X : Xx} {d : Nat} (hd : 1 ≤ d)  (g : Sg) : ∀ r, x_copyInts_c10  g = some r → EvM zft mtl X d 145 [.ref 9, .ref 56] (SHF, g) ((fun r : Sg => ((none, (SHF, r)) : Out)) r) := by
  obtain ⟨d, rfl⟩ : ∃ d0, d = d0 + 1 := ⟨d - 1, by omega⟩
  have hd : 0 ≤ d := by omega
  refine E_in (f := (fun r : Sg => ((none, (SHF, r)) : Out))) rfl (Nat.le_of_ble_eq_true rfl) ?_
  unfold x_copyInts_c10
  change Lt X d none k_145 _ 0 [some (.ref 9), some (.ref 56)] [] g _
  refine L_s (pc' := 1) rfl rfl ?_
  refine L_ic (pc' := 2) rfl q1_0 rfl ?_
  refine L_s (pc' := 3) rfl rfl ?_
  refine L_ic (pc' := 4) rfl q1_0 rfl ?_
  refine L_s (pc' := 5) rfl rfl ?_
  refine L_s (pc' := 6) (st' := [.int 14, .int 0, .ref 56, .int 0, .ref 9]) rfl rfl ?_
  refine L_s (pc' := 7) rfl rfl ?_
  refine L_s (pc' := 8) (st' := [.int 14, .int 14, .int 0, .ref 56, .int 0, .ref 9]) rfl rfl ?_
  refine L_s (pc' := 11) rfl rfl ?_
  refine L_e (b := 14) (by decide) ?_
  refine L_cp (pc' := 14) rfl sh_9 sh_56 (by decide) (by decide) (by decide) (by decide) rfl rfl ?_
  refine L_let fun g1 _ => ?_
  exact L_ret rfl rfl rfl
def x_copyInts_c11  (g : Sg) : Option (Sg) :=
  lt1 (cp2 g 10 0 57 0 (Int32.toNatClampNeg 14)) (fun g1 => (some g1))
theorem e_x_copyInts_c11 {X : Xx} {d : Nat} (hd : 1 ≤ d)  (g : Sg) : ∀ r, x_copyInts_c11  g = some r → EvM zft mtl X d 145 [.ref 10, .ref 57] (SHF, g) ((fun r : Sg => ((none, (SHF, r)) : Out)) r) := by
  obtain ⟨d, rfl⟩ : ∃ d0, d = d0 + 1 := ⟨d - 1, by omega⟩
  have hd : 0 ≤ d := by omega
  refine E_in (f := (fun r : Sg => ((none, (SHF, r)) : Out))) rfl (Nat.le_of_ble_eq_true rfl) ?_
  unfold x_copyInts_c11
  change Lt X d none k_145 _ 0 [some (.ref 10), some (.ref 57)] [] g _
  refine L_s (pc' := 1) rfl rfl ?_
  refine L_ic (pc' := 2) rfl q1_0 rfl ?_
  refine L_s (pc' := 3) rfl rfl ?_
  refine L_ic (pc' := 4) rfl q1_0 rfl ?_
  refine L_s (pc' := 5) rfl rfl ?_
  refine L_s (pc' := 6) (st' := [.int 14, .int 0, .ref 57, .int 0, .ref 10]) rfl rfl ?_
  refine L_s (pc' := 7) rfl rfl ?_
  refine L_s (pc' := 8) (st' := [.int 14, .int 14, .int 0, .ref 57, .int 0, .ref 10]) rfl rfl ?_
  refine L_s (pc' := 11) rfl rfl ?_
  refine L_e (b := 14) (by decide) ?_
  refine L_cp (pc' := 14) rfl sh_10 sh_57 (by decide) (by decide) (by decide) (by decide) rfl rfl ?_
  refine L_let fun g1 _ => ?_
  exact L_ret rfl rfl rfl
def x_copyInts_c12  (g : Sg) : Option (Sg) :=
  lt1 (cp2 g 11 0 58 0 (Int32.toNatClampNeg 14)) (fun g1 => (some g1))
theorem e_x_copyInts_c12 {X : Xx} {d : Nat} (hd : 1 ≤ d)  (g : Sg) : ∀ r, x_copyInts_c12  g = some r → EvM zft mtl X d 145 [.ref 11, .ref 58] (SHF, g) ((fun r : Sg => ((none, (SHF, r)) : Out)) r) := by
  obtain ⟨d, rfl⟩ : ∃ d0, d = d0 + 1 := ⟨d - 1, by omega⟩
  have hd : 0 ≤ d := by omega
  refine E_in (f := (fun r : Sg => ((none, (SHF, r)) : Out))) rfl (Nat.le_of_ble_eq_true rfl) ?_
  unfold x_copyInts_c12
  change Lt X d none k_145 _ 0 [some (.ref 11), some (.ref 58)] [] g _
  refine L_s (pc' := 1) rfl rfl ?_
  refine L_ic (pc' := 2) rfl q1_0 rfl ?_
  refine L_s (pc' := 3) rfl rfl ?_
  refine L_ic (pc' := 4) rfl q1_0 rfl ?_
  refine L_s (pc' := 5) rfl rfl ?_
  refine L_s (pc' := 6) (st' := [.int 14, .int 0, .ref 58, .int 0, .ref 11]) rfl rfl ?_
  refine L_s (pc' := 7) rfl rfl ?_
  refine L_s (pc' := 8) (st' := [.int 14, .int 14, .int 0, .ref 58, .int 0, .ref 11]) rfl rfl ?_
  refine L_s (pc' := 11) rfl rfl ?_
  refine L_e (b := 14) (by decide) ?_
  refine L_cp (pc' := 14) rfl sh_11 sh_58 (by decide) (by decide) (by decide) (by decide) rfl rfl ?_
  refine L_let fun g1 _ => ?_
  exact L_ret rfl rfl rfl
def x_copyInts_c13  (g : Sg) : Option (Sg) :=
  lt1 (cp2 g 12 0 59 0 (Int32.toNatClampNeg 14)) (fun g1 => (some g1))
theorem e_x_copyInts_c13 {X : Xx} {d : Nat} (hd : 1 ≤ d)  (g : Sg) : ∀ r, x_copyInts_c13  g = some r → EvM zft mtl X d 145 [.ref 12, .ref 59] (SHF, g) ((fun r : Sg => ((none, (SHF, r)) : Out)) r) := by
  obtain ⟨d, rfl⟩ : ∃ d0, d = d0 + 1 := ⟨d - 1, by omega⟩
  have hd : 0 ≤ d := by omega
  refine E_in (f := (fun r : Sg => ((none, (SHF, r)) : Out))) rfl (Nat.le_of_ble_eq_true rfl) ?_
  unfold x_copyInts_c13
  change Lt X d none k_145 _ 0 [some (.ref 12), some (.ref 59)] [] g _
  refine L_s (pc' := 1) rfl rfl ?_
  refine L_ic (pc' := 2) rfl q1_0 rfl ?_
  refine L_s (pc' := 3) rfl rfl ?_
  refine L_ic (pc' := 4) rfl q1_0 rfl ?_
  refine L_s (pc' := 5) rfl rfl ?_
  refine L_s (pc' := 6) (st' := [.int 14, .int 0, .ref 59, .int 0, .ref 12]) rfl rfl ?_
  refine L_s (pc' := 7) rfl rfl ?_
  refine L_s (pc' := 8) (st' := [.int 14, .int 14, .int 0, .ref 59, .int 0, .ref 12]) rfl rfl ?_
  refine L_s (pc' := 11) rfl rfl ?_
  refine L_e (b := 14) (by decide) ?_
  refine L_cp (pc' := 14) rfl sh_12 sh_59 (by decide) (by decide) (by decide) (by decide) rfl rfl ?_
  refine L_let fun g1 _ => ?_
  exact L_ret rfl rfl rfl
def x_copyInts_c14  (g : Sg) : Option (Sg) :=
  lt1 (cp2 g 13 0 60 0 (Int32.toNatClampNeg 14)) (fun g1 => (some g1))
theorem e_x_copyInts_c14 {X : Xx} {d : Nat} (hd : 1 ≤ d)  (g : Sg) : ∀ r, x_copyInts_c14  g = some r → EvM zft mtl X d 145 [.ref 13, .ref 60] (SHF, g) ((fun r : Sg => ((none, (SHF, r)) : Out)) r) := by
  obtain ⟨d, rfl⟩ : ∃ d0, d = d0 + 1 := ⟨d - 1, by omega⟩
  have hd : 0 ≤ d := by omega
  refine E_in (f := (fun r : Sg => ((none, (SHF, r)) : Out))) rfl (Nat.le_of_ble_eq_true rfl) ?_
  unfold x_copyInts_c14
  change Lt X d none k_145 _ 0 [some (.ref 13), some (.ref 60)] [] g _
  refine L_s (pc' := 1) rfl rfl ?_
  refine L_ic (pc' := 2) rfl q1_0 rfl ?_
  refine L_s (pc' := 3) rfl rfl ?_
  refine L_ic (pc' := 4) rfl q1_0 rfl ?_
  refine L_s (pc' := 5) rfl rfl ?_
  refine L_s (pc' := 6) (st' := [.int 14, .int 0, .ref 60, .int 0, .ref 13]) rfl rfl ?_
  refine L_s (pc' := 7) rfl rfl ?_
  refine L_s (pc' := 8) (st' := [.int 14, .int 14, .int 0, .ref 60, .int 0, .ref 13]) rfl rfl ?_
  refine L_s (pc' := 11) rfl rfl ?_
  refine L_e (b := 14) (by decide) ?_
  refine L_cp (pc' := 14) rfl sh_13 sh_60 (by decide) (by decide) (by decide) (by decide) rfl rfl ?_
  refine L_let fun g1 _ => ?_
  exact L_ret rfl rfl rfl
def x_copyInts_c15  (g : Sg) : Option (Sg) :=
  lt1 (cp2 g 14 0 61 0 (Int32.toNatClampNeg 14)) (fun g1 => (some g1))
theorem e_x_copyInts_c15 {X : Xx} {d : Nat} (hd : 1 ≤ d)  (g : Sg) : ∀ r, x_copyInts_c15  g = some r → EvM zft mtl X d 145 [.ref 14, .ref 61] (SHF, g) ((fun r : Sg => ((none, (SHF, r)) : Out)) r) := by
  obtain ⟨d, rfl⟩ : ∃ d0, d = d0 + 1 := ⟨d - 1, by omega⟩
  have hd : 0 ≤ d := by omega
  refine E_in (f := (fun r : Sg => ((none, (SHF, r)) : Out))) rfl (Nat.le_of_ble_eq_true rfl) ?_
  unfold x_copyInts_c15
  change Lt X d none k_145 _ 0 [some (.ref 14), some (.ref 61)] [] g _
  refine L_s (pc' := 1) rfl rfl ?_
  refine L_ic (pc' := 2) rfl q1_0 rfl ?_
  refine L_s (pc' := 3) rfl rfl ?_
  refine L_ic (pc' := 4) rfl q1_0 rfl ?_
  refine L_s (pc' := 5) rfl rfl ?_
  refine L_s (pc' := 6) (st' := [.int 14, .int 0, .ref 61, .int 0, .ref 14]) rfl rfl ?_
  refine L_s (pc' := 7) rfl rfl ?_
  refine L_s (pc' := 8) (st' := [.int 14, .int 14, .int 0, .ref 61, .int 0, .ref 14]) rfl rfl ?_
  refine L_s (pc' := 11) rfl rfl ?_
  refine L_e (b := 14) (by decide) ?_
  refine L_cp (pc' := 14) rfl sh_14 sh_61 (by decide) (by decide) (by decide) (by decide) rfl rfl ?_
  refine L_let fun g1 _ => ?_
  exact L_ret rfl rfl rfl
def x_copyFlags_c1  (g : Sg) : Option (Sg) :=
  lt1 (cp2 g 15 0 62 0 (Int32.toNatClampNeg 14)) (fun g1 => (some g1))
theorem e_x_copyFlags_c1 {X : Xx} {d : Nat} (hd : 1 ≤ d)  (g : Sg) : ∀ r, x_copyFlags_c1  g = some r → EvM zft mtl X d 147 [.ref 15, .ref 62] (SHF, g) ((fun r : Sg => ((none, (SHF, r)) : Out)) r) := by
  obtain ⟨d, rfl⟩ : ∃ d0, d = d0 + 1 := ⟨d - 1, by omega⟩
  have hd : 0 ≤ d := by omega
  refine E_in (f := (fun r : Sg => ((none, (SHF, r)) : Out))) rfl (Nat.le_of_ble_eq_true rfl) ?_
  unfold x_copyFlags_c1
  change Lt X d none k_147 _ 0 [some (.ref 15), some (.ref 62)] [] g _
  refine L_s (pc' := 1) rfl rfl ?_
  refine L_ic (pc' := 2) rfl q1_0 rfl ?_
  refine L_s (pc' := 3) rfl rfl ?_
  refine L_ic (pc' := 4) rfl q1_0 rfl ?_
  refine L_s (pc' := 5) rfl rfl ?_
  refine L_s (pc' := 6) (st' := [.int 14, .int 0, .ref 62, .int 0, .ref 15]) rfl rfl ?_
  refine L_s (pc' := 7) rfl rfl ?_
  refine L_s (pc' := 8) (st' := [.int 14, .int 14, .int 0, .ref 62, .int 0, .ref 15]) rfl rfl ?_
  refine L_s (pc' := 11) rfl rfl ?_
  refine L_e (b := 14) (by decide) ?_
  refine L_cp (pc' := 14) rfl sh_15 sh_62 (by decide) (by decide) (by decide) (by decide) rfl rfl ?_
  refine L_let fun g1 _ => ?_
  exact L_ret rfl rfl rfl
def x_copyInts_c16  (g : Sg) : Option (Sg) :=
  lt1 (cp2 g 7 0 54 0 (Int32.toNatClampNeg 10)) (fun g1 => (some g1))
theorem e_x_copyInts_c16 {X : Xx} {d : Nat} (hd : 1 ≤ d)  (g : Sg) : ∀ r, x_copyInts_c16  g = some r → EvM zft mtl X d 145 [.ref 7, .ref 54] (SHF, g) ((fun r : Sg => ((none, (SHF, r)) : Out)) r) := by
  obtain ⟨d, rfl⟩ : ∃ d0, d = d0 + 1 := ⟨d - 1, by omega⟩
  have hd : 0 ≤ d := by omega
  refine E_in (f := (fun r : Sg => ((none, (SHF, r)) : Out))) rfl (Nat.le_of_ble_eq_true rfl) ?_
  unfold x_copyInts_c16
  change Lt X d none k_145 _ 0 [some (.ref 7), some (.ref 54)] [] g _
  refine L_s (pc' := 1) rfl rfl ?_
  refine L_ic (pc' := 2) rfl q1_0 rfl ?_
  refine L_s (pc' := 3) rfl rfl ?_
  refine L_ic (pc' := 4) rfl q1_0 rfl ?_
  refine L_s (pc' := 5) rfl rfl ?_
  refine L_s (pc' := 6) (st' := [.int 10, .int 0, .ref 54, .int 0, .ref 7]) rfl rfl ?_
  refine L_s (pc' := 7) rfl rfl ?_
  refine L_s (pc' := 8) (st' := [.int 10, .int 10, .int 0, .ref 54, .int 0, .ref 7]) rfl rfl ?_
  refine L_s (pc' := 11) rfl rfl ?_
  refine L_e (b := 10) (by decide) ?_
  refine L_cp (pc' := 14) rfl sh_7 sh_54 (by decide) (by decide) (by decide) (by decide) rfl rfl ?_
  refine L_let fun g1 _ => ?_
  exact L_ret rfl rfl rfl
def x_copyInts_c17  (g : Sg) : Option (Sg) :=
  lt1 (cp2 g 17 0 64 0 (Int32.toNatClampNeg 126)) (fun g1 => (some g1))
theorem e_x_copyInts_c17 {X : Xx} {d : Nat} (hd : 1 ≤ d)  (g : Sg) : ∀ r, x_copyInts_c17  g = some r → EvM zft mtl X d 145 [.ref 17, .ref 64] (SHF, g) ((fun r : Sg => ((none, (SHF, r)) : Out)) r) := by
  obtain ⟨d, rfl⟩ : ∃ d0, d = d0 + 1 := ⟨d - 1, by omega⟩
  have hd : 0 ≤ d := by omega
  refine E_in (f := (fun r : Sg => ((none, (SHF, r)) : Out))) rfl (Nat.le_of_ble_eq_true rfl) ?_
  unfold x_copyInts_c17
  change Lt X d none k_145 _ 0 [some (.ref 17), some (.ref 64)] [] g _
  refine L_s (pc' := 1) rfl rfl ?_
  refine L_ic (pc' := 2) rfl q1_0 rfl ?_
  refine L_s (pc' := 3) rfl rfl ?_
  refine L_ic (pc' := 4) rfl q1_0 rfl ?_
  refine L_s (pc' := 5) rfl rfl ?_
  refine L_s (pc' := 6) (st' := [.int 126, .int 0, .ref 64, .int 0, .ref 17]) rfl rfl ?_
  refine L_s (pc' := 7) rfl rfl ?_
  refine L_s (pc' := 8) (st' := [.int 126, .int 126, .int 0, .ref 64, .int 0, .ref 17]) rfl rfl ?_
  refine L_s (pc' := 11) rfl rfl ?_
  refine L_e (b := 126) (by decide) ?_
  refine L_cp (pc' := 14) rfl sh_17 sh_64 (by decide) (by decide) (by decide) (by decide) rfl rfl ?_
  refine L_let fun g1 _ => ?_
  exact L_ret rfl rfl rfl
def x_copyInts_c18  (g : Sg) : Option (Sg) :=
  lt1 (cp2 g 8 0 55 0 (Int32.toNatClampNeg 10)) (fun g1 => (some g1))
theorem e_x_copyInts_c18 {X : Xx} {d : Nat} (hd : 1 ≤ d)  (g : Sg) : ∀ r, x_copyInts_c18  g = some r → EvM zft mtl X d 145 [.ref 8, .ref 55] (SHF, g) ((fun r : Sg => ((none, (SHF, r)) : Out)) r) := by
  obtain ⟨d, rfl⟩ : ∃ d0, d = d0 + 1 := ⟨d - 1, by omega⟩
  have hd : 0 ≤ d := by omega
  refine E_in (f := (fun r : Sg => ((none, (SHF, r)) : Out))) rfl (Nat.le_of_ble_eq_true rfl) ?_
  unfold x_copyInts_c18
  change Lt X d none k_145 _ 0 [some (.ref 8), some (.ref 55)] [] g _
  refine L_s (pc' := 1) rfl rfl ?_
  refine L_ic (pc' := 2) rfl q1_0 rfl ?_
  refine L_s (pc' := 3) rfl rfl ?_
  refine L_ic (pc' := 4) rfl q1_0 rfl ?_
  refine L_s (pc' := 5) rfl rfl ?_
  refine L_s (pc' := 6) (st' := [.int 10, .int 0, .ref 55, .int 0, .ref 8]) rfl rfl ?_
  refine L_s (pc' := 7) rfl rfl ?_
  refine L_s (pc' := 8) (st' := [.int 10, .int 10, .int 0, .ref 55, .int 0, .ref 8]) rfl rfl ?_
  refine L_s (pc' := 11) rfl rfl ?_
  refine L_e (b := 10) (by decide) ?_
  refine L_cp (pc' := 14) rfl sh_8 sh_55 (by decide) (by decide) (by decide) (by decide) rfl rfl ?_
  refine L_let fun g1 _ => ?_
  exact L_ret rfl rfl rfl
def x_copyInts_c19  (g : Sg) : Option (Sg) :=
  lt1 (cp2 g 18 0 65 0 (Int32.toNatClampNeg 126)) (fun g1 => (some g1))
theorem e_x_copyInts_c19 {X : Xx} {d : Nat} (hd : 1 ≤ d)  (g : Sg) : ∀ r, x_copyInts_c19  g = some r → EvM zft mtl X d 145 [.ref 18, .ref 65] (SHF, g) ((fun r : Sg => ((none, (SHF, r)) : Out)) r) := by
  obtain ⟨d, rfl⟩ : ∃ d0, d = d0 + 1 := ⟨d - 1, by omega⟩
  have hd : 0 ≤ d := by omega
  refine E_in (f := (fun r : Sg => ((none, (SHF, r)) : Out))) rfl (Nat.le_of_ble_eq_true rfl) ?_
  unfold x_copyInts_c19
  change Lt X d none k_145 _ 0 [some (.ref 18), some (.ref 65)] [] g _
  refine L_s (pc' := 1) rfl rfl ?_
  refine L_ic (pc' := 2) rfl q1_0 rfl ?_
  refine L_s (pc' := 3) rfl rfl ?_
  refine L_ic (pc' := 4) rfl q1_0 rfl ?_
  refine L_s (pc' := 5) rfl rfl ?_
  refine L_s (pc' := 6) (st' := [.int 126, .int 0, .ref 65, .int 0, .ref 18]) rfl rfl ?_
  refine L_s (pc' := 7) rfl rfl ?_
  refine L_s (pc' := 8) (st' := [.int 126, .int 126, .int 0, .ref 65, .int 0, .ref 18]) rfl rfl ?_
  refine L_s (pc' := 11) rfl rfl ?_
  refine L_e (b := 126) (by decide) ?_
  refine L_cp (pc' := 14) rfl sh_18 sh_65 (by decide) (by decide) (by decide) (by decide) rfl rfl ?_
  refine L_let fun g1 _ => ?_
  exact L_ret rfl rfl rfl
def x_copyInts_c20  (g : Sg) : Option (Sg) :=
  lt1 (cp2 g 19 0 66 0 (Int32.toNatClampNeg 2)) (fun g1 => (some g1))
theorem e_x_copyInts_c20 {X : Xx} {d : Nat} (hd : 1 ≤ d)  (g : Sg) : ∀ r, x_copyInts_c20  g = some r → EvM zft mtl X d 145 [.ref 19, .ref 66] (SHF, g) ((fun r : Sg => ((none, (SHF, r)) : Out)) r) := by
  obtain ⟨d, rfl⟩ : ∃ d0, d = d0 + 1 := ⟨d - 1, by omega⟩
  have hd : 0 ≤ d := by omega
  refine E_in (f := (fun r : Sg => ((none, (SHF, r)) : Out))) rfl (Nat.le_of_ble_eq_true rfl) ?_
  unfold x_copyInts_c20
  change Lt X d none k_145 _ 0 [some (.ref 19), some (.ref 66)] [] g _
  refine L_s (pc' := 1) rfl rfl ?_
  refine L_ic (pc' := 2) rfl q1_0 rfl ?_
  refine L_s (pc' := 3) rfl rfl ?_
  refine L_ic (pc' := 4) rfl q1_0 rfl ?_
  refine L_s (pc' := 5) rfl rfl ?_
  refine L_s (pc' := 6) (st' := [.int 2, .int 0, .ref 66, .int 0, .ref 19]) rfl rfl ?_
  refine L_s (pc' := 7) rfl rfl ?_
  refine L_s (pc' := 8) (st' := [.int 2, .int 2, .int 0, .ref 66, .int 0, .ref 19]) rfl rfl ?_
  refine L_s (pc' := 11) rfl rfl ?_
  refine L_e (b := 2) (by decide) ?_
  refine L_cp (pc' := 14) rfl sh_19 sh_66 (by decide) (by decide) (by decide) (by decide) rfl rfl ?_
  refine L_let fun g1 _ => ?_
  exact L_ret rfl rfl rfl
def x_copyInts_c21  (g : Sg) : Option (Sg) :=
  lt1 (cp2 g 20 0 67 0 (Int32.toNatClampNeg 2)) (fun g1 => (some g1))
theorem e_x_copyInts_c21 {X : Xx} {d : Nat} (hd : 1 ≤ d)  (g : Sg) : ∀ r, x_copyInts_c21  g = some r → EvM zft mtl X d 145 [.ref 20, .ref 67] (SHF, g) ((fun r : Sg => ((none, (SHF, r)) : Out)) r) := by
  obtain ⟨d, rfl⟩ : ∃ d0, d = d0 + 1 := ⟨d - 1, by omega⟩
  have hd : 0 ≤ d := by omega
  refine E_in (f := (fun r : Sg => ((none, (SHF, r)) : Out))) rfl (Nat.le_of_ble_eq_true rfl) ?_
  unfold x_copyInts_c21
  change Lt X d none k_145 _ 0 [some (.ref 20), some (.ref 67)] [] g _
  refine L_s (pc' := 1) rfl rfl ?_
  refine L_ic (pc' := 2) rfl q1_0 rfl ?_
  refine L_s (pc' := 3) rfl rfl ?_
  refine L_ic (pc' := 4) rfl q1_0 rfl ?_
  refine L_s (pc' := 5) rfl rfl ?_
  refine L_s (pc' := 6) (st' := [.int 2, .int 0, .ref 67, .int 0, .ref 20]) rfl rfl ?_
  refine L_s (pc' := 7) rfl rfl ?_
  refine L_s (pc' := 8) (st' := [.int 2, .int 2, .int 0, .ref 67, .int 0, .ref 20]) rfl rfl ?_
  refine L_s (pc' := 11) rfl rfl ?_
  refine L_e (b := 2) (by decide) ?_
  refine L_cp (pc' := 14) rfl sh_20 sh_67 (by decide) (by decide) (by decide) (by decide) rfl rfl ?_
  refine L_let fun g1 _ => ?_
  exact L_ret rfl rfl rfl
def x_copyInts_c22  (g : Sg) : Option (Sg) :=
  lt1 (cp2 g 21 0 68 0 (Int32.toNatClampNeg 2)) (fun g1 => (some g1))
theorem e_x_copyInts_c22 {X : Xx} {d : Nat} (hd : 1 ≤ d)  (g : Sg) : ∀ r, x_copyInts_c22  g = some r → EvM zft mtl X d 145 [.ref 21, .ref 68] (SHF, g) ((fun r : Sg => ((none, (SHF, r)) : Out)) r) := by
  obtain ⟨d, rfl⟩ : ∃ d0, d = d0 + 1 := ⟨d - 1, by omega⟩
  have hd : 0 ≤ d := by omega
  refine E_in (f := (fun r : Sg => ((none, (SHF, r)) : Out))) rfl (Nat.le_of_ble_eq_true rfl) ?_
  unfold x_copyInts_c22
  change Lt X d none k_145 _ 0 [some (.ref 21), some (.ref 68)] [] g _
  refine L_s (pc' := 1) rfl rfl ?_
  refine L_ic (pc' := 2) rfl q1_0 rfl ?_
  refine L_s (pc' := 3) rfl rfl ?_
  refine L_ic (pc' := 4) rfl q1_0 rfl ?_
  refine L_s (pc' := 5) rfl rfl ?_
  refine L_s (pc' := 6) (st' := [.int 2, .int 0, .ref 68, .int 0, .ref 21]) rfl rfl ?_
  refine L_s (pc' := 7) rfl rfl ?_
  refine L_s (pc' := 8) (st' := [.int 2, .int 2, .int 0, .ref 68, .int 0, .ref 21]) rfl rfl ?_
  refine L_s (pc' := 11) rfl rfl ?_
  refine L_e (b := 2) (by decide) ?_
  refine L_cp (pc' := 14) rfl sh_21 sh_68 (by decide) (by decide) (by decide) (by decide) rfl rfl ?_
  refine L_let fun g1 _ => ?_
  exact L_ret rfl rfl rfl
def net_copyFrom  (g : Sg) : Option (Sg) :=
  lt1 (up2 g 49 0 (g 2 0)) (fun g1 => lt1 (up2 g1 49 1 (g1 2 1)) (fun g2 => lt1 (up2 g2 49 6 (g2 2 6)) (fun g3 => Option.bind (x_copyInts_c7 g3) (fun g4 => Option.bind (x_copyInts_c8 g4) (fun g5 => Option.bind (x_copyInts_c9 g5) (fun g6 => Option.bind (x_copyInts_c10 g6) (fun g7 => Option.bind (x_copyInts_c11 g7) (fun g8 => Option.bind (x_copyInts_c12 g8) (fun g9 => Option.bind (x_copyInts_c13 g9) (fun g10 => Option.bind (x_copyInts_c14 g10) (fun g11 => Option.bind (x_copyInts_c15 g11) (fun g12 => Option.bind (x_copyFlags_c1 g12) (fun g13 => Option.bind (x_copyInts_c16 g13) (fun g14 => Option.bind (x_copyInts_c17 g14) (fun g15 => Option.bind (x_copyInts_c18 g15) (fun g16 => Option.bind (x_copyInts_c19 g16) (fun g17 => Option.bind (x_copyInts_c20 g17) (fun g18 => Option.bind (x_copyInts_c21 g18) (fun g19 => Option.bind (x_copyInts_c22 g19) (fun g20 => (some g20)))))))))))))))))))))
theorem e_net_copyFrom {X : Xx} {d : Nat} (hd : 2 ≤ d)  (g : Sg) : ∀ r, net_copyFrom  g = some r → EvM zft mtl X d 42 [.ref 49, .ref 2] (SHF, g) ((fun r : Sg => ((none, (SHF, r)) : Out)) r) := by
  obtain ⟨d, rfl⟩ : ∃ d0, d = d0 + 1 := ⟨d - 1, by omega⟩
  have hd : 1 ≤ d := by omega
  refine E_in (f := (fun r : Sg => ((none, (SHF, r)) : Out))) rfl (Nat.le_of_ble_eq_true rfl) ?_
  unfold net_copyFrom
  change Lt X d none k_42 _ 0 [some (.ref 49), some (.ref 2), none] [] g _
  refine L_s (pc' := 1) rfl rfl ?_
  refine L_s (pc' := 2) rfl rfl ?_
  refine L_gf (pc' := 5) rfl fi_2_0 rfl ?_
  refine L_pf (pc' := 8) rfl sh_49 (by decide) rfl rfl ?_
  refine L_let fun g1 _ => ?_
  refine L_s (pc' := 9) rfl rfl ?_
  refine L_s (pc' := 10) rfl rfl ?_
  refine L_gf (pc' := 13) rfl fi_2_1 rfl ?_
  refine L_pf (pc' := 16) rfl sh_49 (by decide) rfl rfl ?_
  refine L_let fun g2 _ => ?_
  refine L_s (pc' := 17) rfl rfl ?_
  refine L_s (pc' := 18) rfl rfl ?_
  refine L_gf (pc' := 21) rfl fi_2_6 rfl ?_
  refine L_pf (pc' := 24) rfl sh_49 (by decide) rfl rfl ?_
  refine L_let fun g3 _ => ?_
  refine L_s (pc' := 25) rfl rfl ?_
  refine L_gf (pc' := 28) rfl fr_2_2 rfl ?_
  refine L_s (pc' := 29) rfl rfl ?_
  refine L_gf (pc' := 32) rfl fr_49_2 rfl ?_
  refine L_cv (pc' := 35) (as := [.ref 3, .ref 50]) (rest := []) rfl rfl (e_x_copyInts_c7 (by omega) _) rfl fun g4 => ?_
  refine L_s (pc' := 36) rfl rfl ?_
  refine L_gf (pc' := 39) rfl fr_2_3 rfl ?_
  refine L_s (pc' := 40) rfl rfl ?_
  refine L_gf (pc' := 43) rfl fr_49_3 rfl ?_
  refine L_cv (pc' := 46) (as := [.ref 4, .ref 51]) (rest := []) rfl rfl (e_x_copyInts_c8 (by omega) _) rfl fun g5 => ?_
  refine L_s (pc' := 47) rfl rfl ?_
  refine L_gf (pc' := 50) rfl fr_2_4 rfl ?_
  refine L_s (pc' := 51) rfl rfl ?_
  refine L_gf (pc' := 54) rfl fr_49_4 rfl ?_
  refine L_cv (pc' := 57) (as := [.ref 5, .ref 52]) (rest := []) rfl rfl (e_x_copyInts_c9 (by omega) _) rfl fun g6 => ?_
  refine L_s (pc' := 58) rfl rfl ?_
  refine L_gf (pc' := 61) rfl fr_2_7 rfl ?_
  refine L_s (pc' := 62) rfl rfl ?_
  refine L_gf (pc' := 65) rfl fr_49_7 rfl ?_
  refine L_cv (pc' := 68) (as := [.ref 9, .ref 56]) (rest := []) rfl rfl (e_x_copyInts_c10 (by omega) _) rfl fun g7 => ?_
  refine L_s (pc' := 69) rfl rfl ?_
  refine L_gf (pc' := 72) rfl fr_2_8 rfl ?_
  refine L_s (pc' := 73) rfl rfl ?_
  refine L_gf (pc' := 76) rfl fr_49_8 rfl ?_
  refine L_cv (pc' := 79) (as := [.ref 10, .ref 57]) (rest := []) rfl rfl (e_x_copyInts_c11 (by omega) _) rfl fun g8 => ?_
  refine L_s (pc' := 80) rfl rfl ?_
  refine L_gf (pc' := 83) rfl fr_2_9 rfl ?_
  refine L_s (pc' := 84) rfl rfl ?_
  refine L_gf (pc' := 87) rfl fr_49_9 rfl ?_
  refine L_cv (pc' := 90) (as := [.ref 11, .ref 58]) (rest := []) rfl rfl (e_x_copyInts_c12 (by omega) _) rfl fun g9 => ?_
  refine L_s (pc' := 91) rfl rfl ?_
  refine L_gf (pc' := 94) rfl fr_2_10 rfl ?_
  refine L_s (pc' := 95) rfl rfl ?_
  refine L_gf (pc' := 98) rfl fr_49_10 rfl ?_
  refine L_cv (pc' := 101) (as := [.ref 12, .ref 59]) (rest := []) rfl rfl (e_x_copyInts_c13 (by omega) _) rfl fun g10 => ?_
  refine L_s (pc' := 102) rfl rfl ?_
  refine L_gf (pc' := 105) rfl fr_2_11 rfl ?_
  refine L_s (pc' := 106) rfl rfl ?_
  refine L_gf (pc' := 109) rfl fr_49_11 rfl ?_
  refine L_cv (pc' := 112) (as := [.ref 13, .ref 60]) (rest := []) rfl rfl (e_x_copyInts_c14 (by omega) _) rfl fun g11 => ?_
  refine L_s (pc' := 113) rfl rfl ?_
  refine L_gf (pc' := 116) rfl fr_2_12 rfl ?_
  refine L_s (pc' := 117) rfl rfl ?_
  refine L_gf (pc' := 120) rfl fr_49_12 rfl ?_
  refine L_cv (pc' := 123) (as := [.ref 14, .ref 61]) (rest := []) rfl rfl (e_x_copyInts_c15 (by omega) _) rfl fun g12 => ?_
  refine L_s (pc' := 124) rfl rfl ?_
  refine L_gf (pc' := 127) rfl fr_2_13 rfl ?_
  refine L_s (pc' := 128) rfl rfl ?_
  refine L_gf (pc' := 131) rfl fr_49_13 rfl ?_
  refine L_cv (pc' := 134) (as := [.ref 15, .ref 62]) (rest := []) rfl rfl (e_x_copyFlags_c1 (by omega) _) rfl fun g13 => ?_
  refine L_ic (pc' := 135) rfl q1_0 rfl ?_
  refine L_s (pc' := 136) (L' := [some (.ref 49), some (.ref 2), some (.int 0)]) rfl rfl ?_
  refine L_s (pc' := 137) rfl rfl ?_
  refine L_ic (pc' := 138) rfl q1_2 rfl ?_
  refine L_bf (c := (2 : Int32) ≤ 0) (t := 177) (n := 141) rfl rfl (by decide) ?_
  refine L_s (pc' := 142) rfl rfl ?_
  refine L_gf (pc' := 145) rfl fr_2_5 rfl ?_
  refine L_s (pc' := 146) rfl rfl ?_
  refine L_aa (pc' := 147) rfl sh_6 (by decide) (by decide) rfl rfl ?_
  refine L_s (pc' := 148) rfl rfl ?_
  refine L_gf (pc' := 151) rfl fr_49_5 rfl ?_
  refine L_s (pc' := 152) rfl rfl ?_
  refine L_aa (pc' := 153) rfl sh_53 (by decide) (by decide) rfl rfl ?_
  refine L_cv (pc' := 156) (as := [.ref 7, .ref 54]) (rest := []) rfl rfl (e_x_copyInts_c16 (by omega) _) rfl fun g14 => ?_
  refine L_s (pc' := 157) rfl rfl ?_
  refine L_gf (pc' := 160) rfl fr_2_14 rfl ?_
  refine L_s (pc' := 161) rfl rfl ?_
  refine L_aa (pc' := 162) rfl sh_16 (by decide) (by decide) rfl rfl ?_
  refine L_s (pc' := 163) rfl rfl ?_
  refine L_gf (pc' := 166) rfl fr_49_14 rfl ?_
  refine L_s (pc' := 167) rfl rfl ?_
  refine L_aa (pc' := 168) rfl sh_63 (by decide) (by decide) rfl rfl ?_
  refine L_cv (pc' := 171) (as := [.ref 17, .ref 64]) (rest := []) rfl rfl (e_x_copyInts_c17 (by omega) _) rfl fun g15 => ?_
  refine L_ii (pc' := 174) (L' := [some (.ref 49), some (.ref 2), some (.int 1)]) rfl rfl q1_1 (by decide : (0 : Int32) + 1 = 1) rfl rfl ?_
  refine L_s (pc' := 136) rfl rfl ?_
  refine L_s (pc' := 137) rfl rfl ?_
  refine L_ic (pc' := 138) rfl q1_2 rfl ?_
  refine L_bf (c := (2 : Int32) ≤ 1) (t := 177) (n := 141) rfl rfl (by decide) ?_
  refine L_s (pc' := 142) rfl rfl ?_
  refine L_gf (pc' := 145) rfl fr_2_5 rfl ?_
  refine L_s (pc' := 146) rfl rfl ?_
  refine L_aa (pc' := 147) rfl sh_6 (by decide) (by decide) rfl rfl ?_
  refine L_s (pc' := 148) rfl rfl ?_
  refine L_gf (pc' := 151) rfl fr_49_5 rfl ?_
  refine L_s (pc' := 152) rfl rfl ?_
  refine L_aa (pc' := 153) rfl sh_53 (by decide) (by decide) rfl rfl ?_
  refine L_cv (pc' := 156) (as := [.ref 8, .ref 55]) (rest := []) rfl rfl (e_x_copyInts_c18 (by omega) _) rfl fun g16 => ?_
  refine L_s (pc' := 157) rfl rfl ?_
  refine L_gf (pc' := 160) rfl fr_2_14 rfl ?_
  refine L_s (pc' := 161) rfl rfl ?_
  refine L_aa (pc' := 162) rfl sh_16 (by decide) (by decide) rfl rfl ?_
  refine L_s (pc' := 163) rfl rfl ?_
  refine L_gf (pc' := 166) rfl fr_49_14 rfl ?_
  refine L_s (pc' := 167) rfl rfl ?_
  refine L_aa (pc' := 168) rfl sh_63 (by decide) (by decide) rfl rfl ?_
  refine L_cv (pc' := 171) (as := [.ref 18, .ref 65]) (rest := []) rfl rfl (e_x_copyInts_c19 (by omega) _) rfl fun g17 => ?_
  refine L_ii (pc' := 174) (L' := [some (.ref 49), some (.ref 2), some (.int 2)]) rfl rfl q1_1 (by decide : (1 : Int32) + 1 = 2) rfl rfl ?_
  refine L_s (pc' := 136) rfl rfl ?_
  refine L_s (pc' := 137) rfl rfl ?_
  refine L_ic (pc' := 138) rfl q1_2 rfl ?_
  refine L_bt (c := (2 : Int32) ≤ 2) (t := 177) (n := 141) rfl rfl (by decide) ?_
  refine L_s (pc' := 178) rfl rfl ?_
  refine L_gf (pc' := 181) rfl fr_2_15 rfl ?_
  refine L_s (pc' := 182) rfl rfl ?_
  refine L_gf (pc' := 185) rfl fr_49_15 rfl ?_
  refine L_cv (pc' := 188) (as := [.ref 19, .ref 66]) (rest := []) rfl rfl (e_x_copyInts_c20 (by omega) _) rfl fun g18 => ?_
  refine L_s (pc' := 189) rfl rfl ?_
  refine L_gf (pc' := 192) rfl fr_2_16 rfl ?_
  refine L_s (pc' := 193) rfl rfl ?_
  refine L_gf (pc' := 196) rfl fr_49_16 rfl ?_
  refine L_cv (pc' := 199) (as := [.ref 20, .ref 67]) (rest := []) rfl rfl (e_x_copyInts_c21 (by omega) _) rfl fun g19 => ?_
  refine L_s (pc' := 200) rfl rfl ?_
  refine L_gf (pc' := 203) rfl fr_2_17 rfl ?_
  refine L_s (pc' := 204) rfl rfl ?_
  refine L_gf (pc' := 207) rfl fr_49_17 rfl ?_
  refine L_cv (pc' := 210) (as := [.ref 21, .ref 68]) (rest := []) rfl rfl (e_x_copyInts_c22 (by omega) _) rfl fun g20 => ?_
  exact L_ret rfl rfl rfl
def x_copyInts_c23  (g : Sg) : Option (Sg) :=
  lt1 (cp2 g 23 0 70 0 (Int32.toNatClampNeg 8)) (fun g1 => (some g1))
theorem e_x_copyInts_c23 {X : Xx} {d : Nat} (hd : 1 ≤ d)  (g : Sg) : ∀ r, x_copyInts_c23  g = some r → EvM zft mtl X d 145 [.ref 23, .ref 70] (SHF, g) ((fun r : Sg => ((none, (SHF, r)) : Out)) r) := by
  obtain ⟨d, rfl⟩ : ∃ d0, d = d0 + 1 := ⟨d - 1, by omega⟩
  have hd : 0 ≤ d := by omega
  refine E_in (f := (fun r : Sg => ((none, (SHF, r)) : Out))) rfl (Nat.le_of_ble_eq_true rfl) ?_
  unfold x_copyInts_c23
  change Lt X d none k_145 _ 0 [some (.ref 23), some (.ref 70)] [] g _
  refine L_s (pc' := 1) rfl rfl ?_
  refine L_ic (pc' := 2) rfl q1_0 rfl ?_
  refine L_s (pc' := 3) rfl rfl ?_
  refine L_ic (pc' := 4) rfl q1_0 rfl ?_
  refine L_s (pc' := 5) rfl rfl ?_
  refine L_s (pc' := 6) (st' := [.int 8, .int 0, .ref 70, .int 0, .ref 23]) rfl rfl ?_
  refine L_s (pc' := 7) rfl rfl ?_
  refine L_s (pc' := 8) (st' := [.int 8, .int 8, .int 0, .ref 70, .int 0, .ref 23]) rfl rfl ?_
  refine L_s (pc' := 11) rfl rfl ?_
  refine L_e (b := 8) (by decide) ?_
  refine L_cp (pc' := 14) rfl sh_23 sh_70 (by decide) (by decide) (by decide) (by decide) rfl rfl ?_
  refine L_let fun g1 _ => ?_
  exact L_ret rfl rfl rfl
def x_copyInts_c24  (g : Sg) : Option (Sg) :=
  lt1 (cp2 g 24 0 71 0 (Int32.toNatClampNeg 120)) (fun g1 => (some g1))
theorem e_x_copyInts_c24 {X : Xx} {d : Nat} (hd : 1 ≤ d)  (g : Sg) : ∀ r, x_copyInts_c24  g = some r → EvM zft mtl X d 145 [.ref 24, .ref 71] (SHF, g) ((fun r : Sg => ((none, (SHF, r)) : Out)) r) := by
  obtain ⟨d, rfl⟩ : ∃ d0, d = d0 + 1 := ⟨d - 1, by omega⟩
  have hd : 0 ≤ d := by omega
  refine E_in (f := (fun r : Sg => ((none, (SHF, r)) : Out))) rfl (Nat.le_of_ble_eq_true rfl) ?_
  unfold x_copyInts_c24
  change Lt X d none k_145 _ 0 [some (.ref 24), some (.ref 71)] [] g _
  refine L_s (pc' := 1) rfl rfl ?_
  refine L_ic (pc' := 2) rfl q1_0 rfl ?_
  refine L_s (pc' := 3) rfl rfl ?_
  refine L_ic (pc' := 4) rfl q1_0 rfl ?_
  refine L_s (pc' := 5) rfl rfl ?_
  refine L_s (pc' := 6) (st' := [.int 120, .int 0, .ref 71, .int 0, .ref 24]) rfl rfl ?_
  refine L_s (pc' := 7) rfl rfl ?_
  refine L_s (pc' := 8) (st' := [.int 120, .int 120, .int 0, .ref 71, .int 0, .ref 24]) rfl rfl ?_
  refine L_s (pc' := 11) rfl rfl ?_
  refine L_e (b := 120) (by decide) ?_
  refine L_cp (pc' := 14) rfl sh_24 sh_71 (by decide) (by decide) (by decide) (by decide) rfl rfl ?_
  refine L_let fun g1 _ => ?_
  exact L_ret rfl rfl rfl
def x_copyInts_c25  (g : Sg) : Option (Sg) :=
  lt1 (cp2 g 25 0 72 0 (Int32.toNatClampNeg 120)) (fun g1 => (some g1))
theorem e_x_copyInts_c25 {X : Xx} {d : Nat} (hd : 1 ≤ d)  (g : Sg) : ∀ r, x_copyInts_c25  g = some r → EvM zft mtl X d 145 [.ref 25, .ref 72] (SHF, g) ((fun r : Sg => ((none, (SHF, r)) : Out)) r) := by
  obtain ⟨d, rfl⟩ : ∃ d0, d = d0 + 1 := ⟨d - 1, by omega⟩
  have hd : 0 ≤ d := by omega
  refine E_in (f := (fun r : Sg => ((none, (SHF, r)) : Out))) rfl (Nat.le_of_ble_eq_true rfl) ?_
  unfold x_copyInts_c25
  change Lt X d none k_145 _ 0 [some (.ref 25), some (.ref 72)] [] g _
  refine L_s (pc' := 1) rfl rfl ?_
  refine L_ic (pc' := 2) rfl q1_0 rfl ?_
  refine L_s (pc' := 3) rfl rfl ?_
  refine L_ic (pc' := 4) rfl q1_0 rfl ?_
  refine L_s (pc' := 5) rfl rfl ?_
  refine L_s (pc' := 6) (st' := [.int 120, .int 0, .ref 72, .int 0, .ref 25]) rfl rfl ?_
  refine L_s (pc' := 7) rfl rfl ?_
  refine L_s (pc' := 8) (st' := [.int 120, .int 120, .int 0, .ref 72, .int 0, .ref 25]) rfl rfl ?_
  refine L_s (pc' := 11) rfl rfl ?_
  refine L_e (b := 120) (by decide) ?_
  refine L_cp (pc' := 14) rfl sh_25 sh_72 (by decide) (by decide) (by decide) (by decide) rfl rfl ?_
  refine L_let fun g1 _ => ?_
  exact L_ret rfl rfl rfl
def x_copyInts_c26  (g : Sg) : Option (Sg) :=
  lt1 (cp2 g 26 0 73 0 (Int32.toNatClampNeg 120)) (fun g1 => (some g1))
theorem e_x_copyInts_c26 {X : Xx} {d : Nat} (hd : 1 ≤ d)  (g : Sg) : ∀ r, x_copyInts_c26  g = some r → EvM zft mtl X d 145 [.ref 26, .ref 73] (SHF, g) ((fun r : Sg => ((none, (SHF, r)) : Out)) r) := by
  obtain ⟨d, rfl⟩ : ∃ d0, d = d0 + 1 := ⟨d - 1, by omega⟩
  have hd : 0 ≤ d := by omega
  refine E_in (f := (fun r : Sg => ((none, (SHF, r)) : Out))) rfl (Nat.le_of_ble_eq_true rfl) ?_
  unfold x_copyInts_c26
  change Lt X d none k_145 _ 0 [some (.ref 26), some (.ref 73)] [] g _
  refine L_s (pc' := 1) rfl rfl ?_
  refine L_ic (pc' := 2) rfl q1_0 rfl ?_
  refine L_s (pc' := 3) rfl rfl ?_
  refine L_ic (pc' := 4) rfl q1_0 rfl ?_
  refine L_s (pc' := 5) rfl rfl ?_
  refine L_s (pc' := 6) (st' := [.int 120, .int 0, .ref 73, .int 0, .ref 26]) rfl rfl ?_
  refine L_s (pc' := 7) rfl rfl ?_
  refine L_s (pc' := 8) (st' := [.int 120, .int 120, .int 0, .ref 73, .int 0, .ref 26]) rfl rfl ?_
  refine L_s (pc' := 11) rfl rfl ?_
  refine L_e (b := 120) (by decide) ?_
  refine L_cp (pc' := 14) rfl sh_26 sh_73 (by decide) (by decide) (by decide) (by decide) rfl rfl ?_
  refine L_let fun g1 _ => ?_
  exact L_ret rfl rfl rfl
def x_copyInts_c27  (g : Sg) : Option (Sg) :=
  lt1 (cp2 g 27 0 74 0 (Int32.toNatClampNeg 120)) (fun g1 => (some g1))
theorem e_x_copyInts_c27 {X : Xx} {d : Nat} (hd : 1 ≤ d)  (g : Sg) : ∀ r, x_copyInts_c27  g = some r → EvM zft mtl X d 145 [.ref 27, .ref 74] (SHF, g) ((fun r : Sg => ((none, (SHF, r)) : Out)) r) := by
  obtain ⟨d, rfl⟩ : ∃ d0, d = d0 + 1 := ⟨d - 1, by omega⟩
  have hd : 0 ≤ d := by omega
  refine E_in (f := (fun r : Sg => ((none, (SHF, r)) : Out))) rfl (Nat.le_of_ble_eq_true rfl) ?_
  unfold x_copyInts_c27
  change Lt X d none k_145 _ 0 [some (.ref 27), some (.ref 74)] [] g _
  refine L_s (pc' := 1) rfl rfl ?_
  refine L_ic (pc' := 2) rfl q1_0 rfl ?_
  refine L_s (pc' := 3) rfl rfl ?_
  refine L_ic (pc' := 4) rfl q1_0 rfl ?_
  refine L_s (pc' := 5) rfl rfl ?_
  refine L_s (pc' := 6) (st' := [.int 120, .int 0, .ref 74, .int 0, .ref 27]) rfl rfl ?_
  refine L_s (pc' := 7) rfl rfl ?_
  refine L_s (pc' := 8) (st' := [.int 120, .int 120, .int 0, .ref 74, .int 0, .ref 27]) rfl rfl ?_
  refine L_s (pc' := 11) rfl rfl ?_
  refine L_e (b := 120) (by decide) ?_
  refine L_cp (pc' := 14) rfl sh_27 sh_74 (by decide) (by decide) (by decide) (by decide) rfl rfl ?_
  refine L_let fun g1 _ => ?_
  exact L_ret rfl rfl rfl
def x_copyInts_c28  (g : Sg) : Option (Sg) :=
  lt1 (cp2 g 28 0 75 0 (Int32.toNatClampNeg 120)) (fun g1 => (some g1))
theorem e_x_copyInts_c28 {X : Xx} {d : Nat} (hd : 1 ≤ d)  (g : Sg) : ∀ r, x_copyInts_c28  g = some r → EvM zft mtl X d 145 [.ref 28, .ref 75] (SHF, g) ((fun r : Sg => ((none, (SHF, r)) : Out)) r) := by
  obtain ⟨d, rfl⟩ : ∃ d0, d = d0 + 1 := ⟨d - 1, by omega⟩
  have hd : 0 ≤ d := by omega
  refine E_in (f := (fun r : Sg => ((none, (SHF, r)) : Out))) rfl (Nat.le_of_ble_eq_true rfl) ?_
  unfold x_copyInts_c28
  change Lt X d none k_145 _ 0 [some (.ref 28), some (.ref 75)] [] g _
  refine L_s (pc' := 1) rfl rfl ?_
  refine L_ic (pc' := 2) rfl q1_0 rfl ?_
  refine L_s (pc' := 3) rfl rfl ?_
  refine L_ic (pc' := 4) rfl q1_0 rfl ?_
  refine L_s (pc' := 5) rfl rfl ?_
  refine L_s (pc' := 6) (st' := [.int 120, .int 0, .ref 75, .int 0, .ref 28]) rfl rfl ?_
  refine L_s (pc' := 7) rfl rfl ?_
  refine L_s (pc' := 8) (st' := [.int 120, .int 120, .int 0, .ref 75, .int 0, .ref 28]) rfl rfl ?_
  refine L_s (pc' := 11) rfl rfl ?_
  refine L_e (b := 120) (by decide) ?_
  refine L_cp (pc' := 14) rfl sh_28 sh_75 (by decide) (by decide) (by decide) (by decide) rfl rfl ?_
  refine L_let fun g1 _ => ?_
  exact L_ret rfl rfl rfl
def x_copyInts_c29  (g : Sg) : Option (Sg) :=
  lt1 (cp2 g 29 0 76 0 (Int32.toNatClampNeg 120)) (fun g1 => (some g1))
theorem e_x_copyInts_c29 {X : Xx} {d : Nat} (hd : 1 ≤ d)  (g : Sg) : ∀ r, x_copyInts_c29  g = some r → EvM zft mtl X d 145 [.ref 29, .ref 76] (SHF, g) ((fun r : Sg => ((none, (SHF, r)) : Out)) r) := by
  obtain ⟨d, rfl⟩ : ∃ d0, d = d0 + 1 := ⟨d - 1, by omega⟩
  have hd : 0 ≤ d := by omega
  refine E_in (f := (fun r : Sg => ((none, (SHF, r)) : Out))) rfl (Nat.le_of_ble_eq_true rfl) ?_
  unfold x_copyInts_c29
  change Lt X d none k_145 _ 0 [some (.ref 29), some (.ref 76)] [] g _
  refine L_s (pc' := 1) rfl rfl ?_
  refine L_ic (pc' := 2) rfl q1_0 rfl ?_
  refine L_s (pc' := 3) rfl rfl ?_
  refine L_ic (pc' := 4) rfl q1_0 rfl ?_
  refine L_s (pc' := 5) rfl rfl ?_
  refine L_s (pc' := 6) (st' := [.int 120, .int 0, .ref 76, .int 0, .ref 29]) rfl rfl ?_
  refine L_s (pc' := 7) rfl rfl ?_
  refine L_s (pc' := 8) (st' := [.int 120, .int 120, .int 0, .ref 76, .int 0, .ref 29]) rfl rfl ?_
  refine L_s (pc' := 11) rfl rfl ?_
  refine L_e (b := 120) (by decide) ?_
  refine L_cp (pc' := 14) rfl sh_29 sh_76 (by decide) (by decide) (by decide) (by decide) rfl rfl ?_
  refine L_let fun g1 _ => ?_
  exact L_ret rfl rfl rfl
def x_copyBytes  (g : Sg) : Option (Sg) :=
  lt1 (cp2 g 30 0 77 0 (Int32.toNatClampNeg 2400)) (fun g1 => (some g1))
theorem e_x_copyBytes {X : Xx} {d : Nat} (hd : 1 ≤ d)  (g : Sg) : ∀ r, x_copyBytes  g = some r → EvM zft mtl X d 146 [.ref 30, .ref 77] (SHF, g) ((fun r : Sg => ((none, (SHF, r)) : Out)) r) := by
  obtain ⟨d, rfl⟩ : ∃ d0, d = d0 + 1 := ⟨d - 1, by omega⟩
  have hd : 0 ≤ d := by omega
  refine E_in (f := (fun r : Sg => ((none, (SHF, r)) : Out))) rfl (Nat.le_of_ble_eq_true rfl) ?_
  unfold x_copyBytes
  change Lt X d none k_146 _ 0 [some (.ref 30), some (.ref 77)] [] g _
  refine L_s (pc' := 1) rfl rfl ?_
  refine L_ic (pc' := 2) rfl q1_0 rfl ?_
  refine L_s (pc' := 3) rfl rfl ?_
  refine L_ic (pc' := 4) rfl q1_0 rfl ?_
  refine L_s (pc' := 5) rfl rfl ?_
  refine L_s (pc' := 6) (st' := [.int 2400, .int 0, .ref 77, .int 0, .ref 30]) rfl rfl ?_
  refine L_s (pc' := 7) rfl rfl ?_
  refine L_s (pc' := 8) (st' := [.int 2400, .int 2400, .int 0, .ref 77, .int 0, .ref 30]) rfl rfl ?_
  refine L_s (pc' := 11) rfl rfl ?_
  refine L_e (b := 2400) (by decide) ?_
  refine L_cp (pc' := 14) rfl sh_30 sh_77 (by decide) (by decide) (by decide) (by decide) rfl rfl ?_
  refine L_let fun g1 _ => ?_
  exact L_ret rfl rfl rfl
def rights_copyFrom  (g : Sg) : Option (Sg) :=
  Option.bind (x_copyInts_c23 g) (fun g1 => lt1 (up2 g1 69 1 (g1 22 1)) (fun g2 => Option.bind (x_copyInts_c24 g2) (fun g3 => Option.bind (x_copyInts_c25 g3) (fun g4 => Option.bind (x_copyInts_c26 g4) (fun g5 => Option.bind (x_copyInts_c27 g5) (fun g6 => Option.bind (x_copyInts_c28 g6) (fun g7 => Option.bind (x_copyInts_c29 g7) (fun g8 => lt1 (up2 g8 69 8 (g8 22 8)) (fun g9 => Option.bind (x_copyBytes g9) (fun g10 => (some g10)))))))))))
theorem e_rights_copyFrom {X : Xx} {d : Nat} (hd : 2 ≤ d)  (g : Sg) : ∀ r, rights_copyFrom  g = some r → EvM zft mtl X d 77 [.ref 69, .ref 22] (SHF, g) ((fun r : Sg => ((none, (SHF, r)) : Out)) r) := by
  obtain ⟨d, rfl⟩ : ∃ d0, d = d0 + 1 := ⟨d - 1, by omega⟩
  have hd : 1 ≤ d := by omega
  refine E_in (f := (fun r : Sg => ((none, (SHF, r)) : Out))) rfl (Nat.le_of_ble_eq_true rfl) ?_
  unfold rights_copyFrom
  change Lt X d none k_77 _ 0 [some (.ref 69), some (.ref 22)] [] g _
  refine L_s (pc' := 1) rfl rfl ?_
  refine L_gf (pc' := 4) rfl fr_22_0 rfl ?_
  refine L_s (pc' := 5) rfl rfl ?_
  refine L_gf (pc' := 8) rfl fr_69_0 rfl ?_
  refine L_cv (pc' := 11) (as := [.ref 23, .ref 70]) (rest := []) rfl rfl (e_x_copyInts_c23 (by omega) _) rfl fun g1 => ?_
  refine L_s (pc' := 12) rfl rfl ?_
  refine L_s (pc' := 13) rfl rfl ?_
  refine L_gf (pc' := 16) rfl fi_22_1 rfl ?_
  refine L_pf (pc' := 19) rfl sh_69 (by decide) rfl rfl ?_
  refine L_let fun g2 _ => ?_
  refine L_s (pc' := 20) rfl rfl ?_
  refine L_gf (pc' := 23) rfl fr_22_2 rfl ?_
  refine L_s (pc' := 24) rfl rfl ?_
  refine L_gf (pc' := 27) rfl fr_69_2 rfl ?_
  refine L_cv (pc' := 30) (as := [.ref 24, .ref 71]) (rest := []) rfl rfl (e_x_copyInts_c24 (by omega) _) rfl fun g3 => ?_
  refine L_s (pc' := 31) rfl rfl ?_
  refine L_gf (pc' := 34) rfl fr_22_3 rfl ?_
  refine L_s (pc' := 35) rfl rfl ?_
  refine L_gf (pc' := 38) rfl fr_69_3 rfl ?_
  refine L_cv (pc' := 41) (as := [.ref 25, .ref 72]) (rest := []) rfl rfl (e_x_copyInts_c25 (by omega) _) rfl fun g4 => ?_
  refine L_s (pc' := 42) rfl rfl ?_
  refine L_gf (pc' := 45) rfl fr_22_4 rfl ?_
  refine L_s (pc' := 46) rfl rfl ?_
  refine L_gf (pc' := 49) rfl fr_69_4 rfl ?_
  refine L_cv (pc' := 52) (as := [.ref 26, .ref 73]) (rest := []) rfl rfl (e_x_copyInts_c26 (by omega) _) rfl fun g5 => ?_
  refine L_s (pc' := 53) rfl rfl ?_
  refine L_gf (pc' := 56) rfl fr_22_5 rfl ?_
  refine L_s (pc' := 57) rfl rfl ?_
  refine L_gf (pc' := 60) rfl fr_69_5 rfl ?_
  refine L_cv (pc' := 63) (as := [.ref 27, .ref 74]) (rest := []) rfl rfl (e_x_copyInts_c27 (by omega) _) rfl fun g6 => ?_
  refine L_s (pc' := 64) rfl rfl ?_
  refine L_gf (pc' := 67) rfl fr_22_6 rfl ?_
  refine L_s (pc' := 68) rfl rfl ?_
  refine L_gf (pc' := 71) rfl fr_69_6 rfl ?_
  refine L_cv (pc' := 74) (as := [.ref 28, .ref 75]) (rest := []) rfl rfl (e_x_copyInts_c28 (by omega) _) rfl fun g7 => ?_
  refine L_s (pc' := 75) rfl rfl ?_
  refine L_gf (pc' := 78) rfl fr_22_7 rfl ?_
  refine L_s (pc' := 79) rfl rfl ?_
  refine L_gf (pc' := 82) rfl fr_69_7 rfl ?_
  refine L_cv (pc' := 85) (as := [.ref 29, .ref 76]) (rest := []) rfl rfl (e_x_copyInts_c29 (by omega) _) rfl fun g8 => ?_
  refine L_s (pc' := 86) rfl rfl ?_
  refine L_s (pc' := 87) rfl rfl ?_
  refine L_gf (pc' := 90) rfl fi_22_8 rfl ?_
  refine L_pf (pc' := 93) rfl sh_69 (by decide) rfl rfl ?_
  refine L_let fun g9 _ => ?_
  refine L_s (pc' := 94) rfl rfl ?_
  refine L_gf (pc' := 97) rfl fr_22_9 rfl ?_
  refine L_s (pc' := 98) rfl rfl ?_
  refine L_gf (pc' := 101) rfl fr_69_9 rfl ?_
  refine L_cv (pc' := 104) (as := [.ref 30, .ref 77]) (rest := []) rfl rfl (e_x_copyBytes (by omega) _) rfl fun g10 => ?_
  exact L_ret rfl rfl rfl
def x_copyBytes_c1  (g : Sg) : Option (Sg) :=
  lt1 (cp2 g 32 0 79 0 (Int32.toNatClampNeg 500)) (fun g1 => (some g1))
theorem e_x_copyBytes_c1 {X : Xx} {d : Nat} (hd : 1 ≤ d)  (g : Sg) : ∀ r, x_copyBytes_c1  g = some r → EvM zft mtl X d 146 [.ref 32, .ref 79] (SHF, g) ((fun r : Sg => ((none, (SHF, r)) : Out)) r) := by
  obtain ⟨d, rfl⟩ : ∃ d0, d = d0 + 1 := ⟨d - 1, by omega⟩
  have hd : 0 ≤ d := by omega
  refine E_in (f := (fun r : Sg => ((none, (SHF, r)) : Out))) rfl (Nat.le_of_ble_eq_true rfl) ?_
  unfold x_copyBytes_c1
  change Lt X d none k_146 _ 0 [some (.ref 32), some (.ref 79)] [] g _
  refine L_s (pc' := 1) rfl rfl ?_
  refine L_ic (pc' := 2) rfl q1_0 rfl ?_
  refine L_s (pc' := 3) rfl rfl ?_
  refine L_ic (pc' := 4) rfl q1_0 rfl ?_
  refine L_s (pc' := 5) rfl rfl ?_
  refine L_s (pc' := 6) (st' := [.int 500, .int 0, .ref 79, .int 0, .ref 32]) rfl rfl ?_
  refine L_s (pc' := 7) rfl rfl ?_
  refine L_s (pc' := 8) (st' := [.int 500, .int 500, .int 0, .ref 79, .int 0, .ref 32]) rfl rfl ?_
  refine L_s (pc' := 11) rfl rfl ?_
  refine L_e (b := 500) (by decide) ?_
  refine L_cp (pc' := 14) rfl sh_32 sh_79 (by decide) (by decide) (by decide) (by decide) rfl rfl ?_
  refine L_let fun g1 _ => ?_
  exact L_ret rfl rfl rfl
def x_copyInts_c30  (g : Sg) : Option (Sg) :=
  lt1 (cp2 g 34 0 81 0 (Int32.toNatClampNeg 16)) (fun g1 => (some g1))
theorem e_x_copyInts_c30 {X : Xx} {d : Nat} (hd : 1 ≤ d)  (g : Sg) : ∀ r, x_copyInts_c30  g = some r → EvM zft mtl X d 145 [.ref 34, .ref 81] (SHF, g) ((fun r : Sg => ((none, (SHF, r)) : Out)) r) := by
  obtain ⟨d, rfl⟩ : ∃ d0, d = d0 + 1 := ⟨d - 1, by omega⟩
  have hd : 0 ≤ d := by omega
  refine E_in (f := (fun r : Sg => ((none, (SHF, r)) : Out))) rfl (Nat.le_of_ble_eq_true rfl) ?_
  unfold x_copyInts_c30
  change Lt X d none k_145 _ 0 [some (.ref 34), some (.ref 81)] [] g _
  refine L_s (pc' := 1) rfl rfl ?_
  refine L_ic (pc' := 2) rfl q1_0 rfl ?_
  refine L_s (pc' := 3) rfl rfl ?_
  refine L_ic (pc' := 4) rfl q1_0 rfl ?_
  refine L_s (pc' := 5) rfl rfl ?_
  refine L_s (pc' := 6) (st' := [.int 16, .int 0, .ref 81, .int 0, .ref 34]) rfl rfl ?_
  refine L_s (pc' := 7) rfl rfl ?_
  refine L_s (pc' := 8) (st' := [.int 16, .int 16, .int 0, .ref 81, .int 0, .ref 34]) rfl rfl ?_
  refine L_s (pc' := 11) rfl rfl ?_
  refine L_e (b := 16) (by decide) ?_
  refine L_cp (pc' := 14) rfl sh_34 sh_81 (by decide) (by decide) (by decide) (by decide) rfl rfl ?_
  refine L_let fun g1 _ => ?_
  exact L_ret rfl rfl rfl
def x_copyInts_c31  (g : Sg) : Option (Sg) :=
  lt1 (cp2 g 35 0 82 0 (Int32.toNatClampNeg 16)) (fun g1 => (some g1))
theorem e_x_copyInts_c31 {X : Xx} {d : Nat} (hd : 1 ≤ d)  (g : Sg) : ∀ r, x_copyInts_c31  g = some r → EvM zft mtl X d 145 [.ref 35, .ref 82] (SHF, g) ((fun r : Sg => ((none, (SHF, r)) : Out)) r) := by
  obtain ⟨d, rfl⟩ : ∃ d0, d = d0 + 1 := ⟨d - 1, by omega⟩
  have hd : 0 ≤ d := by omega
  refine E_in (f := (fun r : Sg => ((none, (SHF, r)) : Out))) rfl (Nat.le_of_ble_eq_true rfl) ?_
  unfold x_copyInts_c31
  change Lt X d none k_145 _ 0 [some (.ref 35), some (.ref 82)] [] g _
  refine L_s (pc' := 1) rfl rfl ?_
  refine L_ic (pc' := 2) rfl q1_0 rfl ?_
  refine L_s (pc' := 3) rfl rfl ?_
  refine L_ic (pc' := 4) rfl q1_0 rfl ?_
  refine L_s (pc' := 5) rfl rfl ?_
  refine L_s (pc' := 6) (st' := [.int 16, .int 0, .ref 82, .int 0, .ref 35]) rfl rfl ?_
  refine L_s (pc' := 7) rfl rfl ?_
  refine L_s (pc' := 8) (st' := [.int 16, .int 16, .int 0, .ref 82, .int 0, .ref 35]) rfl rfl ?_
  refine L_s (pc' := 11) rfl rfl ?_
  refine L_e (b := 16) (by decide) ?_
  refine L_cp (pc' := 14) rfl sh_35 sh_82 (by decide) (by decide) (by decide) (by decide) rfl rfl ?_
  refine L_let fun g1 _ => ?_
  exact L_ret rfl rfl rfl
def x_copyInts_c32  (g : Sg) : Option (Sg) :=
  lt1 (cp2 g 36 0 83 0 (Int32.toNatClampNeg 16)) (fun g1 => (some g1))
theorem e_x_copyInts_c32 {X : Xx} {d : Nat} (hd : 1 ≤ d)  (g : Sg) : ∀ r, x_copyInts_c32  g = some r → EvM zft mtl X d 145 [.ref 36, .ref 83] (SHF, g) ((fun r : Sg => ((none, (SHF, r)) : Out)) r) := by
  obtain ⟨d, rfl⟩ : ∃ d0, d = d0 + 1 := ⟨d - 1, by omega⟩
  have hd : 0 ≤ d := by omega
  refine E_in (f := (fun r : Sg => ((none, (SHF, r)) : Out))) rfl (Nat.le_of_ble_eq_true rfl) ?_
  unfold x_copyInts_c32
  change Lt X d none k_145 _ 0 [some (.ref 36), some (.ref 83)] [] g _
  refine L_s (pc' := 1) rfl rfl ?_
  refine L_ic (pc' := 2) rfl q1_0 rfl ?_
  refine L_s (pc' := 3) rfl rfl ?_
  refine L_ic (pc' := 4) rfl q1_0 rfl ?_
  refine L_s (pc' := 5) rfl rfl ?_
  refine L_s (pc' := 6) (st' := [.int 16, .int 0, .ref 83, .int 0, .ref 36]) rfl rfl ?_
  refine L_s (pc' := 7) rfl rfl ?_
  refine L_s (pc' := 8) (st' := [.int 16, .int 16, .int 0, .ref 83, .int 0, .ref 36]) rfl rfl ?_
  refine L_s (pc' := 11) rfl rfl ?_
  refine L_e (b := 16) (by decide) ?_
  refine L_cp (pc' := 14) rfl sh_36 sh_83 (by decide) (by decide) (by decide) (by decide) rfl rfl ?_
  refine L_let fun g1 _ => ?_
  exact L_ret rfl rfl rfl
def x_copyFlags_c2  (g : Sg) : Option (Sg) :=
  lt1 (cp2 g 37 0 84 0 (Int32.toNatClampNeg 64)) (fun g1 => (some g1))
theorem e_x_copyFlags_c2 {X : Xx} {d : Nat} (hd : 1 ≤ d)  (g : Sg) : ∀ r, x_copyFlags_c2  g = some r → EvM zft mtl X d 147 [.ref 37, .ref 84] (SHF, g) ((fun r : Sg => ((none, (SHF, r)) : Out)) r) := by
  obtain ⟨d, rfl⟩ : ∃ d0, d = d0 + 1 := ⟨d - 1, by omega⟩
  have hd : 0 ≤ d := by omega
  refine E_in (f := (fun r : Sg => ((none, (SHF, r)) : Out))) rfl (Nat.le_of_ble_eq_true rfl) ?_
  unfold x_copyFlags_c2
  change Lt X d none k_147 _ 0 [some (.ref 37), some (.ref 84)] [] g _
  refine L_s (pc' := 1) rfl rfl ?_
  refine L_ic (pc' := 2) rfl q1_0 rfl ?_
  refine L_s (pc' := 3) rfl rfl ?_
  refine L_ic (pc' := 4) rfl q1_0 rfl ?_
  refine L_s (pc' := 5) rfl rfl ?_
  refine L_s (pc' := 6) (st' := [.int 64, .int 0, .ref 84, .int 0, .ref 37]) rfl rfl ?_
  refine L_s (pc' := 7) rfl rfl ?_
  refine L_s (pc' := 8) (st' := [.int 64, .int 64, .int 0, .ref 84, .int 0, .ref 37]) rfl rfl ?_
  refine L_s (pc' := 11) rfl rfl ?_
  refine L_e (b := 64) (by decide) ?_
  refine L_cp (pc' := 14) rfl sh_37 sh_84 (by decide) (by decide) (by decide) (by decide) rfl rfl ?_
  refine L_let fun g1 _ => ?_
  exact L_ret rfl rfl rfl
def x_copyInts_c33  (g : Sg) : Option (Sg) :=
  lt1 (cp2 g 38 0 85 0 (Int32.toNatClampNeg 64)) (fun g1 => (some g1))
theorem e_x_copyInts_c33 {X : Xx} {d : Nat} (hd : 1 ≤ d)  (g : Sg) : ∀ r, x_copyInts_c33  g = some r → EvM zft mtl X d 145 [.ref 38, .ref 85] (SHF, g) ((fun r : Sg => ((none, (SHF, r)) : Out)) r) := by
  obtain ⟨d, rfl⟩ : ∃ d0, d = d0 + 1 := ⟨d - 1, by omega⟩
  have hd : 0 ≤ d := by omega
  refine E_in (f := (fun r : Sg => ((none, (SHF, r)) : Out))) rfl (Nat.le_of_ble_eq_true rfl) ?_
  unfold x_copyInts_c33
  change Lt X d none k_145 _ 0 [some (.ref 38), some (.ref 85)] [] g _
  refine L_s (pc' := 1) rfl rfl ?_
  refine L_ic (pc' := 2) rfl q1_0 rfl ?_
  refine L_s (pc' := 3) rfl rfl ?_
  refine L_ic (pc' := 4) rfl q1_0 rfl ?_
  refine L_s (pc' := 5) rfl rfl ?_
  refine L_s (pc' := 6) (st' := [.int 64, .int 0, .ref 85, .int 0, .ref 38]) rfl rfl ?_
  refine L_s (pc' := 7) rfl rfl ?_
  refine L_s (pc' := 8) (st' := [.int 64, .int 64, .int 0, .ref 85, .int 0, .ref 38]) rfl rfl ?_
  refine L_s (pc' := 11) rfl rfl ?_
  refine L_e (b := 64) (by decide) ?_
  refine L_cp (pc' := 14) rfl sh_38 sh_85 (by decide) (by decide) (by decide) (by decide) rfl rfl ?_
  refine L_let fun g1 _ => ?_
  exact L_ret rfl rfl rfl
def x_copyInts_c34  (g : Sg) : Option (Sg) :=
  lt1 (cp2 g 39 0 86 0 (Int32.toNatClampNeg 64)) (fun g1 => (some g1))
theorem e_x_copyInts_c34 {X : Xx} {d : Nat} (hd : 1 ≤ d)  (g : Sg) : ∀ r, x_copyInts_c34  g = some r → EvM zft mtl X d 145 [.ref 39, .ref 86] (SHF, g) ((fun r : Sg => ((none, (SHF, r)) : Out)) r) := by
  obtain ⟨d, rfl⟩ : ∃ d0, d = d0 + 1 := ⟨d - 1, by omega⟩
  have hd : 0 ≤ d := by omega
  refine E_in (f := (fun r : Sg => ((none, (SHF, r)) : Out))) rfl (Nat.le_of_ble_eq_true rfl) ?_
  unfold x_copyInts_c34
  change Lt X d none k_145 _ 0 [some (.ref 39), some (.ref 86)] [] g _
  refine L_s (pc' := 1) rfl rfl ?_
  refine L_ic (pc' := 2) rfl q1_0 rfl ?_
  refine L_s (pc' := 3) rfl rfl ?_
  refine L_ic (pc' := 4) rfl q1_0 rfl ?_
  refine L_s (pc' := 5) rfl rfl ?_
  refine L_s (pc' := 6) (st' := [.int 64, .int 0, .ref 86, .int 0, .ref 39]) rfl rfl ?_
  refine L_s (pc' := 7) rfl rfl ?_
  refine L_s (pc' := 8) (st' := [.int 64, .int 64, .int 0, .ref 86, .int 0, .ref 39]) rfl rfl ?_
  refine L_s (pc' := 11) rfl rfl ?_
  refine L_e (b := 64) (by decide) ?_
  refine L_cp (pc' := 14) rfl sh_39 sh_86 (by decide) (by decide) (by decide) (by decide) rfl rfl ?_
  refine L_let fun g1 _ => ?_
  exact L_ret rfl rfl rfl
def x_copyInts_c35  (g : Sg) : Option (Sg) :=
  lt1 (cp2 g 40 0 87 0 (Int32.toNatClampNeg 64)) (fun g1 => (some g1))
theorem e_x_copyInts_c35 {X : Xx} {d : Nat} (hd : 1 ≤ d)  (g : Sg) : ∀ r, x_copyInts_c35  g = some r → EvM zft mtl X d 145 [.ref 40, .ref 87] (SHF, g) ((fun r : Sg => ((none, (SHF, r)) : Out)) r) := by
  obtain ⟨d, rfl⟩ : ∃ d0, d = d0 + 1 := ⟨d - 1, by omega⟩
  have hd : 0 ≤ d := by omega
  refine E_in (f := (fun r : Sg => ((none, (SHF, r)) : Out))) rfl (Nat.le_of_ble_eq_true rfl) ?_
  unfold x_copyInts_c35
  change Lt X d none k_145 _ 0 [some (.ref 40), some (.ref 87)] [] g _
  refine L_s (pc' := 1) rfl rfl ?_
  refine L_ic (pc' := 2) rfl q1_0 rfl ?_
  refine L_s (pc' := 3) rfl rfl ?_
  refine L_ic (pc' := 4) rfl q1_0 rfl ?_
  refine L_s (pc' := 5) rfl rfl ?_
  refine L_s (pc' := 6) (st' := [.int 64, .int 0, .ref 87, .int 0, .ref 40]) rfl rfl ?_
  refine L_s (pc' := 7) rfl rfl ?_
  refine L_s (pc' := 8) (st' := [.int 64, .int 64, .int 0, .ref 87, .int 0, .ref 40]) rfl rfl ?_
  refine L_s (pc' := 11) rfl rfl ?_
  refine L_e (b := 64) (by decide) ?_
  refine L_cp (pc' := 14) rfl sh_40 sh_87 (by decide) (by decide) (by decide) (by decide) rfl rfl ?_
  refine L_let fun g1 _ => ?_
  exact L_ret rfl rfl rfl
def lines_copyFrom_c1  (g : Sg) : Option (Sg) :=
  lt1 (up2 g 80 0 (g 33 0)) (fun g1 => Option.bind (x_copyInts_c30 g1) (fun g2 => Option.bind (x_copyInts_c31 g2) (fun g3 => Option.bind (x_copyInts_c32 g3) (fun g4 => Option.bind (x_copyFlags_c2 g4) (fun g5 => Option.bind (x_copyInts_c33 g5) (fun g6 => Option.bind (x_copyInts_c34 g6) (fun g7 => Option.bind (x_copyInts_c35 g7) (fun g8 => (some g8)))))))))
theorem e_lines_copyFrom_c1 {X : Xx} {d : Nat} (hd : 2 ≤ d)  (g : Sg) : ∀ r, lines_copyFrom_c1  g = some r → EvM zft mtl X d 20 [.ref 80, .ref 33] (SHF, g) ((fun r : Sg => ((none, (SHF, r)) : Out)) r) := by
  obtain ⟨d, rfl⟩ : ∃ d0, d = d0 + 1 := ⟨d - 1, by omega⟩
  have hd : 1 ≤ d := by omega
  refine E_in (f := (fun r : Sg => ((none, (SHF, r)) : Out))) rfl (Nat.le_of_ble_eq_true rfl) ?_
  unfold lines_copyFrom_c1
  change Lt X d none k_20 _ 0 [some (.ref 80), some (.ref 33)] [] g _
  refine L_s (pc' := 1) rfl rfl ?_
  refine L_s (pc' := 2) rfl rfl ?_
  refine L_gf (pc' := 5) rfl fi_33_0 rfl ?_
  refine L_pf (pc' := 8) rfl sh_80 (by decide) rfl rfl ?_
  refine L_let fun g1 _ => ?_
  refine L_s (pc' := 9) rfl rfl ?_
  refine L_gf (pc' := 12) rfl fr_33_1 rfl ?_
  refine L_s (pc' := 13) rfl rfl ?_
  refine L_gf (pc' := 16) rfl fr_80_1 rfl ?_
  refine L_cv (pc' := 19) (as := [.ref 34, .ref 81]) (rest := []) rfl rfl (e_x_copyInts_c30 (by omega) _) rfl fun g2 => ?_
  refine L_s (pc' := 20) rfl rfl ?_
  refine L_gf (pc' := 23) rfl fr_33_2 rfl ?_
  refine L_s (pc' := 24) rfl rfl ?_
  refine L_gf (pc' := 27) rfl fr_80_2 rfl ?_
  refine L_cv (pc' := 30) (as := [.ref 35, .ref 82]) (rest := []) rfl rfl (e_x_copyInts_c31 (by omega) _) rfl fun g3 => ?_
  refine L_s (pc' := 31) rfl rfl ?_
  refine L_gf (pc' := 34) rfl fr_33_3 rfl ?_
  refine L_s (pc' := 35) rfl rfl ?_
  refine L_gf (pc' := 38) rfl fr_80_3 rfl ?_
  refine L_cv (pc' := 41) (as := [.ref 36, .ref 83]) (rest := []) rfl rfl (e_x_copyInts_c32 (by omega) _) rfl fun g4 => ?_
  refine L_s (pc' := 42) rfl rfl ?_
  refine L_gf (pc' := 45) rfl fr_33_4 rfl ?_
  refine L_s (pc' := 46) rfl rfl ?_
  refine L_gf (pc' := 49) rfl fr_80_4 rfl ?_
  refine L_cv (pc' := 52) (as := [.ref 37, .ref 84]) (rest := []) rfl rfl (e_x_copyFlags_c2 (by omega) _) rfl fun g5 => ?_
  refine L_s (pc' := 53) rfl rfl ?_
  refine L_gf (pc' := 56) rfl fr_33_5 rfl ?_
  refine L_s (pc' := 57) rfl rfl ?_
  refine L_gf (pc' := 60) rfl fr_80_5 rfl ?_
  refine L_cv (pc' := 63) (as := [.ref 38, .ref 85]) (rest := []) rfl rfl (e_x_copyInts_c33 (by omega) _) rfl fun g6 => ?_
  refine L_s (pc' := 64) rfl rfl ?_
  refine L_gf (pc' := 67) rfl fr_33_6 rfl ?_
  refine L_s (pc' := 68) rfl rfl ?_
  refine L_gf (pc' := 71) rfl fr_80_6 rfl ?_
  refine L_cv (pc' := 74) (as := [.ref 39, .ref 86]) (rest := []) rfl rfl (e_x_copyInts_c34 (by omega) _) rfl fun g7 => ?_
  refine L_s (pc' := 75) rfl rfl ?_
  refine L_gf (pc' := 78) rfl fr_33_7 rfl ?_
  refine L_s (pc' := 79) rfl rfl ?_
  refine L_gf (pc' := 82) rfl fr_80_7 rfl ?_
  refine L_cv (pc' := 85) (as := [.ref 40, .ref 87]) (rest := []) rfl rfl (e_x_copyInts_c35 (by omega) _) rfl fun g8 => ?_
  exact L_ret rfl rfl rfl
def x_copyFlags_c3  (g : Sg) : Option (Sg) :=
  lt1 (cp2 g 41 0 88 0 (Int32.toNatClampNeg 100)) (fun g1 => (some g1))
theorem e_x_copyFlags_c3 {X : Xx} {d : Nat} (hd : 1 ≤ d)  (g : Sg) : ∀ r, x_copyFlags_c3  g = some r → EvM zft mtl X d 147 [.ref 41, .ref 88] (SHF, g) ((fun r : Sg => ((none, (SHF, r)) : Out)) r) := by
  obtain ⟨d, rfl⟩ : ∃ d0, d = d0 + 1 := ⟨d - 1, by omega⟩
  have hd : 0 ≤ d := by omega
  refine E_in (f := (fun r : Sg => ((none, (SHF, r)) : Out))) rfl (Nat.le_of_ble_eq_true rfl) ?_
  unfold x_copyFlags_c3
  change Lt X d none k_147 _ 0 [some (.ref 41), some (.ref 88)] [] g _
  refine L_s (pc' := 1) rfl rfl ?_
  refine L_ic (pc' := 2) rfl q1_0 rfl ?_
  refine L_s (pc' := 3) rfl rfl ?_
  refine L_ic (pc' := 4) rfl q1_0 rfl ?_
  refine L_s (pc' := 5) rfl rfl ?_
  refine L_s (pc' := 6) (st' := [.int 100, .int 0, .ref 88, .int 0, .ref 41]) rfl rfl ?_
  refine L_s (pc' := 7) rfl rfl ?_
  refine L_s (pc' := 8) (st' := [.int 100, .int 100, .int 0, .ref 88, .int 0, .ref 41]) rfl rfl ?_
  refine L_s (pc' := 11) rfl rfl ?_
  refine L_e (b := 100) (by decide) ?_
  refine L_cp (pc' := 14) rfl sh_41 sh_88 (by decide) (by decide) (by decide) (by decide) rfl rfl ?_
  refine L_let fun g1 _ => ?_
  exact L_ret rfl rfl rfl
def law_copyFrom  (g : Sg) : Option (Sg) :=
  lt1 (up2 g 78 0 (g 31 0)) (fun g1 => Option.bind (x_copyBytes_c1 g1) (fun g2 => lt1 (up2 g2 78 2 (g2 31 2)) (fun g3 => lt1 (up2 g3 78 3 (g3 31 3)) (fun g4 => Option.bind (lines_copyFrom_c1 g4) (fun g5 => Option.bind (x_copyFlags_c3 g5) (fun g6 => (some g6)))))))
theorem e_law_copyFrom {X : Xx} {d : Nat} (hd : 3 ≤ d)  (g : Sg) : ∀ r, law_copyFrom  g = some r → EvM zft mtl X d 18 [.ref 78, .ref 31] (SHF, g) ((fun r : Sg => ((none, (SHF, r)) : Out)) r) := by
  obtain ⟨d, rfl⟩ : ∃ d0, d = d0 + 1 := ⟨d - 1, by omega⟩
  have hd : 2 ≤ d := by omega
  refine E_in (f := (fun r : Sg => ((none, (SHF, r)) : Out))) rfl (Nat.le_of_ble_eq_true rfl) ?_
  unfold law_copyFrom
  change Lt X d none k_18 _ 0 [some (.ref 78), some (.ref 31)] [] g _
  refine L_s (pc' := 1) rfl rfl ?_
  refine L_s (pc' := 2) rfl rfl ?_
  refine L_gf (pc' := 5) rfl fi_31_0 rfl ?_
  refine L_pf (pc' := 8) rfl sh_78 (by decide) rfl rfl ?_
  refine L_let fun g1 _ => ?_
  refine L_s (pc' := 9) rfl rfl ?_
  refine L_gf (pc' := 12) rfl fr_31_1 rfl ?_
  refine L_s (pc' := 13) rfl rfl ?_
  refine L_gf (pc' := 16) rfl fr_78_1 rfl ?_
  refine L_cv (pc' := 19) (as := [.ref 32, .ref 79]) (rest := []) rfl rfl (e_x_copyBytes_c1 (by omega) _) rfl fun g2 => ?_
  refine L_s (pc' := 20) rfl rfl ?_
  refine L_s (pc' := 21) rfl rfl ?_
  refine L_gf (pc' := 24) rfl fi_31_2 rfl ?_
  refine L_pf (pc' := 27) rfl sh_78 (by decide) rfl rfl ?_
  refine L_let fun g3 _ => ?_
  refine L_s (pc' := 28) rfl rfl ?_
  refine L_s (pc' := 29) rfl rfl ?_
  refine L_gf (pc' := 32) rfl fi_31_3 rfl ?_
  refine L_pf (pc' := 35) rfl sh_78 (by decide) rfl rfl ?_
  refine L_let fun g4 _ => ?_
  refine L_s (pc' := 36) rfl rfl ?_
  refine L_gf (pc' := 39) rfl fr_78_4 rfl ?_
  refine L_s (pc' := 40) rfl rfl ?_
  refine L_gf (pc' := 43) rfl fr_31_4 rfl ?_
  refine L_cv (pc' := 46) (as := [.ref 80, .ref 33]) (rest := []) rfl rfl (e_lines_copyFrom_c1 (by omega) _) rfl fun g5 => ?_
  refine L_s (pc' := 47) rfl rfl ?_
  refine L_gf (pc' := 50) rfl fr_31_5 rfl ?_
  refine L_s (pc' := 51) rfl rfl ?_
  refine L_gf (pc' := 54) rfl fr_78_5 rfl ?_
  refine L_cv (pc' := 57) (as := [.ref 41, .ref 88]) (rest := []) rfl rfl (e_x_copyFlags_c3 (by omega) _) rfl fun g6 => ?_
  exact L_ret rfl rfl rfl
def x_copyInts_c36  (g : Sg) : Option (Sg) :=
  lt1 (cp2 g 43 0 90 0 (Int32.toNatClampNeg 150)) (fun g1 => (some g1))
theorem e_x_copyInts_c36 {X : Xx} {d : Nat} (hd : 1 ≤ d)  (g : Sg) : ∀ r, x_copyInts_c36  g = some r → EvM zft mtl X d 145 [.ref 43, .ref 90] (SHF, g) ((fun r : Sg => ((none, (SHF, r)) : Out)) r) := by
  obtain ⟨d, rfl⟩ : ∃ d0, d = d0 + 1 := ⟨d - 1, by omega⟩
  have hd : 0 ≤ d := by omega
  refine E_in (f := (fun r : Sg => ((none, (SHF, r)) : Out))) rfl (Nat.le_of_ble_eq_true rfl) ?_
  unfold x_copyInts_c36
  change Lt X d none k_145 _ 0 [some (.ref 43), some (.ref 90)] [] g _
  refine L_s (pc' := 1) rfl rfl ?_
  refine L_ic (pc' := 2) rfl q1_0 rfl ?_
  refine L_s (pc' := 3) rfl rfl ?_
  refine L_ic (pc' := 4) rfl q1_0 rfl ?_
  refine L_s (pc' := 5) rfl rfl ?_
  refine L_s (pc' := 6) (st' := [.int 150, .int 0, .ref 90, .int 0, .ref 43]) rfl rfl ?_
  refine L_s (pc' := 7) rfl rfl ?_
  refine L_s (pc' := 8) (st' := [.int 150, .int 150, .int 0, .ref 90, .int 0, .ref 43]) rfl rfl ?_
  refine L_s (pc' := 11) rfl rfl ?_
  refine L_e (b := 150) (by decide) ?_
  refine L_cp (pc' := 14) rfl sh_43 sh_90 (by decide) (by decide) (by decide) (by decide) rfl rfl ?_
  refine L_let fun g1 _ => ?_
  exact L_ret rfl rfl rfl
def x_copyInts_c37  (g : Sg) : Option (Sg) :=
  lt1 (cp2 g 44 0 91 0 (Int32.toNatClampNeg 150)) (fun g1 => (some g1))
theorem e_x_copyInts_c37 {X : Xx} {d : Nat} (hd : 1 ≤ d)  (g : Sg) : ∀ r, x_copyInts_c37  g = some r → EvM zft mtl X d 145 [.ref 44, .ref 91] (SHF, g) ((fun r : Sg => ((none, (SHF, r)) : Out)) r) := by
  obtain ⟨d, rfl⟩ : ∃ d0, d = d0 + 1 := ⟨d - 1, by omega⟩
  have hd : 0 ≤ d := by omega
  refine E_in (f := (fun r : Sg => ((none, (SHF, r)) : Out))) rfl (Nat.le_of_ble_eq_true rfl) ?_
  unfold x_copyInts_c37
  change Lt X d none k_145 _ 0 [some (.ref 44), some (.ref 91)] [] g _
  refine L_s (pc' := 1) rfl rfl ?_
  refine L_ic (pc' := 2) rfl q1_0 rfl ?_
  refine L_s (pc' := 3) rfl rfl ?_
  refine L_ic (pc' := 4) rfl q1_0 rfl ?_
  refine L_s (pc' := 5) rfl rfl ?_
  refine L_s (pc' := 6) (st' := [.int 150, .int 0, .ref 91, .int 0, .ref 44]) rfl rfl ?_
  refine L_s (pc' := 7) rfl rfl ?_
  refine L_s (pc' := 8) (st' := [.int 150, .int 150, .int 0, .ref 91, .int 0, .ref 44]) rfl rfl ?_
  refine L_s (pc' := 11) rfl rfl ?_
  refine L_e (b := 150) (by decide) ?_
  refine L_cp (pc' := 14) rfl sh_44 sh_91 (by decide) (by decide) (by decide) (by decide) rfl rfl ?_
  refine L_let fun g1 _ => ?_
  exact L_ret rfl rfl rfl
def x_copyInts_c38  (g : Sg) : Option (Sg) :=
  lt1 (cp2 g 45 0 92 0 (Int32.toNatClampNeg 150)) (fun g1 => (some g1))
theorem e_x_copyInts_c38 {X : Xx} {d : Nat} (hd : 1 ≤ d)  (g : Sg) : ∀ r, x_copyInts_c38  g = some r → EvM zft mtl X d 145 [.ref 45, .ref 92] (SHF, g) ((fun r : Sg => ((none, (SHF, r)) : Out)) r) := by
  obtain ⟨d, rfl⟩ : ∃ d0, d = d0 + 1 := ⟨d - 1, by omega⟩
  have hd : 0 ≤ d := by omega
  refine E_in (f := (fun r : Sg => ((none, (SHF, r)) : Out))) rfl (Nat.le_of_ble_eq_true rfl) ?_
  unfold x_copyInts_c38
  change Lt X d none k_145 _ 0 [some (.ref 45), some (.ref 92)] [] g _
  refine L_s (pc' := 1) rfl rfl ?_
  refine L_ic (pc' := 2) rfl q1_0 rfl ?_
  refine L_s (pc' := 3) rfl rfl ?_
  refine L_ic (pc' := 4) rfl q1_0 rfl ?_
  refine L_s (pc' := 5) rfl rfl ?_
  refine L_s (pc' := 6) (st' := [.int 150, .int 0, .ref 92, .int 0, .ref 45]) rfl rfl ?_
  refine L_s (pc' := 7) rfl rfl ?_
  refine L_s (pc' := 8) (st' := [.int 150, .int 150, .int 0, .ref 92, .int 0, .ref 45]) rfl rfl ?_
  refine L_s (pc' := 11) rfl rfl ?_
  refine L_e (b := 150) (by decide) ?_
  refine L_cp (pc' := 14) rfl sh_45 sh_92 (by decide) (by decide) (by decide) (by decide) rfl rfl ?_
  refine L_let fun g1 _ => ?_
  exact L_ret rfl rfl rfl
def x_copyInts_c39  (g : Sg) : Option (Sg) :=
  lt1 (cp2 g 46 0 93 0 (Int32.toNatClampNeg 150)) (fun g1 => (some g1))
theorem e_x_copyInts_c39 {X : Xx} {d : Nat} (hd : 1 ≤ d)  (g : Sg) : ∀ r, x_copyInts_c39  g = some r → EvM zft mtl X d 145 [.ref 46, .ref 93] (SHF, g) ((fun r : Sg => ((none, (SHF, r)) : Out)) r) := by
  obtain ⟨d, rfl⟩ : ∃ d0, d = d0 + 1 := ⟨d - 1, by omega⟩
  have hd : 0 ≤ d := by omega
  refine E_in (f := (fun r : Sg => ((none, (SHF, r)) : Out))) rfl (Nat.le_of_ble_eq_true rfl) ?_
  unfold x_copyInts_c39
  change Lt X d none k_145 _ 0 [some (.ref 46), some (.ref 93)] [] g _
  refine L_s (pc' := 1) rfl rfl ?_
  refine L_ic (pc' := 2) rfl q1_0 rfl ?_
  refine L_s (pc' := 3) rfl rfl ?_
  refine L_ic (pc' := 4) rfl q1_0 rfl ?_
  refine L_s (pc' := 5) rfl rfl ?_
  refine L_s (pc' := 6) (st' := [.int 150, .int 0, .ref 93, .int 0, .ref 46]) rfl rfl ?_
  refine L_s (pc' := 7) rfl rfl ?_
  refine L_s (pc' := 8) (st' := [.int 150, .int 150, .int 0, .ref 93, .int 0, .ref 46]) rfl rfl ?_
  refine L_s (pc' := 11) rfl rfl ?_
  refine L_e (b := 150) (by decide) ?_
  refine L_cp (pc' := 14) rfl sh_46 sh_93 (by decide) (by decide) (by decide) (by decide) rfl rfl ?_
  refine L_let fun g1 _ => ?_
  exact L_ret rfl rfl rfl
def gauges_copyFrom  (g : Sg) : Option (Sg) :=
  lt1 (up2 g 89 0 (g 42 0)) (fun g1 => Option.bind (x_copyInts_c36 g1) (fun g2 => Option.bind (x_copyInts_c37 g2) (fun g3 => Option.bind (x_copyInts_c38 g3) (fun g4 => Option.bind (x_copyInts_c39 g4) (fun g5 => (some g5))))))
theorem e_gauges_copyFrom {X : Xx} {d : Nat} (hd : 2 ≤ d)  (g : Sg) : ∀ r, gauges_copyFrom  g = some r → EvM zft mtl X d 13 [.ref 89, .ref 42] (SHF, g) ((fun r : Sg => ((none, (SHF, r)) : Out)) r) := by
  obtain ⟨d, rfl⟩ : ∃ d0, d = d0 + 1 := ⟨d - 1, by omega⟩
  have hd : 1 ≤ d := by omega
  refine E_in (f := (fun r : Sg => ((none, (SHF, r)) : Out))) rfl (Nat.le_of_ble_eq_true rfl) ?_
  unfold gauges_copyFrom
  change Lt X d none k_13 _ 0 [some (.ref 89), some (.ref 42)] [] g _
  refine L_s (pc' := 1) rfl rfl ?_
  refine L_s (pc' := 2) rfl rfl ?_
  refine L_gf (pc' := 5) rfl fi_42_0 rfl ?_
  refine L_pf (pc' := 8) rfl sh_89 (by decide) rfl rfl ?_
  refine L_let fun g1 _ => ?_
  refine L_s (pc' := 9) rfl rfl ?_
  refine L_gf (pc' := 12) rfl fr_42_1 rfl ?_
  refine L_s (pc' := 13) rfl rfl ?_
  refine L_gf (pc' := 16) rfl fr_89_1 rfl ?_
  refine L_cv (pc' := 19) (as := [.ref 43, .ref 90]) (rest := []) rfl rfl (e_x_copyInts_c36 (by omega) _) rfl fun g2 => ?_
  refine L_s (pc' := 20) rfl rfl ?_
  refine L_gf (pc' := 23) rfl fr_42_2 rfl ?_
  refine L_s (pc' := 24) rfl rfl ?_
  refine L_gf (pc' := 27) rfl fr_89_2 rfl ?_
  refine L_cv (pc' := 30) (as := [.ref 44, .ref 91]) (rest := []) rfl rfl (e_x_copyInts_c37 (by omega) _) rfl fun g3 => ?_
  refine L_s (pc' := 31) rfl rfl ?_
  refine L_gf (pc' := 34) rfl fr_42_3 rfl ?_
  refine L_s (pc' := 35) rfl rfl ?_
  refine L_gf (pc' := 38) rfl fr_89_3 rfl ?_
  refine L_cv (pc' := 41) (as := [.ref 45, .ref 92]) (rest := []) rfl rfl (e_x_copyInts_c38 (by omega) _) rfl fun g4 => ?_
  refine L_s (pc' := 42) rfl rfl ?_
  refine L_gf (pc' := 45) rfl fr_42_4 rfl ?_
  refine L_s (pc' := 46) rfl rfl ?_
  refine L_gf (pc' := 49) rfl fr_89_4 rfl ?_
  refine L_cv (pc' := 52) (as := [.ref 46, .ref 93]) (rest := []) rfl rfl (e_x_copyInts_c39 (by omega) _) rfl fun g5 => ?_
  exact L_ret rfl rfl rfl
def told_copyFrom  (g : Sg) : Option (Sg) :=
  Option.bind (net_copyFrom g) (fun g1 => Option.bind (rights_copyFrom g1) (fun g2 => Option.bind (law_copyFrom g2) (fun g3 => Option.bind (gauges_copyFrom g3) (fun g4 => (some g4)))))
theorem e_told_copyFrom {X : Xx} {d : Nat} (hd : 4 ≤ d)  (g : Sg) : ∀ r, told_copyFrom  g = some r → EvM zft mtl X d 88 [.ref 48, .ref 1] (SHF, g) ((fun r : Sg => ((none, (SHF, r)) : Out)) r) := by
  obtain ⟨d, rfl⟩ : ∃ d0, d = d0 + 1 := ⟨d - 1, by omega⟩
  have hd : 3 ≤ d := by omega
  refine E_in (f := (fun r : Sg => ((none, (SHF, r)) : Out))) rfl (Nat.le_of_ble_eq_true rfl) ?_
  unfold told_copyFrom
  change Lt X d none k_88 _ 0 [some (.ref 48), some (.ref 1)] [] g _
  refine L_s (pc' := 1) rfl rfl ?_
  refine L_gf (pc' := 4) rfl fr_48_0 rfl ?_
  refine L_s (pc' := 5) rfl rfl ?_
  refine L_gf (pc' := 8) rfl fr_1_0 rfl ?_
  refine L_cv (pc' := 11) (as := [.ref 49, .ref 2]) (rest := []) rfl rfl (e_net_copyFrom (by omega) _) rfl fun g1 => ?_
  refine L_s (pc' := 12) rfl rfl ?_
  refine L_gf (pc' := 15) rfl fr_48_1 rfl ?_
  refine L_s (pc' := 16) rfl rfl ?_
  refine L_gf (pc' := 19) rfl fr_1_1 rfl ?_
  refine L_cv (pc' := 22) (as := [.ref 69, .ref 22]) (rest := []) rfl rfl (e_rights_copyFrom (by omega) _) rfl fun g2 => ?_
  refine L_s (pc' := 23) rfl rfl ?_
  refine L_gf (pc' := 26) rfl fr_48_2 rfl ?_
  refine L_s (pc' := 27) rfl rfl ?_
  refine L_gf (pc' := 30) rfl fr_1_2 rfl ?_
  refine L_cv (pc' := 33) (as := [.ref 78, .ref 31]) (rest := []) rfl rfl (e_law_copyFrom (by omega) _) rfl fun g3 => ?_
  refine L_s (pc' := 34) rfl rfl ?_
  refine L_gf (pc' := 37) rfl fr_48_3 rfl ?_
  refine L_s (pc' := 38) rfl rfl ?_
  refine L_gf (pc' := 41) rfl fr_1_3 rfl ?_
  refine L_cv (pc' := 44) (as := [.ref 89, .ref 42]) (rest := []) rfl rfl (e_gauges_copyFrom (by omega) _) rfl fun g4 => ?_
  exact L_ret rfl rfl rfl
def x_copyInts_c40  (g : Sg) : Option (Sg) :=
  lt1 (cp2 g 3 0 96 0 (Int32.toNatClampNeg 10)) (fun g1 => (some g1))
theorem e_x_copyInts_c40 {X : Xx} {d : Nat} (hd : 1 ≤ d)  (g : Sg) : ∀ r, x_copyInts_c40  g = some r → EvM zft mtl X d 145 [.ref 3, .ref 96] (SHF, g) ((fun r : Sg => ((none, (SHF, r)) : Out)) r) := by
  obtain ⟨d, rfl⟩ : ∃ d0, d = d0 + 1 := ⟨d - 1, by omega⟩
  have hd : 0 ≤ d := by omega
  refine E_in (f := (fun r : Sg => ((none, (SHF, r)) : Out))) rfl (Nat.le_of_ble_eq_true rfl) ?_
  unfold x_copyInts_c40
  change Lt X d none k_145 _ 0 [some (.ref 3), some (.ref 96)] [] g _
  refine L_s (pc' := 1) rfl rfl ?_
  refine L_ic (pc' := 2) rfl q1_0 rfl ?_
  refine L_s (pc' := 3) rfl rfl ?_
  refine L_ic (pc' := 4) rfl q1_0 rfl ?_
  refine L_s (pc' := 5) rfl rfl ?_
  refine L_s (pc' := 6) (st' := [.int 10, .int 0, .ref 96, .int 0, .ref 3]) rfl rfl ?_
  refine L_s (pc' := 7) rfl rfl ?_
  refine L_s (pc' := 8) (st' := [.int 10, .int 10, .int 0, .ref 96, .int 0, .ref 3]) rfl rfl ?_
  refine L_s (pc' := 11) rfl rfl ?_
  refine L_e (b := 10) (by decide) ?_
  refine L_cp (pc' := 14) rfl sh_3 sh_96 (by decide) (by decide) (by decide) (by decide) rfl rfl ?_
  refine L_let fun g1 _ => ?_
  exact L_ret rfl rfl rfl
def x_copyInts_c41  (g : Sg) : Option (Sg) :=
  lt1 (cp2 g 4 0 97 0 (Int32.toNatClampNeg 10)) (fun g1 => (some g1))
theorem e_x_copyInts_c41 {X : Xx} {d : Nat} (hd : 1 ≤ d)  (g : Sg) : ∀ r, x_copyInts_c41  g = some r → EvM zft mtl X d 145 [.ref 4, .ref 97] (SHF, g) ((fun r : Sg => ((none, (SHF, r)) : Out)) r) := by
  obtain ⟨d, rfl⟩ : ∃ d0, d = d0 + 1 := ⟨d - 1, by omega⟩
  have hd : 0 ≤ d := by omega
  refine E_in (f := (fun r : Sg => ((none, (SHF, r)) : Out))) rfl (Nat.le_of_ble_eq_true rfl) ?_
  unfold x_copyInts_c41
  change Lt X d none k_145 _ 0 [some (.ref 4), some (.ref 97)] [] g _
  refine L_s (pc' := 1) rfl rfl ?_
  refine L_ic (pc' := 2) rfl q1_0 rfl ?_
  refine L_s (pc' := 3) rfl rfl ?_
  refine L_ic (pc' := 4) rfl q1_0 rfl ?_
  refine L_s (pc' := 5) rfl rfl ?_
  refine L_s (pc' := 6) (st' := [.int 10, .int 0, .ref 97, .int 0, .ref 4]) rfl rfl ?_
  refine L_s (pc' := 7) rfl rfl ?_
  refine L_s (pc' := 8) (st' := [.int 10, .int 10, .int 0, .ref 97, .int 0, .ref 4]) rfl rfl ?_
  refine L_s (pc' := 11) rfl rfl ?_
  refine L_e (b := 10) (by decide) ?_
  refine L_cp (pc' := 14) rfl sh_4 sh_97 (by decide) (by decide) (by decide) (by decide) rfl rfl ?_
  refine L_let fun g1 _ => ?_
  exact L_ret rfl rfl rfl
def x_copyInts_c42  (g : Sg) : Option (Sg) :=
  lt1 (cp2 g 5 0 98 0 (Int32.toNatClampNeg 10)) (fun g1 => (some g1))
theorem e_x_copyInts_c42 {X : Xx} {d : Nat} (hd : 1 ≤ d)  (g : Sg) : ∀ r, x_copyInts_c42  g = some r → EvM zft mtl X d 145 [.ref 5, .ref 98] (SHF, g) ((fun r : Sg => ((none, (SHF, r)) : Out)) r) := by
  obtain ⟨d, rfl⟩ : ∃ d0, d = d0 + 1 := ⟨d - 1, by omega⟩
  have hd : 0 ≤ d := by omega
  refine E_in (f := (fun r : Sg => ((none, (SHF, r)) : Out))) rfl (Nat.le_of_ble_eq_true rfl) ?_
  unfold x_copyInts_c42
  change Lt X d none k_145 _ 0 [some (.ref 5), some (.ref 98)] [] g _
  refine L_s (pc' := 1) rfl rfl ?_
  refine L_ic (pc' := 2) rfl q1_0 rfl ?_
  refine L_s (pc' := 3) rfl rfl ?_
  refine L_ic (pc' := 4) rfl q1_0 rfl ?_
  refine L_s (pc' := 5) rfl rfl ?_
  refine L_s (pc' := 6) (st' := [.int 10, .int 0, .ref 98, .int 0, .ref 5]) rfl rfl ?_
  refine L_s (pc' := 7) rfl rfl ?_
  refine L_s (pc' := 8) (st' := [.int 10, .int 10, .int 0, .ref 98, .int 0, .ref 5]) rfl rfl ?_
  refine L_s (pc' := 11) rfl rfl ?_
  refine L_e (b := 10) (by decide) ?_
  refine L_cp (pc' := 14) rfl sh_5 sh_98 (by decide) (by decide) (by decide) (by decide) rfl rfl ?_
  refine L_let fun g1 _ => ?_
  exact L_ret rfl rfl rfl
def x_copyInts_c43  (g : Sg) : Option (Sg) :=
  lt1 (cp2 g 9 0 102 0 (Int32.toNatClampNeg 14)) (fun g1 => (some g1))
theorem e_x_copyInts_c43 {X : Xx} {d : Nat} (hd : 1 ≤ d)  (g : Sg) : ∀ r, x_copyInts_c43  g = some r → EvM zft mtl X d 145 [.ref 9, .ref 102] (SHF, g) ((fun r : Sg => ((none, (SHF, r)) : Out)) r) := by
  obtain ⟨d, rfl⟩ : ∃ d0, d = d0 + 1 := ⟨d - 1, by omega⟩
  have hd : 0 ≤ d := by omega
  refine E_in (f := (fun r : Sg => ((none, (SHF, r)) : Out))) rfl (Nat.le_of_ble_eq_true rfl) ?_
  unfold x_copyInts_c43
  change Lt X d none k_145 _ 0 [some (.ref 9), some (.ref 102)] [] g _
  refine L_s (pc' := 1) rfl rfl ?_
  refine L_ic (pc' := 2) rfl q1_0 rfl ?_
  refine L_s (pc' := 3) rfl rfl ?_
  refine L_ic (pc' := 4) rfl q1_0 rfl ?_
  refine L_s (pc' := 5) rfl rfl ?_
  refine L_s (pc' := 6) (st' := [.int 14, .int 0, .ref 102, .int 0, .ref 9]) rfl rfl ?_
  refine L_s (pc' := 7) rfl rfl ?_
  refine L_s (pc' := 8) (st' := [.int 14, .int 14, .int 0, .ref 102, .int 0, .ref 9]) rfl rfl ?_
  refine L_s (pc' := 11) rfl rfl ?_
  refine L_e (b := 14) (by decide) ?_
  refine L_cp (pc' := 14) rfl sh_9 sh_102 (by decide) (by decide) (by decide) (by decide) rfl rfl ?_
  refine L_let fun g1 _ => ?_
  exact L_ret rfl rfl rfl
def x_copyInts_c44  (g : Sg) : Option (Sg) :=
  lt1 (cp2 g 10 0 103 0 (Int32.toNatClampNeg 14)) (fun g1 => (some g1))
theorem e_x_copyInts_c44 {X : Xx} {d : Nat} (hd : 1 ≤ d)  (g : Sg) : ∀ r, x_copyInts_c44  g = some r → EvM zft mtl X d 145 [.ref 10, .ref 103] (SHF, g) ((fun r : Sg => ((none, (SHF, r)) : Out)) r) := by
  obtain ⟨d, rfl⟩ : ∃ d0, d = d0 + 1 := ⟨d - 1, by omega⟩
  have hd : 0 ≤ d := by omega
  refine E_in (f := (fun r : Sg => ((none, (SHF, r)) : Out))) rfl (Nat.le_of_ble_eq_true rfl) ?_
  unfold x_copyInts_c44
  change Lt X d none k_145 _ 0 [some (.ref 10), some (.ref 103)] [] g _
  refine L_s (pc' := 1) rfl rfl ?_
  refine L_ic (pc' := 2) rfl q1_0 rfl ?_
  refine L_s (pc' := 3) rfl rfl ?_
  refine L_ic (pc' := 4) rfl q1_0 rfl ?_
  refine L_s (pc' := 5) rfl rfl ?_
  refine L_s (pc' := 6) (st' := [.int 14, .int 0, .ref 103, .int 0, .ref 10]) rfl rfl ?_
  refine L_s (pc' := 7) rfl rfl ?_
  refine L_s (pc' := 8) (st' := [.int 14, .int 14, .int 0, .ref 103, .int 0, .ref 10]) rfl rfl ?_
  refine L_s (pc' := 11) rfl rfl ?_
  refine L_e (b := 14) (by decide) ?_
  refine L_cp (pc' := 14) rfl sh_10 sh_103 (by decide) (by decide) (by decide) (by decide) rfl rfl ?_
  refine L_let fun g1 _ => ?_
  exact L_ret rfl rfl rfl
def x_copyInts_c45  (g : Sg) : Option (Sg) :=
  lt1 (cp2 g 11 0 104 0 (Int32.toNatClampNeg 14)) (fun g1 => (some g1))
theorem e_x_copyInts_c45 {X : Xx} {d : Nat} (hd : 1 ≤ d)  (g : Sg) : ∀ r, x_copyInts_c45  g = some r → EvM zft mtl X d 145 [.ref 11, .ref 104] (SHF, g) ((fun r : Sg => ((none, (SHF, r)) : Out)) r) := by
  obtain ⟨d, rfl⟩ : ∃ d0, d = d0 + 1 := ⟨d - 1, by omega⟩
  have hd : 0 ≤ d := by omega
  refine E_in (f := (fun r : Sg => ((none, (SHF, r)) : Out))) rfl (Nat.le_of_ble_eq_true rfl) ?_
  unfold x_copyInts_c45
  change Lt X d none k_145 _ 0 [some (.ref 11), some (.ref 104)] [] g _
  refine L_s (pc' := 1) rfl rfl ?_
  refine L_ic (pc' := 2) rfl q1_0 rfl ?_
  refine L_s (pc' := 3) rfl rfl ?_
  refine L_ic (pc' := 4) rfl q1_0 rfl ?_
  refine L_s (pc' := 5) rfl rfl ?_
  refine L_s (pc' := 6) (st' := [.int 14, .int 0, .ref 104, .int 0, .ref 11]) rfl rfl ?_
  refine L_s (pc' := 7) rfl rfl ?_
  refine L_s (pc' := 8) (st' := [.int 14, .int 14, .int 0, .ref 104, .int 0, .ref 11]) rfl rfl ?_
  refine L_s (pc' := 11) rfl rfl ?_
  refine L_e (b := 14) (by decide) ?_
  refine L_cp (pc' := 14) rfl sh_11 sh_104 (by decide) (by decide) (by decide) (by decide) rfl rfl ?_
  refine L_let fun g1 _ => ?_
  exact L_ret rfl rfl rfl
def x_copyInts_c46  (g : Sg) : Option (Sg) :=
  lt1 (cp2 g 12 0 105 0 (Int32.toNatClampNeg 14)) (fun g1 => (some g1))
theorem e_x_copyInts_c46 {X : Xx} {d : Nat} (hd : 1 ≤ d)  (g : Sg) : ∀ r, x_copyInts_c46  g = some r → EvM zft mtl X d 145 [.ref 12, .ref 105] (SHF, g) ((fun r : Sg => ((none, (SHF, r)) : Out)) r) := by
  obtain ⟨d, rfl⟩ : ∃ d0, d = d0 + 1 := ⟨d - 1, by omega⟩
  have hd : 0 ≤ d := by omega
  refine E_in (f := (fun r : Sg => ((none, (SHF, r)) : Out))) rfl (Nat.le_of_ble_eq_true rfl) ?_
  unfold x_copyInts_c46
  change Lt X d none k_145 _ 0 [some (.ref 12), some (.ref 105)] [] g _
  refine L_s (pc' := 1) rfl rfl ?_
  refine L_ic (pc' := 2) rfl q1_0 rfl ?_
  refine L_s (pc' := 3) rfl rfl ?_
  refine L_ic (pc' := 4) rfl q1_0 rfl ?_
  refine L_s (pc' := 5) rfl rfl ?_
  refine L_s (pc' := 6) (st' := [.int 14, .int 0, .ref 105, .int 0, .ref 12]) rfl rfl ?_
  refine L_s (pc' := 7) rfl rfl ?_
  refine L_s (pc' := 8) (st' := [.int 14, .int 14, .int 0, .ref 105, .int 0, .ref 12]) rfl rfl ?_
  refine L_s (pc' := 11) rfl rfl ?_
  refine L_e (b := 14) (by decide) ?_
  refine L_cp (pc' := 14) rfl sh_12 sh_105 (by decide) (by decide) (by decide) (by decide) rfl rfl ?_
  refine L_let fun g1 _ => ?_
  exact L_ret rfl rfl rfl
def x_copyInts_c47  (g : Sg) : Option (Sg) :=
  lt1 (cp2 g 13 0 106 0 (Int32.toNatClampNeg 14)) (fun g1 => (some g1))
theorem e_x_copyInts_c47 {X : Xx} {d : Nat} (hd : 1 ≤ d)  (g : Sg) : ∀ r, x_copyInts_c47  g = some r → EvM zft mtl X d 145 [.ref 13, .ref 106] (SHF, g) ((fun r : Sg => ((none, (SHF, r)) : Out)) r) := by
  obtain ⟨d, rfl⟩ : ∃ d0, d = d0 + 1 := ⟨d - 1, by omega⟩
  have hd : 0 ≤ d := by omega
  refine E_in (f := (fun r : Sg => ((none, (SHF, r)) : Out))) rfl (Nat.le_of_ble_eq_true rfl) ?_
  unfold x_copyInts_c47
  change Lt X d none k_145 _ 0 [some (.ref 13), some (.ref 106)] [] g _
  refine L_s (pc' := 1) rfl rfl ?_
  refine L_ic (pc' := 2) rfl q1_0 rfl ?_
  refine L_s (pc' := 3) rfl rfl ?_
  refine L_ic (pc' := 4) rfl q1_0 rfl ?_
  refine L_s (pc' := 5) rfl rfl ?_
  refine L_s (pc' := 6) (st' := [.int 14, .int 0, .ref 106, .int 0, .ref 13]) rfl rfl ?_
  refine L_s (pc' := 7) rfl rfl ?_
  refine L_s (pc' := 8) (st' := [.int 14, .int 14, .int 0, .ref 106, .int 0, .ref 13]) rfl rfl ?_
  refine L_s (pc' := 11) rfl rfl ?_
  refine L_e (b := 14) (by decide) ?_
  refine L_cp (pc' := 14) rfl sh_13 sh_106 (by decide) (by decide) (by decide) (by decide) rfl rfl ?_
  refine L_let fun g1 _ => ?_
  exact L_ret rfl rfl rfl
def x_copyInts_c48  (g : Sg) : Option (Sg) :=
  lt1 (cp2 g 14 0 107 0 (Int32.toNatClampNeg 14)) (fun g1 => (some g1))
theorem e_x_copyInts_c48 {X : Xx} {d : Nat} (hd : 1 ≤ d)  (g : Sg) : ∀ r, x_copyInts_c48  g = some r → EvM zft mtl X d 145 [.ref 14, .ref 107] (SHF, g) ((fun r : Sg => ((none, (SHF, r)) : Out)) r) := by
  obtain ⟨d, rfl⟩ : ∃ d0, d = d0 + 1 := ⟨d - 1, by omega⟩
  have hd : 0 ≤ d := by omega
  refine E_in (f := (fun r : Sg => ((none, (SHF, r)) : Out))) rfl (Nat.le_of_ble_eq_true rfl) ?_
  unfold x_copyInts_c48
  change Lt X d none k_145 _ 0 [some (.ref 14), some (.ref 107)] [] g _
  refine L_s (pc' := 1) rfl rfl ?_
  refine L_ic (pc' := 2) rfl q1_0 rfl ?_
  refine L_s (pc' := 3) rfl rfl ?_
  refine L_ic (pc' := 4) rfl q1_0 rfl ?_
  refine L_s (pc' := 5) rfl rfl ?_
  refine L_s (pc' := 6) (st' := [.int 14, .int 0, .ref 107, .int 0, .ref 14]) rfl rfl ?_
  refine L_s (pc' := 7) rfl rfl ?_
  refine L_s (pc' := 8) (st' := [.int 14, .int 14, .int 0, .ref 107, .int 0, .ref 14]) rfl rfl ?_
  refine L_s (pc' := 11) rfl rfl ?_
  refine L_e (b := 14) (by decide) ?_
  refine L_cp (pc' := 14) rfl sh_14 sh_107 (by decide) (by decide) (by decide) (by decide) rfl rfl ?_
  refine L_let fun g1 _ => ?_
  exact L_ret rfl rfl rfl
def x_copyFlags_c4  (g : Sg) : Option (Sg) :=
  lt1 (cp2 g 15 0 108 0 (Int32.toNatClampNeg 14)) (fun g1 => (some g1))
theorem e_x_copyFlags_c4 {X : Xx} {d : Nat} (hd : 1 ≤ d)  (g : Sg) : ∀ r, x_copyFlags_c4  g = some r → EvM zft mtl X d 147 [.ref 15, .ref 108] (SHF, g) ((fun r : Sg => ((none, (SHF, r)) : Out)) r) := by
  obtain ⟨d, rfl⟩ : ∃ d0, d = d0 + 1 := ⟨d - 1, by omega⟩
  have hd : 0 ≤ d := by omega
  refine E_in (f := (fun r : Sg => ((none, (SHF, r)) : Out))) rfl (Nat.le_of_ble_eq_true rfl) ?_
  unfold x_copyFlags_c4
  change Lt X d none k_147 _ 0 [some (.ref 15), some (.ref 108)] [] g _
  refine L_s (pc' := 1) rfl rfl ?_
  refine L_ic (pc' := 2) rfl q1_0 rfl ?_
  refine L_s (pc' := 3) rfl rfl ?_
  refine L_ic (pc' := 4) rfl q1_0 rfl ?_
  refine L_s (pc' := 5) rfl rfl ?_
  refine L_s (pc' := 6) (st' := [.int 14, .int 0, .ref 108, .int 0, .ref 15]) rfl rfl ?_
  refine L_s (pc' := 7) rfl rfl ?_
  refine L_s (pc' := 8) (st' := [.int 14, .int 14, .int 0, .ref 108, .int 0, .ref 15]) rfl rfl ?_
  refine L_s (pc' := 11) rfl rfl ?_
  refine L_e (b := 14) (by decide) ?_
  refine L_cp (pc' := 14) rfl sh_15 sh_108 (by decide) (by decide) (by decide) (by decide) rfl rfl ?_
  refine L_let fun g1 _ => ?_
  exact L_ret rfl rfl rfl
def x_copyInts_c49  (g : Sg) : Option (Sg) :=
  lt1 (cp2 g 7 0 100 0 (Int32.toNatClampNeg 10)) (fun g1 => (some g1))
theorem e_x_copyInts_c49 {X : Xx} {d : Nat} (hd : 1 ≤ d)  (g : Sg) : ∀ r, x_copyInts_c49  g = some r → EvM zft mtl X d 145 [.ref 7, .ref 100] (SHF, g) ((fun r : Sg => ((none, (SHF, r)) : Out)) r) := by
  obtain ⟨d, rfl⟩ : ∃ d0, d = d0 + 1 := ⟨d - 1, by omega⟩
  have hd : 0 ≤ d := by omega
  refine E_in (f := (fun r : Sg => ((none, (SHF, r)) : Out))) rfl (Nat.le_of_ble_eq_true rfl) ?_
  unfold x_copyInts_c49
  change Lt X d none k_145 _ 0 [some (.ref 7), some (.ref 100)] [] g _
  refine L_s (pc' := 1) rfl rfl ?_
  refine L_ic (pc' := 2) rfl q1_0 rfl ?_
  refine L_s (pc' := 3) rfl rfl ?_
  refine L_ic (pc' := 4) rfl q1_0 rfl ?_
  refine L_s (pc' := 5) rfl rfl ?_
  refine L_s (pc' := 6) (st' := [.int 10, .int 0, .ref 100, .int 0, .ref 7]) rfl rfl ?_
  refine L_s (pc' := 7) rfl rfl ?_
  refine L_s (pc' := 8) (st' := [.int 10, .int 10, .int 0, .ref 100, .int 0, .ref 7]) rfl rfl ?_
  refine L_s (pc' := 11) rfl rfl ?_
  refine L_e (b := 10) (by decide) ?_
  refine L_cp (pc' := 14) rfl sh_7 sh_100 (by decide) (by decide) (by decide) (by decide) rfl rfl ?_
  refine L_let fun g1 _ => ?_
  exact L_ret rfl rfl rfl
def x_copyInts_c50  (g : Sg) : Option (Sg) :=
  lt1 (cp2 g 17 0 110 0 (Int32.toNatClampNeg 126)) (fun g1 => (some g1))
theorem e_x_copyInts_c50 {X : Xx} {d : Nat} (hd : 1 ≤ d)  (g : Sg) : ∀ r, x_copyInts_c50  g = some r → EvM zft mtl X d 145 [.ref 17, .ref 110] (SHF, g) ((fun r : Sg => ((none, (SHF, r)) : Out)) r) := by
  obtain ⟨d, rfl⟩ : ∃ d0, d = d0 + 1 := ⟨d - 1, by omega⟩
  have hd : 0 ≤ d := by omega
  refine E_in (f := (fun r : Sg => ((none, (SHF, r)) : Out))) rfl (Nat.le_of_ble_eq_true rfl) ?_
  unfold x_copyInts_c50
  change Lt X d none k_145 _ 0 [some (.ref 17), some (.ref 110)] [] g _
  refine L_s (pc' := 1) rfl rfl ?_
  refine L_ic (pc' := 2) rfl q1_0 rfl ?_
  refine L_s (pc' := 3) rfl rfl ?_
  refine L_ic (pc' := 4) rfl q1_0 rfl ?_
  refine L_s (pc' := 5) rfl rfl ?_
  refine L_s (pc' := 6) (st' := [.int 126, .int 0, .ref 110, .int 0, .ref 17]) rfl rfl ?_
  refine L_s (pc' := 7) rfl rfl ?_
  refine L_s (pc' := 8) (st' := [.int 126, .int 126, .int 0, .ref 110, .int 0, .ref 17]) rfl rfl ?_
  refine L_s (pc' := 11) rfl rfl ?_
  refine L_e (b := 126) (by decide) ?_
  refine L_cp (pc' := 14) rfl sh_17 sh_110 (by decide) (by decide) (by decide) (by decide) rfl rfl ?_
  refine L_let fun g1 _ => ?_
  exact L_ret rfl rfl rfl
def x_copyInts_c51  (g : Sg) : Option (Sg) :=
  lt1 (cp2 g 8 0 101 0 (Int32.toNatClampNeg 10)) (fun g1 => (some g1))
theorem e_x_copyInts_c51 {X : Xx} {d : Nat} (hd : 1 ≤ d)  (g : Sg) : ∀ r, x_copyInts_c51  g = some r → EvM zft mtl X d 145 [.ref 8, .ref 101] (SHF, g) ((fun r : Sg => ((none, (SHF, r)) : Out)) r) := by
  obtain ⟨d, rfl⟩ : ∃ d0, d = d0 + 1 := ⟨d - 1, by omega⟩
  have hd : 0 ≤ d := by omega
  refine E_in (f := (fun r : Sg => ((none, (SHF, r)) : Out))) rfl (Nat.le_of_ble_eq_true rfl) ?_
  unfold x_copyInts_c51
  change Lt X d none k_145 _ 0 [some (.ref 8), some (.ref 101)] [] g _
  refine L_s (pc' := 1) rfl rfl ?_
  refine L_ic (pc' := 2) rfl q1_0 rfl ?_
  refine L_s (pc' := 3) rfl rfl ?_
  refine L_ic (pc' := 4) rfl q1_0 rfl ?_
  refine L_s (pc' := 5) rfl rfl ?_
  refine L_s (pc' := 6) (st' := [.int 10, .int 0, .ref 101, .int 0, .ref 8]) rfl rfl ?_
  refine L_s (pc' := 7) rfl rfl ?_
  refine L_s (pc' := 8) (st' := [.int 10, .int 10, .int 0, .ref 101, .int 0, .ref 8]) rfl rfl ?_
  refine L_s (pc' := 11) rfl rfl ?_
  refine L_e (b := 10) (by decide) ?_
  refine L_cp (pc' := 14) rfl sh_8 sh_101 (by decide) (by decide) (by decide) (by decide) rfl rfl ?_
  refine L_let fun g1 _ => ?_
  exact L_ret rfl rfl rfl
def x_copyInts_c52  (g : Sg) : Option (Sg) :=
  lt1 (cp2 g 18 0 111 0 (Int32.toNatClampNeg 126)) (fun g1 => (some g1))
theorem e_x_copyInts_c52 {X : Xx} {d : Nat} (hd : 1 ≤ d)  (g : Sg) : ∀ r, x_copyInts_c52  g = some r → EvM zft mtl X d 145 [.ref 18, .ref 111] (SHF, g) ((fun r : Sg => ((none, (SHF, r)) : Out)) r) := by
  obtain ⟨d, rfl⟩ : ∃ d0, d = d0 + 1 := ⟨d - 1, by omega⟩
  have hd : 0 ≤ d := by omega
  refine E_in (f := (fun r : Sg => ((none, (SHF, r)) : Out))) rfl (Nat.le_of_ble_eq_true rfl) ?_
  unfold x_copyInts_c52
  change Lt X d none k_145 _ 0 [some (.ref 18), some (.ref 111)] [] g _
  refine L_s (pc' := 1) rfl rfl ?_
  refine L_ic (pc' := 2) rfl q1_0 rfl ?_
  refine L_s (pc' := 3) rfl rfl ?_
  refine L_ic (pc' := 4) rfl q1_0 rfl ?_
  refine L_s (pc' := 5) rfl rfl ?_
  refine L_s (pc' := 6) (st' := [.int 126, .int 0, .ref 111, .int 0, .ref 18]) rfl rfl ?_
  refine L_s (pc' := 7) rfl rfl ?_
  refine L_s (pc' := 8) (st' := [.int 126, .int 126, .int 0, .ref 111, .int 0, .ref 18]) rfl rfl ?_
  refine L_s (pc' := 11) rfl rfl ?_
  refine L_e (b := 126) (by decide) ?_
  refine L_cp (pc' := 14) rfl sh_18 sh_111 (by decide) (by decide) (by decide) (by decide) rfl rfl ?_
  refine L_let fun g1 _ => ?_
  exact L_ret rfl rfl rfl
def x_copyInts_c53  (g : Sg) : Option (Sg) :=
  lt1 (cp2 g 19 0 112 0 (Int32.toNatClampNeg 2)) (fun g1 => (some g1))
theorem e_x_copyInts_c53 {X : Xx} {d : Nat} (hd : 1 ≤ d)  (g : Sg) : ∀ r, x_copyInts_c53  g = some r → EvM zft mtl X d 145 [.ref 19, .ref 112] (SHF, g) ((fun r : Sg => ((none, (SHF, r)) : Out)) r) := by
  obtain ⟨d, rfl⟩ : ∃ d0, d = d0 + 1 := ⟨d - 1, by omega⟩
  have hd : 0 ≤ d := by omega
  refine E_in (f := (fun r : Sg => ((none, (SHF, r)) : Out))) rfl (Nat.le_of_ble_eq_true rfl) ?_
  unfold x_copyInts_c53
  change Lt X d none k_145 _ 0 [some (.ref 19), some (.ref 112)] [] g _
  refine L_s (pc' := 1) rfl rfl ?_
  refine L_ic (pc' := 2) rfl q1_0 rfl ?_
  refine L_s (pc' := 3) rfl rfl ?_
  refine L_ic (pc' := 4) rfl q1_0 rfl ?_
  refine L_s (pc' := 5) rfl rfl ?_
  refine L_s (pc' := 6) (st' := [.int 2, .int 0, .ref 112, .int 0, .ref 19]) rfl rfl ?_
  refine L_s (pc' := 7) rfl rfl ?_
  refine L_s (pc' := 8) (st' := [.int 2, .int 2, .int 0, .ref 112, .int 0, .ref 19]) rfl rfl ?_
  refine L_s (pc' := 11) rfl rfl ?_
  refine L_e (b := 2) (by decide) ?_
  refine L_cp (pc' := 14) rfl sh_19 sh_112 (by decide) (by decide) (by decide) (by decide) rfl rfl ?_
  refine L_let fun g1 _ => ?_
  exact L_ret rfl rfl rfl
def x_copyInts_c54  (g : Sg) : Option (Sg) :=
  lt1 (cp2 g 20 0 113 0 (Int32.toNatClampNeg 2)) (fun g1 => (some g1))
theorem e_x_copyInts_c54 {X : Xx} {d : Nat} (hd : 1 ≤ d)  (g : Sg) : ∀ r, x_copyInts_c54  g = some r → EvM zft mtl X d 145 [.ref 20, .ref 113] (SHF, g) ((fun r : Sg => ((none, (SHF, r)) : Out)) r) := by
  obtain ⟨d, rfl⟩ : ∃ d0, d = d0 + 1 := ⟨d - 1, by omega⟩
  have hd : 0 ≤ d := by omega
  refine E_in (f := (fun r : Sg => ((none, (SHF, r)) : Out))) rfl (Nat.le_of_ble_eq_true rfl) ?_
  unfold x_copyInts_c54
  change Lt X d none k_145 _ 0 [some (.ref 20), some (.ref 113)] [] g _
  refine L_s (pc' := 1) rfl rfl ?_
  refine L_ic (pc' := 2) rfl q1_0 rfl ?_
  refine L_s (pc' := 3) rfl rfl ?_
  refine L_ic (pc' := 4) rfl q1_0 rfl ?_
  refine L_s (pc' := 5) rfl rfl ?_
  refine L_s (pc' := 6) (st' := [.int 2, .int 0, .ref 113, .int 0, .ref 20]) rfl rfl ?_
  refine L_s (pc' := 7) rfl rfl ?_
  refine L_s (pc' := 8) (st' := [.int 2, .int 2, .int 0, .ref 113, .int 0, .ref 20]) rfl rfl ?_
  refine L_s (pc' := 11) rfl rfl ?_
  refine L_e (b := 2) (by decide) ?_
  refine L_cp (pc' := 14) rfl sh_20 sh_113 (by decide) (by decide) (by decide) (by decide) rfl rfl ?_
  refine L_let fun g1 _ => ?_
  exact L_ret rfl rfl rfl
def x_copyInts_c55  (g : Sg) : Option (Sg) :=
  lt1 (cp2 g 21 0 114 0 (Int32.toNatClampNeg 2)) (fun g1 => (some g1))
theorem e_x_copyInts_c55 {X : Xx} {d : Nat} (hd : 1 ≤ d)  (g : Sg) : ∀ r, x_copyInts_c55  g = some r → EvM zft mtl X d 145 [.ref 21, .ref 114] (SHF, g) ((fun r : Sg => ((none, (SHF, r)) : Out)) r) := by
  obtain ⟨d, rfl⟩ : ∃ d0, d = d0 + 1 := ⟨d - 1, by omega⟩
  have hd : 0 ≤ d := by omega
  refine E_in (f := (fun r : Sg => ((none, (SHF, r)) : Out))) rfl (Nat.le_of_ble_eq_true rfl) ?_
  unfold x_copyInts_c55
  change Lt X d none k_145 _ 0 [some (.ref 21), some (.ref 114)] [] g _
  refine L_s (pc' := 1) rfl rfl ?_
  refine L_ic (pc' := 2) rfl q1_0 rfl ?_
  refine L_s (pc' := 3) rfl rfl ?_
  refine L_ic (pc' := 4) rfl q1_0 rfl ?_
  refine L_s (pc' := 5) rfl rfl ?_
  refine L_s (pc' := 6) (st' := [.int 2, .int 0, .ref 114, .int 0, .ref 21]) rfl rfl ?_
  refine L_s (pc' := 7) rfl rfl ?_
  refine L_s (pc' := 8) (st' := [.int 2, .int 2, .int 0, .ref 114, .int 0, .ref 21]) rfl rfl ?_
  refine L_s (pc' := 11) rfl rfl ?_
  refine L_e (b := 2) (by decide) ?_
  refine L_cp (pc' := 14) rfl sh_21 sh_114 (by decide) (by decide) (by decide) (by decide) rfl rfl ?_
  refine L_let fun g1 _ => ?_
  exact L_ret rfl rfl rfl
def net_copyFrom_c1  (g : Sg) : Option (Sg) :=
  lt1 (up2 g 95 0 (g 2 0)) (fun g1 => lt1 (up2 g1 95 1 (g1 2 1)) (fun g2 => lt1 (up2 g2 95 6 (g2 2 6)) (fun g3 => Option.bind (x_copyInts_c40 g3) (fun g4 => Option.bind (x_copyInts_c41 g4) (fun g5 => Option.bind (x_copyInts_c42 g5) (fun g6 => Option.bind (x_copyInts_c43 g6) (fun g7 => Option.bind (x_copyInts_c44 g7) (fun g8 => Option.bind (x_copyInts_c45 g8) (fun g9 => Option.bind (x_copyInts_c46 g9) (fun g10 => Option.bind (x_copyInts_c47 g10) (fun g11 => Option.bind (x_copyInts_c48 g11) (fun g12 => Option.bind (x_copyFlags_c4 g12) (fun g13 => Option.bind (x_copyInts_c49 g13) (fun g14 => Option.bind (x_copyInts_c50 g14) (fun g15 => Option.bind (x_copyInts_c51 g15) (fun g16 => Option.bind (x_copyInts_c52 g16) (fun g17 => Option.bind (x_copyInts_c53 g17) (fun g18 => Option.bind (x_copyInts_c54 g18) (fun g19 => Option.bind (x_copyInts_c55 g19) (fun g20 => (some g20)))))))))))))))))))))
theorem e_net_copyFrom_c1 {X : Xx} {d : Nat} (hd : 2 ≤ d)  (g : Sg) : ∀ r, net_copyFrom_c1  g = some r → EvM zft mtl X d 42 [.ref 95, .ref 2] (SHF, g) ((fun r : Sg => ((none, (SHF, r)) : Out)) r) := by
  obtain ⟨d, rfl⟩ : ∃ d0, d = d0 + 1 := ⟨d - 1, by omega⟩
  have hd : 1 ≤ d := by omega
  refine E_in (f := (fun r : Sg => ((none, (SHF, r)) : Out))) rfl (Nat.le_of_ble_eq_true rfl) ?_
  unfold net_copyFrom_c1
  change Lt X d none k_42 _ 0 [some (.ref 95), some (.ref 2), none] [] g _
  refine L_s (pc' := 1) rfl rfl ?_
  refine L_s (pc' := 2) rfl rfl ?_
  refine L_gf (pc' := 5) rfl fi_2_0 rfl ?_
  refine L_pf (pc' := 8) rfl sh_95 (by decide) rfl rfl ?_
  refine L_let fun g1 _ => ?_
  refine L_s (pc' := 9) rfl rfl ?_
  refine L_s (pc' := 10) rfl rfl ?_
  refine L_gf (pc' := 13) rfl fi_2_1 rfl ?_
  refine L_pf (pc' := 16) rfl sh_95 (by decide) rfl rfl ?_
  refine L_let fun g2 _ => ?_
  refine L_s (pc' := 17) rfl rfl ?_
  refine L_s (pc' := 18) rfl rfl ?_
  refine L_gf (pc' := 21) rfl fi_2_6 rfl ?_
  refine L_pf (pc' := 24) rfl sh_95 (by decide) rfl rfl ?_
  refine L_let fun g3 _ => ?_
  refine L_s (pc' := 25) rfl rfl ?_
  refine L_gf (pc' := 28) rfl fr_2_2 rfl ?_
  refine L_s (pc' := 29) rfl rfl ?_
  refine L_gf (pc' := 32) rfl fr_95_2 rfl ?_
  refine L_cv (pc' := 35) (as := [.ref 3, .ref 96]) (rest := []) rfl rfl (e_x_copyInts_c40 (by omega) _) rfl fun g4 => ?_
  refine L_s (pc' := 36) rfl rfl ?_
  refine L_gf (pc' := 39) rfl fr_2_3 rfl ?_
  refine L_s (pc' := 40) rfl rfl ?_
  refine L_gf (pc' := 43) rfl fr_95_3 rfl ?_
  refine L_cv (pc' := 46) (as := [.ref 4, .ref 97]) (rest := []) rfl rfl (e_x_copyInts_c41 (by omega) _) rfl fun g5 => ?_
  refine L_s (pc' := 47) rfl rfl ?_
  refine L_gf (pc' := 50) rfl fr_2_4 rfl ?_
  refine L_s (pc' := 51) rfl rfl ?_
  refine L_gf (pc' := 54) rfl fr_95_4 rfl ?_
  refine L_cv (pc' := 57) (as := [.ref 5, .ref 98]) (rest := []) rfl rfl (e_x_copyInts_c42 (by omega) _) rfl fun g6 => ?_
  refine L_s (pc' := 58) rfl rfl ?_
  refine L_gf (pc' := 61) rfl fr_2_7 rfl ?_
  refine L_s (pc' := 62) rfl rfl ?_
  refine L_gf (pc' := 65) rfl fr_95_7 rfl ?_
  refine L_cv (pc' := 68) (as := [.ref 9, .ref 102]) (rest := []) rfl rfl (e_x_copyInts_c43 (by omega) _) rfl fun g7 => ?_
  refine L_s (pc' := 69) rfl rfl ?_
  refine L_gf (pc' := 72) rfl fr_2_8 rfl ?_
  refine L_s (pc' := 73) rfl rfl ?_
  refine L_gf (pc' := 76) rfl fr_95_8 rfl ?_
  refine L_cv (pc' := 79) (as := [.ref 10, .ref 103]) (rest := []) rfl rfl (e_x_copyInts_c44 (by omega) _) rfl fun g8 => ?_
  refine L_s (pc' := 80) rfl rfl ?_
  refine L_gf (pc' := 83) rfl fr_2_9 rfl ?_
  refine L_s (pc' := 84) rfl rfl ?_
  refine L_gf (pc' := 87) rfl fr_95_9 rfl ?_
  refine L_cv (pc' := 90) (as := [.ref 11, .ref 104]) (rest := []) rfl rfl (e_x_copyInts_c45 (by omega) _) rfl fun g9 => ?_
  refine L_s (pc' := 91) rfl rfl ?_
  refine L_gf (pc' := 94) rfl fr_2_10 rfl ?_
  refine L_s (pc' := 95) rfl rfl ?_
  refine L_gf (pc' := 98) rfl fr_95_10 rfl ?_
  refine L_cv (pc' := 101) (as := [.ref 12, .ref 105]) (rest := []) rfl rfl (e_x_copyInts_c46 (by omega) _) rfl fun g10 => ?_
  refine L_s (pc' := 102) rfl rfl ?_
  refine L_gf (pc' := 105) rfl fr_2_11 rfl ?_
  refine L_s (pc' := 106) rfl rfl ?_
  refine L_gf (pc' := 109) rfl fr_95_11 rfl ?_
  refine L_cv (pc' := 112) (as := [.ref 13, .ref 106]) (rest := []) rfl rfl (e_x_copyInts_c47 (by omega) _) rfl fun g11 => ?_
  refine L_s (pc' := 113) rfl rfl ?_
  refine L_gf (pc' := 116) rfl fr_2_12 rfl ?_
  refine L_s (pc' := 117) rfl rfl ?_
  refine L_gf (pc' := 120) rfl fr_95_12 rfl ?_
  refine L_cv (pc' := 123) (as := [.ref 14, .ref 107]) (rest := []) rfl rfl (e_x_copyInts_c48 (by omega) _) rfl fun g12 => ?_
  refine L_s (pc' := 124) rfl rfl ?_
  refine L_gf (pc' := 127) rfl fr_2_13 rfl ?_
  refine L_s (pc' := 128) rfl rfl ?_
  refine L_gf (pc' := 131) rfl fr_95_13 rfl ?_
  refine L_cv (pc' := 134) (as := [.ref 15, .ref 108]) (rest := []) rfl rfl (e_x_copyFlags_c4 (by omega) _) rfl fun g13 => ?_
  refine L_ic (pc' := 135) rfl q1_0 rfl ?_
  refine L_s (pc' := 136) (L' := [some (.ref 95), some (.ref 2), some (.int 0)]) rfl rfl ?_
  refine L_s (pc' := 137) rfl rfl ?_
  refine L_ic (pc' := 138) rfl q1_2 rfl ?_
  refine L_bf (c := (2 : Int32) ≤ 0) (t := 177) (n := 141) rfl rfl (by decide) ?_
  refine L_s (pc' := 142) rfl rfl ?_
  refine L_gf (pc' := 145) rfl fr_2_5 rfl ?_
  refine L_s (pc' := 146) rfl rfl ?_
  refine L_aa (pc' := 147) rfl sh_6 (by decide) (by decide) rfl rfl ?_
  refine L_s (pc' := 148) rfl rfl ?_
  refine L_gf (pc' := 151) rfl fr_95_5 rfl ?_
  refine L_s (pc' := 152) rfl rfl ?_
  refine L_aa (pc' := 153) rfl sh_99 (by decide) (by decide) rfl rfl ?_
  refine L_cv (pc' := 156) (as := [.ref 7, .ref 100]) (rest := []) rfl rfl (e_x_copyInts_c49 (by omega) _) rfl fun g14 => ?_
  refine L_s (pc' := 157) rfl rfl ?_
  refine L_gf (pc' := 160) rfl fr_2_14 rfl ?_
  refine L_s (pc' := 161) rfl rfl ?_
  refine L_aa (pc' := 162) rfl sh_16 (by decide) (by decide) rfl rfl ?_
  refine L_s (pc' := 163) rfl rfl ?_
  refine L_gf (pc' := 166) rfl fr_95_14 rfl ?_
  refine L_s (pc' := 167) rfl rfl ?_
  refine L_aa (pc' := 168) rfl sh_109 (by decide) (by decide) rfl rfl ?_
  refine L_cv (pc' := 171) (as := [.ref 17, .ref 110]) (rest := []) rfl rfl (e_x_copyInts_c50 (by omega) _) rfl fun g15 => ?_
  refine L_ii (pc' := 174) (L' := [some (.ref 95), some (.ref 2), some (.int 1)]) rfl rfl q1_1 (by decide : (0 : Int32) + 1 = 1) rfl rfl ?_
  refine L_s (pc' := 136) rfl rfl ?_
  refine L_s (pc' := 137) rfl rfl ?_
  refine L_ic (pc' := 138) rfl q1_2 rfl ?_
  refine L_bf (c := (2 : Int32) ≤ 1) (t := 177) (n := 141) rfl rfl (by decide) ?_
  refine L_s (pc' := 142) rfl rfl ?_
  refine L_gf (pc' := 145) rfl fr_2_5 rfl ?_
  refine L_s (pc' := 146) rfl rfl ?_
  refine L_aa (pc' := 147) rfl sh_6 (by decide) (by decide) rfl rfl ?_
  refine L_s (pc' := 148) rfl rfl ?_
  refine L_gf (pc' := 151) rfl fr_95_5 rfl ?_
  refine L_s (pc' := 152) rfl rfl ?_
  refine L_aa (pc' := 153) rfl sh_99 (by decide) (by decide) rfl rfl ?_
  refine L_cv (pc' := 156) (as := [.ref 8, .ref 101]) (rest := []) rfl rfl (e_x_copyInts_c51 (by omega) _) rfl fun g16 => ?_
  refine L_s (pc' := 157) rfl rfl ?_
  refine L_gf (pc' := 160) rfl fr_2_14 rfl ?_
  refine L_s (pc' := 161) rfl rfl ?_
  refine L_aa (pc' := 162) rfl sh_16 (by decide) (by decide) rfl rfl ?_
  refine L_s (pc' := 163) rfl rfl ?_
  refine L_gf (pc' := 166) rfl fr_95_14 rfl ?_
  refine L_s (pc' := 167) rfl rfl ?_
  refine L_aa (pc' := 168) rfl sh_109 (by decide) (by decide) rfl rfl ?_
  refine L_cv (pc' := 171) (as := [.ref 18, .ref 111]) (rest := []) rfl rfl (e_x_copyInts_c52 (by omega) _) rfl fun g17 => ?_
  refine L_ii (pc' := 174) (L' := [some (.ref 95), some (.ref 2), some (.int 2)]) rfl rfl q1_1 (by decide : (1 : Int32) + 1 = 2) rfl rfl ?_
  refine L_s (pc' := 136) rfl rfl ?_
  refine L_s (pc' := 137) rfl rfl ?_
  refine L_ic (pc' := 138) rfl q1_2 rfl ?_
  refine L_bt (c := (2 : Int32) ≤ 2) (t := 177) (n := 141) rfl rfl (by decide) ?_
  refine L_s (pc' := 178) rfl rfl ?_
  refine L_gf (pc' := 181) rfl fr_2_15 rfl ?_
  refine L_s (pc' := 182) rfl rfl ?_
  refine L_gf (pc' := 185) rfl fr_95_15 rfl ?_
  refine L_cv (pc' := 188) (as := [.ref 19, .ref 112]) (rest := []) rfl rfl (e_x_copyInts_c53 (by omega) _) rfl fun g18 => ?_
  refine L_s (pc' := 189) rfl rfl ?_
  refine L_gf (pc' := 192) rfl fr_2_16 rfl ?_
  refine L_s (pc' := 193) rfl rfl ?_
  refine L_gf (pc' := 196) rfl fr_95_16 rfl ?_
  refine L_cv (pc' := 199) (as := [.ref 20, .ref 113]) (rest := []) rfl rfl (e_x_copyInts_c54 (by omega) _) rfl fun g19 => ?_
  refine L_s (pc' := 200) rfl rfl ?_
  refine L_gf (pc' := 203) rfl fr_2_17 rfl ?_
  refine L_s (pc' := 204) rfl rfl ?_
  refine L_gf (pc' := 207) rfl fr_95_17 rfl ?_
  refine L_cv (pc' := 210) (as := [.ref 21, .ref 114]) (rest := []) rfl rfl (e_x_copyInts_c55 (by omega) _) rfl fun g20 => ?_
  exact L_ret rfl rfl rfl
def x_copyInts_c56  (g : Sg) : Option (Sg) :=
  lt1 (cp2 g 23 0 116 0 (Int32.toNatClampNeg 8)) (fun g1 => (some g1))
theorem e_x_copyInts_c56 {X : Xx} {d : Nat} (hd : 1 ≤ d)  (g : Sg) : ∀ r, x_copyInts_c56  g = some r → EvM zft mtl X d 145 [.ref 23, .ref 116] (SHF, g) ((fun r : Sg => ((none, (SHF, r)) : Out)) r) := by
  obtain ⟨d, rfl⟩ : ∃ d0, d = d0 + 1 := ⟨d - 1, by omega⟩
  have hd : 0 ≤ d := by omega
  refine E_in (f := (fun r : Sg => ((none, (SHF, r)) : Out))) rfl (Nat.le_of_ble_eq_true rfl) ?_
  unfold x_copyInts_c56
  change Lt X d none k_145 _ 0 [some (.ref 23), some (.ref 116)] [] g _
  refine L_s (pc' := 1) rfl rfl ?_
  refine L_ic (pc' := 2) rfl q1_0 rfl ?_
  refine L_s (pc' := 3) rfl rfl ?_
  refine L_ic (pc' := 4) rfl q1_0 rfl ?_
  refine L_s (pc' := 5) rfl rfl ?_
  refine L_s (pc' := 6) (st' := [.int 8, .int 0, .ref 116, .int 0, .ref 23]) rfl rfl ?_
  refine L_s (pc' := 7) rfl rfl ?_
  refine L_s (pc' := 8) (st' := [.int 8, .int 8, .int 0, .ref 116, .int 0, .ref 23]) rfl rfl ?_
  refine L_s (pc' := 11) rfl rfl ?_
  refine L_e (b := 8) (by decide) ?_
  refine L_cp (pc' := 14) rfl sh_23 sh_116 (by decide) (by decide) (by decide) (by decide) rfl rfl ?_
  refine L_let fun g1 _ => ?_
  exact L_ret rfl rfl rfl
def x_copyInts_c57  (g : Sg) : Option (Sg) :=
  lt1 (cp2 g 24 0 117 0 (Int32.toNatClampNeg 120)) (fun g1 => (some g1))
theorem e_x_copyInts_c57 {X : Xx} {d : Nat} (hd : 1 ≤ d)  (g : Sg) : ∀ r, x_copyInts_c57  g = some r → EvM zft mtl X d 145 [.ref 24, .ref 117] (SHF, g) ((fun r : Sg => ((none, (SHF, r)) : Out)) r) := by
  obtain ⟨d, rfl⟩ : ∃ d0, d = d0 + 1 := ⟨d - 1, by omega⟩
  have hd : 0 ≤ d := by omega
  refine E_in (f := (fun r : Sg => ((none, (SHF, r)) : Out))) rfl (Nat.le_of_ble_eq_true rfl) ?_
  unfold x_copyInts_c57
  change Lt X d none k_145 _ 0 [some (.ref 24), some (.ref 117)] [] g _
  refine L_s (pc' := 1) rfl rfl ?_
  refine L_ic (pc' := 2) rfl q1_0 rfl ?_
  refine L_s (pc' := 3) rfl rfl ?_
  refine L_ic (pc' := 4) rfl q1_0 rfl ?_
  refine L_s (pc' := 5) rfl rfl ?_
  refine L_s (pc' := 6) (st' := [.int 120, .int 0, .ref 117, .int 0, .ref 24]) rfl rfl ?_
  refine L_s (pc' := 7) rfl rfl ?_
  refine L_s (pc' := 8) (st' := [.int 120, .int 120, .int 0, .ref 117, .int 0, .ref 24]) rfl rfl ?_
  refine L_s (pc' := 11) rfl rfl ?_
  refine L_e (b := 120) (by decide) ?_
  refine L_cp (pc' := 14) rfl sh_24 sh_117 (by decide) (by decide) (by decide) (by decide) rfl rfl ?_
  refine L_let fun g1 _ => ?_
  exact L_ret rfl rfl rfl
def x_copyInts_c58  (g : Sg) : Option (Sg) :=
  lt1 (cp2 g 25 0 118 0 (Int32.toNatClampNeg 120)) (fun g1 => (some g1))
theorem e_x_copyInts_c58 {X : Xx} {d : Nat} (hd : 1 ≤ d)  (g : Sg) : ∀ r, x_copyInts_c58  g = some r → EvM zft mtl X d 145 [.ref 25, .ref 118] (SHF, g) ((fun r : Sg => ((none, (SHF, r)) : Out)) r) := by
  obtain ⟨d, rfl⟩ : ∃ d0, d = d0 + 1 := ⟨d - 1, by omega⟩
  have hd : 0 ≤ d := by omega
  refine E_in (f := (fun r : Sg => ((none, (SHF, r)) : Out))) rfl (Nat.le_of_ble_eq_true rfl) ?_
  unfold x_copyInts_c58
  change Lt X d none k_145 _ 0 [some (.ref 25), some (.ref 118)] [] g _
  refine L_s (pc' := 1) rfl rfl ?_
  refine L_ic (pc' := 2) rfl q1_0 rfl ?_
  refine L_s (pc' := 3) rfl rfl ?_
  refine L_ic (pc' := 4) rfl q1_0 rfl ?_
  refine L_s (pc' := 5) rfl rfl ?_
  refine L_s (pc' := 6) (st' := [.int 120, .int 0, .ref 118, .int 0, .ref 25]) rfl rfl ?_
  refine L_s (pc' := 7) rfl rfl ?_
  refine L_s (pc' := 8) (st' := [.int 120, .int 120, .int 0, .ref 118, .int 0, .ref 25]) rfl rfl ?_
  refine L_s (pc' := 11) rfl rfl ?_
  refine L_e (b := 120) (by decide) ?_
  refine L_cp (pc' := 14) rfl sh_25 sh_118 (by decide) (by decide) (by decide) (by decide) rfl rfl ?_
  refine L_let fun g1 _ => ?_
  exact L_ret rfl rfl rfl
def x_copyInts_c59  (g : Sg) : Option (Sg) :=
  lt1 (cp2 g 26 0 119 0 (Int32.toNatClampNeg 120)) (fun g1 => (some g1))
theorem e_x_copyInts_c59 {X : Xx} {d : Nat} (hd : 1 ≤ d)  (g : Sg) : ∀ r, x_copyInts_c59  g = some r → EvM zft mtl X d 145 [.ref 26, .ref 119] (SHF, g) ((fun r : Sg => ((none, (SHF, r)) : Out)) r) := by
  obtain ⟨d, rfl⟩ : ∃ d0, d = d0 + 1 := ⟨d - 1, by omega⟩
  have hd : 0 ≤ d := by omega
  refine E_in (f := (fun r : Sg => ((none, (SHF, r)) : Out))) rfl (Nat.le_of_ble_eq_true rfl) ?_
  unfold x_copyInts_c59
  change Lt X d none k_145 _ 0 [some (.ref 26), some (.ref 119)] [] g _
  refine L_s (pc' := 1) rfl rfl ?_
  refine L_ic (pc' := 2) rfl q1_0 rfl ?_
  refine L_s (pc' := 3) rfl rfl ?_
  refine L_ic (pc' := 4) rfl q1_0 rfl ?_
  refine L_s (pc' := 5) rfl rfl ?_
  refine L_s (pc' := 6) (st' := [.int 120, .int 0, .ref 119, .int 0, .ref 26]) rfl rfl ?_
  refine L_s (pc' := 7) rfl rfl ?_
  refine L_s (pc' := 8) (st' := [.int 120, .int 120, .int 0, .ref 119, .int 0, .ref 26]) rfl rfl ?_
  refine L_s (pc' := 11) rfl rfl ?_
  refine L_e (b := 120) (by decide) ?_
  refine L_cp (pc' := 14) rfl sh_26 sh_119 (by decide) (by decide) (by decide) (by decide) rfl rfl ?_
  refine L_let fun g1 _ => ?_
  exact L_ret rfl rfl rfl
def x_copyInts_c60  (g : Sg) : Option (Sg) :=
  lt1 (cp2 g 27 0 120 0 (Int32.toNatClampNeg 120)) (fun g1 => (some g1))
theorem e_x_copyInts_c60 {X : Xx} {d : Nat} (hd : 1 ≤ d)  (g : Sg) : ∀ r, x_copyInts_c60  g = some r → EvM zft mtl X d 145 [.ref 27, .ref 120] (SHF, g) ((fun r : Sg => ((none, (SHF, r)) : Out)) r) := by
  obtain ⟨d, rfl⟩ : ∃ d0, d = d0 + 1 := ⟨d - 1, by omega⟩
  have hd : 0 ≤ d := by omega
  refine E_in (f := (fun r : Sg => ((none, (SHF, r)) : Out))) rfl (Nat.le_of_ble_eq_true rfl) ?_
  unfold x_copyInts_c60
  change Lt X d none k_145 _ 0 [some (.ref 27), some (.ref 120)] [] g _
  refine L_s (pc' := 1) rfl rfl ?_
  refine L_ic (pc' := 2) rfl q1_0 rfl ?_
  refine L_s (pc' := 3) rfl rfl ?_
  refine L_ic (pc' := 4) rfl q1_0 rfl ?_
  refine L_s (pc' := 5) rfl rfl ?_
  refine L_s (pc' := 6) (st' := [.int 120, .int 0, .ref 120, .int 0, .ref 27]) rfl rfl ?_
  refine L_s (pc' := 7) rfl rfl ?_
  refine L_s (pc' := 8) (st' := [.int 120, .int 120, .int 0, .ref 120, .int 0, .ref 27]) rfl rfl ?_
  refine L_s (pc' := 11) rfl rfl ?_
  refine L_e (b := 120) (by decide) ?_
  refine L_cp (pc' := 14) rfl sh_27 sh_120 (by decide) (by decide) (by decide) (by decide) rfl rfl ?_
  refine L_let fun g1 _ => ?_
  exact L_ret rfl rfl rfl
def x_copyInts_c61  (g : Sg) : Option (Sg) :=
  lt1 (cp2 g 28 0 121 0 (Int32.toNatClampNeg 120)) (fun g1 => (some g1))
theorem e_x_copyInts_c61 {X : Xx} {d : Nat} (hd : 1 ≤ d)  (g : Sg) : ∀ r, x_copyInts_c61  g = some r → EvM zft mtl X d 145 [.ref 28, .ref 121] (SHF, g) ((fun r : Sg => ((none, (SHF, r)) : Out)) r) := by
  obtain ⟨d, rfl⟩ : ∃ d0, d = d0 + 1 := ⟨d - 1, by omega⟩
  have hd : 0 ≤ d := by omega
  refine E_in (f := (fun r : Sg => ((none, (SHF, r)) : Out))) rfl (Nat.le_of_ble_eq_true rfl) ?_
  unfold x_copyInts_c61
  change Lt X d none k_145 _ 0 [some (.ref 28), some (.ref 121)] [] g _
  refine L_s (pc' := 1) rfl rfl ?_
  refine L_ic (pc' := 2) rfl q1_0 rfl ?_
  refine L_s (pc' := 3) rfl rfl ?_
  refine L_ic (pc' := 4) rfl q1_0 rfl ?_
  refine L_s (pc' := 5) rfl rfl ?_
  refine L_s (pc' := 6) (st' := [.int 120, .int 0, .ref 121, .int 0, .ref 28]) rfl rfl ?_
  refine L_s (pc' := 7) rfl rfl ?_
  refine L_s (pc' := 8) (st' := [.int 120, .int 120, .int 0, .ref 121, .int 0, .ref 28]) rfl rfl ?_
  refine L_s (pc' := 11) rfl rfl ?_
  refine L_e (b := 120) (by decide) ?_
  refine L_cp (pc' := 14) rfl sh_28 sh_121 (by decide) (by decide) (by decide) (by decide) rfl rfl ?_
  refine L_let fun g1 _ => ?_
  exact L_ret rfl rfl rfl
def x_copyInts_c62  (g : Sg) : Option (Sg) :=
  lt1 (cp2 g 29 0 122 0 (Int32.toNatClampNeg 120)) (fun g1 => (some g1))
theorem e_x_copyInts_c62 {X : Xx} {d : Nat} (hd : 1 ≤ d)  (g : Sg) : ∀ r, x_copyInts_c62  g = some r → EvM zft mtl X d 145 [.ref 29, .ref 122] (SHF, g) ((fun r : Sg => ((none, (SHF, r)) : Out)) r) := by
  obtain ⟨d, rfl⟩ : ∃ d0, d = d0 + 1 := ⟨d - 1, by omega⟩
  have hd : 0 ≤ d := by omega
  refine E_in (f := (fun r : Sg => ((none, (SHF, r)) : Out))) rfl (Nat.le_of_ble_eq_true rfl) ?_
  unfold x_copyInts_c62
  change Lt X d none k_145 _ 0 [some (.ref 29), some (.ref 122)] [] g _
  refine L_s (pc' := 1) rfl rfl ?_
  refine L_ic (pc' := 2) rfl q1_0 rfl ?_
  refine L_s (pc' := 3) rfl rfl ?_
  refine L_ic (pc' := 4) rfl q1_0 rfl ?_
  refine L_s (pc' := 5) rfl rfl ?_
  refine L_s (pc' := 6) (st' := [.int 120, .int 0, .ref 122, .int 0, .ref 29]) rfl rfl ?_
  refine L_s (pc' := 7) rfl rfl ?_
  refine L_s (pc' := 8) (st' := [.int 120, .int 120, .int 0, .ref 122, .int 0, .ref 29]) rfl rfl ?_
  refine L_s (pc' := 11) rfl rfl ?_
  refine L_e (b := 120) (by decide) ?_
  refine L_cp (pc' := 14) rfl sh_29 sh_122 (by decide) (by decide) (by decide) (by decide) rfl rfl ?_
  refine L_let fun g1 _ => ?_
  exact L_ret rfl rfl rfl
