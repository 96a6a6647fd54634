/-! printed by wip/whole/decomp.py -/
def rights_layOver_38 (k_2 : Int32 → Int32 → Sg → Option (Sg)) : Nat → Int32 → Int32 → Int32 → Sg → Option (Sg)
  | 0, _, _, _, _ => none
  | n + 1, v1, v3, v4, g =>
    (if inb v3 120 = true then (if (g 25 (Int32.toNatClampNeg v3)) < v4 then
      (k_2 v1 (v3 + 1) g)
    else
      (if 168 ≤ v4 then
        (k_2 v1 (v3 + 1) g)
      else
        (if inb v3 120 = true then (if inb v4 168 = true then lt1 (up2 g 207 (Int32.toNatClampNeg v4) (g 26 (Int32.toNatClampNeg v3))) (fun g1 => (rights_layOver_38 k_2 n v1 v3 (v4 + 1) g1)) else none) else none))) else none)
def rights_layOver_2 (F : Nat) : Nat → Int32 → Int32 → Sg → Option (Sg)
  | 0, _, _, _ => none
  | n + 1, v1, v3, g =>
    (if (g 22 1) ≤ v3 then
      (some g)
    else
      (if inb v3 120 = true then (if ¬ (g 27 (Int32.toNatClampNeg v3)) = v1 then
        (rights_layOver_2 F n v1 (v3 + 1) g)
      else
        (if inb v3 120 = true then (if ¬ (g 29 (Int32.toNatClampNeg v3)) = (-1) then
          (rights_layOver_2 F n v1 (v3 + 1) g)
        else
          (if inb v3 120 = true then lt1 ((g 24 (Int32.toNatClampNeg v3)) : Int32) (fun x1 => (rights_layOver_38 (fun v1 v3 g0 => rights_layOver_2 F n v1 v3 g0) F v1 v3 x1 g)) else none)) else none)) else none))
def rights_layOver (F : Nat) (v1 : Int32) (g : Sg) : Option (Sg) :=
  (rights_layOver_2 F F v1 0 g)
theorem p_rights_layOver_38 {X : Xx} {d : Nat} {k_2 : Int32 → Int32 → Sg → Option (Sg)} (hd : 0 ≤ d) (hk_2 : ∀ (v1 : Int32) (v3 : Int32) (g : Sg), Lt X d none k_75 (fun r : Sg => ((none, (SHF, r)) : Out)) 2 [some (.ref 22), some (.int v1), some (.ref 207), some (.int v3), none] [] g (k_2 v1 v3 g)) : ∀ (n : Nat) (v1 : Int32) (v3 : Int32) (v4 : Int32) (g : Sg), Lt X d none k_75 (fun r : Sg => ((none, (SHF, r)) : Out)) 38 [some (.ref 22), some (.int v1), some (.ref 207), some (.int v3), some (.int v4)] [] g (rights_layOver_38 k_2 n v1 v3 v4 g) := by
  intro n
  induction n with
  | zero => intros; exact L_none
  | succ n ih =>
    intro v1 v3 v4 g
    show Lt X d none k_75 (fun r : Sg => ((none, (SHF, r)) : Out)) 38 [some (.ref 22), some (.int v1), some (.ref 207), some (.int v3), some (.int v4)] [] g (
      (if inb v3 120 = true then (if (g 25 (Int32.toNatClampNeg v3)) < v4 then
        (k_2 v1 (v3 + 1) g)
      else
        (if 168 ≤ v4 then
          (k_2 v1 (v3 + 1) g)
        else
          (if inb v3 120 = true then (if inb v4 168 = true then lt1 (up2 g 207 (Int32.toNatClampNeg v4) (g 26 (Int32.toNatClampNeg v3))) (fun g1 => (rights_layOver_38 k_2 n v1 v3 (v4 + 1) g1)) else none) else none))) else none))
    refine L_s (pc' := 40) rfl rfl ?_
    refine L_s (pc' := 41) rfl rfl ?_
    refine L_gf (pc' := 44) rfl fr_22_3 rfl ?_
    refine L_s (pc' := 45) rfl rfl ?_
    refine L_rI (pc' := 46) rfl sh_25 (by decide) rfl ?_
    refine L_br (t := 72) (n := 49) rfl rfl (fun _ => ?_) (fun _ => ?_)
    · refine L_ii (pc' := 75) (L' := [some (.ref 22), some (.int v1), some (.ref 207), some (.int (v3 + 1)), some (.int v4)]) rfl rfl q1_1 rfl rfl rfl ?_
      refine L_s (pc' := 2) rfl rfl ?_
      refine L_wk (L' := [some (.ref 22), some (.int v1), some (.ref 207), some (.int (v3 + 1)), none]) (wk_s (wk_s (wk_s (wk_s (wk_n wk_nil))))) ?_
      exact hk_2 _ _ _
    · refine L_s (pc' := 51) rfl rfl ?_
      refine L_s (pc' := 52) rfl rfl ?_
      refine L_s (pc' := 53) (st' := [.int 168, .int v4]) rfl rfl ?_
      refine L_br (t := 72) (n := 56) rfl rfl (fun _ => ?_) (fun _ => ?_)
      · refine L_ii (pc' := 75) (L' := [some (.ref 22), some (.int v1), some (.ref 207), some (.int (v3 + 1)), some (.int v4)]) rfl rfl q1_1 rfl rfl rfl ?_
        refine L_s (pc' := 2) rfl rfl ?_
        refine L_wk (L' := [some (.ref 22), some (.int v1), some (.ref 207), some (.int (v3 + 1)), none]) (wk_s (wk_s (wk_s (wk_s (wk_n wk_nil))))) ?_
        exact hk_2 _ _ _
      · refine L_s (pc' := 57) rfl rfl ?_
        refine L_s (pc' := 59) rfl rfl ?_
        refine L_s (pc' := 60) rfl rfl ?_
        refine L_gf (pc' := 63) rfl fr_22_4 rfl ?_
        refine L_s (pc' := 64) rfl rfl ?_
        refine L_rI (pc' := 65) rfl sh_26 (by decide) rfl ?_
        refine L_wI (pc' := 66) rfl sh_207 (by decide) rfl ?_
        refine L_let fun g1 _ => ?_
        refine L_ii (pc' := 69) (L' := [some (.ref 22), some (.int v1), some (.ref 207), some (.int v3), some (.int (v4 + 1))]) rfl rfl q1_1 rfl rfl rfl ?_
        refine L_s (pc' := 38) rfl rfl ?_
        exact ih _ _ _ _
theorem p_rights_layOver_2 {X : Xx} {d : Nat} (hd : 0 ≤ d) (F : Nat) : ∀ (n : Nat) (v1 : Int32) (v3 : Int32) (g : Sg), Lt X d none k_75 (fun r : Sg => ((none, (SHF, r)) : Out)) 2 [some (.ref 22), some (.int v1), some (.ref 207), some (.int v3), none] [] g (rights_layOver_2 F n v1 v3 g) := by
  intro n
  induction n with
  | zero => intros; exact L_none
  | succ n ih =>
    intro v1 v3 g
    show Lt X d none k_75 (fun r : Sg => ((none, (SHF, r)) : Out)) 2 [some (.ref 22), some (.int v1), some (.ref 207), some (.int v3), none] [] g (
      (if (g 22 1) ≤ v3 then
        (some g)
      else
        (if inb v3 120 = true then (if ¬ (g 27 (Int32.toNatClampNeg v3)) = v1 then
          (rights_layOver_2 F n v1 (v3 + 1) g)
        else
          (if inb v3 120 = true then (if ¬ (g 29 (Int32.toNatClampNeg v3)) = (-1) then
            (rights_layOver_2 F n v1 (v3 + 1) g)
          else
            (if inb v3 120 = true then lt1 ((g 24 (Int32.toNatClampNeg v3)) : Int32) (fun x1 => (rights_layOver_38 (fun v1 v3 g0 => rights_layOver_2 F n v1 v3 g0) F v1 v3 x1 g)) else none)) else none)) else none)))
    refine L_s (pc' := 3) rfl rfl ?_
    refine L_s (pc' := 4) rfl rfl ?_
    refine L_gf (pc' := 7) rfl fi_22_1 rfl ?_
    refine L_br (t := 78) (n := 10) rfl rfl (fun _ => ?_) (fun _ => ?_)
    · exact L_ret rfl rfl rfl
    · refine L_s (pc' := 11) rfl rfl ?_
      refine L_gf (pc' := 14) rfl fr_22_5 rfl ?_
      refine L_s (pc' := 15) rfl rfl ?_
      refine L_rI (pc' := 16) rfl sh_27 (by decide) rfl ?_
      refine L_s (pc' := 17) rfl rfl ?_
      refine L_br (t := 72) (n := 20) rfl rfl (fun _ => ?_) (fun _ => ?_)
      · refine L_ii (pc' := 75) (L' := [some (.ref 22), some (.int v1), some (.ref 207), some (.int (v3 + 1)), none]) rfl rfl q1_1 rfl rfl rfl ?_
        refine L_s (pc' := 2) rfl rfl ?_
        exact ih _ _ _
      · refine L_s (pc' := 21) rfl rfl ?_
        refine L_gf (pc' := 24) rfl fr_22_7 rfl ?_
        refine L_s (pc' := 25) rfl rfl ?_
        refine L_rI (pc' := 26) rfl sh_29 (by decide) rfl ?_
        refine L_ic (pc' := 27) rfl q1_m1 rfl ?_
        refine L_br (t := 72) (n := 30) rfl rfl (fun _ => ?_) (fun _ => ?_)
        · refine L_ii (pc' := 75) (L' := [some (.ref 22), some (.int v1), some (.ref 207), some (.int (v3 + 1)), none]) rfl rfl q1_1 rfl rfl rfl ?_
          refine L_s (pc' := 2) rfl rfl ?_
          exact ih _ _ _
        · refine L_s (pc' := 31) rfl rfl ?_
          refine L_gf (pc' := 34) rfl fr_22_2 rfl ?_
          refine L_s (pc' := 35) rfl rfl ?_
          refine L_rI (pc' := 36) rfl sh_24 (by decide) rfl ?_
          refine L_li fun x1 _ => ?_
          refine L_s (pc' := 38) (L' := [some (.ref 22), some (.int v1), some (.ref 207), some (.int v3), some (.int x1)]) rfl rfl ?_
          exact p_rights_layOver_38 hd (fun _ _ _ => ih _ _ _) F _ _ _ _
theorem e_rights_layOver {X : Xx} {d : Nat} (hd : 1 ≤ d) (F : Nat) (v1 : Int32) (g : Sg) : ∀ r, rights_layOver F v1 g = some r → EvM zft mtl X d 75 [.ref 22, .int v1, .ref 207] (SHF, g) ((fun r : Sg => ((none, (SHF, r)) : Out)) r) := by
  obtain ⟨d, rfl⟩ : ∃ d0, d = d0 + 1 := ⟨d - 1, by omega⟩
  have hd : 0 ≤ d := by omega
  refine E_in (f := (fun r : Sg => ((none, (SHF, r)) : Out))) rfl (Nat.le_of_ble_eq_true rfl) ?_
  unfold rights_layOver
  change Lt X d none k_75 _ 0 [some (.ref 22), some (.int v1), some (.ref 207), none, none] [] g _
  refine L_ic (pc' := 1) rfl q1_0 rfl ?_
  refine L_s (pc' := 2) (L' := [some (.ref 22), some (.int v1), some (.ref 207), some (.int 0), none]) rfl rfl ?_
  exact p_rights_layOver_2 hd F F _ _ _
def reckoning_compareHour_23 (v2 : Int32) (g : Sg) : Option (Sg) :=
  Option.bind (x_isHolder v2 g) (fun x1 => (if x1 = 0 then
    (some g)
  else
    (if inb v2 8 = true then (if inb v2 8 = true then lt1 (up2 g 201 (Int32.toNatClampNeg v2) ((g 201 (Int32.toNatClampNeg v2)) - 1)) (fun g2 => (some g2)) else none) else none)))
def reckoning_compareHour (v1 : Int32) (v2 : Int32) (g : Sg) : Option (Sg) :=
  (if ¬ v1 = v2 then
    Option.bind (x_isHolder v1 g) (fun x1 => (if x1 = 0 then
      (reckoning_compareHour_23 v2 g)
    else
      (if inb v1 8 = true then (if inb v1 8 = true then lt1 (up2 g 201 (Int32.toNatClampNeg v1) ((g 201 (Int32.toNatClampNeg v1)) + 1)) (fun g2 => (reckoning_compareHour_23 v2 g2)) else none) else none)))
  else
    (some g))
theorem p_reckoning_compareHour_23 {X : Xx} {d : Nat} (hd : 2 ≤ d) (v2 : Int32) (g : Sg) : Lt X d none k_61 (fun r : Sg => ((none, (SHF, r)) : Out)) 23 [some (.ref 200), none, some (.int v2)] [] g (reckoning_compareHour_23 v2 g) := by
  unfold reckoning_compareHour_23
  refine L_s (pc' := 24) rfl rfl ?_
  refine L_ci (pc' := 27) (as := [.int v2]) (rest := []) rfl rfl (e_x_isHolder (by omega) _ _) rfl fun x1 => ?_
  refine L_br (t := 40) (n := 30) rfl rfl (fun _ => ?_) (fun _ => ?_)
  · exact L_ret rfl rfl rfl
  · refine L_s (pc' := 31) rfl rfl ?_
    refine L_gf (pc' := 34) rfl fr_200_0 rfl ?_
    refine L_s (pc' := 35) rfl rfl ?_
    refine L_s (pc' := 36) rfl rfl ?_
    refine L_rI (pc' := 37) rfl sh_201 (by decide) rfl ?_
    refine L_ic (pc' := 38) rfl q1_1 rfl ?_
    refine L_s (pc' := 39) rfl rfl ?_
    refine L_wI (pc' := 40) rfl sh_201 (by decide) rfl ?_
    refine L_let fun g2 _ => ?_
    exact L_ret rfl rfl rfl
theorem e_reckoning_compareHour {X : Xx} {d : Nat} (hd : 3 ≤ d) (v1 : Int32) (v2 : Int32) (g : Sg) : ∀ r, reckoning_compareHour v1 v2 g = some r → EvM zft mtl X d 61 [.ref 200, .int v1, .int v2] (SHF, g) ((fun r : Sg => ((none, (SHF, r)) : Out)) r) := by
  obtain ⟨d, rfl⟩ : ∃ d0, d = d0 + 1 := ⟨d - 1, by omega⟩
  have hd : 2 ≤ d := by omega
  refine E_in (f := (fun r : Sg => ((none, (SHF, r)) : Out))) rfl (Nat.le_of_ble_eq_true rfl) ?_
  unfold reckoning_compareHour
  change Lt X d none k_61 _ 0 [some (.ref 200), some (.int v1), some (.int v2)] [] g _
  refine L_s (pc' := 1) rfl rfl ?_
  refine L_s (pc' := 2) rfl rfl ?_
  refine L_br (t := 6) (n := 5) rfl rfl (fun _ => ?_) (fun _ => ?_)
  · refine L_s (pc' := 7) rfl rfl ?_
    refine L_ci (pc' := 10) (as := [.int v1]) (rest := []) rfl rfl (e_x_isHolder (by omega) _ _) rfl fun x1 => ?_
    refine L_br (t := 23) (n := 13) rfl rfl (fun _ => ?_) (fun _ => ?_)
    · refine L_wk (L' := [some (.ref 200), none, some (.int v2)]) (wk_s (wk_n (wk_s wk_nil))) ?_
      exact p_reckoning_compareHour_23 hd _ _
    · refine L_s (pc' := 14) rfl rfl ?_
      refine L_gf (pc' := 17) rfl fr_200_0 rfl ?_
      refine L_s (pc' := 18) rfl rfl ?_
      refine L_s (pc' := 19) rfl rfl ?_
      refine L_rI (pc' := 20) rfl sh_201 (by decide) rfl ?_
      refine L_ic (pc' := 21) rfl q1_1 rfl ?_
      refine L_s (pc' := 22) rfl rfl ?_
      refine L_wI (pc' := 23) rfl sh_201 (by decide) rfl ?_
      refine L_let fun g2 _ => ?_
      refine L_wk (L' := [some (.ref 200), none, some (.int v2)]) (wk_s (wk_n (wk_s wk_nil))) ?_
      exact p_reckoning_compareHour_23 hd _ _
  · exact L_ret rfl rfl rfl
def reckoning_reckonOwed_47 (k_18 : Int32 → Sg → Option (Sg)) : Nat → Int32 → Int32 → Sg → Option (Sg)
  | 0, _, _, _ => none
  | n + 1, v2, v3, g =>
    (if 168 ≤ v3 then
      (k_18 (v2 + 1) g)
    else
      lt1 (((v2 * 168) + v3) : Int32) (fun x1 => (if (g 22 8) ≤ x1 then
        (reckoning_reckonOwed_47 k_18 n v2 (v3 + 1) g)
      else
        (if 2400 ≤ x1 then
          (reckoning_reckonOwed_47 k_18 n v2 (v3 + 1) g)
        else
          (if inb v3 168 = true then (if inb x1 2400 = true then Option.bind (reckoning_compareHour (g 207 (Int32.toNatClampNeg v3)) (g 30 (Int32.toNatClampNeg x1)) g) (fun g2 => (reckoning_reckonOwed_47 k_18 n v2 (v3 + 1) g2)) else none) else none)))))
def reckoning_reckonOwed_18 (F : Nat) : Nat → Int32 → Sg → Option (Sg)
  | 0, _, _ => none
  | n + 1, v2, g =>
    (if 100 ≤ v2 then
      (some g)
    else
      (if (g 22 8) ≤ (v2 * 168) then
        (some g)
      else
        Option.bind (rights_layOver F v2 g) (fun g1 => (reckoning_reckonOwed_47 (fun v2 g0 => reckoning_reckonOwed_18 F n v2 g0) F v2 0 g1))))
def reckoning_reckonOwed (F : Nat)  (g : Sg) : Option (Sg) :=
  Option.bind (jA_fill_c1 F 0 g) (fun g1 => Option.bind (jA_fill_c2 F (-1) g1) (fun g2 => (reckoning_reckonOwed_18 F F 0 g2)))
theorem p_reckoning_reckonOwed_47 {X : Xx} {d : Nat} {k_18 : Int32 → Sg → Option (Sg)} (hd : 3 ≤ d) (hk_18 : ∀ (v2 : Int32) (g : Sg), Lt X d none k_60 (fun r : Sg => ((none, (SHF, r)) : Out)) 18 [some (.ref 200), some (.ref 22), some (.int v2), none, none] [] g (k_18 v2 g)) : ∀ (n : Nat) (v2 : Int32) (v3 : Int32) (g : Sg), Lt X d none k_60 (fun r : Sg => ((none, (SHF, r)) : Out)) 47 [some (.ref 200), some (.ref 22), some (.int v2), some (.int v3), none] [] g (reckoning_reckonOwed_47 k_18 n v2 v3 g) := by
  intro n
  induction n with
  | zero => intros; exact L_none
  | succ n ih =>
    intro v2 v3 g
    show Lt X d none k_60 (fun r : Sg => ((none, (SHF, r)) : Out)) 47 [some (.ref 200), some (.ref 22), some (.int v2), some (.int v3), none] [] g (
      (if 168 ≤ v3 then
        (k_18 (v2 + 1) g)
      else
        lt1 (((v2 * 168) + v3) : Int32) (fun x1 => (if (g 22 8) ≤ x1 then
          (reckoning_reckonOwed_47 k_18 n v2 (v3 + 1) g)
        else
          (if 2400 ≤ x1 then
            (reckoning_reckonOwed_47 k_18 n v2 (v3 + 1) g)
          else
            (if inb v3 168 = true then (if inb x1 2400 = true then Option.bind (reckoning_compareHour (g 207 (Int32.toNatClampNeg v3)) (g 30 (Int32.toNatClampNeg x1)) g) (fun g2 => (reckoning_reckonOwed_47 k_18 n v2 (v3 + 1) g2)) else none) else none))))))
    refine L_s (pc' := 48) rfl rfl ?_
    refine L_si (pc' := 51) rfl q3_168 rfl ?_
    refine L_br (t := 103) (n := 54) rfl rfl (fun _ => ?_) (fun _ => ?_)
    · refine L_ii (pc' := 106) (L' := [some (.ref 200), some (.ref 22), some (.int (v2 + 1)), some (.int v3), none]) rfl rfl q1_1 rfl rfl rfl ?_
      refine L_s (pc' := 18) rfl rfl ?_
      refine L_wk (L' := [some (.ref 200), some (.ref 22), some (.int (v2 + 1)), none, none]) (wk_s (wk_s (wk_s (wk_n (wk_s wk_nil))))) ?_
      exact hk_18 _ _
    · refine L_s (pc' := 55) rfl rfl ?_
      refine L_si (pc' := 58) rfl q3_168 rfl ?_
      refine L_s (pc' := 59) rfl rfl ?_
      refine L_s (pc' := 60) rfl rfl ?_
      refine L_s (pc' := 61) rfl rfl ?_
      refine L_li fun x1 _ => ?_
      refine L_s (pc' := 63) (L' := [some (.ref 200), some (.ref 22), some (.int v2), some (.int v3), some (.int x1)]) rfl rfl ?_
      refine L_s (pc' := 65) rfl rfl ?_
      refine L_s (pc' := 66) rfl rfl ?_
      refine L_gf (pc' := 69) rfl fi_22_8 rfl ?_
      refine L_br (t := 97) (n := 72) rfl rfl (fun _ => ?_) (fun _ => ?_)
      · refine L_ii (pc' := 100) (L' := [some (.ref 200), some (.ref 22), some (.int v2), some (.int (v3 + 1)), some (.int x1)]) rfl rfl q1_1 rfl rfl rfl ?_
        refine L_s (pc' := 47) rfl rfl ?_
        refine L_wk (L' := [some (.ref 200), some (.ref 22), some (.int v2), some (.int (v3 + 1)), none]) (wk_s (wk_s (wk_s (wk_s (wk_n wk_nil))))) ?_
        exact ih _ _ _
      · refine L_s (pc' := 74) rfl rfl ?_
        refine L_si (pc' := 77) rfl q3_2400 rfl ?_
        refine L_br (t := 97) (n := 80) rfl rfl (fun _ => ?_) (fun _ => ?_)
        · refine L_ii (pc' := 100) (L' := [some (.ref 200), some (.ref 22), some (.int v2), some (.int (v3 + 1)), some (.int x1)]) rfl rfl q1_1 rfl rfl rfl ?_
          refine L_s (pc' := 47) rfl rfl ?_
          refine L_wk (L' := [some (.ref 200), some (.ref 22), some (.int v2), some (.int (v3 + 1)), none]) (wk_s (wk_s (wk_s (wk_s (wk_n wk_nil))))) ?_
          exact ih _ _ _
        · refine L_s (pc' := 81) rfl rfl ?_
          refine L_s (pc' := 82) rfl rfl ?_
          refine L_gf (pc' := 85) rfl fr_200_6 rfl ?_
          refine L_s (pc' := 86) rfl rfl ?_
          refine L_rI (pc' := 87) rfl sh_207 (by decide) rfl ?_
          refine L_s (pc' := 88) rfl rfl ?_
          refine L_gf (pc' := 91) rfl fr_22_9 rfl ?_
          refine L_s (pc' := 93) rfl rfl ?_
          refine L_rB (pc' := 94) rfl sh_30 (by decide) (by decide) rfl ?_
          refine L_cv (pc' := 97) (as := [.ref 200, .int (g 207 (Int32.toNatClampNeg v3)), .int (g 30 (Int32.toNatClampNeg x1))]) (rest := []) rfl rfl (e_reckoning_compareHour (by omega) _ _ _) rfl fun g2 => ?_
          refine L_ii (pc' := 100) (L' := [some (.ref 200), some (.ref 22), some (.int v2), some (.int (v3 + 1)), some (.int x1)]) rfl rfl q1_1 rfl rfl rfl ?_
          refine L_s (pc' := 47) rfl rfl ?_
          refine L_wk (L' := [some (.ref 200), some (.ref 22), some (.int v2), some (.int (v3 + 1)), none]) (wk_s (wk_s (wk_s (wk_s (wk_n wk_nil))))) ?_
          exact ih _ _ _
theorem p_reckoning_reckonOwed_18 {X : Xx} {d : Nat} (hd : 3 ≤ d) (F : Nat) : ∀ (n : Nat) (v2 : Int32) (g : Sg), Lt X d none k_60 (fun r : Sg => ((none, (SHF, r)) : Out)) 18 [some (.ref 200), some (.ref 22), some (.int v2), none, none] [] g (reckoning_reckonOwed_18 F n v2 g) := by
  intro n
  induction n with
  | zero => intros; exact L_none
  | succ n ih =>
    intro v2 g
    show Lt X d none k_60 (fun r : Sg => ((none, (SHF, r)) : Out)) 18 [some (.ref 200), some (.ref 22), some (.int v2), none, none] [] g (
      (if 100 ≤ v2 then
        (some g)
      else
        (if (g 22 8) ≤ (v2 * 168) then
          (some g)
        else
          Option.bind (rights_layOver F v2 g) (fun g1 => (reckoning_reckonOwed_47 (fun v2 g0 => reckoning_reckonOwed_18 F n v2 g0) F v2 0 g1)))))
    refine L_s (pc' := 19) rfl rfl ?_
    refine L_bi (pc' := 21) rfl q2_100 rfl ?_
    refine L_br (t := 109) (n := 24) rfl rfl (fun _ => ?_) (fun _ => ?_)
    · exact L_ret rfl rfl rfl
    · refine L_s (pc' := 25) rfl rfl ?_
      refine L_si (pc' := 28) rfl q3_168 rfl ?_
      refine L_s (pc' := 29) rfl rfl ?_
      refine L_s (pc' := 30) rfl rfl ?_
      refine L_gf (pc' := 33) rfl fi_22_8 rfl ?_
      refine L_br (t := 109) (n := 36) rfl rfl (fun _ => ?_) (fun _ => ?_)
      · exact L_ret rfl rfl rfl
      · refine L_s (pc' := 37) rfl rfl ?_
        refine L_s (pc' := 38) rfl rfl ?_
        refine L_s (pc' := 39) rfl rfl ?_
        refine L_gf (pc' := 42) rfl fr_200_6 rfl ?_
        refine L_cv (pc' := 45) (as := [.ref 22, .int v2, .ref 207]) (rest := []) rfl rfl (e_rights_layOver (by omega) F _ _) rfl fun g1 => ?_
        refine L_ic (pc' := 46) rfl q1_0 rfl ?_
        refine L_s (pc' := 47) (L' := [some (.ref 200), some (.ref 22), some (.int v2), some (.int 0), none]) rfl rfl ?_
        exact p_reckoning_reckonOwed_47 hd (fun _ _ => ih _ _) F _ _ _
theorem e_reckoning_reckonOwed {X : Xx} {d : Nat} (hd : 4 ≤ d) (F : Nat)  (g : Sg) : ∀ r, reckoning_reckonOwed F  g = some r → EvM zft mtl X d 60 [.ref 200, .ref 22] (SHF, g) ((fun r : Sg => ((none, (SHF, r)) : Out)) r) := by
  obtain ⟨d, rfl⟩ : ∃ d0, d = d0 + 1 := ⟨d - 1, by omega⟩
  have hd : 3 ≤ d := by omega
  refine E_in (f := (fun r : Sg => ((none, (SHF, r)) : Out))) rfl (Nat.le_of_ble_eq_true rfl) ?_
  unfold reckoning_reckonOwed
  change Lt X d none k_60 _ 0 [some (.ref 200), some (.ref 22), none, none, none] [] g _
  refine L_s (pc' := 1) rfl rfl ?_
  refine L_gf (pc' := 4) rfl fr_200_0 rfl ?_
  refine L_ic (pc' := 5) rfl q1_0 rfl ?_
  refine L_cv (pc' := 8) (as := [.ref 201, .int 0]) (rest := []) rfl rfl (e_jA_fill_c1 (by omega) F _ _) rfl fun g1 => ?_
  refine L_s (pc' := 9) rfl rfl ?_
  refine L_gf (pc' := 12) rfl fr_200_6 rfl ?_
  refine L_ic (pc' := 13) rfl q1_m1 rfl ?_
  refine L_cv (pc' := 16) (as := [.ref 207, .int (-1)]) (rest := []) rfl rfl (e_jA_fill_c2 (by omega) F _ _) rfl fun g2 => ?_
  refine L_ic (pc' := 17) rfl q1_0 rfl ?_
  refine L_s (pc' := 18) (L' := [some (.ref 200), some (.ref 22), some (.int 0), none, none]) rfl rfl ?_
  exact p_reckoning_reckonOwed_18 hd F F _ _
def x_owed (F : Nat) (v1 : Int32) (g : Sg) : Option (Int32 × Sg) :=
  Option.bind (x_isHolder v1 g) (fun x1 => (if ¬ x1 = 0 then
    Option.bind (reckoning_reckonOwed F g) (fun g2 => (if inb v1 8 = true then (some ((g2 201 (Int32.toNatClampNeg v1)), g2)) else none))
  else
    (some ((-100000), g))))
theorem e_x_owed {X : Xx} {d : Nat} (hd : 5 ≤ d) (F : Nat) (v1 : Int32) (g : Sg) : ∀ r, x_owed F v1 g = some r → EvM zft mtl X d 124 [.ref 0, .int v1] (SHF, g) ((fun r : Int32 × Sg => ((some (.int r.1), (SHF, r.2)) : Out)) r) := by
  obtain ⟨d, rfl⟩ : ∃ d0, d = d0 + 1 := ⟨d - 1, by omega⟩
  have hd : 4 ≤ d := by omega
  refine E_in (f := (fun r : Int32 × Sg => ((some (.int r.1), (SHF, r.2)) : Out))) rfl (Nat.le_of_ble_eq_true rfl) ?_
  unfold x_owed
  change Lt X d (some .int) k_124 _ 0 [some (.ref 0), some (.int v1)] [] g _
  refine L_s (pc' := 1) rfl rfl ?_
  refine L_ci (pc' := 4) (as := [.int v1]) (rest := []) rfl rfl (e_x_isHolder (by omega) _ _) rfl fun x1 => ?_
  refine L_br (t := 10) (n := 7) rfl rfl (fun _ => ?_) (fun _ => ?_)
  · refine L_s (pc' := 11) rfl rfl ?_
    refine L_gf (pc' := 14) rfl fr_0_5 rfl ?_
    refine L_s (pc' := 15) rfl rfl ?_
    refine L_gf (pc' := 18) rfl fr_0_0 rfl ?_
    refine L_gf (pc' := 21) rfl fr_1_1 rfl ?_
    refine L_cv (pc' := 24) (as := [.ref 200, .ref 22]) (rest := []) rfl rfl (e_reckoning_reckonOwed (by omega) F _) rfl fun g2 => ?_
    refine L_s (pc' := 25) rfl rfl ?_
    refine L_gf (pc' := 28) rfl fr_0_5 rfl ?_
    refine L_gf (pc' := 31) rfl fr_200_0 rfl ?_
    refine L_s (pc' := 32) rfl rfl ?_
    refine L_rI (pc' := 33) rfl sh_201 (by decide) rfl ?_
    exact L_ret rfl ret_i rfl
  · refine L_ldc (pc' := 9) rfl q1_m100000 rfl ?_
    exact L_ret rfl ret_i rfl
def law_hasRoomFor (v1 : Int32) (g : Sg) : Option (Int32) :=
  (if 500 < ((g 31 0) + v1) then
    (some 0)
  else
    (some 1))
theorem e_law_hasRoomFor {X : Xx} {d : Nat} (hd : 1 ≤ d) (v1 : Int32) (g : Sg) : ∀ r, law_hasRoomFor v1 g = some r → EvM zft mtl X d 15 [.ref 31, .int v1] (SHF, g) ((fun r : Int32 => ((some (.int r), (SHF, g)) : Out)) r) := by
  obtain ⟨d, rfl⟩ : ∃ d0, d = d0 + 1 := ⟨d - 1, by omega⟩
  have hd : 0 ≤ d := by omega
  refine E_in (f := (fun r : Int32 => ((some (.int r), (SHF, g)) : Out))) rfl (Nat.le_of_ble_eq_true rfl) ?_
  unfold law_hasRoomFor
  change Lt X d (some .boolean) k_15 _ 0 [some (.ref 31), some (.int v1)] [] g _
  refine L_s (pc' := 1) rfl rfl ?_
  refine L_gf (pc' := 4) rfl fi_31_0 rfl ?_
  refine L_s (pc' := 5) rfl rfl ?_
  refine L_s (pc' := 6) rfl rfl ?_
  refine L_si (pc' := 9) rfl q3_500 rfl ?_
  refine L_br (t := 16) (n := 12) rfl rfl (fun _ => ?_) (fun _ => ?_)
  · refine L_ic (pc' := 17) rfl q1_0 rfl ?_
    exact L_ret rfl (ret_z (by decide)) rfl
  · refine L_ic (pc' := 13) rfl q1_1 rfl ?_
    refine L_s (pc' := 17) rfl rfl ?_
    exact L_ret rfl (ret_z (by decide)) rfl
def law_append (v1 : Int32) (g : Sg) : Option (Sg) :=
  (if 500 ≤ (g 31 0) then
    (some g)
  else
    (if inb (g 31 0) 500 = true then lt1 (up2 g 32 (Int32.toNatClampNeg (g 31 0)) (Int8.toInt32 (Int32.toInt8 (Int8.toInt32 (Int32.toInt8 (v1 >>> (24 &&& 31))))))) (fun g1 => lt1 (up2 g1 31 0 ((g1 31 0) + 1)) (fun g2 => (if 500 ≤ (g2 31 0) then
      (some g2)
    else
      (if inb (g2 31 0) 500 = true then lt1 (up2 g2 32 (Int32.toNatClampNeg (g2 31 0)) (Int8.toInt32 (Int32.toInt8 (Int8.toInt32 (Int32.toInt8 (v1 >>> (16 &&& 31))))))) (fun g3 => lt1 (up2 g3 31 0 ((g3 31 0) + 1)) (fun g4 => (if 500 ≤ (g4 31 0) then
        (some g4)
      else
        (if inb (g4 31 0) 500 = true then lt1 (up2 g4 32 (Int32.toNatClampNeg (g4 31 0)) (Int8.toInt32 (Int32.toInt8 (Int8.toInt32 (Int32.toInt8 (v1 >>> (8 &&& 31))))))) (fun g5 => lt1 (up2 g5 31 0 ((g5 31 0) + 1)) (fun g6 => (if 500 ≤ (g6 31 0) then
          (some g6)
        else
          (if inb (g6 31 0) 500 = true then lt1 (up2 g6 32 (Int32.toNatClampNeg (g6 31 0)) (Int8.toInt32 (Int32.toInt8 (Int8.toInt32 (Int32.toInt8 (v1 >>> (0 &&& 31))))))) (fun g7 => lt1 (up2 g7 31 0 ((g7 31 0) + 1)) (fun g8 => (some g8))) else none)))) else none)))) else none)))) else none))
theorem e_law_append {X : Xx} {d : Nat} (hd : 1 ≤ d) (v1 : Int32) (g : Sg) : ∀ r, law_append v1 g = some r → EvM zft mtl X d 16 [.ref 31, .int v1] (SHF, g) ((fun r : Sg => ((none, (SHF, r)) : Out)) r) := by
  obtain ⟨d, rfl⟩ : ∃ d0, d = d0 + 1 := ⟨d - 1, by omega⟩
  have hd : 0 ≤ d := by omega
  refine E_in (f := (fun r : Sg => ((none, (SHF, r)) : Out))) rfl (Nat.le_of_ble_eq_true rfl) ?_
  unfold law_append
  change Lt X d none k_16 _ 0 [some (.ref 31), some (.int v1), none] [] g _
  refine L_bi (pc' := 2) rfl q2_24 rfl ?_
  refine L_s (pc' := 3) (L' := [some (.ref 31), some (.int v1), some (.int 24)]) rfl rfl ?_
  refine L_s (pc' := 4) rfl rfl ?_
  refine L_bf (c := (24 : Int32) < 0) (t := 46) (n := 7) rfl rfl (by decide) ?_
  refine L_s (pc' := 8) rfl rfl ?_
  refine L_gf (pc' := 11) rfl fi_31_0 rfl ?_
  refine L_si (pc' := 14) rfl q3_500 rfl ?_
  refine L_br (t := 46) (n := 17) rfl rfl (fun _ => ?_) (fun _ => ?_)
  · exact L_ret rfl rfl rfl
  · refine L_s (pc' := 18) rfl rfl ?_
    refine L_gf (pc' := 21) rfl fr_31_1 rfl ?_
    refine L_s (pc' := 22) rfl rfl ?_
    refine L_gf (pc' := 25) rfl fi_31_0 rfl ?_
    refine L_s (pc' := 26) rfl rfl ?_
    refine L_s (pc' := 27) rfl rfl ?_
    refine L_s (pc' := 28) rfl rfl ?_
    refine L_s (pc' := 29) rfl rfl ?_
    refine L_wB (pc' := 30) rfl sh_32 (by decide) rfl ?_
    refine L_let fun g1 _ => ?_
    refine L_s (pc' := 31) rfl rfl ?_
    refine L_s (pc' := 32) rfl rfl ?_
    refine L_gf (pc' := 35) rfl fi_31_0 rfl ?_
    refine L_ic (pc' := 36) rfl q1_1 rfl ?_
    refine L_s (pc' := 37) rfl rfl ?_
    refine L_pf (pc' := 40) rfl sh_31 (by decide) rfl rfl ?_
    refine L_let fun g2 _ => ?_
    refine L_ii (pc' := 43) (L' := [some (.ref 31), some (.int v1), some (.int 16)]) rfl rfl q1_m8 (by decide : (24 : Int32) + (-8) = 16) rfl rfl ?_
    refine L_s (pc' := 3) rfl rfl ?_
    refine L_s (pc' := 4) rfl rfl ?_
    refine L_bf (c := (16 : Int32) < 0) (t := 46) (n := 7) rfl rfl (by decide) ?_
    refine L_s (pc' := 8) rfl rfl ?_
    refine L_gf (pc' := 11) rfl fi_31_0 rfl ?_
    refine L_si (pc' := 14) rfl q3_500 rfl ?_
    refine L_br (t := 46) (n := 17) rfl rfl (fun _ => ?_) (fun _ => ?_)
    · exact L_ret rfl rfl rfl
    · refine L_s (pc' := 18) rfl rfl ?_
      refine L_gf (pc' := 21) rfl fr_31_1 rfl ?_
      refine L_s (pc' := 22) rfl rfl ?_
      refine L_gf (pc' := 25) rfl fi_31_0 rfl ?_
      refine L_s (pc' := 26) rfl rfl ?_
      refine L_s (pc' := 27) rfl rfl ?_
      refine L_s (pc' := 28) rfl rfl ?_
      refine L_s (pc' := 29) rfl rfl ?_
      refine L_wB (pc' := 30) rfl sh_32 (by decide) rfl ?_
      refine L_let fun g3 _ => ?_
      refine L_s (pc' := 31) rfl rfl ?_
      refine L_s (pc' := 32) rfl rfl ?_
      refine L_gf (pc' := 35) rfl fi_31_0 rfl ?_
      refine L_ic (pc' := 36) rfl q1_1 rfl ?_
      refine L_s (pc' := 37) rfl rfl ?_
      refine L_pf (pc' := 40) rfl sh_31 (by decide) rfl rfl ?_
      refine L_let fun g4 _ => ?_
      refine L_ii (pc' := 43) (L' := [some (.ref 31), some (.int v1), some (.int 8)]) rfl rfl q1_m8 (by decide : (16 : Int32) + (-8) = 8) rfl rfl ?_
      refine L_s (pc' := 3) rfl rfl ?_
      refine L_s (pc' := 4) rfl rfl ?_
      refine L_bf (c := (8 : Int32) < 0) (t := 46) (n := 7) rfl rfl (by decide) ?_
      refine L_s (pc' := 8) rfl rfl ?_
      refine L_gf (pc' := 11) rfl fi_31_0 rfl ?_
      refine L_si (pc' := 14) rfl q3_500 rfl ?_
      refine L_br (t := 46) (n := 17) rfl rfl (fun _ => ?_) (fun _ => ?_)
      · exact L_ret rfl rfl rfl
      · refine L_s (pc' := 18) rfl rfl ?_
        refine L_gf (pc' := 21) rfl fr_31_1 rfl ?_
        refine L_s (pc' := 22) rfl rfl ?_
        refine L_gf (pc' := 25) rfl fi_31_0 rfl ?_
        refine L_s (pc' := 26) rfl rfl ?_
        refine L_s (pc' := 27) rfl rfl ?_
        refine L_s (pc' := 28) rfl rfl ?_
        refine L_s (pc' := 29) rfl rfl ?_
        refine L_wB (pc' := 30) rfl sh_32 (by decide) rfl ?_
        refine L_let fun g5 _ => ?_
        refine L_s (pc' := 31) rfl rfl ?_
        refine L_s (pc' := 32) rfl rfl ?_
        refine L_gf (pc' := 35) rfl fi_31_0 rfl ?_
        refine L_ic (pc' := 36) rfl q1_1 rfl ?_
        refine L_s (pc' := 37) rfl rfl ?_
        refine L_pf (pc' := 40) rfl sh_31 (by decide) rfl rfl ?_
        refine L_let fun g6 _ => ?_
        refine L_ii (pc' := 43) (L' := [some (.ref 31), some (.int v1), some (.int 0)]) rfl rfl q1_m8 (by decide : (8 : Int32) + (-8) = 0) rfl rfl ?_
        refine L_s (pc' := 3) rfl rfl ?_
        refine L_s (pc' := 4) rfl rfl ?_
        refine L_bf (c := (0 : Int32) < 0) (t := 46) (n := 7) rfl rfl (by decide) ?_
        refine L_s (pc' := 8) rfl rfl ?_
        refine L_gf (pc' := 11) rfl fi_31_0 rfl ?_
        refine L_si (pc' := 14) rfl q3_500 rfl ?_
        refine L_br (t := 46) (n := 17) rfl rfl (fun _ => ?_) (fun _ => ?_)
        · exact L_ret rfl rfl rfl
        · refine L_s (pc' := 18) rfl rfl ?_
          refine L_gf (pc' := 21) rfl fr_31_1 rfl ?_
          refine L_s (pc' := 22) rfl rfl ?_
          refine L_gf (pc' := 25) rfl fi_31_0 rfl ?_
          refine L_s (pc' := 26) rfl rfl ?_
          refine L_s (pc' := 27) rfl rfl ?_
          refine L_s (pc' := 28) rfl rfl ?_
          refine L_s (pc' := 29) rfl rfl ?_
          refine L_wB (pc' := 30) rfl sh_32 (by decide) rfl ?_
          refine L_let fun g7 _ => ?_
          refine L_s (pc' := 31) rfl rfl ?_
          refine L_s (pc' := 32) rfl rfl ?_
          refine L_gf (pc' := 35) rfl fi_31_0 rfl ?_
          refine L_ic (pc' := 36) rfl q1_1 rfl ?_
          refine L_s (pc' := 37) rfl rfl ?_
          refine L_pf (pc' := 40) rfl sh_31 (by decide) rfl rfl ?_
          refine L_let fun g8 _ => ?_
          refine L_ii (pc' := 43) (L' := [some (.ref 31), some (.int v1), some (.int (-8))]) rfl rfl q1_m8 (by decide : (0 : Int32) + (-8) = (-8)) rfl rfl ?_
          refine L_s (pc' := 3) rfl rfl ?_
          refine L_s (pc' := 4) rfl rfl ?_
          refine L_bt (c := ((-8) : Int32) < 0) (t := 46) (n := 7) rfl rfl (by decide) ?_
          exact L_ret rfl rfl rfl
def x_feed (v1 : Int32) (v2 : Int32) (v3 : Int32) (v4 : Int32) (v5 : Int32) (g : Sg) : Option (Int32 × Sg) :=
  Option.bind (law_hasRoomFor 20 g) (fun x1 => (if ¬ x1 = 0 then
    Option.bind (law_append v1 g) (fun g2 => Option.bind (law_append v2 g2) (fun g3 => Option.bind (law_append v3 g3) (fun g4 => Option.bind (law_append v4 g4) (fun g5 => Option.bind (law_append v5 g5) (fun g6 => (some ((g6 31 0), g6)))))))
  else
    (some ((-1), g))))
theorem e_x_feed {X : Xx} {d : Nat} (hd : 2 ≤ d) (v1 : Int32) (v2 : Int32) (v3 : Int32) (v4 : Int32) (v5 : Int32) (g : Sg) : ∀ r, x_feed v1 v2 v3 v4 v5 g = some r → EvM zft mtl X d 125 [.ref 0, .int v1, .int v2, .int v3, .int v4, .int v5] (SHF, g) ((fun r : Int32 × Sg => ((some (.int r.1), (SHF, r.2)) : Out)) r) := by
  obtain ⟨d, rfl⟩ : ∃ d0, d = d0 + 1 := ⟨d - 1, by omega⟩
  have hd : 1 ≤ d := by omega
  refine E_in (f := (fun r : Int32 × Sg => ((some (.int r.1), (SHF, r.2)) : Out))) rfl (Nat.le_of_ble_eq_true rfl) ?_
  unfold x_feed
  change Lt X d (some .int) k_125 _ 0 [some (.ref 0), some (.int v1), some (.int v2), some (.int v3), some (.int v4), some (.int v5), none] [] g _
  refine L_s (pc' := 1) rfl rfl ?_
  refine L_gf (pc' := 4) rfl fr_0_0 rfl ?_
  refine L_gf (pc' := 7) rfl fr_1_2 rfl ?_
  refine L_s (pc' := 9) (L' := [some (.ref 0), some (.int v1), some (.int v2), some (.int v3), some (.int v4), some (.int v5), some (.ref 31)]) rfl rfl ?_
  refine L_s (pc' := 11) rfl rfl ?_
  refine L_bi (pc' := 13) rfl q2_20 rfl ?_
  refine L_ci (pc' := 16) (as := [.ref 31, .int 20]) (rest := []) rfl rfl (e_law_hasRoomFor (by omega) _ _) rfl fun x1 => ?_
  refine L_br (t := 21) (n := 19) rfl rfl (fun _ => ?_) (fun _ => ?_)
  · refine L_s (pc' := 23) rfl rfl ?_
    refine L_s (pc' := 24) rfl rfl ?_
    refine L_cv (pc' := 27) (as := [.ref 31, .int v1]) (rest := []) rfl rfl (e_law_append (by omega) _ _) rfl fun g2 => ?_
    refine L_s (pc' := 29) rfl rfl ?_
    refine L_s (pc' := 30) rfl rfl ?_
    refine L_cv (pc' := 33) (as := [.ref 31, .int v2]) (rest := []) rfl rfl (e_law_append (by omega) _ _) rfl fun g3 => ?_
    refine L_s (pc' := 35) rfl rfl ?_
    refine L_s (pc' := 36) rfl rfl ?_
    refine L_cv (pc' := 39) (as := [.ref 31, .int v3]) (rest := []) rfl rfl (e_law_append (by omega) _ _) rfl fun g4 => ?_
    refine L_s (pc' := 41) rfl rfl ?_
    refine L_s (pc' := 43) rfl rfl ?_
    refine L_cv (pc' := 46) (as := [.ref 31, .int v4]) (rest := []) rfl rfl (e_law_append (by omega) _ _) rfl fun g5 => ?_
    refine L_s (pc' := 48) rfl rfl ?_
    refine L_s (pc' := 50) rfl rfl ?_
    refine L_cv (pc' := 53) (as := [.ref 31, .int v5]) (rest := []) rfl rfl (e_law_append (by omega) _ _) rfl fun g6 => ?_
    refine L_s (pc' := 55) rfl rfl ?_
    refine L_gf (pc' := 58) rfl fi_31_0 rfl ?_
    exact L_ret rfl ret_i rfl
  · refine L_ic (pc' := 20) rfl q1_m1 rfl ?_
    exact L_ret rfl ret_i rfl
def x_end (v1 : Int32) (g : Sg) : Option (Int32 × Sg) :=
  Option.bind (x_within v1 0 (g 31 0) g) (fun x1 => (if ¬ x1 = 0 then
    lt1 (up2 g 31 0 v1) (fun g2 => (some (v1, g2)))
  else
    (some ((-1), g))))
theorem e_x_end {X : Xx} {d : Nat} (hd : 2 ≤ d) (v1 : Int32) (g : Sg) : ∀ r, x_end v1 g = some r → EvM zft mtl X d 126 [.ref 0, .int v1] (SHF, g) ((fun r : Int32 × Sg => ((some (.int r.1), (SHF, r.2)) : Out)) r) := by
  obtain ⟨d, rfl⟩ : ∃ d0, d = d0 + 1 := ⟨d - 1, by omega⟩
  have hd : 1 ≤ d := by omega
  refine E_in (f := (fun r : Int32 × Sg => ((some (.int r.1), (SHF, r.2)) : Out))) rfl (Nat.le_of_ble_eq_true rfl) ?_
  unfold x_end
  change Lt X d (some .int) k_126 _ 0 [some (.ref 0), some (.int v1)] [] g _
  refine L_s (pc' := 1) rfl rfl ?_
  refine L_ic (pc' := 2) rfl q1_0 rfl ?_
  refine L_s (pc' := 3) rfl rfl ?_
  refine L_gf (pc' := 6) rfl fr_0_0 rfl ?_
  refine L_gf (pc' := 9) rfl fr_1_2 rfl ?_
  refine L_gf (pc' := 12) rfl fi_31_0 rfl ?_
  refine L_ci (pc' := 15) (as := [.int v1, .int 0, .int (g 31 0)]) (rest := []) rfl rfl (e_x_within (by omega) _ _ _ _) rfl fun x1 => ?_
  refine L_br (t := 20) (n := 18) rfl rfl (fun _ => ?_) (fun _ => ?_)
  · refine L_s (pc' := 21) rfl rfl ?_
    refine L_gf (pc' := 24) rfl fr_0_0 rfl ?_
    refine L_gf (pc' := 27) rfl fr_1_2 rfl ?_
    refine L_s (pc' := 28) rfl rfl ?_
    refine L_pf (pc' := 31) rfl sh_31 (by decide) rfl rfl ?_
    refine L_let fun g2 _ => ?_
    refine L_s (pc' := 32) rfl rfl ?_
    exact L_ret rfl ret_i rfl
  · refine L_ic (pc' := 19) rfl q1_m1 rfl ?_
    exact L_ret rfl ret_i rfl
def tokens_isLetter (v0 : Int32) (g : Sg) : Option (Int32) :=
  (if v0 < 97 then
    (some 0)
  else
    (if 122 < v0 then
      (some 0)
    else
      (some 1)))
theorem e_tokens_isLetter {X : Xx} {d : Nat} (hd : 1 ≤ d) (v0 : Int32) (g : Sg) : ∀ r, tokens_isLetter v0 g = some r → EvM zft mtl X d 79 [.int v0] (SHF, g) ((fun r : Int32 => ((some (.int r), (SHF, g)) : Out)) r) := by
  obtain ⟨d, rfl⟩ : ∃ d0, d = d0 + 1 := ⟨d - 1, by omega⟩
  have hd : 0 ≤ d := by omega
  refine E_in (f := (fun r : Int32 => ((some (.int r), (SHF, g)) : Out))) rfl (Nat.le_of_ble_eq_true rfl) ?_
  unfold tokens_isLetter
  change Lt X d (some .boolean) k_79 _ 0 [some (.int v0)] [] g _
  refine L_s (pc' := 1) rfl rfl ?_
  refine L_bi (pc' := 3) rfl q2_97 rfl ?_
  refine L_br (t := 16) (n := 6) rfl rfl (fun _ => ?_) (fun _ => ?_)
  · refine L_ic (pc' := 17) rfl q1_0 rfl ?_
    exact L_ret rfl (ret_z (by decide)) rfl
  · refine L_s (pc' := 7) rfl rfl ?_
    refine L_bi (pc' := 9) rfl q2_122 rfl ?_
    refine L_br (t := 16) (n := 12) rfl rfl (fun _ => ?_) (fun _ => ?_)
    · refine L_ic (pc' := 17) rfl q1_0 rfl ?_
      exact L_ret rfl (ret_z (by decide)) rfl
    · refine L_ic (pc' := 13) rfl q1_1 rfl ?_
      refine L_s (pc' := 17) rfl rfl ?_
      exact L_ret rfl (ret_z (by decide)) rfl
def tokens_isDigit (v0 : Int32) (g : Sg) : Option (Int32) :=
  (if v0 < 48 then
    (some 0)
  else
    (if 57 < v0 then
      (some 0)
    else
      (some 1)))
theorem e_tokens_isDigit {X : Xx} {d : Nat} (hd : 1 ≤ d) (v0 : Int32) (g : Sg) : ∀ r, tokens_isDigit v0 g = some r → EvM zft mtl X d 80 [.int v0] (SHF, g) ((fun r : Int32 => ((some (.int r), (SHF, g)) : Out)) r) := by
  obtain ⟨d, rfl⟩ : ∃ d0, d = d0 + 1 := ⟨d - 1, by omega⟩
  have hd : 0 ≤ d := by omega
  refine E_in (f := (fun r : Int32 => ((some (.int r), (SHF, g)) : Out))) rfl (Nat.le_of_ble_eq_true rfl) ?_
  unfold tokens_isDigit
  change Lt X d (some .boolean) k_80 _ 0 [some (.int v0)] [] g _
  refine L_s (pc' := 1) rfl rfl ?_
  refine L_bi (pc' := 3) rfl q2_48 rfl ?_
  refine L_br (t := 16) (n := 6) rfl rfl (fun _ => ?_) (fun _ => ?_)
  · refine L_ic (pc' := 17) rfl q1_0 rfl ?_
    exact L_ret rfl (ret_z (by decide)) rfl
  · refine L_s (pc' := 7) rfl rfl ?_
    refine L_bi (pc' := 9) rfl q2_57 rfl ?_
    refine L_br (t := 16) (n := 12) rfl rfl (fun _ => ?_) (fun _ => ?_)
    · refine L_ic (pc' := 17) rfl q1_0 rfl ?_
      exact L_ret rfl (ret_z (by decide)) rfl
    · refine L_ic (pc' := 13) rfl q1_1 rfl ?_
      refine L_s (pc' := 17) rfl rfl ?_
      exact L_ret rfl (ret_z (by decide)) rfl
def tokens_signOf (v0 : Int32) (g : Sg) : Option (Int32) :=
  (if v0 = 58 then
    (some 13)
  else (if v0 = 59 then
    (some 14)
  else (if v0 = 60 then
    (some 15)
  else (if v0 = 61 then
    (some 17)
  else (if v0 = 62 then
    (some 16)
  else (some 0))))))
theorem e_tokens_signOf {X : Xx} {d : Nat} (hd : 1 ≤ d) (v0 : Int32) (g : Sg) : ∀ r, tokens_signOf v0 g = some r → EvM zft mtl X d 83 [.int v0] (SHF, g) ((fun r : Int32 => ((some (.int r), (SHF, g)) : Out)) r) := by
  obtain ⟨d, rfl⟩ : ∃ d0, d = d0 + 1 := ⟨d - 1, by omega⟩
  have hd : 0 ≤ d := by omega
  refine E_in (f := (fun r : Int32 => ((some (.int r), (SHF, g)) : Out))) rfl (Nat.le_of_ble_eq_true rfl) ?_
  unfold tokens_signOf
  change Lt X d (some .int) k_83 _ 0 [some (.int v0)] [] g _
  refine L_s (pc' := 1) rfl rfl ?_
  refine L_if (fun h1 => ?_) (fun h1 => ?_)
  · subst h1
    refine L_ts (t := 36) (off := 35) rfl (by decide) rfl ?_
    refine L_bi (pc' := 38) rfl q2_13 rfl ?_
    exact L_ret rfl ret_i rfl
  refine L_if (fun h2 => ?_) (fun h2 => ?_)
  · subst h2
    refine L_ts (t := 39) (off := 38) rfl (by decide) rfl ?_
    refine L_bi (pc' := 41) rfl q2_14 rfl ?_
    exact L_ret rfl ret_i rfl
  refine L_if (fun h3 => ?_) (fun h3 => ?_)
  · subst h3
    refine L_ts (t := 42) (off := 41) rfl (by decide) rfl ?_
    refine L_bi (pc' := 44) rfl q2_15 rfl ?_
    exact L_ret rfl ret_i rfl
  refine L_if (fun h4 => ?_) (fun h4 => ?_)
  · subst h4
    refine L_ts (t := 48) (off := 47) rfl (by decide) rfl ?_
    refine L_bi (pc' := 50) rfl q2_17 rfl ?_
    exact L_ret rfl ret_i rfl
  refine L_if (fun h5 => ?_) (fun h5 => ?_)
  · subst h5
    refine L_ts (t := 45) (off := 44) rfl (by decide) rfl ?_
    refine L_bi (pc' := 47) rfl q2_16 rfl ?_
    exact L_ret rfl ret_i rfl
  refine L_ts (off := 50) (t := 51) rfl (twf_out (n := 5) (by decide) (by decide) (fun j hj => by
    match j, hj with
    | 0, _ => exact fun e => h1 (e.trans (by decide))
    | 1, _ => exact fun e => h2 (e.trans (by decide))
    | 2, _ => exact fun e => h3 (e.trans (by decide))
    | 3, _ => exact fun e => h4 (e.trans (by decide))
    | 4, _ => exact fun e => h5 (e.trans (by decide))
    | j + 5, hj => exact absurd hj (by omega))) rfl ?_
  refine L_ic (pc' := 52) rfl q1_0 rfl ?_
  exact L_ret rfl ret_i rfl
def reader_takeNumber_72  (g : Sg) : Option (Sg) :=
  (if 4 < ((g 191 4) - (g 191 5)) then
    lt1 (up2 g 191 6 0) (fun g1 => (some g1))
  else
    lt1 (up2 g 191 6 18) (fun g2 => (some g2)))
def reader_takeNumber_59 (k_5 : Int32 → Sg → Option (Sg)) (v2 : Int32) (g : Sg) : Option (Sg) :=
  lt1 (up2 g 191 4 ((g 191 4) + 1)) (fun g1 => (k_5 v2 g1))
def reader_takeNumber_5 : Nat → Int32 → Sg → Option (Sg)
  | 0, _, _ => none
  | n + 1, v2, g =>
    (if v2 ≤ (g 191 4) then
      (reader_takeNumber_72 g)
    else
      (if inb (g 191 4) 500 = true then Option.bind (tokens_isDigit (g 32 (Int32.toNatClampNeg (g 191 4))) g) (fun x1 => (if x1 = 0 then
        (reader_takeNumber_72 g)
      else
        (if 4 ≤ ((g 191 4) - (g 191 5)) then
          (reader_takeNumber_59 (fun v2 g0 => reader_takeNumber_5 n v2 g0) v2 g)
        else
          (if inb (g 191 4) 500 = true then lt1 (up2 g 191 7 ((((g 191 7) * 10) + (g 32 (Int32.toNatClampNeg (g 191 4)))) - 48)) (fun g2 => (reader_takeNumber_59 (fun v2 g0 => reader_takeNumber_5 n v2 g0) v2 g2)) else none)))) else none))
def reader_takeNumber (F : Nat) (v2 : Int32) (g : Sg) : Option (Sg) :=
  lt1 (up2 g 191 7 0) (fun g1 => (reader_takeNumber_5 F v2 g1))
theorem p_reader_takeNumber_72 {X : Xx} {d : Nat} (hd : 1 ≤ d)  (g : Sg) : Lt X d none k_47 (fun r : Sg => ((none, (SHF, r)) : Out)) 72 [some (.ref 191), none, none] [] g (reader_takeNumber_72 g) := by
  unfold reader_takeNumber_72
  refine L_s (pc' := 73) rfl rfl ?_
  refine L_s (pc' := 74) rfl rfl ?_
  refine L_gf (pc' := 77) rfl fi_191_4 rfl ?_
  refine L_s (pc' := 78) rfl rfl ?_
  refine L_gf (pc' := 81) rfl fi_191_5 rfl ?_
  refine L_s (pc' := 82) rfl rfl ?_
  refine L_ic (pc' := 83) rfl q1_4 rfl ?_
  refine L_br (t := 91) (n := 86) rfl rfl (fun _ => ?_) (fun _ => ?_)
  · refine L_ic (pc' := 92) rfl q1_0 rfl ?_
    refine L_pf (pc' := 95) rfl sh_191 (by decide) rfl rfl ?_
    refine L_let fun g1 _ => ?_
    exact L_ret rfl rfl rfl
  · refine L_bi (pc' := 88) rfl q2_18 rfl ?_
    refine L_s (pc' := 92) rfl rfl ?_
    refine L_pf (pc' := 95) rfl sh_191 (by decide) rfl rfl ?_
    refine L_let fun g2 _ => ?_
    exact L_ret rfl rfl rfl
theorem p_reader_takeNumber_59 {X : Xx} {d : Nat} {k_5 : Int32 → Sg → Option (Sg)} (hd : 1 ≤ d) (hk_5 : ∀ (v2 : Int32) (g : Sg), Lt X d none k_47 (fun r : Sg => ((none, (SHF, r)) : Out)) 5 [some (.ref 191), some (.ref 32), some (.int v2)] [] g (k_5 v2 g)) (v2 : Int32) (g : Sg) : Lt X d none k_47 (fun r : Sg => ((none, (SHF, r)) : Out)) 59 [some (.ref 191), some (.ref 32), some (.int v2)] [] g (reader_takeNumber_59 k_5 v2 g) := by
  unfold reader_takeNumber_59
  refine L_s (pc' := 60) rfl rfl ?_
  refine L_s (pc' := 61) rfl rfl ?_
  refine L_gf (pc' := 64) rfl fi_191_4 rfl ?_
  refine L_ic (pc' := 65) rfl q1_1 rfl ?_
  refine L_s (pc' := 66) rfl rfl ?_
  refine L_pf (pc' := 69) rfl sh_191 (by decide) rfl rfl ?_
  refine L_let fun g1 _ => ?_
  refine L_s (pc' := 5) rfl rfl ?_
  exact hk_5 _ _
theorem p_reader_takeNumber_5 {X : Xx} {d : Nat} (hd : 1 ≤ d) : ∀ (n : Nat) (v2 : Int32) (g : Sg), Lt X d none k_47 (fun r : Sg => ((none, (SHF, r)) : Out)) 5 [some (.ref 191), some (.ref 32), some (.int v2)] [] g (reader_takeNumber_5 n v2 g) := by
  intro n
  induction n with
  | zero => intros; exact L_none
  | succ n ih =>
    intro v2 g
    show Lt X d none k_47 (fun r : Sg => ((none, (SHF, r)) : Out)) 5 [some (.ref 191), some (.ref 32), some (.int v2)] [] g (
      (if v2 ≤ (g 191 4) then
        (reader_takeNumber_72 g)
      else
        (if inb (g 191 4) 500 = true then Option.bind (tokens_isDigit (g 32 (Int32.toNatClampNeg (g 191 4))) g) (fun x1 => (if x1 = 0 then
          (reader_takeNumber_72 g)
        else
          (if 4 ≤ ((g 191 4) - (g 191 5)) then
            (reader_takeNumber_59 (fun v2 g0 => reader_takeNumber_5 n v2 g0) v2 g)
          else
            (if inb (g 191 4) 500 = true then lt1 (up2 g 191 7 ((((g 191 7) * 10) + (g 32 (Int32.toNatClampNeg (g 191 4)))) - 48)) (fun g2 => (reader_takeNumber_59 (fun v2 g0 => reader_takeNumber_5 n v2 g0) v2 g2)) else none)))) else none)))
    refine L_s (pc' := 6) rfl rfl ?_
    refine L_gf (pc' := 9) rfl fi_191_4 rfl ?_
    refine L_s (pc' := 10) rfl rfl ?_
    refine L_br (t := 72) (n := 13) rfl rfl (fun _ => ?_) (fun _ => ?_)
    · refine L_wk (L' := [some (.ref 191), none, none]) (wk_s (wk_n (wk_n wk_nil))) ?_
      exact p_reader_takeNumber_72 hd _
    · refine L_s (pc' := 14) rfl rfl ?_
      refine L_s (pc' := 15) rfl rfl ?_
      refine L_gf (pc' := 18) rfl fi_191_4 rfl ?_
      refine L_rB (pc' := 19) rfl sh_32 (by decide) (by decide) rfl ?_
      refine L_ci (pc' := 22) (as := [.int (g 32 (Int32.toNatClampNeg (g 191 4)))]) (rest := []) rfl rfl (e_tokens_isDigit (by omega) _ _) rfl fun x1 => ?_
      refine L_br (t := 72) (n := 25) rfl rfl (fun _ => ?_) (fun _ => ?_)
      · refine L_wk (L' := [some (.ref 191), none, none]) (wk_s (wk_n (wk_n wk_nil))) ?_
        exact p_reader_takeNumber_72 hd _
      · refine L_s (pc' := 26) rfl rfl ?_
        refine L_gf (pc' := 29) rfl fi_191_4 rfl ?_
        refine L_s (pc' := 30) rfl rfl ?_
        refine L_gf (pc' := 33) rfl fi_191_5 rfl ?_
        refine L_s (pc' := 34) rfl rfl ?_
        refine L_ic (pc' := 35) rfl q1_4 rfl ?_
        refine L_br (t := 59) (n := 38) rfl rfl (fun _ => ?_) (fun _ => ?_)
        · exact p_reader_takeNumber_59 hd (fun _ _ => ih _ _) _ _
        · refine L_s (pc' := 39) rfl rfl ?_
          refine L_s (pc' := 40) rfl rfl ?_
          refine L_gf (pc' := 43) rfl fi_191_7 rfl ?_
          refine L_bi (pc' := 45) rfl q2_10 rfl ?_
          refine L_s (pc' := 46) rfl rfl ?_
          refine L_s (pc' := 47) rfl rfl ?_
          refine L_s (pc' := 48) rfl rfl ?_
          refine L_gf (pc' := 51) rfl fi_191_4 rfl ?_
          refine L_rB (pc' := 52) rfl sh_32 (by decide) (by decide) rfl ?_
          refine L_s (pc' := 53) rfl rfl ?_
          refine L_bi (pc' := 55) rfl q2_48 rfl ?_
          refine L_s (pc' := 56) rfl rfl ?_
          refine L_pf (pc' := 59) rfl sh_191 (by decide) rfl rfl ?_
          refine L_let fun g2 _ => ?_
          exact p_reader_takeNumber_59 hd (fun _ _ => ih _ _) _ _
theorem e_reader_takeNumber {X : Xx} {d : Nat} (hd : 2 ≤ d) (F : Nat) (v2 : Int32) (g : Sg) : ∀ r, reader_takeNumber F v2 g = some r → EvM zft mtl X d 47 [.ref 191, .ref 32, .int v2] (SHF, g) ((fun r : Sg => ((none, (SHF, r)) : Out)) r) := by
  obtain ⟨d, rfl⟩ : ∃ d0, d = d0 + 1 := ⟨d - 1, by omega⟩
  have hd : 1 ≤ d := by omega
  refine E_in (f := (fun r : Sg => ((none, (SHF, r)) : Out))) rfl (Nat.le_of_ble_eq_true rfl) ?_
  unfold reader_takeNumber
  change Lt X d none k_47 _ 0 [some (.ref 191), some (.ref 32), some (.int v2)] [] g _
  refine L_s (pc' := 1) rfl rfl ?_
  refine L_ic (pc' := 2) rfl q1_0 rfl ?_
  refine L_pf (pc' := 5) rfl sh_191 (by decide) rfl rfl ?_
  refine L_let fun g1 _ => ?_
  exact p_reader_takeNumber_5 hd F _ _
def tokens_textOf_k1  (g : Sg) : Option (Nat) :=
  (some 1010)
theorem e_tokens_textOf_k1 {X : Xx} {d : Nat} (hd : 1 ≤ d)  (g : Sg) : ∀ r, tokens_textOf_k1  g = some r → EvM zft mtl X d 85 [.int 1] (SHF, g) ((fun r : Nat => ((some (.ref r), (SHF, g)) : Out)) r) := by
  obtain ⟨d, rfl⟩ : ∃ d0, d = d0 + 1 := ⟨d - 1, by omega⟩
  have hd : 0 ≤ d := by omega
  refine E_in (f := (fun r : Nat => ((some (.ref r), (SHF, g)) : Out))) rfl (Nat.le_of_ble_eq_true rfl) ?_
  unfold tokens_textOf_k1
  change Lt X d (some (.object "java/lang/String")) k_85 _ 0 [some (.int 1)] [] g _
  refine L_s (pc' := 1) rfl rfl ?_
  refine L_ts (t := 60) (off := 59) rfl (by decide) rfl ?_
  refine L_s (pc' := 62) rfl rfl ?_
  exact L_ret rfl rfl rfl
def jS_coder  (g : Sg) : Option (Int32) :=
  (some 0)
theorem e_jS_coder {X : Xx} {d : Nat} (hd : 1 ≤ d)  (g : Sg) : ∀ r, jS_coder  g = some r → EvM zft mtl X d 234 [.ref 1010] (SHF, g) ((fun r : Int32 => ((some (.int r), (SHF, g)) : Out)) r) := by
  obtain ⟨d, rfl⟩ : ∃ d0, d = d0 + 1 := ⟨d - 1, by omega⟩
  have hd : 0 ≤ d := by omega
  refine E_in (f := (fun r : Int32 => ((some (.int r), (SHF, g)) : Out))) rfl (Nat.le_of_ble_eq_true rfl) ?_
  unfold jS_coder
  change Lt X d (some .byte) k_234 _ 0 [some (.ref 1010)] [] g _
  refine L_s (pc' := 3) rfl rfl ?_
  refine L_bf (c := (1 : Int32) = 0) (t := 13) (n := 6) rfl rfl (by decide) ?_
  refine L_s (pc' := 7) rfl rfl ?_
  refine L_s (pc' := 10) (st' := [.int 0]) rfl rfl ?_
  refine L_s (pc' := 14) rfl rfl ?_
  exact L_ret rfl (by decide) rfl
def jS_length  (g : Sg) : Option (Int32) :=
  (some 2)
theorem e_jS_length {X : Xx} {d : Nat} (hd : 2 ≤ d)  (g : Sg) : ∀ r, jS_length  g = some r → EvM zft mtl X d 232 [.ref 1010] (SHF, g) ((fun r : Int32 => ((some (.int r), (SHF, g)) : Out)) r) := by
  obtain ⟨d, rfl⟩ : ∃ d0, d = d0 + 1 := ⟨d - 1, by omega⟩
  have hd : 1 ≤ d := by omega
  refine E_in (f := (fun r : Int32 => ((some (.int r), (SHF, g)) : Out))) rfl (Nat.le_of_ble_eq_true rfl) ?_
  unfold jS_length
  change Lt X d (some .int) k_232 _ 0 [some (.ref 1010)] [] g _
  refine L_s (pc' := 1) rfl rfl ?_
  refine L_s (pc' := 4) (st' := [.ref 1030]) rfl rfl ?_
  refine L_s (pc' := 5) (st' := [.int 2]) rfl rfl ?_
  refine L_s (pc' := 6) rfl rfl ?_
  refine L_kc (pc' := 9) (as := [.ref 1010]) (rest := [.int 2]) rfl rfl ((e_jS_coder (by omega) _) (0) rfl) rfl ?_
  refine L_s (pc' := 10) rfl rfl ?_
  refine L_e (b := 2) (by decide) ?_
  exact L_ret rfl ret_i rfl
def jS_isLatin1  (g : Sg) : Option (Int32) :=
  (some 1)
theorem e_jS_isLatin1 {X : Xx} {d : Nat} (hd : 1 ≤ d)  (g : Sg) : ∀ r, jS_isLatin1  g = some r → EvM zft mtl X d 235 [.ref 1010] (SHF, g) ((fun r : Int32 => ((some (.int r), (SHF, g)) : Out)) r) := by
  obtain ⟨d, rfl⟩ : ∃ d0, d = d0 + 1 := ⟨d - 1, by omega⟩
  have hd : 0 ≤ d := by omega
  refine E_in (f := (fun r : Int32 => ((some (.int r), (SHF, g)) : Out))) rfl (Nat.le_of_ble_eq_true rfl) ?_
  unfold jS_isLatin1
  change Lt X d (some .boolean) k_235 _ 0 [some (.ref 1010)] [] g _
  refine L_s (pc' := 3) rfl rfl ?_
  refine L_bf (c := (1 : Int32) = 0) (t := 17) (n := 6) rfl rfl (by decide) ?_
  refine L_s (pc' := 7) rfl rfl ?_
  refine L_s (pc' := 10) (st' := [.int 0]) rfl rfl ?_
  refine L_bf (c := ¬ (0 : Int32) = 0) (t := 17) (n := 13) rfl rfl (by decide) ?_
  refine L_ic (pc' := 14) rfl q1_1 rfl ?_
  refine L_s (pc' := 18) rfl rfl ?_
  exact L_ret rfl (ret_z (by decide)) rfl
def jP_checkIndex_k0_2  (g : Sg) : Option (Int32) :=
  (some 0)
theorem e_jP_checkIndex_k0_2 {X : Xx} {d : Nat} (hd : 1 ≤ d)  (g : Sg) : ∀ r, jP_checkIndex_k0_2  g = some r → EvM zft mtl X d 239 [.int 0, .int 2, .null] (SHF, g) ((fun r : Int32 => ((some (.int r), (SHF, g)) : Out)) r) := by
  obtain ⟨d, rfl⟩ : ∃ d0, d = d0 + 1 := ⟨d - 1, by omega⟩
  have hd : 0 ≤ d := by omega
  refine E_in (f := (fun r : Int32 => ((some (.int r), (SHF, g)) : Out))) rfl (Nat.le_of_ble_eq_true rfl) ?_
  unfold jP_checkIndex_k0_2
  change Lt X d (some .int) k_239 _ 0 [some (.int 0), some (.int 2), some (.null)] [] g _
  refine L_s (pc' := 1) rfl rfl ?_
  refine L_bf (c := (0 : Int32) < 0) (t := 9) (n := 4) rfl rfl (by decide) ?_
  refine L_s (pc' := 5) rfl rfl ?_
  refine L_s (pc' := 6) rfl rfl ?_
  refine L_bt (c := (0 : Int32) < 2) (t := 16) (n := 9) rfl rfl (by decide) ?_
  refine L_s (pc' := 17) rfl rfl ?_
  exact L_ret rfl ret_i rfl
def jP_checkIndex_k0_2_c1  (g : Sg) : Option (Int32) :=
  (some 0)
theorem e_jP_checkIndex_k0_2_c1 {X : Xx} {d : Nat} (hd : 1 ≤ d)  (g : Sg) : ∀ r, jP_checkIndex_k0_2_c1  g = some r → EvM zft mtl X d 239 [.int 0, .int 2, .ref 1100] (SHF, g) ((fun r : Int32 => ((some (.int r), (SHF, g)) : Out)) r) := by
  obtain ⟨d, rfl⟩ : ∃ d0, d = d0 + 1 := ⟨d - 1, by omega⟩
  have hd : 0 ≤ d := by omega
  refine E_in (f := (fun r : Int32 => ((some (.int r), (SHF, g)) : Out))) rfl (Nat.le_of_ble_eq_true rfl) ?_
  unfold jP_checkIndex_k0_2_c1
  change Lt X d (some .int) k_239 _ 0 [some (.int 0), some (.int 2), some (.ref 1100)] [] g _
  refine L_s (pc' := 1) rfl rfl ?_
  refine L_bf (c := (0 : Int32) < 0) (t := 9) (n := 4) rfl rfl (by decide) ?_
  refine L_s (pc' := 5) rfl rfl ?_
  refine L_s (pc' := 6) rfl rfl ?_
  refine L_bt (c := (0 : Int32) < 2) (t := 16) (n := 9) rfl rfl (by decide) ?_
  refine L_s (pc' := 17) rfl rfl ?_
  exact L_ret rfl ret_i rfl
def jS_checkIndex_k0_2  (g : Sg) : Option (Unit) :=
  (some ())
theorem e_jS_checkIndex_k0_2 {X : Xx} {d : Nat} (hd : 2 ≤ d)  (g : Sg) : ∀ r, jS_checkIndex_k0_2  g = some r → EvM zft mtl X d 236 [.int 0, .int 2] (SHF, g) ((fun r : Unit => ((none, (SHF, g)) : Out)) r) := by
  obtain ⟨d, rfl⟩ : ∃ d0, d = d0 + 1 := ⟨d - 1, by omega⟩
  have hd : 1 ≤ d := by omega
  refine E_in (f := (fun r : Unit => ((none, (SHF, g)) : Out))) rfl (Nat.le_of_ble_eq_true rfl) ?_
  unfold jS_checkIndex_k0_2
  change Lt X d none k_236 _ 0 [some (.int 0), some (.int 2)] [] g _
  refine L_s (pc' := 1) rfl rfl ?_
  refine L_s (pc' := 2) rfl rfl ?_
  refine L_x3 (pc' := 5) rfl rfl (fun _ => ?_) (fun _ => ?_)
  · refine L_kc (pc' := 8) (as := [.int 0, .int 2, .null]) (rest := []) rfl rfl ((e_jP_checkIndex_k0_2 (by omega) _) (0) rfl) rfl ?_
    refine L_s (pc' := 9) rfl rfl ?_
    exact L_ret rfl rfl rfl
  · refine L_kc (pc' := 8) (as := [.int 0, .int 2, .ref 1100]) (rest := []) rfl rfl ((e_jP_checkIndex_k0_2_c1 (by omega) _) (0) rfl) rfl ?_
    refine L_s (pc' := 9) rfl rfl ?_
    exact L_ret rfl rfl rfl
def jL_charAt_k0  (g : Sg) : Option (Int32) :=
  (some 105)
theorem e_jL_charAt_k0 {X : Xx} {d : Nat} (hd : 3 ≤ d)  (g : Sg) : ∀ r, jL_charAt_k0  g = some r → EvM zft mtl X d 237 [.ref 1030, .int 0] (SHF, g) ((fun r : Int32 => ((some (.int r), (SHF, g)) : Out)) r) := by
  obtain ⟨d, rfl⟩ : ∃ d0, d = d0 + 1 := ⟨d - 1, by omega⟩
  have hd : 2 ≤ d := by omega
  refine E_in (f := (fun r : Int32 => ((some (.int r), (SHF, g)) : Out))) rfl (Nat.le_of_ble_eq_true rfl) ?_
  unfold jL_charAt_k0
  change Lt X d (some .char) k_237 _ 0 [some (.ref 1030), some (.int 0)] [] g _
  refine L_s (pc' := 1) rfl rfl ?_
  refine L_s (pc' := 2) rfl rfl ?_
  refine L_s (pc' := 3) (st' := [.int 2, .int 0]) rfl rfl ?_
  refine L_ku (pc' := 6) (as := [.int 0, .int 2]) (rest := []) rfl rfl ((e_jS_checkIndex_k0_2 (by omega) _) () rfl) rfl ?_
  refine L_s (pc' := 7) rfl rfl ?_
  refine L_s (pc' := 8) rfl rfl ?_
  refine L_xBk (pc' := 9) rfl (rfl : xsh X 1030 = _) (by decide) (by decide) (rfl : _ = (105 : Int32)) rfl ?_
  refine L_si (pc' := 12) rfl q3_255 rfl ?_
  refine L_s (pc' := 13) rfl rfl ?_
  refine L_e (b := 105) (by decide) ?_
  refine L_s (pc' := 14) rfl rfl ?_
  refine L_e (b := 105) (by decide) ?_
  exact L_ret rfl (by decide) rfl
def jS_charAt_k0  (g : Sg) : Option (Int32) :=
  (some 105)
theorem e_jS_charAt_k0 {X : Xx} {d : Nat} (hd : 4 ≤ d)  (g : Sg) : ∀ r, jS_charAt_k0  g = some r → EvM zft mtl X d 233 [.ref 1010, .int 0] (SHF, g) ((fun r : Int32 => ((some (.int r), (SHF, g)) : Out)) r) := by
  obtain ⟨d, rfl⟩ : ∃ d0, d = d0 + 1 := ⟨d - 1, by omega⟩
  have hd : 3 ≤ d := by omega
  refine E_in (f := (fun r : Int32 => ((some (.int r), (SHF, g)) : Out))) rfl (Nat.le_of_ble_eq_true rfl) ?_
  unfold jS_charAt_k0
  change Lt X d (some .char) k_233 _ 0 [some (.ref 1010), some (.int 0)] [] g _
  refine L_s (pc' := 1) rfl rfl ?_
  refine L_kc (pc' := 4) (as := [.ref 1010]) (rest := []) rfl rfl ((e_jS_isLatin1 (by omega) _) (1) rfl) rfl ?_
  refine L_bf (c := (1 : Int32) = 0) (t := 16) (n := 7) rfl rfl (by decide) ?_
  refine L_s (pc' := 8) rfl rfl ?_
  refine L_s (pc' := 11) (st' := [.ref 1030]) rfl rfl ?_
  refine L_s (pc' := 12) rfl rfl ?_
  refine L_kc (pc' := 15) (as := [.ref 1030, .int 0]) (rest := []) rfl rfl ((e_jL_charAt_k0 (by omega) _) (105) rfl) rfl ?_
  exact L_ret rfl (by decide) rfl
def jP_checkIndex_k1_2  (g : Sg) : Option (Int32) :=
  (some 1)
theorem e_jP_checkIndex_k1_2 {X : Xx} {d : Nat} (hd : 1 ≤ d)  (g : Sg) : ∀ r, jP_checkIndex_k1_2  g = some r → EvM zft mtl X d 239 [.int 1, .int 2, .null] (SHF, g) ((fun r : Int32 => ((some (.int r), (SHF, g)) : Out)) r) := by
  obtain ⟨d, rfl⟩ : ∃ d0, d = d0 + 1 := ⟨d - 1, by omega⟩
  have hd : 0 ≤ d := by omega
  refine E_in (f := (fun r : Int32 => ((some (.int r), (SHF, g)) : Out))) rfl (Nat.le_of_ble_eq_true rfl) ?_
  unfold jP_checkIndex_k1_2
  change Lt X d (some .int) k_239 _ 0 [some (.int 1), some (.int 2), some (.null)] [] g _
  refine L_s (pc' := 1) rfl rfl ?_
  refine L_bf (c := (1 : Int32) < 0) (t := 9) (n := 4) rfl rfl (by decide) ?_
  refine L_s (pc' := 5) rfl rfl ?_
  refine L_s (pc' := 6) rfl rfl ?_
  refine L_bt (c := (1 : Int32) < 2) (t := 16) (n := 9) rfl rfl (by decide) ?_
  refine L_s (pc' := 17) rfl rfl ?_
  exact L_ret rfl ret_i rfl
def jP_checkIndex_k1_2_c1  (g : Sg) : Option (Int32) :=
  (some 1)
theorem e_jP_checkIndex_k1_2_c1 {X : Xx} {d : Nat} (hd : 1 ≤ d)  (g : Sg) : ∀ r, jP_checkIndex_k1_2_c1  g = some r → EvM zft mtl X d 239 [.int 1, .int 2, .ref 1100] (SHF, g) ((fun r : Int32 => ((some (.int r), (SHF, g)) : Out)) r) := by
  obtain ⟨d, rfl⟩ : ∃ d0, d = d0 + 1 := ⟨d - 1, by omega⟩
  have hd : 0 ≤ d := by omega
  refine E_in (f := (fun r : Int32 => ((some (.int r), (SHF, g)) : Out))) rfl (Nat.le_of_ble_eq_true rfl) ?_
  unfold jP_checkIndex_k1_2_c1
  change Lt X d (some .int) k_239 _ 0 [some (.int 1), some (.int 2), some (.ref 1100)] [] g _
  refine L_s (pc' := 1) rfl rfl ?_
  refine L_bf (c := (1 : Int32) < 0) (t := 9) (n := 4) rfl rfl (by decide) ?_
  refine L_s (pc' := 5) rfl rfl ?_
  refine L_s (pc' := 6) rfl rfl ?_
  refine L_bt (c := (1 : Int32) < 2) (t := 16) (n := 9) rfl rfl (by decide) ?_
  refine L_s (pc' := 17) rfl rfl ?_
  exact L_ret rfl ret_i rfl
def jS_checkIndex_k1_2  (g : Sg) : Option (Unit) :=
  (some ())
theorem e_jS_checkIndex_k1_2 {X : Xx} {d : Nat} (hd : 2 ≤ d)  (g : Sg) : ∀ r, jS_checkIndex_k1_2  g = some r → EvM zft mtl X d 236 [.int 1, .int 2] (SHF, g) ((fun r : Unit => ((none, (SHF, g)) : Out)) r) := by
  obtain ⟨d, rfl⟩ : ∃ d0, d = d0 + 1 := ⟨d - 1, by omega⟩
  have hd : 1 ≤ d := by omega
  refine E_in (f := (fun r : Unit => ((none, (SHF, g)) : Out))) rfl (Nat.le_of_ble_eq_true rfl) ?_
  unfold jS_checkIndex_k1_2
  change Lt X d none k_236 _ 0 [some (.int 1), some (.int 2)] [] g _
  refine L_s (pc' := 1) rfl rfl ?_
  refine L_s (pc' := 2) rfl rfl ?_
  refine L_x3 (pc' := 5) rfl rfl (fun _ => ?_) (fun _ => ?_)
  · refine L_kc (pc' := 8) (as := [.int 1, .int 2, .null]) (rest := []) rfl rfl ((e_jP_checkIndex_k1_2 (by omega) _) (1) rfl) rfl ?_
    refine L_s (pc' := 9) rfl rfl ?_
    exact L_ret rfl rfl rfl
  · refine L_kc (pc' := 8) (as := [.int 1, .int 2, .ref 1100]) (rest := []) rfl rfl ((e_jP_checkIndex_k1_2_c1 (by omega) _) (1) rfl) rfl ?_
    refine L_s (pc' := 9) rfl rfl ?_
    exact L_ret rfl rfl rfl
def jL_charAt_k1  (g : Sg) : Option (Int32) :=
  (some 102)
theorem e_jL_charAt_k1 {X : Xx} {d : Nat} (hd : 3 ≤ d)  (g : Sg) : ∀ r, jL_charAt_k1  g = some r → EvM zft mtl X d 237 [.ref 1030, .int 1] (SHF, g) ((fun r : Int32 => ((some (.int r), (SHF, g)) : Out)) r) := by
  obtain ⟨d, rfl⟩ : ∃ d0, d = d0 + 1 := ⟨d - 1, by omega⟩
  have hd : 2 ≤ d := by omega
  refine E_in (f := (fun r : Int32 => ((some (.int r), (SHF, g)) : Out))) rfl (Nat.le_of_ble_eq_true rfl) ?_
  unfold jL_charAt_k1
  change Lt X d (some .char) k_237 _ 0 [some (.ref 1030), some (.int 1)] [] g _
  refine L_s (pc' := 1) rfl rfl ?_
  refine L_s (pc' := 2) rfl rfl ?_
  refine L_s (pc' := 3) (st' := [.int 2, .int 1]) rfl rfl ?_
  refine L_ku (pc' := 6) (as := [.int 1, .int 2]) (rest := []) rfl rfl ((e_jS_checkIndex_k1_2 (by omega) _) () rfl) rfl ?_
  refine L_s (pc' := 7) rfl rfl ?_
  refine L_s (pc' := 8) rfl rfl ?_
  refine L_xBk (pc' := 9) rfl (rfl : xsh X 1030 = _) (by decide) (by decide) (rfl : _ = (102 : Int32)) rfl ?_
  refine L_si (pc' := 12) rfl q3_255 rfl ?_
  refine L_s (pc' := 13) rfl rfl ?_
  refine L_e (b := 102) (by decide) ?_
  refine L_s (pc' := 14) rfl rfl ?_
  refine L_e (b := 102) (by decide) ?_
  exact L_ret rfl (by decide) rfl
def jS_charAt_k1  (g : Sg) : Option (Int32) :=
  (some 102)
theorem e_jS_charAt_k1 {X : Xx} {d : Nat} (hd : 4 ≤ d)  (g : Sg) : ∀ r, jS_charAt_k1  g = some r → EvM zft mtl X d 233 [.ref 1010, .int 1] (SHF, g) ((fun r : Int32 => ((some (.int r), (SHF, g)) : Out)) r) := by
  obtain ⟨d, rfl⟩ : ∃ d0, d = d0 + 1 := ⟨d - 1, by omega⟩
  have hd : 3 ≤ d := by omega
  refine E_in (f := (fun r : Int32 => ((some (.int r), (SHF, g)) : Out))) rfl (Nat.le_of_ble_eq_true rfl) ?_
  unfold jS_charAt_k1
  change Lt X d (some .char) k_233 _ 0 [some (.ref 1010), some (.int 1)] [] g _
  refine L_s (pc' := 1) rfl rfl ?_
  refine L_kc (pc' := 4) (as := [.ref 1010]) (rest := []) rfl rfl ((e_jS_isLatin1 (by omega) _) (1) rfl) rfl ?_
  refine L_bf (c := (1 : Int32) = 0) (t := 16) (n := 7) rfl rfl (by decide) ?_
  refine L_s (pc' := 8) rfl rfl ?_
  refine L_s (pc' := 11) (st' := [.ref 1030]) rfl rfl ?_
  refine L_s (pc' := 12) rfl rfl ?_
  refine L_kc (pc' := 15) (as := [.ref 1030, .int 1]) (rest := []) rfl rfl ((e_jL_charAt_k1 (by omega) _) (102) rfl) rfl ?_
  exact L_ret rfl (by decide) rfl
def tokens_isWord (v1 : Int32) (v2 : Int32) (g : Sg) : Option (Int32) :=
  (if ¬ (v2 - v1) = 2 then
    (some 0)
  else
    (if v1 < 0 then
      (some 0)
    else
      (if v2 ≤ 500 then
        (if inb (v1 + 0) 500 = true then (if (g 32 (Int32.toNatClampNeg (v1 + 0))) = 105 then
          (if inb (v1 + 1) 500 = true then (if (g 32 (Int32.toNatClampNeg (v1 + 1))) = 102 then
            (some 1)
          else
            (some 0)) else none)
        else
          (some 0)) else none)
      else
        (some 0))))
theorem e_tokens_isWord {X : Xx} {d : Nat} (hd : 5 ≤ d) (v1 : Int32) (v2 : Int32) (g : Sg) : ∀ r, tokens_isWord v1 v2 g = some r → EvM zft mtl X d 86 [.ref 32, .int v1, .int v2, .ref 1010] (SHF, g) ((fun r : Int32 => ((some (.int r), (SHF, g)) : Out)) r) := by
  obtain ⟨d, rfl⟩ : ∃ d0, d = d0 + 1 := ⟨d - 1, by omega⟩
  have hd : 4 ≤ d := by omega
  refine E_in (f := (fun r : Int32 => ((some (.int r), (SHF, g)) : Out))) rfl (Nat.le_of_ble_eq_true rfl) ?_
  unfold tokens_isWord
  change Lt X d (some .boolean) k_86 _ 0 [some (.ref 32), some (.int v1), some (.int v2), some (.ref 1010), none] [] g _
  refine L_s (pc' := 1) rfl rfl ?_
  refine L_s (pc' := 2) rfl rfl ?_
  refine L_s (pc' := 3) rfl rfl ?_
  refine L_s (pc' := 4) rfl rfl ?_
  refine L_kc (pc' := 7) (as := [.ref 1010]) (rest := [.int (v2 - v1)]) rfl rfl ((e_jS_length (by omega) _) (2) rfl) rfl ?_
  refine L_br (t := 20) (n := 10) rfl rfl (fun _ => ?_) (fun _ => ?_)
  · refine L_ic (pc' := 21) rfl q1_0 rfl ?_
    exact L_ret rfl (ret_z (by decide)) rfl
  · refine L_s (pc' := 11) rfl rfl ?_
    refine L_br (t := 20) (n := 14) rfl rfl (fun _ => ?_) (fun _ => ?_)
    · refine L_ic (pc' := 21) rfl q1_0 rfl ?_
      exact L_ret rfl (ret_z (by decide)) rfl
    · refine L_s (pc' := 15) rfl rfl ?_
      refine L_s (pc' := 16) rfl rfl ?_
      refine L_s (pc' := 17) (st' := [.int 500, .int v2]) rfl rfl ?_
      refine L_br (t := 22) (n := 20) rfl rfl (fun _ => ?_) (fun _ => ?_)
      · refine L_ic (pc' := 23) rfl q1_0 rfl ?_
        refine L_s (pc' := 25) (L' := [some (.ref 32), some (.int v1), some (.int v2), some (.ref 1010), some (.int 0)]) rfl rfl ?_
        refine L_s (pc' := 27) rfl rfl ?_
        refine L_s (pc' := 28) rfl rfl ?_
        refine L_kc (pc' := 31) (as := [.ref 1010]) (rest := [.int 0]) rfl rfl ((e_jS_length (by omega) _) (2) rfl) rfl ?_
        refine L_bf (c := (2 : Int32) ≤ 0) (t := 57) (n := 34) rfl rfl (by decide) ?_
        refine L_s (pc' := 35) rfl rfl ?_
        refine L_s (pc' := 36) rfl rfl ?_
        refine L_s (pc' := 38) rfl rfl ?_
        refine L_s (pc' := 39) rfl rfl ?_
        refine L_rB (pc' := 40) rfl sh_32 (by decide) (by decide) rfl ?_
        refine L_s (pc' := 41) rfl rfl ?_
        refine L_s (pc' := 43) rfl rfl ?_
        refine L_kc (pc' := 46) (as := [.ref 1010, .int 0]) (rest := [.int (g 32 (Int32.toNatClampNeg (v1 + 0)))]) rfl rfl ((e_jS_charAt_k0 (by omega) _) (105) rfl) rfl ?_
        refine L_br (t := 51) (n := 49) rfl rfl (fun _ => ?_) (fun _ => ?_)
        · refine L_ii (pc' := 54) (L' := [some (.ref 32), some (.int v1), some (.int v2), some (.ref 1010), some (.int 1)]) rfl rfl q1_1 (by decide : (0 : Int32) + 1 = 1) rfl rfl ?_
          refine L_s (pc' := 25) rfl rfl ?_
          refine L_s (pc' := 27) rfl rfl ?_
          refine L_s (pc' := 28) rfl rfl ?_
          refine L_kc (pc' := 31) (as := [.ref 1010]) (rest := [.int 1]) rfl rfl ((e_jS_length (by omega) _) (2) rfl) rfl ?_
          refine L_bf (c := (2 : Int32) ≤ 1) (t := 57) (n := 34) rfl rfl (by decide) ?_
          refine L_s (pc' := 35) rfl rfl ?_
          refine L_s (pc' := 36) rfl rfl ?_
          refine L_s (pc' := 38) rfl rfl ?_
          refine L_s (pc' := 39) rfl rfl ?_
          refine L_rB (pc' := 40) rfl sh_32 (by decide) (by decide) rfl ?_
          refine L_s (pc' := 41) rfl rfl ?_
          refine L_s (pc' := 43) rfl rfl ?_
          refine L_kc (pc' := 46) (as := [.ref 1010, .int 1]) (rest := [.int (g 32 (Int32.toNatClampNeg (v1 + 1)))]) rfl rfl ((e_jS_charAt_k1 (by omega) _) (102) rfl) rfl ?_
          refine L_br (t := 51) (n := 49) rfl rfl (fun _ => ?_) (fun _ => ?_)
          · refine L_ii (pc' := 54) (L' := [some (.ref 32), some (.int v1), some (.int v2), some (.ref 1010), some (.int 2)]) rfl rfl q1_1 (by decide : (1 : Int32) + 1 = 2) rfl rfl ?_
            refine L_s (pc' := 25) rfl rfl ?_
            refine L_s (pc' := 27) rfl rfl ?_
            refine L_s (pc' := 28) rfl rfl ?_
            refine L_kc (pc' := 31) (as := [.ref 1010]) (rest := [.int 2]) rfl rfl ((e_jS_length (by omega) _) (2) rfl) rfl ?_
            refine L_bt (c := (2 : Int32) ≤ 2) (t := 57) (n := 34) rfl rfl (by decide) ?_
            refine L_ic (pc' := 58) rfl q1_1 rfl ?_
            exact L_ret rfl (ret_z (by decide)) rfl
          · refine L_ic (pc' := 50) rfl q1_0 rfl ?_
            exact L_ret rfl (ret_z (by decide)) rfl
        · refine L_ic (pc' := 50) rfl q1_0 rfl ?_
          exact L_ret rfl (ret_z (by decide)) rfl
      · refine L_ic (pc' := 21) rfl q1_0 rfl ?_
        exact L_ret rfl (ret_z (by decide)) rfl
def tokens_textOf_k2  (g : Sg) : Option (Nat) :=
  (some 1011)
theorem e_tokens_textOf_k2 {X : Xx} {d : Nat} (hd : 1 ≤ d)  (g : Sg) : ∀ r, tokens_textOf_k2  g = some r → EvM zft mtl X d 85 [.int 2] (SHF, g) ((fun r : Nat => ((some (.ref r), (SHF, g)) : Out)) r) := by
  obtain ⟨d, rfl⟩ : ∃ d0, d = d0 + 1 := ⟨d - 1, by omega⟩
  have hd : 0 ≤ d := by omega
  refine E_in (f := (fun r : Nat => ((some (.ref r), (SHF, g)) : Out))) rfl (Nat.le_of_ble_eq_true rfl) ?_
  unfold tokens_textOf_k2
  change Lt X d (some (.object "java/lang/String")) k_85 _ 0 [some (.int 2)] [] g _
  refine L_s (pc' := 1) rfl rfl ?_
  refine L_ts (t := 63) (off := 62) rfl (by decide) rfl ?_
  refine L_s (pc' := 65) rfl rfl ?_
  exact L_ret rfl rfl rfl
def jS_coder_c1  (g : Sg) : Option (Int32) :=
  (some 0)
theorem e_jS_coder_c1 {X : Xx} {d : Nat} (hd : 1 ≤ d)  (g : Sg) : ∀ r, jS_coder_c1  g = some r → EvM zft mtl X d 234 [.ref 1011] (SHF, g) ((fun r : Int32 => ((some (.int r), (SHF, g)) : Out)) r) := by
  obtain ⟨d, rfl⟩ : ∃ d0, d = d0 + 1 := ⟨d - 1, by omega⟩
  have hd : 0 ≤ d := by omega
  refine E_in (f := (fun r : Int32 => ((some (.int r), (SHF, g)) : Out))) rfl (Nat.le_of_ble_eq_true rfl) ?_
  unfold jS_coder_c1
  change Lt X d (some .byte) k_234 _ 0 [some (.ref 1011)] [] g _
  refine L_s (pc' := 3) rfl rfl ?_
  refine L_bf (c := (1 : Int32) = 0) (t := 13) (n := 6) rfl rfl (by decide) ?_
  refine L_s (pc' := 7) rfl rfl ?_
  refine L_s (pc' := 10) (st' := [.int 0]) rfl rfl ?_
  refine L_s (pc' := 14) rfl rfl ?_
  exact L_ret rfl (by decide) rfl
def jS_length_c1  (g : Sg) : Option (Int32) :=
  (some 3)
theorem e_jS_length_c1 {X : Xx} {d : Nat} (hd : 2 ≤ d)  (g : Sg) : ∀ r, jS_length_c1  g = some r → EvM zft mtl X d 232 [.ref 1011] (SHF, g) ((fun r : Int32 => ((some (.int r), (SHF, g)) : Out)) r) := by
  obtain ⟨d, rfl⟩ : ∃ d0, d = d0 + 1 := ⟨d - 1, by omega⟩
  have hd : 1 ≤ d := by omega
  refine E_in (f := (fun r : Int32 => ((some (.int r), (SHF, g)) : Out))) rfl (Nat.le_of_ble_eq_true rfl) ?_
  unfold jS_length_c1
  change Lt X d (some .int) k_232 _ 0 [some (.ref 1011)] [] g _
  refine L_s (pc' := 1) rfl rfl ?_
  refine L_s (pc' := 4) (st' := [.ref 1031]) rfl rfl ?_
  refine L_s (pc' := 5) (st' := [.int 3]) rfl rfl ?_
  refine L_s (pc' := 6) rfl rfl ?_
  refine L_kc (pc' := 9) (as := [.ref 1011]) (rest := [.int 3]) rfl rfl ((e_jS_coder_c1 (by omega) _) (0) rfl) rfl ?_
  refine L_s (pc' := 10) rfl rfl ?_
  refine L_e (b := 3) (by decide) ?_
  exact L_ret rfl ret_i rfl
def jS_isLatin1_c1  (g : Sg) : Option (Int32) :=
  (some 1)
theorem e_jS_isLatin1_c1 {X : Xx} {d : Nat} (hd : 1 ≤ d)  (g : Sg) : ∀ r, jS_isLatin1_c1  g = some r → EvM zft mtl X d 235 [.ref 1011] (SHF, g) ((fun r : Int32 => ((some (.int r), (SHF, g)) : Out)) r) := by
  obtain ⟨d, rfl⟩ : ∃ d0, d = d0 + 1 := ⟨d - 1, by omega⟩
  have hd : 0 ≤ d := by omega
  refine E_in (f := (fun r : Int32 => ((some (.int r), (SHF, g)) : Out))) rfl (Nat.le_of_ble_eq_true rfl) ?_
  unfold jS_isLatin1_c1
  change Lt X d (some .boolean) k_235 _ 0 [some (.ref 1011)] [] g _
  refine L_s (pc' := 3) rfl rfl ?_
  refine L_bf (c := (1 : Int32) = 0) (t := 17) (n := 6) rfl rfl (by decide) ?_
  refine L_s (pc' := 7) rfl rfl ?_
  refine L_s (pc' := 10) (st' := [.int 0]) rfl rfl ?_
  refine L_bf (c := ¬ (0 : Int32) = 0) (t := 17) (n := 13) rfl rfl (by decide) ?_
  refine L_ic (pc' := 14) rfl q1_1 rfl ?_
  refine L_s (pc' := 18) rfl rfl ?_
  exact L_ret rfl (ret_z (by decide)) rfl
def jP_checkIndex_k0_3  (g : Sg) : Option (Int32) :=
  (some 0)
theorem e_jP_checkIndex_k0_3 {X : Xx} {d : Nat} (hd : 1 ≤ d)  (g : Sg) : ∀ r, jP_checkIndex_k0_3  g = some r → EvM zft mtl X d 239 [.int 0, .int 3, .null] (SHF, g) ((fun r : Int32 => ((some (.int r), (SHF, g)) : Out)) r) := by
  obtain ⟨d, rfl⟩ : ∃ d0, d = d0 + 1 := ⟨d - 1, by omega⟩
  have hd : 0 ≤ d := by omega
  refine E_in (f := (fun r : Int32 => ((some (.int r), (SHF, g)) : Out))) rfl (Nat.le_of_ble_eq_true rfl) ?_
  unfold jP_checkIndex_k0_3
  change Lt X d (some .int) k_239 _ 0 [some (.int 0), some (.int 3), some (.null)] [] g _
  refine L_s (pc' := 1) rfl rfl ?_
  refine L_bf (c := (0 : Int32) < 0) (t := 9) (n := 4) rfl rfl (by decide) ?_
  refine L_s (pc' := 5) rfl rfl ?_
  refine L_s (pc' := 6) rfl rfl ?_
  refine L_bt (c := (0 : Int32) < 3) (t := 16) (n := 9) rfl rfl (by decide) ?_
  refine L_s (pc' := 17) rfl rfl ?_
  exact L_ret rfl ret_i rfl
def jP_checkIndex_k0_3_c1  (g : Sg) : Option (Int32) :=
  (some 0)
theorem e_jP_checkIndex_k0_3_c1 {X : Xx} {d : Nat} (hd : 1 ≤ d)  (g : Sg) : ∀ r, jP_checkIndex_k0_3_c1  g = some r → EvM zft mtl X d 239 [.int 0, .int 3, .ref 1100] (SHF, g) ((fun r : Int32 => ((some (.int r), (SHF, g)) : Out)) r) := by
  obtain ⟨d, rfl⟩ : ∃ d0, d = d0 + 1 := ⟨d - 1, by omega⟩
  have hd : 0 ≤ d := by omega
  refine E_in (f := (fun r : Int32 => ((some (.int r), (SHF, g)) : Out))) rfl (Nat.le_of_ble_eq_true rfl) ?_
  unfold jP_checkIndex_k0_3_c1
  change Lt X d (some .int) k_239 _ 0 [some (.int 0), some (.int 3), some (.ref 1100)] [] g _
  refine L_s (pc' := 1) rfl rfl ?_
  refine L_bf (c := (0 : Int32) < 0) (t := 9) (n := 4) rfl rfl (by decide) ?_
  refine L_s (pc' := 5) rfl rfl ?_
  refine L_s (pc' := 6) rfl rfl ?_
  refine L_bt (c := (0 : Int32) < 3) (t := 16) (n := 9) rfl rfl (by decide) ?_
  refine L_s (pc' := 17) rfl rfl ?_
  exact L_ret rfl ret_i rfl
def jS_checkIndex_k0_3  (g : Sg) : Option (Unit) :=
  (some ())
theorem e_jS_checkIndex_k0_3 {X : Xx} {d : Nat} (hd : 2 ≤ d)  (g : Sg) : ∀ r, jS_checkIndex_k0_3  g = some r → EvM zft mtl X d 236 [.int 0, .int 3] (SHF, g) ((fun r : Unit => ((none, (SHF, g)) : Out)) r) := by
  obtain ⟨d, rfl⟩ : ∃ d0, d = d0 + 1 := ⟨d - 1, by omega⟩
  have hd : 1 ≤ d := by omega
  refine E_in (f := (fun r : Unit => ((none, (SHF, g)) : Out))) rfl (Nat.le_of_ble_eq_true rfl) ?_
  unfold jS_checkIndex_k0_3
  change Lt X d none k_236 _ 0 [some (.int 0), some (.int 3)] [] g _
  refine L_s (pc' := 1) rfl rfl ?_
  refine L_s (pc' := 2) rfl rfl ?_
  refine L_x3 (pc' := 5) rfl rfl (fun _ => ?_) (fun _ => ?_)
  · refine L_kc (pc' := 8) (as := [.int 0, .int 3, .null]) (rest := []) rfl rfl ((e_jP_checkIndex_k0_3 (by omega) _) (0) rfl) rfl ?_
    refine L_s (pc' := 9) rfl rfl ?_
    exact L_ret rfl rfl rfl
  · refine L_kc (pc' := 8) (as := [.int 0, .int 3, .ref 1100]) (rest := []) rfl rfl ((e_jP_checkIndex_k0_3_c1 (by omega) _) (0) rfl) rfl ?_
    refine L_s (pc' := 9) rfl rfl ?_
    exact L_ret rfl rfl rfl
def jL_charAt_k0_c1  (g : Sg) : Option (Int32) :=
  (some 97)
theorem e_jL_charAt_k0_c1 {X : Xx} {d : Nat} (hd : 3 ≤ d)  (g : Sg) : ∀ r, jL_charAt_k0_c1  g = some r → EvM zft mtl X d 237 [.ref 1031, .int 0] (SHF, g) ((fun r : Int32 => ((some (.int r), (SHF, g)) : Out)) r) := by
  obtain ⟨d, rfl⟩ : ∃ d0, d = d0 + 1 := ⟨d - 1, by omega⟩
  have hd : 2 ≤ d := by omega
  refine E_in (f := (fun r : Int32 => ((some (.int r), (SHF, g)) : Out))) rfl (Nat.le_of_ble_eq_true rfl) ?_
  unfold jL_charAt_k0_c1
  change Lt X d (some .char) k_237 _ 0 [some (.ref 1031), some (.int 0)] [] g _
  refine L_s (pc' := 1) rfl rfl ?_
  refine L_s (pc' := 2) rfl rfl ?_
  refine L_s (pc' := 3) (st' := [.int 3, .int 0]) rfl rfl ?_
  refine L_ku (pc' := 6) (as := [.int 0, .int 3]) (rest := []) rfl rfl ((e_jS_checkIndex_k0_3 (by omega) _) () rfl) rfl ?_
  refine L_s (pc' := 7) rfl rfl ?_
  refine L_s (pc' := 8) rfl rfl ?_
  refine L_xBk (pc' := 9) rfl (rfl : xsh X 1031 = _) (by decide) (by decide) (rfl : _ = (97 : Int32)) rfl ?_
  refine L_si (pc' := 12) rfl q3_255 rfl ?_
  refine L_s (pc' := 13) rfl rfl ?_
  refine L_e (b := 97) (by decide) ?_
  refine L_s (pc' := 14) rfl rfl ?_
  refine L_e (b := 97) (by decide) ?_
  exact L_ret rfl (by decide) rfl
def jS_charAt_k0_c1  (g : Sg) : Option (Int32) :=
  (some 97)
theorem e_jS_charAt_k0_c1 {X : Xx} {d : Nat} (hd : 4 ≤ d)  (g : Sg) : ∀ r, jS_charAt_k0_c1  g = some r → EvM zft mtl X d 233 [.ref 1011, .int 0] (SHF, g) ((fun r : Int32 => ((some (.int r), (SHF, g)) : Out)) r) := by
  obtain ⟨d, rfl⟩ : ∃ d0, d = d0 + 1 := ⟨d - 1, by omega⟩
  have hd : 3 ≤ d := by omega
  refine E_in (f := (fun r : Int32 => ((some (.int r), (SHF, g)) : Out))) rfl (Nat.le_of_ble_eq_true rfl) ?_
  unfold jS_charAt_k0_c1
  change Lt X d (some .char) k_233 _ 0 [some (.ref 1011), some (.int 0)] [] g _
  refine L_s (pc' := 1) rfl rfl ?_
  refine L_kc (pc' := 4) (as := [.ref 1011]) (rest := []) rfl rfl ((e_jS_isLatin1_c1 (by omega) _) (1) rfl) rfl ?_
  refine L_bf (c := (1 : Int32) = 0) (t := 16) (n := 7) rfl rfl (by decide) ?_
  refine L_s (pc' := 8) rfl rfl ?_
  refine L_s (pc' := 11) (st' := [.ref 1031]) rfl rfl ?_
  refine L_s (pc' := 12) rfl rfl ?_
  refine L_kc (pc' := 15) (as := [.ref 1031, .int 0]) (rest := []) rfl rfl ((e_jL_charAt_k0_c1 (by omega) _) (97) rfl) rfl ?_
  exact L_ret rfl (by decide) rfl
def jP_checkIndex_k1_3  (g : Sg) : Option (Int32) :=
  (some 1)
theorem e_jP_checkIndex_k1_3 {X : Xx} {d : Nat} (hd : 1 ≤ d)  (g : Sg) : ∀ r, jP_checkIndex_k1_3  g = some r → EvM zft mtl X d 239 [.int 1, .int 3, .null] (SHF, g) ((fun r : Int32 => ((some (.int r), (SHF, g)) : Out)) r) := by
  obtain ⟨d, rfl⟩ : ∃ d0, d = d0 + 1 := ⟨d - 1, by omega⟩
  have hd : 0 ≤ d := by omega
  refine E_in (f := (fun r : Int32 => ((some (.int r), (SHF, g)) : Out))) rfl (Nat.le_of_ble_eq_true rfl) ?_
  unfold jP_checkIndex_k1_3
  change Lt X d (some .int) k_239 _ 0 [some (.int 1), some (.int 3), some (.null)] [] g _
  refine L_s (pc' := 1) rfl rfl ?_
  refine L_bf (c := (1 : Int32) < 0) (t := 9) (n := 4) rfl rfl (by decide) ?_
  refine L_s (pc' := 5) rfl rfl ?_
  refine L_s (pc' := 6) rfl rfl ?_
  refine L_bt (c := (1 : Int32) < 3) (t := 16) (n := 9) rfl rfl (by decide) ?_
  refine L_s (pc' := 17) rfl rfl ?_
  exact L_ret rfl ret_i rfl
def jP_checkIndex_k1_3_c1  (g : Sg) : Option (Int32) :=
  (some 1)
theorem e_jP_checkIndex_k1_3_c1 {X : Xx} {d : Nat} (hd : 1 ≤ d)  (g : Sg) : ∀ r, jP_checkIndex_k1_3_c1  g = some r → EvM zft mtl X d 239 [.int 1, .int 3, .ref 1100] (SHF, g) ((fun r : Int32 => ((some (.int r), (SHF, g)) : Out)) r) := by
  obtain ⟨d, rfl⟩ : ∃ d0, d = d0 + 1 := ⟨d - 1, by omega⟩
  have hd : 0 ≤ d := by omega
  refine E_in (f := (fun r : Int32 => ((some (.int r), (SHF, g)) : Out))) rfl (Nat.le_of_ble_eq_true rfl) ?_
  unfold jP_checkIndex_k1_3_c1
  change Lt X d (some .int) k_239 _ 0 [some (.int 1), some (.int 3), some (.ref 1100)] [] g _
  refine L_s (pc' := 1) rfl rfl ?_
  refine L_bf (c := (1 : Int32) < 0) (t := 9) (n := 4) rfl rfl (by decide) ?_
  refine L_s (pc' := 5) rfl rfl ?_
  refine L_s (pc' := 6) rfl rfl ?_
  refine L_bt (c := (1 : Int32) < 3) (t := 16) (n := 9) rfl rfl (by decide) ?_
  refine L_s (pc' := 17) rfl rfl ?_
  exact L_ret rfl ret_i rfl
def jS_checkIndex_k1_3  (g : Sg) : Option (Unit) :=
  (some ())
theorem e_jS_checkIndex_k1_3 {X : Xx} {d : Nat} (hd : 2 ≤ d)  (g : Sg) : ∀ r, jS_checkIndex_k1_3  g = some r → EvM zft mtl X d 236 [.int 1, .int 3] (SHF, g) ((fun r : Unit => ((none, (SHF, g)) : Out)) r) := by
  obtain ⟨d, rfl⟩ : ∃ d0, d = d0 + 1 := ⟨d - 1, by omega⟩
  have hd : 1 ≤ d := by omega
  refine E_in (f := (fun r : Unit => ((none, (SHF, g)) : Out))) rfl (Nat.le_of_ble_eq_true rfl) ?_
  unfold jS_checkIndex_k1_3
  change Lt X d none k_236 _ 0 [some (.int 1), some (.int 3)] [] g _
  refine L_s (pc' := 1) rfl rfl ?_
  refine L_s (pc' := 2) rfl rfl ?_
  refine L_x3 (pc' := 5) rfl rfl (fun _ => ?_) (fun _ => ?_)
  · refine L_kc (pc' := 8) (as := [.int 1, .int 3, .null]) (rest := []) rfl rfl ((e_jP_checkIndex_k1_3 (by omega) _) (1) rfl) rfl ?_
    refine L_s (pc' := 9) rfl rfl ?_
    exact L_ret rfl rfl rfl
  · refine L_kc (pc' := 8) (as := [.int 1, .int 3, .ref 1100]) (rest := []) rfl rfl ((e_jP_checkIndex_k1_3_c1 (by omega) _) (1) rfl) rfl ?_
    refine L_s (pc' := 9) rfl rfl ?_
    exact L_ret rfl rfl rfl
def jL_charAt_k1_c1  (g : Sg) : Option (Int32) :=
  (some 110)
theorem e_jL_charAt_k1_c1 {X : Xx} {d : Nat} (hd : 3 ≤ d)  (g : Sg) : ∀ r, jL_charAt_k1_c1  g = some r → EvM zft mtl X d 237 [.ref 1031, .int 1] (SHF, g) ((fun r : Int32 => ((some (.int r), (SHF, g)) : Out)) r) := by
  obtain ⟨d, rfl⟩ : ∃ d0, d = d0 + 1 := ⟨d - 1, by omega⟩
  have hd : 2 ≤ d := by omega
  refine E_in (f := (fun r : Int32 => ((some (.int r), (SHF, g)) : Out))) rfl (Nat.le_of_ble_eq_true rfl) ?_
  unfold jL_charAt_k1_c1
  change Lt X d (some .char) k_237 _ 0 [some (.ref 1031), some (.int 1)] [] g _
  refine L_s (pc' := 1) rfl rfl ?_
  refine L_s (pc' := 2) rfl rfl ?_
  refine L_s (pc' := 3) (st' := [.int 3, .int 1]) rfl rfl ?_
  refine L_ku (pc' := 6) (as := [.int 1, .int 3]) (rest := []) rfl rfl ((e_jS_checkIndex_k1_3 (by omega) _) () rfl) rfl ?_
  refine L_s (pc' := 7) rfl rfl ?_
  refine L_s (pc' := 8) rfl rfl ?_
  refine L_xBk (pc' := 9) rfl (rfl : xsh X 1031 = _) (by decide) (by decide) (rfl : _ = (110 : Int32)) rfl ?_
  refine L_si (pc' := 12) rfl q3_255 rfl ?_
  refine L_s (pc' := 13) rfl rfl ?_
  refine L_e (b := 110) (by decide) ?_
  refine L_s (pc' := 14) rfl rfl ?_
  refine L_e (b := 110) (by decide) ?_
  exact L_ret rfl (by decide) rfl
def jS_charAt_k1_c1  (g : Sg) : Option (Int32) :=
  (some 110)
theorem e_jS_charAt_k1_c1 {X : Xx} {d : Nat} (hd : 4 ≤ d)  (g : Sg) : ∀ r, jS_charAt_k1_c1  g = some r → EvM zft mtl X d 233 [.ref 1011, .int 1] (SHF, g) ((fun r : Int32 => ((some (.int r), (SHF, g)) : Out)) r) := by
  obtain ⟨d, rfl⟩ : ∃ d0, d = d0 + 1 := ⟨d - 1, by omega⟩
  have hd : 3 ≤ d := by omega
  refine E_in (f := (fun r : Int32 => ((some (.int r), (SHF, g)) : Out))) rfl (Nat.le_of_ble_eq_true rfl) ?_
  unfold jS_charAt_k1_c1
  change Lt X d (some .char) k_233 _ 0 [some (.ref 1011), some (.int 1)] [] g _
  refine L_s (pc' := 1) rfl rfl ?_
  refine L_kc (pc' := 4) (as := [.ref 1011]) (rest := []) rfl rfl ((e_jS_isLatin1_c1 (by omega) _) (1) rfl) rfl ?_
  refine L_bf (c := (1 : Int32) = 0) (t := 16) (n := 7) rfl rfl (by decide) ?_
  refine L_s (pc' := 8) rfl rfl ?_
  refine L_s (pc' := 11) (st' := [.ref 1031]) rfl rfl ?_
  refine L_s (pc' := 12) rfl rfl ?_
  refine L_kc (pc' := 15) (as := [.ref 1031, .int 1]) (rest := []) rfl rfl ((e_jL_charAt_k1_c1 (by omega) _) (110) rfl) rfl ?_
  exact L_ret rfl (by decide) rfl
def jP_checkIndex_k2_3  (g : Sg) : Option (Int32) :=
  (some 2)
theorem e_jP_checkIndex_k2_3 {X : Xx} {d : Nat} (hd : 1 ≤ d)  (g : Sg) : ∀ r, jP_checkIndex_k2_3  g = some r → EvM zft mtl X d 239 [.int 2, .int 3, .null] (SHF, g) ((fun r : Int32 => ((some (.int r), (SHF, g)) : Out)) r) := by
  obtain ⟨d, rfl⟩ : ∃ d0, d = d0 + 1 := ⟨d - 1, by omega⟩
  have hd : 0 ≤ d := by omega
  refine E_in (f := (fun r : Int32 => ((some (.int r), (SHF, g)) : Out))) rfl (Nat.le_of_ble_eq_true rfl) ?_
  unfold jP_checkIndex_k2_3
  change Lt X d (some .int) k_239 _ 0 [some (.int 2), some (.int 3), some (.null)] [] g _
  refine L_s (pc' := 1) rfl rfl ?_
  refine L_bf (c := (2 : Int32) < 0) (t := 9) (n := 4) rfl rfl (by decide) ?_
  refine L_s (pc' := 5) rfl rfl ?_
  refine L_s (pc' := 6) rfl rfl ?_
  refine L_bt (c := (2 : Int32) < 3) (t := 16) (n := 9) rfl rfl (by decide) ?_
  refine L_s (pc' := 17) rfl rfl ?_
  exact L_ret rfl ret_i rfl
def jP_checkIndex_k2_3_c1  (g : Sg) : Option (Int32) :=
  (some 2)
theorem e_jP_checkIndex_k2_3_c1 {X : Xx} {d : Nat} (hd : 1 ≤ d)  (g : Sg) : ∀ r, jP_checkIndex_k2_3_c1  g = some r → EvM zft mtl X d 239 [.int 2, .int 3, .ref 1100] (SHF, g) ((fun r : Int32 => ((some (.int r), (SHF, g)) : Out)) r) := by
  obtain ⟨d, rfl⟩ : ∃ d0, d = d0 + 1 := ⟨d - 1, by omega⟩
  have hd : 0 ≤ d := by omega
  refine E_in (f := (fun r : Int32 => ((some (.int r), (SHF, g)) : Out))) rfl (Nat.le_of_ble_eq_true rfl) ?_
  unfold jP_checkIndex_k2_3_c1
  change Lt X d (some .int) k_239 _ 0 [some (.int 2), some (.int 3), some (.ref 1100)] [] g _
  refine L_s (pc' := 1) rfl rfl ?_
  refine L_bf (c := (2 : Int32) < 0) (t := 9) (n := 4) rfl rfl (by decide) ?_
  refine L_s (pc' := 5) rfl rfl ?_
  refine L_s (pc' := 6) rfl rfl ?_
  refine L_bt (c := (2 : Int32) < 3) (t := 16) (n := 9) rfl rfl (by decide) ?_
  refine L_s (pc' := 17) rfl rfl ?_
  exact L_ret rfl ret_i rfl
def jS_checkIndex_k2_3  (g : Sg) : Option (Unit) :=
  (some ())
theorem e_jS_checkIndex_k2_3 {X : Xx} {d : Nat} (hd : 2 ≤ d)  (g : Sg) : ∀ r, jS_checkIndex_k2_3  g = some r → EvM zft mtl X d 236 [.int 2, .int 3] (SHF, g) ((fun r : Unit => ((none, (SHF, g)) : Out)) r) := by
  obtain ⟨d, rfl⟩ : ∃ d0, d = d0 + 1 := ⟨d - 1, by omega⟩
  have hd : 1 ≤ d := by omega
  refine E_in (f := (fun r : Unit => ((none, (SHF, g)) : Out))) rfl (Nat.le_of_ble_eq_true rfl) ?_
  unfold jS_checkIndex_k2_3
  change Lt X d none k_236 _ 0 [some (.int 2), some (.int 3)] [] g _
  refine L_s (pc' := 1) rfl rfl ?_
  refine L_s (pc' := 2) rfl rfl ?_
  refine L_x3 (pc' := 5) rfl rfl (fun _ => ?_) (fun _ => ?_)
  · refine L_kc (pc' := 8) (as := [.int 2, .int 3, .null]) (rest := []) rfl rfl ((e_jP_checkIndex_k2_3 (by omega) _) (2) rfl) rfl ?_
    refine L_s (pc' := 9) rfl rfl ?_
    exact L_ret rfl rfl rfl
  · refine L_kc (pc' := 8) (as := [.int 2, .int 3, .ref 1100]) (rest := []) rfl rfl ((e_jP_checkIndex_k2_3_c1 (by omega) _) (2) rfl) rfl ?_
    refine L_s (pc' := 9) rfl rfl ?_
    exact L_ret rfl rfl rfl
def jL_charAt_k2  (g : Sg) : Option (Int32) :=
  (some 100)
theorem e_jL_charAt_k2 {X : Xx} {d : Nat} (hd : 3 ≤ d)  (g : Sg) : ∀ r, jL_charAt_k2  g = some r → EvM zft mtl X d 237 [.ref 1031, .int 2] (SHF, g) ((fun r : Int32 => ((some (.int r), (SHF, g)) : Out)) r) := by
  obtain ⟨d, rfl⟩ : ∃ d0, d = d0 + 1 := ⟨d - 1, by omega⟩
  have hd : 2 ≤ d := by omega
  refine E_in (f := (fun r : Int32 => ((some (.int r), (SHF, g)) : Out))) rfl (Nat.le_of_ble_eq_true rfl) ?_
  unfold jL_charAt_k2
  change Lt X d (some .char) k_237 _ 0 [some (.ref 1031), some (.int 2)] [] g _
  refine L_s (pc' := 1) rfl rfl ?_
  refine L_s (pc' := 2) rfl rfl ?_
  refine L_s (pc' := 3) (st' := [.int 3, .int 2]) rfl rfl ?_
  refine L_ku (pc' := 6) (as := [.int 2, .int 3]) (rest := []) rfl rfl ((e_jS_checkIndex_k2_3 (by omega) _) () rfl) rfl ?_
  refine L_s (pc' := 7) rfl rfl ?_
  refine L_s (pc' := 8) rfl rfl ?_
  refine L_xBk (pc' := 9) rfl (rfl : xsh X 1031 = _) (by decide) (by decide) (rfl : _ = (100 : Int32)) rfl ?_
  refine L_si (pc' := 12) rfl q3_255 rfl ?_
  refine L_s (pc' := 13) rfl rfl ?_
  refine L_e (b := 100) (by decide) ?_
  refine L_s (pc' := 14) rfl rfl ?_
  refine L_e (b := 100) (by decide) ?_
  exact L_ret rfl (by decide) rfl
def jS_charAt_k2  (g : Sg) : Option (Int32) :=
  (some 100)
theorem e_jS_charAt_k2 {X : Xx} {d : Nat} (hd : 4 ≤ d)  (g : Sg) : ∀ r, jS_charAt_k2  g = some r → EvM zft mtl X d 233 [.ref 1011, .int 2] (SHF, g) ((fun r : Int32 => ((some (.int r), (SHF, g)) : Out)) r) := by
  obtain ⟨d, rfl⟩ : ∃ d0, d = d0 + 1 := ⟨d - 1, by omega⟩
  have hd : 3 ≤ d := by omega
  refine E_in (f := (fun r : Int32 => ((some (.int r), (SHF, g)) : Out))) rfl (Nat.le_of_ble_eq_true rfl) ?_
  unfold jS_charAt_k2
  change Lt X d (some .char) k_233 _ 0 [some (.ref 1011), some (.int 2)] [] g _
  refine L_s (pc' := 1) rfl rfl ?_
  refine L_kc (pc' := 4) (as := [.ref 1011]) (rest := []) rfl rfl ((e_jS_isLatin1_c1 (by omega) _) (1) rfl) rfl ?_
  refine L_bf (c := (1 : Int32) = 0) (t := 16) (n := 7) rfl rfl (by decide) ?_
  refine L_s (pc' := 8) rfl rfl ?_
  refine L_s (pc' := 11) (st' := [.ref 1031]) rfl rfl ?_
  refine L_s (pc' := 12) rfl rfl ?_
  refine L_kc (pc' := 15) (as := [.ref 1031, .int 2]) (rest := []) rfl rfl ((e_jL_charAt_k2 (by omega) _) (100) rfl) rfl ?_
  exact L_ret rfl (by decide) rfl
def tokens_isWord_c1 (v1 : Int32) (v2 : Int32) (g : Sg) : Option (Int32) :=
  (if ¬ (v2 - v1) = 3 then
    (some 0)
  else
    (if v1 < 0 then
      (some 0)
    else
      (if v2 ≤ 500 then
        (if inb (v1 + 0) 500 = true then (if (g 32 (Int32.toNatClampNeg (v1 + 0))) = 97 then
          (if inb (v1 + 1) 500 = true then (if (g 32 (Int32.toNatClampNeg (v1 + 1))) = 110 then
            (if inb (v1 + 2) 500 = true then (if (g 32 (Int32.toNatClampNeg (v1 + 2))) = 100 then
              (some 1)
            else
              (some 0)) else none)
          else
            (some 0)) else none)
        else
          (some 0)) else none)
      else
        (some 0))))
theorem e_tokens_isWord_c1 {X : Xx} {d : Nat} (hd : 5 ≤ d) (v1 : Int32) (v2 : Int32) (g : Sg) : ∀ r, tokens_isWord_c1 v1 v2 g = some r → EvM zft mtl X d 86 [.ref 32, .int v1, .int v2, .ref 1011] (SHF, g) ((fun r : Int32 => ((some (.int r), (SHF, g)) : Out)) r) := by
  obtain ⟨d, rfl⟩ : ∃ d0, d = d0 + 1 := ⟨d - 1, by omega⟩
  have hd : 4 ≤ d := by omega
  refine E_in (f := (fun r : Int32 => ((some (.int r), (SHF, g)) : Out))) rfl (Nat.le_of_ble_eq_true rfl) ?_
  unfold tokens_isWord_c1
  change Lt X d (some .boolean) k_86 _ 0 [some (.ref 32), some (.int v1), some (.int v2), some (.ref 1011), none] [] g _
  refine L_s (pc' := 1) rfl rfl ?_
  refine L_s (pc' := 2) rfl rfl ?_
  refine L_s (pc' := 3) rfl rfl ?_
  refine L_s (pc' := 4) rfl rfl ?_
  refine L_kc (pc' := 7) (as := [.ref 1011]) (rest := [.int (v2 - v1)]) rfl rfl ((e_jS_length_c1 (by omega) _) (3) rfl) rfl ?_
  refine L_br (t := 20) (n := 10) rfl rfl (fun _ => ?_) (fun _ => ?_)
  · refine L_ic (pc' := 21) rfl q1_0 rfl ?_
    exact L_ret rfl (ret_z (by decide)) rfl
  · refine L_s (pc' := 11) rfl rfl ?_
    refine L_br (t := 20) (n := 14) rfl rfl (fun _ => ?_) (fun _ => ?_)
    · refine L_ic (pc' := 21) rfl q1_0 rfl ?_
      exact L_ret rfl (ret_z (by decide)) rfl
    · refine L_s (pc' := 15) rfl rfl ?_
      refine L_s (pc' := 16) rfl rfl ?_
      refine L_s (pc' := 17) (st' := [.int 500, .int v2]) rfl rfl ?_
      refine L_br (t := 22) (n := 20) rfl rfl (fun _ => ?_) (fun _ => ?_)
      · refine L_ic (pc' := 23) rfl q1_0 rfl ?_
        refine L_s (pc' := 25) (L' := [some (.ref 32), some (.int v1), some (.int v2), some (.ref 1011), some (.int 0)]) rfl rfl ?_
        refine L_s (pc' := 27) rfl rfl ?_
        refine L_s (pc' := 28) rfl rfl ?_
        refine L_kc (pc' := 31) (as := [.ref 1011]) (rest := [.int 0]) rfl rfl ((e_jS_length_c1 (by omega) _) (3) rfl) rfl ?_
        refine L_bf (c := (3 : Int32) ≤ 0) (t := 57) (n := 34) rfl rfl (by decide) ?_
        refine L_s (pc' := 35) rfl rfl ?_
        refine L_s (pc' := 36) rfl rfl ?_
        refine L_s (pc' := 38) rfl rfl ?_
        refine L_s (pc' := 39) rfl rfl ?_
        refine L_rB (pc' := 40) rfl sh_32 (by decide) (by decide) rfl ?_
        refine L_s (pc' := 41) rfl rfl ?_
        refine L_s (pc' := 43) rfl rfl ?_
        refine L_kc (pc' := 46) (as := [.ref 1011, .int 0]) (rest := [.int (g 32 (Int32.toNatClampNeg (v1 + 0)))]) rfl rfl ((e_jS_charAt_k0_c1 (by omega) _) (97) rfl) rfl ?_
        refine L_br (t := 51) (n := 49) rfl rfl (fun _ => ?_) (fun _ => ?_)
        · refine L_ii (pc' := 54) (L' := [some (.ref 32), some (.int v1), some (.int v2), some (.ref 1011), some (.int 1)]) rfl rfl q1_1 (by decide : (0 : Int32) + 1 = 1) rfl rfl ?_
          refine L_s (pc' := 25) rfl rfl ?_
          refine L_s (pc' := 27) rfl rfl ?_
          refine L_s (pc' := 28) rfl rfl ?_
          refine L_kc (pc' := 31) (as := [.ref 1011]) (rest := [.int 1]) rfl rfl ((e_jS_length_c1 (by omega) _) (3) rfl) rfl ?_
          refine L_bf (c := (3 : Int32) ≤ 1) (t := 57) (n := 34) rfl rfl (by decide) ?_
          refine L_s (pc' := 35) rfl rfl ?_
          refine L_s (pc' := 36) rfl rfl ?_
          refine L_s (pc' := 38) rfl rfl ?_
          refine L_s (pc' := 39) rfl rfl ?_
          refine L_rB (pc' := 40) rfl sh_32 (by decide) (by decide) rfl ?_
          refine L_s (pc' := 41) rfl rfl ?_
          refine L_s (pc' := 43) rfl rfl ?_
          refine L_kc (pc' := 46) (as := [.ref 1011, .int 1]) (rest := [.int (g 32 (Int32.toNatClampNeg (v1 + 1)))]) rfl rfl ((e_jS_charAt_k1_c1 (by omega) _) (110) rfl) rfl ?_
          refine L_br (t := 51) (n := 49) rfl rfl (fun _ => ?_) (fun _ => ?_)
          · refine L_ii (pc' := 54) (L' := [some (.ref 32), some (.int v1), some (.int v2), some (.ref 1011), some (.int 2)]) rfl rfl q1_1 (by decide : (1 : Int32) + 1 = 2) rfl rfl ?_
            refine L_s (pc' := 25) rfl rfl ?_
            refine L_s (pc' := 27) rfl rfl ?_
            refine L_s (pc' := 28) rfl rfl ?_
            refine L_kc (pc' := 31) (as := [.ref 1011]) (rest := [.int 2]) rfl rfl ((e_jS_length_c1 (by omega) _) (3) rfl) rfl ?_
            refine L_bf (c := (3 : Int32) ≤ 2) (t := 57) (n := 34) rfl rfl (by decide) ?_
            refine L_s (pc' := 35) rfl rfl ?_
            refine L_s (pc' := 36) rfl rfl ?_
            refine L_s (pc' := 38) rfl rfl ?_
            refine L_s (pc' := 39) rfl rfl ?_
            refine L_rB (pc' := 40) rfl sh_32 (by decide) (by decide) rfl ?_
            refine L_s (pc' := 41) rfl rfl ?_
            refine L_s (pc' := 43) rfl rfl ?_
            refine L_kc (pc' := 46) (as := [.ref 1011, .int 2]) (rest := [.int (g 32 (Int32.toNatClampNeg (v1 + 2)))]) rfl rfl ((e_jS_charAt_k2 (by omega) _) (100) rfl) rfl ?_
            refine L_br (t := 51) (n := 49) rfl rfl (fun _ => ?_) (fun _ => ?_)
            · refine L_ii (pc' := 54) (L' := [some (.ref 32), some (.int v1), some (.int v2), some (.ref 1011), some (.int 3)]) rfl rfl q1_1 (by decide : (2 : Int32) + 1 = 3) rfl rfl ?_
              refine L_s (pc' := 25) rfl rfl ?_
              refine L_s (pc' := 27) rfl rfl ?_
              refine L_s (pc' := 28) rfl rfl ?_
              refine L_kc (pc' := 31) (as := [.ref 1011]) (rest := [.int 3]) rfl rfl ((e_jS_length_c1 (by omega) _) (3) rfl) rfl ?_
              refine L_bt (c := (3 : Int32) ≤ 3) (t := 57) (n := 34) rfl rfl (by decide) ?_
              refine L_ic (pc' := 58) rfl q1_1 rfl ?_
              exact L_ret rfl (ret_z (by decide)) rfl
            · refine L_ic (pc' := 50) rfl q1_0 rfl ?_
              exact L_ret rfl (ret_z (by decide)) rfl
          · refine L_ic (pc' := 50) rfl q1_0 rfl ?_
            exact L_ret rfl (ret_z (by decide)) rfl
        · refine L_ic (pc' := 50) rfl q1_0 rfl ?_
          exact L_ret rfl (ret_z (by decide)) rfl
      · refine L_ic (pc' := 21) rfl q1_0 rfl ?_
        exact L_ret rfl (ret_z (by decide)) rfl
def tokens_textOf_k3  (g : Sg) : Option (Nat) :=
  (some 1012)
theorem e_tokens_textOf_k3 {X : Xx} {d : Nat} (hd : 1 ≤ d)  (g : Sg) : ∀ r, tokens_textOf_k3  g = some r → EvM zft mtl X d 85 [.int 3] (SHF, g) ((fun r : Nat => ((some (.ref r), (SHF, g)) : Out)) r) := by
  obtain ⟨d, rfl⟩ : ∃ d0, d = d0 + 1 := ⟨d - 1, by omega⟩
  have hd : 0 ≤ d := by omega
  refine E_in (f := (fun r : Nat => ((some (.ref r), (SHF, g)) : Out))) rfl (Nat.le_of_ble_eq_true rfl) ?_
  unfold tokens_textOf_k3
  change Lt X d (some (.object "java/lang/String")) k_85 _ 0 [some (.int 3)] [] g _
  refine L_s (pc' := 1) rfl rfl ?_
  refine L_ts (t := 66) (off := 65) rfl (by decide) rfl ?_
  refine L_s (pc' := 68) rfl rfl ?_
  exact L_ret rfl rfl rfl
def jS_coder_c2  (g : Sg) : Option (Int32) :=
  (some 0)
theorem e_jS_coder_c2 {X : Xx} {d : Nat} (hd : 1 ≤ d)  (g : Sg) : ∀ r, jS_coder_c2  g = some r → EvM zft mtl X d 234 [.ref 1012] (SHF, g) ((fun r : Int32 => ((some (.int r), (SHF, g)) : Out)) r) := by
  obtain ⟨d, rfl⟩ : ∃ d0, d = d0 + 1 := ⟨d - 1, by omega⟩
  have hd : 0 ≤ d := by omega
  refine E_in (f := (fun r : Int32 => ((some (.int r), (SHF, g)) : Out))) rfl (Nat.le_of_ble_eq_true rfl) ?_
  unfold jS_coder_c2
  change Lt X d (some .byte) k_234 _ 0 [some (.ref 1012)] [] g _
  refine L_s (pc' := 3) rfl rfl ?_
  refine L_bf (c := (1 : Int32) = 0) (t := 13) (n := 6) rfl rfl (by decide) ?_
  refine L_s (pc' := 7) rfl rfl ?_
  refine L_s (pc' := 10) (st' := [.int 0]) rfl rfl ?_
  refine L_s (pc' := 14) rfl rfl ?_
  exact L_ret rfl (by decide) rfl
def jS_length_c2  (g : Sg) : Option (Int32) :=
  (some 3)
theorem e_jS_length_c2 {X : Xx} {d : Nat} (hd : 2 ≤ d)  (g : Sg) : ∀ r, jS_length_c2  g = some r → EvM zft mtl X d 232 [.ref 1012] (SHF, g) ((fun r : Int32 => ((some (.int r), (SHF, g)) : Out)) r) := by
  obtain ⟨d, rfl⟩ : ∃ d0, d = d0 + 1 := ⟨d - 1, by omega⟩
  have hd : 1 ≤ d := by omega
  refine E_in (f := (fun r : Int32 => ((some (.int r), (SHF, g)) : Out))) rfl (Nat.le_of_ble_eq_true rfl) ?_
  unfold jS_length_c2
  change Lt X d (some .int) k_232 _ 0 [some (.ref 1012)] [] g _
  refine L_s (pc' := 1) rfl rfl ?_
  refine L_s (pc' := 4) (st' := [.ref 1032]) rfl rfl ?_
  refine L_s (pc' := 5) (st' := [.int 3]) rfl rfl ?_
  refine L_s (pc' := 6) rfl rfl ?_
  refine L_kc (pc' := 9) (as := [.ref 1012]) (rest := [.int 3]) rfl rfl ((e_jS_coder_c2 (by omega) _) (0) rfl) rfl ?_
  refine L_s (pc' := 10) rfl rfl ?_
  refine L_e (b := 3) (by decide) ?_
  exact L_ret rfl ret_i rfl
def jS_isLatin1_c2  (g : Sg) : Option (Int32) :=
  (some 1)
theorem e_jS_isLatin1_c2 {X : Xx} {d : Nat} (hd : 1 ≤ d)  (g : Sg) : ∀ r, jS_isLatin1_c2  g = some r → EvM zft mtl X d 235 [.ref 1012] (SHF, g) ((fun r : Int32 => ((some (.int r), (SHF, g)) : Out)) r) := by
  obtain ⟨d, rfl⟩ : ∃ d0, d = d0 + 1 := ⟨d - 1, by omega⟩
  have hd : 0 ≤ d := by omega
  refine E_in (f := (fun r : Int32 => ((some (.int r), (SHF, g)) : Out))) rfl (Nat.le_of_ble_eq_true rfl) ?_
  unfold jS_isLatin1_c2
  change Lt X d (some .boolean) k_235 _ 0 [some (.ref 1012)] [] g _
  refine L_s (pc' := 3) rfl rfl ?_
  refine L_bf (c := (1 : Int32) = 0) (t := 17) (n := 6) rfl rfl (by decide) ?_
  refine L_s (pc' := 7) rfl rfl ?_
  refine L_s (pc' := 10) (st' := [.int 0]) rfl rfl ?_
  refine L_bf (c := ¬ (0 : Int32) = 0) (t := 17) (n := 13) rfl rfl (by decide) ?_
  refine L_ic (pc' := 14) rfl q1_1 rfl ?_
  refine L_s (pc' := 18) rfl rfl ?_
  exact L_ret rfl (ret_z (by decide)) rfl
def jL_charAt_k0_c2  (g : Sg) : Option (Int32) :=
  (some 110)
theorem e_jL_charAt_k0_c2 {X : Xx} {d : Nat} (hd : 3 ≤ d)  (g : Sg) : ∀ r, jL_charAt_k0_c2  g = some r → EvM zft mtl X d 237 [.ref 1032, .int 0] (SHF, g) ((fun r : Int32 => ((some (.int r), (SHF, g)) : Out)) r) := by
  obtain ⟨d, rfl⟩ : ∃ d0, d = d0 + 1 := ⟨d - 1, by omega⟩
  have hd : 2 ≤ d := by omega
  refine E_in (f := (fun r : Int32 => ((some (.int r), (SHF, g)) : Out))) rfl (Nat.le_of_ble_eq_true rfl) ?_
  unfold jL_charAt_k0_c2
  change Lt X d (some .char) k_237 _ 0 [some (.ref 1032), some (.int 0)] [] g _
  refine L_s (pc' := 1) rfl rfl ?_
  refine L_s (pc' := 2) rfl rfl ?_
  refine L_s (pc' := 3) (st' := [.int 3, .int 0]) rfl rfl ?_
  refine L_ku (pc' := 6) (as := [.int 0, .int 3]) (rest := []) rfl rfl ((e_jS_checkIndex_k0_3 (by omega) _) () rfl) rfl ?_
  refine L_s (pc' := 7) rfl rfl ?_
  refine L_s (pc' := 8) rfl rfl ?_
  refine L_xBk (pc' := 9) rfl (rfl : xsh X 1032 = _) (by decide) (by decide) (rfl : _ = (110 : Int32)) rfl ?_
  refine L_si (pc' := 12) rfl q3_255 rfl ?_
  refine L_s (pc' := 13) rfl rfl ?_
  refine L_e (b := 110) (by decide) ?_
  refine L_s (pc' := 14) rfl rfl ?_
  refine L_e (b := 110) (by decide) ?_
  exact L_ret rfl (by decide) rfl
def jS_charAt_k0_c2  (g : Sg) : Option (Int32) :=
  (some 110)
theorem e_jS_charAt_k0_c2 {X : Xx} {d : Nat} (hd : 4 ≤ d)  (g : Sg) : ∀ r, jS_charAt_k0_c2  g = some r → EvM zft mtl X d 233 [.ref 1012, .int 0] (SHF, g) ((fun r : Int32 => ((some (.int r), (SHF, g)) : Out)) r) := by
  obtain ⟨d, rfl⟩ : ∃ d0, d = d0 + 1 := ⟨d - 1, by omega⟩
  have hd : 3 ≤ d := by omega
  refine E_in (f := (fun r : Int32 => ((some (.int r), (SHF, g)) : Out))) rfl (Nat.le_of_ble_eq_true rfl) ?_
  unfold jS_charAt_k0_c2
  change Lt X d (some .char) k_233 _ 0 [some (.ref 1012), some (.int 0)] [] g _
  refine L_s (pc' := 1) rfl rfl ?_
  refine L_kc (pc' := 4) (as := [.ref 1012]) (rest := []) rfl rfl ((e_jS_isLatin1_c2 (by omega) _) (1) rfl) rfl ?_
  refine L_bf (c := (1 : Int32) = 0) (t := 16) (n := 7) rfl rfl (by decide) ?_
  refine L_s (pc' := 8) rfl rfl ?_
  refine L_s (pc' := 11) (st' := [.ref 1032]) rfl rfl ?_
  refine L_s (pc' := 12) rfl rfl ?_
  refine L_kc (pc' := 15) (as := [.ref 1032, .int 0]) (rest := []) rfl rfl ((e_jL_charAt_k0_c2 (by omega) _) (110) rfl) rfl ?_
  exact L_ret rfl (by decide) rfl
def jL_charAt_k1_c2  (g : Sg) : Option (Int32) :=
  (some 111)
theorem e_jL_charAt_k1_c2 {X : Xx} {d : Nat} (hd : 3 ≤ d)  (g : Sg) : ∀ r, jL_charAt_k1_c2  g = some r → EvM zft mtl X d 237 [.ref 1032, .int 1] (SHF, g) ((fun r : Int32 => ((some (.int r), (SHF, g)) : Out)) r) := by
  obtain ⟨d, rfl⟩ : ∃ d0, d = d0 + 1 := ⟨d - 1, by omega⟩
  have hd : 2 ≤ d := by omega
  refine E_in (f := (fun r : Int32 => ((some (.int r), (SHF, g)) : Out))) rfl (Nat.le_of_ble_eq_true rfl) ?_
  unfold jL_charAt_k1_c2
  change Lt X d (some .char) k_237 _ 0 [some (.ref 1032), some (.int 1)] [] g _
  refine L_s (pc' := 1) rfl rfl ?_
  refine L_s (pc' := 2) rfl rfl ?_
  refine L_s (pc' := 3) (st' := [.int 3, .int 1]) rfl rfl ?_
  refine L_ku (pc' := 6) (as := [.int 1, .int 3]) (rest := []) rfl rfl ((e_jS_checkIndex_k1_3 (by omega) _) () rfl) rfl ?_
  refine L_s (pc' := 7) rfl rfl ?_
  refine L_s (pc' := 8) rfl rfl ?_
  refine L_xBk (pc' := 9) rfl (rfl : xsh X 1032 = _) (by decide) (by decide) (rfl : _ = (111 : Int32)) rfl ?_
  refine L_si (pc' := 12) rfl q3_255 rfl ?_
  refine L_s (pc' := 13) rfl rfl ?_
  refine L_e (b := 111) (by decide) ?_
  refine L_s (pc' := 14) rfl rfl ?_
  refine L_e (b := 111) (by decide) ?_
  exact L_ret rfl (by decide) rfl
def jS_charAt_k1_c2  (g : Sg) : Option (Int32) :=
  (some 111)
theorem e_jS_charAt_k1_c2 {X : Xx} {d : Nat} (hd : 4 ≤ d)  (g : Sg) : ∀ r, jS_charAt_k1_c2  g = some r → EvM zft mtl X d 233 [.ref 1012, .int 1] (SHF, g) ((fun r : Int32 => ((some (.int r), (SHF, g)) : Out)) r) := by
  obtain ⟨d, rfl⟩ : ∃ d0, d = d0 + 1 := ⟨d - 1, by omega⟩
  have hd : 3 ≤ d := by omega
  refine E_in (f := (fun r : Int32 => ((some (.int r), (SHF, g)) : Out))) rfl (Nat.le_of_ble_eq_true rfl) ?_
  unfold jS_charAt_k1_c2
  change Lt X d (some .char) k_233 _ 0 [some (.ref 1012), some (.int 1)] [] g _
  refine L_s (pc' := 1) rfl rfl ?_
  refine L_kc (pc' := 4) (as := [.ref 1012]) (rest := []) rfl rfl ((e_jS_isLatin1_c2 (by omega) _) (1) rfl) rfl ?_
  refine L_bf (c := (1 : Int32) = 0) (t := 16) (n := 7) rfl rfl (by decide) ?_
  refine L_s (pc' := 8) rfl rfl ?_
  refine L_s (pc' := 11) (st' := [.ref 1032]) rfl rfl ?_
  refine L_s (pc' := 12) rfl rfl ?_
  refine L_kc (pc' := 15) (as := [.ref 1032, .int 1]) (rest := []) rfl rfl ((e_jL_charAt_k1_c2 (by omega) _) (111) rfl) rfl ?_
  exact L_ret rfl (by decide) rfl
def jL_charAt_k2_c1  (g : Sg) : Option (Int32) :=
  (some 116)
theorem e_jL_charAt_k2_c1 {X : Xx} {d : Nat} (hd : 3 ≤ d)  (g : Sg) : ∀ r, jL_charAt_k2_c1  g = some r → EvM zft mtl X d 237 [.ref 1032, .int 2] (SHF, g) ((fun r : Int32 => ((some (.int r), (SHF, g)) : Out)) r) := by
  obtain ⟨d, rfl⟩ : ∃ d0, d = d0 + 1 := ⟨d - 1, by omega⟩
  have hd : 2 ≤ d := by omega
  refine E_in (f := (fun r : Int32 => ((some (.int r), (SHF, g)) : Out))) rfl (Nat.le_of_ble_eq_true rfl) ?_
  unfold jL_charAt_k2_c1
  change Lt X d (some .char) k_237 _ 0 [some (.ref 1032), some (.int 2)] [] g _
  refine L_s (pc' := 1) rfl rfl ?_
  refine L_s (pc' := 2) rfl rfl ?_
  refine L_s (pc' := 3) (st' := [.int 3, .int 2]) rfl rfl ?_
  refine L_ku (pc' := 6) (as := [.int 2, .int 3]) (rest := []) rfl rfl ((e_jS_checkIndex_k2_3 (by omega) _) () rfl) rfl ?_
  refine L_s (pc' := 7) rfl rfl ?_
  refine L_s (pc' := 8) rfl rfl ?_
  refine L_xBk (pc' := 9) rfl (rfl : xsh X 1032 = _) (by decide) (by decide) (rfl : _ = (116 : Int32)) rfl ?_
  refine L_si (pc' := 12) rfl q3_255 rfl ?_
  refine L_s (pc' := 13) rfl rfl ?_
  refine L_e (b := 116) (by decide) ?_
  refine L_s (pc' := 14) rfl rfl ?_
  refine L_e (b := 116) (by decide) ?_
  exact L_ret rfl (by decide) rfl
def jS_charAt_k2_c1  (g : Sg) : Option (Int32) :=
  (some 116)
theorem e_jS_charAt_k2_c1 {X : Xx} {d : Nat} (hd : 4 ≤ d)  (g : Sg) : ∀ r, jS_charAt_k2_c1  g = some r → EvM zft mtl X d 233 [.ref 1012, .int 2] (SHF, g) ((fun r : Int32 => ((some (.int r), (SHF, g)) : Out)) r) := by
  obtain ⟨d, rfl⟩ : ∃ d0, d = d0 + 1 := ⟨d - 1, by omega⟩
  have hd : 3 ≤ d := by omega
  refine E_in (f := (fun r : Int32 => ((some (.int r), (SHF, g)) : Out))) rfl (Nat.le_of_ble_eq_true rfl) ?_
  unfold jS_charAt_k2_c1
  change Lt X d (some .char) k_233 _ 0 [some (.ref 1012), some (.int 2)] [] g _
  refine L_s (pc' := 1) rfl rfl ?_
  refine L_kc (pc' := 4) (as := [.ref 1012]) (rest := []) rfl rfl ((e_jS_isLatin1_c2 (by omega) _) (1) rfl) rfl ?_
  refine L_bf (c := (1 : Int32) = 0) (t := 16) (n := 7) rfl rfl (by decide) ?_
  refine L_s (pc' := 8) rfl rfl ?_
  refine L_s (pc' := 11) (st' := [.ref 1032]) rfl rfl ?_
  refine L_s (pc' := 12) rfl rfl ?_
  refine L_kc (pc' := 15) (as := [.ref 1032, .int 2]) (rest := []) rfl rfl ((e_jL_charAt_k2_c1 (by omega) _) (116) rfl) rfl ?_
  exact L_ret rfl (by decide) rfl
def tokens_isWord_c2 (v1 : Int32) (v2 : Int32) (g : Sg) : Option (Int32) :=
  (if ¬ (v2 - v1) = 3 then
    (some 0)
  else
    (if v1 < 0 then
      (some 0)
    else
      (if v2 ≤ 500 then
        (if inb (v1 + 0) 500 = true then (if (g 32 (Int32.toNatClampNeg (v1 + 0))) = 110 then
          (if inb (v1 + 1) 500 = true then (if (g 32 (Int32.toNatClampNeg (v1 + 1))) = 111 then
            (if inb (v1 + 2) 500 = true then (if (g 32 (Int32.toNatClampNeg (v1 + 2))) = 116 then
              (some 1)
            else
              (some 0)) else none)
          else
            (some 0)) else none)
        else
          (some 0)) else none)
      else
        (some 0))))
theorem e_tokens_isWord_c2 {X : Xx} {d : Nat} (hd : 5 ≤ d) (v1 : Int32) (v2 : Int32) (g : Sg) : ∀ r, tokens_isWord_c2 v1 v2 g = some r → EvM zft mtl X d 86 [.ref 32, .int v1, .int v2, .ref 1012] (SHF, g) ((fun r : Int32 => ((some (.int r), (SHF, g)) : Out)) r) := by
  obtain ⟨d, rfl⟩ : ∃ d0, d = d0 + 1 := ⟨d - 1, by omega⟩
  have hd : 4 ≤ d := by omega
  refine E_in (f := (fun r : Int32 => ((some (.int r), (SHF, g)) : Out))) rfl (Nat.le_of_ble_eq_true rfl) ?_
  unfold tokens_isWord_c2
  change Lt X d (some .boolean) k_86 _ 0 [some (.ref 32), some (.int v1), some (.int v2), some (.ref 1012), none] [] g _
  refine L_s (pc' := 1) rfl rfl ?_
  refine L_s (pc' := 2) rfl rfl ?_
  refine L_s (pc' := 3) rfl rfl ?_
  refine L_s (pc' := 4) rfl rfl ?_
  refine L_kc (pc' := 7) (as := [.ref 1012]) (rest := [.int (v2 - v1)]) rfl rfl ((e_jS_length_c2 (by omega) _) (3) rfl) rfl ?_
  refine L_br (t := 20) (n := 10) rfl rfl (fun _ => ?_) (fun _ => ?_)
  · refine L_ic (pc' := 21) rfl q1_0 rfl ?_
    exact L_ret rfl (ret_z (by decide)) rfl
  · refine L_s (pc' := 11) rfl rfl ?_
    refine L_br (t := 20) (n := 14) rfl rfl (fun _ => ?_) (fun _ => ?_)
    · refine L_ic (pc' := 21) rfl q1_0 rfl ?_
      exact L_ret rfl (ret_z (by decide)) rfl
    · refine L_s (pc' := 15) rfl rfl ?_
      refine L_s (pc' := 16) rfl rfl ?_
      refine L_s (pc' := 17) (st' := [.int 500, .int v2]) rfl rfl ?_
      refine L_br (t := 22) (n := 20) rfl rfl (fun _ => ?_) (fun _ => ?_)
      · refine L_ic (pc' := 23) rfl q1_0 rfl ?_
        refine L_s (pc' := 25) (L' := [some (.ref 32), some (.int v1), some (.int v2), some (.ref 1012), some (.int 0)]) rfl rfl ?_
        refine L_s (pc' := 27) rfl rfl ?_
        refine L_s (pc' := 28) rfl rfl ?_
        refine L_kc (pc' := 31) (as := [.ref 1012]) (rest := [.int 0]) rfl rfl ((e_jS_length_c2 (by omega) _) (3) rfl) rfl ?_
        refine L_bf (c := (3 : Int32) ≤ 0) (t := 57) (n := 34) rfl rfl (by decide) ?_
        refine L_s (pc' := 35) rfl rfl ?_
        refine L_s (pc' := 36) rfl rfl ?_
        refine L_s (pc' := 38) rfl rfl ?_
        refine L_s (pc' := 39) rfl rfl ?_
        refine L_rB (pc' := 40) rfl sh_32 (by decide) (by decide) rfl ?_
        refine L_s (pc' := 41) rfl rfl ?_
        refine L_s (pc' := 43) rfl rfl ?_
        refine L_kc (pc' := 46) (as := [.ref 1012, .int 0]) (rest := [.int (g 32 (Int32.toNatClampNeg (v1 + 0)))]) rfl rfl ((e_jS_charAt_k0_c2 (by omega) _) (110) rfl) rfl ?_
        refine L_br (t := 51) (n := 49) rfl rfl (fun _ => ?_) (fun _ => ?_)
        · refine L_ii (pc' := 54) (L' := [some (.ref 32), some (.int v1), some (.int v2), some (.ref 1012), some (.int 1)]) rfl rfl q1_1 (by decide : (0 : Int32) + 1 = 1) rfl rfl ?_
          refine L_s (pc' := 25) rfl rfl ?_
          refine L_s (pc' := 27) rfl rfl ?_
          refine L_s (pc' := 28) rfl rfl ?_
          refine L_kc (pc' := 31) (as := [.ref 1012]) (rest := [.int 1]) rfl rfl ((e_jS_length_c2 (by omega) _) (3) rfl) rfl ?_
          refine L_bf (c := (3 : Int32) ≤ 1) (t := 57) (n := 34) rfl rfl (by decide) ?_
          refine L_s (pc' := 35) rfl rfl ?_
          refine L_s (pc' := 36) rfl rfl ?_
          refine L_s (pc' := 38) rfl rfl ?_
          refine L_s (pc' := 39) rfl rfl ?_
          refine L_rB (pc' := 40) rfl sh_32 (by decide) (by decide) rfl ?_
          refine L_s (pc' := 41) rfl rfl ?_
          refine L_s (pc' := 43) rfl rfl ?_
          refine L_kc (pc' := 46) (as := [.ref 1012, .int 1]) (rest := [.int (g 32 (Int32.toNatClampNeg (v1 + 1)))]) rfl rfl ((e_jS_charAt_k1_c2 (by omega) _) (111) rfl) rfl ?_
          refine L_br (t := 51) (n := 49) rfl rfl (fun _ => ?_) (fun _ => ?_)
          · refine L_ii (pc' := 54) (L' := [some (.ref 32), some (.int v1), some (.int v2), some (.ref 1012), some (.int 2)]) rfl rfl q1_1 (by decide : (1 : Int32) + 1 = 2) rfl rfl ?_
            refine L_s (pc' := 25) rfl rfl ?_
            refine L_s (pc' := 27) rfl rfl ?_
            refine L_s (pc' := 28) rfl rfl ?_
            refine L_kc (pc' := 31) (as := [.ref 1012]) (rest := [.int 2]) rfl rfl ((e_jS_length_c2 (by omega) _) (3) rfl) rfl ?_
            refine L_bf (c := (3 : Int32) ≤ 2) (t := 57) (n := 34) rfl rfl (by decide) ?_
            refine L_s (pc' := 35) rfl rfl ?_
            refine L_s (pc' := 36) rfl rfl ?_
            refine L_s (pc' := 38) rfl rfl ?_
            refine L_s (pc' := 39) rfl rfl ?_
            refine L_rB (pc' := 40) rfl sh_32 (by decide) (by decide) rfl ?_
            refine L_s (pc' := 41) rfl rfl ?_
            refine L_s (pc' := 43) rfl rfl ?_
            refine L_kc (pc' := 46) (as := [.ref 1012, .int 2]) (rest := [.int (g 32 (Int32.toNatClampNeg (v1 + 2)))]) rfl rfl ((e_jS_charAt_k2_c1 (by omega) _) (116) rfl) rfl ?_
            refine L_br (t := 51) (n := 49) rfl rfl (fun _ => ?_) (fun _ => ?_)
            · refine L_ii (pc' := 54) (L' := [some (.ref 32), some (.int v1), some (.int v2), some (.ref 1012), some (.int 3)]) rfl rfl q1_1 (by decide : (2 : Int32) + 1 = 3) rfl rfl ?_
              refine L_s (pc' := 25) rfl rfl ?_
              refine L_s (pc' := 27) rfl rfl ?_
              refine L_s (pc' := 28) rfl rfl ?_
              refine L_kc (pc' := 31) (as := [.ref 1012]) (rest := [.int 3]) rfl rfl ((e_jS_length_c2 (by omega) _) (3) rfl) rfl ?_
              refine L_bt (c := (3 : Int32) ≤ 3) (t := 57) (n := 34) rfl rfl (by decide) ?_
              refine L_ic (pc' := 58) rfl q1_1 rfl ?_
              exact L_ret rfl (ret_z (by decide)) rfl
            · refine L_ic (pc' := 50) rfl q1_0 rfl ?_
              exact L_ret rfl (ret_z (by decide)) rfl
          · refine L_ic (pc' := 50) rfl q1_0 rfl ?_
            exact L_ret rfl (ret_z (by decide)) rfl
        · refine L_ic (pc' := 50) rfl q1_0 rfl ?_
          exact L_ret rfl (ret_z (by decide)) rfl
      · refine L_ic (pc' := 21) rfl q1_0 rfl ?_
        exact L_ret rfl (ret_z (by decide)) rfl
def tokens_textOf_k4  (g : Sg) : Option (Nat) :=
  (some 1013)
theorem e_tokens_textOf_k4 {X : Xx} {d : Nat} (hd : 1 ≤ d)  (g : Sg) : ∀ r, tokens_textOf_k4  g = some r → EvM zft mtl X d 85 [.int 4] (SHF, g) ((fun r : Nat => ((some (.ref r), (SHF, g)) : Out)) r) := by
  obtain ⟨d, rfl⟩ : ∃ d0, d = d0 + 1 := ⟨d - 1, by omega⟩
  have hd : 0 ≤ d := by omega
  refine E_in (f := (fun r : Nat => ((some (.ref r), (SHF, g)) : Out))) rfl (Nat.le_of_ble_eq_true rfl) ?_
  unfold tokens_textOf_k4
  change Lt X d (some (.object "java/lang/String")) k_85 _ 0 [some (.int 4)] [] g _
  refine L_s (pc' := 1) rfl rfl ?_
  refine L_ts (t := 69) (off := 68) rfl (by decide) rfl ?_
  refine L_s (pc' := 71) rfl rfl ?_
  exact L_ret rfl rfl rfl
def jS_coder_c3  (g : Sg) : Option (Int32) :=
  (some 0)
theorem e_jS_coder_c3 {X : Xx} {d : Nat} (hd : 1 ≤ d)  (g : Sg) : ∀ r, jS_coder_c3  g = some r → EvM zft mtl X d 234 [.ref 1013] (SHF, g) ((fun r : Int32 => ((some (.int r), (SHF, g)) : Out)) r) := by
  obtain ⟨d, rfl⟩ : ∃ d0, d = d0 + 1 := ⟨d - 1, by omega⟩
  have hd : 0 ≤ d := by omega
  refine E_in (f := (fun r : Int32 => ((some (.int r), (SHF, g)) : Out))) rfl (Nat.le_of_ble_eq_true rfl) ?_
  unfold jS_coder_c3
  change Lt X d (some .byte) k_234 _ 0 [some (.ref 1013)] [] g _
  refine L_s (pc' := 3) rfl rfl ?_
  refine L_bf (c := (1 : Int32) = 0) (t := 13) (n := 6) rfl rfl (by decide) ?_
  refine L_s (pc' := 7) rfl rfl ?_
  refine L_s (pc' := 10) (st' := [.int 0]) rfl rfl ?_
  refine L_s (pc' := 14) rfl rfl ?_
  exact L_ret rfl (by decide) rfl
def jS_length_c3  (g : Sg) : Option (Int32) :=
  (some 6)
theorem e_jS_length_c3 {X : Xx} {d : Nat} (hd : 2 ≤ d)  (g : Sg) : ∀ r, jS_length_c3  g = some r → EvM zft mtl X d 232 [.ref 1013] (SHF, g) ((fun r : Int32 => ((some (.int r), (SHF, g)) : Out)) r) := by
  obtain ⟨d, rfl⟩ : ∃ d0, d = d0 + 1 := ⟨d - 1, by omega⟩
  have hd : 1 ≤ d := by omega
  refine E_in (f := (fun r : Int32 => ((some (.int r), (SHF, g)) : Out))) rfl (Nat.le_of_ble_eq_true rfl) ?_
  unfold jS_length_c3
  change Lt X d (some .int) k_232 _ 0 [some (.ref 1013)] [] g _
  refine L_s (pc' := 1) rfl rfl ?_
  refine L_s (pc' := 4) (st' := [.ref 1033]) rfl rfl ?_
  refine L_s (pc' := 5) (st' := [.int 6]) rfl rfl ?_
  refine L_s (pc' := 6) rfl rfl ?_
  refine L_kc (pc' := 9) (as := [.ref 1013]) (rest := [.int 6]) rfl rfl ((e_jS_coder_c3 (by omega) _) (0) rfl) rfl ?_
  refine L_s (pc' := 10) rfl rfl ?_
  refine L_e (b := 6) (by decide) ?_
  exact L_ret rfl ret_i rfl
def jS_isLatin1_c3  (g : Sg) : Option (Int32) :=
  (some 1)
theorem e_jS_isLatin1_c3 {X : Xx} {d : Nat} (hd : 1 ≤ d)  (g : Sg) : ∀ r, jS_isLatin1_c3  g = some r → EvM zft mtl X d 235 [.ref 1013] (SHF, g) ((fun r : Int32 => ((some (.int r), (SHF, g)) : Out)) r) := by
  obtain ⟨d, rfl⟩ : ∃ d0, d = d0 + 1 := ⟨d - 1, by omega⟩
  have hd : 0 ≤ d := by omega
  refine E_in (f := (fun r : Int32 => ((some (.int r), (SHF, g)) : Out))) rfl (Nat.le_of_ble_eq_true rfl) ?_
  unfold jS_isLatin1_c3
  change Lt X d (some .boolean) k_235 _ 0 [some (.ref 1013)] [] g _
  refine L_s (pc' := 3) rfl rfl ?_
  refine L_bf (c := (1 : Int32) = 0) (t := 17) (n := 6) rfl rfl (by decide) ?_
  refine L_s (pc' := 7) rfl rfl ?_
  refine L_s (pc' := 10) (st' := [.int 0]) rfl rfl ?_
  refine L_bf (c := ¬ (0 : Int32) = 0) (t := 17) (n := 13) rfl rfl (by decide) ?_
  refine L_ic (pc' := 14) rfl q1_1 rfl ?_
  refine L_s (pc' := 18) rfl rfl ?_
  exact L_ret rfl (ret_z (by decide)) rfl
def jP_checkIndex_k0_6  (g : Sg) : Option (Int32) :=
  (some 0)
theorem e_jP_checkIndex_k0_6 {X : Xx} {d : Nat} (hd : 1 ≤ d)  (g : Sg) : ∀ r, jP_checkIndex_k0_6  g = some r → EvM zft mtl X d 239 [.int 0, .int 6, .null] (SHF, g) ((fun r : Int32 => ((some (.int r), (SHF, g)) : Out)) r) := by
  obtain ⟨d, rfl⟩ : ∃ d0, d = d0 + 1 := ⟨d - 1, by omega⟩
  have hd : 0 ≤ d := by omega
  refine E_in (f := (fun r : Int32 => ((some (.int r), (SHF, g)) : Out))) rfl (Nat.le_of_ble_eq_true rfl) ?_
  unfold jP_checkIndex_k0_6
  change Lt X d (some .int) k_239 _ 0 [some (.int 0), some (.int 6), some (.null)] [] g _
  refine L_s (pc' := 1) rfl rfl ?_
  refine L_bf (c := (0 : Int32) < 0) (t := 9) (n := 4) rfl rfl (by decide) ?_
  refine L_s (pc' := 5) rfl rfl ?_
  refine L_s (pc' := 6) rfl rfl ?_
  refine L_bt (c := (0 : Int32) < 6) (t := 16) (n := 9) rfl rfl (by decide) ?_
  refine L_s (pc' := 17) rfl rfl ?_
  exact L_ret rfl ret_i rfl
def jP_checkIndex_k0_6_c1  (g : Sg) : Option (Int32) :=
  (some 0)
theorem e_jP_checkIndex_k0_6_c1 {X : Xx} {d : Nat} (hd : 1 ≤ d)  (g : Sg) : ∀ r, jP_checkIndex_k0_6_c1  g = some r → EvM zft mtl X d 239 [.int 0, .int 6, .ref 1100] (SHF, g) ((fun r : Int32 => ((some (.int r), (SHF, g)) : Out)) r) := by
  obtain ⟨d, rfl⟩ : ∃ d0, d = d0 + 1 := ⟨d - 1, by omega⟩
  have hd : 0 ≤ d := by omega
  refine E_in (f := (fun r : Int32 => ((some (.int r), (SHF, g)) : Out))) rfl (Nat.le_of_ble_eq_true rfl) ?_
  unfold jP_checkIndex_k0_6_c1
  change Lt X d (some .int) k_239 _ 0 [some (.int 0), some (.int 6), some (.ref 1100)] [] g _
  refine L_s (pc' := 1) rfl rfl ?_
  refine L_bf (c := (0 : Int32) < 0) (t := 9) (n := 4) rfl rfl (by decide) ?_
  refine L_s (pc' := 5) rfl rfl ?_
  refine L_s (pc' := 6) rfl rfl ?_
  refine L_bt (c := (0 : Int32) < 6) (t := 16) (n := 9) rfl rfl (by decide) ?_
  refine L_s (pc' := 17) rfl rfl ?_
  exact L_ret rfl ret_i rfl
def jS_checkIndex_k0_6  (g : Sg) : Option (Unit) :=
  (some ())
theorem e_jS_checkIndex_k0_6 {X : Xx} {d : Nat} (hd : 2 ≤ d)  (g : Sg) : ∀ r, jS_checkIndex_k0_6  g = some r → EvM zft mtl X d 236 [.int 0, .int 6] (SHF, g) ((fun r : Unit => ((none, (SHF, g)) : Out)) r) := by
  obtain ⟨d, rfl⟩ : ∃ d0, d = d0 + 1 := ⟨d - 1, by omega⟩
  have hd : 1 ≤ d := by omega
  refine E_in (f := (fun r : Unit => ((none, (SHF, g)) : Out))) rfl (Nat.le_of_ble_eq_true rfl) ?_
  unfold jS_checkIndex_k0_6
  change Lt X d none k_236 _ 0 [some (.int 0), some (.int 6)] [] g _
  refine L_s (pc' := 1) rfl rfl ?_
  refine L_s (pc' := 2) rfl rfl ?_
  refine L_x3 (pc' := 5) rfl rfl (fun _ => ?_) (fun _ => ?_)
  · refine L_kc (pc' := 8) (as := [.int 0, .int 6, .null]) (rest := []) rfl rfl ((e_jP_checkIndex_k0_6 (by omega) _) (0) rfl) rfl ?_
    refine L_s (pc' := 9) rfl rfl ?_
    exact L_ret rfl rfl rfl
  · refine L_kc (pc' := 8) (as := [.int 0, .int 6, .ref 1100]) (rest := []) rfl rfl ((e_jP_checkIndex_k0_6_c1 (by omega) _) (0) rfl) rfl ?_
    refine L_s (pc' := 9) rfl rfl ?_
    exact L_ret rfl rfl rfl
def jL_charAt_k0_c3  (g : Sg) : Option (Int32) :=
  (some 119)
theorem e_jL_charAt_k0_c3 {X : Xx} {d : Nat} (hd : 3 ≤ d)  (g : Sg) : ∀ r, jL_charAt_k0_c3  g = some r → EvM zft mtl X d 237 [.ref 1033, .int 0] (SHF, g) ((fun r : Int32 => ((some (.int r), (SHF, g)) : Out)) r) := by
  obtain ⟨d, rfl⟩ : ∃ d0, d = d0 + 1 := ⟨d - 1, by omega⟩
  have hd : 2 ≤ d := by omega
  refine E_in (f := (fun r : Int32 => ((some (.int r), (SHF, g)) : Out))) rfl (Nat.le_of_ble_eq_true rfl) ?_
  unfold jL_charAt_k0_c3
  change Lt X d (some .char) k_237 _ 0 [some (.ref 1033), some (.int 0)] [] g _
  refine L_s (pc' := 1) rfl rfl ?_
  refine L_s (pc' := 2) rfl rfl ?_
  refine L_s (pc' := 3) (st' := [.int 6, .int 0]) rfl rfl ?_
  refine L_ku (pc' := 6) (as := [.int 0, .int 6]) (rest := []) rfl rfl ((e_jS_checkIndex_k0_6 (by omega) _) () rfl) rfl ?_
  refine L_s (pc' := 7) rfl rfl ?_
  refine L_s (pc' := 8) rfl rfl ?_
  refine L_xBk (pc' := 9) rfl (rfl : xsh X 1033 = _) (by decide) (by decide) (rfl : _ = (119 : Int32)) rfl ?_
  refine L_si (pc' := 12) rfl q3_255 rfl ?_
  refine L_s (pc' := 13) rfl rfl ?_
  refine L_e (b := 119) (by decide) ?_
  refine L_s (pc' := 14) rfl rfl ?_
  refine L_e (b := 119) (by decide) ?_
  exact L_ret rfl (by decide) rfl
def jS_charAt_k0_c3  (g : Sg) : Option (Int32) :=
  (some 119)
theorem e_jS_charAt_k0_c3 {X : Xx} {d : Nat} (hd : 4 ≤ d)  (g : Sg) : ∀ r, jS_charAt_k0_c3  g = some r → EvM zft mtl X d 233 [.ref 1013, .int 0] (SHF, g) ((fun r : Int32 => ((some (.int r), (SHF, g)) : Out)) r) := by
  obtain ⟨d, rfl⟩ : ∃ d0, d = d0 + 1 := ⟨d - 1, by omega⟩
  have hd : 3 ≤ d := by omega
  refine E_in (f := (fun r : Int32 => ((some (.int r), (SHF, g)) : Out))) rfl (Nat.le_of_ble_eq_true rfl) ?_
  unfold jS_charAt_k0_c3
  change Lt X d (some .char) k_233 _ 0 [some (.ref 1013), some (.int 0)] [] g _
  refine L_s (pc' := 1) rfl rfl ?_
  refine L_kc (pc' := 4) (as := [.ref 1013]) (rest := []) rfl rfl ((e_jS_isLatin1_c3 (by omega) _) (1) rfl) rfl ?_
  refine L_bf (c := (1 : Int32) = 0) (t := 16) (n := 7) rfl rfl (by decide) ?_
  refine L_s (pc' := 8) rfl rfl ?_
  refine L_s (pc' := 11) (st' := [.ref 1033]) rfl rfl ?_
  refine L_s (pc' := 12) rfl rfl ?_
  refine L_kc (pc' := 15) (as := [.ref 1033, .int 0]) (rest := []) rfl rfl ((e_jL_charAt_k0_c3 (by omega) _) (119) rfl) rfl ?_
  exact L_ret rfl (by decide) rfl
def jP_checkIndex_k1_6  (g : Sg) : Option (Int32) :=
  (some 1)
theorem e_jP_checkIndex_k1_6 {X : Xx} {d : Nat} (hd : 1 ≤ d)  (g : Sg) : ∀ r, jP_checkIndex_k1_6  g = some r → EvM zft mtl X d 239 [.int 1, .int 6, .null] (SHF, g) ((fun r : Int32 => ((some (.int r), (SHF, g)) : Out)) r) := by
  obtain ⟨d, rfl⟩ : ∃ d0, d = d0 + 1 := ⟨d - 1, by omega⟩
  have hd : 0 ≤ d := by omega
  refine E_in (f := (fun r : Int32 => ((some (.int r), (SHF, g)) : Out))) rfl (Nat.le_of_ble_eq_true rfl) ?_
  unfold jP_checkIndex_k1_6
  change Lt X d (some .int) k_239 _ 0 [some (.int 1), some (.int 6), some (.null)] [] g _
  refine L_s (pc' := 1) rfl rfl ?_
  refine L_bf (c := (1 : Int32) < 0) (t := 9) (n := 4) rfl rfl (by decide) ?_
  refine L_s (pc' := 5) rfl rfl ?_
  refine L_s (pc' := 6) rfl rfl ?_
  refine L_bt (c := (1 : Int32) < 6) (t := 16) (n := 9) rfl rfl (by decide) ?_
  refine L_s (pc' := 17) rfl rfl ?_
  exact L_ret rfl ret_i rfl
def jP_checkIndex_k1_6_c1  (g : Sg) : Option (Int32) :=
  (some 1)
theorem e_jP_checkIndex_k1_6_c1 {X : Xx} {d : Nat} (hd : 1 ≤ d)  (g : Sg) : ∀ r, jP_checkIndex_k1_6_c1  g = some r → EvM zft mtl X d 239 [.int 1, .int 6, .ref 1100] (SHF, g) ((fun r : Int32 => ((some (.int r), (SHF, g)) : Out)) r) := by
  obtain ⟨d, rfl⟩ : ∃ d0, d = d0 + 1 := ⟨d - 1, by omega⟩
  have hd : 0 ≤ d := by omega
  refine E_in (f := (fun r : Int32 => ((some (.int r), (SHF, g)) : Out))) rfl (Nat.le_of_ble_eq_true rfl) ?_
  unfold jP_checkIndex_k1_6_c1
  change Lt X d (some .int) k_239 _ 0 [some (.int 1), some (.int 6), some (.ref 1100)] [] g _
  refine L_s (pc' := 1) rfl rfl ?_
  refine L_bf (c := (1 : Int32) < 0) (t := 9) (n := 4) rfl rfl (by decide) ?_
  refine L_s (pc' := 5) rfl rfl ?_
  refine L_s (pc' := 6) rfl rfl ?_
  refine L_bt (c := (1 : Int32) < 6) (t := 16) (n := 9) rfl rfl (by decide) ?_
  refine L_s (pc' := 17) rfl rfl ?_
  exact L_ret rfl ret_i rfl
def jS_checkIndex_k1_6  (g : Sg) : Option (Unit) :=
  (some ())
theorem e_jS_checkIndex_k1_6 {X : Xx} {d : Nat} (hd : 2 ≤ d)  (g : Sg) : ∀ r, jS_checkIndex_k1_6  g = some r → EvM zft mtl X d 236 [.int 1, .int 6] (SHF, g) ((fun r : Unit => ((none, (SHF, g)) : Out)) r) := by
  obtain ⟨d, rfl⟩ : ∃ d0, d = d0 + 1 := ⟨d - 1, by omega⟩
  have hd : 1 ≤ d := by omega
  refine E_in (f := (fun r : Unit => ((none, (SHF, g)) : Out))) rfl (Nat.le_of_ble_eq_true rfl) ?_
  unfold jS_checkIndex_k1_6
  change Lt X d none k_236 _ 0 [some (.int 1), some (.int 6)] [] g _
  refine L_s (pc' := 1) rfl rfl ?_
  refine L_s (pc' := 2) rfl rfl ?_
  refine L_x3 (pc' := 5) rfl rfl (fun _ => ?_) (fun _ => ?_)
  · refine L_kc (pc' := 8) (as := [.int 1, .int 6, .null]) (rest := []) rfl rfl ((e_jP_checkIndex_k1_6 (by omega) _) (1) rfl) rfl ?_
    refine L_s (pc' := 9) rfl rfl ?_
    exact L_ret rfl rfl rfl
  · refine L_kc (pc' := 8) (as := [.int 1, .int 6, .ref 1100]) (rest := []) rfl rfl ((e_jP_checkIndex_k1_6_c1 (by omega) _) (1) rfl) rfl ?_
    refine L_s (pc' := 9) rfl rfl ?_
    exact L_ret rfl rfl rfl
def jL_charAt_k1_c3  (g : Sg) : Option (Int32) :=
  (some 101)
theorem e_jL_charAt_k1_c3 {X : Xx} {d : Nat} (hd : 3 ≤ d)  (g : Sg) : ∀ r, jL_charAt_k1_c3  g = some r → EvM zft mtl X d 237 [.ref 1033, .int 1] (SHF, g) ((fun r : Int32 => ((some (.int r), (SHF, g)) : Out)) r) := by
  obtain ⟨d, rfl⟩ : ∃ d0, d = d0 + 1 := ⟨d - 1, by omega⟩
  have hd : 2 ≤ d := by omega
  refine E_in (f := (fun r : Int32 => ((some (.int r), (SHF, g)) : Out))) rfl (Nat.le_of_ble_eq_true rfl) ?_
  unfold jL_charAt_k1_c3
  change Lt X d (some .char) k_237 _ 0 [some (.ref 1033), some (.int 1)] [] g _
  refine L_s (pc' := 1) rfl rfl ?_
  refine L_s (pc' := 2) rfl rfl ?_
  refine L_s (pc' := 3) (st' := [.int 6, .int 1]) rfl rfl ?_
  refine L_ku (pc' := 6) (as := [.int 1, .int 6]) (rest := []) rfl rfl ((e_jS_checkIndex_k1_6 (by omega) _) () rfl) rfl ?_
  refine L_s (pc' := 7) rfl rfl ?_
  refine L_s (pc' := 8) rfl rfl ?_
  refine L_xBk (pc' := 9) rfl (rfl : xsh X 1033 = _) (by decide) (by decide) (rfl : _ = (101 : Int32)) rfl ?_
  refine L_si (pc' := 12) rfl q3_255 rfl ?_
  refine L_s (pc' := 13) rfl rfl ?_
  refine L_e (b := 101) (by decide) ?_
  refine L_s (pc' := 14) rfl rfl ?_
  refine L_e (b := 101) (by decide) ?_
  exact L_ret rfl (by decide) rfl
def jS_charAt_k1_c3  (g : Sg) : Option (Int32) :=
  (some 101)
theorem e_jS_charAt_k1_c3 {X : Xx} {d : Nat} (hd : 4 ≤ d)  (g : Sg) : ∀ r, jS_charAt_k1_c3  g = some r → EvM zft mtl X d 233 [.ref 1013, .int 1] (SHF, g) ((fun r : Int32 => ((some (.int r), (SHF, g)) : Out)) r) := by
  obtain ⟨d, rfl⟩ : ∃ d0, d = d0 + 1 := ⟨d - 1, by omega⟩
  have hd : 3 ≤ d := by omega
  refine E_in (f := (fun r : Int32 => ((some (.int r), (SHF, g)) : Out))) rfl (Nat.le_of_ble_eq_true rfl) ?_
  unfold jS_charAt_k1_c3
  change Lt X d (some .char) k_233 _ 0 [some (.ref 1013), some (.int 1)] [] g _
  refine L_s (pc' := 1) rfl rfl ?_
  refine L_kc (pc' := 4) (as := [.ref 1013]) (rest := []) rfl rfl ((e_jS_isLatin1_c3 (by omega) _) (1) rfl) rfl ?_
  refine L_bf (c := (1 : Int32) = 0) (t := 16) (n := 7) rfl rfl (by decide) ?_
  refine L_s (pc' := 8) rfl rfl ?_
  refine L_s (pc' := 11) (st' := [.ref 1033]) rfl rfl ?_
  refine L_s (pc' := 12) rfl rfl ?_
  refine L_kc (pc' := 15) (as := [.ref 1033, .int 1]) (rest := []) rfl rfl ((e_jL_charAt_k1_c3 (by omega) _) (101) rfl) rfl ?_
  exact L_ret rfl (by decide) rfl
def jP_checkIndex_k2_6  (g : Sg) : Option (Int32) :=
  (some 2)
theorem e_jP_checkIndex_k2_6 {X : Xx} {d : Nat} (hd : 1 ≤ d)  (g : Sg) : ∀ r, jP_checkIndex_k2_6  g = some r → EvM zft mtl X d 239 [.int 2, .int 6, .null] (SHF, g) ((fun r : Int32 => ((some (.int r), (SHF, g)) : Out)) r) := by
  obtain ⟨d, rfl⟩ : ∃ d0, d = d0 + 1 := ⟨d - 1, by omega⟩
  have hd : 0 ≤ d := by omega
  refine E_in (f := (fun r : Int32 => ((some (.int r), (SHF, g)) : Out))) rfl (Nat.le_of_ble_eq_true rfl) ?_
  unfold jP_checkIndex_k2_6
  change Lt X d (some .int) k_239 _ 0 [some (.int 2), some (.int 6), some (.null)] [] g _
  refine L_s (pc' := 1) rfl rfl ?_
  refine L_bf (c := (2 : Int32) < 0) (t := 9) (n := 4) rfl rfl (by decide) ?_
  refine L_s (pc' := 5) rfl rfl ?_
  refine L_s (pc' := 6) rfl rfl ?_
  refine L_bt (c := (2 : Int32) < 6) (t := 16) (n := 9) rfl rfl (by decide) ?_
  refine L_s (pc' := 17) rfl rfl ?_
  exact L_ret rfl ret_i rfl
def jP_checkIndex_k2_6_c1  (g : Sg) : Option (Int32) :=
  (some 2)
theorem e_jP_checkIndex_k2_6_c1 {X : Xx} {d : Nat} (hd : 1 ≤ d)  (g : Sg) : ∀ r, jP_checkIndex_k2_6_c1  g = some r → EvM zft mtl X d 239 [.int 2, .int 6, .ref 1100] (SHF, g) ((fun r : Int32 => ((some (.int r), (SHF, g)) : Out)) r) := by
  obtain ⟨d, rfl⟩ : ∃ d0, d = d0 + 1 := ⟨d - 1, by omega⟩
  have hd : 0 ≤ d := by omega
  refine E_in (f := (fun r : Int32 => ((some (.int r), (SHF, g)) : Out))) rfl (Nat.le_of_ble_eq_true rfl) ?_
  unfold jP_checkIndex_k2_6_c1
  change Lt X d (some .int) k_239 _ 0 [some (.int 2), some (.int 6), some (.ref 1100)] [] g _
  refine L_s (pc' := 1) rfl rfl ?_
  refine L_bf (c := (2 : Int32) < 0) (t := 9) (n := 4) rfl rfl (by decide) ?_
  refine L_s (pc' := 5) rfl rfl ?_
  refine L_s (pc' := 6) rfl rfl ?_
  refine L_bt (c := (2 : Int32) < 6) (t := 16) (n := 9) rfl rfl (by decide) ?_
  refine L_s (pc' := 17) rfl rfl ?_
  exact L_ret rfl ret_i rfl
def jS_checkIndex_k2_6  (g : Sg) : Option (Unit) :=
  (some ())
theorem e_jS_checkIndex_k2_6 {X : Xx} {d : Nat} (hd : 2 ≤ d)  (g : Sg) : ∀ r, jS_checkIndex_k2_6  g = some r → EvM zft mtl X d 236 [.int 2, .int 6] (SHF, g) ((fun r : Unit => ((none, (SHF, g)) : Out)) r) := by
  obtain ⟨d, rfl⟩ : ∃ d0, d = d0 + 1 := ⟨d - 1, by omega⟩
  have hd : 1 ≤ d := by omega
  refine E_in (f := (fun r : Unit => ((none, (SHF, g)) : Out))) rfl (Nat.le_of_ble_eq_true rfl) ?_
  unfold jS_checkIndex_k2_6
  change Lt X d none k_236 _ 0 [some (.int 2), some (.int 6)] [] g _
  refine L_s (pc' := 1) rfl rfl ?_
  refine L_s (pc' := 2) rfl rfl ?_
  refine L_x3 (pc' := 5) rfl rfl (fun _ => ?_) (fun _ => ?_)
  · refine L_kc (pc' := 8) (as := [.int 2, .int 6, .null]) (rest := []) rfl rfl ((e_jP_checkIndex_k2_6 (by omega) _) (2) rfl) rfl ?_
    refine L_s (pc' := 9) rfl rfl ?_
    exact L_ret rfl rfl rfl
  · refine L_kc (pc' := 8) (as := [.int 2, .int 6, .ref 1100]) (rest := []) rfl rfl ((e_jP_checkIndex_k2_6_c1 (by omega) _) (2) rfl) rfl ?_
    refine L_s (pc' := 9) rfl rfl ?_
    exact L_ret rfl rfl rfl
def jL_charAt_k2_c2  (g : Sg) : Option (Int32) :=
  (some 105)
theorem e_jL_charAt_k2_c2 {X : Xx} {d : Nat} (hd : 3 ≤ d)  (g : Sg) : ∀ r, jL_charAt_k2_c2  g = some r → EvM zft mtl X d 237 [.ref 1033, .int 2] (SHF, g) ((fun r : Int32 => ((some (.int r), (SHF, g)) : Out)) r) := by
  obtain ⟨d, rfl⟩ : ∃ d0, d = d0 + 1 := ⟨d - 1, by omega⟩
  have hd : 2 ≤ d := by omega
  refine E_in (f := (fun r : Int32 => ((some (.int r), (SHF, g)) : Out))) rfl (Nat.le_of_ble_eq_true rfl) ?_
  unfold jL_charAt_k2_c2
  change Lt X d (some .char) k_237 _ 0 [some (.ref 1033), some (.int 2)] [] g _
  refine L_s (pc' := 1) rfl rfl ?_
  refine L_s (pc' := 2) rfl rfl ?_
  refine L_s (pc' := 3) (st' := [.int 6, .int 2]) rfl rfl ?_
  refine L_ku (pc' := 6) (as := [.int 2, .int 6]) (rest := []) rfl rfl ((e_jS_checkIndex_k2_6 (by omega) _) () rfl) rfl ?_
  refine L_s (pc' := 7) rfl rfl ?_
  refine L_s (pc' := 8) rfl rfl ?_
  refine L_xBk (pc' := 9) rfl (rfl : xsh X 1033 = _) (by decide) (by decide) (rfl : _ = (105 : Int32)) rfl ?_
  refine L_si (pc' := 12) rfl q3_255 rfl ?_
  refine L_s (pc' := 13) rfl rfl ?_
  refine L_e (b := 105) (by decide) ?_
  refine L_s (pc' := 14) rfl rfl ?_
  refine L_e (b := 105) (by decide) ?_
  exact L_ret rfl (by decide) rfl
def jS_charAt_k2_c2  (g : Sg) : Option (Int32) :=
  (some 105)
theorem e_jS_charAt_k2_c2 {X : Xx} {d : Nat} (hd : 4 ≤ d)  (g : Sg) : ∀ r, jS_charAt_k2_c2  g = some r → EvM zft mtl X d 233 [.ref 1013, .int 2] (SHF, g) ((fun r : Int32 => ((some (.int r), (SHF, g)) : Out)) r) := by
  obtain ⟨d, rfl⟩ : ∃ d0, d = d0 + 1 := ⟨d - 1, by omega⟩
  have hd : 3 ≤ d := by omega
  refine E_in (f := (fun r : Int32 => ((some (.int r), (SHF, g)) : Out))) rfl (Nat.le_of_ble_eq_true rfl) ?_
  unfold jS_charAt_k2_c2
  change Lt X d (some .char) k_233 _ 0 [some (.ref 1013), some (.int 2)] [] g _
  refine L_s (pc' := 1) rfl rfl ?_
  refine L_kc (pc' := 4) (as := [.ref 1013]) (rest := []) rfl rfl ((e_jS_isLatin1_c3 (by omega) _) (1) rfl) rfl ?_
  refine L_bf (c := (1 : Int32) = 0) (t := 16) (n := 7) rfl rfl (by decide) ?_
  refine L_s (pc' := 8) rfl rfl ?_
  refine L_s (pc' := 11) (st' := [.ref 1033]) rfl rfl ?_
  refine L_s (pc' := 12) rfl rfl ?_
  refine L_kc (pc' := 15) (as := [.ref 1033, .int 2]) (rest := []) rfl rfl ((e_jL_charAt_k2_c2 (by omega) _) (105) rfl) rfl ?_
  exact L_ret rfl (by decide) rfl
def jP_checkIndex_k3_6  (g : Sg) : Option (Int32) :=
  (some 3)
theorem e_jP_checkIndex_k3_6 {X : Xx} {d : Nat} (hd : 1 ≤ d)  (g : Sg) : ∀ r, jP_checkIndex_k3_6  g = some r → EvM zft mtl X d 239 [.int 3, .int 6, .null] (SHF, g) ((fun r : Int32 => ((some (.int r), (SHF, g)) : Out)) r) := by
  obtain ⟨d, rfl⟩ : ∃ d0, d = d0 + 1 := ⟨d - 1, by omega⟩
  have hd : 0 ≤ d := by omega
  refine E_in (f := (fun r : Int32 => ((some (.int r), (SHF, g)) : Out))) rfl (Nat.le_of_ble_eq_true rfl) ?_
  unfold jP_checkIndex_k3_6
  change Lt X d (some .int) k_239 _ 0 [some (.int 3), some (.int 6), some (.null)] [] g _
  refine L_s (pc' := 1) rfl rfl ?_
  refine L_bf (c := (3 : Int32) < 0) (t := 9) (n := 4) rfl rfl (by decide) ?_
  refine L_s (pc' := 5) rfl rfl ?_
  refine L_s (pc' := 6) rfl rfl ?_
  refine L_bt (c := (3 : Int32) < 6) (t := 16) (n := 9) rfl rfl (by decide) ?_
  refine L_s (pc' := 17) rfl rfl ?_
  exact L_ret rfl ret_i rfl
def jP_checkIndex_k3_6_c1  (g : Sg) : Option (Int32) :=
  (some 3)
theorem e_jP_checkIndex_k3_6_c1 {X : Xx} {d : Nat} (hd : 1 ≤ d)  (g : Sg) : ∀ r, jP_checkIndex_k3_6_c1  g = some r → EvM zft mtl X d 239 [.int 3, .int 6, .ref 1100] (SHF, g) ((fun r : Int32 => ((some (.int r), (SHF, g)) : Out)) r) := by
  obtain ⟨d, rfl⟩ : ∃ d0, d = d0 + 1 := ⟨d - 1, by omega⟩
  have hd : 0 ≤ d := by omega
  refine E_in (f := (fun r : Int32 => ((some (.int r), (SHF, g)) : Out))) rfl (Nat.le_of_ble_eq_true rfl) ?_
  unfold jP_checkIndex_k3_6_c1
  change Lt X d (some .int) k_239 _ 0 [some (.int 3), some (.int 6), some (.ref 1100)] [] g _
  refine L_s (pc' := 1) rfl rfl ?_
  refine L_bf (c := (3 : Int32) < 0) (t := 9) (n := 4) rfl rfl (by decide) ?_
  refine L_s (pc' := 5) rfl rfl ?_
  refine L_s (pc' := 6) rfl rfl ?_
  refine L_bt (c := (3 : Int32) < 6) (t := 16) (n := 9) rfl rfl (by decide) ?_
  refine L_s (pc' := 17) rfl rfl ?_
  exact L_ret rfl ret_i rfl
def jS_checkIndex_k3_6  (g : Sg) : Option (Unit) :=
  (some ())
theorem e_jS_checkIndex_k3_6 {X : Xx} {d : Nat} (hd : 2 ≤ d)  (g : Sg) : ∀ r, jS_checkIndex_k3_6  g = some r → EvM zft mtl X d 236 [.int 3, .int 6] (SHF, g) ((fun r : Unit => ((none, (SHF, g)) : Out)) r) := by
  obtain ⟨d, rfl⟩ : ∃ d0, d = d0 + 1 := ⟨d - 1, by omega⟩
  have hd : 1 ≤ d := by omega
  refine E_in (f := (fun r : Unit => ((none, (SHF, g)) : Out))) rfl (Nat.le_of_ble_eq_true rfl) ?_
  unfold jS_checkIndex_k3_6
  change Lt X d none k_236 _ 0 [some (.int 3), some (.int 6)] [] g _
  refine L_s (pc' := 1) rfl rfl ?_
  refine L_s (pc' := 2) rfl rfl ?_
  refine L_x3 (pc' := 5) rfl rfl (fun _ => ?_) (fun _ => ?_)
  · refine L_kc (pc' := 8) (as := [.int 3, .int 6, .null]) (rest := []) rfl rfl ((e_jP_checkIndex_k3_6 (by omega) _) (3) rfl) rfl ?_
    refine L_s (pc' := 9) rfl rfl ?_
    exact L_ret rfl rfl rfl
  · refine L_kc (pc' := 8) (as := [.int 3, .int 6, .ref 1100]) (rest := []) rfl rfl ((e_jP_checkIndex_k3_6_c1 (by omega) _) (3) rfl) rfl ?_
    refine L_s (pc' := 9) rfl rfl ?_
    exact L_ret rfl rfl rfl
