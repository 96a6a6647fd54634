/-! printed by wip/whole/decomp.py -/
def net_passTank_k0 (v2 : Int32) (v3 : Int32) (g : Sg) : Option (Sg) :=
  (if inb v2 10 = true then lt1 (((g 7 (Int32.toNatClampNeg v2)) + v3) : Int32) (fun x1 => (if inb v2 10 = true then lt1 ((if (g 4 (Int32.toNatClampNeg v2)) < x1 then (g 4 (Int32.toNatClampNeg v2)) else x1) : Int32) (fun x2 => Option.bind (net_outOf v2 x2 g) (fun x3 => lt1 (up2 g 19 0 ((g 19 0) + (x1 - x2))) (fun g4 => (if inb v2 10 = true then lt1 (up2 g4 7 (Int32.toNatClampNeg v2) (x2 - x3)) (fun g5 => (if inb v2 10 = true then Option.bind (net_send_k0 (g5 5 (Int32.toNatClampNeg v2)) x3 g5) (fun g6 => (some g6)) else none)) else none)))) else none)) else none)
theorem e_net_passTank_k0 {X : Xx} {d : Nat} (hd : 3 ≤ d) (v2 : Int32) (v3 : Int32) (g : Sg) : ∀ r, net_passTank_k0 v2 v3 g = some r → EvM zft mtl X d 36 [.ref 2, .int 0, .int v2, .int v3] (SHF, g) ((fun r : Sg => ((none, (SHF, r)) : Out)) r) := by
  obtain ⟨d, rfl⟩ : ∃ d0, d = d0 + 1 := ⟨d - 1, by omega⟩
  have hd : 2 ≤ d := by omega
  refine E_in (f := (fun r : Sg => ((none, (SHF, r)) : Out))) rfl (Nat.le_of_ble_eq_true rfl) ?_
  unfold net_passTank_k0
  change Lt X d none k_36 _ 0 [some (.ref 2), some (.int 0), some (.int v2), some (.int v3), none, none, none] [] g _
  refine L_s (pc' := 1) rfl rfl ?_
  refine L_gf (pc' := 4) rfl fr_2_5 rfl ?_
  refine L_s (pc' := 5) rfl rfl ?_
  refine L_aa (pc' := 6) rfl sh_6 (by decide) (by decide) rfl rfl ?_
  refine L_s (pc' := 7) rfl rfl ?_
  refine L_rI (pc' := 8) rfl sh_7 (by decide) rfl ?_
  refine L_s (pc' := 9) rfl rfl ?_
  refine L_s (pc' := 10) rfl rfl ?_
  refine L_li fun x1 _ => ?_
  refine L_s (pc' := 12) (L' := [some (.ref 2), some (.int 0), some (.int v2), some (.int v3), some (.int x1), none, none]) rfl rfl ?_
  refine L_s (pc' := 14) rfl rfl ?_
  refine L_s (pc' := 15) rfl rfl ?_
  refine L_gf (pc' := 18) rfl fr_2_3 rfl ?_
  refine L_s (pc' := 19) rfl rfl ?_
  refine L_rI (pc' := 20) rfl sh_4 (by decide) rfl ?_
  refine L_s (pc' := 23) rfl rfl ?_
  refine L_li fun x2 _ => ?_
  refine L_s (pc' := 25) (L' := [some (.ref 2), some (.int 0), some (.int v2), some (.int v3), some (.int x1), some (.int x2), none]) rfl rfl ?_
  refine L_s (pc' := 26) rfl rfl ?_
  refine L_s (pc' := 27) rfl rfl ?_
  refine L_s (pc' := 29) rfl rfl ?_
  refine L_ci (pc' := 32) (as := [.ref 2, .int v2, .int x2]) (rest := []) rfl rfl (e_net_outOf (by omega) _ _ _) rfl fun x3 => ?_
  refine L_s (pc' := 34) (L' := [some (.ref 2), some (.int 0), some (.int v2), some (.int v3), some (.int x1), some (.int x2), some (.int x3)]) rfl rfl ?_
  refine L_s (pc' := 35) rfl rfl ?_
  refine L_gf (pc' := 38) rfl fr_2_15 rfl ?_
  refine L_s (pc' := 39) rfl rfl ?_
  refine L_s (pc' := 40) rfl rfl ?_
  refine L_rIk (pc' := 41) (j := 0) rfl sh_19 (by decide) (by decide) (by decide) rfl ?_
  refine L_s (pc' := 43) rfl rfl ?_
  refine L_s (pc' := 45) rfl rfl ?_
  refine L_s (pc' := 46) rfl rfl ?_
  refine L_s (pc' := 47) rfl rfl ?_
  refine L_wIk (pc' := 48) (j := 0) rfl sh_19 (by decide) (by decide) (by decide) rfl ?_
  refine L_let fun g4 _ => ?_
  refine L_s (pc' := 49) rfl rfl ?_
  refine L_gf (pc' := 52) rfl fr_2_5 rfl ?_
  refine L_s (pc' := 53) rfl rfl ?_
  refine L_aa (pc' := 54) rfl sh_6 (by decide) (by decide) rfl rfl ?_
  refine L_s (pc' := 55) rfl rfl ?_
  refine L_s (pc' := 57) rfl rfl ?_
  refine L_s (pc' := 59) rfl rfl ?_
  refine L_s (pc' := 60) rfl rfl ?_
  refine L_wI (pc' := 61) rfl sh_7 (by decide) rfl ?_
  refine L_let fun g5 _ => ?_
  refine L_s (pc' := 62) rfl rfl ?_
  refine L_s (pc' := 63) rfl rfl ?_
  refine L_s (pc' := 64) rfl rfl ?_
  refine L_gf (pc' := 67) rfl fr_2_4 rfl ?_
  refine L_s (pc' := 68) rfl rfl ?_
  refine L_rI (pc' := 69) rfl sh_5 (by decide) rfl ?_
  refine L_s (pc' := 71) rfl rfl ?_
  refine L_cv (pc' := 74) (as := [.ref 2, .int 0, .int (g5 5 (Int32.toNatClampNeg v2)), .int x3]) (rest := []) rfl rfl (e_net_send_k0 (by omega) _ _ _) rfl fun g6 => ?_
  exact L_ret rfl rfl rfl
def net_passNode_k0 (F : Nat) (v2 : Int32) (g : Sg) : Option (Sg) :=
  Option.bind (net_takeArrivals_k0 F v2 g) (fun (x1, g2) => (if inb v2 10 = true then lt1 ((g2 3 (Int32.toNatClampNeg v2)) : Int32) (fun x3 => (if x3 = 0 then
    (if inb v2 10 = true then (if inb v2 10 = true then (if inb v2 10 = true then lt1 (up2 g2 7 (Int32.toNatClampNeg v2) ((g2 7 (Int32.toNatClampNeg v2)) + (g2 4 (Int32.toNatClampNeg v2)))) (fun g4 => (if inb v2 10 = true then Option.bind (net_passOn_k0 v2 (x1 + (g4 4 (Int32.toNatClampNeg v2))) g4) (fun g5 => (some g5)) else none)) else none) else none) else none)
  else (if x3 = 1 then
    Option.bind (net_passOn_k0 v2 x1 g2) (fun g7 => (some g7))
  else (if x3 = 2 then
    Option.bind (net_passTank_k0 v2 x1 g2) (fun g9 => (some g9))
  else (if x3 = 3 then
    (if inb v2 10 = true then Option.bind (net_outOf v2 x1 g2) (fun x11 => (if inb v2 10 = true then (if inb v2 10 = true then lt1 (up2 g2 7 (Int32.toNatClampNeg v2) ((g2 7 (Int32.toNatClampNeg v2)) + ((x11 * (g2 4 (Int32.toNatClampNeg v2))) / 100))) (fun g12 => Option.bind (net_passOn_k0 v2 x1 g12) (fun g13 => (some g13))) else none) else none)) else none)
  else (if x3 = 4 then
    (if inb v2 10 = true then (if inb v2 10 = true then lt1 (up2 g2 7 (Int32.toNatClampNeg v2) ((g2 7 (Int32.toNatClampNeg v2)) + x1)) (fun g15 => (some g15)) else none) else none)
  else Option.bind (net_passOn_k0 v2 x1 g2) (fun g17 => (some g17)))))))) else none))
theorem e_net_passNode_k0 {X : Xx} {d : Nat} (hd : 4 ≤ d) (F : Nat) (v2 : Int32) (g : Sg) : ∀ r, net_passNode_k0 F v2 g = some r → EvM zft mtl X d 35 [.ref 2, .int 0, .int v2] (SHF, g) ((fun r : Sg => ((none, (SHF, r)) : Out)) r) := by
  obtain ⟨d, rfl⟩ : ∃ d0, d = d0 + 1 := ⟨d - 1, by omega⟩
  have hd : 3 ≤ d := by omega
  refine E_in (f := (fun r : Sg => ((none, (SHF, r)) : Out))) rfl (Nat.le_of_ble_eq_true rfl) ?_
  unfold net_passNode_k0
  change Lt X d none k_35 _ 0 [some (.ref 2), some (.int 0), some (.int v2), none] [] g _
  refine L_s (pc' := 1) rfl rfl ?_
  refine L_s (pc' := 2) rfl rfl ?_
  refine L_s (pc' := 3) rfl rfl ?_
  refine L_cig (pc' := 6) (as := [.ref 2, .int 0, .int v2]) (rest := []) rfl rfl (e_net_takeArrivals_k0 (by omega) F _ _) rfl fun x1 g2 => ?_
  refine L_s (pc' := 7) (L' := [some (.ref 2), some (.int 0), some (.int v2), some (.int x1)]) rfl rfl ?_
  refine L_s (pc' := 8) rfl rfl ?_
  refine L_gf (pc' := 11) rfl fr_2_2 rfl ?_
  refine L_s (pc' := 12) rfl rfl ?_
  refine L_rI (pc' := 13) rfl sh_3 (by decide) rfl ?_
  refine L_li fun x3 _ => ?_
  refine L_if (fun h6 => ?_) (fun h6 => ?_)
  · subst h6
    refine L_ts (t := 73) (off := 60) rfl (by decide) rfl ?_
    refine L_s (pc' := 74) rfl rfl ?_
    refine L_gf (pc' := 77) rfl fr_2_5 rfl ?_
    refine L_s (pc' := 78) rfl rfl ?_
    refine L_aa (pc' := 79) rfl sh_6 (by decide) (by decide) rfl rfl ?_
    refine L_s (pc' := 80) rfl rfl ?_
    refine L_s (pc' := 81) rfl rfl ?_
    refine L_rI (pc' := 82) rfl sh_7 (by decide) rfl ?_
    refine L_s (pc' := 83) rfl rfl ?_
    refine L_gf (pc' := 86) rfl fr_2_3 rfl ?_
    refine L_s (pc' := 87) rfl rfl ?_
    refine L_rI (pc' := 88) rfl sh_4 (by decide) rfl ?_
    refine L_s (pc' := 89) rfl rfl ?_
    refine L_wI (pc' := 90) rfl sh_7 (by decide) rfl ?_
    refine L_let fun g4 _ => ?_
    refine L_s (pc' := 91) rfl rfl ?_
    refine L_s (pc' := 92) rfl rfl ?_
    refine L_s (pc' := 93) rfl rfl ?_
    refine L_s (pc' := 94) rfl rfl ?_
    refine L_s (pc' := 95) rfl rfl ?_
    refine L_gf (pc' := 98) rfl fr_2_3 rfl ?_
    refine L_s (pc' := 99) rfl rfl ?_
    refine L_rI (pc' := 100) rfl sh_4 (by decide) rfl ?_
    refine L_s (pc' := 101) rfl rfl ?_
    refine L_cv (pc' := 104) (as := [.ref 2, .int 0, .int v2, .int (x1 + (g4 4 (Int32.toNatClampNeg v2)))]) (rest := []) rfl rfl (e_net_passOn_k0 (by omega) _ _ _) rfl fun g5 => ?_
    refine L_s (pc' := 151) rfl rfl ?_
    exact L_ret rfl rfl rfl
  refine L_if (fun h8 => ?_) (fun h8 => ?_)
  · subst h8
    refine L_ts (t := 144) (off := 131) rfl (by decide) rfl ?_
    refine L_s (pc' := 145) rfl rfl ?_
    refine L_s (pc' := 146) rfl rfl ?_
    refine L_s (pc' := 147) rfl rfl ?_
    refine L_s (pc' := 148) rfl rfl ?_
    refine L_cv (pc' := 151) (as := [.ref 2, .int 0, .int v2, .int x1]) (rest := []) rfl rfl (e_net_passOn_k0 (by omega) _ _ _) rfl fun g7 => ?_
    exact L_ret rfl rfl rfl
  refine L_if (fun h10 => ?_) (fun h10 => ?_)
  · subst h10
    refine L_ts (t := 63) (off := 50) rfl (by decide) rfl ?_
    refine L_s (pc' := 64) rfl rfl ?_
    refine L_s (pc' := 65) rfl rfl ?_
    refine L_s (pc' := 66) rfl rfl ?_
    refine L_s (pc' := 67) rfl rfl ?_
    refine L_cv (pc' := 70) (as := [.ref 2, .int 0, .int v2, .int x1]) (rest := []) rfl rfl (e_net_passTank_k0 (by omega) _ _ _) rfl fun g9 => ?_
    refine L_s (pc' := 151) rfl rfl ?_
    exact L_ret rfl rfl rfl
  refine L_if (fun h14 => ?_) (fun h14 => ?_)
  · subst h14
    refine L_ts (t := 107) (off := 94) rfl (by decide) rfl ?_
    refine L_s (pc' := 108) rfl rfl ?_
    refine L_gf (pc' := 111) rfl fr_2_5 rfl ?_
    refine L_s (pc' := 112) rfl rfl ?_
    refine L_aa (pc' := 113) rfl sh_6 (by decide) (by decide) rfl rfl ?_
    refine L_s (pc' := 114) rfl rfl ?_
    refine L_s (pc' := 115) rfl rfl ?_
    refine L_rI (pc' := 116) rfl sh_7 (by decide) rfl ?_
    refine L_s (pc' := 117) rfl rfl ?_
    refine L_s (pc' := 118) rfl rfl ?_
    refine L_s (pc' := 119) rfl rfl ?_
    refine L_ci (pc' := 122) (as := [.ref 2, .int v2, .int x1]) (rest := [.int (g2 7 (Int32.toNatClampNeg v2)), .int v2, .ref 7]) rfl rfl (e_net_outOf (by omega) _ _ _) rfl fun x11 => ?_
    refine L_s (pc' := 123) rfl rfl ?_
    refine L_gf (pc' := 126) rfl fr_2_3 rfl ?_
    refine L_s (pc' := 127) rfl rfl ?_
    refine L_rI (pc' := 128) rfl sh_4 (by decide) rfl ?_
    refine L_s (pc' := 129) rfl rfl ?_
    refine L_bi (pc' := 131) rfl q2_100 rfl ?_
    refine L_dvk (pc' := 132) rfl (by decide) rfl ?_
    refine L_s (pc' := 133) rfl rfl ?_
    refine L_wI (pc' := 134) rfl sh_7 (by decide) rfl ?_
    refine L_let fun g12 _ => ?_
    refine L_s (pc' := 135) rfl rfl ?_
    refine L_s (pc' := 136) rfl rfl ?_
    refine L_s (pc' := 137) rfl rfl ?_
    refine L_s (pc' := 138) rfl rfl ?_
    refine L_cv (pc' := 141) (as := [.ref 2, .int 0, .int v2, .int x1]) (rest := []) rfl rfl (e_net_passOn_k0 (by omega) _ _ _) rfl fun g13 => ?_
    refine L_s (pc' := 151) rfl rfl ?_
    exact L_ret rfl rfl rfl
  refine L_if (fun h16 => ?_) (fun h16 => ?_)
  · subst h16
    refine L_ts (t := 48) (off := 35) rfl (by decide) rfl ?_
    refine L_s (pc' := 49) rfl rfl ?_
    refine L_gf (pc' := 52) rfl fr_2_5 rfl ?_
    refine L_s (pc' := 53) rfl rfl ?_
    refine L_aa (pc' := 54) rfl sh_6 (by decide) (by decide) rfl rfl ?_
    refine L_s (pc' := 55) rfl rfl ?_
    refine L_s (pc' := 56) rfl rfl ?_
    refine L_rI (pc' := 57) rfl sh_7 (by decide) rfl ?_
    refine L_s (pc' := 58) rfl rfl ?_
    refine L_s (pc' := 59) rfl rfl ?_
    refine L_wI (pc' := 60) rfl sh_7 (by decide) rfl ?_
    refine L_let fun g15 _ => ?_
    refine L_s (pc' := 151) rfl rfl ?_
    exact L_ret rfl rfl rfl
  refine L_ts (off := 131) (t := 144) rfl (twf_out (n := 5) (by decide) (by decide) (fun j hj => by
    match j, hj with
    | 0, _ => exact fun e => h6 (e.trans (by decide))
    | 1, _ => exact fun e => h8 (e.trans (by decide))
    | 2, _ => exact fun e => h10 (e.trans (by decide))
    | 3, _ => exact fun e => h14 (e.trans (by decide))
    | 4, _ => exact fun e => h16 (e.trans (by decide))
    | j + 5, hj => exact absurd hj (by omega))) rfl ?_
  refine L_s (pc' := 145) rfl rfl ?_
  refine L_s (pc' := 146) rfl rfl ?_
  refine L_s (pc' := 147) rfl rfl ?_
  refine L_s (pc' := 148) rfl rfl ?_
  refine L_cv (pc' := 151) (as := [.ref 2, .int 0, .int v2, .int x1]) (rest := []) rfl rfl (e_net_passOn_k0 (by omega) _ _ _) rfl fun g17 => ?_
  exact L_ret rfl rfl rfl
def net_passQuarter_9_2 (F : Nat) : Nat → Int32 → Sg → Option (Sg)
  | 0, _, _ => none
  | n + 1, v2, g =>
    (if (g 2 1) ≤ v2 then
      lt1 (up2 g 2 0 ((g 2 0) + 1)) (fun g1 => (some g1))
    else
      Option.bind (net_passNode_k1 F v2 g) (fun g2 => (net_passQuarter_9_2 F n (v2 + 1) g2)))
def net_passQuarter_9 (F : Nat) : Nat → Int32 → Sg → Option (Sg)
  | 0, _, _ => none
  | n + 1, v2, g =>
    (if (g 2 1) ≤ v2 then
      (net_passQuarter_9_2 F F 0 g)
    else
      Option.bind (net_passNode_k0 F v2 g) (fun g1 => (net_passQuarter_9 F n (v2 + 1) g1)))
def net_passQuarter (F : Nat)  (g : Sg) : Option (Sg) :=
  (net_passQuarter_9 F F 0 g)
theorem p_net_passQuarter_9_2 {X : Xx} {d : Nat} (hd : 4 ≤ d) (F : Nat) : ∀ (n : Nat) (v2 : Int32) (g : Sg), Lt X d none k_34 (fun r : Sg => ((none, (SHF, r)) : Out)) 9 [some (.ref 2), some (.int 1), some (.int v2)] [] g (net_passQuarter_9_2 F n v2 g) := by
  intro n
  induction n with
  | zero => intros; exact L_none
  | succ n ih =>
    intro v2 g
    show Lt X d none k_34 (fun r : Sg => ((none, (SHF, r)) : Out)) 9 [some (.ref 2), some (.int 1), some (.int v2)] [] g (
      (if (g 2 1) ≤ v2 then
        lt1 (up2 g 2 0 ((g 2 0) + 1)) (fun g1 => (some g1))
      else
        Option.bind (net_passNode_k1 F v2 g) (fun g2 => (net_passQuarter_9_2 F n (v2 + 1) g2))))
    refine L_s (pc' := 10) rfl rfl ?_
    refine L_s (pc' := 11) rfl rfl ?_
    refine L_gf (pc' := 14) rfl fi_2_1 rfl ?_
    refine L_br (t := 29) (n := 17) rfl rfl (fun _ => ?_) (fun _ => ?_)
    · refine L_ii (pc' := 32) (L' := [some (.ref 2), some (.int 2), some (.int v2)]) rfl rfl q1_1 (by decide : (1 : Int32) + 1 = 2) rfl rfl ?_
      refine L_s (pc' := 2) rfl rfl ?_
      refine L_s (pc' := 3) rfl rfl ?_
      refine L_ic (pc' := 4) rfl q1_2 rfl ?_
      refine L_bt (c := (2 : Int32) ≤ 2) (t := 35) (n := 7) rfl rfl (by decide) ?_
      refine L_s (pc' := 36) rfl rfl ?_
      refine L_s (pc' := 37) rfl rfl ?_
      refine L_gf (pc' := 40) rfl fi_2_0 rfl ?_
      refine L_ic (pc' := 41) rfl q1_1 rfl ?_
      refine L_s (pc' := 42) rfl rfl ?_
      refine L_pf (pc' := 45) rfl sh_2 (by decide) rfl rfl ?_
      refine L_let fun g1 _ => ?_
      exact L_ret rfl rfl rfl
    · refine L_s (pc' := 18) rfl rfl ?_
      refine L_s (pc' := 19) rfl rfl ?_
      refine L_s (pc' := 20) rfl rfl ?_
      refine L_cv (pc' := 23) (as := [.ref 2, .int 1, .int v2]) (rest := []) rfl rfl (e_net_passNode_k1 (by omega) F _ _) rfl fun g2 => ?_
      refine L_ii (pc' := 26) (L' := [some (.ref 2), some (.int 1), some (.int (v2 + 1))]) rfl rfl q1_1 rfl rfl rfl ?_
      refine L_s (pc' := 9) rfl rfl ?_
      exact ih _ _
theorem p_net_passQuarter_9 {X : Xx} {d : Nat} (hd : 4 ≤ d) (F : Nat) : ∀ (n : Nat) (v2 : Int32) (g : Sg), Lt X d none k_34 (fun r : Sg => ((none, (SHF, r)) : Out)) 9 [some (.ref 2), some (.int 0), some (.int v2)] [] g (net_passQuarter_9 F n v2 g) := by
  intro n
  induction n with
  | zero => intros; exact L_none
  | succ n ih =>
    intro v2 g
    show Lt X d none k_34 (fun r : Sg => ((none, (SHF, r)) : Out)) 9 [some (.ref 2), some (.int 0), some (.int v2)] [] g (
      (if (g 2 1) ≤ v2 then
        (net_passQuarter_9_2 F F 0 g)
      else
        Option.bind (net_passNode_k0 F v2 g) (fun g1 => (net_passQuarter_9 F n (v2 + 1) g1))))
    refine L_s (pc' := 10) rfl rfl ?_
    refine L_s (pc' := 11) rfl rfl ?_
    refine L_gf (pc' := 14) rfl fi_2_1 rfl ?_
    refine L_br (t := 29) (n := 17) rfl rfl (fun _ => ?_) (fun _ => ?_)
    · refine L_ii (pc' := 32) (L' := [some (.ref 2), some (.int 1), some (.int v2)]) rfl rfl q1_1 (by decide : (0 : Int32) + 1 = 1) rfl rfl ?_
      refine L_s (pc' := 2) rfl rfl ?_
      refine L_s (pc' := 3) rfl rfl ?_
      refine L_ic (pc' := 4) rfl q1_2 rfl ?_
      refine L_bf (c := (2 : Int32) ≤ 1) (t := 35) (n := 7) rfl rfl (by decide) ?_
      refine L_ic (pc' := 8) rfl q1_0 rfl ?_
      refine L_s (pc' := 9) (L' := [some (.ref 2), some (.int 1), some (.int 0)]) rfl rfl ?_
      exact p_net_passQuarter_9_2 hd F F _ _
    · refine L_s (pc' := 18) rfl rfl ?_
      refine L_s (pc' := 19) rfl rfl ?_
      refine L_s (pc' := 20) rfl rfl ?_
      refine L_cv (pc' := 23) (as := [.ref 2, .int 0, .int v2]) (rest := []) rfl rfl (e_net_passNode_k0 (by omega) F _ _) rfl fun g1 => ?_
      refine L_ii (pc' := 26) (L' := [some (.ref 2), some (.int 0), some (.int (v2 + 1))]) rfl rfl q1_1 rfl rfl rfl ?_
      refine L_s (pc' := 9) rfl rfl ?_
      exact ih _ _
theorem e_net_passQuarter {X : Xx} {d : Nat} (hd : 5 ≤ d) (F : Nat)  (g : Sg) : ∀ r, net_passQuarter F  g = some r → EvM zft mtl X d 34 [.ref 2] (SHF, g) ((fun r : Sg => ((none, (SHF, r)) : Out)) r) := by
  obtain ⟨d, rfl⟩ : ∃ d0, d = d0 + 1 := ⟨d - 1, by omega⟩
  have hd : 4 ≤ d := by omega
  refine E_in (f := (fun r : Sg => ((none, (SHF, r)) : Out))) rfl (Nat.le_of_ble_eq_true rfl) ?_
  unfold net_passQuarter
  change Lt X d none k_34 _ 0 [some (.ref 2), none, none] [] g _
  refine L_ic (pc' := 1) rfl q1_0 rfl ?_
  refine L_s (pc' := 2) (L' := [some (.ref 2), some (.int 0), none]) rfl rfl ?_
  refine L_s (pc' := 3) rfl rfl ?_
  refine L_ic (pc' := 4) rfl q1_2 rfl ?_
  refine L_bf (c := (2 : Int32) ≤ 0) (t := 35) (n := 7) rfl rfl (by decide) ?_
  refine L_ic (pc' := 8) rfl q1_0 rfl ?_
  refine L_s (pc' := 9) (L' := [some (.ref 2), some (.int 0), some (.int 0)]) rfl rfl ?_
  exact p_net_passQuarter_9 hd F F _ _
def x_today  (g : Sg) : Option (Int32) :=
  (some ((g 2 0) / 96))
theorem e_x_today {X : Xx} {d : Nat} (hd : 1 ≤ d)  (g : Sg) : ∀ r, x_today  g = some r → EvM zft mtl X d 142 [.ref 0] (SHF, g) ((fun r : Int32 => ((some (.int r), (SHF, g)) : Out)) r) := by
  obtain ⟨d, rfl⟩ : ∃ d0, d = d0 + 1 := ⟨d - 1, by omega⟩
  have hd : 0 ≤ d := by omega
  refine E_in (f := (fun r : Int32 => ((some (.int r), (SHF, g)) : Out))) rfl (Nat.le_of_ble_eq_true rfl) ?_
  unfold x_today
  change Lt X d (some .int) k_142 _ 0 [some (.ref 0)] [] g _
  refine L_s (pc' := 1) rfl rfl ?_
  refine L_gf (pc' := 4) rfl fr_0_0 rfl ?_
  refine L_gf (pc' := 7) rfl fr_1_0 rfl ?_
  refine L_gf (pc' := 10) rfl fi_2_0 rfl ?_
  refine L_bi (pc' := 12) rfl q2_96 rfl ?_
  refine L_dvk (pc' := 13) rfl (by decide) rfl ?_
  exact L_ret rfl ret_i rfl
def rights_isKnown (v1 : Int32) (v2 : Int32) (g : Sg) : Option (Int32) :=
  (if inb v1 120 = true then (if v2 < (g 28 (Int32.toNatClampNeg v1)) then
    (some 0)
  else
    (if inb v1 120 = true then (if (g 29 (Int32.toNatClampNeg v1)) = (-1) then
      (some 1)
    else
      (if inb v1 120 = true then (if (g 29 (Int32.toNatClampNeg v1)) ≤ v2 then
        (some 0)
      else
        (some 1)) else none)) else none)) else none)
theorem e_rights_isKnown {X : Xx} {d : Nat} (hd : 1 ≤ d) (v1 : Int32) (v2 : Int32) (g : Sg) : ∀ r, rights_isKnown v1 v2 g = some r → EvM zft mtl X d 74 [.ref 22, .int v1, .int v2] (SHF, g) ((fun r : Int32 => ((some (.int r), (SHF, g)) : Out)) r) := by
  obtain ⟨d, rfl⟩ : ∃ d0, d = d0 + 1 := ⟨d - 1, by omega⟩
  have hd : 0 ≤ d := by omega
  refine E_in (f := (fun r : Int32 => ((some (.int r), (SHF, g)) : Out))) rfl (Nat.le_of_ble_eq_true rfl) ?_
  unfold rights_isKnown
  change Lt X d (some .boolean) k_74 _ 0 [some (.ref 22), some (.int v1), some (.int v2)] [] g _
  refine L_s (pc' := 1) rfl rfl ?_
  refine L_gf (pc' := 4) rfl fr_22_6 rfl ?_
  refine L_s (pc' := 5) rfl rfl ?_
  refine L_rI (pc' := 6) rfl sh_28 (by decide) rfl ?_
  refine L_s (pc' := 7) rfl rfl ?_
  refine L_br (t := 34) (n := 10) rfl rfl (fun _ => ?_) (fun _ => ?_)
  · refine L_ic (pc' := 35) rfl q1_0 rfl ?_
    exact L_ret rfl (ret_z (by decide)) rfl
  · refine L_s (pc' := 11) rfl rfl ?_
    refine L_gf (pc' := 14) rfl fr_22_7 rfl ?_
    refine L_s (pc' := 15) rfl rfl ?_
    refine L_rI (pc' := 16) rfl sh_29 (by decide) rfl ?_
    refine L_ic (pc' := 17) rfl q1_m1 rfl ?_
    refine L_br (t := 30) (n := 20) rfl rfl (fun _ => ?_) (fun _ => ?_)
    · refine L_ic (pc' := 31) rfl q1_1 rfl ?_
      refine L_s (pc' := 35) rfl rfl ?_
      exact L_ret rfl (ret_z (by decide)) rfl
    · refine L_s (pc' := 21) rfl rfl ?_
      refine L_gf (pc' := 24) rfl fr_22_7 rfl ?_
      refine L_s (pc' := 25) rfl rfl ?_
      refine L_rI (pc' := 26) rfl sh_29 (by decide) rfl ?_
      refine L_s (pc' := 27) rfl rfl ?_
      refine L_br (t := 34) (n := 30) rfl rfl (fun _ => ?_) (fun _ => ?_)
      · refine L_ic (pc' := 35) rfl q1_0 rfl ?_
        exact L_ret rfl (ret_z (by decide)) rfl
      · refine L_ic (pc' := 31) rfl q1_1 rfl ?_
        refine L_s (pc' := 35) rfl rfl ?_
        exact L_ret rfl (ret_z (by decide)) rfl
def rights_ownerOf_45 (k_9 : Int32 → Int32 → Int32 → Int32 → Int32 → Int32 → Sg → Option (Int32)) (v1 : Int32) (v2 : Int32) (v3 : Int32) (v4 : Int32) (v5 : Int32) (v6 : Int32) (s0 : Int32) (g : Sg) : Option (Int32) :=
  (if s0 = 0 then
    (k_9 v1 v2 v3 v4 v5 (v6 + 1) g)
  else
    (if inb v6 120 = true then (if v2 < (g 27 (Int32.toNatClampNeg v6)) then
      (k_9 v1 v2 v3 v4 v5 (v6 + 1) g)
    else
      (if inb v6 120 = true then (if (g 27 (Int32.toNatClampNeg v6)) < v5 then
        (k_9 v1 v2 v3 v4 v5 (v6 + 1) g)
      else
        Option.bind (rights_isKnown v6 v3 g) (fun x1 => (if x1 = 0 then
          (k_9 v1 v2 v3 v4 v5 (v6 + 1) g)
        else
          (if inb v6 120 = true then lt1 ((g 26 (Int32.toNatClampNeg v6)) : Int32) (fun x2 => (if inb v6 120 = true then lt1 ((g 27 (Int32.toNatClampNeg v6)) : Int32) (fun x3 => (k_9 v1 v2 v3 x2 x3 (v6 + 1) g)) else none)) else none)))) else none)) else none))
def rights_ownerOf_44 (k_9 : Int32 → Int32 → Int32 → Int32 → Int32 → Int32 → Sg → Option (Int32)) (v1 : Int32) (v2 : Int32) (v3 : Int32) (v4 : Int32) (v5 : Int32) (v6 : Int32) (g : Sg) : Option (Int32) :=
  (rights_ownerOf_45 k_9 v1 v2 v3 v4 v5 v6 0 g)
def rights_ownerOf_9 : Nat → Int32 → Int32 → Int32 → Int32 → Int32 → Int32 → Sg → Option (Int32)
  | 0, _, _, _, _, _, _, _ => none
  | n + 1, v1, v2, v3, v4, v5, v6, g =>
    (if (g 22 1) ≤ v6 then
      (some v4)
    else
      (if inb v6 120 = true then (if v1 < (g 24 (Int32.toNatClampNeg v6)) then
        (rights_ownerOf_44 (fun v1 v2 v3 v4 v5 v6 g0 => rights_ownerOf_9 n v1 v2 v3 v4 v5 v6 g0) v1 v2 v3 v4 v5 v6 g)
      else
        (if inb v6 120 = true then (if (g 25 (Int32.toNatClampNeg v6)) < v1 then
          (rights_ownerOf_44 (fun v1 v2 v3 v4 v5 v6 g0 => rights_ownerOf_9 n v1 v2 v3 v4 v5 v6 g0) v1 v2 v3 v4 v5 v6 g)
        else
          (rights_ownerOf_45 (fun v1 v2 v3 v4 v5 v6 g0 => rights_ownerOf_9 n v1 v2 v3 v4 v5 v6 g0) v1 v2 v3 v4 v5 v6 1 g)) else none)) else none))
def rights_ownerOf (F : Nat) (v1 : Int32) (v2 : Int32) (v3 : Int32) (g : Sg) : Option (Int32) :=
  (rights_ownerOf_9 F v1 v2 v3 (-1) 0 0 g)
theorem p_rights_ownerOf_45 {X : Xx} {d : Nat} {g : Sg} {k_9 : Int32 → Int32 → Int32 → Int32 → Int32 → Int32 → Sg → Option (Int32)} (hd : 1 ≤ d) (hk_9 : ∀ (v1 : Int32) (v2 : Int32) (v3 : Int32) (v4 : Int32) (v5 : Int32) (v6 : Int32), Lt X d (some .int) k_73 (fun r : Int32 => ((some (.int r), (SHF, g)) : Out)) 9 [some (.ref 22), some (.int v1), some (.int v2), some (.int v3), some (.int v4), some (.int v5), some (.int v6), none] [] g (k_9 v1 v2 v3 v4 v5 v6 g)) (v1 : Int32) (v2 : Int32) (v3 : Int32) (v4 : Int32) (v5 : Int32) (v6 : Int32) (s0 : Int32) : Lt X d (some .int) k_73 (fun r : Int32 => ((some (.int r), (SHF, g)) : Out)) 45 [some (.ref 22), some (.int v1), some (.int v2), some (.int v3), some (.int v4), some (.int v5), some (.int v6), none] [.int s0] g (rights_ownerOf_45 k_9 v1 v2 v3 v4 v5 v6 s0 g) := by
  unfold rights_ownerOf_45
  refine L_s (pc' := 47) (L' := [some (.ref 22), some (.int v1), some (.int v2), some (.int v3), some (.int v4), some (.int v5), some (.int v6), some (.int s0)]) rfl rfl ?_
  refine L_s (pc' := 49) rfl rfl ?_
  refine L_br (t := 103) (n := 52) rfl rfl (fun _ => ?_) (fun _ => ?_)
  · refine L_ii (pc' := 106) (L' := [some (.ref 22), some (.int v1), some (.int v2), some (.int v3), some (.int v4), some (.int v5), some (.int (v6 + 1)), some (.int s0)]) rfl rfl q1_1 rfl rfl rfl ?_
    refine L_s (pc' := 9) rfl rfl ?_
    refine L_wk (L' := [some (.ref 22), some (.int v1), some (.int v2), some (.int v3), some (.int v4), some (.int v5), some (.int (v6 + 1)), none]) (wk_s (wk_s (wk_s (wk_s (wk_s (wk_s (wk_s (wk_n wk_nil)))))))) ?_
    exact hk_9 _ _ _ _ _ _
  · refine L_s (pc' := 53) rfl rfl ?_
    refine L_gf (pc' := 56) rfl fr_22_5 rfl ?_
    refine L_s (pc' := 58) rfl rfl ?_
    refine L_rI (pc' := 59) rfl sh_27 (by decide) rfl ?_
    refine L_s (pc' := 60) rfl rfl ?_
    refine L_br (t := 103) (n := 63) rfl rfl (fun _ => ?_) (fun _ => ?_)
    · refine L_ii (pc' := 106) (L' := [some (.ref 22), some (.int v1), some (.int v2), some (.int v3), some (.int v4), some (.int v5), some (.int (v6 + 1)), some (.int s0)]) rfl rfl q1_1 rfl rfl rfl ?_
      refine L_s (pc' := 9) rfl rfl ?_
      refine L_wk (L' := [some (.ref 22), some (.int v1), some (.int v2), some (.int v3), some (.int v4), some (.int v5), some (.int (v6 + 1)), none]) (wk_s (wk_s (wk_s (wk_s (wk_s (wk_s (wk_s (wk_n wk_nil)))))))) ?_
      exact hk_9 _ _ _ _ _ _
    · refine L_s (pc' := 64) rfl rfl ?_
      refine L_gf (pc' := 67) rfl fr_22_5 rfl ?_
      refine L_s (pc' := 69) rfl rfl ?_
      refine L_rI (pc' := 70) rfl sh_27 (by decide) rfl ?_
      refine L_s (pc' := 72) rfl rfl ?_
      refine L_br (t := 103) (n := 75) rfl rfl (fun _ => ?_) (fun _ => ?_)
      · refine L_ii (pc' := 106) (L' := [some (.ref 22), some (.int v1), some (.int v2), some (.int v3), some (.int v4), some (.int v5), some (.int (v6 + 1)), some (.int s0)]) rfl rfl q1_1 rfl rfl rfl ?_
        refine L_s (pc' := 9) rfl rfl ?_
        refine L_wk (L' := [some (.ref 22), some (.int v1), some (.int v2), some (.int v3), some (.int v4), some (.int v5), some (.int (v6 + 1)), none]) (wk_s (wk_s (wk_s (wk_s (wk_s (wk_s (wk_s (wk_n wk_nil)))))))) ?_
        exact hk_9 _ _ _ _ _ _
      · refine L_s (pc' := 76) rfl rfl ?_
        refine L_s (pc' := 78) rfl rfl ?_
        refine L_s (pc' := 79) rfl rfl ?_
        refine L_ci (pc' := 82) (as := [.ref 22, .int v6, .int v3]) (rest := []) rfl rfl (e_rights_isKnown (by omega) _ _ _) rfl fun x1 => ?_
        refine L_br (t := 103) (n := 85) rfl rfl (fun _ => ?_) (fun _ => ?_)
        · refine L_ii (pc' := 106) (L' := [some (.ref 22), some (.int v1), some (.int v2), some (.int v3), some (.int v4), some (.int v5), some (.int (v6 + 1)), some (.int s0)]) rfl rfl q1_1 rfl rfl rfl ?_
          refine L_s (pc' := 9) rfl rfl ?_
          refine L_wk (L' := [some (.ref 22), some (.int v1), some (.int v2), some (.int v3), some (.int v4), some (.int v5), some (.int (v6 + 1)), none]) (wk_s (wk_s (wk_s (wk_s (wk_s (wk_s (wk_s (wk_n wk_nil)))))))) ?_
          exact hk_9 _ _ _ _ _ _
        · refine L_s (pc' := 86) rfl rfl ?_
          refine L_gf (pc' := 89) rfl fr_22_4 rfl ?_
          refine L_s (pc' := 91) rfl rfl ?_
          refine L_rI (pc' := 92) rfl sh_26 (by decide) rfl ?_
          refine L_li fun x2 _ => ?_
          refine L_s (pc' := 94) (L' := [some (.ref 22), some (.int v1), some (.int v2), some (.int v3), some (.int x2), some (.int v5), some (.int v6), some (.int s0)]) rfl rfl ?_
          refine L_s (pc' := 95) rfl rfl ?_
          refine L_gf (pc' := 98) rfl fr_22_5 rfl ?_
          refine L_s (pc' := 100) rfl rfl ?_
          refine L_rI (pc' := 101) rfl sh_27 (by decide) rfl ?_
          refine L_li fun x3 _ => ?_
          refine L_s (pc' := 103) (L' := [some (.ref 22), some (.int v1), some (.int v2), some (.int v3), some (.int x2), some (.int x3), some (.int v6), some (.int s0)]) rfl rfl ?_
          refine L_ii (pc' := 106) (L' := [some (.ref 22), some (.int v1), some (.int v2), some (.int v3), some (.int x2), some (.int x3), some (.int (v6 + 1)), some (.int s0)]) rfl rfl q1_1 rfl rfl rfl ?_
          refine L_s (pc' := 9) rfl rfl ?_
          refine L_wk (L' := [some (.ref 22), some (.int v1), some (.int v2), some (.int v3), some (.int x2), some (.int x3), some (.int (v6 + 1)), none]) (wk_s (wk_s (wk_s (wk_s (wk_s (wk_s (wk_s (wk_n wk_nil)))))))) ?_
          exact hk_9 _ _ _ _ _ _
theorem p_rights_ownerOf_44 {X : Xx} {d : Nat} {g : Sg} {k_9 : Int32 → Int32 → Int32 → Int32 → Int32 → Int32 → Sg → Option (Int32)} (hd : 1 ≤ d) (hk_9 : ∀ (v1 : Int32) (v2 : Int32) (v3 : Int32) (v4 : Int32) (v5 : Int32) (v6 : Int32), Lt X d (some .int) k_73 (fun r : Int32 => ((some (.int r), (SHF, g)) : Out)) 9 [some (.ref 22), some (.int v1), some (.int v2), some (.int v3), some (.int v4), some (.int v5), some (.int v6), none] [] g (k_9 v1 v2 v3 v4 v5 v6 g)) (v1 : Int32) (v2 : Int32) (v3 : Int32) (v4 : Int32) (v5 : Int32) (v6 : Int32) : Lt X d (some .int) k_73 (fun r : Int32 => ((some (.int r), (SHF, g)) : Out)) 44 [some (.ref 22), some (.int v1), some (.int v2), some (.int v3), some (.int v4), some (.int v5), some (.int v6), none] [] g (rights_ownerOf_44 k_9 v1 v2 v3 v4 v5 v6 g) := by
  unfold rights_ownerOf_44
  refine L_ic (pc' := 45) rfl q1_0 rfl ?_
  exact p_rights_ownerOf_45 hd hk_9 _ _ _ _ _ _ _
theorem p_rights_ownerOf_9 {X : Xx} {d : Nat} {g : Sg} (hd : 1 ≤ d) : ∀ (n : Nat) (v1 : Int32) (v2 : Int32) (v3 : Int32) (v4 : Int32) (v5 : Int32) (v6 : Int32), Lt X d (some .int) k_73 (fun r : Int32 => ((some (.int r), (SHF, g)) : Out)) 9 [some (.ref 22), some (.int v1), some (.int v2), some (.int v3), some (.int v4), some (.int v5), some (.int v6), none] [] g (rights_ownerOf_9 n v1 v2 v3 v4 v5 v6 g) := by
  intro n
  induction n with
  | zero => intros; exact L_none
  | succ n ih =>
    intro v1 v2 v3 v4 v5 v6
    show Lt X d (some .int) k_73 (fun r : Int32 => ((some (.int r), (SHF, g)) : Out)) 9 [some (.ref 22), some (.int v1), some (.int v2), some (.int v3), some (.int v4), some (.int v5), some (.int v6), none] [] g (
      (if (g 22 1) ≤ v6 then
        (some v4)
      else
        (if inb v6 120 = true then (if v1 < (g 24 (Int32.toNatClampNeg v6)) then
          (rights_ownerOf_44 (fun v1 v2 v3 v4 v5 v6 g0 => rights_ownerOf_9 n v1 v2 v3 v4 v5 v6 g0) v1 v2 v3 v4 v5 v6 g)
        else
          (if inb v6 120 = true then (if (g 25 (Int32.toNatClampNeg v6)) < v1 then
            (rights_ownerOf_44 (fun v1 v2 v3 v4 v5 v6 g0 => rights_ownerOf_9 n v1 v2 v3 v4 v5 v6 g0) v1 v2 v3 v4 v5 v6 g)
          else
            (rights_ownerOf_45 (fun v1 v2 v3 v4 v5 v6 g0 => rights_ownerOf_9 n v1 v2 v3 v4 v5 v6 g0) v1 v2 v3 v4 v5 v6 1 g)) else none)) else none)))
    refine L_s (pc' := 11) rfl rfl ?_
    refine L_s (pc' := 12) rfl rfl ?_
    refine L_gf (pc' := 15) rfl fi_22_1 rfl ?_
    refine L_br (t := 109) (n := 18) rfl rfl (fun _ => ?_) (fun _ => ?_)
    · refine L_s (pc' := 111) rfl rfl ?_
      exact L_ret rfl ret_i rfl
    · refine L_s (pc' := 19) rfl rfl ?_
      refine L_gf (pc' := 22) rfl fr_22_2 rfl ?_
      refine L_s (pc' := 24) rfl rfl ?_
      refine L_rI (pc' := 25) rfl sh_24 (by decide) rfl ?_
      refine L_s (pc' := 26) rfl rfl ?_
      refine L_br (t := 44) (n := 29) rfl rfl (fun _ => ?_) (fun _ => ?_)
      · exact p_rights_ownerOf_44 hd (fun _ _ _ _ _ _ => ih _ _ _ _ _ _) _ _ _ _ _ _
      · refine L_s (pc' := 30) rfl rfl ?_
        refine L_s (pc' := 31) rfl rfl ?_
        refine L_gf (pc' := 34) rfl fr_22_3 rfl ?_
        refine L_s (pc' := 36) rfl rfl ?_
        refine L_rI (pc' := 37) rfl sh_25 (by decide) rfl ?_
        refine L_br (t := 44) (n := 40) rfl rfl (fun _ => ?_) (fun _ => ?_)
        · exact p_rights_ownerOf_44 hd (fun _ _ _ _ _ _ => ih _ _ _ _ _ _) _ _ _ _ _ _
        · refine L_ic (pc' := 41) rfl q1_1 rfl ?_
          refine L_s (pc' := 45) rfl rfl ?_
          exact p_rights_ownerOf_45 hd (fun _ _ _ _ _ _ => ih _ _ _ _ _ _) _ _ _ _ _ _ _
theorem e_rights_ownerOf {X : Xx} {d : Nat} (hd : 2 ≤ d) (F : Nat) (v1 : Int32) (v2 : Int32) (v3 : Int32) (g : Sg) : ∀ r, rights_ownerOf F v1 v2 v3 g = some r → EvM zft mtl X d 73 [.ref 22, .int v1, .int v2, .int v3] (SHF, g) ((fun r : Int32 => ((some (.int r), (SHF, g)) : Out)) r) := by
  obtain ⟨d, rfl⟩ : ∃ d0, d = d0 + 1 := ⟨d - 1, by omega⟩
  have hd : 1 ≤ d := by omega
  refine E_in (f := (fun r : Int32 => ((some (.int r), (SHF, g)) : Out))) rfl (Nat.le_of_ble_eq_true rfl) ?_
  unfold rights_ownerOf
  change Lt X d (some .int) k_73 _ 0 [some (.ref 22), some (.int v1), some (.int v2), some (.int v3), none, none, none, none] [] g _
  refine L_ic (pc' := 1) rfl q1_m1 rfl ?_
  refine L_s (pc' := 3) (L' := [some (.ref 22), some (.int v1), some (.int v2), some (.int v3), some (.int (-1)), none, none, none]) rfl rfl ?_
  refine L_ic (pc' := 4) rfl q1_0 rfl ?_
  refine L_s (pc' := 6) (L' := [some (.ref 22), some (.int v1), some (.int v2), some (.int v3), some (.int (-1)), some (.int 0), none, none]) rfl rfl ?_
  refine L_ic (pc' := 7) rfl q1_0 rfl ?_
  refine L_s (pc' := 9) (L' := [some (.ref 22), some (.int v1), some (.int v2), some (.int v3), some (.int (-1)), some (.int 0), some (.int 0), none]) rfl rfl ?_
  exact p_rights_ownerOf_9 hd F _ _ _ _ _ _
def rights_keepRun (v1 : Int32) (g : Sg) : Option (Sg) :=
  (if 2400 ≤ (g 22 8) then
    (some g)
  else
    (if inb (g 22 8) 2400 = true then lt1 (up2 g 30 (Int32.toNatClampNeg (g 22 8)) (Int8.toInt32 (Int32.toInt8 (Int8.toInt32 (Int32.toInt8 v1))))) (fun g1 => lt1 (up2 g1 22 8 ((g1 22 8) + 1)) (fun g2 => (some g2))) else none))
theorem e_rights_keepRun {X : Xx} {d : Nat} (hd : 1 ≤ d) (v1 : Int32) (g : Sg) : ∀ r, rights_keepRun v1 g = some r → EvM zft mtl X d 76 [.ref 22, .int v1] (SHF, g) ((fun r : Sg => ((none, (SHF, r)) : Out)) r) := by
  obtain ⟨d, rfl⟩ : ∃ d0, d = d0 + 1 := ⟨d - 1, by omega⟩
  have hd : 0 ≤ d := by omega
  refine E_in (f := (fun r : Sg => ((none, (SHF, r)) : Out))) rfl (Nat.le_of_ble_eq_true rfl) ?_
  unfold rights_keepRun
  change Lt X d none k_76 _ 0 [some (.ref 22), some (.int v1)] [] g _
  refine L_s (pc' := 1) rfl rfl ?_
  refine L_gf (pc' := 4) rfl fi_22_8 rfl ?_
  refine L_si (pc' := 7) rfl q3_2400 rfl ?_
  refine L_br (t := 31) (n := 10) rfl rfl (fun _ => ?_) (fun _ => ?_)
  · exact L_ret rfl rfl rfl
  · refine L_s (pc' := 11) rfl rfl ?_
    refine L_gf (pc' := 14) rfl fr_22_9 rfl ?_
    refine L_s (pc' := 15) rfl rfl ?_
    refine L_gf (pc' := 18) rfl fi_22_8 rfl ?_
    refine L_s (pc' := 19) rfl rfl ?_
    refine L_s (pc' := 20) rfl rfl ?_
    refine L_wB (pc' := 21) rfl sh_30 (by decide) rfl ?_
    refine L_let fun g1 _ => ?_
    refine L_s (pc' := 22) rfl rfl ?_
    refine L_s (pc' := 23) rfl rfl ?_
    refine L_gf (pc' := 26) rfl fi_22_8 rfl ?_
    refine L_ic (pc' := 27) rfl q1_1 rfl ?_
    refine L_s (pc' := 28) rfl rfl ?_
    refine L_pf (pc' := 31) rfl sh_22 (by decide) rfl rfl ?_
    refine L_let fun g2 _ => ?_
    exact L_ret rfl rfl rfl
def x_isHolder (v0 : Int32) (g : Sg) : Option (Int32) :=
  Option.bind (x_within v0 0 7 g) (fun x1 => (if x1 = 0 ∨ x1 = 1 then (some x1) else none))
theorem e_x_isHolder {X : Xx} {d : Nat} (hd : 2 ≤ d) (v0 : Int32) (g : Sg) : ∀ r, x_isHolder v0 g = some r → EvM zft mtl X d 140 [.int v0] (SHF, g) ((fun r : Int32 => ((some (.int r), (SHF, g)) : Out)) r) := by
  obtain ⟨d, rfl⟩ : ∃ d0, d = d0 + 1 := ⟨d - 1, by omega⟩
  have hd : 1 ≤ d := by omega
  refine E_in (f := (fun r : Int32 => ((some (.int r), (SHF, g)) : Out))) rfl (Nat.le_of_ble_eq_true rfl) ?_
  unfold x_isHolder
  change Lt X d (some .boolean) k_140 _ 0 [some (.int v0)] [] g _
  refine L_s (pc' := 1) rfl rfl ?_
  refine L_ic (pc' := 2) rfl q1_0 rfl ?_
  refine L_bi (pc' := 4) rfl q2_7 rfl ?_
  refine L_ci (pc' := 7) (as := [.int v0, .int 0, .int 7]) (rest := []) rfl rfl (e_x_within (by omega) _ _ _ _) rfl fun x1 => ?_
  exact L_g fun h => L_ret rfl (ret_z h) rfl
def ways_turnGates_5 : Nat → Int32 → Int32 → Sg → Option (Sg)
  | 0, _, _, _ => none
  | n + 1, v3, v4, g =>
    (if 10 ≤ v4 then
      (some g)
    else
      (if v3 = (g 187 3) then
        (some g)
      else
        Option.bind (net_hasNode v3 g) (fun x1 => (if x1 = 0 then
          (some g)
        else
          (if inb v3 10 = true then lt1 ((g 190 (Int32.toNatClampNeg v3)) : Int32) (fun x2 => (if inb v3 10 = true then lt1 (up2 g 5 (Int32.toNatClampNeg v3) x2) (fun g3 => Option.bind (net_hasChannel x2 g3) (fun x4 => (if x4 = 0 then
            lt1 ((g3 187 3) : Int32) (fun x5 => (ways_turnGates_5 n x5 (v4 + 1) g3))
          else
            (if inb x2 14 = true then lt1 ((g3 10 (Int32.toNatClampNeg x2)) : Int32) (fun x6 => (ways_turnGates_5 n x6 (v4 + 1) g3)) else none)))) else none)) else none)))))
def ways_turnGates (F : Nat) (v2 : Int32) (g : Sg) : Option (Sg) :=
  (ways_turnGates_5 F v2 0 g)
theorem p_ways_turnGates_5 {X : Xx} {d : Nat} (hd : 1 ≤ d) : ∀ (n : Nat) (v3 : Int32) (v4 : Int32) (g : Sg), Lt X d none k_105 (fun r : Sg => ((none, (SHF, r)) : Out)) 5 [some (.ref 187), some (.ref 2), none, some (.int v3), some (.int v4), none] [] g (ways_turnGates_5 n v3 v4 g) := by
  intro n
  induction n with
  | zero => intros; exact L_none
  | succ n ih =>
    intro v3 v4 g
    show Lt X d none k_105 (fun r : Sg => ((none, (SHF, r)) : Out)) 5 [some (.ref 187), some (.ref 2), none, some (.int v3), some (.int v4), none] [] g (
      (if 10 ≤ v4 then
        (some g)
      else
        (if v3 = (g 187 3) then
          (some g)
        else
          Option.bind (net_hasNode v3 g) (fun x1 => (if x1 = 0 then
            (some g)
          else
            (if inb v3 10 = true then lt1 ((g 190 (Int32.toNatClampNeg v3)) : Int32) (fun x2 => (if inb v3 10 = true then lt1 (up2 g 5 (Int32.toNatClampNeg v3) x2) (fun g3 => Option.bind (net_hasChannel x2 g3) (fun x4 => (if x4 = 0 then
              lt1 ((g3 187 3) : Int32) (fun x5 => (ways_turnGates_5 n x5 (v4 + 1) g3))
            else
              (if inb x2 14 = true then lt1 ((g3 10 (Int32.toNatClampNeg x2)) : Int32) (fun x6 => (ways_turnGates_5 n x6 (v4 + 1) g3)) else none)))) else none)) else none))))))
    refine L_s (pc' := 7) rfl rfl ?_
    refine L_bi (pc' := 9) rfl q2_10 rfl ?_
    refine L_br (t := 74) (n := 12) rfl rfl (fun _ => ?_) (fun _ => ?_)
    · exact L_ret rfl rfl rfl
    · refine L_s (pc' := 13) rfl rfl ?_
      refine L_s (pc' := 14) rfl rfl ?_
      refine L_gf (pc' := 17) rfl fi_187_3 rfl ?_
      refine L_br (t := 74) (n := 20) rfl rfl (fun _ => ?_) (fun _ => ?_)
      · exact L_ret rfl rfl rfl
      · refine L_s (pc' := 21) rfl rfl ?_
        refine L_s (pc' := 22) rfl rfl ?_
        refine L_ci (pc' := 25) (as := [.ref 2, .int v3]) (rest := []) rfl rfl (e_net_hasNode (by omega) _ _) rfl fun x1 => ?_
        refine L_br (t := 74) (n := 28) rfl rfl (fun _ => ?_) (fun _ => ?_)
        · exact L_ret rfl rfl rfl
        · refine L_s (pc' := 29) rfl rfl ?_
          refine L_gf (pc' := 32) rfl fr_187_2 rfl ?_
          refine L_s (pc' := 33) rfl rfl ?_
          refine L_rI (pc' := 34) rfl sh_190 (by decide) rfl ?_
          refine L_li fun x2 _ => ?_
          refine L_s (pc' := 36) (L' := [some (.ref 187), some (.ref 2), none, some (.int v3), some (.int v4), some (.int x2)]) rfl rfl ?_
          refine L_s (pc' := 37) rfl rfl ?_
          refine L_gf (pc' := 40) rfl fr_2_4 rfl ?_
          refine L_s (pc' := 41) rfl rfl ?_
          refine L_s (pc' := 43) rfl rfl ?_
          refine L_wI (pc' := 44) rfl sh_5 (by decide) rfl ?_
          refine L_let fun g3 _ => ?_
          refine L_s (pc' := 45) rfl rfl ?_
          refine L_s (pc' := 47) rfl rfl ?_
          refine L_ci (pc' := 50) (as := [.ref 2, .int x2]) (rest := []) rfl rfl (e_net_hasChannel (by omega) _ _) rfl fun x4 => ?_
          refine L_br (t := 63) (n := 53) rfl rfl (fun _ => ?_) (fun _ => ?_)
          · refine L_s (pc' := 64) rfl rfl ?_
            refine L_gf (pc' := 67) rfl fi_187_3 rfl ?_
            refine L_li fun x5 _ => ?_
            refine L_s (pc' := 68) (L' := [some (.ref 187), some (.ref 2), none, some (.int x5), some (.int v4), some (.int x2)]) rfl rfl ?_
            refine L_ii (pc' := 71) (L' := [some (.ref 187), some (.ref 2), none, some (.int x5), some (.int (v4 + 1)), some (.int x2)]) rfl rfl q1_1 rfl rfl rfl ?_
            refine L_s (pc' := 5) rfl rfl ?_
            refine L_wk (L' := [some (.ref 187), some (.ref 2), none, some (.int x5), some (.int (v4 + 1)), none]) (wk_s (wk_s (wk_s (wk_s (wk_s (wk_n wk_nil)))))) ?_
            exact ih _ _ _
          · refine L_s (pc' := 54) rfl rfl ?_
            refine L_gf (pc' := 57) rfl fr_2_8 rfl ?_
            refine L_s (pc' := 59) rfl rfl ?_
            refine L_rI (pc' := 60) rfl sh_10 (by decide) rfl ?_
            refine L_s (pc' := 67) rfl rfl ?_
            refine L_li fun x6 _ => ?_
            refine L_s (pc' := 68) (L' := [some (.ref 187), some (.ref 2), none, some (.int x6), some (.int v4), some (.int x2)]) rfl rfl ?_
            refine L_ii (pc' := 71) (L' := [some (.ref 187), some (.ref 2), none, some (.int x6), some (.int (v4 + 1)), some (.int x2)]) rfl rfl q1_1 rfl rfl rfl ?_
            refine L_s (pc' := 5) rfl rfl ?_
            refine L_wk (L' := [some (.ref 187), some (.ref 2), none, some (.int x6), some (.int (v4 + 1)), none]) (wk_s (wk_s (wk_s (wk_s (wk_s (wk_n wk_nil)))))) ?_
            exact ih _ _ _
theorem e_ways_turnGates {X : Xx} {d : Nat} (hd : 2 ≤ d) (F : Nat) (v2 : Int32) (g : Sg) : ∀ r, ways_turnGates F v2 g = some r → EvM zft mtl X d 105 [.ref 187, .ref 2, .int v2] (SHF, g) ((fun r : Sg => ((none, (SHF, r)) : Out)) r) := by
  obtain ⟨d, rfl⟩ : ∃ d0, d = d0 + 1 := ⟨d - 1, by omega⟩
  have hd : 1 ≤ d := by omega
  refine E_in (f := (fun r : Sg => ((none, (SHF, r)) : Out))) rfl (Nat.le_of_ble_eq_true rfl) ?_
  unfold ways_turnGates
  change Lt X d none k_105 _ 0 [some (.ref 187), some (.ref 2), some (.int v2), none, none, none] [] g _
  refine L_s (pc' := 1) rfl rfl ?_
  refine L_s (pc' := 2) (L' := [some (.ref 187), some (.ref 2), some (.int v2), some (.int v2), none, none]) rfl rfl ?_
  refine L_ic (pc' := 3) rfl q1_0 rfl ?_
  refine L_s (pc' := 5) (L' := [some (.ref 187), some (.ref 2), some (.int v2), some (.int v2), some (.int 0), none]) rfl rfl ?_
  refine L_wk (L' := [some (.ref 187), some (.ref 2), none, some (.int v2), some (.int 0), none]) (wk_s (wk_s (wk_n (wk_s (wk_s (wk_s wk_nil)))))) ?_
  exact p_ways_turnGates_5 hd F _ _ _
def x_beginHour (F : Nat)  (g : Sg) : Option (Sg) :=
  lt1 (((g 2 0) / 4) : Int32) (fun x1 => Option.bind (x_today g) (fun x2 => Option.bind (rights_ownerOf F (x1 - x1 / 168 * 168) (x1 / 168) x2 g) (fun x3 => Option.bind (rights_keepRun x3 g) (fun g4 => Option.bind (x_isHolder x3 g4) (fun x5 => (if x5 = 0 then
    (some g4)
  else
    (if inb x3 8 = true then Option.bind (ways_find F 0 (g4 23 (Int32.toNatClampNeg x3)) g4) (fun (x6, g7) => (if x6 = 0 then
      (some g7)
    else
      Option.bind (ways_turnGates F 0 g7) (fun g8 => (some g8)))) else none)))))))
theorem e_x_beginHour {X : Xx} {d : Nat} (hd : 5 ≤ d) (F : Nat)  (g : Sg) : ∀ r, x_beginHour F  g = some r → EvM zft mtl X d 143 [.ref 0] (SHF, g) ((fun r : Sg => ((none, (SHF, r)) : Out)) r) := by
  obtain ⟨d, rfl⟩ : ∃ d0, d = d0 + 1 := ⟨d - 1, by omega⟩
  have hd : 4 ≤ d := by omega
  refine E_in (f := (fun r : Sg => ((none, (SHF, r)) : Out))) rfl (Nat.le_of_ble_eq_true rfl) ?_
  unfold x_beginHour
  change Lt X d none k_143 _ 0 [some (.ref 0), none, none, none] [] g _
  refine L_s (pc' := 1) rfl rfl ?_
  refine L_gf (pc' := 4) rfl fr_0_0 rfl ?_
  refine L_gf (pc' := 7) rfl fr_1_1 rfl ?_
  refine L_s (pc' := 8) (L' := [some (.ref 0), some (.ref 22), none, none]) rfl rfl ?_
  refine L_s (pc' := 9) rfl rfl ?_
  refine L_gf (pc' := 12) rfl fr_0_0 rfl ?_
  refine L_gf (pc' := 15) rfl fr_1_0 rfl ?_
  refine L_gf (pc' := 18) rfl fi_2_0 rfl ?_
  refine L_ic (pc' := 19) rfl q1_4 rfl ?_
  refine L_dvk (pc' := 20) rfl (by decide) rfl ?_
  refine L_li fun x1 _ => ?_
  refine L_s (pc' := 21) (L' := [some (.ref 0), some (.ref 22), some (.int x1), none]) rfl rfl ?_
  refine L_s (pc' := 22) rfl rfl ?_
  refine L_s (pc' := 23) rfl rfl ?_
  refine L_si (pc' := 26) rfl q3_168 rfl ?_
  refine L_rmk (pc' := 27) rfl (by decide) rfl ?_
  refine L_s (pc' := 28) rfl rfl ?_
  refine L_si (pc' := 31) rfl q3_168 rfl ?_
  refine L_dvk (pc' := 32) rfl (by decide) rfl ?_
  refine L_s (pc' := 33) rfl rfl ?_
  refine L_ci (pc' := 36) (as := [.ref 0]) (rest := [.int (x1 / 168), .int (x1 - x1 / 168 * 168), .ref 22]) rfl rfl (e_x_today (by omega) _) rfl fun x2 => ?_
  refine L_ci (pc' := 39) (as := [.ref 22, .int (x1 - x1 / 168 * 168), .int (x1 / 168), .int x2]) (rest := []) rfl rfl (e_rights_ownerOf (by omega) F _ _ _ _) rfl fun x3 => ?_
  refine L_s (pc' := 40) (L' := [some (.ref 0), some (.ref 22), some (.int x1), some (.int x3)]) rfl rfl ?_
  refine L_s (pc' := 41) rfl rfl ?_
  refine L_s (pc' := 42) rfl rfl ?_
  refine L_cv (pc' := 45) (as := [.ref 22, .int x3]) (rest := []) rfl rfl (e_rights_keepRun (by omega) _ _) rfl fun g4 => ?_
  refine L_s (pc' := 46) rfl rfl ?_
  refine L_ci (pc' := 49) (as := [.int x3]) (rest := []) rfl rfl (e_x_isHolder (by omega) _ _) rfl fun x5 => ?_
  refine L_br (t := 91) (n := 52) rfl rfl (fun _ => ?_) (fun _ => ?_)
  · exact L_ret rfl rfl rfl
  · refine L_s (pc' := 53) rfl rfl ?_
    refine L_gf (pc' := 56) rfl fr_0_3 rfl ?_
    refine L_s (pc' := 57) rfl rfl ?_
    refine L_gf (pc' := 60) rfl fr_0_0 rfl ?_
    refine L_gf (pc' := 63) rfl fr_1_0 rfl ?_
    refine L_ic (pc' := 64) rfl q1_0 rfl ?_
    refine L_s (pc' := 65) rfl rfl ?_
    refine L_gf (pc' := 68) rfl fr_22_0 rfl ?_
    refine L_s (pc' := 69) rfl rfl ?_
    refine L_rI (pc' := 70) rfl sh_23 (by decide) rfl ?_
    refine L_cig (pc' := 73) (as := [.ref 187, .ref 2, .int 0, .int (g4 23 (Int32.toNatClampNeg x3))]) (rest := []) rfl rfl (e_ways_find (by omega) F _ _ _) rfl fun x6 g7 => ?_
    refine L_br (t := 91) (n := 76) rfl rfl (fun _ => ?_) (fun _ => ?_)
    · exact L_ret rfl rfl rfl
    · refine L_s (pc' := 77) rfl rfl ?_
      refine L_gf (pc' := 80) rfl fr_0_3 rfl ?_
      refine L_s (pc' := 81) rfl rfl ?_
      refine L_gf (pc' := 84) rfl fr_0_0 rfl ?_
      refine L_gf (pc' := 87) rfl fr_1_0 rfl ?_
      refine L_ic (pc' := 88) rfl q1_0 rfl ?_
      refine L_cv (pc' := 91) (as := [.ref 187, .ref 2, .int 0]) (rest := []) rfl rfl (e_ways_turnGates (by omega) F _ _) rfl fun g8 => ?_
      exact L_ret rfl rfl rfl
def x_go_34 (F : Nat) : Nat → Int32 → Int32 → Sg → Option (Int32 × Sg)
  | 0, _, _, _ => none
  | n + 1, v1, v3, g =>
    (if v1 ≤ v3 then
      (some ((g 2 0), g))
    else
      (if ¬ ((g 2 0) - (g 2 0) / 4 * 4) = 0 then
        Option.bind (net_passQuarter F g) (fun g1 => (x_go_34 F n v1 (v3 + 1) g1))
      else
        Option.bind (x_beginHour F g) (fun g2 => Option.bind (net_passQuarter F g2) (fun g3 => (x_go_34 F n v1 (v3 + 1) g3)))))
def x_go (F : Nat) (v1 : Int32) (g : Sg) : Option (Int32 × Sg) :=
  Option.bind (x_within v1 1 96 g) (fun x1 => (if x1 = 0 then
    (some ((-1), g))
  else
    (if ((g 2 0) + v1) ≤ 9599 then
      (x_go_34 F F v1 0 g)
    else
      (some ((-1), g)))))
theorem p_x_go_34 {X : Xx} {d : Nat} (hd : 5 ≤ d) (F : Nat) : ∀ (n : Nat) (v1 : Int32) (v3 : Int32) (g : Sg), Lt X d (some .int) k_114 (fun r : Int32 × Sg => ((some (.int r.1), (SHF, r.2)) : Out)) 34 [some (.ref 0), some (.int v1), some (.ref 2), some (.int v3)] [] g (x_go_34 F n v1 v3 g) := by
  intro n
  induction n with
  | zero => intros; exact L_none
  | succ n ih =>
    intro v1 v3 g
    show Lt X d (some .int) k_114 (fun r : Int32 × Sg => ((some (.int r.1), (SHF, r.2)) : Out)) 34 [some (.ref 0), some (.int v1), some (.ref 2), some (.int v3)] [] g (
      (if v1 ≤ v3 then
        (some ((g 2 0), g))
      else
        (if ¬ ((g 2 0) - (g 2 0) / 4 * 4) = 0 then
          Option.bind (net_passQuarter F g) (fun g1 => (x_go_34 F n v1 (v3 + 1) g1))
        else
          Option.bind (x_beginHour F g) (fun g2 => Option.bind (net_passQuarter F g2) (fun g3 => (x_go_34 F n v1 (v3 + 1) g3))))))
    refine L_s (pc' := 35) rfl rfl ?_
    refine L_s (pc' := 36) rfl rfl ?_
    refine L_br (t := 62) (n := 39) rfl rfl (fun _ => ?_) (fun _ => ?_)
    · refine L_s (pc' := 63) rfl rfl ?_
      refine L_gf (pc' := 66) rfl fi_2_0 rfl ?_
      exact L_ret rfl ret_i rfl
    · refine L_s (pc' := 40) rfl rfl ?_
      refine L_gf (pc' := 43) rfl fi_2_0 rfl ?_
      refine L_ic (pc' := 44) rfl q1_4 rfl ?_
      refine L_rmk (pc' := 45) rfl (by decide) rfl ?_
      refine L_br (t := 52) (n := 48) rfl rfl (fun _ => ?_) (fun _ => ?_)
      · refine L_s (pc' := 53) rfl rfl ?_
        refine L_cv (pc' := 56) (as := [.ref 2]) (rest := []) rfl rfl (e_net_passQuarter (by omega) F _) rfl fun g1 => ?_
        refine L_ii (pc' := 59) (L' := [some (.ref 0), some (.int v1), some (.ref 2), some (.int (v3 + 1))]) rfl rfl q1_1 rfl rfl rfl ?_
        refine L_s (pc' := 34) rfl rfl ?_
        exact ih _ _ _
      · refine L_s (pc' := 49) rfl rfl ?_
        refine L_cv (pc' := 52) (as := [.ref 0]) (rest := []) rfl rfl (e_x_beginHour (by omega) F _) rfl fun g2 => ?_
        refine L_s (pc' := 53) rfl rfl ?_
        refine L_cv (pc' := 56) (as := [.ref 2]) (rest := []) rfl rfl (e_net_passQuarter (by omega) F _) rfl fun g3 => ?_
        refine L_ii (pc' := 59) (L' := [some (.ref 0), some (.int v1), some (.ref 2), some (.int (v3 + 1))]) rfl rfl q1_1 rfl rfl rfl ?_
        refine L_s (pc' := 34) rfl rfl ?_
        exact ih _ _ _
theorem e_x_go {X : Xx} {d : Nat} (hd : 6 ≤ d) (F : Nat) (v1 : Int32) (g : Sg) : ∀ r, x_go F v1 g = some r → EvM zft mtl X d 114 [.ref 0, .int v1] (SHF, g) ((fun r : Int32 × Sg => ((some (.int r.1), (SHF, r.2)) : Out)) r) := by
  obtain ⟨d, rfl⟩ : ∃ d0, d = d0 + 1 := ⟨d - 1, by omega⟩
  have hd : 5 ≤ d := by omega
  refine E_in (f := (fun r : Int32 × Sg => ((some (.int r.1), (SHF, r.2)) : Out))) rfl (Nat.le_of_ble_eq_true rfl) ?_
  unfold x_go
  change Lt X d (some .int) k_114 _ 0 [some (.ref 0), some (.int v1), none, none] [] g _
  refine L_s (pc' := 1) rfl rfl ?_
  refine L_gf (pc' := 4) rfl fr_0_0 rfl ?_
  refine L_gf (pc' := 7) rfl fr_1_0 rfl ?_
  refine L_s (pc' := 8) (L' := [some (.ref 0), some (.int v1), some (.ref 2), none]) rfl rfl ?_
  refine L_s (pc' := 9) rfl rfl ?_
  refine L_ic (pc' := 10) rfl q1_1 rfl ?_
  refine L_bi (pc' := 12) rfl q2_96 rfl ?_
  refine L_ci (pc' := 15) (as := [.int v1, .int 1, .int 96]) (rest := []) rfl rfl (e_x_within (by omega) _ _ _ _) rfl fun x1 => ?_
  refine L_br (t := 30) (n := 18) rfl rfl (fun _ => ?_) (fun _ => ?_)
  · refine L_ic (pc' := 31) rfl q1_m1 rfl ?_
    exact L_ret rfl ret_i rfl
  · refine L_s (pc' := 19) rfl rfl ?_
    refine L_gf (pc' := 22) rfl fi_2_0 rfl ?_
    refine L_s (pc' := 23) rfl rfl ?_
    refine L_s (pc' := 24) rfl rfl ?_
    refine L_si (pc' := 27) rfl q3_9599 rfl ?_
    refine L_br (t := 32) (n := 30) rfl rfl (fun _ => ?_) (fun _ => ?_)
    · refine L_ic (pc' := 33) rfl q1_0 rfl ?_
      refine L_s (pc' := 34) (L' := [some (.ref 0), some (.int v1), some (.ref 2), some (.int 0)]) rfl rfl ?_
      exact p_x_go_34 hd F F _ _ _
    · refine L_ic (pc' := 31) rfl q1_m1 rfl ?_
      exact L_ret rfl ret_i rfl
def x_about (v1 : Int32) (v2 : Int32) (g : Sg) : Option (Int32) :=
  Option.bind (net_hasNode v1 g) (fun x1 => (if ¬ x1 = 0 then
    (if v2 = 0 then
      (if inb v1 10 = true then (some (g 3 (Int32.toNatClampNeg v1))) else none)
    else (if v2 = 1 then
      (if inb v1 10 = true then (some (g 4 (Int32.toNatClampNeg v1))) else none)
    else (if v2 = 2 then
      (if inb v1 10 = true then (some (g 5 (Int32.toNatClampNeg v1))) else none)
    else (if v2 = 3 then
      (if inb v1 10 = true then (some (g 7 (Int32.toNatClampNeg v1))) else none)
    else (if v2 = 4 then
      (if inb v1 10 = true then (some (g 8 (Int32.toNatClampNeg v1))) else none)
    else (some (-2)))))))
  else
    (some (-2))))
theorem e_x_about {X : Xx} {d : Nat} (hd : 2 ≤ d) (v1 : Int32) (v2 : Int32) (g : Sg) : ∀ r, x_about v1 v2 g = some r → EvM zft mtl X d 115 [.ref 0, .int v1, .int v2] (SHF, g) ((fun r : Int32 => ((some (.int r), (SHF, g)) : Out)) r) := by
  obtain ⟨d, rfl⟩ : ∃ d0, d = d0 + 1 := ⟨d - 1, by omega⟩
  have hd : 1 ≤ d := by omega
  refine E_in (f := (fun r : Int32 => ((some (.int r), (SHF, g)) : Out))) rfl (Nat.le_of_ble_eq_true rfl) ?_
  unfold x_about
  change Lt X d (some .int) k_115 _ 0 [some (.ref 0), some (.int v1), some (.int v2), none] [] g _
  refine L_s (pc' := 1) rfl rfl ?_
  refine L_gf (pc' := 4) rfl fr_0_0 rfl ?_
  refine L_gf (pc' := 7) rfl fr_1_0 rfl ?_
  refine L_s (pc' := 8) (L' := [some (.ref 0), some (.int v1), some (.int v2), some (.ref 2)]) rfl rfl ?_
  refine L_s (pc' := 9) rfl rfl ?_
  refine L_s (pc' := 10) rfl rfl ?_
  refine L_ci (pc' := 13) (as := [.ref 2, .int v1]) (rest := []) rfl rfl (e_net_hasNode (by omega) _ _) rfl fun x1 => ?_
  refine L_br (t := 19) (n := 16) rfl rfl (fun _ => ?_) (fun _ => ?_)
  · refine L_s (pc' := 20) rfl rfl ?_
    refine L_if (fun h2 => ?_) (fun h2 => ?_)
    · subst h2
      refine L_ts (t := 56) (off := 36) rfl (by decide) rfl ?_
      refine L_s (pc' := 57) rfl rfl ?_
      refine L_gf (pc' := 60) rfl fr_2_2 rfl ?_
      refine L_s (pc' := 61) rfl rfl ?_
      refine L_rI (pc' := 62) rfl sh_3 (by decide) rfl ?_
      exact L_ret rfl ret_i rfl
    refine L_if (fun h3 => ?_) (fun h3 => ?_)
    · subst h3
      refine L_ts (t := 63) (off := 43) rfl (by decide) rfl ?_
      refine L_s (pc' := 64) rfl rfl ?_
      refine L_gf (pc' := 67) rfl fr_2_3 rfl ?_
      refine L_s (pc' := 68) rfl rfl ?_
      refine L_rI (pc' := 69) rfl sh_4 (by decide) rfl ?_
      exact L_ret rfl ret_i rfl
    refine L_if (fun h4 => ?_) (fun h4 => ?_)
    · subst h4
      refine L_ts (t := 70) (off := 50) rfl (by decide) rfl ?_
      refine L_s (pc' := 71) rfl rfl ?_
      refine L_gf (pc' := 74) rfl fr_2_4 rfl ?_
      refine L_s (pc' := 75) rfl rfl ?_
      refine L_rI (pc' := 76) rfl sh_5 (by decide) rfl ?_
      exact L_ret rfl ret_i rfl
    refine L_if (fun h5 => ?_) (fun h5 => ?_)
    · subst h5
      refine L_ts (t := 77) (off := 57) rfl (by decide) rfl ?_
      refine L_s (pc' := 78) rfl rfl ?_
      refine L_gf (pc' := 81) rfl fr_2_5 rfl ?_
      refine L_ic (pc' := 82) rfl q1_0 rfl ?_
      refine L_aa (pc' := 83) rfl sh_6 (by decide) (by decide) rfl rfl ?_
      refine L_s (pc' := 84) rfl rfl ?_
      refine L_rI (pc' := 85) rfl sh_7 (by decide) rfl ?_
      exact L_ret rfl ret_i rfl
    refine L_if (fun h6 => ?_) (fun h6 => ?_)
    · subst h6
      refine L_ts (t := 86) (off := 66) rfl (by decide) rfl ?_
      refine L_s (pc' := 87) rfl rfl ?_
      refine L_gf (pc' := 90) rfl fr_2_5 rfl ?_
      refine L_ic (pc' := 91) rfl q1_1 rfl ?_
      refine L_aa (pc' := 92) rfl sh_6 (by decide) (by decide) rfl rfl ?_
      refine L_s (pc' := 93) rfl rfl ?_
      refine L_rI (pc' := 94) rfl sh_8 (by decide) rfl ?_
      exact L_ret rfl ret_i rfl
    refine L_ts (off := 75) (t := 95) rfl (twf_out (n := 5) (by decide) (by decide) (fun j hj => by
      match j, hj with
      | 0, _ => exact fun e => h2 (e.trans (by decide))
      | 1, _ => exact fun e => h3 (e.trans (by decide))
      | 2, _ => exact fun e => h4 (e.trans (by decide))
      | 3, _ => exact fun e => h5 (e.trans (by decide))
      | 4, _ => exact fun e => h6 (e.trans (by decide))
      | j + 5, hj => exact absurd hj (by omega))) rfl ?_
    refine L_bi (pc' := 97) rfl q2_m2 rfl ?_
    exact L_ret rfl ret_i rfl
  · refine L_bi (pc' := 18) rfl q2_m2 rfl ?_
    exact L_ret rfl ret_i rfl
def x_look (F : Nat) (v1 : Int32) (v2 : Int32) (g : Sg) : Option (Int32) :=
  Option.bind (net_hasChannel v1 g) (fun x1 => (if ¬ x1 = 0 then
    (if v2 = 0 then
      (if inb v1 14 = true then (some (g 9 (Int32.toNatClampNeg v1))) else none)
    else (if v2 = 1 then
      (if inb v1 14 = true then (some (g 10 (Int32.toNatClampNeg v1))) else none)
    else (if v2 = 2 then
      (if inb v1 14 = true then (some (g 11 (Int32.toNatClampNeg v1))) else none)
    else (if v2 = 3 then
      (if inb v1 14 = true then (some (g 12 (Int32.toNatClampNeg v1))) else none)
    else (if v2 = 4 then
      (if inb v1 14 = true then (some (g 13 (Int32.toNatClampNeg v1))) else none)
    else (if v2 = 5 then
      (if inb v1 14 = true then (some (g 14 (Int32.toNatClampNeg v1))) else none)
    else (if v2 = 6 then
      (if inb v1 14 = true then (if (g 15 (Int32.toNatClampNeg v1)) = 0 then
        (some 0)
      else
        (some 1)) else none)
    else (if v2 = 7 then
      Option.bind (net_underWay_k0 F v1 g) (fun x9 => (some x9))
    else (if v2 = 8 then
      Option.bind (net_underWay_k1 F v1 g) (fun x11 => (some x11))
    else (some (-2)))))))))))
  else
    (some (-2))))
theorem e_x_look {X : Xx} {d : Nat} (hd : 2 ≤ d) (F : Nat) (v1 : Int32) (v2 : Int32) (g : Sg) : ∀ r, x_look F v1 v2 g = some r → EvM zft mtl X d 116 [.ref 0, .int v1, .int v2] (SHF, g) ((fun r : Int32 => ((some (.int r), (SHF, g)) : Out)) r) := by
  obtain ⟨d, rfl⟩ : ∃ d0, d = d0 + 1 := ⟨d - 1, by omega⟩
  have hd : 1 ≤ d := by omega
  refine E_in (f := (fun r : Int32 => ((some (.int r), (SHF, g)) : Out))) rfl (Nat.le_of_ble_eq_true rfl) ?_
  unfold x_look
  change Lt X d (some .int) k_116 _ 0 [some (.ref 0), some (.int v1), some (.int v2), none] [] g _
  refine L_s (pc' := 1) rfl rfl ?_
  refine L_gf (pc' := 4) rfl fr_0_0 rfl ?_
  refine L_gf (pc' := 7) rfl fr_1_0 rfl ?_
  refine L_s (pc' := 8) (L' := [some (.ref 0), some (.int v1), some (.int v2), some (.ref 2)]) rfl rfl ?_
  refine L_s (pc' := 9) rfl rfl ?_
  refine L_s (pc' := 10) rfl rfl ?_
  refine L_ci (pc' := 13) (as := [.ref 2, .int v1]) (rest := []) rfl rfl (e_net_hasChannel (by omega) _ _) rfl fun x1 => ?_
  refine L_br (t := 19) (n := 16) rfl rfl (fun _ => ?_) (fun _ => ?_)
  · refine L_s (pc' := 20) rfl rfl ?_
    refine L_if (fun h2 => ?_) (fun h2 => ?_)
    · subst h2
      refine L_ts (t := 72) (off := 52) rfl (by decide) rfl ?_
      refine L_s (pc' := 73) rfl rfl ?_
      refine L_gf (pc' := 76) rfl fr_2_7 rfl ?_
      refine L_s (pc' := 77) rfl rfl ?_
      refine L_rI (pc' := 78) rfl sh_9 (by decide) rfl ?_
      exact L_ret rfl ret_i rfl
    refine L_if (fun h3 => ?_) (fun h3 => ?_)
    · subst h3
      refine L_ts (t := 79) (off := 59) rfl (by decide) rfl ?_
      refine L_s (pc' := 80) rfl rfl ?_
      refine L_gf (pc' := 83) rfl fr_2_8 rfl ?_
      refine L_s (pc' := 84) rfl rfl ?_
      refine L_rI (pc' := 85) rfl sh_10 (by decide) rfl ?_
      exact L_ret rfl ret_i rfl
    refine L_if (fun h4 => ?_) (fun h4 => ?_)
    · subst h4
      refine L_ts (t := 86) (off := 66) rfl (by decide) rfl ?_
      refine L_s (pc' := 87) rfl rfl ?_
      refine L_gf (pc' := 90) rfl fr_2_9 rfl ?_
      refine L_s (pc' := 91) rfl rfl ?_
      refine L_rI (pc' := 92) rfl sh_11 (by decide) rfl ?_
      exact L_ret rfl ret_i rfl
    refine L_if (fun h5 => ?_) (fun h5 => ?_)
    · subst h5
      refine L_ts (t := 93) (off := 73) rfl (by decide) rfl ?_
      refine L_s (pc' := 94) rfl rfl ?_
      refine L_gf (pc' := 97) rfl fr_2_10 rfl ?_
      refine L_s (pc' := 98) rfl rfl ?_
      refine L_rI (pc' := 99) rfl sh_12 (by decide) rfl ?_
      exact L_ret rfl ret_i rfl
    refine L_if (fun h6 => ?_) (fun h6 => ?_)
    · subst h6
      refine L_ts (t := 100) (off := 80) rfl (by decide) rfl ?_
      refine L_s (pc' := 101) rfl rfl ?_
      refine L_gf (pc' := 104) rfl fr_2_11 rfl ?_
      refine L_s (pc' := 105) rfl rfl ?_
      refine L_rI (pc' := 106) rfl sh_13 (by decide) rfl ?_
      exact L_ret rfl ret_i rfl
    refine L_if (fun h7 => ?_) (fun h7 => ?_)
    · subst h7
      refine L_ts (t := 107) (off := 87) rfl (by decide) rfl ?_
      refine L_s (pc' := 108) rfl rfl ?_
      refine L_gf (pc' := 111) rfl fr_2_12 rfl ?_
      refine L_s (pc' := 112) rfl rfl ?_
      refine L_rI (pc' := 113) rfl sh_14 (by decide) rfl ?_
      exact L_ret rfl ret_i rfl
    refine L_if (fun h8 => ?_) (fun h8 => ?_)
    · subst h8
      refine L_ts (t := 114) (off := 94) rfl (by decide) rfl ?_
      refine L_s (pc' := 115) rfl rfl ?_
      refine L_gf (pc' := 118) rfl fr_2_13 rfl ?_
      refine L_s (pc' := 119) rfl rfl ?_
      refine L_rB (pc' := 120) rfl sh_15 (by decide) (by decide) rfl ?_
      refine L_br (t := 127) (n := 123) rfl rfl (fun _ => ?_) (fun _ => ?_)
      · refine L_ic (pc' := 128) rfl q1_0 rfl ?_
        exact L_ret rfl ret_i rfl
      · refine L_ic (pc' := 124) rfl q1_1 rfl ?_
        refine L_s (pc' := 128) rfl rfl ?_
        exact L_ret rfl ret_i rfl
    refine L_if (fun h10 => ?_) (fun h10 => ?_)
    · subst h10
      refine L_ts (t := 129) (off := 109) rfl (by decide) rfl ?_
      refine L_s (pc' := 130) rfl rfl ?_
      refine L_ic (pc' := 131) rfl q1_0 rfl ?_
      refine L_s (pc' := 132) rfl rfl ?_
      refine L_ci (pc' := 135) (as := [.ref 2, .int 0, .int v1]) (rest := []) rfl rfl (e_net_underWay_k0 (by omega) F _ _) rfl fun x9 => ?_
      exact L_ret rfl ret_i rfl
    refine L_if (fun h12 => ?_) (fun h12 => ?_)
    · subst h12
      refine L_ts (t := 136) (off := 116) rfl (by decide) rfl ?_
      refine L_s (pc' := 137) rfl rfl ?_
      refine L_ic (pc' := 138) rfl q1_1 rfl ?_
      refine L_s (pc' := 139) rfl rfl ?_
      refine L_ci (pc' := 142) (as := [.ref 2, .int 1, .int v1]) (rest := []) rfl rfl (e_net_underWay_k1 (by omega) F _ _) rfl fun x11 => ?_
      exact L_ret rfl ret_i rfl
    refine L_ts (off := 123) (t := 143) rfl (twf_out (n := 9) (by decide) (by decide) (fun j hj => by
      match j, hj with
      | 0, _ => exact fun e => h2 (e.trans (by decide))
      | 1, _ => exact fun e => h3 (e.trans (by decide))
      | 2, _ => exact fun e => h4 (e.trans (by decide))
      | 3, _ => exact fun e => h5 (e.trans (by decide))
      | 4, _ => exact fun e => h6 (e.trans (by decide))
      | 5, _ => exact fun e => h7 (e.trans (by decide))
      | 6, _ => exact fun e => h8 (e.trans (by decide))
      | 7, _ => exact fun e => h10 (e.trans (by decide))
      | 8, _ => exact fun e => h12 (e.trans (by decide))
      | j + 9, hj => exact absurd hj (by omega))) rfl ?_
    refine L_bi (pc' := 145) rfl q2_m2 rfl ?_
    exact L_ret rfl ret_i rfl
  · refine L_bi (pc' := 18) rfl q2_m2 rfl ?_
    exact L_ret rfl ret_i rfl
def net_sumOfKind_k0_0_5 : Nat → Int32 → Int32 → Sg → Option (Int32)
  | 0, _, _, _ => none
  | n + 1, v3, v4, g =>
    (if (g 2 1) ≤ v4 then
      (some v3)
    else
      (if inb v4 10 = true then (if ¬ (g 3 (Int32.toNatClampNeg v4)) = 0 then
        (net_sumOfKind_k0_0_5 n v3 (v4 + 1) g)
      else
        (if inb v4 10 = true then lt1 ((v3 + (g 7 (Int32.toNatClampNeg v4))) : Int32) (fun x1 => (net_sumOfKind_k0_0_5 n x1 (v4 + 1) g)) else none)) else none))
def net_sumOfKind_k0_0 (F : Nat)  (g : Sg) : Option (Int32) :=
  (net_sumOfKind_k0_0_5 F 0 0 g)
theorem p_net_sumOfKind_k0_0_5 {X : Xx} {d : Nat} {g : Sg} (hd : 0 ≤ d) : ∀ (n : Nat) (v3 : Int32) (v4 : Int32), Lt X d (some .int) k_31 (fun r : Int32 => ((some (.int r), (SHF, g)) : Out)) 5 [some (.ref 2), some (.int 0), some (.int 0), some (.int v3), some (.int v4)] [] g (net_sumOfKind_k0_0_5 n v3 v4 g) := by
  intro n
  induction n with
  | zero => intros; exact L_none
  | succ n ih =>
    intro v3 v4
    show Lt X d (some .int) k_31 (fun r : Int32 => ((some (.int r), (SHF, g)) : Out)) 5 [some (.ref 2), some (.int 0), some (.int 0), some (.int v3), some (.int v4)] [] g (
      (if (g 2 1) ≤ v4 then
        (some v3)
      else
        (if inb v4 10 = true then (if ¬ (g 3 (Int32.toNatClampNeg v4)) = 0 then
          (net_sumOfKind_k0_0_5 n v3 (v4 + 1) g)
        else
          (if inb v4 10 = true then lt1 ((v3 + (g 7 (Int32.toNatClampNeg v4))) : Int32) (fun x1 => (net_sumOfKind_k0_0_5 n x1 (v4 + 1) g)) else none)) else none)))
    refine L_s (pc' := 7) rfl rfl ?_
    refine L_s (pc' := 8) rfl rfl ?_
    refine L_gf (pc' := 11) rfl fi_2_1 rfl ?_
    refine L_br (t := 43) (n := 14) rfl rfl (fun _ => ?_) (fun _ => ?_)
    · refine L_s (pc' := 44) rfl rfl ?_
      exact L_ret rfl ret_i rfl
    · refine L_s (pc' := 15) rfl rfl ?_
      refine L_gf (pc' := 18) rfl fr_2_2 rfl ?_
      refine L_s (pc' := 20) rfl rfl ?_
      refine L_rI (pc' := 21) rfl sh_3 (by decide) rfl ?_
      refine L_s (pc' := 22) rfl rfl ?_
      refine L_br (t := 37) (n := 25) rfl rfl (fun _ => ?_) (fun _ => ?_)
      · refine L_ii (pc' := 40) (L' := [some (.ref 2), some (.int 0), some (.int 0), some (.int v3), some (.int (v4 + 1))]) rfl rfl q1_1 rfl rfl rfl ?_
        refine L_s (pc' := 5) rfl rfl ?_
        exact ih _ _
      · refine L_s (pc' := 26) rfl rfl ?_
        refine L_s (pc' := 27) rfl rfl ?_
        refine L_gf (pc' := 30) rfl fr_2_5 rfl ?_
        refine L_s (pc' := 31) rfl rfl ?_
        refine L_aa (pc' := 32) rfl sh_6 (by decide) (by decide) rfl rfl ?_
        refine L_s (pc' := 34) rfl rfl ?_
        refine L_rI (pc' := 35) rfl sh_7 (by decide) rfl ?_
        refine L_s (pc' := 36) rfl rfl ?_
        refine L_li fun x1 _ => ?_
        refine L_s (pc' := 37) (L' := [some (.ref 2), some (.int 0), some (.int 0), some (.int x1), some (.int v4)]) rfl rfl ?_
        refine L_ii (pc' := 40) (L' := [some (.ref 2), some (.int 0), some (.int 0), some (.int x1), some (.int (v4 + 1))]) rfl rfl q1_1 rfl rfl rfl ?_
        refine L_s (pc' := 5) rfl rfl ?_
        exact ih _ _
theorem e_net_sumOfKind_k0_0 {X : Xx} {d : Nat} (hd : 1 ≤ d) (F : Nat)  (g : Sg) : ∀ r, net_sumOfKind_k0_0 F  g = some r → EvM zft mtl X d 31 [.ref 2, .int 0, .int 0] (SHF, g) ((fun r : Int32 => ((some (.int r), (SHF, g)) : Out)) r) := by
  obtain ⟨d, rfl⟩ : ∃ d0, d = d0 + 1 := ⟨d - 1, by omega⟩
  have hd : 0 ≤ d := by omega
  refine E_in (f := (fun r : Int32 => ((some (.int r), (SHF, g)) : Out))) rfl (Nat.le_of_ble_eq_true rfl) ?_
  unfold net_sumOfKind_k0_0
  change Lt X d (some .int) k_31 _ 0 [some (.ref 2), some (.int 0), some (.int 0), none, none] [] g _
  refine L_ic (pc' := 1) rfl q1_0 rfl ?_
  refine L_s (pc' := 2) (L' := [some (.ref 2), some (.int 0), some (.int 0), some (.int 0), none]) rfl rfl ?_
  refine L_ic (pc' := 3) rfl q1_0 rfl ?_
  refine L_s (pc' := 5) (L' := [some (.ref 2), some (.int 0), some (.int 0), some (.int 0), some (.int 0)]) rfl rfl ?_
  exact p_net_sumOfKind_k0_0_5 hd F _ _
def net_sumOfKind_k0_4_5 : Nat → Int32 → Int32 → Sg → Option (Int32)
  | 0, _, _, _ => none
  | n + 1, v3, v4, g =>
    (if (g 2 1) ≤ v4 then
      (some v3)
    else
      (if inb v4 10 = true then (if ¬ (g 3 (Int32.toNatClampNeg v4)) = 4 then
        (net_sumOfKind_k0_4_5 n v3 (v4 + 1) g)
      else
        (if inb v4 10 = true then lt1 ((v3 + (g 7 (Int32.toNatClampNeg v4))) : Int32) (fun x1 => (net_sumOfKind_k0_4_5 n x1 (v4 + 1) g)) else none)) else none))
def net_sumOfKind_k0_4 (F : Nat)  (g : Sg) : Option (Int32) :=
  (net_sumOfKind_k0_4_5 F 0 0 g)
theorem p_net_sumOfKind_k0_4_5 {X : Xx} {d : Nat} {g : Sg} (hd : 0 ≤ d) : ∀ (n : Nat) (v3 : Int32) (v4 : Int32), Lt X d (some .int) k_31 (fun r : Int32 => ((some (.int r), (SHF, g)) : Out)) 5 [some (.ref 2), some (.int 0), some (.int 4), some (.int v3), some (.int v4)] [] g (net_sumOfKind_k0_4_5 n v3 v4 g) := by
  intro n
  induction n with
  | zero => intros; exact L_none
  | succ n ih =>
    intro v3 v4
    show Lt X d (some .int) k_31 (fun r : Int32 => ((some (.int r), (SHF, g)) : Out)) 5 [some (.ref 2), some (.int 0), some (.int 4), some (.int v3), some (.int v4)] [] g (
      (if (g 2 1) ≤ v4 then
        (some v3)
      else
        (if inb v4 10 = true then (if ¬ (g 3 (Int32.toNatClampNeg v4)) = 4 then
          (net_sumOfKind_k0_4_5 n v3 (v4 + 1) g)
        else
          (if inb v4 10 = true then lt1 ((v3 + (g 7 (Int32.toNatClampNeg v4))) : Int32) (fun x1 => (net_sumOfKind_k0_4_5 n x1 (v4 + 1) g)) else none)) else none)))
    refine L_s (pc' := 7) rfl rfl ?_
    refine L_s (pc' := 8) rfl rfl ?_
    refine L_gf (pc' := 11) rfl fi_2_1 rfl ?_
    refine L_br (t := 43) (n := 14) rfl rfl (fun _ => ?_) (fun _ => ?_)
    · refine L_s (pc' := 44) rfl rfl ?_
      exact L_ret rfl ret_i rfl
    · refine L_s (pc' := 15) rfl rfl ?_
      refine L_gf (pc' := 18) rfl fr_2_2 rfl ?_
      refine L_s (pc' := 20) rfl rfl ?_
      refine L_rI (pc' := 21) rfl sh_3 (by decide) rfl ?_
      refine L_s (pc' := 22) rfl rfl ?_
      refine L_br (t := 37) (n := 25) rfl rfl (fun _ => ?_) (fun _ => ?_)
      · refine L_ii (pc' := 40) (L' := [some (.ref 2), some (.int 0), some (.int 4), some (.int v3), some (.int (v4 + 1))]) rfl rfl q1_1 rfl rfl rfl ?_
        refine L_s (pc' := 5) rfl rfl ?_
        exact ih _ _
      · refine L_s (pc' := 26) rfl rfl ?_
        refine L_s (pc' := 27) rfl rfl ?_
        refine L_gf (pc' := 30) rfl fr_2_5 rfl ?_
        refine L_s (pc' := 31) rfl rfl ?_
        refine L_aa (pc' := 32) rfl sh_6 (by decide) (by decide) rfl rfl ?_
        refine L_s (pc' := 34) rfl rfl ?_
        refine L_rI (pc' := 35) rfl sh_7 (by decide) rfl ?_
        refine L_s (pc' := 36) rfl rfl ?_
        refine L_li fun x1 _ => ?_
        refine L_s (pc' := 37) (L' := [some (.ref 2), some (.int 0), some (.int 4), some (.int x1), some (.int v4)]) rfl rfl ?_
        refine L_ii (pc' := 40) (L' := [some (.ref 2), some (.int 0), some (.int 4), some (.int x1), some (.int (v4 + 1))]) rfl rfl q1_1 rfl rfl rfl ?_
        refine L_s (pc' := 5) rfl rfl ?_
        exact ih _ _
theorem e_net_sumOfKind_k0_4 {X : Xx} {d : Nat} (hd : 1 ≤ d) (F : Nat)  (g : Sg) : ∀ r, net_sumOfKind_k0_4 F  g = some r → EvM zft mtl X d 31 [.ref 2, .int 0, .int 4] (SHF, g) ((fun r : Int32 => ((some (.int r), (SHF, g)) : Out)) r) := by
  obtain ⟨d, rfl⟩ : ∃ d0, d = d0 + 1 := ⟨d - 1, by omega⟩
  have hd : 0 ≤ d := by omega
  refine E_in (f := (fun r : Int32 => ((some (.int r), (SHF, g)) : Out))) rfl (Nat.le_of_ble_eq_true rfl) ?_
  unfold net_sumOfKind_k0_4
  change Lt X d (some .int) k_31 _ 0 [some (.ref 2), some (.int 0), some (.int 4), none, none] [] g _
  refine L_ic (pc' := 1) rfl q1_0 rfl ?_
  refine L_s (pc' := 2) (L' := [some (.ref 2), some (.int 0), some (.int 4), some (.int 0), none]) rfl rfl ?_
  refine L_ic (pc' := 3) rfl q1_0 rfl ?_
  refine L_s (pc' := 5) (L' := [some (.ref 2), some (.int 0), some (.int 4), some (.int 0), some (.int 0)]) rfl rfl ?_
  exact p_net_sumOfKind_k0_4_5 hd F _ _
def net_sumOfKind_k0_2_5 : Nat → Int32 → Int32 → Sg → Option (Int32)
  | 0, _, _, _ => none
  | n + 1, v3, v4, g =>
    (if (g 2 1) ≤ v4 then
      (some v3)
    else
      (if inb v4 10 = true then (if ¬ (g 3 (Int32.toNatClampNeg v4)) = 2 then
        (net_sumOfKind_k0_2_5 n v3 (v4 + 1) g)
      else
        (if inb v4 10 = true then lt1 ((v3 + (g 7 (Int32.toNatClampNeg v4))) : Int32) (fun x1 => (net_sumOfKind_k0_2_5 n x1 (v4 + 1) g)) else none)) else none))
def net_sumOfKind_k0_2 (F : Nat)  (g : Sg) : Option (Int32) :=
  (net_sumOfKind_k0_2_5 F 0 0 g)
theorem p_net_sumOfKind_k0_2_5 {X : Xx} {d : Nat} {g : Sg} (hd : 0 ≤ d) : ∀ (n : Nat) (v3 : Int32) (v4 : Int32), Lt X d (some .int) k_31 (fun r : Int32 => ((some (.int r), (SHF, g)) : Out)) 5 [some (.ref 2), some (.int 0), some (.int 2), some (.int v3), some (.int v4)] [] g (net_sumOfKind_k0_2_5 n v3 v4 g) := by
  intro n
  induction n with
  | zero => intros; exact L_none
  | succ n ih =>
    intro v3 v4
    show Lt X d (some .int) k_31 (fun r : Int32 => ((some (.int r), (SHF, g)) : Out)) 5 [some (.ref 2), some (.int 0), some (.int 2), some (.int v3), some (.int v4)] [] g (
      (if (g 2 1) ≤ v4 then
        (some v3)
      else
        (if inb v4 10 = true then (if ¬ (g 3 (Int32.toNatClampNeg v4)) = 2 then
          (net_sumOfKind_k0_2_5 n v3 (v4 + 1) g)
        else
          (if inb v4 10 = true then lt1 ((v3 + (g 7 (Int32.toNatClampNeg v4))) : Int32) (fun x1 => (net_sumOfKind_k0_2_5 n x1 (v4 + 1) g)) else none)) else none)))
    refine L_s (pc' := 7) rfl rfl ?_
    refine L_s (pc' := 8) rfl rfl ?_
    refine L_gf (pc' := 11) rfl fi_2_1 rfl ?_
    refine L_br (t := 43) (n := 14) rfl rfl (fun _ => ?_) (fun _ => ?_)
    · refine L_s (pc' := 44) rfl rfl ?_
      exact L_ret rfl ret_i rfl
    · refine L_s (pc' := 15) rfl rfl ?_
      refine L_gf (pc' := 18) rfl fr_2_2 rfl ?_
      refine L_s (pc' := 20) rfl rfl ?_
      refine L_rI (pc' := 21) rfl sh_3 (by decide) rfl ?_
      refine L_s (pc' := 22) rfl rfl ?_
      refine L_br (t := 37) (n := 25) rfl rfl (fun _ => ?_) (fun _ => ?_)
      · refine L_ii (pc' := 40) (L' := [some (.ref 2), some (.int 0), some (.int 2), some (.int v3), some (.int (v4 + 1))]) rfl rfl q1_1 rfl rfl rfl ?_
        refine L_s (pc' := 5) rfl rfl ?_
        exact ih _ _
      · refine L_s (pc' := 26) rfl rfl ?_
        refine L_s (pc' := 27) rfl rfl ?_
        refine L_gf (pc' := 30) rfl fr_2_5 rfl ?_
        refine L_s (pc' := 31) rfl rfl ?_
        refine L_aa (pc' := 32) rfl sh_6 (by decide) (by decide) rfl rfl ?_
        refine L_s (pc' := 34) rfl rfl ?_
        refine L_rI (pc' := 35) rfl sh_7 (by decide) rfl ?_
        refine L_s (pc' := 36) rfl rfl ?_
        refine L_li fun x1 _ => ?_
        refine L_s (pc' := 37) (L' := [some (.ref 2), some (.int 0), some (.int 2), some (.int x1), some (.int v4)]) rfl rfl ?_
        refine L_ii (pc' := 40) (L' := [some (.ref 2), some (.int 0), some (.int 2), some (.int x1), some (.int (v4 + 1))]) rfl rfl q1_1 rfl rfl rfl ?_
        refine L_s (pc' := 5) rfl rfl ?_
        exact ih _ _
theorem e_net_sumOfKind_k0_2 {X : Xx} {d : Nat} (hd : 1 ≤ d) (F : Nat)  (g : Sg) : ∀ r, net_sumOfKind_k0_2 F  g = some r → EvM zft mtl X d 31 [.ref 2, .int 0, .int 2] (SHF, g) ((fun r : Int32 => ((some (.int r), (SHF, g)) : Out)) r) := by
  obtain ⟨d, rfl⟩ : ∃ d0, d = d0 + 1 := ⟨d - 1, by omega⟩
  have hd : 0 ≤ d := by omega
  refine E_in (f := (fun r : Int32 => ((some (.int r), (SHF, g)) : Out))) rfl (Nat.le_of_ble_eq_true rfl) ?_
  unfold net_sumOfKind_k0_2
  change Lt X d (some .int) k_31 _ 0 [some (.ref 2), some (.int 0), some (.int 2), none, none] [] g _
  refine L_ic (pc' := 1) rfl q1_0 rfl ?_
  refine L_s (pc' := 2) (L' := [some (.ref 2), some (.int 0), some (.int 2), some (.int 0), none]) rfl rfl ?_
  refine L_ic (pc' := 3) rfl q1_0 rfl ?_
  refine L_s (pc' := 5) (L' := [some (.ref 2), some (.int 0), some (.int 2), some (.int 0), some (.int 0)]) rfl rfl ?_
  exact p_net_sumOfKind_k0_2_5 hd F _ _
def net_allUnderWay_k0_4 (F : Nat) : Nat → Int32 → Int32 → Sg → Option (Int32)
  | 0, _, _, _ => none
  | n + 1, v2, v3, g =>
    (if (g 2 6) ≤ v3 then
      (some v2)
    else
      Option.bind (net_underWay_k0 F v3 g) (fun x1 => lt1 ((v2 + x1) : Int32) (fun x2 => (net_allUnderWay_k0_4 F n x2 (v3 + 1) g))))
def net_allUnderWay_k0 (F : Nat)  (g : Sg) : Option (Int32) :=
  (net_allUnderWay_k0_4 F F 0 0 g)
theorem p_net_allUnderWay_k0_4 {X : Xx} {d : Nat} {g : Sg} (hd : 1 ≤ d) (F : Nat) : ∀ (n : Nat) (v2 : Int32) (v3 : Int32), Lt X d (some .int) k_30 (fun r : Int32 => ((some (.int r), (SHF, g)) : Out)) 4 [some (.ref 2), some (.int 0), some (.int v2), some (.int v3)] [] g (net_allUnderWay_k0_4 F n v2 v3 g) := by
  intro n
  induction n with
  | zero => intros; exact L_none
  | succ n ih =>
    intro v2 v3
    show Lt X d (some .int) k_30 (fun r : Int32 => ((some (.int r), (SHF, g)) : Out)) 4 [some (.ref 2), some (.int 0), some (.int v2), some (.int v3)] [] g (
      (if (g 2 6) ≤ v3 then
        (some v2)
      else
        Option.bind (net_underWay_k0 F v3 g) (fun x1 => lt1 ((v2 + x1) : Int32) (fun x2 => (net_allUnderWay_k0_4 F n x2 (v3 + 1) g)))))
    refine L_s (pc' := 5) rfl rfl ?_
    refine L_s (pc' := 6) rfl rfl ?_
    refine L_gf (pc' := 9) rfl fi_2_6 rfl ?_
    refine L_br (t := 27) (n := 12) rfl rfl (fun _ => ?_) (fun _ => ?_)
    · refine L_s (pc' := 28) rfl rfl ?_
      exact L_ret rfl ret_i rfl
    · refine L_s (pc' := 13) rfl rfl ?_
      refine L_s (pc' := 14) rfl rfl ?_
      refine L_s (pc' := 15) rfl rfl ?_
      refine L_s (pc' := 16) rfl rfl ?_
      refine L_ci (pc' := 19) (as := [.ref 2, .int 0, .int v3]) (rest := [.int v2]) rfl rfl (e_net_underWay_k0 (by omega) F _ _) rfl fun x1 => ?_
      refine L_s (pc' := 20) rfl rfl ?_
      refine L_li fun x2 _ => ?_
      refine L_s (pc' := 21) (L' := [some (.ref 2), some (.int 0), some (.int x2), some (.int v3)]) rfl rfl ?_
      refine L_ii (pc' := 24) (L' := [some (.ref 2), some (.int 0), some (.int x2), some (.int (v3 + 1))]) rfl rfl q1_1 rfl rfl rfl ?_
      refine L_s (pc' := 4) rfl rfl ?_
      exact ih _ _
theorem e_net_allUnderWay_k0 {X : Xx} {d : Nat} (hd : 2 ≤ d) (F : Nat)  (g : Sg) : ∀ r, net_allUnderWay_k0 F  g = some r → EvM zft mtl X d 30 [.ref 2, .int 0] (SHF, g) ((fun r : Int32 => ((some (.int r), (SHF, g)) : Out)) r) := by
  obtain ⟨d, rfl⟩ : ∃ d0, d = d0 + 1 := ⟨d - 1, by omega⟩
  have hd : 1 ≤ d := by omega
  refine E_in (f := (fun r : Int32 => ((some (.int r), (SHF, g)) : Out))) rfl (Nat.le_of_ble_eq_true rfl) ?_
  unfold net_allUnderWay_k0
  change Lt X d (some .int) k_30 _ 0 [some (.ref 2), some (.int 0), none, none] [] g _
  refine L_ic (pc' := 1) rfl q1_0 rfl ?_
  refine L_s (pc' := 2) (L' := [some (.ref 2), some (.int 0), some (.int 0), none]) rfl rfl ?_
  refine L_ic (pc' := 3) rfl q1_0 rfl ?_
  refine L_s (pc' := 4) (L' := [some (.ref 2), some (.int 0), some (.int 0), some (.int 0)]) rfl rfl ?_
  exact p_net_allUnderWay_k0_4 hd F F _ _
def net_sumOfKind_k1_0_5 : Nat → Int32 → Int32 → Sg → Option (Int32)
  | 0, _, _, _ => none
  | n + 1, v3, v4, g =>
    (if (g 2 1) ≤ v4 then
      (some v3)
    else
      (if inb v4 10 = true then (if ¬ (g 3 (Int32.toNatClampNeg v4)) = 0 then
        (net_sumOfKind_k1_0_5 n v3 (v4 + 1) g)
      else
        (if inb v4 10 = true then lt1 ((v3 + (g 8 (Int32.toNatClampNeg v4))) : Int32) (fun x1 => (net_sumOfKind_k1_0_5 n x1 (v4 + 1) g)) else none)) else none))
def net_sumOfKind_k1_0 (F : Nat)  (g : Sg) : Option (Int32) :=
  (net_sumOfKind_k1_0_5 F 0 0 g)
theorem p_net_sumOfKind_k1_0_5 {X : Xx} {d : Nat} {g : Sg} (hd : 0 ≤ d) : ∀ (n : Nat) (v3 : Int32) (v4 : Int32), Lt X d (some .int) k_31 (fun r : Int32 => ((some (.int r), (SHF, g)) : Out)) 5 [some (.ref 2), some (.int 1), some (.int 0), some (.int v3), some (.int v4)] [] g (net_sumOfKind_k1_0_5 n v3 v4 g) := by
  intro n
  induction n with
  | zero => intros; exact L_none
  | succ n ih =>
    intro v3 v4
    show Lt X d (some .int) k_31 (fun r : Int32 => ((some (.int r), (SHF, g)) : Out)) 5 [some (.ref 2), some (.int 1), some (.int 0), some (.int v3), some (.int v4)] [] g (
      (if (g 2 1) ≤ v4 then
        (some v3)
      else
        (if inb v4 10 = true then (if ¬ (g 3 (Int32.toNatClampNeg v4)) = 0 then
          (net_sumOfKind_k1_0_5 n v3 (v4 + 1) g)
        else
          (if inb v4 10 = true then lt1 ((v3 + (g 8 (Int32.toNatClampNeg v4))) : Int32) (fun x1 => (net_sumOfKind_k1_0_5 n x1 (v4 + 1) g)) else none)) else none)))
    refine L_s (pc' := 7) rfl rfl ?_
    refine L_s (pc' := 8) rfl rfl ?_
    refine L_gf (pc' := 11) rfl fi_2_1 rfl ?_
    refine L_br (t := 43) (n := 14) rfl rfl (fun _ => ?_) (fun _ => ?_)
    · refine L_s (pc' := 44) rfl rfl ?_
      exact L_ret rfl ret_i rfl
    · refine L_s (pc' := 15) rfl rfl ?_
      refine L_gf (pc' := 18) rfl fr_2_2 rfl ?_
      refine L_s (pc' := 20) rfl rfl ?_
      refine L_rI (pc' := 21) rfl sh_3 (by decide) rfl ?_
      refine L_s (pc' := 22) rfl rfl ?_
      refine L_br (t := 37) (n := 25) rfl rfl (fun _ => ?_) (fun _ => ?_)
      · refine L_ii (pc' := 40) (L' := [some (.ref 2), some (.int 1), some (.int 0), some (.int v3), some (.int (v4 + 1))]) rfl rfl q1_1 rfl rfl rfl ?_
        refine L_s (pc' := 5) rfl rfl ?_
        exact ih _ _
      · refine L_s (pc' := 26) rfl rfl ?_
        refine L_s (pc' := 27) rfl rfl ?_
        refine L_gf (pc' := 30) rfl fr_2_5 rfl ?_
        refine L_s (pc' := 31) rfl rfl ?_
        refine L_aa (pc' := 32) rfl sh_6 (by decide) (by decide) rfl rfl ?_
        refine L_s (pc' := 34) rfl rfl ?_
        refine L_rI (pc' := 35) rfl sh_8 (by decide) rfl ?_
        refine L_s (pc' := 36) rfl rfl ?_
        refine L_li fun x1 _ => ?_
        refine L_s (pc' := 37) (L' := [some (.ref 2), some (.int 1), some (.int 0), some (.int x1), some (.int v4)]) rfl rfl ?_
        refine L_ii (pc' := 40) (L' := [some (.ref 2), some (.int 1), some (.int 0), some (.int x1), some (.int (v4 + 1))]) rfl rfl q1_1 rfl rfl rfl ?_
        refine L_s (pc' := 5) rfl rfl ?_
        exact ih _ _
theorem e_net_sumOfKind_k1_0 {X : Xx} {d : Nat} (hd : 1 ≤ d) (F : Nat)  (g : Sg) : ∀ r, net_sumOfKind_k1_0 F  g = some r → EvM zft mtl X d 31 [.ref 2, .int 1, .int 0] (SHF, g) ((fun r : Int32 => ((some (.int r), (SHF, g)) : Out)) r) := by
  obtain ⟨d, rfl⟩ : ∃ d0, d = d0 + 1 := ⟨d - 1, by omega⟩
  have hd : 0 ≤ d := by omega
  refine E_in (f := (fun r : Int32 => ((some (.int r), (SHF, g)) : Out))) rfl (Nat.le_of_ble_eq_true rfl) ?_
  unfold net_sumOfKind_k1_0
  change Lt X d (some .int) k_31 _ 0 [some (.ref 2), some (.int 1), some (.int 0), none, none] [] g _
  refine L_ic (pc' := 1) rfl q1_0 rfl ?_
  refine L_s (pc' := 2) (L' := [some (.ref 2), some (.int 1), some (.int 0), some (.int 0), none]) rfl rfl ?_
  refine L_ic (pc' := 3) rfl q1_0 rfl ?_
  refine L_s (pc' := 5) (L' := [some (.ref 2), some (.int 1), some (.int 0), some (.int 0), some (.int 0)]) rfl rfl ?_
  exact p_net_sumOfKind_k1_0_5 hd F _ _
def net_sumOfKind_k1_4_5 : Nat → Int32 → Int32 → Sg → Option (Int32)
  | 0, _, _, _ => none
  | n + 1, v3, v4, g =>
    (if (g 2 1) ≤ v4 then
      (some v3)
    else
      (if inb v4 10 = true then (if ¬ (g 3 (Int32.toNatClampNeg v4)) = 4 then
        (net_sumOfKind_k1_4_5 n v3 (v4 + 1) g)
      else
        (if inb v4 10 = true then lt1 ((v3 + (g 8 (Int32.toNatClampNeg v4))) : Int32) (fun x1 => (net_sumOfKind_k1_4_5 n x1 (v4 + 1) g)) else none)) else none))
def net_sumOfKind_k1_4 (F : Nat)  (g : Sg) : Option (Int32) :=
  (net_sumOfKind_k1_4_5 F 0 0 g)
theorem p_net_sumOfKind_k1_4_5 {X : Xx} {d : Nat} {g : Sg} (hd : 0 ≤ d) : ∀ (n : Nat) (v3 : Int32) (v4 : Int32), Lt X d (some .int) k_31 (fun r : Int32 => ((some (.int r), (SHF, g)) : Out)) 5 [some (.ref 2), some (.int 1), some (.int 4), some (.int v3), some (.int v4)] [] g (net_sumOfKind_k1_4_5 n v3 v4 g) := by
  intro n
  induction n with
  | zero => intros; exact L_none
  | succ n ih =>
    intro v3 v4
    show Lt X d (some .int) k_31 (fun r : Int32 => ((some (.int r), (SHF, g)) : Out)) 5 [some (.ref 2), some (.int 1), some (.int 4), some (.int v3), some (.int v4)] [] g (
      (if (g 2 1) ≤ v4 then
        (some v3)
      else
        (if inb v4 10 = true then (if ¬ (g 3 (Int32.toNatClampNeg v4)) = 4 then
          (net_sumOfKind_k1_4_5 n v3 (v4 + 1) g)
        else
          (if inb v4 10 = true then lt1 ((v3 + (g 8 (Int32.toNatClampNeg v4))) : Int32) (fun x1 => (net_sumOfKind_k1_4_5 n x1 (v4 + 1) g)) else none)) else none)))
    refine L_s (pc' := 7) rfl rfl ?_
    refine L_s (pc' := 8) rfl rfl ?_
    refine L_gf (pc' := 11) rfl fi_2_1 rfl ?_
    refine L_br (t := 43) (n := 14) rfl rfl (fun _ => ?_) (fun _ => ?_)
    · refine L_s (pc' := 44) rfl rfl ?_
      exact L_ret rfl ret_i rfl
    · refine L_s (pc' := 15) rfl rfl ?_
      refine L_gf (pc' := 18) rfl fr_2_2 rfl ?_
      refine L_s (pc' := 20) rfl rfl ?_
      refine L_rI (pc' := 21) rfl sh_3 (by decide) rfl ?_
      refine L_s (pc' := 22) rfl rfl ?_
      refine L_br (t := 37) (n := 25) rfl rfl (fun _ => ?_) (fun _ => ?_)
      · refine L_ii (pc' := 40) (L' := [some (.ref 2), some (.int 1), some (.int 4), some (.int v3), some (.int (v4 + 1))]) rfl rfl q1_1 rfl rfl rfl ?_
        refine L_s (pc' := 5) rfl rfl ?_
        exact ih _ _
      · refine L_s (pc' := 26) rfl rfl ?_
        refine L_s (pc' := 27) rfl rfl ?_
        refine L_gf (pc' := 30) rfl fr_2_5 rfl ?_
        refine L_s (pc' := 31) rfl rfl ?_
        refine L_aa (pc' := 32) rfl sh_6 (by decide) (by decide) rfl rfl ?_
        refine L_s (pc' := 34) rfl rfl ?_
        refine L_rI (pc' := 35) rfl sh_8 (by decide) rfl ?_
        refine L_s (pc' := 36) rfl rfl ?_
        refine L_li fun x1 _ => ?_
        refine L_s (pc' := 37) (L' := [some (.ref 2), some (.int 1), some (.int 4), some (.int x1), some (.int v4)]) rfl rfl ?_
        refine L_ii (pc' := 40) (L' := [some (.ref 2), some (.int 1), some (.int 4), some (.int x1), some (.int (v4 + 1))]) rfl rfl q1_1 rfl rfl rfl ?_
        refine L_s (pc' := 5) rfl rfl ?_
        exact ih _ _
theorem e_net_sumOfKind_k1_4 {X : Xx} {d : Nat} (hd : 1 ≤ d) (F : Nat)  (g : Sg) : ∀ r, net_sumOfKind_k1_4 F  g = some r → EvM zft mtl X d 31 [.ref 2, .int 1, .int 4] (SHF, g) ((fun r : Int32 => ((some (.int r), (SHF, g)) : Out)) r) := by
  obtain ⟨d, rfl⟩ : ∃ d0, d = d0 + 1 := ⟨d - 1, by omega⟩
  have hd : 0 ≤ d := by omega
  refine E_in (f := (fun r : Int32 => ((some (.int r), (SHF, g)) : Out))) rfl (Nat.le_of_ble_eq_true rfl) ?_
  unfold net_sumOfKind_k1_4
  change Lt X d (some .int) k_31 _ 0 [some (.ref 2), some (.int 1), some (.int 4), none, none] [] g _
  refine L_ic (pc' := 1) rfl q1_0 rfl ?_
  refine L_s (pc' := 2) (L' := [some (.ref 2), some (.int 1), some (.int 4), some (.int 0), none]) rfl rfl ?_
  refine L_ic (pc' := 3) rfl q1_0 rfl ?_
  refine L_s (pc' := 5) (L' := [some (.ref 2), some (.int 1), some (.int 4), some (.int 0), some (.int 0)]) rfl rfl ?_
  exact p_net_sumOfKind_k1_4_5 hd F _ _
def net_sumOfKind_k1_2_5 : Nat → Int32 → Int32 → Sg → Option (Int32)
  | 0, _, _, _ => none
  | n + 1, v3, v4, g =>
    (if (g 2 1) ≤ v4 then
      (some v3)
    else
      (if inb v4 10 = true then (if ¬ (g 3 (Int32.toNatClampNeg v4)) = 2 then
        (net_sumOfKind_k1_2_5 n v3 (v4 + 1) g)
      else
        (if inb v4 10 = true then lt1 ((v3 + (g 8 (Int32.toNatClampNeg v4))) : Int32) (fun x1 => (net_sumOfKind_k1_2_5 n x1 (v4 + 1) g)) else none)) else none))
def net_sumOfKind_k1_2 (F : Nat)  (g : Sg) : Option (Int32) :=
  (net_sumOfKind_k1_2_5 F 0 0 g)
theorem p_net_sumOfKind_k1_2_5 {X : Xx} {d : Nat} {g : Sg} (hd : 0 ≤ d) : ∀ (n : Nat) (v3 : Int32) (v4 : Int32), Lt X d (some .int) k_31 (fun r : Int32 => ((some (.int r), (SHF, g)) : Out)) 5 [some (.ref 2), some (.int 1), some (.int 2), some (.int v3), some (.int v4)] [] g (net_sumOfKind_k1_2_5 n v3 v4 g) := by
  intro n
  induction n with
  | zero => intros; exact L_none
  | succ n ih =>
    intro v3 v4
    show Lt X d (some .int) k_31 (fun r : Int32 => ((some (.int r), (SHF, g)) : Out)) 5 [some (.ref 2), some (.int 1), some (.int 2), some (.int v3), some (.int v4)] [] g (
      (if (g 2 1) ≤ v4 then
        (some v3)
      else
        (if inb v4 10 = true then (if ¬ (g 3 (Int32.toNatClampNeg v4)) = 2 then
          (net_sumOfKind_k1_2_5 n v3 (v4 + 1) g)
        else
          (if inb v4 10 = true then lt1 ((v3 + (g 8 (Int32.toNatClampNeg v4))) : Int32) (fun x1 => (net_sumOfKind_k1_2_5 n x1 (v4 + 1) g)) else none)) else none)))
    refine L_s (pc' := 7) rfl rfl ?_
    refine L_s (pc' := 8) rfl rfl ?_
    refine L_gf (pc' := 11) rfl fi_2_1 rfl ?_
    refine L_br (t := 43) (n := 14) rfl rfl (fun _ => ?_) (fun _ => ?_)
    · refine L_s (pc' := 44) rfl rfl ?_
      exact L_ret rfl ret_i rfl
    · refine L_s (pc' := 15) rfl rfl ?_
      refine L_gf (pc' := 18) rfl fr_2_2 rfl ?_
      refine L_s (pc' := 20) rfl rfl ?_
      refine L_rI (pc' := 21) rfl sh_3 (by decide) rfl ?_
      refine L_s (pc' := 22) rfl rfl ?_
      refine L_br (t := 37) (n := 25) rfl rfl (fun _ => ?_) (fun _ => ?_)
      · refine L_ii (pc' := 40) (L' := [some (.ref 2), some (.int 1), some (.int 2), some (.int v3), some (.int (v4 + 1))]) rfl rfl q1_1 rfl rfl rfl ?_
        refine L_s (pc' := 5) rfl rfl ?_
        exact ih _ _
      · refine L_s (pc' := 26) rfl rfl ?_
        refine L_s (pc' := 27) rfl rfl ?_
        refine L_gf (pc' := 30) rfl fr_2_5 rfl ?_
        refine L_s (pc' := 31) rfl rfl ?_
        refine L_aa (pc' := 32) rfl sh_6 (by decide) (by decide) rfl rfl ?_
        refine L_s (pc' := 34) rfl rfl ?_
        refine L_rI (pc' := 35) rfl sh_8 (by decide) rfl ?_
        refine L_s (pc' := 36) rfl rfl ?_
        refine L_li fun x1 _ => ?_
        refine L_s (pc' := 37) (L' := [some (.ref 2), some (.int 1), some (.int 2), some (.int x1), some (.int v4)]) rfl rfl ?_
        refine L_ii (pc' := 40) (L' := [some (.ref 2), some (.int 1), some (.int 2), some (.int x1), some (.int (v4 + 1))]) rfl rfl q1_1 rfl rfl rfl ?_
        refine L_s (pc' := 5) rfl rfl ?_
        exact ih _ _
theorem e_net_sumOfKind_k1_2 {X : Xx} {d : Nat} (hd : 1 ≤ d) (F : Nat)  (g : Sg) : ∀ r, net_sumOfKind_k1_2 F  g = some r → EvM zft mtl X d 31 [.ref 2, .int 1, .int 2] (SHF, g) ((fun r : Int32 => ((some (.int r), (SHF, g)) : Out)) r) := by
  obtain ⟨d, rfl⟩ : ∃ d0, d = d0 + 1 := ⟨d - 1, by omega⟩
  have hd : 0 ≤ d := by omega
  refine E_in (f := (fun r : Int32 => ((some (.int r), (SHF, g)) : Out))) rfl (Nat.le_of_ble_eq_true rfl) ?_
  unfold net_sumOfKind_k1_2
  change Lt X d (some .int) k_31 _ 0 [some (.ref 2), some (.int 1), some (.int 2), none, none] [] g _
  refine L_ic (pc' := 1) rfl q1_0 rfl ?_
  refine L_s (pc' := 2) (L' := [some (.ref 2), some (.int 1), some (.int 2), some (.int 0), none]) rfl rfl ?_
  refine L_ic (pc' := 3) rfl q1_0 rfl ?_
  refine L_s (pc' := 5) (L' := [some (.ref 2), some (.int 1), some (.int 2), some (.int 0), some (.int 0)]) rfl rfl ?_
  exact p_net_sumOfKind_k1_2_5 hd F _ _
def net_allUnderWay_k1_4 (F : Nat) : Nat → Int32 → Int32 → Sg → Option (Int32)
  | 0, _, _, _ => none
  | n + 1, v2, v3, g =>
    (if (g 2 6) ≤ v3 then
      (some v2)
    else
      Option.bind (net_underWay_k1 F v3 g) (fun x1 => lt1 ((v2 + x1) : Int32) (fun x2 => (net_allUnderWay_k1_4 F n x2 (v3 + 1) g))))
def net_allUnderWay_k1 (F : Nat)  (g : Sg) : Option (Int32) :=
  (net_allUnderWay_k1_4 F F 0 0 g)
theorem p_net_allUnderWay_k1_4 {X : Xx} {d : Nat} {g : Sg} (hd : 1 ≤ d) (F : Nat) : ∀ (n : Nat) (v2 : Int32) (v3 : Int32), Lt X d (some .int) k_30 (fun r : Int32 => ((some (.int r), (SHF, g)) : Out)) 4 [some (.ref 2), some (.int 1), some (.int v2), some (.int v3)] [] g (net_allUnderWay_k1_4 F n v2 v3 g) := by
  intro n
  induction n with
  | zero => intros; exact L_none
  | succ n ih =>
    intro v2 v3
    show Lt X d (some .int) k_30 (fun r : Int32 => ((some (.int r), (SHF, g)) : Out)) 4 [some (.ref 2), some (.int 1), some (.int v2), some (.int v3)] [] g (
      (if (g 2 6) ≤ v3 then
        (some v2)
      else
        Option.bind (net_underWay_k1 F v3 g) (fun x1 => lt1 ((v2 + x1) : Int32) (fun x2 => (net_allUnderWay_k1_4 F n x2 (v3 + 1) g)))))
    refine L_s (pc' := 5) rfl rfl ?_
    refine L_s (pc' := 6) rfl rfl ?_
    refine L_gf (pc' := 9) rfl fi_2_6 rfl ?_
    refine L_br (t := 27) (n := 12) rfl rfl (fun _ => ?_) (fun _ => ?_)
    · refine L_s (pc' := 28) rfl rfl ?_
      exact L_ret rfl ret_i rfl
    · refine L_s (pc' := 13) rfl rfl ?_
      refine L_s (pc' := 14) rfl rfl ?_
      refine L_s (pc' := 15) rfl rfl ?_
      refine L_s (pc' := 16) rfl rfl ?_
      refine L_ci (pc' := 19) (as := [.ref 2, .int 1, .int v3]) (rest := [.int v2]) rfl rfl (e_net_underWay_k1 (by omega) F _ _) rfl fun x1 => ?_
      refine L_s (pc' := 20) rfl rfl ?_
      refine L_li fun x2 _ => ?_
      refine L_s (pc' := 21) (L' := [some (.ref 2), some (.int 1), some (.int x2), some (.int v3)]) rfl rfl ?_
      refine L_ii (pc' := 24) (L' := [some (.ref 2), some (.int 1), some (.int x2), some (.int (v3 + 1))]) rfl rfl q1_1 rfl rfl rfl ?_
      refine L_s (pc' := 4) rfl rfl ?_
      exact ih _ _
theorem e_net_allUnderWay_k1 {X : Xx} {d : Nat} (hd : 2 ≤ d) (F : Nat)  (g : Sg) : ∀ r, net_allUnderWay_k1 F  g = some r → EvM zft mtl X d 30 [.ref 2, .int 1] (SHF, g) ((fun r : Int32 => ((some (.int r), (SHF, g)) : Out)) r) := by
  obtain ⟨d, rfl⟩ : ∃ d0, d = d0 + 1 := ⟨d - 1, by omega⟩
  have hd : 1 ≤ d := by omega
  refine E_in (f := (fun r : Int32 => ((some (.int r), (SHF, g)) : Out))) rfl (Nat.le_of_ble_eq_true rfl) ?_
  unfold net_allUnderWay_k1
  change Lt X d (some .int) k_30 _ 0 [some (.ref 2), some (.int 1), none, none] [] g _
  refine L_ic (pc' := 1) rfl q1_0 rfl ?_
  refine L_s (pc' := 2) (L' := [some (.ref 2), some (.int 1), some (.int 0), none]) rfl rfl ?_
  refine L_ic (pc' := 3) rfl q1_0 rfl ?_
  refine L_s (pc' := 4) (L' := [some (.ref 2), some (.int 1), some (.int 0), some (.int 0)]) rfl rfl ?_
  exact p_net_allUnderWay_k1_4 hd F F _ _
def x_all_17 (F : Nat) (v1 : Int32) (g : Sg) : Option (Int32) :=
  (if v1 = 0 then
    Option.bind (net_sumOfKind_k0_0 F g) (fun x1 => (some x1))
  else (if v1 = 1 then
    Option.bind (net_sumOfKind_k0_4 F g) (fun x3 => (some x3))
  else (if v1 = 2 then
    Option.bind (net_sumOfKind_k0_2 F g) (fun x5 => (some x5))
  else (if v1 = 3 then
    Option.bind (net_allUnderWay_k0 F g) (fun x7 => (some x7))
  else (if v1 = 4 then
    (some (g 19 0))
  else (if v1 = 5 then
    (some (g 20 0))
  else (if v1 = 6 then
    (some (g 21 0))
  else (some (-1)))))))))
def x_all_17_2 (F : Nat) (v1 : Int32) (g : Sg) : Option (Int32) :=
  (if v1 = 0 then
    Option.bind (net_sumOfKind_k1_0 F g) (fun x1 => (some x1))
  else (if v1 = 1 then
    Option.bind (net_sumOfKind_k1_4 F g) (fun x3 => (some x3))
  else (if v1 = 2 then
    Option.bind (net_sumOfKind_k1_2 F g) (fun x5 => (some x5))
  else (if v1 = 3 then
    Option.bind (net_allUnderWay_k1 F g) (fun x7 => (some x7))
  else (if v1 = 4 then
    (some (g 19 1))
  else (if v1 = 5 then
    (some (g 20 1))
  else (if v1 = 6 then
    (some (g 21 1))
  else (some (-1)))))))))
def x_all (F : Nat) (v1 : Int32) (v2 : Int32) (g : Sg) : Option (Int32) :=
  (if v2 = 0 then
    (x_all_17 F v1 g)
  else
    (x_all_17_2 F v1 g))
theorem p_x_all_17 {X : Xx} {d : Nat} {g : Sg} (hd : 2 ≤ d) (F : Nat) (v1 : Int32) : Lt X d (some .int) k_117 (fun r : Int32 => ((some (.int r), (SHF, g)) : Out)) 17 [none, some (.int v1), none, some (.ref 2), none] [.int 0] g (x_all_17 F v1 g) := by
  unfold x_all_17
  refine L_s (pc' := 19) (L' := [none, some (.int v1), none, some (.ref 2), some (.int 0)]) rfl rfl ?_
  refine L_s (pc' := 20) rfl rfl ?_
  refine L_if (fun h2 => ?_) (fun h2 => ?_)
  · subst h2
    refine L_ts (t := 64) (off := 44) rfl (by decide) rfl ?_
    refine L_s (pc' := 65) rfl rfl ?_
    refine L_s (pc' := 67) rfl rfl ?_
    refine L_ic (pc' := 68) rfl q1_0 rfl ?_
    refine L_ci (pc' := 71) (as := [.ref 2, .int 0, .int 0]) (rest := []) rfl rfl (e_net_sumOfKind_k0_0 (by omega) F _) rfl fun x1 => ?_
    exact L_ret rfl ret_i rfl
  refine L_if (fun h4 => ?_) (fun h4 => ?_)
  · subst h4
    refine L_ts (t := 72) (off := 52) rfl (by decide) rfl ?_
    refine L_s (pc' := 73) rfl rfl ?_
    refine L_s (pc' := 75) rfl rfl ?_
    refine L_ic (pc' := 76) rfl q1_4 rfl ?_
    refine L_ci (pc' := 79) (as := [.ref 2, .int 0, .int 4]) (rest := []) rfl rfl (e_net_sumOfKind_k0_4 (by omega) F _) rfl fun x3 => ?_
    exact L_ret rfl ret_i rfl
  refine L_if (fun h6 => ?_) (fun h6 => ?_)
  · subst h6
    refine L_ts (t := 80) (off := 60) rfl (by decide) rfl ?_
    refine L_s (pc' := 81) rfl rfl ?_
    refine L_s (pc' := 83) rfl rfl ?_
    refine L_ic (pc' := 84) rfl q1_2 rfl ?_
    refine L_ci (pc' := 87) (as := [.ref 2, .int 0, .int 2]) (rest := []) rfl rfl (e_net_sumOfKind_k0_2 (by omega) F _) rfl fun x5 => ?_
    exact L_ret rfl ret_i rfl
  refine L_if (fun h8 => ?_) (fun h8 => ?_)
  · subst h8
    refine L_ts (t := 88) (off := 68) rfl (by decide) rfl ?_
    refine L_s (pc' := 89) rfl rfl ?_
    refine L_s (pc' := 91) rfl rfl ?_
    refine L_ci (pc' := 94) (as := [.ref 2, .int 0]) (rest := []) rfl rfl (e_net_allUnderWay_k0 (by omega) F _) rfl fun x7 => ?_
    exact L_ret rfl ret_i rfl
  refine L_if (fun h9 => ?_) (fun h9 => ?_)
  · subst h9
    refine L_ts (t := 95) (off := 75) rfl (by decide) rfl ?_
    refine L_s (pc' := 96) rfl rfl ?_
    refine L_gf (pc' := 99) rfl fr_2_15 rfl ?_
    refine L_s (pc' := 101) rfl rfl ?_
    refine L_rIk (pc' := 102) (j := 0) rfl sh_19 (by decide) (by decide) (by decide) rfl ?_
    exact L_ret rfl ret_i rfl
  refine L_if (fun h10 => ?_) (fun h10 => ?_)
  · subst h10
    refine L_ts (t := 103) (off := 83) rfl (by decide) rfl ?_
    refine L_s (pc' := 104) rfl rfl ?_
    refine L_gf (pc' := 107) rfl fr_2_16 rfl ?_
    refine L_s (pc' := 109) rfl rfl ?_
    refine L_rIk (pc' := 110) (j := 0) rfl sh_20 (by decide) (by decide) (by decide) rfl ?_
    exact L_ret rfl ret_i rfl
  refine L_if (fun h11 => ?_) (fun h11 => ?_)
  · subst h11
    refine L_ts (t := 111) (off := 91) rfl (by decide) rfl ?_
    refine L_s (pc' := 112) rfl rfl ?_
    refine L_gf (pc' := 115) rfl fr_2_17 rfl ?_
    refine L_s (pc' := 117) rfl rfl ?_
    refine L_rIk (pc' := 118) (j := 0) rfl sh_21 (by decide) (by decide) (by decide) rfl ?_
    exact L_ret rfl ret_i rfl
  refine L_ts (off := 99) (t := 119) rfl (twf_out (n := 7) (by decide) (by decide) (fun j hj => by
    match j, hj with
    | 0, _ => exact fun e => h2 (e.trans (by decide))
    | 1, _ => exact fun e => h4 (e.trans (by decide))
    | 2, _ => exact fun e => h6 (e.trans (by decide))
    | 3, _ => exact fun e => h8 (e.trans (by decide))
    | 4, _ => exact fun e => h9 (e.trans (by decide))
    | 5, _ => exact fun e => h10 (e.trans (by decide))
    | 6, _ => exact fun e => h11 (e.trans (by decide))
    | j + 7, hj => exact absurd hj (by omega))) rfl ?_
  refine L_ic (pc' := 120) rfl q1_m1 rfl ?_
  exact L_ret rfl ret_i rfl
theorem p_x_all_17_2 {X : Xx} {d : Nat} {g : Sg} (hd : 2 ≤ d) (F : Nat) (v1 : Int32) : Lt X d (some .int) k_117 (fun r : Int32 => ((some (.int r), (SHF, g)) : Out)) 17 [none, some (.int v1), none, some (.ref 2), none] [.int 1] g (x_all_17_2 F v1 g) := by
  unfold x_all_17_2
  refine L_s (pc' := 19) (L' := [none, some (.int v1), none, some (.ref 2), some (.int 1)]) rfl rfl ?_
  refine L_s (pc' := 20) rfl rfl ?_
  refine L_if (fun h2 => ?_) (fun h2 => ?_)
  · subst h2
    refine L_ts (t := 64) (off := 44) rfl (by decide) rfl ?_
    refine L_s (pc' := 65) rfl rfl ?_
    refine L_s (pc' := 67) rfl rfl ?_
    refine L_ic (pc' := 68) rfl q1_0 rfl ?_
    refine L_ci (pc' := 71) (as := [.ref 2, .int 1, .int 0]) (rest := []) rfl rfl (e_net_sumOfKind_k1_0 (by omega) F _) rfl fun x1 => ?_
    exact L_ret rfl ret_i rfl
  refine L_if (fun h4 => ?_) (fun h4 => ?_)
  · subst h4
    refine L_ts (t := 72) (off := 52) rfl (by decide) rfl ?_
    refine L_s (pc' := 73) rfl rfl ?_
    refine L_s (pc' := 75) rfl rfl ?_
    refine L_ic (pc' := 76) rfl q1_4 rfl ?_
    refine L_ci (pc' := 79) (as := [.ref 2, .int 1, .int 4]) (rest := []) rfl rfl (e_net_sumOfKind_k1_4 (by omega) F _) rfl fun x3 => ?_
    exact L_ret rfl ret_i rfl
  refine L_if (fun h6 => ?_) (fun h6 => ?_)
  · subst h6
    refine L_ts (t := 80) (off := 60) rfl (by decide) rfl ?_
    refine L_s (pc' := 81) rfl rfl ?_
    refine L_s (pc' := 83) rfl rfl ?_
    refine L_ic (pc' := 84) rfl q1_2 rfl ?_
    refine L_ci (pc' := 87) (as := [.ref 2, .int 1, .int 2]) (rest := []) rfl rfl (e_net_sumOfKind_k1_2 (by omega) F _) rfl fun x5 => ?_
    exact L_ret rfl ret_i rfl
  refine L_if (fun h8 => ?_) (fun h8 => ?_)
  · subst h8
    refine L_ts (t := 88) (off := 68) rfl (by decide) rfl ?_
    refine L_s (pc' := 89) rfl rfl ?_
    refine L_s (pc' := 91) rfl rfl ?_
    refine L_ci (pc' := 94) (as := [.ref 2, .int 1]) (rest := []) rfl rfl (e_net_allUnderWay_k1 (by omega) F _) rfl fun x7 => ?_
    exact L_ret rfl ret_i rfl
  refine L_if (fun h9 => ?_) (fun h9 => ?_)
  · subst h9
    refine L_ts (t := 95) (off := 75) rfl (by decide) rfl ?_
    refine L_s (pc' := 96) rfl rfl ?_
    refine L_gf (pc' := 99) rfl fr_2_15 rfl ?_
    refine L_s (pc' := 101) rfl rfl ?_
    refine L_rIk (pc' := 102) (j := 1) rfl sh_19 (by decide) (by decide) (by decide) rfl ?_
    exact L_ret rfl ret_i rfl
  refine L_if (fun h10 => ?_) (fun h10 => ?_)
  · subst h10
    refine L_ts (t := 103) (off := 83) rfl (by decide) rfl ?_
    refine L_s (pc' := 104) rfl rfl ?_
    refine L_gf (pc' := 107) rfl fr_2_16 rfl ?_
    refine L_s (pc' := 109) rfl rfl ?_
    refine L_rIk (pc' := 110) (j := 1) rfl sh_20 (by decide) (by decide) (by decide) rfl ?_
    exact L_ret rfl ret_i rfl
  refine L_if (fun h11 => ?_) (fun h11 => ?_)
  · subst h11
    refine L_ts (t := 111) (off := 91) rfl (by decide) rfl ?_
    refine L_s (pc' := 112) rfl rfl ?_
    refine L_gf (pc' := 115) rfl fr_2_17 rfl ?_
    refine L_s (pc' := 117) rfl rfl ?_
    refine L_rIk (pc' := 118) (j := 1) rfl sh_21 (by decide) (by decide) (by decide) rfl ?_
    exact L_ret rfl ret_i rfl
  refine L_ts (off := 99) (t := 119) rfl (twf_out (n := 7) (by decide) (by decide) (fun j hj => by
    match j, hj with
    | 0, _ => exact fun e => h2 (e.trans (by decide))
    | 1, _ => exact fun e => h4 (e.trans (by decide))
    | 2, _ => exact fun e => h6 (e.trans (by decide))
    | 3, _ => exact fun e => h8 (e.trans (by decide))
    | 4, _ => exact fun e => h9 (e.trans (by decide))
    | 5, _ => exact fun e => h10 (e.trans (by decide))
    | 6, _ => exact fun e => h11 (e.trans (by decide))
    | j + 7, hj => exact absurd hj (by omega))) rfl ?_
  refine L_ic (pc' := 120) rfl q1_m1 rfl ?_
  exact L_ret rfl ret_i rfl
theorem e_x_all {X : Xx} {d : Nat} (hd : 3 ≤ d) (F : Nat) (v1 : Int32) (v2 : Int32) (g : Sg) : ∀ r, x_all F v1 v2 g = some r → EvM zft mtl X d 117 [.ref 0, .int v1, .int v2] (SHF, g) ((fun r : Int32 => ((some (.int r), (SHF, g)) : Out)) r) := by
  obtain ⟨d, rfl⟩ : ∃ d0, d = d0 + 1 := ⟨d - 1, by omega⟩
  have hd : 2 ≤ d := by omega
  refine E_in (f := (fun r : Int32 => ((some (.int r), (SHF, g)) : Out))) rfl (Nat.le_of_ble_eq_true rfl) ?_
  unfold x_all
  change Lt X d (some .int) k_117 _ 0 [some (.ref 0), some (.int v1), some (.int v2), none, none] [] g _
  refine L_s (pc' := 1) rfl rfl ?_
  refine L_gf (pc' := 4) rfl fr_0_0 rfl ?_
  refine L_gf (pc' := 7) rfl fr_1_0 rfl ?_
  refine L_s (pc' := 8) (L' := [some (.ref 0), some (.int v1), some (.int v2), some (.ref 2), none]) rfl rfl ?_
  refine L_s (pc' := 9) rfl rfl ?_
  refine L_br (t := 16) (n := 12) rfl rfl (fun _ => ?_) (fun _ => ?_)
  · refine L_ic (pc' := 17) rfl q1_0 rfl ?_
    refine L_wk (L' := [none, some (.int v1), none, some (.ref 2), none]) (wk_n (wk_s (wk_n (wk_s (wk_s wk_nil))))) ?_
    exact p_x_all_17 hd F _
  · refine L_ic (pc' := 13) rfl q1_1 rfl ?_
    refine L_s (pc' := 17) rfl rfl ?_
    refine L_wk (L' := [none, some (.int v1), none, some (.ref 2), none]) (wk_n (wk_s (wk_n (wk_s (wk_s wk_nil))))) ?_
    exact p_x_all_17_2 hd F _
def x_field_28 (v1 : Int32) (v2 : Int32) (g : Sg) : Option (Int32 × Sg) :=
  (if inb v1 8 = true then lt1 (up2 g 23 (Int32.toNatClampNeg v1) v2) (fun g1 => (some (1, g1))) else none)
def x_field (v1 : Int32) (v2 : Int32) (g : Sg) : Option (Int32 × Sg) :=
  Option.bind (x_isHolder v1 g) (fun x1 => (if x1 = 0 then
    (some (0, g))
  else
    (if v2 = (-1) then
      (x_field_28 v1 v2 g)
    else
      Option.bind (net_isField v2 g) (fun x2 => (if ¬ x2 = 0 then
        (x_field_28 v1 v2 g)
      else
        (some (0, g)))))))
theorem p_x_field_28 {X : Xx} {d : Nat} (hd : 2 ≤ d) (v1 : Int32) (v2 : Int32) (g : Sg) : Lt X d (some .boolean) k_118 (fun r : Int32 × Sg => ((some (.int r.1), (SHF, r.2)) : Out)) 28 [some (.ref 0), some (.int v1), some (.int v2)] [] g (x_field_28 v1 v2 g) := by
  unfold x_field_28
  refine L_s (pc' := 29) rfl rfl ?_
  refine L_gf (pc' := 32) rfl fr_0_0 rfl ?_
  refine L_gf (pc' := 35) rfl fr_1_1 rfl ?_
  refine L_gf (pc' := 38) rfl fr_22_0 rfl ?_
  refine L_s (pc' := 39) rfl rfl ?_
  refine L_s (pc' := 40) rfl rfl ?_
  refine L_wI (pc' := 41) rfl sh_23 (by decide) rfl ?_
  refine L_let fun g1 _ => ?_
  refine L_ic (pc' := 42) rfl q1_1 rfl ?_
  exact L_ret rfl (ret_z (by decide)) rfl
theorem e_x_field {X : Xx} {d : Nat} (hd : 3 ≤ d) (v1 : Int32) (v2 : Int32) (g : Sg) : ∀ r, x_field v1 v2 g = some r → EvM zft mtl X d 118 [.ref 0, .int v1, .int v2] (SHF, g) ((fun r : Int32 × Sg => ((some (.int r.1), (SHF, r.2)) : Out)) r) := by
  obtain ⟨d, rfl⟩ : ∃ d0, d = d0 + 1 := ⟨d - 1, by omega⟩
  have hd : 2 ≤ d := by omega
  refine E_in (f := (fun r : Int32 × Sg => ((some (.int r.1), (SHF, r.2)) : Out))) rfl (Nat.le_of_ble_eq_true rfl) ?_
  unfold x_field
  change Lt X d (some .boolean) k_118 _ 0 [some (.ref 0), some (.int v1), some (.int v2)] [] g _
  refine L_s (pc' := 1) rfl rfl ?_
  refine L_ci (pc' := 4) (as := [.int v1]) (rest := []) rfl rfl (e_x_isHolder (by omega) _ _) rfl fun x1 => ?_
  refine L_br (t := 26) (n := 7) rfl rfl (fun _ => ?_) (fun _ => ?_)
  · refine L_ic (pc' := 27) rfl q1_0 rfl ?_
    exact L_ret rfl (ret_z (by decide)) rfl
  · refine L_s (pc' := 8) rfl rfl ?_
    refine L_ic (pc' := 9) rfl q1_m1 rfl ?_
    refine L_br (t := 28) (n := 12) rfl rfl (fun _ => ?_) (fun _ => ?_)
    · exact p_x_field_28 hd _ _ _
    · refine L_s (pc' := 13) rfl rfl ?_
      refine L_gf (pc' := 16) rfl fr_0_0 rfl ?_
      refine L_gf (pc' := 19) rfl fr_1_0 rfl ?_
      refine L_s (pc' := 20) rfl rfl ?_
      refine L_ci (pc' := 23) (as := [.ref 2, .int v2]) (rest := []) rfl rfl (e_net_isField (by omega) _ _) rfl fun x2 => ?_
      refine L_br (t := 28) (n := 26) rfl rfl (fun _ => ?_) (fun _ => ?_)
      · exact p_x_field_28 hd _ _ _
      · refine L_ic (pc' := 27) rfl q1_0 rfl ?_
        exact L_ret rfl (ret_z (by decide)) rfl
def x_isWeek (v0 : Int32) (g : Sg) : Option (Int32) :=
  Option.bind (x_within v0 0 99 g) (fun x1 => (if x1 = 0 ∨ x1 = 1 then (some x1) else none))
theorem e_x_isWeek {X : Xx} {d : Nat} (hd : 2 ≤ d) (v0 : Int32) (g : Sg) : ∀ r, x_isWeek v0 g = some r → EvM zft mtl X d 141 [.int v0] (SHF, g) ((fun r : Int32 => ((some (.int r), (SHF, g)) : Out)) r) := by
  obtain ⟨d, rfl⟩ : ∃ d0, d = d0 + 1 := ⟨d - 1, by omega⟩
  have hd : 1 ≤ d := by omega
  refine E_in (f := (fun r : Int32 => ((some (.int r), (SHF, g)) : Out))) rfl (Nat.le_of_ble_eq_true rfl) ?_
  unfold x_isWeek
  change Lt X d (some .boolean) k_141 _ 0 [some (.int v0)] [] g _
  refine L_s (pc' := 1) rfl rfl ?_
  refine L_ic (pc' := 2) rfl q1_0 rfl ?_
  refine L_bi (pc' := 4) rfl q2_99 rfl ?_
  refine L_ci (pc' := 7) (as := [.int v0, .int 0, .int 99]) (rest := []) rfl rfl (e_x_within (by omega) _ _ _ _) rfl fun x1 => ?_
  exact L_g fun h => L_ret rfl (ret_z h) rfl
def rights_addDeed (v1 : Int32) (v2 : Int32) (g : Sg) : Option (Int32 × Sg) :=
  (if (g 22 1) < 120 then
    (if inb (g 22 1) 120 = true then lt1 (up2 g 24 (Int32.toNatClampNeg (g 22 1)) v1) (fun g1 => (if inb (g1 22 1) 120 = true then lt1 (up2 g1 25 (Int32.toNatClampNeg (g1 22 1)) v2) (fun g2 => lt1 (up2 g2 22 1 ((g2 22 1) + 1)) (fun g3 => (some ((g2 22 1), g3)))) else none)) else none)
  else
    (some ((-1), g)))
theorem e_rights_addDeed {X : Xx} {d : Nat} (hd : 1 ≤ d) (v1 : Int32) (v2 : Int32) (g : Sg) : ∀ r, rights_addDeed v1 v2 g = some r → EvM zft mtl X d 72 [.ref 22, .int v1, .int v2] (SHF, g) ((fun r : Int32 × Sg => ((some (.int r.1), (SHF, r.2)) : Out)) r) := by
  obtain ⟨d, rfl⟩ : ∃ d0, d = d0 + 1 := ⟨d - 1, by omega⟩
  have hd : 0 ≤ d := by omega
  refine E_in (f := (fun r : Int32 × Sg => ((some (.int r.1), (SHF, r.2)) : Out))) rfl (Nat.le_of_ble_eq_true rfl) ?_
  unfold rights_addDeed
  change Lt X d (some .int) k_72 _ 0 [some (.ref 22), some (.int v1), some (.int v2)] [] g _
  refine L_s (pc' := 1) rfl rfl ?_
  refine L_gf (pc' := 4) rfl fi_22_1 rfl ?_
  refine L_bi (pc' := 6) rfl q2_120 rfl ?_
  refine L_br (t := 11) (n := 9) rfl rfl (fun _ => ?_) (fun _ => ?_)
  · refine L_s (pc' := 12) rfl rfl ?_
    refine L_gf (pc' := 15) rfl fr_22_2 rfl ?_
    refine L_s (pc' := 16) rfl rfl ?_
    refine L_gf (pc' := 19) rfl fi_22_1 rfl ?_
    refine L_s (pc' := 20) rfl rfl ?_
    refine L_wI (pc' := 21) rfl sh_24 (by decide) rfl ?_
    refine L_let fun g1 _ => ?_
    refine L_s (pc' := 22) rfl rfl ?_
    refine L_gf (pc' := 25) rfl fr_22_3 rfl ?_
    refine L_s (pc' := 26) rfl rfl ?_
    refine L_gf (pc' := 29) rfl fi_22_1 rfl ?_
    refine L_s (pc' := 30) rfl rfl ?_
    refine L_wI (pc' := 31) rfl sh_25 (by decide) rfl ?_
    refine L_let fun g2 _ => ?_
    refine L_s (pc' := 32) rfl rfl ?_
    refine L_s (pc' := 33) rfl rfl ?_
    refine L_gf (pc' := 36) rfl fi_22_1 rfl ?_
    refine L_s (pc' := 37) rfl rfl ?_
    refine L_ic (pc' := 38) rfl q1_1 rfl ?_
    refine L_s (pc' := 39) rfl rfl ?_
    refine L_pf (pc' := 42) rfl sh_22 (by decide) rfl rfl ?_
    refine L_let fun g3 _ => ?_
    exact L_ret rfl ret_i rfl
  · refine L_ic (pc' := 10) rfl q1_m1 rfl ?_
    exact L_ret rfl ret_i rfl
def rights_hasDeed (v1 : Int32) (g : Sg) : Option (Int32) :=
  (if v1 < 0 then
    (some 0)
  else
    (if (g 22 1) ≤ v1 then
      (some 0)
    else
      (if 120 ≤ v1 then
        (some 0)
      else
        (some 1))))
theorem e_rights_hasDeed {X : Xx} {d : Nat} (hd : 1 ≤ d) (v1 : Int32) (g : Sg) : ∀ r, rights_hasDeed v1 g = some r → EvM zft mtl X d 71 [.ref 22, .int v1] (SHF, g) ((fun r : Int32 => ((some (.int r), (SHF, g)) : Out)) r) := by
  obtain ⟨d, rfl⟩ : ∃ d0, d = d0 + 1 := ⟨d - 1, by omega⟩
  have hd : 0 ≤ d := by omega
  refine E_in (f := (fun r : Int32 => ((some (.int r), (SHF, g)) : Out))) rfl (Nat.le_of_ble_eq_true rfl) ?_
  unfold rights_hasDeed
  change Lt X d (some .boolean) k_71 _ 0 [some (.ref 22), some (.int v1)] [] g _
  refine L_s (pc' := 1) rfl rfl ?_
  refine L_br (t := 22) (n := 4) rfl rfl (fun _ => ?_) (fun _ => ?_)
  · refine L_ic (pc' := 23) rfl q1_0 rfl ?_
    exact L_ret rfl (ret_z (by decide)) rfl
  · refine L_s (pc' := 5) rfl rfl ?_
    refine L_s (pc' := 6) rfl rfl ?_
    refine L_gf (pc' := 9) rfl fi_22_1 rfl ?_
    refine L_br (t := 22) (n := 12) rfl rfl (fun _ => ?_) (fun _ => ?_)
    · refine L_ic (pc' := 23) rfl q1_0 rfl ?_
      exact L_ret rfl (ret_z (by decide)) rfl
    · refine L_s (pc' := 13) rfl rfl ?_
      refine L_bi (pc' := 15) rfl q2_120 rfl ?_
      refine L_br (t := 22) (n := 18) rfl rfl (fun _ => ?_) (fun _ => ?_)
      · refine L_ic (pc' := 23) rfl q1_0 rfl ?_
        exact L_ret rfl (ret_z (by decide)) rfl
      · refine L_ic (pc' := 19) rfl q1_1 rfl ?_
        refine L_s (pc' := 23) rfl rfl ?_
        exact L_ret rfl (ret_z (by decide)) rfl
def x_deed (v1 : Int32) (v2 : Int32) (v3 : Int32) (v4 : Int32) (g : Sg) : Option (Int32 × Sg) :=
  (if 120 ≤ (g 22 1) then
    (some ((-1), g))
  else
    Option.bind (x_isHolder v3 g) (fun x1 => (if x1 = 0 then
      (some ((-1), g))
    else
      Option.bind (x_isWeek v4 g) (fun x2 => (if ¬ x2 = 0 then
        Option.bind (x_within v1 0 167 g) (fun x3 => (if x3 = 0 then
          (some ((-1), g))
        else
          Option.bind (x_within v2 v1 167 g) (fun x4 => (if ¬ x4 = 0 then
            Option.bind (rights_addDeed v1 v2 g) (fun (x5, g6) => Option.bind (rights_hasDeed x5 g6) (fun x7 => (if x7 = 0 then
              (some (x5, g6))
            else
              (if inb x5 120 = true then lt1 (up2 g6 26 (Int32.toNatClampNeg x5) v3) (fun g8 => (if inb x5 120 = true then lt1 (up2 g8 27 (Int32.toNatClampNeg x5) v4) (fun g9 => Option.bind (x_today g9) (fun x10 => (if inb x5 120 = true then lt1 (up2 g9 28 (Int32.toNatClampNeg x5) x10) (fun g11 => (if inb x5 120 = true then lt1 (up2 g11 29 (Int32.toNatClampNeg x5) (-1)) (fun g12 => (some (x5, g12))) else none)) else none))) else none)) else none))))
          else
            (some ((-1), g))))))
      else
        (some ((-1), g)))))))
theorem e_x_deed {X : Xx} {d : Nat} (hd : 3 ≤ d) (v1 : Int32) (v2 : Int32) (v3 : Int32) (v4 : Int32) (g : Sg) : ∀ r, x_deed v1 v2 v3 v4 g = some r → EvM zft mtl X d 119 [.ref 0, .int v1, .int v2, .int v3, .int v4] (SHF, g) ((fun r : Int32 × Sg => ((some (.int r.1), (SHF, r.2)) : Out)) r) := by
  obtain ⟨d, rfl⟩ : ∃ d0, d = d0 + 1 := ⟨d - 1, by omega⟩
  have hd : 2 ≤ d := by omega
  refine E_in (f := (fun r : Int32 × Sg => ((some (.int r.1), (SHF, r.2)) : Out))) rfl (Nat.le_of_ble_eq_true rfl) ?_
  unfold x_deed
  change Lt X d (some .int) k_119 _ 0 [some (.ref 0), some (.int v1), some (.int v2), some (.int v3), some (.int v4), none] [] g _
  refine L_s (pc' := 1) rfl rfl ?_
  refine L_gf (pc' := 4) rfl fr_0_0 rfl ?_
  refine L_gf (pc' := 7) rfl fr_1_1 rfl ?_
  refine L_gf (pc' := 10) rfl fi_22_1 rfl ?_
  refine L_bi (pc' := 12) rfl q2_120 rfl ?_
  refine L_br (t := 30) (n := 15) rfl rfl (fun _ => ?_) (fun _ => ?_)
  · refine L_ic (pc' := 31) rfl q1_m1 rfl ?_
    exact L_ret rfl ret_i rfl
  · refine L_s (pc' := 16) rfl rfl ?_
    refine L_ci (pc' := 19) (as := [.int v3]) (rest := []) rfl rfl (e_x_isHolder (by omega) _ _) rfl fun x1 => ?_
    refine L_br (t := 30) (n := 22) rfl rfl (fun _ => ?_) (fun _ => ?_)
    · refine L_ic (pc' := 31) rfl q1_m1 rfl ?_
      exact L_ret rfl ret_i rfl
    · refine L_s (pc' := 24) rfl rfl ?_
      refine L_ci (pc' := 27) (as := [.int v4]) (rest := []) rfl rfl (e_x_isWeek (by omega) _ _) rfl fun x2 => ?_
      refine L_br (t := 32) (n := 30) rfl rfl (fun _ => ?_) (fun _ => ?_)
      · refine L_s (pc' := 33) rfl rfl ?_
        refine L_ic (pc' := 34) rfl q1_0 rfl ?_
        refine L_si (pc' := 37) rfl q3_167 rfl ?_
        refine L_ci (pc' := 40) (as := [.int v1, .int 0, .int 167]) (rest := []) rfl rfl (e_x_within (by omega) _ _ _ _) rfl fun x3 => ?_
        refine L_br (t := 54) (n := 43) rfl rfl (fun _ => ?_) (fun _ => ?_)
        · refine L_ic (pc' := 55) rfl q1_m1 rfl ?_
          exact L_ret rfl ret_i rfl
        · refine L_s (pc' := 44) rfl rfl ?_
          refine L_s (pc' := 45) rfl rfl ?_
          refine L_si (pc' := 48) rfl q3_167 rfl ?_
          refine L_ci (pc' := 51) (as := [.int v2, .int v1, .int 167]) (rest := []) rfl rfl (e_x_within (by omega) _ _ _ _) rfl fun x4 => ?_
          refine L_br (t := 56) (n := 54) rfl rfl (fun _ => ?_) (fun _ => ?_)
          · refine L_s (pc' := 57) rfl rfl ?_
            refine L_gf (pc' := 60) rfl fr_0_0 rfl ?_
            refine L_gf (pc' := 63) rfl fr_1_1 rfl ?_
            refine L_s (pc' := 64) rfl rfl ?_
            refine L_s (pc' := 65) rfl rfl ?_
            refine L_cig (pc' := 68) (as := [.ref 22, .int v1, .int v2]) (rest := []) rfl rfl (e_rights_addDeed (by omega) _ _ _) rfl fun x5 g6 => ?_
            refine L_s (pc' := 70) (L' := [some (.ref 0), some (.int v1), some (.int v2), some (.int v3), some (.int v4), some (.int x5)]) rfl rfl ?_
            refine L_s (pc' := 71) rfl rfl ?_
            refine L_gf (pc' := 74) rfl fr_0_0 rfl ?_
            refine L_gf (pc' := 77) rfl fr_1_1 rfl ?_
            refine L_s (pc' := 79) rfl rfl ?_
            refine L_ci (pc' := 82) (as := [.ref 22, .int x5]) (rest := []) rfl rfl (e_rights_hasDeed (by omega) _ _) rfl fun x7 => ?_
            refine L_br (t := 145) (n := 85) rfl rfl (fun _ => ?_) (fun _ => ?_)
            · refine L_s (pc' := 147) rfl rfl ?_
              exact L_ret rfl ret_i rfl
            · refine L_s (pc' := 86) rfl rfl ?_
              refine L_gf (pc' := 89) rfl fr_0_0 rfl ?_
              refine L_gf (pc' := 92) rfl fr_1_1 rfl ?_
              refine L_gf (pc' := 95) rfl fr_22_4 rfl ?_
              refine L_s (pc' := 97) rfl rfl ?_
              refine L_s (pc' := 98) rfl rfl ?_
              refine L_wI (pc' := 99) rfl sh_26 (by decide) rfl ?_
              refine L_let fun g8 _ => ?_
              refine L_s (pc' := 100) rfl rfl ?_
              refine L_gf (pc' := 103) rfl fr_0_0 rfl ?_
              refine L_gf (pc' := 106) rfl fr_1_1 rfl ?_
              refine L_gf (pc' := 109) rfl fr_22_5 rfl ?_
              refine L_s (pc' := 111) rfl rfl ?_
              refine L_s (pc' := 113) rfl rfl ?_
              refine L_wI (pc' := 114) rfl sh_27 (by decide) rfl ?_
              refine L_let fun g9 _ => ?_
              refine L_s (pc' := 115) rfl rfl ?_
              refine L_gf (pc' := 118) rfl fr_0_0 rfl ?_
              refine L_gf (pc' := 121) rfl fr_1_1 rfl ?_
              refine L_gf (pc' := 124) rfl fr_22_6 rfl ?_
              refine L_s (pc' := 126) rfl rfl ?_
              refine L_s (pc' := 127) rfl rfl ?_
              refine L_ci (pc' := 130) (as := [.ref 0]) (rest := [.int x5, .ref 28]) rfl rfl (e_x_today (by omega) _) rfl fun x10 => ?_
              refine L_wI (pc' := 131) rfl sh_28 (by decide) rfl ?_
              refine L_let fun g11 _ => ?_
              refine L_s (pc' := 132) rfl rfl ?_
              refine L_gf (pc' := 135) rfl fr_0_0 rfl ?_
              refine L_gf (pc' := 138) rfl fr_1_1 rfl ?_
              refine L_gf (pc' := 141) rfl fr_22_7 rfl ?_
              refine L_s (pc' := 143) rfl rfl ?_
              refine L_ic (pc' := 144) rfl q1_m1 rfl ?_
              refine L_wI (pc' := 145) rfl sh_29 (by decide) rfl ?_
              refine L_let fun g12 _ => ?_
              refine L_s (pc' := 147) rfl rfl ?_
              exact L_ret rfl ret_i rfl
          · refine L_ic (pc' := 55) rfl q1_m1 rfl ?_
            exact L_ret rfl ret_i rfl
      · refine L_ic (pc' := 31) rfl q1_m1 rfl ?_
        exact L_ret rfl ret_i rfl
def x_annul (v1 : Int32) (g : Sg) : Option (Int32 × Sg) :=
  Option.bind (rights_hasDeed v1 g) (fun x1 => (if x1 = 0 then
    (some (0, g))
  else
    (if inb v1 120 = true then (if (g 29 (Int32.toNatClampNeg v1)) = (-1) then
      Option.bind (x_today g) (fun x2 => (if inb v1 120 = true then lt1 (up2 g 29 (Int32.toNatClampNeg v1) x2) (fun g3 => (some (1, g3))) else none))
    else
      (some (0, g))) else none)))
theorem e_x_annul {X : Xx} {d : Nat} (hd : 2 ≤ d) (v1 : Int32) (g : Sg) : ∀ r, x_annul v1 g = some r → EvM zft mtl X d 120 [.ref 0, .int v1] (SHF, g) ((fun r : Int32 × Sg => ((some (.int r.1), (SHF, r.2)) : Out)) r) := by
  obtain ⟨d, rfl⟩ : ∃ d0, d = d0 + 1 := ⟨d - 1, by omega⟩
  have hd : 1 ≤ d := by omega
  refine E_in (f := (fun r : Int32 × Sg => ((some (.int r.1), (SHF, r.2)) : Out))) rfl (Nat.le_of_ble_eq_true rfl) ?_
  unfold x_annul
  change Lt X d (some .boolean) k_120 _ 0 [some (.ref 0), some (.int v1)] [] g _
  refine L_s (pc' := 1) rfl rfl ?_
  refine L_gf (pc' := 4) rfl fr_0_0 rfl ?_
  refine L_gf (pc' := 7) rfl fr_1_1 rfl ?_
  refine L_s (pc' := 8) rfl rfl ?_
  refine L_ci (pc' := 11) (as := [.ref 22, .int v1]) (rest := []) rfl rfl (e_rights_hasDeed (by omega) _ _) rfl fun x1 => ?_
  refine L_br (t := 30) (n := 14) rfl rfl (fun _ => ?_) (fun _ => ?_)
  · refine L_ic (pc' := 31) rfl q1_0 rfl ?_
    exact L_ret rfl (ret_z (by decide)) rfl
  · refine L_s (pc' := 15) rfl rfl ?_
    refine L_gf (pc' := 18) rfl fr_0_0 rfl ?_
    refine L_gf (pc' := 21) rfl fr_1_1 rfl ?_
    refine L_gf (pc' := 24) rfl fr_22_7 rfl ?_
    refine L_s (pc' := 25) rfl rfl ?_
    refine L_rI (pc' := 26) rfl sh_29 (by decide) rfl ?_
    refine L_ic (pc' := 27) rfl q1_m1 rfl ?_
    refine L_br (t := 32) (n := 30) rfl rfl (fun _ => ?_) (fun _ => ?_)
    · refine L_s (pc' := 33) rfl rfl ?_
      refine L_gf (pc' := 36) rfl fr_0_0 rfl ?_
      refine L_gf (pc' := 39) rfl fr_1_1 rfl ?_
      refine L_gf (pc' := 42) rfl fr_22_7 rfl ?_
      refine L_s (pc' := 43) rfl rfl ?_
      refine L_s (pc' := 44) rfl rfl ?_
      refine L_ci (pc' := 47) (as := [.ref 0]) (rest := [.int v1, .ref 29]) rfl rfl (e_x_today (by omega) _) rfl fun x2 => ?_
      refine L_wI (pc' := 48) rfl sh_29 (by decide) rfl ?_
      refine L_let fun g3 _ => ?_
      refine L_ic (pc' := 49) rfl q1_1 rfl ?_
      exact L_ret rfl (ret_z (by decide)) rfl
    · refine L_ic (pc' := 31) rfl q1_0 rfl ?_
      exact L_ret rfl (ret_z (by decide)) rfl
def x_written (v1 : Int32) (v2 : Int32) (g : Sg) : Option (Int32) :=
  Option.bind (rights_hasDeed v1 g) (fun x1 => (if ¬ x1 = 0 then
    (if v2 = 0 then
      (if inb v1 120 = true then (some (g 24 (Int32.toNatClampNeg v1))) else none)
    else (if v2 = 1 then
      (if inb v1 120 = true then (some (g 25 (Int32.toNatClampNeg v1))) else none)
    else (if v2 = 2 then
      (if inb v1 120 = true then (some (g 26 (Int32.toNatClampNeg v1))) else none)
    else (if v2 = 3 then
      (if inb v1 120 = true then (some (g 27 (Int32.toNatClampNeg v1))) else none)
    else (if v2 = 4 then
      (if inb v1 120 = true then (some (g 28 (Int32.toNatClampNeg v1))) else none)
    else (if v2 = 5 then
      (if inb v1 120 = true then (some (g 29 (Int32.toNatClampNeg v1))) else none)
    else (some (-2))))))))
  else
    (some (-2))))
theorem e_x_written {X : Xx} {d : Nat} (hd : 2 ≤ d) (v1 : Int32) (v2 : Int32) (g : Sg) : ∀ r, x_written v1 v2 g = some r → EvM zft mtl X d 121 [.ref 0, .int v1, .int v2] (SHF, g) ((fun r : Int32 => ((some (.int r), (SHF, g)) : Out)) r) := by
  obtain ⟨d, rfl⟩ : ∃ d0, d = d0 + 1 := ⟨d - 1, by omega⟩
  have hd : 1 ≤ d := by omega
  refine E_in (f := (fun r : Int32 => ((some (.int r), (SHF, g)) : Out))) rfl (Nat.le_of_ble_eq_true rfl) ?_
  unfold x_written
  change Lt X d (some .int) k_121 _ 0 [some (.ref 0), some (.int v1), some (.int v2), none] [] g _
  refine L_s (pc' := 1) rfl rfl ?_
  refine L_gf (pc' := 4) rfl fr_0_0 rfl ?_
  refine L_gf (pc' := 7) rfl fr_1_1 rfl ?_
  refine L_s (pc' := 8) (L' := [some (.ref 0), some (.int v1), some (.int v2), some (.ref 22)]) rfl rfl ?_
  refine L_s (pc' := 9) rfl rfl ?_
  refine L_s (pc' := 10) rfl rfl ?_
  refine L_ci (pc' := 13) (as := [.ref 22, .int v1]) (rest := []) rfl rfl (e_rights_hasDeed (by omega) _ _) rfl fun x1 => ?_
  refine L_br (t := 19) (n := 16) rfl rfl (fun _ => ?_) (fun _ => ?_)
  · refine L_s (pc' := 20) rfl rfl ?_
    refine L_if (fun h2 => ?_) (fun h2 => ?_)
    · subst h2
      refine L_ts (t := 60) (off := 40) rfl (by decide) rfl ?_
      refine L_s (pc' := 61) rfl rfl ?_
      refine L_gf (pc' := 64) rfl fr_22_2 rfl ?_
      refine L_s (pc' := 65) rfl rfl ?_
      refine L_rI (pc' := 66) rfl sh_24 (by decide) rfl ?_
      exact L_ret rfl ret_i rfl
    refine L_if (fun h3 => ?_) (fun h3 => ?_)
    · subst h3
      refine L_ts (t := 67) (off := 47) rfl (by decide) rfl ?_
      refine L_s (pc' := 68) rfl rfl ?_
      refine L_gf (pc' := 71) rfl fr_22_3 rfl ?_
      refine L_s (pc' := 72) rfl rfl ?_
      refine L_rI (pc' := 73) rfl sh_25 (by decide) rfl ?_
      exact L_ret rfl ret_i rfl
    refine L_if (fun h4 => ?_) (fun h4 => ?_)
    · subst h4
      refine L_ts (t := 74) (off := 54) rfl (by decide) rfl ?_
      refine L_s (pc' := 75) rfl rfl ?_
      refine L_gf (pc' := 78) rfl fr_22_4 rfl ?_
      refine L_s (pc' := 79) rfl rfl ?_
      refine L_rI (pc' := 80) rfl sh_26 (by decide) rfl ?_
      exact L_ret rfl ret_i rfl
    refine L_if (fun h5 => ?_) (fun h5 => ?_)
    · subst h5
      refine L_ts (t := 81) (off := 61) rfl (by decide) rfl ?_
      refine L_s (pc' := 82) rfl rfl ?_
      refine L_gf (pc' := 85) rfl fr_22_5 rfl ?_
      refine L_s (pc' := 86) rfl rfl ?_
      refine L_rI (pc' := 87) rfl sh_27 (by decide) rfl ?_
      exact L_ret rfl ret_i rfl
    refine L_if (fun h6 => ?_) (fun h6 => ?_)
    · subst h6
      refine L_ts (t := 88) (off := 68) rfl (by decide) rfl ?_
      refine L_s (pc' := 89) rfl rfl ?_
      refine L_gf (pc' := 92) rfl fr_22_6 rfl ?_
      refine L_s (pc' := 93) rfl rfl ?_
      refine L_rI (pc' := 94) rfl sh_28 (by decide) rfl ?_
      exact L_ret rfl ret_i rfl
    refine L_if (fun h7 => ?_) (fun h7 => ?_)
    · subst h7
      refine L_ts (t := 95) (off := 75) rfl (by decide) rfl ?_
      refine L_s (pc' := 96) rfl rfl ?_
      refine L_gf (pc' := 99) rfl fr_22_7 rfl ?_
      refine L_s (pc' := 100) rfl rfl ?_
      refine L_rI (pc' := 101) rfl sh_29 (by decide) rfl ?_
      exact L_ret rfl ret_i rfl
    refine L_ts (off := 82) (t := 102) rfl (twf_out (n := 6) (by decide) (by decide) (fun j hj => by
      match j, hj with
      | 0, _ => exact fun e => h2 (e.trans (by decide))
      | 1, _ => exact fun e => h3 (e.trans (by decide))
      | 2, _ => exact fun e => h4 (e.trans (by decide))
      | 3, _ => exact fun e => h5 (e.trans (by decide))
      | 4, _ => exact fun e => h6 (e.trans (by decide))
      | 5, _ => exact fun e => h7 (e.trans (by decide))
      | j + 6, hj => exact absurd hj (by omega))) rfl ?_
    refine L_bi (pc' := 104) rfl q2_m2 rfl ?_
    exact L_ret rfl ret_i rfl
  · refine L_bi (pc' := 18) rfl q2_m2 rfl ?_
    exact L_ret rfl ret_i rfl
def x_owner (F : Nat) (v1 : Int32) (v2 : Int32) (v3 : Int32) (g : Sg) : Option (Int32) :=
  Option.bind (x_within v1 0 167 g) (fun x1 => (if x1 = 0 then
    (some (-2))
  else
    Option.bind (x_isWeek v2 g) (fun x2 => (if x2 = 0 then
      (some (-2))
    else
      Option.bind (x_today g) (fun x3 => Option.bind (x_within v3 0 x3 g) (fun x4 => (if ¬ x4 = 0 then
        Option.bind (rights_ownerOf F v1 v2 v3 g) (fun x5 => (some x5))
      else
        (some (-2)))))))))
theorem e_x_owner {X : Xx} {d : Nat} (hd : 3 ≤ d) (F : Nat) (v1 : Int32) (v2 : Int32) (v3 : Int32) (g : Sg) : ∀ r, x_owner F v1 v2 v3 g = some r → EvM zft mtl X d 122 [.ref 0, .int v1, .int v2, .int v3] (SHF, g) ((fun r : Int32 => ((some (.int r), (SHF, g)) : Out)) r) := by
  obtain ⟨d, rfl⟩ : ∃ d0, d = d0 + 1 := ⟨d - 1, by omega⟩
  have hd : 2 ≤ d := by omega
  refine E_in (f := (fun r : Int32 => ((some (.int r), (SHF, g)) : Out))) rfl (Nat.le_of_ble_eq_true rfl) ?_
  unfold x_owner
  change Lt X d (some .int) k_122 _ 0 [some (.ref 0), some (.int v1), some (.int v2), some (.int v3)] [] g _
  refine L_s (pc' := 1) rfl rfl ?_
  refine L_ic (pc' := 2) rfl q1_0 rfl ?_
  refine L_si (pc' := 5) rfl q3_167 rfl ?_
  refine L_ci (pc' := 8) (as := [.int v1, .int 0, .int 167]) (rest := []) rfl rfl (e_x_within (by omega) _ _ _ _) rfl fun x1 => ?_
  refine L_br (t := 30) (n := 11) rfl rfl (fun _ => ?_) (fun _ => ?_)
  · refine L_bi (pc' := 32) rfl q2_m2 rfl ?_
    exact L_ret rfl ret_i rfl
  · refine L_s (pc' := 12) rfl rfl ?_
    refine L_ci (pc' := 15) (as := [.int v2]) (rest := []) rfl rfl (e_x_isWeek (by omega) _ _) rfl fun x2 => ?_
    refine L_br (t := 30) (n := 18) rfl rfl (fun _ => ?_) (fun _ => ?_)
    · refine L_bi (pc' := 32) rfl q2_m2 rfl ?_
      exact L_ret rfl ret_i rfl
    · refine L_s (pc' := 19) rfl rfl ?_
      refine L_ic (pc' := 20) rfl q1_0 rfl ?_
      refine L_s (pc' := 21) rfl rfl ?_
      refine L_ci (pc' := 24) (as := [.ref 0]) (rest := [.int 0, .int v3]) rfl rfl (e_x_today (by omega) _) rfl fun x3 => ?_
      refine L_ci (pc' := 27) (as := [.int v3, .int 0, .int x3]) (rest := []) rfl rfl (e_x_within (by omega) _ _ _ _) rfl fun x4 => ?_
      refine L_br (t := 33) (n := 30) rfl rfl (fun _ => ?_) (fun _ => ?_)
      · refine L_s (pc' := 34) rfl rfl ?_
        refine L_gf (pc' := 37) rfl fr_0_0 rfl ?_
        refine L_gf (pc' := 40) rfl fr_1_1 rfl ?_
        refine L_s (pc' := 41) rfl rfl ?_
        refine L_s (pc' := 42) rfl rfl ?_
        refine L_s (pc' := 43) rfl rfl ?_
        refine L_ci (pc' := 46) (as := [.ref 22, .int v1, .int v2, .int v3]) (rest := []) rfl rfl (e_rights_ownerOf (by omega) F _ _ _ _) rfl fun x5 => ?_
        exact L_ret rfl ret_i rfl
      · refine L_bi (pc' := 32) rfl q2_m2 rfl ?_
        exact L_ret rfl ret_i rfl
def x_ran (v1 : Int32) (g : Sg) : Option (Int32) :=
  Option.bind (x_within v1 0 ((g 22 8) - 1) g) (fun x1 => (if x1 = 0 then
    (some (-2))
  else
    (if v1 < 2400 then
      (if inb v1 2400 = true then (some (g 30 (Int32.toNatClampNeg v1))) else none)
    else
      (some (-2)))))
theorem e_x_ran {X : Xx} {d : Nat} (hd : 2 ≤ d) (v1 : Int32) (g : Sg) : ∀ r, x_ran v1 g = some r → EvM zft mtl X d 123 [.ref 0, .int v1] (SHF, g) ((fun r : Int32 => ((some (.int r), (SHF, g)) : Out)) r) := by
  obtain ⟨d, rfl⟩ : ∃ d0, d = d0 + 1 := ⟨d - 1, by omega⟩
  have hd : 1 ≤ d := by omega
  refine E_in (f := (fun r : Int32 => ((some (.int r), (SHF, g)) : Out))) rfl (Nat.le_of_ble_eq_true rfl) ?_
  unfold x_ran
  change Lt X d (some .int) k_123 _ 0 [some (.ref 0), some (.int v1)] [] g _
  refine L_s (pc' := 1) rfl rfl ?_
  refine L_ic (pc' := 2) rfl q1_0 rfl ?_
  refine L_s (pc' := 3) rfl rfl ?_
  refine L_gf (pc' := 6) rfl fr_0_0 rfl ?_
  refine L_gf (pc' := 9) rfl fr_1_1 rfl ?_
  refine L_gf (pc' := 12) rfl fi_22_8 rfl ?_
  refine L_ic (pc' := 13) rfl q1_1 rfl ?_
  refine L_s (pc' := 14) rfl rfl ?_
  refine L_ci (pc' := 17) (as := [.int v1, .int 0, .int ((g 22 8) - 1)]) (rest := []) rfl rfl (e_x_within (by omega) _ _ _ _) rfl fun x1 => ?_
  refine L_br (t := 27) (n := 20) rfl rfl (fun _ => ?_) (fun _ => ?_)
  · refine L_bi (pc' := 29) rfl q2_m2 rfl ?_
    exact L_ret rfl ret_i rfl
  · refine L_s (pc' := 21) rfl rfl ?_
    refine L_si (pc' := 24) rfl q3_2400 rfl ?_
    refine L_br (t := 30) (n := 27) rfl rfl (fun _ => ?_) (fun _ => ?_)
    · refine L_s (pc' := 31) rfl rfl ?_
      refine L_gf (pc' := 34) rfl fr_0_0 rfl ?_
      refine L_gf (pc' := 37) rfl fr_1_1 rfl ?_
      refine L_gf (pc' := 40) rfl fr_22_9 rfl ?_
      refine L_s (pc' := 41) rfl rfl ?_
      refine L_rB (pc' := 42) rfl sh_30 (by decide) (by decide) rfl ?_
      exact L_ret rfl ret_i rfl
    · refine L_bi (pc' := 29) rfl q2_m2 rfl ?_
      exact L_ret rfl ret_i rfl
def jA_fill_c1_5 : Nat → Int32 → Int32 → Sg → Option (Sg)
  | 0, _, _, _ => none
  | n + 1, v1, v2, g =>
    (if 8 ≤ v2 then
      (some g)
    else
      (if inb v2 8 = true then lt1 (up2 g 201 (Int32.toNatClampNeg v2) v1) (fun g1 => (jA_fill_c1_5 n v1 (v2 + 1) g1)) else none))
def jA_fill_c1 (F : Nat) (v1 : Int32) (g : Sg) : Option (Sg) :=
  (jA_fill_c1_5 F v1 0 g)
theorem p_jA_fill_c1_5 {X : Xx} {d : Nat} (hd : 0 ≤ d) : ∀ (n : Nat) (v1 : Int32) (v2 : Int32) (g : Sg), Lt X d none k_238 (fun r : Sg => ((none, (SHF, r)) : Out)) 5 [some (.ref 201), some (.int v1), some (.int v2), some (.int 8)] [] g (jA_fill_c1_5 n v1 v2 g) := by
  intro n
  induction n with
  | zero => intros; exact L_none
  | succ n ih =>
    intro v1 v2 g
    show Lt X d none k_238 (fun r : Sg => ((none, (SHF, r)) : Out)) 5 [some (.ref 201), some (.int v1), some (.int v2), some (.int 8)] [] g (
      (if 8 ≤ v2 then
        (some g)
      else
        (if inb v2 8 = true then lt1 (up2 g 201 (Int32.toNatClampNeg v2) v1) (fun g1 => (jA_fill_c1_5 n v1 (v2 + 1) g1)) else none)))
    refine L_s (pc' := 6) rfl rfl ?_
    refine L_s (pc' := 7) rfl rfl ?_
    refine L_br (t := 20) (n := 10) rfl rfl (fun _ => ?_) (fun _ => ?_)
    · exact L_ret rfl rfl rfl
    · refine L_s (pc' := 11) rfl rfl ?_
      refine L_s (pc' := 12) rfl rfl ?_
      refine L_s (pc' := 13) rfl rfl ?_
      refine L_wI (pc' := 14) rfl sh_201 (by decide) rfl ?_
      refine L_let fun g1 _ => ?_
      refine L_ii (pc' := 17) (L' := [some (.ref 201), some (.int v1), some (.int (v2 + 1)), some (.int 8)]) rfl rfl q1_1 rfl rfl rfl ?_
      refine L_s (pc' := 5) rfl rfl ?_
      exact ih _ _ _
theorem e_jA_fill_c1 {X : Xx} {d : Nat} (hd : 1 ≤ d) (F : Nat) (v1 : Int32) (g : Sg) : ∀ r, jA_fill_c1 F v1 g = some r → EvM zft mtl X d 238 [.ref 201, .int v1] (SHF, g) ((fun r : Sg => ((none, (SHF, r)) : Out)) r) := by
  obtain ⟨d, rfl⟩ : ∃ d0, d = d0 + 1 := ⟨d - 1, by omega⟩
  have hd : 0 ≤ d := by omega
  refine E_in (f := (fun r : Sg => ((none, (SHF, r)) : Out))) rfl (Nat.le_of_ble_eq_true rfl) ?_
  unfold jA_fill_c1
  change Lt X d none k_238 _ 0 [some (.ref 201), some (.int v1), none, none] [] g _
  refine L_ic (pc' := 1) rfl q1_0 rfl ?_
  refine L_s (pc' := 2) (L' := [some (.ref 201), some (.int v1), some (.int 0), none]) rfl rfl ?_
  refine L_s (pc' := 3) rfl rfl ?_
  refine L_s (pc' := 4) (st' := [.int 8]) rfl rfl ?_
  refine L_s (pc' := 5) (L' := [some (.ref 201), some (.int v1), some (.int 0), some (.int 8)]) rfl rfl ?_
  exact p_jA_fill_c1_5 hd F _ _ _
def jA_fill_c2_5 : Nat → Int32 → Int32 → Sg → Option (Sg)
  | 0, _, _, _ => none
  | n + 1, v1, v2, g =>
    (if 168 ≤ v2 then
      (some g)
    else
      (if inb v2 168 = true then lt1 (up2 g 207 (Int32.toNatClampNeg v2) v1) (fun g1 => (jA_fill_c2_5 n v1 (v2 + 1) g1)) else none))
def jA_fill_c2 (F : Nat) (v1 : Int32) (g : Sg) : Option (Sg) :=
  (jA_fill_c2_5 F v1 0 g)
theorem p_jA_fill_c2_5 {X : Xx} {d : Nat} (hd : 0 ≤ d) : ∀ (n : Nat) (v1 : Int32) (v2 : Int32) (g : Sg), Lt X d none k_238 (fun r : Sg => ((none, (SHF, r)) : Out)) 5 [some (.ref 207), some (.int v1), some (.int v2), some (.int 168)] [] g (jA_fill_c2_5 n v1 v2 g) := by
  intro n
  induction n with
  | zero => intros; exact L_none
  | succ n ih =>
    intro v1 v2 g
    show Lt X d none k_238 (fun r : Sg => ((none, (SHF, r)) : Out)) 5 [some (.ref 207), some (.int v1), some (.int v2), some (.int 168)] [] g (
      (if 168 ≤ v2 then
        (some g)
      else
        (if inb v2 168 = true then lt1 (up2 g 207 (Int32.toNatClampNeg v2) v1) (fun g1 => (jA_fill_c2_5 n v1 (v2 + 1) g1)) else none)))
    refine L_s (pc' := 6) rfl rfl ?_
    refine L_s (pc' := 7) rfl rfl ?_
    refine L_br (t := 20) (n := 10) rfl rfl (fun _ => ?_) (fun _ => ?_)
    · exact L_ret rfl rfl rfl
    · refine L_s (pc' := 11) rfl rfl ?_
      refine L_s (pc' := 12) rfl rfl ?_
      refine L_s (pc' := 13) rfl rfl ?_
      refine L_wI (pc' := 14) rfl sh_207 (by decide) rfl ?_
      refine L_let fun g1 _ => ?_
      refine L_ii (pc' := 17) (L' := [some (.ref 207), some (.int v1), some (.int (v2 + 1)), some (.int 168)]) rfl rfl q1_1 rfl rfl rfl ?_
      refine L_s (pc' := 5) rfl rfl ?_
      exact ih _ _ _
theorem e_jA_fill_c2 {X : Xx} {d : Nat} (hd : 1 ≤ d) (F : Nat) (v1 : Int32) (g : Sg) : ∀ r, jA_fill_c2 F v1 g = some r → EvM zft mtl X d 238 [.ref 207, .int v1] (SHF, g) ((fun r : Sg => ((none, (SHF, r)) : Out)) r) := by
  obtain ⟨d, rfl⟩ : ∃ d0, d = d0 + 1 := ⟨d - 1, by omega⟩
  have hd : 0 ≤ d := by omega
  refine E_in (f := (fun r : Sg => ((none, (SHF, r)) : Out))) rfl (Nat.le_of_ble_eq_true rfl) ?_
  unfold jA_fill_c2
  change Lt X d none k_238 _ 0 [some (.ref 207), some (.int v1), none, none] [] g _
  refine L_ic (pc' := 1) rfl q1_0 rfl ?_
  refine L_s (pc' := 2) (L' := [some (.ref 207), some (.int v1), some (.int 0), none]) rfl rfl ?_
  refine L_s (pc' := 3) rfl rfl ?_
  refine L_s (pc' := 4) (st' := [.int 168]) rfl rfl ?_
  refine L_s (pc' := 5) (L' := [some (.ref 207), some (.int v1), some (.int 0), some (.int 168)]) rfl rfl ?_
  exact p_jA_fill_c2_5 hd F _ _ _
