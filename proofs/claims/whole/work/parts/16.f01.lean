/-! printed by wip/whole/decomp.py -/
def x_within (v0 : Int32) (v1 : Int32) (v2 : Int32) (g : Sg) : Option (Int32) :=
  (if v0 < v1 then
    (some 0)
  else
    (if v2 < v0 then
      (some 0)
    else
      (some 1)))
theorem e_x_within {X : Xx} {d : Nat} (hd : 1 ≤ d) (v0 : Int32) (v1 : Int32) (v2 : Int32) (g : Sg) : ∀ r, x_within v0 v1 v2 g = some r → EvM zft mtl X d 139 [.int v0, .int v1, .int v2] (SHF, g) ((fun r : Int32 => ((some (.int r), (SHF, g)) : Out)) r) := by
  obtain ⟨d, rfl⟩ : ∃ d0, d = d0 + 1 := ⟨d - 1, by omega⟩
  have hd : 0 ≤ d := by omega
  refine E_in (f := (fun r : Int32 => ((some (.int r), (SHF, g)) : Out))) rfl (Nat.le_of_ble_eq_true rfl) ?_
  unfold x_within
  change Lt X d (some .boolean) k_139 _ 0 [some (.int v0), some (.int v1), some (.int v2)] [] g _
  refine L_s (pc' := 1) rfl rfl ?_
  refine L_s (pc' := 2) rfl rfl ?_
  refine L_br (t := 14) (n := 5) rfl rfl (fun _ => ?_) (fun _ => ?_)
  · refine L_ic (pc' := 15) rfl q1_0 rfl ?_
    exact L_ret rfl (ret_z (by decide)) rfl
  · refine L_s (pc' := 6) rfl rfl ?_
    refine L_s (pc' := 7) rfl rfl ?_
    refine L_br (t := 14) (n := 10) rfl rfl (fun _ => ?_) (fun _ => ?_)
    · refine L_ic (pc' := 15) rfl q1_0 rfl ?_
      exact L_ret rfl (ret_z (by decide)) rfl
    · refine L_ic (pc' := 11) rfl q1_1 rfl ?_
      refine L_s (pc' := 15) rfl rfl ?_
      exact L_ret rfl (ret_z (by decide)) rfl
def net_fits (v0 : Int32) (v1 : Int32) (g : Sg) : Option (Int32) :=
  (if v0 < 0 then
    (some 0)
  else
    (if 5 ≤ v0 then
      (some 0)
    else
      (if v0 < 5 then
        (if inb v0 5 = true then (if inb v0 5 = true then Option.bind (x_within v1 (xc 1001 (Int32.toNatClampNeg v0)) (xc 1002 (Int32.toNatClampNeg v0)) g) (fun x1 => (if x1 = 0 ∨ x1 = 1 then (some x1) else none)) else none) else none)
      else
        (some 0))))
theorem e_net_fits {X : Xx} {d : Nat} (hd : 2 ≤ d) (v0 : Int32) (v1 : Int32) (g : Sg) : ∀ r, net_fits v0 v1 g = some r → EvM zft mtl X d 22 [.int v0, .int v1] (SHF, g) ((fun r : Int32 => ((some (.int r), (SHF, g)) : Out)) r) := by
  obtain ⟨d, rfl⟩ : ∃ d0, d = d0 + 1 := ⟨d - 1, by omega⟩
  have hd : 1 ≤ d := by omega
  refine E_in (f := (fun r : Int32 => ((some (.int r), (SHF, g)) : Out))) rfl (Nat.le_of_ble_eq_true rfl) ?_
  unfold net_fits
  change Lt X d (some .boolean) k_22 _ 0 [some (.int v0), some (.int v1)] [] g _
  refine L_s (pc' := 1) rfl rfl ?_
  refine L_br (t := 20) (n := 4) rfl rfl (fun _ => ?_) (fun _ => ?_)
  · refine L_ic (pc' := 21) rfl q1_0 rfl ?_
    exact L_ret rfl (ret_z (by decide)) rfl
  · refine L_s (pc' := 5) rfl rfl ?_
    refine L_s (pc' := 8) rfl rfl ?_
    refine L_s (pc' := 9) (st' := [.int 5, .int v0]) rfl rfl ?_
    refine L_br (t := 20) (n := 12) rfl rfl (fun _ => ?_) (fun _ => ?_)
    · refine L_ic (pc' := 21) rfl q1_0 rfl ?_
      exact L_ret rfl (ret_z (by decide)) rfl
    · refine L_s (pc' := 13) rfl rfl ?_
      refine L_s (pc' := 16) rfl rfl ?_
      refine L_s (pc' := 17) (st' := [.int 5, .int v0]) rfl rfl ?_
      refine L_br (t := 22) (n := 20) rfl rfl (fun _ => ?_) (fun _ => ?_)
      · refine L_s (pc' := 23) rfl rfl ?_
        refine L_s (pc' := 26) rfl rfl ?_
        refine L_s (pc' := 27) rfl rfl ?_
        refine L_xI (pc' := 28) rfl (rfl : xsh X 1001 = _) (by decide) (fun _ => rfl) rfl ?_
        refine L_s (pc' := 31) rfl rfl ?_
        refine L_s (pc' := 32) rfl rfl ?_
        refine L_xI (pc' := 33) rfl (rfl : xsh X 1002 = _) (by decide) (fun _ => rfl) rfl ?_
        refine L_ci (pc' := 36) (as := [.int v1, .int (xc 1001 (Int32.toNatClampNeg v0)), .int (xc 1002 (Int32.toNatClampNeg v0))]) (rest := []) rfl rfl (e_x_within (by omega) _ _ _ _) rfl fun x1 => ?_
        exact L_g fun h => L_ret rfl (ret_z h) rfl
      · refine L_ic (pc' := 21) rfl q1_0 rfl ?_
        exact L_ret rfl (ret_z (by decide)) rfl
def net_addNode (v1 : Int32) (v2 : Int32) (g : Sg) : Option (Int32 × Sg) :=
  (if (g 2 1) < 10 then
    (if inb (g 2 1) 10 = true then lt1 (up2 g 3 (Int32.toNatClampNeg (g 2 1)) v1) (fun g1 => (if inb (g1 2 1) 10 = true then lt1 (up2 g1 4 (Int32.toNatClampNeg (g1 2 1)) v2) (fun g2 => (if inb (g2 2 1) 10 = true then lt1 (up2 g2 5 (Int32.toNatClampNeg (g2 2 1)) (-1)) (fun g3 => lt1 (up2 g3 2 1 ((g3 2 1) + 1)) (fun g4 => (some ((g3 2 1), g4)))) else none)) else none)) else none)
  else
    (some ((-1), g)))
theorem e_net_addNode {X : Xx} {d : Nat} (hd : 1 ≤ d) (v1 : Int32) (v2 : Int32) (g : Sg) : ∀ r, net_addNode v1 v2 g = some r → EvM zft mtl X d 27 [.ref 2, .int v1, .int v2] (SHF, g) ((fun r : Int32 × Sg => ((some (.int r.1), (SHF, r.2)) : Out)) r) := by
  obtain ⟨d, rfl⟩ : ∃ d0, d = d0 + 1 := ⟨d - 1, by omega⟩
  have hd : 0 ≤ d := by omega
  refine E_in (f := (fun r : Int32 × Sg => ((some (.int r.1), (SHF, r.2)) : Out))) rfl (Nat.le_of_ble_eq_true rfl) ?_
  unfold net_addNode
  change Lt X d (some .int) k_27 _ 0 [some (.ref 2), some (.int v1), some (.int v2)] [] g _
  refine L_s (pc' := 1) rfl rfl ?_
  refine L_gf (pc' := 4) rfl fi_2_1 rfl ?_
  refine L_bi (pc' := 6) rfl q2_10 rfl ?_
  refine L_br (t := 11) (n := 9) rfl rfl (fun _ => ?_) (fun _ => ?_)
  · refine L_s (pc' := 12) rfl rfl ?_
    refine L_gf (pc' := 15) rfl fr_2_2 rfl ?_
    refine L_s (pc' := 16) rfl rfl ?_
    refine L_gf (pc' := 19) rfl fi_2_1 rfl ?_
    refine L_s (pc' := 20) rfl rfl ?_
    refine L_wI (pc' := 21) rfl sh_3 (by decide) rfl ?_
    refine L_let fun g1 _ => ?_
    refine L_s (pc' := 22) rfl rfl ?_
    refine L_gf (pc' := 25) rfl fr_2_3 rfl ?_
    refine L_s (pc' := 26) rfl rfl ?_
    refine L_gf (pc' := 29) rfl fi_2_1 rfl ?_
    refine L_s (pc' := 30) rfl rfl ?_
    refine L_wI (pc' := 31) rfl sh_4 (by decide) rfl ?_
    refine L_let fun g2 _ => ?_
    refine L_s (pc' := 32) rfl rfl ?_
    refine L_gf (pc' := 35) rfl fr_2_4 rfl ?_
    refine L_s (pc' := 36) rfl rfl ?_
    refine L_gf (pc' := 39) rfl fi_2_1 rfl ?_
    refine L_ic (pc' := 40) rfl q1_m1 rfl ?_
    refine L_wI (pc' := 41) rfl sh_5 (by decide) rfl ?_
    refine L_let fun g3 _ => ?_
    refine L_s (pc' := 42) rfl rfl ?_
    refine L_s (pc' := 43) rfl rfl ?_
    refine L_gf (pc' := 46) rfl fi_2_1 rfl ?_
    refine L_s (pc' := 47) rfl rfl ?_
    refine L_ic (pc' := 48) rfl q1_1 rfl ?_
    refine L_s (pc' := 49) rfl rfl ?_
    refine L_pf (pc' := 52) rfl sh_2 (by decide) rfl rfl ?_
    refine L_let fun g4 _ => ?_
    exact L_ret rfl ret_i rfl
  · refine L_ic (pc' := 10) rfl q1_m1 rfl ?_
    exact L_ret rfl ret_i rfl
def x_node (v1 : Int32) (v2 : Int32) (g : Sg) : Option (Int32 × Sg) :=
  (if 10 ≤ (g 2 1) then
    (some ((-1), g))
  else
    Option.bind (net_fits v1 v2 g) (fun x1 => (if ¬ x1 = 0 then
      Option.bind (net_addNode v1 v2 g) (fun (x2, g3) => (some (x2, g3)))
    else
      (some ((-1), g)))))
theorem e_x_node {X : Xx} {d : Nat} (hd : 3 ≤ d) (v1 : Int32) (v2 : Int32) (g : Sg) : ∀ r, x_node v1 v2 g = some r → EvM zft mtl X d 107 [.ref 0, .int v1, .int v2] (SHF, g) ((fun r : Int32 × Sg => ((some (.int r.1), (SHF, r.2)) : Out)) r) := by
  obtain ⟨d, rfl⟩ : ∃ d0, d = d0 + 1 := ⟨d - 1, by omega⟩
  have hd : 2 ≤ d := by omega
  refine E_in (f := (fun r : Int32 × Sg => ((some (.int r.1), (SHF, r.2)) : Out))) rfl (Nat.le_of_ble_eq_true rfl) ?_
  unfold x_node
  change Lt X d (some .int) k_107 _ 0 [some (.ref 0), some (.int v1), some (.int v2), none] [] g _
  refine L_s (pc' := 1) rfl rfl ?_
  refine L_gf (pc' := 4) rfl fr_0_0 rfl ?_
  refine L_gf (pc' := 7) rfl fr_1_0 rfl ?_
  refine L_s (pc' := 8) (L' := [some (.ref 0), some (.int v1), some (.int v2), some (.ref 2)]) rfl rfl ?_
  refine L_s (pc' := 9) rfl rfl ?_
  refine L_gf (pc' := 12) rfl fi_2_1 rfl ?_
  refine L_bi (pc' := 14) rfl q2_10 rfl ?_
  refine L_br (t := 25) (n := 17) rfl rfl (fun _ => ?_) (fun _ => ?_)
  · refine L_ic (pc' := 26) rfl q1_m1 rfl ?_
    exact L_ret rfl ret_i rfl
  · refine L_s (pc' := 18) rfl rfl ?_
    refine L_s (pc' := 19) rfl rfl ?_
    refine L_ci (pc' := 22) (as := [.int v1, .int v2]) (rest := []) rfl rfl (e_net_fits (by omega) _ _ _) rfl fun x1 => ?_
    refine L_br (t := 27) (n := 25) rfl rfl (fun _ => ?_) (fun _ => ?_)
    · refine L_s (pc' := 28) rfl rfl ?_
      refine L_s (pc' := 29) rfl rfl ?_
      refine L_s (pc' := 30) rfl rfl ?_
      refine L_cig (pc' := 33) (as := [.ref 2, .int v1, .int v2]) (rest := []) rfl rfl (e_net_addNode (by omega) _ _ _) rfl fun x2 g3 => ?_
      exact L_ret rfl ret_i rfl
    · refine L_ic (pc' := 26) rfl q1_m1 rfl ?_
      exact L_ret rfl ret_i rfl
def net_hasNode (v1 : Int32) (g : Sg) : Option (Int32) :=
  (if v1 < 0 then
    (some 0)
  else
    (if (g 2 1) ≤ v1 then
      (some 0)
    else
      (if 10 ≤ v1 then
        (some 0)
      else
        (some 1))))
theorem e_net_hasNode {X : Xx} {d : Nat} (hd : 1 ≤ d) (v1 : Int32) (g : Sg) : ∀ r, net_hasNode v1 g = some r → EvM zft mtl X d 23 [.ref 2, .int v1] (SHF, g) ((fun r : Int32 => ((some (.int r), (SHF, g)) : Out)) r) := by
  obtain ⟨d, rfl⟩ : ∃ d0, d = d0 + 1 := ⟨d - 1, by omega⟩
  have hd : 0 ≤ d := by omega
  refine E_in (f := (fun r : Int32 => ((some (.int r), (SHF, g)) : Out))) rfl (Nat.le_of_ble_eq_true rfl) ?_
  unfold net_hasNode
  change Lt X d (some .boolean) k_23 _ 0 [some (.ref 2), some (.int v1)] [] g _
  refine L_s (pc' := 1) rfl rfl ?_
  refine L_br (t := 22) (n := 4) rfl rfl (fun _ => ?_) (fun _ => ?_)
  · refine L_ic (pc' := 23) rfl q1_0 rfl ?_
    exact L_ret rfl (ret_z (by decide)) rfl
  · refine L_s (pc' := 5) rfl rfl ?_
    refine L_s (pc' := 6) rfl rfl ?_
    refine L_gf (pc' := 9) rfl fi_2_1 rfl ?_
    refine L_br (t := 22) (n := 12) rfl rfl (fun _ => ?_) (fun _ => ?_)
    · refine L_ic (pc' := 23) rfl q1_0 rfl ?_
      exact L_ret rfl (ret_z (by decide)) rfl
    · refine L_s (pc' := 13) rfl rfl ?_
      refine L_bi (pc' := 15) rfl q2_10 rfl ?_
      refine L_br (t := 22) (n := 18) rfl rfl (fun _ => ?_) (fun _ => ?_)
      · refine L_ic (pc' := 23) rfl q1_0 rfl ?_
        exact L_ret rfl (ret_z (by decide)) rfl
      · refine L_ic (pc' := 19) rfl q1_1 rfl ?_
        refine L_s (pc' := 23) rfl rfl ?_
        exact L_ret rfl (ret_z (by decide)) rfl
def net_isField (v1 : Int32) (g : Sg) : Option (Int32) :=
  Option.bind (net_hasNode v1 g) (fun x1 => (if x1 = 0 then
    (some 0)
  else
    (if inb v1 10 = true then (if ¬ (g 3 (Int32.toNatClampNeg v1)) = 4 then
      (some 0)
    else
      (some 1)) else none)))
theorem e_net_isField {X : Xx} {d : Nat} (hd : 2 ≤ d) (v1 : Int32) (g : Sg) : ∀ r, net_isField v1 g = some r → EvM zft mtl X d 25 [.ref 2, .int v1] (SHF, g) ((fun r : Int32 => ((some (.int r), (SHF, g)) : Out)) r) := by
  obtain ⟨d, rfl⟩ : ∃ d0, d = d0 + 1 := ⟨d - 1, by omega⟩
  have hd : 1 ≤ d := by omega
  refine E_in (f := (fun r : Int32 => ((some (.int r), (SHF, g)) : Out))) rfl (Nat.le_of_ble_eq_true rfl) ?_
  unfold net_isField
  change Lt X d (some .boolean) k_25 _ 0 [some (.ref 2), some (.int v1)] [] g _
  refine L_s (pc' := 1) rfl rfl ?_
  refine L_s (pc' := 2) rfl rfl ?_
  refine L_ci (pc' := 5) (as := [.ref 2, .int v1]) (rest := []) rfl rfl (e_net_hasNode (by omega) _ _) rfl fun x1 => ?_
  refine L_br (t := 22) (n := 8) rfl rfl (fun _ => ?_) (fun _ => ?_)
  · refine L_ic (pc' := 23) rfl q1_0 rfl ?_
    exact L_ret rfl (ret_z (by decide)) rfl
  · refine L_s (pc' := 9) rfl rfl ?_
    refine L_gf (pc' := 12) rfl fr_2_2 rfl ?_
    refine L_s (pc' := 13) rfl rfl ?_
    refine L_rI (pc' := 14) rfl sh_3 (by decide) rfl ?_
    refine L_ic (pc' := 15) rfl q1_4 rfl ?_
    refine L_br (t := 22) (n := 18) rfl rfl (fun _ => ?_) (fun _ => ?_)
    · refine L_ic (pc' := 23) rfl q1_0 rfl ?_
      exact L_ret rfl (ret_z (by decide)) rfl
    · refine L_ic (pc' := 19) rfl q1_1 rfl ?_
      refine L_s (pc' := 23) rfl rfl ?_
      exact L_ret rfl (ret_z (by decide)) rfl
def net_addChannel (v1 : Int32) (v2 : Int32) (g : Sg) : Option (Int32 × Sg) :=
  (if (g 2 6) < 14 then
    (if inb (g 2 6) 14 = true then lt1 (up2 g 9 (Int32.toNatClampNeg (g 2 6)) v1) (fun g1 => (if inb (g1 2 6) 14 = true then lt1 (up2 g1 10 (Int32.toNatClampNeg (g1 2 6)) v2) (fun g2 => lt1 (up2 g2 2 6 ((g2 2 6) + 1)) (fun g3 => (some ((g2 2 6), g3)))) else none)) else none)
  else
    (some ((-1), g)))
theorem e_net_addChannel {X : Xx} {d : Nat} (hd : 1 ≤ d) (v1 : Int32) (v2 : Int32) (g : Sg) : ∀ r, net_addChannel v1 v2 g = some r → EvM zft mtl X d 28 [.ref 2, .int v1, .int v2] (SHF, g) ((fun r : Int32 × Sg => ((some (.int r.1), (SHF, r.2)) : Out)) r) := by
  obtain ⟨d, rfl⟩ : ∃ d0, d = d0 + 1 := ⟨d - 1, by omega⟩
  have hd : 0 ≤ d := by omega
  refine E_in (f := (fun r : Int32 × Sg => ((some (.int r.1), (SHF, r.2)) : Out))) rfl (Nat.le_of_ble_eq_true rfl) ?_
  unfold net_addChannel
  change Lt X d (some .int) k_28 _ 0 [some (.ref 2), some (.int v1), some (.int v2)] [] g _
  refine L_s (pc' := 1) rfl rfl ?_
  refine L_gf (pc' := 4) rfl fi_2_6 rfl ?_
  refine L_bi (pc' := 6) rfl q2_14 rfl ?_
  refine L_br (t := 11) (n := 9) rfl rfl (fun _ => ?_) (fun _ => ?_)
  · refine L_s (pc' := 12) rfl rfl ?_
    refine L_gf (pc' := 15) rfl fr_2_7 rfl ?_
    refine L_s (pc' := 16) rfl rfl ?_
    refine L_gf (pc' := 19) rfl fi_2_6 rfl ?_
    refine L_s (pc' := 20) rfl rfl ?_
    refine L_wI (pc' := 21) rfl sh_9 (by decide) rfl ?_
    refine L_let fun g1 _ => ?_
    refine L_s (pc' := 22) rfl rfl ?_
    refine L_gf (pc' := 25) rfl fr_2_8 rfl ?_
    refine L_s (pc' := 26) rfl rfl ?_
    refine L_gf (pc' := 29) rfl fi_2_6 rfl ?_
    refine L_s (pc' := 30) rfl rfl ?_
    refine L_wI (pc' := 31) rfl sh_10 (by decide) rfl ?_
    refine L_let fun g2 _ => ?_
    refine L_s (pc' := 32) rfl rfl ?_
    refine L_s (pc' := 33) rfl rfl ?_
    refine L_gf (pc' := 36) rfl fi_2_6 rfl ?_
    refine L_s (pc' := 37) rfl rfl ?_
    refine L_ic (pc' := 38) rfl q1_1 rfl ?_
    refine L_s (pc' := 39) rfl rfl ?_
    refine L_pf (pc' := 42) rfl sh_2 (by decide) rfl rfl ?_
    refine L_let fun g3 _ => ?_
    exact L_ret rfl ret_i rfl
  · refine L_ic (pc' := 10) rfl q1_m1 rfl ?_
    exact L_ret rfl ret_i rfl
def net_hasChannel (v1 : Int32) (g : Sg) : Option (Int32) :=
  (if v1 < 0 then
    (some 0)
  else
    (if (g 2 6) ≤ v1 then
      (some 0)
    else
      (if 14 ≤ v1 then
        (some 0)
      else
        (some 1))))
theorem e_net_hasChannel {X : Xx} {d : Nat} (hd : 1 ≤ d) (v1 : Int32) (g : Sg) : ∀ r, net_hasChannel v1 g = some r → EvM zft mtl X d 24 [.ref 2, .int v1] (SHF, g) ((fun r : Int32 => ((some (.int r), (SHF, g)) : Out)) r) := by
  obtain ⟨d, rfl⟩ : ∃ d0, d = d0 + 1 := ⟨d - 1, by omega⟩
  have hd : 0 ≤ d := by omega
  refine E_in (f := (fun r : Int32 => ((some (.int r), (SHF, g)) : Out))) rfl (Nat.le_of_ble_eq_true rfl) ?_
  unfold net_hasChannel
  change Lt X d (some .boolean) k_24 _ 0 [some (.ref 2), some (.int v1)] [] g _
  refine L_s (pc' := 1) rfl rfl ?_
  refine L_br (t := 22) (n := 4) rfl rfl (fun _ => ?_) (fun _ => ?_)
  · refine L_ic (pc' := 23) rfl q1_0 rfl ?_
    exact L_ret rfl (ret_z (by decide)) rfl
  · refine L_s (pc' := 5) rfl rfl ?_
    refine L_s (pc' := 6) rfl rfl ?_
    refine L_gf (pc' := 9) rfl fi_2_6 rfl ?_
    refine L_br (t := 22) (n := 12) rfl rfl (fun _ => ?_) (fun _ => ?_)
    · refine L_ic (pc' := 23) rfl q1_0 rfl ?_
      exact L_ret rfl (ret_z (by decide)) rfl
    · refine L_s (pc' := 13) rfl rfl ?_
      refine L_bi (pc' := 15) rfl q2_14 rfl ?_
      refine L_br (t := 22) (n := 18) rfl rfl (fun _ => ?_) (fun _ => ?_)
      · refine L_ic (pc' := 23) rfl q1_0 rfl ?_
        exact L_ret rfl (ret_z (by decide)) rfl
      · refine L_ic (pc' := 19) rfl q1_1 rfl ?_
        refine L_s (pc' := 23) rfl rfl ?_
        exact L_ret rfl (ret_z (by decide)) rfl
def x_channel (v1 : Int32) (v2 : Int32) (v3 : Int32) (v4 : Int32) (v5 : Int32) (v6 : Int32) (g : Sg) : Option (Int32 × Sg) :=
  (if 14 ≤ (g 2 6) then
    (some ((-1), g))
  else
    Option.bind (net_hasNode v1 g) (fun x1 => (if x1 = 0 then
      (some ((-1), g))
    else
      Option.bind (net_hasNode v2 g) (fun x2 => (if ¬ x2 = 0 then
        (if v2 ≤ v1 then
          (some ((-1), g))
        else
          Option.bind (net_isField v1 g) (fun x3 => (if x3 = 0 then
            Option.bind (x_within v3 0 500 g) (fun x4 => (if x4 = 0 then
              (some ((-1), g))
            else
              Option.bind (x_within v4 v3 500 g) (fun x5 => (if ¬ x5 = 0 then
                Option.bind (x_within v5 0 8 g) (fun x6 => (if x6 = 0 then
                  (some ((-1), g))
                else
                  Option.bind (x_within v6 1 9999 g) (fun x7 => (if ¬ x7 = 0 then
                    Option.bind (net_addChannel v1 v2 g) (fun (x8, g9) => Option.bind (net_hasChannel x8 g9) (fun x10 => (if x10 = 0 then
                      (some (x8, g9))
                    else
                      (if inb x8 14 = true then lt1 (up2 g9 11 (Int32.toNatClampNeg x8) v3) (fun g11 => (if inb x8 14 = true then lt1 (up2 g11 12 (Int32.toNatClampNeg x8) v4) (fun g12 => (if inb x8 14 = true then lt1 (up2 g12 13 (Int32.toNatClampNeg x8) v5) (fun g13 => (if inb x8 14 = true then lt1 (up2 g13 14 (Int32.toNatClampNeg x8) v6) (fun g14 => (some (x8, g14))) else none)) else none)) else none)) else none))))
                  else
                    (some ((-1), g))))))
              else
                (some ((-1), g))))))
          else
            (some ((-1), g)))))
      else
        (some ((-1), g)))))))
theorem e_x_channel {X : Xx} {d : Nat} (hd : 3 ≤ d) (v1 : Int32) (v2 : Int32) (v3 : Int32) (v4 : Int32) (v5 : Int32) (v6 : Int32) (g : Sg) : ∀ r, x_channel v1 v2 v3 v4 v5 v6 g = some r → EvM zft mtl X d 108 [.ref 0, .int v1, .int v2, .int v3, .int v4, .int v5, .int v6] (SHF, g) ((fun r : Int32 × Sg => ((some (.int r.1), (SHF, r.2)) : Out)) r) := by
  obtain ⟨d, rfl⟩ : ∃ d0, d = d0 + 1 := ⟨d - 1, by omega⟩
  have hd : 2 ≤ d := by omega
  refine E_in (f := (fun r : Int32 × Sg => ((some (.int r.1), (SHF, r.2)) : Out))) rfl (Nat.le_of_ble_eq_true rfl) ?_
  unfold x_channel
  change Lt X d (some .int) k_108 _ 0 [some (.ref 0), some (.int v1), some (.int v2), some (.int v3), some (.int v4), some (.int v5), some (.int v6), none, none] [] g _
  refine L_s (pc' := 1) rfl rfl ?_
  refine L_gf (pc' := 4) rfl fr_0_0 rfl ?_
  refine L_gf (pc' := 7) rfl fr_1_0 rfl ?_
  refine L_s (pc' := 9) (L' := [some (.ref 0), some (.int v1), some (.int v2), some (.int v3), some (.int v4), some (.int v5), some (.int v6), some (.ref 2), none]) rfl rfl ?_
  refine L_s (pc' := 11) rfl rfl ?_
  refine L_gf (pc' := 14) rfl fi_2_6 rfl ?_
  refine L_bi (pc' := 16) rfl q2_14 rfl ?_
  refine L_br (t := 37) (n := 19) rfl rfl (fun _ => ?_) (fun _ => ?_)
  · refine L_ic (pc' := 38) rfl q1_m1 rfl ?_
    exact L_ret rfl ret_i rfl
  · refine L_s (pc' := 21) rfl rfl ?_
    refine L_s (pc' := 22) rfl rfl ?_
    refine L_ci (pc' := 25) (as := [.ref 2, .int v1]) (rest := []) rfl rfl (e_net_hasNode (by omega) _ _) rfl fun x1 => ?_
    refine L_br (t := 37) (n := 28) rfl rfl (fun _ => ?_) (fun _ => ?_)
    · refine L_ic (pc' := 38) rfl q1_m1 rfl ?_
      exact L_ret rfl ret_i rfl
    · refine L_s (pc' := 30) rfl rfl ?_
      refine L_s (pc' := 31) rfl rfl ?_
      refine L_ci (pc' := 34) (as := [.ref 2, .int v2]) (rest := []) rfl rfl (e_net_hasNode (by omega) _ _) rfl fun x2 => ?_
      refine L_br (t := 39) (n := 37) rfl rfl (fun _ => ?_) (fun _ => ?_)
      · refine L_s (pc' := 40) rfl rfl ?_
        refine L_s (pc' := 41) rfl rfl ?_
        refine L_br (t := 53) (n := 44) rfl rfl (fun _ => ?_) (fun _ => ?_)
        · refine L_ic (pc' := 54) rfl q1_m1 rfl ?_
          exact L_ret rfl ret_i rfl
        · refine L_s (pc' := 46) rfl rfl ?_
          refine L_s (pc' := 47) rfl rfl ?_
          refine L_ci (pc' := 50) (as := [.ref 2, .int v1]) (rest := []) rfl rfl (e_net_isField (by omega) _ _) rfl fun x3 => ?_
          refine L_br (t := 55) (n := 53) rfl rfl (fun _ => ?_) (fun _ => ?_)
          · refine L_s (pc' := 56) rfl rfl ?_
            refine L_ic (pc' := 57) rfl q1_0 rfl ?_
            refine L_si (pc' := 60) rfl q3_500 rfl ?_
            refine L_ci (pc' := 63) (as := [.int v3, .int 0, .int 500]) (rest := []) rfl rfl (e_x_within (by omega) _ _ _ _) rfl fun x4 => ?_
            refine L_br (t := 78) (n := 66) rfl rfl (fun _ => ?_) (fun _ => ?_)
            · refine L_ic (pc' := 79) rfl q1_m1 rfl ?_
              exact L_ret rfl ret_i rfl
            · refine L_s (pc' := 68) rfl rfl ?_
              refine L_s (pc' := 69) rfl rfl ?_
              refine L_si (pc' := 72) rfl q3_500 rfl ?_
              refine L_ci (pc' := 75) (as := [.int v4, .int v3, .int 500]) (rest := []) rfl rfl (e_x_within (by omega) _ _ _ _) rfl fun x5 => ?_
              refine L_br (t := 80) (n := 78) rfl rfl (fun _ => ?_) (fun _ => ?_)
              · refine L_s (pc' := 82) rfl rfl ?_
                refine L_ic (pc' := 83) rfl q1_0 rfl ?_
                refine L_bi (pc' := 85) rfl q2_8 rfl ?_
                refine L_ci (pc' := 88) (as := [.int v5, .int 0, .int 8]) (rest := []) rfl rfl (e_x_within (by omega) _ _ _ _) rfl fun x6 => ?_
                refine L_br (t := 103) (n := 91) rfl rfl (fun _ => ?_) (fun _ => ?_)
                · refine L_ic (pc' := 104) rfl q1_m1 rfl ?_
                  exact L_ret rfl ret_i rfl
                · refine L_s (pc' := 93) rfl rfl ?_
                  refine L_ic (pc' := 94) rfl q1_1 rfl ?_
                  refine L_si (pc' := 97) rfl q3_9999 rfl ?_
                  refine L_ci (pc' := 100) (as := [.int v6, .int 1, .int 9999]) (rest := []) rfl rfl (e_x_within (by omega) _ _ _ _) rfl fun x7 => ?_
                  refine L_br (t := 105) (n := 103) rfl rfl (fun _ => ?_) (fun _ => ?_)
                  · refine L_s (pc' := 107) rfl rfl ?_
                    refine L_s (pc' := 108) rfl rfl ?_
                    refine L_s (pc' := 109) rfl rfl ?_
                    refine L_cig (pc' := 112) (as := [.ref 2, .int v1, .int v2]) (rest := []) rfl rfl (e_net_addChannel (by omega) _ _ _) rfl fun x8 g9 => ?_
                    refine L_s (pc' := 114) (L' := [some (.ref 0), some (.int v1), some (.int v2), some (.int v3), some (.int v4), some (.int v5), some (.int v6), some (.ref 2), some (.int x8)]) rfl rfl ?_
                    refine L_s (pc' := 116) rfl rfl ?_
                    refine L_s (pc' := 118) rfl rfl ?_
                    refine L_ci (pc' := 121) (as := [.ref 2, .int x8]) (rest := []) rfl rfl (e_net_hasChannel (by omega) _ _) rfl fun x10 => ?_
                    refine L_br (t := 163) (n := 124) rfl rfl (fun _ => ?_) (fun _ => ?_)
                    · refine L_s (pc' := 165) rfl rfl ?_
                      exact L_ret rfl ret_i rfl
                    · refine L_s (pc' := 126) rfl rfl ?_
                      refine L_gf (pc' := 129) rfl fr_2_9 rfl ?_
                      refine L_s (pc' := 131) rfl rfl ?_
                      refine L_s (pc' := 132) rfl rfl ?_
                      refine L_wI (pc' := 133) rfl sh_11 (by decide) rfl ?_
                      refine L_let fun g11 _ => ?_
                      refine L_s (pc' := 135) rfl rfl ?_
                      refine L_gf (pc' := 138) rfl fr_2_10 rfl ?_
                      refine L_s (pc' := 140) rfl rfl ?_
                      refine L_s (pc' := 142) rfl rfl ?_
                      refine L_wI (pc' := 143) rfl sh_12 (by decide) rfl ?_
                      refine L_let fun g12 _ => ?_
                      refine L_s (pc' := 145) rfl rfl ?_
                      refine L_gf (pc' := 148) rfl fr_2_11 rfl ?_
                      refine L_s (pc' := 150) rfl rfl ?_
                      refine L_s (pc' := 152) rfl rfl ?_
                      refine L_wI (pc' := 153) rfl sh_13 (by decide) rfl ?_
                      refine L_let fun g13 _ => ?_
                      refine L_s (pc' := 155) rfl rfl ?_
                      refine L_gf (pc' := 158) rfl fr_2_12 rfl ?_
                      refine L_s (pc' := 160) rfl rfl ?_
                      refine L_s (pc' := 162) rfl rfl ?_
                      refine L_wI (pc' := 163) rfl sh_14 (by decide) rfl ?_
                      refine L_let fun g14 _ => ?_
                      refine L_s (pc' := 165) rfl rfl ?_
                      exact L_ret rfl ret_i rfl
                  · refine L_ic (pc' := 104) rfl q1_m1 rfl ?_
                    exact L_ret rfl ret_i rfl
              · refine L_ic (pc' := 79) rfl q1_m1 rfl ?_
                exact L_ret rfl ret_i rfl
          · refine L_ic (pc' := 54) rfl q1_m1 rfl ?_
            exact L_ret rfl ret_i rfl
      · refine L_ic (pc' := 38) rfl q1_m1 rfl ?_
        exact L_ret rfl ret_i rfl
def x_size_55 (v1 : Int32) (v2 : Int32) (g : Sg) : Option (Int32 × Sg) :=
  (if inb v1 10 = true then lt1 (up2 g 4 (Int32.toNatClampNeg v1) v2) (fun g1 => (some (1, g1))) else none)
def x_size (v1 : Int32) (v2 : Int32) (g : Sg) : Option (Int32 × Sg) :=
  Option.bind (net_hasNode v1 g) (fun x1 => (if x1 = 0 then
    (some (0, g))
  else
    (if inb v1 10 = true then Option.bind (net_fits (g 3 (Int32.toNatClampNeg v1)) v2 g) (fun x2 => (if ¬ x2 = 0 then
      (if inb v1 10 = true then (if ¬ (g 3 (Int32.toNatClampNeg v1)) = 2 then
        (x_size_55 v1 v2 g)
      else
        (if inb v1 10 = true then (if (g 8 (Int32.toNatClampNeg v1)) ≤ v2 then
          (x_size_55 v1 v2 g)
        else
          (some (0, g))) else none)) else none)
    else
      (some (0, g)))) else none)))
theorem p_x_size_55 {X : Xx} {d : Nat} (hd : 2 ≤ d) (v1 : Int32) (v2 : Int32) (g : Sg) : Lt X d (some .boolean) k_109 (fun r : Int32 × Sg => ((some (.int r.1), (SHF, r.2)) : Out)) 55 [none, some (.int v1), some (.int v2), some (.ref 2)] [] g (x_size_55 v1 v2 g) := by
  unfold x_size_55
  refine L_s (pc' := 56) rfl rfl ?_
  refine L_gf (pc' := 59) rfl fr_2_3 rfl ?_
  refine L_s (pc' := 60) rfl rfl ?_
  refine L_s (pc' := 61) rfl rfl ?_
  refine L_wI (pc' := 62) rfl sh_4 (by decide) rfl ?_
  refine L_let fun g1 _ => ?_
  refine L_ic (pc' := 63) rfl q1_1 rfl ?_
  exact L_ret rfl (ret_z (by decide)) rfl
theorem e_x_size {X : Xx} {d : Nat} (hd : 3 ≤ d) (v1 : Int32) (v2 : Int32) (g : Sg) : ∀ r, x_size v1 v2 g = some r → EvM zft mtl X d 109 [.ref 0, .int v1, .int v2] (SHF, g) ((fun r : Int32 × Sg => ((some (.int r.1), (SHF, r.2)) : Out)) r) := by
  obtain ⟨d, rfl⟩ : ∃ d0, d = d0 + 1 := ⟨d - 1, by omega⟩
  have hd : 2 ≤ d := by omega
  refine E_in (f := (fun r : Int32 × Sg => ((some (.int r.1), (SHF, r.2)) : Out))) rfl (Nat.le_of_ble_eq_true rfl) ?_
  unfold x_size
  change Lt X d (some .boolean) k_109 _ 0 [some (.ref 0), some (.int v1), some (.int v2), none] [] g _
  refine L_s (pc' := 1) rfl rfl ?_
  refine L_gf (pc' := 4) rfl fr_0_0 rfl ?_
  refine L_gf (pc' := 7) rfl fr_1_0 rfl ?_
  refine L_s (pc' := 8) (L' := [some (.ref 0), some (.int v1), some (.int v2), some (.ref 2)]) rfl rfl ?_
  refine L_s (pc' := 9) rfl rfl ?_
  refine L_s (pc' := 10) rfl rfl ?_
  refine L_ci (pc' := 13) (as := [.ref 2, .int v1]) (rest := []) rfl rfl (e_net_hasNode (by omega) _ _) rfl fun x1 => ?_
  refine L_br (t := 29) (n := 16) rfl rfl (fun _ => ?_) (fun _ => ?_)
  · refine L_ic (pc' := 30) rfl q1_0 rfl ?_
    exact L_ret rfl (ret_z (by decide)) rfl
  · refine L_s (pc' := 17) rfl rfl ?_
    refine L_gf (pc' := 20) rfl fr_2_2 rfl ?_
    refine L_s (pc' := 21) rfl rfl ?_
    refine L_rI (pc' := 22) rfl sh_3 (by decide) rfl ?_
    refine L_s (pc' := 23) rfl rfl ?_
    refine L_ci (pc' := 26) (as := [.int (g 3 (Int32.toNatClampNeg v1)), .int v2]) (rest := []) rfl rfl (e_net_fits (by omega) _ _ _) rfl fun x2 => ?_
    refine L_br (t := 31) (n := 29) rfl rfl (fun _ => ?_) (fun _ => ?_)
    · refine L_s (pc' := 32) rfl rfl ?_
      refine L_gf (pc' := 35) rfl fr_2_2 rfl ?_
      refine L_s (pc' := 36) rfl rfl ?_
      refine L_rI (pc' := 37) rfl sh_3 (by decide) rfl ?_
      refine L_ic (pc' := 38) rfl q1_2 rfl ?_
      refine L_br (t := 55) (n := 41) rfl rfl (fun _ => ?_) (fun _ => ?_)
      · refine L_wk (L' := [none, some (.int v1), some (.int v2), some (.ref 2)]) (wk_n (wk_s (wk_s (wk_s wk_nil)))) ?_
        exact p_x_size_55 hd _ _ _
      · refine L_s (pc' := 42) rfl rfl ?_
        refine L_s (pc' := 43) rfl rfl ?_
        refine L_gf (pc' := 46) rfl fr_2_5 rfl ?_
        refine L_ic (pc' := 47) rfl q1_1 rfl ?_
        refine L_aa (pc' := 48) rfl sh_6 (by decide) (by decide) rfl rfl ?_
        refine L_s (pc' := 49) rfl rfl ?_
        refine L_rI (pc' := 50) rfl sh_8 (by decide) rfl ?_
        refine L_br (t := 55) (n := 53) rfl rfl (fun _ => ?_) (fun _ => ?_)
        · refine L_wk (L' := [none, some (.int v1), some (.int v2), some (.ref 2)]) (wk_n (wk_s (wk_s (wk_s wk_nil)))) ?_
          exact p_x_size_55 hd _ _ _
        · refine L_ic (pc' := 54) rfl q1_0 rfl ?_
          exact L_ret rfl (ret_z (by decide)) rfl
    · refine L_ic (pc' := 30) rfl q1_0 rfl ?_
      exact L_ret rfl (ret_z (by decide)) rfl
def net_underWay_k0_5 : Nat → Int32 → Int32 → Int32 → Sg → Option (Int32)
  | 0, _, _, _, _ => none
  | n + 1, v2, v3, v4, g =>
    (if 9 ≤ v4 then
      (some v3)
    else
      (if inb ((v2 * 9) + v4) 126 = true then lt1 ((v3 + (g 17 (Int32.toNatClampNeg ((v2 * 9) + v4)))) : Int32) (fun x1 => (net_underWay_k0_5 n v2 x1 (v4 + 1) g)) else none))
def net_underWay_k0 (F : Nat) (v2 : Int32) (g : Sg) : Option (Int32) :=
  (net_underWay_k0_5 F v2 0 0 g)
theorem p_net_underWay_k0_5 {X : Xx} {d : Nat} {g : Sg} (hd : 0 ≤ d) : ∀ (n : Nat) (v2 : Int32) (v3 : Int32) (v4 : Int32), Lt X d (some .int) k_29 (fun r : Int32 => ((some (.int r), (SHF, g)) : Out)) 5 [some (.ref 2), some (.int 0), some (.int v2), some (.int v3), some (.int v4)] [] g (net_underWay_k0_5 n v2 v3 v4 g) := by
  intro n
  induction n with
  | zero => intros; exact L_none
  | succ n ih =>
    intro v2 v3 v4
    show Lt X d (some .int) k_29 (fun r : Int32 => ((some (.int r), (SHF, g)) : Out)) 5 [some (.ref 2), some (.int 0), some (.int v2), some (.int v3), some (.int v4)] [] g (
      (if 9 ≤ v4 then
        (some v3)
      else
        (if inb ((v2 * 9) + v4) 126 = true then lt1 ((v3 + (g 17 (Int32.toNatClampNeg ((v2 * 9) + v4)))) : Int32) (fun x1 => (net_underWay_k0_5 n v2 x1 (v4 + 1) g)) else none)))
    refine L_s (pc' := 7) rfl rfl ?_
    refine L_bi (pc' := 9) rfl q2_9 rfl ?_
    refine L_br (t := 35) (n := 12) rfl rfl (fun _ => ?_) (fun _ => ?_)
    · refine L_s (pc' := 36) rfl rfl ?_
      exact L_ret rfl ret_i rfl
    · refine L_s (pc' := 13) rfl rfl ?_
      refine L_s (pc' := 14) rfl rfl ?_
      refine L_gf (pc' := 17) rfl fr_2_14 rfl ?_
      refine L_s (pc' := 18) rfl rfl ?_
      refine L_aa (pc' := 19) rfl sh_16 (by decide) (by decide) rfl rfl ?_
      refine L_s (pc' := 20) rfl rfl ?_
      refine L_bi (pc' := 22) rfl q2_9 rfl ?_
      refine L_s (pc' := 23) rfl rfl ?_
      refine L_s (pc' := 25) rfl rfl ?_
      refine L_s (pc' := 26) rfl rfl ?_
      refine L_rI (pc' := 27) rfl sh_17 (by decide) rfl ?_
      refine L_s (pc' := 28) rfl rfl ?_
      refine L_li fun x1 _ => ?_
      refine L_s (pc' := 29) (L' := [some (.ref 2), some (.int 0), some (.int v2), some (.int x1), some (.int v4)]) rfl rfl ?_
      refine L_ii (pc' := 32) (L' := [some (.ref 2), some (.int 0), some (.int v2), some (.int x1), some (.int (v4 + 1))]) rfl rfl q1_1 rfl rfl rfl ?_
      refine L_s (pc' := 5) rfl rfl ?_
      exact ih _ _ _
theorem e_net_underWay_k0 {X : Xx} {d : Nat} (hd : 1 ≤ d) (F : Nat) (v2 : Int32) (g : Sg) : ∀ r, net_underWay_k0 F v2 g = some r → EvM zft mtl X d 29 [.ref 2, .int 0, .int v2] (SHF, g) ((fun r : Int32 => ((some (.int r), (SHF, g)) : Out)) r) := by
  obtain ⟨d, rfl⟩ : ∃ d0, d = d0 + 1 := ⟨d - 1, by omega⟩
  have hd : 0 ≤ d := by omega
  refine E_in (f := (fun r : Int32 => ((some (.int r), (SHF, g)) : Out))) rfl (Nat.le_of_ble_eq_true rfl) ?_
  unfold net_underWay_k0
  change Lt X d (some .int) k_29 _ 0 [some (.ref 2), some (.int 0), some (.int v2), none, none] [] g _
  refine L_ic (pc' := 1) rfl q1_0 rfl ?_
  refine L_s (pc' := 2) (L' := [some (.ref 2), some (.int 0), some (.int v2), some (.int 0), none]) rfl rfl ?_
  refine L_ic (pc' := 3) rfl q1_0 rfl ?_
  refine L_s (pc' := 5) (L' := [some (.ref 2), some (.int 0), some (.int v2), some (.int 0), some (.int 0)]) rfl rfl ?_
  exact p_net_underWay_k0_5 hd F _ _ _
def net_underWay_k1_5 : Nat → Int32 → Int32 → Int32 → Sg → Option (Int32)
  | 0, _, _, _, _ => none
  | n + 1, v2, v3, v4, g =>
    (if 9 ≤ v4 then
      (some v3)
    else
      (if inb ((v2 * 9) + v4) 126 = true then lt1 ((v3 + (g 18 (Int32.toNatClampNeg ((v2 * 9) + v4)))) : Int32) (fun x1 => (net_underWay_k1_5 n v2 x1 (v4 + 1) g)) else none))
def net_underWay_k1 (F : Nat) (v2 : Int32) (g : Sg) : Option (Int32) :=
  (net_underWay_k1_5 F v2 0 0 g)
theorem p_net_underWay_k1_5 {X : Xx} {d : Nat} {g : Sg} (hd : 0 ≤ d) : ∀ (n : Nat) (v2 : Int32) (v3 : Int32) (v4 : Int32), Lt X d (some .int) k_29 (fun r : Int32 => ((some (.int r), (SHF, g)) : Out)) 5 [some (.ref 2), some (.int 1), some (.int v2), some (.int v3), some (.int v4)] [] g (net_underWay_k1_5 n v2 v3 v4 g) := by
  intro n
  induction n with
  | zero => intros; exact L_none
  | succ n ih =>
    intro v2 v3 v4
    show Lt X d (some .int) k_29 (fun r : Int32 => ((some (.int r), (SHF, g)) : Out)) 5 [some (.ref 2), some (.int 1), some (.int v2), some (.int v3), some (.int v4)] [] g (
      (if 9 ≤ v4 then
        (some v3)
      else
        (if inb ((v2 * 9) + v4) 126 = true then lt1 ((v3 + (g 18 (Int32.toNatClampNeg ((v2 * 9) + v4)))) : Int32) (fun x1 => (net_underWay_k1_5 n v2 x1 (v4 + 1) g)) else none)))
    refine L_s (pc' := 7) rfl rfl ?_
    refine L_bi (pc' := 9) rfl q2_9 rfl ?_
    refine L_br (t := 35) (n := 12) rfl rfl (fun _ => ?_) (fun _ => ?_)
    · refine L_s (pc' := 36) rfl rfl ?_
      exact L_ret rfl ret_i rfl
    · refine L_s (pc' := 13) rfl rfl ?_
      refine L_s (pc' := 14) rfl rfl ?_
      refine L_gf (pc' := 17) rfl fr_2_14 rfl ?_
      refine L_s (pc' := 18) rfl rfl ?_
      refine L_aa (pc' := 19) rfl sh_16 (by decide) (by decide) rfl rfl ?_
      refine L_s (pc' := 20) rfl rfl ?_
      refine L_bi (pc' := 22) rfl q2_9 rfl ?_
      refine L_s (pc' := 23) rfl rfl ?_
      refine L_s (pc' := 25) rfl rfl ?_
      refine L_s (pc' := 26) rfl rfl ?_
      refine L_rI (pc' := 27) rfl sh_18 (by decide) rfl ?_
      refine L_s (pc' := 28) rfl rfl ?_
      refine L_li fun x1 _ => ?_
      refine L_s (pc' := 29) (L' := [some (.ref 2), some (.int 1), some (.int v2), some (.int x1), some (.int v4)]) rfl rfl ?_
      refine L_ii (pc' := 32) (L' := [some (.ref 2), some (.int 1), some (.int v2), some (.int x1), some (.int (v4 + 1))]) rfl rfl q1_1 rfl rfl rfl ?_
      refine L_s (pc' := 5) rfl rfl ?_
      exact ih _ _ _
theorem e_net_underWay_k1 {X : Xx} {d : Nat} (hd : 1 ≤ d) (F : Nat) (v2 : Int32) (g : Sg) : ∀ r, net_underWay_k1 F v2 g = some r → EvM zft mtl X d 29 [.ref 2, .int 1, .int v2] (SHF, g) ((fun r : Int32 => ((some (.int r), (SHF, g)) : Out)) r) := by
  obtain ⟨d, rfl⟩ : ∃ d0, d = d0 + 1 := ⟨d - 1, by omega⟩
  have hd : 0 ≤ d := by omega
  refine E_in (f := (fun r : Int32 => ((some (.int r), (SHF, g)) : Out))) rfl (Nat.le_of_ble_eq_true rfl) ?_
  unfold net_underWay_k1
  change Lt X d (some .int) k_29 _ 0 [some (.ref 2), some (.int 1), some (.int v2), none, none] [] g _
  refine L_ic (pc' := 1) rfl q1_0 rfl ?_
  refine L_s (pc' := 2) (L' := [some (.ref 2), some (.int 1), some (.int v2), some (.int 0), none]) rfl rfl ?_
  refine L_ic (pc' := 3) rfl q1_0 rfl ?_
  refine L_s (pc' := 5) (L' := [some (.ref 2), some (.int 1), some (.int v2), some (.int 0), some (.int 0)]) rfl rfl ?_
  exact p_net_underWay_k1_5 hd F _ _ _
def net_loseUnderWay_24_2 : Nat → Int32 → Int32 → Sg → Option (Sg)
  | 0, _, _, _ => none
  | n + 1, v1, v3, g =>
    (if 9 ≤ v3 then
      (some g)
    else
      (if inb ((v1 * 9) + v3) 126 = true then lt1 (up2 g 18 (Int32.toNatClampNeg ((v1 * 9) + v3)) 0) (fun g1 => (net_loseUnderWay_24_2 n v1 (v3 + 1) g1)) else none))
def net_loseUnderWay_24 (F : Nat) : Nat → Int32 → Int32 → Sg → Option (Sg)
  | 0, _, _, _ => none
  | n + 1, v1, v3, g =>
    (if 9 ≤ v3 then
      Option.bind (net_underWay_k1 F v1 g) (fun x1 => lt1 (up2 g 21 1 ((g 21 1) + x1)) (fun g2 => (net_loseUnderWay_24_2 F v1 0 g2)))
    else
      (if inb ((v1 * 9) + v3) 126 = true then lt1 (up2 g 17 (Int32.toNatClampNeg ((v1 * 9) + v3)) 0) (fun g3 => (net_loseUnderWay_24 F n v1 (v3 + 1) g3)) else none))
def net_loseUnderWay (F : Nat) (v1 : Int32) (g : Sg) : Option (Sg) :=
  Option.bind (net_underWay_k0 F v1 g) (fun x1 => lt1 (up2 g 21 0 ((g 21 0) + x1)) (fun g2 => (net_loseUnderWay_24 F F v1 0 g2)))
theorem p_net_loseUnderWay_24_2 {X : Xx} {d : Nat} (hd : 1 ≤ d) : ∀ (n : Nat) (v1 : Int32) (v3 : Int32) (g : Sg), Lt X d none k_33 (fun r : Sg => ((none, (SHF, r)) : Out)) 24 [some (.ref 2), some (.int v1), some (.int 1), some (.int v3)] [] g (net_loseUnderWay_24_2 n v1 v3 g) := by
  intro n
  induction n with
  | zero => intros; exact L_none
  | succ n ih =>
    intro v1 v3 g
    show Lt X d none k_33 (fun r : Sg => ((none, (SHF, r)) : Out)) 24 [some (.ref 2), some (.int v1), some (.int 1), some (.int v3)] [] g (
      (if 9 ≤ v3 then
        (some g)
      else
        (if inb ((v1 * 9) + v3) 126 = true then lt1 (up2 g 18 (Int32.toNatClampNeg ((v1 * 9) + v3)) 0) (fun g1 => (net_loseUnderWay_24_2 n v1 (v3 + 1) g1)) else none)))
    refine L_s (pc' := 25) rfl rfl ?_
    refine L_bi (pc' := 27) rfl q2_9 rfl ?_
    refine L_br (t := 50) (n := 30) rfl rfl (fun _ => ?_) (fun _ => ?_)
    · refine L_ii (pc' := 53) (L' := [some (.ref 2), some (.int v1), some (.int 2), some (.int v3)]) rfl rfl q1_1 (by decide : (1 : Int32) + 1 = 2) rfl rfl ?_
      refine L_s (pc' := 2) rfl rfl ?_
      refine L_s (pc' := 3) rfl rfl ?_
      refine L_ic (pc' := 4) rfl q1_2 rfl ?_
      refine L_bt (c := (2 : Int32) ≤ 2) (t := 56) (n := 7) rfl rfl (by decide) ?_
      exact L_ret rfl rfl rfl
    · refine L_s (pc' := 31) rfl rfl ?_
      refine L_gf (pc' := 34) rfl fr_2_14 rfl ?_
      refine L_s (pc' := 35) rfl rfl ?_
      refine L_aa (pc' := 36) rfl sh_16 (by decide) (by decide) rfl rfl ?_
      refine L_s (pc' := 37) rfl rfl ?_
      refine L_bi (pc' := 39) rfl q2_9 rfl ?_
      refine L_s (pc' := 40) rfl rfl ?_
      refine L_s (pc' := 41) rfl rfl ?_
      refine L_s (pc' := 42) rfl rfl ?_
      refine L_ic (pc' := 43) rfl q1_0 rfl ?_
      refine L_wI (pc' := 44) rfl sh_18 (by decide) rfl ?_
      refine L_let fun g1 _ => ?_
      refine L_ii (pc' := 47) (L' := [some (.ref 2), some (.int v1), some (.int 1), some (.int (v3 + 1))]) rfl rfl q1_1 rfl rfl rfl ?_
      refine L_s (pc' := 24) rfl rfl ?_
      exact ih _ _ _
theorem p_net_loseUnderWay_24 {X : Xx} {d : Nat} (hd : 1 ≤ d) (F : Nat) : ∀ (n : Nat) (v1 : Int32) (v3 : Int32) (g : Sg), Lt X d none k_33 (fun r : Sg => ((none, (SHF, r)) : Out)) 24 [some (.ref 2), some (.int v1), some (.int 0), some (.int v3)] [] g (net_loseUnderWay_24 F n v1 v3 g) := by
  intro n
  induction n with
  | zero => intros; exact L_none
  | succ n ih =>
    intro v1 v3 g
    show Lt X d none k_33 (fun r : Sg => ((none, (SHF, r)) : Out)) 24 [some (.ref 2), some (.int v1), some (.int 0), some (.int v3)] [] g (
      (if 9 ≤ v3 then
        Option.bind (net_underWay_k1 F v1 g) (fun x1 => lt1 (up2 g 21 1 ((g 21 1) + x1)) (fun g2 => (net_loseUnderWay_24_2 F v1 0 g2)))
      else
        (if inb ((v1 * 9) + v3) 126 = true then lt1 (up2 g 17 (Int32.toNatClampNeg ((v1 * 9) + v3)) 0) (fun g3 => (net_loseUnderWay_24 F n v1 (v3 + 1) g3)) else none)))
    refine L_s (pc' := 25) rfl rfl ?_
    refine L_bi (pc' := 27) rfl q2_9 rfl ?_
    refine L_br (t := 50) (n := 30) rfl rfl (fun _ => ?_) (fun _ => ?_)
    · refine L_ii (pc' := 53) (L' := [some (.ref 2), some (.int v1), some (.int 1), some (.int v3)]) rfl rfl q1_1 (by decide : (0 : Int32) + 1 = 1) rfl rfl ?_
      refine L_s (pc' := 2) rfl rfl ?_
      refine L_s (pc' := 3) rfl rfl ?_
      refine L_ic (pc' := 4) rfl q1_2 rfl ?_
      refine L_bf (c := (2 : Int32) ≤ 1) (t := 56) (n := 7) rfl rfl (by decide) ?_
      refine L_s (pc' := 8) rfl rfl ?_
      refine L_gf (pc' := 11) rfl fr_2_17 rfl ?_
      refine L_s (pc' := 12) rfl rfl ?_
      refine L_s (pc' := 13) rfl rfl ?_
      refine L_rIk (pc' := 14) (j := 1) rfl sh_21 (by decide) (by decide) (by decide) rfl ?_
      refine L_s (pc' := 15) rfl rfl ?_
      refine L_s (pc' := 16) rfl rfl ?_
      refine L_s (pc' := 17) rfl rfl ?_
      refine L_ci (pc' := 20) (as := [.ref 2, .int 1, .int v1]) (rest := [.int (g 21 1), .int 1, .ref 21]) rfl rfl (e_net_underWay_k1 (by omega) F _ _) rfl fun x1 => ?_
      refine L_s (pc' := 21) rfl rfl ?_
      refine L_wIk (pc' := 22) (j := 1) rfl sh_21 (by decide) (by decide) (by decide) rfl ?_
      refine L_let fun g2 _ => ?_
      refine L_ic (pc' := 23) rfl q1_0 rfl ?_
      refine L_s (pc' := 24) (L' := [some (.ref 2), some (.int v1), some (.int 1), some (.int 0)]) rfl rfl ?_
      exact p_net_loseUnderWay_24_2 hd F _ _ _
    · refine L_s (pc' := 31) rfl rfl ?_
      refine L_gf (pc' := 34) rfl fr_2_14 rfl ?_
      refine L_s (pc' := 35) rfl rfl ?_
      refine L_aa (pc' := 36) rfl sh_16 (by decide) (by decide) rfl rfl ?_
      refine L_s (pc' := 37) rfl rfl ?_
      refine L_bi (pc' := 39) rfl q2_9 rfl ?_
      refine L_s (pc' := 40) rfl rfl ?_
      refine L_s (pc' := 41) rfl rfl ?_
      refine L_s (pc' := 42) rfl rfl ?_
      refine L_ic (pc' := 43) rfl q1_0 rfl ?_
      refine L_wI (pc' := 44) rfl sh_17 (by decide) rfl ?_
      refine L_let fun g3 _ => ?_
      refine L_ii (pc' := 47) (L' := [some (.ref 2), some (.int v1), some (.int 0), some (.int (v3 + 1))]) rfl rfl q1_1 rfl rfl rfl ?_
      refine L_s (pc' := 24) rfl rfl ?_
      exact ih _ _ _
theorem e_net_loseUnderWay {X : Xx} {d : Nat} (hd : 2 ≤ d) (F : Nat) (v1 : Int32) (g : Sg) : ∀ r, net_loseUnderWay F v1 g = some r → EvM zft mtl X d 33 [.ref 2, .int v1] (SHF, g) ((fun r : Sg => ((none, (SHF, r)) : Out)) r) := by
  obtain ⟨d, rfl⟩ : ∃ d0, d = d0 + 1 := ⟨d - 1, by omega⟩
  have hd : 1 ≤ d := by omega
  refine E_in (f := (fun r : Sg => ((none, (SHF, r)) : Out))) rfl (Nat.le_of_ble_eq_true rfl) ?_
  unfold net_loseUnderWay
  change Lt X d none k_33 _ 0 [some (.ref 2), some (.int v1), none, none] [] g _
  refine L_ic (pc' := 1) rfl q1_0 rfl ?_
  refine L_s (pc' := 2) (L' := [some (.ref 2), some (.int v1), some (.int 0), none]) rfl rfl ?_
  refine L_s (pc' := 3) rfl rfl ?_
  refine L_ic (pc' := 4) rfl q1_2 rfl ?_
  refine L_bf (c := (2 : Int32) ≤ 0) (t := 56) (n := 7) rfl rfl (by decide) ?_
  refine L_s (pc' := 8) rfl rfl ?_
  refine L_gf (pc' := 11) rfl fr_2_17 rfl ?_
  refine L_s (pc' := 12) rfl rfl ?_
  refine L_s (pc' := 13) rfl rfl ?_
  refine L_rIk (pc' := 14) (j := 0) rfl sh_21 (by decide) (by decide) (by decide) rfl ?_
  refine L_s (pc' := 15) rfl rfl ?_
  refine L_s (pc' := 16) rfl rfl ?_
  refine L_s (pc' := 17) rfl rfl ?_
  refine L_ci (pc' := 20) (as := [.ref 2, .int 0, .int v1]) (rest := [.int (g 21 0), .int 0, .ref 21]) rfl rfl (e_net_underWay_k0 (by omega) F _ _) rfl fun x1 => ?_
  refine L_s (pc' := 21) rfl rfl ?_
  refine L_wIk (pc' := 22) (j := 0) rfl sh_21 (by decide) (by decide) (by decide) rfl ?_
  refine L_let fun g2 _ => ?_
  refine L_ic (pc' := 23) rfl q1_0 rfl ?_
  refine L_s (pc' := 24) (L' := [some (.ref 2), some (.int v1), some (.int 0), some (.int 0)]) rfl rfl ?_
  exact p_net_loseUnderWay_24 hd F F _ _ _
def x_broken (F : Nat) (v1 : Int32) (v2 : Int32) (g : Sg) : Option (Int32 × Sg) :=
  Option.bind (net_hasChannel v1 g) (fun x1 => (if x1 = 0 then
    (some (0, g))
  else
    (if inb v1 14 = true then (if ¬ (g 15 (Int32.toNatClampNeg v1)) = v2 then
      (if inb v1 14 = true then lt1 (up2 g 15 (Int32.toNatClampNeg v1) (v2 &&& 1)) (fun g2 => (if v2 = 0 then
        (some (1, g2))
      else
        Option.bind (net_loseUnderWay F v1 g2) (fun g3 => (some (1, g3))))) else none)
    else
      (some (0, g))) else none)))
theorem e_x_broken {X : Xx} {d : Nat} (hd : 3 ≤ d) (F : Nat) (v1 : Int32) (v2 : Int32) (g : Sg) : ∀ r, x_broken F v1 v2 g = some r → EvM zft mtl X d 110 [.ref 0, .int v1, .int v2] (SHF, g) ((fun r : Int32 × Sg => ((some (.int r.1), (SHF, r.2)) : Out)) r) := by
  obtain ⟨d, rfl⟩ : ∃ d0, d = d0 + 1 := ⟨d - 1, by omega⟩
  have hd : 2 ≤ d := by omega
  refine E_in (f := (fun r : Int32 × Sg => ((some (.int r.1), (SHF, r.2)) : Out))) rfl (Nat.le_of_ble_eq_true rfl) ?_
  unfold x_broken
  change Lt X d (some .boolean) k_110 _ 0 [some (.ref 0), some (.int v1), some (.int v2), none] [] g _
  refine L_s (pc' := 1) rfl rfl ?_
  refine L_gf (pc' := 4) rfl fr_0_0 rfl ?_
  refine L_gf (pc' := 7) rfl fr_1_0 rfl ?_
  refine L_s (pc' := 8) (L' := [some (.ref 0), some (.int v1), some (.int v2), some (.ref 2)]) rfl rfl ?_
  refine L_s (pc' := 9) rfl rfl ?_
  refine L_s (pc' := 10) rfl rfl ?_
  refine L_ci (pc' := 13) (as := [.ref 2, .int v1]) (rest := []) rfl rfl (e_net_hasChannel (by omega) _ _) rfl fun x1 => ?_
  refine L_br (t := 26) (n := 16) rfl rfl (fun _ => ?_) (fun _ => ?_)
  · refine L_ic (pc' := 27) rfl q1_0 rfl ?_
    exact L_ret rfl (ret_z (by decide)) rfl
  · refine L_s (pc' := 17) rfl rfl ?_
    refine L_gf (pc' := 20) rfl fr_2_13 rfl ?_
    refine L_s (pc' := 21) rfl rfl ?_
    refine L_rB (pc' := 22) rfl sh_15 (by decide) (by decide) rfl ?_
    refine L_s (pc' := 23) rfl rfl ?_
    refine L_br (t := 28) (n := 26) rfl rfl (fun _ => ?_) (fun _ => ?_)
    · refine L_s (pc' := 29) rfl rfl ?_
      refine L_gf (pc' := 32) rfl fr_2_13 rfl ?_
      refine L_s (pc' := 33) rfl rfl ?_
      refine L_s (pc' := 34) rfl rfl ?_
      refine L_wZ (pc' := 35) rfl sh_15 (by decide) rfl ?_
      refine L_let fun g2 _ => ?_
      refine L_s (pc' := 36) rfl rfl ?_
      refine L_br (t := 44) (n := 39) rfl rfl (fun _ => ?_) (fun _ => ?_)
      · refine L_ic (pc' := 45) rfl q1_1 rfl ?_
        exact L_ret rfl (ret_z (by decide)) rfl
      · refine L_s (pc' := 40) rfl rfl ?_
        refine L_s (pc' := 41) rfl rfl ?_
        refine L_cv (pc' := 44) (as := [.ref 2, .int v1]) (rest := []) rfl rfl (e_net_loseUnderWay (by omega) F _ _) rfl fun g3 => ?_
        refine L_ic (pc' := 45) rfl q1_1 rfl ?_
        exact L_ret rfl (ret_z (by decide)) rfl
    · refine L_ic (pc' := 27) rfl q1_0 rfl ?_
      exact L_ret rfl (ret_z (by decide)) rfl
def x_open_43 (v1 : Int32) (v2 : Int32) (g : Sg) : Option (Int32 × Sg) :=
  (if inb v1 10 = true then lt1 (up2 g 5 (Int32.toNatClampNeg v1) v2) (fun g1 => (some (1, g1))) else none)
def x_open (v1 : Int32) (v2 : Int32) (g : Sg) : Option (Int32 × Sg) :=
  Option.bind (net_hasNode v1 g) (fun x1 => (if ¬ x1 = 0 then
    (if v2 = (-1) then
      (x_open_43 v1 v2 g)
    else
      Option.bind (net_hasChannel v2 g) (fun x2 => (if x2 = 0 then
        (some (0, g))
      else
        (if inb v2 14 = true then (if (g 9 (Int32.toNatClampNeg v2)) = v1 then
          (x_open_43 v1 v2 g)
        else
          (some (0, g))) else none))))
  else
    (some (0, g))))
theorem p_x_open_43 {X : Xx} {d : Nat} (hd : 1 ≤ d) (v1 : Int32) (v2 : Int32) (g : Sg) : Lt X d (some .boolean) k_111 (fun r : Int32 × Sg => ((some (.int r.1), (SHF, r.2)) : Out)) 43 [none, some (.int v1), some (.int v2), some (.ref 2)] [] g (x_open_43 v1 v2 g) := by
  unfold x_open_43
  refine L_s (pc' := 44) rfl rfl ?_
  refine L_gf (pc' := 47) rfl fr_2_4 rfl ?_
  refine L_s (pc' := 48) rfl rfl ?_
  refine L_s (pc' := 49) rfl rfl ?_
  refine L_wI (pc' := 50) rfl sh_5 (by decide) rfl ?_
  refine L_let fun g1 _ => ?_
  refine L_ic (pc' := 51) rfl q1_1 rfl ?_
  exact L_ret rfl (ret_z (by decide)) rfl
theorem e_x_open {X : Xx} {d : Nat} (hd : 2 ≤ d) (v1 : Int32) (v2 : Int32) (g : Sg) : ∀ r, x_open v1 v2 g = some r → EvM zft mtl X d 111 [.ref 0, .int v1, .int v2] (SHF, g) ((fun r : Int32 × Sg => ((some (.int r.1), (SHF, r.2)) : Out)) r) := by
  obtain ⟨d, rfl⟩ : ∃ d0, d = d0 + 1 := ⟨d - 1, by omega⟩
  have hd : 1 ≤ d := by omega
  refine E_in (f := (fun r : Int32 × Sg => ((some (.int r.1), (SHF, r.2)) : Out))) rfl (Nat.le_of_ble_eq_true rfl) ?_
  unfold x_open
  change Lt X d (some .boolean) k_111 _ 0 [some (.ref 0), some (.int v1), some (.int v2), none] [] g _
  refine L_s (pc' := 1) rfl rfl ?_
  refine L_gf (pc' := 4) rfl fr_0_0 rfl ?_
  refine L_gf (pc' := 7) rfl fr_1_0 rfl ?_
  refine L_s (pc' := 8) (L' := [some (.ref 0), some (.int v1), some (.int v2), some (.ref 2)]) rfl rfl ?_
  refine L_s (pc' := 9) rfl rfl ?_
  refine L_s (pc' := 10) rfl rfl ?_
  refine L_ci (pc' := 13) (as := [.ref 2, .int v1]) (rest := []) rfl rfl (e_net_hasNode (by omega) _ _) rfl fun x1 => ?_
  refine L_br (t := 18) (n := 16) rfl rfl (fun _ => ?_) (fun _ => ?_)
  · refine L_s (pc' := 19) rfl rfl ?_
    refine L_ic (pc' := 20) rfl q1_m1 rfl ?_
    refine L_br (t := 43) (n := 23) rfl rfl (fun _ => ?_) (fun _ => ?_)
    · refine L_wk (L' := [none, some (.int v1), some (.int v2), some (.ref 2)]) (wk_n (wk_s (wk_s (wk_s wk_nil)))) ?_
      exact p_x_open_43 hd _ _ _
    · refine L_s (pc' := 24) rfl rfl ?_
      refine L_s (pc' := 25) rfl rfl ?_
      refine L_ci (pc' := 28) (as := [.ref 2, .int v2]) (rest := []) rfl rfl (e_net_hasChannel (by omega) _ _) rfl fun x2 => ?_
      refine L_br (t := 41) (n := 31) rfl rfl (fun _ => ?_) (fun _ => ?_)
      · refine L_ic (pc' := 42) rfl q1_0 rfl ?_
        exact L_ret rfl (ret_z (by decide)) rfl
      · refine L_s (pc' := 32) rfl rfl ?_
        refine L_gf (pc' := 35) rfl fr_2_7 rfl ?_
        refine L_s (pc' := 36) rfl rfl ?_
        refine L_rI (pc' := 37) rfl sh_9 (by decide) rfl ?_
        refine L_s (pc' := 38) rfl rfl ?_
        refine L_br (t := 43) (n := 41) rfl rfl (fun _ => ?_) (fun _ => ?_)
        · refine L_wk (L' := [none, some (.int v1), some (.int v2), some (.ref 2)]) (wk_n (wk_s (wk_s (wk_s wk_nil)))) ?_
          exact p_x_open_43 hd _ _ _
        · refine L_ic (pc' := 42) rfl q1_0 rfl ?_
          exact L_ret rfl (ret_z (by decide)) rfl
  · refine L_ic (pc' := 17) rfl q1_0 rfl ?_
    exact L_ret rfl (ret_z (by decide)) rfl
def jA_fill_5 : Nat → Int32 → Int32 → Sg → Option (Sg)
  | 0, _, _, _ => none
  | n + 1, v1, v2, g =>
    (if 10 ≤ v2 then
      (some g)
    else
      (if inb v2 10 = true then lt1 (up2 g 190 (Int32.toNatClampNeg v2) v1) (fun g1 => (jA_fill_5 n v1 (v2 + 1) g1)) else none))
def jA_fill (F : Nat) (v1 : Int32) (g : Sg) : Option (Sg) :=
  (jA_fill_5 F v1 0 g)
theorem p_jA_fill_5 {X : Xx} {d : Nat} (hd : 0 ≤ d) : ∀ (n : Nat) (v1 : Int32) (v2 : Int32) (g : Sg), Lt X d none k_238 (fun r : Sg => ((none, (SHF, r)) : Out)) 5 [some (.ref 190), some (.int v1), some (.int v2), some (.int 10)] [] g (jA_fill_5 n v1 v2 g) := by
  intro n
  induction n with
  | zero => intros; exact L_none
  | succ n ih =>
    intro v1 v2 g
    show Lt X d none k_238 (fun r : Sg => ((none, (SHF, r)) : Out)) 5 [some (.ref 190), some (.int v1), some (.int v2), some (.int 10)] [] g (
      (if 10 ≤ v2 then
        (some g)
      else
        (if inb v2 10 = true then lt1 (up2 g 190 (Int32.toNatClampNeg v2) v1) (fun g1 => (jA_fill_5 n v1 (v2 + 1) g1)) else none)))
    refine L_s (pc' := 6) rfl rfl ?_
    refine L_s (pc' := 7) rfl rfl ?_
    refine L_br (t := 20) (n := 10) rfl rfl (fun _ => ?_) (fun _ => ?_)
    · exact L_ret rfl rfl rfl
    · refine L_s (pc' := 11) rfl rfl ?_
      refine L_s (pc' := 12) rfl rfl ?_
      refine L_s (pc' := 13) rfl rfl ?_
      refine L_wI (pc' := 14) rfl sh_190 (by decide) rfl ?_
      refine L_let fun g1 _ => ?_
      refine L_ii (pc' := 17) (L' := [some (.ref 190), some (.int v1), some (.int (v2 + 1)), some (.int 10)]) rfl rfl q1_1 rfl rfl rfl ?_
      refine L_s (pc' := 5) rfl rfl ?_
      exact ih _ _ _
theorem e_jA_fill {X : Xx} {d : Nat} (hd : 1 ≤ d) (F : Nat) (v1 : Int32) (g : Sg) : ∀ r, jA_fill F v1 g = some r → EvM zft mtl X d 238 [.ref 190, .int v1] (SHF, g) ((fun r : Sg => ((none, (SHF, r)) : Out)) r) := by
  obtain ⟨d, rfl⟩ : ∃ d0, d = d0 + 1 := ⟨d - 1, by omega⟩
  have hd : 0 ≤ d := by omega
  refine E_in (f := (fun r : Sg => ((none, (SHF, r)) : Out))) rfl (Nat.le_of_ble_eq_true rfl) ?_
  unfold jA_fill
  change Lt X d none k_238 _ 0 [some (.ref 190), some (.int v1), none, none] [] g _
  refine L_ic (pc' := 1) rfl q1_0 rfl ?_
  refine L_s (pc' := 2) (L' := [some (.ref 190), some (.int v1), some (.int 0), none]) rfl rfl ?_
  refine L_s (pc' := 3) rfl rfl ?_
  refine L_s (pc' := 4) (st' := [.int 10]) rfl rfl ?_
  refine L_s (pc' := 5) (L' := [some (.ref 190), some (.int v1), some (.int 0), some (.int 10)]) rfl rfl ?_
  exact p_jA_fill_5 hd F _ _ _
def ways_reaches (v1 : Int32) (g : Sg) : Option (Int32) :=
  (if v1 = (g 187 3) then
    (some 1)
  else
    Option.bind (x_within v1 0 9 g) (fun x1 => (if x1 = 0 then
      (some 0)
    else
      (if inb v1 10 = true then (if (g 190 (Int32.toNatClampNeg v1)) = (-1) then
        (some 0)
      else
        (some 1)) else none))))
theorem e_ways_reaches {X : Xx} {d : Nat} (hd : 2 ≤ d) (v1 : Int32) (g : Sg) : ∀ r, ways_reaches v1 g = some r → EvM zft mtl X d 102 [.ref 187, .int v1] (SHF, g) ((fun r : Int32 => ((some (.int r), (SHF, g)) : Out)) r) := by
  obtain ⟨d, rfl⟩ : ∃ d0, d = d0 + 1 := ⟨d - 1, by omega⟩
  have hd : 1 ≤ d := by omega
  refine E_in (f := (fun r : Int32 => ((some (.int r), (SHF, g)) : Out))) rfl (Nat.le_of_ble_eq_true rfl) ?_
  unfold ways_reaches
  change Lt X d (some .boolean) k_102 _ 0 [some (.ref 187), some (.int v1)] [] g _
  refine L_s (pc' := 1) rfl rfl ?_
  refine L_s (pc' := 2) rfl rfl ?_
  refine L_gf (pc' := 5) rfl fi_187_3 rfl ?_
  refine L_br (t := 28) (n := 8) rfl rfl (fun _ => ?_) (fun _ => ?_)
  · refine L_ic (pc' := 29) rfl q1_1 rfl ?_
    refine L_s (pc' := 33) rfl rfl ?_
    exact L_ret rfl (ret_z (by decide)) rfl
  · refine L_s (pc' := 9) rfl rfl ?_
    refine L_ic (pc' := 10) rfl q1_0 rfl ?_
    refine L_bi (pc' := 12) rfl q2_9 rfl ?_
    refine L_ci (pc' := 15) (as := [.int v1, .int 0, .int 9]) (rest := []) rfl rfl (e_x_within (by omega) _ _ _ _) rfl fun x1 => ?_
    refine L_br (t := 32) (n := 18) rfl rfl (fun _ => ?_) (fun _ => ?_)
    · refine L_ic (pc' := 33) rfl q1_0 rfl ?_
      exact L_ret rfl (ret_z (by decide)) rfl
    · refine L_s (pc' := 19) rfl rfl ?_
      refine L_gf (pc' := 22) rfl fr_187_2 rfl ?_
      refine L_s (pc' := 23) rfl rfl ?_
      refine L_rI (pc' := 24) rfl sh_190 (by decide) rfl ?_
      refine L_ic (pc' := 25) rfl q1_m1 rfl ?_
      refine L_br (t := 32) (n := 28) rfl rfl (fun _ => ?_) (fun _ => ?_)
      · refine L_ic (pc' := 33) rfl q1_0 rfl ?_
        exact L_ret rfl (ret_z (by decide)) rfl
      · refine L_ic (pc' := 29) rfl q1_1 rfl ?_
        refine L_s (pc' := 33) rfl rfl ?_
        exact L_ret rfl (ret_z (by decide)) rfl
def ways_findNext_132 (k_2 : Int32 → Int32 → Sg → Option (Sg)) (v2 : Int32) (v3 : Int32) (v5 : Int32) (v6 : Int32) (g : Sg) : Option (Sg) :=
  (if inb v2 10 = true then lt1 (up2 g 190 (Int32.toNatClampNeg v2) v3) (fun g1 => (if inb v2 10 = true then lt1 (up2 g1 188 (Int32.toNatClampNeg v2) v5) (fun g2 => (if inb v2 10 = true then lt1 (up2 g2 189 (Int32.toNatClampNeg v2) v6) (fun g3 => (k_2 v2 (v3 + 1) g3)) else none)) else none)) else none)
def ways_findNext_115 (k_2 : Int32 → Int32 → Sg → Option (Sg)) (v2 : Int32) (v3 : Int32) (v5 : Int32) (v6 : Int32) (s0 : Int32) (g : Sg) : Option (Sg) :=
  (if inb v2 10 = true then (if (g 190 (Int32.toNatClampNeg v2)) = (-1) then
    (ways_findNext_132 k_2 v2 v3 v5 v6 g)
  else
    (if s0 = 0 then
      (k_2 v2 (v3 + 1) g)
    else
      (ways_findNext_132 k_2 v2 v3 v5 v6 g))) else none)
def ways_findNext_110 (k_2 : Int32 → Int32 → Sg → Option (Sg)) (v2 : Int32) (v3 : Int32) (v5 : Int32) (v6 : Int32) (g : Sg) : Option (Sg) :=
  (ways_findNext_115 k_2 v2 v3 v5 v6 1 g)
def ways_findNext_114 (k_2 : Int32 → Int32 → Sg → Option (Sg)) (v2 : Int32) (v3 : Int32) (v5 : Int32) (v6 : Int32) (g : Sg) : Option (Sg) :=
  (ways_findNext_115 k_2 v2 v3 v5 v6 0 g)
def ways_findNext_2 : Nat → Int32 → Int32 → Sg → Option (Sg)
  | 0, _, _, _ => none
  | n + 1, v2, v3, g =>
    (if (g 2 6) ≤ v3 then
      (some g)
    else
      (if inb v3 14 = true then (if ¬ (g 9 (Int32.toNatClampNeg v3)) = v2 then
        (ways_findNext_2 n v2 (v3 + 1) g)
      else
        (if inb v3 14 = true then (if ¬ (g 15 (Int32.toNatClampNeg v3)) = 0 then
          (ways_findNext_2 n v2 (v3 + 1) g)
        else
          (if inb v3 14 = true then Option.bind (ways_reaches (g 10 (Int32.toNatClampNeg v3)) g) (fun x1 => (if x1 = 0 then
            (ways_findNext_2 n v2 (v3 + 1) g)
          else
            (if inb v3 14 = true then lt1 ((g 10 (Int32.toNatClampNeg v3)) : Int32) (fun x2 => (if inb x2 10 = true then (if inb v3 14 = true then lt1 (((g 188 (Int32.toNatClampNeg x2)) + (g 13 (Int32.toNatClampNeg v3))) : Int32) (fun x3 => (if inb x2 10 = true then lt1 (((g 189 (Int32.toNatClampNeg x2)) + 1) : Int32) (fun x4 => (if inb v2 10 = true then (if x3 < (g 188 (Int32.toNatClampNeg v2)) then
              (ways_findNext_110 (fun v2 v3 g0 => ways_findNext_2 n v2 v3 g0) v2 v3 x3 x4 g)
            else
              (if inb v2 10 = true then (if ¬ x3 = (g 188 (Int32.toNatClampNeg v2)) then
                (ways_findNext_114 (fun v2 v3 g0 => ways_findNext_2 n v2 v3 g0) v2 v3 x3 x4 g)
              else
                (if inb v2 10 = true then (if (g 189 (Int32.toNatClampNeg v2)) ≤ x4 then
                  (ways_findNext_114 (fun v2 v3 g0 => ways_findNext_2 n v2 v3 g0) v2 v3 x3 x4 g)
                else
                  (ways_findNext_110 (fun v2 v3 g0 => ways_findNext_2 n v2 v3 g0) v2 v3 x3 x4 g)) else none)) else none)) else none)) else none)) else none) else none)) else none))) else none)) else none)) else none))
def ways_findNext (F : Nat) (v2 : Int32) (g : Sg) : Option (Sg) :=
  (ways_findNext_2 F v2 0 g)
theorem p_ways_findNext_132 {X : Xx} {d : Nat} {k_2 : Int32 → Int32 → Sg → Option (Sg)} (hd : 2 ≤ d) (hk_2 : ∀ (v2 : Int32) (v3 : Int32) (g : Sg), Lt X d none k_101 (fun r : Sg => ((none, (SHF, r)) : Out)) 2 [some (.ref 187), some (.ref 2), some (.int v2), some (.int v3), none, none, none, none] [] g (k_2 v2 v3 g)) (v2 : Int32) (v3 : Int32) (v5 : Int32) (v6 : Int32) (g : Sg) : Lt X d none k_101 (fun r : Sg => ((none, (SHF, r)) : Out)) 132 [some (.ref 187), some (.ref 2), some (.int v2), some (.int v3), none, some (.int v5), some (.int v6), none] [] g (ways_findNext_132 k_2 v2 v3 v5 v6 g) := by
  unfold ways_findNext_132
  refine L_s (pc' := 133) rfl rfl ?_
  refine L_gf (pc' := 136) rfl fr_187_2 rfl ?_
  refine L_s (pc' := 137) rfl rfl ?_
  refine L_s (pc' := 138) rfl rfl ?_
  refine L_wI (pc' := 139) rfl sh_190 (by decide) rfl ?_
  refine L_let fun g1 _ => ?_
  refine L_s (pc' := 140) rfl rfl ?_
  refine L_gf (pc' := 143) rfl fr_187_0 rfl ?_
  refine L_s (pc' := 144) rfl rfl ?_
  refine L_s (pc' := 146) rfl rfl ?_
  refine L_wI (pc' := 147) rfl sh_188 (by decide) rfl ?_
  refine L_let fun g2 _ => ?_
  refine L_s (pc' := 148) rfl rfl ?_
  refine L_gf (pc' := 151) rfl fr_187_1 rfl ?_
  refine L_s (pc' := 152) rfl rfl ?_
  refine L_s (pc' := 154) rfl rfl ?_
  refine L_wI (pc' := 155) rfl sh_189 (by decide) rfl ?_
  refine L_let fun g3 _ => ?_
  refine L_ii (pc' := 158) (L' := [some (.ref 187), some (.ref 2), some (.int v2), some (.int (v3 + 1)), none, some (.int v5), some (.int v6), none]) rfl rfl q1_1 rfl rfl rfl ?_
  refine L_s (pc' := 2) rfl rfl ?_
  refine L_wk (L' := [some (.ref 187), some (.ref 2), some (.int v2), some (.int (v3 + 1)), none, none, none, none]) (wk_s (wk_s (wk_s (wk_s (wk_s (wk_n (wk_n (wk_s wk_nil)))))))) ?_
  exact hk_2 _ _ _
theorem p_ways_findNext_115 {X : Xx} {d : Nat} {k_2 : Int32 → Int32 → Sg → Option (Sg)} (hd : 2 ≤ d) (hk_2 : ∀ (v2 : Int32) (v3 : Int32) (g : Sg), Lt X d none k_101 (fun r : Sg => ((none, (SHF, r)) : Out)) 2 [some (.ref 187), some (.ref 2), some (.int v2), some (.int v3), none, none, none, none] [] g (k_2 v2 v3 g)) (v2 : Int32) (v3 : Int32) (v5 : Int32) (v6 : Int32) (s0 : Int32) (g : Sg) : Lt X d none k_101 (fun r : Sg => ((none, (SHF, r)) : Out)) 115 [some (.ref 187), some (.ref 2), some (.int v2), some (.int v3), none, some (.int v5), some (.int v6), none] [.int s0] g (ways_findNext_115 k_2 v2 v3 v5 v6 s0 g) := by
  unfold ways_findNext_115
  refine L_s (pc' := 117) (L' := [some (.ref 187), some (.ref 2), some (.int v2), some (.int v3), none, some (.int v5), some (.int v6), some (.int s0)]) rfl rfl ?_
  refine L_s (pc' := 118) rfl rfl ?_
  refine L_gf (pc' := 121) rfl fr_187_2 rfl ?_
  refine L_s (pc' := 122) rfl rfl ?_
  refine L_rI (pc' := 123) rfl sh_190 (by decide) rfl ?_
  refine L_ic (pc' := 124) rfl q1_m1 rfl ?_
  refine L_br (t := 132) (n := 127) rfl rfl (fun _ => ?_) (fun _ => ?_)
  · refine L_wk (L' := [some (.ref 187), some (.ref 2), some (.int v2), some (.int v3), none, some (.int v5), some (.int v6), none]) (wk_s (wk_s (wk_s (wk_s (wk_s (wk_s (wk_s (wk_n wk_nil)))))))) ?_
    exact p_ways_findNext_132 hd hk_2 _ _ _ _ _
  · refine L_s (pc' := 129) rfl rfl ?_
    refine L_br (t := 155) (n := 132) rfl rfl (fun _ => ?_) (fun _ => ?_)
    · refine L_ii (pc' := 158) (L' := [some (.ref 187), some (.ref 2), some (.int v2), some (.int (v3 + 1)), none, some (.int v5), some (.int v6), some (.int s0)]) rfl rfl q1_1 rfl rfl rfl ?_
      refine L_s (pc' := 2) rfl rfl ?_
      refine L_wk (L' := [some (.ref 187), some (.ref 2), some (.int v2), some (.int (v3 + 1)), none, none, none, none]) (wk_s (wk_s (wk_s (wk_s (wk_s (wk_n (wk_n (wk_n wk_nil)))))))) ?_
      exact hk_2 _ _ _
    · refine L_wk (L' := [some (.ref 187), some (.ref 2), some (.int v2), some (.int v3), none, some (.int v5), some (.int v6), none]) (wk_s (wk_s (wk_s (wk_s (wk_s (wk_s (wk_s (wk_n wk_nil)))))))) ?_
      exact p_ways_findNext_132 hd hk_2 _ _ _ _ _
theorem p_ways_findNext_110 {X : Xx} {d : Nat} {k_2 : Int32 → Int32 → Sg → Option (Sg)} (hd : 2 ≤ d) (hk_2 : ∀ (v2 : Int32) (v3 : Int32) (g : Sg), Lt X d none k_101 (fun r : Sg => ((none, (SHF, r)) : Out)) 2 [some (.ref 187), some (.ref 2), some (.int v2), some (.int v3), none, none, none, none] [] g (k_2 v2 v3 g)) (v2 : Int32) (v3 : Int32) (v5 : Int32) (v6 : Int32) (g : Sg) : Lt X d none k_101 (fun r : Sg => ((none, (SHF, r)) : Out)) 110 [some (.ref 187), some (.ref 2), some (.int v2), some (.int v3), none, some (.int v5), some (.int v6), none] [] g (ways_findNext_110 k_2 v2 v3 v5 v6 g) := by
  unfold ways_findNext_110
  refine L_ic (pc' := 111) rfl q1_1 rfl ?_
  refine L_s (pc' := 115) rfl rfl ?_
  exact p_ways_findNext_115 hd hk_2 _ _ _ _ _ _
theorem p_ways_findNext_114 {X : Xx} {d : Nat} {k_2 : Int32 → Int32 → Sg → Option (Sg)} (hd : 2 ≤ d) (hk_2 : ∀ (v2 : Int32) (v3 : Int32) (g : Sg), Lt X d none k_101 (fun r : Sg => ((none, (SHF, r)) : Out)) 2 [some (.ref 187), some (.ref 2), some (.int v2), some (.int v3), none, none, none, none] [] g (k_2 v2 v3 g)) (v2 : Int32) (v3 : Int32) (v5 : Int32) (v6 : Int32) (g : Sg) : Lt X d none k_101 (fun r : Sg => ((none, (SHF, r)) : Out)) 114 [some (.ref 187), some (.ref 2), some (.int v2), some (.int v3), none, some (.int v5), some (.int v6), none] [] g (ways_findNext_114 k_2 v2 v3 v5 v6 g) := by
  unfold ways_findNext_114
  refine L_ic (pc' := 115) rfl q1_0 rfl ?_
  exact p_ways_findNext_115 hd hk_2 _ _ _ _ _ _
theorem p_ways_findNext_2 {X : Xx} {d : Nat} (hd : 2 ≤ d) : ∀ (n : Nat) (v2 : Int32) (v3 : Int32) (g : Sg), Lt X d none k_101 (fun r : Sg => ((none, (SHF, r)) : Out)) 2 [some (.ref 187), some (.ref 2), some (.int v2), some (.int v3), none, none, none, none] [] g (ways_findNext_2 n v2 v3 g) := by
  intro n
  induction n with
  | zero => intros; exact L_none
  | succ n ih =>
    intro v2 v3 g
    show Lt X d none k_101 (fun r : Sg => ((none, (SHF, r)) : Out)) 2 [some (.ref 187), some (.ref 2), some (.int v2), some (.int v3), none, none, none, none] [] g (
      (if (g 2 6) ≤ v3 then
        (some g)
      else
        (if inb v3 14 = true then (if ¬ (g 9 (Int32.toNatClampNeg v3)) = v2 then
          (ways_findNext_2 n v2 (v3 + 1) g)
        else
          (if inb v3 14 = true then (if ¬ (g 15 (Int32.toNatClampNeg v3)) = 0 then
            (ways_findNext_2 n v2 (v3 + 1) g)
          else
            (if inb v3 14 = true then Option.bind (ways_reaches (g 10 (Int32.toNatClampNeg v3)) g) (fun x1 => (if x1 = 0 then
              (ways_findNext_2 n v2 (v3 + 1) g)
            else
              (if inb v3 14 = true then lt1 ((g 10 (Int32.toNatClampNeg v3)) : Int32) (fun x2 => (if inb x2 10 = true then (if inb v3 14 = true then lt1 (((g 188 (Int32.toNatClampNeg x2)) + (g 13 (Int32.toNatClampNeg v3))) : Int32) (fun x3 => (if inb x2 10 = true then lt1 (((g 189 (Int32.toNatClampNeg x2)) + 1) : Int32) (fun x4 => (if inb v2 10 = true then (if x3 < (g 188 (Int32.toNatClampNeg v2)) then
                (ways_findNext_110 (fun v2 v3 g0 => ways_findNext_2 n v2 v3 g0) v2 v3 x3 x4 g)
              else
                (if inb v2 10 = true then (if ¬ x3 = (g 188 (Int32.toNatClampNeg v2)) then
                  (ways_findNext_114 (fun v2 v3 g0 => ways_findNext_2 n v2 v3 g0) v2 v3 x3 x4 g)
                else
                  (if inb v2 10 = true then (if (g 189 (Int32.toNatClampNeg v2)) ≤ x4 then
                    (ways_findNext_114 (fun v2 v3 g0 => ways_findNext_2 n v2 v3 g0) v2 v3 x3 x4 g)
                  else
                    (ways_findNext_110 (fun v2 v3 g0 => ways_findNext_2 n v2 v3 g0) v2 v3 x3 x4 g)) else none)) else none)) else none)) else none)) else none) else none)) else none))) else none)) else none)) else none)))
    refine L_s (pc' := 3) rfl rfl ?_
    refine L_s (pc' := 4) rfl rfl ?_
    refine L_gf (pc' := 7) rfl fi_2_6 rfl ?_
    refine L_br (t := 161) (n := 10) rfl rfl (fun _ => ?_) (fun _ => ?_)
    · exact L_ret rfl rfl rfl
    · refine L_s (pc' := 11) rfl rfl ?_
      refine L_gf (pc' := 14) rfl fr_2_7 rfl ?_
      refine L_s (pc' := 15) rfl rfl ?_
      refine L_rI (pc' := 16) rfl sh_9 (by decide) rfl ?_
      refine L_s (pc' := 17) rfl rfl ?_
      refine L_br (t := 155) (n := 20) rfl rfl (fun _ => ?_) (fun _ => ?_)
      · refine L_ii (pc' := 158) (L' := [some (.ref 187), some (.ref 2), some (.int v2), some (.int (v3 + 1)), none, none, none, none]) rfl rfl q1_1 rfl rfl rfl ?_
        refine L_s (pc' := 2) rfl rfl ?_
        exact ih _ _ _
      · refine L_s (pc' := 21) rfl rfl ?_
        refine L_gf (pc' := 24) rfl fr_2_13 rfl ?_
        refine L_s (pc' := 25) rfl rfl ?_
        refine L_rB (pc' := 26) rfl sh_15 (by decide) (by decide) rfl ?_
        refine L_br (t := 155) (n := 29) rfl rfl (fun _ => ?_) (fun _ => ?_)
        · refine L_ii (pc' := 158) (L' := [some (.ref 187), some (.ref 2), some (.int v2), some (.int (v3 + 1)), none, none, none, none]) rfl rfl q1_1 rfl rfl rfl ?_
          refine L_s (pc' := 2) rfl rfl ?_
          exact ih _ _ _
        · refine L_s (pc' := 30) rfl rfl ?_
          refine L_s (pc' := 31) rfl rfl ?_
          refine L_gf (pc' := 34) rfl fr_2_8 rfl ?_
          refine L_s (pc' := 35) rfl rfl ?_
          refine L_rI (pc' := 36) rfl sh_10 (by decide) rfl ?_
          refine L_ci (pc' := 39) (as := [.ref 187, .int (g 10 (Int32.toNatClampNeg v3))]) (rest := []) rfl rfl (e_ways_reaches (by omega) _ _) rfl fun x1 => ?_
          refine L_br (t := 155) (n := 42) rfl rfl (fun _ => ?_) (fun _ => ?_)
          · refine L_ii (pc' := 158) (L' := [some (.ref 187), some (.ref 2), some (.int v2), some (.int (v3 + 1)), none, none, none, none]) rfl rfl q1_1 rfl rfl rfl ?_
            refine L_s (pc' := 2) rfl rfl ?_
            exact ih _ _ _
          · refine L_s (pc' := 43) rfl rfl ?_
            refine L_gf (pc' := 46) rfl fr_2_8 rfl ?_
            refine L_s (pc' := 47) rfl rfl ?_
            refine L_rI (pc' := 48) rfl sh_10 (by decide) rfl ?_
            refine L_li fun x2 _ => ?_
            refine L_s (pc' := 50) (L' := [some (.ref 187), some (.ref 2), some (.int v2), some (.int v3), some (.int x2), none, none, none]) rfl rfl ?_
            refine L_s (pc' := 51) rfl rfl ?_
            refine L_gf (pc' := 54) rfl fr_187_0 rfl ?_
            refine L_s (pc' := 56) rfl rfl ?_
            refine L_rI (pc' := 57) rfl sh_188 (by decide) rfl ?_
            refine L_s (pc' := 58) rfl rfl ?_
            refine L_gf (pc' := 61) rfl fr_2_11 rfl ?_
            refine L_s (pc' := 62) rfl rfl ?_
            refine L_rI (pc' := 63) rfl sh_13 (by decide) rfl ?_
            refine L_s (pc' := 64) rfl rfl ?_
            refine L_li fun x3 _ => ?_
            refine L_s (pc' := 66) (L' := [some (.ref 187), some (.ref 2), some (.int v2), some (.int v3), some (.int x2), some (.int x3), none, none]) rfl rfl ?_
            refine L_s (pc' := 67) rfl rfl ?_
            refine L_gf (pc' := 70) rfl fr_187_1 rfl ?_
            refine L_s (pc' := 72) rfl rfl ?_
            refine L_rI (pc' := 73) rfl sh_189 (by decide) rfl ?_
            refine L_ic (pc' := 74) rfl q1_1 rfl ?_
            refine L_s (pc' := 75) rfl rfl ?_
            refine L_li fun x4 _ => ?_
            refine L_s (pc' := 77) (L' := [some (.ref 187), some (.ref 2), some (.int v2), some (.int v3), some (.int x2), some (.int x3), some (.int x4), none]) rfl rfl ?_
            refine L_s (pc' := 79) rfl rfl ?_
            refine L_s (pc' := 80) rfl rfl ?_
            refine L_gf (pc' := 83) rfl fr_187_0 rfl ?_
            refine L_s (pc' := 84) rfl rfl ?_
            refine L_rI (pc' := 85) rfl sh_188 (by decide) rfl ?_
            refine L_br (t := 110) (n := 88) rfl rfl (fun _ => ?_) (fun _ => ?_)
            · refine L_wk (L' := [some (.ref 187), some (.ref 2), some (.int v2), some (.int v3), none, some (.int x3), some (.int x4), none]) (wk_s (wk_s (wk_s (wk_s (wk_n (wk_s (wk_s (wk_s wk_nil)))))))) ?_
              exact p_ways_findNext_110 hd (fun _ _ _ => ih _ _ _) _ _ _ _ _
            · refine L_s (pc' := 90) rfl rfl ?_
              refine L_s (pc' := 91) rfl rfl ?_
              refine L_gf (pc' := 94) rfl fr_187_0 rfl ?_
              refine L_s (pc' := 95) rfl rfl ?_
              refine L_rI (pc' := 96) rfl sh_188 (by decide) rfl ?_
              refine L_br (t := 114) (n := 99) rfl rfl (fun _ => ?_) (fun _ => ?_)
              · refine L_wk (L' := [some (.ref 187), some (.ref 2), some (.int v2), some (.int v3), none, some (.int x3), some (.int x4), none]) (wk_s (wk_s (wk_s (wk_s (wk_n (wk_s (wk_s (wk_s wk_nil)))))))) ?_
                exact p_ways_findNext_114 hd (fun _ _ _ => ih _ _ _) _ _ _ _ _
              · refine L_s (pc' := 101) rfl rfl ?_
                refine L_s (pc' := 102) rfl rfl ?_
                refine L_gf (pc' := 105) rfl fr_187_1 rfl ?_
                refine L_s (pc' := 106) rfl rfl ?_
                refine L_rI (pc' := 107) rfl sh_189 (by decide) rfl ?_
                refine L_br (t := 114) (n := 110) rfl rfl (fun _ => ?_) (fun _ => ?_)
                · refine L_wk (L' := [some (.ref 187), some (.ref 2), some (.int v2), some (.int v3), none, some (.int x3), some (.int x4), none]) (wk_s (wk_s (wk_s (wk_s (wk_n (wk_s (wk_s (wk_s wk_nil)))))))) ?_
                  exact p_ways_findNext_114 hd (fun _ _ _ => ih _ _ _) _ _ _ _ _
                · refine L_wk (L' := [some (.ref 187), some (.ref 2), some (.int v2), some (.int v3), none, some (.int x3), some (.int x4), none]) (wk_s (wk_s (wk_s (wk_s (wk_n (wk_s (wk_s (wk_s wk_nil)))))))) ?_
                  exact p_ways_findNext_110 hd (fun _ _ _ => ih _ _ _) _ _ _ _ _
theorem e_ways_findNext {X : Xx} {d : Nat} (hd : 3 ≤ d) (F : Nat) (v2 : Int32) (g : Sg) : ∀ r, ways_findNext F v2 g = some r → EvM zft mtl X d 101 [.ref 187, .ref 2, .int v2] (SHF, g) ((fun r : Sg => ((none, (SHF, r)) : Out)) r) := by
  obtain ⟨d, rfl⟩ : ∃ d0, d = d0 + 1 := ⟨d - 1, by omega⟩
  have hd : 2 ≤ d := by omega
  refine E_in (f := (fun r : Sg => ((none, (SHF, r)) : Out))) rfl (Nat.le_of_ble_eq_true rfl) ?_
  unfold ways_findNext
  change Lt X d none k_101 _ 0 [some (.ref 187), some (.ref 2), some (.int v2), none, none, none, none, none] [] g _
  refine L_ic (pc' := 1) rfl q1_0 rfl ?_
  refine L_s (pc' := 2) (L' := [some (.ref 187), some (.ref 2), some (.int v2), some (.int 0), none, none, none, none]) rfl rfl ?_
  exact p_ways_findNext_2 hd F _ _ _
def ways_find_55 (F : Nat) : Nat → Int32 → Int32 → Sg → Option (Int32 × Sg)
  | 0, _, _, _ => none
  | n + 1, v2, v4, g =>
    (if v4 < v2 then
      (if inb v2 10 = true then (if (g 190 (Int32.toNatClampNeg v2)) = (-1) then
        (some (0, g))
      else
        (some (1, g))) else none)
    else
      Option.bind (ways_findNext F v4 g) (fun g1 => (ways_find_55 F n v2 (v4 + (-1)) g1)))
def ways_find (F : Nat) (v2 : Int32) (v3 : Int32) (g : Sg) : Option (Int32 × Sg) :=
  Option.bind (net_hasNode v2 g) (fun x1 => (if x1 = 0 then
    (some (0, g))
  else
    Option.bind (net_hasNode v3 g) (fun x2 => (if x2 = 0 then
      (some (0, g))
    else
      (if v2 < v3 then
        Option.bind (jA_fill F (-1) g) (fun g3 => lt1 (up2 g3 187 3 v3) (fun g4 => (if inb v3 10 = true then lt1 (up2 g4 188 (Int32.toNatClampNeg v3) 0) (fun g5 => (if inb v3 10 = true then lt1 (up2 g5 189 (Int32.toNatClampNeg v3) 0) (fun g6 => lt1 ((v3 - 1) : Int32) (fun x7 => (ways_find_55 F F v2 x7 g6))) else none)) else none)))
      else
        (some (0, g)))))))
theorem p_ways_find_55 {X : Xx} {d : Nat} (hd : 3 ≤ d) (F : Nat) : ∀ (n : Nat) (v2 : Int32) (v4 : Int32) (g : Sg), Lt X d (some .boolean) k_100 (fun r : Int32 × Sg => ((some (.int r.1), (SHF, r.2)) : Out)) 55 [some (.ref 187), some (.ref 2), some (.int v2), none, some (.int v4)] [] g (ways_find_55 F n v2 v4 g) := by
  intro n
  induction n with
  | zero => intros; exact L_none
  | succ n ih =>
    intro v2 v4 g
    show Lt X d (some .boolean) k_100 (fun r : Int32 × Sg => ((some (.int r.1), (SHF, r.2)) : Out)) 55 [some (.ref 187), some (.ref 2), some (.int v2), none, some (.int v4)] [] g (
      (if v4 < v2 then
        (if inb v2 10 = true then (if (g 190 (Int32.toNatClampNeg v2)) = (-1) then
          (some (0, g))
        else
          (some (1, g))) else none)
      else
        Option.bind (ways_findNext F v4 g) (fun g1 => (ways_find_55 F n v2 (v4 + (-1)) g1))))
    refine L_s (pc' := 57) rfl rfl ?_
    refine L_s (pc' := 58) rfl rfl ?_
    refine L_br (t := 74) (n := 61) rfl rfl (fun _ => ?_) (fun _ => ?_)
    · refine L_s (pc' := 75) rfl rfl ?_
      refine L_gf (pc' := 78) rfl fr_187_2 rfl ?_
      refine L_s (pc' := 79) rfl rfl ?_
      refine L_rI (pc' := 80) rfl sh_190 (by decide) rfl ?_
      refine L_ic (pc' := 81) rfl q1_m1 rfl ?_
      refine L_br (t := 88) (n := 84) rfl rfl (fun _ => ?_) (fun _ => ?_)
      · refine L_ic (pc' := 89) rfl q1_0 rfl ?_
        exact L_ret rfl (ret_z (by decide)) rfl
      · refine L_ic (pc' := 85) rfl q1_1 rfl ?_
        refine L_s (pc' := 89) rfl rfl ?_
        exact L_ret rfl (ret_z (by decide)) rfl
    · refine L_s (pc' := 62) rfl rfl ?_
      refine L_s (pc' := 63) rfl rfl ?_
      refine L_s (pc' := 65) rfl rfl ?_
      refine L_cv (pc' := 68) (as := [.ref 187, .ref 2, .int v4]) (rest := []) rfl rfl (e_ways_findNext (by omega) F _ _) rfl fun g1 => ?_
      refine L_ii (pc' := 71) (L' := [some (.ref 187), some (.ref 2), some (.int v2), none, some (.int (v4 + (-1)))]) rfl rfl q1_m1 rfl rfl rfl ?_
      refine L_s (pc' := 55) rfl rfl ?_
      exact ih _ _ _
theorem e_ways_find {X : Xx} {d : Nat} (hd : 4 ≤ d) (F : Nat) (v2 : Int32) (v3 : Int32) (g : Sg) : ∀ r, ways_find F v2 v3 g = some r → EvM zft mtl X d 100 [.ref 187, .ref 2, .int v2, .int v3] (SHF, g) ((fun r : Int32 × Sg => ((some (.int r.1), (SHF, r.2)) : Out)) r) := by
  obtain ⟨d, rfl⟩ : ∃ d0, d = d0 + 1 := ⟨d - 1, by omega⟩
  have hd : 3 ≤ d := by omega
  refine E_in (f := (fun r : Int32 × Sg => ((some (.int r.1), (SHF, r.2)) : Out))) rfl (Nat.le_of_ble_eq_true rfl) ?_
  unfold ways_find
  change Lt X d (some .boolean) k_100 _ 0 [some (.ref 187), some (.ref 2), some (.int v2), some (.int v3), none] [] g _
  refine L_s (pc' := 1) rfl rfl ?_
  refine L_s (pc' := 2) rfl rfl ?_
  refine L_ci (pc' := 5) (as := [.ref 2, .int v2]) (rest := []) rfl rfl (e_net_hasNode (by omega) _ _) rfl fun x1 => ?_
  refine L_br (t := 21) (n := 8) rfl rfl (fun _ => ?_) (fun _ => ?_)
  · refine L_ic (pc' := 22) rfl q1_0 rfl ?_
    exact L_ret rfl (ret_z (by decide)) rfl
  · refine L_s (pc' := 9) rfl rfl ?_
    refine L_s (pc' := 10) rfl rfl ?_
    refine L_ci (pc' := 13) (as := [.ref 2, .int v3]) (rest := []) rfl rfl (e_net_hasNode (by omega) _ _) rfl fun x2 => ?_
    refine L_br (t := 21) (n := 16) rfl rfl (fun _ => ?_) (fun _ => ?_)
    · refine L_ic (pc' := 22) rfl q1_0 rfl ?_
      exact L_ret rfl (ret_z (by decide)) rfl
    · refine L_s (pc' := 17) rfl rfl ?_
      refine L_s (pc' := 18) rfl rfl ?_
      refine L_br (t := 23) (n := 21) rfl rfl (fun _ => ?_) (fun _ => ?_)
      · refine L_s (pc' := 24) rfl rfl ?_
        refine L_gf (pc' := 27) rfl fr_187_2 rfl ?_
        refine L_ic (pc' := 28) rfl q1_m1 rfl ?_
        refine L_cv (pc' := 31) (as := [.ref 190, .int (-1)]) (rest := []) rfl rfl (e_jA_fill (by omega) F _ _) rfl fun g3 => ?_
        refine L_s (pc' := 32) rfl rfl ?_
        refine L_s (pc' := 33) rfl rfl ?_
        refine L_pf (pc' := 36) rfl sh_187 (by decide) rfl rfl ?_
        refine L_let fun g4 _ => ?_
        refine L_s (pc' := 37) rfl rfl ?_
        refine L_gf (pc' := 40) rfl fr_187_0 rfl ?_
        refine L_s (pc' := 41) rfl rfl ?_
        refine L_ic (pc' := 42) rfl q1_0 rfl ?_
        refine L_wI (pc' := 43) rfl sh_188 (by decide) rfl ?_
        refine L_let fun g5 _ => ?_
        refine L_s (pc' := 44) rfl rfl ?_
        refine L_gf (pc' := 47) rfl fr_187_1 rfl ?_
        refine L_s (pc' := 48) rfl rfl ?_
        refine L_ic (pc' := 49) rfl q1_0 rfl ?_
        refine L_wI (pc' := 50) rfl sh_189 (by decide) rfl ?_
        refine L_let fun g6 _ => ?_
        refine L_s (pc' := 51) rfl rfl ?_
        refine L_ic (pc' := 52) rfl q1_1 rfl ?_
        refine L_s (pc' := 53) rfl rfl ?_
        refine L_li fun x7 _ => ?_
        refine L_s (pc' := 55) (L' := [some (.ref 187), some (.ref 2), some (.int v2), some (.int v3), some (.int x7)]) rfl rfl ?_
        refine L_wk (L' := [some (.ref 187), some (.ref 2), some (.int v2), none, some (.int x7)]) (wk_s (wk_s (wk_s (wk_n (wk_s wk_nil))))) ?_
        exact p_ways_find_55 hd F F _ _ _
      · refine L_ic (pc' := 22) rfl q1_0 rfl ?_
        exact L_ret rfl (ret_z (by decide)) rfl
def ways_travelFrom (v1 : Int32) (g : Sg) : Option (Int32) :=
  Option.bind (x_within v1 0 9 g) (fun x1 => (if x1 = 0 then
    (some (-1))
  else
    (if inb v1 10 = true then (some (g 188 (Int32.toNatClampNeg v1))) else none)))
theorem e_ways_travelFrom {X : Xx} {d : Nat} (hd : 2 ≤ d) (v1 : Int32) (g : Sg) : ∀ r, ways_travelFrom v1 g = some r → EvM zft mtl X d 103 [.ref 187, .int v1] (SHF, g) ((fun r : Int32 => ((some (.int r), (SHF, g)) : Out)) r) := by
  obtain ⟨d, rfl⟩ : ∃ d0, d = d0 + 1 := ⟨d - 1, by omega⟩
  have hd : 1 ≤ d := by omega
  refine E_in (f := (fun r : Int32 => ((some (.int r), (SHF, g)) : Out))) rfl (Nat.le_of_ble_eq_true rfl) ?_
  unfold ways_travelFrom
  change Lt X d (some .int) k_103 _ 0 [some (.ref 187), some (.int v1)] [] g _
  refine L_s (pc' := 1) rfl rfl ?_
  refine L_ic (pc' := 2) rfl q1_0 rfl ?_
  refine L_bi (pc' := 4) rfl q2_9 rfl ?_
  refine L_ci (pc' := 7) (as := [.int v1, .int 0, .int 9]) (rest := []) rfl rfl (e_x_within (by omega) _ _ _ _) rfl fun x1 => ?_
  refine L_br (t := 19) (n := 10) rfl rfl (fun _ => ?_) (fun _ => ?_)
  · refine L_ic (pc' := 20) rfl q1_m1 rfl ?_
    exact L_ret rfl ret_i rfl
  · refine L_s (pc' := 11) rfl rfl ?_
    refine L_gf (pc' := 14) rfl fr_187_0 rfl ?_
    refine L_s (pc' := 15) rfl rfl ?_
    refine L_rI (pc' := 16) rfl sh_188 (by decide) rfl ?_
    refine L_s (pc' := 20) rfl rfl ?_
    exact L_ret rfl ret_i rfl
def x_path (F : Nat) (v1 : Int32) (v2 : Int32) (g : Sg) : Option (Int32 × Sg) :=
  Option.bind (ways_find F v1 v2 g) (fun (x1, g2) => (if x1 = 0 then
    (some ((-1), g2))
  else
    Option.bind (ways_travelFrom v1 g2) (fun x3 => (some (x3, g2)))))
theorem e_x_path {X : Xx} {d : Nat} (hd : 5 ≤ d) (F : Nat) (v1 : Int32) (v2 : Int32) (g : Sg) : ∀ r, x_path F v1 v2 g = some r → EvM zft mtl X d 112 [.ref 0, .int v1, .int v2] (SHF, g) ((fun r : Int32 × Sg => ((some (.int r.1), (SHF, r.2)) : Out)) r) := by
  obtain ⟨d, rfl⟩ : ∃ d0, d = d0 + 1 := ⟨d - 1, by omega⟩
  have hd : 4 ≤ d := by omega
  refine E_in (f := (fun r : Int32 × Sg => ((some (.int r.1), (SHF, r.2)) : Out))) rfl (Nat.le_of_ble_eq_true rfl) ?_
  unfold x_path
  change Lt X d (some .int) k_112 _ 0 [some (.ref 0), some (.int v1), some (.int v2)] [] g _
  refine L_s (pc' := 1) rfl rfl ?_
  refine L_gf (pc' := 4) rfl fr_0_3 rfl ?_
  refine L_s (pc' := 5) rfl rfl ?_
  refine L_gf (pc' := 8) rfl fr_0_0 rfl ?_
  refine L_gf (pc' := 11) rfl fr_1_0 rfl ?_
  refine L_s (pc' := 12) rfl rfl ?_
  refine L_s (pc' := 13) rfl rfl ?_
  refine L_cig (pc' := 16) (as := [.ref 187, .ref 2, .int v1, .int v2]) (rest := []) rfl rfl (e_ways_find (by omega) F _ _ _) rfl fun x1 g2 => ?_
  refine L_br (t := 30) (n := 19) rfl rfl (fun _ => ?_) (fun _ => ?_)
  · refine L_ic (pc' := 31) rfl q1_m1 rfl ?_
    exact L_ret rfl ret_i rfl
  · refine L_s (pc' := 20) rfl rfl ?_
    refine L_gf (pc' := 23) rfl fr_0_3 rfl ?_
    refine L_s (pc' := 24) rfl rfl ?_
    refine L_ci (pc' := 27) (as := [.ref 187, .int v1]) (rest := []) rfl rfl (e_ways_travelFrom (by omega) _ _) rfl fun x3 => ?_
    refine L_s (pc' := 31) rfl rfl ?_
    exact L_ret rfl ret_i rfl
def ways_channelAt_39 : Nat → Int32 → Int32 → Int32 → Sg → Option (Int32)
  | 0, _, _, _, _ => none
  | n + 1, v3, v4, v5, g =>
    (if v3 ≤ v5 then
      (some v4)
    else
      Option.bind (net_hasChannel v4 g) (fun x1 => (if x1 = 0 then
        (some v4)
      else
        (if inb v4 14 = true then lt1 ((g 10 (Int32.toNatClampNeg v4)) : Int32) (fun x2 => Option.bind (net_hasNode x2 g) (fun x3 => (if x3 = 0 then
          (ways_channelAt_39 n v3 (-1) (v5 + 1) g)
        else
          (if inb x2 10 = true then lt1 ((g 190 (Int32.toNatClampNeg x2)) : Int32) (fun x4 => (ways_channelAt_39 n v3 x4 (v5 + 1) g)) else none)))) else none))))
def ways_channelAt (F : Nat) (v2 : Int32) (v3 : Int32) (g : Sg) : Option (Int32) :=
  Option.bind (x_within v2 0 9 g) (fun x1 => (if x1 = 0 then
    (some (-1))
  else
    (if inb v2 10 = true then Option.bind (x_within v3 0 ((g 189 (Int32.toNatClampNeg v2)) - 1) g) (fun x2 => (if ¬ x2 = 0 then
      (if inb v2 10 = true then lt1 ((g 190 (Int32.toNatClampNeg v2)) : Int32) (fun x3 => (ways_channelAt_39 F v3 x3 0 g)) else none)
    else
      (some (-1)))) else none)))
theorem p_ways_channelAt_39 {X : Xx} {d : Nat} {g : Sg} (hd : 1 ≤ d) : ∀ (n : Nat) (v3 : Int32) (v4 : Int32) (v5 : Int32), Lt X d (some .int) k_104 (fun r : Int32 => ((some (.int r), (SHF, g)) : Out)) 39 [some (.ref 187), some (.ref 2), none, some (.int v3), some (.int v4), some (.int v5), none] [] g (ways_channelAt_39 n v3 v4 v5 g) := by
  intro n
  induction n with
  | zero => intros; exact L_none
  | succ n ih =>
    intro v3 v4 v5
    show Lt X d (some .int) k_104 (fun r : Int32 => ((some (.int r), (SHF, g)) : Out)) 39 [some (.ref 187), some (.ref 2), none, some (.int v3), some (.int v4), some (.int v5), none] [] g (
      (if v3 ≤ v5 then
        (some v4)
      else
        Option.bind (net_hasChannel v4 g) (fun x1 => (if x1 = 0 then
          (some v4)
        else
          (if inb v4 14 = true then lt1 ((g 10 (Int32.toNatClampNeg v4)) : Int32) (fun x2 => Option.bind (net_hasNode x2 g) (fun x3 => (if x3 = 0 then
            (ways_channelAt_39 n v3 (-1) (v5 + 1) g)
          else
            (if inb x2 10 = true then lt1 ((g 190 (Int32.toNatClampNeg x2)) : Int32) (fun x4 => (ways_channelAt_39 n v3 x4 (v5 + 1) g)) else none)))) else none)))))
    refine L_s (pc' := 41) rfl rfl ?_
    refine L_s (pc' := 42) rfl rfl ?_
    refine L_br (t := 91) (n := 45) rfl rfl (fun _ => ?_) (fun _ => ?_)
    · refine L_s (pc' := 93) rfl rfl ?_
      exact L_ret rfl ret_i rfl
    · refine L_s (pc' := 46) rfl rfl ?_
      refine L_s (pc' := 48) rfl rfl ?_
      refine L_ci (pc' := 51) (as := [.ref 2, .int v4]) (rest := []) rfl rfl (e_net_hasChannel (by omega) _ _) rfl fun x1 => ?_
      refine L_br (t := 91) (n := 54) rfl rfl (fun _ => ?_) (fun _ => ?_)
      · refine L_s (pc' := 93) rfl rfl ?_
        exact L_ret rfl ret_i rfl
      · refine L_s (pc' := 55) rfl rfl ?_
        refine L_gf (pc' := 58) rfl fr_2_8 rfl ?_
        refine L_s (pc' := 60) rfl rfl ?_
        refine L_rI (pc' := 61) rfl sh_10 (by decide) rfl ?_
        refine L_li fun x2 _ => ?_
        refine L_s (pc' := 63) (L' := [some (.ref 187), some (.ref 2), none, some (.int v3), some (.int v4), some (.int v5), some (.int x2)]) rfl rfl ?_
        refine L_s (pc' := 64) rfl rfl ?_
        refine L_s (pc' := 66) rfl rfl ?_
        refine L_ci (pc' := 69) (as := [.ref 2, .int x2]) (rest := []) rfl rfl (e_net_hasNode (by omega) _ _) rfl fun x3 => ?_
        refine L_br (t := 82) (n := 72) rfl rfl (fun _ => ?_) (fun _ => ?_)
        · refine L_ic (pc' := 83) rfl q1_m1 rfl ?_
          refine L_s (pc' := 85) (L' := [some (.ref 187), some (.ref 2), none, some (.int v3), some (.int (-1)), some (.int v5), some (.int x2)]) rfl rfl ?_
          refine L_ii (pc' := 88) (L' := [some (.ref 187), some (.ref 2), none, some (.int v3), some (.int (-1)), some (.int (v5 + 1)), some (.int x2)]) rfl rfl q1_1 rfl rfl rfl ?_
          refine L_s (pc' := 39) rfl rfl ?_
          refine L_wk (L' := [some (.ref 187), some (.ref 2), none, some (.int v3), some (.int (-1)), some (.int (v5 + 1)), none]) (wk_s (wk_s (wk_s (wk_s (wk_s (wk_s (wk_n wk_nil))))))) ?_
          exact ih _ _ _
        · refine L_s (pc' := 73) rfl rfl ?_
          refine L_gf (pc' := 76) rfl fr_187_2 rfl ?_
          refine L_s (pc' := 78) rfl rfl ?_
          refine L_rI (pc' := 79) rfl sh_190 (by decide) rfl ?_
          refine L_s (pc' := 83) rfl rfl ?_
          refine L_li fun x4 _ => ?_
          refine L_s (pc' := 85) (L' := [some (.ref 187), some (.ref 2), none, some (.int v3), some (.int x4), some (.int v5), some (.int x2)]) rfl rfl ?_
          refine L_ii (pc' := 88) (L' := [some (.ref 187), some (.ref 2), none, some (.int v3), some (.int x4), some (.int (v5 + 1)), some (.int x2)]) rfl rfl q1_1 rfl rfl rfl ?_
          refine L_s (pc' := 39) rfl rfl ?_
          refine L_wk (L' := [some (.ref 187), some (.ref 2), none, some (.int v3), some (.int x4), some (.int (v5 + 1)), none]) (wk_s (wk_s (wk_s (wk_s (wk_s (wk_s (wk_n wk_nil))))))) ?_
          exact ih _ _ _
theorem e_ways_channelAt {X : Xx} {d : Nat} (hd : 2 ≤ d) (F : Nat) (v2 : Int32) (v3 : Int32) (g : Sg) : ∀ r, ways_channelAt F v2 v3 g = some r → EvM zft mtl X d 104 [.ref 187, .ref 2, .int v2, .int v3] (SHF, g) ((fun r : Int32 => ((some (.int r), (SHF, g)) : Out)) r) := by
  obtain ⟨d, rfl⟩ : ∃ d0, d = d0 + 1 := ⟨d - 1, by omega⟩
  have hd : 1 ≤ d := by omega
  refine E_in (f := (fun r : Int32 => ((some (.int r), (SHF, g)) : Out))) rfl (Nat.le_of_ble_eq_true rfl) ?_
  unfold ways_channelAt
  change Lt X d (some .int) k_104 _ 0 [some (.ref 187), some (.ref 2), some (.int v2), some (.int v3), none, none, none] [] g _
  refine L_s (pc' := 1) rfl rfl ?_
  refine L_ic (pc' := 2) rfl q1_0 rfl ?_
  refine L_bi (pc' := 4) rfl q2_9 rfl ?_
  refine L_ci (pc' := 7) (as := [.int v2, .int 0, .int 9]) (rest := []) rfl rfl (e_x_within (by omega) _ _ _ _) rfl fun x1 => ?_
  refine L_br (t := 26) (n := 10) rfl rfl (fun _ => ?_) (fun _ => ?_)
  · refine L_ic (pc' := 27) rfl q1_m1 rfl ?_
    exact L_ret rfl ret_i rfl
  · refine L_s (pc' := 11) rfl rfl ?_
    refine L_ic (pc' := 12) rfl q1_0 rfl ?_
    refine L_s (pc' := 13) rfl rfl ?_
    refine L_gf (pc' := 16) rfl fr_187_1 rfl ?_
    refine L_s (pc' := 17) rfl rfl ?_
    refine L_rI (pc' := 18) rfl sh_189 (by decide) rfl ?_
    refine L_ic (pc' := 19) rfl q1_1 rfl ?_
    refine L_s (pc' := 20) rfl rfl ?_
    refine L_ci (pc' := 23) (as := [.int v3, .int 0, .int ((g 189 (Int32.toNatClampNeg v2)) - 1)]) (rest := []) rfl rfl (e_x_within (by omega) _ _ _ _) rfl fun x2 => ?_
    refine L_br (t := 28) (n := 26) rfl rfl (fun _ => ?_) (fun _ => ?_)
    · refine L_s (pc' := 29) rfl rfl ?_
      refine L_gf (pc' := 32) rfl fr_187_2 rfl ?_
      refine L_s (pc' := 33) rfl rfl ?_
      refine L_rI (pc' := 34) rfl sh_190 (by decide) rfl ?_
      refine L_li fun x3 _ => ?_
      refine L_s (pc' := 36) (L' := [some (.ref 187), some (.ref 2), some (.int v2), some (.int v3), some (.int x3), none, none]) rfl rfl ?_
      refine L_ic (pc' := 37) rfl q1_0 rfl ?_
      refine L_s (pc' := 39) (L' := [some (.ref 187), some (.ref 2), some (.int v2), some (.int v3), some (.int x3), some (.int 0), none]) rfl rfl ?_
      refine L_wk (L' := [some (.ref 187), some (.ref 2), none, some (.int v3), some (.int x3), some (.int 0), none]) (wk_s (wk_s (wk_n (wk_s (wk_s (wk_s (wk_s wk_nil))))))) ?_
      exact p_ways_channelAt_39 hd F _ _ _
    · refine L_ic (pc' := 27) rfl q1_m1 rfl ?_
      exact L_ret rfl ret_i rfl
def x_along (F : Nat) (v1 : Int32) (v2 : Int32) (v3 : Int32) (g : Sg) : Option (Int32 × Sg) :=
  Option.bind (ways_find F v1 v2 g) (fun (x1, g2) => (if x1 = 0 then
    (some ((-1), g2))
  else
    Option.bind (ways_channelAt F v1 v3 g2) (fun x3 => (some (x3, g2)))))
theorem e_x_along {X : Xx} {d : Nat} (hd : 5 ≤ d) (F : Nat) (v1 : Int32) (v2 : Int32) (v3 : Int32) (g : Sg) : ∀ r, x_along F v1 v2 v3 g = some r → EvM zft mtl X d 113 [.ref 0, .int v1, .int v2, .int v3] (SHF, g) ((fun r : Int32 × Sg => ((some (.int r.1), (SHF, r.2)) : Out)) r) := by
  obtain ⟨d, rfl⟩ : ∃ d0, d = d0 + 1 := ⟨d - 1, by omega⟩
  have hd : 4 ≤ d := by omega
  refine E_in (f := (fun r : Int32 × Sg => ((some (.int r.1), (SHF, r.2)) : Out))) rfl (Nat.le_of_ble_eq_true rfl) ?_
  unfold x_along
  change Lt X d (some .int) k_113 _ 0 [some (.ref 0), some (.int v1), some (.int v2), some (.int v3)] [] g _
  refine L_s (pc' := 1) rfl rfl ?_
  refine L_gf (pc' := 4) rfl fr_0_3 rfl ?_
  refine L_s (pc' := 5) rfl rfl ?_
  refine L_gf (pc' := 8) rfl fr_0_0 rfl ?_
  refine L_gf (pc' := 11) rfl fr_1_0 rfl ?_
  refine L_s (pc' := 12) rfl rfl ?_
  refine L_s (pc' := 13) rfl rfl ?_
  refine L_cig (pc' := 16) (as := [.ref 187, .ref 2, .int v1, .int v2]) (rest := []) rfl rfl (e_ways_find (by omega) F _ _ _) rfl fun x1 g2 => ?_
  refine L_br (t := 38) (n := 19) rfl rfl (fun _ => ?_) (fun _ => ?_)
  · refine L_ic (pc' := 39) rfl q1_m1 rfl ?_
    exact L_ret rfl ret_i rfl
  · refine L_s (pc' := 20) rfl rfl ?_
    refine L_gf (pc' := 23) rfl fr_0_3 rfl ?_
    refine L_s (pc' := 24) rfl rfl ?_
    refine L_gf (pc' := 27) rfl fr_0_0 rfl ?_
    refine L_gf (pc' := 30) rfl fr_1_0 rfl ?_
    refine L_s (pc' := 31) rfl rfl ?_
    refine L_s (pc' := 32) rfl rfl ?_
    refine L_ci (pc' := 35) (as := [.ref 187, .ref 2, .int v1, .int v3]) (rest := []) rfl rfl (e_ways_channelAt (by omega) F _ _ _) rfl fun x3 => ?_
    refine L_s (pc' := 39) rfl rfl ?_
    exact L_ret rfl ret_i rfl
def net_placeAt (v0 : Int32) (v1 : Int32) (g : Sg) : Option (Int32) :=
  (some ((v0 * 9) + (v1 - v1 / 9 * 9)))
theorem e_net_placeAt {X : Xx} {d : Nat} (hd : 1 ≤ d) (v0 : Int32) (v1 : Int32) (g : Sg) : ∀ r, net_placeAt v0 v1 g = some r → EvM zft mtl X d 41 [.int v0, .int v1] (SHF, g) ((fun r : Int32 => ((some (.int r), (SHF, g)) : Out)) r) := by
  obtain ⟨d, rfl⟩ : ∃ d0, d = d0 + 1 := ⟨d - 1, by omega⟩
  have hd : 0 ≤ d := by omega
  refine E_in (f := (fun r : Int32 => ((some (.int r), (SHF, g)) : Out))) rfl (Nat.le_of_ble_eq_true rfl) ?_
  unfold net_placeAt
  change Lt X d (some .int) k_41 _ 0 [some (.int v0), some (.int v1)] [] g _
  refine L_s (pc' := 1) rfl rfl ?_
  refine L_bi (pc' := 3) rfl q2_9 rfl ?_
  refine L_s (pc' := 4) rfl rfl ?_
  refine L_s (pc' := 5) rfl rfl ?_
  refine L_bi (pc' := 7) rfl q2_9 rfl ?_
  refine L_rmk (pc' := 8) rfl (by decide) rfl ?_
  refine L_s (pc' := 9) rfl rfl ?_
  exact L_ret rfl ret_i rfl
def net_takeArrivals_k1_5 : Nat → Int32 → Int32 → Int32 → Sg → Option (Int32 × Sg)
  | 0, _, _, _, _ => none
  | n + 1, v2, v3, v4, g =>
    (if (g 2 6) ≤ v4 then
      (some (v3, g))
    else
      (if inb v4 14 = true then (if ¬ (g 10 (Int32.toNatClampNeg v4)) = v2 then
        (net_takeArrivals_k1_5 n v2 v3 (v4 + 1) g)
      else
        Option.bind (net_placeAt v4 (g 2 0) g) (fun x1 => (if inb x1 126 = true then lt1 ((v3 + (g 18 (Int32.toNatClampNeg x1))) : Int32) (fun x2 => (if inb x1 126 = true then lt1 (up2 g 18 (Int32.toNatClampNeg x1) 0) (fun g3 => (net_takeArrivals_k1_5 n v2 x2 (v4 + 1) g3)) else none)) else none))) else none))
def net_takeArrivals_k1 (F : Nat) (v2 : Int32) (g : Sg) : Option (Int32 × Sg) :=
  (net_takeArrivals_k1_5 F v2 0 0 g)
theorem p_net_takeArrivals_k1_5 {X : Xx} {d : Nat} (hd : 1 ≤ d) : ∀ (n : Nat) (v2 : Int32) (v3 : Int32) (v4 : Int32) (g : Sg), Lt X d (some .int) k_38 (fun r : Int32 × Sg => ((some (.int r.1), (SHF, r.2)) : Out)) 5 [some (.ref 2), some (.int 1), some (.int v2), some (.int v3), some (.int v4), none] [] g (net_takeArrivals_k1_5 n v2 v3 v4 g) := by
  intro n
  induction n with
  | zero => intros; exact L_none
  | succ n ih =>
    intro v2 v3 v4 g
    show Lt X d (some .int) k_38 (fun r : Int32 × Sg => ((some (.int r.1), (SHF, r.2)) : Out)) 5 [some (.ref 2), some (.int 1), some (.int v2), some (.int v3), some (.int v4), none] [] g (
      (if (g 2 6) ≤ v4 then
        (some (v3, g))
      else
        (if inb v4 14 = true then (if ¬ (g 10 (Int32.toNatClampNeg v4)) = v2 then
          (net_takeArrivals_k1_5 n v2 v3 (v4 + 1) g)
        else
          Option.bind (net_placeAt v4 (g 2 0) g) (fun x1 => (if inb x1 126 = true then lt1 ((v3 + (g 18 (Int32.toNatClampNeg x1))) : Int32) (fun x2 => (if inb x1 126 = true then lt1 (up2 g 18 (Int32.toNatClampNeg x1) 0) (fun g3 => (net_takeArrivals_k1_5 n v2 x2 (v4 + 1) g3)) else none)) else none))) else none)))
    refine L_s (pc' := 7) rfl rfl ?_
    refine L_s (pc' := 8) rfl rfl ?_
    refine L_gf (pc' := 11) rfl fi_2_6 rfl ?_
    refine L_br (t := 64) (n := 14) rfl rfl (fun _ => ?_) (fun _ => ?_)
    · refine L_s (pc' := 65) rfl rfl ?_
      exact L_ret rfl ret_i rfl
    · refine L_s (pc' := 15) rfl rfl ?_
      refine L_gf (pc' := 18) rfl fr_2_8 rfl ?_
      refine L_s (pc' := 20) rfl rfl ?_
      refine L_rI (pc' := 21) rfl sh_10 (by decide) rfl ?_
      refine L_s (pc' := 22) rfl rfl ?_
      refine L_br (t := 58) (n := 25) rfl rfl (fun _ => ?_) (fun _ => ?_)
      · refine L_ii (pc' := 61) (L' := [some (.ref 2), some (.int 1), some (.int v2), some (.int v3), some (.int (v4 + 1)), none]) rfl rfl q1_1 rfl rfl rfl ?_
        refine L_s (pc' := 5) rfl rfl ?_
        exact ih _ _ _ _
      · refine L_s (pc' := 27) rfl rfl ?_
        refine L_s (pc' := 28) rfl rfl ?_
        refine L_gf (pc' := 31) rfl fi_2_0 rfl ?_
        refine L_ci (pc' := 34) (as := [.int v4, .int (g 2 0)]) (rest := []) rfl rfl (e_net_placeAt (by omega) _ _ _) rfl fun x1 => ?_
        refine L_s (pc' := 36) (L' := [some (.ref 2), some (.int 1), some (.int v2), some (.int v3), some (.int v4), some (.int x1)]) rfl rfl ?_
        refine L_s (pc' := 37) rfl rfl ?_
        refine L_s (pc' := 38) rfl rfl ?_
        refine L_gf (pc' := 41) rfl fr_2_14 rfl ?_
        refine L_s (pc' := 42) rfl rfl ?_
        refine L_aa (pc' := 43) rfl sh_16 (by decide) (by decide) rfl rfl ?_
        refine L_s (pc' := 45) rfl rfl ?_
        refine L_rI (pc' := 46) rfl sh_18 (by decide) rfl ?_
        refine L_s (pc' := 47) rfl rfl ?_
        refine L_li fun x2 _ => ?_
        refine L_s (pc' := 48) (L' := [some (.ref 2), some (.int 1), some (.int v2), some (.int x2), some (.int v4), some (.int x1)]) rfl rfl ?_
        refine L_s (pc' := 49) rfl rfl ?_
        refine L_gf (pc' := 52) rfl fr_2_14 rfl ?_
        refine L_s (pc' := 53) rfl rfl ?_
        refine L_aa (pc' := 54) rfl sh_16 (by decide) (by decide) rfl rfl ?_
        refine L_s (pc' := 56) rfl rfl ?_
        refine L_ic (pc' := 57) rfl q1_0 rfl ?_
        refine L_wI (pc' := 58) rfl sh_18 (by decide) rfl ?_
        refine L_let fun g3 _ => ?_
        refine L_ii (pc' := 61) (L' := [some (.ref 2), some (.int 1), some (.int v2), some (.int x2), some (.int (v4 + 1)), some (.int x1)]) rfl rfl q1_1 rfl rfl rfl ?_
        refine L_s (pc' := 5) rfl rfl ?_
        refine L_wk (L' := [some (.ref 2), some (.int 1), some (.int v2), some (.int x2), some (.int (v4 + 1)), none]) (wk_s (wk_s (wk_s (wk_s (wk_s (wk_n wk_nil)))))) ?_
        exact ih _ _ _ _
theorem e_net_takeArrivals_k1 {X : Xx} {d : Nat} (hd : 2 ≤ d) (F : Nat) (v2 : Int32) (g : Sg) : ∀ r, net_takeArrivals_k1 F v2 g = some r → EvM zft mtl X d 38 [.ref 2, .int 1, .int v2] (SHF, g) ((fun r : Int32 × Sg => ((some (.int r.1), (SHF, r.2)) : Out)) r) := by
  obtain ⟨d, rfl⟩ : ∃ d0, d = d0 + 1 := ⟨d - 1, by omega⟩
  have hd : 1 ≤ d := by omega
  refine E_in (f := (fun r : Int32 × Sg => ((some (.int r.1), (SHF, r.2)) : Out))) rfl (Nat.le_of_ble_eq_true rfl) ?_
  unfold net_takeArrivals_k1
  change Lt X d (some .int) k_38 _ 0 [some (.ref 2), some (.int 1), some (.int v2), none, none, none] [] g _
  refine L_ic (pc' := 1) rfl q1_0 rfl ?_
  refine L_s (pc' := 2) (L' := [some (.ref 2), some (.int 1), some (.int v2), some (.int 0), none, none]) rfl rfl ?_
  refine L_ic (pc' := 3) rfl q1_0 rfl ?_
  refine L_s (pc' := 5) (L' := [some (.ref 2), some (.int 1), some (.int v2), some (.int 0), some (.int 0), none]) rfl rfl ?_
  exact p_net_takeArrivals_k1_5 hd F _ _ _ _
def net_outOf (v1 : Int32) (v2 : Int32) (g : Sg) : Option (Int32) :=
  (if inb v1 10 = true then lt1 ((g 5 (Int32.toNatClampNeg v1)) : Int32) (fun x1 => Option.bind (net_hasChannel x1 g) (fun x2 => (if x2 = 0 then
    (some 0)
  else
    (if inb x1 14 = true then (some (if (g 14 (Int32.toNatClampNeg x1)) < v2 then (g 14 (Int32.toNatClampNeg x1)) else v2)) else none)))) else none)
theorem e_net_outOf {X : Xx} {d : Nat} (hd : 2 ≤ d) (v1 : Int32) (v2 : Int32) (g : Sg) : ∀ r, net_outOf v1 v2 g = some r → EvM zft mtl X d 39 [.ref 2, .int v1, .int v2] (SHF, g) ((fun r : Int32 => ((some (.int r), (SHF, g)) : Out)) r) := by
  obtain ⟨d, rfl⟩ : ∃ d0, d = d0 + 1 := ⟨d - 1, by omega⟩
  have hd : 1 ≤ d := by omega
  refine E_in (f := (fun r : Int32 => ((some (.int r), (SHF, g)) : Out))) rfl (Nat.le_of_ble_eq_true rfl) ?_
  unfold net_outOf
  change Lt X d (some .int) k_39 _ 0 [some (.ref 2), some (.int v1), some (.int v2), none] [] g _
  refine L_s (pc' := 1) rfl rfl ?_
  refine L_gf (pc' := 4) rfl fr_2_4 rfl ?_
  refine L_s (pc' := 5) rfl rfl ?_
  refine L_rI (pc' := 6) rfl sh_5 (by decide) rfl ?_
  refine L_li fun x1 _ => ?_
  refine L_s (pc' := 7) (L' := [some (.ref 2), some (.int v1), some (.int v2), some (.int x1)]) rfl rfl ?_
  refine L_s (pc' := 8) rfl rfl ?_
  refine L_s (pc' := 9) rfl rfl ?_
  refine L_ci (pc' := 12) (as := [.ref 2, .int x1]) (rest := []) rfl rfl (e_net_hasChannel (by omega) _ _) rfl fun x2 => ?_
  refine L_br (t := 28) (n := 15) rfl rfl (fun _ => ?_) (fun _ => ?_)
  · refine L_ic (pc' := 29) rfl q1_0 rfl ?_
    exact L_ret rfl ret_i rfl
  · refine L_s (pc' := 16) rfl rfl ?_
    refine L_s (pc' := 17) rfl rfl ?_
    refine L_gf (pc' := 20) rfl fr_2_12 rfl ?_
    refine L_s (pc' := 21) rfl rfl ?_
    refine L_rI (pc' := 22) rfl sh_14 (by decide) rfl ?_
    refine L_s (pc' := 25) rfl rfl ?_
    refine L_s (pc' := 29) rfl rfl ?_
    exact L_ret rfl ret_i rfl
def net_send_k1_49 (v2 : Int32) (v3 : Int32) (s0 : Int32) (s1 : Int32) (g : Sg) : Option (Sg) :=
  lt1 (((s1 * s0) / 1000) : Int32) (fun x1 => lt1 (up2 g 20 1 ((g 20 1) + x1)) (fun g2 => (if inb v2 14 = true then Option.bind (net_placeAt v2 ((g2 2 0) + (g2 13 (Int32.toNatClampNeg v2))) g2) (fun x3 => (if inb x3 126 = true then (if inb x3 126 = true then lt1 (up2 g2 18 (Int32.toNatClampNeg x3) ((g2 18 (Int32.toNatClampNeg x3)) + (v3 - x1))) (fun g4 => (some g4)) else none) else none)) else none)))
def net_send_k1 (v2 : Int32) (v3 : Int32) (g : Sg) : Option (Sg) :=
  Option.bind (net_hasChannel v2 g) (fun x1 => (if ¬ x1 = 0 then
    (if inb v2 14 = true then (if (g 15 (Int32.toNatClampNeg v2)) = 0 then
      (if inb v2 14 = true then (net_send_k1_49 v2 v3 (g 11 (Int32.toNatClampNeg v2)) v3 g) else none)
    else
      lt1 (up2 g 21 1 ((g 21 1) + v3)) (fun g2 => (some g2))) else none)
  else
    (some g)))
theorem p_net_send_k1_49 {X : Xx} {d : Nat} (hd : 1 ≤ d) (v2 : Int32) (v3 : Int32) (s0 : Int32) (s1 : Int32) (g : Sg) : Lt X d none k_40 (fun r : Sg => ((none, (SHF, r)) : Out)) 49 [some (.ref 2), some (.int 1), some (.int v2), some (.int v3), none] [.int s0, .int s1] g (net_send_k1_49 v2 v3 s0 s1 g) := by
  unfold net_send_k1_49
  refine L_s (pc' := 50) rfl rfl ?_
  refine L_si (pc' := 53) rfl q3_1000 rfl ?_
  refine L_dvk (pc' := 54) rfl (by decide) rfl ?_
  refine L_li fun x1 _ => ?_
  refine L_s (pc' := 56) (L' := [some (.ref 2), some (.int 1), some (.int v2), some (.int v3), some (.int x1)]) rfl rfl ?_
  refine L_s (pc' := 57) rfl rfl ?_
  refine L_gf (pc' := 60) rfl fr_2_16 rfl ?_
  refine L_s (pc' := 61) rfl rfl ?_
  refine L_s (pc' := 62) rfl rfl ?_
  refine L_rIk (pc' := 63) (j := 1) rfl sh_20 (by decide) (by decide) (by decide) rfl ?_
  refine L_s (pc' := 65) rfl rfl ?_
  refine L_s (pc' := 66) rfl rfl ?_
  refine L_wIk (pc' := 67) (j := 1) rfl sh_20 (by decide) (by decide) (by decide) rfl ?_
  refine L_let fun g2 _ => ?_
  refine L_s (pc' := 68) rfl rfl ?_
  refine L_gf (pc' := 71) rfl fr_2_14 rfl ?_
  refine L_s (pc' := 72) rfl rfl ?_
  refine L_aa (pc' := 73) rfl sh_16 (by decide) (by decide) rfl rfl ?_
  refine L_s (pc' := 74) rfl rfl ?_
  refine L_s (pc' := 75) rfl rfl ?_
  refine L_gf (pc' := 78) rfl fi_2_0 rfl ?_
  refine L_s (pc' := 79) rfl rfl ?_
  refine L_gf (pc' := 82) rfl fr_2_11 rfl ?_
  refine L_s (pc' := 83) rfl rfl ?_
  refine L_rI (pc' := 84) rfl sh_13 (by decide) rfl ?_
  refine L_s (pc' := 85) rfl rfl ?_
  refine L_ci (pc' := 88) (as := [.int v2, .int ((g2 2 0) + (g2 13 (Int32.toNatClampNeg v2)))]) (rest := [.ref 18]) rfl rfl (e_net_placeAt (by omega) _ _ _) rfl fun x3 => ?_
  refine L_s (pc' := 89) rfl rfl ?_
  refine L_rI (pc' := 90) rfl sh_18 (by decide) rfl ?_
  refine L_s (pc' := 91) rfl rfl ?_
  refine L_s (pc' := 93) rfl rfl ?_
  refine L_s (pc' := 94) rfl rfl ?_
  refine L_s (pc' := 95) rfl rfl ?_
  refine L_wI (pc' := 96) rfl sh_18 (by decide) rfl ?_
  refine L_let fun g4 _ => ?_
  exact L_ret rfl rfl rfl
theorem e_net_send_k1 {X : Xx} {d : Nat} (hd : 2 ≤ d) (v2 : Int32) (v3 : Int32) (g : Sg) : ∀ r, net_send_k1 v2 v3 g = some r → EvM zft mtl X d 40 [.ref 2, .int 1, .int v2, .int v3] (SHF, g) ((fun r : Sg => ((none, (SHF, r)) : Out)) r) := by
  obtain ⟨d, rfl⟩ : ∃ d0, d = d0 + 1 := ⟨d - 1, by omega⟩
  have hd : 1 ≤ d := by omega
  refine E_in (f := (fun r : Sg => ((none, (SHF, r)) : Out))) rfl (Nat.le_of_ble_eq_true rfl) ?_
  unfold net_send_k1
  change Lt X d none k_40 _ 0 [some (.ref 2), some (.int 1), some (.int v2), some (.int v3), none] [] g _
  refine L_s (pc' := 1) rfl rfl ?_
  refine L_s (pc' := 2) rfl rfl ?_
  refine L_ci (pc' := 5) (as := [.ref 2, .int v2]) (rest := []) rfl rfl (e_net_hasChannel (by omega) _ _) rfl fun x1 => ?_
  refine L_br (t := 9) (n := 8) rfl rfl (fun _ => ?_) (fun _ => ?_)
  · refine L_s (pc' := 10) rfl rfl ?_
    refine L_gf (pc' := 13) rfl fr_2_13 rfl ?_
    refine L_s (pc' := 14) rfl rfl ?_
    refine L_rB (pc' := 15) rfl sh_15 (by decide) (by decide) rfl ?_
    refine L_br (t := 29) (n := 18) rfl rfl (fun _ => ?_) (fun _ => ?_)
    · refine L_s (pc' := 30) rfl rfl ?_
      refine L_s (pc' := 31) rfl rfl ?_
      refine L_bt (c := ¬ (1 : Int32) = 0) (t := 43) (n := 34) rfl rfl (by decide) ?_
      refine L_s (pc' := 44) rfl rfl ?_
      refine L_gf (pc' := 47) rfl fr_2_9 rfl ?_
      refine L_s (pc' := 48) rfl rfl ?_
      refine L_rI (pc' := 49) rfl sh_11 (by decide) rfl ?_
      exact p_net_send_k1_49 hd _ _ _ _ _
    · refine L_s (pc' := 19) rfl rfl ?_
      refine L_gf (pc' := 22) rfl fr_2_17 rfl ?_
      refine L_s (pc' := 23) rfl rfl ?_
      refine L_s (pc' := 24) rfl rfl ?_
      refine L_rIk (pc' := 25) (j := 1) rfl sh_21 (by decide) (by decide) (by decide) rfl ?_
      refine L_s (pc' := 26) rfl rfl ?_
      refine L_s (pc' := 27) rfl rfl ?_
      refine L_wIk (pc' := 28) (j := 1) rfl sh_21 (by decide) (by decide) (by decide) rfl ?_
      refine L_let fun g2 _ => ?_
      exact L_ret rfl rfl rfl
  · exact L_ret rfl rfl rfl
def net_passOn_k1 (v2 : Int32) (v3 : Int32) (g : Sg) : Option (Sg) :=
  Option.bind (net_outOf v2 v3 g) (fun x1 => lt1 (up2 g 19 1 ((g 19 1) + (v3 - x1))) (fun g2 => (if inb v2 10 = true then Option.bind (net_send_k1 (g2 5 (Int32.toNatClampNeg v2)) x1 g2) (fun g3 => (some g3)) else none)))
theorem e_net_passOn_k1 {X : Xx} {d : Nat} (hd : 3 ≤ d) (v2 : Int32) (v3 : Int32) (g : Sg) : ∀ r, net_passOn_k1 v2 v3 g = some r → EvM zft mtl X d 37 [.ref 2, .int 1, .int v2, .int v3] (SHF, g) ((fun r : Sg => ((none, (SHF, r)) : Out)) r) := by
  obtain ⟨d, rfl⟩ : ∃ d0, d = d0 + 1 := ⟨d - 1, by omega⟩
  have hd : 2 ≤ d := by omega
  refine E_in (f := (fun r : Sg => ((none, (SHF, r)) : Out))) rfl (Nat.le_of_ble_eq_true rfl) ?_
  unfold net_passOn_k1
  change Lt X d none k_37 _ 0 [some (.ref 2), some (.int 1), some (.int v2), some (.int v3), none] [] g _
  refine L_s (pc' := 1) rfl rfl ?_
  refine L_s (pc' := 2) rfl rfl ?_
  refine L_s (pc' := 3) rfl rfl ?_
  refine L_ci (pc' := 6) (as := [.ref 2, .int v2, .int v3]) (rest := []) rfl rfl (e_net_outOf (by omega) _ _ _) rfl fun x1 => ?_
  refine L_s (pc' := 8) (L' := [some (.ref 2), some (.int 1), some (.int v2), some (.int v3), some (.int x1)]) rfl rfl ?_
  refine L_s (pc' := 9) rfl rfl ?_
  refine L_gf (pc' := 12) rfl fr_2_15 rfl ?_
  refine L_s (pc' := 13) rfl rfl ?_
  refine L_s (pc' := 14) rfl rfl ?_
  refine L_rIk (pc' := 15) (j := 1) rfl sh_19 (by decide) (by decide) (by decide) rfl ?_
  refine L_s (pc' := 16) rfl rfl ?_
  refine L_s (pc' := 18) rfl rfl ?_
  refine L_s (pc' := 19) rfl rfl ?_
  refine L_s (pc' := 20) rfl rfl ?_
  refine L_wIk (pc' := 21) (j := 1) rfl sh_19 (by decide) (by decide) (by decide) rfl ?_
  refine L_let fun g2 _ => ?_
  refine L_s (pc' := 22) rfl rfl ?_
  refine L_s (pc' := 23) rfl rfl ?_
  refine L_s (pc' := 24) rfl rfl ?_
  refine L_gf (pc' := 27) rfl fr_2_4 rfl ?_
  refine L_s (pc' := 28) rfl rfl ?_
  refine L_rI (pc' := 29) rfl sh_5 (by decide) rfl ?_
  refine L_s (pc' := 31) rfl rfl ?_
  refine L_cv (pc' := 34) (as := [.ref 2, .int 1, .int (g2 5 (Int32.toNatClampNeg v2)), .int x1]) (rest := []) rfl rfl (e_net_send_k1 (by omega) _ _ _) rfl fun g3 => ?_
  exact L_ret rfl rfl rfl
def net_passTank_k1 (v2 : Int32) (v3 : Int32) (g : Sg) : Option (Sg) :=
  (if inb v2 10 = true then lt1 (((g 8 (Int32.toNatClampNeg v2)) + v3) : Int32) (fun x1 => (if inb v2 10 = true then lt1 ((if (g 4 (Int32.toNatClampNeg v2)) < x1 then (g 4 (Int32.toNatClampNeg v2)) else x1) : Int32) (fun x2 => Option.bind (net_outOf v2 x2 g) (fun x3 => lt1 (up2 g 19 1 ((g 19 1) + (x1 - x2))) (fun g4 => (if inb v2 10 = true then lt1 (up2 g4 8 (Int32.toNatClampNeg v2) (x2 - x3)) (fun g5 => (if inb v2 10 = true then Option.bind (net_send_k1 (g5 5 (Int32.toNatClampNeg v2)) x3 g5) (fun g6 => (some g6)) else none)) else none)))) else none)) else none)
theorem e_net_passTank_k1 {X : Xx} {d : Nat} (hd : 3 ≤ d) (v2 : Int32) (v3 : Int32) (g : Sg) : ∀ r, net_passTank_k1 v2 v3 g = some r → EvM zft mtl X d 36 [.ref 2, .int 1, .int v2, .int v3] (SHF, g) ((fun r : Sg => ((none, (SHF, r)) : Out)) r) := by
  obtain ⟨d, rfl⟩ : ∃ d0, d = d0 + 1 := ⟨d - 1, by omega⟩
  have hd : 2 ≤ d := by omega
  refine E_in (f := (fun r : Sg => ((none, (SHF, r)) : Out))) rfl (Nat.le_of_ble_eq_true rfl) ?_
  unfold net_passTank_k1
  change Lt X d none k_36 _ 0 [some (.ref 2), some (.int 1), some (.int v2), some (.int v3), none, none, none] [] g _
  refine L_s (pc' := 1) rfl rfl ?_
  refine L_gf (pc' := 4) rfl fr_2_5 rfl ?_
  refine L_s (pc' := 5) rfl rfl ?_
  refine L_aa (pc' := 6) rfl sh_6 (by decide) (by decide) rfl rfl ?_
  refine L_s (pc' := 7) rfl rfl ?_
  refine L_rI (pc' := 8) rfl sh_8 (by decide) rfl ?_
  refine L_s (pc' := 9) rfl rfl ?_
  refine L_s (pc' := 10) rfl rfl ?_
  refine L_li fun x1 _ => ?_
  refine L_s (pc' := 12) (L' := [some (.ref 2), some (.int 1), some (.int v2), some (.int v3), some (.int x1), none, none]) rfl rfl ?_
  refine L_s (pc' := 14) rfl rfl ?_
  refine L_s (pc' := 15) rfl rfl ?_
  refine L_gf (pc' := 18) rfl fr_2_3 rfl ?_
  refine L_s (pc' := 19) rfl rfl ?_
  refine L_rI (pc' := 20) rfl sh_4 (by decide) rfl ?_
  refine L_s (pc' := 23) rfl rfl ?_
  refine L_li fun x2 _ => ?_
  refine L_s (pc' := 25) (L' := [some (.ref 2), some (.int 1), some (.int v2), some (.int v3), some (.int x1), some (.int x2), none]) rfl rfl ?_
  refine L_s (pc' := 26) rfl rfl ?_
  refine L_s (pc' := 27) rfl rfl ?_
  refine L_s (pc' := 29) rfl rfl ?_
  refine L_ci (pc' := 32) (as := [.ref 2, .int v2, .int x2]) (rest := []) rfl rfl (e_net_outOf (by omega) _ _ _) rfl fun x3 => ?_
  refine L_s (pc' := 34) (L' := [some (.ref 2), some (.int 1), some (.int v2), some (.int v3), some (.int x1), some (.int x2), some (.int x3)]) rfl rfl ?_
  refine L_s (pc' := 35) rfl rfl ?_
  refine L_gf (pc' := 38) rfl fr_2_15 rfl ?_
  refine L_s (pc' := 39) rfl rfl ?_
  refine L_s (pc' := 40) rfl rfl ?_
  refine L_rIk (pc' := 41) (j := 1) rfl sh_19 (by decide) (by decide) (by decide) rfl ?_
  refine L_s (pc' := 43) rfl rfl ?_
  refine L_s (pc' := 45) rfl rfl ?_
  refine L_s (pc' := 46) rfl rfl ?_
  refine L_s (pc' := 47) rfl rfl ?_
  refine L_wIk (pc' := 48) (j := 1) rfl sh_19 (by decide) (by decide) (by decide) rfl ?_
  refine L_let fun g4 _ => ?_
  refine L_s (pc' := 49) rfl rfl ?_
  refine L_gf (pc' := 52) rfl fr_2_5 rfl ?_
  refine L_s (pc' := 53) rfl rfl ?_
  refine L_aa (pc' := 54) rfl sh_6 (by decide) (by decide) rfl rfl ?_
  refine L_s (pc' := 55) rfl rfl ?_
  refine L_s (pc' := 57) rfl rfl ?_
  refine L_s (pc' := 59) rfl rfl ?_
  refine L_s (pc' := 60) rfl rfl ?_
  refine L_wI (pc' := 61) rfl sh_8 (by decide) rfl ?_
  refine L_let fun g5 _ => ?_
  refine L_s (pc' := 62) rfl rfl ?_
  refine L_s (pc' := 63) rfl rfl ?_
  refine L_s (pc' := 64) rfl rfl ?_
  refine L_gf (pc' := 67) rfl fr_2_4 rfl ?_
  refine L_s (pc' := 68) rfl rfl ?_
  refine L_rI (pc' := 69) rfl sh_5 (by decide) rfl ?_
  refine L_s (pc' := 71) rfl rfl ?_
  refine L_cv (pc' := 74) (as := [.ref 2, .int 1, .int (g5 5 (Int32.toNatClampNeg v2)), .int x3]) (rest := []) rfl rfl (e_net_send_k1 (by omega) _ _ _) rfl fun g6 => ?_
  exact L_ret rfl rfl rfl
def net_passNode_k1 (F : Nat) (v2 : Int32) (g : Sg) : Option (Sg) :=
  Option.bind (net_takeArrivals_k1 F v2 g) (fun (x1, g2) => (if inb v2 10 = true then lt1 ((g2 3 (Int32.toNatClampNeg v2)) : Int32) (fun x3 => (if x3 = 0 then
    (if inb v2 10 = true then (if inb v2 10 = true then (if inb v2 10 = true then lt1 (up2 g2 8 (Int32.toNatClampNeg v2) ((g2 8 (Int32.toNatClampNeg v2)) + (g2 4 (Int32.toNatClampNeg v2)))) (fun g4 => (if inb v2 10 = true then Option.bind (net_passOn_k1 v2 (x1 + (g4 4 (Int32.toNatClampNeg v2))) g4) (fun g5 => (some g5)) else none)) else none) else none) else none)
  else (if x3 = 1 then
    Option.bind (net_passOn_k1 v2 x1 g2) (fun g7 => (some g7))
  else (if x3 = 2 then
    Option.bind (net_passTank_k1 v2 x1 g2) (fun g9 => (some g9))
  else (if x3 = 3 then
    (if inb v2 10 = true then Option.bind (net_outOf v2 x1 g2) (fun x11 => (if inb v2 10 = true then (if inb v2 10 = true then lt1 (up2 g2 8 (Int32.toNatClampNeg v2) ((g2 8 (Int32.toNatClampNeg v2)) + ((x11 * (g2 4 (Int32.toNatClampNeg v2))) / 100))) (fun g12 => Option.bind (net_passOn_k1 v2 x1 g12) (fun g13 => (some g13))) else none) else none)) else none)
  else (if x3 = 4 then
    (if inb v2 10 = true then (if inb v2 10 = true then lt1 (up2 g2 8 (Int32.toNatClampNeg v2) ((g2 8 (Int32.toNatClampNeg v2)) + x1)) (fun g15 => (some g15)) else none) else none)
  else Option.bind (net_passOn_k1 v2 x1 g2) (fun g17 => (some g17)))))))) else none))
theorem e_net_passNode_k1 {X : Xx} {d : Nat} (hd : 4 ≤ d) (F : Nat) (v2 : Int32) (g : Sg) : ∀ r, net_passNode_k1 F v2 g = some r → EvM zft mtl X d 35 [.ref 2, .int 1, .int v2] (SHF, g) ((fun r : Sg => ((none, (SHF, r)) : Out)) r) := by
  obtain ⟨d, rfl⟩ : ∃ d0, d = d0 + 1 := ⟨d - 1, by omega⟩
  have hd : 3 ≤ d := by omega
  refine E_in (f := (fun r : Sg => ((none, (SHF, r)) : Out))) rfl (Nat.le_of_ble_eq_true rfl) ?_
  unfold net_passNode_k1
  change Lt X d none k_35 _ 0 [some (.ref 2), some (.int 1), some (.int v2), none] [] g _
  refine L_s (pc' := 1) rfl rfl ?_
  refine L_s (pc' := 2) rfl rfl ?_
  refine L_s (pc' := 3) rfl rfl ?_
  refine L_cig (pc' := 6) (as := [.ref 2, .int 1, .int v2]) (rest := []) rfl rfl (e_net_takeArrivals_k1 (by omega) F _ _) rfl fun x1 g2 => ?_
  refine L_s (pc' := 7) (L' := [some (.ref 2), some (.int 1), some (.int v2), some (.int x1)]) rfl rfl ?_
  refine L_s (pc' := 8) rfl rfl ?_
  refine L_gf (pc' := 11) rfl fr_2_2 rfl ?_
  refine L_s (pc' := 12) rfl rfl ?_
  refine L_rI (pc' := 13) rfl sh_3 (by decide) rfl ?_
  refine L_li fun x3 _ => ?_
  refine L_if (fun h6 => ?_) (fun h6 => ?_)
  · subst h6
    refine L_ts (t := 73) (off := 60) rfl (by decide) rfl ?_
    refine L_s (pc' := 74) rfl rfl ?_
    refine L_gf (pc' := 77) rfl fr_2_5 rfl ?_
    refine L_s (pc' := 78) rfl rfl ?_
    refine L_aa (pc' := 79) rfl sh_6 (by decide) (by decide) rfl rfl ?_
    refine L_s (pc' := 80) rfl rfl ?_
    refine L_s (pc' := 81) rfl rfl ?_
    refine L_rI (pc' := 82) rfl sh_8 (by decide) rfl ?_
    refine L_s (pc' := 83) rfl rfl ?_
    refine L_gf (pc' := 86) rfl fr_2_3 rfl ?_
    refine L_s (pc' := 87) rfl rfl ?_
    refine L_rI (pc' := 88) rfl sh_4 (by decide) rfl ?_
    refine L_s (pc' := 89) rfl rfl ?_
    refine L_wI (pc' := 90) rfl sh_8 (by decide) rfl ?_
    refine L_let fun g4 _ => ?_
    refine L_s (pc' := 91) rfl rfl ?_
    refine L_s (pc' := 92) rfl rfl ?_
    refine L_s (pc' := 93) rfl rfl ?_
    refine L_s (pc' := 94) rfl rfl ?_
    refine L_s (pc' := 95) rfl rfl ?_
    refine L_gf (pc' := 98) rfl fr_2_3 rfl ?_
    refine L_s (pc' := 99) rfl rfl ?_
    refine L_rI (pc' := 100) rfl sh_4 (by decide) rfl ?_
    refine L_s (pc' := 101) rfl rfl ?_
    refine L_cv (pc' := 104) (as := [.ref 2, .int 1, .int v2, .int (x1 + (g4 4 (Int32.toNatClampNeg v2)))]) (rest := []) rfl rfl (e_net_passOn_k1 (by omega) _ _ _) rfl fun g5 => ?_
    refine L_s (pc' := 151) rfl rfl ?_
    exact L_ret rfl rfl rfl
  refine L_if (fun h8 => ?_) (fun h8 => ?_)
  · subst h8
    refine L_ts (t := 144) (off := 131) rfl (by decide) rfl ?_
    refine L_s (pc' := 145) rfl rfl ?_
    refine L_s (pc' := 146) rfl rfl ?_
    refine L_s (pc' := 147) rfl rfl ?_
    refine L_s (pc' := 148) rfl rfl ?_
    refine L_cv (pc' := 151) (as := [.ref 2, .int 1, .int v2, .int x1]) (rest := []) rfl rfl (e_net_passOn_k1 (by omega) _ _ _) rfl fun g7 => ?_
    exact L_ret rfl rfl rfl
  refine L_if (fun h10 => ?_) (fun h10 => ?_)
  · subst h10
    refine L_ts (t := 63) (off := 50) rfl (by decide) rfl ?_
    refine L_s (pc' := 64) rfl rfl ?_
    refine L_s (pc' := 65) rfl rfl ?_
    refine L_s (pc' := 66) rfl rfl ?_
    refine L_s (pc' := 67) rfl rfl ?_
    refine L_cv (pc' := 70) (as := [.ref 2, .int 1, .int v2, .int x1]) (rest := []) rfl rfl (e_net_passTank_k1 (by omega) _ _ _) rfl fun g9 => ?_
    refine L_s (pc' := 151) rfl rfl ?_
    exact L_ret rfl rfl rfl
  refine L_if (fun h14 => ?_) (fun h14 => ?_)
  · subst h14
    refine L_ts (t := 107) (off := 94) rfl (by decide) rfl ?_
    refine L_s (pc' := 108) rfl rfl ?_
    refine L_gf (pc' := 111) rfl fr_2_5 rfl ?_
    refine L_s (pc' := 112) rfl rfl ?_
    refine L_aa (pc' := 113) rfl sh_6 (by decide) (by decide) rfl rfl ?_
    refine L_s (pc' := 114) rfl rfl ?_
    refine L_s (pc' := 115) rfl rfl ?_
    refine L_rI (pc' := 116) rfl sh_8 (by decide) rfl ?_
    refine L_s (pc' := 117) rfl rfl ?_
    refine L_s (pc' := 118) rfl rfl ?_
    refine L_s (pc' := 119) rfl rfl ?_
    refine L_ci (pc' := 122) (as := [.ref 2, .int v2, .int x1]) (rest := [.int (g2 8 (Int32.toNatClampNeg v2)), .int v2, .ref 8]) rfl rfl (e_net_outOf (by omega) _ _ _) rfl fun x11 => ?_
    refine L_s (pc' := 123) rfl rfl ?_
    refine L_gf (pc' := 126) rfl fr_2_3 rfl ?_
    refine L_s (pc' := 127) rfl rfl ?_
    refine L_rI (pc' := 128) rfl sh_4 (by decide) rfl ?_
    refine L_s (pc' := 129) rfl rfl ?_
    refine L_bi (pc' := 131) rfl q2_100 rfl ?_
    refine L_dvk (pc' := 132) rfl (by decide) rfl ?_
    refine L_s (pc' := 133) rfl rfl ?_
    refine L_wI (pc' := 134) rfl sh_8 (by decide) rfl ?_
    refine L_let fun g12 _ => ?_
    refine L_s (pc' := 135) rfl rfl ?_
    refine L_s (pc' := 136) rfl rfl ?_
    refine L_s (pc' := 137) rfl rfl ?_
    refine L_s (pc' := 138) rfl rfl ?_
    refine L_cv (pc' := 141) (as := [.ref 2, .int 1, .int v2, .int x1]) (rest := []) rfl rfl (e_net_passOn_k1 (by omega) _ _ _) rfl fun g13 => ?_
    refine L_s (pc' := 151) rfl rfl ?_
    exact L_ret rfl rfl rfl
  refine L_if (fun h16 => ?_) (fun h16 => ?_)
  · subst h16
    refine L_ts (t := 48) (off := 35) rfl (by decide) rfl ?_
    refine L_s (pc' := 49) rfl rfl ?_
    refine L_gf (pc' := 52) rfl fr_2_5 rfl ?_
    refine L_s (pc' := 53) rfl rfl ?_
    refine L_aa (pc' := 54) rfl sh_6 (by decide) (by decide) rfl rfl ?_
    refine L_s (pc' := 55) rfl rfl ?_
    refine L_s (pc' := 56) rfl rfl ?_
    refine L_rI (pc' := 57) rfl sh_8 (by decide) rfl ?_
    refine L_s (pc' := 58) rfl rfl ?_
    refine L_s (pc' := 59) rfl rfl ?_
    refine L_wI (pc' := 60) rfl sh_8 (by decide) rfl ?_
    refine L_let fun g15 _ => ?_
    refine L_s (pc' := 151) rfl rfl ?_
    exact L_ret rfl rfl rfl
  refine L_ts (off := 131) (t := 144) rfl (twf_out (n := 5) (by decide) (by decide) (fun j hj => by
    match j, hj with
    | 0, _ => exact fun e => h6 (e.trans (by decide))
    | 1, _ => exact fun e => h8 (e.trans (by decide))
    | 2, _ => exact fun e => h10 (e.trans (by decide))
    | 3, _ => exact fun e => h14 (e.trans (by decide))
    | 4, _ => exact fun e => h16 (e.trans (by decide))
    | j + 5, hj => exact absurd hj (by omega))) rfl ?_
  refine L_s (pc' := 145) rfl rfl ?_
  refine L_s (pc' := 146) rfl rfl ?_
  refine L_s (pc' := 147) rfl rfl ?_
  refine L_s (pc' := 148) rfl rfl ?_
  refine L_cv (pc' := 151) (as := [.ref 2, .int 1, .int v2, .int x1]) (rest := []) rfl rfl (e_net_passOn_k1 (by omega) _ _ _) rfl fun g17 => ?_
  exact L_ret rfl rfl rfl
def net_takeArrivals_k0_5 : Nat → Int32 → Int32 → Int32 → Sg → Option (Int32 × Sg)
  | 0, _, _, _, _ => none
  | n + 1, v2, v3, v4, g =>
    (if (g 2 6) ≤ v4 then
      (some (v3, g))
    else
      (if inb v4 14 = true then (if ¬ (g 10 (Int32.toNatClampNeg v4)) = v2 then
        (net_takeArrivals_k0_5 n v2 v3 (v4 + 1) g)
      else
        Option.bind (net_placeAt v4 (g 2 0) g) (fun x1 => (if inb x1 126 = true then lt1 ((v3 + (g 17 (Int32.toNatClampNeg x1))) : Int32) (fun x2 => (if inb x1 126 = true then lt1 (up2 g 17 (Int32.toNatClampNeg x1) 0) (fun g3 => (net_takeArrivals_k0_5 n v2 x2 (v4 + 1) g3)) else none)) else none))) else none))
def net_takeArrivals_k0 (F : Nat) (v2 : Int32) (g : Sg) : Option (Int32 × Sg) :=
  (net_takeArrivals_k0_5 F v2 0 0 g)
theorem p_net_takeArrivals_k0_5 {X : Xx} {d : Nat} (hd : 1 ≤ d) : ∀ (n : Nat) (v2 : Int32) (v3 : Int32) (v4 : Int32) (g : Sg), Lt X d (some .int) k_38 (fun r : Int32 × Sg => ((some (.int r.1), (SHF, r.2)) : Out)) 5 [some (.ref 2), some (.int 0), some (.int v2), some (.int v3), some (.int v4), none] [] g (net_takeArrivals_k0_5 n v2 v3 v4 g) := by
  intro n
  induction n with
  | zero => intros; exact L_none
  | succ n ih =>
    intro v2 v3 v4 g
    show Lt X d (some .int) k_38 (fun r : Int32 × Sg => ((some (.int r.1), (SHF, r.2)) : Out)) 5 [some (.ref 2), some (.int 0), some (.int v2), some (.int v3), some (.int v4), none] [] g (
      (if (g 2 6) ≤ v4 then
        (some (v3, g))
      else
        (if inb v4 14 = true then (if ¬ (g 10 (Int32.toNatClampNeg v4)) = v2 then
          (net_takeArrivals_k0_5 n v2 v3 (v4 + 1) g)
        else
          Option.bind (net_placeAt v4 (g 2 0) g) (fun x1 => (if inb x1 126 = true then lt1 ((v3 + (g 17 (Int32.toNatClampNeg x1))) : Int32) (fun x2 => (if inb x1 126 = true then lt1 (up2 g 17 (Int32.toNatClampNeg x1) 0) (fun g3 => (net_takeArrivals_k0_5 n v2 x2 (v4 + 1) g3)) else none)) else none))) else none)))
    refine L_s (pc' := 7) rfl rfl ?_
    refine L_s (pc' := 8) rfl rfl ?_
    refine L_gf (pc' := 11) rfl fi_2_6 rfl ?_
    refine L_br (t := 64) (n := 14) rfl rfl (fun _ => ?_) (fun _ => ?_)
    · refine L_s (pc' := 65) rfl rfl ?_
      exact L_ret rfl ret_i rfl
    · refine L_s (pc' := 15) rfl rfl ?_
      refine L_gf (pc' := 18) rfl fr_2_8 rfl ?_
      refine L_s (pc' := 20) rfl rfl ?_
      refine L_rI (pc' := 21) rfl sh_10 (by decide) rfl ?_
      refine L_s (pc' := 22) rfl rfl ?_
      refine L_br (t := 58) (n := 25) rfl rfl (fun _ => ?_) (fun _ => ?_)
      · refine L_ii (pc' := 61) (L' := [some (.ref 2), some (.int 0), some (.int v2), some (.int v3), some (.int (v4 + 1)), none]) rfl rfl q1_1 rfl rfl rfl ?_
        refine L_s (pc' := 5) rfl rfl ?_
        exact ih _ _ _ _
      · refine L_s (pc' := 27) rfl rfl ?_
        refine L_s (pc' := 28) rfl rfl ?_
        refine L_gf (pc' := 31) rfl fi_2_0 rfl ?_
        refine L_ci (pc' := 34) (as := [.int v4, .int (g 2 0)]) (rest := []) rfl rfl (e_net_placeAt (by omega) _ _ _) rfl fun x1 => ?_
        refine L_s (pc' := 36) (L' := [some (.ref 2), some (.int 0), some (.int v2), some (.int v3), some (.int v4), some (.int x1)]) rfl rfl ?_
        refine L_s (pc' := 37) rfl rfl ?_
        refine L_s (pc' := 38) rfl rfl ?_
        refine L_gf (pc' := 41) rfl fr_2_14 rfl ?_
        refine L_s (pc' := 42) rfl rfl ?_
        refine L_aa (pc' := 43) rfl sh_16 (by decide) (by decide) rfl rfl ?_
        refine L_s (pc' := 45) rfl rfl ?_
        refine L_rI (pc' := 46) rfl sh_17 (by decide) rfl ?_
        refine L_s (pc' := 47) rfl rfl ?_
        refine L_li fun x2 _ => ?_
        refine L_s (pc' := 48) (L' := [some (.ref 2), some (.int 0), some (.int v2), some (.int x2), some (.int v4), some (.int x1)]) rfl rfl ?_
        refine L_s (pc' := 49) rfl rfl ?_
        refine L_gf (pc' := 52) rfl fr_2_14 rfl ?_
        refine L_s (pc' := 53) rfl rfl ?_
        refine L_aa (pc' := 54) rfl sh_16 (by decide) (by decide) rfl rfl ?_
        refine L_s (pc' := 56) rfl rfl ?_
        refine L_ic (pc' := 57) rfl q1_0 rfl ?_
        refine L_wI (pc' := 58) rfl sh_17 (by decide) rfl ?_
        refine L_let fun g3 _ => ?_
        refine L_ii (pc' := 61) (L' := [some (.ref 2), some (.int 0), some (.int v2), some (.int x2), some (.int (v4 + 1)), some (.int x1)]) rfl rfl q1_1 rfl rfl rfl ?_
        refine L_s (pc' := 5) rfl rfl ?_
        refine L_wk (L' := [some (.ref 2), some (.int 0), some (.int v2), some (.int x2), some (.int (v4 + 1)), none]) (wk_s (wk_s (wk_s (wk_s (wk_s (wk_n wk_nil)))))) ?_
        exact ih _ _ _ _
theorem e_net_takeArrivals_k0 {X : Xx} {d : Nat} (hd : 2 ≤ d) (F : Nat) (v2 : Int32) (g : Sg) : ∀ r, net_takeArrivals_k0 F v2 g = some r → EvM zft mtl X d 38 [.ref 2, .int 0, .int v2] (SHF, g) ((fun r : Int32 × Sg => ((some (.int r.1), (SHF, r.2)) : Out)) r) := by
  obtain ⟨d, rfl⟩ : ∃ d0, d = d0 + 1 := ⟨d - 1, by omega⟩
  have hd : 1 ≤ d := by omega
  refine E_in (f := (fun r : Int32 × Sg => ((some (.int r.1), (SHF, r.2)) : Out))) rfl (Nat.le_of_ble_eq_true rfl) ?_
  unfold net_takeArrivals_k0
  change Lt X d (some .int) k_38 _ 0 [some (.ref 2), some (.int 0), some (.int v2), none, none, none] [] g _
  refine L_ic (pc' := 1) rfl q1_0 rfl ?_
  refine L_s (pc' := 2) (L' := [some (.ref 2), some (.int 0), some (.int v2), some (.int 0), none, none]) rfl rfl ?_
  refine L_ic (pc' := 3) rfl q1_0 rfl ?_
  refine L_s (pc' := 5) (L' := [some (.ref 2), some (.int 0), some (.int v2), some (.int 0), some (.int 0), none]) rfl rfl ?_
  exact p_net_takeArrivals_k0_5 hd F _ _ _ _
def net_send_k0_49 (v2 : Int32) (v3 : Int32) (s0 : Int32) (s1 : Int32) (g : Sg) : Option (Sg) :=
  lt1 (((s1 * s0) / 1000) : Int32) (fun x1 => lt1 (up2 g 20 0 ((g 20 0) + x1)) (fun g2 => (if inb v2 14 = true then Option.bind (net_placeAt v2 ((g2 2 0) + (g2 13 (Int32.toNatClampNeg v2))) g2) (fun x3 => (if inb x3 126 = true then (if inb x3 126 = true then lt1 (up2 g2 17 (Int32.toNatClampNeg x3) ((g2 17 (Int32.toNatClampNeg x3)) + (v3 - x1))) (fun g4 => (some g4)) else none) else none)) else none)))
def net_send_k0 (v2 : Int32) (v3 : Int32) (g : Sg) : Option (Sg) :=
  Option.bind (net_hasChannel v2 g) (fun x1 => (if ¬ x1 = 0 then
    (if inb v2 14 = true then (if (g 15 (Int32.toNatClampNeg v2)) = 0 then
      (if inb v2 14 = true then (net_send_k0_49 v2 v3 (g 12 (Int32.toNatClampNeg v2)) v3 g) else none)
    else
      lt1 (up2 g 21 0 ((g 21 0) + v3)) (fun g2 => (some g2))) else none)
  else
    (some g)))
theorem p_net_send_k0_49 {X : Xx} {d : Nat} (hd : 1 ≤ d) (v2 : Int32) (v3 : Int32) (s0 : Int32) (s1 : Int32) (g : Sg) : Lt X d none k_40 (fun r : Sg => ((none, (SHF, r)) : Out)) 49 [some (.ref 2), some (.int 0), some (.int v2), some (.int v3), none] [.int s0, .int s1] g (net_send_k0_49 v2 v3 s0 s1 g) := by
  unfold net_send_k0_49
  refine L_s (pc' := 50) rfl rfl ?_
  refine L_si (pc' := 53) rfl q3_1000 rfl ?_
  refine L_dvk (pc' := 54) rfl (by decide) rfl ?_
  refine L_li fun x1 _ => ?_
  refine L_s (pc' := 56) (L' := [some (.ref 2), some (.int 0), some (.int v2), some (.int v3), some (.int x1)]) rfl rfl ?_
  refine L_s (pc' := 57) rfl rfl ?_
  refine L_gf (pc' := 60) rfl fr_2_16 rfl ?_
  refine L_s (pc' := 61) rfl rfl ?_
  refine L_s (pc' := 62) rfl rfl ?_
  refine L_rIk (pc' := 63) (j := 0) rfl sh_20 (by decide) (by decide) (by decide) rfl ?_
  refine L_s (pc' := 65) rfl rfl ?_
  refine L_s (pc' := 66) rfl rfl ?_
  refine L_wIk (pc' := 67) (j := 0) rfl sh_20 (by decide) (by decide) (by decide) rfl ?_
  refine L_let fun g2 _ => ?_
  refine L_s (pc' := 68) rfl rfl ?_
  refine L_gf (pc' := 71) rfl fr_2_14 rfl ?_
  refine L_s (pc' := 72) rfl rfl ?_
  refine L_aa (pc' := 73) rfl sh_16 (by decide) (by decide) rfl rfl ?_
  refine L_s (pc' := 74) rfl rfl ?_
  refine L_s (pc' := 75) rfl rfl ?_
  refine L_gf (pc' := 78) rfl fi_2_0 rfl ?_
  refine L_s (pc' := 79) rfl rfl ?_
  refine L_gf (pc' := 82) rfl fr_2_11 rfl ?_
  refine L_s (pc' := 83) rfl rfl ?_
  refine L_rI (pc' := 84) rfl sh_13 (by decide) rfl ?_
  refine L_s (pc' := 85) rfl rfl ?_
  refine L_ci (pc' := 88) (as := [.int v2, .int ((g2 2 0) + (g2 13 (Int32.toNatClampNeg v2)))]) (rest := [.ref 17]) rfl rfl (e_net_placeAt (by omega) _ _ _) rfl fun x3 => ?_
  refine L_s (pc' := 89) rfl rfl ?_
  refine L_rI (pc' := 90) rfl sh_17 (by decide) rfl ?_
  refine L_s (pc' := 91) rfl rfl ?_
  refine L_s (pc' := 93) rfl rfl ?_
  refine L_s (pc' := 94) rfl rfl ?_
  refine L_s (pc' := 95) rfl rfl ?_
  refine L_wI (pc' := 96) rfl sh_17 (by decide) rfl ?_
  refine L_let fun g4 _ => ?_
  exact L_ret rfl rfl rfl
theorem e_net_send_k0 {X : Xx} {d : Nat} (hd : 2 ≤ d) (v2 : Int32) (v3 : Int32) (g : Sg) : ∀ r, net_send_k0 v2 v3 g = some r → EvM zft mtl X d 40 [.ref 2, .int 0, .int v2, .int v3] (SHF, g) ((fun r : Sg => ((none, (SHF, r)) : Out)) r) := by
  obtain ⟨d, rfl⟩ : ∃ d0, d = d0 + 1 := ⟨d - 1, by omega⟩
  have hd : 1 ≤ d := by omega
  refine E_in (f := (fun r : Sg => ((none, (SHF, r)) : Out))) rfl (Nat.le_of_ble_eq_true rfl) ?_
  unfold net_send_k0
  change Lt X d none k_40 _ 0 [some (.ref 2), some (.int 0), some (.int v2), some (.int v3), none] [] g _
  refine L_s (pc' := 1) rfl rfl ?_
  refine L_s (pc' := 2) rfl rfl ?_
  refine L_ci (pc' := 5) (as := [.ref 2, .int v2]) (rest := []) rfl rfl (e_net_hasChannel (by omega) _ _) rfl fun x1 => ?_
  refine L_br (t := 9) (n := 8) rfl rfl (fun _ => ?_) (fun _ => ?_)
  · refine L_s (pc' := 10) rfl rfl ?_
    refine L_gf (pc' := 13) rfl fr_2_13 rfl ?_
    refine L_s (pc' := 14) rfl rfl ?_
    refine L_rB (pc' := 15) rfl sh_15 (by decide) (by decide) rfl ?_
    refine L_br (t := 29) (n := 18) rfl rfl (fun _ => ?_) (fun _ => ?_)
    · refine L_s (pc' := 30) rfl rfl ?_
      refine L_s (pc' := 31) rfl rfl ?_
      refine L_bf (c := ¬ (0 : Int32) = 0) (t := 43) (n := 34) rfl rfl (by decide) ?_
      refine L_s (pc' := 35) rfl rfl ?_
      refine L_gf (pc' := 38) rfl fr_2_10 rfl ?_
      refine L_s (pc' := 39) rfl rfl ?_
      refine L_rI (pc' := 40) rfl sh_12 (by decide) rfl ?_
      refine L_s (pc' := 49) rfl rfl ?_
      exact p_net_send_k0_49 hd _ _ _ _ _
    · refine L_s (pc' := 19) rfl rfl ?_
      refine L_gf (pc' := 22) rfl fr_2_17 rfl ?_
      refine L_s (pc' := 23) rfl rfl ?_
      refine L_s (pc' := 24) rfl rfl ?_
      refine L_rIk (pc' := 25) (j := 0) rfl sh_21 (by decide) (by decide) (by decide) rfl ?_
      refine L_s (pc' := 26) rfl rfl ?_
      refine L_s (pc' := 27) rfl rfl ?_
      refine L_wIk (pc' := 28) (j := 0) rfl sh_21 (by decide) (by decide) (by decide) rfl ?_
      refine L_let fun g2 _ => ?_
      exact L_ret rfl rfl rfl
  · exact L_ret rfl rfl rfl
def net_passOn_k0 (v2 : Int32) (v3 : Int32) (g : Sg) : Option (Sg) :=
  Option.bind (net_outOf v2 v3 g) (fun x1 => lt1 (up2 g 19 0 ((g 19 0) + (v3 - x1))) (fun g2 => (if inb v2 10 = true then Option.bind (net_send_k0 (g2 5 (Int32.toNatClampNeg v2)) x1 g2) (fun g3 => (some g3)) else none)))
theorem e_net_passOn_k0 {X : Xx} {d : Nat} (hd : 3 ≤ d) (v2 : Int32) (v3 : Int32) (g : Sg) : ∀ r, net_passOn_k0 v2 v3 g = some r → EvM zft mtl X d 37 [.ref 2, .int 0, .int v2, .int v3] (SHF, g) ((fun r : Sg => ((none, (SHF, r)) : Out)) r) := by
  obtain ⟨d, rfl⟩ : ∃ d0, d = d0 + 1 := ⟨d - 1, by omega⟩
  have hd : 2 ≤ d := by omega
  refine E_in (f := (fun r : Sg => ((none, (SHF, r)) : Out))) rfl (Nat.le_of_ble_eq_true rfl) ?_
  unfold net_passOn_k0
  change Lt X d none k_37 _ 0 [some (.ref 2), some (.int 0), some (.int v2), some (.int v3), none] [] g _
  refine L_s (pc' := 1) rfl rfl ?_
  refine L_s (pc' := 2) rfl rfl ?_
  refine L_s (pc' := 3) rfl rfl ?_
  refine L_ci (pc' := 6) (as := [.ref 2, .int v2, .int v3]) (rest := []) rfl rfl (e_net_outOf (by omega) _ _ _) rfl fun x1 => ?_
  refine L_s (pc' := 8) (L' := [some (.ref 2), some (.int 0), some (.int v2), some (.int v3), some (.int x1)]) rfl rfl ?_
  refine L_s (pc' := 9) rfl rfl ?_
  refine L_gf (pc' := 12) rfl fr_2_15 rfl ?_
  refine L_s (pc' := 13) rfl rfl ?_
  refine L_s (pc' := 14) rfl rfl ?_
  refine L_rIk (pc' := 15) (j := 0) rfl sh_19 (by decide) (by decide) (by decide) rfl ?_
  refine L_s (pc' := 16) rfl rfl ?_
  refine L_s (pc' := 18) rfl rfl ?_
  refine L_s (pc' := 19) rfl rfl ?_
  refine L_s (pc' := 20) rfl rfl ?_
  refine L_wIk (pc' := 21) (j := 0) rfl sh_19 (by decide) (by decide) (by decide) rfl ?_
  refine L_let fun g2 _ => ?_
  refine L_s (pc' := 22) rfl rfl ?_
  refine L_s (pc' := 23) rfl rfl ?_
  refine L_s (pc' := 24) rfl rfl ?_
  refine L_gf (pc' := 27) rfl fr_2_4 rfl ?_
  refine L_s (pc' := 28) rfl rfl ?_
  refine L_rI (pc' := 29) rfl sh_5 (by decide) rfl ?_
  refine L_s (pc' := 31) rfl rfl ?_
  refine L_cv (pc' := 34) (as := [.ref 2, .int 0, .int (g2 5 (Int32.toNatClampNeg v2)), .int x1]) (rest := []) rfl rfl (e_net_send_k0 (by omega) _ _ _) rfl fun g3 => ?_
  exact L_ret rfl rfl rfl
