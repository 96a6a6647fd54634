def x_within (v0 : Int32) (v1 : Int32) (v2 : Int32) (g : Sg) : Option (Int32) :=
  (if v0 < v1 then
    (some 0)
  else
    (if v2 < v0 then
      (some 0)
    else
      (some 1)))
theorem e_x_within {X : Xx} {d : Nat} (hd : 1 ≤ d) (v0 : Int32) (v1 : Int32) (v2 : Int32) (g : Sg) : ∀ r, x_within v0 v1 v2 g = some r → EvM zft mtl X d 139 [.int v0, .int v1, .int v2] (SHF, g) ((fun r : Int32 => ((some (.int r), (SHF, g)) : Out)) r) := by
  obtain ⟨d, rfl⟩ : ∃ d0, d = d0 + 1 := ⟨d - 1, by omega⟩
  have hd : 0 ≤ d := by omega
  refine E_in (f := (fun r : Int32 => ((some (.int r), (SHF, g)) : Out))) rfl (Nat.le_of_ble_eq_true rfl) ?_
  unfold x_within
  change Lt X d (some .boolean) k_139 _ 0 [some (.int v0), some (.int v1), some (.int v2)] [] g _
  refine L_s (pc' := 1) rfl rfl ?_
  refine L_s (pc' := 2) rfl rfl ?_
  refine L_br (t := 14) (n := 5) rfl rfl (fun _ => ?_) (fun _ => ?_)
  · refine L_ic (pc' := 15) rfl q1_0 rfl ?_
    exact L_ret rfl (ret_z (by decide)) rfl
  · refine L_s (pc' := 6) rfl rfl ?_
    refine L_s (pc' := 7) rfl rfl ?_
    refine L_br (t := 14) (n := 10) rfl rfl (fun _ => ?_) (fun _ => ?_)
    · refine L_ic (pc' := 15) rfl q1_0 rfl ?_
      exact L_ret rfl (ret_z (by decide)) rfl
    · refine L_ic (pc' := 11) rfl q1_1 rfl ?_
      refine L_s (pc' := 15) rfl rfl ?_
      exact L_ret rfl (ret_z (by decide)) rfl
def net_fits (v0 : Int32) (v1 : Int32) (g : Sg) : Option (Int32) :=
  (if v0 < 0 then
    (some 0)
  else
    (if 5 ≤ v0 then
      (some 0)
    else
      (if v0 < 5 then
        (if inb v0 5 = true then (if inb v0 5 = true then Option.bind (x_within v1 (xc 1001 (Int32.toNatClampNeg v0)) (xc 1002 (Int32.toNatClampNeg v0)) g) (fun x1 => (if x1 = 0 ∨ x1 = 1 then (some x1) else none)) else none) else none)
      else
        (some 0))))
theorem e_net_fits {X : Xx} {d : Nat} (hd : 2 ≤ d) (v0 : Int32) (v1 : Int32) (g : Sg) : ∀ r, net_fits v0 v1 g = some r → EvM zft mtl X d 22 [.int v0, .int v1] (SHF, g) ((fun r : Int32 => ((some (.int r), (SHF, g)) : Out)) r) := by
  obtain ⟨d, rfl⟩ : ∃ d0, d = d0 + 1 := ⟨d - 1, by omega⟩
  have hd : 1 ≤ d := by omega
  refine E_in (f := (fun r : Int32 => ((some (.int r), (SHF, g)) : Out))) rfl (Nat.le_of_ble_eq_true rfl) ?_
  unfold net_fits
  change Lt X d (some .boolean) k_22 _ 0 [some (.int v0), some (.int v1)] [] g _
  refine L_s (pc' := 1) rfl rfl ?_
  refine L_br (t := 20) (n := 4) rfl rfl (fun _ => ?_) (fun _ => ?_)
  · refine L_ic (pc' := 21) rfl q1_0 rfl ?_
    exact L_ret rfl (ret_z (by decide)) rfl
  · refine L_s (pc' := 5) rfl rfl ?_
    refine L_s (pc' := 8) rfl rfl ?_
    refine L_s (pc' := 9) (st' := [.int 5, .int v0]) rfl rfl ?_
    refine L_br (t := 20) (n := 12) rfl rfl (fun _ => ?_) (fun _ => ?_)
    · refine L_ic (pc' := 21) rfl q1_0 rfl ?_
      exact L_ret rfl (ret_z (by decide)) rfl
    · refine L_s (pc' := 13) rfl rfl ?_
      refine L_s (pc' := 16) rfl rfl ?_
      refine L_s (pc' := 17) (st' := [.int 5, .int v0]) rfl rfl ?_
      refine L_br (t := 22) (n := 20) rfl rfl (fun _ => ?_) (fun _ => ?_)
      · refine L_s (pc' := 23) rfl rfl ?_
        refine L_s (pc' := 26) rfl rfl ?_
        refine L_s (pc' := 27) rfl rfl ?_
        refine L_xI (pc' := 28) rfl (rfl : xsh X 1001 = _) (by decide) (fun _ => rfl) rfl ?_
        refine L_s (pc' := 31) rfl rfl ?_
        refine L_s (pc' := 32) rfl rfl ?_
        refine L_xI (pc' := 33) rfl (rfl : xsh X 1002 = _) (by decide) (fun _ => rfl) rfl ?_
        refine L_ci (pc' := 36) (as := [.int v1, .int (xc 1001 (Int32.toNatClampNeg v0)), .int (xc 1002 (Int32.toNatClampNeg v0))]) (rest := []) rfl rfl (e_x_within (by omega) _ _ _ _) rfl fun x1 => ?_
        exact L_g fun h => L_ret rfl (ret_z h) rfl
      · refine L_ic (pc' := 21) rfl q1_0 rfl ?_
        exact L_ret rfl (ret_z (by decide)) rfl
def net_addNode (v1 : Int32) (v2 : Int32) (g : Sg) : Option (Int32 × Sg) :=
  (if (g 2 1) < 10 then
    (if inb (g 2 1) 10 = true then lt1 (up2 g 3 (Int32.toNatClampNeg (g 2 1)) v1) (fun g1 => (if inb (g1 2 1) 10 = true then lt1 (up2 g1 4 (Int32.toNatClampNeg (g1 2 1)) v2) (fun g2 => (if inb (g2 2 1) 10 = true then lt1 (up2 g2 5 (Int32.toNatClampNeg (g2 2 1)) (-1)) (fun g3 => lt1 (up2 g3 2 1 ((g3 2 1) + 1)) (fun g4 => (some ((g3 2 1), g4)))) else none)) else none)) else none)
  else
    (some ((-1), g)))
theorem e_net_addNode {X : Xx} {d : Nat} (hd : 1 ≤ d) (v1 : Int32) (v2 : Int32) (g : Sg) : ∀ r, net_addNode v1 v2 g = some r → EvM zft mtl X d 27 [.ref 2, .int v1, .int v2] (SHF, g) ((fun r : Int32 × Sg => ((some (.int r.1), (SHF, r.2)) : Out)) r) := by
  obtain ⟨d, rfl⟩ : ∃ d0, d = d0 + 1 := ⟨d - 1, by omega⟩
  have hd : 0 ≤ d := by omega
  refine E_in (f := (fun r : Int32 × Sg => ((some (.int r.1), (SHF, r.2)) : Out))) rfl (Nat.le_of_ble_eq_true rfl) ?_
  unfold net_addNode
  change Lt X d (some .int) k_27 _ 0 [some (.ref 2), some (.int v1), some (.int v2)] [] g _
  refine L_s (pc' := 1) rfl rfl ?_
  refine L_gf (pc' := 4) rfl fi_2_1 rfl ?_
  refine L_bi (pc' := 6) rfl q2_10 rfl ?_
  refine L_br (t := 11) (n := 9) rfl rfl (fun _ => ?_) (fun _ => ?_)
  · refine L_s (pc' := 12) rfl rfl ?_
    refine L_gf (pc' := 15) rfl fr_2_2 rfl ?_
    refine L_s (pc' := 16) rfl rfl ?_
    refine L_gf (pc' := 19) rfl fi_2_1 rfl ?_
    refine L_s (pc' := 20) rfl rfl ?_
    refine L_wI (pc' := 21) rfl sh_3 (by decide) rfl ?_
    refine L_let fun g1 _ => ?_
    refine L_s (pc' := 22) rfl rfl ?_
    refine L_gf (pc' := 25) rfl fr_2_3 rfl ?_
    refine L_s (pc' := 26) rfl rfl ?_
    refine L_gf (pc' := 29) rfl fi_2_1 rfl ?_
    refine L_s (pc' := 30) rfl rfl ?_
    refine L_wI (pc' := 31) rfl sh_4 (by decide) rfl ?_
    refine L_let fun g2 _ => ?_
    refine L_s (pc' := 32) rfl rfl ?_
    refine L_gf (pc' := 35) rfl fr_2_4 rfl ?_
    refine L_s (pc' := 36) rfl rfl ?_
    refine L_gf (pc' := 39) rfl fi_2_1 rfl ?_
    refine L_ic (pc' := 40) rfl q1_m1 rfl ?_
    refine L_wI (pc' := 41) rfl sh_5 (by decide) rfl ?_
    refine L_let fun g3 _ => ?_
    refine L_s (pc' := 42) rfl rfl ?_
    refine L_s (pc' := 43) rfl rfl ?_
    refine L_gf (pc' := 46) rfl fi_2_1 rfl ?_
    refine L_s (pc' := 47) rfl rfl ?_
    refine L_ic (pc' := 48) rfl q1_1 rfl ?_
    refine L_s (pc' := 49) rfl rfl ?_
    refine L_pf (pc' := 52) rfl sh_2 (by decide) rfl rfl ?_
    refine L_let fun g4 _ => ?_
    exact L_ret rfl ret_i rfl
  · refine L_ic (pc' := 10) rfl q1_m1 rfl ?_
    exact L_ret rfl ret_i rfl
def x_node (v1 : Int32) (v2 : Int32) (g : Sg) : Option (Int32 × Sg) :=
  (if 10 ≤ (g 2 1) then
    (some ((-1), g))
  else
    Option.bind (net_fits v1 v2 g) (fun x1 => (if ¬ x1 = 0 then
      Option.bind (net_addNode v1 v2 g) (fun (x2, g3) => (some (x2, g3)))
    else
      (some ((-1), g)))))
theorem e_x_node {X : Xx} {d : Nat} (hd : 3 ≤ d) (v1 : Int32) (v2 : Int32) (g : Sg) : ∀ r, x_node v1 v2 g = some r → EvM zft mtl X d 107 [.ref 0, .int v1, .int v2] (SHF, g) ((fun r : Int32 × Sg => ((some (.int r.1), (SHF, r.2)) : Out)) r) := by
  obtain ⟨d, rfl⟩ : ∃ d0, d = d0 + 1 := ⟨d - 1, by omega⟩
  have hd : 2 ≤ d := by omega
  refine E_in (f := (fun r : Int32 × Sg => ((some (.int r.1), (SHF, r.2)) : Out))) rfl (Nat.le_of_ble_eq_true rfl) ?_
  unfold x_node
  change Lt X d (some .int) k_107 _ 0 [some (.ref 0), some (.int v1), some (.int v2), none] [] g _
  refine L_s (pc' := 1) rfl rfl ?_
  refine L_gf (pc' := 4) rfl fr_0_0 rfl ?_
  refine L_gf (pc' := 7) rfl fr_1_0 rfl ?_
  refine L_s (pc' := 8) (L' := [some (.ref 0), some (.int v1), some (.int v2), some (.ref 2)]) rfl rfl ?_
  refine L_s (pc' := 9) rfl rfl ?_
  refine L_gf (pc' := 12) rfl fi_2_1 rfl ?_
  refine L_bi (pc' := 14) rfl q2_10 rfl ?_
  refine L_br (t := 25) (n := 17) rfl rfl (fun _ => ?_) (fun _ => ?_)
  · refine L_ic (pc' := 26) rfl q1_m1 rfl ?_
    exact L_ret rfl ret_i rfl
  · refine L_s (pc' := 18) rfl rfl ?_
    refine L_s (pc' := 19) rfl rfl ?_
    refine L_ci (pc' := 22) (as := [.int v1, .int v2]) (rest := []) rfl rfl (e_net_fits (by omega) _ _ _) rfl fun x1 => ?_
    refine L_br (t := 27) (n := 25) rfl rfl (fun _ => ?_) (fun _ => ?_)
    · refine L_s (pc' := 28) rfl rfl ?_
      refine L_s (pc' := 29) rfl rfl ?_
      refine L_s (pc' := 30) rfl rfl ?_
      refine L_cig (pc' := 33) (as := [.ref 2, .int v1, .int v2]) (rest := []) rfl rfl (e_net_addNode (by omega) _ _ _) rfl fun x2 g3 => ?_
      exact L_ret rfl ret_i rfl
    · refine L_ic (pc' := 26) rfl q1_m1 rfl ?_
      exact L_ret rfl ret_i rfl
def net_hasNode (v1 : Int32) (g : Sg) : Option (Int32) :=
  (if v1 < 0 then
    (some 0)
  else
    (if (g 2 1) ≤ v1 then
      (some 0)
    else
      (if 10 ≤ v1 then
        (some 0)
      else
        (some 1))))
theorem e_net_hasNode {X : Xx} {d : Nat} (hd : 1 ≤ d) (v1 : Int32) (g : Sg) : ∀ r, net_hasNode v1 g = some r → EvM zft mtl X d 23 [.ref 2, .int v1] (SHF, g) ((fun r : Int32 => ((some (.int r), (SHF, g)) : Out)) r) := by
  obtain ⟨d, rfl⟩ : ∃ d0, d = d0 + 1 := ⟨d - 1, by omega⟩
  have hd : 0 ≤ d := by omega
  refine E_in (f := (fun r : Int32 => ((some (.int r), (SHF, g)) : Out))) rfl (Nat.le_of_ble_eq_true rfl) ?_
  unfold net_hasNode
  change Lt X d (some .boolean) k_23 _ 0 [some (.ref 2), some (.int v1)] [] g _
  refine L_s (pc' := 1) rfl rfl ?_
  refine L_br (t := 22) (n := 4) rfl rfl (fun _ => ?_) (fun _ => ?_)
  · refine L_ic (pc' := 23) rfl q1_0 rfl ?_
    exact L_ret rfl (ret_z (by decide)) rfl
  · refine L_s (pc' := 5) rfl rfl ?_
    refine L_s (pc' := 6) rfl rfl ?_
    refine L_gf (pc' := 9) rfl fi_2_1 rfl ?_
    refine L_br (t := 22) (n := 12) rfl rfl (fun _ => ?_) (fun _ => ?_)
    · refine L_ic (pc' := 23) rfl q1_0 rfl ?_
      exact L_ret rfl (ret_z (by decide)) rfl
    · refine L_s (pc' := 13) rfl rfl ?_
      refine L_bi (pc' := 15) rfl q2_10 rfl ?_
      refine L_br (t := 22) (n := 18) rfl rfl (fun _ => ?_) (fun _ => ?_)
      · refine L_ic (pc' := 23) rfl q1_0 rfl ?_
        exact L_ret rfl (ret_z (by decide)) rfl
      · refine L_ic (pc' := 19) rfl q1_1 rfl ?_
        refine L_s (pc' := 23) rfl rfl ?_
        exact L_ret rfl (ret_z (by decide)) rfl
def net_isField (v1 : Int32) (g : Sg) : Option (Int32) :=
  Option.bind (net_hasNode v1 g) (fun x1 => (if x1 = 0 then
    (some 0)
  else
    (if inb v1 10 = true then (if ¬ (g 3 (Int32.toNatClampNeg v1)) = 4 then
      (some 0)
    else
      (some 1)) else none)))
theorem e_net_isField {X : Xx} {d : Nat} (hd : 2 ≤ d) (v1 : Int32) (g : Sg) : ∀ r, net_isField v1 g = some r → EvM zft mtl X d 25 [.ref 2, .int v1] (SHF, g) ((fun r : Int32 => ((some (.int r), (SHF, g)) : Out)) r) := by
  obtain ⟨d, rfl⟩ : ∃ d0, d = d0 + 1 := ⟨d - 1, by omega⟩
  have hd : 1 ≤ d := by omega
  refine E_in (f := (fun r : Int32 => ((some (.int r), (SHF, g)) : Out))) rfl (Nat.le_of_ble_eq_true rfl) ?_
  unfold net_isField
  change Lt X d (some .boolean) k_25 _ 0 [some (.ref 2), some (.int v1)] [] g _
  refine L_s (pc' := 1) rfl rfl ?_
  refine L_s (pc' := 2) rfl rfl ?_
  refine L_ci (pc' := 5) (as := [.ref 2, .int v1]) (rest := []) rfl rfl (e_net_hasNode (by omega) _ _) rfl fun x1 => ?_
  refine L_br (t := 22) (n := 8) rfl rfl (fun _ => ?_) (fun _ => ?_)
  · refine L_ic (pc' := 23) rfl q1_0 rfl ?_
    exact L_ret rfl (ret_z (by decide)) rfl
  · refine L_s (pc' := 9) rfl rfl ?_
    refine L_gf (pc' := 12) rfl fr_2_2 rfl ?_
    refine L_s (pc' := 13) rfl rfl ?_
    refine L_rI (pc' := 14) rfl sh_3 (by decide) rfl ?_
    refine L_ic (pc' := 15) rfl q1_4 rfl ?_
    refine L_br (t := 22) (n := 18) rfl rfl (fun _ => ?_) (fun _ => ?_)
    · refine L_ic (pc' := 23) rfl q1_0 rfl ?_
      exact L_ret rfl (ret_z (by decide)) rfl
    · refine L_ic (pc' := 19) rfl q1_1 rfl ?_
      refine L_s (pc' := 23) rfl rfl ?_
      exact L_ret rfl (ret_z (by decide)) rfl
def net_addChannel (v1 : Int32) (v2 : Int32) (g : Sg) : Option (Int32 × Sg) :=
  (if (g 2 6) < 14 then
    (if inb (g 2 6) 14 = true then lt1 (up2 g 9 (Int32.toNatClampNeg (g 2 6)) v1) (fun g1 => (if inb (g1 2 6) 14 = true then lt1 (up2 g1 10 (Int32.toNatClampNeg (g1 2 6)) v2) (fun g2 => lt1 (up2 g2 2 6 ((g2 2 6) + 1)) (fun g3 => (some ((g2 2 6), g3)))) else none)) else none)
  else
    (some ((-1), g)))
theorem e_net_addChannel {X : Xx} {d : Nat} (hd : 1 ≤ d) (v1 : Int32) (v2 : Int32) (g : Sg) : ∀ r, net_addChannel v1 v2 g = some r → EvM zft mtl X d 28 [.ref 2, .int v1, .int v2] (SHF, g) ((fun r : Int32 × Sg => ((some (.int r.1), (SHF, r.2)) : Out)) r) := by
  obtain ⟨d, rfl⟩ : ∃ d0, d = d0 + 1 := ⟨d - 1, by omega⟩
  have hd : 0 ≤ d := by omega
  refine E_in (f := (fun r : Int32 × Sg => ((some (.int r.1), (SHF, r.2)) : Out))) rfl (Nat.le_of_ble_eq_true rfl) ?_
  unfold net_addChannel
  change Lt X d (some .int) k_28 _ 0 [some (.ref 2), some (.int v1), some (.int v2)] [] g _
  refine L_s (pc' := 1) rfl rfl ?_
  refine L_gf (pc' := 4) rfl fi_2_6 rfl ?_
  refine L_bi (pc' := 6) rfl q2_14 rfl ?_
  refine L_br (t := 11) (n := 9) rfl rfl (fun _ => ?_) (fun _ => ?_)
  · refine L_s (pc' := 12) rfl rfl ?_
    refine L_gf (pc' := 15) rfl fr_2_7 rfl ?_
    refine L_s (pc' := 16) rfl rfl ?_
    refine L_gf (pc' := 19) rfl fi_2_6 rfl ?_
    refine L_s (pc' := 20) rfl rfl ?_
    refine L_wI (pc' := 21) rfl sh_9 (by decide) rfl ?_
    refine L_let fun g1 _ => ?_
    refine L_s (pc' := 22) rfl rfl ?_
    refine L_gf (pc' := 25) rfl fr_2_8 rfl ?_
    refine L_s (pc' := 26) rfl rfl ?_
    refine L_gf (pc' := 29) rfl fi_2_6 rfl ?_
    refine L_s (pc' := 30) rfl rfl ?_
    refine L_wI (pc' := 31) rfl sh_10 (by decide) rfl ?_
    refine L_let fun g2 _ => ?_
    refine L_s (pc' := 32) rfl rfl ?_
    refine L_s (pc' := 33) rfl rfl ?_
    refine L_gf (pc' := 36) rfl fi_2_6 rfl ?_
    refine L_s (pc' := 37) rfl rfl ?_
    refine L_ic (pc' := 38) rfl q1_1 rfl ?_
    refine L_s (pc' := 39) rfl rfl ?_
    refine L_pf (pc' := 42) rfl sh_2 (by decide) rfl rfl ?_
    refine L_let fun g3 _ => ?_
    exact L_ret rfl ret_i rfl
  · refine L_ic (pc' := 10) rfl q1_m1 rfl ?_
    exact L_ret rfl ret_i rfl
def net_hasChannel (v1 : Int32) (g : Sg) : Option (Int32) :=
  (if v1 < 0 then
    (some 0)
  else
    (if (g 2 6) ≤ v1 then
      (some 0)
    else
      (if 14 ≤ v1 then
        (some 0)
      else
        (some 1))))
theorem e_net_hasChannel {X : Xx} {d : Nat} (hd : 1 ≤ d) (v1 : Int32) (g : Sg) : ∀ r, net_hasChannel v1 g = some r → EvM zft mtl X d 24 [.ref 2, .int v1] (SHF, g) ((fun r : Int32 => ((some (.int r), (SHF, g)) : Out)) r) := by
  obtain ⟨d, rfl⟩ : ∃ d0, d = d0 + 1 := ⟨d - 1, by omega⟩
  have hd : 0 ≤ d := by omega
  refine E_in (f := (fun r : Int32 => ((some (.int r), (SHF, g)) : Out))) rfl (Nat.le_of_ble_eq_true rfl) ?_
  unfold net_hasChannel
  change Lt X d (some .boolean) k_24 _ 0 [some (.ref 2), some (.int v1)] [] g _
  refine L_s (pc' := 1) rfl rfl ?_
  refine L_br (t := 22) (n := 4) rfl rfl (fun _ => ?_) (fun _ => ?_)
  · refine L_ic (pc' := 23) rfl q1_0 rfl ?_
    exact L_ret rfl (ret_z (by decide)) rfl
  · refine L_s (pc' := 5) rfl rfl ?_
    refine L_s (pc' := 6) rfl rfl ?_
    refine L_gf (pc' := 9) rfl fi_2_6 rfl ?_
    refine L_br (t := 22) (n := 12) rfl rfl (fun _ => ?_) (fun _ => ?_)
    · refine L_ic (pc' := 23) rfl q1_0 rfl ?_
      exact L_ret rfl (ret_z (by decide)) rfl
    · refine L_s (pc' := 13) rfl rfl ?_
      refine L_bi (pc' := 15) rfl q2_14 rfl ?_
      refine L_br (t := 22) (n := 18) rfl rfl (fun _ => ?_) (fun _ => ?_)
      · refine L_ic (pc' := 23) rfl q1_0 rfl ?_
        exact L_ret rfl (ret_z (by decide)) rfl
      · refine L_ic (pc' := 19) rfl q1_1 rfl ?_
        refine L_s (pc' := 23) rfl rfl ?_
        exact L_ret rfl (ret_z (by decide)) rfl
def x_channel (v1 : Int32) (v2 : Int32) (v3 : Int32) (v4 : Int32) (v5 : Int32) (v6 : Int32) (g : Sg) : Option (Int32 × Sg) :=
  (if 14 ≤ (g 2 6) then
    (some ((-1), g))
  else
    Option.bind (net_hasNode v1 g) (fun x1 => (if x1 = 0 then
      (some ((-1), g))
    else
      Option.bind (net_hasNode v2 g) (fun x2 => (if ¬ x2 = 0 then
        (if v2 ≤ v1 then
          (some ((-1), g))
        else
          Option.bind (net_isField v1 g) (fun x3 => (if x3 = 0 then
            Option.bind (x_within v3 0 500 g) (fun x4 => (if x4 = 0 then
              (some ((-1), g))
            else
              Option.bind (x_within v4 v3 500 g) (fun x5 => (if ¬ x5 = 0 then
                Option.bind (x_within v5 0 8 g) (fun x6 => (if x6 = 0 then
                  (some ((-1), g))
                else
                  Option.bind (x_within v6 1 9999 g) (fun x7 => (if ¬ x7 = 0 then
                    Option.bind (net_addChannel v1 v2 g) (fun (x8, g9) => Option.bind (net_hasChannel x8 g9) (fun x10 => (if x10 = 0 then
                      (some (x8, g9))
                    else
                      (if inb x8 14 = true then lt1 (up2 g9 11 (Int32.toNatClampNeg x8) v3) (fun g11 => (if inb x8 14 = true then lt1 (up2 g11 12 (Int32.toNatClampNeg x8) v4) (fun g12 => (if inb x8 14 = true then lt1 (up2 g12 13 (Int32.toNatClampNeg x8) v5) (fun g13 => (if inb x8 14 = true then lt1 (up2 g13 14 (Int32.toNatClampNeg x8) v6) (fun g14 => (some (x8, g14))) else none)) else none)) else none)) else none))))
                  else
                    (some ((-1), g))))))
              else
                (some ((-1), g))))))
          else
            (some ((-1), g)))))
      else
        (some ((-1), g)))))))
theorem e_x_channel {X : Xx} {d : Nat} (hd : 3 ≤ d) (v1 : Int32) (v2 : Int32) (v3 : Int32) (v4 : Int32) (v5 : Int32) (v6 : Int32) (g : Sg) : ∀ r, x_channel v1 v2 v3 v4 v5 v6 g = some r → EvM zft mtl X d 108 [.ref 0, .int v1, .int v2, .int v3, .int v4, .int v5, .int v6] (SHF, g) ((fun r : Int32 × Sg => ((some (.int r.1), (SHF, r.2)) : Out)) r) := by
  obtain ⟨d, rfl⟩ : ∃ d0, d = d0 + 1 := ⟨d - 1, by omega⟩
  have hd : 2 ≤ d := by omega
  refine E_in (f := (fun r : Int32 × Sg => ((some (.int r.1), (SHF, r.2)) : Out))) rfl (Nat.le_of_ble_eq_true rfl) ?_
  unfold x_channel
  change Lt X d (some .int) k_108 _ 0 [some (.ref 0), some (.int v1), some (.int v2), some (.int v3), some (.int v4), some (.int v5), some (.int v6), none, none] [] g _
  refine L_s (pc' := 1) rfl rfl ?_
  refine L_gf (pc' := 4) rfl fr_0_0 rfl ?_
  refine L_gf (pc' := 7) rfl fr_1_0 rfl ?_
  refine L_s (pc' := 9) (L' := [some (.ref 0), some (.int v1), some (.int v2), some (.int v3), some (.int v4), some (.int v5), some (.int v6), some (.ref 2), none]) rfl rfl ?_
  refine L_s (pc' := 11) rfl rfl ?_
  refine L_gf (pc' := 14) rfl fi_2_6 rfl ?_
  refine L_bi (pc' := 16) rfl q2_14 rfl ?_
  refine L_br (t := 37) (n := 19) rfl rfl (fun _ => ?_) (fun _ => ?_)
  · refine L_ic (pc' := 38) rfl q1_m1 rfl ?_
    exact L_ret rfl ret_i rfl
  · refine L_s (pc' := 21) rfl rfl ?_
    refine L_s (pc' := 22) rfl rfl ?_
    refine L_ci (pc' := 25) (as := [.ref 2, .int v1]) (rest := []) rfl rfl (e_net_hasNode (by omega) _ _) rfl fun x1 => ?_
    refine L_br (t := 37) (n := 28) rfl rfl (fun _ => ?_) (fun _ => ?_)
    · refine L_ic (pc' := 38) rfl q1_m1 rfl ?_
      exact L_ret rfl ret_i rfl
    · refine L_s (pc' := 30) rfl rfl ?_
      refine L_s (pc' := 31) rfl rfl ?_
      refine L_ci (pc' := 34) (as := [.ref 2, .int v2]) (rest := []) rfl rfl (e_net_hasNode (by omega) _ _) rfl fun x2 => ?_
      refine L_br (t := 39) (n := 37) rfl rfl (fun _ => ?_) (fun _ => ?_)
      · refine L_s (pc' := 40) rfl rfl ?_
        refine L_s (pc' := 41) rfl rfl ?_
        refine L_br (t := 53) (n := 44) rfl rfl (fun _ => ?_) (fun _ => ?_)
        · refine L_ic (pc' := 54) rfl q1_m1 rfl ?_
          exact L_ret rfl ret_i rfl
        · refine L_s (pc' := 46) rfl rfl ?_
          refine L_s (pc' := 47) rfl rfl ?_
          refine L_ci (pc' := 50) (as := [.ref 2, .int v1]) (rest := []) rfl rfl (e_net_isField (by omega) _ _) rfl fun x3 => ?_
          refine L_br (t := 55) (n := 53) rfl rfl (fun _ => ?_) (fun _ => ?_)
          · refine L_s (pc' := 56) rfl rfl ?_
            refine L_ic (pc' := 57) rfl q1_0 rfl ?_
            refine L_si (pc' := 60) rfl q3_500 rfl ?_
            refine L_ci (pc' := 63) (as := [.int v3, .int 0, .int 500]) (rest := []) rfl rfl (e_x_within (by omega) _ _ _ _) rfl fun x4 => ?_
            refine L_br (t := 78) (n := 66) rfl rfl (fun _ => ?_) (fun _ => ?_)
            · refine L_ic (pc' := 79) rfl q1_m1 rfl ?_
              exact L_ret rfl ret_i rfl
            · refine L_s (pc' := 68) rfl rfl ?_
              refine L_s (pc' := 69) rfl rfl ?_
              refine L_si (pc' := 72) rfl q3_500 rfl ?_
              refine L_ci (pc' := 75) (as := [.int v4, .int v3, .int 500]) (rest := []) rfl rfl (e_x_within (by omega) _ _ _ _) rfl fun x5 => ?_
              refine L_br (t := 80) (n := 78) rfl rfl (fun _ => ?_) (fun _ => ?_)
              · refine L_s (pc' := 82) rfl rfl ?_
                refine L_ic (pc' := 83) rfl q1_0 rfl ?_
                refine L_bi (pc' := 85) rfl q2_8 rfl ?_
                refine L_ci (pc' := 88) (as := [.int v5, .int 0, .int 8]) (rest := []) rfl rfl (e_x_within (by omega) _ _ _ _) rfl fun x6 => ?_
                refine L_br (t := 103) (n := 91) rfl rfl (fun _ => ?_) (fun _ => ?_)
                · refine L_ic (pc' := 104) rfl q1_m1 rfl ?_
                  exact L_ret rfl ret_i rfl
                · refine L_s (pc' := 93) rfl rfl ?_
                  refine L_ic (pc' := 94) rfl q1_1 rfl ?_
                  refine L_si (pc' := 97) rfl q3_9999 rfl ?_
                  refine L_ci (pc' := 100) (as := [.int v6, .int 1, .int 9999]) (rest := []) rfl rfl (e_x_within (by omega) _ _ _ _) rfl fun x7 => ?_
                  refine L_br (t := 105) (n := 103) rfl rfl (fun _ => ?_) (fun _ => ?_)
                  · refine L_s (pc' := 107) rfl rfl ?_
                    refine L_s (pc' := 108) rfl rfl ?_
                    refine L_s (pc' := 109) rfl rfl ?_
                    refine L_cig (pc' := 112) (as := [.ref 2, .int v1, .int v2]) (rest := []) rfl rfl (e_net_addChannel (by omega) _ _ _) rfl fun x8 g9 => ?_
                    refine L_s (pc' := 114) (L' := [some (.ref 0), some (.int v1), some (.int v2), some (.int v3), some (.int v4), some (.int v5), some (.int v6), some (.ref 2), some (.int x8)]) rfl rfl ?_
                    refine L_s (pc' := 116) rfl rfl ?_
                    refine L_s (pc' := 118) rfl rfl ?_
                    refine L_ci (pc' := 121) (as := [.ref 2, .int x8]) (rest := []) rfl rfl (e_net_hasChannel (by omega) _ _) rfl fun x10 => ?_
                    refine L_br (t := 163) (n := 124) rfl rfl (fun _ => ?_) (fun _ => ?_)
                    · refine L_s (pc' := 165) rfl rfl ?_
                      exact L_ret rfl ret_i rfl
                    · refine L_s (pc' := 126) rfl rfl ?_
                      refine L_gf (pc' := 129) rfl fr_2_9 rfl ?_
                      refine L_s (pc' := 131) rfl rfl ?_
                      refine L_s (pc' := 132) rfl rfl ?_
                      refine L_wI (pc' := 133) rfl sh_11 (by decide) rfl ?_
                      refine L_let fun g11 _ => ?_
                      refine L_s (pc' := 135) rfl rfl ?_
                      refine L_gf (pc' := 138) rfl fr_2_10 rfl ?_
                      refine L_s (pc' := 140) rfl rfl ?_
                      refine L_s (pc' := 142) rfl rfl ?_
                      refine L_wI (pc' := 143) rfl sh_12 (by decide) rfl ?_
                      refine L_let fun g12 _ => ?_
                      refine L_s (pc' := 145) rfl rfl ?_
                      refine L_gf (pc' := 148) rfl fr_2_11 rfl ?_
                      refine L_s (pc' := 150) rfl rfl ?_
                      refine L_s (pc' := 152) rfl rfl ?_
                      refine L_wI (pc' := 153) rfl sh_13 (by decide) rfl ?_
                      refine L_let fun g13 _ => ?_
                      refine L_s (pc' := 155) rfl rfl ?_
                      refine L_gf (pc' := 158) rfl fr_2_12 rfl ?_
                      refine L_s (pc' := 160) rfl rfl ?_
                      refine L_s (pc' := 162) rfl rfl ?_
                      refine L_wI (pc' := 163) rfl sh_14 (by decide) rfl ?_
                      refine L_let fun g14 _ => ?_
                      refine L_s (pc' := 165) rfl rfl ?_
                      exact L_ret rfl ret_i rfl
                  · refine L_ic (pc' := 104) rfl q1_m1 rfl ?_
                    exact L_ret rfl ret_i rfl
              · refine L_ic (pc' := 79) rfl q1_m1 rfl ?_
                exact L_ret rfl ret_i rfl
          · refine L_ic (pc' := 54) rfl q1_m1 rfl ?_
            exact L_ret rfl ret_i rfl
      · refine L_ic (pc' := 38) rfl q1_m1 rfl ?_
        exact L_ret rfl ret_i rfl
def x_size_55 (v1 : Int32) (v2 : Int32) (g : Sg) : Option (Int32 × Sg) :=
  (if inb v1 10 = true then lt1 (up2 g 4 (Int32.toNatClampNeg v1) v2) (fun g1 => (some (1, g1))) else none)
def x_size (v1 : Int32) (v2 : Int32) (g : Sg) : Option (Int32 × Sg) :=
  Option.bind (net_hasNode v1 g) (fun x1 => (if x1 = 0 then
    (some (0, g))
  else
    (if inb v1 10 = true then Option.bind (net_fits (g 3 (Int32.toNatClampNeg v1)) v2 g) (fun x2 => (if ¬ x2 = 0 then
      (if inb v1 10 = true then (if ¬ (g 3 (Int32.toNatClampNeg v1)) = 2 then
        (x_size_55 v1 v2 g)
      else
        (if inb v1 10 = true then (if (g 8 (Int32.toNatClampNeg v1)) ≤ v2 then
          (x_size_55 v1 v2 g)
        else
          (some (0, g))) else none)) else none)
    else
      (some (0, g)))) else none)))
theorem p_x_size_55 {X : Xx} {d : Nat} (hd : 2 ≤ d) (v1 : Int32) (v2 : Int32) (g : Sg) : Lt X d (some .boolean) k_109 (fun r : Int32 × Sg => ((some (.int r.1), (SHF, r.2)) : Out)) 55 [none, some (.int v1), some (.int v2), some (.ref 2)] [] g (x_size_55 v1 v2 g) := by
  unfold x_size_55
  refine L_s (pc' := 56) rfl rfl ?_
  refine L_gf (pc' := 59) rfl fr_2_3 rfl ?_
  refine L_s (pc' := 60) rfl rfl ?_
  refine L_s (pc' := 61) rfl rfl ?_
  refine L_wI (pc' := 62) rfl sh_4 (by decide) rfl ?_
  refine L_let fun g1 _ => ?_
  refine L_ic (pc' := 63) rfl q1_1 rfl ?_
  exact L_ret rfl (ret_z (by decide)) rfl
theorem e_x_size {X : Xx} {d : Nat} (hd : 3 ≤ d) (v1 : Int32) (v2 : Int32) (g : Sg) : ∀ r, x_size v1 v2 g = some r → EvM zft mtl X d 109 [.ref 0, .int v1, .int v2] (SHF, g) ((fun r : Int32 × Sg => ((some (.int r.1), (SHF, r.2)) : Out)) r) := by
  obtain ⟨d, rfl⟩ : ∃ d0, d = d0 + 1 := ⟨d - 1, by omega⟩
  have hd : 2 ≤ d := by omega
  refine E_in (f := (fun r : Int32 × Sg => ((some (.int r.1), (SHF, r.2)) : Out))) rfl (Nat.le_of_ble_eq_true rfl) ?_
  unfold x_size
  change Lt X d (some .boolean) k_109 _ 0 [some (.ref 0), some (.int v1), some (.int v2), none] [] g _
  refine L_s (pc' := 1) rfl rfl ?_
  refine L_gf (pc' := 4) rfl fr_0_0 rfl ?_
  refine L_gf (pc' := 7) rfl fr_1_0 rfl ?_
  refine L_s (pc' := 8) (L' := [some (.ref 0), some (.int v1), some (.int v2), some (.ref 2)]) rfl rfl ?_
  refine L_s (pc' := 9) rfl rfl ?_
  refine L_s (pc' := 10) rfl rfl ?_
  refine L_ci (pc' := 13) (as := [.ref 2, .int v1]) (rest := []) rfl rfl (e_net_hasNode (by omega) _ _) rfl fun x1 => ?_
  refine L_br (t := 29) (n := 16) rfl rfl (fun _ => ?_) (fun _ => ?_)
  · refine L_ic (pc' := 30) rfl q1_0 rfl ?_
    exact L_ret rfl (ret_z (by decide)) rfl
  · refine L_s (pc' := 17) rfl rfl ?_
    refine L_gf (pc' := 20) rfl fr_2_2 rfl ?_
    refine L_s (pc' := 21) rfl rfl ?_
    refine L_rI (pc' := 22) rfl sh_3 (by decide) rfl ?_
    refine L_s (pc' := 23) rfl rfl ?_
    refine L_ci (pc' := 26) (as := [.int (g 3 (Int32.toNatClampNeg v1)), .int v2]) (rest := []) rfl rfl (e_net_fits (by omega) _ _ _) rfl fun x2 => ?_
    refine L_br (t := 31) (n := 29) rfl rfl (fun _ => ?_) (fun _ => ?_)
    · refine L_s (pc' := 32) rfl rfl ?_
      refine L_gf (pc' := 35) rfl fr_2_2 rfl ?_
      refine L_s (pc' := 36) rfl rfl ?_
      refine L_rI (pc' := 37) rfl sh_3 (by decide) rfl ?_
      refine L_ic (pc' := 38) rfl q1_2 rfl ?_
      refine L_br (t := 55) (n := 41) rfl rfl (fun _ => ?_) (fun _ => ?_)
      · refine L_wk (L' := [none, some (.int v1), some (.int v2), some (.ref 2)]) (wk_n (wk_s (wk_s (wk_s wk_nil)))) ?_
        exact p_x_size_55 hd _ _ _
      · refine L_s (pc' := 42) rfl rfl ?_
        refine L_s (pc' := 43) rfl rfl ?_
        refine L_gf (pc' := 46) rfl fr_2_5 rfl ?_
        refine L_ic (pc' := 47) rfl q1_1 rfl ?_
        refine L_aa (pc' := 48) rfl sh_6 (by decide) (by decide) rfl rfl ?_
        refine L_s (pc' := 49) rfl rfl ?_
        refine L_rI (pc' := 50) rfl sh_8 (by decide) rfl ?_
        refine L_br (t := 55) (n := 53) rfl rfl (fun _ => ?_) (fun _ => ?_)
        · refine L_wk (L' := [none, some (.int v1), some (.int v2), some (.ref 2)]) (wk_n (wk_s (wk_s (wk_s wk_nil)))) ?_
          exact p_x_size_55 hd _ _ _
        · refine L_ic (pc' := 54) rfl q1_0 rfl ?_
          exact L_ret rfl (ret_z (by decide)) rfl
    · refine L_ic (pc' := 30) rfl q1_0 rfl ?_
      exact L_ret rfl (ret_z (by decide)) rfl
def net_underWay_k0_5 : Nat → Int32 → Int32 → Int32 → Sg → Option (Int32)
  | 0, _, _, _, _ => none
  | n + 1, v2, v3, v4, g =>
    (if 9 ≤ v4 then
      (some v3)
    else
      (if inb ((v2 * 9) + v4) 126 = true then lt1 ((v3 + (g 17 (Int32.toNatClampNeg ((v2 * 9) + v4)))) : Int32) (fun x1 => (net_underWay_k0_5 n v2 x1 (v4 + 1) g)) else none))
def net_underWay_k0 (F : Nat) (v2 : Int32) (g : Sg) : Option (Int32) :=
  (net_underWay_k0_5 F v2 0 0 g)
theorem p_net_underWay_k0_5 {X : Xx} {d : Nat} {g : Sg} (hd : 0 ≤ d) : ∀ (n : Nat) (v2 : Int32) (v3 : Int32) (v4 : Int32), Lt X d (some .int) k_29 (fun r : Int32 => ((some (.int r), (SHF, g)) : Out)) 5 [some (.ref 2), some (.int 0), some (.int v2), some (.int v3), some (.int v4)] [] g (net_underWay_k0_5 n v2 v3 v4 g) := by
  intro n
  induction n with
  | zero => intros; exact L_none
  | succ n ih =>
    intro v2 v3 v4
    show Lt X d (some .int) k_29 (fun r : Int32 => ((some (.int r), (SHF, g)) : Out)) 5 [some (.ref 2), some (.int 0), some (.int v2), some (.int v3), some (.int v4)] [] g (
      (if 9 ≤ v4 then
        (some v3)
      else
        (if inb ((v2 * 9) + v4) 126 = true then lt1 ((v3 + (g 17 (Int32.toNatClampNeg ((v2 * 9) + v4)))) : Int32) (fun x1 => (net_underWay_k0_5 n v2 x1 (v4 + 1) g)) else none)))
    refine L_s (pc' := 7) rfl rfl ?_
    refine L_bi (pc' := 9) rfl q2_9 rfl ?_
    refine L_br (t := 35) (n := 12) rfl rfl (fun _ => ?_) (fun _ => ?_)
    · refine L_s (pc' := 36) rfl rfl ?_
      exact L_ret rfl ret_i rfl
    · refine L_s (pc' := 13) rfl rfl ?_
      refine L_s (pc' := 14) rfl rfl ?_
      refine L_gf (pc' := 17) rfl fr_2_14 rfl ?_
      refine L_s (pc' := 18) rfl rfl ?_
      refine L_aa (pc' := 19) rfl sh_16 (by decide) (by decide) rfl rfl ?_
      refine L_s (pc' := 20) rfl rfl ?_
      refine L_bi (pc' := 22) rfl q2_9 rfl ?_
      refine L_s (pc' := 23) rfl rfl ?_
      refine L_s (pc' := 25) rfl rfl ?_
      refine L_s (pc' := 26) rfl rfl ?_
      refine L_rI (pc' := 27) rfl sh_17 (by decide) rfl ?_
      refine L_s (pc' := 28) rfl rfl ?_
      refine L_li fun x1 _ => ?_
      refine L_s (pc' := 29) (L' := [some (.ref 2), some (.int 0), some (.int v2), some (.int x1), some (.int v4)]) rfl rfl ?_
      refine L_ii (pc' := 32) (L' := [some (.ref 2), some (.int 0), some (.int v2), some (.int x1), some (.int (v4 + 1))]) rfl rfl q1_1 rfl rfl rfl ?_
      refine L_s (pc' := 5) rfl rfl ?_
      exact ih _ _ _
theorem e_net_underWay_k0 {X : Xx} {d : Nat} (hd : 1 ≤ d) (F : Nat) (v2 : Int32) (g : Sg) : ∀ r, net_underWay_k0 F v2 g = some r → EvM zft mtl X d 29 [.ref 2, .int 0, .int v2] (SHF, g) ((fun r : Int32 => ((some (.int r), (SHF, g)) : Out)) r) := by
  obtain ⟨d, rfl⟩ : ∃ d0, d = d0 + 1 := ⟨d - 1, by omega⟩
  have hd : 0 ≤ d := by omega
  refine E_in (f := (fun r : Int32 => ((some (.int r), (SHF, g)) : Out))) rfl (Nat.le_of_ble_eq_true rfl) ?_
  unfold net_underWay_k0
  change Lt X d (some .int) k_29 _ 0 [some (.ref 2), some (.int 0), some (.int v2), none, none] [] g _
  refine L_ic (pc' := 1) rfl q1_0 rfl ?_
  refine L_s (pc' := 2) (L' := [some (.ref 2), some (.int 0), some (.int v2), some (.int 0), none]) rfl rfl ?_
  refine L_ic (pc' := 3) rfl q1_0 rfl ?_
  refine L_s (pc' := 5) (L' := [some (.ref 2), some (.int 0), some (.int v2), some (.int 0), some (.int 0)]) rfl rfl ?_
  exact p_net_underWay_k0_5 hd F _ _ _
